/-! ===== pure rows: calls as texts ===== -/
def RB (cd : Nat → Int32) (ln : Int32) (bf : Nat → Int32) (ty : Int32) : Prop := ∃ L, L ≤ 60 ∧ ln = Int32.ofNat L ∧ ty = Int32.ofNat L ∧ ∀ k, k < 60 → bf k = cd k
theorem r_ev {k : Nat} (h : k < 1000) : Int32.ofNat k - Int32.ofNat k / 2 * 2 = Int32.ofNat (k % 2) := by
  have e1 : Int32.ofNat k / 2 = Int32.ofNat (k / 2) := (Int32.ofNat_div (a := k) (b := 2) (by omega) (by omega)).symm
  have e2 : Int32.ofNat (k / 2) * 2 = Int32.ofNat (k / 2 * 2) := by rw [Int32.ofNat_mul]; rfl
  rw [e1, e2, ← Int32.ofNat_sub k (k / 2 * 2) (by omega)]
  congr 1
  omega
def r_fit (cd : Nat → Int32) (k : Nat) : Prop := if k % 2 = 0 then fX0_isKind (cd k) = some 1 else fX0_isNumberOf (cd (k - 1)) (cd k) = some 1
theorem r_ik (c : Int32) : ∃ v, fX0_isKind c = some v ∧ (v = 0 ∨ v = 1) ∧ (if c = 97 then some 1 else if c = 103 then some 1 else if c = 115 then some 1 else if c = 118 then some 1 else if c = 99 then some 1 else if c = 43 then some (1 : Int32) else some 0) = some v := by
  unfold fX0_isKind
  repeat' split
  all_goals first | exact ⟨1, rfl, Or.inr rfl, rfl⟩ | exact ⟨0, rfl, Or.inl rfl, rfl⟩
theorem r_inn (c : Int32) (a b : Int32) : ∃ v, fX4_in c a b = some v ∧ (v = 0 ∨ v = 1) ∧ (if c < a then some 0 else if b < c then some (0 : Int32) else some 1) = some v := by
  unfold fX4_in
  repeat' split
  all_goals first | exact ⟨1, rfl, Or.inr rfl, rfl⟩ | exact ⟨0, rfl, Or.inl rfl, rfl⟩
theorem r_pqb {v : Int32} (h : v = 0 ∨ v = 1) : pq_bool v = true := by
  rcases h with h | h <;> subst h <;> rfl
theorem r_st {cd bf : Nat → Int32} (hb : ∀ k, k < 60 → bf k = cd k) {k : Nat} (hk : k < 60) : ∃ v, fX4_stands (Int32.ofNat k) bf = some v ∧ (v = 0 ∨ v = 1) ∧ (if Int32.ofNat (k % 2) = 0 then fX0_isKind (cd k) else fX0_isNumberOf (cd (k - 1)) (cd k)) = some v := by
  unfold fX4_stands
  rw [if_pos (r_in hk (by decide)), r_ev (by omega), r_nc (by omega), hb k hk]
  by_cases h : k % 2 = 0
  · rw [h, if_pos (show Int32.ofNat 0 = 0 from rfl), if_pos (show Int32.ofNat 0 = 0 from rfl)]
    obtain ⟨v, e1, e2, e3⟩ := r_ik (cd k)
    exact ⟨v, e3, e2, e1⟩
  · have h1 : k % 2 = 1 := by omega
    have d : Int32.ofNat k - 1 = Int32.ofNat (k - 1) := by
      have e : k = (k - 1) + 1 := by omega
      rw [e, r_d]; rfl
    rw [h1, if_neg (show ¬ Int32.ofNat 1 = 0 by decide), if_neg (show ¬ Int32.ofNat 1 = 0 by decide), d, if_pos (r_in (by omega) (by decide)), r_nc (by omega), hb (k - 1) (by omega)]
    unfold fX0_isNumberOf
    by_cases hc : cd (k - 1) = 43
    · obtain ⟨v, e1, e2, e3⟩ := r_inn (cd k) 49 57
      rw [if_pos hc, if_pos hc, e1, r_bs, if_pos (r_pqb e2)]
      exact ⟨v, rfl, e2, e3⟩
    · obtain ⟨v, e1, e2, e3⟩ := r_inn (cd k) 48 55
      rw [if_neg hc, if_neg hc, e1, r_bs, if_pos (r_pqb e2)]
      exact ⟨v, rfl, e2, e3⟩
theorem r_mfl {cd bf : Nat → Int32} {L : Nat} (hL : L ≤ 60) (hb : ∀ k, k < 60 → bf k = cd k) : ∀ j k n, k + j = L → j < n → (∀ i, i < k → r_fit cd i) → ∃ m, fX0_firstMisfit_L2 cd (Int32.ofNat L) n (Int32.ofNat k) = some (Int32.ofNat m) ∧ fX4_readBuffer_L2 bf (Int32.ofNat L) n (Int32.ofNat k) = some (Int32.ofNat m) ∧ m ≤ L ∧ (m = L → ∀ i, i < L → r_fit cd i)
  | 0, k, n + 1, h, _, hk => by
    have e : Int32.ofNat L ≤ Int32.ofNat k := (r_le (by omega) (by omega)).mpr (by omega)
    rw [fX0_firstMisfit_L2, fX4_readBuffer_L2, if_pos e, if_pos e]
    exact ⟨L, rfl, rfl, Nat.le_refl _, fun _ i hi => hk i (by omega)⟩
  | j + 1, k, n + 1, h, hn, hk => by
    have e : ¬ Int32.ofNat L ≤ Int32.ofNat k := fun c => by have := (r_le (by omega) (by omega)).mp c; omega
    have k60 : k < 60 := by omega
    obtain ⟨v, e1, e2, e3⟩ := r_st hb k60
    rw [fX0_firstMisfit_L2, fX4_readBuffer_L2, if_neg e, if_neg e, e1, r_bs, r_ev (by omega), r_nc (by omega), r_s]
    have nxt : v = 1 → ∃ m, fX0_firstMisfit_L2 cd (Int32.ofNat L) n (Int32.ofNat (k + 1)) = some (Int32.ofNat m) ∧ fX4_readBuffer_L2 bf (Int32.ofNat L) n (Int32.ofNat (k + 1)) = some (Int32.ofNat m) ∧ m ≤ L ∧ (m = L → ∀ i, i < L → r_fit cd i) := by
      intro hv
      refine r_mfl hL hb j (k + 1) n (by omega) (by omega) (fun i hi => ?_)
      by_cases hik : i = k
      · rw [hik]
        unfold r_fit
        by_cases h2 : k % 2 = 0
        · rw [if_pos h2]
          rw [h2, if_pos (show Int32.ofNat 0 = 0 from rfl)] at e3
          rw [e3, hv]
        · have h1 : k % 2 = 1 := by omega
          rw [if_neg h2]
          rw [h1, if_neg (show ¬ Int32.ofNat 1 = 0 by decide)] at e3
          rw [e3, hv]
      · exact hk i (by omega)
    by_cases h2 : k % 2 = 0
    · rw [h2, if_pos (show Int32.ofNat 0 = 0 from rfl)] at e3
      rw [h2, if_pos (show Int32.ofNat 0 = 0 from rfl), if_pos (r_in k60 (by decide)), e3, r_bs]
      rcases e2 with hv | hv
      · rw [if_pos hv, if_pos hv]
        exact ⟨k, rfl, rfl, by omega, fun c => by omega⟩
      · have nv : ¬ v = 0 := by rw [hv]; exact r_10
        rw [if_neg nv, if_neg nv]
        exact nxt hv
    · have h1 : k % 2 = 1 := by omega
      have d : Int32.ofNat k - 1 = Int32.ofNat (k - 1) := by
        have e : k = (k - 1) + 1 := by omega
        rw [e, r_d]; rfl
      rw [h1, if_neg (show ¬ Int32.ofNat 1 = 0 by decide)] at e3
      rw [h1, if_neg (show ¬ Int32.ofNat 1 = 0 by decide), d, if_pos (r_in (by omega) (by decide)), if_pos (r_in k60 (by decide)), r_nc (by omega), e3, r_bs]
      rcases e2 with hv | hv
      · rw [if_pos hv, if_pos hv]
        exact ⟨k, rfl, rfl, by omega, fun c => by omega⟩
      · have nv : ¬ v = 0 := by rw [hv]; exact r_10
        rw [if_neg nv, if_neg nv]
        exact nxt hv
theorem r_mf {cd bf : Nat → Int32} {L : Nat} (hL : L ≤ 60) (hb : ∀ k, k < 60 → bf k = cd k) : ∃ m, fX0_firstMisfit cd (Int32.ofNat L) = some (Int32.ofNat m) ∧ fX4_readBuffer bf (Int32.ofNat L) = some (Int32.ofNat m) ∧ m ≤ L ∧ (m = L → ∀ i, i < L → r_fit cd i) :=
  r_mfl hL hb L 0 1000 (by omega) (by omega) (fun i hi => absurd hi (Nat.not_lt_zero _))
/-! one call of a text -/
theorem r_cpu {u : Nat → Nat → Int32} {z : Nat → Int32} {Q : List Nat} {t m : Nat} (R : RI u z) (q : RQ u z Q t) (ht : t ≤ 9999) (hm : m < 100000) : fX2_canPassUnits (Int32.ofNat m) u = some (if t + m ≤ 9999 then 1 else 0) ∧ (z 9 + Int32.ofNat m ≤ 9999 ↔ t + m ≤ 9999) := by
  have e1 : (9999 : Int32) - Int32.ofNat t = Int32.ofNat (9999 - t) := (Int32.ofNat_sub 9999 t ht).symm
  unfold fX2_canPassUnits
  rw [R.tm, q.tm, e1, r_a]
  constructor
  · by_cases h : t + m ≤ 9999
    · rw [if_pos h, if_neg (fun c => by have := (r_lt (by omega) (by omega)).mp c; omega)]
    · rw [if_neg h, if_pos ((r_lt (by omega) (by omega)).mpr (by omega))]
  · exact r_le (b := 9999) (by omega) (by omega)
theorem r_fk {c : Int32} (h : fX0_isKind c = some 1) : c = 97 ∨ c = 103 ∨ c = 115 ∨ c = 118 ∨ c = 99 ∨ c = 43 := by
  unfold fX0_isKind at h
  by_cases h1 : c = 97
  · exact Or.inl h1
  · by_cases h2 : c = 103
    · exact Or.inr (Or.inl h2)
    · by_cases h3 : c = 115
      · exact Or.inr (Or.inr (Or.inl h3))
      · by_cases h4 : c = 118
        · exact Or.inr (Or.inr (Or.inr (Or.inl h4)))
        · by_cases h5 : c = 99
          · exact Or.inr (Or.inr (Or.inr (Or.inr (Or.inl h5))))
          · by_cases h6 : c = 43
            · exact Or.inr (Or.inr (Or.inr (Or.inr (Or.inr h6))))
            · rw [if_neg h1, if_neg h2, if_neg h3, if_neg h4, if_neg h5, if_neg h6] at h
              exact absurd (Option.some.inj h) (by decide)
theorem r_sub48 {x : Int32} {a b : Nat} (ha : 48 ≤ a) (ha2 : a < 2000000000) (hb : b < 1000) (h1 : ¬ x < Int32.ofNat a) (h2 : ¬ Int32.ofNat b < x) : ∃ d, d + 48 ≤ b ∧ x - 48 = Int32.ofNat d := by
  by_cases hab : a ≤ b
  · obtain ⟨k, k1, k2, e⟩ := r_rng (x := x) (a := a) (b := b) (by omega) (by omega) ⟨by rw [Int32.lt_iff_toInt_lt] at h1; rw [Int32.le_iff_toInt_le]; omega, by rw [Int32.lt_iff_toInt_lt] at h2; rw [Int32.le_iff_toInt_le]; omega⟩
    refine ⟨k - 48, by omega, ?_⟩
    rw [e]
    exact (Int32.ofNat_sub k 48 (by omega)).symm
  · have eb : ((Int32.ofNat b).toInt : Int) = b := r_ti (by omega)
    by_cases hbig : a < 2000000000
    · rw [Int32.lt_iff_toInt_lt, r_ti hbig] at h1
      rw [Int32.lt_iff_toInt_lt, eb] at h2
      omega
    · exact absurd ha2 hbig
theorem r_num {c x : Int32} (h : fX0_isNumberOf c x = some 1) : ∃ d, x - 48 = Int32.ofNat d ∧ d < 10 ∧ (c ≠ 43 → d < 8) := by
  unfold fX0_isNumberOf at h
  by_cases hc : c = 43
  · rw [if_pos hc] at h
    by_cases h1 : x < 49
    · rw [if_pos h1] at h; exact absurd (Option.some.inj h) (by decide)
    · by_cases h2 : 57 < x
      · rw [if_neg h1, if_pos h2] at h; exact absurd (Option.some.inj h) (by decide)
      · obtain ⟨d, d1, d2⟩ := r_sub48 (a := 49) (b := 57) (by decide) (by decide) (by decide) h1 h2
        exact ⟨d, d2, by omega, fun e => absurd hc e⟩
  · rw [if_neg hc] at h
    by_cases h1 : x < 48
    · rw [if_pos h1] at h; exact absurd (Option.some.inj h) (by decide)
    · by_cases h2 : 55 < x
      · rw [if_neg h1, if_pos h2] at h; exact absurd (Option.some.inj h) (by decide)
      · obtain ⟨d, d1, d2⟩ := r_sub48 (a := 48) (b := 55) (by decide) (by decide) (by decide) h1 h2
        exact ⟨d, d2, by omega, fun _ => by omega⟩
theorem r_turn {u : Nat → Nat → Int32} {z : Nat → Int32} {o : Nat} (Y : RS u z) (gn : Nat → Int32) (ho : o < 8) (v : Int32) (hv : v = 0 ∨ v = 1) : ∃ a b, fX2_isThere (Int32.ofNat o) u = some a ∧ fX4_isThere (Int32.ofNat o) z = some a ∧ (a = 0 ∨ a = 1) ∧ (a ≠ v → ∃ u' z' gn', fX2_turnUp (Int32.ofNat o) v u = some u' ∧ fX2_lentCount (Int32.ofNat o) u' = some b ∧ fX4_appearIt (Int32.ofNat o) v z gn = some (b, z', gn') ∧ RS u' z') := by
  obtain ⟨Q, t, ht, R, q, y⟩ := Y
  unfold fX2_isThere
  rw [if_pos (r_in ho (by decide)), r_nc (by omega), r_isT ho, R.o0 o ho]
  rcases hv with hv | hv
  · subst hv
    obtain ⟨g, u', z', gn', P, a1, a2, a3, a4, a5, a6⟩ := r_vanish R q gn ho
    by_cases h8 : u 8 o = 0
    · rw [if_pos h8, if_pos h8, if_pos rfl]
      exact ⟨1, g, rfl, rfl, Or.inr rfl, fun _ => ⟨u', z', gn', a1, a2, a3, P, t, ht, a4, a5, a6⟩⟩
    · rw [if_neg h8, if_neg h8, if_neg r_01]
      exact ⟨0, g, rfl, rfl, Or.inl rfl, fun c => absurd rfl c⟩
  · subst hv
    by_cases h8 : u 8 o = 0
    · rw [if_pos h8, if_pos h8, if_pos rfl]
      exact ⟨1, 0, rfl, rfl, Or.inr rfl, fun c => absurd rfl c⟩
    · rw [if_neg h8, if_neg h8, if_neg r_01]
      obtain ⟨g, u', z', gn', P, a1, a2, a3, a4, a5, a6⟩ := r_comes R q gn ho (fun c => h8 (q.th o c))
      exact ⟨0, g, rfl, rfl, Or.inl rfl, fun _ => ⟨u', z', gn', a1, a2, a3, P, t, ht, a4, a5, a6⟩⟩
theorem r_does {u : Nat → Nat → Int32} {z : Nat → Int32} {c x : Int32} (Y : RS u z) (gn : Nat → Int32) (hk : fX0_isKind c = some 1) (hx : fX0_isNumberOf c x = some 1) : ∃ b u' z' gn', fX3_makeCall c (x - 48) u = some (b, u') ∧ fX4_does c (x - 48) z gn = some (b, z', gn') ∧ RS u' z' := by
  obtain ⟨d, e, d10, d8⟩ := r_num hx
  rw [e]
  have Y' := Y
  obtain ⟨Q, t, ht, R, q, y⟩ := Y'
  unfold fX3_makeCall fX4_does
  rcases r_fk hk with h | h | h | h | h | h
  · subst h
    have h8 : d < 8 := d8 (by decide)
    obtain ⟨r, h1, h2, h3⟩ := r_cr R q h8
    rw [if_pos rfl, if_neg (by decide), if_pos rfl, h1, h2, r_bs, r_bs]
    rcases h3 with ⟨hr, hn, hv⟩ | hr
    · obtain ⟨g, u', z', gn', P, a1, a2, a3, a4, a5, _⟩ := r_ask R q gn h8 hn hv
      rw [hr, if_neg r_10, if_neg r_10, a1, a2]
      exact ⟨1, u', z', gn', rfl, rfl, P, t, ht, a3, a4, a5⟩
    · rw [if_pos hr, if_pos hr]
      exact ⟨0, u, z, gn, rfl, rfl, Y⟩
  · subst h
    have h8 : d < 8 := d8 (by decide)
    obtain ⟨r, h1, h2, h3⟩ := r_ctb R h8
    rw [if_neg (by decide), if_neg (by decide), if_pos rfl, if_neg (by decide), if_neg (by decide), if_pos rfl, h1, h2, r_bs, r_bs]
    by_cases hr : r = 0
    · rw [if_pos hr, if_pos hr]
      exact ⟨0, u, z, gn, rfl, rfl, Y⟩
    · obtain ⟨g, u', z', gn', P, a1, _, a2, a3, a4, a5⟩ := r_give R q gn h8 (h3 hr)
      rw [if_neg hr, if_neg hr, a1, a2]
      exact ⟨1, u', z', gn', rfl, rfl, P, t, ht, a3, a4, a5⟩
  · subst h
    have h8 : d < 8 := d8 (by decide)
    have ie : fX2_isEmpty (Int32.ofNat d) u = if u 2 d = 0 then some 1 else some 0 := by
      unfold fX2_isEmpty
      rw [if_pos (r_in h8 (by decide)), r_nc (by omega)]
    have y15 : (115 : Int32) = 115 := rfl
    rw [if_neg (by decide), if_neg (by decide), if_neg (by decide), if_pos y15, if_neg (by decide), if_neg (by decide), if_neg (by decide), if_pos y15, ie, r_isIn h8, R.p0 d h8]
    by_cases h0 : u 2 d = 0
    · rw [if_pos h0, r_bs, if_neg r_10, r_bs, if_neg r_10]
      exact ⟨0, u, z, gn, rfl, rfl, Y⟩
    · obtain ⟨g, u', z', a1, a2, a3, a4, a5, _⟩ := r_sick R q y gn h8 h0
      rw [if_neg h0, r_bs, if_pos rfl, a1, r_bs, r_bs, if_pos rfl, a2]
      exact ⟨1, u', z', gn, rfl, rfl, Q, t, ht, a3, a4, a5⟩
  · subst h
    have h8 : d < 8 := d8 (by decide)
    obtain ⟨a, b, h1, h2, _, h3⟩ := r_turn Y gn h8 0 (Or.inl rfl)
    have n99 : ¬ (118 : Int32) = 99 := by decide
    have y18 : (118 : Int32) = 118 := rfl
    rw [if_neg (by decide), if_neg (by decide), if_neg (by decide), if_neg (by decide), if_pos y18, h1, r_bs, if_neg n99, r_bs, if_neg n99, if_neg (show ¬ (118 : Int32) = 43 by decide), if_neg (show ¬ (118 : Int32) = 97 by decide), if_neg (show ¬ (118 : Int32) = 103 by decide), if_neg (show ¬ (118 : Int32) = 115 by decide), h2, r_bs, r_bs]
    by_cases ha : a = 0
    · rw [if_pos ha, if_pos ha]
      exact ⟨0, u, z, gn, rfl, rfl, Y⟩
    · obtain ⟨u', z', gn', a1, _, a2, a3⟩ := h3 ha
      rw [if_neg ha, if_neg ha, a1, a2]
      exact ⟨1, u', z', gn', rfl, rfl, a3⟩
  · subst h
    have h8 : d < 8 := d8 (by decide)
    obtain ⟨a, b, h1, h2, _, h3⟩ := r_turn Y gn h8 1 (Or.inr rfl)
    have y99 : (99 : Int32) = 99 := rfl
    rw [if_neg (show ¬ (99 : Int32) = 97 by decide), if_pos y99, h1, r_bs, if_pos y99, r_bs, if_pos y99, if_neg (show ¬ (99 : Int32) = 43 by decide), if_neg (show ¬ (99 : Int32) = 97 by decide), if_neg (show ¬ (99 : Int32) = 103 by decide), if_neg (show ¬ (99 : Int32) = 115 by decide), h2, r_bs, r_bs]
    by_cases ha : a = 1
    · rw [if_pos ha, if_pos ha]
      exact ⟨0, u, z, gn, rfl, rfl, Y⟩
    · obtain ⟨u', z', gn', a1, _, a2, a3⟩ := h3 ha
      rw [if_neg ha, if_neg ha, a1, a2]
      exact ⟨1, u', z', gn', rfl, rfl, a3⟩
  · subst h
    obtain ⟨c1, c2⟩ := r_cpu (m := d) R q ht (by omega)
    rw [if_neg (by decide), if_neg (by decide), if_neg (by decide), if_neg (by decide), if_neg (by decide), if_pos rfl, c1, r_bs, r_l9]
    by_cases h : t + d ≤ 9999
    · obtain ⟨g, u', z', gn', P, a1, a2, a3, a4, a5⟩ := r_go (m := d) R q y gn (by omega)
      rw [if_pos h, if_neg r_10, if_pos (c2.mpr h), a1, a2]
      exact ⟨1, u', z', gn', rfl, rfl, P, t + d, h, a3, a4, a5⟩
    · rw [if_neg h, if_pos rfl, if_neg (fun c => h (c2.mp c))]
      exact ⟨0, u, z, gn, rfl, rfl, Y⟩
