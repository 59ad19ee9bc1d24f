/-! ===== pure rows: every call answers as the model's ===== -/
def RA (P : Nat → Nat → Int32) (S : Nat → Nat → Nat → Int32) (nw hz : Int32) (cd : Nat → Int32) (ln : Int32) (z sv : Nat → Int32) (sn : Int32) (bf : Nat → Int32) (ty : Int32) : Prop := RS P z ∧ RH S nw hz sv sn ∧ RB cd ln bf ty
theorem r_tri (x : Int32) {n : Nat} (hn : n < 1000000000) : (x < 0 ∧ ¬ ∃ k, k < n ∧ x = Int32.ofNat k) ∨ (¬ x < 0 ∧ ¬ x < Int32.ofNat n) ∨ ∃ k, k < n ∧ x = Int32.ofNat k := by
  by_cases h0 : x < 0
  · refine Or.inl ⟨h0, ?_⟩
    rintro ⟨k, hk, e⟩
    rw [e] at h0
    exact r_n0 (by omega) h0
  · by_cases h1 : x < Int32.ofNat n
    · exact Or.inr (Or.inr (r_outlt (by omega) h0 h1))
    · exact Or.inr (Or.inl ⟨h0, h1⟩)
theorem r_gt {x : Int32} {n : Nat} (hn : n < 1000000) (h : ¬ x < Int32.ofNat (n + 1)) : Int32.ofNat n < x := by
  rw [Int32.lt_iff_toInt_lt, r_ti (by omega)] at h
  rw [Int32.lt_iff_toInt_lt, r_ti (by omega)]
  omega
theorem r_in01 {a b : Int32} {x : Int32} (h : x < a) : fX4_in x a b = some 0 := by
  unfold fX4_in
  rw [if_pos h]
theorem r_in02 {a b : Int32} {x : Int32} (h : ¬ x < a) (g : b < x) : fX4_in x a b = some 0 := by
  unfold fX4_in
  rw [if_neg h, if_pos g]
theorem r_in1 {a b : Int32} {x : Int32} (h : ¬ x < a) (g : ¬ b < x) : fX4_in x a b = some 1 := by
  unfold fX4_in
  rw [if_neg h, if_neg g]
theorem r_inr {n : Nat} (hn : n < 1000000) (x : Int32) : (fX4_in x 0 (Int32.ofNat n) = some 0 ∧ (x < 0 ∨ (¬ x < 0 ∧ ¬ x < Int32.ofNat (n + 1)))) ∨ ∃ k, k < n + 1 ∧ x = Int32.ofNat k ∧ fX4_in x 0 (Int32.ofNat n) = some 1 := by
  rcases r_tri x (n := n + 1) (by omega) with ⟨h, _⟩ | ⟨h0, h1⟩ | ⟨k, hk, e⟩
  · exact Or.inl ⟨r_in01 h, Or.inl h⟩
  · exact Or.inl ⟨r_in02 h0 (r_gt (by omega) h1), Or.inr ⟨h0, h1⟩⟩
  · refine Or.inr ⟨k, hk, e, ?_⟩
    rw [e]
    exact r_in1 (r_n0 (by omega)) (fun c => by have := (r_lt (by omega) (by omega)).mp c; omega)
theorem r_own (x : Int32) : (fX3_requireOwner x = some (Sum.inl 1) ∧ fX4_isOwner x = some 0) ∨ ∃ o, o < 8 ∧ x = Int32.ofNat o ∧ fX3_requireOwner x = some (Sum.inr ()) ∧ fX4_isOwner x = some 1 := by
  unfold fX3_requireOwner fX4_isOwner
  rcases r_inr (n := 7) (by decide) x with ⟨e, h⟩ | ⟨k, hk, e, g⟩
  · have e : fX4_in x 0 7 = some 0 := e
    rw [e, r_bs, if_pos (show pq_bool 0 = true from rfl)]
    left
    rcases h with h | ⟨h0, h1⟩
    · rw [if_pos h]; exact ⟨rfl, rfl⟩
    · have h1 : ¬ x < 8 := h1
      rw [if_neg h0, if_neg h1]; exact ⟨rfl, rfl⟩
  · have g : fX4_in x 0 7 = some 1 := g
    have h1 : x < 8 := by rw [e]; exact (r_lt (b := 8) (by omega) (by omega)).mpr hk
    have h0 : ¬ x < 0 := by rw [e]; exact r_n0 (by omega)
    rw [g, r_bs, if_pos (show pq_bool 1 = true from rfl), if_neg h0, if_pos h1]
    exact Or.inr ⟨k, hk, e, rfl, rfl⟩
theorem r_plc (x : Int32) : (fX3_requirePlace x = some (Sum.inl 1) ∧ fX4_isPlace x = some 0) ∨ ∃ o, o < 8 ∧ x = Int32.ofNat o ∧ fX3_requirePlace x = some (Sum.inr ()) ∧ fX4_isPlace x = some 1 := by
  unfold fX3_requirePlace fX4_isPlace
  rcases r_inr (n := 7) (by decide) x with ⟨e, h⟩ | ⟨k, hk, e, g⟩
  · have e : fX4_in x 0 7 = some 0 := e
    rw [e, r_bs, if_pos (show pq_bool 0 = true from rfl)]
    left
    rcases h with h | ⟨h0, h1⟩
    · rw [if_pos h]; exact ⟨rfl, rfl⟩
    · have h1 : ¬ x < 8 := h1
      rw [if_neg h0, if_neg h1]; exact ⟨rfl, rfl⟩
  · have g : fX4_in x 0 7 = some 1 := g
    have h1 : x < 8 := by rw [e]; exact (r_lt (b := 8) (by omega) (by omega)).mpr hk
    have h0 : ¬ x < 0 := by rw [e]; exact r_n0 (by omega)
    rw [g, r_bs, if_pos (show pq_bool 1 = true from rfl), if_neg h0, if_pos h1]
    exact Or.inr ⟨k, hk, e, rfl, rfl⟩
theorem r_stg (x : Int32) : (fX3_requireSetting x = some (Sum.inl 1) ∧ fX4_in x 0 8 = some 0) ∨ ∃ o, o < 9 ∧ x = Int32.ofNat o ∧ fX3_requireSetting x = some (Sum.inr ()) ∧ fX4_in x 0 8 = some 1 := by
  unfold fX3_requireSetting
  rcases r_inr (n := 8) (by decide) x with ⟨e, h⟩ | ⟨k, hk, e, g⟩
  · have e : fX4_in x 0 8 = some 0 := e
    rw [e]
    left
    rcases h with h | ⟨h0, h1⟩
    · rw [if_pos h]; exact ⟨rfl, rfl⟩
    · have h1 : ¬ x < 9 := h1
      rw [if_neg h0, if_neg h1]; exact ⟨rfl, rfl⟩
  · have g : fX4_in x 0 8 = some 1 := g
    have h1 : x < 9 := by rw [e]; exact (r_lt (b := 9) (by omega) (by omega)).mpr hk
    have h0 : ¬ x < 0 := by rw [e]; exact r_n0 (by omega)
    rw [g, if_neg h0, if_pos h1]
    exact Or.inr ⟨k, hk, e, rfl, rfl⟩
theorem r_knd (x : Int32) {n : Nat} (hn : n < 1000) : (fX3_requireKind x (Int32.ofNat (n + 1)) = some (Sum.inl 3) ∧ fX4_in x 0 (Int32.ofNat n) = some 0) ∨ ∃ k, k < n + 1 ∧ x = Int32.ofNat k ∧ fX3_requireKind x (Int32.ofNat (n + 1)) = some (Sum.inr ()) ∧ fX4_in x 0 (Int32.ofNat n) = some 1 := by
  unfold fX3_requireKind
  rcases r_inr (n := n) (by omega) x with ⟨e, h⟩ | ⟨k, hk, e, g⟩
  · rw [e]
    left
    rcases h with h | ⟨h0, h1⟩
    · rw [if_pos h]; exact ⟨rfl, rfl⟩
    · rw [if_neg h0, if_neg h1]; exact ⟨rfl, rfl⟩
  · have h1 : x < Int32.ofNat (n + 1) := by rw [e]; exact (r_lt (by omega) (by omega)).mpr hk
    have h0 : ¬ x < 0 := by rw [e]; exact r_n0 (by omega)
    rw [g, if_neg h0, if_pos h1]
    exact Or.inr ⟨k, hk, e, rfl, rfl⟩
theorem r_el1 {α β : Type} (e : Nat) (f : Nat → Option β) (g : α → Option β) : Sum.elim f g (Sum.inl e) = f e := rfl
theorem r_el2 {α β : Type} (a : α) (f : Nat → Option β) (g : α → Option β) : Sum.elim f g (Sum.inr a) = g a := rfl
theorem r_00 : (0 : Int32) ≤ 0 := by decide
theorem r_n10 : ¬ (1 : Int32) ≤ 0 := by decide
theorem r_n20 : ¬ (2 : Int32) ≤ 0 := by decide
theorem c_ask {P : Nat → Nat → Int32} {S : Nat → Nat → Nat → Int32} {nw hz : Int32} {cd : Nat → Int32} {ln : Int32} {z sv : Nat → Int32} {sn : Int32} {bf : Nat → Int32} {ty : Int32} (A : RA P S nw hz cd ln z sv sn bf ty) (x1 th : Int32) (gn : Nat → Int32) : ((fX3_ask x1 P S nw hz = some (Sum.inl 1) ∧ fX4_ask x1 th z sv sn gn = some (0, 1, z, sv, sn, gn)) ∨ (fX3_ask x1 P S nw hz = some (Sum.inl 2) ∧ fX4_ask x1 th z sv sn gn = some (0, 2, z, sv, sn, gn))) ∨ ∃ r P' S' nw' hz' z' sv' sn' gn', fX3_ask x1 P S nw hz = some (Sum.inr (r, P', S', nw', hz')) ∧ fX4_ask x1 th z sv sn gn = some (r, 0, z', sv', sn', gn') ∧ RA P' S' nw' hz' cd ln z' sv' sn' bf ty := by
  obtain ⟨Y, H, B⟩ := A
  obtain ⟨S', nw', hz', sv', s1, s2, s3⟩ := r_save Y H
  obtain ⟨Q, t, ht, R, q, y⟩ := Y
  unfold fX3_ask fX4_ask
  rcases r_own x1 with ⟨a, b⟩ | ⟨o, ho, e, a, b⟩
  · rw [a, b, r_bs, r_bs, r_el1, if_pos rfl, r_bs, if_neg r_n10]
    exact Or.inl (Or.inl ⟨rfl, rfl⟩)
  · rw [a, b, r_bs, r_bs, r_el2, if_neg r_10, e]
    obtain ⟨r, h1, h2, h3⟩ := r_cr R q ho
    rw [h1, h2, r_bs, r_bs]
    rcases h3 with ⟨hr, hn, h8⟩ | hr
    · obtain ⟨g, u', z', gn', P', a1, a2, a3, a4, a5, _⟩ := r_ask R q gn ho hn h8
      rw [hr, if_neg r_10, if_neg r_10, r_bs, if_pos r_00, s1, s2, a1, a2]
      exact Or.inr ⟨g, u', S', nw', hz', z', sv', hz', gn', rfl, rfl, ⟨P', t, ht, a3, a4, a5⟩, s3, B⟩
    · rw [if_pos hr, if_pos hr, r_bs, if_neg r_n20]
      exact Or.inl (Or.inr ⟨rfl, rfl⟩)
theorem c_give {P : Nat → Nat → Int32} {S : Nat → Nat → Nat → Int32} {nw hz : Int32} {cd : Nat → Int32} {ln : Int32} {z sv : Nat → Int32} {sn : Int32} {bf : Nat → Int32} {ty : Int32} (A : RA P S nw hz cd ln z sv sn bf ty) (x1 th : Int32) (gn : Nat → Int32) : ((fX3_give x1 P S nw hz = some (Sum.inl 1) ∧ fX4_give x1 th z sv sn gn = some (0, 1, z, sv, sn, gn)) ∨ (fX3_give x1 P S nw hz = some (Sum.inl 2) ∧ fX4_give x1 th z sv sn gn = some (0, 2, z, sv, sn, gn))) ∨ ∃ r P' S' nw' hz' z' sv' sn' gn', fX3_give x1 P S nw hz = some (Sum.inr (r, P', S', nw', hz')) ∧ fX4_give x1 th z sv sn gn = some (r, 0, z', sv', sn', gn') ∧ RA P' S' nw' hz' cd ln z' sv' sn' bf ty := by
  obtain ⟨Y, H, B⟩ := A
  obtain ⟨S', nw', hz', sv', s1, s2, s3⟩ := r_save Y H
  obtain ⟨Q, t, ht, R, q, y⟩ := Y
  unfold fX3_give fX4_give
  rcases r_plc x1 with ⟨a, b⟩ | ⟨o, ho, e, a, b⟩
  · rw [a, b, r_bs, r_bs, r_el1, if_pos rfl, r_bs, if_neg r_n10]
    exact Or.inl (Or.inl ⟨rfl, rfl⟩)
  · rw [a, b, r_bs, r_bs, r_el2, if_neg r_10, e]
    obtain ⟨r, h1, h2, h3⟩ := r_ctb R ho
    rw [h1, h2, r_bs, r_bs]
    by_cases hr : r = 0
    · rw [if_pos hr, if_pos hr, r_bs, if_neg r_n20]
      exact Or.inl (Or.inr ⟨rfl, rfl⟩)
    · obtain ⟨g, u', z', gn', P', a1, a2, a3, a4, a5, a6⟩ := r_give R q gn ho (h3 hr)
      rw [if_neg hr, if_neg hr, r_bs, if_pos r_00, s1, s2, a1, r_bs, r_bs, r_bs, a2, a3]
      exact Or.inr ⟨g, u', S', nw', hz', z', sv', hz', gn', rfl, rfl, ⟨P', t, ht, a4, a5, a6⟩, s3, B⟩
theorem c_giveUp {P : Nat → Nat → Int32} {S : Nat → Nat → Nat → Int32} {nw hz : Int32} {cd : Nat → Int32} {ln : Int32} {z sv : Nat → Int32} {sn : Int32} {bf : Nat → Int32} {ty : Int32} (A : RA P S nw hz cd ln z sv sn bf ty) (x1 th : Int32) (gn : Nat → Int32) : ((fX3_giveUp x1 P S nw hz = some (Sum.inl 1) ∧ fX4_giveUp x1 th z sv sn gn = some (0, 1, z, sv, sn, gn)) ∨ (fX3_giveUp x1 P S nw hz = some (Sum.inl 2) ∧ fX4_giveUp x1 th z sv sn gn = some (0, 2, z, sv, sn, gn))) ∨ ∃ r P' S' nw' hz' z' sv' sn' gn', fX3_giveUp x1 P S nw hz = some (Sum.inr (r, P', S', nw', hz')) ∧ fX4_giveUp x1 th z sv sn gn = some (r, 0, z', sv', sn', gn') ∧ RA P' S' nw' hz' cd ln z' sv' sn' bf ty := by
  obtain ⟨Y, H, B⟩ := A
  obtain ⟨S', nw', hz', sv', s1, s2, s3⟩ := r_save Y H
  obtain ⟨Q, t, ht, R, q, y⟩ := Y
  have l8 := q.len
  unfold fX3_giveUp fX4_giveUp
  rcases r_own x1 with ⟨a, b⟩ | ⟨o, ho, e, a, b⟩
  · rw [a, b, r_bs, r_bs, r_el1, if_pos rfl, r_bs, if_neg r_n10]
    exact Or.inl (Or.inl ⟨rfl, rfl⟩)
  · rw [a, b, r_bs, r_bs, r_el2, if_neg r_10, e]
    obtain ⟨r, h1, _, h3⟩ := r_to q ho
    rw [h1, r_wz q ho, r_bs, r_bs]
    rcases h3 with ⟨er, hn⟩ | ⟨i, hi, er, ei⟩
    · rw [if_pos er, if_neg hn, if_pos rfl, r_bs, if_neg r_n20]
      exact Or.inl (Or.inr ⟨rfl, rfl⟩)
    · have hm : o ∈ Q := r_mem.mpr ⟨i, hi, ei⟩
      have nr : ¬ r = -1 := by rw [er]; exact r_m1 (by omega)
      obtain ⟨u', z1, z', gn', P', a1, a2, a3, a4, a5, a6⟩ := r_giveUp R q gn hm
      rw [if_neg nr, if_pos hm, if_neg r_10, r_bs, if_pos r_00, s1, s2, r_wo q ho, if_pos hm, a1, r_bs, r_bs, r_bs, r_bs, r_wf R q hm, r_bs, a2, r_bs, a3]
      exact Or.inr ⟨_, u', S', nw', hz', z', sv', hz', gn', rfl, rfl, ⟨P', t, ht, a4, a5, a6⟩, s3, B⟩
theorem c_appear {P : Nat → Nat → Int32} {S : Nat → Nat → Nat → Int32} {nw hz : Int32} {cd : Nat → Int32} {ln : Int32} {z sv : Nat → Int32} {sn : Int32} {bf : Nat → Int32} {ty : Int32} (A : RA P S nw hz cd ln z sv sn bf ty) (x1 x2 th : Int32) (hx : x2 = 0 ∨ x2 = 1) (gn : Nat → Int32) : ((fX3_appear x1 x2 P S nw hz = some (Sum.inl 1) ∧ fX4_appear x1 x2 th z sv sn gn = some (0, 1, z, sv, sn, gn)) ∨ (fX3_appear x1 x2 P S nw hz = some (Sum.inl 2) ∧ fX4_appear x1 x2 th z sv sn gn = some (0, 2, z, sv, sn, gn))) ∨ ∃ r P' S' nw' hz' z' sv' sn' gn', fX3_appear x1 x2 P S nw hz = some (Sum.inr (r, P', S', nw', hz')) ∧ fX4_appear x1 x2 th z sv sn gn = some (r, 0, z', sv', sn', gn') ∧ RA P' S' nw' hz' cd ln z' sv' sn' bf ty := by
  obtain ⟨Y, H, B⟩ := A
  obtain ⟨S', nw', hz', sv', s1, s2, s3⟩ := r_save Y H
  unfold fX3_appear fX4_appear
  rcases r_own x1 with ⟨a, b⟩ | ⟨o, ho, e, a, b⟩
  · rw [a, b, r_bs, r_bs, r_el1, if_pos rfl, r_bs, if_neg r_n10]
    exact Or.inl (Or.inl ⟨rfl, rfl⟩)
  · rw [a, b, r_bs, r_bs, r_el2, if_neg r_10, e]
    obtain ⟨v, g, h1, h2, _, h3⟩ := r_turn Y gn ho x2 hx
    rw [h1, h2, r_bs, r_bs]
    by_cases hv : v = x2
    · rw [if_pos hv, if_pos hv, r_bs, if_neg r_n20]
      exact Or.inl (Or.inr ⟨rfl, rfl⟩)
    · obtain ⟨u', z', gn', a1, a2, a3, a4⟩ := h3 hv
      rw [if_neg hv, if_neg hv, r_bs, if_pos r_00, s1, s2, a1, r_bs, r_bs, r_bs, a2, a3]
      exact Or.inr ⟨g, u', S', nw', hz', z', sv', hz', gn', rfl, rfl, a4, s3, B⟩
theorem c_sicken {P : Nat → Nat → Int32} {S : Nat → Nat → Nat → Int32} {nw hz : Int32} {cd : Nat → Int32} {ln : Int32} {z sv : Nat → Int32} {sn : Int32} {bf : Nat → Int32} {ty : Int32} (A : RA P S nw hz cd ln z sv sn bf ty) (x1 th : Int32) (gn : Nat → Int32) : ((fX3_sicken x1 P S nw hz = some (Sum.inl 1) ∧ fX4_sicken x1 th z sv sn gn = some (0, 1, z, sv, sn, gn)) ∨ (fX3_sicken x1 P S nw hz = some (Sum.inl 2) ∧ fX4_sicken x1 th z sv sn gn = some (0, 2, z, sv, sn, gn))) ∨ ∃ r P' S' nw' hz' z' sv' sn' gn', fX3_sicken x1 P S nw hz = some (Sum.inr (r, P', S', nw', hz')) ∧ fX4_sicken x1 th z sv sn gn = some (r, 0, z', sv', sn', gn') ∧ RA P' S' nw' hz' cd ln z' sv' sn' bf ty := by
  obtain ⟨Y, H, B⟩ := A
  obtain ⟨S', nw', hz', sv', s1, s2, s3⟩ := r_save Y H
  obtain ⟨Q, t, ht, R, q, y⟩ := Y
  unfold fX3_sicken fX4_sicken
  rcases r_plc x1 with ⟨a, b⟩ | ⟨o, ho, e, a, b⟩
  · rw [a, b, r_bs, r_bs, r_el1, if_pos rfl, r_bs, if_neg r_n10]
    exact Or.inl (Or.inl ⟨rfl, rfl⟩)
  · have ie : fX2_isEmpty (Int32.ofNat o) P = if P 2 o = 0 then some 1 else some 0 := by
      unfold fX2_isEmpty
      rw [if_pos (r_in ho (by decide)), r_nc (by omega)]
    rw [a, b, r_bs, r_bs, r_el2, if_neg r_10, e, ie, r_isIn ho, R.p0 o ho]
    by_cases h0 : P 2 o = 0
    · rw [if_pos h0, r_bs, if_neg r_10, r_bs, if_neg r_10, r_bs, if_neg r_n20]
      exact Or.inl (Or.inr ⟨rfl, rfl⟩)
    · obtain ⟨g, u', z', a1, a2, a3, a4, a5, a6⟩ := r_sick R q y gn ho h0
      rw [if_neg h0, r_bs, if_pos rfl, s1, r_bs, a1, r_bs, r_bs, if_pos rfl, r_bs, if_pos r_00, s2, r_bs, a2, r_bs]
      rcases a6 with hg | hg
      · rw [hg, if_pos rfl]
        exact Or.inr ⟨0, u', S', nw', hz', z', sv', hz', gn, rfl, rfl, ⟨Q, t, ht, a3, a4, a5⟩, s3, B⟩
      · rw [hg, if_neg r_10]
        exact Or.inr ⟨1, u', S', nw', hz', z', sv', hz', gn, rfl, rfl, ⟨Q, t, ht, a3, a4, a5⟩, s3, B⟩
theorem c_check {P : Nat → Nat → Int32} {S : Nat → Nat → Nat → Int32} {nw hz : Int32} {cd : Nat → Int32} {ln : Int32} {z sv : Nat → Int32} {sn : Int32} {bf : Nat → Int32} {ty : Int32} (A : RA P S nw hz cd ln z sv sn bf ty) (th : Int32) (gn : Nat → Int32) : ∃ r P' S' nw' hz' z' sv' sn' gn', fX3_check P S nw hz = some (r, P', S', nw', hz') ∧ fX4_check th z sv sn gn = some (r, 0, z', sv', sn', gn') ∧ RA P' S' nw' hz' cd ln z' sv' sn' bf ty := by
  obtain ⟨Y, H, B⟩ := A
  obtain ⟨S', nw', hz', sv', s1, s2, s3⟩ := r_save Y H
  obtain ⟨Q, t, ht, R, q, y⟩ := Y
  obtain ⟨b, u1, z1, c1, c2, c3, c4⟩ := r_check R
  obtain ⟨g', u', z', gn', P', a1, a2, a3, a4, a5, _⟩ := r_serve c3 (c4.rq q) (-1) gn
  unfold fX3_check fX4_check
  rw [s1, s2, r_bs, r_bs, c1, c2, r_bs, r_bs]
  dsimp only
  rw [a1, a2, r_bs, r_bs]
  exact ⟨b, u', S', nw', hz', z', sv', hz', gn', rfl, rfl, ⟨P', t, ht, a3, a4, a5⟩, s3, B⟩
theorem c_drain {P : Nat → Nat → Int32} {S : Nat → Nat → Nat → Int32} {nw hz : Int32} {cd : Nat → Int32} {ln : Int32} {z sv : Nat → Int32} {sn : Int32} {bf : Nat → Int32} {ty : Int32} (A : RA P S nw hz cd ln z sv sn bf ty) (th : Int32) (gn : Nat → Int32) : ∃ r P' S' nw' hz' z' sv' sn' gn', fX3_drain P S nw hz = some (r, P', S', nw', hz') ∧ fX4_drain th z sv sn gn = some (r, 0, z', sv', sn', gn') ∧ RA P' S' nw' hz' cd ln z' sv' sn' bf ty := by
  obtain ⟨Y, H, B⟩ := A
  obtain ⟨S', nw', hz', sv', s1, s2, s3⟩ := r_save Y H
  obtain ⟨Q, t, ht, R, q, y⟩ := Y
  obtain ⟨b, u1, z1, c1, c2, c3, c4⟩ := r_drain R
  obtain ⟨g', u', z', gn', P', a1, a2, a3, a4, a5, _⟩ := r_serve c3 (c4.rq q) (-1) gn
  unfold fX3_drain fX4_drain
  rw [s1, s2, r_bs, r_bs, c1, c2, r_bs, r_bs]
  dsimp only
  rw [a1, a2, r_bs, r_bs]
  exact ⟨b, u', S', nw', hz', z', sv', hz', gn', rfl, rfl, ⟨P', t, ht, a3, a4, a5⟩, s3, B⟩
theorem r_lg {i : Nat} (hi : i < 9) : ∃ a b, fX4_leastOf (Int32.ofNat i) = some (pw_least i) ∧ fX4_mostOf (Int32.ofNat i) = some (pw_great i) ∧ pw_least i = Int32.ofNat a ∧ pw_great i = Int32.ofNat b := by
  have e : i = 0 ∨ i = 1 ∨ i = 2 ∨ i = 3 ∨ i = 4 ∨ i = 5 ∨ i = 6 ∨ i = 7 ∨ i = 8 := by omega
  rcases e with e | e | e | e | e | e | e | e | e <;> subst e
  · exact ⟨1, 8, by decide, by decide, rfl, rfl⟩
  · exact ⟨1, 8, by decide, by decide, rfl, rfl⟩
  · exact ⟨0, 8, by decide, by decide, rfl, rfl⟩
  · exact ⟨0, 1, by decide, by decide, rfl, rfl⟩
  · exact ⟨0, 1, by decide, by decide, rfl, rfl⟩
  · exact ⟨1, 99, by decide, by decide, rfl, rfl⟩
  · exact ⟨0, 99, by decide, by decide, rfl, rfl⟩
  · exact ⟨1, 99, by decide, by decide, rfl, rfl⟩
  · exact ⟨1, 99, by decide, by decide, rfl, rfl⟩
theorem r_nlt {a b : Int32} : ¬ a < b ↔ b ≤ a := by
  rw [Int32.lt_iff_toInt_lt, Int32.le_iff_toInt_le]; omega
theorem c_set {P : Nat → Nat → Int32} {S : Nat → Nat → Nat → Int32} {nw hz : Int32} {cd : Nat → Int32} {ln : Int32} {z sv : Nat → Int32} {sn : Int32} {bf : Nat → Int32} {ty : Int32} (A : RA P S nw hz cd ln z sv sn bf ty) (x1 x2 th : Int32) (gn : Nat → Int32) : ((fX3_set x1 x2 P S nw hz = some (Sum.inl 1) ∧ fX4_set x1 x2 th z sv sn gn = some (0, 1, z, sv, sn, gn)) ∨ (fX3_set x1 x2 P S nw hz = some (Sum.inl 3) ∧ fX4_set x1 x2 th z sv sn gn = some (0, 2, z, sv, sn, gn))) ∨ ∃ r P' S' nw' hz' z' sv' sn' gn', fX3_set x1 x2 P S nw hz = some (Sum.inr (r, P', S', nw', hz')) ∧ fX4_set x1 x2 th z sv sn gn = some (r, 0, z', sv', sn', gn') ∧ RA P' S' nw' hz' cd ln z' sv' sn' bf ty := by
  obtain ⟨Y, H, B⟩ := A
  obtain ⟨S', nw', hz', sv', s1, s2, s3⟩ := r_save Y H
  obtain ⟨Q, t, ht, R, q, y⟩ := Y
  unfold fX3_set fX4_set
  rcases r_stg x1 with ⟨a, b⟩ | ⟨i, hi, e, a, b⟩
  · rw [a, b, r_bs, r_bs, r_el1, if_pos rfl, r_bs, if_neg r_n10]
    exact Or.inl (Or.inl ⟨rfl, rfl⟩)
  · obtain ⟨_, _, l1, l2, _, _⟩ := r_lg hi
    rw [a, b, r_bs, r_bs, r_el2, if_neg r_10, e, l1, l2, r_bs, r_bs, if_pos (r_in hi (by decide)), if_pos (r_in hi (by decide)), r_nc (by omega)]
    have b1 : pq_in (Int32.ofNat i) 114 = true := r_in (by omega) (by decide)
    by_cases h1 : x2 < pw_least i
    · rw [if_pos h1, r_in01 h1, r_bs, if_pos rfl, r_bs, if_neg r_n20]
      exact Or.inl (Or.inr ⟨rfl, rfl⟩)
    · by_cases h2 : pw_great i < x2
      · rw [if_neg h1, if_neg (fun c => r_nlt.mpr c h2), r_in02 h1 h2, r_bs, if_pos rfl, r_bs, if_neg r_n20]
        exact Or.inl (Or.inr ⟨rfl, rfl⟩)
      · obtain ⟨u', z', gn', P', a1, a2, a3, a4, a5⟩ := r_set R q gn hi ⟨r_nlt.mp h1, r_nlt.mp h2⟩
        rw [if_neg h1, if_pos (r_nlt.mp h2), r_in1 h1 h2, r_bs, if_neg r_10, r_bs, if_pos r_00, s1, s2, r_bs, r_bs, if_pos b1, if_pos b1, a1, r_bs, a2]
        exact Or.inr ⟨z i, u', S', nw', hz', z', sv', hz', gn', rfl, rfl, ⟨P', t, ht, a3, a4, a5⟩, s3, B⟩
theorem c_pass {P : Nat → Nat → Int32} {S : Nat → Nat → Nat → Int32} {nw hz : Int32} {cd : Nat → Int32} {ln : Int32} {z sv : Nat → Int32} {sn : Int32} {bf : Nat → Int32} {ty : Int32} (A : RA P S nw hz cd ln z sv sn bf ty) (x1 th : Int32) (gn : Nat → Int32) : ((fX3_pass x1 P S nw hz = some (Sum.inl 3) ∧ fX4_pass x1 th z sv sn gn = some (0, 1, z, sv, sn, gn)) ∨ (fX3_pass x1 P S nw hz = some (Sum.inl 2) ∧ fX4_pass x1 th z sv sn gn = some (0, 2, z, sv, sn, gn))) ∨ ∃ r P' S' nw' hz' z' sv' sn' gn', fX3_pass x1 P S nw hz = some (Sum.inr (r, P', S', nw', hz')) ∧ fX4_pass x1 th z sv sn gn = some (r, 0, z', sv', sn', gn') ∧ RA P' S' nw' hz' cd ln z' sv' sn' bf ty := by
  obtain ⟨Y, H, B⟩ := A
  obtain ⟨S', nw', hz', sv', s1, s2, s3⟩ := r_save Y H
  obtain ⟨Q, t, ht, R, q, y⟩ := Y
  unfold fX3_pass fX4_pass
  by_cases h1 : x1 < 1
  · rw [if_pos h1, r_in01 h1, r_bs, if_pos rfl, r_bs, if_neg r_n10]
    exact Or.inl (Or.inl ⟨rfl, rfl⟩)
  · by_cases h2 : (99 : Int32) < x1
    · rw [if_neg h1, if_neg (fun c => r_nlt.mpr c h2), r_in02 h1 h2, r_bs, if_pos rfl, r_bs, if_neg r_n10]
      exact Or.inl (Or.inl ⟨rfl, rfl⟩)
    · obtain ⟨m, m1, m2, e⟩ := r_rng (x := x1) (a := 1) (b := 99) (by decide) (by decide) ⟨r_nlt.mp h1, r_nlt.mp h2⟩
      obtain ⟨c1, c2⟩ := r_cpu (m := m) R q ht (by omega)
      rw [if_neg h1, if_pos (r_nlt.mp h2), r_in1 h1 h2, r_bs, if_neg r_10, e, c1, r_bs, r_l9]
      by_cases h : t + m ≤ 9999
      · obtain ⟨g, u', z', gn', P', a1, a2, a3, a4, a5⟩ := r_go (m := m) R q y gn (by omega)
        rw [if_pos h, if_neg r_10, if_pos (c2.mpr h), r_bs, if_pos r_00, s1, s2, a1, r_bs, r_bs, a2]
        exact Or.inr ⟨g, u', S', nw', hz', z', sv', hz', gn', rfl, rfl, ⟨P', t + m, h, a3, a4, a5⟩, s3, B⟩
      · rw [if_neg h, if_pos rfl, if_neg (fun c => h (c2.mp c)), r_bs, if_neg r_n20]
        exact Or.inl (Or.inr ⟨rfl, rfl⟩)
theorem c_append {P : Nat → Nat → Int32} {S : Nat → Nat → Nat → Int32} {nw hz : Int32} {cd : Nat → Int32} {ln : Int32} {z sv : Nat → Int32} {sn : Int32} {bf : Nat → Int32} {ty : Int32} (A : RA P S nw hz cd ln z sv sn bf ty) (x1 th : Int32) : ((fX3_append x1 cd ln = some (Sum.inl 3) ∧ fX4_append x1 th bf ty = some (0, 1, bf, ty)) ∨ (fX3_append x1 cd ln = some (Sum.inl 2) ∧ fX4_append x1 th bf ty = some (0, 2, bf, ty))) ∨ ∃ r cd' ln' bf', fX3_append x1 cd ln = some (Sum.inr (r, cd', ln')) ∧ fX4_append x1 th bf ty = some (r, 0, bf', ln') ∧ RA P S nw hz cd' ln' z sv sn bf' ln' := by
  obtain ⟨Y, H, L, hL, e1, e2, hb⟩ := A
  unfold fX3_append fX4_append fX0_isFull fX0_put
  by_cases h1 : x1 < 33
  · rw [if_pos h1, r_in01 h1, r_bs, if_pos rfl, r_bs, if_neg r_n10]
    exact Or.inl (Or.inl ⟨rfl, rfl⟩)
  · by_cases h2 : (126 : Int32) < x1
    · rw [if_neg h1, if_neg (fun c => r_nlt.mpr c h2), r_in02 h1 h2, r_bs, if_pos rfl, r_bs, if_neg r_n10]
      exact Or.inl (Or.inl ⟨rfl, rfl⟩)
    · rw [if_neg h1, if_pos (r_nlt.mp h2), r_in1 h1 h2, r_bs, if_neg r_10, e1, e2]
      by_cases h : L < 60
      · have a1 : Int32.ofNat L < 60 := (r_lt (b := 60) (by omega) (by omega)).mpr h
        have a2 : ¬ Int32.ofNat L = 60 := fun c => by have := (r_eq (b := 60) (by omega) (by omega)).mp c; omega
        unfold fX0_isFull
        rw [if_pos a1, r_bs, if_pos rfl, r_bs, if_pos rfl, if_neg a2, r_bs, if_pos r_00, if_pos (r_in h (by decide)), if_pos (r_in h (by decide)), r_nc (by omega), r_s, r_bs]
        refine Or.inr ⟨_, _, _, _, rfl, rfl, Y, H, L + 1, by omega, rfl, rfl, fun k hk => ?_⟩
        dsimp only
        by_cases hkl : L = k
        · rw [r_ue hkl, r_ue hkl]
        · rw [r_un hkl, r_un hkl]; exact hb k hk
      · have a1 : ¬ Int32.ofNat L < 60 := fun c => h ((r_lt (b := 60) (by omega) (by omega)).mp c)
        have a2 : Int32.ofNat L = 60 := (r_eq (b := 60) (by omega) (by omega)).mpr (by omega)
        rw [if_neg a1, r_bs, if_neg r_10, if_pos a2, r_bs, if_neg r_n20]
        exact Or.inl (Or.inr ⟨rfl, rfl⟩)
theorem c_clearBuffer {P : Nat → Nat → Int32} {S : Nat → Nat → Nat → Int32} {nw hz : Int32} {cd : Nat → Int32} {ln : Int32} {z sv : Nat → Int32} {sn : Int32} {bf : Nat → Int32} {ty : Int32} (A : RA P S nw hz cd ln z sv sn bf ty) (th : Int32) : fX3_clearBuffer ln = some (ln, 0) ∧ fX4_clearBuffer th ty = some (ln, 0, 0) ∧ RA P S nw hz cd 0 z sv sn bf 0 := by
  obtain ⟨Y, H, L, hL, e1, e2, hb⟩ := A
  refine ⟨rfl, ?_, Y, H, 0, Nat.zero_le _, rfl, rfl, hb⟩
  unfold fX4_clearBuffer
  rw [e1, e2]
theorem c_firstError {P : Nat → Nat → Int32} {S : Nat → Nat → Nat → Int32} {nw hz : Int32} {cd : Nat → Int32} {ln : Int32} {z sv : Nat → Int32} {sn : Int32} {bf : Nat → Int32} {ty : Int32} (A : RA P S nw hz cd ln z sv sn bf ty) (th : Int32) : ∃ r, fX3_firstError cd ln = some r ∧ fX4_firstError th bf ty = some (r, 0) := by
  obtain ⟨Y, H, L, hL, e1, e2, hb⟩ := A
  obtain ⟨m, m1, m2, _⟩ := r_mf hL hb
  unfold fX3_firstError fX4_firstError
  rw [e1, e2, m1, m2, r_bs, r_bs]
  exact ⟨_, rfl, rfl⟩
theorem c_run {P : Nat → Nat → Int32} {S : Nat → Nat → Nat → Int32} {nw hz : Int32} {cd : Nat → Int32} {ln : Int32} {z sv : Nat → Int32} {sn : Int32} {bf : Nat → Int32} {ty : Int32} (A : RA P S nw hz cd ln z sv sn bf ty) (th : Int32) (gn : Nat → Int32) : (fX3_run P S nw hz cd ln = some (Sum.inl 3) ∧ fX4_run th z sv sn bf ty gn = some (0, 1, z, sv, sn, ty, gn)) ∨ ∃ r P' S' nw' hz' z' sv' sn' gn', fX3_run P S nw hz cd ln = some (Sum.inr (r, P', S', nw', hz', 0)) ∧ fX4_run th z sv sn bf ty gn = some (r, 0, z', sv', sn', 0, gn') ∧ RA P' S' nw' hz' cd 0 z' sv' sn' bf 0 := by
  obtain ⟨Y, H, L, hL, e1, e2, hb⟩ := A
  obtain ⟨S', nw', hz', sv', s1, s2, s3⟩ := r_save Y H
  obtain ⟨m, m1, m2, m3, m4⟩ := r_mf hL hb
  unfold fX3_run fX4_run fX0_isComplete
  rw [e1, e2, m1, m2, r_bs, r_bs, r_ev (by omega)]
  have cmp : (Int32.ofNat m = Int32.ofNat L) ↔ m = L := r_eq (by omega) (by omega)
  by_cases h0 : L = 0
  · have a0 : Int32.ofNat L ≤ 0 := (r_le (b := 0) (by omega) (by omega)).mpr (by omega)
    rw [if_pos a0, r_bs, if_pos rfl, if_pos (cmp.mpr (by omega)), if_pos a0, r_bs, if_neg r_n10]
    exact Or.inl ⟨rfl, rfl⟩
  · have a0 : ¬ Int32.ofNat L ≤ 0 := fun c => by have := (r_le (b := 0) (by omega) (by omega)).mp c; omega
    rw [if_neg a0, if_neg a0]
    by_cases hev : L % 2 = 0
    · have b0 : Int32.ofNat (L % 2) = 0 := by rw [hev]; rfl
      rw [if_pos b0, if_pos b0]
      by_cases hm : m = L
      · rw [if_pos (cmp.mpr hm), if_pos (cmp.mpr hm), r_bs, if_neg r_10, r_bs, if_pos r_00, s1, s2, r_bs, r_bs]
        obtain ⟨k, u', z', gn', a1, a2, a3⟩ := r_rul hL hev hb (m4 hm) (S', nw', hz') (L / 2) 0 1000 P z gn (by omega) (by omega) Y
        have a1 : fX3_run_L35 cd (Int32.ofNat L) (S', nw', hz') 1000 0 0 P = some (Sum.inr (k, u', S', nw', hz', 0)) := a1
        have a2 : fX4_run_L51 bf (Int32.ofNat L) 1000 0 z gn = some (k, z', gn') := a2
        rw [a1, a2, r_bs]
        exact Or.inr ⟨k, u', S', nw', hz', z', sv', hz', gn', rfl, rfl, a3, s3, 0, Nat.zero_le _, rfl, rfl, hb⟩
      · rw [if_neg (fun c => hm (cmp.mp c)), if_neg (fun c => hm (cmp.mp c)), r_bs, if_pos rfl, r_bs, if_neg r_n10]
        exact Or.inl ⟨rfl, rfl⟩
    · have b0 : ¬ Int32.ofNat (L % 2) = 0 := fun c => by have := (r_eq (b := 0) (by omega) (by omega)).mp c; omega
      rw [if_neg b0, if_neg b0, r_bs, if_pos rfl]
      have x : (if Int32.ofNat m = Int32.ofNat L then some (1 : Int32) else some (1 : Int32)) = some 1 := by split <;> rfl
      rw [x, r_bs, if_neg r_n10]
      exact Or.inl ⟨rfl, rfl⟩
theorem c_undo {P : Nat → Nat → Int32} {S : Nat → Nat → Nat → Int32} {nw hz : Int32} {cd : Nat → Int32} {ln : Int32} {z sv : Nat → Int32} {sn : Int32} {bf : Nat → Int32} {ty : Int32} (A : RA P S nw hz cd ln z sv sn bf ty) (th : Int32) : (fX3_undo P S nw hz = some (Sum.inl 2) ∧ fX4_undo th z sv sn = some (0, 1, z, sn)) ∨ ∃ r P' nw' hz' z' sn', fX3_undo P S nw hz = some (Sum.inr (r, P', nw', hz')) ∧ fX4_undo th z sv sn = some (r, 0, z', sn') ∧ RA P' S nw' hz' cd ln z' sv sn' bf ty := by
  obtain ⟨Y, H, B⟩ := A
  unfold fX3_undo
  rcases r_undo H P z th with ⟨h0, e⟩ | ⟨h0, u', z', nw', hz', a1, a2, a3, a4⟩
  · rw [if_pos h0]
    exact Or.inl ⟨rfl, e⟩
  · rw [if_neg h0, a1, r_bs]
    exact Or.inr ⟨hz', u', nw', hz', z', hz', rfl, a2, a3, a4, B⟩
theorem c_place {P : Nat → Nat → Int32} {S : Nat → Nat → Nat → Int32} {nw hz : Int32} {cd : Nat → Int32} {ln : Int32} {z sv : Nat → Int32} {sn : Int32} {bf : Nat → Int32} {ty : Int32} (A : RA P S nw hz cd ln z sv sn bf ty) (x1 x2 th : Int32) : ((fX3_place x1 x2 P = some (Sum.inl 1) ∧ fX4_place x1 x2 th z = some (0, 1)) ∨ (fX3_place x1 x2 P = some (Sum.inl 3) ∧ fX4_place x1 x2 th z = some (0, 2))) ∨ ∃ r, fX3_place x1 x2 P = some (Sum.inr r) ∧ fX4_place x1 x2 th z = some (r, 0) := by
  obtain ⟨⟨Q, t, ht, R, q, y⟩, H, B⟩ := A
  unfold fX3_place fX4_place
  rcases r_plc x1 with ⟨a, b⟩ | ⟨p, hp, e, a, b⟩
  · rw [a, b, r_bs, r_bs, r_el1, if_pos rfl, r_bs, if_neg r_n10]
    exact Or.inl (Or.inl ⟨rfl, rfl⟩)
  · rw [a, b, r_bs, r_bs, r_el2, if_neg r_10]
    rcases r_knd x2 (n := 5) (by decide) with ⟨c, d⟩ | ⟨k, hk, f, c, d⟩
    · have c : fX3_requireKind x2 6 = some (Sum.inl 3) := c
      have d : fX4_in x2 0 5 = some 0 := d
      rw [c, d, r_bs, r_bs, r_el1, if_pos rfl, r_bs, if_neg r_n20]
      exact Or.inl (Or.inr ⟨rfl, rfl⟩)
    · have c : fX3_requireKind x2 6 = some (Sum.inr ()) := c
      have d : fX4_in x2 0 5 = some 1 := d
      obtain ⟨v, v1, v2⟩ := r_place R hp hk
      rw [c, d, r_bs, r_bs, r_el2, if_neg r_10, r_bs, if_pos r_00, e, f, v1, v2, r_bs, r_bs]
      exact Or.inr ⟨v, rfl, rfl⟩
theorem c_owner {P : Nat → Nat → Int32} {S : Nat → Nat → Nat → Int32} {nw hz : Int32} {cd : Nat → Int32} {ln : Int32} {z sv : Nat → Int32} {sn : Int32} {bf : Nat → Int32} {ty : Int32} (A : RA P S nw hz cd ln z sv sn bf ty) (x1 x2 th : Int32) : ((fX3_owner x1 x2 P = some (Sum.inl 1) ∧ fX4_owner x1 x2 th z = some (0, 1)) ∨ (fX3_owner x1 x2 P = some (Sum.inl 3) ∧ fX4_owner x1 x2 th z = some (0, 2))) ∨ ∃ r, fX3_owner x1 x2 P = some (Sum.inr r) ∧ fX4_owner x1 x2 th z = some (r, 0) := by
  obtain ⟨⟨Q, t, ht, R, q, y⟩, H, B⟩ := A
  unfold fX3_owner fX4_owner
  rcases r_own x1 with ⟨a, b⟩ | ⟨p, hp, e, a, b⟩
  · rw [a, b, r_bs, r_bs, r_el1, if_pos rfl, r_bs, if_neg r_n10]
    exact Or.inl (Or.inl ⟨rfl, rfl⟩)
  · rw [a, b, r_bs, r_bs, r_el2, if_neg r_10]
    rcases r_knd x2 (n := 6) (by decide) with ⟨c, d⟩ | ⟨k, hk, f, c, d⟩
    · have c : fX3_requireKind x2 7 = some (Sum.inl 3) := c
      have d : fX4_in x2 0 6 = some 0 := d
      rw [c, d, r_bs, r_bs, r_el1, if_pos rfl, r_bs, if_neg r_n20]
      exact Or.inl (Or.inr ⟨rfl, rfl⟩)
    · have c : fX3_requireKind x2 7 = some (Sum.inr ()) := c
      have d : fX4_in x2 0 6 = some 1 := d
      obtain ⟨v, v1, v2⟩ := r_owner R q hp hk
      rw [c, d, r_bs, r_bs, r_el2, if_neg r_10, r_bs, if_pos r_00, e, f, v1, v2, r_bs, r_bs]
      exact Or.inr ⟨v, rfl, rfl⟩
theorem c_count {P : Nat → Nat → Int32} {S : Nat → Nat → Nat → Int32} {nw hz : Int32} {cd : Nat → Int32} {ln : Int32} {z sv : Nat → Int32} {sn : Int32} {bf : Nat → Int32} {ty : Int32} (A : RA P S nw hz cd ln z sv sn bf ty) (x1 th : Int32) : (fX3_count x1 P hz = some (Sum.inl 3) ∧ fX4_count x1 th z sn = some (0, 1)) ∨ ∃ r, fX3_count x1 P hz = some (Sum.inr r) ∧ fX4_count x1 th z sn = some (r, 0) := by
  obtain ⟨⟨Q, t, ht, R, q, y⟩, H, B⟩ := A
  obtain ⟨_, s, _, _, eh, es, _⟩ := H
  unfold fX3_count fX4_count
  rcases r_knd x1 (n := 13) (by decide) with ⟨c, d⟩ | ⟨k, hk, f, c, d⟩
  · have c : fX3_requireKind x1 14 = some (Sum.inl 3) := c
    have d : fX4_in x1 0 13 = some 0 := d
    rw [c, d, r_bs, r_bs, r_el1, if_pos rfl, r_bs, if_neg r_n10]
    exact Or.inl ⟨rfl, rfl⟩
  · have c : fX3_requireKind x1 14 = some (Sum.inr ()) := c
    have d : fX4_in x1 0 13 = some 1 := d
    rw [c, d, r_bs, r_bs, r_el2, if_neg r_10, r_bs, if_pos r_00, f]
    by_cases h13 : k = 13
    · subst h13
      rw [if_pos (show Int32.ofNat 13 = 13 from rfl), r_nu13, r_bs, eh, es]
      exact Or.inr ⟨_, rfl, rfl⟩
    · have e : ¬ Int32.ofNat k = 13 := fun e => h13 ((r_eq (b := 13) (by omega) (by omega)).mp e)
      obtain ⟨v, v1, v2⟩ := r_number R q sn (c := k) (by omega)
      rw [if_neg e, v1, v2, r_bs, r_bs]
      exact Or.inr ⟨v, rfl, rfl⟩
theorem c_setting {P : Nat → Nat → Int32} {S : Nat → Nat → Nat → Int32} {nw hz : Int32} {cd : Nat → Int32} {ln : Int32} {z sv : Nat → Int32} {sn : Int32} {bf : Nat → Int32} {ty : Int32} (A : RA P S nw hz cd ln z sv sn bf ty) (x1 th : Int32) : (fX3_setting x1 P = some (Sum.inl 1) ∧ fX4_setting x1 th z = some (0, 1)) ∨ ∃ r, fX3_setting x1 P = some (Sum.inr r) ∧ fX4_setting x1 th z = some (r, 0) := by
  obtain ⟨⟨Q, t, ht, R, q, y⟩, H, B⟩ := A
  unfold fX3_setting fX4_setting
  rcases r_stg x1 with ⟨a, b⟩ | ⟨i, hi, e, a, b⟩
  · rw [a, b, r_bs, r_bs, r_el1, if_pos rfl, r_bs, if_neg r_n10]
    exact Or.inl ⟨rfl, rfl⟩
  · rw [a, b, r_bs, r_bs, r_el2, if_neg r_10, r_bs, if_pos r_00, e, if_pos (r_in hi (by decide)), if_pos (r_in (n := 114) (by omega) (by decide)), r_nc (by omega), R.st i hi]
    exact Or.inr ⟨_, rfl, rfl⟩
theorem c_ifAsked {P : Nat → Nat → Int32} {S : Nat → Nat → Nat → Int32} {nw hz : Int32} {cd : Nat → Int32} {ln : Int32} {z sv : Nat → Int32} {sn : Int32} {bf : Nat → Int32} {ty : Int32} (A : RA P S nw hz cd ln z sv sn bf ty) (x1 x2 th : Int32) (T : Nat → Nat → Int32) (ak sp gn : Nat → Int32) : ((fX3_ifAsked x1 x2 P T ak = some (Sum.inl 1) ∧ fX4_ifAsked x1 x2 th z sp gn = some (0, 1, z, sp, gn)) ∨ (fX3_ifAsked x1 x2 P T ak = some (Sum.inl 3) ∧ fX4_ifAsked x1 x2 th z sp gn = some (0, 2, z, sp, gn))) ∨ ∃ r T' ak' z' sp' gn', fX3_ifAsked x1 x2 P T ak = some (Sum.inr (r, T', ak')) ∧ fX4_ifAsked x1 x2 th z sp gn = some (r, 0, z', sp', gn') ∧ RA P S nw hz cd ln z' sv sn bf ty := by
  obtain ⟨Y, H, B⟩ := A
  have Y0 := Y
  obtain ⟨Q, t, ht, R, q, y⟩ := Y0
  unfold fX3_ifAsked fX4_ifAsked
  rcases r_own x1 with ⟨a, b⟩ | ⟨p, hp, e, a, b⟩
  · rw [a, b, r_bs, r_bs, r_el1, if_pos rfl, r_bs, if_neg r_n10]
    exact Or.inl (Or.inl ⟨rfl, rfl⟩)
  · rw [a, b, r_bs, r_bs, r_el2, if_neg r_10]
    rcases r_knd x2 (n := 2) (by decide) with ⟨c, d⟩ | ⟨k, hk, f, c, d⟩
    · have c : fX3_requireKind x2 3 = some (Sum.inl 3) := c
      have d : fX4_in x2 0 2 = some 0 := d
      rw [c, d, r_bs, r_bs, r_el1, if_pos rfl, r_bs, if_neg r_n20]
      exact Or.inl (Or.inr ⟨rfl, rfl⟩)
    · have c : fX3_requireKind x2 3 = some (Sum.inr ()) := c
      have d : fX4_in x2 0 2 = some 1 := d
      obtain ⟨T', ak', v1, v2⟩ := r_wget R q hp T ak
      obtain ⟨z2, sp2, gn2, w1, w2⟩ := v2 k hk sp gn
      rw [c, d, r_bs, r_bs, r_el2, if_neg r_10, r_bs, if_pos r_00, e, f, v1, w1, r_bs, r_bs, if_pos (r_in hk (by decide)), r_nc (by omega)]
      exact Or.inr ⟨_, T', ak', z2, sp2, gn2, rfl, rfl, Y.ext w2, H, B⟩
theorem c_ifPassed {P : Nat → Nat → Int32} {S : Nat → Nat → Nat → Int32} {nw hz : Int32} {cd : Nat → Int32} {ln : Int32} {z sv : Nat → Int32} {sn : Int32} {bf : Nat → Int32} {ty : Int32} (A : RA P S nw hz cd ln z sv sn bf ty) (x1 x2 th : Int32) (T : Nat → Nat → Int32) (pa sp gn : Nat → Int32) : (fX3_ifPassed x1 x2 P T pa = some (Sum.inl 3) ∧ fX4_ifPassed x1 x2 th z sp gn = some (0, 1, z, sp, gn)) ∨ ∃ r T' pa' z' sp' gn', fX3_ifPassed x1 x2 P T pa = some (Sum.inr (r, T', pa')) ∧ fX4_ifPassed x1 x2 th z sp gn = some (r, 0, z', sp', gn') ∧ RA P S nw hz cd ln z' sv sn bf ty := by
  obtain ⟨Y, H, B⟩ := A
  have Y0 := Y
  obtain ⟨Q, t, ht, R, q, y⟩ := Y0
  unfold fX3_ifPassed fX4_ifPassed
  by_cases h1 : x1 < 0
  · rw [if_pos h1, r_in01 h1, r_bs, if_pos rfl, r_bs, if_neg r_n10]
    exact Or.inl ⟨rfl, rfl⟩
  · by_cases h2 : (200 : Int32) < x1
    · rw [if_neg h1, if_neg (fun c => r_nlt.mpr c h2), r_in02 h1 h2, r_bs, if_pos rfl, r_bs, if_neg r_n10]
      exact Or.inl ⟨rfl, rfl⟩
    · obtain ⟨m, m1, m2, e⟩ := r_rng (x := x1) (a := 0) (b := 200) (by decide) (by decide) ⟨r_nlt.mp h1, r_nlt.mp h2⟩
      rw [if_neg h1, if_pos (r_nlt.mp h2), r_in1 h1 h2, r_bs, if_neg r_10]
      rcases r_knd x2 (n := 3) (by decide) with ⟨c, d⟩ | ⟨k, hk, f, c, d⟩
      · have c : fX3_requireKind x2 4 = some (Sum.inl 3) := c
        have d : fX4_in x2 0 3 = some 0 := d
        rw [c, d, r_bs, r_bs, r_el1, if_pos rfl, r_bs, if_neg r_n10]
        exact Or.inl ⟨rfl, rfl⟩
      · have c : fX3_requireKind x2 4 = some (Sum.inr ()) := c
        have d : fX4_in x2 0 3 = some 1 := d
        obtain ⟨T', pa', v1, v2⟩ := r_wbe (m := m) R q y (by omega) T pa
        obtain ⟨z2, sp2, gn2, w1, w2⟩ := v2 k hk sp gn
        rw [c, d, r_bs, r_bs, r_el2, if_neg r_10, r_bs, if_pos r_00, e, f, v1, w1, r_bs, r_bs, if_pos (r_in hk (by decide)), r_nc (by omega)]
        exact Or.inr ⟨_, T', pa', z2, sp2, gn2, rfl, rfl, Y.ext w2, H, B⟩
theorem c_waitsFor {P : Nat → Nat → Int32} {S : Nat → Nat → Nat → Int32} {nw hz : Int32} {cd : Nat → Int32} {ln : Int32} {z sv : Nat → Int32} {sn : Int32} {bf : Nat → Int32} {ty : Int32} (A : RA P S nw hz cd ln z sv sn bf ty) (x1 th : Int32) (T : Nat → Nat → Int32) (wt sp gn : Nat → Int32) : (fX3_waitsFor x1 P T wt = some (Sum.inl 1) ∧ fX4_waitsFor x1 th z sp gn = some (0, 1, z, sp, gn)) ∨ ∃ r T' wt' z' sp' gn', fX3_waitsFor x1 P T wt = some (Sum.inr (r, T', wt')) ∧ fX4_waitsFor x1 th z sp gn = some (r, 0, z', sp', gn') ∧ RA P S nw hz cd ln z' sv sn bf ty := by
  obtain ⟨Y, H, B⟩ := A
  have Y0 := Y
  obtain ⟨Q, t, ht, R, q, y⟩ := Y0
  unfold fX3_waitsFor fX4_waitsFor
  rcases r_own x1 with ⟨a, b⟩ | ⟨p, hp, e, a, b⟩
  · rw [a, b, r_bs, r_bs, r_el1, if_pos rfl, r_bs, if_neg r_n10]
    exact Or.inl ⟨rfl, rfl⟩
  · obtain ⟨T', wt', v1, v2⟩ := r_wwt R q y (by omega) T wt
    obtain ⟨z2, sp2, gn2, w1, w2⟩ := v2 p hp sp gn
    rw [a, b, r_bs, r_bs, r_el2, if_neg r_10, r_bs, if_pos r_00, e, v1, w1, r_bs, r_bs, if_pos (r_in hp (by decide)), r_nc (by omega)]
    exact Or.inr ⟨_, T', wt', z2, sp2, gn2, rfl, rfl, Y.ext w2, H, B⟩
theorem c_blocker {P : Nat → Nat → Int32} {S : Nat → Nat → Nat → Int32} {nw hz : Int32} {cd : Nat → Int32} {ln : Int32} {z sv : Nat → Int32} {sn : Int32} {bf : Nat → Int32} {ty : Int32} (A : RA P S nw hz cd ln z sv sn bf ty) (th : Int32) : ∃ r, fX3_blocker P = some r ∧ fX4_blocker th z = some (r, 0) := by
  obtain ⟨⟨Q, t, ht, R, q, y⟩, H, B⟩ := A
  obtain ⟨r, e1, e2⟩ := r_blk R q
  refine ⟨r, e1, ?_⟩
  unfold fX4_blocker
  rw [e2, r_bs]
theorem c_fairness {P : Nat → Nat → Int32} {S : Nat → Nat → Nat → Int32} {nw hz : Int32} {cd : Nat → Int32} {ln : Int32} {z sv : Nat → Int32} {sn : Int32} {bf : Nat → Int32} {ty : Int32} (A : RA P S nw hz cd ln z sv sn bf ty) (th : Int32) : ∃ r, fX3_fairness P = some r ∧ fX4_fairness th z = some (r, 0) ∧ Op.cmpValue (FP.dcmp r r) .l = 0 := by
  obtain ⟨⟨Q, t, ht, R, q, y⟩, H, B⟩ := A
  obtain ⟨d, b, e1, e2, e3, _⟩ := r_fair R
  refine ⟨d, e1, ?_, e3⟩
  unfold fX4_fairness
  rw [e2, r_bs]
theorem c_digest {P : Nat → Nat → Int32} {S : Nat → Nat → Nat → Int32} {nw hz : Int32} {cd : Nat → Int32} {ln : Int32} {z sv : Nat → Int32} {sn : Int32} {bf : Nat → Int32} {ty : Int32} (A : RA P S nw hz cd ln z sv sn bf ty) (th : Int32) (T : Nat → Nat → Int32) (ak pa wt sp gn : Nat → Int32) (hs : Int64) : ∃ h T' ak' pa' wt' z' sp' gn', fX3_digest P T hz ak pa wt cd ln = some (h, T', ak', pa', wt') ∧ fX4_digest th z sn sp bf ty gn hs = some (h, 0, z', sp', gn', h) ∧ RA P S nw hz cd ln z' sv sn bf ty := by
  obtain ⟨Y, H, L, hL, e1, e2, hb⟩ := A
  have H0 := H
  obtain ⟨_, s, _, _, eh, es, _⟩ := H0
  obtain ⟨h, T', ak', pa', wt', z', sp', gn', a1, a2, a3⟩ := r_digest (sn := sn) (L := L) Y hL hb T ak pa wt sp gn th hs
  refine ⟨h, T', ak', pa', wt', z', sp', gn', ?_, ?_, a3, H, L, hL, e1, e2, hb⟩
  · rw [e1, eh, ← es]; exact a1
  · rw [e2]; exact a2
