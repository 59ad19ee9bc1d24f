/-! ===== pure rows: what would be ===== -/
theorem r_pal (z : Nat → Int32) : ∀ j k n (f : Nat → Int32), k + j = 114 → j < n → ∃ f', fX4_putAside_L2 z n (Int32.ofNat k) f = some f' ∧ ∀ x, f' x = if k ≤ x ∧ x < 114 then z x else f x
  | 0, k, n + 1, f, h, _ => by
    have e : (114 : Int32) ≤ Int32.ofNat k := (r_le (a := 114) (by omega) (by omega)).mpr (by omega)
    refine ⟨f, ?_, fun x => by rw [if_neg (by omega)]⟩
    rw [fX4_putAside_L2, if_pos e]
  | j + 1, k, n + 1, f, h, hn => by
    have e : ¬ (114 : Int32) ≤ Int32.ofNat k := fun c => by have := (r_le (a := 114) (by omega) (by omega)).mp c; omega
    obtain ⟨f', e1, e2⟩ := r_pal z j (k + 1) n (upd f k (z k)) (by omega) (by omega)
    refine ⟨f', ?_, fun x => ?_⟩
    · rw [fX4_putAside_L2, if_neg e, if_pos (r_in (by omega) (by decide)), if_pos (r_in (by omega) (by decide)), r_nc (by omega), r_s, e1]
    · rw [e2 x]
      by_cases h1 : k + 1 ≤ x ∧ x < 114
      · rw [if_pos h1, if_pos (by omega)]
      · rw [if_neg h1]
        by_cases h2 : x = k
        · subst h2
          rw [if_pos (by omega), r_ue rfl]
        · rw [if_neg (by omega), r_un (by omega)]
theorem r_aside (z sp : Nat → Int32) : ∃ f, fX4_putAside z sp = some f ∧ ∀ x, x < 114 → f x = z x := by
  obtain ⟨f, e1, e2⟩ := r_pal z 114 0 1000 sp rfl (by decide)
  exact ⟨f, e1, fun x hx => by rw [e2, if_pos ⟨Nat.zero_le _, hx⟩]⟩
theorem r_bbl (z : Nat → Int32) : ∀ j k n (f : Nat → Int32), k + j = 114 → j < n → ∃ f', fX4_bringBack_L2 z n (Int32.ofNat k) f = some f' ∧ ∀ x, f' x = if k ≤ x ∧ x < 114 then z x else f x
  | 0, k, n + 1, f, h, _ => by
    have e : (114 : Int32) ≤ Int32.ofNat k := (r_le (a := 114) (by omega) (by omega)).mpr (by omega)
    refine ⟨f, ?_, fun x => by rw [if_neg (by omega)]⟩
    rw [fX4_bringBack_L2, if_pos e]
  | j + 1, k, n + 1, f, h, hn => by
    have e : ¬ (114 : Int32) ≤ Int32.ofNat k := fun c => by have := (r_le (a := 114) (by omega) (by omega)).mp c; omega
    obtain ⟨f', e1, e2⟩ := r_bbl z j (k + 1) n (upd f k (z k)) (by omega) (by omega)
    refine ⟨f', ?_, fun x => ?_⟩
    · rw [fX4_bringBack_L2, if_neg e, if_pos (r_in (by omega) (by decide)), if_pos (r_in (by omega) (by decide)), r_nc (by omega), r_s, e1]
    · rw [e2 x]
      by_cases h1 : k + 1 ≤ x ∧ x < 114
      · rw [if_pos h1, if_pos (by omega)]
      · rw [if_neg h1]
        by_cases h2 : x = k
        · subst h2
          rw [if_pos (by omega), r_ue rfl]
        · rw [if_neg (by omega), r_un (by omega)]
theorem r_back (z1 sp z : Nat → Int32) (h : ∀ x, x < 114 → sp x = z x) : ∃ f, fX4_bringBack z1 sp = some f ∧ ∀ x, x < 114 → f x = z x := by
  obtain ⟨f, e1, e2⟩ := r_bbl sp 114 0 1000 z1 rfl (by decide)
  exact ⟨f, e1, fun x hx => by rw [e2, if_pos ⟨Nat.zero_le _, hx⟩, h x hx]⟩
theorem r_cr {u : Nat → Nat → Int32} {z : Nat → Int32} {Q : List Nat} {t o : Nat} (R : RI u z) (q : RQ u z Q t) (ho : o < 8) : ∃ r, fX2_canRequest (Int32.ofNat o) u = some r ∧ fX4_canAsk (Int32.ofNat o) z = some r ∧ ((r = 1 ∧ o ∉ Q ∧ u 8 o = 0) ∨ r = 0) := by
  have l8 := q.len
  obtain ⟨r, h1, _, h3⟩ := r_to q ho
  unfold fX2_canRequest fX4_canAsk fX2_isThere
  rw [r_isT ho, R.o0 o ho, if_pos (r_in ho (by decide)), r_nc (by omega), h1, r_wz q ho]
  by_cases h8 : u 8 o = 0
  · rw [if_pos h8, if_pos h8, if_pos rfl, r_bs, if_neg r_10, r_bs, r_bs, if_neg r_10, r_bs]
    rcases h3 with ⟨e, hn⟩ | ⟨i, hi, e, ei⟩
    · rw [if_pos e, if_neg hn, if_pos rfl]
      exact ⟨1, rfl, rfl, Or.inl ⟨rfl, hn, h8⟩⟩
    · have n1 : ¬ r = -1 := by rw [e]; exact r_m1 (by omega)
      rw [if_neg n1, if_pos (r_mem.mpr ⟨i, hi, ei⟩), if_neg r_10]
      exact ⟨0, rfl, rfl, Or.inr rfl⟩
  · rw [if_neg h8, if_neg h8, if_neg r_01, r_bs, if_pos rfl, r_bs, if_pos rfl]
    exact ⟨0, rfl, rfl, Or.inr rfl⟩
theorem r_a3 (ak : Nat → Int32) (a b c : Int32) : ∀ i, i < 3 → upd (upd (upd ak 0 a) 1 b) 2 c i = if i = 0 then a else if i = 1 then b else c := by
  intro i hi
  have e : i = 0 ∨ i = 1 ∨ i = 2 := by omega
  rcases e with e | e | e <;> subst e <;> rfl
theorem r_wget {u : Nat → Nat → Int32} {z : Nat → Int32} {Q : List Nat} {t o : Nat} (R : RI u z) (q : RQ u z Q t) (ho : o < 8) (T : Nat → Nat → Int32) (ak : Nat → Int32) : ∃ T' ak', fX3_tryAsking (Int32.ofNat o) u T ak = some (T', ak') ∧ ∀ c, c < 3 → ∀ sp gn, ∃ z2 sp2 gn2, fX4_wouldGet (Int32.ofNat o) (Int32.ofNat c) z sp gn = some (ak' c, z2, sp2, gn2) ∧ ∀ x, x < 114 → z2 x = z x := by
  obtain ⟨r, h1, h2, h3⟩ := r_cr R q ho
  unfold fX3_tryAsking
  rw [h1, r_bs, r_l0, r_l1, r_l2]
  rcases h3 with ⟨hr, hn, h8⟩ | hr
  · subst hr
    obtain ⟨g, u1, _, _, _, a1, _, _, _, _, a6⟩ := r_ask R q (fun _ => 0) ho hn h8
    have v4 : ∃ v : Int32, (if g = (-1) then some (0 : Int32) else if pq_in g 8 then if pq_in g 8 then if (u1 7) g.toNatClampNeg ≤ (u 7) g.toNatClampNeg then some (0 : Int32) else some (1 : Int32) else none else none : Option Int32) = some v := by
      rcases a6 with e | ⟨c, c8, e⟩
      · exact ⟨0, if_pos e⟩
      · rw [e, if_neg (r_m1 (by omega)), if_pos (r_in c8 (by decide)), if_pos (r_in c8 (by decide))]
        split
        · exact ⟨0, rfl⟩
        · exact ⟨1, rfl⟩
    obtain ⟨v, hv⟩ := v4
    rw [if_neg r_10, r_cpy R, r_bs, a1, r_bs]
    dsimp only
    rw [hv, r_bs]
    refine ⟨_, _, rfl, fun c hc sp gn => ?_⟩
    rw [r_a3 _ _ _ _ c hc]
    obtain ⟨sp1, s1, s2⟩ := r_aside z sp
    obtain ⟨g', u1', z1, gn1, P, b1, b2, b3, b4, _⟩ := r_ask R q gn ho hn h8
    rw [b1] at a1
    have e1 := congrArg Prod.fst (Option.some.inj a1)
    have e2 := congrArg Prod.snd (Option.some.inj a1)
    dsimp only at e1 e2
    subst e1 e2
    obtain ⟨z2, k1, k2⟩ := r_back z1 sp1 z s2
    unfold fX4_wouldGet
    rw [h2, r_bs, if_neg r_10, s1, r_bs, b2, r_bs]
    dsimp only
    rw [k1]
    have ec : c = 0 ∨ c = 1 ∨ c = 2 := by omega
    rcases ec with ec | ec | ec
    · subst ec
      rw [if_neg (show ¬ Int32.ofNat 0 = 1 by decide), if_neg (show ¬ Int32.ofNat 0 = 2 by decide), r_bs, if_pos rfl]
      exact ⟨z2, sp1, gn1, rfl, k2⟩
    · subst ec
      have m : (if g' = (-1) then some (0 : Int32) else (fX4_of g' 5 z1).bind fun r7 => if pq_in ((26 + (6 * g')) + 5) 114 then if r7 ≤ sp1 ((26 + (6 * g')) + 5).toNatClampNeg then some (0 : Int32) else some (1 : Int32) else none : Option Int32) = some v := by
        rw [← hv]
        rcases a6 with e | ⟨d, d8, e⟩
        · rw [if_pos e, if_pos e]
        · have e5 : (26 + 6 * Int32.ofNat d) + 5 = Int32.ofNat (26 + 6 * d + 5) := r_pi d 5
          rw [e, if_neg (r_m1 (by omega)), if_neg (r_m1 (by omega)), r_of5 d8, r_bs, e5, if_pos (r_in (by omega) (by decide)), if_pos (r_in d8 (by decide)), if_pos (r_in d8 (by decide)), r_nc (by omega), r_nc (by omega), s2 _ (by omega), b3.p5 d d8, R.p5 d d8]
      rw [if_pos (show Int32.ofNat 1 = 1 from rfl), m, r_bs, r_bs, if_neg (by decide), if_pos rfl]
      exact ⟨z2, sp1, gn1, rfl, k2⟩
    · subst ec
      rw [if_neg (show ¬ Int32.ofNat 2 = 1 by decide), if_pos (show Int32.ofNat 2 = 2 from rfl), r_bs, if_neg (by decide), if_neg (by decide), r_l11]
      refine ⟨z2, sp1, gn1, ?_, k2⟩
      have f1 : z1 11 = u1' 15 1 := b3.tt 1 (by decide)
      have f2 : z 11 = u 15 1 := R.tt 1 (by decide)
      rw [f1, f2]
  · subst hr
    rw [if_pos rfl]
    refine ⟨_, _, rfl, fun c hc sp gn => ?_⟩
    rw [r_a3 _ _ _ _ c hc]
    unfold fX4_wouldGet
    rw [h2, r_bs, if_pos rfl]
    refine ⟨z, sp, gn, ?_, fun _ _ => rfl⟩
    have ec : c = 0 ∨ c = 1 ∨ c = 2 := by omega
    rcases ec with ec | ec | ec <;> subst ec <;> rfl
theorem r_a4 (ak : Nat → Int32) (a b c d : Int32) : ∀ i, i < 4 → upd (upd (upd (upd ak 0 a) 1 b) 2 c) 3 d i = if i = 0 then a else if i = 1 then b else if i = 2 then c else d := by
  intro i hi
  have e : i = 0 ∨ i = 1 ∨ i = 2 ∨ i = 3 := by omega
  rcases e with e | e | e | e <;> subst e <;> rfl
theorem r_wbe {u : Nat → Nat → Int32} {z : Nat → Int32} {Q : List Nat} {t m : Nat} (R : RI u z) (q : RQ u z Q t) (Y : r_quiet u Q) (hm : m < 1000) (T : Nat → Nat → Int32) (pa : Nat → Int32) : ∃ T' pa', fX3_tryPassing (Int32.ofNat m) u T pa = some (T', pa') ∧ ∀ c, c < 4 → ∀ sp gn, ∃ z2 sp2 gn2, fX4_wouldBe (Int32.ofNat m) (Int32.ofNat c) z sp gn = some (pa' c, z2, sp2, gn2) ∧ ∀ x, x < 114 → z2 x = z x := by
  obtain ⟨b, u1, _, _, _, a1, _⟩ := r_go R q Y (fun _ => 0) hm
  unfold fX3_tryPassing
  rw [r_cpy R, r_bs, a1, r_bs]
  dsimp only
  rw [r_co, r_bs, r_l0, r_l1, r_l2, r_l3]
  refine ⟨_, _, rfl, fun c hc sp gn => ?_⟩
  rw [r_a4 _ _ _ _ _ c hc]
  obtain ⟨sp1, s1, s2⟩ := r_aside z sp
  obtain ⟨b', u1', z1, gn1, P, b1, b2, b3, b4, _⟩ := r_go R q Y gn hm
  rw [b1] at a1
  have e1 := congrArg Prod.fst (Option.some.inj a1)
  have e2 := congrArg Prod.snd (Option.some.inj a1)
  dsimp only at e1 e2
  subst e1 e2
  obtain ⟨z2, k1, k2⟩ := r_back z1 sp1 z s2
  unfold fX4_wouldBe
  rw [s1, r_bs, b2, r_bs]
  dsimp only
  rw [k1, r_cz b3, r_l11, r_l17, b4.n1]
  have f1 : z1 11 = u1' 15 1 := b3.tt 1 (by decide)
  have f2 : z 11 = u 15 1 := R.tt 1 (by decide)
  rw [f1, f2, b4.n2]
  have ec : c = 0 ∨ c = 1 ∨ c = 2 ∨ c = 3 := by omega
  rcases ec with ec | ec | ec | ec <;> subst ec
  · exact ⟨z2, sp1, gn1, rfl, k2⟩
  · exact ⟨z2, sp1, gn1, rfl, k2⟩
  · exact ⟨z2, sp1, gn1, rfl, k2⟩
  · exact ⟨z2, sp1, gn1, rfl, k2⟩
/-! waiting -/
theorem r_p1 (T : Nat → Nat → Int32) : fX2_passUnits 1 T = (r_unit T).bind fun r => some (0 + r.1, r.2) := by
  show fX2_passUnits_L4 1 (999 + 1) 0 0 T = _
  rw [r_unitc, if_neg (by decide)]
  congr 1
theorem r_61 (u : Nat → Nat → Int32) (x1 : Int32) (r : Int32 × (Nat → Nat → Int32)) : ∀ j k n (wt : Nat → Int32), k + j = 8 → j < n → ∃ w, fX3_tryWaiting_L61 u x1 r n (Int32.ofNat k) wt = some w ∧ ∀ o, o < 8 → w o = if k ≤ o ∧ wt o = -1 ∧ ¬ r.2 9 o ≤ u 9 o then x1 else wt o
  | 0, k, n + 1, wt, h, _ => by
    rw [fX3_tryWaiting_L61, if_pos ((r_8 (by omega)).mpr (by omega))]
    exact ⟨wt, rfl, fun o ho => by rw [if_neg (by omega)]⟩
  | j + 1, k, n + 1, wt, h, hn => by
    have hk : k < 8 := by omega
    have b1 : pq_in (Int32.ofNat k) 8 = true := r_in hk (by decide)
    have b3 : (Int32.ofNat k).toNatClampNeg = k := r_nc (by omega)
    rw [fX3_tryWaiting_L61, if_neg (r_8n hk), if_pos b1, if_pos b1, if_pos b1, if_pos b1, b3, r_s]
    have keep : ¬ (wt k = -1 ∧ ¬ r.2 9 k ≤ u 9 k) → ∃ w, fX3_tryWaiting_L61 u x1 r n (Int32.ofNat (k + 1)) wt = some w ∧ ∀ o, o < 8 → w o = if k ≤ o ∧ wt o = -1 ∧ ¬ r.2 9 o ≤ u 9 o then x1 else wt o := by
      intro hno
      obtain ⟨w, e1, e2⟩ := r_61 u x1 r j (k + 1) n wt (by omega) (by omega)
      refine ⟨w, e1, fun o ho => ?_⟩
      rw [e2 o ho]
      by_cases hok : o = k
      · subst hok
        rw [if_neg (by omega), if_neg (fun c => hno c.2)]
      · by_cases h1 : k + 1 ≤ o ∧ wt o = -1 ∧ ¬ r.2 9 o ≤ u 9 o
        · rw [if_pos h1, if_pos ⟨by omega, h1.2⟩]
        · rw [if_neg h1, if_neg (fun c => h1 ⟨by omega, c.2⟩)]
    by_cases hw : wt k = -1
    · rw [if_pos hw]
      by_cases hg : r.2 9 k ≤ u 9 k
      · rw [if_pos hg]
        exact keep (fun c => c.2 hg)
      · rw [if_neg hg]
        obtain ⟨w, e1, e2⟩ := r_61 u x1 r j (k + 1) n (upd wt k x1) (by omega) (by omega)
        refine ⟨w, e1, fun o ho => ?_⟩
        rw [e2 o ho]
        by_cases hok : o = k
        · subst hok
          rw [if_neg (by omega), r_ue rfl, if_pos ⟨Nat.le_refl _, hw, hg⟩]
        · rw [r_un (Ne.symm hok)]
          by_cases h1 : k + 1 ≤ o ∧ wt o = -1 ∧ ¬ r.2 9 o ≤ u 9 o
          · rw [if_pos h1, if_pos ⟨by omega, h1.2⟩]
          · rw [if_neg h1, if_neg (fun c => h1 ⟨by omega, c.2⟩)]
    · rw [if_neg hw]
      exact keep (fun c => hw c.1)
/-- who waits no longer keeps what was found of it -/
theorem r_wk (u : Nat → Nat → Int32) (o : Nat) (ho : o < 8) : ∀ j k n (T : Nat → Nat → Int32) (z : Nat → Int32) (Q : List Nat) (t : Nat) (wt : Nat → Int32), k + j = 100 → j < n → RI T z → RQ T z Q t → r_quiet T Q → o ∉ Q → (wt o ≠ -1 ∨ T 9 o ≤ u 9 o) → ∃ T' w, fX3_tryWaiting_L34 u n (Int32.ofNat k) T wt = some (T', w) ∧ w o = wt o
  | 0, k, n + 1, T, z, Q, t, wt, h, _, R, q, Y, hn, hw => by
    have e : (99 : Int32) < Int32.ofNat k := (r_lt (a := 99) (by omega) (by omega)).mpr (by omega)
    rw [fX3_tryWaiting_L34, if_pos e]
    exact ⟨T, wt, rfl, rfl⟩
  | j + 1, k, n + 1, T, z, Q, t, wt, h, hj, R, q, Y, hn, hw => by
    have e : ¬ (99 : Int32) < Int32.ofNat k := fun c => by have := (r_lt (a := 99) (by omega) (by omega)).mp c; omega
    rw [fX3_tryWaiting_L34, if_neg e]
    by_cases h0 : T 14 0 ≤ 0
    · rw [if_pos h0]
      exact ⟨T, wt, rfl, rfl⟩
    · obtain ⟨b, T1, z1, gn1, P, a1, _, a3, a4, a5, a6⟩ := r_tick R q (fun _ => 0)
      obtain ⟨w, e1, e2⟩ := r_61 u (Int32.ofNat k) (0 + b, T1) 8 0 1000 wt rfl (by decide)
      have e1 : fX3_tryWaiting_L61 u (Int32.ofNat k) (0 + b, T1) 1000 0 wt = some w := e1
      rw [if_neg h0, r_p1, a1, r_bs, r_bs, e1, r_bs, r_s]
      have hs : T1 9 o = T 9 o := a6.out o hn
      have hw1 : w o = wt o := by
        rw [e2 o ho, if_neg (fun c => ?_)]
        rcases hw with hw | hw
        · exact hw c.2.1
        · exact c.2.2 (by show T1 9 o ≤ u 9 o; rw [hs]; exact hw)
      obtain ⟨T', w', f1, f2⟩ := r_wk u o ho j (k + 1) n T1 z1 P (t + 1) w (by omega) (by omega) a3 a4 a5 (fun c => hn (a6.sub o c)) (by rw [hw1, hs]; exact hw)
      exact ⟨T', w', f1, f2.trans hw1⟩
/-- who waits is found as the model finds it -/
theorem r_wl (u : Nat → Nat → Int32) (o : Nat) (ho : o < 8) (s t0 : Nat) (hs : s ≤ t0) (ht0 : t0 < 500000) : ∀ j k n n' (T : Nat → Nat → Int32) (z gn : Nat → Int32) (Q : List Nat) (wt : Nat → Int32), k + 1 + j = 100 → j < n → j + 1 < n' → RI T z → RQ T z Q (t0 + k) → r_quiet T Q → o ∈ Q → T 12 o = Int32.ofNat s → wt o = -1 → T 9 o = u 9 o → (k = 0 ∨ t0 + k < s + 99) → ∃ T' w m z' gn', fX3_tryWaiting_L34 u n (Int32.ofNat (k + 1)) T wt = some (T', w) ∧ fX4_wouldWait_L23 (Int32.ofNat o) n' (Int32.ofNat k) z gn = some (m, z', gn') ∧ w o = if z' (74 + 5 * o + 2) ≤ u 9 o then -1 else m
  | 0, k, n, n', T, z, gn, Q, wt, h, _, _, R, q, Y, hm, h12, hw, h9, hb => by omega
  | j + 1, k, n + 1, n' + 1, T, z, gn, Q, wt, h, hj, hj', R, q, Y, hm, h12, hw, h9, hb => by
    have e : ¬ (99 : Int32) < Int32.ofNat (k + 1) := fun c => by have := (r_lt (a := 99) (by omega) (by omega)).mp c; omega
    have l8 := q.len
    have lq : Q.length ≠ 0 := by
      intro c
      rw [List.eq_nil_of_length_eq_zero c] at hm
      exact absurd hm List.not_mem_nil
    have h0 : ¬ T 14 0 ≤ 0 := by
      rw [q.n2]
      intro c
      have := (r_le (b := 0) (by omega) (by omega)).mp c
      omega
    obtain ⟨b, T1, z1, gn1, P, a1, a2, a3, a4, a5, a6⟩ := r_tick R q gn
    obtain ⟨w, e1, e2⟩ := r_61 u (Int32.ofNat (k + 1)) (0 + b, T1) 8 0 1000 wt rfl (by decide)
    have e1 : fX3_tryWaiting_L61 u (Int32.ofNat (k + 1)) (0 + b, T1) 1000 0 wt = some w := e1
    rw [fX3_tryWaiting_L34, if_neg e, if_neg h0, r_p1, a1, r_bs, r_bs, e1, r_bs, r_s, fX4_wouldWait_L23, r_wz q ho, r_bs, if_pos hm, if_neg r_10, a2, r_bs, r_s]
    dsimp only
    by_cases hP : o ∈ P
    · have hs9 : T1 9 o = u 9 o := (a6.stay o hP).trans h9
      have hw1 : w o = -1 := by
        rw [e2 o ho, if_neg (fun c => c.2.2 (by show T1 9 o ≤ u 9 o; rw [hs9]; exact Int32.le_refl _))]
        exact hw
      obtain ⟨s', k1, k2, k3⟩ := a6.soon o hP (by omega)
      rw [h12] at k1
      have k1 : s = s' := (r_eq (by omega) (by omega)).mp k1
      exact r_wl u o ho s t0 hs ht0 j (k + 1) n n' T1 z1 gn1 P w (by omega) (by omega) (by omega) a3 a4 a5 hP (by rw [a6.w12]; exact h12) hw1 hs9 (Or.inr (by omega))
    · have hz : z1 (74 + 5 * o + 2) = T1 9 o := a3.o2 o ho
      have hw1 : w o = if T1 9 o ≤ u 9 o then -1 else Int32.ofNat (k + 1) := by
        rw [e2 o ho]
        by_cases hg : T1 9 o ≤ u 9 o
        · rw [if_pos hg, if_neg (fun c => c.2.2 hg)]; exact hw
        · rw [if_neg hg, if_pos ⟨Nat.zero_le _, hw, hg⟩]
      obtain ⟨T', w', f1, f2⟩ := r_wk u o ho j (k + 1 + 1) n T1 z1 P _ w (by omega) (by omega) a3 a4 a5 hP (by
        rw [hw1]
        by_cases hg : T1 9 o ≤ u 9 o
        · exact Or.inr hg
        · rw [if_neg hg]; exact Or.inl (r_m1 (by omega)))
      match n', hj' with
      | n' + 1, hj' =>
        refine ⟨T', w', Int32.ofNat (k + 1), z1, gn1, f1, ?_, ?_⟩
        · rw [fX4_wouldWait_L23, r_wz a4 ho, r_bs, if_neg hP, if_pos rfl]
        · rw [f2, hw1, hz]
theorem r_w2l : ∀ j k n (wt : Nat → Int32), k + j = 8 → j < n → (∀ i, i < k → wt i = -1) → ∃ g, fX3_tryWaiting_L2 n (Int32.ofNat k) wt = some g ∧ ∀ i, i < 8 → g i = -1
  | 0, k, n + 1, gn, h, _, hk => by
    refine ⟨gn, ?_, fun i hi => hk i (by omega)⟩
    rw [fX3_tryWaiting_L2, if_pos ((r_8 (by omega)).mpr (by omega))]
  | j + 1, k, n + 1, gn, h, hn, hk => by
    rw [fX3_tryWaiting_L2, if_neg (r_8n (by omega)), if_pos (r_in (by omega) (by decide)), r_nc (by omega), r_s]
    refine r_w2l j (k + 1) n _ (by omega) (by omega) (fun i hi => ?_)
    by_cases e : k = i
    · exact r_ue e
    · rw [r_un e]; exact hk i (by omega)
theorem r_wwt {u : Nat → Nat → Int32} {z : Nat → Int32} {Q : List Nat} {t : Nat} (R : RI u z) (q : RQ u z Q t) (Y : r_quiet u Q) (ht : t < 500000) (T : Nat → Nat → Int32) (wt : Nat → Int32) : ∃ T' w, fX3_tryWaiting u T wt = some (T', w) ∧ ∀ o, o < 8 → ∀ sp gn, ∃ z2 sp2 gn2, fX4_wouldWait (Int32.ofNat o) z sp gn = some (w o, z2, sp2, gn2) ∧ ∀ x, x < 114 → z2 x = z x := by
  obtain ⟨w0, c1, c2⟩ := r_w2l 8 0 1000 wt rfl (by decide) (fun i hi => absurd hi (Nat.not_lt_zero _))
  have c1 : fX3_tryWaiting_L2 1000 0 wt = some w0 := c1
  unfold fX3_tryWaiting
  rw [c1, r_bs, r_cpy R, r_bs]
  have one : ∀ o, o < 8 → ∃ T' w, fX3_tryWaiting_L34 u 1000 1 u w0 = some (T', w) ∧ ∀ sp gn, ∃ z2 sp2 gn2, fX4_wouldWait (Int32.ofNat o) z sp gn = some (w o, z2, sp2, gn2) ∧ ∀ x, x < 114 → z2 x = z x := by
    intro o ho
    by_cases hm : o ∈ Q
    · obtain ⟨s, hs, h12⟩ := q.ws o hm
      obtain ⟨T', w, m, z', gn', f1, _, _⟩ := r_wl u o ho s t hs ht 99 0 1000 1000 u z (fun _ => 0) Q w0 rfl (by decide) (by decide) R q Y hm h12 (c2 o ho) rfl (Or.inl rfl)
      refine ⟨T', w, f1, fun sp gn => ?_⟩
      obtain ⟨T2, w2, m, z', gn', g1, g2, g3⟩ := r_wl u o ho s t hs ht 99 0 1000 1000 u z gn Q w0 rfl (by decide) (by decide) R q Y hm h12 (c2 o ho) rfl (Or.inl rfl)
      rw [f1] at g1
      have e2 := congrArg Prod.snd (Option.some.inj g1)
      dsimp only at e2
      subst e2
      obtain ⟨sp1, s1, s2⟩ := r_aside z sp
      obtain ⟨z2, k1, k2⟩ := r_back z' sp1 z s2
      have g2 : fX4_wouldWait_L23 (Int32.ofNat o) 1000 0 z gn = some (m, z', gn') := g2
      refine ⟨z2, sp1, gn', ?_, k2⟩
      unfold fX4_wouldWait
      rw [r_wz q ho, r_bs, if_pos hm, if_neg r_10, s1, r_bs, r_its2 ho, r_bs, g2, r_bs]
      dsimp only
      rw [r_its2 ho, r_bs, R.o2 o ho, k1, g3]
      by_cases hg : z' (74 + 5 * o + 2) ≤ u 9 o
      · rw [if_pos hg, if_pos hg]; rfl
      · rw [if_neg hg, if_neg hg]; rfl
    · obtain ⟨T', w, f1, f2⟩ := r_wk u o ho 99 1 1000 u z Q t w0 rfl (by decide) R q Y hm (Or.inr (Int32.le_refl _))
      refine ⟨T', w, f1, fun sp gn => ⟨z, sp, gn, ?_, fun _ _ => rfl⟩⟩
      unfold fX4_wouldWait
      rw [r_wz q ho, r_bs, if_neg hm, if_pos rfl, f2, c2 o ho]
  obtain ⟨T', w, f1, _⟩ := one 0 (by decide)
  refine ⟨T', w, f1, fun o ho => ?_⟩
  obtain ⟨T2, w2, g1, g2⟩ := one o ho
  rw [f1] at g1
  have e2 := congrArg Prod.snd (Option.some.inj g1)
  dsimp only at e2
  subst e2
  exact g2
