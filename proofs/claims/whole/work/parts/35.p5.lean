/-! ===== pure rows: the calls that ask, give, appear, sicken, set ===== -/
def r_eu (u : Nat → Nat → Int32) (n o : Nat) : Nat → Nat → Int32 := pu (pu (pu u 12 (upd (u 12) o (u 0 0))) 13 (upd (u 13) n (Int32.ofNat o))) 14 (fun _ => Int32.ofNat (n + 1))
def r_ey (z : Nat → Int32) (n o : Nat) : Nat → Int32 := upd (upd (upd z (18 + n) (Int32.ofNat o)) 17 (Int32.ofNat (n + 1))) (74 + 5 * o + 1) (z 9)
theorem r_room {u : Nat → Nat → Int32} {z : Nat → Int32} {Q : List Nat} {t o : Nat} (q : RQ u z Q t) (ho : o < 8) (hn : o ∉ Q) : Q.length < 8 := by
  have e := r_pig 8 (o :: Q) (List.nodup_cons.mpr ⟨hn, q.nd⟩) (fun x hx => by
    rcases List.mem_cons.mp hx with h | h
    · rw [h]; exact ho
    · exact q.lt x h)
  rw [List.length_cons] at e
  omega
theorem r_ga (Q : List Nat) (o k : Nat) : (Q ++ [o]).getD k 0 = if k < Q.length then Q.getD k 0 else if k = Q.length then o else 0 := by
  rw [List.getD_eq_getElem?_getD, List.getD_eq_getElem?_getD, List.getElem?_append]
  by_cases h : k < Q.length
  · rw [if_pos h, if_pos h]
  · rw [if_neg h, if_neg h]
    by_cases e : k = Q.length
    · subst e
      rw [if_pos rfl, Nat.sub_self]; rfl
    · rw [if_neg e]
      have : ∃ d, k - Q.length = d + 1 := ⟨k - Q.length - 1, by omega⟩
      obtain ⟨d, hd⟩ := this
      rw [hd]; rfl
theorem RI.enq {u : Nat → Nat → Int32} {z : Nat → Int32} (R : RI u z) {n o : Nat} (hn : n < 8) (ho : o < 8) : RI (r_eu u n o) (r_ey z n o) := by
  refine R.frame (fun c h1 h2 h3 => ?_) (fun x hx hx2 => ?_)
  · unfold r_eu
    rw [r_pn (Ne.symm h3), r_pn (Ne.symm h2), r_pn (Ne.symm h1)]
  · unfold r_ey
    rw [r_un (Ne.symm (hx2 o ho)), r_un (by omega), r_un (by omega)]
theorem RQ.enq {u : Nat → Nat → Int32} {z : Nat → Int32} {Q : List Nat} {t o : Nat} (R : RI u z) (q : RQ u z Q t) (ho : o < 8) (hn : o ∉ Q) (h8 : u 8 o = 0) : RQ (r_eu u Q.length o) (r_ey z Q.length o) (Q ++ [o]) t := by
  have l7 := r_room q ho hn
  have hl : (Q ++ [o]).length = Q.length + 1 := by rw [List.length_append]; rfl
  refine RQ.mk ?_ ?_ ?_ ?_ ?_ ?_ ?_ ?_ ?_ ?_
  · rw [hl]; simp (disch := omega) only [r_ey, r_pa, r_pb, r_pe, r_pn, r_ue, r_un]
  · rw [hl]; simp (disch := omega) only [r_eu, r_pa, r_pb, r_pe, r_pn, r_ue, r_un]
  · intro k hk
    rw [r_ga]
    by_cases h1 : k < Q.length
    · rw [if_pos h1, ← q.q1 k hk]
      simp (disch := omega) only [r_ey, r_pa, r_pb, r_pe, r_pn, r_ue, r_un]
    · rw [if_neg h1]
      by_cases h2 : k = Q.length
      · subst h2
        rw [if_pos rfl]
        simp (disch := omega) only [r_ey, r_pa, r_pb, r_pe, r_pn, r_ue, r_un]
      · rw [if_neg h2, ← r_gz (Q := Q) (i := k) (by omega), ← q.q1 k hk]
        simp (disch := omega) only [r_ey, r_pa, r_pb, r_pe, r_pn, r_ue, r_un]
  · intro k hk
    rw [hl] at hk
    rw [r_ga]
    by_cases h1 : k < Q.length
    · rw [if_pos h1, ← q.q2 k h1]
      simp (disch := omega) only [r_eu, r_pa, r_pb, r_pe, r_pn, r_ue, r_un]
    · have h2 : k = Q.length := by omega
      subst h2
      rw [if_neg h1, if_pos rfl]
      simp (disch := omega) only [r_eu, r_pa, r_pb, r_pe, r_pn, r_ue, r_un]
  · rw [List.nodup_append]
    refine ⟨q.nd, List.nodup_cons.mpr ⟨List.not_mem_nil, List.nodup_nil⟩, fun a ha b hb => ?_⟩
    rw [List.mem_singleton.mp hb]
    intro c
    exact hn (c ▸ ha)
  · intro x hx
    rcases List.mem_append.mp hx with h | h
    · exact q.lt x h
    · rw [List.mem_singleton.mp h]; exact ho
  · intro x hx
    have e : r_eu u Q.length o 8 = u 8 := rfl
    rw [e]
    rcases List.mem_append.mp hx with h | h
    · exact q.th x h
    · rw [List.mem_singleton.mp h]; exact h8
  · intro k hk
    by_cases h : k = o
    · subst h
      rw [if_pos (List.mem_append.mpr (Or.inr (List.mem_singleton.mpr rfl)))]
      simp (disch := omega) only [r_ey, r_eu, r_pa, r_pb, r_pe, r_pn, r_ue, r_un]
      exact R.tm
    · have e := q.o1 k hk
      have m : (k ∈ Q ++ [o]) ↔ k ∈ Q := ⟨fun c => (List.mem_append.mp c).elim (fun c => c) (fun c => absurd (List.mem_singleton.mp c) h), fun c => List.mem_append.mpr (Or.inl c)⟩
      simp (disch := omega) only [r_ey, r_eu, r_pa, r_pb, r_pe, r_pn, r_ue, r_un, m]
      exact e
  · exact q.tm
  · intro x hx
    rcases List.mem_append.mp hx with h | h
    · by_cases e : x = o
      · exact absurd (e ▸ h) hn
      · obtain ⟨s, h1, h2⟩ := q.ws x h
        refine ⟨s, h1, ?_⟩
        simp (disch := omega) only [r_eu, r_pa, r_pb, r_pe, r_pn, r_ue, r_un]
        exact h2
    · rw [List.mem_singleton.mp h]
      refine ⟨t, Nat.le_refl _, ?_⟩
      simp (disch := omega) only [r_eu, r_pa, r_pb, r_pe, r_pn, r_ue, r_un]
      exact q.tm
theorem RQ.none {u : Nat → Nat → Int32} {z : Nat → Int32} {t : Nat} (h1 : z 17 = Int32.ofNat 0) (h2 : u 14 0 = Int32.ofNat 0) (h3 : ∀ k, k < 8 → z (18 + k) = 0) (h4 : ∀ o, o < 8 → z (74 + 5 * o + 1) = 0) (h5 : u 0 0 = Int32.ofNat t) : RQ u z [] t := by
  refine RQ.mk h1 h2 (fun k hk => ?_) (fun k hk => absurd hk (Nat.not_lt_zero _)) List.nodup_nil (fun o ho => absurd ho List.not_mem_nil) (fun o ho => absurd ho List.not_mem_nil) (fun o ho => ?_) h5 (fun o ho => absurd ho List.not_mem_nil)
  · rw [h3 k hk]; rfl
  · rw [h4 o ho, if_neg List.not_mem_nil]
theorem r_gnl : ∀ j k n (gn : Nat → Int32), k + j = 8 → j < n → (∀ i, i < k → gn i = -1) → ∃ g, fX4_askIt_L2 n (Int32.ofNat k) gn = some g ∧ ∀ i, i < 8 → g i = -1
  | 0, k, n + 1, gn, h, _, hk => by
    refine ⟨gn, ?_, fun i hi => hk i (by omega)⟩
    rw [fX4_askIt_L2, if_pos ((r_8 (by omega)).mpr (by omega))]
  | j + 1, k, n + 1, gn, h, hn, hk => by
    rw [fX4_askIt_L2, if_neg (r_8n (by omega)), if_pos (r_in (by omega) (by decide)), r_nc (by omega), r_s]
    refine r_gnl j (k + 1) n _ (by omega) (by omega) (fun i hi => ?_)
    by_cases e : k = i
    · exact r_ue e
    · rw [r_un e]; exact hk i (by omega)
theorem r_ask {u : Nat → Nat → Int32} {z : Nat → Int32} {Q : List Nat} {t o : Nat} (R : RI u z) (q : RQ u z Q t) (gn : Nat → Int32) (ho : o < 8) (hn : o ∉ Q) (h8 : u 8 o = 0) : ∃ g u' z' gn' P, fX2_request (Int32.ofNat o) u = some (g, u') ∧ fX4_askIt (Int32.ofNat o) z gn = some (g, z', gn') ∧ RI u' z' ∧ RQ u' z' P t ∧ r_quiet u' P ∧ (g = -1 ∨ ∃ c, c < 8 ∧ g = Int32.ofNat c) := by
  have l7 := r_room q ho hn
  obtain ⟨g0, e0, hg0⟩ := r_gnl 8 0 1000 gn rfl (by decide) (fun i hi => absurd hi (Nat.not_lt_zero _))
  have e0 : fX4_askIt_L2 1000 0 gn = some g0 := e0
  have Re := R.enq l7 ho
  have qe := q.enq R ho hn h8
  have cls : fX2_request (Int32.ofNat o) u = fX2_serveWaiters (Int32.ofNat o) (r_eu u Q.length o) := by
    have e1 : ¬ (8 : Int32) ≤ Int32.ofNat Q.length := r_8n l7
    unfold fX2_request
    rw [q.n2, if_neg e1, if_pos (r_in l7 (by decide)), if_pos (r_in ho (by decide)), r_nc (by omega), r_nc (by omega), r_s]
    show (fX2_serveWaiters (Int32.ofNat o) (r_eu u Q.length o)).bind _ = _
    cases fX2_serveWaiters (Int32.ofNat o) (r_eu u Q.length o) <;> rfl
  have enq : ∀ z1 : Nat → Int32, z1 17 = Int32.ofNat Q.length → ∀ v : Nat → Int32, (if pq_in (18 + (z1 (17 : Int32).toNatClampNeg)) 114 then (fX4_lay (Int32.ofNat o) 1 ((upd (upd z1 (18 + (z1 (17 : Int32).toNatClampNeg)).toNatClampNeg (Int32.ofNat o)) (17 : Int32).toNatClampNeg (((upd z1 (18 + (z1 (17 : Int32).toNatClampNeg)).toNatClampNeg (Int32.ofNat o)) (17 : Int32).toNatClampNeg) + 1)) (9 : Int32).toNatClampNeg) (upd (upd z1 (18 + (z1 (17 : Int32).toNatClampNeg)).toNatClampNeg (Int32.ofNat o)) (17 : Int32).toNatClampNeg (((upd z1 (18 + (z1 (17 : Int32).toNatClampNeg)).toNatClampNeg (Int32.ofNat o)) (17 : Int32).toNatClampNeg) + 1))).bind fun r7 => some (r7, v) else none) = some (r_ey z1 Q.length o, v) := by
    intro z1 h17 v
    rw [r_l17, r_l9, h17, r_qi, if_pos (r_in (by omega) (by decide)), r_nc (by omega), r_lay1 ho, r_bs, r_un (i := 18 + Q.length) (j := 17) (by omega), h17, r_s, r_un (i := 17) (j := 9) (by omega), r_un (i := 18 + Q.length) (j := 9) (by omega)]
    rfl
  rw [cls]
  unfold fX4_askIt
  rw [e0, r_bs, r_mz R ho, r_bs]
  have plain : ∃ g u' z' gn' P, fX2_serveWaiters (Int32.ofNat o) (r_eu u Q.length o) = some (g, u') ∧ ((fX4_serve (r_ey z Q.length o) g0).bind fun r9 => if pq_in (Int32.ofNat o) 8 then some (r9.2 (Int32.ofNat o).toNatClampNeg, r9.1, r9.2) else none) = some (g, z', gn') ∧ RI u' z' ∧ RQ u' z' P t ∧ r_quiet u' P ∧ (g = -1 ∨ ∃ c, c < 8 ∧ g = Int32.ofNat c) := by
    obtain ⟨g', u', z', gn', P, a1, a2, a3, a4, a5, _, _, _, a9, a10⟩ := r_serve Re qe (Int32.ofNat o) g0
    refine ⟨g', u', z', gn', P, a1, ?_, a3, a4, a5, a10⟩
    rw [a2, r_bs, if_pos (r_in ho (by decide)), r_nc (by omega)]
    dsimp only
    rw [a9 o ho rfl (hg0 o ho)]
  by_cases hm : u 1 1 ≤ Int32.ofNat (r_lc u o)
  · rw [if_pos hm, if_pos rfl, r_bs, if_pos rfl, enq z q.n1 g0, r_bs]
    exact plain
  · rw [if_neg hm, if_neg r_10, r_l17, q.n1]
    by_cases hl : Q.length = 0
    · have hQ : Q = [] := List.eq_nil_of_length_eq_zero hl
      subst hQ
      rw [if_pos (show Int32.ofNat ([] : List Nat).length = 0 from rfl)]
      have Rx : RI (r_eu u 0 o) z := R.frame (fun c h1 h2 h3 => by
        unfold r_eu
        rw [r_pn (Ne.symm h3), r_pn (Ne.symm h2), r_pn (Ne.symm h1)]) (fun _ _ _ => rfl)
      obtain ⟨p, u1, z1, f1, f2, R1, F1, W1, f3⟩ := r_find Rx
      have z17 : z1 17 = Int32.ofNat ([] : List Nat).length := by rw [F1.zq 17 (by decide) (by decide)]; exact q.n1
      rw [f2, r_bs, r_bs]
      obtain ⟨r, s, t1, t2, t3⟩ := r_ft Re qe
      have hm' : r_may (r_eu u 0 o) o := hm
      have hr : r = Int32.ofNat 0 := by
        rcases t3 with ⟨_, _, hno⟩ | ⟨k, hk, er, _, _⟩
        · exact absurd hm' (hno o (List.mem_append.mpr (Or.inr (List.mem_singleton.mpr rfl))))
        · have hk : k < 1 := hk
          rw [er]
          have : k = 0 := by omega
          rw [this]
      have hb : fX2_firstTurnThatMayHaveOne (r_eu u 0 o) = some (Int32.ofNat 0) := hr ▸ t1
      have cl : fX2_serveWaiters (Int32.ofNat o) (r_eu u 0 o) = fX2_serveWaiters_L4 (Int32.ofNat o) (999 + 1) (-1) (Int32.ofNat 0) (r_eu u 0 o) := rfl
      have cl2 : fX2_serveWaiters (Int32.ofNat o) (r_eu u ([] : List Nat).length o) = fX2_serveWaiters (Int32.ofNat o) (r_eu u 0 o) := rfl
      rw [cl2, cl, fX2_serveWaiters_L4, if_neg (r_8n (by omega)), hb, r_bs, if_neg (r_m1 (by omega)), f1, r_bs, r_bs]
      rcases f3 with ⟨fp, hno, hco⟩ | ⟨c, c8, fp, _⟩
      · have e3 := enq z1 z17 g0
        rw [r_l17] at e3
        dsimp only
        rw [if_pos fp, if_pos fp, e3, r_bs]
        have R2 : RI u1 (r_ey z1 0 o) := (R1.enq (n := 0) (o := o) (by omega) ho).frame (fun c h1 h2 h3 => by
          unfold r_eu
          rw [r_pn (Ne.symm h3), r_pn (Ne.symm h2), r_pn (Ne.symm h1)]) (fun _ _ _ => rfl)
        have q2 : RQ u1 (r_ey z1 0 o) [o] t := by
          refine qe.frame F1.a0 F1.a8 F1.a12 F1.a13 F1.a14 (fun k h1 h2 => ?_) (fun k hk => ?_)
          · show r_ey z1 0 o k = r_ey z 0 o k
            unfold r_ey
            by_cases e1 : 74 + 5 * o + 1 = k
            · omega
            · rw [r_un e1, r_un e1]
              by_cases e2 : 17 = k
              · rw [r_ue e2, r_ue e2]
              · rw [r_un e2, r_un e2]
                by_cases e3 : 18 + 0 = k
                · rw [r_ue e3, r_ue e3]
                · rw [r_un e3, r_un e3, F1.zq k h1 h2]
          · show r_ey z1 0 o _ = r_ey z 0 o _
            unfold r_ey
            have e9 : z1 9 = z 9 := by rw [R1.tm, R.tm, F1.a0]; rfl
            by_cases e1 : k = o
            · subst e1
              rw [r_ue rfl, r_ue rfl, e9]
            · rw [r_un (by omega), r_un (by omega), r_un (by omega), r_un (by omega), r_un (by omega), r_un (by omega), F1.zw k hk]
        have Y : r_quiet u1 [o] := Or.inr ⟨hno, hco⟩
        have s3 : fX4_serve (r_ey z1 ([] : List Nat).length o) g0 = some (r_ey z1 0 o, g0) := r_still R2 q2 Y g0
        rw [s3, r_bs, if_pos (r_in ho (by decide)), r_nc (by omega)]
        refine ⟨-1, u1, r_ey z1 0 o, g0, [o], rfl, ?_, R2, q2, Y, Or.inl rfl⟩
        dsimp only
        rw [hg0 o ho]
      · have np : ¬ p = -1 := by rw [fp]; exact r_m1 (by omega)
        have d13 : u1 13 0 = Int32.ofNat o := by rw [F1.a13]; rfl
        have d12 : u1 12 o = u 0 0 := by rw [F1.a12]; show upd (u 12) o (u 0 0) o = u 0 0; exact r_ue rfl
        have d0 : u1 0 0 = u 0 0 := by rw [F1.a0]; rfl
        have d11 : r_wu u1 o = u1 := by
          have e : u1 11 o + (u1 0 0 - u1 12 o) = u1 11 o := by rw [d12, d0, Int32.sub_self, Int32.add_zero]
          unfold r_wu
          rw [e]
          have e2 : upd (u1 11) o (u1 11 o) = u1 11 := by
            funext k
            by_cases hk : o = k
            · subst hk; exact r_ue rfl
            · exact r_un hk
          rw [e2, r_pid]
        have qx : RQ u1 (r_ey z 0 o) [o] t := qe.frame F1.a0 F1.a8 F1.a12 F1.a13 F1.a14 (fun _ _ _ => rfl) (fun _ _ => rfl)
        obtain ⟨u3, z3, e4, _, e6, _, e8, _⟩ := r_leave qx (i := 0) Nat.zero_lt_one
        have e8 : u3 14 0 = Int32.ofNat 0 := e8
        have b1 : pq_in (Int32.ofNat 0) 8 = true := rfl
        have b2 : pq_in (Int32.ofNat o) 8 = true := r_in ho (by decide)
        have b3 : (Int32.ofNat 0).toNatClampNeg = 0 := rfl
        have b4 : (Int32.ofNat o).toNatClampNeg = o := r_nc (by omega)
        have e4' : fX2_leave (Int32.ofNat 0) (pu u1 11 (upd (u1 11) o (u1 11 o + (u1 0 0 - u1 12 o)))) = some u3 := by
          have e : pu u1 11 (upd (u1 11) o (u1 11 o + (u1 0 0 - u1 12 o))) = u1 := d11
          rw [e]; exact e4
        have cm : ¬ Int32.ofNat c = -1 := r_m1 (by omega)
        simp only [fp, cm, b3, d13, b1, b2, b4, if_true, if_false]
        rw [e4', r_bs, r_xle u3 c8 ho, r_bs, r_s, r_yle z1 g0 c8 ho, r_bs, r_bs]
        have R3 : RI u3 z1 := R1.frame (fun k _ h3 h4 => e6 k h3 h4) (fun _ _ _ => rfl)
        have R4 := R3.lend (p := c) (o := o) c8 ho
        have q4 : RQ (r_lu u3 c o) (r_ly z1 c o) [] t := by
          refine RQ.none ?_ ?_ (fun k hk => ?_) (fun k hk => ?_) ?_
          · simp (disch := omega) only [r_ly, r_pa, r_pb, r_pe, r_pn, r_ue, r_un]
            exact z17
          · exact e8
          · simp (disch := omega) only [r_ly, r_pa, r_pb, r_pe, r_pn, r_ue, r_un]
            rw [F1.zq (18 + k) (by omega) (by omega), q.q1 k hk]; rfl
          · simp (disch := omega) only [r_ly, r_pa, r_pb, r_pe, r_pn, r_ue, r_un]
            rw [F1.zw k hk, q.o1 k hk, if_neg List.not_mem_nil]
          · show u3 0 0 = _
            rw [e6 0 (by decide) (by decide), d0]; exact q.tm
        have Y : r_quiet (r_lu u3 c o) [] := Or.inl (fun o ho => absurd ho List.not_mem_nil)
        obtain ⟨r2, s2, v1, _, v3⟩ := r_ft R4 q4
        have v3 : r2 = -1 := by
          rcases v3 with ⟨a, _, _⟩ | ⟨k, hk, _⟩
          · exact a
          · exact absurd hk (Nat.not_lt_zero _)
        rw [show (999 : Nat) = 998 + 1 from rfl, fX2_serveWaiters_L4, if_neg (r_8n (by omega)), v1, r_bs, if_pos v3, r_bs, if_pos rfl, r_still R4 q4 Y, r_bs]
        refine ⟨Int32.ofNat c, r_lu u3 c o, r_ly z1 c o, upd g0 o (Int32.ofNat c), [], rfl, ?_, R4, q4, Y, Or.inr ⟨c, c8, rfl⟩⟩
        dsimp only
        rw [r_ue rfl]
    · have e1 : ¬ Int32.ofNat Q.length = 0 := fun c => hl ((r_eq (b := 0) (by omega) (by omega)).mp c)
      rw [if_neg e1, r_bs, if_pos rfl, ← r_l17, enq z q.n1 g0, r_bs]
      exact plain
