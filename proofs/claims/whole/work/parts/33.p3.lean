/-! ===== pure rows: a connection is looked for; a waiter leaves; a connection is lent ===== -/
theorem r_cis (u : Nat → Nat → Int32) {p : Nat} (hp : p < 8) : fX2_closeIfSick (Int32.ofNat p) u = some (if u 4 p = 0 then (0, r_bu u 5) else (1, r_bu (r_cu (r_bu u 5) p) 2)) := by
  unfold fX2_closeIfSick
  rw [if_pos (r_in hp (by decide)), r_nc (by omega), r_l5, r_l2]
  by_cases h : u 4 p = 0
  · rw [if_pos h, if_pos h]; rfl
  · rw [if_neg h, if_neg h, r_xcl _ hp, r_bs]; rfl
theorem r_fcl : ∀ j i n n' (u : Nat → Nat → Int32) (z : Nat → Int32) (r : Int32), i + j = 8 → j < n → j < n' → RI u z → r_many u 1 ≤ j → fX4_nextIdle z = some r → ∃ p u' z', fX2_findConnection_L2 n (Int32.ofNat i) u = some (p, u') ∧ fX4_look_L21 (if u 1 4 = 0 then 0 else 1) n' r z = some (p, z') ∧ RI u' z' ∧ RF u z u' z' ∧ RW u u' ∧ ((p = -1 ∧ (∀ i, i < 8 → u' 2 i ≠ 1) ∧ u' 1 0 ≤ Int32.ofNat (r_con u')) ∨ ∃ c, c < 8 ∧ p = Int32.ofNat c ∧ u' 2 c = 1)
  | 0, i, n + 1, n' + 1, u, z, r, h, _, _, R, hm, hr => by
    have hi : i = 8 := by omega
    subst hi
    obtain ⟨r', _, e2, e3⟩ := r_ni R
    rw [e2] at hr
    have hr := Option.some.inj hr
    subst hr
    have hno := r_many0 (by omega : r_many u 1 = 0)
    rcases e3 with ⟨e3, _⟩ | ⟨c, c8, _, c1⟩
    · rw [fX2_findConnection_L2, fX4_look_L21, if_pos ((r_8 (by omega)).mpr (by omega)), if_pos e3, if_pos e3]
      obtain ⟨p, u', z', t1, t2, R', F', W', t3⟩ := r_tail R
      refine ⟨p, u', z', t1, t2, R', F', W', ?_⟩
      rcases t3 with ⟨a, b, c⟩ | t3
      · subst b; exact Or.inl ⟨a, hno, c⟩
      · exact Or.inr t3
    · exact absurd c1 (hno c c8)
  | j + 1, i, n + 1, n' + 1, u, z, r, h, hn, hn', R, hm, hr => by
    obtain ⟨r', e1, e2, e3⟩ := r_ni R
    rw [e2] at hr
    have hr := Option.some.inj hr
    subst hr
    rw [fX2_findConnection_L2, fX4_look_L21, if_neg (r_8n (by omega)), e1, r_bs]
    rcases e3 with ⟨e3, hno⟩ | ⟨c, c8, e3, c1⟩
    · rw [if_pos e3, if_pos e3, if_pos e3]
      obtain ⟨p, u', z', t1, t2, R', F', W', t3⟩ := r_tail R
      refine ⟨p, u', z', t1, t2, R', F', W', ?_⟩
      rcases t3 with ⟨a, b, c⟩ | t3
      · subst b; exact Or.inl ⟨a, hno, c⟩
      · exact Or.inr t3
    · have nm : ¬ r' = -1 := by rw [e3]; exact r_m1 (by omega)
      rw [if_neg nm, if_neg nm, if_neg nm, r_l4, e3, r_cis u c8]
      by_cases h4 : u 1 4 = 0
      · rw [if_pos h4, if_pos h4, if_pos rfl]
        exact ⟨Int32.ofNat c, u, z, rfl, rfl, R, RF.rfl, RW.rfl, Or.inr ⟨c, c8, rfl, c1⟩⟩
      · rw [if_neg h4, if_neg h4, if_neg r_10, r_of2 c8, r_l15, r_bs, r_bs, r_un (by omega), R.p2 c c8]
        have R1 : RI (r_bu u 5) (r_bz z 15) := R.bump (i := 5) (by decide)
        have F1 : RF u z (r_bu u 5) (r_bz z 15) := RF.bump (i := 5) (by decide)
        by_cases hs : u 4 c = 0
        · rw [if_pos hs, if_pos hs, if_pos rfl]
          exact ⟨Int32.ofNat c, r_bu u 5, r_bz z 15, rfl, rfl, R1, F1, RW.bump 5, Or.inr ⟨c, c8, rfl, c1⟩⟩
        · have R2 : RI (r_bu (r_cu (r_bu u 5) c) 2) (r_bz (r_cy (r_bz z 15) c) 12) := (R1.close c8).bump (i := 2) (by decide)
          have F2 : RF u z (r_bu (r_cu (r_bu u 5) c) 2) (r_bz (r_cy (r_bz z 15) c) 12) := (F1.trans (RF.close c8)).trans (RF.bump (i := 2) (by decide))
          have W2 : RW u (r_bu (r_cu (r_bu u 5) c) 2) := ((RW.bump 5).trans (RW.close (show r_bu u 5 2 c ≠ 2 by show u 2 c ≠ 2; rw [c1]; decide))).trans (RW.bump 2)
          have m2 : r_many u 1 = r_many (r_bu (r_cu (r_bu u 5) c) 2) 1 + 1 := by
            rw [r_many_bu, ← r_many_cu1 (u := r_bu u 5) c8 c1, r_many_bu]
          obtain ⟨r2, _, g2, _⟩ := r_ni R2
          have cl : fX4_close (Int32.ofNat c) 12 (upd z 15 (z 15 + 1)) = some (r_bz (r_cy (r_bz z 15) c) 12) := r_yci (r_bz z 15) c8 (i := 2) (by decide)
          rw [if_neg hs, if_neg hs, if_neg r_10, cl, r_bs, g2, r_bs, r_s]
          obtain ⟨p, u', z', t1, t2, R', F', W', t3⟩ := r_fcl j (i + 1) n n' _ _ r2 (by omega) (by omega) (by omega) R2 (by omega) g2
          refine ⟨p, u', z', t1, ?_, R', F2.trans F', W2.trans W', t3⟩
          have h4' : ¬ r_bu (r_cu (r_bu u 5) c) 2 1 4 = 0 := h4
          rw [if_neg h4'] at t2
          exact t2
theorem r_find {u : Nat → Nat → Int32} {z : Nat → Int32} (R : RI u z) : ∃ p u' z', fX2_findConnection u = some (p, u') ∧ fX4_look z = some (p, z') ∧ RI u' z' ∧ RF u z u' z' ∧ RW u u' ∧ ((p = -1 ∧ (∀ i, i < 8 → u' 2 i ≠ 1) ∧ u' 1 0 ≤ Int32.ofNat (r_con u')) ∨ ∃ c, c < 8 ∧ p = Int32.ofNat c ∧ u' 2 c = 1) := by
  obtain ⟨r, _, e2, _⟩ := r_ni R
  obtain ⟨p, u', z', t1, t2, t3⟩ := r_fcl 8 0 1000 1000 u z r rfl (by decide) (by decide) R (r_many_le u 1) e2
  refine ⟨p, u', z', t1, ?_, t3⟩
  unfold fX4_look
  rw [e2, r_bs, r_l4, R.st 4 (by decide)]
  rcases R.g4 with h | h
  · rw [h, if_neg (show ¬ (0 : Int32) = 1 by decide), r_bs]
    rw [h, if_pos rfl] at t2
    exact t2
  · rw [h, if_pos rfl, r_bs]
    rw [h, if_neg r_10] at t2
    exact t2
theorem r_nolook {u : Nat → Nat → Int32} {z : Nat → Int32} (R : RI u z) (h : ∀ i, i < 8 → u 2 i ≠ 1) (g : u 1 0 ≤ Int32.ofNat (r_con u)) : fX4_look z = some (-1, z) := by
  obtain ⟨r, _, e2, e3⟩ := r_ni R
  rcases e3 with ⟨e3, _⟩ | ⟨c, c8, _, c1⟩
  · unfold fX4_look
    rw [e2, r_bs]
    have tl : ∀ v : Int32, fX4_look_L21 v 1000 r z = some (-1, z) := by
      intro v
      rw [fX4_look_L21, if_pos e3, if_pos e3, r_cz R, r_bs, r_l0, R.st 0 (by decide), if_pos g]
    split
    · exact tl _
    · exact tl _
  · exact absurd c1 (h c c8)
/-! a waiter leaves -/
theorem r_pp (u : Nat → Nat → Int32) (i : Nat) (f g : Nat → Int32) : pu (pu u i f) i g = pu u i g := by
  funext c
  unfold pu
  split <;> rfl
theorem r_pid (u : Nat → Nat → Int32) (i : Nat) : pu u i (u i) = u := by
  funext c
  unfold pu
  split
  · rename_i h; rw [h]
  · rfl
theorem r_lvl (m : Nat) : ∀ j k n (u : Nat → Nat → Int32), k + 1 + j = m → j < n → m ≤ 8 → u 14 0 = Int32.ofNat m → ∃ w : Nat → Int32, fX2_leave_L15 n (Int32.ofNat k) u = some (pu u 13 w) ∧ ∀ x, w x = if k ≤ x ∧ x + 1 < m then u 13 (x + 1) else u 13 x
  | 0, k, n + 1, u, h, _, hm, hu => by
    refine ⟨u 13, ?_, fun x => ?_⟩
    · rw [fX2_leave_L15, r_s, hu, if_pos ((r_le (by omega) (by omega)).mpr (by omega)), r_pid]
    · rw [if_neg (by omega)]
  | j + 1, k, n + 1, u, h, hn, hm, hu => by
    obtain ⟨w, e, hw⟩ := r_lvl m j (k + 1) n (pu u 13 (upd (u 13) k (u 13 (k + 1)))) (by omega) (by omega) hm hu
    refine ⟨w, ?_, fun x => ?_⟩
    · have e1 : ¬ Int32.ofNat m ≤ Int32.ofNat (k + 1) := fun c => by have := (r_le (by omega) (by omega)).mp c; omega
      rw [fX2_leave_L15, r_s, hu, if_neg e1, if_pos (r_in (by omega) (by decide)), if_pos (r_in (by omega) (by decide)), r_nc (by omega), r_nc (by omega), e, r_pp]
    · rw [hw x, r_pa rfl, r_pa rfl]
      by_cases hx : k + 1 ≤ x ∧ x + 1 < m
      · rw [if_pos hx, if_pos (by omega), r_un (by omega)]
      · rw [if_neg hx]
        by_cases hk : x = k
        · subst hk
          rw [if_pos (by omega), r_ue rfl]
        · rw [if_neg (by omega), r_un (by omega)]
theorem r_lql (m : Nat) : ∀ j k n (z : Nat → Int32), k + j = m → j < n → m ≤ 8 → z 17 = Int32.ofNat m → ∃ z', fX4_leaveQueue_L17 n (Int32.ofNat k) z = some z' ∧ ∀ x, z' x = if 18 + k ≤ x ∧ x < 18 + m then z (x + 1) else z x
  | 0, k, n + 1, z, h, _, hm, hz => by
    refine ⟨z, ?_, fun x => ?_⟩
    · rw [fX4_leaveQueue_L17, r_l17, hz, if_pos ((r_le (by omega) (by omega)).mpr (by omega))]
    · rw [if_neg (by omega)]
  | j + 1, k, n + 1, z, h, hn, hm, hz => by
    obtain ⟨z', e, hw⟩ := r_lql m j (k + 1) n (upd z (18 + k) (z (18 + k + 1))) (by omega) (by omega) hm (by rw [r_un (by omega)]; exact hz)
    refine ⟨z', ?_, fun x => ?_⟩
    · have e1 : ¬ Int32.ofNat m ≤ Int32.ofNat k := fun c => by have := (r_le (by omega) (by omega)).mp c; omega
      rw [fX4_leaveQueue_L17, r_l17, hz, if_neg e1, r_qi, r_s, r_s, if_pos (r_in (by omega) (by decide)), if_pos (r_in (by omega) (by decide)), r_nc (by omega), r_nc (by omega), e]
    · rw [hw x]
      by_cases hx : 18 + (k + 1) ≤ x ∧ x < 18 + m
      · rw [if_pos hx, if_pos (by omega), r_un (by omega)]
      · rw [if_neg hx]
        by_cases hk : x = 18 + k
        · subst hk
          rw [if_pos (by omega), r_ue rfl]
        · rw [if_neg (by omega), r_un (by omega)]
theorem r_inj {Q : List Nat} (h : Q.Nodup) {i j : Nat} (hi : i < Q.length) (hj : j < Q.length) (e : Q.getD i 0 = Q.getD j 0) : i = j := by
  rw [r_gd hi, r_gd hj] at e
  have h := List.pairwise_iff_getElem.mp h
  rcases Nat.lt_trichotomy i j with c | c | c
  · exact absurd e (h i j hi hj c)
  · exact c
  · exact absurd e.symm (h j i hj hi c)
theorem r_eg (Q : List Nat) (i k : Nat) : (Q.eraseIdx i).getD k 0 = if k < i then Q.getD k 0 else Q.getD (k + 1) 0 := by
  rw [List.getD_eq_getElem?_getD, List.getElem?_eraseIdx, List.getD_eq_getElem?_getD, List.getD_eq_getElem?_getD]
  split <;> rfl
theorem r_em {Q : List Nat} (h : Q.Nodup) {i o : Nat} (hi : i < Q.length) : o ∈ Q.eraseIdx i ↔ (o ∈ Q ∧ o ≠ Q.getD i 0) := by
  constructor
  · intro ho
    obtain ⟨j, hj, hn, e⟩ := List.mem_eraseIdx_iff_getElem.mp ho
    refine ⟨List.mem_of_mem_eraseIdx ho, fun c => hn (r_inj h hj hi ?_)⟩
    rw [r_gd hj, e, c]
  · rintro ⟨ho, hn⟩
    obtain ⟨j, hj, e⟩ := r_mem.mp ho
    refine List.mem_eraseIdx_iff_getElem.mpr ⟨j, hj, fun c => hn ?_, by rw [← r_gd hj]; exact e⟩
    rw [← e, c]
theorem r_gz {Q : List Nat} {i : Nat} (h : Q.length ≤ i) : Q.getD i 0 = 0 := by
  rw [List.getD_eq_getElem?_getD, List.getElem?_eq_none h]; rfl
theorem r_leave {u : Nat → Nat → Int32} {z : Nat → Int32} {Q : List Nat} {t i : Nat} (q : RQ u z Q t) (hi : i < Q.length) : ∃ u' z', fX2_leave (Int32.ofNat i) u = some u' ∧ fX4_leaveQueue (Int32.ofNat (Q.getD i 0)) z = some z' ∧ (∀ c, c ≠ 13 → c ≠ 14 → u' c = u c) ∧ (∀ x, x < 17 ∨ 26 ≤ x → z' x = z x) ∧ u' 14 0 = Int32.ofNat (Q.length - 1) ∧ z' 17 = Int32.ofNat (Q.length - 1) ∧ (∀ k, k < Q.length - 1 → u' 13 k = Int32.ofNat ((Q.eraseIdx i).getD k 0)) ∧ ∀ k, k < 8 → z' (18 + k) = Int32.ofNat ((Q.eraseIdx i).getD k 0) := by
  have l8 := q.len
  obtain ⟨w, e1, hw⟩ := r_lvl Q.length (Q.length - 1 - i) i 1000 u (by omega) (by omega) l8 q.n2
  obtain ⟨r, _, e2, e3⟩ := r_to q (q.g8 hi)
  have e3 : r = Int32.ofNat i := by
    rcases e3 with ⟨_, c⟩ | ⟨i', hi', e, ei⟩
    · exact absurd (r_gm hi) c
    · rw [e, r_inj q.nd hi' hi ei]
  have d1 : Int32.ofNat Q.length - 1 = Int32.ofNat (Q.length - 1) := by
    have e : Q.length = (Q.length - 1) + 1 := by omega
    rw [e, r_d]
    rfl
  obtain ⟨z', e4, hz⟩ := r_lql (Q.length - 1) (Q.length - 1 - i) i 1000 (upd z 17 (Int32.ofNat (Q.length - 1))) (by omega) (by omega) (by omega) (r_ue rfl)
  have z17 : z' 17 = Int32.ofNat (Q.length - 1) := by rw [hz 17, if_neg (by omega), r_ue rfl]
  refine ⟨pu (pu u 13 w) 14 (fun _ => Int32.ofNat (Q.length - 1)), upd z' (18 + (Q.length - 1)) 0, ?_, ?_, fun c h1 h2 => ?_, fun x hx => ?_, ?_, ?_, fun k hk => ?_, fun k hk => ?_⟩
  · unfold fX2_leave
    rw [if_neg (r_n0 (by omega)), q.n2, if_pos ((r_lt (by omega) (by omega)).mpr hi), e1, r_bs, r_pb (by omega), q.n2, d1]
  · unfold fX4_leaveQueue
    rw [e2, r_bs, e3, r_l17, q.n1, d1, e4, r_bs, z17, r_qi, if_pos (r_in (by omega) (by decide)), r_nc (by omega)]
  · rw [r_pn (Ne.symm h2), r_pn (Ne.symm h1)]
  · rw [r_un (by omega), hz x, if_neg (by omega), r_un (by omega)]
  · rw [r_pa rfl]
  · rw [r_un (by omega), z17]
  · rw [r_pb (by omega), r_pa rfl, hw k, r_eg]
    by_cases hk2 : k < i
    · rw [if_neg (by omega), if_pos hk2, q.q2 k (by omega)]
    · rw [if_pos (by omega), if_neg hk2, q.q2 (k + 1) (by omega)]
  · rw [r_eg]
    by_cases hl : k = Q.length - 1
    · subst hl
      rw [r_ue rfl, if_neg (by omega), r_gz (by omega)]
      rfl
    · rw [r_un (by omega), hz (18 + k)]
      by_cases hk2 : k < i
      · rw [if_neg (by omega), if_pos hk2, r_un (by omega), q.q1 k hk]
      · rw [if_neg hk2]
        by_cases hk3 : k < Q.length - 1
        · rw [if_pos (by omega), r_un (by omega), Nat.add_assoc, q.q1 (k + 1) (by omega)]
        · rw [if_neg (by omega), r_un (by omega), q.q1 k hk, r_gz (by omega), r_gz (by omega)]
/-- what the relation without the queue does not look at -/
theorem RI.frame {u u' : Nat → Nat → Int32} {z z' : Nat → Int32} (R : RI u z) (hu : ∀ c, c ≠ 12 → c ≠ 13 → c ≠ 14 → u' c = u c) (hz : ∀ x, x < 17 ∨ 26 ≤ x → (∀ o, o < 8 → x ≠ 74 + 5 * o + 1) → z' x = z x) : RI u' z' := by
  have h0 := hu 0 (by decide) (by decide) (by decide)
  have h1 := hu 1 (by decide) (by decide) (by decide)
  have h2 := hu 2 (by decide) (by decide) (by decide)
  have h3 := hu 3 (by decide) (by decide) (by decide)
  have h4 := hu 4 (by decide) (by decide) (by decide)
  have h5 := hu 5 (by decide) (by decide) (by decide)
  have h6 := hu 6 (by decide) (by decide) (by decide)
  have h7 := hu 7 (by decide) (by decide) (by decide)
  have h8 := hu 8 (by decide) (by decide) (by decide)
  have h9 := hu 9 (by decide) (by decide) (by decide)
  have h10 := hu 10 (by decide) (by decide) (by decide)
  have h11 := hu 11 (by decide) (by decide) (by decide)
  have h15 := hu 15 (by decide) (by decide) (by decide)
  refine RI.mk ?_ ?_ ?_ ?_ ?_ ?_ ?_ ?_ ?_ ?_ ?_ ?_ ?_ ?_ ?_ ?_ ?_ ?_ ?_ ?_
  · rw [hz 9 (by omega) (by intros; omega), h0]; exact R.tm
  · intro k hk; rw [hz k (by omega) (by intros; omega), h1]; exact R.st k hk
  · intro k hk; rw [hz (10 + k) (by omega) (by intros; omega), h15]; exact R.tt k hk
  · intro k hk; rw [hz _ (by omega) (by intros; omega), h2]; exact R.p0 k hk
  · intro k hk; rw [hz _ (by omega) (by intros; omega), h2, h3]; exact R.p1 k hk
  · intro k hk; rw [hz _ (by omega) (by intros; omega), h4]; exact R.p2 k hk
  · intro k hk; rw [hz _ (by omega) (by intros; omega), h5]; exact R.p3 k hk
  · intro k hk; rw [hz _ (by omega) (by intros; omega), h2, h6]; exact R.p4 k hk
  · intro k hk; rw [hz _ (by omega) (by intros; omega), h7]; exact R.p5 k hk
  · intro k hk; rw [hz _ (by omega) (by intros; omega), h8]; exact R.o0 k hk
  · intro k hk; rw [hz _ (by omega) (by intros; omega), h9]; exact R.o2 k hk
  · intro k hk; rw [hz _ (by omega) (by intros; omega), h10]; exact R.o3 k hk
  · intro k hk; rw [hz _ (by omega) (by intros; omega), h11]; exact R.o4 k hk
  · rw [h2]; exact R.s2
  · rw [h2, h3]; exact R.s3
  · rw [h4]; exact R.s4
  · rw [h2, h4]; exact R.e4
  · rw [h2, h5]; exact R.e5
  · rw [h8]; exact R.s8
  · rw [h1]; exact R.g
/-- a waiter leaves: the queue without it -/
theorem r_lv {u : Nat → Nat → Int32} {z : Nat → Int32} {Q : List Nat} {t i : Nat} (R : RI u z) (q : RQ u z Q t) (hi : i < Q.length) : ∃ u' z', fX2_leave (Int32.ofNat i) u = some u' ∧ fX4_leaveQueue (Int32.ofNat (Q.getD i 0)) z = some z' ∧ (∀ c, c ≠ 13 → c ≠ 14 → u' c = u c) ∧ (∀ x, x < 17 ∨ 26 ≤ x → z' x = z x) ∧ RI u' (upd z' (74 + 5 * (Q.getD i 0) + 1) 0) ∧ RQ u' (upd z' (74 + 5 * (Q.getD i 0) + 1) 0) (Q.eraseIdx i) t := by
  obtain ⟨u', z', e1, e2, hu, hz, a, b, c, d⟩ := r_leave q hi
  have l8 := q.len
  have g8 := q.g8 hi
  refine ⟨u', z', e1, e2, hu, hz, R.frame (fun c _ h3 h4 => hu c h3 h4) (fun x hx ho => ?_), RQ.mk ?_ ?_ ?_ ?_ ?_ ?_ ?_ ?_ ?_ ?_⟩
  · rw [r_un (Ne.symm (ho _ g8)), hz x hx]
  · rw [r_un (by omega), b, List.length_eraseIdx_of_lt hi]
  · rw [a, List.length_eraseIdx_of_lt hi]
  · intro k hk; rw [r_un (by omega)]; exact d k hk
  · intro k hk; rw [List.length_eraseIdx_of_lt hi] at hk; exact c k hk
  · exact q.nd.eraseIdx i
  · intro o ho; exact q.lt o (List.mem_of_mem_eraseIdx ho)
  · intro o ho; rw [hu 8 (by decide) (by decide)]; exact q.th o (List.mem_of_mem_eraseIdx ho)
  · intro o ho
    by_cases h : o = Q.getD i 0
    · rw [← h, r_ue rfl, if_neg (fun m => ((r_em q.nd hi).mp m).2 h)]
    · rw [r_un (by omega), hz _ (by omega), q.o1 o ho, hu 12 (by decide) (by decide)]
      by_cases hm : o ∈ Q
      · rw [if_pos hm, if_pos ((r_em q.nd hi).mpr ⟨hm, h⟩)]
      · rw [if_neg hm, if_neg (fun m => hm ((r_em q.nd hi).mp m).1)]
  · rw [hu 0 (by decide) (by decide)]; exact q.tm
  · intro o ho; rw [hu 12 (by decide) (by decide)]; exact q.ws o (List.mem_of_mem_eraseIdx ho)
