/-! ===== pure rows: all idle ones, units of time ===== -/
theorem r_01 : ¬ (0 : Int32) = 1 := by decide
theorem r_ckl : ∀ j k n (a : Int32) (u : Nat → Nat → Int32) (z : Nat → Int32), k + j = 8 → j < n → RI u z → ∃ b u' z', fX2_checkIdle_L4 n a (Int32.ofNat k) u = some (b, u') ∧ fX4_checkAll_L4 n a (Int32.ofNat k) z = some (b, z') ∧ RI u' z' ∧ RF u z u' z'
  | 0, k, n + 1, a, u, z, h, _, R => by
    rw [fX2_checkIdle_L4, fX4_checkAll_L4, if_pos ((r_8 (by omega)).mpr (by omega)), if_pos ((r_8 (by omega)).mpr (by omega))]
    exact ⟨a, u, z, rfl, rfl, R, RF.rfl⟩
  | j + 1, k, n + 1, a, u, z, h, hn, R => by
    have hk : k < 8 := by omega
    rw [fX2_checkIdle_L4, fX4_checkAll_L4, if_neg (r_8n hk), if_neg (r_8n hk), if_pos (r_in hk (by decide)), r_nc (by omega), r_isIn hk, R.p0 k hk, r_s]
    by_cases hs : u 2 k = 1
    · have R1 : RI (r_bu u 5) (r_bz z 15) := R.bump (i := 5) (by decide)
      have F1 : RF u z (r_bu u 5) (r_bz z 15) := RF.bump (i := 5) (by decide)
      rw [if_pos hs, if_pos hs, r_bs, if_neg r_10, r_cis u hk, r_l15, r_of2 hk, r_bs, r_bs, r_un (i := 15) (j := 26 + 6 * k + 2) (by omega), R.p2 k hk]
      rcases R.s4 k hk with h4 | h4
      · rw [if_pos h4, h4, if_neg r_01, if_pos rfl]
        obtain ⟨b, u', z', a1, a2, a3, a4⟩ := r_ckl j (k + 1) n a (r_bu u 5) (r_bz z 15) (by omega) (by omega) R1
        exact ⟨b, u', z', a1, a2, a3, F1.trans a4⟩
      · have R2 : RI (r_bu (r_cu (r_bu u 5) k) 2) (r_bz (r_cy (r_bz z 15) k) 12) := (R1.close hk).bump (i := 2) (by decide)
        have F2 : RF u z (r_bu (r_cu (r_bu u 5) k) 2) (r_bz (r_cy (r_bz z 15) k) 12) := (F1.trans (RF.close hk)).trans (RF.bump (i := 2) (by decide))
        have cl : fX4_close (Int32.ofNat k) 12 (upd z 15 (z 15 + 1)) = some (r_bz (r_cy (r_bz z 15) k) 12) := r_yci (r_bz z 15) hk (i := 2) (by decide)
        rw [if_neg (show ¬ u 4 k = 0 by rw [h4]; exact r_10), h4, if_pos rfl, if_neg r_10, cl, r_bs]
        obtain ⟨b, u', z', a1, a2, a3, a4⟩ := r_ckl j (k + 1) n (a + 1) _ _ (by omega) (by omega) R2
        exact ⟨b, u', z', a1, a2, a3, F2.trans a4⟩
    · rw [if_neg hs, if_neg hs, r_bs, if_pos rfl]
      exact r_ckl j (k + 1) n a u z (by omega) (by omega) R
theorem r_check {u : Nat → Nat → Int32} {z : Nat → Int32} (R : RI u z) : ∃ b u' z', fX2_checkIdle u = some (b, u') ∧ fX4_checkAll z = some (b, z') ∧ RI u' z' ∧ RF u z u' z' := r_ckl 8 0 1000 0 u z rfl (by decide) R
theorem r_drl : ∀ j k n (a : Int32) (u : Nat → Nat → Int32) (z : Nat → Int32), k + j = 8 → j < n → RI u z → ∃ b u' z', fX2_closeIdle_L4 n a (Int32.ofNat k) u = some (b, u') ∧ fX4_drain_L13 n a (Int32.ofNat k) z = some (b, z') ∧ RI u' z' ∧ RF u z u' z'
  | 0, k, n + 1, a, u, z, h, _, R => by
    rw [fX2_closeIdle_L4, fX4_drain_L13, if_pos ((r_8 (by omega)).mpr (by omega)), if_pos ((r_8 (by omega)).mpr (by omega))]
    exact ⟨a, u, z, rfl, rfl, R, RF.rfl⟩
  | j + 1, k, n + 1, a, u, z, h, hn, R => by
    have hk : k < 8 := by omega
    rw [fX2_closeIdle_L4, fX4_drain_L13, if_neg (r_8n hk), if_neg (r_8n hk), if_pos (r_in hk (by decide)), r_nc (by omega), r_isIn hk, R.p0 k hk, r_s]
    by_cases hs : u 2 k = 1
    · rw [if_pos hs, if_pos hs, r_bs, if_neg r_10, r_xcl u hk, r_ycl z hk, r_bs, r_bs]
      obtain ⟨b, u', z', a1, a2, a3, a4⟩ := r_drl j (k + 1) n (a + 1) _ _ (by omega) (by omega) (R.close hk)
      exact ⟨b, u', z', a1, a2, a3, (RF.close hk).trans a4⟩
    · rw [if_neg hs, if_neg hs, r_bs, if_pos rfl]
      exact r_drl j (k + 1) n a u z (by omega) (by omega) R
theorem r_drain {u : Nat → Nat → Int32} {z : Nat → Int32} (R : RI u z) : ∃ b u' z', fX2_closeIdle u = some (b, u') ∧ fX4_drain_L13 1000 0 0 z = some (b, z') ∧ RI u' z' ∧ RF u z u' z' := r_drl 8 0 1000 0 u z rfl (by decide) R
/-! leases -/
theorem r_lel : ∀ j k n (u : Nat → Nat → Int32) (z : Nat → Int32), k + j = 8 → j < n → RI u z → ∃ u' z', fX2_closeLeasesOfVanished_L2 n (Int32.ofNat k) u = some u' ∧ fX4_goUnit_L13 n (Int32.ofNat k) z = some z' ∧ RI u' z' ∧ RF u z u' z'
  | 0, k, n + 1, u, z, h, _, R => by
    rw [fX2_closeLeasesOfVanished_L2, fX4_goUnit_L13, if_pos ((r_8 (by omega)).mpr (by omega)), if_pos ((r_8 (by omega)).mpr (by omega))]
    exact ⟨u, z, rfl, rfl, R, RF.rfl⟩
  | j + 1, k, n + 1, u, z, h, hn, R => by
    have hk : k < 8 := by omega
    rw [fX2_closeLeasesOfVanished_L2, fX4_goUnit_L13, if_neg (r_8n hk), if_neg (r_8n hk), if_pos (r_in hk (by decide)), if_pos (r_in hk (by decide)), if_pos (r_in hk (by decide)), r_nc (by omega), r_isIn hk, R.p0 k hk, r_s]
    have stay := r_lel j (k + 1) n u z (by omega) (by omega) R
    by_cases hs : u 2 k = 2
    · obtain ⟨o, ho, e⟩ := R.s3 k hk hs
      rw [if_pos hs, if_pos hs, r_bs, if_neg r_10, r_of1 hk, r_bs, R.p1 k hk, if_pos hs, e, r_isT ho, R.o0 o ho, if_pos (r_in ho (by decide)), r_nc (by omega)]
      by_cases h8 : u 8 o = 0
      · rw [if_pos h8, if_pos h8, if_pos rfl, r_bs, if_neg r_10]
        exact stay
      · rw [if_neg h8, if_neg h8, if_neg r_01, r_bs, if_pos rfl, r_of4 hk, r_bs, R.p4 k hk, if_neg (show ¬ u 2 k = 0 by rw [hs]; decide), r_l9, r_l5, R.tm, R.st 5 (by decide)]
        by_cases hl : u 0 0 - u 6 k < u 1 5
        · rw [if_pos hl, if_pos hl]
          exact stay
        · have cl : fX4_close (Int32.ofNat k) 14 z = some (r_bz (r_cy z k) 14) := r_yci z hk (i := 4) (by decide)
          rw [if_neg hl, if_neg hl, r_xcl u hk, cl, r_bs, r_bs, r_l4]
          obtain ⟨u', z', a1, a2, a3, a4⟩ := r_lel j (k + 1) n (r_bu (r_cu u k) 4) (r_bz (r_cy z k) 14) (by omega) (by omega) ((R.close hk).bump (i := 4) (by decide))
          exact ⟨u', z', a1, a2, a3, ((RF.close hk).trans (RF.bump (i := 4) (by decide))).trans a4⟩
    · rw [if_neg hs, if_neg hs, r_bs, if_pos rfl]
      exact stay
/-! idle too long -/
theorem r_con_le (u : Nat → Nat → Int32) : r_con u ≤ 8 := by unfold r_con; omega
theorem r_idn : ∀ j k n (u : Nat → Nat → Int32) (z : Nat → Int32), k + j = 8 → j < n → RI u z → Int32.ofNat (r_con u) ≤ u 1 2 → fX4_goUnit_L112 n (Int32.ofNat k) z = some z
  | 0, k, n + 1, u, z, h, _, R, hc => by
    rw [fX4_goUnit_L112, if_pos ((r_8 (by omega)).mpr (by omega))]
  | j + 1, k, n + 1, u, z, h, hn, R, hc => by
    have hk : k < 8 := by omega
    rw [fX4_goUnit_L112, if_neg (r_8n hk), r_isIn hk, r_s, r_of4 hk, r_cz R, r_l2, R.st 2 (by decide), r_idn j (k + 1) n u z (by omega) (by omega) R hc]
    split
    · rw [r_bs, if_neg r_10, r_bs]
      split
      · rfl
      · rw [r_bs, if_pos hc]
    · rw [r_bs, if_pos rfl]
theorem r_idl : ∀ j k n (u : Nat → Nat → Int32) (z : Nat → Int32), k + j = 8 → j < n → RI u z → ∃ u' z', fX2_closeIdleTooLong_L7 n (Int32.ofNat (r_con u)) (Int32.ofNat k) u = some u' ∧ fX4_goUnit_L112 n (Int32.ofNat k) z = some z' ∧ RI u' z' ∧ RF u z u' z'
  | 0, k, n + 1, u, z, h, _, R => by
    rw [fX2_closeIdleTooLong_L7, fX4_goUnit_L112, if_pos ((r_8 (by omega)).mpr (by omega)), if_pos ((r_8 (by omega)).mpr (by omega))]
    exact ⟨u, z, rfl, rfl, R, RF.rfl⟩
  | j + 1, k, n + 1, u, z, h, hn, R => by
    have hk : k < 8 := by omega
    by_cases hc : Int32.ofNat (r_con u) ≤ u 1 2
    · refine ⟨u, z, ?_, r_idn (j + 1) k (n + 1) u z h hn R hc, R, RF.rfl⟩
      rw [fX2_closeIdleTooLong_L7, if_neg (r_8n hk), r_l2, if_pos hc]
    · have stay := r_idl j (k + 1) n u z (by omega) (by omega) R
      rw [fX2_closeIdleTooLong_L7, fX4_goUnit_L112, if_neg (r_8n hk), if_neg (r_8n hk), r_l2, if_neg hc, if_pos (r_in hk (by decide)), if_pos (r_in hk (by decide)), r_nc (by omega), r_isIn hk, R.p0 k hk, r_s]
      by_cases hs : u 2 k = 1
      · rw [if_pos hs, if_pos hs, r_bs, if_neg r_10, r_of4 hk, r_bs, R.p4 k hk, if_neg (show ¬ u 2 k = 0 by rw [hs]; decide), r_l9, r_l7, R.tm, R.st 7 (by decide)]
        by_cases hl : u 0 0 - u 6 k < u 1 7
        · rw [if_pos hl, if_pos hl]
          exact stay
        · have cl : fX4_close (Int32.ofNat k) 13 z = some (r_bz (r_cy z k) 13) := r_yci z hk (i := 3) (by decide)
          have hm := r_many_cu0 hk (show u 2 k ≠ 0 by rw [hs]; decide)
          have hm2 := r_many_le (r_cu u k) 0
          have hcon : Int32.ofNat (r_con u) + -1 = Int32.ofNat (r_con (r_bu (r_cu u k) 3)) := by
            have e : r_con u = r_con (r_bu (r_cu u k) 3) + 1 := by
              unfold r_con
              rw [r_many_bu]
              omega
            rw [e, r_d']
          rw [if_neg hl, if_neg hl, r_cz R, r_bs, R.st 2 (by decide), if_neg hc, r_xcl u hk, cl, r_bs, r_bs, r_l3, hcon]
          obtain ⟨u', z', a1, a2, a3, a4⟩ := r_idl j (k + 1) n (r_bu (r_cu u k) 3) (r_bz (r_cy z k) 13) (by omega) (by omega) ((R.close hk).bump (i := 3) (by decide))
          exact ⟨u', z', a1, a2, a3, ((RF.close hk).trans (RF.bump (i := 3) (by decide))).trans a4⟩
      · rw [if_neg hs, if_neg hs, r_bs, if_pos rfl]
        exact stay
/-! those who have waited too long -/
theorem r_drop (t : Nat) : ∀ m n (a : Int32) (u : Nat → Nat → Int32) (z : Nat → Int32) (Q : List Nat), m ≤ Q.length → m < n → RI u z → RQ u z Q t → (∀ i, m ≤ i → i < Q.length → u 0 0 - u 12 (Q.getD i 0) < u 1 8) → ∃ b u' z' P, fX2_dropTiredWaiters_L9 n a (Int32.ofNat m - 1) u = some (b, u') ∧ fX4_goUnit_L189 n a (Int32.ofNat m - 1) z = some (b, z') ∧ RI u' z' ∧ RQ u' z' P t ∧ (∀ o, o ∈ P → o ∈ Q) ∧ u' 9 = u 9 ∧ u' 1 = u 1 ∧ u' 8 = u 8 ∧ u' 0 = u 0 ∧ u' 12 = u 12 ∧ ∀ o, o ∈ P → u' 0 0 - u' 12 o < u' 1 8
  | 0, n + 1, a, u, z, Q, hm, _, R, q, hf => by
    have e : Int32.ofNat 0 - 1 < 0 := by decide
    rw [fX2_dropTiredWaiters_L9, fX4_goUnit_L189, if_pos e, if_pos e]
    refine ⟨a, u, z, Q, rfl, rfl, R, q, fun _ h => h, rfl, rfl, rfl, rfl, rfl, fun o ho => ?_⟩
    obtain ⟨i, hi, ei⟩ := r_mem.mp ho
    rw [← ei]
    exact hf i (Nat.zero_le _) hi
  | m + 1, n + 1, a, u, z, Q, hm, hn, R, q, hf => by
    have l8 := q.len
    have g8 := q.g8 (i := m) (by omega)
    have e1 : ¬ Int32.ofNat m < 0 := r_n0 (by omega)
    have b1 : pq_in (Int32.ofNat m) 8 = true := r_in (by omega) (by decide)
    have b2 : pq_in (Int32.ofNat (18 + m)) 114 = true := r_in (by omega) (by decide)
    have b3 : pq_in (Int32.ofNat (Q.getD m 0)) 8 = true := r_in g8 (by decide)
    rw [r_d, fX2_dropTiredWaiters_L9, fX4_goUnit_L189, if_neg e1, if_neg e1, r_qi, if_pos b1, if_pos b2, r_nc (by omega), r_nc (by omega), q.q1 m (by omega), q.q2 m (by omega), if_pos b3, r_nc (by omega), r_wf R q (r_gm (by omega)), r_bs, r_l8, R.st 8 (by decide), ← Int32.sub_eq_add_neg]
    by_cases hl : u 0 0 - u 12 (Q.getD m 0) < u 1 8
    · rw [if_pos hl, if_pos hl]
      refine r_drop t m n a u z Q (by omega) (by omega) R q (fun i h1 h2 => ?_)
      by_cases him : i = m
      · rw [him]; exact hl
      · exact hf i (by omega) h2
    · obtain ⟨u1, z1, e1, e2, hu, R1, q1⟩ := r_gup R q (i := m) (by omega)
      rw [if_neg hl, if_neg hl, e1, r_bs, if_pos b3, if_pos b3, e2, r_bs]
      have hl1 : (Q.eraseIdx m).length = Q.length - 1 := List.length_eraseIdx_of_lt (by omega)
      have h0 : u1 0 = u 0 := hu 0 (by decide) (by decide)
      have h1 : u1 1 = u 1 := hu 1 (by decide) (by decide)
      have h12 : u1 12 = u 12 := hu 12 (by decide) (by decide)
      obtain ⟨b, u', z', P, a1, a2, a3, a4, a5, a6, a7, a8, a9, a10, a11⟩ := r_drop t m n (a + 1) (r_gu u1 (Q.getD m 0)) z1 (Q.eraseIdx m) (by omega) (by omega) R1 q1 (fun i h1' h2 => by
        show u1 0 0 - u1 12 _ < u1 1 8
        rw [h0, h1, h12, r_eg, if_neg (by omega)]
        exact hf (i + 1) (by omega) (by omega))
      exact ⟨b, u', z', P, a1, a2, a3, a4, fun o ho => List.mem_of_mem_eraseIdx (a5 o ho), a6.trans (hu 9 (by decide) (by decide)), a7.trans h1, a8.trans (hu 8 (by decide) (by decide)), a9.trans h0, a10.trans h12, a11⟩
/-! a unit -/
theorem RI.tick {u : Nat → Nat → Int32} {z : Nat → Int32} (R : RI u z) : RI (pu u 0 (fun _ => u 0 0 + 1)) (upd z 9 (z 9 + 1)) := by
  have e2 := R.tm
  refine RI.mk ?_ ?_ ?_ ?_ ?_ ?_ ?_ ?_ ?_ ?_ ?_ ?_ ?_ ?_ ?_ ?_ ?_ ?_ ?_ ?_
  · (try simp (disch := omega) only [r_pa, r_pb, r_pe, r_pn, r_ue, r_un]) <;> first | exact R.tm | rfl | (have e1 := R.tm; simp_all; done)
  · intro k hk
    (try simp (disch := omega) only [r_pa, r_pb, r_pe, r_pn, r_ue, r_un]) <;> first | exact R.st _ hk | rfl | exact fun c => absurd c (by decide) | exact fun _ => ⟨_, (by assumption), rfl⟩ | (have e1 := R.st _ hk; simp_all; done)
  · intro k hk
    (try simp (disch := omega) only [r_pa, r_pb, r_pe, r_pn, r_ue, r_un]) <;> first | exact R.tt _ hk | rfl | exact fun c => absurd c (by decide) | exact fun _ => ⟨_, (by assumption), rfl⟩ | (have e1 := R.tt _ hk; simp_all; done)
  · intro k hk
    (try simp (disch := omega) only [r_pa, r_pb, r_pe, r_pn, r_ue, r_un]) <;> first | exact R.p0 _ hk | rfl | exact fun c => absurd c (by decide) | exact fun _ => ⟨_, (by assumption), rfl⟩ | (have e1 := R.p0 _ hk; simp_all; done)
  · intro k hk
    (try simp (disch := omega) only [r_pa, r_pb, r_pe, r_pn, r_ue, r_un]) <;> first | exact R.p1 _ hk | rfl | exact fun c => absurd c (by decide) | exact fun _ => ⟨_, (by assumption), rfl⟩ | (have e1 := R.p1 _ hk; simp_all; done)
  · intro k hk
    (try simp (disch := omega) only [r_pa, r_pb, r_pe, r_pn, r_ue, r_un]) <;> first | exact R.p2 _ hk | rfl | exact fun c => absurd c (by decide) | exact fun _ => ⟨_, (by assumption), rfl⟩ | (have e1 := R.p2 _ hk; simp_all; done)
  · intro k hk
    (try simp (disch := omega) only [r_pa, r_pb, r_pe, r_pn, r_ue, r_un]) <;> first | exact R.p3 _ hk | rfl | exact fun c => absurd c (by decide) | exact fun _ => ⟨_, (by assumption), rfl⟩ | (have e1 := R.p3 _ hk; simp_all; done)
  · intro k hk
    (try simp (disch := omega) only [r_pa, r_pb, r_pe, r_pn, r_ue, r_un]) <;> first | exact R.p4 _ hk | rfl | exact fun c => absurd c (by decide) | exact fun _ => ⟨_, (by assumption), rfl⟩ | (have e1 := R.p4 _ hk; simp_all; done)
  · intro k hk
    (try simp (disch := omega) only [r_pa, r_pb, r_pe, r_pn, r_ue, r_un]) <;> first | exact R.p5 _ hk | rfl | exact fun c => absurd c (by decide) | exact fun _ => ⟨_, (by assumption), rfl⟩ | (have e1 := R.p5 _ hk; simp_all; done)
  · intro k hk
    (try simp (disch := omega) only [r_pa, r_pb, r_pe, r_pn, r_ue, r_un]) <;> first | exact R.o0 _ hk | rfl | exact fun c => absurd c (by decide) | exact fun _ => ⟨_, (by assumption), rfl⟩ | (have e1 := R.o0 _ hk; simp_all; done)
  · intro k hk
    (try simp (disch := omega) only [r_pa, r_pb, r_pe, r_pn, r_ue, r_un]) <;> first | exact R.o2 _ hk | rfl | exact fun c => absurd c (by decide) | exact fun _ => ⟨_, (by assumption), rfl⟩ | (have e1 := R.o2 _ hk; simp_all; done)
  · intro k hk
    (try simp (disch := omega) only [r_pa, r_pb, r_pe, r_pn, r_ue, r_un]) <;> first | exact R.o3 _ hk | rfl | exact fun c => absurd c (by decide) | exact fun _ => ⟨_, (by assumption), rfl⟩ | (have e1 := R.o3 _ hk; simp_all; done)
  · intro k hk
    (try simp (disch := omega) only [r_pa, r_pb, r_pe, r_pn, r_ue, r_un]) <;> first | exact R.o4 _ hk | rfl | exact fun c => absurd c (by decide) | exact fun _ => ⟨_, (by assumption), rfl⟩ | (have e1 := R.o4 _ hk; simp_all; done)
  · intro k hk
    (try simp (disch := omega) only [r_pa, r_pb, r_pe, r_pn, r_ue, r_un]) <;> first | exact R.s2 _ hk | rfl | exact fun c => absurd c (by decide) | exact fun _ => ⟨_, (by assumption), rfl⟩ | (have e1 := R.s2 _ hk; simp_all; done)
  · intro k hk
    (try simp (disch := omega) only [r_pa, r_pb, r_pe, r_pn, r_ue, r_un]) <;> first | exact R.s3 _ hk | rfl | exact fun c => absurd c (by decide) | exact fun _ => ⟨_, (by assumption), rfl⟩ | (have e1 := R.s3 _ hk; simp_all; done)
  · intro k hk
    (try simp (disch := omega) only [r_pa, r_pb, r_pe, r_pn, r_ue, r_un]) <;> first | exact R.s4 _ hk | rfl | exact fun c => absurd c (by decide) | exact fun _ => ⟨_, (by assumption), rfl⟩ | (have e1 := R.s4 _ hk; simp_all; done)
  · intro k hk
    (try simp (disch := omega) only [r_pa, r_pb, r_pe, r_pn, r_ue, r_un]) <;> first | exact R.e4 _ hk | rfl | exact fun c => absurd c (by decide) | exact fun _ => ⟨_, (by assumption), rfl⟩ | (have e1 := R.e4 _ hk; simp_all; done)
  · intro k hk
    (try simp (disch := omega) only [r_pa, r_pb, r_pe, r_pn, r_ue, r_un]) <;> first | exact R.e5 _ hk | rfl | exact fun c => absurd c (by decide) | exact fun _ => ⟨_, (by assumption), rfl⟩ | (have e1 := R.e5 _ hk; simp_all; done)
  · intro k hk
    (try simp (disch := omega) only [r_pa, r_pb, r_pe, r_pn, r_ue, r_un]) <;> first | exact R.s8 _ hk | rfl | exact fun c => absurd c (by decide) | exact fun _ => ⟨_, (by assumption), rfl⟩ | (have e1 := R.s8 _ hk; simp_all; done)
  · intro k hk
    (try simp (disch := omega) only [r_pa, r_pb, r_pe, r_pn, r_ue, r_un]) <;> first | exact R.g _ hk | rfl | exact fun c => absurd c (by decide) | exact fun _ => ⟨_, (by assumption), rfl⟩ | (have e1 := R.g _ hk; simp_all; done)
theorem RQ.tick {u : Nat → Nat → Int32} {z : Nat → Int32} {Q : List Nat} {t : Nat} (q : RQ u z Q t) : RQ (pu u 0 (fun _ => u 0 0 + 1)) (upd z 9 (z 9 + 1)) Q (t + 1) := by
  refine RQ.mk ?_ q.n2 (fun k hk => ?_) q.q2 q.nd q.lt q.th (fun k hk => ?_) ?_ (fun o ho => ?_)
  · rw [r_un (by omega)]; exact q.n1
  · rw [r_un (by omega)]; exact q.q1 k hk
  · rw [r_un (by omega)]; exact q.o1 k hk
  · show u 0 0 + 1 = _
    rw [q.tm, r_s]
  · obtain ⟨s, h1, h2⟩ := q.ws o ho
    exact ⟨s, by omega, h2⟩
/-- the Pool's unit as one text -/
def r_unit (u : Nat → Nat → Int32) : Option (Int32 × (Nat → Nat → Int32)) :=
  (fX2_closeLeasesOfVanished (pu u 0 (fun _ => (u 0 0) + 1))).bind fun r2 =>
      (if (r2 1) (6 : Int32).toNatClampNeg ≤ 0 then
         some r2
       else
         if ¬ (r2 1) (6 : Int32).toNatClampNeg = 0 then
         if (r2 0 0) - (r2 0 0) / ((r2 1) (6 : Int32).toNatClampNeg) * ((r2 1) (6 : Int32).toNatClampNeg) = 0 then
           (fX2_checkIdle r2).bind fun r4 =>
           some r4.2
         else
           some r2
         else none : Option ((Nat → Nat → Int32))).bind fun v3 =>
      (fX2_closeIdleTooLong v3).bind fun r5 =>
      (fX2_dropTiredWaiters r5).bind fun r6 =>
      (fX2_serveWaiters (-1) r6.2).bind fun r7 => some (r6.1, r7.2)
theorem r_unitc (x1 : Int32) (n : Nat) (a k : Int32) (u : Nat → Nat → Int32) : fX2_passUnits_L4 x1 (n + 1) a k u = if x1 ≤ k then some (a, u) else (r_unit u).bind fun r => fX2_passUnits_L4 x1 n (a + r.1) (k + 1) r.2 := by
  rw [fX2_passUnits_L4]
  unfold r_unit
  simp only [Option.bind_assoc, Option.bind_some]
/-- what a unit leaves alone of a state -/
def RU (u : Nat → Nat → Int32) (Q : List Nat) (v : Nat → Nat → Int32) (P : List Nat) (t : Nat) : Prop := (∀ o, o ∈ P → o ∈ Q) ∧ (∀ o, o ∉ Q → v 9 o = u 9 o) ∧ (∀ o, o ∈ P → v 9 o = u 9 o) ∧ (v 1 = u 1) ∧ (v 8 = u 8) ∧ (v 12 = u 12) ∧ (∀ o, o ∈ P → t < 1000000 → ∃ s, u 12 o = Int32.ofNat s ∧ s ≤ t ∧ t + 1 < s + 99)
theorem RU.sub {u : Nat → Nat → Int32} {Q : List Nat} {v : Nat → Nat → Int32} {P : List Nat} {t : Nat} (h : RU u Q v P t) : ∀ o, o ∈ P → o ∈ Q := h.1
theorem RU.out {u : Nat → Nat → Int32} {Q : List Nat} {v : Nat → Nat → Int32} {P : List Nat} {t : Nat} (h : RU u Q v P t) : ∀ o, o ∉ Q → v 9 o = u 9 o := h.2.1
theorem RU.stay {u : Nat → Nat → Int32} {Q : List Nat} {v : Nat → Nat → Int32} {P : List Nat} {t : Nat} (h : RU u Q v P t) : ∀ o, o ∈ P → v 9 o = u 9 o := h.2.2.1
theorem RU.s1 {u : Nat → Nat → Int32} {Q : List Nat} {v : Nat → Nat → Int32} {P : List Nat} {t : Nat} (h : RU u Q v P t) : v 1 = u 1 := h.2.2.2.1
theorem RU.s8 {u : Nat → Nat → Int32} {Q : List Nat} {v : Nat → Nat → Int32} {P : List Nat} {t : Nat} (h : RU u Q v P t) : v 8 = u 8 := h.2.2.2.2.1
theorem RU.w12 {u : Nat → Nat → Int32} {Q : List Nat} {v : Nat → Nat → Int32} {P : List Nat} {t : Nat} (h : RU u Q v P t) : v 12 = u 12 := h.2.2.2.2.2.1
theorem RU.soon {u : Nat → Nat → Int32} {Q : List Nat} {v : Nat → Nat → Int32} {P : List Nat} {t : Nat} (h : RU u Q v P t) : ∀ o, o ∈ P → t < 1000000 → ∃ s, u 12 o = Int32.ofNat s ∧ s ≤ t ∧ t + 1 < s + 99 := h.2.2.2.2.2.2
theorem RU.mk {u : Nat → Nat → Int32} {Q : List Nat} {v : Nat → Nat → Int32} {P : List Nat} {t : Nat} (sub : ∀ o, o ∈ P → o ∈ Q) (out : ∀ o, o ∉ Q → v 9 o = u 9 o) (stay : ∀ o, o ∈ P → v 9 o = u 9 o) (s1 : v 1 = u 1) (s8 : v 8 = u 8) (w12 : v 12 = u 12) (soon : ∀ o, o ∈ P → t < 1000000 → ∃ s, u 12 o = Int32.ofNat s ∧ s ≤ t ∧ t + 1 < s + 99) : RU u Q v P t := ⟨sub, out, stay, s1, s8, w12, soon⟩
theorem r_tick {u : Nat → Nat → Int32} {z : Nat → Int32} {Q : List Nat} {t : Nat} (R : RI u z) (q : RQ u z Q t) (gn : Nat → Int32) : ∃ b u' z' gn' P, r_unit u = some (b, u') ∧ fX4_goUnit z gn = some (b, z', gn') ∧ RI u' z' ∧ RQ u' z' P (t + 1) ∧ r_quiet u' P ∧ RU u Q u' P t := by
  have R0 := R.tick
  have q0 := q.tick
  obtain ⟨u1, z1, a1, a2, R1, F1⟩ := r_lel 8 0 1000 _ _ rfl (by decide) R0
  have q1 := F1.rq q0
  unfold r_unit fX4_goUnit
  have a1 : fX2_closeLeasesOfVanished (pu u 0 (fun _ => (u 0 0) + 1)) = some u1 := a1
  have a2 : fX4_goUnit_L13 1000 0 (upd z (9 : Int32).toNatClampNeg ((z (9 : Int32).toNatClampNeg) + 1)) = some z1 := a2
  rw [a1, a2, r_bs, r_bs, r_l6, r_l9, R1.st 6 (by decide), R1.tm]
  have chk : ∃ u2 z2, (if u1 1 6 ≤ 0 then some u1 else if ¬ u1 1 6 = 0 then if u1 0 0 - u1 0 0 / u1 1 6 * u1 1 6 = 0 then (fX2_checkIdle u1).bind fun r4 => some r4.2 else some u1 else none : Option (Nat → Nat → Int32)) = some u2 ∧ (if u1 1 6 ≤ 0 then some z1 else if ¬ u1 1 6 = 0 then if u1 0 0 - u1 0 0 / u1 1 6 * u1 1 6 = 0 then (fX4_checkAll z1).bind fun r9 => some r9.2 else some z1 else none : Option (Nat → Int32)) = some z2 ∧ RI u2 z2 ∧ RF u1 z1 u2 z2 := by
    by_cases h1 : u1 1 6 ≤ 0
    · rw [if_pos h1, if_pos h1]
      exact ⟨u1, z1, rfl, rfl, R1, RF.rfl⟩
    · have h2 : ¬ u1 1 6 = 0 := fun c => h1 (by rw [c]; decide)
      rw [if_neg h1, if_neg h1, if_pos h2, if_pos h2]
      by_cases h3 : u1 0 0 - u1 0 0 / u1 1 6 * u1 1 6 = 0
      · obtain ⟨b, u2, z2, c1, c2, c3, c4⟩ := r_check R1
        rw [if_pos h3, if_pos h3, c1, c2]
        exact ⟨u2, z2, rfl, rfl, c3, c4⟩
      · rw [if_neg h3, if_neg h3]
        exact ⟨u1, z1, rfl, rfl, R1, RF.rfl⟩
  obtain ⟨u2, z2, c1, c2, R2, F2⟩ := chk
  rw [c1, c2, r_bs, r_bs]
  obtain ⟨u3, z3, d1, d2, R3, F3⟩ := r_idl 8 0 1000 u2 z2 rfl (by decide) R2
  have d1 : fX2_closeIdleTooLong u2 = some u3 := by
    unfold fX2_closeIdleTooLong
    rw [r_co, r_bs]; exact d1
  have d2 : fX4_goUnit_L112 1000 0 z2 = some z3 := d2
  have q3 := F3.rq (F2.rq q1)
  have l8 := q.len
  rw [d1, d2, r_bs, r_bs]
  unfold fX2_dropTiredWaiters
  rw [r_l17, q3.n1, q3.n2]
  obtain ⟨b, u4, z4, P4, e1, e2, R4, q4, e5, e6, e7, e8, e9, e10, e11⟩ := r_drop (t + 1) Q.length 1000 0 u3 z3 Q (Nat.le_refl _) (by omega) R3 q3 (fun i h1 h2 => absurd h1 (by omega))
  rw [e1, e2, r_bs, r_bs]
  obtain ⟨g', u', z', gn', P, s1, s2, s3, s4, s5, s6, s7, s8, _⟩ := r_serve R4 q4 (-1) gn
  dsimp only
  rw [s1, s2, r_bs, r_bs]
  have f9 : u4 9 = u 9 := by rw [e6, F3.a9, F2.a9, F1.a9]; rfl
  have f12 : u4 12 = u 12 := by rw [e10, F3.a12, F2.a12, F1.a12]; rfl
  have f1 : u4 1 = u 1 := by rw [e7, F3.a1, F2.a1, F1.a1]; rfl
  have f8 : u4 8 = u 8 := by rw [e8, F3.a8, F2.a8, F1.a8]; rfl
  refine ⟨b, u', z', gn', P, rfl, rfl, s3, s4, s5, RU.mk ?_ ?_ ?_ ?_ ?_ ?_ ?_⟩
  · intro o ho; exact e5 o (s6.sub o ho)
  · intro o ho
    rw [s6.out o (fun c => ho (e5 o c)), f9]
  · intro o ho
    rw [s6.stay o ho, f9]
  · rw [s7, f1]
  · rw [s8, f8]
  · rw [s6.w12, f12]
  · intro o ho ht
    have h4 := s6.sub o ho
    obtain ⟨s, h1, h2⟩ := q.ws o (e5 o h4)
    refine ⟨s, h2, h1, ?_⟩
    have h5 := e11 o h4
    rw [q4.tm, f12, h2, f1] at h5
    have e : Int32.ofNat (t + 1) - Int32.ofNat s = Int32.ofNat (t + 1 - s) := (Int32.ofNat_sub (t + 1) s (by omega)).symm
    rw [e] at h5
    obtain ⟨w, _, w2, w3⟩ := r_rng (a := 1) (b := 99) (by decide) (by decide) (R.g 8 (by decide))
    rw [w3] at h5
    have h6 := (r_lt (by omega) (by omega)).mp h5
    omega
theorem r_gol (m : Nat) (hm : m < 1000) : ∀ j k n (a : Int32) (u : Nat → Nat → Int32) (z gn : Nat → Int32) (Q : List Nat) (t : Nat), k + j = m → j < n → RI u z → RQ u z Q t → r_quiet u Q → ∃ b u' z' gn' P, fX2_passUnits_L4 (Int32.ofNat m) n a (Int32.ofNat k) u = some (b, u') ∧ fX4_go_L4 (Int32.ofNat m) n a (Int32.ofNat k) z gn = some (b, z', gn') ∧ RI u' z' ∧ RQ u' z' P (t + j) ∧ r_quiet u' P
  | 0, k, n + 1, a, u, z, gn, Q, t, h, _, R, q, Y => by
    have e : Int32.ofNat m ≤ Int32.ofNat k := (r_le (by omega) (by omega)).mpr (by omega)
    rw [r_unitc, fX4_go_L4, if_pos e, if_pos e]
    exact ⟨a, u, z, gn, Q, rfl, rfl, R, q, Y⟩
  | j + 1, k, n + 1, a, u, z, gn, Q, t, h, hn, R, q, Y => by
    have e : ¬ Int32.ofNat m ≤ Int32.ofNat k := fun c => by have := (r_le (by omega) (by omega)).mp c; omega
    obtain ⟨b, u1, z1, gn1, P1, a1, a2, a3, a4, a5, _⟩ := r_tick R q gn
    rw [r_unitc, fX4_go_L4, if_neg e, if_neg e, a1, a2, r_bs, r_bs, r_s]
    obtain ⟨b', u', z', gn', P, c1, c2, c3, c4, c5⟩ := r_gol m hm j (k + 1) n (a + b) u1 z1 gn1 P1 (t + 1) (by omega) (by omega) a3 a4 a5
    exact ⟨b', u', z', gn', P, c1, c2, c3, by rw [show t + (j + 1) = t + 1 + j by omega]; exact c4, c5⟩
theorem r_go {u : Nat → Nat → Int32} {z : Nat → Int32} {Q : List Nat} {t m : Nat} (R : RI u z) (q : RQ u z Q t) (Y : r_quiet u Q) (gn : Nat → Int32) (hm : m < 1000) : ∃ b u' z' gn' P, fX2_passUnits (Int32.ofNat m) u = some (b, u') ∧ fX4_go (Int32.ofNat m) z gn = some (b, z', gn') ∧ RI u' z' ∧ RQ u' z' P (t + m) ∧ r_quiet u' P :=
  r_gol m hm m 0 1000 0 u z gn Q t (by omega) (by omega) R q Y
