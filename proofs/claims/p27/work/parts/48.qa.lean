/-! ===== p27: the other calls ===== -/
theorem q_srv {e : Nat} {nw : Int32} {u1 : Nat → Nat → Int32} {m1 : Nat → Nat → Nat} {Q1 : List Nat} (A1 : AB u1 m1 Q1) (R1 : IV 0 0 m1 Q1) (w1 : ∀ o, o ∈ Q1 → m1 0 0 - m1 12 o < m1 1 8) (l1 : m1 15 6 + Q1.length ≤ e) (t1 : m1 0 0 ≤ 6 * e) (nk : ∃ k, k < 6 ∧ nw = Int32.ofNat k) : ∃ g u' n P, fX2_serveWaiters (-1) u1 = some (g, u') ∧ TI e u' nw n P ∧ SR m1 n Q1 P := by
  obtain ⟨g, u', n, P, h, A, S⟩ := q_serve (-1) A1 R1
  have lw := S.lw
  exact ⟨g, u', n, P, h, TI.mk A S.iv S.qu (fun o ho => by rw [S.r0, S.r1, S.r12]; exact w1 o (S.sub o ho)) (by omega) (by rw [S.r0]; exact t1) nk, S⟩
theorem AB.back {u : Nat → Nat → Int32} {m : Nat → Nat → Nat} {Q : List Nat} (h : AB u m Q) (p : Nat) : AB (pu (pu u 2 (upd (u 2) p 1)) 6 (upd (u 6) p (u 0 0))) (baN m p) Q := by
  have h1 := h.up (i := 2) (p := p) (v := 1) (x := 1) (by decide) (by decide) rfl
  exact h1.up (i := 6) (p := p) (v := m 0 0) (x := u 0 0) (by decide) (by decide) (h.c 0 0 (by decide) (by decide))
theorem q_ctb {u : Nat → Nat → Int32} {m : Nat → Nat → Nat} {Q : List Nat} (A : AB u m Q) (R : IV 0 0 m Q) {p : Nat} (hp : p < 8) (h2 : m 2 p = 2) (h8 : m 8 (m 3 p) = 0) : fX2_canTakeBack (Int32.ofNat p) u = some 1 := by
  have es : u 2 p = 2 ↔ m 2 p = 2 := A.st R hp (k := 2) (by decide)
  unfold fX2_canTakeBack
  rw [if_pos (r_in hp (by decide)), if_pos (r_in hp (by decide)), r_nc (by omega), if_pos (es.mpr h2), A.c 3 p (by decide) (by decide), q_it A R (R.lt p hp h2), r_bs, if_pos h8, if_neg r_10]
theorem l_give {e : Nat} {P : Nat → Nat → Int32} {nw : Int32} {m : Nat → Nat → Nat} {Q : List Nat} (I : TI e P nw m Q) (he : e ≤ 90) {p : Nat} (hp : p < 8) (S : Nat → Nat → Nat → Int32) (hz : Int32) : ∃ P' S' nw' hz' m' Q', fL_give (Int32.ofNat p) P S nw hz = some (1, P', S', nw', hz') ∧ TI (e + 1) P' nw' m' Q' := by
  have A := I.ab
  have R := I.iv
  have l8 := R.len8
  have lb := I.lb
  have tb := I.tb
  have ti : TI (e + 1) P nw m Q := TI.mk A R I.qu I.wl (by omega) (by omega) I.nk
  have pl1 := q_pl1 A R hp
  unfold fL_give
  by_cases h2 : m 2 p = 2
  · have l3 := R.lt p hp h2
    rw [if_pos h2] at pl1
    rw [pl1, r_bs, q_el, if_neg (r_n0 (by omega)), q_ow0 A R l3, r_bs, q_el]
    by_cases h8 : m 8 (m 3 p) = 0
    · rw [h8, if_neg (show ¬ (Int32.ofNat (1 - 0) = 0) by decide), q_ct5 A R, r_bs, q_el]
      obtain ⟨sv, sv1, sv2⟩ := q_sv A R I.nk S hz
      have Ab := A.back p
      have Rb : IV 0 0 (baN m p) Q := R.back hp h2
      have b0 : baN m p 0 = m 0 := by funext j; simp [baN, sm]
      have b1 : baN m p 1 = m 1 := by funext j; simp [baN, sm]
      have b12 : baN m p 12 = m 12 := by funext j; simp [baN, sm]
      have b15 : baN m p 15 = m 15 := by funext j; simp [baN, sm]
      have key : ∃ g u' n Pq, fX2_serveWaiters (-1) (pu (pu P 2 (upd (P 2) p 1)) 6 (upd (P 6) p (P 0 0))) = some (g, u') ∧ TI (e + 1) u' sv.2.1 n Pq ∧ (Q.length = 0 → n 2 p = 1 ∧ n 6 p = n 0 0) := by
        by_cases hQ : Q.length = 0
        · have hq : QU (baN m p) Q := Or.inl (fun o ho => by
            rw [List.eq_nil_of_length_eq_zero hQ] at ho
            exact absurd ho List.not_mem_nil)
          refine ⟨_, _, baN m p, Q, q_still (-1) Ab Rb hq, TI.mk Ab Rb hq (fun o ho => by rw [b0, b1, b12]; exact I.wl o ho) (by rw [b15]; omega) (by rw [b0]; omega) sv2, fun _ => ⟨by simp [baN, sm], by simp [baN, sm]⟩⟩
        · obtain ⟨g, u', n, Pq, hs, T, _⟩ := q_srv (e := e + 1) Ab Rb (fun o ho => by rw [b0, b1, b12]; exact I.wl o ho) (by rw [b15]; omega) (by rw [b0]; omega) sv2
          exact ⟨g, u', n, Pq, hs, T, fun z => absurd z hQ⟩
      obtain ⟨g, u', n, Pq, hs, T, hn⟩ := key
      have A1 := T.ab
      have R1 := T.iv
      have gv : fX3_give (Int32.ofNat p) P S nw hz = some (Sum.inr (if n 2 p = 2 then Int32.ofNat (n 3 p) else -1, u', sv.1, sv.2.1, sv.2.2)) := by
        unfold fX3_give
        rw [q_rp hp, r_bs, q_el, q_ctb A R hp h2 h8, r_bs, if_neg r_10, sv1, r_bs]
        unfold fX2_takeBack
        rw [if_pos (r_in hp (by decide)), if_pos (r_in hp (by decide)), r_nc (by omega), hs, r_bs, r_bs]
        dsimp only
        rw [q_bo A1 R1 hp, r_bs]
      rw [gv, r_bs, q_el]
      dsimp only
      rw [q_pl1 A1 R1 hp, r_bs, q_el, if_pos rfl]
      have p0 := q_pl0 A1 R1 hp
      have g11 : (if (if n 2 p = 2 then Int32.ofNat (n 3 p) else -1) < 0 then some () else (fX3_place (Int32.ofNat p) 0 u').bind fun r12 => Sum.elim (fun e => none) (fun a13 => if a13 = 2 then some () else none) r12 : Option (Unit)) = some () := by
        by_cases c : n 2 p = 2
        · have l3' := R1.lt p hp c
          rw [c] at p0
          rw [if_pos c, if_neg (r_n0 (by omega)), p0, r_bs, q_el, if_pos (show Int32.ofNat 2 = 2 from rfl)]
        · rw [if_neg c, if_pos (by decide)]
      rw [g11, r_bs]
      by_cases hQ : Q.length = 0
      · obtain ⟨n2, n6⟩ := hn hQ
        have p4 := q_pl4 A1 R1 hp
        rw [if_neg (by omega), n6, Nat.sub_self] at p4
        rw [n2] at p0
        rw [hQ, if_neg (show ¬ (0 : Int32) < Int32.ofNat 0 by decide), n2, if_neg (show ¬ (1 : Nat) = 2 by decide), if_pos rfl, p0, r_bs, q_el, if_pos (show Int32.ofNat 1 = 1 from rfl), p4, r_bs, q_el, if_pos (show Int32.ofNat 0 = 0 from rfl)]
        exact ⟨_, _, _, _, _, _, rfl, T⟩
      · rw [if_pos (show (0 : Int32) < Int32.ofNat Q.length from (r_lt (a := 0) (by omega) (by omega)).mpr (by omega))]
        exact ⟨_, _, _, _, _, _, rfl, T⟩
    · have v8 := R.vn _ l3
      rw [show m 8 (m 3 p) = 1 by omega, if_pos (show Int32.ofNat (1 - 1) = 0 from rfl)]
      exact ⟨_, _, _, _, _, _, rfl, ti⟩
  · rw [if_neg h2] at pl1
    rw [pl1, r_bs, q_el, if_pos (show (-1 : Int32) < 0 by decide)]
    exact ⟨_, _, _, _, _, _, rfl, ti⟩
/-! who leaves the queue -/
theorem q_out {u : Nat → Nat → Int32} {m : Nat → Nat → Nat} {Q : List Nat} (A : AB u m Q) (l8 : Q.length ≤ 8) (nd : Q.Nodup) {k : Nat} {r : Int32} (h : (r = -1 ∧ k ∉ Q) ∨ ∃ i, i < Q.length ∧ r = Int32.ofNat i ∧ Q.getD i 0 = k) : ∃ u' Q', fX2_leave r u = some u' ∧ AB u' m Q' ∧ k ∉ Q' ∧ (∀ o, o ∈ Q' → o ∈ Q) ∧ Q'.length ≤ Q.length ∧ ∀ (n : Nat → Nat → Nat), IV 0 0 n Q → IV 0 0 n Q' := by
  rcases h with ⟨a, b⟩ | ⟨i, hi, a, b⟩
  · refine ⟨u, Q, ?_, A, b, fun _ h => h, Nat.le_refl _, fun _ h => h⟩
    unfold fX2_leave
    rw [a, if_pos (by decide)]
  · obtain ⟨u', e1, A'⟩ := q_lea A l8 hi
    refine ⟨u', Q.eraseIdx i, by rw [a]; exact e1, A', fun c => ((r_em nd hi).mp c).2 b.symm, fun o ho => List.mem_of_mem_eraseIdx ho, ?_, fun n R => R.lea hi⟩
    rw [List.length_eraseIdx_of_lt hi]; omega
theorem q_tpl (x : Int32) (u : Nat → Nat → Int32) (f : Nat → Int32) : ∀ n k, fX2_turnOf_L2 x (pu u 8 f) n k = fX2_turnOf_L2 x u n k
  | 0, _ => rfl
  | n + 1, k => by
    rw [fX2_turnOf_L2, fX2_turnOf_L2, q_tpl x u f n, r_pb (by decide), r_pb (by decide)]
theorem q_ap {e : Nat} {P : Nat → Nat → Int32} {nw : Int32} {m : Nat → Nat → Nat} {Q : List Nat} (I : TI e P nw m Q) {k : Nat} (hk : k < 8) (S : Nat → Nat → Nat → Int32) (hz : Int32) {x : Int32} (hx : x = if m 8 k = 0 then 0 else 1) : ∃ P' S' nw' hz' m' Q', fX3_appear (Int32.ofNat k) x P S nw hz = some (Sum.inr (Int32.ofNat (lcn m k), P', S', nw', hz')) ∧ TI e P' nw' m' Q' ∧ m' 8 k = 1 - m 8 k ∧ k ∉ Q' ∧ m' 10 k = m 10 k := by
  have A := I.ab
  have R := I.iv
  have l8 := R.len8
  have v8 := R.vn k hk
  obtain ⟨sv, sv1, sv2⟩ := q_sv A R I.nk S hz
  have A8 : AB (pu P 8 (upd (P 8) k (Int32.ofNat (1 - m 8 k)))) (sm m 8 k (1 - m 8 k)) Q := A.up (by decide) (by decide) rfl
  obtain ⟨r, t1, t2⟩ := q_to A R hk
  obtain ⟨u3, Q3, l1, A3, o1, o2, o3, o4⟩ := q_out A8 l8 R.nd t2
  have R3 : IV 0 0 (sm m 8 k (1 - m 8 k)) Q3 := (o4 m R).van (by omega) (Or.inr o1)
  have q3 : QU (sm m 8 k (1 - m 8 k)) Q3 := I.qu.cg o2 (by funext j; simp [sm]) (fun p _ => by simp [sm]) (fun p _ => by simp [sm])
  have st := q_still (-1) A3 R3 q3
  have lc : lcn (sm m 8 k (1 - m 8 k)) k = lcn m k := n8_congr (fun i _ => by simp [sm])
  have s0 : sm m 8 k (1 - m 8 k) 0 = m 0 := by funext j; simp [sm]
  have s1 : sm m 8 k (1 - m 8 k) 1 = m 1 := by funext j; simp [sm]
  have s12 : sm m 8 k (1 - m 8 k) 12 = m 12 := by funext j; simp [sm]
  have s15 : sm m 8 k (1 - m 8 k) 15 = m 15 := by funext j; simp [sm]
  have lb := I.lb
  refine ⟨u3, sv.1, sv.2.1, sv.2.2, sm m 8 k (1 - m 8 k), Q3, ?_, TI.mk A3 R3 q3 (fun o ho => by rw [s0, s1, s12]; exact I.wl o (o2 o ho)) (by rw [s15]; omega) (by rw [s0]; exact I.tb) sv2, by simp [sm], o1, by simp [sm]⟩
  have nx : ¬ ((if m 8 k = 0 then (1 : Int32) else 0) = x) := by
    rw [hx]
    by_cases h : m 8 k = 0
    · rw [if_pos h, if_pos h]; decide
    · rw [if_neg h, if_neg h]; decide
  have vx : (if x = 0 then some (1 : Int32) else some (0 : Int32)) = some (Int32.ofNat (1 - m 8 k)) := by
    rw [hx]
    by_cases h : m 8 k = 0
    · rw [if_pos h, if_pos rfl, h]; rfl
    · rw [if_neg h, if_neg r_10, show m 8 k = 1 by omega]; rfl
  have vb : vp_nar .boolean (Int32.ofNat (1 - m 8 k)) = Int32.ofNat (1 - m 8 k) := by
    rcases (show m 8 k = 0 ∨ m 8 k = 1 by omega) with h | h <;> rw [h] <;> rfl
  unfold fX3_appear
  rw [q_ro hk, r_bs, q_el, q_it A R hk, r_bs, if_neg nx, sv1, r_bs]
  unfold fX2_turnUp
  rw [vx, r_bs, if_pos (r_in hk (by decide)), r_nc (by omega), vb]
  have t1' : fX2_turnOf (Int32.ofNat k) (pu P 8 (upd (P 8) k (Int32.ofNat (1 - m 8 k)))) = some r := by
    unfold fX2_turnOf
    rw [q_tpl]
    exact t1
  rw [t1', r_bs, l1, r_bs, st, r_bs, r_bs]
  dsimp only
  rw [q_lco A3 R3 hk, r_bs, lc]
theorem q_sic {e : Nat} {P : Nat → Nat → Int32} {nw : Int32} {m : Nat → Nat → Nat} {Q : List Nat} (I : TI e P nw m Q) {k : Nat} (hk : k < 8) (h2 : m 2 k ≠ 0) (S : Nat → Nat → Nat → Int32) (hz : Int32) : ∃ P' S' nw' hz' m' Q', fX3_sicken (Int32.ofNat k) P S nw hz = some (Sum.inr (1 - Int32.ofNat (m 4 k), P', S', nw', hz')) ∧ TI e P' nw' m' Q' := by
  have A := I.ab
  have R := I.iv
  have v4 := R.sk k hk
  obtain ⟨sv, sv1, sv2⟩ := q_sv A R I.nk S hz
  have A4 : AB (pu P 4 (upd (P 4) k (vp_nar .boolean 1))) (siN m k) Q := A.up (by decide) (by decide) rfl
  have R4 : IV 0 0 (siN m k) Q := R.sick hk h2
  have q4 : QU (siN m k) Q := I.qu.cg (fun _ h => h) (by funext j; simp [siN, sm]) (fun p _ => by simp [siN, sm]) (fun p _ => by simp [siN, sm])
  have s0 : siN m k 0 = m 0 := by funext j; simp [siN, sm]
  have s1 : siN m k 1 = m 1 := by funext j; simp [siN, sm]
  have s12 : siN m k 12 = m 12 := by funext j; simp [siN, sm]
  have s15 : siN m k 15 = m 15 := by funext j; simp [siN, sm]
  refine ⟨_, sv.1, sv.2.1, sv.2.2, siN m k, Q, ?_, TI.mk A4 R4 q4 (fun o ho => by rw [s0, s1, s12]; exact I.wl o ho) (by rw [s15]; exact I.lb) (by rw [s0]; exact I.tb) sv2⟩
  have e4 : P 4 k = 0 ↔ m 4 k = 0 := A.eq (k := 0) (by decide) (by decide) (by omega) (by decide)
  unfold fX3_sicken
  rw [q_rp hk, r_bs, q_el, q_em A R hk, r_bs, if_neg h2, if_pos rfl, sv1, r_bs]
  unfold fX2_makeSick
  rw [if_pos (r_in hk (by decide)), if_pos (r_in hk (by decide)), if_pos (r_in hk (by decide)), r_nc (by omega)]
  by_cases h : m 4 k = 0
  · rw [if_pos (e4.mpr h), r_bs, h]
    dsimp only
    rw [if_neg r_10]
    rfl
  · rw [if_neg (fun z => h (e4.mp z)), r_bs, show m 4 k = 1 by omega]
    dsimp only
    rw [if_pos rfl]
    rfl
theorem TI.fi {e : Nat} {P u' : Nat → Nat → Int32} {nw nw' : Int32} {m m' : Nat → Nat → Nat} {Q : List Nat} (I : TI e P nw m Q) (A : AB u' m' Q) (F : FI 0 0 m m' Q) (nk : ∃ k, k < 6 ∧ nw' = Int32.ofNat k) : TI e u' nw' m' Q := by
  have r0 : m' 0 = m 0 := F.cr.r 0 (by decide) (by decide) (by decide) (by decide)
  have r1 : m' 1 = m 1 := F.cr.r 1 (by decide) (by decide) (by decide) (by decide)
  have r12 : m' 12 = m 12 := F.cr.r 12 (by decide) (by decide) (by decide) (by decide)
  exact TI.mk A F.iv (I.qu.fi I.iv F) (fun o ho => by rw [r0, r1, r12]; exact I.wl o ho) (by rw [F.cr.t6]; exact I.lb) (by rw [r0]; exact I.tb) nk
theorem q_chk {e : Nat} {P : Nat → Nat → Int32} {nw : Int32} {m : Nat → Nat → Nat} {Q : List Nat} (I : TI e P nw m Q) (S : Nat → Nat → Nat → Int32) (hz : Int32) : ∃ P' S' nw' hz' m' Q', fX3_check P S nw hz = some (Int32.ofNat (n8 (fun p => if m 2 p = 1 then m 4 p else 0)), P', S', nw', hz') ∧ TI e P' nw' m' Q' ∧ m' 15 2 = m 15 2 + n8 (fun p => if m 2 p = 1 then m 4 p else 0) := by
  have A := I.ab
  have R := I.iv
  obtain ⟨sv, sv1, sv2⟩ := q_sv A R I.nk S hz
  obtain ⟨u', m', e1, A', F, e2⟩ := q_ck A R
  have T := I.fi A' F sv2
  refine ⟨u', sv.1, sv.2.1, sv.2.2, m', Q, ?_, T, e2⟩
  unfold fX3_check
  rw [sv1, r_bs, e1, r_bs]
  dsimp only
  rw [q_still (-1) A' T.iv T.qu, r_bs]
theorem q_dra {e : Nat} {P : Nat → Nat → Int32} {nw : Int32} {m : Nat → Nat → Nat} {Q : List Nat} (I : TI e P nw m Q) (S : Nat → Nat → Nat → Int32) (hz : Int32) : ∃ P' S' nw' hz' m' Q', fX3_drain P S nw hz = some (Int32.ofNat (cst m 1), P', S', nw', hz') ∧ TI e P' nw' m' Q' := by
  have A := I.ab
  have R := I.iv
  obtain ⟨sv, sv1, sv2⟩ := q_sv A R I.nk S hz
  obtain ⟨u', m', e1, A', F⟩ := q_di A R
  have T := I.fi A' F sv2
  refine ⟨u', sv.1, sv.2.1, sv.2.2, m', Q, ?_, T⟩
  unfold fX3_drain
  rw [sv1, r_bs, e1, r_bs]
  dsimp only
  rw [q_still (-1) A' T.iv T.qu, r_bs]
theorem q_gu {e : Nat} {P : Nat → Nat → Int32} {nw : Int32} {m : Nat → Nat → Nat} {Q : List Nat} (I : TI e P nw m Q) {k : Nat} (hk : k < 8) (hm : k ∈ Q) (S : Nat → Nat → Nat → Int32) (hz : Int32) : ∃ P' S' nw' hz' m' Q', fX3_giveUp (Int32.ofNat k) P S nw hz = some (Sum.inr (Int32.ofNat (m 0 0 - m 12 k), P', S', nw', hz')) ∧ TI e P' nw' m' Q' ∧ k ∉ Q' ∧ m' 10 k = m 10 k + 1 := by
  have A := I.ab
  have R := I.iv
  have l8 := R.len8
  obtain ⟨sv, sv1, sv2⟩ := q_sv A R I.nk S hz
  obtain ⟨r, t1, t2⟩ := q_to A R hk
  obtain ⟨u3, Q3, l1, A3, o1, o2, o3, o4⟩ := q_out A l8 R.nd t2
  have A4 := A3.gav k
  have R4 : IV 0 0 (gaN m k) Q3 := (o4 m R).gav
  have q4 : QU (gaN m k) Q3 := I.qu.cg o2 (by funext j; simp [gaN, sm]) (fun p _ => by simp [gaN, sm]) (fun p _ => by simp [gaN, sm])
  have s0 : gaN m k 0 = m 0 := by funext j; simp [gaN, sm]
  have s1 : gaN m k 1 = m 1 := by funext j; simp [gaN, sm]
  have s12 : gaN m k 12 = m 12 := by funext j; simp [gaN, sm]
  have s15 : gaN m k 15 = m 15 := by funext j; simp [gaN, sm]
  have lb := I.lb
  refine ⟨_, sv.1, sv.2.1, sv.2.2, gaN m k, Q3, ?_, TI.mk A4 R4 q4 (fun o ho => by rw [s0, s1, s12]; exact I.wl o (o2 o ho)) (by rw [s15]; omega) (by rw [s0]; exact I.tb) sv2, o1, by simp [gaN, sm]⟩
  have nr : ¬ r = -1 := by
    rcases t2 with ⟨_, z⟩ | ⟨i, hi, z, _⟩
    · exact absurd hm z
    · rw [z]; exact r_m1 (by omega)
  have wo := q_wo A R hk
  rw [if_pos hm] at wo
  unfold fX3_giveUp
  rw [q_ro hk, r_bs, q_el, t1, r_bs, if_neg nr, sv1, r_bs, wo, r_bs]
  unfold fX2_stopWaiting
  rw [t1, r_bs, l1, r_bs, if_pos (r_in hk (by decide)), if_pos (r_in hk (by decide)), r_nc (by omega), q_still (-1) A4 R4 q4, r_bs, r_bs]
theorem q_rng : ∀ j, j < 9 → pw_least j = Int32.ofNat (sLo j) ∧ pw_great j = Int32.ofNat (sHi j) ∧ fX3_requireSetting (Int32.ofNat j) = some (Sum.inr ()) := by decide +kernel
theorem q_set {e : Nat} {P : Nat → Nat → Int32} {nw : Int32} {m : Nat → Nat → Nat} (I : TI e P nw m []) {j v : Nat} (hj : j < 9) (h1 : sLo j ≤ v) (h2 : v ≤ sHi j) (S : Nat → Nat → Nat → Int32) (hz : Int32) : ∃ P' S' nw' hz', fX3_set (Int32.ofNat j) (Int32.ofNat v) P S nw hz = some (Sum.inr (Int32.ofNat (m 1 j), P', S', nw', hz')) ∧ TI e P' nw' (sm m 1 j v) [] := by
  have A := I.ab
  have R := I.iv
  obtain ⟨a, b, c⟩ := q_rng j hj
  have s99 : sHi j ≤ 99 := by unfold sHi; split <;> (try split) <;> omega
  obtain ⟨sv, sv1, sv2⟩ := q_sv A R I.nk S hz
  have A1 : AB (pu P 1 (upd (P 1) j (Int32.ofNat v))) (sm m 1 j v) [] := A.up (by decide) (by decide) rfl
  have R1 : IV 0 0 (sm m 1 j v) [] := R.seti hj ⟨h1, h2⟩
  have q1 : QU (sm m 1 j v) [] := Or.inl (fun o ho => absurd ho List.not_mem_nil)
  have s0 : sm m 1 j v 0 = m 0 := by funext i; simp [sm]
  have s15 : sm m 1 j v 15 = m 15 := by funext i; simp [sm]
  refine ⟨_, sv.1, sv.2.1, sv.2.2, ?_, TI.mk A1 R1 q1 (fun o ho => absurd ho List.not_mem_nil) (by rw [s15]; exact I.lb) (by rw [s0]; exact I.tb) sv2⟩
  unfold fX3_set
  rw [c, r_bs, q_el, if_pos (r_in hj (by decide)), if_pos (r_in hj (by decide)), r_nc (by omega), a, b, if_neg (fun z => by have := (r_lt (by omega) (by omega)).mp z; omega), if_pos ((r_le (by omega) (by omega)).mpr h2), sv1, r_bs]
  unfold fX2_change
  rw [if_pos (r_in hj (by decide)), if_pos (r_in hj (by decide)), r_nc (by omega), q_still (-1) A1 R1 q1, r_bs, r_bs, A.c 1 j (by decide) (by decide)]
