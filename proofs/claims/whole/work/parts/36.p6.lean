/-! ===== pure rows: the calls that give, give up, appear, sicken, set ===== -/
def r_tu (u : Nat → Nat → Int32) (p : Nat) : Nat → Nat → Int32 := pu (pu u 2 (upd (u 2) p 1)) 6 (upd (u 6) p (u 0 0))
def r_ty (z : Nat → Int32) (p : Nat) : Nat → Int32 := upd (upd (upd z (26 + 6 * p + 0) 1) (26 + 6 * p + 1) (-1)) (26 + 6 * p + 4) (z 9)
theorem RI.taken {u : Nat → Nat → Int32} {z : Nat → Int32} (R : RI u z) {p : Nat} (hp : p < 8) (h2 : u 2 p = 2) : RI (r_tu u p) (r_ty z p) := by
  have e2 := R.tm
  refine RI.mk ?_ ?_ ?_ ?_ ?_ ?_ ?_ ?_ ?_ ?_ ?_ ?_ ?_ ?_ ?_ ?_ ?_ ?_ ?_ ?_
  · (try simp (disch := omega) only [r_tu, r_ty, r_pa, r_pb, r_pe, r_pn, r_ue, r_un]) <;> first | exact R.tm | rfl | (have e1 := R.tm; simp_all; done)
  · intro k hk
    (try simp (disch := omega) only [r_tu, r_ty, r_pa, r_pb, r_pe, r_pn, r_ue, r_un]) <;> first | exact R.st _ hk | rfl | exact fun c => absurd c (by decide) | exact fun _ => ⟨_, (by assumption), rfl⟩ | (have e1 := R.st _ hk; simp_all; done)
  · intro k hk
    (try simp (disch := omega) only [r_tu, r_ty, r_pa, r_pb, r_pe, r_pn, r_ue, r_un]) <;> first | exact R.tt _ hk | rfl | exact fun c => absurd c (by decide) | exact fun _ => ⟨_, (by assumption), rfl⟩ | (have e1 := R.tt _ hk; simp_all; done)
  · intro k hk
    by_cases hkp : k = p
    · subst hkp
      (try simp (disch := omega) only [r_tu, r_ty, r_pa, r_pb, r_pe, r_pn, r_ue, r_un]) <;> first | exact R.p0 _ hk | rfl | exact fun c => absurd c (by decide) | exact fun _ => ⟨_, (by assumption), rfl⟩ | (have e1 := R.p0 _ hk; simp_all; done)
    · (try simp (disch := omega) only [r_tu, r_ty, r_pa, r_pb, r_pe, r_pn, r_ue, r_un]) <;> first | exact R.p0 _ hk | rfl | exact fun c => absurd c (by decide) | exact fun _ => ⟨_, (by assumption), rfl⟩ | (have e1 := R.p0 _ hk; simp_all; done)
  · intro k hk
    by_cases hkp : k = p
    · subst hkp
      (try simp (disch := omega) only [r_tu, r_ty, r_pa, r_pb, r_pe, r_pn, r_ue, r_un]) <;> first | exact R.p1 _ hk | rfl | exact fun c => absurd c (by decide) | exact fun _ => ⟨_, (by assumption), rfl⟩ | (have e1 := R.p1 _ hk; simp_all; done)
    · (try simp (disch := omega) only [r_tu, r_ty, r_pa, r_pb, r_pe, r_pn, r_ue, r_un]) <;> first | exact R.p1 _ hk | rfl | exact fun c => absurd c (by decide) | exact fun _ => ⟨_, (by assumption), rfl⟩ | (have e1 := R.p1 _ hk; simp_all; done)
  · intro k hk
    by_cases hkp : k = p
    · subst hkp
      (try simp (disch := omega) only [r_tu, r_ty, r_pa, r_pb, r_pe, r_pn, r_ue, r_un]) <;> first | exact R.p2 _ hk | rfl | exact fun c => absurd c (by decide) | exact fun _ => ⟨_, (by assumption), rfl⟩ | (have e1 := R.p2 _ hk; simp_all; done)
    · (try simp (disch := omega) only [r_tu, r_ty, r_pa, r_pb, r_pe, r_pn, r_ue, r_un]) <;> first | exact R.p2 _ hk | rfl | exact fun c => absurd c (by decide) | exact fun _ => ⟨_, (by assumption), rfl⟩ | (have e1 := R.p2 _ hk; simp_all; done)
  · intro k hk
    by_cases hkp : k = p
    · subst hkp
      (try simp (disch := omega) only [r_tu, r_ty, r_pa, r_pb, r_pe, r_pn, r_ue, r_un]) <;> first | exact R.p3 _ hk | rfl | exact fun c => absurd c (by decide) | exact fun _ => ⟨_, (by assumption), rfl⟩ | (have e1 := R.p3 _ hk; simp_all; done)
    · (try simp (disch := omega) only [r_tu, r_ty, r_pa, r_pb, r_pe, r_pn, r_ue, r_un]) <;> first | exact R.p3 _ hk | rfl | exact fun c => absurd c (by decide) | exact fun _ => ⟨_, (by assumption), rfl⟩ | (have e1 := R.p3 _ hk; simp_all; done)
  · intro k hk
    by_cases hkp : k = p
    · subst hkp
      (try simp (disch := omega) only [r_tu, r_ty, r_pa, r_pb, r_pe, r_pn, r_ue, r_un]) <;> first | exact R.p4 _ hk | rfl | exact fun c => absurd c (by decide) | exact fun _ => ⟨_, (by assumption), rfl⟩ | (have e1 := R.p4 _ hk; simp_all; done)
    · (try simp (disch := omega) only [r_tu, r_ty, r_pa, r_pb, r_pe, r_pn, r_ue, r_un]) <;> first | exact R.p4 _ hk | rfl | exact fun c => absurd c (by decide) | exact fun _ => ⟨_, (by assumption), rfl⟩ | (have e1 := R.p4 _ hk; simp_all; done)
  · intro k hk
    by_cases hkp : k = p
    · subst hkp
      (try simp (disch := omega) only [r_tu, r_ty, r_pa, r_pb, r_pe, r_pn, r_ue, r_un]) <;> first | exact R.p5 _ hk | rfl | exact fun c => absurd c (by decide) | exact fun _ => ⟨_, (by assumption), rfl⟩ | (have e1 := R.p5 _ hk; simp_all; done)
    · (try simp (disch := omega) only [r_tu, r_ty, r_pa, r_pb, r_pe, r_pn, r_ue, r_un]) <;> first | exact R.p5 _ hk | rfl | exact fun c => absurd c (by decide) | exact fun _ => ⟨_, (by assumption), rfl⟩ | (have e1 := R.p5 _ hk; simp_all; done)
  · intro k hk
    (try simp (disch := omega) only [r_tu, r_ty, r_pa, r_pb, r_pe, r_pn, r_ue, r_un]) <;> first | exact R.o0 _ hk | rfl | exact fun c => absurd c (by decide) | exact fun _ => ⟨_, (by assumption), rfl⟩ | (have e1 := R.o0 _ hk; simp_all; done)
  · intro k hk
    (try simp (disch := omega) only [r_tu, r_ty, r_pa, r_pb, r_pe, r_pn, r_ue, r_un]) <;> first | exact R.o2 _ hk | rfl | exact fun c => absurd c (by decide) | exact fun _ => ⟨_, (by assumption), rfl⟩ | (have e1 := R.o2 _ hk; simp_all; done)
  · intro k hk
    (try simp (disch := omega) only [r_tu, r_ty, r_pa, r_pb, r_pe, r_pn, r_ue, r_un]) <;> first | exact R.o3 _ hk | rfl | exact fun c => absurd c (by decide) | exact fun _ => ⟨_, (by assumption), rfl⟩ | (have e1 := R.o3 _ hk; simp_all; done)
  · intro k hk
    (try simp (disch := omega) only [r_tu, r_ty, r_pa, r_pb, r_pe, r_pn, r_ue, r_un]) <;> first | exact R.o4 _ hk | rfl | exact fun c => absurd c (by decide) | exact fun _ => ⟨_, (by assumption), rfl⟩ | (have e1 := R.o4 _ hk; simp_all; done)
  · intro k hk
    by_cases hkp : k = p
    · subst hkp
      (try simp (disch := omega) only [r_tu, r_ty, r_pa, r_pb, r_pe, r_pn, r_ue, r_un]) <;> first | exact R.s2 _ hk | rfl | exact fun c => absurd c (by decide) | exact fun _ => ⟨_, (by assumption), rfl⟩ | (have e1 := R.s2 _ hk; simp_all; done)
    · (try simp (disch := omega) only [r_tu, r_ty, r_pa, r_pb, r_pe, r_pn, r_ue, r_un]) <;> first | exact R.s2 _ hk | rfl | exact fun c => absurd c (by decide) | exact fun _ => ⟨_, (by assumption), rfl⟩ | (have e1 := R.s2 _ hk; simp_all; done)
  · intro k hk
    by_cases hkp : k = p
    · subst hkp
      (try simp (disch := omega) only [r_tu, r_ty, r_pa, r_pb, r_pe, r_pn, r_ue, r_un]) <;> first | exact R.s3 _ hk | rfl | exact fun c => absurd c (by decide) | exact fun _ => ⟨_, (by assumption), rfl⟩ | (have e1 := R.s3 _ hk; simp_all; done)
    · (try simp (disch := omega) only [r_tu, r_ty, r_pa, r_pb, r_pe, r_pn, r_ue, r_un]) <;> first | exact R.s3 _ hk | rfl | exact fun c => absurd c (by decide) | exact fun _ => ⟨_, (by assumption), rfl⟩ | (have e1 := R.s3 _ hk; simp_all; done)
  · intro k hk
    by_cases hkp : k = p
    · subst hkp
      (try simp (disch := omega) only [r_tu, r_ty, r_pa, r_pb, r_pe, r_pn, r_ue, r_un]) <;> first | exact R.s4 _ hk | rfl | exact fun c => absurd c (by decide) | exact fun _ => ⟨_, (by assumption), rfl⟩ | (have e1 := R.s4 _ hk; simp_all; done)
    · (try simp (disch := omega) only [r_tu, r_ty, r_pa, r_pb, r_pe, r_pn, r_ue, r_un]) <;> first | exact R.s4 _ hk | rfl | exact fun c => absurd c (by decide) | exact fun _ => ⟨_, (by assumption), rfl⟩ | (have e1 := R.s4 _ hk; simp_all; done)
  · intro k hk
    by_cases hkp : k = p
    · subst hkp
      (try simp (disch := omega) only [r_tu, r_ty, r_pa, r_pb, r_pe, r_pn, r_ue, r_un]) <;> first | exact R.e4 _ hk | rfl | exact fun c => absurd c (by decide) | exact fun _ => ⟨_, (by assumption), rfl⟩ | (have e1 := R.e4 _ hk; simp_all; done)
    · (try simp (disch := omega) only [r_tu, r_ty, r_pa, r_pb, r_pe, r_pn, r_ue, r_un]) <;> first | exact R.e4 _ hk | rfl | exact fun c => absurd c (by decide) | exact fun _ => ⟨_, (by assumption), rfl⟩ | (have e1 := R.e4 _ hk; simp_all; done)
  · intro k hk
    by_cases hkp : k = p
    · subst hkp
      (try simp (disch := omega) only [r_tu, r_ty, r_pa, r_pb, r_pe, r_pn, r_ue, r_un]) <;> first | exact R.e5 _ hk | rfl | exact fun c => absurd c (by decide) | exact fun _ => ⟨_, (by assumption), rfl⟩ | (have e1 := R.e5 _ hk; simp_all; done)
    · (try simp (disch := omega) only [r_tu, r_ty, r_pa, r_pb, r_pe, r_pn, r_ue, r_un]) <;> first | exact R.e5 _ hk | rfl | exact fun c => absurd c (by decide) | exact fun _ => ⟨_, (by assumption), rfl⟩ | (have e1 := R.e5 _ hk; simp_all; done)
  · intro k hk
    (try simp (disch := omega) only [r_tu, r_ty, r_pa, r_pb, r_pe, r_pn, r_ue, r_un]) <;> first | exact R.s8 _ hk | rfl | exact fun c => absurd c (by decide) | exact fun _ => ⟨_, (by assumption), rfl⟩ | (have e1 := R.s8 _ hk; simp_all; done)
  · intro k hk
    (try simp (disch := omega) only [r_tu, r_ty, r_pa, r_pb, r_pe, r_pn, r_ue, r_un]) <;> first | exact R.g _ hk | rfl | exact fun c => absurd c (by decide) | exact fun _ => ⟨_, (by assumption), rfl⟩ | (have e1 := R.g _ hk; simp_all; done)
theorem r_bor {u : Nat → Nat → Int32} {z : Nat → Int32} (R : RI u z) {p : Nat} (hp : p < 8) : fX2_borrower (Int32.ofNat p) u = some (z (26 + 6 * p + 1)) := by
  unfold fX2_borrower
  rw [if_pos (r_in hp (by decide)), if_pos (r_in hp (by decide)), r_nc (by omega), R.p1 p hp]
  split <;> rfl
theorem r_ctb {u : Nat → Nat → Int32} {z : Nat → Int32} (R : RI u z) {p : Nat} (hp : p < 8) : ∃ r, fX2_canTakeBack (Int32.ofNat p) u = some r ∧ fX4_canGive (Int32.ofNat p) z = some r ∧ (r ≠ 0 → u 2 p = 2) := by
  unfold fX2_canTakeBack fX4_canGive
  rw [if_pos (r_in hp (by decide)), if_pos (r_in hp (by decide)), r_nc (by omega), r_isIn hp, R.p0 p hp]
  by_cases h : u 2 p = 2
  · obtain ⟨o, ho, e⟩ := R.s3 p hp h
    rw [if_pos h, if_pos h, r_bs, if_neg r_10, r_of1 hp, r_bs, R.p1 p hp, if_pos h, e, r_isT ho, R.o0 o ho]
    unfold fX2_isThere
    rw [if_pos (r_in ho (by decide)), r_nc (by omega)]
    by_cases h8 : u 8 o = 0
    · rw [if_pos h8, if_pos h8, if_pos rfl, r_bs, if_neg r_10]
      exact ⟨1, rfl, rfl, fun _ => h⟩
    · rw [if_neg h8, if_neg h8, if_neg (show ¬ (0 : Int32) = 1 by decide), r_bs, if_pos rfl]
      exact ⟨0, rfl, rfl, fun _ => h⟩
  · rw [if_neg h, if_neg h, r_bs, if_pos rfl]
    exact ⟨0, rfl, rfl, fun c => absurd rfl c⟩
theorem r_give {u : Nat → Nat → Int32} {z : Nat → Int32} {Q : List Nat} {t p : Nat} (R : RI u z) (q : RQ u z Q t) (gn : Nat → Int32) (hp : p < 8) (h2 : u 2 p = 2) : ∃ g u' z' gn' P, fX2_takeBack (Int32.ofNat p) u = some u' ∧ fX2_borrower (Int32.ofNat p) u' = some g ∧ fX4_giveIt (Int32.ofNat p) z gn = some (g, z', gn') ∧ RI u' z' ∧ RQ u' z' P t ∧ r_quiet u' P := by
  have R1 := R.taken hp h2
  have q1 : RQ (r_tu u p) (r_ty z p) Q t := by
    refine q.frame rfl rfl rfl rfl rfl (fun k a b => ?_) (fun k hk => ?_)
    · simp (disch := omega) only [r_ty, r_pa, r_pb, r_pe, r_pn, r_ue, r_un]
    · simp (disch := omega) only [r_ty, r_pa, r_pb, r_pe, r_pn, r_ue, r_un]
  obtain ⟨g', u', z', gn', P, a1, a2, a3, a4, a5, _⟩ := r_serve R1 q1 (-1) gn
  refine ⟨z' (26 + 6 * p + 1), u', z', gn', P, ?_, r_bor a3 hp, ?_, a3, a4, a5⟩
  · unfold fX2_takeBack
    rw [if_pos (r_in hp (by decide)), if_pos (r_in hp (by decide)), r_nc (by omega)]
    show (fX2_serveWaiters (-1) (r_tu u p)).bind _ = _
    rw [a1]; rfl
  · unfold fX4_giveIt
    rw [r_put0 hp, r_bs, r_put1 hp, r_bs, r_put4 hp, r_bs]
    have e : upd (upd (upd z (26 + 6 * p + 0) 1) (26 + 6 * p + 1) (-1)) (26 + 6 * p + 4) (upd (upd z (26 + 6 * p + 0) 1) (26 + 6 * p + 1) (-1) (9 : Int32).toNatClampNeg) = r_ty z p := by
      rw [r_l9]
      simp (disch := omega) only [r_ty, r_un]
    rw [e, a2, r_bs]
    dsimp only
    rw [r_of1 hp, r_bs]
/-! giving up -/
def r_gu (u : Nat → Nat → Int32) (o : Nat) : Nat → Nat → Int32 := pu u 10 (upd (u 10) o (u 10 o + 1))
def r_gy (z : Nat → Int32) (o : Nat) : Nat → Int32 := upd z (74 + 5 * o + 3) (z (74 + 5 * o + 3) + 1)
theorem RI.gave {u : Nat → Nat → Int32} {z : Nat → Int32} (R : RI u z) {o : Nat} (ho : o < 8) : RI (r_gu u o) (r_gy z o) := by
  have e4 := R.o3 o ho
  refine RI.mk ?_ ?_ ?_ ?_ ?_ ?_ ?_ ?_ ?_ ?_ ?_ ?_ ?_ ?_ ?_ ?_ ?_ ?_ ?_ ?_
  · (try simp (disch := omega) only [r_gu, r_gy, r_pa, r_pb, r_pe, r_pn, r_ue, r_un]) <;> first | exact R.tm | rfl | (have e1 := R.tm; simp_all; done)
  · intro k hk
    (try simp (disch := omega) only [r_gu, r_gy, r_pa, r_pb, r_pe, r_pn, r_ue, r_un]) <;> first | exact R.st _ hk | rfl | exact fun c => absurd c (by decide) | exact fun _ => ⟨_, (by assumption), rfl⟩ | (have e1 := R.st _ hk; simp_all; done)
  · intro k hk
    (try simp (disch := omega) only [r_gu, r_gy, r_pa, r_pb, r_pe, r_pn, r_ue, r_un]) <;> first | exact R.tt _ hk | rfl | exact fun c => absurd c (by decide) | exact fun _ => ⟨_, (by assumption), rfl⟩ | (have e1 := R.tt _ hk; simp_all; done)
  · intro k hk
    (try simp (disch := omega) only [r_gu, r_gy, r_pa, r_pb, r_pe, r_pn, r_ue, r_un]) <;> first | exact R.p0 _ hk | rfl | exact fun c => absurd c (by decide) | exact fun _ => ⟨_, (by assumption), rfl⟩ | (have e1 := R.p0 _ hk; simp_all; done)
  · intro k hk
    (try simp (disch := omega) only [r_gu, r_gy, r_pa, r_pb, r_pe, r_pn, r_ue, r_un]) <;> first | exact R.p1 _ hk | rfl | exact fun c => absurd c (by decide) | exact fun _ => ⟨_, (by assumption), rfl⟩ | (have e1 := R.p1 _ hk; simp_all; done)
  · intro k hk
    (try simp (disch := omega) only [r_gu, r_gy, r_pa, r_pb, r_pe, r_pn, r_ue, r_un]) <;> first | exact R.p2 _ hk | rfl | exact fun c => absurd c (by decide) | exact fun _ => ⟨_, (by assumption), rfl⟩ | (have e1 := R.p2 _ hk; simp_all; done)
  · intro k hk
    (try simp (disch := omega) only [r_gu, r_gy, r_pa, r_pb, r_pe, r_pn, r_ue, r_un]) <;> first | exact R.p3 _ hk | rfl | exact fun c => absurd c (by decide) | exact fun _ => ⟨_, (by assumption), rfl⟩ | (have e1 := R.p3 _ hk; simp_all; done)
  · intro k hk
    (try simp (disch := omega) only [r_gu, r_gy, r_pa, r_pb, r_pe, r_pn, r_ue, r_un]) <;> first | exact R.p4 _ hk | rfl | exact fun c => absurd c (by decide) | exact fun _ => ⟨_, (by assumption), rfl⟩ | (have e1 := R.p4 _ hk; simp_all; done)
  · intro k hk
    (try simp (disch := omega) only [r_gu, r_gy, r_pa, r_pb, r_pe, r_pn, r_ue, r_un]) <;> first | exact R.p5 _ hk | rfl | exact fun c => absurd c (by decide) | exact fun _ => ⟨_, (by assumption), rfl⟩ | (have e1 := R.p5 _ hk; simp_all; done)
  · intro k hk
    by_cases hkp : k = o
    · subst hkp
      (try simp (disch := omega) only [r_gu, r_gy, r_pa, r_pb, r_pe, r_pn, r_ue, r_un]) <;> first | exact R.o0 _ hk | rfl | exact fun c => absurd c (by decide) | exact fun _ => ⟨_, (by assumption), rfl⟩ | (have e1 := R.o0 _ hk; simp_all; done)
    · (try simp (disch := omega) only [r_gu, r_gy, r_pa, r_pb, r_pe, r_pn, r_ue, r_un]) <;> first | exact R.o0 _ hk | rfl | exact fun c => absurd c (by decide) | exact fun _ => ⟨_, (by assumption), rfl⟩ | (have e1 := R.o0 _ hk; simp_all; done)
  · intro k hk
    by_cases hkp : k = o
    · subst hkp
      (try simp (disch := omega) only [r_gu, r_gy, r_pa, r_pb, r_pe, r_pn, r_ue, r_un]) <;> first | exact R.o2 _ hk | rfl | exact fun c => absurd c (by decide) | exact fun _ => ⟨_, (by assumption), rfl⟩ | (have e1 := R.o2 _ hk; simp_all; done)
    · (try simp (disch := omega) only [r_gu, r_gy, r_pa, r_pb, r_pe, r_pn, r_ue, r_un]) <;> first | exact R.o2 _ hk | rfl | exact fun c => absurd c (by decide) | exact fun _ => ⟨_, (by assumption), rfl⟩ | (have e1 := R.o2 _ hk; simp_all; done)
  · intro k hk
    by_cases hkp : k = o
    · subst hkp
      (try simp (disch := omega) only [r_gu, r_gy, r_pa, r_pb, r_pe, r_pn, r_ue, r_un]) <;> first | exact R.o3 _ hk | rfl | exact fun c => absurd c (by decide) | exact fun _ => ⟨_, (by assumption), rfl⟩ | (have e1 := R.o3 _ hk; simp_all; done)
    · (try simp (disch := omega) only [r_gu, r_gy, r_pa, r_pb, r_pe, r_pn, r_ue, r_un]) <;> first | exact R.o3 _ hk | rfl | exact fun c => absurd c (by decide) | exact fun _ => ⟨_, (by assumption), rfl⟩ | (have e1 := R.o3 _ hk; simp_all; done)
  · intro k hk
    by_cases hkp : k = o
    · subst hkp
      (try simp (disch := omega) only [r_gu, r_gy, r_pa, r_pb, r_pe, r_pn, r_ue, r_un]) <;> first | exact R.o4 _ hk | rfl | exact fun c => absurd c (by decide) | exact fun _ => ⟨_, (by assumption), rfl⟩ | (have e1 := R.o4 _ hk; simp_all; done)
    · (try simp (disch := omega) only [r_gu, r_gy, r_pa, r_pb, r_pe, r_pn, r_ue, r_un]) <;> first | exact R.o4 _ hk | rfl | exact fun c => absurd c (by decide) | exact fun _ => ⟨_, (by assumption), rfl⟩ | (have e1 := R.o4 _ hk; simp_all; done)
  · intro k hk
    (try simp (disch := omega) only [r_gu, r_gy, r_pa, r_pb, r_pe, r_pn, r_ue, r_un]) <;> first | exact R.s2 _ hk | rfl | exact fun c => absurd c (by decide) | exact fun _ => ⟨_, (by assumption), rfl⟩ | (have e1 := R.s2 _ hk; simp_all; done)
  · intro k hk
    (try simp (disch := omega) only [r_gu, r_gy, r_pa, r_pb, r_pe, r_pn, r_ue, r_un]) <;> first | exact R.s3 _ hk | rfl | exact fun c => absurd c (by decide) | exact fun _ => ⟨_, (by assumption), rfl⟩ | (have e1 := R.s3 _ hk; simp_all; done)
  · intro k hk
    (try simp (disch := omega) only [r_gu, r_gy, r_pa, r_pb, r_pe, r_pn, r_ue, r_un]) <;> first | exact R.s4 _ hk | rfl | exact fun c => absurd c (by decide) | exact fun _ => ⟨_, (by assumption), rfl⟩ | (have e1 := R.s4 _ hk; simp_all; done)
  · intro k hk
    (try simp (disch := omega) only [r_gu, r_gy, r_pa, r_pb, r_pe, r_pn, r_ue, r_un]) <;> first | exact R.e4 _ hk | rfl | exact fun c => absurd c (by decide) | exact fun _ => ⟨_, (by assumption), rfl⟩ | (have e1 := R.e4 _ hk; simp_all; done)
  · intro k hk
    (try simp (disch := omega) only [r_gu, r_gy, r_pa, r_pb, r_pe, r_pn, r_ue, r_un]) <;> first | exact R.e5 _ hk | rfl | exact fun c => absurd c (by decide) | exact fun _ => ⟨_, (by assumption), rfl⟩ | (have e1 := R.e5 _ hk; simp_all; done)
  · intro k hk
    by_cases hkp : k = o
    · subst hkp
      (try simp (disch := omega) only [r_gu, r_gy, r_pa, r_pb, r_pe, r_pn, r_ue, r_un]) <;> first | exact R.s8 _ hk | rfl | exact fun c => absurd c (by decide) | exact fun _ => ⟨_, (by assumption), rfl⟩ | (have e1 := R.s8 _ hk; simp_all; done)
    · (try simp (disch := omega) only [r_gu, r_gy, r_pa, r_pb, r_pe, r_pn, r_ue, r_un]) <;> first | exact R.s8 _ hk | rfl | exact fun c => absurd c (by decide) | exact fun _ => ⟨_, (by assumption), rfl⟩ | (have e1 := R.s8 _ hk; simp_all; done)
  · intro k hk
    (try simp (disch := omega) only [r_gu, r_gy, r_pa, r_pb, r_pe, r_pn, r_ue, r_un]) <;> first | exact R.g _ hk | rfl | exact fun c => absurd c (by decide) | exact fun _ => ⟨_, (by assumption), rfl⟩ | (have e1 := R.g _ hk; simp_all; done)
theorem RF.gave {u : Nat → Nat → Int32} {z : Nat → Int32} {o : Nat} (ho : o < 8) : RF u z (r_gu u o) (r_gy z o) := by
  refine RF.mk ?_ ?_ ?_ ?_ ?_ ?_ ?_ ?_ ?_
  · (try simp (disch := omega) only [r_gu, r_gy, r_pa, r_pb, r_pe, r_pn, r_ue, r_un])
  · (try simp (disch := omega) only [r_gu, r_gy, r_pa, r_pb, r_pe, r_pn, r_ue, r_un])
  · (try simp (disch := omega) only [r_gu, r_gy, r_pa, r_pb, r_pe, r_pn, r_ue, r_un])
  · (try simp (disch := omega) only [r_gu, r_gy, r_pa, r_pb, r_pe, r_pn, r_ue, r_un])
  · (try simp (disch := omega) only [r_gu, r_gy, r_pa, r_pb, r_pe, r_pn, r_ue, r_un])
  · (try simp (disch := omega) only [r_gu, r_gy, r_pa, r_pb, r_pe, r_pn, r_ue, r_un])
  · (try simp (disch := omega) only [r_gu, r_gy, r_pa, r_pb, r_pe, r_pn, r_ue, r_un])
  · intros
    (try simp (disch := omega) only [r_gu, r_gy, r_pa, r_pb, r_pe, r_pn, r_ue, r_un])
  · intros
    (try simp (disch := omega) only [r_gu, r_gy, r_pa, r_pb, r_pe, r_pn, r_ue, r_un])
theorem r_gup {u : Nat → Nat → Int32} {z : Nat → Int32} {Q : List Nat} {t i : Nat} (R : RI u z) (q : RQ u z Q t) (hi : i < Q.length) : ∃ u1 z', fX2_leave (Int32.ofNat i) u = some u1 ∧ fX4_giveUpIt (Int32.ofNat (Q.getD i 0)) z = some z' ∧ (∀ c, c ≠ 13 → c ≠ 14 → u1 c = u c) ∧ RI (r_gu u1 (Q.getD i 0)) z' ∧ RQ (r_gu u1 (Q.getD i 0)) z' (Q.eraseIdx i) t := by
  obtain ⟨u1, z1, e1, e2, hu, hz, R1, q1⟩ := r_lv R q hi
  have g8 := q.g8 hi
  refine ⟨u1, r_gy (upd z1 (74 + 5 * (Q.getD i 0) + 1) 0) (Q.getD i 0), e1, ?_, hu, R1.gave g8, (RF.gave g8).rq q1⟩
  unfold fX4_giveUpIt
  rw [e2, r_bs, r_lay1 g8, r_bs, r_its3 g8, r_bs, r_lay3 g8, r_bs]
  rfl
theorem r_giveUp {u : Nat → Nat → Int32} {z : Nat → Int32} {Q : List Nat} {t o : Nat} (R : RI u z) (q : RQ u z Q t) (gn : Nat → Int32) (ho : o ∈ Q) : ∃ u' z1 z' gn' P, fX2_stopWaiting (Int32.ofNat o) u = some u' ∧ fX4_giveUpIt (Int32.ofNat o) z = some z1 ∧ fX4_serve z1 gn = some (z', gn') ∧ RI u' z' ∧ RQ u' z' P t ∧ r_quiet u' P := by
  obtain ⟨i, hi, e⟩ := r_mem.mp ho
  have g8 := q.g8 hi
  obtain ⟨u1, z1, e1, e2, hu, R1, q1⟩ := r_gup R q hi
  obtain ⟨r, t1, _, t3⟩ := r_to q (q.lt o ho)
  have hr : r = Int32.ofNat i := by
    rcases t3 with ⟨_, c⟩ | ⟨k, hk, er, ek⟩
    · exact absurd ho c
    · rw [er, r_inj q.nd hk hi (ek.trans e.symm)]
  obtain ⟨g', u', z', gn', P, a1, a2, a3, a4, a5, _⟩ := r_serve R1 q1 (-1) gn
  rw [e] at e2 a1
  have h8 := q.lt o ho
  refine ⟨u', z1, z', gn', P, ?_, e2, a2, a3, a4, a5⟩
  unfold fX2_stopWaiting
  rw [t1, r_bs, hr, e1, r_bs, if_pos (r_in h8 (by decide)), if_pos (r_in h8 (by decide)), r_nc (by omega)]
  show (fX2_serveWaiters (-1) (r_gu u1 o)).bind _ = _
  rw [a1]; rfl
/-! appearing and vanishing -/
theorem r_cm (u : Nat → Nat → Int32) (f g : Nat → Int32) : pu (pu u 8 f) 13 g = pu (pu u 13 g) 8 f := by
  funext c
  unfold pu
  by_cases h : c = 13
  · subst h; rfl
  · rw [if_neg h, if_neg h]
theorem r_lv8l (f : Nat → Int32) : ∀ n (k : Int32) (u : Nat → Nat → Int32), fX2_leave_L15 n k (pu u 8 f) = (fX2_leave_L15 n k u).map (fun v => pu v 8 f)
  | 0, _, _ => rfl
  | n + 1, k, u => by
    rw [fX2_leave_L15, fX2_leave_L15, r_pb (by decide), r_pb (by decide), r_pn (by decide), r_cm, r_lv8l f n]
    split
    · rfl
    · split
      · split <;> rfl
      · rfl
theorem r_lv8 (f : Nat → Int32) (k : Int32) (u : Nat → Nat → Int32) : fX2_leave k (pu u 8 f) = (fX2_leave k u).map (fun v => pu v 8 f) := by
  unfold fX2_leave
  rw [r_lv8l, r_pb (by decide)]
  split
  · rfl
  · split
    · cases fX2_leave_L15 1000 k u with
      | none => rfl
      | some v =>
        show some _ = some _
        congr 1
        funext c
        by_cases h : c = 14
        · subst h; rfl
        · simp only [pu, h, if_false]
    · rfl
theorem r_to8l (f : Nat → Int32) (x : Int32) (u : Nat → Nat → Int32) : ∀ n (k : Int32), fX2_turnOf_L2 x (pu u 8 f) n k = fX2_turnOf_L2 x u n k
  | 0, _ => rfl
  | n + 1, k => by
    rw [fX2_turnOf_L2, fX2_turnOf_L2, r_pb (by decide), r_pb (by decide), r_to8l f x u n]
theorem r_to8 (f : Nat → Int32) (x : Int32) (u : Nat → Nat → Int32) : fX2_turnOf x (pu u 8 f) = fX2_turnOf x u := r_to8l f x u 1000 0
theorem RI.vanish {u : Nat → Nat → Int32} {z : Nat → Int32} (R : RI u z) {o : Nat} (ho : o < 8) : RI (pu u 8 (upd (u 8) o 1)) (upd z (74 + 5 * o + 0) 0) := by
  refine RI.mk ?_ ?_ ?_ ?_ ?_ ?_ ?_ ?_ ?_ ?_ ?_ ?_ ?_ ?_ ?_ ?_ ?_ ?_ ?_ ?_
  · (try simp (disch := omega) only [r_pa, r_pb, r_pe, r_pn, r_ue, r_un]) <;> first | exact R.tm | rfl | (have e1 := R.tm; simp_all; done)
  · intro k hk
    (try simp (disch := omega) only [r_pa, r_pb, r_pe, r_pn, r_ue, r_un]) <;> first | exact R.st _ hk | rfl | exact fun c => absurd c (by decide) | exact fun _ => ⟨_, (by assumption), rfl⟩ | (have e1 := R.st _ hk; simp_all; done)
  · intro k hk
    (try simp (disch := omega) only [r_pa, r_pb, r_pe, r_pn, r_ue, r_un]) <;> first | exact R.tt _ hk | rfl | exact fun c => absurd c (by decide) | exact fun _ => ⟨_, (by assumption), rfl⟩ | (have e1 := R.tt _ hk; simp_all; done)
  · intro k hk
    (try simp (disch := omega) only [r_pa, r_pb, r_pe, r_pn, r_ue, r_un]) <;> first | exact R.p0 _ hk | rfl | exact fun c => absurd c (by decide) | exact fun _ => ⟨_, (by assumption), rfl⟩ | (have e1 := R.p0 _ hk; simp_all; done)
  · intro k hk
    (try simp (disch := omega) only [r_pa, r_pb, r_pe, r_pn, r_ue, r_un]) <;> first | exact R.p1 _ hk | rfl | exact fun c => absurd c (by decide) | exact fun _ => ⟨_, (by assumption), rfl⟩ | (have e1 := R.p1 _ hk; simp_all; done)
  · intro k hk
    (try simp (disch := omega) only [r_pa, r_pb, r_pe, r_pn, r_ue, r_un]) <;> first | exact R.p2 _ hk | rfl | exact fun c => absurd c (by decide) | exact fun _ => ⟨_, (by assumption), rfl⟩ | (have e1 := R.p2 _ hk; simp_all; done)
  · intro k hk
    (try simp (disch := omega) only [r_pa, r_pb, r_pe, r_pn, r_ue, r_un]) <;> first | exact R.p3 _ hk | rfl | exact fun c => absurd c (by decide) | exact fun _ => ⟨_, (by assumption), rfl⟩ | (have e1 := R.p3 _ hk; simp_all; done)
  · intro k hk
    (try simp (disch := omega) only [r_pa, r_pb, r_pe, r_pn, r_ue, r_un]) <;> first | exact R.p4 _ hk | rfl | exact fun c => absurd c (by decide) | exact fun _ => ⟨_, (by assumption), rfl⟩ | (have e1 := R.p4 _ hk; simp_all; done)
  · intro k hk
    (try simp (disch := omega) only [r_pa, r_pb, r_pe, r_pn, r_ue, r_un]) <;> first | exact R.p5 _ hk | rfl | exact fun c => absurd c (by decide) | exact fun _ => ⟨_, (by assumption), rfl⟩ | (have e1 := R.p5 _ hk; simp_all; done)
  · intro k hk
    by_cases hkp : k = o
    · subst hkp
      (try simp (disch := omega) only [r_pa, r_pb, r_pe, r_pn, r_ue, r_un]) <;> first | exact R.o0 _ hk | rfl | exact fun c => absurd c (by decide) | exact fun _ => ⟨_, (by assumption), rfl⟩ | (have e1 := R.o0 _ hk; simp_all; done)
    · (try simp (disch := omega) only [r_pa, r_pb, r_pe, r_pn, r_ue, r_un]) <;> first | exact R.o0 _ hk | rfl | exact fun c => absurd c (by decide) | exact fun _ => ⟨_, (by assumption), rfl⟩ | (have e1 := R.o0 _ hk; simp_all; done)
  · intro k hk
    by_cases hkp : k = o
    · subst hkp
      (try simp (disch := omega) only [r_pa, r_pb, r_pe, r_pn, r_ue, r_un]) <;> first | exact R.o2 _ hk | rfl | exact fun c => absurd c (by decide) | exact fun _ => ⟨_, (by assumption), rfl⟩ | (have e1 := R.o2 _ hk; simp_all; done)
    · (try simp (disch := omega) only [r_pa, r_pb, r_pe, r_pn, r_ue, r_un]) <;> first | exact R.o2 _ hk | rfl | exact fun c => absurd c (by decide) | exact fun _ => ⟨_, (by assumption), rfl⟩ | (have e1 := R.o2 _ hk; simp_all; done)
  · intro k hk
    by_cases hkp : k = o
    · subst hkp
      (try simp (disch := omega) only [r_pa, r_pb, r_pe, r_pn, r_ue, r_un]) <;> first | exact R.o3 _ hk | rfl | exact fun c => absurd c (by decide) | exact fun _ => ⟨_, (by assumption), rfl⟩ | (have e1 := R.o3 _ hk; simp_all; done)
    · (try simp (disch := omega) only [r_pa, r_pb, r_pe, r_pn, r_ue, r_un]) <;> first | exact R.o3 _ hk | rfl | exact fun c => absurd c (by decide) | exact fun _ => ⟨_, (by assumption), rfl⟩ | (have e1 := R.o3 _ hk; simp_all; done)
  · intro k hk
    by_cases hkp : k = o
    · subst hkp
      (try simp (disch := omega) only [r_pa, r_pb, r_pe, r_pn, r_ue, r_un]) <;> first | exact R.o4 _ hk | rfl | exact fun c => absurd c (by decide) | exact fun _ => ⟨_, (by assumption), rfl⟩ | (have e1 := R.o4 _ hk; simp_all; done)
    · (try simp (disch := omega) only [r_pa, r_pb, r_pe, r_pn, r_ue, r_un]) <;> first | exact R.o4 _ hk | rfl | exact fun c => absurd c (by decide) | exact fun _ => ⟨_, (by assumption), rfl⟩ | (have e1 := R.o4 _ hk; simp_all; done)
  · intro k hk
    (try simp (disch := omega) only [r_pa, r_pb, r_pe, r_pn, r_ue, r_un]) <;> first | exact R.s2 _ hk | rfl | exact fun c => absurd c (by decide) | exact fun _ => ⟨_, (by assumption), rfl⟩ | (have e1 := R.s2 _ hk; simp_all; done)
  · intro k hk
    (try simp (disch := omega) only [r_pa, r_pb, r_pe, r_pn, r_ue, r_un]) <;> first | exact R.s3 _ hk | rfl | exact fun c => absurd c (by decide) | exact fun _ => ⟨_, (by assumption), rfl⟩ | (have e1 := R.s3 _ hk; simp_all; done)
  · intro k hk
    (try simp (disch := omega) only [r_pa, r_pb, r_pe, r_pn, r_ue, r_un]) <;> first | exact R.s4 _ hk | rfl | exact fun c => absurd c (by decide) | exact fun _ => ⟨_, (by assumption), rfl⟩ | (have e1 := R.s4 _ hk; simp_all; done)
  · intro k hk
    (try simp (disch := omega) only [r_pa, r_pb, r_pe, r_pn, r_ue, r_un]) <;> first | exact R.e4 _ hk | rfl | exact fun c => absurd c (by decide) | exact fun _ => ⟨_, (by assumption), rfl⟩ | (have e1 := R.e4 _ hk; simp_all; done)
  · intro k hk
    (try simp (disch := omega) only [r_pa, r_pb, r_pe, r_pn, r_ue, r_un]) <;> first | exact R.e5 _ hk | rfl | exact fun c => absurd c (by decide) | exact fun _ => ⟨_, (by assumption), rfl⟩ | (have e1 := R.e5 _ hk; simp_all; done)
  · intro k hk
    by_cases hkp : k = o
    · subst hkp
      (try simp (disch := omega) only [r_pa, r_pb, r_pe, r_pn, r_ue, r_un]) <;> first | exact R.s8 _ hk | rfl | exact fun c => absurd c (by decide) | exact fun _ => ⟨_, (by assumption), rfl⟩ | (have e1 := R.s8 _ hk; simp_all; done)
    · (try simp (disch := omega) only [r_pa, r_pb, r_pe, r_pn, r_ue, r_un]) <;> first | exact R.s8 _ hk | rfl | exact fun c => absurd c (by decide) | exact fun _ => ⟨_, (by assumption), rfl⟩ | (have e1 := R.s8 _ hk; simp_all; done)
  · intro k hk
    (try simp (disch := omega) only [r_pa, r_pb, r_pe, r_pn, r_ue, r_un]) <;> first | exact R.g _ hk | rfl | exact fun c => absurd c (by decide) | exact fun _ => ⟨_, (by assumption), rfl⟩ | (have e1 := R.g _ hk; simp_all; done)
theorem RI.comes {u : Nat → Nat → Int32} {z : Nat → Int32} (R : RI u z) {o : Nat} (ho : o < 8) : RI (pu u 8 (upd (u 8) o 0)) (upd z (74 + 5 * o + 0) 1) := by
  refine RI.mk ?_ ?_ ?_ ?_ ?_ ?_ ?_ ?_ ?_ ?_ ?_ ?_ ?_ ?_ ?_ ?_ ?_ ?_ ?_ ?_
  · (try simp (disch := omega) only [r_pa, r_pb, r_pe, r_pn, r_ue, r_un]) <;> first | exact R.tm | rfl | (have e1 := R.tm; simp_all; done)
  · intro k hk
    (try simp (disch := omega) only [r_pa, r_pb, r_pe, r_pn, r_ue, r_un]) <;> first | exact R.st _ hk | rfl | exact fun c => absurd c (by decide) | exact fun _ => ⟨_, (by assumption), rfl⟩ | (have e1 := R.st _ hk; simp_all; done)
  · intro k hk
    (try simp (disch := omega) only [r_pa, r_pb, r_pe, r_pn, r_ue, r_un]) <;> first | exact R.tt _ hk | rfl | exact fun c => absurd c (by decide) | exact fun _ => ⟨_, (by assumption), rfl⟩ | (have e1 := R.tt _ hk; simp_all; done)
  · intro k hk
    (try simp (disch := omega) only [r_pa, r_pb, r_pe, r_pn, r_ue, r_un]) <;> first | exact R.p0 _ hk | rfl | exact fun c => absurd c (by decide) | exact fun _ => ⟨_, (by assumption), rfl⟩ | (have e1 := R.p0 _ hk; simp_all; done)
  · intro k hk
    (try simp (disch := omega) only [r_pa, r_pb, r_pe, r_pn, r_ue, r_un]) <;> first | exact R.p1 _ hk | rfl | exact fun c => absurd c (by decide) | exact fun _ => ⟨_, (by assumption), rfl⟩ | (have e1 := R.p1 _ hk; simp_all; done)
  · intro k hk
    (try simp (disch := omega) only [r_pa, r_pb, r_pe, r_pn, r_ue, r_un]) <;> first | exact R.p2 _ hk | rfl | exact fun c => absurd c (by decide) | exact fun _ => ⟨_, (by assumption), rfl⟩ | (have e1 := R.p2 _ hk; simp_all; done)
  · intro k hk
    (try simp (disch := omega) only [r_pa, r_pb, r_pe, r_pn, r_ue, r_un]) <;> first | exact R.p3 _ hk | rfl | exact fun c => absurd c (by decide) | exact fun _ => ⟨_, (by assumption), rfl⟩ | (have e1 := R.p3 _ hk; simp_all; done)
  · intro k hk
    (try simp (disch := omega) only [r_pa, r_pb, r_pe, r_pn, r_ue, r_un]) <;> first | exact R.p4 _ hk | rfl | exact fun c => absurd c (by decide) | exact fun _ => ⟨_, (by assumption), rfl⟩ | (have e1 := R.p4 _ hk; simp_all; done)
  · intro k hk
    (try simp (disch := omega) only [r_pa, r_pb, r_pe, r_pn, r_ue, r_un]) <;> first | exact R.p5 _ hk | rfl | exact fun c => absurd c (by decide) | exact fun _ => ⟨_, (by assumption), rfl⟩ | (have e1 := R.p5 _ hk; simp_all; done)
  · intro k hk
    by_cases hkp : k = o
    · subst hkp
      (try simp (disch := omega) only [r_pa, r_pb, r_pe, r_pn, r_ue, r_un]) <;> first | exact R.o0 _ hk | rfl | exact fun c => absurd c (by decide) | exact fun _ => ⟨_, (by assumption), rfl⟩ | (have e1 := R.o0 _ hk; simp_all; done)
    · (try simp (disch := omega) only [r_pa, r_pb, r_pe, r_pn, r_ue, r_un]) <;> first | exact R.o0 _ hk | rfl | exact fun c => absurd c (by decide) | exact fun _ => ⟨_, (by assumption), rfl⟩ | (have e1 := R.o0 _ hk; simp_all; done)
  · intro k hk
    by_cases hkp : k = o
    · subst hkp
      (try simp (disch := omega) only [r_pa, r_pb, r_pe, r_pn, r_ue, r_un]) <;> first | exact R.o2 _ hk | rfl | exact fun c => absurd c (by decide) | exact fun _ => ⟨_, (by assumption), rfl⟩ | (have e1 := R.o2 _ hk; simp_all; done)
    · (try simp (disch := omega) only [r_pa, r_pb, r_pe, r_pn, r_ue, r_un]) <;> first | exact R.o2 _ hk | rfl | exact fun c => absurd c (by decide) | exact fun _ => ⟨_, (by assumption), rfl⟩ | (have e1 := R.o2 _ hk; simp_all; done)
  · intro k hk
    by_cases hkp : k = o
    · subst hkp
      (try simp (disch := omega) only [r_pa, r_pb, r_pe, r_pn, r_ue, r_un]) <;> first | exact R.o3 _ hk | rfl | exact fun c => absurd c (by decide) | exact fun _ => ⟨_, (by assumption), rfl⟩ | (have e1 := R.o3 _ hk; simp_all; done)
    · (try simp (disch := omega) only [r_pa, r_pb, r_pe, r_pn, r_ue, r_un]) <;> first | exact R.o3 _ hk | rfl | exact fun c => absurd c (by decide) | exact fun _ => ⟨_, (by assumption), rfl⟩ | (have e1 := R.o3 _ hk; simp_all; done)
  · intro k hk
    by_cases hkp : k = o
    · subst hkp
      (try simp (disch := omega) only [r_pa, r_pb, r_pe, r_pn, r_ue, r_un]) <;> first | exact R.o4 _ hk | rfl | exact fun c => absurd c (by decide) | exact fun _ => ⟨_, (by assumption), rfl⟩ | (have e1 := R.o4 _ hk; simp_all; done)
    · (try simp (disch := omega) only [r_pa, r_pb, r_pe, r_pn, r_ue, r_un]) <;> first | exact R.o4 _ hk | rfl | exact fun c => absurd c (by decide) | exact fun _ => ⟨_, (by assumption), rfl⟩ | (have e1 := R.o4 _ hk; simp_all; done)
  · intro k hk
    (try simp (disch := omega) only [r_pa, r_pb, r_pe, r_pn, r_ue, r_un]) <;> first | exact R.s2 _ hk | rfl | exact fun c => absurd c (by decide) | exact fun _ => ⟨_, (by assumption), rfl⟩ | (have e1 := R.s2 _ hk; simp_all; done)
  · intro k hk
    (try simp (disch := omega) only [r_pa, r_pb, r_pe, r_pn, r_ue, r_un]) <;> first | exact R.s3 _ hk | rfl | exact fun c => absurd c (by decide) | exact fun _ => ⟨_, (by assumption), rfl⟩ | (have e1 := R.s3 _ hk; simp_all; done)
  · intro k hk
    (try simp (disch := omega) only [r_pa, r_pb, r_pe, r_pn, r_ue, r_un]) <;> first | exact R.s4 _ hk | rfl | exact fun c => absurd c (by decide) | exact fun _ => ⟨_, (by assumption), rfl⟩ | (have e1 := R.s4 _ hk; simp_all; done)
  · intro k hk
    (try simp (disch := omega) only [r_pa, r_pb, r_pe, r_pn, r_ue, r_un]) <;> first | exact R.e4 _ hk | rfl | exact fun c => absurd c (by decide) | exact fun _ => ⟨_, (by assumption), rfl⟩ | (have e1 := R.e4 _ hk; simp_all; done)
  · intro k hk
    (try simp (disch := omega) only [r_pa, r_pb, r_pe, r_pn, r_ue, r_un]) <;> first | exact R.e5 _ hk | rfl | exact fun c => absurd c (by decide) | exact fun _ => ⟨_, (by assumption), rfl⟩ | (have e1 := R.e5 _ hk; simp_all; done)
  · intro k hk
    by_cases hkp : k = o
    · subst hkp
      (try simp (disch := omega) only [r_pa, r_pb, r_pe, r_pn, r_ue, r_un]) <;> first | exact R.s8 _ hk | rfl | exact fun c => absurd c (by decide) | exact fun _ => ⟨_, (by assumption), rfl⟩ | (have e1 := R.s8 _ hk; simp_all; done)
    · (try simp (disch := omega) only [r_pa, r_pb, r_pe, r_pn, r_ue, r_un]) <;> first | exact R.s8 _ hk | rfl | exact fun c => absurd c (by decide) | exact fun _ => ⟨_, (by assumption), rfl⟩ | (have e1 := R.s8 _ hk; simp_all; done)
  · intro k hk
    (try simp (disch := omega) only [r_pa, r_pb, r_pe, r_pn, r_ue, r_un]) <;> first | exact R.g _ hk | rfl | exact fun c => absurd c (by decide) | exact fun _ => ⟨_, (by assumption), rfl⟩ | (have e1 := R.g _ hk; simp_all; done)
theorem RQ.turn {u : Nat → Nat → Int32} {z : Nat → Int32} {Q : List Nat} {t o : Nat} {v w : Int32} (q : RQ u z Q t) (ho : o < 8) (hn : o ∉ Q) : RQ (pu u 8 (upd (u 8) o v)) (upd z (74 + 5 * o + 0) w) Q t := by
  refine RQ.mk ?_ ?_ ?_ ?_ q.nd q.lt ?_ ?_ q.tm q.ws
  · rw [r_un (by omega)]; exact q.n1
  · exact q.n2
  · intro k hk; rw [r_un (by omega)]; exact q.q1 k hk
  · exact q.q2
  · intro k hk
    rw [r_pa rfl, r_un (fun c => hn (by rw [c]; exact hk))]
    exact q.th k hk
  · intro k hk; rw [r_un (by omega)]; exact q.o1 k hk
theorem r_vanish {u : Nat → Nat → Int32} {z : Nat → Int32} {Q : List Nat} {t o : Nat} (R : RI u z) (q : RQ u z Q t) (gn : Nat → Int32) (ho : o < 8) : ∃ g u' z' gn' P, fX2_turnUp (Int32.ofNat o) 0 u = some u' ∧ fX2_lentCount (Int32.ofNat o) u' = some g ∧ fX4_appearIt (Int32.ofNat o) 0 z gn = some (g, z', gn') ∧ RI u' z' ∧ RQ u' z' P t ∧ r_quiet u' P := by
  obtain ⟨r, t1, t2, t3⟩ := r_to q ho
  have cls : fX2_turnUp (Int32.ofNat o) 0 u = (fX2_leave r u).bind fun v => (fX2_serveWaiters (-1) (pu v 8 (upd (u 8) o 1))).bind fun r4 => some r4.2 := by
    unfold fX2_turnUp
    rw [if_pos rfl, r_bs, if_pos (r_in ho (by decide)), r_nc (by omega), r_b1, r_to8, t1, r_bs, r_lv8]
    cases fX2_leave r u with
    | none => rw [Option.map_none, Option.bind_none, Option.bind_none]
    | some v => rw [Option.map_some, r_bs, r_bs]
  rw [cls]
  unfold fX4_appearIt
  rw [if_pos rfl, if_pos rfl, r_wz q ho, r_bs]
  have fin : ∀ (u1 : Nat → Nat → Int32) (z1 : Nat → Int32) (Q1 : List Nat), RI u1 z1 → RQ u1 z1 Q1 t → o ∉ Q1 → u1 8 = u 8 → ∃ g u' z' gn' P, ((fX2_serveWaiters (-1) (pu u1 8 (upd (u 8) o 1))).bind fun r4 => some r4.2) = some u' ∧ fX2_lentCount (Int32.ofNat o) u' = some g ∧ ((some (0 : Int32) : Option Int32).bind fun v5 => (fX4_lay (Int32.ofNat o) 0 v5 z1).bind fun r6 => (fX4_serve r6 gn).bind fun r7 => (fX4_lentTo (Int32.ofNat o) r7.1).bind fun r8 => some (r8, r7.1, r7.2)) = some (g, z', gn') ∧ RI u' z' ∧ RQ u' z' P t ∧ r_quiet u' P := by
    intro u1 z1 Q1 R1 q1 hn h8
    rw [← h8, r_bs, r_lay0 ho, r_bs]
    obtain ⟨g', u', z', gn', P, a1, a2, a3, a4, a5, _⟩ := r_serve (R1.vanish ho) (q1.turn ho hn (v := 1) (w := 0)) (-1) gn
    rw [a1, a2, r_bs, r_bs]
    dsimp only
    rw [r_lz a3 ho, r_bs]
    exact ⟨Int32.ofNat (r_lc u' o), u', z', gn', P, rfl, r_lco u' o, rfl, a3, a4, a5⟩
  rcases t3 with ⟨er, hn⟩ | ⟨i, hi, er, ei⟩
  · have lv : fX2_leave r u = some u := by
      unfold fX2_leave
      rw [er, if_pos (by decide)]
    rw [lv, r_bs, if_neg hn, if_pos rfl, r_bs]
    exact fin u z Q R q hn rfl
  · obtain ⟨u1, z1, e1, e2, hu, hz, R1, q1⟩ := r_lv R q hi
    rw [ei] at e2 R1 q1
    rw [er, e1, r_bs, if_pos (r_mem.mpr ⟨i, hi, ei⟩), if_neg r_10, e2, r_bs, r_lay1 ho, r_bs, r_bs]
    exact fin u1 _ _ R1 q1 (fun c => ((r_em q.nd hi).mp c).2 ei.symm) (hu 8 (by decide) (by decide))
theorem r_comes {u : Nat → Nat → Int32} {z : Nat → Int32} {Q : List Nat} {t o : Nat} (R : RI u z) (q : RQ u z Q t) (gn : Nat → Int32) (ho : o < 8) (hn : o ∉ Q) : ∃ g u' z' gn' P, fX2_turnUp (Int32.ofNat o) 1 u = some u' ∧ fX2_lentCount (Int32.ofNat o) u' = some g ∧ fX4_appearIt (Int32.ofNat o) 1 z gn = some (g, z', gn') ∧ RI u' z' ∧ RQ u' z' P t ∧ r_quiet u' P := by
  obtain ⟨r, t1, t2, t3⟩ := r_to q ho
  have er : r = -1 := by
    rcases t3 with ⟨e, _⟩ | ⟨i, hi, _, ei⟩
    · exact e
    · exact absurd (r_mem.mpr ⟨i, hi, ei⟩) hn
  have lv : fX2_leave r (pu u 8 (upd (u 8) o 0)) = some (pu u 8 (upd (u 8) o 0)) := by
    unfold fX2_leave
    rw [er, if_pos (by decide)]
  obtain ⟨g', u', z', gn', P, a1, a2, a3, a4, a5, _⟩ := r_serve (R.comes ho) (q.turn ho hn (v := 0) (w := 1)) (-1) gn
  unfold fX2_turnUp fX4_appearIt
  rw [if_neg r_10, if_neg r_10, if_neg r_10, r_bs, r_bs, r_bs, if_pos (r_in ho (by decide)), r_nc (by omega), r_b0, r_to8, t1, r_bs, lv, r_bs, r_lay0 ho, r_bs, a1, a2, r_bs, r_bs]
  dsimp only
  rw [r_lz a3 ho, r_bs]
  exact ⟨Int32.ofNat (r_lc u' o), u', z', gn', P, rfl, r_lco u' o, rfl, a3, a4, a5⟩
/-! sickening -/
theorem RI.sick {u : Nat → Nat → Int32} {z : Nat → Int32} (R : RI u z) {p : Nat} (hp : p < 8) (h0 : u 2 p ≠ 0) : RI (pu u 4 (upd (u 4) p 1)) (upd z (26 + 6 * p + 2) 1) := by
  refine RI.mk ?_ ?_ ?_ ?_ ?_ ?_ ?_ ?_ ?_ ?_ ?_ ?_ ?_ ?_ ?_ ?_ ?_ ?_ ?_ ?_
  · (try simp (disch := omega) only [r_pa, r_pb, r_pe, r_pn, r_ue, r_un]) <;> first | exact R.tm | rfl | (have e1 := R.tm; simp_all; done)
  · intro k hk
    (try simp (disch := omega) only [r_pa, r_pb, r_pe, r_pn, r_ue, r_un]) <;> first | exact R.st _ hk | rfl | exact fun c => absurd c (by decide) | exact fun _ => ⟨_, (by assumption), rfl⟩ | (have e1 := R.st _ hk; simp_all; done)
  · intro k hk
    (try simp (disch := omega) only [r_pa, r_pb, r_pe, r_pn, r_ue, r_un]) <;> first | exact R.tt _ hk | rfl | exact fun c => absurd c (by decide) | exact fun _ => ⟨_, (by assumption), rfl⟩ | (have e1 := R.tt _ hk; simp_all; done)
  · intro k hk
    by_cases hkp : k = p
    · subst hkp
      (try simp (disch := omega) only [r_pa, r_pb, r_pe, r_pn, r_ue, r_un]) <;> first | exact R.p0 _ hk | rfl | exact fun c => absurd c (by decide) | exact fun _ => ⟨_, (by assumption), rfl⟩ | (have e1 := R.p0 _ hk; simp_all; done)
    · (try simp (disch := omega) only [r_pa, r_pb, r_pe, r_pn, r_ue, r_un]) <;> first | exact R.p0 _ hk | rfl | exact fun c => absurd c (by decide) | exact fun _ => ⟨_, (by assumption), rfl⟩ | (have e1 := R.p0 _ hk; simp_all; done)
  · intro k hk
    by_cases hkp : k = p
    · subst hkp
      (try simp (disch := omega) only [r_pa, r_pb, r_pe, r_pn, r_ue, r_un]) <;> first | exact R.p1 _ hk | rfl | exact fun c => absurd c (by decide) | exact fun _ => ⟨_, (by assumption), rfl⟩ | (have e1 := R.p1 _ hk; simp_all; done)
    · (try simp (disch := omega) only [r_pa, r_pb, r_pe, r_pn, r_ue, r_un]) <;> first | exact R.p1 _ hk | rfl | exact fun c => absurd c (by decide) | exact fun _ => ⟨_, (by assumption), rfl⟩ | (have e1 := R.p1 _ hk; simp_all; done)
  · intro k hk
    by_cases hkp : k = p
    · subst hkp
      (try simp (disch := omega) only [r_pa, r_pb, r_pe, r_pn, r_ue, r_un]) <;> first | exact R.p2 _ hk | rfl | exact fun c => absurd c (by decide) | exact fun _ => ⟨_, (by assumption), rfl⟩ | (have e1 := R.p2 _ hk; simp_all; done)
    · (try simp (disch := omega) only [r_pa, r_pb, r_pe, r_pn, r_ue, r_un]) <;> first | exact R.p2 _ hk | rfl | exact fun c => absurd c (by decide) | exact fun _ => ⟨_, (by assumption), rfl⟩ | (have e1 := R.p2 _ hk; simp_all; done)
  · intro k hk
    by_cases hkp : k = p
    · subst hkp
      (try simp (disch := omega) only [r_pa, r_pb, r_pe, r_pn, r_ue, r_un]) <;> first | exact R.p3 _ hk | rfl | exact fun c => absurd c (by decide) | exact fun _ => ⟨_, (by assumption), rfl⟩ | (have e1 := R.p3 _ hk; simp_all; done)
    · (try simp (disch := omega) only [r_pa, r_pb, r_pe, r_pn, r_ue, r_un]) <;> first | exact R.p3 _ hk | rfl | exact fun c => absurd c (by decide) | exact fun _ => ⟨_, (by assumption), rfl⟩ | (have e1 := R.p3 _ hk; simp_all; done)
  · intro k hk
    by_cases hkp : k = p
    · subst hkp
      (try simp (disch := omega) only [r_pa, r_pb, r_pe, r_pn, r_ue, r_un]) <;> first | exact R.p4 _ hk | rfl | exact fun c => absurd c (by decide) | exact fun _ => ⟨_, (by assumption), rfl⟩ | (have e1 := R.p4 _ hk; simp_all; done)
    · (try simp (disch := omega) only [r_pa, r_pb, r_pe, r_pn, r_ue, r_un]) <;> first | exact R.p4 _ hk | rfl | exact fun c => absurd c (by decide) | exact fun _ => ⟨_, (by assumption), rfl⟩ | (have e1 := R.p4 _ hk; simp_all; done)
  · intro k hk
    by_cases hkp : k = p
    · subst hkp
      (try simp (disch := omega) only [r_pa, r_pb, r_pe, r_pn, r_ue, r_un]) <;> first | exact R.p5 _ hk | rfl | exact fun c => absurd c (by decide) | exact fun _ => ⟨_, (by assumption), rfl⟩ | (have e1 := R.p5 _ hk; simp_all; done)
    · (try simp (disch := omega) only [r_pa, r_pb, r_pe, r_pn, r_ue, r_un]) <;> first | exact R.p5 _ hk | rfl | exact fun c => absurd c (by decide) | exact fun _ => ⟨_, (by assumption), rfl⟩ | (have e1 := R.p5 _ hk; simp_all; done)
  · intro k hk
    (try simp (disch := omega) only [r_pa, r_pb, r_pe, r_pn, r_ue, r_un]) <;> first | exact R.o0 _ hk | rfl | exact fun c => absurd c (by decide) | exact fun _ => ⟨_, (by assumption), rfl⟩ | (have e1 := R.o0 _ hk; simp_all; done)
  · intro k hk
    (try simp (disch := omega) only [r_pa, r_pb, r_pe, r_pn, r_ue, r_un]) <;> first | exact R.o2 _ hk | rfl | exact fun c => absurd c (by decide) | exact fun _ => ⟨_, (by assumption), rfl⟩ | (have e1 := R.o2 _ hk; simp_all; done)
  · intro k hk
    (try simp (disch := omega) only [r_pa, r_pb, r_pe, r_pn, r_ue, r_un]) <;> first | exact R.o3 _ hk | rfl | exact fun c => absurd c (by decide) | exact fun _ => ⟨_, (by assumption), rfl⟩ | (have e1 := R.o3 _ hk; simp_all; done)
  · intro k hk
    (try simp (disch := omega) only [r_pa, r_pb, r_pe, r_pn, r_ue, r_un]) <;> first | exact R.o4 _ hk | rfl | exact fun c => absurd c (by decide) | exact fun _ => ⟨_, (by assumption), rfl⟩ | (have e1 := R.o4 _ hk; simp_all; done)
  · intro k hk
    by_cases hkp : k = p
    · subst hkp
      (try simp (disch := omega) only [r_pa, r_pb, r_pe, r_pn, r_ue, r_un]) <;> first | exact R.s2 _ hk | rfl | exact fun c => absurd c (by decide) | exact fun _ => ⟨_, (by assumption), rfl⟩ | (have e1 := R.s2 _ hk; simp_all; done)
    · (try simp (disch := omega) only [r_pa, r_pb, r_pe, r_pn, r_ue, r_un]) <;> first | exact R.s2 _ hk | rfl | exact fun c => absurd c (by decide) | exact fun _ => ⟨_, (by assumption), rfl⟩ | (have e1 := R.s2 _ hk; simp_all; done)
  · intro k hk
    by_cases hkp : k = p
    · subst hkp
      (try simp (disch := omega) only [r_pa, r_pb, r_pe, r_pn, r_ue, r_un]) <;> first | exact R.s3 _ hk | rfl | exact fun c => absurd c (by decide) | exact fun _ => ⟨_, (by assumption), rfl⟩ | (have e1 := R.s3 _ hk; simp_all; done)
    · (try simp (disch := omega) only [r_pa, r_pb, r_pe, r_pn, r_ue, r_un]) <;> first | exact R.s3 _ hk | rfl | exact fun c => absurd c (by decide) | exact fun _ => ⟨_, (by assumption), rfl⟩ | (have e1 := R.s3 _ hk; simp_all; done)
  · intro k hk
    by_cases hkp : k = p
    · subst hkp
      (try simp (disch := omega) only [r_pa, r_pb, r_pe, r_pn, r_ue, r_un]) <;> first | exact R.s4 _ hk | rfl | exact fun c => absurd c (by decide) | exact fun _ => ⟨_, (by assumption), rfl⟩ | (have e1 := R.s4 _ hk; simp_all; done)
    · (try simp (disch := omega) only [r_pa, r_pb, r_pe, r_pn, r_ue, r_un]) <;> first | exact R.s4 _ hk | rfl | exact fun c => absurd c (by decide) | exact fun _ => ⟨_, (by assumption), rfl⟩ | (have e1 := R.s4 _ hk; simp_all; done)
  · intro k hk
    by_cases hkp : k = p
    · subst hkp
      (try simp (disch := omega) only [r_pa, r_pb, r_pe, r_pn, r_ue, r_un]) <;> first | exact R.e4 _ hk | rfl | exact fun c => absurd c (by decide) | exact fun _ => ⟨_, (by assumption), rfl⟩ | (have e1 := R.e4 _ hk; simp_all; done)
    · (try simp (disch := omega) only [r_pa, r_pb, r_pe, r_pn, r_ue, r_un]) <;> first | exact R.e4 _ hk | rfl | exact fun c => absurd c (by decide) | exact fun _ => ⟨_, (by assumption), rfl⟩ | (have e1 := R.e4 _ hk; simp_all; done)
  · intro k hk
    by_cases hkp : k = p
    · subst hkp
      (try simp (disch := omega) only [r_pa, r_pb, r_pe, r_pn, r_ue, r_un]) <;> first | exact R.e5 _ hk | rfl | exact fun c => absurd c (by decide) | exact fun _ => ⟨_, (by assumption), rfl⟩ | (have e1 := R.e5 _ hk; simp_all; done)
    · (try simp (disch := omega) only [r_pa, r_pb, r_pe, r_pn, r_ue, r_un]) <;> first | exact R.e5 _ hk | rfl | exact fun c => absurd c (by decide) | exact fun _ => ⟨_, (by assumption), rfl⟩ | (have e1 := R.e5 _ hk; simp_all; done)
  · intro k hk
    (try simp (disch := omega) only [r_pa, r_pb, r_pe, r_pn, r_ue, r_un]) <;> first | exact R.s8 _ hk | rfl | exact fun c => absurd c (by decide) | exact fun _ => ⟨_, (by assumption), rfl⟩ | (have e1 := R.s8 _ hk; simp_all; done)
  · intro k hk
    (try simp (disch := omega) only [r_pa, r_pb, r_pe, r_pn, r_ue, r_un]) <;> first | exact R.g _ hk | rfl | exact fun c => absurd c (by decide) | exact fun _ => ⟨_, (by assumption), rfl⟩ | (have e1 := R.g _ hk; simp_all; done)
theorem r_sick {u : Nat → Nat → Int32} {z : Nat → Int32} {Q : List Nat} {t p : Nat} (R : RI u z) (q : RQ u z Q t) (Y : r_quiet u Q) (gn : Nat → Int32) (hp : p < 8) (h0 : u 2 p ≠ 0) : ∃ g u' z', fX2_makeSick (Int32.ofNat p) u = some (g, u') ∧ fX4_sickenIt (Int32.ofNat p) z gn = some (g, z', gn) ∧ RI u' z' ∧ RQ u' z' Q t ∧ r_quiet u' Q ∧ (g = 0 ∨ g = 1) := by
  have R1 := R.sick hp h0
  have q1 : RQ (pu u 4 (upd (u 4) p 1)) (upd z (26 + 6 * p + 2) 1) Q t := by
    refine q.frame rfl rfl rfl rfl rfl (fun k a b => ?_) (fun k hk => ?_)
    · simp (disch := omega) only [r_pa, r_pb, r_pe, r_pn, r_ue, r_un]
    · simp (disch := omega) only [r_pa, r_pb, r_pe, r_pn, r_ue, r_un]
  have Y1 : r_quiet (pu u 4 (upd (u 4) p 1)) Q := Y
  unfold fX2_makeSick fX4_sickenIt
  rw [if_pos (r_in hp (by decide)), if_pos (r_in hp (by decide)), if_pos (r_in hp (by decide)), r_nc (by omega), r_b1, r_of2 hp, r_bs, r_put2 hp, r_bs, r_still R1 q1 Y1 gn, r_bs, R.p2 p hp]
  rcases R.s4 p hp with h | h
  · rw [if_pos h, h]
    exact ⟨1, _, _, rfl, rfl, R1, q1, Y1, Or.inr rfl⟩
  · rw [if_neg (by rw [h]; exact r_10), h]
    exact ⟨0, _, _, rfl, rfl, R1, q1, Y1, Or.inl rfl⟩
/-! settings -/
theorem RI.change {u : Nat → Nat → Int32} {z : Nat → Int32} (R : RI u z) {i : Nat} {v : Int32} (hi : i < 9) (hv : pw_least i ≤ v ∧ v ≤ pw_great i) : RI (pu u 1 (upd (u 1) i v)) (upd z i v) := by
  refine RI.mk ?_ ?_ ?_ ?_ ?_ ?_ ?_ ?_ ?_ ?_ ?_ ?_ ?_ ?_ ?_ ?_ ?_ ?_ ?_ ?_
  · (try simp (disch := omega) only [r_pa, r_pb, r_pe, r_pn, r_ue, r_un]) <;> first | exact R.tm | rfl | (have e1 := R.tm; simp_all; done)
  · intro k hk
    by_cases hkp : k = i
    · subst hkp
      (try simp (disch := omega) only [r_pa, r_pb, r_pe, r_pn, r_ue, r_un]) <;> first | exact R.st _ hk | rfl | exact fun c => absurd c (by decide) | exact fun _ => ⟨_, (by assumption), rfl⟩ | (have e1 := R.st _ hk; simp_all; done)
    · (try simp (disch := omega) only [r_pa, r_pb, r_pe, r_pn, r_ue, r_un]) <;> first | exact R.st _ hk | rfl | exact fun c => absurd c (by decide) | exact fun _ => ⟨_, (by assumption), rfl⟩ | (have e1 := R.st _ hk; simp_all; done)
  · intro k hk
    by_cases hkp : k = i
    · subst hkp
      (try simp (disch := omega) only [r_pa, r_pb, r_pe, r_pn, r_ue, r_un]) <;> first | exact R.tt _ hk | rfl | exact fun c => absurd c (by decide) | exact fun _ => ⟨_, (by assumption), rfl⟩ | (have e1 := R.tt _ hk; simp_all; done)
    · (try simp (disch := omega) only [r_pa, r_pb, r_pe, r_pn, r_ue, r_un]) <;> first | exact R.tt _ hk | rfl | exact fun c => absurd c (by decide) | exact fun _ => ⟨_, (by assumption), rfl⟩ | (have e1 := R.tt _ hk; simp_all; done)
  · intro k hk
    (try simp (disch := omega) only [r_pa, r_pb, r_pe, r_pn, r_ue, r_un]) <;> first | exact R.p0 _ hk | rfl | exact fun c => absurd c (by decide) | exact fun _ => ⟨_, (by assumption), rfl⟩ | (have e1 := R.p0 _ hk; simp_all; done)
  · intro k hk
    (try simp (disch := omega) only [r_pa, r_pb, r_pe, r_pn, r_ue, r_un]) <;> first | exact R.p1 _ hk | rfl | exact fun c => absurd c (by decide) | exact fun _ => ⟨_, (by assumption), rfl⟩ | (have e1 := R.p1 _ hk; simp_all; done)
  · intro k hk
    (try simp (disch := omega) only [r_pa, r_pb, r_pe, r_pn, r_ue, r_un]) <;> first | exact R.p2 _ hk | rfl | exact fun c => absurd c (by decide) | exact fun _ => ⟨_, (by assumption), rfl⟩ | (have e1 := R.p2 _ hk; simp_all; done)
  · intro k hk
    (try simp (disch := omega) only [r_pa, r_pb, r_pe, r_pn, r_ue, r_un]) <;> first | exact R.p3 _ hk | rfl | exact fun c => absurd c (by decide) | exact fun _ => ⟨_, (by assumption), rfl⟩ | (have e1 := R.p3 _ hk; simp_all; done)
  · intro k hk
    (try simp (disch := omega) only [r_pa, r_pb, r_pe, r_pn, r_ue, r_un]) <;> first | exact R.p4 _ hk | rfl | exact fun c => absurd c (by decide) | exact fun _ => ⟨_, (by assumption), rfl⟩ | (have e1 := R.p4 _ hk; simp_all; done)
  · intro k hk
    (try simp (disch := omega) only [r_pa, r_pb, r_pe, r_pn, r_ue, r_un]) <;> first | exact R.p5 _ hk | rfl | exact fun c => absurd c (by decide) | exact fun _ => ⟨_, (by assumption), rfl⟩ | (have e1 := R.p5 _ hk; simp_all; done)
  · intro k hk
    (try simp (disch := omega) only [r_pa, r_pb, r_pe, r_pn, r_ue, r_un]) <;> first | exact R.o0 _ hk | rfl | exact fun c => absurd c (by decide) | exact fun _ => ⟨_, (by assumption), rfl⟩ | (have e1 := R.o0 _ hk; simp_all; done)
  · intro k hk
    (try simp (disch := omega) only [r_pa, r_pb, r_pe, r_pn, r_ue, r_un]) <;> first | exact R.o2 _ hk | rfl | exact fun c => absurd c (by decide) | exact fun _ => ⟨_, (by assumption), rfl⟩ | (have e1 := R.o2 _ hk; simp_all; done)
  · intro k hk
    (try simp (disch := omega) only [r_pa, r_pb, r_pe, r_pn, r_ue, r_un]) <;> first | exact R.o3 _ hk | rfl | exact fun c => absurd c (by decide) | exact fun _ => ⟨_, (by assumption), rfl⟩ | (have e1 := R.o3 _ hk; simp_all; done)
  · intro k hk
    (try simp (disch := omega) only [r_pa, r_pb, r_pe, r_pn, r_ue, r_un]) <;> first | exact R.o4 _ hk | rfl | exact fun c => absurd c (by decide) | exact fun _ => ⟨_, (by assumption), rfl⟩ | (have e1 := R.o4 _ hk; simp_all; done)
  · intro k hk
    (try simp (disch := omega) only [r_pa, r_pb, r_pe, r_pn, r_ue, r_un]) <;> first | exact R.s2 _ hk | rfl | exact fun c => absurd c (by decide) | exact fun _ => ⟨_, (by assumption), rfl⟩ | (have e1 := R.s2 _ hk; simp_all; done)
  · intro k hk
    (try simp (disch := omega) only [r_pa, r_pb, r_pe, r_pn, r_ue, r_un]) <;> first | exact R.s3 _ hk | rfl | exact fun c => absurd c (by decide) | exact fun _ => ⟨_, (by assumption), rfl⟩ | (have e1 := R.s3 _ hk; simp_all; done)
  · intro k hk
    (try simp (disch := omega) only [r_pa, r_pb, r_pe, r_pn, r_ue, r_un]) <;> first | exact R.s4 _ hk | rfl | exact fun c => absurd c (by decide) | exact fun _ => ⟨_, (by assumption), rfl⟩ | (have e1 := R.s4 _ hk; simp_all; done)
  · intro k hk
    (try simp (disch := omega) only [r_pa, r_pb, r_pe, r_pn, r_ue, r_un]) <;> first | exact R.e4 _ hk | rfl | exact fun c => absurd c (by decide) | exact fun _ => ⟨_, (by assumption), rfl⟩ | (have e1 := R.e4 _ hk; simp_all; done)
  · intro k hk
    (try simp (disch := omega) only [r_pa, r_pb, r_pe, r_pn, r_ue, r_un]) <;> first | exact R.e5 _ hk | rfl | exact fun c => absurd c (by decide) | exact fun _ => ⟨_, (by assumption), rfl⟩ | (have e1 := R.e5 _ hk; simp_all; done)
  · intro k hk
    (try simp (disch := omega) only [r_pa, r_pb, r_pe, r_pn, r_ue, r_un]) <;> first | exact R.s8 _ hk | rfl | exact fun c => absurd c (by decide) | exact fun _ => ⟨_, (by assumption), rfl⟩ | (have e1 := R.s8 _ hk; simp_all; done)
  · intro k hk
    by_cases hkp : k = i
    · subst hkp
      (try simp (disch := omega) only [r_pa, r_pb, r_pe, r_pn, r_ue, r_un]) <;> first | exact R.g _ hk | rfl | exact fun c => absurd c (by decide) | exact fun _ => ⟨_, (by assumption), rfl⟩ | (have e1 := R.g _ hk; simp_all; done)
    · (try simp (disch := omega) only [r_pa, r_pb, r_pe, r_pn, r_ue, r_un]) <;> first | exact R.g _ hk | rfl | exact fun c => absurd c (by decide) | exact fun _ => ⟨_, (by assumption), rfl⟩ | (have e1 := R.g _ hk; simp_all; done)
theorem r_set {u : Nat → Nat → Int32} {z : Nat → Int32} {Q : List Nat} {t i : Nat} {v : Int32} (R : RI u z) (q : RQ u z Q t) (gn : Nat → Int32) (hi : i < 9) (hv : pw_least i ≤ v ∧ v ≤ pw_great i) : ∃ u' z' gn' P, fX2_change (Int32.ofNat i) v u = some (z i, u') ∧ fX4_serve (upd z i v) gn = some (z', gn') ∧ RI u' z' ∧ RQ u' z' P t ∧ r_quiet u' P := by
  have R1 := R.change hi hv
  have q1 : RQ (pu u 1 (upd (u 1) i v)) (upd z i v) Q t := by
    refine q.frame rfl rfl rfl rfl rfl (fun k a b => ?_) (fun k hk => ?_)
    · rw [r_un (by omega)]
    · rw [r_un (by omega)]
  obtain ⟨g', u', z', gn', P, a1, a2, a3, a4, a5, _⟩ := r_serve R1 q1 (-1) gn
  refine ⟨u', z', gn', P, ?_, a2, a3, a4, a5⟩
  unfold fX2_change
  rw [if_pos (r_in hi (by decide)), if_pos (r_in hi (by decide)), r_nc (by omega), a1, r_bs, R.st i hi]
