/-! ===== pure rows: a connection is closed, opened, looked for ===== -/
def r_bu (u : Nat → Nat → Int32) (i : Nat) : Nat → Nat → Int32 := pu u 15 (upd (u 15) i (u 15 i + 1))
def r_bz (z : Nat → Int32) (i : Nat) : Nat → Int32 := upd z i (z i + 1)
def r_cu (u : Nat → Nat → Int32) (p : Nat) : Nat → Nat → Int32 := pu (pu (pu (pu u 2 (upd (u 2) p 0)) 4 (upd (u 4) p 0)) 5 (upd (u 5) p 0)) 15 (upd (u 15) 1 (u 15 1 + 1))
def r_cy (z : Nat → Int32) (p : Nat) : Nat → Int32 := upd (upd (upd (upd (upd (upd z (26 + 6 * p + 0) 0) (26 + 6 * p + 1) (-1)) (26 + 6 * p + 2) 0) (26 + 6 * p + 3) 0) (26 + 6 * p + 4) 0) 11 (z 11 + 1)
def r_ou (u : Nat → Nat → Int32) (p : Nat) : Nat → Nat → Int32 := pu (pu (pu (pu u 2 (upd (u 2) p 1)) 6 (upd (u 6) p (u 0 0))) 7 (upd (u 7) p (u 7 p + 1))) 15 (upd (u 15) 0 (u 15 0 + 1))
def r_oz (z : Nat → Int32) (p : Nat) : Nat → Int32 := upd (upd (upd (upd z (26 + 6 * p + 0) 1) (26 + 6 * p + 4) (z 9)) (26 + 6 * p + 5) (z (26 + 6 * p + 5) + 1)) 10 (z 10 + 1)
theorem RI.bump {u : Nat → Nat → Int32} {z : Nat → Int32} (R : RI u z) {i : Nat} (hi : i < 7) : RI (r_bu u i) (r_bz z (10 + i)) := by
  have e0 := R.tt i hi
  refine RI.mk ?_ ?_ ?_ ?_ ?_ ?_ ?_ ?_ ?_ ?_ ?_ ?_ ?_ ?_ ?_ ?_ ?_ ?_ ?_ ?_
  · (try simp (disch := omega) only [r_bu, r_bz, r_pa, r_pb, r_pe, r_pn, r_ue, r_un]) <;> first | exact R.tm | rfl | (have e1 := R.tm; simp_all; done)
  · intro k hk
    by_cases hkp : k = i
    · subst hkp
      (try simp (disch := omega) only [r_bu, r_bz, r_pa, r_pb, r_pe, r_pn, r_ue, r_un]) <;> first | exact R.st _ hk | rfl | exact fun c => absurd c (by decide) | exact fun _ => ⟨_, (by assumption), rfl⟩ | (have e1 := R.st _ hk; simp_all; done)
    · (try simp (disch := omega) only [r_bu, r_bz, r_pa, r_pb, r_pe, r_pn, r_ue, r_un]) <;> first | exact R.st _ hk | rfl | exact fun c => absurd c (by decide) | exact fun _ => ⟨_, (by assumption), rfl⟩ | (have e1 := R.st _ hk; simp_all; done)
  · intro k hk
    by_cases hkp : k = i
    · subst hkp
      (try simp (disch := omega) only [r_bu, r_bz, r_pa, r_pb, r_pe, r_pn, r_ue, r_un]) <;> first | exact R.tt _ hk | rfl | exact fun c => absurd c (by decide) | exact fun _ => ⟨_, (by assumption), rfl⟩ | (have e1 := R.tt _ hk; simp_all; done)
    · (try simp (disch := omega) only [r_bu, r_bz, r_pa, r_pb, r_pe, r_pn, r_ue, r_un]) <;> first | exact R.tt _ hk | rfl | exact fun c => absurd c (by decide) | exact fun _ => ⟨_, (by assumption), rfl⟩ | (have e1 := R.tt _ hk; simp_all; done)
  · intro k hk
    (try simp (disch := omega) only [r_bu, r_bz, r_pa, r_pb, r_pe, r_pn, r_ue, r_un]) <;> first | exact R.p0 _ hk | rfl | exact fun c => absurd c (by decide) | exact fun _ => ⟨_, (by assumption), rfl⟩ | (have e1 := R.p0 _ hk; simp_all; done)
  · intro k hk
    (try simp (disch := omega) only [r_bu, r_bz, r_pa, r_pb, r_pe, r_pn, r_ue, r_un]) <;> first | exact R.p1 _ hk | rfl | exact fun c => absurd c (by decide) | exact fun _ => ⟨_, (by assumption), rfl⟩ | (have e1 := R.p1 _ hk; simp_all; done)
  · intro k hk
    (try simp (disch := omega) only [r_bu, r_bz, r_pa, r_pb, r_pe, r_pn, r_ue, r_un]) <;> first | exact R.p2 _ hk | rfl | exact fun c => absurd c (by decide) | exact fun _ => ⟨_, (by assumption), rfl⟩ | (have e1 := R.p2 _ hk; simp_all; done)
  · intro k hk
    (try simp (disch := omega) only [r_bu, r_bz, r_pa, r_pb, r_pe, r_pn, r_ue, r_un]) <;> first | exact R.p3 _ hk | rfl | exact fun c => absurd c (by decide) | exact fun _ => ⟨_, (by assumption), rfl⟩ | (have e1 := R.p3 _ hk; simp_all; done)
  · intro k hk
    (try simp (disch := omega) only [r_bu, r_bz, r_pa, r_pb, r_pe, r_pn, r_ue, r_un]) <;> first | exact R.p4 _ hk | rfl | exact fun c => absurd c (by decide) | exact fun _ => ⟨_, (by assumption), rfl⟩ | (have e1 := R.p4 _ hk; simp_all; done)
  · intro k hk
    (try simp (disch := omega) only [r_bu, r_bz, r_pa, r_pb, r_pe, r_pn, r_ue, r_un]) <;> first | exact R.p5 _ hk | rfl | exact fun c => absurd c (by decide) | exact fun _ => ⟨_, (by assumption), rfl⟩ | (have e1 := R.p5 _ hk; simp_all; done)
  · intro k hk
    (try simp (disch := omega) only [r_bu, r_bz, r_pa, r_pb, r_pe, r_pn, r_ue, r_un]) <;> first | exact R.o0 _ hk | rfl | exact fun c => absurd c (by decide) | exact fun _ => ⟨_, (by assumption), rfl⟩ | (have e1 := R.o0 _ hk; simp_all; done)
  · intro k hk
    (try simp (disch := omega) only [r_bu, r_bz, r_pa, r_pb, r_pe, r_pn, r_ue, r_un]) <;> first | exact R.o2 _ hk | rfl | exact fun c => absurd c (by decide) | exact fun _ => ⟨_, (by assumption), rfl⟩ | (have e1 := R.o2 _ hk; simp_all; done)
  · intro k hk
    (try simp (disch := omega) only [r_bu, r_bz, r_pa, r_pb, r_pe, r_pn, r_ue, r_un]) <;> first | exact R.o3 _ hk | rfl | exact fun c => absurd c (by decide) | exact fun _ => ⟨_, (by assumption), rfl⟩ | (have e1 := R.o3 _ hk; simp_all; done)
  · intro k hk
    (try simp (disch := omega) only [r_bu, r_bz, r_pa, r_pb, r_pe, r_pn, r_ue, r_un]) <;> first | exact R.o4 _ hk | rfl | exact fun c => absurd c (by decide) | exact fun _ => ⟨_, (by assumption), rfl⟩ | (have e1 := R.o4 _ hk; simp_all; done)
  · intro k hk
    (try simp (disch := omega) only [r_bu, r_bz, r_pa, r_pb, r_pe, r_pn, r_ue, r_un]) <;> first | exact R.s2 _ hk | rfl | exact fun c => absurd c (by decide) | exact fun _ => ⟨_, (by assumption), rfl⟩ | (have e1 := R.s2 _ hk; simp_all; done)
  · intro k hk
    (try simp (disch := omega) only [r_bu, r_bz, r_pa, r_pb, r_pe, r_pn, r_ue, r_un]) <;> first | exact R.s3 _ hk | rfl | exact fun c => absurd c (by decide) | exact fun _ => ⟨_, (by assumption), rfl⟩ | (have e1 := R.s3 _ hk; simp_all; done)
  · intro k hk
    (try simp (disch := omega) only [r_bu, r_bz, r_pa, r_pb, r_pe, r_pn, r_ue, r_un]) <;> first | exact R.s4 _ hk | rfl | exact fun c => absurd c (by decide) | exact fun _ => ⟨_, (by assumption), rfl⟩ | (have e1 := R.s4 _ hk; simp_all; done)
  · intro k hk
    (try simp (disch := omega) only [r_bu, r_bz, r_pa, r_pb, r_pe, r_pn, r_ue, r_un]) <;> first | exact R.e4 _ hk | rfl | exact fun c => absurd c (by decide) | exact fun _ => ⟨_, (by assumption), rfl⟩ | (have e1 := R.e4 _ hk; simp_all; done)
  · intro k hk
    (try simp (disch := omega) only [r_bu, r_bz, r_pa, r_pb, r_pe, r_pn, r_ue, r_un]) <;> first | exact R.e5 _ hk | rfl | exact fun c => absurd c (by decide) | exact fun _ => ⟨_, (by assumption), rfl⟩ | (have e1 := R.e5 _ hk; simp_all; done)
  · intro k hk
    (try simp (disch := omega) only [r_bu, r_bz, r_pa, r_pb, r_pe, r_pn, r_ue, r_un]) <;> first | exact R.s8 _ hk | rfl | exact fun c => absurd c (by decide) | exact fun _ => ⟨_, (by assumption), rfl⟩ | (have e1 := R.s8 _ hk; simp_all; done)
  · intro k hk
    by_cases hkp : k = i
    · subst hkp
      (try simp (disch := omega) only [r_bu, r_bz, r_pa, r_pb, r_pe, r_pn, r_ue, r_un]) <;> first | exact R.g _ hk | rfl | exact fun c => absurd c (by decide) | exact fun _ => ⟨_, (by assumption), rfl⟩ | (have e1 := R.g _ hk; simp_all; done)
    · (try simp (disch := omega) only [r_bu, r_bz, r_pa, r_pb, r_pe, r_pn, r_ue, r_un]) <;> first | exact R.g _ hk | rfl | exact fun c => absurd c (by decide) | exact fun _ => ⟨_, (by assumption), rfl⟩ | (have e1 := R.g _ hk; simp_all; done)
theorem RF.bump {u : Nat → Nat → Int32} {z : Nat → Int32} {i : Nat} (hi : i < 7) : RF u z (r_bu u i) (r_bz z (10 + i)) := by
  refine RF.mk ?_ ?_ ?_ ?_ ?_ ?_ ?_ ?_ ?_
  · (try simp (disch := omega) only [r_bu, r_bz, r_pa, r_pb, r_pe, r_pn, r_ue, r_un])
  · (try simp (disch := omega) only [r_bu, r_bz, r_pa, r_pb, r_pe, r_pn, r_ue, r_un])
  · (try simp (disch := omega) only [r_bu, r_bz, r_pa, r_pb, r_pe, r_pn, r_ue, r_un])
  · (try simp (disch := omega) only [r_bu, r_bz, r_pa, r_pb, r_pe, r_pn, r_ue, r_un])
  · (try simp (disch := omega) only [r_bu, r_bz, r_pa, r_pb, r_pe, r_pn, r_ue, r_un])
  · (try simp (disch := omega) only [r_bu, r_bz, r_pa, r_pb, r_pe, r_pn, r_ue, r_un])
  · (try simp (disch := omega) only [r_bu, r_bz, r_pa, r_pb, r_pe, r_pn, r_ue, r_un])
  · intros
    (try simp (disch := omega) only [r_bu, r_bz, r_pa, r_pb, r_pe, r_pn, r_ue, r_un])
  · intros
    (try simp (disch := omega) only [r_bu, r_bz, r_pa, r_pb, r_pe, r_pn, r_ue, r_un])
theorem RI.close {u : Nat → Nat → Int32} {z : Nat → Int32} (R : RI u z) {p : Nat} (hp : p < 8) : RI (r_cu u p) (r_cy z p) := by
  have e0 := R.tt 1 (by decide)
  refine RI.mk ?_ ?_ ?_ ?_ ?_ ?_ ?_ ?_ ?_ ?_ ?_ ?_ ?_ ?_ ?_ ?_ ?_ ?_ ?_ ?_
  · (try simp (disch := omega) only [r_cu, r_cy, r_pa, r_pb, r_pe, r_pn, r_ue, r_un]) <;> first | exact R.tm | rfl | (have e1 := R.tm; simp_all; done)
  · intro k hk
    by_cases hkp : k = 1
    · subst hkp
      (try simp (disch := omega) only [r_cu, r_cy, r_pa, r_pb, r_pe, r_pn, r_ue, r_un]) <;> first | exact R.st _ hk | rfl | exact fun c => absurd c (by decide) | exact fun _ => ⟨_, (by assumption), rfl⟩ | (have e1 := R.st _ hk; simp_all; done)
    · (try simp (disch := omega) only [r_cu, r_cy, r_pa, r_pb, r_pe, r_pn, r_ue, r_un]) <;> first | exact R.st _ hk | rfl | exact fun c => absurd c (by decide) | exact fun _ => ⟨_, (by assumption), rfl⟩ | (have e1 := R.st _ hk; simp_all; done)
  · intro k hk
    by_cases hkp : k = 1
    · subst hkp
      (try simp (disch := omega) only [r_cu, r_cy, r_pa, r_pb, r_pe, r_pn, r_ue, r_un]) <;> first | exact R.tt _ hk | rfl | exact fun c => absurd c (by decide) | exact fun _ => ⟨_, (by assumption), rfl⟩ | (have e1 := R.tt _ hk; simp_all; done)
    · (try simp (disch := omega) only [r_cu, r_cy, r_pa, r_pb, r_pe, r_pn, r_ue, r_un]) <;> first | exact R.tt _ hk | rfl | exact fun c => absurd c (by decide) | exact fun _ => ⟨_, (by assumption), rfl⟩ | (have e1 := R.tt _ hk; simp_all; done)
  · intro k hk
    by_cases hkp : k = p
    · subst hkp
      (try simp (disch := omega) only [r_cu, r_cy, r_pa, r_pb, r_pe, r_pn, r_ue, r_un]) <;> first | exact R.p0 _ hk | rfl | exact fun c => absurd c (by decide) | exact fun _ => ⟨_, (by assumption), rfl⟩ | (have e1 := R.p0 _ hk; simp_all; done)
    · (try simp (disch := omega) only [r_cu, r_cy, r_pa, r_pb, r_pe, r_pn, r_ue, r_un]) <;> first | exact R.p0 _ hk | rfl | exact fun c => absurd c (by decide) | exact fun _ => ⟨_, (by assumption), rfl⟩ | (have e1 := R.p0 _ hk; simp_all; done)
  · intro k hk
    by_cases hkp : k = p
    · subst hkp
      (try simp (disch := omega) only [r_cu, r_cy, r_pa, r_pb, r_pe, r_pn, r_ue, r_un]) <;> first | exact R.p1 _ hk | rfl | exact fun c => absurd c (by decide) | exact fun _ => ⟨_, (by assumption), rfl⟩ | (have e1 := R.p1 _ hk; simp_all; done)
    · (try simp (disch := omega) only [r_cu, r_cy, r_pa, r_pb, r_pe, r_pn, r_ue, r_un]) <;> first | exact R.p1 _ hk | rfl | exact fun c => absurd c (by decide) | exact fun _ => ⟨_, (by assumption), rfl⟩ | (have e1 := R.p1 _ hk; simp_all; done)
  · intro k hk
    by_cases hkp : k = p
    · subst hkp
      (try simp (disch := omega) only [r_cu, r_cy, r_pa, r_pb, r_pe, r_pn, r_ue, r_un]) <;> first | exact R.p2 _ hk | rfl | exact fun c => absurd c (by decide) | exact fun _ => ⟨_, (by assumption), rfl⟩ | (have e1 := R.p2 _ hk; simp_all; done)
    · (try simp (disch := omega) only [r_cu, r_cy, r_pa, r_pb, r_pe, r_pn, r_ue, r_un]) <;> first | exact R.p2 _ hk | rfl | exact fun c => absurd c (by decide) | exact fun _ => ⟨_, (by assumption), rfl⟩ | (have e1 := R.p2 _ hk; simp_all; done)
  · intro k hk
    by_cases hkp : k = p
    · subst hkp
      (try simp (disch := omega) only [r_cu, r_cy, r_pa, r_pb, r_pe, r_pn, r_ue, r_un]) <;> first | exact R.p3 _ hk | rfl | exact fun c => absurd c (by decide) | exact fun _ => ⟨_, (by assumption), rfl⟩ | (have e1 := R.p3 _ hk; simp_all; done)
    · (try simp (disch := omega) only [r_cu, r_cy, r_pa, r_pb, r_pe, r_pn, r_ue, r_un]) <;> first | exact R.p3 _ hk | rfl | exact fun c => absurd c (by decide) | exact fun _ => ⟨_, (by assumption), rfl⟩ | (have e1 := R.p3 _ hk; simp_all; done)
  · intro k hk
    by_cases hkp : k = p
    · subst hkp
      (try simp (disch := omega) only [r_cu, r_cy, r_pa, r_pb, r_pe, r_pn, r_ue, r_un]) <;> first | exact R.p4 _ hk | rfl | exact fun c => absurd c (by decide) | exact fun _ => ⟨_, (by assumption), rfl⟩ | (have e1 := R.p4 _ hk; simp_all; done)
    · (try simp (disch := omega) only [r_cu, r_cy, r_pa, r_pb, r_pe, r_pn, r_ue, r_un]) <;> first | exact R.p4 _ hk | rfl | exact fun c => absurd c (by decide) | exact fun _ => ⟨_, (by assumption), rfl⟩ | (have e1 := R.p4 _ hk; simp_all; done)
  · intro k hk
    by_cases hkp : k = p
    · subst hkp
      (try simp (disch := omega) only [r_cu, r_cy, r_pa, r_pb, r_pe, r_pn, r_ue, r_un]) <;> first | exact R.p5 _ hk | rfl | exact fun c => absurd c (by decide) | exact fun _ => ⟨_, (by assumption), rfl⟩ | (have e1 := R.p5 _ hk; simp_all; done)
    · (try simp (disch := omega) only [r_cu, r_cy, r_pa, r_pb, r_pe, r_pn, r_ue, r_un]) <;> first | exact R.p5 _ hk | rfl | exact fun c => absurd c (by decide) | exact fun _ => ⟨_, (by assumption), rfl⟩ | (have e1 := R.p5 _ hk; simp_all; done)
  · intro k hk
    (try simp (disch := omega) only [r_cu, r_cy, r_pa, r_pb, r_pe, r_pn, r_ue, r_un]) <;> first | exact R.o0 _ hk | rfl | exact fun c => absurd c (by decide) | exact fun _ => ⟨_, (by assumption), rfl⟩ | (have e1 := R.o0 _ hk; simp_all; done)
  · intro k hk
    (try simp (disch := omega) only [r_cu, r_cy, r_pa, r_pb, r_pe, r_pn, r_ue, r_un]) <;> first | exact R.o2 _ hk | rfl | exact fun c => absurd c (by decide) | exact fun _ => ⟨_, (by assumption), rfl⟩ | (have e1 := R.o2 _ hk; simp_all; done)
  · intro k hk
    (try simp (disch := omega) only [r_cu, r_cy, r_pa, r_pb, r_pe, r_pn, r_ue, r_un]) <;> first | exact R.o3 _ hk | rfl | exact fun c => absurd c (by decide) | exact fun _ => ⟨_, (by assumption), rfl⟩ | (have e1 := R.o3 _ hk; simp_all; done)
  · intro k hk
    (try simp (disch := omega) only [r_cu, r_cy, r_pa, r_pb, r_pe, r_pn, r_ue, r_un]) <;> first | exact R.o4 _ hk | rfl | exact fun c => absurd c (by decide) | exact fun _ => ⟨_, (by assumption), rfl⟩ | (have e1 := R.o4 _ hk; simp_all; done)
  · intro k hk
    by_cases hkp : k = p
    · subst hkp
      (try simp (disch := omega) only [r_cu, r_cy, r_pa, r_pb, r_pe, r_pn, r_ue, r_un]) <;> first | exact R.s2 _ hk | rfl | exact fun c => absurd c (by decide) | exact fun _ => ⟨_, (by assumption), rfl⟩ | (have e1 := R.s2 _ hk; simp_all; done)
    · (try simp (disch := omega) only [r_cu, r_cy, r_pa, r_pb, r_pe, r_pn, r_ue, r_un]) <;> first | exact R.s2 _ hk | rfl | exact fun c => absurd c (by decide) | exact fun _ => ⟨_, (by assumption), rfl⟩ | (have e1 := R.s2 _ hk; simp_all; done)
  · intro k hk
    by_cases hkp : k = p
    · subst hkp
      (try simp (disch := omega) only [r_cu, r_cy, r_pa, r_pb, r_pe, r_pn, r_ue, r_un]) <;> first | exact R.s3 _ hk | rfl | exact fun c => absurd c (by decide) | exact fun _ => ⟨_, (by assumption), rfl⟩ | (have e1 := R.s3 _ hk; simp_all; done)
    · (try simp (disch := omega) only [r_cu, r_cy, r_pa, r_pb, r_pe, r_pn, r_ue, r_un]) <;> first | exact R.s3 _ hk | rfl | exact fun c => absurd c (by decide) | exact fun _ => ⟨_, (by assumption), rfl⟩ | (have e1 := R.s3 _ hk; simp_all; done)
  · intro k hk
    by_cases hkp : k = p
    · subst hkp
      (try simp (disch := omega) only [r_cu, r_cy, r_pa, r_pb, r_pe, r_pn, r_ue, r_un]) <;> first | exact R.s4 _ hk | rfl | exact fun c => absurd c (by decide) | exact fun _ => ⟨_, (by assumption), rfl⟩ | (have e1 := R.s4 _ hk; simp_all; done)
    · (try simp (disch := omega) only [r_cu, r_cy, r_pa, r_pb, r_pe, r_pn, r_ue, r_un]) <;> first | exact R.s4 _ hk | rfl | exact fun c => absurd c (by decide) | exact fun _ => ⟨_, (by assumption), rfl⟩ | (have e1 := R.s4 _ hk; simp_all; done)
  · intro k hk
    by_cases hkp : k = p
    · subst hkp
      (try simp (disch := omega) only [r_cu, r_cy, r_pa, r_pb, r_pe, r_pn, r_ue, r_un]) <;> first | exact R.e4 _ hk | rfl | exact fun c => absurd c (by decide) | exact fun _ => ⟨_, (by assumption), rfl⟩ | (have e1 := R.e4 _ hk; simp_all; done)
    · (try simp (disch := omega) only [r_cu, r_cy, r_pa, r_pb, r_pe, r_pn, r_ue, r_un]) <;> first | exact R.e4 _ hk | rfl | exact fun c => absurd c (by decide) | exact fun _ => ⟨_, (by assumption), rfl⟩ | (have e1 := R.e4 _ hk; simp_all; done)
  · intro k hk
    by_cases hkp : k = p
    · subst hkp
      (try simp (disch := omega) only [r_cu, r_cy, r_pa, r_pb, r_pe, r_pn, r_ue, r_un]) <;> first | exact R.e5 _ hk | rfl | exact fun c => absurd c (by decide) | exact fun _ => ⟨_, (by assumption), rfl⟩ | (have e1 := R.e5 _ hk; simp_all; done)
    · (try simp (disch := omega) only [r_cu, r_cy, r_pa, r_pb, r_pe, r_pn, r_ue, r_un]) <;> first | exact R.e5 _ hk | rfl | exact fun c => absurd c (by decide) | exact fun _ => ⟨_, (by assumption), rfl⟩ | (have e1 := R.e5 _ hk; simp_all; done)
  · intro k hk
    (try simp (disch := omega) only [r_cu, r_cy, r_pa, r_pb, r_pe, r_pn, r_ue, r_un]) <;> first | exact R.s8 _ hk | rfl | exact fun c => absurd c (by decide) | exact fun _ => ⟨_, (by assumption), rfl⟩ | (have e1 := R.s8 _ hk; simp_all; done)
  · intro k hk
    by_cases hkp : k = 1
    · subst hkp
      (try simp (disch := omega) only [r_cu, r_cy, r_pa, r_pb, r_pe, r_pn, r_ue, r_un]) <;> first | exact R.g _ hk | rfl | exact fun c => absurd c (by decide) | exact fun _ => ⟨_, (by assumption), rfl⟩ | (have e1 := R.g _ hk; simp_all; done)
    · (try simp (disch := omega) only [r_cu, r_cy, r_pa, r_pb, r_pe, r_pn, r_ue, r_un]) <;> first | exact R.g _ hk | rfl | exact fun c => absurd c (by decide) | exact fun _ => ⟨_, (by assumption), rfl⟩ | (have e1 := R.g _ hk; simp_all; done)
theorem RF.close {u : Nat → Nat → Int32} {z : Nat → Int32} {p : Nat} (hp : p < 8) : RF u z (r_cu u p) (r_cy z p) := by
  refine RF.mk ?_ ?_ ?_ ?_ ?_ ?_ ?_ ?_ ?_
  · (try simp (disch := omega) only [r_cu, r_cy, r_pa, r_pb, r_pe, r_pn, r_ue, r_un])
  · (try simp (disch := omega) only [r_cu, r_cy, r_pa, r_pb, r_pe, r_pn, r_ue, r_un])
  · (try simp (disch := omega) only [r_cu, r_cy, r_pa, r_pb, r_pe, r_pn, r_ue, r_un])
  · (try simp (disch := omega) only [r_cu, r_cy, r_pa, r_pb, r_pe, r_pn, r_ue, r_un])
  · (try simp (disch := omega) only [r_cu, r_cy, r_pa, r_pb, r_pe, r_pn, r_ue, r_un])
  · (try simp (disch := omega) only [r_cu, r_cy, r_pa, r_pb, r_pe, r_pn, r_ue, r_un])
  · (try simp (disch := omega) only [r_cu, r_cy, r_pa, r_pb, r_pe, r_pn, r_ue, r_un])
  · intros
    (try simp (disch := omega) only [r_cu, r_cy, r_pa, r_pb, r_pe, r_pn, r_ue, r_un])
  · intros
    (try simp (disch := omega) only [r_cu, r_cy, r_pa, r_pb, r_pe, r_pn, r_ue, r_un])
theorem RI.opened {u : Nat → Nat → Int32} {z : Nat → Int32} (R : RI u z) {p : Nat} (hp : p < 8) (h0 : u 2 p = 0) : RI (r_ou u p) (r_oz z p) := by
  have e0 := R.tt 0 (by decide)
  have e2 := R.tm
  have e3 := R.e4 p hp h0
  have e5 := R.e5 p hp h0
  refine RI.mk ?_ ?_ ?_ ?_ ?_ ?_ ?_ ?_ ?_ ?_ ?_ ?_ ?_ ?_ ?_ ?_ ?_ ?_ ?_ ?_
  · (try simp (disch := omega) only [r_ou, r_oz, r_pa, r_pb, r_pe, r_pn, r_ue, r_un]) <;> first | exact R.tm | rfl | (have e1 := R.tm; simp_all; done)
  · intro k hk
    by_cases hkp : k = 0
    · subst hkp
      (try simp (disch := omega) only [r_ou, r_oz, r_pa, r_pb, r_pe, r_pn, r_ue, r_un]) <;> first | exact R.st _ hk | rfl | exact fun c => absurd c (by decide) | exact fun _ => ⟨_, (by assumption), rfl⟩ | (have e1 := R.st _ hk; simp_all; done)
    · (try simp (disch := omega) only [r_ou, r_oz, r_pa, r_pb, r_pe, r_pn, r_ue, r_un]) <;> first | exact R.st _ hk | rfl | exact fun c => absurd c (by decide) | exact fun _ => ⟨_, (by assumption), rfl⟩ | (have e1 := R.st _ hk; simp_all; done)
  · intro k hk
    by_cases hkp : k = 0
    · subst hkp
      (try simp (disch := omega) only [r_ou, r_oz, r_pa, r_pb, r_pe, r_pn, r_ue, r_un]) <;> first | exact R.tt _ hk | rfl | exact fun c => absurd c (by decide) | exact fun _ => ⟨_, (by assumption), rfl⟩ | (have e1 := R.tt _ hk; simp_all; done)
    · (try simp (disch := omega) only [r_ou, r_oz, r_pa, r_pb, r_pe, r_pn, r_ue, r_un]) <;> first | exact R.tt _ hk | rfl | exact fun c => absurd c (by decide) | exact fun _ => ⟨_, (by assumption), rfl⟩ | (have e1 := R.tt _ hk; simp_all; done)
  · intro k hk
    by_cases hkp : k = p
    · subst hkp
      (try simp (disch := omega) only [r_ou, r_oz, r_pa, r_pb, r_pe, r_pn, r_ue, r_un]) <;> first | exact R.p0 _ hk | rfl | exact fun c => absurd c (by decide) | exact fun _ => ⟨_, (by assumption), rfl⟩ | (have e1 := R.p0 _ hk; simp_all; done)
    · (try simp (disch := omega) only [r_ou, r_oz, r_pa, r_pb, r_pe, r_pn, r_ue, r_un]) <;> first | exact R.p0 _ hk | rfl | exact fun c => absurd c (by decide) | exact fun _ => ⟨_, (by assumption), rfl⟩ | (have e1 := R.p0 _ hk; simp_all; done)
  · intro k hk
    by_cases hkp : k = p
    · subst hkp
      (try simp (disch := omega) only [r_ou, r_oz, r_pa, r_pb, r_pe, r_pn, r_ue, r_un]) <;> first | exact R.p1 _ hk | rfl | exact fun c => absurd c (by decide) | exact fun _ => ⟨_, (by assumption), rfl⟩ | (have e1 := R.p1 _ hk; simp_all; done)
    · (try simp (disch := omega) only [r_ou, r_oz, r_pa, r_pb, r_pe, r_pn, r_ue, r_un]) <;> first | exact R.p1 _ hk | rfl | exact fun c => absurd c (by decide) | exact fun _ => ⟨_, (by assumption), rfl⟩ | (have e1 := R.p1 _ hk; simp_all; done)
  · intro k hk
    by_cases hkp : k = p
    · subst hkp
      (try simp (disch := omega) only [r_ou, r_oz, r_pa, r_pb, r_pe, r_pn, r_ue, r_un]) <;> first | exact R.p2 _ hk | rfl | exact fun c => absurd c (by decide) | exact fun _ => ⟨_, (by assumption), rfl⟩ | (have e1 := R.p2 _ hk; simp_all; done)
    · (try simp (disch := omega) only [r_ou, r_oz, r_pa, r_pb, r_pe, r_pn, r_ue, r_un]) <;> first | exact R.p2 _ hk | rfl | exact fun c => absurd c (by decide) | exact fun _ => ⟨_, (by assumption), rfl⟩ | (have e1 := R.p2 _ hk; simp_all; done)
  · intro k hk
    by_cases hkp : k = p
    · subst hkp
      (try simp (disch := omega) only [r_ou, r_oz, r_pa, r_pb, r_pe, r_pn, r_ue, r_un]) <;> first | exact R.p3 _ hk | rfl | exact fun c => absurd c (by decide) | exact fun _ => ⟨_, (by assumption), rfl⟩ | (have e1 := R.p3 _ hk; simp_all; done)
    · (try simp (disch := omega) only [r_ou, r_oz, r_pa, r_pb, r_pe, r_pn, r_ue, r_un]) <;> first | exact R.p3 _ hk | rfl | exact fun c => absurd c (by decide) | exact fun _ => ⟨_, (by assumption), rfl⟩ | (have e1 := R.p3 _ hk; simp_all; done)
  · intro k hk
    by_cases hkp : k = p
    · subst hkp
      (try simp (disch := omega) only [r_ou, r_oz, r_pa, r_pb, r_pe, r_pn, r_ue, r_un]) <;> first | exact R.p4 _ hk | rfl | exact fun c => absurd c (by decide) | exact fun _ => ⟨_, (by assumption), rfl⟩ | (have e1 := R.p4 _ hk; simp_all; done)
    · (try simp (disch := omega) only [r_ou, r_oz, r_pa, r_pb, r_pe, r_pn, r_ue, r_un]) <;> first | exact R.p4 _ hk | rfl | exact fun c => absurd c (by decide) | exact fun _ => ⟨_, (by assumption), rfl⟩ | (have e1 := R.p4 _ hk; simp_all; done)
  · intro k hk
    by_cases hkp : k = p
    · subst hkp
      (try simp (disch := omega) only [r_ou, r_oz, r_pa, r_pb, r_pe, r_pn, r_ue, r_un]) <;> first | exact R.p5 _ hk | rfl | exact fun c => absurd c (by decide) | exact fun _ => ⟨_, (by assumption), rfl⟩ | (have e1 := R.p5 _ hk; simp_all; done)
    · (try simp (disch := omega) only [r_ou, r_oz, r_pa, r_pb, r_pe, r_pn, r_ue, r_un]) <;> first | exact R.p5 _ hk | rfl | exact fun c => absurd c (by decide) | exact fun _ => ⟨_, (by assumption), rfl⟩ | (have e1 := R.p5 _ hk; simp_all; done)
  · intro k hk
    (try simp (disch := omega) only [r_ou, r_oz, r_pa, r_pb, r_pe, r_pn, r_ue, r_un]) <;> first | exact R.o0 _ hk | rfl | exact fun c => absurd c (by decide) | exact fun _ => ⟨_, (by assumption), rfl⟩ | (have e1 := R.o0 _ hk; simp_all; done)
  · intro k hk
    (try simp (disch := omega) only [r_ou, r_oz, r_pa, r_pb, r_pe, r_pn, r_ue, r_un]) <;> first | exact R.o2 _ hk | rfl | exact fun c => absurd c (by decide) | exact fun _ => ⟨_, (by assumption), rfl⟩ | (have e1 := R.o2 _ hk; simp_all; done)
  · intro k hk
    (try simp (disch := omega) only [r_ou, r_oz, r_pa, r_pb, r_pe, r_pn, r_ue, r_un]) <;> first | exact R.o3 _ hk | rfl | exact fun c => absurd c (by decide) | exact fun _ => ⟨_, (by assumption), rfl⟩ | (have e1 := R.o3 _ hk; simp_all; done)
  · intro k hk
    (try simp (disch := omega) only [r_ou, r_oz, r_pa, r_pb, r_pe, r_pn, r_ue, r_un]) <;> first | exact R.o4 _ hk | rfl | exact fun c => absurd c (by decide) | exact fun _ => ⟨_, (by assumption), rfl⟩ | (have e1 := R.o4 _ hk; simp_all; done)
  · intro k hk
    by_cases hkp : k = p
    · subst hkp
      (try simp (disch := omega) only [r_ou, r_oz, r_pa, r_pb, r_pe, r_pn, r_ue, r_un]) <;> first | exact R.s2 _ hk | rfl | exact fun c => absurd c (by decide) | exact fun _ => ⟨_, (by assumption), rfl⟩ | (have e1 := R.s2 _ hk; simp_all; done)
    · (try simp (disch := omega) only [r_ou, r_oz, r_pa, r_pb, r_pe, r_pn, r_ue, r_un]) <;> first | exact R.s2 _ hk | rfl | exact fun c => absurd c (by decide) | exact fun _ => ⟨_, (by assumption), rfl⟩ | (have e1 := R.s2 _ hk; simp_all; done)
  · intro k hk
    by_cases hkp : k = p
    · subst hkp
      (try simp (disch := omega) only [r_ou, r_oz, r_pa, r_pb, r_pe, r_pn, r_ue, r_un]) <;> first | exact R.s3 _ hk | rfl | exact fun c => absurd c (by decide) | exact fun _ => ⟨_, (by assumption), rfl⟩ | (have e1 := R.s3 _ hk; simp_all; done)
    · (try simp (disch := omega) only [r_ou, r_oz, r_pa, r_pb, r_pe, r_pn, r_ue, r_un]) <;> first | exact R.s3 _ hk | rfl | exact fun c => absurd c (by decide) | exact fun _ => ⟨_, (by assumption), rfl⟩ | (have e1 := R.s3 _ hk; simp_all; done)
  · intro k hk
    by_cases hkp : k = p
    · subst hkp
      (try simp (disch := omega) only [r_ou, r_oz, r_pa, r_pb, r_pe, r_pn, r_ue, r_un]) <;> first | exact R.s4 _ hk | rfl | exact fun c => absurd c (by decide) | exact fun _ => ⟨_, (by assumption), rfl⟩ | (have e1 := R.s4 _ hk; simp_all; done)
    · (try simp (disch := omega) only [r_ou, r_oz, r_pa, r_pb, r_pe, r_pn, r_ue, r_un]) <;> first | exact R.s4 _ hk | rfl | exact fun c => absurd c (by decide) | exact fun _ => ⟨_, (by assumption), rfl⟩ | (have e1 := R.s4 _ hk; simp_all; done)
  · intro k hk
    by_cases hkp : k = p
    · subst hkp
      (try simp (disch := omega) only [r_ou, r_oz, r_pa, r_pb, r_pe, r_pn, r_ue, r_un]) <;> first | exact R.e4 _ hk | rfl | exact fun c => absurd c (by decide) | exact fun _ => ⟨_, (by assumption), rfl⟩ | (have e1 := R.e4 _ hk; simp_all; done)
    · (try simp (disch := omega) only [r_ou, r_oz, r_pa, r_pb, r_pe, r_pn, r_ue, r_un]) <;> first | exact R.e4 _ hk | rfl | exact fun c => absurd c (by decide) | exact fun _ => ⟨_, (by assumption), rfl⟩ | (have e1 := R.e4 _ hk; simp_all; done)
  · intro k hk
    by_cases hkp : k = p
    · subst hkp
      (try simp (disch := omega) only [r_ou, r_oz, r_pa, r_pb, r_pe, r_pn, r_ue, r_un]) <;> first | exact R.e5 _ hk | rfl | exact fun c => absurd c (by decide) | exact fun _ => ⟨_, (by assumption), rfl⟩ | (have e1 := R.e5 _ hk; simp_all; done)
    · (try simp (disch := omega) only [r_ou, r_oz, r_pa, r_pb, r_pe, r_pn, r_ue, r_un]) <;> first | exact R.e5 _ hk | rfl | exact fun c => absurd c (by decide) | exact fun _ => ⟨_, (by assumption), rfl⟩ | (have e1 := R.e5 _ hk; simp_all; done)
  · intro k hk
    (try simp (disch := omega) only [r_ou, r_oz, r_pa, r_pb, r_pe, r_pn, r_ue, r_un]) <;> first | exact R.s8 _ hk | rfl | exact fun c => absurd c (by decide) | exact fun _ => ⟨_, (by assumption), rfl⟩ | (have e1 := R.s8 _ hk; simp_all; done)
  · intro k hk
    by_cases hkp : k = 0
    · subst hkp
      (try simp (disch := omega) only [r_ou, r_oz, r_pa, r_pb, r_pe, r_pn, r_ue, r_un]) <;> first | exact R.g _ hk | rfl | exact fun c => absurd c (by decide) | exact fun _ => ⟨_, (by assumption), rfl⟩ | (have e1 := R.g _ hk; simp_all; done)
    · (try simp (disch := omega) only [r_ou, r_oz, r_pa, r_pb, r_pe, r_pn, r_ue, r_un]) <;> first | exact R.g _ hk | rfl | exact fun c => absurd c (by decide) | exact fun _ => ⟨_, (by assumption), rfl⟩ | (have e1 := R.g _ hk; simp_all; done)
theorem RF.opened {u : Nat → Nat → Int32} {z : Nat → Int32} {p : Nat} (hp : p < 8) : RF u z (r_ou u p) (r_oz z p) := by
  refine RF.mk ?_ ?_ ?_ ?_ ?_ ?_ ?_ ?_ ?_
  · (try simp (disch := omega) only [r_ou, r_oz, r_pa, r_pb, r_pe, r_pn, r_ue, r_un])
  · (try simp (disch := omega) only [r_ou, r_oz, r_pa, r_pb, r_pe, r_pn, r_ue, r_un])
  · (try simp (disch := omega) only [r_ou, r_oz, r_pa, r_pb, r_pe, r_pn, r_ue, r_un])
  · (try simp (disch := omega) only [r_ou, r_oz, r_pa, r_pb, r_pe, r_pn, r_ue, r_un])
  · (try simp (disch := omega) only [r_ou, r_oz, r_pa, r_pb, r_pe, r_pn, r_ue, r_un])
  · (try simp (disch := omega) only [r_ou, r_oz, r_pa, r_pb, r_pe, r_pn, r_ue, r_un])
  · (try simp (disch := omega) only [r_ou, r_oz, r_pa, r_pb, r_pe, r_pn, r_ue, r_un])
  · intros
    (try simp (disch := omega) only [r_ou, r_oz, r_pa, r_pb, r_pe, r_pn, r_ue, r_un])
  · intros
    (try simp (disch := omega) only [r_ou, r_oz, r_pa, r_pb, r_pe, r_pn, r_ue, r_un])
theorem r_xcl (u : Nat → Nat → Int32) {p : Nat} (hp : p < 8) : fX2_close (Int32.ofNat p) u = some (r_cu u p) := by
  unfold fX2_close
  rw [if_pos (r_in hp (by decide)), if_pos (r_in hp (by decide)), if_pos (r_in hp (by decide)), r_nc (by omega), r_b0, r_l1, r_bs]
  rfl
theorem r_ycl (z : Nat → Int32) {p : Nat} (hp : p < 8) : fX4_close (Int32.ofNat p) (-1) z = some (r_cy z p) := by
  unfold fX4_close
  rw [r_put0 hp, r_bs, r_put1 hp, r_bs, r_put2 hp, r_bs, r_put3 hp, r_bs, r_put4 hp, r_bs, if_pos rfl, r_l11]
  simp (disch := omega) only [r_cy, r_un]
theorem r_yci (z : Nat → Int32) {p i : Nat} (hp : p < 8) (hi : i < 7) : fX4_close (Int32.ofNat p) (Int32.ofNat (10 + i)) z = some (r_bz (r_cy z p) (10 + i)) := by
  unfold fX4_close
  rw [r_put0 hp, r_bs, r_put1 hp, r_bs, r_put2 hp, r_bs, r_put3 hp, r_bs, r_put4 hp, r_bs, if_neg (r_m1 (by omega)), r_l11, if_pos (r_in (by omega) (by decide)), if_pos (r_in (by omega) (by decide)), r_nc (by omega)]
  simp (disch := omega) only [r_cy, r_bz, r_un]
/-- what looking for a connection leaves alone besides -/
def RW (u : Nat → Nat → Int32) (v : Nat → Nat → Int32) : Prop := (∀ p, p < 8 → (v 2 p = 2 ↔ u 2 p = 2)) ∧ (v 3 = u 3)
theorem RW.l2 {u : Nat → Nat → Int32} {v : Nat → Nat → Int32} (h : RW u v) : ∀ p, p < 8 → (v 2 p = 2 ↔ u 2 p = 2) := h.1
theorem RW.l3 {u : Nat → Nat → Int32} {v : Nat → Nat → Int32} (h : RW u v) : v 3 = u 3 := h.2
theorem RW.mk {u : Nat → Nat → Int32} {v : Nat → Nat → Int32} (l2 : ∀ p, p < 8 → (v 2 p = 2 ↔ u 2 p = 2)) (l3 : v 3 = u 3) : RW u v := ⟨l2, l3⟩
theorem RW.rfl {u : Nat → Nat → Int32} : RW u u := RW.mk (fun _ _ => Iff.rfl) (Eq.refl _)
theorem RW.trans {u v w : Nat → Nat → Int32} (h : RW u v) (g : RW v w) : RW u w := RW.mk (fun p hp => (g.l2 p hp).trans (h.l2 p hp)) (g.l3.trans h.l3)
theorem RW.lc {u v : Nat → Nat → Int32} (h : RW u v) (o : Nat) : r_lc v o = r_lc u o := by
  unfold r_lc
  refine r_cnt_congr 8 0 (fun i _ hi => ?_)
  rw [h.l3, decide_eq_decide, h.l2 i (by omega)]
theorem RW.bump {u : Nat → Nat → Int32} (i : Nat) : RW u (r_bu u i) := by
  refine RW.mk (fun p hp => ?_) ?_
  · simp (disch := omega) only [r_bu, r_pa, r_pb, r_pe, r_pn, r_ue, r_un]
  · simp (disch := omega) only [r_bu, r_pa, r_pb, r_pe, r_pn, r_ue, r_un]
theorem RW.close {u : Nat → Nat → Int32} {p : Nat} (h : u 2 p ≠ 2) : RW u (r_cu u p) := by
  refine RW.mk (fun k hk => ?_) ?_
  · by_cases hkp : k = p
    · subst hkp
      simp (disch := omega) only [r_cu, r_pa, r_pb, r_pe, r_pn, r_ue, r_un]
      exact ⟨fun c => absurd c (by decide), fun c => absurd c h⟩
    · simp (disch := omega) only [r_cu, r_pa, r_pb, r_pe, r_pn, r_ue, r_un]
  · simp (disch := omega) only [r_cu, r_pa, r_pb, r_pe, r_pn, r_ue, r_un]
theorem RW.opened {u : Nat → Nat → Int32} {p : Nat} (h : u 2 p ≠ 2) : RW u (r_ou u p) := by
  refine RW.mk (fun k hk => ?_) ?_
  · by_cases hkp : k = p
    · subst hkp
      simp (disch := omega) only [r_ou, r_pa, r_pb, r_pe, r_pn, r_ue, r_un]
      exact ⟨fun c => absurd c (by decide), fun c => absurd c h⟩
    · simp (disch := omega) only [r_ou, r_pa, r_pb, r_pe, r_pn, r_ue, r_un]
  · simp (disch := omega) only [r_ou, r_pa, r_pb, r_pe, r_pn, r_ue, r_un]
theorem r_many_bu (u : Nat → Nat → Int32) (i : Nat) (s : Int32) : r_many (r_bu u i) s = r_many u s := by
  unfold r_many
  refine r_cnt_congr 8 0 (fun k _ _ => ?_)
  simp (disch := omega) only [r_bu, r_pa, r_pb, r_pe, r_pn, r_ue, r_un]
theorem r_many_cu1 {u : Nat → Nat → Int32} {p : Nat} (hp : p < 8) (h : u 2 p = 1) : r_many u 1 = r_many (r_cu u p) 1 + 1 := by
  unfold r_many
  refine r_cnt_upd (p := p) ?_ ?_ (fun i hi => ?_) 8 0 (by omega) (by omega)
  · simp (disch := omega) only [r_cu, r_pa, r_pb, r_pe, r_pn, r_ue, r_un]
    decide
  · simp only [h, decide_true]
  · simp (disch := omega) only [r_cu, r_pa, r_pb, r_pe, r_pn, r_ue, r_un]
theorem r_many_cu0 {u : Nat → Nat → Int32} {p : Nat} (hp : p < 8) (h : u 2 p ≠ 0) : r_many (r_cu u p) 0 = r_many u 0 + 1 := by
  unfold r_many
  refine r_cnt_upd (p := p) ?_ ?_ (fun i hi => ?_) 8 0 (by omega) (by omega)
  · simp only [h, decide_false]
  · simp (disch := omega) only [r_cu, r_pa, r_pb, r_pe, r_pn, r_ue, r_un]
    decide
  · simp (disch := omega) only [r_cu, r_pa, r_pb, r_pe, r_pn, r_ue, r_un]
theorem r_many0 {u : Nat → Nat → Int32} {s : Int32} (h : r_many u s = 0) : ∀ i, i < 8 → u 2 i ≠ s := fun i hi => by
  have e := r_cnt_none 8 0 h i (Nat.zero_le _) (by omega)
  exact of_decide_eq_false e
theorem r_many0' {u : Nat → Nat → Int32} {s : Int32} (h : ∀ i, i < 8 → u 2 i ≠ s) : r_many u s = 0 := r_cnt_zero 8 0 (fun i _ hi => decide_eq_false (h i (by omega)))
/-! settings -/
theorem r_rng {x : Int32} {a b : Nat} (ha : a < 2000000000) (hb : b < 2000000000) (h : Int32.ofNat a ≤ x ∧ x ≤ Int32.ofNat b) : ∃ k, a ≤ k ∧ k ≤ b ∧ x = Int32.ofNat k := by
  have h1 := h.1
  have h2 := h.2
  rw [Int32.le_iff_toInt_le, r_ti ha] at h1
  rw [Int32.le_iff_toInt_le, r_ti hb] at h2
  refine ⟨x.toInt.toNat, by omega, by omega, ?_⟩
  apply Int32.toInt_inj.mp
  rw [r_ti (by omega)]
  omega
theorem RI.g0 {u : Nat → Nat → Int32} {z : Nat → Int32} (R : RI u z) : ∃ k, 1 ≤ k ∧ k ≤ 8 ∧ u 1 0 = Int32.ofNat k := r_rng (a := 1) (b := 8) (by decide) (by decide) (R.g 0 (by decide))
theorem RI.g4 {u : Nat → Nat → Int32} {z : Nat → Int32} (R : RI u z) : u 1 4 = 0 ∨ u 1 4 = 1 := by
  obtain ⟨k, _, h, e⟩ := r_rng (a := 0) (b := 1) (by decide) (by decide) (R.g 4 (by decide))
  rcases Nat.le_one_iff_eq_zero_or_eq_one.mp h with c | c
  · exact Or.inl (by rw [e, c]; rfl)
  · exact Or.inr (by rw [e, c]; rfl)
/-! a place is opened -/
theorem r_opl {u : Nat → Nat → Int32} {z : Nat → Int32} (R : RI u z) : ∀ j k n, k + j = 8 → j < n → (∃ i, k ≤ i ∧ i < 8 ∧ u 2 i = 0) → ∃ c, c < 8 ∧ u 2 c = 0 ∧ fX2_open_L2 u n (Int32.ofNat k) = some (Int32.ofNat c, r_ou u c) ∧ fX4_openOne_L2 z n (Int32.ofNat k) = some (Int32.ofNat c)
  | 0, k, n + 1, h, _, ⟨i, a, b, _⟩ => by omega
  | j + 1, k, n + 1, h, hn, ⟨i, a, b, c⟩ => by
    have hkk : k < 8 := by omega
    rw [fX2_open_L2, fX4_openOne_L2, if_neg (r_8n hkk), r_isIn hkk, R.p0 k hkk]
    unfold fX2_isEmpty
    rw [if_pos (r_in hkk (by decide)), if_pos (r_in hkk (by decide)), if_pos (r_in hkk (by decide)), if_pos (r_in hkk (by decide)), if_pos (r_in hkk (by decide)), r_nc (by omega), r_s]
    by_cases hs : u 2 k = 0
    · rw [if_pos hs, r_bs, if_neg r_10, r_bs, r_l0, r_bs, if_neg r_10]
      exact ⟨k, hkk, hs, rfl, rfl⟩
    · rw [if_neg hs, r_bs, if_pos rfl, r_bs, if_pos rfl]
      refine r_opl R j (k + 1) n (by omega) (by omega) ⟨i, ?_, b, c⟩
      rcases Nat.lt_or_ge k i with d | d
      · exact d
      · have e : k = i := by omega
        exact absurd (e ▸ c) hs
theorem r_tail {u : Nat → Nat → Int32} {z : Nat → Int32} (R : RI u z) : ∃ p u' z', ((fX2_connections u).bind fun r2 => if (u 1) (0 : Int32).toNatClampNeg ≤ r2 then some ((-1), u) else (fX2_open u).bind fun r3 => some (r3.1, r3.2)) = some (p, u') ∧ ((fX4_connections z).bind fun r4 => if z (0 : Int32).toNatClampNeg ≤ r4 then some ((-1), z) else (fX4_openOne z).bind fun r5 => some (r5.1, r5.2)) = some (p, z') ∧ RI u' z' ∧ RF u z u' z' ∧ RW u u' ∧ ((p = -1 ∧ u' = u ∧ u 1 0 ≤ Int32.ofNat (r_con u)) ∨ ∃ c, c < 8 ∧ p = Int32.ofNat c ∧ u' 2 c = 1) := by
  rw [r_co, r_cz R, r_bs, r_bs, r_l0, R.st 0 (by decide)]
  by_cases h : u 1 0 ≤ Int32.ofNat (r_con u)
  · rw [if_pos h, if_pos h]
    exact ⟨-1, u, z, rfl, rfl, R, RF.rfl, RW.rfl, Or.inl ⟨rfl, rfl, h⟩⟩
  · rw [if_neg h, if_neg h]
    have he : ∃ i, 0 ≤ i ∧ i < 8 ∧ u 2 i = 0 := by
      apply Classical.byContradiction
      intro hc
      apply h
      obtain ⟨k, _, k8, e⟩ := R.g0
      have e0 : r_many u 0 = 0 := r_many0' (fun i hi c => hc ⟨i, Nat.zero_le _, hi, c⟩)
      unfold r_con
      rw [e, e0]
      exact (r_le (by omega) (by omega)).mpr k8
    obtain ⟨c, c8, c0, e1, e2⟩ := r_opl R 8 0 1000 rfl (by decide) he
    unfold fX2_open fX4_openOne
    have e1 : fX2_open_L2 u 1000 0 = some (Int32.ofNat c, r_ou u c) := e1
    have e2 : fX4_openOne_L2 z 1000 0 = some (Int32.ofNat c) := e2
    rw [e1, e2, r_bs, r_bs, r_put0 c8, r_bs, r_put4 c8, r_bs, r_of5 c8, r_bs, r_put5 c8, r_bs, r_l9, r_l10, r_bs]
    refine ⟨Int32.ofNat c, r_ou u c, r_oz z c, rfl, ?_, R.opened c8 c0, RF.opened c8, RW.opened (by rw [c0]; decide), Or.inr ⟨c, c8, rfl, ?_⟩⟩
    · simp (disch := omega) only [r_oz, r_pa, r_pb, r_pe, r_pn, r_ue, r_un]
    · simp (disch := omega) only [r_ou, r_pa, r_pb, r_pe, r_pn, r_ue, r_un]
