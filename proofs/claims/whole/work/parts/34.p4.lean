/-! ===== pure rows: waiters are served ===== -/
def r_lu (u : Nat → Nat → Int32) (p o : Nat) : Nat → Nat → Int32 := pu (pu (pu (pu (pu (pu u 2 (upd (u 2) p 2)) 3 (upd (u 3) p (Int32.ofNat o))) 5 (upd (u 5) p (u 5 p + 1))) 6 (upd (u 6) p (u 0 0))) 9 (upd (u 9) o (u 9 o + 1))) 15 (upd (u 15) 6 (u 15 6 + 1))
def r_ly (z : Nat → Int32) (p o : Nat) : Nat → Int32 := upd (upd (upd (upd (upd (upd z (26 + 6 * p + 0) 2) (26 + 6 * p + 1) (Int32.ofNat o)) (26 + 6 * p + 3) (z (26 + 6 * p + 3) + 1)) (26 + 6 * p + 4) (z 9)) 16 (z 16 + 1)) (74 + 5 * o + 2) (z (74 + 5 * o + 2) + 1)
def r_wu (u : Nat → Nat → Int32) (o : Nat) : Nat → Nat → Int32 := pu u 11 (upd (u 11) o (u 11 o + (u 0 0 - u 12 o)))
def r_wy (z : Nat → Int32) (o : Nat) (v : Int32) : Nat → Int32 := upd z (74 + 5 * o + 4) (z (74 + 5 * o + 4) + v)
theorem RI.lend {u : Nat → Nat → Int32} {z : Nat → Int32} (R : RI u z) {p o : Nat} (hp : p < 8) (ho : o < 8) : RI (r_lu u p o) (r_ly z p o) := by
  have e0 := R.tt 6 (by decide)
  have e2 := R.tm
  have e3 := R.p3 p hp
  have e4 := R.o2 o ho
  refine RI.mk ?_ ?_ ?_ ?_ ?_ ?_ ?_ ?_ ?_ ?_ ?_ ?_ ?_ ?_ ?_ ?_ ?_ ?_ ?_ ?_
  · (try simp (disch := omega) only [r_lu, r_ly, r_pa, r_pb, r_pe, r_pn, r_ue, r_un]) <;> first | exact R.tm | rfl | (have e1 := R.tm; simp_all; done)
  · intro k hk
    by_cases hkp : k = 6
    · subst hkp
      (try simp (disch := omega) only [r_lu, r_ly, r_pa, r_pb, r_pe, r_pn, r_ue, r_un]) <;> first | exact R.st _ hk | rfl | exact fun c => absurd c (by decide) | exact fun _ => ⟨_, (by assumption), rfl⟩ | (have e1 := R.st _ hk; simp_all; done)
    · (try simp (disch := omega) only [r_lu, r_ly, r_pa, r_pb, r_pe, r_pn, r_ue, r_un]) <;> first | exact R.st _ hk | rfl | exact fun c => absurd c (by decide) | exact fun _ => ⟨_, (by assumption), rfl⟩ | (have e1 := R.st _ hk; simp_all; done)
  · intro k hk
    by_cases hkp : k = 6
    · subst hkp
      (try simp (disch := omega) only [r_lu, r_ly, r_pa, r_pb, r_pe, r_pn, r_ue, r_un]) <;> first | exact R.tt _ hk | rfl | exact fun c => absurd c (by decide) | exact fun _ => ⟨_, (by assumption), rfl⟩ | (have e1 := R.tt _ hk; simp_all; done)
    · (try simp (disch := omega) only [r_lu, r_ly, r_pa, r_pb, r_pe, r_pn, r_ue, r_un]) <;> first | exact R.tt _ hk | rfl | exact fun c => absurd c (by decide) | exact fun _ => ⟨_, (by assumption), rfl⟩ | (have e1 := R.tt _ hk; simp_all; done)
  · intro k hk
    by_cases hkp : k = p
    · subst hkp
      (try simp (disch := omega) only [r_lu, r_ly, r_pa, r_pb, r_pe, r_pn, r_ue, r_un]) <;> first | exact R.p0 _ hk | rfl | exact fun c => absurd c (by decide) | exact fun _ => ⟨_, (by assumption), rfl⟩ | (have e1 := R.p0 _ hk; simp_all; done)
    · (try simp (disch := omega) only [r_lu, r_ly, r_pa, r_pb, r_pe, r_pn, r_ue, r_un]) <;> first | exact R.p0 _ hk | rfl | exact fun c => absurd c (by decide) | exact fun _ => ⟨_, (by assumption), rfl⟩ | (have e1 := R.p0 _ hk; simp_all; done)
  · intro k hk
    by_cases hkp : k = p
    · subst hkp
      (try simp (disch := omega) only [r_lu, r_ly, r_pa, r_pb, r_pe, r_pn, r_ue, r_un]) <;> first | exact R.p1 _ hk | rfl | exact fun c => absurd c (by decide) | exact fun _ => ⟨_, (by assumption), rfl⟩ | (have e1 := R.p1 _ hk; simp_all; done)
    · (try simp (disch := omega) only [r_lu, r_ly, r_pa, r_pb, r_pe, r_pn, r_ue, r_un]) <;> first | exact R.p1 _ hk | rfl | exact fun c => absurd c (by decide) | exact fun _ => ⟨_, (by assumption), rfl⟩ | (have e1 := R.p1 _ hk; simp_all; done)
  · intro k hk
    by_cases hkp : k = p
    · subst hkp
      (try simp (disch := omega) only [r_lu, r_ly, r_pa, r_pb, r_pe, r_pn, r_ue, r_un]) <;> first | exact R.p2 _ hk | rfl | exact fun c => absurd c (by decide) | exact fun _ => ⟨_, (by assumption), rfl⟩ | (have e1 := R.p2 _ hk; simp_all; done)
    · (try simp (disch := omega) only [r_lu, r_ly, r_pa, r_pb, r_pe, r_pn, r_ue, r_un]) <;> first | exact R.p2 _ hk | rfl | exact fun c => absurd c (by decide) | exact fun _ => ⟨_, (by assumption), rfl⟩ | (have e1 := R.p2 _ hk; simp_all; done)
  · intro k hk
    by_cases hkp : k = p
    · subst hkp
      (try simp (disch := omega) only [r_lu, r_ly, r_pa, r_pb, r_pe, r_pn, r_ue, r_un]) <;> first | exact R.p3 _ hk | rfl | exact fun c => absurd c (by decide) | exact fun _ => ⟨_, (by assumption), rfl⟩ | (have e1 := R.p3 _ hk; simp_all; done)
    · (try simp (disch := omega) only [r_lu, r_ly, r_pa, r_pb, r_pe, r_pn, r_ue, r_un]) <;> first | exact R.p3 _ hk | rfl | exact fun c => absurd c (by decide) | exact fun _ => ⟨_, (by assumption), rfl⟩ | (have e1 := R.p3 _ hk; simp_all; done)
  · intro k hk
    by_cases hkp : k = p
    · subst hkp
      (try simp (disch := omega) only [r_lu, r_ly, r_pa, r_pb, r_pe, r_pn, r_ue, r_un]) <;> first | exact R.p4 _ hk | rfl | exact fun c => absurd c (by decide) | exact fun _ => ⟨_, (by assumption), rfl⟩ | (have e1 := R.p4 _ hk; simp_all; done)
    · (try simp (disch := omega) only [r_lu, r_ly, r_pa, r_pb, r_pe, r_pn, r_ue, r_un]) <;> first | exact R.p4 _ hk | rfl | exact fun c => absurd c (by decide) | exact fun _ => ⟨_, (by assumption), rfl⟩ | (have e1 := R.p4 _ hk; simp_all; done)
  · intro k hk
    by_cases hkp : k = p
    · subst hkp
      (try simp (disch := omega) only [r_lu, r_ly, r_pa, r_pb, r_pe, r_pn, r_ue, r_un]) <;> first | exact R.p5 _ hk | rfl | exact fun c => absurd c (by decide) | exact fun _ => ⟨_, (by assumption), rfl⟩ | (have e1 := R.p5 _ hk; simp_all; done)
    · (try simp (disch := omega) only [r_lu, r_ly, r_pa, r_pb, r_pe, r_pn, r_ue, r_un]) <;> first | exact R.p5 _ hk | rfl | exact fun c => absurd c (by decide) | exact fun _ => ⟨_, (by assumption), rfl⟩ | (have e1 := R.p5 _ hk; simp_all; done)
  · intro k hk
    by_cases hkp : k = o
    · subst hkp
      (try simp (disch := omega) only [r_lu, r_ly, r_pa, r_pb, r_pe, r_pn, r_ue, r_un]) <;> first | exact R.o0 _ hk | rfl | exact fun c => absurd c (by decide) | exact fun _ => ⟨_, (by assumption), rfl⟩ | (have e1 := R.o0 _ hk; simp_all; done)
    · (try simp (disch := omega) only [r_lu, r_ly, r_pa, r_pb, r_pe, r_pn, r_ue, r_un]) <;> first | exact R.o0 _ hk | rfl | exact fun c => absurd c (by decide) | exact fun _ => ⟨_, (by assumption), rfl⟩ | (have e1 := R.o0 _ hk; simp_all; done)
  · intro k hk
    by_cases hkp : k = o
    · subst hkp
      (try simp (disch := omega) only [r_lu, r_ly, r_pa, r_pb, r_pe, r_pn, r_ue, r_un]) <;> first | exact R.o2 _ hk | rfl | exact fun c => absurd c (by decide) | exact fun _ => ⟨_, (by assumption), rfl⟩ | (have e1 := R.o2 _ hk; simp_all; done)
    · (try simp (disch := omega) only [r_lu, r_ly, r_pa, r_pb, r_pe, r_pn, r_ue, r_un]) <;> first | exact R.o2 _ hk | rfl | exact fun c => absurd c (by decide) | exact fun _ => ⟨_, (by assumption), rfl⟩ | (have e1 := R.o2 _ hk; simp_all; done)
  · intro k hk
    by_cases hkp : k = o
    · subst hkp
      (try simp (disch := omega) only [r_lu, r_ly, r_pa, r_pb, r_pe, r_pn, r_ue, r_un]) <;> first | exact R.o3 _ hk | rfl | exact fun c => absurd c (by decide) | exact fun _ => ⟨_, (by assumption), rfl⟩ | (have e1 := R.o3 _ hk; simp_all; done)
    · (try simp (disch := omega) only [r_lu, r_ly, r_pa, r_pb, r_pe, r_pn, r_ue, r_un]) <;> first | exact R.o3 _ hk | rfl | exact fun c => absurd c (by decide) | exact fun _ => ⟨_, (by assumption), rfl⟩ | (have e1 := R.o3 _ hk; simp_all; done)
  · intro k hk
    by_cases hkp : k = o
    · subst hkp
      (try simp (disch := omega) only [r_lu, r_ly, r_pa, r_pb, r_pe, r_pn, r_ue, r_un]) <;> first | exact R.o4 _ hk | rfl | exact fun c => absurd c (by decide) | exact fun _ => ⟨_, (by assumption), rfl⟩ | (have e1 := R.o4 _ hk; simp_all; done)
    · (try simp (disch := omega) only [r_lu, r_ly, r_pa, r_pb, r_pe, r_pn, r_ue, r_un]) <;> first | exact R.o4 _ hk | rfl | exact fun c => absurd c (by decide) | exact fun _ => ⟨_, (by assumption), rfl⟩ | (have e1 := R.o4 _ hk; simp_all; done)
  · intro k hk
    by_cases hkp : k = p
    · subst hkp
      (try simp (disch := omega) only [r_lu, r_ly, r_pa, r_pb, r_pe, r_pn, r_ue, r_un]) <;> first | exact R.s2 _ hk | rfl | exact fun c => absurd c (by decide) | exact fun _ => ⟨_, (by assumption), rfl⟩ | (have e1 := R.s2 _ hk; simp_all; done)
    · (try simp (disch := omega) only [r_lu, r_ly, r_pa, r_pb, r_pe, r_pn, r_ue, r_un]) <;> first | exact R.s2 _ hk | rfl | exact fun c => absurd c (by decide) | exact fun _ => ⟨_, (by assumption), rfl⟩ | (have e1 := R.s2 _ hk; simp_all; done)
  · intro k hk
    by_cases hkp : k = p
    · subst hkp
      (try simp (disch := omega) only [r_lu, r_ly, r_pa, r_pb, r_pe, r_pn, r_ue, r_un]) <;> first | exact R.s3 _ hk | rfl | exact fun c => absurd c (by decide) | exact fun _ => ⟨_, (by assumption), rfl⟩ | (have e1 := R.s3 _ hk; simp_all; done)
    · (try simp (disch := omega) only [r_lu, r_ly, r_pa, r_pb, r_pe, r_pn, r_ue, r_un]) <;> first | exact R.s3 _ hk | rfl | exact fun c => absurd c (by decide) | exact fun _ => ⟨_, (by assumption), rfl⟩ | (have e1 := R.s3 _ hk; simp_all; done)
  · intro k hk
    by_cases hkp : k = p
    · subst hkp
      (try simp (disch := omega) only [r_lu, r_ly, r_pa, r_pb, r_pe, r_pn, r_ue, r_un]) <;> first | exact R.s4 _ hk | rfl | exact fun c => absurd c (by decide) | exact fun _ => ⟨_, (by assumption), rfl⟩ | (have e1 := R.s4 _ hk; simp_all; done)
    · (try simp (disch := omega) only [r_lu, r_ly, r_pa, r_pb, r_pe, r_pn, r_ue, r_un]) <;> first | exact R.s4 _ hk | rfl | exact fun c => absurd c (by decide) | exact fun _ => ⟨_, (by assumption), rfl⟩ | (have e1 := R.s4 _ hk; simp_all; done)
  · intro k hk
    by_cases hkp : k = p
    · subst hkp
      (try simp (disch := omega) only [r_lu, r_ly, r_pa, r_pb, r_pe, r_pn, r_ue, r_un]) <;> first | exact R.e4 _ hk | rfl | exact fun c => absurd c (by decide) | exact fun _ => ⟨_, (by assumption), rfl⟩ | (have e1 := R.e4 _ hk; simp_all; done)
    · (try simp (disch := omega) only [r_lu, r_ly, r_pa, r_pb, r_pe, r_pn, r_ue, r_un]) <;> first | exact R.e4 _ hk | rfl | exact fun c => absurd c (by decide) | exact fun _ => ⟨_, (by assumption), rfl⟩ | (have e1 := R.e4 _ hk; simp_all; done)
  · intro k hk
    by_cases hkp : k = p
    · subst hkp
      (try simp (disch := omega) only [r_lu, r_ly, r_pa, r_pb, r_pe, r_pn, r_ue, r_un]) <;> first | exact R.e5 _ hk | rfl | exact fun c => absurd c (by decide) | exact fun _ => ⟨_, (by assumption), rfl⟩ | (have e1 := R.e5 _ hk; simp_all; done)
    · (try simp (disch := omega) only [r_lu, r_ly, r_pa, r_pb, r_pe, r_pn, r_ue, r_un]) <;> first | exact R.e5 _ hk | rfl | exact fun c => absurd c (by decide) | exact fun _ => ⟨_, (by assumption), rfl⟩ | (have e1 := R.e5 _ hk; simp_all; done)
  · intro k hk
    by_cases hkp : k = o
    · subst hkp
      (try simp (disch := omega) only [r_lu, r_ly, r_pa, r_pb, r_pe, r_pn, r_ue, r_un]) <;> first | exact R.s8 _ hk | rfl | exact fun c => absurd c (by decide) | exact fun _ => ⟨_, (by assumption), rfl⟩ | (have e1 := R.s8 _ hk; simp_all; done)
    · (try simp (disch := omega) only [r_lu, r_ly, r_pa, r_pb, r_pe, r_pn, r_ue, r_un]) <;> first | exact R.s8 _ hk | rfl | exact fun c => absurd c (by decide) | exact fun _ => ⟨_, (by assumption), rfl⟩ | (have e1 := R.s8 _ hk; simp_all; done)
  · intro k hk
    by_cases hkp : k = 6
    · subst hkp
      (try simp (disch := omega) only [r_lu, r_ly, r_pa, r_pb, r_pe, r_pn, r_ue, r_un]) <;> first | exact R.g _ hk | rfl | exact fun c => absurd c (by decide) | exact fun _ => ⟨_, (by assumption), rfl⟩ | (have e1 := R.g _ hk; simp_all; done)
    · (try simp (disch := omega) only [r_lu, r_ly, r_pa, r_pb, r_pe, r_pn, r_ue, r_un]) <;> first | exact R.g _ hk | rfl | exact fun c => absurd c (by decide) | exact fun _ => ⟨_, (by assumption), rfl⟩ | (have e1 := R.g _ hk; simp_all; done)
theorem RI.waited {u : Nat → Nat → Int32} {z : Nat → Int32} (R : RI u z) {o : Nat} (ho : o < 8) : RI (r_wu u o) (r_wy z o (u 0 0 - u 12 o)) := by
  have e4 := R.o4 o ho
  refine RI.mk ?_ ?_ ?_ ?_ ?_ ?_ ?_ ?_ ?_ ?_ ?_ ?_ ?_ ?_ ?_ ?_ ?_ ?_ ?_ ?_
  · (try simp (disch := omega) only [r_wu, r_wy, r_pa, r_pb, r_pe, r_pn, r_ue, r_un]) <;> first | exact R.tm | rfl | (have e1 := R.tm; simp_all; done)
  · intro k hk
    (try simp (disch := omega) only [r_wu, r_wy, r_pa, r_pb, r_pe, r_pn, r_ue, r_un]) <;> first | exact R.st _ hk | rfl | exact fun c => absurd c (by decide) | exact fun _ => ⟨_, (by assumption), rfl⟩ | (have e1 := R.st _ hk; simp_all; done)
  · intro k hk
    (try simp (disch := omega) only [r_wu, r_wy, r_pa, r_pb, r_pe, r_pn, r_ue, r_un]) <;> first | exact R.tt _ hk | rfl | exact fun c => absurd c (by decide) | exact fun _ => ⟨_, (by assumption), rfl⟩ | (have e1 := R.tt _ hk; simp_all; done)
  · intro k hk
    (try simp (disch := omega) only [r_wu, r_wy, r_pa, r_pb, r_pe, r_pn, r_ue, r_un]) <;> first | exact R.p0 _ hk | rfl | exact fun c => absurd c (by decide) | exact fun _ => ⟨_, (by assumption), rfl⟩ | (have e1 := R.p0 _ hk; simp_all; done)
  · intro k hk
    (try simp (disch := omega) only [r_wu, r_wy, r_pa, r_pb, r_pe, r_pn, r_ue, r_un]) <;> first | exact R.p1 _ hk | rfl | exact fun c => absurd c (by decide) | exact fun _ => ⟨_, (by assumption), rfl⟩ | (have e1 := R.p1 _ hk; simp_all; done)
  · intro k hk
    (try simp (disch := omega) only [r_wu, r_wy, r_pa, r_pb, r_pe, r_pn, r_ue, r_un]) <;> first | exact R.p2 _ hk | rfl | exact fun c => absurd c (by decide) | exact fun _ => ⟨_, (by assumption), rfl⟩ | (have e1 := R.p2 _ hk; simp_all; done)
  · intro k hk
    (try simp (disch := omega) only [r_wu, r_wy, r_pa, r_pb, r_pe, r_pn, r_ue, r_un]) <;> first | exact R.p3 _ hk | rfl | exact fun c => absurd c (by decide) | exact fun _ => ⟨_, (by assumption), rfl⟩ | (have e1 := R.p3 _ hk; simp_all; done)
  · intro k hk
    (try simp (disch := omega) only [r_wu, r_wy, r_pa, r_pb, r_pe, r_pn, r_ue, r_un]) <;> first | exact R.p4 _ hk | rfl | exact fun c => absurd c (by decide) | exact fun _ => ⟨_, (by assumption), rfl⟩ | (have e1 := R.p4 _ hk; simp_all; done)
  · intro k hk
    (try simp (disch := omega) only [r_wu, r_wy, r_pa, r_pb, r_pe, r_pn, r_ue, r_un]) <;> first | exact R.p5 _ hk | rfl | exact fun c => absurd c (by decide) | exact fun _ => ⟨_, (by assumption), rfl⟩ | (have e1 := R.p5 _ hk; simp_all; done)
  · intro k hk
    by_cases hkp : k = o
    · subst hkp
      (try simp (disch := omega) only [r_wu, r_wy, r_pa, r_pb, r_pe, r_pn, r_ue, r_un]) <;> first | exact R.o0 _ hk | rfl | exact fun c => absurd c (by decide) | exact fun _ => ⟨_, (by assumption), rfl⟩ | (have e1 := R.o0 _ hk; simp_all; done)
    · (try simp (disch := omega) only [r_wu, r_wy, r_pa, r_pb, r_pe, r_pn, r_ue, r_un]) <;> first | exact R.o0 _ hk | rfl | exact fun c => absurd c (by decide) | exact fun _ => ⟨_, (by assumption), rfl⟩ | (have e1 := R.o0 _ hk; simp_all; done)
  · intro k hk
    by_cases hkp : k = o
    · subst hkp
      (try simp (disch := omega) only [r_wu, r_wy, r_pa, r_pb, r_pe, r_pn, r_ue, r_un]) <;> first | exact R.o2 _ hk | rfl | exact fun c => absurd c (by decide) | exact fun _ => ⟨_, (by assumption), rfl⟩ | (have e1 := R.o2 _ hk; simp_all; done)
    · (try simp (disch := omega) only [r_wu, r_wy, r_pa, r_pb, r_pe, r_pn, r_ue, r_un]) <;> first | exact R.o2 _ hk | rfl | exact fun c => absurd c (by decide) | exact fun _ => ⟨_, (by assumption), rfl⟩ | (have e1 := R.o2 _ hk; simp_all; done)
  · intro k hk
    by_cases hkp : k = o
    · subst hkp
      (try simp (disch := omega) only [r_wu, r_wy, r_pa, r_pb, r_pe, r_pn, r_ue, r_un]) <;> first | exact R.o3 _ hk | rfl | exact fun c => absurd c (by decide) | exact fun _ => ⟨_, (by assumption), rfl⟩ | (have e1 := R.o3 _ hk; simp_all; done)
    · (try simp (disch := omega) only [r_wu, r_wy, r_pa, r_pb, r_pe, r_pn, r_ue, r_un]) <;> first | exact R.o3 _ hk | rfl | exact fun c => absurd c (by decide) | exact fun _ => ⟨_, (by assumption), rfl⟩ | (have e1 := R.o3 _ hk; simp_all; done)
  · intro k hk
    by_cases hkp : k = o
    · subst hkp
      (try simp (disch := omega) only [r_wu, r_wy, r_pa, r_pb, r_pe, r_pn, r_ue, r_un]) <;> first | exact R.o4 _ hk | rfl | exact fun c => absurd c (by decide) | exact fun _ => ⟨_, (by assumption), rfl⟩ | (have e1 := R.o4 _ hk; simp_all; done)
    · (try simp (disch := omega) only [r_wu, r_wy, r_pa, r_pb, r_pe, r_pn, r_ue, r_un]) <;> first | exact R.o4 _ hk | rfl | exact fun c => absurd c (by decide) | exact fun _ => ⟨_, (by assumption), rfl⟩ | (have e1 := R.o4 _ hk; simp_all; done)
  · intro k hk
    (try simp (disch := omega) only [r_wu, r_wy, r_pa, r_pb, r_pe, r_pn, r_ue, r_un]) <;> first | exact R.s2 _ hk | rfl | exact fun c => absurd c (by decide) | exact fun _ => ⟨_, (by assumption), rfl⟩ | (have e1 := R.s2 _ hk; simp_all; done)
  · intro k hk
    (try simp (disch := omega) only [r_wu, r_wy, r_pa, r_pb, r_pe, r_pn, r_ue, r_un]) <;> first | exact R.s3 _ hk | rfl | exact fun c => absurd c (by decide) | exact fun _ => ⟨_, (by assumption), rfl⟩ | (have e1 := R.s3 _ hk; simp_all; done)
  · intro k hk
    (try simp (disch := omega) only [r_wu, r_wy, r_pa, r_pb, r_pe, r_pn, r_ue, r_un]) <;> first | exact R.s4 _ hk | rfl | exact fun c => absurd c (by decide) | exact fun _ => ⟨_, (by assumption), rfl⟩ | (have e1 := R.s4 _ hk; simp_all; done)
  · intro k hk
    (try simp (disch := omega) only [r_wu, r_wy, r_pa, r_pb, r_pe, r_pn, r_ue, r_un]) <;> first | exact R.e4 _ hk | rfl | exact fun c => absurd c (by decide) | exact fun _ => ⟨_, (by assumption), rfl⟩ | (have e1 := R.e4 _ hk; simp_all; done)
  · intro k hk
    (try simp (disch := omega) only [r_wu, r_wy, r_pa, r_pb, r_pe, r_pn, r_ue, r_un]) <;> first | exact R.e5 _ hk | rfl | exact fun c => absurd c (by decide) | exact fun _ => ⟨_, (by assumption), rfl⟩ | (have e1 := R.e5 _ hk; simp_all; done)
  · intro k hk
    by_cases hkp : k = o
    · subst hkp
      (try simp (disch := omega) only [r_wu, r_wy, r_pa, r_pb, r_pe, r_pn, r_ue, r_un]) <;> first | exact R.s8 _ hk | rfl | exact fun c => absurd c (by decide) | exact fun _ => ⟨_, (by assumption), rfl⟩ | (have e1 := R.s8 _ hk; simp_all; done)
    · (try simp (disch := omega) only [r_wu, r_wy, r_pa, r_pb, r_pe, r_pn, r_ue, r_un]) <;> first | exact R.s8 _ hk | rfl | exact fun c => absurd c (by decide) | exact fun _ => ⟨_, (by assumption), rfl⟩ | (have e1 := R.s8 _ hk; simp_all; done)
  · intro k hk
    (try simp (disch := omega) only [r_wu, r_wy, r_pa, r_pb, r_pe, r_pn, r_ue, r_un]) <;> first | exact R.g _ hk | rfl | exact fun c => absurd c (by decide) | exact fun _ => ⟨_, (by assumption), rfl⟩ | (have e1 := R.g _ hk; simp_all; done)
theorem RF.waited {u : Nat → Nat → Int32} {z : Nat → Int32} {o : Nat} (ho : o < 8) (v : Int32) : RF u z (r_wu u o) (r_wy z o v) := by
  refine RF.mk ?_ ?_ ?_ ?_ ?_ ?_ ?_ ?_ ?_
  · (try simp (disch := omega) only [r_wu, r_wy, r_pa, r_pb, r_pe, r_pn, r_ue, r_un])
  · (try simp (disch := omega) only [r_wu, r_wy, r_pa, r_pb, r_pe, r_pn, r_ue, r_un])
  · (try simp (disch := omega) only [r_wu, r_wy, r_pa, r_pb, r_pe, r_pn, r_ue, r_un])
  · (try simp (disch := omega) only [r_wu, r_wy, r_pa, r_pb, r_pe, r_pn, r_ue, r_un])
  · (try simp (disch := omega) only [r_wu, r_wy, r_pa, r_pb, r_pe, r_pn, r_ue, r_un])
  · (try simp (disch := omega) only [r_wu, r_wy, r_pa, r_pb, r_pe, r_pn, r_ue, r_un])
  · (try simp (disch := omega) only [r_wu, r_wy, r_pa, r_pb, r_pe, r_pn, r_ue, r_un])
  · intros
    (try simp (disch := omega) only [r_wu, r_wy, r_pa, r_pb, r_pe, r_pn, r_ue, r_un])
  · intros
    (try simp (disch := omega) only [r_wu, r_wy, r_pa, r_pb, r_pe, r_pn, r_ue, r_un])
theorem RQ.frame {u u1 : Nat → Nat → Int32} {z z1 : Nat → Int32} {Q : List Nat} {t : Nat} (g : RQ u z Q t) (a0 : u1 0 = u 0) (a8 : u1 8 = u 8) (a12 : u1 12 = u 12) (a13 : u1 13 = u 13) (a14 : u1 14 = u 14) (zq : ∀ k, 17 ≤ k → k < 26 → z1 k = z k) (zw : ∀ o, o < 8 → z1 (74 + 5 * o + 1) = z (74 + 5 * o + 1)) : RQ u1 z1 Q t := RQ.mk
  (n1 := (zq 17 (by decide) (by decide)).trans g.n1)
  (n2 := by rw [a14]; exact g.n2)
  (q1 := fun k hk => (zq (18 + k) (by omega) (by omega)).trans (g.q1 k hk))
  (q2 := fun k hk => by rw [a13]; exact g.q2 k hk)
  (nd := g.nd)
  (lt := g.lt)
  (th := fun o ho => by rw [a8]; exact g.th o ho)
  (o1 := fun o ho => by rw [zw o ho, a12]; exact g.o1 o ho)
  (tm := by rw [a0]; exact g.tm)
  (ws := fun o ho => by rw [a12]; exact g.ws o ho)
theorem RQ.lend {u : Nat → Nat → Int32} {z : Nat → Int32} {Q : List Nat} {t p o : Nat} (g : RQ u z Q t) (hp : p < 8) (ho : o < 8) : RQ (r_lu u p o) (r_ly z p o) Q t := by
  refine g.frame rfl rfl rfl rfl rfl (fun k a b => ?_) (fun k hk => ?_)
  · simp (disch := omega) only [r_ly, r_pa, r_pb, r_pe, r_pn, r_ue, r_un]
  · simp (disch := omega) only [r_ly, r_pa, r_pb, r_pe, r_pn, r_ue, r_un]
theorem r_xle (u : Nat → Nat → Int32) {p o : Nat} (hp : p < 8) (ho : o < 8) : fX2_lend (Int32.ofNat p) (Int32.ofNat o) u = some (r_lu u p o) := by
  unfold fX2_lend
  rw [if_pos (r_in hp (by decide)), if_pos (r_in hp (by decide)), if_pos (r_in hp (by decide)), if_pos (r_in hp (by decide)), if_pos (r_in hp (by decide)), r_bs, if_pos (r_in ho (by decide)), if_pos (r_in ho (by decide)), r_nc (by omega), r_nc (by omega), r_l6]
  rfl
theorem r_yle (z gn : Nat → Int32) {p o : Nat} (hp : p < 8) (ho : o < 8) : fX4_lend (Int32.ofNat p) (Int32.ofNat o) z gn = some (r_ly z p o, upd gn o (Int32.ofNat p)) := by
  unfold fX4_lend
  rw [r_put0 hp, r_bs, r_put1 hp, r_bs, r_of3 hp, r_bs, r_put3 hp, r_bs, r_put4 hp, r_bs, r_its2 ho, r_bs, r_lay2 ho, r_bs, if_pos (r_in ho (by decide)), r_nc (by omega), r_l9, r_l16]
  simp (disch := omega) only [r_ly, r_un]
def r_quiet (u : Nat → Nat → Int32) (Q : List Nat) : Prop := (∀ o, o ∈ Q → ¬ r_may u o) ∨ ((∀ i, i < 8 → u 2 i ≠ 1) ∧ u 1 0 ≤ Int32.ofNat (r_con u))
/-- who leaves the queue by serving has got one more, nobody else -/
def RG (u : Nat → Nat → Int32) (Q : List Nat) (v : Nat → Nat → Int32) (P : List Nat) : Prop := (∀ o, o ∈ P → o ∈ Q) ∧ (∀ o, o ∉ Q → v 9 o = u 9 o) ∧ (∀ o, o ∈ P → v 9 o = u 9 o) ∧ (∀ o, o ∈ Q → o ∉ P → v 9 o = u 9 o + 1) ∧ (v 12 = u 12)
theorem RG.sub {u : Nat → Nat → Int32} {Q : List Nat} {v : Nat → Nat → Int32} {P : List Nat} (h : RG u Q v P) : ∀ o, o ∈ P → o ∈ Q := h.1
theorem RG.out {u : Nat → Nat → Int32} {Q : List Nat} {v : Nat → Nat → Int32} {P : List Nat} (h : RG u Q v P) : ∀ o, o ∉ Q → v 9 o = u 9 o := h.2.1
theorem RG.stay {u : Nat → Nat → Int32} {Q : List Nat} {v : Nat → Nat → Int32} {P : List Nat} (h : RG u Q v P) : ∀ o, o ∈ P → v 9 o = u 9 o := h.2.2.1
theorem RG.gone {u : Nat → Nat → Int32} {Q : List Nat} {v : Nat → Nat → Int32} {P : List Nat} (h : RG u Q v P) : ∀ o, o ∈ Q → o ∉ P → v 9 o = u 9 o + 1 := h.2.2.2.1
theorem RG.w12 {u : Nat → Nat → Int32} {Q : List Nat} {v : Nat → Nat → Int32} {P : List Nat} (h : RG u Q v P) : v 12 = u 12 := h.2.2.2.2
theorem RG.mk {u : Nat → Nat → Int32} {Q : List Nat} {v : Nat → Nat → Int32} {P : List Nat} (sub : ∀ o, o ∈ P → o ∈ Q) (out : ∀ o, o ∉ Q → v 9 o = u 9 o) (stay : ∀ o, o ∈ P → v 9 o = u 9 o) (gone : ∀ o, o ∈ Q → o ∉ P → v 9 o = u 9 o + 1) (w12 : v 12 = u 12) : RG u Q v P := ⟨sub, out, stay, gone, w12⟩
def r_se (n : Nat) (z gn : Nat → Int32) : Option ((Nat → Int32) × (Nat → Int32)) :=
  (fX4_firstToServe z).bind fun r1 => (if r1 = (-1) then some ((-1), z) else (fX4_look z).bind fun r3 => some (r3.1, r3.2) : Option (Int32 × (Nat → Int32))).bind fun v2 => fX4_serve_L19 n r1 v2.1 v2.2 gn
theorem r_sec (n : Nat) (z gn : Nat → Int32) : ((fX4_firstToServe z).bind fun r11 => if r11 = (-1) then fX4_serve_L19 n r11 (-1) z gn else (fX4_look z).bind fun r12 => fX4_serve_L19 n r11 r12.1 r12.2 gn) = r_se n z gn := by
  unfold r_se
  congr 1
  funext r
  by_cases h : r = -1
  · rw [if_pos h, if_pos h]; rfl
  · rw [if_neg h, if_neg h]
    cases fX4_look z <;> rfl
theorem r_svl (x : Int32) (t : Nat) : ∀ m i n n' (u : Nat → Nat → Int32) (z gn : Nat → Int32) (Q : List Nat) (g : Int32), Q.length ≤ m → i + m = 8 → m < n → m < n' → RI u z → RQ u z Q t → ∃ g' u' z' gn' P, fX2_serveWaiters_L4 x n g (Int32.ofNat i) u = some (g', u') ∧ r_se n' z gn = some (z', gn') ∧ RI u' z' ∧ RQ u' z' P t ∧ r_quiet u' P ∧ RG u Q u' P ∧ u' 1 = u 1 ∧ u' 8 = u 8 ∧ (∀ o, o < 8 → x = Int32.ofNat o → gn o = g → gn' o = g') ∧ ((g = -1 ∨ ∃ c, c < 8 ∧ g = Int32.ofNat c) → (g' = -1 ∨ ∃ c, c < 8 ∧ g' = Int32.ofNat c))
  | m, i, n + 1, n' + 1, u, z, gn, Q, g, hQ, hi, hn, hn', R, q => by
    have l8 := q.len
    unfold r_se
    obtain ⟨r, s, e1, e2, e3⟩ := r_ft R q
    rw [e2, r_bs, fX2_serveWaiters_L4, e1, r_bs]
    rcases e3 with ⟨er, es, hno⟩ | ⟨k, hk, er, es, hmay⟩
    · rw [if_pos es, r_bs, if_pos er, r_bs, if_pos rfl, fX4_serve_L19, if_pos rfl]
      refine ⟨g, u, z, gn, Q, ?_, rfl, R, q, Or.inl hno, RG.mk (fun _ h => h) (fun _ _ => rfl) (fun _ _ => rfl) (fun o a b => absurd a b) rfl, rfl, rfl, fun o _ _ h => h, fun h => h⟩
      split <;> rfl
    · match m, hQ, hi, hn, hn' with
      | 0, hQ, hi, hn, hn' => omega
      | m + 1, hQ, hi, hn, hn' =>
        have k8 := q.g8 hk
        have nr : ¬ r = -1 := by rw [er]; exact r_m1 (by omega)
        have ns : ¬ s = -1 := by rw [es]; exact r_m1 (by omega)
        obtain ⟨p, u1, z1, f1, f2, R1, F1, W1, f3⟩ := r_find R
        have q1 := F1.rq q
        rw [if_neg (r_8n (by omega)), if_neg nr, if_neg ns, f1, f2, r_bs, r_bs, r_bs, r_bs]
        rcases f3 with ⟨fp, hno, hco⟩ | ⟨c, c8, fp, _⟩
        · rw [if_pos fp, fX4_serve_L19, if_pos fp]
          exact ⟨g, u1, z1, gn, Q, rfl, rfl, R1, q1, Or.inr ⟨hno, hco⟩, RG.mk (fun _ h => h) (fun _ _ => by rw [F1.a9]) (fun _ _ => by rw [F1.a9]) (fun o a b => absurd a b) F1.a12, F1.a1, F1.a8, fun o _ _ h => h, fun h => h⟩
        · have np : ¬ p = -1 := by rw [fp]; exact r_m1 (by omega)
          rw [if_neg np, fX4_serve_L19, if_neg np]
          have d13 : u1 13 k = Int32.ofNat (Q.getD k 0) := q1.q2 k hk
          have b1 : pq_in (Int32.ofNat k) 8 = true := r_in (by omega) (by decide)
          have b2 : pq_in (Int32.ofNat (Q.getD k 0)) 8 = true := r_in k8 (by decide)
          have b3 : (Int32.ofNat k).toNatClampNeg = k := r_nc (by omega)
          have b4 : (Int32.ofNat (Q.getD k 0)).toNatClampNeg = Q.getD k 0 := r_nc (by omega)
          simp only [er, es, fp, b3, d13, b1, b2, b4, if_true]
          rw [r_its4 k8, r_bs, r_wf R1 q1 (r_gm hk), r_bs, r_lay4 k8, r_bs]
          have R2 := R1.waited k8
          have F2 : RF u1 z1 (r_wu u1 (Q.getD k 0)) (r_wy z1 (Q.getD k 0) (u1 0 0 - u1 12 (Q.getD k 0))) := RF.waited k8 _
          have q2 := F2.rq q1
          obtain ⟨u3, z3, e4, e5, e6, e7, R3, q3⟩ := r_lv R2 q2 hk
          have e4' : fX2_leave (Int32.ofNat k) (pu u1 11 (upd (u1 11) (Q.getD k 0) (u1 11 (Q.getD k 0) + (u1 0 0 - u1 12 (Q.getD k 0))))) = some u3 := e4
          have e5' : fX4_leaveQueue (Int32.ofNat (Q.getD k 0)) (upd z1 (74 + 5 * (Q.getD k 0) + 4) (z1 (74 + 5 * (Q.getD k 0) + 4) + (u1 0 0 - u1 12 (Q.getD k 0)))) = some z3 := e5
          rw [e4', r_bs, e5', r_bs, r_lay1 k8, r_bs, r_xle u3 c8 k8, r_bs, r_yle _ gn c8 k8, r_bs, r_sec, r_s]
          have R4 := R3.lend (p := c) (o := Q.getD k 0) c8 k8
          have q4 := q3.lend (p := c) (o := Q.getD k 0) c8 k8
          have hl : (Q.eraseIdx k).length ≤ m := by rw [List.length_eraseIdx_of_lt hk]; omega
          have u9 : ∀ o, (r_lu u3 c (Q.getD k 0)) 9 o = if o = Q.getD k 0 then u 9 o + 1 else u 9 o := by
            intro o
            have e9 : u3 9 = u 9 := by rw [e6 9 (by decide) (by decide), F2.a9, F1.a9]
            by_cases ho : o = Q.getD k 0
            · rw [if_pos ho, ← e9]
              simp (disch := omega) only [r_lu, r_pa, r_pb, r_pe, r_pn, r_ue, r_un]
              rw [ho]
            · rw [if_neg ho, ← e9]
              simp (disch := omega) only [r_lu, r_pa, r_pb, r_pe, r_pn, r_ue, r_un]
          have fin : ∀ g1 : Int32, (∀ o, o < 8 → x = Int32.ofNat o → gn o = g → (upd gn (Q.getD k 0) (Int32.ofNat c)) o = g1) → ((g = -1 ∨ ∃ c, c < 8 ∧ g = Int32.ofNat c) → (g1 = -1 ∨ ∃ c, c < 8 ∧ g1 = Int32.ofNat c)) → ∃ g' u' z' gn' P, fX2_serveWaiters_L4 x n g1 (Int32.ofNat (i + 1)) (r_lu u3 c (Q.getD k 0)) = some (g', u') ∧ r_se n' (r_ly (upd z3 (74 + 5 * (Q.getD k 0) + 1) 0) c (Q.getD k 0)) (upd gn (Q.getD k 0) (Int32.ofNat c)) = some (z', gn') ∧ RI u' z' ∧ RQ u' z' P t ∧ r_quiet u' P ∧ RG u Q u' P ∧ u' 1 = u 1 ∧ u' 8 = u 8 ∧ (∀ o, o < 8 → x = Int32.ofNat o → gn o = g → gn' o = g') ∧ ((g = -1 ∨ ∃ c, c < 8 ∧ g = Int32.ofNat c) → (g' = -1 ∨ ∃ c, c < 8 ∧ g' = Int32.ofNat c)) := by
            intro g1 hg1 hg2
            obtain ⟨g', u', z', gn', P, a1, a2, a3, a4, a5, a6, a7, a8, a9, a10⟩ := r_svl x t m (i + 1) n n' _ _ (upd gn (Q.getD k 0) (Int32.ofNat c)) (Q.eraseIdx k) g1 hl (by omega) (by omega) (by omega) R4 q4
            refine ⟨g', u', z', gn', P, a1, a2, a3, a4, a5, RG.mk ?_ ?_ ?_ ?_ ?_, ?_, ?_, fun o h1 h2 h3 => a9 o h1 h2 (hg1 o h1 h2 h3), fun h => a10 (hg2 h)⟩
            · intro o ho; exact List.mem_of_mem_eraseIdx (a6.sub o ho)
            · intro o ho
              rw [a6.out o (fun c => ho (List.mem_of_mem_eraseIdx c)), u9, if_neg (fun c => ho (by rw [c]; exact r_gm hk))]
            · intro o ho
              have hm := (r_em q.nd hk).mp (a6.sub o ho)
              rw [a6.stay o ho, u9, if_neg hm.2]
            · intro o h1 h2
              by_cases ho : o = Q.getD k 0
              · rw [a6.out o (fun c => ((r_em q.nd hk).mp c).2 ho), u9, if_pos ho]
              · rw [a6.gone o ((r_em q.nd hk).mpr ⟨h1, ho⟩) h2, u9, if_neg ho]
            · rw [a6.w12]
              show u3 12 = u 12
              rw [e6 12 (by decide) (by decide), F2.a12, F1.a12]
            · rw [a7]
              show u3 1 = u 1
              rw [e6 1 (by decide) (by decide), F2.a1, F1.a1]
            · rw [a8]
              show u3 8 = u 8
              rw [e6 8 (by decide) (by decide), F2.a8, F1.a8]
          by_cases hx : Int32.ofNat (Q.getD k 0) = x
          · rw [if_pos hx]
            refine fin _ (fun o h1 h2 h3 => ?_) (fun _ => Or.inr ⟨c, c8, rfl⟩)
            have e : Q.getD k 0 = o := (r_eq (by omega) (by omega)).mp (hx.trans h2)
            exact r_ue e
          · rw [if_neg hx]
            refine fin _ (fun o h1 h2 h3 => ?_) (fun h => h)
            rw [r_un (fun c => hx (by rw [c, h2]))]
            exact h3
theorem r_serve {u : Nat → Nat → Int32} {z : Nat → Int32} {Q : List Nat} {t : Nat} (R : RI u z) (q : RQ u z Q t) (x : Int32) (gn : Nat → Int32) : ∃ g' u' z' gn' P, fX2_serveWaiters x u = some (g', u') ∧ fX4_serve z gn = some (z', gn') ∧ RI u' z' ∧ RQ u' z' P t ∧ r_quiet u' P ∧ RG u Q u' P ∧ u' 1 = u 1 ∧ u' 8 = u 8 ∧ (∀ o, o < 8 → x = Int32.ofNat o → gn o = -1 → gn' o = g') ∧ (g' = -1 ∨ ∃ c, c < 8 ∧ g' = Int32.ofNat c) := by
  obtain ⟨g', u', z', gn', P, a1, a2, a3, a4, a5, a6, a7, a8, a9, a10⟩ :=
    r_svl x t 8 0 1000 1000 u z gn Q (-1) q.len rfl (by decide) (by decide) R q
  exact ⟨g', u', z', gn', P, a1, a2, a3, a4, a5, a6, a7, a8, a9, a10 (Or.inl rfl)⟩
/-- where all is quiet, serving changes nothing -/
theorem r_still {u : Nat → Nat → Int32} {z : Nat → Int32} {Q : List Nat} {t : Nat} (R : RI u z) (q : RQ u z Q t) (h : r_quiet u Q) (gn : Nat → Int32) : fX4_serve z gn = some (z, gn) := by
  show r_se 1000 z gn = some (z, gn)
  unfold r_se
  obtain ⟨r, s, e1, e2, e3⟩ := r_ft R q
  rw [e2, r_bs]
  rcases e3 with ⟨er, es, hno⟩ | ⟨k, hk, er, es, hmay⟩
  · rw [if_pos es, r_bs, fX4_serve_L19, if_pos rfl]
  · have k8 := q.g8 hk
    have ns : ¬ s = -1 := by rw [es]; exact r_m1 (by omega)
    rcases h with h | ⟨h1, h2⟩
    · exact absurd hmay (h _ (r_gm hk))
    · rw [if_neg ns, r_nolook R h1 h2, r_bs, r_bs, fX4_serve_L19, if_pos rfl]
