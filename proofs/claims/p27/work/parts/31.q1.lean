/-! ===== p27: each step keeps what holds ===== -/
theorem IV.bump5 {d e : Nat} {m : Nat → Nat → Nat} {Q : List Nat} (R : IV d e m Q)  : IV d e (bpN m 5) Q := by
  have ec : con (bpN m 5) = con m := con_congr (fun i _ => by simp [bpN, sm])
  have es7 : n8 ((bpN m 5) 7) = n8 (m 7) := n8_congr (fun i _ => by simp [bpN, sm])
  have es9 : n8 ((bpN m 5) 9) = n8 (m 9) := n8_congr (fun i _ => by simp [bpN, sm])
  have es5 : n8 ((bpN m 5) 5) = n8 (m 5) := n8_congr (fun i _ => by simp [bpN, sm])
  have a0 : (bpN m 5) 15 0 = (bpN m 5) 15 0 := rfl
  conv at a0 => rhs; simp [bpN, sm]
  have a1 : (bpN m 5) 15 1 = (bpN m 5) 15 1 := rfl
  conv at a1 => rhs; simp [bpN, sm]
  have a2 : (bpN m 5) 15 2 = (bpN m 5) 15 2 := rfl
  conv at a2 => rhs; simp [bpN, sm]
  have a3 : (bpN m 5) 15 3 = (bpN m 5) 15 3 := rfl
  conv at a3 => rhs; simp [bpN, sm]
  have a4 : (bpN m 5) 15 4 = (bpN m 5) 15 4 := rfl
  conv at a4 => rhs; simp [bpN, sm]
  have a5 : (bpN m 5) 15 5 = (bpN m 5) 15 5 := rfl
  conv at a5 => rhs; simp [bpN, sm]
  have a6 : (bpN m 5) 15 6 = (bpN m 5) 15 6 := rfl
  conv at a6 => rhs; simp [bpN, sm]
  have b1 := R.c1; have b2 := R.c2; have b3 := R.c3; have b4 := R.c4; have b5 := R.c5; have b6 := R.c6; have b7 := R.c7
  refine IV.mk ?_ ?_ ?_ ?_ ?_ ?_ ?_ ?_ ?_ ?_ ?_ ?_ ?_ ?_ ?_ ?_ ?_ ?_ ?_ ?_
  · intro k hk; have h := R.st k hk; simpa [bpN, sm] using h
  · intro k hk; have h := R.lt k hk; simpa [bpN, sm] using h
  · intro k hk; have h := R.sk k hk; simpa [bpN, sm] using h
  · intro k hk; have h := R.e4 k hk; simpa [bpN, sm] using h
  · intro k hk; have h := R.e5 k hk; simpa [bpN, sm] using h
  · intro k hk; have h := R.sn k hk; simpa [bpN, sm] using h
  · intro k hk; have h := R.vn k hk; simpa [bpN, sm] using h
  · intro k hk; have h := R.sg k hk; simpa [bpN, sm] using h
  · have h := R.tm; simpa [bpN, sm] using h
  · exact R.nd
  · intro k hk; have h := R.ql k hk; simpa [bpN, sm] using h
  · intro k hk; have h := R.qt k hk; simpa [bpN, sm] using h
  · intro k hk; have h := R.ws k hk; simpa [bpN, sm] using h
  · first | omega | (simp at *; omega)
  · first | omega | (simp at *; omega)
  · first | omega | (simp at *; omega)
  · first | omega | (simp at *; omega)
  · first | omega | (simp at *; omega)
  · first | omega | (simp at *; omega)
  · first | omega | (simp at *; omega)
theorem IV.bump2 {d e : Nat} {m : Nat → Nat → Nat} {Q : List Nat} (R : IV d (e + 1) m Q)  : IV d e (bpN m 2) Q := by
  have ec : con (bpN m 2) = con m := con_congr (fun i _ => by simp [bpN, sm])
  have es7 : n8 ((bpN m 2) 7) = n8 (m 7) := n8_congr (fun i _ => by simp [bpN, sm])
  have es9 : n8 ((bpN m 2) 9) = n8 (m 9) := n8_congr (fun i _ => by simp [bpN, sm])
  have es5 : n8 ((bpN m 2) 5) = n8 (m 5) := n8_congr (fun i _ => by simp [bpN, sm])
  have a0 : (bpN m 2) 15 0 = (bpN m 2) 15 0 := rfl
  conv at a0 => rhs; simp [bpN, sm]
  have a1 : (bpN m 2) 15 1 = (bpN m 2) 15 1 := rfl
  conv at a1 => rhs; simp [bpN, sm]
  have a2 : (bpN m 2) 15 2 = (bpN m 2) 15 2 := rfl
  conv at a2 => rhs; simp [bpN, sm]
  have a3 : (bpN m 2) 15 3 = (bpN m 2) 15 3 := rfl
  conv at a3 => rhs; simp [bpN, sm]
  have a4 : (bpN m 2) 15 4 = (bpN m 2) 15 4 := rfl
  conv at a4 => rhs; simp [bpN, sm]
  have a5 : (bpN m 2) 15 5 = (bpN m 2) 15 5 := rfl
  conv at a5 => rhs; simp [bpN, sm]
  have a6 : (bpN m 2) 15 6 = (bpN m 2) 15 6 := rfl
  conv at a6 => rhs; simp [bpN, sm]
  have b1 := R.c1; have b2 := R.c2; have b3 := R.c3; have b4 := R.c4; have b5 := R.c5; have b6 := R.c6; have b7 := R.c7
  refine IV.mk ?_ ?_ ?_ ?_ ?_ ?_ ?_ ?_ ?_ ?_ ?_ ?_ ?_ ?_ ?_ ?_ ?_ ?_ ?_ ?_
  · intro k hk; have h := R.st k hk; simpa [bpN, sm] using h
  · intro k hk; have h := R.lt k hk; simpa [bpN, sm] using h
  · intro k hk; have h := R.sk k hk; simpa [bpN, sm] using h
  · intro k hk; have h := R.e4 k hk; simpa [bpN, sm] using h
  · intro k hk; have h := R.e5 k hk; simpa [bpN, sm] using h
  · intro k hk; have h := R.sn k hk; simpa [bpN, sm] using h
  · intro k hk; have h := R.vn k hk; simpa [bpN, sm] using h
  · intro k hk; have h := R.sg k hk; simpa [bpN, sm] using h
  · have h := R.tm; simpa [bpN, sm] using h
  · exact R.nd
  · intro k hk; have h := R.ql k hk; simpa [bpN, sm] using h
  · intro k hk; have h := R.qt k hk; simpa [bpN, sm] using h
  · intro k hk; have h := R.ws k hk; simpa [bpN, sm] using h
  · first | omega | (simp at *; omega)
  · first | omega | (simp at *; omega)
  · first | omega | (simp at *; omega)
  · first | omega | (simp at *; omega)
  · first | omega | (simp at *; omega)
  · first | omega | (simp at *; omega)
  · first | omega | (simp at *; omega)
theorem IV.bump3 {d e : Nat} {m : Nat → Nat → Nat} {Q : List Nat} (R : IV d (e + 1) m Q)  : IV d e (bpN m 3) Q := by
  have ec : con (bpN m 3) = con m := con_congr (fun i _ => by simp [bpN, sm])
  have es7 : n8 ((bpN m 3) 7) = n8 (m 7) := n8_congr (fun i _ => by simp [bpN, sm])
  have es9 : n8 ((bpN m 3) 9) = n8 (m 9) := n8_congr (fun i _ => by simp [bpN, sm])
  have es5 : n8 ((bpN m 3) 5) = n8 (m 5) := n8_congr (fun i _ => by simp [bpN, sm])
  have a0 : (bpN m 3) 15 0 = (bpN m 3) 15 0 := rfl
  conv at a0 => rhs; simp [bpN, sm]
  have a1 : (bpN m 3) 15 1 = (bpN m 3) 15 1 := rfl
  conv at a1 => rhs; simp [bpN, sm]
  have a2 : (bpN m 3) 15 2 = (bpN m 3) 15 2 := rfl
  conv at a2 => rhs; simp [bpN, sm]
  have a3 : (bpN m 3) 15 3 = (bpN m 3) 15 3 := rfl
  conv at a3 => rhs; simp [bpN, sm]
  have a4 : (bpN m 3) 15 4 = (bpN m 3) 15 4 := rfl
  conv at a4 => rhs; simp [bpN, sm]
  have a5 : (bpN m 3) 15 5 = (bpN m 3) 15 5 := rfl
  conv at a5 => rhs; simp [bpN, sm]
  have a6 : (bpN m 3) 15 6 = (bpN m 3) 15 6 := rfl
  conv at a6 => rhs; simp [bpN, sm]
  have b1 := R.c1; have b2 := R.c2; have b3 := R.c3; have b4 := R.c4; have b5 := R.c5; have b6 := R.c6; have b7 := R.c7
  refine IV.mk ?_ ?_ ?_ ?_ ?_ ?_ ?_ ?_ ?_ ?_ ?_ ?_ ?_ ?_ ?_ ?_ ?_ ?_ ?_ ?_
  · intro k hk; have h := R.st k hk; simpa [bpN, sm] using h
  · intro k hk; have h := R.lt k hk; simpa [bpN, sm] using h
  · intro k hk; have h := R.sk k hk; simpa [bpN, sm] using h
  · intro k hk; have h := R.e4 k hk; simpa [bpN, sm] using h
  · intro k hk; have h := R.e5 k hk; simpa [bpN, sm] using h
  · intro k hk; have h := R.sn k hk; simpa [bpN, sm] using h
  · intro k hk; have h := R.vn k hk; simpa [bpN, sm] using h
  · intro k hk; have h := R.sg k hk; simpa [bpN, sm] using h
  · have h := R.tm; simpa [bpN, sm] using h
  · exact R.nd
  · intro k hk; have h := R.ql k hk; simpa [bpN, sm] using h
  · intro k hk; have h := R.qt k hk; simpa [bpN, sm] using h
  · intro k hk; have h := R.ws k hk; simpa [bpN, sm] using h
  · first | omega | (simp at *; omega)
  · first | omega | (simp at *; omega)
  · first | omega | (simp at *; omega)
  · first | omega | (simp at *; omega)
  · first | omega | (simp at *; omega)
  · first | omega | (simp at *; omega)
  · first | omega | (simp at *; omega)
theorem IV.bump4 {d e : Nat} {m : Nat → Nat → Nat} {Q : List Nat} (R : IV d (e + 1) m Q)  : IV d e (bpN m 4) Q := by
  have ec : con (bpN m 4) = con m := con_congr (fun i _ => by simp [bpN, sm])
  have es7 : n8 ((bpN m 4) 7) = n8 (m 7) := n8_congr (fun i _ => by simp [bpN, sm])
  have es9 : n8 ((bpN m 4) 9) = n8 (m 9) := n8_congr (fun i _ => by simp [bpN, sm])
  have es5 : n8 ((bpN m 4) 5) = n8 (m 5) := n8_congr (fun i _ => by simp [bpN, sm])
  have a0 : (bpN m 4) 15 0 = (bpN m 4) 15 0 := rfl
  conv at a0 => rhs; simp [bpN, sm]
  have a1 : (bpN m 4) 15 1 = (bpN m 4) 15 1 := rfl
  conv at a1 => rhs; simp [bpN, sm]
  have a2 : (bpN m 4) 15 2 = (bpN m 4) 15 2 := rfl
  conv at a2 => rhs; simp [bpN, sm]
  have a3 : (bpN m 4) 15 3 = (bpN m 4) 15 3 := rfl
  conv at a3 => rhs; simp [bpN, sm]
  have a4 : (bpN m 4) 15 4 = (bpN m 4) 15 4 := rfl
  conv at a4 => rhs; simp [bpN, sm]
  have a5 : (bpN m 4) 15 5 = (bpN m 4) 15 5 := rfl
  conv at a5 => rhs; simp [bpN, sm]
  have a6 : (bpN m 4) 15 6 = (bpN m 4) 15 6 := rfl
  conv at a6 => rhs; simp [bpN, sm]
  have b1 := R.c1; have b2 := R.c2; have b3 := R.c3; have b4 := R.c4; have b5 := R.c5; have b6 := R.c6; have b7 := R.c7
  refine IV.mk ?_ ?_ ?_ ?_ ?_ ?_ ?_ ?_ ?_ ?_ ?_ ?_ ?_ ?_ ?_ ?_ ?_ ?_ ?_ ?_
  · intro k hk; have h := R.st k hk; simpa [bpN, sm] using h
  · intro k hk; have h := R.lt k hk; simpa [bpN, sm] using h
  · intro k hk; have h := R.sk k hk; simpa [bpN, sm] using h
  · intro k hk; have h := R.e4 k hk; simpa [bpN, sm] using h
  · intro k hk; have h := R.e5 k hk; simpa [bpN, sm] using h
  · intro k hk; have h := R.sn k hk; simpa [bpN, sm] using h
  · intro k hk; have h := R.vn k hk; simpa [bpN, sm] using h
  · intro k hk; have h := R.sg k hk; simpa [bpN, sm] using h
  · have h := R.tm; simpa [bpN, sm] using h
  · exact R.nd
  · intro k hk; have h := R.ql k hk; simpa [bpN, sm] using h
  · intro k hk; have h := R.qt k hk; simpa [bpN, sm] using h
  · intro k hk; have h := R.ws k hk; simpa [bpN, sm] using h
  · first | omega | (simp at *; omega)
  · first | omega | (simp at *; omega)
  · first | omega | (simp at *; omega)
  · first | omega | (simp at *; omega)
  · first | omega | (simp at *; omega)
  · first | omega | (simp at *; omega)
  · first | omega | (simp at *; omega)
theorem IV.clo {d e : Nat} {m : Nat → Nat → Nat} {Q : List Nat} {p : Nat} (R : IV d e m Q) (hp : p < 8) (h2 : m 2 p ≠ 0) : IV d (e + 1) (clN m p) Q := by
  have ec := con_upd (m := m) (m1 := clN m p) hp (fun i hi => by simp [clN, sm, hi])
  have ec2 : (clN m p) 2 p = 0 := by simp [clN, sm]
  rw [ec2] at ec
  simp [h2] at ec
  have es7 : n8 ((clN m p) 7) = n8 (m 7) := n8_congr (fun i _ => by simp [clN, sm])
  have es9 : n8 ((clN m p) 9) = n8 (m 9) := n8_congr (fun i _ => by simp [clN, sm])
  have es5 := row_upd (m := m) (m1 := clN m p) (r := 5) hp (fun i hi => by simp [clN, sm, hi])
  have ez5 : (clN m p) 5 p = 0 := by simp [clN, sm]
  have a0 : (clN m p) 15 0 = (clN m p) 15 0 := rfl
  conv at a0 => rhs; simp [clN, sm]
  have a1 : (clN m p) 15 1 = (clN m p) 15 1 := rfl
  conv at a1 => rhs; simp [clN, sm]
  have a2 : (clN m p) 15 2 = (clN m p) 15 2 := rfl
  conv at a2 => rhs; simp [clN, sm]
  have a3 : (clN m p) 15 3 = (clN m p) 15 3 := rfl
  conv at a3 => rhs; simp [clN, sm]
  have a4 : (clN m p) 15 4 = (clN m p) 15 4 := rfl
  conv at a4 => rhs; simp [clN, sm]
  have a5 : (clN m p) 15 5 = (clN m p) 15 5 := rfl
  conv at a5 => rhs; simp [clN, sm]
  have a6 : (clN m p) 15 6 = (clN m p) 15 6 := rfl
  conv at a6 => rhs; simp [clN, sm]
  have b1 := R.c1; have b2 := R.c2; have b3 := R.c3; have b4 := R.c4; have b5 := R.c5; have b6 := R.c6; have b7 := R.c7
  refine IV.mk ?_ ?_ ?_ ?_ ?_ ?_ ?_ ?_ ?_ ?_ ?_ ?_ ?_ ?_ ?_ ?_ ?_ ?_ ?_ ?_
  · intro k hk
    by_cases hkp : k = p
    · subst hkp; have h := R.st _ hk; first | (simp [clN, sm]; done) | (simp [clN, sm]; omega) | (simp [clN, sm]; exact h) | (simp_all [clN, sm]; done) | (simp_all [clN, sm]; omega)
    · have h := R.st k hk; simpa [clN, sm, hkp] using h
  · intro k hk
    by_cases hkp : k = p
    · subst hkp; have h := R.lt _ hk; first | (simp [clN, sm]; done) | (simp [clN, sm]; omega) | (simp [clN, sm]; exact h) | (simp_all [clN, sm]; done) | (simp_all [clN, sm]; omega)
    · have h := R.lt k hk; simpa [clN, sm, hkp] using h
  · intro k hk
    by_cases hkp : k = p
    · subst hkp; have h := R.sk _ hk; first | (simp [clN, sm]; done) | (simp [clN, sm]; omega) | (simp [clN, sm]; exact h) | (simp_all [clN, sm]; done) | (simp_all [clN, sm]; omega)
    · have h := R.sk k hk; simpa [clN, sm, hkp] using h
  · intro k hk
    by_cases hkp : k = p
    · subst hkp; have h := R.e4 _ hk; first | (simp [clN, sm]; done) | (simp [clN, sm]; omega) | (simp [clN, sm]; exact h) | (simp_all [clN, sm]; done) | (simp_all [clN, sm]; omega)
    · have h := R.e4 k hk; simpa [clN, sm, hkp] using h
  · intro k hk
    by_cases hkp : k = p
    · subst hkp; have h := R.e5 _ hk; first | (simp [clN, sm]; done) | (simp [clN, sm]; omega) | (simp [clN, sm]; exact h) | (simp_all [clN, sm]; done) | (simp_all [clN, sm]; omega)
    · have h := R.e5 k hk; simpa [clN, sm, hkp] using h
  · intro k hk
    by_cases hkp : k = p
    · subst hkp; have h := R.sn _ hk; first | (simp [clN, sm]; done) | (simp [clN, sm]; omega) | (simp [clN, sm]; exact h) | (simp_all [clN, sm]; done) | (simp_all [clN, sm]; omega)
    · have h := R.sn k hk; simpa [clN, sm, hkp] using h
  · intro k hk; have h := R.vn k hk; simpa [clN, sm] using h
  · intro k hk; have h := R.sg k hk; simpa [clN, sm] using h
  · have h := R.tm; simpa [clN, sm] using h
  · exact R.nd
  · intro k hk; have h := R.ql k hk; simpa [clN, sm] using h
  · intro k hk; have h := R.qt k hk; simpa [clN, sm] using h
  · intro k hk; have h := R.ws k hk; simpa [clN, sm] using h
  · first | omega | (simp at *; omega)
  · first | omega | (simp at *; omega)
  · first | omega | (simp at *; omega)
  · first | omega | (simp at *; omega)
  · first | omega | (simp at *; omega)
  · first | omega | (simp at *; omega)
  · first | omega | (simp at *; omega)
theorem IV.ope {d e : Nat} {m : Nat → Nat → Nat} {Q : List Nat} {p : Nat} (R : IV d e m Q) (hp : p < 8) (h2 : m 2 p = 0) : IV (d + 1) e (opN m p) Q := by
  have g5 := R.e5 p hp h2
  have ec := con_upd (m := m) (m1 := opN m p) hp (fun i hi => by simp [opN, sm, hi])
  have ec2 : (opN m p) 2 p = 1 := by simp [opN, sm]
  rw [ec2] at ec
  simp [h2] at ec
  have es7 := row_upd (m := m) (m1 := opN m p) (r := 7) hp (fun i hi => by simp [opN, sm, hi])
  have ez7 : (opN m p) 7 p = m 7 p + 1 := by simp [opN, sm]
  have es9 : n8 ((opN m p) 9) = n8 (m 9) := n8_congr (fun i _ => by simp [opN, sm])
  have es5 : n8 ((opN m p) 5) = n8 (m 5) := n8_congr (fun i _ => by simp [opN, sm])
  have a0 : (opN m p) 15 0 = (opN m p) 15 0 := rfl
  conv at a0 => rhs; simp [opN, sm]
  have a1 : (opN m p) 15 1 = (opN m p) 15 1 := rfl
  conv at a1 => rhs; simp [opN, sm]
  have a2 : (opN m p) 15 2 = (opN m p) 15 2 := rfl
  conv at a2 => rhs; simp [opN, sm]
  have a3 : (opN m p) 15 3 = (opN m p) 15 3 := rfl
  conv at a3 => rhs; simp [opN, sm]
  have a4 : (opN m p) 15 4 = (opN m p) 15 4 := rfl
  conv at a4 => rhs; simp [opN, sm]
  have a5 : (opN m p) 15 5 = (opN m p) 15 5 := rfl
  conv at a5 => rhs; simp [opN, sm]
  have a6 : (opN m p) 15 6 = (opN m p) 15 6 := rfl
  conv at a6 => rhs; simp [opN, sm]
  have b1 := R.c1; have b2 := R.c2; have b3 := R.c3; have b4 := R.c4; have b5 := R.c5; have b6 := R.c6; have b7 := R.c7
  refine IV.mk ?_ ?_ ?_ ?_ ?_ ?_ ?_ ?_ ?_ ?_ ?_ ?_ ?_ ?_ ?_ ?_ ?_ ?_ ?_ ?_
  · intro k hk
    by_cases hkp : k = p
    · subst hkp; have h := R.st _ hk; first | (simp [opN, sm]; done) | (simp [opN, sm]; omega) | (simp [opN, sm]; exact h) | (simp_all [opN, sm]; done) | (simp_all [opN, sm]; omega)
    · have h := R.st k hk; simpa [opN, sm, hkp] using h
  · intro k hk
    by_cases hkp : k = p
    · subst hkp; have h := R.lt _ hk; first | (simp [opN, sm]; done) | (simp [opN, sm]; omega) | (simp [opN, sm]; exact h) | (simp_all [opN, sm]; done) | (simp_all [opN, sm]; omega)
    · have h := R.lt k hk; simpa [opN, sm, hkp] using h
  · intro k hk
    by_cases hkp : k = p
    · subst hkp; have h := R.sk _ hk; first | (simp [opN, sm]; done) | (simp [opN, sm]; omega) | (simp [opN, sm]; exact h) | (simp_all [opN, sm]; done) | (simp_all [opN, sm]; omega)
    · have h := R.sk k hk; simpa [opN, sm, hkp] using h
  · intro k hk
    by_cases hkp : k = p
    · subst hkp; have h := R.e4 _ hk; first | (simp [opN, sm]; done) | (simp [opN, sm]; omega) | (simp [opN, sm]; exact h) | (simp_all [opN, sm]; done) | (simp_all [opN, sm]; omega)
    · have h := R.e4 k hk; simpa [opN, sm, hkp] using h
  · intro k hk
    by_cases hkp : k = p
    · subst hkp; have h := R.e5 _ hk; first | (simp [opN, sm]; done) | (simp [opN, sm]; omega) | (simp [opN, sm]; exact h) | (simp_all [opN, sm]; done) | (simp_all [opN, sm]; omega)
    · have h := R.e5 k hk; simpa [opN, sm, hkp] using h
  · intro k hk
    by_cases hkp : k = p
    · subst hkp; have h := R.sn _ hk; first | (simp [opN, sm]; done) | (simp [opN, sm]; omega) | (simp [opN, sm]; exact h) | (simp_all [opN, sm]; done) | (simp_all [opN, sm]; omega)
    · have h := R.sn k hk; simpa [opN, sm, hkp] using h
  · intro k hk; have h := R.vn k hk; simpa [opN, sm] using h
  · intro k hk; have h := R.sg k hk; simpa [opN, sm] using h
  · have h := R.tm; simpa [opN, sm] using h
  · exact R.nd
  · intro k hk; have h := R.ql k hk; simpa [opN, sm] using h
  · intro k hk; have h := R.qt k hk; simpa [opN, sm] using h
  · intro k hk; have h := R.ws k hk; simpa [opN, sm] using h
  · first | omega | (simp at *; omega)
  · first | omega | (simp at *; omega)
  · first | omega | (simp at *; omega)
  · first | omega | (simp at *; omega)
  · first | omega | (simp at *; omega)
  · first | omega | (simp at *; omega)
  · first | omega | (simp at *; omega)
theorem IV.len {d e : Nat} {m : Nat → Nat → Nat} {Q : List Nat} {p o : Nat} (R : IV d e m Q) (hp : p < 8) (ho : o < 8) (h2 : m 2 p = 1) (h1 : 1 ≤ d) (h7 : m 15 6 + Q.length + 1 ≤ 100000) : IV (d - 1) e (leN m p o) Q := by
  have ec := con_upd (m := m) (m1 := leN m p o) hp (fun i hi => by simp [leN, sm, hi])
  have ec2 : (leN m p o) 2 p = 2 := by simp [leN, sm]
  rw [ec2] at ec
  simp [h2] at ec
  have es7 : n8 ((leN m p o) 7) = n8 (m 7) := n8_congr (fun i _ => by simp [leN, sm])
  have es9 := row_upd (m := m) (m1 := leN m p o) (r := 9) ho (fun i hi => by simp [leN, sm, hi])
  have ez9 : (leN m p o) 9 o = m 9 o + 1 := by simp [leN, sm]
  have es5 := row_upd (m := m) (m1 := leN m p o) (r := 5) hp (fun i hi => by simp [leN, sm, hi])
  have ez5 : (leN m p o) 5 p = m 5 p + 1 := by simp [leN, sm]
  have a0 : (leN m p o) 15 0 = (leN m p o) 15 0 := rfl
  conv at a0 => rhs; simp [leN, sm]
  have a1 : (leN m p o) 15 1 = (leN m p o) 15 1 := rfl
  conv at a1 => rhs; simp [leN, sm]
  have a2 : (leN m p o) 15 2 = (leN m p o) 15 2 := rfl
  conv at a2 => rhs; simp [leN, sm]
  have a3 : (leN m p o) 15 3 = (leN m p o) 15 3 := rfl
  conv at a3 => rhs; simp [leN, sm]
  have a4 : (leN m p o) 15 4 = (leN m p o) 15 4 := rfl
  conv at a4 => rhs; simp [leN, sm]
  have a5 : (leN m p o) 15 5 = (leN m p o) 15 5 := rfl
  conv at a5 => rhs; simp [leN, sm]
  have a6 : (leN m p o) 15 6 = (leN m p o) 15 6 := rfl
  conv at a6 => rhs; simp [leN, sm]
  have b1 := R.c1; have b2 := R.c2; have b3 := R.c3; have b4 := R.c4; have b5 := R.c5; have b6 := R.c6; have b7 := R.c7
  refine IV.mk ?_ ?_ ?_ ?_ ?_ ?_ ?_ ?_ ?_ ?_ ?_ ?_ ?_ ?_ ?_ ?_ ?_ ?_ ?_ ?_
  · intro k hk
    by_cases hkp : k = p
    · subst hkp; have h := R.st _ hk; first | (simp [leN, sm]; done) | (simp [leN, sm]; omega) | (simp [leN, sm]; exact h) | (simp_all [leN, sm]; done) | (simp_all [leN, sm]; omega)
    · have h := R.st k hk; simpa [leN, sm, hkp] using h
  · intro k hk
    by_cases hkp : k = p
    · subst hkp; have h := R.lt _ hk; first | (simp [leN, sm]; done) | (simp [leN, sm]; omega) | (simp [leN, sm]; exact h) | (simp_all [leN, sm]; done) | (simp_all [leN, sm]; omega)
    · have h := R.lt k hk; simpa [leN, sm, hkp] using h
  · intro k hk
    by_cases hkp : k = p
    · subst hkp; have h := R.sk _ hk; first | (simp [leN, sm]; done) | (simp [leN, sm]; omega) | (simp [leN, sm]; exact h) | (simp_all [leN, sm]; done) | (simp_all [leN, sm]; omega)
    · have h := R.sk k hk; simpa [leN, sm, hkp] using h
  · intro k hk
    by_cases hkp : k = p
    · subst hkp; have h := R.e4 _ hk; first | (simp [leN, sm]; done) | (simp [leN, sm]; omega) | (simp [leN, sm]; exact h) | (simp_all [leN, sm]; done) | (simp_all [leN, sm]; omega)
    · have h := R.e4 k hk; simpa [leN, sm, hkp] using h
  · intro k hk
    by_cases hkp : k = p
    · subst hkp; have h := R.e5 _ hk; first | (simp [leN, sm]; done) | (simp [leN, sm]; omega) | (simp [leN, sm]; exact h) | (simp_all [leN, sm]; done) | (simp_all [leN, sm]; omega)
    · have h := R.e5 k hk; simpa [leN, sm, hkp] using h
  · intro k hk
    by_cases hkp : k = p
    · subst hkp; have h := R.sn _ hk; first | (simp [leN, sm]; done) | (simp [leN, sm]; omega) | (simp [leN, sm]; exact h) | (simp_all [leN, sm]; done) | (simp_all [leN, sm]; omega)
    · have h := R.sn k hk; simpa [leN, sm, hkp] using h
  · intro k hk; have h := R.vn k hk; simpa [leN, sm] using h
  · intro k hk; have h := R.sg k hk; simpa [leN, sm] using h
  · have h := R.tm; simpa [leN, sm] using h
  · exact R.nd
  · intro k hk; have h := R.ql k hk; simpa [leN, sm] using h
  · intro k hk; have h := R.qt k hk; simpa [leN, sm] using h
  · intro k hk; have h := R.ws k hk; simpa [leN, sm] using h
  · first | omega | (simp at *; omega)
  · first | omega | (simp at *; omega)
  · first | omega | (simp at *; omega)
  · first | omega | (simp at *; omega)
  · first | omega | (simp at *; omega)
  · first | omega | (simp at *; omega)
  · first | omega | (simp at *; omega)
theorem IV.wai {d e : Nat} {m : Nat → Nat → Nat} {Q : List Nat} {o : Nat} (R : IV d e m Q)  : IV d e (waN m o) Q := by
  have ec : con (waN m o) = con m := con_congr (fun i _ => by simp [waN, sm])
  have es7 : n8 ((waN m o) 7) = n8 (m 7) := n8_congr (fun i _ => by simp [waN, sm])
  have es9 : n8 ((waN m o) 9) = n8 (m 9) := n8_congr (fun i _ => by simp [waN, sm])
  have es5 : n8 ((waN m o) 5) = n8 (m 5) := n8_congr (fun i _ => by simp [waN, sm])
  have a0 : (waN m o) 15 0 = (waN m o) 15 0 := rfl
  conv at a0 => rhs; simp [waN, sm]
  have a1 : (waN m o) 15 1 = (waN m o) 15 1 := rfl
  conv at a1 => rhs; simp [waN, sm]
  have a2 : (waN m o) 15 2 = (waN m o) 15 2 := rfl
  conv at a2 => rhs; simp [waN, sm]
  have a3 : (waN m o) 15 3 = (waN m o) 15 3 := rfl
  conv at a3 => rhs; simp [waN, sm]
  have a4 : (waN m o) 15 4 = (waN m o) 15 4 := rfl
  conv at a4 => rhs; simp [waN, sm]
  have a5 : (waN m o) 15 5 = (waN m o) 15 5 := rfl
  conv at a5 => rhs; simp [waN, sm]
  have a6 : (waN m o) 15 6 = (waN m o) 15 6 := rfl
  conv at a6 => rhs; simp [waN, sm]
  have b1 := R.c1; have b2 := R.c2; have b3 := R.c3; have b4 := R.c4; have b5 := R.c5; have b6 := R.c6; have b7 := R.c7
  refine IV.mk ?_ ?_ ?_ ?_ ?_ ?_ ?_ ?_ ?_ ?_ ?_ ?_ ?_ ?_ ?_ ?_ ?_ ?_ ?_ ?_
  · intro k hk; have h := R.st k hk; simpa [waN, sm] using h
  · intro k hk; have h := R.lt k hk; simpa [waN, sm] using h
  · intro k hk; have h := R.sk k hk; simpa [waN, sm] using h
  · intro k hk; have h := R.e4 k hk; simpa [waN, sm] using h
  · intro k hk; have h := R.e5 k hk; simpa [waN, sm] using h
  · intro k hk; have h := R.sn k hk; simpa [waN, sm] using h
  · intro k hk; have h := R.vn k hk; simpa [waN, sm] using h
  · intro k hk; have h := R.sg k hk; simpa [waN, sm] using h
  · have h := R.tm; simpa [waN, sm] using h
  · exact R.nd
  · intro k hk; have h := R.ql k hk; simpa [waN, sm] using h
  · intro k hk; have h := R.qt k hk; simpa [waN, sm] using h
  · intro k hk; have h := R.ws k hk; simpa [waN, sm] using h
  · first | omega | (simp at *; omega)
  · first | omega | (simp at *; omega)
  · first | omega | (simp at *; omega)
  · first | omega | (simp at *; omega)
  · first | omega | (simp at *; omega)
  · first | omega | (simp at *; omega)
  · first | omega | (simp at *; omega)
theorem IV.gav {d e : Nat} {m : Nat → Nat → Nat} {Q : List Nat} {o : Nat} (R : IV d e m Q)  : IV d e (gaN m o) Q := by
  have ec : con (gaN m o) = con m := con_congr (fun i _ => by simp [gaN, sm])
  have es7 : n8 ((gaN m o) 7) = n8 (m 7) := n8_congr (fun i _ => by simp [gaN, sm])
  have es9 : n8 ((gaN m o) 9) = n8 (m 9) := n8_congr (fun i _ => by simp [gaN, sm])
  have es5 : n8 ((gaN m o) 5) = n8 (m 5) := n8_congr (fun i _ => by simp [gaN, sm])
  have a0 : (gaN m o) 15 0 = (gaN m o) 15 0 := rfl
  conv at a0 => rhs; simp [gaN, sm]
  have a1 : (gaN m o) 15 1 = (gaN m o) 15 1 := rfl
  conv at a1 => rhs; simp [gaN, sm]
  have a2 : (gaN m o) 15 2 = (gaN m o) 15 2 := rfl
  conv at a2 => rhs; simp [gaN, sm]
  have a3 : (gaN m o) 15 3 = (gaN m o) 15 3 := rfl
  conv at a3 => rhs; simp [gaN, sm]
  have a4 : (gaN m o) 15 4 = (gaN m o) 15 4 := rfl
  conv at a4 => rhs; simp [gaN, sm]
  have a5 : (gaN m o) 15 5 = (gaN m o) 15 5 := rfl
  conv at a5 => rhs; simp [gaN, sm]
  have a6 : (gaN m o) 15 6 = (gaN m o) 15 6 := rfl
  conv at a6 => rhs; simp [gaN, sm]
  have b1 := R.c1; have b2 := R.c2; have b3 := R.c3; have b4 := R.c4; have b5 := R.c5; have b6 := R.c6; have b7 := R.c7
  refine IV.mk ?_ ?_ ?_ ?_ ?_ ?_ ?_ ?_ ?_ ?_ ?_ ?_ ?_ ?_ ?_ ?_ ?_ ?_ ?_ ?_
  · intro k hk; have h := R.st k hk; simpa [gaN, sm] using h
  · intro k hk; have h := R.lt k hk; simpa [gaN, sm] using h
  · intro k hk; have h := R.sk k hk; simpa [gaN, sm] using h
  · intro k hk; have h := R.e4 k hk; simpa [gaN, sm] using h
  · intro k hk; have h := R.e5 k hk; simpa [gaN, sm] using h
  · intro k hk; have h := R.sn k hk; simpa [gaN, sm] using h
  · intro k hk; have h := R.vn k hk; simpa [gaN, sm] using h
  · intro k hk; have h := R.sg k hk; simpa [gaN, sm] using h
  · have h := R.tm; simpa [gaN, sm] using h
  · exact R.nd
  · intro k hk; have h := R.ql k hk; simpa [gaN, sm] using h
  · intro k hk; have h := R.qt k hk; simpa [gaN, sm] using h
  · intro k hk; have h := R.ws k hk; simpa [gaN, sm] using h
  · first | omega | (simp at *; omega)
  · first | omega | (simp at *; omega)
  · first | omega | (simp at *; omega)
  · first | omega | (simp at *; omega)
  · first | omega | (simp at *; omega)
  · first | omega | (simp at *; omega)
  · first | omega | (simp at *; omega)
theorem IV.tick {d e : Nat} {m : Nat → Nat → Nat} {Q : List Nat} (R : IV d e m Q) (ht : m 0 0 + 1 < 100000) : IV d e (tiN m) Q := by
  have ec : con (tiN m) = con m := con_congr (fun i _ => by simp [tiN, sm])
  have es7 : n8 ((tiN m) 7) = n8 (m 7) := n8_congr (fun i _ => by simp [tiN, sm])
  have es9 : n8 ((tiN m) 9) = n8 (m 9) := n8_congr (fun i _ => by simp [tiN, sm])
  have es5 : n8 ((tiN m) 5) = n8 (m 5) := n8_congr (fun i _ => by simp [tiN, sm])
  have a0 : (tiN m) 15 0 = (tiN m) 15 0 := rfl
  conv at a0 => rhs; simp [tiN, sm]
  have a1 : (tiN m) 15 1 = (tiN m) 15 1 := rfl
  conv at a1 => rhs; simp [tiN, sm]
  have a2 : (tiN m) 15 2 = (tiN m) 15 2 := rfl
  conv at a2 => rhs; simp [tiN, sm]
  have a3 : (tiN m) 15 3 = (tiN m) 15 3 := rfl
  conv at a3 => rhs; simp [tiN, sm]
  have a4 : (tiN m) 15 4 = (tiN m) 15 4 := rfl
  conv at a4 => rhs; simp [tiN, sm]
  have a5 : (tiN m) 15 5 = (tiN m) 15 5 := rfl
  conv at a5 => rhs; simp [tiN, sm]
  have a6 : (tiN m) 15 6 = (tiN m) 15 6 := rfl
  conv at a6 => rhs; simp [tiN, sm]
  have b1 := R.c1; have b2 := R.c2; have b3 := R.c3; have b4 := R.c4; have b5 := R.c5; have b6 := R.c6; have b7 := R.c7
  refine IV.mk ?_ ?_ ?_ ?_ ?_ ?_ ?_ ?_ ?_ ?_ ?_ ?_ ?_ ?_ ?_ ?_ ?_ ?_ ?_ ?_
  · intro k hk; have h := R.st k hk; simpa [tiN, sm] using h
  · intro k hk; have h := R.lt k hk; simpa [tiN, sm] using h
  · intro k hk; have h := R.sk k hk; simpa [tiN, sm] using h
  · intro k hk; have h := R.e4 k hk; simpa [tiN, sm] using h
  · intro k hk; have h := R.e5 k hk; simpa [tiN, sm] using h
  · intro k hk g; have h := R.sn k hk (by simpa [tiN, sm] using g); simp [tiN, sm]; omega
  · intro k hk; have h := R.vn k hk; simpa [tiN, sm] using h
  · intro k hk; have h := R.sg k hk; simpa [tiN, sm] using h
  · simpa [tiN, sm] using ht
  · exact R.nd
  · intro k hk; have h := R.ql k hk; simpa [tiN, sm] using h
  · intro k hk; have h := R.qt k hk; simpa [tiN, sm] using h
  · intro k hk; have h := R.ws k hk; simp [tiN, sm]; omega
  · first | omega | (simp at *; omega)
  · first | omega | (simp at *; omega)
  · first | omega | (simp at *; omega)
  · first | omega | (simp at *; omega)
  · first | omega | (simp at *; omega)
  · first | omega | (simp at *; omega)
  · first | omega | (simp at *; omega)
theorem IV.back {d e : Nat} {m : Nat → Nat → Nat} {Q : List Nat} {p : Nat} (R : IV d e m Q) (hp : p < 8) (h2 : m 2 p = 2) : IV d e (baN m p) Q := by
  have ec := con_upd (m := m) (m1 := baN m p) hp (fun i hi => by simp [baN, sm, hi])
  have ec2 : (baN m p) 2 p = 1 := by simp [baN, sm]
  rw [ec2] at ec
  simp [h2] at ec
  have es7 : n8 ((baN m p) 7) = n8 (m 7) := n8_congr (fun i _ => by simp [baN, sm])
  have es9 : n8 ((baN m p) 9) = n8 (m 9) := n8_congr (fun i _ => by simp [baN, sm])
  have es5 : n8 ((baN m p) 5) = n8 (m 5) := n8_congr (fun i _ => by simp [baN, sm])
  have a0 : (baN m p) 15 0 = (baN m p) 15 0 := rfl
  conv at a0 => rhs; simp [baN, sm]
  have a1 : (baN m p) 15 1 = (baN m p) 15 1 := rfl
  conv at a1 => rhs; simp [baN, sm]
  have a2 : (baN m p) 15 2 = (baN m p) 15 2 := rfl
  conv at a2 => rhs; simp [baN, sm]
  have a3 : (baN m p) 15 3 = (baN m p) 15 3 := rfl
  conv at a3 => rhs; simp [baN, sm]
  have a4 : (baN m p) 15 4 = (baN m p) 15 4 := rfl
  conv at a4 => rhs; simp [baN, sm]
  have a5 : (baN m p) 15 5 = (baN m p) 15 5 := rfl
  conv at a5 => rhs; simp [baN, sm]
  have a6 : (baN m p) 15 6 = (baN m p) 15 6 := rfl
  conv at a6 => rhs; simp [baN, sm]
  have b1 := R.c1; have b2 := R.c2; have b3 := R.c3; have b4 := R.c4; have b5 := R.c5; have b6 := R.c6; have b7 := R.c7
  refine IV.mk ?_ ?_ ?_ ?_ ?_ ?_ ?_ ?_ ?_ ?_ ?_ ?_ ?_ ?_ ?_ ?_ ?_ ?_ ?_ ?_
  · intro k hk
    by_cases hkp : k = p
    · subst hkp; have h := R.st _ hk; first | (simp [baN, sm]; done) | (simp [baN, sm]; omega) | (simp [baN, sm]; exact h) | (simp_all [baN, sm]; done) | (simp_all [baN, sm]; omega)
    · have h := R.st k hk; simpa [baN, sm, hkp] using h
  · intro k hk
    by_cases hkp : k = p
    · subst hkp; have h := R.lt _ hk; first | (simp [baN, sm]; done) | (simp [baN, sm]; omega) | (simp [baN, sm]; exact h) | (simp_all [baN, sm]; done) | (simp_all [baN, sm]; omega)
    · have h := R.lt k hk; simpa [baN, sm, hkp] using h
  · intro k hk
    by_cases hkp : k = p
    · subst hkp; have h := R.sk _ hk; first | (simp [baN, sm]; done) | (simp [baN, sm]; omega) | (simp [baN, sm]; exact h) | (simp_all [baN, sm]; done) | (simp_all [baN, sm]; omega)
    · have h := R.sk k hk; simpa [baN, sm, hkp] using h
  · intro k hk
    by_cases hkp : k = p
    · subst hkp; have h := R.e4 _ hk; first | (simp [baN, sm]; done) | (simp [baN, sm]; omega) | (simp [baN, sm]; exact h) | (simp_all [baN, sm]; done) | (simp_all [baN, sm]; omega)
    · have h := R.e4 k hk; simpa [baN, sm, hkp] using h
  · intro k hk
    by_cases hkp : k = p
    · subst hkp; have h := R.e5 _ hk; first | (simp [baN, sm]; done) | (simp [baN, sm]; omega) | (simp [baN, sm]; exact h) | (simp_all [baN, sm]; done) | (simp_all [baN, sm]; omega)
    · have h := R.e5 k hk; simpa [baN, sm, hkp] using h
  · intro k hk
    by_cases hkp : k = p
    · subst hkp; have h := R.sn _ hk; first | (simp [baN, sm]; done) | (simp [baN, sm]; omega) | (simp [baN, sm]; exact h) | (simp_all [baN, sm]; done) | (simp_all [baN, sm]; omega)
    · have h := R.sn k hk; simpa [baN, sm, hkp] using h
  · intro k hk; have h := R.vn k hk; simpa [baN, sm] using h
  · intro k hk; have h := R.sg k hk; simpa [baN, sm] using h
  · have h := R.tm; simpa [baN, sm] using h
  · exact R.nd
  · intro k hk; have h := R.ql k hk; simpa [baN, sm] using h
  · intro k hk; have h := R.qt k hk; simpa [baN, sm] using h
  · intro k hk; have h := R.ws k hk; simpa [baN, sm] using h
  · first | omega | (simp at *; omega)
  · first | omega | (simp at *; omega)
  · first | omega | (simp at *; omega)
  · first | omega | (simp at *; omega)
  · first | omega | (simp at *; omega)
  · first | omega | (simp at *; omega)
  · first | omega | (simp at *; omega)
theorem IV.sick {d e : Nat} {m : Nat → Nat → Nat} {Q : List Nat} {p : Nat} (R : IV d e m Q) (hp : p < 8) (h2 : m 2 p ≠ 0) : IV d e (siN m p) Q := by
  have ec : con (siN m p) = con m := con_congr (fun i _ => by simp [siN, sm])
  have es7 : n8 ((siN m p) 7) = n8 (m 7) := n8_congr (fun i _ => by simp [siN, sm])
  have es9 : n8 ((siN m p) 9) = n8 (m 9) := n8_congr (fun i _ => by simp [siN, sm])
  have es5 : n8 ((siN m p) 5) = n8 (m 5) := n8_congr (fun i _ => by simp [siN, sm])
  have a0 : (siN m p) 15 0 = (siN m p) 15 0 := rfl
  conv at a0 => rhs; simp [siN, sm]
  have a1 : (siN m p) 15 1 = (siN m p) 15 1 := rfl
  conv at a1 => rhs; simp [siN, sm]
  have a2 : (siN m p) 15 2 = (siN m p) 15 2 := rfl
  conv at a2 => rhs; simp [siN, sm]
  have a3 : (siN m p) 15 3 = (siN m p) 15 3 := rfl
  conv at a3 => rhs; simp [siN, sm]
  have a4 : (siN m p) 15 4 = (siN m p) 15 4 := rfl
  conv at a4 => rhs; simp [siN, sm]
  have a5 : (siN m p) 15 5 = (siN m p) 15 5 := rfl
  conv at a5 => rhs; simp [siN, sm]
  have a6 : (siN m p) 15 6 = (siN m p) 15 6 := rfl
  conv at a6 => rhs; simp [siN, sm]
  have b1 := R.c1; have b2 := R.c2; have b3 := R.c3; have b4 := R.c4; have b5 := R.c5; have b6 := R.c6; have b7 := R.c7
  refine IV.mk ?_ ?_ ?_ ?_ ?_ ?_ ?_ ?_ ?_ ?_ ?_ ?_ ?_ ?_ ?_ ?_ ?_ ?_ ?_ ?_
  · intro k hk
    by_cases hkp : k = p
    · subst hkp; have h := R.st _ hk; first | (simp [siN, sm]; done) | (simp [siN, sm]; omega) | (simp [siN, sm]; exact h) | (simp_all [siN, sm]; done) | (simp_all [siN, sm]; omega)
    · have h := R.st k hk; simpa [siN, sm, hkp] using h
  · intro k hk
    by_cases hkp : k = p
    · subst hkp; have h := R.lt _ hk; first | (simp [siN, sm]; done) | (simp [siN, sm]; omega) | (simp [siN, sm]; exact h) | (simp_all [siN, sm]; done) | (simp_all [siN, sm]; omega)
    · have h := R.lt k hk; simpa [siN, sm, hkp] using h
  · intro k hk
    by_cases hkp : k = p
    · subst hkp; have h := R.sk _ hk; first | (simp [siN, sm]; done) | (simp [siN, sm]; omega) | (simp [siN, sm]; exact h) | (simp_all [siN, sm]; done) | (simp_all [siN, sm]; omega)
    · have h := R.sk k hk; simpa [siN, sm, hkp] using h
  · intro k hk
    by_cases hkp : k = p
    · subst hkp; have h := R.e4 _ hk; first | (simp [siN, sm]; done) | (simp [siN, sm]; omega) | (simp [siN, sm]; exact h) | (simp_all [siN, sm]; done) | (simp_all [siN, sm]; omega)
    · have h := R.e4 k hk; simpa [siN, sm, hkp] using h
  · intro k hk
    by_cases hkp : k = p
    · subst hkp; have h := R.e5 _ hk; first | (simp [siN, sm]; done) | (simp [siN, sm]; omega) | (simp [siN, sm]; exact h) | (simp_all [siN, sm]; done) | (simp_all [siN, sm]; omega)
    · have h := R.e5 k hk; simpa [siN, sm, hkp] using h
  · intro k hk
    by_cases hkp : k = p
    · subst hkp; have h := R.sn _ hk; first | (simp [siN, sm]; done) | (simp [siN, sm]; omega) | (simp [siN, sm]; exact h) | (simp_all [siN, sm]; done) | (simp_all [siN, sm]; omega)
    · have h := R.sn k hk; simpa [siN, sm, hkp] using h
  · intro k hk; have h := R.vn k hk; simpa [siN, sm] using h
  · intro k hk; have h := R.sg k hk; simpa [siN, sm] using h
  · have h := R.tm; simpa [siN, sm] using h
  · exact R.nd
  · intro k hk; have h := R.ql k hk; simpa [siN, sm] using h
  · intro k hk; have h := R.qt k hk; simpa [siN, sm] using h
  · intro k hk; have h := R.ws k hk; simpa [siN, sm] using h
  · first | omega | (simp at *; omega)
  · first | omega | (simp at *; omega)
  · first | omega | (simp at *; omega)
  · first | omega | (simp at *; omega)
  · first | omega | (simp at *; omega)
  · first | omega | (simp at *; omega)
  · first | omega | (simp at *; omega)
theorem IV.seti {d e : Nat} {m : Nat → Nat → Nat} {Q : List Nat} {k v : Nat} (R : IV d e m Q) (hk : k < 9) (hv : sLo k ≤ v ∧ v ≤ sHi k) : IV d e (sm m 1 k v) Q := by
  have ec : con (sm m 1 k v) = con m := con_congr (fun i _ => by simp [sm])
  have es7 : n8 ((sm m 1 k v) 7) = n8 (m 7) := n8_congr (fun i _ => by simp [sm])
  have es9 : n8 ((sm m 1 k v) 9) = n8 (m 9) := n8_congr (fun i _ => by simp [sm])
  have es5 : n8 ((sm m 1 k v) 5) = n8 (m 5) := n8_congr (fun i _ => by simp [sm])
  have a0 : (sm m 1 k v) 15 0 = (sm m 1 k v) 15 0 := rfl
  conv at a0 => rhs; simp [sm]
  have a1 : (sm m 1 k v) 15 1 = (sm m 1 k v) 15 1 := rfl
  conv at a1 => rhs; simp [sm]
  have a2 : (sm m 1 k v) 15 2 = (sm m 1 k v) 15 2 := rfl
  conv at a2 => rhs; simp [sm]
  have a3 : (sm m 1 k v) 15 3 = (sm m 1 k v) 15 3 := rfl
  conv at a3 => rhs; simp [sm]
  have a4 : (sm m 1 k v) 15 4 = (sm m 1 k v) 15 4 := rfl
  conv at a4 => rhs; simp [sm]
  have a5 : (sm m 1 k v) 15 5 = (sm m 1 k v) 15 5 := rfl
  conv at a5 => rhs; simp [sm]
  have a6 : (sm m 1 k v) 15 6 = (sm m 1 k v) 15 6 := rfl
  conv at a6 => rhs; simp [sm]
  have b1 := R.c1; have b2 := R.c2; have b3 := R.c3; have b4 := R.c4; have b5 := R.c5; have b6 := R.c6; have b7 := R.c7
  refine IV.mk ?_ ?_ ?_ ?_ ?_ ?_ ?_ ?_ ?_ ?_ ?_ ?_ ?_ ?_ ?_ ?_ ?_ ?_ ?_ ?_
  · intro k hk; have h := R.st k hk; simpa [sm] using h
  · intro k hk; have h := R.lt k hk; simpa [sm] using h
  · intro k hk; have h := R.sk k hk; simpa [sm] using h
  · intro k hk; have h := R.e4 k hk; simpa [sm] using h
  · intro k hk; have h := R.e5 k hk; simpa [sm] using h
  · intro k hk; have h := R.sn k hk; simpa [sm] using h
  · intro k hk; have h := R.vn k hk; simpa [sm] using h
  · intro j hj
    by_cases hjk : j = k
    · subst hjk; simpa [sm] using hv
    · have h := R.sg j hj; simpa [sm, hjk] using h
  · have h := R.tm; simpa [sm] using h
  · exact R.nd
  · intro k hk; have h := R.ql k hk; simpa [sm] using h
  · intro k hk; have h := R.qt k hk; simpa [sm] using h
  · intro k hk; have h := R.ws k hk; simpa [sm] using h
  · first | omega | (simp at *; omega)
  · first | omega | (simp at *; omega)
  · first | omega | (simp at *; omega)
  · first | omega | (simp at *; omega)
  · first | omega | (simp at *; omega)
  · first | omega | (simp at *; omega)
  · first | omega | (simp at *; omega)
theorem IV.van {d e : Nat} {m : Nat → Nat → Nat} {Q : List Nat} {o v : Nat} (R : IV d e m Q) (hv : v ≤ 1) (hn : v = 0 ∨ o ∉ Q) : IV d e (sm m 8 o v) Q := by
  have ec : con (sm m 8 o v) = con m := con_congr (fun i _ => by simp [sm])
  have es7 : n8 ((sm m 8 o v) 7) = n8 (m 7) := n8_congr (fun i _ => by simp [sm])
  have es9 : n8 ((sm m 8 o v) 9) = n8 (m 9) := n8_congr (fun i _ => by simp [sm])
  have es5 : n8 ((sm m 8 o v) 5) = n8 (m 5) := n8_congr (fun i _ => by simp [sm])
  have a0 : (sm m 8 o v) 15 0 = (sm m 8 o v) 15 0 := rfl
  conv at a0 => rhs; simp [sm]
  have a1 : (sm m 8 o v) 15 1 = (sm m 8 o v) 15 1 := rfl
  conv at a1 => rhs; simp [sm]
  have a2 : (sm m 8 o v) 15 2 = (sm m 8 o v) 15 2 := rfl
  conv at a2 => rhs; simp [sm]
  have a3 : (sm m 8 o v) 15 3 = (sm m 8 o v) 15 3 := rfl
  conv at a3 => rhs; simp [sm]
  have a4 : (sm m 8 o v) 15 4 = (sm m 8 o v) 15 4 := rfl
  conv at a4 => rhs; simp [sm]
  have a5 : (sm m 8 o v) 15 5 = (sm m 8 o v) 15 5 := rfl
  conv at a5 => rhs; simp [sm]
  have a6 : (sm m 8 o v) 15 6 = (sm m 8 o v) 15 6 := rfl
  conv at a6 => rhs; simp [sm]
  have b1 := R.c1; have b2 := R.c2; have b3 := R.c3; have b4 := R.c4; have b5 := R.c5; have b6 := R.c6; have b7 := R.c7
  refine IV.mk ?_ ?_ ?_ ?_ ?_ ?_ ?_ ?_ ?_ ?_ ?_ ?_ ?_ ?_ ?_ ?_ ?_ ?_ ?_ ?_
  · intro k hk; have h := R.st k hk; simpa [sm] using h
  · intro k hk; have h := R.lt k hk; simpa [sm] using h
  · intro k hk; have h := R.sk k hk; simpa [sm] using h
  · intro k hk; have h := R.e4 k hk; simpa [sm] using h
  · intro k hk; have h := R.e5 k hk; simpa [sm] using h
  · intro k hk; have h := R.sn k hk; simpa [sm] using h
  · intro k hk
    by_cases hkp : k = o
    · subst hkp; have h := R.vn _ hk; first | (simp [sm]; done) | (simp [sm]; omega) | (simp [sm]; exact h) | (simp_all [sm]; done) | (simp_all [sm]; omega)
    · have h := R.vn k hk; simpa [sm, hkp] using h
  · intro k hk; have h := R.sg k hk; simpa [sm] using h
  · have h := R.tm; simpa [sm] using h
  · exact R.nd
  · intro k hk; have h := R.ql k hk; simpa [sm] using h
  · intro k hk; have h := R.qt k hk
    by_cases hko : k = o
    · subst hko; rcases hn with hn | hn
      · simp [sm, hn]
      · exact absurd hk hn
    · simpa [sm, hko] using h
  · intro k hk; have h := R.ws k hk; simpa [sm] using h
  · first | omega | (simp at *; omega)
  · first | omega | (simp at *; omega)
  · first | omega | (simp at *; omega)
  · first | omega | (simp at *; omega)
  · first | omega | (simp at *; omega)
  · first | omega | (simp at *; omega)
  · first | omega | (simp at *; omega)
theorem IV.enq {d e : Nat} {m : Nat → Nat → Nat} {Q : List Nat} {o : Nat} (R : IV d e m Q) (ho : o < 8) (hn : o ∉ Q) (hq : m 8 o = 0) (h7 : m 15 6 + Q.length + 1 ≤ 100000) : IV d e (sm m 12 o (m 0 0)) (Q ++ [o]) := by
  have ec : con (sm m 12 o (m 0 0)) = con m := con_congr (fun i _ => by simp [sm])
  have es7 : n8 ((sm m 12 o (m 0 0)) 7) = n8 (m 7) := n8_congr (fun i _ => by simp [sm])
  have es9 : n8 ((sm m 12 o (m 0 0)) 9) = n8 (m 9) := n8_congr (fun i _ => by simp [sm])
  have es5 : n8 ((sm m 12 o (m 0 0)) 5) = n8 (m 5) := n8_congr (fun i _ => by simp [sm])
  have a0 : (sm m 12 o (m 0 0)) 15 0 = (sm m 12 o (m 0 0)) 15 0 := rfl
  conv at a0 => rhs; simp [sm]
  have a1 : (sm m 12 o (m 0 0)) 15 1 = (sm m 12 o (m 0 0)) 15 1 := rfl
  conv at a1 => rhs; simp [sm]
  have a2 : (sm m 12 o (m 0 0)) 15 2 = (sm m 12 o (m 0 0)) 15 2 := rfl
  conv at a2 => rhs; simp [sm]
  have a3 : (sm m 12 o (m 0 0)) 15 3 = (sm m 12 o (m 0 0)) 15 3 := rfl
  conv at a3 => rhs; simp [sm]
  have a4 : (sm m 12 o (m 0 0)) 15 4 = (sm m 12 o (m 0 0)) 15 4 := rfl
  conv at a4 => rhs; simp [sm]
  have a5 : (sm m 12 o (m 0 0)) 15 5 = (sm m 12 o (m 0 0)) 15 5 := rfl
  conv at a5 => rhs; simp [sm]
  have a6 : (sm m 12 o (m 0 0)) 15 6 = (sm m 12 o (m 0 0)) 15 6 := rfl
  conv at a6 => rhs; simp [sm]
  have b1 := R.c1; have b2 := R.c2; have b3 := R.c3; have b4 := R.c4; have b5 := R.c5; have b6 := R.c6; have b7 := R.c7
  refine IV.mk ?_ ?_ ?_ ?_ ?_ ?_ ?_ ?_ ?_ ?_ ?_ ?_ ?_ ?_ ?_ ?_ ?_ ?_ ?_ ?_
  · intro k hk; have h := R.st k hk; simpa [sm] using h
  · intro k hk; have h := R.lt k hk; simpa [sm] using h
  · intro k hk; have h := R.sk k hk; simpa [sm] using h
  · intro k hk; have h := R.e4 k hk; simpa [sm] using h
  · intro k hk; have h := R.e5 k hk; simpa [sm] using h
  · intro k hk; have h := R.sn k hk; simpa [sm] using h
  · intro k hk; have h := R.vn k hk; simpa [sm] using h
  · intro k hk; have h := R.sg k hk; simpa [sm] using h
  · have h := R.tm; simpa [sm] using h
  · exact List.nodup_append.mpr ⟨R.nd, List.pairwise_singleton _ _, fun a ha b hb c => hn (by rw [List.mem_singleton.mp hb] at c; exact c ▸ ha)⟩
  · intro k hk; rcases List.mem_append.mp hk with h | h
    · exact R.ql k h
    · rw [List.mem_singleton.mp h]; exact ho
  · intro k hk; rcases List.mem_append.mp hk with h | h
    · have h := R.qt k h; simpa [sm] using h
    · rw [List.mem_singleton.mp h]; simpa [sm] using hq
  · intro k hk; by_cases hko : k = o
    · subst hko; simp [sm]
    · rcases List.mem_append.mp hk with h | h
      · have h := R.ws k h; simpa [sm, hko] using h
      · exact absurd (List.mem_singleton.mp h) hko
  · first | omega | (simp at *; omega)
  · first | omega | (simp at *; omega)
  · first | omega | (simp at *; omega)
  · first | omega | (simp at *; omega)
  · first | omega | (simp at *; omega)
  · first | omega | (simp at *; omega)
  · rw [List.length_append, List.length_singleton]; omega
theorem IV.weak {d e d' e' : Nat} {m : Nat → Nat → Nat} {Q : List Nat} (R : IV d e m Q) (hd : d ≤ d') (he : e' ≤ e) : IV d' e' m Q :=
  IV.mk R.st R.lt R.sk R.e4 R.e5 R.sn R.vn R.sg R.tm R.nd R.ql R.qt R.ws R.c1 R.c2 (by have := R.c3; omega) R.c4 R.c5 (by have := R.c6; omega) R.c7
theorem IV.lea {d e : Nat} {m : Nat → Nat → Nat} {Q : List Nat} (R : IV d e m Q) {i : Nat} (hi : i < Q.length) : IV d e m (Q.eraseIdx i) :=
  IV.mk R.st R.lt R.sk R.e4 R.e5 R.sn R.vn R.sg R.tm (R.nd.eraseIdx i) (fun o ho => R.ql o (List.mem_of_mem_eraseIdx ho)) (fun o ho => R.qt o (List.mem_of_mem_eraseIdx ho)) (fun o ho => R.ws o (List.mem_of_mem_eraseIdx ho)) R.c1 R.c2 R.c3 R.c4 R.c5 R.c6 (by have := R.c7; rw [List.length_eraseIdx_of_lt hi]; omega)
theorem IV.len8 {d e : Nat} {m : Nat → Nat → Nat} {Q : List Nat} (R : IV d e m Q) : Q.length ≤ 8 := r_pig 8 Q R.nd R.ql
