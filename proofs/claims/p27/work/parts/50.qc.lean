/-! ===== p27: the law's pass ===== -/
theorem CH.lw {us : Nat → Nat → Nat → Int32} {ms : Nat → Nat → Nat → Nat} {Qs : Nat → List Nat} {gs : Nat → Int32} {N : Nat} (C : CH us ms Qs gs N) : ∀ i, i ≤ N → ms i 15 6 + (Qs i).length ≤ ms 0 15 6 + (Qs 0).length
  | 0, _ => Nat.le_refl _
  | i + 1, h => by
    have a := CH.lw C i (by omega)
    have b := (C.ur i (by omega)).lw
    omega
theorem l_pass {e : Nat} {P : Nat → Nat → Int32} {nw : Int32} {m : Nat → Nat → Nat} {Q : List Nat} (I : TI e P nw m Q) (he : e ≤ 90) {U : Nat} (hU1 : 1 ≤ U) (hU6 : U ≤ 6) {k : Nat} (hk : k < 8) (T : Nat → Nat → Int32) (S : Nat → Nat → Nat → Int32) (hz : Int32) (pa wt : Nat → Int32) : ∃ P' T' S' nw' hz' pa' wt' m' Q', fL_pass (Int32.ofNat U) (Int32.ofNat k) P T S nw hz pa wt = some (1, P', T', S', nw', hz', pa', wt') ∧ TI (e + 1) P' nw' m' Q' ∧ ∀ h, fL_holds P' h = some 1 := by
  have tb := I.tb
  obtain ⟨us, ms, Qs, gs, e0, e1, e2, _, C⟩ := q_chain I.ab I.iv 100 (by omega)
  subst e0
  subst e1
  subst e2
  have A := C.ab 0 (Nat.zero_le _)
  have R := C.iv 0 (Nat.zero_le _)
  have A1 := C.ab U (by omega)
  have R1 := C.iv U (by omega)
  have tmU := C.tm U (by omega)
  have lwU := C.lw U (by omega)
  have lb := I.lb
  have l8 := R.len8
  have s8 : ms 0 1 8 ≤ 99 := (R.sg 8 (by decide)).2
  obtain ⟨g, hg⟩ := q_pass C (k := 0) (M := U) (by omega) (by omega)
  rw [Nat.zero_add] at hg
  have ip := fun T pa => q_ip A R (U := U) (by omega) hg A1 R1 T pa
  obtain ⟨T1, p1, i0⟩ := (ip T pa).1
  obtain ⟨T2, p2, i1⟩ := (ip T1 p1).2.1
  obtain ⟨T3, p3, i2⟩ := (ip T2 p2).2.2.1
  obtain ⟨T4, p4, i3⟩ := (ip T3 p3).2.2.2
  obtain ⟨due, T5, w5, wf, ft⟩ := q_due C (by decide) I.wl hk T4 wt
  obtain ⟨sv, sv1, sv2⟩ := q_sv A R I.nk S hz
  -- the end
  obtain ⟨V, rfl⟩ : ∃ V, U = V + 1 := ⟨U - 1, by omega⟩
  have UU := C.ur V (by omega)
  have tmV := C.tm V (by omega)
  have wlU : ∀ o, o ∈ Qs (V + 1) → ms (V + 1) 0 0 - ms (V + 1) 12 o < ms (V + 1) 1 8 := fun o ho => by
    have w := (UU.st o ho).2
    rw [UU.t, UU.r12, UU.r1]
    exact w
  have ti : TI (e + 1) (us (V + 1)) sv.2.1 (ms (V + 1)) (Qs (V + 1)) := TI.mk A1 R1 UU.qu wlU (by omega) (by rw [tmU.1]; omega) sv2
  have hold : ∀ h, fL_holds (us (V + 1)) h = some 1 := fun h => q_holds A1 R1 h UU.hl UU.hi wlU
  have ps : fX3_pass (Int32.ofNat (V + 1)) (us 0) S nw hz = some (Sum.inr (g, us (V + 1), sv.1, sv.2.1, sv.2.2)) := by
    unfold fX3_pass
    have b1 : ¬ Int32.ofNat (V + 1) < 1 := fun z => by have := (r_lt (b := 1) (by omega) (by decide)).mp z; omega
    have b2 : Int32.ofNat (V + 1) ≤ 99 := (r_le (b := 99) (by omega) (by decide)).mpr (by omega)
    have b3 : fX2_canPassUnits (Int32.ofNat (V + 1)) (us 0) = some 1 := by
      unfold fX2_canPassUnits
      rw [A.c 0 0 (by decide) (by decide), show (9999 : Int32) - Int32.ofNat (ms 0 0 0) = Int32.ofNat (9999 - ms 0 0 0) from q_tsub (a := 9999) (by omega), if_neg (fun z => by have := (r_lt (by omega) (by omega)).mp z; omega)]
    rw [if_neg b1, if_pos b2, b3, r_bs, if_neg r_10, sv1, r_bs, hg, r_bs]
  have eD : Int32.ofNat (ms (V + 1) 15 1) = Int32.ofNat (ms 0 15 1) + (us (V + 1) 15 1 - us 0 15 1) := by
    rw [A1.c 15 1 (by decide) (by decide), A.c 15 1 (by decide) (by decide), Int32.add_comm, Int32.sub_add_cancel]
  obtain ⟨r2, ow2, h2⟩ := q_ow2 A R hk
  obtain ⟨r3, ow2', h2'⟩ := q_ow2 A1 R1 hk
  have l81 := R1.len8
  have in3 : k ∈ Qs (V + 1) → ¬ r3 < 0 := fun hm => by
    rcases h2' with ⟨_, z⟩ | ⟨i, hi, z, _⟩
    · exact absurd hm z
    · rw [z]; exact r_n0 (by omega)
  have out3 : k ∉ Qs (V + 1) → r3 = -1 := fun hm => by
    rcases h2' with ⟨z, _⟩ | ⟨i, hi, _, z⟩
    · exact z
    · exact absurd (r_mem.mpr ⟨i, hi, z⟩) hm
  unfold fL_pass
  rw [i0, r_bs, q_el]
  dsimp only
  rw [q_ct7 A R, r_bs, q_el, i1, r_bs, q_el]
  dsimp only
  rw [i2, r_bs, q_el]
  dsimp only
  rw [i3, r_bs, q_el]
  dsimp only
  rw [wf, r_bs, q_el]
  dsimp only
  rw [ow2, r_bs, q_el, q_ite, r_bs, q_ow3 A R hk, r_bs, q_el, q_ow4 A R hk, r_bs, q_el, q_ow5 A R hk, r_bs, q_el, q_ow6 A R hk, r_bs, q_el, q_ct0 A R, r_bs, q_el, ps, r_bs, q_el]
  dsimp only
  rw [if_pos rfl, q_ct7 A1 R1, r_bs, q_el, if_pos eD, q_ct1 A1 R1, r_bs, q_el, if_pos rfl, q_ct5 A1 R1, r_bs, q_el, if_pos A1.n.symm, q_ct0 A1 R1, r_bs, q_el, if_pos (show Int32.ofNat (ms (V + 1) 0 0) = Int32.ofNat (ms 0 0 0) + Int32.ofNat (V + 1) by rw [r_a, tmU.1])]
  rcases ft with ⟨hm, hd⟩ | ⟨hm, D, d1, dj, dD, cs⟩
  · have hr2 : r2 = -1 := by
      rcases h2 with ⟨z, _⟩ | ⟨i, hi, _, z⟩
      · exact z
      · exact absurd (r_mem.mpr ⟨i, hi, z⟩) hm
    have o := C.out hm (V + 1) (by omega)
    rw [Nat.zero_add] at o
    rw [if_pos (show (if r2 < 0 then (0 : Int32) else 1) = 0 by rw [hr2]; decide), if_pos hd, q_ow4 A1 R1 hk, r_bs, q_el, if_pos (by rw [o.2.1])]
    exact ⟨_, _, _, _, _, _, _, _, _, rfl, ti, hold⟩
  · have nr2 : ¬ r2 < 0 := by
      rcases h2 with ⟨_, z⟩ | ⟨i, hi, z, _⟩
      · exact absurd hm z
      · rw [z]; exact r_n0 (by omega)
    have wl0 := I.wl k hm
    have st8 := q_st8 A1
    rw [tmU.2.1] at st8
    have el8 := r_lt (a := ms 0 0 0 - ms 0 12 k) (b := ms 0 1 8) (by omega) (by omega)
    rw [if_neg (show ¬ (if r2 < 0 then (0 : Int32) else 1) = 0 by rw [if_neg nr2]; decide), if_pos hm, st8, r_bs, q_el, if_pos (el8.mpr wl0), r_bs, q_el, r_bs, q_tsub (Nat.le_of_lt wl0)]
    rcases cs with ⟨c1, c2, c3, c4, c5⟩ | ⟨c1, c2, c3, c4, c5⟩
    · -- served after D units
      have nd : ¬ due < 0 := by rw [c2]; exact r_n0 (by omega)
      have pd : (0 : Int32) ≤ due := by rw [c2]; exact (r_le (a := 0) (by omega) (by omega)).mpr (by omega)
      have g43 : (if due < 0 then some () else if ¬ (due < 1) then if ¬ (Int32.ofNat (ms 0 1 8 - (ms 0 0 0 - ms 0 12 k)) ≤ due) then some () else none else none : Option (Unit)) = some () := by
        rw [if_neg nd, c2, if_pos (fun z => by have := (r_lt (b := 1) (by omega) (by decide)).mp z; omega), if_pos (fun z => by have := (r_le (by omega) (by omega)).mp z; omega)]
      by_cases hD : D ≤ V + 1
      · have o := C.out dD (V + 1 - D) (by omega)
        rw [show D + (V + 1 - D) = V + 1 by omega] at o
        have x9 : Int32.ofNat (ms (V + 1) 9 k) = Int32.ofNat (ms 0 9 k) + 1 := by rw [o.2.1, c3, r_s]
        have x10 : Int32.ofNat (ms (V + 1) 10 k) = Int32.ofNat (ms 0 10 k) + 0 := by rw [o.2.2.1, c4, Int32.add_zero]
        have x11 : Int32.ofNat (ms (V + 1) 11 k) = Int32.ofNat (ms 0 11 k) + (Int32.ofNat (ms 0 0 0 - ms 0 12 k) + due) := by rw [o.2.2.2, c5, c2, r_a, r_a]
        rw [if_neg nd, if_neg (show ¬ Int32.ofNat (V + 1) < due by rw [c2]; exact fun z => by have := (r_lt (by omega) (by omega)).mp z; omega), r_bs, if_pos pd, r_bs, g43, r_bs, q_ow4 A1 R1 hk, r_bs, q_el, if_neg r_10, r_bs, if_pos x9, q_ow5 A1 R1 hk, r_bs, q_el, if_pos rfl, r_bs, if_pos x10, ow2', r_bs, q_el, if_pos (show r3 < 0 by rw [out3 o.1]; decide), r_bs, if_neg r_10, r_bs, if_pos rfl, q_ow6 A1 R1 hk, r_bs, q_el, if_neg r_10, if_pos x11]
        exact ⟨_, _, _, _, _, _, _, _, _, rfl, ti, hold⟩
      · have hin := dj (V + 1) (by omega)
        have o := (C.inn (V + 1) (by omega) hin).1
        have x9 : Int32.ofNat (ms (V + 1) 9 k) = Int32.ofNat (ms 0 9 k) + 0 := by rw [o.1, Int32.add_zero]
        have x10 : Int32.ofNat (ms (V + 1) 10 k) = Int32.ofNat (ms 0 10 k) + 0 := by rw [o.2.1, Int32.add_zero]
        have x11 : Int32.ofNat (ms (V + 1) 11 k) = Int32.ofNat (ms 0 11 k) + 0 := by rw [o.2.2, Int32.add_zero]
        rw [if_neg nd, if_pos (show Int32.ofNat (V + 1) < due by rw [c2]; exact (r_lt (by omega) (by omega)).mpr (by omega)), r_bs, if_pos pd, r_bs, g43, r_bs, q_ow4 A1 R1 hk, r_bs, q_el, if_pos rfl, r_bs, if_pos x9, q_ow5 A1 R1 hk, r_bs, q_el, if_pos rfl, r_bs, if_pos x10, ow2', r_bs, q_el, if_neg (in3 hin), r_bs, if_pos rfl, r_bs, if_pos rfl, q_ow6 A1 R1 hk, r_bs, q_el, if_pos rfl, if_pos x11]
        exact ⟨_, _, _, _, _, _, _, _, _, rfl, ti, hold⟩
    · -- gives up when its time is over
      have nd : due < 0 := by rw [c2]; decide
      have pd : ¬ (0 : Int32) ≤ due := by rw [c2]; decide
      have g43 : (if due < 0 then some () else if ¬ (due < 1) then if ¬ (Int32.ofNat (ms 0 1 8 - (ms 0 0 0 - ms 0 12 k)) ≤ due) then some () else none else none : Option (Unit)) = some () := if_pos nd
      by_cases hD : D ≤ V + 1
      · have o := C.out dD (V + 1 - D) (by omega)
        rw [show D + (V + 1 - D) = V + 1 by omega] at o
        have x9 : Int32.ofNat (ms (V + 1) 9 k) = Int32.ofNat (ms 0 9 k) + 0 := by rw [o.2.1, c3, Int32.add_zero]
        have x10 : Int32.ofNat (ms (V + 1) 10 k) = Int32.ofNat (ms 0 10 k) + 1 := by rw [o.2.2.1, c4, r_s]
        have x11 : Int32.ofNat (ms (V + 1) 11 k) = Int32.ofNat (ms 0 11 k) + 0 := by rw [o.2.2.2, c5, Int32.add_zero]
        rw [if_pos nd, r_bs, if_neg pd, if_neg (show ¬ Int32.ofNat (V + 1) < Int32.ofNat (ms 0 1 8 - (ms 0 0 0 - ms 0 12 k)) from fun z => by have := (r_lt (by omega) (by omega)).mp z; omega), r_bs, g43, r_bs, q_ow4 A1 R1 hk, r_bs, q_el, if_pos rfl, r_bs, if_pos x9, q_ow5 A1 R1 hk, r_bs, q_el, if_neg r_10, r_bs, if_pos x10, ow2', r_bs, q_el, if_pos (show r3 < 0 by rw [out3 o.1]; decide), r_bs, if_pos rfl, if_neg r_10, r_bs, if_pos rfl, q_ow6 A1 R1 hk, r_bs, q_el, if_pos rfl, if_pos x11]
        exact ⟨_, _, _, _, _, _, _, _, _, rfl, ti, hold⟩
      · have hin := dj (V + 1) (by omega)
        have o := (C.inn (V + 1) (by omega) hin).1
        have x9 : Int32.ofNat (ms (V + 1) 9 k) = Int32.ofNat (ms 0 9 k) + 0 := by rw [o.1, Int32.add_zero]
        have x10 : Int32.ofNat (ms (V + 1) 10 k) = Int32.ofNat (ms 0 10 k) + 0 := by rw [o.2.1, Int32.add_zero]
        have x11 : Int32.ofNat (ms (V + 1) 11 k) = Int32.ofNat (ms 0 11 k) + 0 := by rw [o.2.2, Int32.add_zero]
        rw [if_pos nd, r_bs, if_neg pd, if_pos (show Int32.ofNat (V + 1) < Int32.ofNat (ms 0 1 8 - (ms 0 0 0 - ms 0 12 k)) from (r_lt (by omega) (by omega)).mpr (by omega)), r_bs, g43, r_bs, q_ow4 A1 R1 hk, r_bs, q_el, if_pos rfl, r_bs, if_pos x9, q_ow5 A1 R1 hk, r_bs, q_el, if_pos rfl, r_bs, if_pos x10, ow2', r_bs, q_el, if_neg (in3 hin), r_bs, if_pos rfl, r_bs, if_pos rfl, q_ow6 A1 R1 hk, r_bs, q_el, if_pos rfl, if_pos x11]
        exact ⟨_, _, _, _, _, _, _, _, _, rfl, ti, hold⟩
