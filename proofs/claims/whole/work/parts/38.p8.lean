/-! ===== pure rows: saved states ===== -/
theorem r_fbt {f : Nat → Int32} (h : ∀ j, j < 8 → f j = 0 ∨ f j = 1) : pq_fb f = true := by
  unfold pq_fb
  refine List.all_eq_true.mpr (fun j hj => ?_)
  rcases h j (List.mem_range.mp hj) with e | e
  · rw [e]; rfl
  · rw [e]; rfl
theorem r_cpy {u : Nat → Nat → Int32} {z : Nat → Int32} (R : RI u z) : fX2_copyFrom u = some u := by
  unfold fX2_copyFrom
  rw [if_pos (r_fbt R.s4), if_pos (r_fbt R.s8)]
theorem RI.ext {u : Nat → Nat → Int32} {z z' : Nat → Int32} (R : RI u z) (hz : ∀ x, x < 114 → z' x = z x) : RI u z' := by
  refine RI.mk ?_ ?_ ?_ ?_ ?_ ?_ ?_ ?_ ?_ ?_ ?_ ?_ ?_ R.s2 R.s3 R.s4 R.e4 R.e5 R.s8 R.g
  · rw [hz 9 (by omega)]; exact R.tm
  · intro k hk; rw [hz k (by omega)]; exact R.st k hk
  · intro k hk; rw [hz (10 + k) (by omega)]; exact R.tt k hk
  · intro k hk; rw [hz _ (by omega)]; exact R.p0 k hk
  · intro k hk; rw [hz _ (by omega)]; exact R.p1 k hk
  · intro k hk; rw [hz _ (by omega)]; exact R.p2 k hk
  · intro k hk; rw [hz _ (by omega)]; exact R.p3 k hk
  · intro k hk; rw [hz _ (by omega)]; exact R.p4 k hk
  · intro k hk; rw [hz _ (by omega)]; exact R.p5 k hk
  · intro k hk; rw [hz _ (by omega)]; exact R.o0 k hk
  · intro k hk; rw [hz _ (by omega)]; exact R.o2 k hk
  · intro k hk; rw [hz _ (by omega)]; exact R.o3 k hk
  · intro k hk; rw [hz _ (by omega)]; exact R.o4 k hk
theorem RQ.ext {u : Nat → Nat → Int32} {z z' : Nat → Int32} {Q : List Nat} {t : Nat} (q : RQ u z Q t) (hz : ∀ x, x < 114 → z' x = z x) : RQ u z' Q t := by
  refine RQ.mk ?_ q.n2 ?_ q.q2 q.nd q.lt q.th ?_ q.tm q.ws
  · rw [hz 17 (by omega)]; exact q.n1
  · intro k hk; rw [hz (18 + k) (by omega)]; exact q.q1 k hk
  · intro k hk; rw [hz _ (by omega)]; exact q.o1 k hk
/-- a state as it stands between two calls -/
def RS (u : Nat → Nat → Int32) (z : Nat → Int32) : Prop := ∃ Q t, t ≤ 9999 ∧ RI u z ∧ RQ u z Q t ∧ r_quiet u Q
theorem RS.ext {u : Nat → Nat → Int32} {z z' : Nat → Int32} (h : RS u z) (hz : ∀ x, x < 114 → z' x = z x) : RS u z' := by
  obtain ⟨Q, t, a, b, c, d⟩ := h
  exact ⟨Q, t, a, b.ext hz, c.ext hz, d⟩
/-- the saved states of both -/
def RH (S : Nat → Nat → Nat → Int32) (nw hz : Int32) (sv : Nat → Int32) (sn : Int32) : Prop := ∃ w s, nw = Int32.ofNat w ∧ w < 6 ∧ hz = Int32.ofNat s ∧ sn = Int32.ofNat s ∧ s ≤ 6 ∧ ∀ j, j < s → RS (S ((w + 6 - j) % 6)) (fun k => sv ((s - 1 - j) * 114 + k))
theorem r_m6 {w : Nat} (h : w < 12) : Int32.ofNat w - Int32.ofNat w / 6 * 6 = Int32.ofNat (w % 6) := by
  have e : w = 0 ∨ w = 1 ∨ w = 2 ∨ w = 3 ∨ w = 4 ∨ w = 5 ∨ w = 6 ∨ w = 7 ∨ w = 8 ∨ w = 9 ∨ w = 10 ∨ w = 11 := by omega
  rcases e with e | e | e | e | e | e | e | e | e | e | e | e <;> subst e <;> decide
theorem r_shl : ∀ j k n (f : Nat → Int32), k + j = 570 → j < n → ∃ f', fX4_save_L11 n (Int32.ofNat k) f = some f' ∧ ∀ x, f' x = if k ≤ x ∧ x < 570 then f (x + 114) else f x
  | 0, k, n + 1, f, h, _ => by
    have e : (570 : Int32) ≤ Int32.ofNat k := (r_le (a := 570) (by omega) (by omega)).mpr (by omega)
    refine ⟨f, ?_, fun x => by rw [if_neg (by omega)]⟩
    rw [fX4_save_L11, if_pos e]
  | j + 1, k, n + 1, f, h, hn => by
    have e : ¬ (570 : Int32) ≤ Int32.ofNat k := fun c => by have := (r_le (a := 570) (by omega) (by omega)).mp c; omega
    have a : Int32.ofNat k + 114 = Int32.ofNat (k + 114) := r_a k 114
    obtain ⟨f', e1, e2⟩ := r_shl j (k + 1) n (upd f k (f (k + 114))) (by omega) (by omega)
    refine ⟨f', ?_, fun x => ?_⟩
    · rw [fX4_save_L11, if_neg e, a, if_pos (r_in (by omega) (by decide)), if_pos (r_in (by omega) (by decide)), r_nc (by omega), r_nc (by omega), r_s, e1]
    · rw [e2 x]
      by_cases h1 : k + 1 ≤ x ∧ x < 570
      · rw [if_pos h1, if_pos (by omega), r_un (by omega)]
      · rw [if_neg h1]
        by_cases h2 : x = k
        · subst h2
          rw [if_pos (by omega), r_ue rfl]
        · rw [if_neg (by omega), r_un (by omega)]
theorem r_rw (s k : Nat) : Int32.ofNat s * 114 + Int32.ofNat k = Int32.ofNat (s * 114 + k) := by
  rw [Int32.ofNat_add, Int32.ofNat_mul]; rfl
theorem r_wrl (z : Nat → Int32) (v1 : (Nat → Int32) × Int32) (s : Nat) (hs : s < 6) (hv : v1.2 = Int32.ofNat s) : ∀ j k n (f : Nat → Int32), k + j = 114 → j < n → ∃ f', fX4_save_L51 z v1 n (Int32.ofNat k) f = some f' ∧ ∀ x, f' x = if s * 114 + k ≤ x ∧ x < s * 114 + 114 then z (x - s * 114) else f x
  | 0, k, n + 1, f, h, _ => by
    have e : (114 : Int32) ≤ Int32.ofNat k := (r_le (a := 114) (by omega) (by omega)).mpr (by omega)
    refine ⟨f, ?_, fun x => by rw [if_neg (by omega)]⟩
    rw [fX4_save_L51, if_pos e]
  | j + 1, k, n + 1, f, h, hn => by
    have e : ¬ (114 : Int32) ≤ Int32.ofNat k := fun c => by have := (r_le (a := 114) (by omega) (by omega)).mp c; omega
    obtain ⟨f', e1, e2⟩ := r_wrl z v1 s hs hv j (k + 1) n (upd f (s * 114 + k) (z k)) (by omega) (by omega)
    refine ⟨f', ?_, fun x => ?_⟩
    · rw [fX4_save_L51, if_neg e, hv, r_rw, if_pos (r_in (by omega) (by decide)), if_pos (r_in (by omega) (by decide)), r_nc (by omega), r_nc (by omega), r_s, e1]
    · rw [e2 x]
      by_cases h1 : s * 114 + (k + 1) ≤ x ∧ x < s * 114 + 114
      · rw [if_pos h1, if_pos (by omega)]
      · rw [if_neg h1]
        by_cases h2 : x = s * 114 + k
        · subst h2
          rw [if_pos (by omega), r_ue rfl, Nat.add_sub_cancel_left]
        · rw [if_neg (by omega), r_un (by omega)]
theorem r_save {u : Nat → Nat → Int32} {z : Nat → Int32} {S : Nat → Nat → Nat → Int32} {nw hz : Int32} {sv : Nat → Int32} {sn : Int32} (Y : RS u z) (H : RH S nw hz sv sn) : ∃ S' nw' hz' sv', fX1_save u S nw hz = some (S', nw', hz') ∧ fX4_save z sv sn = some (sv', hz') ∧ RH S' nw' hz' sv' hz' := by
  obtain ⟨w, s, hw, w6, hh, hs, s6, hj⟩ := H
  have R : RI u z := by obtain ⟨_, _, _, R, _⟩ := Y; exact R
  have m6 : Int32.ofNat (w + 1) - Int32.ofNat (w + 1) / 6 * 6 = Int32.ofNat ((w + 1) % 6) := r_m6 (by omega)
  have w6' : (w + 1) % 6 < 6 := Nat.mod_lt _ (by decide)
  have hsz : (if (6 : Int32) < Int32.ofNat s + 1 then 6 else Int32.ofNat s + 1) = Int32.ofNat (if s = 6 then 6 else s + 1) := by
    rw [r_s]
    by_cases h : s = 6
    · subst h; rfl
    · have e : ¬ (6 : Int32) < Int32.ofNat (s + 1) := fun c => by have := (r_lt (a := 6) (by omega) (by omega)).mp c; omega
      rw [if_neg e, if_neg h]
  have cls : fX1_save u S nw hz = some (fun j => if j = (w + 1) % 6 then u else S j, Int32.ofNat ((w + 1) % 6), Int32.ofNat (if s = 6 then 6 else s + 1)) := by
    unfold fX1_save
    rw [hw, hh, r_s w, m6, if_pos (r_in w6' (by decide)), r_cpy R, r_bs, r_nc (by omega), hsz]
  have row : ∀ (f : Nat → Int32) (s0 : Nat), s0 < 6 → ∃ f', ((fX4_save_L51 z (f, Int32.ofNat s0) 1000 0 f).bind fun v5 => some (v5, Int32.ofNat s0 + 1)) = some (f', Int32.ofNat (s0 + 1)) ∧ ∀ x, f' x = if s0 * 114 ≤ x ∧ x < s0 * 114 + 114 then z (x - s0 * 114) else f x := by
    intro f s0 h0
    obtain ⟨f', e1, e2⟩ := r_wrl z (f, Int32.ofNat s0) s0 h0 rfl 114 0 1000 f rfl (by decide)
    have e1 : fX4_save_L51 z (f, Int32.ofNat s0) 1000 0 f = some f' := e1
    refine ⟨f', ?_, e2⟩
    rw [e1, r_bs, r_s]
  by_cases h6 : s = 6
  · subst h6
    obtain ⟨f1, a1, a2⟩ := r_shl 570 0 1000 sv rfl (by decide)
    have a1 : fX4_save_L11 1000 0 sv = some f1 := a1
    obtain ⟨f2, b1, b2⟩ := row f1 5 (by decide)
    refine ⟨_, _, _, f2, cls, ?_, (w + 1) % 6, 6, rfl, w6', rfl, rfl, Nat.le_refl _, fun j hj6 => ?_⟩
    · unfold fX4_save
      rw [hs, if_pos (show Int32.ofNat 6 = 6 from rfl), a1, r_bs, r_bs]
      exact b1
    · by_cases h0 : j = 0
      · subst h0
        have e : ((w + 1) % 6 + 6 - 0) % 6 = (w + 1) % 6 := by omega
        rw [e]
        dsimp only
        rw [if_pos rfl]
        refine Y.ext (fun x hx => ?_)
        rw [b2, if_pos (by omega), Nat.add_sub_cancel_left]
      · have e : ((w + 1) % 6 + 6 - j) % 6 = (w + 6 - (j - 1)) % 6 := by omega
        rw [e]
        dsimp only
        rw [if_neg (by omega)]
        refine (hj (j - 1) (by omega)).ext (fun x hx => ?_)
        rw [b2, if_neg (by omega), a2, if_pos (by omega)]
        exact congrArg sv (by omega)
  · obtain ⟨f2, b1, b2⟩ := row sv s (by omega)
    have n6 : ¬ Int32.ofNat s = 6 := fun c => h6 ((r_eq (b := 6) (by omega) (by omega)).mp c)
    refine ⟨_, _, _, f2, cls, ?_, (w + 1) % 6, s + 1, rfl, w6', by rw [if_neg h6], by rw [if_neg h6], by omega, fun j hj6 => ?_⟩
    · unfold fX4_save
      rw [hs, if_neg n6, r_bs, if_neg h6]
      exact b1
    · by_cases h0 : j = 0
      · subst h0
        have e : ((w + 1) % 6 + 6 - 0) % 6 = (w + 1) % 6 := by omega
        rw [e]
        dsimp only
        rw [if_pos rfl]
        refine Y.ext (fun x hx => ?_)
        have e2 : s + 1 - 1 - 0 = s := by omega
        rw [e2, b2, if_pos (by omega), Nat.add_sub_cancel_left]
      · have e : ((w + 1) % 6 + 6 - j) % 6 = (w + 6 - (j - 1)) % 6 := by omega
        rw [e]
        dsimp only
        rw [if_neg (by omega)]
        refine (hj (j - 1) (by omega)).ext (fun x hx => ?_)
        rw [b2, if_neg (by omega)]
        exact congrArg sv (by omega)
theorem r_unl (sv : Nat → Int32) (sn v1 : Int32) (s : Nat) (hs : s < 6) (hv : sn - 1 = Int32.ofNat s) : ∀ j k n (f : Nat → Int32), k + j = 114 → j < n → ∃ f', fX4_undo_L37 sv sn v1 n (Int32.ofNat k) f = some (sn - 1, v1, f', sn - 1) ∧ ∀ x, f' x = if k ≤ x ∧ x < 114 then sv (s * 114 + x) else f x
  | 0, k, n + 1, f, h, _ => by
    have e : (114 : Int32) ≤ Int32.ofNat k := (r_le (a := 114) (by omega) (by omega)).mpr (by omega)
    refine ⟨f, ?_, fun x => by rw [if_neg (by omega)]⟩
    rw [fX4_undo_L37, if_pos e]
  | j + 1, k, n + 1, f, h, hn => by
    have e : ¬ (114 : Int32) ≤ Int32.ofNat k := fun c => by have := (r_le (a := 114) (by omega) (by omega)).mp c; omega
    obtain ⟨f', e1, e2⟩ := r_unl sv sn v1 s hs hv j (k + 1) n (upd f k (sv (s * 114 + k))) (by omega) (by omega)
    refine ⟨f', ?_, fun x => ?_⟩
    · have b1 : pq_in ((sn - 1) * 114 + Int32.ofNat k) 684 = true := by rw [hv, r_rw]; exact r_in (by omega) (by decide)
      have b2 : ((sn - 1) * 114 + Int32.ofNat k).toNatClampNeg = s * 114 + k := by rw [hv, r_rw, r_nc (by omega)]
      rw [fX4_undo_L37, if_neg e, if_pos b1, if_pos (r_in (by omega) (by decide)), b2, r_nc (by omega), r_s, e1]
    · rw [e2 x]
      by_cases h1 : k + 1 ≤ x ∧ x < 114
      · rw [if_pos h1, if_pos (by omega)]
      · rw [if_neg h1]
        by_cases h2 : x = k
        · subst h2
          rw [if_pos (by omega), r_ue rfl]
        · rw [if_neg (by omega), r_un (by omega)]
theorem r_undo {S : Nat → Nat → Nat → Int32} {nw hz : Int32} {sv : Nat → Int32} {sn : Int32} (H : RH S nw hz sv sn) (P : Nat → Nat → Int32) (z : Nat → Int32) (th : Int32) : (hz = 0 ∧ fX4_undo th z sv sn = some (0, 1, z, sn)) ∨ (hz ≠ 0 ∧ ∃ u' z' nw' hz', fX1_restore P S nw hz = some (u', nw', hz') ∧ fX4_undo th z sv sn = some (hz', 0, z', hz') ∧ RS u' z' ∧ RH S nw' hz' sv hz') := by
  obtain ⟨w, s, hw, w6, hh, hs, s6, hj⟩ := H
  unfold fX4_undo
  by_cases h : s = 0
  · subst h
    left
    refine ⟨hh, ?_⟩
    rw [hs, if_pos (show Int32.ofNat 0 = 0 from rfl), r_bs, if_neg (by decide)]
  · right
    have n0 : ¬ Int32.ofNat s = 0 := fun c => h ((r_eq (b := 0) (by omega) (by omega)).mp c)
    have d1 : Int32.ofNat s - 1 = Int32.ofNat (s - 1) := by
      have e : s = (s - 1) + 1 := by omega
      rw [e, r_d]; rfl
    obtain ⟨z', e1, e2⟩ := r_unl sv sn 0 (s - 1) (by omega) (by rw [hs, d1]) 114 0 1000 z rfl (by decide)
    have e1 : fX4_undo_L37 sv sn 0 1000 0 z = some (sn - 1, 0, z', sn - 1) := e1
    have Y := hj 0 (by omega)
    have i0 : (w + 6 - 0) % 6 = w := by omega
    have s0 : s - 1 - 0 = s - 1 := by omega
    rw [i0, s0] at Y
    have R : RI (S w) (fun k => sv ((s - 1) * 114 + k)) := by obtain ⟨_, _, _, R, _⟩ := Y; exact R
    have m6 : Int32.ofNat (w + 5) - Int32.ofNat (w + 5) / 6 * 6 = Int32.ofNat ((w + 5) % 6) := r_m6 (by omega)
    have a6 : Int32.ofNat w + 6 - 1 = Int32.ofNat (w + 5) := by
      have e : Int32.ofNat w + 6 = Int32.ofNat (w + 5 + 1) := r_a w 6
      rw [e, r_d]
    refine ⟨by rw [hh]; exact n0, S w, z', Int32.ofNat ((w + 5) % 6), Int32.ofNat (s - 1), ?_, ?_, ?_, (w + 5) % 6, s - 1, rfl, Nat.mod_lt _ (by decide), rfl, rfl, by omega, fun j hj1 => ?_⟩
    · unfold fX1_restore
      rw [hw, hh, if_pos (r_in w6 (by decide)), r_nc (by omega), r_cpy R, r_bs, a6, m6, d1]
    · rw [← d1, ← hs, if_neg (by rw [hs]; exact n0), r_bs, if_pos (by decide)]
      exact e1
    · refine Y.ext (fun x hx => ?_)
      rw [e2, if_pos (by omega)]
    · have e : ((w + 5) % 6 + 6 - j) % 6 = (w + 6 - (j + 1)) % 6 := by omega
      rw [e]
      refine (hj (j + 1) (by omega)).ext (fun x hx => ?_)
      exact congrArg sv (by omega)
