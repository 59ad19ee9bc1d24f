/-! ===== pure rows: run, digest ===== -/
theorem r_rul {cd bf : Nat → Int32} {L : Nat} (hL : L ≤ 60) (hev : L % 2 = 0) (hb : ∀ k, k < 60 → bf k = cd k) (hf : ∀ i, i < L → r_fit cd i) (r2 : (Nat → Nat → Nat → Int32) × Int32 × Int32) : ∀ j i n (u : Nat → Nat → Int32) (z gn : Nat → Int32), i + j = L / 2 → j < n → RS u z → ∃ m u' z' gn', fX3_run_L35 cd (Int32.ofNat L) r2 n (Int32.ofNat i) (Int32.ofNat i) u = some (Sum.inr (m, u', r2.1, r2.2.1, r2.2.2, 0)) ∧ fX4_run_L51 bf (Int32.ofNat L) n (Int32.ofNat i) z gn = some (m, z', gn') ∧ RS u' z'
  | 0, i, n + 1, u, z, gn, h, _, Y => by
    have e1 : Int32.ofNat L / 2 = Int32.ofNat (L / 2) := (Int32.ofNat_div (a := L) (b := 2) (by omega) (by omega)).symm
    have e2 : 2 * Int32.ofNat i = Int32.ofNat (2 * i) := by rw [Int32.ofNat_mul]; rfl
    unfold fX3_run_L35 fX4_run_L51 fX0_parts
    rw [r_bs, e1, e2, if_pos ((r_le (by omega) (by omega)).mpr (by omega)), if_pos ((r_le (by omega) (by omega)).mpr (by omega))]
    exact ⟨_, u, z, gn, rfl, rfl, Y⟩
  | j + 1, i, n + 1, u, z, gn, h, hn, Y => by
    have e1 : Int32.ofNat L / 2 = Int32.ofNat (L / 2) := (Int32.ofNat_div (a := L) (b := 2) (by omega) (by omega)).symm
    have e2 : 2 * Int32.ofNat i = Int32.ofNat (2 * i) := by rw [Int32.ofNat_mul]; rfl
    have a1 : ¬ Int32.ofNat (L / 2) ≤ Int32.ofNat i := fun c => by have := (r_le (by omega) (by omega)).mp c; omega
    have a2 : ¬ Int32.ofNat L ≤ Int32.ofNat (2 * i) := fun c => by have := (r_le (by omega) (by omega)).mp c; omega
    have hk : fX0_isKind (cd (2 * i)) = some 1 := by
      have e := hf (2 * i) (by omega)
      unfold r_fit at e
      rw [if_pos (by omega)] at e
      exact e
    have hx : fX0_isNumberOf (cd (2 * i)) (cd (2 * i + 1)) = some 1 := by
      have e := hf (2 * i + 1) (by omega)
      unfold r_fit at e
      rw [if_neg (by omega), show 2 * i + 1 - 1 = 2 * i by omega] at e
      exact e
    obtain ⟨b, u1, z1, gn1, b1, b2, b3⟩ := r_does Y gn hk hx
    have g1 : fX0_kindOf (Int32.ofNat i) cd = some (cd (2 * i)) := by
      unfold fX0_kindOf
      rw [e2, if_pos (r_in (by omega) (by decide)), r_nc (by omega)]
    have g2 : fX0_numberOf (Int32.ofNat i) cd = some (cd (2 * i + 1) - 48) := by
      unfold fX0_numberOf
      rw [e2, r_s, if_pos (r_in (by omega) (by decide)), r_nc (by omega)]
    rw [fX3_run_L35, fX4_run_L51, e2, r_s (2 * i), if_neg a2, if_pos (r_in (by omega) (by decide)), if_pos (r_in (by omega) (by decide)), r_nc (by omega), r_nc (by omega), hb _ (by omega), hb _ (by omega), b2, r_bs, g1, g2]
    unfold fX0_parts
    rw [r_bs, e1, if_neg a1, r_bs, r_bs, b1, r_bs, r_s]
    dsimp only
    by_cases h0 : b = 0
    · rw [if_pos h0, if_pos h0]
      exact ⟨_, u1, z1, gn1, rfl, rfl, b3⟩
    · rw [if_neg h0, if_neg h0]
      exact r_rul hL hev hb hf r2 j (i + 1) n u1 z1 gn1 (by omega) (by omega) b3
/-! the digest's rows -/
def r_mix (f : Nat → Int32) : Nat → Nat → Int64 → Int64
  | 0, _, h => h
  | j + 1, k, h => r_mix f j (k + 1) ((31 * h) + (f k).toInt64)
theorem r_sko {P : Nat → Int32 → Prop} (N : Nat) (h : ∀ c, c < N → ∃ v, P c v) : ∃ f : Nat → Int32, ∀ c, c < N → P c (f c) := by
  classical
  exact ⟨fun c => if g : c < N then Classical.choose (h c g) else 0, fun c g => by dsimp only; rw [dif_pos g]; exact Classical.choose_spec (h c g)⟩
theorem r_mrl (rw' : Nat → Int32) (N : Nat) (hN : N < 100) : ∀ j k n h, k + j = N → j < n → fX3_mixRow_L13 rw' N n h (Int32.ofNat k) = some (r_mix rw' j k h)
  | 0, k, n + 1, h, e, _ => by
    rw [fX3_mixRow_L13, show nI N = Int32.ofNat N from rfl, if_pos ((r_le (by omega) (by omega)).mpr (by omega))]
    rfl
  | j + 1, k, n + 1, h, e, hn => by
    have e1 : ¬ Int32.ofNat N ≤ Int32.ofNat k := fun c => by have := (r_le (by omega) (by omega)).mp c; omega
    rw [fX3_mixRow_L13, show nI N = Int32.ofNat N from rfl, if_neg e1, if_pos (r_in (by omega) (by omega)), r_nc (by omega), r_s, r_mrl rw' N hN j (k + 1) n _ (by omega) (by omega)]
    rfl
theorem r_mr (rw' : Nat → Int32) (N : Nat) (hN : N < 100) (h : Int64) : fX3_mixRow h N rw' = some (r_mix rw' N 0 h) := r_mrl rw' N hN N 0 1000 h (by omega) (by omega)
theorem r_mixc {f g : Nat → Int32} : ∀ j k h, (∀ i, k ≤ i → i < k + j → f i = g i) → r_mix f j k h = r_mix g j k h
  | 0, _, _, _ => rfl
  | j + 1, k, h, e => by
    unfold r_mix
    rw [e k (Nat.le_refl _) (by omega)]
    exact r_mixc j (k + 1) _ (fun i a b => e i (by omega) (by omega))
/-! both loops of one row -/
theorem r_dcl {u : Nat → Nat → Int32} {hz : Int32} {f : Nat → Int32} (hf : ∀ c, c < 14 → fX3_count (Int32.ofNat c) u hz = some (Sum.inr (f c))) : ∀ j k n h, k + j = 14 → j < n → fX3_digest_L6 u hz n h (Int32.ofNat k) = some (r_mix f j k h)
  | 0, k, n + 1, h, e, _ => by
    have ex : (14 : Int32) ≤ Int32.ofNat k := (r_le (a := 14) (by omega) (by omega)).mpr (by omega)
    rw [fX3_digest_L6, if_pos ex]
    rfl
  | j + 1, k, n + 1, h, e, hn => by
    have e1 : ¬ (14 : Int32) ≤ Int32.ofNat k := fun c => by have := (r_le (a := 14) (by omega) (by omega)).mp c; omega
    rw [fX3_digest_L6, if_neg e1, hf k (by omega), r_bs, r_s]
    exact r_dcl hf j (k + 1) n _ (by omega) (by omega)
theorem r_dcm {z : Nat → Int32} {sn : Int32} {f : Nat → Int32} (hf : ∀ c, c < 14 → fX4_counted (Int32.ofNat c) z sn = some (f c)) : ∀ j k n h, k + j = 14 → j < n → fX4_digest_L14 z sn n (Int32.ofNat k) h = some (r_mix f j k h)
  | 0, k, n + 1, h, e, _ => by
    have ex : (13 : Int32) < Int32.ofNat k := (r_lt (a := 13) (by omega) (by omega)).mpr (by omega)
    rw [fX4_digest_L14, if_pos ex]
    rfl
  | j + 1, k, n + 1, h, e, hn => by
    have e1 : ¬ (13 : Int32) < Int32.ofNat k := fun c => by have := (r_lt (a := 13) (by omega) (by omega)).mp c; omega
    rw [fX4_digest_L14, if_neg e1, hf k (by omega), r_bs, r_s]
    unfold fX4_mix
    rw [r_bs]
    exact r_dcm hf j (k + 1) n _ (by omega) (by omega)
theorem r_dsm {z : Nat → Int32} : ∀ j k n h, k + j = 9 → j < n → fX4_digest_L38 z n (Int32.ofNat k) h = some (r_mix z j k h)
  | 0, k, n + 1, h, e, _ => by
    have ex : (9 : Int32) ≤ Int32.ofNat k := (r_le (a := 9) (by omega) (by omega)).mpr (by omega)
    rw [fX4_digest_L38, if_pos ex]
    rfl
  | j + 1, k, n + 1, h, e, hn => by
    have e1 : ¬ (9 : Int32) ≤ Int32.ofNat k := fun c => by have := (r_le (a := 9) (by omega) (by omega)).mp c; omega
    rw [fX4_digest_L38, if_neg e1, if_pos (r_in (by omega) (by decide)), r_nc (by omega), r_s]
    unfold fX4_mix
    rw [r_bs]
    exact r_dsm j (k + 1) n _ (by omega) (by omega)
theorem r_dpl {u : Nat → Nat → Int32} {p : Int32} {f : Nat → Int32} (hf : ∀ c, c < 6 → fX2_placeProperty p (Int32.ofNat c) u = some (f c)) : ∀ j k n h, k + j = 6 → j < n → fX3_digest_L54 u p n h (Int32.ofNat k) = some (r_mix f j k h)
  | 0, k, n + 1, h, e, _ => by
    have ex : (6 : Int32) ≤ Int32.ofNat k := (r_le (a := 6) (by omega) (by omega)).mpr (by omega)
    rw [fX3_digest_L54, if_pos ex]
    rfl
  | j + 1, k, n + 1, h, e, hn => by
    have e1 : ¬ (6 : Int32) ≤ Int32.ofNat k := fun c => by have := (r_le (a := 6) (by omega) (by omega)).mp c; omega
    rw [fX3_digest_L54, if_neg e1, hf k (by omega), r_bs, r_s]
    exact r_dpl hf j (k + 1) n _ (by omega) (by omega)
theorem r_dpm {z : Nat → Int32} {p : Int32} {f : Nat → Int32} (hf : ∀ c, c < 6 → fX4_toldPlace p (Int32.ofNat c) z = some (f c)) : ∀ j k n h, k + j = 6 → j < n → fX4_digest_L71 z p n (Int32.ofNat k) h = some (r_mix f j k h)
  | 0, k, n + 1, h, e, _ => by
    have ex : (5 : Int32) < Int32.ofNat k := (r_lt (a := 5) (by omega) (by omega)).mpr (by omega)
    rw [fX4_digest_L71, if_pos ex]
    rfl
  | j + 1, k, n + 1, h, e, hn => by
    have e1 : ¬ (5 : Int32) < Int32.ofNat k := fun c => by have := (r_lt (a := 5) (by omega) (by omega)).mp c; omega
    rw [fX4_digest_L71, if_neg e1, hf k (by omega), r_bs, r_s]
    unfold fX4_mix
    rw [r_bs]
    exact r_dpm hf j (k + 1) n _ (by omega) (by omega)
theorem r_dpp {u : Nat → Nat → Int32} {z : Nat → Int32} (R : RI u z) : ∀ j k n h, k + j = 8 → j < n → ∃ h', fX3_digest_L45 u n h (Int32.ofNat k) = some h' ∧ fX4_digest_L63 z n (Int32.ofNat k) h = some h'
  | 0, k, n + 1, h, e, _ => by
    rw [fX3_digest_L45, fX4_digest_L63, if_pos ((r_8 (by omega)).mpr (by omega)), if_pos ((r_8 (by omega)).mpr (by omega))]
    exact ⟨h, rfl, rfl⟩
  | j + 1, k, n + 1, h, e, hn => by
    have hk : k < 8 := by omega
    obtain ⟨f, hf⟩ := r_sko (P := fun c v => fX2_placeProperty (Int32.ofNat k) (Int32.ofNat c) u = some v ∧ fX4_toldPlace (Int32.ofNat k) (Int32.ofNat c) z = some v) 6 (fun c hc => r_place R hk hc)
    have a := r_dpl (p := Int32.ofNat k) (fun c hc => (hf c hc).1) 6 0 1000 h rfl (by decide)
    have b := r_dpm (p := Int32.ofNat k) (fun c hc => (hf c hc).2) 6 0 1000 h rfl (by decide)
    have a : fX3_digest_L54 u (Int32.ofNat k) 1000 h 0 = some (r_mix f 6 0 h) := a
    have b : fX4_digest_L71 z (Int32.ofNat k) 1000 0 h = some (r_mix f 6 0 h) := b
    rw [fX3_digest_L45, fX4_digest_L63, if_neg (r_8n hk), if_neg (r_8n hk), a, b, r_bs, r_bs, r_s]
    exact r_dpp R j (k + 1) n _ (by omega) (by omega)
theorem r_dol {u : Nat → Nat → Int32} {p : Int32} {f : Nat → Int32} (hf : ∀ c, c < 7 → fX2_ownerProperty p (Int32.ofNat c) u = some (f c)) : ∀ j k n h, k + j = 7 → j < n → fX3_digest_L106 u p n h (Int32.ofNat k) = some (r_mix f j k h)
  | 0, k, n + 1, h, e, _ => by
    have ex : (7 : Int32) ≤ Int32.ofNat k := (r_le (a := 7) (by omega) (by omega)).mpr (by omega)
    rw [fX3_digest_L106, if_pos ex]
    rfl
  | j + 1, k, n + 1, h, e, hn => by
    have e1 : ¬ (7 : Int32) ≤ Int32.ofNat k := fun c => by have := (r_le (a := 7) (by omega) (by omega)).mp c; omega
    rw [fX3_digest_L106, if_neg e1, hf k (by omega), r_bs, r_s]
    exact r_dol hf j (k + 1) n _ (by omega) (by omega)
theorem r_dom {z : Nat → Int32} {p : Int32} {f : Nat → Int32} (hf : ∀ c, c < 7 → fX4_toldOwner p (Int32.ofNat c) z = some (f c)) : ∀ j k n h, k + j = 7 → j < n → fX4_mixOwner_L2 p z n (Int32.ofNat k) h = some (r_mix f j k h)
  | 0, k, n + 1, h, e, _ => by
    have ex : (6 : Int32) < Int32.ofNat k := (r_lt (a := 6) (by omega) (by omega)).mpr (by omega)
    rw [fX4_mixOwner_L2, if_pos ex]
    rfl
  | j + 1, k, n + 1, h, e, hn => by
    have e1 : ¬ (6 : Int32) < Int32.ofNat k := fun c => by have := (r_lt (a := 6) (by omega) (by omega)).mp c; omega
    rw [fX4_mixOwner_L2, if_neg e1, hf k (by omega), r_bs, r_s]
    unfold fX4_mix
    rw [r_bs]
    exact r_dom hf j (k + 1) n _ (by omega) (by omega)
/-- rows of the model that agree where the state lies -/
def r_same (z w : Nat → Int32) : Prop := ∀ x, x < 114 → w x = z x
theorem r_dgm {z0 : Nat → Int32} {o : Nat} {f : Nat → Int32} (hf : ∀ w, r_same z0 w → ∀ c, c < 3 → ∀ sp gn, ∃ z2 sp2 gn2, fX4_wouldGet (Int32.ofNat o) (Int32.ofNat c) w sp gn = some (f c, z2, sp2, gn2) ∧ r_same z0 z2) : ∀ j k n (z sp gn : Nat → Int32) h, k + j = 3 → j < n → r_same z0 z → ∃ z2 sp2 gn2, fX4_mixOwner_L27 (Int32.ofNat o) n (Int32.ofNat k) z sp gn h = some (z2, sp2, gn2, r_mix f j k h) ∧ r_same z0 z2
  | 0, k, n + 1, z, sp, gn, h, e, _, S => by
    have ex : (2 : Int32) < Int32.ofNat k := (r_lt (a := 2) (by omega) (by omega)).mpr (by omega)
    rw [fX4_mixOwner_L27, if_pos ex]
    exact ⟨z, sp, gn, rfl, S⟩
  | j + 1, k, n + 1, z, sp, gn, h, e, hn, S => by
    have e1 : ¬ (2 : Int32) < Int32.ofNat k := fun c => by have := (r_lt (a := 2) (by omega) (by omega)).mp c; omega
    obtain ⟨z2, sp2, gn2, g1, g2⟩ := hf z S k (by omega) sp gn
    rw [fX4_mixOwner_L27, if_neg e1, g1, r_bs, r_s]
    unfold fX4_mix
    rw [r_bs]
    exact r_dgm hf j (k + 1) n z2 sp2 gn2 _ (by omega) (by omega) g2
theorem r_dbm {z0 : Nat → Int32} {f : Nat → Int32} (hf : ∀ w, r_same z0 w → ∀ c, c < 4 → ∀ sp gn, ∃ z2 sp2 gn2, fX4_wouldBe 12 (Int32.ofNat c) w sp gn = some (f c, z2, sp2, gn2) ∧ r_same z0 z2) : ∀ j k n (z sp gn : Nat → Int32) h, k + j = 4 → j < n → r_same z0 z → ∃ z2 sp2 gn2, fX4_digest_L120 n (Int32.ofNat k) z sp gn h = some (z2, sp2, gn2, r_mix f j k h) ∧ r_same z0 z2
  | 0, k, n + 1, z, sp, gn, h, e, _, S => by
    have ex : (3 : Int32) < Int32.ofNat k := (r_lt (a := 3) (by omega) (by omega)).mpr (by omega)
    rw [fX4_digest_L120, if_pos ex]
    exact ⟨z, sp, gn, rfl, S⟩
  | j + 1, k, n + 1, z, sp, gn, h, e, hn, S => by
    have e1 : ¬ (3 : Int32) < Int32.ofNat k := fun c => by have := (r_lt (a := 3) (by omega) (by omega)).mp c; omega
    obtain ⟨z2, sp2, gn2, g1, g2⟩ := hf z S k (by omega) sp gn
    rw [fX4_digest_L120, if_neg e1, g1, r_bs, r_s]
    unfold fX4_mix
    rw [r_bs]
    exact r_dbm hf j (k + 1) n z2 sp2 gn2 _ (by omega) (by omega) g2
/-- an owner's part of the digest -/
theorem r_dow {u : Nat → Nat → Int32} {z0 : Nat → Int32} {Q : List Nat} {t : Nat} (R : RI u z0) (q : RQ u z0 Q t) (r11 : (Nat → Nat → Int32) × (Nat → Int32)) (hw : ∀ w, r_same z0 w → ∀ o, o < 8 → ∀ sp gn, ∃ z2 sp2 gn2, fX4_wouldWait (Int32.ofNat o) w sp gn = some (r11.2 o, z2, sp2, gn2) ∧ r_same z0 z2) : ∀ j k n (T : Nat → Nat → Int32) (ak z sp gn : Nat → Int32) h, k + j = 8 → j < n → r_same z0 z → ∃ h' T' ak' z2 sp2 gn2, fX3_digest_L97 u r11 n h (Int32.ofNat k) T ak = some (h', T', ak') ∧ fX4_digest_L101 n (Int32.ofNat k) z sp gn h = some (z2, sp2, gn2, h') ∧ r_same z0 z2
  | 0, k, n + 1, T, ak, z, sp, gn, h, e, _, S => by
    rw [fX3_digest_L97, fX4_digest_L101, if_pos ((r_8 (by omega)).mpr (by omega)), if_pos ((r_8 (by omega)).mpr (by omega))]
    exact ⟨h, T, ak, z, sp, gn, rfl, rfl, S⟩
  | j + 1, k, n + 1, T, ak, z, sp, gn, h, e, hn, S => by
    have hk : k < 8 := by omega
    have Rz := R.ext S
    have qz := q.ext S
    obtain ⟨f, hf⟩ := r_sko (P := fun c v => fX2_ownerProperty (Int32.ofNat k) (Int32.ofNat c) u = some v ∧ fX4_toldOwner (Int32.ofNat k) (Int32.ofNat c) z = some v) 7 (fun c hc => r_owner Rz qz hk hc)
    have a : fX3_digest_L106 u (Int32.ofNat k) 1000 h 0 = some (r_mix f 7 0 h) := r_dol (p := Int32.ofNat k) (fun c hc => (hf c hc).1) 7 0 1000 h rfl (by decide)
    have b : fX4_mixOwner_L2 (Int32.ofNat k) z 1000 0 h = some (r_mix f 7 0 h) := r_dom (p := Int32.ofNat k) (fun c hc => (hf c hc).2) 7 0 1000 h rfl (by decide)
    obtain ⟨T', ak', c1, _⟩ := r_wget R q hk T ak
    have hg : ∀ w, r_same z0 w → ∀ c, c < 3 → ∀ sp gn, ∃ z2 sp2 gn2, fX4_wouldGet (Int32.ofNat k) (Int32.ofNat c) w sp gn = some (ak' c, z2, sp2, gn2) ∧ r_same z0 z2 := by
      intro w Sw c hc sp gn
      obtain ⟨T2, ak2, d1, d2⟩ := r_wget (R.ext Sw) (q.ext Sw) hk T ak
      rw [c1] at d1
      have e2 := congrArg Prod.snd (Option.some.inj d1)
      dsimp only at e2
      subst e2
      obtain ⟨z2, sp2, gn2, g1, g2⟩ := d2 c hc sp gn
      exact ⟨z2, sp2, gn2, g1, fun x hx => (g2 x hx).trans (Sw x hx)⟩
    obtain ⟨z2, sp2, gn2, m1, S2⟩ := r_dgm hg 3 0 1000 z sp gn (r_mix f 7 0 h) rfl (by decide) S
    have m1 : fX4_mixOwner_L27 (Int32.ofNat k) 1000 0 z sp gn (r_mix f 7 0 h) = some (z2, sp2, gn2, r_mix ak' 3 0 (r_mix f 7 0 h)) := m1
    obtain ⟨z3, sp3, gn3, w1, S3⟩ := hw z2 S2 k hk sp2 gn2
    obtain ⟨h', T2, ak2, z4, sp4, gn4, x1, x2, x3⟩ := r_dow R q r11 hw j (k + 1) n T' ak' z3 sp3 gn3 ((31 * r_mix ak' 3 0 (r_mix f 7 0 h)) + (r11.2 k).toInt64) (by omega) (by omega) S3
    refine ⟨h', T2, ak2, z4, sp4, gn4, ?_, ?_, x3⟩
    · rw [fX3_digest_L97, if_neg (r_8n hk), a, r_bs, c1, r_bs]
      dsimp only
      rw [r_mr _ 3 (by decide), r_bs, if_pos (r_in hk (by decide)), r_nc (by omega), r_s]
      exact x1
    · rw [fX4_digest_L101, if_neg (r_8n hk)]
      unfold fX4_mixOwner
      rw [b, r_bs, m1, r_bs]
      dsimp only
      rw [w1, r_bs]
      unfold fX4_mix
      rw [r_bs, r_bs, r_s]
      exact x2
theorem r_dtl {cd : Nat → Int32} {L : Nat} (hL : L ≤ 60) (r11 : (Nat → Nat → Int32) × (Nat → Int32)) (v13 : Int64 × (Nat → Nat → Int32) × (Nat → Int32)) (r19 : (Nat → Nat → Int32) × (Nat → Int32)) : ∀ j k n h, k + j = L → j < n → fX3_digest_L229 cd (Int32.ofNat L) r11 v13 r19 n h (Int32.ofNat k) = some (r_mix cd j k h, r19.1, v13.2.2, r19.2, r11.2)
  | 0, k, n + 1, h, e, _ => by
    rw [fX3_digest_L229, if_pos ((r_le (by omega) (by omega)).mpr (by omega))]
    rfl
  | j + 1, k, n + 1, h, e, hn => by
    have e1 : ¬ Int32.ofNat L ≤ Int32.ofNat k := fun c => by have := (r_le (by omega) (by omega)).mp c; omega
    rw [fX3_digest_L229, if_neg e1, if_pos (r_in (by omega) (by decide)), r_nc (by omega), r_s]
    exact r_dtl hL r11 v13 r19 j (k + 1) n _ (by omega) (by omega)
theorem r_dtm {bf : Nat → Int32} {L : Nat} (hL : L ≤ 60) (v18 : (Nat → Int32) × (Nat → Int32) × (Nat → Int32) × Int64) : ∀ j k n h, k + j = L → j < n → fX4_digest_L174 bf (Int32.ofNat L) v18 n (Int32.ofNat k) h = some (r_mix bf j k h, 0, v18.1, v18.2.1, v18.2.2.1, r_mix bf j k h)
  | 0, k, n + 1, h, e, _ => by
    rw [fX4_digest_L174, if_pos ((r_le (by omega) (by omega)).mpr (by omega))]
    rfl
  | j + 1, k, n + 1, h, e, hn => by
    have e1 : ¬ Int32.ofNat L ≤ Int32.ofNat k := fun c => by have := (r_le (by omega) (by omega)).mp c; omega
    rw [fX4_digest_L174, if_neg e1, if_pos (r_in (by omega) (by decide)), r_nc (by omega), r_s]
    unfold fX4_mix
    rw [r_bs]
    exact r_dtm hL v18 j (k + 1) n _ (by omega) (by omega)
theorem r_digest {u : Nat → Nat → Int32} {z : Nat → Int32} {sn : Int32} {cd bf : Nat → Int32} {L : Nat} (Y : RS u z) (hL : L ≤ 60) (hb : ∀ k, k < 60 → bf k = cd k) (T : Nat → Nat → Int32) (ak pa wt sp gn : Nat → Int32) (th : Int32) (hs : Int64) : ∃ h T' ak' pa' wt' z' sp' gn', fX3_digest u T sn ak pa wt cd (Int32.ofNat L) = some (h, T', ak', pa', wt') ∧ fX4_digest th z sn sp bf (Int32.ofNat L) gn hs = some (h, 0, z', sp', gn', h) ∧ RS u z' := by
  have Y0 := Y
  obtain ⟨Q, t, ht, R, q, y⟩ := Y0
  have hc : ∀ c, c < 14 → ∃ v, fX3_count (Int32.ofNat c) u sn = some (Sum.inr v) ∧ fX4_counted (Int32.ofNat c) z sn = some v := by
    intro c hc
    have rk : fX3_requireKind (Int32.ofNat c) 14 = some (Sum.inr ()) := by
      unfold fX3_requireKind
      have ex : Int32.ofNat c < 14 := (r_lt (b := 14) (by omega) (by omega)).mpr hc
      rw [if_neg (r_n0 (by omega)), if_pos ex]
    unfold fX3_count
    rw [rk, r_bs]
    by_cases h13 : c = 13
    · subst h13
      exact ⟨sn, rfl, r_nu13 z sn⟩
    · obtain ⟨v, e1, e2⟩ := r_number R q sn (c := c) (by omega)
      refine ⟨v, ?_, e2⟩
      show (if Int32.ofNat c = 13 then _ else _) = _
      have ex : ¬ Int32.ofNat c = 13 := fun e => h13 ((r_eq (b := 13) (by omega) (by omega)).mp e)
      rw [if_neg ex, e1]
      rfl
  obtain ⟨fc, hfc⟩ := r_sko (P := fun c v => fX3_count (Int32.ofNat c) u sn = some (Sum.inr v) ∧ fX4_counted (Int32.ofNat c) z sn = some v) 14 hc
  have a1 : fX3_digest_L6 u sn 1000 2753 0 = some (r_mix fc 14 0 2753) := r_dcl (fun c h => (hfc c h).1) 14 0 1000 2753 rfl (by decide)
  have b1 : fX4_digest_L14 z sn 1000 0 2753 = some (r_mix fc 14 0 2753) := r_dcm (fun c h => (hfc c h).2) 14 0 1000 2753 rfl (by decide)
  have b2 : fX4_digest_L38 z 1000 0 (r_mix fc 14 0 2753) = some (r_mix z 9 0 (r_mix fc 14 0 2753)) := r_dsm 9 0 1000 _ rfl (by decide)
  have e2 : r_mix z 9 0 (r_mix fc 14 0 2753) = r_mix (u 1) 9 0 (r_mix fc 14 0 2753) := r_mixc 9 0 _ (fun i _ hi => R.st i (by omega))
  obtain ⟨h3, a3, b3⟩ := r_dpp R 8 0 1000 (r_mix (u 1) 9 0 (r_mix fc 14 0 2753)) rfl (by decide)
  have a3 : fX3_digest_L45 u 1000 (r_mix (u 1) 9 0 (r_mix fc 14 0 2753)) 0 = some h3 := a3
  have b3 : fX4_digest_L63 z 1000 0 (r_mix (u 1) 9 0 (r_mix fc 14 0 2753)) = some h3 := b3
  obtain ⟨T4, w4, a4, _⟩ := r_wwt R q y (by omega) T wt
  have hw : ∀ w, r_same z w → ∀ o, o < 8 → ∀ sp gn, ∃ z2 sp2 gn2, fX4_wouldWait (Int32.ofNat o) w sp gn = some (w4 o, z2, sp2, gn2) ∧ r_same z z2 := by
    intro w Sw o ho sp gn
    obtain ⟨T2, w2, d1, d2⟩ := r_wwt (R.ext Sw) (q.ext Sw) y (by omega) T wt
    rw [a4] at d1
    have e2 := congrArg Prod.snd (Option.some.inj d1)
    dsimp only at e2
    subst e2
    obtain ⟨z2, sp2, gn2, g1, g2⟩ := d2 o ho sp gn
    exact ⟨z2, sp2, gn2, g1, fun x hx => (g2 x hx).trans (Sw x hx)⟩
  obtain ⟨h5, T5, ak5, z5, sp5, gn5, a5, b5, S5⟩ := r_dow R q (T4, w4) hw 8 0 1000 T4 ak z sp gn h3 rfl (by decide) (fun _ _ => rfl)
  have a5 : fX3_digest_L97 u (T4, w4) 1000 h3 0 T4 ak = some (h5, T5, ak5) := a5
  have b5 : fX4_digest_L101 1000 0 z sp gn h3 = some (z5, sp5, gn5, h5) := b5
  obtain ⟨T6, pa6, a6, _⟩ := r_wbe (m := 12) R q y (by omega) T5 pa
  have hp : ∀ w, r_same z w → ∀ c, c < 4 → ∀ sp gn, ∃ z2 sp2 gn2, fX4_wouldBe 12 (Int32.ofNat c) w sp gn = some (pa6 c, z2, sp2, gn2) ∧ r_same z z2 := by
    intro w Sw c hc sp gn
    obtain ⟨T2, ak2, d1, d2⟩ := r_wbe (m := 12) (R.ext Sw) (q.ext Sw) y (by omega) T5 pa
    rw [a6] at d1
    have e2 := congrArg Prod.snd (Option.some.inj d1)
    dsimp only at e2
    subst e2
    obtain ⟨z2, sp2, gn2, g1, g2⟩ := d2 c hc sp gn
    exact ⟨z2, sp2, gn2, g1, fun x hx => (g2 x hx).trans (Sw x hx)⟩
  have a6 : fX3_tryPassing 12 u T5 pa = some (T6, pa6) := a6
  obtain ⟨z7, sp7, gn7, b7, S7⟩ := r_dbm hp 4 0 1000 z5 sp5 gn5 h5 rfl (by decide) S5
  have b7 : fX4_digest_L120 1000 0 z5 sp5 gn5 h5 = some (z7, sp7, gn7, r_mix pa6 4 0 h5) := b7
  have R7 := R.ext S7
  obtain ⟨bk, a8, b8⟩ := r_blk R7 (q.ext S7)
  obtain ⟨d, bt, a9, b9, _, a10, b10⟩ := r_fair R7
  have em : ∀ h, r_mix bf L 0 h = r_mix cd L 0 h := fun h => r_mixc L 0 h (fun i _ hi => hb i (by omega))
  refine ⟨r_mix cd L 0 ((31 * ((31 * ((31 * r_mix pa6 4 0 h5) + bk.toInt64)) + bt)) + (Int32.ofNat L).toInt64), T6, ak5, pa6, w4, z7, sp7, gn7, ?_, ?_, Y.ext S7⟩
  · unfold fX3_digest
    rw [a1, r_bs, r_mr _ 9 (by decide), r_bs, a3, r_bs, a4, r_bs]
    dsimp only
    rw [a5, r_bs]
    dsimp only
    rw [a6, r_bs]
    dsimp only
    rw [r_mr _ 4 (by decide), r_bs, a8, r_bs, a9, r_bs, a10, r_bs]
    exact r_dtl hL (T4, w4) (h5, T5, ak5) (T6, pa6) L 0 1000 _ (by omega) (by omega)
  · unfold fX4_digest
    rw [b1, r_bs, b2, r_bs, e2, b3, r_bs, b5, r_bs]
    dsimp only
    rw [b7, r_bs]
    dsimp only
    unfold fX4_mix
    rw [b8, r_bs, r_bs, b9, r_bs, b10, r_bs, r_bs, r_bs, ← em]
    exact r_dtm hL (z7, sp7, gn7, _) L 0 1000 _ (by omega) (by omega)
