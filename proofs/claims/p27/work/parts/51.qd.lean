/-! ===== p27: the law as a whole ===== -/
theorem q_pos (x : Int32) : 0 ≤ (x &&& 2147483647).toInt := by
  show 0 ≤ (x &&& 2147483647).toBitVec.toInt
  have e : (x &&& 2147483647).toBitVec = x.toBitVec &&& (2147483647 : Int32).toBitVec := rfl
  rw [e]
  exact BitVec.toInt_nonneg_of_msb_false (by rw [BitVec.msb_and, show (2147483647 : Int32).toBitVec.msb = false by decide, Bool.and_false])
theorem q_low (x : Int32) {n : Nat} (h0 : 0 < n) (hn : n < 2000000000) : ∃ k, k < n ∧ fL_low x (Int32.ofNat n) = some (Int32.ofNat k) := by
  have p := q_pos x
  have e : x &&& 2147483647 = Int32.ofNat (x &&& 2147483647).toNatClampNeg := (Int32.ofNat_toNatClampNeg _ (by rw [Int32.le_iff_toInt_le]; exact p)).symm
  have lt := Int32.toNatClampNeg_lt (x &&& 2147483647)
  generalize (x &&& 2147483647).toNatClampNeg = Y at e lt
  refine ⟨Y % n, Nat.mod_lt _ h0, ?_⟩
  have a := Nat.div_add_mod Y n
  have b := Nat.div_mul_le_self Y n
  rw [Nat.mul_comm] at a
  unfold fL_low
  rw [if_pos (show ¬ Int32.ofNat n = 0 from fun c => by have := (r_eq (b := 0) (by omega) (by decide)).mp c; omega), e, ← Int32.ofNat_div (by omega) (by omega), ← Int32.ofNat_mul, q_tsub b, show Y - Y / n * n = Y % n by omega]
theorem TI.up {e : Nat} {u : Nat → Nat → Int32} {nw : Int32} {m : Nat → Nat → Nat} {Q : List Nat} (I : TI e u nw m Q) : TI (e + 1) u nw m Q := TI.mk I.ab I.iv I.qu I.wl (by have := I.lb; omega) (by have := I.tb; omega) I.nk
theorem q_L483 {u : Nat → Nat → Int32} {m : Nat → Nat → Nat} {Q : List Nat} (A : AB u m Q) (R : IV 0 0 m Q) : ∀ j k n a, k + j = 8 → j < n → fL_law_L483 u n (Int32.ofNat a) (Int32.ofNat k) = some (Int32.ofNat (a + sF (fun p => if m 2 p = 1 then m 4 p else 0) j k))
  | 0, k, n + 1, a, h, _ => by
    rw [fL_law_L483, if_pos ((r_8 (by omega)).mpr (by omega))]
    rfl
  | j + 1, k, n + 1, a, h, hn => by
    have hkk : k < 8 := by omega
    have ih := q_L483 A R j (k + 1) n (a + (if m 2 k = 1 then m 4 k else 0)) (by omega) (by omega)
    simp only [sF, ← Nat.add_assoc]
    rw [← ih, fL_law_L483, if_neg (r_8n hkk), q_pl0 A R hkk, r_bs, q_el]
    have e1 : Int32.ofNat (m 2 k) = 1 ↔ m 2 k = 1 := r_eq (b := 1) (by have := R.st k hkk; omega) (by decide)
    by_cases z : m 2 k = 1
    · rw [if_pos (e1.mpr z), q_pl2 A R hkk, r_bs, q_el, if_pos z, r_a, r_s]
    · rw [if_neg (fun w => z (e1.mp w)), if_neg z, r_s, Int32.add_zero]
      rfl
theorem q_L483' {u : Nat → Nat → Int32} {m : Nat → Nat → Nat} {Q : List Nat} (A : AB u m Q) (R : IV 0 0 m Q) : fL_law_L483 u 1000 0 0 = some (Int32.ofNat (n8 (fun p => if m 2 p = 1 then m 4 p else 0))) := by
  have e := q_L483 A R 8 0 1000 0 rfl (by decide)
  rw [sF_8, Nat.zero_add] at e
  exact e
theorem q_L483b2 {u : Nat → Nat → Int32} {m : Nat → Nat → Nat} {Q : List Nat} (A : AB u m Q) (R : IV 0 0 m Q) : ∀ j k n a, k + j = 8 → j < n → fL_law_L483b2 u n (Int32.ofNat a) (Int32.ofNat k) = some (Int32.ofNat (a + sF (fun p => if m 2 p = 1 then m 4 p else 0) j k))
  | 0, k, n + 1, a, h, _ => by
    rw [fL_law_L483b2, if_pos ((r_8 (by omega)).mpr (by omega))]
    rfl
  | j + 1, k, n + 1, a, h, hn => by
    have hkk : k < 8 := by omega
    have ih := q_L483b2 A R j (k + 1) n (a + (if m 2 k = 1 then m 4 k else 0)) (by omega) (by omega)
    simp only [sF, ← Nat.add_assoc]
    rw [← ih, fL_law_L483b2, if_neg (r_8n hkk), q_pl0 A R hkk, r_bs, q_el]
    have e1 : Int32.ofNat (m 2 k) = 1 ↔ m 2 k = 1 := r_eq (b := 1) (by have := R.st k hkk; omega) (by decide)
    by_cases z : m 2 k = 1
    · rw [if_pos (e1.mpr z), q_pl2 A R hkk, r_bs, q_el, if_pos z, r_a, r_s]
    · rw [if_neg (fun w => z (e1.mp w)), if_neg z, r_s, Int32.add_zero]
      rfl
theorem q_L483b2' {u : Nat → Nat → Int32} {m : Nat → Nat → Nat} {Q : List Nat} (A : AB u m Q) (R : IV 0 0 m Q) : fL_law_L483b2 u 1000 0 0 = some (Int32.ofNat (n8 (fun p => if m 2 p = 1 then m 4 p else 0))) := by
  have e := q_L483b2 A R 8 0 1000 0 rfl (by decide)
  rw [sF_8, Nat.zero_add] at e
  exact e
theorem q_loop (L : Nat) (xs : Nat → Int32) : ∀ j i n (P T : Nat → Nat → Int32) (S : Nat → Nat → Nat → Int32) (nw hz : Int32) (ak pa wt : Nat → Int32) (m : Nat → Nat → Nat) (Q : List Nat), i + j = 50 → j < n → TI i P nw m Q → ∃ P2 T2 S2 nw2 hz2 ak2 pa2 wt2 m2 Q2, fL_law_L210 L xs n 1 (Int32.ofNat i) P T S nw hz ak pa wt = some (1, P2, T2, S2, nw2, hz2, ak2, pa2, wt2) ∧ TI 50 P2 nw2 m2 Q2
  | 0, i, n + 1, P, T, S, nw, hz, ak, pa, wt, m, Q, h, _, I => by
    have e : i = 50 := by omega
    subst e
    rw [fL_law_L210, if_pos (by decide)]
    exact ⟨_, _, _, _, _, _, _, _, _, _, rfl, I⟩
  | j + 1, i, n + 1, P, T, S, nw, hz, ak, pa, wt, m, Q, h, hn, I => by
    have A := I.ab
    have R := I.iv
    have l8 := R.len8
    have fin : ∀ (P' T' : Nat → Nat → Int32) (S' : Nat → Nat → Nat → Int32) (nw' hz' : Int32) (ak' pa' wt' : Nat → Int32) (m' : Nat → Nat → Nat) (Q' : List Nat), TI (i + 1) P' nw' m' Q' → ∃ P2 T2 S2 nw2 hz2 ak2 pa2 wt2 m2 Q2, (if ¬ ((1 : Int32) = 0) then (fL_addUp P' hz').bind fun r121 => if ¬ (r121 = 0) then fL_law_L210 L xs n 1 (Int32.ofNat i + 1) P' T' S' nw' hz' ak' pa' wt' else none else none) = some (1, P2, T2, S2, nw2, hz2, ak2, pa2, wt2) ∧ TI 50 P2 nw2 m2 Q2 := by
      intro P' T' S' nw' hz' ak' pa' wt' m' Q' I'
      rw [if_pos (show ¬ (1 : Int32) = 0 by decide), q_add I'.ab I'.iv I'.qu, r_bs, if_pos (show ¬ (1 : Int32) = 0 by decide), r_s]
      exact q_loop L xs j (i + 1) n P' T' S' nw' hz' ak' pa' wt' m' Q' (by omega) (by omega) I'
    have n50 : ¬ (50 : Int32) ≤ Int32.ofNat i := fun z => by have := (r_le (a := 50) (by decide) (by omega)).mp z; omega
    have e1i : (1 : Int32) + Int32.ofNat i = Int32.ofNat (1 + i) := (Int32.ofNat_add 1 i).symm
    have n1 : ¬ (1 : Int32) + Int32.ofNat i < 0 := by rw [e1i]; exact r_n0 (by omega)
    obtain ⟨k, hk, lo1⟩ := q_low (pw_cellV L xs (1 + Int32.ofNat i) >>> ((4 : Int32) &&& 31)) (n := 8) (by decide) (by decide)
    obtain ⟨kd, hkd, lo2⟩ := q_low (pw_cellV L xs (1 + Int32.ofNat i)) (n := 14) (by decide) (by decide)
    have lo1 : fL_low (pw_cellV L xs (1 + Int32.ofNat i) >>> ((4 : Int32) &&& 31)) 8 = some (Int32.ofNat k) := lo1
    have lo2 : fL_low (pw_cellV L xs (1 + Int32.ofNat i)) 14 = some (Int32.ofNat kd) := lo2
    obtain ⟨r2, ow2, h2⟩ := q_ow2 A R hk
    rw [fL_law_L210, if_neg n50, if_pos (show ¬ (1 : Int32) = 0 by decide), if_pos n1, lo1, r_bs, lo2, r_bs]
    by_cases c5 : kd < 5
    · obtain ⟨P', T', S', nw', hz', ak', m', Q', ha, I'⟩ := l_ask I (by omega) hk T S hz ak
      rw [if_neg (fun z => by have := (r_le (a := 5) (by decide) (by omega)).mp z; omega), ha, r_bs, r_bs]
      exact fin _ _ _ _ _ _ _ _ _ _ I'
    rw [if_pos (show (5 : Int32) ≤ Int32.ofNat kd from (r_le (a := 5) (by decide) (by omega)).mpr (by omega))]
    by_cases c8 : kd < 8
    · obtain ⟨P', S', nw', hz', m', Q', ha, I'⟩ := l_give I (by omega) hk S hz
      rw [if_neg (fun z => by have := (r_le (a := 8) (by decide) (by omega)).mp z; omega), ha, r_bs, r_bs]
      exact fin _ _ _ _ _ _ _ _ _ _ I'
    rw [if_pos (show (8 : Int32) ≤ Int32.ofNat kd from (r_le (a := 8) (by decide) (by omega)).mpr (by omega))]
    have pass : ∃ k6, k6 < 6 ∧ fL_low (pw_cellV L xs (1 + Int32.ofNat i) >>> ((7 : Int32) &&& 31)) 6 = some (Int32.ofNat k6) := q_low (pw_cellV L xs (1 + Int32.ofNat i) >>> ((7 : Int32) &&& 31)) (n := 6) (by decide) (by decide)
    obtain ⟨k6, hk6, lo3⟩ := pass
    have e6 : (1 : Int32) + Int32.ofNat k6 = Int32.ofNat (1 + k6) := (Int32.ofNat_add 1 k6).symm
    rcases (show kd = 8 ∨ kd = 9 ∨ kd = 10 ∨ kd = 11 ∨ kd = 12 ∨ kd = 13 by omega) with rfl | rfl | rfl | rfl | rfl | rfl
    · -- appear
      have v8 := R.vn k hk
      have hx : (if (if Int32.ofNat (1 - m 8 k) = 1 then (1 : Int32) else 0) = 0 then (1 : Int32) else 0) = if m 8 k = 0 then 0 else 1 := by
        rcases (show m 8 k = 0 ∨ m 8 k = 1 by omega) with z | z <;> rw [z] <;> decide
      obtain ⟨P', S', nw', hz', m', Q', ap, I', a1, a2, a3⟩ := q_ap I hk S hz hx
      have A1 := I'.ab
      have R1 := I'.iv
      obtain ⟨r3, ow2', h2'⟩ := q_ow2 A1 R1 hk
      have e3 : r3 = -1 := by
        rcases h2' with ⟨z, _⟩ | ⟨i', hi', _, z⟩
        · exact z
        · exact absurd (r_mem.mpr ⟨i', hi', z⟩) a2
      have g114 : (if (if r2 < 0 then (0 : Int32) else 1) = 0 then some () else (fX3_owner (Int32.ofNat k) 2 P').bind fun r115 => Sum.elim (fun e => none) (fun a116 => if a116 = (-1) then some () else none) r115 : Option (Unit)) = some () := by
        rw [ow2', r_bs, q_el, if_pos e3]
        split <;> rfl
      have e0 : Int32.ofNat (1 - m' 8 k) = (if (if Int32.ofNat (1 - m 8 k) = 1 then (1 : Int32) else 0) = 0 then (1 : Int32) else 0) := by
        rw [hx, a1]
        rcases (show m 8 k = 0 ∨ m 8 k = 1 by omega) with z | z <;> rw [z] <;> decide
      rw [if_pos (show Int32.ofNat 8 = 8 from rfl), q_ow0 A R hk, r_bs, q_el, q_ite, r_bs, ow2, r_bs, q_el, q_ite, r_bs, q_ow5 A R hk, r_bs, q_el, q_ow1 A R hk, r_bs, q_el, q_ite, r_bs, ap, r_bs, q_el]
      dsimp only
      rw [if_pos rfl, q_ow0 A1 R1 hk, r_bs, q_el, r_bs, if_pos e0, g114, r_bs, q_ow5 A1 R1 hk, r_bs, q_el, if_pos (by rw [a3]), r_bs]
      exact fin _ _ _ _ _ _ _ _ _ _ I'.up
    · -- sicken
      have st := R.st k hk
      rw [if_neg (show ¬ (Int32.ofNat 9 = 8) by decide), if_pos (show Int32.ofNat 9 = 9 from rfl), q_pl0 A R hk, r_bs, q_el]
      have el := r_le (a := m 2 k) (b := 0) (by omega) (by decide)
      by_cases z : m 2 k = 0
      · rw [if_pos (show Int32.ofNat (m 2 k) ≤ 0 from el.mpr (by omega)), if_neg (show ¬ (Int32.ofNat 9 = 10) by decide), if_neg (show ¬ (Int32.ofNat 9 = 11) by decide), if_pos (show Int32.ofNat 9 ≤ 11 by decide), r_bs]
        exact fin _ _ _ _ _ _ _ _ _ _ I.up
      · obtain ⟨P', S', nw', hz', m', Q', sk, I'⟩ := q_sic I hk z S hz
        rw [if_neg (show ¬ Int32.ofNat (m 2 k) ≤ 0 from fun w => by have := el.mp w; omega), q_pl2 A R hk, r_bs, q_el, sk, r_bs, q_el]
        dsimp only
        rw [if_pos rfl, r_bs]
        exact fin _ _ _ _ _ _ _ _ _ _ I'.up
    · -- check
      obtain ⟨P', S', nw', hz', m', Q', ck, I', a1⟩ := q_chk I S hz
      rw [if_neg (show ¬ (Int32.ofNat 10 = 8) by decide), if_neg (show ¬ (Int32.ofNat 10 = 9) by decide), if_pos (show Int32.ofNat 10 = 10 from rfl), q_L483' A R, r_bs, q_ct8 A R, r_bs, q_el, ck, r_bs]
      dsimp only
      rw [if_pos rfl, q_ct8 I'.ab I'.iv, r_bs, q_el, if_pos (by rw [r_a, a1]), r_bs]
      exact fin _ _ _ _ _ _ _ _ _ _ I'.up
    · -- giveUp
      rw [if_neg (show ¬ (Int32.ofNat 11 = 8) by decide), if_neg (show ¬ (Int32.ofNat 11 = 9) by decide), if_neg (show ¬ (Int32.ofNat 11 = 10) by decide), if_pos (show Int32.ofNat 11 = 11 from rfl), ow2, r_bs, q_el]
      rcases h2 with ⟨z, _⟩ | ⟨i', hi', z, y⟩
      · rw [if_pos (show r2 < 0 by rw [z]; decide), if_pos (show Int32.ofNat 11 ≤ 11 by decide), r_bs]
        exact fin _ _ _ _ _ _ _ _ _ _ I.up
      · have hm : k ∈ Q := r_mem.mpr ⟨i', hi', y⟩
        obtain ⟨P', S', nw', hz', m', Q', gu, I', a2, a3⟩ := q_gu I hk hm S hz
        have A1 := I'.ab
        have R1 := I'.iv
        obtain ⟨r3, ow2', h2'⟩ := q_ow2 A1 R1 hk
        have e3 : r3 = -1 := by
          rcases h2' with ⟨z, _⟩ | ⟨i', hi', _, z⟩
          · exact z
          · exact absurd (r_mem.mpr ⟨i', hi', z⟩) a2
        have ow3 := q_ow3 A R hk
        rw [if_pos hm] at ow3
        rw [if_neg (show ¬ r2 < 0 by rw [z]; exact r_n0 (by omega)), ow3, r_bs, q_el, q_ow5 A R hk, r_bs, q_el, gu, r_bs, q_el]
        dsimp only
        rw [if_pos rfl, q_ow5 A1 R1 hk, r_bs, q_el, if_pos (by rw [a3, r_s]), ow2', r_bs, q_el, if_pos e3, r_bs]
        exact fin _ _ _ _ _ _ _ _ _ _ I'.up
    · obtain ⟨P', T', S', nw', hz', pa', wt', m', Q', pp, I', hh⟩ := l_pass I (by omega) (U := 1 + k6) (by omega) (by omega) hk T S hz pa wt
      rw [if_neg (show ¬ (Int32.ofNat 12 = 8) by decide), if_neg (show ¬ (Int32.ofNat 12 = 9) by decide), if_neg (show ¬ (Int32.ofNat 12 = 10) by decide), if_neg (show ¬ (Int32.ofNat 12 = 11) by decide), if_neg (show ¬ Int32.ofNat 12 ≤ 11 by decide), lo3, r_bs, e6, pp, r_bs]
      dsimp only
      rw [if_pos (show ¬ (1 : Int32) = 0 by decide), hh, r_bs, if_pos (show ¬ (1 : Int32) = 0 by decide), r_bs]
      exact fin _ _ _ _ _ _ _ _ _ _ I'
    · obtain ⟨P', T', S', nw', hz', pa', wt', m', Q', pp, I', hh⟩ := l_pass I (by omega) (U := 1 + k6) (by omega) (by omega) hk T S hz pa wt
      rw [if_neg (show ¬ (Int32.ofNat 13 = 8) by decide), if_neg (show ¬ (Int32.ofNat 13 = 9) by decide), if_neg (show ¬ (Int32.ofNat 13 = 10) by decide), if_neg (show ¬ (Int32.ofNat 13 = 11) by decide), if_neg (show ¬ Int32.ofNat 13 ≤ 11 by decide), lo3, r_bs, e6, pp, r_bs]
      dsimp only
      rw [if_pos (show ¬ (1 : Int32) = 0 by decide), hh, r_bs, if_pos (show ¬ (1 : Int32) = 0 by decide), r_bs]
      exact fin _ _ _ _ _ _ _ _ _ _ I'
/-! the start -/
def mf (j : Nat) : Nat := if j = 0 then 4 else if j = 1 then 2 else if j = 2 then 1 else if j = 3 then 0 else if j = 4 then 1 else if j = 5 then 10 else if j = 6 then 5 else if j = 7 then 20 else 15
def m00 : Nat → Nat → Nat := fun i j => if i = 1 then mf j else 0
theorem q_mf (j : Nat) : pw_first j = Int32.ofNat (mf j) := by
  unfold pw_first mf
  repeat' (first | rfl | split)
theorem q_new : TI 0 pq_u0 5 m00 [] := by
  have z : ∀ i, i ≠ 1 → m00 i = fun _ => 0 := fun i hi => by funext j; exact if_neg hi
  have A : AB pq_u0 m00 [] := by
    refine AB.mk (fun i j _ _ => ?_) rfl (fun k hk => absurd hk (Nat.not_lt_zero _))
    match i with
    | 0 => rfl
    | 1 => exact q_mf j
    | i + 2 => rw [z (i + 2) (by omega)]; rfl
  have R : IV 0 0 m00 [] := by
    refine IV.mk (fun p _ => ?_) (fun p _ h => ?_) (fun p _ => ?_) (fun p _ _ => rfl) (fun p _ _ => rfl) (fun p _ h => absurd rfl h) (fun o _ => ?_) ?_ (by decide) List.nodup_nil (fun o h => absurd h List.not_mem_nil) (fun o h => absurd h List.not_mem_nil) (fun o h => absurd h List.not_mem_nil) rfl rfl (by decide) rfl (by decide) (by decide) (by decide)
    · exact Nat.zero_le _
    · exact absurd h (by show ¬ (0 = 2); decide)
    · exact Nat.zero_le _
    · exact Nat.zero_le _
    · decide
  exact TI.mk A R (Or.inl (fun o h => absurd h List.not_mem_nil)) (fun o h => absurd h List.not_mem_nil) (by decide) (by decide) ⟨5, by decide, rfl⟩
theorem q_set1 {e : Nat} {P : Nat → Nat → Int32} {nw : Int32} {m : Nat → Nat → Nat} (I : TI e P nw m []) {j v w : Nat} {x : Int32} (hj : j < 9) (h1 : sLo j ≤ v) (h2 : v ≤ sHi j) (hx : x = Int32.ofNat v) (hw : m 1 j = w) (S : Nat → Nat → Nat → Int32) (hz : Int32) : ∃ P' S' nw' hz', fX3_set (Int32.ofNat j) x P S nw hz = some (Sum.inr (Int32.ofNat w, P', S', nw', hz')) ∧ TI e P' nw' (sm m 1 j v) [] := by
  rw [hx, ← hw]
  exact q_set I hj h1 h2 S hz
theorem q_law (L : Nat) (xs : Nat → Int32) : fL_law L xs pq_u0 pq_u0 (fun _ => pq_u0) 5 0 (fun _ => 0) (fun _ => 0) (fun _ => 0) (fun _ => 0) 0 = some () := by
  have I := q_new
  obtain ⟨k0, hk0, lo0⟩ := q_low (pw_cellV L xs (0 : Int32)) (n := 8) (by decide) (by decide)
  have lo0 : fL_low (pw_cellV L xs (0 : Int32)) 8 = some (Int32.ofNat k0) := lo0
  obtain ⟨P0, S0, nw0, hz0, s0, I0⟩ := q_set1 I (j := 0) (v := (1 + k0)) (w := 4) (x := (1 + Int32.ofNat k0)) (by decide) (show sLo 0 ≤ (1 + k0) by first | exact Nat.zero_le _ | (show 1 ≤ _; omega)) (show (1 + k0) ≤ sHi 0 by show _ ≤ 8; omega) (Int32.ofNat_add 1 k0).symm (by simp [sm, m00, mf]) (fun _ => pq_u0) 0
  have s0 : fX3_set 0 (1 + Int32.ofNat k0) pq_u0 (fun _ => pq_u0) 5 0 = some (Sum.inr (4, P0, S0, nw0, hz0)) := s0
  obtain ⟨k1, hk1, lo1⟩ := q_low (pw_cellV L xs (0 : Int32) >>> ((3 : Int32) &&& 31)) (n := 3) (by decide) (by decide)
  have lo1 : fL_low (pw_cellV L xs (0 : Int32) >>> ((3 : Int32) &&& 31)) 3 = some (Int32.ofNat k1) := lo1
  obtain ⟨P1, S1, nw1, hz1, s1, I1⟩ := q_set1 I0 (j := 1) (v := (1 + k1)) (w := 2) (x := (1 + Int32.ofNat k1)) (by decide) (show sLo 1 ≤ (1 + k1) by first | exact Nat.zero_le _ | (show 1 ≤ _; omega)) (show (1 + k1) ≤ sHi 1 by show _ ≤ 8; omega) (Int32.ofNat_add 1 k1).symm (by simp [sm, m00, mf]) S0 hz0
  have s1 : fX3_set 1 (1 + Int32.ofNat k1) P0 S0 nw0 hz0 = some (Sum.inr (2, P1, S1, nw1, hz1)) := s1
  obtain ⟨k2, hk2, lo2⟩ := q_low (pw_cellV L xs (0 : Int32) >>> ((5 : Int32) &&& 31)) (n := 4) (by decide) (by decide)
  have lo2 : fL_low (pw_cellV L xs (0 : Int32) >>> ((5 : Int32) &&& 31)) 4 = some (Int32.ofNat k2) := lo2
  obtain ⟨P2, S2, nw2, hz2, s2, I2⟩ := q_set1 I1 (j := 2) (v := k2) (w := 1) (x := (Int32.ofNat k2)) (by decide) (show sLo 2 ≤ k2 by first | exact Nat.zero_le _ | (show 1 ≤ _; omega)) (show k2 ≤ sHi 2 by show _ ≤ 8; omega) rfl (by simp [sm, m00, mf]) S1 hz1
  have s2 : fX3_set 2 (Int32.ofNat k2) P1 S1 nw1 hz1 = some (Sum.inr (1, P2, S2, nw2, hz2)) := s2
  obtain ⟨k3, hk3, lo3⟩ := q_low (pw_cellV L xs (0 : Int32) >>> ((7 : Int32) &&& 31)) (n := 2) (by decide) (by decide)
  have lo3 : fL_low (pw_cellV L xs (0 : Int32) >>> ((7 : Int32) &&& 31)) 2 = some (Int32.ofNat k3) := lo3
  obtain ⟨P3, S3, nw3, hz3, s3, I3⟩ := q_set1 I2 (j := 3) (v := k3) (w := 0) (x := (Int32.ofNat k3)) (by decide) (show sLo 3 ≤ k3 by first | exact Nat.zero_le _ | (show 1 ≤ _; omega)) (show k3 ≤ sHi 3 by show _ ≤ 1; omega) rfl (by simp [sm, m00, mf]) S2 hz2
  have s3 : fX3_set 3 (Int32.ofNat k3) P2 S2 nw2 hz2 = some (Sum.inr (0, P3, S3, nw3, hz3)) := s3
  obtain ⟨k4, hk4, lo4⟩ := q_low (pw_cellV L xs (0 : Int32) >>> ((8 : Int32) &&& 31)) (n := 2) (by decide) (by decide)
  have lo4 : fL_low (pw_cellV L xs (0 : Int32) >>> ((8 : Int32) &&& 31)) 2 = some (Int32.ofNat k4) := lo4
  obtain ⟨P4, S4, nw4, hz4, s4, I4⟩ := q_set1 I3 (j := 4) (v := k4) (w := 1) (x := (Int32.ofNat k4)) (by decide) (show sLo 4 ≤ k4 by first | exact Nat.zero_le _ | (show 1 ≤ _; omega)) (show k4 ≤ sHi 4 by show _ ≤ 1; omega) rfl (by simp [sm, m00, mf]) S3 hz3
  have s4 : fX3_set 4 (Int32.ofNat k4) P3 S3 nw3 hz3 = some (Sum.inr (1, P4, S4, nw4, hz4)) := s4
  obtain ⟨k5, hk5, lo5⟩ := q_low (pw_cellV L xs (0 : Int32) >>> ((9 : Int32) &&& 31)) (n := 9) (by decide) (by decide)
  have lo5 : fL_low (pw_cellV L xs (0 : Int32) >>> ((9 : Int32) &&& 31)) 9 = some (Int32.ofNat k5) := lo5
  obtain ⟨P5, S5, nw5, hz5, s5, I5⟩ := q_set1 I4 (j := 5) (v := (1 + k5)) (w := 10) (x := (1 + Int32.ofNat k5)) (by decide) (show sLo 5 ≤ (1 + k5) by first | exact Nat.zero_le _ | (show 1 ≤ _; omega)) (show (1 + k5) ≤ sHi 5 by show _ ≤ 99; omega) (Int32.ofNat_add 1 k5).symm (by simp [sm, m00, mf]) S4 hz4
  have s5 : fX3_set 5 (1 + Int32.ofNat k5) P4 S4 nw4 hz4 = some (Sum.inr (10, P5, S5, nw5, hz5)) := s5
  obtain ⟨k6, hk6, lo6⟩ := q_low (pw_cellV L xs (0 : Int32) >>> ((13 : Int32) &&& 31)) (n := 6) (by decide) (by decide)
  have lo6 : fL_low (pw_cellV L xs (0 : Int32) >>> ((13 : Int32) &&& 31)) 6 = some (Int32.ofNat k6) := lo6
  obtain ⟨P6, S6, nw6, hz6, s6, I6⟩ := q_set1 I5 (j := 6) (v := k6) (w := 5) (x := (Int32.ofNat k6)) (by decide) (show sLo 6 ≤ k6 by first | exact Nat.zero_le _ | (show 1 ≤ _; omega)) (show k6 ≤ sHi 6 by show _ ≤ 99; omega) rfl (by simp [sm, m00, mf]) S5 hz5
  have s6 : fX3_set 6 (Int32.ofNat k6) P5 S5 nw5 hz5 = some (Sum.inr (5, P6, S6, nw6, hz6)) := s6
  obtain ⟨k7, hk7, lo7⟩ := q_low (pw_cellV L xs (0 : Int32) >>> ((16 : Int32) &&& 31)) (n := 12) (by decide) (by decide)
  have lo7 : fL_low (pw_cellV L xs (0 : Int32) >>> ((16 : Int32) &&& 31)) 12 = some (Int32.ofNat k7) := lo7
  obtain ⟨P7, S7, nw7, hz7, s7, I7⟩ := q_set1 I6 (j := 7) (v := (1 + k7)) (w := 20) (x := (1 + Int32.ofNat k7)) (by decide) (show sLo 7 ≤ (1 + k7) by first | exact Nat.zero_le _ | (show 1 ≤ _; omega)) (show (1 + k7) ≤ sHi 7 by show _ ≤ 99; omega) (Int32.ofNat_add 1 k7).symm (by simp [sm, m00, mf]) S6 hz6
  have s7 : fX3_set 7 (1 + Int32.ofNat k7) P6 S6 nw6 hz6 = some (Sum.inr (20, P7, S7, nw7, hz7)) := s7
  obtain ⟨k8, hk8, lo8⟩ := q_low (pw_cellV L xs (0 : Int32) >>> ((20 : Int32) &&& 31)) (n := 12) (by decide) (by decide)
  have lo8 : fL_low (pw_cellV L xs (0 : Int32) >>> ((20 : Int32) &&& 31)) 12 = some (Int32.ofNat k8) := lo8
  obtain ⟨P8, S8, nw8, hz8, s8, I8⟩ := q_set1 I7 (j := 8) (v := (1 + k8)) (w := 15) (x := (1 + Int32.ofNat k8)) (by decide) (show sLo 8 ≤ (1 + k8) by first | exact Nat.zero_le _ | (show 1 ≤ _; omega)) (show (1 + k8) ≤ sHi 8 by show _ ≤ 99; omega) (Int32.ofNat_add 1 k8).symm (by simp [sm, m00, mf]) S7 hz7
  have s8 : fX3_set 8 (1 + Int32.ofNat k8) P7 S7 nw7 hz7 = some (Sum.inr (15, P8, S8, nw8, hz8)) := s8
  obtain ⟨P9, T9, S9, nw9, hz9, ak9, pa9, wt9, m9, Q9, lp, I9⟩ := q_loop L xs 50 0 1000 P8 pq_u0 S8 nw8 hz8 (fun _ => 0) (fun _ => 0) (fun _ => 0) _ [] rfl (by decide) I8
  have lp : fL_law_L210 L xs 1000 1 0 P8 pq_u0 S8 nw8 hz8 (fun _ => 0) (fun _ => 0) (fun _ => 0) = some (1, P9, T9, S9, nw9, hz9, ak9, pa9, wt9) := lp
  obtain ⟨Pd, Sd, nwd, hzd, md, Qd, dr, Id⟩ := q_dra I9 S9 hz9
  unfold fL_law
  rw [q_add I.ab I.iv I.qu, r_bs, if_pos (show ¬ (1 : Int32) = 0 by decide), if_pos (show ¬ ((0 : Int32) < 0) by decide), lo0, r_bs, s0, r_bs, q_el]
  dsimp only
  rw [if_pos rfl, lo1, r_bs, s1, r_bs, q_el]
  dsimp only
  rw [if_pos rfl, lo2, r_bs, s2, r_bs, q_el]
  dsimp only
  rw [if_pos rfl, lo3, r_bs, s3, r_bs, q_el]
  dsimp only
  rw [if_pos rfl, lo4, r_bs, s4, r_bs, q_el]
  dsimp only
  rw [if_pos rfl, lo5, r_bs, s5, r_bs, q_el]
  dsimp only
  rw [if_pos rfl, lo6, r_bs, s6, r_bs, q_el]
  dsimp only
  rw [if_pos rfl, lo7, r_bs, s7, r_bs, q_el]
  dsimp only
  rw [if_pos rfl, lo8, r_bs, s8, r_bs, q_el]
  dsimp only
  rw [if_pos rfl, lp, r_bs]
  dsimp only
  rw [q_ct2 I9.ab I9.iv, r_bs, q_el, if_pos (show ¬ (1 : Int32) = 0 by decide), dr, r_bs]
  dsimp only
  rw [if_pos rfl, q_add Id.ab Id.iv Id.qu, r_bs, if_pos (show ¬ (1 : Int32) = 0 by decide)]
