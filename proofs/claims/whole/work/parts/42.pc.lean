/-! ===== pure rows: the share and its bits ===== -/
theorem rf_cmp1 {c : Nat} {q : Int} (h1 : 4503599627370496 ≤ c) (h2 : c < 9007199254740992) (h3 : -1074 ≤ q) (h4 : q ≤ -52) : (0 ≤ Op.cmpValue (FP.dcmp (rf_F c q) FP.dconst1) .g) ↔ q = -52 := by
  have e : FP.dcmp (rf_F c q) FP.dconst1 = some (compare (c : Int) ((4503599627370496 * 2 ^ (-52 - q).toNat : Nat) : Int)) := by
    show FP.Core.order (FP.Core.decode FP.Core.b64 _) (FP.Core.decode FP.Core.b64 _) = _
    rw [rf_dec h1 h2 h3 (by omega), rf_one]
    unfold FP.Core.order FP.Core.inUnits FP.Core.signed
    have m : min q (-52) = q := Int.min_eq_left h4
    have t : (q - q).toNat = 0 := by omega
    simp only [m, t, Nat.pow_zero, Nat.mul_one]
    rfl
  rw [e]
  constructor
  · intro h
    apply Classical.byContradiction
    intro hq
    obtain ⟨k, hk⟩ : ∃ k : Nat, (-52 - q).toNat = k + 1 := ⟨(-52 - q).toNat - 1, by omega⟩
    have hp := Nat.two_pow_pos k
    have hl : (c : Int) < ((4503599627370496 * 2 ^ (-52 - q).toNat : Nat) : Int) := by
      rw [hk, Nat.pow_succ]
      have : 4503599627370496 * (2 ^ k * 2) = 9007199254740992 * 2 ^ k := by omega
      rw [this]
      omega
    rw [Int.compare_eq_lt.mpr hl] at h
    exact absurd h (by decide)
  · intro hq
    have t : (-52 - q).toNat = 0 := by omega
    rw [t, Nat.pow_zero, Nat.mul_one]
    have hl : ((4503599627370496 : Nat) : Int) ≤ (c : Int) := by omega
    rcases Int.lt_or_eq_of_le hl with d | d
    · rw [Int.compare_eq_gt.mpr d]; decide
    · rw [Int.compare_eq_eq.mpr d.symm]; decide
theorem rf_cmp2 {c : Nat} {q : Int} (h1 : 4503599627370496 ≤ c) (h2 : c < 9007199254740992) (h3 : -1074 ≤ q) (h4 : q ≤ -52) : Op.cmpValue (FP.dcmp (rf_F c q) 4611686018427387904) .l < 0 := by
  have e : FP.dcmp (rf_F c q) 4611686018427387904 = some (compare (c : Int) ((4503599627370496 * 2 ^ (-51 - q).toNat : Nat) : Int)) := by
    show FP.Core.order (FP.Core.decode FP.Core.b64 _) (FP.Core.decode FP.Core.b64 _) = _
    rw [rf_dec h1 h2 h3 (by omega), rf_two]
    unfold FP.Core.order FP.Core.inUnits FP.Core.signed
    have m : min q (-51) = q := Int.min_eq_left (by omega)
    have t : (q - q).toNat = 0 := by omega
    simp only [m, t, Nat.pow_zero, Nat.mul_one]
    rfl
  rw [e]
  obtain ⟨k, hk⟩ : ∃ k : Nat, (-51 - q).toNat = k + 1 := ⟨(-51 - q).toNat - 1, by omega⟩
  have hp := Nat.two_pow_pos k
  have hl : (c : Int) < ((4503599627370496 * 2 ^ (-51 - q).toNat : Nat) : Int) := by
    rw [hk, Nat.pow_succ]
    have : 4503599627370496 * (2 ^ k * 2) = 9007199254740992 * 2 ^ k := by omega
    rw [this]
    omega
  rw [Int.compare_eq_lt.mpr hl]
  decide
theorem rf_cmp0 {c : Nat} {q : Int} (h1 : 4503599627370496 ≤ c) (h2 : c < 9007199254740992) (h3 : -1074 ≤ q) (h4 : q ≤ 971) : ¬ Op.cmpValue (FP.dcmp (rf_F c q) FP.dconst0) .l = 0 := by
  have e : FP.dcmp (rf_F c q) FP.dconst0 = some (compare ((c * 2 ^ (q + 1074).toNat : Nat) : Int) 0) := by
    show FP.Core.order (FP.Core.decode FP.Core.b64 _) (FP.Core.decode FP.Core.b64 _) = _
    rw [rf_dec h1 h2 h3 h4, rf_nul]
    unfold FP.Core.order FP.Core.inUnits FP.Core.signed
    have m : min q (-1074) = -1074 := Int.min_eq_right h3
    have t : q - -1074 = q + 1074 := by omega
    simp only [m, t, Nat.zero_mul]
    rfl
  rw [e]
  have hp : 0 < c * 2 ^ (q + 1074).toNat := Nat.mul_pos (by omega) (Nat.two_pow_pos _)
  have hl : (0 : Int) < ((c * 2 ^ (q + 1074).toNat : Nat) : Int) := by omega
  rw [Int.compare_eq_gt.mpr hl]
  decide
theorem rf_d2l {c : Nat} (h1 : 4503599627370496 ≤ c) (h2 : c < 9007199254740992) : FP.d2l (rf_F c 0) = Int64.ofNat c := by
  show FP.Core.toL (FP.Core.decode FP.Core.b64 (rf_F c 0).toNat) = _
  rw [rf_dec h1 h2 (by decide) (by decide)]
  unfold FP.Core.toL FP.Core.toInt FP.Core.truncate FP.Core.signed
  have t : (-(0 : Int)).toNat = 0 := rfl
  have t2 : (0 : Int).toNat = 0 := rfl
  simp only [t, t2, Nat.pow_zero, Nat.mul_one, Nat.div_one]
  rw [if_neg (by decide)]
  have e : max (-2 ^ 63 : Int) (min (2 ^ 63 - 1) (c : Int)) = (c : Int) := by
    have p : (2 : Int) ^ 63 = 9223372036854775808 := by decide
    rw [p, Int.min_eq_right (by omega), Int.max_eq_right (by omega)]
  rw [e]
  exact Int64.ofInt_eq_ofNat
theorem rf_z : FP.Core.decode FP.Core.b64 (UInt64.ofNat (FP.Core.encode FP.Core.b64 (.fin false 0 (-1074)))).toNat = .fin false 0 (-1074) := by decide +kernel
theorem rf_sub {c : Nat} (h1 : 4503599627370496 ≤ c) (h2 : c < 9007199254740992) : pq_nn (FP.dsub (rf_F c (-52)) FP.dconst1) = true ∧ pq_nn (FP.dmul (FP.dsub (rf_F c (-52)) FP.dconst1) 4841369599423283200) = true ∧ FP.d2l (FP.dmul (FP.dsub (rf_F c (-52)) FP.dconst1) 4841369599423283200) = Int64.ofNat (c - 4503599627370496) := by
  have e : FP.dsub (rf_F c (-52)) FP.dconst1 = UInt64.ofNat (FP.Core.encode FP.Core.b64 (FP.Core.roundRatio FP.Core.b64 false (c - 4503599627370496) 1 (-52))) := by
    show UInt64.ofNat (FP.Core.encode FP.Core.b64 (FP.Core.round FP.Core.b64 (FP.Core.exactSum (FP.Core.decode FP.Core.b64 _) (FP.Core.negate (FP.Core.decode FP.Core.b64 _))))) = _
    rw [rf_dec h1 h2 (by decide) (by decide), rf_one]
    unfold FP.Core.negate FP.Core.exactSum
    have su : FP.Core.sumUnits false c (-52) (!false) 4503599627370496 (-52) (min (-52) (-52)) = (c : Int) - 4503599627370496 := by
      unfold FP.Core.sumUnits FP.Core.inUnits FP.Core.signed
      have m : min (-52 : Int) (-52) = -52 := by decide
      have t : (-52 - -52 : Int).toNat = 0 := by decide
      rw [m, t, Nat.pow_zero, Nat.mul_one, Nat.mul_one]
      simp
      omega
    simp only [su]
    have sg : FP.Core.sumSign false (!false) ((c : Int) - 4503599627370496) = false := by
      unfold FP.Core.sumSign
      split
      · rfl
      · exact decide_eq_false (by omega)
    have na : ((c : Int) - 4503599627370496).natAbs = c - 4503599627370496 := by omega
    have m : min (-52 : Int) (-52) = -52 := by decide
    rw [sg, na, m]
    rfl
  rw [e]
  by_cases h : c - 4503599627370496 = 0
  · rw [h]
    decide +kernel
  · have hl : (c - 4503599627370496).log2 < 52 := (Nat.log2_lt h).mpr (by rw [rf_52]; omega)
    obtain ⟨a1, a2, a3, a4⟩ := rf_int (n := c - 4503599627370496) (e := -52) h (by omega) (by omega) (by omega)
    rw [a1]
    have ef : UInt64.ofNat (FP.Core.encode FP.Core.b64 (.fin false ((c - 4503599627370496) * 2 ^ (52 - (c - 4503599627370496).log2)) (((c - 4503599627370496).log2 : Int) + -52 - 52))) = rf_F ((c - 4503599627370496) * 2 ^ (52 - (c - 4503599627370496).log2)) (((c - 4503599627370496).log2 : Int) + -52 - 52) := rfl
    rw [ef, rf_mulb a2 a3 (by omega) (by omega)]
    refine ⟨rf_nn a2 a3 (by omega) (by omega), rf_nn a2 a3 (by omega) (by omega), ?_⟩
    show FP.Core.toL (FP.Core.decode FP.Core.b64 (rf_F _ _).toNat) = _
    rw [rf_dec a2 a3 (by omega) (by omega)]
    unfold FP.Core.toL FP.Core.toInt FP.Core.truncate FP.Core.signed
    have t1 : (((c - 4503599627370496).log2 : Int) + -52 - 52 + 52).toNat = 0 := by omega
    have t2 : (-(((c - 4503599627370496).log2 : Int) + -52 - 52 + 52)).toNat = 52 - (c - 4503599627370496).log2 := by omega
    simp only [t1, t2, Nat.pow_zero, Nat.mul_one]
    rw [Nat.mul_div_cancel _ (Nat.two_pow_pos _), if_neg (by decide)]
    have e2 : max (-2 ^ 63 : Int) (min (2 ^ 63 - 1) ((c - 4503599627370496 : Nat) : Int)) = ((c - 4503599627370496 : Nat) : Int) := by
      have p : (2 : Int) ^ 63 = 9223372036854775808 := by decide
      rw [p, Int.min_eq_right (by omega), Int.max_eq_right (by omega)]
    rw [e2]
    exact Int64.ofInt_eq_ofNat
/-! the two loops -/
theorem rf_cl (c : Nat) (h1 : 4503599627370496 ≤ c) (h2 : c < 9007199254740992) (j : Nat) : ∀ (n : Nat) (q : Int) (p : Int64) (k : Nat), -1074 ≤ q → q = -52 - (j : Int) → j < n → k + j < 1022 → ∃ r, fX3_bitsOfShare_L10 n (rf_F c q) p (Int32.ofNat k) = some (rf_F c (-52), r) ∧ fX4_bitsOf_L38 n (rf_F c q) p = some (rf_F c (-52), r) := by
  induction j with
  | zero =>
    intro n q p k h3 hq hn hk
    obtain ⟨m, hm⟩ : ∃ m, n = m + 1 := ⟨n - 1, by omega⟩
    subst hm
    have e : ¬ (1022 : Int32) ≤ Int32.ofNat k := fun c => by have := (r_le (a := 1022) (by omega) (by omega)).mp c; omega
    have hq : q = -52 := by omega
    have c1 := (rf_cmp1 h1 h2 h3 (by omega)).mpr hq
    rw [fX3_bitsOfShare_L10, fX4_bitsOf_L38, if_neg e, if_pos c1, if_pos c1, hq]
    exact ⟨p, rfl, rfl⟩
  | succ j ih =>
    intro n q p k h3 hq hn hk
    obtain ⟨m, hm⟩ : ∃ m, n = m + 1 := ⟨n - 1, by omega⟩
    subst hm
    have e : ¬ (1022 : Int32) ≤ Int32.ofNat k := fun c => by have := (r_le (a := 1022) (by omega) (by omega)).mp c; omega
    have c1 : ¬ 0 ≤ Op.cmpValue (FP.dcmp (rf_F c q) FP.dconst1) .g := fun c => by have := (rf_cmp1 h1 h2 h3 (by omega)).mp c; omega
    rw [fX3_bitsOfShare_L10, fX4_bitsOf_L38, if_neg e, if_neg c1, if_neg c1, rf_mul2 h1 h2 h3 (by omega), if_pos (rf_nn h1 h2 (by omega) (by omega)), if_pos (rf_nn h1 h2 (by omega) (by omega)), r_s]
    exact ih m (q + 1) (p - 1) (k + 1) (by omega) (by omega) (by omega) (by omega)
theorem rf_as (a b m : Int64) : a + b - m = a + (b - m) := by rw [Int64.sub_eq_add_neg, Int64.sub_eq_add_neg, Int64.add_assoc]
theorem rf_M : (4503599627370496 : Int64) = Int64.ofNat 4503599627370496 := rfl
theorem rf_bits {c : Nat} {q : Int} (h1 : 4503599627370496 ≤ c) (h2 : c < 9007199254740992) (h3 : -100 ≤ q) (h4 : q ≤ -52) : ∃ b, fX3_bitsOfShare (rf_F c q) = some b ∧ fX4_bitsOf (rf_F c q) = some b := by
  obtain ⟨j, hj⟩ : ∃ j : Nat, q = -52 - (j : Int) := ⟨(-52 - q).toNat, by omega⟩
  obtain ⟨r, e1, e2⟩ := rf_cl c h1 h2 j 1000 q 1023 0 (by omega) hj (by omega) (by omega)
  obtain ⟨s1, s2, s3⟩ := rf_sub h1 h2
  unfold fX3_bitsOfShare fX4_bitsOf
  have e1 : fX3_bitsOfShare_L10 1000 (rf_F c q) 1023 0 = some (rf_F c (-52), r) := e1
  rw [e1, r_bs, if_neg (rf_cmp0 h1 h2 (by omega) (by omega)), show fX4_bitsOf_L15 1000 (rf_F c q) 1023 = fX4_bitsOf_L15 (999 + 1) (rf_F c q) 1023 from rfl, fX4_bitsOf_L15, if_pos (rf_cmp2 h1 h2 (by omega) h4), r_bs, e2, r_bs]
  dsimp only
  have m : FP.dmul (rf_F c (-52)) 4841369599423283200 = rf_F c 0 := rf_mulb h1 h2 (by decide) (by decide)
  rw [if_pos s1, if_pos s2, s3, m, if_pos (rf_nn h1 h2 (by decide) (by decide)), rf_d2l h1 h2]
  refine ⟨_, rfl, ?_⟩
  rw [Int64.ofNat_sub c 4503599627370496 h1]
  rw [rf_M]
  exact congrArg some (rf_as _ _ _)
/-! the share -/
theorem r_fal {u : Nat → Nat → Int32} {z : Nat → Int32} (R : RI u z) : ∀ j k n (l g : Int32), k + j = 8 → j < n → ((l = 0 ∧ g = 0) ∨ (0 < l.toInt ∧ l.toInt ≤ g.toInt)) → ∃ l' g', fX3_fairness_L6 u n l g (Int32.ofNat k) = some (l', g') ∧ fX4_evenness_L6 z n l g (Int32.ofNat k) = some (l', g') ∧ ((l' = 0 ∧ g' = 0) ∨ (0 < l'.toInt ∧ l'.toInt ≤ g'.toInt))
  | 0, k, n + 1, l, g, h, _, hv => by
    rw [fX3_fairness_L6, fX4_evenness_L6, if_pos ((r_8 (by omega)).mpr (by omega)), if_pos ((r_8 (by omega)).mpr (by omega))]
    exact ⟨l, g, rfl, rfl, hv⟩
  | j + 1, k, n + 1, l, g, h, hn, hv => by
    have hk : k < 8 := by omega
    have z0 : (0 : Int32).toInt = 0 := by decide
    rw [fX3_fairness_L6, fX4_evenness_L6, if_neg (r_8n hk), if_neg (r_8n hk), if_pos (r_in hk (by decide)), r_nc (by omega), r_its2 hk, r_bs, R.o2 k hk, r_s]
    have gm : (if g < u 9 k then u 9 k else g) = if u 9 k ≤ g then g else u 9 k := by
      by_cases c : u 9 k ≤ g
      · rw [if_pos c, if_neg (fun d => by rw [Int32.lt_iff_toInt_lt] at d; rw [Int32.le_iff_toInt_le] at c; omega)]
      · rw [if_neg c, if_pos (by rw [Int32.lt_iff_toInt_lt]; rw [Int32.le_iff_toInt_le] at c; omega)]
    have go : ∀ l' : Int32, ((l' = 0 ∧ (if u 9 k ≤ g then g else u 9 k) = 0) ∨ (0 < l'.toInt ∧ l'.toInt ≤ (if u 9 k ≤ g then g else u 9 k).toInt)) → ∃ a b, ((some l' : Option Int32).bind fun v3 => fX3_fairness_L6 u n v3 (if g < u 9 k then u 9 k else g) (Int32.ofNat (k + 1))) = some (a, b) ∧ ((some l' : Option Int32).bind fun v4 => if u 9 k ≤ g then fX4_evenness_L6 z n v4 g (Int32.ofNat (k + 1)) else fX4_evenness_L6 z n v4 (u 9 k) (Int32.ofNat (k + 1))) = some (a, b) ∧ ((a = 0 ∧ b = 0) ∨ (0 < a.toInt ∧ a.toInt ≤ b.toInt)) := by
      intro l' hl
      obtain ⟨a, b, e1, e2, e3⟩ := r_fal R j (k + 1) n l' (if u 9 k ≤ g then g else u 9 k) (by omega) (by omega) hl
      refine ⟨a, b, by rw [r_bs, gm]; exact e1, ?_, e3⟩
      rw [r_bs, ← e2]
      split <;> rfl
    by_cases h0 : u 9 k ≤ 0
    · rw [if_pos h0]
      refine go l ?_
      rw [Int32.le_iff_toInt_le, z0] at h0
      rcases hv with ⟨a, b⟩ | ⟨a, b⟩
      · left
        refine ⟨a, ?_⟩
        rw [if_pos (by rw [b, Int32.le_iff_toInt_le, z0]; exact h0), b]
      · right
        refine ⟨a, ?_⟩
        rw [if_pos (by rw [Int32.le_iff_toInt_le]; omega)]
        exact b
    · rw [if_neg h0]
      rw [Int32.le_iff_toInt_le, z0] at h0
      have big : u 9 k ≤ g → (u 9 k).toInt ≤ g.toInt := fun c => Int32.le_iff_toInt_le.mp c
      by_cases hl : l = 0
      · rw [if_pos hl]
        refine go (u 9 k) (Or.inr ⟨by omega, ?_⟩)
        split
        · rename_i c; exact big c
        · omega
      · rw [if_neg hl]
        rcases hv with ⟨a, _⟩ | ⟨a, b⟩
        · exact absurd a hl
        · by_cases hle : l ≤ u 9 k
          · rw [if_pos hle]
            rw [Int32.le_iff_toInt_le] at hle
            refine go l (Or.inr ⟨a, ?_⟩)
            split
            · exact b
            · exact hle
          · rw [if_neg hle]
            rw [Int32.le_iff_toInt_le] at hle
            refine go (u 9 k) (Or.inr ⟨by omega, ?_⟩)
            split
            · omega
            · omega
theorem rf_self {c : Nat} {q : Int} (h1 : 4503599627370496 ≤ c) (h2 : c < 9007199254740992) (h3 : -1074 ≤ q) (h4 : q ≤ 971) : Op.cmpValue (FP.dcmp (rf_F c q) (rf_F c q)) .l = 0 := by
  have e : FP.dcmp (rf_F c q) (rf_F c q) = some .eq := by
    show FP.Core.order (FP.Core.decode FP.Core.b64 _) (FP.Core.decode FP.Core.b64 _) = _
    rw [rf_dec h1 h2 h3 h4]
    unfold FP.Core.order
    simp only
    exact congrArg some (Int.compare_eq_eq.mpr rfl)
  rw [e]
  rfl
theorem r_fair {u : Nat → Nat → Int32} {z : Nat → Int32} (R : RI u z) : ∃ d b, fX3_fairness u = some d ∧ fX4_evenness z = some d ∧ Op.cmpValue (FP.dcmp d d) .l = 0 ∧ fX3_bitsOfShare d = some b ∧ fX4_bitsOf d = some b := by
  obtain ⟨l, g, e1, e2, e3⟩ := r_fal R 8 0 1000 0 0 rfl (by decide) (Or.inl ⟨rfl, rfl⟩)
  have e1 : fX3_fairness_L6 u 1000 0 0 0 = some (l, g) := e1
  have e2 : fX4_evenness_L6 z 1000 0 0 0 = some (l, g) := e2
  unfold fX3_fairness fX4_evenness
  rw [e1, e2, r_bs]
  dsimp only
  have fin : ∀ c q, 4503599627370496 ≤ c → c < 9007199254740992 → (-100 : Int) ≤ q → q ≤ -52 → ∃ b, fX3_bitsOfShare (rf_F c q) = some b ∧ fX4_bitsOf (rf_F c q) = some b := fun c q h1 h2 h3 h4 => rf_bits h1 h2 h3 h4
  rcases e3 with ⟨_, hg⟩ | ⟨hl, hg⟩
  · rw [if_pos hg]
    obtain ⟨b, b1, b2⟩ := fin 4503599627370496 (-52) (by decide) (by decide) (by decide) (by decide)
    rw [← rf_F1] at b1 b2
    exact ⟨_, b, rfl, rfl, by rw [rf_F1]; exact rf_self (by decide) (by decide) (by decide) (by decide), b1, b2⟩
  · have g0 : ¬ g = 0 := by
      intro c
      have z0 : (0 : Int32).toInt = 0 := by decide
      rw [c, z0] at hg
      omega
    obtain ⟨c, q, d1, d2, d3, d4, d5⟩ := rf_share hl hg
    have nn : pq_nn (FP.ddiv (FP.i2d l) (FP.i2d g)) = true := by rw [d1]; exact rf_nn d2 d3 (by omega) (by omega)
    obtain ⟨b, b1, b2⟩ := fin c q d2 d3 d4 d5
    rw [if_neg g0, if_pos nn]
    exact ⟨_, b, rfl, rfl, by rw [d1]; exact rf_self d2 d3 (by omega) (by omega), by rw [d1]; exact b1, by rw [d1]; exact b2⟩
