/-! ===== pure rows: doubles of 53 binary digits ===== -/
theorem rf_t : FP.Core.Fmt.tails FP.Core.b64 = 4503599627370496 := by decide
theorem rf_e : FP.Core.Fmt.exps FP.Core.b64 = 2048 := by decide
theorem rf_qm : FP.Core.Fmt.qmin FP.Core.b64 = -1074 := by decide
theorem rf_qx : FP.Core.Fmt.qmax FP.Core.b64 = 971 := by decide
theorem rf_52 : (2 : Nat) ^ 52 = 4503599627370496 := by decide
theorem rf_53 : (2 : Nat) ^ 53 = 9007199254740992 := by decide
def rf_F (c : Nat) (q : Int) : UInt64 := UInt64.ofNat (FP.Core.encode FP.Core.b64 (.fin false c q))
theorem rf_enc {c : Nat} {q : Int} (h1 : 4503599627370496 ≤ c) : FP.Core.encode FP.Core.b64 (.fin false c q) = ((q + 1074).toNat + 1) * 4503599627370496 + (c - 4503599627370496) := by
  unfold FP.Core.encode
  simp only [rf_t, rf_qm]
  rw [if_neg (by omega)]
  unfold FP.Core.assemble
  rw [rf_t, rf_e]
  have e : q - -1074 = q + 1074 := by omega
  rw [e]
  simp
theorem rf_nat {c : Nat} {q : Int} (h1 : 4503599627370496 ≤ c) (h2 : c < 9007199254740992) (h3 : -1074 ≤ q) (h4 : q ≤ 971) : (rf_F c q).toNat = ((q + 1074).toNat + 1) * 4503599627370496 + (c - 4503599627370496) := by
  unfold rf_F
  rw [rf_enc h1]
  exact UInt64.toNat_ofNat_of_lt' (by show _ < 18446744073709551616; omega)
theorem rf_dec {c : Nat} {q : Int} (h1 : 4503599627370496 ≤ c) (h2 : c < 9007199254740992) (h3 : -1074 ≤ q) (h4 : q ≤ 971) : FP.Core.decode FP.Core.b64 (rf_F c q).toNat = .fin false c q := by
  rw [rf_nat h1 h2 h3 h4]
  obtain ⟨e, he, he1⟩ : ∃ e : Nat, (q + 1074).toNat = e ∧ (e : Int) = q + 1074 := ⟨(q + 1074).toNat, rfl, by omega⟩
  rw [he]
  unfold FP.Core.decode FP.Core.fieldE FP.Core.fieldT FP.Core.fieldS
  rw [rf_t, rf_e, rf_qm]
  have d1 : ((e + 1) * 4503599627370496 + (c - 4503599627370496)) / 4503599627370496 = e + 1 := by omega
  have d2 : ((e + 1) * 4503599627370496 + (c - 4503599627370496)) % 4503599627370496 = c - 4503599627370496 := by omega
  have d3 : (e + 1) % 2048 = e + 1 := by omega
  have d4 : (e + 1) / 2048 % 2 = 0 := by omega
  rw [d1, d2, d3, d4, if_neg (by omega), if_neg (by omega)]
  have d5 : 4503599627370496 + (c - 4503599627370496) = c := by omega
  have d6 : -1074 + (((e + 1 : Nat) : Int) - 1) = q := by omega
  rw [d5, d6]
  rfl
theorem rf_nn {c : Nat} {q : Int} (h1 : 4503599627370496 ≤ c) (h2 : c < 9007199254740992) (h3 : -1074 ≤ q) (h4 : q ≤ 971) : pq_nn (rf_F c q) = true := by
  unfold pq_nn
  refine decide_eq_true ?_
  rw [UInt64.le_iff_toNat_le, UInt64.toNat_and]
  refine Nat.le_trans Nat.and_le_left ?_
  rw [rf_nat h1 h2 h3 h4]
  have e : (0x7ff0000000000000 : UInt64).toNat = 9218868437227405312 := by decide
  rw [e]
  omega
theorem rf_lead {n : Nat} (h : n ≠ 0) : FP.Core.leading n 1 = (n.log2 : Int) := by
  unfold FP.Core.leading
  have e1 : Nat.log2 1 = 0 := by decide
  have e2 : ((n.log2 : Int) - ((0 : Nat) : Int)) = (n.log2 : Int) := by omega
  have t1 : ((n.log2 : Int)).toNat = n.log2 := Int.toNat_natCast _
  have t2 : (-(n.log2 : Int)).toNat = 0 := by omega
  simp only [e1, e2, t1, t2, Nat.one_mul, Nat.pow_zero, Nat.mul_one]
  rw [if_pos (Nat.log2_self_le h)]
theorem rf_near1 (n : Nat) : FP.Core.nearest n 1 = n := by
  unfold FP.Core.nearest
  rw [Nat.mod_one, if_pos (by decide), Nat.div_one]
theorem rf_settle {c : Nat} {q : Int} (h2 : c < 9007199254740992) (h4 : q ≤ 971) : FP.Core.settle FP.Core.b64 false c q = .fin false c q := by
  unfold FP.Core.settle
  have e : (2 : Nat) ^ FP.Core.b64.p = 9007199254740992 := rf_53
  rw [e, if_pos h2]
  unfold FP.Core.bound
  rw [rf_qx, if_pos h4]
theorem rf_log {n a : Nat} (h1 : 2 ^ a ≤ n) (h2 : n < 2 ^ (a + 1)) : n.log2 = a := by
  have h0 : n ≠ 0 := by
    intro c
    rw [c] at h1
    exact absurd h1 (Nat.not_le.mpr (Nat.two_pow_pos a))
  exact (Nat.log2_eq_iff h0).mpr ⟨h1, h2⟩
/-- a whole number of at most 53 digits, times a power of two -/
theorem rf_int {n : Nat} {e : Int} (h0 : n ≠ 0) (h1 : n < 9007199254740992) (h2 : -1074 ≤ (n.log2 : Int) + e - 52) (h3 : (n.log2 : Int) + e - 52 ≤ 971) : FP.Core.roundRatio FP.Core.b64 false n 1 e = .fin false (n * 2 ^ (52 - n.log2)) ((n.log2 : Int) + e - 52) ∧ 4503599627370496 ≤ n * 2 ^ (52 - n.log2) ∧ n * 2 ^ (52 - n.log2) < 9007199254740992 ∧ n.log2 ≤ 52 := by
  have hl : n.log2 < 53 := (Nat.log2_lt h0).mpr (by rw [rf_53]; exact h1)
  have p1 := Nat.log2_self_le h0
  have p2 : n < 2 ^ (n.log2 + 1) := Nat.lt_log2_self
  have c1 : 4503599627370496 ≤ n * 2 ^ (52 - n.log2) := by
    have e1 : 2 ^ n.log2 * 2 ^ (52 - n.log2) = 4503599627370496 := by rw [← Nat.pow_add, show n.log2 + (52 - n.log2) = 52 by omega]
    rw [← e1]
    exact Nat.mul_le_mul_right _ p1
  have c2 : n * 2 ^ (52 - n.log2) < 9007199254740992 := by
    have e1 : 2 ^ (n.log2 + 1) * 2 ^ (52 - n.log2) = 9007199254740992 := by rw [← Nat.pow_add, show n.log2 + 1 + (52 - n.log2) = 53 by omega]
    rw [← e1]
    exact Nat.mul_lt_mul_of_pos_right p2 (Nat.two_pow_pos _)
  refine ⟨?_, c1, c2, by omega⟩
  unfold FP.Core.roundRatio FP.Core.roundAt FP.Core.quantum
  have ep : ((FP.Core.b64.p : Nat) : Int) - 1 = 52 := by decide
  rw [if_neg h0, rf_lead h0, rf_qm, ep]
  have m : max (-1074) ((n.log2 : Int) + e - 52) = (n.log2 : Int) + e - 52 := Int.max_eq_right h2
  rw [m]
  unfold FP.Core.unitsNum FP.Core.unitsDen
  have t1 : (e - ((n.log2 : Int) + e - 52)).toNat = 52 - n.log2 := by omega
  have t2 : (((n.log2 : Int) + e - 52) - e).toNat = 0 := by omega
  rw [t1, t2, Nat.pow_zero, Nat.mul_one, rf_near1, rf_settle c2 h3]
/-- a number of 53 digits, written with zeros behind -/
theorem rf_sh {c k : Nat} {e : Int} (h1 : 4503599627370496 ≤ c) (h2 : c < 9007199254740992) (h3 : -1074 ≤ (k : Int) + e) (h4 : (k : Int) + e ≤ 971) : FP.Core.roundRatio FP.Core.b64 false (c * 2 ^ k) 1 e = .fin false c ((k : Int) + e) := by
  have hk := Nat.two_pow_pos k
  have h0 : c * 2 ^ k ≠ 0 := Nat.mul_ne_zero (by omega) (by omega)
  have hl : (c * 2 ^ k).log2 = 52 + k := by
    apply rf_log
    · rw [Nat.pow_add, rf_52]
      exact Nat.mul_le_mul_right _ h1
    · rw [show 52 + k + 1 = 53 + k by omega, Nat.pow_add, rf_53]
      exact Nat.mul_lt_mul_of_pos_right h2 hk
  unfold FP.Core.roundRatio FP.Core.roundAt FP.Core.quantum
  have ep : ((FP.Core.b64.p : Nat) : Int) - 1 = 52 := by decide
  rw [if_neg h0, rf_lead h0, rf_qm, ep, hl]
  have m0 : ((52 + k : Nat) : Int) + e - 52 = (k : Int) + e := by omega
  rw [m0, Int.max_eq_right h3]
  unfold FP.Core.unitsNum FP.Core.unitsDen
  have t1 : (e - ((k : Int) + e)).toNat = 0 := by omega
  have t2 : (((k : Int) + e) - e).toNat = k := by omega
  rw [t1, t2, Nat.pow_zero, Nat.mul_one, Nat.one_mul]
  have nr : FP.Core.nearest (c * 2 ^ k) (2 ^ k) = c := by
    unfold FP.Core.nearest
    rw [Nat.mul_mod_left, if_pos (by omega), Nat.mul_div_cancel _ hk]
  rw [nr, rf_settle h2 h4]
theorem rf_nb {num den a b : Nat} (hd : 0 < den) (h1 : a * den ≤ num) (h2 : num < b * den) : a ≤ FP.Core.nearest num den ∧ FP.Core.nearest num den ≤ b := by
  have d1 : a ≤ num / den := (Nat.le_div_iff_mul_le hd).mpr h1
  have d2 : num / den < b := (Nat.div_lt_iff_lt_mul hd).mpr h2
  unfold FP.Core.nearest
  split
  · omega
  · split
    · omega
    · omega
/-- a share: two numbers of 53 digits, the first not the greater one -/
theorem rf_div {c1 c2 : Nat} {e : Int} (a1 : 4503599627370496 ≤ c1) (a2 : c1 < 9007199254740992) (b1 : 4503599627370496 ≤ c2) (b2 : c2 < 9007199254740992) (e1 : e ≤ 0) (e2 : -40 ≤ e) (e0 : e = 0 → c1 ≤ c2) : ∃ c q, FP.Core.roundRatio FP.Core.b64 false c1 c2 e = .fin false c q ∧ 4503599627370496 ≤ c ∧ c < 9007199254740992 ∧ -100 ≤ q ∧ q ≤ -52 := by
  have l1 : c1.log2 = 52 := rf_log (by rw [rf_52]; exact a1) (by rw [rf_53]; exact a2)
  have l2 : c2.log2 = 52 := rf_log (by rw [rf_52]; exact b1) (by rw [rf_53]; exact b2)
  have ep : ((FP.Core.b64.p : Nat) : Int) - 1 = 52 := by decide
  have eb : (2 : Nat) ^ FP.Core.b64.p = 9007199254740992 := rf_53
  have ld : FP.Core.leading c1 c2 = if c2 ≤ c1 then 0 else -1 := by
    unfold FP.Core.leading
    have t0 : ((52 : Nat) : Int) - ((52 : Nat) : Int) = 0 := by decide
    have t1 : (0 : Int).toNat = 0 := rfl
    have t2 : (-(0 : Int)).toNat = 0 := rfl
    simp only [l1, l2, t0, t1, t2, Nat.pow_zero, Nat.mul_one]
    rfl
  unfold FP.Core.roundRatio FP.Core.roundAt FP.Core.quantum
  rw [if_neg (by omega), ld, rf_qm, ep]
  by_cases h : c2 ≤ c1
  · rw [if_pos h]
    have m : max (-1074) (0 + e - 52) = e - 52 := by rw [Int.max_eq_right (by omega)]; omega
    rw [m]
    unfold FP.Core.unitsNum FP.Core.unitsDen
    have t1 : (e - (e - 52)).toNat = 52 := by omega
    have t2 : ((e - 52) - e).toNat = 0 := by omega
    rw [t1, t2, Nat.pow_zero, Nat.mul_one, rf_52]
    have nb := rf_nb (num := c1 * 4503599627370496) (den := c2) (a := 4503599627370496) (b := 9007199254740992) (by omega) (by omega) (by omega)
    by_cases hq : e = 0
    · have hc : c1 = c2 := Nat.le_antisymm (e0 hq) h
      have nr : FP.Core.nearest (c1 * 4503599627370496) c2 = 4503599627370496 := by
        unfold FP.Core.nearest
        rw [hc, Nat.mul_mod_right, if_pos (by omega), Nat.mul_div_cancel_left _ (by omega)]
      rw [nr, rf_settle (by decide) (by omega)]
      exact ⟨_, _, rfl, by decide, by decide, by omega, by omega⟩
    · by_cases hs : FP.Core.nearest (c1 * 4503599627370496) c2 < 9007199254740992
      · rw [rf_settle hs (by omega)]
        exact ⟨_, _, rfl, nb.1, hs, by omega, by omega⟩
      · unfold FP.Core.settle FP.Core.bound
        rw [eb, if_neg hs, rf_t, rf_qx, if_pos (by omega)]
        exact ⟨_, _, rfl, by decide, by decide, by omega, by omega⟩
  · rw [if_neg h]
    have m : max (-1074) (-1 + e - 52) = e - 53 := by rw [Int.max_eq_right (by omega)]; omega
    rw [m]
    unfold FP.Core.unitsNum FP.Core.unitsDen
    have t1 : (e - (e - 53)).toNat = 53 := by omega
    have t2 : ((e - 53) - e).toNat = 0 := by omega
    rw [t1, t2, Nat.pow_zero, Nat.mul_one, rf_53]
    have nb := rf_nb (num := c1 * 9007199254740992) (den := c2) (a := 4503599627370496) (b := 9007199254740992) (by omega) (by omega) (by omega)
    by_cases hs : FP.Core.nearest (c1 * 9007199254740992) c2 < 9007199254740992
    · rw [rf_settle hs (by omega)]
      exact ⟨_, _, rfl, nb.1, hs, by omega, by omega⟩
    · unfold FP.Core.settle FP.Core.bound
      rw [eb, if_neg hs, rf_t, rf_qx, if_pos (by omega)]
      exact ⟨_, _, rfl, by decide, by decide, by omega, by omega⟩
theorem rf_i2d {x : Int32} {n : Nat} (hx : x.toInt = (n : Int)) (h0 : n ≠ 0) (h1 : n < 2147483648) : FP.i2d x = rf_F (n * 2 ^ (52 - n.log2)) ((n.log2 : Int) - 52) ∧ 4503599627370496 ≤ n * 2 ^ (52 - n.log2) ∧ n * 2 ^ (52 - n.log2) < 9007199254740992 ∧ n.log2 ≤ 30 := by
  have hl : n.log2 < 31 := (Nat.log2_lt h0).mpr (by exact h1)
  obtain ⟨a, b, c, _⟩ := rf_int (n := n) (e := 0) h0 (by omega) (by omega) (by omega)
  refine ⟨?_, b, c, by omega⟩
  show UInt64.ofNat (FP.Core.encode FP.Core.b64 (FP.Core.round FP.Core.b64 (FP.Core.ofInt x.toInt))) = _
  rw [hx]
  have e : FP.Core.ofInt (n : Int) = .fin false n 0 := by
    unfold FP.Core.ofInt
    have e1 : decide ((n : Int) < 0) = false := decide_eq_false (by omega)
    rw [e1, Int.natAbs_natCast]
  rw [e]
  show UInt64.ofNat (FP.Core.encode FP.Core.b64 (FP.Core.roundRatio FP.Core.b64 false n 1 0)) = _
  rw [a]
  unfold rf_F
  rw [show (n.log2 : Int) + 0 - 52 = (n.log2 : Int) - 52 by omega]
theorem rf_share {x y : Int32} (hx : 0 < x.toInt) (hxy : x.toInt ≤ y.toInt) : ∃ c q, FP.ddiv (FP.i2d x) (FP.i2d y) = rf_F c q ∧ 4503599627370496 ≤ c ∧ c < 9007199254740992 ∧ -100 ≤ q ∧ q ≤ -52 := by
  have bx := Int32.toInt_lt x
  have by' := Int32.toInt_lt y
  obtain ⟨n, hn⟩ : ∃ n : Nat, x.toInt = (n : Int) := ⟨x.toInt.toNat, by omega⟩
  obtain ⟨m, hm⟩ : ∃ m : Nat, y.toInt = (m : Int) := ⟨y.toInt.toNat, by omega⟩
  have n0 : n ≠ 0 := by omega
  have m0 : m ≠ 0 := by omega
  have hnm : n ≤ m := by omega
  obtain ⟨i1, i2, i3, i4⟩ := rf_i2d hn n0 (by omega)
  obtain ⟨j1, j2, j3, j4⟩ := rf_i2d hm m0 (by omega)
  have hlog : n.log2 ≤ m.log2 := by
    have a := Nat.log2_self_le n0
    have b : m < 2 ^ (m.log2 + 1) := Nat.lt_log2_self
    rcases Nat.lt_or_ge m.log2 n.log2 with c | c
    · have d : 2 ^ (m.log2 + 1) ≤ 2 ^ n.log2 := Nat.pow_le_pow_right (by decide) c
      omega
    · exact c
  have e0 : ((n.log2 : Int) - 52) - ((m.log2 : Int) - 52) = 0 → n * 2 ^ (52 - n.log2) ≤ m * 2 ^ (52 - m.log2) := by
    intro h
    have h : n.log2 = m.log2 := by omega
    rw [h]
    exact Nat.mul_le_mul_right _ hnm
  obtain ⟨c, q, r1, r2, r3, r4, r5⟩ := rf_div (e := ((n.log2 : Int) - 52) - ((m.log2 : Int) - 52)) i2 i3 j2 j3 (by omega) (by omega) e0
  refine ⟨c, q, ?_, r2, r3, r4, r5⟩
  rw [i1, j1]
  show UInt64.ofNat (FP.Core.encode FP.Core.b64 (FP.Core.quotient FP.Core.b64 (FP.Core.decode FP.Core.b64 _) (FP.Core.decode FP.Core.b64 _))) = _
  rw [rf_dec i2 i3 (by omega) (by omega), rf_dec j2 j3 (by omega) (by omega)]
  unfold FP.Core.quotient
  simp only
  rw [if_neg (by omega)]
  show UInt64.ofNat (FP.Core.encode FP.Core.b64 (FP.Core.roundRatio FP.Core.b64 false _ _ _)) = _
  rw [r1]
  rfl
theorem rf_two : FP.Core.decode FP.Core.b64 (4611686018427387904 : UInt64).toNat = .fin false 4503599627370496 (-51) := by decide +kernel
theorem rf_big : FP.Core.decode FP.Core.b64 (4841369599423283200 : UInt64).toNat = .fin false 4503599627370496 0 := by decide +kernel
theorem rf_one : FP.Core.decode FP.Core.b64 FP.dconst1.toNat = .fin false 4503599627370496 (-52) := by decide +kernel
theorem rf_nul : FP.Core.decode FP.Core.b64 FP.dconst0.toNat = .fin false 0 (-1074) := by decide +kernel
theorem rf_F1 : FP.dconst1 = rf_F 4503599627370496 (-52) := by decide +kernel
theorem rf_mul2 {c : Nat} {q : Int} (h1 : 4503599627370496 ≤ c) (h2 : c < 9007199254740992) (h3 : -1074 ≤ q) (h4 : q < 971) : FP.dmul (rf_F c q) 4611686018427387904 = rf_F c (q + 1) := by
  show UInt64.ofNat (FP.Core.encode FP.Core.b64 (FP.Core.round FP.Core.b64 (FP.Core.exactProduct (FP.Core.decode FP.Core.b64 _) (FP.Core.decode FP.Core.b64 _)))) = _
  rw [rf_dec h1 h2 h3 (by omega), rf_two]
  show UInt64.ofNat (FP.Core.encode FP.Core.b64 (FP.Core.roundRatio FP.Core.b64 false (c * 4503599627370496) 1 (q + -51))) = _
  rw [← rf_52, rf_sh h1 h2 (by omega) (by omega)]
  unfold rf_F
  rw [show ((52 : Nat) : Int) + (q + -51) = q + 1 by omega]
theorem rf_mulb {c : Nat} {q : Int} (h1 : 4503599627370496 ≤ c) (h2 : c < 9007199254740992) (h3 : -1074 ≤ q) (h4 : q + 52 ≤ 971) : FP.dmul (rf_F c q) 4841369599423283200 = rf_F c (q + 52) := by
  show UInt64.ofNat (FP.Core.encode FP.Core.b64 (FP.Core.round FP.Core.b64 (FP.Core.exactProduct (FP.Core.decode FP.Core.b64 _) (FP.Core.decode FP.Core.b64 _)))) = _
  rw [rf_dec h1 h2 h3 (by omega), rf_big]
  show UInt64.ofNat (FP.Core.encode FP.Core.b64 (FP.Core.roundRatio FP.Core.b64 false (c * 4503599627370496) 1 (q + 0))) = _
  rw [← rf_52, rf_sh h1 h2 (by omega) (by omega)]
  unfold rf_F
  rw [show ((52 : Nat) : Int) + (q + 0) = q + 52 by omega]
