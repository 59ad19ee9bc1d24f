/-! ===== pure rows: numbers, rows, the relation of a Pool's state to the model's row ===== -/
theorem r_ti {k : Nat} (h : k < 2000000000) : (Int32.ofNat k).toInt = (k : Int) := Int32.toInt_ofNat_of_lt (by omega)
theorem r_nc {k : Nat} (h : k < 2000000000) : (Int32.ofNat k).toNatClampNeg = k := Int32.toNatClampNeg_ofNat_of_lt (by omega)
theorem r_le {a b : Nat} (ha : a < 2000000000) (hb : b < 2000000000) : (Int32.ofNat a ≤ Int32.ofNat b) ↔ a ≤ b := by
  rw [Int32.le_iff_toInt_le, r_ti ha, r_ti hb]; omega
theorem r_lt {a b : Nat} (ha : a < 2000000000) (hb : b < 2000000000) : (Int32.ofNat a < Int32.ofNat b) ↔ a < b := by
  rw [Int32.lt_iff_toInt_lt, r_ti ha, r_ti hb]; omega
theorem r_eq {a b : Nat} (ha : a < 2000000000) (hb : b < 2000000000) : (Int32.ofNat a = Int32.ofNat b) ↔ a = b := by
  constructor
  · intro h
    have h := congrArg Int32.toInt h
    rw [r_ti ha, r_ti hb] at h
    omega
  · intro h; rw [h]
theorem r_m1 {a : Nat} (ha : a < 2000000000) : ¬ (Int32.ofNat a = -1) := by
  intro h
  have h := congrArg Int32.toInt h
  rw [r_ti ha] at h
  have e : (-1 : Int32).toInt = -1 := by decide
  omega
theorem r_m1' {a : Nat} (ha : a < 2000000000) : ¬ ((-1 : Int32) = Int32.ofNat a) := fun h => r_m1 ha h.symm
theorem r_n0 {a : Nat} (ha : a < 2000000000) : ¬ (Int32.ofNat a < 0) := by
  rw [Int32.lt_iff_toInt_lt, r_ti ha]
  have e : (0 : Int32).toInt = 0 := by decide
  omega
theorem r_in {k n : Nat} (h : k < n) (hn : n < 2000000000) : pq_in (Int32.ofNat k) n = true := by
  simp only [pq_in, Bool.and_eq_true, decide_eq_true_eq]
  exact ⟨r_n0 (by omega), by rw [r_nc (by omega)]; exact h⟩
theorem r_s (k : Nat) : Int32.ofNat k + 1 = Int32.ofNat (k + 1) := (Int32.ofNat_add k 1).symm
theorem r_d (k : Nat) : Int32.ofNat (k + 1) - 1 = Int32.ofNat k := by rw [← r_s]; simp
theorem r_d' (k : Nat) : Int32.ofNat (k + 1) + -1 = Int32.ofNat k := by rw [← Int32.sub_eq_add_neg]; exact r_d k
theorem r_a (a b : Nat) : Int32.ofNat a + Int32.ofNat b = Int32.ofNat (a + b) := (Int32.ofNat_add a b).symm
theorem r_out {x : Int32} {n : Nat} (hn : n < 2000000000) (h : pq_in x n = true) : ∃ k, k < n ∧ x = Int32.ofNat k := by
  simp only [pq_in, Bool.and_eq_true, decide_eq_true_eq] at h
  refine ⟨x.toNatClampNeg, h.2, ?_⟩
  refine (Int32.ofNat_toNatClampNeg x ?_).symm
  have h1 := h.1
  rw [Int32.lt_iff_toInt_lt] at h1
  rw [Int32.le_iff_toInt_le]
  omega
theorem r_outlt {x : Int32} {n : Nat} (hn : n < 2000000000) (h0 : ¬ x < 0) (h1 : x < Int32.ofNat n) : ∃ k, k < n ∧ x = Int32.ofNat k := by
  refine ⟨x.toNatClampNeg, ?_, ?_⟩
  · have h2 : x = Int32.ofNat x.toNatClampNeg := by
      refine (Int32.ofNat_toNatClampNeg x ?_).symm
      rw [Int32.lt_iff_toInt_lt] at h0
      rw [Int32.le_iff_toInt_le]
      omega
    rw [h2] at h1
    exact (r_lt (by have := Int32.toNatClampNeg_lt x; by_cases hk : x.toNatClampNeg < 2000000000; exact hk; exfalso; rw [Int32.lt_iff_toInt_lt] at h1; have e1 := Int32.toInt_ofNat_of_lt (n := x.toNatClampNeg) this; rw [e1, r_ti hn] at h1; omega) hn).mp h1
  · refine (Int32.ofNat_toNatClampNeg x ?_).symm
    rw [Int32.lt_iff_toInt_lt] at h0
    rw [Int32.le_iff_toInt_le]
    omega
theorem r_8 {k : Nat} (h : k < 2000000000) : ((8 : Int32) ≤ Int32.ofNat k) ↔ 8 ≤ k := r_le (a := 8) (by omega) h
/-! rows -/
theorem r_ue {f : Nat → Int32} {i j : Nat} {v : Int32} (h : i = j) : upd f i v j = v := by subst h; exact if_pos rfl
theorem r_un {f : Nat → Int32} {i j : Nat} {v : Int32} (h : i ≠ j) : upd f i v j = f j := if_neg (Ne.symm h)
theorem r_pe {u : Nat → Nat → Int32} {i j : Nat} {f : Nat → Int32} (h : i = j) : pu u i f j = f := by subst h; exact if_pos rfl
theorem r_pn {u : Nat → Nat → Int32} {i j : Nat} {f : Nat → Int32} (h : i ≠ j) : pu u i f j = u j := if_neg (Ne.symm h)
theorem r_pa {u : Nat → Nat → Int32} {i j p : Nat} {f : Nat → Int32} (h : i = j) : pu u i f j p = f p := by rw [r_pe h]
theorem r_pb {u : Nat → Nat → Int32} {i j p : Nat} {f : Nat → Int32} (h : i ≠ j) : pu u i f j p = u j p := by rw [r_pn h]
theorem r_l0 : (0 : Int32).toNatClampNeg = 0 := by decide
theorem r_l1 : (1 : Int32).toNatClampNeg = 1 := by decide
theorem r_l2 : (2 : Int32).toNatClampNeg = 2 := by decide
theorem r_l3 : (3 : Int32).toNatClampNeg = 3 := by decide
theorem r_l4 : (4 : Int32).toNatClampNeg = 4 := by decide
theorem r_l5 : (5 : Int32).toNatClampNeg = 5 := by decide
theorem r_l6 : (6 : Int32).toNatClampNeg = 6 := by decide
theorem r_l7 : (7 : Int32).toNatClampNeg = 7 := by decide
theorem r_l8 : (8 : Int32).toNatClampNeg = 8 := by decide
theorem r_l9 : (9 : Int32).toNatClampNeg = 9 := by decide
theorem r_l10 : (10 : Int32).toNatClampNeg = 10 := by decide
theorem r_l11 : (11 : Int32).toNatClampNeg = 11 := by decide
theorem r_l12 : (12 : Int32).toNatClampNeg = 12 := by decide
theorem r_l13 : (13 : Int32).toNatClampNeg = 13 := by decide
theorem r_l14 : (14 : Int32).toNatClampNeg = 14 := by decide
theorem r_l15 : (15 : Int32).toNatClampNeg = 15 := by decide
theorem r_l16 : (16 : Int32).toNatClampNeg = 16 := by decide
theorem r_l17 : (17 : Int32).toNatClampNeg = 17 := by decide
theorem r_b0 : vp_nar .boolean (0 : Int32) = 0 := by decide
theorem r_b1 : vp_nar .boolean (1 : Int32) = 1 := by decide
theorem r_bs {α β : Type} (a : α) (k : α → Option β) : (some a).bind k = k a := rfl
/-! the model's places and owners -/
theorem r_pi (p c : Nat) : (26 + 6 * Int32.ofNat p) + Int32.ofNat c = Int32.ofNat (26 + 6 * p + c) := by
  rw [Int32.ofNat_add, Int32.ofNat_add, Int32.ofNat_mul]; rfl
theorem r_oi (p c : Nat) : (74 + 5 * Int32.ofNat p) + Int32.ofNat c = Int32.ofNat (74 + 5 * p + c) := by
  rw [Int32.ofNat_add, Int32.ofNat_add, Int32.ofNat_mul]; rfl
theorem r_of {p c : Nat} (hp : p < 8) (hc : c < 6) (z : Nat → Int32) : fX4_of (Int32.ofNat p) (Int32.ofNat c) z = some (z (26 + 6 * p + c)) := by
  unfold fX4_of
  rw [r_pi, if_pos (r_in (by omega) (by omega)), r_nc (by omega)]
theorem r_put {p c : Nat} (hp : p < 8) (hc : c < 6) (v : Int32) (z : Nat → Int32) : fX4_put (Int32.ofNat p) (Int32.ofNat c) v z = some (upd z (26 + 6 * p + c) v) := by
  unfold fX4_put
  rw [r_pi, if_pos (r_in (by omega) (by omega)), r_nc (by omega)]
theorem r_its {p c : Nat} (hp : p < 8) (hc : c < 5) (z : Nat → Int32) : fX4_its (Int32.ofNat p) (Int32.ofNat c) z = some (z (74 + 5 * p + c)) := by
  unfold fX4_its
  rw [r_oi, if_pos (r_in (by omega) (by omega)), r_nc (by omega)]
theorem r_lay {p c : Nat} (hp : p < 8) (hc : c < 5) (v : Int32) (z : Nat → Int32) : fX4_lay (Int32.ofNat p) (Int32.ofNat c) v z = some (upd z (74 + 5 * p + c) v) := by
  unfold fX4_lay
  rw [r_oi, if_pos (r_in (by omega) (by omega)), r_nc (by omega)]
theorem r_of1 {p : Nat} (hp : p < 8) (z : Nat → Int32) : fX4_of (Int32.ofNat p) 1 z = some (z (26 + 6 * p + 1)) := r_of hp (c := 1) (by decide) z
theorem r_of0 {p : Nat} (hp : p < 8) (z : Nat → Int32) : fX4_of (Int32.ofNat p) 0 z = some (z (26 + 6 * p + 0)) := r_of hp (c := 0) (by decide) z
theorem r_of2 {p : Nat} (hp : p < 8) (z : Nat → Int32) : fX4_of (Int32.ofNat p) 2 z = some (z (26 + 6 * p + 2)) := r_of hp (c := 2) (by decide) z
theorem r_of3 {p : Nat} (hp : p < 8) (z : Nat → Int32) : fX4_of (Int32.ofNat p) 3 z = some (z (26 + 6 * p + 3)) := r_of hp (c := 3) (by decide) z
theorem r_of4 {p : Nat} (hp : p < 8) (z : Nat → Int32) : fX4_of (Int32.ofNat p) 4 z = some (z (26 + 6 * p + 4)) := r_of hp (c := 4) (by decide) z
theorem r_of5 {p : Nat} (hp : p < 8) (z : Nat → Int32) : fX4_of (Int32.ofNat p) 5 z = some (z (26 + 6 * p + 5)) := r_of hp (c := 5) (by decide) z
theorem r_put0 {p : Nat} (hp : p < 8) (v : Int32) (z : Nat → Int32) : fX4_put (Int32.ofNat p) 0 v z = some (upd z (26 + 6 * p + 0) v) := r_put hp (c := 0) (by decide) v z
theorem r_put1 {p : Nat} (hp : p < 8) (v : Int32) (z : Nat → Int32) : fX4_put (Int32.ofNat p) 1 v z = some (upd z (26 + 6 * p + 1) v) := r_put hp (c := 1) (by decide) v z
theorem r_put2 {p : Nat} (hp : p < 8) (v : Int32) (z : Nat → Int32) : fX4_put (Int32.ofNat p) 2 v z = some (upd z (26 + 6 * p + 2) v) := r_put hp (c := 2) (by decide) v z
theorem r_put3 {p : Nat} (hp : p < 8) (v : Int32) (z : Nat → Int32) : fX4_put (Int32.ofNat p) 3 v z = some (upd z (26 + 6 * p + 3) v) := r_put hp (c := 3) (by decide) v z
theorem r_put4 {p : Nat} (hp : p < 8) (v : Int32) (z : Nat → Int32) : fX4_put (Int32.ofNat p) 4 v z = some (upd z (26 + 6 * p + 4) v) := r_put hp (c := 4) (by decide) v z
theorem r_put5 {p : Nat} (hp : p < 8) (v : Int32) (z : Nat → Int32) : fX4_put (Int32.ofNat p) 5 v z = some (upd z (26 + 6 * p + 5) v) := r_put hp (c := 5) (by decide) v z
theorem r_its0 {p : Nat} (hp : p < 8) (z : Nat → Int32) : fX4_its (Int32.ofNat p) 0 z = some (z (74 + 5 * p + 0)) := r_its hp (c := 0) (by decide) z
theorem r_its1 {p : Nat} (hp : p < 8) (z : Nat → Int32) : fX4_its (Int32.ofNat p) 1 z = some (z (74 + 5 * p + 1)) := r_its hp (c := 1) (by decide) z
theorem r_its2 {p : Nat} (hp : p < 8) (z : Nat → Int32) : fX4_its (Int32.ofNat p) 2 z = some (z (74 + 5 * p + 2)) := r_its hp (c := 2) (by decide) z
theorem r_its3 {p : Nat} (hp : p < 8) (z : Nat → Int32) : fX4_its (Int32.ofNat p) 3 z = some (z (74 + 5 * p + 3)) := r_its hp (c := 3) (by decide) z
theorem r_its4 {p : Nat} (hp : p < 8) (z : Nat → Int32) : fX4_its (Int32.ofNat p) 4 z = some (z (74 + 5 * p + 4)) := r_its hp (c := 4) (by decide) z
theorem r_lay0 {p : Nat} (hp : p < 8) (v : Int32) (z : Nat → Int32) : fX4_lay (Int32.ofNat p) 0 v z = some (upd z (74 + 5 * p + 0) v) := r_lay hp (c := 0) (by decide) v z
theorem r_lay1 {p : Nat} (hp : p < 8) (v : Int32) (z : Nat → Int32) : fX4_lay (Int32.ofNat p) 1 v z = some (upd z (74 + 5 * p + 1) v) := r_lay hp (c := 1) (by decide) v z
theorem r_lay2 {p : Nat} (hp : p < 8) (v : Int32) (z : Nat → Int32) : fX4_lay (Int32.ofNat p) 2 v z = some (upd z (74 + 5 * p + 2) v) := r_lay hp (c := 2) (by decide) v z
theorem r_lay3 {p : Nat} (hp : p < 8) (v : Int32) (z : Nat → Int32) : fX4_lay (Int32.ofNat p) 3 v z = some (upd z (74 + 5 * p + 3) v) := r_lay hp (c := 3) (by decide) v z
theorem r_lay4 {p : Nat} (hp : p < 8) (v : Int32) (z : Nat → Int32) : fX4_lay (Int32.ofNat p) 4 v z = some (upd z (74 + 5 * p + 4) v) := r_lay hp (c := 4) (by decide) v z
theorem r_isIn {p : Nat} (hp : p < 8) (s : Int32) (z : Nat → Int32) : fX4_isIn (Int32.ofNat p) s z = if z (26 + 6 * p + 0) = s then some 1 else some 0 := by
  unfold fX4_isIn
  rw [r_of0 hp, r_bs]
theorem r_isT {p : Nat} (hp : p < 8) (z : Nat → Int32) : fX4_isThere (Int32.ofNat p) z = if z (74 + 5 * p + 0) = 1 then some 1 else some 0 := by
  unfold fX4_isThere
  rw [r_its0 hp, r_bs]
/-! the relation -/
def RI (u : Nat → Nat → Int32) (z : Nat → Int32) : Prop := (z 9 = u 0 0) ∧ (∀ k, k < 9 → z k = u 1 k) ∧ (∀ k, k < 7 → z (10 + k) = u 15 k) ∧ (∀ p, p < 8 → z (26 + 6 * p + 0) = u 2 p) ∧ (∀ p, p < 8 → z (26 + 6 * p + 1) = if u 2 p = 2 then u 3 p else -1) ∧ (∀ p, p < 8 → z (26 + 6 * p + 2) = u 4 p) ∧ (∀ p, p < 8 → z (26 + 6 * p + 3) = u 5 p) ∧ (∀ p, p < 8 → z (26 + 6 * p + 4) = if u 2 p = 0 then 0 else u 6 p) ∧ (∀ p, p < 8 → z (26 + 6 * p + 5) = u 7 p) ∧ (∀ o, o < 8 → z (74 + 5 * o + 0) = if u 8 o = 0 then 1 else 0) ∧ (∀ o, o < 8 → z (74 + 5 * o + 2) = u 9 o) ∧ (∀ o, o < 8 → z (74 + 5 * o + 3) = u 10 o) ∧ (∀ o, o < 8 → z (74 + 5 * o + 4) = u 11 o) ∧ (∀ p, p < 8 → u 2 p = 0 ∨ u 2 p = 1 ∨ u 2 p = 2) ∧ (∀ p, p < 8 → u 2 p = 2 → ∃ o, o < 8 ∧ u 3 p = Int32.ofNat o) ∧ (∀ p, p < 8 → u 4 p = 0 ∨ u 4 p = 1) ∧ (∀ p, p < 8 → u 2 p = 0 → u 4 p = 0) ∧ (∀ p, p < 8 → u 2 p = 0 → u 5 p = 0) ∧ (∀ o, o < 8 → u 8 o = 0 ∨ u 8 o = 1) ∧ (∀ k, k < 9 → pw_least k ≤ u 1 k ∧ u 1 k ≤ pw_great k)
theorem RI.tm {u : Nat → Nat → Int32} {z : Nat → Int32} (h : RI u z) : z 9 = u 0 0 := h.1
theorem RI.st {u : Nat → Nat → Int32} {z : Nat → Int32} (h : RI u z) : ∀ k, k < 9 → z k = u 1 k := h.2.1
theorem RI.tt {u : Nat → Nat → Int32} {z : Nat → Int32} (h : RI u z) : ∀ k, k < 7 → z (10 + k) = u 15 k := h.2.2.1
theorem RI.p0 {u : Nat → Nat → Int32} {z : Nat → Int32} (h : RI u z) : ∀ p, p < 8 → z (26 + 6 * p + 0) = u 2 p := h.2.2.2.1
theorem RI.p1 {u : Nat → Nat → Int32} {z : Nat → Int32} (h : RI u z) : ∀ p, p < 8 → z (26 + 6 * p + 1) = if u 2 p = 2 then u 3 p else -1 := h.2.2.2.2.1
theorem RI.p2 {u : Nat → Nat → Int32} {z : Nat → Int32} (h : RI u z) : ∀ p, p < 8 → z (26 + 6 * p + 2) = u 4 p := h.2.2.2.2.2.1
theorem RI.p3 {u : Nat → Nat → Int32} {z : Nat → Int32} (h : RI u z) : ∀ p, p < 8 → z (26 + 6 * p + 3) = u 5 p := h.2.2.2.2.2.2.1
theorem RI.p4 {u : Nat → Nat → Int32} {z : Nat → Int32} (h : RI u z) : ∀ p, p < 8 → z (26 + 6 * p + 4) = if u 2 p = 0 then 0 else u 6 p := h.2.2.2.2.2.2.2.1
theorem RI.p5 {u : Nat → Nat → Int32} {z : Nat → Int32} (h : RI u z) : ∀ p, p < 8 → z (26 + 6 * p + 5) = u 7 p := h.2.2.2.2.2.2.2.2.1
theorem RI.o0 {u : Nat → Nat → Int32} {z : Nat → Int32} (h : RI u z) : ∀ o, o < 8 → z (74 + 5 * o + 0) = if u 8 o = 0 then 1 else 0 := h.2.2.2.2.2.2.2.2.2.1
theorem RI.o2 {u : Nat → Nat → Int32} {z : Nat → Int32} (h : RI u z) : ∀ o, o < 8 → z (74 + 5 * o + 2) = u 9 o := h.2.2.2.2.2.2.2.2.2.2.1
theorem RI.o3 {u : Nat → Nat → Int32} {z : Nat → Int32} (h : RI u z) : ∀ o, o < 8 → z (74 + 5 * o + 3) = u 10 o := h.2.2.2.2.2.2.2.2.2.2.2.1
theorem RI.o4 {u : Nat → Nat → Int32} {z : Nat → Int32} (h : RI u z) : ∀ o, o < 8 → z (74 + 5 * o + 4) = u 11 o := h.2.2.2.2.2.2.2.2.2.2.2.2.1
theorem RI.s2 {u : Nat → Nat → Int32} {z : Nat → Int32} (h : RI u z) : ∀ p, p < 8 → u 2 p = 0 ∨ u 2 p = 1 ∨ u 2 p = 2 := h.2.2.2.2.2.2.2.2.2.2.2.2.2.1
theorem RI.s3 {u : Nat → Nat → Int32} {z : Nat → Int32} (h : RI u z) : ∀ p, p < 8 → u 2 p = 2 → ∃ o, o < 8 ∧ u 3 p = Int32.ofNat o := h.2.2.2.2.2.2.2.2.2.2.2.2.2.2.1
theorem RI.s4 {u : Nat → Nat → Int32} {z : Nat → Int32} (h : RI u z) : ∀ p, p < 8 → u 4 p = 0 ∨ u 4 p = 1 := h.2.2.2.2.2.2.2.2.2.2.2.2.2.2.2.1
theorem RI.e4 {u : Nat → Nat → Int32} {z : Nat → Int32} (h : RI u z) : ∀ p, p < 8 → u 2 p = 0 → u 4 p = 0 := h.2.2.2.2.2.2.2.2.2.2.2.2.2.2.2.2.1
theorem RI.e5 {u : Nat → Nat → Int32} {z : Nat → Int32} (h : RI u z) : ∀ p, p < 8 → u 2 p = 0 → u 5 p = 0 := h.2.2.2.2.2.2.2.2.2.2.2.2.2.2.2.2.2.1
theorem RI.s8 {u : Nat → Nat → Int32} {z : Nat → Int32} (h : RI u z) : ∀ o, o < 8 → u 8 o = 0 ∨ u 8 o = 1 := h.2.2.2.2.2.2.2.2.2.2.2.2.2.2.2.2.2.2.1
theorem RI.g {u : Nat → Nat → Int32} {z : Nat → Int32} (h : RI u z) : ∀ k, k < 9 → pw_least k ≤ u 1 k ∧ u 1 k ≤ pw_great k := h.2.2.2.2.2.2.2.2.2.2.2.2.2.2.2.2.2.2.2
theorem RI.mk {u : Nat → Nat → Int32} {z : Nat → Int32} (tm : z 9 = u 0 0) (st : ∀ k, k < 9 → z k = u 1 k) (tt : ∀ k, k < 7 → z (10 + k) = u 15 k) (p0 : ∀ p, p < 8 → z (26 + 6 * p + 0) = u 2 p) (p1 : ∀ p, p < 8 → z (26 + 6 * p + 1) = if u 2 p = 2 then u 3 p else -1) (p2 : ∀ p, p < 8 → z (26 + 6 * p + 2) = u 4 p) (p3 : ∀ p, p < 8 → z (26 + 6 * p + 3) = u 5 p) (p4 : ∀ p, p < 8 → z (26 + 6 * p + 4) = if u 2 p = 0 then 0 else u 6 p) (p5 : ∀ p, p < 8 → z (26 + 6 * p + 5) = u 7 p) (o0 : ∀ o, o < 8 → z (74 + 5 * o + 0) = if u 8 o = 0 then 1 else 0) (o2 : ∀ o, o < 8 → z (74 + 5 * o + 2) = u 9 o) (o3 : ∀ o, o < 8 → z (74 + 5 * o + 3) = u 10 o) (o4 : ∀ o, o < 8 → z (74 + 5 * o + 4) = u 11 o) (s2 : ∀ p, p < 8 → u 2 p = 0 ∨ u 2 p = 1 ∨ u 2 p = 2) (s3 : ∀ p, p < 8 → u 2 p = 2 → ∃ o, o < 8 ∧ u 3 p = Int32.ofNat o) (s4 : ∀ p, p < 8 → u 4 p = 0 ∨ u 4 p = 1) (e4 : ∀ p, p < 8 → u 2 p = 0 → u 4 p = 0) (e5 : ∀ p, p < 8 → u 2 p = 0 → u 5 p = 0) (s8 : ∀ o, o < 8 → u 8 o = 0 ∨ u 8 o = 1) (g : ∀ k, k < 9 → pw_least k ≤ u 1 k ∧ u 1 k ≤ pw_great k) : RI u z := ⟨tm, st, tt, p0, p1, p2, p3, p4, p5, o0, o2, o3, o4, s2, s3, s4, e4, e5, s8, g⟩
def RQ (u : Nat → Nat → Int32) (z : Nat → Int32) (Q : List Nat) (t : Nat) : Prop := (z 17 = Int32.ofNat Q.length) ∧ (u 14 0 = Int32.ofNat Q.length) ∧ (∀ k, k < 8 → z (18 + k) = Int32.ofNat (Q.getD k 0)) ∧ (∀ k, k < Q.length → u 13 k = Int32.ofNat (Q.getD k 0)) ∧ (Q.Nodup) ∧ (∀ o, o ∈ Q → o < 8) ∧ (∀ o, o ∈ Q → u 8 o = 0) ∧ (∀ o, o < 8 → z (74 + 5 * o + 1) = if o ∈ Q then u 12 o else 0) ∧ (u 0 0 = Int32.ofNat t) ∧ (∀ o, o ∈ Q → ∃ s, s ≤ t ∧ u 12 o = Int32.ofNat s)
theorem RQ.n1 {u : Nat → Nat → Int32} {z : Nat → Int32} {Q : List Nat} {t : Nat} (h : RQ u z Q t) : z 17 = Int32.ofNat Q.length := h.1
theorem RQ.n2 {u : Nat → Nat → Int32} {z : Nat → Int32} {Q : List Nat} {t : Nat} (h : RQ u z Q t) : u 14 0 = Int32.ofNat Q.length := h.2.1
theorem RQ.q1 {u : Nat → Nat → Int32} {z : Nat → Int32} {Q : List Nat} {t : Nat} (h : RQ u z Q t) : ∀ k, k < 8 → z (18 + k) = Int32.ofNat (Q.getD k 0) := h.2.2.1
theorem RQ.q2 {u : Nat → Nat → Int32} {z : Nat → Int32} {Q : List Nat} {t : Nat} (h : RQ u z Q t) : ∀ k, k < Q.length → u 13 k = Int32.ofNat (Q.getD k 0) := h.2.2.2.1
theorem RQ.nd {u : Nat → Nat → Int32} {z : Nat → Int32} {Q : List Nat} {t : Nat} (h : RQ u z Q t) : Q.Nodup := h.2.2.2.2.1
theorem RQ.lt {u : Nat → Nat → Int32} {z : Nat → Int32} {Q : List Nat} {t : Nat} (h : RQ u z Q t) : ∀ o, o ∈ Q → o < 8 := h.2.2.2.2.2.1
theorem RQ.th {u : Nat → Nat → Int32} {z : Nat → Int32} {Q : List Nat} {t : Nat} (h : RQ u z Q t) : ∀ o, o ∈ Q → u 8 o = 0 := h.2.2.2.2.2.2.1
theorem RQ.o1 {u : Nat → Nat → Int32} {z : Nat → Int32} {Q : List Nat} {t : Nat} (h : RQ u z Q t) : ∀ o, o < 8 → z (74 + 5 * o + 1) = if o ∈ Q then u 12 o else 0 := h.2.2.2.2.2.2.2.1
theorem RQ.tm {u : Nat → Nat → Int32} {z : Nat → Int32} {Q : List Nat} {t : Nat} (h : RQ u z Q t) : u 0 0 = Int32.ofNat t := h.2.2.2.2.2.2.2.2.1
theorem RQ.ws {u : Nat → Nat → Int32} {z : Nat → Int32} {Q : List Nat} {t : Nat} (h : RQ u z Q t) : ∀ o, o ∈ Q → ∃ s, s ≤ t ∧ u 12 o = Int32.ofNat s := h.2.2.2.2.2.2.2.2.2
theorem RQ.mk {u : Nat → Nat → Int32} {z : Nat → Int32} {Q : List Nat} {t : Nat} (n1 : z 17 = Int32.ofNat Q.length) (n2 : u 14 0 = Int32.ofNat Q.length) (q1 : ∀ k, k < 8 → z (18 + k) = Int32.ofNat (Q.getD k 0)) (q2 : ∀ k, k < Q.length → u 13 k = Int32.ofNat (Q.getD k 0)) (nd : Q.Nodup) (lt : ∀ o, o ∈ Q → o < 8) (th : ∀ o, o ∈ Q → u 8 o = 0) (o1 : ∀ o, o < 8 → z (74 + 5 * o + 1) = if o ∈ Q then u 12 o else 0) (tm : u 0 0 = Int32.ofNat t) (ws : ∀ o, o ∈ Q → ∃ s, s ≤ t ∧ u 12 o = Int32.ofNat s) : RQ u z Q t := ⟨n1, n2, q1, q2, nd, lt, th, o1, tm, ws⟩
/-- what finding, closing and checking leave alone -/
def RF (u : Nat → Nat → Int32) (z : Nat → Int32) (u' : Nat → Nat → Int32) (z' : Nat → Int32) : Prop := (u' 0 = u 0) ∧ (u' 1 = u 1) ∧ (u' 8 = u 8) ∧ (u' 9 = u 9) ∧ (u' 12 = u 12) ∧ (u' 13 = u 13) ∧ (u' 14 = u 14) ∧ (∀ k, 17 ≤ k → k < 26 → z' k = z k) ∧ (∀ o, o < 8 → z' (74 + 5 * o + 1) = z (74 + 5 * o + 1))
theorem RF.a0 {u : Nat → Nat → Int32} {z : Nat → Int32} {u' : Nat → Nat → Int32} {z' : Nat → Int32} (h : RF u z u' z') : u' 0 = u 0 := h.1
theorem RF.a1 {u : Nat → Nat → Int32} {z : Nat → Int32} {u' : Nat → Nat → Int32} {z' : Nat → Int32} (h : RF u z u' z') : u' 1 = u 1 := h.2.1
theorem RF.a8 {u : Nat → Nat → Int32} {z : Nat → Int32} {u' : Nat → Nat → Int32} {z' : Nat → Int32} (h : RF u z u' z') : u' 8 = u 8 := h.2.2.1
theorem RF.a9 {u : Nat → Nat → Int32} {z : Nat → Int32} {u' : Nat → Nat → Int32} {z' : Nat → Int32} (h : RF u z u' z') : u' 9 = u 9 := h.2.2.2.1
theorem RF.a12 {u : Nat → Nat → Int32} {z : Nat → Int32} {u' : Nat → Nat → Int32} {z' : Nat → Int32} (h : RF u z u' z') : u' 12 = u 12 := h.2.2.2.2.1
theorem RF.a13 {u : Nat → Nat → Int32} {z : Nat → Int32} {u' : Nat → Nat → Int32} {z' : Nat → Int32} (h : RF u z u' z') : u' 13 = u 13 := h.2.2.2.2.2.1
theorem RF.a14 {u : Nat → Nat → Int32} {z : Nat → Int32} {u' : Nat → Nat → Int32} {z' : Nat → Int32} (h : RF u z u' z') : u' 14 = u 14 := h.2.2.2.2.2.2.1
theorem RF.zq {u : Nat → Nat → Int32} {z : Nat → Int32} {u' : Nat → Nat → Int32} {z' : Nat → Int32} (h : RF u z u' z') : ∀ k, 17 ≤ k → k < 26 → z' k = z k := h.2.2.2.2.2.2.2.1
theorem RF.zw {u : Nat → Nat → Int32} {z : Nat → Int32} {u' : Nat → Nat → Int32} {z' : Nat → Int32} (h : RF u z u' z') : ∀ o, o < 8 → z' (74 + 5 * o + 1) = z (74 + 5 * o + 1) := h.2.2.2.2.2.2.2.2
theorem RF.mk {u : Nat → Nat → Int32} {z : Nat → Int32} {u' : Nat → Nat → Int32} {z' : Nat → Int32} (a0 : u' 0 = u 0) (a1 : u' 1 = u 1) (a8 : u' 8 = u 8) (a9 : u' 9 = u 9) (a12 : u' 12 = u 12) (a13 : u' 13 = u 13) (a14 : u' 14 = u 14) (zq : ∀ k, 17 ≤ k → k < 26 → z' k = z k) (zw : ∀ o, o < 8 → z' (74 + 5 * o + 1) = z (74 + 5 * o + 1)) : RF u z u' z' := ⟨a0, a1, a8, a9, a12, a13, a14, zq, zw⟩
theorem RF.rfl {u : Nat → Nat → Int32} {z : Nat → Int32} : RF u z u z := ⟨_root_.rfl, _root_.rfl, _root_.rfl, _root_.rfl, _root_.rfl, _root_.rfl, _root_.rfl, fun _ _ _ => _root_.rfl, fun _ _ => _root_.rfl⟩
theorem RF.trans {u u1 u2 : Nat → Nat → Int32} {z z1 z2 : Nat → Int32} (h : RF u z u1 z1) (g : RF u1 z1 u2 z2) : RF u z u2 z2 :=
  ⟨g.a0.trans h.a0, g.a1.trans h.a1, g.a8.trans h.a8, g.a9.trans h.a9, g.a12.trans h.a12, g.a13.trans h.a13, g.a14.trans h.a14, fun k a b => (g.zq k a b).trans (h.zq k a b), fun o a => (g.zw o a).trans (h.zw o a)⟩
theorem RF.rq {u u1 : Nat → Nat → Int32} {z z1 : Nat → Int32} {Q : List Nat} {t : Nat} (h : RF u z u1 z1) (g : RQ u z Q t) : RQ u1 z1 Q t := RQ.mk
  (n1 := (h.zq 17 (by decide) (by decide)).trans g.n1)
  (n2 := by rw [h.a14]; exact g.n2)
  (q1 := fun k hk => (h.zq (18 + k) (by omega) (by omega)).trans (g.q1 k hk))
  (q2 := fun k hk => by rw [h.a13]; exact g.q2 k hk)
  (nd := g.nd)
  (lt := g.lt)
  (th := fun o ho => by rw [h.a8]; exact g.th o ho)
  (o1 := fun o ho => by rw [h.zw o ho, h.a12]; exact g.o1 o ho)
  (tm := by rw [h.a0]; exact g.tm)
  (ws := fun o ho => by rw [h.a12]; exact g.ws o ho)
theorem r_pig : ∀ (n : Nat) (l : List Nat), l.Nodup → (∀ x, x ∈ l → x < n) → l.length ≤ n
  | 0, l, _, h => by
    cases l with
    | nil => exact Nat.le_refl _
    | cons a l => exact absurd (h a (List.mem_cons_self ..)) (Nat.not_lt_zero _)
  | n + 1, l, hd, h => by
    have e := r_pig n (l.erase n) (hd.erase n) (fun x hx => by
      have h1 := (List.Nodup.mem_erase_iff hd).mp hx
      have h2 := h x h1.2
      omega)
    have h3 : l.length ≤ (l.erase n).length + 1 := by
      rw [List.length_erase]
      split <;> omega
    omega
theorem RQ.len {u : Nat → Nat → Int32} {z : Nat → Int32} {Q : List Nat} {t : Nat} (h : RQ u z Q t) : Q.length ≤ 8 := r_pig 8 Q h.nd h.lt
