/-! ===== numbers, rows (rows of whole's proof), a pool's state in natural numbers ===== -/
theorem r_ti {k : Nat} (h : k < 2000000000) : (Int32.ofNat k).toInt = (k : Int) := Int32.toInt_ofNat_of_lt (by omega)
theorem r_nc {k : Nat} (h : k < 2000000000) : (Int32.ofNat k).toNatClampNeg = k := Int32.toNatClampNeg_ofNat_of_lt (by omega)
theorem r_le {a b : Nat} (ha : a < 2000000000) (hb : b < 2000000000) : (Int32.ofNat a ≤ Int32.ofNat b) ↔ a ≤ b := by
  rw [Int32.le_iff_toInt_le, r_ti ha, r_ti hb]; omega
theorem r_lt {a b : Nat} (ha : a < 2000000000) (hb : b < 2000000000) : (Int32.ofNat a < Int32.ofNat b) ↔ a < b := by
  rw [Int32.lt_iff_toInt_lt, r_ti ha, r_ti hb]; omega
theorem r_eq {a b : Nat} (ha : a < 2000000000) (hb : b < 2000000000) : (Int32.ofNat a = Int32.ofNat b) ↔ a = b := by
  constructor
  · intro h
    have h := congrArg Int32.toInt h
    rw [r_ti ha, r_ti hb] at h
    omega
  · intro h; rw [h]
theorem r_m1 {a : Nat} (ha : a < 2000000000) : ¬ (Int32.ofNat a = -1) := by
  intro h
  have h := congrArg Int32.toInt h
  rw [r_ti ha] at h
  have e : (-1 : Int32).toInt = -1 := by decide
  omega
theorem r_m1' {a : Nat} (ha : a < 2000000000) : ¬ ((-1 : Int32) = Int32.ofNat a) := fun h => r_m1 ha h.symm
theorem r_n0 {a : Nat} (ha : a < 2000000000) : ¬ (Int32.ofNat a < 0) := by
  rw [Int32.lt_iff_toInt_lt, r_ti ha]
  have e : (0 : Int32).toInt = 0 := by decide
  omega
theorem r_in {k n : Nat} (h : k < n) (hn : n < 2000000000) : pq_in (Int32.ofNat k) n = true := by
  simp only [pq_in, Bool.and_eq_true, decide_eq_true_eq]
  exact ⟨r_n0 (by omega), by rw [r_nc (by omega)]; exact h⟩
theorem r_s (k : Nat) : Int32.ofNat k + 1 = Int32.ofNat (k + 1) := (Int32.ofNat_add k 1).symm
theorem r_d (k : Nat) : Int32.ofNat (k + 1) - 1 = Int32.ofNat k := by rw [← r_s]; simp
theorem r_d' (k : Nat) : Int32.ofNat (k + 1) + -1 = Int32.ofNat k := by rw [← Int32.sub_eq_add_neg]; exact r_d k
theorem r_a (a b : Nat) : Int32.ofNat a + Int32.ofNat b = Int32.ofNat (a + b) := (Int32.ofNat_add a b).symm
theorem r_out {x : Int32} {n : Nat} (hn : n < 2000000000) (h : pq_in x n = true) : ∃ k, k < n ∧ x = Int32.ofNat k := by
  simp only [pq_in, Bool.and_eq_true, decide_eq_true_eq] at h
  refine ⟨x.toNatClampNeg, h.2, ?_⟩
  refine (Int32.ofNat_toNatClampNeg x ?_).symm
  have h1 := h.1
  rw [Int32.lt_iff_toInt_lt] at h1
  rw [Int32.le_iff_toInt_le]
  omega
theorem r_outlt {x : Int32} {n : Nat} (hn : n < 2000000000) (h0 : ¬ x < 0) (h1 : x < Int32.ofNat n) : ∃ k, k < n ∧ x = Int32.ofNat k := by
  refine ⟨x.toNatClampNeg, ?_, ?_⟩
  · have h2 : x = Int32.ofNat x.toNatClampNeg := by
      refine (Int32.ofNat_toNatClampNeg x ?_).symm
      rw [Int32.lt_iff_toInt_lt] at h0
      rw [Int32.le_iff_toInt_le]
      omega
    rw [h2] at h1
    exact (r_lt (by have := Int32.toNatClampNeg_lt x; by_cases hk : x.toNatClampNeg < 2000000000; exact hk; exfalso; rw [Int32.lt_iff_toInt_lt] at h1; have e1 := Int32.toInt_ofNat_of_lt (n := x.toNatClampNeg) this; rw [e1, r_ti hn] at h1; omega) hn).mp h1
  · refine (Int32.ofNat_toNatClampNeg x ?_).symm
    rw [Int32.lt_iff_toInt_lt] at h0
    rw [Int32.le_iff_toInt_le]
    omega
theorem r_8 {k : Nat} (h : k < 2000000000) : ((8 : Int32) ≤ Int32.ofNat k) ↔ 8 ≤ k := r_le (a := 8) (by omega) h
theorem r_ue {f : Nat → Int32} {i j : Nat} {v : Int32} (h : i = j) : upd f i v j = v := by subst h; exact if_pos rfl
theorem r_un {f : Nat → Int32} {i j : Nat} {v : Int32} (h : i ≠ j) : upd f i v j = f j := if_neg (Ne.symm h)
theorem r_pe {u : Nat → Nat → Int32} {i j : Nat} {f : Nat → Int32} (h : i = j) : pu u i f j = f := by subst h; exact if_pos rfl
theorem r_pn {u : Nat → Nat → Int32} {i j : Nat} {f : Nat → Int32} (h : i ≠ j) : pu u i f j = u j := if_neg (Ne.symm h)
theorem r_pa {u : Nat → Nat → Int32} {i j p : Nat} {f : Nat → Int32} (h : i = j) : pu u i f j p = f p := by rw [r_pe h]
theorem r_pb {u : Nat → Nat → Int32} {i j p : Nat} {f : Nat → Int32} (h : i ≠ j) : pu u i f j p = u j p := by rw [r_pn h]
theorem r_l0 : (0 : Int32).toNatClampNeg = 0 := by decide
theorem r_l1 : (1 : Int32).toNatClampNeg = 1 := by decide
theorem r_l2 : (2 : Int32).toNatClampNeg = 2 := by decide
theorem r_l3 : (3 : Int32).toNatClampNeg = 3 := by decide
theorem r_l4 : (4 : Int32).toNatClampNeg = 4 := by decide
theorem r_l5 : (5 : Int32).toNatClampNeg = 5 := by decide
theorem r_l6 : (6 : Int32).toNatClampNeg = 6 := by decide
theorem r_l7 : (7 : Int32).toNatClampNeg = 7 := by decide
theorem r_l8 : (8 : Int32).toNatClampNeg = 8 := by decide
theorem r_b0 : vp_nar .boolean (0 : Int32) = 0 := by decide
theorem r_b1 : vp_nar .boolean (1 : Int32) = 1 := by decide
theorem r_bs {α β : Type} (a : α) (k : α → Option β) : (some a).bind k = k a := rfl
theorem r_pig : ∀ (n : Nat) (l : List Nat), l.Nodup → (∀ x, x ∈ l → x < n) → l.length ≤ n
  | 0, l, _, h => by
    cases l with
    | nil => exact Nat.le_refl _
    | cons a l => exact absurd (h a (List.mem_cons_self ..)) (Nat.not_lt_zero _)
  | n + 1, l, hd, h => by
    have e := r_pig n (l.erase n) (hd.erase n) (fun x hx => by
      have h1 := (List.Nodup.mem_erase_iff hd).mp hx
      have h2 := h x h1.2
      omega)
    have h3 : l.length ≤ (l.erase n).length + 1 := by
      rw [List.length_erase]
      split <;> omega
    omega
def r_cnt (f : Nat → Bool) : Nat → Nat → Nat
  | 0, _ => 0
  | j + 1, k => (if f k then 1 else 0) + r_cnt f j (k + 1)
theorem r_cnt_le (f : Nat → Bool) : ∀ j k, r_cnt f j k ≤ j
  | 0, _ => Nat.le_refl _
  | j + 1, k => by
    have e := r_cnt_le f j (k + 1)
    unfold r_cnt
    split <;> omega
theorem r_cnt_congr {f g : Nat → Bool} : ∀ j k, (∀ i, k ≤ i → i < k + j → f i = g i) → r_cnt f j k = r_cnt g j k
  | 0, _, _ => rfl
  | j + 1, k, h => by
    have e := r_cnt_congr j (k + 1) (fun i a b => h i (by omega) (by omega))
    unfold r_cnt
    rw [h k (Nat.le_refl _) (by omega), e]
theorem r_10 : ¬ (1 : Int32) = 0 := by decide
theorem r_8n {k : Nat} (h : k < 8) : ¬ ((8 : Int32) ≤ Int32.ofNat k) := fun c => by have := (r_8 (by omega)).mp c; omega
theorem r_ss (u : Nat → Nat → Int32) (s : Int32) : ∀ j k a n, k + j = 8 → j < n → a + j < 1000 → fX2_standingSo_L4 s u n (Int32.ofNat a) (Int32.ofNat k) = some (Int32.ofNat (a + r_cnt (fun p => decide (u 2 p = s)) j k))
  | 0, k, a, n + 1, h, _, _ => by
    rw [fX2_standingSo_L4, if_pos ((r_8 (by omega)).mpr (by omega))]
    rfl
  | j + 1, k, a, n + 1, h, hn, ha => by
    rw [fX2_standingSo_L4, if_neg (r_8n (by omega)), if_pos (r_in (by omega) (by omega)), r_nc (by omega), r_s k]
    by_cases hs : u 2 k = s
    · rw [if_pos hs, r_s a, r_ss u s j (k + 1) (a + 1) n (by omega) (by omega) (by omega)]
      simp only [r_cnt, hs, decide_true, if_true]
      rw [Nat.add_assoc a 1]
    · rw [if_neg hs, r_ss u s j (k + 1) a n (by omega) (by omega) (by omega)]
      simp only [r_cnt, hs, decide_false, Bool.false_eq_true, if_false, Nat.zero_add]
def r_many (u : Nat → Nat → Int32) (s : Int32) : Nat := r_cnt (fun p => decide (u 2 p = s)) 8 0
theorem r_many_le (u : Nat → Nat → Int32) (s : Int32) : r_many u s ≤ 8 := r_cnt_le _ 8 0
theorem r_so (u : Nat → Nat → Int32) (s : Int32) : fX2_standingSo s u = some (Int32.ofNat (r_many u s)) := by
  unfold fX2_standingSo
  refine (r_ss u s 8 0 0 1000 rfl (by decide) (by decide)).trans ?_
  rw [Nat.zero_add]; rfl
def r_con (u : Nat → Nat → Int32) : Nat := 8 - r_many u 0
theorem r_co (u : Nat → Nat → Int32) : fX2_connections u = some (Int32.ofNat (r_con u)) := by
  unfold fX2_connections
  rw [r_so, r_bs]
  unfold r_con
  rw [Int32.ofNat_sub 8 _ (r_many_le u 0)]
  rfl
def r_lc (u : Nat → Nat → Int32) (o : Nat) : Nat := r_cnt (fun p => decide (u 2 p = 2 ∧ u 3 p = Int32.ofNat o)) 8 0
theorem r_lcl (u : Nat → Nat → Int32) (o : Nat) : ∀ j k a n, k + j = 8 → j < n → a + j < 1000 → fX2_lentCount_L4 (Int32.ofNat o) u n (Int32.ofNat a) (Int32.ofNat k) = some (Int32.ofNat (a + r_cnt (fun p => decide (u 2 p = 2 ∧ u 3 p = Int32.ofNat o)) j k))
  | 0, k, a, n + 1, h, _, _ => by
    rw [fX2_lentCount_L4, if_pos ((r_8 (by omega)).mpr (by omega))]
    rfl
  | j + 1, k, a, n + 1, h, hn, ha => by
    rw [fX2_lentCount_L4, if_neg (r_8n (by omega)), if_pos (r_in (by omega) (by omega)), if_pos (r_in (by omega) (by omega)), r_nc (by omega), r_s k]
    by_cases hs : u 2 k = 2
    · rw [if_pos hs]
      by_cases ho : u 3 k = Int32.ofNat o
      · rw [if_pos ho, r_s a, r_lcl u o j (k + 1) (a + 1) n (by omega) (by omega) (by omega)]
        simp only [r_cnt, hs, ho, and_self, decide_true, if_true]
        rw [Nat.add_assoc a 1]
      · rw [if_neg ho, r_lcl u o j (k + 1) a n (by omega) (by omega) (by omega)]
        simp only [r_cnt, ho, and_false, decide_false, Bool.false_eq_true, if_false, Nat.zero_add]
    · rw [if_neg hs, r_lcl u o j (k + 1) a n (by omega) (by omega) (by omega)]
      simp only [r_cnt, hs, false_and, decide_false, Bool.false_eq_true, if_false, Nat.zero_add]
theorem r_lco (u : Nat → Nat → Int32) (o : Nat) : fX2_lentCount (Int32.ofNat o) u = some (Int32.ofNat (r_lc u o)) := by
  unfold fX2_lentCount
  refine (r_lcl u o 8 0 0 1000 rfl (by decide) (by decide)).trans ?_
  rw [Nat.zero_add]; rfl
theorem r_mo (u : Nat → Nat → Int32) (o : Nat) : fX2_mayHaveOneMore (Int32.ofNat o) u = some (if u 1 1 ≤ Int32.ofNat (r_lc u o) then 0 else 1) := by
  unfold fX2_mayHaveOneMore
  rw [r_lco, r_bs, r_l1]
  split <;> rfl
theorem r_gd {Q : List Nat} {i : Nat} (h : i < Q.length) : Q.getD i 0 = Q[i] := by
  rw [List.getD_eq_getElem?_getD, List.getElem?_eq_getElem h]; rfl
theorem r_mem {Q : List Nat} {o : Nat} : o ∈ Q ↔ ∃ i, i < Q.length ∧ Q.getD i 0 = o := by
  constructor
  · intro h
    obtain ⟨i, hi, e⟩ := List.mem_iff_getElem.mp h
    exact ⟨i, hi, by rw [r_gd hi]; exact e⟩
  · rintro ⟨i, hi, e⟩
    rw [r_gd hi] at e
    exact List.mem_iff_getElem.mpr ⟨i, hi, e⟩
theorem r_gm {Q : List Nat} {i : Nat} (h : i < Q.length) : Q.getD i 0 ∈ Q := r_mem.mpr ⟨i, h, rfl⟩
def r_bu (u : Nat → Nat → Int32) (i : Nat) : Nat → Nat → Int32 := pu u 15 (upd (u 15) i (u 15 i + 1))
def r_cu (u : Nat → Nat → Int32) (p : Nat) : Nat → Nat → Int32 := pu (pu (pu (pu u 2 (upd (u 2) p 0)) 4 (upd (u 4) p 0)) 5 (upd (u 5) p 0)) 15 (upd (u 15) 1 (u 15 1 + 1))
def r_ou (u : Nat → Nat → Int32) (p : Nat) : Nat → Nat → Int32 := pu (pu (pu (pu u 2 (upd (u 2) p 1)) 6 (upd (u 6) p (u 0 0))) 7 (upd (u 7) p (u 7 p + 1))) 15 (upd (u 15) 0 (u 15 0 + 1))
theorem r_xcl (u : Nat → Nat → Int32) {p : Nat} (hp : p < 8) : fX2_close (Int32.ofNat p) u = some (r_cu u p) := by
  unfold fX2_close
  rw [if_pos (r_in hp (by decide)), if_pos (r_in hp (by decide)), if_pos (r_in hp (by decide)), r_nc (by omega), r_b0, r_l1, r_bs]
  rfl
theorem r_cis (u : Nat → Nat → Int32) {p : Nat} (hp : p < 8) : fX2_closeIfSick (Int32.ofNat p) u = some (if u 4 p = 0 then (0, r_bu u 5) else (1, r_bu (r_cu (r_bu u 5) p) 2)) := by
  unfold fX2_closeIfSick
  rw [if_pos (r_in hp (by decide)), r_nc (by omega), r_l5, r_l2]
  by_cases h : u 4 p = 0
  · rw [if_pos h, if_pos h]; rfl
  · rw [if_neg h, if_neg h, r_xcl _ hp, r_bs]; rfl
theorem r_pp (u : Nat → Nat → Int32) (i : Nat) (f g : Nat → Int32) : pu (pu u i f) i g = pu u i g := by
  funext c
  unfold pu
  split <;> rfl
theorem r_pid (u : Nat → Nat → Int32) (i : Nat) : pu u i (u i) = u := by
  funext c
  unfold pu
  split
  · rename_i h; rw [h]
  · rfl
theorem r_lvl (m : Nat) : ∀ j k n (u : Nat → Nat → Int32), k + 1 + j = m → j < n → m ≤ 8 → u 14 0 = Int32.ofNat m → ∃ w : Nat → Int32, fX2_leave_L15 n (Int32.ofNat k) u = some (pu u 13 w) ∧ ∀ x, w x = if k ≤ x ∧ x + 1 < m then u 13 (x + 1) else u 13 x
  | 0, k, n + 1, u, h, _, hm, hu => by
    refine ⟨u 13, ?_, fun x => ?_⟩
    · rw [fX2_leave_L15, r_s, hu, if_pos ((r_le (by omega) (by omega)).mpr (by omega)), r_pid]
    · rw [if_neg (by omega)]
  | j + 1, k, n + 1, u, h, hn, hm, hu => by
    obtain ⟨w, e, hw⟩ := r_lvl m j (k + 1) n (pu u 13 (upd (u 13) k (u 13 (k + 1)))) (by omega) (by omega) hm hu
    refine ⟨w, ?_, fun x => ?_⟩
    · have e1 : ¬ Int32.ofNat m ≤ Int32.ofNat (k + 1) := fun c => by have := (r_le (by omega) (by omega)).mp c; omega
      rw [fX2_leave_L15, r_s, hu, if_neg e1, if_pos (r_in (by omega) (by decide)), if_pos (r_in (by omega) (by decide)), r_nc (by omega), r_nc (by omega), e, r_pp]
    · rw [hw x, r_pa rfl, r_pa rfl]
      by_cases hx : k + 1 ≤ x ∧ x + 1 < m
      · rw [if_pos hx, if_pos (by omega), r_un (by omega)]
      · rw [if_neg hx]
        by_cases hk : x = k
        · subst hk
          rw [if_pos (by omega), r_ue rfl]
        · rw [if_neg (by omega), r_un (by omega)]
theorem r_inj {Q : List Nat} (h : Q.Nodup) {i j : Nat} (hi : i < Q.length) (hj : j < Q.length) (e : Q.getD i 0 = Q.getD j 0) : i = j := by
  rw [r_gd hi, r_gd hj] at e
  have h := List.pairwise_iff_getElem.mp h
  rcases Nat.lt_trichotomy i j with c | c | c
  · exact absurd e (h i j hi hj c)
  · exact c
  · exact absurd e.symm (h j i hj hi c)
theorem r_eg (Q : List Nat) (i k : Nat) : (Q.eraseIdx i).getD k 0 = if k < i then Q.getD k 0 else Q.getD (k + 1) 0 := by
  rw [List.getD_eq_getElem?_getD, List.getElem?_eraseIdx, List.getD_eq_getElem?_getD, List.getD_eq_getElem?_getD]
  split <;> rfl
theorem r_em {Q : List Nat} (h : Q.Nodup) {i o : Nat} (hi : i < Q.length) : o ∈ Q.eraseIdx i ↔ (o ∈ Q ∧ o ≠ Q.getD i 0) := by
  constructor
  · intro ho
    obtain ⟨j, hj, hn, e⟩ := List.mem_eraseIdx_iff_getElem.mp ho
    refine ⟨List.mem_of_mem_eraseIdx ho, fun c => hn (r_inj h hj hi ?_)⟩
    rw [r_gd hj, e, c]
  · rintro ⟨ho, hn⟩
    obtain ⟨j, hj, e⟩ := r_mem.mp ho
    refine List.mem_eraseIdx_iff_getElem.mpr ⟨j, hj, fun c => hn ?_, by rw [← r_gd hj]; exact e⟩
    rw [← e, c]
theorem r_gz {Q : List Nat} {i : Nat} (h : Q.length ≤ i) : Q.getD i 0 = 0 := by
  rw [List.getD_eq_getElem?_getD, List.getElem?_eq_none h]; rfl
def r_lu (u : Nat → Nat → Int32) (p o : Nat) : Nat → Nat → Int32 := pu (pu (pu (pu (pu (pu u 2 (upd (u 2) p 2)) 3 (upd (u 3) p (Int32.ofNat o))) 5 (upd (u 5) p (u 5 p + 1))) 6 (upd (u 6) p (u 0 0))) 9 (upd (u 9) o (u 9 o + 1))) 15 (upd (u 15) 6 (u 15 6 + 1))
def r_wu (u : Nat → Nat → Int32) (o : Nat) : Nat → Nat → Int32 := pu u 11 (upd (u 11) o (u 11 o + (u 0 0 - u 12 o)))
theorem r_xle (u : Nat → Nat → Int32) {p o : Nat} (hp : p < 8) (ho : o < 8) : fX2_lend (Int32.ofNat p) (Int32.ofNat o) u = some (r_lu u p o) := by
  unfold fX2_lend
  rw [if_pos (r_in hp (by decide)), if_pos (r_in hp (by decide)), if_pos (r_in hp (by decide)), if_pos (r_in hp (by decide)), if_pos (r_in hp (by decide)), r_bs, if_pos (r_in ho (by decide)), if_pos (r_in ho (by decide)), r_nc (by omega), r_nc (by omega), r_l6]
  rfl
def sm (m : Nat → Nat → Nat) (i p v : Nat) : Nat → Nat → Nat := fun a b => if a = i then (if b = p then v else m a b) else m a b
def AB (u : Nat → Nat → Int32) (m : Nat → Nat → Nat) (Q : List Nat) : Prop := (∀ i j, i ≠ 13 → i ≠ 14 → u i j = Int32.ofNat (m i j)) ∧ (u 14 0 = Int32.ofNat Q.length) ∧ (∀ k, k < Q.length → u 13 k = Int32.ofNat (Q.getD k 0))
theorem AB.c {u : Nat → Nat → Int32} {m : Nat → Nat → Nat} {Q : List Nat} (h : AB u m Q) : ∀ i j, i ≠ 13 → i ≠ 14 → u i j = Int32.ofNat (m i j) := h.1
theorem AB.n {u : Nat → Nat → Int32} {m : Nat → Nat → Nat} {Q : List Nat} (h : AB u m Q) : u 14 0 = Int32.ofNat Q.length := h.2.1
theorem AB.q {u : Nat → Nat → Int32} {m : Nat → Nat → Nat} {Q : List Nat} (h : AB u m Q) : ∀ k, k < Q.length → u 13 k = Int32.ofNat (Q.getD k 0) := h.2.2
theorem AB.mk {u : Nat → Nat → Int32} {m : Nat → Nat → Nat} {Q : List Nat} (c : ∀ i j, i ≠ 13 → i ≠ 14 → u i j = Int32.ofNat (m i j)) (n : u 14 0 = Int32.ofNat Q.length) (q : ∀ k, k < Q.length → u 13 k = Int32.ofNat (Q.getD k 0)) : AB u m Q := ⟨c, n, q⟩
theorem AB.up {u : Nat → Nat → Int32} {m : Nat → Nat → Nat} {Q : List Nat} (h : AB u m Q) {i p v : Nat} {x : Int32} (h1 : i ≠ 13) (h2 : i ≠ 14) (hx : x = Int32.ofNat v) : AB (pu u i (upd (u i) p x)) (sm m i p v) Q := by
  refine AB.mk (fun a b g1 g2 => ?_) ?_ (fun k hk => ?_)
  · by_cases ha : a = i
    · subst ha
      rw [r_pa rfl]
      by_cases hb : b = p
      · subst hb; rw [r_ue rfl, hx]; simp [sm]
      · rw [r_un (Ne.symm hb), h.c a b g1 g2]; simp [sm, hb]
    · rw [r_pb (Ne.symm ha), h.c a b g1 g2]; simp [sm, ha]
  · rw [r_pb h2]; exact h.n
  · rw [r_pb h1]; exact h.q k hk
def bpN (m : Nat → Nat → Nat) (k : Nat) : Nat → Nat → Nat := sm m 15 k (m 15 k + 1)
def clN (m : Nat → Nat → Nat) (p : Nat) : Nat → Nat → Nat := sm (sm (sm (sm m 2 p 0) 4 p 0) 5 p 0) 15 1 (m 15 1 + 1)
def opN (m : Nat → Nat → Nat) (p : Nat) : Nat → Nat → Nat := sm (sm (sm (sm m 2 p 1) 6 p (m 0 0)) 7 p (m 7 p + 1)) 15 0 (m 15 0 + 1)
def leN (m : Nat → Nat → Nat) (p o : Nat) : Nat → Nat → Nat := sm (sm (sm (sm (sm (sm m 2 p 2) 3 p o) 5 p (m 5 p + 1)) 6 p (m 0 0)) 9 o (m 9 o + 1)) 15 6 (m 15 6 + 1)
def waN (m : Nat → Nat → Nat) (o : Nat) : Nat → Nat → Nat := sm m 11 o (m 11 o + (m 0 0 - m 12 o))
def gaN (m : Nat → Nat → Nat) (o : Nat) : Nat → Nat → Nat := sm m 10 o (m 10 o + 1)
def tiN (m : Nat → Nat → Nat) : Nat → Nat → Nat := fun a b => if a = 0 then m 0 0 + 1 else m a b
def baN (m : Nat → Nat → Nat) (p : Nat) : Nat → Nat → Nat := sm (sm m 2 p 1) 6 p (m 0 0)
def siN (m : Nat → Nat → Nat) (p : Nat) : Nat → Nat → Nat := sm m 4 p 1
theorem AB.bump {u : Nat → Nat → Int32} {m : Nat → Nat → Nat} {Q : List Nat} (h : AB u m Q) (k : Nat) : AB (r_bu u k) (bpN m k) Q :=
  h.up (by decide) (by decide) (by rw [h.c 15 k (by decide) (by decide), r_s])
theorem AB.clo {u : Nat → Nat → Int32} {m : Nat → Nat → Nat} {Q : List Nat} (h : AB u m Q) (p : Nat) : AB (r_cu u p) (clN m p) Q := by
  have h1 := h.up (i := 2) (p := p) (v := 0) (x := 0) (by decide) (by decide) rfl
  have h2 := h1.up (i := 4) (p := p) (v := 0) (x := 0) (by decide) (by decide) rfl
  have h3 := h2.up (i := 5) (p := p) (v := 0) (x := 0) (by decide) (by decide) rfl
  exact h3.up (i := 15) (p := 1) (v := m 15 1 + 1) (x := u 15 1 + 1) (by decide) (by decide) (by rw [h.c 15 1 (by decide) (by decide), r_s])
theorem AB.ope {u : Nat → Nat → Int32} {m : Nat → Nat → Nat} {Q : List Nat} (h : AB u m Q) (p : Nat) : AB (r_ou u p) (opN m p) Q := by
  have h1 := h.up (i := 2) (p := p) (v := 1) (x := 1) (by decide) (by decide) rfl
  have h2 := h1.up (i := 6) (p := p) (v := m 0 0) (x := u 0 0) (by decide) (by decide) (h.c 0 0 (by decide) (by decide))
  have h3 := h2.up (i := 7) (p := p) (v := m 7 p + 1) (x := u 7 p + 1) (by decide) (by decide) (by rw [h.c 7 p (by decide) (by decide), r_s])
  exact h3.up (i := 15) (p := 0) (v := m 15 0 + 1) (x := u 15 0 + 1) (by decide) (by decide) (by rw [h.c 15 0 (by decide) (by decide), r_s])
theorem AB.len {u : Nat → Nat → Int32} {m : Nat → Nat → Nat} {Q : List Nat} (h : AB u m Q) (p o : Nat) : AB (r_lu u p o) (leN m p o) Q := by
  have h1 := h.up (i := 2) (p := p) (v := 2) (x := 2) (by decide) (by decide) rfl
  have h2 := h1.up (i := 3) (p := p) (v := o) (x := Int32.ofNat o) (by decide) (by decide) rfl
  have h3 := h2.up (i := 5) (p := p) (v := m 5 p + 1) (x := u 5 p + 1) (by decide) (by decide) (by rw [h.c 5 p (by decide) (by decide), r_s])
  have h4 := h3.up (i := 6) (p := p) (v := m 0 0) (x := u 0 0) (by decide) (by decide) (h.c 0 0 (by decide) (by decide))
  have h5 := h4.up (i := 9) (p := o) (v := m 9 o + 1) (x := u 9 o + 1) (by decide) (by decide) (by rw [h.c 9 o (by decide) (by decide), r_s])
  exact h5.up (i := 15) (p := 6) (v := m 15 6 + 1) (x := u 15 6 + 1) (by decide) (by decide) (by rw [h.c 15 6 (by decide) (by decide), r_s])
theorem AB.wai {u : Nat → Nat → Int32} {m : Nat → Nat → Nat} {Q : List Nat} (h : AB u m Q) {o : Nat} (ho : m 12 o ≤ m 0 0) : AB (r_wu u o) (waN m o) Q :=
  h.up (by decide) (by decide) (by rw [h.c 11 o (by decide) (by decide), h.c 0 0 (by decide) (by decide), h.c 12 o (by decide) (by decide), ← Int32.ofNat_sub _ _ ho, r_a])
theorem AB.gav {u : Nat → Nat → Int32} {m : Nat → Nat → Nat} {Q : List Nat} (h : AB u m Q) (o : Nat) : AB (pu u 10 (upd (u 10) o (u 10 o + 1))) (gaN m o) Q :=
  h.up (by decide) (by decide) (by rw [h.c 10 o (by decide) (by decide), r_s])
theorem AB.tick {u : Nat → Nat → Int32} {m : Nat → Nat → Nat} {Q : List Nat} (h : AB u m Q) : AB (pu u 0 (fun _ => u 0 0 + 1)) (tiN m) Q := by
  refine AB.mk (fun a b g1 g2 => ?_) ?_ (fun k hk => ?_)
  · by_cases ha : a = 0
    · subst ha
      rw [r_pa rfl, h.c 0 0 (by decide) (by decide), r_s]; simp [tiN]
    · rw [r_pb (Ne.symm ha), h.c a b g1 g2]; simp [tiN, ha]
  · rw [r_pb (by decide)]; exact h.n
  · rw [r_pb (by decide)]; exact h.q k hk
/-! sums over eight -/
def n8 (f : Nat → Nat) : Nat := f 0 + f 1 + f 2 + f 3 + f 4 + f 5 + f 6 + f 7
theorem n8_congr {f g : Nat → Nat} (h : ∀ i, i < 8 → g i = f i) : n8 g = n8 f := by
  unfold n8
  rw [h 0 (by decide), h 1 (by decide), h 2 (by decide), h 3 (by decide), h 4 (by decide), h 5 (by decide), h 6 (by decide), h 7 (by decide)]
theorem n8_upd {f g : Nat → Nat} {p : Nat} (hp : p < 8) (h : ∀ i, i ≠ p → g i = f i) : n8 g + f p = n8 f + g p := by
  unfold n8
  rcases (show p = 0 ∨ p = 1 ∨ p = 2 ∨ p = 3 ∨ p = 4 ∨ p = 5 ∨ p = 6 ∨ p = 7 by omega) with rfl | rfl | rfl | rfl | rfl | rfl | rfl | rfl
  · rw [h 1 (by decide), h 2 (by decide), h 3 (by decide), h 4 (by decide), h 5 (by decide), h 6 (by decide), h 7 (by decide)]; omega
  · rw [h 0 (by decide), h 2 (by decide), h 3 (by decide), h 4 (by decide), h 5 (by decide), h 6 (by decide), h 7 (by decide)]; omega
  · rw [h 0 (by decide), h 1 (by decide), h 3 (by decide), h 4 (by decide), h 5 (by decide), h 6 (by decide), h 7 (by decide)]; omega
  · rw [h 0 (by decide), h 1 (by decide), h 2 (by decide), h 4 (by decide), h 5 (by decide), h 6 (by decide), h 7 (by decide)]; omega
  · rw [h 0 (by decide), h 1 (by decide), h 2 (by decide), h 3 (by decide), h 5 (by decide), h 6 (by decide), h 7 (by decide)]; omega
  · rw [h 0 (by decide), h 1 (by decide), h 2 (by decide), h 3 (by decide), h 4 (by decide), h 6 (by decide), h 7 (by decide)]; omega
  · rw [h 0 (by decide), h 1 (by decide), h 2 (by decide), h 3 (by decide), h 4 (by decide), h 5 (by decide), h 7 (by decide)]; omega
  · rw [h 0 (by decide), h 1 (by decide), h 2 (by decide), h 3 (by decide), h 4 (by decide), h 5 (by decide), h 6 (by decide)]; omega
theorem n8_cnt (f : Nat → Bool) : r_cnt f 8 0 = n8 (fun p => if f p then 1 else 0) := by
  simp only [r_cnt, n8, Nat.add_zero, Nat.zero_add, Nat.add_assoc, Nat.reduceAdd]
theorem n8_zero {f : Nat → Nat} (h : n8 f = 0) : ∀ i, i < 8 → f i = 0 := by
  intro i hi
  unfold n8 at h
  rcases (show i = 0 ∨ i = 1 ∨ i = 2 ∨ i = 3 ∨ i = 4 ∨ i = 5 ∨ i = 6 ∨ i = 7 by omega) with rfl | rfl | rfl | rfl | rfl | rfl | rfl | rfl <;> omega
theorem n8_pos {f : Nat → Nat} (h : 0 < n8 f) : ∃ i, i < 8 ∧ 0 < f i := by
  apply Classical.byContradiction
  intro c
  have e : ∀ i, i < 8 → f i = 0 := fun i hi => by
    rcases Nat.eq_zero_or_pos (f i) with g | g
    · exact g
    · exact absurd ⟨i, hi, g⟩ c
  have : n8 f = n8 (fun _ => 0) := n8_congr (f := fun _ => 0) e
  have z : n8 (fun _ => 0) = 0 := rfl
  omega
theorem n8_leb {f g : Nat → Nat} (h : ∀ i, i < 8 → f i ≤ g i) : n8 f ≤ n8 g := by
  have h0 := h 0 (by decide); have h1 := h 1 (by decide); have h2 := h 2 (by decide); have h3 := h 3 (by decide); have h4 := h 4 (by decide); have h5 := h 5 (by decide); have h6 := h 6 (by decide); have h7 := h 7 (by decide)
  unfold n8
  omega
theorem n8_one {f : Nat → Nat} {i : Nat} (hi : i < 8) : f i ≤ n8 f := by
  unfold n8
  rcases (show i = 0 ∨ i = 1 ∨ i = 2 ∨ i = 3 ∨ i = 4 ∨ i = 5 ∨ i = 6 ∨ i = 7 by omega) with rfl | rfl | rfl | rfl | rfl | rfl | rfl | rfl <;> omega
def con (m : Nat → Nat → Nat) : Nat := n8 (fun p => if m 2 p = 0 then 0 else 1)
def cst (m : Nat → Nat → Nat) (s : Nat) : Nat := n8 (fun p => if m 2 p = s then 1 else 0)
def lcn (m : Nat → Nat → Nat) (o : Nat) : Nat := n8 (fun p => if m 2 p = 2 ∧ m 3 p = o then 1 else 0)
theorem con_upd {m m1 : Nat → Nat → Nat} {p : Nat} (hp : p < 8) (h : ∀ i, i ≠ p → m1 2 i = m 2 i) : con m1 + (if m 2 p = 0 then 0 else 1) = con m + (if m1 2 p = 0 then 0 else 1) :=
  n8_upd (f := fun p => if m 2 p = 0 then 0 else 1) (g := fun p => if m1 2 p = 0 then 0 else 1) hp (fun i hi => by simp only [h i hi])
theorem con_congr {m m1 : Nat → Nat → Nat} (h : ∀ i, i < 8 → m1 2 i = m 2 i) : con m1 = con m :=
  n8_congr (fun i hi => by simp only [h i hi])
theorem cst_upd {m m1 : Nat → Nat → Nat} {p s : Nat} (hp : p < 8) (h : ∀ i, i ≠ p → m1 2 i = m 2 i) : cst m1 s + (if m 2 p = s then 1 else 0) = cst m s + (if m1 2 p = s then 1 else 0) :=
  n8_upd (f := fun p => if m 2 p = s then 1 else 0) (g := fun p => if m1 2 p = s then 1 else 0) hp (fun i hi => by simp only [h i hi])
theorem row_upd {m m1 : Nat → Nat → Nat} {r p : Nat} (hp : p < 8) (h : ∀ i, i ≠ p → m1 r i = m r i) : n8 (m1 r) + m r p = n8 (m r) + m1 r p := n8_upd hp h
theorem con_le (m : Nat → Nat → Nat) : con m ≤ 8 := n8_leb (g := fun _ => 1) (fun i _ => by show (if m 2 i = 0 then 0 else 1) ≤ 1; split <;> omega)
theorem cst_le (m : Nat → Nat → Nat) (s : Nat) : cst m s ≤ 8 := n8_leb (g := fun _ => 1) (fun i _ => by show (if m 2 i = s then 1 else 0) ≤ 1; split <;> omega)
theorem lcn_le (m : Nat → Nat → Nat) (o : Nat) : lcn m o ≤ 8 := n8_leb (g := fun _ => 1) (fun i _ => by show (if m 2 i = 2 ∧ m 3 i = o then 1 else 0) ≤ 1; split <;> omega)
def sLo (k : Nat) : Nat := if k = 2 ∨ k = 3 ∨ k = 4 ∨ k = 6 then 0 else 1
def sHi (k : Nat) : Nat := if k < 3 then 8 else if k < 5 then 1 else 99
def IV (d : Nat) (e : Nat) (m : Nat → Nat → Nat) (Q : List Nat) : Prop := (∀ p, p < 8 → m 2 p ≤ 2) ∧ (∀ p, p < 8 → m 2 p = 2 → m 3 p < 8) ∧ (∀ p, p < 8 → m 4 p ≤ 1) ∧ (∀ p, p < 8 → m 2 p = 0 → m 4 p = 0) ∧ (∀ p, p < 8 → m 2 p = 0 → m 5 p = 0) ∧ (∀ p, p < 8 → m 2 p ≠ 0 → m 6 p ≤ m 0 0) ∧ (∀ o, o < 8 → m 8 o ≤ 1) ∧ (∀ k, k < 9 → sLo k ≤ m 1 k ∧ m 1 k ≤ sHi k) ∧ (m 0 0 < 100000) ∧ (Q.Nodup) ∧ (∀ o, o ∈ Q → o < 8) ∧ (∀ o, o ∈ Q → m 8 o = 0) ∧ (∀ o, o ∈ Q → m 12 o ≤ m 0 0) ∧ (m 15 1 + con m = m 15 0) ∧ (n8 (m 7) = m 15 0) ∧ (m 15 2 + m 15 3 + m 15 4 + e ≤ m 15 1) ∧ (n8 (m 9) = m 15 6) ∧ (n8 (m 5) ≤ m 15 6) ∧ (m 15 0 ≤ m 15 6 + d) ∧ (m 15 6 + Q.length ≤ 100000)
theorem IV.st {d : Nat} {e : Nat} {m : Nat → Nat → Nat} {Q : List Nat} (h : IV d e m Q) : ∀ p, p < 8 → m 2 p ≤ 2 := h.1
theorem IV.lt {d : Nat} {e : Nat} {m : Nat → Nat → Nat} {Q : List Nat} (h : IV d e m Q) : ∀ p, p < 8 → m 2 p = 2 → m 3 p < 8 := h.2.1
theorem IV.sk {d : Nat} {e : Nat} {m : Nat → Nat → Nat} {Q : List Nat} (h : IV d e m Q) : ∀ p, p < 8 → m 4 p ≤ 1 := h.2.2.1
theorem IV.e4 {d : Nat} {e : Nat} {m : Nat → Nat → Nat} {Q : List Nat} (h : IV d e m Q) : ∀ p, p < 8 → m 2 p = 0 → m 4 p = 0 := h.2.2.2.1
theorem IV.e5 {d : Nat} {e : Nat} {m : Nat → Nat → Nat} {Q : List Nat} (h : IV d e m Q) : ∀ p, p < 8 → m 2 p = 0 → m 5 p = 0 := h.2.2.2.2.1
theorem IV.sn {d : Nat} {e : Nat} {m : Nat → Nat → Nat} {Q : List Nat} (h : IV d e m Q) : ∀ p, p < 8 → m 2 p ≠ 0 → m 6 p ≤ m 0 0 := h.2.2.2.2.2.1
theorem IV.vn {d : Nat} {e : Nat} {m : Nat → Nat → Nat} {Q : List Nat} (h : IV d e m Q) : ∀ o, o < 8 → m 8 o ≤ 1 := h.2.2.2.2.2.2.1
theorem IV.sg {d : Nat} {e : Nat} {m : Nat → Nat → Nat} {Q : List Nat} (h : IV d e m Q) : ∀ k, k < 9 → sLo k ≤ m 1 k ∧ m 1 k ≤ sHi k := h.2.2.2.2.2.2.2.1
theorem IV.tm {d : Nat} {e : Nat} {m : Nat → Nat → Nat} {Q : List Nat} (h : IV d e m Q) : m 0 0 < 100000 := h.2.2.2.2.2.2.2.2.1
theorem IV.nd {d : Nat} {e : Nat} {m : Nat → Nat → Nat} {Q : List Nat} (h : IV d e m Q) : Q.Nodup := h.2.2.2.2.2.2.2.2.2.1
theorem IV.ql {d : Nat} {e : Nat} {m : Nat → Nat → Nat} {Q : List Nat} (h : IV d e m Q) : ∀ o, o ∈ Q → o < 8 := h.2.2.2.2.2.2.2.2.2.2.1
theorem IV.qt {d : Nat} {e : Nat} {m : Nat → Nat → Nat} {Q : List Nat} (h : IV d e m Q) : ∀ o, o ∈ Q → m 8 o = 0 := h.2.2.2.2.2.2.2.2.2.2.2.1
theorem IV.ws {d : Nat} {e : Nat} {m : Nat → Nat → Nat} {Q : List Nat} (h : IV d e m Q) : ∀ o, o ∈ Q → m 12 o ≤ m 0 0 := h.2.2.2.2.2.2.2.2.2.2.2.2.1
theorem IV.c1 {d : Nat} {e : Nat} {m : Nat → Nat → Nat} {Q : List Nat} (h : IV d e m Q) : m 15 1 + con m = m 15 0 := h.2.2.2.2.2.2.2.2.2.2.2.2.2.1
theorem IV.c2 {d : Nat} {e : Nat} {m : Nat → Nat → Nat} {Q : List Nat} (h : IV d e m Q) : n8 (m 7) = m 15 0 := h.2.2.2.2.2.2.2.2.2.2.2.2.2.2.1
theorem IV.c3 {d : Nat} {e : Nat} {m : Nat → Nat → Nat} {Q : List Nat} (h : IV d e m Q) : m 15 2 + m 15 3 + m 15 4 + e ≤ m 15 1 := h.2.2.2.2.2.2.2.2.2.2.2.2.2.2.2.1
theorem IV.c4 {d : Nat} {e : Nat} {m : Nat → Nat → Nat} {Q : List Nat} (h : IV d e m Q) : n8 (m 9) = m 15 6 := h.2.2.2.2.2.2.2.2.2.2.2.2.2.2.2.2.1
theorem IV.c5 {d : Nat} {e : Nat} {m : Nat → Nat → Nat} {Q : List Nat} (h : IV d e m Q) : n8 (m 5) ≤ m 15 6 := h.2.2.2.2.2.2.2.2.2.2.2.2.2.2.2.2.2.1
theorem IV.c6 {d : Nat} {e : Nat} {m : Nat → Nat → Nat} {Q : List Nat} (h : IV d e m Q) : m 15 0 ≤ m 15 6 + d := h.2.2.2.2.2.2.2.2.2.2.2.2.2.2.2.2.2.2.1
theorem IV.c7 {d : Nat} {e : Nat} {m : Nat → Nat → Nat} {Q : List Nat} (h : IV d e m Q) : m 15 6 + Q.length ≤ 100000 := h.2.2.2.2.2.2.2.2.2.2.2.2.2.2.2.2.2.2.2
theorem IV.mk {d : Nat} {e : Nat} {m : Nat → Nat → Nat} {Q : List Nat} (st : ∀ p, p < 8 → m 2 p ≤ 2) (lt : ∀ p, p < 8 → m 2 p = 2 → m 3 p < 8) (sk : ∀ p, p < 8 → m 4 p ≤ 1) (e4 : ∀ p, p < 8 → m 2 p = 0 → m 4 p = 0) (e5 : ∀ p, p < 8 → m 2 p = 0 → m 5 p = 0) (sn : ∀ p, p < 8 → m 2 p ≠ 0 → m 6 p ≤ m 0 0) (vn : ∀ o, o < 8 → m 8 o ≤ 1) (sg : ∀ k, k < 9 → sLo k ≤ m 1 k ∧ m 1 k ≤ sHi k) (tm : m 0 0 < 100000) (nd : Q.Nodup) (ql : ∀ o, o ∈ Q → o < 8) (qt : ∀ o, o ∈ Q → m 8 o = 0) (ws : ∀ o, o ∈ Q → m 12 o ≤ m 0 0) (c1 : m 15 1 + con m = m 15 0) (c2 : n8 (m 7) = m 15 0) (c3 : m 15 2 + m 15 3 + m 15 4 + e ≤ m 15 1) (c4 : n8 (m 9) = m 15 6) (c5 : n8 (m 5) ≤ m 15 6) (c6 : m 15 0 ≤ m 15 6 + d) (c7 : m 15 6 + Q.length ≤ 100000) : IV d e m Q := ⟨st, lt, sk, e4, e5, sn, vn, sg, tm, nd, ql, qt, ws, c1, c2, c3, c4, c5, c6, c7⟩
