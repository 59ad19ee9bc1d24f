/-! ===== pure rows: what is read ===== -/
def r_cnt (f : Nat → Bool) : Nat → Nat → Nat
  | 0, _ => 0
  | j + 1, k => (if f k then 1 else 0) + r_cnt f j (k + 1)
theorem r_cnt_le (f : Nat → Bool) : ∀ j k, r_cnt f j k ≤ j
  | 0, _ => Nat.le_refl _
  | j + 1, k => by
    have e := r_cnt_le f j (k + 1)
    unfold r_cnt
    split <;> omega
theorem r_cnt_congr {f g : Nat → Bool} : ∀ j k, (∀ i, k ≤ i → i < k + j → f i = g i) → r_cnt f j k = r_cnt g j k
  | 0, _, _ => rfl
  | j + 1, k, h => by
    have e := r_cnt_congr j (k + 1) (fun i a b => h i (by omega) (by omega))
    unfold r_cnt
    rw [h k (Nat.le_refl _) (by omega), e]
theorem r_cnt_zero {f : Nat → Bool} : ∀ j k, (∀ i, k ≤ i → i < k + j → f i = false) → r_cnt f j k = 0
  | 0, _, _ => rfl
  | j + 1, k, h => by
    have e := r_cnt_zero j (k + 1) (fun i a b => h i (by omega) (by omega))
    unfold r_cnt
    rw [h k (Nat.le_refl _) (by omega), e]
    rfl
theorem r_cnt_full {f : Nat → Bool} : ∀ j k, r_cnt f j k = j → ∀ i, k ≤ i → i < k + j → f i = true
  | 0, k, _, i, a, b => by omega
  | j + 1, k, h, i, a, b => by
    have e := r_cnt_le f j (k + 1)
    unfold r_cnt at h
    by_cases hf : f k = true
    · rw [if_pos hf] at h
      by_cases hik : i = k
      · rw [hik]; exact hf
      · exact r_cnt_full j (k + 1) (by omega) i (by omega) (by omega)
    · rw [if_neg hf] at h
      omega
theorem r_cnt_none {f : Nat → Bool} : ∀ j k, r_cnt f j k = 0 → ∀ i, k ≤ i → i < k + j → f i = false
  | 0, k, _, i, a, b => by omega
  | j + 1, k, h, i, a, b => by
    unfold r_cnt at h
    by_cases hf : f k = true
    · rw [if_pos hf] at h
      omega
    · rw [if_neg hf] at h
      by_cases hik : i = k
      · rw [hik]; exact Bool.eq_false_iff.mpr hf
      · exact r_cnt_none j (k + 1) (by omega) i (by omega) (by omega)
theorem r_cnt_upd {f g : Nat → Bool} {p : Nat} (hf : f p = false) (hg : g p = true) (hne : ∀ i, i ≠ p → f i = g i) : ∀ j k, k ≤ p → p < k + j → r_cnt g j k = r_cnt f j k + 1
  | 0, k, a, b => by omega
  | j + 1, k, a, b => by
    unfold r_cnt
    by_cases hk : k = p
    · rw [hk, hf, hg, r_cnt_congr (f := g) (g := f) j (p + 1) (fun i a b => (hne i (by omega)).symm)]
      simp
      omega
    · rw [hne k hk, r_cnt_upd hf hg hne j (k + 1) (by omega) (by omega)]
      omega
theorem r_10 : ¬ (1 : Int32) = 0 := by decide
theorem r_8n {k : Nat} (h : k < 8) : ¬ ((8 : Int32) ≤ Int32.ofNat k) := fun c => by have := (r_8 (by omega)).mp c; omega
theorem r_ss (u : Nat → Nat → Int32) (s : Int32) : ∀ j k a n, k + j = 8 → j < n → a + j < 1000 → fX2_standingSo_L4 s u n (Int32.ofNat a) (Int32.ofNat k) = some (Int32.ofNat (a + r_cnt (fun p => decide (u 2 p = s)) j k))
  | 0, k, a, n + 1, h, _, _ => by
    rw [fX2_standingSo_L4, if_pos ((r_8 (by omega)).mpr (by omega))]
    rfl
  | j + 1, k, a, n + 1, h, hn, ha => by
    rw [fX2_standingSo_L4, if_neg (r_8n (by omega)), if_pos (r_in (by omega) (by omega)), r_nc (by omega), r_s k]
    by_cases hs : u 2 k = s
    · rw [if_pos hs, r_s a, r_ss u s j (k + 1) (a + 1) n (by omega) (by omega) (by omega)]
      simp only [r_cnt, hs, decide_true, if_true]
      rw [Nat.add_assoc a 1]
    · rw [if_neg hs, r_ss u s j (k + 1) a n (by omega) (by omega) (by omega)]
      simp only [r_cnt, hs, decide_false, Bool.false_eq_true, if_false, Nat.zero_add]
theorem r_mi {u : Nat → Nat → Int32} {z : Nat → Int32} (R : RI u z) (s : Int32) : ∀ j k a n, k + j = 8 → j < n → a + j < 1000 → fX4_manyIn_L4 s z n (Int32.ofNat a) (Int32.ofNat k) = some (Int32.ofNat (a + r_cnt (fun p => decide (u 2 p = s)) j k))
  | 0, k, a, n + 1, h, _, _ => by
    rw [fX4_manyIn_L4, if_pos ((r_8 (by omega)).mpr (by omega))]
    rfl
  | j + 1, k, a, n + 1, h, hn, ha => by
    rw [fX4_manyIn_L4, if_neg (r_8n (by omega)), r_isIn (by omega), R.p0 k (by omega), r_s k]
    by_cases hs : u 2 k = s
    · rw [if_pos hs, r_bs, if_neg (by decide), r_s a, r_mi R s j (k + 1) (a + 1) n (by omega) (by omega) (by omega)]
      simp only [r_cnt, hs, decide_true, if_true]
      rw [Nat.add_assoc a 1]
    · rw [if_neg hs, r_bs, if_pos rfl, Int32.add_zero, r_mi R s j (k + 1) a n (by omega) (by omega) (by omega)]
      simp only [r_cnt, hs, decide_false, Bool.false_eq_true, if_false, Nat.zero_add]
def r_many (u : Nat → Nat → Int32) (s : Int32) : Nat := r_cnt (fun p => decide (u 2 p = s)) 8 0
theorem r_many_le (u : Nat → Nat → Int32) (s : Int32) : r_many u s ≤ 8 := r_cnt_le _ 8 0
theorem r_so (u : Nat → Nat → Int32) (s : Int32) : fX2_standingSo s u = some (Int32.ofNat (r_many u s)) := by
  unfold fX2_standingSo
  refine (r_ss u s 8 0 0 1000 rfl (by decide) (by decide)).trans ?_
  rw [Nat.zero_add]; rfl
theorem r_sz {u : Nat → Nat → Int32} {z : Nat → Int32} (R : RI u z) (s : Int32) : fX4_manyIn s z = some (Int32.ofNat (r_many u s)) := by
  unfold fX4_manyIn
  refine (r_mi R s 8 0 0 1000 rfl (by decide) (by decide)).trans ?_
  rw [Nat.zero_add]; rfl
def r_con (u : Nat → Nat → Int32) : Nat := 8 - r_many u 0
theorem r_co (u : Nat → Nat → Int32) : fX2_connections u = some (Int32.ofNat (r_con u)) := by
  unfold fX2_connections
  rw [r_so, r_bs]
  unfold r_con
  rw [Int32.ofNat_sub 8 _ (r_many_le u 0)]
  rfl
theorem r_cz {u : Nat → Nat → Int32} {z : Nat → Int32} (R : RI u z) : fX4_connections z = some (Int32.ofNat (r_con u)) := by
  unfold fX4_connections
  rw [r_sz R, r_bs]
  unfold r_con
  rw [Int32.ofNat_sub 8 _ (r_many_le u 0)]
  rfl
/-! connections of an owner -/
def r_lc (u : Nat → Nat → Int32) (o : Nat) : Nat := r_cnt (fun p => decide (u 2 p = 2 ∧ u 3 p = Int32.ofNat o)) 8 0
theorem r_lcl (u : Nat → Nat → Int32) (o : Nat) : ∀ j k a n, k + j = 8 → j < n → a + j < 1000 → fX2_lentCount_L4 (Int32.ofNat o) u n (Int32.ofNat a) (Int32.ofNat k) = some (Int32.ofNat (a + r_cnt (fun p => decide (u 2 p = 2 ∧ u 3 p = Int32.ofNat o)) j k))
  | 0, k, a, n + 1, h, _, _ => by
    rw [fX2_lentCount_L4, if_pos ((r_8 (by omega)).mpr (by omega))]
    rfl
  | j + 1, k, a, n + 1, h, hn, ha => by
    rw [fX2_lentCount_L4, if_neg (r_8n (by omega)), if_pos (r_in (by omega) (by omega)), if_pos (r_in (by omega) (by omega)), r_nc (by omega), r_s k]
    by_cases hs : u 2 k = 2
    · rw [if_pos hs]
      by_cases ho : u 3 k = Int32.ofNat o
      · rw [if_pos ho, r_s a, r_lcl u o j (k + 1) (a + 1) n (by omega) (by omega) (by omega)]
        simp only [r_cnt, hs, ho, and_self, decide_true, if_true]
        rw [Nat.add_assoc a 1]
      · rw [if_neg ho, r_lcl u o j (k + 1) a n (by omega) (by omega) (by omega)]
        simp only [r_cnt, ho, and_false, decide_false, Bool.false_eq_true, if_false, Nat.zero_add]
    · rw [if_neg hs, r_lcl u o j (k + 1) a n (by omega) (by omega) (by omega)]
      simp only [r_cnt, hs, false_and, decide_false, Bool.false_eq_true, if_false, Nat.zero_add]
theorem r_lco (u : Nat → Nat → Int32) (o : Nat) : fX2_lentCount (Int32.ofNat o) u = some (Int32.ofNat (r_lc u o)) := by
  unfold fX2_lentCount
  refine (r_lcl u o 8 0 0 1000 rfl (by decide) (by decide)).trans ?_
  rw [Nat.zero_add]; rfl
theorem RI.of {u : Nat → Nat → Int32} {z : Nat → Int32} (R : RI u z) {p o : Nat} (hp : p < 8) (ho : o < 8) : (z (26 + 6 * p + 1) = Int32.ofNat o) ↔ (u 2 p = 2 ∧ u 3 p = Int32.ofNat o) := by
  rw [R.p1 p hp]
  constructor
  · intro h
    by_cases h2 : u 2 p = 2
    · rw [if_pos h2] at h; exact ⟨h2, h⟩
    · rw [if_neg h2] at h; exact absurd h (r_m1' (by omega))
  · intro h
    rw [if_pos h.1]; exact h.2
theorem r_lzl {u : Nat → Nat → Int32} {z : Nat → Int32} (R : RI u z) {o : Nat} (ho : o < 8) : ∀ j k a n, k + j = 8 → j < n → a + j < 1000 → fX4_lentTo_L4 (Int32.ofNat o) z n (Int32.ofNat a) (Int32.ofNat k) = some (Int32.ofNat (a + r_cnt (fun p => decide (u 2 p = 2 ∧ u 3 p = Int32.ofNat o)) j k))
  | 0, k, a, n + 1, h, _, _ => by
    rw [fX4_lentTo_L4, if_pos ((r_8 (by omega)).mpr (by omega))]
    rfl
  | j + 1, k, a, n + 1, h, hn, ha => by
    rw [fX4_lentTo_L4, if_neg (r_8n (by omega)), r_of1 (by omega), r_bs, r_s k]
    by_cases hs : z (26 + 6 * k + 1) = Int32.ofNat o
    · rw [if_pos hs, r_s a, r_lzl R ho j (k + 1) (a + 1) n (by omega) (by omega) (by omega)]
      have hs := (R.of (by omega) ho).mp hs
      simp only [r_cnt, hs, and_self, decide_true, if_true]
      rw [Nat.add_assoc a 1]
    · rw [if_neg hs, Int32.add_zero, r_lzl R ho j (k + 1) a n (by omega) (by omega) (by omega)]
      have hs : ¬ (u 2 k = 2 ∧ u 3 k = Int32.ofNat o) := fun c => hs ((R.of (by omega) ho).mpr c)
      simp only [r_cnt, hs, decide_false, Bool.false_eq_true, if_false, Nat.zero_add]
theorem r_lz {u : Nat → Nat → Int32} {z : Nat → Int32} (R : RI u z) {o : Nat} (ho : o < 8) : fX4_lentTo (Int32.ofNat o) z = some (Int32.ofNat (r_lc u o)) := by
  unfold fX4_lentTo
  refine (r_lzl R ho 8 0 0 1000 rfl (by decide) (by decide)).trans ?_
  rw [Nat.zero_add]; rfl
def r_may (u : Nat → Nat → Int32) (o : Nat) : Prop := ¬ u 1 1 ≤ Int32.ofNat (r_lc u o)
theorem r_mo (u : Nat → Nat → Int32) (o : Nat) : fX2_mayHaveOneMore (Int32.ofNat o) u = some (if u 1 1 ≤ Int32.ofNat (r_lc u o) then 0 else 1) := by
  unfold fX2_mayHaveOneMore
  rw [r_lco, r_bs, r_l1]
  split <;> rfl
theorem r_mz {u : Nat → Nat → Int32} {z : Nat → Int32} (R : RI u z) {o : Nat} (ho : o < 8) : fX4_mayHaveMore (Int32.ofNat o) z = some (if u 1 1 ≤ Int32.ofNat (r_lc u o) then 0 else 1) := by
  unfold fX4_mayHaveMore
  rw [r_lz R ho, r_bs, r_l1, R.st 1 (by decide)]
  split <;> rfl
/-! the queue -/
theorem r_gd {Q : List Nat} {i : Nat} (h : i < Q.length) : Q.getD i 0 = Q[i] := by
  rw [List.getD_eq_getElem?_getD, List.getElem?_eq_getElem h]; rfl
theorem r_mem {Q : List Nat} {o : Nat} : o ∈ Q ↔ ∃ i, i < Q.length ∧ Q.getD i 0 = o := by
  constructor
  · intro h
    obtain ⟨i, hi, e⟩ := List.mem_iff_getElem.mp h
    exact ⟨i, hi, by rw [r_gd hi]; exact e⟩
  · rintro ⟨i, hi, e⟩
    rw [r_gd hi] at e
    exact List.mem_iff_getElem.mpr ⟨i, hi, e⟩
theorem r_gm {Q : List Nat} {i : Nat} (h : i < Q.length) : Q.getD i 0 ∈ Q := r_mem.mpr ⟨i, h, rfl⟩
theorem r_qi (k : Nat) : 18 + Int32.ofNat k = Int32.ofNat (18 + k) := by rw [Int32.ofNat_add]; rfl
theorem RQ.g8 {u : Nat → Nat → Int32} {z : Nat → Int32} {Q : List Nat} {t : Nat} (h : RQ u z Q t) {i : Nat} (hi : i < Q.length) : Q.getD i 0 < 8 := h.lt _ (r_gm hi)
theorem r_tl {u : Nat → Nat → Int32} {z : Nat → Int32} {Q : List Nat} {t o : Nat} (q : RQ u z Q t) (ho : o < 8) : ∀ j k n, k + j = Q.length → j < n → (∀ i, i < k → Q.getD i 0 ≠ o) → ∃ r, fX2_turnOf_L2 (Int32.ofNat o) u n (Int32.ofNat k) = some r ∧ fX4_placeInQueue_L2 (Int32.ofNat o) z n (Int32.ofNat k) = some r ∧ ((r = -1 ∧ o ∉ Q) ∨ ∃ i, i < Q.length ∧ r = Int32.ofNat i ∧ Q.getD i 0 = o)
  | 0, k, n + 1, h, _, hk => by
    have l8 := q.len
    refine ⟨-1, ?_, ?_, Or.inl ⟨rfl, fun hm => ?_⟩⟩
    · rw [fX2_turnOf_L2, q.n2, if_pos ((r_le (by omega) (by omega)).mpr (by omega))]
    · rw [fX4_placeInQueue_L2, r_l17, q.n1, if_pos ((r_le (by omega) (by omega)).mpr (by omega))]
    · obtain ⟨i, hi, e⟩ := r_mem.mp hm
      exact hk i (by omega) e
  | j + 1, k, n + 1, h, hn, hk => by
    have l8 := q.len
    have g8 := q.g8 (i := k) (by omega)
    have e1 : ¬ Int32.ofNat Q.length ≤ Int32.ofNat k := fun c => by have := (r_le (by omega) (by omega)).mp c; omega
    rw [fX2_turnOf_L2, fX4_placeInQueue_L2, r_l17, q.n1, q.n2, if_neg e1, if_neg e1, r_qi, if_pos (r_in (by omega) (by omega)), if_pos (r_in (by omega) (by omega)), r_nc (by omega), r_nc (by omega), q.q1 k (by omega), q.q2 k (by omega), r_s]
    by_cases e : Q.getD k 0 = o
    · rw [e, if_pos rfl, if_pos rfl]
      exact ⟨_, rfl, rfl, Or.inr ⟨k, by omega, rfl, e⟩⟩
    · have e' : ¬ Int32.ofNat (Q.getD k 0) = Int32.ofNat o := fun c => e ((r_eq (by omega) (by omega)).mp c)
      rw [if_neg e', if_neg e']
      refine r_tl q ho j (k + 1) n (by omega) (by omega) (fun i hi => ?_)
      by_cases hik : i = k
      · rw [hik]; exact e
      · exact hk i (by omega)
theorem r_to {u : Nat → Nat → Int32} {z : Nat → Int32} {Q : List Nat} {t o : Nat} (q : RQ u z Q t) (ho : o < 8) : ∃ r, fX2_turnOf (Int32.ofNat o) u = some r ∧ fX4_placeInQueue (Int32.ofNat o) z = some r ∧ ((r = -1 ∧ o ∉ Q) ∨ ∃ i, i < Q.length ∧ r = Int32.ofNat i ∧ Q.getD i 0 = o) := by
  have l8 := q.len
  exact r_tl q ho Q.length 0 1000 (by omega) (by omega) (fun i hi => by omega)
theorem r_wz {u : Nat → Nat → Int32} {z : Nat → Int32} {Q : List Nat} {t o : Nat} (q : RQ u z Q t) (ho : o < 8) : fX4_waits (Int32.ofNat o) z = some (if o ∈ Q then 1 else 0) := by
  obtain ⟨r, _, h2, h3⟩ := r_to q ho
  have l8 := q.len
  unfold fX4_waits
  rw [h2, r_bs]
  rcases h3 with ⟨e, hn⟩ | ⟨i, hi, e, ei⟩
  · rw [if_pos e, if_neg hn]
  · rw [e, if_neg (r_m1 (by omega)), if_pos (r_mem.mpr ⟨i, hi, ei⟩)]
theorem r_wf {u : Nat → Nat → Int32} {z : Nat → Int32} {Q : List Nat} {t o : Nat} (R : RI u z) (q : RQ u z Q t) (ho : o ∈ Q) : fX4_waitedFor (Int32.ofNat o) z = some (u 0 0 - u 12 o) := by
  unfold fX4_waitedFor
  rw [r_its1 (q.lt o ho), r_bs, r_l9, R.tm, q.o1 o (q.lt o ho), if_pos ho]
theorem r_wo {u : Nat → Nat → Int32} {z : Nat → Int32} {Q : List Nat} {t o : Nat} (q : RQ u z Q t) (h8 : o < 8) : fX2_waitOf (Int32.ofNat o) u = some (if o ∈ Q then u 0 0 - u 12 o else 0) := by
  obtain ⟨r, h2, _, h3⟩ := r_to q h8
  have l8 := q.len
  unfold fX2_waitOf
  rw [h2, r_bs]
  rcases h3 with ⟨e, hn⟩ | ⟨i, hi, e, ei⟩
  · rw [if_pos e, if_neg hn]
  · rw [e, if_neg (r_m1 (by omega)), if_pos (r_in h8 (by decide)), r_nc (by omega), if_pos (r_mem.mpr ⟨i, hi, ei⟩)]
theorem r_fl {u : Nat → Nat → Int32} {z : Nat → Int32} {Q : List Nat} {t : Nat} (R : RI u z) (q : RQ u z Q t) : ∀ j k n, k + j = Q.length → j < n → (∀ i, i < k → ¬ r_may u (Q.getD i 0)) → ∃ r s, fX2_firstTurnThatMayHaveOne_L2 u n (Int32.ofNat k) = some r ∧ fX4_firstToServe_L2 z n (Int32.ofNat k) = some s ∧ ((r = -1 ∧ s = -1 ∧ ∀ o, o ∈ Q → ¬ r_may u o) ∨ ∃ i, i < Q.length ∧ r = Int32.ofNat i ∧ s = Int32.ofNat (Q.getD i 0) ∧ r_may u (Q.getD i 0))
  | 0, k, n + 1, h, _, hk => by
    have l8 := q.len
    refine ⟨-1, -1, ?_, ?_, Or.inl ⟨rfl, rfl, fun o hm => ?_⟩⟩
    · rw [fX2_firstTurnThatMayHaveOne_L2, q.n2, if_pos ((r_le (by omega) (by omega)).mpr (by omega))]
    · rw [fX4_firstToServe_L2, r_l17, q.n1, if_pos ((r_le (by omega) (by omega)).mpr (by omega))]
    · obtain ⟨i, hi, e⟩ := r_mem.mp hm
      rw [← e]
      exact hk i (by omega)
  | j + 1, k, n + 1, h, hn, hk => by
    have l8 := q.len
    have g8 := q.g8 (i := k) (by omega)
    have e1 : ¬ Int32.ofNat Q.length ≤ Int32.ofNat k := fun c => by have := (r_le (by omega) (by omega)).mp c; omega
    rw [fX2_firstTurnThatMayHaveOne_L2, fX4_firstToServe_L2, r_l17, q.n1, q.n2, if_neg e1, if_neg e1, r_qi, if_pos (r_in (by omega) (by omega)), if_pos (r_in (by omega) (by omega)), if_pos (r_in (by omega) (by omega)), r_nc (by omega), r_nc (by omega), q.q1 k (by omega), q.q2 k (by omega), r_mo, r_mz R g8, r_bs, r_bs, r_s]
    by_cases e : u 1 1 ≤ Int32.ofNat (r_lc u (Q.getD k 0))
    · rw [if_pos e, if_pos rfl, if_pos rfl]
      refine r_fl R q j (k + 1) n (by omega) (by omega) (fun i hi => ?_)
      by_cases hik : i = k
      · rw [hik]; exact fun c => c e
      · exact hk i (by omega)
    · rw [if_neg e, if_neg (by decide), if_neg (by decide)]
      exact ⟨_, _, rfl, rfl, Or.inr ⟨k, by omega, rfl, rfl, e⟩⟩
theorem r_ft {u : Nat → Nat → Int32} {z : Nat → Int32} {Q : List Nat} {t : Nat} (R : RI u z) (q : RQ u z Q t) : ∃ r s, fX2_firstTurnThatMayHaveOne u = some r ∧ fX4_firstToServe z = some s ∧ ((r = -1 ∧ s = -1 ∧ ∀ o, o ∈ Q → ¬ r_may u o) ∨ ∃ i, i < Q.length ∧ r = Int32.ofNat i ∧ s = Int32.ofNat (Q.getD i 0) ∧ r_may u (Q.getD i 0)) := by
  have l8 := q.len
  exact r_fl R q Q.length 0 1000 (by omega) (by omega) (fun i hi => by omega)
/-! the idle connection whose turn comes next -/
theorem r_nl {u : Nat → Nat → Int32} {z : Nat → Int32} (R : RI u z) : ∀ j k n b, k + j = 8 → j < n → (b = -1 ∨ ∃ c, c < 8 ∧ b = Int32.ofNat c ∧ u 2 c = 1) → ∃ r, fX2_nextIdle_L4 u n b (Int32.ofNat k) = some r ∧ fX4_nextIdle_L4 z n b (Int32.ofNat k) = some r ∧ ((r = -1 ∧ b = -1 ∧ ∀ i, k ≤ i → i < 8 → u 2 i ≠ 1) ∨ ∃ c, c < 8 ∧ r = Int32.ofNat c ∧ u 2 c = 1)
  | 0, k, n + 1, b, h, _, hb => by
    rw [fX2_nextIdle_L4, fX4_nextIdle_L4, if_pos ((r_8 (by omega)).mpr (by omega)), if_pos ((r_8 (by omega)).mpr (by omega))]
    refine ⟨b, rfl, rfl, ?_⟩
    rcases hb with e | hb
    · exact Or.inl ⟨e, e, fun i a b => by omega⟩
    · exact Or.inr hb
  | j + 1, k, n + 1, b, h, hn, hb => by
    have hkk : k < 8 := by omega
    rw [fX2_nextIdle_L4, fX4_nextIdle_L4, if_neg (r_8n hkk), if_neg (r_8n hkk), if_pos (r_in (by omega) (by omega)), if_pos (r_in (by omega) (by omega)), r_nc (by omega), r_isIn hkk, R.p0 k hkk, r_s]
    have go : ∀ b', (b' = -1 ∨ ∃ c, c < 8 ∧ b' = Int32.ofNat c ∧ u 2 c = 1) → (b' = -1 → b = -1 ∧ u 2 k ≠ 1) → ∃ r, fX2_nextIdle_L4 u n b' (Int32.ofNat (k + 1)) = some r ∧ fX4_nextIdle_L4 z n b' (Int32.ofNat (k + 1)) = some r ∧ ((r = -1 ∧ b = -1 ∧ ∀ i, k ≤ i → i < 8 → u 2 i ≠ 1) ∨ ∃ c, c < 8 ∧ r = Int32.ofNat c ∧ u 2 c = 1) := by
      intro b' hb' hw
      obtain ⟨r, e1, e2, e3⟩ := r_nl R j (k + 1) n b' (by omega) (by omega) hb'
      refine ⟨r, e1, e2, ?_⟩
      rcases e3 with ⟨a1, a2, a3⟩ | e3
      · refine Or.inl ⟨a1, (hw a2).1, fun i hi h8 => ?_⟩
        by_cases hik : i = k
        · rw [hik]; exact (hw a2).2
        · exact a3 i (by omega) h8
      · exact Or.inr e3
    by_cases hs : u 2 k = 1
    · rw [if_pos hs, if_pos hs, r_bs, if_neg r_10]
      rcases hb with hb | ⟨c, c8, hb, hc⟩
      · rw [if_pos hb, if_pos hb, r_bs, if_neg r_10]
        exact go _ (Or.inr ⟨k, hkk, rfl, hs⟩) (fun c => absurd c (r_m1 (by omega)))
      · have nb : ¬ b = -1 := by rw [hb]; exact r_m1 (by omega)
        rw [if_neg nb, if_neg nb, hb, if_pos (r_in c8 (by decide)), r_of4 hkk, r_of4 c8, R.p4 k hkk, R.p4 c c8, if_neg (show ¬ u 2 k = 0 by rw [hs]; decide), if_neg (show ¬ u 2 c = 0 by rw [hc]; decide), r_l3, R.st 3 (by decide), r_bs, r_bs, r_nc (by omega)]
        have k0 : ∃ r, fX2_nextIdle_L4 u n (Int32.ofNat c) (Int32.ofNat (k + 1)) = some r ∧ fX4_nextIdle_L4 z n (Int32.ofNat c) (Int32.ofNat (k + 1)) = some r ∧ ((r = -1 ∧ Int32.ofNat c = -1 ∧ ∀ i, k ≤ i → i < 8 → u 2 i ≠ 1) ∨ ∃ c, c < 8 ∧ r = Int32.ofNat c ∧ u 2 c = 1) := by
          rw [← hb]
          exact go b (Or.inr ⟨c, c8, hb, hc⟩) (fun e => absurd e nb)
        have k1 : ∃ r, fX2_nextIdle_L4 u n (Int32.ofNat k) (Int32.ofNat (k + 1)) = some r ∧ fX4_nextIdle_L4 z n (Int32.ofNat k) (Int32.ofNat (k + 1)) = some r ∧ ((r = -1 ∧ Int32.ofNat c = -1 ∧ ∀ i, k ≤ i → i < 8 → u 2 i ≠ 1) ∨ ∃ c, c < 8 ∧ r = Int32.ofNat c ∧ u 2 c = 1) := by
          rw [← hb]
          exact go _ (Or.inr ⟨k, hkk, rfl, hs⟩) (fun e => absurd e (r_m1 (by omega)))
        have g3 := R.g 3 (by decide)
        have h3 : u 1 3 = 0 ∨ u 1 3 = 1 := by
          have a := g3.1
          have b := g3.2
          have e1 : pw_least 3 = Int32.ofNat 0 := rfl
          have e2 : pw_great 3 = Int32.ofNat 1 := rfl
          rw [e1] at a; rw [e2] at b
          rw [Int32.le_iff_toInt_le, r_ti (by omega)] at a b
          have h01 : (u 1 3).toInt = 0 ∨ (u 1 3).toInt = 1 := by omega
          rcases h01 with e | e
          · exact Or.inl (Int32.toInt_inj.mp e)
          · exact Or.inr (Int32.toInt_inj.mp e)
        unfold fX2_isAhead
        rw [r_l3]
        rcases h3 with h3 | h3
        · rw [h3, if_neg (show ¬ (0 : Int32) = 1 by decide), if_pos rfl]
          by_cases hle : u 6 k ≤ u 6 c
          · rw [if_pos hle, r_bs, r_bs, if_pos rfl, if_pos rfl]; exact k0
          · rw [if_neg hle, r_bs, r_bs, if_neg r_10, if_neg r_10]; exact k1
        · rw [h3, if_pos rfl, if_neg r_10, r_bs, r_bs]
          by_cases hle : u 6 c ≤ u 6 k
          · rw [if_pos hle, r_bs, r_bs, if_pos rfl, if_pos rfl]; exact k0
          · rw [if_neg hle, r_bs, r_bs, if_neg r_10, if_neg r_10]; exact k1
    · rw [if_neg hs, if_neg hs, r_bs, if_pos rfl]
      exact go b hb (fun e => ⟨e, hs⟩)
theorem r_ni {u : Nat → Nat → Int32} {z : Nat → Int32} (R : RI u z) : ∃ r, fX2_nextIdle u = some r ∧ fX4_nextIdle z = some r ∧ ((r = -1 ∧ ∀ i, i < 8 → u 2 i ≠ 1) ∨ ∃ c, c < 8 ∧ r = Int32.ofNat c ∧ u 2 c = 1) := by
  obtain ⟨r, e1, e2, e3⟩ := r_nl R 8 0 1000 (-1) rfl (by decide) (Or.inl rfl)
  refine ⟨r, e1, e2, ?_⟩
  rcases e3 with ⟨a, _, b⟩ | e3
  · exact Or.inl ⟨a, fun i hi => b i (Nat.zero_le _) hi⟩
  · exact Or.inr e3
