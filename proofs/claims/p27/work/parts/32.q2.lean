/-! ===== p27: what closing changes; what is read ===== -/
def CR (m : Nat → Nat → Nat) (n : Nat → Nat → Nat) : Prop := (∀ i, i ≠ 2 → i ≠ 4 → i ≠ 5 → i ≠ 15 → n i = m i) ∧ (n 15 0 = m 15 0) ∧ (m 15 1 ≤ n 15 1) ∧ (n 15 6 = m 15 6) ∧ (∀ k, k < 8 → (n 2 k = m 2 k ∧ n 4 k = m 4 k ∧ n 5 k = m 5 k) ∨ n 2 k = 0)
theorem CR.r {m : Nat → Nat → Nat} {n : Nat → Nat → Nat} (h : CR m n) : ∀ i, i ≠ 2 → i ≠ 4 → i ≠ 5 → i ≠ 15 → n i = m i := h.1
theorem CR.t0 {m : Nat → Nat → Nat} {n : Nat → Nat → Nat} (h : CR m n) : n 15 0 = m 15 0 := h.2.1
theorem CR.t1 {m : Nat → Nat → Nat} {n : Nat → Nat → Nat} (h : CR m n) : m 15 1 ≤ n 15 1 := h.2.2.1
theorem CR.t6 {m : Nat → Nat → Nat} {n : Nat → Nat → Nat} (h : CR m n) : n 15 6 = m 15 6 := h.2.2.2.1
theorem CR.pl {m : Nat → Nat → Nat} {n : Nat → Nat → Nat} (h : CR m n) : ∀ k, k < 8 → (n 2 k = m 2 k ∧ n 4 k = m 4 k ∧ n 5 k = m 5 k) ∨ n 2 k = 0 := h.2.2.2.2
theorem CR.mk {m : Nat → Nat → Nat} {n : Nat → Nat → Nat} (r : ∀ i, i ≠ 2 → i ≠ 4 → i ≠ 5 → i ≠ 15 → n i = m i) (t0 : n 15 0 = m 15 0) (t1 : m 15 1 ≤ n 15 1) (t6 : n 15 6 = m 15 6) (pl : ∀ k, k < 8 → (n 2 k = m 2 k ∧ n 4 k = m 4 k ∧ n 5 k = m 5 k) ∨ n 2 k = 0) : CR m n := ⟨r, t0, t1, t6, pl⟩
theorem CR.id (m : Nat → Nat → Nat) : CR m m := CR.mk (fun _ _ _ _ _ => rfl) rfl (Nat.le_refl _) rfl (fun _ _ => Or.inl ⟨rfl, rfl, rfl⟩)
theorem CR.tr {m n k : Nat → Nat → Nat} (h : CR m n) (g : CR n k) : CR m k :=
  CR.mk (fun i a b c d => (g.r i a b c d).trans (h.r i a b c d)) (g.t0.trans h.t0) (Nat.le_trans h.t1 g.t1) (g.t6.trans h.t6) (fun p hp => by
    rcases g.pl p hp with ⟨a, b, c⟩ | a
    · rcases h.pl p hp with ⟨a', b', c'⟩ | a'
      · exact Or.inl ⟨a.trans a', b.trans b', c.trans c'⟩
      · exact Or.inr (a.trans a')
    · exact Or.inr a)
theorem CR.bump (m : Nat → Nat → Nat) {k : Nat} (h1 : 2 ≤ k) (h2 : k ≤ 5) : CR m (bpN m k) := by
  have a0 : (0 : Nat) ≠ k := by omega
  have a1 : (1 : Nat) ≠ k := by omega
  have a6 : (6 : Nat) ≠ k := by omega
  refine CR.mk (fun i _ _ _ h => ?_) ?_ ?_ ?_ (fun p _ => Or.inl ⟨?_, ?_, ?_⟩)
  · funext j; simp [bpN, sm, h]
  · simp [bpN, sm, a0]
  · simp [bpN, sm, a1]
  · simp [bpN, sm, a6]
  · simp [bpN, sm]
  · simp [bpN, sm]
  · simp [bpN, sm]
theorem CR.clo (m : Nat → Nat → Nat) (p : Nat) : CR m (clN m p) := by
  refine CR.mk (fun i h2 h4 h5 h => ?_) ?_ ?_ ?_ (fun k _ => ?_)
  · funext j; simp [clN, sm, h, h2, h4, h5]
  · simp [clN, sm]
  · simp [clN, sm]
  · simp [clN, sm]
  · by_cases hk : k = p
    · exact Or.inr (by simp [clN, sm, hk])
    · exact Or.inl ⟨by simp [clN, sm, hk], by simp [clN, sm, hk], by simp [clN, sm, hk]⟩
theorem CR.con {d e d' e' : Nat} {m n : Nat → Nat → Nat} {Q Q' : List Nat} (h : CR m n) (R : IV d e m Q) (R' : IV d' e' n Q') : con n ≤ con m := by
  have a := R.c1; have b := R'.c1; have c := h.t0; have g := h.t1
  omega
def clS (m : Nat → Nat → Nat) (p : Nat) : Nat → Nat → Nat := bpN (clN (bpN m 5) p) 2
theorem CR.clS (m : Nat → Nat → Nat) (p : Nat) : CR m (clS m p) := (CR.bump m (k := 5) (by decide) (by decide)).tr ((CR.clo _ p).tr (CR.bump _ (k := 2) (by decide) (by decide)))
theorem IV.clS {d e : Nat} {m : Nat → Nat → Nat} {Q : List Nat} {p : Nat} (R : IV d e m Q) (hp : p < 8) (h2 : m 2 p ≠ 0) : IV d e (clS m p) Q :=
  ((R.bump5).clo hp (by simpa [bpN, sm] using h2)).bump2
theorem AB.clS {u : Nat → Nat → Int32} {m : Nat → Nat → Nat} {Q : List Nat} (h : AB u m Q) (p : Nat) : AB (r_bu (r_cu (r_bu u 5) p) 2) (clS m p) Q := ((h.bump 5).clo p).bump 2
theorem clS_e (m : Nat → Nat → Nat) (p : Nat) : clS m p 2 p = 0 := by simp [clS, bpN, clN, sm]
theorem clS_n (m : Nat → Nat → Nat) {p i : Nat} (h : i ≠ p) : clS m p 2 i = m 2 i := by simp [clS, bpN, clN, sm, h]
theorem AB.eq {u : Nat → Nat → Int32} {m : Nat → Nat → Nat} {Q : List Nat} (h : AB u m Q) {i p k : Nat} (h1 : i ≠ 13) (h2 : i ≠ 14) (hb : m i p < 2000000000) (hk : k < 2000000000) : (u i p = Int32.ofNat k) ↔ m i p = k := by
  rw [h.c i p h1 h2]; exact r_eq hb hk
theorem AB.st {d e : Nat} {u : Nat → Nat → Int32} {m : Nat → Nat → Nat} {Q : List Nat} (h : AB u m Q) (R : IV d e m Q) {p k : Nat} (hp : p < 8) (hk : k < 2000000000) : (u 2 p = Int32.ofNat k) ↔ m 2 p = k :=
  h.eq (by decide) (by decide) (by have := R.st p hp; omega) hk
theorem q_many {d e : Nat} {u : Nat → Nat → Int32} {m : Nat → Nat → Nat} {Q : List Nat} (h : AB u m Q) (R : IV d e m Q) {s : Nat} (hs : s < 2000000000) : r_many u (Int32.ofNat s) = cst m s := by
  unfold r_many cst
  rw [n8_cnt]
  refine n8_congr (fun i hi => ?_)
  show (if decide (u 2 i = Int32.ofNat s) = true then 1 else 0) = if m 2 i = s then 1 else 0
  simp only [h.st R hi hs, decide_eq_true_eq]
theorem n8_add (f g : Nat → Nat) : n8 f + n8 g = n8 (fun i => f i + g i) := by dsimp only [n8]; omega
theorem con_cst (m : Nat → Nat → Nat) : con m + cst m 0 = 8 := by
  unfold con cst
  rw [n8_add]
  refine (n8_congr (f := fun _ => 1) (fun i _ => ?_)).trans rfl
  show (if m 2 i = 0 then 0 else 1) + (if m 2 i = 0 then 1 else 0) = 1
  split <;> rfl
theorem q_so {d e : Nat} {u : Nat → Nat → Int32} {m : Nat → Nat → Nat} {Q : List Nat} (h : AB u m Q) (R : IV d e m Q) {s : Nat} (hs : s < 2000000000) : fX2_standingSo (Int32.ofNat s) u = some (Int32.ofNat (cst m s)) := by
  rw [r_so, q_many h R hs]
theorem q_co {d e : Nat} {u : Nat → Nat → Int32} {m : Nat → Nat → Nat} {Q : List Nat} (h : AB u m Q) (R : IV d e m Q) : fX2_connections u = some (Int32.ofNat (con m)) := by
  rw [r_co]
  unfold r_con
  have e := q_many h R (s := 0) (by decide)
  have e : r_many u 0 = cst m 0 := e
  have c := con_cst m
  rw [e, show 8 - cst m 0 = con m by omega]
theorem q_lcn {d e : Nat} {u : Nat → Nat → Int32} {m : Nat → Nat → Nat} {Q : List Nat} (h : AB u m Q) (R : IV d e m Q) {o : Nat} (ho : o < 8) : r_lc u o = lcn m o := by
  unfold r_lc lcn
  rw [n8_cnt]
  refine n8_congr (fun i hi => ?_)
  show (if decide (u 2 i = 2 ∧ u 3 i = Int32.ofNat o) = true then 1 else 0) = if m 2 i = 2 ∧ m 3 i = o then 1 else 0
  have e2 : u 2 i = 2 ↔ m 2 i = 2 := h.st R hi (k := 2) (by decide)
  by_cases c : m 2 i = 2
  · have l := R.lt i hi c
    have e3 : u 3 i = Int32.ofNat o ↔ m 3 i = o := h.eq (by decide) (by decide) (by omega) (by omega)
    simp only [e2, e3, decide_eq_true_eq]
  · simp only [e2, c, false_and, decide_false, Bool.false_eq_true, if_false]
theorem q_lco {d e : Nat} {u : Nat → Nat → Int32} {m : Nat → Nat → Nat} {Q : List Nat} (h : AB u m Q) (R : IV d e m Q) {o : Nat} (ho : o < 8) : fX2_lentCount (Int32.ofNat o) u = some (Int32.ofNat (lcn m o)) := by
  rw [r_lco, q_lcn h R ho]
theorem IV.s1 {d e : Nat} {m : Nat → Nat → Nat} {Q : List Nat} (R : IV d e m Q) {k : Nat} (hk : k < 9) : m 1 k < 100 := by
  have h := (R.sg k hk).2
  have g : sHi k ≤ 99 := by unfold sHi; split <;> (try split) <;> omega
  omega
theorem q_mo {d e : Nat} {u : Nat → Nat → Int32} {m : Nat → Nat → Nat} {Q : List Nat} (h : AB u m Q) (R : IV d e m Q) {o : Nat} (ho : o < 8) : fX2_mayHaveOneMore (Int32.ofNat o) u = some (if m 1 1 ≤ lcn m o then 0 else 1) := by
  rw [r_mo, q_lcn h R ho, h.c 1 1 (by decide) (by decide)]
  have s := R.s1 (k := 1) (by decide)
  have l := lcn_le m o
  have e := r_le (a := m 1 1) (b := lcn m o) (by omega) (by omega)
  simp only [e]
def NI (m : Nat → Nat → Nat) : Prop := ∀ p, p < 8 → m 2 p ≠ 1
theorem q_nl {d e : Nat} {u : Nat → Nat → Int32} {m : Nat → Nat → Nat} {Q : List Nat} (A : AB u m Q) (R : IV d e m Q) : ∀ j k n b, k + j = 8 → j < n → (b = -1 ∨ ∃ c, c < 8 ∧ b = Int32.ofNat c ∧ m 2 c = 1) → ∃ r, fX2_nextIdle_L4 u n b (Int32.ofNat k) = some r ∧ ((r = -1 ∧ b = -1 ∧ ∀ i, k ≤ i → i < 8 → m 2 i ≠ 1) ∨ ∃ c, c < 8 ∧ r = Int32.ofNat c ∧ m 2 c = 1)
  | 0, k, n + 1, b, h, _, hb => by
    rw [fX2_nextIdle_L4, if_pos ((r_8 (by omega)).mpr (by omega))]
    refine ⟨b, rfl, ?_⟩
    rcases hb with e | hb
    · exact Or.inl ⟨e, e, fun i a b => by omega⟩
    · exact Or.inr hb
  | j + 1, k, n + 1, b, h, hn, hb => by
    have hkk : k < 8 := by omega
    rw [fX2_nextIdle_L4, if_neg (r_8n hkk), if_pos (r_in (by omega) (by omega)), if_pos (r_in (by omega) (by omega)), r_nc (by omega), r_s]
    have go : ∀ b', (b' = -1 ∨ ∃ c, c < 8 ∧ b' = Int32.ofNat c ∧ m 2 c = 1) → (b' = -1 → b = -1 ∧ m 2 k ≠ 1) → ∃ r, fX2_nextIdle_L4 u n b' (Int32.ofNat (k + 1)) = some r ∧ ((r = -1 ∧ b = -1 ∧ ∀ i, k ≤ i → i < 8 → m 2 i ≠ 1) ∨ ∃ c, c < 8 ∧ r = Int32.ofNat c ∧ m 2 c = 1) := by
      intro b' hb' hw
      obtain ⟨r, e1, e3⟩ := q_nl A R j (k + 1) n b' (by omega) (by omega) hb'
      refine ⟨r, e1, ?_⟩
      rcases e3 with ⟨a1, a2, a3⟩ | e3
      · refine Or.inl ⟨a1, (hw a2).1, fun i hi h8 => ?_⟩
        by_cases hik : i = k
        · rw [hik]; exact (hw a2).2
        · exact a3 i (by omega) h8
      · exact Or.inr e3
    have es : u 2 k = 1 ↔ m 2 k = 1 := A.st R hkk (k := 1) (by decide)
    by_cases hs : m 2 k = 1
    · rw [if_pos (es.mpr hs)]
      rcases hb with hb | ⟨c, c8, hb, hc⟩
      · rw [if_pos hb]
        exact go _ (Or.inr ⟨k, hkk, rfl, hs⟩) (fun c => absurd c (r_m1 (by omega)))
      · have nb : ¬ b = -1 := by rw [hb]; exact r_m1 (by omega)
        have k0 := go b (Or.inr ⟨c, c8, hb, hc⟩) (fun e => absurd e nb)
        have k1 := go _ (Or.inr ⟨k, hkk, rfl, hs⟩) (fun e => absurd e (r_m1 (by omega)))
        rw [if_neg nb]
        rw [hb] at k0 k1 ⊢
        rw [if_pos (r_in c8 (by decide)), r_nc (by omega)]
        unfold fX2_isAhead
        split
        · split
          · rw [r_bs, if_pos rfl]; exact k0
          · rw [r_bs, if_neg r_10]; exact k1
        · split
          · rw [r_bs, if_pos rfl]; exact k0
          · rw [r_bs, if_neg r_10]; exact k1
    · rw [if_neg (fun c => hs (es.mp c))]
      exact go b hb (fun e => ⟨e, hs⟩)
theorem q_ni {d e : Nat} {u : Nat → Nat → Int32} {m : Nat → Nat → Nat} {Q : List Nat} (A : AB u m Q) (R : IV d e m Q) : ∃ r, fX2_nextIdle u = some r ∧ ((r = -1 ∧ NI m) ∨ ∃ c, c < 8 ∧ r = Int32.ofNat c ∧ m 2 c = 1) := by
  obtain ⟨r, e1, e3⟩ := q_nl A R 8 0 1000 (-1) rfl (by decide) (Or.inl rfl)
  refine ⟨r, e1, ?_⟩
  rcases e3 with ⟨a, _, b⟩ | e3
  · exact Or.inl ⟨a, fun i hi => b i (Nat.zero_le _) hi⟩
  · exact Or.inr e3
theorem q_cis {d e : Nat} {u : Nat → Nat → Int32} {m : Nat → Nat → Nat} {Q : List Nat} (A : AB u m Q) (R : IV d e m Q) {p : Nat} (hp : p < 8) : fX2_closeIfSick (Int32.ofNat p) u = some (if m 4 p = 0 then (0, r_bu u 5) else (1, r_bu (r_cu (r_bu u 5) p) 2)) := by
  have k := R.sk p hp
  have e : u 4 p = 0 ↔ m 4 p = 0 := A.eq (k := 0) (by decide) (by decide) (by omega) (by decide)
  rw [r_cis u hp]
  simp only [e]
theorem q_opl {d e : Nat} {u : Nat → Nat → Int32} {m : Nat → Nat → Nat} {Q : List Nat} (A : AB u m Q) (R : IV d e m Q) : ∀ j k n, k + j = 8 → j < n → (∃ i, k ≤ i ∧ i < 8 ∧ m 2 i = 0) → ∃ c, c < 8 ∧ m 2 c = 0 ∧ fX2_open_L2 u n (Int32.ofNat k) = some (Int32.ofNat c, r_ou u c)
  | 0, k, n + 1, h, _, ⟨i, a, b, _⟩ => by omega
  | j + 1, k, n + 1, h, hn, ⟨i, a, b, c⟩ => by
    have hkk : k < 8 := by omega
    have es : u 2 k = 0 ↔ m 2 k = 0 := A.st R hkk (k := 0) (by decide)
    rw [fX2_open_L2, if_neg (r_8n hkk)]
    unfold fX2_isEmpty
    rw [if_pos (r_in hkk (by decide)), if_pos (r_in hkk (by decide)), if_pos (r_in hkk (by decide)), if_pos (r_in hkk (by decide)), if_pos (r_in hkk (by decide)), r_nc (by omega), r_s]
    by_cases hs : m 2 k = 0
    · rw [if_pos (es.mpr hs), r_bs, if_neg r_10, r_bs, r_l0]
      exact ⟨k, hkk, hs, rfl⟩
    · rw [if_neg (fun c => hs (es.mp c)), r_bs, if_pos rfl]
      refine q_opl A R j (k + 1) n (by omega) (by omega) ⟨i, ?_, b, c⟩
      rcases Nat.lt_or_ge k i with g | g
      · exact g
      · have e : k = i := by omega
        exact absurd (e ▸ c) hs
theorem q_tail {d e : Nat} {u : Nat → Nat → Int32} {m : Nat → Nat → Nat} {Q : List Nat} (A : AB u m Q) (R : IV d e m Q) : ∃ r u1, ((fX2_connections u).bind fun r2 => if (u 1) (0 : Int32).toNatClampNeg ≤ r2 then some ((-1), u) else (fX2_open u).bind fun r3 => some (r3.1, r3.2)) = some (r, u1) ∧ ((r = -1 ∧ u1 = u ∧ m 1 0 ≤ con m) ∨ ∃ c, c < 8 ∧ r = Int32.ofNat c ∧ m 2 c = 0 ∧ con m < m 1 0 ∧ u1 = r_ou u c) := by
  rw [q_co A R, r_bs, r_l0, A.c 1 0 (by decide) (by decide)]
  have s := (R.sg 0 (by decide)).2
  have s8 : m 1 0 ≤ 8 := s
  have c8 := con_le m
  have ee := r_le (a := m 1 0) (b := con m) (by omega) (by omega)
  by_cases h : m 1 0 ≤ con m
  · rw [if_pos (ee.mpr h)]
    exact ⟨-1, u, rfl, Or.inl ⟨rfl, rfl, h⟩⟩
  · rw [if_neg (fun c => h (ee.mp c))]
    have hz := con_cst m
    obtain ⟨i, hi, hp⟩ := n8_pos (f := fun p => if m 2 p = 0 then 1 else 0) (show 0 < cst m 0 by omega)
    have hi0 : m 2 i = 0 := by
      apply Classical.byContradiction
      intro c
      have hp : 0 < (if m 2 i = 0 then 1 else 0) := hp
      rw [if_neg c] at hp
      omega
    obtain ⟨c, k8, c0, e1⟩ := q_opl A R 8 0 1000 rfl (by decide) ⟨i, Nat.zero_le _, hi, hi0⟩
    unfold fX2_open
    have e1 : fX2_open_L2 u 1000 0 = some (Int32.ofNat c, r_ou u c) := e1
    rw [e1, r_bs]
    exact ⟨_, _, rfl, Or.inr ⟨c, k8, rfl, c0, by omega, rfl⟩⟩
/-! a connection is found -/
def FI (d : Nat) (e : Nat) (m : Nat → Nat → Nat) (n : Nat → Nat → Nat) (Q : List Nat) : Prop := (CR m n) ∧ (IV d e n Q) ∧ (∀ p, p < 8 → m 2 p = 2 → n 2 p = 2)
theorem FI.cr {d : Nat} {e : Nat} {m : Nat → Nat → Nat} {n : Nat → Nat → Nat} {Q : List Nat} (h : FI d e m n Q) : CR m n := h.1
theorem FI.iv {d : Nat} {e : Nat} {m : Nat → Nat → Nat} {n : Nat → Nat → Nat} {Q : List Nat} (h : FI d e m n Q) : IV d e n Q := h.2.1
theorem FI.o2 {d : Nat} {e : Nat} {m : Nat → Nat → Nat} {n : Nat → Nat → Nat} {Q : List Nat} (h : FI d e m n Q) : ∀ p, p < 8 → m 2 p = 2 → n 2 p = 2 := h.2.2
theorem FI.mk {d : Nat} {e : Nat} {m : Nat → Nat → Nat} {n : Nat → Nat → Nat} {Q : List Nat} (cr : CR m n) (iv : IV d e n Q) (o2 : ∀ p, p < 8 → m 2 p = 2 → n 2 p = 2) : FI d e m n Q := ⟨cr, iv, o2⟩
theorem FI.id {d e : Nat} {m : Nat → Nat → Nat} {Q : List Nat} (R : IV d e m Q) : FI d e m m Q := FI.mk (CR.id m) R (fun _ _ h => h)
theorem FI.tr {d e : Nat} {m n k : Nat → Nat → Nat} {Q : List Nat} (h : FI d e m n Q) (g : FI d e n k Q) : FI d e m k Q := FI.mk (h.cr.tr g.cr) g.iv (fun p hp c => g.o2 p hp (h.o2 p hp c))
theorem FI.bump5 {d e : Nat} {m : Nat → Nat → Nat} {Q : List Nat} (R : IV d e m Q) : FI d e m (bpN m 5) Q := FI.mk (CR.bump m (by decide) (by decide)) R.bump5 (fun p _ h => by simpa [bpN, sm] using h)
theorem FI.clS {d e : Nat} {m : Nat → Nat → Nat} {Q : List Nat} {p : Nat} (R : IV d e m Q) (hp : p < 8) (h : m 2 p = 1) : FI d e m (clS m p) Q := FI.mk (CR.clS m p) (R.clS hp (by omega)) (fun k _ c => by
  have hk : k ≠ p := by intro x; rw [x] at c; omega
  rw [clS_n m hk]; exact c)
theorem FI.lcn {d e : Nat} {m n : Nat → Nat → Nat} {Q : List Nat} (h : FI d e m n Q) (o : Nat) : lcn n o = lcn m o := by
  have h3 : n 3 = m 3 := h.cr.r 3 (by decide) (by decide) (by decide) (by decide)
  refine n8_congr (fun i hi => ?_)
  have e : n 2 i = 2 ↔ m 2 i = 2 := ⟨fun c => by
    rcases h.cr.pl i hi with ⟨a, _⟩ | a
    · rw [← a]; exact c
    · omega, h.o2 i hi⟩
  simp only [h3, e]
/-- what comes out of a search: none; an idle one; one that is opened -/
def FO (u1 : Nat → Nat → Int32) (n : Nat → Nat → Nat) (Q : List Nat) (r : Int32) : Prop := (r = -1 ∧ AB u1 n Q ∧ NI n ∧ n 1 0 ≤ con n) ∨ (∃ c, c < 8 ∧ r = Int32.ofNat c ∧ n 2 c = 1 ∧ (n 1 4 = 0 ∨ n 4 c = 0) ∧ AB u1 n Q) ∨ (∃ c, c < 8 ∧ r = Int32.ofNat c ∧ n 2 c = 0 ∧ NI n ∧ con n < n 1 0 ∧ AB u1 (opN n c) Q)
theorem q_fo {d e : Nat} {u : Nat → Nat → Int32} {m : Nat → Nat → Nat} {Q : List Nat} (A : AB u m Q) (R : IV d e m Q) (hn : NI m) : ∃ r u1, ((fX2_connections u).bind fun r2 => if (u 1) (0 : Int32).toNatClampNeg ≤ r2 then some ((-1), u) else (fX2_open u).bind fun r3 => some (r3.1, r3.2)) = some (r, u1) ∧ FO u1 m Q r := by
  obtain ⟨r, u1, e1, e2⟩ := q_tail A R
  refine ⟨r, u1, e1, ?_⟩
  rcases e2 with ⟨a, b, c⟩ | ⟨c, c8, a, b, g, f⟩
  · exact Or.inl ⟨a, by rw [b]; exact A, hn, c⟩
  · exact Or.inr (Or.inr ⟨c, c8, a, b, hn, g, by rw [f]; exact A.ope c⟩)
theorem q_fcl {d e : Nat} {Q : List Nat} : ∀ j i n (u : Nat → Nat → Int32) (m : Nat → Nat → Nat), i + j = 8 → j < n → AB u m Q → IV d e m Q → cst m 1 ≤ j → ∃ r u1 m1, fX2_findConnection_L2 n (Int32.ofNat i) u = some (r, u1) ∧ FI d e m m1 Q ∧ FO u1 m1 Q r
  | 0, i, n + 1, u, m, h, _, A, R, hm => by
    have hn : NI m := fun p hp c => by
      have z := n8_zero (f := fun p => if m 2 p = 1 then 1 else 0) (show cst m 1 = 0 by omega) p hp
      have z : (if m 2 p = 1 then 1 else 0) = 0 := z
      rw [if_pos c] at z
      omega
    obtain ⟨r, u1, e1, e2⟩ := q_fo A R hn
    rw [fX2_findConnection_L2, if_pos ((r_8 (by omega)).mpr (by omega))]
    exact ⟨r, u1, m, e1, FI.id R, e2⟩
  | j + 1, i, n + 1, u, m, h, hn, A, R, hm => by
    obtain ⟨r, e1, e3⟩ := q_ni A R
    rw [fX2_findConnection_L2, if_neg (r_8n (by omega)), e1, r_bs]
    rcases e3 with ⟨e3, hno⟩ | ⟨c, c8, e3, c1⟩
    · rw [if_pos e3]
      obtain ⟨r, u1, e1, e2⟩ := q_fo A R hno
      exact ⟨r, u1, m, e1, FI.id R, e2⟩
    · have nm : ¬ r = -1 := by rw [e3]; exact r_m1 (by omega)
      have s4 := R.s1 (k := 4) (by decide)
      have e4 : u 1 4 = 0 ↔ m 1 4 = 0 := A.eq (k := 0) (by decide) (by decide) (by omega) (by decide)
      rw [if_neg nm, r_l4, e3, q_cis A R c8]
      by_cases h4 : m 1 4 = 0
      · rw [if_pos (e4.mpr h4)]
        exact ⟨_, _, m, rfl, FI.id R, Or.inr (Or.inl ⟨c, c8, rfl, c1, Or.inl h4, A⟩)⟩
      · rw [if_neg (fun x => h4 (e4.mp x)), r_bs]
        by_cases hs : m 4 c = 0
        · rw [if_pos hs, if_pos rfl]
          refine ⟨_, _, bpN m 5, rfl, FI.bump5 R, Or.inr (Or.inl ⟨c, c8, rfl, ?_, Or.inr ?_, A.bump 5⟩)⟩
          · simpa [bpN, sm] using c1
          · simpa [bpN, sm] using hs
        · rw [if_neg hs, if_neg r_10, r_s]
          have hc := cst_upd (m := m) (m1 := clS m c) (s := 1) c8 (fun i hi => clS_n m hi)
          rw [if_pos c1, clS_e, if_neg (by decide)] at hc
          obtain ⟨r', u1, m1, f1, f2, f3⟩ := q_fcl j (i + 1) n _ _ (by omega) (by omega) (A.clS c) (R.clS c8 (by omega)) (by omega)
          exact ⟨r', u1, m1, f1, (FI.clS R c8 c1).tr f2, f3⟩
theorem q_find {d e : Nat} {u : Nat → Nat → Int32} {m : Nat → Nat → Nat} {Q : List Nat} (A : AB u m Q) (R : IV d e m Q) : ∃ r u1 m1, fX2_findConnection u = some (r, u1) ∧ FI d e m m1 Q ∧ FO u1 m1 Q r :=
  q_fcl 8 0 1000 u m rfl (by decide) A R (cst_le m 1)
