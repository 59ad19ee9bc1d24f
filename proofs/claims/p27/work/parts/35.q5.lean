/-! ===== p27: checks, leases, what is idle too long, who waits too long; a unit of time ===== -/
def sF (f : Nat → Nat) : Nat → Nat → Nat
  | 0, _ => 0
  | j + 1, k => f k + sF f j (k + 1)
theorem sF_congr {f g : Nat → Nat} : ∀ j k, (∀ i, k ≤ i → i < k + j → g i = f i) → sF g j k = sF f j k
  | 0, _, _ => rfl
  | j + 1, k, h => by
    have e := sF_congr (f := f) (g := g) j (k + 1) (fun i a b => h i (by omega) (by omega))
    unfold sF
    rw [h k (Nat.le_refl _) (by omega), e]
theorem sF_8 (f : Nat → Nat) : sF f 8 0 = n8 f := by
  simp only [sF, n8, Nat.add_zero, Nat.zero_add, Nat.add_assoc, Nat.reduceAdd]
theorem n8_eq {f g : Nat → Nat} (h : ∀ i, i < 8 → g i = f i) : n8 g = n8 f := n8_congr h
theorem q_ckl {Q : List Nat} : ∀ j k a n (u : Nat → Nat → Int32) (m : Nat → Nat → Nat), k + j = 8 → j < n → AB u m Q → IV 0 0 m Q → ∃ u' m', fX2_checkIdle_L4 n (Int32.ofNat a) (Int32.ofNat k) u = some (Int32.ofNat (a + sF (fun p => if m 2 p = 1 then m 4 p else 0) j k), u') ∧ AB u' m' Q ∧ FI 0 0 m m' Q ∧ m' 15 2 = m 15 2 + sF (fun p => if m 2 p = 1 then m 4 p else 0) j k
  | 0, k, a, n + 1, u, m, h, _, A, R => by
    rw [fX2_checkIdle_L4, if_pos ((r_8 (by omega)).mpr (by omega))]
    exact ⟨u, m, rfl, A, FI.id R, rfl⟩
  | j + 1, k, a, n + 1, u, m, h, hn, A, R => by
    have hkk : k < 8 := by omega
    have es : u 2 k = 1 ↔ m 2 k = 1 := A.st R hkk (k := 1) (by decide)
    rw [fX2_checkIdle_L4, if_neg (r_8n hkk), if_pos (r_in hkk (by decide)), r_nc (by omega), q_cis A R hkk, r_s]
    by_cases hs : m 2 k = 1
    · rw [if_pos (es.mpr hs), r_bs]
      by_cases h4 : m 4 k = 0
      · rw [if_pos h4, if_pos rfl]
        obtain ⟨u', m', e1, A', F, e2⟩ := q_ckl j (k + 1) a n _ _ (by omega) (by omega) (A.bump 5) R.bump5
        have ec : sF (fun p => if bpN m 5 2 p = 1 then bpN m 5 4 p else 0) j (k + 1) = sF (fun p => if m 2 p = 1 then m 4 p else 0) j (k + 1) := sF_congr j (k + 1) (fun i _ _ => by simp [bpN, sm])
        rw [ec] at e1 e2
        have e0 : sF (fun p => if m 2 p = 1 then m 4 p else 0) (j + 1) k = sF (fun p => if m 2 p = 1 then m 4 p else 0) j (k + 1) := by
          show (if m 2 k = 1 then m 4 k else 0) + _ = _
          rw [if_pos hs, h4, Nat.zero_add]
        refine ⟨u', m', ?_, A', (FI.bump5 R).tr F, ?_⟩
        · rw [e0]; exact e1
        · rw [e2, e0]; simp [bpN, sm]
      · have k4 := R.sk k hkk
        have h41 : m 4 k = 1 := by omega
        rw [if_neg h4, if_neg r_10, r_s a]
        obtain ⟨u', m', e1, A', F, e2⟩ := q_ckl j (k + 1) (a + 1) n _ _ (by omega) (by omega) (A.clS k) (R.clS hkk (by omega))
        have ec : sF (fun p => if clS m k 2 p = 1 then clS m k 4 p else 0) j (k + 1) = sF (fun p => if m 2 p = 1 then m 4 p else 0) j (k + 1) := sF_congr j (k + 1) (fun i hi _ => by
          have : i ≠ k := by omega
          simp [clS, bpN, clN, sm, this])
        rw [ec] at e1 e2
        have e0 : sF (fun p => if m 2 p = 1 then m 4 p else 0) (j + 1) k = 1 + sF (fun p => if m 2 p = 1 then m 4 p else 0) j (k + 1) := by
          show (if m 2 k = 1 then m 4 k else 0) + _ = _
          rw [if_pos hs, h41]
        refine ⟨u', m', ?_, A', (FI.clS R hkk hs).tr F, ?_⟩
        · rw [e0, ← Nat.add_assoc]; exact e1
        · rw [e2, e0]; simp [clS, bpN, clN, sm]; omega
    · rw [if_neg (fun c => hs (es.mp c))]
      obtain ⟨u', m', e1, A', F, e2⟩ := q_ckl j (k + 1) a n u m (by omega) (by omega) A R
      have e0 : sF (fun p => if m 2 p = 1 then m 4 p else 0) (j + 1) k = sF (fun p => if m 2 p = 1 then m 4 p else 0) j (k + 1) := by
        show (if m 2 k = 1 then m 4 k else 0) + _ = _
        rw [if_neg hs, Nat.zero_add]
      rw [e0]
      exact ⟨u', m', e1, A', F, e2⟩
/-- all idle ones are checked -/
theorem q_ck {u : Nat → Nat → Int32} {m : Nat → Nat → Nat} {Q : List Nat} (A : AB u m Q) (R : IV 0 0 m Q) : ∃ u' m', fX2_checkIdle u = some (Int32.ofNat (n8 (fun p => if m 2 p = 1 then m 4 p else 0)), u') ∧ AB u' m' Q ∧ FI 0 0 m m' Q ∧ m' 15 2 = m 15 2 + n8 (fun p => if m 2 p = 1 then m 4 p else 0) := by
  obtain ⟨u', m', e1, A', F, e2⟩ := q_ckl 8 0 0 1000 u m rfl (by decide) A R
  rw [sF_8, Nat.zero_add] at e1
  rw [sF_8] at e2
  exact ⟨u', m', e1, A', F, e2⟩
theorem FI.clo {m : Nat → Nat → Nat} {Q : List Nat} {p : Nat} (R : IV 0 0 m Q) (hp : p < 8) (h : m 2 p = 1) : FI 0 0 m (clN m p) Q := FI.mk (CR.clo m p) ((R.clo hp (by omega)).weak (Nat.le_refl _) (by omega)) (fun k _ c => by
  have hk : k ≠ p := by intro x; rw [x] at c; omega
  simpa [clN, sm, hk] using c)
theorem q_dil {Q : List Nat} : ∀ j k a n (u : Nat → Nat → Int32) (m : Nat → Nat → Nat), k + j = 8 → j < n → AB u m Q → IV 0 0 m Q → ∃ u' m', fX2_closeIdle_L4 n (Int32.ofNat a) (Int32.ofNat k) u = some (Int32.ofNat (a + sF (fun p => if m 2 p = 1 then 1 else 0) j k), u') ∧ AB u' m' Q ∧ FI 0 0 m m' Q
  | 0, k, a, n + 1, u, m, h, _, A, R => by
    rw [fX2_closeIdle_L4, if_pos ((r_8 (by omega)).mpr (by omega))]
    exact ⟨u, m, rfl, A, FI.id R⟩
  | j + 1, k, a, n + 1, u, m, h, hn, A, R => by
    have hkk : k < 8 := by omega
    have es : u 2 k = 1 ↔ m 2 k = 1 := A.st R hkk (k := 1) (by decide)
    rw [fX2_closeIdle_L4, if_neg (r_8n hkk), if_pos (r_in hkk (by decide)), r_nc (by omega), r_xcl u hkk, r_s k]
    by_cases hs : m 2 k = 1
    · rw [if_pos (es.mpr hs), r_bs, r_s a]
      have F1 := FI.clo R hkk hs
      obtain ⟨u', m', e1, A', F⟩ := q_dil j (k + 1) (a + 1) n _ _ (by omega) (by omega) (A.clo k) F1.iv
      have ec : sF (fun p => if clN m k 2 p = 1 then 1 else 0) j (k + 1) = sF (fun p => if m 2 p = 1 then 1 else 0) j (k + 1) := sF_congr j (k + 1) (fun i hi _ => by
        have : i ≠ k := by omega
        simp [clN, sm, this])
      rw [ec] at e1
      have e0 : sF (fun p => if m 2 p = 1 then 1 else 0) (j + 1) k = 1 + sF (fun p => if m 2 p = 1 then 1 else 0) j (k + 1) := by
        show (if m 2 k = 1 then 1 else 0) + _ = _
        rw [if_pos hs]
      refine ⟨u', m', ?_, A', F1.tr F⟩
      rw [e0, ← Nat.add_assoc]; exact e1
    · rw [if_neg (fun c => hs (es.mp c))]
      obtain ⟨u', m', e1, A', F⟩ := q_dil j (k + 1) a n u m (by omega) (by omega) A R
      have e0 : sF (fun p => if m 2 p = 1 then 1 else 0) (j + 1) k = sF (fun p => if m 2 p = 1 then 1 else 0) j (k + 1) := by
        show (if m 2 k = 1 then 1 else 0) + _ = _
        rw [if_neg hs, Nat.zero_add]
      rw [e0]
      exact ⟨u', m', e1, A', F⟩
/-- all idle ones are closed -/
theorem q_di {u : Nat → Nat → Int32} {m : Nat → Nat → Nat} {Q : List Nat} (A : AB u m Q) (R : IV 0 0 m Q) : ∃ u' m', fX2_closeIdle u = some (Int32.ofNat (cst m 1), u') ∧ AB u' m' Q ∧ FI 0 0 m m' Q := by
  obtain ⟨u', m', e1, A', F⟩ := q_dil 8 0 0 1000 u m rfl (by decide) A R
  rw [sF_8, Nat.zero_add] at e1
  exact ⟨u', m', e1, A', F⟩
theorem q_tsub {a b : Nat} (h : b ≤ a) : Int32.ofNat a - Int32.ofNat b = Int32.ofNat (a - b) := (Int32.ofNat_sub a b h).symm
/-- leases: closing of what is lent to those who vanished -/
def LI (m : Nat → Nat → Nat) (n : Nat → Nat → Nat) (Q : List Nat) : Prop := (CR m n) ∧ (IV 0 0 n Q) ∧ (∀ p, p < 8 → m 2 p = 1 → n 2 p = 1)
theorem LI.cr {m : Nat → Nat → Nat} {n : Nat → Nat → Nat} {Q : List Nat} (h : LI m n Q) : CR m n := h.1
theorem LI.iv {m : Nat → Nat → Nat} {n : Nat → Nat → Nat} {Q : List Nat} (h : LI m n Q) : IV 0 0 n Q := h.2.1
theorem LI.o1 {m : Nat → Nat → Nat} {n : Nat → Nat → Nat} {Q : List Nat} (h : LI m n Q) : ∀ p, p < 8 → m 2 p = 1 → n 2 p = 1 := h.2.2
theorem LI.mk {m : Nat → Nat → Nat} {n : Nat → Nat → Nat} {Q : List Nat} (cr : CR m n) (iv : IV 0 0 n Q) (o1 : ∀ p, p < 8 → m 2 p = 1 → n 2 p = 1) : LI m n Q := ⟨cr, iv, o1⟩
theorem q_lel {Q : List Nat} : ∀ j k n (u : Nat → Nat → Int32) (m : Nat → Nat → Nat), k + j = 8 → j < n → AB u m Q → IV 0 0 m Q → ∃ u' m', fX2_closeLeasesOfVanished_L2 n (Int32.ofNat k) u = some u' ∧ AB u' m' Q ∧ LI m m' Q ∧ ∀ p, k ≤ p → p < 8 → m' 2 p = 2 → m' 8 (m' 3 p) ≠ 0 → m' 0 0 - m' 6 p < m' 1 5
  | 0, k, n + 1, u, m, h, _, A, R => by
    rw [fX2_closeLeasesOfVanished_L2, if_pos ((r_8 (by omega)).mpr (by omega))]
    exact ⟨u, m, rfl, A, LI.mk (CR.id m) R (fun _ _ h => h), fun p a b => by omega⟩
  | j + 1, k, n + 1, u, m, h, hn, A, R => by
    have hkk : k < 8 := by omega
    have es : u 2 k = 2 ↔ m 2 k = 2 := A.st R hkk (k := 2) (by decide)
    have keep : (m 2 k = 2 → m 8 (m 3 k) ≠ 0 → m 0 0 - m 6 k < m 1 5) → ∃ u' m', fX2_closeLeasesOfVanished_L2 n (Int32.ofNat (k + 1)) u = some u' ∧ AB u' m' Q ∧ LI m m' Q ∧ ∀ p, k ≤ p → p < 8 → m' 2 p = 2 → m' 8 (m' 3 p) ≠ 0 → m' 0 0 - m' 6 p < m' 1 5 := by
      intro hk
      obtain ⟨u', m', e1, A', F, e2⟩ := q_lel j (k + 1) n u m (by omega) (by omega) A R
      refine ⟨u', m', e1, A', F, fun p a b c d => ?_⟩
      by_cases hp : p = k
      · rw [F.cr.r 0 (by decide) (by decide) (by decide) (by decide), F.cr.r 1 (by decide) (by decide) (by decide) (by decide), F.cr.r 6 (by decide) (by decide) (by decide) (by decide)]
        rw [F.cr.r 8 (by decide) (by decide) (by decide) (by decide), F.cr.r 3 (by decide) (by decide) (by decide) (by decide)] at d
        rw [hp] at c d ⊢
        refine hk ?_ d
        rcases F.cr.pl k hkk with ⟨x, _⟩ | x
        · rw [← x]; exact c
        · omega
      · exact e2 p (by omega) b c d
    rw [fX2_closeLeasesOfVanished_L2, if_neg (r_8n hkk), if_pos (r_in hkk (by decide)), if_pos (r_in hkk (by decide)), if_pos (r_in hkk (by decide)), r_nc (by omega), r_xcl u hkk, r_s, r_l5]
    by_cases hs : m 2 k = 2
    · have l3 := R.lt k hkk hs
      have e3 : u 3 k = Int32.ofNat (m 3 k) := A.c 3 k (by decide) (by decide)
      have v8 := R.vn (m 3 k) l3
      have e8 : u 8 (m 3 k) = 0 ↔ m 8 (m 3 k) = 0 := A.eq (k := 0) (by decide) (by decide) (by omega) (by decide)
      have sn := R.sn k hkk (by omega)
      have tm := R.tm
      have s5 := R.s1 (k := 5) (by decide)
      rw [if_pos (es.mpr hs), e3, if_pos (r_in l3 (by decide)), r_nc (by omega)]
      by_cases h8 : m 8 (m 3 k) = 0
      · rw [if_pos (e8.mpr h8)]
        exact keep (fun _ x => absurd h8 x)
      · rw [if_neg (fun x => h8 (e8.mp x)), A.c 0 0 (by decide) (by decide), A.c 6 k (by decide) (by decide), A.c 1 5 (by decide) (by decide), q_tsub sn]
        have el := r_lt (a := m 0 0 - m 6 k) (b := m 1 5) (by omega) (by omega)
        by_cases hl : m 0 0 - m 6 k < m 1 5
        · rw [if_pos (el.mpr hl)]
          exact keep (fun _ _ => hl)
        · rw [if_neg (fun x => hl (el.mp x)), r_bs, r_l4]
          have R1 : IV 0 0 (bpN (clN m k) 4) Q := (R.clo hkk (by omega)).bump4
          obtain ⟨u', m', e1, A', F, e2⟩ := q_lel j (k + 1) n _ _ (by omega) (by omega) ((A.clo k).bump 4) R1
          refine ⟨u', m', e1, A', LI.mk (((CR.clo m k).tr (CR.bump _ (k := 4) (by decide) (by decide))).tr F.cr) F.iv (fun p hp x => F.o1 p hp ?_), fun p a b c d => ?_⟩
          · have hpk : p ≠ k := by intro y; rw [y] at x; omega
            simpa [bpN, clN, sm, hpk] using x
          · by_cases hp : p = k
            · exfalso
              rw [hp] at c
              have z : bpN (clN m k) 4 2 k = 0 := by simp [bpN, clN, sm]
              rcases F.cr.pl k hkk with ⟨x, _⟩ | x <;> omega
            · exact e2 p (by omega) b c d
    · rw [if_neg (fun c => hs (es.mp c))]
      exact keep (fun c => absurd c hs)
theorem q_le {u : Nat → Nat → Int32} {m : Nat → Nat → Nat} {Q : List Nat} (A : AB u m Q) (R : IV 0 0 m Q) : ∃ u' m', fX2_closeLeasesOfVanished u = some u' ∧ AB u' m' Q ∧ LI m m' Q ∧ ∀ p, p < 8 → m' 2 p = 2 → m' 8 (m' 3 p) ≠ 0 → m' 0 0 - m' 6 p < m' 1 5 := by
  obtain ⟨u', m', e1, A', F, e2⟩ := q_lel 8 0 1000 u m rfl (by decide) A R
  exact ⟨u', m', e1, A', F, fun p hp => e2 p (Nat.zero_le _) hp⟩
/-- what is idle too long -/
theorem q_tll {Q : List Nat} : ∀ j k n (u : Nat → Nat → Int32) (m : Nat → Nat → Nat), k + j = 8 → j < n → AB u m Q → IV 0 0 m Q → ∃ u' m', fX2_closeIdleTooLong_L7 n (Int32.ofNat (con m)) (Int32.ofNat k) u = some u' ∧ AB u' m' Q ∧ FI 0 0 m m' Q ∧ (con m' ≤ m' 1 2 ∨ ∀ p, k ≤ p → p < 8 → m' 2 p = 1 → m' 0 0 - m' 6 p < m' 1 7)
  | 0, k, n + 1, u, m, h, _, A, R => by
    rw [fX2_closeIdleTooLong_L7, if_pos ((r_8 (by omega)).mpr (by omega))]
    exact ⟨u, m, rfl, A, FI.id R, Or.inr (fun p a b => by omega)⟩
  | j + 1, k, n + 1, u, m, h, hn, A, R => by
    have hkk : k < 8 := by omega
    have es : u 2 k = 1 ↔ m 2 k = 1 := A.st R hkk (k := 1) (by decide)
    have c8 := con_le m
    have s2 := R.s1 (k := 2) (by decide)
    have s7 := R.s1 (k := 7) (by decide)
    have tm := R.tm
    have keep : (m 2 k = 1 → m 0 0 - m 6 k < m 1 7) → ∃ u' m', fX2_closeIdleTooLong_L7 n (Int32.ofNat (con m)) (Int32.ofNat (k + 1)) u = some u' ∧ AB u' m' Q ∧ FI 0 0 m m' Q ∧ (con m' ≤ m' 1 2 ∨ ∀ p, k ≤ p → p < 8 → m' 2 p = 1 → m' 0 0 - m' 6 p < m' 1 7) := by
      intro hk
      obtain ⟨u', m', e1, A', F, e2⟩ := q_tll j (k + 1) n u m (by omega) (by omega) A R
      refine ⟨u', m', e1, A', F, ?_⟩
      rcases e2 with e2 | e2
      · exact Or.inl e2
      · right
        intro p a b c
        by_cases hp : p = k
        · rw [F.cr.r 0 (by decide) (by decide) (by decide) (by decide), F.cr.r 1 (by decide) (by decide) (by decide) (by decide), F.cr.r 6 (by decide) (by decide) (by decide) (by decide)]
          rw [hp] at c ⊢
          refine hk ?_
          rcases F.cr.pl k hkk with ⟨x, _⟩ | x
          · rw [← x]; exact c
          · omega
        · exact e2 p (by omega) b c
    have el2 := r_le (a := con m) (b := m 1 2) (by omega) (by omega)
    rw [fX2_closeIdleTooLong_L7, if_neg (r_8n hkk), r_l2, A.c 1 2 (by decide) (by decide)]
    by_cases hc : con m ≤ m 1 2
    · rw [if_pos (el2.mpr hc)]
      exact ⟨u, m, rfl, A, FI.id R, Or.inl hc⟩
    · rw [if_neg (fun x => hc (el2.mp x)), if_pos (r_in hkk (by decide)), if_pos (r_in hkk (by decide)), r_nc (by omega), r_xcl u hkk, r_s, r_l7]
      by_cases hs : m 2 k = 1
      · have sn := R.sn k hkk (by omega)
        rw [if_pos (es.mpr hs), A.c 0 0 (by decide) (by decide), A.c 6 k (by decide) (by decide), A.c 1 7 (by decide) (by decide), q_tsub sn]
        have el := r_lt (a := m 0 0 - m 6 k) (b := m 1 7) (by omega) (by omega)
        by_cases hl : m 0 0 - m 6 k < m 1 7
        · rw [if_pos (el.mpr hl)]
          exact keep (fun _ => hl)
        · rw [if_neg (fun x => hl (el.mp x)), r_bs, r_l3]
          have R1 : IV 0 0 (bpN (clN m k) 3) Q := (R.clo hkk (by omega)).bump3
          have ec : con (bpN (clN m k) 3) + 1 = con m := by
            have e := con_upd (m := m) (m1 := bpN (clN m k) 3) hkk (fun i hi => by simp [bpN, clN, sm, hi])
            have z : bpN (clN m k) 3 2 k = 0 := by simp [bpN, clN, sm]
            rw [z, if_neg (by omega), if_pos rfl] at e
            omega
          have ed : Int32.ofNat (con m) + -1 = Int32.ofNat (con (bpN (clN m k) 3)) := by rw [← ec, r_d']
          obtain ⟨u', m', e1, A', F, e2⟩ := q_tll j (k + 1) n _ _ (by omega) (by omega) ((A.clo k).bump 3) R1
          rw [ed]
          refine ⟨u', m', e1, A', FI.mk (((CR.clo m k).tr (CR.bump _ (k := 3) (by decide) (by decide))).tr F.cr) F.iv (fun p hp x => F.o2 p hp ?_), ?_⟩
          · have hpk : p ≠ k := by intro y; rw [y] at x; omega
            simpa [bpN, clN, sm, hpk] using x
          · rcases e2 with e2 | e2
            · exact Or.inl e2
            · right
              intro p a b c
              by_cases hp : p = k
              · exfalso
                rw [hp] at c
                have z : bpN (clN m k) 3 2 k = 0 := by simp [bpN, clN, sm]
                rcases F.cr.pl k hkk with ⟨x, _⟩ | x <;> omega
              · exact e2 p (by omega) b c
      · rw [if_neg (fun c => hs (es.mp c))]
        exact keep (fun c => absurd c hs)
theorem q_tlo {u : Nat → Nat → Int32} {m : Nat → Nat → Nat} {Q : List Nat} (A : AB u m Q) (R : IV 0 0 m Q) : ∃ u' m', fX2_closeIdleTooLong u = some u' ∧ AB u' m' Q ∧ FI 0 0 m m' Q ∧ (con m' ≤ m' 1 2 ∨ ∀ p, p < 8 → m' 2 p = 1 → m' 0 0 - m' 6 p < m' 1 7) := by
  obtain ⟨u', m', e1, A', F, e2⟩ := q_tll 8 0 1000 u m rfl (by decide) A R
  unfold fX2_closeIdleTooLong
  rw [q_co A R, r_bs]
  refine ⟨u', m', e1, A', F, ?_⟩
  rcases e2 with e2 | e2
  · exact Or.inl e2
  · exact Or.inr (fun p hp => e2 p (Nat.zero_le _) hp)
/-- who has waited too long gives up -/
def DR (m : Nat → Nat → Nat) (n : Nat → Nat → Nat) (Q : List Nat) (P : List Nat) : Prop := (IV 0 0 n P) ∧ (∀ i, i ≠ 10 → n i = m i) ∧ (∀ o, o ∈ P → o ∈ Q) ∧ (∀ o, o ∉ Q → n 10 o = m 10 o) ∧ (∀ o, o ∈ P → n 10 o = m 10 o) ∧ (∀ o, o ∈ Q → o ∉ P → n 10 o = m 10 o + 1 ∧ m 1 8 ≤ m 0 0 - m 12 o) ∧ (P.length ≤ Q.length)
theorem DR.iv {m : Nat → Nat → Nat} {n : Nat → Nat → Nat} {Q : List Nat} {P : List Nat} (h : DR m n Q P) : IV 0 0 n P := h.1
theorem DR.r {m : Nat → Nat → Nat} {n : Nat → Nat → Nat} {Q : List Nat} {P : List Nat} (h : DR m n Q P) : ∀ i, i ≠ 10 → n i = m i := h.2.1
theorem DR.sub {m : Nat → Nat → Nat} {n : Nat → Nat → Nat} {Q : List Nat} {P : List Nat} (h : DR m n Q P) : ∀ o, o ∈ P → o ∈ Q := h.2.2.1
theorem DR.ow {m : Nat → Nat → Nat} {n : Nat → Nat → Nat} {Q : List Nat} {P : List Nat} (h : DR m n Q P) : ∀ o, o ∉ Q → n 10 o = m 10 o := h.2.2.2.1
theorem DR.st {m : Nat → Nat → Nat} {n : Nat → Nat → Nat} {Q : List Nat} {P : List Nat} (h : DR m n Q P) : ∀ o, o ∈ P → n 10 o = m 10 o := h.2.2.2.2.1
theorem DR.go {m : Nat → Nat → Nat} {n : Nat → Nat → Nat} {Q : List Nat} {P : List Nat} (h : DR m n Q P) : ∀ o, o ∈ Q → o ∉ P → n 10 o = m 10 o + 1 ∧ m 1 8 ≤ m 0 0 - m 12 o := h.2.2.2.2.2.1
theorem DR.le {m : Nat → Nat → Nat} {n : Nat → Nat → Nat} {Q : List Nat} {P : List Nat} (h : DR m n Q P) : P.length ≤ Q.length := h.2.2.2.2.2.2
theorem DR.mk {m : Nat → Nat → Nat} {n : Nat → Nat → Nat} {Q : List Nat} {P : List Nat} (iv : IV 0 0 n P) (r : ∀ i, i ≠ 10 → n i = m i) (sub : ∀ o, o ∈ P → o ∈ Q) (ow : ∀ o, o ∉ Q → n 10 o = m 10 o) (st : ∀ o, o ∈ P → n 10 o = m 10 o) (go : ∀ o, o ∈ Q → o ∉ P → n 10 o = m 10 o + 1 ∧ m 1 8 ≤ m 0 0 - m 12 o) (le : P.length ≤ Q.length) : DR m n Q P := ⟨iv, r, sub, ow, st, go, le⟩
theorem q_drl : ∀ j n (g : Int32) (u : Nat → Nat → Int32) (m : Nat → Nat → Nat) (Q : List Nat), j ≤ Q.length → j < n → AB u m Q → IV 0 0 m Q → ∃ g' u' m' P, fX2_dropTiredWaiters_L9 n g (Int32.ofNat j - 1) u = some (g', u') ∧ AB u' m' P ∧ DR m m' Q P ∧ ∀ o, o ∈ P → m 0 0 - m 12 o < m 1 8 ∨ ∃ i, j ≤ i ∧ i < Q.length ∧ Q.getD i 0 = o
  | 0, n + 1, g, u, m, Q, h, _, A, R => by
    rw [fX2_dropTiredWaiters_L9, if_pos (by decide)]
    refine ⟨g, u, m, Q, rfl, A, DR.mk R (fun _ _ => rfl) (fun _ h => h) (fun _ _ => rfl) (fun _ _ => rfl) (fun o a b => absurd a b) (Nat.le_refl _), fun o ho => Or.inr ?_⟩
    obtain ⟨i, hi, e⟩ := r_mem.mp ho
    exact ⟨i, Nat.zero_le _, hi, e⟩
  | j + 1, n + 1, g, u, m, Q, h, hn, A, R => by
    have l8 := R.len8
    have hj : j < Q.length := by omega
    have g8 := q_gl R hj
    have ws := R.ws _ (r_gm hj)
    have tm := R.tm
    have s8 := R.s1 (k := 8) (by decide)
    have e1' : Int32.ofNat j + -1 = Int32.ofNat j - 1 := by rw [← Int32.sub_eq_add_neg]
    rw [fX2_dropTiredWaiters_L9, r_d, if_neg (r_n0 (by omega)), if_pos (r_in (by omega) (by decide)), r_nc (by omega), A.q j hj, if_pos (r_in g8 (by decide)), r_nc (by omega), r_l8, A.c 0 0 (by decide) (by decide), A.c 12 _ (by decide) (by decide), A.c 1 8 (by decide) (by decide), q_tsub ws, e1']
    have el := r_lt (a := m 0 0 - m 12 (Q.getD j 0)) (b := m 1 8) (by omega) (by omega)
    by_cases hl : m 0 0 - m 12 (Q.getD j 0) < m 1 8
    · rw [if_pos (el.mpr hl)]
      obtain ⟨g', u', m', P, f1, A', D, f2⟩ := q_drl j n g u m Q (by omega) (by omega) A R
      refine ⟨g', u', m', P, f1, A', D, fun o ho => ?_⟩
      rcases f2 o ho with f | ⟨i, a, b, c⟩
      · exact Or.inl f
      · by_cases hij : i = j
        · left; rw [← c, hij]; exact hl
        · exact Or.inr ⟨i, by omega, b, c⟩
    · rw [if_neg (fun x => hl (el.mp x))]
      obtain ⟨u2, f0, A2⟩ := q_lea A l8 hj
      have A3 := A2.gav (Q.getD j 0)
      have R3 : IV 0 0 (gaN m (Q.getD j 0)) (Q.eraseIdx j) := (R.lea hj).gav
      have ll : (Q.eraseIdx j).length = Q.length - 1 := List.length_eraseIdx_of_lt hj
      have em := fun o => r_em R.nd (o := o) hj
      obtain ⟨g', u', m', P, f1, A', D, f2⟩ := q_drl j n (g + 1) _ _ _ (by omega) (by omega) A3 R3
      have G : ∀ i, i ≠ 10 → gaN m (Q.getD j 0) i = m i := fun i hi => by funext b; simp [gaN, sm, hi]
      have G10 : ∀ o, gaN m (Q.getD j 0) 10 o = if o = Q.getD j 0 then m 10 o + 1 else m 10 o := fun o => by
        by_cases ho : o = Q.getD j 0
        · rw [if_pos ho, ← ho]; simp [gaN, sm]
        · rw [if_neg ho]; simp at ho; simp [gaN, sm, ho]
      rw [f0, r_bs, if_pos (r_in g8 (by decide)), if_pos (r_in g8 (by decide))]
      have f1' : fX2_dropTiredWaiters_L9 n (g + 1) (Int32.ofNat j - 1) (pu u2 10 (upd (u2 10) (Q.getD j 0) (u2 10 (Q.getD j 0) + 1))) = some (g', u') := f1
      have f1 := f1'
      refine ⟨g', u', m', P, ?_, A', DR.mk D.iv (fun i hi => (D.r i hi).trans (G i hi)) (fun o ho => List.mem_of_mem_eraseIdx (D.sub o ho)) (fun o ho => ?_) (fun o ho => ?_) (fun o h1 h2 => ?_) (by have := D.le; omega), fun o ho => ?_⟩
      · exact f1
      · have h1 : o ∉ Q.eraseIdx j := fun z => ho (List.mem_of_mem_eraseIdx z)
        have h2 : ¬ o = Q.getD j 0 := fun z => ho (by rw [z]; exact r_gm hj)
        rw [D.ow o h1, G10, if_neg h2]
      · have h2 : ¬ o = Q.getD j 0 := ((em o).mp (D.sub o ho)).2
        rw [D.st o ho, G10, if_neg h2]
      · by_cases hoo : o = Q.getD j 0
        · have h3 : o ∉ Q.eraseIdx j := fun z => ((em o).mp z).2 hoo
          rw [D.ow o h3, G10, if_pos hoo, hoo]
          exact ⟨rfl, by omega⟩
        · have a := D.go o ((em o).mpr ⟨h1, hoo⟩) h2
          rw [G10, if_neg hoo, G 1 (by decide), G 0 (by decide), G 12 (by decide)] at a
          exact a
      · rcases f2 o ho with f | ⟨i, a, b, c⟩
        · left
          rw [G 1 (by decide), G 0 (by decide), G 12 (by decide)] at f
          exact f
        · right
          rw [r_eg, if_neg (by omega)] at c
          exact ⟨i + 1, by omega, by omega, c⟩
theorem q_drop {u : Nat → Nat → Int32} {m : Nat → Nat → Nat} {Q : List Nat} (A : AB u m Q) (R : IV 0 0 m Q) : ∃ g' u' m' P, fX2_dropTiredWaiters u = some (g', u') ∧ AB u' m' P ∧ DR m m' Q P ∧ ∀ o, o ∈ P → m 0 0 - m 12 o < m 1 8 := by
  have l8 := R.len8
  obtain ⟨g', u', m', P, f1, A', D, f2⟩ := q_drl Q.length 1000 0 u m Q (Nat.le_refl _) (by omega) A R
  unfold fX2_dropTiredWaiters
  rw [A.n]
  refine ⟨g', u', m', P, f1, A', D, fun o ho => ?_⟩
  rcases f2 o ho with f | ⟨i, a, b, _⟩
  · exact f
  · omega
