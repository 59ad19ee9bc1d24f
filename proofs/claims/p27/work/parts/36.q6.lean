/-! ===== p27: a unit of time; many of them ===== -/
theorem q_mid {u : Nat → Nat → Int32} {m : Nat → Nat → Nat} {Q : List Nat} (A : AB u m Q) (R : IV 0 0 m Q) : ∃ u' m', (if (u 1) (6 : Int32).toNatClampNeg ≤ 0 then some u else if ¬ (u 1) (6 : Int32).toNatClampNeg = 0 then if (u 0 0) - (u 0 0) / ((u 1) (6 : Int32).toNatClampNeg) * ((u 1) (6 : Int32).toNatClampNeg) = 0 then (fX2_checkIdle u).bind fun r4 => some r4.2 else some u else none : Option ((Nat → Nat → Int32))) = some u' ∧ AB u' m' Q ∧ FI 0 0 m m' Q := by
  have s6 := R.s1 (k := 6) (by decide)
  have e6 : u 1 6 = Int32.ofNat (m 1 6) := A.c 1 6 (by decide) (by decide)
  rw [r_l6]
  by_cases h : u 1 6 ≤ 0
  · rw [if_pos h]
    exact ⟨u, m, rfl, A, FI.id R⟩
  · have h2 : ¬ u 1 6 = 0 := fun c => h (by rw [c]; decide)
    rw [if_neg h, if_pos h2]
    split
    · obtain ⟨u', m', e1, A', F, _⟩ := q_ck A R
      rw [e1, r_bs]
      exact ⟨u', m', rfl, A', F⟩
    · exact ⟨u, m, rfl, A, FI.id R⟩
def UR (m : Nat → Nat → Nat) (n : Nat → Nat → Nat) (Q : List Nat) (P : List Nat) : Prop := (IV 0 0 n P) ∧ (QU n P) ∧ (n 0 0 = m 0 0 + 1) ∧ (n 1 = m 1) ∧ (n 8 = m 8) ∧ (n 12 = m 12) ∧ (n 15 6 + P.length ≤ m 15 6 + Q.length) ∧ (∀ o, o ∈ P → o ∈ Q) ∧ (∀ o, o ∉ Q → n 9 o = m 9 o ∧ n 10 o = m 10 o ∧ n 11 o = m 11 o) ∧ (∀ o, o ∈ P → (n 9 o = m 9 o ∧ n 10 o = m 10 o ∧ n 11 o = m 11 o) ∧ m 0 0 + 1 - m 12 o < m 1 8) ∧ (∀ o, o ∈ Q → o ∉ P → (n 9 o = m 9 o + 1 ∧ n 10 o = m 10 o ∧ n 11 o = m 11 o + (m 0 0 + 1 - m 12 o) ∧ m 0 0 + 1 - m 12 o < m 1 8) ∨ (n 9 o = m 9 o ∧ n 10 o = m 10 o + 1 ∧ n 11 o = m 11 o ∧ m 1 8 ≤ m 0 0 + 1 - m 12 o)) ∧ (∀ p, p < 8 → n 2 p = 2 → n 8 (n 3 p) ≠ 0 → n 0 0 - n 6 p < n 1 5) ∧ (con n ≤ n 1 2 ∨ ∀ p, p < 8 → n 2 p = 1 → n 0 0 - n 6 p < n 1 7)
theorem UR.iv {m : Nat → Nat → Nat} {n : Nat → Nat → Nat} {Q : List Nat} {P : List Nat} (h : UR m n Q P) : IV 0 0 n P := h.1
theorem UR.qu {m : Nat → Nat → Nat} {n : Nat → Nat → Nat} {Q : List Nat} {P : List Nat} (h : UR m n Q P) : QU n P := h.2.1
theorem UR.t {m : Nat → Nat → Nat} {n : Nat → Nat → Nat} {Q : List Nat} {P : List Nat} (h : UR m n Q P) : n 0 0 = m 0 0 + 1 := h.2.2.1
theorem UR.r1 {m : Nat → Nat → Nat} {n : Nat → Nat → Nat} {Q : List Nat} {P : List Nat} (h : UR m n Q P) : n 1 = m 1 := h.2.2.2.1
theorem UR.r8 {m : Nat → Nat → Nat} {n : Nat → Nat → Nat} {Q : List Nat} {P : List Nat} (h : UR m n Q P) : n 8 = m 8 := h.2.2.2.2.1
theorem UR.r12 {m : Nat → Nat → Nat} {n : Nat → Nat → Nat} {Q : List Nat} {P : List Nat} (h : UR m n Q P) : n 12 = m 12 := h.2.2.2.2.2.1
theorem UR.lw {m : Nat → Nat → Nat} {n : Nat → Nat → Nat} {Q : List Nat} {P : List Nat} (h : UR m n Q P) : n 15 6 + P.length ≤ m 15 6 + Q.length := h.2.2.2.2.2.2.1
theorem UR.sub {m : Nat → Nat → Nat} {n : Nat → Nat → Nat} {Q : List Nat} {P : List Nat} (h : UR m n Q P) : ∀ o, o ∈ P → o ∈ Q := h.2.2.2.2.2.2.2.1
theorem UR.ow {m : Nat → Nat → Nat} {n : Nat → Nat → Nat} {Q : List Nat} {P : List Nat} (h : UR m n Q P) : ∀ o, o ∉ Q → n 9 o = m 9 o ∧ n 10 o = m 10 o ∧ n 11 o = m 11 o := h.2.2.2.2.2.2.2.2.1
theorem UR.st {m : Nat → Nat → Nat} {n : Nat → Nat → Nat} {Q : List Nat} {P : List Nat} (h : UR m n Q P) : ∀ o, o ∈ P → (n 9 o = m 9 o ∧ n 10 o = m 10 o ∧ n 11 o = m 11 o) ∧ m 0 0 + 1 - m 12 o < m 1 8 := h.2.2.2.2.2.2.2.2.2.1
theorem UR.go {m : Nat → Nat → Nat} {n : Nat → Nat → Nat} {Q : List Nat} {P : List Nat} (h : UR m n Q P) : ∀ o, o ∈ Q → o ∉ P → (n 9 o = m 9 o + 1 ∧ n 10 o = m 10 o ∧ n 11 o = m 11 o + (m 0 0 + 1 - m 12 o) ∧ m 0 0 + 1 - m 12 o < m 1 8) ∨ (n 9 o = m 9 o ∧ n 10 o = m 10 o + 1 ∧ n 11 o = m 11 o ∧ m 1 8 ≤ m 0 0 + 1 - m 12 o) := h.2.2.2.2.2.2.2.2.2.2.1
theorem UR.hl {m : Nat → Nat → Nat} {n : Nat → Nat → Nat} {Q : List Nat} {P : List Nat} (h : UR m n Q P) : ∀ p, p < 8 → n 2 p = 2 → n 8 (n 3 p) ≠ 0 → n 0 0 - n 6 p < n 1 5 := h.2.2.2.2.2.2.2.2.2.2.2.1
theorem UR.hi {m : Nat → Nat → Nat} {n : Nat → Nat → Nat} {Q : List Nat} {P : List Nat} (h : UR m n Q P) : con n ≤ n 1 2 ∨ ∀ p, p < 8 → n 2 p = 1 → n 0 0 - n 6 p < n 1 7 := h.2.2.2.2.2.2.2.2.2.2.2.2
theorem UR.mk {m : Nat → Nat → Nat} {n : Nat → Nat → Nat} {Q : List Nat} {P : List Nat} (iv : IV 0 0 n P) (qu : QU n P) (t : n 0 0 = m 0 0 + 1) (r1 : n 1 = m 1) (r8 : n 8 = m 8) (r12 : n 12 = m 12) (lw : n 15 6 + P.length ≤ m 15 6 + Q.length) (sub : ∀ o, o ∈ P → o ∈ Q) (ow : ∀ o, o ∉ Q → n 9 o = m 9 o ∧ n 10 o = m 10 o ∧ n 11 o = m 11 o) (st : ∀ o, o ∈ P → (n 9 o = m 9 o ∧ n 10 o = m 10 o ∧ n 11 o = m 11 o) ∧ m 0 0 + 1 - m 12 o < m 1 8) (go : ∀ o, o ∈ Q → o ∉ P → (n 9 o = m 9 o + 1 ∧ n 10 o = m 10 o ∧ n 11 o = m 11 o + (m 0 0 + 1 - m 12 o) ∧ m 0 0 + 1 - m 12 o < m 1 8) ∨ (n 9 o = m 9 o ∧ n 10 o = m 10 o + 1 ∧ n 11 o = m 11 o ∧ m 1 8 ≤ m 0 0 + 1 - m 12 o)) (hl : ∀ p, p < 8 → n 2 p = 2 → n 8 (n 3 p) ≠ 0 → n 0 0 - n 6 p < n 1 5) (hi : con n ≤ n 1 2 ∨ ∀ p, p < 8 → n 2 p = 1 → n 0 0 - n 6 p < n 1 7) : UR m n Q P := ⟨iv, qu, t, r1, r8, r12, lw, sub, ow, st, go, hl, hi⟩
theorem q_unit {u : Nat → Nat → Int32} {m : Nat → Nat → Nat} {Q : List Nat} (A : AB u m Q) (R : IV 0 0 m Q) (ht : m 0 0 + 1 < 100000) : ∃ g u' n P, AB u' n P ∧ UR m n Q P ∧ ∀ (x : Int32) (k : Nat) (a i : Int32), ¬ x ≤ i → fX2_passUnits_L4 x (k + 1) a i u = fX2_passUnits_L4 x k (a + g) (i + 1) u' := by
  obtain ⟨u2, m2, f2, A2, L2, hl2⟩ := q_le A.tick (R.tick ht)
  obtain ⟨u3, m3, f3, A3, F3⟩ := q_mid A2 L2.iv
  obtain ⟨u4, m4, f4, A4, F4, hi4⟩ := q_tlo A3 F3.iv
  obtain ⟨g, u5, m5, P1, f5, A5, D, hd⟩ := q_drop A4 F4.iv
  obtain ⟨g', u6, n, P, f6, A6, S⟩ := q_serve (-1) A5 D.iv
  have C := F3.cr.tr F4.cr
  have T : ∀ i, i ≠ 0 → tiN m i = m i := fun i hi => by funext j; simp [tiN, hi]
  have T0 : tiN m 0 0 = m 0 0 + 1 := by simp [tiN]
  have c4 : ∀ i, i ≠ 2 → i ≠ 4 → i ≠ 5 → i ≠ 15 → m4 i = tiN m i := fun i a b c d => (C.r i a b c d).trans (L2.cr.r i a b c d)
  have z0 : m4 0 0 = m 0 0 + 1 := by rw [c4 0 (by decide) (by decide) (by decide) (by decide), T0]
  have z1 : m4 1 = m 1 := (c4 1 (by decide) (by decide) (by decide) (by decide)).trans (T 1 (by decide))
  have z8 : m4 8 = m 8 := (c4 8 (by decide) (by decide) (by decide) (by decide)).trans (T 8 (by decide))
  have z9 : m4 9 = m 9 := (c4 9 (by decide) (by decide) (by decide) (by decide)).trans (T 9 (by decide))
  have z10 : m4 10 = m 10 := (c4 10 (by decide) (by decide) (by decide) (by decide)).trans (T 10 (by decide))
  have z11 : m4 11 = m 11 := (c4 11 (by decide) (by decide) (by decide) (by decide)).trans (T 11 (by decide))
  have z12 : m4 12 = m 12 := (c4 12 (by decide) (by decide) (by decide) (by decide)).trans (T 12 (by decide))
  have y0 : m5 0 = m4 0 := D.r 0 (by decide)
  have y1 : m5 1 = m4 1 := D.r 1 (by decide)
  have y2 : m5 2 = m4 2 := D.r 2 (by decide)
  have y3 : m5 3 = m4 3 := D.r 3 (by decide)
  have y6 : m5 6 = m4 6 := D.r 6 (by decide)
  have y8 : m5 8 = m4 8 := D.r 8 (by decide)
  have y9 : m5 9 = m4 9 := D.r 9 (by decide)
  have y11 : m5 11 = m4 11 := D.r 11 (by decide)
  have y12 : m5 12 = m4 12 := D.r 12 (by decide)
  have y15 : m5 15 = m4 15 := D.r 15 (by decide)
  have n0 : n 0 0 = m 0 0 + 1 := by rw [S.r0, y0, z0]
  have n1 : n 1 = m 1 := by rw [S.r1, y1, z1]
  have n8 : n 8 = m 8 := by rw [S.r8, y8, z8]
  have n12 : n 12 = m 12 := by rw [S.r12, y12, z12]
  refine ⟨g, u6, n, P, A6, UR.mk S.iv S.qu n0 n1 n8 n12 ?_ (fun o h => D.sub o (S.sub o h)) (fun o h => ?_) (fun o h => ?_) (fun o h1 h2 => ?_) (fun p hp a b => ?_) ?_, fun x k a i hx => ?_⟩
  · have a := S.lw
    have b := D.le
    have e : m5 15 6 = m 15 6 := by
      rw [y15, C.t6, L2.cr.t6, T 15 (by decide)]
    omega
  · have h1 : o ∉ P1 := fun z => h (D.sub o z)
    have a := S.ow o h1
    rw [a.1, a.2, S.r10, D.ow o h, y9, y11, z9, z10, z11]
    exact ⟨rfl, rfl, rfl⟩
  · have a := S.st o h
    have b := hd o (S.sub o h)
    rw [z0, z12, z1] at b
    rw [a.1, a.2, S.r10, D.st o (S.sub o h), y9, y11, z9, z10, z11]
    exact ⟨⟨rfl, rfl, rfl⟩, b⟩
  · by_cases h3 : o ∈ P1
    · left
      have a := S.go o h3 h2
      have b := hd o h3
      rw [z0, z12, z1] at b
      rw [a.1, a.2, S.r10, D.st o h3, y9, y11, y12, y0, z0, z9, z10, z11, z12]
      exact ⟨rfl, rfl, rfl, b⟩
    · right
      have a := S.ow o h3
      have b := D.go o h1 h3
      rw [z0, z12, z1] at b
      rw [a.1, a.2, S.r10, b.1, y9, y11, z9, z10, z11]
      exact ⟨rfl, rfl, rfl, b.2⟩
  · rcases S.ln p hp a with ⟨c2, c3, c6⟩ | c
    · rw [y2] at c2
      rw [y3] at c3
      rw [y6] at c6
      have d2 : m2 2 p = 2 := by
        rcases C.pl p hp with ⟨x, _⟩ | x
        · rw [← x]; exact c2
        · omega
      have e3 : m4 3 = m2 3 := C.r 3 (by decide) (by decide) (by decide) (by decide)
      have e6 : m4 6 = m2 6 := C.r 6 (by decide) (by decide) (by decide) (by decide)
      have e8 : m4 8 = m2 8 := C.r 8 (by decide) (by decide) (by decide) (by decide)
      have e1 : m4 1 = m2 1 := C.r 1 (by decide) (by decide) (by decide) (by decide)
      have e0 : m4 0 = m2 0 := C.r 0 (by decide) (by decide) (by decide) (by decide)
      rw [S.r8, y8, c3, e8, e3] at b
      rw [S.r0, S.r1, y0, y1, c6, e0, e1, e6]
      exact hl2 p hp d2 b
    · rw [S.r8] at b
      exact absurd c b
  · have ec : con m5 = con m4 := con_congr (fun i _ => by rw [y2])
    rcases S.cn with a | a
    · rcases hi4 with b | b
      · left
        rw [S.r1, y1]
        omega
      · right
        intro p hp c
        obtain ⟨d, e⟩ := S.idl p hp c
        rw [y2] at d
        rw [S.r0, S.r1, y0, y1, e, y6]
        exact b p hp d
    · exact Or.inr (fun p hp c => absurd c (a p hp))
  · rw [fX2_passUnits_L4, if_neg hx, f2, r_bs, f3, r_bs, f4, r_bs, f5, r_bs, f6, r_bs]
/-- so many units, each state by its number -/
def CH (us : Nat → Nat → Nat → Int32) (ms : Nat → Nat → Nat → Nat) (Qs : Nat → List Nat) (gs : Nat → Int32) (N : Nat) : Prop := (∀ i, i ≤ N → AB (us i) (ms i) (Qs i)) ∧ (∀ i, i ≤ N → IV 0 0 (ms i) (Qs i)) ∧ (∀ i, i < N → UR (ms i) (ms (i + 1)) (Qs i) (Qs (i + 1))) ∧ (∀ i, i < N → ∀ (x : Int32) (k : Nat) (a z : Int32), ¬ x ≤ z → fX2_passUnits_L4 x (k + 1) a z (us i) = fX2_passUnits_L4 x k (a + gs i) (z + 1) (us (i + 1)))
theorem CH.ab {us : Nat → Nat → Nat → Int32} {ms : Nat → Nat → Nat → Nat} {Qs : Nat → List Nat} {gs : Nat → Int32} {N : Nat} (h : CH us ms Qs gs N) : ∀ i, i ≤ N → AB (us i) (ms i) (Qs i) := h.1
theorem CH.iv {us : Nat → Nat → Nat → Int32} {ms : Nat → Nat → Nat → Nat} {Qs : Nat → List Nat} {gs : Nat → Int32} {N : Nat} (h : CH us ms Qs gs N) : ∀ i, i ≤ N → IV 0 0 (ms i) (Qs i) := h.2.1
theorem CH.ur {us : Nat → Nat → Nat → Int32} {ms : Nat → Nat → Nat → Nat} {Qs : Nat → List Nat} {gs : Nat → Int32} {N : Nat} (h : CH us ms Qs gs N) : ∀ i, i < N → UR (ms i) (ms (i + 1)) (Qs i) (Qs (i + 1)) := h.2.2.1
theorem CH.go {us : Nat → Nat → Nat → Int32} {ms : Nat → Nat → Nat → Nat} {Qs : Nat → List Nat} {gs : Nat → Int32} {N : Nat} (h : CH us ms Qs gs N) : ∀ i, i < N → ∀ (x : Int32) (k : Nat) (a z : Int32), ¬ x ≤ z → fX2_passUnits_L4 x (k + 1) a z (us i) = fX2_passUnits_L4 x k (a + gs i) (z + 1) (us (i + 1)) := h.2.2.2
theorem CH.mk {us : Nat → Nat → Nat → Int32} {ms : Nat → Nat → Nat → Nat} {Qs : Nat → List Nat} {gs : Nat → Int32} {N : Nat} (ab : ∀ i, i ≤ N → AB (us i) (ms i) (Qs i)) (iv : ∀ i, i ≤ N → IV 0 0 (ms i) (Qs i)) (ur : ∀ i, i < N → UR (ms i) (ms (i + 1)) (Qs i) (Qs (i + 1))) (go : ∀ i, i < N → ∀ (x : Int32) (k : Nat) (a z : Int32), ¬ x ≤ z → fX2_passUnits_L4 x (k + 1) a z (us i) = fX2_passUnits_L4 x k (a + gs i) (z + 1) (us (i + 1))) : CH us ms Qs gs N := ⟨ab, iv, ur, go⟩
theorem q_chain {u : Nat → Nat → Int32} {m : Nat → Nat → Nat} {Q : List Nat} (A : AB u m Q) (R : IV 0 0 m Q) : ∀ N, m 0 0 + N < 100000 → ∃ us ms Qs gs, us 0 = u ∧ ms 0 = m ∧ Qs 0 = Q ∧ ms N 0 0 = m 0 0 + N ∧ CH us ms Qs gs N
  | 0, h => ⟨fun _ => u, fun _ => m, fun _ => Q, fun _ => 0, rfl, rfl, rfl, rfl, CH.mk (fun _ _ => A) (fun _ _ => R) (fun i hi => by omega) (fun i hi => by omega)⟩
  | N + 1, h => by
    obtain ⟨us, ms, Qs, gs, e0, e1, e2, et, C⟩ := q_chain A R N (by omega)
    obtain ⟨g, u', n, P, A', U, G⟩ := q_unit (C.ab N (Nat.le_refl _)) (C.iv N (Nat.le_refl _)) (by omega)
    have L : ∀ i, i ≤ N → ¬ i = N + 1 := fun i hi => by omega
    refine ⟨fun i => if i = N + 1 then u' else us i, fun i => if i = N + 1 then n else ms i, fun i => if i = N + 1 then P else Qs i, fun i => if i = N then g else gs i, ?_, ?_, ?_, ?_, CH.mk (fun i hi => ?_) (fun i hi => ?_) (fun i hi => ?_) (fun i hi => ?_)⟩
    · show (if 0 = N + 1 then u' else us 0) = u
      rw [if_neg (L 0 (Nat.zero_le _)), e0]
    · show (if 0 = N + 1 then n else ms 0) = m
      rw [if_neg (L 0 (Nat.zero_le _)), e1]
    · show (if 0 = N + 1 then P else Qs 0) = Q
      rw [if_neg (L 0 (Nat.zero_le _)), e2]
    · show (if N + 1 = N + 1 then n else ms (N + 1)) 0 0 = m 0 0 + (N + 1)
      rw [if_pos rfl, U.t, et]; omega
    · by_cases h : i = N + 1
      · simp only [if_pos h]; exact A'
      · simp only [if_neg h]; exact C.ab i (by omega)
    · by_cases h : i = N + 1
      · simp only [if_pos h]; exact U.iv
      · simp only [if_neg h]; exact C.iv i (by omega)
    · have h1 : ¬ i = N + 1 := by omega
      by_cases h : i = N
      · have h2 : i + 1 = N + 1 := by omega
        simp only [if_neg h1, if_pos h2]
        rw [h]; exact U
      · have h2 : ¬ i + 1 = N + 1 := by omega
        simp only [if_neg h1, if_neg h2]
        exact C.ur i (by omega)
    · have h1 : ¬ i = N + 1 := by omega
      by_cases h : i = N
      · have h2 : i + 1 = N + 1 := by omega
        simp only [if_neg h1, if_pos h2, if_pos h]
        rw [h]; exact G
      · have h2 : ¬ i + 1 = N + 1 := by omega
        simp only [if_neg h1, if_neg h2, if_neg h]
        exact C.go i (by omega)
theorem q_paL {us : Nat → Nat → Nat → Int32} {ms : Nat → Nat → Nat → Nat} {Qs : Nat → List Nat} {gs : Nat → Int32} {N : Nat} (C : CH us ms Qs gs N) {x0 M : Nat} (hM : M < 2000000000) : ∀ j n a i k, i + j = M → j < n → k + j ≤ N → ∃ g, fX2_passUnits_L4 (Int32.ofNat M) n a (Int32.ofNat i) (us k) = some (g, us (k + j))
  | 0, n + 1, a, i, k, h, _, hk => by
    rw [fX2_passUnits_L4, if_pos ((r_le (by omega) (by omega)).mpr (by omega))]
    exact ⟨a, rfl⟩
  | j + 1, n + 1, a, i, k, h, hn, hk => by
    have e : ¬ Int32.ofNat M ≤ Int32.ofNat i := fun c => by have := (r_le (by omega) (by omega)).mp c; omega
    rw [C.go k (by omega) _ _ _ _ e, r_s]
    obtain ⟨g, f⟩ := q_paL C hM (x0 := x0) j n (a + gs k) (i + 1) (k + 1) (by omega) (by omega) (by omega)
    refine ⟨g, ?_⟩
    rw [f, show k + 1 + j = k + (j + 1) by omega]
/-- as many units as one likes -/
theorem q_pass {us : Nat → Nat → Nat → Int32} {ms : Nat → Nat → Nat → Nat} {Qs : Nat → List Nat} {gs : Nat → Int32} {N : Nat} (C : CH us ms Qs gs N) {k M : Nat} (hM : M < 1000) (h : k + M ≤ N) : ∃ g, fX2_passUnits (Int32.ofNat M) (us k) = some (g, us (k + M)) :=
  q_paL C (x0 := 0) (by omega) M 1000 0 0 k (by omega) (by omega) h
/-! one owner along the units -/
theorem CH.out {us : Nat → Nat → Nat → Int32} {ms : Nat → Nat → Nat → Nat} {Qs : Nat → List Nat} {gs : Nat → Int32} {N : Nat} (C : CH us ms Qs gs N) {o i : Nat} (h : o ∉ Qs i) : ∀ j, i + j ≤ N → o ∉ Qs (i + j) ∧ ms (i + j) 9 o = ms i 9 o ∧ ms (i + j) 10 o = ms i 10 o ∧ ms (i + j) 11 o = ms i 11 o
  | 0, _ => ⟨h, rfl, rfl, rfl⟩
  | j + 1, hj => by
    obtain ⟨a, b, c, d⟩ := CH.out C h j (by omega)
    have U := C.ur (i + j) (by omega)
    have w := U.ow o a
    exact ⟨fun z => a (U.sub o z), w.1.trans b, w.2.1.trans c, w.2.2.trans d⟩
theorem CH.tm {us : Nat → Nat → Nat → Int32} {ms : Nat → Nat → Nat → Nat} {Qs : Nat → List Nat} {gs : Nat → Int32} {N : Nat} (C : CH us ms Qs gs N) : ∀ i, i ≤ N → ms i 0 0 = ms 0 0 0 + i ∧ ms i 1 = ms 0 1 ∧ ms i 8 = ms 0 8 ∧ ms i 12 = ms 0 12
  | 0, _ => ⟨rfl, rfl, rfl, rfl⟩
  | i + 1, h => by
    obtain ⟨a, b, c, d⟩ := CH.tm C i (by omega)
    have U := C.ur i (by omega)
    exact ⟨by rw [U.t, a]; omega, U.r1.trans b, U.r8.trans c, U.r12.trans d⟩
theorem CH.inn {us : Nat → Nat → Nat → Int32} {ms : Nat → Nat → Nat → Nat} {Qs : Nat → List Nat} {gs : Nat → Int32} {N : Nat} (C : CH us ms Qs gs N) {o : Nat} : ∀ i, i ≤ N → o ∈ Qs i → (ms i 9 o = ms 0 9 o ∧ ms i 10 o = ms 0 10 o ∧ ms i 11 o = ms 0 11 o) ∧ (∀ j, j ≤ i → o ∈ Qs j ∧ ms j 9 o = ms 0 9 o) ∧ (0 < i → ms 0 0 0 + i - ms 0 12 o < ms 0 1 8)
  | 0, _, h => ⟨⟨rfl, rfl, rfl⟩, fun j hj => by have e : j = 0 := by omega
                                                subst e; exact ⟨h, rfl⟩, fun z => by omega⟩
  | i + 1, hi, h => by
    have U := C.ur i (by omega)
    obtain ⟨a, b, _⟩ := CH.inn C i (by omega) (U.sub o h)
    have s := U.st o h
    have t := C.tm i (by omega)
    refine ⟨⟨s.1.1.trans a.1, s.1.2.1.trans a.2.1, s.1.2.2.trans a.2.2⟩, fun j hj => ?_, fun _ => ?_⟩
    · by_cases e : j = i + 1
      · subst e; exact ⟨h, s.1.1.trans a.1⟩
      · exact b j (by omega)
    · have w := s.2
      rw [t.1, t.2.2.2, t.2.1] at w
      omega
/-- the fate of a waiter: served after D units, or it gives up when its time is over -/
theorem CH.fate {us : Nat → Nat → Nat → Int32} {ms : Nat → Nat → Nat → Nat} {Qs : Nat → List Nat} {gs : Nat → Int32} {N : Nat} (C : CH us ms Qs gs N) {o : Nat} (h : o ∈ Qs 0) (hs : ms 0 0 0 - ms 0 12 o < ms 0 1 8) (hN : ms 0 1 8 ≤ N) : ∃ D, 1 ≤ D ∧ D ≤ N ∧ (∀ j, j < D → o ∈ Qs j) ∧ o ∉ Qs D ∧ ((D < ms 0 1 8 - (ms 0 0 0 - ms 0 12 o) ∧ ms D 9 o = ms 0 9 o + 1 ∧ ms D 10 o = ms 0 10 o ∧ ms D 11 o = ms 0 11 o + (ms 0 0 0 - ms 0 12 o + D)) ∨ (D = ms 0 1 8 - (ms 0 0 0 - ms 0 12 o) ∧ ms D 9 o = ms 0 9 o ∧ ms D 10 o = ms 0 10 o + 1 ∧ ms D 11 o = ms 0 11 o)) := by
  have ws := (C.iv 0 (Nat.zero_le _)).ws o h
  have key : ∀ j, j ≤ ms 0 1 8 - (ms 0 0 0 - ms 0 12 o) → (o ∈ Qs (ms 0 1 8 - (ms 0 0 0 - ms 0 12 o) - j)) → ∃ D, 1 ≤ D ∧ D ≤ N ∧ (∀ j, j < D → o ∈ Qs j) ∧ o ∉ Qs D := by
    intro j
    induction j with
    | zero =>
      intro _ c
      exfalso
      have w := (C.inn _ (by omega) c).2.2 (by omega)
      omega
    | succ j ih =>
      intro hj c
      by_cases d : o ∈ Qs (ms 0 1 8 - (ms 0 0 0 - ms 0 12 o) - j)
      · exact ih (by omega) d
      · refine ⟨ms 0 1 8 - (ms 0 0 0 - ms 0 12 o) - j, by omega, by omega, fun i hi => ?_, d⟩
        exact ((C.inn _ (by omega) c).2.1 i (by omega)).1
  obtain ⟨D, d1, dN, dj, dD⟩ := key (ms 0 1 8 - (ms 0 0 0 - ms 0 12 o)) (Nat.le_refl _) (by rw [Nat.sub_self]; exact h)
  refine ⟨D, d1, dN, dj, dD, ?_⟩
  obtain ⟨i, rfl⟩ : ∃ i, D = i + 1 := ⟨D - 1, by omega⟩
  have U := C.ur i (by omega)
  have oi := dj i (by omega)
  have a := (C.inn i (by omega) oi).1
  have t := C.tm i (by omega)
  have pr : 0 < i → ms 0 0 0 + i - ms 0 12 o < ms 0 1 8 := (C.inn i (by omega) oi).2.2
  rcases U.go o oi dD with ⟨g1, g2, g3, g4⟩ | ⟨g1, g2, g3, g4⟩
  · left
    rw [t.1, t.2.2.2] at g3
    rw [t.1, t.2.2.2, t.2.1] at g4
    refine ⟨by omega, by rw [g1, a.1], by rw [g2, a.2.1], ?_⟩
    rw [g3, a.2.2]
    omega
  · right
    rw [t.1, t.2.2.2, t.2.1] at g4
    refine ⟨?_, by rw [g1, a.1], by rw [g2, a.2.1], by rw [g3, a.2.2]⟩
    by_cases hi0 : 0 < i
    · have := pr hi0; omega
    · omega
theorem CH.mono {us : Nat → Nat → Nat → Int32} {ms : Nat → Nat → Nat → Nat} {Qs : Nat → List Nat} {gs : Nat → Int32} {N : Nat} (C : CH us ms Qs gs N) (o : Nat) {i : Nat} (hi : i < N) : ms (i + 1) 9 o = ms i 9 o ∨ ms (i + 1) 9 o = ms i 9 o + 1 := by
  have U := C.ur i hi
  by_cases h : o ∈ Qs i
  · by_cases g : o ∈ Qs (i + 1)
    · exact Or.inl (U.st o g).1.1
    · rcases U.go o h g with a | a
      · exact Or.inr a.1
      · exact Or.inl a.1
  · exact Or.inl (U.ow o h).1
