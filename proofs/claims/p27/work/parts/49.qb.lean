/-! ===== p27: time passes: what is foretold comes ===== -/
theorem q_u4 (f : Nat → Int32) (a b c d : Int32) : upd (upd (upd (upd f (0 : Int32).toNatClampNeg a) (1 : Int32).toNatClampNeg b) (2 : Int32).toNatClampNeg c) (3 : Int32).toNatClampNeg d 0 = a ∧ upd (upd (upd (upd f (0 : Int32).toNatClampNeg a) (1 : Int32).toNatClampNeg b) (2 : Int32).toNatClampNeg c) (3 : Int32).toNatClampNeg d 1 = b ∧ upd (upd (upd (upd f (0 : Int32).toNatClampNeg a) (1 : Int32).toNatClampNeg b) (2 : Int32).toNatClampNeg c) (3 : Int32).toNatClampNeg d 2 = c ∧ upd (upd (upd (upd f (0 : Int32).toNatClampNeg a) (1 : Int32).toNatClampNeg b) (2 : Int32).toNatClampNeg c) (3 : Int32).toNatClampNeg d 3 = d := by
  rw [r_l0, r_l1, r_l2, r_l3]
  refine ⟨?_, ?_, ?_, ?_⟩
  · rw [r_un (by decide), r_un (by decide), r_un (by decide), r_ue rfl]
  · rw [r_un (by decide), r_un (by decide), r_ue rfl]
  · rw [r_un (by decide), r_ue rfl]
  · rw [r_ue rfl]
theorem q_ip {u : Nat → Nat → Int32} {m : Nat → Nat → Nat} {Q : List Nat} (A : AB u m Q) (R : IV 0 0 m Q) {U : Nat} (hU : U ≤ 200) {g : Int32} {u1 : Nat → Nat → Int32} {n : Nat → Nat → Nat} {P1 : List Nat} (hp : fX2_passUnits (Int32.ofNat U) u = some (g, u1)) (A1 : AB u1 n P1) (R1 : IV 0 0 n P1) (T : Nat → Nat → Int32) (pa : Nat → Int32) : (∃ T' p', fX3_ifPassed (Int32.ofNat U) 0 u T pa = some (Sum.inr (g, T', p'))) ∧ (∃ T' p', fX3_ifPassed (Int32.ofNat U) 1 u T pa = some (Sum.inr (u1 15 1 - u 15 1, T', p'))) ∧ (∃ T' p', fX3_ifPassed (Int32.ofNat U) 2 u T pa = some (Sum.inr (Int32.ofNat (con n), T', p'))) ∧ (∃ T' p', fX3_ifPassed (Int32.ofNat U) 3 u T pa = some (Sum.inr (u1 14 0, T', p'))) := by
  have e : fX3_tryPassing (Int32.ofNat U) u T pa = some (u1, upd (upd (upd (upd pa (0 : Int32).toNatClampNeg g) (1 : Int32).toNatClampNeg (u1 15 1 - u 15 1)) (2 : Int32).toNatClampNeg (Int32.ofNat (con n))) (3 : Int32).toNatClampNeg (u1 14 0)) := by
    unfold fX3_tryPassing
    rw [q_cp A R, r_bs, hp, r_bs]
    dsimp only
    rw [q_co A1 R1, r_bs]
    rfl
  obtain ⟨x0, x1, x2, x3⟩ := q_u4 pa g (u1 15 1 - u 15 1) (Int32.ofNat (con n)) (u1 14 0)
  have n0 : ¬ Int32.ofNat U < 0 := r_n0 (by omega)
  have le : Int32.ofNat U ≤ 200 := (r_le (b := 200) (by omega) (by omega)).mpr hU
  refine ⟨?_, ?_, ?_, ?_⟩ <;> unfold fX3_ifPassed <;> rw [if_neg n0, if_pos le]
  · rw [show fX3_requireKind 0 4 = some (Sum.inr ()) from rfl, r_bs, q_el, e, r_bs, if_pos (by decide)]
    exact ⟨_, _, q_3 x0⟩
  · rw [show fX3_requireKind 1 4 = some (Sum.inr ()) from rfl, r_bs, q_el, e, r_bs, if_pos (by decide)]
    exact ⟨_, _, q_3 x1⟩
  · rw [show fX3_requireKind 2 4 = some (Sum.inr ()) from rfl, r_bs, q_el, e, r_bs, if_pos (by decide)]
    exact ⟨_, _, q_3 x2⟩
  · rw [show fX3_requireKind 3 4 = some (Sum.inr ()) from rfl, r_bs, q_el, e, r_bs, if_pos (by decide)]
    exact ⟨_, _, q_3 x3⟩
/-! how long a waiter waits -/
theorem q_w2 : ∀ j k n (wt : Nat → Int32), k + j = 8 → j < n → (∀ i, i < k → wt i = -1) → ∃ wt', fX3_tryWaiting_L2 n (Int32.ofNat k) wt = some wt' ∧ ∀ i, i < 8 → wt' i = -1
  | 0, k, n + 1, wt, h, _, hw => by
    rw [fX3_tryWaiting_L2, if_pos ((r_8 (by omega)).mpr (by omega))]
    exact ⟨wt, rfl, fun i hi => hw i (by omega)⟩
  | j + 1, k, n + 1, wt, h, hn, hw => by
    have hkk : k < 8 := by omega
    rw [fX3_tryWaiting_L2, if_neg (r_8n hkk), if_pos (r_in hkk (by decide)), r_nc (by omega), r_s]
    refine q_w2 j (k + 1) n _ (by omega) (by omega) (fun i hi => ?_)
    by_cases e : i = k
    · rw [e, r_ue rfl]
    · rw [r_un (Ne.symm e)]; exact hw i (by omega)
theorem q_w61 {u u1 : Nat → Nat → Int32} {m n1 : Nat → Nat → Nat} {Q Q1 : List Nat} (A : AB u m Q) (A1 : AB u1 n1 Q1) (hb : ∀ o, o < 8 → m 9 o < 2000000000) (hb1 : ∀ o, o < 8 → n1 9 o < 2000000000) (x g : Int32) : ∀ j k n (wt : Nat → Int32), k + j = 8 → j < n → ∃ wt', fX3_tryWaiting_L61 u x (g, u1) n (Int32.ofNat k) wt = some wt' ∧ (∀ i, i < k → wt' i = wt i) ∧ ∀ i, k ≤ i → i < 8 → wt' i = if wt i = -1 ∧ m 9 i < n1 9 i then x else wt i
  | 0, k, n + 1, wt, h, _ => by
    rw [fX3_tryWaiting_L61, if_pos ((r_8 (by omega)).mpr (by omega))]
    exact ⟨wt, rfl, fun _ _ => rfl, fun i a b => by omega⟩
  | j + 1, k, n + 1, wt, h, hn => by
    have hkk : k < 8 := by omega
    have ec := r_le (a := n1 9 k) (b := m 9 k) (hb1 k hkk) (hb k hkk)
    have keep : (¬ (wt k = -1 ∧ m 9 k < n1 9 k)) → ∃ wt', fX3_tryWaiting_L61 u x (g, u1) n (Int32.ofNat (k + 1)) wt = some wt' ∧ (∀ i, i < k → wt' i = wt i) ∧ ∀ i, k ≤ i → i < 8 → wt' i = if wt i = -1 ∧ m 9 i < n1 9 i then x else wt i := fun hk => by
      obtain ⟨wt', f1, f2, f3⟩ := q_w61 A A1 hb hb1 x g j (k + 1) n wt (by omega) (by omega)
      refine ⟨wt', f1, fun i hi => f2 i (by omega), fun i a b => ?_⟩
      by_cases e : i = k
      · rw [e, if_neg hk]; exact f2 k (by omega)
      · exact f3 i (by omega) b
    rw [fX3_tryWaiting_L61, if_neg (r_8n hkk), if_pos (r_in hkk (by decide)), if_pos (r_in hkk (by decide)), if_pos (r_in hkk (by decide)), if_pos (r_in hkk (by decide)), r_nc (by omega), r_s, A.c 9 k (by decide) (by decide), show ((g, u1) : Int32 × (Nat → Nat → Int32)).2 9 k = Int32.ofNat (n1 9 k) from A1.c 9 k (by decide) (by decide)]
    by_cases hw : wt k = -1
    · rw [if_pos hw]
      by_cases c : n1 9 k ≤ m 9 k
      · rw [if_pos (ec.mpr c)]
        exact keep (fun z => by have := z.2; omega)
      · rw [if_neg (fun z => c (ec.mp z))]
        obtain ⟨wt', f1, f2, f3⟩ := q_w61 A A1 hb hb1 x g j (k + 1) n (upd wt k x) (by omega) (by omega)
        refine ⟨wt', f1, fun i hi => ?_, fun i a b => ?_⟩
        · rw [f2 i (by omega), r_un (by omega)]
        · by_cases e : i = k
          · rw [e, f2 k (by omega), r_ue rfl, if_pos ⟨hw, by omega⟩]
          · rw [f3 i (by omega) b, r_un (Ne.symm e)]
    · rw [if_neg hw]
      exact keep (fun z => hw z.1)
def WTT (ms : Nat → Nat → Nat → Nat) (i : Nat) (wt : Nat → Int32) : Prop := ∀ o, o < 8 → (wt o = -1 ∧ ∀ j, j ≤ i → ms j 9 o = ms 0 9 o) ∨ (∃ D, 1 ≤ D ∧ D ≤ i ∧ wt o = Int32.ofNat D ∧ ms 0 9 o < ms D 9 o ∧ ∀ j, j < D → ms j 9 o = ms 0 9 o)
theorem q_got {m : Nat → Nat → Nat} {Q : List Nat} (R : IV 0 0 m Q) {o : Nat} (ho : o < 8) : m 9 o < 2000000000 := by
  have a := n8_one (f := m 9) ho
  have b := R.c4
  have c := R.c7
  omega
theorem q_w34 {us : Nat → Nat → Nat → Int32} {ms : Nat → Nat → Nat → Nat} {Qs : Nat → List Nat} {gs : Nat → Int32} {N : Nat} (C : CH us ms Qs gs N) (hN : 99 ≤ N) : ∀ j i n (wt : Nat → Int32), i + j = 99 → j < n → WTT ms i wt → ∃ T' wt' i', fX3_tryWaiting_L34 (us 0) n (Int32.ofNat (i + 1)) (us i) wt = some (T', wt') ∧ i' ≤ 99 ∧ WTT ms i' wt' ∧ (i' = 99 ∨ Qs i' = [])
  | 0, i, n + 1, wt, h, _, W => by
    have e : i = 99 := by omega
    subst e
    rw [fX3_tryWaiting_L34, if_pos (by decide)]
    exact ⟨_, wt, 99, rfl, Nat.le_refl _, W, Or.inl rfl⟩
  | j + 1, i, n + 1, wt, h, hn, W => by
    have A := C.ab i (by omega)
    have R := C.iv i (by omega)
    have l8 := R.len8
    rw [fX3_tryWaiting_L34, if_neg (fun z => by have := (r_lt (a := 99) (b := i + 1) (by omega) (by omega)).mp z; omega), A.n]
    have el : Int32.ofNat (Qs i).length ≤ 0 ↔ (Qs i).length ≤ 0 := r_le (b := 0) (by omega) (by omega)
    by_cases c : (Qs i).length ≤ 0
    · rw [if_pos (el.mpr c)]
      exact ⟨_, wt, i, rfl, by omega, W, Or.inr (List.eq_nil_of_length_eq_zero (by omega))⟩
    · rw [if_neg (fun z => c (el.mp z))]
      obtain ⟨g, hg⟩ := q_pass C (k := i) (M := 1) (by decide) (by omega)
      have hg : fX2_passUnits 1 (us i) = some (g, us (i + 1)) := hg
      obtain ⟨wt1, f1, _, f3⟩ := q_w61 (C.ab 0 (Nat.zero_le _)) (C.ab (i + 1) (by omega)) (fun o ho => q_got (C.iv 0 (Nat.zero_le _)) ho) (fun o ho => q_got (C.iv (i + 1) (by omega)) ho) (Int32.ofNat (i + 1)) g 8 0 1000 wt rfl (by decide)
      have f1 : fX3_tryWaiting_L61 (us 0) (Int32.ofNat (i + 1)) (g, us (i + 1)) 1000 0 wt = some wt1 := f1
      rw [hg, r_bs, f1, r_bs, r_s]
      refine q_w34 C hN j (i + 1) n wt1 (by omega) (by omega) (fun o ho => ?_)
      have f := f3 o (Nat.zero_le _) ho
      rcases W o ho with ⟨w1, w2⟩ | ⟨D, d1, d2, d3, d4, d5⟩
      · by_cases z : ms 0 9 o < ms (i + 1) 9 o
        · rw [if_pos ⟨w1, z⟩] at f
          exact Or.inr ⟨i + 1, by omega, Nat.le_refl _, f, z, fun j hj => w2 j (by omega)⟩
        · rw [if_neg (fun y => z y.2), w1] at f
          refine Or.inl ⟨f, fun j hj => ?_⟩
          by_cases e : j = i + 1
          · have a := w2 i (Nat.le_refl _)
            rw [e]
            rcases C.mono o (i := i) (by omega) with b | b <;> omega
          · exact w2 j (by omega)
      · have nd : ¬ (wt o = -1 ∧ ms 0 9 o < ms (i + 1) 9 o) := fun y => r_m1 (a := D) (by omega) (d3 ▸ y.1)
        rw [if_neg nd] at f
        exact Or.inr ⟨D, d1, by omega, by rw [f, d3], d4, d5⟩
/-- how it goes with an owner, told and come -/
def FT (ms : Nat → Nat → Nat → Nat) (Qs : Nat → List Nat) (k : Nat) (due : Int32) : Prop := (k ∉ Qs 0 ∧ due = -1) ∨ (k ∈ Qs 0 ∧ ∃ D, 1 ≤ D ∧ (∀ j, j < D → k ∈ Qs j) ∧ k ∉ Qs D ∧ ((D < ms 0 1 8 - (ms 0 0 0 - ms 0 12 k) ∧ due = Int32.ofNat D ∧ ms D 9 k = ms 0 9 k + 1 ∧ ms D 10 k = ms 0 10 k ∧ ms D 11 k = ms 0 11 k + (ms 0 0 0 - ms 0 12 k + D)) ∨ (D = ms 0 1 8 - (ms 0 0 0 - ms 0 12 k) ∧ due = -1 ∧ ms D 9 k = ms 0 9 k ∧ ms D 10 k = ms 0 10 k + 1 ∧ ms D 11 k = ms 0 11 k)))
theorem q_due {us : Nat → Nat → Nat → Int32} {ms : Nat → Nat → Nat → Nat} {Qs : Nat → List Nat} {gs : Nat → Int32} {N : Nat} (C : CH us ms Qs gs N) (hN : 99 ≤ N) (wl : ∀ o, o ∈ Qs 0 → ms 0 0 0 - ms 0 12 o < ms 0 1 8) {k : Nat} (hk : k < 8) (T : Nat → Nat → Int32) (wt : Nat → Int32) : ∃ due T' wt', fX3_waitsFor (Int32.ofNat k) (us 0) T wt = some (Sum.inr (due, T', wt')) ∧ FT ms Qs k due := by
  have A := C.ab 0 (Nat.zero_le _)
  have R := C.iv 0 (Nat.zero_le _)
  have s8 : ms 0 1 8 ≤ 99 := (R.sg 8 (by decide)).2
  obtain ⟨w0, f0, h0⟩ := q_w2 8 0 1000 wt rfl (by decide) (fun i hi => by omega)
  have f0 : fX3_tryWaiting_L2 1000 0 wt = some w0 := f0
  obtain ⟨T', wt', i', f1, i99, W, last⟩ := q_w34 C hN 99 0 1000 w0 rfl (by decide) (fun o ho => Or.inl ⟨h0 o ho, fun j hj => by rw [show j = 0 by omega]⟩)
  have f1 : fX3_tryWaiting_L34 (us 0) 1000 1 (us 0) w0 = some (T', wt') := f1
  refine ⟨wt' k, T', wt', ?_, ?_⟩
  · unfold fX3_waitsFor
    rw [q_ro hk, r_bs, q_el]
    unfold fX3_tryWaiting
    rw [f0, r_bs, q_cp A R, r_bs, f1, r_bs, if_pos (r_in hk (by decide)), r_nc (by omega)]
  · by_cases hm : k ∈ Qs 0
    · right
      refine ⟨hm, ?_⟩
      obtain ⟨D, d1, dN, dj, dD, cs⟩ := C.fate hm (wl k hm) (by omega)
      have inn : ∀ j, j < D → ms j 9 k = ms 0 9 k := fun j hj => (C.inn j (by omega) (dj j hj)).1.1
      refine ⟨D, d1, dj, dD, ?_⟩
      rcases cs with ⟨c1, c2, c3, c4⟩ | ⟨c1, c2, c3, c4⟩
      · left
        refine ⟨c1, ?_, c2, c3, c4⟩
        rcases W k hk with ⟨w1, w2⟩ | ⟨D', e1, e2, e3, e4, e5⟩
        · exfalso
          by_cases hi : D ≤ i'
          · have := w2 D hi; omega
          · have hin := dj i' (by omega)
            rcases last with z | z
            · omega
            · rw [z] at hin; exact absurd hin List.not_mem_nil
        · have e : D' = D := by
            rcases Nat.lt_trichotomy D' D with z | z | z
            · have := inn D' z; omega
            · exact z
            · have := e5 D z; omega
          rw [e3, e]
      · right
        refine ⟨c1, ?_, c2, c3, c4⟩
        rcases W k hk with ⟨w1, _⟩ | ⟨D', e1, e2, e3, e4, e5⟩
        · exact w1
        · exfalso
          rcases Nat.lt_or_ge D' D with z | z
          · have := inn D' z; omega
          · have o := (C.out dD (D' - D) (by omega)).2.1
            rw [show D + (D' - D) = D' by omega] at o
            omega
    · left
      refine ⟨hm, ?_⟩
      rcases W k hk with ⟨w1, _⟩ | ⟨D', e1, e2, e3, e4, e5⟩
      · exact w1
      · exfalso
        have o := (C.out hm D' (by omega)).2.1
        rw [Nat.zero_add] at o
        omega
/-! leases and kept ones -/
theorem q_h4 {u : Nat → Nat → Int32} {m : Nat → Nat → Nat} {Q : List Nat} (A : AB u m Q) (R : IV 0 0 m Q) (hz : Int32) (hl : ∀ p, p < 8 → m 2 p = 2 → m 8 (m 3 p) ≠ 0 → m 0 0 - m 6 p < m 1 5) (hi : con m ≤ m 1 2 ∨ ∀ p, p < 8 → m 2 p = 1 → m 0 0 - m 6 p < m 1 7) : ∀ j k n, k + j = 8 → j < n → fL_holds_L4 u hz n 1 (Int32.ofNat k) = some 1
  | 0, k, n + 1, h, _ => by
    rw [fL_holds_L4, if_pos ((r_8 (by omega)).mpr (by omega))]
  | j + 1, k, n + 1, h, hn => by
    have hkk : k < 8 := by omega
    have tm := R.tm
    have cn := con_le m
    have s2 := R.s1 (k := 2) (by decide)
    have s5 := R.s1 (k := 5) (by decide)
    have s7 := R.s1 (k := 7) (by decide)
    have ih := q_h4 A R hz hl hi j (k + 1) n (by omega) (by omega)
    have p4 := q_pl4 A R hkk
    have g5 : (if (if m 2 k = 2 then Int32.ofNat (m 3 k) else -1) < 0 then some () else (fX3_owner (if m 2 k = 2 then Int32.ofNat (m 3 k) else -1) 0 u).bind fun r6 => Sum.elim (fun e => none) (fun a7 => if a7 = 1 then some () else (fX3_place (Int32.ofNat k) 4 u).bind fun r8 => Sum.elim (fun e => none) (fun a9 => (fX3_setting 5 u).bind fun r10 => Sum.elim (fun e => none) (fun a11 => if ¬ (a11 ≤ a9) then some () else none) r10) r8) r6 : Option (Unit)) = some () := by
      by_cases z : m 2 k = 2
      · have l3 := R.lt k hkk z
        rw [if_neg (by omega)] at p4
        rw [if_pos z, if_neg (r_n0 (by omega)), q_ow0 A R l3, r_bs, q_el]
        have v8 := R.vn _ l3
        by_cases y : m 8 (m 3 k) = 0
        · rw [y, if_pos (show Int32.ofNat (1 - 0) = 1 from rfl)]
        · have q := hl k hkk z y
          rw [show m 8 (m 3 k) = 1 by omega, if_neg (show ¬ Int32.ofNat (1 - 1) = 1 by decide), p4, r_bs, q_el, q_st5 A, r_bs, q_el, if_pos (fun x => by have := (r_le (by omega) (by omega)).mp x; omega)]
      · rw [if_neg z, if_pos (by decide)]
    rw [fL_holds_L4, if_neg (r_8n hkk), q_pl1 A R hkk, r_bs, q_el, if_pos (show ¬ (1 : Int32) = 0 by decide), g5, r_bs, q_pl0 A R hkk, r_bs, q_el, r_s]
    have e1 : Int32.ofNat (m 2 k) = 1 ↔ m 2 k = 1 := r_eq (b := 1) (by have := R.st k hkk; omega) (by decide)
    by_cases z : m 2 k = 1
    · rw [if_neg (by omega)] at p4
      rw [if_pos (e1.mpr z), q_ct1 A R, r_bs, q_el, q_st2 A, r_bs, q_el]
      have e2 := r_le (a := con m) (b := m 1 2) (by omega) (by omega)
      by_cases y : con m ≤ m 1 2
      · rw [if_pos (e2.mpr y)]; exact ih
      · rcases hi with x | x
        · exact absurd x y
        · have q := x k hkk z
          rw [if_neg (fun w => y (e2.mp w)), p4, r_bs, q_el, q_st7 A, r_bs, q_el, if_pos (fun x => by have := (r_le (by omega) (by omega)).mp x; omega)]
          exact ih
    · rw [if_neg (fun w => z (e1.mp w))]; exact ih
theorem q_h111 {u : Nat → Nat → Int32} {m : Nat → Nat → Nat} {Q : List Nat} (A : AB u m Q) (R : IV 0 0 m Q) (wl : ∀ o, o ∈ Q → m 0 0 - m 12 o < m 1 8) : ∀ j k n, k + j = 8 → j < n → fL_holds_L111 u n 1 (Int32.ofNat k) = some 1
  | 0, k, n + 1, h, _ => by
    rw [fL_holds_L111, if_pos ((r_8 (by omega)).mpr (by omega)), if_pos (by decide)]
  | j + 1, k, n + 1, h, hn => by
    have hkk : k < 8 := by omega
    have tm := R.tm
    have s8 := R.s1 (k := 8) (by decide)
    have s8l : 1 ≤ m 1 8 := (R.sg 8 (by decide)).1
    have ih := q_h111 A R wl j (k + 1) n (by omega) (by omega)
    have q : (if k ∈ Q then m 0 0 - m 12 k else 0) < m 1 8 := by
      split
      · rename_i z; exact wl k z
      · omega
    rw [fL_holds_L111, if_neg (r_8n hkk), if_pos (show ¬ (1 : Int32) = 0 by decide), q_ow3 A R hkk, r_bs, q_el, q_st8 A, r_bs, q_el, if_pos (fun x => by have := (r_le (by omega) (by omega)).mp x; omega), r_s]
    exact ih
theorem q_holds {u : Nat → Nat → Int32} {m : Nat → Nat → Nat} {Q : List Nat} (A : AB u m Q) (R : IV 0 0 m Q) (hz : Int32) (hl : ∀ p, p < 8 → m 2 p = 2 → m 8 (m 3 p) ≠ 0 → m 0 0 - m 6 p < m 1 5) (hi : con m ≤ m 1 2 ∨ ∀ p, p < 8 → m 2 p = 1 → m 0 0 - m 6 p < m 1 7) (wl : ∀ o, o ∈ Q → m 0 0 - m 12 o < m 1 8) : fL_holds u hz = some 1 := by
  unfold fL_holds
  have a : fL_holds_L4 u hz 1000 1 0 = some 1 := q_h4 A R hz hl hi 8 0 1000 rfl (by decide)
  have b : fL_holds_L111 u 1000 1 0 = some 1 := q_h111 A R wl 8 0 1000 rfl (by decide)
  rw [a, r_bs]
  exact b
