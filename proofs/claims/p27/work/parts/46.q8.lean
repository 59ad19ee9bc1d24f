/-! ===== p27: all adds up ===== -/
theorem rf_self {c : Nat} {q : Int} (h1 : 4503599627370496 ≤ c) (h2 : c < 9007199254740992) (h3 : -1074 ≤ q) (h4 : q ≤ 971) : Op.cmpValue (FP.dcmp (rf_F c q) (rf_F c q)) .l = 0 := by
  have e : FP.dcmp (rf_F c q) (rf_F c q) = some .eq := by
    show FP.Core.order (FP.Core.decode FP.Core.b64 _) (FP.Core.decode FP.Core.b64 _) = _
    rw [rf_dec h1 h2 h3 h4]
    unfold FP.Core.order
    simp only
    exact congrArg some (Int.compare_eq_eq.mpr rfl)
  rw [e]
  rfl
theorem q_a1 {u : Nat → Nat → Int32} {m : Nat → Nat → Nat} {Q : List Nat} (A : AB u m Q) (R : IV 0 0 m Q) (hz : Int32) : ∀ j k n (a b c d e : Nat), k + j = 8 → j < n → fL_addUp_L15 u hz n (Int32.ofNat a) (Int32.ofNat b) (Int32.ofNat c) (Int32.ofNat d) (Int32.ofNat e) (Int32.ofNat k) = some (Int32.ofNat (a + sF (fun p => if m 2 p = 1 then 1 else 0) j k), Int32.ofNat (b + sF (fun p => if m 2 p = 2 then 1 else 0) j k), Int32.ofNat (c + sF (m 4) j k), Int32.ofNat (d + sF (m 7) j k), Int32.ofNat (e + sF (m 5) j k))
  | 0, k, n + 1, a, b, c, d, e, h, _ => by
    rw [fL_addUp_L15, if_pos ((r_8 (by omega)).mpr (by omega))]
    rfl
  | j + 1, k, n + 1, a, b, c, d, e, h, hn => by
    have hkk : k < 8 := by omega
    have ih := q_a1 A R hz j (k + 1) n (a + (if m 2 k = 1 then 1 else 0)) (b + (if m 2 k = 2 then 1 else 0)) (c + m 4 k) (d + m 7 k) (e + m 5 k) (by omega) (by omega)
    simp only [sF, ← Nat.add_assoc]
    rw [← ih]
    have p0 := q_pl0 A R hkk
    have p1 := q_pl1 A R hkk
    have p2 := q_pl2 A R hkk
    have p3 := q_pl3 A R hkk
    have p4 := q_pl4 A R hkk
    have p5 := q_pl5 A R hkk
    have c0 := q_ct0 A R hz
    have st := R.st k hkk
    have tm := R.tm
    rw [fL_addUp_L15, if_neg (r_8n hkk), p0, r_bs, q_el, p1, r_bs, q_el]
    rcases (show m 2 k = 0 ∨ m 2 k = 1 ∨ m 2 k = 2 by omega) with z | z | z
    · have e4 := R.e4 k hkk z
      have e5 := R.e5 k hkk z
      rw [if_pos z] at p4
      rw [e4] at p2
      rw [e5] at p3
      have g : ¬ (Int32.ofNat 0 < 0) := by decide
      have le : Int32.ofNat 0 ≤ Int32.ofNat (m 0 0) := (r_le (by omega) (by omega)).mpr (by omega)
      rw [z, e4, e5, if_pos g, if_pos (show ¬ ((2 : Int32) < Int32.ofNat 0) by decide), if_neg (show ¬ (Int32.ofNat 0 = 2) by decide), r_bs, if_neg (show ¬ ((0 : Nat) = 2) by decide), if_pos (show (-1 : Int32) < 0 by decide), r_bs, if_pos rfl, if_pos (show Int32.ofNat 0 = 0 from rfl), p2, r_bs, q_el, if_pos (show Int32.ofNat 0 = 0 from rfl), p3, r_bs, q_el, if_pos (show Int32.ofNat 0 = 0 from rfl), p4, r_bs, q_el, if_pos (show Int32.ofNat 0 = 0 from rfl), r_bs, r_bs, q_el, if_pos g, r_bs, q_el, c0, r_bs, q_el, if_pos le, if_neg (show ¬ (Int32.ofNat 0 = 1) by decide), r_bs, r_bs, r_bs, q_el, p5, r_bs, q_el, r_bs, q_el]
      simp only [r_a, r_s, Nat.add_zero, Int32.add_zero, Nat.reduceEqDiff, if_false]
    · rw [if_neg (by omega)] at p4
      have g : ¬ (Int32.ofNat (m 0 0 - m 6 k) < 0) := r_n0 (by omega)
      have le : Int32.ofNat (m 0 0 - m 6 k) ≤ Int32.ofNat (m 0 0) := (r_le (by omega) (by omega)).mpr (by omega)
      rw [z, if_pos (show ¬ (Int32.ofNat 1 < 0) by decide), if_pos (show ¬ ((2 : Int32) < Int32.ofNat 1) by decide), if_neg (show ¬ (Int32.ofNat 1 = 2) by decide), r_bs, if_neg (show ¬ ((1 : Nat) = 2) by decide), if_pos (show (-1 : Int32) < 0 by decide), r_bs, if_pos rfl, if_neg (show ¬ (Int32.ofNat 1 = 0) by decide), r_bs, p4, r_bs, q_el, if_pos g, r_bs, q_el, c0, r_bs, q_el, if_pos le, if_pos (show Int32.ofNat 1 = 1 from rfl), r_bs, r_bs, p2, r_bs, q_el, p5, r_bs, q_el, p3, r_bs, q_el]
      simp only [r_a, r_s, Nat.add_zero, Int32.add_zero, Nat.reduceEqDiff, if_false, if_true]
    · rw [if_neg (by omega)] at p4
      have lt := R.lt k hkk z
      have g : ¬ (Int32.ofNat (m 0 0 - m 6 k) < 0) := r_n0 (by omega)
      have g3 : ¬ (Int32.ofNat (m 3 k) < 0) := r_n0 (by omega)
      have le : Int32.ofNat (m 0 0 - m 6 k) ≤ Int32.ofNat (m 0 0) := (r_le (by omega) (by omega)).mpr (by omega)
      rw [z, if_pos (show ¬ (Int32.ofNat 2 < 0) by decide), if_pos (show ¬ ((2 : Int32) < Int32.ofNat 2) by decide), if_pos (show Int32.ofNat 2 = 2 from rfl), r_bs, if_pos (show (2 : Nat) = 2 from rfl), if_neg g3, r_bs, if_pos rfl, if_neg (show ¬ (Int32.ofNat 2 = 0) by decide), r_bs, p4, r_bs, q_el, if_pos g, r_bs, q_el, c0, r_bs, q_el, if_pos le, if_neg (show ¬ (Int32.ofNat 2 = 1) by decide), r_bs, r_bs, p2, r_bs, q_el, p5, r_bs, q_el, p3, r_bs, q_el]
      simp only [r_a, r_s, Nat.add_zero, Int32.add_zero, Nat.reduceEqDiff, if_false, if_true]
theorem q_a2 {u : Nat → Nat → Int32} {m : Nat → Nat → Nat} {Q : List Nat} (A : AB u m Q) (R : IV 0 0 m Q) {o : Nat} (ho : o < 8) : ∀ j k n (a : Nat), k + j = 8 → j < n → fL_addUp_L291 u (Int32.ofNat o) n (Int32.ofNat a) (Int32.ofNat k) = some (Int32.ofNat (a + sF (fun p => if m 2 p = 2 ∧ m 3 p = o then 1 else 0) j k))
  | 0, k, n + 1, a, h, _ => by
    rw [fL_addUp_L291, if_pos ((r_8 (by omega)).mpr (by omega))]
    rfl
  | j + 1, k, n + 1, a, h, hn => by
    have hkk : k < 8 := by omega
    have ih := q_a2 A R ho j (k + 1) n (a + (if m 2 k = 2 ∧ m 3 k = o then 1 else 0)) (by omega) (by omega)
    simp only [sF, ← Nat.add_assoc]
    rw [← ih, fL_addUp_L291, if_neg (r_8n hkk), q_pl1 A R hkk, r_bs, q_el]
    by_cases z : m 2 k = 2
    · have lt := R.lt k hkk z
      rw [if_pos z]
      by_cases y : m 3 k = o
      · rw [if_pos (show Int32.ofNat (m 3 k) = Int32.ofNat o by rw [y]), if_pos ⟨z, y⟩, r_s, r_s]
      · rw [if_neg (fun c => y ((r_eq (by omega) (by omega)).mp c)), if_neg (fun c => y c.2), r_s, Int32.add_zero]
        rfl
    · rw [if_neg z, if_neg (r_m1' (by omega)), if_neg (fun c => z c.1), r_s, Int32.add_zero]
      rfl
theorem q_a2' {u : Nat → Nat → Int32} {m : Nat → Nat → Nat} {Q : List Nat} (A : AB u m Q) (R : IV 0 0 m Q) {o : Nat} (ho : o < 8) : fL_addUp_L291 u (Int32.ofNat o) 1000 0 0 = some (Int32.ofNat (lcn m o)) := by
  have e := q_a2 A R ho 8 0 1000 0 rfl (by decide)
  rw [sF_8, Nat.zero_add] at e
  exact e
/-! places in the queue as bits -/
def cb (Q : List Nat) (k i : Nat) : Nat := if i < Q.length ∧ Q.getD i 0 < k then 1 else 0
def bm (Q : List Nat) (k : Nat) : Nat := n8 (fun i => cb Q k i * 2 ^ i)
theorem cb_le (Q : List Nat) (k i : Nat) : cb Q k i ≤ 1 := by unfold cb; split <;> omega
theorem n8_bit {c : Nat → Nat} (h : ∀ i, c i ≤ 1) {i : Nat} (hi : i < 8) : n8 (fun i => c i * 2 ^ i) / 2 ^ i % 2 = c i ∧ n8 (fun i => c i * 2 ^ i) < 256 := by
  have h0 := h 0; have h1 := h 1; have h2 := h 2; have h3 := h 3; have h4 := h 4; have h5 := h 5; have h6 := h 6; have h7 := h 7
  dsimp only [n8]
  rcases (show i = 0 ∨ i = 1 ∨ i = 2 ∨ i = 3 ∨ i = 4 ∨ i = 5 ∨ i = 6 ∨ i = 7 by omega) with rfl | rfl | rfl | rfl | rfl | rfl | rfl | rfl <;> simp only [Nat.reducePow] <;> omega
theorem bm_lt (Q : List Nat) (k : Nat) : bm Q k < 256 := (n8_bit (cb_le Q k) (i := 0) (by decide)).2
set_option maxRecDepth 100000 in
theorem q_bits : ∀ b, b < 256 → ∀ i, i < 8 → b / 2 ^ i % 2 = 0 → (¬ ((Int32.ofNat b >>> (Int32.ofNat i &&& 31)) &&& 1 = 1)) ∧ Int32.ofNat b ||| ((1 : Int32) <<< (Int32.ofNat i &&& 31)) = Int32.ofNat (b + 2 ^ i) := by decide +kernel
theorem bm_in {Q : List Nat} (nd : Q.Nodup) {i k : Nat} (hi : i < Q.length) (h8 : i < 8) (hk : Q.getD i 0 = k) : bm Q k / 2 ^ i % 2 = 0 ∧ bm Q (k + 1) = bm Q k + 2 ^ i := by
  have b := (n8_bit (cb_le Q k) h8).1
  have c0 : cb Q k i = 0 := if_neg (fun z => by have := z.2; omega)
  have c1 : cb Q (k + 1) i = 1 := if_pos ⟨hi, by omega⟩
  have b : bm Q k / 2 ^ i % 2 = cb Q k i := b
  refine ⟨by rw [b, c0], ?_⟩
  have e := n8_upd (f := fun i => cb Q k i * 2 ^ i) (g := fun i => cb Q (k + 1) i * 2 ^ i) h8 (fun j hj => by
    show cb Q (k + 1) j * 2 ^ j = cb Q k j * 2 ^ j
    have : cb Q (k + 1) j = cb Q k j := by
      unfold cb
      by_cases hl : j < Q.length
      · have ne : Q.getD j 0 ≠ k := fun c => hj (r_inj nd hl hi (by rw [c, hk]))
        by_cases c : Q.getD j 0 < k
        · rw [if_pos ⟨hl, by omega⟩, if_pos ⟨hl, c⟩]
        · rw [if_neg (fun z => by have := z.2; omega), if_neg (fun z => c z.2)]
      · rw [if_neg (fun z => hl z.1), if_neg (fun z => hl z.1)]
    rw [this])
  have e : bm Q (k + 1) + cb Q k i * 2 ^ i = bm Q k + cb Q (k + 1) i * 2 ^ i := e
  rw [c0, c1, Nat.zero_mul, Nat.one_mul, Nat.add_zero] at e
  exact e
theorem bm_out {Q : List Nat} {k : Nat} (h : k ∉ Q) : bm Q (k + 1) = bm Q k := by
  refine n8_congr (fun i _ => ?_)
  have : cb Q (k + 1) i = cb Q k i := by
    unfold cb
    by_cases hl : i < Q.length
    · have ne : Q.getD i 0 ≠ k := fun c => h (by rw [← c]; exact r_gm hl)
      by_cases c : Q.getD i 0 < k
      · rw [if_pos ⟨hl, by omega⟩, if_pos ⟨hl, c⟩]
      · rw [if_neg (fun z => by have := z.2; omega), if_neg (fun z => c z.2)]
    · rw [if_neg (fun z => hl z.1), if_neg (fun z => hl z.1)]
  rw [this]
theorem bm_0 (Q : List Nat) : bm Q 0 = 0 := by
  have e : bm Q 0 = n8 (fun _ => 0) := n8_congr (fun i _ => by
    have : cb Q 0 i = 0 := if_neg (fun z => by have := z.2; omega)
    rw [this, Nat.zero_mul])
  exact e
theorem q_end : ∀ w, w < 9 → n8 (fun i => (if i < w then 1 else 0) * 2 ^ i) = 2 ^ w - 1 ∧ Int32.ofNat (2 ^ w - 1) = ((1 : Int32) <<< (Int32.ofNat w &&& 31)) - 1 := by decide +kernel
theorem bm_8 {Q : List Nat} (hl : Q.length ≤ 8) (h8 : ∀ o, o ∈ Q → o < 8) : Int32.ofNat (bm Q 8) = ((1 : Int32) <<< (Int32.ofNat Q.length &&& 31)) - 1 := by
  obtain ⟨a, b⟩ := q_end Q.length (by omega)
  rw [← b, ← a]
  refine congrArg Int32.ofNat (n8_congr (fun i _ => ?_))
  have : cb Q 8 i = if i < Q.length then 1 else 0 := by
    unfold cb
    by_cases hi : i < Q.length
    · rw [if_pos ⟨hi, h8 _ (r_gm hi)⟩, if_pos hi]
    · rw [if_neg (fun z => hi z.1), if_neg hi]
  rw [this]
def wq (Q : List Nat) (o : Nat) : Nat := if o ∈ Q then 1 else 0
theorem q_wq : ∀ (Q : List Nat), Q.Nodup → (∀ o, o ∈ Q → o < 8) → n8 (wq Q) = Q.length
  | [], _, _ => by
    refine (n8_congr (f := fun _ => 0) (fun i _ => ?_)).trans rfl
    exact if_neg List.not_mem_nil
  | a :: Q, nd, h8 => by
    have h := List.nodup_cons.mp nd
    have ih := q_wq Q h.2 (fun o ho => h8 o (List.mem_cons_of_mem _ ho))
    have e := n8_upd (f := wq Q) (g := wq (a :: Q)) (h8 a List.mem_cons_self) (fun i hi => by
      unfold wq
      by_cases hm : i ∈ Q
      · rw [if_pos hm, if_pos (List.mem_cons_of_mem _ hm)]
      · rw [if_neg hm, if_neg (fun c => by
          rcases List.mem_cons.mp c with z | z
          · exact hi z
          · exact hm z)])
    have f0 : wq Q a = 0 := if_neg h.1
    have f1 : wq (a :: Q) a = 1 := if_pos List.mem_cons_self
    rw [List.length_cons]
    omega
theorem n8_swap (f : Nat → Nat → Nat) : n8 (fun o => n8 (fun p => f o p)) = n8 (fun p => n8 (fun o => f o p)) := by
  dsimp only [n8]
  omega
theorem q_has {m : Nat → Nat → Nat} {Q : List Nat} (R : IV 0 0 m Q) : n8 (lcn m) = cst m 2 := by
  have e : n8 (lcn m) = n8 (fun p => n8 (fun o => if m 2 p = 2 ∧ m 3 p = o then 1 else 0)) := n8_swap (fun o p => if m 2 p = 2 ∧ m 3 p = o then 1 else 0)
  rw [e]
  refine n8_congr (fun p hp => ?_)
  by_cases z : m 2 p = 2
  · have l := R.lt p hp z
    rw [if_pos z]
    have e2 := n8_upd (f := fun _ => 0) (g := fun o => if m 2 p = 2 ∧ m 3 p = o then 1 else 0) l (fun i hi => by
      show (if m 2 p = 2 ∧ m 3 p = i then 1 else 0) = 0
      rw [if_neg (fun c => hi c.2.symm)])
    have z0 : n8 (fun _ => 0) = 0 := rfl
    have e3 : (fun o => if m 2 p = 2 ∧ m 3 p = o then 1 else 0) (m 3 p) = 1 := if_pos ⟨z, rfl⟩
    rw [z0, if_pos ⟨z, rfl⟩] at e2
    omega
  · rw [if_neg z]
    refine (n8_congr (f := fun _ => 0) (fun i _ => ?_)).trans rfl
    show (if m 2 p = 2 ∧ m 3 p = i then 1 else 0) = 0
    rw [if_neg (fun c => z c.1)]
theorem q_con {m : Nat → Nat → Nat} {Q : List Nat} (R : IV 0 0 m Q) : con m = cst m 1 + cst m 2 := by
  unfold con cst
  rw [n8_add]
  refine n8_congr (fun p hp => ?_)
  have s := R.st p hp
  show (if m 2 p = 0 then 0 else 1) = (if m 2 p = 1 then 1 else 0) + (if m 2 p = 2 then 1 else 0)
  rcases (show m 2 p = 0 ∨ m 2 p = 1 ∨ m 2 p = 2 by omega) with z | z | z <;> rw [z] <;> rfl
/-! the least and the greatest -/
def FV (l g : Int32) : Prop := (l = 0 ∧ g = 0) ∨ (0 < l.toInt ∧ l.toInt ≤ g.toInt)
theorem q_ite {α : Type} (c : Prop) [Decidable c] (a b : α) : (if c then some a else some b) = some (if c then a else b) := by split <;> rfl
theorem q_lm (a l g : Int32) (hv : FV l g) : ∃ l1, (if a ≤ 0 then some l else if l = 0 then some a else if l ≤ a then some l else some a) = some l1 ∧ FV l1 (if a ≤ g then g else a) := by
  have z0 : (0 : Int32).toInt = 0 := by decide
  have big : a ≤ g → a.toInt ≤ g.toInt := fun c => Int32.le_iff_toInt_le.mp c
  by_cases h0 : a ≤ 0
  · rw [if_pos h0]
    refine ⟨l, rfl, ?_⟩
    rw [Int32.le_iff_toInt_le, z0] at h0
    rcases hv with ⟨x, y⟩ | ⟨x, y⟩
    · left
      refine ⟨x, ?_⟩
      rw [if_pos (by rw [y, Int32.le_iff_toInt_le, z0]; exact h0), y]
    · right
      refine ⟨x, ?_⟩
      rw [if_pos (by rw [Int32.le_iff_toInt_le]; omega)]
      exact y
  · rw [if_neg h0]
    rw [Int32.le_iff_toInt_le, z0] at h0
    by_cases hl : l = 0
    · rw [if_pos hl]
      refine ⟨a, rfl, Or.inr ⟨by omega, ?_⟩⟩
      split
      · rename_i c; exact big c
      · omega
    · rw [if_neg hl]
      rcases hv with ⟨x, _⟩ | ⟨x, y⟩
      · exact absurd x hl
      · by_cases hle : l ≤ a
        · rw [if_pos hle]
          rw [Int32.le_iff_toInt_le] at hle
          refine ⟨l, rfl, Or.inr ⟨x, ?_⟩⟩
          split
          · exact y
          · exact hle
        · rw [if_neg hle]
          rw [Int32.le_iff_toInt_le] at hle
          refine ⟨a, rfl, Or.inr ⟨by omega, ?_⟩⟩
          split
          · omega
          · omega
theorem q_gm (a g : Int32) : (if g < a then a else g) = if a ≤ g then g else a := by
  by_cases c : a ≤ g
  · rw [if_pos c, if_neg (fun d => by rw [Int32.lt_iff_toInt_lt] at d; rw [Int32.le_iff_toInt_le] at c; omega)]
  · rw [if_neg c, if_pos (by rw [Int32.lt_iff_toInt_lt]; rw [Int32.le_iff_toInt_le] at c; omega)]
/-! who blocks -/
def BI (m : Nat → Nat → Nat) (x bl : Int32) : Prop := (x = 0 ∧ bl = -1) ∨ ∃ b, b < 8 ∧ bl = Int32.ofNat b ∧ x = Int32.ofNat (lcn m b) ∧ 0 < lcn m b
theorem q_a3 {u : Nat → Nat → Int32} {m : Nat → Nat → Nat} {Q : List Nat} (A : AB u m Q) (R : IV 0 0 m Q) (hz : Int32) {v : Int32} (hv : v = 0 ∨ ∀ o, o ∈ Q → m 1 1 ≤ lcn m o) : ∀ j k n n1 n2 (g h w : Nat) (mo le bl x : Int32), k + j = 8 → j < n → j < n1 → j < n2 → FV le mo → BI m x bl → ∃ mo' le' bl', fL_addUp_L251 u hz v n (Int32.ofNat g) (Int32.ofNat h) (Int32.ofNat w) mo le (Int32.ofNat (bm Q k)) bl (Int32.ofNat k) = some (Int32.ofNat (g + sF (m 9) j k), Int32.ofNat (h + sF (lcn m) j k), Int32.ofNat (w + sF (wq Q) j k), mo', le', Int32.ofNat (bm Q 8), bl') ∧ fX3_fairness_L6 u n1 le mo (Int32.ofNat k) = some (le', mo') ∧ FV le' mo' ∧ fX3_blocker_L18 u n2 x bl (Int32.ofNat k) = some bl'
  | 0, k, n + 1, n1 + 1, n2 + 1, g, h, w, mo, le, bl, x, hk, _, _, _, hf, hb => by
    have e8 : k = 8 := by omega
    subst e8
    rw [fL_addUp_L251, fX3_fairness_L6, fX3_blocker_L18, if_pos ((r_8 (by omega)).mpr (by omega)), if_pos ((r_8 (by omega)).mpr (by omega)), if_pos ((r_8 (by omega)).mpr (by omega))]
    exact ⟨mo, le, bl, rfl, rfl, hf, rfl⟩
  | j + 1, k, n + 1, n1 + 1, n2 + 1, g, h, w, mo, le, bl, x, hk, hn, hn1, hn2, hf, hb => by
    have hkk : k < 8 := by omega
    have l8 := R.len8
    have tm := R.tm
    have lk := lcn_le m k
    have s1 := R.s1 (k := 1) (by decide)
    obtain ⟨l1, hl1, hf1⟩ := q_lm (Int32.ofNat (m 9 k)) le mo hf
    -- the rest, for whatever blocker
    have rest : ∀ (v59 : Int32) (w1 : Nat), Int32.ofNat (bm Q k) ||| v59 = Int32.ofNat (bm Q (k + 1)) → wq Q k = w1 → ∃ mo' le' bl', (if Int32.ofNat (lcn m k) ≤ 0 then
        fL_addUp_L251 u hz v n (Int32.ofNat g + Int32.ofNat (m 9 k)) (Int32.ofNat h + Int32.ofNat (lcn m k)) (Int32.ofNat w + Int32.ofNat w1) (if Int32.ofNat (m 9 k) ≤ mo then mo else Int32.ofNat (m 9 k)) l1 (Int32.ofNat (bm Q k) ||| v59) bl (Int32.ofNat k + 1)
      else
        if bl < 0 then
          fL_addUp_L251 u hz v n (Int32.ofNat g + Int32.ofNat (m 9 k)) (Int32.ofNat h + Int32.ofNat (lcn m k)) (Int32.ofNat w + Int32.ofNat w1) (if Int32.ofNat (m 9 k) ≤ mo then mo else Int32.ofNat (m 9 k)) l1 (Int32.ofNat (bm Q k) ||| v59) (Int32.ofNat k) (Int32.ofNat k + 1)
        else
          (fX3_owner bl 1 u).bind fun r63 =>
          Sum.elim (fun e => none) (fun a64 =>
          if Int32.ofNat (lcn m k) ≤ a64 then
            fL_addUp_L251 u hz v n (Int32.ofNat g + Int32.ofNat (m 9 k)) (Int32.ofNat h + Int32.ofNat (lcn m k)) (Int32.ofNat w + Int32.ofNat w1) (if Int32.ofNat (m 9 k) ≤ mo then mo else Int32.ofNat (m 9 k)) l1 (Int32.ofNat (bm Q k) ||| v59) bl (Int32.ofNat k + 1)
          else
            fL_addUp_L251 u hz v n (Int32.ofNat g + Int32.ofNat (m 9 k)) (Int32.ofNat h + Int32.ofNat (lcn m k)) (Int32.ofNat w + Int32.ofNat w1) (if Int32.ofNat (m 9 k) ≤ mo then mo else Int32.ofNat (m 9 k)) l1 (Int32.ofNat (bm Q k) ||| v59) (Int32.ofNat k) (Int32.ofNat k + 1)) r63) = some (Int32.ofNat (g + sF (m 9) (j + 1) k), Int32.ofNat (h + sF (lcn m) (j + 1) k), Int32.ofNat (w + sF (wq Q) (j + 1) k), mo', le', Int32.ofNat (bm Q 8), bl') ∧ fX3_fairness_L6 u (n1 + 1) le mo (Int32.ofNat k) = some (le', mo') ∧ FV le' mo' ∧ fX3_blocker_L18 u (n2 + 1) x bl (Int32.ofNat k) = some bl' := by
      intro v59 w1 e59 ew
      have ih := fun (bl' x' : Int32) (hb' : BI m x' bl') => q_a3 A R hz hv j (k + 1) n n1 n2 (g + m 9 k) (h + lcn m k) (w + wq Q k) (if Int32.ofNat (m 9 k) ≤ mo then mo else Int32.ofNat (m 9 k)) l1 bl' x' (by omega) (by omega) (by omega) (by omega) hf1 hb'
      simp only [sF, ← Nat.add_assoc]
      rw [e59, ← ew, r_a, r_a, r_a, r_s]
      have ff : fX3_fairness_L6 u (n1 + 1) le mo (Int32.ofNat k) = fX3_fairness_L6 u n1 l1 (if Int32.ofNat (m 9 k) ≤ mo then mo else Int32.ofNat (m 9 k)) (Int32.ofNat (k + 1)) := by
        rw [fX3_fairness_L6, if_neg (r_8n hkk), if_pos (r_in hkk (by decide)), r_nc (by omega), A.c 9 k (by decide) (by decide), hl1, r_bs, q_gm, r_s]
      have bb : fX3_blocker_L18 u (n2 + 1) x bl (Int32.ofNat k) = if Int32.ofNat (lcn m k) ≤ x then fX3_blocker_L18 u n2 x bl (Int32.ofNat (k + 1)) else fX3_blocker_L18 u n2 (Int32.ofNat (lcn m k)) (Int32.ofNat k) (Int32.ofNat (k + 1)) := by
        rw [fX3_blocker_L18, if_neg (r_8n hkk), q_lco A R hkk, r_bs, r_s]
      rw [ff, bb]
      have el0 : Int32.ofNat (lcn m k) ≤ 0 ↔ lcn m k ≤ 0 := r_le (b := 0) (by omega) (by omega)
      by_cases c0 : lcn m k ≤ 0
      · have cx : Int32.ofNat (lcn m k) ≤ x := by
          rcases hb with ⟨a, _⟩ | ⟨b, b8, _, a, _⟩
          · rw [a]; exact el0.mpr c0
          · have := lcn_le m b
            rw [a]; exact (r_le (by omega) (by omega)).mpr (by omega)
        rw [if_pos (el0.mpr c0), if_pos cx]
        exact ih bl x hb
      · rw [if_neg (fun z => c0 (el0.mp z))]
        have kb : BI m (Int32.ofNat (lcn m k)) (Int32.ofNat k) := Or.inr ⟨k, hkk, rfl, rfl, by omega⟩
        rcases hb with ⟨a, b⟩ | ⟨b, b8, eb, a, bp⟩
        · rw [if_pos (show bl < 0 by rw [b]; decide), if_neg (show ¬ Int32.ofNat (lcn m k) ≤ x by rw [a]; exact fun z => c0 (el0.mp z))]
          exact ih _ _ kb
        · have lb := lcn_le m b
          have nb : ¬ bl < 0 := by rw [eb]; exact r_n0 (by omega)
          rw [if_neg nb, eb, q_ow1 A R b8, r_bs, q_el, a]
          have ec := r_le (a := lcn m k) (b := lcn m b) (by omega) (by omega)
          by_cases c : lcn m k ≤ lcn m b
          · rw [if_pos (ec.mpr c), if_pos (ec.mpr c)]
            exact ih _ _ (Or.inr ⟨b, b8, rfl, rfl, bp⟩)
          · rw [if_neg (fun z => c (ec.mp z)), if_neg (fun z => c (ec.mp z))]
            exact ih _ _ kb
    obtain ⟨r2, e2, h2⟩ := q_ow2 A R hkk
    rw [fL_addUp_L251, if_neg (r_8n hkk), q_ow1 A R hkk, r_bs, q_el, e2, r_bs, q_el, q_ow4 A R hkk, r_bs, q_el, q_a2' A R hkk, r_bs]
    rcases h2 with ⟨hr, hn⟩ | ⟨i, hi, hr, hik⟩
    · have ow3 := q_ow3 A R hkk
      rw [if_neg hn] at ow3
      rw [hr, if_pos (show (-1 : Int32) < 0 by decide), r_bs, if_pos rfl, if_pos rfl, r_bs, if_pos rfl, ow3, r_bs, q_el, if_pos (show Int32.ofNat 0 = 0 from rfl), r_bs, if_pos rfl, r_bs, if_pos rfl, r_bs, if_pos rfl, r_bs, q_ite, r_bs, hl1, r_bs]
      exact rest 0 0 (by rw [bm_out hn]; simp) (if_neg hn)
    · have hm : k ∈ Q := r_mem.mpr ⟨i, hi, hik⟩
      have ow3 := q_ow3 A R hkk
      rw [if_pos hm] at ow3
      have ow0 := q_ow0 A R hkk
      rw [R.qt k hm] at ow0
      obtain ⟨b1, b2⟩ := bm_in R.nd hi (by omega) hik
      obtain ⟨b3, b4⟩ := q_bits _ (bm_lt Q k) i (by omega) b1
      have n0 : ¬ (Int32.ofNat i < 0) := r_n0 (by omega)
      have le0 : Int32.ofNat (m 0 0 - m 12 k) ≤ Int32.ofNat (m 0 0) := (r_le (by omega) (by omega)).mpr (by omega)
      have g1 : (if v = 0 then if ¬ ((Int32.ofNat (bm Q k) >>> (Int32.ofNat i &&& 31)) &&& 1 = 1) then some () else none else (fX3_setting 1 u).bind fun r49 => Sum.elim (fun e => none) (fun a50 => if ¬ (Int32.ofNat (lcn m k) < a50) then if ¬ ((Int32.ofNat (bm Q k) >>> (Int32.ofNat i &&& 31)) &&& 1 = 1) then some () else none else none) r49 : Option Unit) = some () := by
        rw [if_pos b3, q_st1 A, r_bs, q_el]
        rcases hv with z | z
        · rw [if_pos z]
        · have c := z k hm
          have c2 : ¬ (Int32.ofNat (lcn m k) < Int32.ofNat (m 1 1)) := fun y => by have := (r_lt (by omega) (by omega)).mp y; omega
          rw [if_pos c2]
          split <;> rfl
      rw [hr, if_neg n0, r_bs, if_pos rfl, if_neg r_10, ow0, r_bs, q_el, if_pos (show ¬ (Int32.ofNat (1 - 0) = 0) by decide), g1, r_bs, if_neg r_10, r_bs, if_neg r_10, ow3, r_bs, q_el, q_ct0 A R, r_bs, q_el, if_pos le0, r_bs, if_neg r_10, r_bs, if_neg r_10, r_bs, q_ite, r_bs, hl1, r_bs]
      exact rest _ 1 (by rw [b4, b2]) (if_pos hm)
/-- whatever was done: all adds up -/
theorem q_add {u : Nat → Nat → Int32} {m : Nat → Nat → Nat} {Q : List Nat} (A : AB u m Q) (R : IV 0 0 m Q) (hq : QU m Q) (hz : Int32) : fL_addUp u hz = some 1 := by
  have a1 := q_a1 A R hz 8 0 1000 0 0 0 0 0 rfl (by decide)
  simp only [sF_8, Nat.zero_add] at a1
  have a1 : fL_addUp_L15 u hz 1000 0 0 0 0 0 0 = some (Int32.ofNat (cst m 1), Int32.ofNat (cst m 2), Int32.ofNat (n8 (m 4)), Int32.ofNat (n8 (m 7)), Int32.ofNat (n8 (m 5))) := a1
  have cl1 := cst_le m 1
  have cl2 := cst_le m 2
  have qc := q_con R
  have s0 := R.s1 (k := 0) (by decide)
  have l8 := R.len8
  have hv : ∃ v, (if 0 < Int32.ofNat (cst m 1) then some (1 : Int32) else (fX3_setting 0 u).bind fun r31 => Sum.elim (fun e => none) (fun a32 => if a32 ≤ Int32.ofNat (cst m 1) + Int32.ofNat (cst m 2) then some (0 : Int32) else some (1 : Int32)) r31 : Option (Int32)) = some v ∧ (v = 0 ∨ ∀ o, o ∈ Q → m 1 1 ≤ lcn m o) := by
    rw [q_st0 A, r_bs, q_el, r_a, ← qc]
    have cc := con_le m
    have e0 : (0 : Int32) < Int32.ofNat (cst m 1) ↔ 0 < cst m 1 := r_lt (a := 0) (by omega) (by omega)
    have e1 := r_le (a := m 1 0) (b := con m) (by omega) (by omega)
    by_cases c0 : 0 < cst m 1
    · rw [if_pos (e0.mpr c0)]
      refine ⟨1, rfl, Or.inr ?_⟩
      rcases hq with h | ⟨h, _⟩
      · exact h
      · exfalso
        obtain ⟨i, hi, hp⟩ := n8_pos (f := fun p => if m 2 p = 1 then 1 else 0) c0
        have hp : 0 < (if m 2 i = 1 then 1 else 0) := hp
        rw [if_neg (h i hi)] at hp
        omega
    · rw [if_neg (fun z => c0 (e0.mp z))]
      by_cases c1 : m 1 0 ≤ con m
      · rw [if_pos (e1.mpr c1)]
        exact ⟨0, rfl, Or.inl rfl⟩
      · rw [if_neg (fun z => c1 (e1.mp z))]
        refine ⟨1, rfl, Or.inr ?_⟩
        rcases hq with h | ⟨_, h⟩
        · exact h
        · omega
  obtain ⟨v, hv1, hv2⟩ := hv
  obtain ⟨mo, le, bl, f1, f2, f3, f4⟩ := q_a3 A R hz hv2 8 0 1000 1000 1000 0 0 0 0 0 (-1) 0 rfl (by decide) (by decide) (by decide) (Or.inl ⟨rfl, rfl⟩) (Or.inl ⟨rfl, rfl⟩)
  simp only [sF_8, Nat.zero_add, bm_0] at f1
  have f1 : fL_addUp_L251 u hz v 1000 0 0 0 0 0 0 (-1) 0 = some (Int32.ofNat (n8 (m 9)), Int32.ofNat (n8 (lcn m)), Int32.ofNat (n8 (wq Q)), mo, le, Int32.ofNat (bm Q 8), bl) := f1
  have f2 : fX3_fairness_L6 u 1000 0 0 0 = some (le, mo) := f2
  have f4 : fX3_blocker_L18 u 1000 0 (-1) 0 = some bl := f4
  have c1 := R.c1; have c2 := R.c2; have c3 := R.c3; have c4 := R.c4; have c5 := R.c5; have c6 := R.c6; have c7 := R.c7
  have hh := q_has R
  have hw := q_wq Q R.nd R.ql
  have tot : ¬ (Int32.ofNat (m 15 1) < (Int32.ofNat (m 15 2) + Int32.ofNat (m 15 3)) + Int32.ofNat (m 15 4)) := by
    rw [r_a, r_a]
    exact fun z => by have := (r_lt (by omega) (by omega)).mp z; omega
  have used : ¬ (Int32.ofNat (n8 (m 9)) < Int32.ofNat (n8 (m 5))) := fun z => by have := (r_lt (by omega) (by omega)).mp z; omega
  have blk : ∃ b, fX3_blocker u = some b ∧ (if Int32.ofNat Q.length = 0 then some (-1 : Int32) else some bl : Option (Int32)) = some b := by
    unfold fX3_blocker
    rw [A.n, f4]
    split
    · exact ⟨-1, rfl, rfl⟩
    · exact ⟨bl, rfl, rfl⟩
  obtain ⟨b, bk1, bk2⟩ := blk
  have one : pq_nn FP.dconst1 = true ∧ Op.cmpValue (FP.dcmp FP.dconst1 FP.dconst1) .l = 0 := by
    rw [rf_F1]
    exact ⟨rf_nn (by decide) (by decide) (by decide) (by decide), rf_self (by decide) (by decide) (by decide) (by decide)⟩
  have fair : ∃ f, fX3_fairness u = some f ∧ (if mo = 0 then if Op.cmpValue (FP.dcmp f FP.dconst1) .l = 0 then some (1 : Int32) else none else if pq_nn (FP.ddiv (FP.i2d le) (FP.i2d mo)) then if Op.cmpValue (FP.dcmp f (FP.ddiv (FP.i2d le) (FP.i2d mo))) .l = 0 then some 1 else none else none) = some 1 := by
    unfold fX3_fairness
    rw [f2, r_bs]
    dsimp only
    rcases f3 with ⟨_, hg⟩ | ⟨hl, hg⟩
    · rw [if_pos hg]
      exact ⟨_, rfl, by rw [if_pos hg, if_pos one.2]⟩
    · have g0 : ¬ mo = 0 := by
        intro c
        have z0 : (0 : Int32).toInt = 0 := by decide
        rw [c, z0] at hg
        omega
      obtain ⟨c, q, d1, d2, d3, d4, d5⟩ := rf_share hl hg
      have nn : pq_nn (FP.ddiv (FP.i2d le) (FP.i2d mo)) = true := by rw [d1]; exact rf_nn d2 d3 (by omega) (by omega)
      have sf : Op.cmpValue (FP.dcmp (FP.ddiv (FP.i2d le) (FP.i2d mo)) (FP.ddiv (FP.i2d le) (FP.i2d mo))) .l = 0 := by rw [d1]; exact rf_self d2 d3 (by omega) (by omega)
      rw [if_neg g0, if_pos nn]
      exact ⟨_, rfl, by rw [if_neg g0, if_pos nn, if_pos sf]⟩
  obtain ⟨f, fr1, fr2⟩ := fair
  unfold fL_addUp
  rw [a1, r_bs]
  dsimp only
  rw [hv1, r_bs, f1, r_bs]
  dsimp only
  rw [hh, hw, q_ct1 A R, r_bs, q_el, if_pos (show Int32.ofNat (con m) = Int32.ofNat (cst m 1) + Int32.ofNat (cst m 2) by rw [r_a, qc]), q_ct2 A R, r_bs, q_el, if_pos rfl, q_ct3 A R, r_bs, q_el, if_pos rfl, if_pos rfl, q_ct4 A R, r_bs, q_el, if_pos rfl, q_ct5 A R, r_bs, q_el, if_pos rfl, if_pos (bm_8 l8 R.ql), q_ct6 A R, r_bs, q_el, if_pos (show Int32.ofNat (m 15 0) = Int32.ofNat (n8 (m 7)) by rw [c2]), r_bs, q_el, q_ct7 A R, r_bs, q_el, if_pos (show Int32.ofNat (m 15 0) - Int32.ofNat (m 15 1) = Int32.ofNat (cst m 1) + Int32.ofNat (cst m 2) by rw [r_a, ← qc, q_tsub (by omega), show m 15 0 - m 15 1 = con m by omega]), q_ct8 A R, r_bs, q_el, q_ct9 A R, r_bs, q_el, q_ct10 A R, r_bs, q_el, r_bs, q_el, if_pos tot, q_ct12 A R, r_bs, q_el, if_pos (show Int32.ofNat (m 15 6) = Int32.ofNat (n8 (m 9)) by rw [c4]), if_pos used, bk1, r_bs, bk2, r_bs, if_pos rfl, fr1, r_bs]
  exact fr2
