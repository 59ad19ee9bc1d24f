/-! ===== p27: the queue; waiters are served ===== -/
theorem q_gl {d e : Nat} {m : Nat → Nat → Nat} {Q : List Nat} (R : IV d e m Q) {i : Nat} (hi : i < Q.length) : Q.getD i 0 < 8 := R.ql _ (r_gm hi)
theorem q_tl {d e : Nat} {u : Nat → Nat → Int32} {m : Nat → Nat → Nat} {Q : List Nat} (A : AB u m Q) (R : IV d e m Q) {o : Nat} (ho : o < 8) : ∀ j k n, k + j = Q.length → j < n → (∀ i, i < k → Q.getD i 0 ≠ o) → ∃ r, fX2_turnOf_L2 (Int32.ofNat o) u n (Int32.ofNat k) = some r ∧ ((r = -1 ∧ o ∉ Q) ∨ ∃ i, i < Q.length ∧ r = Int32.ofNat i ∧ Q.getD i 0 = o)
  | 0, k, n + 1, h, _, hk => by
    have l8 := R.len8
    refine ⟨-1, ?_, Or.inl ⟨rfl, fun hm => ?_⟩⟩
    · rw [fX2_turnOf_L2, A.n, if_pos ((r_le (by omega) (by omega)).mpr (by omega))]
    · obtain ⟨i, hi, e⟩ := r_mem.mp hm
      exact hk i (by omega) e
  | j + 1, k, n + 1, h, hn, hk => by
    have l8 := R.len8
    have g8 := q_gl R (i := k) (by omega)
    have e1 : ¬ Int32.ofNat Q.length ≤ Int32.ofNat k := fun c => by have := (r_le (by omega) (by omega)).mp c; omega
    rw [fX2_turnOf_L2, A.n, if_neg e1, if_pos (r_in (by omega) (by omega)), r_nc (by omega), A.q k (by omega), r_s]
    by_cases e : Q.getD k 0 = o
    · rw [e, if_pos rfl]
      exact ⟨_, rfl, Or.inr ⟨k, by omega, rfl, e⟩⟩
    · have e' : ¬ Int32.ofNat (Q.getD k 0) = Int32.ofNat o := fun c => e ((r_eq (by omega) (by omega)).mp c)
      rw [if_neg e']
      refine q_tl A R ho j (k + 1) n (by omega) (by omega) (fun i hi => ?_)
      by_cases hik : i = k
      · rw [hik]; exact e
      · exact hk i (by omega)
theorem q_to {d e : Nat} {u : Nat → Nat → Int32} {m : Nat → Nat → Nat} {Q : List Nat} (A : AB u m Q) (R : IV d e m Q) {o : Nat} (ho : o < 8) : ∃ r, fX2_turnOf (Int32.ofNat o) u = some r ∧ ((r = -1 ∧ o ∉ Q) ∨ ∃ i, i < Q.length ∧ r = Int32.ofNat i ∧ Q.getD i 0 = o) := by
  have l8 := R.len8
  exact q_tl A R ho Q.length 0 1000 (by omega) (by omega) (fun i hi => by omega)
theorem q_fl {d e : Nat} {u : Nat → Nat → Int32} {m : Nat → Nat → Nat} {Q : List Nat} (A : AB u m Q) (R : IV d e m Q) : ∀ j k n, k + j = Q.length → j < n → (∀ i, i < k → m 1 1 ≤ lcn m (Q.getD i 0)) → ∃ r, fX2_firstTurnThatMayHaveOne_L2 u n (Int32.ofNat k) = some r ∧ ((r = -1 ∧ ∀ o, o ∈ Q → m 1 1 ≤ lcn m o) ∨ ∃ i, i < Q.length ∧ r = Int32.ofNat i ∧ lcn m (Q.getD i 0) < m 1 1 ∧ ∀ i', i' < i → m 1 1 ≤ lcn m (Q.getD i' 0))
  | 0, k, n + 1, h, _, hk => by
    have l8 := R.len8
    refine ⟨-1, ?_, Or.inl ⟨rfl, fun o hm => ?_⟩⟩
    · rw [fX2_firstTurnThatMayHaveOne_L2, A.n, if_pos ((r_le (by omega) (by omega)).mpr (by omega))]
    · obtain ⟨i, hi, e⟩ := r_mem.mp hm
      rw [← e]
      exact hk i (by omega)
  | j + 1, k, n + 1, h, hn, hk => by
    have l8 := R.len8
    have g8 := q_gl R (i := k) (by omega)
    have e1 : ¬ Int32.ofNat Q.length ≤ Int32.ofNat k := fun c => by have := (r_le (by omega) (by omega)).mp c; omega
    rw [fX2_firstTurnThatMayHaveOne_L2, A.n, if_neg e1, if_pos (r_in (by omega) (by omega)), r_nc (by omega), A.q k (by omega), q_mo A R g8, r_bs, r_s]
    by_cases e : m 1 1 ≤ lcn m (Q.getD k 0)
    · rw [if_pos e, if_pos rfl]
      refine q_fl A R j (k + 1) n (by omega) (by omega) (fun i hi => ?_)
      by_cases hik : i = k
      · rw [hik]; exact e
      · exact hk i (by omega)
    · rw [if_neg e, if_neg r_10]
      exact ⟨_, rfl, Or.inr ⟨k, by omega, rfl, by omega, hk⟩⟩
theorem q_ft {d e : Nat} {u : Nat → Nat → Int32} {m : Nat → Nat → Nat} {Q : List Nat} (A : AB u m Q) (R : IV d e m Q) : ∃ r, fX2_firstTurnThatMayHaveOne u = some r ∧ ((r = -1 ∧ ∀ o, o ∈ Q → m 1 1 ≤ lcn m o) ∨ ∃ i, i < Q.length ∧ r = Int32.ofNat i ∧ lcn m (Q.getD i 0) < m 1 1 ∧ ∀ i', i' < i → m 1 1 ≤ lcn m (Q.getD i' 0)) := by
  have l8 := R.len8
  exact q_fl A R Q.length 0 1000 (by omega) (by omega) (fun i hi => by omega)
theorem q_lea {u : Nat → Nat → Int32} {m : Nat → Nat → Nat} {Q : List Nat} (A : AB u m Q) (l8 : Q.length ≤ 8) {i : Nat} (hi : i < Q.length) : ∃ u', fX2_leave (Int32.ofNat i) u = some u' ∧ AB u' m (Q.eraseIdx i) := by
  obtain ⟨w, e1, hw⟩ := r_lvl Q.length (Q.length - 1 - i) i 1000 u (by omega) (by omega) l8 A.n
  have d1 : Int32.ofNat Q.length - 1 = Int32.ofNat (Q.length - 1) := by
    have e : Q.length = (Q.length - 1) + 1 := by omega
    rw [e, r_d]
    rfl
  refine ⟨pu (pu u 13 w) 14 (fun _ => Int32.ofNat (Q.length - 1)), ?_, AB.mk (fun a b h1 h2 => ?_) ?_ (fun k hk => ?_)⟩
  · unfold fX2_leave
    rw [if_neg (r_n0 (by omega)), A.n, if_pos ((r_lt (by omega) (by omega)).mpr hi), e1, r_bs, r_pb (by omega), A.n, d1]
  · rw [r_pb (Ne.symm h2), r_pb (Ne.symm h1)]; exact A.c a b h1 h2
  · rw [r_pa rfl, List.length_eraseIdx_of_lt hi]
  · rw [List.length_eraseIdx_of_lt hi] at hk
    rw [r_pb (by omega), r_pa rfl, hw k, r_eg]
    by_cases hk2 : k < i
    · rw [if_neg (by omega), if_pos hk2, A.q k (by omega)]
    · rw [if_pos (by omega), if_neg hk2, A.q (k + 1) (by omega)]
def QU (m : Nat → Nat → Nat) (Q : List Nat) : Prop := (∀ o, o ∈ Q → m 1 1 ≤ lcn m o) ∨ (NI m ∧ m 1 0 ≤ con m)
theorem q_nofind {d e : Nat} {u : Nat → Nat → Int32} {m : Nat → Nat → Nat} {Q : List Nat} (A : AB u m Q) (R : IV d e m Q) (hn : NI m) (hc : m 1 0 ≤ con m) : fX2_findConnection u = some (-1, u) := by
  obtain ⟨r, e1, e3⟩ := q_ni A R
  rcases e3 with ⟨e3, _⟩ | ⟨c, c8, _, c1⟩
  · obtain ⟨r2, u1, f1, f2⟩ := q_tail A R
    unfold fX2_findConnection
    rw [show (1000 : Nat) = 999 + 1 from rfl, fX2_findConnection_L2, if_neg (by decide), e1, r_bs, if_pos e3]
    rw [f1]
    rcases f2 with ⟨a, b, _⟩ | ⟨c, _, _, _, g, _⟩
    · rw [a, b]
    · omega
  · exact absurd c1 (hn c c8)
theorem q_stillL {d e : Nat} {u : Nat → Nat → Int32} {m : Nat → Nat → Nat} {Q : List Nat} (x g : Int32) (n : Nat) {i : Nat} (hi : i < 8) (A : AB u m Q) (R : IV d e m Q) (hq : QU m Q) : fX2_serveWaiters_L4 x (n + 1) g (Int32.ofNat i) u = some (g, u) := by
  obtain ⟨r, e1, e3⟩ := q_ft A R
  rw [fX2_serveWaiters_L4, if_neg (r_8n hi), e1, r_bs]
  rcases e3 with ⟨e3, _⟩ | ⟨i, hi, e3, hm, _⟩
  · rw [if_pos e3, r_bs, if_pos rfl]
  · have l8 := R.len8
    have nm : ¬ r = -1 := by rw [e3]; exact r_m1 (by omega)
    rcases hq with h | ⟨h1, h2⟩
    · have := h _ (r_gm hi); omega
    · rw [if_neg nm, q_nofind A R h1 h2, r_bs, r_bs, if_pos rfl]
theorem q_still {d e : Nat} {u : Nat → Nat → Int32} {m : Nat → Nat → Nat} {Q : List Nat} (x : Int32) (A : AB u m Q) (R : IV d e m Q) (hq : QU m Q) : fX2_serveWaiters x u = some (-1, u) := q_stillL x (-1) 999 (i := 0) (by decide) A R hq
/-- one waiter, the i-th, is lent the connection at c -/
def SE (m : Nat → Nat → Nat) (n : Nat → Nat → Nat) (Q : List Nat) (i : Nat) (c : Nat) : Prop := (c < 8) ∧ (IV 0 0 n (Q.eraseIdx i)) ∧ (n 0 = m 0) ∧ (n 1 = m 1) ∧ (n 8 = m 8) ∧ (n 10 = m 10) ∧ (n 12 = m 12) ∧ (∀ k, n 9 k = if k = Q.getD i 0 then m 9 k + 1 else m 9 k) ∧ (∀ k, n 11 k = if k = Q.getD i 0 then m 11 k + (m 0 0 - m 12 k) else m 11 k) ∧ (∀ p, p < 8 → n 2 p = 1 → m 2 p = 1 ∧ n 6 p = m 6 p) ∧ (∀ p, p < 8 → n 2 p = 2 → (m 2 p = 2 ∧ n 3 p = m 3 p ∧ n 6 p = m 6 p) ∨ (p = c ∧ n 3 p = Q.getD i 0)) ∧ (n 2 c = 2) ∧ (n 3 c = Q.getD i 0) ∧ (n 6 c = m 0 0) ∧ (∀ k, lcn n k = if k = Q.getD i 0 then lcn m k + 1 else lcn m k) ∧ (con n ≤ con m ∨ NI n) ∧ (n 15 6 = m 15 6 + 1) ∧ ((n 7 = m 7 ∧ n 15 0 = m 15 0 ∧ (m 1 4 = 0 ∨ n 4 c = 0)) ∨ (n 7 c = m 7 c + 1 ∧ n 15 0 = m 15 0 + 1 ∧ n 4 c = 0 ∧ n 5 c = 1))
theorem SE.hc {m : Nat → Nat → Nat} {n : Nat → Nat → Nat} {Q : List Nat} {i : Nat} {c : Nat} (h : SE m n Q i c) : c < 8 := h.1
theorem SE.iv {m : Nat → Nat → Nat} {n : Nat → Nat → Nat} {Q : List Nat} {i : Nat} {c : Nat} (h : SE m n Q i c) : IV 0 0 n (Q.eraseIdx i) := h.2.1
theorem SE.r0 {m : Nat → Nat → Nat} {n : Nat → Nat → Nat} {Q : List Nat} {i : Nat} {c : Nat} (h : SE m n Q i c) : n 0 = m 0 := h.2.2.1
theorem SE.r1 {m : Nat → Nat → Nat} {n : Nat → Nat → Nat} {Q : List Nat} {i : Nat} {c : Nat} (h : SE m n Q i c) : n 1 = m 1 := h.2.2.2.1
theorem SE.r8 {m : Nat → Nat → Nat} {n : Nat → Nat → Nat} {Q : List Nat} {i : Nat} {c : Nat} (h : SE m n Q i c) : n 8 = m 8 := h.2.2.2.2.1
theorem SE.r10 {m : Nat → Nat → Nat} {n : Nat → Nat → Nat} {Q : List Nat} {i : Nat} {c : Nat} (h : SE m n Q i c) : n 10 = m 10 := h.2.2.2.2.2.1
theorem SE.r12 {m : Nat → Nat → Nat} {n : Nat → Nat → Nat} {Q : List Nat} {i : Nat} {c : Nat} (h : SE m n Q i c) : n 12 = m 12 := h.2.2.2.2.2.2.1
theorem SE.g9 {m : Nat → Nat → Nat} {n : Nat → Nat → Nat} {Q : List Nat} {i : Nat} {c : Nat} (h : SE m n Q i c) : ∀ k, n 9 k = if k = Q.getD i 0 then m 9 k + 1 else m 9 k := h.2.2.2.2.2.2.2.1
theorem SE.g11 {m : Nat → Nat → Nat} {n : Nat → Nat → Nat} {Q : List Nat} {i : Nat} {c : Nat} (h : SE m n Q i c) : ∀ k, n 11 k = if k = Q.getD i 0 then m 11 k + (m 0 0 - m 12 k) else m 11 k := h.2.2.2.2.2.2.2.2.1
theorem SE.idl {m : Nat → Nat → Nat} {n : Nat → Nat → Nat} {Q : List Nat} {i : Nat} {c : Nat} (h : SE m n Q i c) : ∀ p, p < 8 → n 2 p = 1 → m 2 p = 1 ∧ n 6 p = m 6 p := h.2.2.2.2.2.2.2.2.2.1
theorem SE.ln {m : Nat → Nat → Nat} {n : Nat → Nat → Nat} {Q : List Nat} {i : Nat} {c : Nat} (h : SE m n Q i c) : ∀ p, p < 8 → n 2 p = 2 → (m 2 p = 2 ∧ n 3 p = m 3 p ∧ n 6 p = m 6 p) ∨ (p = c ∧ n 3 p = Q.getD i 0) := h.2.2.2.2.2.2.2.2.2.2.1
theorem SE.k2 {m : Nat → Nat → Nat} {n : Nat → Nat → Nat} {Q : List Nat} {i : Nat} {c : Nat} (h : SE m n Q i c) : n 2 c = 2 := h.2.2.2.2.2.2.2.2.2.2.2.1
theorem SE.k3 {m : Nat → Nat → Nat} {n : Nat → Nat → Nat} {Q : List Nat} {i : Nat} {c : Nat} (h : SE m n Q i c) : n 3 c = Q.getD i 0 := h.2.2.2.2.2.2.2.2.2.2.2.2.1
theorem SE.k6 {m : Nat → Nat → Nat} {n : Nat → Nat → Nat} {Q : List Nat} {i : Nat} {c : Nat} (h : SE m n Q i c) : n 6 c = m 0 0 := h.2.2.2.2.2.2.2.2.2.2.2.2.2.1
theorem SE.lc {m : Nat → Nat → Nat} {n : Nat → Nat → Nat} {Q : List Nat} {i : Nat} {c : Nat} (h : SE m n Q i c) : ∀ k, lcn n k = if k = Q.getD i 0 then lcn m k + 1 else lcn m k := h.2.2.2.2.2.2.2.2.2.2.2.2.2.2.1
theorem SE.cn {m : Nat → Nat → Nat} {n : Nat → Nat → Nat} {Q : List Nat} {i : Nat} {c : Nat} (h : SE m n Q i c) : con n ≤ con m ∨ NI n := h.2.2.2.2.2.2.2.2.2.2.2.2.2.2.2.1
theorem SE.t6 {m : Nat → Nat → Nat} {n : Nat → Nat → Nat} {Q : List Nat} {i : Nat} {c : Nat} (h : SE m n Q i c) : n 15 6 = m 15 6 + 1 := h.2.2.2.2.2.2.2.2.2.2.2.2.2.2.2.2.1
theorem SE.op {m : Nat → Nat → Nat} {n : Nat → Nat → Nat} {Q : List Nat} {i : Nat} {c : Nat} (h : SE m n Q i c) : (n 7 = m 7 ∧ n 15 0 = m 15 0 ∧ (m 1 4 = 0 ∨ n 4 c = 0)) ∨ (n 7 c = m 7 c + 1 ∧ n 15 0 = m 15 0 + 1 ∧ n 4 c = 0 ∧ n 5 c = 1) := h.2.2.2.2.2.2.2.2.2.2.2.2.2.2.2.2.2
theorem SE.mk {m : Nat → Nat → Nat} {n : Nat → Nat → Nat} {Q : List Nat} {i : Nat} {c : Nat} (hc : c < 8) (iv : IV 0 0 n (Q.eraseIdx i)) (r0 : n 0 = m 0) (r1 : n 1 = m 1) (r8 : n 8 = m 8) (r10 : n 10 = m 10) (r12 : n 12 = m 12) (g9 : ∀ k, n 9 k = if k = Q.getD i 0 then m 9 k + 1 else m 9 k) (g11 : ∀ k, n 11 k = if k = Q.getD i 0 then m 11 k + (m 0 0 - m 12 k) else m 11 k) (idl : ∀ p, p < 8 → n 2 p = 1 → m 2 p = 1 ∧ n 6 p = m 6 p) (ln : ∀ p, p < 8 → n 2 p = 2 → (m 2 p = 2 ∧ n 3 p = m 3 p ∧ n 6 p = m 6 p) ∨ (p = c ∧ n 3 p = Q.getD i 0)) (k2 : n 2 c = 2) (k3 : n 3 c = Q.getD i 0) (k6 : n 6 c = m 0 0) (lc : ∀ k, lcn n k = if k = Q.getD i 0 then lcn m k + 1 else lcn m k) (cn : con n ≤ con m ∨ NI n) (t6 : n 15 6 = m 15 6 + 1) (op : (n 7 = m 7 ∧ n 15 0 = m 15 0 ∧ (m 1 4 = 0 ∨ n 4 c = 0)) ∨ (n 7 c = m 7 c + 1 ∧ n 15 0 = m 15 0 + 1 ∧ n 4 c = 0 ∧ n 5 c = 1)) : SE m n Q i c := ⟨hc, iv, r0, r1, r8, r10, r12, g9, g11, idl, ln, k2, k3, k6, lc, cn, t6, op⟩
theorem lcn_len {m1 : Nat → Nat → Nat} {c o : Nat} (h8 : c < 8) (h : m1 2 c ≠ 2) (k : Nat) : lcn (leN m1 c o) k = if k = o then lcn m1 k + 1 else lcn m1 k := by
  have e := n8_upd (f := fun p => if m1 2 p = 2 ∧ m1 3 p = k then 1 else 0) (g := fun p => if leN m1 c o 2 p = 2 ∧ leN m1 c o 3 p = k then 1 else 0) h8 (fun i hi => by simp [leN, sm, hi])
  have e2 : leN m1 c o 2 c = 2 := by simp [leN, sm]
  have e3 : leN m1 c o 3 c = o := by simp [leN, sm]
  have e : lcn (leN m1 c o) k + (if m1 2 c = 2 ∧ m1 3 c = k then 1 else 0) = lcn m1 k + (if leN m1 c o 2 c = 2 ∧ leN m1 c o 3 c = k then 1 else 0) := e
  rw [e2, e3] at e
  have h' : ¬ (m1 2 c = 2 ∧ m1 3 c = k) := fun x => h x.1
  rw [if_neg h'] at e
  by_cases hk : k = o
  · rw [if_pos hk]; rw [if_pos ⟨rfl, hk.symm⟩] at e; omega
  · rw [if_neg hk]; rw [if_neg (fun x => hk x.2.symm)] at e; omega
theorem con_len {m1 : Nat → Nat → Nat} {c o : Nat} (h8 : c < 8) (h : m1 2 c ≠ 0) : con (leN m1 c o) = con m1 := by
  have e := con_upd (m := m1) (m1 := leN m1 c o) h8 (fun i hi => by simp [leN, sm, hi])
  have e2 : leN m1 c o 2 c = 2 := by simp [leN, sm]
  rw [e2, if_neg h, if_neg (by decide)] at e
  omega
theorem q_se {m m1 : Nat → Nat → Nat} {Q : List Nat} (R : IV 0 0 m Q) (F : FI 0 0 m m1 Q) {i c : Nat} (hi : i < Q.length) (c8 : c < 8) {m2 : Nat → Nat → Nat} (h : (m1 2 c = 1 ∧ (m1 1 4 = 0 ∨ m1 4 c = 0) ∧ m2 = m1) ∨ (m1 2 c = 0 ∧ NI m1 ∧ m2 = opN m1 c)) : SE m (leN (waN m2 (Q.getD i 0)) c (Q.getD i 0)) Q i c := by
  have o8 := q_gl R hi
  have ll : (Q.eraseIdx i).length = Q.length - 1 := List.length_eraseIdx_of_lt hi
  have r0 : m1 0 = m 0 := F.cr.r 0 (by decide) (by decide) (by decide) (by decide)
  have r1 : m1 1 = m 1 := F.cr.r 1 (by decide) (by decide) (by decide) (by decide)
  have r3 : m1 3 = m 3 := F.cr.r 3 (by decide) (by decide) (by decide) (by decide)
  have r6 : m1 6 = m 6 := F.cr.r 6 (by decide) (by decide) (by decide) (by decide)
  have r7 : m1 7 = m 7 := F.cr.r 7 (by decide) (by decide) (by decide) (by decide)
  have r8 : m1 8 = m 8 := F.cr.r 8 (by decide) (by decide) (by decide) (by decide)
  have r9 : m1 9 = m 9 := F.cr.r 9 (by decide) (by decide) (by decide) (by decide)
  have r10 : m1 10 = m 10 := F.cr.r 10 (by decide) (by decide) (by decide) (by decide)
  have r11 : m1 11 = m 11 := F.cr.r 11 (by decide) (by decide) (by decide) (by decide)
  have r12 : m1 12 = m 12 := F.cr.r 12 (by decide) (by decide) (by decide) (by decide)
  have t0 := F.cr.t0
  have t6 := F.cr.t6
  have c7 := R.c7
  -- the state in between
  have x1 : m2 2 c = 1 := by rcases h with ⟨a, _, b⟩ | ⟨_, _, b⟩ <;> rw [b]; exact a; simp [opN, sm]
  have x2 : ∀ p, p ≠ c → m2 2 p = m1 2 p := fun p hp => by rcases h with ⟨a, _, b⟩ | ⟨_, _, b⟩ <;> rw [b]; simp [opN, sm, hp]
  have x6 : ∀ p, p ≠ c → m2 6 p = m1 6 p := fun p hp => by rcases h with ⟨a, _, b⟩ | ⟨_, _, b⟩ <;> rw [b]; simp [opN, sm, hp]
  have xr : ∀ i, i ≠ 2 → i ≠ 6 → i ≠ 7 → i ≠ 15 → m2 i = m1 i := fun i h2 h6 h7 h15 => by
    rcases h with ⟨a, _, b⟩ | ⟨_, _, b⟩ <;> rw [b]
    funext j; simp [opN, sm, h2, h6, h7, h15]
  have x156 : m2 15 6 = m1 15 6 := by rcases h with ⟨a, _, b⟩ | ⟨_, _, b⟩ <;> rw [b]; simp [opN, sm]
  have R2 : IV 1 0 m2 Q := by
    rcases h with ⟨a, _, b⟩ | ⟨a, _, b⟩ <;> rw [b]
    · exact F.iv.weak (Nat.zero_le _) (Nat.le_refl _)
    · exact F.iv.ope c8 a
  have R3 := (R2.wai (o := Q.getD i 0)).lea hi
  have w1 : waN m2 (Q.getD i 0) 2 c = 1 := by simpa [waN, sm] using x1
  have w156 : waN m2 (Q.getD i 0) 15 6 = m2 15 6 := by simp [waN, sm]
  have R4 := R3.len (p := c) (o := Q.getD i 0) c8 o8 w1 (Nat.le_refl _) (by rw [w156, x156, t6, ll]; omega)
  have nidl : ∀ p, p < 8 → leN (waN m2 (Q.getD i 0)) c (Q.getD i 0) 2 p = 1 → p ≠ c ∧ m1 2 p = 1 := fun p hp g => by
    have hpc : p ≠ c := fun x => by rw [x] at g; simp [leN, sm] at g
    refine ⟨hpc, ?_⟩
    rw [← x2 p hpc]
    simpa [leN, waN, sm, hpc] using g
  have lcw : ∀ k, lcn (waN m2 (Q.getD i 0)) k = lcn m1 k := by
    intro k
    refine n8_congr (fun p hp => ?_)
    have a3 : waN m2 (Q.getD i 0) 3 p = m1 3 p := by
      rw [← xr 3 (by decide) (by decide) (by decide) (by decide)]; simp [waN, sm]
    have a2 : waN m2 (Q.getD i 0) 2 p = m2 2 p := by simp [waN, sm]
    by_cases hpc : p = c
    · have n1 : ¬ m1 2 c = 2 := by rcases h with ⟨a, _⟩ | ⟨a, _⟩ <;> omega
      rw [hpc] at a2 ⊢
      rw [a2, x1, if_neg (fun z => by have := z.1; omega), if_neg (fun z => n1 z.1)]
    · rw [a2, a3, x2 p hpc]
  refine SE.mk c8 R4 ?_ ?_ ?_ ?_ ?_ (fun k => ?_) (fun k => ?_) (fun p hp g => ?_) (fun p hp g => ?_) ?_ ?_ ?_ (fun k => ?_) ?_ ?_ ?_
  · funext j; rw [← r0, ← xr 0 (by decide) (by decide) (by decide) (by decide)]; simp [leN, waN, sm]
  · funext j; rw [← r1, ← xr 1 (by decide) (by decide) (by decide) (by decide)]; simp [leN, waN, sm]
  · funext j; rw [← r8, ← xr 8 (by decide) (by decide) (by decide) (by decide)]; simp [leN, waN, sm]
  · funext j; rw [← r10, ← xr 10 (by decide) (by decide) (by decide) (by decide)]; simp [leN, waN, sm]
  · funext j; rw [← r12, ← xr 12 (by decide) (by decide) (by decide) (by decide)]; simp [leN, waN, sm]
  · rw [← r9, ← xr 9 (by decide) (by decide) (by decide) (by decide)]
    by_cases hk : k = Q.getD i 0
    · rw [if_pos hk, hk]; simp [leN, waN, sm]
    · rw [if_neg hk]; simp at hk; simp [leN, waN, sm, hk]
  · rw [← r11, ← r0, ← r12, ← xr 11 (by decide) (by decide) (by decide) (by decide), ← xr 0 (by decide) (by decide) (by decide) (by decide), ← xr 12 (by decide) (by decide) (by decide) (by decide)]
    by_cases hk : k = Q.getD i 0
    · rw [if_pos hk, hk]; simp [leN, waN, sm]
    · rw [if_neg hk]; simp at hk; simp [leN, waN, sm, hk]
  · obtain ⟨hpc, g1⟩ := nidl p hp g
    have g2 : m 2 p = 1 := by
      rcases F.cr.pl p hp with ⟨a, _⟩ | a
      · rw [← a]; exact g1
      · omega
    refine ⟨g2, ?_⟩
    rw [← r6, ← x6 p hpc]
    simp [leN, waN, sm, hpc]
  · by_cases hpc : p = c
    · exact Or.inr ⟨hpc, by rw [hpc]; simp [leN, sm]⟩
    · have g1 : m1 2 p = 2 := by rw [← x2 p hpc]; simpa [leN, waN, sm, hpc] using g
      have g2 : m 2 p = 2 := by
        rcases F.cr.pl p hp with ⟨a, _⟩ | a
        · rw [← a]; exact g1
        · omega
      refine Or.inl ⟨g2, ?_, ?_⟩
      · rw [← r3, ← xr 3 (by decide) (by decide) (by decide) (by decide)]; simp [leN, waN, sm, hpc]
      · rw [← r6, ← x6 p hpc]; simp [leN, waN, sm, hpc]
  · simp [leN, sm]
  · simp [leN, sm]
  · have z : m2 0 0 = m 0 0 := by rw [xr 0 (by decide) (by decide) (by decide) (by decide), r0]
    rw [← z]; simp [leN, waN, sm]
  · rw [lcn_len c8 (by rw [w1]; decide), lcw, F.lcn]
  · rw [con_len c8 (by rw [w1]; decide)]
    have ew : con (waN m2 (Q.getD i 0)) = con m2 := con_congr (fun j _ => by simp [waN, sm])
    rcases h with ⟨a, _, b⟩ | ⟨a, hn, b⟩
    · left
      rw [ew, b]
      exact F.cr.con R F.iv
    · right
      intro p hp g
      exact hn p hp (nidl p hp g).2
  · rw [← t6, ← x156]; simp [leN, waN, sm]
  · rcases h with ⟨a, hs, b⟩ | ⟨a, _, b⟩
    · left
      refine ⟨?_, ?_, ?_⟩
      · rw [b, ← r7]; funext j; simp [leN, waN, sm]
      · rw [b, ← t0]; simp [leN, waN, sm]
      · rw [b, ← r1]
        rcases hs with hs | hs
        · exact Or.inl hs
        · exact Or.inr (by simpa [leN, waN, sm] using hs)
    · right
      have e4 := F.iv.e4 c c8 a
      have e5 := F.iv.e5 c c8 a
      refine ⟨?_, ?_, ?_, ?_⟩
      · rw [b, ← r7]; simp [leN, waN, opN, sm]
      · rw [b, ← t0]; simp [leN, waN, opN, sm]
      · rw [b]; simpa [leN, waN, opN, sm] using e4
      · rw [b]; simp [leN, waN, opN, sm, e5]
/-- one round of serving -/
theorem q_rnd {u : Nat → Nat → Int32} {m : Nat → Nat → Nat} {Q : List Nat} (x g : Int32) (n : Nat) {i : Nat} (hi : i < 8) (A : AB u m Q) (R : IV 0 0 m Q) :
    (∃ u1 m1, fX2_serveWaiters_L4 x (n + 1) g (Int32.ofNat i) u = some (g, u1) ∧ AB u1 m1 Q ∧ FI 0 0 m m1 Q ∧ QU m1 Q) ∨
    (∃ k c u2 m2, k < Q.length ∧ lcn m (Q.getD k 0) < m 1 1 ∧ (∀ k', k' < k → m 1 1 ≤ lcn m (Q.getD k' 0)) ∧ AB u2 m2 (Q.eraseIdx k) ∧ SE m m2 Q k c ∧ fX2_serveWaiters_L4 x (n + 1) g (Int32.ofNat i) u = fX2_serveWaiters_L4 x n (if Int32.ofNat (Q.getD k 0) = x then Int32.ofNat c else g) (Int32.ofNat (i + 1)) u2) := by
  have l8 := R.len8
  obtain ⟨r, e1, e3⟩ := q_ft A R
  rw [fX2_serveWaiters_L4, if_neg (r_8n hi), e1, r_bs]
  rcases e3 with ⟨er, hno⟩ | ⟨k, hk, er, hmay, hfst⟩
  · left
    rw [if_pos er, r_bs, if_pos rfl]
    exact ⟨u, m, rfl, A, FI.id R, Or.inl hno⟩
  · have k8 := q_gl R hk
    have nr : ¬ r = -1 := by rw [er]; exact r_m1 (by omega)
    obtain ⟨p, u1, m1, f1, F, f3⟩ := q_find A R
    rw [if_neg nr, f1, r_bs, r_bs]
    rcases f3 with ⟨fp, A1, hno, hco⟩ | f3
    · left
      rw [if_pos fp]
      exact ⟨u1, m1, rfl, A1, F, Or.inr ⟨hno, hco⟩⟩
    · right
      have key : ∃ c m2, c < 8 ∧ p = Int32.ofNat c ∧ AB u1 m2 Q ∧ ((m1 2 c = 1 ∧ (m1 1 4 = 0 ∨ m1 4 c = 0) ∧ m2 = m1) ∨ (m1 2 c = 0 ∧ NI m1 ∧ m2 = opN m1 c)) := by
        rcases f3 with ⟨c, c8, fp, a, b, A1⟩ | ⟨c, c8, fp, a, b, _, A1⟩
        · exact ⟨c, m1, c8, fp, A1, Or.inl ⟨a, b, rfl⟩⟩
        · exact ⟨c, opN m1 c, c8, fp, A1, Or.inr ⟨a, b, rfl⟩⟩
      obtain ⟨c, m2, c8, fp, A2, hm⟩ := key
      have np : ¬ p = -1 := by rw [fp]; exact r_m1 (by omega)
      have wsk : m2 12 (Q.getD k 0) ≤ m2 0 0 := by
        have z := F.iv.ws _ (r_gm hk)
        rcases hm with ⟨_, _, b⟩ | ⟨_, _, b⟩ <;> rw [b]
        · exact z
        · simpa [opN, sm] using z
      have A3 := A2.wai wsk
      obtain ⟨u3, e4, A4⟩ := q_lea A3 l8 hk
      have A5 := A4.len c (Q.getD k 0)
      have d13 : u1 13 k = Int32.ofNat (Q.getD k 0) := A2.q k hk
      have b1 : pq_in (Int32.ofNat k) 8 = true := r_in (by omega) (by decide)
      have b2 : pq_in (Int32.ofNat (Q.getD k 0)) 8 = true := r_in k8 (by decide)
      have b3 : (Int32.ofNat k).toNatClampNeg = k := r_nc (by omega)
      have b4 : (Int32.ofNat (Q.getD k 0)).toNatClampNeg = Q.getD k 0 := r_nc (by omega)
      refine ⟨k, c, _, _, hk, hmay, hfst, A5, q_se R F hk c8 hm, ?_⟩
      rw [if_neg np]
      simp only [er, fp, b3, d13, b1, b2, b4, if_true]
      have e4' : fX2_leave (Int32.ofNat k) (pu u1 11 (upd (u1 11) (Q.getD k 0) (u1 11 (Q.getD k 0) + (u1 0 0 - u1 12 (Q.getD k 0))))) = some u3 := e4
      rw [e4', r_bs, r_xle u3 c8 k8, r_bs, r_s]
      split <;> rfl
