/-! ===== p27: serving as a whole; asking ===== -/
theorem r_fbt {f : Nat → Int32} (h : ∀ j, j < 8 → f j = 0 ∨ f j = 1) : pq_fb f = true := by
  unfold pq_fb
  refine List.all_eq_true.mpr (fun j hj => ?_)
  rcases h j (List.mem_range.mp hj) with e | e
  · rw [e]; rfl
  · rw [e]; rfl
def SR (m : Nat → Nat → Nat) (n : Nat → Nat → Nat) (Q : List Nat) (P : List Nat) : Prop := (IV 0 0 n P) ∧ (QU n P) ∧ (n 0 = m 0) ∧ (n 1 = m 1) ∧ (n 8 = m 8) ∧ (n 10 = m 10) ∧ (n 12 = m 12) ∧ (∀ o, o ∈ P → o ∈ Q) ∧ (∀ o, o ∉ Q → n 9 o = m 9 o ∧ n 11 o = m 11 o) ∧ (∀ o, o ∈ P → n 9 o = m 9 o ∧ n 11 o = m 11 o) ∧ (∀ o, o ∈ Q → o ∉ P → n 9 o = m 9 o + 1 ∧ n 11 o = m 11 o + (m 0 0 - m 12 o)) ∧ (∀ p, p < 8 → n 2 p = 1 → m 2 p = 1 ∧ n 6 p = m 6 p) ∧ (∀ p, p < 8 → n 2 p = 2 → (m 2 p = 2 ∧ n 3 p = m 3 p ∧ n 6 p = m 6 p) ∨ m 8 (n 3 p) = 0) ∧ (con n ≤ con m ∨ NI n) ∧ (n 15 6 + P.length ≤ m 15 6 + Q.length)
theorem SR.iv {m : Nat → Nat → Nat} {n : Nat → Nat → Nat} {Q : List Nat} {P : List Nat} (h : SR m n Q P) : IV 0 0 n P := h.1
theorem SR.qu {m : Nat → Nat → Nat} {n : Nat → Nat → Nat} {Q : List Nat} {P : List Nat} (h : SR m n Q P) : QU n P := h.2.1
theorem SR.r0 {m : Nat → Nat → Nat} {n : Nat → Nat → Nat} {Q : List Nat} {P : List Nat} (h : SR m n Q P) : n 0 = m 0 := h.2.2.1
theorem SR.r1 {m : Nat → Nat → Nat} {n : Nat → Nat → Nat} {Q : List Nat} {P : List Nat} (h : SR m n Q P) : n 1 = m 1 := h.2.2.2.1
theorem SR.r8 {m : Nat → Nat → Nat} {n : Nat → Nat → Nat} {Q : List Nat} {P : List Nat} (h : SR m n Q P) : n 8 = m 8 := h.2.2.2.2.1
theorem SR.r10 {m : Nat → Nat → Nat} {n : Nat → Nat → Nat} {Q : List Nat} {P : List Nat} (h : SR m n Q P) : n 10 = m 10 := h.2.2.2.2.2.1
theorem SR.r12 {m : Nat → Nat → Nat} {n : Nat → Nat → Nat} {Q : List Nat} {P : List Nat} (h : SR m n Q P) : n 12 = m 12 := h.2.2.2.2.2.2.1
theorem SR.sub {m : Nat → Nat → Nat} {n : Nat → Nat → Nat} {Q : List Nat} {P : List Nat} (h : SR m n Q P) : ∀ o, o ∈ P → o ∈ Q := h.2.2.2.2.2.2.2.1
theorem SR.ow {m : Nat → Nat → Nat} {n : Nat → Nat → Nat} {Q : List Nat} {P : List Nat} (h : SR m n Q P) : ∀ o, o ∉ Q → n 9 o = m 9 o ∧ n 11 o = m 11 o := h.2.2.2.2.2.2.2.2.1
theorem SR.st {m : Nat → Nat → Nat} {n : Nat → Nat → Nat} {Q : List Nat} {P : List Nat} (h : SR m n Q P) : ∀ o, o ∈ P → n 9 o = m 9 o ∧ n 11 o = m 11 o := h.2.2.2.2.2.2.2.2.2.1
theorem SR.go {m : Nat → Nat → Nat} {n : Nat → Nat → Nat} {Q : List Nat} {P : List Nat} (h : SR m n Q P) : ∀ o, o ∈ Q → o ∉ P → n 9 o = m 9 o + 1 ∧ n 11 o = m 11 o + (m 0 0 - m 12 o) := h.2.2.2.2.2.2.2.2.2.2.1
theorem SR.idl {m : Nat → Nat → Nat} {n : Nat → Nat → Nat} {Q : List Nat} {P : List Nat} (h : SR m n Q P) : ∀ p, p < 8 → n 2 p = 1 → m 2 p = 1 ∧ n 6 p = m 6 p := h.2.2.2.2.2.2.2.2.2.2.2.1
theorem SR.ln {m : Nat → Nat → Nat} {n : Nat → Nat → Nat} {Q : List Nat} {P : List Nat} (h : SR m n Q P) : ∀ p, p < 8 → n 2 p = 2 → (m 2 p = 2 ∧ n 3 p = m 3 p ∧ n 6 p = m 6 p) ∨ m 8 (n 3 p) = 0 := h.2.2.2.2.2.2.2.2.2.2.2.2.1
theorem SR.cn {m : Nat → Nat → Nat} {n : Nat → Nat → Nat} {Q : List Nat} {P : List Nat} (h : SR m n Q P) : con n ≤ con m ∨ NI n := h.2.2.2.2.2.2.2.2.2.2.2.2.2.1
theorem SR.lw {m : Nat → Nat → Nat} {n : Nat → Nat → Nat} {Q : List Nat} {P : List Nat} (h : SR m n Q P) : n 15 6 + P.length ≤ m 15 6 + Q.length := h.2.2.2.2.2.2.2.2.2.2.2.2.2.2
theorem SR.mk {m : Nat → Nat → Nat} {n : Nat → Nat → Nat} {Q : List Nat} {P : List Nat} (iv : IV 0 0 n P) (qu : QU n P) (r0 : n 0 = m 0) (r1 : n 1 = m 1) (r8 : n 8 = m 8) (r10 : n 10 = m 10) (r12 : n 12 = m 12) (sub : ∀ o, o ∈ P → o ∈ Q) (ow : ∀ o, o ∉ Q → n 9 o = m 9 o ∧ n 11 o = m 11 o) (st : ∀ o, o ∈ P → n 9 o = m 9 o ∧ n 11 o = m 11 o) (go : ∀ o, o ∈ Q → o ∉ P → n 9 o = m 9 o + 1 ∧ n 11 o = m 11 o + (m 0 0 - m 12 o)) (idl : ∀ p, p < 8 → n 2 p = 1 → m 2 p = 1 ∧ n 6 p = m 6 p) (ln : ∀ p, p < 8 → n 2 p = 2 → (m 2 p = 2 ∧ n 3 p = m 3 p ∧ n 6 p = m 6 p) ∨ m 8 (n 3 p) = 0) (cn : con n ≤ con m ∨ NI n) (lw : n 15 6 + P.length ≤ m 15 6 + Q.length) : SR m n Q P := ⟨iv, qu, r0, r1, r8, r10, r12, sub, ow, st, go, idl, ln, cn, lw⟩
theorem SR.ofFI {m n : Nat → Nat → Nat} {Q : List Nat} (R : IV 0 0 m Q) (F : FI 0 0 m n Q) (hq : QU n Q) : SR m n Q Q := by
  have r0 : n 0 = m 0 := F.cr.r 0 (by decide) (by decide) (by decide) (by decide)
  have r1 : n 1 = m 1 := F.cr.r 1 (by decide) (by decide) (by decide) (by decide)
  have r3 : n 3 = m 3 := F.cr.r 3 (by decide) (by decide) (by decide) (by decide)
  have r6 : n 6 = m 6 := F.cr.r 6 (by decide) (by decide) (by decide) (by decide)
  have r8 : n 8 = m 8 := F.cr.r 8 (by decide) (by decide) (by decide) (by decide)
  have r9 : n 9 = m 9 := F.cr.r 9 (by decide) (by decide) (by decide) (by decide)
  have r10 : n 10 = m 10 := F.cr.r 10 (by decide) (by decide) (by decide) (by decide)
  have r11 : n 11 = m 11 := F.cr.r 11 (by decide) (by decide) (by decide) (by decide)
  have r12 : n 12 = m 12 := F.cr.r 12 (by decide) (by decide) (by decide) (by decide)
  have back : ∀ p s, p < 8 → s ≠ 0 → n 2 p = s → m 2 p = s := fun p s hp hs g => by
    rcases F.cr.pl p hp with ⟨a, _⟩ | a
    · rw [← a]; exact g
    · omega
  refine SR.mk F.iv hq r0 r1 r8 r10 r12 (fun _ h => h) (fun o _ => ?_) (fun o _ => ?_) (fun o h1 h2 => absurd h1 h2) (fun p hp g => ?_) (fun p hp g => ?_) (Or.inl (F.cr.con R F.iv)) (by rw [F.cr.t6]; exact Nat.le_refl _)
  · rw [r9, r11]; exact ⟨rfl, rfl⟩
  · rw [r9, r11]; exact ⟨rfl, rfl⟩
  · rw [r6]; exact ⟨back p 1 hp (by decide) g, rfl⟩
  · rw [r6, r3]; exact Or.inl ⟨back p 2 hp (by decide) g, rfl, rfl⟩
theorem SR.step {m n k : Nat → Nat → Nat} {Q P : List Nat} {i c : Nat} (R : IV 0 0 m Q) (hi : i < Q.length) (S : SE m n Q i c) (T : SR n k (Q.eraseIdx i) P) : SR m k Q P := by
  have ll : (Q.eraseIdx i).length = Q.length - 1 := List.length_eraseIdx_of_lt hi
  have em := fun o => r_em R.nd (o := o) hi
  refine SR.mk T.iv T.qu (T.r0.trans S.r0) (T.r1.trans S.r1) (T.r8.trans S.r8) (T.r10.trans S.r10) (T.r12.trans S.r12) (fun o h => List.mem_of_mem_eraseIdx (T.sub o h)) (fun o h => ?_) (fun o h => ?_) (fun o h1 h2 => ?_) (fun p hp g => ?_) (fun p hp g => ?_) ?_ ?_
  · have h1 : o ∉ Q.eraseIdx i := fun z => h (List.mem_of_mem_eraseIdx z)
    have h2 : ¬ o = Q.getD i 0 := fun z => h (by rw [z]; exact r_gm hi)
    have a := T.ow o h1
    rw [a.1, a.2, S.g9, S.g11, if_neg h2, if_neg h2]
    exact ⟨rfl, rfl⟩
  · have h2 : ¬ o = Q.getD i 0 := ((em o).mp (T.sub o h)).2
    have a := T.st o h
    rw [a.1, a.2, S.g9, S.g11, if_neg h2, if_neg h2]
    exact ⟨rfl, rfl⟩
  · by_cases ho : o = Q.getD i 0
    · have h3 : o ∉ Q.eraseIdx i := fun z => ((em o).mp z).2 ho
      have a := T.ow o h3
      rw [a.1, a.2, S.g9, S.g11, if_pos ho, if_pos ho]
      exact ⟨rfl, rfl⟩
    · have a := T.go o ((em o).mpr ⟨h1, ho⟩) h2
      rw [a.1, a.2, S.g9, S.g11, if_neg ho, if_neg ho, S.r0, S.r12]
      exact ⟨rfl, rfl⟩
  · have a := T.idl p hp g
    have b := S.idl p hp a.1
    exact ⟨b.1, a.2.trans b.2⟩
  · rcases T.ln p hp g with ⟨a, b, c⟩ | a
    · rcases S.ln p hp a with ⟨a', b', c'⟩ | ⟨_, b'⟩
      · exact Or.inl ⟨a', b.trans b', c.trans c'⟩
      · right; rw [b, b']; exact R.qt _ (r_gm hi)
    · right; rw [← S.r8]; exact a
  · rcases T.cn with a | a
    · rcases S.cn with b | b
      · left; omega
      · right; exact fun p hp g => b p hp (T.idl p hp g).1
    · exact Or.inr a
  · have a := T.lw; have b := S.t6; omega
theorem q_srvl (x : Int32) : ∀ j i n (u : Nat → Nat → Int32) (m : Nat → Nat → Nat) (Q : List Nat) (g : Int32), Q.length ≤ j → i + j = 8 → j < n → AB u m Q → IV 0 0 m Q → ∃ g' u' k P, fX2_serveWaiters_L4 x n g (Int32.ofNat i) u = some (g', u') ∧ AB u' k P ∧ SR m k Q P
  | 0, i, n + 1, u, m, Q, g, hQ, hi, _, A, R => by
    have e : Q = [] := List.eq_nil_of_length_eq_zero (by omega)
    subst e
    rw [fX2_serveWaiters_L4, if_pos ((r_8 (by omega)).mpr (by omega))]
    exact ⟨g, u, m, [], rfl, A, SR.ofFI R (FI.id R) (Or.inl (fun o h => absurd h List.not_mem_nil))⟩
  | j + 1, i, n + 1, u, m, Q, g, hQ, hi, hn, A, R => by
    rcases q_rnd x g n (show i < 8 by omega) A R with ⟨u1, m1, e1, A1, F, hq⟩ | ⟨k, c, u2, m2, hk, _, _, A2, S, e1⟩
    · exact ⟨g, u1, m1, Q, e1, A1, SR.ofFI R F hq⟩
    · have ll : (Q.eraseIdx k).length = Q.length - 1 := List.length_eraseIdx_of_lt hk
      obtain ⟨g', u', k', P, e2, A', T⟩ := q_srvl x j (i + 1) n u2 m2 (Q.eraseIdx k) (if Int32.ofNat (Q.getD k 0) = x then Int32.ofNat c else g) (by omega) (by omega) (by omega) A2 S.iv
      exact ⟨g', u', k', P, e1.trans e2, A', SR.step R hk S T⟩
theorem q_serve {u : Nat → Nat → Int32} {m : Nat → Nat → Nat} {Q : List Nat} (x : Int32) (A : AB u m Q) (R : IV 0 0 m Q) : ∃ g' u' n P, fX2_serveWaiters x u = some (g', u') ∧ AB u' n P ∧ SR m n Q P :=
  q_srvl x 8 0 1000 u m Q (-1) R.len8 rfl (by decide) A R
/-! what is quiet stays so -/
theorem QU.cg {m n : Nat → Nat → Nat} {Q P : List Nat} (h : QU m Q) (hP : ∀ o, o ∈ P → o ∈ Q) (h1 : n 1 = m 1) (h2 : ∀ p, p < 8 → n 2 p = m 2 p) (h3 : ∀ p, p < 8 → n 3 p = m 3 p) : QU n P := by
  rcases h with h | ⟨a, b⟩
  · left
    intro o ho
    have e : lcn n o = lcn m o := n8_congr (fun i hi => by simp only [h2 i hi, h3 i hi])
    rw [h1, e]
    exact h o (hP o ho)
  · right
    refine ⟨fun p hp => by rw [h2 p hp]; exact a p hp, ?_⟩
    rw [h1, con_congr h2]
    exact b
theorem QU.fi {d e : Nat} {m n : Nat → Nat → Nat} {Q : List Nat} (h : QU m Q) (R : IV d e m Q) (F : FI d e m n Q) : QU n Q := by
  have r1 : n 1 = m 1 := F.cr.r 1 (by decide) (by decide) (by decide) (by decide)
  rcases h with h | ⟨a, b⟩
  · left
    intro o ho
    rw [r1, F.lcn]
    exact h o ho
  · right
    have e2 : ∀ p, p < 8 → n 2 p = m 2 p := fun p hp => by
      rcases F.cr.pl p hp with ⟨z, _⟩ | z
      · exact z
      · have s := R.st p hp
        have s1 := a p hp
        rcases (show m 2 p = 0 ∨ m 2 p = 2 by omega) with y | y
        · rw [z, y]
        · have := F.o2 p hp y; omega
    refine ⟨fun p hp => by rw [e2 p hp]; exact a p hp, ?_⟩
    rw [r1, con_congr e2]
    exact b
theorem q_app : ∀ (Q : List Nat) (k : Nat), (Q ++ [k]).eraseIdx Q.length = Q
  | [], _ => rfl
  | a :: Q, k => by
    show a :: (Q ++ [k]).eraseIdx Q.length = a :: Q
    rw [q_app Q k]
theorem q_apl (Q : List Nat) (k i : Nat) : (Q ++ [k]).getD i 0 = if i < Q.length then Q.getD i 0 else if i = Q.length then k else 0 := by
  rw [List.getD_eq_getElem?_getD, List.getD_eq_getElem?_getD, List.getElem?_append]
  by_cases h : i < Q.length
  · rw [if_pos h, if_pos h]
  · rw [if_neg h, if_neg h]
    by_cases h2 : i = Q.length
    · rw [if_pos h2, h2, Nat.sub_self]; rfl
    · rw [if_neg h2, List.getElem?_eq_none (by rw [List.length_singleton]; omega)]; rfl
theorem AB.enq {u : Nat → Nat → Int32} {m : Nat → Nat → Nat} {Q : List Nat} (A : AB u m Q) (k : Nat) : AB (pu (pu (pu u 12 (upd (u 12) k (u 0 0))) 13 (upd (u 13) Q.length (Int32.ofNat k))) 14 (fun _ => Int32.ofNat Q.length + 1)) (sm m 12 k (m 0 0)) (Q ++ [k]) := by
  have B := A.up (i := 12) (p := k) (v := m 0 0) (by decide) (by decide) (A.c 0 0 (by decide) (by decide))
  refine AB.mk (fun a b h1 h2 => ?_) ?_ (fun i hi => ?_)
  · rw [r_pb (Ne.symm h2), r_pb (Ne.symm h1)]; exact B.c a b h1 h2
  · rw [r_pa rfl, List.length_append, List.length_singleton, r_s]
  · rw [List.length_append, List.length_singleton] at hi
    rw [r_pb (by decide), r_pa rfl, q_apl]
    by_cases h : i < Q.length
    · rw [if_pos h, r_un (by omega)]; exact A.q i h
    · have e : i = Q.length := by omega
      rw [if_neg h, if_pos e, r_ue e.symm]
/-- what asking does, where all is quiet -/
def AK (m : Nat → Nat → Nat) (n : Nat → Nat → Nat) (Q : List Nat) (P : List Nat) (k : Nat) (r : Int32) : Prop := (IV 0 0 n P) ∧ (QU n P) ∧ (n 0 = m 0) ∧ (n 1 = m 1) ∧ (n 8 = m 8) ∧ (n 15 6 + P.length ≤ m 15 6 + Q.length + 1) ∧ (m 15 0 ≤ n 15 0) ∧ (∀ o, o ≠ k → n 12 o = m 12 o) ∧ ((r = -1 ∧ P = Q ++ [k] ∧ n 12 k = m 0 0 ∧ n 9 = m 9 ∧ n 7 = m 7) ∨ (∃ c, c < 8 ∧ r = Int32.ofNat c ∧ lcn m k < m 1 1 ∧ P = Q ∧ n 2 c = 2 ∧ n 3 c = k ∧ n 6 c = m 0 0 ∧ n 9 k = m 9 k + 1 ∧ lcn n k = lcn m k + 1 ∧ (m 1 4 = 0 ∨ n 4 c = 0) ∧ (n 7 = m 7 ∨ (n 7 c = m 7 c + 1 ∧ n 5 c = 1 ∧ n 15 0 = m 15 0 + 1))))
theorem AK.iv {m : Nat → Nat → Nat} {n : Nat → Nat → Nat} {Q : List Nat} {P : List Nat} {k : Nat} {r : Int32} (h : AK m n Q P k r) : IV 0 0 n P := h.1
theorem AK.qu {m : Nat → Nat → Nat} {n : Nat → Nat → Nat} {Q : List Nat} {P : List Nat} {k : Nat} {r : Int32} (h : AK m n Q P k r) : QU n P := h.2.1
theorem AK.r0 {m : Nat → Nat → Nat} {n : Nat → Nat → Nat} {Q : List Nat} {P : List Nat} {k : Nat} {r : Int32} (h : AK m n Q P k r) : n 0 = m 0 := h.2.2.1
theorem AK.r1 {m : Nat → Nat → Nat} {n : Nat → Nat → Nat} {Q : List Nat} {P : List Nat} {k : Nat} {r : Int32} (h : AK m n Q P k r) : n 1 = m 1 := h.2.2.2.1
theorem AK.r8 {m : Nat → Nat → Nat} {n : Nat → Nat → Nat} {Q : List Nat} {P : List Nat} {k : Nat} {r : Int32} (h : AK m n Q P k r) : n 8 = m 8 := h.2.2.2.2.1
theorem AK.lw {m : Nat → Nat → Nat} {n : Nat → Nat → Nat} {Q : List Nat} {P : List Nat} {k : Nat} {r : Int32} (h : AK m n Q P k r) : n 15 6 + P.length ≤ m 15 6 + Q.length + 1 := h.2.2.2.2.2.1
theorem AK.mn {m : Nat → Nat → Nat} {n : Nat → Nat → Nat} {Q : List Nat} {P : List Nat} {k : Nat} {r : Int32} (h : AK m n Q P k r) : m 15 0 ≤ n 15 0 := h.2.2.2.2.2.2.1
theorem AK.rw {m : Nat → Nat → Nat} {n : Nat → Nat → Nat} {Q : List Nat} {P : List Nat} {k : Nat} {r : Int32} (h : AK m n Q P k r) : ∀ o, o ≠ k → n 12 o = m 12 o := h.2.2.2.2.2.2.2.1
theorem AK.rs {m : Nat → Nat → Nat} {n : Nat → Nat → Nat} {Q : List Nat} {P : List Nat} {k : Nat} {r : Int32} (h : AK m n Q P k r) : (r = -1 ∧ P = Q ++ [k] ∧ n 12 k = m 0 0 ∧ n 9 = m 9 ∧ n 7 = m 7) ∨ (∃ c, c < 8 ∧ r = Int32.ofNat c ∧ lcn m k < m 1 1 ∧ P = Q ∧ n 2 c = 2 ∧ n 3 c = k ∧ n 6 c = m 0 0 ∧ n 9 k = m 9 k + 1 ∧ lcn n k = lcn m k + 1 ∧ (m 1 4 = 0 ∨ n 4 c = 0) ∧ (n 7 = m 7 ∨ (n 7 c = m 7 c + 1 ∧ n 5 c = 1 ∧ n 15 0 = m 15 0 + 1))) := h.2.2.2.2.2.2.2.2
theorem AK.mk {m : Nat → Nat → Nat} {n : Nat → Nat → Nat} {Q : List Nat} {P : List Nat} {k : Nat} {r : Int32} (iv : IV 0 0 n P) (qu : QU n P) (r0 : n 0 = m 0) (r1 : n 1 = m 1) (r8 : n 8 = m 8) (lw : n 15 6 + P.length ≤ m 15 6 + Q.length + 1) (mn : m 15 0 ≤ n 15 0) (rw : ∀ o, o ≠ k → n 12 o = m 12 o) (rs : (r = -1 ∧ P = Q ++ [k] ∧ n 12 k = m 0 0 ∧ n 9 = m 9 ∧ n 7 = m 7) ∨ (∃ c, c < 8 ∧ r = Int32.ofNat c ∧ lcn m k < m 1 1 ∧ P = Q ∧ n 2 c = 2 ∧ n 3 c = k ∧ n 6 c = m 0 0 ∧ n 9 k = m 9 k + 1 ∧ lcn n k = lcn m k + 1 ∧ (m 1 4 = 0 ∨ n 4 c = 0) ∧ (n 7 = m 7 ∨ (n 7 c = m 7 c + 1 ∧ n 5 c = 1 ∧ n 15 0 = m 15 0 + 1)))) : AK m n Q P k r := ⟨iv, qu, r0, r1, r8, lw, mn, rw, rs⟩
theorem q_ask {u : Nat → Nat → Int32} {m : Nat → Nat → Nat} {Q : List Nat} {k : Nat} (A : AB u m Q) (R : IV 0 0 m Q) (hq : QU m Q) (k8 : k < 8) (hk : k ∉ Q) (ht : m 8 k = 0) (h7 : m 15 6 + Q.length + 1 ≤ 100000) : ∃ r u1 n P, fX2_request (Int32.ofNat k) u = some (r, u1) ∧ AB u1 n P ∧ AK m n Q P k r := by
  have l8 := R.len8
  have lt : Q.length < 8 := by
    have h := r_pig 8 (k :: Q) (List.nodup_cons.mpr ⟨hk, R.nd⟩) (fun o ho => by
      rcases List.mem_cons.mp ho with e | e
      · rw [e]; exact k8
      · exact R.ql o e)
    rw [List.length_cons] at h
    omega
  have Aa := A.enq k
  have Ra := R.enq k8 hk ht h7
  have la : (Q ++ [k]).length = Q.length + 1 := by rw [List.length_append, List.length_singleton]
  have e1 : ∀ j, lcn (sm m 12 k (m 0 0)) j = lcn m j := fun j => n8_congr (fun i _ => by simp [sm])
  have e2 : con (sm m 12 k (m 0 0)) = con m := con_congr (fun i _ => by simp [sm])
  have e11 : sm m 12 k (m 0 0) 1 = m 1 := by funext j; simp [sm]
  unfold fX2_request
  rw [A.n, if_neg (fun c => by have := (r_8 (by omega)).mp c; omega), if_pos (r_in (by omega) (by decide)), if_pos (r_in k8 (by decide)), r_nc (by omega), r_nc (by omega)]
  -- what is told of the end, if the asker waits
  have fin : ∀ n : Nat → Nat → Nat, FI 0 0 (sm m 12 k (m 0 0)) n (Q ++ [k]) → QU n (Q ++ [k]) → AK m n Q (Q ++ [k]) k (-1) := fun n F hu => by
    have r0 : n 0 = m 0 := (F.cr.r 0 (by decide) (by decide) (by decide) (by decide)).trans (by funext j; simp [sm])
    have r1 : n 1 = m 1 := (F.cr.r 1 (by decide) (by decide) (by decide) (by decide)).trans (by funext j; simp [sm])
    have r8 : n 8 = m 8 := (F.cr.r 8 (by decide) (by decide) (by decide) (by decide)).trans (by funext j; simp [sm])
    have r9 : n 9 = m 9 := (F.cr.r 9 (by decide) (by decide) (by decide) (by decide)).trans (by funext j; simp [sm])
    have r7 : n 7 = m 7 := (F.cr.r 7 (by decide) (by decide) (by decide) (by decide)).trans (by funext j; simp [sm])
    have r12 : n 12 k = m 0 0 := by rw [F.cr.r 12 (by decide) (by decide) (by decide) (by decide)]; simp [sm]
    have t0 : n 15 0 = m 15 0 := F.cr.t0.trans (by simp [sm])
    have t6 : n 15 6 = m 15 6 := F.cr.t6.trans (by simp [sm])
    exact AK.mk F.iv hu r0 r1 r8 (by rw [t6, la]; omega) (by omega) (fun o ho => by rw [F.cr.r 12 (by decide) (by decide) (by decide) (by decide)]; simp [sm, ho]) (Or.inl ⟨rfl, rfl, r12, r9, r7⟩)
  by_cases hqa : QU (sm m 12 k (m 0 0)) (Q ++ [k])
  · have e := q_still (Int32.ofNat k) Aa Ra hqa
    rw [e, r_bs]
    exact ⟨_, _, _, _, rfl, Aa, fin _ (FI.id Ra) hqa⟩
  · have bl : ∀ o, o ∈ Q → m 1 1 ≤ lcn m o := by
      rcases hq with h | ⟨a, b⟩
      · exact h
      · exfalso
        apply hqa
        right
        refine ⟨fun p hp => ?_, ?_⟩
        · have := a p hp; simpa [sm] using this
        · rw [e11, e2]; exact b
    have mk : lcn m k < m 1 1 := by
      apply Classical.byContradiction
      intro c
      apply hqa
      left
      intro o ho
      rw [e11, e1]
      rcases List.mem_append.mp ho with h | h
      · exact bl o h
      · rw [List.mem_singleton.mp h]; omega
    rcases q_rnd (Int32.ofNat k) (-1) 999 (i := 0) (by decide) Aa Ra with ⟨u1, m1, f1, A1, F, hu⟩ | ⟨i, c, u2, m2, hi, hmay, _, A2, S, f1⟩
    · have f1 : fX2_serveWaiters (Int32.ofNat k) _ = some (-1, u1) := f1
      rw [f1, r_bs]
      exact ⟨_, _, _, _, rfl, A1, fin m1 F hu⟩
    · rw [la] at hi
      have ei : i = Q.length := by
        apply Classical.byContradiction
        intro z
        rw [q_apl, if_pos (by omega), e1, e11] at hmay
        have := bl _ (r_gm (show i < Q.length by omega))
        omega
      subst ei
      have ek : (Q ++ [k]).getD Q.length 0 = k := by rw [q_apl, if_neg (Nat.lt_irrefl _), if_pos rfl]
      have eP : (Q ++ [k]).eraseIdx Q.length = Q := q_app Q k
      rw [eP] at A2
      have Rn : IV 0 0 m2 Q := by have := S.iv; rw [eP] at this; exact this
      have S1 : m2 1 = m 1 := S.r1.trans e11
      have lcs := S.lc
      rw [ek] at lcs
      have qn : QU m2 Q := Or.inl (fun o ho => by
        have ne : ¬ o = k := fun z => hk (z ▸ ho)
        rw [S1, lcs, if_neg ne, e1]
        exact bl o ho)
      have f2 : fX2_serveWaiters (Int32.ofNat k) (pu (pu (pu u 12 (upd (u 12) k (u 0 0))) 13 (upd (u 13) Q.length (Int32.ofNat k))) 14 (fun _ => Int32.ofNat Q.length + 1)) = some (Int32.ofNat c, u2) := by
        refine f1.trans ?_
        rw [ek, if_pos rfl]
        exact q_stillL (Int32.ofNat k) (Int32.ofNat c) 998 (i := 1) (by decide) A2 Rn qn
      rw [f2, r_bs]
      have k3 := S.k3
      have g9 := S.g9 k
      rw [ek] at k3 g9
      rw [if_pos rfl] at g9
      have lk := lcs k
      rw [if_pos rfl, e1] at lk
      have t6 := S.t6
      have s0 : sm m 12 k (m 0 0) 0 = m 0 := by funext j; simp [sm]
      have s7 : sm m 12 k (m 0 0) 7 = m 7 := by funext j; simp [sm]
      have s8 : sm m 12 k (m 0 0) 8 = m 8 := by funext j; simp [sm]
      have s9 : sm m 12 k (m 0 0) 9 = m 9 := by funext j; simp [sm]
      have s15 : sm m 12 k (m 0 0) 15 = m 15 := by funext j; simp [sm]
      rw [s15] at t6
      have op := S.op
      rw [s7, s15, e11] at op
      have k6 := S.k6
      rw [s0] at k6
      rw [s9] at g9
      refine ⟨_, _, m2, Q, rfl, A2, AK.mk Rn qn (S.r0.trans s0) S1 (S.r8.trans s8) (by omega) ?_ (fun o ho => by rw [S.r12]; simp [sm, ho]) (Or.inr ⟨c, S.hc, rfl, mk, rfl, S.k2, k3, k6, g9, lk, ?_, ?_⟩)⟩
      · rcases op with ⟨_, b, _⟩ | ⟨_, b, _⟩ <;> omega
      · rcases op with ⟨_, _, b⟩ | ⟨_, _, b, _⟩
        · exact b
        · exact Or.inr b
      · rcases op with ⟨a, _⟩ | ⟨a, b, _, d⟩
        · exact Or.inl a
        · exact Or.inr ⟨a, d, b⟩
theorem q_cp {d e : Nat} {u : Nat → Nat → Int32} {m : Nat → Nat → Nat} {Q : List Nat} (A : AB u m Q) (R : IV d e m Q) : fX2_copyFrom u = some u := by
  have h4 : pq_fb (u 4) = true := r_fbt (fun j hj => by
    have k := R.sk j hj
    rw [A.c 4 j (by decide) (by decide)]
    rcases (show m 4 j = 0 ∨ m 4 j = 1 by omega) with z | z
    · left; rw [z]; rfl
    · right; rw [z]; rfl)
  have h8 : pq_fb (u 8) = true := r_fbt (fun j hj => by
    have k := R.vn j hj
    rw [A.c 8 j (by decide) (by decide)]
    rcases (show m 8 j = 0 ∨ m 8 j = 1 by omega) with z | z
    · left; rw [z]; rfl
    · right; rw [z]; rfl)
  unfold fX2_copyFrom
  rw [if_pos h4, if_pos h8]
