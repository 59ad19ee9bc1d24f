/-! ===== pure rows: fresh objects ===== -/
theorem r_iA : ∀ j k n (z : Nat → Int32), k + j = 8 → j < n → ∃ z', fX4_iA n (Int32.ofNat k) z = some z' ∧ (∀ p, k ≤ p → p < 8 → z' (26 + 6 * p + 1) = -1) ∧ ∀ x, (∀ p, k ≤ p → p < 8 → x ≠ 26 + 6 * p + 1) → z' x = z x
  | 0, k, n + 1, z, h, _ => by
    rw [fX4_iA, if_pos ((r_8 (by omega)).mpr (by omega))]
    exact ⟨z, rfl, fun p a b => by omega, fun _ _ => rfl⟩
  | j + 1, k, n + 1, z, h, hn => by
    have hk : k < 8 := by omega
    obtain ⟨z', e1, e2, e3⟩ := r_iA j (k + 1) n (upd z (26 + 6 * k + 1) (-1)) (by omega) (by omega)
    rw [fX4_iA, if_neg (r_8n hk), r_put1 hk, r_bs, r_s]
    refine ⟨z', e1, fun p a b => ?_, fun x hx => ?_⟩
    · by_cases hp : p = k
      · subst hp
        rw [e3 _ (fun q _ _ => by omega), r_ue rfl]
      · exact e2 p (by omega) b
    · rw [e3 x (fun p a b => hx p (by omega) b), r_un (Ne.symm (hx k (Nat.le_refl _) hk))]
theorem r_iB : ∀ j k n (z : Nat → Int32), k + j = 8 → j < n → ∃ z', fX4_iB n (Int32.ofNat k) z = some z' ∧ (∀ p, k ≤ p → p < 8 → z' (74 + 5 * p + 0) = 1) ∧ ∀ x, (∀ p, k ≤ p → p < 8 → x ≠ 74 + 5 * p + 0) → z' x = z x
  | 0, k, n + 1, z, h, _ => by
    rw [fX4_iB, if_pos ((r_8 (by omega)).mpr (by omega))]
    exact ⟨z, rfl, fun p a b => by omega, fun _ _ => rfl⟩
  | j + 1, k, n + 1, z, h, hn => by
    have hk : k < 8 := by omega
    obtain ⟨z', e1, e2, e3⟩ := r_iB j (k + 1) n (upd z (74 + 5 * k + 0) 1) (by omega) (by omega)
    rw [fX4_iB, if_neg (r_8n hk), r_lay0 hk, r_bs, r_s]
    refine ⟨z', e1, fun p a b => ?_, fun x hx => ?_⟩
    · by_cases hp : p = k
      · subst hp
        rw [e3 _ (fun q _ _ => by omega), r_ue rfl]
      · exact e2 p (by omega) b
    · rw [e3 x (fun p a b => hx p (by omega) b), r_un (Ne.symm (hx k (Nat.le_refl _) hk))]
theorem r_zs9 {k : Nat} (hk : k < 9) : pq_zs k = pw_first k := by
  have e : k = 0 ∨ k = 1 ∨ k = 2 ∨ k = 3 ∨ k = 4 ∨ k = 5 ∨ k = 6 ∨ k = 7 ∨ k = 8 := by omega
  rcases e with e | e | e | e | e | e | e | e | e <;> subst e <;> decide
theorem r_zs0 {k : Nat} (hk : 9 ≤ k) : pq_zs k = 0 := by
  unfold pq_zs
  rw [r_l0, r_l1, r_l2, r_l4, r_l5, r_l6, r_l7, r_l8, r_un (by omega), r_un (by omega), r_un (by omega), r_un (by omega), r_un (by omega), r_un (by omega), r_un (by omega), r_un (by omega)]
theorem r_init : ∃ z, fX4_init = some z ∧ RA pq_u0 (fun _ => pq_u0) 5 0 (fun _ => 0) 0 z (fun _ => 0) 0 (fun _ => 0) 0 := by
  obtain ⟨z1, a1, a2, a3⟩ := r_iA 8 0 1000 pq_zs rfl (by decide)
  obtain ⟨z2, b1, b2, b3⟩ := r_iB 8 0 1000 z1 rfl (by decide)
  have a1 : fX4_iA 1000 0 pq_zs = some z1 := a1
  have b1 : fX4_iB 1000 0 z1 = some z2 := b1
  have low : ∀ x, x < 26 → z2 x = pq_zs x := fun x hx => by rw [b3 x (fun p _ _ => by omega), a3 x (fun p _ _ => by omega)]
  have pl : ∀ p c, p < 8 → c < 6 → c ≠ 1 → z2 (26 + 6 * p + c) = 0 := fun p c hp hc h1 => by
    rw [b3 _ (fun p' _ _ => by omega), a3 _ (fun p' _ _ => by omega), r_zs0 (by omega)]
  have pl1 : ∀ p, p < 8 → z2 (26 + 6 * p + 1) = -1 := fun p hp => by
    rw [b3 _ (fun p' _ _ => by omega), a2 p (Nat.zero_le _) hp]
  have ow : ∀ o c, o < 8 → c < 5 → c ≠ 0 → z2 (74 + 5 * o + c) = 0 := fun o c ho hc h1 => by
    rw [b3 _ (fun p' _ _ => by omega), a3 _ (fun p' _ _ => by omega), r_zs0 (by omega)]
  refine ⟨z2, ?_, ⟨[], 0, by decide, RI.mk ?_ ?_ ?_ ?_ ?_ ?_ ?_ ?_ ?_ ?_ ?_ ?_ ?_ ?_ ?_ ?_ ?_ ?_ ?_ ?_, RQ.none ?_ rfl (fun k hk => ?_) (fun o ho => ?_) rfl, Or.inl (fun o ho => absurd ho List.not_mem_nil)⟩, ⟨5, 0, rfl, by decide, rfl, rfl, by decide, fun j hj => absurd hj (Nat.not_lt_zero _)⟩, 0, by decide, rfl, rfl, fun _ _ => rfl⟩
  · unfold fX4_init
    rw [a1, r_bs, b1]
  · rw [low 9 (by decide), r_zs0 (by decide)]; rfl
  · intro k hk; rw [low k (by omega), r_zs9 hk]; rfl
  · intro k hk; rw [low _ (by omega), r_zs0 (by omega)]; rfl
  · intro p hp; rw [pl p 0 hp (by decide) (by decide)]; rfl
  · intro p hp; rw [pl1 p hp]; exact (if_neg (show ¬ pq_u0 2 p = 2 by show ¬ (0 : Int32) = 2; decide)).symm
  · intro p hp; rw [pl p 2 hp (by decide) (by decide)]; rfl
  · intro p hp; rw [pl p 3 hp (by decide) (by decide)]; rfl
  · intro p hp; rw [pl p 4 hp (by decide) (by decide)]; exact (if_pos (show pq_u0 2 p = 0 from rfl)).symm
  · intro p hp; rw [pl p 5 hp (by decide) (by decide)]; rfl
  · intro o ho; rw [b2 o (Nat.zero_le _) ho]; exact (if_pos (show pq_u0 8 o = 0 from rfl)).symm
  · intro o ho; rw [ow o 2 ho (by decide) (by decide)]; rfl
  · intro o ho; rw [ow o 3 ho (by decide) (by decide)]; rfl
  · intro o ho; rw [ow o 4 ho (by decide) (by decide)]; rfl
  · intro p _; exact Or.inl rfl
  · intro p _ h; exact absurd h (show ¬ (0 : Int32) = 2 by decide)
  · intro p _; exact Or.inl rfl
  · intro p _ _; rfl
  · intro p _ _; rfl
  · intro o _; exact Or.inl rfl
  · intro k hk
    show pw_least k ≤ pw_first k ∧ pw_first k ≤ pw_great k
    have e : k = 0 ∨ k = 1 ∨ k = 2 ∨ k = 3 ∨ k = 4 ∨ k = 5 ∨ k = 6 ∨ k = 7 ∨ k = 8 := by omega
    rcases e with e | e | e | e | e | e | e | e | e <;> subst e <;> decide
  · rw [low 17 (by decide), r_zs0 (by decide)]; rfl
  · rw [low _ (by omega), r_zs0 (by omega)]
  · rw [ow o 1 ho (by decide) (by decide)]
