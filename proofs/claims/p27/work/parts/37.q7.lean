/-! ===== p27: what the looks answer ===== -/
theorem q_rp {p : Nat} (hp : p < 8) : fX3_requirePlace (Int32.ofNat p) = some (Sum.inr ()) := by
  unfold fX3_requirePlace
  rw [if_neg (r_n0 (by omega)), if_pos (show Int32.ofNat p < 8 from (r_lt (a := p) (b := 8) (by omega) (by omega)).mpr hp)]
theorem q_ro {p : Nat} (hp : p < 8) : fX3_requireOwner (Int32.ofNat p) = some (Sum.inr ()) := by
  unfold fX3_requireOwner
  rw [if_neg (r_n0 (by omega)), if_pos (show Int32.ofNat p < 8 from (r_lt (a := p) (b := 8) (by omega) (by omega)).mpr hp)]
theorem q_el {α β γ : Type} (f : α → γ) (g : β → γ) (b : β) : Sum.elim f g (Sum.inr b) = g b := rfl
theorem q_em {u : Nat → Nat → Int32} {m : Nat → Nat → Nat} {Q : List Nat} (A : AB u m Q) (R : IV 0 0 m Q) {p : Nat} (hp : p < 8) : fX2_isEmpty (Int32.ofNat p) u = some (if m 2 p = 0 then 1 else 0) := by
  have es : u 2 p = 0 ↔ m 2 p = 0 := A.st R hp (k := 0) (by decide)
  unfold fX2_isEmpty
  rw [if_pos (r_in hp (by decide)), r_nc (by omega)]
  simp only [es]
  split <;> rfl
theorem q_bo {u : Nat → Nat → Int32} {m : Nat → Nat → Nat} {Q : List Nat} (A : AB u m Q) (R : IV 0 0 m Q) {p : Nat} (hp : p < 8) : fX2_borrower (Int32.ofNat p) u = some (if m 2 p = 2 then Int32.ofNat (m 3 p) else -1) := by
  have es : u 2 p = 2 ↔ m 2 p = 2 := A.st R hp (k := 2) (by decide)
  unfold fX2_borrower
  rw [if_pos (r_in hp (by decide)), if_pos (r_in hp (by decide)), r_nc (by omega), A.c 3 p (by decide) (by decide)]
  simp only [es]
  split <;> rfl
theorem q_it {u : Nat → Nat → Int32} {m : Nat → Nat → Nat} {Q : List Nat} (A : AB u m Q) (R : IV 0 0 m Q) {o : Nat} (ho : o < 8) : fX2_isThere (Int32.ofNat o) u = some (if m 8 o = 0 then 1 else 0) := by
  have v := R.vn o ho
  have es : u 8 o = 0 ↔ m 8 o = 0 := A.eq (k := 0) (by decide) (by decide) (by omega) (by decide)
  unfold fX2_isThere
  rw [if_pos (r_in ho (by decide)), r_nc (by omega)]
  simp only [es]
  split <;> rfl
theorem q_wo {u : Nat → Nat → Int32} {m : Nat → Nat → Nat} {Q : List Nat} (A : AB u m Q) (R : IV 0 0 m Q) {o : Nat} (ho : o < 8) : fX2_waitOf (Int32.ofNat o) u = some (Int32.ofNat (if o ∈ Q then m 0 0 - m 12 o else 0)) := by
  obtain ⟨r, e, h⟩ := q_to A R ho
  have l8 := R.len8
  unfold fX2_waitOf
  rw [e, r_bs]
  rcases h with ⟨h1, h2⟩ | ⟨i, hi, h1, h2⟩
  · rw [if_pos h1, if_neg h2]; rfl
  · have hm : o ∈ Q := r_mem.mpr ⟨i, hi, h2⟩
    rw [h1, if_neg (r_m1 (by omega)), if_pos (r_in ho (by decide)), r_nc (by omega), if_pos hm, A.c 0 0 (by decide) (by decide), A.c 12 o (by decide) (by decide), q_tsub (R.ws o hm)]
theorem q_skl {u : Nat → Nat → Int32} {m : Nat → Nat → Nat} {Q : List Nat} (A : AB u m Q) (R : IV 0 0 m Q) : ∀ j k a n, k + j = 8 → j < n → fX2_sickCount_L4 u n (Int32.ofNat a) (Int32.ofNat k) = some (Int32.ofNat (a + sF (m 4) j k))
  | 0, k, a, n + 1, h, _ => by
    rw [fX2_sickCount_L4, if_pos ((r_8 (by omega)).mpr (by omega))]
    rfl
  | j + 1, k, a, n + 1, h, hn => by
    have hkk : k < 8 := by omega
    have v := R.sk k hkk
    have es : u 4 k = 0 ↔ m 4 k = 0 := A.eq (k := 0) (by decide) (by decide) (by omega) (by decide)
    rw [fX2_sickCount_L4, if_neg (r_8n hkk), if_pos (r_in hkk (by decide)), r_nc (by omega), r_s k]
    show _ = some (Int32.ofNat (a + (m 4 k + sF (m 4) j (k + 1))))
    by_cases hs : m 4 k = 0
    · rw [if_pos (es.mpr hs), q_skl A R j (k + 1) a n (by omega) (by omega), hs, Nat.zero_add]
    · rw [if_neg (fun c => hs (es.mp c)), r_s a, q_skl A R j (k + 1) (a + 1) n (by omega) (by omega), show m 4 k = 1 by omega, Nat.add_assoc]
theorem q_sk {u : Nat → Nat → Int32} {m : Nat → Nat → Nat} {Q : List Nat} (A : AB u m Q) (R : IV 0 0 m Q) : fX2_sickCount u = some (Int32.ofNat (n8 (m 4))) := by
  have e := q_skl A R 8 0 0 1000 rfl (by decide)
  rw [sF_8, Nat.zero_add] at e
  exact e
theorem q_pl0 {u : Nat → Nat → Int32} {m : Nat → Nat → Nat} {Q : List Nat} (A : AB u m Q) (R : IV 0 0 m Q) {p : Nat} (hp : p < 8) : fX3_place (Int32.ofNat p) 0 u = some (Sum.inr (Int32.ofNat (m 2 p))) := by
  unfold fX3_place
  rw [q_rp hp, r_bs, q_el, show fX3_requireKind 0 6 = some (Sum.inr ()) from rfl, r_bs, q_el]
  unfold fX2_placeProperty
  rw [if_pos (show (0 : Int32) = 0 from rfl)]
  rw [if_pos (r_in hp (by decide)), r_nc (by omega), A.c 2 p (by decide) (by decide)]
  rfl
theorem q_pl1 {u : Nat → Nat → Int32} {m : Nat → Nat → Nat} {Q : List Nat} (A : AB u m Q) (R : IV 0 0 m Q) {p : Nat} (hp : p < 8) : fX3_place (Int32.ofNat p) 1 u = some (Sum.inr (if m 2 p = 2 then Int32.ofNat (m 3 p) else -1)) := by
  unfold fX3_place
  rw [q_rp hp, r_bs, q_el, show fX3_requireKind 1 6 = some (Sum.inr ()) from rfl, r_bs, q_el]
  unfold fX2_placeProperty
  rw [if_neg (show ¬ (1 : Int32) = 0 by decide), if_pos (show (1 : Int32) = 1 from rfl)]
  rw [q_bo A R hp, r_bs]
  rfl
theorem q_pl2 {u : Nat → Nat → Int32} {m : Nat → Nat → Nat} {Q : List Nat} (A : AB u m Q) (R : IV 0 0 m Q) {p : Nat} (hp : p < 8) : fX3_place (Int32.ofNat p) 2 u = some (Sum.inr (Int32.ofNat (m 4 p))) := by
  unfold fX3_place
  rw [q_rp hp, r_bs, q_el, show fX3_requireKind 2 6 = some (Sum.inr ()) from rfl, r_bs, q_el]
  unfold fX2_placeProperty
  rw [if_neg (show ¬ (2 : Int32) = 0 by decide), if_neg (show ¬ (2 : Int32) = 1 by decide), if_pos (show (2 : Int32) = 2 from rfl)]
  have v := R.sk p hp
  have es : u 4 p = 0 ↔ m 4 p = 0 := A.eq (k := 0) (by decide) (by decide) (by omega) (by decide)
  rw [if_pos (r_in hp (by decide)), r_nc (by omega)]
  by_cases hs : m 4 p = 0
  · rw [if_pos (es.mpr hs), hs]; rfl
  · rw [if_neg (fun c => hs (es.mp c)), show m 4 p = 1 by omega]; rfl
theorem q_pl3 {u : Nat → Nat → Int32} {m : Nat → Nat → Nat} {Q : List Nat} (A : AB u m Q) (R : IV 0 0 m Q) {p : Nat} (hp : p < 8) : fX3_place (Int32.ofNat p) 3 u = some (Sum.inr (Int32.ofNat (m 5 p))) := by
  unfold fX3_place
  rw [q_rp hp, r_bs, q_el, show fX3_requireKind 3 6 = some (Sum.inr ()) from rfl, r_bs, q_el]
  unfold fX2_placeProperty
  rw [if_neg (show ¬ (3 : Int32) = 0 by decide), if_neg (show ¬ (3 : Int32) = 1 by decide), if_neg (show ¬ (3 : Int32) = 2 by decide), if_pos (show (3 : Int32) = 3 from rfl)]
  rw [if_pos (r_in hp (by decide)), r_nc (by omega), A.c 5 p (by decide) (by decide)]
  rfl
theorem q_pl4 {u : Nat → Nat → Int32} {m : Nat → Nat → Nat} {Q : List Nat} (A : AB u m Q) (R : IV 0 0 m Q) {p : Nat} (hp : p < 8) : fX3_place (Int32.ofNat p) 4 u = some (Sum.inr (Int32.ofNat (if m 2 p = 0 then 0 else m 0 0 - m 6 p))) := by
  unfold fX3_place
  rw [q_rp hp, r_bs, q_el, show fX3_requireKind 4 6 = some (Sum.inr ()) from rfl, r_bs, q_el]
  unfold fX2_placeProperty
  rw [if_neg (show ¬ (4 : Int32) = 0 by decide), if_neg (show ¬ (4 : Int32) = 1 by decide), if_neg (show ¬ (4 : Int32) = 2 by decide), if_neg (show ¬ (4 : Int32) = 3 by decide), if_pos (show (4 : Int32) = 4 from rfl)]
  rw [q_em A R hp, r_bs]
  by_cases hs : m 2 p = 0
  · rw [if_pos hs, if_neg r_10, if_pos hs]; rfl
  · rw [if_neg hs, if_pos rfl, if_neg hs, if_pos (r_in hp (by decide)), r_nc (by omega), A.c 0 0 (by decide) (by decide), A.c 6 p (by decide) (by decide), q_tsub (R.sn p hp hs)]; rfl
theorem q_pl5 {u : Nat → Nat → Int32} {m : Nat → Nat → Nat} {Q : List Nat} (A : AB u m Q) (R : IV 0 0 m Q) {p : Nat} (hp : p < 8) : fX3_place (Int32.ofNat p) 5 u = some (Sum.inr (Int32.ofNat (m 7 p))) := by
  unfold fX3_place
  rw [q_rp hp, r_bs, q_el, show fX3_requireKind 5 6 = some (Sum.inr ()) from rfl, r_bs, q_el]
  unfold fX2_placeProperty
  rw [if_neg (show ¬ (5 : Int32) = 0 by decide), if_neg (show ¬ (5 : Int32) = 1 by decide), if_neg (show ¬ (5 : Int32) = 2 by decide), if_neg (show ¬ (5 : Int32) = 3 by decide), if_neg (show ¬ (5 : Int32) = 4 by decide)]
  rw [if_pos (r_in hp (by decide)), r_nc (by omega), A.c 7 p (by decide) (by decide)]
  rfl
theorem q_ow0 {u : Nat → Nat → Int32} {m : Nat → Nat → Nat} {Q : List Nat} (A : AB u m Q) (R : IV 0 0 m Q) {p : Nat} (hp : p < 8) : fX3_owner (Int32.ofNat p) 0 u = some (Sum.inr (Int32.ofNat (1 - m 8 p))) := by
  unfold fX3_owner
  rw [q_ro hp, r_bs, q_el, show fX3_requireKind 0 7 = some (Sum.inr ()) from rfl, r_bs, q_el]
  unfold fX2_ownerProperty
  rw [if_pos (show (0 : Int32) = 0 from rfl)]
  have v := R.vn p hp
  rw [q_it A R hp, r_bs]
  by_cases hs : m 8 p = 0
  · rw [if_pos hs, if_neg r_10, hs]; rfl
  · rw [if_neg hs, if_pos rfl, show m 8 p = 1 by omega]; rfl
theorem q_ow1 {u : Nat → Nat → Int32} {m : Nat → Nat → Nat} {Q : List Nat} (A : AB u m Q) (R : IV 0 0 m Q) {p : Nat} (hp : p < 8) : fX3_owner (Int32.ofNat p) 1 u = some (Sum.inr (Int32.ofNat (lcn m p))) := by
  unfold fX3_owner
  rw [q_ro hp, r_bs, q_el, show fX3_requireKind 1 7 = some (Sum.inr ()) from rfl, r_bs, q_el]
  unfold fX2_ownerProperty
  rw [if_neg (show ¬ (1 : Int32) = 0 by decide), if_pos (show (1 : Int32) = 1 from rfl)]
  rw [q_lco A R hp, r_bs]
  rfl
theorem q_ow3 {u : Nat → Nat → Int32} {m : Nat → Nat → Nat} {Q : List Nat} (A : AB u m Q) (R : IV 0 0 m Q) {p : Nat} (hp : p < 8) : fX3_owner (Int32.ofNat p) 3 u = some (Sum.inr (Int32.ofNat (if p ∈ Q then m 0 0 - m 12 p else 0))) := by
  unfold fX3_owner
  rw [q_ro hp, r_bs, q_el, show fX3_requireKind 3 7 = some (Sum.inr ()) from rfl, r_bs, q_el]
  unfold fX2_ownerProperty
  rw [if_neg (show ¬ (3 : Int32) = 0 by decide), if_neg (show ¬ (3 : Int32) = 1 by decide), if_neg (show ¬ (3 : Int32) = 2 by decide), if_pos (show (3 : Int32) = 3 from rfl)]
  rw [q_wo A R hp, r_bs]
  rfl
theorem q_ow4 {u : Nat → Nat → Int32} {m : Nat → Nat → Nat} {Q : List Nat} (A : AB u m Q) (R : IV 0 0 m Q) {p : Nat} (hp : p < 8) : fX3_owner (Int32.ofNat p) 4 u = some (Sum.inr (Int32.ofNat (m 9 p))) := by
  unfold fX3_owner
  rw [q_ro hp, r_bs, q_el, show fX3_requireKind 4 7 = some (Sum.inr ()) from rfl, r_bs, q_el]
  unfold fX2_ownerProperty
  rw [if_neg (show ¬ (4 : Int32) = 0 by decide), if_neg (show ¬ (4 : Int32) = 1 by decide), if_neg (show ¬ (4 : Int32) = 2 by decide), if_neg (show ¬ (4 : Int32) = 3 by decide), if_pos (show (4 : Int32) = 4 from rfl)]
  rw [if_pos (r_in hp (by decide)), r_nc (by omega), A.c 9 p (by decide) (by decide)]
  rfl
theorem q_ow5 {u : Nat → Nat → Int32} {m : Nat → Nat → Nat} {Q : List Nat} (A : AB u m Q) (R : IV 0 0 m Q) {p : Nat} (hp : p < 8) : fX3_owner (Int32.ofNat p) 5 u = some (Sum.inr (Int32.ofNat (m 10 p))) := by
  unfold fX3_owner
  rw [q_ro hp, r_bs, q_el, show fX3_requireKind 5 7 = some (Sum.inr ()) from rfl, r_bs, q_el]
  unfold fX2_ownerProperty
  rw [if_neg (show ¬ (5 : Int32) = 0 by decide), if_neg (show ¬ (5 : Int32) = 1 by decide), if_neg (show ¬ (5 : Int32) = 2 by decide), if_neg (show ¬ (5 : Int32) = 3 by decide), if_neg (show ¬ (5 : Int32) = 4 by decide), if_pos (show (5 : Int32) = 5 from rfl)]
  rw [if_pos (r_in hp (by decide)), r_nc (by omega), A.c 10 p (by decide) (by decide)]
  rfl
theorem q_ow6 {u : Nat → Nat → Int32} {m : Nat → Nat → Nat} {Q : List Nat} (A : AB u m Q) (R : IV 0 0 m Q) {p : Nat} (hp : p < 8) : fX3_owner (Int32.ofNat p) 6 u = some (Sum.inr (Int32.ofNat (m 11 p))) := by
  unfold fX3_owner
  rw [q_ro hp, r_bs, q_el, show fX3_requireKind 6 7 = some (Sum.inr ()) from rfl, r_bs, q_el]
  unfold fX2_ownerProperty
  rw [if_neg (show ¬ (6 : Int32) = 0 by decide), if_neg (show ¬ (6 : Int32) = 1 by decide), if_neg (show ¬ (6 : Int32) = 2 by decide), if_neg (show ¬ (6 : Int32) = 3 by decide), if_neg (show ¬ (6 : Int32) = 4 by decide), if_neg (show ¬ (6 : Int32) = 5 by decide)]
  rw [if_pos (r_in hp (by decide)), r_nc (by omega), A.c 11 p (by decide) (by decide)]
  rfl
theorem q_ow2 {u : Nat → Nat → Int32} {m : Nat → Nat → Nat} {Q : List Nat} (A : AB u m Q) (R : IV 0 0 m Q) {p : Nat} (hp : p < 8) : ∃ r, fX3_owner (Int32.ofNat p) 2 u = some (Sum.inr r) ∧ ((r = -1 ∧ p ∉ Q) ∨ ∃ i, i < Q.length ∧ r = Int32.ofNat i ∧ Q.getD i 0 = p) := by
  obtain ⟨r, e, h⟩ := q_to A R hp
  refine ⟨r, ?_, h⟩
  unfold fX3_owner
  rw [q_ro hp, r_bs, q_el, show fX3_requireKind 2 7 = some (Sum.inr ()) from rfl, r_bs, q_el]
  unfold fX2_ownerProperty
  rw [if_neg (show ¬ (2 : Int32) = 0 by decide), if_neg (show ¬ (2 : Int32) = 1 by decide), if_pos (show (2 : Int32) = 2 from rfl), e, r_bs]
  rfl
theorem q_ct0 {u : Nat → Nat → Int32} {m : Nat → Nat → Nat} {Q : List Nat} (A : AB u m Q) (R : IV 0 0 m Q) (hz : Int32) : fX3_count 0 u hz = some (Sum.inr (Int32.ofNat (m 0 0))) := by
  unfold fX3_count
  rw [show fX3_requireKind 0 14 = some (Sum.inr ()) from rfl, r_bs, q_el, if_neg (show ¬ (0 : Int32) = 13 by decide)]
  unfold fX2_number
  rw [if_pos (show (0 : Int32) = 0 from rfl), A.c 0 0 (by decide) (by decide)]
  rfl
theorem q_ct1 {u : Nat → Nat → Int32} {m : Nat → Nat → Nat} {Q : List Nat} (A : AB u m Q) (R : IV 0 0 m Q) (hz : Int32) : fX3_count 1 u hz = some (Sum.inr (Int32.ofNat (con m))) := by
  unfold fX3_count
  rw [show fX3_requireKind 1 14 = some (Sum.inr ()) from rfl, r_bs, q_el, if_neg (show ¬ (1 : Int32) = 13 by decide)]
  unfold fX2_number
  rw [if_neg (show ¬ (1 : Int32) = 0 by decide), if_pos (show (1 : Int32) = 1 from rfl), q_co A R, r_bs]
  rfl
theorem q_ct2 {u : Nat → Nat → Int32} {m : Nat → Nat → Nat} {Q : List Nat} (A : AB u m Q) (R : IV 0 0 m Q) (hz : Int32) : fX3_count 2 u hz = some (Sum.inr (Int32.ofNat (cst m 1))) := by
  unfold fX3_count
  rw [show fX3_requireKind 2 14 = some (Sum.inr ()) from rfl, r_bs, q_el, if_neg (show ¬ (2 : Int32) = 13 by decide)]
  unfold fX2_number
  rw [if_neg (show ¬ (2 : Int32) = 0 by decide), if_neg (show ¬ (2 : Int32) = 1 by decide), if_pos (show (2 : Int32) = 2 from rfl), show fX2_standingSo 1 u = some (Int32.ofNat (cst m 1)) from q_so A R (s := 1) (by decide), r_bs]
  rfl
theorem q_ct3 {u : Nat → Nat → Int32} {m : Nat → Nat → Nat} {Q : List Nat} (A : AB u m Q) (R : IV 0 0 m Q) (hz : Int32) : fX3_count 3 u hz = some (Sum.inr (Int32.ofNat (cst m 2))) := by
  unfold fX3_count
  rw [show fX3_requireKind 3 14 = some (Sum.inr ()) from rfl, r_bs, q_el, if_neg (show ¬ (3 : Int32) = 13 by decide)]
  unfold fX2_number
  rw [if_neg (show ¬ (3 : Int32) = 0 by decide), if_neg (show ¬ (3 : Int32) = 1 by decide), if_neg (show ¬ (3 : Int32) = 2 by decide), if_pos (show (3 : Int32) = 3 from rfl), show fX2_standingSo 2 u = some (Int32.ofNat (cst m 2)) from q_so A R (s := 2) (by decide), r_bs]
  rfl
theorem q_ct4 {u : Nat → Nat → Int32} {m : Nat → Nat → Nat} {Q : List Nat} (A : AB u m Q) (R : IV 0 0 m Q) (hz : Int32) : fX3_count 4 u hz = some (Sum.inr (Int32.ofNat (n8 (m 4)))) := by
  unfold fX3_count
  rw [show fX3_requireKind 4 14 = some (Sum.inr ()) from rfl, r_bs, q_el, if_neg (show ¬ (4 : Int32) = 13 by decide)]
  unfold fX2_number
  rw [if_neg (show ¬ (4 : Int32) = 0 by decide), if_neg (show ¬ (4 : Int32) = 1 by decide), if_neg (show ¬ (4 : Int32) = 2 by decide), if_neg (show ¬ (4 : Int32) = 3 by decide), if_pos (show (4 : Int32) = 4 from rfl), q_sk A R, r_bs]
  rfl
theorem q_ct5 {u : Nat → Nat → Int32} {m : Nat → Nat → Nat} {Q : List Nat} (A : AB u m Q) (R : IV 0 0 m Q) (hz : Int32) : fX3_count 5 u hz = some (Sum.inr (Int32.ofNat Q.length)) := by
  unfold fX3_count
  rw [show fX3_requireKind 5 14 = some (Sum.inr ()) from rfl, r_bs, q_el, if_neg (show ¬ (5 : Int32) = 13 by decide)]
  unfold fX2_number
  rw [if_neg (show ¬ (5 : Int32) = 0 by decide), if_neg (show ¬ (5 : Int32) = 1 by decide), if_neg (show ¬ (5 : Int32) = 2 by decide), if_neg (show ¬ (5 : Int32) = 3 by decide), if_neg (show ¬ (5 : Int32) = 4 by decide), if_pos (show (5 : Int32) = 5 from rfl), A.n]
  rfl
theorem q_ct6 {u : Nat → Nat → Int32} {m : Nat → Nat → Nat} {Q : List Nat} (A : AB u m Q) (R : IV 0 0 m Q) (hz : Int32) : fX3_count 6 u hz = some (Sum.inr (Int32.ofNat (m 15 0))) := by
  unfold fX3_count
  rw [show fX3_requireKind 6 14 = some (Sum.inr ()) from rfl, r_bs, q_el, if_neg (show ¬ (6 : Int32) = 13 by decide)]
  unfold fX2_number
  rw [if_neg (show ¬ (6 : Int32) = 0 by decide), if_neg (show ¬ (6 : Int32) = 1 by decide), if_neg (show ¬ (6 : Int32) = 2 by decide), if_neg (show ¬ (6 : Int32) = 3 by decide), if_neg (show ¬ (6 : Int32) = 4 by decide), if_neg (show ¬ (6 : Int32) = 5 by decide), show (6 : Int32) - 6 = 0 from rfl, if_neg (show ¬ (0 : Int32) < 0 by decide), if_neg (show ¬ (7 : Int32) ≤ 0 by decide), if_pos (show pq_in 0 7 = true by decide), show (0 : Int32).toNatClampNeg = 0 from rfl, A.c 15 0 (by decide) (by decide)]
  rfl
theorem q_ct7 {u : Nat → Nat → Int32} {m : Nat → Nat → Nat} {Q : List Nat} (A : AB u m Q) (R : IV 0 0 m Q) (hz : Int32) : fX3_count 7 u hz = some (Sum.inr (Int32.ofNat (m 15 1))) := by
  unfold fX3_count
  rw [show fX3_requireKind 7 14 = some (Sum.inr ()) from rfl, r_bs, q_el, if_neg (show ¬ (7 : Int32) = 13 by decide)]
  unfold fX2_number
  rw [if_neg (show ¬ (7 : Int32) = 0 by decide), if_neg (show ¬ (7 : Int32) = 1 by decide), if_neg (show ¬ (7 : Int32) = 2 by decide), if_neg (show ¬ (7 : Int32) = 3 by decide), if_neg (show ¬ (7 : Int32) = 4 by decide), if_neg (show ¬ (7 : Int32) = 5 by decide), show (7 : Int32) - 6 = 1 from rfl, if_neg (show ¬ (1 : Int32) < 0 by decide), if_neg (show ¬ (7 : Int32) ≤ 1 by decide), if_pos (show pq_in 1 7 = true by decide), show (1 : Int32).toNatClampNeg = 1 from rfl, A.c 15 1 (by decide) (by decide)]
  rfl
theorem q_ct8 {u : Nat → Nat → Int32} {m : Nat → Nat → Nat} {Q : List Nat} (A : AB u m Q) (R : IV 0 0 m Q) (hz : Int32) : fX3_count 8 u hz = some (Sum.inr (Int32.ofNat (m 15 2))) := by
  unfold fX3_count
  rw [show fX3_requireKind 8 14 = some (Sum.inr ()) from rfl, r_bs, q_el, if_neg (show ¬ (8 : Int32) = 13 by decide)]
  unfold fX2_number
  rw [if_neg (show ¬ (8 : Int32) = 0 by decide), if_neg (show ¬ (8 : Int32) = 1 by decide), if_neg (show ¬ (8 : Int32) = 2 by decide), if_neg (show ¬ (8 : Int32) = 3 by decide), if_neg (show ¬ (8 : Int32) = 4 by decide), if_neg (show ¬ (8 : Int32) = 5 by decide), show (8 : Int32) - 6 = 2 from rfl, if_neg (show ¬ (2 : Int32) < 0 by decide), if_neg (show ¬ (7 : Int32) ≤ 2 by decide), if_pos (show pq_in 2 7 = true by decide), show (2 : Int32).toNatClampNeg = 2 from rfl, A.c 15 2 (by decide) (by decide)]
  rfl
theorem q_ct9 {u : Nat → Nat → Int32} {m : Nat → Nat → Nat} {Q : List Nat} (A : AB u m Q) (R : IV 0 0 m Q) (hz : Int32) : fX3_count 9 u hz = some (Sum.inr (Int32.ofNat (m 15 3))) := by
  unfold fX3_count
  rw [show fX3_requireKind 9 14 = some (Sum.inr ()) from rfl, r_bs, q_el, if_neg (show ¬ (9 : Int32) = 13 by decide)]
  unfold fX2_number
  rw [if_neg (show ¬ (9 : Int32) = 0 by decide), if_neg (show ¬ (9 : Int32) = 1 by decide), if_neg (show ¬ (9 : Int32) = 2 by decide), if_neg (show ¬ (9 : Int32) = 3 by decide), if_neg (show ¬ (9 : Int32) = 4 by decide), if_neg (show ¬ (9 : Int32) = 5 by decide), show (9 : Int32) - 6 = 3 from rfl, if_neg (show ¬ (3 : Int32) < 0 by decide), if_neg (show ¬ (7 : Int32) ≤ 3 by decide), if_pos (show pq_in 3 7 = true by decide), show (3 : Int32).toNatClampNeg = 3 from rfl, A.c 15 3 (by decide) (by decide)]
  rfl
theorem q_ct10 {u : Nat → Nat → Int32} {m : Nat → Nat → Nat} {Q : List Nat} (A : AB u m Q) (R : IV 0 0 m Q) (hz : Int32) : fX3_count 10 u hz = some (Sum.inr (Int32.ofNat (m 15 4))) := by
  unfold fX3_count
  rw [show fX3_requireKind 10 14 = some (Sum.inr ()) from rfl, r_bs, q_el, if_neg (show ¬ (10 : Int32) = 13 by decide)]
  unfold fX2_number
  rw [if_neg (show ¬ (10 : Int32) = 0 by decide), if_neg (show ¬ (10 : Int32) = 1 by decide), if_neg (show ¬ (10 : Int32) = 2 by decide), if_neg (show ¬ (10 : Int32) = 3 by decide), if_neg (show ¬ (10 : Int32) = 4 by decide), if_neg (show ¬ (10 : Int32) = 5 by decide), show (10 : Int32) - 6 = 4 from rfl, if_neg (show ¬ (4 : Int32) < 0 by decide), if_neg (show ¬ (7 : Int32) ≤ 4 by decide), if_pos (show pq_in 4 7 = true by decide), show (4 : Int32).toNatClampNeg = 4 from rfl, A.c 15 4 (by decide) (by decide)]
  rfl
theorem q_ct12 {u : Nat → Nat → Int32} {m : Nat → Nat → Nat} {Q : List Nat} (A : AB u m Q) (R : IV 0 0 m Q) (hz : Int32) : fX3_count 12 u hz = some (Sum.inr (Int32.ofNat (m 15 6))) := by
  unfold fX3_count
  rw [show fX3_requireKind 12 14 = some (Sum.inr ()) from rfl, r_bs, q_el, if_neg (show ¬ (12 : Int32) = 13 by decide)]
  unfold fX2_number
  rw [if_neg (show ¬ (12 : Int32) = 0 by decide), if_neg (show ¬ (12 : Int32) = 1 by decide), if_neg (show ¬ (12 : Int32) = 2 by decide), if_neg (show ¬ (12 : Int32) = 3 by decide), if_neg (show ¬ (12 : Int32) = 4 by decide), if_neg (show ¬ (12 : Int32) = 5 by decide), show (12 : Int32) - 6 = 6 from rfl, if_neg (show ¬ (6 : Int32) < 0 by decide), if_neg (show ¬ (7 : Int32) ≤ 6 by decide), if_pos (show pq_in 6 7 = true by decide), show (6 : Int32).toNatClampNeg = 6 from rfl, A.c 15 6 (by decide) (by decide)]
  rfl
theorem q_st0 {u : Nat → Nat → Int32} {m : Nat → Nat → Nat} {Q : List Nat} (A : AB u m Q) : fX3_setting 0 u = some (Sum.inr (Int32.ofNat (m 1 0))) := by
  unfold fX3_setting
  rw [show fX3_requireSetting 0 = some (Sum.inr ()) from rfl, r_bs, q_el, if_pos (show pq_in 0 9 = true by decide), show (0 : Int32).toNatClampNeg = 0 from rfl, A.c 1 0 (by decide) (by decide)]
theorem q_st1 {u : Nat → Nat → Int32} {m : Nat → Nat → Nat} {Q : List Nat} (A : AB u m Q) : fX3_setting 1 u = some (Sum.inr (Int32.ofNat (m 1 1))) := by
  unfold fX3_setting
  rw [show fX3_requireSetting 1 = some (Sum.inr ()) from rfl, r_bs, q_el, if_pos (show pq_in 1 9 = true by decide), show (1 : Int32).toNatClampNeg = 1 from rfl, A.c 1 1 (by decide) (by decide)]
theorem q_st2 {u : Nat → Nat → Int32} {m : Nat → Nat → Nat} {Q : List Nat} (A : AB u m Q) : fX3_setting 2 u = some (Sum.inr (Int32.ofNat (m 1 2))) := by
  unfold fX3_setting
  rw [show fX3_requireSetting 2 = some (Sum.inr ()) from rfl, r_bs, q_el, if_pos (show pq_in 2 9 = true by decide), show (2 : Int32).toNatClampNeg = 2 from rfl, A.c 1 2 (by decide) (by decide)]
theorem q_st3 {u : Nat → Nat → Int32} {m : Nat → Nat → Nat} {Q : List Nat} (A : AB u m Q) : fX3_setting 3 u = some (Sum.inr (Int32.ofNat (m 1 3))) := by
  unfold fX3_setting
  rw [show fX3_requireSetting 3 = some (Sum.inr ()) from rfl, r_bs, q_el, if_pos (show pq_in 3 9 = true by decide), show (3 : Int32).toNatClampNeg = 3 from rfl, A.c 1 3 (by decide) (by decide)]
theorem q_st4 {u : Nat → Nat → Int32} {m : Nat → Nat → Nat} {Q : List Nat} (A : AB u m Q) : fX3_setting 4 u = some (Sum.inr (Int32.ofNat (m 1 4))) := by
  unfold fX3_setting
  rw [show fX3_requireSetting 4 = some (Sum.inr ()) from rfl, r_bs, q_el, if_pos (show pq_in 4 9 = true by decide), show (4 : Int32).toNatClampNeg = 4 from rfl, A.c 1 4 (by decide) (by decide)]
theorem q_st5 {u : Nat → Nat → Int32} {m : Nat → Nat → Nat} {Q : List Nat} (A : AB u m Q) : fX3_setting 5 u = some (Sum.inr (Int32.ofNat (m 1 5))) := by
  unfold fX3_setting
  rw [show fX3_requireSetting 5 = some (Sum.inr ()) from rfl, r_bs, q_el, if_pos (show pq_in 5 9 = true by decide), show (5 : Int32).toNatClampNeg = 5 from rfl, A.c 1 5 (by decide) (by decide)]
theorem q_st6 {u : Nat → Nat → Int32} {m : Nat → Nat → Nat} {Q : List Nat} (A : AB u m Q) : fX3_setting 6 u = some (Sum.inr (Int32.ofNat (m 1 6))) := by
  unfold fX3_setting
  rw [show fX3_requireSetting 6 = some (Sum.inr ()) from rfl, r_bs, q_el, if_pos (show pq_in 6 9 = true by decide), show (6 : Int32).toNatClampNeg = 6 from rfl, A.c 1 6 (by decide) (by decide)]
theorem q_st7 {u : Nat → Nat → Int32} {m : Nat → Nat → Nat} {Q : List Nat} (A : AB u m Q) : fX3_setting 7 u = some (Sum.inr (Int32.ofNat (m 1 7))) := by
  unfold fX3_setting
  rw [show fX3_requireSetting 7 = some (Sum.inr ()) from rfl, r_bs, q_el, if_pos (show pq_in 7 9 = true by decide), show (7 : Int32).toNatClampNeg = 7 from rfl, A.c 1 7 (by decide) (by decide)]
theorem q_st8 {u : Nat → Nat → Int32} {m : Nat → Nat → Nat} {Q : List Nat} (A : AB u m Q) : fX3_setting 8 u = some (Sum.inr (Int32.ofNat (m 1 8))) := by
  unfold fX3_setting
  rw [show fX3_requireSetting 8 = some (Sum.inr ()) from rfl, r_bs, q_el, if_pos (show pq_in 8 9 = true by decide), show (8 : Int32).toNatClampNeg = 8 from rfl, A.c 1 8 (by decide) (by decide)]
