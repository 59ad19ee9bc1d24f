/-! ===== pure rows: looks ===== -/
theorem r_pp0 {u : Nat → Nat → Int32} {z : Nat → Int32} (R : RI u z) {p : Nat} (hp : p < 8) : ∃ v, fX2_placeProperty (Int32.ofNat p) (Int32.ofNat 0) u = some v ∧ fX4_toldPlace (Int32.ofNat p) (Int32.ofNat 0) z = some v := by
  refine ⟨u 2 p, ?_, ?_⟩
  · unfold fX2_placeProperty
    rw [if_pos (by decide), if_pos (r_in hp (by decide)), r_nc (by omega)]
  · unfold fX4_toldPlace
    rw [if_neg (by decide), r_of hp (by decide), r_bs, R.p0 p hp]
theorem r_pp1 {u : Nat → Nat → Int32} {z : Nat → Int32} (R : RI u z) {p : Nat} (hp : p < 8) : ∃ v, fX2_placeProperty (Int32.ofNat p) (Int32.ofNat 1) u = some v ∧ fX4_toldPlace (Int32.ofNat p) (Int32.ofNat 1) z = some v := by
  refine ⟨z (26 + 6 * p + 1), ?_, ?_⟩
  · unfold fX2_placeProperty
    rw [if_neg (by decide), if_pos (by decide), r_bor R hp, r_bs]
  · unfold fX4_toldPlace
    rw [if_neg (by decide), r_of hp (by decide), r_bs]
theorem r_pp3 {u : Nat → Nat → Int32} {z : Nat → Int32} (R : RI u z) {p : Nat} (hp : p < 8) : ∃ v, fX2_placeProperty (Int32.ofNat p) (Int32.ofNat 3) u = some v ∧ fX4_toldPlace (Int32.ofNat p) (Int32.ofNat 3) z = some v := by
  refine ⟨u 5 p, ?_, ?_⟩
  · unfold fX2_placeProperty
    rw [if_neg (by decide), if_neg (by decide), if_neg (by decide), if_pos (by decide), if_pos (r_in hp (by decide)), r_nc (by omega)]
  · unfold fX4_toldPlace
    rw [if_neg (by decide), r_of hp (by decide), r_bs, R.p3 p hp]
theorem r_pp5 {u : Nat → Nat → Int32} {z : Nat → Int32} (R : RI u z) {p : Nat} (hp : p < 8) : ∃ v, fX2_placeProperty (Int32.ofNat p) (Int32.ofNat 5) u = some v ∧ fX4_toldPlace (Int32.ofNat p) (Int32.ofNat 5) z = some v := by
  refine ⟨u 7 p, ?_, ?_⟩
  · unfold fX2_placeProperty
    rw [if_neg (by decide), if_neg (by decide), if_neg (by decide), if_neg (by decide), if_neg (by decide), if_pos (r_in hp (by decide)), r_nc (by omega)]
  · unfold fX4_toldPlace
    rw [if_neg (by decide), r_of hp (by decide), r_bs, R.p5 p hp]
theorem r_pp2 {u : Nat → Nat → Int32} {z : Nat → Int32} (R : RI u z) {p : Nat} (hp : p < 8) : ∃ v, fX2_placeProperty (Int32.ofNat p) (Int32.ofNat 2) u = some v ∧ fX4_toldPlace (Int32.ofNat p) (Int32.ofNat 2) z = some v := by
  refine ⟨u 4 p, ?_, ?_⟩
  · unfold fX2_placeProperty
    rw [if_neg (by decide), if_neg (by decide), if_pos (by decide), if_pos (r_in hp (by decide)), r_nc (by omega)]
    rcases R.s4 p hp with h | h
    · rw [if_pos h, h]
    · rw [if_neg (show ¬ u 4 p = 0 by rw [h]; exact r_10), h]
  · unfold fX4_toldPlace
    rw [if_neg (by decide), r_of hp (by decide), r_bs, R.p2 p hp]
theorem r_pp4 {u : Nat → Nat → Int32} {z : Nat → Int32} (R : RI u z) {p : Nat} (hp : p < 8) : ∃ v, fX2_placeProperty (Int32.ofNat p) (Int32.ofNat 4) u = some v ∧ fX4_toldPlace (Int32.ofNat p) (Int32.ofNat 4) z = some v := by
  have e4 : Int32.ofNat 4 = 4 := rfl
  unfold fX2_placeProperty fX4_toldPlace fX2_isEmpty
  rw [if_neg (by decide), if_neg (by decide), if_neg (by decide), if_neg (by decide), if_pos e4, if_pos (r_in hp (by decide)), if_pos (r_in hp (by decide)), if_pos e4, r_nc (by omega), r_isIn hp, R.p0 p hp, r_of hp (by decide), r_of4 hp, r_l9, R.tm]
  by_cases h : u 2 p = 0
  · rw [if_pos h, r_bs, if_neg r_10, r_bs, if_neg r_10, r_bs]
    refine ⟨0, rfl, ?_⟩
    rw [R.p4 p hp, if_pos h]
  · rw [if_neg h, r_bs, if_pos rfl, r_bs, if_pos rfl, r_bs, R.p4 p hp, if_neg h]
    exact ⟨_, rfl, rfl⟩
theorem r_place {u : Nat → Nat → Int32} {z : Nat → Int32} (R : RI u z) {p c : Nat} (hp : p < 8) (hc : c < 6) : ∃ v, fX2_placeProperty (Int32.ofNat p) (Int32.ofNat c) u = some v ∧ fX4_toldPlace (Int32.ofNat p) (Int32.ofNat c) z = some v := by
  have e : c = 0 ∨ c = 1 ∨ c = 2 ∨ c = 3 ∨ c = 4 ∨ c = 5 := by omega
  rcases e with e | e | e | e | e | e <;> subst e
  · exact r_pp0 R hp
  · exact r_pp1 R hp
  · exact r_pp2 R hp
  · exact r_pp3 R hp
  · exact r_pp4 R hp
  · exact r_pp5 R hp
theorem r_ow0 {u : Nat → Nat → Int32} {z : Nat → Int32} {Q : List Nat} {t : Nat} (R : RI u z) (q : RQ u z Q t) {o : Nat} (ho : o < 8) : ∃ v, fX2_ownerProperty (Int32.ofNat o) (Int32.ofNat 0) u = some v ∧ fX4_toldOwner (Int32.ofNat o) (Int32.ofNat 0) z = some v := by
  unfold fX2_ownerProperty fX4_toldOwner
  unfold fX2_isThere
  have e0 : Int32.ofNat 0 = 0 := rfl
  rw [if_pos e0, if_pos e0, if_pos (r_in ho (by decide)), r_nc (by omega), r_its0 ho, r_bs, R.o0 o ho]
  by_cases h : u 8 o = 0
  · rw [if_pos h, if_pos h, r_bs, if_neg r_10]
    exact ⟨1, rfl, rfl⟩
  · rw [if_neg h, if_neg h, r_bs, if_pos (by decide)]
    exact ⟨0, rfl, rfl⟩
theorem r_ow1 {u : Nat → Nat → Int32} {z : Nat → Int32} {Q : List Nat} {t : Nat} (R : RI u z) (q : RQ u z Q t) {o : Nat} (ho : o < 8) : ∃ v, fX2_ownerProperty (Int32.ofNat o) (Int32.ofNat 1) u = some v ∧ fX4_toldOwner (Int32.ofNat o) (Int32.ofNat 1) z = some v := by
  unfold fX2_ownerProperty fX4_toldOwner
  rw [if_neg (by decide), if_pos (by decide), if_neg (by decide), if_pos (by decide), r_lco, r_lz R ho]
  exact ⟨_, rfl, rfl⟩
theorem r_ow2 {u : Nat → Nat → Int32} {z : Nat → Int32} {Q : List Nat} {t : Nat} (R : RI u z) (q : RQ u z Q t) {o : Nat} (ho : o < 8) : ∃ v, fX2_ownerProperty (Int32.ofNat o) (Int32.ofNat 2) u = some v ∧ fX4_toldOwner (Int32.ofNat o) (Int32.ofNat 2) z = some v := by
  unfold fX2_ownerProperty fX4_toldOwner
  obtain ⟨r, h1, h2, _⟩ := r_to q ho
  rw [if_neg (by decide), if_neg (by decide), if_pos (by decide), if_neg (by decide), if_neg (by decide), if_pos (by decide), h1, h2]
  exact ⟨_, rfl, rfl⟩
theorem r_ow3 {u : Nat → Nat → Int32} {z : Nat → Int32} {Q : List Nat} {t : Nat} (R : RI u z) (q : RQ u z Q t) {o : Nat} (ho : o < 8) : ∃ v, fX2_ownerProperty (Int32.ofNat o) (Int32.ofNat 3) u = some v ∧ fX4_toldOwner (Int32.ofNat o) (Int32.ofNat 3) z = some v := by
  unfold fX2_ownerProperty fX4_toldOwner
  rw [if_neg (by decide), if_neg (by decide), if_neg (by decide), if_pos (by decide), if_neg (by decide), if_neg (by decide), if_neg (by decide), if_pos (by decide), r_wo q ho, r_wz q ho, r_bs, r_bs]
  by_cases h : o ∈ Q
  · rw [if_pos h, if_pos h, if_neg r_10, r_wf R q h]
    exact ⟨_, rfl, rfl⟩
  · rw [if_neg h, if_neg h, if_pos (by decide)]
    exact ⟨_, rfl, rfl⟩
theorem r_ow4 {u : Nat → Nat → Int32} {z : Nat → Int32} {Q : List Nat} {t : Nat} (R : RI u z) (q : RQ u z Q t) {o : Nat} (ho : o < 8) : ∃ v, fX2_ownerProperty (Int32.ofNat o) (Int32.ofNat 4) u = some v ∧ fX4_toldOwner (Int32.ofNat o) (Int32.ofNat 4) z = some v := by
  unfold fX2_ownerProperty fX4_toldOwner
  refine ⟨u 9 o, ?_, ?_⟩
  · rw [if_neg (by decide), if_neg (by decide), if_neg (by decide), if_neg (by decide), if_pos (by decide), if_pos (r_in ho (by decide)), r_nc (by omega)]
  · have e : Int32.ofNat 4 - 2 = Int32.ofNat 2 := by decide
    rw [if_neg (by decide), if_neg (by decide), if_neg (by decide), if_neg (by decide), e, r_its ho (by decide), r_bs, R.o2 o ho]
theorem r_ow5 {u : Nat → Nat → Int32} {z : Nat → Int32} {Q : List Nat} {t : Nat} (R : RI u z) (q : RQ u z Q t) {o : Nat} (ho : o < 8) : ∃ v, fX2_ownerProperty (Int32.ofNat o) (Int32.ofNat 5) u = some v ∧ fX4_toldOwner (Int32.ofNat o) (Int32.ofNat 5) z = some v := by
  unfold fX2_ownerProperty fX4_toldOwner
  refine ⟨u 10 o, ?_, ?_⟩
  · rw [if_neg (by decide), if_neg (by decide), if_neg (by decide), if_neg (by decide), if_neg (by decide), if_pos (by decide), if_pos (r_in ho (by decide)), r_nc (by omega)]
  · have e : Int32.ofNat 5 - 2 = Int32.ofNat 3 := by decide
    rw [if_neg (by decide), if_neg (by decide), if_neg (by decide), if_neg (by decide), e, r_its ho (by decide), r_bs, R.o3 o ho]
theorem r_ow6 {u : Nat → Nat → Int32} {z : Nat → Int32} {Q : List Nat} {t : Nat} (R : RI u z) (q : RQ u z Q t) {o : Nat} (ho : o < 8) : ∃ v, fX2_ownerProperty (Int32.ofNat o) (Int32.ofNat 6) u = some v ∧ fX4_toldOwner (Int32.ofNat o) (Int32.ofNat 6) z = some v := by
  unfold fX2_ownerProperty fX4_toldOwner
  refine ⟨u 11 o, ?_, ?_⟩
  · rw [if_neg (by decide), if_neg (by decide), if_neg (by decide), if_neg (by decide), if_neg (by decide), if_neg (by decide), if_pos (r_in ho (by decide)), r_nc (by omega)]
  · have e : Int32.ofNat 6 - 2 = Int32.ofNat 4 := by decide
    rw [if_neg (by decide), if_neg (by decide), if_neg (by decide), if_neg (by decide), e, r_its ho (by decide), r_bs, R.o4 o ho]
theorem r_owner {u : Nat → Nat → Int32} {z : Nat → Int32} {Q : List Nat} {t : Nat} (R : RI u z) (q : RQ u z Q t) {o : Nat} (ho : o < 8) {c : Nat} (hc : c < 7) : ∃ v, fX2_ownerProperty (Int32.ofNat o) (Int32.ofNat c) u = some v ∧ fX4_toldOwner (Int32.ofNat o) (Int32.ofNat c) z = some v := by
  have e : c = 0 ∨ c = 1 ∨ c = 2 ∨ c = 3 ∨ c = 4 ∨ c = 5 ∨ c = 6 := by omega
  rcases e with e | e | e | e | e | e | e <;> subst e
  · exact r_ow0 R q ho
  · exact r_ow1 R q ho
  · exact r_ow2 R q ho
  · exact r_ow3 R q ho
  · exact r_ow4 R q ho
  · exact r_ow5 R q ho
  · exact r_ow6 R q ho
theorem r_skl {u : Nat → Nat → Int32} {z : Nat → Int32} (R : RI u z) : ∀ j k n (a : Int32), k + j = 8 → j < n → ∃ b, fX2_sickCount_L4 u n a (Int32.ofNat k) = some b ∧ fX4_sick_L4 z n a (Int32.ofNat k) = some b
  | 0, k, n + 1, a, h, _ => by
    rw [fX2_sickCount_L4, fX4_sick_L4, if_pos ((r_8 (by omega)).mpr (by omega)), if_pos ((r_8 (by omega)).mpr (by omega))]
    exact ⟨a, rfl, rfl⟩
  | j + 1, k, n + 1, a, h, hn => by
    have hk : k < 8 := by omega
    rw [fX2_sickCount_L4, fX4_sick_L4, if_neg (r_8n hk), if_neg (r_8n hk), if_pos (r_in hk (by decide)), r_nc (by omega), r_of2 hk, r_bs, R.p2 k hk, r_s]
    rcases R.s4 k hk with h4 | h4
    · rw [if_pos h4, h4, Int32.add_zero]
      exact r_skl R j (k + 1) n a (by omega) (by omega)
    · rw [if_neg (show ¬ u 4 k = 0 by rw [h4]; exact r_10), h4]
      exact r_skl R j (k + 1) n (a + 1) (by omega) (by omega)
theorem r_sk {u : Nat → Nat → Int32} {z : Nat → Int32} (R : RI u z) : ∃ b, fX2_sickCount u = some b ∧ fX4_sick z = some b := r_skl R 8 0 1000 0 rfl (by decide)
theorem r_nu0 {u : Nat → Nat → Int32} {z : Nat → Int32} {Q : List Nat} {t : Nat} (R : RI u z) (q : RQ u z Q t) (sn : Int32) : ∃ v, fX2_number (Int32.ofNat 0) u = some v ∧ fX4_counted (Int32.ofNat 0) z sn = some v := by
  unfold fX2_number fX4_counted
  rw [if_pos (by decide), if_pos (by decide), r_l9, R.tm]
  exact ⟨_, rfl, rfl⟩
theorem r_nu1 {u : Nat → Nat → Int32} {z : Nat → Int32} {Q : List Nat} {t : Nat} (R : RI u z) (q : RQ u z Q t) (sn : Int32) : ∃ v, fX2_number (Int32.ofNat 1) u = some v ∧ fX4_counted (Int32.ofNat 1) z sn = some v := by
  unfold fX2_number fX4_counted
  rw [if_neg (by decide), if_pos (by decide), if_neg (by decide), if_pos (by decide), r_co, r_cz R]
  exact ⟨_, rfl, rfl⟩
theorem r_nu2 {u : Nat → Nat → Int32} {z : Nat → Int32} {Q : List Nat} {t : Nat} (R : RI u z) (q : RQ u z Q t) (sn : Int32) : ∃ v, fX2_number (Int32.ofNat 2) u = some v ∧ fX4_counted (Int32.ofNat 2) z sn = some v := by
  unfold fX2_number fX4_counted
  rw [if_neg (by decide), if_neg (by decide), if_pos (by decide), if_neg (by decide), if_neg (by decide), if_pos (by decide), r_so, r_sz R]
  exact ⟨_, rfl, rfl⟩
theorem r_nu3 {u : Nat → Nat → Int32} {z : Nat → Int32} {Q : List Nat} {t : Nat} (R : RI u z) (q : RQ u z Q t) (sn : Int32) : ∃ v, fX2_number (Int32.ofNat 3) u = some v ∧ fX4_counted (Int32.ofNat 3) z sn = some v := by
  unfold fX2_number fX4_counted
  rw [if_neg (by decide), if_neg (by decide), if_neg (by decide), if_pos (by decide), if_neg (by decide), if_neg (by decide), if_neg (by decide), if_pos (by decide), r_so, r_sz R]
  exact ⟨_, rfl, rfl⟩
theorem r_nu4 {u : Nat → Nat → Int32} {z : Nat → Int32} {Q : List Nat} {t : Nat} (R : RI u z) (q : RQ u z Q t) (sn : Int32) : ∃ v, fX2_number (Int32.ofNat 4) u = some v ∧ fX4_counted (Int32.ofNat 4) z sn = some v := by
  unfold fX2_number fX4_counted
  obtain ⟨b, e1, e2⟩ := r_sk R
  rw [if_neg (by decide), if_neg (by decide), if_neg (by decide), if_neg (by decide), if_pos (by decide), if_neg (by decide), if_neg (by decide), if_neg (by decide), if_neg (by decide), if_pos (by decide), e1, e2]
  exact ⟨_, rfl, rfl⟩
theorem r_nu5 {u : Nat → Nat → Int32} {z : Nat → Int32} {Q : List Nat} {t : Nat} (R : RI u z) (q : RQ u z Q t) (sn : Int32) : ∃ v, fX2_number (Int32.ofNat 5) u = some v ∧ fX4_counted (Int32.ofNat 5) z sn = some v := by
  unfold fX2_number fX4_counted
  rw [if_neg (by decide), if_neg (by decide), if_neg (by decide), if_neg (by decide), if_neg (by decide), if_pos (by decide), if_neg (by decide), if_neg (by decide), if_neg (by decide), if_neg (by decide), if_neg (by decide), if_pos (by decide), r_l17, q.n1, q.n2]
  exact ⟨_, rfl, rfl⟩
theorem r_nu6 {u : Nat → Nat → Int32} {z : Nat → Int32} {Q : List Nat} {t : Nat} (R : RI u z) (q : RQ u z Q t) (sn : Int32) : ∃ v, fX2_number (Int32.ofNat 6) u = some v ∧ fX4_counted (Int32.ofNat 6) z sn = some v := by
  unfold fX2_number fX4_counted
  have e1 : (Int32.ofNat 6 - 6).toNatClampNeg = 0 := by decide
  have e2 : (10 + Int32.ofNat 6 - 6).toNatClampNeg = 10 := by decide
  refine ⟨u 15 0, ?_, ?_⟩
  · rw [if_neg (by decide), if_neg (by decide), if_neg (by decide), if_neg (by decide), if_neg (by decide), if_neg (by decide), if_neg (by decide), if_neg (by decide), if_pos (by decide), e1]
  · rw [if_neg (by decide), if_neg (by decide), if_neg (by decide), if_neg (by decide), if_neg (by decide), if_neg (by decide), if_pos (by decide), if_pos (by decide), e2]
    exact congrArg some (R.tt 0 (by decide))
theorem r_nu7 {u : Nat → Nat → Int32} {z : Nat → Int32} {Q : List Nat} {t : Nat} (R : RI u z) (q : RQ u z Q t) (sn : Int32) : ∃ v, fX2_number (Int32.ofNat 7) u = some v ∧ fX4_counted (Int32.ofNat 7) z sn = some v := by
  unfold fX2_number fX4_counted
  have e1 : (Int32.ofNat 7 - 6).toNatClampNeg = 1 := by decide
  have e2 : (10 + Int32.ofNat 7 - 6).toNatClampNeg = 11 := by decide
  refine ⟨u 15 1, ?_, ?_⟩
  · rw [if_neg (by decide), if_neg (by decide), if_neg (by decide), if_neg (by decide), if_neg (by decide), if_neg (by decide), if_neg (by decide), if_neg (by decide), if_pos (by decide), e1]
  · rw [if_neg (by decide), if_neg (by decide), if_neg (by decide), if_neg (by decide), if_neg (by decide), if_neg (by decide), if_neg (by decide), if_pos (by decide), if_pos (by decide), e2]
    exact congrArg some (R.tt 1 (by decide))
theorem r_nu8 {u : Nat → Nat → Int32} {z : Nat → Int32} {Q : List Nat} {t : Nat} (R : RI u z) (q : RQ u z Q t) (sn : Int32) : ∃ v, fX2_number (Int32.ofNat 8) u = some v ∧ fX4_counted (Int32.ofNat 8) z sn = some v := by
  unfold fX2_number fX4_counted
  have e1 : (Int32.ofNat 8 - 6).toNatClampNeg = 2 := by decide
  have e2 : (10 + Int32.ofNat 8 - 6).toNatClampNeg = 12 := by decide
  refine ⟨u 15 2, ?_, ?_⟩
  · rw [if_neg (by decide), if_neg (by decide), if_neg (by decide), if_neg (by decide), if_neg (by decide), if_neg (by decide), if_neg (by decide), if_neg (by decide), if_pos (by decide), e1]
  · rw [if_neg (by decide), if_neg (by decide), if_neg (by decide), if_neg (by decide), if_neg (by decide), if_neg (by decide), if_neg (by decide), if_neg (by decide), if_pos (by decide), if_pos (by decide), e2]
    exact congrArg some (R.tt 2 (by decide))
theorem r_nu9 {u : Nat → Nat → Int32} {z : Nat → Int32} {Q : List Nat} {t : Nat} (R : RI u z) (q : RQ u z Q t) (sn : Int32) : ∃ v, fX2_number (Int32.ofNat 9) u = some v ∧ fX4_counted (Int32.ofNat 9) z sn = some v := by
  unfold fX2_number fX4_counted
  have e1 : (Int32.ofNat 9 - 6).toNatClampNeg = 3 := by decide
  have e2 : (10 + Int32.ofNat 9 - 6).toNatClampNeg = 13 := by decide
  refine ⟨u 15 3, ?_, ?_⟩
  · rw [if_neg (by decide), if_neg (by decide), if_neg (by decide), if_neg (by decide), if_neg (by decide), if_neg (by decide), if_neg (by decide), if_neg (by decide), if_pos (by decide), e1]
  · rw [if_neg (by decide), if_neg (by decide), if_neg (by decide), if_neg (by decide), if_neg (by decide), if_neg (by decide), if_neg (by decide), if_neg (by decide), if_neg (by decide), if_pos (by decide), if_pos (by decide), e2]
    exact congrArg some (R.tt 3 (by decide))
theorem r_nu10 {u : Nat → Nat → Int32} {z : Nat → Int32} {Q : List Nat} {t : Nat} (R : RI u z) (q : RQ u z Q t) (sn : Int32) : ∃ v, fX2_number (Int32.ofNat 10) u = some v ∧ fX4_counted (Int32.ofNat 10) z sn = some v := by
  unfold fX2_number fX4_counted
  have e1 : (Int32.ofNat 10 - 6).toNatClampNeg = 4 := by decide
  have e2 : (10 + Int32.ofNat 10 - 6).toNatClampNeg = 14 := by decide
  refine ⟨u 15 4, ?_, ?_⟩
  · rw [if_neg (by decide), if_neg (by decide), if_neg (by decide), if_neg (by decide), if_neg (by decide), if_neg (by decide), if_neg (by decide), if_neg (by decide), if_pos (by decide), e1]
  · rw [if_neg (by decide), if_neg (by decide), if_neg (by decide), if_neg (by decide), if_neg (by decide), if_neg (by decide), if_neg (by decide), if_neg (by decide), if_neg (by decide), if_neg (by decide), if_pos (by decide), if_pos (by decide), e2]
    exact congrArg some (R.tt 4 (by decide))
theorem r_nu11 {u : Nat → Nat → Int32} {z : Nat → Int32} {Q : List Nat} {t : Nat} (R : RI u z) (q : RQ u z Q t) (sn : Int32) : ∃ v, fX2_number (Int32.ofNat 11) u = some v ∧ fX4_counted (Int32.ofNat 11) z sn = some v := by
  unfold fX2_number fX4_counted
  have e1 : (Int32.ofNat 11 - 6).toNatClampNeg = 5 := by decide
  have e2 : (10 + Int32.ofNat 11 - 6).toNatClampNeg = 15 := by decide
  refine ⟨u 15 5, ?_, ?_⟩
  · rw [if_neg (by decide), if_neg (by decide), if_neg (by decide), if_neg (by decide), if_neg (by decide), if_neg (by decide), if_neg (by decide), if_neg (by decide), if_pos (by decide), e1]
  · rw [if_neg (by decide), if_neg (by decide), if_neg (by decide), if_neg (by decide), if_neg (by decide), if_neg (by decide), if_neg (by decide), if_neg (by decide), if_neg (by decide), if_neg (by decide), if_neg (by decide), if_pos (by decide), if_pos (by decide), e2]
    exact congrArg some (R.tt 5 (by decide))
theorem r_nu12 {u : Nat → Nat → Int32} {z : Nat → Int32} {Q : List Nat} {t : Nat} (R : RI u z) (q : RQ u z Q t) (sn : Int32) : ∃ v, fX2_number (Int32.ofNat 12) u = some v ∧ fX4_counted (Int32.ofNat 12) z sn = some v := by
  unfold fX2_number fX4_counted
  have e1 : (Int32.ofNat 12 - 6).toNatClampNeg = 6 := by decide
  have e2 : (10 + Int32.ofNat 12 - 6).toNatClampNeg = 16 := by decide
  refine ⟨u 15 6, ?_, ?_⟩
  · rw [if_neg (by decide), if_neg (by decide), if_neg (by decide), if_neg (by decide), if_neg (by decide), if_neg (by decide), if_neg (by decide), if_neg (by decide), if_pos (by decide), e1]
  · rw [if_neg (by decide), if_neg (by decide), if_neg (by decide), if_neg (by decide), if_neg (by decide), if_neg (by decide), if_neg (by decide), if_neg (by decide), if_neg (by decide), if_neg (by decide), if_neg (by decide), if_neg (by decide), if_pos (by decide), if_pos (by decide), e2]
    exact congrArg some (R.tt 6 (by decide))
theorem r_number {u : Nat → Nat → Int32} {z : Nat → Int32} {Q : List Nat} {t : Nat} (R : RI u z) (q : RQ u z Q t) (sn : Int32) {c : Nat} (hc : c < 13) : ∃ v, fX2_number (Int32.ofNat c) u = some v ∧ fX4_counted (Int32.ofNat c) z sn = some v := by
  have e : c = 0 ∨ c = 1 ∨ c = 2 ∨ c = 3 ∨ c = 4 ∨ c = 5 ∨ c = 6 ∨ c = 7 ∨ c = 8 ∨ c = 9 ∨ c = 10 ∨ c = 11 ∨ c = 12 := by omega
  rcases e with e | e | e | e | e | e | e | e | e | e | e | e | e <;> subst e
  · exact r_nu0 R q sn
  · exact r_nu1 R q sn
  · exact r_nu2 R q sn
  · exact r_nu3 R q sn
  · exact r_nu4 R q sn
  · exact r_nu5 R q sn
  · exact r_nu6 R q sn
  · exact r_nu7 R q sn
  · exact r_nu8 R q sn
  · exact r_nu9 R q sn
  · exact r_nu10 R q sn
  · exact r_nu11 R q sn
  · exact r_nu12 R q sn
theorem r_nu13 (z : Nat → Int32) (sn : Int32) : fX4_counted (Int32.ofNat 13) z sn = some sn := by
  unfold fX4_counted
  rw [if_neg (by decide), if_neg (by decide), if_neg (by decide), if_neg (by decide), if_neg (by decide), if_neg (by decide), if_neg (by decide), if_neg (by decide), if_neg (by decide), if_neg (by decide), if_neg (by decide), if_neg (by decide), if_neg (by decide), if_pos (by decide)]
theorem r_bkl {u : Nat → Nat → Int32} {z : Nat → Int32} {Q : List Nat} {t : Nat} (R : RI u z) (q : RQ u z Q t) (hl : Q.length ≠ 0) : ∀ j k n (m b : Int32), k + j = 8 → j < n → ∃ r, fX3_blocker_L18 u n m b (Int32.ofNat k) = some r ∧ fX4_blockerNow_L6 z n b m (Int32.ofNat k) = some r
  | 0, k, n + 1, m, b, h, _ => by
    rw [fX3_blocker_L18, fX4_blockerNow_L6, if_pos ((r_8 (by omega)).mpr (by omega)), if_pos ((r_8 (by omega)).mpr (by omega))]
    exact ⟨b, rfl, rfl⟩
  | j + 1, k, n + 1, m, b, h, hn => by
    have hk : k < 8 := by omega
    have l8 := q.len
    have e0 : ¬ Int32.ofNat Q.length ≤ 0 := fun c => hl (by have := (r_le (b := 0) (by omega) (by omega)).mp c; omega)
    rw [fX3_blocker_L18, fX4_blockerNow_L6, if_neg (r_8n hk), if_neg (r_8n hk), r_l17, q.n1, if_neg e0, r_lco, r_lz R hk, r_bs, r_bs, r_s]
    by_cases hm : Int32.ofNat (r_lc u k) ≤ m
    · rw [if_pos hm, if_pos hm, r_bs, if_pos hm]
      exact r_bkl R q hl j (k + 1) n m b (by omega) (by omega)
    · rw [if_neg hm, if_neg hm, r_bs, if_neg hm]
      exact r_bkl R q hl j (k + 1) n (Int32.ofNat (r_lc u k)) (Int32.ofNat k) (by omega) (by omega)
theorem r_blk {u : Nat → Nat → Int32} {z : Nat → Int32} {Q : List Nat} {t : Nat} (R : RI u z) (q : RQ u z Q t) : ∃ r, fX3_blocker u = some r ∧ fX4_blockerNow z = some r := by
  have l8 := q.len
  unfold fX3_blocker fX4_blockerNow
  rw [q.n2]
  by_cases hl : Q.length = 0
  · rw [hl, if_pos (show Int32.ofNat 0 = 0 from rfl)]
    refine ⟨-1, rfl, ?_⟩
    rw [show (1000 : Nat) = 999 + 1 from rfl, fX4_blockerNow_L6, if_neg (by decide), r_l17, q.n1, hl, if_pos (by decide)]
  · have e0 : ¬ Int32.ofNat Q.length = 0 := fun c => hl ((r_eq (b := 0) (by omega) (by omega)).mp c)
    rw [if_neg e0]
    exact r_bkl R q hl 8 0 1000 0 (-1) rfl (by decide)
