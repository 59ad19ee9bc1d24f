/-! ===== p27: the calls, as the law makes them ===== -/
def TI (e : Nat) (u : Nat → Nat → Int32) (nw : Int32) (m : Nat → Nat → Nat) (Q : List Nat) : Prop := (AB u m Q) ∧ (IV 0 0 m Q) ∧ (QU m Q) ∧ (∀ o, o ∈ Q → m 0 0 - m 12 o < m 1 8) ∧ (m 15 6 + Q.length ≤ e) ∧ (m 0 0 ≤ 6 * e) ∧ (∃ k, k < 6 ∧ nw = Int32.ofNat k)
theorem TI.ab {e : Nat} {u : Nat → Nat → Int32} {nw : Int32} {m : Nat → Nat → Nat} {Q : List Nat} (h : TI e u nw m Q) : AB u m Q := h.1
theorem TI.iv {e : Nat} {u : Nat → Nat → Int32} {nw : Int32} {m : Nat → Nat → Nat} {Q : List Nat} (h : TI e u nw m Q) : IV 0 0 m Q := h.2.1
theorem TI.qu {e : Nat} {u : Nat → Nat → Int32} {nw : Int32} {m : Nat → Nat → Nat} {Q : List Nat} (h : TI e u nw m Q) : QU m Q := h.2.2.1
theorem TI.wl {e : Nat} {u : Nat → Nat → Int32} {nw : Int32} {m : Nat → Nat → Nat} {Q : List Nat} (h : TI e u nw m Q) : ∀ o, o ∈ Q → m 0 0 - m 12 o < m 1 8 := h.2.2.2.1
theorem TI.lb {e : Nat} {u : Nat → Nat → Int32} {nw : Int32} {m : Nat → Nat → Nat} {Q : List Nat} (h : TI e u nw m Q) : m 15 6 + Q.length ≤ e := h.2.2.2.2.1
theorem TI.tb {e : Nat} {u : Nat → Nat → Int32} {nw : Int32} {m : Nat → Nat → Nat} {Q : List Nat} (h : TI e u nw m Q) : m 0 0 ≤ 6 * e := h.2.2.2.2.2.1
theorem TI.nk {e : Nat} {u : Nat → Nat → Int32} {nw : Int32} {m : Nat → Nat → Nat} {Q : List Nat} (h : TI e u nw m Q) : ∃ k, k < 6 ∧ nw = Int32.ofNat k := h.2.2.2.2.2.2
theorem TI.mk {e : Nat} {u : Nat → Nat → Int32} {nw : Int32} {m : Nat → Nat → Nat} {Q : List Nat} (ab : AB u m Q) (iv : IV 0 0 m Q) (qu : QU m Q) (wl : ∀ o, o ∈ Q → m 0 0 - m 12 o < m 1 8) (lb : m 15 6 + Q.length ≤ e) (tb : m 0 0 ≤ 6 * e) (nk : ∃ k, k < 6 ∧ nw = Int32.ofNat k) : TI e u nw m Q := ⟨ab, iv, qu, wl, lb, tb, nk⟩
theorem q_nw : ∀ k, k < 6 → pq_in ((Int32.ofNat k + 1) - (Int32.ofNat k + 1) / 6 * 6) 6 = true ∧ (Int32.ofNat k + 1) - (Int32.ofNat k + 1) / 6 * 6 = Int32.ofNat ((k + 1) % 6) := by decide +kernel
theorem q_sv {u : Nat → Nat → Int32} {m : Nat → Nat → Nat} {Q : List Nat} (A : AB u m Q) (R : IV 0 0 m Q) {nw : Int32} (h : ∃ k, k < 6 ∧ nw = Int32.ofNat k) (S : Nat → Nat → Nat → Int32) (hz : Int32) : ∃ r, fX1_save u S nw hz = some r ∧ ∃ k, k < 6 ∧ r.2.1 = Int32.ofNat k := by
  obtain ⟨k, hk, rfl⟩ := h
  obtain ⟨a, b⟩ := q_nw k hk
  unfold fX1_save
  rw [if_pos a, q_cp A R, r_bs]
  exact ⟨_, rfl, _, Nat.mod_lt _ (by decide), b⟩
theorem q_cr {u : Nat → Nat → Int32} {m : Nat → Nat → Nat} {Q : List Nat} (A : AB u m Q) (R : IV 0 0 m Q) {k : Nat} (hk : k < 8) : fX2_canRequest (Int32.ofNat k) u = some (if m 8 k = 0 ∧ k ∉ Q then 1 else 0) := by
  have l8 := R.len8
  unfold fX2_canRequest
  rw [q_it A R hk, r_bs]
  by_cases h8 : m 8 k = 0
  · obtain ⟨r, e, h⟩ := q_to A R hk
    rw [if_pos h8, if_neg r_10, e, r_bs]
    rcases h with ⟨h1, h2⟩ | ⟨i, hi, h1, h2⟩
    · rw [if_pos h1, if_pos ⟨h8, h2⟩]
    · rw [h1, if_neg (r_m1 (by omega)), if_neg (fun z => z.2 (r_mem.mpr ⟨i, hi, h2⟩))]
  · rw [if_neg h8, if_pos rfl, if_neg (fun z => h8 z.1)]
/-! what asking would bring -/
theorem q_u3 (f : Nat → Int32) (a b c : Int32) : upd (upd (upd f (0 : Int32).toNatClampNeg a) (1 : Int32).toNatClampNeg b) (2 : Int32).toNatClampNeg c 0 = a ∧ upd (upd (upd f (0 : Int32).toNatClampNeg a) (1 : Int32).toNatClampNeg b) (2 : Int32).toNatClampNeg c 1 = b ∧ upd (upd (upd f (0 : Int32).toNatClampNeg a) (1 : Int32).toNatClampNeg b) (2 : Int32).toNatClampNeg c 2 = c := by
  rw [r_l0, r_l1, r_l2]
  refine ⟨?_, ?_, ?_⟩
  · rw [r_un (by decide), r_un (by decide), r_ue rfl]
  · rw [r_un (by decide), r_ue rfl]
  · rw [r_ue rfl]
theorem q_3 {x y : Int32} {T : Nat → Nat → Int32} {a : Nat → Int32} (h : x = y) : (some (Sum.inr (x, T, a)) : Option (Nat ⊕ (Int32 × (Nat → Nat → Int32) × (Nat → Int32)))) = some (Sum.inr (y, T, a)) := by rw [h]
theorem q_ian {u : Nat → Nat → Int32} {m : Nat → Nat → Nat} {Q : List Nat} (A : AB u m Q) (R : IV 0 0 m Q) {k : Nat} (hk : k < 8) (hn : ¬ (m 8 k = 0 ∧ k ∉ Q)) (T : Nat → Nat → Int32) (ak : Nat → Int32) : (∃ T' ak', fX3_ifAsked (Int32.ofNat k) 0 u T ak = some (Sum.inr (-1, T', ak'))) ∧ (∃ T' ak', fX3_ifAsked (Int32.ofNat k) 1 u T ak = some (Sum.inr (0, T', ak'))) ∧ (∃ T' ak', fX3_ifAsked (Int32.ofNat k) 2 u T ak = some (Sum.inr (0, T', ak'))) := by
  have e : fX3_tryAsking (Int32.ofNat k) u T ak = some (T, upd (upd (upd ak (0 : Int32).toNatClampNeg (-1)) (1 : Int32).toNatClampNeg 0) (2 : Int32).toNatClampNeg 0) := by
    unfold fX3_tryAsking
    rw [q_cr A R hk, r_bs, if_neg hn, if_pos rfl]
  obtain ⟨x0, x1, x2⟩ := q_u3 ak (-1) 0 0
  refine ⟨?_, ?_, ?_⟩ <;> unfold fX3_ifAsked <;> rw [q_ro hk, r_bs, q_el]
  · rw [show fX3_requireKind 0 3 = some (Sum.inr ()) from rfl, r_bs, q_el, e, r_bs, if_pos (by decide)]
    exact ⟨_, _, q_3 x0⟩
  · rw [show fX3_requireKind 1 3 = some (Sum.inr ()) from rfl, r_bs, q_el, e, r_bs, if_pos (by decide)]
    exact ⟨_, _, q_3 x1⟩
  · rw [show fX3_requireKind 2 3 = some (Sum.inr ()) from rfl, r_bs, q_el, e, r_bs, if_pos (by decide)]
    exact ⟨_, _, q_3 x2⟩
theorem q_ia {u : Nat → Nat → Int32} {m : Nat → Nat → Nat} {Q : List Nat} (A : AB u m Q) (R : IV 0 0 m Q) {k : Nat} (hk : k < 8) (hc : m 8 k = 0 ∧ k ∉ Q) {r : Int32} {u1 : Nat → Nat → Int32} (hr : fX2_request (Int32.ofNat k) u = some (r, u1)) {v : Int32} (hv : (if r = (-1) then some (0 : Int32) else if pq_in r 8 then if pq_in r 8 then if (u1 7) r.toNatClampNeg ≤ (u 7) r.toNatClampNeg then some (0 : Int32) else some (1 : Int32) else none else none : Option (Int32)) = some v) (T : Nat → Nat → Int32) (ak : Nat → Int32) : (∃ T' ak', fX3_ifAsked (Int32.ofNat k) 0 u T ak = some (Sum.inr (r, T', ak'))) ∧ (∃ T' ak', fX3_ifAsked (Int32.ofNat k) 1 u T ak = some (Sum.inr (v, T', ak'))) ∧ (∃ T' ak', fX3_ifAsked (Int32.ofNat k) 2 u T ak = some (Sum.inr (u1 15 1 - u 15 1, T', ak'))) := by
  have e : fX3_tryAsking (Int32.ofNat k) u T ak = some (u1, upd (upd (upd (upd (upd (upd ak (0 : Int32).toNatClampNeg (-1)) (1 : Int32).toNatClampNeg 0) (2 : Int32).toNatClampNeg 0) (0 : Int32).toNatClampNeg r) (1 : Int32).toNatClampNeg v) (2 : Int32).toNatClampNeg (u1 15 1 - u 15 1)) := by
    unfold fX3_tryAsking
    rw [q_cr A R hk, r_bs, if_pos hc, if_neg r_10, q_cp A R, r_bs, hr, r_bs]
    dsimp only
    rw [hv, r_bs]
    rfl
  obtain ⟨x0, x1, x2⟩ := q_u3 (upd (upd (upd ak (0 : Int32).toNatClampNeg (-1)) (1 : Int32).toNatClampNeg 0) (2 : Int32).toNatClampNeg 0) r v (u1 15 1 - u 15 1)
  refine ⟨?_, ?_, ?_⟩ <;> unfold fX3_ifAsked <;> rw [q_ro hk, r_bs, q_el]
  · rw [show fX3_requireKind 0 3 = some (Sum.inr ()) from rfl, r_bs, q_el, e, r_bs, if_pos (by decide)]
    exact ⟨_, _, q_3 x0⟩
  · rw [show fX3_requireKind 1 3 = some (Sum.inr ()) from rfl, r_bs, q_el, e, r_bs, if_pos (by decide)]
    exact ⟨_, _, q_3 x1⟩
  · rw [show fX3_requireKind 2 3 = some (Sum.inr ()) from rfl, r_bs, q_el, e, r_bs, if_pos (by decide)]
    exact ⟨_, _, q_3 x2⟩
theorem l_ask {e : Nat} {P : Nat → Nat → Int32} {nw : Int32} {m : Nat → Nat → Nat} {Q : List Nat} (I : TI e P nw m Q) (he : e ≤ 90) {k : Nat} (hk : k < 8) (T : Nat → Nat → Int32) (S : Nat → Nat → Nat → Int32) (hz : Int32) (ak : Nat → Int32) : ∃ P' T' S' nw' hz' ak' m' Q', fL_ask (Int32.ofNat k) P T S nw hz ak = some (1, P', T', S', nw', hz', ak') ∧ TI (e + 1) P' nw' m' Q' := by
  have A := I.ab
  have R := I.iv
  have l8 := R.len8
  have lb := I.lb
  have c1 := R.c1; have c6 := R.c6
  by_cases hc : m 8 k = 0 ∧ k ∉ Q
  · obtain ⟨r, u1, n, Pq, hr, A1, K⟩ := q_ask A R I.qu hk hc.2 hc.1 (by omega)
    have R1 := K.iv
    have cn1 := R1.c1; have cn6 := R1.c6
    have klw := K.lw
    have l81 := R1.len8
    have t15 := K.mn
    -- what would be opened
    have hv : ∃ v : Int32, (if r = (-1) then some (0 : Int32) else if pq_in r 8 then if pq_in r 8 then if (u1 7) r.toNatClampNeg ≤ (P 7) r.toNatClampNeg then some (0 : Int32) else some (1 : Int32) else none else none : Option (Int32)) = some v ∧ (v = 0 ∨ (v = 1 ∧ ∃ c, c < 8 ∧ r = Int32.ofNat c ∧ n 5 c = 1 ∧ n 15 0 = m 15 0 + 1)) := by
      rcases K.rs with ⟨a, _⟩ | ⟨c, c8, a, _, _, _, _, _, _, _, _, op⟩
      · rw [if_pos a]; exact ⟨0, rfl, Or.inl rfl⟩
      · rw [a, if_neg (r_m1 (by omega)), if_pos (r_in c8 (by decide)), if_pos (r_in c8 (by decide)), r_nc (by omega), A1.c 7 c (by decide) (by decide), A.c 7 c (by decide) (by decide)]
        have b1 : m 7 c ≤ 100000 := by
          have x := n8_one (f := m 7) c8
          have y := R.c2
          omega
        have b2 : n 7 c ≤ 100000 := by
          have x := n8_one (f := n 7) c8
          have y := R1.c2
          omega
        have el := r_le (a := n 7 c) (b := m 7 c) (by omega) (by omega)
        rcases op with op | ⟨o1, o2, o3⟩
        · rw [if_pos (el.mpr (by rw [op]; exact Nat.le_refl _))]
          exact ⟨0, rfl, Or.inl rfl⟩
        · rw [if_neg (fun z => by have := el.mp z; omega)]
          exact ⟨1, rfl, Or.inr ⟨rfl, c, c8, rfl, o2, o3⟩⟩
    obtain ⟨v, hv1, hv2⟩ := hv
    have ia := fun T ak => q_ia A R hk hc hr hv1 T ak
    obtain ⟨T1, ak1, i0⟩ := (ia T ak).1
    obtain ⟨T2, ak2, i1⟩ := (ia T1 ak1).2.1
    obtain ⟨T3, ak3, i2⟩ := (ia T2 ak2).2.2
    obtain ⟨sv, sv1, sv2⟩ := q_sv A R I.nk S hz
    have askd : fX3_ask (Int32.ofNat k) P S nw hz = some (Sum.inr (r, u1, sv.1, sv.2.1, sv.2.2)) := by
      unfold fX3_ask
      rw [q_ro hk, r_bs, q_el, q_cr A R hk, r_bs, if_pos hc, if_neg r_10, sv1, r_bs, hr, r_bs]
    have ow0 := q_ow0 A R hk
    rw [hc.1] at ow0
    obtain ⟨r2, ow2, h2⟩ := q_ow2 A R hk
    have hr2 : r2 = -1 := by
      rcases h2 with ⟨a, _⟩ | ⟨i, hi, _, b⟩
      · exact a
      · exact absurd (r_mem.mpr ⟨i, hi, b⟩) hc.2
    have ti : TI (e + 1) u1 sv.2.1 n Pq := by
      refine TI.mk A1 R1 K.qu ?_ (by omega) (by rw [K.r0]; have := I.tb; omega) sv2
      intro o ho
      rw [K.r0, K.r1]
      have s8 := (R.sg 8 (by decide)).1
      have s8 : 1 ≤ m 1 8 := s8
      by_cases hok : o = k
      · rcases K.rs with ⟨_, _, h12, _⟩ | ⟨_, _, _, _, hP, _⟩
        · rw [hok, h12]; omega
        · rw [hok, hP] at ho; exact absurd ho hc.2
      · rw [K.rw o hok]
        refine I.wl o ?_
        rcases K.rs with ⟨_, hP, _⟩ | ⟨_, _, _, _, hP, _⟩
        · rw [hP] at ho
          rcases List.mem_append.mp ho with z | z
          · exact z
          · exact absurd (List.mem_singleton.mp z) hok
        · rw [hP] at ho; exact ho
    have e71 : u1 15 1 = Int32.ofNat (n 15 1) := A1.c 15 1 (by decide) (by decide)
    have e70 : P 15 1 = Int32.ofNat (m 15 1) := A.c 15 1 (by decide) (by decide)
    have eD : Int32.ofNat (n 15 1) = Int32.ofNat (m 15 1) + (u1 15 1 - P 15 1) := by
      rw [e71, e70, Int32.add_comm, Int32.sub_add_cancel]
    have lk := lcn_le m k
    have s1 := R.s1 (k := 1) (by decide)
    have ow1 := q_ow1 A R hk
    have ow4 := q_ow4 A R hk
    unfold fL_ask
    rw [i0, r_bs, q_el]
    dsimp only
    rw [q_ct6 A R, r_bs, q_el, i1, r_bs, q_el]
    dsimp only
    rw [q_ct7 A R, r_bs, q_el, i2, r_bs, q_el]
    dsimp only
    rw [ow4, r_bs, q_el, ow1, r_bs, q_el, ow0, r_bs, q_el, if_neg (show ¬ (Int32.ofNat (1 - 0) = 0) by decide), ow2, r_bs, q_el, if_pos (show r2 < 0 by rw [hr2]; decide), q_st1 A, r_bs, q_el, q_ite, r_bs, askd, r_bs, q_el]
    dsimp only
    rw [if_pos rfl, q_ct7 A1 R1, r_bs, q_el, if_pos eD, q_ct6 A1 R1, r_bs, q_el]
    rcases K.rs with ⟨a, hP, h12, h9, _⟩ | ⟨c, c8, a, may, hP, n2, n3, n6, n9, nl, ns, op⟩
    · have v0 : v = 0 := by
        rcases hv2 with z | ⟨_, c, c8, z, _⟩
        · exact z
        · rw [a] at z; exact absurd z (r_m1' (by omega))
      have g6 : ¬ (Int32.ofNat (n 15 0) < Int32.ofNat (m 15 0) + v) := by
        rw [v0, Int32.add_zero]
        exact fun z => by have := (r_lt (by omega) (by omega)).mp z; omega
      have hkP : k ∈ Pq := by rw [hP]; exact List.mem_append_right _ (List.mem_singleton.mpr rfl)
      obtain ⟨r3, ow2', h2'⟩ := q_ow2 A1 R1 hk
      have e3 : r3 = Int32.ofNat Pq.length - 1 := by
        rcases h2' with ⟨_, z⟩ | ⟨i, hi, z, y⟩
        · exact absurd hkP z
        · rw [hP, q_apl] at y
          rw [hP, List.length_append, List.length_singleton] at hi ⊢
          rw [r_d, z]
          by_cases hiq : i < Q.length
          · rw [if_pos hiq] at y
            exact absurd (y ▸ r_gm hiq) hc.2
          · rw [show i = Q.length by omega]
      have ow3' := q_ow3 A1 R1 hk
      rw [if_pos hkP, K.r0, h12, Nat.sub_self] at ow3'
      have ow4' := q_ow4 A1 R1 hk
      rw [h9] at ow4'
      rw [if_pos g6, if_pos (show r < 0 by rw [a]; decide), r_bs, if_neg (show ¬ (0 : Int32) ≤ r by rw [a]; decide), ow2', r_bs, q_el, q_ct5 A1 R1, r_bs, q_el, if_pos e3, ow3', r_bs, q_el, if_pos (show Int32.ofNat 0 = 0 from rfl), ow4', r_bs, q_el, if_pos rfl]
      exact ⟨_, _, _, _, _, _, _, _, rfl, ti⟩
    · have nr : ¬ r < 0 := by rw [a]; exact r_n0 (by omega)
      have pr : (0 : Int32) ≤ r := by rw [a]; exact (r_le (a := 0) (by omega) (by omega)).mpr (by omega)
      have g6 : ¬ (Int32.ofNat (n 15 0) < Int32.ofNat (m 15 0) + v) := by
        rcases hv2 with z | ⟨z, _, _, _, _, y⟩
        · rw [z, Int32.add_zero]
          exact fun z => by have := (r_lt (by omega) (by omega)).mp z; omega
        · rw [z, r_s, y]
          exact fun z => by have := (r_lt (by omega) (by omega)).mp z; omega
      have vm : ¬ (m 1 1 ≤ lcn m k) := by omega
      have em := r_le (a := m 1 1) (b := lcn m k) (by omega) (by omega)
      have gm : ¬ ((if Int32.ofNat (m 1 1) ≤ Int32.ofNat (lcn m k) then (0 : Int32) else 1) = 0) := by
        rw [if_neg (fun z => vm (em.mp z))]; decide
      obtain ⟨r3, ow2', h2'⟩ := q_ow2 A1 R1 hk
      have e3 : r3 = -1 := by
        rcases h2' with ⟨z, _⟩ | ⟨i, hi, _, y⟩
        · exact z
        · rw [hP] at hi y
          exact absurd (r_mem.mpr ⟨i, hi, y⟩) hc.2
      have ow4' := q_ow4 A1 R1 hk
      rw [n9, ← r_s] at ow4'
      have ow1' := q_ow1 A1 R1 hk
      rw [nl, ← r_s] at ow1'
      have p0 := q_pl0 A1 R1 c8
      rw [n2] at p0
      have p1 := q_pl1 A1 R1 c8
      rw [if_pos n2, n3] at p1
      have p4 := q_pl4 A1 R1 c8
      rw [if_neg (by omega), n6, K.r0, Nat.sub_self] at p4
      have gs : (if Int32.ofNat (m 1 4) = 0 then some () else (fX3_place (Int32.ofNat c) 2 u1).bind fun r46 => Sum.elim (fun e => none) (fun a47 => if a47 = 0 then some () else none) r46 : Option (Unit)) = some () := by
        rw [q_pl2 A1 R1 c8, r_bs, q_el]
        rcases ns with z | z
        · rw [z, if_pos (show Int32.ofNat 0 = 0 from rfl)]
        · rw [z]
          split
          · rfl
          · rfl
      have st4 := q_st4 A1
      rw [K.r1] at st4
      rw [if_pos g6, if_neg nr, if_pos gm, r_bs, if_pos pr, a, p0, r_bs, q_el, if_pos (show Int32.ofNat 2 = 2 from rfl), p1, r_bs, q_el, if_pos rfl, p4, r_bs, q_el, if_pos (show Int32.ofNat 0 = 0 from rfl), ow2', r_bs, q_el, if_pos e3, ow4', r_bs, q_el, if_pos rfl, ow1', r_bs, q_el, if_pos rfl, st4, r_bs, q_el, gs, r_bs]
      rcases hv2 with z | ⟨z, c', c8', z2, z3, _⟩
      · rw [if_pos z]
        exact ⟨_, _, _, _, _, _, _, _, rfl, ti⟩
      · have ec : c' = c := (r_eq (by omega) (by omega)).mp (z2.symm.trans a)
        rw [ec] at z3
        have p3 := q_pl3 A1 R1 c8
        rw [z3] at p3
        rw [if_neg (by rw [z]; decide), p3, r_bs, q_el, if_pos (show Int32.ofNat 1 = 1 from rfl)]
        exact ⟨_, _, _, _, _, _, _, _, rfl, ti⟩
  · have ian := fun T ak => q_ian A R hk hc T ak
    obtain ⟨T1, ak1, i0⟩ := (ian T ak).1
    obtain ⟨T2, ak2, i1⟩ := (ian T1 ak1).2.1
    obtain ⟨T3, ak3, i2⟩ := (ian T2 ak2).2.2
    have ti : TI (e + 1) P nw m Q := TI.mk A R I.qu I.wl (by omega) (by have := I.tb; omega) I.nk
    have v8 := R.vn k hk
    have ow0 := q_ow0 A R hk
    unfold fL_ask
    rw [i0, r_bs, q_el]
    dsimp only
    rw [q_ct6 A R, r_bs, q_el, i1, r_bs, q_el]
    dsimp only
    rw [q_ct7 A R, r_bs, q_el, i2, r_bs, q_el]
    dsimp only
    rw [q_ow4 A R hk, r_bs, q_el, q_ow1 A R hk, r_bs, q_el, ow0, r_bs, q_el]
    by_cases h8 : m 8 k = 0
    · obtain ⟨r2, ow2, h2⟩ := q_ow2 A R hk
      have hm : k ∈ Q := by
        apply Classical.byContradiction
        intro z
        exact hc ⟨h8, z⟩
      have nr2 : ¬ r2 < 0 := by
        rcases h2 with ⟨_, z⟩ | ⟨i, hi, z, _⟩
        · exact absurd hm z
        · rw [z]; exact r_n0 (by omega)
      rw [h8, if_neg (show ¬ (Int32.ofNat (1 - 0) = 0) by decide), ow2, r_bs, q_el, if_neg nr2, if_pos rfl, if_pos rfl, r_bs, q_el, if_pos (Int32.add_zero _)]
      exact ⟨_, _, _, _, _, _, _, _, rfl, ti⟩
    · rw [show m 8 k = 1 by omega, if_pos (show Int32.ofNat (1 - 1) = 0 from rfl), if_pos rfl, if_pos rfl, r_bs, q_el, if_pos (Int32.add_zero _)]
      exact ⟨_, _, _, _, _, _, _, _, rfl, ti⟩
