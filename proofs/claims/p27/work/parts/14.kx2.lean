
def aX2_isEmpty : List Cond := Cond.code yX2_isEmpty cX2_isEmpty 2 (some .boolean) :: pw_all
theorem pX2_isEmpty : yX2_isEmpty.cls = RX2 ∧ yX2_isEmpty.cls ≠ "java/lang/invoke/MethodHandle" ∧ yX2_isEmpty.cls ≠ "java/lang/invoke/VarHandle" ∧ (parseMethodDescriptor yX2_isEmpty.desc).map (fun d => d.parameters.length) = some 1 := by decide +kernel
set_option maxHeartbeats 8000000 in
set_option maxRecDepth 100000 in
theorem kX2_isEmpty (l : Launch) (D : va_G) (cy : Nat → ClassId) (q : Nat → Nat) (sz : Nat) (u : Nat → Nat → Int32) (x1 : Int32) (o : Int32) (h : fX2_isEmpty x1 u = some o) : Met l yX2_isEmpty aX2_isEmpty ({ frames := 0, cells := 0, slots := 0, locals := 0 }) (pw_Pre D cy [.ref (q 0), .int x1] (WP cy q u) sz) (pw_I D o (WP cy q u) (WP cy q u) sz) 0 0 (va_A (WP cy q u) sz) := by
  refine pw_met (cc := cX2_isEmpty) (maxL := 2) (ret := (some .boolean)) (by decide) rfl (Nat.le_of_ble_eq_true rfl) ?_
  intro p e s m args below meth c ls A hx hb hr hml hlk hts hown hAe hA hK hP hD hS hl
  have hl : lv_has ls 2 [(0, .ref (q 0)), (1, .int x1)] := hl
  generalize hQ : MQ below (pw_I D o (WP cy q u) (WP cy q u) sz) args s 0 0 (va_A (WP cy q u) sz) = Q
  have hF : CallFix p m c cX2_isEmpty 2 s args aX2_isEmpty RX2 := ⟨hx, hb, hml, hown, hts⟩
  have hta : ∀ w ∈ pw_all, w.before args s = true := fun w h => hts w (List.mem_cons_of_mem _ h)
  have hin : ∀ w ∈ wsX20, w ∈ aX2_isEmpty := fun w h => List.mem_cons_of_mem _ (inA2 w h)
  unfold fX2_isEmpty at h
  refine lv_aload_n hx hb dX2_isEmpty_0 rfl (lv_at hl 0 rfl) ?_
  refine va_get (D := D) (ci := 2) (v := .ref (q 2)) (C := RX2) (T := TX2) (N := 16) hx hb hts hin hown hK hP 0 rfl rfl 2 (by decide) (hta _ aw_35) (fun _ h9 => h9) rfl dX2_isEmpty_1 ?_
  refine lv_iload_n hx hb dX2_isEmpty_4 rfl (lv_at hl 1 rfl) ?_
  obtain ⟨hg, h⟩ := pq_g h
  refine va_iald hx hb hK hP 2 0 rfl rfl (pq_vp hg) dX2_isEmpty_5 ?_
  refine lv_if_ne (tgt := 13) hx hb dX2_isEmpty_6 (by decide) (fun c1_ => ?_) (fun c1_ => ?_)
  · have h := pq_e c1_ h
    refine lv_iconst (v := 0) hx hb dX2_isEmpty_13 (by decide) ?_
    obtain rfl := Option.some.inj h
    subst hQ
    exact pw_rz hx hb hr rfl hlk hAe hP hS rfl dX2_isEmpty_14
  · have h := pq_t c1_ h
    refine lv_iconst (v := 1) hx hb dX2_isEmpty_9 (by decide) ?_
    refine lv_goto (tgt := 14) hx hb dX2_isEmpty_10 (by decide) ?_
    obtain rfl := Option.some.inj h
    subst hQ
    exact pw_rz hx hb hr rfl hlk hAe hP hS rfl dX2_isEmpty_14

def aX2_borrower : List Cond := Cond.code yX2_borrower cX2_borrower 2 (some .int) :: pw_all
theorem pX2_borrower : yX2_borrower.cls = RX2 ∧ yX2_borrower.cls ≠ "java/lang/invoke/MethodHandle" ∧ yX2_borrower.cls ≠ "java/lang/invoke/VarHandle" ∧ (parseMethodDescriptor yX2_borrower.desc).map (fun d => d.parameters.length) = some 1 := by decide +kernel
set_option maxHeartbeats 8000000 in
set_option maxRecDepth 100000 in
theorem kX2_borrower (l : Launch) (D : va_G) (cy : Nat → ClassId) (q : Nat → Nat) (sz : Nat) (u : Nat → Nat → Int32) (x1 : Int32) (o : Int32) (h : fX2_borrower x1 u = some o) : Met l yX2_borrower aX2_borrower ({ frames := 0, cells := 0, slots := 0, locals := 0 }) (pw_Pre D cy [.ref (q 0), .int x1] (WP cy q u) sz) (pw_I D o (WP cy q u) (WP cy q u) sz) 0 0 (va_A (WP cy q u) sz) := by
  refine pw_met (cc := cX2_borrower) (maxL := 2) (ret := (some .int)) (by decide) rfl (Nat.le_of_ble_eq_true rfl) ?_
  intro p e s m args below meth c ls A hx hb hr hml hlk hts hown hAe hA hK hP hD hS hl
  have hl : lv_has ls 2 [(0, .ref (q 0)), (1, .int x1)] := hl
  generalize hQ : MQ below (pw_I D o (WP cy q u) (WP cy q u) sz) args s 0 0 (va_A (WP cy q u) sz) = Q
  have hF : CallFix p m c cX2_borrower 2 s args aX2_borrower RX2 := ⟨hx, hb, hml, hown, hts⟩
  have hta : ∀ w ∈ pw_all, w.before args s = true := fun w h => hts w (List.mem_cons_of_mem _ h)
  have hin : ∀ w ∈ wsX20, w ∈ aX2_borrower := fun w h => List.mem_cons_of_mem _ (inA2 w h)
  unfold fX2_borrower at h
  refine lv_aload_n hx hb dX2_borrower_0 rfl (lv_at hl 0 rfl) ?_
  refine va_get (D := D) (ci := 2) (v := .ref (q 2)) (C := RX2) (T := TX2) (N := 16) hx hb hts hin hown hK hP 0 rfl rfl 2 (by decide) (hta _ aw_35) (fun _ h9 => h9) rfl dX2_borrower_1 ?_
  refine lv_iload_n hx hb dX2_borrower_4 rfl (lv_at hl 1 rfl) ?_
  obtain ⟨hg, h⟩ := pq_g h
  refine va_iald hx hb hK hP 2 0 rfl rfl (pq_vp hg) dX2_borrower_5 ?_
  refine lv_iconst (v := 2) hx hb dX2_borrower_6 (by decide) ?_
  refine lv_icmp_ne (tgt := 19) hx hb dX2_borrower_7 (by decide) (fun c1_ => ?_) (fun c1_ => ?_)
  · have h := pq_e c1_ h
    refine lv_iconst (v := (-1)) hx hb dX2_borrower_19 (by decide) ?_
    obtain rfl := Option.some.inj h
    subst hQ
    exact pw_ri hx hb hr hlk hAe hP hS rfl dX2_borrower_20
  · have h := pq_t c1_ h
    refine lv_aload_n hx hb dX2_borrower_10 rfl (lv_at hl 0 rfl) ?_
    refine va_get (D := D) (ci := 2) (v := .ref (q 3)) (C := RX2) (T := TX2) (N := 16) hx hb hts hin hown hK hP 0 rfl rfl 3 (by decide) (hta _ aw_36) (fun _ h9 => h9) rfl dX2_borrower_11 ?_
    refine lv_iload_n hx hb dX2_borrower_14 rfl (lv_at hl 1 rfl) ?_
    obtain ⟨hg, h⟩ := pq_g h
    refine va_iald hx hb hK hP 3 0 rfl rfl (pq_vp hg) dX2_borrower_15 ?_
    refine lv_goto (tgt := 20) hx hb dX2_borrower_16 (by decide) ?_
    obtain rfl := Option.some.inj h
    subst hQ
    exact pw_ri hx hb hr hlk hAe hP hS rfl dX2_borrower_20

def aX2_standingSo : List Cond := Cond.code yX2_standingSo cX2_standingSo 4 (some .int) :: pw_all
theorem pX2_standingSo : yX2_standingSo.cls = RX2 ∧ yX2_standingSo.cls ≠ "java/lang/invoke/MethodHandle" ∧ yX2_standingSo.cls ≠ "java/lang/invoke/VarHandle" ∧ (parseMethodDescriptor yX2_standingSo.desc).map (fun d => d.parameters.length) = some 1 := by decide +kernel
set_option maxHeartbeats 8000000 in
set_option maxRecDepth 100000 in
theorem kX2_standingSo (l : Launch) (D : va_G) (cy : Nat → ClassId) (q : Nat → Nat) (sz : Nat) (u : Nat → Nat → Int32) (x1 : Int32) (o : Int32) (h : fX2_standingSo x1 u = some o) : Met l yX2_standingSo aX2_standingSo ({ frames := 0, cells := 0, slots := 0, locals := 0 }) (pw_Pre D cy [.ref (q 0), .int x1] (WP cy q u) sz) (pw_I D o (WP cy q u) (WP cy q u) sz) 0 0 (va_A (WP cy q u) sz) := by
  refine pw_met (cc := cX2_standingSo) (maxL := 4) (ret := (some .int)) (by decide) rfl (Nat.le_of_ble_eq_true rfl) ?_
  intro p e s m args below meth c ls A hx hb hr hml hlk hts hown hAe hA hK hP hD hS hl
  have hl : lv_has ls 4 [(0, .ref (q 0)), (1, .int x1)] := hl
  generalize hQ : MQ below (pw_I D o (WP cy q u) (WP cy q u) sz) args s 0 0 (va_A (WP cy q u) sz) = Q
  have hF : CallFix p m c cX2_standingSo 4 s args aX2_standingSo RX2 := ⟨hx, hb, hml, hown, hts⟩
  have hta : ∀ w ∈ pw_all, w.before args s = true := fun w h => hts w (List.mem_cons_of_mem _ h)
  have hin : ∀ w ∈ wsX20, w ∈ aX2_standingSo := fun w h => List.mem_cons_of_mem _ (inA2 w h)
  unfold fX2_standingSo at h
  refine lv_iconst (v := 0) hx hb dX2_standingSo_0 (by decide) ?_
  refine lv_istore_n (lv' := [(2, .int 0), (0, .ref (q 0)), (1, .int x1)]) hx hb dX2_standingSo_1 rfl hl (by decide) rfl (fun ls hl => ?_)
  refine lv_iconst (v := 0) hx hb dX2_standingSo_2 (by decide) ?_
  refine lv_istore_n (lv' := [(3, .int 0), (2, .int 0), (0, .ref (q 0)), (1, .int x1)]) hx hb dX2_standingSo_3 rfl hl (by decide) rfl (fun ls hl => ?_)
  have L4_n1 : ∀ (n : Nat) (x2_4 : Int32) (x3_4 : Int32) (H : Heap) (locs : List Loc) (ls : Array Slot), fX2_standingSo_L4 x1 u n x2_4 x3_4 = some o → va_P D vwCl (WP cy q u) H → va_D A (WP cy q u) → va_S A s.heap H locs → lv_has ls 4 [(0, .ref (q 0)), (1, .int x1), (2, .int x2_4), (3, .int x3_4)] → W p l e ({ frames := 0, cells := 0, slots := 0, locals := 0 } : Room) s m args below meth c H locs 0 0 Q (F0 m 4 ls []) := by
    intro n
    induction n with
    | zero =>
      intro x2_4 x3_4 H locs ls h hP hD hS hl
      exact pq_n h
    | succ n ih4 =>
      intro x2_4 x3_4 H locs ls h hP hD hS hl
      rw [fX2_standingSo_L4] at h
      refine lv_iload_n hx hb dX2_standingSo_4 rfl (lv_at hl 3 rfl) ?_
      refine lv_bipush (v := 8) hx hb dX2_standingSo_5 (by decide) ?_
      refine lv_icmp_ge (tgt := 29) hx hb dX2_standingSo_7 (by decide) (fun c1_ => ?_) (fun c1_ => ?_)
      · have h := pq_t c1_ h
        refine lv_iload_n hx hb dX2_standingSo_29 rfl (lv_at hl 2 rfl) ?_
        obtain rfl := Option.some.inj h
        subst hQ
        exact pw_ri hx hb hr hlk hAe hP hS rfl dX2_standingSo_30
      · have h := pq_e c1_ h
        refine lv_aload_n hx hb dX2_standingSo_10 rfl (lv_at hl 0 rfl) ?_
        refine va_get (D := D) (ci := 2) (v := .ref (q 2)) (C := RX2) (T := TX2) (N := 16) hx hb hts hin hown hK hP 0 rfl rfl 2 (by decide) (hta _ aw_35) (fun _ h9 => h9) rfl dX2_standingSo_11 ?_
        refine lv_iload_n hx hb dX2_standingSo_14 rfl (lv_at hl 3 rfl) ?_
        obtain ⟨hg, h⟩ := pq_g h
        refine va_iald hx hb hK hP 2 0 rfl rfl (pq_vp hg) dX2_standingSo_15 ?_
        refine lv_iload_n hx hb dX2_standingSo_16 rfl (lv_at hl 1 rfl) ?_
        refine lv_icmp_ne (tgt := 23) hx hb dX2_standingSo_17 (by decide) (fun c2_ => ?_) (fun c2_ => ?_)
        · have h := pq_e c2_ h
          refine lv_iinc (v := x3_4 + 1) (lv' := [(3, .int (x3_4 + 1)), (0, .ref (q 0)), (1, .int x1), (2, .int x2_4)]) hx hb dX2_standingSo_23 hl (k := 3) rfl (by first | rfl | decide) (by decide) rfl (fun ls hl => ?_)
          refine lv_goto (tgt := 4) hx hb dX2_standingSo_26 (by decide) ?_
          exact ih4 x2_4 (x3_4 + 1) _ _ _ h hP hD hS (lv_sub hl [1, 2, 3, 0] rfl)
        · have h := pq_t c2_ h
          refine lv_iinc (v := x2_4 + 1) (lv' := [(2, .int (x2_4 + 1)), (0, .ref (q 0)), (1, .int x1), (3, .int x3_4)]) hx hb dX2_standingSo_20 hl (k := 2) rfl (by first | rfl | decide) (by decide) rfl (fun ls hl => ?_)
          refine lv_iinc (v := x3_4 + 1) (lv' := [(3, .int (x3_4 + 1)), (2, .int (x2_4 + 1)), (0, .ref (q 0)), (1, .int x1)]) hx hb dX2_standingSo_23 hl (k := 3) rfl (by first | rfl | decide) (by decide) rfl (fun ls hl => ?_)
          refine lv_goto (tgt := 4) hx hb dX2_standingSo_26 (by decide) ?_
          exact ih4 (x2_4 + 1) (x3_4 + 1) _ _ _ h hP hD hS (lv_sub hl [2, 3, 1, 0] rfl)
  exact L4_n1 1000 0 0 _ _ _ h hP hD hS (lv_sub hl [2, 3, 1, 0] rfl)

def aX2_connections : List Cond := Cond.code yX2_connections cX2_connections 1 (some .int) :: pw_all
theorem pX2_connections : yX2_connections.cls = RX2 ∧ yX2_connections.cls ≠ "java/lang/invoke/MethodHandle" ∧ yX2_connections.cls ≠ "java/lang/invoke/VarHandle" ∧ (parseMethodDescriptor yX2_connections.desc).map (fun d => d.parameters.length) = some 0 := by decide +kernel
set_option maxHeartbeats 8000000 in
set_option maxRecDepth 100000 in
theorem kX2_connections (l : Launch) (D : va_G) (cy : Nat → ClassId) (q : Nat → Nat) (sz : Nat) (u : Nat → Nat → Int32)  (o : Int32) (h : fX2_connections u = some o) : Met l yX2_connections aX2_connections ({ frames := 1, cells := 0, slots := 0, locals := 23 }) (pw_Pre D cy [.ref (q 0)] (WP cy q u) sz) (pw_I D o (WP cy q u) (WP cy q u) sz) 0 0 (va_A (WP cy q u) sz) := by
  refine pw_met (cc := cX2_connections) (maxL := 1) (ret := (some .int)) (by decide) rfl (Nat.le_of_ble_eq_true rfl) ?_
  intro p e s m args below meth c ls A hx hb hr hml hlk hts hown hAe hA hK hP hD hS hl
  have hl : lv_has ls 1 [(0, .ref (q 0))] := hl
  generalize hQ : MQ below (pw_I D o (WP cy q u) (WP cy q u) sz) args s 0 0 (va_A (WP cy q u) sz) = Q
  have hF : CallFix p m c cX2_connections 1 s args aX2_connections RX2 := ⟨hx, hb, hml, hown, hts⟩
  have hta : ∀ w ∈ pw_all, w.before args s = true := fun w h => hts w (List.mem_cons_of_mem _ h)
  have hin : ∀ w ∈ wsX20, w ∈ aX2_connections := fun w h => List.mem_cons_of_mem _ (inA2 w h)
  unfold fX2_connections at h
  refine lv_bipush (v := 8) hx hb dX2_connections_0 (by decide) ?_
  refine lv_aload_n hx hb dX2_connections_2 rfl (lv_at hl 0 rfl) ?_
  refine lv_iconst (v := 0) hx hb dX2_connections_3 (by decide) ?_
  obtain ⟨r1, hr1, h⟩ := pq_b h
  refine pw_ci (w1 := WP cy q u) (rest := [.int 8]) (As := [.int 0]) hF (kX2_standingSo l D cy q _ u 0 r1 hr1) (cwV 1 hts (pw_gV (own := RX2) (idx := 71) (C := RX2) (y := yX2_standingSo) aw_301 aw_302 aw_303 aw_2 aw_304) rfl rfl rfl pX2_standingSo ⟨Nat.le_of_ble_eq_true rfl, Nat.le_of_ble_eq_true rfl⟩) (va_recv hK hP (ci := 2) (q0 := 0) rfl rfl) hK hP hD hS hA rfl rfl hl.1 rfl (Nat.le_of_ble_eq_true rfl) dX2_connections_4 ⟨Nat.zero_le _, Nat.zero_le _⟩ (fun H locs hP hD hS => ?_)
  refine lv_isub hx hb dX2_connections_7 ?_
  obtain rfl := Option.some.inj h
  subst hQ
  exact pw_ri hx hb hr hlk hAe hP hS rfl dX2_connections_8

def aX2_sickCount : List Cond := Cond.code yX2_sickCount cX2_sickCount 3 (some .int) :: pw_all
theorem pX2_sickCount : yX2_sickCount.cls = RX2 ∧ yX2_sickCount.cls ≠ "java/lang/invoke/MethodHandle" ∧ yX2_sickCount.cls ≠ "java/lang/invoke/VarHandle" ∧ (parseMethodDescriptor yX2_sickCount.desc).map (fun d => d.parameters.length) = some 0 := by decide +kernel
set_option maxHeartbeats 8000000 in
set_option maxRecDepth 100000 in
theorem kX2_sickCount (l : Launch) (D : va_G) (cy : Nat → ClassId) (q : Nat → Nat) (sz : Nat) (u : Nat → Nat → Int32)  (o : Int32) (h : fX2_sickCount u = some o) : Met l yX2_sickCount aX2_sickCount ({ frames := 0, cells := 0, slots := 0, locals := 0 }) (pw_Pre D cy [.ref (q 0)] (WP cy q u) sz) (pw_I D o (WP cy q u) (WP cy q u) sz) 0 0 (va_A (WP cy q u) sz) := by
  refine pw_met (cc := cX2_sickCount) (maxL := 3) (ret := (some .int)) (by decide) rfl (Nat.le_of_ble_eq_true rfl) ?_
  intro p e s m args below meth c ls A hx hb hr hml hlk hts hown hAe hA hK hP hD hS hl
  have hl : lv_has ls 3 [(0, .ref (q 0))] := hl
  generalize hQ : MQ below (pw_I D o (WP cy q u) (WP cy q u) sz) args s 0 0 (va_A (WP cy q u) sz) = Q
  have hF : CallFix p m c cX2_sickCount 3 s args aX2_sickCount RX2 := ⟨hx, hb, hml, hown, hts⟩
  have hta : ∀ w ∈ pw_all, w.before args s = true := fun w h => hts w (List.mem_cons_of_mem _ h)
  have hin : ∀ w ∈ wsX20, w ∈ aX2_sickCount := fun w h => List.mem_cons_of_mem _ (inA2 w h)
  unfold fX2_sickCount at h
  refine lv_iconst (v := 0) hx hb dX2_sickCount_0 (by decide) ?_
  refine lv_istore_n (lv' := [(1, .int 0), (0, .ref (q 0))]) hx hb dX2_sickCount_1 rfl hl (by decide) rfl (fun ls hl => ?_)
  refine lv_iconst (v := 0) hx hb dX2_sickCount_2 (by decide) ?_
  refine lv_istore_n (lv' := [(2, .int 0), (1, .int 0), (0, .ref (q 0))]) hx hb dX2_sickCount_3 rfl hl (by decide) rfl (fun ls hl => ?_)
  have L4_n1 : ∀ (n : Nat) (x1_4 : Int32) (x2_4 : Int32) (H : Heap) (locs : List Loc) (ls : Array Slot), fX2_sickCount_L4 u n x1_4 x2_4 = some o → va_P D vwCl (WP cy q u) H → va_D A (WP cy q u) → va_S A s.heap H locs → lv_has ls 3 [(0, .ref (q 0)), (1, .int x1_4), (2, .int x2_4)] → W p l e ({ frames := 0, cells := 0, slots := 0, locals := 0 } : Room) s m args below meth c H locs 0 0 Q (F0 m 4 ls []) := by
    intro n
    induction n with
    | zero =>
      intro x1_4 x2_4 H locs ls h hP hD hS hl
      exact pq_n h
    | succ n ih4 =>
      intro x1_4 x2_4 H locs ls h hP hD hS hl
      rw [fX2_sickCount_L4] at h
      refine lv_iload_n hx hb dX2_sickCount_4 rfl (lv_at hl 2 rfl) ?_
      refine lv_bipush (v := 8) hx hb dX2_sickCount_5 (by decide) ?_
      refine lv_icmp_ge (tgt := 28) hx hb dX2_sickCount_7 (by decide) (fun c1_ => ?_) (fun c1_ => ?_)
      · have h := pq_t c1_ h
        refine lv_iload_n hx hb dX2_sickCount_28 rfl (lv_at hl 1 rfl) ?_
        obtain rfl := Option.some.inj h
        subst hQ
        exact pw_ri hx hb hr hlk hAe hP hS rfl dX2_sickCount_29
      · have h := pq_e c1_ h
        refine lv_aload_n hx hb dX2_sickCount_10 rfl (lv_at hl 0 rfl) ?_
        refine va_get (D := D) (ci := 2) (v := .ref (q 4)) (C := RX2) (T := TX2) (N := 16) hx hb hts hin hown hK hP 0 rfl rfl 4 (by decide) (hta _ aw_37) (fun _ h9 => h9) rfl dX2_sickCount_11 ?_
        refine lv_iload_n hx hb dX2_sickCount_14 rfl (lv_at hl 2 rfl) ?_
        obtain ⟨hg, h⟩ := pq_g h
        refine va_zald hx hb hK hP 4 1 rfl rfl (pq_vp hg) dX2_sickCount_15 ?_
        refine lv_if_eq (tgt := 22) hx hb dX2_sickCount_16 (by decide) (fun c2_ => ?_) (fun c2_ => ?_)
        · have h := pq_t c2_ h
          refine lv_iinc (v := x2_4 + 1) (lv' := [(2, .int (x2_4 + 1)), (0, .ref (q 0)), (1, .int x1_4)]) hx hb dX2_sickCount_22 hl (k := 2) rfl (by first | rfl | decide) (by decide) rfl (fun ls hl => ?_)
          refine lv_goto (tgt := 4) hx hb dX2_sickCount_25 (by decide) ?_
          exact ih4 x1_4 (x2_4 + 1) _ _ _ h hP hD hS (lv_sub hl [1, 2, 0] rfl)
        · have h := pq_e c2_ h
          refine lv_iinc (v := x1_4 + 1) (lv' := [(1, .int (x1_4 + 1)), (0, .ref (q 0)), (2, .int x2_4)]) hx hb dX2_sickCount_19 hl (k := 1) rfl (by first | rfl | decide) (by decide) rfl (fun ls hl => ?_)
          refine lv_iinc (v := x2_4 + 1) (lv' := [(2, .int (x2_4 + 1)), (1, .int (x1_4 + 1)), (0, .ref (q 0))]) hx hb dX2_sickCount_22 hl (k := 2) rfl (by first | rfl | decide) (by decide) rfl (fun ls hl => ?_)
          refine lv_goto (tgt := 4) hx hb dX2_sickCount_25 (by decide) ?_
          exact ih4 (x1_4 + 1) (x2_4 + 1) _ _ _ h hP hD hS (lv_sub hl [2, 1, 0] rfl)
  exact L4_n1 1000 0 0 _ _ _ h hP hD hS (lv_sub hl [2, 1, 0] rfl)

def aX2_lentCount : List Cond := Cond.code yX2_lentCount cX2_lentCount 4 (some .int) :: pw_all
theorem pX2_lentCount : yX2_lentCount.cls = RX2 ∧ yX2_lentCount.cls ≠ "java/lang/invoke/MethodHandle" ∧ yX2_lentCount.cls ≠ "java/lang/invoke/VarHandle" ∧ (parseMethodDescriptor yX2_lentCount.desc).map (fun d => d.parameters.length) = some 1 := by decide +kernel
set_option maxHeartbeats 8000000 in
set_option maxRecDepth 100000 in
theorem kX2_lentCount (l : Launch) (D : va_G) (cy : Nat → ClassId) (q : Nat → Nat) (sz : Nat) (u : Nat → Nat → Int32) (x1 : Int32) (o : Int32) (h : fX2_lentCount x1 u = some o) : Met l yX2_lentCount aX2_lentCount ({ frames := 0, cells := 0, slots := 0, locals := 0 }) (pw_Pre D cy [.ref (q 0), .int x1] (WP cy q u) sz) (pw_I D o (WP cy q u) (WP cy q u) sz) 0 0 (va_A (WP cy q u) sz) := by
  refine pw_met (cc := cX2_lentCount) (maxL := 4) (ret := (some .int)) (by decide) rfl (Nat.le_of_ble_eq_true rfl) ?_
  intro p e s m args below meth c ls A hx hb hr hml hlk hts hown hAe hA hK hP hD hS hl
  have hl : lv_has ls 4 [(0, .ref (q 0)), (1, .int x1)] := hl
  generalize hQ : MQ below (pw_I D o (WP cy q u) (WP cy q u) sz) args s 0 0 (va_A (WP cy q u) sz) = Q
  have hF : CallFix p m c cX2_lentCount 4 s args aX2_lentCount RX2 := ⟨hx, hb, hml, hown, hts⟩
  have hta : ∀ w ∈ pw_all, w.before args s = true := fun w h => hts w (List.mem_cons_of_mem _ h)
  have hin : ∀ w ∈ wsX20, w ∈ aX2_lentCount := fun w h => List.mem_cons_of_mem _ (inA2 w h)
  unfold fX2_lentCount at h
  refine lv_iconst (v := 0) hx hb dX2_lentCount_0 (by decide) ?_
  refine lv_istore_n (lv' := [(2, .int 0), (0, .ref (q 0)), (1, .int x1)]) hx hb dX2_lentCount_1 rfl hl (by decide) rfl (fun ls hl => ?_)
  refine lv_iconst (v := 0) hx hb dX2_lentCount_2 (by decide) ?_
  refine lv_istore_n (lv' := [(3, .int 0), (2, .int 0), (0, .ref (q 0)), (1, .int x1)]) hx hb dX2_lentCount_3 rfl hl (by decide) rfl (fun ls hl => ?_)
  have L4_n1 : ∀ (n : Nat) (x2_4 : Int32) (x3_4 : Int32) (H : Heap) (locs : List Loc) (ls : Array Slot), fX2_lentCount_L4 x1 u n x2_4 x3_4 = some o → va_P D vwCl (WP cy q u) H → va_D A (WP cy q u) → va_S A s.heap H locs → lv_has ls 4 [(0, .ref (q 0)), (1, .int x1), (2, .int x2_4), (3, .int x3_4)] → W p l e ({ frames := 0, cells := 0, slots := 0, locals := 0 } : Room) s m args below meth c H locs 0 0 Q (F0 m 4 ls []) := by
    intro n
    induction n with
    | zero =>
      intro x2_4 x3_4 H locs ls h hP hD hS hl
      exact pq_n h
    | succ n ih4 =>
      intro x2_4 x3_4 H locs ls h hP hD hS hl
      rw [fX2_lentCount_L4] at h
      refine lv_iload_n hx hb dX2_lentCount_4 rfl (lv_at hl 3 rfl) ?_
      refine lv_bipush (v := 8) hx hb dX2_lentCount_5 (by decide) ?_
      refine lv_icmp_ge (tgt := 39) hx hb dX2_lentCount_7 (by decide) (fun c1_ => ?_) (fun c1_ => ?_)
      · have h := pq_t c1_ h
        refine lv_iload_n hx hb dX2_lentCount_39 rfl (lv_at hl 2 rfl) ?_
        obtain rfl := Option.some.inj h
        subst hQ
        exact pw_ri hx hb hr hlk hAe hP hS rfl dX2_lentCount_40
      · have h := pq_e c1_ h
        refine lv_aload_n hx hb dX2_lentCount_10 rfl (lv_at hl 0 rfl) ?_
        refine va_get (D := D) (ci := 2) (v := .ref (q 2)) (C := RX2) (T := TX2) (N := 16) hx hb hts hin hown hK hP 0 rfl rfl 2 (by decide) (hta _ aw_35) (fun _ h9 => h9) rfl dX2_lentCount_11 ?_
        refine lv_iload_n hx hb dX2_lentCount_14 rfl (lv_at hl 3 rfl) ?_
        obtain ⟨hg, h⟩ := pq_g h
        refine va_iald hx hb hK hP 2 0 rfl rfl (pq_vp hg) dX2_lentCount_15 ?_
        refine lv_iconst (v := 2) hx hb dX2_lentCount_16 (by decide) ?_
        refine lv_icmp_ne (tgt := 33) hx hb dX2_lentCount_17 (by decide) (fun c2_ => ?_) (fun c2_ => ?_)
        · have h := pq_e c2_ h
          refine lv_iinc (v := x3_4 + 1) (lv' := [(3, .int (x3_4 + 1)), (0, .ref (q 0)), (1, .int x1), (2, .int x2_4)]) hx hb dX2_lentCount_33 hl (k := 3) rfl (by first | rfl | decide) (by decide) rfl (fun ls hl => ?_)
          refine lv_goto (tgt := 4) hx hb dX2_lentCount_36 (by decide) ?_
          exact ih4 x2_4 (x3_4 + 1) _ _ _ h hP hD hS (lv_sub hl [1, 2, 3, 0] rfl)
        · have h := pq_t c2_ h
          refine lv_aload_n hx hb dX2_lentCount_20 rfl (lv_at hl 0 rfl) ?_
          refine va_get (D := D) (ci := 2) (v := .ref (q 3)) (C := RX2) (T := TX2) (N := 16) hx hb hts hin hown hK hP 0 rfl rfl 3 (by decide) (hta _ aw_36) (fun _ h9 => h9) rfl dX2_lentCount_21 ?_
          refine lv_iload_n hx hb dX2_lentCount_24 rfl (lv_at hl 3 rfl) ?_
          obtain ⟨hg, h⟩ := pq_g h
          refine va_iald hx hb hK hP 3 0 rfl rfl (pq_vp hg) dX2_lentCount_25 ?_
          refine lv_iload_n hx hb dX2_lentCount_26 rfl (lv_at hl 1 rfl) ?_
          refine lv_icmp_ne (tgt := 33) hx hb dX2_lentCount_27 (by decide) (fun c3_ => ?_) (fun c3_ => ?_)
          · have h := pq_e c3_ h
            refine lv_iinc (v := x3_4 + 1) (lv' := [(3, .int (x3_4 + 1)), (0, .ref (q 0)), (1, .int x1), (2, .int x2_4)]) hx hb dX2_lentCount_33 hl (k := 3) rfl (by first | rfl | decide) (by decide) rfl (fun ls hl => ?_)
            refine lv_goto (tgt := 4) hx hb dX2_lentCount_36 (by decide) ?_
            exact ih4 x2_4 (x3_4 + 1) _ _ _ h hP hD hS (lv_sub hl [1, 2, 3, 0] rfl)
          · have h := pq_t c3_ h
            refine lv_iinc (v := x2_4 + 1) (lv' := [(2, .int (x2_4 + 1)), (0, .ref (q 0)), (1, .int x1), (3, .int x3_4)]) hx hb dX2_lentCount_30 hl (k := 2) rfl (by first | rfl | decide) (by decide) rfl (fun ls hl => ?_)
            refine lv_iinc (v := x3_4 + 1) (lv' := [(3, .int (x3_4 + 1)), (2, .int (x2_4 + 1)), (0, .ref (q 0)), (1, .int x1)]) hx hb dX2_lentCount_33 hl (k := 3) rfl (by first | rfl | decide) (by decide) rfl (fun ls hl => ?_)
            refine lv_goto (tgt := 4) hx hb dX2_lentCount_36 (by decide) ?_
            exact ih4 (x2_4 + 1) (x3_4 + 1) _ _ _ h hP hD hS (lv_sub hl [2, 3, 1, 0] rfl)
  exact L4_n1 1000 0 0 _ _ _ h hP hD hS (lv_sub hl [2, 3, 1, 0] rfl)

def aX2_isThere : List Cond := Cond.code yX2_isThere cX2_isThere 2 (some .boolean) :: pw_all
theorem pX2_isThere : yX2_isThere.cls = RX2 ∧ yX2_isThere.cls ≠ "java/lang/invoke/MethodHandle" ∧ yX2_isThere.cls ≠ "java/lang/invoke/VarHandle" ∧ (parseMethodDescriptor yX2_isThere.desc).map (fun d => d.parameters.length) = some 1 := by decide +kernel
set_option maxHeartbeats 8000000 in
set_option maxRecDepth 100000 in
theorem kX2_isThere (l : Launch) (D : va_G) (cy : Nat → ClassId) (q : Nat → Nat) (sz : Nat) (u : Nat → Nat → Int32) (x1 : Int32) (o : Int32) (h : fX2_isThere x1 u = some o) : Met l yX2_isThere aX2_isThere ({ frames := 0, cells := 0, slots := 0, locals := 0 }) (pw_Pre D cy [.ref (q 0), .int x1] (WP cy q u) sz) (pw_I D o (WP cy q u) (WP cy q u) sz) 0 0 (va_A (WP cy q u) sz) := by
  refine pw_met (cc := cX2_isThere) (maxL := 2) (ret := (some .boolean)) (by decide) rfl (Nat.le_of_ble_eq_true rfl) ?_
  intro p e s m args below meth c ls A hx hb hr hml hlk hts hown hAe hA hK hP hD hS hl
  have hl : lv_has ls 2 [(0, .ref (q 0)), (1, .int x1)] := hl
  generalize hQ : MQ below (pw_I D o (WP cy q u) (WP cy q u) sz) args s 0 0 (va_A (WP cy q u) sz) = Q
  have hF : CallFix p m c cX2_isThere 2 s args aX2_isThere RX2 := ⟨hx, hb, hml, hown, hts⟩
  have hta : ∀ w ∈ pw_all, w.before args s = true := fun w h => hts w (List.mem_cons_of_mem _ h)
  have hin : ∀ w ∈ wsX20, w ∈ aX2_isThere := fun w h => List.mem_cons_of_mem _ (inA2 w h)
  unfold fX2_isThere at h
  refine lv_aload_n hx hb dX2_isThere_0 rfl (lv_at hl 0 rfl) ?_
  refine va_get (D := D) (ci := 2) (v := .ref (q 8)) (C := RX2) (T := TX2) (N := 16) hx hb hts hin hown hK hP 0 rfl rfl 8 (by decide) (hta _ aw_42) (fun _ h9 => h9) rfl dX2_isThere_1 ?_
  refine lv_iload_n hx hb dX2_isThere_4 rfl (lv_at hl 1 rfl) ?_
  obtain ⟨hg, h⟩ := pq_g h
  refine va_zald hx hb hK hP 8 1 rfl rfl (pq_vp hg) dX2_isThere_5 ?_
  refine lv_if_ne (tgt := 13) hx hb dX2_isThere_6 (by decide) (fun c1_ => ?_) (fun c1_ => ?_)
  · have h := pq_e c1_ h
    refine lv_iconst (v := 0) hx hb dX2_isThere_13 (by decide) ?_
    obtain rfl := Option.some.inj h
    subst hQ
    exact pw_rz hx hb hr rfl hlk hAe hP hS rfl dX2_isThere_14
  · have h := pq_t c1_ h
    refine lv_iconst (v := 1) hx hb dX2_isThere_9 (by decide) ?_
    refine lv_goto (tgt := 14) hx hb dX2_isThere_10 (by decide) ?_
    obtain rfl := Option.some.inj h
    subst hQ
    exact pw_rz hx hb hr rfl hlk hAe hP hS rfl dX2_isThere_14

def aX2_mayHaveOneMore : List Cond := Cond.code yX2_mayHaveOneMore cX2_mayHaveOneMore 2 (some .boolean) :: pw_all
theorem pX2_mayHaveOneMore : yX2_mayHaveOneMore.cls = RX2 ∧ yX2_mayHaveOneMore.cls ≠ "java/lang/invoke/MethodHandle" ∧ yX2_mayHaveOneMore.cls ≠ "java/lang/invoke/VarHandle" ∧ (parseMethodDescriptor yX2_mayHaveOneMore.desc).map (fun d => d.parameters.length) = some 1 := by decide +kernel
set_option maxHeartbeats 8000000 in
set_option maxRecDepth 100000 in
theorem kX2_mayHaveOneMore (l : Launch) (D : va_G) (cy : Nat → ClassId) (q : Nat → Nat) (sz : Nat) (u : Nat → Nat → Int32) (x1 : Int32) (o : Int32) (h : fX2_mayHaveOneMore x1 u = some o) : Met l yX2_mayHaveOneMore aX2_mayHaveOneMore ({ frames := 1, cells := 0, slots := 0, locals := 23 }) (pw_Pre D cy [.ref (q 0), .int x1] (WP cy q u) sz) (pw_I D o (WP cy q u) (WP cy q u) sz) 0 0 (va_A (WP cy q u) sz) := by
  refine pw_met (cc := cX2_mayHaveOneMore) (maxL := 2) (ret := (some .boolean)) (by decide) rfl (Nat.le_of_ble_eq_true rfl) ?_
  intro p e s m args below meth c ls A hx hb hr hml hlk hts hown hAe hA hK hP hD hS hl
  have hl : lv_has ls 2 [(0, .ref (q 0)), (1, .int x1)] := hl
  generalize hQ : MQ below (pw_I D o (WP cy q u) (WP cy q u) sz) args s 0 0 (va_A (WP cy q u) sz) = Q
  have hF : CallFix p m c cX2_mayHaveOneMore 2 s args aX2_mayHaveOneMore RX2 := ⟨hx, hb, hml, hown, hts⟩
  have hta : ∀ w ∈ pw_all, w.before args s = true := fun w h => hts w (List.mem_cons_of_mem _ h)
  have hin : ∀ w ∈ wsX20, w ∈ aX2_mayHaveOneMore := fun w h => List.mem_cons_of_mem _ (inA2 w h)
  unfold fX2_mayHaveOneMore at h
  refine lv_aload_n hx hb dX2_mayHaveOneMore_0 rfl (lv_at hl 0 rfl) ?_
  refine lv_iload_n hx hb dX2_mayHaveOneMore_1 rfl (lv_at hl 1 rfl) ?_
  obtain ⟨r1, hr1, h⟩ := pq_b h
  refine pw_ci (w1 := WP cy q u) (rest := []) (As := [.int x1]) hF (kX2_lentCount l D cy q _ u x1 r1 hr1) (cwV 1 hts (pw_gV (own := RX2) (idx := 75) (C := RX2) (y := yX2_lentCount) aw_273 aw_274 aw_275 aw_2 aw_276) rfl rfl rfl pX2_lentCount ⟨Nat.le_of_ble_eq_true rfl, Nat.le_of_ble_eq_true rfl⟩) (va_recv hK hP (ci := 2) (q0 := 0) rfl rfl) hK hP hD hS hA rfl rfl hl.1 rfl (Nat.le_of_ble_eq_true rfl) dX2_mayHaveOneMore_2 ⟨Nat.zero_le _, Nat.zero_le _⟩ (fun H locs hP hD hS => ?_)
  refine lv_aload_n hx hb dX2_mayHaveOneMore_5 rfl (lv_at hl 0 rfl) ?_
  refine va_get (D := D) (ci := 2) (v := .ref (q 1)) (C := RX2) (T := TX2) (N := 16) hx hb hts hin hown hK hP 0 rfl rfl 1 (by decide) (hta _ aw_33) (fun _ h9 => h9) rfl dX2_mayHaveOneMore_6 ?_
  refine lv_iconst (v := 1) hx hb dX2_mayHaveOneMore_9 (by decide) ?_
  refine va_iald hx hb hK hP 1 0 rfl rfl (pq_vp (by decide +kernel)) dX2_mayHaveOneMore_10 ?_
  refine lv_icmp_ge (tgt := 18) hx hb dX2_mayHaveOneMore_11 (by decide) (fun c1_ => ?_) (fun c1_ => ?_)
  · have h := pq_t c1_ h
    refine lv_iconst (v := 0) hx hb dX2_mayHaveOneMore_18 (by decide) ?_
    obtain rfl := Option.some.inj h
    subst hQ
    exact pw_rz hx hb hr rfl hlk hAe hP hS rfl dX2_mayHaveOneMore_19
  · have h := pq_e c1_ h
    refine lv_iconst (v := 1) hx hb dX2_mayHaveOneMore_14 (by decide) ?_
    refine lv_goto (tgt := 19) hx hb dX2_mayHaveOneMore_15 (by decide) ?_
    obtain rfl := Option.some.inj h
    subst hQ
    exact pw_rz hx hb hr rfl hlk hAe hP hS rfl dX2_mayHaveOneMore_19

def aX2_turnOf : List Cond := Cond.code yX2_turnOf cX2_turnOf 3 (some .int) :: pw_all
theorem pX2_turnOf : yX2_turnOf.cls = RX2 ∧ yX2_turnOf.cls ≠ "java/lang/invoke/MethodHandle" ∧ yX2_turnOf.cls ≠ "java/lang/invoke/VarHandle" ∧ (parseMethodDescriptor yX2_turnOf.desc).map (fun d => d.parameters.length) = some 1 := by decide +kernel
set_option maxHeartbeats 8000000 in
set_option maxRecDepth 100000 in
theorem kX2_turnOf (l : Launch) (D : va_G) (cy : Nat → ClassId) (q : Nat → Nat) (sz : Nat) (u : Nat → Nat → Int32) (x1 : Int32) (o : Int32) (h : fX2_turnOf x1 u = some o) : Met l yX2_turnOf aX2_turnOf ({ frames := 0, cells := 0, slots := 0, locals := 0 }) (pw_Pre D cy [.ref (q 0), .int x1] (WP cy q u) sz) (pw_I D o (WP cy q u) (WP cy q u) sz) 0 0 (va_A (WP cy q u) sz) := by
  refine pw_met (cc := cX2_turnOf) (maxL := 3) (ret := (some .int)) (by decide) rfl (Nat.le_of_ble_eq_true rfl) ?_
  intro p e s m args below meth c ls A hx hb hr hml hlk hts hown hAe hA hK hP hD hS hl
  have hl : lv_has ls 3 [(0, .ref (q 0)), (1, .int x1)] := hl
  generalize hQ : MQ below (pw_I D o (WP cy q u) (WP cy q u) sz) args s 0 0 (va_A (WP cy q u) sz) = Q
  have hF : CallFix p m c cX2_turnOf 3 s args aX2_turnOf RX2 := ⟨hx, hb, hml, hown, hts⟩
  have hta : ∀ w ∈ pw_all, w.before args s = true := fun w h => hts w (List.mem_cons_of_mem _ h)
  have hin : ∀ w ∈ wsX20, w ∈ aX2_turnOf := fun w h => List.mem_cons_of_mem _ (inA2 w h)
  unfold fX2_turnOf at h
  refine lv_iconst (v := 0) hx hb dX2_turnOf_0 (by decide) ?_
  refine lv_istore_n (lv' := [(2, .int 0), (0, .ref (q 0)), (1, .int x1)]) hx hb dX2_turnOf_1 rfl hl (by decide) rfl (fun ls hl => ?_)
  have L2_n1 : ∀ (n : Nat) (x2_2 : Int32) (H : Heap) (locs : List Loc) (ls : Array Slot), fX2_turnOf_L2 x1 u n x2_2 = some o → va_P D vwCl (WP cy q u) H → va_D A (WP cy q u) → va_S A s.heap H locs → lv_has ls 3 [(0, .ref (q 0)), (1, .int x1), (2, .int x2_2)] → W p l e ({ frames := 0, cells := 0, slots := 0, locals := 0 } : Room) s m args below meth c H locs 0 0 Q (F0 m 2 ls []) := by
    intro n
    induction n with
    | zero =>
      intro x2_2 H locs ls h hP hD hS hl
      exact pq_n h
    | succ n ih2 =>
      intro x2_2 H locs ls h hP hD hS hl
      rw [fX2_turnOf_L2] at h
      refine lv_iload_n hx hb dX2_turnOf_2 rfl (lv_at hl 2 rfl) ?_
      refine lv_aload_n hx hb dX2_turnOf_3 rfl (lv_at hl 0 rfl) ?_
      refine va_get (D := D) (ci := 2) (v := .int (u 14 0)) (C := RX2) (T := TX2) (N := 16) hx hb hts hin hown hK hP 0 rfl rfl 14 (by decide) (hta _ aw_49) (fun _ h9 => h9) rfl dX2_turnOf_4 ?_
      refine lv_icmp_ge (tgt := 28) hx hb dX2_turnOf_7 (by decide) (fun c1_ => ?_) (fun c1_ => ?_)
      · have h := pq_t c1_ h
        refine lv_iconst (v := (-1)) hx hb dX2_turnOf_28 (by decide) ?_
        obtain rfl := Option.some.inj h
        subst hQ
        exact pw_ri hx hb hr hlk hAe hP hS rfl dX2_turnOf_29
      · have h := pq_e c1_ h
        refine lv_aload_n hx hb dX2_turnOf_10 rfl (lv_at hl 0 rfl) ?_
        refine va_get (D := D) (ci := 2) (v := .ref (q 13)) (C := RX2) (T := TX2) (N := 16) hx hb hts hin hown hK hP 0 rfl rfl 13 (by decide) (hta _ aw_48) (fun _ h9 => h9) rfl dX2_turnOf_11 ?_
        refine lv_iload_n hx hb dX2_turnOf_14 rfl (lv_at hl 2 rfl) ?_
        obtain ⟨hg, h⟩ := pq_g h
        refine va_iald hx hb hK hP 13 0 rfl rfl (pq_vp hg) dX2_turnOf_15 ?_
        refine lv_iload_n hx hb dX2_turnOf_16 rfl (lv_at hl 1 rfl) ?_
        refine lv_icmp_ne (tgt := 22) hx hb dX2_turnOf_17 (by decide) (fun c2_ => ?_) (fun c2_ => ?_)
        · have h := pq_e c2_ h
          refine lv_iinc (v := x2_2 + 1) (lv' := [(2, .int (x2_2 + 1)), (0, .ref (q 0)), (1, .int x1)]) hx hb dX2_turnOf_22 hl (k := 2) rfl (by first | rfl | decide) (by decide) rfl (fun ls hl => ?_)
          refine lv_goto (tgt := 2) hx hb dX2_turnOf_25 (by decide) ?_
          exact ih2 (x2_2 + 1) _ _ _ h hP hD hS (lv_sub hl [1, 2, 0] rfl)
        · have h := pq_t c2_ h
          refine lv_iload_n hx hb dX2_turnOf_20 rfl (lv_at hl 2 rfl) ?_
          obtain rfl := Option.some.inj h
          subst hQ
          exact pw_ri hx hb hr hlk hAe hP hS rfl dX2_turnOf_21
  exact L2_n1 1000 0 _ _ _ h hP hD hS (lv_sub hl [1, 2, 0] rfl)

def aX2_waitOf : List Cond := Cond.code yX2_waitOf cX2_waitOf 2 (some .int) :: pw_all
theorem pX2_waitOf : yX2_waitOf.cls = RX2 ∧ yX2_waitOf.cls ≠ "java/lang/invoke/MethodHandle" ∧ yX2_waitOf.cls ≠ "java/lang/invoke/VarHandle" ∧ (parseMethodDescriptor yX2_waitOf.desc).map (fun d => d.parameters.length) = some 1 := by decide +kernel
set_option maxHeartbeats 8000000 in
set_option maxRecDepth 100000 in
theorem kX2_waitOf (l : Launch) (D : va_G) (cy : Nat → ClassId) (q : Nat → Nat) (sz : Nat) (u : Nat → Nat → Int32) (x1 : Int32) (o : Int32) (h : fX2_waitOf x1 u = some o) : Met l yX2_waitOf aX2_waitOf ({ frames := 1, cells := 0, slots := 0, locals := 22 }) (pw_Pre D cy [.ref (q 0), .int x1] (WP cy q u) sz) (pw_I D o (WP cy q u) (WP cy q u) sz) 0 0 (va_A (WP cy q u) sz) := by
  refine pw_met (cc := cX2_waitOf) (maxL := 2) (ret := (some .int)) (by decide) rfl (Nat.le_of_ble_eq_true rfl) ?_
  intro p e s m args below meth c ls A hx hb hr hml hlk hts hown hAe hA hK hP hD hS hl
  have hl : lv_has ls 2 [(0, .ref (q 0)), (1, .int x1)] := hl
  generalize hQ : MQ below (pw_I D o (WP cy q u) (WP cy q u) sz) args s 0 0 (va_A (WP cy q u) sz) = Q
  have hF : CallFix p m c cX2_waitOf 2 s args aX2_waitOf RX2 := ⟨hx, hb, hml, hown, hts⟩
  have hta : ∀ w ∈ pw_all, w.before args s = true := fun w h => hts w (List.mem_cons_of_mem _ h)
  have hin : ∀ w ∈ wsX20, w ∈ aX2_waitOf := fun w h => List.mem_cons_of_mem _ (inA2 w h)
  unfold fX2_waitOf at h
  refine lv_aload_n hx hb dX2_waitOf_0 rfl (lv_at hl 0 rfl) ?_
  refine lv_iload_n hx hb dX2_waitOf_1 rfl (lv_at hl 1 rfl) ?_
  obtain ⟨r1, hr1, h⟩ := pq_b h
  refine pw_ci (w1 := WP cy q u) (rest := []) (As := [.int x1]) hF (kX2_turnOf l D cy q _ u x1 r1 hr1) (cwV 1 hts (pw_gV (own := RX2) (idx := 78) (C := RX2) (y := yX2_turnOf) aw_252 aw_218 aw_219 aw_2 aw_220) rfl rfl rfl pX2_turnOf ⟨Nat.le_of_ble_eq_true rfl, Nat.le_of_ble_eq_true rfl⟩) (va_recv hK hP (ci := 2) (q0 := 0) rfl rfl) hK hP hD hS hA rfl rfl hl.1 rfl (Nat.le_of_ble_eq_true rfl) dX2_waitOf_2 ⟨Nat.zero_le _, Nat.zero_le _⟩ (fun H locs hP hD hS => ?_)
  refine lv_iconst (v := (-1)) hx hb dX2_waitOf_5 (by decide) ?_
  refine lv_icmp_ne (tgt := 13) hx hb dX2_waitOf_6 (by decide) (fun c1_ => ?_) (fun c1_ => ?_)
  · have h := pq_e c1_ h
    refine lv_aload_n hx hb dX2_waitOf_13 rfl (lv_at hl 0 rfl) ?_
    refine va_get (D := D) (ci := 2) (v := .int (u 0 0)) (C := RX2) (T := TX2) (N := 16) hx hb hts hin hown hK hP 0 rfl rfl 0 (by decide) (hta _ aw_32) (fun _ h9 => h9) rfl dX2_waitOf_14 ?_
    refine lv_aload_n hx hb dX2_waitOf_17 rfl (lv_at hl 0 rfl) ?_
    refine va_get (D := D) (ci := 2) (v := .ref (q 12)) (C := RX2) (T := TX2) (N := 16) hx hb hts hin hown hK hP 0 rfl rfl 12 (by decide) (hta _ aw_47) (fun _ h9 => h9) rfl dX2_waitOf_18 ?_
    refine lv_iload_n hx hb dX2_waitOf_21 rfl (lv_at hl 1 rfl) ?_
    obtain ⟨hg, h⟩ := pq_g h
    refine va_iald hx hb hK hP 12 0 rfl rfl (pq_vp hg) dX2_waitOf_22 ?_
    refine lv_isub hx hb dX2_waitOf_23 ?_
    obtain rfl := Option.some.inj h
    subst hQ
    exact pw_ri hx hb hr hlk hAe hP hS rfl dX2_waitOf_24
  · have h := pq_t c1_ h
    refine lv_iconst (v := 0) hx hb dX2_waitOf_9 (by decide) ?_
    refine lv_goto (tgt := 24) hx hb dX2_waitOf_10 (by decide) ?_
    obtain rfl := Option.some.inj h
    subst hQ
    exact pw_ri hx hb hr hlk hAe hP hS rfl dX2_waitOf_24

def aX2_placeProperty : List Cond := Cond.code yX2_placeProperty cX2_placeProperty 3 (some .int) :: pw_all
theorem pX2_placeProperty : yX2_placeProperty.cls = RX2 ∧ yX2_placeProperty.cls ≠ "java/lang/invoke/MethodHandle" ∧ yX2_placeProperty.cls ≠ "java/lang/invoke/VarHandle" ∧ (parseMethodDescriptor yX2_placeProperty.desc).map (fun d => d.parameters.length) = some 2 := by decide +kernel
set_option maxHeartbeats 8000000 in
set_option maxRecDepth 100000 in
theorem kX2_placeProperty (l : Launch) (D : va_G) (cy : Nat → ClassId) (q : Nat → Nat) (sz : Nat) (u : Nat → Nat → Int32) (x1 : Int32) (x2 : Int32) (o : Int32) (h : fX2_placeProperty x1 x2 u = some o) : Met l yX2_placeProperty aX2_placeProperty ({ frames := 1, cells := 0, slots := 0, locals := 21 }) (pw_Pre D cy [.ref (q 0), .int x1, .int x2] (WP cy q u) sz) (pw_I D o (WP cy q u) (WP cy q u) sz) 0 0 (va_A (WP cy q u) sz) := by
  refine pw_met (cc := cX2_placeProperty) (maxL := 3) (ret := (some .int)) (by decide) rfl (Nat.le_of_ble_eq_true rfl) ?_
  intro p e s m args below meth c ls A hx hb hr hml hlk hts hown hAe hA hK hP hD hS hl
  have hl : lv_has ls 3 [(0, .ref (q 0)), (1, .int x1), (2, .int x2)] := hl
  generalize hQ : MQ below (pw_I D o (WP cy q u) (WP cy q u) sz) args s 0 0 (va_A (WP cy q u) sz) = Q
  have hF : CallFix p m c cX2_placeProperty 3 s args aX2_placeProperty RX2 := ⟨hx, hb, hml, hown, hts⟩
  have hta : ∀ w ∈ pw_all, w.before args s = true := fun w h => hts w (List.mem_cons_of_mem _ h)
  have hin : ∀ w ∈ wsX20, w ∈ aX2_placeProperty := fun w h => List.mem_cons_of_mem _ (inA2 w h)
  unfold fX2_placeProperty at h
  refine lv_iload_n hx hb dX2_placeProperty_0 rfl (lv_at hl 2 rfl) ?_
  by_cases c1_ : x2 = 0
  · have h := pq_t c1_ h
    refine lv_tableIn (off := 35) (tgt := 36) hx hb dX2_placeProperty_1 (by rw [c1_]; decide) (by rw [c1_]; decide) (by rw [c1_]; decide) (by decide) ?_
    refine lv_aload_n hx hb dX2_placeProperty_36 rfl (lv_at hl 0 rfl) ?_
    refine va_get (D := D) (ci := 2) (v := .ref (q 2)) (C := RX2) (T := TX2) (N := 16) hx hb hts hin hown hK hP 0 rfl rfl 2 (by decide) (hta _ aw_35) (fun _ h9 => h9) rfl dX2_placeProperty_37 ?_
    refine lv_iload_n hx hb dX2_placeProperty_40 rfl (lv_at hl 1 rfl) ?_
    obtain ⟨hg, h⟩ := pq_g h
    refine va_iald hx hb hK hP 2 0 rfl rfl (pq_vp hg) dX2_placeProperty_41 ?_
    obtain rfl := Option.some.inj h
    subst hQ
    exact pw_ri hx hb hr hlk hAe hP hS rfl dX2_placeProperty_42
  · have h := pq_e c1_ h
    by_cases c2_ : x2 = 1
    · have h := pq_t c2_ h
      refine lv_tableIn (off := 42) (tgt := 43) hx hb dX2_placeProperty_1 (by rw [c2_]; decide) (by rw [c2_]; decide) (by rw [c2_]; decide) (by decide) ?_
      refine lv_aload_n hx hb dX2_placeProperty_43 rfl (lv_at hl 0 rfl) ?_
      refine lv_iload_n hx hb dX2_placeProperty_44 rfl (lv_at hl 1 rfl) ?_
      obtain ⟨r1, hr1, h⟩ := pq_b h
      refine pw_ci (w1 := WP cy q u) (rest := []) (As := [.int x1]) hF (kX2_borrower l D cy q _ u x1 r1 hr1) (cwV 1 hts (pw_gV (own := RX2) (idx := 81) (C := RX2) (y := yX2_borrower) aw_406 aw_407 aw_408 aw_2 aw_409) rfl rfl rfl pX2_borrower ⟨Nat.le_of_ble_eq_true rfl, Nat.le_of_ble_eq_true rfl⟩) (va_recv hK hP (ci := 2) (q0 := 0) rfl rfl) hK hP hD hS hA rfl rfl hl.1 rfl (Nat.le_of_ble_eq_true rfl) dX2_placeProperty_45 ⟨Nat.zero_le _, Nat.zero_le _⟩ (fun H locs hP hD hS => ?_)
      obtain rfl := Option.some.inj h
      subst hQ
      exact pw_ri hx hb hr hlk hAe hP hS rfl dX2_placeProperty_48
    · have h := pq_e c2_ h
      by_cases c3_ : x2 = 2
      · have h := pq_t c3_ h
        refine lv_tableIn (off := 48) (tgt := 49) hx hb dX2_placeProperty_1 (by rw [c3_]; decide) (by rw [c3_]; decide) (by rw [c3_]; decide) (by decide) ?_
        refine lv_aload_n hx hb dX2_placeProperty_49 rfl (lv_at hl 0 rfl) ?_
        refine va_get (D := D) (ci := 2) (v := .ref (q 4)) (C := RX2) (T := TX2) (N := 16) hx hb hts hin hown hK hP 0 rfl rfl 4 (by decide) (hta _ aw_37) (fun _ h9 => h9) rfl dX2_placeProperty_50 ?_
        refine lv_iload_n hx hb dX2_placeProperty_53 rfl (lv_at hl 1 rfl) ?_
        obtain ⟨hg, h⟩ := pq_g h
        refine va_zald hx hb hK hP 4 1 rfl rfl (pq_vp hg) dX2_placeProperty_54 ?_
        refine lv_if_eq (tgt := 62) hx hb dX2_placeProperty_55 (by decide) (fun c4_ => ?_) (fun c4_ => ?_)
        · have h := pq_t c4_ h
          refine lv_iconst (v := 0) hx hb dX2_placeProperty_62 (by decide) ?_
          obtain rfl := Option.some.inj h
          subst hQ
          exact pw_ri hx hb hr hlk hAe hP hS rfl dX2_placeProperty_63
        · have h := pq_e c4_ h
          refine lv_iconst (v := 1) hx hb dX2_placeProperty_58 (by decide) ?_
          refine lv_goto (tgt := 63) hx hb dX2_placeProperty_59 (by decide) ?_
          obtain rfl := Option.some.inj h
          subst hQ
          exact pw_ri hx hb hr hlk hAe hP hS rfl dX2_placeProperty_63
      · have h := pq_e c3_ h
        by_cases c5_ : x2 = 3
        · have h := pq_t c5_ h
          refine lv_tableIn (off := 63) (tgt := 64) hx hb dX2_placeProperty_1 (by rw [c5_]; decide) (by rw [c5_]; decide) (by rw [c5_]; decide) (by decide) ?_
          refine lv_aload_n hx hb dX2_placeProperty_64 rfl (lv_at hl 0 rfl) ?_
          refine va_get (D := D) (ci := 2) (v := .ref (q 5)) (C := RX2) (T := TX2) (N := 16) hx hb hts hin hown hK hP 0 rfl rfl 5 (by decide) (hta _ aw_38) (fun _ h9 => h9) rfl dX2_placeProperty_65 ?_
          refine lv_iload_n hx hb dX2_placeProperty_68 rfl (lv_at hl 1 rfl) ?_
          obtain ⟨hg, h⟩ := pq_g h
          refine va_iald hx hb hK hP 5 0 rfl rfl (pq_vp hg) dX2_placeProperty_69 ?_
          obtain rfl := Option.some.inj h
          subst hQ
          exact pw_ri hx hb hr hlk hAe hP hS rfl dX2_placeProperty_70
        · have h := pq_e c5_ h
          by_cases c6_ : x2 = 4
          · have h := pq_t c6_ h
            refine lv_tableIn (off := 70) (tgt := 71) hx hb dX2_placeProperty_1 (by rw [c6_]; decide) (by rw [c6_]; decide) (by rw [c6_]; decide) (by decide) ?_
            refine lv_aload_n hx hb dX2_placeProperty_71 rfl (lv_at hl 0 rfl) ?_
            refine lv_iload_n hx hb dX2_placeProperty_72 rfl (lv_at hl 1 rfl) ?_
            obtain ⟨r2, hr2, h⟩ := pq_b h
            refine pw_ci (w1 := WP cy q u) (rest := []) (As := [.int x1]) hF (kX2_isEmpty l D cy q _ u x1 r2 hr2) (cwV 1 hts (pw_gV (own := RX2) (idx := 84) (C := RX2) (y := yX2_isEmpty) aw_309 aw_310 aw_311 aw_2 aw_312) rfl rfl rfl pX2_isEmpty ⟨Nat.le_of_ble_eq_true rfl, Nat.le_of_ble_eq_true rfl⟩) (va_recv hK hP (ci := 2) (q0 := 0) rfl rfl) hK hP hD hS hA rfl rfl hl.1 rfl (Nat.le_of_ble_eq_true rfl) dX2_placeProperty_73 ⟨Nat.zero_le _, Nat.zero_le _⟩ (fun H locs hP hD hS => ?_)
            refine lv_if_eq (tgt := 83) hx hb dX2_placeProperty_76 (by decide) (fun c7_ => ?_) (fun c7_ => ?_)
            · have h := pq_t c7_ h
              refine lv_aload_n hx hb dX2_placeProperty_83 rfl (lv_at hl 0 rfl) ?_
              refine va_get (D := D) (ci := 2) (v := .int (u 0 0)) (C := RX2) (T := TX2) (N := 16) hx hb hts hin hown hK hP 0 rfl rfl 0 (by decide) (hta _ aw_32) (fun _ h9 => h9) rfl dX2_placeProperty_84 ?_
              refine lv_aload_n hx hb dX2_placeProperty_87 rfl (lv_at hl 0 rfl) ?_
              refine va_get (D := D) (ci := 2) (v := .ref (q 6)) (C := RX2) (T := TX2) (N := 16) hx hb hts hin hown hK hP 0 rfl rfl 6 (by decide) (hta _ aw_39) (fun _ h9 => h9) rfl dX2_placeProperty_88 ?_
              refine lv_iload_n hx hb dX2_placeProperty_91 rfl (lv_at hl 1 rfl) ?_
              obtain ⟨hg, h⟩ := pq_g h
              refine va_iald hx hb hK hP 6 0 rfl rfl (pq_vp hg) dX2_placeProperty_92 ?_
              refine lv_isub hx hb dX2_placeProperty_93 ?_
              obtain rfl := Option.some.inj h
              subst hQ
              exact pw_ri hx hb hr hlk hAe hP hS rfl dX2_placeProperty_94
            · have h := pq_e c7_ h
              refine lv_iconst (v := 0) hx hb dX2_placeProperty_79 (by decide) ?_
              refine lv_goto (tgt := 94) hx hb dX2_placeProperty_80 (by decide) ?_
              obtain rfl := Option.some.inj h
              subst hQ
              exact pw_ri hx hb hr hlk hAe hP hS rfl dX2_placeProperty_94
          · have h := pq_e c6_ h
            refine lv_tableOut (tgt := 95) hx hb dX2_placeProperty_1 (pq_out 5 rfl (by decide) (fun k hk => match k, hk with | 0, _ => c1_ | 1, _ => c2_ | 2, _ => c3_ | 3, _ => c5_ | 4, _ => c6_ | k + 5, hk => absurd hk (by omega))) (by decide) ?_
            refine lv_aload_n hx hb dX2_placeProperty_95 rfl (lv_at hl 0 rfl) ?_
            refine va_get (D := D) (ci := 2) (v := .ref (q 7)) (C := RX2) (T := TX2) (N := 16) hx hb hts hin hown hK hP 0 rfl rfl 7 (by decide) (hta _ aw_40) (fun _ h9 => h9) rfl dX2_placeProperty_96 ?_
            refine lv_iload_n hx hb dX2_placeProperty_99 rfl (lv_at hl 1 rfl) ?_
            obtain ⟨hg, h⟩ := pq_g h
            refine va_iald hx hb hK hP 7 0 rfl rfl (pq_vp hg) dX2_placeProperty_100 ?_
            obtain rfl := Option.some.inj h
            subst hQ
            exact pw_ri hx hb hr hlk hAe hP hS rfl dX2_placeProperty_101

def aX2_ownerProperty : List Cond := Cond.code yX2_ownerProperty cX2_ownerProperty 3 (some .int) :: pw_all
theorem pX2_ownerProperty : yX2_ownerProperty.cls = RX2 ∧ yX2_ownerProperty.cls ≠ "java/lang/invoke/MethodHandle" ∧ yX2_ownerProperty.cls ≠ "java/lang/invoke/VarHandle" ∧ (parseMethodDescriptor yX2_ownerProperty.desc).map (fun d => d.parameters.length) = some 2 := by decide +kernel
set_option maxHeartbeats 8000000 in
set_option maxRecDepth 100000 in
theorem kX2_ownerProperty (l : Launch) (D : va_G) (cy : Nat → ClassId) (q : Nat → Nat) (sz : Nat) (u : Nat → Nat → Int32) (x1 : Int32) (x2 : Int32) (o : Int32) (h : fX2_ownerProperty x1 x2 u = some o) : Met l yX2_ownerProperty aX2_ownerProperty ({ frames := 2, cells := 0, slots := 0, locals := 43 }) (pw_Pre D cy [.ref (q 0), .int x1, .int x2] (WP cy q u) sz) (pw_I D o (WP cy q u) (WP cy q u) sz) 0 0 (va_A (WP cy q u) sz) := by
  refine pw_met (cc := cX2_ownerProperty) (maxL := 3) (ret := (some .int)) (by decide) rfl (Nat.le_of_ble_eq_true rfl) ?_
  intro p e s m args below meth c ls A hx hb hr hml hlk hts hown hAe hA hK hP hD hS hl
  have hl : lv_has ls 3 [(0, .ref (q 0)), (1, .int x1), (2, .int x2)] := hl
  generalize hQ : MQ below (pw_I D o (WP cy q u) (WP cy q u) sz) args s 0 0 (va_A (WP cy q u) sz) = Q
  have hF : CallFix p m c cX2_ownerProperty 3 s args aX2_ownerProperty RX2 := ⟨hx, hb, hml, hown, hts⟩
  have hta : ∀ w ∈ pw_all, w.before args s = true := fun w h => hts w (List.mem_cons_of_mem _ h)
  have hin : ∀ w ∈ wsX20, w ∈ aX2_ownerProperty := fun w h => List.mem_cons_of_mem _ (inA2 w h)
  unfold fX2_ownerProperty at h
  refine lv_iload_n hx hb dX2_ownerProperty_0 rfl (lv_at hl 2 rfl) ?_
  by_cases c1_ : x2 = 0
  · have h := pq_t c1_ h
    refine lv_tableIn (off := 39) (tgt := 40) hx hb dX2_ownerProperty_1 (by rw [c1_]; decide) (by rw [c1_]; decide) (by rw [c1_]; decide) (by decide) ?_
    refine lv_aload_n hx hb dX2_ownerProperty_40 rfl (lv_at hl 0 rfl) ?_
    refine lv_iload_n hx hb dX2_ownerProperty_41 rfl (lv_at hl 1 rfl) ?_
    obtain ⟨r1, hr1, h⟩ := pq_b h
    refine pw_ci (w1 := WP cy q u) (rest := []) (As := [.int x1]) hF (kX2_isThere l D cy q _ u x1 r1 hr1) (cwV 1 hts (pw_gV (own := RX2) (idx := 88) (C := RX2) (y := yX2_isThere) aw_418 aw_322 aw_323 aw_2 aw_324) rfl rfl rfl pX2_isThere ⟨Nat.le_of_ble_eq_true rfl, Nat.le_of_ble_eq_true rfl⟩) (va_recv hK hP (ci := 2) (q0 := 0) rfl rfl) hK hP hD hS hA rfl rfl hl.1 rfl (Nat.le_of_ble_eq_true rfl) dX2_ownerProperty_42 ⟨Nat.zero_le _, Nat.zero_le _⟩ (fun H locs hP hD hS => ?_)
    refine lv_if_eq (tgt := 52) hx hb dX2_ownerProperty_45 (by decide) (fun c2_ => ?_) (fun c2_ => ?_)
    · have h := pq_t c2_ h
      refine lv_iconst (v := 0) hx hb dX2_ownerProperty_52 (by decide) ?_
      obtain rfl := Option.some.inj h
      subst hQ
      exact pw_ri hx hb hr hlk hAe hP hS rfl dX2_ownerProperty_53
    · have h := pq_e c2_ h
      refine lv_iconst (v := 1) hx hb dX2_ownerProperty_48 (by decide) ?_
      refine lv_goto (tgt := 53) hx hb dX2_ownerProperty_49 (by decide) ?_
      obtain rfl := Option.some.inj h
      subst hQ
      exact pw_ri hx hb hr hlk hAe hP hS rfl dX2_ownerProperty_53
  · have h := pq_e c1_ h
    by_cases c3_ : x2 = 1
    · have h := pq_t c3_ h
      refine lv_tableIn (off := 53) (tgt := 54) hx hb dX2_ownerProperty_1 (by rw [c3_]; decide) (by rw [c3_]; decide) (by rw [c3_]; decide) (by decide) ?_
      refine lv_aload_n hx hb dX2_ownerProperty_54 rfl (lv_at hl 0 rfl) ?_
      refine lv_iload_n hx hb dX2_ownerProperty_55 rfl (lv_at hl 1 rfl) ?_
      obtain ⟨r2, hr2, h⟩ := pq_b h
      refine pw_ci (w1 := WP cy q u) (rest := []) (As := [.int x1]) hF (kX2_lentCount l D cy q _ u x1 r2 hr2) (cwV 1 hts (pw_gV (own := RX2) (idx := 75) (C := RX2) (y := yX2_lentCount) aw_273 aw_274 aw_275 aw_2 aw_276) rfl rfl rfl pX2_lentCount ⟨Nat.le_of_ble_eq_true rfl, Nat.le_of_ble_eq_true rfl⟩) (va_recv hK hP (ci := 2) (q0 := 0) rfl rfl) hK hP hD hS hA rfl rfl hl.1 rfl (Nat.le_of_ble_eq_true rfl) dX2_ownerProperty_56 ⟨Nat.zero_le _, Nat.zero_le _⟩ (fun H locs hP hD hS => ?_)
      obtain rfl := Option.some.inj h
      subst hQ
      exact pw_ri hx hb hr hlk hAe hP hS rfl dX2_ownerProperty_59
    · have h := pq_e c3_ h
      by_cases c4_ : x2 = 2
      · have h := pq_t c4_ h
        refine lv_tableIn (off := 59) (tgt := 60) hx hb dX2_ownerProperty_1 (by rw [c4_]; decide) (by rw [c4_]; decide) (by rw [c4_]; decide) (by decide) ?_
        refine lv_aload_n hx hb dX2_ownerProperty_60 rfl (lv_at hl 0 rfl) ?_
        refine lv_iload_n hx hb dX2_ownerProperty_61 rfl (lv_at hl 1 rfl) ?_
        obtain ⟨r3, hr3, h⟩ := pq_b h
        refine pw_ci (w1 := WP cy q u) (rest := []) (As := [.int x1]) hF (kX2_turnOf l D cy q _ u x1 r3 hr3) (cwV 1 hts (pw_gV (own := RX2) (idx := 78) (C := RX2) (y := yX2_turnOf) aw_252 aw_218 aw_219 aw_2 aw_220) rfl rfl rfl pX2_turnOf ⟨Nat.le_of_ble_eq_true rfl, Nat.le_of_ble_eq_true rfl⟩) (va_recv hK hP (ci := 2) (q0 := 0) rfl rfl) hK hP hD hS hA rfl rfl hl.1 rfl (Nat.le_of_ble_eq_true rfl) dX2_ownerProperty_62 ⟨Nat.zero_le _, Nat.zero_le _⟩ (fun H locs hP hD hS => ?_)
        obtain rfl := Option.some.inj h
        subst hQ
        exact pw_ri hx hb hr hlk hAe hP hS rfl dX2_ownerProperty_65
      · have h := pq_e c4_ h
        by_cases c5_ : x2 = 3
        · have h := pq_t c5_ h
          refine lv_tableIn (off := 65) (tgt := 66) hx hb dX2_ownerProperty_1 (by rw [c5_]; decide) (by rw [c5_]; decide) (by rw [c5_]; decide) (by decide) ?_
          refine lv_aload_n hx hb dX2_ownerProperty_66 rfl (lv_at hl 0 rfl) ?_
          refine lv_iload_n hx hb dX2_ownerProperty_67 rfl (lv_at hl 1 rfl) ?_
          obtain ⟨r4, hr4, h⟩ := pq_b h
          refine pw_ci (w1 := WP cy q u) (rest := []) (As := [.int x1]) hF (kX2_waitOf l D cy q _ u x1 r4 hr4) (cwV 1 hts (pw_gV (own := RX2) (idx := 91) (C := RX2) (y := yX2_waitOf) aw_419 aw_249 aw_250 aw_2 aw_251) rfl rfl rfl pX2_waitOf ⟨Nat.le_of_ble_eq_true rfl, Nat.le_of_ble_eq_true rfl⟩) (va_recv hK hP (ci := 2) (q0 := 0) rfl rfl) hK hP hD hS hA rfl rfl hl.1 rfl (Nat.le_of_ble_eq_true rfl) dX2_ownerProperty_68 ⟨Nat.zero_le _, Nat.zero_le _⟩ (fun H locs hP hD hS => ?_)
          obtain rfl := Option.some.inj h
          subst hQ
          exact pw_ri hx hb hr hlk hAe hP hS rfl dX2_ownerProperty_71
        · have h := pq_e c5_ h
          by_cases c6_ : x2 = 4
          · have h := pq_t c6_ h
            refine lv_tableIn (off := 71) (tgt := 72) hx hb dX2_ownerProperty_1 (by rw [c6_]; decide) (by rw [c6_]; decide) (by rw [c6_]; decide) (by decide) ?_
            refine lv_aload_n hx hb dX2_ownerProperty_72 rfl (lv_at hl 0 rfl) ?_
            refine va_get (D := D) (ci := 2) (v := .ref (q 9)) (C := RX2) (T := TX2) (N := 16) hx hb hts hin hown hK hP 0 rfl rfl 9 (by decide) (hta _ aw_43) (fun _ h9 => h9) rfl dX2_ownerProperty_73 ?_
            refine lv_iload_n hx hb dX2_ownerProperty_76 rfl (lv_at hl 1 rfl) ?_
            obtain ⟨hg, h⟩ := pq_g h
            refine va_iald hx hb hK hP 9 0 rfl rfl (pq_vp hg) dX2_ownerProperty_77 ?_
            obtain rfl := Option.some.inj h
            subst hQ
            exact pw_ri hx hb hr hlk hAe hP hS rfl dX2_ownerProperty_78
          · have h := pq_e c6_ h
            by_cases c7_ : x2 = 5
            · have h := pq_t c7_ h
              refine lv_tableIn (off := 78) (tgt := 79) hx hb dX2_ownerProperty_1 (by rw [c7_]; decide) (by rw [c7_]; decide) (by rw [c7_]; decide) (by decide) ?_
              refine lv_aload_n hx hb dX2_ownerProperty_79 rfl (lv_at hl 0 rfl) ?_
              refine va_get (D := D) (ci := 2) (v := .ref (q 10)) (C := RX2) (T := TX2) (N := 16) hx hb hts hin hown hK hP 0 rfl rfl 10 (by decide) (hta _ aw_45) (fun _ h9 => h9) rfl dX2_ownerProperty_80 ?_
              refine lv_iload_n hx hb dX2_ownerProperty_83 rfl (lv_at hl 1 rfl) ?_
              obtain ⟨hg, h⟩ := pq_g h
              refine va_iald hx hb hK hP 10 0 rfl rfl (pq_vp hg) dX2_ownerProperty_84 ?_
              obtain rfl := Option.some.inj h
              subst hQ
              exact pw_ri hx hb hr hlk hAe hP hS rfl dX2_ownerProperty_85
            · have h := pq_e c7_ h
              refine lv_tableOut (tgt := 86) hx hb dX2_ownerProperty_1 (pq_out 6 rfl (by decide) (fun k hk => match k, hk with | 0, _ => c1_ | 1, _ => c3_ | 2, _ => c4_ | 3, _ => c5_ | 4, _ => c6_ | 5, _ => c7_ | k + 6, hk => absurd hk (by omega))) (by decide) ?_
              refine lv_aload_n hx hb dX2_ownerProperty_86 rfl (lv_at hl 0 rfl) ?_
              refine va_get (D := D) (ci := 2) (v := .ref (q 11)) (C := RX2) (T := TX2) (N := 16) hx hb hts hin hown hK hP 0 rfl rfl 11 (by decide) (hta _ aw_46) (fun _ h9 => h9) rfl dX2_ownerProperty_87 ?_
              refine lv_iload_n hx hb dX2_ownerProperty_90 rfl (lv_at hl 1 rfl) ?_
              obtain ⟨hg, h⟩ := pq_g h
              refine va_iald hx hb hK hP 11 0 rfl rfl (pq_vp hg) dX2_ownerProperty_91 ?_
              obtain rfl := Option.some.inj h
              subst hQ
              exact pw_ri hx hb hr hlk hAe hP hS rfl dX2_ownerProperty_92

def aX2_number : List Cond := Cond.code yX2_number cX2_number 3 (some .int) :: pw_all
theorem pX2_number : yX2_number.cls = RX2 ∧ yX2_number.cls ≠ "java/lang/invoke/MethodHandle" ∧ yX2_number.cls ≠ "java/lang/invoke/VarHandle" ∧ (parseMethodDescriptor yX2_number.desc).map (fun d => d.parameters.length) = some 1 := by decide +kernel
set_option maxHeartbeats 8000000 in
set_option maxRecDepth 100000 in
theorem kX2_number (l : Launch) (D : va_G) (cy : Nat → ClassId) (q : Nat → Nat) (sz : Nat) (u : Nat → Nat → Int32) (x1 : Int32) (o : Int32) (h : fX2_number x1 u = some o) : Met l yX2_number aX2_number ({ frames := 2, cells := 0, slots := 0, locals := 43 }) (pw_Pre D cy [.ref (q 0), .int x1] (WP cy q u) sz) (pw_I D o (WP cy q u) (WP cy q u) sz) 0 0 (va_A (WP cy q u) sz) := by
  refine pw_met (cc := cX2_number) (maxL := 3) (ret := (some .int)) (by decide) rfl (Nat.le_of_ble_eq_true rfl) ?_
  intro p e s m args below meth c ls A hx hb hr hml hlk hts hown hAe hA hK hP hD hS hl
  have hl : lv_has ls 3 [(0, .ref (q 0)), (1, .int x1)] := hl
  generalize hQ : MQ below (pw_I D o (WP cy q u) (WP cy q u) sz) args s 0 0 (va_A (WP cy q u) sz) = Q
  have hF : CallFix p m c cX2_number 3 s args aX2_number RX2 := ⟨hx, hb, hml, hown, hts⟩
  have hta : ∀ w ∈ pw_all, w.before args s = true := fun w h => hts w (List.mem_cons_of_mem _ h)
  have hin : ∀ w ∈ wsX20, w ∈ aX2_number := fun w h => List.mem_cons_of_mem _ (inA2 w h)
  unfold fX2_number at h
  refine lv_iload_n hx hb dX2_number_0 rfl (lv_at hl 1 rfl) ?_
  by_cases c1_ : x1 = 0
  · have h := pq_t c1_ h
    refine lv_tableIn (off := 39) (tgt := 40) hx hb dX2_number_1 (by rw [c1_]; decide) (by rw [c1_]; decide) (by rw [c1_]; decide) (by decide) ?_
    refine lv_aload_n hx hb dX2_number_40 rfl (lv_at hl 0 rfl) ?_
    refine va_get (D := D) (ci := 2) (v := .int (u 0 0)) (C := RX2) (T := TX2) (N := 16) hx hb hts hin hown hK hP 0 rfl rfl 0 (by decide) (hta _ aw_32) (fun _ h9 => h9) rfl dX2_number_41 ?_
    obtain rfl := Option.some.inj h
    subst hQ
    exact pw_ri hx hb hr hlk hAe hP hS rfl dX2_number_44
  · have h := pq_e c1_ h
    by_cases c2_ : x1 = 1
    · have h := pq_t c2_ h
      refine lv_tableIn (off := 44) (tgt := 45) hx hb dX2_number_1 (by rw [c2_]; decide) (by rw [c2_]; decide) (by rw [c2_]; decide) (by decide) ?_
      refine lv_aload_n hx hb dX2_number_45 rfl (lv_at hl 0 rfl) ?_
      obtain ⟨r1, hr1, h⟩ := pq_b h
      refine pw_ci (w1 := WP cy q u) (rest := []) (As := []) hF (kX2_connections l D cy q _ u  r1 hr1) (cwV 0 hts (pw_gV (own := RX2) (idx := 94) (C := RX2) (y := yX2_connections) aw_297 aw_298 aw_299 aw_2 aw_300) rfl rfl rfl pX2_connections ⟨Nat.le_of_ble_eq_true rfl, Nat.le_of_ble_eq_true rfl⟩) (va_recv hK hP (ci := 2) (q0 := 0) rfl rfl) hK hP hD hS hA rfl rfl hl.1 rfl (Nat.le_of_ble_eq_true rfl) dX2_number_46 ⟨Nat.zero_le _, Nat.zero_le _⟩ (fun H locs hP hD hS => ?_)
      obtain rfl := Option.some.inj h
      subst hQ
      exact pw_ri hx hb hr hlk hAe hP hS rfl dX2_number_49
    · have h := pq_e c2_ h
      by_cases c3_ : x1 = 2
      · have h := pq_t c3_ h
        refine lv_tableIn (off := 49) (tgt := 50) hx hb dX2_number_1 (by rw [c3_]; decide) (by rw [c3_]; decide) (by rw [c3_]; decide) (by decide) ?_
        refine lv_aload_n hx hb dX2_number_50 rfl (lv_at hl 0 rfl) ?_
        refine lv_iconst (v := 1) hx hb dX2_number_51 (by decide) ?_
        obtain ⟨r2, hr2, h⟩ := pq_b h
        refine pw_ci (w1 := WP cy q u) (rest := []) (As := [.int 1]) hF (kX2_standingSo l D cy q _ u 1 r2 hr2) (cwV 1 hts (pw_gV (own := RX2) (idx := 71) (C := RX2) (y := yX2_standingSo) aw_301 aw_302 aw_303 aw_2 aw_304) rfl rfl rfl pX2_standingSo ⟨Nat.le_of_ble_eq_true rfl, Nat.le_of_ble_eq_true rfl⟩) (va_recv hK hP (ci := 2) (q0 := 0) rfl rfl) hK hP hD hS hA rfl rfl hl.1 rfl (Nat.le_of_ble_eq_true rfl) dX2_number_52 ⟨Nat.zero_le _, Nat.zero_le _⟩ (fun H locs hP hD hS => ?_)
        obtain rfl := Option.some.inj h
        subst hQ
        exact pw_ri hx hb hr hlk hAe hP hS rfl dX2_number_55
      · have h := pq_e c3_ h
        by_cases c4_ : x1 = 3
        · have h := pq_t c4_ h
          refine lv_tableIn (off := 55) (tgt := 56) hx hb dX2_number_1 (by rw [c4_]; decide) (by rw [c4_]; decide) (by rw [c4_]; decide) (by decide) ?_
          refine lv_aload_n hx hb dX2_number_56 rfl (lv_at hl 0 rfl) ?_
          refine lv_iconst (v := 2) hx hb dX2_number_57 (by decide) ?_
          obtain ⟨r3, hr3, h⟩ := pq_b h
          refine pw_ci (w1 := WP cy q u) (rest := []) (As := [.int 2]) hF (kX2_standingSo l D cy q _ u 2 r3 hr3) (cwV 1 hts (pw_gV (own := RX2) (idx := 71) (C := RX2) (y := yX2_standingSo) aw_301 aw_302 aw_303 aw_2 aw_304) rfl rfl rfl pX2_standingSo ⟨Nat.le_of_ble_eq_true rfl, Nat.le_of_ble_eq_true rfl⟩) (va_recv hK hP (ci := 2) (q0 := 0) rfl rfl) hK hP hD hS hA rfl rfl hl.1 rfl (Nat.le_of_ble_eq_true rfl) dX2_number_58 ⟨Nat.zero_le _, Nat.zero_le _⟩ (fun H locs hP hD hS => ?_)
          obtain rfl := Option.some.inj h
          subst hQ
          exact pw_ri hx hb hr hlk hAe hP hS rfl dX2_number_61
        · have h := pq_e c4_ h
          by_cases c5_ : x1 = 4
          · have h := pq_t c5_ h
            refine lv_tableIn (off := 61) (tgt := 62) hx hb dX2_number_1 (by rw [c5_]; decide) (by rw [c5_]; decide) (by rw [c5_]; decide) (by decide) ?_
            refine lv_aload_n hx hb dX2_number_62 rfl (lv_at hl 0 rfl) ?_
            obtain ⟨r4, hr4, h⟩ := pq_b h
            refine pw_ci (w1 := WP cy q u) (rest := []) (As := []) hF (kX2_sickCount l D cy q _ u  r4 hr4) (cwV 0 hts (pw_gV (own := RX2) (idx := 98) (C := RX2) (y := yX2_sickCount) aw_428 aw_429 aw_430 aw_2 aw_431) rfl rfl rfl pX2_sickCount ⟨Nat.le_of_ble_eq_true rfl, Nat.le_of_ble_eq_true rfl⟩) (va_recv hK hP (ci := 2) (q0 := 0) rfl rfl) hK hP hD hS hA rfl rfl hl.1 rfl (Nat.le_of_ble_eq_true rfl) dX2_number_63 ⟨Nat.zero_le _, Nat.zero_le _⟩ (fun H locs hP hD hS => ?_)
            obtain rfl := Option.some.inj h
            subst hQ
            exact pw_ri hx hb hr hlk hAe hP hS rfl dX2_number_66
          · have h := pq_e c5_ h
            by_cases c6_ : x1 = 5
            · have h := pq_t c6_ h
              refine lv_tableIn (off := 66) (tgt := 67) hx hb dX2_number_1 (by rw [c6_]; decide) (by rw [c6_]; decide) (by rw [c6_]; decide) (by decide) ?_
              refine lv_aload_n hx hb dX2_number_67 rfl (lv_at hl 0 rfl) ?_
              refine va_get (D := D) (ci := 2) (v := .int (u 14 0)) (C := RX2) (T := TX2) (N := 16) hx hb hts hin hown hK hP 0 rfl rfl 14 (by decide) (hta _ aw_49) (fun _ h9 => h9) rfl dX2_number_68 ?_
              obtain rfl := Option.some.inj h
              subst hQ
              exact pw_ri hx hb hr hlk hAe hP hS rfl dX2_number_71
            · have h := pq_e c6_ h
              refine lv_tableOut (tgt := 72) hx hb dX2_number_1 (pq_out 6 rfl (by decide) (fun k hk => match k, hk with | 0, _ => c1_ | 1, _ => c2_ | 2, _ => c3_ | 3, _ => c4_ | 4, _ => c5_ | 5, _ => c6_ | k + 6, hk => absurd hk (by omega))) (by decide) ?_
              refine lv_iload_n hx hb dX2_number_72 rfl (lv_at hl 1 rfl) ?_
              refine lv_bipush (v := 6) hx hb dX2_number_73 (by decide) ?_
              refine lv_isub hx hb dX2_number_75 ?_
              refine lv_istore_n (lv' := [(2, .int (x1 - 6)), (0, .ref (q 0)), (1, .int x1)]) hx hb dX2_number_76 rfl hl (by decide) rfl (fun ls hl => ?_)
              refine lv_iload_n hx hb dX2_number_77 rfl (lv_at hl 0 rfl) ?_
              refine lv_if_lt (tgt := 96) hx hb dX2_number_78 (by decide) (fun c7_ => ?_) (fun c7_ => ?_)
              · have h := pq_t c7_ h
                refine lv_iconst (v := 0) hx hb dX2_number_96 (by decide) ?_
                obtain rfl := Option.some.inj h
                subst hQ
                exact pw_ri hx hb hr hlk hAe hP hS rfl dX2_number_97
              · have h := pq_e c7_ h
                refine lv_iload_n hx hb dX2_number_81 rfl (lv_at hl 0 rfl) ?_
                refine lv_bipush (v := 7) hx hb dX2_number_82 (by decide) ?_
                refine lv_icmp_ge (tgt := 96) hx hb dX2_number_84 (by decide) (fun c8_ => ?_) (fun c8_ => ?_)
                · have h := pq_t c8_ h
                  refine lv_iconst (v := 0) hx hb dX2_number_96 (by decide) ?_
                  obtain rfl := Option.some.inj h
                  subst hQ
                  exact pw_ri hx hb hr hlk hAe hP hS rfl dX2_number_97
                · have h := pq_e c8_ h
                  refine lv_aload_n hx hb dX2_number_87 rfl (lv_at hl 1 rfl) ?_
                  refine va_get (D := D) (ci := 2) (v := .ref (q 15)) (C := RX2) (T := TX2) (N := 16) hx hb hts hin hown hK hP 0 rfl rfl 15 (by decide) (hta _ aw_51) (fun _ h9 => h9) rfl dX2_number_88 ?_
                  refine lv_iload_n hx hb dX2_number_91 rfl (lv_at hl 0 rfl) ?_
                  obtain ⟨hg, h⟩ := pq_g h
                  refine va_iald hx hb hK hP 14 0 rfl rfl (pq_vp hg) dX2_number_92 ?_
                  refine lv_goto (tgt := 97) hx hb dX2_number_93 (by decide) ?_
                  obtain rfl := Option.some.inj h
                  subst hQ
                  exact pw_ri hx hb hr hlk hAe hP hS rfl dX2_number_97

def aX2_canRequest : List Cond := Cond.code yX2_canRequest cX2_canRequest 2 (some .boolean) :: pw_all
theorem pX2_canRequest : yX2_canRequest.cls = RX2 ∧ yX2_canRequest.cls ≠ "java/lang/invoke/MethodHandle" ∧ yX2_canRequest.cls ≠ "java/lang/invoke/VarHandle" ∧ (parseMethodDescriptor yX2_canRequest.desc).map (fun d => d.parameters.length) = some 1 := by decide +kernel
set_option maxHeartbeats 8000000 in
set_option maxRecDepth 100000 in
theorem kX2_canRequest (l : Launch) (D : va_G) (cy : Nat → ClassId) (q : Nat → Nat) (sz : Nat) (u : Nat → Nat → Int32) (x1 : Int32) (o : Int32) (h : fX2_canRequest x1 u = some o) : Met l yX2_canRequest aX2_canRequest ({ frames := 1, cells := 0, slots := 0, locals := 22 }) (pw_Pre D cy [.ref (q 0), .int x1] (WP cy q u) sz) (pw_I D o (WP cy q u) (WP cy q u) sz) 0 0 (va_A (WP cy q u) sz) := by
  refine pw_met (cc := cX2_canRequest) (maxL := 2) (ret := (some .boolean)) (by decide) rfl (Nat.le_of_ble_eq_true rfl) ?_
  intro p e s m args below meth c ls A hx hb hr hml hlk hts hown hAe hA hK hP hD hS hl
  have hl : lv_has ls 2 [(0, .ref (q 0)), (1, .int x1)] := hl
  generalize hQ : MQ below (pw_I D o (WP cy q u) (WP cy q u) sz) args s 0 0 (va_A (WP cy q u) sz) = Q
  have hF : CallFix p m c cX2_canRequest 2 s args aX2_canRequest RX2 := ⟨hx, hb, hml, hown, hts⟩
  have hta : ∀ w ∈ pw_all, w.before args s = true := fun w h => hts w (List.mem_cons_of_mem _ h)
  have hin : ∀ w ∈ wsX20, w ∈ aX2_canRequest := fun w h => List.mem_cons_of_mem _ (inA2 w h)
  unfold fX2_canRequest at h
  refine lv_aload_n hx hb dX2_canRequest_0 rfl (lv_at hl 0 rfl) ?_
  refine lv_iload_n hx hb dX2_canRequest_1 rfl (lv_at hl 1 rfl) ?_
  obtain ⟨r1, hr1, h⟩ := pq_b h
  refine pw_ci (w1 := WP cy q u) (rest := []) (As := [.int x1]) hF (kX2_isThere l D cy q _ u x1 r1 hr1) (cwV 1 hts (pw_gV (own := RX2) (idx := 88) (C := RX2) (y := yX2_isThere) aw_418 aw_322 aw_323 aw_2 aw_324) rfl rfl rfl pX2_isThere ⟨Nat.le_of_ble_eq_true rfl, Nat.le_of_ble_eq_true rfl⟩) (va_recv hK hP (ci := 2) (q0 := 0) rfl rfl) hK hP hD hS hA rfl rfl hl.1 rfl (Nat.le_of_ble_eq_true rfl) dX2_canRequest_2 ⟨Nat.zero_le _, Nat.zero_le _⟩ (fun H locs hP hD hS => ?_)
  refine lv_if_eq (tgt := 21) hx hb dX2_canRequest_5 (by decide) (fun c1_ => ?_) (fun c1_ => ?_)
  · have h := pq_t c1_ h
    refine lv_iconst (v := 0) hx hb dX2_canRequest_21 (by decide) ?_
    obtain rfl := Option.some.inj h
    subst hQ
    exact pw_rz hx hb hr rfl hlk hAe hP hS rfl dX2_canRequest_22
  · have h := pq_e c1_ h
    refine lv_aload_n hx hb dX2_canRequest_8 rfl (lv_at hl 0 rfl) ?_
    refine lv_iload_n hx hb dX2_canRequest_9 rfl (lv_at hl 1 rfl) ?_
    obtain ⟨r2, hr2, h⟩ := pq_b h
    refine pw_ci (w1 := WP cy q u) (rest := []) (As := [.int x1]) hF (kX2_turnOf l D cy q _ u x1 r2 hr2) (cwV 1 hts (pw_gV (own := RX2) (idx := 78) (C := RX2) (y := yX2_turnOf) aw_252 aw_218 aw_219 aw_2 aw_220) rfl rfl rfl pX2_turnOf ⟨Nat.le_of_ble_eq_true rfl, Nat.le_of_ble_eq_true rfl⟩) (va_recv hK hP (ci := 2) (q0 := 0) rfl rfl) hK hP hD hS hA rfl rfl hl.1 rfl (Nat.le_of_ble_eq_true rfl) dX2_canRequest_10 ⟨Nat.zero_le _, Nat.zero_le _⟩ (fun H locs hP hD hS => ?_)
    refine lv_iconst (v := (-1)) hx hb dX2_canRequest_13 (by decide) ?_
    refine lv_icmp_ne (tgt := 21) hx hb dX2_canRequest_14 (by decide) (fun c2_ => ?_) (fun c2_ => ?_)
    · have h := pq_e c2_ h
      refine lv_iconst (v := 0) hx hb dX2_canRequest_21 (by decide) ?_
      obtain rfl := Option.some.inj h
      subst hQ
      exact pw_rz hx hb hr rfl hlk hAe hP hS rfl dX2_canRequest_22
    · have h := pq_t c2_ h
      refine lv_iconst (v := 1) hx hb dX2_canRequest_17 (by decide) ?_
      refine lv_goto (tgt := 22) hx hb dX2_canRequest_18 (by decide) ?_
      obtain rfl := Option.some.inj h
      subst hQ
      exact pw_rz hx hb hr rfl hlk hAe hP hS rfl dX2_canRequest_22

def aX2_close : List Cond := Cond.code yX2_close cX2_close 2 none :: pw_all
theorem pX2_close : yX2_close.cls = RX2 ∧ yX2_close.cls ≠ "java/lang/invoke/MethodHandle" ∧ yX2_close.cls ≠ "java/lang/invoke/VarHandle" ∧ (parseMethodDescriptor yX2_close.desc).map (fun d => d.parameters.length) = some 1 := by decide +kernel
set_option maxHeartbeats 8000000 in
set_option maxRecDepth 100000 in
theorem kX2_close (l : Launch) (D : va_G) (cy : Nat → ClassId) (q : Nat → Nat) (sz : Nat) (u : Nat → Nat → Int32) (x1 : Int32) (o : (Nat → Nat → Int32)) (h : fX2_close x1 u = some o) : Met l yX2_close aX2_close ({ frames := 0, cells := 0, slots := 0, locals := 0 }) (pw_Pre D cy [.ref (q 0), .int x1] (WP cy q u) sz) (pw_V D (WP cy q u) (WP cy q o) sz) 0 0 (va_A (WP cy q u) sz) := by
  refine pw_met (cc := cX2_close) (maxL := 2) (ret := none) (by decide) rfl (Nat.le_of_ble_eq_true rfl) ?_
  intro p e s m args below meth c ls A hx hb hr hml hlk hts hown hAe hA hK hP hD hS hl
  have hl : lv_has ls 2 [(0, .ref (q 0)), (1, .int x1)] := hl
  generalize hQ : MQ below (pw_V D (WP cy q u) (WP cy q o) sz) args s 0 0 (va_A (WP cy q u) sz) = Q
  have hF : CallFix p m c cX2_close 2 s args aX2_close RX2 := ⟨hx, hb, hml, hown, hts⟩
  have hta : ∀ w ∈ pw_all, w.before args s = true := fun w h => hts w (List.mem_cons_of_mem _ h)
  have hin : ∀ w ∈ wsX20, w ∈ aX2_close := fun w h => List.mem_cons_of_mem _ (inA2 w h)
  unfold fX2_close at h
  refine lv_aload_n hx hb dX2_close_0 rfl (lv_at hl 0 rfl) ?_
  refine va_get (D := D) (ci := 2) (v := .ref (q 2)) (C := RX2) (T := TX2) (N := 16) hx hb hts hin hown hK hP 0 rfl rfl 2 (by decide) (hta _ aw_35) (fun _ h9 => h9) rfl dX2_close_1 ?_
  refine lv_iload_n hx hb dX2_close_4 rfl (lv_at hl 1 rfl) ?_
  refine lv_iconst (v := 0) hx hb dX2_close_5 (by decide) ?_
  obtain ⟨hg, h⟩ := pq_g h
  refine va_iast hx hb hK hP hD hS 2 0 rfl rfl (pq_vp hg) dX2_close_6 (fun H locs hP hD hS => ?_)
  have hP : va_P D vwCl (WP cy q (pu u 2 (upd (u 2) x1.toNatClampNeg 0))) H := hP
  have hD : va_D A (WP cy q (pu u 2 (upd (u 2) x1.toNatClampNeg 0))) := hD
  refine lv_aload_n hx hb dX2_close_7 rfl (lv_at hl 0 rfl) ?_
  refine va_get (D := D) (ci := 2) (v := .ref (q 4)) (C := RX2) (T := TX2) (N := 16) hx hb hts hin hown hK hP 0 rfl rfl 4 (by decide) (hta _ aw_37) (fun _ h9 => h9) rfl dX2_close_8 ?_
  refine lv_iload_n hx hb dX2_close_11 rfl (lv_at hl 1 rfl) ?_
  refine lv_iconst (v := 0) hx hb dX2_close_12 (by decide) ?_
  obtain ⟨hg, h⟩ := pq_g h
  refine va_zast hx hb hK hP hD hS 4 1 rfl rfl (pq_vp hg) dX2_close_13 (fun H locs hP hD hS => ?_)
  have hP : va_P D vwCl (WP cy q (pu (pu u 2 (upd (u 2) x1.toNatClampNeg 0)) 4 (upd (u 4) x1.toNatClampNeg (vp_nar .boolean 0)))) H := hP
  have hD : va_D A (WP cy q (pu (pu u 2 (upd (u 2) x1.toNatClampNeg 0)) 4 (upd (u 4) x1.toNatClampNeg (vp_nar .boolean 0)))) := hD
  refine lv_aload_n hx hb dX2_close_14 rfl (lv_at hl 0 rfl) ?_
  refine va_get (D := D) (ci := 2) (v := .ref (q 5)) (C := RX2) (T := TX2) (N := 16) hx hb hts hin hown hK hP 0 rfl rfl 5 (by decide) (hta _ aw_38) (fun _ h9 => h9) rfl dX2_close_15 ?_
  refine lv_iload_n hx hb dX2_close_18 rfl (lv_at hl 1 rfl) ?_
  refine lv_iconst (v := 0) hx hb dX2_close_19 (by decide) ?_
  obtain ⟨hg, h⟩ := pq_g h
  refine va_iast hx hb hK hP hD hS 5 0 rfl rfl (pq_vp hg) dX2_close_20 (fun H locs hP hD hS => ?_)
  have hP : va_P D vwCl (WP cy q (pu (pu (pu u 2 (upd (u 2) x1.toNatClampNeg 0)) 4 (upd (u 4) x1.toNatClampNeg (vp_nar .boolean 0))) 5 (upd (u 5) x1.toNatClampNeg 0))) H := hP
  have hD : va_D A (WP cy q (pu (pu (pu u 2 (upd (u 2) x1.toNatClampNeg 0)) 4 (upd (u 4) x1.toNatClampNeg (vp_nar .boolean 0))) 5 (upd (u 5) x1.toNatClampNeg 0))) := hD
  refine lv_aload_n hx hb dX2_close_21 rfl (lv_at hl 0 rfl) ?_
  refine va_get (D := D) (ci := 2) (v := .ref (q 15)) (C := RX2) (T := TX2) (N := 16) hx hb hts hin hown hK hP 0 rfl rfl 15 (by decide) (hta _ aw_51) (fun _ h9 => h9) rfl dX2_close_22 ?_
  refine lv_iconst (v := 1) hx hb dX2_close_25 (by decide) ?_
  refine lv_dup2_11 hx hb dX2_close_26 rfl rfl ?_
  refine va_iald hx hb hK hP 14 0 rfl rfl (pq_vp (by decide +kernel)) dX2_close_27 ?_
  refine lv_iconst (v := 1) hx hb dX2_close_28 (by decide) ?_
  refine lv_iadd hx hb dX2_close_29 ?_
  refine va_iast hx hb hK hP hD hS 14 0 rfl rfl (pq_vp (by decide +kernel)) dX2_close_30 (fun H locs hP hD hS => ?_)
  have hP : va_P D vwCl (WP cy q (pu (pu (pu (pu u 2 (upd (u 2) x1.toNatClampNeg 0)) 4 (upd (u 4) x1.toNatClampNeg (vp_nar .boolean 0))) 5 (upd (u 5) x1.toNatClampNeg 0)) 15 (upd (u 15) (1 : Int32).toNatClampNeg (((u 15) (1 : Int32).toNatClampNeg) + 1)))) H := hP
  have hD : va_D A (WP cy q (pu (pu (pu (pu u 2 (upd (u 2) x1.toNatClampNeg 0)) 4 (upd (u 4) x1.toNatClampNeg (vp_nar .boolean 0))) 5 (upd (u 5) x1.toNatClampNeg 0)) 15 (upd (u 15) (1 : Int32).toNatClampNeg (((u 15) (1 : Int32).toNatClampNeg) + 1)))) := hD
  obtain ⟨w1, hw1, h⟩ := pq_b h
  have hw1 := Option.some.inj hw1
  rw [hw1] at hP hD
  obtain rfl := Option.some.inj h
  subst hQ
  exact pw_rv hx hb hr hlk hAe hP hS dX2_close_31

def aX2_closeIfSick : List Cond := Cond.code yX2_closeIfSick cX2_closeIfSick 2 (some .boolean) :: pw_all
theorem pX2_closeIfSick : yX2_closeIfSick.cls = RX2 ∧ yX2_closeIfSick.cls ≠ "java/lang/invoke/MethodHandle" ∧ yX2_closeIfSick.cls ≠ "java/lang/invoke/VarHandle" ∧ (parseMethodDescriptor yX2_closeIfSick.desc).map (fun d => d.parameters.length) = some 1 := by decide +kernel
set_option maxHeartbeats 8000000 in
set_option maxRecDepth 100000 in
theorem kX2_closeIfSick (l : Launch) (D : va_G) (cy : Nat → ClassId) (q : Nat → Nat) (sz : Nat) (u : Nat → Nat → Int32) (x1 : Int32) (o : Int32 × (Nat → Nat → Int32)) (h : fX2_closeIfSick x1 u = some o) : Met l yX2_closeIfSick aX2_closeIfSick ({ frames := 1, cells := 0, slots := 0, locals := 21 }) (pw_Pre D cy [.ref (q 0), .int x1] (WP cy q u) sz) (pw_I D o.1 (WP cy q u) (WP cy q o.2) sz) 0 0 (va_A (WP cy q u) sz) := by
  refine pw_met (cc := cX2_closeIfSick) (maxL := 2) (ret := (some .boolean)) (by decide) rfl (Nat.le_of_ble_eq_true rfl) ?_
  intro p e s m args below meth c ls A hx hb hr hml hlk hts hown hAe hA hK hP hD hS hl
  have hl : lv_has ls 2 [(0, .ref (q 0)), (1, .int x1)] := hl
  generalize hQ : MQ below (pw_I D o.1 (WP cy q u) (WP cy q o.2) sz) args s 0 0 (va_A (WP cy q u) sz) = Q
  have hF : CallFix p m c cX2_closeIfSick 2 s args aX2_closeIfSick RX2 := ⟨hx, hb, hml, hown, hts⟩
  have hta : ∀ w ∈ pw_all, w.before args s = true := fun w h => hts w (List.mem_cons_of_mem _ h)
  have hin : ∀ w ∈ wsX20, w ∈ aX2_closeIfSick := fun w h => List.mem_cons_of_mem _ (inA2 w h)
  unfold fX2_closeIfSick at h
  refine lv_aload_n hx hb dX2_closeIfSick_0 rfl (lv_at hl 0 rfl) ?_
  refine va_get (D := D) (ci := 2) (v := .ref (q 15)) (C := RX2) (T := TX2) (N := 16) hx hb hts hin hown hK hP 0 rfl rfl 15 (by decide) (hta _ aw_51) (fun _ h9 => h9) rfl dX2_closeIfSick_1 ?_
  refine lv_iconst (v := 5) hx hb dX2_closeIfSick_4 (by decide) ?_
  refine lv_dup2_11 hx hb dX2_closeIfSick_5 rfl rfl ?_
  refine va_iald hx hb hK hP 14 0 rfl rfl (pq_vp (by decide +kernel)) dX2_closeIfSick_6 ?_
  refine lv_iconst (v := 1) hx hb dX2_closeIfSick_7 (by decide) ?_
  refine lv_iadd hx hb dX2_closeIfSick_8 ?_
  refine va_iast hx hb hK hP hD hS 14 0 rfl rfl (pq_vp (by decide +kernel)) dX2_closeIfSick_9 (fun H locs hP hD hS => ?_)
  have hP : va_P D vwCl (WP cy q (pu u 15 (upd (u 15) (5 : Int32).toNatClampNeg (((u 15) (5 : Int32).toNatClampNeg) + 1)))) H := hP
  have hD : va_D A (WP cy q (pu u 15 (upd (u 15) (5 : Int32).toNatClampNeg (((u 15) (5 : Int32).toNatClampNeg) + 1)))) := hD
  refine lv_aload_n hx hb dX2_closeIfSick_10 rfl (lv_at hl 0 rfl) ?_
  refine va_get (D := D) (ci := 2) (v := .ref (q 4)) (C := RX2) (T := TX2) (N := 16) hx hb hts hin hown hK hP 0 rfl rfl 4 (by decide) (hta _ aw_37) (fun _ h9 => h9) rfl dX2_closeIfSick_11 ?_
  refine lv_iload_n hx hb dX2_closeIfSick_14 rfl (lv_at hl 1 rfl) ?_
  obtain ⟨hg, h⟩ := pq_g h
  refine va_zald hx hb hK hP 4 1 rfl rfl (pq_vp hg) dX2_closeIfSick_15 ?_
  refine lv_if_ne (tgt := 21) hx hb dX2_closeIfSick_16 (by decide) (fun c1_ => ?_) (fun c1_ => ?_)
  · have h := pq_e c1_ h
    refine lv_aload_n hx hb dX2_closeIfSick_21 rfl (lv_at hl 0 rfl) ?_
    refine lv_iload_n hx hb dX2_closeIfSick_22 rfl (lv_at hl 1 rfl) ?_
    obtain ⟨r1, hr1, h⟩ := pq_b h
    refine pw_cv (w1 := WP cy q r1) (rest := []) (As := [.int x1]) hF (kX2_close l D cy q _ (pu u 15 (upd (u 15) (5 : Int32).toNatClampNeg (((u 15) (5 : Int32).toNatClampNeg) + 1))) x1 r1 hr1) (cwV 1 hts (pw_gV (own := RX2) (idx := 123) (C := RX2) (y := yX2_close) aw_293 aw_295 aw_s7 aw_2 aw_296) rfl rfl rfl pX2_close ⟨Nat.le_of_ble_eq_true rfl, Nat.le_of_ble_eq_true rfl⟩) (va_recv hK hP (ci := 2) (q0 := 0) rfl rfl) hK hP hD hS hA rfl rfl hl.1 rfl (Nat.le_of_ble_eq_true rfl) dX2_closeIfSick_23 ⟨Nat.zero_le _, Nat.zero_le _⟩ (fun H locs hP hD hS => ?_)
    refine lv_aload_n hx hb dX2_closeIfSick_26 rfl (lv_at hl 0 rfl) ?_
    refine va_get (D := D) (ci := 2) (v := .ref (q 15)) (C := RX2) (T := TX2) (N := 16) hx hb hts hin hown hK hP 0 rfl rfl 15 (by decide) (hta _ aw_51) (fun _ h9 => h9) rfl dX2_closeIfSick_27 ?_
    refine lv_iconst (v := 2) hx hb dX2_closeIfSick_30 (by decide) ?_
    refine lv_dup2_11 hx hb dX2_closeIfSick_31 rfl rfl ?_
    refine va_iald hx hb hK hP 14 0 rfl rfl (pq_vp (by decide +kernel)) dX2_closeIfSick_32 ?_
    refine lv_iconst (v := 1) hx hb dX2_closeIfSick_33 (by decide) ?_
    refine lv_iadd hx hb dX2_closeIfSick_34 ?_
    refine va_iast hx hb hK hP hD hS 14 0 rfl rfl (pq_vp (by decide +kernel)) dX2_closeIfSick_35 (fun H locs hP hD hS => ?_)
    have hP : va_P D vwCl (WP cy q (pu r1 15 (upd (r1 15) (2 : Int32).toNatClampNeg (((r1 15) (2 : Int32).toNatClampNeg) + 1)))) H := hP
    have hD : va_D A (WP cy q (pu r1 15 (upd (r1 15) (2 : Int32).toNatClampNeg (((r1 15) (2 : Int32).toNatClampNeg) + 1)))) := hD
    refine lv_iconst (v := 1) hx hb dX2_closeIfSick_36 (by decide) ?_
    obtain rfl := Option.some.inj h
    subst hQ
    exact pw_rz hx hb hr rfl hlk hAe hP hS rfl dX2_closeIfSick_37
  · have h := pq_t c1_ h
    refine lv_iconst (v := 0) hx hb dX2_closeIfSick_19 (by decide) ?_
    obtain rfl := Option.some.inj h
    subst hQ
    exact pw_rz hx hb hr rfl hlk hAe hP hS rfl dX2_closeIfSick_20

def aX2_isAhead : List Cond := Cond.code yX2_isAhead cX2_isAhead 3 (some .boolean) :: pw_all
theorem pX2_isAhead : yX2_isAhead.cls = RX2 ∧ yX2_isAhead.cls ≠ "java/lang/invoke/MethodHandle" ∧ yX2_isAhead.cls ≠ "java/lang/invoke/VarHandle" ∧ (parseMethodDescriptor yX2_isAhead.desc).map (fun d => d.parameters.length) = some 2 := by decide +kernel
set_option maxHeartbeats 8000000 in
set_option maxRecDepth 100000 in
theorem kX2_isAhead (l : Launch) (D : va_G) (cy : Nat → ClassId) (q : Nat → Nat) (sz : Nat) (u : Nat → Nat → Int32) (x1 : Int32) (x2 : Int32) (o : Int32) (h : fX2_isAhead x1 x2 u = some o) : Met l yX2_isAhead aX2_isAhead ({ frames := 0, cells := 0, slots := 0, locals := 0 }) (pw_Pre D cy [.ref (q 0), .int x1, .int x2] (WP cy q u) sz) (pw_I D o (WP cy q u) (WP cy q u) sz) 0 0 (va_A (WP cy q u) sz) := by
  refine pw_met (cc := cX2_isAhead) (maxL := 3) (ret := (some .boolean)) (by decide) rfl (Nat.le_of_ble_eq_true rfl) ?_
  intro p e s m args below meth c ls A hx hb hr hml hlk hts hown hAe hA hK hP hD hS hl
  have hl : lv_has ls 3 [(0, .ref (q 0)), (1, .int x1), (2, .int x2)] := hl
  generalize hQ : MQ below (pw_I D o (WP cy q u) (WP cy q u) sz) args s 0 0 (va_A (WP cy q u) sz) = Q
  have hF : CallFix p m c cX2_isAhead 3 s args aX2_isAhead RX2 := ⟨hx, hb, hml, hown, hts⟩
  have hta : ∀ w ∈ pw_all, w.before args s = true := fun w h => hts w (List.mem_cons_of_mem _ h)
  have hin : ∀ w ∈ wsX20, w ∈ aX2_isAhead := fun w h => List.mem_cons_of_mem _ (inA2 w h)
  unfold fX2_isAhead at h
  refine lv_aload_n hx hb dX2_isAhead_0 rfl (lv_at hl 0 rfl) ?_
  refine va_get (D := D) (ci := 2) (v := .ref (q 1)) (C := RX2) (T := TX2) (N := 16) hx hb hts hin hown hK hP 0 rfl rfl 1 (by decide) (hta _ aw_33) (fun _ h9 => h9) rfl dX2_isAhead_1 ?_
  refine lv_iconst (v := 3) hx hb dX2_isAhead_4 (by decide) ?_
  refine va_iald hx hb hK hP 1 0 rfl rfl (pq_vp (by decide +kernel)) dX2_isAhead_5 ?_
  refine lv_iconst (v := 1) hx hb dX2_isAhead_6 (by decide) ?_
  refine lv_icmp_ne (tgt := 23) hx hb dX2_isAhead_7 (by decide) (fun c1_ => ?_) (fun c1_ => ?_)
  · have h := pq_e c1_ h
    refine lv_iload_n hx hb dX2_isAhead_23 rfl (lv_at hl 1 rfl) ?_
    refine lv_iload_n hx hb dX2_isAhead_24 rfl (lv_at hl 2 rfl) ?_
    refine lv_icmp_le (tgt := 32) hx hb dX2_isAhead_25 (by decide) (fun c2_ => ?_) (fun c2_ => ?_)
    · have h := pq_t c2_ h
      refine lv_iconst (v := 0) hx hb dX2_isAhead_32 (by decide) ?_
      obtain rfl := Option.some.inj h
      subst hQ
      exact pw_rz hx hb hr rfl hlk hAe hP hS rfl dX2_isAhead_33
    · have h := pq_e c2_ h
      refine lv_iconst (v := 1) hx hb dX2_isAhead_28 (by decide) ?_
      refine lv_goto (tgt := 33) hx hb dX2_isAhead_29 (by decide) ?_
      obtain rfl := Option.some.inj h
      subst hQ
      exact pw_rz hx hb hr rfl hlk hAe hP hS rfl dX2_isAhead_33
  · have h := pq_t c1_ h
    refine lv_iload_n hx hb dX2_isAhead_10 rfl (lv_at hl 1 rfl) ?_
    refine lv_iload_n hx hb dX2_isAhead_11 rfl (lv_at hl 2 rfl) ?_
    refine lv_icmp_ge (tgt := 19) hx hb dX2_isAhead_12 (by decide) (fun c3_ => ?_) (fun c3_ => ?_)
    · have h := pq_t c3_ h
      refine lv_iconst (v := 0) hx hb dX2_isAhead_19 (by decide) ?_
      refine lv_goto (tgt := 33) hx hb dX2_isAhead_20 (by decide) ?_
      obtain rfl := Option.some.inj h
      subst hQ
      exact pw_rz hx hb hr rfl hlk hAe hP hS rfl dX2_isAhead_33
    · have h := pq_e c3_ h
      refine lv_iconst (v := 1) hx hb dX2_isAhead_15 (by decide) ?_
      refine lv_goto (tgt := 33) hx hb dX2_isAhead_16 (by decide) ?_
      obtain rfl := Option.some.inj h
      subst hQ
      exact pw_rz hx hb hr rfl hlk hAe hP hS rfl dX2_isAhead_33

def aX2_nextIdle : List Cond := Cond.code yX2_nextIdle cX2_nextIdle 3 (some .int) :: pw_all
theorem pX2_nextIdle : yX2_nextIdle.cls = RX2 ∧ yX2_nextIdle.cls ≠ "java/lang/invoke/MethodHandle" ∧ yX2_nextIdle.cls ≠ "java/lang/invoke/VarHandle" ∧ (parseMethodDescriptor yX2_nextIdle.desc).map (fun d => d.parameters.length) = some 0 := by decide +kernel
set_option maxHeartbeats 8000000 in
set_option maxRecDepth 100000 in
theorem kX2_nextIdle (l : Launch) (D : va_G) (cy : Nat → ClassId) (q : Nat → Nat) (sz : Nat) (u : Nat → Nat → Int32)  (o : Int32) (h : fX2_nextIdle u = some o) : Met l yX2_nextIdle aX2_nextIdle ({ frames := 1, cells := 0, slots := 0, locals := 22 }) (pw_Pre D cy [.ref (q 0)] (WP cy q u) sz) (pw_I D o (WP cy q u) (WP cy q u) sz) 0 0 (va_A (WP cy q u) sz) := by
  refine pw_met (cc := cX2_nextIdle) (maxL := 3) (ret := (some .int)) (by decide) rfl (Nat.le_of_ble_eq_true rfl) ?_
  intro p e s m args below meth c ls A hx hb hr hml hlk hts hown hAe hA hK hP hD hS hl
  have hl : lv_has ls 3 [(0, .ref (q 0))] := hl
  generalize hQ : MQ below (pw_I D o (WP cy q u) (WP cy q u) sz) args s 0 0 (va_A (WP cy q u) sz) = Q
  have hF : CallFix p m c cX2_nextIdle 3 s args aX2_nextIdle RX2 := ⟨hx, hb, hml, hown, hts⟩
  have hta : ∀ w ∈ pw_all, w.before args s = true := fun w h => hts w (List.mem_cons_of_mem _ h)
  have hin : ∀ w ∈ wsX20, w ∈ aX2_nextIdle := fun w h => List.mem_cons_of_mem _ (inA2 w h)
  unfold fX2_nextIdle at h
  refine lv_iconst (v := (-1)) hx hb dX2_nextIdle_0 (by decide) ?_
  refine lv_istore_n (lv' := [(1, .int (-1)), (0, .ref (q 0))]) hx hb dX2_nextIdle_1 rfl hl (by decide) rfl (fun ls hl => ?_)
  refine lv_iconst (v := 0) hx hb dX2_nextIdle_2 (by decide) ?_
  refine lv_istore_n (lv' := [(2, .int 0), (1, .int (-1)), (0, .ref (q 0))]) hx hb dX2_nextIdle_3 rfl hl (by decide) rfl (fun ls hl => ?_)
  have L4_n1 : ∀ (n : Nat) (x1_4 : Int32) (x2_4 : Int32) (H : Heap) (locs : List Loc) (ls : Array Slot), fX2_nextIdle_L4 u n x1_4 x2_4 = some o → va_P D vwCl (WP cy q u) H → va_D A (WP cy q u) → va_S A s.heap H locs → lv_has ls 3 [(0, .ref (q 0)), (1, .int x1_4), (2, .int x2_4)] → W p l e ({ frames := 1, cells := 0, slots := 0, locals := 22 } : Room) s m args below meth c H locs 0 0 Q (F0 m 4 ls []) := by
    intro n
    induction n with
    | zero =>
      intro x1_4 x2_4 H locs ls h hP hD hS hl
      exact pq_n h
    | succ n ih4 =>
      intro x1_4 x2_4 H locs ls h hP hD hS hl
      rw [fX2_nextIdle_L4] at h
      refine lv_iload_n hx hb dX2_nextIdle_4 rfl (lv_at hl 2 rfl) ?_
      refine lv_bipush (v := 8) hx hb dX2_nextIdle_5 (by decide) ?_
      refine lv_icmp_ge (tgt := 55) hx hb dX2_nextIdle_7 (by decide) (fun c1_ => ?_) (fun c1_ => ?_)
      · have h := pq_t c1_ h
        refine lv_iload_n hx hb dX2_nextIdle_55 rfl (lv_at hl 1 rfl) ?_
        obtain rfl := Option.some.inj h
        subst hQ
        exact pw_ri hx hb hr hlk hAe hP hS rfl dX2_nextIdle_56
      · have h := pq_e c1_ h
        refine lv_aload_n hx hb dX2_nextIdle_10 rfl (lv_at hl 0 rfl) ?_
        refine va_get (D := D) (ci := 2) (v := .ref (q 2)) (C := RX2) (T := TX2) (N := 16) hx hb hts hin hown hK hP 0 rfl rfl 2 (by decide) (hta _ aw_35) (fun _ h9 => h9) rfl dX2_nextIdle_11 ?_
        refine lv_iload_n hx hb dX2_nextIdle_14 rfl (lv_at hl 2 rfl) ?_
        obtain ⟨hg, h⟩ := pq_g h
        refine va_iald hx hb hK hP 2 0 rfl rfl (pq_vp hg) dX2_nextIdle_15 ?_
        refine lv_iconst (v := 1) hx hb dX2_nextIdle_16 (by decide) ?_
        refine lv_icmp_eq (tgt := 23) hx hb dX2_nextIdle_17 (by decide) (fun c2_ => ?_) (fun c2_ => ?_)
        · have h := pq_t c2_ h
          refine lv_iload_n hx hb dX2_nextIdle_23 rfl (lv_at hl 1 rfl) ?_
          refine lv_iconst (v := (-1)) hx hb dX2_nextIdle_24 (by decide) ?_
          refine lv_icmp_eq (tgt := 47) hx hb dX2_nextIdle_25 (by decide) (fun c3_ => ?_) (fun c3_ => ?_)
          · have h := pq_t c3_ h
            refine lv_iload_n hx hb dX2_nextIdle_47 rfl (lv_at hl 2 rfl) ?_
            refine lv_istore_n (lv' := [(1, .int x2_4), (0, .ref (q 0)), (2, .int x2_4)]) hx hb dX2_nextIdle_48 rfl hl (by decide) rfl (fun ls hl => ?_)
            refine lv_iinc (v := x2_4 + 1) (lv' := [(2, .int (x2_4 + 1)), (1, .int x2_4), (0, .ref (q 0))]) hx hb dX2_nextIdle_49 hl (k := 2) rfl (by first | rfl | decide) (by decide) rfl (fun ls hl => ?_)
            refine lv_goto (tgt := 4) hx hb dX2_nextIdle_52 (by decide) ?_
            exact ih4 x2_4 (x2_4 + 1) _ _ _ h hP hD hS (lv_sub hl [2, 1, 0] rfl)
          · have h := pq_e c3_ h
            refine lv_aload_n hx hb dX2_nextIdle_28 rfl (lv_at hl 0 rfl) ?_
            refine lv_aload_n hx hb dX2_nextIdle_29 rfl (lv_at hl 0 rfl) ?_
            refine va_get (D := D) (ci := 2) (v := .ref (q 6)) (C := RX2) (T := TX2) (N := 16) hx hb hts hin hown hK hP 0 rfl rfl 6 (by decide) (hta _ aw_39) (fun _ h9 => h9) rfl dX2_nextIdle_30 ?_
            refine lv_iload_n hx hb dX2_nextIdle_33 rfl (lv_at hl 2 rfl) ?_
            obtain ⟨hg, h⟩ := pq_g h
            refine va_iald hx hb hK hP 6 0 rfl rfl (pq_vp hg) dX2_nextIdle_34 ?_
            refine lv_aload_n hx hb dX2_nextIdle_35 rfl (lv_at hl 0 rfl) ?_
            refine va_get (D := D) (ci := 2) (v := .ref (q 6)) (C := RX2) (T := TX2) (N := 16) hx hb hts hin hown hK hP 0 rfl rfl 6 (by decide) (hta _ aw_39) (fun _ h9 => h9) rfl dX2_nextIdle_36 ?_
            refine lv_iload_n hx hb dX2_nextIdle_39 rfl (lv_at hl 1 rfl) ?_
            obtain ⟨hg, h⟩ := pq_g h
            refine va_iald hx hb hK hP 6 0 rfl rfl (pq_vp hg) dX2_nextIdle_40 ?_
            obtain ⟨r2, hr2, h⟩ := pq_b h
            refine pw_ci (w1 := WP cy q u) (rest := []) (As := [.int ((u 6) x2_4.toNatClampNeg), .int ((u 6) x1_4.toNatClampNeg)]) hF (kX2_isAhead l D cy q _ u ((u 6) x2_4.toNatClampNeg) ((u 6) x1_4.toNatClampNeg) r2 hr2) (cwV 2 hts (pw_gV (own := RX2) (idx := 145) (C := RX2) (y := yX2_isAhead) aw_285 aw_287 aw_s5 aw_2 aw_288) rfl rfl rfl pX2_isAhead ⟨Nat.le_of_ble_eq_true rfl, Nat.le_of_ble_eq_true rfl⟩) (va_recv hK hP (ci := 2) (q0 := 0) rfl rfl) hK hP hD hS hA rfl rfl hl.1 rfl (Nat.le_of_ble_eq_true rfl) dX2_nextIdle_41 ⟨Nat.zero_le _, Nat.zero_le _⟩ (fun H locs hP hD hS => ?_)
            refine lv_if_eq (tgt := 49) hx hb dX2_nextIdle_44 (by decide) (fun c4_ => ?_) (fun c4_ => ?_)
            · have h := pq_t c4_ h
              refine lv_iinc (v := x2_4 + 1) (lv' := [(2, .int (x2_4 + 1)), (0, .ref (q 0)), (1, .int x1_4)]) hx hb dX2_nextIdle_49 hl (k := 2) rfl (by first | rfl | decide) (by decide) rfl (fun ls hl => ?_)
              refine lv_goto (tgt := 4) hx hb dX2_nextIdle_52 (by decide) ?_
              exact ih4 x1_4 (x2_4 + 1) _ _ _ h hP hD hS (lv_sub hl [1, 2, 0] rfl)
            · have h := pq_e c4_ h
              refine lv_iload_n hx hb dX2_nextIdle_47 rfl (lv_at hl 2 rfl) ?_
              refine lv_istore_n (lv' := [(1, .int x2_4), (0, .ref (q 0)), (2, .int x2_4)]) hx hb dX2_nextIdle_48 rfl hl (by decide) rfl (fun ls hl => ?_)
              refine lv_iinc (v := x2_4 + 1) (lv' := [(2, .int (x2_4 + 1)), (1, .int x2_4), (0, .ref (q 0))]) hx hb dX2_nextIdle_49 hl (k := 2) rfl (by first | rfl | decide) (by decide) rfl (fun ls hl => ?_)
              refine lv_goto (tgt := 4) hx hb dX2_nextIdle_52 (by decide) ?_
              exact ih4 x2_4 (x2_4 + 1) _ _ _ h hP hD hS (lv_sub hl [2, 1, 0] rfl)
        · have h := pq_e c2_ h
          refine lv_goto (tgt := 49) hx hb dX2_nextIdle_20 (by decide) ?_
          refine lv_iinc (v := x2_4 + 1) (lv' := [(2, .int (x2_4 + 1)), (0, .ref (q 0)), (1, .int x1_4)]) hx hb dX2_nextIdle_49 hl (k := 2) rfl (by first | rfl | decide) (by decide) rfl (fun ls hl => ?_)
          refine lv_goto (tgt := 4) hx hb dX2_nextIdle_52 (by decide) ?_
          exact ih4 x1_4 (x2_4 + 1) _ _ _ h hP hD hS (lv_sub hl [1, 2, 0] rfl)
  exact L4_n1 1000 (-1) 0 _ _ _ h hP hD hS (lv_sub hl [2, 1, 0] rfl)

def aX2_open : List Cond := Cond.code yX2_open cX2_open 2 (some .int) :: pw_all
theorem pX2_open : yX2_open.cls = RX2 ∧ yX2_open.cls ≠ "java/lang/invoke/MethodHandle" ∧ yX2_open.cls ≠ "java/lang/invoke/VarHandle" ∧ (parseMethodDescriptor yX2_open.desc).map (fun d => d.parameters.length) = some 0 := by decide +kernel
set_option maxHeartbeats 8000000 in
set_option maxRecDepth 100000 in
theorem kX2_open (l : Launch) (D : va_G) (cy : Nat → ClassId) (q : Nat → Nat) (sz : Nat) (u : Nat → Nat → Int32)  (o : Int32 × (Nat → Nat → Int32)) (h : fX2_open u = some o) : Met l yX2_open aX2_open ({ frames := 1, cells := 0, slots := 0, locals := 21 }) (pw_Pre D cy [.ref (q 0)] (WP cy q u) sz) (pw_I D o.1 (WP cy q u) (WP cy q o.2) sz) 0 0 (va_A (WP cy q u) sz) := by
  refine pw_met (cc := cX2_open) (maxL := 2) (ret := (some .int)) (by decide) rfl (Nat.le_of_ble_eq_true rfl) ?_
  intro p e s m args below meth c ls A hx hb hr hml hlk hts hown hAe hA hK hP hD hS hl
  have hl : lv_has ls 2 [(0, .ref (q 0))] := hl
  generalize hQ : MQ below (pw_I D o.1 (WP cy q u) (WP cy q o.2) sz) args s 0 0 (va_A (WP cy q u) sz) = Q
  have hF : CallFix p m c cX2_open 2 s args aX2_open RX2 := ⟨hx, hb, hml, hown, hts⟩
  have hta : ∀ w ∈ pw_all, w.before args s = true := fun w h => hts w (List.mem_cons_of_mem _ h)
  have hin : ∀ w ∈ wsX20, w ∈ aX2_open := fun w h => List.mem_cons_of_mem _ (inA2 w h)
  unfold fX2_open at h
  refine lv_iconst (v := 0) hx hb dX2_open_0 (by decide) ?_
  refine lv_istore_n (lv' := [(1, .int 0), (0, .ref (q 0))]) hx hb dX2_open_1 rfl hl (by decide) rfl (fun ls hl => ?_)
  have L2_n1 : ∀ (n : Nat) (x1_2 : Int32) (H : Heap) (locs : List Loc) (ls : Array Slot), fX2_open_L2 u n x1_2 = some o → va_P D vwCl (WP cy q u) H → va_D A (WP cy q u) → va_S A s.heap H locs → lv_has ls 2 [(0, .ref (q 0)), (1, .int x1_2)] → W p l e ({ frames := 1, cells := 0, slots := 0, locals := 21 } : Room) s m args below meth c H locs 0 0 Q (F0 m 2 ls []) := by
    intro n
    induction n with
    | zero =>
      intro x1_2 H locs ls h hP hD hS hl
      exact pq_n h
    | succ n ih2 =>
      intro x1_2 H locs ls h hP hD hS hl
      rw [fX2_open_L2] at h
      refine lv_iload_n hx hb dX2_open_2 rfl (lv_at hl 1 rfl) ?_
      refine lv_bipush (v := 8) hx hb dX2_open_3 (by decide) ?_
      refine lv_icmp_ge (tgt := 61) hx hb dX2_open_5 (by decide) (fun c1_ => ?_) (fun c1_ => ?_)
      · have h := pq_t c1_ h
        refine lv_iconst (v := (-1)) hx hb dX2_open_61 (by decide) ?_
        obtain rfl := Option.some.inj h
        subst hQ
        exact pw_ri hx hb hr hlk hAe hP hS rfl dX2_open_62
      · have h := pq_e c1_ h
        refine lv_aload_n hx hb dX2_open_8 rfl (lv_at hl 0 rfl) ?_
        refine lv_iload_n hx hb dX2_open_9 rfl (lv_at hl 1 rfl) ?_
        obtain ⟨r2, hr2, h⟩ := pq_b h
        refine pw_ci (w1 := WP cy q u) (rest := []) (As := [.int x1_2]) hF (kX2_isEmpty l D cy q _ u x1_2 r2 hr2) (cwV 1 hts (pw_gV (own := RX2) (idx := 84) (C := RX2) (y := yX2_isEmpty) aw_309 aw_310 aw_311 aw_2 aw_312) rfl rfl rfl pX2_isEmpty ⟨Nat.le_of_ble_eq_true rfl, Nat.le_of_ble_eq_true rfl⟩) (va_recv hK hP (ci := 2) (q0 := 0) rfl rfl) hK hP hD hS hA rfl rfl hl.1 rfl (Nat.le_of_ble_eq_true rfl) dX2_open_10 ⟨Nat.zero_le _, Nat.zero_le _⟩ (fun H locs hP hD hS => ?_)
        refine lv_if_eq (tgt := 55) hx hb dX2_open_13 (by decide) (fun c2_ => ?_) (fun c2_ => ?_)
        · have h := pq_t c2_ h
          refine lv_iinc (v := x1_2 + 1) (lv' := [(1, .int (x1_2 + 1)), (0, .ref (q 0))]) hx hb dX2_open_55 hl (k := 1) rfl (by first | rfl | decide) (by decide) rfl (fun ls hl => ?_)
          refine lv_goto (tgt := 2) hx hb dX2_open_58 (by decide) ?_
          exact ih2 (x1_2 + 1) _ _ _ h hP hD hS (lv_sub hl [1, 0] rfl)
        · have h := pq_e c2_ h
          refine lv_aload_n hx hb dX2_open_16 rfl (lv_at hl 0 rfl) ?_
          refine va_get (D := D) (ci := 2) (v := .ref (q 2)) (C := RX2) (T := TX2) (N := 16) hx hb hts hin hown hK hP 0 rfl rfl 2 (by decide) (hta _ aw_35) (fun _ h9 => h9) rfl dX2_open_17 ?_
          refine lv_iload_n hx hb dX2_open_20 rfl (lv_at hl 1 rfl) ?_
          refine lv_iconst (v := 1) hx hb dX2_open_21 (by decide) ?_
          obtain ⟨hg, h⟩ := pq_g h
          refine va_iast hx hb hK hP hD hS 2 0 rfl rfl (pq_vp hg) dX2_open_22 (fun H locs hP hD hS => ?_)
          have hP : va_P D vwCl (WP cy q (pu u 2 (upd (u 2) x1_2.toNatClampNeg 1))) H := hP
          have hD : va_D A (WP cy q (pu u 2 (upd (u 2) x1_2.toNatClampNeg 1))) := hD
          refine lv_aload_n hx hb dX2_open_23 rfl (lv_at hl 0 rfl) ?_
          refine va_get (D := D) (ci := 2) (v := .ref (q 6)) (C := RX2) (T := TX2) (N := 16) hx hb hts hin hown hK hP 0 rfl rfl 6 (by decide) (hta _ aw_39) (fun _ h9 => h9) rfl dX2_open_24 ?_
          refine lv_iload_n hx hb dX2_open_27 rfl (lv_at hl 1 rfl) ?_
          refine lv_aload_n hx hb dX2_open_28 rfl (lv_at hl 0 rfl) ?_
          refine va_get (D := D) (ci := 2) (v := .int (u 0 0)) (C := RX2) (T := TX2) (N := 16) hx hb hts hin hown hK hP 0 rfl rfl 0 (by decide) (hta _ aw_32) (fun _ h9 => h9) rfl dX2_open_29 ?_
          obtain ⟨hg, h⟩ := pq_g h
          refine va_iast hx hb hK hP hD hS 6 0 rfl rfl (pq_vp hg) dX2_open_32 (fun H locs hP hD hS => ?_)
          have hP : va_P D vwCl (WP cy q (pu (pu u 2 (upd (u 2) x1_2.toNatClampNeg 1)) 6 (upd (u 6) x1_2.toNatClampNeg (u 0 0)))) H := hP
          have hD : va_D A (WP cy q (pu (pu u 2 (upd (u 2) x1_2.toNatClampNeg 1)) 6 (upd (u 6) x1_2.toNatClampNeg (u 0 0)))) := hD
          refine lv_aload_n hx hb dX2_open_33 rfl (lv_at hl 0 rfl) ?_
          refine va_get (D := D) (ci := 2) (v := .ref (q 7)) (C := RX2) (T := TX2) (N := 16) hx hb hts hin hown hK hP 0 rfl rfl 7 (by decide) (hta _ aw_40) (fun _ h9 => h9) rfl dX2_open_34 ?_
          refine lv_iload_n hx hb dX2_open_37 rfl (lv_at hl 1 rfl) ?_
          refine lv_dup2_11 hx hb dX2_open_38 rfl rfl ?_
          obtain ⟨hg, h⟩ := pq_g h
          refine va_iald hx hb hK hP 7 0 rfl rfl (pq_vp hg) dX2_open_39 ?_
          refine lv_iconst (v := 1) hx hb dX2_open_40 (by decide) ?_
          refine lv_iadd hx hb dX2_open_41 ?_
          obtain ⟨hg, h⟩ := pq_g h
          refine va_iast hx hb hK hP hD hS 7 0 rfl rfl (pq_vp hg) dX2_open_42 (fun H locs hP hD hS => ?_)
          have hP : va_P D vwCl (WP cy q (pu (pu (pu u 2 (upd (u 2) x1_2.toNatClampNeg 1)) 6 (upd (u 6) x1_2.toNatClampNeg (u 0 0))) 7 (upd (u 7) x1_2.toNatClampNeg (((u 7) x1_2.toNatClampNeg) + 1)))) H := hP
          have hD : va_D A (WP cy q (pu (pu (pu u 2 (upd (u 2) x1_2.toNatClampNeg 1)) 6 (upd (u 6) x1_2.toNatClampNeg (u 0 0))) 7 (upd (u 7) x1_2.toNatClampNeg (((u 7) x1_2.toNatClampNeg) + 1)))) := hD
          refine lv_aload_n hx hb dX2_open_43 rfl (lv_at hl 0 rfl) ?_
          refine va_get (D := D) (ci := 2) (v := .ref (q 15)) (C := RX2) (T := TX2) (N := 16) hx hb hts hin hown hK hP 0 rfl rfl 15 (by decide) (hta _ aw_51) (fun _ h9 => h9) rfl dX2_open_44 ?_
          refine lv_iconst (v := 0) hx hb dX2_open_47 (by decide) ?_
          refine lv_dup2_11 hx hb dX2_open_48 rfl rfl ?_
          refine va_iald hx hb hK hP 14 0 rfl rfl (pq_vp (by decide +kernel)) dX2_open_49 ?_
          refine lv_iconst (v := 1) hx hb dX2_open_50 (by decide) ?_
          refine lv_iadd hx hb dX2_open_51 ?_
          refine va_iast hx hb hK hP hD hS 14 0 rfl rfl (pq_vp (by decide +kernel)) dX2_open_52 (fun H locs hP hD hS => ?_)
          have hP : va_P D vwCl (WP cy q (pu (pu (pu (pu u 2 (upd (u 2) x1_2.toNatClampNeg 1)) 6 (upd (u 6) x1_2.toNatClampNeg (u 0 0))) 7 (upd (u 7) x1_2.toNatClampNeg (((u 7) x1_2.toNatClampNeg) + 1))) 15 (upd (u 15) (0 : Int32).toNatClampNeg (((u 15) (0 : Int32).toNatClampNeg) + 1)))) H := hP
          have hD : va_D A (WP cy q (pu (pu (pu (pu u 2 (upd (u 2) x1_2.toNatClampNeg 1)) 6 (upd (u 6) x1_2.toNatClampNeg (u 0 0))) 7 (upd (u 7) x1_2.toNatClampNeg (((u 7) x1_2.toNatClampNeg) + 1))) 15 (upd (u 15) (0 : Int32).toNatClampNeg (((u 15) (0 : Int32).toNatClampNeg) + 1)))) := hD
          obtain ⟨w3, hw3, h⟩ := pq_b h
          have hw3 := Option.some.inj hw3
          rw [hw3] at hP hD
          refine lv_iload_n hx hb dX2_open_53 rfl (lv_at hl 1 rfl) ?_
          obtain rfl := Option.some.inj h
          subst hQ
          exact pw_ri hx hb hr hlk hAe hP hS rfl dX2_open_54
  exact L2_n1 1000 0 _ _ _ h hP hD hS (lv_sub hl [1, 0] rfl)

def aX2_findConnection : List Cond := Cond.code yX2_findConnection cX2_findConnection 3 (some .int) :: pw_all
theorem pX2_findConnection : yX2_findConnection.cls = RX2 ∧ yX2_findConnection.cls ≠ "java/lang/invoke/MethodHandle" ∧ yX2_findConnection.cls ≠ "java/lang/invoke/VarHandle" ∧ (parseMethodDescriptor yX2_findConnection.desc).map (fun d => d.parameters.length) = some 0 := by decide +kernel
set_option maxHeartbeats 8000000 in
set_option maxRecDepth 100000 in
theorem kX2_findConnection (l : Launch) (D : va_G) (cy : Nat → ClassId) (q : Nat → Nat) (sz : Nat) (u : Nat → Nat → Int32)  (o : Int32 × (Nat → Nat → Int32)) (h : fX2_findConnection u = some o) : Met l yX2_findConnection aX2_findConnection ({ frames := 2, cells := 0, slots := 0, locals := 44 }) (pw_Pre D cy [.ref (q 0)] (WP cy q u) sz) (pw_I D o.1 (WP cy q u) (WP cy q o.2) sz) 0 0 (va_A (WP cy q u) sz) := by
  refine pw_met (cc := cX2_findConnection) (maxL := 3) (ret := (some .int)) (by decide) rfl (Nat.le_of_ble_eq_true rfl) ?_
  intro p e s m args below meth c ls A hx hb hr hml hlk hts hown hAe hA hK hP hD hS hl
  have hl : lv_has ls 3 [(0, .ref (q 0))] := hl
  generalize hQ : MQ below (pw_I D o.1 (WP cy q u) (WP cy q o.2) sz) args s 0 0 (va_A (WP cy q u) sz) = Q
  have hF : CallFix p m c cX2_findConnection 3 s args aX2_findConnection RX2 := ⟨hx, hb, hml, hown, hts⟩
  have hta : ∀ w ∈ pw_all, w.before args s = true := fun w h => hts w (List.mem_cons_of_mem _ h)
  have hin : ∀ w ∈ wsX20, w ∈ aX2_findConnection := fun w h => List.mem_cons_of_mem _ (inA2 w h)
  unfold fX2_findConnection at h
  refine lv_iconst (v := 0) hx hb dX2_findConnection_0 (by decide) ?_
  refine lv_istore_n (lv' := [(1, .int 0), (0, .ref (q 0))]) hx hb dX2_findConnection_1 rfl hl (by decide) rfl (fun ls hl => ?_)
  have L2_n1 : ∀ (n : Nat) (x1_2 : Int32) (u_2 : Nat → Nat → Int32) (H : Heap) (locs : List Loc) (ls : Array Slot), fX2_findConnection_L2  n x1_2 u_2 = some o → va_P D vwCl (WP cy q u_2) H → va_D A (WP cy q u_2) → va_S A s.heap H locs → lv_has ls 3 [(0, .ref (q 0)), (1, .int x1_2)] → W p l e ({ frames := 2, cells := 0, slots := 0, locals := 44 } : Room) s m args below meth c H locs 0 0 Q (F0 m 2 ls []) := by
    intro n
    induction n with
    | zero =>
      intro x1_2 u_2 H locs ls h hP hD hS hl
      exact pq_n h
    | succ n ih2 =>
      intro x1_2 u_2 H locs ls h hP hD hS hl
      rw [fX2_findConnection_L2] at h
      refine lv_iload_n hx hb dX2_findConnection_2 rfl (lv_at hl 1 rfl) ?_
      refine lv_bipush (v := 8) hx hb dX2_findConnection_3 (by decide) ?_
      refine lv_icmp_ge (tgt := 46) hx hb dX2_findConnection_5 (by decide) (fun c1_ => ?_) (fun c1_ => ?_)
      · have h := pq_t c1_ h
        refine lv_aload_n hx hb dX2_findConnection_46 rfl (lv_at hl 0 rfl) ?_
        obtain ⟨r2, hr2, h⟩ := pq_b h
        refine pw_ci (w1 := WP cy q u_2) (rest := []) (As := []) hF (kX2_connections l D cy q _ u_2  r2 hr2) (cwV 0 hts (pw_gV (own := RX2) (idx := 94) (C := RX2) (y := yX2_connections) aw_297 aw_298 aw_299 aw_2 aw_300) rfl rfl rfl pX2_connections ⟨Nat.le_of_ble_eq_true rfl, Nat.le_of_ble_eq_true rfl⟩) (va_recv hK hP (ci := 2) (q0 := 0) rfl rfl) hK hP hD hS hA rfl rfl hl.1 rfl (Nat.le_of_ble_eq_true rfl) dX2_findConnection_47 ⟨Nat.zero_le _, Nat.zero_le _⟩ (fun H locs hP hD hS => ?_)
        refine lv_aload_n hx hb dX2_findConnection_50 rfl (lv_at hl 0 rfl) ?_
        refine va_get (D := D) (ci := 2) (v := .ref (q 1)) (C := RX2) (T := TX2) (N := 16) hx hb hts hin hown hK hP 0 rfl rfl 1 (by decide) (hta _ aw_33) (fun _ h9 => h9) rfl dX2_findConnection_51 ?_
        refine lv_iconst (v := 0) hx hb dX2_findConnection_54 (by decide) ?_
        refine va_iald hx hb hK hP 1 0 rfl rfl (pq_vp (by decide +kernel)) dX2_findConnection_55 ?_
        refine lv_icmp_ge (tgt := 66) hx hb dX2_findConnection_56 (by decide) (fun c2_ => ?_) (fun c2_ => ?_)
        · have h := pq_t c2_ h
          refine lv_iconst (v := (-1)) hx hb dX2_findConnection_66 (by decide) ?_
          obtain rfl := Option.some.inj h
          subst hQ
          exact pw_ri hx hb hr hlk hAe hP hS rfl dX2_findConnection_67
        · have h := pq_e c2_ h
          refine lv_aload_n hx hb dX2_findConnection_59 rfl (lv_at hl 0 rfl) ?_
          obtain ⟨r3, hr3, h⟩ := pq_b h
          refine pw_ci (w1 := WP cy q r3.2) (rest := []) (As := []) hF (kX2_open l D cy q _ u_2  r3 hr3) (cwV 0 hts (pw_gV (own := RX2) (idx := 142) (C := RX2) (y := yX2_open) aw_305 aw_307 aw_s8 aw_2 aw_308) rfl rfl rfl pX2_open ⟨Nat.le_of_ble_eq_true rfl, Nat.le_of_ble_eq_true rfl⟩) (va_recv hK hP (ci := 2) (q0 := 0) rfl rfl) hK hP hD hS hA rfl rfl hl.1 rfl (Nat.le_of_ble_eq_true rfl) dX2_findConnection_60 ⟨Nat.zero_le _, Nat.zero_le _⟩ (fun H locs hP hD hS => ?_)
          refine lv_goto (tgt := 67) hx hb dX2_findConnection_63 (by decide) ?_
          obtain rfl := Option.some.inj h
          subst hQ
          exact pw_ri hx hb hr hlk hAe hP hS rfl dX2_findConnection_67
      · have h := pq_e c1_ h
        refine lv_aload_n hx hb dX2_findConnection_8 rfl (lv_at hl 0 rfl) ?_
        obtain ⟨r4, hr4, h⟩ := pq_b h
        refine pw_ci (w1 := WP cy q u_2) (rest := []) (As := []) hF (kX2_nextIdle l D cy q _ u_2  r4 hr4) (cwV 0 hts (pw_gV (own := RX2) (idx := 139) (C := RX2) (y := yX2_nextIdle) aw_281 aw_283 aw_s4 aw_2 aw_284) rfl rfl rfl pX2_nextIdle ⟨Nat.le_of_ble_eq_true rfl, Nat.le_of_ble_eq_true rfl⟩) (va_recv hK hP (ci := 2) (q0 := 0) rfl rfl) hK hP hD hS hA rfl rfl hl.1 rfl (Nat.le_of_ble_eq_true rfl) dX2_findConnection_9 ⟨Nat.zero_le _, Nat.zero_le _⟩ (fun H locs hP hD hS => ?_)
        refine lv_istore_n (lv' := [(2, .int r4), (0, .ref (q 0)), (1, .int x1_2)]) hx hb dX2_findConnection_12 rfl hl (by decide) rfl (fun ls hl => ?_)
        refine lv_iload_n hx hb dX2_findConnection_13 rfl (lv_at hl 0 rfl) ?_
        refine lv_iconst (v := (-1)) hx hb dX2_findConnection_14 (by decide) ?_
        refine lv_icmp_ne (tgt := 21) hx hb dX2_findConnection_15 (by decide) (fun c3_ => ?_) (fun c3_ => ?_)
        · have h := pq_e c3_ h
          refine lv_aload_n hx hb dX2_findConnection_21 rfl (lv_at hl 1 rfl) ?_
          refine va_get (D := D) (ci := 2) (v := .ref (q 1)) (C := RX2) (T := TX2) (N := 16) hx hb hts hin hown hK hP 0 rfl rfl 1 (by decide) (hta _ aw_33) (fun _ h9 => h9) rfl dX2_findConnection_22 ?_
          refine lv_iconst (v := 4) hx hb dX2_findConnection_25 (by decide) ?_
          refine va_iald hx hb hK hP 1 0 rfl rfl (pq_vp (by decide +kernel)) dX2_findConnection_26 ?_
          refine lv_if_eq (tgt := 38) hx hb dX2_findConnection_27 (by decide) (fun c4_ => ?_) (fun c4_ => ?_)
          · have h := pq_t c4_ h
            refine lv_iload_n hx hb dX2_findConnection_38 rfl (lv_at hl 0 rfl) ?_
            obtain rfl := Option.some.inj h
            subst hQ
            exact pw_ri hx hb hr hlk hAe hP hS rfl dX2_findConnection_39
          · have h := pq_e c4_ h
            refine lv_aload_n hx hb dX2_findConnection_30 rfl (lv_at hl 1 rfl) ?_
            refine lv_iload_n hx hb dX2_findConnection_31 rfl (lv_at hl 0 rfl) ?_
            obtain ⟨r5, hr5, h⟩ := pq_b h
            refine pw_ci (w1 := WP cy q r5.2) (rest := []) (As := [.int r4]) hF (kX2_closeIfSick l D cy q _ u_2 r4 r5 hr5) (cwV 1 hts (pw_gV (own := RX2) (idx := 120) (C := RX2) (y := yX2_closeIfSick) aw_289 aw_291 aw_s6 aw_2 aw_292) rfl rfl rfl pX2_closeIfSick ⟨Nat.le_of_ble_eq_true rfl, Nat.le_of_ble_eq_true rfl⟩) (va_recv hK hP (ci := 2) (q0 := 0) rfl rfl) hK hP hD hS hA rfl rfl hl.1 rfl (Nat.le_of_ble_eq_true rfl) dX2_findConnection_32 ⟨Nat.zero_le _, Nat.zero_le _⟩ (fun H locs hP hD hS => ?_)
            refine lv_if_ne (tgt := 40) hx hb dX2_findConnection_35 (by decide) (fun c5_ => ?_) (fun c5_ => ?_)
            · have h := pq_e c5_ h
              refine lv_iinc (v := x1_2 + 1) (lv' := [(1, .int (x1_2 + 1)), (2, .int r4), (0, .ref (q 0))]) hx hb dX2_findConnection_40 hl (k := 2) rfl (by first | rfl | decide) (by decide) rfl (fun ls hl => ?_)
              refine lv_goto (tgt := 2) hx hb dX2_findConnection_43 (by decide) ?_
              exact ih2 (x1_2 + 1) r5.2 _ _ _ h hP hD hS (lv_sub hl [2, 0] rfl)
            · have h := pq_t c5_ h
              refine lv_iload_n hx hb dX2_findConnection_38 rfl (lv_at hl 0 rfl) ?_
              obtain rfl := Option.some.inj h
              subst hQ
              exact pw_ri hx hb hr hlk hAe hP hS rfl dX2_findConnection_39
        · have h := pq_t c3_ h
          refine lv_goto (tgt := 46) hx hb dX2_findConnection_18 (by decide) ?_
          refine lv_aload_n hx hb dX2_findConnection_46 rfl (lv_at hl 1 rfl) ?_
          obtain ⟨r6, hr6, h⟩ := pq_b h
          refine pw_ci (w1 := WP cy q u_2) (rest := []) (As := []) hF (kX2_connections l D cy q _ u_2  r6 hr6) (cwV 0 hts (pw_gV (own := RX2) (idx := 94) (C := RX2) (y := yX2_connections) aw_297 aw_298 aw_299 aw_2 aw_300) rfl rfl rfl pX2_connections ⟨Nat.le_of_ble_eq_true rfl, Nat.le_of_ble_eq_true rfl⟩) (va_recv hK hP (ci := 2) (q0 := 0) rfl rfl) hK hP hD hS hA rfl rfl hl.1 rfl (Nat.le_of_ble_eq_true rfl) dX2_findConnection_47 ⟨Nat.zero_le _, Nat.zero_le _⟩ (fun H locs hP hD hS => ?_)
          refine lv_aload_n hx hb dX2_findConnection_50 rfl (lv_at hl 1 rfl) ?_
          refine va_get (D := D) (ci := 2) (v := .ref (q 1)) (C := RX2) (T := TX2) (N := 16) hx hb hts hin hown hK hP 0 rfl rfl 1 (by decide) (hta _ aw_33) (fun _ h9 => h9) rfl dX2_findConnection_51 ?_
          refine lv_iconst (v := 0) hx hb dX2_findConnection_54 (by decide) ?_
          refine va_iald hx hb hK hP 1 0 rfl rfl (pq_vp (by decide +kernel)) dX2_findConnection_55 ?_
          refine lv_icmp_ge (tgt := 66) hx hb dX2_findConnection_56 (by decide) (fun c6_ => ?_) (fun c6_ => ?_)
          · have h := pq_t c6_ h
            refine lv_iconst (v := (-1)) hx hb dX2_findConnection_66 (by decide) ?_
            obtain rfl := Option.some.inj h
            subst hQ
            exact pw_ri hx hb hr hlk hAe hP hS rfl dX2_findConnection_67
          · have h := pq_e c6_ h
            refine lv_aload_n hx hb dX2_findConnection_59 rfl (lv_at hl 1 rfl) ?_
            obtain ⟨r7, hr7, h⟩ := pq_b h
            refine pw_ci (w1 := WP cy q r7.2) (rest := []) (As := []) hF (kX2_open l D cy q _ u_2  r7 hr7) (cwV 0 hts (pw_gV (own := RX2) (idx := 142) (C := RX2) (y := yX2_open) aw_305 aw_307 aw_s8 aw_2 aw_308) rfl rfl rfl pX2_open ⟨Nat.le_of_ble_eq_true rfl, Nat.le_of_ble_eq_true rfl⟩) (va_recv hK hP (ci := 2) (q0 := 0) rfl rfl) hK hP hD hS hA rfl rfl hl.1 rfl (Nat.le_of_ble_eq_true rfl) dX2_findConnection_60 ⟨Nat.zero_le _, Nat.zero_le _⟩ (fun H locs hP hD hS => ?_)
            refine lv_goto (tgt := 67) hx hb dX2_findConnection_63 (by decide) ?_
            obtain rfl := Option.some.inj h
            subst hQ
            exact pw_ri hx hb hr hlk hAe hP hS rfl dX2_findConnection_67
  exact L2_n1 1000 0 u _ _ _ h hP hD hS (lv_sub hl [1, 0] rfl)

def aX2_firstTurnThatMayHaveOne : List Cond := Cond.code yX2_firstTurnThatMayHaveOne cX2_firstTurnThatMayHaveOne 2 (some .int) :: pw_all
theorem pX2_firstTurnThatMayHaveOne : yX2_firstTurnThatMayHaveOne.cls = RX2 ∧ yX2_firstTurnThatMayHaveOne.cls ≠ "java/lang/invoke/MethodHandle" ∧ yX2_firstTurnThatMayHaveOne.cls ≠ "java/lang/invoke/VarHandle" ∧ (parseMethodDescriptor yX2_firstTurnThatMayHaveOne.desc).map (fun d => d.parameters.length) = some 0 := by decide +kernel
set_option maxHeartbeats 8000000 in
set_option maxRecDepth 100000 in
theorem kX2_firstTurnThatMayHaveOne (l : Launch) (D : va_G) (cy : Nat → ClassId) (q : Nat → Nat) (sz : Nat) (u : Nat → Nat → Int32)  (o : Int32) (h : fX2_firstTurnThatMayHaveOne u = some o) : Met l yX2_firstTurnThatMayHaveOne aX2_firstTurnThatMayHaveOne ({ frames := 2, cells := 0, slots := 0, locals := 44 }) (pw_Pre D cy [.ref (q 0)] (WP cy q u) sz) (pw_I D o (WP cy q u) (WP cy q u) sz) 0 0 (va_A (WP cy q u) sz) := by
  refine pw_met (cc := cX2_firstTurnThatMayHaveOne) (maxL := 2) (ret := (some .int)) (by decide) rfl (Nat.le_of_ble_eq_true rfl) ?_
  intro p e s m args below meth c ls A hx hb hr hml hlk hts hown hAe hA hK hP hD hS hl
  have hl : lv_has ls 2 [(0, .ref (q 0))] := hl
  generalize hQ : MQ below (pw_I D o (WP cy q u) (WP cy q u) sz) args s 0 0 (va_A (WP cy q u) sz) = Q
  have hF : CallFix p m c cX2_firstTurnThatMayHaveOne 2 s args aX2_firstTurnThatMayHaveOne RX2 := ⟨hx, hb, hml, hown, hts⟩
  have hta : ∀ w ∈ pw_all, w.before args s = true := fun w h => hts w (List.mem_cons_of_mem _ h)
  have hin : ∀ w ∈ wsX20, w ∈ aX2_firstTurnThatMayHaveOne := fun w h => List.mem_cons_of_mem _ (inA2 w h)
  unfold fX2_firstTurnThatMayHaveOne at h
  refine lv_iconst (v := 0) hx hb dX2_firstTurnThatMayHaveOne_0 (by decide) ?_
  refine lv_istore_n (lv' := [(1, .int 0), (0, .ref (q 0))]) hx hb dX2_firstTurnThatMayHaveOne_1 rfl hl (by decide) rfl (fun ls hl => ?_)
  have L2_n1 : ∀ (n : Nat) (x1_2 : Int32) (H : Heap) (locs : List Loc) (ls : Array Slot), fX2_firstTurnThatMayHaveOne_L2 u n x1_2 = some o → va_P D vwCl (WP cy q u) H → va_D A (WP cy q u) → va_S A s.heap H locs → lv_has ls 2 [(0, .ref (q 0)), (1, .int x1_2)] → W p l e ({ frames := 2, cells := 0, slots := 0, locals := 44 } : Room) s m args below meth c H locs 0 0 Q (F0 m 2 ls []) := by
    intro n
    induction n with
    | zero =>
      intro x1_2 H locs ls h hP hD hS hl
      exact pq_n h
    | succ n ih2 =>
      intro x1_2 H locs ls h hP hD hS hl
      rw [fX2_firstTurnThatMayHaveOne_L2] at h
      refine lv_iload_n hx hb dX2_firstTurnThatMayHaveOne_2 rfl (lv_at hl 1 rfl) ?_
      refine lv_aload_n hx hb dX2_firstTurnThatMayHaveOne_3 rfl (lv_at hl 0 rfl) ?_
      refine va_get (D := D) (ci := 2) (v := .int (u 14 0)) (C := RX2) (T := TX2) (N := 16) hx hb hts hin hown hK hP 0 rfl rfl 14 (by decide) (hta _ aw_49) (fun _ h9 => h9) rfl dX2_firstTurnThatMayHaveOne_4 ?_
      refine lv_icmp_ge (tgt := 31) hx hb dX2_firstTurnThatMayHaveOne_7 (by decide) (fun c1_ => ?_) (fun c1_ => ?_)
      · have h := pq_t c1_ h
        refine lv_iconst (v := (-1)) hx hb dX2_firstTurnThatMayHaveOne_31 (by decide) ?_
        obtain rfl := Option.some.inj h
        subst hQ
        exact pw_ri hx hb hr hlk hAe hP hS rfl dX2_firstTurnThatMayHaveOne_32
      · have h := pq_e c1_ h
        refine lv_aload_n hx hb dX2_firstTurnThatMayHaveOne_10 rfl (lv_at hl 0 rfl) ?_
        refine lv_aload_n hx hb dX2_firstTurnThatMayHaveOne_11 rfl (lv_at hl 0 rfl) ?_
        refine va_get (D := D) (ci := 2) (v := .ref (q 13)) (C := RX2) (T := TX2) (N := 16) hx hb hts hin hown hK hP 0 rfl rfl 13 (by decide) (hta _ aw_48) (fun _ h9 => h9) rfl dX2_firstTurnThatMayHaveOne_12 ?_
        refine lv_iload_n hx hb dX2_firstTurnThatMayHaveOne_15 rfl (lv_at hl 1 rfl) ?_
        obtain ⟨hg, h⟩ := pq_g h
        refine va_iald hx hb hK hP 13 0 rfl rfl (pq_vp hg) dX2_firstTurnThatMayHaveOne_16 ?_
        obtain ⟨r2, hr2, h⟩ := pq_b h
        refine pw_ci (w1 := WP cy q u) (rest := []) (As := [.int ((u 13) x1_2.toNatClampNeg)]) hF (kX2_mayHaveOneMore l D cy q _ u ((u 13) x1_2.toNatClampNeg) r2 hr2) (cwV 1 hts (pw_gV (own := RX2) (idx := 136) (C := RX2) (y := yX2_mayHaveOneMore) aw_269 aw_270 aw_271 aw_2 aw_272) rfl rfl rfl pX2_mayHaveOneMore ⟨Nat.le_of_ble_eq_true rfl, Nat.le_of_ble_eq_true rfl⟩) (va_recv hK hP (ci := 2) (q0 := 0) rfl rfl) hK hP hD hS hA rfl rfl hl.1 rfl (Nat.le_of_ble_eq_true rfl) dX2_firstTurnThatMayHaveOne_17 ⟨Nat.zero_le _, Nat.zero_le _⟩ (fun H locs hP hD hS => ?_)
        refine lv_if_eq (tgt := 25) hx hb dX2_firstTurnThatMayHaveOne_20 (by decide) (fun c2_ => ?_) (fun c2_ => ?_)
        · have h := pq_t c2_ h
          refine lv_iinc (v := x1_2 + 1) (lv' := [(1, .int (x1_2 + 1)), (0, .ref (q 0))]) hx hb dX2_firstTurnThatMayHaveOne_25 hl (k := 1) rfl (by first | rfl | decide) (by decide) rfl (fun ls hl => ?_)
          refine lv_goto (tgt := 2) hx hb dX2_firstTurnThatMayHaveOne_28 (by decide) ?_
          exact ih2 (x1_2 + 1) _ _ _ h hP hD hS (lv_sub hl [1, 0] rfl)
        · have h := pq_e c2_ h
          refine lv_iload_n hx hb dX2_firstTurnThatMayHaveOne_23 rfl (lv_at hl 1 rfl) ?_
          obtain rfl := Option.some.inj h
          subst hQ
          exact pw_ri hx hb hr hlk hAe hP hS rfl dX2_firstTurnThatMayHaveOne_24
  exact L2_n1 1000 0 _ _ _ h hP hD hS (lv_sub hl [1, 0] rfl)

def aX2_leave : List Cond := Cond.code yX2_leave cX2_leave 3 none :: pw_all
theorem pX2_leave : yX2_leave.cls = RX2 ∧ yX2_leave.cls ≠ "java/lang/invoke/MethodHandle" ∧ yX2_leave.cls ≠ "java/lang/invoke/VarHandle" ∧ (parseMethodDescriptor yX2_leave.desc).map (fun d => d.parameters.length) = some 1 := by decide +kernel
set_option maxHeartbeats 8000000 in
set_option maxRecDepth 100000 in
theorem kX2_leave (l : Launch) (D : va_G) (cy : Nat → ClassId) (q : Nat → Nat) (sz : Nat) (u : Nat → Nat → Int32) (x1 : Int32) (o : (Nat → Nat → Int32)) (h : fX2_leave x1 u = some o) : Met l yX2_leave aX2_leave ({ frames := 0, cells := 0, slots := 0, locals := 0 }) (pw_Pre D cy [.ref (q 0), .int x1] (WP cy q u) sz) (pw_V D (WP cy q u) (WP cy q o) sz) 0 0 (va_A (WP cy q u) sz) := by
  refine pw_met (cc := cX2_leave) (maxL := 3) (ret := none) (by decide) rfl (Nat.le_of_ble_eq_true rfl) ?_
  intro p e s m args below meth c ls A hx hb hr hml hlk hts hown hAe hA hK hP hD hS hl
  have hl : lv_has ls 3 [(0, .ref (q 0)), (1, .int x1)] := hl
  generalize hQ : MQ below (pw_V D (WP cy q u) (WP cy q o) sz) args s 0 0 (va_A (WP cy q u) sz) = Q
  have hF : CallFix p m c cX2_leave 3 s args aX2_leave RX2 := ⟨hx, hb, hml, hown, hts⟩
  have hta : ∀ w ∈ pw_all, w.before args s = true := fun w h => hts w (List.mem_cons_of_mem _ h)
  have hin : ∀ w ∈ wsX20, w ∈ aX2_leave := fun w h => List.mem_cons_of_mem _ (inA2 w h)
  unfold fX2_leave at h
  refine lv_iload_n hx hb dX2_leave_0 rfl (lv_at hl 1 rfl) ?_
  refine lv_if_lt (tgt := 12) hx hb dX2_leave_1 (by decide) (fun c1_ => ?_) (fun c1_ => ?_)
  · have h := pq_t c1_ h
    obtain rfl := Option.some.inj h
    subst hQ
    exact pw_rv hx hb hr hlk hAe hP hS dX2_leave_12
  · have h := pq_e c1_ h
    refine lv_iload_n hx hb dX2_leave_4 rfl (lv_at hl 1 rfl) ?_
    refine lv_aload_n hx hb dX2_leave_5 rfl (lv_at hl 0 rfl) ?_
    refine va_get (D := D) (ci := 2) (v := .int (u 14 0)) (C := RX2) (T := TX2) (N := 16) hx hb hts hin hown hK hP 0 rfl rfl 14 (by decide) (hta _ aw_49) (fun _ h9 => h9) rfl dX2_leave_6 ?_
    refine lv_icmp_lt (tgt := 13) hx hb dX2_leave_9 (by decide) (fun c2_ => ?_) (fun c2_ => ?_)
    · have h := pq_t c2_ h
      refine lv_iload_n hx hb dX2_leave_13 rfl (lv_at hl 1 rfl) ?_
      refine lv_istore_n (lv' := [(2, .int x1), (0, .ref (q 0)), (1, .int x1)]) hx hb dX2_leave_14 rfl hl (by decide) rfl (fun ls hl => ?_)
      obtain ⟨v2, hv2, h⟩ := pq_b h
      have X45_v2 : ∀ (H : Heap) (locs : List Loc) (ls : Array Slot), va_P D vwCl (WP cy q v2) H → va_D A (WP cy q v2) → va_S A s.heap H locs → lv_has ls 3 [(0, .ref (q 0))] → W p l e ({ frames := 0, cells := 0, slots := 0, locals := 0 } : Room) s m args below meth c H locs 0 0 Q (F0 m 45 ls []) := by
        intro H locs ls hP hD hS hl
        refine lv_aload_n hx hb dX2_leave_45 rfl (lv_at hl 0 rfl) ?_
        refine lv_dup hx hb dX2_leave_46 rfl ?_
        refine va_get (D := D) (ci := 2) (v := .int (v2 14 0)) (C := RX2) (T := TX2) (N := 16) hx hb hts hin hown hK hP 0 rfl rfl 14 (by decide) (hta _ aw_49) (fun _ h9 => h9) rfl dX2_leave_47 ?_
        refine lv_iconst (v := 1) hx hb dX2_leave_50 (by decide) ?_
        refine lv_isub hx hb dX2_leave_51 ?_
        refine va_put (D := D) (ci := 2) (v := .int ((v2 14 0) - 1)) (ty := .int) (C := RX2) (T := TX2) (N := 16) hx hb hts hin tyX2 tyX2_ok nmX2 hown hK hP hD hS 0 rfl rfl 14 (by decide) (hta _ aw_49) (fun _ h9 => h9) rfl (by decide +kernel) rfl rfl (Nat.le_of_ble_eq_true rfl) dX2_leave_52 (fun H locs hP hD hS => ?_)
        have hP : va_P D vwCl (WP cy q (pu v2 14 (fun _ => (v2 14 0) - 1))) H := hP
        have hD : va_D A (WP cy q (pu v2 14 (fun _ => (v2 14 0) - 1))) := hD
        obtain rfl := Option.some.inj h
        subst hQ
        exact pw_rv hx hb hr hlk hAe hP hS dX2_leave_55
      clear h
      have L15_n1 : ∀ (n : Nat) (x2_15 : Int32) (u_15 : Nat → Nat → Int32) (H : Heap) (locs : List Loc) (ls : Array Slot), fX2_leave_L15  n x2_15 u_15 = some v2 → va_P D vwCl (WP cy q u_15) H → va_D A (WP cy q u_15) → va_S A s.heap H locs → lv_has ls 3 [(0, .ref (q 0)), (2, .int x2_15)] → W p l e ({ frames := 0, cells := 0, slots := 0, locals := 0 } : Room) s m args below meth c H locs 0 0 Q (F0 m 15 ls []) := by
        intro n
        induction n with
        | zero =>
          intro x2_15 u_15 H locs ls h hP hD hS hl
          exact pq_n h
        | succ n ih15 =>
          intro x2_15 u_15 H locs ls h hP hD hS hl
          rw [fX2_leave_L15] at h
          refine lv_iload_n hx hb dX2_leave_15 rfl (lv_at hl 1 rfl) ?_
          refine lv_iconst (v := 1) hx hb dX2_leave_16 (by decide) ?_
          refine lv_iadd hx hb dX2_leave_17 ?_
          refine lv_aload_n hx hb dX2_leave_18 rfl (lv_at hl 0 rfl) ?_
          refine va_get (D := D) (ci := 2) (v := .int (u_15 14 0)) (C := RX2) (T := TX2) (N := 16) hx hb hts hin hown hK hP 0 rfl rfl 14 (by decide) (hta _ aw_49) (fun _ h9 => h9) rfl dX2_leave_19 ?_
          refine lv_icmp_ge (tgt := 45) hx hb dX2_leave_22 (by decide) (fun c3_ => ?_) (fun c3_ => ?_)
          · have h := pq_t c3_ h
            obtain rfl := Option.some.inj h
            exact X45_v2 _ _ _ hP hD hS (lv_sub hl [0] rfl)
          · have h := pq_e c3_ h
            refine lv_aload_n hx hb dX2_leave_25 rfl (lv_at hl 0 rfl) ?_
            refine va_get (D := D) (ci := 2) (v := .ref (q 13)) (C := RX2) (T := TX2) (N := 16) hx hb hts hin hown hK hP 0 rfl rfl 13 (by decide) (hta _ aw_48) (fun _ h9 => h9) rfl dX2_leave_26 ?_
            refine lv_iload_n hx hb dX2_leave_29 rfl (lv_at hl 1 rfl) ?_
            refine lv_aload_n hx hb dX2_leave_30 rfl (lv_at hl 0 rfl) ?_
            refine va_get (D := D) (ci := 2) (v := .ref (q 13)) (C := RX2) (T := TX2) (N := 16) hx hb hts hin hown hK hP 0 rfl rfl 13 (by decide) (hta _ aw_48) (fun _ h9 => h9) rfl dX2_leave_31 ?_
            refine lv_iload_n hx hb dX2_leave_34 rfl (lv_at hl 1 rfl) ?_
            refine lv_iconst (v := 1) hx hb dX2_leave_35 (by decide) ?_
            refine lv_iadd hx hb dX2_leave_36 ?_
            obtain ⟨hg, h⟩ := pq_g h
            refine va_iald hx hb hK hP 13 0 rfl rfl (pq_vp hg) dX2_leave_37 ?_
            obtain ⟨hg, h⟩ := pq_g h
            refine va_iast hx hb hK hP hD hS 13 0 rfl rfl (pq_vp hg) dX2_leave_38 (fun H locs hP hD hS => ?_)
            have hP : va_P D vwCl (WP cy q (pu u_15 13 (upd (u_15 13) x2_15.toNatClampNeg ((u_15 13) (x2_15 + 1).toNatClampNeg)))) H := hP
            have hD : va_D A (WP cy q (pu u_15 13 (upd (u_15 13) x2_15.toNatClampNeg ((u_15 13) (x2_15 + 1).toNatClampNeg)))) := hD
            refine lv_iinc (v := x2_15 + 1) (lv' := [(2, .int (x2_15 + 1)), (0, .ref (q 0))]) hx hb dX2_leave_39 hl (k := 1) rfl (by first | rfl | decide) (by decide) rfl (fun ls hl => ?_)
            refine lv_goto (tgt := 15) hx hb dX2_leave_42 (by decide) ?_
            exact ih15 (x2_15 + 1) (pu u_15 13 (upd (u_15 13) x2_15.toNatClampNeg ((u_15 13) (x2_15 + 1).toNatClampNeg))) _ _ _ h hP hD hS (lv_sub hl [1, 0] rfl)
      have h := hv2
      exact L15_n1 1000 x1 u _ _ _ h hP hD hS (lv_sub hl [1, 0] rfl)
    · have h := pq_e c2_ h
      obtain rfl := Option.some.inj h
      subst hQ
      exact pw_rv hx hb hr hlk hAe hP hS dX2_leave_12

def aX2_lend : List Cond := Cond.code yX2_lend cX2_lend 3 none :: pw_all
theorem pX2_lend : yX2_lend.cls = RX2 ∧ yX2_lend.cls ≠ "java/lang/invoke/MethodHandle" ∧ yX2_lend.cls ≠ "java/lang/invoke/VarHandle" ∧ (parseMethodDescriptor yX2_lend.desc).map (fun d => d.parameters.length) = some 2 := by decide +kernel
set_option maxHeartbeats 8000000 in
set_option maxRecDepth 100000 in
theorem kX2_lend (l : Launch) (D : va_G) (cy : Nat → ClassId) (q : Nat → Nat) (sz : Nat) (u : Nat → Nat → Int32) (x1 : Int32) (x2 : Int32) (o : (Nat → Nat → Int32)) (h : fX2_lend x1 x2 u = some o) : Met l yX2_lend aX2_lend ({ frames := 0, cells := 0, slots := 0, locals := 0 }) (pw_Pre D cy [.ref (q 0), .int x1, .int x2] (WP cy q u) sz) (pw_V D (WP cy q u) (WP cy q o) sz) 0 0 (va_A (WP cy q u) sz) := by
  refine pw_met (cc := cX2_lend) (maxL := 3) (ret := none) (by decide) rfl (Nat.le_of_ble_eq_true rfl) ?_
  intro p e s m args below meth c ls A hx hb hr hml hlk hts hown hAe hA hK hP hD hS hl
  have hl : lv_has ls 3 [(0, .ref (q 0)), (1, .int x1), (2, .int x2)] := hl
  generalize hQ : MQ below (pw_V D (WP cy q u) (WP cy q o) sz) args s 0 0 (va_A (WP cy q u) sz) = Q
  have hF : CallFix p m c cX2_lend 3 s args aX2_lend RX2 := ⟨hx, hb, hml, hown, hts⟩
  have hta : ∀ w ∈ pw_all, w.before args s = true := fun w h => hts w (List.mem_cons_of_mem _ h)
  have hin : ∀ w ∈ wsX20, w ∈ aX2_lend := fun w h => List.mem_cons_of_mem _ (inA2 w h)
  unfold fX2_lend at h
  refine lv_aload_n hx hb dX2_lend_0 rfl (lv_at hl 0 rfl) ?_
  refine va_get (D := D) (ci := 2) (v := .ref (q 2)) (C := RX2) (T := TX2) (N := 16) hx hb hts hin hown hK hP 0 rfl rfl 2 (by decide) (hta _ aw_35) (fun _ h9 => h9) rfl dX2_lend_1 ?_
  refine lv_iload_n hx hb dX2_lend_4 rfl (lv_at hl 1 rfl) ?_
  refine lv_iconst (v := 2) hx hb dX2_lend_5 (by decide) ?_
  obtain ⟨hg, h⟩ := pq_g h
  refine va_iast hx hb hK hP hD hS 2 0 rfl rfl (pq_vp hg) dX2_lend_6 (fun H locs hP hD hS => ?_)
  have hP : va_P D vwCl (WP cy q (pu u 2 (upd (u 2) x1.toNatClampNeg 2))) H := hP
  have hD : va_D A (WP cy q (pu u 2 (upd (u 2) x1.toNatClampNeg 2))) := hD
  refine lv_aload_n hx hb dX2_lend_7 rfl (lv_at hl 0 rfl) ?_
  refine va_get (D := D) (ci := 2) (v := .ref (q 3)) (C := RX2) (T := TX2) (N := 16) hx hb hts hin hown hK hP 0 rfl rfl 3 (by decide) (hta _ aw_36) (fun _ h9 => h9) rfl dX2_lend_8 ?_
  refine lv_iload_n hx hb dX2_lend_11 rfl (lv_at hl 1 rfl) ?_
  refine lv_iload_n hx hb dX2_lend_12 rfl (lv_at hl 2 rfl) ?_
  obtain ⟨hg, h⟩ := pq_g h
  refine va_iast hx hb hK hP hD hS 3 0 rfl rfl (pq_vp hg) dX2_lend_13 (fun H locs hP hD hS => ?_)
  have hP : va_P D vwCl (WP cy q (pu (pu u 2 (upd (u 2) x1.toNatClampNeg 2)) 3 (upd (u 3) x1.toNatClampNeg x2))) H := hP
  have hD : va_D A (WP cy q (pu (pu u 2 (upd (u 2) x1.toNatClampNeg 2)) 3 (upd (u 3) x1.toNatClampNeg x2))) := hD
  refine lv_aload_n hx hb dX2_lend_14 rfl (lv_at hl 0 rfl) ?_
  refine va_get (D := D) (ci := 2) (v := .ref (q 6)) (C := RX2) (T := TX2) (N := 16) hx hb hts hin hown hK hP 0 rfl rfl 6 (by decide) (hta _ aw_39) (fun _ h9 => h9) rfl dX2_lend_15 ?_
  refine lv_iload_n hx hb dX2_lend_18 rfl (lv_at hl 1 rfl) ?_
  refine lv_aload_n hx hb dX2_lend_19 rfl (lv_at hl 0 rfl) ?_
  refine va_get (D := D) (ci := 2) (v := .int (u 0 0)) (C := RX2) (T := TX2) (N := 16) hx hb hts hin hown hK hP 0 rfl rfl 0 (by decide) (hta _ aw_32) (fun _ h9 => h9) rfl dX2_lend_20 ?_
  obtain ⟨hg, h⟩ := pq_g h
  refine va_iast hx hb hK hP hD hS 6 0 rfl rfl (pq_vp hg) dX2_lend_23 (fun H locs hP hD hS => ?_)
  have hP : va_P D vwCl (WP cy q (pu (pu (pu u 2 (upd (u 2) x1.toNatClampNeg 2)) 3 (upd (u 3) x1.toNatClampNeg x2)) 6 (upd (u 6) x1.toNatClampNeg (u 0 0)))) H := hP
  have hD : va_D A (WP cy q (pu (pu (pu u 2 (upd (u 2) x1.toNatClampNeg 2)) 3 (upd (u 3) x1.toNatClampNeg x2)) 6 (upd (u 6) x1.toNatClampNeg (u 0 0)))) := hD
  refine lv_aload_n hx hb dX2_lend_24 rfl (lv_at hl 0 rfl) ?_
  refine va_get (D := D) (ci := 2) (v := .ref (q 5)) (C := RX2) (T := TX2) (N := 16) hx hb hts hin hown hK hP 0 rfl rfl 5 (by decide) (hta _ aw_38) (fun _ h9 => h9) rfl dX2_lend_25 ?_
  refine lv_iload_n hx hb dX2_lend_28 rfl (lv_at hl 1 rfl) ?_
  refine lv_dup2_11 hx hb dX2_lend_29 rfl rfl ?_
  obtain ⟨hg, h⟩ := pq_g h
  refine va_iald hx hb hK hP 5 0 rfl rfl (pq_vp hg) dX2_lend_30 ?_
  refine lv_iconst (v := 1) hx hb dX2_lend_31 (by decide) ?_
  refine lv_iadd hx hb dX2_lend_32 ?_
  obtain ⟨hg, h⟩ := pq_g h
  refine va_iast hx hb hK hP hD hS 5 0 rfl rfl (pq_vp hg) dX2_lend_33 (fun H locs hP hD hS => ?_)
  have hP : va_P D vwCl (WP cy q (pu (pu (pu (pu u 2 (upd (u 2) x1.toNatClampNeg 2)) 3 (upd (u 3) x1.toNatClampNeg x2)) 5 (upd (u 5) x1.toNatClampNeg (((u 5) x1.toNatClampNeg) + 1))) 6 (upd (u 6) x1.toNatClampNeg (u 0 0)))) H := hP
  have hD : va_D A (WP cy q (pu (pu (pu (pu u 2 (upd (u 2) x1.toNatClampNeg 2)) 3 (upd (u 3) x1.toNatClampNeg x2)) 5 (upd (u 5) x1.toNatClampNeg (((u 5) x1.toNatClampNeg) + 1))) 6 (upd (u 6) x1.toNatClampNeg (u 0 0)))) := hD
  obtain ⟨w1, hw1, h⟩ := pq_b h
  have hw1 := Option.some.inj hw1
  rw [hw1] at hP hD
  refine lv_aload_n hx hb dX2_lend_34 rfl (lv_at hl 0 rfl) ?_
  refine va_get (D := D) (ci := 2) (v := .ref (q 9)) (C := RX2) (T := TX2) (N := 16) hx hb hts hin hown hK hP 0 rfl rfl 9 (by decide) (hta _ aw_43) (fun _ h9 => h9) rfl dX2_lend_35 ?_
  refine lv_iload_n hx hb dX2_lend_38 rfl (lv_at hl 2 rfl) ?_
  refine lv_dup2_11 hx hb dX2_lend_39 rfl rfl ?_
  obtain ⟨hg, h⟩ := pq_g h
  refine va_iald hx hb hK hP 9 0 rfl rfl (pq_vp hg) dX2_lend_40 ?_
  refine lv_iconst (v := 1) hx hb dX2_lend_41 (by decide) ?_
  refine lv_iadd hx hb dX2_lend_42 ?_
  obtain ⟨hg, h⟩ := pq_g h
  refine va_iast hx hb hK hP hD hS 9 0 rfl rfl (pq_vp hg) dX2_lend_43 (fun H locs hP hD hS => ?_)
  have hP : va_P D vwCl (WP cy q (pu w1 9 (upd (w1 9) x2.toNatClampNeg (((w1 9) x2.toNatClampNeg) + 1)))) H := hP
  have hD : va_D A (WP cy q (pu w1 9 (upd (w1 9) x2.toNatClampNeg (((w1 9) x2.toNatClampNeg) + 1)))) := hD
  refine lv_aload_n hx hb dX2_lend_44 rfl (lv_at hl 0 rfl) ?_
  refine va_get (D := D) (ci := 2) (v := .ref (q 15)) (C := RX2) (T := TX2) (N := 16) hx hb hts hin hown hK hP 0 rfl rfl 15 (by decide) (hta _ aw_51) (fun _ h9 => h9) rfl dX2_lend_45 ?_
  refine lv_bipush (v := 6) hx hb dX2_lend_48 (by decide) ?_
  refine lv_dup2_11 hx hb dX2_lend_50 rfl rfl ?_
  refine va_iald hx hb hK hP 14 0 rfl rfl (pq_vp (by decide +kernel)) dX2_lend_51 ?_
  refine lv_iconst (v := 1) hx hb dX2_lend_52 (by decide) ?_
  refine lv_iadd hx hb dX2_lend_53 ?_
  refine va_iast hx hb hK hP hD hS 14 0 rfl rfl (pq_vp (by decide +kernel)) dX2_lend_54 (fun H locs hP hD hS => ?_)
  have hP : va_P D vwCl (WP cy q (pu (pu w1 9 (upd (w1 9) x2.toNatClampNeg (((w1 9) x2.toNatClampNeg) + 1))) 15 (upd (w1 15) (6 : Int32).toNatClampNeg (((w1 15) (6 : Int32).toNatClampNeg) + 1)))) H := hP
  have hD : va_D A (WP cy q (pu (pu w1 9 (upd (w1 9) x2.toNatClampNeg (((w1 9) x2.toNatClampNeg) + 1))) 15 (upd (w1 15) (6 : Int32).toNatClampNeg (((w1 15) (6 : Int32).toNatClampNeg) + 1)))) := hD
  obtain rfl := Option.some.inj h
  subst hQ
  exact pw_rv hx hb hr hlk hAe hP hS dX2_lend_55

def aX2_serveWaiters : List Cond := Cond.code yX2_serveWaiters cX2_serveWaiters 7 (some .int) :: pw_all
theorem pX2_serveWaiters : yX2_serveWaiters.cls = RX2 ∧ yX2_serveWaiters.cls ≠ "java/lang/invoke/MethodHandle" ∧ yX2_serveWaiters.cls ≠ "java/lang/invoke/VarHandle" ∧ (parseMethodDescriptor yX2_serveWaiters.desc).map (fun d => d.parameters.length) = some 1 := by decide +kernel
set_option maxHeartbeats 8000000 in
set_option maxRecDepth 100000 in
theorem kX2_serveWaiters (l : Launch) (D : va_G) (cy : Nat → ClassId) (q : Nat → Nat) (sz : Nat) (u : Nat → Nat → Int32) (x1 : Int32) (o : Int32 × (Nat → Nat → Int32)) (h : fX2_serveWaiters x1 u = some o) : Met l yX2_serveWaiters aX2_serveWaiters ({ frames := 3, cells := 0, slots := 0, locals := 66 }) (pw_Pre D cy [.ref (q 0), .int x1] (WP cy q u) sz) (pw_I D o.1 (WP cy q u) (WP cy q o.2) sz) 0 0 (va_A (WP cy q u) sz) := by
  refine pw_met (cc := cX2_serveWaiters) (maxL := 7) (ret := (some .int)) (by decide) rfl (Nat.le_of_ble_eq_true rfl) ?_
  intro p e s m args below meth c ls A hx hb hr hml hlk hts hown hAe hA hK hP hD hS hl
  have hl : lv_has ls 7 [(0, .ref (q 0)), (1, .int x1)] := hl
  generalize hQ : MQ below (pw_I D o.1 (WP cy q u) (WP cy q o.2) sz) args s 0 0 (va_A (WP cy q u) sz) = Q
  have hF : CallFix p m c cX2_serveWaiters 7 s args aX2_serveWaiters RX2 := ⟨hx, hb, hml, hown, hts⟩
  have hta : ∀ w ∈ pw_all, w.before args s = true := fun w h => hts w (List.mem_cons_of_mem _ h)
  have hin : ∀ w ∈ wsX20, w ∈ aX2_serveWaiters := fun w h => List.mem_cons_of_mem _ (inA2 w h)
  unfold fX2_serveWaiters at h
  refine lv_iconst (v := (-1)) hx hb dX2_serveWaiters_0 (by decide) ?_
  refine lv_istore_n (lv' := [(2, .int (-1)), (0, .ref (q 0)), (1, .int x1)]) hx hb dX2_serveWaiters_1 rfl hl (by decide) rfl (fun ls hl => ?_)
  refine lv_iconst (v := 0) hx hb dX2_serveWaiters_2 (by decide) ?_
  refine lv_istore_n (lv' := [(3, .int 0), (2, .int (-1)), (0, .ref (q 0)), (1, .int x1)]) hx hb dX2_serveWaiters_3 rfl hl (by decide) rfl (fun ls hl => ?_)
  have L4_n1 : ∀ (n : Nat) (x2_4 : Int32) (x3_4 : Int32) (u_4 : Nat → Nat → Int32) (H : Heap) (locs : List Loc) (ls : Array Slot), fX2_serveWaiters_L4 x1 n x2_4 x3_4 u_4 = some o → va_P D vwCl (WP cy q u_4) H → va_D A (WP cy q u_4) → va_S A s.heap H locs → lv_has ls 7 [(0, .ref (q 0)), (1, .int x1), (2, .int x2_4), (3, .int x3_4)] → W p l e ({ frames := 3, cells := 0, slots := 0, locals := 66 } : Room) s m args below meth c H locs 0 0 Q (F0 m 4 ls []) := by
    intro n
    induction n with
    | zero =>
      intro x2_4 x3_4 u_4 H locs ls h hP hD hS hl
      exact pq_n h
    | succ n ih4 =>
      intro x2_4 x3_4 u_4 H locs ls h hP hD hS hl
      rw [fX2_serveWaiters_L4] at h
      refine lv_iload_n hx hb dX2_serveWaiters_4 rfl (lv_at hl 3 rfl) ?_
      refine lv_bipush (v := 8) hx hb dX2_serveWaiters_5 (by decide) ?_
      refine lv_icmp_ge (tgt := 101) hx hb dX2_serveWaiters_7 (by decide) (fun c1_ => ?_) (fun c1_ => ?_)
      · have h := pq_t c1_ h
        refine lv_iload_n hx hb dX2_serveWaiters_101 rfl (lv_at hl 2 rfl) ?_
        obtain rfl := Option.some.inj h
        subst hQ
        exact pw_ri hx hb hr hlk hAe hP hS rfl dX2_serveWaiters_102
      · have h := pq_e c1_ h
        refine lv_aload_n hx hb dX2_serveWaiters_10 rfl (lv_at hl 0 rfl) ?_
        obtain ⟨r2, hr2, h⟩ := pq_b h
        refine pw_ci (w1 := WP cy q u_4) (rest := []) (As := []) hF (kX2_firstTurnThatMayHaveOne l D cy q _ u_4  r2 hr2) (cwV 0 hts (pw_gV (own := RX2) (idx := 126) (C := RX2) (y := yX2_firstTurnThatMayHaveOne) aw_265 aw_267 aw_s2 aw_2 aw_268) rfl rfl rfl pX2_firstTurnThatMayHaveOne ⟨Nat.le_of_ble_eq_true rfl, Nat.le_of_ble_eq_true rfl⟩) (va_recv hK hP (ci := 2) (q0 := 0) rfl rfl) hK hP hD hS hA rfl rfl hl.1 rfl (Nat.le_of_ble_eq_true rfl) dX2_serveWaiters_11 ⟨Nat.zero_le _, Nat.zero_le _⟩ (fun H locs hP hD hS => ?_)
        refine lv_istore (lv' := [(4, .int r2), (0, .ref (q 0)), (1, .int x1), (2, .int x2_4), (3, .int x3_4)]) hx hb dX2_serveWaiters_14 hl (by decide) rfl (fun ls hl => ?_)
        refine lv_iload hx hb dX2_serveWaiters_16 (lv_at hl 0 rfl) ?_
        refine lv_iconst (v := (-1)) hx hb dX2_serveWaiters_18 (by decide) ?_
        obtain ⟨v3, hv3, h⟩ := pq_b h
        have J30_v3 : ∀ (H : Heap) (locs : List Loc) (ls : Array Slot), va_P D vwCl (WP cy q v3.2) H → va_D A (WP cy q v3.2) → va_S A s.heap H locs → lv_has ls 7 [(0, .ref (q 0)), (1, .int x1), (2, .int x2_4), (3, .int x3_4), (4, .int r2)] → W p l e ({ frames := 3, cells := 0, slots := 0, locals := 66 } : Room) s m args below meth c H locs 0 0 Q (F0 m 30 ls [.int v3.1]) := by
          intro H locs ls hP hD hS hl
          refine lv_istore (lv' := [(5, .int v3.1), (0, .ref (q 0)), (1, .int x1), (2, .int x2_4), (3, .int x3_4), (4, .int r2)]) hx hb dX2_serveWaiters_30 hl (by decide) rfl (fun ls hl => ?_)
          refine lv_iload hx hb dX2_serveWaiters_32 (lv_at hl 0 rfl) ?_
          refine lv_iconst (v := (-1)) hx hb dX2_serveWaiters_34 (by decide) ?_
          refine lv_icmp_ne (tgt := 41) hx hb dX2_serveWaiters_35 (by decide) (fun c3_ => ?_) (fun c3_ => ?_)
          · have h := pq_e c3_ h
            refine lv_aload_n hx hb dX2_serveWaiters_41 rfl (lv_at hl 1 rfl) ?_
            refine va_get (D := D) (ci := 2) (v := .ref (q 13)) (C := RX2) (T := TX2) (N := 16) hx hb hts hin hown hK hP 0 rfl rfl 13 (by decide) (hta _ aw_48) (fun _ h9 => h9) rfl dX2_serveWaiters_42 ?_
            refine lv_iload hx hb dX2_serveWaiters_45 (lv_at hl 5 rfl) ?_
            obtain ⟨hg, h⟩ := pq_g h
            refine va_iald hx hb hK hP 13 0 rfl rfl (pq_vp hg) dX2_serveWaiters_47 ?_
            refine lv_istore (lv' := [(6, .int ((v3.2 13) r2.toNatClampNeg)), (5, .int v3.1), (0, .ref (q 0)), (1, .int x1), (2, .int x2_4), (3, .int x3_4), (4, .int r2)]) hx hb dX2_serveWaiters_48 hl (by decide) rfl (fun ls hl => ?_)
            refine lv_aload_n hx hb dX2_serveWaiters_50 rfl (lv_at hl 2 rfl) ?_
            refine va_get (D := D) (ci := 2) (v := .ref (q 11)) (C := RX2) (T := TX2) (N := 16) hx hb hts hin hown hK hP 0 rfl rfl 11 (by decide) (hta _ aw_46) (fun _ h9 => h9) rfl dX2_serveWaiters_51 ?_
            refine lv_iload hx hb dX2_serveWaiters_54 (lv_at hl 0 rfl) ?_
            refine lv_dup2_11 hx hb dX2_serveWaiters_56 rfl rfl ?_
            obtain ⟨hg, h⟩ := pq_g h
            refine va_iald hx hb hK hP 11 0 rfl rfl (pq_vp hg) dX2_serveWaiters_57 ?_
            refine lv_aload_n hx hb dX2_serveWaiters_58 rfl (lv_at hl 2 rfl) ?_
            refine va_get (D := D) (ci := 2) (v := .int (v3.2 0 0)) (C := RX2) (T := TX2) (N := 16) hx hb hts hin hown hK hP 0 rfl rfl 0 (by decide) (hta _ aw_32) (fun _ h9 => h9) rfl dX2_serveWaiters_59 ?_
            refine lv_aload_n hx hb dX2_serveWaiters_62 rfl (lv_at hl 2 rfl) ?_
            refine va_get (D := D) (ci := 2) (v := .ref (q 12)) (C := RX2) (T := TX2) (N := 16) hx hb hts hin hown hK hP 0 rfl rfl 12 (by decide) (hta _ aw_47) (fun _ h9 => h9) rfl dX2_serveWaiters_63 ?_
            refine lv_iload hx hb dX2_serveWaiters_66 (lv_at hl 0 rfl) ?_
            obtain ⟨hg, h⟩ := pq_g h
            refine va_iald hx hb hK hP 12 0 rfl rfl (pq_vp hg) dX2_serveWaiters_68 ?_
            refine lv_isub hx hb dX2_serveWaiters_69 ?_
            refine lv_iadd hx hb dX2_serveWaiters_70 ?_
            obtain ⟨hg, h⟩ := pq_g h
            refine va_iast hx hb hK hP hD hS 11 0 rfl rfl (pq_vp hg) dX2_serveWaiters_71 (fun H locs hP hD hS => ?_)
            have hP : va_P D vwCl (WP cy q (pu v3.2 11 (upd (v3.2 11) ((v3.2 13) r2.toNatClampNeg).toNatClampNeg (((v3.2 11) ((v3.2 13) r2.toNatClampNeg).toNatClampNeg) + ((v3.2 0 0) - ((v3.2 12) ((v3.2 13) r2.toNatClampNeg).toNatClampNeg)))))) H := hP
            have hD : va_D A (WP cy q (pu v3.2 11 (upd (v3.2 11) ((v3.2 13) r2.toNatClampNeg).toNatClampNeg (((v3.2 11) ((v3.2 13) r2.toNatClampNeg).toNatClampNeg) + ((v3.2 0 0) - ((v3.2 12) ((v3.2 13) r2.toNatClampNeg).toNatClampNeg)))))) := hD
            refine lv_aload_n hx hb dX2_serveWaiters_72 rfl (lv_at hl 2 rfl) ?_
            refine lv_iload hx hb dX2_serveWaiters_73 (lv_at hl 6 rfl) ?_
            obtain ⟨r5, hr5, h⟩ := pq_b h
            refine pw_cv (w1 := WP cy q r5) (rest := []) (As := [.int r2]) hF (kX2_leave l D cy q _ (pu v3.2 11 (upd (v3.2 11) ((v3.2 13) r2.toNatClampNeg).toNatClampNeg (((v3.2 11) ((v3.2 13) r2.toNatClampNeg).toNatClampNeg) + ((v3.2 0 0) - ((v3.2 12) ((v3.2 13) r2.toNatClampNeg).toNatClampNeg))))) r2 r5 hr5) (cwV 1 hts (pw_gV (own := RX2) (idx := 104) (C := RX2) (y := yX2_leave) aw_257 aw_259 aw_s1 aw_2 aw_260) rfl rfl rfl pX2_leave ⟨Nat.le_of_ble_eq_true rfl, Nat.le_of_ble_eq_true rfl⟩) (va_recv hK hP (ci := 2) (q0 := 0) rfl rfl) hK hP hD hS hA rfl rfl hl.1 rfl (Nat.le_of_ble_eq_true rfl) dX2_serveWaiters_75 ⟨Nat.zero_le _, Nat.zero_le _⟩ (fun H locs hP hD hS => ?_)
            refine lv_aload_n hx hb dX2_serveWaiters_78 rfl (lv_at hl 2 rfl) ?_
            refine lv_iload hx hb dX2_serveWaiters_79 (lv_at hl 1 rfl) ?_
            refine lv_iload hx hb dX2_serveWaiters_81 (lv_at hl 0 rfl) ?_
            obtain ⟨r6, hr6, h⟩ := pq_b h
            refine pw_cv (w1 := WP cy q r6) (rest := []) (As := [.int v3.1, .int ((v3.2 13) r2.toNatClampNeg)]) hF (kX2_lend l D cy q _ r5 v3.1 ((v3.2 13) r2.toNatClampNeg) r6 hr6) (cwV 2 hts (pw_gV (own := RX2) (idx := 132) (C := RX2) (y := yX2_lend) aw_313 aw_315 aw_s9 aw_2 aw_316) rfl rfl rfl pX2_lend ⟨Nat.le_of_ble_eq_true rfl, Nat.le_of_ble_eq_true rfl⟩) (va_recv hK hP (ci := 2) (q0 := 0) rfl rfl) hK hP hD hS hA rfl rfl hl.1 rfl (Nat.le_of_ble_eq_true rfl) dX2_serveWaiters_83 ⟨Nat.zero_le _, Nat.zero_le _⟩ (fun H locs hP hD hS => ?_)
            refine lv_iload hx hb dX2_serveWaiters_86 (lv_at hl 0 rfl) ?_
            refine lv_iload_n hx hb dX2_serveWaiters_88 rfl (lv_at hl 3 rfl) ?_
            refine lv_icmp_ne (tgt := 95) hx hb dX2_serveWaiters_89 (by decide) (fun c4_ => ?_) (fun c4_ => ?_)
            · have h := pq_e c4_ h
              refine lv_iinc (v := x3_4 + 1) (lv' := [(3, .int (x3_4 + 1)), (6, .int ((v3.2 13) r2.toNatClampNeg)), (5, .int v3.1), (0, .ref (q 0)), (1, .int x1), (2, .int x2_4), (4, .int r2)]) hx hb dX2_serveWaiters_95 hl (k := 5) rfl (by first | rfl | decide) (by decide) rfl (fun ls hl => ?_)
              refine lv_goto (tgt := 4) hx hb dX2_serveWaiters_98 (by decide) ?_
              exact ih4 x2_4 (x3_4 + 1) r6 _ _ _ h hP hD hS (lv_sub hl [3, 4, 5, 0] rfl)
            · have h := pq_t c4_ h
              refine lv_iload hx hb dX2_serveWaiters_92 (lv_at hl 1 rfl) ?_
              refine lv_istore_n (lv' := [(2, .int v3.1), (6, .int ((v3.2 13) r2.toNatClampNeg)), (5, .int v3.1), (0, .ref (q 0)), (1, .int x1), (3, .int x3_4), (4, .int r2)]) hx hb dX2_serveWaiters_94 rfl hl (by decide) rfl (fun ls hl => ?_)
              refine lv_iinc (v := x3_4 + 1) (lv' := [(3, .int (x3_4 + 1)), (2, .int v3.1), (6, .int ((v3.2 13) r2.toNatClampNeg)), (5, .int v3.1), (0, .ref (q 0)), (1, .int x1), (4, .int r2)]) hx hb dX2_serveWaiters_95 hl (k := 5) rfl (by first | rfl | decide) (by decide) rfl (fun ls hl => ?_)
              refine lv_goto (tgt := 4) hx hb dX2_serveWaiters_98 (by decide) ?_
              exact ih4 v3.1 (x3_4 + 1) r6 _ _ _ h hP hD hS (lv_sub hl [4, 5, 1, 0] rfl)
          · have h := pq_t c3_ h
            refine lv_goto (tgt := 101) hx hb dX2_serveWaiters_38 (by decide) ?_
            refine lv_iload_n hx hb dX2_serveWaiters_101 rfl (lv_at hl 3 rfl) ?_
            obtain rfl := Option.some.inj h
            subst hQ
            exact pw_ri hx hb hr hlk hAe hP hS rfl dX2_serveWaiters_102
        clear h
        have h := hv3
        clear hv3
        refine lv_icmp_ne (tgt := 26) hx hb dX2_serveWaiters_19 (by decide) (fun c2_ => ?_) (fun c2_ => ?_)
        · have h := pq_e c2_ h
          refine lv_aload_n hx hb dX2_serveWaiters_26 rfl (lv_at hl 1 rfl) ?_
          obtain ⟨r4, hr4, h⟩ := pq_b h
          refine pw_ci (w1 := WP cy q r4.2) (rest := []) (As := []) hF (kX2_findConnection l D cy q _ u_4  r4 hr4) (cwV 0 hts (pw_gV (own := RX2) (idx := 129) (C := RX2) (y := yX2_findConnection) aw_277 aw_279 aw_s3 aw_2 aw_280) rfl rfl rfl pX2_findConnection ⟨Nat.le_of_ble_eq_true rfl, Nat.le_of_ble_eq_true rfl⟩) (va_recv hK hP (ci := 2) (q0 := 0) rfl rfl) hK hP hD hS hA rfl rfl hl.1 rfl (Nat.le_of_ble_eq_true rfl) dX2_serveWaiters_27 ⟨Nat.zero_le _, Nat.zero_le _⟩ (fun H locs hP hD hS => ?_)
          obtain rfl := Option.some.inj h
          exact J30_v3 _ _ _ hP hD hS (lv_sub hl [1, 2, 3, 4, 0] rfl)
        · have h := pq_t c2_ h
          refine lv_iconst (v := (-1)) hx hb dX2_serveWaiters_22 (by decide) ?_
          refine lv_goto (tgt := 30) hx hb dX2_serveWaiters_23 (by decide) ?_
          obtain rfl := Option.some.inj h
          exact J30_v3 _ _ _ hP hD hS (lv_sub hl [1, 2, 3, 4, 0] rfl)
  exact L4_n1 1000 (-1) 0 u _ _ _ h hP hD hS (lv_sub hl [2, 3, 1, 0] rfl)

def aX2_request : List Cond := Cond.code yX2_request cX2_request 2 (some .int) :: pw_all
theorem pX2_request : yX2_request.cls = RX2 ∧ yX2_request.cls ≠ "java/lang/invoke/MethodHandle" ∧ yX2_request.cls ≠ "java/lang/invoke/VarHandle" ∧ (parseMethodDescriptor yX2_request.desc).map (fun d => d.parameters.length) = some 1 := by decide +kernel
set_option maxHeartbeats 8000000 in
set_option maxRecDepth 100000 in
theorem kX2_request (l : Launch) (D : va_G) (cy : Nat → ClassId) (q : Nat → Nat) (sz : Nat) (u : Nat → Nat → Int32) (x1 : Int32) (o : Int32 × (Nat → Nat → Int32)) (h : fX2_request x1 u = some o) : Met l yX2_request aX2_request ({ frames := 4, cells := 0, slots := 0, locals := 92 }) (pw_Pre D cy [.ref (q 0), .int x1] (WP cy q u) sz) (pw_I D o.1 (WP cy q u) (WP cy q o.2) sz) 0 0 (va_A (WP cy q u) sz) := by
  refine pw_met (cc := cX2_request) (maxL := 2) (ret := (some .int)) (by decide) rfl (Nat.le_of_ble_eq_true rfl) ?_
  intro p e s m args below meth c ls A hx hb hr hml hlk hts hown hAe hA hK hP hD hS hl
  have hl : lv_has ls 2 [(0, .ref (q 0)), (1, .int x1)] := hl
  generalize hQ : MQ below (pw_I D o.1 (WP cy q u) (WP cy q o.2) sz) args s 0 0 (va_A (WP cy q u) sz) = Q
  have hF : CallFix p m c cX2_request 2 s args aX2_request RX2 := ⟨hx, hb, hml, hown, hts⟩
  have hta : ∀ w ∈ pw_all, w.before args s = true := fun w h => hts w (List.mem_cons_of_mem _ h)
  have hin : ∀ w ∈ wsX20, w ∈ aX2_request := fun w h => List.mem_cons_of_mem _ (inA2 w h)
  unfold fX2_request at h
  refine lv_aload_n hx hb dX2_request_0 rfl (lv_at hl 0 rfl) ?_
  refine va_get (D := D) (ci := 2) (v := .int (u 14 0)) (C := RX2) (T := TX2) (N := 16) hx hb hts hin hown hK hP 0 rfl rfl 14 (by decide) (hta _ aw_49) (fun _ h9 => h9) rfl dX2_request_1 ?_
  refine lv_bipush (v := 8) hx hb dX2_request_4 (by decide) ?_
  refine lv_icmp_ge (tgt := 39) hx hb dX2_request_6 (by decide) (fun c1_ => ?_) (fun c1_ => ?_)
  · have h := pq_t c1_ h
    refine lv_aload_n hx hb dX2_request_39 rfl (lv_at hl 0 rfl) ?_
    refine lv_iload_n hx hb dX2_request_40 rfl (lv_at hl 1 rfl) ?_
    obtain ⟨r1, hr1, h⟩ := pq_b h
    refine pw_ci (w1 := WP cy q r1.2) (rest := []) (As := [.int x1]) hF (kX2_serveWaiters l D cy q _ u x1 r1 hr1) (cwV 1 hts (pw_gV (own := RX2) (idx := 101) (C := RX2) (y := yX2_serveWaiters) aw_261 aw_262 aw_263 aw_2 aw_264) rfl rfl rfl pX2_serveWaiters ⟨Nat.le_of_ble_eq_true rfl, Nat.le_of_ble_eq_true rfl⟩) (va_recv hK hP (ci := 2) (q0 := 0) rfl rfl) hK hP hD hS hA rfl rfl hl.1 rfl (Nat.le_of_ble_eq_true rfl) dX2_request_41 ⟨Nat.zero_le _, Nat.zero_le _⟩ (fun H locs hP hD hS => ?_)
    obtain rfl := Option.some.inj h
    subst hQ
    exact pw_ri hx hb hr hlk hAe hP hS rfl dX2_request_44
  · have h := pq_e c1_ h
    refine lv_aload_n hx hb dX2_request_9 rfl (lv_at hl 0 rfl) ?_
    refine va_get (D := D) (ci := 2) (v := .ref (q 13)) (C := RX2) (T := TX2) (N := 16) hx hb hts hin hown hK hP 0 rfl rfl 13 (by decide) (hta _ aw_48) (fun _ h9 => h9) rfl dX2_request_10 ?_
    refine lv_aload_n hx hb dX2_request_13 rfl (lv_at hl 0 rfl) ?_
    refine va_get (D := D) (ci := 2) (v := .int (u 14 0)) (C := RX2) (T := TX2) (N := 16) hx hb hts hin hown hK hP 0 rfl rfl 14 (by decide) (hta _ aw_49) (fun _ h9 => h9) rfl dX2_request_14 ?_
    refine lv_iload_n hx hb dX2_request_17 rfl (lv_at hl 1 rfl) ?_
    obtain ⟨hg, h⟩ := pq_g h
    refine va_iast hx hb hK hP hD hS 13 0 rfl rfl (pq_vp hg) dX2_request_18 (fun H locs hP hD hS => ?_)
    have hP : va_P D vwCl (WP cy q (pu u 13 (upd (u 13) (u 14 0).toNatClampNeg x1))) H := hP
    have hD : va_D A (WP cy q (pu u 13 (upd (u 13) (u 14 0).toNatClampNeg x1))) := hD
    refine lv_aload_n hx hb dX2_request_19 rfl (lv_at hl 0 rfl) ?_
    refine lv_dup hx hb dX2_request_20 rfl ?_
    refine va_get (D := D) (ci := 2) (v := .int (u 14 0)) (C := RX2) (T := TX2) (N := 16) hx hb hts hin hown hK hP 0 rfl rfl 14 (by decide) (hta _ aw_49) (fun _ h9 => h9) rfl dX2_request_21 ?_
    refine lv_iconst (v := 1) hx hb dX2_request_24 (by decide) ?_
    refine lv_iadd hx hb dX2_request_25 ?_
    refine va_put (D := D) (ci := 2) (v := .int ((u 14 0) + 1)) (ty := .int) (C := RX2) (T := TX2) (N := 16) hx hb hts hin tyX2 tyX2_ok nmX2 hown hK hP hD hS 0 rfl rfl 14 (by decide) (hta _ aw_49) (fun _ h9 => h9) rfl (by decide +kernel) rfl rfl (Nat.le_of_ble_eq_true rfl) dX2_request_26 (fun H locs hP hD hS => ?_)
    have hP : va_P D vwCl (WP cy q (pu (pu u 13 (upd (u 13) (u 14 0).toNatClampNeg x1)) 14 (fun _ => (u 14 0) + 1))) H := hP
    have hD : va_D A (WP cy q (pu (pu u 13 (upd (u 13) (u 14 0).toNatClampNeg x1)) 14 (fun _ => (u 14 0) + 1))) := hD
    refine lv_aload_n hx hb dX2_request_29 rfl (lv_at hl 0 rfl) ?_
    refine va_get (D := D) (ci := 2) (v := .ref (q 12)) (C := RX2) (T := TX2) (N := 16) hx hb hts hin hown hK hP 0 rfl rfl 12 (by decide) (hta _ aw_47) (fun _ h9 => h9) rfl dX2_request_30 ?_
    refine lv_iload_n hx hb dX2_request_33 rfl (lv_at hl 1 rfl) ?_
    refine lv_aload_n hx hb dX2_request_34 rfl (lv_at hl 0 rfl) ?_
    refine va_get (D := D) (ci := 2) (v := .int (u 0 0)) (C := RX2) (T := TX2) (N := 16) hx hb hts hin hown hK hP 0 rfl rfl 0 (by decide) (hta _ aw_32) (fun _ h9 => h9) rfl dX2_request_35 ?_
    obtain ⟨hg, h⟩ := pq_g h
    refine va_iast hx hb hK hP hD hS 12 0 rfl rfl (pq_vp hg) dX2_request_38 (fun H locs hP hD hS => ?_)
    have hP : va_P D vwCl (WP cy q (pu (pu (pu u 12 (upd (u 12) x1.toNatClampNeg (u 0 0))) 13 (upd (u 13) (u 14 0).toNatClampNeg x1)) 14 (fun _ => (u 14 0) + 1))) H := hP
    have hD : va_D A (WP cy q (pu (pu (pu u 12 (upd (u 12) x1.toNatClampNeg (u 0 0))) 13 (upd (u 13) (u 14 0).toNatClampNeg x1)) 14 (fun _ => (u 14 0) + 1))) := hD
    refine lv_aload_n hx hb dX2_request_39 rfl (lv_at hl 0 rfl) ?_
    refine lv_iload_n hx hb dX2_request_40 rfl (lv_at hl 1 rfl) ?_
    obtain ⟨r2, hr2, h⟩ := pq_b h
    refine pw_ci (w1 := WP cy q r2.2) (rest := []) (As := [.int x1]) hF (kX2_serveWaiters l D cy q _ (pu (pu (pu u 12 (upd (u 12) x1.toNatClampNeg (u 0 0))) 13 (upd (u 13) (u 14 0).toNatClampNeg x1)) 14 (fun _ => (u 14 0) + 1)) x1 r2 hr2) (cwV 1 hts (pw_gV (own := RX2) (idx := 101) (C := RX2) (y := yX2_serveWaiters) aw_261 aw_262 aw_263 aw_2 aw_264) rfl rfl rfl pX2_serveWaiters ⟨Nat.le_of_ble_eq_true rfl, Nat.le_of_ble_eq_true rfl⟩) (va_recv hK hP (ci := 2) (q0 := 0) rfl rfl) hK hP hD hS hA rfl rfl hl.1 rfl (Nat.le_of_ble_eq_true rfl) dX2_request_41 ⟨Nat.zero_le _, Nat.zero_le _⟩ (fun H locs hP hD hS => ?_)
    obtain rfl := Option.some.inj h
    subst hQ
    exact pw_ri hx hb hr hlk hAe hP hS rfl dX2_request_44

def aX2_canTakeBack : List Cond := Cond.code yX2_canTakeBack cX2_canTakeBack 2 (some .boolean) :: pw_all
theorem pX2_canTakeBack : yX2_canTakeBack.cls = RX2 ∧ yX2_canTakeBack.cls ≠ "java/lang/invoke/MethodHandle" ∧ yX2_canTakeBack.cls ≠ "java/lang/invoke/VarHandle" ∧ (parseMethodDescriptor yX2_canTakeBack.desc).map (fun d => d.parameters.length) = some 1 := by decide +kernel
set_option maxHeartbeats 8000000 in
set_option maxRecDepth 100000 in
theorem kX2_canTakeBack (l : Launch) (D : va_G) (cy : Nat → ClassId) (q : Nat → Nat) (sz : Nat) (u : Nat → Nat → Int32) (x1 : Int32) (o : Int32) (h : fX2_canTakeBack x1 u = some o) : Met l yX2_canTakeBack aX2_canTakeBack ({ frames := 1, cells := 0, slots := 0, locals := 21 }) (pw_Pre D cy [.ref (q 0), .int x1] (WP cy q u) sz) (pw_I D o (WP cy q u) (WP cy q u) sz) 0 0 (va_A (WP cy q u) sz) := by
  refine pw_met (cc := cX2_canTakeBack) (maxL := 2) (ret := (some .boolean)) (by decide) rfl (Nat.le_of_ble_eq_true rfl) ?_
  intro p e s m args below meth c ls A hx hb hr hml hlk hts hown hAe hA hK hP hD hS hl
  have hl : lv_has ls 2 [(0, .ref (q 0)), (1, .int x1)] := hl
  generalize hQ : MQ below (pw_I D o (WP cy q u) (WP cy q u) sz) args s 0 0 (va_A (WP cy q u) sz) = Q
  have hF : CallFix p m c cX2_canTakeBack 2 s args aX2_canTakeBack RX2 := ⟨hx, hb, hml, hown, hts⟩
  have hta : ∀ w ∈ pw_all, w.before args s = true := fun w h => hts w (List.mem_cons_of_mem _ h)
  have hin : ∀ w ∈ wsX20, w ∈ aX2_canTakeBack := fun w h => List.mem_cons_of_mem _ (inA2 w h)
  unfold fX2_canTakeBack at h
  refine lv_aload_n hx hb dX2_canTakeBack_0 rfl (lv_at hl 0 rfl) ?_
  refine va_get (D := D) (ci := 2) (v := .ref (q 2)) (C := RX2) (T := TX2) (N := 16) hx hb hts hin hown hK hP 0 rfl rfl 2 (by decide) (hta _ aw_35) (fun _ h9 => h9) rfl dX2_canTakeBack_1 ?_
  refine lv_iload_n hx hb dX2_canTakeBack_4 rfl (lv_at hl 1 rfl) ?_
  obtain ⟨hg, h⟩ := pq_g h
  refine va_iald hx hb hK hP 2 0 rfl rfl (pq_vp hg) dX2_canTakeBack_5 ?_
  refine lv_iconst (v := 2) hx hb dX2_canTakeBack_6 (by decide) ?_
  refine lv_icmp_ne (tgt := 27) hx hb dX2_canTakeBack_7 (by decide) (fun c1_ => ?_) (fun c1_ => ?_)
  · have h := pq_e c1_ h
    refine lv_iconst (v := 0) hx hb dX2_canTakeBack_27 (by decide) ?_
    obtain rfl := Option.some.inj h
    subst hQ
    exact pw_rz hx hb hr rfl hlk hAe hP hS rfl dX2_canTakeBack_28
  · have h := pq_t c1_ h
    refine lv_aload_n hx hb dX2_canTakeBack_10 rfl (lv_at hl 0 rfl) ?_
    refine lv_aload_n hx hb dX2_canTakeBack_11 rfl (lv_at hl 0 rfl) ?_
    refine va_get (D := D) (ci := 2) (v := .ref (q 3)) (C := RX2) (T := TX2) (N := 16) hx hb hts hin hown hK hP 0 rfl rfl 3 (by decide) (hta _ aw_36) (fun _ h9 => h9) rfl dX2_canTakeBack_12 ?_
    refine lv_iload_n hx hb dX2_canTakeBack_15 rfl (lv_at hl 1 rfl) ?_
    obtain ⟨hg, h⟩ := pq_g h
    refine va_iald hx hb hK hP 3 0 rfl rfl (pq_vp hg) dX2_canTakeBack_16 ?_
    obtain ⟨r1, hr1, h⟩ := pq_b h
    refine pw_ci (w1 := WP cy q u) (rest := []) (As := [.int ((u 3) x1.toNatClampNeg)]) hF (kX2_isThere l D cy q _ u ((u 3) x1.toNatClampNeg) r1 hr1) (cwV 1 hts (pw_gV (own := RX2) (idx := 88) (C := RX2) (y := yX2_isThere) aw_418 aw_322 aw_323 aw_2 aw_324) rfl rfl rfl pX2_isThere ⟨Nat.le_of_ble_eq_true rfl, Nat.le_of_ble_eq_true rfl⟩) (va_recv hK hP (ci := 2) (q0 := 0) rfl rfl) hK hP hD hS hA rfl rfl hl.1 rfl (Nat.le_of_ble_eq_true rfl) dX2_canTakeBack_17 ⟨Nat.zero_le _, Nat.zero_le _⟩ (fun H locs hP hD hS => ?_)
    refine lv_if_eq (tgt := 27) hx hb dX2_canTakeBack_20 (by decide) (fun c2_ => ?_) (fun c2_ => ?_)
    · have h := pq_t c2_ h
      refine lv_iconst (v := 0) hx hb dX2_canTakeBack_27 (by decide) ?_
      obtain rfl := Option.some.inj h
      subst hQ
      exact pw_rz hx hb hr rfl hlk hAe hP hS rfl dX2_canTakeBack_28
    · have h := pq_e c2_ h
      refine lv_iconst (v := 1) hx hb dX2_canTakeBack_23 (by decide) ?_
      refine lv_goto (tgt := 28) hx hb dX2_canTakeBack_24 (by decide) ?_
      obtain rfl := Option.some.inj h
      subst hQ
      exact pw_rz hx hb hr rfl hlk hAe hP hS rfl dX2_canTakeBack_28

def aX2_takeBack : List Cond := Cond.code yX2_takeBack cX2_takeBack 2 none :: pw_all
theorem pX2_takeBack : yX2_takeBack.cls = RX2 ∧ yX2_takeBack.cls ≠ "java/lang/invoke/MethodHandle" ∧ yX2_takeBack.cls ≠ "java/lang/invoke/VarHandle" ∧ (parseMethodDescriptor yX2_takeBack.desc).map (fun d => d.parameters.length) = some 1 := by decide +kernel
set_option maxHeartbeats 8000000 in
set_option maxRecDepth 100000 in
theorem kX2_takeBack (l : Launch) (D : va_G) (cy : Nat → ClassId) (q : Nat → Nat) (sz : Nat) (u : Nat → Nat → Int32) (x1 : Int32) (o : (Nat → Nat → Int32)) (h : fX2_takeBack x1 u = some o) : Met l yX2_takeBack aX2_takeBack ({ frames := 4, cells := 0, slots := 0, locals := 92 }) (pw_Pre D cy [.ref (q 0), .int x1] (WP cy q u) sz) (pw_V D (WP cy q u) (WP cy q o) sz) 0 0 (va_A (WP cy q u) sz) := by
  refine pw_met (cc := cX2_takeBack) (maxL := 2) (ret := none) (by decide) rfl (Nat.le_of_ble_eq_true rfl) ?_
  intro p e s m args below meth c ls A hx hb hr hml hlk hts hown hAe hA hK hP hD hS hl
  have hl : lv_has ls 2 [(0, .ref (q 0)), (1, .int x1)] := hl
  generalize hQ : MQ below (pw_V D (WP cy q u) (WP cy q o) sz) args s 0 0 (va_A (WP cy q u) sz) = Q
  have hF : CallFix p m c cX2_takeBack 2 s args aX2_takeBack RX2 := ⟨hx, hb, hml, hown, hts⟩
  have hta : ∀ w ∈ pw_all, w.before args s = true := fun w h => hts w (List.mem_cons_of_mem _ h)
  have hin : ∀ w ∈ wsX20, w ∈ aX2_takeBack := fun w h => List.mem_cons_of_mem _ (inA2 w h)
  unfold fX2_takeBack at h
  refine lv_aload_n hx hb dX2_takeBack_0 rfl (lv_at hl 0 rfl) ?_
  refine va_get (D := D) (ci := 2) (v := .ref (q 2)) (C := RX2) (T := TX2) (N := 16) hx hb hts hin hown hK hP 0 rfl rfl 2 (by decide) (hta _ aw_35) (fun _ h9 => h9) rfl dX2_takeBack_1 ?_
  refine lv_iload_n hx hb dX2_takeBack_4 rfl (lv_at hl 1 rfl) ?_
  refine lv_iconst (v := 1) hx hb dX2_takeBack_5 (by decide) ?_
  obtain ⟨hg, h⟩ := pq_g h
  refine va_iast hx hb hK hP hD hS 2 0 rfl rfl (pq_vp hg) dX2_takeBack_6 (fun H locs hP hD hS => ?_)
  have hP : va_P D vwCl (WP cy q (pu u 2 (upd (u 2) x1.toNatClampNeg 1))) H := hP
  have hD : va_D A (WP cy q (pu u 2 (upd (u 2) x1.toNatClampNeg 1))) := hD
  refine lv_aload_n hx hb dX2_takeBack_7 rfl (lv_at hl 0 rfl) ?_
  refine va_get (D := D) (ci := 2) (v := .ref (q 6)) (C := RX2) (T := TX2) (N := 16) hx hb hts hin hown hK hP 0 rfl rfl 6 (by decide) (hta _ aw_39) (fun _ h9 => h9) rfl dX2_takeBack_8 ?_
  refine lv_iload_n hx hb dX2_takeBack_11 rfl (lv_at hl 1 rfl) ?_
  refine lv_aload_n hx hb dX2_takeBack_12 rfl (lv_at hl 0 rfl) ?_
  refine va_get (D := D) (ci := 2) (v := .int (u 0 0)) (C := RX2) (T := TX2) (N := 16) hx hb hts hin hown hK hP 0 rfl rfl 0 (by decide) (hta _ aw_32) (fun _ h9 => h9) rfl dX2_takeBack_13 ?_
  obtain ⟨hg, h⟩ := pq_g h
  refine va_iast hx hb hK hP hD hS 6 0 rfl rfl (pq_vp hg) dX2_takeBack_16 (fun H locs hP hD hS => ?_)
  have hP : va_P D vwCl (WP cy q (pu (pu u 2 (upd (u 2) x1.toNatClampNeg 1)) 6 (upd (u 6) x1.toNatClampNeg (u 0 0)))) H := hP
  have hD : va_D A (WP cy q (pu (pu u 2 (upd (u 2) x1.toNatClampNeg 1)) 6 (upd (u 6) x1.toNatClampNeg (u 0 0)))) := hD
  refine lv_aload_n hx hb dX2_takeBack_17 rfl (lv_at hl 0 rfl) ?_
  refine lv_iconst (v := (-1)) hx hb dX2_takeBack_18 (by decide) ?_
  obtain ⟨r1, hr1, h⟩ := pq_b h
  refine pw_ci (w1 := WP cy q r1.2) (rest := []) (As := [.int (-1)]) hF (kX2_serveWaiters l D cy q _ (pu (pu u 2 (upd (u 2) x1.toNatClampNeg 1)) 6 (upd (u 6) x1.toNatClampNeg (u 0 0))) (-1) r1 hr1) (cwV 1 hts (pw_gV (own := RX2) (idx := 101) (C := RX2) (y := yX2_serveWaiters) aw_261 aw_262 aw_263 aw_2 aw_264) rfl rfl rfl pX2_serveWaiters ⟨Nat.le_of_ble_eq_true rfl, Nat.le_of_ble_eq_true rfl⟩) (va_recv hK hP (ci := 2) (q0 := 0) rfl rfl) hK hP hD hS hA rfl rfl hl.1 rfl (Nat.le_of_ble_eq_true rfl) dX2_takeBack_19 ⟨Nat.zero_le _, Nat.zero_le _⟩ (fun H locs hP hD hS => ?_)
  refine lv_pop hx hb dX2_takeBack_22 rfl ?_
  obtain rfl := Option.some.inj h
  subst hQ
  exact pw_rv hx hb hr hlk hAe hP hS dX2_takeBack_23

def aX2_stopWaiting : List Cond := Cond.code yX2_stopWaiting cX2_stopWaiting 2 none :: pw_all
theorem pX2_stopWaiting : yX2_stopWaiting.cls = RX2 ∧ yX2_stopWaiting.cls ≠ "java/lang/invoke/MethodHandle" ∧ yX2_stopWaiting.cls ≠ "java/lang/invoke/VarHandle" ∧ (parseMethodDescriptor yX2_stopWaiting.desc).map (fun d => d.parameters.length) = some 1 := by decide +kernel
set_option maxHeartbeats 8000000 in
set_option maxRecDepth 100000 in
theorem kX2_stopWaiting (l : Launch) (D : va_G) (cy : Nat → ClassId) (q : Nat → Nat) (sz : Nat) (u : Nat → Nat → Int32) (x1 : Int32) (o : (Nat → Nat → Int32)) (h : fX2_stopWaiting x1 u = some o) : Met l yX2_stopWaiting aX2_stopWaiting ({ frames := 4, cells := 0, slots := 0, locals := 92 }) (pw_Pre D cy [.ref (q 0), .int x1] (WP cy q u) sz) (pw_V D (WP cy q u) (WP cy q o) sz) 0 0 (va_A (WP cy q u) sz) := by
  refine pw_met (cc := cX2_stopWaiting) (maxL := 2) (ret := none) (by decide) rfl (Nat.le_of_ble_eq_true rfl) ?_
  intro p e s m args below meth c ls A hx hb hr hml hlk hts hown hAe hA hK hP hD hS hl
  have hl : lv_has ls 2 [(0, .ref (q 0)), (1, .int x1)] := hl
  generalize hQ : MQ below (pw_V D (WP cy q u) (WP cy q o) sz) args s 0 0 (va_A (WP cy q u) sz) = Q
  have hF : CallFix p m c cX2_stopWaiting 2 s args aX2_stopWaiting RX2 := ⟨hx, hb, hml, hown, hts⟩
  have hta : ∀ w ∈ pw_all, w.before args s = true := fun w h => hts w (List.mem_cons_of_mem _ h)
  have hin : ∀ w ∈ wsX20, w ∈ aX2_stopWaiting := fun w h => List.mem_cons_of_mem _ (inA2 w h)
  unfold fX2_stopWaiting at h
  refine lv_aload_n hx hb dX2_stopWaiting_0 rfl (lv_at hl 0 rfl) ?_
  refine lv_aload_n hx hb dX2_stopWaiting_1 rfl (lv_at hl 0 rfl) ?_
  refine lv_iload_n hx hb dX2_stopWaiting_2 rfl (lv_at hl 1 rfl) ?_
  obtain ⟨r1, hr1, h⟩ := pq_b h
  refine pw_ci (w1 := WP cy q u) (rest := [.ref (q 0)]) (As := [.int x1]) hF (kX2_turnOf l D cy q _ u x1 r1 hr1) (cwV 1 hts (pw_gV (own := RX2) (idx := 78) (C := RX2) (y := yX2_turnOf) aw_252 aw_218 aw_219 aw_2 aw_220) rfl rfl rfl pX2_turnOf ⟨Nat.le_of_ble_eq_true rfl, Nat.le_of_ble_eq_true rfl⟩) (va_recv hK hP (ci := 2) (q0 := 0) rfl rfl) hK hP hD hS hA rfl rfl hl.1 rfl (Nat.le_of_ble_eq_true rfl) dX2_stopWaiting_3 ⟨Nat.zero_le _, Nat.zero_le _⟩ (fun H locs hP hD hS => ?_)
  obtain ⟨r2, hr2, h⟩ := pq_b h
  refine pw_cv (w1 := WP cy q r2) (rest := []) (As := [.int r1]) hF (kX2_leave l D cy q _ u r1 r2 hr2) (cwV 1 hts (pw_gV (own := RX2) (idx := 104) (C := RX2) (y := yX2_leave) aw_257 aw_259 aw_s1 aw_2 aw_260) rfl rfl rfl pX2_leave ⟨Nat.le_of_ble_eq_true rfl, Nat.le_of_ble_eq_true rfl⟩) (va_recv hK hP (ci := 2) (q0 := 0) rfl rfl) hK hP hD hS hA rfl rfl hl.1 rfl (Nat.le_of_ble_eq_true rfl) dX2_stopWaiting_6 ⟨Nat.zero_le _, Nat.zero_le _⟩ (fun H locs hP hD hS => ?_)
  refine lv_aload_n hx hb dX2_stopWaiting_9 rfl (lv_at hl 0 rfl) ?_
  refine va_get (D := D) (ci := 2) (v := .ref (q 10)) (C := RX2) (T := TX2) (N := 16) hx hb hts hin hown hK hP 0 rfl rfl 10 (by decide) (hta _ aw_45) (fun _ h9 => h9) rfl dX2_stopWaiting_10 ?_
  refine lv_iload_n hx hb dX2_stopWaiting_13 rfl (lv_at hl 1 rfl) ?_
  refine lv_dup2_11 hx hb dX2_stopWaiting_14 rfl rfl ?_
  obtain ⟨hg, h⟩ := pq_g h
  refine va_iald hx hb hK hP 10 0 rfl rfl (pq_vp hg) dX2_stopWaiting_15 ?_
  refine lv_iconst (v := 1) hx hb dX2_stopWaiting_16 (by decide) ?_
  refine lv_iadd hx hb dX2_stopWaiting_17 ?_
  obtain ⟨hg, h⟩ := pq_g h
  refine va_iast hx hb hK hP hD hS 10 0 rfl rfl (pq_vp hg) dX2_stopWaiting_18 (fun H locs hP hD hS => ?_)
  have hP : va_P D vwCl (WP cy q (pu r2 10 (upd (r2 10) x1.toNatClampNeg (((r2 10) x1.toNatClampNeg) + 1)))) H := hP
  have hD : va_D A (WP cy q (pu r2 10 (upd (r2 10) x1.toNatClampNeg (((r2 10) x1.toNatClampNeg) + 1)))) := hD
  refine lv_aload_n hx hb dX2_stopWaiting_19 rfl (lv_at hl 0 rfl) ?_
  refine lv_iconst (v := (-1)) hx hb dX2_stopWaiting_20 (by decide) ?_
  obtain ⟨r3, hr3, h⟩ := pq_b h
  refine pw_ci (w1 := WP cy q r3.2) (rest := []) (As := [.int (-1)]) hF (kX2_serveWaiters l D cy q _ (pu r2 10 (upd (r2 10) x1.toNatClampNeg (((r2 10) x1.toNatClampNeg) + 1))) (-1) r3 hr3) (cwV 1 hts (pw_gV (own := RX2) (idx := 101) (C := RX2) (y := yX2_serveWaiters) aw_261 aw_262 aw_263 aw_2 aw_264) rfl rfl rfl pX2_serveWaiters ⟨Nat.le_of_ble_eq_true rfl, Nat.le_of_ble_eq_true rfl⟩) (va_recv hK hP (ci := 2) (q0 := 0) rfl rfl) hK hP hD hS hA rfl rfl hl.1 rfl (Nat.le_of_ble_eq_true rfl) dX2_stopWaiting_21 ⟨Nat.zero_le _, Nat.zero_le _⟩ (fun H locs hP hD hS => ?_)
  refine lv_pop hx hb dX2_stopWaiting_24 rfl ?_
  obtain rfl := Option.some.inj h
  subst hQ
  exact pw_rv hx hb hr hlk hAe hP hS dX2_stopWaiting_25

def aX2_turnUp : List Cond := Cond.code yX2_turnUp cX2_turnUp 3 none :: pw_all
theorem pX2_turnUp : yX2_turnUp.cls = RX2 ∧ yX2_turnUp.cls ≠ "java/lang/invoke/MethodHandle" ∧ yX2_turnUp.cls ≠ "java/lang/invoke/VarHandle" ∧ (parseMethodDescriptor yX2_turnUp.desc).map (fun d => d.parameters.length) = some 2 := by decide +kernel
set_option maxHeartbeats 8000000 in
set_option maxRecDepth 100000 in
theorem kX2_turnUp (l : Launch) (D : va_G) (cy : Nat → ClassId) (q : Nat → Nat) (sz : Nat) (u : Nat → Nat → Int32) (x1 : Int32) (x2 : Int32) (o : (Nat → Nat → Int32)) (h : fX2_turnUp x1 x2 u = some o) : Met l yX2_turnUp aX2_turnUp ({ frames := 4, cells := 0, slots := 0, locals := 92 }) (pw_Pre D cy [.ref (q 0), .int x1, .int x2] (WP cy q u) sz) (pw_V D (WP cy q u) (WP cy q o) sz) 0 0 (va_A (WP cy q u) sz) := by
  refine pw_met (cc := cX2_turnUp) (maxL := 3) (ret := none) (by decide) rfl (Nat.le_of_ble_eq_true rfl) ?_
  intro p e s m args below meth c ls A hx hb hr hml hlk hts hown hAe hA hK hP hD hS hl
  have hl : lv_has ls 3 [(0, .ref (q 0)), (1, .int x1), (2, .int x2)] := hl
  generalize hQ : MQ below (pw_V D (WP cy q u) (WP cy q o) sz) args s 0 0 (va_A (WP cy q u) sz) = Q
  have hF : CallFix p m c cX2_turnUp 3 s args aX2_turnUp RX2 := ⟨hx, hb, hml, hown, hts⟩
  have hta : ∀ w ∈ pw_all, w.before args s = true := fun w h => hts w (List.mem_cons_of_mem _ h)
  have hin : ∀ w ∈ wsX20, w ∈ aX2_turnUp := fun w h => List.mem_cons_of_mem _ (inA2 w h)
  unfold fX2_turnUp at h
  refine lv_aload_n hx hb dX2_turnUp_0 rfl (lv_at hl 0 rfl) ?_
  refine va_get (D := D) (ci := 2) (v := .ref (q 8)) (C := RX2) (T := TX2) (N := 16) hx hb hts hin hown hK hP 0 rfl rfl 8 (by decide) (hta _ aw_42) (fun _ h9 => h9) rfl dX2_turnUp_1 ?_
  refine lv_iload_n hx hb dX2_turnUp_4 rfl (lv_at hl 1 rfl) ?_
  refine lv_iload_n hx hb dX2_turnUp_5 rfl (lv_at hl 2 rfl) ?_
  obtain ⟨v1, hv1, h⟩ := pq_b h
  have J14_v1 : ∀ (H : Heap) (locs : List Loc) (ls : Array Slot), va_P D vwCl (WP cy q u) H → va_D A (WP cy q u) → va_S A s.heap H locs → lv_has ls 3 [(0, .ref (q 0)), (1, .int x1)] → W p l e ({ frames := 4, cells := 0, slots := 0, locals := 92 } : Room) s m args below meth c H locs 0 0 Q (F0 m 14 ls [.int v1, .int x1, .ref (q 8)]) := by
    intro H locs ls hP hD hS hl
    obtain ⟨hg, h⟩ := pq_g h
    refine va_zast hx hb hK hP hD hS 8 1 rfl rfl (pq_vp hg) dX2_turnUp_14 (fun H locs hP hD hS => ?_)
    have hP : va_P D vwCl (WP cy q (pu u 8 (upd (u 8) x1.toNatClampNeg (vp_nar .boolean v1)))) H := hP
    have hD : va_D A (WP cy q (pu u 8 (upd (u 8) x1.toNatClampNeg (vp_nar .boolean v1)))) := hD
    refine lv_aload_n hx hb dX2_turnUp_15 rfl (lv_at hl 0 rfl) ?_
    refine lv_aload_n hx hb dX2_turnUp_16 rfl (lv_at hl 0 rfl) ?_
    refine lv_iload_n hx hb dX2_turnUp_17 rfl (lv_at hl 1 rfl) ?_
    obtain ⟨r2, hr2, h⟩ := pq_b h
    refine pw_ci (w1 := WP cy q (pu u 8 (upd (u 8) x1.toNatClampNeg (vp_nar .boolean v1)))) (rest := [.ref (q 0)]) (As := [.int x1]) hF (kX2_turnOf l D cy q _ (pu u 8 (upd (u 8) x1.toNatClampNeg (vp_nar .boolean v1))) x1 r2 hr2) (cwV 1 hts (pw_gV (own := RX2) (idx := 78) (C := RX2) (y := yX2_turnOf) aw_252 aw_218 aw_219 aw_2 aw_220) rfl rfl rfl pX2_turnOf ⟨Nat.le_of_ble_eq_true rfl, Nat.le_of_ble_eq_true rfl⟩) (va_recv hK hP (ci := 2) (q0 := 0) rfl rfl) hK hP hD hS hA rfl rfl hl.1 rfl (Nat.le_of_ble_eq_true rfl) dX2_turnUp_18 ⟨Nat.zero_le _, Nat.zero_le _⟩ (fun H locs hP hD hS => ?_)
    obtain ⟨r3, hr3, h⟩ := pq_b h
    refine pw_cv (w1 := WP cy q r3) (rest := []) (As := [.int r2]) hF (kX2_leave l D cy q _ (pu u 8 (upd (u 8) x1.toNatClampNeg (vp_nar .boolean v1))) r2 r3 hr3) (cwV 1 hts (pw_gV (own := RX2) (idx := 104) (C := RX2) (y := yX2_leave) aw_257 aw_259 aw_s1 aw_2 aw_260) rfl rfl rfl pX2_leave ⟨Nat.le_of_ble_eq_true rfl, Nat.le_of_ble_eq_true rfl⟩) (va_recv hK hP (ci := 2) (q0 := 0) rfl rfl) hK hP hD hS hA rfl rfl hl.1 rfl (Nat.le_of_ble_eq_true rfl) dX2_turnUp_21 ⟨Nat.zero_le _, Nat.zero_le _⟩ (fun H locs hP hD hS => ?_)
    refine lv_aload_n hx hb dX2_turnUp_24 rfl (lv_at hl 0 rfl) ?_
    refine lv_iconst (v := (-1)) hx hb dX2_turnUp_25 (by decide) ?_
    obtain ⟨r4, hr4, h⟩ := pq_b h
    refine pw_ci (w1 := WP cy q r4.2) (rest := []) (As := [.int (-1)]) hF (kX2_serveWaiters l D cy q _ r3 (-1) r4 hr4) (cwV 1 hts (pw_gV (own := RX2) (idx := 101) (C := RX2) (y := yX2_serveWaiters) aw_261 aw_262 aw_263 aw_2 aw_264) rfl rfl rfl pX2_serveWaiters ⟨Nat.le_of_ble_eq_true rfl, Nat.le_of_ble_eq_true rfl⟩) (va_recv hK hP (ci := 2) (q0 := 0) rfl rfl) hK hP hD hS hA rfl rfl hl.1 rfl (Nat.le_of_ble_eq_true rfl) dX2_turnUp_26 ⟨Nat.zero_le _, Nat.zero_le _⟩ (fun H locs hP hD hS => ?_)
    refine lv_pop hx hb dX2_turnUp_29 rfl ?_
    obtain rfl := Option.some.inj h
    subst hQ
    exact pw_rv hx hb hr hlk hAe hP hS dX2_turnUp_30
  clear h
  have h := hv1
  clear hv1
  refine lv_if_ne (tgt := 13) hx hb dX2_turnUp_6 (by decide) (fun c1_ => ?_) (fun c1_ => ?_)
  · have h := pq_e c1_ h
    refine lv_iconst (v := 0) hx hb dX2_turnUp_13 (by decide) ?_
    obtain rfl := Option.some.inj h
    exact J14_v1 _ _ _ hP hD hS (lv_sub hl [0, 1] rfl)
  · have h := pq_t c1_ h
    refine lv_iconst (v := 1) hx hb dX2_turnUp_9 (by decide) ?_
    refine lv_goto (tgt := 14) hx hb dX2_turnUp_10 (by decide) ?_
    obtain rfl := Option.some.inj h
    exact J14_v1 _ _ _ hP hD hS (lv_sub hl [0, 1] rfl)

def aX2_makeSick : List Cond := Cond.code yX2_makeSick cX2_makeSick 3 (some .boolean) :: pw_all
theorem pX2_makeSick : yX2_makeSick.cls = RX2 ∧ yX2_makeSick.cls ≠ "java/lang/invoke/MethodHandle" ∧ yX2_makeSick.cls ≠ "java/lang/invoke/VarHandle" ∧ (parseMethodDescriptor yX2_makeSick.desc).map (fun d => d.parameters.length) = some 1 := by decide +kernel
set_option maxHeartbeats 8000000 in
set_option maxRecDepth 100000 in
theorem kX2_makeSick (l : Launch) (D : va_G) (cy : Nat → ClassId) (q : Nat → Nat) (sz : Nat) (u : Nat → Nat → Int32) (x1 : Int32) (o : Int32 × (Nat → Nat → Int32)) (h : fX2_makeSick x1 u = some o) : Met l yX2_makeSick aX2_makeSick ({ frames := 0, cells := 0, slots := 0, locals := 0 }) (pw_Pre D cy [.ref (q 0), .int x1] (WP cy q u) sz) (pw_I D o.1 (WP cy q u) (WP cy q o.2) sz) 0 0 (va_A (WP cy q u) sz) := by
  refine pw_met (cc := cX2_makeSick) (maxL := 3) (ret := (some .boolean)) (by decide) rfl (Nat.le_of_ble_eq_true rfl) ?_
  intro p e s m args below meth c ls A hx hb hr hml hlk hts hown hAe hA hK hP hD hS hl
  have hl : lv_has ls 3 [(0, .ref (q 0)), (1, .int x1)] := hl
  generalize hQ : MQ below (pw_I D o.1 (WP cy q u) (WP cy q o.2) sz) args s 0 0 (va_A (WP cy q u) sz) = Q
  have hF : CallFix p m c cX2_makeSick 3 s args aX2_makeSick RX2 := ⟨hx, hb, hml, hown, hts⟩
  have hta : ∀ w ∈ pw_all, w.before args s = true := fun w h => hts w (List.mem_cons_of_mem _ h)
  have hin : ∀ w ∈ wsX20, w ∈ aX2_makeSick := fun w h => List.mem_cons_of_mem _ (inA2 w h)
  unfold fX2_makeSick at h
  refine lv_aload_n hx hb dX2_makeSick_0 rfl (lv_at hl 0 rfl) ?_
  refine va_get (D := D) (ci := 2) (v := .ref (q 4)) (C := RX2) (T := TX2) (N := 16) hx hb hts hin hown hK hP 0 rfl rfl 4 (by decide) (hta _ aw_37) (fun _ h9 => h9) rfl dX2_makeSick_1 ?_
  refine lv_iload_n hx hb dX2_makeSick_4 rfl (lv_at hl 1 rfl) ?_
  obtain ⟨hg, h⟩ := pq_g h
  refine va_zald hx hb hK hP 4 1 rfl rfl (pq_vp hg) dX2_makeSick_5 ?_
  refine lv_if_ne (tgt := 13) hx hb dX2_makeSick_6 (by decide) (fun c1_ => ?_) (fun c1_ => ?_)
  · have h := pq_e c1_ h
    refine lv_iconst (v := 0) hx hb dX2_makeSick_13 (by decide) ?_
    refine lv_istore_n (lv' := [(2, .int 0), (0, .ref (q 0)), (1, .int x1)]) hx hb dX2_makeSick_14 rfl hl (by decide) rfl (fun ls hl => ?_)
    refine lv_aload_n hx hb dX2_makeSick_15 rfl (lv_at hl 1 rfl) ?_
    refine va_get (D := D) (ci := 2) (v := .ref (q 4)) (C := RX2) (T := TX2) (N := 16) hx hb hts hin hown hK hP 0 rfl rfl 4 (by decide) (hta _ aw_37) (fun _ h9 => h9) rfl dX2_makeSick_16 ?_
    refine lv_iload_n hx hb dX2_makeSick_19 rfl (lv_at hl 2 rfl) ?_
    refine lv_iconst (v := 1) hx hb dX2_makeSick_20 (by decide) ?_
    obtain ⟨hg, h⟩ := pq_g h
    refine va_zast hx hb hK hP hD hS 4 1 rfl rfl (pq_vp hg) dX2_makeSick_21 (fun H locs hP hD hS => ?_)
    have hP : va_P D vwCl (WP cy q (pu u 4 (upd (u 4) x1.toNatClampNeg (vp_nar .boolean 1)))) H := hP
    have hD : va_D A (WP cy q (pu u 4 (upd (u 4) x1.toNatClampNeg (vp_nar .boolean 1)))) := hD
    refine lv_iload_n hx hb dX2_makeSick_22 rfl (lv_at hl 0 rfl) ?_
    obtain rfl := Option.some.inj h
    subst hQ
    exact pw_rz hx hb hr rfl hlk hAe hP hS rfl dX2_makeSick_23
  · have h := pq_t c1_ h
    refine lv_iconst (v := 1) hx hb dX2_makeSick_9 (by decide) ?_
    refine lv_goto (tgt := 14) hx hb dX2_makeSick_10 (by decide) ?_
    refine lv_istore_n (lv' := [(2, .int 1), (0, .ref (q 0)), (1, .int x1)]) hx hb dX2_makeSick_14 rfl hl (by decide) rfl (fun ls hl => ?_)
    refine lv_aload_n hx hb dX2_makeSick_15 rfl (lv_at hl 1 rfl) ?_
    refine va_get (D := D) (ci := 2) (v := .ref (q 4)) (C := RX2) (T := TX2) (N := 16) hx hb hts hin hown hK hP 0 rfl rfl 4 (by decide) (hta _ aw_37) (fun _ h9 => h9) rfl dX2_makeSick_16 ?_
    refine lv_iload_n hx hb dX2_makeSick_19 rfl (lv_at hl 2 rfl) ?_
    refine lv_iconst (v := 1) hx hb dX2_makeSick_20 (by decide) ?_
    obtain ⟨hg, h⟩ := pq_g h
    refine va_zast hx hb hK hP hD hS 4 1 rfl rfl (pq_vp hg) dX2_makeSick_21 (fun H locs hP hD hS => ?_)
    have hP : va_P D vwCl (WP cy q (pu u 4 (upd (u 4) x1.toNatClampNeg (vp_nar .boolean 1)))) H := hP
    have hD : va_D A (WP cy q (pu u 4 (upd (u 4) x1.toNatClampNeg (vp_nar .boolean 1)))) := hD
    refine lv_iload_n hx hb dX2_makeSick_22 rfl (lv_at hl 0 rfl) ?_
    obtain rfl := Option.some.inj h
    subst hQ
    exact pw_rz hx hb hr rfl hlk hAe hP hS rfl dX2_makeSick_23

def aX2_change : List Cond := Cond.code yX2_change cX2_change 4 (some .int) :: pw_all
theorem pX2_change : yX2_change.cls = RX2 ∧ yX2_change.cls ≠ "java/lang/invoke/MethodHandle" ∧ yX2_change.cls ≠ "java/lang/invoke/VarHandle" ∧ (parseMethodDescriptor yX2_change.desc).map (fun d => d.parameters.length) = some 2 := by decide +kernel
set_option maxHeartbeats 8000000 in
set_option maxRecDepth 100000 in
theorem kX2_change (l : Launch) (D : va_G) (cy : Nat → ClassId) (q : Nat → Nat) (sz : Nat) (u : Nat → Nat → Int32) (x1 : Int32) (x2 : Int32) (o : Int32 × (Nat → Nat → Int32)) (h : fX2_change x1 x2 u = some o) : Met l yX2_change aX2_change ({ frames := 4, cells := 0, slots := 0, locals := 92 }) (pw_Pre D cy [.ref (q 0), .int x1, .int x2] (WP cy q u) sz) (pw_I D o.1 (WP cy q u) (WP cy q o.2) sz) 0 0 (va_A (WP cy q u) sz) := by
  refine pw_met (cc := cX2_change) (maxL := 4) (ret := (some .int)) (by decide) rfl (Nat.le_of_ble_eq_true rfl) ?_
  intro p e s m args below meth c ls A hx hb hr hml hlk hts hown hAe hA hK hP hD hS hl
  have hl : lv_has ls 4 [(0, .ref (q 0)), (1, .int x1), (2, .int x2)] := hl
  generalize hQ : MQ below (pw_I D o.1 (WP cy q u) (WP cy q o.2) sz) args s 0 0 (va_A (WP cy q u) sz) = Q
  have hF : CallFix p m c cX2_change 4 s args aX2_change RX2 := ⟨hx, hb, hml, hown, hts⟩
  have hta : ∀ w ∈ pw_all, w.before args s = true := fun w h => hts w (List.mem_cons_of_mem _ h)
  have hin : ∀ w ∈ wsX20, w ∈ aX2_change := fun w h => List.mem_cons_of_mem _ (inA2 w h)
  unfold fX2_change at h
  refine lv_aload_n hx hb dX2_change_0 rfl (lv_at hl 0 rfl) ?_
  refine va_get (D := D) (ci := 2) (v := .ref (q 1)) (C := RX2) (T := TX2) (N := 16) hx hb hts hin hown hK hP 0 rfl rfl 1 (by decide) (hta _ aw_33) (fun _ h9 => h9) rfl dX2_change_1 ?_
  refine lv_iload_n hx hb dX2_change_4 rfl (lv_at hl 1 rfl) ?_
  obtain ⟨hg, h⟩ := pq_g h
  refine va_iald hx hb hK hP 1 0 rfl rfl (pq_vp hg) dX2_change_5 ?_
  refine lv_istore_n (lv' := [(3, .int ((u 1) x1.toNatClampNeg)), (0, .ref (q 0)), (1, .int x1), (2, .int x2)]) hx hb dX2_change_6 rfl hl (by decide) rfl (fun ls hl => ?_)
  refine lv_aload_n hx hb dX2_change_7 rfl (lv_at hl 1 rfl) ?_
  refine va_get (D := D) (ci := 2) (v := .ref (q 1)) (C := RX2) (T := TX2) (N := 16) hx hb hts hin hown hK hP 0 rfl rfl 1 (by decide) (hta _ aw_33) (fun _ h9 => h9) rfl dX2_change_8 ?_
  refine lv_iload_n hx hb dX2_change_11 rfl (lv_at hl 2 rfl) ?_
  refine lv_iload_n hx hb dX2_change_12 rfl (lv_at hl 3 rfl) ?_
  obtain ⟨hg, h⟩ := pq_g h
  refine va_iast hx hb hK hP hD hS 1 0 rfl rfl (pq_vp hg) dX2_change_13 (fun H locs hP hD hS => ?_)
  have hP : va_P D vwCl (WP cy q (pu u 1 (upd (u 1) x1.toNatClampNeg x2))) H := hP
  have hD : va_D A (WP cy q (pu u 1 (upd (u 1) x1.toNatClampNeg x2))) := hD
  refine lv_aload_n hx hb dX2_change_14 rfl (lv_at hl 1 rfl) ?_
  refine lv_iconst (v := (-1)) hx hb dX2_change_15 (by decide) ?_
  obtain ⟨r1, hr1, h⟩ := pq_b h
  refine pw_ci (w1 := WP cy q r1.2) (rest := []) (As := [.int (-1)]) hF (kX2_serveWaiters l D cy q _ (pu u 1 (upd (u 1) x1.toNatClampNeg x2)) (-1) r1 hr1) (cwV 1 hts (pw_gV (own := RX2) (idx := 101) (C := RX2) (y := yX2_serveWaiters) aw_261 aw_262 aw_263 aw_2 aw_264) rfl rfl rfl pX2_serveWaiters ⟨Nat.le_of_ble_eq_true rfl, Nat.le_of_ble_eq_true rfl⟩) (va_recv hK hP (ci := 2) (q0 := 0) rfl rfl) hK hP hD hS hA rfl rfl hl.1 rfl (Nat.le_of_ble_eq_true rfl) dX2_change_16 ⟨Nat.zero_le _, Nat.zero_le _⟩ (fun H locs hP hD hS => ?_)
  refine lv_pop hx hb dX2_change_19 rfl ?_
  refine lv_iload_n hx hb dX2_change_20 rfl (lv_at hl 0 rfl) ?_
  obtain rfl := Option.some.inj h
  subst hQ
  exact pw_ri hx hb hr hlk hAe hP hS rfl dX2_change_21

def aX2_canPassUnits : List Cond := Cond.code yX2_canPassUnits cX2_canPassUnits 2 (some .boolean) :: pw_all
theorem pX2_canPassUnits : yX2_canPassUnits.cls = RX2 ∧ yX2_canPassUnits.cls ≠ "java/lang/invoke/MethodHandle" ∧ yX2_canPassUnits.cls ≠ "java/lang/invoke/VarHandle" ∧ (parseMethodDescriptor yX2_canPassUnits.desc).map (fun d => d.parameters.length) = some 1 := by decide +kernel
set_option maxHeartbeats 8000000 in
set_option maxRecDepth 100000 in
theorem kX2_canPassUnits (l : Launch) (D : va_G) (cy : Nat → ClassId) (q : Nat → Nat) (sz : Nat) (u : Nat → Nat → Int32) (x1 : Int32) (o : Int32) (h : fX2_canPassUnits x1 u = some o) : Met l yX2_canPassUnits aX2_canPassUnits ({ frames := 0, cells := 0, slots := 0, locals := 0 }) (pw_Pre D cy [.ref (q 0), .int x1] (WP cy q u) sz) (pw_I D o (WP cy q u) (WP cy q u) sz) 0 0 (va_A (WP cy q u) sz) := by
  refine pw_met (cc := cX2_canPassUnits) (maxL := 2) (ret := (some .boolean)) (by decide) rfl (Nat.le_of_ble_eq_true rfl) ?_
  intro p e s m args below meth c ls A hx hb hr hml hlk hts hown hAe hA hK hP hD hS hl
  have hl : lv_has ls 2 [(0, .ref (q 0)), (1, .int x1)] := hl
  generalize hQ : MQ below (pw_I D o (WP cy q u) (WP cy q u) sz) args s 0 0 (va_A (WP cy q u) sz) = Q
  have hF : CallFix p m c cX2_canPassUnits 2 s args aX2_canPassUnits RX2 := ⟨hx, hb, hml, hown, hts⟩
  have hta : ∀ w ∈ pw_all, w.before args s = true := fun w h => hts w (List.mem_cons_of_mem _ h)
  have hin : ∀ w ∈ wsX20, w ∈ aX2_canPassUnits := fun w h => List.mem_cons_of_mem _ (inA2 w h)
  unfold fX2_canPassUnits at h
  refine lv_iload_n hx hb dX2_canPassUnits_0 rfl (lv_at hl 1 rfl) ?_
  refine lv_sipush (v := 9999) hx hb dX2_canPassUnits_1 (by decide) ?_
  refine lv_aload_n hx hb dX2_canPassUnits_4 rfl (lv_at hl 0 rfl) ?_
  refine va_get (D := D) (ci := 2) (v := .int (u 0 0)) (C := RX2) (T := TX2) (N := 16) hx hb hts hin hown hK hP 0 rfl rfl 0 (by decide) (hta _ aw_32) (fun _ h9 => h9) rfl dX2_canPassUnits_5 ?_
  refine lv_isub hx hb dX2_canPassUnits_8 ?_
  refine lv_icmp_gt (tgt := 16) hx hb dX2_canPassUnits_9 (by decide) (fun c1_ => ?_) (fun c1_ => ?_)
  · have h := pq_t c1_ h
    refine lv_iconst (v := 0) hx hb dX2_canPassUnits_16 (by decide) ?_
    obtain rfl := Option.some.inj h
    subst hQ
    exact pw_rz hx hb hr rfl hlk hAe hP hS rfl dX2_canPassUnits_17
  · have h := pq_e c1_ h
    refine lv_iconst (v := 1) hx hb dX2_canPassUnits_12 (by decide) ?_
    refine lv_goto (tgt := 17) hx hb dX2_canPassUnits_13 (by decide) ?_
    obtain rfl := Option.some.inj h
    subst hQ
    exact pw_rz hx hb hr rfl hlk hAe hP hS rfl dX2_canPassUnits_17

def aX2_checkIdle : List Cond := Cond.code yX2_checkIdle cX2_checkIdle 3 (some .int) :: pw_all
theorem pX2_checkIdle : yX2_checkIdle.cls = RX2 ∧ yX2_checkIdle.cls ≠ "java/lang/invoke/MethodHandle" ∧ yX2_checkIdle.cls ≠ "java/lang/invoke/VarHandle" ∧ (parseMethodDescriptor yX2_checkIdle.desc).map (fun d => d.parameters.length) = some 0 := by decide +kernel
set_option maxHeartbeats 8000000 in
set_option maxRecDepth 100000 in
theorem kX2_checkIdle (l : Launch) (D : va_G) (cy : Nat → ClassId) (q : Nat → Nat) (sz : Nat) (u : Nat → Nat → Int32)  (o : Int32 × (Nat → Nat → Int32)) (h : fX2_checkIdle u = some o) : Met l yX2_checkIdle aX2_checkIdle ({ frames := 2, cells := 0, slots := 0, locals := 42 }) (pw_Pre D cy [.ref (q 0)] (WP cy q u) sz) (pw_I D o.1 (WP cy q u) (WP cy q o.2) sz) 0 0 (va_A (WP cy q u) sz) := by
  refine pw_met (cc := cX2_checkIdle) (maxL := 3) (ret := (some .int)) (by decide) rfl (Nat.le_of_ble_eq_true rfl) ?_
  intro p e s m args below meth c ls A hx hb hr hml hlk hts hown hAe hA hK hP hD hS hl
  have hl : lv_has ls 3 [(0, .ref (q 0))] := hl
  generalize hQ : MQ below (pw_I D o.1 (WP cy q u) (WP cy q o.2) sz) args s 0 0 (va_A (WP cy q u) sz) = Q
  have hF : CallFix p m c cX2_checkIdle 3 s args aX2_checkIdle RX2 := ⟨hx, hb, hml, hown, hts⟩
  have hta : ∀ w ∈ pw_all, w.before args s = true := fun w h => hts w (List.mem_cons_of_mem _ h)
  have hin : ∀ w ∈ wsX20, w ∈ aX2_checkIdle := fun w h => List.mem_cons_of_mem _ (inA2 w h)
  unfold fX2_checkIdle at h
  refine lv_iconst (v := 0) hx hb dX2_checkIdle_0 (by decide) ?_
  refine lv_istore_n (lv' := [(1, .int 0), (0, .ref (q 0))]) hx hb dX2_checkIdle_1 rfl hl (by decide) rfl (fun ls hl => ?_)
  refine lv_iconst (v := 0) hx hb dX2_checkIdle_2 (by decide) ?_
  refine lv_istore_n (lv' := [(2, .int 0), (1, .int 0), (0, .ref (q 0))]) hx hb dX2_checkIdle_3 rfl hl (by decide) rfl (fun ls hl => ?_)
  have L4_n1 : ∀ (n : Nat) (x1_4 : Int32) (x2_4 : Int32) (u_4 : Nat → Nat → Int32) (H : Heap) (locs : List Loc) (ls : Array Slot), fX2_checkIdle_L4  n x1_4 x2_4 u_4 = some o → va_P D vwCl (WP cy q u_4) H → va_D A (WP cy q u_4) → va_S A s.heap H locs → lv_has ls 3 [(0, .ref (q 0)), (1, .int x1_4), (2, .int x2_4)] → W p l e ({ frames := 2, cells := 0, slots := 0, locals := 42 } : Room) s m args below meth c H locs 0 0 Q (F0 m 4 ls []) := by
    intro n
    induction n with
    | zero =>
      intro x1_4 x2_4 u_4 H locs ls h hP hD hS hl
      exact pq_n h
    | succ n ih4 =>
      intro x1_4 x2_4 u_4 H locs ls h hP hD hS hl
      rw [fX2_checkIdle_L4] at h
      refine lv_iload_n hx hb dX2_checkIdle_4 rfl (lv_at hl 2 rfl) ?_
      refine lv_bipush (v := 8) hx hb dX2_checkIdle_5 (by decide) ?_
      refine lv_icmp_ge (tgt := 37) hx hb dX2_checkIdle_7 (by decide) (fun c1_ => ?_) (fun c1_ => ?_)
      · have h := pq_t c1_ h
        refine lv_iload_n hx hb dX2_checkIdle_37 rfl (lv_at hl 1 rfl) ?_
        obtain rfl := Option.some.inj h
        subst hQ
        exact pw_ri hx hb hr hlk hAe hP hS rfl dX2_checkIdle_38
      · have h := pq_e c1_ h
        refine lv_aload_n hx hb dX2_checkIdle_10 rfl (lv_at hl 0 rfl) ?_
        refine va_get (D := D) (ci := 2) (v := .ref (q 2)) (C := RX2) (T := TX2) (N := 16) hx hb hts hin hown hK hP 0 rfl rfl 2 (by decide) (hta _ aw_35) (fun _ h9 => h9) rfl dX2_checkIdle_11 ?_
        refine lv_iload_n hx hb dX2_checkIdle_14 rfl (lv_at hl 2 rfl) ?_
        obtain ⟨hg, h⟩ := pq_g h
        refine va_iald hx hb hK hP 2 0 rfl rfl (pq_vp hg) dX2_checkIdle_15 ?_
        refine lv_iconst (v := 1) hx hb dX2_checkIdle_16 (by decide) ?_
        refine lv_icmp_ne (tgt := 31) hx hb dX2_checkIdle_17 (by decide) (fun c2_ => ?_) (fun c2_ => ?_)
        · have h := pq_e c2_ h
          refine lv_iinc (v := x2_4 + 1) (lv' := [(2, .int (x2_4 + 1)), (0, .ref (q 0)), (1, .int x1_4)]) hx hb dX2_checkIdle_31 hl (k := 2) rfl (by first | rfl | decide) (by decide) rfl (fun ls hl => ?_)
          refine lv_goto (tgt := 4) hx hb dX2_checkIdle_34 (by decide) ?_
          exact ih4 x1_4 (x2_4 + 1) u_4 _ _ _ h hP hD hS (lv_sub hl [1, 2, 0] rfl)
        · have h := pq_t c2_ h
          refine lv_aload_n hx hb dX2_checkIdle_20 rfl (lv_at hl 0 rfl) ?_
          refine lv_iload_n hx hb dX2_checkIdle_21 rfl (lv_at hl 2 rfl) ?_
          obtain ⟨r2, hr2, h⟩ := pq_b h
          refine pw_ci (w1 := WP cy q r2.2) (rest := []) (As := [.int x2_4]) hF (kX2_closeIfSick l D cy q _ u_4 x2_4 r2 hr2) (cwV 1 hts (pw_gV (own := RX2) (idx := 120) (C := RX2) (y := yX2_closeIfSick) aw_289 aw_291 aw_s6 aw_2 aw_292) rfl rfl rfl pX2_closeIfSick ⟨Nat.le_of_ble_eq_true rfl, Nat.le_of_ble_eq_true rfl⟩) (va_recv hK hP (ci := 2) (q0 := 0) rfl rfl) hK hP hD hS hA rfl rfl hl.1 rfl (Nat.le_of_ble_eq_true rfl) dX2_checkIdle_22 ⟨Nat.zero_le _, Nat.zero_le _⟩ (fun H locs hP hD hS => ?_)
          refine lv_if_eq (tgt := 31) hx hb dX2_checkIdle_25 (by decide) (fun c3_ => ?_) (fun c3_ => ?_)
          · have h := pq_t c3_ h
            refine lv_iinc (v := x2_4 + 1) (lv' := [(2, .int (x2_4 + 1)), (0, .ref (q 0)), (1, .int x1_4)]) hx hb dX2_checkIdle_31 hl (k := 2) rfl (by first | rfl | decide) (by decide) rfl (fun ls hl => ?_)
            refine lv_goto (tgt := 4) hx hb dX2_checkIdle_34 (by decide) ?_
            exact ih4 x1_4 (x2_4 + 1) r2.2 _ _ _ h hP hD hS (lv_sub hl [1, 2, 0] rfl)
          · have h := pq_e c3_ h
            refine lv_iinc (v := x1_4 + 1) (lv' := [(1, .int (x1_4 + 1)), (0, .ref (q 0)), (2, .int x2_4)]) hx hb dX2_checkIdle_28 hl (k := 1) rfl (by first | rfl | decide) (by decide) rfl (fun ls hl => ?_)
            refine lv_iinc (v := x2_4 + 1) (lv' := [(2, .int (x2_4 + 1)), (1, .int (x1_4 + 1)), (0, .ref (q 0))]) hx hb dX2_checkIdle_31 hl (k := 2) rfl (by first | rfl | decide) (by decide) rfl (fun ls hl => ?_)
            refine lv_goto (tgt := 4) hx hb dX2_checkIdle_34 (by decide) ?_
            exact ih4 (x1_4 + 1) (x2_4 + 1) r2.2 _ _ _ h hP hD hS (lv_sub hl [2, 1, 0] rfl)
  exact L4_n1 1000 0 0 u _ _ _ h hP hD hS (lv_sub hl [2, 1, 0] rfl)

def aX2_closeIdleTooLong : List Cond := Cond.code yX2_closeIdleTooLong cX2_closeIdleTooLong 3 none :: pw_all
theorem pX2_closeIdleTooLong : yX2_closeIdleTooLong.cls = RX2 ∧ yX2_closeIdleTooLong.cls ≠ "java/lang/invoke/MethodHandle" ∧ yX2_closeIdleTooLong.cls ≠ "java/lang/invoke/VarHandle" ∧ (parseMethodDescriptor yX2_closeIdleTooLong.desc).map (fun d => d.parameters.length) = some 0 := by decide +kernel
set_option maxHeartbeats 8000000 in
set_option maxRecDepth 100000 in
theorem kX2_closeIdleTooLong (l : Launch) (D : va_G) (cy : Nat → ClassId) (q : Nat → Nat) (sz : Nat) (u : Nat → Nat → Int32)  (o : (Nat → Nat → Int32)) (h : fX2_closeIdleTooLong u = some o) : Met l yX2_closeIdleTooLong aX2_closeIdleTooLong ({ frames := 2, cells := 0, slots := 0, locals := 43 }) (pw_Pre D cy [.ref (q 0)] (WP cy q u) sz) (pw_V D (WP cy q u) (WP cy q o) sz) 0 0 (va_A (WP cy q u) sz) := by
  refine pw_met (cc := cX2_closeIdleTooLong) (maxL := 3) (ret := none) (by decide) rfl (Nat.le_of_ble_eq_true rfl) ?_
  intro p e s m args below meth c ls A hx hb hr hml hlk hts hown hAe hA hK hP hD hS hl
  have hl : lv_has ls 3 [(0, .ref (q 0))] := hl
  generalize hQ : MQ below (pw_V D (WP cy q u) (WP cy q o) sz) args s 0 0 (va_A (WP cy q u) sz) = Q
  have hF : CallFix p m c cX2_closeIdleTooLong 3 s args aX2_closeIdleTooLong RX2 := ⟨hx, hb, hml, hown, hts⟩
  have hta : ∀ w ∈ pw_all, w.before args s = true := fun w h => hts w (List.mem_cons_of_mem _ h)
  have hin : ∀ w ∈ wsX20, w ∈ aX2_closeIdleTooLong := fun w h => List.mem_cons_of_mem _ (inA2 w h)
  unfold fX2_closeIdleTooLong at h
  refine lv_aload_n hx hb dX2_closeIdleTooLong_0 rfl (lv_at hl 0 rfl) ?_
  obtain ⟨r1, hr1, h⟩ := pq_b h
  refine pw_ci (w1 := WP cy q u) (rest := []) (As := []) hF (kX2_connections l D cy q _ u  r1 hr1) (cwV 0 hts (pw_gV (own := RX2) (idx := 94) (C := RX2) (y := yX2_connections) aw_297 aw_298 aw_299 aw_2 aw_300) rfl rfl rfl pX2_connections ⟨Nat.le_of_ble_eq_true rfl, Nat.le_of_ble_eq_true rfl⟩) (va_recv hK hP (ci := 2) (q0 := 0) rfl rfl) hK hP hD hS hA rfl rfl hl.1 rfl (Nat.le_of_ble_eq_true rfl) dX2_closeIdleTooLong_1 ⟨Nat.zero_le _, Nat.zero_le _⟩ (fun H locs hP hD hS => ?_)
  refine lv_istore_n (lv' := [(1, .int r1), (0, .ref (q 0))]) hx hb dX2_closeIdleTooLong_4 rfl hl (by decide) rfl (fun ls hl => ?_)
  refine lv_iconst (v := 0) hx hb dX2_closeIdleTooLong_5 (by decide) ?_
  refine lv_istore_n (lv' := [(2, .int 0), (1, .int r1), (0, .ref (q 0))]) hx hb dX2_closeIdleTooLong_6 rfl hl (by decide) rfl (fun ls hl => ?_)
  have L7_n2 : ∀ (n : Nat) (x1_7 : Int32) (x2_7 : Int32) (u_7 : Nat → Nat → Int32) (H : Heap) (locs : List Loc) (ls : Array Slot), fX2_closeIdleTooLong_L7  n x1_7 x2_7 u_7 = some o → va_P D vwCl (WP cy q u_7) H → va_D A (WP cy q u_7) → va_S A s.heap H locs → lv_has ls 3 [(0, .ref (q 0)), (1, .int x1_7), (2, .int x2_7)] → W p l e ({ frames := 2, cells := 0, slots := 0, locals := 43 } : Room) s m args below meth c H locs 0 0 Q (F0 m 7 ls []) := by
    intro n
    induction n with
    | zero =>
      intro x1_7 x2_7 u_7 H locs ls h hP hD hS hl
      exact pq_n h
    | succ n ih7 =>
      intro x1_7 x2_7 u_7 H locs ls h hP hD hS hl
      rw [fX2_closeIdleTooLong_L7] at h
      refine lv_iload_n hx hb dX2_closeIdleTooLong_7 rfl (lv_at hl 2 rfl) ?_
      refine lv_bipush (v := 8) hx hb dX2_closeIdleTooLong_8 (by decide) ?_
      refine lv_icmp_ge (tgt := 78) hx hb dX2_closeIdleTooLong_10 (by decide) (fun c1_ => ?_) (fun c1_ => ?_)
      · have h := pq_t c1_ h
        obtain rfl := Option.some.inj h
        subst hQ
        exact pw_rv hx hb hr hlk hAe hP hS dX2_closeIdleTooLong_78
      · have h := pq_e c1_ h
        refine lv_iload_n hx hb dX2_closeIdleTooLong_13 rfl (lv_at hl 1 rfl) ?_
        refine lv_aload_n hx hb dX2_closeIdleTooLong_14 rfl (lv_at hl 0 rfl) ?_
        refine va_get (D := D) (ci := 2) (v := .ref (q 1)) (C := RX2) (T := TX2) (N := 16) hx hb hts hin hown hK hP 0 rfl rfl 1 (by decide) (hta _ aw_33) (fun _ h9 => h9) rfl dX2_closeIdleTooLong_15 ?_
        refine lv_iconst (v := 2) hx hb dX2_closeIdleTooLong_18 (by decide) ?_
        refine va_iald hx hb hK hP 1 0 rfl rfl (pq_vp (by decide +kernel)) dX2_closeIdleTooLong_19 ?_
        refine lv_icmp_le (tgt := 78) hx hb dX2_closeIdleTooLong_20 (by decide) (fun c2_ => ?_) (fun c2_ => ?_)
        · have h := pq_t c2_ h
          obtain rfl := Option.some.inj h
          subst hQ
          exact pw_rv hx hb hr hlk hAe hP hS dX2_closeIdleTooLong_78
        · have h := pq_e c2_ h
          refine lv_aload_n hx hb dX2_closeIdleTooLong_23 rfl (lv_at hl 0 rfl) ?_
          refine va_get (D := D) (ci := 2) (v := .ref (q 2)) (C := RX2) (T := TX2) (N := 16) hx hb hts hin hown hK hP 0 rfl rfl 2 (by decide) (hta _ aw_35) (fun _ h9 => h9) rfl dX2_closeIdleTooLong_24 ?_
          refine lv_iload_n hx hb dX2_closeIdleTooLong_27 rfl (lv_at hl 2 rfl) ?_
          obtain ⟨hg, h⟩ := pq_g h
          refine va_iald hx hb hK hP 2 0 rfl rfl (pq_vp hg) dX2_closeIdleTooLong_28 ?_
          refine lv_iconst (v := 1) hx hb dX2_closeIdleTooLong_29 (by decide) ?_
          refine lv_icmp_ne (tgt := 72) hx hb dX2_closeIdleTooLong_30 (by decide) (fun c3_ => ?_) (fun c3_ => ?_)
          · have h := pq_e c3_ h
            refine lv_iinc (v := x2_7 + 1) (lv' := [(2, .int (x2_7 + 1)), (0, .ref (q 0)), (1, .int x1_7)]) hx hb dX2_closeIdleTooLong_72 hl (k := 2) rfl (by first | rfl | decide) (by decide) rfl (fun ls hl => ?_)
            refine lv_goto (tgt := 7) hx hb dX2_closeIdleTooLong_75 (by decide) ?_
            exact ih7 x1_7 (x2_7 + 1) u_7 _ _ _ h hP hD hS (lv_sub hl [1, 2, 0] rfl)
          · have h := pq_t c3_ h
            refine lv_aload_n hx hb dX2_closeIdleTooLong_33 rfl (lv_at hl 0 rfl) ?_
            refine va_get (D := D) (ci := 2) (v := .int (u_7 0 0)) (C := RX2) (T := TX2) (N := 16) hx hb hts hin hown hK hP 0 rfl rfl 0 (by decide) (hta _ aw_32) (fun _ h9 => h9) rfl dX2_closeIdleTooLong_34 ?_
            refine lv_aload_n hx hb dX2_closeIdleTooLong_37 rfl (lv_at hl 0 rfl) ?_
            refine va_get (D := D) (ci := 2) (v := .ref (q 6)) (C := RX2) (T := TX2) (N := 16) hx hb hts hin hown hK hP 0 rfl rfl 6 (by decide) (hta _ aw_39) (fun _ h9 => h9) rfl dX2_closeIdleTooLong_38 ?_
            refine lv_iload_n hx hb dX2_closeIdleTooLong_41 rfl (lv_at hl 2 rfl) ?_
            obtain ⟨hg, h⟩ := pq_g h
            refine va_iald hx hb hK hP 6 0 rfl rfl (pq_vp hg) dX2_closeIdleTooLong_42 ?_
            refine lv_isub hx hb dX2_closeIdleTooLong_43 ?_
            refine lv_aload_n hx hb dX2_closeIdleTooLong_44 rfl (lv_at hl 0 rfl) ?_
            refine va_get (D := D) (ci := 2) (v := .ref (q 1)) (C := RX2) (T := TX2) (N := 16) hx hb hts hin hown hK hP 0 rfl rfl 1 (by decide) (hta _ aw_33) (fun _ h9 => h9) rfl dX2_closeIdleTooLong_45 ?_
            refine lv_bipush (v := 7) hx hb dX2_closeIdleTooLong_48 (by decide) ?_
            refine va_iald hx hb hK hP 1 0 rfl rfl (pq_vp (by decide +kernel)) dX2_closeIdleTooLong_50 ?_
            refine lv_icmp_lt (tgt := 72) hx hb dX2_closeIdleTooLong_51 (by decide) (fun c4_ => ?_) (fun c4_ => ?_)
            · have h := pq_t c4_ h
              refine lv_iinc (v := x2_7 + 1) (lv' := [(2, .int (x2_7 + 1)), (0, .ref (q 0)), (1, .int x1_7)]) hx hb dX2_closeIdleTooLong_72 hl (k := 2) rfl (by first | rfl | decide) (by decide) rfl (fun ls hl => ?_)
              refine lv_goto (tgt := 7) hx hb dX2_closeIdleTooLong_75 (by decide) ?_
              exact ih7 x1_7 (x2_7 + 1) u_7 _ _ _ h hP hD hS (lv_sub hl [1, 2, 0] rfl)
            · have h := pq_e c4_ h
              refine lv_aload_n hx hb dX2_closeIdleTooLong_54 rfl (lv_at hl 0 rfl) ?_
              refine lv_iload_n hx hb dX2_closeIdleTooLong_55 rfl (lv_at hl 2 rfl) ?_
              obtain ⟨r3, hr3, h⟩ := pq_b h
              refine pw_cv (w1 := WP cy q r3) (rest := []) (As := [.int x2_7]) hF (kX2_close l D cy q _ u_7 x2_7 r3 hr3) (cwV 1 hts (pw_gV (own := RX2) (idx := 123) (C := RX2) (y := yX2_close) aw_293 aw_295 aw_s7 aw_2 aw_296) rfl rfl rfl pX2_close ⟨Nat.le_of_ble_eq_true rfl, Nat.le_of_ble_eq_true rfl⟩) (va_recv hK hP (ci := 2) (q0 := 0) rfl rfl) hK hP hD hS hA rfl rfl hl.1 rfl (Nat.le_of_ble_eq_true rfl) dX2_closeIdleTooLong_56 ⟨Nat.zero_le _, Nat.zero_le _⟩ (fun H locs hP hD hS => ?_)
              refine lv_aload_n hx hb dX2_closeIdleTooLong_59 rfl (lv_at hl 0 rfl) ?_
              refine va_get (D := D) (ci := 2) (v := .ref (q 15)) (C := RX2) (T := TX2) (N := 16) hx hb hts hin hown hK hP 0 rfl rfl 15 (by decide) (hta _ aw_51) (fun _ h9 => h9) rfl dX2_closeIdleTooLong_60 ?_
              refine lv_iconst (v := 3) hx hb dX2_closeIdleTooLong_63 (by decide) ?_
              refine lv_dup2_11 hx hb dX2_closeIdleTooLong_64 rfl rfl ?_
              refine va_iald hx hb hK hP 14 0 rfl rfl (pq_vp (by decide +kernel)) dX2_closeIdleTooLong_65 ?_
              refine lv_iconst (v := 1) hx hb dX2_closeIdleTooLong_66 (by decide) ?_
              refine lv_iadd hx hb dX2_closeIdleTooLong_67 ?_
              refine va_iast hx hb hK hP hD hS 14 0 rfl rfl (pq_vp (by decide +kernel)) dX2_closeIdleTooLong_68 (fun H locs hP hD hS => ?_)
              have hP : va_P D vwCl (WP cy q (pu r3 15 (upd (r3 15) (3 : Int32).toNatClampNeg (((r3 15) (3 : Int32).toNatClampNeg) + 1)))) H := hP
              have hD : va_D A (WP cy q (pu r3 15 (upd (r3 15) (3 : Int32).toNatClampNeg (((r3 15) (3 : Int32).toNatClampNeg) + 1)))) := hD
              refine lv_iinc (v := x1_7 + (-1)) (lv' := [(1, .int (x1_7 + (-1))), (0, .ref (q 0)), (2, .int x2_7)]) hx hb dX2_closeIdleTooLong_69 hl (k := 1) rfl (by first | rfl | decide) (by decide) rfl (fun ls hl => ?_)
              refine lv_iinc (v := x2_7 + 1) (lv' := [(2, .int (x2_7 + 1)), (1, .int (x1_7 + (-1))), (0, .ref (q 0))]) hx hb dX2_closeIdleTooLong_72 hl (k := 2) rfl (by first | rfl | decide) (by decide) rfl (fun ls hl => ?_)
              refine lv_goto (tgt := 7) hx hb dX2_closeIdleTooLong_75 (by decide) ?_
              exact ih7 (x1_7 + (-1)) (x2_7 + 1) (pu r3 15 (upd (r3 15) (3 : Int32).toNatClampNeg (((r3 15) (3 : Int32).toNatClampNeg) + 1))) _ _ _ h hP hD hS (lv_sub hl [2, 1, 0] rfl)
  exact L7_n2 1000 r1 0 u _ _ _ h hP hD hS (lv_sub hl [2, 1, 0] rfl)

def aX2_closeLeasesOfVanished : List Cond := Cond.code yX2_closeLeasesOfVanished cX2_closeLeasesOfVanished 2 none :: pw_all
theorem pX2_closeLeasesOfVanished : yX2_closeLeasesOfVanished.cls = RX2 ∧ yX2_closeLeasesOfVanished.cls ≠ "java/lang/invoke/MethodHandle" ∧ yX2_closeLeasesOfVanished.cls ≠ "java/lang/invoke/VarHandle" ∧ (parseMethodDescriptor yX2_closeLeasesOfVanished.desc).map (fun d => d.parameters.length) = some 0 := by decide +kernel
set_option maxHeartbeats 8000000 in
set_option maxRecDepth 100000 in
theorem kX2_closeLeasesOfVanished (l : Launch) (D : va_G) (cy : Nat → ClassId) (q : Nat → Nat) (sz : Nat) (u : Nat → Nat → Int32)  (o : (Nat → Nat → Int32)) (h : fX2_closeLeasesOfVanished u = some o) : Met l yX2_closeLeasesOfVanished aX2_closeLeasesOfVanished ({ frames := 1, cells := 0, slots := 0, locals := 21 }) (pw_Pre D cy [.ref (q 0)] (WP cy q u) sz) (pw_V D (WP cy q u) (WP cy q o) sz) 0 0 (va_A (WP cy q u) sz) := by
  refine pw_met (cc := cX2_closeLeasesOfVanished) (maxL := 2) (ret := none) (by decide) rfl (Nat.le_of_ble_eq_true rfl) ?_
  intro p e s m args below meth c ls A hx hb hr hml hlk hts hown hAe hA hK hP hD hS hl
  have hl : lv_has ls 2 [(0, .ref (q 0))] := hl
  generalize hQ : MQ below (pw_V D (WP cy q u) (WP cy q o) sz) args s 0 0 (va_A (WP cy q u) sz) = Q
  have hF : CallFix p m c cX2_closeLeasesOfVanished 2 s args aX2_closeLeasesOfVanished RX2 := ⟨hx, hb, hml, hown, hts⟩
  have hta : ∀ w ∈ pw_all, w.before args s = true := fun w h => hts w (List.mem_cons_of_mem _ h)
  have hin : ∀ w ∈ wsX20, w ∈ aX2_closeLeasesOfVanished := fun w h => List.mem_cons_of_mem _ (inA2 w h)
  unfold fX2_closeLeasesOfVanished at h
  refine lv_iconst (v := 0) hx hb dX2_closeLeasesOfVanished_0 (by decide) ?_
  refine lv_istore_n (lv' := [(1, .int 0), (0, .ref (q 0))]) hx hb dX2_closeLeasesOfVanished_1 rfl hl (by decide) rfl (fun ls hl => ?_)
  have L2_n1 : ∀ (n : Nat) (x1_2 : Int32) (u_2 : Nat → Nat → Int32) (H : Heap) (locs : List Loc) (ls : Array Slot), fX2_closeLeasesOfVanished_L2  n x1_2 u_2 = some o → va_P D vwCl (WP cy q u_2) H → va_D A (WP cy q u_2) → va_S A s.heap H locs → lv_has ls 2 [(0, .ref (q 0)), (1, .int x1_2)] → W p l e ({ frames := 1, cells := 0, slots := 0, locals := 21 } : Room) s m args below meth c H locs 0 0 Q (F0 m 2 ls []) := by
    intro n
    induction n with
    | zero =>
      intro x1_2 u_2 H locs ls h hP hD hS hl
      exact pq_n h
    | succ n ih2 =>
      intro x1_2 u_2 H locs ls h hP hD hS hl
      rw [fX2_closeLeasesOfVanished_L2] at h
      refine lv_iload_n hx hb dX2_closeLeasesOfVanished_2 rfl (lv_at hl 1 rfl) ?_
      refine lv_bipush (v := 8) hx hb dX2_closeLeasesOfVanished_3 (by decide) ?_
      refine lv_icmp_ge (tgt := 73) hx hb dX2_closeLeasesOfVanished_5 (by decide) (fun c1_ => ?_) (fun c1_ => ?_)
      · have h := pq_t c1_ h
        obtain rfl := Option.some.inj h
        subst hQ
        exact pw_rv hx hb hr hlk hAe hP hS dX2_closeLeasesOfVanished_73
      · have h := pq_e c1_ h
        refine lv_aload_n hx hb dX2_closeLeasesOfVanished_8 rfl (lv_at hl 0 rfl) ?_
        refine va_get (D := D) (ci := 2) (v := .ref (q 2)) (C := RX2) (T := TX2) (N := 16) hx hb hts hin hown hK hP 0 rfl rfl 2 (by decide) (hta _ aw_35) (fun _ h9 => h9) rfl dX2_closeLeasesOfVanished_9 ?_
        refine lv_iload_n hx hb dX2_closeLeasesOfVanished_12 rfl (lv_at hl 1 rfl) ?_
        obtain ⟨hg, h⟩ := pq_g h
        refine va_iald hx hb hK hP 2 0 rfl rfl (pq_vp hg) dX2_closeLeasesOfVanished_13 ?_
        refine lv_iconst (v := 2) hx hb dX2_closeLeasesOfVanished_14 (by decide) ?_
        refine lv_icmp_ne (tgt := 67) hx hb dX2_closeLeasesOfVanished_15 (by decide) (fun c2_ => ?_) (fun c2_ => ?_)
        · have h := pq_e c2_ h
          refine lv_iinc (v := x1_2 + 1) (lv' := [(1, .int (x1_2 + 1)), (0, .ref (q 0))]) hx hb dX2_closeLeasesOfVanished_67 hl (k := 1) rfl (by first | rfl | decide) (by decide) rfl (fun ls hl => ?_)
          refine lv_goto (tgt := 2) hx hb dX2_closeLeasesOfVanished_70 (by decide) ?_
          exact ih2 (x1_2 + 1) u_2 _ _ _ h hP hD hS (lv_sub hl [1, 0] rfl)
        · have h := pq_t c2_ h
          refine lv_aload_n hx hb dX2_closeLeasesOfVanished_18 rfl (lv_at hl 0 rfl) ?_
          refine va_get (D := D) (ci := 2) (v := .ref (q 8)) (C := RX2) (T := TX2) (N := 16) hx hb hts hin hown hK hP 0 rfl rfl 8 (by decide) (hta _ aw_42) (fun _ h9 => h9) rfl dX2_closeLeasesOfVanished_19 ?_
          refine lv_aload_n hx hb dX2_closeLeasesOfVanished_22 rfl (lv_at hl 0 rfl) ?_
          refine va_get (D := D) (ci := 2) (v := .ref (q 3)) (C := RX2) (T := TX2) (N := 16) hx hb hts hin hown hK hP 0 rfl rfl 3 (by decide) (hta _ aw_36) (fun _ h9 => h9) rfl dX2_closeLeasesOfVanished_23 ?_
          refine lv_iload_n hx hb dX2_closeLeasesOfVanished_26 rfl (lv_at hl 1 rfl) ?_
          obtain ⟨hg, h⟩ := pq_g h
          refine va_iald hx hb hK hP 3 0 rfl rfl (pq_vp hg) dX2_closeLeasesOfVanished_27 ?_
          obtain ⟨hg, h⟩ := pq_g h
          refine va_zald hx hb hK hP 8 1 rfl rfl (pq_vp hg) dX2_closeLeasesOfVanished_28 ?_
          refine lv_if_eq (tgt := 67) hx hb dX2_closeLeasesOfVanished_29 (by decide) (fun c3_ => ?_) (fun c3_ => ?_)
          · have h := pq_t c3_ h
            refine lv_iinc (v := x1_2 + 1) (lv' := [(1, .int (x1_2 + 1)), (0, .ref (q 0))]) hx hb dX2_closeLeasesOfVanished_67 hl (k := 1) rfl (by first | rfl | decide) (by decide) rfl (fun ls hl => ?_)
            refine lv_goto (tgt := 2) hx hb dX2_closeLeasesOfVanished_70 (by decide) ?_
            exact ih2 (x1_2 + 1) u_2 _ _ _ h hP hD hS (lv_sub hl [1, 0] rfl)
          · have h := pq_e c3_ h
            refine lv_aload_n hx hb dX2_closeLeasesOfVanished_32 rfl (lv_at hl 0 rfl) ?_
            refine va_get (D := D) (ci := 2) (v := .int (u_2 0 0)) (C := RX2) (T := TX2) (N := 16) hx hb hts hin hown hK hP 0 rfl rfl 0 (by decide) (hta _ aw_32) (fun _ h9 => h9) rfl dX2_closeLeasesOfVanished_33 ?_
            refine lv_aload_n hx hb dX2_closeLeasesOfVanished_36 rfl (lv_at hl 0 rfl) ?_
            refine va_get (D := D) (ci := 2) (v := .ref (q 6)) (C := RX2) (T := TX2) (N := 16) hx hb hts hin hown hK hP 0 rfl rfl 6 (by decide) (hta _ aw_39) (fun _ h9 => h9) rfl dX2_closeLeasesOfVanished_37 ?_
            refine lv_iload_n hx hb dX2_closeLeasesOfVanished_40 rfl (lv_at hl 1 rfl) ?_
            obtain ⟨hg, h⟩ := pq_g h
            refine va_iald hx hb hK hP 6 0 rfl rfl (pq_vp hg) dX2_closeLeasesOfVanished_41 ?_
            refine lv_isub hx hb dX2_closeLeasesOfVanished_42 ?_
            refine lv_aload_n hx hb dX2_closeLeasesOfVanished_43 rfl (lv_at hl 0 rfl) ?_
            refine va_get (D := D) (ci := 2) (v := .ref (q 1)) (C := RX2) (T := TX2) (N := 16) hx hb hts hin hown hK hP 0 rfl rfl 1 (by decide) (hta _ aw_33) (fun _ h9 => h9) rfl dX2_closeLeasesOfVanished_44 ?_
            refine lv_iconst (v := 5) hx hb dX2_closeLeasesOfVanished_47 (by decide) ?_
            refine va_iald hx hb hK hP 1 0 rfl rfl (pq_vp (by decide +kernel)) dX2_closeLeasesOfVanished_48 ?_
            refine lv_icmp_lt (tgt := 67) hx hb dX2_closeLeasesOfVanished_49 (by decide) (fun c4_ => ?_) (fun c4_ => ?_)
            · have h := pq_t c4_ h
              refine lv_iinc (v := x1_2 + 1) (lv' := [(1, .int (x1_2 + 1)), (0, .ref (q 0))]) hx hb dX2_closeLeasesOfVanished_67 hl (k := 1) rfl (by first | rfl | decide) (by decide) rfl (fun ls hl => ?_)
              refine lv_goto (tgt := 2) hx hb dX2_closeLeasesOfVanished_70 (by decide) ?_
              exact ih2 (x1_2 + 1) u_2 _ _ _ h hP hD hS (lv_sub hl [1, 0] rfl)
            · have h := pq_e c4_ h
              refine lv_aload_n hx hb dX2_closeLeasesOfVanished_52 rfl (lv_at hl 0 rfl) ?_
              refine lv_iload_n hx hb dX2_closeLeasesOfVanished_53 rfl (lv_at hl 1 rfl) ?_
              obtain ⟨r2, hr2, h⟩ := pq_b h
              refine pw_cv (w1 := WP cy q r2) (rest := []) (As := [.int x1_2]) hF (kX2_close l D cy q _ u_2 x1_2 r2 hr2) (cwV 1 hts (pw_gV (own := RX2) (idx := 123) (C := RX2) (y := yX2_close) aw_293 aw_295 aw_s7 aw_2 aw_296) rfl rfl rfl pX2_close ⟨Nat.le_of_ble_eq_true rfl, Nat.le_of_ble_eq_true rfl⟩) (va_recv hK hP (ci := 2) (q0 := 0) rfl rfl) hK hP hD hS hA rfl rfl hl.1 rfl (Nat.le_of_ble_eq_true rfl) dX2_closeLeasesOfVanished_54 ⟨Nat.zero_le _, Nat.zero_le _⟩ (fun H locs hP hD hS => ?_)
              refine lv_aload_n hx hb dX2_closeLeasesOfVanished_57 rfl (lv_at hl 0 rfl) ?_
              refine va_get (D := D) (ci := 2) (v := .ref (q 15)) (C := RX2) (T := TX2) (N := 16) hx hb hts hin hown hK hP 0 rfl rfl 15 (by decide) (hta _ aw_51) (fun _ h9 => h9) rfl dX2_closeLeasesOfVanished_58 ?_
              refine lv_iconst (v := 4) hx hb dX2_closeLeasesOfVanished_61 (by decide) ?_
              refine lv_dup2_11 hx hb dX2_closeLeasesOfVanished_62 rfl rfl ?_
              refine va_iald hx hb hK hP 14 0 rfl rfl (pq_vp (by decide +kernel)) dX2_closeLeasesOfVanished_63 ?_
              refine lv_iconst (v := 1) hx hb dX2_closeLeasesOfVanished_64 (by decide) ?_
              refine lv_iadd hx hb dX2_closeLeasesOfVanished_65 ?_
              refine va_iast hx hb hK hP hD hS 14 0 rfl rfl (pq_vp (by decide +kernel)) dX2_closeLeasesOfVanished_66 (fun H locs hP hD hS => ?_)
              have hP : va_P D vwCl (WP cy q (pu r2 15 (upd (r2 15) (4 : Int32).toNatClampNeg (((r2 15) (4 : Int32).toNatClampNeg) + 1)))) H := hP
              have hD : va_D A (WP cy q (pu r2 15 (upd (r2 15) (4 : Int32).toNatClampNeg (((r2 15) (4 : Int32).toNatClampNeg) + 1)))) := hD
              refine lv_iinc (v := x1_2 + 1) (lv' := [(1, .int (x1_2 + 1)), (0, .ref (q 0))]) hx hb dX2_closeLeasesOfVanished_67 hl (k := 1) rfl (by first | rfl | decide) (by decide) rfl (fun ls hl => ?_)
              refine lv_goto (tgt := 2) hx hb dX2_closeLeasesOfVanished_70 (by decide) ?_
              exact ih2 (x1_2 + 1) (pu r2 15 (upd (r2 15) (4 : Int32).toNatClampNeg (((r2 15) (4 : Int32).toNatClampNeg) + 1))) _ _ _ h hP hD hS (lv_sub hl [1, 0] rfl)
  exact L2_n1 1000 0 u _ _ _ h hP hD hS (lv_sub hl [1, 0] rfl)

def aX2_dropTiredWaiters : List Cond := Cond.code yX2_dropTiredWaiters cX2_dropTiredWaiters 4 (some .int) :: pw_all
theorem pX2_dropTiredWaiters : yX2_dropTiredWaiters.cls = RX2 ∧ yX2_dropTiredWaiters.cls ≠ "java/lang/invoke/MethodHandle" ∧ yX2_dropTiredWaiters.cls ≠ "java/lang/invoke/VarHandle" ∧ (parseMethodDescriptor yX2_dropTiredWaiters.desc).map (fun d => d.parameters.length) = some 0 := by decide +kernel
set_option maxHeartbeats 8000000 in
set_option maxRecDepth 100000 in
theorem kX2_dropTiredWaiters (l : Launch) (D : va_G) (cy : Nat → ClassId) (q : Nat → Nat) (sz : Nat) (u : Nat → Nat → Int32)  (o : Int32 × (Nat → Nat → Int32)) (h : fX2_dropTiredWaiters u = some o) : Met l yX2_dropTiredWaiters aX2_dropTiredWaiters ({ frames := 1, cells := 0, slots := 0, locals := 22 }) (pw_Pre D cy [.ref (q 0)] (WP cy q u) sz) (pw_I D o.1 (WP cy q u) (WP cy q o.2) sz) 0 0 (va_A (WP cy q u) sz) := by
  refine pw_met (cc := cX2_dropTiredWaiters) (maxL := 4) (ret := (some .int)) (by decide) rfl (Nat.le_of_ble_eq_true rfl) ?_
  intro p e s m args below meth c ls A hx hb hr hml hlk hts hown hAe hA hK hP hD hS hl
  have hl : lv_has ls 4 [(0, .ref (q 0))] := hl
  generalize hQ : MQ below (pw_I D o.1 (WP cy q u) (WP cy q o.2) sz) args s 0 0 (va_A (WP cy q u) sz) = Q
  have hF : CallFix p m c cX2_dropTiredWaiters 4 s args aX2_dropTiredWaiters RX2 := ⟨hx, hb, hml, hown, hts⟩
  have hta : ∀ w ∈ pw_all, w.before args s = true := fun w h => hts w (List.mem_cons_of_mem _ h)
  have hin : ∀ w ∈ wsX20, w ∈ aX2_dropTiredWaiters := fun w h => List.mem_cons_of_mem _ (inA2 w h)
  unfold fX2_dropTiredWaiters at h
  refine lv_iconst (v := 0) hx hb dX2_dropTiredWaiters_0 (by decide) ?_
  refine lv_istore_n (lv' := [(1, .int 0), (0, .ref (q 0))]) hx hb dX2_dropTiredWaiters_1 rfl hl (by decide) rfl (fun ls hl => ?_)
  refine lv_aload_n hx hb dX2_dropTiredWaiters_2 rfl (lv_at hl 1 rfl) ?_
  refine va_get (D := D) (ci := 2) (v := .int (u 14 0)) (C := RX2) (T := TX2) (N := 16) hx hb hts hin hown hK hP 0 rfl rfl 14 (by decide) (hta _ aw_49) (fun _ h9 => h9) rfl dX2_dropTiredWaiters_3 ?_
  refine lv_iconst (v := 1) hx hb dX2_dropTiredWaiters_6 (by decide) ?_
  refine lv_isub hx hb dX2_dropTiredWaiters_7 ?_
  refine lv_istore_n (lv' := [(2, .int ((u 14 0) - 1)), (1, .int 0), (0, .ref (q 0))]) hx hb dX2_dropTiredWaiters_8 rfl hl (by decide) rfl (fun ls hl => ?_)
  have L9_n1 : ∀ (n : Nat) (x1_9 : Int32) (x2_9 : Int32) (u_9 : Nat → Nat → Int32) (H : Heap) (locs : List Loc) (ls : Array Slot), fX2_dropTiredWaiters_L9  n x1_9 x2_9 u_9 = some o → va_P D vwCl (WP cy q u_9) H → va_D A (WP cy q u_9) → va_S A s.heap H locs → lv_has ls 4 [(0, .ref (q 0)), (1, .int x1_9), (2, .int x2_9)] → W p l e ({ frames := 1, cells := 0, slots := 0, locals := 22 } : Room) s m args below meth c H locs 0 0 Q (F0 m 9 ls []) := by
    intro n
    induction n with
    | zero =>
      intro x1_9 x2_9 u_9 H locs ls h hP hD hS hl
      exact pq_n h
    | succ n ih9 =>
      intro x1_9 x2_9 u_9 H locs ls h hP hD hS hl
      rw [fX2_dropTiredWaiters_L9] at h
      refine lv_iload_n hx hb dX2_dropTiredWaiters_9 rfl (lv_at hl 2 rfl) ?_
      refine lv_if_lt (tgt := 65) hx hb dX2_dropTiredWaiters_10 (by decide) (fun c1_ => ?_) (fun c1_ => ?_)
      · have h := pq_t c1_ h
        refine lv_iload_n hx hb dX2_dropTiredWaiters_65 rfl (lv_at hl 1 rfl) ?_
        obtain rfl := Option.some.inj h
        subst hQ
        exact pw_ri hx hb hr hlk hAe hP hS rfl dX2_dropTiredWaiters_66
      · have h := pq_e c1_ h
        refine lv_aload_n hx hb dX2_dropTiredWaiters_13 rfl (lv_at hl 0 rfl) ?_
        refine va_get (D := D) (ci := 2) (v := .ref (q 13)) (C := RX2) (T := TX2) (N := 16) hx hb hts hin hown hK hP 0 rfl rfl 13 (by decide) (hta _ aw_48) (fun _ h9 => h9) rfl dX2_dropTiredWaiters_14 ?_
        refine lv_iload_n hx hb dX2_dropTiredWaiters_17 rfl (lv_at hl 2 rfl) ?_
        obtain ⟨hg, h⟩ := pq_g h
        refine va_iald hx hb hK hP 13 0 rfl rfl (pq_vp hg) dX2_dropTiredWaiters_18 ?_
        refine lv_istore_n (lv' := [(3, .int ((u_9 13) x2_9.toNatClampNeg)), (0, .ref (q 0)), (1, .int x1_9), (2, .int x2_9)]) hx hb dX2_dropTiredWaiters_19 rfl hl (by decide) rfl (fun ls hl => ?_)
        refine lv_aload_n hx hb dX2_dropTiredWaiters_20 rfl (lv_at hl 1 rfl) ?_
        refine va_get (D := D) (ci := 2) (v := .int (u_9 0 0)) (C := RX2) (T := TX2) (N := 16) hx hb hts hin hown hK hP 0 rfl rfl 0 (by decide) (hta _ aw_32) (fun _ h9 => h9) rfl dX2_dropTiredWaiters_21 ?_
        refine lv_aload_n hx hb dX2_dropTiredWaiters_24 rfl (lv_at hl 1 rfl) ?_
        refine va_get (D := D) (ci := 2) (v := .ref (q 12)) (C := RX2) (T := TX2) (N := 16) hx hb hts hin hown hK hP 0 rfl rfl 12 (by decide) (hta _ aw_47) (fun _ h9 => h9) rfl dX2_dropTiredWaiters_25 ?_
        refine lv_iload_n hx hb dX2_dropTiredWaiters_28 rfl (lv_at hl 0 rfl) ?_
        obtain ⟨hg, h⟩ := pq_g h
        refine va_iald hx hb hK hP 12 0 rfl rfl (pq_vp hg) dX2_dropTiredWaiters_29 ?_
        refine lv_isub hx hb dX2_dropTiredWaiters_30 ?_
        refine lv_aload_n hx hb dX2_dropTiredWaiters_31 rfl (lv_at hl 1 rfl) ?_
        refine va_get (D := D) (ci := 2) (v := .ref (q 1)) (C := RX2) (T := TX2) (N := 16) hx hb hts hin hown hK hP 0 rfl rfl 1 (by decide) (hta _ aw_33) (fun _ h9 => h9) rfl dX2_dropTiredWaiters_32 ?_
        refine lv_bipush (v := 8) hx hb dX2_dropTiredWaiters_35 (by decide) ?_
        refine va_iald hx hb hK hP 1 0 rfl rfl (pq_vp (by decide +kernel)) dX2_dropTiredWaiters_37 ?_
        refine lv_icmp_lt (tgt := 59) hx hb dX2_dropTiredWaiters_38 (by decide) (fun c2_ => ?_) (fun c2_ => ?_)
        · have h := pq_t c2_ h
          refine lv_iinc (v := x2_9 + (-1)) (lv' := [(2, .int (x2_9 + (-1))), (3, .int ((u_9 13) x2_9.toNatClampNeg)), (0, .ref (q 0)), (1, .int x1_9)]) hx hb dX2_dropTiredWaiters_59 hl (k := 3) rfl (by first | rfl | decide) (by decide) rfl (fun ls hl => ?_)
          refine lv_goto (tgt := 9) hx hb dX2_dropTiredWaiters_62 (by decide) ?_
          exact ih9 x1_9 (x2_9 + (-1)) u_9 _ _ _ h hP hD hS (lv_sub hl [2, 3, 0] rfl)
        · have h := pq_e c2_ h
          refine lv_aload_n hx hb dX2_dropTiredWaiters_41 rfl (lv_at hl 1 rfl) ?_
          refine lv_iload_n hx hb dX2_dropTiredWaiters_42 rfl (lv_at hl 3 rfl) ?_
          obtain ⟨r2, hr2, h⟩ := pq_b h
          refine pw_cv (w1 := WP cy q r2) (rest := []) (As := [.int x2_9]) hF (kX2_leave l D cy q _ u_9 x2_9 r2 hr2) (cwV 1 hts (pw_gV (own := RX2) (idx := 104) (C := RX2) (y := yX2_leave) aw_257 aw_259 aw_s1 aw_2 aw_260) rfl rfl rfl pX2_leave ⟨Nat.le_of_ble_eq_true rfl, Nat.le_of_ble_eq_true rfl⟩) (va_recv hK hP (ci := 2) (q0 := 0) rfl rfl) hK hP hD hS hA rfl rfl hl.1 rfl (Nat.le_of_ble_eq_true rfl) dX2_dropTiredWaiters_43 ⟨Nat.zero_le _, Nat.zero_le _⟩ (fun H locs hP hD hS => ?_)
          refine lv_aload_n hx hb dX2_dropTiredWaiters_46 rfl (lv_at hl 1 rfl) ?_
          refine va_get (D := D) (ci := 2) (v := .ref (q 10)) (C := RX2) (T := TX2) (N := 16) hx hb hts hin hown hK hP 0 rfl rfl 10 (by decide) (hta _ aw_45) (fun _ h9 => h9) rfl dX2_dropTiredWaiters_47 ?_
          refine lv_iload_n hx hb dX2_dropTiredWaiters_50 rfl (lv_at hl 0 rfl) ?_
          refine lv_dup2_11 hx hb dX2_dropTiredWaiters_51 rfl rfl ?_
          obtain ⟨hg, h⟩ := pq_g h
          refine va_iald hx hb hK hP 10 0 rfl rfl (pq_vp hg) dX2_dropTiredWaiters_52 ?_
          refine lv_iconst (v := 1) hx hb dX2_dropTiredWaiters_53 (by decide) ?_
          refine lv_iadd hx hb dX2_dropTiredWaiters_54 ?_
          obtain ⟨hg, h⟩ := pq_g h
          refine va_iast hx hb hK hP hD hS 10 0 rfl rfl (pq_vp hg) dX2_dropTiredWaiters_55 (fun H locs hP hD hS => ?_)
          have hP : va_P D vwCl (WP cy q (pu r2 10 (upd (r2 10) ((u_9 13) x2_9.toNatClampNeg).toNatClampNeg (((r2 10) ((u_9 13) x2_9.toNatClampNeg).toNatClampNeg) + 1)))) H := hP
          have hD : va_D A (WP cy q (pu r2 10 (upd (r2 10) ((u_9 13) x2_9.toNatClampNeg).toNatClampNeg (((r2 10) ((u_9 13) x2_9.toNatClampNeg).toNatClampNeg) + 1)))) := hD
          refine lv_iinc (v := x1_9 + 1) (lv' := [(1, .int (x1_9 + 1)), (3, .int ((u_9 13) x2_9.toNatClampNeg)), (0, .ref (q 0)), (2, .int x2_9)]) hx hb dX2_dropTiredWaiters_56 hl (k := 2) rfl (by first | rfl | decide) (by decide) rfl (fun ls hl => ?_)
          refine lv_iinc (v := x2_9 + (-1)) (lv' := [(2, .int (x2_9 + (-1))), (1, .int (x1_9 + 1)), (3, .int ((u_9 13) x2_9.toNatClampNeg)), (0, .ref (q 0))]) hx hb dX2_dropTiredWaiters_59 hl (k := 3) rfl (by first | rfl | decide) (by decide) rfl (fun ls hl => ?_)
          refine lv_goto (tgt := 9) hx hb dX2_dropTiredWaiters_62 (by decide) ?_
          exact ih9 (x1_9 + 1) (x2_9 + (-1)) (pu r2 10 (upd (r2 10) ((u_9 13) x2_9.toNatClampNeg).toNatClampNeg (((r2 10) ((u_9 13) x2_9.toNatClampNeg).toNatClampNeg) + 1))) _ _ _ h hP hD hS (lv_sub hl [3, 1, 0] rfl)
  exact L9_n1 1000 0 ((u 14 0) - 1) u _ _ _ h hP hD hS (lv_sub hl [2, 1, 0] rfl)

def aX2_passUnits : List Cond := Cond.code yX2_passUnits cX2_passUnits 5 (some .int) :: pw_all
theorem pX2_passUnits : yX2_passUnits.cls = RX2 ∧ yX2_passUnits.cls ≠ "java/lang/invoke/MethodHandle" ∧ yX2_passUnits.cls ≠ "java/lang/invoke/VarHandle" ∧ (parseMethodDescriptor yX2_passUnits.desc).map (fun d => d.parameters.length) = some 1 := by decide +kernel
set_option maxHeartbeats 8000000 in
set_option maxRecDepth 100000 in
theorem kX2_passUnits (l : Launch) (D : va_G) (cy : Nat → ClassId) (q : Nat → Nat) (sz : Nat) (u : Nat → Nat → Int32) (x1 : Int32) (o : Int32 × (Nat → Nat → Int32)) (h : fX2_passUnits x1 u = some o) : Met l yX2_passUnits aX2_passUnits ({ frames := 4, cells := 0, slots := 0, locals := 92 }) (pw_Pre D cy [.ref (q 0), .int x1] (WP cy q u) sz) (pw_I D o.1 (WP cy q u) (WP cy q o.2) sz) 0 0 (va_A (WP cy q u) sz) := by
  refine pw_met (cc := cX2_passUnits) (maxL := 5) (ret := (some .int)) (by decide) rfl (Nat.le_of_ble_eq_true rfl) ?_
  intro p e s m args below meth c ls A hx hb hr hml hlk hts hown hAe hA hK hP hD hS hl
  have hl : lv_has ls 5 [(0, .ref (q 0)), (1, .int x1)] := hl
  generalize hQ : MQ below (pw_I D o.1 (WP cy q u) (WP cy q o.2) sz) args s 0 0 (va_A (WP cy q u) sz) = Q
  have hF : CallFix p m c cX2_passUnits 5 s args aX2_passUnits RX2 := ⟨hx, hb, hml, hown, hts⟩
  have hta : ∀ w ∈ pw_all, w.before args s = true := fun w h => hts w (List.mem_cons_of_mem _ h)
  have hin : ∀ w ∈ wsX20, w ∈ aX2_passUnits := fun w h => List.mem_cons_of_mem _ (inA2 w h)
  unfold fX2_passUnits at h
  refine lv_iconst (v := 0) hx hb dX2_passUnits_0 (by decide) ?_
  refine lv_istore_n (lv' := [(2, .int 0), (0, .ref (q 0)), (1, .int x1)]) hx hb dX2_passUnits_1 rfl hl (by decide) rfl (fun ls hl => ?_)
  refine lv_iconst (v := 0) hx hb dX2_passUnits_2 (by decide) ?_
  refine lv_istore_n (lv' := [(3, .int 0), (2, .int 0), (0, .ref (q 0)), (1, .int x1)]) hx hb dX2_passUnits_3 rfl hl (by decide) rfl (fun ls hl => ?_)
  have L4_n1 : ∀ (n : Nat) (x2_4 : Int32) (x3_4 : Int32) (u_4 : Nat → Nat → Int32) (H : Heap) (locs : List Loc) (ls : Array Slot), fX2_passUnits_L4 x1 n x2_4 x3_4 u_4 = some o → va_P D vwCl (WP cy q u_4) H → va_D A (WP cy q u_4) → va_S A s.heap H locs → lv_has ls 5 [(0, .ref (q 0)), (1, .int x1), (2, .int x2_4), (3, .int x3_4)] → W p l e ({ frames := 4, cells := 0, slots := 0, locals := 92 } : Room) s m args below meth c H locs 0 0 Q (F0 m 4 ls []) := by
    intro n
    induction n with
    | zero =>
      intro x2_4 x3_4 u_4 H locs ls h hP hD hS hl
      exact pq_n h
    | succ n ih4 =>
      intro x2_4 x3_4 u_4 H locs ls h hP hD hS hl
      rw [fX2_passUnits_L4] at h
      refine lv_iload_n hx hb dX2_passUnits_4 rfl (lv_at hl 3 rfl) ?_
      refine lv_iload_n hx hb dX2_passUnits_5 rfl (lv_at hl 1 rfl) ?_
      refine lv_icmp_ge (tgt := 75) hx hb dX2_passUnits_6 (by decide) (fun c1_ => ?_) (fun c1_ => ?_)
      · have h := pq_t c1_ h
        refine lv_iload_n hx hb dX2_passUnits_75 rfl (lv_at hl 2 rfl) ?_
        obtain rfl := Option.some.inj h
        subst hQ
        exact pw_ri hx hb hr hlk hAe hP hS rfl dX2_passUnits_76
      · have h := pq_e c1_ h
        refine lv_aload_n hx hb dX2_passUnits_9 rfl (lv_at hl 0 rfl) ?_
        refine lv_dup hx hb dX2_passUnits_10 rfl ?_
        refine va_get (D := D) (ci := 2) (v := .int (u_4 0 0)) (C := RX2) (T := TX2) (N := 16) hx hb hts hin hown hK hP 0 rfl rfl 0 (by decide) (hta _ aw_32) (fun _ h9 => h9) rfl dX2_passUnits_11 ?_
        refine lv_iconst (v := 1) hx hb dX2_passUnits_14 (by decide) ?_
        refine lv_iadd hx hb dX2_passUnits_15 ?_
        refine va_put (D := D) (ci := 2) (v := .int ((u_4 0 0) + 1)) (ty := .int) (C := RX2) (T := TX2) (N := 16) hx hb hts hin tyX2 tyX2_ok nmX2 hown hK hP hD hS 0 rfl rfl 0 (by decide) (hta _ aw_32) (fun _ h9 => h9) rfl (by decide +kernel) rfl rfl (Nat.le_of_ble_eq_true rfl) dX2_passUnits_16 (fun H locs hP hD hS => ?_)
        have hP : va_P D vwCl (WP cy q (pu u_4 0 (fun _ => (u_4 0 0) + 1))) H := hP
        have hD : va_D A (WP cy q (pu u_4 0 (fun _ => (u_4 0 0) + 1))) := hD
        refine lv_aload_n hx hb dX2_passUnits_19 rfl (lv_at hl 0 rfl) ?_
        obtain ⟨r2, hr2, h⟩ := pq_b h
        refine pw_cv (w1 := WP cy q r2) (rest := []) (As := []) hF (kX2_closeLeasesOfVanished l D cy q _ (pu u_4 0 (fun _ => (u_4 0 0) + 1))  r2 hr2) (cwV 0 hts (pw_gV (own := RX2) (idx := 108) (C := RX2) (y := yX2_closeLeasesOfVanished) aw_517 aw_519 aw_s12 aw_2 aw_520) rfl rfl rfl pX2_closeLeasesOfVanished ⟨Nat.le_of_ble_eq_true rfl, Nat.le_of_ble_eq_true rfl⟩) (va_recv hK hP (ci := 2) (q0 := 0) rfl rfl) hK hP hD hS hA rfl rfl hl.1 rfl (Nat.le_of_ble_eq_true rfl) dX2_passUnits_20 ⟨Nat.zero_le _, Nat.zero_le _⟩ (fun H locs hP hD hS => ?_)
        refine lv_aload_n hx hb dX2_passUnits_23 rfl (lv_at hl 0 rfl) ?_
        refine va_get (D := D) (ci := 2) (v := .ref (q 1)) (C := RX2) (T := TX2) (N := 16) hx hb hts hin hown hK hP 0 rfl rfl 1 (by decide) (hta _ aw_33) (fun _ h9 => h9) rfl dX2_passUnits_24 ?_
        refine lv_bipush (v := 6) hx hb dX2_passUnits_27 (by decide) ?_
        refine va_iald hx hb hK hP 1 0 rfl rfl (pq_vp (by decide +kernel)) dX2_passUnits_29 ?_
        refine lv_istore (lv' := [(4, .int ((r2 1) (6 : Int32).toNatClampNeg)), (0, .ref (q 0)), (1, .int x1), (2, .int x2_4), (3, .int x3_4)]) hx hb dX2_passUnits_30 hl (by decide) rfl (fun ls hl => ?_)
        refine lv_iload hx hb dX2_passUnits_32 (lv_at hl 0 rfl) ?_
        obtain ⟨v3, hv3, h⟩ := pq_b h
        have J52_v3 : ∀ (H : Heap) (locs : List Loc) (ls : Array Slot), va_P D vwCl (WP cy q v3) H → va_D A (WP cy q v3) → va_S A s.heap H locs → lv_has ls 5 [(0, .ref (q 0)), (1, .int x1), (2, .int x2_4), (3, .int x3_4)] → W p l e ({ frames := 4, cells := 0, slots := 0, locals := 92 } : Room) s m args below meth c H locs 0 0 Q (F0 m 52 ls []) := by
          intro H locs ls hP hD hS hl
          refine lv_aload_n hx hb dX2_passUnits_52 rfl (lv_at hl 0 rfl) ?_
          obtain ⟨r5, hr5, h⟩ := pq_b h
          refine pw_cv (w1 := WP cy q r5) (rest := []) (As := []) hF (kX2_closeIdleTooLong l D cy q _ v3  r5 hr5) (cwV 0 hts (pw_gV (own := RX2) (idx := 114) (C := RX2) (y := yX2_closeIdleTooLong) aw_522 aw_524 aw_s13 aw_2 aw_525) rfl rfl rfl pX2_closeIdleTooLong ⟨Nat.le_of_ble_eq_true rfl, Nat.le_of_ble_eq_true rfl⟩) (va_recv hK hP (ci := 2) (q0 := 0) rfl rfl) hK hP hD hS hA rfl rfl hl.1 rfl (Nat.le_of_ble_eq_true rfl) dX2_passUnits_53 ⟨Nat.zero_le _, Nat.zero_le _⟩ (fun H locs hP hD hS => ?_)
          refine lv_iload_n hx hb dX2_passUnits_56 rfl (lv_at hl 2 rfl) ?_
          refine lv_aload_n hx hb dX2_passUnits_57 rfl (lv_at hl 0 rfl) ?_
          obtain ⟨r6, hr6, h⟩ := pq_b h
          refine pw_ci (w1 := WP cy q r6.2) (rest := [.int x2_4]) (As := []) hF (kX2_dropTiredWaiters l D cy q _ r5  r6 hr6) (cwV 0 hts (pw_gV (own := RX2) (idx := 117) (C := RX2) (y := yX2_dropTiredWaiters) aw_526 aw_528 aw_s14 aw_2 aw_529) rfl rfl rfl pX2_dropTiredWaiters ⟨Nat.le_of_ble_eq_true rfl, Nat.le_of_ble_eq_true rfl⟩) (va_recv hK hP (ci := 2) (q0 := 0) rfl rfl) hK hP hD hS hA rfl rfl hl.1 rfl (Nat.le_of_ble_eq_true rfl) dX2_passUnits_58 ⟨Nat.zero_le _, Nat.zero_le _⟩ (fun H locs hP hD hS => ?_)
          refine lv_iadd hx hb dX2_passUnits_61 ?_
          refine lv_istore_n (lv' := [(2, .int (x2_4 + r6.1)), (0, .ref (q 0)), (1, .int x1), (3, .int x3_4)]) hx hb dX2_passUnits_62 rfl hl (by decide) rfl (fun ls hl => ?_)
          refine lv_aload_n hx hb dX2_passUnits_63 rfl (lv_at hl 1 rfl) ?_
          refine lv_iconst (v := (-1)) hx hb dX2_passUnits_64 (by decide) ?_
          obtain ⟨r7, hr7, h⟩ := pq_b h
          refine pw_ci (w1 := WP cy q r7.2) (rest := []) (As := [.int (-1)]) hF (kX2_serveWaiters l D cy q _ r6.2 (-1) r7 hr7) (cwV 1 hts (pw_gV (own := RX2) (idx := 101) (C := RX2) (y := yX2_serveWaiters) aw_261 aw_262 aw_263 aw_2 aw_264) rfl rfl rfl pX2_serveWaiters ⟨Nat.le_of_ble_eq_true rfl, Nat.le_of_ble_eq_true rfl⟩) (va_recv hK hP (ci := 2) (q0 := 0) rfl rfl) hK hP hD hS hA rfl rfl hl.1 rfl (Nat.le_of_ble_eq_true rfl) dX2_passUnits_65 ⟨Nat.zero_le _, Nat.zero_le _⟩ (fun H locs hP hD hS => ?_)
          refine lv_pop hx hb dX2_passUnits_68 rfl ?_
          refine lv_iinc (v := x3_4 + 1) (lv' := [(3, .int (x3_4 + 1)), (2, .int (x2_4 + r6.1)), (0, .ref (q 0)), (1, .int x1)]) hx hb dX2_passUnits_69 hl (k := 3) rfl (by first | rfl | decide) (by decide) rfl (fun ls hl => ?_)
          refine lv_goto (tgt := 4) hx hb dX2_passUnits_72 (by decide) ?_
          exact ih4 (x2_4 + r6.1) (x3_4 + 1) r7.2 _ _ _ h hP hD hS (lv_sub hl [2, 3, 1, 0] rfl)
        clear h
        have h := hv3
        clear hv3
        refine lv_if_le (tgt := 52) hx hb dX2_passUnits_34 (by decide) (fun c2_ => ?_) (fun c2_ => ?_)
        · have h := pq_t c2_ h
          obtain rfl := Option.some.inj h
          exact J52_v3 _ _ _ hP hD hS (lv_sub hl [1, 2, 3, 4] rfl)
        · have h := pq_e c2_ h
          refine lv_aload_n hx hb dX2_passUnits_37 rfl (lv_at hl 1 rfl) ?_
          refine va_get (D := D) (ci := 2) (v := .int (r2 0 0)) (C := RX2) (T := TX2) (N := 16) hx hb hts hin hown hK hP 0 rfl rfl 0 (by decide) (hta _ aw_32) (fun _ h9 => h9) rfl dX2_passUnits_38 ?_
          refine lv_iload hx hb dX2_passUnits_41 (lv_at hl 0 rfl) ?_
          obtain ⟨hg, h⟩ := pq_g h
          refine lv_irem hx hb dX2_passUnits_43 hg ?_
          refine lv_if_ne (tgt := 52) hx hb dX2_passUnits_44 (by decide) (fun c3_ => ?_) (fun c3_ => ?_)
          · have h := pq_e c3_ h
            obtain rfl := Option.some.inj h
            exact J52_v3 _ _ _ hP hD hS (lv_sub hl [1, 2, 3, 4] rfl)
          · have h := pq_t c3_ h
            refine lv_aload_n hx hb dX2_passUnits_47 rfl (lv_at hl 1 rfl) ?_
            obtain ⟨r4, hr4, h⟩ := pq_b h
            refine pw_ci (w1 := WP cy q r4.2) (rest := []) (As := []) hF (kX2_checkIdle l D cy q _ r2  r4 hr4) (cwV 0 hts (pw_gV (own := RX2) (idx := 111) (C := RX2) (y := yX2_checkIdle) aw_521 aw_350 aw_351 aw_2 aw_352) rfl rfl rfl pX2_checkIdle ⟨Nat.le_of_ble_eq_true rfl, Nat.le_of_ble_eq_true rfl⟩) (va_recv hK hP (ci := 2) (q0 := 0) rfl rfl) hK hP hD hS hA rfl rfl hl.1 rfl (Nat.le_of_ble_eq_true rfl) dX2_passUnits_48 ⟨Nat.zero_le _, Nat.zero_le _⟩ (fun H locs hP hD hS => ?_)
            refine lv_pop hx hb dX2_passUnits_51 rfl ?_
            obtain rfl := Option.some.inj h
            exact J52_v3 _ _ _ hP hD hS (lv_sub hl [1, 2, 3, 4] rfl)
  exact L4_n1 1000 0 0 u _ _ _ h hP hD hS (lv_sub hl [2, 3, 1, 0] rfl)

def aX2_closeIdle : List Cond := Cond.code yX2_closeIdle cX2_closeIdle 3 (some .int) :: pw_all
theorem pX2_closeIdle : yX2_closeIdle.cls = RX2 ∧ yX2_closeIdle.cls ≠ "java/lang/invoke/MethodHandle" ∧ yX2_closeIdle.cls ≠ "java/lang/invoke/VarHandle" ∧ (parseMethodDescriptor yX2_closeIdle.desc).map (fun d => d.parameters.length) = some 0 := by decide +kernel
set_option maxHeartbeats 8000000 in
set_option maxRecDepth 100000 in
theorem kX2_closeIdle (l : Launch) (D : va_G) (cy : Nat → ClassId) (q : Nat → Nat) (sz : Nat) (u : Nat → Nat → Int32)  (o : Int32 × (Nat → Nat → Int32)) (h : fX2_closeIdle u = some o) : Met l yX2_closeIdle aX2_closeIdle ({ frames := 1, cells := 0, slots := 0, locals := 21 }) (pw_Pre D cy [.ref (q 0)] (WP cy q u) sz) (pw_I D o.1 (WP cy q u) (WP cy q o.2) sz) 0 0 (va_A (WP cy q u) sz) := by
  refine pw_met (cc := cX2_closeIdle) (maxL := 3) (ret := (some .int)) (by decide) rfl (Nat.le_of_ble_eq_true rfl) ?_
  intro p e s m args below meth c ls A hx hb hr hml hlk hts hown hAe hA hK hP hD hS hl
  have hl : lv_has ls 3 [(0, .ref (q 0))] := hl
  generalize hQ : MQ below (pw_I D o.1 (WP cy q u) (WP cy q o.2) sz) args s 0 0 (va_A (WP cy q u) sz) = Q
  have hF : CallFix p m c cX2_closeIdle 3 s args aX2_closeIdle RX2 := ⟨hx, hb, hml, hown, hts⟩
  have hta : ∀ w ∈ pw_all, w.before args s = true := fun w h => hts w (List.mem_cons_of_mem _ h)
  have hin : ∀ w ∈ wsX20, w ∈ aX2_closeIdle := fun w h => List.mem_cons_of_mem _ (inA2 w h)
  unfold fX2_closeIdle at h
  refine lv_iconst (v := 0) hx hb dX2_closeIdle_0 (by decide) ?_
  refine lv_istore_n (lv' := [(1, .int 0), (0, .ref (q 0))]) hx hb dX2_closeIdle_1 rfl hl (by decide) rfl (fun ls hl => ?_)
  refine lv_iconst (v := 0) hx hb dX2_closeIdle_2 (by decide) ?_
  refine lv_istore_n (lv' := [(2, .int 0), (1, .int 0), (0, .ref (q 0))]) hx hb dX2_closeIdle_3 rfl hl (by decide) rfl (fun ls hl => ?_)
  have L4_n1 : ∀ (n : Nat) (x1_4 : Int32) (x2_4 : Int32) (u_4 : Nat → Nat → Int32) (H : Heap) (locs : List Loc) (ls : Array Slot), fX2_closeIdle_L4  n x1_4 x2_4 u_4 = some o → va_P D vwCl (WP cy q u_4) H → va_D A (WP cy q u_4) → va_S A s.heap H locs → lv_has ls 3 [(0, .ref (q 0)), (1, .int x1_4), (2, .int x2_4)] → W p l e ({ frames := 1, cells := 0, slots := 0, locals := 21 } : Room) s m args below meth c H locs 0 0 Q (F0 m 4 ls []) := by
    intro n
    induction n with
    | zero =>
      intro x1_4 x2_4 u_4 H locs ls h hP hD hS hl
      exact pq_n h
    | succ n ih4 =>
      intro x1_4 x2_4 u_4 H locs ls h hP hD hS hl
      rw [fX2_closeIdle_L4] at h
      refine lv_iload_n hx hb dX2_closeIdle_4 rfl (lv_at hl 2 rfl) ?_
      refine lv_bipush (v := 8) hx hb dX2_closeIdle_5 (by decide) ?_
      refine lv_icmp_ge (tgt := 34) hx hb dX2_closeIdle_7 (by decide) (fun c1_ => ?_) (fun c1_ => ?_)
      · have h := pq_t c1_ h
        refine lv_iload_n hx hb dX2_closeIdle_34 rfl (lv_at hl 1 rfl) ?_
        obtain rfl := Option.some.inj h
        subst hQ
        exact pw_ri hx hb hr hlk hAe hP hS rfl dX2_closeIdle_35
      · have h := pq_e c1_ h
        refine lv_aload_n hx hb dX2_closeIdle_10 rfl (lv_at hl 0 rfl) ?_
        refine va_get (D := D) (ci := 2) (v := .ref (q 2)) (C := RX2) (T := TX2) (N := 16) hx hb hts hin hown hK hP 0 rfl rfl 2 (by decide) (hta _ aw_35) (fun _ h9 => h9) rfl dX2_closeIdle_11 ?_
        refine lv_iload_n hx hb dX2_closeIdle_14 rfl (lv_at hl 2 rfl) ?_
        obtain ⟨hg, h⟩ := pq_g h
        refine va_iald hx hb hK hP 2 0 rfl rfl (pq_vp hg) dX2_closeIdle_15 ?_
        refine lv_iconst (v := 1) hx hb dX2_closeIdle_16 (by decide) ?_
        refine lv_icmp_ne (tgt := 28) hx hb dX2_closeIdle_17 (by decide) (fun c2_ => ?_) (fun c2_ => ?_)
        · have h := pq_e c2_ h
          refine lv_iinc (v := x2_4 + 1) (lv' := [(2, .int (x2_4 + 1)), (0, .ref (q 0)), (1, .int x1_4)]) hx hb dX2_closeIdle_28 hl (k := 2) rfl (by first | rfl | decide) (by decide) rfl (fun ls hl => ?_)
          refine lv_goto (tgt := 4) hx hb dX2_closeIdle_31 (by decide) ?_
          exact ih4 x1_4 (x2_4 + 1) u_4 _ _ _ h hP hD hS (lv_sub hl [1, 2, 0] rfl)
        · have h := pq_t c2_ h
          refine lv_aload_n hx hb dX2_closeIdle_20 rfl (lv_at hl 0 rfl) ?_
          refine lv_iload_n hx hb dX2_closeIdle_21 rfl (lv_at hl 2 rfl) ?_
          obtain ⟨r2, hr2, h⟩ := pq_b h
          refine pw_cv (w1 := WP cy q r2) (rest := []) (As := [.int x2_4]) hF (kX2_close l D cy q _ u_4 x2_4 r2 hr2) (cwV 1 hts (pw_gV (own := RX2) (idx := 123) (C := RX2) (y := yX2_close) aw_293 aw_295 aw_s7 aw_2 aw_296) rfl rfl rfl pX2_close ⟨Nat.le_of_ble_eq_true rfl, Nat.le_of_ble_eq_true rfl⟩) (va_recv hK hP (ci := 2) (q0 := 0) rfl rfl) hK hP hD hS hA rfl rfl hl.1 rfl (Nat.le_of_ble_eq_true rfl) dX2_closeIdle_22 ⟨Nat.zero_le _, Nat.zero_le _⟩ (fun H locs hP hD hS => ?_)
          refine lv_iinc (v := x1_4 + 1) (lv' := [(1, .int (x1_4 + 1)), (0, .ref (q 0)), (2, .int x2_4)]) hx hb dX2_closeIdle_25 hl (k := 1) rfl (by first | rfl | decide) (by decide) rfl (fun ls hl => ?_)
          refine lv_iinc (v := x2_4 + 1) (lv' := [(2, .int (x2_4 + 1)), (1, .int (x1_4 + 1)), (0, .ref (q 0))]) hx hb dX2_closeIdle_28 hl (k := 2) rfl (by first | rfl | decide) (by decide) rfl (fun ls hl => ?_)
          refine lv_goto (tgt := 4) hx hb dX2_closeIdle_31 (by decide) ?_
          exact ih4 (x1_4 + 1) (x2_4 + 1) r2 _ _ _ h hP hD hS (lv_sub hl [2, 1, 0] rfl)
  exact L4_n1 1000 0 0 u _ _ _ h hP hD hS (lv_sub hl [2, 1, 0] rfl)

