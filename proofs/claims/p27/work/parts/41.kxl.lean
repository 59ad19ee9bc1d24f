/-! ===== the law's methods: their walks ===== -/
def aL_low : List Cond := Cond.code yL_low cL_low 2 (some .int) :: pw_all
theorem pL_low : yL_low.cls = RL ∧ yL_low.cls ≠ "java/lang/invoke/MethodHandle" ∧ yL_low.cls ≠ "java/lang/invoke/VarHandle" ∧ (parseMethodDescriptor yL_low.desc).map (fun d => d.parameters.length) = some 2 := by decide +kernel
set_option maxHeartbeats 8000000 in
set_option maxRecDepth 100000 in
theorem kL_low (l : Launch) (D : va_G) (cy : Nat → ClassId) (sz : Nat)  (x0 : Int32) (x1 : Int32) (o : Int32) (h : fL_low x0 x1 = some o) : Met l yL_low aL_low ({ frames := 0, cells := 0, slots := 0, locals := 0 }) (pw_Pre D cy [.int x0, .int x1] ([]) sz) (pw_I D o ([]) ([]) sz) 0 0 (va_A ([]) sz) := by
  refine pw_met (cc := cL_low) (maxL := 2) (ret := (some .int)) (by decide) rfl (Nat.le_of_ble_eq_true rfl) ?_
  intro p e s m args below meth c ls A hx hb hr hml hlk hts hown hAe hA hK hP hD hS hl
  have hl : lv_has ls 2 [(0, .int x0), (1, .int x1)] := hl
  generalize hQ : MQ below (pw_I D o ([]) ([]) sz) args s 0 0 (va_A ([]) sz) = Q
  have hF : CallFix p m c cL_low 2 s args aL_low RL := ⟨hx, hb, hml, hown, hts⟩
  have hta : ∀ w ∈ pw_all, w.before args s = true := fun w h => hts w (List.mem_cons_of_mem _ h)
  unfold fL_low at h
  refine lv_iload_n hx hb dL_low_0 rfl (lv_at hl 0 rfl) ?_
  refine lv_ldc (v := 2147483647) hx hb hown (hta _ aw_440) dL_low_1 ?_
  refine lv_iand hx hb dL_low_3 ?_
  refine lv_iload_n hx hb dL_low_4 rfl (lv_at hl 1 rfl) ?_
  obtain ⟨hg, h⟩ := pq_g h
  refine lv_irem hx hb dL_low_5 hg ?_
  obtain rfl := Option.some.inj h
  subst hQ
  exact pw_ri hx hb hr hlk hAe hP hS rfl dL_low_6

def aL_addUp : List Cond := Cond.code yL_addUp cL_addUp 20 (some .boolean) :: pw_all
theorem pL_addUp : yL_addUp.cls = RL ∧ yL_addUp.cls ≠ "java/lang/invoke/MethodHandle" ∧ yL_addUp.cls ≠ "java/lang/invoke/VarHandle" ∧ (parseMethodDescriptor yL_addUp.desc).map (fun d => d.parameters.length) = some 1 := by decide +kernel
set_option maxHeartbeats 8000000 in
set_option maxRecDepth 100000 in
theorem kL_addUp (l : Launch) (D : va_G) (cy : Nat → ClassId) (qa : Nat → Nat → Nat) (sz : Nat) (P : Nat → Nat → Int32) (T : Nat → Nat → Int32) (S : Nat → Nat → Nat → Int32) (nw : Int32) (hz : Int32) (ak : Nat → Int32) (pa : Nat → Int32) (wt : Nat → Int32) (cd : Nat → Int32) (ln : Int32)  (o : Int32) (h : fL_addUp P hz = some o) : Met l yL_addUp aL_addUp ({ frames := 4, cells := 0, slots := 0, locals := 87 }) (pw_Pre D cy [.ref (qa 0 0)] (W3 cy qa P T S nw hz ak pa wt cd ln) sz) (pw_I D o (W3 cy qa P T S nw hz ak pa wt cd ln) (W3 cy qa P T S nw hz ak pa wt cd ln) sz) 0 0 (va_A (W3 cy qa P T S nw hz ak pa wt cd ln) sz) := by
  refine pw_met (cc := cL_addUp) (maxL := 20) (ret := (some .boolean)) (by decide) rfl (Nat.le_of_ble_eq_true rfl) ?_
  intro p e s m args below meth c ls A hx hb hr hml hlk hts hown hAe hA hK hP hD hS hl
  have hl : lv_has ls 20 [(0, .ref (qa 0 0))] := hl
  generalize hQ : MQ below (pw_I D o (W3 cy qa P T S nw hz ak pa wt cd ln) (W3 cy qa P T S nw hz ak pa wt cd ln) sz) args s 0 0 (va_A (W3 cy qa P T S nw hz ak pa wt cd ln) sz) = Q
  have hF : CallFix p m c cL_addUp 20 s args aL_addUp RL := ⟨hx, hb, hml, hown, hts⟩
  have hta : ∀ w ∈ pw_all, w.before args s = true := fun w h => hts w (List.mem_cons_of_mem _ h)
  have hin3 : ∀ w ∈ wsX30, w ∈ aL_addUp := fun w h => List.mem_cons_of_mem _ (inA3 w h)
  have hin2 : ∀ w ∈ wsX20, w ∈ aL_addUp := fun w h => List.mem_cons_of_mem _ (inA2 w h)
  have hin1 : ∀ w ∈ wsX10, w ∈ aL_addUp := fun w h => List.mem_cons_of_mem _ (inA1 w h)
  have hin0 : ∀ w ∈ wsX00, w ∈ aL_addUp := fun w h => List.mem_cons_of_mem _ (inA0 w h)
  unfold fL_addUp at h
  refine lv_iconst (v := 0) hx hb dL_addUp_0 (by decide) ?_
  refine lv_istore_n (lv' := [(1, .int 0), (0, .ref (qa 0 0))]) hx hb dL_addUp_1 rfl hl (by decide) rfl (fun ls hl => ?_)
  refine lv_iconst (v := 0) hx hb dL_addUp_2 (by decide) ?_
  refine lv_istore_n (lv' := [(2, .int 0), (1, .int 0), (0, .ref (qa 0 0))]) hx hb dL_addUp_3 rfl hl (by decide) rfl (fun ls hl => ?_)
  refine lv_iconst (v := 0) hx hb dL_addUp_4 (by decide) ?_
  refine lv_istore_n (lv' := [(3, .int 0), (2, .int 0), (1, .int 0), (0, .ref (qa 0 0))]) hx hb dL_addUp_5 rfl hl (by decide) rfl (fun ls hl => ?_)
  refine lv_iconst (v := 0) hx hb dL_addUp_6 (by decide) ?_
  refine lv_istore (lv' := [(4, .int 0), (3, .int 0), (2, .int 0), (1, .int 0), (0, .ref (qa 0 0))]) hx hb dL_addUp_7 hl (by decide) rfl (fun ls hl => ?_)
  refine lv_iconst (v := 0) hx hb dL_addUp_9 (by decide) ?_
  refine lv_istore (lv' := [(5, .int 0), (4, .int 0), (3, .int 0), (2, .int 0), (1, .int 0), (0, .ref (qa 0 0))]) hx hb dL_addUp_10 hl (by decide) rfl (fun ls hl => ?_)
  refine lv_iconst (v := 0) hx hb dL_addUp_12 (by decide) ?_
  refine lv_istore (lv' := [(6, .int 0), (5, .int 0), (4, .int 0), (3, .int 0), (2, .int 0), (1, .int 0), (0, .ref (qa 0 0))]) hx hb dL_addUp_13 hl (by decide) rfl (fun ls hl => ?_)
  obtain ⟨v2, hv2, h⟩ := pq_b h
  have X205_v2 : ∀ (H : Heap) (locs : List Loc) (ls : Array Slot), va_P D vwCl (W3 cy qa P T S nw hz ak pa wt cd ln) H → va_D A (W3 cy qa P T S nw hz ak pa wt cd ln) → va_S A s.heap H locs → lv_has ls 20 [(0, .ref (qa 0 0)), (1, .int v2.1), (2, .int v2.2.1), (3, .int v2.2.2.1), (4, .int v2.2.2.2.1), (5, .int v2.2.2.2.2)] → W p l e ({ frames := 4, cells := 0, slots := 0, locals := 87 } : Room) s m args below meth c H locs 0 0 Q (F0 m 205 ls []) := by
    intro H locs ls hP hD hS hl
    refine lv_iconst (v := 0) hx hb dL_addUp_205 (by decide) ?_
    refine lv_istore (lv' := [(6, .int 0), (0, .ref (qa 0 0)), (1, .int v2.1), (2, .int v2.2.1), (3, .int v2.2.2.1), (4, .int v2.2.2.2.1), (5, .int v2.2.2.2.2)]) hx hb dL_addUp_206 hl (by decide) rfl (fun ls hl => ?_)
    refine lv_iconst (v := 0) hx hb dL_addUp_208 (by decide) ?_
    refine lv_istore (lv' := [(7, .int 0), (6, .int 0), (0, .ref (qa 0 0)), (1, .int v2.1), (2, .int v2.2.1), (3, .int v2.2.2.1), (4, .int v2.2.2.2.1), (5, .int v2.2.2.2.2)]) hx hb dL_addUp_209 hl (by decide) rfl (fun ls hl => ?_)
    refine lv_iconst (v := 0) hx hb dL_addUp_211 (by decide) ?_
    refine lv_istore (lv' := [(8, .int 0), (7, .int 0), (6, .int 0), (0, .ref (qa 0 0)), (1, .int v2.1), (2, .int v2.2.1), (3, .int v2.2.2.1), (4, .int v2.2.2.2.1), (5, .int v2.2.2.2.2)]) hx hb dL_addUp_212 hl (by decide) rfl (fun ls hl => ?_)
    refine lv_iconst (v := 0) hx hb dL_addUp_214 (by decide) ?_
    refine lv_istore (lv' := [(9, .int 0), (8, .int 0), (7, .int 0), (6, .int 0), (0, .ref (qa 0 0)), (1, .int v2.1), (2, .int v2.2.1), (3, .int v2.2.2.1), (4, .int v2.2.2.2.1), (5, .int v2.2.2.2.2)]) hx hb dL_addUp_215 hl (by decide) rfl (fun ls hl => ?_)
    refine lv_iconst (v := 0) hx hb dL_addUp_217 (by decide) ?_
    refine lv_istore (lv' := [(10, .int 0), (9, .int 0), (8, .int 0), (7, .int 0), (6, .int 0), (0, .ref (qa 0 0)), (1, .int v2.1), (2, .int v2.2.1), (3, .int v2.2.2.1), (4, .int v2.2.2.2.1), (5, .int v2.2.2.2.2)]) hx hb dL_addUp_218 hl (by decide) rfl (fun ls hl => ?_)
    refine lv_iconst (v := 0) hx hb dL_addUp_220 (by decide) ?_
    refine lv_istore (lv' := [(11, .int 0), (10, .int 0), (9, .int 0), (8, .int 0), (7, .int 0), (6, .int 0), (0, .ref (qa 0 0)), (1, .int v2.1), (2, .int v2.2.1), (3, .int v2.2.2.1), (4, .int v2.2.2.2.1), (5, .int v2.2.2.2.2)]) hx hb dL_addUp_221 hl (by decide) rfl (fun ls hl => ?_)
    refine lv_iload_n hx hb dL_addUp_223 rfl (lv_at hl 7 rfl) ?_
    obtain ⟨v30, hv30, h⟩ := pq_b h
    have J243_v30 : ∀ (H : Heap) (locs : List Loc) (ls : Array Slot), va_P D vwCl (W3 cy qa P T S nw hz ak pa wt cd ln) H → va_D A (W3 cy qa P T S nw hz ak pa wt cd ln) → va_S A s.heap H locs → lv_has ls 20 [(0, .ref (qa 0 0)), (1, .int v2.1), (2, .int v2.2.1), (3, .int v2.2.2.1), (4, .int v2.2.2.2.1), (5, .int v2.2.2.2.2), (6, .int 0), (7, .int 0), (8, .int 0), (9, .int 0), (10, .int 0), (11, .int 0)] → W p l e ({ frames := 4, cells := 0, slots := 0, locals := 87 } : Room) s m args below meth c H locs 0 0 Q (F0 m 243 ls [.int v30]) := by
      intro H locs ls hP hD hS hl
      refine lv_istore (lv' := [(12, .int v30), (0, .ref (qa 0 0)), (1, .int v2.1), (2, .int v2.2.1), (3, .int v2.2.2.1), (4, .int v2.2.2.2.1), (5, .int v2.2.2.2.2), (6, .int 0), (7, .int 0), (8, .int 0), (9, .int 0), (10, .int 0), (11, .int 0)]) hx hb dL_addUp_243 hl (by decide) rfl (fun ls hl => ?_)
      refine lv_iconst (v := (-1)) hx hb dL_addUp_245 (by decide) ?_
      refine lv_istore (lv' := [(13, .int (-1)), (12, .int v30), (0, .ref (qa 0 0)), (1, .int v2.1), (2, .int v2.2.1), (3, .int v2.2.2.1), (4, .int v2.2.2.2.1), (5, .int v2.2.2.2.2), (6, .int 0), (7, .int 0), (8, .int 0), (9, .int 0), (10, .int 0), (11, .int 0)]) hx hb dL_addUp_246 hl (by decide) rfl (fun ls hl => ?_)
      refine lv_iconst (v := 0) hx hb dL_addUp_248 (by decide) ?_
      refine lv_istore (lv' := [(14, .int 0), (13, .int (-1)), (12, .int v30), (0, .ref (qa 0 0)), (1, .int v2.1), (2, .int v2.2.1), (3, .int v2.2.2.1), (4, .int v2.2.2.2.1), (5, .int v2.2.2.2.2), (6, .int 0), (7, .int 0), (8, .int 0), (9, .int 0), (10, .int 0), (11, .int 0)]) hx hb dL_addUp_249 hl (by decide) rfl (fun ls hl => ?_)
      obtain ⟨v34, hv34, h⟩ := pq_b h
      have X549_v34 : ∀ (H : Heap) (locs : List Loc) (ls : Array Slot), va_P D vwCl (W3 cy qa P T S nw hz ak pa wt cd ln) H → va_D A (W3 cy qa P T S nw hz ak pa wt cd ln) → va_S A s.heap H locs → lv_has ls 20 [(0, .ref (qa 0 0)), (1, .int v2.1), (2, .int v2.2.1), (3, .int v2.2.2.1), (4, .int v2.2.2.2.1), (5, .int v2.2.2.2.2), (6, .int v34.1), (7, .int v34.2.1), (8, .int v34.2.2.1), (9, .int v34.2.2.2.1), (10, .int v34.2.2.2.2.1), (11, .int v34.2.2.2.2.2.1), (13, .int v34.2.2.2.2.2.2)] → W p l e ({ frames := 4, cells := 0, slots := 0, locals := 87 } : Room) s m args below meth c H locs 0 0 Q (F0 m 549 ls []) := by
        intro H locs ls hP hD hS hl
        refine lv_aload_n hx hb dL_addUp_549 rfl (lv_at hl 0 rfl) ?_
        refine lv_iconst (v := 1) hx hb dL_addUp_550 (by decide) ?_
        obtain ⟨r65, hr65, h⟩ := pq_b h
        obtain ⟨a66, e9_, h9_⟩ := pq_inn h
        clear h
        have h := h9_
        clear h9_
        subst e9_
        refine pw_ci (w1 := W3 cy qa P T S nw hz ak pa wt cd ln) (rest := []) (As := [.int 1]) hF (kX3_count l D cy qa _ P T S nw hz ak pa wt cd ln 1 a66 hr65) (cwV 1 hts (pw_gV (own := RL) (idx := 16) (C := RX3) (y := yX3_count) aw_420 aw_421 aw_422 aw_1 aw_423) rfl rfl rfl pX3_count ⟨Nat.le_of_ble_eq_true rfl, Nat.le_of_ble_eq_true rfl⟩) (va_recv hK hP (ci := 3) (q0 := 0) rfl rfl) hK hP hD hS hA rfl rfl hl.1 rfl (Nat.le_of_ble_eq_true rfl) dL_addUp_551 ⟨Nat.zero_le _, Nat.zero_le _⟩ (fun H locs hP hD hS => ?_)
        refine lv_iload_n hx hb dL_addUp_554 rfl (lv_at hl 1 rfl) ?_
        refine lv_iload_n hx hb dL_addUp_555 rfl (lv_at hl 2 rfl) ?_
        refine lv_iadd hx hb dL_addUp_556 ?_
        obtain ⟨c41_, h⟩ := pq_g h
        refine lv_icmp_ne (tgt := 618) hx hb dL_addUp_557 (by decide) (fun cc_ => absurd c41_ cc_) (fun _ => ?_)
        refine lv_aload_n hx hb dL_addUp_560 rfl (lv_at hl 0 rfl) ?_
        refine lv_iconst (v := 2) hx hb dL_addUp_561 (by decide) ?_
        obtain ⟨r67, hr67, h⟩ := pq_b h
        obtain ⟨a68, e9_, h9_⟩ := pq_inn h
        clear h
        have h := h9_
        clear h9_
        subst e9_
        refine pw_ci (w1 := W3 cy qa P T S nw hz ak pa wt cd ln) (rest := []) (As := [.int 2]) hF (kX3_count l D cy qa _ P T S nw hz ak pa wt cd ln 2 a68 hr67) (cwV 1 hts (pw_gV (own := RL) (idx := 16) (C := RX3) (y := yX3_count) aw_420 aw_421 aw_422 aw_1 aw_423) rfl rfl rfl pX3_count ⟨Nat.le_of_ble_eq_true rfl, Nat.le_of_ble_eq_true rfl⟩) (va_recv hK hP (ci := 3) (q0 := 0) rfl rfl) hK hP hD hS hA rfl rfl hl.1 rfl (Nat.le_of_ble_eq_true rfl) dL_addUp_562 ⟨Nat.zero_le _, Nat.zero_le _⟩ (fun H locs hP hD hS => ?_)
        refine lv_iload_n hx hb dL_addUp_565 rfl (lv_at hl 1 rfl) ?_
        obtain ⟨c42_, h⟩ := pq_g h
        refine lv_icmp_ne (tgt := 618) hx hb dL_addUp_566 (by decide) (fun cc_ => absurd c42_ cc_) (fun _ => ?_)
        refine lv_aload_n hx hb dL_addUp_569 rfl (lv_at hl 0 rfl) ?_
        refine lv_iconst (v := 3) hx hb dL_addUp_570 (by decide) ?_
        obtain ⟨r69, hr69, h⟩ := pq_b h
        obtain ⟨a70, e9_, h9_⟩ := pq_inn h
        clear h
        have h := h9_
        clear h9_
        subst e9_
        refine pw_ci (w1 := W3 cy qa P T S nw hz ak pa wt cd ln) (rest := []) (As := [.int 3]) hF (kX3_count l D cy qa _ P T S nw hz ak pa wt cd ln 3 a70 hr69) (cwV 1 hts (pw_gV (own := RL) (idx := 16) (C := RX3) (y := yX3_count) aw_420 aw_421 aw_422 aw_1 aw_423) rfl rfl rfl pX3_count ⟨Nat.le_of_ble_eq_true rfl, Nat.le_of_ble_eq_true rfl⟩) (va_recv hK hP (ci := 3) (q0 := 0) rfl rfl) hK hP hD hS hA rfl rfl hl.1 rfl (Nat.le_of_ble_eq_true rfl) dL_addUp_571 ⟨Nat.zero_le _, Nat.zero_le _⟩ (fun H locs hP hD hS => ?_)
        refine lv_iload_n hx hb dL_addUp_574 rfl (lv_at hl 2 rfl) ?_
        obtain ⟨c43_, h⟩ := pq_g h
        refine lv_icmp_ne (tgt := 618) hx hb dL_addUp_575 (by decide) (fun cc_ => absurd c43_ cc_) (fun _ => ?_)
        refine lv_iload hx hb dL_addUp_578 (lv_at hl 7 rfl) ?_
        refine lv_iload_n hx hb dL_addUp_580 rfl (lv_at hl 2 rfl) ?_
        obtain ⟨c44_, h⟩ := pq_g h
        refine lv_icmp_ne (tgt := 618) hx hb dL_addUp_581 (by decide) (fun cc_ => absurd c44_ cc_) (fun _ => ?_)
        refine lv_aload_n hx hb dL_addUp_584 rfl (lv_at hl 0 rfl) ?_
        refine lv_iconst (v := 4) hx hb dL_addUp_585 (by decide) ?_
        obtain ⟨r71, hr71, h⟩ := pq_b h
        obtain ⟨a72, e9_, h9_⟩ := pq_inn h
        clear h
        have h := h9_
        clear h9_
        subst e9_
        refine pw_ci (w1 := W3 cy qa P T S nw hz ak pa wt cd ln) (rest := []) (As := [.int 4]) hF (kX3_count l D cy qa _ P T S nw hz ak pa wt cd ln 4 a72 hr71) (cwV 1 hts (pw_gV (own := RL) (idx := 16) (C := RX3) (y := yX3_count) aw_420 aw_421 aw_422 aw_1 aw_423) rfl rfl rfl pX3_count ⟨Nat.le_of_ble_eq_true rfl, Nat.le_of_ble_eq_true rfl⟩) (va_recv hK hP (ci := 3) (q0 := 0) rfl rfl) hK hP hD hS hA rfl rfl hl.1 rfl (Nat.le_of_ble_eq_true rfl) dL_addUp_586 ⟨Nat.zero_le _, Nat.zero_le _⟩ (fun H locs hP hD hS => ?_)
        refine lv_iload_n hx hb dL_addUp_589 rfl (lv_at hl 3 rfl) ?_
        obtain ⟨c45_, h⟩ := pq_g h
        refine lv_icmp_ne (tgt := 618) hx hb dL_addUp_590 (by decide) (fun cc_ => absurd c45_ cc_) (fun _ => ?_)
        refine lv_aload_n hx hb dL_addUp_593 rfl (lv_at hl 0 rfl) ?_
        refine lv_iconst (v := 5) hx hb dL_addUp_594 (by decide) ?_
        obtain ⟨r73, hr73, h⟩ := pq_b h
        obtain ⟨a74, e9_, h9_⟩ := pq_inn h
        clear h
        have h := h9_
        clear h9_
        subst e9_
        refine pw_ci (w1 := W3 cy qa P T S nw hz ak pa wt cd ln) (rest := []) (As := [.int 5]) hF (kX3_count l D cy qa _ P T S nw hz ak pa wt cd ln 5 a74 hr73) (cwV 1 hts (pw_gV (own := RL) (idx := 16) (C := RX3) (y := yX3_count) aw_420 aw_421 aw_422 aw_1 aw_423) rfl rfl rfl pX3_count ⟨Nat.le_of_ble_eq_true rfl, Nat.le_of_ble_eq_true rfl⟩) (va_recv hK hP (ci := 3) (q0 := 0) rfl rfl) hK hP hD hS hA rfl rfl hl.1 rfl (Nat.le_of_ble_eq_true rfl) dL_addUp_595 ⟨Nat.zero_le _, Nat.zero_le _⟩ (fun H locs hP hD hS => ?_)
        refine lv_iload hx hb dL_addUp_598 (lv_at hl 8 rfl) ?_
        obtain ⟨c46_, h⟩ := pq_g h
        refine lv_icmp_ne (tgt := 618) hx hb dL_addUp_600 (by decide) (fun cc_ => absurd c46_ cc_) (fun _ => ?_)
        refine lv_iload hx hb dL_addUp_603 (lv_at hl 11 rfl) ?_
        refine lv_iconst (v := 1) hx hb dL_addUp_605 (by decide) ?_
        refine lv_iload hx hb dL_addUp_606 (lv_at hl 8 rfl) ?_
        refine lv_ishl hx hb dL_addUp_608 ?_
        refine lv_iconst (v := 1) hx hb dL_addUp_609 (by decide) ?_
        refine lv_isub hx hb dL_addUp_610 ?_
        obtain ⟨c47_, h⟩ := pq_g h
        refine lv_icmp_ne (tgt := 618) hx hb dL_addUp_611 (by decide) (fun cc_ => absurd c47_ cc_) (fun _ => ?_)
        refine lv_iconst (v := 1) hx hb dL_addUp_614 (by decide) ?_
        refine lv_goto (tgt := 619) hx hb dL_addUp_615 (by decide) ?_
        refine lv_istore (lv' := [(14, .int 1), (0, .ref (qa 0 0)), (1, .int v2.1), (2, .int v2.2.1), (3, .int v2.2.2.1), (4, .int v2.2.2.2.1), (5, .int v2.2.2.2.2), (6, .int v34.1), (7, .int v34.2.1), (8, .int v34.2.2.1), (9, .int v34.2.2.2.1), (10, .int v34.2.2.2.2.1), (11, .int v34.2.2.2.2.2.1), (13, .int v34.2.2.2.2.2.2)]) hx hb dL_addUp_619 hl (by decide) rfl (fun ls hl => ?_)
        refine lv_iload hx hb dL_addUp_621 (lv_at hl 0 rfl) ?_
        refine lv_if_eq (tgt := 707) hx hb dL_addUp_623 (by decide) (fun c48_ => absurd c48_ (by decide)) (fun c48_ => ?_)
        refine lv_aload_n hx hb dL_addUp_626 rfl (lv_at hl 1 rfl) ?_
        refine lv_bipush (v := 6) hx hb dL_addUp_627 (by decide) ?_
        obtain ⟨r75, hr75, h⟩ := pq_b h
        obtain ⟨a76, e9_, h9_⟩ := pq_inn h
        clear h
        have h := h9_
        clear h9_
        subst e9_
        refine pw_ci (w1 := W3 cy qa P T S nw hz ak pa wt cd ln) (rest := []) (As := [.int 6]) hF (kX3_count l D cy qa _ P T S nw hz ak pa wt cd ln 6 a76 hr75) (cwV 1 hts (pw_gV (own := RL) (idx := 16) (C := RX3) (y := yX3_count) aw_420 aw_421 aw_422 aw_1 aw_423) rfl rfl rfl pX3_count ⟨Nat.le_of_ble_eq_true rfl, Nat.le_of_ble_eq_true rfl⟩) (va_recv hK hP (ci := 3) (q0 := 0) rfl rfl) hK hP hD hS hA rfl rfl hl.1 rfl (Nat.le_of_ble_eq_true rfl) dL_addUp_629 ⟨Nat.zero_le _, Nat.zero_le _⟩ (fun H locs hP hD hS => ?_)
        refine lv_iload hx hb dL_addUp_632 (lv_at hl 5 rfl) ?_
        obtain ⟨c49_, h⟩ := pq_g h
        refine lv_icmp_ne (tgt := 707) hx hb dL_addUp_634 (by decide) (fun cc_ => absurd c49_ cc_) (fun _ => ?_)
        refine lv_aload_n hx hb dL_addUp_637 rfl (lv_at hl 1 rfl) ?_
        refine lv_bipush (v := 6) hx hb dL_addUp_638 (by decide) ?_
        obtain ⟨r77, hr77, h⟩ := pq_b h
        obtain ⟨a78, e9_, h9_⟩ := pq_inn h
        clear h
        have h := h9_
        clear h9_
        subst e9_
        refine pw_ci (w1 := W3 cy qa P T S nw hz ak pa wt cd ln) (rest := []) (As := [.int 6]) hF (kX3_count l D cy qa _ P T S nw hz ak pa wt cd ln 6 a78 hr77) (cwV 1 hts (pw_gV (own := RL) (idx := 16) (C := RX3) (y := yX3_count) aw_420 aw_421 aw_422 aw_1 aw_423) rfl rfl rfl pX3_count ⟨Nat.le_of_ble_eq_true rfl, Nat.le_of_ble_eq_true rfl⟩) (va_recv hK hP (ci := 3) (q0 := 0) rfl rfl) hK hP hD hS hA rfl rfl hl.1 rfl (Nat.le_of_ble_eq_true rfl) dL_addUp_640 ⟨Nat.zero_le _, Nat.zero_le _⟩ (fun H locs hP hD hS => ?_)
        refine lv_aload_n hx hb dL_addUp_643 rfl (lv_at hl 1 rfl) ?_
        refine lv_bipush (v := 7) hx hb dL_addUp_644 (by decide) ?_
        obtain ⟨r79, hr79, h⟩ := pq_b h
        obtain ⟨a80, e9_, h9_⟩ := pq_inn h
        clear h
        have h := h9_
        clear h9_
        subst e9_
        refine pw_ci (w1 := W3 cy qa P T S nw hz ak pa wt cd ln) (rest := [.int a78]) (As := [.int 7]) hF (kX3_count l D cy qa _ P T S nw hz ak pa wt cd ln 7 a80 hr79) (cwV 1 hts (pw_gV (own := RL) (idx := 16) (C := RX3) (y := yX3_count) aw_420 aw_421 aw_422 aw_1 aw_423) rfl rfl rfl pX3_count ⟨Nat.le_of_ble_eq_true rfl, Nat.le_of_ble_eq_true rfl⟩) (va_recv hK hP (ci := 3) (q0 := 0) rfl rfl) hK hP hD hS hA rfl rfl hl.1 rfl (Nat.le_of_ble_eq_true rfl) dL_addUp_646 ⟨Nat.zero_le _, Nat.zero_le _⟩ (fun H locs hP hD hS => ?_)
        refine lv_isub hx hb dL_addUp_649 ?_
        refine lv_iload_n hx hb dL_addUp_650 rfl (lv_at hl 2 rfl) ?_
        refine lv_iload_n hx hb dL_addUp_651 rfl (lv_at hl 3 rfl) ?_
        refine lv_iadd hx hb dL_addUp_652 ?_
        obtain ⟨c50_, h⟩ := pq_g h
        refine lv_icmp_ne (tgt := 707) hx hb dL_addUp_653 (by decide) (fun cc_ => absurd c50_ cc_) (fun _ => ?_)
        refine lv_aload_n hx hb dL_addUp_656 rfl (lv_at hl 1 rfl) ?_
        refine lv_bipush (v := 8) hx hb dL_addUp_657 (by decide) ?_
        obtain ⟨r81, hr81, h⟩ := pq_b h
        obtain ⟨a82, e9_, h9_⟩ := pq_inn h
        clear h
        have h := h9_
        clear h9_
        subst e9_
        refine pw_ci (w1 := W3 cy qa P T S nw hz ak pa wt cd ln) (rest := []) (As := [.int 8]) hF (kX3_count l D cy qa _ P T S nw hz ak pa wt cd ln 8 a82 hr81) (cwV 1 hts (pw_gV (own := RL) (idx := 16) (C := RX3) (y := yX3_count) aw_420 aw_421 aw_422 aw_1 aw_423) rfl rfl rfl pX3_count ⟨Nat.le_of_ble_eq_true rfl, Nat.le_of_ble_eq_true rfl⟩) (va_recv hK hP (ci := 3) (q0 := 0) rfl rfl) hK hP hD hS hA rfl rfl hl.1 rfl (Nat.le_of_ble_eq_true rfl) dL_addUp_659 ⟨Nat.zero_le _, Nat.zero_le _⟩ (fun H locs hP hD hS => ?_)
        refine lv_aload_n hx hb dL_addUp_662 rfl (lv_at hl 1 rfl) ?_
        refine lv_bipush (v := 9) hx hb dL_addUp_663 (by decide) ?_
        obtain ⟨r83, hr83, h⟩ := pq_b h
        obtain ⟨a84, e9_, h9_⟩ := pq_inn h
        clear h
        have h := h9_
        clear h9_
        subst e9_
        refine pw_ci (w1 := W3 cy qa P T S nw hz ak pa wt cd ln) (rest := [.int a82]) (As := [.int 9]) hF (kX3_count l D cy qa _ P T S nw hz ak pa wt cd ln 9 a84 hr83) (cwV 1 hts (pw_gV (own := RL) (idx := 16) (C := RX3) (y := yX3_count) aw_420 aw_421 aw_422 aw_1 aw_423) rfl rfl rfl pX3_count ⟨Nat.le_of_ble_eq_true rfl, Nat.le_of_ble_eq_true rfl⟩) (va_recv hK hP (ci := 3) (q0 := 0) rfl rfl) hK hP hD hS hA rfl rfl hl.1 rfl (Nat.le_of_ble_eq_true rfl) dL_addUp_665 ⟨Nat.zero_le _, Nat.zero_le _⟩ (fun H locs hP hD hS => ?_)
        refine lv_iadd hx hb dL_addUp_668 ?_
        refine lv_aload_n hx hb dL_addUp_669 rfl (lv_at hl 1 rfl) ?_
        refine lv_bipush (v := 10) hx hb dL_addUp_670 (by decide) ?_
        obtain ⟨r85, hr85, h⟩ := pq_b h
        obtain ⟨a86, e9_, h9_⟩ := pq_inn h
        clear h
        have h := h9_
        clear h9_
        subst e9_
        refine pw_ci (w1 := W3 cy qa P T S nw hz ak pa wt cd ln) (rest := [.int (a82 + a84)]) (As := [.int 10]) hF (kX3_count l D cy qa _ P T S nw hz ak pa wt cd ln 10 a86 hr85) (cwV 1 hts (pw_gV (own := RL) (idx := 16) (C := RX3) (y := yX3_count) aw_420 aw_421 aw_422 aw_1 aw_423) rfl rfl rfl pX3_count ⟨Nat.le_of_ble_eq_true rfl, Nat.le_of_ble_eq_true rfl⟩) (va_recv hK hP (ci := 3) (q0 := 0) rfl rfl) hK hP hD hS hA rfl rfl hl.1 rfl (Nat.le_of_ble_eq_true rfl) dL_addUp_672 ⟨Nat.zero_le _, Nat.zero_le _⟩ (fun H locs hP hD hS => ?_)
        refine lv_iadd hx hb dL_addUp_675 ?_
        refine lv_aload_n hx hb dL_addUp_676 rfl (lv_at hl 1 rfl) ?_
        refine lv_bipush (v := 7) hx hb dL_addUp_677 (by decide) ?_
        obtain ⟨r87, hr87, h⟩ := pq_b h
        obtain ⟨a88, e9_, h9_⟩ := pq_inn h
        clear h
        have h := h9_
        clear h9_
        subst e9_
        refine pw_ci (w1 := W3 cy qa P T S nw hz ak pa wt cd ln) (rest := [.int ((a82 + a84) + a86)]) (As := [.int 7]) hF (kX3_count l D cy qa _ P T S nw hz ak pa wt cd ln 7 a88 hr87) (cwV 1 hts (pw_gV (own := RL) (idx := 16) (C := RX3) (y := yX3_count) aw_420 aw_421 aw_422 aw_1 aw_423) rfl rfl rfl pX3_count ⟨Nat.le_of_ble_eq_true rfl, Nat.le_of_ble_eq_true rfl⟩) (va_recv hK hP (ci := 3) (q0 := 0) rfl rfl) hK hP hD hS hA rfl rfl hl.1 rfl (Nat.le_of_ble_eq_true rfl) dL_addUp_679 ⟨Nat.zero_le _, Nat.zero_le _⟩ (fun H locs hP hD hS => ?_)
        obtain ⟨c51_, h⟩ := pq_g h
        refine lv_icmp_gt (tgt := 707) hx hb dL_addUp_682 (by decide) (fun cc_ => absurd cc_ c51_) (fun _ => ?_)
        refine lv_aload_n hx hb dL_addUp_685 rfl (lv_at hl 1 rfl) ?_
        refine lv_bipush (v := 12) hx hb dL_addUp_686 (by decide) ?_
        obtain ⟨r89, hr89, h⟩ := pq_b h
        obtain ⟨a90, e9_, h9_⟩ := pq_inn h
        clear h
        have h := h9_
        clear h9_
        subst e9_
        refine pw_ci (w1 := W3 cy qa P T S nw hz ak pa wt cd ln) (rest := []) (As := [.int 12]) hF (kX3_count l D cy qa _ P T S nw hz ak pa wt cd ln 12 a90 hr89) (cwV 1 hts (pw_gV (own := RL) (idx := 16) (C := RX3) (y := yX3_count) aw_420 aw_421 aw_422 aw_1 aw_423) rfl rfl rfl pX3_count ⟨Nat.le_of_ble_eq_true rfl, Nat.le_of_ble_eq_true rfl⟩) (va_recv hK hP (ci := 3) (q0 := 0) rfl rfl) hK hP hD hS hA rfl rfl hl.1 rfl (Nat.le_of_ble_eq_true rfl) dL_addUp_688 ⟨Nat.zero_le _, Nat.zero_le _⟩ (fun H locs hP hD hS => ?_)
        refine lv_iload hx hb dL_addUp_691 (lv_at hl 7 rfl) ?_
        obtain ⟨c52_, h⟩ := pq_g h
        refine lv_icmp_ne (tgt := 707) hx hb dL_addUp_693 (by decide) (fun cc_ => absurd c52_ cc_) (fun _ => ?_)
        refine lv_iload hx hb dL_addUp_696 (lv_at hl 6 rfl) ?_
        refine lv_iload hx hb dL_addUp_698 (lv_at hl 7 rfl) ?_
        obtain ⟨c53_, h⟩ := pq_g h
        refine lv_icmp_gt (tgt := 707) hx hb dL_addUp_700 (by decide) (fun cc_ => absurd cc_ c53_) (fun _ => ?_)
        refine lv_iconst (v := 1) hx hb dL_addUp_703 (by decide) ?_
        refine lv_goto (tgt := 708) hx hb dL_addUp_704 (by decide) ?_
        refine lv_istore (lv' := [(14, .int 1), (0, .ref (qa 0 0)), (1, .int v2.1), (2, .int v2.2.1), (3, .int v2.2.2.1), (4, .int v2.2.2.2.1), (5, .int v2.2.2.2.2), (6, .int v34.1), (7, .int v34.2.1), (8, .int v34.2.2.1), (9, .int v34.2.2.2.1), (10, .int v34.2.2.2.2.1), (11, .int v34.2.2.2.2.2.1), (13, .int v34.2.2.2.2.2.2)]) hx hb dL_addUp_708 hl (by decide) rfl (fun ls hl => ?_)
        refine lv_iload hx hb dL_addUp_710 (lv_at hl 0 rfl) ?_
        refine lv_if_eq (tgt := 761) hx hb dL_addUp_712 (by decide) (fun c54_ => absurd c54_ (by decide)) (fun c54_ => ?_)
        refine lv_aload_n hx hb dL_addUp_715 rfl (lv_at hl 1 rfl) ?_
        obtain ⟨r91, hr91, h⟩ := pq_b h
        refine pw_ci (w1 := W3 cy qa P T S nw hz ak pa wt cd ln) (rest := []) (As := []) hF (kX3_blocker l D cy qa _ P T S nw hz ak pa wt cd ln  r91 hr91) (cwV 0 hts (pw_gV (own := RL) (idx := 26) (C := RX3) (y := yX3_blocker) aw_448 aw_449 aw_450 aw_1 aw_451) rfl rfl rfl pX3_blocker ⟨Nat.le_of_ble_eq_true rfl, Nat.le_of_ble_eq_true rfl⟩) (va_recv hK hP (ci := 3) (q0 := 0) rfl rfl) hK hP hD hS hA rfl rfl hl.1 rfl (Nat.le_of_ble_eq_true rfl) dL_addUp_716 ⟨Nat.zero_le _, Nat.zero_le _⟩ (fun H locs hP hD hS => ?_)
        refine lv_iload hx hb dL_addUp_719 (lv_at hl 9 rfl) ?_
        obtain ⟨v92, hv92, h⟩ := pq_b h
        have J730_v92 : ∀ (H : Heap) (locs : List Loc) (ls : Array Slot), va_P D vwCl (W3 cy qa P T S nw hz ak pa wt cd ln) H → va_D A (W3 cy qa P T S nw hz ak pa wt cd ln) → va_S A s.heap H locs → lv_has ls 20 [(0, .ref (qa 0 0)), (9, .int v34.2.2.2.1), (10, .int v34.2.2.2.2.1)] → W p l e ({ frames := 4, cells := 0, slots := 0, locals := 87 } : Room) s m args below meth c H locs 0 0 Q (F0 m 730 ls [.int v92, .int r91]) := by
          intro H locs ls hP hD hS hl
          obtain ⟨c56_, h⟩ := pq_g h
          refine lv_icmp_ne (tgt := 761) hx hb dL_addUp_730 (by decide) (fun cc_ => absurd c56_ cc_) (fun _ => ?_)
          refine lv_aload_n hx hb dL_addUp_733 rfl (lv_at hl 0 rfl) ?_
          obtain ⟨r93, hr93, h⟩ := pq_b h
          refine pw_cd (w1 := W3 cy qa P T S nw hz ak pa wt cd ln) (rest := []) (As := []) hF (kX3_fairness l D cy qa _ P T S nw hz ak pa wt cd ln  r93 hr93) (cwV 0 hts (pw_gV (own := RL) (idx := 30) (C := RX3) (y := yX3_fairness) aw_452 aw_453 aw_454 aw_1 aw_455) rfl rfl rfl pX3_fairness ⟨Nat.le_of_ble_eq_true rfl, Nat.le_of_ble_eq_true rfl⟩) (va_recv hK hP (ci := 3) (q0 := 0) rfl rfl) hK hP hD hS hA rfl rfl hl.1 rfl (Nat.le_of_ble_eq_true rfl) dL_addUp_734 ⟨Nat.zero_le _, Nat.zero_le _⟩ (fun H locs hP hD hS => ?_)
          refine lv_iload hx hb dL_addUp_737 (lv_at hl 1 rfl) ?_
          refine lv_if_ne (tgt := 746) hx hb dL_addUp_739 (by decide) (fun c57_ => ?_) (fun c57_ => ?_)
          · have h := pq_e c57_ h
            refine lv_iload hx hb dL_addUp_746 (lv_at hl 2 rfl) ?_
            refine lv_i2d hx hb dL_addUp_748 ?_
            refine lv_iload hx hb dL_addUp_749 (lv_at hl 1 rfl) ?_
            refine lv_i2d hx hb dL_addUp_751 ?_
            obtain ⟨hg, h⟩ := pq_g h
            refine lv_ddiv hx hb dL_addUp_752 (pq_nv hg) ?_
            refine lv_dcmp hx hb dL_addUp_753 ?_
            obtain ⟨c58_, h⟩ := pq_g h
            refine lv_if_ne (tgt := 761) hx hb dL_addUp_754 (by decide) (fun cc_ => absurd c58_ cc_) (fun _ => ?_)
            refine lv_iconst (v := 1) hx hb dL_addUp_757 (by decide) ?_
            refine lv_goto (tgt := 762) hx hb dL_addUp_758 (by decide) ?_
            obtain rfl := Option.some.inj h
            subst hQ
            exact pw_rz hx hb hr rfl hlk hAe hP hS rfl dL_addUp_762
          · have h := pq_t c57_ h
            refine lv_dconst1 hx hb dL_addUp_742 ?_
            refine lv_goto (tgt := 753) hx hb dL_addUp_743 (by decide) ?_
            refine lv_dcmp hx hb dL_addUp_753 ?_
            obtain ⟨c59_, h⟩ := pq_g h
            refine lv_if_ne (tgt := 761) hx hb dL_addUp_754 (by decide) (fun cc_ => absurd c59_ cc_) (fun _ => ?_)
            refine lv_iconst (v := 1) hx hb dL_addUp_757 (by decide) ?_
            refine lv_goto (tgt := 762) hx hb dL_addUp_758 (by decide) ?_
            obtain rfl := Option.some.inj h
            subst hQ
            exact pw_rz hx hb hr rfl hlk hAe hP hS rfl dL_addUp_762
        clear h
        have h := hv92
        clear hv92
        refine lv_if_ne (tgt := 728) hx hb dL_addUp_721 (by decide) (fun c55_ => ?_) (fun c55_ => ?_)
        · have h := pq_e c55_ h
          refine lv_iload hx hb dL_addUp_728 (lv_at hl 13 rfl) ?_
          obtain rfl := Option.some.inj h
          exact J730_v92 _ _ _ hP hD hS (lv_sub hl [1, 10, 11] rfl)
        · have h := pq_t c55_ h
          refine lv_iconst (v := (-1)) hx hb dL_addUp_724 (by decide) ?_
          refine lv_goto (tgt := 730) hx hb dL_addUp_725 (by decide) ?_
          obtain rfl := Option.some.inj h
          exact J730_v92 _ _ _ hP hD hS (lv_sub hl [1, 10, 11] rfl)
      clear h
      have L251_n33 : ∀ (n : Nat) (x6_251 : Int32) (x7_251 : Int32) (x8_251 : Int32) (x9_251 : Int32) (x10_251 : Int32) (x11_251 : Int32) (x13_251 : Int32) (x14_251 : Int32) (H : Heap) (locs : List Loc) (ls : Array Slot), fL_addUp_L251 P hz v30 n x6_251 x7_251 x8_251 x9_251 x10_251 x11_251 x13_251 x14_251 = some v34 → va_P D vwCl (W3 cy qa P T S nw hz ak pa wt cd ln) H → va_D A (W3 cy qa P T S nw hz ak pa wt cd ln) → va_S A s.heap H locs → lv_has ls 20 [(0, .ref (qa 0 0)), (1, .int v2.1), (2, .int v2.2.1), (3, .int v2.2.2.1), (4, .int v2.2.2.2.1), (5, .int v2.2.2.2.2), (6, .int x6_251), (7, .int x7_251), (8, .int x8_251), (9, .int x9_251), (10, .int x10_251), (11, .int x11_251), (12, .int v30), (13, .int x13_251), (14, .int x14_251)] → W p l e ({ frames := 4, cells := 0, slots := 0, locals := 87 } : Room) s m args below meth c H locs 0 0 Q (F0 m 251 ls []) := by
        intro n
        induction n with
        | zero =>
          intro x6_251 x7_251 x8_251 x9_251 x10_251 x11_251 x13_251 x14_251 H locs ls h hP hD hS hl
          exact pq_n h
        | succ n ih251 =>
          intro x6_251 x7_251 x8_251 x9_251 x10_251 x11_251 x13_251 x14_251 H locs ls h hP hD hS hl
          rw [fL_addUp_L251] at h
          refine lv_iload hx hb dL_addUp_251 (lv_at hl 14 rfl) ?_
          refine lv_bipush (v := 8) hx hb dL_addUp_253 (by decide) ?_
          refine lv_icmp_ge (tgt := 549) hx hb dL_addUp_255 (by decide) (fun c17_ => ?_) (fun c17_ => ?_)
          · have h := pq_t c17_ h
            obtain rfl := Option.some.inj h
            exact X549_v34 _ _ _ hP hD hS (lv_sub hl [0, 1, 2, 3, 4, 5, 6, 7, 8, 9, 10, 11, 13] rfl)
          · have h := pq_e c17_ h
            refine lv_aload_n hx hb dL_addUp_258 rfl (lv_at hl 0 rfl) ?_
            refine lv_iload hx hb dL_addUp_259 (lv_at hl 14 rfl) ?_
            refine lv_iconst (v := 1) hx hb dL_addUp_261 (by decide) ?_
            obtain ⟨r35, hr35, h⟩ := pq_b h
            obtain ⟨a36, e9_, h9_⟩ := pq_inn h
            clear h
            have h := h9_
            clear h9_
            subst e9_
            refine pw_ci (w1 := W3 cy qa P T S nw hz ak pa wt cd ln) (rest := []) (As := [.int x14_251, .int 1]) hF (kX3_owner l D cy qa _ P T S nw hz ak pa wt cd ln x14_251 1 a36 hr35) (cwV 2 hts (pw_gV (own := RL) (idx := 23) (C := RX3) (y := yX3_owner) aw_410 aw_411 aw_412 aw_1 aw_413) rfl rfl rfl pX3_owner ⟨Nat.le_of_ble_eq_true rfl, Nat.le_of_ble_eq_true rfl⟩) (va_recv hK hP (ci := 3) (q0 := 0) rfl rfl) hK hP hD hS hA rfl rfl hl.1 rfl (Nat.le_of_ble_eq_true rfl) dL_addUp_262 ⟨Nat.zero_le _, Nat.zero_le _⟩ (fun H locs hP hD hS => ?_)
            refine lv_istore (lv' := [(15, .int a36), (0, .ref (qa 0 0)), (1, .int v2.1), (2, .int v2.2.1), (3, .int v2.2.2.1), (4, .int v2.2.2.2.1), (5, .int v2.2.2.2.2), (6, .int x6_251), (7, .int x7_251), (8, .int x8_251), (9, .int x9_251), (10, .int x10_251), (11, .int x11_251), (12, .int v30), (13, .int x13_251), (14, .int x14_251)]) hx hb dL_addUp_265 hl (by decide) rfl (fun ls hl => ?_)
            refine lv_aload_n hx hb dL_addUp_267 rfl (lv_at hl 1 rfl) ?_
            refine lv_iload hx hb dL_addUp_268 (lv_at hl 15 rfl) ?_
            refine lv_iconst (v := 2) hx hb dL_addUp_270 (by decide) ?_
            obtain ⟨r37, hr37, h⟩ := pq_b h
            obtain ⟨a38, e9_, h9_⟩ := pq_inn h
            clear h
            have h := h9_
            clear h9_
            subst e9_
            refine pw_ci (w1 := W3 cy qa P T S nw hz ak pa wt cd ln) (rest := []) (As := [.int x14_251, .int 2]) hF (kX3_owner l D cy qa _ P T S nw hz ak pa wt cd ln x14_251 2 a38 hr37) (cwV 2 hts (pw_gV (own := RL) (idx := 23) (C := RX3) (y := yX3_owner) aw_410 aw_411 aw_412 aw_1 aw_413) rfl rfl rfl pX3_owner ⟨Nat.le_of_ble_eq_true rfl, Nat.le_of_ble_eq_true rfl⟩) (va_recv hK hP (ci := 3) (q0 := 0) rfl rfl) hK hP hD hS hA rfl rfl hl.1 rfl (Nat.le_of_ble_eq_true rfl) dL_addUp_271 ⟨Nat.zero_le _, Nat.zero_le _⟩ (fun H locs hP hD hS => ?_)
            refine lv_istore (lv' := [(16, .int a38), (15, .int a36), (0, .ref (qa 0 0)), (1, .int v2.1), (2, .int v2.2.1), (3, .int v2.2.2.1), (4, .int v2.2.2.2.1), (5, .int v2.2.2.2.2), (6, .int x6_251), (7, .int x7_251), (8, .int x8_251), (9, .int x9_251), (10, .int x10_251), (11, .int x11_251), (12, .int v30), (13, .int x13_251), (14, .int x14_251)]) hx hb dL_addUp_274 hl (by decide) rfl (fun ls hl => ?_)
            refine lv_aload_n hx hb dL_addUp_276 rfl (lv_at hl 2 rfl) ?_
            refine lv_iload hx hb dL_addUp_277 (lv_at hl 16 rfl) ?_
            refine lv_iconst (v := 4) hx hb dL_addUp_279 (by decide) ?_
            obtain ⟨r39, hr39, h⟩ := pq_b h
            obtain ⟨a40, e9_, h9_⟩ := pq_inn h
            clear h
            have h := h9_
            clear h9_
            subst e9_
            refine pw_ci (w1 := W3 cy qa P T S nw hz ak pa wt cd ln) (rest := []) (As := [.int x14_251, .int 4]) hF (kX3_owner l D cy qa _ P T S nw hz ak pa wt cd ln x14_251 4 a40 hr39) (cwV 2 hts (pw_gV (own := RL) (idx := 23) (C := RX3) (y := yX3_owner) aw_410 aw_411 aw_412 aw_1 aw_413) rfl rfl rfl pX3_owner ⟨Nat.le_of_ble_eq_true rfl, Nat.le_of_ble_eq_true rfl⟩) (va_recv hK hP (ci := 3) (q0 := 0) rfl rfl) hK hP hD hS hA rfl rfl hl.1 rfl (Nat.le_of_ble_eq_true rfl) dL_addUp_280 ⟨Nat.zero_le _, Nat.zero_le _⟩ (fun H locs hP hD hS => ?_)
            refine lv_istore (lv' := [(17, .int a40), (16, .int a38), (15, .int a36), (0, .ref (qa 0 0)), (1, .int v2.1), (2, .int v2.2.1), (3, .int v2.2.2.1), (4, .int v2.2.2.2.1), (5, .int v2.2.2.2.2), (6, .int x6_251), (7, .int x7_251), (8, .int x8_251), (9, .int x9_251), (10, .int x10_251), (11, .int x11_251), (12, .int v30), (13, .int x13_251), (14, .int x14_251)]) hx hb dL_addUp_283 hl (by decide) rfl (fun ls hl => ?_)
            refine lv_iconst (v := 0) hx hb dL_addUp_285 (by decide) ?_
            refine lv_istore (lv' := [(18, .int 0), (17, .int a40), (16, .int a38), (15, .int a36), (0, .ref (qa 0 0)), (1, .int v2.1), (2, .int v2.2.1), (3, .int v2.2.2.1), (4, .int v2.2.2.2.1), (5, .int v2.2.2.2.2), (6, .int x6_251), (7, .int x7_251), (8, .int x8_251), (9, .int x9_251), (10, .int x10_251), (11, .int x11_251), (12, .int v30), (13, .int x13_251), (14, .int x14_251)]) hx hb dL_addUp_286 hl (by decide) rfl (fun ls hl => ?_)
            refine lv_iconst (v := 0) hx hb dL_addUp_288 (by decide) ?_
            refine lv_istore (lv' := [(19, .int 0), (18, .int 0), (17, .int a40), (16, .int a38), (15, .int a36), (0, .ref (qa 0 0)), (1, .int v2.1), (2, .int v2.2.1), (3, .int v2.2.2.1), (4, .int v2.2.2.2.1), (5, .int v2.2.2.2.2), (6, .int x6_251), (7, .int x7_251), (8, .int x8_251), (9, .int x9_251), (10, .int x10_251), (11, .int x11_251), (12, .int v30), (13, .int x13_251), (14, .int x14_251)]) hx hb dL_addUp_289 hl (by decide) rfl (fun ls hl => ?_)
            obtain ⟨v42, hv42, h⟩ := pq_b h
            have X326_v42 : ∀ (H : Heap) (locs : List Loc) (ls : Array Slot), va_P D vwCl (W3 cy qa P T S nw hz ak pa wt cd ln) H → va_D A (W3 cy qa P T S nw hz ak pa wt cd ln) → va_S A s.heap H locs → lv_has ls 20 [(0, .ref (qa 0 0)), (1, .int v2.1), (2, .int v2.2.1), (3, .int v2.2.2.1), (4, .int v2.2.2.2.1), (5, .int v2.2.2.2.2), (6, .int x6_251), (7, .int x7_251), (8, .int x8_251), (9, .int x9_251), (10, .int x10_251), (11, .int x11_251), (12, .int v30), (13, .int x13_251), (14, .int x14_251), (15, .int a36), (16, .int a38), (17, .int a40), (18, .int v42)] → W p l e ({ frames := 4, cells := 0, slots := 0, locals := 87 } : Room) s m args below meth c H locs 0 0 Q (F0 m 326 ls []) := by
              intro H locs ls hP hD hS hl
              refine lv_iload hx hb dL_addUp_326 (lv_at hl 16 rfl) ?_
              obtain ⟨v45, hv45, h⟩ := pq_b h
              have J336_v45 : ∀ (H : Heap) (locs : List Loc) (ls : Array Slot), va_P D vwCl (W3 cy qa P T S nw hz ak pa wt cd ln) H → va_D A (W3 cy qa P T S nw hz ak pa wt cd ln) → va_S A s.heap H locs → lv_has ls 20 [(0, .ref (qa 0 0)), (1, .int v2.1), (2, .int v2.2.1), (3, .int v2.2.2.1), (4, .int v2.2.2.2.1), (5, .int v2.2.2.2.2), (6, .int x6_251), (7, .int x7_251), (8, .int x8_251), (9, .int x9_251), (10, .int x10_251), (11, .int x11_251), (12, .int v30), (13, .int x13_251), (14, .int x14_251), (15, .int a36), (16, .int a38), (17, .int a40), (18, .int v42)] → W p l e ({ frames := 4, cells := 0, slots := 0, locals := 87 } : Room) s m args below meth c H locs 0 0 Q (F0 m 336 ls [.int v45]) := by
                intro H locs ls hP hD hS hl
                refine lv_istore (lv' := [(19, .int v45), (0, .ref (qa 0 0)), (1, .int v2.1), (2, .int v2.2.1), (3, .int v2.2.2.1), (4, .int v2.2.2.2.1), (5, .int v2.2.2.2.2), (6, .int x6_251), (7, .int x7_251), (8, .int x8_251), (9, .int x9_251), (10, .int x10_251), (11, .int x11_251), (12, .int v30), (13, .int x13_251), (14, .int x14_251), (15, .int a36), (16, .int a38), (17, .int a40), (18, .int v42)]) hx hb dL_addUp_336 hl (by decide) rfl (fun ls hl => ?_)
                refine lv_iload hx hb dL_addUp_338 (lv_at hl 16 rfl) ?_
                refine lv_iload hx hb dL_addUp_340 (lv_at hl 19 rfl) ?_
                obtain ⟨c21_, h⟩ := pq_g h
                refine lv_icmp_ne (tgt := 421) hx hb dL_addUp_342 (by decide) (fun cc_ => absurd c21_ cc_) (fun _ => ?_)
                refine lv_iload hx hb dL_addUp_345 (lv_at hl 0 rfl) ?_
                obtain ⟨v46, hv46, h⟩ := pq_b h
                have J386_v46 : ∀ (H : Heap) (locs : List Loc) (ls : Array Slot), va_P D vwCl (W3 cy qa P T S nw hz ak pa wt cd ln) H → va_D A (W3 cy qa P T S nw hz ak pa wt cd ln) → va_S A s.heap H locs → lv_has ls 20 [(0, .ref (qa 0 0)), (1, .int v2.1), (2, .int v2.2.1), (3, .int v2.2.2.1), (4, .int v2.2.2.2.1), (5, .int v2.2.2.2.2), (6, .int x6_251), (7, .int x7_251), (8, .int x8_251), (9, .int x9_251), (10, .int x10_251), (11, .int x11_251), (12, .int v30), (13, .int x13_251), (14, .int x14_251), (15, .int a36), (16, .int a38), (17, .int a40), (19, .int v45)] → W p l e ({ frames := 4, cells := 0, slots := 0, locals := 87 } : Room) s m args below meth c H locs 0 0 Q (F0 m 386 ls []) := by
                  intro H locs ls hP hD hS hl
                  refine lv_iload hx hb dL_addUp_386 (lv_at hl 18 rfl) ?_
                  obtain ⟨v51, hv51, h⟩ := pq_b h
                  have J401_v51 : ∀ (H : Heap) (locs : List Loc) (ls : Array Slot), va_P D vwCl (W3 cy qa P T S nw hz ak pa wt cd ln) H → va_D A (W3 cy qa P T S nw hz ak pa wt cd ln) → va_S A s.heap H locs → lv_has ls 20 [(0, .ref (qa 0 0)), (1, .int v2.1), (2, .int v2.2.1), (3, .int v2.2.2.1), (4, .int v2.2.2.2.1), (5, .int v2.2.2.2.2), (6, .int x6_251), (7, .int x7_251), (8, .int x8_251), (9, .int x9_251), (10, .int x10_251), (11, .int x11_251), (12, .int v30), (13, .int x13_251), (14, .int x14_251), (15, .int a36), (16, .int a38), (17, .int a40), (19, .int v45)] → W p l e ({ frames := 4, cells := 0, slots := 0, locals := 87 } : Room) s m args below meth c H locs 0 0 Q (F0 m 401 ls []) := by
                    intro H locs ls hP hD hS hl
                    refine lv_iload hx hb dL_addUp_401 (lv_at hl 18 rfl) ?_
                    obtain ⟨v54, hv54, h⟩ := pq_b h
                    have J423_v54 : ∀ (H : Heap) (locs : List Loc) (ls : Array Slot), va_P D vwCl (W3 cy qa P T S nw hz ak pa wt cd ln) H → va_D A (W3 cy qa P T S nw hz ak pa wt cd ln) → va_S A s.heap H locs → lv_has ls 20 [(0, .ref (qa 0 0)), (1, .int v2.1), (2, .int v2.2.1), (3, .int v2.2.2.1), (4, .int v2.2.2.2.1), (5, .int v2.2.2.2.2), (6, .int x6_251), (7, .int x7_251), (8, .int x8_251), (9, .int x9_251), (10, .int x10_251), (11, .int x11_251), (12, .int v30), (13, .int x13_251), (14, .int x14_251), (15, .int a36), (16, .int a38), (17, .int a40), (19, .int v45)] → W p l e ({ frames := 4, cells := 0, slots := 0, locals := 87 } : Room) s m args below meth c H locs 0 0 Q (F0 m 423 ls []) := by
                      intro H locs ls hP hD hS hl
                      refine lv_iload hx hb dL_addUp_423 (lv_at hl 11 rfl) ?_
                      refine lv_iload hx hb dL_addUp_425 (lv_at hl 18 rfl) ?_
                      obtain ⟨v59, hv59, h⟩ := pq_b h
                      have J438_v59 : ∀ (H : Heap) (locs : List Loc) (ls : Array Slot), va_P D vwCl (W3 cy qa P T S nw hz ak pa wt cd ln) H → va_D A (W3 cy qa P T S nw hz ak pa wt cd ln) → va_S A s.heap H locs → lv_has ls 20 [(0, .ref (qa 0 0)), (1, .int v2.1), (2, .int v2.2.1), (3, .int v2.2.2.1), (4, .int v2.2.2.2.1), (5, .int v2.2.2.2.2), (6, .int x6_251), (7, .int x7_251), (8, .int x8_251), (9, .int x9_251), (10, .int x10_251), (12, .int v30), (13, .int x13_251), (14, .int x14_251), (15, .int a36), (17, .int a40), (19, .int v45)] → W p l e ({ frames := 4, cells := 0, slots := 0, locals := 87 } : Room) s m args below meth c H locs 0 0 Q (F0 m 438 ls [.int v59, .int x11_251]) := by
                        intro H locs ls hP hD hS hl
                        refine lv_ior hx hb dL_addUp_438 ?_
                        refine lv_istore (lv' := [(11, .int (x11_251 ||| v59)), (0, .ref (qa 0 0)), (1, .int v2.1), (2, .int v2.2.1), (3, .int v2.2.2.1), (4, .int v2.2.2.2.1), (5, .int v2.2.2.2.2), (6, .int x6_251), (7, .int x7_251), (8, .int x8_251), (9, .int x9_251), (10, .int x10_251), (12, .int v30), (13, .int x13_251), (14, .int x14_251), (15, .int a36), (17, .int a40), (19, .int v45)]) hx hb dL_addUp_439 hl (by decide) rfl (fun ls hl => ?_)
                        refine lv_iload hx hb dL_addUp_441 (lv_at hl 9 rfl) ?_
                        refine lv_iload hx hb dL_addUp_443 (lv_at hl 17 rfl) ?_
                        obtain ⟨v60, hv60, h⟩ := pq_b h
                        have J453_v60 : ∀ (H : Heap) (locs : List Loc) (ls : Array Slot), va_P D vwCl (W3 cy qa P T S nw hz ak pa wt cd ln) H → va_D A (W3 cy qa P T S nw hz ak pa wt cd ln) → va_S A s.heap H locs → lv_has ls 20 [(0, .ref (qa 0 0)), (1, .int v2.1), (2, .int v2.2.1), (3, .int v2.2.2.1), (4, .int v2.2.2.2.1), (5, .int v2.2.2.2.2), (6, .int x6_251), (7, .int x7_251), (9, .int x9_251), (10, .int x10_251), (11, .int (x11_251 ||| v59)), (12, .int v30), (13, .int x13_251), (14, .int x14_251), (15, .int a36), (17, .int a40)] → W p l e ({ frames := 4, cells := 0, slots := 0, locals := 87 } : Room) s m args below meth c H locs 0 0 Q (F0 m 453 ls [.int v60, .int x8_251]) := by
                          intro H locs ls hP hD hS hl
                          refine lv_iadd hx hb dL_addUp_453 ?_
                          refine lv_istore (lv' := [(8, .int (x8_251 + v60)), (0, .ref (qa 0 0)), (1, .int v2.1), (2, .int v2.2.1), (3, .int v2.2.2.1), (4, .int v2.2.2.2.1), (5, .int v2.2.2.2.2), (6, .int x6_251), (7, .int x7_251), (9, .int x9_251), (10, .int x10_251), (11, .int (x11_251 ||| v59)), (12, .int v30), (13, .int x13_251), (14, .int x14_251), (15, .int a36), (17, .int a40)]) hx hb dL_addUp_454 hl (by decide) rfl (fun ls hl => ?_)
                          refine lv_iload hx hb dL_addUp_456 (lv_at hl 8 rfl) ?_
                          refine lv_iload hx hb dL_addUp_458 (lv_at hl 15 rfl) ?_
                          refine lv_iadd hx hb dL_addUp_460 ?_
                          refine lv_istore (lv' := [(7, .int (x7_251 + a36)), (8, .int (x8_251 + v60)), (0, .ref (qa 0 0)), (1, .int v2.1), (2, .int v2.2.1), (3, .int v2.2.2.1), (4, .int v2.2.2.2.1), (5, .int v2.2.2.2.2), (6, .int x6_251), (9, .int x9_251), (10, .int x10_251), (11, .int (x11_251 ||| v59)), (12, .int v30), (13, .int x13_251), (14, .int x14_251), (15, .int a36), (17, .int a40)]) hx hb dL_addUp_461 hl (by decide) rfl (fun ls hl => ?_)
                          refine lv_iload hx hb dL_addUp_463 (lv_at hl 8 rfl) ?_
                          refine lv_iload hx hb dL_addUp_465 (lv_at hl 16 rfl) ?_
                          refine lv_iadd hx hb dL_addUp_467 ?_
                          refine lv_istore (lv' := [(6, .int (x6_251 + a40)), (7, .int (x7_251 + a36)), (8, .int (x8_251 + v60)), (0, .ref (qa 0 0)), (1, .int v2.1), (2, .int v2.2.1), (3, .int v2.2.2.1), (4, .int v2.2.2.2.1), (5, .int v2.2.2.2.2), (9, .int x9_251), (10, .int x10_251), (11, .int (x11_251 ||| v59)), (12, .int v30), (13, .int x13_251), (14, .int x14_251), (15, .int a36), (17, .int a40)]) hx hb dL_addUp_468 hl (by decide) rfl (fun ls hl => ?_)
                          refine lv_iload hx hb dL_addUp_470 (lv_at hl 16 rfl) ?_
                          refine lv_iload hx hb dL_addUp_472 (lv_at hl 9 rfl) ?_
                          obtain ⟨v61, hv61, h⟩ := pq_b h
                          have J484_v61 : ∀ (H : Heap) (locs : List Loc) (ls : Array Slot), va_P D vwCl (W3 cy qa P T S nw hz ak pa wt cd ln) H → va_D A (W3 cy qa P T S nw hz ak pa wt cd ln) → va_S A s.heap H locs → lv_has ls 20 [(0, .ref (qa 0 0)), (1, .int v2.1), (2, .int v2.2.1), (3, .int v2.2.2.1), (4, .int v2.2.2.2.1), (5, .int v2.2.2.2.2), (6, .int (x6_251 + a40)), (7, .int (x7_251 + a36)), (8, .int (x8_251 + v60)), (10, .int x10_251), (11, .int (x11_251 ||| v59)), (12, .int v30), (13, .int x13_251), (14, .int x14_251), (15, .int a36), (17, .int a40)] → W p l e ({ frames := 4, cells := 0, slots := 0, locals := 87 } : Room) s m args below meth c H locs 0 0 Q (F0 m 484 ls [.int v61]) := by
                            intro H locs ls hP hD hS hl
                            refine lv_istore (lv' := [(9, .int v61), (0, .ref (qa 0 0)), (1, .int v2.1), (2, .int v2.2.1), (3, .int v2.2.2.1), (4, .int v2.2.2.2.1), (5, .int v2.2.2.2.2), (6, .int (x6_251 + a40)), (7, .int (x7_251 + a36)), (8, .int (x8_251 + v60)), (10, .int x10_251), (11, .int (x11_251 ||| v59)), (12, .int v30), (13, .int x13_251), (14, .int x14_251), (15, .int a36), (17, .int a40)]) hx hb dL_addUp_484 hl (by decide) rfl (fun ls hl => ?_)
                            refine lv_iload hx hb dL_addUp_486 (lv_at hl 16 rfl) ?_
                            obtain ⟨v62, hv62, h⟩ := pq_b h
                            have J510_v62 : ∀ (H : Heap) (locs : List Loc) (ls : Array Slot), va_P D vwCl (W3 cy qa P T S nw hz ak pa wt cd ln) H → va_D A (W3 cy qa P T S nw hz ak pa wt cd ln) → va_S A s.heap H locs → lv_has ls 20 [(0, .ref (qa 0 0)), (1, .int v2.1), (2, .int v2.2.1), (3, .int v2.2.2.1), (4, .int v2.2.2.2.1), (5, .int v2.2.2.2.2), (6, .int (x6_251 + a40)), (7, .int (x7_251 + a36)), (8, .int (x8_251 + v60)), (9, .int v61), (11, .int (x11_251 ||| v59)), (12, .int v30), (13, .int x13_251), (14, .int x14_251), (15, .int a36)] → W p l e ({ frames := 4, cells := 0, slots := 0, locals := 87 } : Room) s m args below meth c H locs 0 0 Q (F0 m 510 ls [.int v62]) := by
                              intro H locs ls hP hD hS hl
                              refine lv_istore (lv' := [(10, .int v62), (0, .ref (qa 0 0)), (1, .int v2.1), (2, .int v2.2.1), (3, .int v2.2.2.1), (4, .int v2.2.2.2.1), (5, .int v2.2.2.2.2), (6, .int (x6_251 + a40)), (7, .int (x7_251 + a36)), (8, .int (x8_251 + v60)), (9, .int v61), (11, .int (x11_251 ||| v59)), (12, .int v30), (13, .int x13_251), (14, .int x14_251), (15, .int a36)]) hx hb dL_addUp_510 hl (by decide) rfl (fun ls hl => ?_)
                              refine lv_iload hx hb dL_addUp_512 (lv_at hl 15 rfl) ?_
                              refine lv_if_le (tgt := 539) hx hb dL_addUp_514 (by decide) (fun c38_ => ?_) (fun c38_ => ?_)
                              · have h := pq_t c38_ h
                                refine lv_iload hx hb dL_addUp_539 (lv_at hl 13 rfl) ?_
                                refine lv_istore (lv' := [(13, .int x13_251), (10, .int v62), (0, .ref (qa 0 0)), (1, .int v2.1), (2, .int v2.2.1), (3, .int v2.2.2.1), (4, .int v2.2.2.2.1), (5, .int v2.2.2.2.2), (6, .int (x6_251 + a40)), (7, .int (x7_251 + a36)), (8, .int (x8_251 + v60)), (9, .int v61), (11, .int (x11_251 ||| v59)), (12, .int v30), (14, .int x14_251), (15, .int a36)]) hx hb dL_addUp_541 hl (by decide) rfl (fun ls hl => ?_)
                                refine lv_iinc (v := x14_251 + 1) (lv' := [(14, .int (x14_251 + 1)), (13, .int x13_251), (10, .int v62), (0, .ref (qa 0 0)), (1, .int v2.1), (2, .int v2.2.1), (3, .int v2.2.2.1), (4, .int v2.2.2.2.1), (5, .int v2.2.2.2.2), (6, .int (x6_251 + a40)), (7, .int (x7_251 + a36)), (8, .int (x8_251 + v60)), (9, .int v61), (11, .int (x11_251 ||| v59)), (12, .int v30), (15, .int a36)]) hx hb dL_addUp_543 hl (k := 14) rfl (by first | rfl | decide) (by decide) rfl (fun ls hl => ?_)
                                refine lv_goto (tgt := 251) hx hb dL_addUp_546 (by decide) ?_
                                exact ih251 (x6_251 + a40) (x7_251 + a36) (x8_251 + v60) v61 v62 (x11_251 ||| v59) x13_251 (x14_251 + 1) _ _ _ h hP hD hS (lv_sub hl [3, 4, 5, 6, 7, 8, 9, 10, 11, 12, 2, 13, 14, 1, 0] rfl)
                              · have h := pq_e c38_ h
                                refine lv_iload hx hb dL_addUp_517 (lv_at hl 13 rfl) ?_
                                refine lv_if_lt (tgt := 534) hx hb dL_addUp_519 (by decide) (fun c39_ => ?_) (fun c39_ => ?_)
                                · have h := pq_t c39_ h
                                  refine lv_iload hx hb dL_addUp_534 (lv_at hl 14 rfl) ?_
                                  refine lv_goto (tgt := 541) hx hb dL_addUp_536 (by decide) ?_
                                  refine lv_istore (lv' := [(13, .int x14_251), (10, .int v62), (0, .ref (qa 0 0)), (1, .int v2.1), (2, .int v2.2.1), (3, .int v2.2.2.1), (4, .int v2.2.2.2.1), (5, .int v2.2.2.2.2), (6, .int (x6_251 + a40)), (7, .int (x7_251 + a36)), (8, .int (x8_251 + v60)), (9, .int v61), (11, .int (x11_251 ||| v59)), (12, .int v30), (14, .int x14_251), (15, .int a36)]) hx hb dL_addUp_541 hl (by decide) rfl (fun ls hl => ?_)
                                  refine lv_iinc (v := x14_251 + 1) (lv' := [(14, .int (x14_251 + 1)), (13, .int x14_251), (10, .int v62), (0, .ref (qa 0 0)), (1, .int v2.1), (2, .int v2.2.1), (3, .int v2.2.2.1), (4, .int v2.2.2.2.1), (5, .int v2.2.2.2.2), (6, .int (x6_251 + a40)), (7, .int (x7_251 + a36)), (8, .int (x8_251 + v60)), (9, .int v61), (11, .int (x11_251 ||| v59)), (12, .int v30), (15, .int a36)]) hx hb dL_addUp_543 hl (k := 14) rfl (by first | rfl | decide) (by decide) rfl (fun ls hl => ?_)
                                  refine lv_goto (tgt := 251) hx hb dL_addUp_546 (by decide) ?_
                                  exact ih251 (x6_251 + a40) (x7_251 + a36) (x8_251 + v60) v61 v62 (x11_251 ||| v59) x14_251 (x14_251 + 1) _ _ _ h hP hD hS (lv_sub hl [3, 4, 5, 6, 7, 8, 9, 10, 11, 12, 2, 13, 14, 1, 0] rfl)
                                · have h := pq_e c39_ h
                                  refine lv_iload hx hb dL_addUp_522 (lv_at hl 15 rfl) ?_
                                  refine lv_aload_n hx hb dL_addUp_524 rfl (lv_at hl 1 rfl) ?_
                                  refine lv_iload hx hb dL_addUp_525 (lv_at hl 13 rfl) ?_
                                  refine lv_iconst (v := 1) hx hb dL_addUp_527 (by decide) ?_
                                  obtain ⟨r63, hr63, h⟩ := pq_b h
                                  obtain ⟨a64, e9_, h9_⟩ := pq_inn h
                                  clear h
                                  have h := h9_
                                  clear h9_
                                  subst e9_
                                  refine pw_ci (w1 := W3 cy qa P T S nw hz ak pa wt cd ln) (rest := [.int a36]) (As := [.int x13_251, .int 1]) hF (kX3_owner l D cy qa _ P T S nw hz ak pa wt cd ln x13_251 1 a64 hr63) (cwV 2 hts (pw_gV (own := RL) (idx := 23) (C := RX3) (y := yX3_owner) aw_410 aw_411 aw_412 aw_1 aw_413) rfl rfl rfl pX3_owner ⟨Nat.le_of_ble_eq_true rfl, Nat.le_of_ble_eq_true rfl⟩) (va_recv hK hP (ci := 3) (q0 := 0) rfl rfl) hK hP hD hS hA rfl rfl hl.1 rfl (Nat.le_of_ble_eq_true rfl) dL_addUp_528 ⟨Nat.zero_le _, Nat.zero_le _⟩ (fun H locs hP hD hS => ?_)
                                  refine lv_icmp_le (tgt := 539) hx hb dL_addUp_531 (by decide) (fun c40_ => ?_) (fun c40_ => ?_)
                                  · have h := pq_t c40_ h
                                    refine lv_iload hx hb dL_addUp_539 (lv_at hl 13 rfl) ?_
                                    refine lv_istore (lv' := [(13, .int x13_251), (10, .int v62), (0, .ref (qa 0 0)), (1, .int v2.1), (2, .int v2.2.1), (3, .int v2.2.2.1), (4, .int v2.2.2.2.1), (5, .int v2.2.2.2.2), (6, .int (x6_251 + a40)), (7, .int (x7_251 + a36)), (8, .int (x8_251 + v60)), (9, .int v61), (11, .int (x11_251 ||| v59)), (12, .int v30), (14, .int x14_251), (15, .int a36)]) hx hb dL_addUp_541 hl (by decide) rfl (fun ls hl => ?_)
                                    refine lv_iinc (v := x14_251 + 1) (lv' := [(14, .int (x14_251 + 1)), (13, .int x13_251), (10, .int v62), (0, .ref (qa 0 0)), (1, .int v2.1), (2, .int v2.2.1), (3, .int v2.2.2.1), (4, .int v2.2.2.2.1), (5, .int v2.2.2.2.2), (6, .int (x6_251 + a40)), (7, .int (x7_251 + a36)), (8, .int (x8_251 + v60)), (9, .int v61), (11, .int (x11_251 ||| v59)), (12, .int v30), (15, .int a36)]) hx hb dL_addUp_543 hl (k := 14) rfl (by first | rfl | decide) (by decide) rfl (fun ls hl => ?_)
                                    refine lv_goto (tgt := 251) hx hb dL_addUp_546 (by decide) ?_
                                    exact ih251 (x6_251 + a40) (x7_251 + a36) (x8_251 + v60) v61 v62 (x11_251 ||| v59) x13_251 (x14_251 + 1) _ _ _ h hP hD hS (lv_sub hl [3, 4, 5, 6, 7, 8, 9, 10, 11, 12, 2, 13, 14, 1, 0] rfl)
                                  · have h := pq_e c40_ h
                                    refine lv_iload hx hb dL_addUp_534 (lv_at hl 14 rfl) ?_
                                    refine lv_goto (tgt := 541) hx hb dL_addUp_536 (by decide) ?_
                                    refine lv_istore (lv' := [(13, .int x14_251), (10, .int v62), (0, .ref (qa 0 0)), (1, .int v2.1), (2, .int v2.2.1), (3, .int v2.2.2.1), (4, .int v2.2.2.2.1), (5, .int v2.2.2.2.2), (6, .int (x6_251 + a40)), (7, .int (x7_251 + a36)), (8, .int (x8_251 + v60)), (9, .int v61), (11, .int (x11_251 ||| v59)), (12, .int v30), (14, .int x14_251), (15, .int a36)]) hx hb dL_addUp_541 hl (by decide) rfl (fun ls hl => ?_)
                                    refine lv_iinc (v := x14_251 + 1) (lv' := [(14, .int (x14_251 + 1)), (13, .int x14_251), (10, .int v62), (0, .ref (qa 0 0)), (1, .int v2.1), (2, .int v2.2.1), (3, .int v2.2.2.1), (4, .int v2.2.2.2.1), (5, .int v2.2.2.2.2), (6, .int (x6_251 + a40)), (7, .int (x7_251 + a36)), (8, .int (x8_251 + v60)), (9, .int v61), (11, .int (x11_251 ||| v59)), (12, .int v30), (15, .int a36)]) hx hb dL_addUp_543 hl (k := 14) rfl (by first | rfl | decide) (by decide) rfl (fun ls hl => ?_)
                                    refine lv_goto (tgt := 251) hx hb dL_addUp_546 (by decide) ?_
                                    exact ih251 (x6_251 + a40) (x7_251 + a36) (x8_251 + v60) v61 v62 (x11_251 ||| v59) x14_251 (x14_251 + 1) _ _ _ h hP hD hS (lv_sub hl [3, 4, 5, 6, 7, 8, 9, 10, 11, 12, 2, 13, 14, 1, 0] rfl)
                            clear h
                            have h := hv62
                            clear hv62
                            refine lv_if_le (tgt := 508) hx hb dL_addUp_488 (by decide) (fun c35_ => ?_) (fun c35_ => ?_)
                            · have h := pq_t c35_ h
                              refine lv_iload hx hb dL_addUp_508 (lv_at hl 10 rfl) ?_
                              obtain rfl := Option.some.inj h
                              exact J510_v62 _ _ _ hP hD hS (lv_sub hl [1, 2, 3, 4, 5, 6, 7, 8, 9, 0, 11, 12, 13, 14, 15] rfl)
                            · have h := pq_e c35_ h
                              refine lv_iload hx hb dL_addUp_491 (lv_at hl 10 rfl) ?_
                              refine lv_if_eq (tgt := 503) hx hb dL_addUp_493 (by decide) (fun c36_ => ?_) (fun c36_ => ?_)
                              · have h := pq_t c36_ h
                                refine lv_iload hx hb dL_addUp_503 (lv_at hl 16 rfl) ?_
                                refine lv_goto (tgt := 510) hx hb dL_addUp_505 (by decide) ?_
                                obtain rfl := Option.some.inj h
                                exact J510_v62 _ _ _ hP hD hS (lv_sub hl [1, 2, 3, 4, 5, 6, 7, 8, 9, 0, 11, 12, 13, 14, 15] rfl)
                              · have h := pq_e c36_ h
                                refine lv_iload hx hb dL_addUp_496 (lv_at hl 16 rfl) ?_
                                refine lv_iload hx hb dL_addUp_498 (lv_at hl 10 rfl) ?_
                                refine lv_icmp_ge (tgt := 508) hx hb dL_addUp_500 (by decide) (fun c37_ => ?_) (fun c37_ => ?_)
                                · have h := pq_t c37_ h
                                  refine lv_iload hx hb dL_addUp_508 (lv_at hl 10 rfl) ?_
                                  obtain rfl := Option.some.inj h
                                  exact J510_v62 _ _ _ hP hD hS (lv_sub hl [1, 2, 3, 4, 5, 6, 7, 8, 9, 0, 11, 12, 13, 14, 15] rfl)
                                · have h := pq_e c37_ h
                                  refine lv_iload hx hb dL_addUp_503 (lv_at hl 16 rfl) ?_
                                  refine lv_goto (tgt := 510) hx hb dL_addUp_505 (by decide) ?_
                                  obtain rfl := Option.some.inj h
                                  exact J510_v62 _ _ _ hP hD hS (lv_sub hl [1, 2, 3, 4, 5, 6, 7, 8, 9, 0, 11, 12, 13, 14, 15] rfl)
                          clear h
                          have h := hv61
                          clear hv61
                          refine lv_icmp_le (tgt := 482) hx hb dL_addUp_474 (by decide) (fun c34_ => ?_) (fun c34_ => ?_)
                          · have h := pq_t c34_ h
                            refine lv_iload hx hb dL_addUp_482 (lv_at hl 9 rfl) ?_
                            obtain rfl := Option.some.inj h
                            exact J484_v61 _ _ _ hP hD hS (lv_sub hl [3, 4, 5, 6, 7, 8, 0, 1, 2, 10, 11, 12, 13, 14, 15, 16] rfl)
                          · have h := pq_e c34_ h
                            refine lv_iload hx hb dL_addUp_477 (lv_at hl 16 rfl) ?_
                            refine lv_goto (tgt := 484) hx hb dL_addUp_479 (by decide) ?_
                            obtain rfl := Option.some.inj h
                            exact J484_v61 _ _ _ hP hD hS (lv_sub hl [3, 4, 5, 6, 7, 8, 0, 1, 2, 10, 11, 12, 13, 14, 15, 16] rfl)
                        clear h
                        have h := hv60
                        clear hv60
                        refine lv_if_eq (tgt := 452) hx hb dL_addUp_445 (by decide) (fun c33_ => ?_) (fun c33_ => ?_)
                        · have h := pq_t c33_ h
                          refine lv_iconst (v := 0) hx hb dL_addUp_452 (by decide) ?_
                          obtain rfl := Option.some.inj h
                          exact J453_v60 _ _ _ hP hD hS (lv_sub hl [1, 2, 3, 4, 5, 6, 7, 8, 10, 11, 0, 12, 13, 14, 15, 16] rfl)
                        · have h := pq_e c33_ h
                          refine lv_iconst (v := 1) hx hb dL_addUp_448 (by decide) ?_
                          refine lv_goto (tgt := 453) hx hb dL_addUp_449 (by decide) ?_
                          obtain rfl := Option.some.inj h
                          exact J453_v60 _ _ _ hP hD hS (lv_sub hl [1, 2, 3, 4, 5, 6, 7, 8, 10, 11, 0, 12, 13, 14, 15, 16] rfl)
                      clear h
                      have h := hv59
                      clear hv59
                      refine lv_if_eq (tgt := 437) hx hb dL_addUp_427 (by decide) (fun c32_ => ?_) (fun c32_ => ?_)
                      · have h := pq_t c32_ h
                        refine lv_iconst (v := 0) hx hb dL_addUp_437 (by decide) ?_
                        obtain rfl := Option.some.inj h
                        exact J438_v59 _ _ _ hP hD hS (lv_sub hl [0, 1, 2, 3, 4, 5, 6, 7, 8, 9, 10, 12, 13, 14, 15, 17, 18] rfl)
                      · have h := pq_e c32_ h
                        refine lv_iconst (v := 1) hx hb dL_addUp_430 (by decide) ?_
                        refine lv_iload hx hb dL_addUp_431 (lv_at hl 16 rfl) ?_
                        refine lv_ishl hx hb dL_addUp_433 ?_
                        refine lv_goto (tgt := 438) hx hb dL_addUp_434 (by decide) ?_
                        obtain rfl := Option.some.inj h
                        exact J438_v59 _ _ _ hP hD hS (lv_sub hl [0, 1, 2, 3, 4, 5, 6, 7, 8, 9, 10, 12, 13, 14, 15, 17, 18] rfl)
                    clear h
                    have h := hv54
                    clear hv54
                    refine lv_if_eq (tgt := 423) hx hb dL_addUp_403 (by decide) (fun c30_ => ?_) (fun c30_ => ?_)
                    · have h := pq_t c30_ h
                      obtain rfl := Option.some.inj h
                      exact J423_v54 _ _ _ hP hD hS (lv_sub hl [0, 1, 2, 3, 4, 5, 6, 7, 8, 9, 10, 11, 12, 13, 14, 15, 16, 17, 18] rfl)
                    · have h := pq_e c30_ h
                      refine lv_aload_n hx hb dL_addUp_406 rfl (lv_at hl 0 rfl) ?_
                      refine lv_iload hx hb dL_addUp_407 (lv_at hl 14 rfl) ?_
                      refine lv_iconst (v := 3) hx hb dL_addUp_409 (by decide) ?_
                      obtain ⟨r55, hr55, h⟩ := pq_b h
                      obtain ⟨a56, e9_, h9_⟩ := pq_inn h
                      clear h
                      have h := h9_
                      clear h9_
                      subst e9_
                      refine pw_ci (w1 := W3 cy qa P T S nw hz ak pa wt cd ln) (rest := []) (As := [.int x14_251, .int 3]) hF (kX3_owner l D cy qa _ P T S nw hz ak pa wt cd ln x14_251 3 a56 hr55) (cwV 2 hts (pw_gV (own := RL) (idx := 23) (C := RX3) (y := yX3_owner) aw_410 aw_411 aw_412 aw_1 aw_413) rfl rfl rfl pX3_owner ⟨Nat.le_of_ble_eq_true rfl, Nat.le_of_ble_eq_true rfl⟩) (va_recv hK hP (ci := 3) (q0 := 0) rfl rfl) hK hP hD hS hA rfl rfl hl.1 rfl (Nat.le_of_ble_eq_true rfl) dL_addUp_410 ⟨Nat.zero_le _, Nat.zero_le _⟩ (fun H locs hP hD hS => ?_)
                      refine lv_aload_n hx hb dL_addUp_413 rfl (lv_at hl 0 rfl) ?_
                      refine lv_iconst (v := 0) hx hb dL_addUp_414 (by decide) ?_
                      obtain ⟨r57, hr57, h⟩ := pq_b h
                      obtain ⟨a58, e9_, h9_⟩ := pq_inn h
                      clear h
                      have h := h9_
                      clear h9_
                      subst e9_
                      refine pw_ci (w1 := W3 cy qa P T S nw hz ak pa wt cd ln) (rest := [.int a56]) (As := [.int 0]) hF (kX3_count l D cy qa _ P T S nw hz ak pa wt cd ln 0 a58 hr57) (cwV 1 hts (pw_gV (own := RL) (idx := 16) (C := RX3) (y := yX3_count) aw_420 aw_421 aw_422 aw_1 aw_423) rfl rfl rfl pX3_count ⟨Nat.le_of_ble_eq_true rfl, Nat.le_of_ble_eq_true rfl⟩) (va_recv hK hP (ci := 3) (q0 := 0) rfl rfl) hK hP hD hS hA rfl rfl hl.1 rfl (Nat.le_of_ble_eq_true rfl) dL_addUp_415 ⟨Nat.zero_le _, Nat.zero_le _⟩ (fun H locs hP hD hS => ?_)
                      obtain ⟨c31_, h⟩ := pq_g h
                      refine lv_icmp_le (tgt := 423) hx hb dL_addUp_418 (by decide) (fun _ => ?_) (fun cc_ => absurd c31_ cc_)
                      obtain rfl := Option.some.inj h
                      exact J423_v54 _ _ _ hP hD hS (lv_sub hl [0, 1, 2, 3, 4, 5, 6, 7, 8, 9, 10, 11, 12, 13, 14, 15, 16, 17, 18] rfl)
                  clear h
                  have h := hv51
                  clear hv51
                  refine lv_if_ne (tgt := 401) hx hb dL_addUp_388 (by decide) (fun c28_ => ?_) (fun c28_ => ?_)
                  · have h := pq_e c28_ h
                    obtain rfl := Option.some.inj h
                    exact J401_v51 _ _ _ hP hD hS (lv_sub hl [0, 1, 2, 3, 4, 5, 6, 7, 8, 9, 10, 11, 12, 13, 14, 15, 16, 17, 18] rfl)
                  · have h := pq_t c28_ h
                    refine lv_aload_n hx hb dL_addUp_391 rfl (lv_at hl 0 rfl) ?_
                    refine lv_iload hx hb dL_addUp_392 (lv_at hl 14 rfl) ?_
                    refine lv_iconst (v := 3) hx hb dL_addUp_394 (by decide) ?_
                    obtain ⟨r52, hr52, h⟩ := pq_b h
                    obtain ⟨a53, e9_, h9_⟩ := pq_inn h
                    clear h
                    have h := h9_
                    clear h9_
                    subst e9_
                    refine pw_ci (w1 := W3 cy qa P T S nw hz ak pa wt cd ln) (rest := []) (As := [.int x14_251, .int 3]) hF (kX3_owner l D cy qa _ P T S nw hz ak pa wt cd ln x14_251 3 a53 hr52) (cwV 2 hts (pw_gV (own := RL) (idx := 23) (C := RX3) (y := yX3_owner) aw_410 aw_411 aw_412 aw_1 aw_413) rfl rfl rfl pX3_owner ⟨Nat.le_of_ble_eq_true rfl, Nat.le_of_ble_eq_true rfl⟩) (va_recv hK hP (ci := 3) (q0 := 0) rfl rfl) hK hP hD hS hA rfl rfl hl.1 rfl (Nat.le_of_ble_eq_true rfl) dL_addUp_395 ⟨Nat.zero_le _, Nat.zero_le _⟩ (fun H locs hP hD hS => ?_)
                    obtain ⟨c29_, h⟩ := pq_g h
                    refine lv_if_ne (tgt := 421) hx hb dL_addUp_398 (by decide) (fun cc_ => absurd c29_ cc_) (fun _ => ?_)
                    obtain rfl := Option.some.inj h
                    exact J401_v51 _ _ _ hP hD hS (lv_sub hl [0, 1, 2, 3, 4, 5, 6, 7, 8, 9, 10, 11, 12, 13, 14, 15, 16, 17, 18] rfl)
                clear h
                have h := hv46
                clear hv46
                refine lv_if_eq (tgt := 386) hx hb dL_addUp_347 (by decide) (fun c22_ => ?_) (fun c22_ => ?_)
                · have h := pq_t c22_ h
                  obtain rfl := Option.some.inj h
                  exact J386_v46 _ _ _ hP hD hS (lv_sub hl [1, 2, 3, 4, 5, 6, 7, 8, 9, 10, 11, 12, 13, 14, 15, 16, 17, 18, 0] rfl)
                · have h := pq_e c22_ h
                  refine lv_aload_n hx hb dL_addUp_350 rfl (lv_at hl 1 rfl) ?_
                  refine lv_iload hx hb dL_addUp_351 (lv_at hl 15 rfl) ?_
                  refine lv_iconst (v := 0) hx hb dL_addUp_353 (by decide) ?_
                  obtain ⟨r47, hr47, h⟩ := pq_b h
                  obtain ⟨a48, e9_, h9_⟩ := pq_inn h
                  clear h
                  have h := h9_
                  clear h9_
                  subst e9_
                  refine pw_ci (w1 := W3 cy qa P T S nw hz ak pa wt cd ln) (rest := []) (As := [.int x14_251, .int 0]) hF (kX3_owner l D cy qa _ P T S nw hz ak pa wt cd ln x14_251 0 a48 hr47) (cwV 2 hts (pw_gV (own := RL) (idx := 23) (C := RX3) (y := yX3_owner) aw_410 aw_411 aw_412 aw_1 aw_413) rfl rfl rfl pX3_owner ⟨Nat.le_of_ble_eq_true rfl, Nat.le_of_ble_eq_true rfl⟩) (va_recv hK hP (ci := 3) (q0 := 0) rfl rfl) hK hP hD hS hA rfl rfl hl.1 rfl (Nat.le_of_ble_eq_true rfl) dL_addUp_354 ⟨Nat.zero_le _, Nat.zero_le _⟩ (fun H locs hP hD hS => ?_)
                  obtain ⟨c23_, h⟩ := pq_g h
                  refine lv_if_eq (tgt := 421) hx hb dL_addUp_357 (by decide) (fun cc_ => absurd cc_ c23_) (fun _ => ?_)
                  refine lv_iload hx hb dL_addUp_360 (lv_at hl 13 rfl) ?_
                  refine lv_if_eq (tgt := 375) hx hb dL_addUp_362 (by decide) (fun c24_ => ?_) (fun c24_ => ?_)
                  · have h := pq_t c24_ h
                    refine lv_iload hx hb dL_addUp_375 (lv_at hl 12 rfl) ?_
                    refine lv_iload hx hb dL_addUp_377 (lv_at hl 17 rfl) ?_
                    refine lv_ishr hx hb dL_addUp_379 ?_
                    refine lv_iconst (v := 1) hx hb dL_addUp_380 (by decide) ?_
                    refine lv_iand hx hb dL_addUp_381 ?_
                    refine lv_iconst (v := 1) hx hb dL_addUp_382 (by decide) ?_
                    obtain ⟨c25_, h⟩ := pq_g h
                    refine lv_icmp_eq (tgt := 421) hx hb dL_addUp_383 (by decide) (fun cc_ => absurd cc_ c25_) (fun _ => ?_)
                    obtain rfl := Option.some.inj h
                    exact J386_v46 _ _ _ hP hD hS (lv_sub hl [1, 2, 3, 4, 5, 6, 7, 8, 9, 10, 11, 12, 13, 14, 15, 16, 17, 18, 0] rfl)
                  · have h := pq_e c24_ h
                    refine lv_iload hx hb dL_addUp_365 (lv_at hl 16 rfl) ?_
                    refine lv_aload_n hx hb dL_addUp_367 rfl (lv_at hl 1 rfl) ?_
                    refine lv_iconst (v := 1) hx hb dL_addUp_368 (by decide) ?_
                    obtain ⟨r49, hr49, h⟩ := pq_b h
                    obtain ⟨a50, e9_, h9_⟩ := pq_inn h
                    clear h
                    have h := h9_
                    clear h9_
                    subst e9_
                    refine pw_ci (w1 := W3 cy qa P T S nw hz ak pa wt cd ln) (rest := [.int a36]) (As := [.int 1]) hF (kX3_setting l D cy qa _ P T S nw hz ak pa wt cd ln 1 a50 hr49) (cwV 1 hts (pw_gV (own := RL) (idx := 20) (C := RX3) (y := yX3_setting) aw_444 aw_445 aw_446 aw_1 aw_447) rfl rfl rfl pX3_setting ⟨Nat.le_of_ble_eq_true rfl, Nat.le_of_ble_eq_true rfl⟩) (va_recv hK hP (ci := 3) (q0 := 0) rfl rfl) hK hP hD hS hA rfl rfl hl.1 rfl (Nat.le_of_ble_eq_true rfl) dL_addUp_369 ⟨Nat.zero_le _, Nat.zero_le _⟩ (fun H locs hP hD hS => ?_)
                    obtain ⟨c26_, h⟩ := pq_g h
                    refine lv_icmp_lt (tgt := 421) hx hb dL_addUp_372 (by decide) (fun cc_ => absurd cc_ c26_) (fun _ => ?_)
                    refine lv_iload hx hb dL_addUp_375 (lv_at hl 12 rfl) ?_
                    refine lv_iload hx hb dL_addUp_377 (lv_at hl 17 rfl) ?_
                    refine lv_ishr hx hb dL_addUp_379 ?_
                    refine lv_iconst (v := 1) hx hb dL_addUp_380 (by decide) ?_
                    refine lv_iand hx hb dL_addUp_381 ?_
                    refine lv_iconst (v := 1) hx hb dL_addUp_382 (by decide) ?_
                    obtain ⟨c27_, h⟩ := pq_g h
                    refine lv_icmp_eq (tgt := 421) hx hb dL_addUp_383 (by decide) (fun cc_ => absurd cc_ c27_) (fun _ => ?_)
                    obtain rfl := Option.some.inj h
                    exact J386_v46 _ _ _ hP hD hS (lv_sub hl [1, 2, 3, 4, 5, 6, 7, 8, 9, 10, 11, 12, 13, 14, 15, 16, 17, 18, 0] rfl)
              clear h
              have h := hv45
              clear hv45
              refine lv_if_lt (tgt := 335) hx hb dL_addUp_328 (by decide) (fun c20_ => ?_) (fun c20_ => ?_)
              · have h := pq_t c20_ h
                refine lv_iconst (v := 0) hx hb dL_addUp_335 (by decide) ?_
                obtain rfl := Option.some.inj h
                exact J336_v45 _ _ _ hP hD hS (lv_sub hl [0, 1, 2, 3, 4, 5, 6, 7, 8, 9, 10, 11, 12, 13, 14, 15, 16, 17, 18] rfl)
              · have h := pq_e c20_ h
                refine lv_iconst (v := 1) hx hb dL_addUp_331 (by decide) ?_
                refine lv_goto (tgt := 336) hx hb dL_addUp_332 (by decide) ?_
                obtain rfl := Option.some.inj h
                exact J336_v45 _ _ _ hP hD hS (lv_sub hl [0, 1, 2, 3, 4, 5, 6, 7, 8, 9, 10, 11, 12, 13, 14, 15, 16, 17, 18] rfl)
            clear h
            have L291_n41 : ∀ (n : Nat) (x18_291 : Int32) (x19_291 : Int32) (H : Heap) (locs : List Loc) (ls : Array Slot), fL_addUp_L291 P x14_251 n x18_291 x19_291 = some v42 → va_P D vwCl (W3 cy qa P T S nw hz ak pa wt cd ln) H → va_D A (W3 cy qa P T S nw hz ak pa wt cd ln) → va_S A s.heap H locs → lv_has ls 20 [(0, .ref (qa 0 0)), (1, .int v2.1), (2, .int v2.2.1), (3, .int v2.2.2.1), (4, .int v2.2.2.2.1), (5, .int v2.2.2.2.2), (6, .int x6_251), (7, .int x7_251), (8, .int x8_251), (9, .int x9_251), (10, .int x10_251), (11, .int x11_251), (12, .int v30), (13, .int x13_251), (14, .int x14_251), (15, .int a36), (16, .int a38), (17, .int a40), (18, .int x18_291), (19, .int x19_291)] → W p l e ({ frames := 4, cells := 0, slots := 0, locals := 87 } : Room) s m args below meth c H locs 0 0 Q (F0 m 291 ls []) := by
              intro n
              induction n with
              | zero =>
                intro x18_291 x19_291 H locs ls h hP hD hS hl
                exact pq_n h
              | succ n ih291 =>
                intro x18_291 x19_291 H locs ls h hP hD hS hl
                rw [fL_addUp_L291] at h
                refine lv_iload hx hb dL_addUp_291 (lv_at hl 19 rfl) ?_
                refine lv_bipush (v := 8) hx hb dL_addUp_293 (by decide) ?_
                refine lv_icmp_ge (tgt := 326) hx hb dL_addUp_295 (by decide) (fun c18_ => ?_) (fun c18_ => ?_)
                · have h := pq_t c18_ h
                  obtain rfl := Option.some.inj h
                  exact X326_v42 _ _ _ hP hD hS (lv_sub hl [0, 1, 2, 3, 4, 5, 6, 7, 8, 9, 10, 11, 12, 13, 14, 15, 16, 17, 18] rfl)
                · have h := pq_e c18_ h
                  refine lv_iload hx hb dL_addUp_298 (lv_at hl 18 rfl) ?_
                  refine lv_aload_n hx hb dL_addUp_300 rfl (lv_at hl 0 rfl) ?_
                  refine lv_iload hx hb dL_addUp_301 (lv_at hl 19 rfl) ?_
                  refine lv_iconst (v := 1) hx hb dL_addUp_303 (by decide) ?_
                  obtain ⟨r43, hr43, h⟩ := pq_b h
                  obtain ⟨a44, e9_, h9_⟩ := pq_inn h
                  clear h
                  have h := h9_
                  clear h9_
                  subst e9_
                  refine pw_ci (w1 := W3 cy qa P T S nw hz ak pa wt cd ln) (rest := [.int x18_291]) (As := [.int x19_291, .int 1]) hF (kX3_place l D cy qa _ P T S nw hz ak pa wt cd ln x19_291 1 a44 hr43) (cwV 2 hts (pw_gV (own := RL) (idx := 10) (C := RX3) (y := yX3_place) aw_394 aw_395 aw_396 aw_1 aw_397) rfl rfl rfl pX3_place ⟨Nat.le_of_ble_eq_true rfl, Nat.le_of_ble_eq_true rfl⟩) (va_recv hK hP (ci := 3) (q0 := 0) rfl rfl) hK hP hD hS hA rfl rfl hl.1 rfl (Nat.le_of_ble_eq_true rfl) dL_addUp_304 ⟨Nat.zero_le _, Nat.zero_le _⟩ (fun H locs hP hD hS => ?_)
                  refine lv_iload hx hb dL_addUp_307 (lv_at hl 14 rfl) ?_
                  refine lv_icmp_ne (tgt := 316) hx hb dL_addUp_309 (by decide) (fun c19_ => ?_) (fun c19_ => ?_)
                  · have h := pq_e c19_ h
                    refine lv_iconst (v := 0) hx hb dL_addUp_316 (by decide) ?_
                    refine lv_iadd hx hb dL_addUp_317 ?_
                    refine lv_istore (lv' := [(18, .int (x18_291 + 0)), (0, .ref (qa 0 0)), (1, .int v2.1), (2, .int v2.2.1), (3, .int v2.2.2.1), (4, .int v2.2.2.2.1), (5, .int v2.2.2.2.2), (6, .int x6_251), (7, .int x7_251), (8, .int x8_251), (9, .int x9_251), (10, .int x10_251), (11, .int x11_251), (12, .int v30), (13, .int x13_251), (14, .int x14_251), (15, .int a36), (16, .int a38), (17, .int a40), (19, .int x19_291)]) hx hb dL_addUp_318 hl (by decide) rfl (fun ls hl => ?_)
                    refine lv_iinc (v := x19_291 + 1) (lv' := [(19, .int (x19_291 + 1)), (18, .int (x18_291 + 0)), (0, .ref (qa 0 0)), (1, .int v2.1), (2, .int v2.2.1), (3, .int v2.2.2.1), (4, .int v2.2.2.2.1), (5, .int v2.2.2.2.2), (6, .int x6_251), (7, .int x7_251), (8, .int x8_251), (9, .int x9_251), (10, .int x10_251), (11, .int x11_251), (12, .int v30), (13, .int x13_251), (14, .int x14_251), (15, .int a36), (16, .int a38), (17, .int a40)]) hx hb dL_addUp_320 hl (k := 19) rfl (by first | rfl | decide) (by decide) rfl (fun ls hl => ?_)
                    refine lv_goto (tgt := 291) hx hb dL_addUp_323 (by decide) ?_
                    exact ih291 (x18_291 + 0) (x19_291 + 1) _ _ _ h hP hD hS (lv_sub hl [2, 3, 4, 5, 6, 7, 8, 9, 10, 11, 12, 13, 14, 15, 16, 17, 18, 19, 1, 0] rfl)
                  · have h := pq_t c19_ h
                    refine lv_iconst (v := 1) hx hb dL_addUp_312 (by decide) ?_
                    refine lv_goto (tgt := 317) hx hb dL_addUp_313 (by decide) ?_
                    refine lv_iadd hx hb dL_addUp_317 ?_
                    refine lv_istore (lv' := [(18, .int (x18_291 + 1)), (0, .ref (qa 0 0)), (1, .int v2.1), (2, .int v2.2.1), (3, .int v2.2.2.1), (4, .int v2.2.2.2.1), (5, .int v2.2.2.2.2), (6, .int x6_251), (7, .int x7_251), (8, .int x8_251), (9, .int x9_251), (10, .int x10_251), (11, .int x11_251), (12, .int v30), (13, .int x13_251), (14, .int x14_251), (15, .int a36), (16, .int a38), (17, .int a40), (19, .int x19_291)]) hx hb dL_addUp_318 hl (by decide) rfl (fun ls hl => ?_)
                    refine lv_iinc (v := x19_291 + 1) (lv' := [(19, .int (x19_291 + 1)), (18, .int (x18_291 + 1)), (0, .ref (qa 0 0)), (1, .int v2.1), (2, .int v2.2.1), (3, .int v2.2.2.1), (4, .int v2.2.2.2.1), (5, .int v2.2.2.2.2), (6, .int x6_251), (7, .int x7_251), (8, .int x8_251), (9, .int x9_251), (10, .int x10_251), (11, .int x11_251), (12, .int v30), (13, .int x13_251), (14, .int x14_251), (15, .int a36), (16, .int a38), (17, .int a40)]) hx hb dL_addUp_320 hl (k := 19) rfl (by first | rfl | decide) (by decide) rfl (fun ls hl => ?_)
                    refine lv_goto (tgt := 291) hx hb dL_addUp_323 (by decide) ?_
                    exact ih291 (x18_291 + 1) (x19_291 + 1) _ _ _ h hP hD hS (lv_sub hl [2, 3, 4, 5, 6, 7, 8, 9, 10, 11, 12, 13, 14, 15, 16, 17, 18, 19, 1, 0] rfl)
            have h := hv42
            exact L291_n41 1000 0 0 _ _ _ h hP hD hS (lv_sub hl [5, 6, 7, 8, 9, 10, 11, 12, 13, 14, 15, 16, 17, 18, 19, 4, 3, 2, 1, 0] rfl)
      have h := hv34
      exact L251_n33 1000 0 0 0 0 0 0 (-1) 0 _ _ _ h hP hD hS (lv_sub hl [3, 4, 5, 6, 7, 8, 9, 10, 11, 12, 13, 14, 2, 1, 0] rfl)
    clear h
    have h := hv30
    clear hv30
    refine lv_if_gt (tgt := 238) hx hb dL_addUp_224 (by decide) (fun c15_ => ?_) (fun c15_ => ?_)
    · have h := pq_t c15_ h
      refine lv_iconst (v := 1) hx hb dL_addUp_238 (by decide) ?_
      refine lv_goto (tgt := 243) hx hb dL_addUp_239 (by decide) ?_
      obtain rfl := Option.some.inj h
      exact J243_v30 _ _ _ hP hD hS (lv_sub hl [6, 7, 8, 9, 10, 11, 5, 4, 3, 2, 1, 0] rfl)
    · have h := pq_e c15_ h
      refine lv_iload_n hx hb dL_addUp_227 rfl (lv_at hl 7 rfl) ?_
      refine lv_iload_n hx hb dL_addUp_228 rfl (lv_at hl 8 rfl) ?_
      refine lv_iadd hx hb dL_addUp_229 ?_
      refine lv_aload_n hx hb dL_addUp_230 rfl (lv_at hl 6 rfl) ?_
      refine lv_iconst (v := 0) hx hb dL_addUp_231 (by decide) ?_
      obtain ⟨r31, hr31, h⟩ := pq_b h
      obtain ⟨a32, e9_, h9_⟩ := pq_inn h
      clear h
      have h := h9_
      clear h9_
      subst e9_
      refine pw_ci (w1 := W3 cy qa P T S nw hz ak pa wt cd ln) (rest := [.int (v2.1 + v2.2.1)]) (As := [.int 0]) hF (kX3_setting l D cy qa _ P T S nw hz ak pa wt cd ln 0 a32 hr31) (cwV 1 hts (pw_gV (own := RL) (idx := 20) (C := RX3) (y := yX3_setting) aw_444 aw_445 aw_446 aw_1 aw_447) rfl rfl rfl pX3_setting ⟨Nat.le_of_ble_eq_true rfl, Nat.le_of_ble_eq_true rfl⟩) (va_recv hK hP (ci := 3) (q0 := 0) rfl rfl) hK hP hD hS hA rfl rfl hl.1 rfl (Nat.le_of_ble_eq_true rfl) dL_addUp_232 ⟨Nat.zero_le _, Nat.zero_le _⟩ (fun H locs hP hD hS => ?_)
      refine lv_icmp_ge (tgt := 242) hx hb dL_addUp_235 (by decide) (fun c16_ => ?_) (fun c16_ => ?_)
      · have h := pq_t c16_ h
        refine lv_iconst (v := 0) hx hb dL_addUp_242 (by decide) ?_
        obtain rfl := Option.some.inj h
        exact J243_v30 _ _ _ hP hD hS (lv_sub hl [6, 7, 8, 9, 10, 11, 5, 4, 3, 2, 1, 0] rfl)
      · have h := pq_e c16_ h
        refine lv_iconst (v := 1) hx hb dL_addUp_238 (by decide) ?_
        refine lv_goto (tgt := 243) hx hb dL_addUp_239 (by decide) ?_
        obtain rfl := Option.some.inj h
        exact J243_v30 _ _ _ hP hD hS (lv_sub hl [6, 7, 8, 9, 10, 11, 5, 4, 3, 2, 1, 0] rfl)
  clear h
  have L15_n1 : ∀ (n : Nat) (x1_15 : Int32) (x2_15 : Int32) (x3_15 : Int32) (x4_15 : Int32) (x5_15 : Int32) (x6_15 : Int32) (H : Heap) (locs : List Loc) (ls : Array Slot), fL_addUp_L15 P hz n x1_15 x2_15 x3_15 x4_15 x5_15 x6_15 = some v2 → va_P D vwCl (W3 cy qa P T S nw hz ak pa wt cd ln) H → va_D A (W3 cy qa P T S nw hz ak pa wt cd ln) → va_S A s.heap H locs → lv_has ls 20 [(0, .ref (qa 0 0)), (1, .int x1_15), (2, .int x2_15), (3, .int x3_15), (4, .int x4_15), (5, .int x5_15), (6, .int x6_15)] → W p l e ({ frames := 4, cells := 0, slots := 0, locals := 87 } : Room) s m args below meth c H locs 0 0 Q (F0 m 15 ls []) := by
    intro n
    induction n with
    | zero =>
      intro x1_15 x2_15 x3_15 x4_15 x5_15 x6_15 H locs ls h hP hD hS hl
      exact pq_n h
    | succ n ih15 =>
      intro x1_15 x2_15 x3_15 x4_15 x5_15 x6_15 H locs ls h hP hD hS hl
      rw [fL_addUp_L15] at h
      refine lv_iload hx hb dL_addUp_15 (lv_at hl 6 rfl) ?_
      refine lv_bipush (v := 8) hx hb dL_addUp_17 (by decide) ?_
      refine lv_icmp_ge (tgt := 205) hx hb dL_addUp_19 (by decide) (fun c1_ => ?_) (fun c1_ => ?_)
      · have h := pq_t c1_ h
        obtain rfl := Option.some.inj h
        exact X205_v2 _ _ _ hP hD hS (lv_sub hl [0, 1, 2, 3, 4, 5] rfl)
      · have h := pq_e c1_ h
        refine lv_aload_n hx hb dL_addUp_22 rfl (lv_at hl 0 rfl) ?_
        refine lv_iload hx hb dL_addUp_23 (lv_at hl 6 rfl) ?_
        refine lv_iconst (v := 0) hx hb dL_addUp_25 (by decide) ?_
        obtain ⟨r3, hr3, h⟩ := pq_b h
        obtain ⟨a4, e9_, h9_⟩ := pq_inn h
        clear h
        have h := h9_
        clear h9_
        subst e9_
        refine pw_ci (w1 := W3 cy qa P T S nw hz ak pa wt cd ln) (rest := []) (As := [.int x6_15, .int 0]) hF (kX3_place l D cy qa _ P T S nw hz ak pa wt cd ln x6_15 0 a4 hr3) (cwV 2 hts (pw_gV (own := RL) (idx := 10) (C := RX3) (y := yX3_place) aw_394 aw_395 aw_396 aw_1 aw_397) rfl rfl rfl pX3_place ⟨Nat.le_of_ble_eq_true rfl, Nat.le_of_ble_eq_true rfl⟩) (va_recv hK hP (ci := 3) (q0 := 0) rfl rfl) hK hP hD hS hA rfl rfl hl.1 rfl (Nat.le_of_ble_eq_true rfl) dL_addUp_26 ⟨Nat.zero_le _, Nat.zero_le _⟩ (fun H locs hP hD hS => ?_)
        refine lv_istore (lv' := [(7, .int a4), (0, .ref (qa 0 0)), (1, .int x1_15), (2, .int x2_15), (3, .int x3_15), (4, .int x4_15), (5, .int x5_15), (6, .int x6_15)]) hx hb dL_addUp_29 hl (by decide) rfl (fun ls hl => ?_)
        refine lv_aload_n hx hb dL_addUp_31 rfl (lv_at hl 1 rfl) ?_
        refine lv_iload hx hb dL_addUp_32 (lv_at hl 7 rfl) ?_
        refine lv_iconst (v := 1) hx hb dL_addUp_34 (by decide) ?_
        obtain ⟨r5, hr5, h⟩ := pq_b h
        obtain ⟨a6, e9_, h9_⟩ := pq_inn h
        clear h
        have h := h9_
        clear h9_
        subst e9_
        refine pw_ci (w1 := W3 cy qa P T S nw hz ak pa wt cd ln) (rest := []) (As := [.int x6_15, .int 1]) hF (kX3_place l D cy qa _ P T S nw hz ak pa wt cd ln x6_15 1 a6 hr5) (cwV 2 hts (pw_gV (own := RL) (idx := 10) (C := RX3) (y := yX3_place) aw_394 aw_395 aw_396 aw_1 aw_397) rfl rfl rfl pX3_place ⟨Nat.le_of_ble_eq_true rfl, Nat.le_of_ble_eq_true rfl⟩) (va_recv hK hP (ci := 3) (q0 := 0) rfl rfl) hK hP hD hS hA rfl rfl hl.1 rfl (Nat.le_of_ble_eq_true rfl) dL_addUp_35 ⟨Nat.zero_le _, Nat.zero_le _⟩ (fun H locs hP hD hS => ?_)
        refine lv_istore (lv' := [(8, .int a6), (7, .int a4), (0, .ref (qa 0 0)), (1, .int x1_15), (2, .int x2_15), (3, .int x3_15), (4, .int x4_15), (5, .int x5_15), (6, .int x6_15)]) hx hb dL_addUp_38 hl (by decide) rfl (fun ls hl => ?_)
        refine lv_iload hx hb dL_addUp_40 (lv_at hl 1 rfl) ?_
        obtain ⟨c2_, h⟩ := pq_g h
        refine lv_if_lt (tgt := 135) hx hb dL_addUp_42 (by decide) (fun cc_ => absurd cc_ c2_) (fun _ => ?_)
        refine lv_iload hx hb dL_addUp_45 (lv_at hl 1 rfl) ?_
        refine lv_iconst (v := 2) hx hb dL_addUp_47 (by decide) ?_
        obtain ⟨c3_, h⟩ := pq_g h
        refine lv_icmp_gt (tgt := 135) hx hb dL_addUp_48 (by decide) (fun cc_ => absurd cc_ c3_) (fun _ => ?_)
        refine lv_iload hx hb dL_addUp_51 (lv_at hl 1 rfl) ?_
        refine lv_iconst (v := 2) hx hb dL_addUp_53 (by decide) ?_
        obtain ⟨v7, hv7, h⟩ := pq_b h
        have J62_v7 : ∀ (H : Heap) (locs : List Loc) (ls : Array Slot), va_P D vwCl (W3 cy qa P T S nw hz ak pa wt cd ln) H → va_D A (W3 cy qa P T S nw hz ak pa wt cd ln) → va_S A s.heap H locs → lv_has ls 20 [(0, .ref (qa 0 0)), (1, .int x1_15), (2, .int x2_15), (3, .int x3_15), (4, .int x4_15), (5, .int x5_15), (6, .int x6_15), (7, .int a4), (8, .int a6)] → W p l e ({ frames := 4, cells := 0, slots := 0, locals := 87 } : Room) s m args below meth c H locs 0 0 Q (F0 m 62 ls [.int v7]) := by
          intro H locs ls hP hD hS hl
          refine lv_iload hx hb dL_addUp_62 (lv_at hl 8 rfl) ?_
          obtain ⟨v8, hv8, h⟩ := pq_b h
          have J72_v8 : ∀ (H : Heap) (locs : List Loc) (ls : Array Slot), va_P D vwCl (W3 cy qa P T S nw hz ak pa wt cd ln) H → va_D A (W3 cy qa P T S nw hz ak pa wt cd ln) → va_S A s.heap H locs → lv_has ls 20 [(0, .ref (qa 0 0)), (1, .int x1_15), (2, .int x2_15), (3, .int x3_15), (4, .int x4_15), (5, .int x5_15), (6, .int x6_15), (7, .int a4)] → W p l e ({ frames := 4, cells := 0, slots := 0, locals := 87 } : Room) s m args below meth c H locs 0 0 Q (F0 m 72 ls [.int v8, .int v7]) := by
            intro H locs ls hP hD hS hl
            obtain ⟨c6_, h⟩ := pq_g h
            refine lv_icmp_ne (tgt := 135) hx hb dL_addUp_72 (by decide) (fun cc_ => absurd c6_ cc_) (fun _ => ?_)
            refine lv_iload hx hb dL_addUp_75 (lv_at hl 7 rfl) ?_
            obtain ⟨v9, hv9, h⟩ := pq_b h
            have J110_v9 : ∀ (H : Heap) (locs : List Loc) (ls : Array Slot), va_P D vwCl (W3 cy qa P T S nw hz ak pa wt cd ln) H → va_D A (W3 cy qa P T S nw hz ak pa wt cd ln) → va_S A s.heap H locs → lv_has ls 20 [(0, .ref (qa 0 0)), (1, .int x1_15), (2, .int x2_15), (3, .int x3_15), (4, .int x4_15), (5, .int x5_15), (6, .int x6_15), (7, .int a4)] → W p l e ({ frames := 4, cells := 0, slots := 0, locals := 87 } : Room) s m args below meth c H locs 0 0 Q (F0 m 110 ls []) := by
              intro H locs ls hP hD hS hl
              refine lv_aload_n hx hb dL_addUp_110 rfl (lv_at hl 0 rfl) ?_
              refine lv_iload hx hb dL_addUp_111 (lv_at hl 6 rfl) ?_
              refine lv_iconst (v := 4) hx hb dL_addUp_113 (by decide) ?_
              obtain ⟨r16, hr16, h⟩ := pq_b h
              obtain ⟨a17, e9_, h9_⟩ := pq_inn h
              clear h
              have h := h9_
              clear h9_
              subst e9_
              refine pw_ci (w1 := W3 cy qa P T S nw hz ak pa wt cd ln) (rest := []) (As := [.int x6_15, .int 4]) hF (kX3_place l D cy qa _ P T S nw hz ak pa wt cd ln x6_15 4 a17 hr16) (cwV 2 hts (pw_gV (own := RL) (idx := 10) (C := RX3) (y := yX3_place) aw_394 aw_395 aw_396 aw_1 aw_397) rfl rfl rfl pX3_place ⟨Nat.le_of_ble_eq_true rfl, Nat.le_of_ble_eq_true rfl⟩) (va_recv hK hP (ci := 3) (q0 := 0) rfl rfl) hK hP hD hS hA rfl rfl hl.1 rfl (Nat.le_of_ble_eq_true rfl) dL_addUp_114 ⟨Nat.zero_le _, Nat.zero_le _⟩ (fun H locs hP hD hS => ?_)
              obtain ⟨c11_, h⟩ := pq_g h
              refine lv_if_lt (tgt := 135) hx hb dL_addUp_117 (by decide) (fun cc_ => absurd cc_ c11_) (fun _ => ?_)
              refine lv_aload_n hx hb dL_addUp_120 rfl (lv_at hl 0 rfl) ?_
              refine lv_iload hx hb dL_addUp_121 (lv_at hl 6 rfl) ?_
              refine lv_iconst (v := 4) hx hb dL_addUp_123 (by decide) ?_
              obtain ⟨r18, hr18, h⟩ := pq_b h
              obtain ⟨a19, e9_, h9_⟩ := pq_inn h
              clear h
              have h := h9_
              clear h9_
              subst e9_
              refine pw_ci (w1 := W3 cy qa P T S nw hz ak pa wt cd ln) (rest := []) (As := [.int x6_15, .int 4]) hF (kX3_place l D cy qa _ P T S nw hz ak pa wt cd ln x6_15 4 a19 hr18) (cwV 2 hts (pw_gV (own := RL) (idx := 10) (C := RX3) (y := yX3_place) aw_394 aw_395 aw_396 aw_1 aw_397) rfl rfl rfl pX3_place ⟨Nat.le_of_ble_eq_true rfl, Nat.le_of_ble_eq_true rfl⟩) (va_recv hK hP (ci := 3) (q0 := 0) rfl rfl) hK hP hD hS hA rfl rfl hl.1 rfl (Nat.le_of_ble_eq_true rfl) dL_addUp_124 ⟨Nat.zero_le _, Nat.zero_le _⟩ (fun H locs hP hD hS => ?_)
              refine lv_aload_n hx hb dL_addUp_127 rfl (lv_at hl 0 rfl) ?_
              refine lv_iconst (v := 0) hx hb dL_addUp_128 (by decide) ?_
              obtain ⟨r20, hr20, h⟩ := pq_b h
              obtain ⟨a21, e9_, h9_⟩ := pq_inn h
              clear h
              have h := h9_
              clear h9_
              subst e9_
              refine pw_ci (w1 := W3 cy qa P T S nw hz ak pa wt cd ln) (rest := [.int a19]) (As := [.int 0]) hF (kX3_count l D cy qa _ P T S nw hz ak pa wt cd ln 0 a21 hr20) (cwV 1 hts (pw_gV (own := RL) (idx := 16) (C := RX3) (y := yX3_count) aw_420 aw_421 aw_422 aw_1 aw_423) rfl rfl rfl pX3_count ⟨Nat.le_of_ble_eq_true rfl, Nat.le_of_ble_eq_true rfl⟩) (va_recv hK hP (ci := 3) (q0 := 0) rfl rfl) hK hP hD hS hA rfl rfl hl.1 rfl (Nat.le_of_ble_eq_true rfl) dL_addUp_129 ⟨Nat.zero_le _, Nat.zero_le _⟩ (fun H locs hP hD hS => ?_)
              obtain ⟨c12_, h⟩ := pq_g h
              refine lv_icmp_le (tgt := 137) hx hb dL_addUp_132 (by decide) (fun _ => ?_) (fun cc_ => absurd c12_ cc_)
              refine lv_iload_n hx hb dL_addUp_137 rfl (lv_at hl 1 rfl) ?_
              refine lv_iload hx hb dL_addUp_138 (lv_at hl 7 rfl) ?_
              refine lv_iconst (v := 1) hx hb dL_addUp_140 (by decide) ?_
              obtain ⟨v22, hv22, h⟩ := pq_b h
              have J149_v22 : ∀ (H : Heap) (locs : List Loc) (ls : Array Slot), va_P D vwCl (W3 cy qa P T S nw hz ak pa wt cd ln) H → va_D A (W3 cy qa P T S nw hz ak pa wt cd ln) → va_S A s.heap H locs → lv_has ls 20 [(0, .ref (qa 0 0)), (2, .int x2_15), (3, .int x3_15), (4, .int x4_15), (5, .int x5_15), (6, .int x6_15), (7, .int a4)] → W p l e ({ frames := 4, cells := 0, slots := 0, locals := 87 } : Room) s m args below meth c H locs 0 0 Q (F0 m 149 ls [.int v22, .int x1_15]) := by
                intro H locs ls hP hD hS hl
                refine lv_iadd hx hb dL_addUp_149 ?_
                refine lv_istore_n (lv' := [(1, .int (x1_15 + v22)), (0, .ref (qa 0 0)), (2, .int x2_15), (3, .int x3_15), (4, .int x4_15), (5, .int x5_15), (6, .int x6_15), (7, .int a4)]) hx hb dL_addUp_150 rfl hl (by decide) rfl (fun ls hl => ?_)
                refine lv_iload_n hx hb dL_addUp_151 rfl (lv_at hl 2 rfl) ?_
                refine lv_iload hx hb dL_addUp_152 (lv_at hl 7 rfl) ?_
                refine lv_iconst (v := 2) hx hb dL_addUp_154 (by decide) ?_
                obtain ⟨v23, hv23, h⟩ := pq_b h
                have J163_v23 : ∀ (H : Heap) (locs : List Loc) (ls : Array Slot), va_P D vwCl (W3 cy qa P T S nw hz ak pa wt cd ln) H → va_D A (W3 cy qa P T S nw hz ak pa wt cd ln) → va_S A s.heap H locs → lv_has ls 20 [(0, .ref (qa 0 0)), (1, .int (x1_15 + v22)), (3, .int x3_15), (4, .int x4_15), (5, .int x5_15), (6, .int x6_15)] → W p l e ({ frames := 4, cells := 0, slots := 0, locals := 87 } : Room) s m args below meth c H locs 0 0 Q (F0 m 163 ls [.int v23, .int x2_15]) := by
                  intro H locs ls hP hD hS hl
                  refine lv_iadd hx hb dL_addUp_163 ?_
                  refine lv_istore_n (lv' := [(2, .int (x2_15 + v23)), (0, .ref (qa 0 0)), (1, .int (x1_15 + v22)), (3, .int x3_15), (4, .int x4_15), (5, .int x5_15), (6, .int x6_15)]) hx hb dL_addUp_164 rfl hl (by decide) rfl (fun ls hl => ?_)
                  refine lv_iload_n hx hb dL_addUp_165 rfl (lv_at hl 3 rfl) ?_
                  refine lv_aload_n hx hb dL_addUp_166 rfl (lv_at hl 1 rfl) ?_
                  refine lv_iload hx hb dL_addUp_167 (lv_at hl 6 rfl) ?_
                  refine lv_iconst (v := 2) hx hb dL_addUp_169 (by decide) ?_
                  obtain ⟨r24, hr24, h⟩ := pq_b h
                  obtain ⟨a25, e9_, h9_⟩ := pq_inn h
                  clear h
                  have h := h9_
                  clear h9_
                  subst e9_
                  refine pw_ci (w1 := W3 cy qa P T S nw hz ak pa wt cd ln) (rest := [.int x3_15]) (As := [.int x6_15, .int 2]) hF (kX3_place l D cy qa _ P T S nw hz ak pa wt cd ln x6_15 2 a25 hr24) (cwV 2 hts (pw_gV (own := RL) (idx := 10) (C := RX3) (y := yX3_place) aw_394 aw_395 aw_396 aw_1 aw_397) rfl rfl rfl pX3_place ⟨Nat.le_of_ble_eq_true rfl, Nat.le_of_ble_eq_true rfl⟩) (va_recv hK hP (ci := 3) (q0 := 0) rfl rfl) hK hP hD hS hA rfl rfl hl.1 rfl (Nat.le_of_ble_eq_true rfl) dL_addUp_170 ⟨Nat.zero_le _, Nat.zero_le _⟩ (fun H locs hP hD hS => ?_)
                  refine lv_iadd hx hb dL_addUp_173 ?_
                  refine lv_istore_n (lv' := [(3, .int (x3_15 + a25)), (2, .int (x2_15 + v23)), (0, .ref (qa 0 0)), (1, .int (x1_15 + v22)), (4, .int x4_15), (5, .int x5_15), (6, .int x6_15)]) hx hb dL_addUp_174 rfl hl (by decide) rfl (fun ls hl => ?_)
                  refine lv_iload hx hb dL_addUp_175 (lv_at hl 4 rfl) ?_
                  refine lv_aload_n hx hb dL_addUp_177 rfl (lv_at hl 2 rfl) ?_
                  refine lv_iload hx hb dL_addUp_178 (lv_at hl 6 rfl) ?_
                  refine lv_iconst (v := 5) hx hb dL_addUp_180 (by decide) ?_
                  obtain ⟨r26, hr26, h⟩ := pq_b h
                  obtain ⟨a27, e9_, h9_⟩ := pq_inn h
                  clear h
                  have h := h9_
                  clear h9_
                  subst e9_
                  refine pw_ci (w1 := W3 cy qa P T S nw hz ak pa wt cd ln) (rest := [.int x4_15]) (As := [.int x6_15, .int 5]) hF (kX3_place l D cy qa _ P T S nw hz ak pa wt cd ln x6_15 5 a27 hr26) (cwV 2 hts (pw_gV (own := RL) (idx := 10) (C := RX3) (y := yX3_place) aw_394 aw_395 aw_396 aw_1 aw_397) rfl rfl rfl pX3_place ⟨Nat.le_of_ble_eq_true rfl, Nat.le_of_ble_eq_true rfl⟩) (va_recv hK hP (ci := 3) (q0 := 0) rfl rfl) hK hP hD hS hA rfl rfl hl.1 rfl (Nat.le_of_ble_eq_true rfl) dL_addUp_181 ⟨Nat.zero_le _, Nat.zero_le _⟩ (fun H locs hP hD hS => ?_)
                  refine lv_iadd hx hb dL_addUp_184 ?_
                  refine lv_istore (lv' := [(4, .int (x4_15 + a27)), (3, .int (x3_15 + a25)), (2, .int (x2_15 + v23)), (0, .ref (qa 0 0)), (1, .int (x1_15 + v22)), (5, .int x5_15), (6, .int x6_15)]) hx hb dL_addUp_185 hl (by decide) rfl (fun ls hl => ?_)
                  refine lv_iload hx hb dL_addUp_187 (lv_at hl 5 rfl) ?_
                  refine lv_aload_n hx hb dL_addUp_189 rfl (lv_at hl 3 rfl) ?_
                  refine lv_iload hx hb dL_addUp_190 (lv_at hl 6 rfl) ?_
                  refine lv_iconst (v := 3) hx hb dL_addUp_192 (by decide) ?_
                  obtain ⟨r28, hr28, h⟩ := pq_b h
                  obtain ⟨a29, e9_, h9_⟩ := pq_inn h
                  clear h
                  have h := h9_
                  clear h9_
                  subst e9_
                  refine pw_ci (w1 := W3 cy qa P T S nw hz ak pa wt cd ln) (rest := [.int x5_15]) (As := [.int x6_15, .int 3]) hF (kX3_place l D cy qa _ P T S nw hz ak pa wt cd ln x6_15 3 a29 hr28) (cwV 2 hts (pw_gV (own := RL) (idx := 10) (C := RX3) (y := yX3_place) aw_394 aw_395 aw_396 aw_1 aw_397) rfl rfl rfl pX3_place ⟨Nat.le_of_ble_eq_true rfl, Nat.le_of_ble_eq_true rfl⟩) (va_recv hK hP (ci := 3) (q0 := 0) rfl rfl) hK hP hD hS hA rfl rfl hl.1 rfl (Nat.le_of_ble_eq_true rfl) dL_addUp_193 ⟨Nat.zero_le _, Nat.zero_le _⟩ (fun H locs hP hD hS => ?_)
                  refine lv_iadd hx hb dL_addUp_196 ?_
                  refine lv_istore (lv' := [(5, .int (x5_15 + a29)), (4, .int (x4_15 + a27)), (3, .int (x3_15 + a25)), (2, .int (x2_15 + v23)), (0, .ref (qa 0 0)), (1, .int (x1_15 + v22)), (6, .int x6_15)]) hx hb dL_addUp_197 hl (by decide) rfl (fun ls hl => ?_)
                  refine lv_iinc (v := x6_15 + 1) (lv' := [(6, .int (x6_15 + 1)), (5, .int (x5_15 + a29)), (4, .int (x4_15 + a27)), (3, .int (x3_15 + a25)), (2, .int (x2_15 + v23)), (0, .ref (qa 0 0)), (1, .int (x1_15 + v22))]) hx hb dL_addUp_199 hl (k := 6) rfl (by first | rfl | decide) (by decide) rfl (fun ls hl => ?_)
                  refine lv_goto (tgt := 15) hx hb dL_addUp_202 (by decide) ?_
                  exact ih15 (x1_15 + v22) (x2_15 + v23) (x3_15 + a25) (x4_15 + a27) (x5_15 + a29) (x6_15 + 1) _ _ _ h hP hD hS (lv_sub hl [5, 6, 4, 3, 2, 1, 0] rfl)
                clear h
                have h := hv23
                clear hv23
                refine lv_icmp_ne (tgt := 162) hx hb dL_addUp_155 (by decide) (fun c14_ => ?_) (fun c14_ => ?_)
                · have h := pq_e c14_ h
                  refine lv_iconst (v := 0) hx hb dL_addUp_162 (by decide) ?_
                  obtain rfl := Option.some.inj h
                  exact J163_v23 _ _ _ hP hD hS (lv_sub hl [1, 0, 3, 4, 5, 6] rfl)
                · have h := pq_t c14_ h
                  refine lv_iconst (v := 1) hx hb dL_addUp_158 (by decide) ?_
                  refine lv_goto (tgt := 163) hx hb dL_addUp_159 (by decide) ?_
                  obtain rfl := Option.some.inj h
                  exact J163_v23 _ _ _ hP hD hS (lv_sub hl [1, 0, 3, 4, 5, 6] rfl)
              clear h
              have h := hv22
              clear hv22
              refine lv_icmp_ne (tgt := 148) hx hb dL_addUp_141 (by decide) (fun c13_ => ?_) (fun c13_ => ?_)
              · have h := pq_e c13_ h
                refine lv_iconst (v := 0) hx hb dL_addUp_148 (by decide) ?_
                obtain rfl := Option.some.inj h
                exact J149_v22 _ _ _ hP hD hS (lv_sub hl [0, 2, 3, 4, 5, 6, 7] rfl)
              · have h := pq_t c13_ h
                refine lv_iconst (v := 1) hx hb dL_addUp_144 (by decide) ?_
                refine lv_goto (tgt := 149) hx hb dL_addUp_145 (by decide) ?_
                obtain rfl := Option.some.inj h
                exact J149_v22 _ _ _ hP hD hS (lv_sub hl [0, 2, 3, 4, 5, 6, 7] rfl)
            clear h
            have h := hv9
            clear hv9
            refine lv_if_ne (tgt := 110) hx hb dL_addUp_77 (by decide) (fun c7_ => ?_) (fun c7_ => ?_)
            · have h := pq_e c7_ h
              obtain rfl := Option.some.inj h
              exact J110_v9 _ _ _ hP hD hS (lv_sub hl [0, 1, 2, 3, 4, 5, 6, 7] rfl)
            · have h := pq_t c7_ h
              refine lv_aload_n hx hb dL_addUp_80 rfl (lv_at hl 0 rfl) ?_
              refine lv_iload hx hb dL_addUp_81 (lv_at hl 6 rfl) ?_
              refine lv_iconst (v := 2) hx hb dL_addUp_83 (by decide) ?_
              obtain ⟨r10, hr10, h⟩ := pq_b h
              obtain ⟨a11, e9_, h9_⟩ := pq_inn h
              clear h
              have h := h9_
              clear h9_
              subst e9_
              refine pw_ci (w1 := W3 cy qa P T S nw hz ak pa wt cd ln) (rest := []) (As := [.int x6_15, .int 2]) hF (kX3_place l D cy qa _ P T S nw hz ak pa wt cd ln x6_15 2 a11 hr10) (cwV 2 hts (pw_gV (own := RL) (idx := 10) (C := RX3) (y := yX3_place) aw_394 aw_395 aw_396 aw_1 aw_397) rfl rfl rfl pX3_place ⟨Nat.le_of_ble_eq_true rfl, Nat.le_of_ble_eq_true rfl⟩) (va_recv hK hP (ci := 3) (q0 := 0) rfl rfl) hK hP hD hS hA rfl rfl hl.1 rfl (Nat.le_of_ble_eq_true rfl) dL_addUp_84 ⟨Nat.zero_le _, Nat.zero_le _⟩ (fun H locs hP hD hS => ?_)
              obtain ⟨c8_, h⟩ := pq_g h
              refine lv_if_ne (tgt := 135) hx hb dL_addUp_87 (by decide) (fun cc_ => absurd c8_ cc_) (fun _ => ?_)
              refine lv_aload_n hx hb dL_addUp_90 rfl (lv_at hl 0 rfl) ?_
              refine lv_iload hx hb dL_addUp_91 (lv_at hl 6 rfl) ?_
              refine lv_iconst (v := 3) hx hb dL_addUp_93 (by decide) ?_
              obtain ⟨r12, hr12, h⟩ := pq_b h
              obtain ⟨a13, e9_, h9_⟩ := pq_inn h
              clear h
              have h := h9_
              clear h9_
              subst e9_
              refine pw_ci (w1 := W3 cy qa P T S nw hz ak pa wt cd ln) (rest := []) (As := [.int x6_15, .int 3]) hF (kX3_place l D cy qa _ P T S nw hz ak pa wt cd ln x6_15 3 a13 hr12) (cwV 2 hts (pw_gV (own := RL) (idx := 10) (C := RX3) (y := yX3_place) aw_394 aw_395 aw_396 aw_1 aw_397) rfl rfl rfl pX3_place ⟨Nat.le_of_ble_eq_true rfl, Nat.le_of_ble_eq_true rfl⟩) (va_recv hK hP (ci := 3) (q0 := 0) rfl rfl) hK hP hD hS hA rfl rfl hl.1 rfl (Nat.le_of_ble_eq_true rfl) dL_addUp_94 ⟨Nat.zero_le _, Nat.zero_le _⟩ (fun H locs hP hD hS => ?_)
              obtain ⟨c9_, h⟩ := pq_g h
              refine lv_if_ne (tgt := 135) hx hb dL_addUp_97 (by decide) (fun cc_ => absurd c9_ cc_) (fun _ => ?_)
              refine lv_aload_n hx hb dL_addUp_100 rfl (lv_at hl 0 rfl) ?_
              refine lv_iload hx hb dL_addUp_101 (lv_at hl 6 rfl) ?_
              refine lv_iconst (v := 4) hx hb dL_addUp_103 (by decide) ?_
              obtain ⟨r14, hr14, h⟩ := pq_b h
              obtain ⟨a15, e9_, h9_⟩ := pq_inn h
              clear h
              have h := h9_
              clear h9_
              subst e9_
              refine pw_ci (w1 := W3 cy qa P T S nw hz ak pa wt cd ln) (rest := []) (As := [.int x6_15, .int 4]) hF (kX3_place l D cy qa _ P T S nw hz ak pa wt cd ln x6_15 4 a15 hr14) (cwV 2 hts (pw_gV (own := RL) (idx := 10) (C := RX3) (y := yX3_place) aw_394 aw_395 aw_396 aw_1 aw_397) rfl rfl rfl pX3_place ⟨Nat.le_of_ble_eq_true rfl, Nat.le_of_ble_eq_true rfl⟩) (va_recv hK hP (ci := 3) (q0 := 0) rfl rfl) hK hP hD hS hA rfl rfl hl.1 rfl (Nat.le_of_ble_eq_true rfl) dL_addUp_104 ⟨Nat.zero_le _, Nat.zero_le _⟩ (fun H locs hP hD hS => ?_)
              obtain ⟨c10_, h⟩ := pq_g h
              refine lv_if_ne (tgt := 135) hx hb dL_addUp_107 (by decide) (fun cc_ => absurd c10_ cc_) (fun _ => ?_)
              obtain rfl := Option.some.inj h
              exact J110_v9 _ _ _ hP hD hS (lv_sub hl [0, 1, 2, 3, 4, 5, 6, 7] rfl)
          clear h
          have h := hv8
          clear hv8
          refine lv_if_lt (tgt := 71) hx hb dL_addUp_64 (by decide) (fun c5_ => ?_) (fun c5_ => ?_)
          · have h := pq_t c5_ h
            refine lv_iconst (v := 0) hx hb dL_addUp_71 (by decide) ?_
            obtain rfl := Option.some.inj h
            exact J72_v8 _ _ _ hP hD hS (lv_sub hl [0, 1, 2, 3, 4, 5, 6, 7] rfl)
          · have h := pq_e c5_ h
            refine lv_iconst (v := 1) hx hb dL_addUp_67 (by decide) ?_
            refine lv_goto (tgt := 72) hx hb dL_addUp_68 (by decide) ?_
            obtain rfl := Option.some.inj h
            exact J72_v8 _ _ _ hP hD hS (lv_sub hl [0, 1, 2, 3, 4, 5, 6, 7] rfl)
        clear h
        have h := hv7
        clear hv7
        refine lv_icmp_ne (tgt := 61) hx hb dL_addUp_54 (by decide) (fun c4_ => ?_) (fun c4_ => ?_)
        · have h := pq_e c4_ h
          refine lv_iconst (v := 0) hx hb dL_addUp_61 (by decide) ?_
          obtain rfl := Option.some.inj h
          exact J62_v7 _ _ _ hP hD hS (lv_sub hl [2, 3, 4, 5, 6, 7, 8, 1, 0] rfl)
        · have h := pq_t c4_ h
          refine lv_iconst (v := 1) hx hb dL_addUp_57 (by decide) ?_
          refine lv_goto (tgt := 62) hx hb dL_addUp_58 (by decide) ?_
          obtain rfl := Option.some.inj h
          exact J62_v7 _ _ _ hP hD hS (lv_sub hl [2, 3, 4, 5, 6, 7, 8, 1, 0] rfl)
  have h := hv2
  exact L15_n1 1000 0 0 0 0 0 0 _ _ _ h hP hD hS (lv_sub hl [6, 5, 4, 3, 2, 1, 0] rfl)

def aL_ask : List Cond := Cond.code yL_ask cL_ask 10 (some .boolean) :: pw_all
theorem pL_ask : yL_ask.cls = RL ∧ yL_ask.cls ≠ "java/lang/invoke/MethodHandle" ∧ yL_ask.cls ≠ "java/lang/invoke/VarHandle" ∧ (parseMethodDescriptor yL_ask.desc).map (fun d => d.parameters.length) = some 2 := by decide +kernel
set_option maxHeartbeats 8000000 in
set_option maxRecDepth 100000 in
theorem kL_ask (l : Launch) (D : va_G) (cy : Nat → ClassId) (qa : Nat → Nat → Nat) (sz : Nat) (P : Nat → Nat → Int32) (T : Nat → Nat → Int32) (S : Nat → Nat → Nat → Int32) (nw : Int32) (hz : Int32) (ak : Nat → Int32) (pa : Nat → Int32) (wt : Nat → Int32) (cd : Nat → Int32) (ln : Int32) (x1 : Int32) (o : Int32 × (Nat → Nat → Int32) × (Nat → Nat → Int32) × (Nat → Nat → Nat → Int32) × Int32 × Int32 × (Nat → Int32)) (h : fL_ask x1 P T S nw hz ak = some o) : Met l yL_ask aL_ask ({ frames := 7, cells := 0, slots := 0, locals := 157 }) (pw_Pre D cy [.ref (qa 0 0), .int x1] (W3 cy qa P T S nw hz ak pa wt cd ln) sz) (pw_I D o.1 (W3 cy qa P T S nw hz ak pa wt cd ln) (W3 cy qa o.2.1 o.2.2.1 o.2.2.2.1 o.2.2.2.2.1 o.2.2.2.2.2.1 o.2.2.2.2.2.2 pa wt cd ln) sz) 0 0 (va_A (W3 cy qa P T S nw hz ak pa wt cd ln) sz) := by
  refine pw_met (cc := cL_ask) (maxL := 10) (ret := (some .boolean)) (by decide) rfl (Nat.le_of_ble_eq_true rfl) ?_
  intro p e s m args below meth c ls A hx hb hr hml hlk hts hown hAe hA hK hP hD hS hl
  have hl : lv_has ls 10 [(0, .ref (qa 0 0)), (1, .int x1)] := hl
  generalize hQ : MQ below (pw_I D o.1 (W3 cy qa P T S nw hz ak pa wt cd ln) (W3 cy qa o.2.1 o.2.2.1 o.2.2.2.1 o.2.2.2.2.1 o.2.2.2.2.2.1 o.2.2.2.2.2.2 pa wt cd ln) sz) args s 0 0 (va_A (W3 cy qa P T S nw hz ak pa wt cd ln) sz) = Q
  have hF : CallFix p m c cL_ask 10 s args aL_ask RL := ⟨hx, hb, hml, hown, hts⟩
  have hta : ∀ w ∈ pw_all, w.before args s = true := fun w h => hts w (List.mem_cons_of_mem _ h)
  have hin3 : ∀ w ∈ wsX30, w ∈ aL_ask := fun w h => List.mem_cons_of_mem _ (inA3 w h)
  have hin2 : ∀ w ∈ wsX20, w ∈ aL_ask := fun w h => List.mem_cons_of_mem _ (inA2 w h)
  have hin1 : ∀ w ∈ wsX10, w ∈ aL_ask := fun w h => List.mem_cons_of_mem _ (inA1 w h)
  have hin0 : ∀ w ∈ wsX00, w ∈ aL_ask := fun w h => List.mem_cons_of_mem _ (inA0 w h)
  unfold fL_ask at h
  refine lv_aload_n hx hb dL_ask_0 rfl (lv_at hl 0 rfl) ?_
  refine lv_iload_n hx hb dL_ask_1 rfl (lv_at hl 1 rfl) ?_
  refine lv_iconst (v := 0) hx hb dL_ask_2 (by decide) ?_
  obtain ⟨r1, hr1, h⟩ := pq_b h
  obtain ⟨a2, e9_, h9_⟩ := pq_inn h
  clear h
  have h := h9_
  clear h9_
  subst e9_
  refine pw_ci (w1 := W3 cy qa P a2.2.1 S nw hz a2.2.2 pa wt cd ln) (rest := []) (As := [.int x1, .int 0]) hF (kX3_ifAsked l D cy qa _ P T S nw hz ak pa wt cd ln x1 0 a2 hr1) (cwV 2 hts (pw_gV (own := RL) (idx := 34) (C := RX3) (y := yX3_ifAsked) aw_462 aw_463 aw_464 aw_1 aw_465) rfl rfl rfl pX3_ifAsked ⟨Nat.le_of_ble_eq_true rfl, Nat.le_of_ble_eq_true rfl⟩) (va_recv hK hP (ci := 3) (q0 := 0) rfl rfl) hK hP hD hS hA rfl rfl hl.1 rfl (Nat.le_of_ble_eq_true rfl) dL_ask_3 ⟨Nat.zero_le _, Nat.zero_le _⟩ (fun H locs hP hD hS => ?_)
  refine lv_istore_n (lv' := [(2, .int a2.1), (0, .ref (qa 0 0)), (1, .int x1)]) hx hb dL_ask_6 rfl hl (by decide) rfl (fun ls hl => ?_)
  refine lv_aload_n hx hb dL_ask_7 rfl (lv_at hl 1 rfl) ?_
  refine lv_bipush (v := 6) hx hb dL_ask_8 (by decide) ?_
  obtain ⟨r3, hr3, h⟩ := pq_b h
  obtain ⟨a4, e9_, h9_⟩ := pq_inn h
  clear h
  have h := h9_
  clear h9_
  subst e9_
  refine pw_ci (w1 := W3 cy qa P a2.2.1 S nw hz a2.2.2 pa wt cd ln) (rest := []) (As := [.int 6]) hF (kX3_count l D cy qa _ P a2.2.1 S nw hz a2.2.2 pa wt cd ln 6 a4 hr3) (cwV 1 hts (pw_gV (own := RL) (idx := 16) (C := RX3) (y := yX3_count) aw_420 aw_421 aw_422 aw_1 aw_423) rfl rfl rfl pX3_count ⟨Nat.le_of_ble_eq_true rfl, Nat.le_of_ble_eq_true rfl⟩) (va_recv hK hP (ci := 3) (q0 := 0) rfl rfl) hK hP hD hS hA rfl rfl hl.1 rfl (Nat.le_of_ble_eq_true rfl) dL_ask_10 ⟨Nat.zero_le _, Nat.zero_le _⟩ (fun H locs hP hD hS => ?_)
  refine lv_istore_n (lv' := [(3, .int a4), (2, .int a2.1), (0, .ref (qa 0 0)), (1, .int x1)]) hx hb dL_ask_13 rfl hl (by decide) rfl (fun ls hl => ?_)
  refine lv_aload_n hx hb dL_ask_14 rfl (lv_at hl 2 rfl) ?_
  refine lv_iload_n hx hb dL_ask_15 rfl (lv_at hl 3 rfl) ?_
  refine lv_iconst (v := 1) hx hb dL_ask_16 (by decide) ?_
  obtain ⟨r5, hr5, h⟩ := pq_b h
  obtain ⟨a6, e9_, h9_⟩ := pq_inn h
  clear h
  have h := h9_
  clear h9_
  subst e9_
  refine pw_ci (w1 := W3 cy qa P a6.2.1 S nw hz a6.2.2 pa wt cd ln) (rest := []) (As := [.int x1, .int 1]) hF (kX3_ifAsked l D cy qa _ P a2.2.1 S nw hz a2.2.2 pa wt cd ln x1 1 a6 hr5) (cwV 2 hts (pw_gV (own := RL) (idx := 34) (C := RX3) (y := yX3_ifAsked) aw_462 aw_463 aw_464 aw_1 aw_465) rfl rfl rfl pX3_ifAsked ⟨Nat.le_of_ble_eq_true rfl, Nat.le_of_ble_eq_true rfl⟩) (va_recv hK hP (ci := 3) (q0 := 0) rfl rfl) hK hP hD hS hA rfl rfl hl.1 rfl (Nat.le_of_ble_eq_true rfl) dL_ask_17 ⟨Nat.zero_le _, Nat.zero_le _⟩ (fun H locs hP hD hS => ?_)
  refine lv_istore (lv' := [(4, .int a6.1), (3, .int a4), (2, .int a2.1), (0, .ref (qa 0 0)), (1, .int x1)]) hx hb dL_ask_20 hl (by decide) rfl (fun ls hl => ?_)
  refine lv_aload_n hx hb dL_ask_22 rfl (lv_at hl 3 rfl) ?_
  refine lv_bipush (v := 7) hx hb dL_ask_23 (by decide) ?_
  obtain ⟨r7, hr7, h⟩ := pq_b h
  obtain ⟨a8, e9_, h9_⟩ := pq_inn h
  clear h
  have h := h9_
  clear h9_
  subst e9_
  refine pw_ci (w1 := W3 cy qa P a6.2.1 S nw hz a6.2.2 pa wt cd ln) (rest := []) (As := [.int 7]) hF (kX3_count l D cy qa _ P a6.2.1 S nw hz a6.2.2 pa wt cd ln 7 a8 hr7) (cwV 1 hts (pw_gV (own := RL) (idx := 16) (C := RX3) (y := yX3_count) aw_420 aw_421 aw_422 aw_1 aw_423) rfl rfl rfl pX3_count ⟨Nat.le_of_ble_eq_true rfl, Nat.le_of_ble_eq_true rfl⟩) (va_recv hK hP (ci := 3) (q0 := 0) rfl rfl) hK hP hD hS hA rfl rfl hl.1 rfl (Nat.le_of_ble_eq_true rfl) dL_ask_25 ⟨Nat.zero_le _, Nat.zero_le _⟩ (fun H locs hP hD hS => ?_)
  refine lv_aload_n hx hb dL_ask_28 rfl (lv_at hl 3 rfl) ?_
  refine lv_iload_n hx hb dL_ask_29 rfl (lv_at hl 4 rfl) ?_
  refine lv_iconst (v := 2) hx hb dL_ask_30 (by decide) ?_
  obtain ⟨r9, hr9, h⟩ := pq_b h
  obtain ⟨a10, e9_, h9_⟩ := pq_inn h
  clear h
  have h := h9_
  clear h9_
  subst e9_
  refine pw_ci (w1 := W3 cy qa P a10.2.1 S nw hz a10.2.2 pa wt cd ln) (rest := [.int a8]) (As := [.int x1, .int 2]) hF (kX3_ifAsked l D cy qa _ P a6.2.1 S nw hz a6.2.2 pa wt cd ln x1 2 a10 hr9) (cwV 2 hts (pw_gV (own := RL) (idx := 34) (C := RX3) (y := yX3_ifAsked) aw_462 aw_463 aw_464 aw_1 aw_465) rfl rfl rfl pX3_ifAsked ⟨Nat.le_of_ble_eq_true rfl, Nat.le_of_ble_eq_true rfl⟩) (va_recv hK hP (ci := 3) (q0 := 0) rfl rfl) hK hP hD hS hA rfl rfl hl.1 rfl (Nat.le_of_ble_eq_true rfl) dL_ask_31 ⟨Nat.zero_le _, Nat.zero_le _⟩ (fun H locs hP hD hS => ?_)
  refine lv_iadd hx hb dL_ask_34 ?_
  refine lv_istore (lv' := [(5, .int (a8 + a10.1)), (4, .int a6.1), (3, .int a4), (2, .int a2.1), (0, .ref (qa 0 0)), (1, .int x1)]) hx hb dL_ask_35 hl (by decide) rfl (fun ls hl => ?_)
  refine lv_aload_n hx hb dL_ask_37 rfl (lv_at hl 4 rfl) ?_
  refine lv_iload_n hx hb dL_ask_38 rfl (lv_at hl 5 rfl) ?_
  refine lv_iconst (v := 4) hx hb dL_ask_39 (by decide) ?_
  obtain ⟨r11, hr11, h⟩ := pq_b h
  obtain ⟨a12, e9_, h9_⟩ := pq_inn h
  clear h
  have h := h9_
  clear h9_
  subst e9_
  refine pw_ci (w1 := W3 cy qa P a10.2.1 S nw hz a10.2.2 pa wt cd ln) (rest := []) (As := [.int x1, .int 4]) hF (kX3_owner l D cy qa _ P a10.2.1 S nw hz a10.2.2 pa wt cd ln x1 4 a12 hr11) (cwV 2 hts (pw_gV (own := RL) (idx := 23) (C := RX3) (y := yX3_owner) aw_410 aw_411 aw_412 aw_1 aw_413) rfl rfl rfl pX3_owner ⟨Nat.le_of_ble_eq_true rfl, Nat.le_of_ble_eq_true rfl⟩) (va_recv hK hP (ci := 3) (q0 := 0) rfl rfl) hK hP hD hS hA rfl rfl hl.1 rfl (Nat.le_of_ble_eq_true rfl) dL_ask_40 ⟨Nat.zero_le _, Nat.zero_le _⟩ (fun H locs hP hD hS => ?_)
  refine lv_istore (lv' := [(6, .int a12), (5, .int (a8 + a10.1)), (4, .int a6.1), (3, .int a4), (2, .int a2.1), (0, .ref (qa 0 0)), (1, .int x1)]) hx hb dL_ask_43 hl (by decide) rfl (fun ls hl => ?_)
  refine lv_aload_n hx hb dL_ask_45 rfl (lv_at hl 5 rfl) ?_
  refine lv_iload_n hx hb dL_ask_46 rfl (lv_at hl 6 rfl) ?_
  refine lv_iconst (v := 1) hx hb dL_ask_47 (by decide) ?_
  obtain ⟨r13, hr13, h⟩ := pq_b h
  obtain ⟨a14, e9_, h9_⟩ := pq_inn h
  clear h
  have h := h9_
  clear h9_
  subst e9_
  refine pw_ci (w1 := W3 cy qa P a10.2.1 S nw hz a10.2.2 pa wt cd ln) (rest := []) (As := [.int x1, .int 1]) hF (kX3_owner l D cy qa _ P a10.2.1 S nw hz a10.2.2 pa wt cd ln x1 1 a14 hr13) (cwV 2 hts (pw_gV (own := RL) (idx := 23) (C := RX3) (y := yX3_owner) aw_410 aw_411 aw_412 aw_1 aw_413) rfl rfl rfl pX3_owner ⟨Nat.le_of_ble_eq_true rfl, Nat.le_of_ble_eq_true rfl⟩) (va_recv hK hP (ci := 3) (q0 := 0) rfl rfl) hK hP hD hS hA rfl rfl hl.1 rfl (Nat.le_of_ble_eq_true rfl) dL_ask_48 ⟨Nat.zero_le _, Nat.zero_le _⟩ (fun H locs hP hD hS => ?_)
  refine lv_istore (lv' := [(7, .int a14), (6, .int a12), (5, .int (a8 + a10.1)), (4, .int a6.1), (3, .int a4), (2, .int a2.1), (0, .ref (qa 0 0)), (1, .int x1)]) hx hb dL_ask_51 hl (by decide) rfl (fun ls hl => ?_)
  refine lv_aload_n hx hb dL_ask_53 rfl (lv_at hl 6 rfl) ?_
  refine lv_iload_n hx hb dL_ask_54 rfl (lv_at hl 7 rfl) ?_
  refine lv_iconst (v := 0) hx hb dL_ask_55 (by decide) ?_
  obtain ⟨r15, hr15, h⟩ := pq_b h
  obtain ⟨a16, e9_, h9_⟩ := pq_inn h
  clear h
  have h := h9_
  clear h9_
  subst e9_
  refine pw_ci (w1 := W3 cy qa P a10.2.1 S nw hz a10.2.2 pa wt cd ln) (rest := []) (As := [.int x1, .int 0]) hF (kX3_owner l D cy qa _ P a10.2.1 S nw hz a10.2.2 pa wt cd ln x1 0 a16 hr15) (cwV 2 hts (pw_gV (own := RL) (idx := 23) (C := RX3) (y := yX3_owner) aw_410 aw_411 aw_412 aw_1 aw_413) rfl rfl rfl pX3_owner ⟨Nat.le_of_ble_eq_true rfl, Nat.le_of_ble_eq_true rfl⟩) (va_recv hK hP (ci := 3) (q0 := 0) rfl rfl) hK hP hD hS hA rfl rfl hl.1 rfl (Nat.le_of_ble_eq_true rfl) dL_ask_56 ⟨Nat.zero_le _, Nat.zero_le _⟩ (fun H locs hP hD hS => ?_)
  refine lv_if_eq (tgt := 71) hx hb dL_ask_59 (by decide) (fun c1_ => ?_) (fun c1_ => ?_)
  · have h := pq_t c1_ h
    refine lv_iload_n hx hb dL_ask_71 rfl (lv_at hl 5 rfl) ?_
    refine lv_iconst (v := (-1)) hx hb dL_ask_72 (by decide) ?_
    obtain ⟨c2_, h⟩ := pq_g h
    refine lv_icmp_ne (tgt := 96) hx hb dL_ask_73 (by decide) (fun cc_ => absurd c2_ cc_) (fun _ => ?_)
    refine lv_iload hx hb dL_ask_76 (lv_at hl 3 rfl) ?_
    obtain ⟨c3_, h⟩ := pq_g h
    refine lv_if_ne (tgt := 96) hx hb dL_ask_78 (by decide) (fun cc_ => absurd c3_ cc_) (fun _ => ?_)
    refine lv_iload hx hb dL_ask_81 (lv_at hl 2 rfl) ?_
    refine lv_aload_n hx hb dL_ask_83 rfl (lv_at hl 6 rfl) ?_
    refine lv_bipush (v := 7) hx hb dL_ask_84 (by decide) ?_
    obtain ⟨r17, hr17, h⟩ := pq_b h
    obtain ⟨a18, e9_, h9_⟩ := pq_inn h
    clear h
    have h := h9_
    clear h9_
    subst e9_
    refine pw_ci (w1 := W3 cy qa P a10.2.1 S nw hz a10.2.2 pa wt cd ln) (rest := [.int (a8 + a10.1)]) (As := [.int 7]) hF (kX3_count l D cy qa _ P a10.2.1 S nw hz a10.2.2 pa wt cd ln 7 a18 hr17) (cwV 1 hts (pw_gV (own := RL) (idx := 16) (C := RX3) (y := yX3_count) aw_420 aw_421 aw_422 aw_1 aw_423) rfl rfl rfl pX3_count ⟨Nat.le_of_ble_eq_true rfl, Nat.le_of_ble_eq_true rfl⟩) (va_recv hK hP (ci := 3) (q0 := 0) rfl rfl) hK hP hD hS hA rfl rfl hl.1 rfl (Nat.le_of_ble_eq_true rfl) dL_ask_86 ⟨Nat.zero_le _, Nat.zero_le _⟩ (fun H locs hP hD hS => ?_)
    obtain ⟨c4_, h⟩ := pq_g h
    refine lv_icmp_ne (tgt := 96) hx hb dL_ask_89 (by decide) (fun cc_ => absurd c4_ cc_) (fun _ => ?_)
    refine lv_iconst (v := 1) hx hb dL_ask_92 (by decide) ?_
    refine lv_goto (tgt := 97) hx hb dL_ask_93 (by decide) ?_
    obtain rfl := Option.some.inj h
    subst hQ
    exact pw_rz hx hb hr rfl hlk hAe hP hS rfl dL_ask_97
  · have h := pq_e c1_ h
    refine lv_aload_n hx hb dL_ask_62 rfl (lv_at hl 6 rfl) ?_
    refine lv_iload_n hx hb dL_ask_63 rfl (lv_at hl 7 rfl) ?_
    refine lv_iconst (v := 2) hx hb dL_ask_64 (by decide) ?_
    obtain ⟨r19, hr19, h⟩ := pq_b h
    obtain ⟨a20, e9_, h9_⟩ := pq_inn h
    clear h
    have h := h9_
    clear h9_
    subst e9_
    refine pw_ci (w1 := W3 cy qa P a10.2.1 S nw hz a10.2.2 pa wt cd ln) (rest := []) (As := [.int x1, .int 2]) hF (kX3_owner l D cy qa _ P a10.2.1 S nw hz a10.2.2 pa wt cd ln x1 2 a20 hr19) (cwV 2 hts (pw_gV (own := RL) (idx := 23) (C := RX3) (y := yX3_owner) aw_410 aw_411 aw_412 aw_1 aw_413) rfl rfl rfl pX3_owner ⟨Nat.le_of_ble_eq_true rfl, Nat.le_of_ble_eq_true rfl⟩) (va_recv hK hP (ci := 3) (q0 := 0) rfl rfl) hK hP hD hS hA rfl rfl hl.1 rfl (Nat.le_of_ble_eq_true rfl) dL_ask_65 ⟨Nat.zero_le _, Nat.zero_le _⟩ (fun H locs hP hD hS => ?_)
    refine lv_if_lt (tgt := 98) hx hb dL_ask_68 (by decide) (fun c5_ => ?_) (fun c5_ => ?_)
    · have h := pq_t c5_ h
      refine lv_iload hx hb dL_ask_98 (lv_at hl 0 rfl) ?_
      refine lv_aload_n hx hb dL_ask_100 rfl (lv_at hl 6 rfl) ?_
      refine lv_iconst (v := 1) hx hb dL_ask_101 (by decide) ?_
      obtain ⟨r21, hr21, h⟩ := pq_b h
      obtain ⟨a22, e9_, h9_⟩ := pq_inn h
      clear h
      have h := h9_
      clear h9_
      subst e9_
      refine pw_ci (w1 := W3 cy qa P a10.2.1 S nw hz a10.2.2 pa wt cd ln) (rest := [.int a14]) (As := [.int 1]) hF (kX3_setting l D cy qa _ P a10.2.1 S nw hz a10.2.2 pa wt cd ln 1 a22 hr21) (cwV 1 hts (pw_gV (own := RL) (idx := 20) (C := RX3) (y := yX3_setting) aw_444 aw_445 aw_446 aw_1 aw_447) rfl rfl rfl pX3_setting ⟨Nat.le_of_ble_eq_true rfl, Nat.le_of_ble_eq_true rfl⟩) (va_recv hK hP (ci := 3) (q0 := 0) rfl rfl) hK hP hD hS hA rfl rfl hl.1 rfl (Nat.le_of_ble_eq_true rfl) dL_ask_102 ⟨Nat.zero_le _, Nat.zero_le _⟩ (fun H locs hP hD hS => ?_)
      obtain ⟨v23, hv23, h⟩ := pq_b h
      have J113_v23 : ∀ (H : Heap) (locs : List Loc) (ls : Array Slot), va_P D vwCl (W3 cy qa P a10.2.1 S nw hz a10.2.2 pa wt cd ln) H → va_D A (W3 cy qa P a10.2.1 S nw hz a10.2.2 pa wt cd ln) → va_S A s.heap H locs → lv_has ls 10 [(0, .ref (qa 0 0)), (1, .int x1), (2, .int a2.1), (3, .int a4), (4, .int a6.1), (5, .int (a8 + a10.1)), (6, .int a12), (7, .int a14)] → W p l e ({ frames := 7, cells := 0, slots := 0, locals := 157 } : Room) s m args below meth c H locs 0 0 Q (F0 m 113 ls [.int v23]) := by
        intro H locs ls hP hD hS hl
        refine lv_istore (lv' := [(8, .int v23), (0, .ref (qa 0 0)), (1, .int x1), (2, .int a2.1), (3, .int a4), (4, .int a6.1), (5, .int (a8 + a10.1)), (6, .int a12), (7, .int a14)]) hx hb dL_ask_113 hl (by decide) rfl (fun ls hl => ?_)
        refine lv_aload_n hx hb dL_ask_115 rfl (lv_at hl 1 rfl) ?_
        refine lv_iload_n hx hb dL_ask_116 rfl (lv_at hl 2 rfl) ?_
        obtain ⟨r24, hr24, h⟩ := pq_b h
        obtain ⟨a25, e9_, h9_⟩ := pq_inn h
        clear h
        have h := h9_
        clear h9_
        subst e9_
        refine pw_ci (w1 := W3 cy qa a25.2.1 a10.2.1 a25.2.2.1 a25.2.2.2.1 a25.2.2.2.2 a10.2.2 pa wt cd ln) (rest := []) (As := [.int x1]) hF (kX3_ask l D cy qa _ P a10.2.1 S nw hz a10.2.2 pa wt cd ln x1 a25 hr24) (cwV 1 hts (pw_gV (own := RL) (idx := 37) (C := RX3) (y := yX3_ask) aw_479 aw_480 aw_481 aw_1 aw_482) rfl rfl rfl pX3_ask ⟨Nat.le_of_ble_eq_true rfl, Nat.le_of_ble_eq_true rfl⟩) (va_recv hK hP (ci := 3) (q0 := 0) rfl rfl) hK hP hD hS hA rfl rfl hl.1 rfl (Nat.le_of_ble_eq_true rfl) dL_ask_117 ⟨Nat.zero_le _, Nat.zero_le _⟩ (fun H locs hP hD hS => ?_)
        refine lv_iload_n hx hb dL_ask_120 rfl (lv_at hl 3 rfl) ?_
        obtain ⟨c7_, h⟩ := pq_g h
        refine lv_icmp_ne (tgt := 161) hx hb dL_ask_121 (by decide) (fun cc_ => absurd c7_ cc_) (fun _ => ?_)
        refine lv_aload_n hx hb dL_ask_124 rfl (lv_at hl 1 rfl) ?_
        refine lv_bipush (v := 7) hx hb dL_ask_125 (by decide) ?_
        obtain ⟨r26, hr26, h⟩ := pq_b h
        obtain ⟨a27, e9_, h9_⟩ := pq_inn h
        clear h
        have h := h9_
        clear h9_
        subst e9_
        refine pw_ci (w1 := W3 cy qa a25.2.1 a10.2.1 a25.2.2.1 a25.2.2.2.1 a25.2.2.2.2 a10.2.2 pa wt cd ln) (rest := []) (As := [.int 7]) hF (kX3_count l D cy qa _ a25.2.1 a10.2.1 a25.2.2.1 a25.2.2.2.1 a25.2.2.2.2 a10.2.2 pa wt cd ln 7 a27 hr26) (cwV 1 hts (pw_gV (own := RL) (idx := 16) (C := RX3) (y := yX3_count) aw_420 aw_421 aw_422 aw_1 aw_423) rfl rfl rfl pX3_count ⟨Nat.le_of_ble_eq_true rfl, Nat.le_of_ble_eq_true rfl⟩) (va_recv hK hP (ci := 3) (q0 := 0) rfl rfl) hK hP hD hS hA rfl rfl hl.1 rfl (Nat.le_of_ble_eq_true rfl) dL_ask_127 ⟨Nat.zero_le _, Nat.zero_le _⟩ (fun H locs hP hD hS => ?_)
        refine lv_iload hx hb dL_ask_130 (lv_at hl 6 rfl) ?_
        obtain ⟨c8_, h⟩ := pq_g h
        refine lv_icmp_ne (tgt := 161) hx hb dL_ask_132 (by decide) (fun cc_ => absurd c8_ cc_) (fun _ => ?_)
        refine lv_aload_n hx hb dL_ask_135 rfl (lv_at hl 1 rfl) ?_
        refine lv_bipush (v := 6) hx hb dL_ask_136 (by decide) ?_
        obtain ⟨r28, hr28, h⟩ := pq_b h
        obtain ⟨a29, e9_, h9_⟩ := pq_inn h
        clear h
        have h := h9_
        clear h9_
        subst e9_
        refine pw_ci (w1 := W3 cy qa a25.2.1 a10.2.1 a25.2.2.1 a25.2.2.2.1 a25.2.2.2.2 a10.2.2 pa wt cd ln) (rest := []) (As := [.int 6]) hF (kX3_count l D cy qa _ a25.2.1 a10.2.1 a25.2.2.1 a25.2.2.2.1 a25.2.2.2.2 a10.2.2 pa wt cd ln 6 a29 hr28) (cwV 1 hts (pw_gV (own := RL) (idx := 16) (C := RX3) (y := yX3_count) aw_420 aw_421 aw_422 aw_1 aw_423) rfl rfl rfl pX3_count ⟨Nat.le_of_ble_eq_true rfl, Nat.le_of_ble_eq_true rfl⟩) (va_recv hK hP (ci := 3) (q0 := 0) rfl rfl) hK hP hD hS hA rfl rfl hl.1 rfl (Nat.le_of_ble_eq_true rfl) dL_ask_138 ⟨Nat.zero_le _, Nat.zero_le _⟩ (fun H locs hP hD hS => ?_)
        refine lv_iload_n hx hb dL_ask_141 rfl (lv_at hl 4 rfl) ?_
        refine lv_iload hx hb dL_ask_142 (lv_at hl 5 rfl) ?_
        refine lv_iadd hx hb dL_ask_144 ?_
        obtain ⟨c9_, h⟩ := pq_g h
        refine lv_icmp_lt (tgt := 161) hx hb dL_ask_145 (by decide) (fun cc_ => absurd cc_ c9_) (fun _ => ?_)
        refine lv_iload_n hx hb dL_ask_148 rfl (lv_at hl 3 rfl) ?_
        obtain ⟨v30, hv30, h⟩ := pq_b h
        have J157_v30 : ∀ (H : Heap) (locs : List Loc) (ls : Array Slot), va_P D vwCl (W3 cy qa a25.2.1 a10.2.1 a25.2.2.1 a25.2.2.2.1 a25.2.2.2.2 a10.2.2 pa wt cd ln) H → va_D A (W3 cy qa a25.2.1 a10.2.1 a25.2.2.1 a25.2.2.2.1 a25.2.2.2.2 a10.2.2 pa wt cd ln) → va_S A s.heap H locs → lv_has ls 10 [(0, .ref (qa 0 0)), (1, .int x1), (2, .int a2.1), (4, .int a6.1), (6, .int a12), (7, .int a14)] → W p l e ({ frames := 7, cells := 0, slots := 0, locals := 157 } : Room) s m args below meth c H locs 0 0 Q (F0 m 157 ls []) := by
          intro H locs ls hP hD hS hl
          refine lv_iconst (v := 1) hx hb dL_ask_157 (by decide) ?_
          refine lv_goto (tgt := 162) hx hb dL_ask_158 (by decide) ?_
          refine lv_istore (lv' := [(9, .int 1), (0, .ref (qa 0 0)), (1, .int x1), (2, .int a2.1), (4, .int a6.1), (6, .int a12), (7, .int a14)]) hx hb dL_ask_162 hl (by decide) rfl (fun ls hl => ?_)
          refine lv_iload_n hx hb dL_ask_164 rfl (lv_at hl 3 rfl) ?_
          refine lv_if_ge (tgt := 215) hx hb dL_ask_165 (by decide) (fun c12_ => ?_) (fun c12_ => ?_)
          · have h := pq_t c12_ h
            refine lv_iload hx hb dL_ask_215 (lv_at hl 0 rfl) ?_
            refine lv_if_eq (tgt := 321) hx hb dL_ask_217 (by decide) (fun c13_ => absurd c13_ (by decide)) (fun c13_ => ?_)
            refine lv_aload_n hx hb dL_ask_220 rfl (lv_at hl 1 rfl) ?_
            refine lv_iload_n hx hb dL_ask_221 rfl (lv_at hl 3 rfl) ?_
            refine lv_iconst (v := 0) hx hb dL_ask_222 (by decide) ?_
            obtain ⟨r31, hr31, h⟩ := pq_b h
            obtain ⟨a32, e9_, h9_⟩ := pq_inn h
            clear h
            have h := h9_
            clear h9_
            subst e9_
            refine pw_ci (w1 := W3 cy qa a25.2.1 a10.2.1 a25.2.2.1 a25.2.2.2.1 a25.2.2.2.2 a10.2.2 pa wt cd ln) (rest := []) (As := [.int a2.1, .int 0]) hF (kX3_place l D cy qa _ a25.2.1 a10.2.1 a25.2.2.1 a25.2.2.2.1 a25.2.2.2.2 a10.2.2 pa wt cd ln a2.1 0 a32 hr31) (cwV 2 hts (pw_gV (own := RL) (idx := 10) (C := RX3) (y := yX3_place) aw_394 aw_395 aw_396 aw_1 aw_397) rfl rfl rfl pX3_place ⟨Nat.le_of_ble_eq_true rfl, Nat.le_of_ble_eq_true rfl⟩) (va_recv hK hP (ci := 3) (q0 := 0) rfl rfl) hK hP hD hS hA rfl rfl hl.1 rfl (Nat.le_of_ble_eq_true rfl) dL_ask_223 ⟨Nat.zero_le _, Nat.zero_le _⟩ (fun H locs hP hD hS => ?_)
            refine lv_iconst (v := 2) hx hb dL_ask_226 (by decide) ?_
            obtain ⟨c14_, h⟩ := pq_g h
            refine lv_icmp_ne (tgt := 321) hx hb dL_ask_227 (by decide) (fun cc_ => absurd c14_ cc_) (fun _ => ?_)
            refine lv_aload_n hx hb dL_ask_230 rfl (lv_at hl 1 rfl) ?_
            refine lv_iload_n hx hb dL_ask_231 rfl (lv_at hl 3 rfl) ?_
            refine lv_iconst (v := 1) hx hb dL_ask_232 (by decide) ?_
            obtain ⟨r33, hr33, h⟩ := pq_b h
            obtain ⟨a34, e9_, h9_⟩ := pq_inn h
            clear h
            have h := h9_
            clear h9_
            subst e9_
            refine pw_ci (w1 := W3 cy qa a25.2.1 a10.2.1 a25.2.2.1 a25.2.2.2.1 a25.2.2.2.2 a10.2.2 pa wt cd ln) (rest := []) (As := [.int a2.1, .int 1]) hF (kX3_place l D cy qa _ a25.2.1 a10.2.1 a25.2.2.1 a25.2.2.2.1 a25.2.2.2.2 a10.2.2 pa wt cd ln a2.1 1 a34 hr33) (cwV 2 hts (pw_gV (own := RL) (idx := 10) (C := RX3) (y := yX3_place) aw_394 aw_395 aw_396 aw_1 aw_397) rfl rfl rfl pX3_place ⟨Nat.le_of_ble_eq_true rfl, Nat.le_of_ble_eq_true rfl⟩) (va_recv hK hP (ci := 3) (q0 := 0) rfl rfl) hK hP hD hS hA rfl rfl hl.1 rfl (Nat.le_of_ble_eq_true rfl) dL_ask_233 ⟨Nat.zero_le _, Nat.zero_le _⟩ (fun H locs hP hD hS => ?_)
            refine lv_iload_n hx hb dL_ask_236 rfl (lv_at hl 2 rfl) ?_
            obtain ⟨c15_, h⟩ := pq_g h
            refine lv_icmp_ne (tgt := 321) hx hb dL_ask_237 (by decide) (fun cc_ => absurd c15_ cc_) (fun _ => ?_)
            refine lv_aload_n hx hb dL_ask_240 rfl (lv_at hl 1 rfl) ?_
            refine lv_iload_n hx hb dL_ask_241 rfl (lv_at hl 3 rfl) ?_
            refine lv_iconst (v := 4) hx hb dL_ask_242 (by decide) ?_
            obtain ⟨r35, hr35, h⟩ := pq_b h
            obtain ⟨a36, e9_, h9_⟩ := pq_inn h
            clear h
            have h := h9_
            clear h9_
            subst e9_
            refine pw_ci (w1 := W3 cy qa a25.2.1 a10.2.1 a25.2.2.1 a25.2.2.2.1 a25.2.2.2.2 a10.2.2 pa wt cd ln) (rest := []) (As := [.int a2.1, .int 4]) hF (kX3_place l D cy qa _ a25.2.1 a10.2.1 a25.2.2.1 a25.2.2.2.1 a25.2.2.2.2 a10.2.2 pa wt cd ln a2.1 4 a36 hr35) (cwV 2 hts (pw_gV (own := RL) (idx := 10) (C := RX3) (y := yX3_place) aw_394 aw_395 aw_396 aw_1 aw_397) rfl rfl rfl pX3_place ⟨Nat.le_of_ble_eq_true rfl, Nat.le_of_ble_eq_true rfl⟩) (va_recv hK hP (ci := 3) (q0 := 0) rfl rfl) hK hP hD hS hA rfl rfl hl.1 rfl (Nat.le_of_ble_eq_true rfl) dL_ask_243 ⟨Nat.zero_le _, Nat.zero_le _⟩ (fun H locs hP hD hS => ?_)
            obtain ⟨c16_, h⟩ := pq_g h
            refine lv_if_ne (tgt := 321) hx hb dL_ask_246 (by decide) (fun cc_ => absurd c16_ cc_) (fun _ => ?_)
            refine lv_aload_n hx hb dL_ask_249 rfl (lv_at hl 1 rfl) ?_
            refine lv_iload_n hx hb dL_ask_250 rfl (lv_at hl 2 rfl) ?_
            refine lv_iconst (v := 2) hx hb dL_ask_251 (by decide) ?_
            obtain ⟨r37, hr37, h⟩ := pq_b h
            obtain ⟨a38, e9_, h9_⟩ := pq_inn h
            clear h
            have h := h9_
            clear h9_
            subst e9_
            refine pw_ci (w1 := W3 cy qa a25.2.1 a10.2.1 a25.2.2.1 a25.2.2.2.1 a25.2.2.2.2 a10.2.2 pa wt cd ln) (rest := []) (As := [.int x1, .int 2]) hF (kX3_owner l D cy qa _ a25.2.1 a10.2.1 a25.2.2.1 a25.2.2.2.1 a25.2.2.2.2 a10.2.2 pa wt cd ln x1 2 a38 hr37) (cwV 2 hts (pw_gV (own := RL) (idx := 23) (C := RX3) (y := yX3_owner) aw_410 aw_411 aw_412 aw_1 aw_413) rfl rfl rfl pX3_owner ⟨Nat.le_of_ble_eq_true rfl, Nat.le_of_ble_eq_true rfl⟩) (va_recv hK hP (ci := 3) (q0 := 0) rfl rfl) hK hP hD hS hA rfl rfl hl.1 rfl (Nat.le_of_ble_eq_true rfl) dL_ask_252 ⟨Nat.zero_le _, Nat.zero_le _⟩ (fun H locs hP hD hS => ?_)
            refine lv_iconst (v := (-1)) hx hb dL_ask_255 (by decide) ?_
            obtain ⟨c17_, h⟩ := pq_g h
            refine lv_icmp_ne (tgt := 321) hx hb dL_ask_256 (by decide) (fun cc_ => absurd c17_ cc_) (fun _ => ?_)
            refine lv_aload_n hx hb dL_ask_259 rfl (lv_at hl 1 rfl) ?_
            refine lv_iload_n hx hb dL_ask_260 rfl (lv_at hl 2 rfl) ?_
            refine lv_iconst (v := 4) hx hb dL_ask_261 (by decide) ?_
            obtain ⟨r39, hr39, h⟩ := pq_b h
            obtain ⟨a40, e9_, h9_⟩ := pq_inn h
            clear h
            have h := h9_
            clear h9_
            subst e9_
            refine pw_ci (w1 := W3 cy qa a25.2.1 a10.2.1 a25.2.2.1 a25.2.2.2.1 a25.2.2.2.2 a10.2.2 pa wt cd ln) (rest := []) (As := [.int x1, .int 4]) hF (kX3_owner l D cy qa _ a25.2.1 a10.2.1 a25.2.2.1 a25.2.2.2.1 a25.2.2.2.2 a10.2.2 pa wt cd ln x1 4 a40 hr39) (cwV 2 hts (pw_gV (own := RL) (idx := 23) (C := RX3) (y := yX3_owner) aw_410 aw_411 aw_412 aw_1 aw_413) rfl rfl rfl pX3_owner ⟨Nat.le_of_ble_eq_true rfl, Nat.le_of_ble_eq_true rfl⟩) (va_recv hK hP (ci := 3) (q0 := 0) rfl rfl) hK hP hD hS hA rfl rfl hl.1 rfl (Nat.le_of_ble_eq_true rfl) dL_ask_262 ⟨Nat.zero_le _, Nat.zero_le _⟩ (fun H locs hP hD hS => ?_)
            refine lv_iload hx hb dL_ask_265 (lv_at hl 5 rfl) ?_
            refine lv_iconst (v := 1) hx hb dL_ask_267 (by decide) ?_
            refine lv_iadd hx hb dL_ask_268 ?_
            obtain ⟨c18_, h⟩ := pq_g h
            refine lv_icmp_ne (tgt := 321) hx hb dL_ask_269 (by decide) (fun cc_ => absurd c18_ cc_) (fun _ => ?_)
            refine lv_aload_n hx hb dL_ask_272 rfl (lv_at hl 1 rfl) ?_
            refine lv_iload_n hx hb dL_ask_273 rfl (lv_at hl 2 rfl) ?_
            refine lv_iconst (v := 1) hx hb dL_ask_274 (by decide) ?_
            obtain ⟨r41, hr41, h⟩ := pq_b h
            obtain ⟨a42, e9_, h9_⟩ := pq_inn h
            clear h
            have h := h9_
            clear h9_
            subst e9_
            refine pw_ci (w1 := W3 cy qa a25.2.1 a10.2.1 a25.2.2.1 a25.2.2.2.1 a25.2.2.2.2 a10.2.2 pa wt cd ln) (rest := []) (As := [.int x1, .int 1]) hF (kX3_owner l D cy qa _ a25.2.1 a10.2.1 a25.2.2.1 a25.2.2.2.1 a25.2.2.2.2 a10.2.2 pa wt cd ln x1 1 a42 hr41) (cwV 2 hts (pw_gV (own := RL) (idx := 23) (C := RX3) (y := yX3_owner) aw_410 aw_411 aw_412 aw_1 aw_413) rfl rfl rfl pX3_owner ⟨Nat.le_of_ble_eq_true rfl, Nat.le_of_ble_eq_true rfl⟩) (va_recv hK hP (ci := 3) (q0 := 0) rfl rfl) hK hP hD hS hA rfl rfl hl.1 rfl (Nat.le_of_ble_eq_true rfl) dL_ask_275 ⟨Nat.zero_le _, Nat.zero_le _⟩ (fun H locs hP hD hS => ?_)
            refine lv_iload hx hb dL_ask_278 (lv_at hl 6 rfl) ?_
            refine lv_iconst (v := 1) hx hb dL_ask_280 (by decide) ?_
            refine lv_iadd hx hb dL_ask_281 ?_
            obtain ⟨c19_, h⟩ := pq_g h
            refine lv_icmp_ne (tgt := 321) hx hb dL_ask_282 (by decide) (fun cc_ => absurd c19_ cc_) (fun _ => ?_)
            refine lv_aload_n hx hb dL_ask_285 rfl (lv_at hl 1 rfl) ?_
            refine lv_iconst (v := 4) hx hb dL_ask_286 (by decide) ?_
            obtain ⟨r43, hr43, h⟩ := pq_b h
            obtain ⟨a44, e9_, h9_⟩ := pq_inn h
            clear h
            have h := h9_
            clear h9_
            subst e9_
            refine pw_ci (w1 := W3 cy qa a25.2.1 a10.2.1 a25.2.2.1 a25.2.2.2.1 a25.2.2.2.2 a10.2.2 pa wt cd ln) (rest := []) (As := [.int 4]) hF (kX3_setting l D cy qa _ a25.2.1 a10.2.1 a25.2.2.1 a25.2.2.2.1 a25.2.2.2.2 a10.2.2 pa wt cd ln 4 a44 hr43) (cwV 1 hts (pw_gV (own := RL) (idx := 20) (C := RX3) (y := yX3_setting) aw_444 aw_445 aw_446 aw_1 aw_447) rfl rfl rfl pX3_setting ⟨Nat.le_of_ble_eq_true rfl, Nat.le_of_ble_eq_true rfl⟩) (va_recv hK hP (ci := 3) (q0 := 0) rfl rfl) hK hP hD hS hA rfl rfl hl.1 rfl (Nat.le_of_ble_eq_true rfl) dL_ask_287 ⟨Nat.zero_le _, Nat.zero_le _⟩ (fun H locs hP hD hS => ?_)
            obtain ⟨v45, hv45, h⟩ := pq_b h
            have J302_v45 : ∀ (H : Heap) (locs : List Loc) (ls : Array Slot), va_P D vwCl (W3 cy qa a25.2.1 a10.2.1 a25.2.2.1 a25.2.2.2.1 a25.2.2.2.2 a10.2.2 pa wt cd ln) H → va_D A (W3 cy qa a25.2.1 a10.2.1 a25.2.2.1 a25.2.2.2.1 a25.2.2.2.2 a10.2.2 pa wt cd ln) → va_S A s.heap H locs → lv_has ls 10 [(0, .ref (qa 0 0)), (2, .int a2.1), (4, .int a6.1)] → W p l e ({ frames := 7, cells := 0, slots := 0, locals := 157 } : Room) s m args below meth c H locs 0 0 Q (F0 m 302 ls []) := by
              intro H locs ls hP hD hS hl
              refine lv_iload hx hb dL_ask_302 (lv_at hl 2 rfl) ?_
              refine lv_if_eq (tgt := 317) hx hb dL_ask_304 (by decide) (fun c22_ => ?_) (fun c22_ => ?_)
              · have h := pq_t c22_ h
                refine lv_iconst (v := 1) hx hb dL_ask_317 (by decide) ?_
                refine lv_goto (tgt := 322) hx hb dL_ask_318 (by decide) ?_
                obtain rfl := Option.some.inj h
                subst hQ
                exact pw_rz hx hb hr rfl hlk hAe hP hS rfl dL_ask_322
              · have h := pq_e c22_ h
                refine lv_aload_n hx hb dL_ask_307 rfl (lv_at hl 0 rfl) ?_
                refine lv_iload_n hx hb dL_ask_308 rfl (lv_at hl 1 rfl) ?_
                refine lv_iconst (v := 3) hx hb dL_ask_309 (by decide) ?_
                obtain ⟨r48, hr48, h⟩ := pq_b h
                obtain ⟨a49, e9_, h9_⟩ := pq_inn h
                clear h
                have h := h9_
                clear h9_
                subst e9_
                refine pw_ci (w1 := W3 cy qa a25.2.1 a10.2.1 a25.2.2.1 a25.2.2.2.1 a25.2.2.2.2 a10.2.2 pa wt cd ln) (rest := []) (As := [.int a2.1, .int 3]) hF (kX3_place l D cy qa _ a25.2.1 a10.2.1 a25.2.2.1 a25.2.2.2.1 a25.2.2.2.2 a10.2.2 pa wt cd ln a2.1 3 a49 hr48) (cwV 2 hts (pw_gV (own := RL) (idx := 10) (C := RX3) (y := yX3_place) aw_394 aw_395 aw_396 aw_1 aw_397) rfl rfl rfl pX3_place ⟨Nat.le_of_ble_eq_true rfl, Nat.le_of_ble_eq_true rfl⟩) (va_recv hK hP (ci := 3) (q0 := 0) rfl rfl) hK hP hD hS hA rfl rfl hl.1 rfl (Nat.le_of_ble_eq_true rfl) dL_ask_310 ⟨Nat.zero_le _, Nat.zero_le _⟩ (fun H locs hP hD hS => ?_)
                refine lv_iconst (v := 1) hx hb dL_ask_313 (by decide) ?_
                obtain ⟨c23_, h⟩ := pq_g h
                refine lv_icmp_ne (tgt := 321) hx hb dL_ask_314 (by decide) (fun cc_ => absurd c23_ cc_) (fun _ => ?_)
                refine lv_iconst (v := 1) hx hb dL_ask_317 (by decide) ?_
                refine lv_goto (tgt := 322) hx hb dL_ask_318 (by decide) ?_
                obtain rfl := Option.some.inj h
                subst hQ
                exact pw_rz hx hb hr rfl hlk hAe hP hS rfl dL_ask_322
            clear h
            have h := hv45
            clear hv45
            refine lv_if_eq (tgt := 302) hx hb dL_ask_290 (by decide) (fun c20_ => ?_) (fun c20_ => ?_)
            · have h := pq_t c20_ h
              obtain rfl := Option.some.inj h
              exact J302_v45 _ _ _ hP hD hS (lv_sub hl [1, 3, 4] rfl)
            · have h := pq_e c20_ h
              refine lv_aload_n hx hb dL_ask_293 rfl (lv_at hl 1 rfl) ?_
              refine lv_iload_n hx hb dL_ask_294 rfl (lv_at hl 3 rfl) ?_
              refine lv_iconst (v := 2) hx hb dL_ask_295 (by decide) ?_
              obtain ⟨r46, hr46, h⟩ := pq_b h
              obtain ⟨a47, e9_, h9_⟩ := pq_inn h
              clear h
              have h := h9_
              clear h9_
              subst e9_
              refine pw_ci (w1 := W3 cy qa a25.2.1 a10.2.1 a25.2.2.1 a25.2.2.2.1 a25.2.2.2.2 a10.2.2 pa wt cd ln) (rest := []) (As := [.int a2.1, .int 2]) hF (kX3_place l D cy qa _ a25.2.1 a10.2.1 a25.2.2.1 a25.2.2.2.1 a25.2.2.2.2 a10.2.2 pa wt cd ln a2.1 2 a47 hr46) (cwV 2 hts (pw_gV (own := RL) (idx := 10) (C := RX3) (y := yX3_place) aw_394 aw_395 aw_396 aw_1 aw_397) rfl rfl rfl pX3_place ⟨Nat.le_of_ble_eq_true rfl, Nat.le_of_ble_eq_true rfl⟩) (va_recv hK hP (ci := 3) (q0 := 0) rfl rfl) hK hP hD hS hA rfl rfl hl.1 rfl (Nat.le_of_ble_eq_true rfl) dL_ask_296 ⟨Nat.zero_le _, Nat.zero_le _⟩ (fun H locs hP hD hS => ?_)
              obtain ⟨c21_, h⟩ := pq_g h
              refine lv_if_ne (tgt := 321) hx hb dL_ask_299 (by decide) (fun cc_ => absurd c21_ cc_) (fun _ => ?_)
              obtain rfl := Option.some.inj h
              exact J302_v45 _ _ _ hP hD hS (lv_sub hl [1, 3, 4] rfl)
          · have h := pq_e c12_ h
            refine lv_iload hx hb dL_ask_168 (lv_at hl 0 rfl) ?_
            refine lv_if_eq (tgt := 213) hx hb dL_ask_170 (by decide) (fun c24_ => absurd c24_ (by decide)) (fun c24_ => ?_)
            refine lv_aload_n hx hb dL_ask_173 rfl (lv_at hl 1 rfl) ?_
            refine lv_iload_n hx hb dL_ask_174 rfl (lv_at hl 2 rfl) ?_
            refine lv_iconst (v := 2) hx hb dL_ask_175 (by decide) ?_
            obtain ⟨r50, hr50, h⟩ := pq_b h
            obtain ⟨a51, e9_, h9_⟩ := pq_inn h
            clear h
            have h := h9_
            clear h9_
            subst e9_
            refine pw_ci (w1 := W3 cy qa a25.2.1 a10.2.1 a25.2.2.1 a25.2.2.2.1 a25.2.2.2.2 a10.2.2 pa wt cd ln) (rest := []) (As := [.int x1, .int 2]) hF (kX3_owner l D cy qa _ a25.2.1 a10.2.1 a25.2.2.1 a25.2.2.2.1 a25.2.2.2.2 a10.2.2 pa wt cd ln x1 2 a51 hr50) (cwV 2 hts (pw_gV (own := RL) (idx := 23) (C := RX3) (y := yX3_owner) aw_410 aw_411 aw_412 aw_1 aw_413) rfl rfl rfl pX3_owner ⟨Nat.le_of_ble_eq_true rfl, Nat.le_of_ble_eq_true rfl⟩) (va_recv hK hP (ci := 3) (q0 := 0) rfl rfl) hK hP hD hS hA rfl rfl hl.1 rfl (Nat.le_of_ble_eq_true rfl) dL_ask_176 ⟨Nat.zero_le _, Nat.zero_le _⟩ (fun H locs hP hD hS => ?_)
            refine lv_aload_n hx hb dL_ask_179 rfl (lv_at hl 1 rfl) ?_
            refine lv_iconst (v := 5) hx hb dL_ask_180 (by decide) ?_
            obtain ⟨r52, hr52, h⟩ := pq_b h
            obtain ⟨a53, e9_, h9_⟩ := pq_inn h
            clear h
            have h := h9_
            clear h9_
            subst e9_
            refine pw_ci (w1 := W3 cy qa a25.2.1 a10.2.1 a25.2.2.1 a25.2.2.2.1 a25.2.2.2.2 a10.2.2 pa wt cd ln) (rest := [.int a51]) (As := [.int 5]) hF (kX3_count l D cy qa _ a25.2.1 a10.2.1 a25.2.2.1 a25.2.2.2.1 a25.2.2.2.2 a10.2.2 pa wt cd ln 5 a53 hr52) (cwV 1 hts (pw_gV (own := RL) (idx := 16) (C := RX3) (y := yX3_count) aw_420 aw_421 aw_422 aw_1 aw_423) rfl rfl rfl pX3_count ⟨Nat.le_of_ble_eq_true rfl, Nat.le_of_ble_eq_true rfl⟩) (va_recv hK hP (ci := 3) (q0 := 0) rfl rfl) hK hP hD hS hA rfl rfl hl.1 rfl (Nat.le_of_ble_eq_true rfl) dL_ask_181 ⟨Nat.zero_le _, Nat.zero_le _⟩ (fun H locs hP hD hS => ?_)
            refine lv_iconst (v := 1) hx hb dL_ask_184 (by decide) ?_
            refine lv_isub hx hb dL_ask_185 ?_
            obtain ⟨c25_, h⟩ := pq_g h
            refine lv_icmp_ne (tgt := 213) hx hb dL_ask_186 (by decide) (fun cc_ => absurd c25_ cc_) (fun _ => ?_)
            refine lv_aload_n hx hb dL_ask_189 rfl (lv_at hl 1 rfl) ?_
            refine lv_iload_n hx hb dL_ask_190 rfl (lv_at hl 2 rfl) ?_
            refine lv_iconst (v := 3) hx hb dL_ask_191 (by decide) ?_
            obtain ⟨r54, hr54, h⟩ := pq_b h
            obtain ⟨a55, e9_, h9_⟩ := pq_inn h
            clear h
            have h := h9_
            clear h9_
            subst e9_
            refine pw_ci (w1 := W3 cy qa a25.2.1 a10.2.1 a25.2.2.1 a25.2.2.2.1 a25.2.2.2.2 a10.2.2 pa wt cd ln) (rest := []) (As := [.int x1, .int 3]) hF (kX3_owner l D cy qa _ a25.2.1 a10.2.1 a25.2.2.1 a25.2.2.2.1 a25.2.2.2.2 a10.2.2 pa wt cd ln x1 3 a55 hr54) (cwV 2 hts (pw_gV (own := RL) (idx := 23) (C := RX3) (y := yX3_owner) aw_410 aw_411 aw_412 aw_1 aw_413) rfl rfl rfl pX3_owner ⟨Nat.le_of_ble_eq_true rfl, Nat.le_of_ble_eq_true rfl⟩) (va_recv hK hP (ci := 3) (q0 := 0) rfl rfl) hK hP hD hS hA rfl rfl hl.1 rfl (Nat.le_of_ble_eq_true rfl) dL_ask_192 ⟨Nat.zero_le _, Nat.zero_le _⟩ (fun H locs hP hD hS => ?_)
            obtain ⟨c26_, h⟩ := pq_g h
            refine lv_if_ne (tgt := 213) hx hb dL_ask_195 (by decide) (fun cc_ => absurd c26_ cc_) (fun _ => ?_)
            refine lv_aload_n hx hb dL_ask_198 rfl (lv_at hl 1 rfl) ?_
            refine lv_iload_n hx hb dL_ask_199 rfl (lv_at hl 2 rfl) ?_
            refine lv_iconst (v := 4) hx hb dL_ask_200 (by decide) ?_
            obtain ⟨r56, hr56, h⟩ := pq_b h
            obtain ⟨a57, e9_, h9_⟩ := pq_inn h
            clear h
            have h := h9_
            clear h9_
            subst e9_
            refine pw_ci (w1 := W3 cy qa a25.2.1 a10.2.1 a25.2.2.1 a25.2.2.2.1 a25.2.2.2.2 a10.2.2 pa wt cd ln) (rest := []) (As := [.int x1, .int 4]) hF (kX3_owner l D cy qa _ a25.2.1 a10.2.1 a25.2.2.1 a25.2.2.2.1 a25.2.2.2.2 a10.2.2 pa wt cd ln x1 4 a57 hr56) (cwV 2 hts (pw_gV (own := RL) (idx := 23) (C := RX3) (y := yX3_owner) aw_410 aw_411 aw_412 aw_1 aw_413) rfl rfl rfl pX3_owner ⟨Nat.le_of_ble_eq_true rfl, Nat.le_of_ble_eq_true rfl⟩) (va_recv hK hP (ci := 3) (q0 := 0) rfl rfl) hK hP hD hS hA rfl rfl hl.1 rfl (Nat.le_of_ble_eq_true rfl) dL_ask_201 ⟨Nat.zero_le _, Nat.zero_le _⟩ (fun H locs hP hD hS => ?_)
            refine lv_iload hx hb dL_ask_204 (lv_at hl 5 rfl) ?_
            obtain ⟨c27_, h⟩ := pq_g h
            refine lv_icmp_ne (tgt := 213) hx hb dL_ask_206 (by decide) (fun cc_ => absurd c27_ cc_) (fun _ => ?_)
            refine lv_iconst (v := 1) hx hb dL_ask_209 (by decide) ?_
            refine lv_goto (tgt := 214) hx hb dL_ask_210 (by decide) ?_
            obtain rfl := Option.some.inj h
            subst hQ
            exact pw_rz hx hb hr rfl hlk hAe hP hS rfl dL_ask_214
        clear h
        have h := hv30
        clear hv30
        refine lv_if_lt (tgt := 157) hx hb dL_ask_149 (by decide) (fun c10_ => ?_) (fun c10_ => ?_)
        · have h := pq_t c10_ h
          obtain rfl := Option.some.inj h
          exact J157_v30 _ _ _ hP hD hS (lv_sub hl [1, 2, 3, 5, 7, 8] rfl)
        · have h := pq_e c10_ h
          refine lv_iload hx hb dL_ask_152 (lv_at hl 0 rfl) ?_
          obtain ⟨c11_, h⟩ := pq_g h
          refine lv_if_eq (tgt := 161) hx hb dL_ask_154 (by decide) (fun cc_ => absurd cc_ c11_) (fun _ => ?_)
          obtain rfl := Option.some.inj h
          exact J157_v30 _ _ _ hP hD hS (lv_sub hl [1, 2, 3, 5, 7, 8] rfl)
      clear h
      have h := hv23
      clear hv23
      refine lv_icmp_ge (tgt := 112) hx hb dL_ask_105 (by decide) (fun c6_ => ?_) (fun c6_ => ?_)
      · have h := pq_t c6_ h
        refine lv_iconst (v := 0) hx hb dL_ask_112 (by decide) ?_
        obtain rfl := Option.some.inj h
        exact J113_v23 _ _ _ hP hD hS (lv_sub hl [6, 7, 5, 4, 3, 2, 1, 0] rfl)
      · have h := pq_e c6_ h
        refine lv_iconst (v := 1) hx hb dL_ask_108 (by decide) ?_
        refine lv_goto (tgt := 113) hx hb dL_ask_109 (by decide) ?_
        obtain rfl := Option.some.inj h
        exact J113_v23 _ _ _ hP hD hS (lv_sub hl [6, 7, 5, 4, 3, 2, 1, 0] rfl)
    · have h := pq_e c5_ h
      refine lv_iload_n hx hb dL_ask_71 rfl (lv_at hl 5 rfl) ?_
      refine lv_iconst (v := (-1)) hx hb dL_ask_72 (by decide) ?_
      obtain ⟨c28_, h⟩ := pq_g h
      refine lv_icmp_ne (tgt := 96) hx hb dL_ask_73 (by decide) (fun cc_ => absurd c28_ cc_) (fun _ => ?_)
      refine lv_iload hx hb dL_ask_76 (lv_at hl 3 rfl) ?_
      obtain ⟨c29_, h⟩ := pq_g h
      refine lv_if_ne (tgt := 96) hx hb dL_ask_78 (by decide) (fun cc_ => absurd c29_ cc_) (fun _ => ?_)
      refine lv_iload hx hb dL_ask_81 (lv_at hl 2 rfl) ?_
      refine lv_aload_n hx hb dL_ask_83 rfl (lv_at hl 6 rfl) ?_
      refine lv_bipush (v := 7) hx hb dL_ask_84 (by decide) ?_
      obtain ⟨r58, hr58, h⟩ := pq_b h
      obtain ⟨a59, e9_, h9_⟩ := pq_inn h
      clear h
      have h := h9_
      clear h9_
      subst e9_
      refine pw_ci (w1 := W3 cy qa P a10.2.1 S nw hz a10.2.2 pa wt cd ln) (rest := [.int (a8 + a10.1)]) (As := [.int 7]) hF (kX3_count l D cy qa _ P a10.2.1 S nw hz a10.2.2 pa wt cd ln 7 a59 hr58) (cwV 1 hts (pw_gV (own := RL) (idx := 16) (C := RX3) (y := yX3_count) aw_420 aw_421 aw_422 aw_1 aw_423) rfl rfl rfl pX3_count ⟨Nat.le_of_ble_eq_true rfl, Nat.le_of_ble_eq_true rfl⟩) (va_recv hK hP (ci := 3) (q0 := 0) rfl rfl) hK hP hD hS hA rfl rfl hl.1 rfl (Nat.le_of_ble_eq_true rfl) dL_ask_86 ⟨Nat.zero_le _, Nat.zero_le _⟩ (fun H locs hP hD hS => ?_)
      obtain ⟨c30_, h⟩ := pq_g h
      refine lv_icmp_ne (tgt := 96) hx hb dL_ask_89 (by decide) (fun cc_ => absurd c30_ cc_) (fun _ => ?_)
      refine lv_iconst (v := 1) hx hb dL_ask_92 (by decide) ?_
      refine lv_goto (tgt := 97) hx hb dL_ask_93 (by decide) ?_
      obtain rfl := Option.some.inj h
      subst hQ
      exact pw_rz hx hb hr rfl hlk hAe hP hS rfl dL_ask_97

def aL_give : List Cond := Cond.code yL_give cL_give 6 (some .boolean) :: pw_all
theorem pL_give : yL_give.cls = RL ∧ yL_give.cls ≠ "java/lang/invoke/MethodHandle" ∧ yL_give.cls ≠ "java/lang/invoke/VarHandle" ∧ (parseMethodDescriptor yL_give.desc).map (fun d => d.parameters.length) = some 2 := by decide +kernel
set_option maxHeartbeats 8000000 in
set_option maxRecDepth 100000 in
theorem kL_give (l : Launch) (D : va_G) (cy : Nat → ClassId) (qa : Nat → Nat → Nat) (sz : Nat) (P : Nat → Nat → Int32) (T : Nat → Nat → Int32) (S : Nat → Nat → Nat → Int32) (nw : Int32) (hz : Int32) (ak : Nat → Int32) (pa : Nat → Int32) (wt : Nat → Int32) (cd : Nat → Int32) (ln : Int32) (x1 : Int32) (o : Int32 × (Nat → Nat → Int32) × (Nat → Nat → Nat → Int32) × Int32 × Int32) (h : fL_give x1 P S nw hz = some o) : Met l yL_give aL_give ({ frames := 6, cells := 0, slots := 0, locals := 134 }) (pw_Pre D cy [.ref (qa 0 0), .int x1] (W3 cy qa P T S nw hz ak pa wt cd ln) sz) (pw_I D o.1 (W3 cy qa P T S nw hz ak pa wt cd ln) (W3 cy qa o.2.1 T o.2.2.1 o.2.2.2.1 o.2.2.2.2 ak pa wt cd ln) sz) 0 0 (va_A (W3 cy qa P T S nw hz ak pa wt cd ln) sz) := by
  refine pw_met (cc := cL_give) (maxL := 6) (ret := (some .boolean)) (by decide) rfl (Nat.le_of_ble_eq_true rfl) ?_
  intro p e s m args below meth c ls A hx hb hr hml hlk hts hown hAe hA hK hP hD hS hl
  have hl : lv_has ls 6 [(0, .ref (qa 0 0)), (1, .int x1)] := hl
  generalize hQ : MQ below (pw_I D o.1 (W3 cy qa P T S nw hz ak pa wt cd ln) (W3 cy qa o.2.1 T o.2.2.1 o.2.2.2.1 o.2.2.2.2 ak pa wt cd ln) sz) args s 0 0 (va_A (W3 cy qa P T S nw hz ak pa wt cd ln) sz) = Q
  have hF : CallFix p m c cL_give 6 s args aL_give RL := ⟨hx, hb, hml, hown, hts⟩
  have hta : ∀ w ∈ pw_all, w.before args s = true := fun w h => hts w (List.mem_cons_of_mem _ h)
  have hin3 : ∀ w ∈ wsX30, w ∈ aL_give := fun w h => List.mem_cons_of_mem _ (inA3 w h)
  have hin2 : ∀ w ∈ wsX20, w ∈ aL_give := fun w h => List.mem_cons_of_mem _ (inA2 w h)
  have hin1 : ∀ w ∈ wsX10, w ∈ aL_give := fun w h => List.mem_cons_of_mem _ (inA1 w h)
  have hin0 : ∀ w ∈ wsX00, w ∈ aL_give := fun w h => List.mem_cons_of_mem _ (inA0 w h)
  unfold fL_give at h
  refine lv_aload_n hx hb dL_give_0 rfl (lv_at hl 0 rfl) ?_
  refine lv_iload_n hx hb dL_give_1 rfl (lv_at hl 1 rfl) ?_
  refine lv_iconst (v := 1) hx hb dL_give_2 (by decide) ?_
  obtain ⟨r1, hr1, h⟩ := pq_b h
  obtain ⟨a2, e9_, h9_⟩ := pq_inn h
  clear h
  have h := h9_
  clear h9_
  subst e9_
  refine pw_ci (w1 := W3 cy qa P T S nw hz ak pa wt cd ln) (rest := []) (As := [.int x1, .int 1]) hF (kX3_place l D cy qa _ P T S nw hz ak pa wt cd ln x1 1 a2 hr1) (cwV 2 hts (pw_gV (own := RL) (idx := 10) (C := RX3) (y := yX3_place) aw_394 aw_395 aw_396 aw_1 aw_397) rfl rfl rfl pX3_place ⟨Nat.le_of_ble_eq_true rfl, Nat.le_of_ble_eq_true rfl⟩) (va_recv hK hP (ci := 3) (q0 := 0) rfl rfl) hK hP hD hS hA rfl rfl hl.1 rfl (Nat.le_of_ble_eq_true rfl) dL_give_3 ⟨Nat.zero_le _, Nat.zero_le _⟩ (fun H locs hP hD hS => ?_)
  refine lv_istore_n (lv' := [(2, .int a2), (0, .ref (qa 0 0)), (1, .int x1)]) hx hb dL_give_6 rfl hl (by decide) rfl (fun ls hl => ?_)
  refine lv_iload_n hx hb dL_give_7 rfl (lv_at hl 0 rfl) ?_
  refine lv_if_lt (tgt := 20) hx hb dL_give_8 (by decide) (fun c1_ => ?_) (fun c1_ => ?_)
  · have h := pq_t c1_ h
    refine lv_iconst (v := 1) hx hb dL_give_20 (by decide) ?_
    obtain rfl := Option.some.inj h
    subst hQ
    exact pw_rz hx hb hr rfl hlk hAe hP hS rfl dL_give_21
  · have h := pq_e c1_ h
    refine lv_aload_n hx hb dL_give_11 rfl (lv_at hl 1 rfl) ?_
    refine lv_iload_n hx hb dL_give_12 rfl (lv_at hl 0 rfl) ?_
    refine lv_iconst (v := 0) hx hb dL_give_13 (by decide) ?_
    obtain ⟨r3, hr3, h⟩ := pq_b h
    obtain ⟨a4, e9_, h9_⟩ := pq_inn h
    clear h
    have h := h9_
    clear h9_
    subst e9_
    refine pw_ci (w1 := W3 cy qa P T S nw hz ak pa wt cd ln) (rest := []) (As := [.int a2, .int 0]) hF (kX3_owner l D cy qa _ P T S nw hz ak pa wt cd ln a2 0 a4 hr3) (cwV 2 hts (pw_gV (own := RL) (idx := 23) (C := RX3) (y := yX3_owner) aw_410 aw_411 aw_412 aw_1 aw_413) rfl rfl rfl pX3_owner ⟨Nat.le_of_ble_eq_true rfl, Nat.le_of_ble_eq_true rfl⟩) (va_recv hK hP (ci := 3) (q0 := 0) rfl rfl) hK hP hD hS hA rfl rfl hl.1 rfl (Nat.le_of_ble_eq_true rfl) dL_give_14 ⟨Nat.zero_le _, Nat.zero_le _⟩ (fun H locs hP hD hS => ?_)
    refine lv_if_ne (tgt := 22) hx hb dL_give_17 (by decide) (fun c2_ => ?_) (fun c2_ => ?_)
    · have h := pq_e c2_ h
      refine lv_aload_n hx hb dL_give_22 rfl (lv_at hl 1 rfl) ?_
      refine lv_iconst (v := 5) hx hb dL_give_23 (by decide) ?_
      obtain ⟨r5, hr5, h⟩ := pq_b h
      obtain ⟨a6, e9_, h9_⟩ := pq_inn h
      clear h
      have h := h9_
      clear h9_
      subst e9_
      refine pw_ci (w1 := W3 cy qa P T S nw hz ak pa wt cd ln) (rest := []) (As := [.int 5]) hF (kX3_count l D cy qa _ P T S nw hz ak pa wt cd ln 5 a6 hr5) (cwV 1 hts (pw_gV (own := RL) (idx := 16) (C := RX3) (y := yX3_count) aw_420 aw_421 aw_422 aw_1 aw_423) rfl rfl rfl pX3_count ⟨Nat.le_of_ble_eq_true rfl, Nat.le_of_ble_eq_true rfl⟩) (va_recv hK hP (ci := 3) (q0 := 0) rfl rfl) hK hP hD hS hA rfl rfl hl.1 rfl (Nat.le_of_ble_eq_true rfl) dL_give_24 ⟨Nat.zero_le _, Nat.zero_le _⟩ (fun H locs hP hD hS => ?_)
      refine lv_istore_n (lv' := [(3, .int a6), (2, .int a2), (0, .ref (qa 0 0)), (1, .int x1)]) hx hb dL_give_27 rfl hl (by decide) rfl (fun ls hl => ?_)
      refine lv_aload_n hx hb dL_give_28 rfl (lv_at hl 2 rfl) ?_
      refine lv_iload_n hx hb dL_give_29 rfl (lv_at hl 3 rfl) ?_
      obtain ⟨r7, hr7, h⟩ := pq_b h
      obtain ⟨a8, e9_, h9_⟩ := pq_inn h
      clear h
      have h := h9_
      clear h9_
      subst e9_
      refine pw_ci (w1 := W3 cy qa a8.2.1 T a8.2.2.1 a8.2.2.2.1 a8.2.2.2.2 ak pa wt cd ln) (rest := []) (As := [.int x1]) hF (kX3_give l D cy qa _ P T S nw hz ak pa wt cd ln x1 a8 hr7) (cwV 1 hts (pw_gV (own := RL) (idx := 40) (C := RX3) (y := yX3_give) aw_487 aw_488 aw_489 aw_1 aw_490) rfl rfl rfl pX3_give ⟨Nat.le_of_ble_eq_true rfl, Nat.le_of_ble_eq_true rfl⟩) (va_recv hK hP (ci := 3) (q0 := 0) rfl rfl) hK hP hD hS hA rfl rfl hl.1 rfl (Nat.le_of_ble_eq_true rfl) dL_give_30 ⟨Nat.zero_le _, Nat.zero_le _⟩ (fun H locs hP hD hS => ?_)
      refine lv_istore (lv' := [(4, .int a8.1), (3, .int a6), (2, .int a2), (0, .ref (qa 0 0)), (1, .int x1)]) hx hb dL_give_33 hl (by decide) rfl (fun ls hl => ?_)
      refine lv_iload hx hb dL_give_35 (lv_at hl 0 rfl) ?_
      refine lv_aload_n hx hb dL_give_37 rfl (lv_at hl 3 rfl) ?_
      refine lv_iload_n hx hb dL_give_38 rfl (lv_at hl 4 rfl) ?_
      refine lv_iconst (v := 1) hx hb dL_give_39 (by decide) ?_
      obtain ⟨r9, hr9, h⟩ := pq_b h
      obtain ⟨a10, e9_, h9_⟩ := pq_inn h
      clear h
      have h := h9_
      clear h9_
      subst e9_
      refine pw_ci (w1 := W3 cy qa a8.2.1 T a8.2.2.1 a8.2.2.2.1 a8.2.2.2.2 ak pa wt cd ln) (rest := [.int a8.1]) (As := [.int x1, .int 1]) hF (kX3_place l D cy qa _ a8.2.1 T a8.2.2.1 a8.2.2.2.1 a8.2.2.2.2 ak pa wt cd ln x1 1 a10 hr9) (cwV 2 hts (pw_gV (own := RL) (idx := 10) (C := RX3) (y := yX3_place) aw_394 aw_395 aw_396 aw_1 aw_397) rfl rfl rfl pX3_place ⟨Nat.le_of_ble_eq_true rfl, Nat.le_of_ble_eq_true rfl⟩) (va_recv hK hP (ci := 3) (q0 := 0) rfl rfl) hK hP hD hS hA rfl rfl hl.1 rfl (Nat.le_of_ble_eq_true rfl) dL_give_40 ⟨Nat.zero_le _, Nat.zero_le _⟩ (fun H locs hP hD hS => ?_)
      obtain ⟨c3_, h⟩ := pq_g h
      refine lv_icmp_ne (tgt := 65) hx hb dL_give_43 (by decide) (fun cc_ => absurd c3_ cc_) (fun _ => ?_)
      refine lv_iload hx hb dL_give_46 (lv_at hl 0 rfl) ?_
      obtain ⟨v11, hv11, h⟩ := pq_b h
      have J61_v11 : ∀ (H : Heap) (locs : List Loc) (ls : Array Slot), va_P D vwCl (W3 cy qa a8.2.1 T a8.2.2.1 a8.2.2.2.1 a8.2.2.2.2 ak pa wt cd ln) H → va_D A (W3 cy qa a8.2.1 T a8.2.2.1 a8.2.2.2.1 a8.2.2.2.2 ak pa wt cd ln) → va_S A s.heap H locs → lv_has ls 6 [(0, .ref (qa 0 0)), (1, .int x1), (3, .int a6), (4, .int a8.1)] → W p l e ({ frames := 6, cells := 0, slots := 0, locals := 134 } : Room) s m args below meth c H locs 0 0 Q (F0 m 61 ls []) := by
        intro H locs ls hP hD hS hl
        refine lv_iconst (v := 1) hx hb dL_give_61 (by decide) ?_
        refine lv_goto (tgt := 66) hx hb dL_give_62 (by decide) ?_
        refine lv_istore (lv' := [(5, .int 1), (0, .ref (qa 0 0)), (1, .int x1), (3, .int a6), (4, .int a8.1)]) hx hb dL_give_66 hl (by decide) rfl (fun ls hl => ?_)
        refine lv_iload hx hb dL_give_68 (lv_at hl 0 rfl) ?_
        refine lv_if_eq (tgt := 106) hx hb dL_give_70 (by decide) (fun c6_ => absurd c6_ (by decide)) (fun c6_ => ?_)
        refine lv_iload_n hx hb dL_give_73 rfl (lv_at hl 3 rfl) ?_
        refine lv_if_gt (tgt := 102) hx hb dL_give_74 (by decide) (fun c7_ => ?_) (fun c7_ => ?_)
        · have h := pq_t c7_ h
          refine lv_iconst (v := 1) hx hb dL_give_102 (by decide) ?_
          refine lv_goto (tgt := 107) hx hb dL_give_103 (by decide) ?_
          obtain rfl := Option.some.inj h
          subst hQ
          exact pw_rz hx hb hr rfl hlk hAe hP hS rfl dL_give_107
        · have h := pq_e c7_ h
          refine lv_iload hx hb dL_give_77 (lv_at hl 4 rfl) ?_
          refine lv_iconst (v := (-1)) hx hb dL_give_79 (by decide) ?_
          obtain ⟨c8_, h⟩ := pq_g h
          refine lv_icmp_ne (tgt := 106) hx hb dL_give_80 (by decide) (fun cc_ => absurd c8_ cc_) (fun _ => ?_)
          refine lv_aload_n hx hb dL_give_83 rfl (lv_at hl 1 rfl) ?_
          refine lv_iload_n hx hb dL_give_84 rfl (lv_at hl 2 rfl) ?_
          refine lv_iconst (v := 0) hx hb dL_give_85 (by decide) ?_
          obtain ⟨r14, hr14, h⟩ := pq_b h
          obtain ⟨a15, e9_, h9_⟩ := pq_inn h
          clear h
          have h := h9_
          clear h9_
          subst e9_
          refine pw_ci (w1 := W3 cy qa a8.2.1 T a8.2.2.1 a8.2.2.2.1 a8.2.2.2.2 ak pa wt cd ln) (rest := []) (As := [.int x1, .int 0]) hF (kX3_place l D cy qa _ a8.2.1 T a8.2.2.1 a8.2.2.2.1 a8.2.2.2.2 ak pa wt cd ln x1 0 a15 hr14) (cwV 2 hts (pw_gV (own := RL) (idx := 10) (C := RX3) (y := yX3_place) aw_394 aw_395 aw_396 aw_1 aw_397) rfl rfl rfl pX3_place ⟨Nat.le_of_ble_eq_true rfl, Nat.le_of_ble_eq_true rfl⟩) (va_recv hK hP (ci := 3) (q0 := 0) rfl rfl) hK hP hD hS hA rfl rfl hl.1 rfl (Nat.le_of_ble_eq_true rfl) dL_give_86 ⟨Nat.zero_le _, Nat.zero_le _⟩ (fun H locs hP hD hS => ?_)
          refine lv_iconst (v := 1) hx hb dL_give_89 (by decide) ?_
          obtain ⟨c9_, h⟩ := pq_g h
          refine lv_icmp_ne (tgt := 106) hx hb dL_give_90 (by decide) (fun cc_ => absurd c9_ cc_) (fun _ => ?_)
          refine lv_aload_n hx hb dL_give_93 rfl (lv_at hl 1 rfl) ?_
          refine lv_iload_n hx hb dL_give_94 rfl (lv_at hl 2 rfl) ?_
          refine lv_iconst (v := 4) hx hb dL_give_95 (by decide) ?_
          obtain ⟨r16, hr16, h⟩ := pq_b h
          obtain ⟨a17, e9_, h9_⟩ := pq_inn h
          clear h
          have h := h9_
          clear h9_
          subst e9_
          refine pw_ci (w1 := W3 cy qa a8.2.1 T a8.2.2.1 a8.2.2.2.1 a8.2.2.2.2 ak pa wt cd ln) (rest := []) (As := [.int x1, .int 4]) hF (kX3_place l D cy qa _ a8.2.1 T a8.2.2.1 a8.2.2.2.1 a8.2.2.2.2 ak pa wt cd ln x1 4 a17 hr16) (cwV 2 hts (pw_gV (own := RL) (idx := 10) (C := RX3) (y := yX3_place) aw_394 aw_395 aw_396 aw_1 aw_397) rfl rfl rfl pX3_place ⟨Nat.le_of_ble_eq_true rfl, Nat.le_of_ble_eq_true rfl⟩) (va_recv hK hP (ci := 3) (q0 := 0) rfl rfl) hK hP hD hS hA rfl rfl hl.1 rfl (Nat.le_of_ble_eq_true rfl) dL_give_96 ⟨Nat.zero_le _, Nat.zero_le _⟩ (fun H locs hP hD hS => ?_)
          obtain ⟨c10_, h⟩ := pq_g h
          refine lv_if_ne (tgt := 106) hx hb dL_give_99 (by decide) (fun cc_ => absurd c10_ cc_) (fun _ => ?_)
          refine lv_iconst (v := 1) hx hb dL_give_102 (by decide) ?_
          refine lv_goto (tgt := 107) hx hb dL_give_103 (by decide) ?_
          obtain rfl := Option.some.inj h
          subst hQ
          exact pw_rz hx hb hr rfl hlk hAe hP hS rfl dL_give_107
      clear h
      have h := hv11
      clear hv11
      refine lv_if_lt (tgt := 61) hx hb dL_give_48 (by decide) (fun c4_ => ?_) (fun c4_ => ?_)
      · have h := pq_t c4_ h
        obtain rfl := Option.some.inj h
        exact J61_v11 _ _ _ hP hD hS (lv_sub hl [3, 4, 1, 0] rfl)
      · have h := pq_e c4_ h
        refine lv_aload_n hx hb dL_give_51 rfl (lv_at hl 3 rfl) ?_
        refine lv_iload_n hx hb dL_give_52 rfl (lv_at hl 4 rfl) ?_
        refine lv_iconst (v := 0) hx hb dL_give_53 (by decide) ?_
        obtain ⟨r12, hr12, h⟩ := pq_b h
        obtain ⟨a13, e9_, h9_⟩ := pq_inn h
        clear h
        have h := h9_
        clear h9_
        subst e9_
        refine pw_ci (w1 := W3 cy qa a8.2.1 T a8.2.2.1 a8.2.2.2.1 a8.2.2.2.2 ak pa wt cd ln) (rest := []) (As := [.int x1, .int 0]) hF (kX3_place l D cy qa _ a8.2.1 T a8.2.2.1 a8.2.2.2.1 a8.2.2.2.2 ak pa wt cd ln x1 0 a13 hr12) (cwV 2 hts (pw_gV (own := RL) (idx := 10) (C := RX3) (y := yX3_place) aw_394 aw_395 aw_396 aw_1 aw_397) rfl rfl rfl pX3_place ⟨Nat.le_of_ble_eq_true rfl, Nat.le_of_ble_eq_true rfl⟩) (va_recv hK hP (ci := 3) (q0 := 0) rfl rfl) hK hP hD hS hA rfl rfl hl.1 rfl (Nat.le_of_ble_eq_true rfl) dL_give_54 ⟨Nat.zero_le _, Nat.zero_le _⟩ (fun H locs hP hD hS => ?_)
        refine lv_iconst (v := 2) hx hb dL_give_57 (by decide) ?_
        obtain ⟨c5_, h⟩ := pq_g h
        refine lv_icmp_ne (tgt := 65) hx hb dL_give_58 (by decide) (fun cc_ => absurd c5_ cc_) (fun _ => ?_)
        obtain rfl := Option.some.inj h
        exact J61_v11 _ _ _ hP hD hS (lv_sub hl [3, 4, 1, 0] rfl)
    · have h := pq_t c2_ h
      refine lv_iconst (v := 1) hx hb dL_give_20 (by decide) ?_
      obtain rfl := Option.some.inj h
      subst hQ
      exact pw_rz hx hb hr rfl hlk hAe hP hS rfl dL_give_21

def aL_pass : List Cond := Cond.code yL_pass cL_pass 18 (some .boolean) :: pw_all
theorem pL_pass : yL_pass.cls = RL ∧ yL_pass.cls ≠ "java/lang/invoke/MethodHandle" ∧ yL_pass.cls ≠ "java/lang/invoke/VarHandle" ∧ (parseMethodDescriptor yL_pass.desc).map (fun d => d.parameters.length) = some 3 := by decide +kernel
set_option maxHeartbeats 8000000 in
set_option maxRecDepth 100000 in
theorem kL_pass (l : Launch) (D : va_G) (cy : Nat → ClassId) (qa : Nat → Nat → Nat) (sz : Nat) (P : Nat → Nat → Int32) (T : Nat → Nat → Int32) (S : Nat → Nat → Nat → Int32) (nw : Int32) (hz : Int32) (ak : Nat → Int32) (pa : Nat → Int32) (wt : Nat → Int32) (cd : Nat → Int32) (ln : Int32) (x1 : Int32) (x2 : Int32) (o : Int32 × (Nat → Nat → Int32) × (Nat → Nat → Int32) × (Nat → Nat → Nat → Int32) × Int32 × Int32 × (Nat → Int32) × (Nat → Int32)) (h : fL_pass x1 x2 P T S nw hz pa wt = some o) : Met l yL_pass aL_pass ({ frames := 7, cells := 0, slots := 0, locals := 159 }) (pw_Pre D cy [.ref (qa 0 0), .int x1, .int x2] (W3 cy qa P T S nw hz ak pa wt cd ln) sz) (pw_I D o.1 (W3 cy qa P T S nw hz ak pa wt cd ln) (W3 cy qa o.2.1 o.2.2.1 o.2.2.2.1 o.2.2.2.2.1 o.2.2.2.2.2.1 ak o.2.2.2.2.2.2.1 o.2.2.2.2.2.2.2 cd ln) sz) 0 0 (va_A (W3 cy qa P T S nw hz ak pa wt cd ln) sz) := by
  refine pw_met (cc := cL_pass) (maxL := 18) (ret := (some .boolean)) (by decide) rfl (Nat.le_of_ble_eq_true rfl) ?_
  intro p e s m args below meth c ls A hx hb hr hml hlk hts hown hAe hA hK hP hD hS hl
  have hl : lv_has ls 18 [(0, .ref (qa 0 0)), (1, .int x1), (2, .int x2)] := hl
  generalize hQ : MQ below (pw_I D o.1 (W3 cy qa P T S nw hz ak pa wt cd ln) (W3 cy qa o.2.1 o.2.2.1 o.2.2.2.1 o.2.2.2.2.1 o.2.2.2.2.2.1 ak o.2.2.2.2.2.2.1 o.2.2.2.2.2.2.2 cd ln) sz) args s 0 0 (va_A (W3 cy qa P T S nw hz ak pa wt cd ln) sz) = Q
  have hF : CallFix p m c cL_pass 18 s args aL_pass RL := ⟨hx, hb, hml, hown, hts⟩
  have hta : ∀ w ∈ pw_all, w.before args s = true := fun w h => hts w (List.mem_cons_of_mem _ h)
  have hin3 : ∀ w ∈ wsX30, w ∈ aL_pass := fun w h => List.mem_cons_of_mem _ (inA3 w h)
  have hin2 : ∀ w ∈ wsX20, w ∈ aL_pass := fun w h => List.mem_cons_of_mem _ (inA2 w h)
  have hin1 : ∀ w ∈ wsX10, w ∈ aL_pass := fun w h => List.mem_cons_of_mem _ (inA1 w h)
  have hin0 : ∀ w ∈ wsX00, w ∈ aL_pass := fun w h => List.mem_cons_of_mem _ (inA0 w h)
  unfold fL_pass at h
  refine lv_aload_n hx hb dL_pass_0 rfl (lv_at hl 0 rfl) ?_
  refine lv_iload_n hx hb dL_pass_1 rfl (lv_at hl 1 rfl) ?_
  refine lv_iconst (v := 0) hx hb dL_pass_2 (by decide) ?_
  obtain ⟨r1, hr1, h⟩ := pq_b h
  obtain ⟨a2, e9_, h9_⟩ := pq_inn h
  clear h
  have h := h9_
  clear h9_
  subst e9_
  refine pw_ci (w1 := W3 cy qa P a2.2.1 S nw hz ak a2.2.2 wt cd ln) (rest := []) (As := [.int x1, .int 0]) hF (kX3_ifPassed l D cy qa _ P T S nw hz ak pa wt cd ln x1 0 a2 hr1) (cwV 2 hts (pw_gV (own := RL) (idx := 43) (C := RX3) (y := yX3_ifPassed) aw_504 aw_505 aw_506 aw_1 aw_507) rfl rfl rfl pX3_ifPassed ⟨Nat.le_of_ble_eq_true rfl, Nat.le_of_ble_eq_true rfl⟩) (va_recv hK hP (ci := 3) (q0 := 0) rfl rfl) hK hP hD hS hA rfl rfl hl.1 rfl (Nat.le_of_ble_eq_true rfl) dL_pass_3 ⟨Nat.zero_le _, Nat.zero_le _⟩ (fun H locs hP hD hS => ?_)
  refine lv_istore_n (lv' := [(3, .int a2.1), (0, .ref (qa 0 0)), (1, .int x1), (2, .int x2)]) hx hb dL_pass_6 rfl hl (by decide) rfl (fun ls hl => ?_)
  refine lv_aload_n hx hb dL_pass_7 rfl (lv_at hl 1 rfl) ?_
  refine lv_bipush (v := 7) hx hb dL_pass_8 (by decide) ?_
  obtain ⟨r3, hr3, h⟩ := pq_b h
  obtain ⟨a4, e9_, h9_⟩ := pq_inn h
  clear h
  have h := h9_
  clear h9_
  subst e9_
  refine pw_ci (w1 := W3 cy qa P a2.2.1 S nw hz ak a2.2.2 wt cd ln) (rest := []) (As := [.int 7]) hF (kX3_count l D cy qa _ P a2.2.1 S nw hz ak a2.2.2 wt cd ln 7 a4 hr3) (cwV 1 hts (pw_gV (own := RL) (idx := 16) (C := RX3) (y := yX3_count) aw_420 aw_421 aw_422 aw_1 aw_423) rfl rfl rfl pX3_count ⟨Nat.le_of_ble_eq_true rfl, Nat.le_of_ble_eq_true rfl⟩) (va_recv hK hP (ci := 3) (q0 := 0) rfl rfl) hK hP hD hS hA rfl rfl hl.1 rfl (Nat.le_of_ble_eq_true rfl) dL_pass_10 ⟨Nat.zero_le _, Nat.zero_le _⟩ (fun H locs hP hD hS => ?_)
  refine lv_aload_n hx hb dL_pass_13 rfl (lv_at hl 1 rfl) ?_
  refine lv_iload_n hx hb dL_pass_14 rfl (lv_at hl 2 rfl) ?_
  refine lv_iconst (v := 1) hx hb dL_pass_15 (by decide) ?_
  obtain ⟨r5, hr5, h⟩ := pq_b h
  obtain ⟨a6, e9_, h9_⟩ := pq_inn h
  clear h
  have h := h9_
  clear h9_
  subst e9_
  refine pw_ci (w1 := W3 cy qa P a6.2.1 S nw hz ak a6.2.2 wt cd ln) (rest := [.int a4]) (As := [.int x1, .int 1]) hF (kX3_ifPassed l D cy qa _ P a2.2.1 S nw hz ak a2.2.2 wt cd ln x1 1 a6 hr5) (cwV 2 hts (pw_gV (own := RL) (idx := 43) (C := RX3) (y := yX3_ifPassed) aw_504 aw_505 aw_506 aw_1 aw_507) rfl rfl rfl pX3_ifPassed ⟨Nat.le_of_ble_eq_true rfl, Nat.le_of_ble_eq_true rfl⟩) (va_recv hK hP (ci := 3) (q0 := 0) rfl rfl) hK hP hD hS hA rfl rfl hl.1 rfl (Nat.le_of_ble_eq_true rfl) dL_pass_16 ⟨Nat.zero_le _, Nat.zero_le _⟩ (fun H locs hP hD hS => ?_)
  refine lv_iadd hx hb dL_pass_19 ?_
  refine lv_istore (lv' := [(4, .int (a4 + a6.1)), (3, .int a2.1), (0, .ref (qa 0 0)), (1, .int x1), (2, .int x2)]) hx hb dL_pass_20 hl (by decide) rfl (fun ls hl => ?_)
  refine lv_aload_n hx hb dL_pass_22 rfl (lv_at hl 2 rfl) ?_
  refine lv_iload_n hx hb dL_pass_23 rfl (lv_at hl 3 rfl) ?_
  refine lv_iconst (v := 2) hx hb dL_pass_24 (by decide) ?_
  obtain ⟨r7, hr7, h⟩ := pq_b h
  obtain ⟨a8, e9_, h9_⟩ := pq_inn h
  clear h
  have h := h9_
  clear h9_
  subst e9_
  refine pw_ci (w1 := W3 cy qa P a8.2.1 S nw hz ak a8.2.2 wt cd ln) (rest := []) (As := [.int x1, .int 2]) hF (kX3_ifPassed l D cy qa _ P a6.2.1 S nw hz ak a6.2.2 wt cd ln x1 2 a8 hr7) (cwV 2 hts (pw_gV (own := RL) (idx := 43) (C := RX3) (y := yX3_ifPassed) aw_504 aw_505 aw_506 aw_1 aw_507) rfl rfl rfl pX3_ifPassed ⟨Nat.le_of_ble_eq_true rfl, Nat.le_of_ble_eq_true rfl⟩) (va_recv hK hP (ci := 3) (q0 := 0) rfl rfl) hK hP hD hS hA rfl rfl hl.1 rfl (Nat.le_of_ble_eq_true rfl) dL_pass_25 ⟨Nat.zero_le _, Nat.zero_le _⟩ (fun H locs hP hD hS => ?_)
  refine lv_istore (lv' := [(5, .int a8.1), (4, .int (a4 + a6.1)), (3, .int a2.1), (0, .ref (qa 0 0)), (1, .int x1), (2, .int x2)]) hx hb dL_pass_28 hl (by decide) rfl (fun ls hl => ?_)
  refine lv_aload_n hx hb dL_pass_30 rfl (lv_at hl 3 rfl) ?_
  refine lv_iload_n hx hb dL_pass_31 rfl (lv_at hl 4 rfl) ?_
  refine lv_iconst (v := 3) hx hb dL_pass_32 (by decide) ?_
  obtain ⟨r9, hr9, h⟩ := pq_b h
  obtain ⟨a10, e9_, h9_⟩ := pq_inn h
  clear h
  have h := h9_
  clear h9_
  subst e9_
  refine pw_ci (w1 := W3 cy qa P a10.2.1 S nw hz ak a10.2.2 wt cd ln) (rest := []) (As := [.int x1, .int 3]) hF (kX3_ifPassed l D cy qa _ P a8.2.1 S nw hz ak a8.2.2 wt cd ln x1 3 a10 hr9) (cwV 2 hts (pw_gV (own := RL) (idx := 43) (C := RX3) (y := yX3_ifPassed) aw_504 aw_505 aw_506 aw_1 aw_507) rfl rfl rfl pX3_ifPassed ⟨Nat.le_of_ble_eq_true rfl, Nat.le_of_ble_eq_true rfl⟩) (va_recv hK hP (ci := 3) (q0 := 0) rfl rfl) hK hP hD hS hA rfl rfl hl.1 rfl (Nat.le_of_ble_eq_true rfl) dL_pass_33 ⟨Nat.zero_le _, Nat.zero_le _⟩ (fun H locs hP hD hS => ?_)
  refine lv_istore (lv' := [(6, .int a10.1), (5, .int a8.1), (4, .int (a4 + a6.1)), (3, .int a2.1), (0, .ref (qa 0 0)), (1, .int x1), (2, .int x2)]) hx hb dL_pass_36 hl (by decide) rfl (fun ls hl => ?_)
  refine lv_aload_n hx hb dL_pass_38 rfl (lv_at hl 4 rfl) ?_
  refine lv_iload_n hx hb dL_pass_39 rfl (lv_at hl 6 rfl) ?_
  obtain ⟨r11, hr11, h⟩ := pq_b h
  obtain ⟨a12, e9_, h9_⟩ := pq_inn h
  clear h
  have h := h9_
  clear h9_
  subst e9_
  refine pw_ci (w1 := W3 cy qa P a12.2.1 S nw hz ak a10.2.2 a12.2.2 cd ln) (rest := []) (As := [.int x2]) hF (kX3_waitsFor l D cy qa _ P a10.2.1 S nw hz ak a10.2.2 wt cd ln x2 a12 hr11) (cwV 1 hts (pw_gV (own := RL) (idx := 46) (C := RX3) (y := yX3_waitsFor) aw_531 aw_532 aw_533 aw_1 aw_534) rfl rfl rfl pX3_waitsFor ⟨Nat.le_of_ble_eq_true rfl, Nat.le_of_ble_eq_true rfl⟩) (va_recv hK hP (ci := 3) (q0 := 0) rfl rfl) hK hP hD hS hA rfl rfl hl.1 rfl (Nat.le_of_ble_eq_true rfl) dL_pass_40 ⟨Nat.zero_le _, Nat.zero_le _⟩ (fun H locs hP hD hS => ?_)
  refine lv_istore (lv' := [(7, .int a12.1), (6, .int a10.1), (5, .int a8.1), (4, .int (a4 + a6.1)), (3, .int a2.1), (0, .ref (qa 0 0)), (1, .int x1), (2, .int x2)]) hx hb dL_pass_43 hl (by decide) rfl (fun ls hl => ?_)
  refine lv_aload_n hx hb dL_pass_45 rfl (lv_at hl 5 rfl) ?_
  refine lv_iload_n hx hb dL_pass_46 rfl (lv_at hl 7 rfl) ?_
  refine lv_iconst (v := 2) hx hb dL_pass_47 (by decide) ?_
  obtain ⟨r13, hr13, h⟩ := pq_b h
  obtain ⟨a14, e9_, h9_⟩ := pq_inn h
  clear h
  have h := h9_
  clear h9_
  subst e9_
  refine pw_ci (w1 := W3 cy qa P a12.2.1 S nw hz ak a10.2.2 a12.2.2 cd ln) (rest := []) (As := [.int x2, .int 2]) hF (kX3_owner l D cy qa _ P a12.2.1 S nw hz ak a10.2.2 a12.2.2 cd ln x2 2 a14 hr13) (cwV 2 hts (pw_gV (own := RL) (idx := 23) (C := RX3) (y := yX3_owner) aw_410 aw_411 aw_412 aw_1 aw_413) rfl rfl rfl pX3_owner ⟨Nat.le_of_ble_eq_true rfl, Nat.le_of_ble_eq_true rfl⟩) (va_recv hK hP (ci := 3) (q0 := 0) rfl rfl) hK hP hD hS hA rfl rfl hl.1 rfl (Nat.le_of_ble_eq_true rfl) dL_pass_48 ⟨Nat.zero_le _, Nat.zero_le _⟩ (fun H locs hP hD hS => ?_)
  obtain ⟨v15, hv15, h⟩ := pq_b h
  have J59_v15 : ∀ (H : Heap) (locs : List Loc) (ls : Array Slot), va_P D vwCl (W3 cy qa P a12.2.1 S nw hz ak a10.2.2 a12.2.2 cd ln) H → va_D A (W3 cy qa P a12.2.1 S nw hz ak a10.2.2 a12.2.2 cd ln) → va_S A s.heap H locs → lv_has ls 18 [(0, .ref (qa 0 0)), (1, .int x1), (2, .int x2), (3, .int a2.1), (4, .int (a4 + a6.1)), (5, .int a8.1), (6, .int a10.1), (7, .int a12.1)] → W p l e ({ frames := 7, cells := 0, slots := 0, locals := 159 } : Room) s m args below meth c H locs 0 0 Q (F0 m 59 ls [.int v15]) := by
    intro H locs ls hP hD hS hl
    refine lv_istore (lv' := [(8, .int v15), (0, .ref (qa 0 0)), (1, .int x1), (2, .int x2), (3, .int a2.1), (4, .int (a4 + a6.1)), (5, .int a8.1), (6, .int a10.1), (7, .int a12.1)]) hx hb dL_pass_59 hl (by decide) rfl (fun ls hl => ?_)
    refine lv_aload_n hx hb dL_pass_61 rfl (lv_at hl 1 rfl) ?_
    refine lv_iload_n hx hb dL_pass_62 rfl (lv_at hl 3 rfl) ?_
    refine lv_iconst (v := 3) hx hb dL_pass_63 (by decide) ?_
    obtain ⟨r16, hr16, h⟩ := pq_b h
    obtain ⟨a17, e9_, h9_⟩ := pq_inn h
    clear h
    have h := h9_
    clear h9_
    subst e9_
    refine pw_ci (w1 := W3 cy qa P a12.2.1 S nw hz ak a10.2.2 a12.2.2 cd ln) (rest := []) (As := [.int x2, .int 3]) hF (kX3_owner l D cy qa _ P a12.2.1 S nw hz ak a10.2.2 a12.2.2 cd ln x2 3 a17 hr16) (cwV 2 hts (pw_gV (own := RL) (idx := 23) (C := RX3) (y := yX3_owner) aw_410 aw_411 aw_412 aw_1 aw_413) rfl rfl rfl pX3_owner ⟨Nat.le_of_ble_eq_true rfl, Nat.le_of_ble_eq_true rfl⟩) (va_recv hK hP (ci := 3) (q0 := 0) rfl rfl) hK hP hD hS hA rfl rfl hl.1 rfl (Nat.le_of_ble_eq_true rfl) dL_pass_64 ⟨Nat.zero_le _, Nat.zero_le _⟩ (fun H locs hP hD hS => ?_)
    refine lv_istore (lv' := [(9, .int a17), (8, .int v15), (0, .ref (qa 0 0)), (1, .int x1), (2, .int x2), (3, .int a2.1), (4, .int (a4 + a6.1)), (5, .int a8.1), (6, .int a10.1), (7, .int a12.1)]) hx hb dL_pass_67 hl (by decide) rfl (fun ls hl => ?_)
    refine lv_aload_n hx hb dL_pass_69 rfl (lv_at hl 2 rfl) ?_
    refine lv_iload_n hx hb dL_pass_70 rfl (lv_at hl 4 rfl) ?_
    refine lv_iconst (v := 4) hx hb dL_pass_71 (by decide) ?_
    obtain ⟨r18, hr18, h⟩ := pq_b h
    obtain ⟨a19, e9_, h9_⟩ := pq_inn h
    clear h
    have h := h9_
    clear h9_
    subst e9_
    refine pw_ci (w1 := W3 cy qa P a12.2.1 S nw hz ak a10.2.2 a12.2.2 cd ln) (rest := []) (As := [.int x2, .int 4]) hF (kX3_owner l D cy qa _ P a12.2.1 S nw hz ak a10.2.2 a12.2.2 cd ln x2 4 a19 hr18) (cwV 2 hts (pw_gV (own := RL) (idx := 23) (C := RX3) (y := yX3_owner) aw_410 aw_411 aw_412 aw_1 aw_413) rfl rfl rfl pX3_owner ⟨Nat.le_of_ble_eq_true rfl, Nat.le_of_ble_eq_true rfl⟩) (va_recv hK hP (ci := 3) (q0 := 0) rfl rfl) hK hP hD hS hA rfl rfl hl.1 rfl (Nat.le_of_ble_eq_true rfl) dL_pass_72 ⟨Nat.zero_le _, Nat.zero_le _⟩ (fun H locs hP hD hS => ?_)
    refine lv_istore (lv' := [(10, .int a19), (9, .int a17), (8, .int v15), (0, .ref (qa 0 0)), (1, .int x1), (2, .int x2), (3, .int a2.1), (4, .int (a4 + a6.1)), (5, .int a8.1), (6, .int a10.1), (7, .int a12.1)]) hx hb dL_pass_75 hl (by decide) rfl (fun ls hl => ?_)
    refine lv_aload_n hx hb dL_pass_77 rfl (lv_at hl 3 rfl) ?_
    refine lv_iload_n hx hb dL_pass_78 rfl (lv_at hl 5 rfl) ?_
    refine lv_iconst (v := 5) hx hb dL_pass_79 (by decide) ?_
    obtain ⟨r20, hr20, h⟩ := pq_b h
    obtain ⟨a21, e9_, h9_⟩ := pq_inn h
    clear h
    have h := h9_
    clear h9_
    subst e9_
    refine pw_ci (w1 := W3 cy qa P a12.2.1 S nw hz ak a10.2.2 a12.2.2 cd ln) (rest := []) (As := [.int x2, .int 5]) hF (kX3_owner l D cy qa _ P a12.2.1 S nw hz ak a10.2.2 a12.2.2 cd ln x2 5 a21 hr20) (cwV 2 hts (pw_gV (own := RL) (idx := 23) (C := RX3) (y := yX3_owner) aw_410 aw_411 aw_412 aw_1 aw_413) rfl rfl rfl pX3_owner ⟨Nat.le_of_ble_eq_true rfl, Nat.le_of_ble_eq_true rfl⟩) (va_recv hK hP (ci := 3) (q0 := 0) rfl rfl) hK hP hD hS hA rfl rfl hl.1 rfl (Nat.le_of_ble_eq_true rfl) dL_pass_80 ⟨Nat.zero_le _, Nat.zero_le _⟩ (fun H locs hP hD hS => ?_)
    refine lv_istore (lv' := [(11, .int a21), (10, .int a19), (9, .int a17), (8, .int v15), (0, .ref (qa 0 0)), (1, .int x1), (2, .int x2), (3, .int a2.1), (4, .int (a4 + a6.1)), (5, .int a8.1), (6, .int a10.1), (7, .int a12.1)]) hx hb dL_pass_83 hl (by decide) rfl (fun ls hl => ?_)
    refine lv_aload_n hx hb dL_pass_85 rfl (lv_at hl 4 rfl) ?_
    refine lv_iload_n hx hb dL_pass_86 rfl (lv_at hl 6 rfl) ?_
    refine lv_bipush (v := 6) hx hb dL_pass_87 (by decide) ?_
    obtain ⟨r22, hr22, h⟩ := pq_b h
    obtain ⟨a23, e9_, h9_⟩ := pq_inn h
    clear h
    have h := h9_
    clear h9_
    subst e9_
    refine pw_ci (w1 := W3 cy qa P a12.2.1 S nw hz ak a10.2.2 a12.2.2 cd ln) (rest := []) (As := [.int x2, .int 6]) hF (kX3_owner l D cy qa _ P a12.2.1 S nw hz ak a10.2.2 a12.2.2 cd ln x2 6 a23 hr22) (cwV 2 hts (pw_gV (own := RL) (idx := 23) (C := RX3) (y := yX3_owner) aw_410 aw_411 aw_412 aw_1 aw_413) rfl rfl rfl pX3_owner ⟨Nat.le_of_ble_eq_true rfl, Nat.le_of_ble_eq_true rfl⟩) (va_recv hK hP (ci := 3) (q0 := 0) rfl rfl) hK hP hD hS hA rfl rfl hl.1 rfl (Nat.le_of_ble_eq_true rfl) dL_pass_89 ⟨Nat.zero_le _, Nat.zero_le _⟩ (fun H locs hP hD hS => ?_)
    refine lv_istore (lv' := [(12, .int a23), (11, .int a21), (10, .int a19), (9, .int a17), (8, .int v15), (0, .ref (qa 0 0)), (1, .int x1), (2, .int x2), (3, .int a2.1), (4, .int (a4 + a6.1)), (5, .int a8.1), (6, .int a10.1), (7, .int a12.1)]) hx hb dL_pass_92 hl (by decide) rfl (fun ls hl => ?_)
    refine lv_aload_n hx hb dL_pass_94 rfl (lv_at hl 5 rfl) ?_
    refine lv_iconst (v := 0) hx hb dL_pass_95 (by decide) ?_
    obtain ⟨r24, hr24, h⟩ := pq_b h
    obtain ⟨a25, e9_, h9_⟩ := pq_inn h
    clear h
    have h := h9_
    clear h9_
    subst e9_
    refine pw_ci (w1 := W3 cy qa P a12.2.1 S nw hz ak a10.2.2 a12.2.2 cd ln) (rest := []) (As := [.int 0]) hF (kX3_count l D cy qa _ P a12.2.1 S nw hz ak a10.2.2 a12.2.2 cd ln 0 a25 hr24) (cwV 1 hts (pw_gV (own := RL) (idx := 16) (C := RX3) (y := yX3_count) aw_420 aw_421 aw_422 aw_1 aw_423) rfl rfl rfl pX3_count ⟨Nat.le_of_ble_eq_true rfl, Nat.le_of_ble_eq_true rfl⟩) (va_recv hK hP (ci := 3) (q0 := 0) rfl rfl) hK hP hD hS hA rfl rfl hl.1 rfl (Nat.le_of_ble_eq_true rfl) dL_pass_96 ⟨Nat.zero_le _, Nat.zero_le _⟩ (fun H locs hP hD hS => ?_)
    refine lv_istore (lv' := [(13, .int a25), (12, .int a23), (11, .int a21), (10, .int a19), (9, .int a17), (8, .int v15), (0, .ref (qa 0 0)), (1, .int x1), (2, .int x2), (3, .int a2.1), (4, .int (a4 + a6.1)), (5, .int a8.1), (6, .int a10.1), (7, .int a12.1)]) hx hb dL_pass_99 hl (by decide) rfl (fun ls hl => ?_)
    refine lv_aload_n hx hb dL_pass_101 rfl (lv_at hl 6 rfl) ?_
    refine lv_iload_n hx hb dL_pass_102 rfl (lv_at hl 7 rfl) ?_
    obtain ⟨r26, hr26, h⟩ := pq_b h
    obtain ⟨a27, e9_, h9_⟩ := pq_inn h
    clear h
    have h := h9_
    clear h9_
    subst e9_
    refine pw_ci (w1 := W3 cy qa a27.2.1 a12.2.1 a27.2.2.1 a27.2.2.2.1 a27.2.2.2.2 ak a10.2.2 a12.2.2 cd ln) (rest := []) (As := [.int x1]) hF (kX3_pass l D cy qa _ P a12.2.1 S nw hz ak a10.2.2 a12.2.2 cd ln x1 a27 hr26) (cwV 1 hts (pw_gV (own := RL) (idx := 49) (C := RX3) (y := yX3_pass) aw_539 aw_540 aw_541 aw_1 aw_542) rfl rfl rfl pX3_pass ⟨Nat.le_of_ble_eq_true rfl, Nat.le_of_ble_eq_true rfl⟩) (va_recv hK hP (ci := 3) (q0 := 0) rfl rfl) hK hP hD hS hA rfl rfl hl.1 rfl (Nat.le_of_ble_eq_true rfl) dL_pass_103 ⟨Nat.zero_le _, Nat.zero_le _⟩ (fun H locs hP hD hS => ?_)
    refine lv_iload_n hx hb dL_pass_106 rfl (lv_at hl 9 rfl) ?_
    obtain ⟨c2_, h⟩ := pq_g h
    refine lv_icmp_ne (tgt := 153) hx hb dL_pass_107 (by decide) (fun cc_ => absurd c2_ cc_) (fun _ => ?_)
    refine lv_aload_n hx hb dL_pass_110 rfl (lv_at hl 6 rfl) ?_
    refine lv_bipush (v := 7) hx hb dL_pass_111 (by decide) ?_
    obtain ⟨r28, hr28, h⟩ := pq_b h
    obtain ⟨a29, e9_, h9_⟩ := pq_inn h
    clear h
    have h := h9_
    clear h9_
    subst e9_
    refine pw_ci (w1 := W3 cy qa a27.2.1 a12.2.1 a27.2.2.1 a27.2.2.2.1 a27.2.2.2.2 ak a10.2.2 a12.2.2 cd ln) (rest := []) (As := [.int 7]) hF (kX3_count l D cy qa _ a27.2.1 a12.2.1 a27.2.2.1 a27.2.2.2.1 a27.2.2.2.2 ak a10.2.2 a12.2.2 cd ln 7 a29 hr28) (cwV 1 hts (pw_gV (own := RL) (idx := 16) (C := RX3) (y := yX3_count) aw_420 aw_421 aw_422 aw_1 aw_423) rfl rfl rfl pX3_count ⟨Nat.le_of_ble_eq_true rfl, Nat.le_of_ble_eq_true rfl⟩) (va_recv hK hP (ci := 3) (q0 := 0) rfl rfl) hK hP hD hS hA rfl rfl hl.1 rfl (Nat.le_of_ble_eq_true rfl) dL_pass_113 ⟨Nat.zero_le _, Nat.zero_le _⟩ (fun H locs hP hD hS => ?_)
    refine lv_iload hx hb dL_pass_116 (lv_at hl 10 rfl) ?_
    obtain ⟨c3_, h⟩ := pq_g h
    refine lv_icmp_ne (tgt := 153) hx hb dL_pass_118 (by decide) (fun cc_ => absurd c3_ cc_) (fun _ => ?_)
    refine lv_aload_n hx hb dL_pass_121 rfl (lv_at hl 6 rfl) ?_
    refine lv_iconst (v := 1) hx hb dL_pass_122 (by decide) ?_
    obtain ⟨r30, hr30, h⟩ := pq_b h
    obtain ⟨a31, e9_, h9_⟩ := pq_inn h
    clear h
    have h := h9_
    clear h9_
    subst e9_
    refine pw_ci (w1 := W3 cy qa a27.2.1 a12.2.1 a27.2.2.1 a27.2.2.2.1 a27.2.2.2.2 ak a10.2.2 a12.2.2 cd ln) (rest := []) (As := [.int 1]) hF (kX3_count l D cy qa _ a27.2.1 a12.2.1 a27.2.2.1 a27.2.2.2.1 a27.2.2.2.2 ak a10.2.2 a12.2.2 cd ln 1 a31 hr30) (cwV 1 hts (pw_gV (own := RL) (idx := 16) (C := RX3) (y := yX3_count) aw_420 aw_421 aw_422 aw_1 aw_423) rfl rfl rfl pX3_count ⟨Nat.le_of_ble_eq_true rfl, Nat.le_of_ble_eq_true rfl⟩) (va_recv hK hP (ci := 3) (q0 := 0) rfl rfl) hK hP hD hS hA rfl rfl hl.1 rfl (Nat.le_of_ble_eq_true rfl) dL_pass_123 ⟨Nat.zero_le _, Nat.zero_le _⟩ (fun H locs hP hD hS => ?_)
    refine lv_iload hx hb dL_pass_126 (lv_at hl 11 rfl) ?_
    obtain ⟨c4_, h⟩ := pq_g h
    refine lv_icmp_ne (tgt := 153) hx hb dL_pass_128 (by decide) (fun cc_ => absurd c4_ cc_) (fun _ => ?_)
    refine lv_aload_n hx hb dL_pass_131 rfl (lv_at hl 6 rfl) ?_
    refine lv_iconst (v := 5) hx hb dL_pass_132 (by decide) ?_
    obtain ⟨r32, hr32, h⟩ := pq_b h
    obtain ⟨a33, e9_, h9_⟩ := pq_inn h
    clear h
    have h := h9_
    clear h9_
    subst e9_
    refine pw_ci (w1 := W3 cy qa a27.2.1 a12.2.1 a27.2.2.1 a27.2.2.2.1 a27.2.2.2.2 ak a10.2.2 a12.2.2 cd ln) (rest := []) (As := [.int 5]) hF (kX3_count l D cy qa _ a27.2.1 a12.2.1 a27.2.2.1 a27.2.2.2.1 a27.2.2.2.2 ak a10.2.2 a12.2.2 cd ln 5 a33 hr32) (cwV 1 hts (pw_gV (own := RL) (idx := 16) (C := RX3) (y := yX3_count) aw_420 aw_421 aw_422 aw_1 aw_423) rfl rfl rfl pX3_count ⟨Nat.le_of_ble_eq_true rfl, Nat.le_of_ble_eq_true rfl⟩) (va_recv hK hP (ci := 3) (q0 := 0) rfl rfl) hK hP hD hS hA rfl rfl hl.1 rfl (Nat.le_of_ble_eq_true rfl) dL_pass_133 ⟨Nat.zero_le _, Nat.zero_le _⟩ (fun H locs hP hD hS => ?_)
    refine lv_iload hx hb dL_pass_136 (lv_at hl 12 rfl) ?_
    obtain ⟨c5_, h⟩ := pq_g h
    refine lv_icmp_ne (tgt := 153) hx hb dL_pass_138 (by decide) (fun cc_ => absurd c5_ cc_) (fun _ => ?_)
    refine lv_aload_n hx hb dL_pass_141 rfl (lv_at hl 6 rfl) ?_
    refine lv_iconst (v := 0) hx hb dL_pass_142 (by decide) ?_
    obtain ⟨r34, hr34, h⟩ := pq_b h
    obtain ⟨a35, e9_, h9_⟩ := pq_inn h
    clear h
    have h := h9_
    clear h9_
    subst e9_
    refine pw_ci (w1 := W3 cy qa a27.2.1 a12.2.1 a27.2.2.1 a27.2.2.2.1 a27.2.2.2.2 ak a10.2.2 a12.2.2 cd ln) (rest := []) (As := [.int 0]) hF (kX3_count l D cy qa _ a27.2.1 a12.2.1 a27.2.2.1 a27.2.2.2.1 a27.2.2.2.2 ak a10.2.2 a12.2.2 cd ln 0 a35 hr34) (cwV 1 hts (pw_gV (own := RL) (idx := 16) (C := RX3) (y := yX3_count) aw_420 aw_421 aw_422 aw_1 aw_423) rfl rfl rfl pX3_count ⟨Nat.le_of_ble_eq_true rfl, Nat.le_of_ble_eq_true rfl⟩) (va_recv hK hP (ci := 3) (q0 := 0) rfl rfl) hK hP hD hS hA rfl rfl hl.1 rfl (Nat.le_of_ble_eq_true rfl) dL_pass_143 ⟨Nat.zero_le _, Nat.zero_le _⟩ (fun H locs hP hD hS => ?_)
    refine lv_iload hx hb dL_pass_146 (lv_at hl 0 rfl) ?_
    refine lv_iload_n hx hb dL_pass_148 rfl (lv_at hl 7 rfl) ?_
    refine lv_iadd hx hb dL_pass_149 ?_
    obtain ⟨c6_, h⟩ := pq_g h
    refine lv_icmp_eq (tgt := 155) hx hb dL_pass_150 (by decide) (fun _ => ?_) (fun cc_ => absurd c6_ cc_)
    refine lv_iload hx hb dL_pass_155 (lv_at hl 5 rfl) ?_
    refine lv_if_ne (tgt := 183) hx hb dL_pass_157 (by decide) (fun c7_ => ?_) (fun c7_ => ?_)
    · have h := pq_e c7_ h
      refine lv_iload hx hb dL_pass_183 (lv_at hl 4 rfl) ?_
      refine lv_aload_n hx hb dL_pass_185 rfl (lv_at hl 6 rfl) ?_
      refine lv_bipush (v := 8) hx hb dL_pass_186 (by decide) ?_
      obtain ⟨r36, hr36, h⟩ := pq_b h
      obtain ⟨a37, e9_, h9_⟩ := pq_inn h
      clear h
      have h := h9_
      clear h9_
      subst e9_
      refine pw_ci (w1 := W3 cy qa a27.2.1 a12.2.1 a27.2.2.1 a27.2.2.2.1 a27.2.2.2.2 ak a10.2.2 a12.2.2 cd ln) (rest := [.int a17]) (As := [.int 8]) hF (kX3_setting l D cy qa _ a27.2.1 a12.2.1 a27.2.2.1 a27.2.2.2.1 a27.2.2.2.2 ak a10.2.2 a12.2.2 cd ln 8 a37 hr36) (cwV 1 hts (pw_gV (own := RL) (idx := 20) (C := RX3) (y := yX3_setting) aw_444 aw_445 aw_446 aw_1 aw_447) rfl rfl rfl pX3_setting ⟨Nat.le_of_ble_eq_true rfl, Nat.le_of_ble_eq_true rfl⟩) (va_recv hK hP (ci := 3) (q0 := 0) rfl rfl) hK hP hD hS hA rfl rfl hl.1 rfl (Nat.le_of_ble_eq_true rfl) dL_pass_188 ⟨Nat.zero_le _, Nat.zero_le _⟩ (fun H locs hP hD hS => ?_)
      obtain ⟨v38, hv38, h⟩ := pq_b h
      have J207_v38 : ∀ (H : Heap) (locs : List Loc) (ls : Array Slot), va_P D vwCl (W3 cy qa a27.2.1 a12.2.1 a27.2.2.1 a27.2.2.2.1 a27.2.2.2.2 ak a10.2.2 a12.2.2 cd ln) H → va_D A (W3 cy qa a27.2.1 a12.2.1 a27.2.2.1 a27.2.2.2.1 a27.2.2.2.2 ak a10.2.2 a12.2.2 cd ln) → va_S A s.heap H locs → lv_has ls 18 [(0, .ref (qa 0 0)), (1, .int x1), (2, .int x2), (7, .int a12.1), (9, .int a17), (10, .int a19), (11, .int a21), (12, .int a23)] → W p l e ({ frames := 7, cells := 0, slots := 0, locals := 159 } : Room) s m args below meth c H locs 0 0 Q (F0 m 207 ls [.int v38]) := by
        intro H locs ls hP hD hS hl
        refine lv_istore (lv' := [(14, .int v38), (0, .ref (qa 0 0)), (1, .int x1), (2, .int x2), (7, .int a12.1), (9, .int a17), (10, .int a19), (11, .int a21), (12, .int a23)]) hx hb dL_pass_207 hl (by decide) rfl (fun ls hl => ?_)
        refine lv_iload hx hb dL_pass_209 (lv_at hl 4 rfl) ?_
        obtain ⟨v41, hv41, h⟩ := pq_b h
        have J225_v41 : ∀ (H : Heap) (locs : List Loc) (ls : Array Slot), va_P D vwCl (W3 cy qa a27.2.1 a12.2.1 a27.2.2.1 a27.2.2.2.1 a27.2.2.2.2 ak a10.2.2 a12.2.2 cd ln) H → va_D A (W3 cy qa a27.2.1 a12.2.1 a27.2.2.1 a27.2.2.2.1 a27.2.2.2.2 ak a10.2.2 a12.2.2 cd ln) → va_S A s.heap H locs → lv_has ls 18 [(0, .ref (qa 0 0)), (1, .int x1), (2, .int x2), (7, .int a12.1), (9, .int a17), (10, .int a19), (11, .int a21), (12, .int a23), (14, .int v38)] → W p l e ({ frames := 7, cells := 0, slots := 0, locals := 159 } : Room) s m args below meth c H locs 0 0 Q (F0 m 225 ls [.int v41]) := by
          intro H locs ls hP hD hS hl
          refine lv_istore (lv' := [(15, .int v41), (0, .ref (qa 0 0)), (1, .int x1), (2, .int x2), (7, .int a12.1), (9, .int a17), (10, .int a19), (11, .int a21), (12, .int a23), (14, .int v38)]) hx hb dL_pass_225 hl (by decide) rfl (fun ls hl => ?_)
          refine lv_iload hx hb dL_pass_227 (lv_at hl 4 rfl) ?_
          obtain ⟨v42, hv42, h⟩ := pq_b h
          have J243_v42 : ∀ (H : Heap) (locs : List Loc) (ls : Array Slot), va_P D vwCl (W3 cy qa a27.2.1 a12.2.1 a27.2.2.1 a27.2.2.2.1 a27.2.2.2.2 ak a10.2.2 a12.2.2 cd ln) H → va_D A (W3 cy qa a27.2.1 a12.2.1 a27.2.2.1 a27.2.2.2.1 a27.2.2.2.2 ak a10.2.2 a12.2.2 cd ln) → va_S A s.heap H locs → lv_has ls 18 [(0, .ref (qa 0 0)), (2, .int x2), (7, .int a12.1), (9, .int a17), (10, .int a19), (11, .int a21), (12, .int a23), (14, .int v38), (15, .int v41)] → W p l e ({ frames := 7, cells := 0, slots := 0, locals := 159 } : Room) s m args below meth c H locs 0 0 Q (F0 m 243 ls [.int v42]) := by
            intro H locs ls hP hD hS hl
            refine lv_istore (lv' := [(16, .int v42), (0, .ref (qa 0 0)), (2, .int x2), (7, .int a12.1), (9, .int a17), (10, .int a19), (11, .int a21), (12, .int a23), (14, .int v38), (15, .int v41)]) hx hb dL_pass_243 hl (by decide) rfl (fun ls hl => ?_)
            refine lv_iload hx hb dL_pass_245 (lv_at hl 3 rfl) ?_
            obtain ⟨v43, hv43, h⟩ := pq_b h
            have J263_v43 : ∀ (H : Heap) (locs : List Loc) (ls : Array Slot), va_P D vwCl (W3 cy qa a27.2.1 a12.2.1 a27.2.2.1 a27.2.2.2.1 a27.2.2.2.2 ak a10.2.2 a12.2.2 cd ln) H → va_D A (W3 cy qa a27.2.1 a12.2.1 a27.2.2.1 a27.2.2.2.1 a27.2.2.2.2 ak a10.2.2 a12.2.2 cd ln) → va_S A s.heap H locs → lv_has ls 18 [(0, .ref (qa 0 0)), (2, .int x2), (7, .int a12.1), (9, .int a17), (10, .int a19), (11, .int a21), (12, .int a23), (15, .int v41), (16, .int v42)] → W p l e ({ frames := 7, cells := 0, slots := 0, locals := 159 } : Room) s m args below meth c H locs 0 0 Q (F0 m 263 ls []) := by
              intro H locs ls hP hD hS hl
              refine lv_iconst (v := 1) hx hb dL_pass_263 (by decide) ?_
              refine lv_goto (tgt := 268) hx hb dL_pass_264 (by decide) ?_
              refine lv_istore (lv' := [(17, .int 1), (0, .ref (qa 0 0)), (2, .int x2), (7, .int a12.1), (9, .int a17), (10, .int a19), (11, .int a21), (12, .int a23), (15, .int v41), (16, .int v42)]) hx hb dL_pass_268 hl (by decide) rfl (fun ls hl => ?_)
              refine lv_iload hx hb dL_pass_270 (lv_at hl 0 rfl) ?_
              refine lv_if_eq (tgt := 355) hx hb dL_pass_272 (by decide) (fun c16_ => absurd c16_ (by decide)) (fun c16_ => ?_)
              refine lv_aload_n hx hb dL_pass_275 rfl (lv_at hl 1 rfl) ?_
              refine lv_iload_n hx hb dL_pass_276 rfl (lv_at hl 2 rfl) ?_
              refine lv_iconst (v := 4) hx hb dL_pass_277 (by decide) ?_
              obtain ⟨r44, hr44, h⟩ := pq_b h
              obtain ⟨a45, e9_, h9_⟩ := pq_inn h
              clear h
              have h := h9_
              clear h9_
              subst e9_
              refine pw_ci (w1 := W3 cy qa a27.2.1 a12.2.1 a27.2.2.1 a27.2.2.2.1 a27.2.2.2.2 ak a10.2.2 a12.2.2 cd ln) (rest := []) (As := [.int x2, .int 4]) hF (kX3_owner l D cy qa _ a27.2.1 a12.2.1 a27.2.2.1 a27.2.2.2.1 a27.2.2.2.2 ak a10.2.2 a12.2.2 cd ln x2 4 a45 hr44) (cwV 2 hts (pw_gV (own := RL) (idx := 23) (C := RX3) (y := yX3_owner) aw_410 aw_411 aw_412 aw_1 aw_413) rfl rfl rfl pX3_owner ⟨Nat.le_of_ble_eq_true rfl, Nat.le_of_ble_eq_true rfl⟩) (va_recv hK hP (ci := 3) (q0 := 0) rfl rfl) hK hP hD hS hA rfl rfl hl.1 rfl (Nat.le_of_ble_eq_true rfl) dL_pass_278 ⟨Nat.zero_le _, Nat.zero_le _⟩ (fun H locs hP hD hS => ?_)
              refine lv_iload hx hb dL_pass_281 (lv_at hl 5 rfl) ?_
              refine lv_iload hx hb dL_pass_283 (lv_at hl 8 rfl) ?_
              obtain ⟨v46, hv46, h⟩ := pq_b h
              have J293_v46 : ∀ (H : Heap) (locs : List Loc) (ls : Array Slot), va_P D vwCl (W3 cy qa a27.2.1 a12.2.1 a27.2.2.1 a27.2.2.2.1 a27.2.2.2.2 ak a10.2.2 a12.2.2 cd ln) H → va_D A (W3 cy qa a27.2.1 a12.2.1 a27.2.2.1 a27.2.2.2.1 a27.2.2.2.2 ak a10.2.2 a12.2.2 cd ln) → va_S A s.heap H locs → lv_has ls 18 [(0, .ref (qa 0 0)), (2, .int x2), (7, .int a12.1), (9, .int a17), (11, .int a21), (12, .int a23), (15, .int v41), (16, .int v42)] → W p l e ({ frames := 7, cells := 0, slots := 0, locals := 159 } : Room) s m args below meth c H locs 0 0 Q (F0 m 293 ls [.int v46, .int a19, .int a45]) := by
                intro H locs ls hP hD hS hl
                refine lv_iadd hx hb dL_pass_293 ?_
                obtain ⟨c18_, h⟩ := pq_g h
                refine lv_icmp_ne (tgt := 355) hx hb dL_pass_294 (by decide) (fun cc_ => absurd c18_ cc_) (fun _ => ?_)
                refine lv_aload_n hx hb dL_pass_297 rfl (lv_at hl 0 rfl) ?_
                refine lv_iload_n hx hb dL_pass_298 rfl (lv_at hl 1 rfl) ?_
                refine lv_iconst (v := 5) hx hb dL_pass_299 (by decide) ?_
                obtain ⟨r47, hr47, h⟩ := pq_b h
                obtain ⟨a48, e9_, h9_⟩ := pq_inn h
                clear h
                have h := h9_
                clear h9_
                subst e9_
                refine pw_ci (w1 := W3 cy qa a27.2.1 a12.2.1 a27.2.2.1 a27.2.2.2.1 a27.2.2.2.2 ak a10.2.2 a12.2.2 cd ln) (rest := []) (As := [.int x2, .int 5]) hF (kX3_owner l D cy qa _ a27.2.1 a12.2.1 a27.2.2.1 a27.2.2.2.1 a27.2.2.2.2 ak a10.2.2 a12.2.2 cd ln x2 5 a48 hr47) (cwV 2 hts (pw_gV (own := RL) (idx := 23) (C := RX3) (y := yX3_owner) aw_410 aw_411 aw_412 aw_1 aw_413) rfl rfl rfl pX3_owner ⟨Nat.le_of_ble_eq_true rfl, Nat.le_of_ble_eq_true rfl⟩) (va_recv hK hP (ci := 3) (q0 := 0) rfl rfl) hK hP hD hS hA rfl rfl hl.1 rfl (Nat.le_of_ble_eq_true rfl) dL_pass_300 ⟨Nat.zero_le _, Nat.zero_le _⟩ (fun H locs hP hD hS => ?_)
                refine lv_iload hx hb dL_pass_303 (lv_at hl 4 rfl) ?_
                refine lv_iload hx hb dL_pass_305 (lv_at hl 7 rfl) ?_
                obtain ⟨v49, hv49, h⟩ := pq_b h
                have J315_v49 : ∀ (H : Heap) (locs : List Loc) (ls : Array Slot), va_P D vwCl (W3 cy qa a27.2.1 a12.2.1 a27.2.2.1 a27.2.2.2.1 a27.2.2.2.2 ak a10.2.2 a12.2.2 cd ln) H → va_D A (W3 cy qa a27.2.1 a12.2.1 a27.2.2.1 a27.2.2.2.1 a27.2.2.2.2 ak a10.2.2 a12.2.2 cd ln) → va_S A s.heap H locs → lv_has ls 18 [(0, .ref (qa 0 0)), (2, .int x2), (7, .int a12.1), (9, .int a17), (12, .int a23), (15, .int v41), (16, .int v42)] → W p l e ({ frames := 7, cells := 0, slots := 0, locals := 159 } : Room) s m args below meth c H locs 0 0 Q (F0 m 315 ls [.int v49, .int a21, .int a48]) := by
                  intro H locs ls hP hD hS hl
                  refine lv_iadd hx hb dL_pass_315 ?_
                  obtain ⟨c20_, h⟩ := pq_g h
                  refine lv_icmp_ne (tgt := 355) hx hb dL_pass_316 (by decide) (fun cc_ => absurd c20_ cc_) (fun _ => ?_)
                  refine lv_aload_n hx hb dL_pass_319 rfl (lv_at hl 0 rfl) ?_
                  refine lv_iload_n hx hb dL_pass_320 rfl (lv_at hl 1 rfl) ?_
                  refine lv_iconst (v := 2) hx hb dL_pass_321 (by decide) ?_
                  obtain ⟨r50, hr50, h⟩ := pq_b h
                  obtain ⟨a51, e9_, h9_⟩ := pq_inn h
                  clear h
                  have h := h9_
                  clear h9_
                  subst e9_
                  refine pw_ci (w1 := W3 cy qa a27.2.1 a12.2.1 a27.2.2.1 a27.2.2.2.1 a27.2.2.2.2 ak a10.2.2 a12.2.2 cd ln) (rest := []) (As := [.int x2, .int 2]) hF (kX3_owner l D cy qa _ a27.2.1 a12.2.1 a27.2.2.1 a27.2.2.2.1 a27.2.2.2.2 ak a10.2.2 a12.2.2 cd ln x2 2 a51 hr50) (cwV 2 hts (pw_gV (own := RL) (idx := 23) (C := RX3) (y := yX3_owner) aw_410 aw_411 aw_412 aw_1 aw_413) rfl rfl rfl pX3_owner ⟨Nat.le_of_ble_eq_true rfl, Nat.le_of_ble_eq_true rfl⟩) (va_recv hK hP (ci := 3) (q0 := 0) rfl rfl) hK hP hD hS hA rfl rfl hl.1 rfl (Nat.le_of_ble_eq_true rfl) dL_pass_322 ⟨Nat.zero_le _, Nat.zero_le _⟩ (fun H locs hP hD hS => ?_)
                  obtain ⟨v52, hv52, h⟩ := pq_b h
                  have J333_v52 : ∀ (H : Heap) (locs : List Loc) (ls : Array Slot), va_P D vwCl (W3 cy qa a27.2.1 a12.2.1 a27.2.2.1 a27.2.2.2.1 a27.2.2.2.2 ak a10.2.2 a12.2.2 cd ln) H → va_D A (W3 cy qa a27.2.1 a12.2.1 a27.2.2.1 a27.2.2.2.1 a27.2.2.2.2 ak a10.2.2 a12.2.2 cd ln) → va_S A s.heap H locs → lv_has ls 18 [(0, .ref (qa 0 0)), (2, .int x2), (7, .int a12.1), (9, .int a17), (12, .int a23), (15, .int v41), (16, .int v42)] → W p l e ({ frames := 7, cells := 0, slots := 0, locals := 159 } : Room) s m args below meth c H locs 0 0 Q (F0 m 333 ls [.int v52]) := by
                    intro H locs ls hP hD hS hl
                    refine lv_iload hx hb dL_pass_333 (lv_at hl 5 rfl) ?_
                    obtain ⟨v53, hv53, h⟩ := pq_b h
                    have J348_v53 : ∀ (H : Heap) (locs : List Loc) (ls : Array Slot), va_P D vwCl (W3 cy qa a27.2.1 a12.2.1 a27.2.2.1 a27.2.2.2.1 a27.2.2.2.2 ak a10.2.2 a12.2.2 cd ln) H → va_D A (W3 cy qa a27.2.1 a12.2.1 a27.2.2.1 a27.2.2.2.1 a27.2.2.2.2 ak a10.2.2 a12.2.2 cd ln) → va_S A s.heap H locs → lv_has ls 18 [(0, .ref (qa 0 0)), (2, .int x2), (7, .int a12.1), (9, .int a17), (12, .int a23), (15, .int v41)] → W p l e ({ frames := 7, cells := 0, slots := 0, locals := 159 } : Room) s m args below meth c H locs 0 0 Q (F0 m 348 ls [.int v53, .int v52]) := by
                      intro H locs ls hP hD hS hl
                      obtain ⟨c24_, h⟩ := pq_g h
                      refine lv_icmp_ne (tgt := 355) hx hb dL_pass_348 (by decide) (fun cc_ => absurd c24_ cc_) (fun _ => ?_)
                      refine lv_iconst (v := 1) hx hb dL_pass_351 (by decide) ?_
                      refine lv_goto (tgt := 356) hx hb dL_pass_352 (by decide) ?_
                      refine lv_istore (lv' := [(17, .int 1), (0, .ref (qa 0 0)), (2, .int x2), (7, .int a12.1), (9, .int a17), (12, .int a23), (15, .int v41)]) hx hb dL_pass_356 hl (by decide) rfl (fun ls hl => ?_)
                      refine lv_iload hx hb dL_pass_358 (lv_at hl 0 rfl) ?_
                      refine lv_if_eq (tgt := 394) hx hb dL_pass_360 (by decide) (fun c25_ => absurd c25_ (by decide)) (fun c25_ => ?_)
                      refine lv_aload_n hx hb dL_pass_363 rfl (lv_at hl 1 rfl) ?_
                      refine lv_iload_n hx hb dL_pass_364 rfl (lv_at hl 2 rfl) ?_
                      refine lv_bipush (v := 6) hx hb dL_pass_365 (by decide) ?_
                      obtain ⟨r54, hr54, h⟩ := pq_b h
                      obtain ⟨a55, e9_, h9_⟩ := pq_inn h
                      clear h
                      have h := h9_
                      clear h9_
                      subst e9_
                      refine pw_ci (w1 := W3 cy qa a27.2.1 a12.2.1 a27.2.2.1 a27.2.2.2.1 a27.2.2.2.2 ak a10.2.2 a12.2.2 cd ln) (rest := []) (As := [.int x2, .int 6]) hF (kX3_owner l D cy qa _ a27.2.1 a12.2.1 a27.2.2.1 a27.2.2.2.1 a27.2.2.2.2 ak a10.2.2 a12.2.2 cd ln x2 6 a55 hr54) (cwV 2 hts (pw_gV (own := RL) (idx := 23) (C := RX3) (y := yX3_owner) aw_410 aw_411 aw_412 aw_1 aw_413) rfl rfl rfl pX3_owner ⟨Nat.le_of_ble_eq_true rfl, Nat.le_of_ble_eq_true rfl⟩) (va_recv hK hP (ci := 3) (q0 := 0) rfl rfl) hK hP hD hS hA rfl rfl hl.1 rfl (Nat.le_of_ble_eq_true rfl) dL_pass_367 ⟨Nat.zero_le _, Nat.zero_le _⟩ (fun H locs hP hD hS => ?_)
                      refine lv_iload hx hb dL_pass_370 (lv_at hl 5 rfl) ?_
                      refine lv_iload hx hb dL_pass_372 (lv_at hl 6 rfl) ?_
                      refine lv_if_eq (tgt := 385) hx hb dL_pass_374 (by decide) (fun c26_ => ?_) (fun c26_ => ?_)
                      · have h := pq_t c26_ h
                        refine lv_iconst (v := 0) hx hb dL_pass_385 (by decide) ?_
                        refine lv_iadd hx hb dL_pass_386 ?_
                        obtain ⟨c27_, h⟩ := pq_g h
                        refine lv_icmp_ne (tgt := 394) hx hb dL_pass_387 (by decide) (fun cc_ => absurd c27_ cc_) (fun _ => ?_)
                        refine lv_iconst (v := 1) hx hb dL_pass_390 (by decide) ?_
                        refine lv_goto (tgt := 395) hx hb dL_pass_391 (by decide) ?_
                        obtain rfl := Option.some.inj h
                        subst hQ
                        exact pw_rz hx hb hr rfl hlk hAe hP hS rfl dL_pass_395
                      · have h := pq_e c26_ h
                        refine lv_iload hx hb dL_pass_377 (lv_at hl 4 rfl) ?_
                        refine lv_iload hx hb dL_pass_379 (lv_at hl 3 rfl) ?_
                        refine lv_iadd hx hb dL_pass_381 ?_
                        refine lv_goto (tgt := 386) hx hb dL_pass_382 (by decide) ?_
                        refine lv_iadd hx hb dL_pass_386 ?_
                        obtain ⟨c28_, h⟩ := pq_g h
                        refine lv_icmp_ne (tgt := 394) hx hb dL_pass_387 (by decide) (fun cc_ => absurd c28_ cc_) (fun _ => ?_)
                        refine lv_iconst (v := 1) hx hb dL_pass_390 (by decide) ?_
                        refine lv_goto (tgt := 395) hx hb dL_pass_391 (by decide) ?_
                        obtain rfl := Option.some.inj h
                        subst hQ
                        exact pw_rz hx hb hr rfl hlk hAe hP hS rfl dL_pass_395
                    clear h
                    have h := hv53
                    clear hv53
                    refine lv_if_ne (tgt := 347) hx hb dL_pass_335 (by decide) (fun c22_ => ?_) (fun c22_ => ?_)
                    · have h := pq_e c22_ h
                      refine lv_iconst (v := 0) hx hb dL_pass_347 (by decide) ?_
                      obtain rfl := Option.some.inj h
                      exact J348_v53 _ _ _ hP hD hS (lv_sub hl [0, 1, 2, 3, 4, 5] rfl)
                    · have h := pq_t c22_ h
                      refine lv_iload hx hb dL_pass_338 (lv_at hl 6 rfl) ?_
                      refine lv_if_ne (tgt := 347) hx hb dL_pass_340 (by decide) (fun c23_ => ?_) (fun c23_ => ?_)
                      · have h := pq_e c23_ h
                        refine lv_iconst (v := 0) hx hb dL_pass_347 (by decide) ?_
                        obtain rfl := Option.some.inj h
                        exact J348_v53 _ _ _ hP hD hS (lv_sub hl [0, 1, 2, 3, 4, 5] rfl)
                      · have h := pq_t c23_ h
                        refine lv_iconst (v := 1) hx hb dL_pass_343 (by decide) ?_
                        refine lv_goto (tgt := 348) hx hb dL_pass_344 (by decide) ?_
                        obtain rfl := Option.some.inj h
                        exact J348_v53 _ _ _ hP hD hS (lv_sub hl [0, 1, 2, 3, 4, 5] rfl)
                  clear h
                  have h := hv52
                  clear hv52
                  refine lv_if_lt (tgt := 332) hx hb dL_pass_325 (by decide) (fun c21_ => ?_) (fun c21_ => ?_)
                  · have h := pq_t c21_ h
                    refine lv_iconst (v := 0) hx hb dL_pass_332 (by decide) ?_
                    obtain rfl := Option.some.inj h
                    exact J333_v52 _ _ _ hP hD hS (lv_sub hl [0, 1, 2, 3, 4, 5, 6] rfl)
                  · have h := pq_e c21_ h
                    refine lv_iconst (v := 1) hx hb dL_pass_328 (by decide) ?_
                    refine lv_goto (tgt := 333) hx hb dL_pass_329 (by decide) ?_
                    obtain rfl := Option.some.inj h
                    exact J333_v52 _ _ _ hP hD hS (lv_sub hl [0, 1, 2, 3, 4, 5, 6] rfl)
                clear h
                have h := hv49
                clear hv49
                refine lv_if_eq (tgt := 314) hx hb dL_pass_307 (by decide) (fun c19_ => ?_) (fun c19_ => ?_)
                · have h := pq_t c19_ h
                  refine lv_iconst (v := 0) hx hb dL_pass_314 (by decide) ?_
                  obtain rfl := Option.some.inj h
                  exact J315_v49 _ _ _ hP hD hS (lv_sub hl [0, 1, 2, 3, 5, 6, 7] rfl)
                · have h := pq_e c19_ h
                  refine lv_iconst (v := 1) hx hb dL_pass_310 (by decide) ?_
                  refine lv_goto (tgt := 315) hx hb dL_pass_311 (by decide) ?_
                  obtain rfl := Option.some.inj h
                  exact J315_v49 _ _ _ hP hD hS (lv_sub hl [0, 1, 2, 3, 5, 6, 7] rfl)
              clear h
              have h := hv46
              clear hv46
              refine lv_if_eq (tgt := 292) hx hb dL_pass_285 (by decide) (fun c17_ => ?_) (fun c17_ => ?_)
              · have h := pq_t c17_ h
                refine lv_iconst (v := 0) hx hb dL_pass_292 (by decide) ?_
                obtain rfl := Option.some.inj h
                exact J293_v46 _ _ _ hP hD hS (lv_sub hl [1, 2, 3, 4, 6, 7, 8, 9] rfl)
              · have h := pq_e c17_ h
                refine lv_iconst (v := 1) hx hb dL_pass_288 (by decide) ?_
                refine lv_goto (tgt := 293) hx hb dL_pass_289 (by decide) ?_
                obtain rfl := Option.some.inj h
                exact J293_v46 _ _ _ hP hD hS (lv_sub hl [1, 2, 3, 4, 6, 7, 8, 9] rfl)
            clear h
            have h := hv43
            clear hv43
            refine lv_if_lt (tgt := 263) hx hb dL_pass_247 (by decide) (fun c13_ => ?_) (fun c13_ => ?_)
            · have h := pq_t c13_ h
              obtain rfl := Option.some.inj h
              exact J263_v43 _ _ _ hP hD hS (lv_sub hl [1, 2, 3, 4, 5, 6, 7, 9, 0] rfl)
            · have h := pq_e c13_ h
              refine lv_iload hx hb dL_pass_250 (lv_at hl 3 rfl) ?_
              refine lv_iconst (v := 1) hx hb dL_pass_252 (by decide) ?_
              obtain ⟨c14_, h⟩ := pq_g h
              refine lv_icmp_lt (tgt := 267) hx hb dL_pass_253 (by decide) (fun cc_ => absurd cc_ c14_) (fun _ => ?_)
              refine lv_iload hx hb dL_pass_256 (lv_at hl 3 rfl) ?_
              refine lv_iload hx hb dL_pass_258 (lv_at hl 8 rfl) ?_
              obtain ⟨c15_, h⟩ := pq_g h
              refine lv_icmp_ge (tgt := 267) hx hb dL_pass_260 (by decide) (fun cc_ => absurd cc_ c15_) (fun _ => ?_)
              obtain rfl := Option.some.inj h
              exact J263_v43 _ _ _ hP hD hS (lv_sub hl [1, 2, 3, 4, 5, 6, 7, 9, 0] rfl)
          clear h
          have h := hv42
          clear hv42
          refine lv_if_ge (tgt := 242) hx hb dL_pass_229 (by decide) (fun c11_ => ?_) (fun c11_ => ?_)
          · have h := pq_t c11_ h
            refine lv_iconst (v := 0) hx hb dL_pass_242 (by decide) ?_
            obtain rfl := Option.some.inj h
            exact J243_v42 _ _ _ hP hD hS (lv_sub hl [1, 3, 4, 5, 6, 7, 8, 9, 0] rfl)
          · have h := pq_e c11_ h
            refine lv_iload hx hb dL_pass_232 (lv_at hl 9 rfl) ?_
            refine lv_iload_n hx hb dL_pass_234 rfl (lv_at hl 2 rfl) ?_
            refine lv_icmp_gt (tgt := 242) hx hb dL_pass_235 (by decide) (fun c12_ => ?_) (fun c12_ => ?_)
            · have h := pq_t c12_ h
              refine lv_iconst (v := 0) hx hb dL_pass_242 (by decide) ?_
              obtain rfl := Option.some.inj h
              exact J243_v42 _ _ _ hP hD hS (lv_sub hl [1, 3, 4, 5, 6, 7, 8, 9, 0] rfl)
            · have h := pq_e c12_ h
              refine lv_iconst (v := 1) hx hb dL_pass_238 (by decide) ?_
              refine lv_goto (tgt := 243) hx hb dL_pass_239 (by decide) ?_
              obtain rfl := Option.some.inj h
              exact J243_v42 _ _ _ hP hD hS (lv_sub hl [1, 3, 4, 5, 6, 7, 8, 9, 0] rfl)
        clear h
        have h := hv41
        clear hv41
        refine lv_if_lt (tgt := 224) hx hb dL_pass_211 (by decide) (fun c9_ => ?_) (fun c9_ => ?_)
        · have h := pq_t c9_ h
          refine lv_iconst (v := 0) hx hb dL_pass_224 (by decide) ?_
          obtain rfl := Option.some.inj h
          exact J225_v41 _ _ _ hP hD hS (lv_sub hl [1, 2, 3, 4, 5, 6, 7, 8, 0] rfl)
        · have h := pq_e c9_ h
          refine lv_iload hx hb dL_pass_214 (lv_at hl 4 rfl) ?_
          refine lv_iload_n hx hb dL_pass_216 rfl (lv_at hl 2 rfl) ?_
          refine lv_icmp_gt (tgt := 224) hx hb dL_pass_217 (by decide) (fun c10_ => ?_) (fun c10_ => ?_)
          · have h := pq_t c10_ h
            refine lv_iconst (v := 0) hx hb dL_pass_224 (by decide) ?_
            obtain rfl := Option.some.inj h
            exact J225_v41 _ _ _ hP hD hS (lv_sub hl [1, 2, 3, 4, 5, 6, 7, 8, 0] rfl)
          · have h := pq_e c10_ h
            refine lv_iconst (v := 1) hx hb dL_pass_220 (by decide) ?_
            refine lv_goto (tgt := 225) hx hb dL_pass_221 (by decide) ?_
            obtain rfl := Option.some.inj h
            exact J225_v41 _ _ _ hP hD hS (lv_sub hl [1, 2, 3, 4, 5, 6, 7, 8, 0] rfl)
      clear h
      have h := hv38
      clear hv38
      refine lv_icmp_lt (tgt := 198) hx hb dL_pass_191 (by decide) (fun c8_ => ?_) (fun c8_ => ?_)
      · have h := pq_t c8_ h
        refine lv_aload_n hx hb dL_pass_198 rfl (lv_at hl 6 rfl) ?_
        refine lv_bipush (v := 8) hx hb dL_pass_199 (by decide) ?_
        obtain ⟨r39, hr39, h⟩ := pq_b h
        obtain ⟨a40, e9_, h9_⟩ := pq_inn h
        clear h
        have h := h9_
        clear h9_
        subst e9_
        refine pw_ci (w1 := W3 cy qa a27.2.1 a12.2.1 a27.2.2.1 a27.2.2.2.1 a27.2.2.2.2 ak a10.2.2 a12.2.2 cd ln) (rest := []) (As := [.int 8]) hF (kX3_setting l D cy qa _ a27.2.1 a12.2.1 a27.2.2.1 a27.2.2.2.1 a27.2.2.2.2 ak a10.2.2 a12.2.2 cd ln 8 a40 hr39) (cwV 1 hts (pw_gV (own := RL) (idx := 20) (C := RX3) (y := yX3_setting) aw_444 aw_445 aw_446 aw_1 aw_447) rfl rfl rfl pX3_setting ⟨Nat.le_of_ble_eq_true rfl, Nat.le_of_ble_eq_true rfl⟩) (va_recv hK hP (ci := 3) (q0 := 0) rfl rfl) hK hP hD hS hA rfl rfl hl.1 rfl (Nat.le_of_ble_eq_true rfl) dL_pass_201 ⟨Nat.zero_le _, Nat.zero_le _⟩ (fun H locs hP hD hS => ?_)
        refine lv_iload hx hb dL_pass_204 (lv_at hl 4 rfl) ?_
        refine lv_isub hx hb dL_pass_206 ?_
        obtain rfl := Option.some.inj h
        exact J207_v38 _ _ _ hP hD hS (lv_sub hl [6, 7, 8, 13, 4, 3, 2, 1] rfl)
      · have h := pq_e c8_ h
        refine lv_iconst (v := 1) hx hb dL_pass_194 (by decide) ?_
        refine lv_goto (tgt := 207) hx hb dL_pass_195 (by decide) ?_
        obtain rfl := Option.some.inj h
        exact J207_v38 _ _ _ hP hD hS (lv_sub hl [6, 7, 8, 13, 4, 3, 2, 1] rfl)
    · have h := pq_t c7_ h
      refine lv_iload hx hb dL_pass_160 (lv_at hl 13 rfl) ?_
      refine lv_iconst (v := (-1)) hx hb dL_pass_162 (by decide) ?_
      obtain ⟨c29_, h⟩ := pq_g h
      refine lv_icmp_ne (tgt := 181) hx hb dL_pass_163 (by decide) (fun cc_ => absurd c29_ cc_) (fun _ => ?_)
      refine lv_aload_n hx hb dL_pass_166 rfl (lv_at hl 6 rfl) ?_
      refine lv_iload_n hx hb dL_pass_167 rfl (lv_at hl 8 rfl) ?_
      refine lv_iconst (v := 4) hx hb dL_pass_168 (by decide) ?_
      obtain ⟨r56, hr56, h⟩ := pq_b h
      obtain ⟨a57, e9_, h9_⟩ := pq_inn h
      clear h
      have h := h9_
      clear h9_
      subst e9_
      refine pw_ci (w1 := W3 cy qa a27.2.1 a12.2.1 a27.2.2.1 a27.2.2.2.1 a27.2.2.2.2 ak a10.2.2 a12.2.2 cd ln) (rest := []) (As := [.int x2, .int 4]) hF (kX3_owner l D cy qa _ a27.2.1 a12.2.1 a27.2.2.1 a27.2.2.2.1 a27.2.2.2.2 ak a10.2.2 a12.2.2 cd ln x2 4 a57 hr56) (cwV 2 hts (pw_gV (own := RL) (idx := 23) (C := RX3) (y := yX3_owner) aw_410 aw_411 aw_412 aw_1 aw_413) rfl rfl rfl pX3_owner ⟨Nat.le_of_ble_eq_true rfl, Nat.le_of_ble_eq_true rfl⟩) (va_recv hK hP (ci := 3) (q0 := 0) rfl rfl) hK hP hD hS hA rfl rfl hl.1 rfl (Nat.le_of_ble_eq_true rfl) dL_pass_169 ⟨Nat.zero_le _, Nat.zero_le _⟩ (fun H locs hP hD hS => ?_)
      refine lv_iload hx hb dL_pass_172 (lv_at hl 3 rfl) ?_
      obtain ⟨c30_, h⟩ := pq_g h
      refine lv_icmp_ne (tgt := 181) hx hb dL_pass_174 (by decide) (fun cc_ => absurd c30_ cc_) (fun _ => ?_)
      refine lv_iconst (v := 1) hx hb dL_pass_177 (by decide) ?_
      refine lv_goto (tgt := 182) hx hb dL_pass_178 (by decide) ?_
      obtain rfl := Option.some.inj h
      subst hQ
      exact pw_rz hx hb hr rfl hlk hAe hP hS rfl dL_pass_182
  clear h
  have h := hv15
  clear hv15
  refine lv_if_lt (tgt := 58) hx hb dL_pass_51 (by decide) (fun c1_ => ?_) (fun c1_ => ?_)
  · have h := pq_t c1_ h
    refine lv_iconst (v := 0) hx hb dL_pass_58 (by decide) ?_
    obtain rfl := Option.some.inj h
    exact J59_v15 _ _ _ hP hD hS (lv_sub hl [5, 6, 7, 4, 3, 2, 1, 0] rfl)
  · have h := pq_e c1_ h
    refine lv_iconst (v := 1) hx hb dL_pass_54 (by decide) ?_
    refine lv_goto (tgt := 59) hx hb dL_pass_55 (by decide) ?_
    obtain rfl := Option.some.inj h
    exact J59_v15 _ _ _ hP hD hS (lv_sub hl [5, 6, 7, 4, 3, 2, 1, 0] rfl)

def aL_holds : List Cond := Cond.code yL_holds cL_holds 4 (some .boolean) :: pw_all
theorem pL_holds : yL_holds.cls = RL ∧ yL_holds.cls ≠ "java/lang/invoke/MethodHandle" ∧ yL_holds.cls ≠ "java/lang/invoke/VarHandle" ∧ (parseMethodDescriptor yL_holds.desc).map (fun d => d.parameters.length) = some 1 := by decide +kernel
set_option maxHeartbeats 8000000 in
set_option maxRecDepth 100000 in
theorem kL_holds (l : Launch) (D : va_G) (cy : Nat → ClassId) (qa : Nat → Nat → Nat) (sz : Nat) (P : Nat → Nat → Int32) (T : Nat → Nat → Int32) (S : Nat → Nat → Nat → Int32) (nw : Int32) (hz : Int32) (ak : Nat → Int32) (pa : Nat → Int32) (wt : Nat → Int32) (cd : Nat → Int32) (ln : Int32)  (o : Int32) (h : fL_holds P hz = some o) : Met l yL_holds aL_holds ({ frames := 4, cells := 0, slots := 0, locals := 87 }) (pw_Pre D cy [.ref (qa 0 0)] (W3 cy qa P T S nw hz ak pa wt cd ln) sz) (pw_I D o (W3 cy qa P T S nw hz ak pa wt cd ln) (W3 cy qa P T S nw hz ak pa wt cd ln) sz) 0 0 (va_A (W3 cy qa P T S nw hz ak pa wt cd ln) sz) := by
  refine pw_met (cc := cL_holds) (maxL := 4) (ret := (some .boolean)) (by decide) rfl (Nat.le_of_ble_eq_true rfl) ?_
  intro p e s m args below meth c ls A hx hb hr hml hlk hts hown hAe hA hK hP hD hS hl
  have hl : lv_has ls 4 [(0, .ref (qa 0 0))] := hl
  generalize hQ : MQ below (pw_I D o (W3 cy qa P T S nw hz ak pa wt cd ln) (W3 cy qa P T S nw hz ak pa wt cd ln) sz) args s 0 0 (va_A (W3 cy qa P T S nw hz ak pa wt cd ln) sz) = Q
  have hF : CallFix p m c cL_holds 4 s args aL_holds RL := ⟨hx, hb, hml, hown, hts⟩
  have hta : ∀ w ∈ pw_all, w.before args s = true := fun w h => hts w (List.mem_cons_of_mem _ h)
  have hin3 : ∀ w ∈ wsX30, w ∈ aL_holds := fun w h => List.mem_cons_of_mem _ (inA3 w h)
  have hin2 : ∀ w ∈ wsX20, w ∈ aL_holds := fun w h => List.mem_cons_of_mem _ (inA2 w h)
  have hin1 : ∀ w ∈ wsX10, w ∈ aL_holds := fun w h => List.mem_cons_of_mem _ (inA1 w h)
  have hin0 : ∀ w ∈ wsX00, w ∈ aL_holds := fun w h => List.mem_cons_of_mem _ (inA0 w h)
  unfold fL_holds at h
  refine lv_iconst (v := 1) hx hb dL_holds_0 (by decide) ?_
  refine lv_istore_n (lv' := [(1, .int 1), (0, .ref (qa 0 0))]) hx hb dL_holds_1 rfl hl (by decide) rfl (fun ls hl => ?_)
  refine lv_iconst (v := 0) hx hb dL_holds_2 (by decide) ?_
  refine lv_istore_n (lv' := [(2, .int 0), (1, .int 1), (0, .ref (qa 0 0))]) hx hb dL_holds_3 rfl hl (by decide) rfl (fun ls hl => ?_)
  obtain ⟨v2, hv2, h⟩ := pq_b h
  have X109_v2 : ∀ (H : Heap) (locs : List Loc) (ls : Array Slot), va_P D vwCl (W3 cy qa P T S nw hz ak pa wt cd ln) H → va_D A (W3 cy qa P T S nw hz ak pa wt cd ln) → va_S A s.heap H locs → lv_has ls 4 [(0, .ref (qa 0 0)), (1, .int v2)] → W p l e ({ frames := 4, cells := 0, slots := 0, locals := 87 } : Room) s m args below meth c H locs 0 0 Q (F0 m 109 ls []) := by
    intro H locs ls hP hD hS hl
    refine lv_iconst (v := 0) hx hb dL_holds_109 (by decide) ?_
    refine lv_istore_n (lv' := [(2, .int 0), (0, .ref (qa 0 0)), (1, .int v2)]) hx hb dL_holds_110 rfl hl (by decide) rfl (fun ls hl => ?_)
    have L111_n22 : ∀ (n : Nat) (x1_111 : Int32) (x2_111 : Int32) (H : Heap) (locs : List Loc) (ls : Array Slot), fL_holds_L111 P n x1_111 x2_111 = some o → va_P D vwCl (W3 cy qa P T S nw hz ak pa wt cd ln) H → va_D A (W3 cy qa P T S nw hz ak pa wt cd ln) → va_S A s.heap H locs → lv_has ls 4 [(0, .ref (qa 0 0)), (1, .int x1_111), (2, .int x2_111)] → W p l e ({ frames := 4, cells := 0, slots := 0, locals := 87 } : Room) s m args below meth c H locs 0 0 Q (F0 m 111 ls []) := by
      intro n
      induction n with
      | zero =>
        intro x1_111 x2_111 H locs ls h hP hD hS hl
        exact pq_n h
      | succ n ih111 =>
        intro x1_111 x2_111 H locs ls h hP hD hS hl
        rw [fL_holds_L111] at h
        refine lv_iload_n hx hb dL_holds_111 rfl (lv_at hl 2 rfl) ?_
        refine lv_bipush (v := 8) hx hb dL_holds_112 (by decide) ?_
        refine lv_icmp_ge (tgt := 148) hx hb dL_holds_114 (by decide) (fun c10_ => ?_) (fun c10_ => ?_)
        · have h := pq_t c10_ h
          refine lv_iload_n hx hb dL_holds_148 rfl (lv_at hl 1 rfl) ?_
          obtain ⟨hg, h⟩ := pq_g h
          obtain rfl := Option.some.inj h
          subst hQ
          exact pw_rz hx hb hr (pq_nz hg) hlk hAe hP hS rfl dL_holds_149
        · have h := pq_e c10_ h
          refine lv_iload_n hx hb dL_holds_117 rfl (lv_at hl 1 rfl) ?_
          obtain ⟨c11_, h⟩ := pq_g h
          refine lv_if_eq (tgt := 140) hx hb dL_holds_118 (by decide) (fun cc_ => absurd cc_ c11_) (fun _ => ?_)
          refine lv_aload_n hx hb dL_holds_121 rfl (lv_at hl 0 rfl) ?_
          refine lv_iload_n hx hb dL_holds_122 rfl (lv_at hl 2 rfl) ?_
          refine lv_iconst (v := 3) hx hb dL_holds_123 (by decide) ?_
          obtain ⟨r23, hr23, h⟩ := pq_b h
          obtain ⟨a24, e9_, h9_⟩ := pq_inn h
          clear h
          have h := h9_
          clear h9_
          subst e9_
          refine pw_ci (w1 := W3 cy qa P T S nw hz ak pa wt cd ln) (rest := []) (As := [.int x2_111, .int 3]) hF (kX3_owner l D cy qa _ P T S nw hz ak pa wt cd ln x2_111 3 a24 hr23) (cwV 2 hts (pw_gV (own := RL) (idx := 23) (C := RX3) (y := yX3_owner) aw_410 aw_411 aw_412 aw_1 aw_413) rfl rfl rfl pX3_owner ⟨Nat.le_of_ble_eq_true rfl, Nat.le_of_ble_eq_true rfl⟩) (va_recv hK hP (ci := 3) (q0 := 0) rfl rfl) hK hP hD hS hA rfl rfl hl.1 rfl (Nat.le_of_ble_eq_true rfl) dL_holds_124 ⟨Nat.zero_le _, Nat.zero_le _⟩ (fun H locs hP hD hS => ?_)
          refine lv_aload_n hx hb dL_holds_127 rfl (lv_at hl 0 rfl) ?_
          refine lv_bipush (v := 8) hx hb dL_holds_128 (by decide) ?_
          obtain ⟨r25, hr25, h⟩ := pq_b h
          obtain ⟨a26, e9_, h9_⟩ := pq_inn h
          clear h
          have h := h9_
          clear h9_
          subst e9_
          refine pw_ci (w1 := W3 cy qa P T S nw hz ak pa wt cd ln) (rest := [.int a24]) (As := [.int 8]) hF (kX3_setting l D cy qa _ P T S nw hz ak pa wt cd ln 8 a26 hr25) (cwV 1 hts (pw_gV (own := RL) (idx := 20) (C := RX3) (y := yX3_setting) aw_444 aw_445 aw_446 aw_1 aw_447) rfl rfl rfl pX3_setting ⟨Nat.le_of_ble_eq_true rfl, Nat.le_of_ble_eq_true rfl⟩) (va_recv hK hP (ci := 3) (q0 := 0) rfl rfl) hK hP hD hS hA rfl rfl hl.1 rfl (Nat.le_of_ble_eq_true rfl) dL_holds_130 ⟨Nat.zero_le _, Nat.zero_le _⟩ (fun H locs hP hD hS => ?_)
          obtain ⟨c12_, h⟩ := pq_g h
          refine lv_icmp_ge (tgt := 140) hx hb dL_holds_133 (by decide) (fun cc_ => absurd cc_ c12_) (fun _ => ?_)
          refine lv_iconst (v := 1) hx hb dL_holds_136 (by decide) ?_
          refine lv_goto (tgt := 141) hx hb dL_holds_137 (by decide) ?_
          refine lv_istore_n (lv' := [(1, .int 1), (0, .ref (qa 0 0)), (2, .int x2_111)]) hx hb dL_holds_141 rfl hl (by decide) rfl (fun ls hl => ?_)
          refine lv_iinc (v := x2_111 + 1) (lv' := [(2, .int (x2_111 + 1)), (1, .int 1), (0, .ref (qa 0 0))]) hx hb dL_holds_142 hl (k := 2) rfl (by first | rfl | decide) (by decide) rfl (fun ls hl => ?_)
          refine lv_goto (tgt := 111) hx hb dL_holds_145 (by decide) ?_
          exact ih111 (1) (x2_111 + 1) _ _ _ h hP hD hS (lv_sub hl [2, 1, 0] rfl)
    exact L111_n22 1000 v2 0 _ _ _ h hP hD hS (lv_sub hl [1, 2, 0] rfl)
  clear h
  have L4_n1 : ∀ (n : Nat) (x1_4 : Int32) (x2_4 : Int32) (H : Heap) (locs : List Loc) (ls : Array Slot), fL_holds_L4 P hz n x1_4 x2_4 = some v2 → va_P D vwCl (W3 cy qa P T S nw hz ak pa wt cd ln) H → va_D A (W3 cy qa P T S nw hz ak pa wt cd ln) → va_S A s.heap H locs → lv_has ls 4 [(0, .ref (qa 0 0)), (1, .int x1_4), (2, .int x2_4)] → W p l e ({ frames := 4, cells := 0, slots := 0, locals := 87 } : Room) s m args below meth c H locs 0 0 Q (F0 m 4 ls []) := by
    intro n
    induction n with
    | zero =>
      intro x1_4 x2_4 H locs ls h hP hD hS hl
      exact pq_n h
    | succ n ih4 =>
      intro x1_4 x2_4 H locs ls h hP hD hS hl
      rw [fL_holds_L4] at h
      refine lv_iload_n hx hb dL_holds_4 rfl (lv_at hl 2 rfl) ?_
      refine lv_bipush (v := 8) hx hb dL_holds_5 (by decide) ?_
      refine lv_icmp_ge (tgt := 109) hx hb dL_holds_7 (by decide) (fun c1_ => ?_) (fun c1_ => ?_)
      · have h := pq_t c1_ h
        obtain rfl := Option.some.inj h
        exact X109_v2 _ _ _ hP hD hS (lv_sub hl [0, 1] rfl)
      · have h := pq_e c1_ h
        refine lv_aload_n hx hb dL_holds_10 rfl (lv_at hl 0 rfl) ?_
        refine lv_iload_n hx hb dL_holds_11 rfl (lv_at hl 2 rfl) ?_
        refine lv_iconst (v := 1) hx hb dL_holds_12 (by decide) ?_
        obtain ⟨r3, hr3, h⟩ := pq_b h
        obtain ⟨a4, e9_, h9_⟩ := pq_inn h
        clear h
        have h := h9_
        clear h9_
        subst e9_
        refine pw_ci (w1 := W3 cy qa P T S nw hz ak pa wt cd ln) (rest := []) (As := [.int x2_4, .int 1]) hF (kX3_place l D cy qa _ P T S nw hz ak pa wt cd ln x2_4 1 a4 hr3) (cwV 2 hts (pw_gV (own := RL) (idx := 10) (C := RX3) (y := yX3_place) aw_394 aw_395 aw_396 aw_1 aw_397) rfl rfl rfl pX3_place ⟨Nat.le_of_ble_eq_true rfl, Nat.le_of_ble_eq_true rfl⟩) (va_recv hK hP (ci := 3) (q0 := 0) rfl rfl) hK hP hD hS hA rfl rfl hl.1 rfl (Nat.le_of_ble_eq_true rfl) dL_holds_13 ⟨Nat.zero_le _, Nat.zero_le _⟩ (fun H locs hP hD hS => ?_)
        refine lv_istore_n (lv' := [(3, .int a4), (0, .ref (qa 0 0)), (1, .int x1_4), (2, .int x2_4)]) hx hb dL_holds_16 rfl hl (by decide) rfl (fun ls hl => ?_)
        refine lv_iload_n hx hb dL_holds_17 rfl (lv_at hl 2 rfl) ?_
        obtain ⟨c2_, h⟩ := pq_g h
        refine lv_if_eq (tgt := 53) hx hb dL_holds_18 (by decide) (fun cc_ => absurd cc_ c2_) (fun _ => ?_)
        refine lv_iload_n hx hb dL_holds_21 rfl (lv_at hl 0 rfl) ?_
        obtain ⟨v5, hv5, h⟩ := pq_b h
        have J49_v5 : ∀ (H : Heap) (locs : List Loc) (ls : Array Slot), va_P D vwCl (W3 cy qa P T S nw hz ak pa wt cd ln) H → va_D A (W3 cy qa P T S nw hz ak pa wt cd ln) → va_S A s.heap H locs → lv_has ls 4 [(0, .ref (qa 0 0)), (2, .int x2_4)] → W p l e ({ frames := 4, cells := 0, slots := 0, locals := 87 } : Room) s m args below meth c H locs 0 0 Q (F0 m 49 ls []) := by
          intro H locs ls hP hD hS hl
          refine lv_iconst (v := 1) hx hb dL_holds_49 (by decide) ?_
          refine lv_goto (tgt := 54) hx hb dL_holds_50 (by decide) ?_
          refine lv_istore_n (lv' := [(1, .int 1), (0, .ref (qa 0 0)), (2, .int x2_4)]) hx hb dL_holds_54 rfl hl (by decide) rfl (fun ls hl => ?_)
          refine lv_iload_n hx hb dL_holds_55 rfl (lv_at hl 0 rfl) ?_
          refine lv_if_eq (tgt := 101) hx hb dL_holds_56 (by decide) (fun c6_ => absurd c6_ (by decide)) (fun c6_ => ?_)
          refine lv_aload_n hx hb dL_holds_59 rfl (lv_at hl 1 rfl) ?_
          refine lv_iload_n hx hb dL_holds_60 rfl (lv_at hl 2 rfl) ?_
          refine lv_iconst (v := 0) hx hb dL_holds_61 (by decide) ?_
          obtain ⟨r12, hr12, h⟩ := pq_b h
          obtain ⟨a13, e9_, h9_⟩ := pq_inn h
          clear h
          have h := h9_
          clear h9_
          subst e9_
          refine pw_ci (w1 := W3 cy qa P T S nw hz ak pa wt cd ln) (rest := []) (As := [.int x2_4, .int 0]) hF (kX3_place l D cy qa _ P T S nw hz ak pa wt cd ln x2_4 0 a13 hr12) (cwV 2 hts (pw_gV (own := RL) (idx := 10) (C := RX3) (y := yX3_place) aw_394 aw_395 aw_396 aw_1 aw_397) rfl rfl rfl pX3_place ⟨Nat.le_of_ble_eq_true rfl, Nat.le_of_ble_eq_true rfl⟩) (va_recv hK hP (ci := 3) (q0 := 0) rfl rfl) hK hP hD hS hA rfl rfl hl.1 rfl (Nat.le_of_ble_eq_true rfl) dL_holds_62 ⟨Nat.zero_le _, Nat.zero_le _⟩ (fun H locs hP hD hS => ?_)
          refine lv_iconst (v := 1) hx hb dL_holds_65 (by decide) ?_
          refine lv_icmp_ne (tgt := 97) hx hb dL_holds_66 (by decide) (fun c7_ => ?_) (fun c7_ => ?_)
          · have h := pq_e c7_ h
            refine lv_iconst (v := 1) hx hb dL_holds_97 (by decide) ?_
            refine lv_goto (tgt := 102) hx hb dL_holds_98 (by decide) ?_
            refine lv_istore_n (lv' := [(1, .int 1), (0, .ref (qa 0 0)), (2, .int x2_4)]) hx hb dL_holds_102 rfl hl (by decide) rfl (fun ls hl => ?_)
            refine lv_iinc (v := x2_4 + 1) (lv' := [(2, .int (x2_4 + 1)), (1, .int 1), (0, .ref (qa 0 0))]) hx hb dL_holds_103 hl (k := 2) rfl (by first | rfl | decide) (by decide) rfl (fun ls hl => ?_)
            refine lv_goto (tgt := 4) hx hb dL_holds_106 (by decide) ?_
            exact ih4 (1) (x2_4 + 1) _ _ _ h hP hD hS (lv_sub hl [2, 1, 0] rfl)
          · have h := pq_t c7_ h
            refine lv_aload_n hx hb dL_holds_69 rfl (lv_at hl 1 rfl) ?_
            refine lv_iconst (v := 1) hx hb dL_holds_70 (by decide) ?_
            obtain ⟨r14, hr14, h⟩ := pq_b h
            obtain ⟨a15, e9_, h9_⟩ := pq_inn h
            clear h
            have h := h9_
            clear h9_
            subst e9_
            refine pw_ci (w1 := W3 cy qa P T S nw hz ak pa wt cd ln) (rest := []) (As := [.int 1]) hF (kX3_count l D cy qa _ P T S nw hz ak pa wt cd ln 1 a15 hr14) (cwV 1 hts (pw_gV (own := RL) (idx := 16) (C := RX3) (y := yX3_count) aw_420 aw_421 aw_422 aw_1 aw_423) rfl rfl rfl pX3_count ⟨Nat.le_of_ble_eq_true rfl, Nat.le_of_ble_eq_true rfl⟩) (va_recv hK hP (ci := 3) (q0 := 0) rfl rfl) hK hP hD hS hA rfl rfl hl.1 rfl (Nat.le_of_ble_eq_true rfl) dL_holds_71 ⟨Nat.zero_le _, Nat.zero_le _⟩ (fun H locs hP hD hS => ?_)
            refine lv_aload_n hx hb dL_holds_74 rfl (lv_at hl 1 rfl) ?_
            refine lv_iconst (v := 2) hx hb dL_holds_75 (by decide) ?_
            obtain ⟨r16, hr16, h⟩ := pq_b h
            obtain ⟨a17, e9_, h9_⟩ := pq_inn h
            clear h
            have h := h9_
            clear h9_
            subst e9_
            refine pw_ci (w1 := W3 cy qa P T S nw hz ak pa wt cd ln) (rest := [.int a15]) (As := [.int 2]) hF (kX3_setting l D cy qa _ P T S nw hz ak pa wt cd ln 2 a17 hr16) (cwV 1 hts (pw_gV (own := RL) (idx := 20) (C := RX3) (y := yX3_setting) aw_444 aw_445 aw_446 aw_1 aw_447) rfl rfl rfl pX3_setting ⟨Nat.le_of_ble_eq_true rfl, Nat.le_of_ble_eq_true rfl⟩) (va_recv hK hP (ci := 3) (q0 := 0) rfl rfl) hK hP hD hS hA rfl rfl hl.1 rfl (Nat.le_of_ble_eq_true rfl) dL_holds_76 ⟨Nat.zero_le _, Nat.zero_le _⟩ (fun H locs hP hD hS => ?_)
            refine lv_icmp_le (tgt := 97) hx hb dL_holds_79 (by decide) (fun c8_ => ?_) (fun c8_ => ?_)
            · have h := pq_t c8_ h
              refine lv_iconst (v := 1) hx hb dL_holds_97 (by decide) ?_
              refine lv_goto (tgt := 102) hx hb dL_holds_98 (by decide) ?_
              refine lv_istore_n (lv' := [(1, .int 1), (0, .ref (qa 0 0)), (2, .int x2_4)]) hx hb dL_holds_102 rfl hl (by decide) rfl (fun ls hl => ?_)
              refine lv_iinc (v := x2_4 + 1) (lv' := [(2, .int (x2_4 + 1)), (1, .int 1), (0, .ref (qa 0 0))]) hx hb dL_holds_103 hl (k := 2) rfl (by first | rfl | decide) (by decide) rfl (fun ls hl => ?_)
              refine lv_goto (tgt := 4) hx hb dL_holds_106 (by decide) ?_
              exact ih4 (1) (x2_4 + 1) _ _ _ h hP hD hS (lv_sub hl [2, 1, 0] rfl)
            · have h := pq_e c8_ h
              refine lv_aload_n hx hb dL_holds_82 rfl (lv_at hl 1 rfl) ?_
              refine lv_iload_n hx hb dL_holds_83 rfl (lv_at hl 2 rfl) ?_
              refine lv_iconst (v := 4) hx hb dL_holds_84 (by decide) ?_
              obtain ⟨r18, hr18, h⟩ := pq_b h
              obtain ⟨a19, e9_, h9_⟩ := pq_inn h
              clear h
              have h := h9_
              clear h9_
              subst e9_
              refine pw_ci (w1 := W3 cy qa P T S nw hz ak pa wt cd ln) (rest := []) (As := [.int x2_4, .int 4]) hF (kX3_place l D cy qa _ P T S nw hz ak pa wt cd ln x2_4 4 a19 hr18) (cwV 2 hts (pw_gV (own := RL) (idx := 10) (C := RX3) (y := yX3_place) aw_394 aw_395 aw_396 aw_1 aw_397) rfl rfl rfl pX3_place ⟨Nat.le_of_ble_eq_true rfl, Nat.le_of_ble_eq_true rfl⟩) (va_recv hK hP (ci := 3) (q0 := 0) rfl rfl) hK hP hD hS hA rfl rfl hl.1 rfl (Nat.le_of_ble_eq_true rfl) dL_holds_85 ⟨Nat.zero_le _, Nat.zero_le _⟩ (fun H locs hP hD hS => ?_)
              refine lv_aload_n hx hb dL_holds_88 rfl (lv_at hl 1 rfl) ?_
              refine lv_bipush (v := 7) hx hb dL_holds_89 (by decide) ?_
              obtain ⟨r20, hr20, h⟩ := pq_b h
              obtain ⟨a21, e9_, h9_⟩ := pq_inn h
              clear h
              have h := h9_
              clear h9_
              subst e9_
              refine pw_ci (w1 := W3 cy qa P T S nw hz ak pa wt cd ln) (rest := [.int a19]) (As := [.int 7]) hF (kX3_setting l D cy qa _ P T S nw hz ak pa wt cd ln 7 a21 hr20) (cwV 1 hts (pw_gV (own := RL) (idx := 20) (C := RX3) (y := yX3_setting) aw_444 aw_445 aw_446 aw_1 aw_447) rfl rfl rfl pX3_setting ⟨Nat.le_of_ble_eq_true rfl, Nat.le_of_ble_eq_true rfl⟩) (va_recv hK hP (ci := 3) (q0 := 0) rfl rfl) hK hP hD hS hA rfl rfl hl.1 rfl (Nat.le_of_ble_eq_true rfl) dL_holds_91 ⟨Nat.zero_le _, Nat.zero_le _⟩ (fun H locs hP hD hS => ?_)
              obtain ⟨c9_, h⟩ := pq_g h
              refine lv_icmp_ge (tgt := 101) hx hb dL_holds_94 (by decide) (fun cc_ => absurd cc_ c9_) (fun _ => ?_)
              refine lv_iconst (v := 1) hx hb dL_holds_97 (by decide) ?_
              refine lv_goto (tgt := 102) hx hb dL_holds_98 (by decide) ?_
              refine lv_istore_n (lv' := [(1, .int 1), (0, .ref (qa 0 0)), (2, .int x2_4)]) hx hb dL_holds_102 rfl hl (by decide) rfl (fun ls hl => ?_)
              refine lv_iinc (v := x2_4 + 1) (lv' := [(2, .int (x2_4 + 1)), (1, .int 1), (0, .ref (qa 0 0))]) hx hb dL_holds_103 hl (k := 2) rfl (by first | rfl | decide) (by decide) rfl (fun ls hl => ?_)
              refine lv_goto (tgt := 4) hx hb dL_holds_106 (by decide) ?_
              exact ih4 (1) (x2_4 + 1) _ _ _ h hP hD hS (lv_sub hl [2, 1, 0] rfl)
        clear h
        have h := hv5
        clear hv5
        refine lv_if_lt (tgt := 49) hx hb dL_holds_22 (by decide) (fun c3_ => ?_) (fun c3_ => ?_)
        · have h := pq_t c3_ h
          obtain rfl := Option.some.inj h
          exact J49_v5 _ _ _ hP hD hS (lv_sub hl [1, 3] rfl)
        · have h := pq_e c3_ h
          refine lv_aload_n hx hb dL_holds_25 rfl (lv_at hl 1 rfl) ?_
          refine lv_iload_n hx hb dL_holds_26 rfl (lv_at hl 0 rfl) ?_
          refine lv_iconst (v := 0) hx hb dL_holds_27 (by decide) ?_
          obtain ⟨r6, hr6, h⟩ := pq_b h
          obtain ⟨a7, e9_, h9_⟩ := pq_inn h
          clear h
          have h := h9_
          clear h9_
          subst e9_
          refine pw_ci (w1 := W3 cy qa P T S nw hz ak pa wt cd ln) (rest := []) (As := [.int a4, .int 0]) hF (kX3_owner l D cy qa _ P T S nw hz ak pa wt cd ln a4 0 a7 hr6) (cwV 2 hts (pw_gV (own := RL) (idx := 23) (C := RX3) (y := yX3_owner) aw_410 aw_411 aw_412 aw_1 aw_413) rfl rfl rfl pX3_owner ⟨Nat.le_of_ble_eq_true rfl, Nat.le_of_ble_eq_true rfl⟩) (va_recv hK hP (ci := 3) (q0 := 0) rfl rfl) hK hP hD hS hA rfl rfl hl.1 rfl (Nat.le_of_ble_eq_true rfl) dL_holds_28 ⟨Nat.zero_le _, Nat.zero_le _⟩ (fun H locs hP hD hS => ?_)
          refine lv_iconst (v := 1) hx hb dL_holds_31 (by decide) ?_
          refine lv_icmp_eq (tgt := 49) hx hb dL_holds_32 (by decide) (fun c4_ => ?_) (fun c4_ => ?_)
          · have h := pq_t c4_ h
            obtain rfl := Option.some.inj h
            exact J49_v5 _ _ _ hP hD hS (lv_sub hl [1, 3] rfl)
          · have h := pq_e c4_ h
            refine lv_aload_n hx hb dL_holds_35 rfl (lv_at hl 1 rfl) ?_
            refine lv_iload_n hx hb dL_holds_36 rfl (lv_at hl 3 rfl) ?_
            refine lv_iconst (v := 4) hx hb dL_holds_37 (by decide) ?_
            obtain ⟨r8, hr8, h⟩ := pq_b h
            obtain ⟨a9, e9_, h9_⟩ := pq_inn h
            clear h
            have h := h9_
            clear h9_
            subst e9_
            refine pw_ci (w1 := W3 cy qa P T S nw hz ak pa wt cd ln) (rest := []) (As := [.int x2_4, .int 4]) hF (kX3_place l D cy qa _ P T S nw hz ak pa wt cd ln x2_4 4 a9 hr8) (cwV 2 hts (pw_gV (own := RL) (idx := 10) (C := RX3) (y := yX3_place) aw_394 aw_395 aw_396 aw_1 aw_397) rfl rfl rfl pX3_place ⟨Nat.le_of_ble_eq_true rfl, Nat.le_of_ble_eq_true rfl⟩) (va_recv hK hP (ci := 3) (q0 := 0) rfl rfl) hK hP hD hS hA rfl rfl hl.1 rfl (Nat.le_of_ble_eq_true rfl) dL_holds_38 ⟨Nat.zero_le _, Nat.zero_le _⟩ (fun H locs hP hD hS => ?_)
            refine lv_aload_n hx hb dL_holds_41 rfl (lv_at hl 1 rfl) ?_
            refine lv_iconst (v := 5) hx hb dL_holds_42 (by decide) ?_
            obtain ⟨r10, hr10, h⟩ := pq_b h
            obtain ⟨a11, e9_, h9_⟩ := pq_inn h
            clear h
            have h := h9_
            clear h9_
            subst e9_
            refine pw_ci (w1 := W3 cy qa P T S nw hz ak pa wt cd ln) (rest := [.int a9]) (As := [.int 5]) hF (kX3_setting l D cy qa _ P T S nw hz ak pa wt cd ln 5 a11 hr10) (cwV 1 hts (pw_gV (own := RL) (idx := 20) (C := RX3) (y := yX3_setting) aw_444 aw_445 aw_446 aw_1 aw_447) rfl rfl rfl pX3_setting ⟨Nat.le_of_ble_eq_true rfl, Nat.le_of_ble_eq_true rfl⟩) (va_recv hK hP (ci := 3) (q0 := 0) rfl rfl) hK hP hD hS hA rfl rfl hl.1 rfl (Nat.le_of_ble_eq_true rfl) dL_holds_43 ⟨Nat.zero_le _, Nat.zero_le _⟩ (fun H locs hP hD hS => ?_)
            obtain ⟨c5_, h⟩ := pq_g h
            refine lv_icmp_ge (tgt := 53) hx hb dL_holds_46 (by decide) (fun cc_ => absurd cc_ c5_) (fun _ => ?_)
            obtain rfl := Option.some.inj h
            exact J49_v5 _ _ _ hP hD hS (lv_sub hl [1, 3] rfl)
  have h := hv2
  exact L4_n1 1000 1 0 _ _ _ h hP hD hS (lv_sub hl [2, 1, 0] rfl)

