def aX3_requireOwner : List Cond := Cond.code yX3_requireOwner cX3_requireOwner 1 none :: pw_all
theorem pX3_requireOwner : yX3_requireOwner.cls = RX3 ∧ yX3_requireOwner.cls ≠ "java/lang/invoke/MethodHandle" ∧ yX3_requireOwner.cls ≠ "java/lang/invoke/VarHandle" ∧ (parseMethodDescriptor yX3_requireOwner.desc).map (fun d => d.parameters.length) = some 1 := by decide +kernel
set_option maxHeartbeats 8000000 in
set_option maxRecDepth 100000 in
theorem kX3_requireOwner (l : Launch) (D : va_G) (cy : Nat → ClassId) (sz : Nat)  (x0 : Int32) (o : Unit) (h : fX3_requireOwner x0 = some (Sum.inr o)) : Met l yX3_requireOwner aX3_requireOwner ({ frames := 0, cells := 0, slots := 0, locals := 0 }) (pw_Pre D cy [.int x0] ([]) sz) (pw_V D ([]) ([]) sz) 0 0 (va_A ([]) sz) := by
  refine pw_met (cc := cX3_requireOwner) (maxL := 1) (ret := none) (by decide) rfl (Nat.le_of_ble_eq_true rfl) ?_
  intro p e s m args below meth c ls A hx hb hr hml hlk hts hown hAe hA hK hP hD hS hl
  have hl : lv_has ls 1 [(0, .int x0)] := hl
  generalize hQ : MQ below (pw_V D ([]) ([]) sz) args s 0 0 (va_A ([]) sz) = Q
  have hF : CallFix p m c cX3_requireOwner 1 s args aX3_requireOwner RX3 := ⟨hx, hb, hml, hown, hts⟩
  have hta : ∀ w ∈ pw_all, w.before args s = true := fun w h => hts w (List.mem_cons_of_mem _ h)
  unfold fX3_requireOwner at h
  refine lv_iload_n hx hb dX3_requireOwner_0 rfl (lv_at hl 0 rfl) ?_
  refine lv_if_lt (tgt := 10) hx hb dX3_requireOwner_1 (by decide) (fun c1_ => ?_) (fun c1_ => ?_)
  · have h := pq_t c1_ h
    exact nomatch h
  · have h := pq_e c1_ h
    refine lv_iload_n hx hb dX3_requireOwner_4 rfl (lv_at hl 0 rfl) ?_
    refine lv_bipush (v := 8) hx hb dX3_requireOwner_5 (by decide) ?_
    refine lv_icmp_lt (tgt := 21) hx hb dX3_requireOwner_7 (by decide) (fun c2_ => ?_) (fun c2_ => ?_)
    · have h := pq_t c2_ h
      obtain rfl := Sum.inr.inj (Option.some.inj h)
      subst hQ
      exact pw_rv hx hb hr hlk hAe hP hS dX3_requireOwner_21
    · have h := pq_e c2_ h
      exact nomatch h

def aX3_ask : List Cond := Cond.code yX3_ask cX3_ask 2 (some .int) :: pw_all
theorem pX3_ask : yX3_ask.cls = RX3 ∧ yX3_ask.cls ≠ "java/lang/invoke/MethodHandle" ∧ yX3_ask.cls ≠ "java/lang/invoke/VarHandle" ∧ (parseMethodDescriptor yX3_ask.desc).map (fun d => d.parameters.length) = some 1 := by decide +kernel
set_option maxHeartbeats 8000000 in
set_option maxRecDepth 100000 in
theorem kX3_ask (l : Launch) (D : va_G) (cy : Nat → ClassId) (qa : Nat → Nat → Nat) (sz : Nat) (P : Nat → Nat → Int32) (T : Nat → Nat → Int32) (S : Nat → Nat → Nat → Int32) (nw : Int32) (hz : Int32) (ak : Nat → Int32) (pa : Nat → Int32) (wt : Nat → Int32) (cd : Nat → Int32) (ln : Int32) (x1 : Int32) (o : Int32 × (Nat → Nat → Int32) × (Nat → Nat → Nat → Int32) × Int32 × Int32) (h : fX3_ask x1 P S nw hz = some (Sum.inr o)) : Met l yX3_ask aX3_ask ({ frames := 5, cells := 0, slots := 0, locals := 113 }) (pw_Pre D cy [.ref (qa 0 0), .int x1] (W3 cy qa P T S nw hz ak pa wt cd ln) sz) (pw_I D o.1 (W3 cy qa P T S nw hz ak pa wt cd ln) (W3 cy qa o.2.1 T o.2.2.1 o.2.2.2.1 o.2.2.2.2 ak pa wt cd ln) sz) 0 0 (va_A (W3 cy qa P T S nw hz ak pa wt cd ln) sz) := by
  refine pw_met (cc := cX3_ask) (maxL := 2) (ret := (some .int)) (by decide) rfl (Nat.le_of_ble_eq_true rfl) ?_
  intro p e s m args below meth c ls A hx hb hr hml hlk hts hown hAe hA hK hP hD hS hl
  have hl : lv_has ls 2 [(0, .ref (qa 0 0)), (1, .int x1)] := hl
  generalize hQ : MQ below (pw_I D o.1 (W3 cy qa P T S nw hz ak pa wt cd ln) (W3 cy qa o.2.1 T o.2.2.1 o.2.2.2.1 o.2.2.2.2 ak pa wt cd ln) sz) args s 0 0 (va_A (W3 cy qa P T S nw hz ak pa wt cd ln) sz) = Q
  have hF : CallFix p m c cX3_ask 2 s args aX3_ask RX3 := ⟨hx, hb, hml, hown, hts⟩
  have hta : ∀ w ∈ pw_all, w.before args s = true := fun w h => hts w (List.mem_cons_of_mem _ h)
  have hin3 : ∀ w ∈ wsX30, w ∈ aX3_ask := fun w h => List.mem_cons_of_mem _ (inA3 w h)
  have hin2 : ∀ w ∈ wsX20, w ∈ aX3_ask := fun w h => List.mem_cons_of_mem _ (inA2 w h)
  have hin1 : ∀ w ∈ wsX10, w ∈ aX3_ask := fun w h => List.mem_cons_of_mem _ (inA1 w h)
  have hin0 : ∀ w ∈ wsX00, w ∈ aX3_ask := fun w h => List.mem_cons_of_mem _ (inA0 w h)
  unfold fX3_ask at h
  refine lv_iload_n hx hb dX3_ask_0 rfl (lv_at hl 1 rfl) ?_
  obtain ⟨r1, hr1, h⟩ := pq_b h
  obtain ⟨a2, rfl, h⟩ := pq_inr h
  refine pw_sv (rest := []) (As := [.int x1]) hF (kX3_requireOwner l D cy _ x1 a2 hr1) (cwS 1 hts (pw_gS (own := RX3) (idx := 43) (y := yX3_requireOwner) aw_436 aw_437 aw_1 aw_438) rfl rfl rfl pX3_requireOwner ⟨Nat.le_of_ble_eq_true rfl, Nat.le_of_ble_eq_true rfl⟩) hK hP hS hA rfl hl.1 rfl (Nat.le_of_ble_eq_true rfl) dX3_ask_1 ⟨Nat.zero_le _, Nat.zero_le _⟩ (fun H locs hP hS => ?_)
  refine lv_aload_n hx hb dX3_ask_4 rfl (lv_at hl 0 rfl) ?_
  refine va_get (D := D) (ci := 3) (v := .ref (qa 1 0)) (C := RX3) (T := TX3) (N := 7) hx hb hts hin3 hown hK hP 0 rfl rfl 0 (by decide) (hta _ aw_124) (fun _ h9 => h9) rfl dX3_ask_5 ?_
  refine lv_iload_n hx hb dX3_ask_8 rfl (lv_at hl 1 rfl) ?_
  obtain ⟨r3, hr3, h⟩ := pq_b h
  refine pw_fi (ws0 := W3 cy qa P T S nw hz ak pa wt cd ln) (ws1 := W3 cy qa P T S nw hz ak pa wt cd ln) (wc := WP cy (qa 1) P) (w1 := WP cy (qa 1) P) (rest := []) (As := [.int x1]) hF (kX2_canRequest l D cy (qa 1) _ P x1 r3 hr3) (cwV 1 hts (pw_gV (own := RX3) (idx := 47) (C := RX2) (y := yX2_canRequest) aw_406 aw_407 aw_408 aw_2 aw_409) rfl rfl rfl pX2_canRequest ⟨Nat.le_of_ble_eq_true rfl, Nat.le_of_ble_eq_true rfl⟩) 2 (RX2, TX2, 16) rfl rfl ⟨0, _, rfl⟩ hK hP hD hS hA (pw_s3 _ _ _ _ _) (pw_s3 _ _ _ _ _) rfl rfl hl.1 rfl (Nat.le_of_ble_eq_true rfl) dX3_ask_9 ⟨Nat.zero_le _, Nat.zero_le _⟩ (fun H locs hP hD hS => ?_)
  refine lv_if_ne (tgt := 25) hx hb dX3_ask_12 (by decide) (fun c1_ => ?_) (fun c1_ => ?_)
  · have h := pq_e c1_ h
    refine lv_aload_n hx hb dX3_ask_25 rfl (lv_at hl 0 rfl) ?_
    refine va_get (D := D) (ci := 3) (v := .ref (qa 4 0)) (C := RX3) (T := TX3) (N := 7) hx hb hts hin3 hown hK hP 0 rfl rfl 5 (by decide) (hta _ aw_129) (fun _ h9 => h9) rfl dX3_ask_26 ?_
    refine lv_aload_n hx hb dX3_ask_29 rfl (lv_at hl 0 rfl) ?_
    refine va_get (D := D) (ci := 3) (v := .ref (qa 1 0)) (C := RX3) (T := TX3) (N := 7) hx hb hts hin3 hown hK hP 0 rfl rfl 0 (by decide) (hta _ aw_124) (fun _ h9 => h9) rfl dX3_ask_30 ?_
    obtain ⟨r4, hr4, h⟩ := pq_b h
    refine pw_fv (ws0 := W3 cy qa P T S nw hz ak pa wt cd ln) (ws1 := W3 cy qa P T r4.1 r4.2.1 r4.2.2 ak pa wt cd ln) (wc := WP cy (qa 1) P ++ WH cy qa S nw hz) (w1 := WP cy (qa 1) P ++ WH cy qa r4.1 r4.2.1 r4.2.2) (rest := []) (As := [.ref (qa 1 0)]) hF (kX1_save l D cy qa _ P S nw hz r4 hr4) (cwV 1 hts (pw_gV (own := RX3) (idx := 58) (C := RX1) (y := yX1_save) aw_150 aw_151 aw_152 aw_4 aw_153) rfl rfl rfl pX1_save ⟨Nat.le_of_ble_eq_true rfl, Nat.le_of_ble_eq_true rfl⟩) 1 (RX1, TX1, 3) rfl rfl ⟨15, _, rfl⟩ hK hP hD hS hA (pw_s34 _ _ _ _ _) (pw_s34 _ _ _ _ _) rfl rfl hl.1 rfl (Nat.le_of_ble_eq_true rfl) dX3_ask_33 ⟨Nat.zero_le _, Nat.zero_le _⟩ (fun H locs hP hD hS => ?_)
    refine lv_aload_n hx hb dX3_ask_36 rfl (lv_at hl 0 rfl) ?_
    refine va_get (D := D) (ci := 3) (v := .ref (qa 1 0)) (C := RX3) (T := TX3) (N := 7) hx hb hts hin3 hown hK hP 0 rfl rfl 0 (by decide) (hta _ aw_124) (fun _ h9 => h9) rfl dX3_ask_37 ?_
    refine lv_iload_n hx hb dX3_ask_40 rfl (lv_at hl 1 rfl) ?_
    obtain ⟨r5, hr5, h⟩ := pq_b h
    refine pw_fi (ws0 := W3 cy qa P T r4.1 r4.2.1 r4.2.2 ak pa wt cd ln) (ws1 := W3 cy qa r5.2 T r4.1 r4.2.1 r4.2.2 ak pa wt cd ln) (wc := WP cy (qa 1) P) (w1 := WP cy (qa 1) r5.2) (rest := []) (As := [.int x1]) hF (kX2_request l D cy (qa 1) _ P x1 r5 hr5) (cwV 1 hts (pw_gV (own := RX3) (idx := 62) (C := RX2) (y := yX2_request) aw_410 aw_411 aw_412 aw_2 aw_413) rfl rfl rfl pX2_request ⟨Nat.le_of_ble_eq_true rfl, Nat.le_of_ble_eq_true rfl⟩) 2 (RX2, TX2, 16) rfl rfl ⟨0, _, rfl⟩ hK hP hD hS hA (pw_s3 _ _ _ _ _) (pw_s3 _ _ _ _ _) rfl rfl hl.1 rfl (Nat.le_of_ble_eq_true rfl) dX3_ask_41 ⟨Nat.zero_le _, Nat.zero_le _⟩ (fun H locs hP hD hS => ?_)
    obtain rfl := Sum.inr.inj (Option.some.inj h)
    subst hQ
    exact pw_ri hx hb hr hlk hAe hP hS rfl dX3_ask_44
  · have h := pq_t c1_ h
    exact nomatch h

def aX3_requirePlace : List Cond := Cond.code yX3_requirePlace cX3_requirePlace 1 none :: pw_all
theorem pX3_requirePlace : yX3_requirePlace.cls = RX3 ∧ yX3_requirePlace.cls ≠ "java/lang/invoke/MethodHandle" ∧ yX3_requirePlace.cls ≠ "java/lang/invoke/VarHandle" ∧ (parseMethodDescriptor yX3_requirePlace.desc).map (fun d => d.parameters.length) = some 1 := by decide +kernel
set_option maxHeartbeats 8000000 in
set_option maxRecDepth 100000 in
theorem kX3_requirePlace (l : Launch) (D : va_G) (cy : Nat → ClassId) (sz : Nat)  (x0 : Int32) (o : Unit) (h : fX3_requirePlace x0 = some (Sum.inr o)) : Met l yX3_requirePlace aX3_requirePlace ({ frames := 0, cells := 0, slots := 0, locals := 0 }) (pw_Pre D cy [.int x0] ([]) sz) (pw_V D ([]) ([]) sz) 0 0 (va_A ([]) sz) := by
  refine pw_met (cc := cX3_requirePlace) (maxL := 1) (ret := none) (by decide) rfl (Nat.le_of_ble_eq_true rfl) ?_
  intro p e s m args below meth c ls A hx hb hr hml hlk hts hown hAe hA hK hP hD hS hl
  have hl : lv_has ls 1 [(0, .int x0)] := hl
  generalize hQ : MQ below (pw_V D ([]) ([]) sz) args s 0 0 (va_A ([]) sz) = Q
  have hF : CallFix p m c cX3_requirePlace 1 s args aX3_requirePlace RX3 := ⟨hx, hb, hml, hown, hts⟩
  have hta : ∀ w ∈ pw_all, w.before args s = true := fun w h => hts w (List.mem_cons_of_mem _ h)
  unfold fX3_requirePlace at h
  refine lv_iload_n hx hb dX3_requirePlace_0 rfl (lv_at hl 0 rfl) ?_
  refine lv_if_lt (tgt := 10) hx hb dX3_requirePlace_1 (by decide) (fun c1_ => ?_) (fun c1_ => ?_)
  · have h := pq_t c1_ h
    exact nomatch h
  · have h := pq_e c1_ h
    refine lv_iload_n hx hb dX3_requirePlace_4 rfl (lv_at hl 0 rfl) ?_
    refine lv_bipush (v := 8) hx hb dX3_requirePlace_5 (by decide) ?_
    refine lv_icmp_lt (tgt := 21) hx hb dX3_requirePlace_7 (by decide) (fun c2_ => ?_) (fun c2_ => ?_)
    · have h := pq_t c2_ h
      obtain rfl := Sum.inr.inj (Option.some.inj h)
      subst hQ
      exact pw_rv hx hb hr hlk hAe hP hS dX3_requirePlace_21
    · have h := pq_e c2_ h
      exact nomatch h

def aX3_give : List Cond := Cond.code yX3_give cX3_give 2 (some .int) :: pw_all
theorem pX3_give : yX3_give.cls = RX3 ∧ yX3_give.cls ≠ "java/lang/invoke/MethodHandle" ∧ yX3_give.cls ≠ "java/lang/invoke/VarHandle" ∧ (parseMethodDescriptor yX3_give.desc).map (fun d => d.parameters.length) = some 1 := by decide +kernel
set_option maxHeartbeats 8000000 in
set_option maxRecDepth 100000 in
theorem kX3_give (l : Launch) (D : va_G) (cy : Nat → ClassId) (qa : Nat → Nat → Nat) (sz : Nat) (P : Nat → Nat → Int32) (T : Nat → Nat → Int32) (S : Nat → Nat → Nat → Int32) (nw : Int32) (hz : Int32) (ak : Nat → Int32) (pa : Nat → Int32) (wt : Nat → Int32) (cd : Nat → Int32) (ln : Int32) (x1 : Int32) (o : Int32 × (Nat → Nat → Int32) × (Nat → Nat → Nat → Int32) × Int32 × Int32) (h : fX3_give x1 P S nw hz = some (Sum.inr o)) : Met l yX3_give aX3_give ({ frames := 5, cells := 0, slots := 0, locals := 113 }) (pw_Pre D cy [.ref (qa 0 0), .int x1] (W3 cy qa P T S nw hz ak pa wt cd ln) sz) (pw_I D o.1 (W3 cy qa P T S nw hz ak pa wt cd ln) (W3 cy qa o.2.1 T o.2.2.1 o.2.2.2.1 o.2.2.2.2 ak pa wt cd ln) sz) 0 0 (va_A (W3 cy qa P T S nw hz ak pa wt cd ln) sz) := by
  refine pw_met (cc := cX3_give) (maxL := 2) (ret := (some .int)) (by decide) rfl (Nat.le_of_ble_eq_true rfl) ?_
  intro p e s m args below meth c ls A hx hb hr hml hlk hts hown hAe hA hK hP hD hS hl
  have hl : lv_has ls 2 [(0, .ref (qa 0 0)), (1, .int x1)] := hl
  generalize hQ : MQ below (pw_I D o.1 (W3 cy qa P T S nw hz ak pa wt cd ln) (W3 cy qa o.2.1 T o.2.2.1 o.2.2.2.1 o.2.2.2.2 ak pa wt cd ln) sz) args s 0 0 (va_A (W3 cy qa P T S nw hz ak pa wt cd ln) sz) = Q
  have hF : CallFix p m c cX3_give 2 s args aX3_give RX3 := ⟨hx, hb, hml, hown, hts⟩
  have hta : ∀ w ∈ pw_all, w.before args s = true := fun w h => hts w (List.mem_cons_of_mem _ h)
  have hin3 : ∀ w ∈ wsX30, w ∈ aX3_give := fun w h => List.mem_cons_of_mem _ (inA3 w h)
  have hin2 : ∀ w ∈ wsX20, w ∈ aX3_give := fun w h => List.mem_cons_of_mem _ (inA2 w h)
  have hin1 : ∀ w ∈ wsX10, w ∈ aX3_give := fun w h => List.mem_cons_of_mem _ (inA1 w h)
  have hin0 : ∀ w ∈ wsX00, w ∈ aX3_give := fun w h => List.mem_cons_of_mem _ (inA0 w h)
  unfold fX3_give at h
  refine lv_iload_n hx hb dX3_give_0 rfl (lv_at hl 1 rfl) ?_
  obtain ⟨r1, hr1, h⟩ := pq_b h
  obtain ⟨a2, rfl, h⟩ := pq_inr h
  refine pw_sv (rest := []) (As := [.int x1]) hF (kX3_requirePlace l D cy _ x1 a2 hr1) (cwS 1 hts (pw_gS (own := RX3) (idx := 66) (y := yX3_requirePlace) aw_478 aw_479 aw_1 aw_480) rfl rfl rfl pX3_requirePlace ⟨Nat.le_of_ble_eq_true rfl, Nat.le_of_ble_eq_true rfl⟩) hK hP hS hA rfl hl.1 rfl (Nat.le_of_ble_eq_true rfl) dX3_give_1 ⟨Nat.zero_le _, Nat.zero_le _⟩ (fun H locs hP hS => ?_)
  refine lv_aload_n hx hb dX3_give_4 rfl (lv_at hl 0 rfl) ?_
  refine va_get (D := D) (ci := 3) (v := .ref (qa 1 0)) (C := RX3) (T := TX3) (N := 7) hx hb hts hin3 hown hK hP 0 rfl rfl 0 (by decide) (hta _ aw_124) (fun _ h9 => h9) rfl dX3_give_5 ?_
  refine lv_iload_n hx hb dX3_give_8 rfl (lv_at hl 1 rfl) ?_
  obtain ⟨r3, hr3, h⟩ := pq_b h
  refine pw_fi (ws0 := W3 cy qa P T S nw hz ak pa wt cd ln) (ws1 := W3 cy qa P T S nw hz ak pa wt cd ln) (wc := WP cy (qa 1) P) (w1 := WP cy (qa 1) P) (rest := []) (As := [.int x1]) hF (kX2_canTakeBack l D cy (qa 1) _ P x1 r3 hr3) (cwV 1 hts (pw_gV (own := RX3) (idx := 69) (C := RX2) (y := yX2_canTakeBack) aw_482 aw_483 aw_484 aw_2 aw_485) rfl rfl rfl pX2_canTakeBack ⟨Nat.le_of_ble_eq_true rfl, Nat.le_of_ble_eq_true rfl⟩) 2 (RX2, TX2, 16) rfl rfl ⟨0, _, rfl⟩ hK hP hD hS hA (pw_s3 _ _ _ _ _) (pw_s3 _ _ _ _ _) rfl rfl hl.1 rfl (Nat.le_of_ble_eq_true rfl) dX3_give_9 ⟨Nat.zero_le _, Nat.zero_le _⟩ (fun H locs hP hD hS => ?_)
  refine lv_if_ne (tgt := 25) hx hb dX3_give_12 (by decide) (fun c1_ => ?_) (fun c1_ => ?_)
  · have h := pq_e c1_ h
    refine lv_aload_n hx hb dX3_give_25 rfl (lv_at hl 0 rfl) ?_
    refine va_get (D := D) (ci := 3) (v := .ref (qa 4 0)) (C := RX3) (T := TX3) (N := 7) hx hb hts hin3 hown hK hP 0 rfl rfl 5 (by decide) (hta _ aw_129) (fun _ h9 => h9) rfl dX3_give_26 ?_
    refine lv_aload_n hx hb dX3_give_29 rfl (lv_at hl 0 rfl) ?_
    refine va_get (D := D) (ci := 3) (v := .ref (qa 1 0)) (C := RX3) (T := TX3) (N := 7) hx hb hts hin3 hown hK hP 0 rfl rfl 0 (by decide) (hta _ aw_124) (fun _ h9 => h9) rfl dX3_give_30 ?_
    obtain ⟨r4, hr4, h⟩ := pq_b h
    refine pw_fv (ws0 := W3 cy qa P T S nw hz ak pa wt cd ln) (ws1 := W3 cy qa P T r4.1 r4.2.1 r4.2.2 ak pa wt cd ln) (wc := WP cy (qa 1) P ++ WH cy qa S nw hz) (w1 := WP cy (qa 1) P ++ WH cy qa r4.1 r4.2.1 r4.2.2) (rest := []) (As := [.ref (qa 1 0)]) hF (kX1_save l D cy qa _ P S nw hz r4 hr4) (cwV 1 hts (pw_gV (own := RX3) (idx := 58) (C := RX1) (y := yX1_save) aw_150 aw_151 aw_152 aw_4 aw_153) rfl rfl rfl pX1_save ⟨Nat.le_of_ble_eq_true rfl, Nat.le_of_ble_eq_true rfl⟩) 1 (RX1, TX1, 3) rfl rfl ⟨15, _, rfl⟩ hK hP hD hS hA (pw_s34 _ _ _ _ _) (pw_s34 _ _ _ _ _) rfl rfl hl.1 rfl (Nat.le_of_ble_eq_true rfl) dX3_give_33 ⟨Nat.zero_le _, Nat.zero_le _⟩ (fun H locs hP hD hS => ?_)
    refine lv_aload_n hx hb dX3_give_36 rfl (lv_at hl 0 rfl) ?_
    refine va_get (D := D) (ci := 3) (v := .ref (qa 1 0)) (C := RX3) (T := TX3) (N := 7) hx hb hts hin3 hown hK hP 0 rfl rfl 0 (by decide) (hta _ aw_124) (fun _ h9 => h9) rfl dX3_give_37 ?_
    refine lv_iload_n hx hb dX3_give_40 rfl (lv_at hl 1 rfl) ?_
    obtain ⟨r5, hr5, h⟩ := pq_b h
    refine pw_fv (ws0 := W3 cy qa P T r4.1 r4.2.1 r4.2.2 ak pa wt cd ln) (ws1 := W3 cy qa r5 T r4.1 r4.2.1 r4.2.2 ak pa wt cd ln) (wc := WP cy (qa 1) P) (w1 := WP cy (qa 1) r5) (rest := []) (As := [.int x1]) hF (kX2_takeBack l D cy (qa 1) _ P x1 r5 hr5) (cwV 1 hts (pw_gV (own := RX3) (idx := 74) (C := RX2) (y := yX2_takeBack) aw_487 aw_488 aw_489 aw_2 aw_490) rfl rfl rfl pX2_takeBack ⟨Nat.le_of_ble_eq_true rfl, Nat.le_of_ble_eq_true rfl⟩) 2 (RX2, TX2, 16) rfl rfl ⟨0, _, rfl⟩ hK hP hD hS hA (pw_s3 _ _ _ _ _) (pw_s3 _ _ _ _ _) rfl rfl hl.1 rfl (Nat.le_of_ble_eq_true rfl) dX3_give_41 ⟨Nat.zero_le _, Nat.zero_le _⟩ (fun H locs hP hD hS => ?_)
    refine lv_aload_n hx hb dX3_give_44 rfl (lv_at hl 0 rfl) ?_
    refine va_get (D := D) (ci := 3) (v := .ref (qa 1 0)) (C := RX3) (T := TX3) (N := 7) hx hb hts hin3 hown hK hP 0 rfl rfl 0 (by decide) (hta _ aw_124) (fun _ h9 => h9) rfl dX3_give_45 ?_
    refine lv_iload_n hx hb dX3_give_48 rfl (lv_at hl 1 rfl) ?_
    obtain ⟨r6, hr6, h⟩ := pq_b h
    refine pw_fi (ws0 := W3 cy qa r5 T r4.1 r4.2.1 r4.2.2 ak pa wt cd ln) (ws1 := W3 cy qa r5 T r4.1 r4.2.1 r4.2.2 ak pa wt cd ln) (wc := WP cy (qa 1) r5) (w1 := WP cy (qa 1) r5) (rest := []) (As := [.int x1]) hF (kX2_borrower l D cy (qa 1) _ r5 x1 r6 hr6) (cwV 1 hts (pw_gV (own := RX3) (idx := 77) (C := RX2) (y := yX2_borrower) aw_491 aw_360 aw_361 aw_2 aw_362) rfl rfl rfl pX2_borrower ⟨Nat.le_of_ble_eq_true rfl, Nat.le_of_ble_eq_true rfl⟩) 2 (RX2, TX2, 16) rfl rfl ⟨0, _, rfl⟩ hK hP hD hS hA (pw_s3 _ _ _ _ _) (pw_s3 _ _ _ _ _) rfl rfl hl.1 rfl (Nat.le_of_ble_eq_true rfl) dX3_give_49 ⟨Nat.zero_le _, Nat.zero_le _⟩ (fun H locs hP hD hS => ?_)
    obtain rfl := Sum.inr.inj (Option.some.inj h)
    subst hQ
    exact pw_ri hx hb hr hlk hAe hP hS rfl dX3_give_52
  · have h := pq_t c1_ h
    exact nomatch h

def aX3_giveUp : List Cond := Cond.code yX3_giveUp cX3_giveUp 3 (some .int) :: pw_all
theorem pX3_giveUp : yX3_giveUp.cls = RX3 ∧ yX3_giveUp.cls ≠ "java/lang/invoke/MethodHandle" ∧ yX3_giveUp.cls ≠ "java/lang/invoke/VarHandle" ∧ (parseMethodDescriptor yX3_giveUp.desc).map (fun d => d.parameters.length) = some 1 := by decide +kernel
set_option maxHeartbeats 8000000 in
set_option maxRecDepth 100000 in
theorem kX3_giveUp (l : Launch) (D : va_G) (cy : Nat → ClassId) (qa : Nat → Nat → Nat) (sz : Nat) (P : Nat → Nat → Int32) (T : Nat → Nat → Int32) (S : Nat → Nat → Nat → Int32) (nw : Int32) (hz : Int32) (ak : Nat → Int32) (pa : Nat → Int32) (wt : Nat → Int32) (cd : Nat → Int32) (ln : Int32) (x1 : Int32) (o : Int32 × (Nat → Nat → Int32) × (Nat → Nat → Nat → Int32) × Int32 × Int32) (h : fX3_giveUp x1 P S nw hz = some (Sum.inr o)) : Met l yX3_giveUp aX3_giveUp ({ frames := 5, cells := 0, slots := 0, locals := 113 }) (pw_Pre D cy [.ref (qa 0 0), .int x1] (W3 cy qa P T S nw hz ak pa wt cd ln) sz) (pw_I D o.1 (W3 cy qa P T S nw hz ak pa wt cd ln) (W3 cy qa o.2.1 T o.2.2.1 o.2.2.2.1 o.2.2.2.2 ak pa wt cd ln) sz) 0 0 (va_A (W3 cy qa P T S nw hz ak pa wt cd ln) sz) := by
  refine pw_met (cc := cX3_giveUp) (maxL := 3) (ret := (some .int)) (by decide) rfl (Nat.le_of_ble_eq_true rfl) ?_
  intro p e s m args below meth c ls A hx hb hr hml hlk hts hown hAe hA hK hP hD hS hl
  have hl : lv_has ls 3 [(0, .ref (qa 0 0)), (1, .int x1)] := hl
  generalize hQ : MQ below (pw_I D o.1 (W3 cy qa P T S nw hz ak pa wt cd ln) (W3 cy qa o.2.1 T o.2.2.1 o.2.2.2.1 o.2.2.2.2 ak pa wt cd ln) sz) args s 0 0 (va_A (W3 cy qa P T S nw hz ak pa wt cd ln) sz) = Q
  have hF : CallFix p m c cX3_giveUp 3 s args aX3_giveUp RX3 := ⟨hx, hb, hml, hown, hts⟩
  have hta : ∀ w ∈ pw_all, w.before args s = true := fun w h => hts w (List.mem_cons_of_mem _ h)
  have hin3 : ∀ w ∈ wsX30, w ∈ aX3_giveUp := fun w h => List.mem_cons_of_mem _ (inA3 w h)
  have hin2 : ∀ w ∈ wsX20, w ∈ aX3_giveUp := fun w h => List.mem_cons_of_mem _ (inA2 w h)
  have hin1 : ∀ w ∈ wsX10, w ∈ aX3_giveUp := fun w h => List.mem_cons_of_mem _ (inA1 w h)
  have hin0 : ∀ w ∈ wsX00, w ∈ aX3_giveUp := fun w h => List.mem_cons_of_mem _ (inA0 w h)
  unfold fX3_giveUp at h
  refine lv_iload_n hx hb dX3_giveUp_0 rfl (lv_at hl 1 rfl) ?_
  obtain ⟨r1, hr1, h⟩ := pq_b h
  obtain ⟨a2, rfl, h⟩ := pq_inr h
  refine pw_sv (rest := []) (As := [.int x1]) hF (kX3_requireOwner l D cy _ x1 a2 hr1) (cwS 1 hts (pw_gS (own := RX3) (idx := 43) (y := yX3_requireOwner) aw_436 aw_437 aw_1 aw_438) rfl rfl rfl pX3_requireOwner ⟨Nat.le_of_ble_eq_true rfl, Nat.le_of_ble_eq_true rfl⟩) hK hP hS hA rfl hl.1 rfl (Nat.le_of_ble_eq_true rfl) dX3_giveUp_1 ⟨Nat.zero_le _, Nat.zero_le _⟩ (fun H locs hP hS => ?_)
  refine lv_aload_n hx hb dX3_giveUp_4 rfl (lv_at hl 0 rfl) ?_
  refine va_get (D := D) (ci := 3) (v := .ref (qa 1 0)) (C := RX3) (T := TX3) (N := 7) hx hb hts hin3 hown hK hP 0 rfl rfl 0 (by decide) (hta _ aw_124) (fun _ h9 => h9) rfl dX3_giveUp_5 ?_
  refine lv_iload_n hx hb dX3_giveUp_8 rfl (lv_at hl 1 rfl) ?_
  obtain ⟨r3, hr3, h⟩ := pq_b h
  refine pw_fi (ws0 := W3 cy qa P T S nw hz ak pa wt cd ln) (ws1 := W3 cy qa P T S nw hz ak pa wt cd ln) (wc := WP cy (qa 1) P) (w1 := WP cy (qa 1) P) (rest := []) (As := [.int x1]) hF (kX2_turnOf l D cy (qa 1) _ P x1 r3 hr3) (cwV 1 hts (pw_gV (own := RX3) (idx := 80) (C := RX2) (y := yX2_turnOf) aw_499 aw_395 aw_396 aw_2 aw_397) rfl rfl rfl pX2_turnOf ⟨Nat.le_of_ble_eq_true rfl, Nat.le_of_ble_eq_true rfl⟩) 2 (RX2, TX2, 16) rfl rfl ⟨0, _, rfl⟩ hK hP hD hS hA (pw_s3 _ _ _ _ _) (pw_s3 _ _ _ _ _) rfl rfl hl.1 rfl (Nat.le_of_ble_eq_true rfl) dX3_giveUp_9 ⟨Nat.zero_le _, Nat.zero_le _⟩ (fun H locs hP hD hS => ?_)
  refine lv_iconst (v := (-1)) hx hb dX3_giveUp_12 (by decide) ?_
  refine lv_icmp_ne (tgt := 26) hx hb dX3_giveUp_13 (by decide) (fun c1_ => ?_) (fun c1_ => ?_)
  · have h := pq_e c1_ h
    refine lv_aload_n hx hb dX3_giveUp_26 rfl (lv_at hl 0 rfl) ?_
    refine va_get (D := D) (ci := 3) (v := .ref (qa 4 0)) (C := RX3) (T := TX3) (N := 7) hx hb hts hin3 hown hK hP 0 rfl rfl 5 (by decide) (hta _ aw_129) (fun _ h9 => h9) rfl dX3_giveUp_27 ?_
    refine lv_aload_n hx hb dX3_giveUp_30 rfl (lv_at hl 0 rfl) ?_
    refine va_get (D := D) (ci := 3) (v := .ref (qa 1 0)) (C := RX3) (T := TX3) (N := 7) hx hb hts hin3 hown hK hP 0 rfl rfl 0 (by decide) (hta _ aw_124) (fun _ h9 => h9) rfl dX3_giveUp_31 ?_
    obtain ⟨r4, hr4, h⟩ := pq_b h
    refine pw_fv (ws0 := W3 cy qa P T S nw hz ak pa wt cd ln) (ws1 := W3 cy qa P T r4.1 r4.2.1 r4.2.2 ak pa wt cd ln) (wc := WP cy (qa 1) P ++ WH cy qa S nw hz) (w1 := WP cy (qa 1) P ++ WH cy qa r4.1 r4.2.1 r4.2.2) (rest := []) (As := [.ref (qa 1 0)]) hF (kX1_save l D cy qa _ P S nw hz r4 hr4) (cwV 1 hts (pw_gV (own := RX3) (idx := 58) (C := RX1) (y := yX1_save) aw_150 aw_151 aw_152 aw_4 aw_153) rfl rfl rfl pX1_save ⟨Nat.le_of_ble_eq_true rfl, Nat.le_of_ble_eq_true rfl⟩) 1 (RX1, TX1, 3) rfl rfl ⟨15, _, rfl⟩ hK hP hD hS hA (pw_s34 _ _ _ _ _) (pw_s34 _ _ _ _ _) rfl rfl hl.1 rfl (Nat.le_of_ble_eq_true rfl) dX3_giveUp_34 ⟨Nat.zero_le _, Nat.zero_le _⟩ (fun H locs hP hD hS => ?_)
    refine lv_aload_n hx hb dX3_giveUp_37 rfl (lv_at hl 0 rfl) ?_
    refine va_get (D := D) (ci := 3) (v := .ref (qa 1 0)) (C := RX3) (T := TX3) (N := 7) hx hb hts hin3 hown hK hP 0 rfl rfl 0 (by decide) (hta _ aw_124) (fun _ h9 => h9) rfl dX3_giveUp_38 ?_
    refine lv_iload_n hx hb dX3_giveUp_41 rfl (lv_at hl 1 rfl) ?_
    obtain ⟨r5, hr5, h⟩ := pq_b h
    refine pw_fi (ws0 := W3 cy qa P T r4.1 r4.2.1 r4.2.2 ak pa wt cd ln) (ws1 := W3 cy qa P T r4.1 r4.2.1 r4.2.2 ak pa wt cd ln) (wc := WP cy (qa 1) P) (w1 := WP cy (qa 1) P) (rest := []) (As := [.int x1]) hF (kX2_waitOf l D cy (qa 1) _ P x1 r5 hr5) (cwV 1 hts (pw_gV (own := RX3) (idx := 85) (C := RX2) (y := yX2_waitOf) aw_501 aw_399 aw_400 aw_2 aw_401) rfl rfl rfl pX2_waitOf ⟨Nat.le_of_ble_eq_true rfl, Nat.le_of_ble_eq_true rfl⟩) 2 (RX2, TX2, 16) rfl rfl ⟨0, _, rfl⟩ hK hP hD hS hA (pw_s3 _ _ _ _ _) (pw_s3 _ _ _ _ _) rfl rfl hl.1 rfl (Nat.le_of_ble_eq_true rfl) dX3_giveUp_42 ⟨Nat.zero_le _, Nat.zero_le _⟩ (fun H locs hP hD hS => ?_)
    refine lv_istore_n (lv' := [(2, .int r5), (0, .ref (qa 0 0)), (1, .int x1)]) hx hb dX3_giveUp_45 rfl hl (by decide) rfl (fun ls hl => ?_)
    refine lv_aload_n hx hb dX3_giveUp_46 rfl (lv_at hl 1 rfl) ?_
    refine va_get (D := D) (ci := 3) (v := .ref (qa 1 0)) (C := RX3) (T := TX3) (N := 7) hx hb hts hin3 hown hK hP 0 rfl rfl 0 (by decide) (hta _ aw_124) (fun _ h9 => h9) rfl dX3_giveUp_47 ?_
    refine lv_iload_n hx hb dX3_giveUp_50 rfl (lv_at hl 2 rfl) ?_
    obtain ⟨r6, hr6, h⟩ := pq_b h
    refine pw_fv (ws0 := W3 cy qa P T r4.1 r4.2.1 r4.2.2 ak pa wt cd ln) (ws1 := W3 cy qa r6 T r4.1 r4.2.1 r4.2.2 ak pa wt cd ln) (wc := WP cy (qa 1) P) (w1 := WP cy (qa 1) r6) (rest := []) (As := [.int x1]) hF (kX2_stopWaiting l D cy (qa 1) _ P x1 r6 hr6) (cwV 1 hts (pw_gV (own := RX3) (idx := 88) (C := RX2) (y := yX2_stopWaiting) aw_502 aw_503 aw_504 aw_2 aw_505) rfl rfl rfl pX2_stopWaiting ⟨Nat.le_of_ble_eq_true rfl, Nat.le_of_ble_eq_true rfl⟩) 2 (RX2, TX2, 16) rfl rfl ⟨0, _, rfl⟩ hK hP hD hS hA (pw_s3 _ _ _ _ _) (pw_s3 _ _ _ _ _) rfl rfl hl.1 rfl (Nat.le_of_ble_eq_true rfl) dX3_giveUp_51 ⟨Nat.zero_le _, Nat.zero_le _⟩ (fun H locs hP hD hS => ?_)
    refine lv_iload_n hx hb dX3_giveUp_54 rfl (lv_at hl 0 rfl) ?_
    obtain rfl := Sum.inr.inj (Option.some.inj h)
    subst hQ
    exact pw_ri hx hb hr hlk hAe hP hS rfl dX3_giveUp_55
  · have h := pq_t c1_ h
    exact nomatch h

def aX3_appear : List Cond := Cond.code yX3_appear cX3_appear 3 (some .int) :: pw_all
theorem pX3_appear : yX3_appear.cls = RX3 ∧ yX3_appear.cls ≠ "java/lang/invoke/MethodHandle" ∧ yX3_appear.cls ≠ "java/lang/invoke/VarHandle" ∧ (parseMethodDescriptor yX3_appear.desc).map (fun d => d.parameters.length) = some 2 := by decide +kernel
set_option maxHeartbeats 8000000 in
set_option maxRecDepth 100000 in
theorem kX3_appear (l : Launch) (D : va_G) (cy : Nat → ClassId) (qa : Nat → Nat → Nat) (sz : Nat) (P : Nat → Nat → Int32) (T : Nat → Nat → Int32) (S : Nat → Nat → Nat → Int32) (nw : Int32) (hz : Int32) (ak : Nat → Int32) (pa : Nat → Int32) (wt : Nat → Int32) (cd : Nat → Int32) (ln : Int32) (x1 : Int32) (x2 : Int32) (o : Int32 × (Nat → Nat → Int32) × (Nat → Nat → Nat → Int32) × Int32 × Int32) (h : fX3_appear x1 x2 P S nw hz = some (Sum.inr o)) : Met l yX3_appear aX3_appear ({ frames := 5, cells := 0, slots := 0, locals := 114 }) (pw_Pre D cy [.ref (qa 0 0), .int x1, .int x2] (W3 cy qa P T S nw hz ak pa wt cd ln) sz) (pw_I D o.1 (W3 cy qa P T S nw hz ak pa wt cd ln) (W3 cy qa o.2.1 T o.2.2.1 o.2.2.2.1 o.2.2.2.2 ak pa wt cd ln) sz) 0 0 (va_A (W3 cy qa P T S nw hz ak pa wt cd ln) sz) := by
  refine pw_met (cc := cX3_appear) (maxL := 3) (ret := (some .int)) (by decide) rfl (Nat.le_of_ble_eq_true rfl) ?_
  intro p e s m args below meth c ls A hx hb hr hml hlk hts hown hAe hA hK hP hD hS hl
  have hl : lv_has ls 3 [(0, .ref (qa 0 0)), (1, .int x1), (2, .int x2)] := hl
  generalize hQ : MQ below (pw_I D o.1 (W3 cy qa P T S nw hz ak pa wt cd ln) (W3 cy qa o.2.1 T o.2.2.1 o.2.2.2.1 o.2.2.2.2 ak pa wt cd ln) sz) args s 0 0 (va_A (W3 cy qa P T S nw hz ak pa wt cd ln) sz) = Q
  have hF : CallFix p m c cX3_appear 3 s args aX3_appear RX3 := ⟨hx, hb, hml, hown, hts⟩
  have hta : ∀ w ∈ pw_all, w.before args s = true := fun w h => hts w (List.mem_cons_of_mem _ h)
  have hin3 : ∀ w ∈ wsX30, w ∈ aX3_appear := fun w h => List.mem_cons_of_mem _ (inA3 w h)
  have hin2 : ∀ w ∈ wsX20, w ∈ aX3_appear := fun w h => List.mem_cons_of_mem _ (inA2 w h)
  have hin1 : ∀ w ∈ wsX10, w ∈ aX3_appear := fun w h => List.mem_cons_of_mem _ (inA1 w h)
  have hin0 : ∀ w ∈ wsX00, w ∈ aX3_appear := fun w h => List.mem_cons_of_mem _ (inA0 w h)
  unfold fX3_appear at h
  refine lv_iload_n hx hb dX3_appear_0 rfl (lv_at hl 1 rfl) ?_
  obtain ⟨r1, hr1, h⟩ := pq_b h
  obtain ⟨a2, rfl, h⟩ := pq_inr h
  refine pw_sv (rest := []) (As := [.int x1]) hF (kX3_requireOwner l D cy _ x1 a2 hr1) (cwS 1 hts (pw_gS (own := RX3) (idx := 43) (y := yX3_requireOwner) aw_436 aw_437 aw_1 aw_438) rfl rfl rfl pX3_requireOwner ⟨Nat.le_of_ble_eq_true rfl, Nat.le_of_ble_eq_true rfl⟩) hK hP hS hA rfl hl.1 rfl (Nat.le_of_ble_eq_true rfl) dX3_appear_1 ⟨Nat.zero_le _, Nat.zero_le _⟩ (fun H locs hP hS => ?_)
  refine lv_aload_n hx hb dX3_appear_4 rfl (lv_at hl 0 rfl) ?_
  refine va_get (D := D) (ci := 3) (v := .ref (qa 1 0)) (C := RX3) (T := TX3) (N := 7) hx hb hts hin3 hown hK hP 0 rfl rfl 0 (by decide) (hta _ aw_124) (fun _ h9 => h9) rfl dX3_appear_5 ?_
  refine lv_iload_n hx hb dX3_appear_8 rfl (lv_at hl 1 rfl) ?_
  obtain ⟨r3, hr3, h⟩ := pq_b h
  refine pw_fi (ws0 := W3 cy qa P T S nw hz ak pa wt cd ln) (ws1 := W3 cy qa P T S nw hz ak pa wt cd ln) (wc := WP cy (qa 1) P) (w1 := WP cy (qa 1) P) (rest := []) (As := [.int x1]) hF (kX2_isThere l D cy (qa 1) _ P x1 r3 hr3) (cwV 1 hts (pw_gV (own := RX3) (idx := 91) (C := RX2) (y := yX2_isThere) aw_513 aw_391 aw_392 aw_2 aw_393) rfl rfl rfl pX2_isThere ⟨Nat.le_of_ble_eq_true rfl, Nat.le_of_ble_eq_true rfl⟩) 2 (RX2, TX2, 16) rfl rfl ⟨0, _, rfl⟩ hK hP hD hS hA (pw_s3 _ _ _ _ _) (pw_s3 _ _ _ _ _) rfl rfl hl.1 rfl (Nat.le_of_ble_eq_true rfl) dX3_appear_9 ⟨Nat.zero_le _, Nat.zero_le _⟩ (fun H locs hP hD hS => ?_)
  refine lv_iload_n hx hb dX3_appear_12 rfl (lv_at hl 2 rfl) ?_
  refine lv_icmp_ne (tgt := 26) hx hb dX3_appear_13 (by decide) (fun c1_ => ?_) (fun c1_ => ?_)
  · have h := pq_e c1_ h
    refine lv_aload_n hx hb dX3_appear_26 rfl (lv_at hl 0 rfl) ?_
    refine va_get (D := D) (ci := 3) (v := .ref (qa 4 0)) (C := RX3) (T := TX3) (N := 7) hx hb hts hin3 hown hK hP 0 rfl rfl 5 (by decide) (hta _ aw_129) (fun _ h9 => h9) rfl dX3_appear_27 ?_
    refine lv_aload_n hx hb dX3_appear_30 rfl (lv_at hl 0 rfl) ?_
    refine va_get (D := D) (ci := 3) (v := .ref (qa 1 0)) (C := RX3) (T := TX3) (N := 7) hx hb hts hin3 hown hK hP 0 rfl rfl 0 (by decide) (hta _ aw_124) (fun _ h9 => h9) rfl dX3_appear_31 ?_
    obtain ⟨r4, hr4, h⟩ := pq_b h
    refine pw_fv (ws0 := W3 cy qa P T S nw hz ak pa wt cd ln) (ws1 := W3 cy qa P T r4.1 r4.2.1 r4.2.2 ak pa wt cd ln) (wc := WP cy (qa 1) P ++ WH cy qa S nw hz) (w1 := WP cy (qa 1) P ++ WH cy qa r4.1 r4.2.1 r4.2.2) (rest := []) (As := [.ref (qa 1 0)]) hF (kX1_save l D cy qa _ P S nw hz r4 hr4) (cwV 1 hts (pw_gV (own := RX3) (idx := 58) (C := RX1) (y := yX1_save) aw_150 aw_151 aw_152 aw_4 aw_153) rfl rfl rfl pX1_save ⟨Nat.le_of_ble_eq_true rfl, Nat.le_of_ble_eq_true rfl⟩) 1 (RX1, TX1, 3) rfl rfl ⟨15, _, rfl⟩ hK hP hD hS hA (pw_s34 _ _ _ _ _) (pw_s34 _ _ _ _ _) rfl rfl hl.1 rfl (Nat.le_of_ble_eq_true rfl) dX3_appear_34 ⟨Nat.zero_le _, Nat.zero_le _⟩ (fun H locs hP hD hS => ?_)
    refine lv_aload_n hx hb dX3_appear_37 rfl (lv_at hl 0 rfl) ?_
    refine va_get (D := D) (ci := 3) (v := .ref (qa 1 0)) (C := RX3) (T := TX3) (N := 7) hx hb hts hin3 hown hK hP 0 rfl rfl 0 (by decide) (hta _ aw_124) (fun _ h9 => h9) rfl dX3_appear_38 ?_
    refine lv_iload_n hx hb dX3_appear_41 rfl (lv_at hl 1 rfl) ?_
    refine lv_iload_n hx hb dX3_appear_42 rfl (lv_at hl 2 rfl) ?_
    obtain ⟨r5, hr5, h⟩ := pq_b h
    refine pw_fv (ws0 := W3 cy qa P T r4.1 r4.2.1 r4.2.2 ak pa wt cd ln) (ws1 := W3 cy qa r5 T r4.1 r4.2.1 r4.2.2 ak pa wt cd ln) (wc := WP cy (qa 1) P) (w1 := WP cy (qa 1) r5) (rest := []) (As := [.int x1, .int x2]) hF (kX2_turnUp l D cy (qa 1) _ P x1 x2 r5 hr5) (cwV 2 hts (pw_gV (own := RX3) (idx := 96) (C := RX2) (y := yX2_turnUp) aw_515 aw_516 aw_517 aw_2 aw_518) rfl rfl rfl pX2_turnUp ⟨Nat.le_of_ble_eq_true rfl, Nat.le_of_ble_eq_true rfl⟩) 2 (RX2, TX2, 16) rfl rfl ⟨0, _, rfl⟩ hK hP hD hS hA (pw_s3 _ _ _ _ _) (pw_s3 _ _ _ _ _) rfl rfl hl.1 rfl (Nat.le_of_ble_eq_true rfl) dX3_appear_43 ⟨Nat.zero_le _, Nat.zero_le _⟩ (fun H locs hP hD hS => ?_)
    refine lv_aload_n hx hb dX3_appear_46 rfl (lv_at hl 0 rfl) ?_
    refine va_get (D := D) (ci := 3) (v := .ref (qa 1 0)) (C := RX3) (T := TX3) (N := 7) hx hb hts hin3 hown hK hP 0 rfl rfl 0 (by decide) (hta _ aw_124) (fun _ h9 => h9) rfl dX3_appear_47 ?_
    refine lv_iload_n hx hb dX3_appear_50 rfl (lv_at hl 1 rfl) ?_
    obtain ⟨r6, hr6, h⟩ := pq_b h
    refine pw_fi (ws0 := W3 cy qa r5 T r4.1 r4.2.1 r4.2.2 ak pa wt cd ln) (ws1 := W3 cy qa r5 T r4.1 r4.2.1 r4.2.2 ak pa wt cd ln) (wc := WP cy (qa 1) r5) (w1 := WP cy (qa 1) r5) (rest := []) (As := [.int x1]) hF (kX2_lentCount l D cy (qa 1) _ r5 x1 r6 hr6) (cwV 1 hts (pw_gV (own := RX3) (idx := 100) (C := RX2) (y := yX2_lentCount) aw_255 aw_186 aw_187 aw_2 aw_188) rfl rfl rfl pX2_lentCount ⟨Nat.le_of_ble_eq_true rfl, Nat.le_of_ble_eq_true rfl⟩) 2 (RX2, TX2, 16) rfl rfl ⟨0, _, rfl⟩ hK hP hD hS hA (pw_s3 _ _ _ _ _) (pw_s3 _ _ _ _ _) rfl rfl hl.1 rfl (Nat.le_of_ble_eq_true rfl) dX3_appear_51 ⟨Nat.zero_le _, Nat.zero_le _⟩ (fun H locs hP hD hS => ?_)
    obtain rfl := Sum.inr.inj (Option.some.inj h)
    subst hQ
    exact pw_ri hx hb hr hlk hAe hP hS rfl dX3_appear_54
  · have h := pq_t c1_ h
    exact nomatch h

def aX3_sicken : List Cond := Cond.code yX3_sicken cX3_sicken 2 (some .int) :: pw_all
theorem pX3_sicken : yX3_sicken.cls = RX3 ∧ yX3_sicken.cls ≠ "java/lang/invoke/MethodHandle" ∧ yX3_sicken.cls ≠ "java/lang/invoke/VarHandle" ∧ (parseMethodDescriptor yX3_sicken.desc).map (fun d => d.parameters.length) = some 1 := by decide +kernel
set_option maxHeartbeats 8000000 in
set_option maxRecDepth 100000 in
theorem kX3_sicken (l : Launch) (D : va_G) (cy : Nat → ClassId) (qa : Nat → Nat → Nat) (sz : Nat) (P : Nat → Nat → Int32) (T : Nat → Nat → Int32) (S : Nat → Nat → Nat → Int32) (nw : Int32) (hz : Int32) (ak : Nat → Int32) (pa : Nat → Int32) (wt : Nat → Int32) (cd : Nat → Int32) (ln : Int32) (x1 : Int32) (o : Int32 × (Nat → Nat → Int32) × (Nat → Nat → Nat → Int32) × Int32 × Int32) (h : fX3_sicken x1 P S nw hz = some (Sum.inr o)) : Met l yX3_sicken aX3_sicken ({ frames := 3, cells := 0, slots := 0, locals := 111 }) (pw_Pre D cy [.ref (qa 0 0), .int x1] (W3 cy qa P T S nw hz ak pa wt cd ln) sz) (pw_I D o.1 (W3 cy qa P T S nw hz ak pa wt cd ln) (W3 cy qa o.2.1 T o.2.2.1 o.2.2.2.1 o.2.2.2.2 ak pa wt cd ln) sz) 0 0 (va_A (W3 cy qa P T S nw hz ak pa wt cd ln) sz) := by
  refine pw_met (cc := cX3_sicken) (maxL := 2) (ret := (some .int)) (by decide) rfl (Nat.le_of_ble_eq_true rfl) ?_
  intro p e s m args below meth c ls A hx hb hr hml hlk hts hown hAe hA hK hP hD hS hl
  have hl : lv_has ls 2 [(0, .ref (qa 0 0)), (1, .int x1)] := hl
  generalize hQ : MQ below (pw_I D o.1 (W3 cy qa P T S nw hz ak pa wt cd ln) (W3 cy qa o.2.1 T o.2.2.1 o.2.2.2.1 o.2.2.2.2 ak pa wt cd ln) sz) args s 0 0 (va_A (W3 cy qa P T S nw hz ak pa wt cd ln) sz) = Q
  have hF : CallFix p m c cX3_sicken 2 s args aX3_sicken RX3 := ⟨hx, hb, hml, hown, hts⟩
  have hta : ∀ w ∈ pw_all, w.before args s = true := fun w h => hts w (List.mem_cons_of_mem _ h)
  have hin3 : ∀ w ∈ wsX30, w ∈ aX3_sicken := fun w h => List.mem_cons_of_mem _ (inA3 w h)
  have hin2 : ∀ w ∈ wsX20, w ∈ aX3_sicken := fun w h => List.mem_cons_of_mem _ (inA2 w h)
  have hin1 : ∀ w ∈ wsX10, w ∈ aX3_sicken := fun w h => List.mem_cons_of_mem _ (inA1 w h)
  have hin0 : ∀ w ∈ wsX00, w ∈ aX3_sicken := fun w h => List.mem_cons_of_mem _ (inA0 w h)
  unfold fX3_sicken at h
  refine lv_iload_n hx hb dX3_sicken_0 rfl (lv_at hl 1 rfl) ?_
  obtain ⟨r1, hr1, h⟩ := pq_b h
  obtain ⟨a2, rfl, h⟩ := pq_inr h
  refine pw_sv (rest := []) (As := [.int x1]) hF (kX3_requirePlace l D cy _ x1 a2 hr1) (cwS 1 hts (pw_gS (own := RX3) (idx := 66) (y := yX3_requirePlace) aw_478 aw_479 aw_1 aw_480) rfl rfl rfl pX3_requirePlace ⟨Nat.le_of_ble_eq_true rfl, Nat.le_of_ble_eq_true rfl⟩) hK hP hS hA rfl hl.1 rfl (Nat.le_of_ble_eq_true rfl) dX3_sicken_1 ⟨Nat.zero_le _, Nat.zero_le _⟩ (fun H locs hP hS => ?_)
  refine lv_aload_n hx hb dX3_sicken_4 rfl (lv_at hl 0 rfl) ?_
  refine va_get (D := D) (ci := 3) (v := .ref (qa 1 0)) (C := RX3) (T := TX3) (N := 7) hx hb hts hin3 hown hK hP 0 rfl rfl 0 (by decide) (hta _ aw_124) (fun _ h9 => h9) rfl dX3_sicken_5 ?_
  refine lv_iload_n hx hb dX3_sicken_8 rfl (lv_at hl 1 rfl) ?_
  obtain ⟨r3, hr3, h⟩ := pq_b h
  refine pw_fi (ws0 := W3 cy qa P T S nw hz ak pa wt cd ln) (ws1 := W3 cy qa P T S nw hz ak pa wt cd ln) (wc := WP cy (qa 1) P) (w1 := WP cy (qa 1) P) (rest := []) (As := [.int x1]) hF (kX2_isEmpty l D cy (qa 1) _ P x1 r3 hr3) (cwV 1 hts (pw_gV (own := RX3) (idx := 103) (C := RX2) (y := yX2_isEmpty) aw_526 aw_214 aw_215 aw_2 aw_216) rfl rfl rfl pX2_isEmpty ⟨Nat.le_of_ble_eq_true rfl, Nat.le_of_ble_eq_true rfl⟩) 2 (RX2, TX2, 16) rfl rfl ⟨0, _, rfl⟩ hK hP hD hS hA (pw_s3 _ _ _ _ _) (pw_s3 _ _ _ _ _) rfl rfl hl.1 rfl (Nat.le_of_ble_eq_true rfl) dX3_sicken_9 ⟨Nat.zero_le _, Nat.zero_le _⟩ (fun H locs hP hD hS => ?_)
  refine lv_if_eq (tgt := 25) hx hb dX3_sicken_12 (by decide) (fun c1_ => ?_) (fun c1_ => ?_)
  · have h := pq_t c1_ h
    refine lv_aload_n hx hb dX3_sicken_25 rfl (lv_at hl 0 rfl) ?_
    refine va_get (D := D) (ci := 3) (v := .ref (qa 4 0)) (C := RX3) (T := TX3) (N := 7) hx hb hts hin3 hown hK hP 0 rfl rfl 5 (by decide) (hta _ aw_129) (fun _ h9 => h9) rfl dX3_sicken_26 ?_
    refine lv_aload_n hx hb dX3_sicken_29 rfl (lv_at hl 0 rfl) ?_
    refine va_get (D := D) (ci := 3) (v := .ref (qa 1 0)) (C := RX3) (T := TX3) (N := 7) hx hb hts hin3 hown hK hP 0 rfl rfl 0 (by decide) (hta _ aw_124) (fun _ h9 => h9) rfl dX3_sicken_30 ?_
    obtain ⟨r4, hr4, h⟩ := pq_b h
    refine pw_fv (ws0 := W3 cy qa P T S nw hz ak pa wt cd ln) (ws1 := W3 cy qa P T r4.1 r4.2.1 r4.2.2 ak pa wt cd ln) (wc := WP cy (qa 1) P ++ WH cy qa S nw hz) (w1 := WP cy (qa 1) P ++ WH cy qa r4.1 r4.2.1 r4.2.2) (rest := []) (As := [.ref (qa 1 0)]) hF (kX1_save l D cy qa _ P S nw hz r4 hr4) (cwV 1 hts (pw_gV (own := RX3) (idx := 58) (C := RX1) (y := yX1_save) aw_150 aw_151 aw_152 aw_4 aw_153) rfl rfl rfl pX1_save ⟨Nat.le_of_ble_eq_true rfl, Nat.le_of_ble_eq_true rfl⟩) 1 (RX1, TX1, 3) rfl rfl ⟨15, _, rfl⟩ hK hP hD hS hA (pw_s34 _ _ _ _ _) (pw_s34 _ _ _ _ _) rfl rfl hl.1 rfl (Nat.le_of_ble_eq_true rfl) dX3_sicken_33 ⟨Nat.zero_le _, Nat.zero_le _⟩ (fun H locs hP hD hS => ?_)
    refine lv_aload_n hx hb dX3_sicken_36 rfl (lv_at hl 0 rfl) ?_
    refine va_get (D := D) (ci := 3) (v := .ref (qa 1 0)) (C := RX3) (T := TX3) (N := 7) hx hb hts hin3 hown hK hP 0 rfl rfl 0 (by decide) (hta _ aw_124) (fun _ h9 => h9) rfl dX3_sicken_37 ?_
    refine lv_iload_n hx hb dX3_sicken_40 rfl (lv_at hl 1 rfl) ?_
    obtain ⟨r5, hr5, h⟩ := pq_b h
    refine pw_fi (ws0 := W3 cy qa P T r4.1 r4.2.1 r4.2.2 ak pa wt cd ln) (ws1 := W3 cy qa r5.2 T r4.1 r4.2.1 r4.2.2 ak pa wt cd ln) (wc := WP cy (qa 1) P) (w1 := WP cy (qa 1) r5.2) (rest := []) (As := [.int x1]) hF (kX2_makeSick l D cy (qa 1) _ P x1 r5 hr5) (cwV 1 hts (pw_gV (own := RX3) (idx := 108) (C := RX2) (y := yX2_makeSick) aw_528 aw_529 aw_530 aw_2 aw_531) rfl rfl rfl pX2_makeSick ⟨Nat.le_of_ble_eq_true rfl, Nat.le_of_ble_eq_true rfl⟩) 2 (RX2, TX2, 16) rfl rfl ⟨0, _, rfl⟩ hK hP hD hS hA (pw_s3 _ _ _ _ _) (pw_s3 _ _ _ _ _) rfl rfl hl.1 rfl (Nat.le_of_ble_eq_true rfl) dX3_sicken_41 ⟨Nat.zero_le _, Nat.zero_le _⟩ (fun H locs hP hD hS => ?_)
    refine lv_if_eq (tgt := 51) hx hb dX3_sicken_44 (by decide) (fun c2_ => ?_) (fun c2_ => ?_)
    · have h := pq_t c2_ h
      refine lv_iconst (v := 0) hx hb dX3_sicken_51 (by decide) ?_
      obtain rfl := Sum.inr.inj (Option.some.inj h)
      subst hQ
      exact pw_ri hx hb hr hlk hAe hP hS rfl dX3_sicken_52
    · have h := pq_e c2_ h
      refine lv_iconst (v := 1) hx hb dX3_sicken_47 (by decide) ?_
      refine lv_goto (tgt := 52) hx hb dX3_sicken_48 (by decide) ?_
      obtain rfl := Sum.inr.inj (Option.some.inj h)
      subst hQ
      exact pw_ri hx hb hr hlk hAe hP hS rfl dX3_sicken_52
  · have h := pq_e c1_ h
    exact nomatch h

def aX3_check : List Cond := Cond.code yX3_check cX3_check 2 (some .int) :: pw_all
theorem pX3_check : yX3_check.cls = RX3 ∧ yX3_check.cls ≠ "java/lang/invoke/MethodHandle" ∧ yX3_check.cls ≠ "java/lang/invoke/VarHandle" ∧ (parseMethodDescriptor yX3_check.desc).map (fun d => d.parameters.length) = some 0 := by decide +kernel
set_option maxHeartbeats 8000000 in
set_option maxRecDepth 100000 in
theorem kX3_check (l : Launch) (D : va_G) (cy : Nat → ClassId) (qa : Nat → Nat → Nat) (sz : Nat) (P : Nat → Nat → Int32) (T : Nat → Nat → Int32) (S : Nat → Nat → Nat → Int32) (nw : Int32) (hz : Int32) (ak : Nat → Int32) (pa : Nat → Int32) (wt : Nat → Int32) (cd : Nat → Int32) (ln : Int32)  (o : Int32 × (Nat → Nat → Int32) × (Nat → Nat → Nat → Int32) × Int32 × Int32) (h : fX3_check P S nw hz = some o) : Met l yX3_check aX3_check ({ frames := 4, cells := 0, slots := 0, locals := 111 }) (pw_Pre D cy [.ref (qa 0 0)] (W3 cy qa P T S nw hz ak pa wt cd ln) sz) (pw_I D o.1 (W3 cy qa P T S nw hz ak pa wt cd ln) (W3 cy qa o.2.1 T o.2.2.1 o.2.2.2.1 o.2.2.2.2 ak pa wt cd ln) sz) 0 0 (va_A (W3 cy qa P T S nw hz ak pa wt cd ln) sz) := by
  refine pw_met (cc := cX3_check) (maxL := 2) (ret := (some .int)) (by decide) rfl (Nat.le_of_ble_eq_true rfl) ?_
  intro p e s m args below meth c ls A hx hb hr hml hlk hts hown hAe hA hK hP hD hS hl
  have hl : lv_has ls 2 [(0, .ref (qa 0 0))] := hl
  generalize hQ : MQ below (pw_I D o.1 (W3 cy qa P T S nw hz ak pa wt cd ln) (W3 cy qa o.2.1 T o.2.2.1 o.2.2.2.1 o.2.2.2.2 ak pa wt cd ln) sz) args s 0 0 (va_A (W3 cy qa P T S nw hz ak pa wt cd ln) sz) = Q
  have hF : CallFix p m c cX3_check 2 s args aX3_check RX3 := ⟨hx, hb, hml, hown, hts⟩
  have hta : ∀ w ∈ pw_all, w.before args s = true := fun w h => hts w (List.mem_cons_of_mem _ h)
  have hin3 : ∀ w ∈ wsX30, w ∈ aX3_check := fun w h => List.mem_cons_of_mem _ (inA3 w h)
  have hin2 : ∀ w ∈ wsX20, w ∈ aX3_check := fun w h => List.mem_cons_of_mem _ (inA2 w h)
  have hin1 : ∀ w ∈ wsX10, w ∈ aX3_check := fun w h => List.mem_cons_of_mem _ (inA1 w h)
  have hin0 : ∀ w ∈ wsX00, w ∈ aX3_check := fun w h => List.mem_cons_of_mem _ (inA0 w h)
  unfold fX3_check at h
  refine lv_aload_n hx hb dX3_check_0 rfl (lv_at hl 0 rfl) ?_
  refine va_get (D := D) (ci := 3) (v := .ref (qa 4 0)) (C := RX3) (T := TX3) (N := 7) hx hb hts hin3 hown hK hP 0 rfl rfl 5 (by decide) (hta _ aw_129) (fun _ h9 => h9) rfl dX3_check_1 ?_
  refine lv_aload_n hx hb dX3_check_4 rfl (lv_at hl 0 rfl) ?_
  refine va_get (D := D) (ci := 3) (v := .ref (qa 1 0)) (C := RX3) (T := TX3) (N := 7) hx hb hts hin3 hown hK hP 0 rfl rfl 0 (by decide) (hta _ aw_124) (fun _ h9 => h9) rfl dX3_check_5 ?_
  obtain ⟨r1, hr1, h⟩ := pq_b h
  refine pw_fv (ws0 := W3 cy qa P T S nw hz ak pa wt cd ln) (ws1 := W3 cy qa P T r1.1 r1.2.1 r1.2.2 ak pa wt cd ln) (wc := WP cy (qa 1) P ++ WH cy qa S nw hz) (w1 := WP cy (qa 1) P ++ WH cy qa r1.1 r1.2.1 r1.2.2) (rest := []) (As := [.ref (qa 1 0)]) hF (kX1_save l D cy qa _ P S nw hz r1 hr1) (cwV 1 hts (pw_gV (own := RX3) (idx := 58) (C := RX1) (y := yX1_save) aw_150 aw_151 aw_152 aw_4 aw_153) rfl rfl rfl pX1_save ⟨Nat.le_of_ble_eq_true rfl, Nat.le_of_ble_eq_true rfl⟩) 1 (RX1, TX1, 3) rfl rfl ⟨15, _, rfl⟩ hK hP hD hS hA (pw_s34 _ _ _ _ _) (pw_s34 _ _ _ _ _) rfl rfl hl.1 rfl (Nat.le_of_ble_eq_true rfl) dX3_check_8 ⟨Nat.zero_le _, Nat.zero_le _⟩ (fun H locs hP hD hS => ?_)
  refine lv_aload_n hx hb dX3_check_11 rfl (lv_at hl 0 rfl) ?_
  refine va_get (D := D) (ci := 3) (v := .ref (qa 1 0)) (C := RX3) (T := TX3) (N := 7) hx hb hts hin3 hown hK hP 0 rfl rfl 0 (by decide) (hta _ aw_124) (fun _ h9 => h9) rfl dX3_check_12 ?_
  obtain ⟨r2, hr2, h⟩ := pq_b h
  refine pw_fi (ws0 := W3 cy qa P T r1.1 r1.2.1 r1.2.2 ak pa wt cd ln) (ws1 := W3 cy qa r2.2 T r1.1 r1.2.1 r1.2.2 ak pa wt cd ln) (wc := WP cy (qa 1) P) (w1 := WP cy (qa 1) r2.2) (rest := []) (As := []) hF (kX2_checkIdle l D cy (qa 1) _ P  r2 hr2) (cwV 0 hts (pw_gV (own := RX3) (idx := 111) (C := RX2) (y := yX2_checkIdle) aw_161 aw_162 aw_163 aw_2 aw_164) rfl rfl rfl pX2_checkIdle ⟨Nat.le_of_ble_eq_true rfl, Nat.le_of_ble_eq_true rfl⟩) 2 (RX2, TX2, 16) rfl rfl ⟨0, _, rfl⟩ hK hP hD hS hA (pw_s3 _ _ _ _ _) (pw_s3 _ _ _ _ _) rfl rfl hl.1 rfl (Nat.le_of_ble_eq_true rfl) dX3_check_15 ⟨Nat.zero_le _, Nat.zero_le _⟩ (fun H locs hP hD hS => ?_)
  refine lv_istore_n (lv' := [(1, .int r2.1), (0, .ref (qa 0 0))]) hx hb dX3_check_18 rfl hl (by decide) rfl (fun ls hl => ?_)
  refine lv_aload_n hx hb dX3_check_19 rfl (lv_at hl 1 rfl) ?_
  refine va_get (D := D) (ci := 3) (v := .ref (qa 1 0)) (C := RX3) (T := TX3) (N := 7) hx hb hts hin3 hown hK hP 0 rfl rfl 0 (by decide) (hta _ aw_124) (fun _ h9 => h9) rfl dX3_check_20 ?_
  refine lv_iconst (v := (-1)) hx hb dX3_check_23 (by decide) ?_
  obtain ⟨r3, hr3, h⟩ := pq_b h
  refine pw_fi (ws0 := W3 cy qa r2.2 T r1.1 r1.2.1 r1.2.2 ak pa wt cd ln) (ws1 := W3 cy qa r3.2 T r1.1 r1.2.1 r1.2.2 ak pa wt cd ln) (wc := WP cy (qa 1) r2.2) (w1 := WP cy (qa 1) r3.2) (rest := []) (As := [.int (-1)]) hF (kX2_serveWaiters l D cy (qa 1) _ r2.2 (-1) r3 hr3) (cwV 1 hts (pw_gV (own := RX3) (idx := 115) (C := RX2) (y := yX2_serveWaiters) aw_173 aw_174 aw_175 aw_2 aw_176) rfl rfl rfl pX2_serveWaiters ⟨Nat.le_of_ble_eq_true rfl, Nat.le_of_ble_eq_true rfl⟩) 2 (RX2, TX2, 16) rfl rfl ⟨0, _, rfl⟩ hK hP hD hS hA (pw_s3 _ _ _ _ _) (pw_s3 _ _ _ _ _) rfl rfl hl.1 rfl (Nat.le_of_ble_eq_true rfl) dX3_check_24 ⟨Nat.zero_le _, Nat.zero_le _⟩ (fun H locs hP hD hS => ?_)
  refine lv_pop hx hb dX3_check_27 rfl ?_
  refine lv_iload_n hx hb dX3_check_28 rfl (lv_at hl 0 rfl) ?_
  obtain rfl := Option.some.inj h
  subst hQ
  exact pw_ri hx hb hr hlk hAe hP hS rfl dX3_check_29

def aX3_drain : List Cond := Cond.code yX3_drain cX3_drain 2 (some .int) :: pw_all
theorem pX3_drain : yX3_drain.cls = RX3 ∧ yX3_drain.cls ≠ "java/lang/invoke/MethodHandle" ∧ yX3_drain.cls ≠ "java/lang/invoke/VarHandle" ∧ (parseMethodDescriptor yX3_drain.desc).map (fun d => d.parameters.length) = some 0 := by decide +kernel
set_option maxHeartbeats 8000000 in
set_option maxRecDepth 100000 in
theorem kX3_drain (l : Launch) (D : va_G) (cy : Nat → ClassId) (qa : Nat → Nat → Nat) (sz : Nat) (P : Nat → Nat → Int32) (T : Nat → Nat → Int32) (S : Nat → Nat → Nat → Int32) (nw : Int32) (hz : Int32) (ak : Nat → Int32) (pa : Nat → Int32) (wt : Nat → Int32) (cd : Nat → Int32) (ln : Int32)  (o : Int32 × (Nat → Nat → Int32) × (Nat → Nat → Nat → Int32) × Int32 × Int32) (h : fX3_drain P S nw hz = some o) : Met l yX3_drain aX3_drain ({ frames := 4, cells := 0, slots := 0, locals := 111 }) (pw_Pre D cy [.ref (qa 0 0)] (W3 cy qa P T S nw hz ak pa wt cd ln) sz) (pw_I D o.1 (W3 cy qa P T S nw hz ak pa wt cd ln) (W3 cy qa o.2.1 T o.2.2.1 o.2.2.2.1 o.2.2.2.2 ak pa wt cd ln) sz) 0 0 (va_A (W3 cy qa P T S nw hz ak pa wt cd ln) sz) := by
  refine pw_met (cc := cX3_drain) (maxL := 2) (ret := (some .int)) (by decide) rfl (Nat.le_of_ble_eq_true rfl) ?_
  intro p e s m args below meth c ls A hx hb hr hml hlk hts hown hAe hA hK hP hD hS hl
  have hl : lv_has ls 2 [(0, .ref (qa 0 0))] := hl
  generalize hQ : MQ below (pw_I D o.1 (W3 cy qa P T S nw hz ak pa wt cd ln) (W3 cy qa o.2.1 T o.2.2.1 o.2.2.2.1 o.2.2.2.2 ak pa wt cd ln) sz) args s 0 0 (va_A (W3 cy qa P T S nw hz ak pa wt cd ln) sz) = Q
  have hF : CallFix p m c cX3_drain 2 s args aX3_drain RX3 := ⟨hx, hb, hml, hown, hts⟩
  have hta : ∀ w ∈ pw_all, w.before args s = true := fun w h => hts w (List.mem_cons_of_mem _ h)
  have hin3 : ∀ w ∈ wsX30, w ∈ aX3_drain := fun w h => List.mem_cons_of_mem _ (inA3 w h)
  have hin2 : ∀ w ∈ wsX20, w ∈ aX3_drain := fun w h => List.mem_cons_of_mem _ (inA2 w h)
  have hin1 : ∀ w ∈ wsX10, w ∈ aX3_drain := fun w h => List.mem_cons_of_mem _ (inA1 w h)
  have hin0 : ∀ w ∈ wsX00, w ∈ aX3_drain := fun w h => List.mem_cons_of_mem _ (inA0 w h)
  unfold fX3_drain at h
  refine lv_aload_n hx hb dX3_drain_0 rfl (lv_at hl 0 rfl) ?_
  refine va_get (D := D) (ci := 3) (v := .ref (qa 4 0)) (C := RX3) (T := TX3) (N := 7) hx hb hts hin3 hown hK hP 0 rfl rfl 5 (by decide) (hta _ aw_129) (fun _ h9 => h9) rfl dX3_drain_1 ?_
  refine lv_aload_n hx hb dX3_drain_4 rfl (lv_at hl 0 rfl) ?_
  refine va_get (D := D) (ci := 3) (v := .ref (qa 1 0)) (C := RX3) (T := TX3) (N := 7) hx hb hts hin3 hown hK hP 0 rfl rfl 0 (by decide) (hta _ aw_124) (fun _ h9 => h9) rfl dX3_drain_5 ?_
  obtain ⟨r1, hr1, h⟩ := pq_b h
  refine pw_fv (ws0 := W3 cy qa P T S nw hz ak pa wt cd ln) (ws1 := W3 cy qa P T r1.1 r1.2.1 r1.2.2 ak pa wt cd ln) (wc := WP cy (qa 1) P ++ WH cy qa S nw hz) (w1 := WP cy (qa 1) P ++ WH cy qa r1.1 r1.2.1 r1.2.2) (rest := []) (As := [.ref (qa 1 0)]) hF (kX1_save l D cy qa _ P S nw hz r1 hr1) (cwV 1 hts (pw_gV (own := RX3) (idx := 58) (C := RX1) (y := yX1_save) aw_150 aw_151 aw_152 aw_4 aw_153) rfl rfl rfl pX1_save ⟨Nat.le_of_ble_eq_true rfl, Nat.le_of_ble_eq_true rfl⟩) 1 (RX1, TX1, 3) rfl rfl ⟨15, _, rfl⟩ hK hP hD hS hA (pw_s34 _ _ _ _ _) (pw_s34 _ _ _ _ _) rfl rfl hl.1 rfl (Nat.le_of_ble_eq_true rfl) dX3_drain_8 ⟨Nat.zero_le _, Nat.zero_le _⟩ (fun H locs hP hD hS => ?_)
  refine lv_aload_n hx hb dX3_drain_11 rfl (lv_at hl 0 rfl) ?_
  refine va_get (D := D) (ci := 3) (v := .ref (qa 1 0)) (C := RX3) (T := TX3) (N := 7) hx hb hts hin3 hown hK hP 0 rfl rfl 0 (by decide) (hta _ aw_124) (fun _ h9 => h9) rfl dX3_drain_12 ?_
  obtain ⟨r2, hr2, h⟩ := pq_b h
  refine pw_fi (ws0 := W3 cy qa P T r1.1 r1.2.1 r1.2.2 ak pa wt cd ln) (ws1 := W3 cy qa r2.2 T r1.1 r1.2.1 r1.2.2 ak pa wt cd ln) (wc := WP cy (qa 1) P) (w1 := WP cy (qa 1) r2.2) (rest := []) (As := []) hF (kX2_closeIdle l D cy (qa 1) _ P  r2 hr2) (cwV 0 hts (pw_gV (own := RX3) (idx := 118) (C := RX2) (y := yX2_closeIdle) aw_229 aw_230 aw_231 aw_2 aw_232) rfl rfl rfl pX2_closeIdle ⟨Nat.le_of_ble_eq_true rfl, Nat.le_of_ble_eq_true rfl⟩) 2 (RX2, TX2, 16) rfl rfl ⟨0, _, rfl⟩ hK hP hD hS hA (pw_s3 _ _ _ _ _) (pw_s3 _ _ _ _ _) rfl rfl hl.1 rfl (Nat.le_of_ble_eq_true rfl) dX3_drain_15 ⟨Nat.zero_le _, Nat.zero_le _⟩ (fun H locs hP hD hS => ?_)
  refine lv_istore_n (lv' := [(1, .int r2.1), (0, .ref (qa 0 0))]) hx hb dX3_drain_18 rfl hl (by decide) rfl (fun ls hl => ?_)
  refine lv_aload_n hx hb dX3_drain_19 rfl (lv_at hl 1 rfl) ?_
  refine va_get (D := D) (ci := 3) (v := .ref (qa 1 0)) (C := RX3) (T := TX3) (N := 7) hx hb hts hin3 hown hK hP 0 rfl rfl 0 (by decide) (hta _ aw_124) (fun _ h9 => h9) rfl dX3_drain_20 ?_
  refine lv_iconst (v := (-1)) hx hb dX3_drain_23 (by decide) ?_
  obtain ⟨r3, hr3, h⟩ := pq_b h
  refine pw_fi (ws0 := W3 cy qa r2.2 T r1.1 r1.2.1 r1.2.2 ak pa wt cd ln) (ws1 := W3 cy qa r3.2 T r1.1 r1.2.1 r1.2.2 ak pa wt cd ln) (wc := WP cy (qa 1) r2.2) (w1 := WP cy (qa 1) r3.2) (rest := []) (As := [.int (-1)]) hF (kX2_serveWaiters l D cy (qa 1) _ r2.2 (-1) r3 hr3) (cwV 1 hts (pw_gV (own := RX3) (idx := 115) (C := RX2) (y := yX2_serveWaiters) aw_173 aw_174 aw_175 aw_2 aw_176) rfl rfl rfl pX2_serveWaiters ⟨Nat.le_of_ble_eq_true rfl, Nat.le_of_ble_eq_true rfl⟩) 2 (RX2, TX2, 16) rfl rfl ⟨0, _, rfl⟩ hK hP hD hS hA (pw_s3 _ _ _ _ _) (pw_s3 _ _ _ _ _) rfl rfl hl.1 rfl (Nat.le_of_ble_eq_true rfl) dX3_drain_24 ⟨Nat.zero_le _, Nat.zero_le _⟩ (fun H locs hP hD hS => ?_)
  refine lv_pop hx hb dX3_drain_27 rfl ?_
  refine lv_iload_n hx hb dX3_drain_28 rfl (lv_at hl 0 rfl) ?_
  obtain rfl := Option.some.inj h
  subst hQ
  exact pw_ri hx hb hr hlk hAe hP hS rfl dX3_drain_29

def aX3_requireSetting : List Cond := Cond.code yX3_requireSetting cX3_requireSetting 1 none :: pw_all
theorem pX3_requireSetting : yX3_requireSetting.cls = RX3 ∧ yX3_requireSetting.cls ≠ "java/lang/invoke/MethodHandle" ∧ yX3_requireSetting.cls ≠ "java/lang/invoke/VarHandle" ∧ (parseMethodDescriptor yX3_requireSetting.desc).map (fun d => d.parameters.length) = some 1 := by decide +kernel
set_option maxHeartbeats 8000000 in
set_option maxRecDepth 100000 in
theorem kX3_requireSetting (l : Launch) (D : va_G) (cy : Nat → ClassId) (sz : Nat)  (x0 : Int32) (o : Unit) (h : fX3_requireSetting x0 = some (Sum.inr o)) : Met l yX3_requireSetting aX3_requireSetting ({ frames := 0, cells := 0, slots := 0, locals := 0 }) (pw_Pre D cy [.int x0] ([]) sz) (pw_V D ([]) ([]) sz) 0 0 (va_A ([]) sz) := by
  refine pw_met (cc := cX3_requireSetting) (maxL := 1) (ret := none) (by decide) rfl (Nat.le_of_ble_eq_true rfl) ?_
  intro p e s m args below meth c ls A hx hb hr hml hlk hts hown hAe hA hK hP hD hS hl
  have hl : lv_has ls 1 [(0, .int x0)] := hl
  generalize hQ : MQ below (pw_V D ([]) ([]) sz) args s 0 0 (va_A ([]) sz) = Q
  have hF : CallFix p m c cX3_requireSetting 1 s args aX3_requireSetting RX3 := ⟨hx, hb, hml, hown, hts⟩
  have hta : ∀ w ∈ pw_all, w.before args s = true := fun w h => hts w (List.mem_cons_of_mem _ h)
  unfold fX3_requireSetting at h
  refine lv_iload_n hx hb dX3_requireSetting_0 rfl (lv_at hl 0 rfl) ?_
  refine lv_if_lt (tgt := 10) hx hb dX3_requireSetting_1 (by decide) (fun c1_ => ?_) (fun c1_ => ?_)
  · have h := pq_t c1_ h
    exact nomatch h
  · have h := pq_e c1_ h
    refine lv_iload_n hx hb dX3_requireSetting_4 rfl (lv_at hl 0 rfl) ?_
    refine lv_bipush (v := 9) hx hb dX3_requireSetting_5 (by decide) ?_
    refine lv_icmp_lt (tgt := 21) hx hb dX3_requireSetting_7 (by decide) (fun c2_ => ?_) (fun c2_ => ?_)
    · have h := pq_t c2_ h
      obtain rfl := Sum.inr.inj (Option.some.inj h)
      subst hQ
      exact pw_rv hx hb hr hlk hAe hP hS dX3_requireSetting_21
    · have h := pq_e c2_ h
      exact nomatch h

def aX3_set : List Cond := Cond.code yX3_set cX3_set 3 (some .int) :: pw_all
theorem pX3_set : yX3_set.cls = RX3 ∧ yX3_set.cls ≠ "java/lang/invoke/MethodHandle" ∧ yX3_set.cls ≠ "java/lang/invoke/VarHandle" ∧ (parseMethodDescriptor yX3_set.desc).map (fun d => d.parameters.length) = some 2 := by decide +kernel
set_option maxHeartbeats 8000000 in
set_option maxRecDepth 100000 in
theorem kX3_set (l : Launch) (D : va_G) (cy : Nat → ClassId) (qa : Nat → Nat → Nat) (sz : Nat) (P : Nat → Nat → Int32) (T : Nat → Nat → Int32) (S : Nat → Nat → Nat → Int32) (nw : Int32) (hz : Int32) (ak : Nat → Int32) (pa : Nat → Int32) (wt : Nat → Int32) (cd : Nat → Int32) (ln : Int32) (x1 : Int32) (x2 : Int32) (o : Int32 × (Nat → Nat → Int32) × (Nat → Nat → Nat → Int32) × Int32 × Int32) (h : fX3_set x1 x2 P S nw hz = some (Sum.inr o)) : Met l yX3_set aX3_set ({ frames := 5, cells := 0, slots := 0, locals := 115 }) (pw_PreE D cy [.ref (qa 0 0), .int x1, .int x2] (W3 cy qa P T S nw hz ak pa wt cd ln) sz) (pw_I D o.1 (W3 cy qa P T S nw hz ak pa wt cd ln) (W3 cy qa o.2.1 T o.2.2.1 o.2.2.2.1 o.2.2.2.2 ak pa wt cd ln) sz) 0 0 (va_A (W3 cy qa P T S nw hz ak pa wt cd ln) sz) := by
  refine pw_metE (cc := cX3_set) (maxL := 3) (ret := (some .int)) (by decide) rfl (Nat.le_of_ble_eq_true rfl) ?_
  intro p e s m args below meth c ls A hx hb hr hml hlk hts hown hAe hA hK hP hD hS hl hE
  have hl : lv_has ls 3 [(0, .ref (qa 0 0)), (1, .int x1), (2, .int x2)] := hl
  generalize hQ : MQ below (pw_I D o.1 (W3 cy qa P T S nw hz ak pa wt cd ln) (W3 cy qa o.2.1 T o.2.2.1 o.2.2.2.1 o.2.2.2.2 ak pa wt cd ln) sz) args s 0 0 (va_A (W3 cy qa P T S nw hz ak pa wt cd ln) sz) = Q
  have hF : CallFix p m c cX3_set 3 s args aX3_set RX3 := ⟨hx, hb, hml, hown, hts⟩
  have hta : ∀ w ∈ pw_all, w.before args s = true := fun w h => hts w (List.mem_cons_of_mem _ h)
  have hin3 : ∀ w ∈ wsX30, w ∈ aX3_set := fun w h => List.mem_cons_of_mem _ (inA3 w h)
  have hin2 : ∀ w ∈ wsX20, w ∈ aX3_set := fun w h => List.mem_cons_of_mem _ (inA2 w h)
  have hin1 : ∀ w ∈ wsX10, w ∈ aX3_set := fun w h => List.mem_cons_of_mem _ (inA1 w h)
  have hin0 : ∀ w ∈ wsX00, w ∈ aX3_set := fun w h => List.mem_cons_of_mem _ (inA0 w h)
  unfold fX3_set at h
  refine lv_iload_n hx hb dX3_set_0 rfl (lv_at hl 1 rfl) ?_
  obtain ⟨r1, hr1, h⟩ := pq_b h
  obtain ⟨a2, rfl, h⟩ := pq_inr h
  refine pw_sv (rest := []) (As := [.int x1]) hF (kX3_requireSetting l D cy _ x1 a2 hr1) (cwS 1 hts (pw_gS (own := RX3) (idx := 121) (y := yX3_requireSetting) aw_540 aw_541 aw_1 aw_542) rfl rfl rfl pX3_requireSetting ⟨Nat.le_of_ble_eq_true rfl, Nat.le_of_ble_eq_true rfl⟩) hK hP hS hA rfl hl.1 rfl (Nat.le_of_ble_eq_true rfl) dX3_set_1 ⟨Nat.zero_le _, Nat.zero_le _⟩ (fun H locs hP hS => ?_)
  refine lv_iload_n hx hb dX3_set_4 rfl (lv_at hl 2 rfl) ?_
  obtain ⟨t6, hZ6, hT6⟩ := hE.2.2.2.2.2.1
  obtain ⟨t7, hZ7, hT7⟩ := hE.2.2.2.2.2.2.1
  obtain ⟨t8, hZ8, hT8⟩ := hE.2.2.2.2.2.2.2
  refine va_gets hx hb hZ7 hS hown (hta _ aw_544) (fun _ h9 => h9) dX3_set_5 ?_
  refine lv_iload_n hx hb dX3_set_8 rfl (lv_at hl 1 rfl) ?_
  obtain ⟨hg, h⟩ := pq_g h
  refine va_ti hx hb hT7 hS (pq_vp hg) rfl dX3_set_9 ?_
  refine lv_icmp_lt (tgt := 22) hx hb dX3_set_10 (by decide) (fun c1_ => ?_) (fun c1_ => ?_)
  · have h := pq_t c1_ h
    exact nomatch h
  · have h := pq_e c1_ h
    refine lv_iload_n hx hb dX3_set_13 rfl (lv_at hl 2 rfl) ?_
    obtain ⟨t6, hZ6, hT6⟩ := hE.2.2.2.2.2.1
    obtain ⟨t7, hZ7, hT7⟩ := hE.2.2.2.2.2.2.1
    obtain ⟨t8, hZ8, hT8⟩ := hE.2.2.2.2.2.2.2
    refine va_gets hx hb hZ8 hS hown (hta _ aw_546) (fun _ h9 => h9) dX3_set_14 ?_
    refine lv_iload_n hx hb dX3_set_17 rfl (lv_at hl 1 rfl) ?_
    obtain ⟨hg, h⟩ := pq_g h
    refine va_ti hx hb hT8 hS (pq_vp hg) rfl dX3_set_18 ?_
    refine lv_icmp_le (tgt := 32) hx hb dX3_set_19 (by decide) (fun c2_ => ?_) (fun c2_ => ?_)
    · have h := pq_t c2_ h
      refine lv_aload_n hx hb dX3_set_32 rfl (lv_at hl 0 rfl) ?_
      refine va_get (D := D) (ci := 3) (v := .ref (qa 4 0)) (C := RX3) (T := TX3) (N := 7) hx hb hts hin3 hown hK hP 0 rfl rfl 5 (by decide) (hta _ aw_129) (fun _ h9 => h9) rfl dX3_set_33 ?_
      refine lv_aload_n hx hb dX3_set_36 rfl (lv_at hl 0 rfl) ?_
      refine va_get (D := D) (ci := 3) (v := .ref (qa 1 0)) (C := RX3) (T := TX3) (N := 7) hx hb hts hin3 hown hK hP 0 rfl rfl 0 (by decide) (hta _ aw_124) (fun _ h9 => h9) rfl dX3_set_37 ?_
      obtain ⟨r3, hr3, h⟩ := pq_b h
      refine pw_fv (ws0 := W3 cy qa P T S nw hz ak pa wt cd ln) (ws1 := W3 cy qa P T r3.1 r3.2.1 r3.2.2 ak pa wt cd ln) (wc := WP cy (qa 1) P ++ WH cy qa S nw hz) (w1 := WP cy (qa 1) P ++ WH cy qa r3.1 r3.2.1 r3.2.2) (rest := []) (As := [.ref (qa 1 0)]) hF (kX1_save l D cy qa _ P S nw hz r3 hr3) (cwV 1 hts (pw_gV (own := RX3) (idx := 58) (C := RX1) (y := yX1_save) aw_150 aw_151 aw_152 aw_4 aw_153) rfl rfl rfl pX1_save ⟨Nat.le_of_ble_eq_true rfl, Nat.le_of_ble_eq_true rfl⟩) 1 (RX1, TX1, 3) rfl rfl ⟨15, _, rfl⟩ hK hP hD hS hA (pw_s34 _ _ _ _ _) (pw_s34 _ _ _ _ _) rfl rfl hl.1 rfl (Nat.le_of_ble_eq_true rfl) dX3_set_40 ⟨Nat.zero_le _, Nat.zero_le _⟩ (fun H locs hP hD hS => ?_)
      refine lv_aload_n hx hb dX3_set_43 rfl (lv_at hl 0 rfl) ?_
      refine va_get (D := D) (ci := 3) (v := .ref (qa 1 0)) (C := RX3) (T := TX3) (N := 7) hx hb hts hin3 hown hK hP 0 rfl rfl 0 (by decide) (hta _ aw_124) (fun _ h9 => h9) rfl dX3_set_44 ?_
      refine lv_iload_n hx hb dX3_set_47 rfl (lv_at hl 1 rfl) ?_
      refine lv_iload_n hx hb dX3_set_48 rfl (lv_at hl 2 rfl) ?_
      obtain ⟨r4, hr4, h⟩ := pq_b h
      refine pw_fi (ws0 := W3 cy qa P T r3.1 r3.2.1 r3.2.2 ak pa wt cd ln) (ws1 := W3 cy qa r4.2 T r3.1 r3.2.1 r3.2.2 ak pa wt cd ln) (wc := WP cy (qa 1) P) (w1 := WP cy (qa 1) r4.2) (rest := []) (As := [.int x1, .int x2]) hF (kX2_change l D cy (qa 1) _ P x1 x2 r4 hr4) (cwV 2 hts (pw_gV (own := RX3) (idx := 135) (C := RX2) (y := yX2_change) aw_549 aw_550 aw_551 aw_2 aw_552) rfl rfl rfl pX2_change ⟨Nat.le_of_ble_eq_true rfl, Nat.le_of_ble_eq_true rfl⟩) 2 (RX2, TX2, 16) rfl rfl ⟨0, _, rfl⟩ hK hP hD hS hA (pw_s3 _ _ _ _ _) (pw_s3 _ _ _ _ _) rfl rfl hl.1 rfl (Nat.le_of_ble_eq_true rfl) dX3_set_49 ⟨Nat.zero_le _, Nat.zero_le _⟩ (fun H locs hP hD hS => ?_)
      obtain rfl := Sum.inr.inj (Option.some.inj h)
      subst hQ
      exact pw_ri hx hb hr hlk hAe hP hS rfl dX3_set_52
    · have h := pq_e c2_ h
      exact nomatch h

def aX3_pass : List Cond := Cond.code yX3_pass cX3_pass 2 (some .int) :: pw_all
theorem pX3_pass : yX3_pass.cls = RX3 ∧ yX3_pass.cls ≠ "java/lang/invoke/MethodHandle" ∧ yX3_pass.cls ≠ "java/lang/invoke/VarHandle" ∧ (parseMethodDescriptor yX3_pass.desc).map (fun d => d.parameters.length) = some 1 := by decide +kernel
set_option maxHeartbeats 8000000 in
set_option maxRecDepth 100000 in
theorem kX3_pass (l : Launch) (D : va_G) (cy : Nat → ClassId) (qa : Nat → Nat → Nat) (sz : Nat) (P : Nat → Nat → Int32) (T : Nat → Nat → Int32) (S : Nat → Nat → Nat → Int32) (nw : Int32) (hz : Int32) (ak : Nat → Int32) (pa : Nat → Int32) (wt : Nat → Int32) (cd : Nat → Int32) (ln : Int32) (x1 : Int32) (o : Int32 × (Nat → Nat → Int32) × (Nat → Nat → Nat → Int32) × Int32 × Int32) (h : fX3_pass x1 P S nw hz = some (Sum.inr o)) : Met l yX3_pass aX3_pass ({ frames := 5, cells := 0, slots := 0, locals := 116 }) (pw_Pre D cy [.ref (qa 0 0), .int x1] (W3 cy qa P T S nw hz ak pa wt cd ln) sz) (pw_I D o.1 (W3 cy qa P T S nw hz ak pa wt cd ln) (W3 cy qa o.2.1 T o.2.2.1 o.2.2.2.1 o.2.2.2.2 ak pa wt cd ln) sz) 0 0 (va_A (W3 cy qa P T S nw hz ak pa wt cd ln) sz) := by
  refine pw_met (cc := cX3_pass) (maxL := 2) (ret := (some .int)) (by decide) rfl (Nat.le_of_ble_eq_true rfl) ?_
  intro p e s m args below meth c ls A hx hb hr hml hlk hts hown hAe hA hK hP hD hS hl
  have hl : lv_has ls 2 [(0, .ref (qa 0 0)), (1, .int x1)] := hl
  generalize hQ : MQ below (pw_I D o.1 (W3 cy qa P T S nw hz ak pa wt cd ln) (W3 cy qa o.2.1 T o.2.2.1 o.2.2.2.1 o.2.2.2.2 ak pa wt cd ln) sz) args s 0 0 (va_A (W3 cy qa P T S nw hz ak pa wt cd ln) sz) = Q
  have hF : CallFix p m c cX3_pass 2 s args aX3_pass RX3 := ⟨hx, hb, hml, hown, hts⟩
  have hta : ∀ w ∈ pw_all, w.before args s = true := fun w h => hts w (List.mem_cons_of_mem _ h)
  have hin3 : ∀ w ∈ wsX30, w ∈ aX3_pass := fun w h => List.mem_cons_of_mem _ (inA3 w h)
  have hin2 : ∀ w ∈ wsX20, w ∈ aX3_pass := fun w h => List.mem_cons_of_mem _ (inA2 w h)
  have hin1 : ∀ w ∈ wsX10, w ∈ aX3_pass := fun w h => List.mem_cons_of_mem _ (inA1 w h)
  have hin0 : ∀ w ∈ wsX00, w ∈ aX3_pass := fun w h => List.mem_cons_of_mem _ (inA0 w h)
  unfold fX3_pass at h
  refine lv_iload_n hx hb dX3_pass_0 rfl (lv_at hl 1 rfl) ?_
  refine lv_iconst (v := 1) hx hb dX3_pass_1 (by decide) ?_
  refine lv_icmp_lt (tgt := 11) hx hb dX3_pass_2 (by decide) (fun c1_ => ?_) (fun c1_ => ?_)
  · have h := pq_t c1_ h
    exact nomatch h
  · have h := pq_e c1_ h
    refine lv_iload_n hx hb dX3_pass_5 rfl (lv_at hl 1 rfl) ?_
    refine lv_bipush (v := 99) hx hb dX3_pass_6 (by decide) ?_
    refine lv_icmp_le (tgt := 21) hx hb dX3_pass_8 (by decide) (fun c2_ => ?_) (fun c2_ => ?_)
    · have h := pq_t c2_ h
      refine lv_aload_n hx hb dX3_pass_21 rfl (lv_at hl 0 rfl) ?_
      refine va_get (D := D) (ci := 3) (v := .ref (qa 1 0)) (C := RX3) (T := TX3) (N := 7) hx hb hts hin3 hown hK hP 0 rfl rfl 0 (by decide) (hta _ aw_124) (fun _ h9 => h9) rfl dX3_pass_22 ?_
      refine lv_iload_n hx hb dX3_pass_25 rfl (lv_at hl 1 rfl) ?_
      obtain ⟨r1, hr1, h⟩ := pq_b h
      refine pw_fi (ws0 := W3 cy qa P T S nw hz ak pa wt cd ln) (ws1 := W3 cy qa P T S nw hz ak pa wt cd ln) (wc := WP cy (qa 1) P) (w1 := WP cy (qa 1) P) (rest := []) (As := [.int x1]) hF (kX2_canPassUnits l D cy (qa 1) _ P x1 r1 hr1) (cwV 1 hts (pw_gV (own := RX3) (idx := 141) (C := RX2) (y := yX2_canPassUnits) aw_561 aw_562 aw_563 aw_2 aw_564) rfl rfl rfl pX2_canPassUnits ⟨Nat.le_of_ble_eq_true rfl, Nat.le_of_ble_eq_true rfl⟩) 2 (RX2, TX2, 16) rfl rfl ⟨0, _, rfl⟩ hK hP hD hS hA (pw_s3 _ _ _ _ _) (pw_s3 _ _ _ _ _) rfl rfl hl.1 rfl (Nat.le_of_ble_eq_true rfl) dX3_pass_26 ⟨Nat.zero_le _, Nat.zero_le _⟩ (fun H locs hP hD hS => ?_)
      refine lv_if_ne (tgt := 42) hx hb dX3_pass_29 (by decide) (fun c3_ => ?_) (fun c3_ => ?_)
      · have h := pq_e c3_ h
        refine lv_aload_n hx hb dX3_pass_42 rfl (lv_at hl 0 rfl) ?_
        refine va_get (D := D) (ci := 3) (v := .ref (qa 4 0)) (C := RX3) (T := TX3) (N := 7) hx hb hts hin3 hown hK hP 0 rfl rfl 5 (by decide) (hta _ aw_129) (fun _ h9 => h9) rfl dX3_pass_43 ?_
        refine lv_aload_n hx hb dX3_pass_46 rfl (lv_at hl 0 rfl) ?_
        refine va_get (D := D) (ci := 3) (v := .ref (qa 1 0)) (C := RX3) (T := TX3) (N := 7) hx hb hts hin3 hown hK hP 0 rfl rfl 0 (by decide) (hta _ aw_124) (fun _ h9 => h9) rfl dX3_pass_47 ?_
        obtain ⟨r2, hr2, h⟩ := pq_b h
        refine pw_fv (ws0 := W3 cy qa P T S nw hz ak pa wt cd ln) (ws1 := W3 cy qa P T r2.1 r2.2.1 r2.2.2 ak pa wt cd ln) (wc := WP cy (qa 1) P ++ WH cy qa S nw hz) (w1 := WP cy (qa 1) P ++ WH cy qa r2.1 r2.2.1 r2.2.2) (rest := []) (As := [.ref (qa 1 0)]) hF (kX1_save l D cy qa _ P S nw hz r2 hr2) (cwV 1 hts (pw_gV (own := RX3) (idx := 58) (C := RX1) (y := yX1_save) aw_150 aw_151 aw_152 aw_4 aw_153) rfl rfl rfl pX1_save ⟨Nat.le_of_ble_eq_true rfl, Nat.le_of_ble_eq_true rfl⟩) 1 (RX1, TX1, 3) rfl rfl ⟨15, _, rfl⟩ hK hP hD hS hA (pw_s34 _ _ _ _ _) (pw_s34 _ _ _ _ _) rfl rfl hl.1 rfl (Nat.le_of_ble_eq_true rfl) dX3_pass_50 ⟨Nat.zero_le _, Nat.zero_le _⟩ (fun H locs hP hD hS => ?_)
        refine lv_aload_n hx hb dX3_pass_53 rfl (lv_at hl 0 rfl) ?_
        refine va_get (D := D) (ci := 3) (v := .ref (qa 1 0)) (C := RX3) (T := TX3) (N := 7) hx hb hts hin3 hown hK hP 0 rfl rfl 0 (by decide) (hta _ aw_124) (fun _ h9 => h9) rfl dX3_pass_54 ?_
        refine lv_iload_n hx hb dX3_pass_57 rfl (lv_at hl 1 rfl) ?_
        obtain ⟨r3, hr3, h⟩ := pq_b h
        refine pw_fi (ws0 := W3 cy qa P T r2.1 r2.2.1 r2.2.2 ak pa wt cd ln) (ws1 := W3 cy qa r3.2 T r2.1 r2.2.1 r2.2.2 ak pa wt cd ln) (wc := WP cy (qa 1) P) (w1 := WP cy (qa 1) r3.2) (rest := []) (As := [.int x1]) hF (kX2_passUnits l D cy (qa 1) _ P x1 r3 hr3) (cwV 1 hts (pw_gV (own := RX3) (idx := 146) (C := RX2) (y := yX2_passUnits) aw_368 aw_369 aw_370 aw_2 aw_371) rfl rfl rfl pX2_passUnits ⟨Nat.le_of_ble_eq_true rfl, Nat.le_of_ble_eq_true rfl⟩) 2 (RX2, TX2, 16) rfl rfl ⟨0, _, rfl⟩ hK hP hD hS hA (pw_s3 _ _ _ _ _) (pw_s3 _ _ _ _ _) rfl rfl hl.1 rfl (Nat.le_of_ble_eq_true rfl) dX3_pass_58 ⟨Nat.zero_le _, Nat.zero_le _⟩ (fun H locs hP hD hS => ?_)
        obtain rfl := Sum.inr.inj (Option.some.inj h)
        subst hQ
        exact pw_ri hx hb hr hlk hAe hP hS rfl dX3_pass_61
      · have h := pq_t c3_ h
        exact nomatch h
    · have h := pq_e c2_ h
      exact nomatch h

def aX3_append : List Cond := Cond.code yX3_append cX3_append 2 (some .int) :: pw_all
theorem pX3_append : yX3_append.cls = RX3 ∧ yX3_append.cls ≠ "java/lang/invoke/MethodHandle" ∧ yX3_append.cls ≠ "java/lang/invoke/VarHandle" ∧ (parseMethodDescriptor yX3_append.desc).map (fun d => d.parameters.length) = some 1 := by decide +kernel
set_option maxHeartbeats 8000000 in
set_option maxRecDepth 100000 in
theorem kX3_append (l : Launch) (D : va_G) (cy : Nat → ClassId) (qa : Nat → Nat → Nat) (sz : Nat) (P : Nat → Nat → Int32) (T : Nat → Nat → Int32) (S : Nat → Nat → Nat → Int32) (nw : Int32) (hz : Int32) (ak : Nat → Int32) (pa : Nat → Int32) (wt : Nat → Int32) (cd : Nat → Int32) (ln : Int32) (x1 : Int32) (o : Int32 × (Nat → Int32) × Int32) (h : fX3_append x1 cd ln = some (Sum.inr o)) : Met l yX3_append aX3_append ({ frames := 2, cells := 0, slots := 0, locals := 41 }) (pw_Pre D cy [.ref (qa 0 0), .int x1] (W3 cy qa P T S nw hz ak pa wt cd ln) sz) (pw_I D o.1 (W3 cy qa P T S nw hz ak pa wt cd ln) (W3 cy qa P T S nw hz ak pa wt o.2.1 o.2.2) sz) 0 0 (va_A (W3 cy qa P T S nw hz ak pa wt cd ln) sz) := by
  refine pw_met (cc := cX3_append) (maxL := 2) (ret := (some .int)) (by decide) rfl (Nat.le_of_ble_eq_true rfl) ?_
  intro p e s m args below meth c ls A hx hb hr hml hlk hts hown hAe hA hK hP hD hS hl
  have hl : lv_has ls 2 [(0, .ref (qa 0 0)), (1, .int x1)] := hl
  generalize hQ : MQ below (pw_I D o.1 (W3 cy qa P T S nw hz ak pa wt cd ln) (W3 cy qa P T S nw hz ak pa wt o.2.1 o.2.2) sz) args s 0 0 (va_A (W3 cy qa P T S nw hz ak pa wt cd ln) sz) = Q
  have hF : CallFix p m c cX3_append 2 s args aX3_append RX3 := ⟨hx, hb, hml, hown, hts⟩
  have hta : ∀ w ∈ pw_all, w.before args s = true := fun w h => hts w (List.mem_cons_of_mem _ h)
  have hin3 : ∀ w ∈ wsX30, w ∈ aX3_append := fun w h => List.mem_cons_of_mem _ (inA3 w h)
  have hin2 : ∀ w ∈ wsX20, w ∈ aX3_append := fun w h => List.mem_cons_of_mem _ (inA2 w h)
  have hin1 : ∀ w ∈ wsX10, w ∈ aX3_append := fun w h => List.mem_cons_of_mem _ (inA1 w h)
  have hin0 : ∀ w ∈ wsX00, w ∈ aX3_append := fun w h => List.mem_cons_of_mem _ (inA0 w h)
  unfold fX3_append at h
  refine lv_iload_n hx hb dX3_append_0 rfl (lv_at hl 1 rfl) ?_
  refine lv_bipush (v := 33) hx hb dX3_append_1 (by decide) ?_
  refine lv_icmp_lt (tgt := 12) hx hb dX3_append_3 (by decide) (fun c1_ => ?_) (fun c1_ => ?_)
  · have h := pq_t c1_ h
    exact nomatch h
  · have h := pq_e c1_ h
    refine lv_iload_n hx hb dX3_append_6 rfl (lv_at hl 1 rfl) ?_
    refine lv_bipush (v := 126) hx hb dX3_append_7 (by decide) ?_
    refine lv_icmp_le (tgt := 22) hx hb dX3_append_9 (by decide) (fun c2_ => ?_) (fun c2_ => ?_)
    · have h := pq_t c2_ h
      refine lv_aload_n hx hb dX3_append_22 rfl (lv_at hl 0 rfl) ?_
      refine va_get (D := D) (ci := 3) (v := .ref (qa 3 0)) (C := RX3) (T := TX3) (N := 7) hx hb hts hin3 hown hK hP 0 rfl rfl 6 (by decide) (hta _ aw_130) (fun _ h9 => h9) rfl dX3_append_23 ?_
      obtain ⟨r1, hr1, h⟩ := pq_b h
      refine pw_fi (ws0 := W3 cy qa P T S nw hz ak pa wt cd ln) (ws1 := W3 cy qa P T S nw hz ak pa wt cd ln) (wc := WT cy (qa 3) cd ln) (w1 := WT cy (qa 3) cd ln) (rest := []) (As := []) hF (kX0_isFull l D cy (qa 3) _ cd ln  r1 hr1) (cwV 0 hts (pw_gV (own := RX3) (idx := 151) (C := RX0) (y := yX0_isFull) aw_574 aw_575 aw_576 aw_5 aw_577) rfl rfl rfl pX0_isFull ⟨Nat.le_of_ble_eq_true rfl, Nat.le_of_ble_eq_true rfl⟩) 0 (RX0, TX0, 2) rfl rfl ⟨0, _, rfl⟩ hK hP hD hS hA (pw_s1 _ _ _) (pw_s1 _ _ _) rfl rfl hl.1 rfl (Nat.le_of_ble_eq_true rfl) dX3_append_26 ⟨Nat.zero_le _, Nat.zero_le _⟩ (fun H locs hP hD hS => ?_)
      refine lv_if_eq (tgt := 42) hx hb dX3_append_29 (by decide) (fun c3_ => ?_) (fun c3_ => ?_)
      · have h := pq_t c3_ h
        refine lv_aload_n hx hb dX3_append_42 rfl (lv_at hl 0 rfl) ?_
        refine va_get (D := D) (ci := 3) (v := .ref (qa 3 0)) (C := RX3) (T := TX3) (N := 7) hx hb hts hin3 hown hK hP 0 rfl rfl 6 (by decide) (hta _ aw_130) (fun _ h9 => h9) rfl dX3_append_43 ?_
        refine lv_iload_n hx hb dX3_append_46 rfl (lv_at hl 1 rfl) ?_
        obtain ⟨r2, hr2, h⟩ := pq_b h
        refine pw_fv (ws0 := W3 cy qa P T S nw hz ak pa wt cd ln) (ws1 := W3 cy qa P T S nw hz ak pa wt r2.1 r2.2) (wc := WT cy (qa 3) cd ln) (w1 := WT cy (qa 3) r2.1 r2.2) (rest := []) (As := [.int x1]) hF (kX0_put l D cy (qa 3) _ cd ln x1 r2 hr2) (cwV 1 hts (pw_gV (own := RX3) (idx := 157) (C := RX0) (y := yX0_put) aw_579 aw_580 aw_581 aw_5 aw_582) rfl rfl rfl pX0_put ⟨Nat.le_of_ble_eq_true rfl, Nat.le_of_ble_eq_true rfl⟩) 0 (RX0, TX0, 2) rfl rfl ⟨0, _, rfl⟩ hK hP hD hS hA (pw_s1 _ _ _) (pw_s1 _ _ _) rfl rfl hl.1 rfl (Nat.le_of_ble_eq_true rfl) dX3_append_47 ⟨Nat.zero_le _, Nat.zero_le _⟩ (fun H locs hP hD hS => ?_)
        refine lv_aload_n hx hb dX3_append_50 rfl (lv_at hl 0 rfl) ?_
        refine va_get (D := D) (ci := 3) (v := .ref (qa 3 0)) (C := RX3) (T := TX3) (N := 7) hx hb hts hin3 hown hK hP 0 rfl rfl 6 (by decide) (hta _ aw_130) (fun _ h9 => h9) rfl dX3_append_51 ?_
        refine va_get (D := D) (ci := 0) (v := .int r2.2) (C := RX0) (T := TX0) (N := 2) hx hb hts hin0 hown hK hP 4 rfl rfl 1 (by decide) (hta _ aw_118) (fun _ h9 => h9) rfl dX3_append_54 ?_
        obtain rfl := Sum.inr.inj (Option.some.inj h)
        subst hQ
        exact pw_ri hx hb hr hlk hAe hP hS rfl dX3_append_57
      · have h := pq_e c3_ h
        exact nomatch h
    · have h := pq_e c2_ h
      exact nomatch h

def aX3_clearBuffer : List Cond := Cond.code yX3_clearBuffer cX3_clearBuffer 2 (some .int) :: pw_all
theorem pX3_clearBuffer : yX3_clearBuffer.cls = RX3 ∧ yX3_clearBuffer.cls ≠ "java/lang/invoke/MethodHandle" ∧ yX3_clearBuffer.cls ≠ "java/lang/invoke/VarHandle" ∧ (parseMethodDescriptor yX3_clearBuffer.desc).map (fun d => d.parameters.length) = some 0 := by decide +kernel
set_option maxHeartbeats 8000000 in
set_option maxRecDepth 100000 in
theorem kX3_clearBuffer (l : Launch) (D : va_G) (cy : Nat → ClassId) (qa : Nat → Nat → Nat) (sz : Nat) (P : Nat → Nat → Int32) (T : Nat → Nat → Int32) (S : Nat → Nat → Nat → Int32) (nw : Int32) (hz : Int32) (ak : Nat → Int32) (pa : Nat → Int32) (wt : Nat → Int32) (cd : Nat → Int32) (ln : Int32)  (o : Int32 × Int32) (h : fX3_clearBuffer ln = some o) : Met l yX3_clearBuffer aX3_clearBuffer ({ frames := 0, cells := 0, slots := 0, locals := 0 }) (pw_Pre D cy [.ref (qa 0 0)] (W3 cy qa P T S nw hz ak pa wt cd ln) sz) (pw_I D o.1 (W3 cy qa P T S nw hz ak pa wt cd ln) (W3 cy qa P T S nw hz ak pa wt cd o.2) sz) 0 0 (va_A (W3 cy qa P T S nw hz ak pa wt cd ln) sz) := by
  refine pw_met (cc := cX3_clearBuffer) (maxL := 2) (ret := (some .int)) (by decide) rfl (Nat.le_of_ble_eq_true rfl) ?_
  intro p e s m args below meth c ls A hx hb hr hml hlk hts hown hAe hA hK hP hD hS hl
  have hl : lv_has ls 2 [(0, .ref (qa 0 0))] := hl
  generalize hQ : MQ below (pw_I D o.1 (W3 cy qa P T S nw hz ak pa wt cd ln) (W3 cy qa P T S nw hz ak pa wt cd o.2) sz) args s 0 0 (va_A (W3 cy qa P T S nw hz ak pa wt cd ln) sz) = Q
  have hF : CallFix p m c cX3_clearBuffer 2 s args aX3_clearBuffer RX3 := ⟨hx, hb, hml, hown, hts⟩
  have hta : ∀ w ∈ pw_all, w.before args s = true := fun w h => hts w (List.mem_cons_of_mem _ h)
  have hin3 : ∀ w ∈ wsX30, w ∈ aX3_clearBuffer := fun w h => List.mem_cons_of_mem _ (inA3 w h)
  have hin2 : ∀ w ∈ wsX20, w ∈ aX3_clearBuffer := fun w h => List.mem_cons_of_mem _ (inA2 w h)
  have hin1 : ∀ w ∈ wsX10, w ∈ aX3_clearBuffer := fun w h => List.mem_cons_of_mem _ (inA1 w h)
  have hin0 : ∀ w ∈ wsX00, w ∈ aX3_clearBuffer := fun w h => List.mem_cons_of_mem _ (inA0 w h)
  unfold fX3_clearBuffer at h
  refine lv_aload_n hx hb dX3_clearBuffer_0 rfl (lv_at hl 0 rfl) ?_
  refine va_get (D := D) (ci := 3) (v := .ref (qa 3 0)) (C := RX3) (T := TX3) (N := 7) hx hb hts hin3 hown hK hP 0 rfl rfl 6 (by decide) (hta _ aw_130) (fun _ h9 => h9) rfl dX3_clearBuffer_1 ?_
  refine va_get (D := D) (ci := 0) (v := .int ln) (C := RX0) (T := TX0) (N := 2) hx hb hts hin0 hown hK hP 4 rfl rfl 1 (by decide) (hta _ aw_118) (fun _ h9 => h9) rfl dX3_clearBuffer_4 ?_
  refine lv_istore_n (lv' := [(1, .int ln), (0, .ref (qa 0 0))]) hx hb dX3_clearBuffer_7 rfl hl (by decide) rfl (fun ls hl => ?_)
  refine lv_aload_n hx hb dX3_clearBuffer_8 rfl (lv_at hl 1 rfl) ?_
  refine va_get (D := D) (ci := 3) (v := .ref (qa 3 0)) (C := RX3) (T := TX3) (N := 7) hx hb hts hin3 hown hK hP 0 rfl rfl 6 (by decide) (hta _ aw_130) (fun _ h9 => h9) rfl dX3_clearBuffer_9 ?_
  refine lv_iconst (v := 0) hx hb dX3_clearBuffer_12 (by decide) ?_
  refine va_put (D := D) (ci := 0) (v := .int 0) (ty := .int) (C := RX0) (T := TX0) (N := 2) hx hb hts hin0 tyX0 tyX0_ok nmX0 hown hK hP hD hS 4 rfl rfl 1 (by decide) (hta _ aw_118) (fun _ h9 => h9) rfl (by decide +kernel) rfl rfl (Nat.le_of_ble_eq_true rfl) dX3_clearBuffer_13 (fun H locs hP hD hS => ?_)
  have hP : va_P D vwCl (W3 cy qa P T S nw hz ak pa wt cd 0) H := hP
  have hD : va_D A (W3 cy qa P T S nw hz ak pa wt cd 0) := hD
  refine lv_iload_n hx hb dX3_clearBuffer_16 rfl (lv_at hl 0 rfl) ?_
  obtain rfl := Option.some.inj h
  subst hQ
  exact pw_ri hx hb hr hlk hAe hP hS rfl dX3_clearBuffer_17

def aX3_firstError : List Cond := Cond.code yX3_firstError cX3_firstError 1 (some .int) :: pw_all
theorem pX3_firstError : yX3_firstError.cls = RX3 ∧ yX3_firstError.cls ≠ "java/lang/invoke/MethodHandle" ∧ yX3_firstError.cls ≠ "java/lang/invoke/VarHandle" ∧ (parseMethodDescriptor yX3_firstError.desc).map (fun d => d.parameters.length) = some 0 := by decide +kernel
set_option maxHeartbeats 8000000 in
set_option maxRecDepth 100000 in
theorem kX3_firstError (l : Launch) (D : va_G) (cy : Nat → ClassId) (qa : Nat → Nat → Nat) (sz : Nat) (P : Nat → Nat → Int32) (T : Nat → Nat → Int32) (S : Nat → Nat → Nat → Int32) (nw : Int32) (hz : Int32) (ak : Nat → Int32) (pa : Nat → Int32) (wt : Nat → Int32) (cd : Nat → Int32) (ln : Int32)  (o : Int32) (h : fX3_firstError cd ln = some o) : Met l yX3_firstError aX3_firstError ({ frames := 2, cells := 0, slots := 0, locals := 43 }) (pw_Pre D cy [.ref (qa 0 0)] (W3 cy qa P T S nw hz ak pa wt cd ln) sz) (pw_I D o (W3 cy qa P T S nw hz ak pa wt cd ln) (W3 cy qa P T S nw hz ak pa wt cd ln) sz) 0 0 (va_A (W3 cy qa P T S nw hz ak pa wt cd ln) sz) := by
  refine pw_met (cc := cX3_firstError) (maxL := 1) (ret := (some .int)) (by decide) rfl (Nat.le_of_ble_eq_true rfl) ?_
  intro p e s m args below meth c ls A hx hb hr hml hlk hts hown hAe hA hK hP hD hS hl
  have hl : lv_has ls 1 [(0, .ref (qa 0 0))] := hl
  generalize hQ : MQ below (pw_I D o (W3 cy qa P T S nw hz ak pa wt cd ln) (W3 cy qa P T S nw hz ak pa wt cd ln) sz) args s 0 0 (va_A (W3 cy qa P T S nw hz ak pa wt cd ln) sz) = Q
  have hF : CallFix p m c cX3_firstError 1 s args aX3_firstError RX3 := ⟨hx, hb, hml, hown, hts⟩
  have hta : ∀ w ∈ pw_all, w.before args s = true := fun w h => hts w (List.mem_cons_of_mem _ h)
  have hin3 : ∀ w ∈ wsX30, w ∈ aX3_firstError := fun w h => List.mem_cons_of_mem _ (inA3 w h)
  have hin2 : ∀ w ∈ wsX20, w ∈ aX3_firstError := fun w h => List.mem_cons_of_mem _ (inA2 w h)
  have hin1 : ∀ w ∈ wsX10, w ∈ aX3_firstError := fun w h => List.mem_cons_of_mem _ (inA1 w h)
  have hin0 : ∀ w ∈ wsX00, w ∈ aX3_firstError := fun w h => List.mem_cons_of_mem _ (inA0 w h)
  unfold fX3_firstError at h
  refine lv_aload_n hx hb dX3_firstError_0 rfl (lv_at hl 0 rfl) ?_
  refine va_get (D := D) (ci := 3) (v := .ref (qa 3 0)) (C := RX3) (T := TX3) (N := 7) hx hb hts hin3 hown hK hP 0 rfl rfl 6 (by decide) (hta _ aw_130) (fun _ h9 => h9) rfl dX3_firstError_1 ?_
  obtain ⟨r1, hr1, h⟩ := pq_b h
  refine pw_fi (ws0 := W3 cy qa P T S nw hz ak pa wt cd ln) (ws1 := W3 cy qa P T S nw hz ak pa wt cd ln) (wc := WT cy (qa 3) cd ln) (w1 := WT cy (qa 3) cd ln) (rest := []) (As := []) hF (kX0_firstMisfit l D cy (qa 3) _ cd ln  r1 hr1) (cwV 0 hts (pw_gV (own := RX3) (idx := 164) (C := RX0) (y := yX0_firstMisfit) aw_241 aw_242 aw_243 aw_5 aw_244) rfl rfl rfl pX0_firstMisfit ⟨Nat.le_of_ble_eq_true rfl, Nat.le_of_ble_eq_true rfl⟩) 0 (RX0, TX0, 2) rfl rfl ⟨0, _, rfl⟩ hK hP hD hS hA (pw_s1 _ _ _) (pw_s1 _ _ _) rfl rfl hl.1 rfl (Nat.le_of_ble_eq_true rfl) dX3_firstError_4 ⟨Nat.zero_le _, Nat.zero_le _⟩ (fun H locs hP hD hS => ?_)
  obtain rfl := Option.some.inj h
  subst hQ
  exact pw_ri hx hb hr hlk hAe hP hS rfl dX3_firstError_7

def aX3_makeCall : List Cond := Cond.code yX3_makeCall cX3_makeCall 3 (some .boolean) :: pw_all
theorem pX3_makeCall : yX3_makeCall.cls = RX3 ∧ yX3_makeCall.cls ≠ "java/lang/invoke/MethodHandle" ∧ yX3_makeCall.cls ≠ "java/lang/invoke/VarHandle" ∧ (parseMethodDescriptor yX3_makeCall.desc).map (fun d => d.parameters.length) = some 2 := by decide +kernel
set_option maxHeartbeats 8000000 in
set_option maxRecDepth 100000 in
theorem kX3_makeCall (l : Launch) (D : va_G) (cy : Nat → ClassId) (qa : Nat → Nat → Nat) (sz : Nat) (P : Nat → Nat → Int32) (T : Nat → Nat → Int32) (S : Nat → Nat → Nat → Int32) (nw : Int32) (hz : Int32) (ak : Nat → Int32) (pa : Nat → Int32) (wt : Nat → Int32) (cd : Nat → Int32) (ln : Int32) (x1 : Int32) (x2 : Int32) (o : Int32 × (Nat → Nat → Int32)) (h : fX3_makeCall x1 x2 P = some o) : Met l yX3_makeCall aX3_makeCall ({ frames := 5, cells := 0, slots := 0, locals := 116 }) (pw_Pre D cy [.ref (qa 0 0), .int x1, .int x2] (W3 cy qa P T S nw hz ak pa wt cd ln) sz) (pw_I D o.1 (W3 cy qa P T S nw hz ak pa wt cd ln) (W3 cy qa o.2 T S nw hz ak pa wt cd ln) sz) 0 0 (va_A (W3 cy qa P T S nw hz ak pa wt cd ln) sz) := by
  refine pw_met (cc := cX3_makeCall) (maxL := 3) (ret := (some .boolean)) (by decide) rfl (Nat.le_of_ble_eq_true rfl) ?_
  intro p e s m args below meth c ls A hx hb hr hml hlk hts hown hAe hA hK hP hD hS hl
  have hl : lv_has ls 3 [(0, .ref (qa 0 0)), (1, .int x1), (2, .int x2)] := hl
  generalize hQ : MQ below (pw_I D o.1 (W3 cy qa P T S nw hz ak pa wt cd ln) (W3 cy qa o.2 T S nw hz ak pa wt cd ln) sz) args s 0 0 (va_A (W3 cy qa P T S nw hz ak pa wt cd ln) sz) = Q
  have hF : CallFix p m c cX3_makeCall 3 s args aX3_makeCall RX3 := ⟨hx, hb, hml, hown, hts⟩
  have hta : ∀ w ∈ pw_all, w.before args s = true := fun w h => hts w (List.mem_cons_of_mem _ h)
  have hin3 : ∀ w ∈ wsX30, w ∈ aX3_makeCall := fun w h => List.mem_cons_of_mem _ (inA3 w h)
  have hin2 : ∀ w ∈ wsX20, w ∈ aX3_makeCall := fun w h => List.mem_cons_of_mem _ (inA2 w h)
  have hin1 : ∀ w ∈ wsX10, w ∈ aX3_makeCall := fun w h => List.mem_cons_of_mem _ (inA1 w h)
  have hin0 : ∀ w ∈ wsX00, w ∈ aX3_makeCall := fun w h => List.mem_cons_of_mem _ (inA0 w h)
  unfold fX3_makeCall at h
  refine lv_iload_n hx hb dX3_makeCall_0 rfl (lv_at hl 1 rfl) ?_
  by_cases c1_ : x1 = 97
  · have h := pq_t c1_ h
    refine lv_lookup (off := 51) (tgt := 52) hx hb dX3_makeCall_1 (by decide) (by rw [c1_]; decide) (by decide) ?_
    refine lv_aload_n hx hb dX3_makeCall_52 rfl (lv_at hl 0 rfl) ?_
    refine va_get (D := D) (ci := 3) (v := .ref (qa 1 0)) (C := RX3) (T := TX3) (N := 7) hx hb hts hin3 hown hK hP 0 rfl rfl 0 (by decide) (hta _ aw_124) (fun _ h9 => h9) rfl dX3_makeCall_53 ?_
    refine lv_iload_n hx hb dX3_makeCall_56 rfl (lv_at hl 2 rfl) ?_
    obtain ⟨r1, hr1, h⟩ := pq_b h
    refine pw_fi (ws0 := W3 cy qa P T S nw hz ak pa wt cd ln) (ws1 := W3 cy qa P T S nw hz ak pa wt cd ln) (wc := WP cy (qa 1) P) (w1 := WP cy (qa 1) P) (rest := []) (As := [.int x2]) hF (kX2_canRequest l D cy (qa 1) _ P x2 r1 hr1) (cwV 1 hts (pw_gV (own := RX3) (idx := 47) (C := RX2) (y := yX2_canRequest) aw_406 aw_407 aw_408 aw_2 aw_409) rfl rfl rfl pX2_canRequest ⟨Nat.le_of_ble_eq_true rfl, Nat.le_of_ble_eq_true rfl⟩) 2 (RX2, TX2, 16) rfl rfl ⟨0, _, rfl⟩ hK hP hD hS hA (pw_s3 _ _ _ _ _) (pw_s3 _ _ _ _ _) rfl rfl hl.1 rfl (Nat.le_of_ble_eq_true rfl) dX3_makeCall_57 ⟨Nat.zero_le _, Nat.zero_le _⟩ (fun H locs hP hD hS => ?_)
    refine lv_if_ne (tgt := 65) hx hb dX3_makeCall_60 (by decide) (fun c2_ => ?_) (fun c2_ => ?_)
    · have h := pq_e c2_ h
      refine lv_aload_n hx hb dX3_makeCall_65 rfl (lv_at hl 0 rfl) ?_
      refine va_get (D := D) (ci := 3) (v := .ref (qa 1 0)) (C := RX3) (T := TX3) (N := 7) hx hb hts hin3 hown hK hP 0 rfl rfl 0 (by decide) (hta _ aw_124) (fun _ h9 => h9) rfl dX3_makeCall_66 ?_
      refine lv_iload_n hx hb dX3_makeCall_69 rfl (lv_at hl 2 rfl) ?_
      obtain ⟨r2, hr2, h⟩ := pq_b h
      refine pw_fi (ws0 := W3 cy qa P T S nw hz ak pa wt cd ln) (ws1 := W3 cy qa r2.2 T S nw hz ak pa wt cd ln) (wc := WP cy (qa 1) P) (w1 := WP cy (qa 1) r2.2) (rest := []) (As := [.int x2]) hF (kX2_request l D cy (qa 1) _ P x2 r2 hr2) (cwV 1 hts (pw_gV (own := RX3) (idx := 62) (C := RX2) (y := yX2_request) aw_410 aw_411 aw_412 aw_2 aw_413) rfl rfl rfl pX2_request ⟨Nat.le_of_ble_eq_true rfl, Nat.le_of_ble_eq_true rfl⟩) 2 (RX2, TX2, 16) rfl rfl ⟨0, _, rfl⟩ hK hP hD hS hA (pw_s3 _ _ _ _ _) (pw_s3 _ _ _ _ _) rfl rfl hl.1 rfl (Nat.le_of_ble_eq_true rfl) dX3_makeCall_70 ⟨Nat.zero_le _, Nat.zero_le _⟩ (fun H locs hP hD hS => ?_)
      refine lv_pop hx hb dX3_makeCall_73 rfl ?_
      refine lv_iconst (v := 1) hx hb dX3_makeCall_74 (by decide) ?_
      obtain rfl := Option.some.inj h
      subst hQ
      exact pw_rz hx hb hr rfl hlk hAe hP hS rfl dX3_makeCall_75
    · have h := pq_t c2_ h
      refine lv_iconst (v := 0) hx hb dX3_makeCall_63 (by decide) ?_
      obtain rfl := Option.some.inj h
      subst hQ
      exact pw_rz hx hb hr rfl hlk hAe hP hS rfl dX3_makeCall_64
  · have h := pq_e c1_ h
    by_cases c3_ : x1 = 99
    · have h := pq_t c3_ h
      refine lv_lookup (off := 122) (tgt := 123) hx hb dX3_makeCall_1 (by decide) (by rw [c3_]; decide) (by decide) ?_
      refine lv_aload_n hx hb dX3_makeCall_123 rfl (lv_at hl 0 rfl) ?_
      refine va_get (D := D) (ci := 3) (v := .ref (qa 1 0)) (C := RX3) (T := TX3) (N := 7) hx hb hts hin3 hown hK hP 0 rfl rfl 0 (by decide) (hta _ aw_124) (fun _ h9 => h9) rfl dX3_makeCall_124 ?_
      refine lv_iload_n hx hb dX3_makeCall_127 rfl (lv_at hl 2 rfl) ?_
      obtain ⟨r3, hr3, h⟩ := pq_b h
      refine pw_fi (ws0 := W3 cy qa P T S nw hz ak pa wt cd ln) (ws1 := W3 cy qa P T S nw hz ak pa wt cd ln) (wc := WP cy (qa 1) P) (w1 := WP cy (qa 1) P) (rest := []) (As := [.int x2]) hF (kX2_isThere l D cy (qa 1) _ P x2 r3 hr3) (cwV 1 hts (pw_gV (own := RX3) (idx := 91) (C := RX2) (y := yX2_isThere) aw_513 aw_391 aw_392 aw_2 aw_393) rfl rfl rfl pX2_isThere ⟨Nat.le_of_ble_eq_true rfl, Nat.le_of_ble_eq_true rfl⟩) 2 (RX2, TX2, 16) rfl rfl ⟨0, _, rfl⟩ hK hP hD hS hA (pw_s3 _ _ _ _ _) (pw_s3 _ _ _ _ _) rfl rfl hl.1 rfl (Nat.le_of_ble_eq_true rfl) dX3_makeCall_128 ⟨Nat.zero_le _, Nat.zero_le _⟩ (fun H locs hP hD hS => ?_)
      refine lv_iload_n hx hb dX3_makeCall_131 rfl (lv_at hl 1 rfl) ?_
      refine lv_bipush (v := 99) hx hb dX3_makeCall_132 (by decide) ?_
      obtain ⟨v4, hv4, h⟩ := pq_b h
      have J142_v4 : ∀ (H : Heap) (locs : List Loc) (ls : Array Slot), va_P D vwCl (W3 cy qa P T S nw hz ak pa wt cd ln) H → va_D A (W3 cy qa P T S nw hz ak pa wt cd ln) → va_S A s.heap H locs → lv_has ls 3 [(0, .ref (qa 0 0)), (1, .int x1), (2, .int x2)] → W p l e ({ frames := 5, cells := 0, slots := 0, locals := 116 } : Room) s m args below meth c H locs 0 0 Q (F0 m 142 ls [.int v4, .int r3]) := by
        intro H locs ls hP hD hS hl
        refine lv_icmp_ne (tgt := 147) hx hb dX3_makeCall_142 (by decide) (fun c5_ => ?_) (fun c5_ => ?_)
        · have h := pq_e c5_ h
          refine lv_aload_n hx hb dX3_makeCall_147 rfl (lv_at hl 0 rfl) ?_
          refine va_get (D := D) (ci := 3) (v := .ref (qa 1 0)) (C := RX3) (T := TX3) (N := 7) hx hb hts hin3 hown hK hP 0 rfl rfl 0 (by decide) (hta _ aw_124) (fun _ h9 => h9) rfl dX3_makeCall_148 ?_
          refine lv_iload_n hx hb dX3_makeCall_151 rfl (lv_at hl 2 rfl) ?_
          refine lv_iload_n hx hb dX3_makeCall_152 rfl (lv_at hl 1 rfl) ?_
          refine lv_bipush (v := 99) hx hb dX3_makeCall_153 (by decide) ?_
          refine lv_icmp_ne (tgt := 162) hx hb dX3_makeCall_155 (by decide) (fun c6_ => ?_) (fun c6_ => ?_)
          · have h := pq_e c6_ h
            refine lv_iconst (v := 0) hx hb dX3_makeCall_162 (by decide) ?_
            obtain ⟨r5, hr5, h⟩ := pq_b h
            refine pw_fv (ws0 := W3 cy qa P T S nw hz ak pa wt cd ln) (ws1 := W3 cy qa r5 T S nw hz ak pa wt cd ln) (wc := WP cy (qa 1) P) (w1 := WP cy (qa 1) r5) (rest := []) (As := [.int x2, .int 0]) hF (kX2_turnUp l D cy (qa 1) _ P x2 0 r5 hr5) (cwV 2 hts (pw_gV (own := RX3) (idx := 96) (C := RX2) (y := yX2_turnUp) aw_515 aw_516 aw_517 aw_2 aw_518) rfl rfl rfl pX2_turnUp ⟨Nat.le_of_ble_eq_true rfl, Nat.le_of_ble_eq_true rfl⟩) 2 (RX2, TX2, 16) rfl rfl ⟨0, _, rfl⟩ hK hP hD hS hA (pw_s3 _ _ _ _ _) (pw_s3 _ _ _ _ _) rfl rfl hl.1 rfl (Nat.le_of_ble_eq_true rfl) dX3_makeCall_163 ⟨Nat.zero_le _, Nat.zero_le _⟩ (fun H locs hP hD hS => ?_)
            refine lv_iconst (v := 1) hx hb dX3_makeCall_166 (by decide) ?_
            obtain rfl := Option.some.inj h
            subst hQ
            exact pw_rz hx hb hr rfl hlk hAe hP hS rfl dX3_makeCall_167
          · have h := pq_t c6_ h
            refine lv_iconst (v := 1) hx hb dX3_makeCall_158 (by decide) ?_
            refine lv_goto (tgt := 163) hx hb dX3_makeCall_159 (by decide) ?_
            obtain ⟨r6, hr6, h⟩ := pq_b h
            refine pw_fv (ws0 := W3 cy qa P T S nw hz ak pa wt cd ln) (ws1 := W3 cy qa r6 T S nw hz ak pa wt cd ln) (wc := WP cy (qa 1) P) (w1 := WP cy (qa 1) r6) (rest := []) (As := [.int x2, .int 1]) hF (kX2_turnUp l D cy (qa 1) _ P x2 1 r6 hr6) (cwV 2 hts (pw_gV (own := RX3) (idx := 96) (C := RX2) (y := yX2_turnUp) aw_515 aw_516 aw_517 aw_2 aw_518) rfl rfl rfl pX2_turnUp ⟨Nat.le_of_ble_eq_true rfl, Nat.le_of_ble_eq_true rfl⟩) 2 (RX2, TX2, 16) rfl rfl ⟨0, _, rfl⟩ hK hP hD hS hA (pw_s3 _ _ _ _ _) (pw_s3 _ _ _ _ _) rfl rfl hl.1 rfl (Nat.le_of_ble_eq_true rfl) dX3_makeCall_163 ⟨Nat.zero_le _, Nat.zero_le _⟩ (fun H locs hP hD hS => ?_)
            refine lv_iconst (v := 1) hx hb dX3_makeCall_166 (by decide) ?_
            obtain rfl := Option.some.inj h
            subst hQ
            exact pw_rz hx hb hr rfl hlk hAe hP hS rfl dX3_makeCall_167
        · have h := pq_t c5_ h
          refine lv_iconst (v := 0) hx hb dX3_makeCall_145 (by decide) ?_
          obtain rfl := Option.some.inj h
          subst hQ
          exact pw_rz hx hb hr rfl hlk hAe hP hS rfl dX3_makeCall_146
      clear h
      have h := hv4
      clear hv4
      refine lv_icmp_ne (tgt := 141) hx hb dX3_makeCall_134 (by decide) (fun c4_ => ?_) (fun c4_ => ?_)
      · have h := pq_e c4_ h
        refine lv_iconst (v := 0) hx hb dX3_makeCall_141 (by decide) ?_
        obtain rfl := Option.some.inj h
        exact J142_v4 _ _ _ hP hD hS (lv_sub hl [0, 1, 2] rfl)
      · have h := pq_t c4_ h
        refine lv_iconst (v := 1) hx hb dX3_makeCall_137 (by decide) ?_
        refine lv_goto (tgt := 142) hx hb dX3_makeCall_138 (by decide) ?_
        obtain rfl := Option.some.inj h
        exact J142_v4 _ _ _ hP hD hS (lv_sub hl [0, 1, 2] rfl)
    · have h := pq_e c3_ h
      by_cases c7_ : x1 = 103
      · have h := pq_t c7_ h
        refine lv_lookup (off := 75) (tgt := 76) hx hb dX3_makeCall_1 (by decide) (by rw [c7_]; decide) (by decide) ?_
        refine lv_aload_n hx hb dX3_makeCall_76 rfl (lv_at hl 0 rfl) ?_
        refine va_get (D := D) (ci := 3) (v := .ref (qa 1 0)) (C := RX3) (T := TX3) (N := 7) hx hb hts hin3 hown hK hP 0 rfl rfl 0 (by decide) (hta _ aw_124) (fun _ h9 => h9) rfl dX3_makeCall_77 ?_
        refine lv_iload_n hx hb dX3_makeCall_80 rfl (lv_at hl 2 rfl) ?_
        obtain ⟨r7, hr7, h⟩ := pq_b h
        refine pw_fi (ws0 := W3 cy qa P T S nw hz ak pa wt cd ln) (ws1 := W3 cy qa P T S nw hz ak pa wt cd ln) (wc := WP cy (qa 1) P) (w1 := WP cy (qa 1) P) (rest := []) (As := [.int x2]) hF (kX2_canTakeBack l D cy (qa 1) _ P x2 r7 hr7) (cwV 1 hts (pw_gV (own := RX3) (idx := 69) (C := RX2) (y := yX2_canTakeBack) aw_482 aw_483 aw_484 aw_2 aw_485) rfl rfl rfl pX2_canTakeBack ⟨Nat.le_of_ble_eq_true rfl, Nat.le_of_ble_eq_true rfl⟩) 2 (RX2, TX2, 16) rfl rfl ⟨0, _, rfl⟩ hK hP hD hS hA (pw_s3 _ _ _ _ _) (pw_s3 _ _ _ _ _) rfl rfl hl.1 rfl (Nat.le_of_ble_eq_true rfl) dX3_makeCall_81 ⟨Nat.zero_le _, Nat.zero_le _⟩ (fun H locs hP hD hS => ?_)
        refine lv_if_ne (tgt := 89) hx hb dX3_makeCall_84 (by decide) (fun c8_ => ?_) (fun c8_ => ?_)
        · have h := pq_e c8_ h
          refine lv_aload_n hx hb dX3_makeCall_89 rfl (lv_at hl 0 rfl) ?_
          refine va_get (D := D) (ci := 3) (v := .ref (qa 1 0)) (C := RX3) (T := TX3) (N := 7) hx hb hts hin3 hown hK hP 0 rfl rfl 0 (by decide) (hta _ aw_124) (fun _ h9 => h9) rfl dX3_makeCall_90 ?_
          refine lv_iload_n hx hb dX3_makeCall_93 rfl (lv_at hl 2 rfl) ?_
          obtain ⟨r8, hr8, h⟩ := pq_b h
          refine pw_fv (ws0 := W3 cy qa P T S nw hz ak pa wt cd ln) (ws1 := W3 cy qa r8 T S nw hz ak pa wt cd ln) (wc := WP cy (qa 1) P) (w1 := WP cy (qa 1) r8) (rest := []) (As := [.int x2]) hF (kX2_takeBack l D cy (qa 1) _ P x2 r8 hr8) (cwV 1 hts (pw_gV (own := RX3) (idx := 74) (C := RX2) (y := yX2_takeBack) aw_487 aw_488 aw_489 aw_2 aw_490) rfl rfl rfl pX2_takeBack ⟨Nat.le_of_ble_eq_true rfl, Nat.le_of_ble_eq_true rfl⟩) 2 (RX2, TX2, 16) rfl rfl ⟨0, _, rfl⟩ hK hP hD hS hA (pw_s3 _ _ _ _ _) (pw_s3 _ _ _ _ _) rfl rfl hl.1 rfl (Nat.le_of_ble_eq_true rfl) dX3_makeCall_94 ⟨Nat.zero_le _, Nat.zero_le _⟩ (fun H locs hP hD hS => ?_)
          refine lv_iconst (v := 1) hx hb dX3_makeCall_97 (by decide) ?_
          obtain rfl := Option.some.inj h
          subst hQ
          exact pw_rz hx hb hr rfl hlk hAe hP hS rfl dX3_makeCall_98
        · have h := pq_t c8_ h
          refine lv_iconst (v := 0) hx hb dX3_makeCall_87 (by decide) ?_
          obtain rfl := Option.some.inj h
          subst hQ
          exact pw_rz hx hb hr rfl hlk hAe hP hS rfl dX3_makeCall_88
      · have h := pq_e c7_ h
        by_cases c9_ : x1 = 115
        · have h := pq_t c9_ h
          refine lv_lookup (off := 98) (tgt := 99) hx hb dX3_makeCall_1 (by decide) (by rw [c9_]; decide) (by decide) ?_
          refine lv_aload_n hx hb dX3_makeCall_99 rfl (lv_at hl 0 rfl) ?_
          refine va_get (D := D) (ci := 3) (v := .ref (qa 1 0)) (C := RX3) (T := TX3) (N := 7) hx hb hts hin3 hown hK hP 0 rfl rfl 0 (by decide) (hta _ aw_124) (fun _ h9 => h9) rfl dX3_makeCall_100 ?_
          refine lv_iload_n hx hb dX3_makeCall_103 rfl (lv_at hl 2 rfl) ?_
          obtain ⟨r9, hr9, h⟩ := pq_b h
          refine pw_fi (ws0 := W3 cy qa P T S nw hz ak pa wt cd ln) (ws1 := W3 cy qa P T S nw hz ak pa wt cd ln) (wc := WP cy (qa 1) P) (w1 := WP cy (qa 1) P) (rest := []) (As := [.int x2]) hF (kX2_isEmpty l D cy (qa 1) _ P x2 r9 hr9) (cwV 1 hts (pw_gV (own := RX3) (idx := 103) (C := RX2) (y := yX2_isEmpty) aw_526 aw_214 aw_215 aw_2 aw_216) rfl rfl rfl pX2_isEmpty ⟨Nat.le_of_ble_eq_true rfl, Nat.le_of_ble_eq_true rfl⟩) 2 (RX2, TX2, 16) rfl rfl ⟨0, _, rfl⟩ hK hP hD hS hA (pw_s3 _ _ _ _ _) (pw_s3 _ _ _ _ _) rfl rfl hl.1 rfl (Nat.le_of_ble_eq_true rfl) dX3_makeCall_104 ⟨Nat.zero_le _, Nat.zero_le _⟩ (fun H locs hP hD hS => ?_)
          refine lv_if_eq (tgt := 112) hx hb dX3_makeCall_107 (by decide) (fun c10_ => ?_) (fun c10_ => ?_)
          · have h := pq_t c10_ h
            refine lv_aload_n hx hb dX3_makeCall_112 rfl (lv_at hl 0 rfl) ?_
            refine va_get (D := D) (ci := 3) (v := .ref (qa 1 0)) (C := RX3) (T := TX3) (N := 7) hx hb hts hin3 hown hK hP 0 rfl rfl 0 (by decide) (hta _ aw_124) (fun _ h9 => h9) rfl dX3_makeCall_113 ?_
            refine lv_iload_n hx hb dX3_makeCall_116 rfl (lv_at hl 2 rfl) ?_
            obtain ⟨r10, hr10, h⟩ := pq_b h
            refine pw_fi (ws0 := W3 cy qa P T S nw hz ak pa wt cd ln) (ws1 := W3 cy qa r10.2 T S nw hz ak pa wt cd ln) (wc := WP cy (qa 1) P) (w1 := WP cy (qa 1) r10.2) (rest := []) (As := [.int x2]) hF (kX2_makeSick l D cy (qa 1) _ P x2 r10 hr10) (cwV 1 hts (pw_gV (own := RX3) (idx := 108) (C := RX2) (y := yX2_makeSick) aw_528 aw_529 aw_530 aw_2 aw_531) rfl rfl rfl pX2_makeSick ⟨Nat.le_of_ble_eq_true rfl, Nat.le_of_ble_eq_true rfl⟩) 2 (RX2, TX2, 16) rfl rfl ⟨0, _, rfl⟩ hK hP hD hS hA (pw_s3 _ _ _ _ _) (pw_s3 _ _ _ _ _) rfl rfl hl.1 rfl (Nat.le_of_ble_eq_true rfl) dX3_makeCall_117 ⟨Nat.zero_le _, Nat.zero_le _⟩ (fun H locs hP hD hS => ?_)
            refine lv_pop hx hb dX3_makeCall_120 rfl ?_
            refine lv_iconst (v := 1) hx hb dX3_makeCall_121 (by decide) ?_
            obtain rfl := Option.some.inj h
            subst hQ
            exact pw_rz hx hb hr rfl hlk hAe hP hS rfl dX3_makeCall_122
          · have h := pq_e c10_ h
            refine lv_iconst (v := 0) hx hb dX3_makeCall_110 (by decide) ?_
            obtain rfl := Option.some.inj h
            subst hQ
            exact pw_rz hx hb hr rfl hlk hAe hP hS rfl dX3_makeCall_111
        · have h := pq_e c9_ h
          by_cases c11_ : x1 = 118
          · have h := pq_t c11_ h
            refine lv_lookup (off := 122) (tgt := 123) hx hb dX3_makeCall_1 (by decide) (by rw [c11_]; decide) (by decide) ?_
            refine lv_aload_n hx hb dX3_makeCall_123 rfl (lv_at hl 0 rfl) ?_
            refine va_get (D := D) (ci := 3) (v := .ref (qa 1 0)) (C := RX3) (T := TX3) (N := 7) hx hb hts hin3 hown hK hP 0 rfl rfl 0 (by decide) (hta _ aw_124) (fun _ h9 => h9) rfl dX3_makeCall_124 ?_
            refine lv_iload_n hx hb dX3_makeCall_127 rfl (lv_at hl 2 rfl) ?_
            obtain ⟨r11, hr11, h⟩ := pq_b h
            refine pw_fi (ws0 := W3 cy qa P T S nw hz ak pa wt cd ln) (ws1 := W3 cy qa P T S nw hz ak pa wt cd ln) (wc := WP cy (qa 1) P) (w1 := WP cy (qa 1) P) (rest := []) (As := [.int x2]) hF (kX2_isThere l D cy (qa 1) _ P x2 r11 hr11) (cwV 1 hts (pw_gV (own := RX3) (idx := 91) (C := RX2) (y := yX2_isThere) aw_513 aw_391 aw_392 aw_2 aw_393) rfl rfl rfl pX2_isThere ⟨Nat.le_of_ble_eq_true rfl, Nat.le_of_ble_eq_true rfl⟩) 2 (RX2, TX2, 16) rfl rfl ⟨0, _, rfl⟩ hK hP hD hS hA (pw_s3 _ _ _ _ _) (pw_s3 _ _ _ _ _) rfl rfl hl.1 rfl (Nat.le_of_ble_eq_true rfl) dX3_makeCall_128 ⟨Nat.zero_le _, Nat.zero_le _⟩ (fun H locs hP hD hS => ?_)
            refine lv_iload_n hx hb dX3_makeCall_131 rfl (lv_at hl 1 rfl) ?_
            refine lv_bipush (v := 99) hx hb dX3_makeCall_132 (by decide) ?_
            obtain ⟨v12, hv12, h⟩ := pq_b h
            have J142_v12 : ∀ (H : Heap) (locs : List Loc) (ls : Array Slot), va_P D vwCl (W3 cy qa P T S nw hz ak pa wt cd ln) H → va_D A (W3 cy qa P T S nw hz ak pa wt cd ln) → va_S A s.heap H locs → lv_has ls 3 [(0, .ref (qa 0 0)), (1, .int x1), (2, .int x2)] → W p l e ({ frames := 5, cells := 0, slots := 0, locals := 116 } : Room) s m args below meth c H locs 0 0 Q (F0 m 142 ls [.int v12, .int r11]) := by
              intro H locs ls hP hD hS hl
              refine lv_icmp_ne (tgt := 147) hx hb dX3_makeCall_142 (by decide) (fun c13_ => ?_) (fun c13_ => ?_)
              · have h := pq_e c13_ h
                refine lv_aload_n hx hb dX3_makeCall_147 rfl (lv_at hl 0 rfl) ?_
                refine va_get (D := D) (ci := 3) (v := .ref (qa 1 0)) (C := RX3) (T := TX3) (N := 7) hx hb hts hin3 hown hK hP 0 rfl rfl 0 (by decide) (hta _ aw_124) (fun _ h9 => h9) rfl dX3_makeCall_148 ?_
                refine lv_iload_n hx hb dX3_makeCall_151 rfl (lv_at hl 2 rfl) ?_
                refine lv_iload_n hx hb dX3_makeCall_152 rfl (lv_at hl 1 rfl) ?_
                refine lv_bipush (v := 99) hx hb dX3_makeCall_153 (by decide) ?_
                refine lv_icmp_ne (tgt := 162) hx hb dX3_makeCall_155 (by decide) (fun c14_ => ?_) (fun c14_ => ?_)
                · have h := pq_e c14_ h
                  refine lv_iconst (v := 0) hx hb dX3_makeCall_162 (by decide) ?_
                  obtain ⟨r13, hr13, h⟩ := pq_b h
                  refine pw_fv (ws0 := W3 cy qa P T S nw hz ak pa wt cd ln) (ws1 := W3 cy qa r13 T S nw hz ak pa wt cd ln) (wc := WP cy (qa 1) P) (w1 := WP cy (qa 1) r13) (rest := []) (As := [.int x2, .int 0]) hF (kX2_turnUp l D cy (qa 1) _ P x2 0 r13 hr13) (cwV 2 hts (pw_gV (own := RX3) (idx := 96) (C := RX2) (y := yX2_turnUp) aw_515 aw_516 aw_517 aw_2 aw_518) rfl rfl rfl pX2_turnUp ⟨Nat.le_of_ble_eq_true rfl, Nat.le_of_ble_eq_true rfl⟩) 2 (RX2, TX2, 16) rfl rfl ⟨0, _, rfl⟩ hK hP hD hS hA (pw_s3 _ _ _ _ _) (pw_s3 _ _ _ _ _) rfl rfl hl.1 rfl (Nat.le_of_ble_eq_true rfl) dX3_makeCall_163 ⟨Nat.zero_le _, Nat.zero_le _⟩ (fun H locs hP hD hS => ?_)
                  refine lv_iconst (v := 1) hx hb dX3_makeCall_166 (by decide) ?_
                  obtain rfl := Option.some.inj h
                  subst hQ
                  exact pw_rz hx hb hr rfl hlk hAe hP hS rfl dX3_makeCall_167
                · have h := pq_t c14_ h
                  refine lv_iconst (v := 1) hx hb dX3_makeCall_158 (by decide) ?_
                  refine lv_goto (tgt := 163) hx hb dX3_makeCall_159 (by decide) ?_
                  obtain ⟨r14, hr14, h⟩ := pq_b h
                  refine pw_fv (ws0 := W3 cy qa P T S nw hz ak pa wt cd ln) (ws1 := W3 cy qa r14 T S nw hz ak pa wt cd ln) (wc := WP cy (qa 1) P) (w1 := WP cy (qa 1) r14) (rest := []) (As := [.int x2, .int 1]) hF (kX2_turnUp l D cy (qa 1) _ P x2 1 r14 hr14) (cwV 2 hts (pw_gV (own := RX3) (idx := 96) (C := RX2) (y := yX2_turnUp) aw_515 aw_516 aw_517 aw_2 aw_518) rfl rfl rfl pX2_turnUp ⟨Nat.le_of_ble_eq_true rfl, Nat.le_of_ble_eq_true rfl⟩) 2 (RX2, TX2, 16) rfl rfl ⟨0, _, rfl⟩ hK hP hD hS hA (pw_s3 _ _ _ _ _) (pw_s3 _ _ _ _ _) rfl rfl hl.1 rfl (Nat.le_of_ble_eq_true rfl) dX3_makeCall_163 ⟨Nat.zero_le _, Nat.zero_le _⟩ (fun H locs hP hD hS => ?_)
                  refine lv_iconst (v := 1) hx hb dX3_makeCall_166 (by decide) ?_
                  obtain rfl := Option.some.inj h
                  subst hQ
                  exact pw_rz hx hb hr rfl hlk hAe hP hS rfl dX3_makeCall_167
              · have h := pq_t c13_ h
                refine lv_iconst (v := 0) hx hb dX3_makeCall_145 (by decide) ?_
                obtain rfl := Option.some.inj h
                subst hQ
                exact pw_rz hx hb hr rfl hlk hAe hP hS rfl dX3_makeCall_146
            clear h
            have h := hv12
            clear hv12
            refine lv_icmp_ne (tgt := 141) hx hb dX3_makeCall_134 (by decide) (fun c12_ => ?_) (fun c12_ => ?_)
            · have h := pq_e c12_ h
              refine lv_iconst (v := 0) hx hb dX3_makeCall_141 (by decide) ?_
              obtain rfl := Option.some.inj h
              exact J142_v12 _ _ _ hP hD hS (lv_sub hl [0, 1, 2] rfl)
            · have h := pq_t c12_ h
              refine lv_iconst (v := 1) hx hb dX3_makeCall_137 (by decide) ?_
              refine lv_goto (tgt := 142) hx hb dX3_makeCall_138 (by decide) ?_
              obtain rfl := Option.some.inj h
              exact J142_v12 _ _ _ hP hD hS (lv_sub hl [0, 1, 2] rfl)
          · have h := pq_e c11_ h
            refine lv_lookup (off := 167) (tgt := 168) hx hb dX3_makeCall_1 (by decide) ((lv_osw c1_ (by decide)).trans ((lv_osw c3_ (by decide)).trans ((lv_osw c7_ (by decide)).trans ((lv_osw c9_ (by decide)).trans ((lv_osw c11_ (by decide)).trans (rfl)))))) (by decide) ?_
            refine lv_aload_n hx hb dX3_makeCall_168 rfl (lv_at hl 0 rfl) ?_
            refine va_get (D := D) (ci := 3) (v := .ref (qa 1 0)) (C := RX3) (T := TX3) (N := 7) hx hb hts hin3 hown hK hP 0 rfl rfl 0 (by decide) (hta _ aw_124) (fun _ h9 => h9) rfl dX3_makeCall_169 ?_
            refine lv_iload_n hx hb dX3_makeCall_172 rfl (lv_at hl 2 rfl) ?_
            obtain ⟨r15, hr15, h⟩ := pq_b h
            refine pw_fi (ws0 := W3 cy qa P T S nw hz ak pa wt cd ln) (ws1 := W3 cy qa P T S nw hz ak pa wt cd ln) (wc := WP cy (qa 1) P) (w1 := WP cy (qa 1) P) (rest := []) (As := [.int x2]) hF (kX2_canPassUnits l D cy (qa 1) _ P x2 r15 hr15) (cwV 1 hts (pw_gV (own := RX3) (idx := 141) (C := RX2) (y := yX2_canPassUnits) aw_561 aw_562 aw_563 aw_2 aw_564) rfl rfl rfl pX2_canPassUnits ⟨Nat.le_of_ble_eq_true rfl, Nat.le_of_ble_eq_true rfl⟩) 2 (RX2, TX2, 16) rfl rfl ⟨0, _, rfl⟩ hK hP hD hS hA (pw_s3 _ _ _ _ _) (pw_s3 _ _ _ _ _) rfl rfl hl.1 rfl (Nat.le_of_ble_eq_true rfl) dX3_makeCall_173 ⟨Nat.zero_le _, Nat.zero_le _⟩ (fun H locs hP hD hS => ?_)
            refine lv_if_ne (tgt := 181) hx hb dX3_makeCall_176 (by decide) (fun c15_ => ?_) (fun c15_ => ?_)
            · have h := pq_e c15_ h
              refine lv_aload_n hx hb dX3_makeCall_181 rfl (lv_at hl 0 rfl) ?_
              refine va_get (D := D) (ci := 3) (v := .ref (qa 1 0)) (C := RX3) (T := TX3) (N := 7) hx hb hts hin3 hown hK hP 0 rfl rfl 0 (by decide) (hta _ aw_124) (fun _ h9 => h9) rfl dX3_makeCall_182 ?_
              refine lv_iload_n hx hb dX3_makeCall_185 rfl (lv_at hl 2 rfl) ?_
              obtain ⟨r16, hr16, h⟩ := pq_b h
              refine pw_fi (ws0 := W3 cy qa P T S nw hz ak pa wt cd ln) (ws1 := W3 cy qa r16.2 T S nw hz ak pa wt cd ln) (wc := WP cy (qa 1) P) (w1 := WP cy (qa 1) r16.2) (rest := []) (As := [.int x2]) hF (kX2_passUnits l D cy (qa 1) _ P x2 r16 hr16) (cwV 1 hts (pw_gV (own := RX3) (idx := 146) (C := RX2) (y := yX2_passUnits) aw_368 aw_369 aw_370 aw_2 aw_371) rfl rfl rfl pX2_passUnits ⟨Nat.le_of_ble_eq_true rfl, Nat.le_of_ble_eq_true rfl⟩) 2 (RX2, TX2, 16) rfl rfl ⟨0, _, rfl⟩ hK hP hD hS hA (pw_s3 _ _ _ _ _) (pw_s3 _ _ _ _ _) rfl rfl hl.1 rfl (Nat.le_of_ble_eq_true rfl) dX3_makeCall_186 ⟨Nat.zero_le _, Nat.zero_le _⟩ (fun H locs hP hD hS => ?_)
              refine lv_pop hx hb dX3_makeCall_189 rfl ?_
              refine lv_iconst (v := 1) hx hb dX3_makeCall_190 (by decide) ?_
              obtain rfl := Option.some.inj h
              subst hQ
              exact pw_rz hx hb hr rfl hlk hAe hP hS rfl dX3_makeCall_191
            · have h := pq_t c15_ h
              refine lv_iconst (v := 0) hx hb dX3_makeCall_179 (by decide) ?_
              obtain rfl := Option.some.inj h
              subst hQ
              exact pw_rz hx hb hr rfl hlk hAe hP hS rfl dX3_makeCall_180

def aX3_run : List Cond := Cond.code yX3_run cX3_run 3 (some .int) :: pw_all
theorem pX3_run : yX3_run.cls = RX3 ∧ yX3_run.cls ≠ "java/lang/invoke/MethodHandle" ∧ yX3_run.cls ≠ "java/lang/invoke/VarHandle" ∧ (parseMethodDescriptor yX3_run.desc).map (fun d => d.parameters.length) = some 0 := by decide +kernel
set_option maxHeartbeats 8000000 in
set_option maxRecDepth 100000 in
theorem kX3_run (l : Launch) (D : va_G) (cy : Nat → ClassId) (qa : Nat → Nat → Nat) (sz : Nat) (P : Nat → Nat → Int32) (T : Nat → Nat → Int32) (S : Nat → Nat → Nat → Int32) (nw : Int32) (hz : Int32) (ak : Nat → Int32) (pa : Nat → Int32) (wt : Nat → Int32) (cd : Nat → Int32) (ln : Int32)  (o : Int32 × (Nat → Nat → Int32) × (Nat → Nat → Nat → Int32) × Int32 × Int32 × Int32) (h : fX3_run P S nw hz cd ln = some (Sum.inr o)) : Met l yX3_run aX3_run ({ frames := 6, cells := 0, slots := 0, locals := 138 }) (pw_Pre D cy [.ref (qa 0 0)] (W3 cy qa P T S nw hz ak pa wt cd ln) sz) (pw_I D o.1 (W3 cy qa P T S nw hz ak pa wt cd ln) (W3 cy qa o.2.1 T o.2.2.1 o.2.2.2.1 o.2.2.2.2.1 ak pa wt cd o.2.2.2.2.2) sz) 0 0 (va_A (W3 cy qa P T S nw hz ak pa wt cd ln) sz) := by
  refine pw_met (cc := cX3_run) (maxL := 3) (ret := (some .int)) (by decide) rfl (Nat.le_of_ble_eq_true rfl) ?_
  intro p e s m args below meth c ls A hx hb hr hml hlk hts hown hAe hA hK hP hD hS hl
  have hl : lv_has ls 3 [(0, .ref (qa 0 0))] := hl
  generalize hQ : MQ below (pw_I D o.1 (W3 cy qa P T S nw hz ak pa wt cd ln) (W3 cy qa o.2.1 T o.2.2.1 o.2.2.2.1 o.2.2.2.2.1 ak pa wt cd o.2.2.2.2.2) sz) args s 0 0 (va_A (W3 cy qa P T S nw hz ak pa wt cd ln) sz) = Q
  have hF : CallFix p m c cX3_run 3 s args aX3_run RX3 := ⟨hx, hb, hml, hown, hts⟩
  have hta : ∀ w ∈ pw_all, w.before args s = true := fun w h => hts w (List.mem_cons_of_mem _ h)
  have hin3 : ∀ w ∈ wsX30, w ∈ aX3_run := fun w h => List.mem_cons_of_mem _ (inA3 w h)
  have hin2 : ∀ w ∈ wsX20, w ∈ aX3_run := fun w h => List.mem_cons_of_mem _ (inA2 w h)
  have hin1 : ∀ w ∈ wsX10, w ∈ aX3_run := fun w h => List.mem_cons_of_mem _ (inA1 w h)
  have hin0 : ∀ w ∈ wsX00, w ∈ aX3_run := fun w h => List.mem_cons_of_mem _ (inA0 w h)
  unfold fX3_run at h
  refine lv_aload_n hx hb dX3_run_0 rfl (lv_at hl 0 rfl) ?_
  refine va_get (D := D) (ci := 3) (v := .ref (qa 3 0)) (C := RX3) (T := TX3) (N := 7) hx hb hts hin3 hown hK hP 0 rfl rfl 6 (by decide) (hta _ aw_130) (fun _ h9 => h9) rfl dX3_run_1 ?_
  obtain ⟨r1, hr1, h⟩ := pq_b h
  refine pw_fi (ws0 := W3 cy qa P T S nw hz ak pa wt cd ln) (ws1 := W3 cy qa P T S nw hz ak pa wt cd ln) (wc := WT cy (qa 3) cd ln) (w1 := WT cy (qa 3) cd ln) (rest := []) (As := []) hF (kX0_isComplete l D cy (qa 3) _ cd ln  r1 hr1) (cwV 0 hts (pw_gV (own := RX3) (idx := 167) (C := RX0) (y := yX0_isComplete) aw_591 aw_592 aw_593 aw_5 aw_594) rfl rfl rfl pX0_isComplete ⟨Nat.le_of_ble_eq_true rfl, Nat.le_of_ble_eq_true rfl⟩) 0 (RX0, TX0, 2) rfl rfl ⟨0, _, rfl⟩ hK hP hD hS hA (pw_s1 _ _ _) (pw_s1 _ _ _) rfl rfl hl.1 rfl (Nat.le_of_ble_eq_true rfl) dX3_run_4 ⟨Nat.zero_le _, Nat.zero_le _⟩ (fun H locs hP hD hS => ?_)
  refine lv_if_ne (tgt := 20) hx hb dX3_run_7 (by decide) (fun c1_ => ?_) (fun c1_ => ?_)
  · have h := pq_e c1_ h
    refine lv_aload_n hx hb dX3_run_20 rfl (lv_at hl 0 rfl) ?_
    refine va_get (D := D) (ci := 3) (v := .ref (qa 4 0)) (C := RX3) (T := TX3) (N := 7) hx hb hts hin3 hown hK hP 0 rfl rfl 5 (by decide) (hta _ aw_129) (fun _ h9 => h9) rfl dX3_run_21 ?_
    refine lv_aload_n hx hb dX3_run_24 rfl (lv_at hl 0 rfl) ?_
    refine va_get (D := D) (ci := 3) (v := .ref (qa 1 0)) (C := RX3) (T := TX3) (N := 7) hx hb hts hin3 hown hK hP 0 rfl rfl 0 (by decide) (hta _ aw_124) (fun _ h9 => h9) rfl dX3_run_25 ?_
    obtain ⟨r2, hr2, h⟩ := pq_b h
    refine pw_fv (ws0 := W3 cy qa P T S nw hz ak pa wt cd ln) (ws1 := W3 cy qa P T r2.1 r2.2.1 r2.2.2 ak pa wt cd ln) (wc := WP cy (qa 1) P ++ WH cy qa S nw hz) (w1 := WP cy (qa 1) P ++ WH cy qa r2.1 r2.2.1 r2.2.2) (rest := []) (As := [.ref (qa 1 0)]) hF (kX1_save l D cy qa _ P S nw hz r2 hr2) (cwV 1 hts (pw_gV (own := RX3) (idx := 58) (C := RX1) (y := yX1_save) aw_150 aw_151 aw_152 aw_4 aw_153) rfl rfl rfl pX1_save ⟨Nat.le_of_ble_eq_true rfl, Nat.le_of_ble_eq_true rfl⟩) 1 (RX1, TX1, 3) rfl rfl ⟨15, _, rfl⟩ hK hP hD hS hA (pw_s34 _ _ _ _ _) (pw_s34 _ _ _ _ _) rfl rfl hl.1 rfl (Nat.le_of_ble_eq_true rfl) dX3_run_28 ⟨Nat.zero_le _, Nat.zero_le _⟩ (fun H locs hP hD hS => ?_)
    refine lv_iconst (v := 0) hx hb dX3_run_31 (by decide) ?_
    refine lv_istore_n (lv' := [(1, .int 0), (0, .ref (qa 0 0))]) hx hb dX3_run_32 rfl hl (by decide) rfl (fun ls hl => ?_)
    refine lv_iconst (v := 0) hx hb dX3_run_33 (by decide) ?_
    refine lv_istore_n (lv' := [(2, .int 0), (1, .int 0), (0, .ref (qa 0 0))]) hx hb dX3_run_34 rfl hl (by decide) rfl (fun ls hl => ?_)
    have L35_n3 : ∀ (n : Nat) (x1_35 : Int32) (x2_35 : Int32) (P_35 : Nat → Nat → Int32) (H : Heap) (locs : List Loc) (ls : Array Slot), fX3_run_L35 cd ln r2 n x1_35 x2_35 P_35 = some (Sum.inr o) → va_P D vwCl (W3 cy qa P_35 T r2.1 r2.2.1 r2.2.2 ak pa wt cd ln) H → va_D A (W3 cy qa P_35 T r2.1 r2.2.1 r2.2.2 ak pa wt cd ln) → va_S A s.heap H locs → lv_has ls 3 [(0, .ref (qa 0 0)), (1, .int x1_35), (2, .int x2_35)] → W p l e ({ frames := 6, cells := 0, slots := 0, locals := 138 } : Room) s m args below meth c H locs 0 0 Q (F0 m 35 ls []) := by
      intro n
      induction n with
      | zero =>
        intro x1_35 x2_35 P_35 H locs ls h hP hD hS hl
        exact pq_n h
      | succ n ih35 =>
        intro x1_35 x2_35 P_35 H locs ls h hP hD hS hl
        rw [fX3_run_L35] at h
        refine lv_iload_n hx hb dX3_run_35 rfl (lv_at hl 2 rfl) ?_
        refine lv_aload_n hx hb dX3_run_36 rfl (lv_at hl 0 rfl) ?_
        refine va_get (D := D) (ci := 3) (v := .ref (qa 3 0)) (C := RX3) (T := TX3) (N := 7) hx hb hts hin3 hown hK hP 0 rfl rfl 6 (by decide) (hta _ aw_130) (fun _ h9 => h9) rfl dX3_run_37 ?_
        obtain ⟨r4, hr4, h⟩ := pq_b h
        refine pw_fi (ws0 := W3 cy qa P_35 T r2.1 r2.2.1 r2.2.2 ak pa wt cd ln) (ws1 := W3 cy qa P_35 T r2.1 r2.2.1 r2.2.2 ak pa wt cd ln) (wc := WT cy (qa 3) cd ln) (w1 := WT cy (qa 3) cd ln) (rest := [.int x2_35]) (As := []) hF (kX0_parts l D cy (qa 3) _ cd ln  r4 hr4) (cwV 0 hts (pw_gV (own := RX3) (idx := 172) (C := RX0) (y := yX0_parts) aw_597 aw_598 aw_599 aw_5 aw_600) rfl rfl rfl pX0_parts ⟨Nat.le_of_ble_eq_true rfl, Nat.le_of_ble_eq_true rfl⟩) 0 (RX0, TX0, 2) rfl rfl ⟨0, _, rfl⟩ hK hP hD hS hA (pw_s1 _ _ _) (pw_s1 _ _ _) rfl rfl hl.1 rfl (Nat.le_of_ble_eq_true rfl) dX3_run_40 ⟨Nat.zero_le _, Nat.zero_le _⟩ (fun H locs hP hD hS => ?_)
        refine lv_icmp_ge (tgt := 81) hx hb dX3_run_43 (by decide) (fun c2_ => ?_) (fun c2_ => ?_)
        · have h := pq_t c2_ h
          refine lv_aload_n hx hb dX3_run_81 rfl (lv_at hl 0 rfl) ?_
          refine va_get (D := D) (ci := 3) (v := .ref (qa 3 0)) (C := RX3) (T := TX3) (N := 7) hx hb hts hin3 hown hK hP 0 rfl rfl 6 (by decide) (hta _ aw_130) (fun _ h9 => h9) rfl dX3_run_82 ?_
          refine lv_iconst (v := 0) hx hb dX3_run_85 (by decide) ?_
          refine va_put (D := D) (ci := 0) (v := .int 0) (ty := .int) (C := RX0) (T := TX0) (N := 2) hx hb hts hin0 tyX0 tyX0_ok nmX0 hown hK hP hD hS 4 rfl rfl 1 (by decide) (hta _ aw_118) (fun _ h9 => h9) rfl (by decide +kernel) rfl rfl (Nat.le_of_ble_eq_true rfl) dX3_run_86 (fun H locs hP hD hS => ?_)
          have hP : va_P D vwCl (W3 cy qa P_35 T r2.1 r2.2.1 r2.2.2 ak pa wt cd 0) H := hP
          have hD : va_D A (W3 cy qa P_35 T r2.1 r2.2.1 r2.2.2 ak pa wt cd 0) := hD
          refine lv_iload_n hx hb dX3_run_89 rfl (lv_at hl 1 rfl) ?_
          obtain rfl := Sum.inr.inj (Option.some.inj h)
          subst hQ
          exact pw_ri hx hb hr hlk hAe hP hS rfl dX3_run_90
        · have h := pq_e c2_ h
          refine lv_aload_n hx hb dX3_run_46 rfl (lv_at hl 0 rfl) ?_
          refine lv_aload_n hx hb dX3_run_47 rfl (lv_at hl 0 rfl) ?_
          refine va_get (D := D) (ci := 3) (v := .ref (qa 3 0)) (C := RX3) (T := TX3) (N := 7) hx hb hts hin3 hown hK hP 0 rfl rfl 6 (by decide) (hta _ aw_130) (fun _ h9 => h9) rfl dX3_run_48 ?_
          refine lv_iload_n hx hb dX3_run_51 rfl (lv_at hl 2 rfl) ?_
          obtain ⟨r5, hr5, h⟩ := pq_b h
          refine pw_fi (ws0 := W3 cy qa P_35 T r2.1 r2.2.1 r2.2.2 ak pa wt cd ln) (ws1 := W3 cy qa P_35 T r2.1 r2.2.1 r2.2.2 ak pa wt cd ln) (wc := WT cy (qa 3) cd ln) (w1 := WT cy (qa 3) cd ln) (rest := [.ref (qa 0 0)]) (As := [.int x2_35]) hF (kX0_kindOf l D cy (qa 3) _ cd ln x2_35 r5 hr5) (cwV 1 hts (pw_gV (own := RX3) (idx := 175) (C := RX0) (y := yX0_kindOf) aw_601 aw_602 aw_603 aw_5 aw_604) rfl rfl rfl pX0_kindOf ⟨Nat.le_of_ble_eq_true rfl, Nat.le_of_ble_eq_true rfl⟩) 0 (RX0, TX0, 2) rfl rfl ⟨0, _, rfl⟩ hK hP hD hS hA (pw_s1 _ _ _) (pw_s1 _ _ _) rfl rfl hl.1 rfl (Nat.le_of_ble_eq_true rfl) dX3_run_52 ⟨Nat.zero_le _, Nat.zero_le _⟩ (fun H locs hP hD hS => ?_)
          refine lv_aload_n hx hb dX3_run_55 rfl (lv_at hl 0 rfl) ?_
          refine va_get (D := D) (ci := 3) (v := .ref (qa 3 0)) (C := RX3) (T := TX3) (N := 7) hx hb hts hin3 hown hK hP 0 rfl rfl 6 (by decide) (hta _ aw_130) (fun _ h9 => h9) rfl dX3_run_56 ?_
          refine lv_iload_n hx hb dX3_run_59 rfl (lv_at hl 2 rfl) ?_
          obtain ⟨r6, hr6, h⟩ := pq_b h
          refine pw_fi (ws0 := W3 cy qa P_35 T r2.1 r2.2.1 r2.2.2 ak pa wt cd ln) (ws1 := W3 cy qa P_35 T r2.1 r2.2.1 r2.2.2 ak pa wt cd ln) (wc := WT cy (qa 3) cd ln) (w1 := WT cy (qa 3) cd ln) (rest := [.int r5, .ref (qa 0 0)]) (As := [.int x2_35]) hF (kX0_numberOf l D cy (qa 3) _ cd ln x2_35 r6 hr6) (cwV 1 hts (pw_gV (own := RX3) (idx := 178) (C := RX0) (y := yX0_numberOf) aw_605 aw_606 aw_607 aw_5 aw_608) rfl rfl rfl pX0_numberOf ⟨Nat.le_of_ble_eq_true rfl, Nat.le_of_ble_eq_true rfl⟩) 0 (RX0, TX0, 2) rfl rfl ⟨0, _, rfl⟩ hK hP hD hS hA (pw_s1 _ _ _) (pw_s1 _ _ _) rfl rfl hl.1 rfl (Nat.le_of_ble_eq_true rfl) dX3_run_60 ⟨Nat.zero_le _, Nat.zero_le _⟩ (fun H locs hP hD hS => ?_)
          obtain ⟨r7, hr7, h⟩ := pq_b h
          refine pw_ci (w1 := W3 cy qa r7.2 T r2.1 r2.2.1 r2.2.2 ak pa wt cd ln) (rest := []) (As := [.int r5, .int r6]) hF (kX3_makeCall l D cy qa _ P_35 T r2.1 r2.2.1 r2.2.2 ak pa wt cd ln r5 r6 r7 hr7) (cwV 2 hts (pw_gV (own := RX3) (idx := 181) (C := RX3) (y := yX3_makeCall) aw_609 aw_611 aw_s16 aw_1 aw_612) rfl rfl rfl pX3_makeCall ⟨Nat.le_of_ble_eq_true rfl, Nat.le_of_ble_eq_true rfl⟩) (va_recv hK hP (ci := 3) (q0 := 0) rfl rfl) hK hP hD hS hA rfl rfl hl.1 rfl (Nat.le_of_ble_eq_true rfl) dX3_run_63 ⟨Nat.zero_le _, Nat.zero_le _⟩ (fun H locs hP hD hS => ?_)
          refine lv_if_ne (tgt := 72) hx hb dX3_run_66 (by decide) (fun c3_ => ?_) (fun c3_ => ?_)
          · have h := pq_e c3_ h
            refine lv_iinc (v := x1_35 + 1) (lv' := [(1, .int (x1_35 + 1)), (0, .ref (qa 0 0)), (2, .int x2_35)]) hx hb dX3_run_72 hl (k := 1) rfl (by first | rfl | decide) (by decide) rfl (fun ls hl => ?_)
            refine lv_iinc (v := x2_35 + 1) (lv' := [(2, .int (x2_35 + 1)), (1, .int (x1_35 + 1)), (0, .ref (qa 0 0))]) hx hb dX3_run_75 hl (k := 2) rfl (by first | rfl | decide) (by decide) rfl (fun ls hl => ?_)
            refine lv_goto (tgt := 35) hx hb dX3_run_78 (by decide) ?_
            exact ih35 (x1_35 + 1) (x2_35 + 1) r7.2 _ _ _ h hP hD hS (lv_sub hl [2, 1, 0] rfl)
          · have h := pq_t c3_ h
            refine lv_goto (tgt := 81) hx hb dX3_run_69 (by decide) ?_
            refine lv_aload_n hx hb dX3_run_81 rfl (lv_at hl 0 rfl) ?_
            refine va_get (D := D) (ci := 3) (v := .ref (qa 3 0)) (C := RX3) (T := TX3) (N := 7) hx hb hts hin3 hown hK hP 0 rfl rfl 6 (by decide) (hta _ aw_130) (fun _ h9 => h9) rfl dX3_run_82 ?_
            refine lv_iconst (v := 0) hx hb dX3_run_85 (by decide) ?_
            refine va_put (D := D) (ci := 0) (v := .int 0) (ty := .int) (C := RX0) (T := TX0) (N := 2) hx hb hts hin0 tyX0 tyX0_ok nmX0 hown hK hP hD hS 4 rfl rfl 1 (by decide) (hta _ aw_118) (fun _ h9 => h9) rfl (by decide +kernel) rfl rfl (Nat.le_of_ble_eq_true rfl) dX3_run_86 (fun H locs hP hD hS => ?_)
            have hP : va_P D vwCl (W3 cy qa r7.2 T r2.1 r2.2.1 r2.2.2 ak pa wt cd 0) H := hP
            have hD : va_D A (W3 cy qa r7.2 T r2.1 r2.2.1 r2.2.2 ak pa wt cd 0) := hD
            refine lv_iload_n hx hb dX3_run_89 rfl (lv_at hl 1 rfl) ?_
            obtain rfl := Sum.inr.inj (Option.some.inj h)
            subst hQ
            exact pw_ri hx hb hr hlk hAe hP hS rfl dX3_run_90
    exact L35_n3 1000 0 0 P _ _ _ h hP hD hS (lv_sub hl [2, 1, 0] rfl)
  · have h := pq_t c1_ h
    exact nomatch h

def aX3_undo : List Cond := Cond.code yX3_undo cX3_undo 1 (some .int) :: pw_all
theorem pX3_undo : yX3_undo.cls = RX3 ∧ yX3_undo.cls ≠ "java/lang/invoke/MethodHandle" ∧ yX3_undo.cls ≠ "java/lang/invoke/VarHandle" ∧ (parseMethodDescriptor yX3_undo.desc).map (fun d => d.parameters.length) = some 0 := by decide +kernel
set_option maxHeartbeats 8000000 in
set_option maxRecDepth 100000 in
theorem kX3_undo (l : Launch) (D : va_G) (cy : Nat → ClassId) (qa : Nat → Nat → Nat) (sz : Nat) (P : Nat → Nat → Int32) (T : Nat → Nat → Int32) (S : Nat → Nat → Nat → Int32) (nw : Int32) (hz : Int32) (ak : Nat → Int32) (pa : Nat → Int32) (wt : Nat → Int32) (cd : Nat → Int32) (ln : Int32)  (o : Int32 × (Nat → Nat → Int32) × Int32 × Int32) (h : fX3_undo P S nw hz = some (Sum.inr o)) : Met l yX3_undo aX3_undo ({ frames := 3, cells := 0, slots := 0, locals := 111 }) (pw_Pre D cy [.ref (qa 0 0)] (W3 cy qa P T S nw hz ak pa wt cd ln) sz) (pw_I D o.1 (W3 cy qa P T S nw hz ak pa wt cd ln) (W3 cy qa o.2.1 T S o.2.2.1 o.2.2.2 ak pa wt cd ln) sz) 0 0 (va_A (W3 cy qa P T S nw hz ak pa wt cd ln) sz) := by
  refine pw_met (cc := cX3_undo) (maxL := 1) (ret := (some .int)) (by decide) rfl (Nat.le_of_ble_eq_true rfl) ?_
  intro p e s m args below meth c ls A hx hb hr hml hlk hts hown hAe hA hK hP hD hS hl
  have hl : lv_has ls 1 [(0, .ref (qa 0 0))] := hl
  generalize hQ : MQ below (pw_I D o.1 (W3 cy qa P T S nw hz ak pa wt cd ln) (W3 cy qa o.2.1 T S o.2.2.1 o.2.2.2 ak pa wt cd ln) sz) args s 0 0 (va_A (W3 cy qa P T S nw hz ak pa wt cd ln) sz) = Q
  have hF : CallFix p m c cX3_undo 1 s args aX3_undo RX3 := ⟨hx, hb, hml, hown, hts⟩
  have hta : ∀ w ∈ pw_all, w.before args s = true := fun w h => hts w (List.mem_cons_of_mem _ h)
  have hin3 : ∀ w ∈ wsX30, w ∈ aX3_undo := fun w h => List.mem_cons_of_mem _ (inA3 w h)
  have hin2 : ∀ w ∈ wsX20, w ∈ aX3_undo := fun w h => List.mem_cons_of_mem _ (inA2 w h)
  have hin1 : ∀ w ∈ wsX10, w ∈ aX3_undo := fun w h => List.mem_cons_of_mem _ (inA1 w h)
  have hin0 : ∀ w ∈ wsX00, w ∈ aX3_undo := fun w h => List.mem_cons_of_mem _ (inA0 w h)
  unfold fX3_undo at h
  refine lv_aload_n hx hb dX3_undo_0 rfl (lv_at hl 0 rfl) ?_
  refine va_get (D := D) (ci := 3) (v := .ref (qa 4 0)) (C := RX3) (T := TX3) (N := 7) hx hb hts hin3 hown hK hP 0 rfl rfl 5 (by decide) (hta _ aw_129) (fun _ h9 => h9) rfl dX3_undo_1 ?_
  refine va_get (D := D) (ci := 1) (v := .int hz) (C := RX1) (T := TX1) (N := 3) hx hb hts hin1 hown hK hP 36 rfl rfl 2 (by decide) (hta _ aw_101) (fun _ h9 => h9) rfl dX3_undo_4 ?_
  refine lv_if_ne (tgt := 20) hx hb dX3_undo_7 (by decide) (fun c1_ => ?_) (fun c1_ => ?_)
  · have h := pq_e c1_ h
    refine lv_aload_n hx hb dX3_undo_20 rfl (lv_at hl 0 rfl) ?_
    refine va_get (D := D) (ci := 3) (v := .ref (qa 4 0)) (C := RX3) (T := TX3) (N := 7) hx hb hts hin3 hown hK hP 0 rfl rfl 5 (by decide) (hta _ aw_129) (fun _ h9 => h9) rfl dX3_undo_21 ?_
    refine lv_aload_n hx hb dX3_undo_24 rfl (lv_at hl 0 rfl) ?_
    refine va_get (D := D) (ci := 3) (v := .ref (qa 1 0)) (C := RX3) (T := TX3) (N := 7) hx hb hts hin3 hown hK hP 0 rfl rfl 0 (by decide) (hta _ aw_124) (fun _ h9 => h9) rfl dX3_undo_25 ?_
    obtain ⟨r1, hr1, h⟩ := pq_b h
    refine pw_fv (ws0 := W3 cy qa P T S nw hz ak pa wt cd ln) (ws1 := W3 cy qa r1.1 T S r1.2.1 r1.2.2 ak pa wt cd ln) (wc := WP cy (qa 1) P ++ WH cy qa S nw hz) (w1 := WP cy (qa 1) r1.1 ++ WH cy qa S r1.2.1 r1.2.2) (rest := []) (As := [.ref (qa 1 0)]) hF (kX1_restore l D cy qa _ P S nw hz r1 hr1) (cwV 1 hts (pw_gV (own := RX3) (idx := 190) (C := RX1) (y := yX1_restore) aw_621 aw_622 aw_623 aw_4 aw_624) rfl rfl rfl pX1_restore ⟨Nat.le_of_ble_eq_true rfl, Nat.le_of_ble_eq_true rfl⟩) 1 (RX1, TX1, 3) rfl rfl ⟨15, _, rfl⟩ hK hP hD hS hA (pw_s34 _ _ _ _ _) (pw_s34 _ _ _ _ _) rfl rfl hl.1 rfl (Nat.le_of_ble_eq_true rfl) dX3_undo_28 ⟨Nat.zero_le _, Nat.zero_le _⟩ (fun H locs hP hD hS => ?_)
    refine lv_aload_n hx hb dX3_undo_31 rfl (lv_at hl 0 rfl) ?_
    refine va_get (D := D) (ci := 3) (v := .ref (qa 4 0)) (C := RX3) (T := TX3) (N := 7) hx hb hts hin3 hown hK hP 0 rfl rfl 5 (by decide) (hta _ aw_129) (fun _ h9 => h9) rfl dX3_undo_32 ?_
    refine va_get (D := D) (ci := 1) (v := .int r1.2.2) (C := RX1) (T := TX1) (N := 3) hx hb hts hin1 hown hK hP 36 rfl rfl 2 (by decide) (hta _ aw_101) (fun _ h9 => h9) rfl dX3_undo_35 ?_
    obtain rfl := Sum.inr.inj (Option.some.inj h)
    subst hQ
    exact pw_ri hx hb hr hlk hAe hP hS rfl dX3_undo_38
  · have h := pq_t c1_ h
    exact nomatch h

def aX3_requireKind : List Cond := Cond.code yX3_requireKind cX3_requireKind 2 none :: pw_all
theorem pX3_requireKind : yX3_requireKind.cls = RX3 ∧ yX3_requireKind.cls ≠ "java/lang/invoke/MethodHandle" ∧ yX3_requireKind.cls ≠ "java/lang/invoke/VarHandle" ∧ (parseMethodDescriptor yX3_requireKind.desc).map (fun d => d.parameters.length) = some 2 := by decide +kernel
set_option maxHeartbeats 8000000 in
set_option maxRecDepth 100000 in
theorem kX3_requireKind (l : Launch) (D : va_G) (cy : Nat → ClassId) (sz : Nat)  (x0 : Int32) (x1 : Int32) (o : Unit) (h : fX3_requireKind x0 x1 = some (Sum.inr o)) : Met l yX3_requireKind aX3_requireKind ({ frames := 0, cells := 0, slots := 0, locals := 0 }) (pw_Pre D cy [.int x0, .int x1] ([]) sz) (pw_V D ([]) ([]) sz) 0 0 (va_A ([]) sz) := by
  refine pw_met (cc := cX3_requireKind) (maxL := 2) (ret := none) (by decide) rfl (Nat.le_of_ble_eq_true rfl) ?_
  intro p e s m args below meth c ls A hx hb hr hml hlk hts hown hAe hA hK hP hD hS hl
  have hl : lv_has ls 2 [(0, .int x0), (1, .int x1)] := hl
  generalize hQ : MQ below (pw_V D ([]) ([]) sz) args s 0 0 (va_A ([]) sz) = Q
  have hF : CallFix p m c cX3_requireKind 2 s args aX3_requireKind RX3 := ⟨hx, hb, hml, hown, hts⟩
  have hta : ∀ w ∈ pw_all, w.before args s = true := fun w h => hts w (List.mem_cons_of_mem _ h)
  unfold fX3_requireKind at h
  refine lv_iload_n hx hb dX3_requireKind_0 rfl (lv_at hl 0 rfl) ?_
  refine lv_if_lt (tgt := 9) hx hb dX3_requireKind_1 (by decide) (fun c1_ => ?_) (fun c1_ => ?_)
  · have h := pq_t c1_ h
    exact nomatch h
  · have h := pq_e c1_ h
    refine lv_iload_n hx hb dX3_requireKind_4 rfl (lv_at hl 0 rfl) ?_
    refine lv_iload_n hx hb dX3_requireKind_5 rfl (lv_at hl 1 rfl) ?_
    refine lv_icmp_lt (tgt := 20) hx hb dX3_requireKind_6 (by decide) (fun c2_ => ?_) (fun c2_ => ?_)
    · have h := pq_t c2_ h
      obtain rfl := Sum.inr.inj (Option.some.inj h)
      subst hQ
      exact pw_rv hx hb hr hlk hAe hP hS dX3_requireKind_20
    · have h := pq_e c2_ h
      exact nomatch h

def aX3_place : List Cond := Cond.code yX3_place cX3_place 3 (some .int) :: pw_all
theorem pX3_place : yX3_place.cls = RX3 ∧ yX3_place.cls ≠ "java/lang/invoke/MethodHandle" ∧ yX3_place.cls ≠ "java/lang/invoke/VarHandle" ∧ (parseMethodDescriptor yX3_place.desc).map (fun d => d.parameters.length) = some 2 := by decide +kernel
set_option maxHeartbeats 8000000 in
set_option maxRecDepth 100000 in
theorem kX3_place (l : Launch) (D : va_G) (cy : Nat → ClassId) (qa : Nat → Nat → Nat) (sz : Nat) (P : Nat → Nat → Int32) (T : Nat → Nat → Int32) (S : Nat → Nat → Nat → Int32) (nw : Int32) (hz : Int32) (ak : Nat → Int32) (pa : Nat → Int32) (wt : Nat → Int32) (cd : Nat → Int32) (ln : Int32) (x1 : Int32) (x2 : Int32) (o : Int32) (h : fX3_place x1 x2 P = some (Sum.inr o)) : Met l yX3_place aX3_place ({ frames := 2, cells := 0, slots := 0, locals := 43 }) (pw_Pre D cy [.ref (qa 0 0), .int x1, .int x2] (W3 cy qa P T S nw hz ak pa wt cd ln) sz) (pw_I D o (W3 cy qa P T S nw hz ak pa wt cd ln) (W3 cy qa P T S nw hz ak pa wt cd ln) sz) 0 0 (va_A (W3 cy qa P T S nw hz ak pa wt cd ln) sz) := by
  refine pw_met (cc := cX3_place) (maxL := 3) (ret := (some .int)) (by decide) rfl (Nat.le_of_ble_eq_true rfl) ?_
  intro p e s m args below meth c ls A hx hb hr hml hlk hts hown hAe hA hK hP hD hS hl
  have hl : lv_has ls 3 [(0, .ref (qa 0 0)), (1, .int x1), (2, .int x2)] := hl
  generalize hQ : MQ below (pw_I D o (W3 cy qa P T S nw hz ak pa wt cd ln) (W3 cy qa P T S nw hz ak pa wt cd ln) sz) args s 0 0 (va_A (W3 cy qa P T S nw hz ak pa wt cd ln) sz) = Q
  have hF : CallFix p m c cX3_place 3 s args aX3_place RX3 := ⟨hx, hb, hml, hown, hts⟩
  have hta : ∀ w ∈ pw_all, w.before args s = true := fun w h => hts w (List.mem_cons_of_mem _ h)
  have hin3 : ∀ w ∈ wsX30, w ∈ aX3_place := fun w h => List.mem_cons_of_mem _ (inA3 w h)
  have hin2 : ∀ w ∈ wsX20, w ∈ aX3_place := fun w h => List.mem_cons_of_mem _ (inA2 w h)
  have hin1 : ∀ w ∈ wsX10, w ∈ aX3_place := fun w h => List.mem_cons_of_mem _ (inA1 w h)
  have hin0 : ∀ w ∈ wsX00, w ∈ aX3_place := fun w h => List.mem_cons_of_mem _ (inA0 w h)
  unfold fX3_place at h
  refine lv_iload_n hx hb dX3_place_0 rfl (lv_at hl 1 rfl) ?_
  obtain ⟨r1, hr1, h⟩ := pq_b h
  obtain ⟨a2, rfl, h⟩ := pq_inr h
  refine pw_sv (rest := []) (As := [.int x1]) hF (kX3_requirePlace l D cy _ x1 a2 hr1) (cwS 1 hts (pw_gS (own := RX3) (idx := 66) (y := yX3_requirePlace) aw_478 aw_479 aw_1 aw_480) rfl rfl rfl pX3_requirePlace ⟨Nat.le_of_ble_eq_true rfl, Nat.le_of_ble_eq_true rfl⟩) hK hP hS hA rfl hl.1 rfl (Nat.le_of_ble_eq_true rfl) dX3_place_1 ⟨Nat.zero_le _, Nat.zero_le _⟩ (fun H locs hP hS => ?_)
  refine lv_iload_n hx hb dX3_place_4 rfl (lv_at hl 2 rfl) ?_
  refine lv_bipush (v := 6) hx hb dX3_place_5 (by decide) ?_
  obtain ⟨r3, hr3, h⟩ := pq_b h
  obtain ⟨a4, rfl, h⟩ := pq_inr h
  refine pw_sv (rest := []) (As := [.int x2, .int 6]) hF (kX3_requireKind l D cy _ x2 6 a4 hr3) (cwS 2 hts (pw_gS (own := RX3) (idx := 193) (y := yX3_requireKind) aw_273 aw_274 aw_1 aw_275) rfl rfl rfl pX3_requireKind ⟨Nat.le_of_ble_eq_true rfl, Nat.le_of_ble_eq_true rfl⟩) hK hP hS hA rfl hl.1 rfl (Nat.le_of_ble_eq_true rfl) dX3_place_7 ⟨Nat.zero_le _, Nat.zero_le _⟩ (fun H locs hP hS => ?_)
  refine lv_aload_n hx hb dX3_place_10 rfl (lv_at hl 0 rfl) ?_
  refine va_get (D := D) (ci := 3) (v := .ref (qa 1 0)) (C := RX3) (T := TX3) (N := 7) hx hb hts hin3 hown hK hP 0 rfl rfl 0 (by decide) (hta _ aw_124) (fun _ h9 => h9) rfl dX3_place_11 ?_
  refine lv_iload_n hx hb dX3_place_14 rfl (lv_at hl 1 rfl) ?_
  refine lv_iload_n hx hb dX3_place_15 rfl (lv_at hl 2 rfl) ?_
  obtain ⟨r5, hr5, h⟩ := pq_b h
  refine pw_fi (ws0 := W3 cy qa P T S nw hz ak pa wt cd ln) (ws1 := W3 cy qa P T S nw hz ak pa wt cd ln) (wc := WP cy (qa 1) P) (w1 := WP cy (qa 1) P) (rest := []) (As := [.int x1, .int x2]) hF (kX2_placeProperty l D cy (qa 1) _ P x1 x2 r5 hr5) (cwV 2 hts (pw_gV (own := RX3) (idx := 197) (C := RX2) (y := yX2_placeProperty) aw_355 aw_356 aw_357 aw_2 aw_358) rfl rfl rfl pX2_placeProperty ⟨Nat.le_of_ble_eq_true rfl, Nat.le_of_ble_eq_true rfl⟩) 2 (RX2, TX2, 16) rfl rfl ⟨0, _, rfl⟩ hK hP hD hS hA (pw_s3 _ _ _ _ _) (pw_s3 _ _ _ _ _) rfl rfl hl.1 rfl (Nat.le_of_ble_eq_true rfl) dX3_place_16 ⟨Nat.zero_le _, Nat.zero_le _⟩ (fun H locs hP hD hS => ?_)
  obtain rfl := Sum.inr.inj (Option.some.inj h)
  subst hQ
  exact pw_ri hx hb hr hlk hAe hP hS rfl dX3_place_19

def aX3_owner : List Cond := Cond.code yX3_owner cX3_owner 3 (some .int) :: pw_all
theorem pX3_owner : yX3_owner.cls = RX3 ∧ yX3_owner.cls ≠ "java/lang/invoke/MethodHandle" ∧ yX3_owner.cls ≠ "java/lang/invoke/VarHandle" ∧ (parseMethodDescriptor yX3_owner.desc).map (fun d => d.parameters.length) = some 2 := by decide +kernel
set_option maxHeartbeats 8000000 in
set_option maxRecDepth 100000 in
theorem kX3_owner (l : Launch) (D : va_G) (cy : Nat → ClassId) (qa : Nat → Nat → Nat) (sz : Nat) (P : Nat → Nat → Int32) (T : Nat → Nat → Int32) (S : Nat → Nat → Nat → Int32) (nw : Int32) (hz : Int32) (ak : Nat → Int32) (pa : Nat → Int32) (wt : Nat → Int32) (cd : Nat → Int32) (ln : Int32) (x1 : Int32) (x2 : Int32) (o : Int32) (h : fX3_owner x1 x2 P = some (Sum.inr o)) : Met l yX3_owner aX3_owner ({ frames := 3, cells := 0, slots := 0, locals := 65 }) (pw_Pre D cy [.ref (qa 0 0), .int x1, .int x2] (W3 cy qa P T S nw hz ak pa wt cd ln) sz) (pw_I D o (W3 cy qa P T S nw hz ak pa wt cd ln) (W3 cy qa P T S nw hz ak pa wt cd ln) sz) 0 0 (va_A (W3 cy qa P T S nw hz ak pa wt cd ln) sz) := by
  refine pw_met (cc := cX3_owner) (maxL := 3) (ret := (some .int)) (by decide) rfl (Nat.le_of_ble_eq_true rfl) ?_
  intro p e s m args below meth c ls A hx hb hr hml hlk hts hown hAe hA hK hP hD hS hl
  have hl : lv_has ls 3 [(0, .ref (qa 0 0)), (1, .int x1), (2, .int x2)] := hl
  generalize hQ : MQ below (pw_I D o (W3 cy qa P T S nw hz ak pa wt cd ln) (W3 cy qa P T S nw hz ak pa wt cd ln) sz) args s 0 0 (va_A (W3 cy qa P T S nw hz ak pa wt cd ln) sz) = Q
  have hF : CallFix p m c cX3_owner 3 s args aX3_owner RX3 := ⟨hx, hb, hml, hown, hts⟩
  have hta : ∀ w ∈ pw_all, w.before args s = true := fun w h => hts w (List.mem_cons_of_mem _ h)
  have hin3 : ∀ w ∈ wsX30, w ∈ aX3_owner := fun w h => List.mem_cons_of_mem _ (inA3 w h)
  have hin2 : ∀ w ∈ wsX20, w ∈ aX3_owner := fun w h => List.mem_cons_of_mem _ (inA2 w h)
  have hin1 : ∀ w ∈ wsX10, w ∈ aX3_owner := fun w h => List.mem_cons_of_mem _ (inA1 w h)
  have hin0 : ∀ w ∈ wsX00, w ∈ aX3_owner := fun w h => List.mem_cons_of_mem _ (inA0 w h)
  unfold fX3_owner at h
  refine lv_iload_n hx hb dX3_owner_0 rfl (lv_at hl 1 rfl) ?_
  obtain ⟨r1, hr1, h⟩ := pq_b h
  obtain ⟨a2, rfl, h⟩ := pq_inr h
  refine pw_sv (rest := []) (As := [.int x1]) hF (kX3_requireOwner l D cy _ x1 a2 hr1) (cwS 1 hts (pw_gS (own := RX3) (idx := 43) (y := yX3_requireOwner) aw_436 aw_437 aw_1 aw_438) rfl rfl rfl pX3_requireOwner ⟨Nat.le_of_ble_eq_true rfl, Nat.le_of_ble_eq_true rfl⟩) hK hP hS hA rfl hl.1 rfl (Nat.le_of_ble_eq_true rfl) dX3_owner_1 ⟨Nat.zero_le _, Nat.zero_le _⟩ (fun H locs hP hS => ?_)
  refine lv_iload_n hx hb dX3_owner_4 rfl (lv_at hl 2 rfl) ?_
  refine lv_bipush (v := 7) hx hb dX3_owner_5 (by decide) ?_
  obtain ⟨r3, hr3, h⟩ := pq_b h
  obtain ⟨a4, rfl, h⟩ := pq_inr h
  refine pw_sv (rest := []) (As := [.int x2, .int 7]) hF (kX3_requireKind l D cy _ x2 7 a4 hr3) (cwS 2 hts (pw_gS (own := RX3) (idx := 193) (y := yX3_requireKind) aw_273 aw_274 aw_1 aw_275) rfl rfl rfl pX3_requireKind ⟨Nat.le_of_ble_eq_true rfl, Nat.le_of_ble_eq_true rfl⟩) hK hP hS hA rfl hl.1 rfl (Nat.le_of_ble_eq_true rfl) dX3_owner_7 ⟨Nat.zero_le _, Nat.zero_le _⟩ (fun H locs hP hS => ?_)
  refine lv_aload_n hx hb dX3_owner_10 rfl (lv_at hl 0 rfl) ?_
  refine va_get (D := D) (ci := 3) (v := .ref (qa 1 0)) (C := RX3) (T := TX3) (N := 7) hx hb hts hin3 hown hK hP 0 rfl rfl 0 (by decide) (hta _ aw_124) (fun _ h9 => h9) rfl dX3_owner_11 ?_
  refine lv_iload_n hx hb dX3_owner_14 rfl (lv_at hl 1 rfl) ?_
  refine lv_iload_n hx hb dX3_owner_15 rfl (lv_at hl 2 rfl) ?_
  obtain ⟨r5, hr5, h⟩ := pq_b h
  refine pw_fi (ws0 := W3 cy qa P T S nw hz ak pa wt cd ln) (ws1 := W3 cy qa P T S nw hz ak pa wt cd ln) (wc := WP cy (qa 1) P) (w1 := WP cy (qa 1) P) (rest := []) (As := [.int x1, .int x2]) hF (kX2_ownerProperty l D cy (qa 1) _ P x1 x2 r5 hr5) (cwV 2 hts (pw_gV (own := RX3) (idx := 200) (C := RX2) (y := yX2_ownerProperty) aw_386 aw_387 aw_388 aw_2 aw_389) rfl rfl rfl pX2_ownerProperty ⟨Nat.le_of_ble_eq_true rfl, Nat.le_of_ble_eq_true rfl⟩) 2 (RX2, TX2, 16) rfl rfl ⟨0, _, rfl⟩ hK hP hD hS hA (pw_s3 _ _ _ _ _) (pw_s3 _ _ _ _ _) rfl rfl hl.1 rfl (Nat.le_of_ble_eq_true rfl) dX3_owner_16 ⟨Nat.zero_le _, Nat.zero_le _⟩ (fun H locs hP hD hS => ?_)
  obtain rfl := Sum.inr.inj (Option.some.inj h)
  subst hQ
  exact pw_ri hx hb hr hlk hAe hP hS rfl dX3_owner_19

def aX3_count : List Cond := Cond.code yX3_count cX3_count 2 (some .int) :: pw_all
theorem pX3_count : yX3_count.cls = RX3 ∧ yX3_count.cls ≠ "java/lang/invoke/MethodHandle" ∧ yX3_count.cls ≠ "java/lang/invoke/VarHandle" ∧ (parseMethodDescriptor yX3_count.desc).map (fun d => d.parameters.length) = some 1 := by decide +kernel
set_option maxHeartbeats 8000000 in
set_option maxRecDepth 100000 in
theorem kX3_count (l : Launch) (D : va_G) (cy : Nat → ClassId) (qa : Nat → Nat → Nat) (sz : Nat) (P : Nat → Nat → Int32) (T : Nat → Nat → Int32) (S : Nat → Nat → Nat → Int32) (nw : Int32) (hz : Int32) (ak : Nat → Int32) (pa : Nat → Int32) (wt : Nat → Int32) (cd : Nat → Int32) (ln : Int32) (x1 : Int32) (o : Int32) (h : fX3_count x1 P hz = some (Sum.inr o)) : Met l yX3_count aX3_count ({ frames := 3, cells := 0, slots := 0, locals := 65 }) (pw_Pre D cy [.ref (qa 0 0), .int x1] (W3 cy qa P T S nw hz ak pa wt cd ln) sz) (pw_I D o (W3 cy qa P T S nw hz ak pa wt cd ln) (W3 cy qa P T S nw hz ak pa wt cd ln) sz) 0 0 (va_A (W3 cy qa P T S nw hz ak pa wt cd ln) sz) := by
  refine pw_met (cc := cX3_count) (maxL := 2) (ret := (some .int)) (by decide) rfl (Nat.le_of_ble_eq_true rfl) ?_
  intro p e s m args below meth c ls A hx hb hr hml hlk hts hown hAe hA hK hP hD hS hl
  have hl : lv_has ls 2 [(0, .ref (qa 0 0)), (1, .int x1)] := hl
  generalize hQ : MQ below (pw_I D o (W3 cy qa P T S nw hz ak pa wt cd ln) (W3 cy qa P T S nw hz ak pa wt cd ln) sz) args s 0 0 (va_A (W3 cy qa P T S nw hz ak pa wt cd ln) sz) = Q
  have hF : CallFix p m c cX3_count 2 s args aX3_count RX3 := ⟨hx, hb, hml, hown, hts⟩
  have hta : ∀ w ∈ pw_all, w.before args s = true := fun w h => hts w (List.mem_cons_of_mem _ h)
  have hin3 : ∀ w ∈ wsX30, w ∈ aX3_count := fun w h => List.mem_cons_of_mem _ (inA3 w h)
  have hin2 : ∀ w ∈ wsX20, w ∈ aX3_count := fun w h => List.mem_cons_of_mem _ (inA2 w h)
  have hin1 : ∀ w ∈ wsX10, w ∈ aX3_count := fun w h => List.mem_cons_of_mem _ (inA1 w h)
  have hin0 : ∀ w ∈ wsX00, w ∈ aX3_count := fun w h => List.mem_cons_of_mem _ (inA0 w h)
  unfold fX3_count at h
  refine lv_iload_n hx hb dX3_count_0 rfl (lv_at hl 1 rfl) ?_
  refine lv_bipush (v := 14) hx hb dX3_count_1 (by decide) ?_
  obtain ⟨r1, hr1, h⟩ := pq_b h
  obtain ⟨a2, rfl, h⟩ := pq_inr h
  refine pw_sv (rest := []) (As := [.int x1, .int 14]) hF (kX3_requireKind l D cy _ x1 14 a2 hr1) (cwS 2 hts (pw_gS (own := RX3) (idx := 193) (y := yX3_requireKind) aw_273 aw_274 aw_1 aw_275) rfl rfl rfl pX3_requireKind ⟨Nat.le_of_ble_eq_true rfl, Nat.le_of_ble_eq_true rfl⟩) hK hP hS hA rfl hl.1 rfl (Nat.le_of_ble_eq_true rfl) dX3_count_3 ⟨Nat.zero_le _, Nat.zero_le _⟩ (fun H locs hP hS => ?_)
  refine lv_iload_n hx hb dX3_count_6 rfl (lv_at hl 1 rfl) ?_
  refine lv_bipush (v := 13) hx hb dX3_count_7 (by decide) ?_
  refine lv_icmp_ne (tgt := 22) hx hb dX3_count_9 (by decide) (fun c1_ => ?_) (fun c1_ => ?_)
  · have h := pq_e c1_ h
    refine lv_aload_n hx hb dX3_count_22 rfl (lv_at hl 0 rfl) ?_
    refine va_get (D := D) (ci := 3) (v := .ref (qa 1 0)) (C := RX3) (T := TX3) (N := 7) hx hb hts hin3 hown hK hP 0 rfl rfl 0 (by decide) (hta _ aw_124) (fun _ h9 => h9) rfl dX3_count_23 ?_
    refine lv_iload_n hx hb dX3_count_26 rfl (lv_at hl 1 rfl) ?_
    obtain ⟨r3, hr3, h⟩ := pq_b h
    refine pw_fi (ws0 := W3 cy qa P T S nw hz ak pa wt cd ln) (ws1 := W3 cy qa P T S nw hz ak pa wt cd ln) (wc := WP cy (qa 1) P) (w1 := WP cy (qa 1) P) (rest := []) (As := [.int x1]) hF (kX2_number l D cy (qa 1) _ P x1 r3 hr3) (cwV 1 hts (pw_gV (own := RX3) (idx := 203) (C := RX2) (y := yX2_number) aw_344 aw_345 aw_346 aw_2 aw_347) rfl rfl rfl pX2_number ⟨Nat.le_of_ble_eq_true rfl, Nat.le_of_ble_eq_true rfl⟩) 2 (RX2, TX2, 16) rfl rfl ⟨0, _, rfl⟩ hK hP hD hS hA (pw_s3 _ _ _ _ _) (pw_s3 _ _ _ _ _) rfl rfl hl.1 rfl (Nat.le_of_ble_eq_true rfl) dX3_count_27 ⟨Nat.zero_le _, Nat.zero_le _⟩ (fun H locs hP hD hS => ?_)
    obtain rfl := Sum.inr.inj (Option.some.inj h)
    subst hQ
    exact pw_ri hx hb hr hlk hAe hP hS rfl dX3_count_30
  · have h := pq_t c1_ h
    refine lv_aload_n hx hb dX3_count_12 rfl (lv_at hl 0 rfl) ?_
    refine va_get (D := D) (ci := 3) (v := .ref (qa 4 0)) (C := RX3) (T := TX3) (N := 7) hx hb hts hin3 hown hK hP 0 rfl rfl 5 (by decide) (hta _ aw_129) (fun _ h9 => h9) rfl dX3_count_13 ?_
    refine va_get (D := D) (ci := 1) (v := .int hz) (C := RX1) (T := TX1) (N := 3) hx hb hts hin1 hown hK hP 36 rfl rfl 2 (by decide) (hta _ aw_101) (fun _ h9 => h9) rfl dX3_count_16 ?_
    refine lv_goto (tgt := 30) hx hb dX3_count_19 (by decide) ?_
    obtain rfl := Sum.inr.inj (Option.some.inj h)
    subst hQ
    exact pw_ri hx hb hr hlk hAe hP hS rfl dX3_count_30

def aX3_setting : List Cond := Cond.code yX3_setting cX3_setting 2 (some .int) :: pw_all
theorem pX3_setting : yX3_setting.cls = RX3 ∧ yX3_setting.cls ≠ "java/lang/invoke/MethodHandle" ∧ yX3_setting.cls ≠ "java/lang/invoke/VarHandle" ∧ (parseMethodDescriptor yX3_setting.desc).map (fun d => d.parameters.length) = some 1 := by decide +kernel
set_option maxHeartbeats 8000000 in
set_option maxRecDepth 100000 in
theorem kX3_setting (l : Launch) (D : va_G) (cy : Nat → ClassId) (qa : Nat → Nat → Nat) (sz : Nat) (P : Nat → Nat → Int32) (T : Nat → Nat → Int32) (S : Nat → Nat → Nat → Int32) (nw : Int32) (hz : Int32) (ak : Nat → Int32) (pa : Nat → Int32) (wt : Nat → Int32) (cd : Nat → Int32) (ln : Int32) (x1 : Int32) (o : Int32) (h : fX3_setting x1 P = some (Sum.inr o)) : Met l yX3_setting aX3_setting ({ frames := 1, cells := 0, slots := 0, locals := 20 }) (pw_Pre D cy [.ref (qa 0 0), .int x1] (W3 cy qa P T S nw hz ak pa wt cd ln) sz) (pw_I D o (W3 cy qa P T S nw hz ak pa wt cd ln) (W3 cy qa P T S nw hz ak pa wt cd ln) sz) 0 0 (va_A (W3 cy qa P T S nw hz ak pa wt cd ln) sz) := by
  refine pw_met (cc := cX3_setting) (maxL := 2) (ret := (some .int)) (by decide) rfl (Nat.le_of_ble_eq_true rfl) ?_
  intro p e s m args below meth c ls A hx hb hr hml hlk hts hown hAe hA hK hP hD hS hl
  have hl : lv_has ls 2 [(0, .ref (qa 0 0)), (1, .int x1)] := hl
  generalize hQ : MQ below (pw_I D o (W3 cy qa P T S nw hz ak pa wt cd ln) (W3 cy qa P T S nw hz ak pa wt cd ln) sz) args s 0 0 (va_A (W3 cy qa P T S nw hz ak pa wt cd ln) sz) = Q
  have hF : CallFix p m c cX3_setting 2 s args aX3_setting RX3 := ⟨hx, hb, hml, hown, hts⟩
  have hta : ∀ w ∈ pw_all, w.before args s = true := fun w h => hts w (List.mem_cons_of_mem _ h)
  have hin3 : ∀ w ∈ wsX30, w ∈ aX3_setting := fun w h => List.mem_cons_of_mem _ (inA3 w h)
  have hin2 : ∀ w ∈ wsX20, w ∈ aX3_setting := fun w h => List.mem_cons_of_mem _ (inA2 w h)
  have hin1 : ∀ w ∈ wsX10, w ∈ aX3_setting := fun w h => List.mem_cons_of_mem _ (inA1 w h)
  have hin0 : ∀ w ∈ wsX00, w ∈ aX3_setting := fun w h => List.mem_cons_of_mem _ (inA0 w h)
  unfold fX3_setting at h
  refine lv_iload_n hx hb dX3_setting_0 rfl (lv_at hl 1 rfl) ?_
  obtain ⟨r1, hr1, h⟩ := pq_b h
  obtain ⟨a2, rfl, h⟩ := pq_inr h
  refine pw_sv (rest := []) (As := [.int x1]) hF (kX3_requireSetting l D cy _ x1 a2 hr1) (cwS 1 hts (pw_gS (own := RX3) (idx := 121) (y := yX3_requireSetting) aw_540 aw_541 aw_1 aw_542) rfl rfl rfl pX3_requireSetting ⟨Nat.le_of_ble_eq_true rfl, Nat.le_of_ble_eq_true rfl⟩) hK hP hS hA rfl hl.1 rfl (Nat.le_of_ble_eq_true rfl) dX3_setting_1 ⟨Nat.zero_le _, Nat.zero_le _⟩ (fun H locs hP hS => ?_)
  refine lv_aload_n hx hb dX3_setting_4 rfl (lv_at hl 0 rfl) ?_
  refine va_get (D := D) (ci := 3) (v := .ref (qa 1 0)) (C := RX3) (T := TX3) (N := 7) hx hb hts hin3 hown hK hP 0 rfl rfl 0 (by decide) (hta _ aw_124) (fun _ h9 => h9) rfl dX3_setting_5 ?_
  refine va_get (D := D) (ci := 2) (v := .ref (qa 1 1)) (C := RX2) (T := TX2) (N := 16) hx hb hts hin2 hown hK hP 21 rfl rfl 1 (by decide) (hta _ aw_35) (fun _ h9 => h9) rfl dX3_setting_8 ?_
  refine lv_iload_n hx hb dX3_setting_11 rfl (lv_at hl 1 rfl) ?_
  obtain ⟨hg, h⟩ := pq_g h
  refine va_iald hx hb hK hP 22 0 rfl rfl (pq_vp hg) dX3_setting_12 ?_
  obtain rfl := Sum.inr.inj (Option.some.inj h)
  subst hQ
  exact pw_ri hx hb hr hlk hAe hP hS rfl dX3_setting_13

def aX3_tryAsking : List Cond := Cond.code yX3_tryAsking cX3_tryAsking 3 none :: pw_all
theorem pX3_tryAsking : yX3_tryAsking.cls = RX3 ∧ yX3_tryAsking.cls ≠ "java/lang/invoke/MethodHandle" ∧ yX3_tryAsking.cls ≠ "java/lang/invoke/VarHandle" ∧ (parseMethodDescriptor yX3_tryAsking.desc).map (fun d => d.parameters.length) = some 1 := by decide +kernel
set_option maxHeartbeats 8000000 in
set_option maxRecDepth 100000 in
theorem kX3_tryAsking (l : Launch) (D : va_G) (cy : Nat → ClassId) (qa : Nat → Nat → Nat) (sz : Nat) (P : Nat → Nat → Int32) (T : Nat → Nat → Int32) (S : Nat → Nat → Nat → Int32) (nw : Int32) (hz : Int32) (ak : Nat → Int32) (pa : Nat → Int32) (wt : Nat → Int32) (cd : Nat → Int32) (ln : Int32) (x1 : Int32) (o : (Nat → Nat → Int32) × (Nat → Int32)) (h : fX3_tryAsking x1 P T ak = some o) : Met l yX3_tryAsking aX3_tryAsking ({ frames := 5, cells := 0, slots := 0, locals := 113 }) (pw_Pre D cy [.ref (qa 0 0), .int x1] (W3 cy qa P T S nw hz ak pa wt cd ln) sz) (pw_V D (W3 cy qa P T S nw hz ak pa wt cd ln) (W3 cy qa P o.1 S nw hz o.2 pa wt cd ln) sz) 0 0 (va_A (W3 cy qa P T S nw hz ak pa wt cd ln) sz) := by
  refine pw_met (cc := cX3_tryAsking) (maxL := 3) (ret := none) (by decide) rfl (Nat.le_of_ble_eq_true rfl) ?_
  intro p e s m args below meth c ls A hx hb hr hml hlk hts hown hAe hA hK hP hD hS hl
  have hl : lv_has ls 3 [(0, .ref (qa 0 0)), (1, .int x1)] := hl
  generalize hQ : MQ below (pw_V D (W3 cy qa P T S nw hz ak pa wt cd ln) (W3 cy qa P o.1 S nw hz o.2 pa wt cd ln) sz) args s 0 0 (va_A (W3 cy qa P T S nw hz ak pa wt cd ln) sz) = Q
  have hF : CallFix p m c cX3_tryAsking 3 s args aX3_tryAsking RX3 := ⟨hx, hb, hml, hown, hts⟩
  have hta : ∀ w ∈ pw_all, w.before args s = true := fun w h => hts w (List.mem_cons_of_mem _ h)
  have hin3 : ∀ w ∈ wsX30, w ∈ aX3_tryAsking := fun w h => List.mem_cons_of_mem _ (inA3 w h)
  have hin2 : ∀ w ∈ wsX20, w ∈ aX3_tryAsking := fun w h => List.mem_cons_of_mem _ (inA2 w h)
  have hin1 : ∀ w ∈ wsX10, w ∈ aX3_tryAsking := fun w h => List.mem_cons_of_mem _ (inA1 w h)
  have hin0 : ∀ w ∈ wsX00, w ∈ aX3_tryAsking := fun w h => List.mem_cons_of_mem _ (inA0 w h)
  unfold fX3_tryAsking at h
  refine lv_aload_n hx hb dX3_tryAsking_0 rfl (lv_at hl 0 rfl) ?_
  refine va_get (D := D) (ci := 3) (v := .ref (qa 0 1)) (C := RX3) (T := TX3) (N := 7) hx hb hts hin3 hown hK hP 0 rfl rfl 2 (by decide) (hta _ aw_126) (fun _ h9 => h9) rfl dX3_tryAsking_1 ?_
  refine lv_iconst (v := 0) hx hb dX3_tryAsking_4 (by decide) ?_
  refine lv_iconst (v := (-1)) hx hb dX3_tryAsking_5 (by decide) ?_
  refine va_iast hx hb hK hP hD hS 1 0 rfl rfl (pq_vp (by decide +kernel)) dX3_tryAsking_6 (fun H locs hP hD hS => ?_)
  have hP : va_P D vwCl (W3 cy qa P T S nw hz (upd ak (0 : Int32).toNatClampNeg (-1)) pa wt cd ln) H := hP
  have hD : va_D A (W3 cy qa P T S nw hz (upd ak (0 : Int32).toNatClampNeg (-1)) pa wt cd ln) := hD
  refine lv_aload_n hx hb dX3_tryAsking_7 rfl (lv_at hl 0 rfl) ?_
  refine va_get (D := D) (ci := 3) (v := .ref (qa 0 1)) (C := RX3) (T := TX3) (N := 7) hx hb hts hin3 hown hK hP 0 rfl rfl 2 (by decide) (hta _ aw_126) (fun _ h9 => h9) rfl dX3_tryAsking_8 ?_
  refine lv_iconst (v := 1) hx hb dX3_tryAsking_11 (by decide) ?_
  refine lv_iconst (v := 0) hx hb dX3_tryAsking_12 (by decide) ?_
  refine va_iast hx hb hK hP hD hS 1 0 rfl rfl (pq_vp (by decide +kernel)) dX3_tryAsking_13 (fun H locs hP hD hS => ?_)
  have hP : va_P D vwCl (W3 cy qa P T S nw hz (upd (upd ak (0 : Int32).toNatClampNeg (-1)) (1 : Int32).toNatClampNeg 0) pa wt cd ln) H := hP
  have hD : va_D A (W3 cy qa P T S nw hz (upd (upd ak (0 : Int32).toNatClampNeg (-1)) (1 : Int32).toNatClampNeg 0) pa wt cd ln) := hD
  refine lv_aload_n hx hb dX3_tryAsking_14 rfl (lv_at hl 0 rfl) ?_
  refine va_get (D := D) (ci := 3) (v := .ref (qa 0 1)) (C := RX3) (T := TX3) (N := 7) hx hb hts hin3 hown hK hP 0 rfl rfl 2 (by decide) (hta _ aw_126) (fun _ h9 => h9) rfl dX3_tryAsking_15 ?_
  refine lv_iconst (v := 2) hx hb dX3_tryAsking_18 (by decide) ?_
  refine lv_iconst (v := 0) hx hb dX3_tryAsking_19 (by decide) ?_
  refine va_iast hx hb hK hP hD hS 1 0 rfl rfl (pq_vp (by decide +kernel)) dX3_tryAsking_20 (fun H locs hP hD hS => ?_)
  have hP : va_P D vwCl (W3 cy qa P T S nw hz (upd (upd (upd ak (0 : Int32).toNatClampNeg (-1)) (1 : Int32).toNatClampNeg 0) (2 : Int32).toNatClampNeg 0) pa wt cd ln) H := hP
  have hD : va_D A (W3 cy qa P T S nw hz (upd (upd (upd ak (0 : Int32).toNatClampNeg (-1)) (1 : Int32).toNatClampNeg 0) (2 : Int32).toNatClampNeg 0) pa wt cd ln) := hD
  refine lv_aload_n hx hb dX3_tryAsking_21 rfl (lv_at hl 0 rfl) ?_
  refine va_get (D := D) (ci := 3) (v := .ref (qa 1 0)) (C := RX3) (T := TX3) (N := 7) hx hb hts hin3 hown hK hP 0 rfl rfl 0 (by decide) (hta _ aw_124) (fun _ h9 => h9) rfl dX3_tryAsking_22 ?_
  refine lv_iload_n hx hb dX3_tryAsking_25 rfl (lv_at hl 1 rfl) ?_
  obtain ⟨r1, hr1, h⟩ := pq_b h
  refine pw_fi (ws0 := W3 cy qa P T S nw hz (upd (upd (upd ak (0 : Int32).toNatClampNeg (-1)) (1 : Int32).toNatClampNeg 0) (2 : Int32).toNatClampNeg 0) pa wt cd ln) (ws1 := W3 cy qa P T S nw hz (upd (upd (upd ak (0 : Int32).toNatClampNeg (-1)) (1 : Int32).toNatClampNeg 0) (2 : Int32).toNatClampNeg 0) pa wt cd ln) (wc := WP cy (qa 1) P) (w1 := WP cy (qa 1) P) (rest := []) (As := [.int x1]) hF (kX2_canRequest l D cy (qa 1) _ P x1 r1 hr1) (cwV 1 hts (pw_gV (own := RX3) (idx := 47) (C := RX2) (y := yX2_canRequest) aw_406 aw_407 aw_408 aw_2 aw_409) rfl rfl rfl pX2_canRequest ⟨Nat.le_of_ble_eq_true rfl, Nat.le_of_ble_eq_true rfl⟩) 2 (RX2, TX2, 16) rfl rfl ⟨0, _, rfl⟩ hK hP hD hS hA (pw_s3 _ _ _ _ _) (pw_s3 _ _ _ _ _) rfl rfl hl.1 rfl (Nat.le_of_ble_eq_true rfl) dX3_tryAsking_26 ⟨Nat.zero_le _, Nat.zero_le _⟩ (fun H locs hP hD hS => ?_)
  refine lv_if_ne (tgt := 33) hx hb dX3_tryAsking_29 (by decide) (fun c1_ => ?_) (fun c1_ => ?_)
  · have h := pq_e c1_ h
    refine lv_aload_n hx hb dX3_tryAsking_33 rfl (lv_at hl 0 rfl) ?_
    refine va_get (D := D) (ci := 3) (v := .ref (qa 2 0)) (C := RX3) (T := TX3) (N := 7) hx hb hts hin3 hown hK hP 0 rfl rfl 1 (by decide) (hta _ aw_125) (fun _ h9 => h9) rfl dX3_tryAsking_34 ?_
    refine lv_aload_n hx hb dX3_tryAsking_37 rfl (lv_at hl 0 rfl) ?_
    refine va_get (D := D) (ci := 3) (v := .ref (qa 1 0)) (C := RX3) (T := TX3) (N := 7) hx hb hts hin3 hown hK hP 0 rfl rfl 0 (by decide) (hta _ aw_124) (fun _ h9 => h9) rfl dX3_tryAsking_38 ?_
    obtain ⟨r2, hr2, h⟩ := pq_b h
    refine pw_fv (ws0 := W3 cy qa P T S nw hz (upd (upd (upd ak (0 : Int32).toNatClampNeg (-1)) (1 : Int32).toNatClampNeg 0) (2 : Int32).toNatClampNeg 0) pa wt cd ln) (ws1 := W3 cy qa P r2 S nw hz (upd (upd (upd ak (0 : Int32).toNatClampNeg (-1)) (1 : Int32).toNatClampNeg 0) (2 : Int32).toNatClampNeg 0) pa wt cd ln) (wc := WP cy (qa 2) T ++ WP cy (qa 1) P) (w1 := WP cy (qa 2) r2 ++ WP cy (qa 1) P) (rest := []) (As := [.ref (qa 1 0)]) hF (kX2_copyFrom l D cy (qa 2) (qa 1) _ T P r2 hr2) (cwV 1 hts (pw_gV (own := RX3) (idx := 273) (C := RX2) (y := yX2_copyFrom) aw_367 aw_155 aw_156 aw_2 aw_157) rfl rfl rfl pX2_copyFrom ⟨Nat.le_of_ble_eq_true rfl, Nat.le_of_ble_eq_true rfl⟩) 2 (RX2, TX2, 16) rfl rfl ⟨0, _, rfl⟩ hK hP hD hS hA (pw_s23 _ _ _ _ _) (pw_s23 _ _ _ _ _) rfl rfl hl.1 rfl (Nat.le_of_ble_eq_true rfl) dX3_tryAsking_41 ⟨Nat.zero_le _, Nat.zero_le _⟩ (fun H locs hP hD hS => ?_)
    refine lv_aload_n hx hb dX3_tryAsking_44 rfl (lv_at hl 0 rfl) ?_
    refine va_get (D := D) (ci := 3) (v := .ref (qa 2 0)) (C := RX3) (T := TX3) (N := 7) hx hb hts hin3 hown hK hP 0 rfl rfl 1 (by decide) (hta _ aw_125) (fun _ h9 => h9) rfl dX3_tryAsking_45 ?_
    refine lv_iload_n hx hb dX3_tryAsking_48 rfl (lv_at hl 1 rfl) ?_
    obtain ⟨r3, hr3, h⟩ := pq_b h
    refine pw_fi (ws0 := W3 cy qa P r2 S nw hz (upd (upd (upd ak (0 : Int32).toNatClampNeg (-1)) (1 : Int32).toNatClampNeg 0) (2 : Int32).toNatClampNeg 0) pa wt cd ln) (ws1 := W3 cy qa P r3.2 S nw hz (upd (upd (upd ak (0 : Int32).toNatClampNeg (-1)) (1 : Int32).toNatClampNeg 0) (2 : Int32).toNatClampNeg 0) pa wt cd ln) (wc := WP cy (qa 2) r2) (w1 := WP cy (qa 2) r3.2) (rest := []) (As := [.int x1]) hF (kX2_request l D cy (qa 2) _ r2 x1 r3 hr3) (cwV 1 hts (pw_gV (own := RX3) (idx := 62) (C := RX2) (y := yX2_request) aw_410 aw_411 aw_412 aw_2 aw_413) rfl rfl rfl pX2_request ⟨Nat.le_of_ble_eq_true rfl, Nat.le_of_ble_eq_true rfl⟩) 2 (RX2, TX2, 16) rfl rfl ⟨0, _, rfl⟩ hK hP hD hS hA (pw_s2 _ _ _ _) (pw_s2 _ _ _ _) rfl rfl hl.1 rfl (Nat.le_of_ble_eq_true rfl) dX3_tryAsking_49 ⟨Nat.zero_le _, Nat.zero_le _⟩ (fun H locs hP hD hS => ?_)
    refine lv_istore_n (lv' := [(2, .int r3.1), (0, .ref (qa 0 0)), (1, .int x1)]) hx hb dX3_tryAsking_52 rfl hl (by decide) rfl (fun ls hl => ?_)
    refine lv_aload_n hx hb dX3_tryAsking_53 rfl (lv_at hl 1 rfl) ?_
    refine va_get (D := D) (ci := 3) (v := .ref (qa 0 1)) (C := RX3) (T := TX3) (N := 7) hx hb hts hin3 hown hK hP 0 rfl rfl 2 (by decide) (hta _ aw_126) (fun _ h9 => h9) rfl dX3_tryAsking_54 ?_
    refine lv_iconst (v := 0) hx hb dX3_tryAsking_57 (by decide) ?_
    refine lv_iload_n hx hb dX3_tryAsking_58 rfl (lv_at hl 0 rfl) ?_
    refine va_iast hx hb hK hP hD hS 1 0 rfl rfl (pq_vp (by decide +kernel)) dX3_tryAsking_59 (fun H locs hP hD hS => ?_)
    have hP : va_P D vwCl (W3 cy qa P r3.2 S nw hz (upd (upd (upd (upd ak (0 : Int32).toNatClampNeg (-1)) (1 : Int32).toNatClampNeg 0) (2 : Int32).toNatClampNeg 0) (0 : Int32).toNatClampNeg r3.1) pa wt cd ln) H := hP
    have hD : va_D A (W3 cy qa P r3.2 S nw hz (upd (upd (upd (upd ak (0 : Int32).toNatClampNeg (-1)) (1 : Int32).toNatClampNeg 0) (2 : Int32).toNatClampNeg 0) (0 : Int32).toNatClampNeg r3.1) pa wt cd ln) := hD
    refine lv_aload_n hx hb dX3_tryAsking_60 rfl (lv_at hl 1 rfl) ?_
    refine va_get (D := D) (ci := 3) (v := .ref (qa 0 1)) (C := RX3) (T := TX3) (N := 7) hx hb hts hin3 hown hK hP 0 rfl rfl 2 (by decide) (hta _ aw_126) (fun _ h9 => h9) rfl dX3_tryAsking_61 ?_
    refine lv_iconst (v := 1) hx hb dX3_tryAsking_64 (by decide) ?_
    refine lv_iload_n hx hb dX3_tryAsking_65 rfl (lv_at hl 0 rfl) ?_
    refine lv_iconst (v := (-1)) hx hb dX3_tryAsking_66 (by decide) ?_
    obtain ⟨v4, hv4, h⟩ := pq_b h
    have J96_v4 : ∀ (H : Heap) (locs : List Loc) (ls : Array Slot), va_P D vwCl (W3 cy qa P r3.2 S nw hz (upd (upd (upd (upd ak (0 : Int32).toNatClampNeg (-1)) (1 : Int32).toNatClampNeg 0) (2 : Int32).toNatClampNeg 0) (0 : Int32).toNatClampNeg r3.1) pa wt cd ln) H → va_D A (W3 cy qa P r3.2 S nw hz (upd (upd (upd (upd ak (0 : Int32).toNatClampNeg (-1)) (1 : Int32).toNatClampNeg 0) (2 : Int32).toNatClampNeg 0) (0 : Int32).toNatClampNeg r3.1) pa wt cd ln) → va_S A s.heap H locs → lv_has ls 3 [(0, .ref (qa 0 0))] → W p l e ({ frames := 5, cells := 0, slots := 0, locals := 113 } : Room) s m args below meth c H locs 0 0 Q (F0 m 96 ls [.int v4, .int 1, .ref (qa 0 1)]) := by
      intro H locs ls hP hD hS hl
      refine va_iast hx hb hK hP hD hS 1 0 rfl rfl (pq_vp (by decide +kernel)) dX3_tryAsking_96 (fun H locs hP hD hS => ?_)
      have hP : va_P D vwCl (W3 cy qa P r3.2 S nw hz (upd (upd (upd (upd (upd ak (0 : Int32).toNatClampNeg (-1)) (1 : Int32).toNatClampNeg 0) (2 : Int32).toNatClampNeg 0) (0 : Int32).toNatClampNeg r3.1) (1 : Int32).toNatClampNeg v4) pa wt cd ln) H := hP
      have hD : va_D A (W3 cy qa P r3.2 S nw hz (upd (upd (upd (upd (upd ak (0 : Int32).toNatClampNeg (-1)) (1 : Int32).toNatClampNeg 0) (2 : Int32).toNatClampNeg 0) (0 : Int32).toNatClampNeg r3.1) (1 : Int32).toNatClampNeg v4) pa wt cd ln) := hD
      refine lv_aload_n hx hb dX3_tryAsking_97 rfl (lv_at hl 0 rfl) ?_
      refine va_get (D := D) (ci := 3) (v := .ref (qa 0 1)) (C := RX3) (T := TX3) (N := 7) hx hb hts hin3 hown hK hP 0 rfl rfl 2 (by decide) (hta _ aw_126) (fun _ h9 => h9) rfl dX3_tryAsking_98 ?_
      refine lv_iconst (v := 2) hx hb dX3_tryAsking_101 (by decide) ?_
      refine lv_aload_n hx hb dX3_tryAsking_102 rfl (lv_at hl 0 rfl) ?_
      refine va_get (D := D) (ci := 3) (v := .ref (qa 2 0)) (C := RX3) (T := TX3) (N := 7) hx hb hts hin3 hown hK hP 0 rfl rfl 1 (by decide) (hta _ aw_125) (fun _ h9 => h9) rfl dX3_tryAsking_103 ?_
      refine va_get (D := D) (ci := 2) (v := .ref (qa 2 15)) (C := RX2) (T := TX2) (N := 16) hx hb hts hin2 hown hK hP 6 rfl rfl 15 (by decide) (hta _ aw_53) (fun _ h9 => h9) rfl dX3_tryAsking_106 ?_
      refine lv_iconst (v := 1) hx hb dX3_tryAsking_109 (by decide) ?_
      refine va_iald hx hb hK hP 20 0 rfl rfl (pq_vp (by decide +kernel)) dX3_tryAsking_110 ?_
      refine lv_aload_n hx hb dX3_tryAsking_111 rfl (lv_at hl 0 rfl) ?_
      refine va_get (D := D) (ci := 3) (v := .ref (qa 1 0)) (C := RX3) (T := TX3) (N := 7) hx hb hts hin3 hown hK hP 0 rfl rfl 0 (by decide) (hta _ aw_124) (fun _ h9 => h9) rfl dX3_tryAsking_112 ?_
      refine va_get (D := D) (ci := 2) (v := .ref (qa 1 15)) (C := RX2) (T := TX2) (N := 16) hx hb hts hin2 hown hK hP 21 rfl rfl 15 (by decide) (hta _ aw_53) (fun _ h9 => h9) rfl dX3_tryAsking_115 ?_
      refine lv_iconst (v := 1) hx hb dX3_tryAsking_118 (by decide) ?_
      refine va_iald hx hb hK hP 35 0 rfl rfl (pq_vp (by decide +kernel)) dX3_tryAsking_119 ?_
      refine lv_isub hx hb dX3_tryAsking_120 ?_
      refine va_iast hx hb hK hP hD hS 1 0 rfl rfl (pq_vp (by decide +kernel)) dX3_tryAsking_121 (fun H locs hP hD hS => ?_)
      have hP : va_P D vwCl (W3 cy qa P r3.2 S nw hz (upd (upd (upd (upd (upd (upd ak (0 : Int32).toNatClampNeg (-1)) (1 : Int32).toNatClampNeg 0) (2 : Int32).toNatClampNeg 0) (0 : Int32).toNatClampNeg r3.1) (1 : Int32).toNatClampNeg v4) (2 : Int32).toNatClampNeg (((r3.2 15) (1 : Int32).toNatClampNeg) - ((P 15) (1 : Int32).toNatClampNeg))) pa wt cd ln) H := hP
      have hD : va_D A (W3 cy qa P r3.2 S nw hz (upd (upd (upd (upd (upd (upd ak (0 : Int32).toNatClampNeg (-1)) (1 : Int32).toNatClampNeg 0) (2 : Int32).toNatClampNeg 0) (0 : Int32).toNatClampNeg r3.1) (1 : Int32).toNatClampNeg v4) (2 : Int32).toNatClampNeg (((r3.2 15) (1 : Int32).toNatClampNeg) - ((P 15) (1 : Int32).toNatClampNeg))) pa wt cd ln) := hD
      obtain rfl := Option.some.inj h
      subst hQ
      exact pw_rv hx hb hr hlk hAe hP hS dX3_tryAsking_122
    clear h
    have h := hv4
    clear hv4
    refine lv_icmp_eq (tgt := 95) hx hb dX3_tryAsking_67 (by decide) (fun c2_ => ?_) (fun c2_ => ?_)
    · have h := pq_t c2_ h
      refine lv_iconst (v := 0) hx hb dX3_tryAsking_95 (by decide) ?_
      obtain rfl := Option.some.inj h
      exact J96_v4 _ _ _ hP hD hS (lv_sub hl [1] rfl)
    · have h := pq_e c2_ h
      refine lv_aload_n hx hb dX3_tryAsking_70 rfl (lv_at hl 1 rfl) ?_
      refine va_get (D := D) (ci := 3) (v := .ref (qa 2 0)) (C := RX3) (T := TX3) (N := 7) hx hb hts hin3 hown hK hP 0 rfl rfl 1 (by decide) (hta _ aw_125) (fun _ h9 => h9) rfl dX3_tryAsking_71 ?_
      refine va_get (D := D) (ci := 2) (v := .ref (qa 2 7)) (C := RX2) (T := TX2) (N := 16) hx hb hts hin2 hown hK hP 6 rfl rfl 7 (by decide) (hta _ aw_42) (fun _ h9 => h9) rfl dX3_tryAsking_74 ?_
      refine lv_iload_n hx hb dX3_tryAsking_77 rfl (lv_at hl 0 rfl) ?_
      obtain ⟨hg, h⟩ := pq_g h
      refine va_iald hx hb hK hP 13 0 rfl rfl (pq_vp hg) dX3_tryAsking_78 ?_
      refine lv_aload_n hx hb dX3_tryAsking_79 rfl (lv_at hl 1 rfl) ?_
      refine va_get (D := D) (ci := 3) (v := .ref (qa 1 0)) (C := RX3) (T := TX3) (N := 7) hx hb hts hin3 hown hK hP 0 rfl rfl 0 (by decide) (hta _ aw_124) (fun _ h9 => h9) rfl dX3_tryAsking_80 ?_
      refine va_get (D := D) (ci := 2) (v := .ref (qa 1 7)) (C := RX2) (T := TX2) (N := 16) hx hb hts hin2 hown hK hP 21 rfl rfl 7 (by decide) (hta _ aw_42) (fun _ h9 => h9) rfl dX3_tryAsking_83 ?_
      refine lv_iload_n hx hb dX3_tryAsking_86 rfl (lv_at hl 0 rfl) ?_
      obtain ⟨hg, h⟩ := pq_g h
      refine va_iald hx hb hK hP 28 0 rfl rfl (pq_vp hg) dX3_tryAsking_87 ?_
      refine lv_icmp_le (tgt := 95) hx hb dX3_tryAsking_88 (by decide) (fun c3_ => ?_) (fun c3_ => ?_)
      · have h := pq_t c3_ h
        refine lv_iconst (v := 0) hx hb dX3_tryAsking_95 (by decide) ?_
        obtain rfl := Option.some.inj h
        exact J96_v4 _ _ _ hP hD hS (lv_sub hl [1] rfl)
      · have h := pq_e c3_ h
        refine lv_iconst (v := 1) hx hb dX3_tryAsking_91 (by decide) ?_
        refine lv_goto (tgt := 96) hx hb dX3_tryAsking_92 (by decide) ?_
        obtain rfl := Option.some.inj h
        exact J96_v4 _ _ _ hP hD hS (lv_sub hl [1] rfl)
  · have h := pq_t c1_ h
    obtain rfl := Option.some.inj h
    subst hQ
    exact pw_rv hx hb hr hlk hAe hP hS dX3_tryAsking_32

def aX3_ifAsked : List Cond := Cond.code yX3_ifAsked cX3_ifAsked 3 (some .int) :: pw_all
theorem pX3_ifAsked : yX3_ifAsked.cls = RX3 ∧ yX3_ifAsked.cls ≠ "java/lang/invoke/MethodHandle" ∧ yX3_ifAsked.cls ≠ "java/lang/invoke/VarHandle" ∧ (parseMethodDescriptor yX3_ifAsked.desc).map (fun d => d.parameters.length) = some 2 := by decide +kernel
set_option maxHeartbeats 8000000 in
set_option maxRecDepth 100000 in
theorem kX3_ifAsked (l : Launch) (D : va_G) (cy : Nat → ClassId) (qa : Nat → Nat → Nat) (sz : Nat) (P : Nat → Nat → Int32) (T : Nat → Nat → Int32) (S : Nat → Nat → Nat → Int32) (nw : Int32) (hz : Int32) (ak : Nat → Int32) (pa : Nat → Int32) (wt : Nat → Int32) (cd : Nat → Int32) (ln : Int32) (x1 : Int32) (x2 : Int32) (o : Int32 × (Nat → Nat → Int32) × (Nat → Int32)) (h : fX3_ifAsked x1 x2 P T ak = some (Sum.inr o)) : Met l yX3_ifAsked aX3_ifAsked ({ frames := 6, cells := 0, slots := 0, locals := 135 }) (pw_Pre D cy [.ref (qa 0 0), .int x1, .int x2] (W3 cy qa P T S nw hz ak pa wt cd ln) sz) (pw_I D o.1 (W3 cy qa P T S nw hz ak pa wt cd ln) (W3 cy qa P o.2.1 S nw hz o.2.2 pa wt cd ln) sz) 0 0 (va_A (W3 cy qa P T S nw hz ak pa wt cd ln) sz) := by
  refine pw_met (cc := cX3_ifAsked) (maxL := 3) (ret := (some .int)) (by decide) rfl (Nat.le_of_ble_eq_true rfl) ?_
  intro p e s m args below meth c ls A hx hb hr hml hlk hts hown hAe hA hK hP hD hS hl
  have hl : lv_has ls 3 [(0, .ref (qa 0 0)), (1, .int x1), (2, .int x2)] := hl
  generalize hQ : MQ below (pw_I D o.1 (W3 cy qa P T S nw hz ak pa wt cd ln) (W3 cy qa P o.2.1 S nw hz o.2.2 pa wt cd ln) sz) args s 0 0 (va_A (W3 cy qa P T S nw hz ak pa wt cd ln) sz) = Q
  have hF : CallFix p m c cX3_ifAsked 3 s args aX3_ifAsked RX3 := ⟨hx, hb, hml, hown, hts⟩
  have hta : ∀ w ∈ pw_all, w.before args s = true := fun w h => hts w (List.mem_cons_of_mem _ h)
  have hin3 : ∀ w ∈ wsX30, w ∈ aX3_ifAsked := fun w h => List.mem_cons_of_mem _ (inA3 w h)
  have hin2 : ∀ w ∈ wsX20, w ∈ aX3_ifAsked := fun w h => List.mem_cons_of_mem _ (inA2 w h)
  have hin1 : ∀ w ∈ wsX10, w ∈ aX3_ifAsked := fun w h => List.mem_cons_of_mem _ (inA1 w h)
  have hin0 : ∀ w ∈ wsX00, w ∈ aX3_ifAsked := fun w h => List.mem_cons_of_mem _ (inA0 w h)
  unfold fX3_ifAsked at h
  refine lv_iload_n hx hb dX3_ifAsked_0 rfl (lv_at hl 1 rfl) ?_
  obtain ⟨r1, hr1, h⟩ := pq_b h
  obtain ⟨a2, rfl, h⟩ := pq_inr h
  refine pw_sv (rest := []) (As := [.int x1]) hF (kX3_requireOwner l D cy _ x1 a2 hr1) (cwS 1 hts (pw_gS (own := RX3) (idx := 43) (y := yX3_requireOwner) aw_436 aw_437 aw_1 aw_438) rfl rfl rfl pX3_requireOwner ⟨Nat.le_of_ble_eq_true rfl, Nat.le_of_ble_eq_true rfl⟩) hK hP hS hA rfl hl.1 rfl (Nat.le_of_ble_eq_true rfl) dX3_ifAsked_1 ⟨Nat.zero_le _, Nat.zero_le _⟩ (fun H locs hP hS => ?_)
  refine lv_iload_n hx hb dX3_ifAsked_4 rfl (lv_at hl 2 rfl) ?_
  refine lv_iconst (v := 3) hx hb dX3_ifAsked_5 (by decide) ?_
  obtain ⟨r3, hr3, h⟩ := pq_b h
  obtain ⟨a4, rfl, h⟩ := pq_inr h
  refine pw_sv (rest := []) (As := [.int x2, .int 3]) hF (kX3_requireKind l D cy _ x2 3 a4 hr3) (cwS 2 hts (pw_gS (own := RX3) (idx := 193) (y := yX3_requireKind) aw_273 aw_274 aw_1 aw_275) rfl rfl rfl pX3_requireKind ⟨Nat.le_of_ble_eq_true rfl, Nat.le_of_ble_eq_true rfl⟩) hK hP hS hA rfl hl.1 rfl (Nat.le_of_ble_eq_true rfl) dX3_ifAsked_6 ⟨Nat.zero_le _, Nat.zero_le _⟩ (fun H locs hP hS => ?_)
  refine lv_aload_n hx hb dX3_ifAsked_9 rfl (lv_at hl 0 rfl) ?_
  refine lv_iload_n hx hb dX3_ifAsked_10 rfl (lv_at hl 1 rfl) ?_
  obtain ⟨r5, hr5, h⟩ := pq_b h
  refine pw_cv (w1 := W3 cy qa P r5.1 S nw hz r5.2 pa wt cd ln) (rest := []) (As := [.int x1]) hF (kX3_tryAsking l D cy qa _ P T S nw hz ak pa wt cd ln x1 r5 hr5) (cwV 1 hts (pw_gV (own := RX3) (idx := 209) (C := RX3) (y := yX3_tryAsking) aw_402 aw_404 aw_s14 aw_1 aw_405) rfl rfl rfl pX3_tryAsking ⟨Nat.le_of_ble_eq_true rfl, Nat.le_of_ble_eq_true rfl⟩) (va_recv hK hP (ci := 3) (q0 := 0) rfl rfl) hK hP hD hS hA rfl rfl hl.1 rfl (Nat.le_of_ble_eq_true rfl) dX3_ifAsked_11 ⟨Nat.zero_le _, Nat.zero_le _⟩ (fun H locs hP hD hS => ?_)
  refine lv_aload_n hx hb dX3_ifAsked_14 rfl (lv_at hl 0 rfl) ?_
  refine va_get (D := D) (ci := 3) (v := .ref (qa 0 1)) (C := RX3) (T := TX3) (N := 7) hx hb hts hin3 hown hK hP 0 rfl rfl 2 (by decide) (hta _ aw_126) (fun _ h9 => h9) rfl dX3_ifAsked_15 ?_
  refine lv_iload_n hx hb dX3_ifAsked_18 rfl (lv_at hl 2 rfl) ?_
  obtain ⟨hg, h⟩ := pq_g h
  refine va_iald hx hb hK hP 1 0 rfl rfl (pq_vp hg) dX3_ifAsked_19 ?_
  obtain rfl := Sum.inr.inj (Option.some.inj h)
  subst hQ
  exact pw_ri hx hb hr hlk hAe hP hS rfl dX3_ifAsked_20

def aX3_tryPassing : List Cond := Cond.code yX3_tryPassing cX3_tryPassing 2 none :: pw_all
theorem pX3_tryPassing : yX3_tryPassing.cls = RX3 ∧ yX3_tryPassing.cls ≠ "java/lang/invoke/MethodHandle" ∧ yX3_tryPassing.cls ≠ "java/lang/invoke/VarHandle" ∧ (parseMethodDescriptor yX3_tryPassing.desc).map (fun d => d.parameters.length) = some 1 := by decide +kernel
set_option maxHeartbeats 8000000 in
set_option maxRecDepth 100000 in
theorem kX3_tryPassing (l : Launch) (D : va_G) (cy : Nat → ClassId) (qa : Nat → Nat → Nat) (sz : Nat) (P : Nat → Nat → Int32) (T : Nat → Nat → Int32) (S : Nat → Nat → Nat → Int32) (nw : Int32) (hz : Int32) (ak : Nat → Int32) (pa : Nat → Int32) (wt : Nat → Int32) (cd : Nat → Int32) (ln : Int32) (x1 : Int32) (o : (Nat → Nat → Int32) × (Nat → Int32)) (h : fX3_tryPassing x1 P T pa = some o) : Met l yX3_tryPassing aX3_tryPassing ({ frames := 5, cells := 0, slots := 0, locals := 116 }) (pw_Pre D cy [.ref (qa 0 0), .int x1] (W3 cy qa P T S nw hz ak pa wt cd ln) sz) (pw_V D (W3 cy qa P T S nw hz ak pa wt cd ln) (W3 cy qa P o.1 S nw hz ak o.2 wt cd ln) sz) 0 0 (va_A (W3 cy qa P T S nw hz ak pa wt cd ln) sz) := by
  refine pw_met (cc := cX3_tryPassing) (maxL := 2) (ret := none) (by decide) rfl (Nat.le_of_ble_eq_true rfl) ?_
  intro p e s m args below meth c ls A hx hb hr hml hlk hts hown hAe hA hK hP hD hS hl
  have hl : lv_has ls 2 [(0, .ref (qa 0 0)), (1, .int x1)] := hl
  generalize hQ : MQ below (pw_V D (W3 cy qa P T S nw hz ak pa wt cd ln) (W3 cy qa P o.1 S nw hz ak o.2 wt cd ln) sz) args s 0 0 (va_A (W3 cy qa P T S nw hz ak pa wt cd ln) sz) = Q
  have hF : CallFix p m c cX3_tryPassing 2 s args aX3_tryPassing RX3 := ⟨hx, hb, hml, hown, hts⟩
  have hta : ∀ w ∈ pw_all, w.before args s = true := fun w h => hts w (List.mem_cons_of_mem _ h)
  have hin3 : ∀ w ∈ wsX30, w ∈ aX3_tryPassing := fun w h => List.mem_cons_of_mem _ (inA3 w h)
  have hin2 : ∀ w ∈ wsX20, w ∈ aX3_tryPassing := fun w h => List.mem_cons_of_mem _ (inA2 w h)
  have hin1 : ∀ w ∈ wsX10, w ∈ aX3_tryPassing := fun w h => List.mem_cons_of_mem _ (inA1 w h)
  have hin0 : ∀ w ∈ wsX00, w ∈ aX3_tryPassing := fun w h => List.mem_cons_of_mem _ (inA0 w h)
  unfold fX3_tryPassing at h
  refine lv_aload_n hx hb dX3_tryPassing_0 rfl (lv_at hl 0 rfl) ?_
  refine va_get (D := D) (ci := 3) (v := .ref (qa 2 0)) (C := RX3) (T := TX3) (N := 7) hx hb hts hin3 hown hK hP 0 rfl rfl 1 (by decide) (hta _ aw_125) (fun _ h9 => h9) rfl dX3_tryPassing_1 ?_
  refine lv_aload_n hx hb dX3_tryPassing_4 rfl (lv_at hl 0 rfl) ?_
  refine va_get (D := D) (ci := 3) (v := .ref (qa 1 0)) (C := RX3) (T := TX3) (N := 7) hx hb hts hin3 hown hK hP 0 rfl rfl 0 (by decide) (hta _ aw_124) (fun _ h9 => h9) rfl dX3_tryPassing_5 ?_
  obtain ⟨r1, hr1, h⟩ := pq_b h
  refine pw_fv (ws0 := W3 cy qa P T S nw hz ak pa wt cd ln) (ws1 := W3 cy qa P r1 S nw hz ak pa wt cd ln) (wc := WP cy (qa 2) T ++ WP cy (qa 1) P) (w1 := WP cy (qa 2) r1 ++ WP cy (qa 1) P) (rest := []) (As := [.ref (qa 1 0)]) hF (kX2_copyFrom l D cy (qa 2) (qa 1) _ T P r1 hr1) (cwV 1 hts (pw_gV (own := RX3) (idx := 273) (C := RX2) (y := yX2_copyFrom) aw_367 aw_155 aw_156 aw_2 aw_157) rfl rfl rfl pX2_copyFrom ⟨Nat.le_of_ble_eq_true rfl, Nat.le_of_ble_eq_true rfl⟩) 2 (RX2, TX2, 16) rfl rfl ⟨0, _, rfl⟩ hK hP hD hS hA (pw_s23 _ _ _ _ _) (pw_s23 _ _ _ _ _) rfl rfl hl.1 rfl (Nat.le_of_ble_eq_true rfl) dX3_tryPassing_8 ⟨Nat.zero_le _, Nat.zero_le _⟩ (fun H locs hP hD hS => ?_)
  refine lv_aload_n hx hb dX3_tryPassing_11 rfl (lv_at hl 0 rfl) ?_
  refine va_get (D := D) (ci := 3) (v := .ref (qa 0 2)) (C := RX3) (T := TX3) (N := 7) hx hb hts hin3 hown hK hP 0 rfl rfl 3 (by decide) (hta _ aw_127) (fun _ h9 => h9) rfl dX3_tryPassing_12 ?_
  refine lv_iconst (v := 0) hx hb dX3_tryPassing_15 (by decide) ?_
  refine lv_aload_n hx hb dX3_tryPassing_16 rfl (lv_at hl 0 rfl) ?_
  refine va_get (D := D) (ci := 3) (v := .ref (qa 2 0)) (C := RX3) (T := TX3) (N := 7) hx hb hts hin3 hown hK hP 0 rfl rfl 1 (by decide) (hta _ aw_125) (fun _ h9 => h9) rfl dX3_tryPassing_17 ?_
  refine lv_iload_n hx hb dX3_tryPassing_20 rfl (lv_at hl 1 rfl) ?_
  obtain ⟨r2, hr2, h⟩ := pq_b h
  refine pw_fi (ws0 := W3 cy qa P r1 S nw hz ak pa wt cd ln) (ws1 := W3 cy qa P r2.2 S nw hz ak pa wt cd ln) (wc := WP cy (qa 2) r1) (w1 := WP cy (qa 2) r2.2) (rest := [.int 0, .ref (qa 0 2)]) (As := [.int x1]) hF (kX2_passUnits l D cy (qa 2) _ r1 x1 r2 hr2) (cwV 1 hts (pw_gV (own := RX3) (idx := 146) (C := RX2) (y := yX2_passUnits) aw_368 aw_369 aw_370 aw_2 aw_371) rfl rfl rfl pX2_passUnits ⟨Nat.le_of_ble_eq_true rfl, Nat.le_of_ble_eq_true rfl⟩) 2 (RX2, TX2, 16) rfl rfl ⟨0, _, rfl⟩ hK hP hD hS hA (pw_s2 _ _ _ _) (pw_s2 _ _ _ _) rfl rfl hl.1 rfl (Nat.le_of_ble_eq_true rfl) dX3_tryPassing_21 ⟨Nat.zero_le _, Nat.zero_le _⟩ (fun H locs hP hD hS => ?_)
  refine va_iast hx hb hK hP hD hS 2 0 rfl rfl (pq_vp (by decide +kernel)) dX3_tryPassing_24 (fun H locs hP hD hS => ?_)
  have hP : va_P D vwCl (W3 cy qa P r2.2 S nw hz ak (upd pa (0 : Int32).toNatClampNeg r2.1) wt cd ln) H := hP
  have hD : va_D A (W3 cy qa P r2.2 S nw hz ak (upd pa (0 : Int32).toNatClampNeg r2.1) wt cd ln) := hD
  refine lv_aload_n hx hb dX3_tryPassing_25 rfl (lv_at hl 0 rfl) ?_
  refine va_get (D := D) (ci := 3) (v := .ref (qa 0 2)) (C := RX3) (T := TX3) (N := 7) hx hb hts hin3 hown hK hP 0 rfl rfl 3 (by decide) (hta _ aw_127) (fun _ h9 => h9) rfl dX3_tryPassing_26 ?_
  refine lv_iconst (v := 1) hx hb dX3_tryPassing_29 (by decide) ?_
  refine lv_aload_n hx hb dX3_tryPassing_30 rfl (lv_at hl 0 rfl) ?_
  refine va_get (D := D) (ci := 3) (v := .ref (qa 2 0)) (C := RX3) (T := TX3) (N := 7) hx hb hts hin3 hown hK hP 0 rfl rfl 1 (by decide) (hta _ aw_125) (fun _ h9 => h9) rfl dX3_tryPassing_31 ?_
  refine va_get (D := D) (ci := 2) (v := .ref (qa 2 15)) (C := RX2) (T := TX2) (N := 16) hx hb hts hin2 hown hK hP 6 rfl rfl 15 (by decide) (hta _ aw_53) (fun _ h9 => h9) rfl dX3_tryPassing_34 ?_
  refine lv_iconst (v := 1) hx hb dX3_tryPassing_37 (by decide) ?_
  refine va_iald hx hb hK hP 20 0 rfl rfl (pq_vp (by decide +kernel)) dX3_tryPassing_38 ?_
  refine lv_aload_n hx hb dX3_tryPassing_39 rfl (lv_at hl 0 rfl) ?_
  refine va_get (D := D) (ci := 3) (v := .ref (qa 1 0)) (C := RX3) (T := TX3) (N := 7) hx hb hts hin3 hown hK hP 0 rfl rfl 0 (by decide) (hta _ aw_124) (fun _ h9 => h9) rfl dX3_tryPassing_40 ?_
  refine va_get (D := D) (ci := 2) (v := .ref (qa 1 15)) (C := RX2) (T := TX2) (N := 16) hx hb hts hin2 hown hK hP 21 rfl rfl 15 (by decide) (hta _ aw_53) (fun _ h9 => h9) rfl dX3_tryPassing_43 ?_
  refine lv_iconst (v := 1) hx hb dX3_tryPassing_46 (by decide) ?_
  refine va_iald hx hb hK hP 35 0 rfl rfl (pq_vp (by decide +kernel)) dX3_tryPassing_47 ?_
  refine lv_isub hx hb dX3_tryPassing_48 ?_
  refine va_iast hx hb hK hP hD hS 2 0 rfl rfl (pq_vp (by decide +kernel)) dX3_tryPassing_49 (fun H locs hP hD hS => ?_)
  have hP : va_P D vwCl (W3 cy qa P r2.2 S nw hz ak (upd (upd pa (0 : Int32).toNatClampNeg r2.1) (1 : Int32).toNatClampNeg (((r2.2 15) (1 : Int32).toNatClampNeg) - ((P 15) (1 : Int32).toNatClampNeg))) wt cd ln) H := hP
  have hD : va_D A (W3 cy qa P r2.2 S nw hz ak (upd (upd pa (0 : Int32).toNatClampNeg r2.1) (1 : Int32).toNatClampNeg (((r2.2 15) (1 : Int32).toNatClampNeg) - ((P 15) (1 : Int32).toNatClampNeg))) wt cd ln) := hD
  refine lv_aload_n hx hb dX3_tryPassing_50 rfl (lv_at hl 0 rfl) ?_
  refine va_get (D := D) (ci := 3) (v := .ref (qa 0 2)) (C := RX3) (T := TX3) (N := 7) hx hb hts hin3 hown hK hP 0 rfl rfl 3 (by decide) (hta _ aw_127) (fun _ h9 => h9) rfl dX3_tryPassing_51 ?_
  refine lv_iconst (v := 2) hx hb dX3_tryPassing_54 (by decide) ?_
  refine lv_aload_n hx hb dX3_tryPassing_55 rfl (lv_at hl 0 rfl) ?_
  refine va_get (D := D) (ci := 3) (v := .ref (qa 2 0)) (C := RX3) (T := TX3) (N := 7) hx hb hts hin3 hown hK hP 0 rfl rfl 1 (by decide) (hta _ aw_125) (fun _ h9 => h9) rfl dX3_tryPassing_56 ?_
  obtain ⟨r3, hr3, h⟩ := pq_b h
  refine pw_fi (ws0 := W3 cy qa P r2.2 S nw hz ak (upd (upd pa (0 : Int32).toNatClampNeg r2.1) (1 : Int32).toNatClampNeg (((r2.2 15) (1 : Int32).toNatClampNeg) - ((P 15) (1 : Int32).toNatClampNeg))) wt cd ln) (ws1 := W3 cy qa P r2.2 S nw hz ak (upd (upd pa (0 : Int32).toNatClampNeg r2.1) (1 : Int32).toNatClampNeg (((r2.2 15) (1 : Int32).toNatClampNeg) - ((P 15) (1 : Int32).toNatClampNeg))) wt cd ln) (wc := WP cy (qa 2) r2.2) (w1 := WP cy (qa 2) r2.2) (rest := [.int 2, .ref (qa 0 2)]) (As := []) hF (kX2_connections l D cy (qa 2) _ r2.2  r3 hr3) (cwV 0 hts (pw_gV (own := RX3) (idx := 282) (C := RX2) (y := yX2_connections) aw_418 aw_202 aw_203 aw_2 aw_204) rfl rfl rfl pX2_connections ⟨Nat.le_of_ble_eq_true rfl, Nat.le_of_ble_eq_true rfl⟩) 2 (RX2, TX2, 16) rfl rfl ⟨0, _, rfl⟩ hK hP hD hS hA (pw_s2 _ _ _ _) (pw_s2 _ _ _ _) rfl rfl hl.1 rfl (Nat.le_of_ble_eq_true rfl) dX3_tryPassing_59 ⟨Nat.zero_le _, Nat.zero_le _⟩ (fun H locs hP hD hS => ?_)
  refine va_iast hx hb hK hP hD hS 2 0 rfl rfl (pq_vp (by decide +kernel)) dX3_tryPassing_62 (fun H locs hP hD hS => ?_)
  have hP : va_P D vwCl (W3 cy qa P r2.2 S nw hz ak (upd (upd (upd pa (0 : Int32).toNatClampNeg r2.1) (1 : Int32).toNatClampNeg (((r2.2 15) (1 : Int32).toNatClampNeg) - ((P 15) (1 : Int32).toNatClampNeg))) (2 : Int32).toNatClampNeg r3) wt cd ln) H := hP
  have hD : va_D A (W3 cy qa P r2.2 S nw hz ak (upd (upd (upd pa (0 : Int32).toNatClampNeg r2.1) (1 : Int32).toNatClampNeg (((r2.2 15) (1 : Int32).toNatClampNeg) - ((P 15) (1 : Int32).toNatClampNeg))) (2 : Int32).toNatClampNeg r3) wt cd ln) := hD
  refine lv_aload_n hx hb dX3_tryPassing_63 rfl (lv_at hl 0 rfl) ?_
  refine va_get (D := D) (ci := 3) (v := .ref (qa 0 2)) (C := RX3) (T := TX3) (N := 7) hx hb hts hin3 hown hK hP 0 rfl rfl 3 (by decide) (hta _ aw_127) (fun _ h9 => h9) rfl dX3_tryPassing_64 ?_
  refine lv_iconst (v := 3) hx hb dX3_tryPassing_67 (by decide) ?_
  refine lv_aload_n hx hb dX3_tryPassing_68 rfl (lv_at hl 0 rfl) ?_
  refine va_get (D := D) (ci := 3) (v := .ref (qa 2 0)) (C := RX3) (T := TX3) (N := 7) hx hb hts hin3 hown hK hP 0 rfl rfl 1 (by decide) (hta _ aw_125) (fun _ h9 => h9) rfl dX3_tryPassing_69 ?_
  refine va_get (D := D) (ci := 2) (v := .int (r2.2 14 0)) (C := RX2) (T := TX2) (N := 16) hx hb hts hin2 hown hK hP 6 rfl rfl 14 (by decide) (hta _ aw_51) (fun _ h9 => h9) rfl dX3_tryPassing_72 ?_
  refine va_iast hx hb hK hP hD hS 2 0 rfl rfl (pq_vp (by decide +kernel)) dX3_tryPassing_75 (fun H locs hP hD hS => ?_)
  have hP : va_P D vwCl (W3 cy qa P r2.2 S nw hz ak (upd (upd (upd (upd pa (0 : Int32).toNatClampNeg r2.1) (1 : Int32).toNatClampNeg (((r2.2 15) (1 : Int32).toNatClampNeg) - ((P 15) (1 : Int32).toNatClampNeg))) (2 : Int32).toNatClampNeg r3) (3 : Int32).toNatClampNeg (r2.2 14 0)) wt cd ln) H := hP
  have hD : va_D A (W3 cy qa P r2.2 S nw hz ak (upd (upd (upd (upd pa (0 : Int32).toNatClampNeg r2.1) (1 : Int32).toNatClampNeg (((r2.2 15) (1 : Int32).toNatClampNeg) - ((P 15) (1 : Int32).toNatClampNeg))) (2 : Int32).toNatClampNeg r3) (3 : Int32).toNatClampNeg (r2.2 14 0)) wt cd ln) := hD
  obtain rfl := Option.some.inj h
  subst hQ
  exact pw_rv hx hb hr hlk hAe hP hS dX3_tryPassing_76

def aX3_ifPassed : List Cond := Cond.code yX3_ifPassed cX3_ifPassed 3 (some .int) :: pw_all
theorem pX3_ifPassed : yX3_ifPassed.cls = RX3 ∧ yX3_ifPassed.cls ≠ "java/lang/invoke/MethodHandle" ∧ yX3_ifPassed.cls ≠ "java/lang/invoke/VarHandle" ∧ (parseMethodDescriptor yX3_ifPassed.desc).map (fun d => d.parameters.length) = some 2 := by decide +kernel
set_option maxHeartbeats 8000000 in
set_option maxRecDepth 100000 in
theorem kX3_ifPassed (l : Launch) (D : va_G) (cy : Nat → ClassId) (qa : Nat → Nat → Nat) (sz : Nat) (P : Nat → Nat → Int32) (T : Nat → Nat → Int32) (S : Nat → Nat → Nat → Int32) (nw : Int32) (hz : Int32) (ak : Nat → Int32) (pa : Nat → Int32) (wt : Nat → Int32) (cd : Nat → Int32) (ln : Int32) (x1 : Int32) (x2 : Int32) (o : Int32 × (Nat → Nat → Int32) × (Nat → Int32)) (h : fX3_ifPassed x1 x2 P T pa = some (Sum.inr o)) : Met l yX3_ifPassed aX3_ifPassed ({ frames := 6, cells := 0, slots := 0, locals := 137 }) (pw_Pre D cy [.ref (qa 0 0), .int x1, .int x2] (W3 cy qa P T S nw hz ak pa wt cd ln) sz) (pw_I D o.1 (W3 cy qa P T S nw hz ak pa wt cd ln) (W3 cy qa P o.2.1 S nw hz ak o.2.2 wt cd ln) sz) 0 0 (va_A (W3 cy qa P T S nw hz ak pa wt cd ln) sz) := by
  refine pw_met (cc := cX3_ifPassed) (maxL := 3) (ret := (some .int)) (by decide) rfl (Nat.le_of_ble_eq_true rfl) ?_
  intro p e s m args below meth c ls A hx hb hr hml hlk hts hown hAe hA hK hP hD hS hl
  have hl : lv_has ls 3 [(0, .ref (qa 0 0)), (1, .int x1), (2, .int x2)] := hl
  generalize hQ : MQ below (pw_I D o.1 (W3 cy qa P T S nw hz ak pa wt cd ln) (W3 cy qa P o.2.1 S nw hz ak o.2.2 wt cd ln) sz) args s 0 0 (va_A (W3 cy qa P T S nw hz ak pa wt cd ln) sz) = Q
  have hF : CallFix p m c cX3_ifPassed 3 s args aX3_ifPassed RX3 := ⟨hx, hb, hml, hown, hts⟩
  have hta : ∀ w ∈ pw_all, w.before args s = true := fun w h => hts w (List.mem_cons_of_mem _ h)
  have hin3 : ∀ w ∈ wsX30, w ∈ aX3_ifPassed := fun w h => List.mem_cons_of_mem _ (inA3 w h)
  have hin2 : ∀ w ∈ wsX20, w ∈ aX3_ifPassed := fun w h => List.mem_cons_of_mem _ (inA2 w h)
  have hin1 : ∀ w ∈ wsX10, w ∈ aX3_ifPassed := fun w h => List.mem_cons_of_mem _ (inA1 w h)
  have hin0 : ∀ w ∈ wsX00, w ∈ aX3_ifPassed := fun w h => List.mem_cons_of_mem _ (inA0 w h)
  unfold fX3_ifPassed at h
  refine lv_iload_n hx hb dX3_ifPassed_0 rfl (lv_at hl 1 rfl) ?_
  refine lv_if_lt (tgt := 11) hx hb dX3_ifPassed_1 (by decide) (fun c1_ => ?_) (fun c1_ => ?_)
  · have h := pq_t c1_ h
    exact nomatch h
  · have h := pq_e c1_ h
    refine lv_iload_n hx hb dX3_ifPassed_4 rfl (lv_at hl 1 rfl) ?_
    refine lv_sipush (v := 200) hx hb dX3_ifPassed_5 (by decide) ?_
    refine lv_icmp_le (tgt := 21) hx hb dX3_ifPassed_8 (by decide) (fun c2_ => ?_) (fun c2_ => ?_)
    · have h := pq_t c2_ h
      refine lv_iload_n hx hb dX3_ifPassed_21 rfl (lv_at hl 2 rfl) ?_
      refine lv_iconst (v := 4) hx hb dX3_ifPassed_22 (by decide) ?_
      obtain ⟨r1, hr1, h⟩ := pq_b h
      obtain ⟨a2, rfl, h⟩ := pq_inr h
      refine pw_sv (rest := []) (As := [.int x2, .int 4]) hF (kX3_requireKind l D cy _ x2 4 a2 hr1) (cwS 2 hts (pw_gS (own := RX3) (idx := 193) (y := yX3_requireKind) aw_273 aw_274 aw_1 aw_275) rfl rfl rfl pX3_requireKind ⟨Nat.le_of_ble_eq_true rfl, Nat.le_of_ble_eq_true rfl⟩) hK hP hS hA rfl hl.1 rfl (Nat.le_of_ble_eq_true rfl) dX3_ifPassed_23 ⟨Nat.zero_le _, Nat.zero_le _⟩ (fun H locs hP hS => ?_)
      refine lv_aload_n hx hb dX3_ifPassed_26 rfl (lv_at hl 0 rfl) ?_
      refine lv_iload_n hx hb dX3_ifPassed_27 rfl (lv_at hl 1 rfl) ?_
      obtain ⟨r3, hr3, h⟩ := pq_b h
      refine pw_cv (w1 := W3 cy qa P r3.1 S nw hz ak r3.2 wt cd ln) (rest := []) (As := [.int x1]) hF (kX3_tryPassing l D cy qa _ P T S nw hz ak pa wt cd ln x1 r3 hr3) (cwV 1 hts (pw_gV (own := RX3) (idx := 214) (C := RX3) (y := yX3_tryPassing) aw_414 aw_416 aw_s15 aw_1 aw_417) rfl rfl rfl pX3_tryPassing ⟨Nat.le_of_ble_eq_true rfl, Nat.le_of_ble_eq_true rfl⟩) (va_recv hK hP (ci := 3) (q0 := 0) rfl rfl) hK hP hD hS hA rfl rfl hl.1 rfl (Nat.le_of_ble_eq_true rfl) dX3_ifPassed_28 ⟨Nat.zero_le _, Nat.zero_le _⟩ (fun H locs hP hD hS => ?_)
      refine lv_aload_n hx hb dX3_ifPassed_31 rfl (lv_at hl 0 rfl) ?_
      refine va_get (D := D) (ci := 3) (v := .ref (qa 0 2)) (C := RX3) (T := TX3) (N := 7) hx hb hts hin3 hown hK hP 0 rfl rfl 3 (by decide) (hta _ aw_127) (fun _ h9 => h9) rfl dX3_ifPassed_32 ?_
      refine lv_iload_n hx hb dX3_ifPassed_35 rfl (lv_at hl 2 rfl) ?_
      obtain ⟨hg, h⟩ := pq_g h
      refine va_iald hx hb hK hP 2 0 rfl rfl (pq_vp hg) dX3_ifPassed_36 ?_
      obtain rfl := Sum.inr.inj (Option.some.inj h)
      subst hQ
      exact pw_ri hx hb hr hlk hAe hP hS rfl dX3_ifPassed_37
    · have h := pq_e c2_ h
      exact nomatch h

def aX3_tryWaiting : List Cond := Cond.code yX3_tryWaiting cX3_tryWaiting 3 none :: pw_all
theorem pX3_tryWaiting : yX3_tryWaiting.cls = RX3 ∧ yX3_tryWaiting.cls ≠ "java/lang/invoke/MethodHandle" ∧ yX3_tryWaiting.cls ≠ "java/lang/invoke/VarHandle" ∧ (parseMethodDescriptor yX3_tryWaiting.desc).map (fun d => d.parameters.length) = some 0 := by decide +kernel
set_option maxHeartbeats 8000000 in
set_option maxRecDepth 100000 in
theorem kX3_tryWaiting (l : Launch) (D : va_G) (cy : Nat → ClassId) (qa : Nat → Nat → Nat) (sz : Nat) (P : Nat → Nat → Int32) (T : Nat → Nat → Int32) (S : Nat → Nat → Nat → Int32) (nw : Int32) (hz : Int32) (ak : Nat → Int32) (pa : Nat → Int32) (wt : Nat → Int32) (cd : Nat → Int32) (ln : Int32)  (o : (Nat → Nat → Int32) × (Nat → Int32)) (h : fX3_tryWaiting P T wt = some o) : Met l yX3_tryWaiting aX3_tryWaiting ({ frames := 5, cells := 0, slots := 0, locals := 116 }) (pw_Pre D cy [.ref (qa 0 0)] (W3 cy qa P T S nw hz ak pa wt cd ln) sz) (pw_V D (W3 cy qa P T S nw hz ak pa wt cd ln) (W3 cy qa P o.1 S nw hz ak pa o.2 cd ln) sz) 0 0 (va_A (W3 cy qa P T S nw hz ak pa wt cd ln) sz) := by
  refine pw_met (cc := cX3_tryWaiting) (maxL := 3) (ret := none) (by decide) rfl (Nat.le_of_ble_eq_true rfl) ?_
  intro p e s m args below meth c ls A hx hb hr hml hlk hts hown hAe hA hK hP hD hS hl
  have hl : lv_has ls 3 [(0, .ref (qa 0 0))] := hl
  generalize hQ : MQ below (pw_V D (W3 cy qa P T S nw hz ak pa wt cd ln) (W3 cy qa P o.1 S nw hz ak pa o.2 cd ln) sz) args s 0 0 (va_A (W3 cy qa P T S nw hz ak pa wt cd ln) sz) = Q
  have hF : CallFix p m c cX3_tryWaiting 3 s args aX3_tryWaiting RX3 := ⟨hx, hb, hml, hown, hts⟩
  have hta : ∀ w ∈ pw_all, w.before args s = true := fun w h => hts w (List.mem_cons_of_mem _ h)
  have hin3 : ∀ w ∈ wsX30, w ∈ aX3_tryWaiting := fun w h => List.mem_cons_of_mem _ (inA3 w h)
  have hin2 : ∀ w ∈ wsX20, w ∈ aX3_tryWaiting := fun w h => List.mem_cons_of_mem _ (inA2 w h)
  have hin1 : ∀ w ∈ wsX10, w ∈ aX3_tryWaiting := fun w h => List.mem_cons_of_mem _ (inA1 w h)
  have hin0 : ∀ w ∈ wsX00, w ∈ aX3_tryWaiting := fun w h => List.mem_cons_of_mem _ (inA0 w h)
  unfold fX3_tryWaiting at h
  refine lv_iconst (v := 0) hx hb dX3_tryWaiting_0 (by decide) ?_
  refine lv_istore_n (lv' := [(1, .int 0), (0, .ref (qa 0 0))]) hx hb dX3_tryWaiting_1 rfl hl (by decide) rfl (fun ls hl => ?_)
  obtain ⟨v2, hv2, h⟩ := pq_b h
  have X21_v2 : ∀ (H : Heap) (locs : List Loc) (ls : Array Slot), va_P D vwCl (W3 cy qa P T S nw hz ak pa v2 cd ln) H → va_D A (W3 cy qa P T S nw hz ak pa v2 cd ln) → va_S A s.heap H locs → lv_has ls 3 [(0, .ref (qa 0 0))] → W p l e ({ frames := 5, cells := 0, slots := 0, locals := 116 } : Room) s m args below meth c H locs 0 0 Q (F0 m 21 ls []) := by
    intro H locs ls hP hD hS hl
    refine lv_aload_n hx hb dX3_tryWaiting_21 rfl (lv_at hl 0 rfl) ?_
    refine va_get (D := D) (ci := 3) (v := .ref (qa 2 0)) (C := RX3) (T := TX3) (N := 7) hx hb hts hin3 hown hK hP 0 rfl rfl 1 (by decide) (hta _ aw_125) (fun _ h9 => h9) rfl dX3_tryWaiting_22 ?_
    refine lv_aload_n hx hb dX3_tryWaiting_25 rfl (lv_at hl 0 rfl) ?_
    refine va_get (D := D) (ci := 3) (v := .ref (qa 1 0)) (C := RX3) (T := TX3) (N := 7) hx hb hts hin3 hown hK hP 0 rfl rfl 0 (by decide) (hta _ aw_124) (fun _ h9 => h9) rfl dX3_tryWaiting_26 ?_
    obtain ⟨r3, hr3, h⟩ := pq_b h
    refine pw_fv (ws0 := W3 cy qa P T S nw hz ak pa v2 cd ln) (ws1 := W3 cy qa P r3 S nw hz ak pa v2 cd ln) (wc := WP cy (qa 2) T ++ WP cy (qa 1) P) (w1 := WP cy (qa 2) r3 ++ WP cy (qa 1) P) (rest := []) (As := [.ref (qa 1 0)]) hF (kX2_copyFrom l D cy (qa 2) (qa 1) _ T P r3 hr3) (cwV 1 hts (pw_gV (own := RX3) (idx := 273) (C := RX2) (y := yX2_copyFrom) aw_367 aw_155 aw_156 aw_2 aw_157) rfl rfl rfl pX2_copyFrom ⟨Nat.le_of_ble_eq_true rfl, Nat.le_of_ble_eq_true rfl⟩) 2 (RX2, TX2, 16) rfl rfl ⟨0, _, rfl⟩ hK hP hD hS hA (pw_s23 _ _ _ _ _) (pw_s23 _ _ _ _ _) rfl rfl hl.1 rfl (Nat.le_of_ble_eq_true rfl) dX3_tryWaiting_29 ⟨Nat.zero_le _, Nat.zero_le _⟩ (fun H locs hP hD hS => ?_)
    refine lv_iconst (v := 1) hx hb dX3_tryWaiting_32 (by decide) ?_
    refine lv_istore_n (lv' := [(1, .int 1), (0, .ref (qa 0 0))]) hx hb dX3_tryWaiting_33 rfl hl (by decide) rfl (fun ls hl => ?_)
    have L34_n4 : ∀ (n : Nat) (x1_34 : Int32) (T_34 : Nat → Nat → Int32) (wt_34 : Nat → Int32) (H : Heap) (locs : List Loc) (ls : Array Slot), fX3_tryWaiting_L34 P n x1_34 T_34 wt_34 = some o → va_P D vwCl (W3 cy qa P T_34 S nw hz ak pa wt_34 cd ln) H → va_D A (W3 cy qa P T_34 S nw hz ak pa wt_34 cd ln) → va_S A s.heap H locs → lv_has ls 3 [(0, .ref (qa 0 0)), (1, .int x1_34)] → W p l e ({ frames := 5, cells := 0, slots := 0, locals := 116 } : Room) s m args below meth c H locs 0 0 Q (F0 m 34 ls []) := by
      intro n
      induction n with
      | zero =>
        intro x1_34 T_34 wt_34 H locs ls h hP hD hS hl
        exact pq_n h
      | succ n ih34 =>
        intro x1_34 T_34 wt_34 H locs ls h hP hD hS hl
        rw [fX3_tryWaiting_L34] at h
        refine lv_iload_n hx hb dX3_tryWaiting_34 rfl (lv_at hl 1 rfl) ?_
        refine lv_bipush (v := 99) hx hb dX3_tryWaiting_35 (by decide) ?_
        refine lv_icmp_gt (tgt := 117) hx hb dX3_tryWaiting_37 (by decide) (fun c2_ => ?_) (fun c2_ => ?_)
        · have h := pq_t c2_ h
          obtain rfl := Option.some.inj h
          subst hQ
          exact pw_rv hx hb hr hlk hAe hP hS dX3_tryWaiting_117
        · have h := pq_e c2_ h
          refine lv_aload_n hx hb dX3_tryWaiting_40 rfl (lv_at hl 0 rfl) ?_
          refine va_get (D := D) (ci := 3) (v := .ref (qa 2 0)) (C := RX3) (T := TX3) (N := 7) hx hb hts hin3 hown hK hP 0 rfl rfl 1 (by decide) (hta _ aw_125) (fun _ h9 => h9) rfl dX3_tryWaiting_41 ?_
          refine va_get (D := D) (ci := 2) (v := .int (T_34 14 0)) (C := RX2) (T := TX2) (N := 16) hx hb hts hin2 hown hK hP 6 rfl rfl 14 (by decide) (hta _ aw_51) (fun _ h9 => h9) rfl dX3_tryWaiting_44 ?_
          refine lv_if_le (tgt := 117) hx hb dX3_tryWaiting_47 (by decide) (fun c3_ => ?_) (fun c3_ => ?_)
          · have h := pq_t c3_ h
            obtain rfl := Option.some.inj h
            subst hQ
            exact pw_rv hx hb hr hlk hAe hP hS dX3_tryWaiting_117
          · have h := pq_e c3_ h
            refine lv_aload_n hx hb dX3_tryWaiting_50 rfl (lv_at hl 0 rfl) ?_
            refine va_get (D := D) (ci := 3) (v := .ref (qa 2 0)) (C := RX3) (T := TX3) (N := 7) hx hb hts hin3 hown hK hP 0 rfl rfl 1 (by decide) (hta _ aw_125) (fun _ h9 => h9) rfl dX3_tryWaiting_51 ?_
            refine lv_iconst (v := 1) hx hb dX3_tryWaiting_54 (by decide) ?_
            obtain ⟨r5, hr5, h⟩ := pq_b h
            refine pw_fi (ws0 := W3 cy qa P T_34 S nw hz ak pa wt_34 cd ln) (ws1 := W3 cy qa P r5.2 S nw hz ak pa wt_34 cd ln) (wc := WP cy (qa 2) T_34) (w1 := WP cy (qa 2) r5.2) (rest := []) (As := [.int 1]) hF (kX2_passUnits l D cy (qa 2) _ T_34 1 r5 hr5) (cwV 1 hts (pw_gV (own := RX3) (idx := 146) (C := RX2) (y := yX2_passUnits) aw_368 aw_369 aw_370 aw_2 aw_371) rfl rfl rfl pX2_passUnits ⟨Nat.le_of_ble_eq_true rfl, Nat.le_of_ble_eq_true rfl⟩) 2 (RX2, TX2, 16) rfl rfl ⟨0, _, rfl⟩ hK hP hD hS hA (pw_s2 _ _ _ _) (pw_s2 _ _ _ _) rfl rfl hl.1 rfl (Nat.le_of_ble_eq_true rfl) dX3_tryWaiting_55 ⟨Nat.zero_le _, Nat.zero_le _⟩ (fun H locs hP hD hS => ?_)
            refine lv_pop hx hb dX3_tryWaiting_58 rfl ?_
            refine lv_iconst (v := 0) hx hb dX3_tryWaiting_59 (by decide) ?_
            refine lv_istore_n (lv' := [(2, .int 0), (0, .ref (qa 0 0)), (1, .int x1_34)]) hx hb dX3_tryWaiting_60 rfl hl (by decide) rfl (fun ls hl => ?_)
            obtain ⟨v7, hv7, h⟩ := pq_b h
            have X111_v7 : ∀ (H : Heap) (locs : List Loc) (ls : Array Slot), va_P D vwCl (W3 cy qa P r5.2 S nw hz ak pa v7 cd ln) H → va_D A (W3 cy qa P r5.2 S nw hz ak pa v7 cd ln) → va_S A s.heap H locs → lv_has ls 3 [(0, .ref (qa 0 0)), (1, .int x1_34)] → W p l e ({ frames := 5, cells := 0, slots := 0, locals := 116 } : Room) s m args below meth c H locs 0 0 Q (F0 m 111 ls []) := by
              intro H locs ls hP hD hS hl
              refine lv_iinc (v := x1_34 + 1) (lv' := [(1, .int (x1_34 + 1)), (0, .ref (qa 0 0))]) hx hb dX3_tryWaiting_111 hl (k := 1) rfl (by first | rfl | decide) (by decide) rfl (fun ls hl => ?_)
              refine lv_goto (tgt := 34) hx hb dX3_tryWaiting_114 (by decide) ?_
              exact ih34 (x1_34 + 1) r5.2 v7 _ _ _ h hP hD hS (lv_sub hl [1, 0] rfl)
            clear h
            have L61_n6 : ∀ (n : Nat) (x2_61 : Int32) (wt_61 : Nat → Int32) (H : Heap) (locs : List Loc) (ls : Array Slot), fX3_tryWaiting_L61 P x1_34 r5 n x2_61 wt_61 = some v7 → va_P D vwCl (W3 cy qa P r5.2 S nw hz ak pa wt_61 cd ln) H → va_D A (W3 cy qa P r5.2 S nw hz ak pa wt_61 cd ln) → va_S A s.heap H locs → lv_has ls 3 [(0, .ref (qa 0 0)), (1, .int x1_34), (2, .int x2_61)] → W p l e ({ frames := 5, cells := 0, slots := 0, locals := 116 } : Room) s m args below meth c H locs 0 0 Q (F0 m 61 ls []) := by
              intro n
              induction n with
              | zero =>
                intro x2_61 wt_61 H locs ls h hP hD hS hl
                exact pq_n h
              | succ n ih61 =>
                intro x2_61 wt_61 H locs ls h hP hD hS hl
                rw [fX3_tryWaiting_L61] at h
                refine lv_iload_n hx hb dX3_tryWaiting_61 rfl (lv_at hl 2 rfl) ?_
                refine lv_bipush (v := 8) hx hb dX3_tryWaiting_62 (by decide) ?_
                refine lv_icmp_ge (tgt := 111) hx hb dX3_tryWaiting_64 (by decide) (fun c4_ => ?_) (fun c4_ => ?_)
                · have h := pq_t c4_ h
                  obtain rfl := Option.some.inj h
                  exact X111_v7 _ _ _ hP hD hS (lv_sub hl [0, 1] rfl)
                · have h := pq_e c4_ h
                  refine lv_aload_n hx hb dX3_tryWaiting_67 rfl (lv_at hl 0 rfl) ?_
                  refine va_get (D := D) (ci := 3) (v := .ref (qa 0 3)) (C := RX3) (T := TX3) (N := 7) hx hb hts hin3 hown hK hP 0 rfl rfl 4 (by decide) (hta _ aw_128) (fun _ h9 => h9) rfl dX3_tryWaiting_68 ?_
                  refine lv_iload_n hx hb dX3_tryWaiting_71 rfl (lv_at hl 2 rfl) ?_
                  obtain ⟨hg, h⟩ := pq_g h
                  refine va_iald hx hb hK hP 3 0 rfl rfl (pq_vp hg) dX3_tryWaiting_72 ?_
                  refine lv_iconst (v := (-1)) hx hb dX3_tryWaiting_73 (by decide) ?_
                  refine lv_icmp_ne (tgt := 105) hx hb dX3_tryWaiting_74 (by decide) (fun c5_ => ?_) (fun c5_ => ?_)
                  · have h := pq_e c5_ h
                    refine lv_iinc (v := x2_61 + 1) (lv' := [(2, .int (x2_61 + 1)), (0, .ref (qa 0 0)), (1, .int x1_34)]) hx hb dX3_tryWaiting_105 hl (k := 2) rfl (by first | rfl | decide) (by decide) rfl (fun ls hl => ?_)
                    refine lv_goto (tgt := 61) hx hb dX3_tryWaiting_108 (by decide) ?_
                    exact ih61 (x2_61 + 1) wt_61 _ _ _ h hP hD hS (lv_sub hl [1, 2, 0] rfl)
                  · have h := pq_t c5_ h
                    refine lv_aload_n hx hb dX3_tryWaiting_77 rfl (lv_at hl 0 rfl) ?_
                    refine va_get (D := D) (ci := 3) (v := .ref (qa 2 0)) (C := RX3) (T := TX3) (N := 7) hx hb hts hin3 hown hK hP 0 rfl rfl 1 (by decide) (hta _ aw_125) (fun _ h9 => h9) rfl dX3_tryWaiting_78 ?_
                    refine va_get (D := D) (ci := 2) (v := .ref (qa 2 9)) (C := RX2) (T := TX2) (N := 16) hx hb hts hin2 hown hK hP 6 rfl rfl 9 (by decide) (hta _ aw_45) (fun _ h9 => h9) rfl dX3_tryWaiting_81 ?_
                    refine lv_iload_n hx hb dX3_tryWaiting_84 rfl (lv_at hl 2 rfl) ?_
                    obtain ⟨hg, h⟩ := pq_g h
                    refine va_iald hx hb hK hP 15 0 rfl rfl (pq_vp hg) dX3_tryWaiting_85 ?_
                    refine lv_aload_n hx hb dX3_tryWaiting_86 rfl (lv_at hl 0 rfl) ?_
                    refine va_get (D := D) (ci := 3) (v := .ref (qa 1 0)) (C := RX3) (T := TX3) (N := 7) hx hb hts hin3 hown hK hP 0 rfl rfl 0 (by decide) (hta _ aw_124) (fun _ h9 => h9) rfl dX3_tryWaiting_87 ?_
                    refine va_get (D := D) (ci := 2) (v := .ref (qa 1 9)) (C := RX2) (T := TX2) (N := 16) hx hb hts hin2 hown hK hP 21 rfl rfl 9 (by decide) (hta _ aw_45) (fun _ h9 => h9) rfl dX3_tryWaiting_90 ?_
                    refine lv_iload_n hx hb dX3_tryWaiting_93 rfl (lv_at hl 2 rfl) ?_
                    obtain ⟨hg, h⟩ := pq_g h
                    refine va_iald hx hb hK hP 30 0 rfl rfl (pq_vp hg) dX3_tryWaiting_94 ?_
                    refine lv_icmp_le (tgt := 105) hx hb dX3_tryWaiting_95 (by decide) (fun c6_ => ?_) (fun c6_ => ?_)
                    · have h := pq_t c6_ h
                      refine lv_iinc (v := x2_61 + 1) (lv' := [(2, .int (x2_61 + 1)), (0, .ref (qa 0 0)), (1, .int x1_34)]) hx hb dX3_tryWaiting_105 hl (k := 2) rfl (by first | rfl | decide) (by decide) rfl (fun ls hl => ?_)
                      refine lv_goto (tgt := 61) hx hb dX3_tryWaiting_108 (by decide) ?_
                      exact ih61 (x2_61 + 1) wt_61 _ _ _ h hP hD hS (lv_sub hl [1, 2, 0] rfl)
                    · have h := pq_e c6_ h
                      refine lv_aload_n hx hb dX3_tryWaiting_98 rfl (lv_at hl 0 rfl) ?_
                      refine va_get (D := D) (ci := 3) (v := .ref (qa 0 3)) (C := RX3) (T := TX3) (N := 7) hx hb hts hin3 hown hK hP 0 rfl rfl 4 (by decide) (hta _ aw_128) (fun _ h9 => h9) rfl dX3_tryWaiting_99 ?_
                      refine lv_iload_n hx hb dX3_tryWaiting_102 rfl (lv_at hl 2 rfl) ?_
                      refine lv_iload_n hx hb dX3_tryWaiting_103 rfl (lv_at hl 1 rfl) ?_
                      obtain ⟨hg, h⟩ := pq_g h
                      refine va_iast hx hb hK hP hD hS 3 0 rfl rfl (pq_vp hg) dX3_tryWaiting_104 (fun H locs hP hD hS => ?_)
                      have hP : va_P D vwCl (W3 cy qa P r5.2 S nw hz ak pa (upd wt_61 x2_61.toNatClampNeg x1_34) cd ln) H := hP
                      have hD : va_D A (W3 cy qa P r5.2 S nw hz ak pa (upd wt_61 x2_61.toNatClampNeg x1_34) cd ln) := hD
                      refine lv_iinc (v := x2_61 + 1) (lv' := [(2, .int (x2_61 + 1)), (0, .ref (qa 0 0)), (1, .int x1_34)]) hx hb dX3_tryWaiting_105 hl (k := 2) rfl (by first | rfl | decide) (by decide) rfl (fun ls hl => ?_)
                      refine lv_goto (tgt := 61) hx hb dX3_tryWaiting_108 (by decide) ?_
                      exact ih61 (x2_61 + 1) (upd wt_61 x2_61.toNatClampNeg x1_34) _ _ _ h hP hD hS (lv_sub hl [1, 2, 0] rfl)
            have h := hv7
            exact L61_n6 1000 0 wt_34 _ _ _ h hP hD hS (lv_sub hl [1, 2, 0] rfl)
    exact L34_n4 1000 1 r3 v2 _ _ _ h hP hD hS (lv_sub hl [1, 0] rfl)
  clear h
  have L2_n1 : ∀ (n : Nat) (x1_2 : Int32) (wt_2 : Nat → Int32) (H : Heap) (locs : List Loc) (ls : Array Slot), fX3_tryWaiting_L2  n x1_2 wt_2 = some v2 → va_P D vwCl (W3 cy qa P T S nw hz ak pa wt_2 cd ln) H → va_D A (W3 cy qa P T S nw hz ak pa wt_2 cd ln) → va_S A s.heap H locs → lv_has ls 3 [(0, .ref (qa 0 0)), (1, .int x1_2)] → W p l e ({ frames := 5, cells := 0, slots := 0, locals := 116 } : Room) s m args below meth c H locs 0 0 Q (F0 m 2 ls []) := by
    intro n
    induction n with
    | zero =>
      intro x1_2 wt_2 H locs ls h hP hD hS hl
      exact pq_n h
    | succ n ih2 =>
      intro x1_2 wt_2 H locs ls h hP hD hS hl
      rw [fX3_tryWaiting_L2] at h
      refine lv_iload_n hx hb dX3_tryWaiting_2 rfl (lv_at hl 1 rfl) ?_
      refine lv_bipush (v := 8) hx hb dX3_tryWaiting_3 (by decide) ?_
      refine lv_icmp_ge (tgt := 21) hx hb dX3_tryWaiting_5 (by decide) (fun c1_ => ?_) (fun c1_ => ?_)
      · have h := pq_t c1_ h
        obtain rfl := Option.some.inj h
        exact X21_v2 _ _ _ hP hD hS (lv_sub hl [0] rfl)
      · have h := pq_e c1_ h
        refine lv_aload_n hx hb dX3_tryWaiting_8 rfl (lv_at hl 0 rfl) ?_
        refine va_get (D := D) (ci := 3) (v := .ref (qa 0 3)) (C := RX3) (T := TX3) (N := 7) hx hb hts hin3 hown hK hP 0 rfl rfl 4 (by decide) (hta _ aw_128) (fun _ h9 => h9) rfl dX3_tryWaiting_9 ?_
        refine lv_iload_n hx hb dX3_tryWaiting_12 rfl (lv_at hl 1 rfl) ?_
        refine lv_iconst (v := (-1)) hx hb dX3_tryWaiting_13 (by decide) ?_
        obtain ⟨hg, h⟩ := pq_g h
        refine va_iast hx hb hK hP hD hS 3 0 rfl rfl (pq_vp hg) dX3_tryWaiting_14 (fun H locs hP hD hS => ?_)
        have hP : va_P D vwCl (W3 cy qa P T S nw hz ak pa (upd wt_2 x1_2.toNatClampNeg (-1)) cd ln) H := hP
        have hD : va_D A (W3 cy qa P T S nw hz ak pa (upd wt_2 x1_2.toNatClampNeg (-1)) cd ln) := hD
        refine lv_iinc (v := x1_2 + 1) (lv' := [(1, .int (x1_2 + 1)), (0, .ref (qa 0 0))]) hx hb dX3_tryWaiting_15 hl (k := 1) rfl (by first | rfl | decide) (by decide) rfl (fun ls hl => ?_)
        refine lv_goto (tgt := 2) hx hb dX3_tryWaiting_18 (by decide) ?_
        exact ih2 (x1_2 + 1) (upd wt_2 x1_2.toNatClampNeg (-1)) _ _ _ h hP hD hS (lv_sub hl [1, 0] rfl)
  have h := hv2
  exact L2_n1 1000 0 wt _ _ _ h hP hD hS (lv_sub hl [1, 0] rfl)

def aX3_waitsFor : List Cond := Cond.code yX3_waitsFor cX3_waitsFor 2 (some .int) :: pw_all
theorem pX3_waitsFor : yX3_waitsFor.cls = RX3 ∧ yX3_waitsFor.cls ≠ "java/lang/invoke/MethodHandle" ∧ yX3_waitsFor.cls ≠ "java/lang/invoke/VarHandle" ∧ (parseMethodDescriptor yX3_waitsFor.desc).map (fun d => d.parameters.length) = some 1 := by decide +kernel
set_option maxHeartbeats 8000000 in
set_option maxRecDepth 100000 in
theorem kX3_waitsFor (l : Launch) (D : va_G) (cy : Nat → ClassId) (qa : Nat → Nat → Nat) (sz : Nat) (P : Nat → Nat → Int32) (T : Nat → Nat → Int32) (S : Nat → Nat → Nat → Int32) (nw : Int32) (hz : Int32) (ak : Nat → Int32) (pa : Nat → Int32) (wt : Nat → Int32) (cd : Nat → Int32) (ln : Int32) (x1 : Int32) (o : Int32 × (Nat → Nat → Int32) × (Nat → Int32)) (h : fX3_waitsFor x1 P T wt = some (Sum.inr o)) : Met l yX3_waitsFor aX3_waitsFor ({ frames := 6, cells := 0, slots := 0, locals := 138 }) (pw_Pre D cy [.ref (qa 0 0), .int x1] (W3 cy qa P T S nw hz ak pa wt cd ln) sz) (pw_I D o.1 (W3 cy qa P T S nw hz ak pa wt cd ln) (W3 cy qa P o.2.1 S nw hz ak pa o.2.2 cd ln) sz) 0 0 (va_A (W3 cy qa P T S nw hz ak pa wt cd ln) sz) := by
  refine pw_met (cc := cX3_waitsFor) (maxL := 2) (ret := (some .int)) (by decide) rfl (Nat.le_of_ble_eq_true rfl) ?_
  intro p e s m args below meth c ls A hx hb hr hml hlk hts hown hAe hA hK hP hD hS hl
  have hl : lv_has ls 2 [(0, .ref (qa 0 0)), (1, .int x1)] := hl
  generalize hQ : MQ below (pw_I D o.1 (W3 cy qa P T S nw hz ak pa wt cd ln) (W3 cy qa P o.2.1 S nw hz ak pa o.2.2 cd ln) sz) args s 0 0 (va_A (W3 cy qa P T S nw hz ak pa wt cd ln) sz) = Q
  have hF : CallFix p m c cX3_waitsFor 2 s args aX3_waitsFor RX3 := ⟨hx, hb, hml, hown, hts⟩
  have hta : ∀ w ∈ pw_all, w.before args s = true := fun w h => hts w (List.mem_cons_of_mem _ h)
  have hin3 : ∀ w ∈ wsX30, w ∈ aX3_waitsFor := fun w h => List.mem_cons_of_mem _ (inA3 w h)
  have hin2 : ∀ w ∈ wsX20, w ∈ aX3_waitsFor := fun w h => List.mem_cons_of_mem _ (inA2 w h)
  have hin1 : ∀ w ∈ wsX10, w ∈ aX3_waitsFor := fun w h => List.mem_cons_of_mem _ (inA1 w h)
  have hin0 : ∀ w ∈ wsX00, w ∈ aX3_waitsFor := fun w h => List.mem_cons_of_mem _ (inA0 w h)
  unfold fX3_waitsFor at h
  refine lv_iload_n hx hb dX3_waitsFor_0 rfl (lv_at hl 1 rfl) ?_
  obtain ⟨r1, hr1, h⟩ := pq_b h
  obtain ⟨a2, rfl, h⟩ := pq_inr h
  refine pw_sv (rest := []) (As := [.int x1]) hF (kX3_requireOwner l D cy _ x1 a2 hr1) (cwS 1 hts (pw_gS (own := RX3) (idx := 43) (y := yX3_requireOwner) aw_436 aw_437 aw_1 aw_438) rfl rfl rfl pX3_requireOwner ⟨Nat.le_of_ble_eq_true rfl, Nat.le_of_ble_eq_true rfl⟩) hK hP hS hA rfl hl.1 rfl (Nat.le_of_ble_eq_true rfl) dX3_waitsFor_1 ⟨Nat.zero_le _, Nat.zero_le _⟩ (fun H locs hP hS => ?_)
  refine lv_aload_n hx hb dX3_waitsFor_4 rfl (lv_at hl 0 rfl) ?_
  obtain ⟨r3, hr3, h⟩ := pq_b h
  refine pw_cv (w1 := W3 cy qa P r3.1 S nw hz ak pa r3.2 cd ln) (rest := []) (As := []) hF (kX3_tryWaiting l D cy qa _ P T S nw hz ak pa wt cd ln  r3 hr3) (cwV 0 hts (pw_gV (own := RX3) (idx := 217) (C := RX3) (y := yX3_tryWaiting) aw_363 aw_365 aw_s10 aw_1 aw_366) rfl rfl rfl pX3_tryWaiting ⟨Nat.le_of_ble_eq_true rfl, Nat.le_of_ble_eq_true rfl⟩) (va_recv hK hP (ci := 3) (q0 := 0) rfl rfl) hK hP hD hS hA rfl rfl hl.1 rfl (Nat.le_of_ble_eq_true rfl) dX3_waitsFor_5 ⟨Nat.zero_le _, Nat.zero_le _⟩ (fun H locs hP hD hS => ?_)
  refine lv_aload_n hx hb dX3_waitsFor_8 rfl (lv_at hl 0 rfl) ?_
  refine va_get (D := D) (ci := 3) (v := .ref (qa 0 3)) (C := RX3) (T := TX3) (N := 7) hx hb hts hin3 hown hK hP 0 rfl rfl 4 (by decide) (hta _ aw_128) (fun _ h9 => h9) rfl dX3_waitsFor_9 ?_
  refine lv_iload_n hx hb dX3_waitsFor_12 rfl (lv_at hl 1 rfl) ?_
  obtain ⟨hg, h⟩ := pq_g h
  refine va_iald hx hb hK hP 3 0 rfl rfl (pq_vp hg) dX3_waitsFor_13 ?_
  obtain rfl := Sum.inr.inj (Option.some.inj h)
  subst hQ
  exact pw_ri hx hb hr hlk hAe hP hS rfl dX3_waitsFor_14

def aX3_blocker : List Cond := Cond.code yX3_blocker cX3_blocker 5 (some .int) :: pw_all
theorem pX3_blocker : yX3_blocker.cls = RX3 ∧ yX3_blocker.cls ≠ "java/lang/invoke/MethodHandle" ∧ yX3_blocker.cls ≠ "java/lang/invoke/VarHandle" ∧ (parseMethodDescriptor yX3_blocker.desc).map (fun d => d.parameters.length) = some 0 := by decide +kernel
set_option maxHeartbeats 8000000 in
set_option maxRecDepth 100000 in
theorem kX3_blocker (l : Launch) (D : va_G) (cy : Nat → ClassId) (qa : Nat → Nat → Nat) (sz : Nat) (P : Nat → Nat → Int32) (T : Nat → Nat → Int32) (S : Nat → Nat → Nat → Int32) (nw : Int32) (hz : Int32) (ak : Nat → Int32) (pa : Nat → Int32) (wt : Nat → Int32) (cd : Nat → Int32) (ln : Int32)  (o : Int32) (h : fX3_blocker P = some o) : Met l yX3_blocker aX3_blocker ({ frames := 1, cells := 0, slots := 0, locals := 23 }) (pw_Pre D cy [.ref (qa 0 0)] (W3 cy qa P T S nw hz ak pa wt cd ln) sz) (pw_I D o (W3 cy qa P T S nw hz ak pa wt cd ln) (W3 cy qa P T S nw hz ak pa wt cd ln) sz) 0 0 (va_A (W3 cy qa P T S nw hz ak pa wt cd ln) sz) := by
  refine pw_met (cc := cX3_blocker) (maxL := 5) (ret := (some .int)) (by decide) rfl (Nat.le_of_ble_eq_true rfl) ?_
  intro p e s m args below meth c ls A hx hb hr hml hlk hts hown hAe hA hK hP hD hS hl
  have hl : lv_has ls 5 [(0, .ref (qa 0 0))] := hl
  generalize hQ : MQ below (pw_I D o (W3 cy qa P T S nw hz ak pa wt cd ln) (W3 cy qa P T S nw hz ak pa wt cd ln) sz) args s 0 0 (va_A (W3 cy qa P T S nw hz ak pa wt cd ln) sz) = Q
  have hF : CallFix p m c cX3_blocker 5 s args aX3_blocker RX3 := ⟨hx, hb, hml, hown, hts⟩
  have hta : ∀ w ∈ pw_all, w.before args s = true := fun w h => hts w (List.mem_cons_of_mem _ h)
  have hin3 : ∀ w ∈ wsX30, w ∈ aX3_blocker := fun w h => List.mem_cons_of_mem _ (inA3 w h)
  have hin2 : ∀ w ∈ wsX20, w ∈ aX3_blocker := fun w h => List.mem_cons_of_mem _ (inA2 w h)
  have hin1 : ∀ w ∈ wsX10, w ∈ aX3_blocker := fun w h => List.mem_cons_of_mem _ (inA1 w h)
  have hin0 : ∀ w ∈ wsX00, w ∈ aX3_blocker := fun w h => List.mem_cons_of_mem _ (inA0 w h)
  unfold fX3_blocker at h
  refine lv_aload_n hx hb dX3_blocker_0 rfl (lv_at hl 0 rfl) ?_
  refine va_get (D := D) (ci := 3) (v := .ref (qa 1 0)) (C := RX3) (T := TX3) (N := 7) hx hb hts hin3 hown hK hP 0 rfl rfl 0 (by decide) (hta _ aw_124) (fun _ h9 => h9) rfl dX3_blocker_1 ?_
  refine va_get (D := D) (ci := 2) (v := .int (P 14 0)) (C := RX2) (T := TX2) (N := 16) hx hb hts hin2 hown hK hP 21 rfl rfl 14 (by decide) (hta _ aw_51) (fun _ h9 => h9) rfl dX3_blocker_4 ?_
  refine lv_if_ne (tgt := 12) hx hb dX3_blocker_7 (by decide) (fun c1_ => ?_) (fun c1_ => ?_)
  · have h := pq_e c1_ h
    refine lv_iconst (v := 0) hx hb dX3_blocker_12 (by decide) ?_
    refine lv_istore_n (lv' := [(1, .int 0), (0, .ref (qa 0 0))]) hx hb dX3_blocker_13 rfl hl (by decide) rfl (fun ls hl => ?_)
    refine lv_iconst (v := (-1)) hx hb dX3_blocker_14 (by decide) ?_
    refine lv_istore_n (lv' := [(2, .int (-1)), (1, .int 0), (0, .ref (qa 0 0))]) hx hb dX3_blocker_15 rfl hl (by decide) rfl (fun ls hl => ?_)
    refine lv_iconst (v := 0) hx hb dX3_blocker_16 (by decide) ?_
    refine lv_istore_n (lv' := [(3, .int 0), (2, .int (-1)), (1, .int 0), (0, .ref (qa 0 0))]) hx hb dX3_blocker_17 rfl hl (by decide) rfl (fun ls hl => ?_)
    have L18_n1 : ∀ (n : Nat) (x1_18 : Int32) (x2_18 : Int32) (x3_18 : Int32) (H : Heap) (locs : List Loc) (ls : Array Slot), fX3_blocker_L18 P n x1_18 x2_18 x3_18 = some o → va_P D vwCl (W3 cy qa P T S nw hz ak pa wt cd ln) H → va_D A (W3 cy qa P T S nw hz ak pa wt cd ln) → va_S A s.heap H locs → lv_has ls 5 [(0, .ref (qa 0 0)), (1, .int x1_18), (2, .int x2_18), (3, .int x3_18)] → W p l e ({ frames := 1, cells := 0, slots := 0, locals := 23 } : Room) s m args below meth c H locs 0 0 Q (F0 m 18 ls []) := by
      intro n
      induction n with
      | zero =>
        intro x1_18 x2_18 x3_18 H locs ls h hP hD hS hl
        exact pq_n h
      | succ n ih18 =>
        intro x1_18 x2_18 x3_18 H locs ls h hP hD hS hl
        rw [fX3_blocker_L18] at h
        refine lv_iload_n hx hb dX3_blocker_18 rfl (lv_at hl 3 rfl) ?_
        refine lv_bipush (v := 8) hx hb dX3_blocker_19 (by decide) ?_
        refine lv_icmp_ge (tgt := 51) hx hb dX3_blocker_21 (by decide) (fun c2_ => ?_) (fun c2_ => ?_)
        · have h := pq_t c2_ h
          refine lv_iload_n hx hb dX3_blocker_51 rfl (lv_at hl 2 rfl) ?_
          obtain rfl := Option.some.inj h
          subst hQ
          exact pw_ri hx hb hr hlk hAe hP hS rfl dX3_blocker_52
        · have h := pq_e c2_ h
          refine lv_aload_n hx hb dX3_blocker_24 rfl (lv_at hl 0 rfl) ?_
          refine va_get (D := D) (ci := 3) (v := .ref (qa 1 0)) (C := RX3) (T := TX3) (N := 7) hx hb hts hin3 hown hK hP 0 rfl rfl 0 (by decide) (hta _ aw_124) (fun _ h9 => h9) rfl dX3_blocker_25 ?_
          refine lv_iload_n hx hb dX3_blocker_28 rfl (lv_at hl 3 rfl) ?_
          obtain ⟨r2, hr2, h⟩ := pq_b h
          refine pw_fi (ws0 := W3 cy qa P T S nw hz ak pa wt cd ln) (ws1 := W3 cy qa P T S nw hz ak pa wt cd ln) (wc := WP cy (qa 1) P) (w1 := WP cy (qa 1) P) (rest := []) (As := [.int x3_18]) hF (kX2_lentCount l D cy (qa 1) _ P x3_18 r2 hr2) (cwV 1 hts (pw_gV (own := RX3) (idx := 100) (C := RX2) (y := yX2_lentCount) aw_255 aw_186 aw_187 aw_2 aw_188) rfl rfl rfl pX2_lentCount ⟨Nat.le_of_ble_eq_true rfl, Nat.le_of_ble_eq_true rfl⟩) 2 (RX2, TX2, 16) rfl rfl ⟨0, _, rfl⟩ hK hP hD hS hA (pw_s3 _ _ _ _ _) (pw_s3 _ _ _ _ _) rfl rfl hl.1 rfl (Nat.le_of_ble_eq_true rfl) dX3_blocker_29 ⟨Nat.zero_le _, Nat.zero_le _⟩ (fun H locs hP hD hS => ?_)
          refine lv_istore (lv' := [(4, .int r2), (0, .ref (qa 0 0)), (1, .int x1_18), (2, .int x2_18), (3, .int x3_18)]) hx hb dX3_blocker_32 hl (by decide) rfl (fun ls hl => ?_)
          refine lv_iload hx hb dX3_blocker_34 (lv_at hl 0 rfl) ?_
          refine lv_iload_n hx hb dX3_blocker_36 rfl (lv_at hl 2 rfl) ?_
          refine lv_icmp_le (tgt := 45) hx hb dX3_blocker_37 (by decide) (fun c3_ => ?_) (fun c3_ => ?_)
          · have h := pq_t c3_ h
            refine lv_iinc (v := x3_18 + 1) (lv' := [(3, .int (x3_18 + 1)), (4, .int r2), (0, .ref (qa 0 0)), (1, .int x1_18), (2, .int x2_18)]) hx hb dX3_blocker_45 hl (k := 4) rfl (by first | rfl | decide) (by decide) rfl (fun ls hl => ?_)
            refine lv_goto (tgt := 18) hx hb dX3_blocker_48 (by decide) ?_
            exact ih18 x1_18 x2_18 (x3_18 + 1) _ _ _ h hP hD hS (lv_sub hl [2, 3, 4, 0] rfl)
          · have h := pq_e c3_ h
            refine lv_iload hx hb dX3_blocker_40 (lv_at hl 0 rfl) ?_
            refine lv_istore_n (lv' := [(1, .int r2), (4, .int r2), (0, .ref (qa 0 0)), (2, .int x2_18), (3, .int x3_18)]) hx hb dX3_blocker_42 rfl hl (by decide) rfl (fun ls hl => ?_)
            refine lv_iload_n hx hb dX3_blocker_43 rfl (lv_at hl 4 rfl) ?_
            refine lv_istore_n (lv' := [(2, .int x3_18), (1, .int r2), (4, .int r2), (0, .ref (qa 0 0)), (3, .int x3_18)]) hx hb dX3_blocker_44 rfl hl (by decide) rfl (fun ls hl => ?_)
            refine lv_iinc (v := x3_18 + 1) (lv' := [(3, .int (x3_18 + 1)), (2, .int x3_18), (1, .int r2), (4, .int r2), (0, .ref (qa 0 0))]) hx hb dX3_blocker_45 hl (k := 4) rfl (by first | rfl | decide) (by decide) rfl (fun ls hl => ?_)
            refine lv_goto (tgt := 18) hx hb dX3_blocker_48 (by decide) ?_
            exact ih18 r2 x3_18 (x3_18 + 1) _ _ _ h hP hD hS (lv_sub hl [4, 2, 1, 0] rfl)
    exact L18_n1 1000 0 (-1) 0 _ _ _ h hP hD hS (lv_sub hl [3, 2, 1, 0] rfl)
  · have h := pq_t c1_ h
    refine lv_iconst (v := (-1)) hx hb dX3_blocker_10 (by decide) ?_
    obtain rfl := Option.some.inj h
    subst hQ
    exact pw_ri hx hb hr hlk hAe hP hS rfl dX3_blocker_11

def aX3_fairness : List Cond := Cond.code yX3_fairness cX3_fairness 5 (some .double) :: pw_all
theorem pX3_fairness : yX3_fairness.cls = RX3 ∧ yX3_fairness.cls ≠ "java/lang/invoke/MethodHandle" ∧ yX3_fairness.cls ≠ "java/lang/invoke/VarHandle" ∧ (parseMethodDescriptor yX3_fairness.desc).map (fun d => d.parameters.length) = some 0 := by decide +kernel
set_option maxHeartbeats 8000000 in
set_option maxRecDepth 100000 in
theorem kX3_fairness (l : Launch) (D : va_G) (cy : Nat → ClassId) (qa : Nat → Nat → Nat) (sz : Nat) (P : Nat → Nat → Int32) (T : Nat → Nat → Int32) (S : Nat → Nat → Nat → Int32) (nw : Int32) (hz : Int32) (ak : Nat → Int32) (pa : Nat → Int32) (wt : Nat → Int32) (cd : Nat → Int32) (ln : Int32)  (o : UInt64) (h : fX3_fairness P = some o) : Met l yX3_fairness aX3_fairness ({ frames := 1, cells := 0, slots := 0, locals := 21 }) (pw_Pre D cy [.ref (qa 0 0)] (W3 cy qa P T S nw hz ak pa wt cd ln) sz) (pw_F D o (W3 cy qa P T S nw hz ak pa wt cd ln) (W3 cy qa P T S nw hz ak pa wt cd ln) sz) 0 0 (va_A (W3 cy qa P T S nw hz ak pa wt cd ln) sz) := by
  refine pw_met (cc := cX3_fairness) (maxL := 5) (ret := (some .double)) (by decide) rfl (Nat.le_of_ble_eq_true rfl) ?_
  intro p e s m args below meth c ls A hx hb hr hml hlk hts hown hAe hA hK hP hD hS hl
  have hl : lv_has ls 5 [(0, .ref (qa 0 0))] := hl
  generalize hQ : MQ below (pw_F D o (W3 cy qa P T S nw hz ak pa wt cd ln) (W3 cy qa P T S nw hz ak pa wt cd ln) sz) args s 0 0 (va_A (W3 cy qa P T S nw hz ak pa wt cd ln) sz) = Q
  have hF : CallFix p m c cX3_fairness 5 s args aX3_fairness RX3 := ⟨hx, hb, hml, hown, hts⟩
  have hta : ∀ w ∈ pw_all, w.before args s = true := fun w h => hts w (List.mem_cons_of_mem _ h)
  have hin3 : ∀ w ∈ wsX30, w ∈ aX3_fairness := fun w h => List.mem_cons_of_mem _ (inA3 w h)
  have hin2 : ∀ w ∈ wsX20, w ∈ aX3_fairness := fun w h => List.mem_cons_of_mem _ (inA2 w h)
  have hin1 : ∀ w ∈ wsX10, w ∈ aX3_fairness := fun w h => List.mem_cons_of_mem _ (inA1 w h)
  have hin0 : ∀ w ∈ wsX00, w ∈ aX3_fairness := fun w h => List.mem_cons_of_mem _ (inA0 w h)
  unfold fX3_fairness at h
  refine lv_iconst (v := 0) hx hb dX3_fairness_0 (by decide) ?_
  refine lv_istore_n (lv' := [(1, .int 0), (0, .ref (qa 0 0))]) hx hb dX3_fairness_1 rfl hl (by decide) rfl (fun ls hl => ?_)
  refine lv_iconst (v := 0) hx hb dX3_fairness_2 (by decide) ?_
  refine lv_istore_n (lv' := [(2, .int 0), (1, .int 0), (0, .ref (qa 0 0))]) hx hb dX3_fairness_3 rfl hl (by decide) rfl (fun ls hl => ?_)
  refine lv_iconst (v := 0) hx hb dX3_fairness_4 (by decide) ?_
  refine lv_istore_n (lv' := [(3, .int 0), (2, .int 0), (1, .int 0), (0, .ref (qa 0 0))]) hx hb dX3_fairness_5 rfl hl (by decide) rfl (fun ls hl => ?_)
  obtain ⟨v2, hv2, h⟩ := pq_b h
  have X54_v2 : ∀ (H : Heap) (locs : List Loc) (ls : Array Slot), va_P D vwCl (W3 cy qa P T S nw hz ak pa wt cd ln) H → va_D A (W3 cy qa P T S nw hz ak pa wt cd ln) → va_S A s.heap H locs → lv_has ls 5 [(1, .int v2.1), (2, .int v2.2)] → W p l e ({ frames := 1, cells := 0, slots := 0, locals := 21 } : Room) s m args below meth c H locs 0 0 Q (F0 m 54 ls []) := by
    intro H locs ls hP hD hS hl
    refine lv_iload_n hx hb dX3_fairness_54 rfl (lv_at hl 1 rfl) ?_
    refine lv_if_ne (tgt := 62) hx hb dX3_fairness_55 (by decide) (fun c5_ => ?_) (fun c5_ => ?_)
    · have h := pq_e c5_ h
      refine lv_iload_n hx hb dX3_fairness_62 rfl (lv_at hl 0 rfl) ?_
      refine lv_i2d hx hb dX3_fairness_63 ?_
      refine lv_iload_n hx hb dX3_fairness_64 rfl (lv_at hl 1 rfl) ?_
      refine lv_i2d hx hb dX3_fairness_65 ?_
      obtain ⟨hg, h⟩ := pq_g h
      refine lv_ddiv hx hb dX3_fairness_66 (pq_nv hg) ?_
      obtain rfl := Option.some.inj h
      subst hQ
      exact pw_rd hx hb hr hlk hAe hP hS rfl dX3_fairness_67
    · have h := pq_t c5_ h
      refine lv_dconst1 hx hb dX3_fairness_58 ?_
      refine lv_goto (tgt := 67) hx hb dX3_fairness_59 (by decide) ?_
      obtain rfl := Option.some.inj h
      subst hQ
      exact pw_rd hx hb hr hlk hAe hP hS rfl dX3_fairness_67
  clear h
  have L6_n1 : ∀ (n : Nat) (x1_6 : Int32) (x2_6 : Int32) (x3_6 : Int32) (H : Heap) (locs : List Loc) (ls : Array Slot), fX3_fairness_L6 P n x1_6 x2_6 x3_6 = some v2 → va_P D vwCl (W3 cy qa P T S nw hz ak pa wt cd ln) H → va_D A (W3 cy qa P T S nw hz ak pa wt cd ln) → va_S A s.heap H locs → lv_has ls 5 [(0, .ref (qa 0 0)), (1, .int x1_6), (2, .int x2_6), (3, .int x3_6)] → W p l e ({ frames := 1, cells := 0, slots := 0, locals := 21 } : Room) s m args below meth c H locs 0 0 Q (F0 m 6 ls []) := by
    intro n
    induction n with
    | zero =>
      intro x1_6 x2_6 x3_6 H locs ls h hP hD hS hl
      exact pq_n h
    | succ n ih6 =>
      intro x1_6 x2_6 x3_6 H locs ls h hP hD hS hl
      rw [fX3_fairness_L6] at h
      refine lv_iload_n hx hb dX3_fairness_6 rfl (lv_at hl 3 rfl) ?_
      refine lv_bipush (v := 8) hx hb dX3_fairness_7 (by decide) ?_
      refine lv_icmp_ge (tgt := 54) hx hb dX3_fairness_9 (by decide) (fun c1_ => ?_) (fun c1_ => ?_)
      · have h := pq_t c1_ h
        obtain rfl := Option.some.inj h
        exact X54_v2 _ _ _ hP hD hS (lv_sub hl [1, 2] rfl)
      · have h := pq_e c1_ h
        refine lv_aload_n hx hb dX3_fairness_12 rfl (lv_at hl 0 rfl) ?_
        refine va_get (D := D) (ci := 3) (v := .ref (qa 1 0)) (C := RX3) (T := TX3) (N := 7) hx hb hts hin3 hown hK hP 0 rfl rfl 0 (by decide) (hta _ aw_124) (fun _ h9 => h9) rfl dX3_fairness_13 ?_
        refine va_get (D := D) (ci := 2) (v := .ref (qa 1 9)) (C := RX2) (T := TX2) (N := 16) hx hb hts hin2 hown hK hP 21 rfl rfl 9 (by decide) (hta _ aw_45) (fun _ h9 => h9) rfl dX3_fairness_16 ?_
        refine lv_iload_n hx hb dX3_fairness_19 rfl (lv_at hl 3 rfl) ?_
        obtain ⟨hg, h⟩ := pq_g h
        refine va_iald hx hb hK hP 30 0 rfl rfl (pq_vp hg) dX3_fairness_20 ?_
        refine lv_istore (lv' := [(4, .int ((P 9) x3_6.toNatClampNeg)), (0, .ref (qa 0 0)), (1, .int x1_6), (2, .int x2_6), (3, .int x3_6)]) hx hb dX3_fairness_21 hl (by decide) rfl (fun ls hl => ?_)
        refine lv_iload hx hb dX3_fairness_23 (lv_at hl 0 rfl) ?_
        obtain ⟨v3, hv3, h⟩ := pq_b h
        have J41_v3 : ∀ (H : Heap) (locs : List Loc) (ls : Array Slot), va_P D vwCl (W3 cy qa P T S nw hz ak pa wt cd ln) H → va_D A (W3 cy qa P T S nw hz ak pa wt cd ln) → va_S A s.heap H locs → lv_has ls 5 [(0, .ref (qa 0 0)), (1, .int v3), (2, .int x2_6), (3, .int x3_6), (4, .int ((P 9) x3_6.toNatClampNeg))] → W p l e ({ frames := 1, cells := 0, slots := 0, locals := 21 } : Room) s m args below meth c H locs 0 0 Q (F0 m 41 ls []) := by
          intro H locs ls hP hD hS hl
          refine lv_iload_n hx hb dX3_fairness_41 rfl (lv_at hl 2 rfl) ?_
          refine lv_iload hx hb dX3_fairness_42 (lv_at hl 4 rfl) ?_
          refine va_mmax hx hb (by rw [hml]; exact hl.1.symm) (own := RX3) (index := 226) hown (hta _ aw_260) (hta _ aw_261) (hta _ aw_12) (hta _ aw_262) (Nat.le_of_ble_eq_true rfl) (Nat.le_of_ble_eq_true rfl) (Nat.zero_le _) (Nat.zero_le _) dX3_fairness_44 ?_
          refine lv_istore_n (lv' := [(2, .int (if x2_6 < (P 9) x3_6.toNatClampNeg then (P 9) x3_6.toNatClampNeg else x2_6)), (0, .ref (qa 0 0)), (1, .int v3), (3, .int x3_6), (4, .int ((P 9) x3_6.toNatClampNeg))]) hx hb dX3_fairness_47 rfl hl (by decide) rfl (fun ls hl => ?_)
          refine lv_iinc (v := x3_6 + 1) (lv' := [(3, .int (x3_6 + 1)), (2, .int (if x2_6 < (P 9) x3_6.toNatClampNeg then (P 9) x3_6.toNatClampNeg else x2_6)), (0, .ref (qa 0 0)), (1, .int v3), (4, .int ((P 9) x3_6.toNatClampNeg))]) hx hb dX3_fairness_48 hl (k := 3) rfl (by first | rfl | decide) (by decide) rfl (fun ls hl => ?_)
          refine lv_goto (tgt := 6) hx hb dX3_fairness_51 (by decide) ?_
          exact ih6 v3 (if x2_6 < (P 9) x3_6.toNatClampNeg then (P 9) x3_6.toNatClampNeg else x2_6) (x3_6 + 1) _ _ _ h hP hD hS (lv_sub hl [2, 3, 1, 0] rfl)
        clear h
        have h := hv3
        clear hv3
        refine lv_if_le (tgt := 41) hx hb dX3_fairness_25 (by decide) (fun c2_ => ?_) (fun c2_ => ?_)
        · have h := pq_t c2_ h
          obtain rfl := Option.some.inj h
          exact J41_v3 _ _ _ hP hD hS (lv_sub hl [1, 2, 3, 4, 0] rfl)
        · have h := pq_e c2_ h
          refine lv_iload_n hx hb dX3_fairness_28 rfl (lv_at hl 2 rfl) ?_
          refine lv_if_eq (tgt := 38) hx hb dX3_fairness_29 (by decide) (fun c3_ => ?_) (fun c3_ => ?_)
          · have h := pq_t c3_ h
            refine lv_iload hx hb dX3_fairness_38 (lv_at hl 0 rfl) ?_
            refine lv_istore_n (lv' := [(1, .int ((P 9) x3_6.toNatClampNeg)), (4, .int ((P 9) x3_6.toNatClampNeg)), (0, .ref (qa 0 0)), (2, .int x2_6), (3, .int x3_6)]) hx hb dX3_fairness_40 rfl hl (by decide) rfl (fun ls hl => ?_)
            obtain rfl := Option.some.inj h
            exact J41_v3 _ _ _ hP hD hS (lv_sub hl [2, 0, 3, 4, 1] rfl)
          · have h := pq_e c3_ h
            refine lv_iload hx hb dX3_fairness_32 (lv_at hl 0 rfl) ?_
            refine lv_iload_n hx hb dX3_fairness_34 rfl (lv_at hl 2 rfl) ?_
            refine lv_icmp_ge (tgt := 41) hx hb dX3_fairness_35 (by decide) (fun c4_ => ?_) (fun c4_ => ?_)
            · have h := pq_t c4_ h
              obtain rfl := Option.some.inj h
              exact J41_v3 _ _ _ hP hD hS (lv_sub hl [1, 2, 3, 4, 0] rfl)
            · have h := pq_e c4_ h
              refine lv_iload hx hb dX3_fairness_38 (lv_at hl 0 rfl) ?_
              refine lv_istore_n (lv' := [(1, .int ((P 9) x3_6.toNatClampNeg)), (4, .int ((P 9) x3_6.toNatClampNeg)), (0, .ref (qa 0 0)), (2, .int x2_6), (3, .int x3_6)]) hx hb dX3_fairness_40 rfl hl (by decide) rfl (fun ls hl => ?_)
              obtain rfl := Option.some.inj h
              exact J41_v3 _ _ _ hP hD hS (lv_sub hl [2, 0, 3, 4, 1] rfl)
  have h := hv2
  exact L6_n1 1000 0 0 0 _ _ _ h hP hD hS (lv_sub hl [3, 2, 1, 0] rfl)

def aX3_bitsOfShare : List Cond := Cond.code yX3_bitsOfShare cX3_bitsOfShare 8 (some .long) :: pw_all
theorem pX3_bitsOfShare : yX3_bitsOfShare.cls = RX3 ∧ yX3_bitsOfShare.cls ≠ "java/lang/invoke/MethodHandle" ∧ yX3_bitsOfShare.cls ≠ "java/lang/invoke/VarHandle" ∧ (parseMethodDescriptor yX3_bitsOfShare.desc).map (fun d => d.parameters.length) = some 1 := by decide +kernel
set_option maxHeartbeats 8000000 in
set_option maxRecDepth 100000 in
theorem kX3_bitsOfShare (l : Launch) (D : va_G) (cy : Nat → ClassId) (sz : Nat)  (x0 : UInt64) (o : Int64) (h : fX3_bitsOfShare x0 = some o) : Met l yX3_bitsOfShare aX3_bitsOfShare ({ frames := 0, cells := 0, slots := 0, locals := 0 }) (pw_Pre D cy [.double x0] ([]) sz) (pw_J D o ([]) ([]) sz) 0 0 (va_A ([]) sz) := by
  refine pw_met (cc := cX3_bitsOfShare) (maxL := 8) (ret := (some .long)) (by decide) rfl (Nat.le_of_ble_eq_true rfl) ?_
  intro p e s m args below meth c ls A hx hb hr hml hlk hts hown hAe hA hK hP hD hS hl
  have hl : lv_has ls 8 [(0, .double x0)] := hl
  generalize hQ : MQ below (pw_J D o ([]) ([]) sz) args s 0 0 (va_A ([]) sz) = Q
  have hF : CallFix p m c cX3_bitsOfShare 8 s args aX3_bitsOfShare RX3 := ⟨hx, hb, hml, hown, hts⟩
  have hta : ∀ w ∈ pw_all, w.before args s = true := fun w h => hts w (List.mem_cons_of_mem _ h)
  unfold fX3_bitsOfShare at h
  refine lv_dload_n hx hb dX3_bitsOfShare_0 rfl (lv_at hl 0 rfl) ?_
  refine lv_dstore_n (lv' := [(2, .double x0), (0, .double x0)]) hx hb dX3_bitsOfShare_1 rfl hl (by decide) rfl (fun ls hl => ?_)
  refine lv_ldc2 hx hb hown (hta _ aw_424) dX3_bitsOfShare_2 ?_
  refine lv_lstore (lv' := [(4, .long 1023), (2, .double x0), (0, .double x0)]) hx hb dX3_bitsOfShare_5 hl (by decide) rfl (fun ls hl => ?_)
  refine lv_iconst (v := 0) hx hb dX3_bitsOfShare_7 (by decide) ?_
  refine lv_istore (lv' := [(6, .int 0), (4, .long 1023), (2, .double x0), (0, .double x0)]) hx hb dX3_bitsOfShare_8 hl (by decide) rfl (fun ls hl => ?_)
  obtain ⟨v2, hv2, h⟩ := pq_b h
  have X42_v2 : ∀ (H : Heap) (locs : List Loc) (ls : Array Slot), va_P D vwCl ([]) H → va_D A ([]) → va_S A s.heap H locs → lv_has ls 8 [(2, .double v2.1), (4, .long v2.2)] → W p l e ({ frames := 0, cells := 0, slots := 0, locals := 0 } : Room) s m args below meth c H locs 0 0 Q (F0 m 42 ls []) := by
    intro H locs ls hP hD hS hl
    refine lv_dload_n hx hb dX3_bitsOfShare_42 rfl (lv_at hl 0 rfl) ?_
    refine lv_dconst1 hx hb dX3_bitsOfShare_43 ?_
    obtain ⟨hg, h⟩ := pq_g h
    refine lv_dsub hx hb dX3_bitsOfShare_44 (pq_nv hg) ?_
    refine lv_ldc2d hx hb hown (hta _ aw_426) dX3_bitsOfShare_45 ?_
    obtain ⟨hg, h⟩ := pq_g h
    refine lv_dmul hx hb dX3_bitsOfShare_48 (pq_nv hg) ?_
    refine lv_d2l hx hb dX3_bitsOfShare_49 ?_
    refine lv_lstore (lv' := [(6, .long (FP.d2l (FP.dmul (FP.dsub v2.1 FP.dconst1) 4841369599423283200))), (2, .double v2.1), (4, .long v2.2)]) hx hb dX3_bitsOfShare_50 hl (by decide) rfl (fun ls hl => ?_)
    refine lv_lload hx hb dX3_bitsOfShare_52 (lv_at hl 2 rfl) ?_
    refine lv_bipush (v := 52) hx hb dX3_bitsOfShare_54 (by decide) ?_
    refine lv_lshl (v := v2.2 <<< ((52 : Int32).toInt64 &&& 63)) hx hb dX3_bitsOfShare_56 rfl ?_
    refine lv_lload hx hb dX3_bitsOfShare_57 (lv_at hl 0 rfl) ?_
    refine lv_ladd hx hb dX3_bitsOfShare_59 ?_
    obtain rfl := Option.some.inj h
    subst hQ
    exact pw_rj hx hb hr hlk hAe hP hS rfl dX3_bitsOfShare_60
  clear h
  have L10_n1 : ∀ (n : Nat) (x2_10 : UInt64) (x4_10 : Int64) (x6_10 : Int32) (H : Heap) (locs : List Loc) (ls : Array Slot), fX3_bitsOfShare_L10  n x2_10 x4_10 x6_10 = some v2 → va_P D vwCl ([]) H → va_D A ([]) → va_S A s.heap H locs → lv_has ls 8 [(2, .double x2_10), (4, .long x4_10), (6, .int x6_10)] → W p l e ({ frames := 0, cells := 0, slots := 0, locals := 0 } : Room) s m args below meth c H locs 0 0 Q (F0 m 10 ls []) := by
    intro n
    induction n with
    | zero =>
      intro x2_10 x4_10 x6_10 H locs ls h hP hD hS hl
      exact pq_n h
    | succ n ih10 =>
      intro x2_10 x4_10 x6_10 H locs ls h hP hD hS hl
      rw [fX3_bitsOfShare_L10] at h
      refine lv_iload hx hb dX3_bitsOfShare_10 (lv_at hl 2 rfl) ?_
      refine lv_sipush (v := 1022) hx hb dX3_bitsOfShare_12 (by decide) ?_
      refine lv_icmp_ge (tgt := 42) hx hb dX3_bitsOfShare_15 (by decide) (fun c1_ => ?_) (fun c1_ => ?_)
      · have h := pq_t c1_ h
        obtain rfl := Option.some.inj h
        exact X42_v2 _ _ _ hP hD hS (lv_sub hl [0, 1] rfl)
      · have h := pq_e c1_ h
        refine lv_dload_n hx hb dX3_bitsOfShare_18 rfl (lv_at hl 0 rfl) ?_
        refine lv_dconst1 hx hb dX3_bitsOfShare_19 ?_
        refine lv_dcmp hx hb dX3_bitsOfShare_20 ?_
        refine lv_if_ge (tgt := 42) hx hb dX3_bitsOfShare_21 (by decide) (fun c2_ => ?_) (fun c2_ => ?_)
        · have h := pq_t c2_ h
          obtain rfl := Option.some.inj h
          exact X42_v2 _ _ _ hP hD hS (lv_sub hl [0, 1] rfl)
        · have h := pq_e c2_ h
          refine lv_dload_n hx hb dX3_bitsOfShare_24 rfl (lv_at hl 0 rfl) ?_
          refine lv_ldc2d hx hb hown (hta _ aw_425) dX3_bitsOfShare_25 ?_
          obtain ⟨hg, h⟩ := pq_g h
          refine lv_dmul hx hb dX3_bitsOfShare_28 (pq_nv hg) ?_
          refine lv_dstore_n (lv' := [(2, .double (FP.dmul x2_10 4611686018427387904)), (4, .long x4_10), (6, .int x6_10)]) hx hb dX3_bitsOfShare_29 rfl hl (by decide) rfl (fun ls hl => ?_)
          refine lv_lload hx hb dX3_bitsOfShare_30 (lv_at hl 1 rfl) ?_
          refine lv_lconst (v := 1) hx hb dX3_bitsOfShare_32 (by decide) ?_
          refine lv_lsub hx hb dX3_bitsOfShare_33 ?_
          refine lv_lstore (lv' := [(4, .long (x4_10 - 1)), (2, .double (FP.dmul x2_10 4611686018427387904)), (6, .int x6_10)]) hx hb dX3_bitsOfShare_34 hl (by decide) rfl (fun ls hl => ?_)
          refine lv_iinc (v := x6_10 + 1) (lv' := [(6, .int (x6_10 + 1)), (4, .long (x4_10 - 1)), (2, .double (FP.dmul x2_10 4611686018427387904))]) hx hb dX3_bitsOfShare_36 hl (k := 2) rfl (by first | rfl | decide) (by decide) rfl (fun ls hl => ?_)
          refine lv_goto (tgt := 10) hx hb dX3_bitsOfShare_39 (by decide) ?_
          exact ih10 (FP.dmul x2_10 4611686018427387904) (x4_10 - 1) (x6_10 + 1) _ _ _ h hP hD hS (lv_sub hl [2, 1, 0] rfl)
  have h := hv2
  exact L10_n1 1000 x0 1023 0 _ _ _ h hP hD hS (lv_sub hl [2, 1, 0] rfl)

def aX3_mixRow : List Cond := Cond.code yX3_mixRow cX3_mixRow 9 (some .long) :: pw_all
theorem pX3_mixRow : yX3_mixRow.cls = RX3 ∧ yX3_mixRow.cls ≠ "java/lang/invoke/MethodHandle" ∧ yX3_mixRow.cls ≠ "java/lang/invoke/VarHandle" ∧ (parseMethodDescriptor yX3_mixRow.desc).map (fun d => d.parameters.length) = some 2 := by decide +kernel
set_option maxHeartbeats 8000000 in
set_option maxRecDepth 100000 in
theorem kX3_mixRow (l : Launch) (D : va_G) (cy : Nat → ClassId) (a0 N : Nat) (hN : N < 2147483648) (sz : Nat) (rw : Nat → Int32) (x0 : Int64) (o : Int64) (h : fX3_mixRow x0 N rw = some o) : Met l yX3_mixRow aX3_mixRow ({ frames := 0, cells := 0, slots := 0, locals := 0 }) (pw_Pre D cy [.long x0, .ref a0] (WR cy a0 N rw) sz) (pw_J D o (WR cy a0 N rw) (WR cy a0 N rw) sz) 0 0 (va_A (WR cy a0 N rw) sz) := by
  refine pw_met (cc := cX3_mixRow) (maxL := 9) (ret := (some .long)) (by decide) rfl (Nat.le_of_ble_eq_true rfl) ?_
  intro p e s m args below meth c ls A hx hb hr hml hlk hts hown hAe hA hK hP hD hS hl
  have hl : lv_has ls 9 [(0, .long x0), (2, .ref a0)] := hl
  generalize hQ : MQ below (pw_J D o (WR cy a0 N rw) (WR cy a0 N rw) sz) args s 0 0 (va_A (WR cy a0 N rw) sz) = Q
  have hF : CallFix p m c cX3_mixRow 9 s args aX3_mixRow RX3 := ⟨hx, hb, hml, hown, hts⟩
  have hta : ∀ w ∈ pw_all, w.before args s = true := fun w h => hts w (List.mem_cons_of_mem _ h)
  unfold fX3_mixRow at h
  refine lv_lload_n hx hb dX3_mixRow_0 rfl (lv_at hl 0 rfl) ?_
  refine lv_lstore_n (lv' := [(3, .long x0), (0, .long x0), (2, .ref a0)]) hx hb dX3_mixRow_1 rfl hl (by decide) rfl (fun ls hl => ?_)
  refine lv_aload_n hx hb dX3_mixRow_2 rfl (lv_at hl 2 rfl) ?_
  refine lv_astore (lv' := [(5, .ref a0), (3, .long x0), (0, .long x0), (2, .ref a0)]) hx hb dX3_mixRow_3 hl (by decide) rfl (fun ls hl => ?_)
  refine lv_aload hx hb dX3_mixRow_5 (lv_at hl 0 rfl) ?_
  refine va_alen hx hb hK hP 0 0 rfl rfl (v := nI N) rfl dX3_mixRow_7 ?_
  refine lv_istore (lv' := [(6, .int (nI N)), (5, .ref a0), (3, .long x0), (0, .long x0), (2, .ref a0)]) hx hb dX3_mixRow_8 hl (by decide) rfl (fun ls hl => ?_)
  refine lv_iconst (v := 0) hx hb dX3_mixRow_10 (by decide) ?_
  refine lv_istore (lv' := [(7, .int 0), (6, .int (nI N)), (5, .ref a0), (3, .long x0), (0, .long x0), (2, .ref a0)]) hx hb dX3_mixRow_11 hl (by decide) rfl (fun ls hl => ?_)
  have L13_n1 : ∀ (n : Nat) (x3_13 : Int64) (x7_13 : Int32) (H : Heap) (locs : List Loc) (ls : Array Slot), fX3_mixRow_L13 rw N n x3_13 x7_13 = some o → va_P D vwCl (WR cy a0 N rw) H → va_D A (WR cy a0 N rw) → va_S A s.heap H locs → lv_has ls 9 [(3, .long x3_13), (5, .ref a0), (6, .int (nI N)), (7, .int x7_13)] → W p l e ({ frames := 0, cells := 0, slots := 0, locals := 0 } : Room) s m args below meth c H locs 0 0 Q (F0 m 13 ls []) := by
    intro n
    induction n with
    | zero =>
      intro x3_13 x7_13 H locs ls h hP hD hS hl
      exact pq_n h
    | succ n ih13 =>
      intro x3_13 x7_13 H locs ls h hP hD hS hl
      rw [fX3_mixRow_L13] at h
      refine lv_iload hx hb dX3_mixRow_13 (lv_at hl 3 rfl) ?_
      refine lv_iload hx hb dX3_mixRow_15 (lv_at hl 2 rfl) ?_
      refine lv_icmp_ge (tgt := 43) hx hb dX3_mixRow_17 (by decide) (fun c1_ => ?_) (fun c1_ => ?_)
      · have h := pq_t c1_ h
        refine lv_lload_n hx hb dX3_mixRow_43 rfl (lv_at hl 0 rfl) ?_
        obtain rfl := Option.some.inj h
        subst hQ
        exact pw_rj hx hb hr hlk hAe hP hS rfl dX3_mixRow_44
      · have h := pq_e c1_ h
        refine lv_aload hx hb dX3_mixRow_20 (lv_at hl 1 rfl) ?_
        refine lv_iload hx hb dX3_mixRow_22 (lv_at hl 3 rfl) ?_
        obtain ⟨hg, h⟩ := pq_g h
        refine va_iald hx hb hK hP 0 0 rfl rfl (pq_vp hg) dX3_mixRow_24 ?_
        refine lv_istore (lv' := [(8, .int (rw x7_13.toNatClampNeg)), (3, .long x3_13), (5, .ref a0), (6, .int (nI N)), (7, .int x7_13)]) hx hb dX3_mixRow_25 hl (by decide) rfl (fun ls hl => ?_)
        refine lv_ldc2 hx hb hown (hta _ aw_268) dX3_mixRow_27 ?_
        refine lv_lload_n hx hb dX3_mixRow_30 rfl (lv_at hl 1 rfl) ?_
        refine lv_lmul hx hb dX3_mixRow_31 ?_
        refine lv_iload hx hb dX3_mixRow_32 (lv_at hl 0 rfl) ?_
        refine lv_i2l (v := (rw x7_13.toNatClampNeg).toInt64) hx hb dX3_mixRow_34 rfl ?_
        refine lv_ladd hx hb dX3_mixRow_35 ?_
        refine lv_lstore_n (lv' := [(3, .long ((31 * x3_13) + ((rw x7_13.toNatClampNeg).toInt64))), (8, .int (rw x7_13.toNatClampNeg)), (5, .ref a0), (6, .int (nI N)), (7, .int x7_13)]) hx hb dX3_mixRow_36 rfl hl (by decide) rfl (fun ls hl => ?_)
        refine lv_iinc (v := x7_13 + 1) (lv' := [(7, .int (x7_13 + 1)), (3, .long ((31 * x3_13) + ((rw x7_13.toNatClampNeg).toInt64))), (8, .int (rw x7_13.toNatClampNeg)), (5, .ref a0), (6, .int (nI N))]) hx hb dX3_mixRow_37 hl (k := 4) rfl (by first | rfl | decide) (by decide) rfl (fun ls hl => ?_)
        refine lv_goto (tgt := 13) hx hb dX3_mixRow_40 (by decide) ?_
        exact ih13 ((31 * x3_13) + ((rw x7_13.toNatClampNeg).toInt64)) (x7_13 + 1) _ _ _ h hP hD hS (lv_sub hl [1, 3, 4, 0] rfl)
  exact L13_n1 1000 x0 0 _ _ _ h hP hD hS (lv_sub hl [3, 2, 1, 0] rfl)

def aX3_digest : List Cond := Cond.code yX3_digest cX3_digest 5 (some .long) :: pw_all
theorem pX3_digest : yX3_digest.cls = RX3 ∧ yX3_digest.cls ≠ "java/lang/invoke/MethodHandle" ∧ yX3_digest.cls ≠ "java/lang/invoke/VarHandle" ∧ (parseMethodDescriptor yX3_digest.desc).map (fun d => d.parameters.length) = some 0 := by decide +kernel
set_option maxHeartbeats 8000000 in
set_option maxRecDepth 100000 in
theorem kX3_digest (l : Launch) (D : va_G) (cy : Nat → ClassId) (qa : Nat → Nat → Nat) (sz : Nat) (P : Nat → Nat → Int32) (T : Nat → Nat → Int32) (S : Nat → Nat → Nat → Int32) (nw : Int32) (hz : Int32) (ak : Nat → Int32) (pa : Nat → Int32) (wt : Nat → Int32) (cd : Nat → Int32) (ln : Int32)  (o : Int64 × (Nat → Nat → Int32) × (Nat → Int32) × (Nat → Int32) × (Nat → Int32)) (h : fX3_digest P T hz ak pa wt cd ln = some o) : Met l yX3_digest aX3_digest ({ frames := 6, cells := 0, slots := 0, locals := 138 }) (pw_Pre D cy [.ref (qa 0 0)] (W3 cy qa P T S nw hz ak pa wt cd ln) sz) (pw_J D o.1 (W3 cy qa P T S nw hz ak pa wt cd ln) (W3 cy qa P o.2.1 S nw hz o.2.2.1 o.2.2.2.1 o.2.2.2.2 cd ln) sz) 0 0 (va_A (W3 cy qa P T S nw hz ak pa wt cd ln) sz) := by
  refine pw_met (cc := cX3_digest) (maxL := 5) (ret := (some .long)) (by decide) rfl (Nat.le_of_ble_eq_true rfl) ?_
  intro p e s m args below meth c ls A hx hb hr hml hlk hts hown hAe hA hK hP hD hS hl
  have hl : lv_has ls 5 [(0, .ref (qa 0 0))] := hl
  generalize hQ : MQ below (pw_J D o.1 (W3 cy qa P T S nw hz ak pa wt cd ln) (W3 cy qa P o.2.1 S nw hz o.2.2.1 o.2.2.2.1 o.2.2.2.2 cd ln) sz) args s 0 0 (va_A (W3 cy qa P T S nw hz ak pa wt cd ln) sz) = Q
  have hF : CallFix p m c cX3_digest 5 s args aX3_digest RX3 := ⟨hx, hb, hml, hown, hts⟩
  have hta : ∀ w ∈ pw_all, w.before args s = true := fun w h => hts w (List.mem_cons_of_mem _ h)
  have hin3 : ∀ w ∈ wsX30, w ∈ aX3_digest := fun w h => List.mem_cons_of_mem _ (inA3 w h)
  have hin2 : ∀ w ∈ wsX20, w ∈ aX3_digest := fun w h => List.mem_cons_of_mem _ (inA2 w h)
  have hin1 : ∀ w ∈ wsX10, w ∈ aX3_digest := fun w h => List.mem_cons_of_mem _ (inA1 w h)
  have hin0 : ∀ w ∈ wsX00, w ∈ aX3_digest := fun w h => List.mem_cons_of_mem _ (inA0 w h)
  unfold fX3_digest at h
  refine lv_ldc2 hx hb hown (hta _ aw_267) dX3_digest_0 ?_
  refine lv_lstore_n (lv' := [(1, .long 2753), (0, .ref (qa 0 0))]) hx hb dX3_digest_3 rfl hl (by decide) rfl (fun ls hl => ?_)
  refine lv_iconst (v := 0) hx hb dX3_digest_4 (by decide) ?_
  refine lv_istore_n (lv' := [(3, .int 0), (1, .long 2753), (0, .ref (qa 0 0))]) hx hb dX3_digest_5 rfl hl (by decide) rfl (fun ls hl => ?_)
  obtain ⟨v2, hv2, h⟩ := pq_b h
  have X31_v2 : ∀ (H : Heap) (locs : List Loc) (ls : Array Slot), va_P D vwCl (W3 cy qa P T S nw hz ak pa wt cd ln) H → va_D A (W3 cy qa P T S nw hz ak pa wt cd ln) → va_S A s.heap H locs → lv_has ls 5 [(0, .ref (qa 0 0)), (1, .long v2)] → W p l e ({ frames := 6, cells := 0, slots := 0, locals := 138 } : Room) s m args below meth c H locs 0 0 Q (F0 m 31 ls []) := by
    intro H locs ls hP hD hS hl
    refine lv_lload_n hx hb dX3_digest_31 rfl (lv_at hl 1 rfl) ?_
    refine lv_aload_n hx hb dX3_digest_32 rfl (lv_at hl 0 rfl) ?_
    refine va_get (D := D) (ci := 3) (v := .ref (qa 1 0)) (C := RX3) (T := TX3) (N := 7) hx hb hts hin3 hown hK hP 0 rfl rfl 0 (by decide) (hta _ aw_124) (fun _ h9 => h9) rfl dX3_digest_33 ?_
    refine va_get (D := D) (ci := 2) (v := .ref (qa 1 1)) (C := RX2) (T := TX2) (N := 16) hx hb hts hin2 hown hK hP 21 rfl rfl 1 (by decide) (hta _ aw_35) (fun _ h9 => h9) rfl dX3_digest_36 ?_
    obtain ⟨r5, hr5, h⟩ := pq_b h
    refine pw_sjf (ws0 := W3 cy qa P T S nw hz ak pa wt cd ln) (wc := WR cy (qa 1 1) 9 (P 1)) (rest := []) (As := [.long v2, .ref (qa 1 1)]) hF (kX3_mixRow l D cy (qa 1 1) 9 (by decide) _ (P 1) v2 r5 hr5) (cwS 2 hts (pw_gS (own := RX3) (idx := 238) (y := yX3_mixRow) aw_352 aw_353 aw_1 aw_354) rfl rfl rfl pX3_mixRow ⟨Nat.le_of_ble_eq_true rfl, Nat.le_of_ble_eq_true rfl⟩) hK hP hD hS hA (pw_at 22 rfl) rfl hl.1 rfl (Nat.le_of_ble_eq_true rfl) dX3_digest_39 ⟨Nat.zero_le _, Nat.zero_le _⟩ (fun H locs hP hD hS => ?_)
    refine lv_lstore_n (lv' := [(1, .long r5), (0, .ref (qa 0 0))]) hx hb dX3_digest_42 rfl hl (by decide) rfl (fun ls hl => ?_)
    refine lv_iconst (v := 0) hx hb dX3_digest_43 (by decide) ?_
    refine lv_istore_n (lv' := [(3, .int 0), (1, .long r5), (0, .ref (qa 0 0))]) hx hb dX3_digest_44 rfl hl (by decide) rfl (fun ls hl => ?_)
    obtain ⟨v7, hv7, h⟩ := pq_b h
    have X91_v7 : ∀ (H : Heap) (locs : List Loc) (ls : Array Slot), va_P D vwCl (W3 cy qa P T S nw hz ak pa wt cd ln) H → va_D A (W3 cy qa P T S nw hz ak pa wt cd ln) → va_S A s.heap H locs → lv_has ls 5 [(0, .ref (qa 0 0)), (1, .long v7)] → W p l e ({ frames := 6, cells := 0, slots := 0, locals := 138 } : Room) s m args below meth c H locs 0 0 Q (F0 m 91 ls []) := by
      intro H locs ls hP hD hS hl
      refine lv_aload_n hx hb dX3_digest_91 rfl (lv_at hl 0 rfl) ?_
      obtain ⟨r11, hr11, h⟩ := pq_b h
      refine pw_cv (w1 := W3 cy qa P r11.1 S nw hz ak pa r11.2 cd ln) (rest := []) (As := []) hF (kX3_tryWaiting l D cy qa _ P T S nw hz ak pa wt cd ln  r11 hr11) (cwV 0 hts (pw_gV (own := RX3) (idx := 217) (C := RX3) (y := yX3_tryWaiting) aw_363 aw_365 aw_s10 aw_1 aw_366) rfl rfl rfl pX3_tryWaiting ⟨Nat.le_of_ble_eq_true rfl, Nat.le_of_ble_eq_true rfl⟩) (va_recv hK hP (ci := 3) (q0 := 0) rfl rfl) hK hP hD hS hA rfl rfl hl.1 rfl (Nat.le_of_ble_eq_true rfl) dX3_digest_92 ⟨Nat.zero_le _, Nat.zero_le _⟩ (fun H locs hP hD hS => ?_)
      refine lv_iconst (v := 0) hx hb dX3_digest_95 (by decide) ?_
      refine lv_istore_n (lv' := [(3, .int 0), (0, .ref (qa 0 0)), (1, .long v7)]) hx hb dX3_digest_96 rfl hl (by decide) rfl (fun ls hl => ?_)
      obtain ⟨v13, hv13, h⟩ := pq_b h
      have X171_v13 : ∀ (H : Heap) (locs : List Loc) (ls : Array Slot), va_P D vwCl (W3 cy qa P v13.2.1 S nw hz v13.2.2 pa r11.2 cd ln) H → va_D A (W3 cy qa P v13.2.1 S nw hz v13.2.2 pa r11.2 cd ln) → va_S A s.heap H locs → lv_has ls 5 [(0, .ref (qa 0 0)), (1, .long v13.1)] → W p l e ({ frames := 6, cells := 0, slots := 0, locals := 138 } : Room) s m args below meth c H locs 0 0 Q (F0 m 171 ls []) := by
        intro H locs ls hP hD hS hl
        refine lv_aload_n hx hb dX3_digest_171 rfl (lv_at hl 0 rfl) ?_
        refine lv_bipush (v := 12) hx hb dX3_digest_172 (by decide) ?_
        obtain ⟨r19, hr19, h⟩ := pq_b h
        refine pw_cv (w1 := W3 cy qa P r19.1 S nw hz v13.2.2 r19.2 r11.2 cd ln) (rest := []) (As := [.int 12]) hF (kX3_tryPassing l D cy qa _ P v13.2.1 S nw hz v13.2.2 pa r11.2 cd ln 12 r19 hr19) (cwV 1 hts (pw_gV (own := RX3) (idx := 214) (C := RX3) (y := yX3_tryPassing) aw_414 aw_416 aw_s15 aw_1 aw_417) rfl rfl rfl pX3_tryPassing ⟨Nat.le_of_ble_eq_true rfl, Nat.le_of_ble_eq_true rfl⟩) (va_recv hK hP (ci := 3) (q0 := 0) rfl rfl) hK hP hD hS hA rfl rfl hl.1 rfl (Nat.le_of_ble_eq_true rfl) dX3_digest_174 ⟨Nat.zero_le _, Nat.zero_le _⟩ (fun H locs hP hD hS => ?_)
        refine lv_lload_n hx hb dX3_digest_177 rfl (lv_at hl 1 rfl) ?_
        refine lv_aload_n hx hb dX3_digest_178 rfl (lv_at hl 0 rfl) ?_
        refine va_get (D := D) (ci := 3) (v := .ref (qa 0 2)) (C := RX3) (T := TX3) (N := 7) hx hb hts hin3 hown hK hP 0 rfl rfl 3 (by decide) (hta _ aw_127) (fun _ h9 => h9) rfl dX3_digest_179 ?_
        obtain ⟨r20, hr20, h⟩ := pq_b h
        refine pw_sjf (ws0 := W3 cy qa P r19.1 S nw hz v13.2.2 r19.2 r11.2 cd ln) (wc := WR cy (qa 0 2) 4 r19.2) (rest := []) (As := [.long v13.1, .ref (qa 0 2)]) hF (kX3_mixRow l D cy (qa 0 2) 4 (by decide) _ r19.2 v13.1 r20 hr20) (cwS 2 hts (pw_gS (own := RX3) (idx := 238) (y := yX3_mixRow) aw_352 aw_353 aw_1 aw_354) rfl rfl rfl pX3_mixRow ⟨Nat.le_of_ble_eq_true rfl, Nat.le_of_ble_eq_true rfl⟩) hK hP hD hS hA (pw_at 2 rfl) rfl hl.1 rfl (Nat.le_of_ble_eq_true rfl) dX3_digest_182 ⟨Nat.zero_le _, Nat.zero_le _⟩ (fun H locs hP hD hS => ?_)
        refine lv_lstore_n (lv' := [(1, .long r20), (0, .ref (qa 0 0))]) hx hb dX3_digest_185 rfl hl (by decide) rfl (fun ls hl => ?_)
        refine lv_ldc2 hx hb hown (hta _ aw_268) dX3_digest_186 ?_
        refine lv_lload_n hx hb dX3_digest_189 rfl (lv_at hl 0 rfl) ?_
        refine lv_lmul hx hb dX3_digest_190 ?_
        refine lv_aload_n hx hb dX3_digest_191 rfl (lv_at hl 1 rfl) ?_
        obtain ⟨r21, hr21, h⟩ := pq_b h
        refine pw_ci (w1 := W3 cy qa P r19.1 S nw hz v13.2.2 r19.2 r11.2 cd ln) (rest := [.long (31 * r20)]) (As := []) hF (kX3_blocker l D cy qa _ P r19.1 S nw hz v13.2.2 r19.2 r11.2 cd ln  r21 hr21) (cwV 0 hts (pw_gV (own := RX3) (idx := 242) (C := RX3) (y := yX3_blocker) aw_419 aw_252 aw_253 aw_1 aw_254) rfl rfl rfl pX3_blocker ⟨Nat.le_of_ble_eq_true rfl, Nat.le_of_ble_eq_true rfl⟩) (va_recv hK hP (ci := 3) (q0 := 0) rfl rfl) hK hP hD hS hA rfl rfl hl.1 rfl (Nat.le_of_ble_eq_true rfl) dX3_digest_192 ⟨Nat.zero_le _, Nat.zero_le _⟩ (fun H locs hP hD hS => ?_)
        refine lv_i2l (v := r21.toInt64) hx hb dX3_digest_195 rfl ?_
        refine lv_ladd hx hb dX3_digest_196 ?_
        refine lv_lstore_n (lv' := [(1, .long ((31 * r20) + r21.toInt64)), (0, .ref (qa 0 0))]) hx hb dX3_digest_197 rfl hl (by decide) rfl (fun ls hl => ?_)
        refine lv_ldc2 hx hb hown (hta _ aw_268) dX3_digest_198 ?_
        refine lv_lload_n hx hb dX3_digest_201 rfl (lv_at hl 0 rfl) ?_
        refine lv_lmul hx hb dX3_digest_202 ?_
        refine lv_aload_n hx hb dX3_digest_203 rfl (lv_at hl 1 rfl) ?_
        obtain ⟨r22, hr22, h⟩ := pq_b h
        refine pw_cd (w1 := W3 cy qa P r19.1 S nw hz v13.2.2 r19.2 r11.2 cd ln) (rest := [.long (31 * ((31 * r20) + r21.toInt64))]) (As := []) hF (kX3_fairness l D cy qa _ P r19.1 S nw hz v13.2.2 r19.2 r11.2 cd ln  r22 hr22) (cwV 0 hts (pw_gV (own := RX3) (idx := 245) (C := RX3) (y := yX3_fairness) aw_420 aw_257 aw_258 aw_1 aw_259) rfl rfl rfl pX3_fairness ⟨Nat.le_of_ble_eq_true rfl, Nat.le_of_ble_eq_true rfl⟩) (va_recv hK hP (ci := 3) (q0 := 0) rfl rfl) hK hP hD hS hA rfl rfl hl.1 rfl (Nat.le_of_ble_eq_true rfl) dX3_digest_204 ⟨Nat.zero_le _, Nat.zero_le _⟩ (fun H locs hP hD hS => ?_)
        obtain ⟨r23, hr23, h⟩ := pq_b h
        refine pw_sj (rest := [.long (31 * ((31 * r20) + r21.toInt64))]) (As := [.double r22]) hF (kX3_bitsOfShare l D cy _ r22 r23 hr23) (cwS 1 hts (pw_gS (own := RX3) (idx := 249) (y := yX3_bitsOfShare) aw_421 aw_422 aw_1 aw_423) rfl rfl rfl pX3_bitsOfShare ⟨Nat.le_of_ble_eq_true rfl, Nat.le_of_ble_eq_true rfl⟩) hK hP hS hA rfl hl.1 rfl (Nat.le_of_ble_eq_true rfl) dX3_digest_207 ⟨Nat.zero_le _, Nat.zero_le _⟩ (fun H locs hP hS => ?_)
        refine lv_ladd hx hb dX3_digest_210 ?_
        refine lv_lstore_n (lv' := [(1, .long ((31 * ((31 * r20) + r21.toInt64)) + r23)), (0, .ref (qa 0 0))]) hx hb dX3_digest_211 rfl hl (by decide) rfl (fun ls hl => ?_)
        refine lv_ldc2 hx hb hown (hta _ aw_268) dX3_digest_212 ?_
        refine lv_lload_n hx hb dX3_digest_215 rfl (lv_at hl 0 rfl) ?_
        refine lv_lmul hx hb dX3_digest_216 ?_
        refine lv_aload_n hx hb dX3_digest_217 rfl (lv_at hl 1 rfl) ?_
        refine va_get (D := D) (ci := 3) (v := .ref (qa 3 0)) (C := RX3) (T := TX3) (N := 7) hx hb hts hin3 hown hK hP 0 rfl rfl 6 (by decide) (hta _ aw_130) (fun _ h9 => h9) rfl dX3_digest_218 ?_
        refine va_get (D := D) (ci := 0) (v := .int ln) (C := RX0) (T := TX0) (N := 2) hx hb hts hin0 hown hK hP 4 rfl rfl 1 (by decide) (hta _ aw_118) (fun _ h9 => h9) rfl dX3_digest_221 ?_
        refine lv_i2l (v := ln.toInt64) hx hb dX3_digest_224 rfl ?_
        refine lv_ladd hx hb dX3_digest_225 ?_
        refine lv_lstore_n (lv' := [(1, .long ((31 * ((31 * ((31 * r20) + r21.toInt64)) + r23)) + ln.toInt64)), (0, .ref (qa 0 0))]) hx hb dX3_digest_226 rfl hl (by decide) rfl (fun ls hl => ?_)
        refine lv_iconst (v := 0) hx hb dX3_digest_227 (by decide) ?_
        refine lv_istore_n (lv' := [(3, .int 0), (1, .long ((31 * ((31 * ((31 * r20) + r21.toInt64)) + r23)) + ln.toInt64)), (0, .ref (qa 0 0))]) hx hb dX3_digest_228 rfl hl (by decide) rfl (fun ls hl => ?_)
        have L229_n24 : ∀ (n : Nat) (x1_229 : Int64) (x3_229 : Int32) (H : Heap) (locs : List Loc) (ls : Array Slot), fX3_digest_L229 cd ln r11 v13 r19 n x1_229 x3_229 = some o → va_P D vwCl (W3 cy qa P r19.1 S nw hz v13.2.2 r19.2 r11.2 cd ln) H → va_D A (W3 cy qa P r19.1 S nw hz v13.2.2 r19.2 r11.2 cd ln) → va_S A s.heap H locs → lv_has ls 5 [(0, .ref (qa 0 0)), (1, .long x1_229), (3, .int x3_229)] → W p l e ({ frames := 6, cells := 0, slots := 0, locals := 138 } : Room) s m args below meth c H locs 0 0 Q (F0 m 229 ls []) := by
          intro n
          induction n with
          | zero =>
            intro x1_229 x3_229 H locs ls h hP hD hS hl
            exact pq_n h
          | succ n ih229 =>
            intro x1_229 x3_229 H locs ls h hP hD hS hl
            rw [fX3_digest_L229] at h
            refine lv_iload_n hx hb dX3_digest_229 rfl (lv_at hl 2 rfl) ?_
            refine lv_aload_n hx hb dX3_digest_230 rfl (lv_at hl 0 rfl) ?_
            refine va_get (D := D) (ci := 3) (v := .ref (qa 3 0)) (C := RX3) (T := TX3) (N := 7) hx hb hts hin3 hown hK hP 0 rfl rfl 6 (by decide) (hta _ aw_130) (fun _ h9 => h9) rfl dX3_digest_231 ?_
            refine va_get (D := D) (ci := 0) (v := .int ln) (C := RX0) (T := TX0) (N := 2) hx hb hts hin0 hown hK hP 4 rfl rfl 1 (by decide) (hta _ aw_118) (fun _ h9 => h9) rfl dX3_digest_234 ?_
            refine lv_icmp_ge (tgt := 263) hx hb dX3_digest_237 (by decide) (fun c6_ => ?_) (fun c6_ => ?_)
            · have h := pq_t c6_ h
              refine lv_lload_n hx hb dX3_digest_263 rfl (lv_at hl 1 rfl) ?_
              obtain rfl := Option.some.inj h
              subst hQ
              exact pw_rj hx hb hr hlk hAe hP hS rfl dX3_digest_264
            · have h := pq_e c6_ h
              refine lv_ldc2 hx hb hown (hta _ aw_268) dX3_digest_240 ?_
              refine lv_lload_n hx hb dX3_digest_243 rfl (lv_at hl 1 rfl) ?_
              refine lv_lmul hx hb dX3_digest_244 ?_
              refine lv_aload_n hx hb dX3_digest_245 rfl (lv_at hl 0 rfl) ?_
              refine va_get (D := D) (ci := 3) (v := .ref (qa 3 0)) (C := RX3) (T := TX3) (N := 7) hx hb hts hin3 hown hK hP 0 rfl rfl 6 (by decide) (hta _ aw_130) (fun _ h9 => h9) rfl dX3_digest_246 ?_
              refine va_get (D := D) (ci := 0) (v := .ref (qa 3 1)) (C := RX0) (T := TX0) (N := 2) hx hb hts hin0 hown hK hP 4 rfl rfl 0 (by decide) (hta _ aw_116) (fun _ h9 => h9) rfl dX3_digest_249 ?_
              refine lv_iload_n hx hb dX3_digest_252 rfl (lv_at hl 2 rfl) ?_
              obtain ⟨hg, h⟩ := pq_g h
              refine va_iald hx hb hK hP 5 0 rfl rfl (pq_vp hg) dX3_digest_253 ?_
              refine lv_i2l (v := (cd x3_229.toNatClampNeg).toInt64) hx hb dX3_digest_254 rfl ?_
              refine lv_ladd hx hb dX3_digest_255 ?_
              refine lv_lstore_n (lv' := [(1, .long ((31 * x1_229) + ((cd x3_229.toNatClampNeg).toInt64))), (0, .ref (qa 0 0)), (3, .int x3_229)]) hx hb dX3_digest_256 rfl hl (by decide) rfl (fun ls hl => ?_)
              refine lv_iinc (v := x3_229 + 1) (lv' := [(3, .int (x3_229 + 1)), (1, .long ((31 * x1_229) + ((cd x3_229.toNatClampNeg).toInt64))), (0, .ref (qa 0 0))]) hx hb dX3_digest_257 hl (k := 2) rfl (by first | rfl | decide) (by decide) rfl (fun ls hl => ?_)
              refine lv_goto (tgt := 229) hx hb dX3_digest_260 (by decide) ?_
              exact ih229 ((31 * x1_229) + ((cd x3_229.toNatClampNeg).toInt64)) (x3_229 + 1) _ _ _ h hP hD hS (lv_sub hl [2, 1, 0] rfl)
        exact L229_n24 1000 ((31 * ((31 * ((31 * r20) + r21.toInt64)) + r23)) + ln.toInt64) 0 _ _ _ h hP hD hS (lv_sub hl [2, 1, 0] rfl)
      clear h
      have L97_n12 : ∀ (n : Nat) (x1_97 : Int64) (x3_97 : Int32) (T_97 : Nat → Nat → Int32) (ak_97 : Nat → Int32) (H : Heap) (locs : List Loc) (ls : Array Slot), fX3_digest_L97 P r11 n x1_97 x3_97 T_97 ak_97 = some v13 → va_P D vwCl (W3 cy qa P T_97 S nw hz ak_97 pa r11.2 cd ln) H → va_D A (W3 cy qa P T_97 S nw hz ak_97 pa r11.2 cd ln) → va_S A s.heap H locs → lv_has ls 5 [(0, .ref (qa 0 0)), (1, .long x1_97), (3, .int x3_97)] → W p l e ({ frames := 6, cells := 0, slots := 0, locals := 138 } : Room) s m args below meth c H locs 0 0 Q (F0 m 97 ls []) := by
        intro n
        induction n with
        | zero =>
          intro x1_97 x3_97 T_97 ak_97 H locs ls h hP hD hS hl
          exact pq_n h
        | succ n ih97 =>
          intro x1_97 x3_97 T_97 ak_97 H locs ls h hP hD hS hl
          rw [fX3_digest_L97] at h
          refine lv_iload_n hx hb dX3_digest_97 rfl (lv_at hl 2 rfl) ?_
          refine lv_bipush (v := 8) hx hb dX3_digest_98 (by decide) ?_
          refine lv_icmp_ge (tgt := 171) hx hb dX3_digest_100 (by decide) (fun c4_ => ?_) (fun c4_ => ?_)
          · have h := pq_t c4_ h
            obtain rfl := Option.some.inj h
            exact X171_v13 _ _ _ hP hD hS (lv_sub hl [0, 1] rfl)
          · have h := pq_e c4_ h
            refine lv_iconst (v := 0) hx hb dX3_digest_103 (by decide) ?_
            refine lv_istore (lv' := [(4, .int 0), (0, .ref (qa 0 0)), (1, .long x1_97), (3, .int x3_97)]) hx hb dX3_digest_104 hl (by decide) rfl (fun ls hl => ?_)
            obtain ⟨v15, hv15, h⟩ := pq_b h
            have X137_v15 : ∀ (H : Heap) (locs : List Loc) (ls : Array Slot), va_P D vwCl (W3 cy qa P T_97 S nw hz ak_97 pa r11.2 cd ln) H → va_D A (W3 cy qa P T_97 S nw hz ak_97 pa r11.2 cd ln) → va_S A s.heap H locs → lv_has ls 5 [(0, .ref (qa 0 0)), (1, .long v15), (3, .int x3_97)] → W p l e ({ frames := 6, cells := 0, slots := 0, locals := 138 } : Room) s m args below meth c H locs 0 0 Q (F0 m 137 ls []) := by
              intro H locs ls hP hD hS hl
              refine lv_aload_n hx hb dX3_digest_137 rfl (lv_at hl 0 rfl) ?_
              refine lv_iload_n hx hb dX3_digest_138 rfl (lv_at hl 2 rfl) ?_
              obtain ⟨r17, hr17, h⟩ := pq_b h
              refine pw_cv (w1 := W3 cy qa P r17.1 S nw hz r17.2 pa r11.2 cd ln) (rest := []) (As := [.int x3_97]) hF (kX3_tryAsking l D cy qa _ P T_97 S nw hz ak_97 pa r11.2 cd ln x3_97 r17 hr17) (cwV 1 hts (pw_gV (own := RX3) (idx := 209) (C := RX3) (y := yX3_tryAsking) aw_402 aw_404 aw_s14 aw_1 aw_405) rfl rfl rfl pX3_tryAsking ⟨Nat.le_of_ble_eq_true rfl, Nat.le_of_ble_eq_true rfl⟩) (va_recv hK hP (ci := 3) (q0 := 0) rfl rfl) hK hP hD hS hA rfl rfl hl.1 rfl (Nat.le_of_ble_eq_true rfl) dX3_digest_139 ⟨Nat.zero_le _, Nat.zero_le _⟩ (fun H locs hP hD hS => ?_)
              refine lv_lload_n hx hb dX3_digest_142 rfl (lv_at hl 1 rfl) ?_
              refine lv_aload_n hx hb dX3_digest_143 rfl (lv_at hl 0 rfl) ?_
              refine va_get (D := D) (ci := 3) (v := .ref (qa 0 1)) (C := RX3) (T := TX3) (N := 7) hx hb hts hin3 hown hK hP 0 rfl rfl 2 (by decide) (hta _ aw_126) (fun _ h9 => h9) rfl dX3_digest_144 ?_
              obtain ⟨r18, hr18, h⟩ := pq_b h
              refine pw_sjf (ws0 := W3 cy qa P r17.1 S nw hz r17.2 pa r11.2 cd ln) (wc := WR cy (qa 0 1) 3 r17.2) (rest := []) (As := [.long v15, .ref (qa 0 1)]) hF (kX3_mixRow l D cy (qa 0 1) 3 (by decide) _ r17.2 v15 r18 hr18) (cwS 2 hts (pw_gS (own := RX3) (idx := 238) (y := yX3_mixRow) aw_352 aw_353 aw_1 aw_354) rfl rfl rfl pX3_mixRow ⟨Nat.le_of_ble_eq_true rfl, Nat.le_of_ble_eq_true rfl⟩) hK hP hD hS hA (pw_at 1 rfl) rfl hl.1 rfl (Nat.le_of_ble_eq_true rfl) dX3_digest_147 ⟨Nat.zero_le _, Nat.zero_le _⟩ (fun H locs hP hD hS => ?_)
              refine lv_lstore_n (lv' := [(1, .long r18), (0, .ref (qa 0 0)), (3, .int x3_97)]) hx hb dX3_digest_150 rfl hl (by decide) rfl (fun ls hl => ?_)
              refine lv_ldc2 hx hb hown (hta _ aw_268) dX3_digest_151 ?_
              refine lv_lload_n hx hb dX3_digest_154 rfl (lv_at hl 0 rfl) ?_
              refine lv_lmul hx hb dX3_digest_155 ?_
              refine lv_aload_n hx hb dX3_digest_156 rfl (lv_at hl 1 rfl) ?_
              refine va_get (D := D) (ci := 3) (v := .ref (qa 0 3)) (C := RX3) (T := TX3) (N := 7) hx hb hts hin3 hown hK hP 0 rfl rfl 4 (by decide) (hta _ aw_128) (fun _ h9 => h9) rfl dX3_digest_157 ?_
              refine lv_iload_n hx hb dX3_digest_160 rfl (lv_at hl 2 rfl) ?_
              obtain ⟨hg, h⟩ := pq_g h
              refine va_iald hx hb hK hP 3 0 rfl rfl (pq_vp hg) dX3_digest_161 ?_
              refine lv_i2l (v := (r11.2 x3_97.toNatClampNeg).toInt64) hx hb dX3_digest_162 rfl ?_
              refine lv_ladd hx hb dX3_digest_163 ?_
              refine lv_lstore_n (lv' := [(1, .long ((31 * r18) + ((r11.2 x3_97.toNatClampNeg).toInt64))), (0, .ref (qa 0 0)), (3, .int x3_97)]) hx hb dX3_digest_164 rfl hl (by decide) rfl (fun ls hl => ?_)
              refine lv_iinc (v := x3_97 + 1) (lv' := [(3, .int (x3_97 + 1)), (1, .long ((31 * r18) + ((r11.2 x3_97.toNatClampNeg).toInt64))), (0, .ref (qa 0 0))]) hx hb dX3_digest_165 hl (k := 2) rfl (by first | rfl | decide) (by decide) rfl (fun ls hl => ?_)
              refine lv_goto (tgt := 97) hx hb dX3_digest_168 (by decide) ?_
              exact ih97 ((31 * r18) + ((r11.2 x3_97.toNatClampNeg).toInt64)) (x3_97 + 1) r17.1 r17.2 _ _ _ h hP hD hS (lv_sub hl [2, 1, 0] rfl)
            clear h
            have L106_n14 : ∀ (n : Nat) (x1_106 : Int64) (x4_106 : Int32) (H : Heap) (locs : List Loc) (ls : Array Slot), fX3_digest_L106 P x3_97 n x1_106 x4_106 = some v15 → va_P D vwCl (W3 cy qa P T_97 S nw hz ak_97 pa r11.2 cd ln) H → va_D A (W3 cy qa P T_97 S nw hz ak_97 pa r11.2 cd ln) → va_S A s.heap H locs → lv_has ls 5 [(0, .ref (qa 0 0)), (1, .long x1_106), (3, .int x3_97), (4, .int x4_106)] → W p l e ({ frames := 6, cells := 0, slots := 0, locals := 138 } : Room) s m args below meth c H locs 0 0 Q (F0 m 106 ls []) := by
              intro n
              induction n with
              | zero =>
                intro x1_106 x4_106 H locs ls h hP hD hS hl
                exact pq_n h
              | succ n ih106 =>
                intro x1_106 x4_106 H locs ls h hP hD hS hl
                rw [fX3_digest_L106] at h
                refine lv_iload hx hb dX3_digest_106 (lv_at hl 3 rfl) ?_
                refine lv_bipush (v := 7) hx hb dX3_digest_108 (by decide) ?_
                refine lv_icmp_ge (tgt := 137) hx hb dX3_digest_110 (by decide) (fun c5_ => ?_) (fun c5_ => ?_)
                · have h := pq_t c5_ h
                  obtain rfl := Option.some.inj h
                  exact X137_v15 _ _ _ hP hD hS (lv_sub hl [0, 1, 2] rfl)
                · have h := pq_e c5_ h
                  refine lv_ldc2 hx hb hown (hta _ aw_268) dX3_digest_113 ?_
                  refine lv_lload_n hx hb dX3_digest_116 rfl (lv_at hl 1 rfl) ?_
                  refine lv_lmul hx hb dX3_digest_117 ?_
                  refine lv_aload_n hx hb dX3_digest_118 rfl (lv_at hl 0 rfl) ?_
                  refine va_get (D := D) (ci := 3) (v := .ref (qa 1 0)) (C := RX3) (T := TX3) (N := 7) hx hb hts hin3 hown hK hP 0 rfl rfl 0 (by decide) (hta _ aw_124) (fun _ h9 => h9) rfl dX3_digest_119 ?_
                  refine lv_iload_n hx hb dX3_digest_122 rfl (lv_at hl 2 rfl) ?_
                  refine lv_iload hx hb dX3_digest_123 (lv_at hl 3 rfl) ?_
                  obtain ⟨r16, hr16, h⟩ := pq_b h
                  refine pw_fi (ws0 := W3 cy qa P T_97 S nw hz ak_97 pa r11.2 cd ln) (ws1 := W3 cy qa P T_97 S nw hz ak_97 pa r11.2 cd ln) (wc := WP cy (qa 1) P) (w1 := WP cy (qa 1) P) (rest := [.long (31 * x1_106)]) (As := [.int x3_97, .int x4_106]) hF (kX2_ownerProperty l D cy (qa 1) _ P x3_97 x4_106 r16 hr16) (cwV 2 hts (pw_gV (own := RX3) (idx := 200) (C := RX2) (y := yX2_ownerProperty) aw_386 aw_387 aw_388 aw_2 aw_389) rfl rfl rfl pX2_ownerProperty ⟨Nat.le_of_ble_eq_true rfl, Nat.le_of_ble_eq_true rfl⟩) 2 (RX2, TX2, 16) rfl rfl ⟨0, _, rfl⟩ hK hP hD hS hA (pw_s3 _ _ _ _ _) (pw_s3 _ _ _ _ _) rfl rfl hl.1 rfl (Nat.le_of_ble_eq_true rfl) dX3_digest_125 ⟨Nat.zero_le _, Nat.zero_le _⟩ (fun H locs hP hD hS => ?_)
                  refine lv_i2l (v := r16.toInt64) hx hb dX3_digest_128 rfl ?_
                  refine lv_ladd hx hb dX3_digest_129 ?_
                  refine lv_lstore_n (lv' := [(1, .long ((31 * x1_106) + r16.toInt64)), (0, .ref (qa 0 0)), (3, .int x3_97), (4, .int x4_106)]) hx hb dX3_digest_130 rfl hl (by decide) rfl (fun ls hl => ?_)
                  refine lv_iinc (v := x4_106 + 1) (lv' := [(4, .int (x4_106 + 1)), (1, .long ((31 * x1_106) + r16.toInt64)), (0, .ref (qa 0 0)), (3, .int x3_97)]) hx hb dX3_digest_131 hl (k := 3) rfl (by first | rfl | decide) (by decide) rfl (fun ls hl => ?_)
                  refine lv_goto (tgt := 106) hx hb dX3_digest_134 (by decide) ?_
                  exact ih106 ((31 * x1_106) + r16.toInt64) (x4_106 + 1) _ _ _ h hP hD hS (lv_sub hl [2, 1, 3, 0] rfl)
            have h := hv15
            exact L106_n14 1000 x1_97 0 _ _ _ h hP hD hS (lv_sub hl [1, 2, 3, 0] rfl)
      have h := hv13
      exact L97_n12 1000 v7 0 r11.1 ak _ _ _ h hP hD hS (lv_sub hl [1, 2, 0] rfl)
    clear h
    have L45_n6 : ∀ (n : Nat) (x1_45 : Int64) (x3_45 : Int32) (H : Heap) (locs : List Loc) (ls : Array Slot), fX3_digest_L45 P n x1_45 x3_45 = some v7 → va_P D vwCl (W3 cy qa P T S nw hz ak pa wt cd ln) H → va_D A (W3 cy qa P T S nw hz ak pa wt cd ln) → va_S A s.heap H locs → lv_has ls 5 [(0, .ref (qa 0 0)), (1, .long x1_45), (3, .int x3_45)] → W p l e ({ frames := 6, cells := 0, slots := 0, locals := 138 } : Room) s m args below meth c H locs 0 0 Q (F0 m 45 ls []) := by
      intro n
      induction n with
      | zero =>
        intro x1_45 x3_45 H locs ls h hP hD hS hl
        exact pq_n h
      | succ n ih45 =>
        intro x1_45 x3_45 H locs ls h hP hD hS hl
        rw [fX3_digest_L45] at h
        refine lv_iload_n hx hb dX3_digest_45 rfl (lv_at hl 2 rfl) ?_
        refine lv_bipush (v := 8) hx hb dX3_digest_46 (by decide) ?_
        refine lv_icmp_ge (tgt := 91) hx hb dX3_digest_48 (by decide) (fun c2_ => ?_) (fun c2_ => ?_)
        · have h := pq_t c2_ h
          obtain rfl := Option.some.inj h
          exact X91_v7 _ _ _ hP hD hS (lv_sub hl [0, 1] rfl)
        · have h := pq_e c2_ h
          refine lv_iconst (v := 0) hx hb dX3_digest_51 (by decide) ?_
          refine lv_istore (lv' := [(4, .int 0), (0, .ref (qa 0 0)), (1, .long x1_45), (3, .int x3_45)]) hx hb dX3_digest_52 hl (by decide) rfl (fun ls hl => ?_)
          obtain ⟨v9, hv9, h⟩ := pq_b h
          have X85_v9 : ∀ (H : Heap) (locs : List Loc) (ls : Array Slot), va_P D vwCl (W3 cy qa P T S nw hz ak pa wt cd ln) H → va_D A (W3 cy qa P T S nw hz ak pa wt cd ln) → va_S A s.heap H locs → lv_has ls 5 [(0, .ref (qa 0 0)), (1, .long v9), (3, .int x3_45)] → W p l e ({ frames := 6, cells := 0, slots := 0, locals := 138 } : Room) s m args below meth c H locs 0 0 Q (F0 m 85 ls []) := by
            intro H locs ls hP hD hS hl
            refine lv_iinc (v := x3_45 + 1) (lv' := [(3, .int (x3_45 + 1)), (0, .ref (qa 0 0)), (1, .long v9)]) hx hb dX3_digest_85 hl (k := 2) rfl (by first | rfl | decide) (by decide) rfl (fun ls hl => ?_)
            refine lv_goto (tgt := 45) hx hb dX3_digest_88 (by decide) ?_
            exact ih45 v9 (x3_45 + 1) _ _ _ h hP hD hS (lv_sub hl [1, 2, 0] rfl)
          clear h
          have L54_n8 : ∀ (n : Nat) (x1_54 : Int64) (x4_54 : Int32) (H : Heap) (locs : List Loc) (ls : Array Slot), fX3_digest_L54 P x3_45 n x1_54 x4_54 = some v9 → va_P D vwCl (W3 cy qa P T S nw hz ak pa wt cd ln) H → va_D A (W3 cy qa P T S nw hz ak pa wt cd ln) → va_S A s.heap H locs → lv_has ls 5 [(0, .ref (qa 0 0)), (1, .long x1_54), (3, .int x3_45), (4, .int x4_54)] → W p l e ({ frames := 6, cells := 0, slots := 0, locals := 138 } : Room) s m args below meth c H locs 0 0 Q (F0 m 54 ls []) := by
            intro n
            induction n with
            | zero =>
              intro x1_54 x4_54 H locs ls h hP hD hS hl
              exact pq_n h
            | succ n ih54 =>
              intro x1_54 x4_54 H locs ls h hP hD hS hl
              rw [fX3_digest_L54] at h
              refine lv_iload hx hb dX3_digest_54 (lv_at hl 3 rfl) ?_
              refine lv_bipush (v := 6) hx hb dX3_digest_56 (by decide) ?_
              refine lv_icmp_ge (tgt := 85) hx hb dX3_digest_58 (by decide) (fun c3_ => ?_) (fun c3_ => ?_)
              · have h := pq_t c3_ h
                obtain rfl := Option.some.inj h
                exact X85_v9 _ _ _ hP hD hS (lv_sub hl [0, 1, 2] rfl)
              · have h := pq_e c3_ h
                refine lv_ldc2 hx hb hown (hta _ aw_268) dX3_digest_61 ?_
                refine lv_lload_n hx hb dX3_digest_64 rfl (lv_at hl 1 rfl) ?_
                refine lv_lmul hx hb dX3_digest_65 ?_
                refine lv_aload_n hx hb dX3_digest_66 rfl (lv_at hl 0 rfl) ?_
                refine va_get (D := D) (ci := 3) (v := .ref (qa 1 0)) (C := RX3) (T := TX3) (N := 7) hx hb hts hin3 hown hK hP 0 rfl rfl 0 (by decide) (hta _ aw_124) (fun _ h9 => h9) rfl dX3_digest_67 ?_
                refine lv_iload_n hx hb dX3_digest_70 rfl (lv_at hl 2 rfl) ?_
                refine lv_iload hx hb dX3_digest_71 (lv_at hl 3 rfl) ?_
                obtain ⟨r10, hr10, h⟩ := pq_b h
                refine pw_fi (ws0 := W3 cy qa P T S nw hz ak pa wt cd ln) (ws1 := W3 cy qa P T S nw hz ak pa wt cd ln) (wc := WP cy (qa 1) P) (w1 := WP cy (qa 1) P) (rest := [.long (31 * x1_54)]) (As := [.int x3_45, .int x4_54]) hF (kX2_placeProperty l D cy (qa 1) _ P x3_45 x4_54 r10 hr10) (cwV 2 hts (pw_gV (own := RX3) (idx := 197) (C := RX2) (y := yX2_placeProperty) aw_355 aw_356 aw_357 aw_2 aw_358) rfl rfl rfl pX2_placeProperty ⟨Nat.le_of_ble_eq_true rfl, Nat.le_of_ble_eq_true rfl⟩) 2 (RX2, TX2, 16) rfl rfl ⟨0, _, rfl⟩ hK hP hD hS hA (pw_s3 _ _ _ _ _) (pw_s3 _ _ _ _ _) rfl rfl hl.1 rfl (Nat.le_of_ble_eq_true rfl) dX3_digest_73 ⟨Nat.zero_le _, Nat.zero_le _⟩ (fun H locs hP hD hS => ?_)
                refine lv_i2l (v := r10.toInt64) hx hb dX3_digest_76 rfl ?_
                refine lv_ladd hx hb dX3_digest_77 ?_
                refine lv_lstore_n (lv' := [(1, .long ((31 * x1_54) + r10.toInt64)), (0, .ref (qa 0 0)), (3, .int x3_45), (4, .int x4_54)]) hx hb dX3_digest_78 rfl hl (by decide) rfl (fun ls hl => ?_)
                refine lv_iinc (v := x4_54 + 1) (lv' := [(4, .int (x4_54 + 1)), (1, .long ((31 * x1_54) + r10.toInt64)), (0, .ref (qa 0 0)), (3, .int x3_45)]) hx hb dX3_digest_79 hl (k := 3) rfl (by first | rfl | decide) (by decide) rfl (fun ls hl => ?_)
                refine lv_goto (tgt := 54) hx hb dX3_digest_82 (by decide) ?_
                exact ih54 ((31 * x1_54) + r10.toInt64) (x4_54 + 1) _ _ _ h hP hD hS (lv_sub hl [2, 1, 3, 0] rfl)
          have h := hv9
          exact L54_n8 1000 x1_45 0 _ _ _ h hP hD hS (lv_sub hl [1, 2, 3, 0] rfl)
    have h := hv7
    exact L45_n6 1000 r5 0 _ _ _ h hP hD hS (lv_sub hl [2, 1, 0] rfl)
  clear h
  have L6_n1 : ∀ (n : Nat) (x1_6 : Int64) (x3_6 : Int32) (H : Heap) (locs : List Loc) (ls : Array Slot), fX3_digest_L6 P hz n x1_6 x3_6 = some v2 → va_P D vwCl (W3 cy qa P T S nw hz ak pa wt cd ln) H → va_D A (W3 cy qa P T S nw hz ak pa wt cd ln) → va_S A s.heap H locs → lv_has ls 5 [(0, .ref (qa 0 0)), (1, .long x1_6), (3, .int x3_6)] → W p l e ({ frames := 6, cells := 0, slots := 0, locals := 138 } : Room) s m args below meth c H locs 0 0 Q (F0 m 6 ls []) := by
    intro n
    induction n with
    | zero =>
      intro x1_6 x3_6 H locs ls h hP hD hS hl
      exact pq_n h
    | succ n ih6 =>
      intro x1_6 x3_6 H locs ls h hP hD hS hl
      rw [fX3_digest_L6] at h
      refine lv_iload_n hx hb dX3_digest_6 rfl (lv_at hl 2 rfl) ?_
      refine lv_bipush (v := 14) hx hb dX3_digest_7 (by decide) ?_
      refine lv_icmp_ge (tgt := 31) hx hb dX3_digest_9 (by decide) (fun c1_ => ?_) (fun c1_ => ?_)
      · have h := pq_t c1_ h
        obtain rfl := Option.some.inj h
        exact X31_v2 _ _ _ hP hD hS (lv_sub hl [0, 1] rfl)
      · have h := pq_e c1_ h
        refine lv_ldc2 hx hb hown (hta _ aw_268) dX3_digest_12 ?_
        refine lv_lload_n hx hb dX3_digest_15 rfl (lv_at hl 1 rfl) ?_
        refine lv_lmul hx hb dX3_digest_16 ?_
        refine lv_aload_n hx hb dX3_digest_17 rfl (lv_at hl 0 rfl) ?_
        refine lv_iload_n hx hb dX3_digest_18 rfl (lv_at hl 2 rfl) ?_
        obtain ⟨r3, hr3, h⟩ := pq_b h
        obtain ⟨a4, rfl, h⟩ := pq_inn h
        refine pw_ci (w1 := W3 cy qa P T S nw hz ak pa wt cd ln) (rest := [.long (31 * x1_6)]) (As := [.int x3_6]) hF (kX3_count l D cy qa _ P T S nw hz ak pa wt cd ln x3_6 a4 hr3) (cwV 1 hts (pw_gV (own := RX3) (idx := 235) (C := RX3) (y := yX3_count) aw_269 aw_270 aw_271 aw_1 aw_272) rfl rfl rfl pX3_count ⟨Nat.le_of_ble_eq_true rfl, Nat.le_of_ble_eq_true rfl⟩) (va_recv hK hP (ci := 3) (q0 := 0) rfl rfl) hK hP hD hS hA rfl rfl hl.1 rfl (Nat.le_of_ble_eq_true rfl) dX3_digest_19 ⟨Nat.zero_le _, Nat.zero_le _⟩ (fun H locs hP hD hS => ?_)
        refine lv_i2l (v := a4.toInt64) hx hb dX3_digest_22 rfl ?_
        refine lv_ladd hx hb dX3_digest_23 ?_
        refine lv_lstore_n (lv' := [(1, .long ((31 * x1_6) + a4.toInt64)), (0, .ref (qa 0 0)), (3, .int x3_6)]) hx hb dX3_digest_24 rfl hl (by decide) rfl (fun ls hl => ?_)
        refine lv_iinc (v := x3_6 + 1) (lv' := [(3, .int (x3_6 + 1)), (1, .long ((31 * x1_6) + a4.toInt64)), (0, .ref (qa 0 0))]) hx hb dX3_digest_25 hl (k := 2) rfl (by first | rfl | decide) (by decide) rfl (fun ls hl => ?_)
        refine lv_goto (tgt := 6) hx hb dX3_digest_28 (by decide) ?_
        exact ih6 ((31 * x1_6) + a4.toInt64) (x3_6 + 1) _ _ _ h hP hD hS (lv_sub hl [2, 1, 0] rfl)
  have h := hv2
  exact L6_n1 1000 2753 0 _ _ _ h hP hD hS (lv_sub hl [2, 1, 0] rfl)

