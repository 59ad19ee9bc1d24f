def aX3_requireOwner : List Cond := Cond.code yX3_requireOwner cX3_requireOwner 1 none :: pw_all
theorem pX3_requireOwner : yX3_requireOwner.cls = RX3 ∧ yX3_requireOwner.cls ≠ "java/lang/invoke/MethodHandle" ∧ yX3_requireOwner.cls ≠ "java/lang/invoke/VarHandle" ∧ (parseMethodDescriptor yX3_requireOwner.desc).map (fun d => d.parameters.length) = some 1 := by decide +kernel
set_option maxHeartbeats 8000000 in
set_option maxRecDepth 100000 in
theorem kX3_requireOwner (l : Launch) (D : va_G) (cy : Nat → ClassId) (sz : Nat)  (x0 : Int32) (o : Unit) (h : fX3_requireOwner x0 = some (Sum.inr o)) : Met l yX3_requireOwner aX3_requireOwner ({ frames := 0, cells := 0, slots := 0, locals := 0 }) (pw_Pre D cy [.int x0] ([]) sz) (pw_V D ([]) ([]) sz) 0 0 (va_A ([]) sz) := by
  refine pw_met (cc := cX3_requireOwner) (maxL := 1) (ret := none) (by decide) rfl (Nat.le_of_ble_eq_true rfl) ?_
  intro p e s m args below meth c ls A hx hb hr hml hlk hts hown hAe hA hK hP hD hS hl
  have hl : lv_has ls 1 [(0, .int x0)] := hl
  generalize hQ : MQ below (pw_V D ([]) ([]) sz) args s 0 0 (va_A ([]) sz) = Q
  have hF : CallFix p m c cX3_requireOwner 1 s args aX3_requireOwner RX3 := ⟨hx, hb, hml, hown, hts⟩
  have hta : ∀ w ∈ pw_all, w.before args s = true := fun w h => hts w (List.mem_cons_of_mem _ h)
  unfold fX3_requireOwner at h
  refine lv_iload_n hx hb dX3_requireOwner_0 rfl (lv_at hl 0 rfl) ?_
  refine lv_if_lt (tgt := 10) hx hb dX3_requireOwner_1 (by decide) (fun c1_ => ?_) (fun c1_ => ?_)
  · have h := pq_t c1_ h
    exact nomatch h
  · have h := pq_e c1_ h
    refine lv_iload_n hx hb dX3_requireOwner_4 rfl (lv_at hl 0 rfl) ?_
    refine lv_bipush (v := 8) hx hb dX3_requireOwner_5 (by decide) ?_
    refine lv_icmp_lt (tgt := 21) hx hb dX3_requireOwner_7 (by decide) (fun c2_ => ?_) (fun c2_ => ?_)
    · have h := pq_t c2_ h
      obtain rfl := Sum.inr.inj (Option.some.inj h)
      subst hQ
      exact pw_rv hx hb hr hlk hAe hP hS dX3_requireOwner_21
    · have h := pq_e c2_ h
      exact nomatch h

def aX3_ask : List Cond := Cond.code yX3_ask cX3_ask 2 (some .int) :: pw_all
theorem pX3_ask : yX3_ask.cls = RX3 ∧ yX3_ask.cls ≠ "java/lang/invoke/MethodHandle" ∧ yX3_ask.cls ≠ "java/lang/invoke/VarHandle" ∧ (parseMethodDescriptor yX3_ask.desc).map (fun d => d.parameters.length) = some 1 := by decide +kernel
set_option maxHeartbeats 8000000 in
set_option maxRecDepth 100000 in
theorem kX3_ask (l : Launch) (D : va_G) (cy : Nat → ClassId) (qa : Nat → Nat → Nat) (sz : Nat) (P : Nat → Nat → Int32) (T : Nat → Nat → Int32) (S : Nat → Nat → Nat → Int32) (nw : Int32) (hz : Int32) (ak : Nat → Int32) (pa : Nat → Int32) (wt : Nat → Int32) (cd : Nat → Int32) (ln : Int32) (x1 : Int32) (o : Int32 × (Nat → Nat → Int32) × (Nat → Nat → Nat → Int32) × Int32 × Int32) (h : fX3_ask x1 P S nw hz = some (Sum.inr o)) : Met l yX3_ask aX3_ask ({ frames := 5, cells := 0, slots := 0, locals := 113 }) (pw_Pre D cy [.ref (qa 0 0), .int x1] (W3 cy qa P T S nw hz ak pa wt cd ln) sz) (pw_I D o.1 (W3 cy qa P T S nw hz ak pa wt cd ln) (W3 cy qa o.2.1 T o.2.2.1 o.2.2.2.1 o.2.2.2.2 ak pa wt cd ln) sz) 0 0 (va_A (W3 cy qa P T S nw hz ak pa wt cd ln) sz) := by
  refine pw_met (cc := cX3_ask) (maxL := 2) (ret := (some .int)) (by decide) rfl (Nat.le_of_ble_eq_true rfl) ?_
  intro p e s m args below meth c ls A hx hb hr hml hlk hts hown hAe hA hK hP hD hS hl
  have hl : lv_has ls 2 [(0, .ref (qa 0 0)), (1, .int x1)] := hl
  generalize hQ : MQ below (pw_I D o.1 (W3 cy qa P T S nw hz ak pa wt cd ln) (W3 cy qa o.2.1 T o.2.2.1 o.2.2.2.1 o.2.2.2.2 ak pa wt cd ln) sz) args s 0 0 (va_A (W3 cy qa P T S nw hz ak pa wt cd ln) sz) = Q
  have hF : CallFix p m c cX3_ask 2 s args aX3_ask RX3 := ⟨hx, hb, hml, hown, hts⟩
  have hta : ∀ w ∈ pw_all, w.before args s = true := fun w h => hts w (List.mem_cons_of_mem _ h)
  have hin3 : ∀ w ∈ wsX30, w ∈ aX3_ask := fun w h => List.mem_cons_of_mem _ (inA3 w h)
  have hin2 : ∀ w ∈ wsX20, w ∈ aX3_ask := fun w h => List.mem_cons_of_mem _ (inA2 w h)
  have hin1 : ∀ w ∈ wsX10, w ∈ aX3_ask := fun w h => List.mem_cons_of_mem _ (inA1 w h)
  have hin0 : ∀ w ∈ wsX00, w ∈ aX3_ask := fun w h => List.mem_cons_of_mem _ (inA0 w h)
  unfold fX3_ask at h
  refine lv_iload_n hx hb dX3_ask_0 rfl (lv_at hl 1 rfl) ?_
  obtain ⟨r1, hr1, h⟩ := pq_b h
  obtain ⟨a2, rfl, h⟩ := pq_inr h
  refine pw_sv (rest := []) (As := [.int x1]) hF (kX3_requireOwner l D cy _ x1 a2 hr1) (cwS 1 hts (pw_gS (own := RX3) (idx := 43) (y := yX3_requireOwner) aw_146 aw_147 aw_1 aw_148) rfl rfl rfl pX3_requireOwner ⟨Nat.le_of_ble_eq_true rfl, Nat.le_of_ble_eq_true rfl⟩) hK hP hS hA rfl hl.1 rfl (Nat.le_of_ble_eq_true rfl) dX3_ask_1 ⟨Nat.zero_le _, Nat.zero_le _⟩ (fun H locs hP hS => ?_)
  refine lv_aload_n hx hb dX3_ask_4 rfl (lv_at hl 0 rfl) ?_
  refine va_get (D := D) (ci := 3) (v := .ref (qa 1 0)) (C := RX3) (T := TX3) (N := 7) hx hb hts hin3 hown hK hP 0 rfl rfl 0 (by decide) (hta _ aw_120) (fun _ h9 => h9) rfl dX3_ask_5 ?_
  refine lv_iload_n hx hb dX3_ask_8 rfl (lv_at hl 1 rfl) ?_
  obtain ⟨r3, hr3, h⟩ := pq_b h
  refine pw_fi (ws0 := W3 cy qa P T S nw hz ak pa wt cd ln) (ws1 := W3 cy qa P T S nw hz ak pa wt cd ln) (wc := WP cy (qa 1) P) (w1 := WP cy (qa 1) P) (rest := []) (As := [.int x1]) hF (kX2_canRequest l D cy (qa 1) _ P x1 r3 hr3) (cwV 1 hts (pw_gV (own := RX3) (idx := 47) (C := RX2) (y := yX2_canRequest) aw_470 aw_471 aw_472 aw_2 aw_473) rfl rfl rfl pX2_canRequest ⟨Nat.le_of_ble_eq_true rfl, Nat.le_of_ble_eq_true rfl⟩) 2 (RX2, TX2, 16) rfl rfl ⟨0, _, rfl⟩ hK hP hD hS hA (pw_s3 _ _ _ _ _) (pw_s3 _ _ _ _ _) rfl rfl hl.1 rfl (Nat.le_of_ble_eq_true rfl) dX3_ask_9 ⟨Nat.zero_le _, Nat.zero_le _⟩ (fun H locs hP hD hS => ?_)
  refine lv_if_ne (tgt := 25) hx hb dX3_ask_12 (by decide) (fun c1_ => ?_) (fun c1_ => ?_)
  · have h := pq_e c1_ h
    refine lv_aload_n hx hb dX3_ask_25 rfl (lv_at hl 0 rfl) ?_
    refine va_get (D := D) (ci := 3) (v := .ref (qa 4 0)) (C := RX3) (T := TX3) (N := 7) hx hb hts hin3 hown hK hP 0 rfl rfl 5 (by decide) (hta _ aw_125) (fun _ h9 => h9) rfl dX3_ask_26 ?_
    refine lv_aload_n hx hb dX3_ask_29 rfl (lv_at hl 0 rfl) ?_
    refine va_get (D := D) (ci := 3) (v := .ref (qa 1 0)) (C := RX3) (T := TX3) (N := 7) hx hb hts hin3 hown hK hP 0 rfl rfl 0 (by decide) (hta _ aw_120) (fun _ h9 => h9) rfl dX3_ask_30 ?_
    obtain ⟨r4, hr4, h⟩ := pq_b h
    refine pw_fv (ws0 := W3 cy qa P T S nw hz ak pa wt cd ln) (ws1 := W3 cy qa P T r4.1 r4.2.1 r4.2.2 ak pa wt cd ln) (wc := WP cy (qa 1) P ++ WH cy qa S nw hz) (w1 := WP cy (qa 1) P ++ WH cy qa r4.1 r4.2.1 r4.2.2) (rest := []) (As := [.ref (qa 1 0)]) hF (kX1_save l D cy qa _ P S nw hz r4 hr4) (cwV 1 hts (pw_gV (own := RX3) (idx := 58) (C := RX1) (y := yX1_save) aw_237 aw_238 aw_239 aw_4 aw_240) rfl rfl rfl pX1_save ⟨Nat.le_of_ble_eq_true rfl, Nat.le_of_ble_eq_true rfl⟩) 1 (RX1, TX1, 3) rfl rfl ⟨15, _, rfl⟩ hK hP hD hS hA (pw_s34 _ _ _ _ _) (pw_s34 _ _ _ _ _) rfl rfl hl.1 rfl (Nat.le_of_ble_eq_true rfl) dX3_ask_33 ⟨Nat.zero_le _, Nat.zero_le _⟩ (fun H locs hP hD hS => ?_)
    refine lv_aload_n hx hb dX3_ask_36 rfl (lv_at hl 0 rfl) ?_
    refine va_get (D := D) (ci := 3) (v := .ref (qa 1 0)) (C := RX3) (T := TX3) (N := 7) hx hb hts hin3 hown hK hP 0 rfl rfl 0 (by decide) (hta _ aw_120) (fun _ h9 => h9) rfl dX3_ask_37 ?_
    refine lv_iload_n hx hb dX3_ask_40 rfl (lv_at hl 1 rfl) ?_
    obtain ⟨r5, hr5, h⟩ := pq_b h
    refine pw_fi (ws0 := W3 cy qa P T r4.1 r4.2.1 r4.2.2 ak pa wt cd ln) (ws1 := W3 cy qa r5.2 T r4.1 r4.2.1 r4.2.2 ak pa wt cd ln) (wc := WP cy (qa 1) P) (w1 := WP cy (qa 1) r5.2) (rest := []) (As := [.int x1]) hF (kX2_request l D cy (qa 1) _ P x1 r5 hr5) (cwV 1 hts (pw_gV (own := RX3) (idx := 62) (C := RX2) (y := yX2_request) aw_475 aw_476 aw_477 aw_2 aw_478) rfl rfl rfl pX2_request ⟨Nat.le_of_ble_eq_true rfl, Nat.le_of_ble_eq_true rfl⟩) 2 (RX2, TX2, 16) rfl rfl ⟨0, _, rfl⟩ hK hP hD hS hA (pw_s3 _ _ _ _ _) (pw_s3 _ _ _ _ _) rfl rfl hl.1 rfl (Nat.le_of_ble_eq_true rfl) dX3_ask_41 ⟨Nat.zero_le _, Nat.zero_le _⟩ (fun H locs hP hD hS => ?_)
    obtain rfl := Sum.inr.inj (Option.some.inj h)
    subst hQ
    exact pw_ri hx hb hr hlk hAe hP hS rfl dX3_ask_44
  · have h := pq_t c1_ h
    exact nomatch h

def aX3_requirePlace : List Cond := Cond.code yX3_requirePlace cX3_requirePlace 1 none :: pw_all
theorem pX3_requirePlace : yX3_requirePlace.cls = RX3 ∧ yX3_requirePlace.cls ≠ "java/lang/invoke/MethodHandle" ∧ yX3_requirePlace.cls ≠ "java/lang/invoke/VarHandle" ∧ (parseMethodDescriptor yX3_requirePlace.desc).map (fun d => d.parameters.length) = some 1 := by decide +kernel
set_option maxHeartbeats 8000000 in
set_option maxRecDepth 100000 in
theorem kX3_requirePlace (l : Launch) (D : va_G) (cy : Nat → ClassId) (sz : Nat)  (x0 : Int32) (o : Unit) (h : fX3_requirePlace x0 = some (Sum.inr o)) : Met l yX3_requirePlace aX3_requirePlace ({ frames := 0, cells := 0, slots := 0, locals := 0 }) (pw_Pre D cy [.int x0] ([]) sz) (pw_V D ([]) ([]) sz) 0 0 (va_A ([]) sz) := by
  refine pw_met (cc := cX3_requirePlace) (maxL := 1) (ret := none) (by decide) rfl (Nat.le_of_ble_eq_true rfl) ?_
  intro p e s m args below meth c ls A hx hb hr hml hlk hts hown hAe hA hK hP hD hS hl
  have hl : lv_has ls 1 [(0, .int x0)] := hl
  generalize hQ : MQ below (pw_V D ([]) ([]) sz) args s 0 0 (va_A ([]) sz) = Q
  have hF : CallFix p m c cX3_requirePlace 1 s args aX3_requirePlace RX3 := ⟨hx, hb, hml, hown, hts⟩
  have hta : ∀ w ∈ pw_all, w.before args s = true := fun w h => hts w (List.mem_cons_of_mem _ h)
  unfold fX3_requirePlace at h
  refine lv_iload_n hx hb dX3_requirePlace_0 rfl (lv_at hl 0 rfl) ?_
  refine lv_if_lt (tgt := 10) hx hb dX3_requirePlace_1 (by decide) (fun c1_ => ?_) (fun c1_ => ?_)
  · have h := pq_t c1_ h
    exact nomatch h
  · have h := pq_e c1_ h
    refine lv_iload_n hx hb dX3_requirePlace_4 rfl (lv_at hl 0 rfl) ?_
    refine lv_bipush (v := 8) hx hb dX3_requirePlace_5 (by decide) ?_
    refine lv_icmp_lt (tgt := 21) hx hb dX3_requirePlace_7 (by decide) (fun c2_ => ?_) (fun c2_ => ?_)
    · have h := pq_t c2_ h
      obtain rfl := Sum.inr.inj (Option.some.inj h)
      subst hQ
      exact pw_rv hx hb hr hlk hAe hP hS dX3_requirePlace_21
    · have h := pq_e c2_ h
      exact nomatch h

def aX3_give : List Cond := Cond.code yX3_give cX3_give 2 (some .int) :: pw_all
theorem pX3_give : yX3_give.cls = RX3 ∧ yX3_give.cls ≠ "java/lang/invoke/MethodHandle" ∧ yX3_give.cls ≠ "java/lang/invoke/VarHandle" ∧ (parseMethodDescriptor yX3_give.desc).map (fun d => d.parameters.length) = some 1 := by decide +kernel
set_option maxHeartbeats 8000000 in
set_option maxRecDepth 100000 in
theorem kX3_give (l : Launch) (D : va_G) (cy : Nat → ClassId) (qa : Nat → Nat → Nat) (sz : Nat) (P : Nat → Nat → Int32) (T : Nat → Nat → Int32) (S : Nat → Nat → Nat → Int32) (nw : Int32) (hz : Int32) (ak : Nat → Int32) (pa : Nat → Int32) (wt : Nat → Int32) (cd : Nat → Int32) (ln : Int32) (x1 : Int32) (o : Int32 × (Nat → Nat → Int32) × (Nat → Nat → Nat → Int32) × Int32 × Int32) (h : fX3_give x1 P S nw hz = some (Sum.inr o)) : Met l yX3_give aX3_give ({ frames := 5, cells := 0, slots := 0, locals := 113 }) (pw_Pre D cy [.ref (qa 0 0), .int x1] (W3 cy qa P T S nw hz ak pa wt cd ln) sz) (pw_I D o.1 (W3 cy qa P T S nw hz ak pa wt cd ln) (W3 cy qa o.2.1 T o.2.2.1 o.2.2.2.1 o.2.2.2.2 ak pa wt cd ln) sz) 0 0 (va_A (W3 cy qa P T S nw hz ak pa wt cd ln) sz) := by
  refine pw_met (cc := cX3_give) (maxL := 2) (ret := (some .int)) (by decide) rfl (Nat.le_of_ble_eq_true rfl) ?_
  intro p e s m args below meth c ls A hx hb hr hml hlk hts hown hAe hA hK hP hD hS hl
  have hl : lv_has ls 2 [(0, .ref (qa 0 0)), (1, .int x1)] := hl
  generalize hQ : MQ below (pw_I D o.1 (W3 cy qa P T S nw hz ak pa wt cd ln) (W3 cy qa o.2.1 T o.2.2.1 o.2.2.2.1 o.2.2.2.2 ak pa wt cd ln) sz) args s 0 0 (va_A (W3 cy qa P T S nw hz ak pa wt cd ln) sz) = Q
  have hF : CallFix p m c cX3_give 2 s args aX3_give RX3 := ⟨hx, hb, hml, hown, hts⟩
  have hta : ∀ w ∈ pw_all, w.before args s = true := fun w h => hts w (List.mem_cons_of_mem _ h)
  have hin3 : ∀ w ∈ wsX30, w ∈ aX3_give := fun w h => List.mem_cons_of_mem _ (inA3 w h)
  have hin2 : ∀ w ∈ wsX20, w ∈ aX3_give := fun w h => List.mem_cons_of_mem _ (inA2 w h)
  have hin1 : ∀ w ∈ wsX10, w ∈ aX3_give := fun w h => List.mem_cons_of_mem _ (inA1 w h)
  have hin0 : ∀ w ∈ wsX00, w ∈ aX3_give := fun w h => List.mem_cons_of_mem _ (inA0 w h)
  unfold fX3_give at h
  refine lv_iload_n hx hb dX3_give_0 rfl (lv_at hl 1 rfl) ?_
  obtain ⟨r1, hr1, h⟩ := pq_b h
  obtain ⟨a2, rfl, h⟩ := pq_inr h
  refine pw_sv (rest := []) (As := [.int x1]) hF (kX3_requirePlace l D cy _ x1 a2 hr1) (cwS 1 hts (pw_gS (own := RX3) (idx := 66) (y := yX3_requirePlace) aw_335 aw_336 aw_1 aw_337) rfl rfl rfl pX3_requirePlace ⟨Nat.le_of_ble_eq_true rfl, Nat.le_of_ble_eq_true rfl⟩) hK hP hS hA rfl hl.1 rfl (Nat.le_of_ble_eq_true rfl) dX3_give_1 ⟨Nat.zero_le _, Nat.zero_le _⟩ (fun H locs hP hS => ?_)
  refine lv_aload_n hx hb dX3_give_4 rfl (lv_at hl 0 rfl) ?_
  refine va_get (D := D) (ci := 3) (v := .ref (qa 1 0)) (C := RX3) (T := TX3) (N := 7) hx hb hts hin3 hown hK hP 0 rfl rfl 0 (by decide) (hta _ aw_120) (fun _ h9 => h9) rfl dX3_give_5 ?_
  refine lv_iload_n hx hb dX3_give_8 rfl (lv_at hl 1 rfl) ?_
  obtain ⟨r3, hr3, h⟩ := pq_b h
  refine pw_fi (ws0 := W3 cy qa P T S nw hz ak pa wt cd ln) (ws1 := W3 cy qa P T S nw hz ak pa wt cd ln) (wc := WP cy (qa 1) P) (w1 := WP cy (qa 1) P) (rest := []) (As := [.int x1]) hF (kX2_canTakeBack l D cy (qa 1) _ P x1 r3 hr3) (cwV 1 hts (pw_gV (own := RX3) (idx := 69) (C := RX2) (y := yX2_canTakeBack) aw_491 aw_492 aw_493 aw_2 aw_494) rfl rfl rfl pX2_canTakeBack ⟨Nat.le_of_ble_eq_true rfl, Nat.le_of_ble_eq_true rfl⟩) 2 (RX2, TX2, 16) rfl rfl ⟨0, _, rfl⟩ hK hP hD hS hA (pw_s3 _ _ _ _ _) (pw_s3 _ _ _ _ _) rfl rfl hl.1 rfl (Nat.le_of_ble_eq_true rfl) dX3_give_9 ⟨Nat.zero_le _, Nat.zero_le _⟩ (fun H locs hP hD hS => ?_)
  refine lv_if_ne (tgt := 25) hx hb dX3_give_12 (by decide) (fun c1_ => ?_) (fun c1_ => ?_)
  · have h := pq_e c1_ h
    refine lv_aload_n hx hb dX3_give_25 rfl (lv_at hl 0 rfl) ?_
    refine va_get (D := D) (ci := 3) (v := .ref (qa 4 0)) (C := RX3) (T := TX3) (N := 7) hx hb hts hin3 hown hK hP 0 rfl rfl 5 (by decide) (hta _ aw_125) (fun _ h9 => h9) rfl dX3_give_26 ?_
    refine lv_aload_n hx hb dX3_give_29 rfl (lv_at hl 0 rfl) ?_
    refine va_get (D := D) (ci := 3) (v := .ref (qa 1 0)) (C := RX3) (T := TX3) (N := 7) hx hb hts hin3 hown hK hP 0 rfl rfl 0 (by decide) (hta _ aw_120) (fun _ h9 => h9) rfl dX3_give_30 ?_
    obtain ⟨r4, hr4, h⟩ := pq_b h
    refine pw_fv (ws0 := W3 cy qa P T S nw hz ak pa wt cd ln) (ws1 := W3 cy qa P T r4.1 r4.2.1 r4.2.2 ak pa wt cd ln) (wc := WP cy (qa 1) P ++ WH cy qa S nw hz) (w1 := WP cy (qa 1) P ++ WH cy qa r4.1 r4.2.1 r4.2.2) (rest := []) (As := [.ref (qa 1 0)]) hF (kX1_save l D cy qa _ P S nw hz r4 hr4) (cwV 1 hts (pw_gV (own := RX3) (idx := 58) (C := RX1) (y := yX1_save) aw_237 aw_238 aw_239 aw_4 aw_240) rfl rfl rfl pX1_save ⟨Nat.le_of_ble_eq_true rfl, Nat.le_of_ble_eq_true rfl⟩) 1 (RX1, TX1, 3) rfl rfl ⟨15, _, rfl⟩ hK hP hD hS hA (pw_s34 _ _ _ _ _) (pw_s34 _ _ _ _ _) rfl rfl hl.1 rfl (Nat.le_of_ble_eq_true rfl) dX3_give_33 ⟨Nat.zero_le _, Nat.zero_le _⟩ (fun H locs hP hD hS => ?_)
    refine lv_aload_n hx hb dX3_give_36 rfl (lv_at hl 0 rfl) ?_
    refine va_get (D := D) (ci := 3) (v := .ref (qa 1 0)) (C := RX3) (T := TX3) (N := 7) hx hb hts hin3 hown hK hP 0 rfl rfl 0 (by decide) (hta _ aw_120) (fun _ h9 => h9) rfl dX3_give_37 ?_
    refine lv_iload_n hx hb dX3_give_40 rfl (lv_at hl 1 rfl) ?_
    obtain ⟨r5, hr5, h⟩ := pq_b h
    refine pw_fv (ws0 := W3 cy qa P T r4.1 r4.2.1 r4.2.2 ak pa wt cd ln) (ws1 := W3 cy qa r5 T r4.1 r4.2.1 r4.2.2 ak pa wt cd ln) (wc := WP cy (qa 1) P) (w1 := WP cy (qa 1) r5) (rest := []) (As := [.int x1]) hF (kX2_takeBack l D cy (qa 1) _ P x1 r5 hr5) (cwV 1 hts (pw_gV (own := RX3) (idx := 74) (C := RX2) (y := yX2_takeBack) aw_496 aw_497 aw_498 aw_2 aw_499) rfl rfl rfl pX2_takeBack ⟨Nat.le_of_ble_eq_true rfl, Nat.le_of_ble_eq_true rfl⟩) 2 (RX2, TX2, 16) rfl rfl ⟨0, _, rfl⟩ hK hP hD hS hA (pw_s3 _ _ _ _ _) (pw_s3 _ _ _ _ _) rfl rfl hl.1 rfl (Nat.le_of_ble_eq_true rfl) dX3_give_41 ⟨Nat.zero_le _, Nat.zero_le _⟩ (fun H locs hP hD hS => ?_)
    refine lv_aload_n hx hb dX3_give_44 rfl (lv_at hl 0 rfl) ?_
    refine va_get (D := D) (ci := 3) (v := .ref (qa 1 0)) (C := RX3) (T := TX3) (N := 7) hx hb hts hin3 hown hK hP 0 rfl rfl 0 (by decide) (hta _ aw_120) (fun _ h9 => h9) rfl dX3_give_45 ?_
    refine lv_iload_n hx hb dX3_give_48 rfl (lv_at hl 1 rfl) ?_
    obtain ⟨r6, hr6, h⟩ := pq_b h
    refine pw_fi (ws0 := W3 cy qa r5 T r4.1 r4.2.1 r4.2.2 ak pa wt cd ln) (ws1 := W3 cy qa r5 T r4.1 r4.2.1 r4.2.2 ak pa wt cd ln) (wc := WP cy (qa 1) r5) (w1 := WP cy (qa 1) r5) (rest := []) (As := [.int x1]) hF (kX2_borrower l D cy (qa 1) _ r5 x1 r6 hr6) (cwV 1 hts (pw_gV (own := RX3) (idx := 77) (C := RX2) (y := yX2_borrower) aw_500 aw_407 aw_408 aw_2 aw_409) rfl rfl rfl pX2_borrower ⟨Nat.le_of_ble_eq_true rfl, Nat.le_of_ble_eq_true rfl⟩) 2 (RX2, TX2, 16) rfl rfl ⟨0, _, rfl⟩ hK hP hD hS hA (pw_s3 _ _ _ _ _) (pw_s3 _ _ _ _ _) rfl rfl hl.1 rfl (Nat.le_of_ble_eq_true rfl) dX3_give_49 ⟨Nat.zero_le _, Nat.zero_le _⟩ (fun H locs hP hD hS => ?_)
    obtain rfl := Sum.inr.inj (Option.some.inj h)
    subst hQ
    exact pw_ri hx hb hr hlk hAe hP hS rfl dX3_give_52
  · have h := pq_t c1_ h
    exact nomatch h

def aX3_giveUp : List Cond := Cond.code yX3_giveUp cX3_giveUp 3 (some .int) :: pw_all
theorem pX3_giveUp : yX3_giveUp.cls = RX3 ∧ yX3_giveUp.cls ≠ "java/lang/invoke/MethodHandle" ∧ yX3_giveUp.cls ≠ "java/lang/invoke/VarHandle" ∧ (parseMethodDescriptor yX3_giveUp.desc).map (fun d => d.parameters.length) = some 1 := by decide +kernel
set_option maxHeartbeats 8000000 in
set_option maxRecDepth 100000 in
theorem kX3_giveUp (l : Launch) (D : va_G) (cy : Nat → ClassId) (qa : Nat → Nat → Nat) (sz : Nat) (P : Nat → Nat → Int32) (T : Nat → Nat → Int32) (S : Nat → Nat → Nat → Int32) (nw : Int32) (hz : Int32) (ak : Nat → Int32) (pa : Nat → Int32) (wt : Nat → Int32) (cd : Nat → Int32) (ln : Int32) (x1 : Int32) (o : Int32 × (Nat → Nat → Int32) × (Nat → Nat → Nat → Int32) × Int32 × Int32) (h : fX3_giveUp x1 P S nw hz = some (Sum.inr o)) : Met l yX3_giveUp aX3_giveUp ({ frames := 5, cells := 0, slots := 0, locals := 113 }) (pw_Pre D cy [.ref (qa 0 0), .int x1] (W3 cy qa P T S nw hz ak pa wt cd ln) sz) (pw_I D o.1 (W3 cy qa P T S nw hz ak pa wt cd ln) (W3 cy qa o.2.1 T o.2.2.1 o.2.2.2.1 o.2.2.2.2 ak pa wt cd ln) sz) 0 0 (va_A (W3 cy qa P T S nw hz ak pa wt cd ln) sz) := by
  refine pw_met (cc := cX3_giveUp) (maxL := 3) (ret := (some .int)) (by decide) rfl (Nat.le_of_ble_eq_true rfl) ?_
  intro p e s m args below meth c ls A hx hb hr hml hlk hts hown hAe hA hK hP hD hS hl
  have hl : lv_has ls 3 [(0, .ref (qa 0 0)), (1, .int x1)] := hl
  generalize hQ : MQ below (pw_I D o.1 (W3 cy qa P T S nw hz ak pa wt cd ln) (W3 cy qa o.2.1 T o.2.2.1 o.2.2.2.1 o.2.2.2.2 ak pa wt cd ln) sz) args s 0 0 (va_A (W3 cy qa P T S nw hz ak pa wt cd ln) sz) = Q
  have hF : CallFix p m c cX3_giveUp 3 s args aX3_giveUp RX3 := ⟨hx, hb, hml, hown, hts⟩
  have hta : ∀ w ∈ pw_all, w.before args s = true := fun w h => hts w (List.mem_cons_of_mem _ h)
  have hin3 : ∀ w ∈ wsX30, w ∈ aX3_giveUp := fun w h => List.mem_cons_of_mem _ (inA3 w h)
  have hin2 : ∀ w ∈ wsX20, w ∈ aX3_giveUp := fun w h => List.mem_cons_of_mem _ (inA2 w h)
  have hin1 : ∀ w ∈ wsX10, w ∈ aX3_giveUp := fun w h => List.mem_cons_of_mem _ (inA1 w h)
  have hin0 : ∀ w ∈ wsX00, w ∈ aX3_giveUp := fun w h => List.mem_cons_of_mem _ (inA0 w h)
  unfold fX3_giveUp at h
  refine lv_iload_n hx hb dX3_giveUp_0 rfl (lv_at hl 1 rfl) ?_
  obtain ⟨r1, hr1, h⟩ := pq_b h
  obtain ⟨a2, rfl, h⟩ := pq_inr h
  refine pw_sv (rest := []) (As := [.int x1]) hF (kX3_requireOwner l D cy _ x1 a2 hr1) (cwS 1 hts (pw_gS (own := RX3) (idx := 43) (y := yX3_requireOwner) aw_146 aw_147 aw_1 aw_148) rfl rfl rfl pX3_requireOwner ⟨Nat.le_of_ble_eq_true rfl, Nat.le_of_ble_eq_true rfl⟩) hK hP hS hA rfl hl.1 rfl (Nat.le_of_ble_eq_true rfl) dX3_giveUp_1 ⟨Nat.zero_le _, Nat.zero_le _⟩ (fun H locs hP hS => ?_)
  refine lv_aload_n hx hb dX3_giveUp_4 rfl (lv_at hl 0 rfl) ?_
  refine va_get (D := D) (ci := 3) (v := .ref (qa 1 0)) (C := RX3) (T := TX3) (N := 7) hx hb hts hin3 hown hK hP 0 rfl rfl 0 (by decide) (hta _ aw_120) (fun _ h9 => h9) rfl dX3_giveUp_5 ?_
  refine lv_iload_n hx hb dX3_giveUp_8 rfl (lv_at hl 1 rfl) ?_
  obtain ⟨r3, hr3, h⟩ := pq_b h
  refine pw_fi (ws0 := W3 cy qa P T S nw hz ak pa wt cd ln) (ws1 := W3 cy qa P T S nw hz ak pa wt cd ln) (wc := WP cy (qa 1) P) (w1 := WP cy (qa 1) P) (rest := []) (As := [.int x1]) hF (kX2_turnOf l D cy (qa 1) _ P x1 r3 hr3) (cwV 1 hts (pw_gV (own := RX3) (idx := 80) (C := RX2) (y := yX2_turnOf) aw_217 aw_218 aw_219 aw_2 aw_220) rfl rfl rfl pX2_turnOf ⟨Nat.le_of_ble_eq_true rfl, Nat.le_of_ble_eq_true rfl⟩) 2 (RX2, TX2, 16) rfl rfl ⟨0, _, rfl⟩ hK hP hD hS hA (pw_s3 _ _ _ _ _) (pw_s3 _ _ _ _ _) rfl rfl hl.1 rfl (Nat.le_of_ble_eq_true rfl) dX3_giveUp_9 ⟨Nat.zero_le _, Nat.zero_le _⟩ (fun H locs hP hD hS => ?_)
  refine lv_iconst (v := (-1)) hx hb dX3_giveUp_12 (by decide) ?_
  refine lv_icmp_ne (tgt := 26) hx hb dX3_giveUp_13 (by decide) (fun c1_ => ?_) (fun c1_ => ?_)
  · have h := pq_e c1_ h
    refine lv_aload_n hx hb dX3_giveUp_26 rfl (lv_at hl 0 rfl) ?_
    refine va_get (D := D) (ci := 3) (v := .ref (qa 4 0)) (C := RX3) (T := TX3) (N := 7) hx hb hts hin3 hown hK hP 0 rfl rfl 5 (by decide) (hta _ aw_125) (fun _ h9 => h9) rfl dX3_giveUp_27 ?_
    refine lv_aload_n hx hb dX3_giveUp_30 rfl (lv_at hl 0 rfl) ?_
    refine va_get (D := D) (ci := 3) (v := .ref (qa 1 0)) (C := RX3) (T := TX3) (N := 7) hx hb hts hin3 hown hK hP 0 rfl rfl 0 (by decide) (hta _ aw_120) (fun _ h9 => h9) rfl dX3_giveUp_31 ?_
    obtain ⟨r4, hr4, h⟩ := pq_b h
    refine pw_fv (ws0 := W3 cy qa P T S nw hz ak pa wt cd ln) (ws1 := W3 cy qa P T r4.1 r4.2.1 r4.2.2 ak pa wt cd ln) (wc := WP cy (qa 1) P ++ WH cy qa S nw hz) (w1 := WP cy (qa 1) P ++ WH cy qa r4.1 r4.2.1 r4.2.2) (rest := []) (As := [.ref (qa 1 0)]) hF (kX1_save l D cy qa _ P S nw hz r4 hr4) (cwV 1 hts (pw_gV (own := RX3) (idx := 58) (C := RX1) (y := yX1_save) aw_237 aw_238 aw_239 aw_4 aw_240) rfl rfl rfl pX1_save ⟨Nat.le_of_ble_eq_true rfl, Nat.le_of_ble_eq_true rfl⟩) 1 (RX1, TX1, 3) rfl rfl ⟨15, _, rfl⟩ hK hP hD hS hA (pw_s34 _ _ _ _ _) (pw_s34 _ _ _ _ _) rfl rfl hl.1 rfl (Nat.le_of_ble_eq_true rfl) dX3_giveUp_34 ⟨Nat.zero_le _, Nat.zero_le _⟩ (fun H locs hP hD hS => ?_)
    refine lv_aload_n hx hb dX3_giveUp_37 rfl (lv_at hl 0 rfl) ?_
    refine va_get (D := D) (ci := 3) (v := .ref (qa 1 0)) (C := RX3) (T := TX3) (N := 7) hx hb hts hin3 hown hK hP 0 rfl rfl 0 (by decide) (hta _ aw_120) (fun _ h9 => h9) rfl dX3_giveUp_38 ?_
    refine lv_iload_n hx hb dX3_giveUp_41 rfl (lv_at hl 1 rfl) ?_
    obtain ⟨r5, hr5, h⟩ := pq_b h
    refine pw_fi (ws0 := W3 cy qa P T r4.1 r4.2.1 r4.2.2 ak pa wt cd ln) (ws1 := W3 cy qa P T r4.1 r4.2.1 r4.2.2 ak pa wt cd ln) (wc := WP cy (qa 1) P) (w1 := WP cy (qa 1) P) (rest := []) (As := [.int x1]) hF (kX2_waitOf l D cy (qa 1) _ P x1 r5 hr5) (cwV 1 hts (pw_gV (own := RX3) (idx := 85) (C := RX2) (y := yX2_waitOf) aw_248 aw_249 aw_250 aw_2 aw_251) rfl rfl rfl pX2_waitOf ⟨Nat.le_of_ble_eq_true rfl, Nat.le_of_ble_eq_true rfl⟩) 2 (RX2, TX2, 16) rfl rfl ⟨0, _, rfl⟩ hK hP hD hS hA (pw_s3 _ _ _ _ _) (pw_s3 _ _ _ _ _) rfl rfl hl.1 rfl (Nat.le_of_ble_eq_true rfl) dX3_giveUp_42 ⟨Nat.zero_le _, Nat.zero_le _⟩ (fun H locs hP hD hS => ?_)
    refine lv_istore_n (lv' := [(2, .int r5), (0, .ref (qa 0 0)), (1, .int x1)]) hx hb dX3_giveUp_45 rfl hl (by decide) rfl (fun ls hl => ?_)
    refine lv_aload_n hx hb dX3_giveUp_46 rfl (lv_at hl 1 rfl) ?_
    refine va_get (D := D) (ci := 3) (v := .ref (qa 1 0)) (C := RX3) (T := TX3) (N := 7) hx hb hts hin3 hown hK hP 0 rfl rfl 0 (by decide) (hta _ aw_120) (fun _ h9 => h9) rfl dX3_giveUp_47 ?_
    refine lv_iload_n hx hb dX3_giveUp_50 rfl (lv_at hl 2 rfl) ?_
    obtain ⟨r6, hr6, h⟩ := pq_b h
    refine pw_fv (ws0 := W3 cy qa P T r4.1 r4.2.1 r4.2.2 ak pa wt cd ln) (ws1 := W3 cy qa r6 T r4.1 r4.2.1 r4.2.2 ak pa wt cd ln) (wc := WP cy (qa 1) P) (w1 := WP cy (qa 1) r6) (rest := []) (As := [.int x1]) hF (kX2_stopWaiting l D cy (qa 1) _ P x1 r6 hr6) (cwV 1 hts (pw_gV (own := RX3) (idx := 88) (C := RX2) (y := yX2_stopWaiting) aw_253 aw_254 aw_255 aw_2 aw_256) rfl rfl rfl pX2_stopWaiting ⟨Nat.le_of_ble_eq_true rfl, Nat.le_of_ble_eq_true rfl⟩) 2 (RX2, TX2, 16) rfl rfl ⟨0, _, rfl⟩ hK hP hD hS hA (pw_s3 _ _ _ _ _) (pw_s3 _ _ _ _ _) rfl rfl hl.1 rfl (Nat.le_of_ble_eq_true rfl) dX3_giveUp_51 ⟨Nat.zero_le _, Nat.zero_le _⟩ (fun H locs hP hD hS => ?_)
    refine lv_iload_n hx hb dX3_giveUp_54 rfl (lv_at hl 0 rfl) ?_
    obtain rfl := Sum.inr.inj (Option.some.inj h)
    subst hQ
    exact pw_ri hx hb hr hlk hAe hP hS rfl dX3_giveUp_55
  · have h := pq_t c1_ h
    exact nomatch h

def aX3_appear : List Cond := Cond.code yX3_appear cX3_appear 3 (some .int) :: pw_all
theorem pX3_appear : yX3_appear.cls = RX3 ∧ yX3_appear.cls ≠ "java/lang/invoke/MethodHandle" ∧ yX3_appear.cls ≠ "java/lang/invoke/VarHandle" ∧ (parseMethodDescriptor yX3_appear.desc).map (fun d => d.parameters.length) = some 2 := by decide +kernel
set_option maxHeartbeats 8000000 in
set_option maxRecDepth 100000 in
theorem kX3_appear (l : Launch) (D : va_G) (cy : Nat → ClassId) (qa : Nat → Nat → Nat) (sz : Nat) (P : Nat → Nat → Int32) (T : Nat → Nat → Int32) (S : Nat → Nat → Nat → Int32) (nw : Int32) (hz : Int32) (ak : Nat → Int32) (pa : Nat → Int32) (wt : Nat → Int32) (cd : Nat → Int32) (ln : Int32) (x1 : Int32) (x2 : Int32) (o : Int32 × (Nat → Nat → Int32) × (Nat → Nat → Nat → Int32) × Int32 × Int32) (h : fX3_appear x1 x2 P S nw hz = some (Sum.inr o)) : Met l yX3_appear aX3_appear ({ frames := 5, cells := 0, slots := 0, locals := 114 }) (pw_Pre D cy [.ref (qa 0 0), .int x1, .int x2] (W3 cy qa P T S nw hz ak pa wt cd ln) sz) (pw_I D o.1 (W3 cy qa P T S nw hz ak pa wt cd ln) (W3 cy qa o.2.1 T o.2.2.1 o.2.2.2.1 o.2.2.2.2 ak pa wt cd ln) sz) 0 0 (va_A (W3 cy qa P T S nw hz ak pa wt cd ln) sz) := by
  refine pw_met (cc := cX3_appear) (maxL := 3) (ret := (some .int)) (by decide) rfl (Nat.le_of_ble_eq_true rfl) ?_
  intro p e s m args below meth c ls A hx hb hr hml hlk hts hown hAe hA hK hP hD hS hl
  have hl : lv_has ls 3 [(0, .ref (qa 0 0)), (1, .int x1), (2, .int x2)] := hl
  generalize hQ : MQ below (pw_I D o.1 (W3 cy qa P T S nw hz ak pa wt cd ln) (W3 cy qa o.2.1 T o.2.2.1 o.2.2.2.1 o.2.2.2.2 ak pa wt cd ln) sz) args s 0 0 (va_A (W3 cy qa P T S nw hz ak pa wt cd ln) sz) = Q
  have hF : CallFix p m c cX3_appear 3 s args aX3_appear RX3 := ⟨hx, hb, hml, hown, hts⟩
  have hta : ∀ w ∈ pw_all, w.before args s = true := fun w h => hts w (List.mem_cons_of_mem _ h)
  have hin3 : ∀ w ∈ wsX30, w ∈ aX3_appear := fun w h => List.mem_cons_of_mem _ (inA3 w h)
  have hin2 : ∀ w ∈ wsX20, w ∈ aX3_appear := fun w h => List.mem_cons_of_mem _ (inA2 w h)
  have hin1 : ∀ w ∈ wsX10, w ∈ aX3_appear := fun w h => List.mem_cons_of_mem _ (inA1 w h)
  have hin0 : ∀ w ∈ wsX00, w ∈ aX3_appear := fun w h => List.mem_cons_of_mem _ (inA0 w h)
  unfold fX3_appear at h
  refine lv_iload_n hx hb dX3_appear_0 rfl (lv_at hl 1 rfl) ?_
  obtain ⟨r1, hr1, h⟩ := pq_b h
  obtain ⟨a2, rfl, h⟩ := pq_inr h
  refine pw_sv (rest := []) (As := [.int x1]) hF (kX3_requireOwner l D cy _ x1 a2 hr1) (cwS 1 hts (pw_gS (own := RX3) (idx := 43) (y := yX3_requireOwner) aw_146 aw_147 aw_1 aw_148) rfl rfl rfl pX3_requireOwner ⟨Nat.le_of_ble_eq_true rfl, Nat.le_of_ble_eq_true rfl⟩) hK hP hS hA rfl hl.1 rfl (Nat.le_of_ble_eq_true rfl) dX3_appear_1 ⟨Nat.zero_le _, Nat.zero_le _⟩ (fun H locs hP hS => ?_)
  refine lv_aload_n hx hb dX3_appear_4 rfl (lv_at hl 0 rfl) ?_
  refine va_get (D := D) (ci := 3) (v := .ref (qa 1 0)) (C := RX3) (T := TX3) (N := 7) hx hb hts hin3 hown hK hP 0 rfl rfl 0 (by decide) (hta _ aw_120) (fun _ h9 => h9) rfl dX3_appear_5 ?_
  refine lv_iload_n hx hb dX3_appear_8 rfl (lv_at hl 1 rfl) ?_
  obtain ⟨r3, hr3, h⟩ := pq_b h
  refine pw_fi (ws0 := W3 cy qa P T S nw hz ak pa wt cd ln) (ws1 := W3 cy qa P T S nw hz ak pa wt cd ln) (wc := WP cy (qa 1) P) (w1 := WP cy (qa 1) P) (rest := []) (As := [.int x1]) hF (kX2_isThere l D cy (qa 1) _ P x1 r3 hr3) (cwV 1 hts (pw_gV (own := RX3) (idx := 91) (C := RX2) (y := yX2_isThere) aw_321 aw_322 aw_323 aw_2 aw_324) rfl rfl rfl pX2_isThere ⟨Nat.le_of_ble_eq_true rfl, Nat.le_of_ble_eq_true rfl⟩) 2 (RX2, TX2, 16) rfl rfl ⟨0, _, rfl⟩ hK hP hD hS hA (pw_s3 _ _ _ _ _) (pw_s3 _ _ _ _ _) rfl rfl hl.1 rfl (Nat.le_of_ble_eq_true rfl) dX3_appear_9 ⟨Nat.zero_le _, Nat.zero_le _⟩ (fun H locs hP hD hS => ?_)
  refine lv_iload_n hx hb dX3_appear_12 rfl (lv_at hl 2 rfl) ?_
  refine lv_icmp_ne (tgt := 26) hx hb dX3_appear_13 (by decide) (fun c1_ => ?_) (fun c1_ => ?_)
  · have h := pq_e c1_ h
    refine lv_aload_n hx hb dX3_appear_26 rfl (lv_at hl 0 rfl) ?_
    refine va_get (D := D) (ci := 3) (v := .ref (qa 4 0)) (C := RX3) (T := TX3) (N := 7) hx hb hts hin3 hown hK hP 0 rfl rfl 5 (by decide) (hta _ aw_125) (fun _ h9 => h9) rfl dX3_appear_27 ?_
    refine lv_aload_n hx hb dX3_appear_30 rfl (lv_at hl 0 rfl) ?_
    refine va_get (D := D) (ci := 3) (v := .ref (qa 1 0)) (C := RX3) (T := TX3) (N := 7) hx hb hts hin3 hown hK hP 0 rfl rfl 0 (by decide) (hta _ aw_120) (fun _ h9 => h9) rfl dX3_appear_31 ?_
    obtain ⟨r4, hr4, h⟩ := pq_b h
    refine pw_fv (ws0 := W3 cy qa P T S nw hz ak pa wt cd ln) (ws1 := W3 cy qa P T r4.1 r4.2.1 r4.2.2 ak pa wt cd ln) (wc := WP cy (qa 1) P ++ WH cy qa S nw hz) (w1 := WP cy (qa 1) P ++ WH cy qa r4.1 r4.2.1 r4.2.2) (rest := []) (As := [.ref (qa 1 0)]) hF (kX1_save l D cy qa _ P S nw hz r4 hr4) (cwV 1 hts (pw_gV (own := RX3) (idx := 58) (C := RX1) (y := yX1_save) aw_237 aw_238 aw_239 aw_4 aw_240) rfl rfl rfl pX1_save ⟨Nat.le_of_ble_eq_true rfl, Nat.le_of_ble_eq_true rfl⟩) 1 (RX1, TX1, 3) rfl rfl ⟨15, _, rfl⟩ hK hP hD hS hA (pw_s34 _ _ _ _ _) (pw_s34 _ _ _ _ _) rfl rfl hl.1 rfl (Nat.le_of_ble_eq_true rfl) dX3_appear_34 ⟨Nat.zero_le _, Nat.zero_le _⟩ (fun H locs hP hD hS => ?_)
    refine lv_aload_n hx hb dX3_appear_37 rfl (lv_at hl 0 rfl) ?_
    refine va_get (D := D) (ci := 3) (v := .ref (qa 1 0)) (C := RX3) (T := TX3) (N := 7) hx hb hts hin3 hown hK hP 0 rfl rfl 0 (by decide) (hta _ aw_120) (fun _ h9 => h9) rfl dX3_appear_38 ?_
    refine lv_iload_n hx hb dX3_appear_41 rfl (lv_at hl 1 rfl) ?_
    refine lv_iload_n hx hb dX3_appear_42 rfl (lv_at hl 2 rfl) ?_
    obtain ⟨r5, hr5, h⟩ := pq_b h
    refine pw_fv (ws0 := W3 cy qa P T r4.1 r4.2.1 r4.2.2 ak pa wt cd ln) (ws1 := W3 cy qa r5 T r4.1 r4.2.1 r4.2.2 ak pa wt cd ln) (wc := WP cy (qa 1) P) (w1 := WP cy (qa 1) r5) (rest := []) (As := [.int x1, .int x2]) hF (kX2_turnUp l D cy (qa 1) _ P x1 x2 r5 hr5) (cwV 2 hts (pw_gV (own := RX3) (idx := 96) (C := RX2) (y := yX2_turnUp) aw_326 aw_327 aw_328 aw_2 aw_329) rfl rfl rfl pX2_turnUp ⟨Nat.le_of_ble_eq_true rfl, Nat.le_of_ble_eq_true rfl⟩) 2 (RX2, TX2, 16) rfl rfl ⟨0, _, rfl⟩ hK hP hD hS hA (pw_s3 _ _ _ _ _) (pw_s3 _ _ _ _ _) rfl rfl hl.1 rfl (Nat.le_of_ble_eq_true rfl) dX3_appear_43 ⟨Nat.zero_le _, Nat.zero_le _⟩ (fun H locs hP hD hS => ?_)
    refine lv_aload_n hx hb dX3_appear_46 rfl (lv_at hl 0 rfl) ?_
    refine va_get (D := D) (ci := 3) (v := .ref (qa 1 0)) (C := RX3) (T := TX3) (N := 7) hx hb hts hin3 hown hK hP 0 rfl rfl 0 (by decide) (hta _ aw_120) (fun _ h9 => h9) rfl dX3_appear_47 ?_
    refine lv_iload_n hx hb dX3_appear_50 rfl (lv_at hl 1 rfl) ?_
    obtain ⟨r6, hr6, h⟩ := pq_b h
    refine pw_fi (ws0 := W3 cy qa r5 T r4.1 r4.2.1 r4.2.2 ak pa wt cd ln) (ws1 := W3 cy qa r5 T r4.1 r4.2.1 r4.2.2 ak pa wt cd ln) (wc := WP cy (qa 1) r5) (w1 := WP cy (qa 1) r5) (rest := []) (As := [.int x1]) hF (kX2_lentCount l D cy (qa 1) _ r5 x1 r6 hr6) (cwV 1 hts (pw_gV (own := RX3) (idx := 100) (C := RX2) (y := yX2_lentCount) aw_330 aw_274 aw_275 aw_2 aw_276) rfl rfl rfl pX2_lentCount ⟨Nat.le_of_ble_eq_true rfl, Nat.le_of_ble_eq_true rfl⟩) 2 (RX2, TX2, 16) rfl rfl ⟨0, _, rfl⟩ hK hP hD hS hA (pw_s3 _ _ _ _ _) (pw_s3 _ _ _ _ _) rfl rfl hl.1 rfl (Nat.le_of_ble_eq_true rfl) dX3_appear_51 ⟨Nat.zero_le _, Nat.zero_le _⟩ (fun H locs hP hD hS => ?_)
    obtain rfl := Sum.inr.inj (Option.some.inj h)
    subst hQ
    exact pw_ri hx hb hr hlk hAe hP hS rfl dX3_appear_54
  · have h := pq_t c1_ h
    exact nomatch h

def aX3_sicken : List Cond := Cond.code yX3_sicken cX3_sicken 2 (some .int) :: pw_all
theorem pX3_sicken : yX3_sicken.cls = RX3 ∧ yX3_sicken.cls ≠ "java/lang/invoke/MethodHandle" ∧ yX3_sicken.cls ≠ "java/lang/invoke/VarHandle" ∧ (parseMethodDescriptor yX3_sicken.desc).map (fun d => d.parameters.length) = some 1 := by decide +kernel
set_option maxHeartbeats 8000000 in
set_option maxRecDepth 100000 in
theorem kX3_sicken (l : Launch) (D : va_G) (cy : Nat → ClassId) (qa : Nat → Nat → Nat) (sz : Nat) (P : Nat → Nat → Int32) (T : Nat → Nat → Int32) (S : Nat → Nat → Nat → Int32) (nw : Int32) (hz : Int32) (ak : Nat → Int32) (pa : Nat → Int32) (wt : Nat → Int32) (cd : Nat → Int32) (ln : Int32) (x1 : Int32) (o : Int32 × (Nat → Nat → Int32) × (Nat → Nat → Nat → Int32) × Int32 × Int32) (h : fX3_sicken x1 P S nw hz = some (Sum.inr o)) : Met l yX3_sicken aX3_sicken ({ frames := 3, cells := 0, slots := 0, locals := 111 }) (pw_Pre D cy [.ref (qa 0 0), .int x1] (W3 cy qa P T S nw hz ak pa wt cd ln) sz) (pw_I D o.1 (W3 cy qa P T S nw hz ak pa wt cd ln) (W3 cy qa o.2.1 T o.2.2.1 o.2.2.2.1 o.2.2.2.2 ak pa wt cd ln) sz) 0 0 (va_A (W3 cy qa P T S nw hz ak pa wt cd ln) sz) := by
  refine pw_met (cc := cX3_sicken) (maxL := 2) (ret := (some .int)) (by decide) rfl (Nat.le_of_ble_eq_true rfl) ?_
  intro p e s m args below meth c ls A hx hb hr hml hlk hts hown hAe hA hK hP hD hS hl
  have hl : lv_has ls 2 [(0, .ref (qa 0 0)), (1, .int x1)] := hl
  generalize hQ : MQ below (pw_I D o.1 (W3 cy qa P T S nw hz ak pa wt cd ln) (W3 cy qa o.2.1 T o.2.2.1 o.2.2.2.1 o.2.2.2.2 ak pa wt cd ln) sz) args s 0 0 (va_A (W3 cy qa P T S nw hz ak pa wt cd ln) sz) = Q
  have hF : CallFix p m c cX3_sicken 2 s args aX3_sicken RX3 := ⟨hx, hb, hml, hown, hts⟩
  have hta : ∀ w ∈ pw_all, w.before args s = true := fun w h => hts w (List.mem_cons_of_mem _ h)
  have hin3 : ∀ w ∈ wsX30, w ∈ aX3_sicken := fun w h => List.mem_cons_of_mem _ (inA3 w h)
  have hin2 : ∀ w ∈ wsX20, w ∈ aX3_sicken := fun w h => List.mem_cons_of_mem _ (inA2 w h)
  have hin1 : ∀ w ∈ wsX10, w ∈ aX3_sicken := fun w h => List.mem_cons_of_mem _ (inA1 w h)
  have hin0 : ∀ w ∈ wsX00, w ∈ aX3_sicken := fun w h => List.mem_cons_of_mem _ (inA0 w h)
  unfold fX3_sicken at h
  refine lv_iload_n hx hb dX3_sicken_0 rfl (lv_at hl 1 rfl) ?_
  obtain ⟨r1, hr1, h⟩ := pq_b h
  obtain ⟨a2, rfl, h⟩ := pq_inr h
  refine pw_sv (rest := []) (As := [.int x1]) hF (kX3_requirePlace l D cy _ x1 a2 hr1) (cwS 1 hts (pw_gS (own := RX3) (idx := 66) (y := yX3_requirePlace) aw_335 aw_336 aw_1 aw_337) rfl rfl rfl pX3_requirePlace ⟨Nat.le_of_ble_eq_true rfl, Nat.le_of_ble_eq_true rfl⟩) hK hP hS hA rfl hl.1 rfl (Nat.le_of_ble_eq_true rfl) dX3_sicken_1 ⟨Nat.zero_le _, Nat.zero_le _⟩ (fun H locs hP hS => ?_)
  refine lv_aload_n hx hb dX3_sicken_4 rfl (lv_at hl 0 rfl) ?_
  refine va_get (D := D) (ci := 3) (v := .ref (qa 1 0)) (C := RX3) (T := TX3) (N := 7) hx hb hts hin3 hown hK hP 0 rfl rfl 0 (by decide) (hta _ aw_120) (fun _ h9 => h9) rfl dX3_sicken_5 ?_
  refine lv_iload_n hx hb dX3_sicken_8 rfl (lv_at hl 1 rfl) ?_
  obtain ⟨r3, hr3, h⟩ := pq_b h
  refine pw_fi (ws0 := W3 cy qa P T S nw hz ak pa wt cd ln) (ws1 := W3 cy qa P T S nw hz ak pa wt cd ln) (wc := WP cy (qa 1) P) (w1 := WP cy (qa 1) P) (rest := []) (As := [.int x1]) hF (kX2_isEmpty l D cy (qa 1) _ P x1 r3 hr3) (cwV 1 hts (pw_gV (own := RX3) (idx := 103) (C := RX2) (y := yX2_isEmpty) aw_339 aw_310 aw_311 aw_2 aw_312) rfl rfl rfl pX2_isEmpty ⟨Nat.le_of_ble_eq_true rfl, Nat.le_of_ble_eq_true rfl⟩) 2 (RX2, TX2, 16) rfl rfl ⟨0, _, rfl⟩ hK hP hD hS hA (pw_s3 _ _ _ _ _) (pw_s3 _ _ _ _ _) rfl rfl hl.1 rfl (Nat.le_of_ble_eq_true rfl) dX3_sicken_9 ⟨Nat.zero_le _, Nat.zero_le _⟩ (fun H locs hP hD hS => ?_)
  refine lv_if_eq (tgt := 25) hx hb dX3_sicken_12 (by decide) (fun c1_ => ?_) (fun c1_ => ?_)
  · have h := pq_t c1_ h
    refine lv_aload_n hx hb dX3_sicken_25 rfl (lv_at hl 0 rfl) ?_
    refine va_get (D := D) (ci := 3) (v := .ref (qa 4 0)) (C := RX3) (T := TX3) (N := 7) hx hb hts hin3 hown hK hP 0 rfl rfl 5 (by decide) (hta _ aw_125) (fun _ h9 => h9) rfl dX3_sicken_26 ?_
    refine lv_aload_n hx hb dX3_sicken_29 rfl (lv_at hl 0 rfl) ?_
    refine va_get (D := D) (ci := 3) (v := .ref (qa 1 0)) (C := RX3) (T := TX3) (N := 7) hx hb hts hin3 hown hK hP 0 rfl rfl 0 (by decide) (hta _ aw_120) (fun _ h9 => h9) rfl dX3_sicken_30 ?_
    obtain ⟨r4, hr4, h⟩ := pq_b h
    refine pw_fv (ws0 := W3 cy qa P T S nw hz ak pa wt cd ln) (ws1 := W3 cy qa P T r4.1 r4.2.1 r4.2.2 ak pa wt cd ln) (wc := WP cy (qa 1) P ++ WH cy qa S nw hz) (w1 := WP cy (qa 1) P ++ WH cy qa r4.1 r4.2.1 r4.2.2) (rest := []) (As := [.ref (qa 1 0)]) hF (kX1_save l D cy qa _ P S nw hz r4 hr4) (cwV 1 hts (pw_gV (own := RX3) (idx := 58) (C := RX1) (y := yX1_save) aw_237 aw_238 aw_239 aw_4 aw_240) rfl rfl rfl pX1_save ⟨Nat.le_of_ble_eq_true rfl, Nat.le_of_ble_eq_true rfl⟩) 1 (RX1, TX1, 3) rfl rfl ⟨15, _, rfl⟩ hK hP hD hS hA (pw_s34 _ _ _ _ _) (pw_s34 _ _ _ _ _) rfl rfl hl.1 rfl (Nat.le_of_ble_eq_true rfl) dX3_sicken_33 ⟨Nat.zero_le _, Nat.zero_le _⟩ (fun H locs hP hD hS => ?_)
    refine lv_aload_n hx hb dX3_sicken_36 rfl (lv_at hl 0 rfl) ?_
    refine va_get (D := D) (ci := 3) (v := .ref (qa 1 0)) (C := RX3) (T := TX3) (N := 7) hx hb hts hin3 hown hK hP 0 rfl rfl 0 (by decide) (hta _ aw_120) (fun _ h9 => h9) rfl dX3_sicken_37 ?_
    refine lv_iload_n hx hb dX3_sicken_40 rfl (lv_at hl 1 rfl) ?_
    obtain ⟨r5, hr5, h⟩ := pq_b h
    refine pw_fi (ws0 := W3 cy qa P T r4.1 r4.2.1 r4.2.2 ak pa wt cd ln) (ws1 := W3 cy qa r5.2 T r4.1 r4.2.1 r4.2.2 ak pa wt cd ln) (wc := WP cy (qa 1) P) (w1 := WP cy (qa 1) r5.2) (rest := []) (As := [.int x1]) hF (kX2_makeSick l D cy (qa 1) _ P x1 r5 hr5) (cwV 1 hts (pw_gV (own := RX3) (idx := 108) (C := RX2) (y := yX2_makeSick) aw_341 aw_342 aw_343 aw_2 aw_344) rfl rfl rfl pX2_makeSick ⟨Nat.le_of_ble_eq_true rfl, Nat.le_of_ble_eq_true rfl⟩) 2 (RX2, TX2, 16) rfl rfl ⟨0, _, rfl⟩ hK hP hD hS hA (pw_s3 _ _ _ _ _) (pw_s3 _ _ _ _ _) rfl rfl hl.1 rfl (Nat.le_of_ble_eq_true rfl) dX3_sicken_41 ⟨Nat.zero_le _, Nat.zero_le _⟩ (fun H locs hP hD hS => ?_)
    refine lv_if_eq (tgt := 51) hx hb dX3_sicken_44 (by decide) (fun c2_ => ?_) (fun c2_ => ?_)
    · have h := pq_t c2_ h
      refine lv_iconst (v := 0) hx hb dX3_sicken_51 (by decide) ?_
      obtain rfl := Sum.inr.inj (Option.some.inj h)
      subst hQ
      exact pw_ri hx hb hr hlk hAe hP hS rfl dX3_sicken_52
    · have h := pq_e c2_ h
      refine lv_iconst (v := 1) hx hb dX3_sicken_47 (by decide) ?_
      refine lv_goto (tgt := 52) hx hb dX3_sicken_48 (by decide) ?_
      obtain rfl := Sum.inr.inj (Option.some.inj h)
      subst hQ
      exact pw_ri hx hb hr hlk hAe hP hS rfl dX3_sicken_52
  · have h := pq_e c1_ h
    exact nomatch h

def aX3_check : List Cond := Cond.code yX3_check cX3_check 2 (some .int) :: pw_all
theorem pX3_check : yX3_check.cls = RX3 ∧ yX3_check.cls ≠ "java/lang/invoke/MethodHandle" ∧ yX3_check.cls ≠ "java/lang/invoke/VarHandle" ∧ (parseMethodDescriptor yX3_check.desc).map (fun d => d.parameters.length) = some 0 := by decide +kernel
set_option maxHeartbeats 8000000 in
set_option maxRecDepth 100000 in
theorem kX3_check (l : Launch) (D : va_G) (cy : Nat → ClassId) (qa : Nat → Nat → Nat) (sz : Nat) (P : Nat → Nat → Int32) (T : Nat → Nat → Int32) (S : Nat → Nat → Nat → Int32) (nw : Int32) (hz : Int32) (ak : Nat → Int32) (pa : Nat → Int32) (wt : Nat → Int32) (cd : Nat → Int32) (ln : Int32)  (o : Int32 × (Nat → Nat → Int32) × (Nat → Nat → Nat → Int32) × Int32 × Int32) (h : fX3_check P S nw hz = some o) : Met l yX3_check aX3_check ({ frames := 4, cells := 0, slots := 0, locals := 111 }) (pw_Pre D cy [.ref (qa 0 0)] (W3 cy qa P T S nw hz ak pa wt cd ln) sz) (pw_I D o.1 (W3 cy qa P T S nw hz ak pa wt cd ln) (W3 cy qa o.2.1 T o.2.2.1 o.2.2.2.1 o.2.2.2.2 ak pa wt cd ln) sz) 0 0 (va_A (W3 cy qa P T S nw hz ak pa wt cd ln) sz) := by
  refine pw_met (cc := cX3_check) (maxL := 2) (ret := (some .int)) (by decide) rfl (Nat.le_of_ble_eq_true rfl) ?_
  intro p e s m args below meth c ls A hx hb hr hml hlk hts hown hAe hA hK hP hD hS hl
  have hl : lv_has ls 2 [(0, .ref (qa 0 0))] := hl
  generalize hQ : MQ below (pw_I D o.1 (W3 cy qa P T S nw hz ak pa wt cd ln) (W3 cy qa o.2.1 T o.2.2.1 o.2.2.2.1 o.2.2.2.2 ak pa wt cd ln) sz) args s 0 0 (va_A (W3 cy qa P T S nw hz ak pa wt cd ln) sz) = Q
  have hF : CallFix p m c cX3_check 2 s args aX3_check RX3 := ⟨hx, hb, hml, hown, hts⟩
  have hta : ∀ w ∈ pw_all, w.before args s = true := fun w h => hts w (List.mem_cons_of_mem _ h)
  have hin3 : ∀ w ∈ wsX30, w ∈ aX3_check := fun w h => List.mem_cons_of_mem _ (inA3 w h)
  have hin2 : ∀ w ∈ wsX20, w ∈ aX3_check := fun w h => List.mem_cons_of_mem _ (inA2 w h)
  have hin1 : ∀ w ∈ wsX10, w ∈ aX3_check := fun w h => List.mem_cons_of_mem _ (inA1 w h)
  have hin0 : ∀ w ∈ wsX00, w ∈ aX3_check := fun w h => List.mem_cons_of_mem _ (inA0 w h)
  unfold fX3_check at h
  refine lv_aload_n hx hb dX3_check_0 rfl (lv_at hl 0 rfl) ?_
  refine va_get (D := D) (ci := 3) (v := .ref (qa 4 0)) (C := RX3) (T := TX3) (N := 7) hx hb hts hin3 hown hK hP 0 rfl rfl 5 (by decide) (hta _ aw_125) (fun _ h9 => h9) rfl dX3_check_1 ?_
  refine lv_aload_n hx hb dX3_check_4 rfl (lv_at hl 0 rfl) ?_
  refine va_get (D := D) (ci := 3) (v := .ref (qa 1 0)) (C := RX3) (T := TX3) (N := 7) hx hb hts hin3 hown hK hP 0 rfl rfl 0 (by decide) (hta _ aw_120) (fun _ h9 => h9) rfl dX3_check_5 ?_
  obtain ⟨r1, hr1, h⟩ := pq_b h
  refine pw_fv (ws0 := W3 cy qa P T S nw hz ak pa wt cd ln) (ws1 := W3 cy qa P T r1.1 r1.2.1 r1.2.2 ak pa wt cd ln) (wc := WP cy (qa 1) P ++ WH cy qa S nw hz) (w1 := WP cy (qa 1) P ++ WH cy qa r1.1 r1.2.1 r1.2.2) (rest := []) (As := [.ref (qa 1 0)]) hF (kX1_save l D cy qa _ P S nw hz r1 hr1) (cwV 1 hts (pw_gV (own := RX3) (idx := 58) (C := RX1) (y := yX1_save) aw_237 aw_238 aw_239 aw_4 aw_240) rfl rfl rfl pX1_save ⟨Nat.le_of_ble_eq_true rfl, Nat.le_of_ble_eq_true rfl⟩) 1 (RX1, TX1, 3) rfl rfl ⟨15, _, rfl⟩ hK hP hD hS hA (pw_s34 _ _ _ _ _) (pw_s34 _ _ _ _ _) rfl rfl hl.1 rfl (Nat.le_of_ble_eq_true rfl) dX3_check_8 ⟨Nat.zero_le _, Nat.zero_le _⟩ (fun H locs hP hD hS => ?_)
  refine lv_aload_n hx hb dX3_check_11 rfl (lv_at hl 0 rfl) ?_
  refine va_get (D := D) (ci := 3) (v := .ref (qa 1 0)) (C := RX3) (T := TX3) (N := 7) hx hb hts hin3 hown hK hP 0 rfl rfl 0 (by decide) (hta _ aw_120) (fun _ h9 => h9) rfl dX3_check_12 ?_
  obtain ⟨r2, hr2, h⟩ := pq_b h
  refine pw_fi (ws0 := W3 cy qa P T r1.1 r1.2.1 r1.2.2 ak pa wt cd ln) (ws1 := W3 cy qa r2.2 T r1.1 r1.2.1 r1.2.2 ak pa wt cd ln) (wc := WP cy (qa 1) P) (w1 := WP cy (qa 1) r2.2) (rest := []) (As := []) hF (kX2_checkIdle l D cy (qa 1) _ P  r2 hr2) (cwV 0 hts (pw_gV (own := RX3) (idx := 111) (C := RX2) (y := yX2_checkIdle) aw_349 aw_350 aw_351 aw_2 aw_352) rfl rfl rfl pX2_checkIdle ⟨Nat.le_of_ble_eq_true rfl, Nat.le_of_ble_eq_true rfl⟩) 2 (RX2, TX2, 16) rfl rfl ⟨0, _, rfl⟩ hK hP hD hS hA (pw_s3 _ _ _ _ _) (pw_s3 _ _ _ _ _) rfl rfl hl.1 rfl (Nat.le_of_ble_eq_true rfl) dX3_check_15 ⟨Nat.zero_le _, Nat.zero_le _⟩ (fun H locs hP hD hS => ?_)
  refine lv_istore_n (lv' := [(1, .int r2.1), (0, .ref (qa 0 0))]) hx hb dX3_check_18 rfl hl (by decide) rfl (fun ls hl => ?_)
  refine lv_aload_n hx hb dX3_check_19 rfl (lv_at hl 1 rfl) ?_
  refine va_get (D := D) (ci := 3) (v := .ref (qa 1 0)) (C := RX3) (T := TX3) (N := 7) hx hb hts hin3 hown hK hP 0 rfl rfl 0 (by decide) (hta _ aw_120) (fun _ h9 => h9) rfl dX3_check_20 ?_
  refine lv_iconst (v := (-1)) hx hb dX3_check_23 (by decide) ?_
  obtain ⟨r3, hr3, h⟩ := pq_b h
  refine pw_fi (ws0 := W3 cy qa r2.2 T r1.1 r1.2.1 r1.2.2 ak pa wt cd ln) (ws1 := W3 cy qa r3.2 T r1.1 r1.2.1 r1.2.2 ak pa wt cd ln) (wc := WP cy (qa 1) r2.2) (w1 := WP cy (qa 1) r3.2) (rest := []) (As := [.int (-1)]) hF (kX2_serveWaiters l D cy (qa 1) _ r2.2 (-1) r3 hr3) (cwV 1 hts (pw_gV (own := RX3) (idx := 115) (C := RX2) (y := yX2_serveWaiters) aw_353 aw_262 aw_263 aw_2 aw_264) rfl rfl rfl pX2_serveWaiters ⟨Nat.le_of_ble_eq_true rfl, Nat.le_of_ble_eq_true rfl⟩) 2 (RX2, TX2, 16) rfl rfl ⟨0, _, rfl⟩ hK hP hD hS hA (pw_s3 _ _ _ _ _) (pw_s3 _ _ _ _ _) rfl rfl hl.1 rfl (Nat.le_of_ble_eq_true rfl) dX3_check_24 ⟨Nat.zero_le _, Nat.zero_le _⟩ (fun H locs hP hD hS => ?_)
  refine lv_pop hx hb dX3_check_27 rfl ?_
  refine lv_iload_n hx hb dX3_check_28 rfl (lv_at hl 0 rfl) ?_
  obtain rfl := Option.some.inj h
  subst hQ
  exact pw_ri hx hb hr hlk hAe hP hS rfl dX3_check_29

def aX3_drain : List Cond := Cond.code yX3_drain cX3_drain 2 (some .int) :: pw_all
theorem pX3_drain : yX3_drain.cls = RX3 ∧ yX3_drain.cls ≠ "java/lang/invoke/MethodHandle" ∧ yX3_drain.cls ≠ "java/lang/invoke/VarHandle" ∧ (parseMethodDescriptor yX3_drain.desc).map (fun d => d.parameters.length) = some 0 := by decide +kernel
set_option maxHeartbeats 8000000 in
set_option maxRecDepth 100000 in
theorem kX3_drain (l : Launch) (D : va_G) (cy : Nat → ClassId) (qa : Nat → Nat → Nat) (sz : Nat) (P : Nat → Nat → Int32) (T : Nat → Nat → Int32) (S : Nat → Nat → Nat → Int32) (nw : Int32) (hz : Int32) (ak : Nat → Int32) (pa : Nat → Int32) (wt : Nat → Int32) (cd : Nat → Int32) (ln : Int32)  (o : Int32 × (Nat → Nat → Int32) × (Nat → Nat → Nat → Int32) × Int32 × Int32) (h : fX3_drain P S nw hz = some o) : Met l yX3_drain aX3_drain ({ frames := 4, cells := 0, slots := 0, locals := 111 }) (pw_Pre D cy [.ref (qa 0 0)] (W3 cy qa P T S nw hz ak pa wt cd ln) sz) (pw_I D o.1 (W3 cy qa P T S nw hz ak pa wt cd ln) (W3 cy qa o.2.1 T o.2.2.1 o.2.2.2.1 o.2.2.2.2 ak pa wt cd ln) sz) 0 0 (va_A (W3 cy qa P T S nw hz ak pa wt cd ln) sz) := by
  refine pw_met (cc := cX3_drain) (maxL := 2) (ret := (some .int)) (by decide) rfl (Nat.le_of_ble_eq_true rfl) ?_
  intro p e s m args below meth c ls A hx hb hr hml hlk hts hown hAe hA hK hP hD hS hl
  have hl : lv_has ls 2 [(0, .ref (qa 0 0))] := hl
  generalize hQ : MQ below (pw_I D o.1 (W3 cy qa P T S nw hz ak pa wt cd ln) (W3 cy qa o.2.1 T o.2.2.1 o.2.2.2.1 o.2.2.2.2 ak pa wt cd ln) sz) args s 0 0 (va_A (W3 cy qa P T S nw hz ak pa wt cd ln) sz) = Q
  have hF : CallFix p m c cX3_drain 2 s args aX3_drain RX3 := ⟨hx, hb, hml, hown, hts⟩
  have hta : ∀ w ∈ pw_all, w.before args s = true := fun w h => hts w (List.mem_cons_of_mem _ h)
  have hin3 : ∀ w ∈ wsX30, w ∈ aX3_drain := fun w h => List.mem_cons_of_mem _ (inA3 w h)
  have hin2 : ∀ w ∈ wsX20, w ∈ aX3_drain := fun w h => List.mem_cons_of_mem _ (inA2 w h)
  have hin1 : ∀ w ∈ wsX10, w ∈ aX3_drain := fun w h => List.mem_cons_of_mem _ (inA1 w h)
  have hin0 : ∀ w ∈ wsX00, w ∈ aX3_drain := fun w h => List.mem_cons_of_mem _ (inA0 w h)
  unfold fX3_drain at h
  refine lv_aload_n hx hb dX3_drain_0 rfl (lv_at hl 0 rfl) ?_
  refine va_get (D := D) (ci := 3) (v := .ref (qa 4 0)) (C := RX3) (T := TX3) (N := 7) hx hb hts hin3 hown hK hP 0 rfl rfl 5 (by decide) (hta _ aw_125) (fun _ h9 => h9) rfl dX3_drain_1 ?_
  refine lv_aload_n hx hb dX3_drain_4 rfl (lv_at hl 0 rfl) ?_
  refine va_get (D := D) (ci := 3) (v := .ref (qa 1 0)) (C := RX3) (T := TX3) (N := 7) hx hb hts hin3 hown hK hP 0 rfl rfl 0 (by decide) (hta _ aw_120) (fun _ h9 => h9) rfl dX3_drain_5 ?_
  obtain ⟨r1, hr1, h⟩ := pq_b h
  refine pw_fv (ws0 := W3 cy qa P T S nw hz ak pa wt cd ln) (ws1 := W3 cy qa P T r1.1 r1.2.1 r1.2.2 ak pa wt cd ln) (wc := WP cy (qa 1) P ++ WH cy qa S nw hz) (w1 := WP cy (qa 1) P ++ WH cy qa r1.1 r1.2.1 r1.2.2) (rest := []) (As := [.ref (qa 1 0)]) hF (kX1_save l D cy qa _ P S nw hz r1 hr1) (cwV 1 hts (pw_gV (own := RX3) (idx := 58) (C := RX1) (y := yX1_save) aw_237 aw_238 aw_239 aw_4 aw_240) rfl rfl rfl pX1_save ⟨Nat.le_of_ble_eq_true rfl, Nat.le_of_ble_eq_true rfl⟩) 1 (RX1, TX1, 3) rfl rfl ⟨15, _, rfl⟩ hK hP hD hS hA (pw_s34 _ _ _ _ _) (pw_s34 _ _ _ _ _) rfl rfl hl.1 rfl (Nat.le_of_ble_eq_true rfl) dX3_drain_8 ⟨Nat.zero_le _, Nat.zero_le _⟩ (fun H locs hP hD hS => ?_)
  refine lv_aload_n hx hb dX3_drain_11 rfl (lv_at hl 0 rfl) ?_
  refine va_get (D := D) (ci := 3) (v := .ref (qa 1 0)) (C := RX3) (T := TX3) (N := 7) hx hb hts hin3 hown hK hP 0 rfl rfl 0 (by decide) (hta _ aw_120) (fun _ h9 => h9) rfl dX3_drain_12 ?_
  obtain ⟨r2, hr2, h⟩ := pq_b h
  refine pw_fi (ws0 := W3 cy qa P T r1.1 r1.2.1 r1.2.2 ak pa wt cd ln) (ws1 := W3 cy qa r2.2 T r1.1 r1.2.1 r1.2.2 ak pa wt cd ln) (wc := WP cy (qa 1) P) (w1 := WP cy (qa 1) r2.2) (rest := []) (As := []) hF (kX2_closeIdle l D cy (qa 1) _ P  r2 hr2) (cwV 0 hts (pw_gV (own := RX3) (idx := 118) (C := RX2) (y := yX2_closeIdle) aw_358 aw_359 aw_360 aw_2 aw_361) rfl rfl rfl pX2_closeIdle ⟨Nat.le_of_ble_eq_true rfl, Nat.le_of_ble_eq_true rfl⟩) 2 (RX2, TX2, 16) rfl rfl ⟨0, _, rfl⟩ hK hP hD hS hA (pw_s3 _ _ _ _ _) (pw_s3 _ _ _ _ _) rfl rfl hl.1 rfl (Nat.le_of_ble_eq_true rfl) dX3_drain_15 ⟨Nat.zero_le _, Nat.zero_le _⟩ (fun H locs hP hD hS => ?_)
  refine lv_istore_n (lv' := [(1, .int r2.1), (0, .ref (qa 0 0))]) hx hb dX3_drain_18 rfl hl (by decide) rfl (fun ls hl => ?_)
  refine lv_aload_n hx hb dX3_drain_19 rfl (lv_at hl 1 rfl) ?_
  refine va_get (D := D) (ci := 3) (v := .ref (qa 1 0)) (C := RX3) (T := TX3) (N := 7) hx hb hts hin3 hown hK hP 0 rfl rfl 0 (by decide) (hta _ aw_120) (fun _ h9 => h9) rfl dX3_drain_20 ?_
  refine lv_iconst (v := (-1)) hx hb dX3_drain_23 (by decide) ?_
  obtain ⟨r3, hr3, h⟩ := pq_b h
  refine pw_fi (ws0 := W3 cy qa r2.2 T r1.1 r1.2.1 r1.2.2 ak pa wt cd ln) (ws1 := W3 cy qa r3.2 T r1.1 r1.2.1 r1.2.2 ak pa wt cd ln) (wc := WP cy (qa 1) r2.2) (w1 := WP cy (qa 1) r3.2) (rest := []) (As := [.int (-1)]) hF (kX2_serveWaiters l D cy (qa 1) _ r2.2 (-1) r3 hr3) (cwV 1 hts (pw_gV (own := RX3) (idx := 115) (C := RX2) (y := yX2_serveWaiters) aw_353 aw_262 aw_263 aw_2 aw_264) rfl rfl rfl pX2_serveWaiters ⟨Nat.le_of_ble_eq_true rfl, Nat.le_of_ble_eq_true rfl⟩) 2 (RX2, TX2, 16) rfl rfl ⟨0, _, rfl⟩ hK hP hD hS hA (pw_s3 _ _ _ _ _) (pw_s3 _ _ _ _ _) rfl rfl hl.1 rfl (Nat.le_of_ble_eq_true rfl) dX3_drain_24 ⟨Nat.zero_le _, Nat.zero_le _⟩ (fun H locs hP hD hS => ?_)
  refine lv_pop hx hb dX3_drain_27 rfl ?_
  refine lv_iload_n hx hb dX3_drain_28 rfl (lv_at hl 0 rfl) ?_
  obtain rfl := Option.some.inj h
  subst hQ
  exact pw_ri hx hb hr hlk hAe hP hS rfl dX3_drain_29

def aX3_requireSetting : List Cond := Cond.code yX3_requireSetting cX3_requireSetting 1 none :: pw_all
theorem pX3_requireSetting : yX3_requireSetting.cls = RX3 ∧ yX3_requireSetting.cls ≠ "java/lang/invoke/MethodHandle" ∧ yX3_requireSetting.cls ≠ "java/lang/invoke/VarHandle" ∧ (parseMethodDescriptor yX3_requireSetting.desc).map (fun d => d.parameters.length) = some 1 := by decide +kernel
set_option maxHeartbeats 8000000 in
set_option maxRecDepth 100000 in
theorem kX3_requireSetting (l : Launch) (D : va_G) (cy : Nat → ClassId) (sz : Nat)  (x0 : Int32) (o : Unit) (h : fX3_requireSetting x0 = some (Sum.inr o)) : Met l yX3_requireSetting aX3_requireSetting ({ frames := 0, cells := 0, slots := 0, locals := 0 }) (pw_Pre D cy [.int x0] ([]) sz) (pw_V D ([]) ([]) sz) 0 0 (va_A ([]) sz) := by
  refine pw_met (cc := cX3_requireSetting) (maxL := 1) (ret := none) (by decide) rfl (Nat.le_of_ble_eq_true rfl) ?_
  intro p e s m args below meth c ls A hx hb hr hml hlk hts hown hAe hA hK hP hD hS hl
  have hl : lv_has ls 1 [(0, .int x0)] := hl
  generalize hQ : MQ below (pw_V D ([]) ([]) sz) args s 0 0 (va_A ([]) sz) = Q
  have hF : CallFix p m c cX3_requireSetting 1 s args aX3_requireSetting RX3 := ⟨hx, hb, hml, hown, hts⟩
  have hta : ∀ w ∈ pw_all, w.before args s = true := fun w h => hts w (List.mem_cons_of_mem _ h)
  unfold fX3_requireSetting at h
  refine lv_iload_n hx hb dX3_requireSetting_0 rfl (lv_at hl 0 rfl) ?_
  refine lv_if_lt (tgt := 10) hx hb dX3_requireSetting_1 (by decide) (fun c1_ => ?_) (fun c1_ => ?_)
  · have h := pq_t c1_ h
    exact nomatch h
  · have h := pq_e c1_ h
    refine lv_iload_n hx hb dX3_requireSetting_4 rfl (lv_at hl 0 rfl) ?_
    refine lv_bipush (v := 9) hx hb dX3_requireSetting_5 (by decide) ?_
    refine lv_icmp_lt (tgt := 21) hx hb dX3_requireSetting_7 (by decide) (fun c2_ => ?_) (fun c2_ => ?_)
    · have h := pq_t c2_ h
      obtain rfl := Sum.inr.inj (Option.some.inj h)
      subst hQ
      exact pw_rv hx hb hr hlk hAe hP hS dX3_requireSetting_21
    · have h := pq_e c2_ h
      exact nomatch h

def aX3_set : List Cond := Cond.code yX3_set cX3_set 3 (some .int) :: pw_all
theorem pX3_set : yX3_set.cls = RX3 ∧ yX3_set.cls ≠ "java/lang/invoke/MethodHandle" ∧ yX3_set.cls ≠ "java/lang/invoke/VarHandle" ∧ (parseMethodDescriptor yX3_set.desc).map (fun d => d.parameters.length) = some 2 := by decide +kernel
set_option maxHeartbeats 8000000 in
set_option maxRecDepth 100000 in
theorem kX3_set (l : Launch) (D : va_G) (cy : Nat → ClassId) (qa : Nat → Nat → Nat) (sz : Nat) (P : Nat → Nat → Int32) (T : Nat → Nat → Int32) (S : Nat → Nat → Nat → Int32) (nw : Int32) (hz : Int32) (ak : Nat → Int32) (pa : Nat → Int32) (wt : Nat → Int32) (cd : Nat → Int32) (ln : Int32) (x1 : Int32) (x2 : Int32) (o : Int32 × (Nat → Nat → Int32) × (Nat → Nat → Nat → Int32) × Int32 × Int32) (h : fX3_set x1 x2 P S nw hz = some (Sum.inr o)) : Met l yX3_set aX3_set ({ frames := 5, cells := 0, slots := 0, locals := 115 }) (pw_PreE D cy [.ref (qa 0 0), .int x1, .int x2] (W3 cy qa P T S nw hz ak pa wt cd ln) sz) (pw_I D o.1 (W3 cy qa P T S nw hz ak pa wt cd ln) (W3 cy qa o.2.1 T o.2.2.1 o.2.2.2.1 o.2.2.2.2 ak pa wt cd ln) sz) 0 0 (va_A (W3 cy qa P T S nw hz ak pa wt cd ln) sz) := by
  refine pw_metE (cc := cX3_set) (maxL := 3) (ret := (some .int)) (by decide) rfl (Nat.le_of_ble_eq_true rfl) ?_
  intro p e s m args below meth c ls A hx hb hr hml hlk hts hown hAe hA hK hP hD hS hl hE
  have hl : lv_has ls 3 [(0, .ref (qa 0 0)), (1, .int x1), (2, .int x2)] := hl
  generalize hQ : MQ below (pw_I D o.1 (W3 cy qa P T S nw hz ak pa wt cd ln) (W3 cy qa o.2.1 T o.2.2.1 o.2.2.2.1 o.2.2.2.2 ak pa wt cd ln) sz) args s 0 0 (va_A (W3 cy qa P T S nw hz ak pa wt cd ln) sz) = Q
  have hF : CallFix p m c cX3_set 3 s args aX3_set RX3 := ⟨hx, hb, hml, hown, hts⟩
  have hta : ∀ w ∈ pw_all, w.before args s = true := fun w h => hts w (List.mem_cons_of_mem _ h)
  have hin3 : ∀ w ∈ wsX30, w ∈ aX3_set := fun w h => List.mem_cons_of_mem _ (inA3 w h)
  have hin2 : ∀ w ∈ wsX20, w ∈ aX3_set := fun w h => List.mem_cons_of_mem _ (inA2 w h)
  have hin1 : ∀ w ∈ wsX10, w ∈ aX3_set := fun w h => List.mem_cons_of_mem _ (inA1 w h)
  have hin0 : ∀ w ∈ wsX00, w ∈ aX3_set := fun w h => List.mem_cons_of_mem _ (inA0 w h)
  unfold fX3_set at h
  refine lv_iload_n hx hb dX3_set_0 rfl (lv_at hl 1 rfl) ?_
  obtain ⟨r1, hr1, h⟩ := pq_b h
  obtain ⟨a2, rfl, h⟩ := pq_inr h
  refine pw_sv (rest := []) (As := [.int x1]) hF (kX3_requireSetting l D cy _ x1 a2 hr1) (cwS 1 hts (pw_gS (own := RX3) (idx := 121) (y := yX3_requireSetting) aw_366 aw_367 aw_1 aw_368) rfl rfl rfl pX3_requireSetting ⟨Nat.le_of_ble_eq_true rfl, Nat.le_of_ble_eq_true rfl⟩) hK hP hS hA rfl hl.1 rfl (Nat.le_of_ble_eq_true rfl) dX3_set_1 ⟨Nat.zero_le _, Nat.zero_le _⟩ (fun H locs hP hS => ?_)
  refine lv_iload_n hx hb dX3_set_4 rfl (lv_at hl 2 rfl) ?_
  obtain ⟨t6, hZ6, hT6⟩ := hE.2.2.2.2.2.1
  obtain ⟨t7, hZ7, hT7⟩ := hE.2.2.2.2.2.2.1
  obtain ⟨t8, hZ8, hT8⟩ := hE.2.2.2.2.2.2.2
  refine va_gets hx hb hZ7 hS hown (hta _ aw_370) (fun _ h9 => h9) dX3_set_5 ?_
  refine lv_iload_n hx hb dX3_set_8 rfl (lv_at hl 1 rfl) ?_
  obtain ⟨hg, h⟩ := pq_g h
  refine va_ti hx hb hT7 hS (pq_vp hg) rfl dX3_set_9 ?_
  refine lv_icmp_lt (tgt := 22) hx hb dX3_set_10 (by decide) (fun c1_ => ?_) (fun c1_ => ?_)
  · have h := pq_t c1_ h
    exact nomatch h
  · have h := pq_e c1_ h
    refine lv_iload_n hx hb dX3_set_13 rfl (lv_at hl 2 rfl) ?_
    obtain ⟨t6, hZ6, hT6⟩ := hE.2.2.2.2.2.1
    obtain ⟨t7, hZ7, hT7⟩ := hE.2.2.2.2.2.2.1
    obtain ⟨t8, hZ8, hT8⟩ := hE.2.2.2.2.2.2.2
    refine va_gets hx hb hZ8 hS hown (hta _ aw_372) (fun _ h9 => h9) dX3_set_14 ?_
    refine lv_iload_n hx hb dX3_set_17 rfl (lv_at hl 1 rfl) ?_
    obtain ⟨hg, h⟩ := pq_g h
    refine va_ti hx hb hT8 hS (pq_vp hg) rfl dX3_set_18 ?_
    refine lv_icmp_le (tgt := 32) hx hb dX3_set_19 (by decide) (fun c2_ => ?_) (fun c2_ => ?_)
    · have h := pq_t c2_ h
      refine lv_aload_n hx hb dX3_set_32 rfl (lv_at hl 0 rfl) ?_
      refine va_get (D := D) (ci := 3) (v := .ref (qa 4 0)) (C := RX3) (T := TX3) (N := 7) hx hb hts hin3 hown hK hP 0 rfl rfl 5 (by decide) (hta _ aw_125) (fun _ h9 => h9) rfl dX3_set_33 ?_
      refine lv_aload_n hx hb dX3_set_36 rfl (lv_at hl 0 rfl) ?_
      refine va_get (D := D) (ci := 3) (v := .ref (qa 1 0)) (C := RX3) (T := TX3) (N := 7) hx hb hts hin3 hown hK hP 0 rfl rfl 0 (by decide) (hta _ aw_120) (fun _ h9 => h9) rfl dX3_set_37 ?_
      obtain ⟨r3, hr3, h⟩ := pq_b h
      refine pw_fv (ws0 := W3 cy qa P T S nw hz ak pa wt cd ln) (ws1 := W3 cy qa P T r3.1 r3.2.1 r3.2.2 ak pa wt cd ln) (wc := WP cy (qa 1) P ++ WH cy qa S nw hz) (w1 := WP cy (qa 1) P ++ WH cy qa r3.1 r3.2.1 r3.2.2) (rest := []) (As := [.ref (qa 1 0)]) hF (kX1_save l D cy qa _ P S nw hz r3 hr3) (cwV 1 hts (pw_gV (own := RX3) (idx := 58) (C := RX1) (y := yX1_save) aw_237 aw_238 aw_239 aw_4 aw_240) rfl rfl rfl pX1_save ⟨Nat.le_of_ble_eq_true rfl, Nat.le_of_ble_eq_true rfl⟩) 1 (RX1, TX1, 3) rfl rfl ⟨15, _, rfl⟩ hK hP hD hS hA (pw_s34 _ _ _ _ _) (pw_s34 _ _ _ _ _) rfl rfl hl.1 rfl (Nat.le_of_ble_eq_true rfl) dX3_set_40 ⟨Nat.zero_le _, Nat.zero_le _⟩ (fun H locs hP hD hS => ?_)
      refine lv_aload_n hx hb dX3_set_43 rfl (lv_at hl 0 rfl) ?_
      refine va_get (D := D) (ci := 3) (v := .ref (qa 1 0)) (C := RX3) (T := TX3) (N := 7) hx hb hts hin3 hown hK hP 0 rfl rfl 0 (by decide) (hta _ aw_120) (fun _ h9 => h9) rfl dX3_set_44 ?_
      refine lv_iload_n hx hb dX3_set_47 rfl (lv_at hl 1 rfl) ?_
      refine lv_iload_n hx hb dX3_set_48 rfl (lv_at hl 2 rfl) ?_
      obtain ⟨r4, hr4, h⟩ := pq_b h
      refine pw_fi (ws0 := W3 cy qa P T r3.1 r3.2.1 r3.2.2 ak pa wt cd ln) (ws1 := W3 cy qa r4.2 T r3.1 r3.2.1 r3.2.2 ak pa wt cd ln) (wc := WP cy (qa 1) P) (w1 := WP cy (qa 1) r4.2) (rest := []) (As := [.int x1, .int x2]) hF (kX2_change l D cy (qa 1) _ P x1 x2 r4 hr4) (cwV 2 hts (pw_gV (own := RX3) (idx := 135) (C := RX2) (y := yX2_change) aw_390 aw_391 aw_392 aw_2 aw_393) rfl rfl rfl pX2_change ⟨Nat.le_of_ble_eq_true rfl, Nat.le_of_ble_eq_true rfl⟩) 2 (RX2, TX2, 16) rfl rfl ⟨0, _, rfl⟩ hK hP hD hS hA (pw_s3 _ _ _ _ _) (pw_s3 _ _ _ _ _) rfl rfl hl.1 rfl (Nat.le_of_ble_eq_true rfl) dX3_set_49 ⟨Nat.zero_le _, Nat.zero_le _⟩ (fun H locs hP hD hS => ?_)
      obtain rfl := Sum.inr.inj (Option.some.inj h)
      subst hQ
      exact pw_ri hx hb hr hlk hAe hP hS rfl dX3_set_52
    · have h := pq_e c2_ h
      exact nomatch h

def aX3_pass : List Cond := Cond.code yX3_pass cX3_pass 2 (some .int) :: pw_all
theorem pX3_pass : yX3_pass.cls = RX3 ∧ yX3_pass.cls ≠ "java/lang/invoke/MethodHandle" ∧ yX3_pass.cls ≠ "java/lang/invoke/VarHandle" ∧ (parseMethodDescriptor yX3_pass.desc).map (fun d => d.parameters.length) = some 1 := by decide +kernel
set_option maxHeartbeats 8000000 in
set_option maxRecDepth 100000 in
theorem kX3_pass (l : Launch) (D : va_G) (cy : Nat → ClassId) (qa : Nat → Nat → Nat) (sz : Nat) (P : Nat → Nat → Int32) (T : Nat → Nat → Int32) (S : Nat → Nat → Nat → Int32) (nw : Int32) (hz : Int32) (ak : Nat → Int32) (pa : Nat → Int32) (wt : Nat → Int32) (cd : Nat → Int32) (ln : Int32) (x1 : Int32) (o : Int32 × (Nat → Nat → Int32) × (Nat → Nat → Nat → Int32) × Int32 × Int32) (h : fX3_pass x1 P S nw hz = some (Sum.inr o)) : Met l yX3_pass aX3_pass ({ frames := 5, cells := 0, slots := 0, locals := 116 }) (pw_Pre D cy [.ref (qa 0 0), .int x1] (W3 cy qa P T S nw hz ak pa wt cd ln) sz) (pw_I D o.1 (W3 cy qa P T S nw hz ak pa wt cd ln) (W3 cy qa o.2.1 T o.2.2.1 o.2.2.2.1 o.2.2.2.2 ak pa wt cd ln) sz) 0 0 (va_A (W3 cy qa P T S nw hz ak pa wt cd ln) sz) := by
  refine pw_met (cc := cX3_pass) (maxL := 2) (ret := (some .int)) (by decide) rfl (Nat.le_of_ble_eq_true rfl) ?_
  intro p e s m args below meth c ls A hx hb hr hml hlk hts hown hAe hA hK hP hD hS hl
  have hl : lv_has ls 2 [(0, .ref (qa 0 0)), (1, .int x1)] := hl
  generalize hQ : MQ below (pw_I D o.1 (W3 cy qa P T S nw hz ak pa wt cd ln) (W3 cy qa o.2.1 T o.2.2.1 o.2.2.2.1 o.2.2.2.2 ak pa wt cd ln) sz) args s 0 0 (va_A (W3 cy qa P T S nw hz ak pa wt cd ln) sz) = Q
  have hF : CallFix p m c cX3_pass 2 s args aX3_pass RX3 := ⟨hx, hb, hml, hown, hts⟩
  have hta : ∀ w ∈ pw_all, w.before args s = true := fun w h => hts w (List.mem_cons_of_mem _ h)
  have hin3 : ∀ w ∈ wsX30, w ∈ aX3_pass := fun w h => List.mem_cons_of_mem _ (inA3 w h)
  have hin2 : ∀ w ∈ wsX20, w ∈ aX3_pass := fun w h => List.mem_cons_of_mem _ (inA2 w h)
  have hin1 : ∀ w ∈ wsX10, w ∈ aX3_pass := fun w h => List.mem_cons_of_mem _ (inA1 w h)
  have hin0 : ∀ w ∈ wsX00, w ∈ aX3_pass := fun w h => List.mem_cons_of_mem _ (inA0 w h)
  unfold fX3_pass at h
  refine lv_iload_n hx hb dX3_pass_0 rfl (lv_at hl 1 rfl) ?_
  refine lv_iconst (v := 1) hx hb dX3_pass_1 (by decide) ?_
  refine lv_icmp_lt (tgt := 11) hx hb dX3_pass_2 (by decide) (fun c1_ => ?_) (fun c1_ => ?_)
  · have h := pq_t c1_ h
    exact nomatch h
  · have h := pq_e c1_ h
    refine lv_iload_n hx hb dX3_pass_5 rfl (lv_at hl 1 rfl) ?_
    refine lv_bipush (v := 99) hx hb dX3_pass_6 (by decide) ?_
    refine lv_icmp_le (tgt := 21) hx hb dX3_pass_8 (by decide) (fun c2_ => ?_) (fun c2_ => ?_)
    · have h := pq_t c2_ h
      refine lv_aload_n hx hb dX3_pass_21 rfl (lv_at hl 0 rfl) ?_
      refine va_get (D := D) (ci := 3) (v := .ref (qa 1 0)) (C := RX3) (T := TX3) (N := 7) hx hb hts hin3 hown hK hP 0 rfl rfl 0 (by decide) (hta _ aw_120) (fun _ h9 => h9) rfl dX3_pass_22 ?_
      refine lv_iload_n hx hb dX3_pass_25 rfl (lv_at hl 1 rfl) ?_
      obtain ⟨r1, hr1, h⟩ := pq_b h
      refine pw_fi (ws0 := W3 cy qa P T S nw hz ak pa wt cd ln) (ws1 := W3 cy qa P T S nw hz ak pa wt cd ln) (wc := WP cy (qa 1) P) (w1 := WP cy (qa 1) P) (rest := []) (As := [.int x1]) hF (kX2_canPassUnits l D cy (qa 1) _ P x1 r1 hr1) (cwV 1 hts (pw_gV (own := RX3) (idx := 141) (C := RX2) (y := yX2_canPassUnits) aw_544 aw_545 aw_546 aw_2 aw_547) rfl rfl rfl pX2_canPassUnits ⟨Nat.le_of_ble_eq_true rfl, Nat.le_of_ble_eq_true rfl⟩) 2 (RX2, TX2, 16) rfl rfl ⟨0, _, rfl⟩ hK hP hD hS hA (pw_s3 _ _ _ _ _) (pw_s3 _ _ _ _ _) rfl rfl hl.1 rfl (Nat.le_of_ble_eq_true rfl) dX3_pass_26 ⟨Nat.zero_le _, Nat.zero_le _⟩ (fun H locs hP hD hS => ?_)
      refine lv_if_ne (tgt := 42) hx hb dX3_pass_29 (by decide) (fun c3_ => ?_) (fun c3_ => ?_)
      · have h := pq_e c3_ h
        refine lv_aload_n hx hb dX3_pass_42 rfl (lv_at hl 0 rfl) ?_
        refine va_get (D := D) (ci := 3) (v := .ref (qa 4 0)) (C := RX3) (T := TX3) (N := 7) hx hb hts hin3 hown hK hP 0 rfl rfl 5 (by decide) (hta _ aw_125) (fun _ h9 => h9) rfl dX3_pass_43 ?_
        refine lv_aload_n hx hb dX3_pass_46 rfl (lv_at hl 0 rfl) ?_
        refine va_get (D := D) (ci := 3) (v := .ref (qa 1 0)) (C := RX3) (T := TX3) (N := 7) hx hb hts hin3 hown hK hP 0 rfl rfl 0 (by decide) (hta _ aw_120) (fun _ h9 => h9) rfl dX3_pass_47 ?_
        obtain ⟨r2, hr2, h⟩ := pq_b h
        refine pw_fv (ws0 := W3 cy qa P T S nw hz ak pa wt cd ln) (ws1 := W3 cy qa P T r2.1 r2.2.1 r2.2.2 ak pa wt cd ln) (wc := WP cy (qa 1) P ++ WH cy qa S nw hz) (w1 := WP cy (qa 1) P ++ WH cy qa r2.1 r2.2.1 r2.2.2) (rest := []) (As := [.ref (qa 1 0)]) hF (kX1_save l D cy qa _ P S nw hz r2 hr2) (cwV 1 hts (pw_gV (own := RX3) (idx := 58) (C := RX1) (y := yX1_save) aw_237 aw_238 aw_239 aw_4 aw_240) rfl rfl rfl pX1_save ⟨Nat.le_of_ble_eq_true rfl, Nat.le_of_ble_eq_true rfl⟩) 1 (RX1, TX1, 3) rfl rfl ⟨15, _, rfl⟩ hK hP hD hS hA (pw_s34 _ _ _ _ _) (pw_s34 _ _ _ _ _) rfl rfl hl.1 rfl (Nat.le_of_ble_eq_true rfl) dX3_pass_50 ⟨Nat.zero_le _, Nat.zero_le _⟩ (fun H locs hP hD hS => ?_)
        refine lv_aload_n hx hb dX3_pass_53 rfl (lv_at hl 0 rfl) ?_
        refine va_get (D := D) (ci := 3) (v := .ref (qa 1 0)) (C := RX3) (T := TX3) (N := 7) hx hb hts hin3 hown hK hP 0 rfl rfl 0 (by decide) (hta _ aw_120) (fun _ h9 => h9) rfl dX3_pass_54 ?_
        refine lv_iload_n hx hb dX3_pass_57 rfl (lv_at hl 1 rfl) ?_
        obtain ⟨r3, hr3, h⟩ := pq_b h
        refine pw_fi (ws0 := W3 cy qa P T r2.1 r2.2.1 r2.2.2 ak pa wt cd ln) (ws1 := W3 cy qa r3.2 T r2.1 r2.2.1 r2.2.2 ak pa wt cd ln) (wc := WP cy (qa 1) P) (w1 := WP cy (qa 1) r3.2) (rest := []) (As := [.int x1]) hF (kX2_passUnits l D cy (qa 1) _ P x1 r3 hr3) (cwV 1 hts (pw_gV (own := RX3) (idx := 146) (C := RX2) (y := yX2_passUnits) aw_513 aw_514 aw_515 aw_2 aw_516) rfl rfl rfl pX2_passUnits ⟨Nat.le_of_ble_eq_true rfl, Nat.le_of_ble_eq_true rfl⟩) 2 (RX2, TX2, 16) rfl rfl ⟨0, _, rfl⟩ hK hP hD hS hA (pw_s3 _ _ _ _ _) (pw_s3 _ _ _ _ _) rfl rfl hl.1 rfl (Nat.le_of_ble_eq_true rfl) dX3_pass_58 ⟨Nat.zero_le _, Nat.zero_le _⟩ (fun H locs hP hD hS => ?_)
        obtain rfl := Sum.inr.inj (Option.some.inj h)
        subst hQ
        exact pw_ri hx hb hr hlk hAe hP hS rfl dX3_pass_61
      · have h := pq_t c3_ h
        exact nomatch h
    · have h := pq_e c2_ h
      exact nomatch h

def aX3_requireKind : List Cond := Cond.code yX3_requireKind cX3_requireKind 2 none :: pw_all
theorem pX3_requireKind : yX3_requireKind.cls = RX3 ∧ yX3_requireKind.cls ≠ "java/lang/invoke/MethodHandle" ∧ yX3_requireKind.cls ≠ "java/lang/invoke/VarHandle" ∧ (parseMethodDescriptor yX3_requireKind.desc).map (fun d => d.parameters.length) = some 2 := by decide +kernel
set_option maxHeartbeats 8000000 in
set_option maxRecDepth 100000 in
theorem kX3_requireKind (l : Launch) (D : va_G) (cy : Nat → ClassId) (sz : Nat)  (x0 : Int32) (x1 : Int32) (o : Unit) (h : fX3_requireKind x0 x1 = some (Sum.inr o)) : Met l yX3_requireKind aX3_requireKind ({ frames := 0, cells := 0, slots := 0, locals := 0 }) (pw_Pre D cy [.int x0, .int x1] ([]) sz) (pw_V D ([]) ([]) sz) 0 0 (va_A ([]) sz) := by
  refine pw_met (cc := cX3_requireKind) (maxL := 2) (ret := none) (by decide) rfl (Nat.le_of_ble_eq_true rfl) ?_
  intro p e s m args below meth c ls A hx hb hr hml hlk hts hown hAe hA hK hP hD hS hl
  have hl : lv_has ls 2 [(0, .int x0), (1, .int x1)] := hl
  generalize hQ : MQ below (pw_V D ([]) ([]) sz) args s 0 0 (va_A ([]) sz) = Q
  have hF : CallFix p m c cX3_requireKind 2 s args aX3_requireKind RX3 := ⟨hx, hb, hml, hown, hts⟩
  have hta : ∀ w ∈ pw_all, w.before args s = true := fun w h => hts w (List.mem_cons_of_mem _ h)
  unfold fX3_requireKind at h
  refine lv_iload_n hx hb dX3_requireKind_0 rfl (lv_at hl 0 rfl) ?_
  refine lv_if_lt (tgt := 9) hx hb dX3_requireKind_1 (by decide) (fun c1_ => ?_) (fun c1_ => ?_)
  · have h := pq_t c1_ h
    exact nomatch h
  · have h := pq_e c1_ h
    refine lv_iload_n hx hb dX3_requireKind_4 rfl (lv_at hl 0 rfl) ?_
    refine lv_iload_n hx hb dX3_requireKind_5 rfl (lv_at hl 1 rfl) ?_
    refine lv_icmp_lt (tgt := 20) hx hb dX3_requireKind_6 (by decide) (fun c2_ => ?_) (fun c2_ => ?_)
    · have h := pq_t c2_ h
      obtain rfl := Sum.inr.inj (Option.some.inj h)
      subst hQ
      exact pw_rv hx hb hr hlk hAe hP hS dX3_requireKind_20
    · have h := pq_e c2_ h
      exact nomatch h

def aX3_place : List Cond := Cond.code yX3_place cX3_place 3 (some .int) :: pw_all
theorem pX3_place : yX3_place.cls = RX3 ∧ yX3_place.cls ≠ "java/lang/invoke/MethodHandle" ∧ yX3_place.cls ≠ "java/lang/invoke/VarHandle" ∧ (parseMethodDescriptor yX3_place.desc).map (fun d => d.parameters.length) = some 2 := by decide +kernel
set_option maxHeartbeats 8000000 in
set_option maxRecDepth 100000 in
theorem kX3_place (l : Launch) (D : va_G) (cy : Nat → ClassId) (qa : Nat → Nat → Nat) (sz : Nat) (P : Nat → Nat → Int32) (T : Nat → Nat → Int32) (S : Nat → Nat → Nat → Int32) (nw : Int32) (hz : Int32) (ak : Nat → Int32) (pa : Nat → Int32) (wt : Nat → Int32) (cd : Nat → Int32) (ln : Int32) (x1 : Int32) (x2 : Int32) (o : Int32) (h : fX3_place x1 x2 P = some (Sum.inr o)) : Met l yX3_place aX3_place ({ frames := 2, cells := 0, slots := 0, locals := 43 }) (pw_Pre D cy [.ref (qa 0 0), .int x1, .int x2] (W3 cy qa P T S nw hz ak pa wt cd ln) sz) (pw_I D o (W3 cy qa P T S nw hz ak pa wt cd ln) (W3 cy qa P T S nw hz ak pa wt cd ln) sz) 0 0 (va_A (W3 cy qa P T S nw hz ak pa wt cd ln) sz) := by
  refine pw_met (cc := cX3_place) (maxL := 3) (ret := (some .int)) (by decide) rfl (Nat.le_of_ble_eq_true rfl) ?_
  intro p e s m args below meth c ls A hx hb hr hml hlk hts hown hAe hA hK hP hD hS hl
  have hl : lv_has ls 3 [(0, .ref (qa 0 0)), (1, .int x1), (2, .int x2)] := hl
  generalize hQ : MQ below (pw_I D o (W3 cy qa P T S nw hz ak pa wt cd ln) (W3 cy qa P T S nw hz ak pa wt cd ln) sz) args s 0 0 (va_A (W3 cy qa P T S nw hz ak pa wt cd ln) sz) = Q
  have hF : CallFix p m c cX3_place 3 s args aX3_place RX3 := ⟨hx, hb, hml, hown, hts⟩
  have hta : ∀ w ∈ pw_all, w.before args s = true := fun w h => hts w (List.mem_cons_of_mem _ h)
  have hin3 : ∀ w ∈ wsX30, w ∈ aX3_place := fun w h => List.mem_cons_of_mem _ (inA3 w h)
  have hin2 : ∀ w ∈ wsX20, w ∈ aX3_place := fun w h => List.mem_cons_of_mem _ (inA2 w h)
  have hin1 : ∀ w ∈ wsX10, w ∈ aX3_place := fun w h => List.mem_cons_of_mem _ (inA1 w h)
  have hin0 : ∀ w ∈ wsX00, w ∈ aX3_place := fun w h => List.mem_cons_of_mem _ (inA0 w h)
  unfold fX3_place at h
  refine lv_iload_n hx hb dX3_place_0 rfl (lv_at hl 1 rfl) ?_
  obtain ⟨r1, hr1, h⟩ := pq_b h
  obtain ⟨a2, rfl, h⟩ := pq_inr h
  refine pw_sv (rest := []) (As := [.int x1]) hF (kX3_requirePlace l D cy _ x1 a2 hr1) (cwS 1 hts (pw_gS (own := RX3) (idx := 66) (y := yX3_requirePlace) aw_335 aw_336 aw_1 aw_337) rfl rfl rfl pX3_requirePlace ⟨Nat.le_of_ble_eq_true rfl, Nat.le_of_ble_eq_true rfl⟩) hK hP hS hA rfl hl.1 rfl (Nat.le_of_ble_eq_true rfl) dX3_place_1 ⟨Nat.zero_le _, Nat.zero_le _⟩ (fun H locs hP hS => ?_)
  refine lv_iload_n hx hb dX3_place_4 rfl (lv_at hl 2 rfl) ?_
  refine lv_bipush (v := 6) hx hb dX3_place_5 (by decide) ?_
  obtain ⟨r3, hr3, h⟩ := pq_b h
  obtain ⟨a4, rfl, h⟩ := pq_inr h
  refine pw_sv (rest := []) (As := [.int x2, .int 6]) hF (kX3_requireKind l D cy _ x2 6 a4 hr3) (cwS 2 hts (pw_gS (own := RX3) (idx := 193) (y := yX3_requireKind) aw_398 aw_399 aw_1 aw_400) rfl rfl rfl pX3_requireKind ⟨Nat.le_of_ble_eq_true rfl, Nat.le_of_ble_eq_true rfl⟩) hK hP hS hA rfl hl.1 rfl (Nat.le_of_ble_eq_true rfl) dX3_place_7 ⟨Nat.zero_le _, Nat.zero_le _⟩ (fun H locs hP hS => ?_)
  refine lv_aload_n hx hb dX3_place_10 rfl (lv_at hl 0 rfl) ?_
  refine va_get (D := D) (ci := 3) (v := .ref (qa 1 0)) (C := RX3) (T := TX3) (N := 7) hx hb hts hin3 hown hK hP 0 rfl rfl 0 (by decide) (hta _ aw_120) (fun _ h9 => h9) rfl dX3_place_11 ?_
  refine lv_iload_n hx hb dX3_place_14 rfl (lv_at hl 1 rfl) ?_
  refine lv_iload_n hx hb dX3_place_15 rfl (lv_at hl 2 rfl) ?_
  obtain ⟨r5, hr5, h⟩ := pq_b h
  refine pw_fi (ws0 := W3 cy qa P T S nw hz ak pa wt cd ln) (ws1 := W3 cy qa P T S nw hz ak pa wt cd ln) (wc := WP cy (qa 1) P) (w1 := WP cy (qa 1) P) (rest := []) (As := [.int x1, .int x2]) hF (kX2_placeProperty l D cy (qa 1) _ P x1 x2 r5 hr5) (cwV 2 hts (pw_gV (own := RX3) (idx := 197) (C := RX2) (y := yX2_placeProperty) aw_402 aw_403 aw_404 aw_2 aw_405) rfl rfl rfl pX2_placeProperty ⟨Nat.le_of_ble_eq_true rfl, Nat.le_of_ble_eq_true rfl⟩) 2 (RX2, TX2, 16) rfl rfl ⟨0, _, rfl⟩ hK hP hD hS hA (pw_s3 _ _ _ _ _) (pw_s3 _ _ _ _ _) rfl rfl hl.1 rfl (Nat.le_of_ble_eq_true rfl) dX3_place_16 ⟨Nat.zero_le _, Nat.zero_le _⟩ (fun H locs hP hD hS => ?_)
  obtain rfl := Sum.inr.inj (Option.some.inj h)
  subst hQ
  exact pw_ri hx hb hr hlk hAe hP hS rfl dX3_place_19

def aX3_owner : List Cond := Cond.code yX3_owner cX3_owner 3 (some .int) :: pw_all
theorem pX3_owner : yX3_owner.cls = RX3 ∧ yX3_owner.cls ≠ "java/lang/invoke/MethodHandle" ∧ yX3_owner.cls ≠ "java/lang/invoke/VarHandle" ∧ (parseMethodDescriptor yX3_owner.desc).map (fun d => d.parameters.length) = some 2 := by decide +kernel
set_option maxHeartbeats 8000000 in
set_option maxRecDepth 100000 in
theorem kX3_owner (l : Launch) (D : va_G) (cy : Nat → ClassId) (qa : Nat → Nat → Nat) (sz : Nat) (P : Nat → Nat → Int32) (T : Nat → Nat → Int32) (S : Nat → Nat → Nat → Int32) (nw : Int32) (hz : Int32) (ak : Nat → Int32) (pa : Nat → Int32) (wt : Nat → Int32) (cd : Nat → Int32) (ln : Int32) (x1 : Int32) (x2 : Int32) (o : Int32) (h : fX3_owner x1 x2 P = some (Sum.inr o)) : Met l yX3_owner aX3_owner ({ frames := 3, cells := 0, slots := 0, locals := 65 }) (pw_Pre D cy [.ref (qa 0 0), .int x1, .int x2] (W3 cy qa P T S nw hz ak pa wt cd ln) sz) (pw_I D o (W3 cy qa P T S nw hz ak pa wt cd ln) (W3 cy qa P T S nw hz ak pa wt cd ln) sz) 0 0 (va_A (W3 cy qa P T S nw hz ak pa wt cd ln) sz) := by
  refine pw_met (cc := cX3_owner) (maxL := 3) (ret := (some .int)) (by decide) rfl (Nat.le_of_ble_eq_true rfl) ?_
  intro p e s m args below meth c ls A hx hb hr hml hlk hts hown hAe hA hK hP hD hS hl
  have hl : lv_has ls 3 [(0, .ref (qa 0 0)), (1, .int x1), (2, .int x2)] := hl
  generalize hQ : MQ below (pw_I D o (W3 cy qa P T S nw hz ak pa wt cd ln) (W3 cy qa P T S nw hz ak pa wt cd ln) sz) args s 0 0 (va_A (W3 cy qa P T S nw hz ak pa wt cd ln) sz) = Q
  have hF : CallFix p m c cX3_owner 3 s args aX3_owner RX3 := ⟨hx, hb, hml, hown, hts⟩
  have hta : ∀ w ∈ pw_all, w.before args s = true := fun w h => hts w (List.mem_cons_of_mem _ h)
  have hin3 : ∀ w ∈ wsX30, w ∈ aX3_owner := fun w h => List.mem_cons_of_mem _ (inA3 w h)
  have hin2 : ∀ w ∈ wsX20, w ∈ aX3_owner := fun w h => List.mem_cons_of_mem _ (inA2 w h)
  have hin1 : ∀ w ∈ wsX10, w ∈ aX3_owner := fun w h => List.mem_cons_of_mem _ (inA1 w h)
  have hin0 : ∀ w ∈ wsX00, w ∈ aX3_owner := fun w h => List.mem_cons_of_mem _ (inA0 w h)
  unfold fX3_owner at h
  refine lv_iload_n hx hb dX3_owner_0 rfl (lv_at hl 1 rfl) ?_
  obtain ⟨r1, hr1, h⟩ := pq_b h
  obtain ⟨a2, rfl, h⟩ := pq_inr h
  refine pw_sv (rest := []) (As := [.int x1]) hF (kX3_requireOwner l D cy _ x1 a2 hr1) (cwS 1 hts (pw_gS (own := RX3) (idx := 43) (y := yX3_requireOwner) aw_146 aw_147 aw_1 aw_148) rfl rfl rfl pX3_requireOwner ⟨Nat.le_of_ble_eq_true rfl, Nat.le_of_ble_eq_true rfl⟩) hK hP hS hA rfl hl.1 rfl (Nat.le_of_ble_eq_true rfl) dX3_owner_1 ⟨Nat.zero_le _, Nat.zero_le _⟩ (fun H locs hP hS => ?_)
  refine lv_iload_n hx hb dX3_owner_4 rfl (lv_at hl 2 rfl) ?_
  refine lv_bipush (v := 7) hx hb dX3_owner_5 (by decide) ?_
  obtain ⟨r3, hr3, h⟩ := pq_b h
  obtain ⟨a4, rfl, h⟩ := pq_inr h
  refine pw_sv (rest := []) (As := [.int x2, .int 7]) hF (kX3_requireKind l D cy _ x2 7 a4 hr3) (cwS 2 hts (pw_gS (own := RX3) (idx := 193) (y := yX3_requireKind) aw_398 aw_399 aw_1 aw_400) rfl rfl rfl pX3_requireKind ⟨Nat.le_of_ble_eq_true rfl, Nat.le_of_ble_eq_true rfl⟩) hK hP hS hA rfl hl.1 rfl (Nat.le_of_ble_eq_true rfl) dX3_owner_7 ⟨Nat.zero_le _, Nat.zero_le _⟩ (fun H locs hP hS => ?_)
  refine lv_aload_n hx hb dX3_owner_10 rfl (lv_at hl 0 rfl) ?_
  refine va_get (D := D) (ci := 3) (v := .ref (qa 1 0)) (C := RX3) (T := TX3) (N := 7) hx hb hts hin3 hown hK hP 0 rfl rfl 0 (by decide) (hta _ aw_120) (fun _ h9 => h9) rfl dX3_owner_11 ?_
  refine lv_iload_n hx hb dX3_owner_14 rfl (lv_at hl 1 rfl) ?_
  refine lv_iload_n hx hb dX3_owner_15 rfl (lv_at hl 2 rfl) ?_
  obtain ⟨r5, hr5, h⟩ := pq_b h
  refine pw_fi (ws0 := W3 cy qa P T S nw hz ak pa wt cd ln) (ws1 := W3 cy qa P T S nw hz ak pa wt cd ln) (wc := WP cy (qa 1) P) (w1 := WP cy (qa 1) P) (rest := []) (As := [.int x1, .int x2]) hF (kX2_ownerProperty l D cy (qa 1) _ P x1 x2 r5 hr5) (cwV 2 hts (pw_gV (own := RX3) (idx := 200) (C := RX2) (y := yX2_ownerProperty) aw_414 aw_415 aw_416 aw_2 aw_417) rfl rfl rfl pX2_ownerProperty ⟨Nat.le_of_ble_eq_true rfl, Nat.le_of_ble_eq_true rfl⟩) 2 (RX2, TX2, 16) rfl rfl ⟨0, _, rfl⟩ hK hP hD hS hA (pw_s3 _ _ _ _ _) (pw_s3 _ _ _ _ _) rfl rfl hl.1 rfl (Nat.le_of_ble_eq_true rfl) dX3_owner_16 ⟨Nat.zero_le _, Nat.zero_le _⟩ (fun H locs hP hD hS => ?_)
  obtain rfl := Sum.inr.inj (Option.some.inj h)
  subst hQ
  exact pw_ri hx hb hr hlk hAe hP hS rfl dX3_owner_19

def aX3_count : List Cond := Cond.code yX3_count cX3_count 2 (some .int) :: pw_all
theorem pX3_count : yX3_count.cls = RX3 ∧ yX3_count.cls ≠ "java/lang/invoke/MethodHandle" ∧ yX3_count.cls ≠ "java/lang/invoke/VarHandle" ∧ (parseMethodDescriptor yX3_count.desc).map (fun d => d.parameters.length) = some 1 := by decide +kernel
set_option maxHeartbeats 8000000 in
set_option maxRecDepth 100000 in
theorem kX3_count (l : Launch) (D : va_G) (cy : Nat → ClassId) (qa : Nat → Nat → Nat) (sz : Nat) (P : Nat → Nat → Int32) (T : Nat → Nat → Int32) (S : Nat → Nat → Nat → Int32) (nw : Int32) (hz : Int32) (ak : Nat → Int32) (pa : Nat → Int32) (wt : Nat → Int32) (cd : Nat → Int32) (ln : Int32) (x1 : Int32) (o : Int32) (h : fX3_count x1 P hz = some (Sum.inr o)) : Met l yX3_count aX3_count ({ frames := 3, cells := 0, slots := 0, locals := 65 }) (pw_Pre D cy [.ref (qa 0 0), .int x1] (W3 cy qa P T S nw hz ak pa wt cd ln) sz) (pw_I D o (W3 cy qa P T S nw hz ak pa wt cd ln) (W3 cy qa P T S nw hz ak pa wt cd ln) sz) 0 0 (va_A (W3 cy qa P T S nw hz ak pa wt cd ln) sz) := by
  refine pw_met (cc := cX3_count) (maxL := 2) (ret := (some .int)) (by decide) rfl (Nat.le_of_ble_eq_true rfl) ?_
  intro p e s m args below meth c ls A hx hb hr hml hlk hts hown hAe hA hK hP hD hS hl
  have hl : lv_has ls 2 [(0, .ref (qa 0 0)), (1, .int x1)] := hl
  generalize hQ : MQ below (pw_I D o (W3 cy qa P T S nw hz ak pa wt cd ln) (W3 cy qa P T S nw hz ak pa wt cd ln) sz) args s 0 0 (va_A (W3 cy qa P T S nw hz ak pa wt cd ln) sz) = Q
  have hF : CallFix p m c cX3_count 2 s args aX3_count RX3 := ⟨hx, hb, hml, hown, hts⟩
  have hta : ∀ w ∈ pw_all, w.before args s = true := fun w h => hts w (List.mem_cons_of_mem _ h)
  have hin3 : ∀ w ∈ wsX30, w ∈ aX3_count := fun w h => List.mem_cons_of_mem _ (inA3 w h)
  have hin2 : ∀ w ∈ wsX20, w ∈ aX3_count := fun w h => List.mem_cons_of_mem _ (inA2 w h)
  have hin1 : ∀ w ∈ wsX10, w ∈ aX3_count := fun w h => List.mem_cons_of_mem _ (inA1 w h)
  have hin0 : ∀ w ∈ wsX00, w ∈ aX3_count := fun w h => List.mem_cons_of_mem _ (inA0 w h)
  unfold fX3_count at h
  refine lv_iload_n hx hb dX3_count_0 rfl (lv_at hl 1 rfl) ?_
  refine lv_bipush (v := 14) hx hb dX3_count_1 (by decide) ?_
  obtain ⟨r1, hr1, h⟩ := pq_b h
  obtain ⟨a2, rfl, h⟩ := pq_inr h
  refine pw_sv (rest := []) (As := [.int x1, .int 14]) hF (kX3_requireKind l D cy _ x1 14 a2 hr1) (cwS 2 hts (pw_gS (own := RX3) (idx := 193) (y := yX3_requireKind) aw_398 aw_399 aw_1 aw_400) rfl rfl rfl pX3_requireKind ⟨Nat.le_of_ble_eq_true rfl, Nat.le_of_ble_eq_true rfl⟩) hK hP hS hA rfl hl.1 rfl (Nat.le_of_ble_eq_true rfl) dX3_count_3 ⟨Nat.zero_le _, Nat.zero_le _⟩ (fun H locs hP hS => ?_)
  refine lv_iload_n hx hb dX3_count_6 rfl (lv_at hl 1 rfl) ?_
  refine lv_bipush (v := 13) hx hb dX3_count_7 (by decide) ?_
  refine lv_icmp_ne (tgt := 22) hx hb dX3_count_9 (by decide) (fun c1_ => ?_) (fun c1_ => ?_)
  · have h := pq_e c1_ h
    refine lv_aload_n hx hb dX3_count_22 rfl (lv_at hl 0 rfl) ?_
    refine va_get (D := D) (ci := 3) (v := .ref (qa 1 0)) (C := RX3) (T := TX3) (N := 7) hx hb hts hin3 hown hK hP 0 rfl rfl 0 (by decide) (hta _ aw_120) (fun _ h9 => h9) rfl dX3_count_23 ?_
    refine lv_iload_n hx hb dX3_count_26 rfl (lv_at hl 1 rfl) ?_
    obtain ⟨r3, hr3, h⟩ := pq_b h
    refine pw_fi (ws0 := W3 cy qa P T S nw hz ak pa wt cd ln) (ws1 := W3 cy qa P T S nw hz ak pa wt cd ln) (wc := WP cy (qa 1) P) (w1 := WP cy (qa 1) P) (rest := []) (As := [.int x1]) hF (kX2_number l D cy (qa 1) _ P x1 r3 hr3) (cwV 1 hts (pw_gV (own := RX3) (idx := 203) (C := RX2) (y := yX2_number) aw_424 aw_425 aw_426 aw_2 aw_427) rfl rfl rfl pX2_number ⟨Nat.le_of_ble_eq_true rfl, Nat.le_of_ble_eq_true rfl⟩) 2 (RX2, TX2, 16) rfl rfl ⟨0, _, rfl⟩ hK hP hD hS hA (pw_s3 _ _ _ _ _) (pw_s3 _ _ _ _ _) rfl rfl hl.1 rfl (Nat.le_of_ble_eq_true rfl) dX3_count_27 ⟨Nat.zero_le _, Nat.zero_le _⟩ (fun H locs hP hD hS => ?_)
    obtain rfl := Sum.inr.inj (Option.some.inj h)
    subst hQ
    exact pw_ri hx hb hr hlk hAe hP hS rfl dX3_count_30
  · have h := pq_t c1_ h
    refine lv_aload_n hx hb dX3_count_12 rfl (lv_at hl 0 rfl) ?_
    refine va_get (D := D) (ci := 3) (v := .ref (qa 4 0)) (C := RX3) (T := TX3) (N := 7) hx hb hts hin3 hown hK hP 0 rfl rfl 5 (by decide) (hta _ aw_125) (fun _ h9 => h9) rfl dX3_count_13 ?_
    refine va_get (D := D) (ci := 1) (v := .int hz) (C := RX1) (T := TX1) (N := 3) hx hb hts hin1 hown hK hP 36 rfl rfl 2 (by decide) (hta _ aw_100) (fun _ h9 => h9) rfl dX3_count_16 ?_
    refine lv_goto (tgt := 30) hx hb dX3_count_19 (by decide) ?_
    obtain rfl := Sum.inr.inj (Option.some.inj h)
    subst hQ
    exact pw_ri hx hb hr hlk hAe hP hS rfl dX3_count_30

def aX3_setting : List Cond := Cond.code yX3_setting cX3_setting 2 (some .int) :: pw_all
theorem pX3_setting : yX3_setting.cls = RX3 ∧ yX3_setting.cls ≠ "java/lang/invoke/MethodHandle" ∧ yX3_setting.cls ≠ "java/lang/invoke/VarHandle" ∧ (parseMethodDescriptor yX3_setting.desc).map (fun d => d.parameters.length) = some 1 := by decide +kernel
set_option maxHeartbeats 8000000 in
set_option maxRecDepth 100000 in
theorem kX3_setting (l : Launch) (D : va_G) (cy : Nat → ClassId) (qa : Nat → Nat → Nat) (sz : Nat) (P : Nat → Nat → Int32) (T : Nat → Nat → Int32) (S : Nat → Nat → Nat → Int32) (nw : Int32) (hz : Int32) (ak : Nat → Int32) (pa : Nat → Int32) (wt : Nat → Int32) (cd : Nat → Int32) (ln : Int32) (x1 : Int32) (o : Int32) (h : fX3_setting x1 P = some (Sum.inr o)) : Met l yX3_setting aX3_setting ({ frames := 1, cells := 0, slots := 0, locals := 20 }) (pw_Pre D cy [.ref (qa 0 0), .int x1] (W3 cy qa P T S nw hz ak pa wt cd ln) sz) (pw_I D o (W3 cy qa P T S nw hz ak pa wt cd ln) (W3 cy qa P T S nw hz ak pa wt cd ln) sz) 0 0 (va_A (W3 cy qa P T S nw hz ak pa wt cd ln) sz) := by
  refine pw_met (cc := cX3_setting) (maxL := 2) (ret := (some .int)) (by decide) rfl (Nat.le_of_ble_eq_true rfl) ?_
  intro p e s m args below meth c ls A hx hb hr hml hlk hts hown hAe hA hK hP hD hS hl
  have hl : lv_has ls 2 [(0, .ref (qa 0 0)), (1, .int x1)] := hl
  generalize hQ : MQ below (pw_I D o (W3 cy qa P T S nw hz ak pa wt cd ln) (W3 cy qa P T S nw hz ak pa wt cd ln) sz) args s 0 0 (va_A (W3 cy qa P T S nw hz ak pa wt cd ln) sz) = Q
  have hF : CallFix p m c cX3_setting 2 s args aX3_setting RX3 := ⟨hx, hb, hml, hown, hts⟩
  have hta : ∀ w ∈ pw_all, w.before args s = true := fun w h => hts w (List.mem_cons_of_mem _ h)
  have hin3 : ∀ w ∈ wsX30, w ∈ aX3_setting := fun w h => List.mem_cons_of_mem _ (inA3 w h)
  have hin2 : ∀ w ∈ wsX20, w ∈ aX3_setting := fun w h => List.mem_cons_of_mem _ (inA2 w h)
  have hin1 : ∀ w ∈ wsX10, w ∈ aX3_setting := fun w h => List.mem_cons_of_mem _ (inA1 w h)
  have hin0 : ∀ w ∈ wsX00, w ∈ aX3_setting := fun w h => List.mem_cons_of_mem _ (inA0 w h)
  unfold fX3_setting at h
  refine lv_iload_n hx hb dX3_setting_0 rfl (lv_at hl 1 rfl) ?_
  obtain ⟨r1, hr1, h⟩ := pq_b h
  obtain ⟨a2, rfl, h⟩ := pq_inr h
  refine pw_sv (rest := []) (As := [.int x1]) hF (kX3_requireSetting l D cy _ x1 a2 hr1) (cwS 1 hts (pw_gS (own := RX3) (idx := 121) (y := yX3_requireSetting) aw_366 aw_367 aw_1 aw_368) rfl rfl rfl pX3_requireSetting ⟨Nat.le_of_ble_eq_true rfl, Nat.le_of_ble_eq_true rfl⟩) hK hP hS hA rfl hl.1 rfl (Nat.le_of_ble_eq_true rfl) dX3_setting_1 ⟨Nat.zero_le _, Nat.zero_le _⟩ (fun H locs hP hS => ?_)
  refine lv_aload_n hx hb dX3_setting_4 rfl (lv_at hl 0 rfl) ?_
  refine va_get (D := D) (ci := 3) (v := .ref (qa 1 0)) (C := RX3) (T := TX3) (N := 7) hx hb hts hin3 hown hK hP 0 rfl rfl 0 (by decide) (hta _ aw_120) (fun _ h9 => h9) rfl dX3_setting_5 ?_
  refine va_get (D := D) (ci := 2) (v := .ref (qa 1 1)) (C := RX2) (T := TX2) (N := 16) hx hb hts hin2 hown hK hP 21 rfl rfl 1 (by decide) (hta _ aw_34) (fun _ h9 => h9) rfl dX3_setting_8 ?_
  refine lv_iload_n hx hb dX3_setting_11 rfl (lv_at hl 1 rfl) ?_
  obtain ⟨hg, h⟩ := pq_g h
  refine va_iald hx hb hK hP 22 0 rfl rfl (pq_vp hg) dX3_setting_12 ?_
  obtain rfl := Sum.inr.inj (Option.some.inj h)
  subst hQ
  exact pw_ri hx hb hr hlk hAe hP hS rfl dX3_setting_13

def aX3_tryAsking : List Cond := Cond.code yX3_tryAsking cX3_tryAsking 3 none :: pw_all
theorem pX3_tryAsking : yX3_tryAsking.cls = RX3 ∧ yX3_tryAsking.cls ≠ "java/lang/invoke/MethodHandle" ∧ yX3_tryAsking.cls ≠ "java/lang/invoke/VarHandle" ∧ (parseMethodDescriptor yX3_tryAsking.desc).map (fun d => d.parameters.length) = some 1 := by decide +kernel
set_option maxHeartbeats 8000000 in
set_option maxRecDepth 100000 in
theorem kX3_tryAsking (l : Launch) (D : va_G) (cy : Nat → ClassId) (qa : Nat → Nat → Nat) (sz : Nat) (P : Nat → Nat → Int32) (T : Nat → Nat → Int32) (S : Nat → Nat → Nat → Int32) (nw : Int32) (hz : Int32) (ak : Nat → Int32) (pa : Nat → Int32) (wt : Nat → Int32) (cd : Nat → Int32) (ln : Int32) (x1 : Int32) (o : (Nat → Nat → Int32) × (Nat → Int32)) (h : fX3_tryAsking x1 P T ak = some o) : Met l yX3_tryAsking aX3_tryAsking ({ frames := 5, cells := 0, slots := 0, locals := 113 }) (pw_Pre D cy [.ref (qa 0 0), .int x1] (W3 cy qa P T S nw hz ak pa wt cd ln) sz) (pw_V D (W3 cy qa P T S nw hz ak pa wt cd ln) (W3 cy qa P o.1 S nw hz o.2 pa wt cd ln) sz) 0 0 (va_A (W3 cy qa P T S nw hz ak pa wt cd ln) sz) := by
  refine pw_met (cc := cX3_tryAsking) (maxL := 3) (ret := none) (by decide) rfl (Nat.le_of_ble_eq_true rfl) ?_
  intro p e s m args below meth c ls A hx hb hr hml hlk hts hown hAe hA hK hP hD hS hl
  have hl : lv_has ls 3 [(0, .ref (qa 0 0)), (1, .int x1)] := hl
  generalize hQ : MQ below (pw_V D (W3 cy qa P T S nw hz ak pa wt cd ln) (W3 cy qa P o.1 S nw hz o.2 pa wt cd ln) sz) args s 0 0 (va_A (W3 cy qa P T S nw hz ak pa wt cd ln) sz) = Q
  have hF : CallFix p m c cX3_tryAsking 3 s args aX3_tryAsking RX3 := ⟨hx, hb, hml, hown, hts⟩
  have hta : ∀ w ∈ pw_all, w.before args s = true := fun w h => hts w (List.mem_cons_of_mem _ h)
  have hin3 : ∀ w ∈ wsX30, w ∈ aX3_tryAsking := fun w h => List.mem_cons_of_mem _ (inA3 w h)
  have hin2 : ∀ w ∈ wsX20, w ∈ aX3_tryAsking := fun w h => List.mem_cons_of_mem _ (inA2 w h)
  have hin1 : ∀ w ∈ wsX10, w ∈ aX3_tryAsking := fun w h => List.mem_cons_of_mem _ (inA1 w h)
  have hin0 : ∀ w ∈ wsX00, w ∈ aX3_tryAsking := fun w h => List.mem_cons_of_mem _ (inA0 w h)
  unfold fX3_tryAsking at h
  refine lv_aload_n hx hb dX3_tryAsking_0 rfl (lv_at hl 0 rfl) ?_
  refine va_get (D := D) (ci := 3) (v := .ref (qa 0 1)) (C := RX3) (T := TX3) (N := 7) hx hb hts hin3 hown hK hP 0 rfl rfl 2 (by decide) (hta _ aw_122) (fun _ h9 => h9) rfl dX3_tryAsking_1 ?_
  refine lv_iconst (v := 0) hx hb dX3_tryAsking_4 (by decide) ?_
  refine lv_iconst (v := (-1)) hx hb dX3_tryAsking_5 (by decide) ?_
  refine va_iast hx hb hK hP hD hS 1 0 rfl rfl (pq_vp (by decide +kernel)) dX3_tryAsking_6 (fun H locs hP hD hS => ?_)
  have hP : va_P D vwCl (W3 cy qa P T S nw hz (upd ak (0 : Int32).toNatClampNeg (-1)) pa wt cd ln) H := hP
  have hD : va_D A (W3 cy qa P T S nw hz (upd ak (0 : Int32).toNatClampNeg (-1)) pa wt cd ln) := hD
  refine lv_aload_n hx hb dX3_tryAsking_7 rfl (lv_at hl 0 rfl) ?_
  refine va_get (D := D) (ci := 3) (v := .ref (qa 0 1)) (C := RX3) (T := TX3) (N := 7) hx hb hts hin3 hown hK hP 0 rfl rfl 2 (by decide) (hta _ aw_122) (fun _ h9 => h9) rfl dX3_tryAsking_8 ?_
  refine lv_iconst (v := 1) hx hb dX3_tryAsking_11 (by decide) ?_
  refine lv_iconst (v := 0) hx hb dX3_tryAsking_12 (by decide) ?_
  refine va_iast hx hb hK hP hD hS 1 0 rfl rfl (pq_vp (by decide +kernel)) dX3_tryAsking_13 (fun H locs hP hD hS => ?_)
  have hP : va_P D vwCl (W3 cy qa P T S nw hz (upd (upd ak (0 : Int32).toNatClampNeg (-1)) (1 : Int32).toNatClampNeg 0) pa wt cd ln) H := hP
  have hD : va_D A (W3 cy qa P T S nw hz (upd (upd ak (0 : Int32).toNatClampNeg (-1)) (1 : Int32).toNatClampNeg 0) pa wt cd ln) := hD
  refine lv_aload_n hx hb dX3_tryAsking_14 rfl (lv_at hl 0 rfl) ?_
  refine va_get (D := D) (ci := 3) (v := .ref (qa 0 1)) (C := RX3) (T := TX3) (N := 7) hx hb hts hin3 hown hK hP 0 rfl rfl 2 (by decide) (hta _ aw_122) (fun _ h9 => h9) rfl dX3_tryAsking_15 ?_
  refine lv_iconst (v := 2) hx hb dX3_tryAsking_18 (by decide) ?_
  refine lv_iconst (v := 0) hx hb dX3_tryAsking_19 (by decide) ?_
  refine va_iast hx hb hK hP hD hS 1 0 rfl rfl (pq_vp (by decide +kernel)) dX3_tryAsking_20 (fun H locs hP hD hS => ?_)
  have hP : va_P D vwCl (W3 cy qa P T S nw hz (upd (upd (upd ak (0 : Int32).toNatClampNeg (-1)) (1 : Int32).toNatClampNeg 0) (2 : Int32).toNatClampNeg 0) pa wt cd ln) H := hP
  have hD : va_D A (W3 cy qa P T S nw hz (upd (upd (upd ak (0 : Int32).toNatClampNeg (-1)) (1 : Int32).toNatClampNeg 0) (2 : Int32).toNatClampNeg 0) pa wt cd ln) := hD
  refine lv_aload_n hx hb dX3_tryAsking_21 rfl (lv_at hl 0 rfl) ?_
  refine va_get (D := D) (ci := 3) (v := .ref (qa 1 0)) (C := RX3) (T := TX3) (N := 7) hx hb hts hin3 hown hK hP 0 rfl rfl 0 (by decide) (hta _ aw_120) (fun _ h9 => h9) rfl dX3_tryAsking_22 ?_
  refine lv_iload_n hx hb dX3_tryAsking_25 rfl (lv_at hl 1 rfl) ?_
  obtain ⟨r1, hr1, h⟩ := pq_b h
  refine pw_fi (ws0 := W3 cy qa P T S nw hz (upd (upd (upd ak (0 : Int32).toNatClampNeg (-1)) (1 : Int32).toNatClampNeg 0) (2 : Int32).toNatClampNeg 0) pa wt cd ln) (ws1 := W3 cy qa P T S nw hz (upd (upd (upd ak (0 : Int32).toNatClampNeg (-1)) (1 : Int32).toNatClampNeg 0) (2 : Int32).toNatClampNeg 0) pa wt cd ln) (wc := WP cy (qa 1) P) (w1 := WP cy (qa 1) P) (rest := []) (As := [.int x1]) hF (kX2_canRequest l D cy (qa 1) _ P x1 r1 hr1) (cwV 1 hts (pw_gV (own := RX3) (idx := 47) (C := RX2) (y := yX2_canRequest) aw_470 aw_471 aw_472 aw_2 aw_473) rfl rfl rfl pX2_canRequest ⟨Nat.le_of_ble_eq_true rfl, Nat.le_of_ble_eq_true rfl⟩) 2 (RX2, TX2, 16) rfl rfl ⟨0, _, rfl⟩ hK hP hD hS hA (pw_s3 _ _ _ _ _) (pw_s3 _ _ _ _ _) rfl rfl hl.1 rfl (Nat.le_of_ble_eq_true rfl) dX3_tryAsking_26 ⟨Nat.zero_le _, Nat.zero_le _⟩ (fun H locs hP hD hS => ?_)
  refine lv_if_ne (tgt := 33) hx hb dX3_tryAsking_29 (by decide) (fun c1_ => ?_) (fun c1_ => ?_)
  · have h := pq_e c1_ h
    refine lv_aload_n hx hb dX3_tryAsking_33 rfl (lv_at hl 0 rfl) ?_
    refine va_get (D := D) (ci := 3) (v := .ref (qa 2 0)) (C := RX3) (T := TX3) (N := 7) hx hb hts hin3 hown hK hP 0 rfl rfl 1 (by decide) (hta _ aw_121) (fun _ h9 => h9) rfl dX3_tryAsking_34 ?_
    refine lv_aload_n hx hb dX3_tryAsking_37 rfl (lv_at hl 0 rfl) ?_
    refine va_get (D := D) (ci := 3) (v := .ref (qa 1 0)) (C := RX3) (T := TX3) (N := 7) hx hb hts hin3 hown hK hP 0 rfl rfl 0 (by decide) (hta _ aw_120) (fun _ h9 => h9) rfl dX3_tryAsking_38 ?_
    obtain ⟨r2, hr2, h⟩ := pq_b h
    refine pw_fv (ws0 := W3 cy qa P T S nw hz (upd (upd (upd ak (0 : Int32).toNatClampNeg (-1)) (1 : Int32).toNatClampNeg 0) (2 : Int32).toNatClampNeg 0) pa wt cd ln) (ws1 := W3 cy qa P r2 S nw hz (upd (upd (upd ak (0 : Int32).toNatClampNeg (-1)) (1 : Int32).toNatClampNeg 0) (2 : Int32).toNatClampNeg 0) pa wt cd ln) (wc := WP cy (qa 2) T ++ WP cy (qa 1) P) (w1 := WP cy (qa 2) r2 ++ WP cy (qa 1) P) (rest := []) (As := [.ref (qa 1 0)]) hF (kX2_copyFrom l D cy (qa 2) (qa 1) _ T P r2 hr2) (cwV 1 hts (pw_gV (own := RX3) (idx := 273) (C := RX2) (y := yX2_copyFrom) aw_474 aw_242 aw_243 aw_2 aw_244) rfl rfl rfl pX2_copyFrom ⟨Nat.le_of_ble_eq_true rfl, Nat.le_of_ble_eq_true rfl⟩) 2 (RX2, TX2, 16) rfl rfl ⟨0, _, rfl⟩ hK hP hD hS hA (pw_s23 _ _ _ _ _) (pw_s23 _ _ _ _ _) rfl rfl hl.1 rfl (Nat.le_of_ble_eq_true rfl) dX3_tryAsking_41 ⟨Nat.zero_le _, Nat.zero_le _⟩ (fun H locs hP hD hS => ?_)
    refine lv_aload_n hx hb dX3_tryAsking_44 rfl (lv_at hl 0 rfl) ?_
    refine va_get (D := D) (ci := 3) (v := .ref (qa 2 0)) (C := RX3) (T := TX3) (N := 7) hx hb hts hin3 hown hK hP 0 rfl rfl 1 (by decide) (hta _ aw_121) (fun _ h9 => h9) rfl dX3_tryAsking_45 ?_
    refine lv_iload_n hx hb dX3_tryAsking_48 rfl (lv_at hl 1 rfl) ?_
    obtain ⟨r3, hr3, h⟩ := pq_b h
    refine pw_fi (ws0 := W3 cy qa P r2 S nw hz (upd (upd (upd ak (0 : Int32).toNatClampNeg (-1)) (1 : Int32).toNatClampNeg 0) (2 : Int32).toNatClampNeg 0) pa wt cd ln) (ws1 := W3 cy qa P r3.2 S nw hz (upd (upd (upd ak (0 : Int32).toNatClampNeg (-1)) (1 : Int32).toNatClampNeg 0) (2 : Int32).toNatClampNeg 0) pa wt cd ln) (wc := WP cy (qa 2) r2) (w1 := WP cy (qa 2) r3.2) (rest := []) (As := [.int x1]) hF (kX2_request l D cy (qa 2) _ r2 x1 r3 hr3) (cwV 1 hts (pw_gV (own := RX3) (idx := 62) (C := RX2) (y := yX2_request) aw_475 aw_476 aw_477 aw_2 aw_478) rfl rfl rfl pX2_request ⟨Nat.le_of_ble_eq_true rfl, Nat.le_of_ble_eq_true rfl⟩) 2 (RX2, TX2, 16) rfl rfl ⟨0, _, rfl⟩ hK hP hD hS hA (pw_s2 _ _ _ _) (pw_s2 _ _ _ _) rfl rfl hl.1 rfl (Nat.le_of_ble_eq_true rfl) dX3_tryAsking_49 ⟨Nat.zero_le _, Nat.zero_le _⟩ (fun H locs hP hD hS => ?_)
    refine lv_istore_n (lv' := [(2, .int r3.1), (0, .ref (qa 0 0)), (1, .int x1)]) hx hb dX3_tryAsking_52 rfl hl (by decide) rfl (fun ls hl => ?_)
    refine lv_aload_n hx hb dX3_tryAsking_53 rfl (lv_at hl 1 rfl) ?_
    refine va_get (D := D) (ci := 3) (v := .ref (qa 0 1)) (C := RX3) (T := TX3) (N := 7) hx hb hts hin3 hown hK hP 0 rfl rfl 2 (by decide) (hta _ aw_122) (fun _ h9 => h9) rfl dX3_tryAsking_54 ?_
    refine lv_iconst (v := 0) hx hb dX3_tryAsking_57 (by decide) ?_
    refine lv_iload_n hx hb dX3_tryAsking_58 rfl (lv_at hl 0 rfl) ?_
    refine va_iast hx hb hK hP hD hS 1 0 rfl rfl (pq_vp (by decide +kernel)) dX3_tryAsking_59 (fun H locs hP hD hS => ?_)
    have hP : va_P D vwCl (W3 cy qa P r3.2 S nw hz (upd (upd (upd (upd ak (0 : Int32).toNatClampNeg (-1)) (1 : Int32).toNatClampNeg 0) (2 : Int32).toNatClampNeg 0) (0 : Int32).toNatClampNeg r3.1) pa wt cd ln) H := hP
    have hD : va_D A (W3 cy qa P r3.2 S nw hz (upd (upd (upd (upd ak (0 : Int32).toNatClampNeg (-1)) (1 : Int32).toNatClampNeg 0) (2 : Int32).toNatClampNeg 0) (0 : Int32).toNatClampNeg r3.1) pa wt cd ln) := hD
    refine lv_aload_n hx hb dX3_tryAsking_60 rfl (lv_at hl 1 rfl) ?_
    refine va_get (D := D) (ci := 3) (v := .ref (qa 0 1)) (C := RX3) (T := TX3) (N := 7) hx hb hts hin3 hown hK hP 0 rfl rfl 2 (by decide) (hta _ aw_122) (fun _ h9 => h9) rfl dX3_tryAsking_61 ?_
    refine lv_iconst (v := 1) hx hb dX3_tryAsking_64 (by decide) ?_
    refine lv_iload_n hx hb dX3_tryAsking_65 rfl (lv_at hl 0 rfl) ?_
    refine lv_iconst (v := (-1)) hx hb dX3_tryAsking_66 (by decide) ?_
    obtain ⟨v4, hv4, h⟩ := pq_b h
    have J96_v4 : ∀ (H : Heap) (locs : List Loc) (ls : Array Slot), va_P D vwCl (W3 cy qa P r3.2 S nw hz (upd (upd (upd (upd ak (0 : Int32).toNatClampNeg (-1)) (1 : Int32).toNatClampNeg 0) (2 : Int32).toNatClampNeg 0) (0 : Int32).toNatClampNeg r3.1) pa wt cd ln) H → va_D A (W3 cy qa P r3.2 S nw hz (upd (upd (upd (upd ak (0 : Int32).toNatClampNeg (-1)) (1 : Int32).toNatClampNeg 0) (2 : Int32).toNatClampNeg 0) (0 : Int32).toNatClampNeg r3.1) pa wt cd ln) → va_S A s.heap H locs → lv_has ls 3 [(0, .ref (qa 0 0))] → W p l e ({ frames := 5, cells := 0, slots := 0, locals := 113 } : Room) s m args below meth c H locs 0 0 Q (F0 m 96 ls [.int v4, .int 1, .ref (qa 0 1)]) := by
      intro H locs ls hP hD hS hl
      refine va_iast hx hb hK hP hD hS 1 0 rfl rfl (pq_vp (by decide +kernel)) dX3_tryAsking_96 (fun H locs hP hD hS => ?_)
      have hP : va_P D vwCl (W3 cy qa P r3.2 S nw hz (upd (upd (upd (upd (upd ak (0 : Int32).toNatClampNeg (-1)) (1 : Int32).toNatClampNeg 0) (2 : Int32).toNatClampNeg 0) (0 : Int32).toNatClampNeg r3.1) (1 : Int32).toNatClampNeg v4) pa wt cd ln) H := hP
      have hD : va_D A (W3 cy qa P r3.2 S nw hz (upd (upd (upd (upd (upd ak (0 : Int32).toNatClampNeg (-1)) (1 : Int32).toNatClampNeg 0) (2 : Int32).toNatClampNeg 0) (0 : Int32).toNatClampNeg r3.1) (1 : Int32).toNatClampNeg v4) pa wt cd ln) := hD
      refine lv_aload_n hx hb dX3_tryAsking_97 rfl (lv_at hl 0 rfl) ?_
      refine va_get (D := D) (ci := 3) (v := .ref (qa 0 1)) (C := RX3) (T := TX3) (N := 7) hx hb hts hin3 hown hK hP 0 rfl rfl 2 (by decide) (hta _ aw_122) (fun _ h9 => h9) rfl dX3_tryAsking_98 ?_
      refine lv_iconst (v := 2) hx hb dX3_tryAsking_101 (by decide) ?_
      refine lv_aload_n hx hb dX3_tryAsking_102 rfl (lv_at hl 0 rfl) ?_
      refine va_get (D := D) (ci := 3) (v := .ref (qa 2 0)) (C := RX3) (T := TX3) (N := 7) hx hb hts hin3 hown hK hP 0 rfl rfl 1 (by decide) (hta _ aw_121) (fun _ h9 => h9) rfl dX3_tryAsking_103 ?_
      refine va_get (D := D) (ci := 2) (v := .ref (qa 2 15)) (C := RX2) (T := TX2) (N := 16) hx hb hts hin2 hown hK hP 6 rfl rfl 15 (by decide) (hta _ aw_52) (fun _ h9 => h9) rfl dX3_tryAsking_106 ?_
      refine lv_iconst (v := 1) hx hb dX3_tryAsking_109 (by decide) ?_
      refine va_iald hx hb hK hP 20 0 rfl rfl (pq_vp (by decide +kernel)) dX3_tryAsking_110 ?_
      refine lv_aload_n hx hb dX3_tryAsking_111 rfl (lv_at hl 0 rfl) ?_
      refine va_get (D := D) (ci := 3) (v := .ref (qa 1 0)) (C := RX3) (T := TX3) (N := 7) hx hb hts hin3 hown hK hP 0 rfl rfl 0 (by decide) (hta _ aw_120) (fun _ h9 => h9) rfl dX3_tryAsking_112 ?_
      refine va_get (D := D) (ci := 2) (v := .ref (qa 1 15)) (C := RX2) (T := TX2) (N := 16) hx hb hts hin2 hown hK hP 21 rfl rfl 15 (by decide) (hta _ aw_52) (fun _ h9 => h9) rfl dX3_tryAsking_115 ?_
      refine lv_iconst (v := 1) hx hb dX3_tryAsking_118 (by decide) ?_
      refine va_iald hx hb hK hP 35 0 rfl rfl (pq_vp (by decide +kernel)) dX3_tryAsking_119 ?_
      refine lv_isub hx hb dX3_tryAsking_120 ?_
      refine va_iast hx hb hK hP hD hS 1 0 rfl rfl (pq_vp (by decide +kernel)) dX3_tryAsking_121 (fun H locs hP hD hS => ?_)
      have hP : va_P D vwCl (W3 cy qa P r3.2 S nw hz (upd (upd (upd (upd (upd (upd ak (0 : Int32).toNatClampNeg (-1)) (1 : Int32).toNatClampNeg 0) (2 : Int32).toNatClampNeg 0) (0 : Int32).toNatClampNeg r3.1) (1 : Int32).toNatClampNeg v4) (2 : Int32).toNatClampNeg (((r3.2 15) (1 : Int32).toNatClampNeg) - ((P 15) (1 : Int32).toNatClampNeg))) pa wt cd ln) H := hP
      have hD : va_D A (W3 cy qa P r3.2 S nw hz (upd (upd (upd (upd (upd (upd ak (0 : Int32).toNatClampNeg (-1)) (1 : Int32).toNatClampNeg 0) (2 : Int32).toNatClampNeg 0) (0 : Int32).toNatClampNeg r3.1) (1 : Int32).toNatClampNeg v4) (2 : Int32).toNatClampNeg (((r3.2 15) (1 : Int32).toNatClampNeg) - ((P 15) (1 : Int32).toNatClampNeg))) pa wt cd ln) := hD
      obtain rfl := Option.some.inj h
      subst hQ
      exact pw_rv hx hb hr hlk hAe hP hS dX3_tryAsking_122
    clear h
    have h := hv4
    clear hv4
    refine lv_icmp_eq (tgt := 95) hx hb dX3_tryAsking_67 (by decide) (fun c2_ => ?_) (fun c2_ => ?_)
    · have h := pq_t c2_ h
      refine lv_iconst (v := 0) hx hb dX3_tryAsking_95 (by decide) ?_
      obtain rfl := Option.some.inj h
      exact J96_v4 _ _ _ hP hD hS (lv_sub hl [1] rfl)
    · have h := pq_e c2_ h
      refine lv_aload_n hx hb dX3_tryAsking_70 rfl (lv_at hl 1 rfl) ?_
      refine va_get (D := D) (ci := 3) (v := .ref (qa 2 0)) (C := RX3) (T := TX3) (N := 7) hx hb hts hin3 hown hK hP 0 rfl rfl 1 (by decide) (hta _ aw_121) (fun _ h9 => h9) rfl dX3_tryAsking_71 ?_
      refine va_get (D := D) (ci := 2) (v := .ref (qa 2 7)) (C := RX2) (T := TX2) (N := 16) hx hb hts hin2 hown hK hP 6 rfl rfl 7 (by decide) (hta _ aw_41) (fun _ h9 => h9) rfl dX3_tryAsking_74 ?_
      refine lv_iload_n hx hb dX3_tryAsking_77 rfl (lv_at hl 0 rfl) ?_
      obtain ⟨hg, h⟩ := pq_g h
      refine va_iald hx hb hK hP 13 0 rfl rfl (pq_vp hg) dX3_tryAsking_78 ?_
      refine lv_aload_n hx hb dX3_tryAsking_79 rfl (lv_at hl 1 rfl) ?_
      refine va_get (D := D) (ci := 3) (v := .ref (qa 1 0)) (C := RX3) (T := TX3) (N := 7) hx hb hts hin3 hown hK hP 0 rfl rfl 0 (by decide) (hta _ aw_120) (fun _ h9 => h9) rfl dX3_tryAsking_80 ?_
      refine va_get (D := D) (ci := 2) (v := .ref (qa 1 7)) (C := RX2) (T := TX2) (N := 16) hx hb hts hin2 hown hK hP 21 rfl rfl 7 (by decide) (hta _ aw_41) (fun _ h9 => h9) rfl dX3_tryAsking_83 ?_
      refine lv_iload_n hx hb dX3_tryAsking_86 rfl (lv_at hl 0 rfl) ?_
      obtain ⟨hg, h⟩ := pq_g h
      refine va_iald hx hb hK hP 28 0 rfl rfl (pq_vp hg) dX3_tryAsking_87 ?_
      refine lv_icmp_le (tgt := 95) hx hb dX3_tryAsking_88 (by decide) (fun c3_ => ?_) (fun c3_ => ?_)
      · have h := pq_t c3_ h
        refine lv_iconst (v := 0) hx hb dX3_tryAsking_95 (by decide) ?_
        obtain rfl := Option.some.inj h
        exact J96_v4 _ _ _ hP hD hS (lv_sub hl [1] rfl)
      · have h := pq_e c3_ h
        refine lv_iconst (v := 1) hx hb dX3_tryAsking_91 (by decide) ?_
        refine lv_goto (tgt := 96) hx hb dX3_tryAsking_92 (by decide) ?_
        obtain rfl := Option.some.inj h
        exact J96_v4 _ _ _ hP hD hS (lv_sub hl [1] rfl)
  · have h := pq_t c1_ h
    obtain rfl := Option.some.inj h
    subst hQ
    exact pw_rv hx hb hr hlk hAe hP hS dX3_tryAsking_32

def aX3_ifAsked : List Cond := Cond.code yX3_ifAsked cX3_ifAsked 3 (some .int) :: pw_all
theorem pX3_ifAsked : yX3_ifAsked.cls = RX3 ∧ yX3_ifAsked.cls ≠ "java/lang/invoke/MethodHandle" ∧ yX3_ifAsked.cls ≠ "java/lang/invoke/VarHandle" ∧ (parseMethodDescriptor yX3_ifAsked.desc).map (fun d => d.parameters.length) = some 2 := by decide +kernel
set_option maxHeartbeats 8000000 in
set_option maxRecDepth 100000 in
theorem kX3_ifAsked (l : Launch) (D : va_G) (cy : Nat → ClassId) (qa : Nat → Nat → Nat) (sz : Nat) (P : Nat → Nat → Int32) (T : Nat → Nat → Int32) (S : Nat → Nat → Nat → Int32) (nw : Int32) (hz : Int32) (ak : Nat → Int32) (pa : Nat → Int32) (wt : Nat → Int32) (cd : Nat → Int32) (ln : Int32) (x1 : Int32) (x2 : Int32) (o : Int32 × (Nat → Nat → Int32) × (Nat → Int32)) (h : fX3_ifAsked x1 x2 P T ak = some (Sum.inr o)) : Met l yX3_ifAsked aX3_ifAsked ({ frames := 6, cells := 0, slots := 0, locals := 135 }) (pw_Pre D cy [.ref (qa 0 0), .int x1, .int x2] (W3 cy qa P T S nw hz ak pa wt cd ln) sz) (pw_I D o.1 (W3 cy qa P T S nw hz ak pa wt cd ln) (W3 cy qa P o.2.1 S nw hz o.2.2 pa wt cd ln) sz) 0 0 (va_A (W3 cy qa P T S nw hz ak pa wt cd ln) sz) := by
  refine pw_met (cc := cX3_ifAsked) (maxL := 3) (ret := (some .int)) (by decide) rfl (Nat.le_of_ble_eq_true rfl) ?_
  intro p e s m args below meth c ls A hx hb hr hml hlk hts hown hAe hA hK hP hD hS hl
  have hl : lv_has ls 3 [(0, .ref (qa 0 0)), (1, .int x1), (2, .int x2)] := hl
  generalize hQ : MQ below (pw_I D o.1 (W3 cy qa P T S nw hz ak pa wt cd ln) (W3 cy qa P o.2.1 S nw hz o.2.2 pa wt cd ln) sz) args s 0 0 (va_A (W3 cy qa P T S nw hz ak pa wt cd ln) sz) = Q
  have hF : CallFix p m c cX3_ifAsked 3 s args aX3_ifAsked RX3 := ⟨hx, hb, hml, hown, hts⟩
  have hta : ∀ w ∈ pw_all, w.before args s = true := fun w h => hts w (List.mem_cons_of_mem _ h)
  have hin3 : ∀ w ∈ wsX30, w ∈ aX3_ifAsked := fun w h => List.mem_cons_of_mem _ (inA3 w h)
  have hin2 : ∀ w ∈ wsX20, w ∈ aX3_ifAsked := fun w h => List.mem_cons_of_mem _ (inA2 w h)
  have hin1 : ∀ w ∈ wsX10, w ∈ aX3_ifAsked := fun w h => List.mem_cons_of_mem _ (inA1 w h)
  have hin0 : ∀ w ∈ wsX00, w ∈ aX3_ifAsked := fun w h => List.mem_cons_of_mem _ (inA0 w h)
  unfold fX3_ifAsked at h
  refine lv_iload_n hx hb dX3_ifAsked_0 rfl (lv_at hl 1 rfl) ?_
  obtain ⟨r1, hr1, h⟩ := pq_b h
  obtain ⟨a2, rfl, h⟩ := pq_inr h
  refine pw_sv (rest := []) (As := [.int x1]) hF (kX3_requireOwner l D cy _ x1 a2 hr1) (cwS 1 hts (pw_gS (own := RX3) (idx := 43) (y := yX3_requireOwner) aw_146 aw_147 aw_1 aw_148) rfl rfl rfl pX3_requireOwner ⟨Nat.le_of_ble_eq_true rfl, Nat.le_of_ble_eq_true rfl⟩) hK hP hS hA rfl hl.1 rfl (Nat.le_of_ble_eq_true rfl) dX3_ifAsked_1 ⟨Nat.zero_le _, Nat.zero_le _⟩ (fun H locs hP hS => ?_)
  refine lv_iload_n hx hb dX3_ifAsked_4 rfl (lv_at hl 2 rfl) ?_
  refine lv_iconst (v := 3) hx hb dX3_ifAsked_5 (by decide) ?_
  obtain ⟨r3, hr3, h⟩ := pq_b h
  obtain ⟨a4, rfl, h⟩ := pq_inr h
  refine pw_sv (rest := []) (As := [.int x2, .int 3]) hF (kX3_requireKind l D cy _ x2 3 a4 hr3) (cwS 2 hts (pw_gS (own := RX3) (idx := 193) (y := yX3_requireKind) aw_398 aw_399 aw_1 aw_400) rfl rfl rfl pX3_requireKind ⟨Nat.le_of_ble_eq_true rfl, Nat.le_of_ble_eq_true rfl⟩) hK hP hS hA rfl hl.1 rfl (Nat.le_of_ble_eq_true rfl) dX3_ifAsked_6 ⟨Nat.zero_le _, Nat.zero_le _⟩ (fun H locs hP hS => ?_)
  refine lv_aload_n hx hb dX3_ifAsked_9 rfl (lv_at hl 0 rfl) ?_
  refine lv_iload_n hx hb dX3_ifAsked_10 rfl (lv_at hl 1 rfl) ?_
  obtain ⟨r5, hr5, h⟩ := pq_b h
  refine pw_cv (w1 := W3 cy qa P r5.1 S nw hz r5.2 pa wt cd ln) (rest := []) (As := [.int x1]) hF (kX3_tryAsking l D cy qa _ P T S nw hz ak pa wt cd ln x1 r5 hr5) (cwV 1 hts (pw_gV (own := RX3) (idx := 209) (C := RX3) (y := yX3_tryAsking) aw_466 aw_468 aw_s10 aw_1 aw_469) rfl rfl rfl pX3_tryAsking ⟨Nat.le_of_ble_eq_true rfl, Nat.le_of_ble_eq_true rfl⟩) (va_recv hK hP (ci := 3) (q0 := 0) rfl rfl) hK hP hD hS hA rfl rfl hl.1 rfl (Nat.le_of_ble_eq_true rfl) dX3_ifAsked_11 ⟨Nat.zero_le _, Nat.zero_le _⟩ (fun H locs hP hD hS => ?_)
  refine lv_aload_n hx hb dX3_ifAsked_14 rfl (lv_at hl 0 rfl) ?_
  refine va_get (D := D) (ci := 3) (v := .ref (qa 0 1)) (C := RX3) (T := TX3) (N := 7) hx hb hts hin3 hown hK hP 0 rfl rfl 2 (by decide) (hta _ aw_122) (fun _ h9 => h9) rfl dX3_ifAsked_15 ?_
  refine lv_iload_n hx hb dX3_ifAsked_18 rfl (lv_at hl 2 rfl) ?_
  obtain ⟨hg, h⟩ := pq_g h
  refine va_iald hx hb hK hP 1 0 rfl rfl (pq_vp hg) dX3_ifAsked_19 ?_
  obtain rfl := Sum.inr.inj (Option.some.inj h)
  subst hQ
  exact pw_ri hx hb hr hlk hAe hP hS rfl dX3_ifAsked_20

def aX3_tryPassing : List Cond := Cond.code yX3_tryPassing cX3_tryPassing 2 none :: pw_all
theorem pX3_tryPassing : yX3_tryPassing.cls = RX3 ∧ yX3_tryPassing.cls ≠ "java/lang/invoke/MethodHandle" ∧ yX3_tryPassing.cls ≠ "java/lang/invoke/VarHandle" ∧ (parseMethodDescriptor yX3_tryPassing.desc).map (fun d => d.parameters.length) = some 1 := by decide +kernel
set_option maxHeartbeats 8000000 in
set_option maxRecDepth 100000 in
theorem kX3_tryPassing (l : Launch) (D : va_G) (cy : Nat → ClassId) (qa : Nat → Nat → Nat) (sz : Nat) (P : Nat → Nat → Int32) (T : Nat → Nat → Int32) (S : Nat → Nat → Nat → Int32) (nw : Int32) (hz : Int32) (ak : Nat → Int32) (pa : Nat → Int32) (wt : Nat → Int32) (cd : Nat → Int32) (ln : Int32) (x1 : Int32) (o : (Nat → Nat → Int32) × (Nat → Int32)) (h : fX3_tryPassing x1 P T pa = some o) : Met l yX3_tryPassing aX3_tryPassing ({ frames := 5, cells := 0, slots := 0, locals := 116 }) (pw_Pre D cy [.ref (qa 0 0), .int x1] (W3 cy qa P T S nw hz ak pa wt cd ln) sz) (pw_V D (W3 cy qa P T S nw hz ak pa wt cd ln) (W3 cy qa P o.1 S nw hz ak o.2 wt cd ln) sz) 0 0 (va_A (W3 cy qa P T S nw hz ak pa wt cd ln) sz) := by
  refine pw_met (cc := cX3_tryPassing) (maxL := 2) (ret := none) (by decide) rfl (Nat.le_of_ble_eq_true rfl) ?_
  intro p e s m args below meth c ls A hx hb hr hml hlk hts hown hAe hA hK hP hD hS hl
  have hl : lv_has ls 2 [(0, .ref (qa 0 0)), (1, .int x1)] := hl
  generalize hQ : MQ below (pw_V D (W3 cy qa P T S nw hz ak pa wt cd ln) (W3 cy qa P o.1 S nw hz ak o.2 wt cd ln) sz) args s 0 0 (va_A (W3 cy qa P T S nw hz ak pa wt cd ln) sz) = Q
  have hF : CallFix p m c cX3_tryPassing 2 s args aX3_tryPassing RX3 := ⟨hx, hb, hml, hown, hts⟩
  have hta : ∀ w ∈ pw_all, w.before args s = true := fun w h => hts w (List.mem_cons_of_mem _ h)
  have hin3 : ∀ w ∈ wsX30, w ∈ aX3_tryPassing := fun w h => List.mem_cons_of_mem _ (inA3 w h)
  have hin2 : ∀ w ∈ wsX20, w ∈ aX3_tryPassing := fun w h => List.mem_cons_of_mem _ (inA2 w h)
  have hin1 : ∀ w ∈ wsX10, w ∈ aX3_tryPassing := fun w h => List.mem_cons_of_mem _ (inA1 w h)
  have hin0 : ∀ w ∈ wsX00, w ∈ aX3_tryPassing := fun w h => List.mem_cons_of_mem _ (inA0 w h)
  unfold fX3_tryPassing at h
  refine lv_aload_n hx hb dX3_tryPassing_0 rfl (lv_at hl 0 rfl) ?_
  refine va_get (D := D) (ci := 3) (v := .ref (qa 2 0)) (C := RX3) (T := TX3) (N := 7) hx hb hts hin3 hown hK hP 0 rfl rfl 1 (by decide) (hta _ aw_121) (fun _ h9 => h9) rfl dX3_tryPassing_1 ?_
  refine lv_aload_n hx hb dX3_tryPassing_4 rfl (lv_at hl 0 rfl) ?_
  refine va_get (D := D) (ci := 3) (v := .ref (qa 1 0)) (C := RX3) (T := TX3) (N := 7) hx hb hts hin3 hown hK hP 0 rfl rfl 0 (by decide) (hta _ aw_120) (fun _ h9 => h9) rfl dX3_tryPassing_5 ?_
  obtain ⟨r1, hr1, h⟩ := pq_b h
  refine pw_fv (ws0 := W3 cy qa P T S nw hz ak pa wt cd ln) (ws1 := W3 cy qa P r1 S nw hz ak pa wt cd ln) (wc := WP cy (qa 2) T ++ WP cy (qa 1) P) (w1 := WP cy (qa 2) r1 ++ WP cy (qa 1) P) (rest := []) (As := [.ref (qa 1 0)]) hF (kX2_copyFrom l D cy (qa 2) (qa 1) _ T P r1 hr1) (cwV 1 hts (pw_gV (own := RX3) (idx := 273) (C := RX2) (y := yX2_copyFrom) aw_474 aw_242 aw_243 aw_2 aw_244) rfl rfl rfl pX2_copyFrom ⟨Nat.le_of_ble_eq_true rfl, Nat.le_of_ble_eq_true rfl⟩) 2 (RX2, TX2, 16) rfl rfl ⟨0, _, rfl⟩ hK hP hD hS hA (pw_s23 _ _ _ _ _) (pw_s23 _ _ _ _ _) rfl rfl hl.1 rfl (Nat.le_of_ble_eq_true rfl) dX3_tryPassing_8 ⟨Nat.zero_le _, Nat.zero_le _⟩ (fun H locs hP hD hS => ?_)
  refine lv_aload_n hx hb dX3_tryPassing_11 rfl (lv_at hl 0 rfl) ?_
  refine va_get (D := D) (ci := 3) (v := .ref (qa 0 2)) (C := RX3) (T := TX3) (N := 7) hx hb hts hin3 hown hK hP 0 rfl rfl 3 (by decide) (hta _ aw_123) (fun _ h9 => h9) rfl dX3_tryPassing_12 ?_
  refine lv_iconst (v := 0) hx hb dX3_tryPassing_15 (by decide) ?_
  refine lv_aload_n hx hb dX3_tryPassing_16 rfl (lv_at hl 0 rfl) ?_
  refine va_get (D := D) (ci := 3) (v := .ref (qa 2 0)) (C := RX3) (T := TX3) (N := 7) hx hb hts hin3 hown hK hP 0 rfl rfl 1 (by decide) (hta _ aw_121) (fun _ h9 => h9) rfl dX3_tryPassing_17 ?_
  refine lv_iload_n hx hb dX3_tryPassing_20 rfl (lv_at hl 1 rfl) ?_
  obtain ⟨r2, hr2, h⟩ := pq_b h
  refine pw_fi (ws0 := W3 cy qa P r1 S nw hz ak pa wt cd ln) (ws1 := W3 cy qa P r2.2 S nw hz ak pa wt cd ln) (wc := WP cy (qa 2) r1) (w1 := WP cy (qa 2) r2.2) (rest := [.int 0, .ref (qa 0 2)]) (As := [.int x1]) hF (kX2_passUnits l D cy (qa 2) _ r1 x1 r2 hr2) (cwV 1 hts (pw_gV (own := RX3) (idx := 146) (C := RX2) (y := yX2_passUnits) aw_513 aw_514 aw_515 aw_2 aw_516) rfl rfl rfl pX2_passUnits ⟨Nat.le_of_ble_eq_true rfl, Nat.le_of_ble_eq_true rfl⟩) 2 (RX2, TX2, 16) rfl rfl ⟨0, _, rfl⟩ hK hP hD hS hA (pw_s2 _ _ _ _) (pw_s2 _ _ _ _) rfl rfl hl.1 rfl (Nat.le_of_ble_eq_true rfl) dX3_tryPassing_21 ⟨Nat.zero_le _, Nat.zero_le _⟩ (fun H locs hP hD hS => ?_)
  refine va_iast hx hb hK hP hD hS 2 0 rfl rfl (pq_vp (by decide +kernel)) dX3_tryPassing_24 (fun H locs hP hD hS => ?_)
  have hP : va_P D vwCl (W3 cy qa P r2.2 S nw hz ak (upd pa (0 : Int32).toNatClampNeg r2.1) wt cd ln) H := hP
  have hD : va_D A (W3 cy qa P r2.2 S nw hz ak (upd pa (0 : Int32).toNatClampNeg r2.1) wt cd ln) := hD
  refine lv_aload_n hx hb dX3_tryPassing_25 rfl (lv_at hl 0 rfl) ?_
  refine va_get (D := D) (ci := 3) (v := .ref (qa 0 2)) (C := RX3) (T := TX3) (N := 7) hx hb hts hin3 hown hK hP 0 rfl rfl 3 (by decide) (hta _ aw_123) (fun _ h9 => h9) rfl dX3_tryPassing_26 ?_
  refine lv_iconst (v := 1) hx hb dX3_tryPassing_29 (by decide) ?_
  refine lv_aload_n hx hb dX3_tryPassing_30 rfl (lv_at hl 0 rfl) ?_
  refine va_get (D := D) (ci := 3) (v := .ref (qa 2 0)) (C := RX3) (T := TX3) (N := 7) hx hb hts hin3 hown hK hP 0 rfl rfl 1 (by decide) (hta _ aw_121) (fun _ h9 => h9) rfl dX3_tryPassing_31 ?_
  refine va_get (D := D) (ci := 2) (v := .ref (qa 2 15)) (C := RX2) (T := TX2) (N := 16) hx hb hts hin2 hown hK hP 6 rfl rfl 15 (by decide) (hta _ aw_52) (fun _ h9 => h9) rfl dX3_tryPassing_34 ?_
  refine lv_iconst (v := 1) hx hb dX3_tryPassing_37 (by decide) ?_
  refine va_iald hx hb hK hP 20 0 rfl rfl (pq_vp (by decide +kernel)) dX3_tryPassing_38 ?_
  refine lv_aload_n hx hb dX3_tryPassing_39 rfl (lv_at hl 0 rfl) ?_
  refine va_get (D := D) (ci := 3) (v := .ref (qa 1 0)) (C := RX3) (T := TX3) (N := 7) hx hb hts hin3 hown hK hP 0 rfl rfl 0 (by decide) (hta _ aw_120) (fun _ h9 => h9) rfl dX3_tryPassing_40 ?_
  refine va_get (D := D) (ci := 2) (v := .ref (qa 1 15)) (C := RX2) (T := TX2) (N := 16) hx hb hts hin2 hown hK hP 21 rfl rfl 15 (by decide) (hta _ aw_52) (fun _ h9 => h9) rfl dX3_tryPassing_43 ?_
  refine lv_iconst (v := 1) hx hb dX3_tryPassing_46 (by decide) ?_
  refine va_iald hx hb hK hP 35 0 rfl rfl (pq_vp (by decide +kernel)) dX3_tryPassing_47 ?_
  refine lv_isub hx hb dX3_tryPassing_48 ?_
  refine va_iast hx hb hK hP hD hS 2 0 rfl rfl (pq_vp (by decide +kernel)) dX3_tryPassing_49 (fun H locs hP hD hS => ?_)
  have hP : va_P D vwCl (W3 cy qa P r2.2 S nw hz ak (upd (upd pa (0 : Int32).toNatClampNeg r2.1) (1 : Int32).toNatClampNeg (((r2.2 15) (1 : Int32).toNatClampNeg) - ((P 15) (1 : Int32).toNatClampNeg))) wt cd ln) H := hP
  have hD : va_D A (W3 cy qa P r2.2 S nw hz ak (upd (upd pa (0 : Int32).toNatClampNeg r2.1) (1 : Int32).toNatClampNeg (((r2.2 15) (1 : Int32).toNatClampNeg) - ((P 15) (1 : Int32).toNatClampNeg))) wt cd ln) := hD
  refine lv_aload_n hx hb dX3_tryPassing_50 rfl (lv_at hl 0 rfl) ?_
  refine va_get (D := D) (ci := 3) (v := .ref (qa 0 2)) (C := RX3) (T := TX3) (N := 7) hx hb hts hin3 hown hK hP 0 rfl rfl 3 (by decide) (hta _ aw_123) (fun _ h9 => h9) rfl dX3_tryPassing_51 ?_
  refine lv_iconst (v := 2) hx hb dX3_tryPassing_54 (by decide) ?_
  refine lv_aload_n hx hb dX3_tryPassing_55 rfl (lv_at hl 0 rfl) ?_
  refine va_get (D := D) (ci := 3) (v := .ref (qa 2 0)) (C := RX3) (T := TX3) (N := 7) hx hb hts hin3 hown hK hP 0 rfl rfl 1 (by decide) (hta _ aw_121) (fun _ h9 => h9) rfl dX3_tryPassing_56 ?_
  obtain ⟨r3, hr3, h⟩ := pq_b h
  refine pw_fi (ws0 := W3 cy qa P r2.2 S nw hz ak (upd (upd pa (0 : Int32).toNatClampNeg r2.1) (1 : Int32).toNatClampNeg (((r2.2 15) (1 : Int32).toNatClampNeg) - ((P 15) (1 : Int32).toNatClampNeg))) wt cd ln) (ws1 := W3 cy qa P r2.2 S nw hz ak (upd (upd pa (0 : Int32).toNatClampNeg r2.1) (1 : Int32).toNatClampNeg (((r2.2 15) (1 : Int32).toNatClampNeg) - ((P 15) (1 : Int32).toNatClampNeg))) wt cd ln) (wc := WP cy (qa 2) r2.2) (w1 := WP cy (qa 2) r2.2) (rest := [.int 2, .ref (qa 0 2)]) (As := []) hF (kX2_connections l D cy (qa 2) _ r2.2  r3 hr3) (cwV 0 hts (pw_gV (own := RX3) (idx := 282) (C := RX2) (y := yX2_connections) aw_530 aw_298 aw_299 aw_2 aw_300) rfl rfl rfl pX2_connections ⟨Nat.le_of_ble_eq_true rfl, Nat.le_of_ble_eq_true rfl⟩) 2 (RX2, TX2, 16) rfl rfl ⟨0, _, rfl⟩ hK hP hD hS hA (pw_s2 _ _ _ _) (pw_s2 _ _ _ _) rfl rfl hl.1 rfl (Nat.le_of_ble_eq_true rfl) dX3_tryPassing_59 ⟨Nat.zero_le _, Nat.zero_le _⟩ (fun H locs hP hD hS => ?_)
  refine va_iast hx hb hK hP hD hS 2 0 rfl rfl (pq_vp (by decide +kernel)) dX3_tryPassing_62 (fun H locs hP hD hS => ?_)
  have hP : va_P D vwCl (W3 cy qa P r2.2 S nw hz ak (upd (upd (upd pa (0 : Int32).toNatClampNeg r2.1) (1 : Int32).toNatClampNeg (((r2.2 15) (1 : Int32).toNatClampNeg) - ((P 15) (1 : Int32).toNatClampNeg))) (2 : Int32).toNatClampNeg r3) wt cd ln) H := hP
  have hD : va_D A (W3 cy qa P r2.2 S nw hz ak (upd (upd (upd pa (0 : Int32).toNatClampNeg r2.1) (1 : Int32).toNatClampNeg (((r2.2 15) (1 : Int32).toNatClampNeg) - ((P 15) (1 : Int32).toNatClampNeg))) (2 : Int32).toNatClampNeg r3) wt cd ln) := hD
  refine lv_aload_n hx hb dX3_tryPassing_63 rfl (lv_at hl 0 rfl) ?_
  refine va_get (D := D) (ci := 3) (v := .ref (qa 0 2)) (C := RX3) (T := TX3) (N := 7) hx hb hts hin3 hown hK hP 0 rfl rfl 3 (by decide) (hta _ aw_123) (fun _ h9 => h9) rfl dX3_tryPassing_64 ?_
  refine lv_iconst (v := 3) hx hb dX3_tryPassing_67 (by decide) ?_
  refine lv_aload_n hx hb dX3_tryPassing_68 rfl (lv_at hl 0 rfl) ?_
  refine va_get (D := D) (ci := 3) (v := .ref (qa 2 0)) (C := RX3) (T := TX3) (N := 7) hx hb hts hin3 hown hK hP 0 rfl rfl 1 (by decide) (hta _ aw_121) (fun _ h9 => h9) rfl dX3_tryPassing_69 ?_
  refine va_get (D := D) (ci := 2) (v := .int (r2.2 14 0)) (C := RX2) (T := TX2) (N := 16) hx hb hts hin2 hown hK hP 6 rfl rfl 14 (by decide) (hta _ aw_50) (fun _ h9 => h9) rfl dX3_tryPassing_72 ?_
  refine va_iast hx hb hK hP hD hS 2 0 rfl rfl (pq_vp (by decide +kernel)) dX3_tryPassing_75 (fun H locs hP hD hS => ?_)
  have hP : va_P D vwCl (W3 cy qa P r2.2 S nw hz ak (upd (upd (upd (upd pa (0 : Int32).toNatClampNeg r2.1) (1 : Int32).toNatClampNeg (((r2.2 15) (1 : Int32).toNatClampNeg) - ((P 15) (1 : Int32).toNatClampNeg))) (2 : Int32).toNatClampNeg r3) (3 : Int32).toNatClampNeg (r2.2 14 0)) wt cd ln) H := hP
  have hD : va_D A (W3 cy qa P r2.2 S nw hz ak (upd (upd (upd (upd pa (0 : Int32).toNatClampNeg r2.1) (1 : Int32).toNatClampNeg (((r2.2 15) (1 : Int32).toNatClampNeg) - ((P 15) (1 : Int32).toNatClampNeg))) (2 : Int32).toNatClampNeg r3) (3 : Int32).toNatClampNeg (r2.2 14 0)) wt cd ln) := hD
  obtain rfl := Option.some.inj h
  subst hQ
  exact pw_rv hx hb hr hlk hAe hP hS dX3_tryPassing_76

def aX3_ifPassed : List Cond := Cond.code yX3_ifPassed cX3_ifPassed 3 (some .int) :: pw_all
theorem pX3_ifPassed : yX3_ifPassed.cls = RX3 ∧ yX3_ifPassed.cls ≠ "java/lang/invoke/MethodHandle" ∧ yX3_ifPassed.cls ≠ "java/lang/invoke/VarHandle" ∧ (parseMethodDescriptor yX3_ifPassed.desc).map (fun d => d.parameters.length) = some 2 := by decide +kernel
set_option maxHeartbeats 8000000 in
set_option maxRecDepth 100000 in
theorem kX3_ifPassed (l : Launch) (D : va_G) (cy : Nat → ClassId) (qa : Nat → Nat → Nat) (sz : Nat) (P : Nat → Nat → Int32) (T : Nat → Nat → Int32) (S : Nat → Nat → Nat → Int32) (nw : Int32) (hz : Int32) (ak : Nat → Int32) (pa : Nat → Int32) (wt : Nat → Int32) (cd : Nat → Int32) (ln : Int32) (x1 : Int32) (x2 : Int32) (o : Int32 × (Nat → Nat → Int32) × (Nat → Int32)) (h : fX3_ifPassed x1 x2 P T pa = some (Sum.inr o)) : Met l yX3_ifPassed aX3_ifPassed ({ frames := 6, cells := 0, slots := 0, locals := 137 }) (pw_Pre D cy [.ref (qa 0 0), .int x1, .int x2] (W3 cy qa P T S nw hz ak pa wt cd ln) sz) (pw_I D o.1 (W3 cy qa P T S nw hz ak pa wt cd ln) (W3 cy qa P o.2.1 S nw hz ak o.2.2 wt cd ln) sz) 0 0 (va_A (W3 cy qa P T S nw hz ak pa wt cd ln) sz) := by
  refine pw_met (cc := cX3_ifPassed) (maxL := 3) (ret := (some .int)) (by decide) rfl (Nat.le_of_ble_eq_true rfl) ?_
  intro p e s m args below meth c ls A hx hb hr hml hlk hts hown hAe hA hK hP hD hS hl
  have hl : lv_has ls 3 [(0, .ref (qa 0 0)), (1, .int x1), (2, .int x2)] := hl
  generalize hQ : MQ below (pw_I D o.1 (W3 cy qa P T S nw hz ak pa wt cd ln) (W3 cy qa P o.2.1 S nw hz ak o.2.2 wt cd ln) sz) args s 0 0 (va_A (W3 cy qa P T S nw hz ak pa wt cd ln) sz) = Q
  have hF : CallFix p m c cX3_ifPassed 3 s args aX3_ifPassed RX3 := ⟨hx, hb, hml, hown, hts⟩
  have hta : ∀ w ∈ pw_all, w.before args s = true := fun w h => hts w (List.mem_cons_of_mem _ h)
  have hin3 : ∀ w ∈ wsX30, w ∈ aX3_ifPassed := fun w h => List.mem_cons_of_mem _ (inA3 w h)
  have hin2 : ∀ w ∈ wsX20, w ∈ aX3_ifPassed := fun w h => List.mem_cons_of_mem _ (inA2 w h)
  have hin1 : ∀ w ∈ wsX10, w ∈ aX3_ifPassed := fun w h => List.mem_cons_of_mem _ (inA1 w h)
  have hin0 : ∀ w ∈ wsX00, w ∈ aX3_ifPassed := fun w h => List.mem_cons_of_mem _ (inA0 w h)
  unfold fX3_ifPassed at h
  refine lv_iload_n hx hb dX3_ifPassed_0 rfl (lv_at hl 1 rfl) ?_
  refine lv_if_lt (tgt := 11) hx hb dX3_ifPassed_1 (by decide) (fun c1_ => ?_) (fun c1_ => ?_)
  · have h := pq_t c1_ h
    exact nomatch h
  · have h := pq_e c1_ h
    refine lv_iload_n hx hb dX3_ifPassed_4 rfl (lv_at hl 1 rfl) ?_
    refine lv_sipush (v := 200) hx hb dX3_ifPassed_5 (by decide) ?_
    refine lv_icmp_le (tgt := 21) hx hb dX3_ifPassed_8 (by decide) (fun c2_ => ?_) (fun c2_ => ?_)
    · have h := pq_t c2_ h
      refine lv_iload_n hx hb dX3_ifPassed_21 rfl (lv_at hl 2 rfl) ?_
      refine lv_iconst (v := 4) hx hb dX3_ifPassed_22 (by decide) ?_
      obtain ⟨r1, hr1, h⟩ := pq_b h
      obtain ⟨a2, rfl, h⟩ := pq_inr h
      refine pw_sv (rest := []) (As := [.int x2, .int 4]) hF (kX3_requireKind l D cy _ x2 4 a2 hr1) (cwS 2 hts (pw_gS (own := RX3) (idx := 193) (y := yX3_requireKind) aw_398 aw_399 aw_1 aw_400) rfl rfl rfl pX3_requireKind ⟨Nat.le_of_ble_eq_true rfl, Nat.le_of_ble_eq_true rfl⟩) hK hP hS hA rfl hl.1 rfl (Nat.le_of_ble_eq_true rfl) dX3_ifPassed_23 ⟨Nat.zero_le _, Nat.zero_le _⟩ (fun H locs hP hS => ?_)
      refine lv_aload_n hx hb dX3_ifPassed_26 rfl (lv_at hl 0 rfl) ?_
      refine lv_iload_n hx hb dX3_ifPassed_27 rfl (lv_at hl 1 rfl) ?_
      obtain ⟨r3, hr3, h⟩ := pq_b h
      refine pw_cv (w1 := W3 cy qa P r3.1 S nw hz ak r3.2 wt cd ln) (rest := []) (As := [.int x1]) hF (kX3_tryPassing l D cy qa _ P T S nw hz ak pa wt cd ln x1 r3 hr3) (cwV 1 hts (pw_gV (own := RX3) (idx := 214) (C := RX3) (y := yX3_tryPassing) aw_509 aw_511 aw_s11 aw_1 aw_512) rfl rfl rfl pX3_tryPassing ⟨Nat.le_of_ble_eq_true rfl, Nat.le_of_ble_eq_true rfl⟩) (va_recv hK hP (ci := 3) (q0 := 0) rfl rfl) hK hP hD hS hA rfl rfl hl.1 rfl (Nat.le_of_ble_eq_true rfl) dX3_ifPassed_28 ⟨Nat.zero_le _, Nat.zero_le _⟩ (fun H locs hP hD hS => ?_)
      refine lv_aload_n hx hb dX3_ifPassed_31 rfl (lv_at hl 0 rfl) ?_
      refine va_get (D := D) (ci := 3) (v := .ref (qa 0 2)) (C := RX3) (T := TX3) (N := 7) hx hb hts hin3 hown hK hP 0 rfl rfl 3 (by decide) (hta _ aw_123) (fun _ h9 => h9) rfl dX3_ifPassed_32 ?_
      refine lv_iload_n hx hb dX3_ifPassed_35 rfl (lv_at hl 2 rfl) ?_
      obtain ⟨hg, h⟩ := pq_g h
      refine va_iald hx hb hK hP 2 0 rfl rfl (pq_vp hg) dX3_ifPassed_36 ?_
      obtain rfl := Sum.inr.inj (Option.some.inj h)
      subst hQ
      exact pw_ri hx hb hr hlk hAe hP hS rfl dX3_ifPassed_37
    · have h := pq_e c2_ h
      exact nomatch h

def aX3_tryWaiting : List Cond := Cond.code yX3_tryWaiting cX3_tryWaiting 3 none :: pw_all
theorem pX3_tryWaiting : yX3_tryWaiting.cls = RX3 ∧ yX3_tryWaiting.cls ≠ "java/lang/invoke/MethodHandle" ∧ yX3_tryWaiting.cls ≠ "java/lang/invoke/VarHandle" ∧ (parseMethodDescriptor yX3_tryWaiting.desc).map (fun d => d.parameters.length) = some 0 := by decide +kernel
set_option maxHeartbeats 8000000 in
set_option maxRecDepth 100000 in
theorem kX3_tryWaiting (l : Launch) (D : va_G) (cy : Nat → ClassId) (qa : Nat → Nat → Nat) (sz : Nat) (P : Nat → Nat → Int32) (T : Nat → Nat → Int32) (S : Nat → Nat → Nat → Int32) (nw : Int32) (hz : Int32) (ak : Nat → Int32) (pa : Nat → Int32) (wt : Nat → Int32) (cd : Nat → Int32) (ln : Int32)  (o : (Nat → Nat → Int32) × (Nat → Int32)) (h : fX3_tryWaiting P T wt = some o) : Met l yX3_tryWaiting aX3_tryWaiting ({ frames := 5, cells := 0, slots := 0, locals := 116 }) (pw_Pre D cy [.ref (qa 0 0)] (W3 cy qa P T S nw hz ak pa wt cd ln) sz) (pw_V D (W3 cy qa P T S nw hz ak pa wt cd ln) (W3 cy qa P o.1 S nw hz ak pa o.2 cd ln) sz) 0 0 (va_A (W3 cy qa P T S nw hz ak pa wt cd ln) sz) := by
  refine pw_met (cc := cX3_tryWaiting) (maxL := 3) (ret := none) (by decide) rfl (Nat.le_of_ble_eq_true rfl) ?_
  intro p e s m args below meth c ls A hx hb hr hml hlk hts hown hAe hA hK hP hD hS hl
  have hl : lv_has ls 3 [(0, .ref (qa 0 0))] := hl
  generalize hQ : MQ below (pw_V D (W3 cy qa P T S nw hz ak pa wt cd ln) (W3 cy qa P o.1 S nw hz ak pa o.2 cd ln) sz) args s 0 0 (va_A (W3 cy qa P T S nw hz ak pa wt cd ln) sz) = Q
  have hF : CallFix p m c cX3_tryWaiting 3 s args aX3_tryWaiting RX3 := ⟨hx, hb, hml, hown, hts⟩
  have hta : ∀ w ∈ pw_all, w.before args s = true := fun w h => hts w (List.mem_cons_of_mem _ h)
  have hin3 : ∀ w ∈ wsX30, w ∈ aX3_tryWaiting := fun w h => List.mem_cons_of_mem _ (inA3 w h)
  have hin2 : ∀ w ∈ wsX20, w ∈ aX3_tryWaiting := fun w h => List.mem_cons_of_mem _ (inA2 w h)
  have hin1 : ∀ w ∈ wsX10, w ∈ aX3_tryWaiting := fun w h => List.mem_cons_of_mem _ (inA1 w h)
  have hin0 : ∀ w ∈ wsX00, w ∈ aX3_tryWaiting := fun w h => List.mem_cons_of_mem _ (inA0 w h)
  unfold fX3_tryWaiting at h
  refine lv_iconst (v := 0) hx hb dX3_tryWaiting_0 (by decide) ?_
  refine lv_istore_n (lv' := [(1, .int 0), (0, .ref (qa 0 0))]) hx hb dX3_tryWaiting_1 rfl hl (by decide) rfl (fun ls hl => ?_)
  obtain ⟨v2, hv2, h⟩ := pq_b h
  have X21_v2 : ∀ (H : Heap) (locs : List Loc) (ls : Array Slot), va_P D vwCl (W3 cy qa P T S nw hz ak pa v2 cd ln) H → va_D A (W3 cy qa P T S nw hz ak pa v2 cd ln) → va_S A s.heap H locs → lv_has ls 3 [(0, .ref (qa 0 0))] → W p l e ({ frames := 5, cells := 0, slots := 0, locals := 116 } : Room) s m args below meth c H locs 0 0 Q (F0 m 21 ls []) := by
    intro H locs ls hP hD hS hl
    refine lv_aload_n hx hb dX3_tryWaiting_21 rfl (lv_at hl 0 rfl) ?_
    refine va_get (D := D) (ci := 3) (v := .ref (qa 2 0)) (C := RX3) (T := TX3) (N := 7) hx hb hts hin3 hown hK hP 0 rfl rfl 1 (by decide) (hta _ aw_121) (fun _ h9 => h9) rfl dX3_tryWaiting_22 ?_
    refine lv_aload_n hx hb dX3_tryWaiting_25 rfl (lv_at hl 0 rfl) ?_
    refine va_get (D := D) (ci := 3) (v := .ref (qa 1 0)) (C := RX3) (T := TX3) (N := 7) hx hb hts hin3 hown hK hP 0 rfl rfl 0 (by decide) (hta _ aw_120) (fun _ h9 => h9) rfl dX3_tryWaiting_26 ?_
    obtain ⟨r3, hr3, h⟩ := pq_b h
    refine pw_fv (ws0 := W3 cy qa P T S nw hz ak pa v2 cd ln) (ws1 := W3 cy qa P r3 S nw hz ak pa v2 cd ln) (wc := WP cy (qa 2) T ++ WP cy (qa 1) P) (w1 := WP cy (qa 2) r3 ++ WP cy (qa 1) P) (rest := []) (As := [.ref (qa 1 0)]) hF (kX2_copyFrom l D cy (qa 2) (qa 1) _ T P r3 hr3) (cwV 1 hts (pw_gV (own := RX3) (idx := 273) (C := RX2) (y := yX2_copyFrom) aw_474 aw_242 aw_243 aw_2 aw_244) rfl rfl rfl pX2_copyFrom ⟨Nat.le_of_ble_eq_true rfl, Nat.le_of_ble_eq_true rfl⟩) 2 (RX2, TX2, 16) rfl rfl ⟨0, _, rfl⟩ hK hP hD hS hA (pw_s23 _ _ _ _ _) (pw_s23 _ _ _ _ _) rfl rfl hl.1 rfl (Nat.le_of_ble_eq_true rfl) dX3_tryWaiting_29 ⟨Nat.zero_le _, Nat.zero_le _⟩ (fun H locs hP hD hS => ?_)
    refine lv_iconst (v := 1) hx hb dX3_tryWaiting_32 (by decide) ?_
    refine lv_istore_n (lv' := [(1, .int 1), (0, .ref (qa 0 0))]) hx hb dX3_tryWaiting_33 rfl hl (by decide) rfl (fun ls hl => ?_)
    have L34_n4 : ∀ (n : Nat) (x1_34 : Int32) (T_34 : Nat → Nat → Int32) (wt_34 : Nat → Int32) (H : Heap) (locs : List Loc) (ls : Array Slot), fX3_tryWaiting_L34 P n x1_34 T_34 wt_34 = some o → va_P D vwCl (W3 cy qa P T_34 S nw hz ak pa wt_34 cd ln) H → va_D A (W3 cy qa P T_34 S nw hz ak pa wt_34 cd ln) → va_S A s.heap H locs → lv_has ls 3 [(0, .ref (qa 0 0)), (1, .int x1_34)] → W p l e ({ frames := 5, cells := 0, slots := 0, locals := 116 } : Room) s m args below meth c H locs 0 0 Q (F0 m 34 ls []) := by
      intro n
      induction n with
      | zero =>
        intro x1_34 T_34 wt_34 H locs ls h hP hD hS hl
        exact pq_n h
      | succ n ih34 =>
        intro x1_34 T_34 wt_34 H locs ls h hP hD hS hl
        rw [fX3_tryWaiting_L34] at h
        refine lv_iload_n hx hb dX3_tryWaiting_34 rfl (lv_at hl 1 rfl) ?_
        refine lv_bipush (v := 99) hx hb dX3_tryWaiting_35 (by decide) ?_
        refine lv_icmp_gt (tgt := 117) hx hb dX3_tryWaiting_37 (by decide) (fun c2_ => ?_) (fun c2_ => ?_)
        · have h := pq_t c2_ h
          obtain rfl := Option.some.inj h
          subst hQ
          exact pw_rv hx hb hr hlk hAe hP hS dX3_tryWaiting_117
        · have h := pq_e c2_ h
          refine lv_aload_n hx hb dX3_tryWaiting_40 rfl (lv_at hl 0 rfl) ?_
          refine va_get (D := D) (ci := 3) (v := .ref (qa 2 0)) (C := RX3) (T := TX3) (N := 7) hx hb hts hin3 hown hK hP 0 rfl rfl 1 (by decide) (hta _ aw_121) (fun _ h9 => h9) rfl dX3_tryWaiting_41 ?_
          refine va_get (D := D) (ci := 2) (v := .int (T_34 14 0)) (C := RX2) (T := TX2) (N := 16) hx hb hts hin2 hown hK hP 6 rfl rfl 14 (by decide) (hta _ aw_50) (fun _ h9 => h9) rfl dX3_tryWaiting_44 ?_
          refine lv_if_le (tgt := 117) hx hb dX3_tryWaiting_47 (by decide) (fun c3_ => ?_) (fun c3_ => ?_)
          · have h := pq_t c3_ h
            obtain rfl := Option.some.inj h
            subst hQ
            exact pw_rv hx hb hr hlk hAe hP hS dX3_tryWaiting_117
          · have h := pq_e c3_ h
            refine lv_aload_n hx hb dX3_tryWaiting_50 rfl (lv_at hl 0 rfl) ?_
            refine va_get (D := D) (ci := 3) (v := .ref (qa 2 0)) (C := RX3) (T := TX3) (N := 7) hx hb hts hin3 hown hK hP 0 rfl rfl 1 (by decide) (hta _ aw_121) (fun _ h9 => h9) rfl dX3_tryWaiting_51 ?_
            refine lv_iconst (v := 1) hx hb dX3_tryWaiting_54 (by decide) ?_
            obtain ⟨r5, hr5, h⟩ := pq_b h
            refine pw_fi (ws0 := W3 cy qa P T_34 S nw hz ak pa wt_34 cd ln) (ws1 := W3 cy qa P r5.2 S nw hz ak pa wt_34 cd ln) (wc := WP cy (qa 2) T_34) (w1 := WP cy (qa 2) r5.2) (rest := []) (As := [.int 1]) hF (kX2_passUnits l D cy (qa 2) _ T_34 1 r5 hr5) (cwV 1 hts (pw_gV (own := RX3) (idx := 146) (C := RX2) (y := yX2_passUnits) aw_513 aw_514 aw_515 aw_2 aw_516) rfl rfl rfl pX2_passUnits ⟨Nat.le_of_ble_eq_true rfl, Nat.le_of_ble_eq_true rfl⟩) 2 (RX2, TX2, 16) rfl rfl ⟨0, _, rfl⟩ hK hP hD hS hA (pw_s2 _ _ _ _) (pw_s2 _ _ _ _) rfl rfl hl.1 rfl (Nat.le_of_ble_eq_true rfl) dX3_tryWaiting_55 ⟨Nat.zero_le _, Nat.zero_le _⟩ (fun H locs hP hD hS => ?_)
            refine lv_pop hx hb dX3_tryWaiting_58 rfl ?_
            refine lv_iconst (v := 0) hx hb dX3_tryWaiting_59 (by decide) ?_
            refine lv_istore_n (lv' := [(2, .int 0), (0, .ref (qa 0 0)), (1, .int x1_34)]) hx hb dX3_tryWaiting_60 rfl hl (by decide) rfl (fun ls hl => ?_)
            obtain ⟨v7, hv7, h⟩ := pq_b h
            have X111_v7 : ∀ (H : Heap) (locs : List Loc) (ls : Array Slot), va_P D vwCl (W3 cy qa P r5.2 S nw hz ak pa v7 cd ln) H → va_D A (W3 cy qa P r5.2 S nw hz ak pa v7 cd ln) → va_S A s.heap H locs → lv_has ls 3 [(0, .ref (qa 0 0)), (1, .int x1_34)] → W p l e ({ frames := 5, cells := 0, slots := 0, locals := 116 } : Room) s m args below meth c H locs 0 0 Q (F0 m 111 ls []) := by
              intro H locs ls hP hD hS hl
              refine lv_iinc (v := x1_34 + 1) (lv' := [(1, .int (x1_34 + 1)), (0, .ref (qa 0 0))]) hx hb dX3_tryWaiting_111 hl (k := 1) rfl (by first | rfl | decide) (by decide) rfl (fun ls hl => ?_)
              refine lv_goto (tgt := 34) hx hb dX3_tryWaiting_114 (by decide) ?_
              exact ih34 (x1_34 + 1) r5.2 v7 _ _ _ h hP hD hS (lv_sub hl [1, 0] rfl)
            clear h
            have L61_n6 : ∀ (n : Nat) (x2_61 : Int32) (wt_61 : Nat → Int32) (H : Heap) (locs : List Loc) (ls : Array Slot), fX3_tryWaiting_L61 P x1_34 r5 n x2_61 wt_61 = some v7 → va_P D vwCl (W3 cy qa P r5.2 S nw hz ak pa wt_61 cd ln) H → va_D A (W3 cy qa P r5.2 S nw hz ak pa wt_61 cd ln) → va_S A s.heap H locs → lv_has ls 3 [(0, .ref (qa 0 0)), (1, .int x1_34), (2, .int x2_61)] → W p l e ({ frames := 5, cells := 0, slots := 0, locals := 116 } : Room) s m args below meth c H locs 0 0 Q (F0 m 61 ls []) := by
              intro n
              induction n with
              | zero =>
                intro x2_61 wt_61 H locs ls h hP hD hS hl
                exact pq_n h
              | succ n ih61 =>
                intro x2_61 wt_61 H locs ls h hP hD hS hl
                rw [fX3_tryWaiting_L61] at h
                refine lv_iload_n hx hb dX3_tryWaiting_61 rfl (lv_at hl 2 rfl) ?_
                refine lv_bipush (v := 8) hx hb dX3_tryWaiting_62 (by decide) ?_
                refine lv_icmp_ge (tgt := 111) hx hb dX3_tryWaiting_64 (by decide) (fun c4_ => ?_) (fun c4_ => ?_)
                · have h := pq_t c4_ h
                  obtain rfl := Option.some.inj h
                  exact X111_v7 _ _ _ hP hD hS (lv_sub hl [0, 1] rfl)
                · have h := pq_e c4_ h
                  refine lv_aload_n hx hb dX3_tryWaiting_67 rfl (lv_at hl 0 rfl) ?_
                  refine va_get (D := D) (ci := 3) (v := .ref (qa 0 3)) (C := RX3) (T := TX3) (N := 7) hx hb hts hin3 hown hK hP 0 rfl rfl 4 (by decide) (hta _ aw_124) (fun _ h9 => h9) rfl dX3_tryWaiting_68 ?_
                  refine lv_iload_n hx hb dX3_tryWaiting_71 rfl (lv_at hl 2 rfl) ?_
                  obtain ⟨hg, h⟩ := pq_g h
                  refine va_iald hx hb hK hP 3 0 rfl rfl (pq_vp hg) dX3_tryWaiting_72 ?_
                  refine lv_iconst (v := (-1)) hx hb dX3_tryWaiting_73 (by decide) ?_
                  refine lv_icmp_ne (tgt := 105) hx hb dX3_tryWaiting_74 (by decide) (fun c5_ => ?_) (fun c5_ => ?_)
                  · have h := pq_e c5_ h
                    refine lv_iinc (v := x2_61 + 1) (lv' := [(2, .int (x2_61 + 1)), (0, .ref (qa 0 0)), (1, .int x1_34)]) hx hb dX3_tryWaiting_105 hl (k := 2) rfl (by first | rfl | decide) (by decide) rfl (fun ls hl => ?_)
                    refine lv_goto (tgt := 61) hx hb dX3_tryWaiting_108 (by decide) ?_
                    exact ih61 (x2_61 + 1) wt_61 _ _ _ h hP hD hS (lv_sub hl [1, 2, 0] rfl)
                  · have h := pq_t c5_ h
                    refine lv_aload_n hx hb dX3_tryWaiting_77 rfl (lv_at hl 0 rfl) ?_
                    refine va_get (D := D) (ci := 3) (v := .ref (qa 2 0)) (C := RX3) (T := TX3) (N := 7) hx hb hts hin3 hown hK hP 0 rfl rfl 1 (by decide) (hta _ aw_121) (fun _ h9 => h9) rfl dX3_tryWaiting_78 ?_
                    refine va_get (D := D) (ci := 2) (v := .ref (qa 2 9)) (C := RX2) (T := TX2) (N := 16) hx hb hts hin2 hown hK hP 6 rfl rfl 9 (by decide) (hta _ aw_44) (fun _ h9 => h9) rfl dX3_tryWaiting_81 ?_
                    refine lv_iload_n hx hb dX3_tryWaiting_84 rfl (lv_at hl 2 rfl) ?_
                    obtain ⟨hg, h⟩ := pq_g h
                    refine va_iald hx hb hK hP 15 0 rfl rfl (pq_vp hg) dX3_tryWaiting_85 ?_
                    refine lv_aload_n hx hb dX3_tryWaiting_86 rfl (lv_at hl 0 rfl) ?_
                    refine va_get (D := D) (ci := 3) (v := .ref (qa 1 0)) (C := RX3) (T := TX3) (N := 7) hx hb hts hin3 hown hK hP 0 rfl rfl 0 (by decide) (hta _ aw_120) (fun _ h9 => h9) rfl dX3_tryWaiting_87 ?_
                    refine va_get (D := D) (ci := 2) (v := .ref (qa 1 9)) (C := RX2) (T := TX2) (N := 16) hx hb hts hin2 hown hK hP 21 rfl rfl 9 (by decide) (hta _ aw_44) (fun _ h9 => h9) rfl dX3_tryWaiting_90 ?_
                    refine lv_iload_n hx hb dX3_tryWaiting_93 rfl (lv_at hl 2 rfl) ?_
                    obtain ⟨hg, h⟩ := pq_g h
                    refine va_iald hx hb hK hP 30 0 rfl rfl (pq_vp hg) dX3_tryWaiting_94 ?_
                    refine lv_icmp_le (tgt := 105) hx hb dX3_tryWaiting_95 (by decide) (fun c6_ => ?_) (fun c6_ => ?_)
                    · have h := pq_t c6_ h
                      refine lv_iinc (v := x2_61 + 1) (lv' := [(2, .int (x2_61 + 1)), (0, .ref (qa 0 0)), (1, .int x1_34)]) hx hb dX3_tryWaiting_105 hl (k := 2) rfl (by first | rfl | decide) (by decide) rfl (fun ls hl => ?_)
                      refine lv_goto (tgt := 61) hx hb dX3_tryWaiting_108 (by decide) ?_
                      exact ih61 (x2_61 + 1) wt_61 _ _ _ h hP hD hS (lv_sub hl [1, 2, 0] rfl)
                    · have h := pq_e c6_ h
                      refine lv_aload_n hx hb dX3_tryWaiting_98 rfl (lv_at hl 0 rfl) ?_
                      refine va_get (D := D) (ci := 3) (v := .ref (qa 0 3)) (C := RX3) (T := TX3) (N := 7) hx hb hts hin3 hown hK hP 0 rfl rfl 4 (by decide) (hta _ aw_124) (fun _ h9 => h9) rfl dX3_tryWaiting_99 ?_
                      refine lv_iload_n hx hb dX3_tryWaiting_102 rfl (lv_at hl 2 rfl) ?_
                      refine lv_iload_n hx hb dX3_tryWaiting_103 rfl (lv_at hl 1 rfl) ?_
                      obtain ⟨hg, h⟩ := pq_g h
                      refine va_iast hx hb hK hP hD hS 3 0 rfl rfl (pq_vp hg) dX3_tryWaiting_104 (fun H locs hP hD hS => ?_)
                      have hP : va_P D vwCl (W3 cy qa P r5.2 S nw hz ak pa (upd wt_61 x2_61.toNatClampNeg x1_34) cd ln) H := hP
                      have hD : va_D A (W3 cy qa P r5.2 S nw hz ak pa (upd wt_61 x2_61.toNatClampNeg x1_34) cd ln) := hD
                      refine lv_iinc (v := x2_61 + 1) (lv' := [(2, .int (x2_61 + 1)), (0, .ref (qa 0 0)), (1, .int x1_34)]) hx hb dX3_tryWaiting_105 hl (k := 2) rfl (by first | rfl | decide) (by decide) rfl (fun ls hl => ?_)
                      refine lv_goto (tgt := 61) hx hb dX3_tryWaiting_108 (by decide) ?_
                      exact ih61 (x2_61 + 1) (upd wt_61 x2_61.toNatClampNeg x1_34) _ _ _ h hP hD hS (lv_sub hl [1, 2, 0] rfl)
            have h := hv7
            exact L61_n6 1000 0 wt_34 _ _ _ h hP hD hS (lv_sub hl [1, 2, 0] rfl)
    exact L34_n4 1000 1 r3 v2 _ _ _ h hP hD hS (lv_sub hl [1, 0] rfl)
  clear h
  have L2_n1 : ∀ (n : Nat) (x1_2 : Int32) (wt_2 : Nat → Int32) (H : Heap) (locs : List Loc) (ls : Array Slot), fX3_tryWaiting_L2  n x1_2 wt_2 = some v2 → va_P D vwCl (W3 cy qa P T S nw hz ak pa wt_2 cd ln) H → va_D A (W3 cy qa P T S nw hz ak pa wt_2 cd ln) → va_S A s.heap H locs → lv_has ls 3 [(0, .ref (qa 0 0)), (1, .int x1_2)] → W p l e ({ frames := 5, cells := 0, slots := 0, locals := 116 } : Room) s m args below meth c H locs 0 0 Q (F0 m 2 ls []) := by
    intro n
    induction n with
    | zero =>
      intro x1_2 wt_2 H locs ls h hP hD hS hl
      exact pq_n h
    | succ n ih2 =>
      intro x1_2 wt_2 H locs ls h hP hD hS hl
      rw [fX3_tryWaiting_L2] at h
      refine lv_iload_n hx hb dX3_tryWaiting_2 rfl (lv_at hl 1 rfl) ?_
      refine lv_bipush (v := 8) hx hb dX3_tryWaiting_3 (by decide) ?_
      refine lv_icmp_ge (tgt := 21) hx hb dX3_tryWaiting_5 (by decide) (fun c1_ => ?_) (fun c1_ => ?_)
      · have h := pq_t c1_ h
        obtain rfl := Option.some.inj h
        exact X21_v2 _ _ _ hP hD hS (lv_sub hl [0] rfl)
      · have h := pq_e c1_ h
        refine lv_aload_n hx hb dX3_tryWaiting_8 rfl (lv_at hl 0 rfl) ?_
        refine va_get (D := D) (ci := 3) (v := .ref (qa 0 3)) (C := RX3) (T := TX3) (N := 7) hx hb hts hin3 hown hK hP 0 rfl rfl 4 (by decide) (hta _ aw_124) (fun _ h9 => h9) rfl dX3_tryWaiting_9 ?_
        refine lv_iload_n hx hb dX3_tryWaiting_12 rfl (lv_at hl 1 rfl) ?_
        refine lv_iconst (v := (-1)) hx hb dX3_tryWaiting_13 (by decide) ?_
        obtain ⟨hg, h⟩ := pq_g h
        refine va_iast hx hb hK hP hD hS 3 0 rfl rfl (pq_vp hg) dX3_tryWaiting_14 (fun H locs hP hD hS => ?_)
        have hP : va_P D vwCl (W3 cy qa P T S nw hz ak pa (upd wt_2 x1_2.toNatClampNeg (-1)) cd ln) H := hP
        have hD : va_D A (W3 cy qa P T S nw hz ak pa (upd wt_2 x1_2.toNatClampNeg (-1)) cd ln) := hD
        refine lv_iinc (v := x1_2 + 1) (lv' := [(1, .int (x1_2 + 1)), (0, .ref (qa 0 0))]) hx hb dX3_tryWaiting_15 hl (k := 1) rfl (by first | rfl | decide) (by decide) rfl (fun ls hl => ?_)
        refine lv_goto (tgt := 2) hx hb dX3_tryWaiting_18 (by decide) ?_
        exact ih2 (x1_2 + 1) (upd wt_2 x1_2.toNatClampNeg (-1)) _ _ _ h hP hD hS (lv_sub hl [1, 0] rfl)
  have h := hv2
  exact L2_n1 1000 0 wt _ _ _ h hP hD hS (lv_sub hl [1, 0] rfl)

def aX3_waitsFor : List Cond := Cond.code yX3_waitsFor cX3_waitsFor 2 (some .int) :: pw_all
theorem pX3_waitsFor : yX3_waitsFor.cls = RX3 ∧ yX3_waitsFor.cls ≠ "java/lang/invoke/MethodHandle" ∧ yX3_waitsFor.cls ≠ "java/lang/invoke/VarHandle" ∧ (parseMethodDescriptor yX3_waitsFor.desc).map (fun d => d.parameters.length) = some 1 := by decide +kernel
set_option maxHeartbeats 8000000 in
set_option maxRecDepth 100000 in
theorem kX3_waitsFor (l : Launch) (D : va_G) (cy : Nat → ClassId) (qa : Nat → Nat → Nat) (sz : Nat) (P : Nat → Nat → Int32) (T : Nat → Nat → Int32) (S : Nat → Nat → Nat → Int32) (nw : Int32) (hz : Int32) (ak : Nat → Int32) (pa : Nat → Int32) (wt : Nat → Int32) (cd : Nat → Int32) (ln : Int32) (x1 : Int32) (o : Int32 × (Nat → Nat → Int32) × (Nat → Int32)) (h : fX3_waitsFor x1 P T wt = some (Sum.inr o)) : Met l yX3_waitsFor aX3_waitsFor ({ frames := 6, cells := 0, slots := 0, locals := 138 }) (pw_Pre D cy [.ref (qa 0 0), .int x1] (W3 cy qa P T S nw hz ak pa wt cd ln) sz) (pw_I D o.1 (W3 cy qa P T S nw hz ak pa wt cd ln) (W3 cy qa P o.2.1 S nw hz ak pa o.2.2 cd ln) sz) 0 0 (va_A (W3 cy qa P T S nw hz ak pa wt cd ln) sz) := by
  refine pw_met (cc := cX3_waitsFor) (maxL := 2) (ret := (some .int)) (by decide) rfl (Nat.le_of_ble_eq_true rfl) ?_
  intro p e s m args below meth c ls A hx hb hr hml hlk hts hown hAe hA hK hP hD hS hl
  have hl : lv_has ls 2 [(0, .ref (qa 0 0)), (1, .int x1)] := hl
  generalize hQ : MQ below (pw_I D o.1 (W3 cy qa P T S nw hz ak pa wt cd ln) (W3 cy qa P o.2.1 S nw hz ak pa o.2.2 cd ln) sz) args s 0 0 (va_A (W3 cy qa P T S nw hz ak pa wt cd ln) sz) = Q
  have hF : CallFix p m c cX3_waitsFor 2 s args aX3_waitsFor RX3 := ⟨hx, hb, hml, hown, hts⟩
  have hta : ∀ w ∈ pw_all, w.before args s = true := fun w h => hts w (List.mem_cons_of_mem _ h)
  have hin3 : ∀ w ∈ wsX30, w ∈ aX3_waitsFor := fun w h => List.mem_cons_of_mem _ (inA3 w h)
  have hin2 : ∀ w ∈ wsX20, w ∈ aX3_waitsFor := fun w h => List.mem_cons_of_mem _ (inA2 w h)
  have hin1 : ∀ w ∈ wsX10, w ∈ aX3_waitsFor := fun w h => List.mem_cons_of_mem _ (inA1 w h)
  have hin0 : ∀ w ∈ wsX00, w ∈ aX3_waitsFor := fun w h => List.mem_cons_of_mem _ (inA0 w h)
  unfold fX3_waitsFor at h
  refine lv_iload_n hx hb dX3_waitsFor_0 rfl (lv_at hl 1 rfl) ?_
  obtain ⟨r1, hr1, h⟩ := pq_b h
  obtain ⟨a2, rfl, h⟩ := pq_inr h
  refine pw_sv (rest := []) (As := [.int x1]) hF (kX3_requireOwner l D cy _ x1 a2 hr1) (cwS 1 hts (pw_gS (own := RX3) (idx := 43) (y := yX3_requireOwner) aw_146 aw_147 aw_1 aw_148) rfl rfl rfl pX3_requireOwner ⟨Nat.le_of_ble_eq_true rfl, Nat.le_of_ble_eq_true rfl⟩) hK hP hS hA rfl hl.1 rfl (Nat.le_of_ble_eq_true rfl) dX3_waitsFor_1 ⟨Nat.zero_le _, Nat.zero_le _⟩ (fun H locs hP hS => ?_)
  refine lv_aload_n hx hb dX3_waitsFor_4 rfl (lv_at hl 0 rfl) ?_
  obtain ⟨r3, hr3, h⟩ := pq_b h
  refine pw_cv (w1 := W3 cy qa P r3.1 S nw hz ak pa r3.2 cd ln) (rest := []) (As := []) hF (kX3_tryWaiting l D cy qa _ P T S nw hz ak pa wt cd ln  r3 hr3) (cwV 0 hts (pw_gV (own := RX3) (idx := 217) (C := RX3) (y := yX3_tryWaiting) aw_535 aw_537 aw_s15 aw_1 aw_538) rfl rfl rfl pX3_tryWaiting ⟨Nat.le_of_ble_eq_true rfl, Nat.le_of_ble_eq_true rfl⟩) (va_recv hK hP (ci := 3) (q0 := 0) rfl rfl) hK hP hD hS hA rfl rfl hl.1 rfl (Nat.le_of_ble_eq_true rfl) dX3_waitsFor_5 ⟨Nat.zero_le _, Nat.zero_le _⟩ (fun H locs hP hD hS => ?_)
  refine lv_aload_n hx hb dX3_waitsFor_8 rfl (lv_at hl 0 rfl) ?_
  refine va_get (D := D) (ci := 3) (v := .ref (qa 0 3)) (C := RX3) (T := TX3) (N := 7) hx hb hts hin3 hown hK hP 0 rfl rfl 4 (by decide) (hta _ aw_124) (fun _ h9 => h9) rfl dX3_waitsFor_9 ?_
  refine lv_iload_n hx hb dX3_waitsFor_12 rfl (lv_at hl 1 rfl) ?_
  obtain ⟨hg, h⟩ := pq_g h
  refine va_iald hx hb hK hP 3 0 rfl rfl (pq_vp hg) dX3_waitsFor_13 ?_
  obtain rfl := Sum.inr.inj (Option.some.inj h)
  subst hQ
  exact pw_ri hx hb hr hlk hAe hP hS rfl dX3_waitsFor_14

def aX3_blocker : List Cond := Cond.code yX3_blocker cX3_blocker 5 (some .int) :: pw_all
theorem pX3_blocker : yX3_blocker.cls = RX3 ∧ yX3_blocker.cls ≠ "java/lang/invoke/MethodHandle" ∧ yX3_blocker.cls ≠ "java/lang/invoke/VarHandle" ∧ (parseMethodDescriptor yX3_blocker.desc).map (fun d => d.parameters.length) = some 0 := by decide +kernel
set_option maxHeartbeats 8000000 in
set_option maxRecDepth 100000 in
theorem kX3_blocker (l : Launch) (D : va_G) (cy : Nat → ClassId) (qa : Nat → Nat → Nat) (sz : Nat) (P : Nat → Nat → Int32) (T : Nat → Nat → Int32) (S : Nat → Nat → Nat → Int32) (nw : Int32) (hz : Int32) (ak : Nat → Int32) (pa : Nat → Int32) (wt : Nat → Int32) (cd : Nat → Int32) (ln : Int32)  (o : Int32) (h : fX3_blocker P = some o) : Met l yX3_blocker aX3_blocker ({ frames := 1, cells := 0, slots := 0, locals := 23 }) (pw_Pre D cy [.ref (qa 0 0)] (W3 cy qa P T S nw hz ak pa wt cd ln) sz) (pw_I D o (W3 cy qa P T S nw hz ak pa wt cd ln) (W3 cy qa P T S nw hz ak pa wt cd ln) sz) 0 0 (va_A (W3 cy qa P T S nw hz ak pa wt cd ln) sz) := by
  refine pw_met (cc := cX3_blocker) (maxL := 5) (ret := (some .int)) (by decide) rfl (Nat.le_of_ble_eq_true rfl) ?_
  intro p e s m args below meth c ls A hx hb hr hml hlk hts hown hAe hA hK hP hD hS hl
  have hl : lv_has ls 5 [(0, .ref (qa 0 0))] := hl
  generalize hQ : MQ below (pw_I D o (W3 cy qa P T S nw hz ak pa wt cd ln) (W3 cy qa P T S nw hz ak pa wt cd ln) sz) args s 0 0 (va_A (W3 cy qa P T S nw hz ak pa wt cd ln) sz) = Q
  have hF : CallFix p m c cX3_blocker 5 s args aX3_blocker RX3 := ⟨hx, hb, hml, hown, hts⟩
  have hta : ∀ w ∈ pw_all, w.before args s = true := fun w h => hts w (List.mem_cons_of_mem _ h)
  have hin3 : ∀ w ∈ wsX30, w ∈ aX3_blocker := fun w h => List.mem_cons_of_mem _ (inA3 w h)
  have hin2 : ∀ w ∈ wsX20, w ∈ aX3_blocker := fun w h => List.mem_cons_of_mem _ (inA2 w h)
  have hin1 : ∀ w ∈ wsX10, w ∈ aX3_blocker := fun w h => List.mem_cons_of_mem _ (inA1 w h)
  have hin0 : ∀ w ∈ wsX00, w ∈ aX3_blocker := fun w h => List.mem_cons_of_mem _ (inA0 w h)
  unfold fX3_blocker at h
  refine lv_aload_n hx hb dX3_blocker_0 rfl (lv_at hl 0 rfl) ?_
  refine va_get (D := D) (ci := 3) (v := .ref (qa 1 0)) (C := RX3) (T := TX3) (N := 7) hx hb hts hin3 hown hK hP 0 rfl rfl 0 (by decide) (hta _ aw_120) (fun _ h9 => h9) rfl dX3_blocker_1 ?_
  refine va_get (D := D) (ci := 2) (v := .int (P 14 0)) (C := RX2) (T := TX2) (N := 16) hx hb hts hin2 hown hK hP 21 rfl rfl 14 (by decide) (hta _ aw_50) (fun _ h9 => h9) rfl dX3_blocker_4 ?_
  refine lv_if_ne (tgt := 12) hx hb dX3_blocker_7 (by decide) (fun c1_ => ?_) (fun c1_ => ?_)
  · have h := pq_e c1_ h
    refine lv_iconst (v := 0) hx hb dX3_blocker_12 (by decide) ?_
    refine lv_istore_n (lv' := [(1, .int 0), (0, .ref (qa 0 0))]) hx hb dX3_blocker_13 rfl hl (by decide) rfl (fun ls hl => ?_)
    refine lv_iconst (v := (-1)) hx hb dX3_blocker_14 (by decide) ?_
    refine lv_istore_n (lv' := [(2, .int (-1)), (1, .int 0), (0, .ref (qa 0 0))]) hx hb dX3_blocker_15 rfl hl (by decide) rfl (fun ls hl => ?_)
    refine lv_iconst (v := 0) hx hb dX3_blocker_16 (by decide) ?_
    refine lv_istore_n (lv' := [(3, .int 0), (2, .int (-1)), (1, .int 0), (0, .ref (qa 0 0))]) hx hb dX3_blocker_17 rfl hl (by decide) rfl (fun ls hl => ?_)
    have L18_n1 : ∀ (n : Nat) (x1_18 : Int32) (x2_18 : Int32) (x3_18 : Int32) (H : Heap) (locs : List Loc) (ls : Array Slot), fX3_blocker_L18 P n x1_18 x2_18 x3_18 = some o → va_P D vwCl (W3 cy qa P T S nw hz ak pa wt cd ln) H → va_D A (W3 cy qa P T S nw hz ak pa wt cd ln) → va_S A s.heap H locs → lv_has ls 5 [(0, .ref (qa 0 0)), (1, .int x1_18), (2, .int x2_18), (3, .int x3_18)] → W p l e ({ frames := 1, cells := 0, slots := 0, locals := 23 } : Room) s m args below meth c H locs 0 0 Q (F0 m 18 ls []) := by
      intro n
      induction n with
      | zero =>
        intro x1_18 x2_18 x3_18 H locs ls h hP hD hS hl
        exact pq_n h
      | succ n ih18 =>
        intro x1_18 x2_18 x3_18 H locs ls h hP hD hS hl
        rw [fX3_blocker_L18] at h
        refine lv_iload_n hx hb dX3_blocker_18 rfl (lv_at hl 3 rfl) ?_
        refine lv_bipush (v := 8) hx hb dX3_blocker_19 (by decide) ?_
        refine lv_icmp_ge (tgt := 51) hx hb dX3_blocker_21 (by decide) (fun c2_ => ?_) (fun c2_ => ?_)
        · have h := pq_t c2_ h
          refine lv_iload_n hx hb dX3_blocker_51 rfl (lv_at hl 2 rfl) ?_
          obtain rfl := Option.some.inj h
          subst hQ
          exact pw_ri hx hb hr hlk hAe hP hS rfl dX3_blocker_52
        · have h := pq_e c2_ h
          refine lv_aload_n hx hb dX3_blocker_24 rfl (lv_at hl 0 rfl) ?_
          refine va_get (D := D) (ci := 3) (v := .ref (qa 1 0)) (C := RX3) (T := TX3) (N := 7) hx hb hts hin3 hown hK hP 0 rfl rfl 0 (by decide) (hta _ aw_120) (fun _ h9 => h9) rfl dX3_blocker_25 ?_
          refine lv_iload_n hx hb dX3_blocker_28 rfl (lv_at hl 3 rfl) ?_
          obtain ⟨r2, hr2, h⟩ := pq_b h
          refine pw_fi (ws0 := W3 cy qa P T S nw hz ak pa wt cd ln) (ws1 := W3 cy qa P T S nw hz ak pa wt cd ln) (wc := WP cy (qa 1) P) (w1 := WP cy (qa 1) P) (rest := []) (As := [.int x3_18]) hF (kX2_lentCount l D cy (qa 1) _ P x3_18 r2 hr2) (cwV 1 hts (pw_gV (own := RX3) (idx := 100) (C := RX2) (y := yX2_lentCount) aw_330 aw_274 aw_275 aw_2 aw_276) rfl rfl rfl pX2_lentCount ⟨Nat.le_of_ble_eq_true rfl, Nat.le_of_ble_eq_true rfl⟩) 2 (RX2, TX2, 16) rfl rfl ⟨0, _, rfl⟩ hK hP hD hS hA (pw_s3 _ _ _ _ _) (pw_s3 _ _ _ _ _) rfl rfl hl.1 rfl (Nat.le_of_ble_eq_true rfl) dX3_blocker_29 ⟨Nat.zero_le _, Nat.zero_le _⟩ (fun H locs hP hD hS => ?_)
          refine lv_istore (lv' := [(4, .int r2), (0, .ref (qa 0 0)), (1, .int x1_18), (2, .int x2_18), (3, .int x3_18)]) hx hb dX3_blocker_32 hl (by decide) rfl (fun ls hl => ?_)
          refine lv_iload hx hb dX3_blocker_34 (lv_at hl 0 rfl) ?_
          refine lv_iload_n hx hb dX3_blocker_36 rfl (lv_at hl 2 rfl) ?_
          refine lv_icmp_le (tgt := 45) hx hb dX3_blocker_37 (by decide) (fun c3_ => ?_) (fun c3_ => ?_)
          · have h := pq_t c3_ h
            refine lv_iinc (v := x3_18 + 1) (lv' := [(3, .int (x3_18 + 1)), (4, .int r2), (0, .ref (qa 0 0)), (1, .int x1_18), (2, .int x2_18)]) hx hb dX3_blocker_45 hl (k := 4) rfl (by first | rfl | decide) (by decide) rfl (fun ls hl => ?_)
            refine lv_goto (tgt := 18) hx hb dX3_blocker_48 (by decide) ?_
            exact ih18 x1_18 x2_18 (x3_18 + 1) _ _ _ h hP hD hS (lv_sub hl [2, 3, 4, 0] rfl)
          · have h := pq_e c3_ h
            refine lv_iload hx hb dX3_blocker_40 (lv_at hl 0 rfl) ?_
            refine lv_istore_n (lv' := [(1, .int r2), (4, .int r2), (0, .ref (qa 0 0)), (2, .int x2_18), (3, .int x3_18)]) hx hb dX3_blocker_42 rfl hl (by decide) rfl (fun ls hl => ?_)
            refine lv_iload_n hx hb dX3_blocker_43 rfl (lv_at hl 4 rfl) ?_
            refine lv_istore_n (lv' := [(2, .int x3_18), (1, .int r2), (4, .int r2), (0, .ref (qa 0 0)), (3, .int x3_18)]) hx hb dX3_blocker_44 rfl hl (by decide) rfl (fun ls hl => ?_)
            refine lv_iinc (v := x3_18 + 1) (lv' := [(3, .int (x3_18 + 1)), (2, .int x3_18), (1, .int r2), (4, .int r2), (0, .ref (qa 0 0))]) hx hb dX3_blocker_45 hl (k := 4) rfl (by first | rfl | decide) (by decide) rfl (fun ls hl => ?_)
            refine lv_goto (tgt := 18) hx hb dX3_blocker_48 (by decide) ?_
            exact ih18 r2 x3_18 (x3_18 + 1) _ _ _ h hP hD hS (lv_sub hl [4, 2, 1, 0] rfl)
    exact L18_n1 1000 0 (-1) 0 _ _ _ h hP hD hS (lv_sub hl [3, 2, 1, 0] rfl)
  · have h := pq_t c1_ h
    refine lv_iconst (v := (-1)) hx hb dX3_blocker_10 (by decide) ?_
    obtain rfl := Option.some.inj h
    subst hQ
    exact pw_ri hx hb hr hlk hAe hP hS rfl dX3_blocker_11

def aX3_fairness : List Cond := Cond.code yX3_fairness cX3_fairness 5 (some .double) :: pw_all
theorem pX3_fairness : yX3_fairness.cls = RX3 ∧ yX3_fairness.cls ≠ "java/lang/invoke/MethodHandle" ∧ yX3_fairness.cls ≠ "java/lang/invoke/VarHandle" ∧ (parseMethodDescriptor yX3_fairness.desc).map (fun d => d.parameters.length) = some 0 := by decide +kernel
set_option maxHeartbeats 8000000 in
set_option maxRecDepth 100000 in
theorem kX3_fairness (l : Launch) (D : va_G) (cy : Nat → ClassId) (qa : Nat → Nat → Nat) (sz : Nat) (P : Nat → Nat → Int32) (T : Nat → Nat → Int32) (S : Nat → Nat → Nat → Int32) (nw : Int32) (hz : Int32) (ak : Nat → Int32) (pa : Nat → Int32) (wt : Nat → Int32) (cd : Nat → Int32) (ln : Int32)  (o : UInt64) (h : fX3_fairness P = some o) : Met l yX3_fairness aX3_fairness ({ frames := 1, cells := 0, slots := 0, locals := 21 }) (pw_Pre D cy [.ref (qa 0 0)] (W3 cy qa P T S nw hz ak pa wt cd ln) sz) (pw_F D o (W3 cy qa P T S nw hz ak pa wt cd ln) (W3 cy qa P T S nw hz ak pa wt cd ln) sz) 0 0 (va_A (W3 cy qa P T S nw hz ak pa wt cd ln) sz) := by
  refine pw_met (cc := cX3_fairness) (maxL := 5) (ret := (some .double)) (by decide) rfl (Nat.le_of_ble_eq_true rfl) ?_
  intro p e s m args below meth c ls A hx hb hr hml hlk hts hown hAe hA hK hP hD hS hl
  have hl : lv_has ls 5 [(0, .ref (qa 0 0))] := hl
  generalize hQ : MQ below (pw_F D o (W3 cy qa P T S nw hz ak pa wt cd ln) (W3 cy qa P T S nw hz ak pa wt cd ln) sz) args s 0 0 (va_A (W3 cy qa P T S nw hz ak pa wt cd ln) sz) = Q
  have hF : CallFix p m c cX3_fairness 5 s args aX3_fairness RX3 := ⟨hx, hb, hml, hown, hts⟩
  have hta : ∀ w ∈ pw_all, w.before args s = true := fun w h => hts w (List.mem_cons_of_mem _ h)
  have hin3 : ∀ w ∈ wsX30, w ∈ aX3_fairness := fun w h => List.mem_cons_of_mem _ (inA3 w h)
  have hin2 : ∀ w ∈ wsX20, w ∈ aX3_fairness := fun w h => List.mem_cons_of_mem _ (inA2 w h)
  have hin1 : ∀ w ∈ wsX10, w ∈ aX3_fairness := fun w h => List.mem_cons_of_mem _ (inA1 w h)
  have hin0 : ∀ w ∈ wsX00, w ∈ aX3_fairness := fun w h => List.mem_cons_of_mem _ (inA0 w h)
  unfold fX3_fairness at h
  refine lv_iconst (v := 0) hx hb dX3_fairness_0 (by decide) ?_
  refine lv_istore_n (lv' := [(1, .int 0), (0, .ref (qa 0 0))]) hx hb dX3_fairness_1 rfl hl (by decide) rfl (fun ls hl => ?_)
  refine lv_iconst (v := 0) hx hb dX3_fairness_2 (by decide) ?_
  refine lv_istore_n (lv' := [(2, .int 0), (1, .int 0), (0, .ref (qa 0 0))]) hx hb dX3_fairness_3 rfl hl (by decide) rfl (fun ls hl => ?_)
  refine lv_iconst (v := 0) hx hb dX3_fairness_4 (by decide) ?_
  refine lv_istore_n (lv' := [(3, .int 0), (2, .int 0), (1, .int 0), (0, .ref (qa 0 0))]) hx hb dX3_fairness_5 rfl hl (by decide) rfl (fun ls hl => ?_)
  obtain ⟨v2, hv2, h⟩ := pq_b h
  have X54_v2 : ∀ (H : Heap) (locs : List Loc) (ls : Array Slot), va_P D vwCl (W3 cy qa P T S nw hz ak pa wt cd ln) H → va_D A (W3 cy qa P T S nw hz ak pa wt cd ln) → va_S A s.heap H locs → lv_has ls 5 [(1, .int v2.1), (2, .int v2.2)] → W p l e ({ frames := 1, cells := 0, slots := 0, locals := 21 } : Room) s m args below meth c H locs 0 0 Q (F0 m 54 ls []) := by
    intro H locs ls hP hD hS hl
    refine lv_iload_n hx hb dX3_fairness_54 rfl (lv_at hl 1 rfl) ?_
    refine lv_if_ne (tgt := 62) hx hb dX3_fairness_55 (by decide) (fun c5_ => ?_) (fun c5_ => ?_)
    · have h := pq_e c5_ h
      refine lv_iload_n hx hb dX3_fairness_62 rfl (lv_at hl 0 rfl) ?_
      refine lv_i2d hx hb dX3_fairness_63 ?_
      refine lv_iload_n hx hb dX3_fairness_64 rfl (lv_at hl 1 rfl) ?_
      refine lv_i2d hx hb dX3_fairness_65 ?_
      obtain ⟨hg, h⟩ := pq_g h
      refine lv_ddiv hx hb dX3_fairness_66 (pq_nv hg) ?_
      obtain rfl := Option.some.inj h
      subst hQ
      exact pw_rd hx hb hr hlk hAe hP hS rfl dX3_fairness_67
    · have h := pq_t c5_ h
      refine lv_dconst1 hx hb dX3_fairness_58 ?_
      refine lv_goto (tgt := 67) hx hb dX3_fairness_59 (by decide) ?_
      obtain rfl := Option.some.inj h
      subst hQ
      exact pw_rd hx hb hr hlk hAe hP hS rfl dX3_fairness_67
  clear h
  have L6_n1 : ∀ (n : Nat) (x1_6 : Int32) (x2_6 : Int32) (x3_6 : Int32) (H : Heap) (locs : List Loc) (ls : Array Slot), fX3_fairness_L6 P n x1_6 x2_6 x3_6 = some v2 → va_P D vwCl (W3 cy qa P T S nw hz ak pa wt cd ln) H → va_D A (W3 cy qa P T S nw hz ak pa wt cd ln) → va_S A s.heap H locs → lv_has ls 5 [(0, .ref (qa 0 0)), (1, .int x1_6), (2, .int x2_6), (3, .int x3_6)] → W p l e ({ frames := 1, cells := 0, slots := 0, locals := 21 } : Room) s m args below meth c H locs 0 0 Q (F0 m 6 ls []) := by
    intro n
    induction n with
    | zero =>
      intro x1_6 x2_6 x3_6 H locs ls h hP hD hS hl
      exact pq_n h
    | succ n ih6 =>
      intro x1_6 x2_6 x3_6 H locs ls h hP hD hS hl
      rw [fX3_fairness_L6] at h
      refine lv_iload_n hx hb dX3_fairness_6 rfl (lv_at hl 3 rfl) ?_
      refine lv_bipush (v := 8) hx hb dX3_fairness_7 (by decide) ?_
      refine lv_icmp_ge (tgt := 54) hx hb dX3_fairness_9 (by decide) (fun c1_ => ?_) (fun c1_ => ?_)
      · have h := pq_t c1_ h
        obtain rfl := Option.some.inj h
        exact X54_v2 _ _ _ hP hD hS (lv_sub hl [1, 2] rfl)
      · have h := pq_e c1_ h
        refine lv_aload_n hx hb dX3_fairness_12 rfl (lv_at hl 0 rfl) ?_
        refine va_get (D := D) (ci := 3) (v := .ref (qa 1 0)) (C := RX3) (T := TX3) (N := 7) hx hb hts hin3 hown hK hP 0 rfl rfl 0 (by decide) (hta _ aw_120) (fun _ h9 => h9) rfl dX3_fairness_13 ?_
        refine va_get (D := D) (ci := 2) (v := .ref (qa 1 9)) (C := RX2) (T := TX2) (N := 16) hx hb hts hin2 hown hK hP 21 rfl rfl 9 (by decide) (hta _ aw_44) (fun _ h9 => h9) rfl dX3_fairness_16 ?_
        refine lv_iload_n hx hb dX3_fairness_19 rfl (lv_at hl 3 rfl) ?_
        obtain ⟨hg, h⟩ := pq_g h
        refine va_iald hx hb hK hP 30 0 rfl rfl (pq_vp hg) dX3_fairness_20 ?_
        refine lv_istore (lv' := [(4, .int ((P 9) x3_6.toNatClampNeg)), (0, .ref (qa 0 0)), (1, .int x1_6), (2, .int x2_6), (3, .int x3_6)]) hx hb dX3_fairness_21 hl (by decide) rfl (fun ls hl => ?_)
        refine lv_iload hx hb dX3_fairness_23 (lv_at hl 0 rfl) ?_
        obtain ⟨v3, hv3, h⟩ := pq_b h
        have J41_v3 : ∀ (H : Heap) (locs : List Loc) (ls : Array Slot), va_P D vwCl (W3 cy qa P T S nw hz ak pa wt cd ln) H → va_D A (W3 cy qa P T S nw hz ak pa wt cd ln) → va_S A s.heap H locs → lv_has ls 5 [(0, .ref (qa 0 0)), (1, .int v3), (2, .int x2_6), (3, .int x3_6), (4, .int ((P 9) x3_6.toNatClampNeg))] → W p l e ({ frames := 1, cells := 0, slots := 0, locals := 21 } : Room) s m args below meth c H locs 0 0 Q (F0 m 41 ls []) := by
          intro H locs ls hP hD hS hl
          refine lv_iload_n hx hb dX3_fairness_41 rfl (lv_at hl 2 rfl) ?_
          refine lv_iload hx hb dX3_fairness_42 (lv_at hl 4 rfl) ?_
          refine va_mmax hx hb (by rw [hml]; exact hl.1.symm) (own := RX3) (index := 226) hown (hta _ aw_456) (hta _ aw_457) (hta _ aw_11) (hta _ aw_458) (Nat.le_of_ble_eq_true rfl) (Nat.le_of_ble_eq_true rfl) (Nat.zero_le _) (Nat.zero_le _) dX3_fairness_44 ?_
          refine lv_istore_n (lv' := [(2, .int (if x2_6 < (P 9) x3_6.toNatClampNeg then (P 9) x3_6.toNatClampNeg else x2_6)), (0, .ref (qa 0 0)), (1, .int v3), (3, .int x3_6), (4, .int ((P 9) x3_6.toNatClampNeg))]) hx hb dX3_fairness_47 rfl hl (by decide) rfl (fun ls hl => ?_)
          refine lv_iinc (v := x3_6 + 1) (lv' := [(3, .int (x3_6 + 1)), (2, .int (if x2_6 < (P 9) x3_6.toNatClampNeg then (P 9) x3_6.toNatClampNeg else x2_6)), (0, .ref (qa 0 0)), (1, .int v3), (4, .int ((P 9) x3_6.toNatClampNeg))]) hx hb dX3_fairness_48 hl (k := 3) rfl (by first | rfl | decide) (by decide) rfl (fun ls hl => ?_)
          refine lv_goto (tgt := 6) hx hb dX3_fairness_51 (by decide) ?_
          exact ih6 v3 (if x2_6 < (P 9) x3_6.toNatClampNeg then (P 9) x3_6.toNatClampNeg else x2_6) (x3_6 + 1) _ _ _ h hP hD hS (lv_sub hl [2, 3, 1, 0] rfl)
        clear h
        have h := hv3
        clear hv3
        refine lv_if_le (tgt := 41) hx hb dX3_fairness_25 (by decide) (fun c2_ => ?_) (fun c2_ => ?_)
        · have h := pq_t c2_ h
          obtain rfl := Option.some.inj h
          exact J41_v3 _ _ _ hP hD hS (lv_sub hl [1, 2, 3, 4, 0] rfl)
        · have h := pq_e c2_ h
          refine lv_iload_n hx hb dX3_fairness_28 rfl (lv_at hl 2 rfl) ?_
          refine lv_if_eq (tgt := 38) hx hb dX3_fairness_29 (by decide) (fun c3_ => ?_) (fun c3_ => ?_)
          · have h := pq_t c3_ h
            refine lv_iload hx hb dX3_fairness_38 (lv_at hl 0 rfl) ?_
            refine lv_istore_n (lv' := [(1, .int ((P 9) x3_6.toNatClampNeg)), (4, .int ((P 9) x3_6.toNatClampNeg)), (0, .ref (qa 0 0)), (2, .int x2_6), (3, .int x3_6)]) hx hb dX3_fairness_40 rfl hl (by decide) rfl (fun ls hl => ?_)
            obtain rfl := Option.some.inj h
            exact J41_v3 _ _ _ hP hD hS (lv_sub hl [2, 0, 3, 4, 1] rfl)
          · have h := pq_e c3_ h
            refine lv_iload hx hb dX3_fairness_32 (lv_at hl 0 rfl) ?_
            refine lv_iload_n hx hb dX3_fairness_34 rfl (lv_at hl 2 rfl) ?_
            refine lv_icmp_ge (tgt := 41) hx hb dX3_fairness_35 (by decide) (fun c4_ => ?_) (fun c4_ => ?_)
            · have h := pq_t c4_ h
              obtain rfl := Option.some.inj h
              exact J41_v3 _ _ _ hP hD hS (lv_sub hl [1, 2, 3, 4, 0] rfl)
            · have h := pq_e c4_ h
              refine lv_iload hx hb dX3_fairness_38 (lv_at hl 0 rfl) ?_
              refine lv_istore_n (lv' := [(1, .int ((P 9) x3_6.toNatClampNeg)), (4, .int ((P 9) x3_6.toNatClampNeg)), (0, .ref (qa 0 0)), (2, .int x2_6), (3, .int x3_6)]) hx hb dX3_fairness_40 rfl hl (by decide) rfl (fun ls hl => ?_)
              obtain rfl := Option.some.inj h
              exact J41_v3 _ _ _ hP hD hS (lv_sub hl [2, 0, 3, 4, 1] rfl)
  have h := hv2
  exact L6_n1 1000 0 0 0 _ _ _ h hP hD hS (lv_sub hl [3, 2, 1, 0] rfl)

