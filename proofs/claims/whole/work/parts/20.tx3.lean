set_option maxHeartbeats 8000000 in
set_option maxRecDepth 100000 in
theorem kX3_requireOwner_t (l : Launch) (hfl : l.stackTraces = false) (D : va_G) (cy : Nat → ClassId) (sz : Nat)  (x0 : Int32) (k : Nat) (h : fX3_requireOwner x0 = some (Sum.inl k)) : vx_Met l yX3_requireOwner aX3_requireOwner ({ frames := 6, cells := 1, slots := 6, locals := 90 }) (pw_PreE D cy [.int x0] ([]) sz) (pw_NQ ([]) sz) (pw_XC D k ([]) sz) 1 6 (va_A ([]) sz) := by
  refine pw_metX (cc := cX3_requireOwner) (maxL := 1) (ret := none) (by decide) rfl (Nat.le_of_ble_eq_true rfl) ?_
  intro p e s m args below meth c ls A hx hb hr hml hlk hts hown hAe hA hK hP hD hS hl hxt hE
  have hl : lv_has ls 1 [(0, .int x0)] := hl
  generalize hQ : vx_MQ below (pw_NQ ([]) sz) (pw_XC D k ([]) sz) args s 1 6 (va_A ([]) sz) = Q
  have hF : CallFix p m c cX3_requireOwner 1 s args aX3_requireOwner RX3 := ⟨hx, hb, hml, hown, hts⟩
  have hta : ∀ w ∈ pw_all, w.before args s = true := fun w h => hts w (List.mem_cons_of_mem _ h)
  unfold fX3_requireOwner at h
  refine lv_iload_n hx hb dX3_requireOwner_0 rfl (lv_at hl 0 rfl) ?_
  refine lv_if_lt (tgt := 10) hx hb dX3_requireOwner_1 (by decide) (fun c1_ => ?_) (fun c1_ => ?_)
  · have h := pq_t c1_ h
    obtain rfl := Sum.inl.inj (Option.some.inj h)
    subst hQ
    subst hAe
    exact pw_throwSW (own := RX3) (cls := "java/lang/IndexOutOfBoundsException") (text := "there is no such owner") (ik := 262) (is := 264) (ic := 266) hx hb hfl hown hlk (by decide +kernel) (hta _ aw_439) (hta _ aw_10) (by decide +kernel) (fun w hw => hta w (pw_at266 w hw)) pw_nt266 pw_gt266 hE hP hS hl.1 hml hxt dX3_requireOwner_10 dX3_requireOwner_13 dX3_requireOwner_14 dX3_requireOwner_17 dX3_requireOwner_20 (Nat.le_of_ble_eq_true rfl) (Nat.le_of_ble_eq_true rfl) (Nat.le_of_ble_eq_true rfl) (Nat.le_of_ble_eq_true rfl) rfl (Nat.le_of_ble_eq_true rfl) (Nat.le_of_ble_eq_true rfl)
  · have h := pq_e c1_ h
    refine lv_iload_n hx hb dX3_requireOwner_4 rfl (lv_at hl 0 rfl) ?_
    refine lv_bipush (v := 8) hx hb dX3_requireOwner_5 (by decide) ?_
    refine lv_icmp_lt (tgt := 21) hx hb dX3_requireOwner_7 (by decide) (fun c2_ => ?_) (fun c2_ => ?_)
    · have h := pq_t c2_ h
      exact nomatch h
    · have h := pq_e c2_ h
      obtain rfl := Sum.inl.inj (Option.some.inj h)
      subst hQ
      subst hAe
      exact pw_throwSW (own := RX3) (cls := "java/lang/IndexOutOfBoundsException") (text := "there is no such owner") (ik := 262) (is := 264) (ic := 266) hx hb hfl hown hlk (by decide +kernel) (hta _ aw_439) (hta _ aw_10) (by decide +kernel) (fun w hw => hta w (pw_at266 w hw)) pw_nt266 pw_gt266 hE hP hS hl.1 hml hxt dX3_requireOwner_10 dX3_requireOwner_13 dX3_requireOwner_14 dX3_requireOwner_17 dX3_requireOwner_20 (Nat.le_of_ble_eq_true rfl) (Nat.le_of_ble_eq_true rfl) (Nat.le_of_ble_eq_true rfl) (Nat.le_of_ble_eq_true rfl) rfl (Nat.le_of_ble_eq_true rfl) (Nat.le_of_ble_eq_true rfl)

set_option maxHeartbeats 8000000 in
set_option maxRecDepth 100000 in
theorem kX3_ask_t (l : Launch) (hfl : l.stackTraces = false) (D : va_G) (cy : Nat → ClassId) (qa : Nat → Nat → Nat) (sz : Nat) (P : Nat → Nat → Int32) (T : Nat → Nat → Int32) (S : Nat → Nat → Nat → Int32) (nw : Int32) (hz : Int32) (ak : Nat → Int32) (pa : Nat → Int32) (wt : Nat → Int32) (cd : Nat → Int32) (ln : Int32) (x1 : Int32) (k : Nat) (h : fX3_ask x1 P S nw hz = some (Sum.inl k)) : vx_Met l yX3_ask aX3_ask ({ frames := 7, cells := 1, slots := 6, locals := 113 }) (pw_PreE D cy [.ref (qa 0 0), .int x1] (W3 cy qa P T S nw hz ak pa wt cd ln) sz) (pw_NQ (W3 cy qa P T S nw hz ak pa wt cd ln) sz) (pw_XC D k (W3 cy qa P T S nw hz ak pa wt cd ln) sz) 1 6 (va_A (W3 cy qa P T S nw hz ak pa wt cd ln) sz) := by
  refine pw_metX (cc := cX3_ask) (maxL := 2) (ret := (some .int)) (by decide) rfl (Nat.le_of_ble_eq_true rfl) ?_
  intro p e s m args below meth c ls A hx hb hr hml hlk hts hown hAe hA hK hP hD hS hl hxt hE
  have hl : lv_has ls 2 [(0, .ref (qa 0 0)), (1, .int x1)] := hl
  generalize hQ : vx_MQ below (pw_NQ (W3 cy qa P T S nw hz ak pa wt cd ln) sz) (pw_XC D k (W3 cy qa P T S nw hz ak pa wt cd ln) sz) args s 1 6 (va_A (W3 cy qa P T S nw hz ak pa wt cd ln) sz) = Q
  have hF : CallFix p m c cX3_ask 2 s args aX3_ask RX3 := ⟨hx, hb, hml, hown, hts⟩
  have hta : ∀ w ∈ pw_all, w.before args s = true := fun w h => hts w (List.mem_cons_of_mem _ h)
  have hin3 : ∀ w ∈ wsX30, w ∈ aX3_ask := fun w h => List.mem_cons_of_mem _ (inA3 w h)
  have hin2 : ∀ w ∈ wsX20, w ∈ aX3_ask := fun w h => List.mem_cons_of_mem _ (inA2 w h)
  have hin1 : ∀ w ∈ wsX10, w ∈ aX3_ask := fun w h => List.mem_cons_of_mem _ (inA1 w h)
  have hin0 : ∀ w ∈ wsX00, w ∈ aX3_ask := fun w h => List.mem_cons_of_mem _ (inA0 w h)
  unfold fX3_ask at h
  refine lv_iload_n hx hb dX3_ask_0 rfl (lv_at hl 1 rfl) ?_
  obtain ⟨r1, hr1, h⟩ := pq_b h
  rcases pq_inl h with rfl | ⟨a2, rfl, h⟩
  · subst hQ
    subst hAe
    exact pw_tS (rest := []) (As := [.int x1]) hF (kX3_requireOwner_t l hfl D cy _ x1 k hr1) (cwS 1 hts (pw_gS (own := RX3) (idx := 43) (y := yX3_requireOwner) aw_436 aw_437 aw_1 aw_438) rfl rfl rfl pX3_requireOwner ⟨Nat.le_of_ble_eq_true rfl, Nat.le_of_ble_eq_true rfl⟩) hK hP hD hS hE rfl hl.1 rfl (Nat.le_of_ble_eq_true rfl) dX3_ask_1 hxt hlk (Nat.le_of_ble_eq_true rfl) (Nat.le_of_ble_eq_true rfl) (Nat.le_of_ble_eq_true rfl) (Nat.le_of_ble_eq_true rfl) hA
  · refine pw_sv (rest := []) (As := [.int x1]) hF (kX3_requireOwner l D cy _ x1 a2 hr1) (cwS 1 hts (pw_gS (own := RX3) (idx := 43) (y := yX3_requireOwner) aw_436 aw_437 aw_1 aw_438) rfl rfl rfl pX3_requireOwner ⟨Nat.le_of_ble_eq_true rfl, Nat.le_of_ble_eq_true rfl⟩) hK hP hS hA rfl hl.1 rfl (Nat.le_of_ble_eq_true rfl) dX3_ask_1 ⟨Nat.zero_le _, Nat.zero_le _⟩ (fun H locs hP hS => ?_)
    refine lv_aload_n hx hb dX3_ask_4 rfl (lv_at hl 0 rfl) ?_
    refine va_get (D := D) (ci := 3) (v := .ref (qa 1 0)) (C := RX3) (T := TX3) (N := 7) hx hb hts hin3 hown hK hP 0 rfl rfl 0 (by decide) (hta _ aw_124) (fun _ h9 => h9) rfl dX3_ask_5 ?_
    refine lv_iload_n hx hb dX3_ask_8 rfl (lv_at hl 1 rfl) ?_
    obtain ⟨r3, hr3, h⟩ := pq_b h
    refine pw_fi (ws0 := W3 cy qa P T S nw hz ak pa wt cd ln) (ws1 := W3 cy qa P T S nw hz ak pa wt cd ln) (wc := WP cy (qa 1) P) (w1 := WP cy (qa 1) P) (rest := []) (As := [.int x1]) hF (kX2_canRequest l D cy (qa 1) _ P x1 r3 hr3) (cwV 1 hts (pw_gV (own := RX3) (idx := 47) (C := RX2) (y := yX2_canRequest) aw_406 aw_407 aw_408 aw_2 aw_409) rfl rfl rfl pX2_canRequest ⟨Nat.le_of_ble_eq_true rfl, Nat.le_of_ble_eq_true rfl⟩) 2 (RX2, TX2, 16) rfl rfl ⟨0, _, rfl⟩ hK hP hD hS hA (pw_s3 _ _ _ _ _) (pw_s3 _ _ _ _ _) rfl rfl hl.1 rfl (Nat.le_of_ble_eq_true rfl) dX3_ask_9 ⟨Nat.zero_le _, Nat.zero_le _⟩ (fun H locs hP hD hS => ?_)
    refine lv_if_ne (tgt := 25) hx hb dX3_ask_12 (by decide) (fun c1_ => ?_) (fun c1_ => ?_)
    · have h := pq_e c1_ h
      refine lv_aload_n hx hb dX3_ask_25 rfl (lv_at hl 0 rfl) ?_
      refine va_get (D := D) (ci := 3) (v := .ref (qa 4 0)) (C := RX3) (T := TX3) (N := 7) hx hb hts hin3 hown hK hP 0 rfl rfl 5 (by decide) (hta _ aw_129) (fun _ h9 => h9) rfl dX3_ask_26 ?_
      refine lv_aload_n hx hb dX3_ask_29 rfl (lv_at hl 0 rfl) ?_
      refine va_get (D := D) (ci := 3) (v := .ref (qa 1 0)) (C := RX3) (T := TX3) (N := 7) hx hb hts hin3 hown hK hP 0 rfl rfl 0 (by decide) (hta _ aw_124) (fun _ h9 => h9) rfl dX3_ask_30 ?_
      obtain ⟨r4, hr4, h⟩ := pq_b h
      refine pw_fv (ws0 := W3 cy qa P T S nw hz ak pa wt cd ln) (ws1 := W3 cy qa P T r4.1 r4.2.1 r4.2.2 ak pa wt cd ln) (wc := WP cy (qa 1) P ++ WH cy qa S nw hz) (w1 := WP cy (qa 1) P ++ WH cy qa r4.1 r4.2.1 r4.2.2) (rest := []) (As := [.ref (qa 1 0)]) hF (kX1_save l D cy qa _ P S nw hz r4 hr4) (cwV 1 hts (pw_gV (own := RX3) (idx := 58) (C := RX1) (y := yX1_save) aw_150 aw_151 aw_152 aw_4 aw_153) rfl rfl rfl pX1_save ⟨Nat.le_of_ble_eq_true rfl, Nat.le_of_ble_eq_true rfl⟩) 1 (RX1, TX1, 3) rfl rfl ⟨15, _, rfl⟩ hK hP hD hS hA (pw_s34 _ _ _ _ _) (pw_s34 _ _ _ _ _) rfl rfl hl.1 rfl (Nat.le_of_ble_eq_true rfl) dX3_ask_33 ⟨Nat.zero_le _, Nat.zero_le _⟩ (fun H locs hP hD hS => ?_)
      refine lv_aload_n hx hb dX3_ask_36 rfl (lv_at hl 0 rfl) ?_
      refine va_get (D := D) (ci := 3) (v := .ref (qa 1 0)) (C := RX3) (T := TX3) (N := 7) hx hb hts hin3 hown hK hP 0 rfl rfl 0 (by decide) (hta _ aw_124) (fun _ h9 => h9) rfl dX3_ask_37 ?_
      refine lv_iload_n hx hb dX3_ask_40 rfl (lv_at hl 1 rfl) ?_
      obtain ⟨r5, hr5, h⟩ := pq_b h
      refine pw_fi (ws0 := W3 cy qa P T r4.1 r4.2.1 r4.2.2 ak pa wt cd ln) (ws1 := W3 cy qa r5.2 T r4.1 r4.2.1 r4.2.2 ak pa wt cd ln) (wc := WP cy (qa 1) P) (w1 := WP cy (qa 1) r5.2) (rest := []) (As := [.int x1]) hF (kX2_request l D cy (qa 1) _ P x1 r5 hr5) (cwV 1 hts (pw_gV (own := RX3) (idx := 62) (C := RX2) (y := yX2_request) aw_410 aw_411 aw_412 aw_2 aw_413) rfl rfl rfl pX2_request ⟨Nat.le_of_ble_eq_true rfl, Nat.le_of_ble_eq_true rfl⟩) 2 (RX2, TX2, 16) rfl rfl ⟨0, _, rfl⟩ hK hP hD hS hA (pw_s3 _ _ _ _ _) (pw_s3 _ _ _ _ _) rfl rfl hl.1 rfl (Nat.le_of_ble_eq_true rfl) dX3_ask_41 ⟨Nat.zero_le _, Nat.zero_le _⟩ (fun H locs hP hD hS => ?_)
      exact nomatch h
    · have h := pq_t c1_ h
      obtain rfl := Sum.inl.inj (Option.some.inj h)
      subst hQ
      subst hAe
      exact pw_throwS (own := RX3) (cls := "java/lang/IllegalStateException") (text := "the owner has vanished, or waits already") (ik := 51) (is := 53) (ic := 55) hx hb hfl hown hlk (by decide +kernel) (hta _ aw_455) (hta _ aw_11) (by decide +kernel) (fun w hw => hta w (pw_at55 w hw)) pw_nt55 pw_gt55 hE hP hS hl.1 hml hxt dX3_ask_15 dX3_ask_18 dX3_ask_19 dX3_ask_21 dX3_ask_24 (Nat.le_of_ble_eq_true rfl) (Nat.le_of_ble_eq_true rfl) (Nat.le_of_ble_eq_true rfl) (Nat.le_of_ble_eq_true rfl) rfl (Nat.le_of_ble_eq_true rfl) (Nat.le_of_ble_eq_true rfl)

set_option maxHeartbeats 8000000 in
set_option maxRecDepth 100000 in
theorem kX3_requirePlace_t (l : Launch) (hfl : l.stackTraces = false) (D : va_G) (cy : Nat → ClassId) (sz : Nat)  (x0 : Int32) (k : Nat) (h : fX3_requirePlace x0 = some (Sum.inl k)) : vx_Met l yX3_requirePlace aX3_requirePlace ({ frames := 6, cells := 1, slots := 6, locals := 90 }) (pw_PreE D cy [.int x0] ([]) sz) (pw_NQ ([]) sz) (pw_XC D k ([]) sz) 1 6 (va_A ([]) sz) := by
  refine pw_metX (cc := cX3_requirePlace) (maxL := 1) (ret := none) (by decide) rfl (Nat.le_of_ble_eq_true rfl) ?_
  intro p e s m args below meth c ls A hx hb hr hml hlk hts hown hAe hA hK hP hD hS hl hxt hE
  have hl : lv_has ls 1 [(0, .int x0)] := hl
  generalize hQ : vx_MQ below (pw_NQ ([]) sz) (pw_XC D k ([]) sz) args s 1 6 (va_A ([]) sz) = Q
  have hF : CallFix p m c cX3_requirePlace 1 s args aX3_requirePlace RX3 := ⟨hx, hb, hml, hown, hts⟩
  have hta : ∀ w ∈ pw_all, w.before args s = true := fun w h => hts w (List.mem_cons_of_mem _ h)
  unfold fX3_requirePlace at h
  refine lv_iload_n hx hb dX3_requirePlace_0 rfl (lv_at hl 0 rfl) ?_
  refine lv_if_lt (tgt := 10) hx hb dX3_requirePlace_1 (by decide) (fun c1_ => ?_) (fun c1_ => ?_)
  · have h := pq_t c1_ h
    obtain rfl := Sum.inl.inj (Option.some.inj h)
    subst hQ
    subst hAe
    exact pw_throwSW (own := RX3) (cls := "java/lang/IndexOutOfBoundsException") (text := "there is no such place") (ik := 262) (is := 267) (ic := 266) hx hb hfl hown hlk (by decide +kernel) (hta _ aw_439) (hta _ aw_10) (by decide +kernel) (fun w hw => hta w (pw_at266 w hw)) pw_nt266 pw_gt266 hE hP hS hl.1 hml hxt dX3_requirePlace_10 dX3_requirePlace_13 dX3_requirePlace_14 dX3_requirePlace_17 dX3_requirePlace_20 (Nat.le_of_ble_eq_true rfl) (Nat.le_of_ble_eq_true rfl) (Nat.le_of_ble_eq_true rfl) (Nat.le_of_ble_eq_true rfl) rfl (Nat.le_of_ble_eq_true rfl) (Nat.le_of_ble_eq_true rfl)
  · have h := pq_e c1_ h
    refine lv_iload_n hx hb dX3_requirePlace_4 rfl (lv_at hl 0 rfl) ?_
    refine lv_bipush (v := 8) hx hb dX3_requirePlace_5 (by decide) ?_
    refine lv_icmp_lt (tgt := 21) hx hb dX3_requirePlace_7 (by decide) (fun c2_ => ?_) (fun c2_ => ?_)
    · have h := pq_t c2_ h
      exact nomatch h
    · have h := pq_e c2_ h
      obtain rfl := Sum.inl.inj (Option.some.inj h)
      subst hQ
      subst hAe
      exact pw_throwSW (own := RX3) (cls := "java/lang/IndexOutOfBoundsException") (text := "there is no such place") (ik := 262) (is := 267) (ic := 266) hx hb hfl hown hlk (by decide +kernel) (hta _ aw_439) (hta _ aw_10) (by decide +kernel) (fun w hw => hta w (pw_at266 w hw)) pw_nt266 pw_gt266 hE hP hS hl.1 hml hxt dX3_requirePlace_10 dX3_requirePlace_13 dX3_requirePlace_14 dX3_requirePlace_17 dX3_requirePlace_20 (Nat.le_of_ble_eq_true rfl) (Nat.le_of_ble_eq_true rfl) (Nat.le_of_ble_eq_true rfl) (Nat.le_of_ble_eq_true rfl) rfl (Nat.le_of_ble_eq_true rfl) (Nat.le_of_ble_eq_true rfl)

set_option maxHeartbeats 8000000 in
set_option maxRecDepth 100000 in
theorem kX3_give_t (l : Launch) (hfl : l.stackTraces = false) (D : va_G) (cy : Nat → ClassId) (qa : Nat → Nat → Nat) (sz : Nat) (P : Nat → Nat → Int32) (T : Nat → Nat → Int32) (S : Nat → Nat → Nat → Int32) (nw : Int32) (hz : Int32) (ak : Nat → Int32) (pa : Nat → Int32) (wt : Nat → Int32) (cd : Nat → Int32) (ln : Int32) (x1 : Int32) (k : Nat) (h : fX3_give x1 P S nw hz = some (Sum.inl k)) : vx_Met l yX3_give aX3_give ({ frames := 7, cells := 1, slots := 6, locals := 113 }) (pw_PreE D cy [.ref (qa 0 0), .int x1] (W3 cy qa P T S nw hz ak pa wt cd ln) sz) (pw_NQ (W3 cy qa P T S nw hz ak pa wt cd ln) sz) (pw_XC D k (W3 cy qa P T S nw hz ak pa wt cd ln) sz) 1 6 (va_A (W3 cy qa P T S nw hz ak pa wt cd ln) sz) := by
  refine pw_metX (cc := cX3_give) (maxL := 2) (ret := (some .int)) (by decide) rfl (Nat.le_of_ble_eq_true rfl) ?_
  intro p e s m args below meth c ls A hx hb hr hml hlk hts hown hAe hA hK hP hD hS hl hxt hE
  have hl : lv_has ls 2 [(0, .ref (qa 0 0)), (1, .int x1)] := hl
  generalize hQ : vx_MQ below (pw_NQ (W3 cy qa P T S nw hz ak pa wt cd ln) sz) (pw_XC D k (W3 cy qa P T S nw hz ak pa wt cd ln) sz) args s 1 6 (va_A (W3 cy qa P T S nw hz ak pa wt cd ln) sz) = Q
  have hF : CallFix p m c cX3_give 2 s args aX3_give RX3 := ⟨hx, hb, hml, hown, hts⟩
  have hta : ∀ w ∈ pw_all, w.before args s = true := fun w h => hts w (List.mem_cons_of_mem _ h)
  have hin3 : ∀ w ∈ wsX30, w ∈ aX3_give := fun w h => List.mem_cons_of_mem _ (inA3 w h)
  have hin2 : ∀ w ∈ wsX20, w ∈ aX3_give := fun w h => List.mem_cons_of_mem _ (inA2 w h)
  have hin1 : ∀ w ∈ wsX10, w ∈ aX3_give := fun w h => List.mem_cons_of_mem _ (inA1 w h)
  have hin0 : ∀ w ∈ wsX00, w ∈ aX3_give := fun w h => List.mem_cons_of_mem _ (inA0 w h)
  unfold fX3_give at h
  refine lv_iload_n hx hb dX3_give_0 rfl (lv_at hl 1 rfl) ?_
  obtain ⟨r1, hr1, h⟩ := pq_b h
  rcases pq_inl h with rfl | ⟨a2, rfl, h⟩
  · subst hQ
    subst hAe
    exact pw_tS (rest := []) (As := [.int x1]) hF (kX3_requirePlace_t l hfl D cy _ x1 k hr1) (cwS 1 hts (pw_gS (own := RX3) (idx := 66) (y := yX3_requirePlace) aw_478 aw_479 aw_1 aw_480) rfl rfl rfl pX3_requirePlace ⟨Nat.le_of_ble_eq_true rfl, Nat.le_of_ble_eq_true rfl⟩) hK hP hD hS hE rfl hl.1 rfl (Nat.le_of_ble_eq_true rfl) dX3_give_1 hxt hlk (Nat.le_of_ble_eq_true rfl) (Nat.le_of_ble_eq_true rfl) (Nat.le_of_ble_eq_true rfl) (Nat.le_of_ble_eq_true rfl) hA
  · refine pw_sv (rest := []) (As := [.int x1]) hF (kX3_requirePlace l D cy _ x1 a2 hr1) (cwS 1 hts (pw_gS (own := RX3) (idx := 66) (y := yX3_requirePlace) aw_478 aw_479 aw_1 aw_480) rfl rfl rfl pX3_requirePlace ⟨Nat.le_of_ble_eq_true rfl, Nat.le_of_ble_eq_true rfl⟩) hK hP hS hA rfl hl.1 rfl (Nat.le_of_ble_eq_true rfl) dX3_give_1 ⟨Nat.zero_le _, Nat.zero_le _⟩ (fun H locs hP hS => ?_)
    refine lv_aload_n hx hb dX3_give_4 rfl (lv_at hl 0 rfl) ?_
    refine va_get (D := D) (ci := 3) (v := .ref (qa 1 0)) (C := RX3) (T := TX3) (N := 7) hx hb hts hin3 hown hK hP 0 rfl rfl 0 (by decide) (hta _ aw_124) (fun _ h9 => h9) rfl dX3_give_5 ?_
    refine lv_iload_n hx hb dX3_give_8 rfl (lv_at hl 1 rfl) ?_
    obtain ⟨r3, hr3, h⟩ := pq_b h
    refine pw_fi (ws0 := W3 cy qa P T S nw hz ak pa wt cd ln) (ws1 := W3 cy qa P T S nw hz ak pa wt cd ln) (wc := WP cy (qa 1) P) (w1 := WP cy (qa 1) P) (rest := []) (As := [.int x1]) hF (kX2_canTakeBack l D cy (qa 1) _ P x1 r3 hr3) (cwV 1 hts (pw_gV (own := RX3) (idx := 69) (C := RX2) (y := yX2_canTakeBack) aw_482 aw_483 aw_484 aw_2 aw_485) rfl rfl rfl pX2_canTakeBack ⟨Nat.le_of_ble_eq_true rfl, Nat.le_of_ble_eq_true rfl⟩) 2 (RX2, TX2, 16) rfl rfl ⟨0, _, rfl⟩ hK hP hD hS hA (pw_s3 _ _ _ _ _) (pw_s3 _ _ _ _ _) rfl rfl hl.1 rfl (Nat.le_of_ble_eq_true rfl) dX3_give_9 ⟨Nat.zero_le _, Nat.zero_le _⟩ (fun H locs hP hD hS => ?_)
    refine lv_if_ne (tgt := 25) hx hb dX3_give_12 (by decide) (fun c1_ => ?_) (fun c1_ => ?_)
    · have h := pq_e c1_ h
      refine lv_aload_n hx hb dX3_give_25 rfl (lv_at hl 0 rfl) ?_
      refine va_get (D := D) (ci := 3) (v := .ref (qa 4 0)) (C := RX3) (T := TX3) (N := 7) hx hb hts hin3 hown hK hP 0 rfl rfl 5 (by decide) (hta _ aw_129) (fun _ h9 => h9) rfl dX3_give_26 ?_
      refine lv_aload_n hx hb dX3_give_29 rfl (lv_at hl 0 rfl) ?_
      refine va_get (D := D) (ci := 3) (v := .ref (qa 1 0)) (C := RX3) (T := TX3) (N := 7) hx hb hts hin3 hown hK hP 0 rfl rfl 0 (by decide) (hta _ aw_124) (fun _ h9 => h9) rfl dX3_give_30 ?_
      obtain ⟨r4, hr4, h⟩ := pq_b h
      refine pw_fv (ws0 := W3 cy qa P T S nw hz ak pa wt cd ln) (ws1 := W3 cy qa P T r4.1 r4.2.1 r4.2.2 ak pa wt cd ln) (wc := WP cy (qa 1) P ++ WH cy qa S nw hz) (w1 := WP cy (qa 1) P ++ WH cy qa r4.1 r4.2.1 r4.2.2) (rest := []) (As := [.ref (qa 1 0)]) hF (kX1_save l D cy qa _ P S nw hz r4 hr4) (cwV 1 hts (pw_gV (own := RX3) (idx := 58) (C := RX1) (y := yX1_save) aw_150 aw_151 aw_152 aw_4 aw_153) rfl rfl rfl pX1_save ⟨Nat.le_of_ble_eq_true rfl, Nat.le_of_ble_eq_true rfl⟩) 1 (RX1, TX1, 3) rfl rfl ⟨15, _, rfl⟩ hK hP hD hS hA (pw_s34 _ _ _ _ _) (pw_s34 _ _ _ _ _) rfl rfl hl.1 rfl (Nat.le_of_ble_eq_true rfl) dX3_give_33 ⟨Nat.zero_le _, Nat.zero_le _⟩ (fun H locs hP hD hS => ?_)
      refine lv_aload_n hx hb dX3_give_36 rfl (lv_at hl 0 rfl) ?_
      refine va_get (D := D) (ci := 3) (v := .ref (qa 1 0)) (C := RX3) (T := TX3) (N := 7) hx hb hts hin3 hown hK hP 0 rfl rfl 0 (by decide) (hta _ aw_124) (fun _ h9 => h9) rfl dX3_give_37 ?_
      refine lv_iload_n hx hb dX3_give_40 rfl (lv_at hl 1 rfl) ?_
      obtain ⟨r5, hr5, h⟩ := pq_b h
      refine pw_fv (ws0 := W3 cy qa P T r4.1 r4.2.1 r4.2.2 ak pa wt cd ln) (ws1 := W3 cy qa r5 T r4.1 r4.2.1 r4.2.2 ak pa wt cd ln) (wc := WP cy (qa 1) P) (w1 := WP cy (qa 1) r5) (rest := []) (As := [.int x1]) hF (kX2_takeBack l D cy (qa 1) _ P x1 r5 hr5) (cwV 1 hts (pw_gV (own := RX3) (idx := 74) (C := RX2) (y := yX2_takeBack) aw_487 aw_488 aw_489 aw_2 aw_490) rfl rfl rfl pX2_takeBack ⟨Nat.le_of_ble_eq_true rfl, Nat.le_of_ble_eq_true rfl⟩) 2 (RX2, TX2, 16) rfl rfl ⟨0, _, rfl⟩ hK hP hD hS hA (pw_s3 _ _ _ _ _) (pw_s3 _ _ _ _ _) rfl rfl hl.1 rfl (Nat.le_of_ble_eq_true rfl) dX3_give_41 ⟨Nat.zero_le _, Nat.zero_le _⟩ (fun H locs hP hD hS => ?_)
      refine lv_aload_n hx hb dX3_give_44 rfl (lv_at hl 0 rfl) ?_
      refine va_get (D := D) (ci := 3) (v := .ref (qa 1 0)) (C := RX3) (T := TX3) (N := 7) hx hb hts hin3 hown hK hP 0 rfl rfl 0 (by decide) (hta _ aw_124) (fun _ h9 => h9) rfl dX3_give_45 ?_
      refine lv_iload_n hx hb dX3_give_48 rfl (lv_at hl 1 rfl) ?_
      obtain ⟨r6, hr6, h⟩ := pq_b h
      refine pw_fi (ws0 := W3 cy qa r5 T r4.1 r4.2.1 r4.2.2 ak pa wt cd ln) (ws1 := W3 cy qa r5 T r4.1 r4.2.1 r4.2.2 ak pa wt cd ln) (wc := WP cy (qa 1) r5) (w1 := WP cy (qa 1) r5) (rest := []) (As := [.int x1]) hF (kX2_borrower l D cy (qa 1) _ r5 x1 r6 hr6) (cwV 1 hts (pw_gV (own := RX3) (idx := 77) (C := RX2) (y := yX2_borrower) aw_491 aw_360 aw_361 aw_2 aw_362) rfl rfl rfl pX2_borrower ⟨Nat.le_of_ble_eq_true rfl, Nat.le_of_ble_eq_true rfl⟩) 2 (RX2, TX2, 16) rfl rfl ⟨0, _, rfl⟩ hK hP hD hS hA (pw_s3 _ _ _ _ _) (pw_s3 _ _ _ _ _) rfl rfl hl.1 rfl (Nat.le_of_ble_eq_true rfl) dX3_give_49 ⟨Nat.zero_le _, Nat.zero_le _⟩ (fun H locs hP hD hS => ?_)
      exact nomatch h
    · have h := pq_t c1_ h
      obtain rfl := Sum.inl.inj (Option.some.inj h)
      subst hQ
      subst hAe
      exact pw_throwS (own := RX3) (cls := "java/lang/IllegalStateException") (text := "the connection is not lent, or its owner has vanished") (ik := 51) (is := 72) (ic := 55) hx hb hfl hown hlk (by decide +kernel) (hta _ aw_455) (hta _ aw_11) (by decide +kernel) (fun w hw => hta w (pw_at55 w hw)) pw_nt55 pw_gt55 hE hP hS hl.1 hml hxt dX3_give_15 dX3_give_18 dX3_give_19 dX3_give_21 dX3_give_24 (Nat.le_of_ble_eq_true rfl) (Nat.le_of_ble_eq_true rfl) (Nat.le_of_ble_eq_true rfl) (Nat.le_of_ble_eq_true rfl) rfl (Nat.le_of_ble_eq_true rfl) (Nat.le_of_ble_eq_true rfl)

set_option maxHeartbeats 8000000 in
set_option maxRecDepth 100000 in
theorem kX3_giveUp_t (l : Launch) (hfl : l.stackTraces = false) (D : va_G) (cy : Nat → ClassId) (qa : Nat → Nat → Nat) (sz : Nat) (P : Nat → Nat → Int32) (T : Nat → Nat → Int32) (S : Nat → Nat → Nat → Int32) (nw : Int32) (hz : Int32) (ak : Nat → Int32) (pa : Nat → Int32) (wt : Nat → Int32) (cd : Nat → Int32) (ln : Int32) (x1 : Int32) (k : Nat) (h : fX3_giveUp x1 P S nw hz = some (Sum.inl k)) : vx_Met l yX3_giveUp aX3_giveUp ({ frames := 7, cells := 1, slots := 6, locals := 113 }) (pw_PreE D cy [.ref (qa 0 0), .int x1] (W3 cy qa P T S nw hz ak pa wt cd ln) sz) (pw_NQ (W3 cy qa P T S nw hz ak pa wt cd ln) sz) (pw_XC D k (W3 cy qa P T S nw hz ak pa wt cd ln) sz) 1 6 (va_A (W3 cy qa P T S nw hz ak pa wt cd ln) sz) := by
  refine pw_metX (cc := cX3_giveUp) (maxL := 3) (ret := (some .int)) (by decide) rfl (Nat.le_of_ble_eq_true rfl) ?_
  intro p e s m args below meth c ls A hx hb hr hml hlk hts hown hAe hA hK hP hD hS hl hxt hE
  have hl : lv_has ls 3 [(0, .ref (qa 0 0)), (1, .int x1)] := hl
  generalize hQ : vx_MQ below (pw_NQ (W3 cy qa P T S nw hz ak pa wt cd ln) sz) (pw_XC D k (W3 cy qa P T S nw hz ak pa wt cd ln) sz) args s 1 6 (va_A (W3 cy qa P T S nw hz ak pa wt cd ln) sz) = Q
  have hF : CallFix p m c cX3_giveUp 3 s args aX3_giveUp RX3 := ⟨hx, hb, hml, hown, hts⟩
  have hta : ∀ w ∈ pw_all, w.before args s = true := fun w h => hts w (List.mem_cons_of_mem _ h)
  have hin3 : ∀ w ∈ wsX30, w ∈ aX3_giveUp := fun w h => List.mem_cons_of_mem _ (inA3 w h)
  have hin2 : ∀ w ∈ wsX20, w ∈ aX3_giveUp := fun w h => List.mem_cons_of_mem _ (inA2 w h)
  have hin1 : ∀ w ∈ wsX10, w ∈ aX3_giveUp := fun w h => List.mem_cons_of_mem _ (inA1 w h)
  have hin0 : ∀ w ∈ wsX00, w ∈ aX3_giveUp := fun w h => List.mem_cons_of_mem _ (inA0 w h)
  unfold fX3_giveUp at h
  refine lv_iload_n hx hb dX3_giveUp_0 rfl (lv_at hl 1 rfl) ?_
  obtain ⟨r1, hr1, h⟩ := pq_b h
  rcases pq_inl h with rfl | ⟨a2, rfl, h⟩
  · subst hQ
    subst hAe
    exact pw_tS (rest := []) (As := [.int x1]) hF (kX3_requireOwner_t l hfl D cy _ x1 k hr1) (cwS 1 hts (pw_gS (own := RX3) (idx := 43) (y := yX3_requireOwner) aw_436 aw_437 aw_1 aw_438) rfl rfl rfl pX3_requireOwner ⟨Nat.le_of_ble_eq_true rfl, Nat.le_of_ble_eq_true rfl⟩) hK hP hD hS hE rfl hl.1 rfl (Nat.le_of_ble_eq_true rfl) dX3_giveUp_1 hxt hlk (Nat.le_of_ble_eq_true rfl) (Nat.le_of_ble_eq_true rfl) (Nat.le_of_ble_eq_true rfl) (Nat.le_of_ble_eq_true rfl) hA
  · refine pw_sv (rest := []) (As := [.int x1]) hF (kX3_requireOwner l D cy _ x1 a2 hr1) (cwS 1 hts (pw_gS (own := RX3) (idx := 43) (y := yX3_requireOwner) aw_436 aw_437 aw_1 aw_438) rfl rfl rfl pX3_requireOwner ⟨Nat.le_of_ble_eq_true rfl, Nat.le_of_ble_eq_true rfl⟩) hK hP hS hA rfl hl.1 rfl (Nat.le_of_ble_eq_true rfl) dX3_giveUp_1 ⟨Nat.zero_le _, Nat.zero_le _⟩ (fun H locs hP hS => ?_)
    refine lv_aload_n hx hb dX3_giveUp_4 rfl (lv_at hl 0 rfl) ?_
    refine va_get (D := D) (ci := 3) (v := .ref (qa 1 0)) (C := RX3) (T := TX3) (N := 7) hx hb hts hin3 hown hK hP 0 rfl rfl 0 (by decide) (hta _ aw_124) (fun _ h9 => h9) rfl dX3_giveUp_5 ?_
    refine lv_iload_n hx hb dX3_giveUp_8 rfl (lv_at hl 1 rfl) ?_
    obtain ⟨r3, hr3, h⟩ := pq_b h
    refine pw_fi (ws0 := W3 cy qa P T S nw hz ak pa wt cd ln) (ws1 := W3 cy qa P T S nw hz ak pa wt cd ln) (wc := WP cy (qa 1) P) (w1 := WP cy (qa 1) P) (rest := []) (As := [.int x1]) hF (kX2_turnOf l D cy (qa 1) _ P x1 r3 hr3) (cwV 1 hts (pw_gV (own := RX3) (idx := 80) (C := RX2) (y := yX2_turnOf) aw_499 aw_395 aw_396 aw_2 aw_397) rfl rfl rfl pX2_turnOf ⟨Nat.le_of_ble_eq_true rfl, Nat.le_of_ble_eq_true rfl⟩) 2 (RX2, TX2, 16) rfl rfl ⟨0, _, rfl⟩ hK hP hD hS hA (pw_s3 _ _ _ _ _) (pw_s3 _ _ _ _ _) rfl rfl hl.1 rfl (Nat.le_of_ble_eq_true rfl) dX3_giveUp_9 ⟨Nat.zero_le _, Nat.zero_le _⟩ (fun H locs hP hD hS => ?_)
    refine lv_iconst (v := (-1)) hx hb dX3_giveUp_12 (by decide) ?_
    refine lv_icmp_ne (tgt := 26) hx hb dX3_giveUp_13 (by decide) (fun c1_ => ?_) (fun c1_ => ?_)
    · have h := pq_e c1_ h
      refine lv_aload_n hx hb dX3_giveUp_26 rfl (lv_at hl 0 rfl) ?_
      refine va_get (D := D) (ci := 3) (v := .ref (qa 4 0)) (C := RX3) (T := TX3) (N := 7) hx hb hts hin3 hown hK hP 0 rfl rfl 5 (by decide) (hta _ aw_129) (fun _ h9 => h9) rfl dX3_giveUp_27 ?_
      refine lv_aload_n hx hb dX3_giveUp_30 rfl (lv_at hl 0 rfl) ?_
      refine va_get (D := D) (ci := 3) (v := .ref (qa 1 0)) (C := RX3) (T := TX3) (N := 7) hx hb hts hin3 hown hK hP 0 rfl rfl 0 (by decide) (hta _ aw_124) (fun _ h9 => h9) rfl dX3_giveUp_31 ?_
      obtain ⟨r4, hr4, h⟩ := pq_b h
      refine pw_fv (ws0 := W3 cy qa P T S nw hz ak pa wt cd ln) (ws1 := W3 cy qa P T r4.1 r4.2.1 r4.2.2 ak pa wt cd ln) (wc := WP cy (qa 1) P ++ WH cy qa S nw hz) (w1 := WP cy (qa 1) P ++ WH cy qa r4.1 r4.2.1 r4.2.2) (rest := []) (As := [.ref (qa 1 0)]) hF (kX1_save l D cy qa _ P S nw hz r4 hr4) (cwV 1 hts (pw_gV (own := RX3) (idx := 58) (C := RX1) (y := yX1_save) aw_150 aw_151 aw_152 aw_4 aw_153) rfl rfl rfl pX1_save ⟨Nat.le_of_ble_eq_true rfl, Nat.le_of_ble_eq_true rfl⟩) 1 (RX1, TX1, 3) rfl rfl ⟨15, _, rfl⟩ hK hP hD hS hA (pw_s34 _ _ _ _ _) (pw_s34 _ _ _ _ _) rfl rfl hl.1 rfl (Nat.le_of_ble_eq_true rfl) dX3_giveUp_34 ⟨Nat.zero_le _, Nat.zero_le _⟩ (fun H locs hP hD hS => ?_)
      refine lv_aload_n hx hb dX3_giveUp_37 rfl (lv_at hl 0 rfl) ?_
      refine va_get (D := D) (ci := 3) (v := .ref (qa 1 0)) (C := RX3) (T := TX3) (N := 7) hx hb hts hin3 hown hK hP 0 rfl rfl 0 (by decide) (hta _ aw_124) (fun _ h9 => h9) rfl dX3_giveUp_38 ?_
      refine lv_iload_n hx hb dX3_giveUp_41 rfl (lv_at hl 1 rfl) ?_
      obtain ⟨r5, hr5, h⟩ := pq_b h
      refine pw_fi (ws0 := W3 cy qa P T r4.1 r4.2.1 r4.2.2 ak pa wt cd ln) (ws1 := W3 cy qa P T r4.1 r4.2.1 r4.2.2 ak pa wt cd ln) (wc := WP cy (qa 1) P) (w1 := WP cy (qa 1) P) (rest := []) (As := [.int x1]) hF (kX2_waitOf l D cy (qa 1) _ P x1 r5 hr5) (cwV 1 hts (pw_gV (own := RX3) (idx := 85) (C := RX2) (y := yX2_waitOf) aw_501 aw_399 aw_400 aw_2 aw_401) rfl rfl rfl pX2_waitOf ⟨Nat.le_of_ble_eq_true rfl, Nat.le_of_ble_eq_true rfl⟩) 2 (RX2, TX2, 16) rfl rfl ⟨0, _, rfl⟩ hK hP hD hS hA (pw_s3 _ _ _ _ _) (pw_s3 _ _ _ _ _) rfl rfl hl.1 rfl (Nat.le_of_ble_eq_true rfl) dX3_giveUp_42 ⟨Nat.zero_le _, Nat.zero_le _⟩ (fun H locs hP hD hS => ?_)
      refine lv_istore_n (lv' := [(2, .int r5), (0, .ref (qa 0 0)), (1, .int x1)]) hx hb dX3_giveUp_45 rfl hl (by decide) rfl (fun ls hl => ?_)
      refine lv_aload_n hx hb dX3_giveUp_46 rfl (lv_at hl 1 rfl) ?_
      refine va_get (D := D) (ci := 3) (v := .ref (qa 1 0)) (C := RX3) (T := TX3) (N := 7) hx hb hts hin3 hown hK hP 0 rfl rfl 0 (by decide) (hta _ aw_124) (fun _ h9 => h9) rfl dX3_giveUp_47 ?_
      refine lv_iload_n hx hb dX3_giveUp_50 rfl (lv_at hl 2 rfl) ?_
      obtain ⟨r6, hr6, h⟩ := pq_b h
      refine pw_fv (ws0 := W3 cy qa P T r4.1 r4.2.1 r4.2.2 ak pa wt cd ln) (ws1 := W3 cy qa r6 T r4.1 r4.2.1 r4.2.2 ak pa wt cd ln) (wc := WP cy (qa 1) P) (w1 := WP cy (qa 1) r6) (rest := []) (As := [.int x1]) hF (kX2_stopWaiting l D cy (qa 1) _ P x1 r6 hr6) (cwV 1 hts (pw_gV (own := RX3) (idx := 88) (C := RX2) (y := yX2_stopWaiting) aw_502 aw_503 aw_504 aw_2 aw_505) rfl rfl rfl pX2_stopWaiting ⟨Nat.le_of_ble_eq_true rfl, Nat.le_of_ble_eq_true rfl⟩) 2 (RX2, TX2, 16) rfl rfl ⟨0, _, rfl⟩ hK hP hD hS hA (pw_s3 _ _ _ _ _) (pw_s3 _ _ _ _ _) rfl rfl hl.1 rfl (Nat.le_of_ble_eq_true rfl) dX3_giveUp_51 ⟨Nat.zero_le _, Nat.zero_le _⟩ (fun H locs hP hD hS => ?_)
      refine lv_iload_n hx hb dX3_giveUp_54 rfl (lv_at hl 0 rfl) ?_
      exact nomatch h
    · have h := pq_t c1_ h
      obtain rfl := Sum.inl.inj (Option.some.inj h)
      subst hQ
      subst hAe
      exact pw_throwS (own := RX3) (cls := "java/lang/IllegalStateException") (text := "the owner does not wait") (ik := 51) (is := 83) (ic := 55) hx hb hfl hown hlk (by decide +kernel) (hta _ aw_455) (hta _ aw_11) (by decide +kernel) (fun w hw => hta w (pw_at55 w hw)) pw_nt55 pw_gt55 hE hP hS hl.1 hml hxt dX3_giveUp_16 dX3_giveUp_19 dX3_giveUp_20 dX3_giveUp_22 dX3_giveUp_25 (Nat.le_of_ble_eq_true rfl) (Nat.le_of_ble_eq_true rfl) (Nat.le_of_ble_eq_true rfl) (Nat.le_of_ble_eq_true rfl) rfl (Nat.le_of_ble_eq_true rfl) (Nat.le_of_ble_eq_true rfl)

set_option maxHeartbeats 8000000 in
set_option maxRecDepth 100000 in
theorem kX3_appear_t (l : Launch) (hfl : l.stackTraces = false) (D : va_G) (cy : Nat → ClassId) (qa : Nat → Nat → Nat) (sz : Nat) (P : Nat → Nat → Int32) (T : Nat → Nat → Int32) (S : Nat → Nat → Nat → Int32) (nw : Int32) (hz : Int32) (ak : Nat → Int32) (pa : Nat → Int32) (wt : Nat → Int32) (cd : Nat → Int32) (ln : Int32) (x1 : Int32) (x2 : Int32) (k : Nat) (h : fX3_appear x1 x2 P S nw hz = some (Sum.inl k)) : vx_Met l yX3_appear aX3_appear ({ frames := 7, cells := 1, slots := 6, locals := 114 }) (pw_PreE D cy [.ref (qa 0 0), .int x1, .int x2] (W3 cy qa P T S nw hz ak pa wt cd ln) sz) (pw_NQ (W3 cy qa P T S nw hz ak pa wt cd ln) sz) (pw_XC D k (W3 cy qa P T S nw hz ak pa wt cd ln) sz) 1 6 (va_A (W3 cy qa P T S nw hz ak pa wt cd ln) sz) := by
  refine pw_metX (cc := cX3_appear) (maxL := 3) (ret := (some .int)) (by decide) rfl (Nat.le_of_ble_eq_true rfl) ?_
  intro p e s m args below meth c ls A hx hb hr hml hlk hts hown hAe hA hK hP hD hS hl hxt hE
  have hl : lv_has ls 3 [(0, .ref (qa 0 0)), (1, .int x1), (2, .int x2)] := hl
  generalize hQ : vx_MQ below (pw_NQ (W3 cy qa P T S nw hz ak pa wt cd ln) sz) (pw_XC D k (W3 cy qa P T S nw hz ak pa wt cd ln) sz) args s 1 6 (va_A (W3 cy qa P T S nw hz ak pa wt cd ln) sz) = Q
  have hF : CallFix p m c cX3_appear 3 s args aX3_appear RX3 := ⟨hx, hb, hml, hown, hts⟩
  have hta : ∀ w ∈ pw_all, w.before args s = true := fun w h => hts w (List.mem_cons_of_mem _ h)
  have hin3 : ∀ w ∈ wsX30, w ∈ aX3_appear := fun w h => List.mem_cons_of_mem _ (inA3 w h)
  have hin2 : ∀ w ∈ wsX20, w ∈ aX3_appear := fun w h => List.mem_cons_of_mem _ (inA2 w h)
  have hin1 : ∀ w ∈ wsX10, w ∈ aX3_appear := fun w h => List.mem_cons_of_mem _ (inA1 w h)
  have hin0 : ∀ w ∈ wsX00, w ∈ aX3_appear := fun w h => List.mem_cons_of_mem _ (inA0 w h)
  unfold fX3_appear at h
  refine lv_iload_n hx hb dX3_appear_0 rfl (lv_at hl 1 rfl) ?_
  obtain ⟨r1, hr1, h⟩ := pq_b h
  rcases pq_inl h with rfl | ⟨a2, rfl, h⟩
  · subst hQ
    subst hAe
    exact pw_tS (rest := []) (As := [.int x1]) hF (kX3_requireOwner_t l hfl D cy _ x1 k hr1) (cwS 1 hts (pw_gS (own := RX3) (idx := 43) (y := yX3_requireOwner) aw_436 aw_437 aw_1 aw_438) rfl rfl rfl pX3_requireOwner ⟨Nat.le_of_ble_eq_true rfl, Nat.le_of_ble_eq_true rfl⟩) hK hP hD hS hE rfl hl.1 rfl (Nat.le_of_ble_eq_true rfl) dX3_appear_1 hxt hlk (Nat.le_of_ble_eq_true rfl) (Nat.le_of_ble_eq_true rfl) (Nat.le_of_ble_eq_true rfl) (Nat.le_of_ble_eq_true rfl) hA
  · refine pw_sv (rest := []) (As := [.int x1]) hF (kX3_requireOwner l D cy _ x1 a2 hr1) (cwS 1 hts (pw_gS (own := RX3) (idx := 43) (y := yX3_requireOwner) aw_436 aw_437 aw_1 aw_438) rfl rfl rfl pX3_requireOwner ⟨Nat.le_of_ble_eq_true rfl, Nat.le_of_ble_eq_true rfl⟩) hK hP hS hA rfl hl.1 rfl (Nat.le_of_ble_eq_true rfl) dX3_appear_1 ⟨Nat.zero_le _, Nat.zero_le _⟩ (fun H locs hP hS => ?_)
    refine lv_aload_n hx hb dX3_appear_4 rfl (lv_at hl 0 rfl) ?_
    refine va_get (D := D) (ci := 3) (v := .ref (qa 1 0)) (C := RX3) (T := TX3) (N := 7) hx hb hts hin3 hown hK hP 0 rfl rfl 0 (by decide) (hta _ aw_124) (fun _ h9 => h9) rfl dX3_appear_5 ?_
    refine lv_iload_n hx hb dX3_appear_8 rfl (lv_at hl 1 rfl) ?_
    obtain ⟨r3, hr3, h⟩ := pq_b h
    refine pw_fi (ws0 := W3 cy qa P T S nw hz ak pa wt cd ln) (ws1 := W3 cy qa P T S nw hz ak pa wt cd ln) (wc := WP cy (qa 1) P) (w1 := WP cy (qa 1) P) (rest := []) (As := [.int x1]) hF (kX2_isThere l D cy (qa 1) _ P x1 r3 hr3) (cwV 1 hts (pw_gV (own := RX3) (idx := 91) (C := RX2) (y := yX2_isThere) aw_513 aw_391 aw_392 aw_2 aw_393) rfl rfl rfl pX2_isThere ⟨Nat.le_of_ble_eq_true rfl, Nat.le_of_ble_eq_true rfl⟩) 2 (RX2, TX2, 16) rfl rfl ⟨0, _, rfl⟩ hK hP hD hS hA (pw_s3 _ _ _ _ _) (pw_s3 _ _ _ _ _) rfl rfl hl.1 rfl (Nat.le_of_ble_eq_true rfl) dX3_appear_9 ⟨Nat.zero_le _, Nat.zero_le _⟩ (fun H locs hP hD hS => ?_)
    refine lv_iload_n hx hb dX3_appear_12 rfl (lv_at hl 2 rfl) ?_
    refine lv_icmp_ne (tgt := 26) hx hb dX3_appear_13 (by decide) (fun c1_ => ?_) (fun c1_ => ?_)
    · have h := pq_e c1_ h
      refine lv_aload_n hx hb dX3_appear_26 rfl (lv_at hl 0 rfl) ?_
      refine va_get (D := D) (ci := 3) (v := .ref (qa 4 0)) (C := RX3) (T := TX3) (N := 7) hx hb hts hin3 hown hK hP 0 rfl rfl 5 (by decide) (hta _ aw_129) (fun _ h9 => h9) rfl dX3_appear_27 ?_
      refine lv_aload_n hx hb dX3_appear_30 rfl (lv_at hl 0 rfl) ?_
      refine va_get (D := D) (ci := 3) (v := .ref (qa 1 0)) (C := RX3) (T := TX3) (N := 7) hx hb hts hin3 hown hK hP 0 rfl rfl 0 (by decide) (hta _ aw_124) (fun _ h9 => h9) rfl dX3_appear_31 ?_
      obtain ⟨r4, hr4, h⟩ := pq_b h
      refine pw_fv (ws0 := W3 cy qa P T S nw hz ak pa wt cd ln) (ws1 := W3 cy qa P T r4.1 r4.2.1 r4.2.2 ak pa wt cd ln) (wc := WP cy (qa 1) P ++ WH cy qa S nw hz) (w1 := WP cy (qa 1) P ++ WH cy qa r4.1 r4.2.1 r4.2.2) (rest := []) (As := [.ref (qa 1 0)]) hF (kX1_save l D cy qa _ P S nw hz r4 hr4) (cwV 1 hts (pw_gV (own := RX3) (idx := 58) (C := RX1) (y := yX1_save) aw_150 aw_151 aw_152 aw_4 aw_153) rfl rfl rfl pX1_save ⟨Nat.le_of_ble_eq_true rfl, Nat.le_of_ble_eq_true rfl⟩) 1 (RX1, TX1, 3) rfl rfl ⟨15, _, rfl⟩ hK hP hD hS hA (pw_s34 _ _ _ _ _) (pw_s34 _ _ _ _ _) rfl rfl hl.1 rfl (Nat.le_of_ble_eq_true rfl) dX3_appear_34 ⟨Nat.zero_le _, Nat.zero_le _⟩ (fun H locs hP hD hS => ?_)
      refine lv_aload_n hx hb dX3_appear_37 rfl (lv_at hl 0 rfl) ?_
      refine va_get (D := D) (ci := 3) (v := .ref (qa 1 0)) (C := RX3) (T := TX3) (N := 7) hx hb hts hin3 hown hK hP 0 rfl rfl 0 (by decide) (hta _ aw_124) (fun _ h9 => h9) rfl dX3_appear_38 ?_
      refine lv_iload_n hx hb dX3_appear_41 rfl (lv_at hl 1 rfl) ?_
      refine lv_iload_n hx hb dX3_appear_42 rfl (lv_at hl 2 rfl) ?_
      obtain ⟨r5, hr5, h⟩ := pq_b h
      refine pw_fv (ws0 := W3 cy qa P T r4.1 r4.2.1 r4.2.2 ak pa wt cd ln) (ws1 := W3 cy qa r5 T r4.1 r4.2.1 r4.2.2 ak pa wt cd ln) (wc := WP cy (qa 1) P) (w1 := WP cy (qa 1) r5) (rest := []) (As := [.int x1, .int x2]) hF (kX2_turnUp l D cy (qa 1) _ P x1 x2 r5 hr5) (cwV 2 hts (pw_gV (own := RX3) (idx := 96) (C := RX2) (y := yX2_turnUp) aw_515 aw_516 aw_517 aw_2 aw_518) rfl rfl rfl pX2_turnUp ⟨Nat.le_of_ble_eq_true rfl, Nat.le_of_ble_eq_true rfl⟩) 2 (RX2, TX2, 16) rfl rfl ⟨0, _, rfl⟩ hK hP hD hS hA (pw_s3 _ _ _ _ _) (pw_s3 _ _ _ _ _) rfl rfl hl.1 rfl (Nat.le_of_ble_eq_true rfl) dX3_appear_43 ⟨Nat.zero_le _, Nat.zero_le _⟩ (fun H locs hP hD hS => ?_)
      refine lv_aload_n hx hb dX3_appear_46 rfl (lv_at hl 0 rfl) ?_
      refine va_get (D := D) (ci := 3) (v := .ref (qa 1 0)) (C := RX3) (T := TX3) (N := 7) hx hb hts hin3 hown hK hP 0 rfl rfl 0 (by decide) (hta _ aw_124) (fun _ h9 => h9) rfl dX3_appear_47 ?_
      refine lv_iload_n hx hb dX3_appear_50 rfl (lv_at hl 1 rfl) ?_
      obtain ⟨r6, hr6, h⟩ := pq_b h
      refine pw_fi (ws0 := W3 cy qa r5 T r4.1 r4.2.1 r4.2.2 ak pa wt cd ln) (ws1 := W3 cy qa r5 T r4.1 r4.2.1 r4.2.2 ak pa wt cd ln) (wc := WP cy (qa 1) r5) (w1 := WP cy (qa 1) r5) (rest := []) (As := [.int x1]) hF (kX2_lentCount l D cy (qa 1) _ r5 x1 r6 hr6) (cwV 1 hts (pw_gV (own := RX3) (idx := 100) (C := RX2) (y := yX2_lentCount) aw_255 aw_186 aw_187 aw_2 aw_188) rfl rfl rfl pX2_lentCount ⟨Nat.le_of_ble_eq_true rfl, Nat.le_of_ble_eq_true rfl⟩) 2 (RX2, TX2, 16) rfl rfl ⟨0, _, rfl⟩ hK hP hD hS hA (pw_s3 _ _ _ _ _) (pw_s3 _ _ _ _ _) rfl rfl hl.1 rfl (Nat.le_of_ble_eq_true rfl) dX3_appear_51 ⟨Nat.zero_le _, Nat.zero_le _⟩ (fun H locs hP hD hS => ?_)
      exact nomatch h
    · have h := pq_t c1_ h
      obtain rfl := Sum.inl.inj (Option.some.inj h)
      subst hQ
      subst hAe
      exact pw_throwS (own := RX3) (cls := "java/lang/IllegalStateException") (text := "the owner is so already") (ik := 51) (is := 94) (ic := 55) hx hb hfl hown hlk (by decide +kernel) (hta _ aw_455) (hta _ aw_11) (by decide +kernel) (fun w hw => hta w (pw_at55 w hw)) pw_nt55 pw_gt55 hE hP hS hl.1 hml hxt dX3_appear_16 dX3_appear_19 dX3_appear_20 dX3_appear_22 dX3_appear_25 (Nat.le_of_ble_eq_true rfl) (Nat.le_of_ble_eq_true rfl) (Nat.le_of_ble_eq_true rfl) (Nat.le_of_ble_eq_true rfl) rfl (Nat.le_of_ble_eq_true rfl) (Nat.le_of_ble_eq_true rfl)

set_option maxHeartbeats 8000000 in
set_option maxRecDepth 100000 in
theorem kX3_sicken_t (l : Launch) (hfl : l.stackTraces = false) (D : va_G) (cy : Nat → ClassId) (qa : Nat → Nat → Nat) (sz : Nat) (P : Nat → Nat → Int32) (T : Nat → Nat → Int32) (S : Nat → Nat → Nat → Int32) (nw : Int32) (hz : Int32) (ak : Nat → Int32) (pa : Nat → Int32) (wt : Nat → Int32) (cd : Nat → Int32) (ln : Int32) (x1 : Int32) (k : Nat) (h : fX3_sicken x1 P S nw hz = some (Sum.inl k)) : vx_Met l yX3_sicken aX3_sicken ({ frames := 7, cells := 1, slots := 6, locals := 111 }) (pw_PreE D cy [.ref (qa 0 0), .int x1] (W3 cy qa P T S nw hz ak pa wt cd ln) sz) (pw_NQ (W3 cy qa P T S nw hz ak pa wt cd ln) sz) (pw_XC D k (W3 cy qa P T S nw hz ak pa wt cd ln) sz) 1 6 (va_A (W3 cy qa P T S nw hz ak pa wt cd ln) sz) := by
  refine pw_metX (cc := cX3_sicken) (maxL := 2) (ret := (some .int)) (by decide) rfl (Nat.le_of_ble_eq_true rfl) ?_
  intro p e s m args below meth c ls A hx hb hr hml hlk hts hown hAe hA hK hP hD hS hl hxt hE
  have hl : lv_has ls 2 [(0, .ref (qa 0 0)), (1, .int x1)] := hl
  generalize hQ : vx_MQ below (pw_NQ (W3 cy qa P T S nw hz ak pa wt cd ln) sz) (pw_XC D k (W3 cy qa P T S nw hz ak pa wt cd ln) sz) args s 1 6 (va_A (W3 cy qa P T S nw hz ak pa wt cd ln) sz) = Q
  have hF : CallFix p m c cX3_sicken 2 s args aX3_sicken RX3 := ⟨hx, hb, hml, hown, hts⟩
  have hta : ∀ w ∈ pw_all, w.before args s = true := fun w h => hts w (List.mem_cons_of_mem _ h)
  have hin3 : ∀ w ∈ wsX30, w ∈ aX3_sicken := fun w h => List.mem_cons_of_mem _ (inA3 w h)
  have hin2 : ∀ w ∈ wsX20, w ∈ aX3_sicken := fun w h => List.mem_cons_of_mem _ (inA2 w h)
  have hin1 : ∀ w ∈ wsX10, w ∈ aX3_sicken := fun w h => List.mem_cons_of_mem _ (inA1 w h)
  have hin0 : ∀ w ∈ wsX00, w ∈ aX3_sicken := fun w h => List.mem_cons_of_mem _ (inA0 w h)
  unfold fX3_sicken at h
  refine lv_iload_n hx hb dX3_sicken_0 rfl (lv_at hl 1 rfl) ?_
  obtain ⟨r1, hr1, h⟩ := pq_b h
  rcases pq_inl h with rfl | ⟨a2, rfl, h⟩
  · subst hQ
    subst hAe
    exact pw_tS (rest := []) (As := [.int x1]) hF (kX3_requirePlace_t l hfl D cy _ x1 k hr1) (cwS 1 hts (pw_gS (own := RX3) (idx := 66) (y := yX3_requirePlace) aw_478 aw_479 aw_1 aw_480) rfl rfl rfl pX3_requirePlace ⟨Nat.le_of_ble_eq_true rfl, Nat.le_of_ble_eq_true rfl⟩) hK hP hD hS hE rfl hl.1 rfl (Nat.le_of_ble_eq_true rfl) dX3_sicken_1 hxt hlk (Nat.le_of_ble_eq_true rfl) (Nat.le_of_ble_eq_true rfl) (Nat.le_of_ble_eq_true rfl) (Nat.le_of_ble_eq_true rfl) hA
  · refine pw_sv (rest := []) (As := [.int x1]) hF (kX3_requirePlace l D cy _ x1 a2 hr1) (cwS 1 hts (pw_gS (own := RX3) (idx := 66) (y := yX3_requirePlace) aw_478 aw_479 aw_1 aw_480) rfl rfl rfl pX3_requirePlace ⟨Nat.le_of_ble_eq_true rfl, Nat.le_of_ble_eq_true rfl⟩) hK hP hS hA rfl hl.1 rfl (Nat.le_of_ble_eq_true rfl) dX3_sicken_1 ⟨Nat.zero_le _, Nat.zero_le _⟩ (fun H locs hP hS => ?_)
    refine lv_aload_n hx hb dX3_sicken_4 rfl (lv_at hl 0 rfl) ?_
    refine va_get (D := D) (ci := 3) (v := .ref (qa 1 0)) (C := RX3) (T := TX3) (N := 7) hx hb hts hin3 hown hK hP 0 rfl rfl 0 (by decide) (hta _ aw_124) (fun _ h9 => h9) rfl dX3_sicken_5 ?_
    refine lv_iload_n hx hb dX3_sicken_8 rfl (lv_at hl 1 rfl) ?_
    obtain ⟨r3, hr3, h⟩ := pq_b h
    refine pw_fi (ws0 := W3 cy qa P T S nw hz ak pa wt cd ln) (ws1 := W3 cy qa P T S nw hz ak pa wt cd ln) (wc := WP cy (qa 1) P) (w1 := WP cy (qa 1) P) (rest := []) (As := [.int x1]) hF (kX2_isEmpty l D cy (qa 1) _ P x1 r3 hr3) (cwV 1 hts (pw_gV (own := RX3) (idx := 103) (C := RX2) (y := yX2_isEmpty) aw_526 aw_214 aw_215 aw_2 aw_216) rfl rfl rfl pX2_isEmpty ⟨Nat.le_of_ble_eq_true rfl, Nat.le_of_ble_eq_true rfl⟩) 2 (RX2, TX2, 16) rfl rfl ⟨0, _, rfl⟩ hK hP hD hS hA (pw_s3 _ _ _ _ _) (pw_s3 _ _ _ _ _) rfl rfl hl.1 rfl (Nat.le_of_ble_eq_true rfl) dX3_sicken_9 ⟨Nat.zero_le _, Nat.zero_le _⟩ (fun H locs hP hD hS => ?_)
    refine lv_if_eq (tgt := 25) hx hb dX3_sicken_12 (by decide) (fun c1_ => ?_) (fun c1_ => ?_)
    · have h := pq_t c1_ h
      refine lv_aload_n hx hb dX3_sicken_25 rfl (lv_at hl 0 rfl) ?_
      refine va_get (D := D) (ci := 3) (v := .ref (qa 4 0)) (C := RX3) (T := TX3) (N := 7) hx hb hts hin3 hown hK hP 0 rfl rfl 5 (by decide) (hta _ aw_129) (fun _ h9 => h9) rfl dX3_sicken_26 ?_
      refine lv_aload_n hx hb dX3_sicken_29 rfl (lv_at hl 0 rfl) ?_
      refine va_get (D := D) (ci := 3) (v := .ref (qa 1 0)) (C := RX3) (T := TX3) (N := 7) hx hb hts hin3 hown hK hP 0 rfl rfl 0 (by decide) (hta _ aw_124) (fun _ h9 => h9) rfl dX3_sicken_30 ?_
      obtain ⟨r4, hr4, h⟩ := pq_b h
      refine pw_fv (ws0 := W3 cy qa P T S nw hz ak pa wt cd ln) (ws1 := W3 cy qa P T r4.1 r4.2.1 r4.2.2 ak pa wt cd ln) (wc := WP cy (qa 1) P ++ WH cy qa S nw hz) (w1 := WP cy (qa 1) P ++ WH cy qa r4.1 r4.2.1 r4.2.2) (rest := []) (As := [.ref (qa 1 0)]) hF (kX1_save l D cy qa _ P S nw hz r4 hr4) (cwV 1 hts (pw_gV (own := RX3) (idx := 58) (C := RX1) (y := yX1_save) aw_150 aw_151 aw_152 aw_4 aw_153) rfl rfl rfl pX1_save ⟨Nat.le_of_ble_eq_true rfl, Nat.le_of_ble_eq_true rfl⟩) 1 (RX1, TX1, 3) rfl rfl ⟨15, _, rfl⟩ hK hP hD hS hA (pw_s34 _ _ _ _ _) (pw_s34 _ _ _ _ _) rfl rfl hl.1 rfl (Nat.le_of_ble_eq_true rfl) dX3_sicken_33 ⟨Nat.zero_le _, Nat.zero_le _⟩ (fun H locs hP hD hS => ?_)
      refine lv_aload_n hx hb dX3_sicken_36 rfl (lv_at hl 0 rfl) ?_
      refine va_get (D := D) (ci := 3) (v := .ref (qa 1 0)) (C := RX3) (T := TX3) (N := 7) hx hb hts hin3 hown hK hP 0 rfl rfl 0 (by decide) (hta _ aw_124) (fun _ h9 => h9) rfl dX3_sicken_37 ?_
      refine lv_iload_n hx hb dX3_sicken_40 rfl (lv_at hl 1 rfl) ?_
      obtain ⟨r5, hr5, h⟩ := pq_b h
      refine pw_fi (ws0 := W3 cy qa P T r4.1 r4.2.1 r4.2.2 ak pa wt cd ln) (ws1 := W3 cy qa r5.2 T r4.1 r4.2.1 r4.2.2 ak pa wt cd ln) (wc := WP cy (qa 1) P) (w1 := WP cy (qa 1) r5.2) (rest := []) (As := [.int x1]) hF (kX2_makeSick l D cy (qa 1) _ P x1 r5 hr5) (cwV 1 hts (pw_gV (own := RX3) (idx := 108) (C := RX2) (y := yX2_makeSick) aw_528 aw_529 aw_530 aw_2 aw_531) rfl rfl rfl pX2_makeSick ⟨Nat.le_of_ble_eq_true rfl, Nat.le_of_ble_eq_true rfl⟩) 2 (RX2, TX2, 16) rfl rfl ⟨0, _, rfl⟩ hK hP hD hS hA (pw_s3 _ _ _ _ _) (pw_s3 _ _ _ _ _) rfl rfl hl.1 rfl (Nat.le_of_ble_eq_true rfl) dX3_sicken_41 ⟨Nat.zero_le _, Nat.zero_le _⟩ (fun H locs hP hD hS => ?_)
      refine lv_if_eq (tgt := 51) hx hb dX3_sicken_44 (by decide) (fun c2_ => ?_) (fun c2_ => ?_)
      · have h := pq_t c2_ h
        refine lv_iconst (v := 0) hx hb dX3_sicken_51 (by decide) ?_
        exact nomatch h
      · have h := pq_e c2_ h
        refine lv_iconst (v := 1) hx hb dX3_sicken_47 (by decide) ?_
        refine lv_goto (tgt := 52) hx hb dX3_sicken_48 (by decide) ?_
        exact nomatch h
    · have h := pq_e c1_ h
      obtain rfl := Sum.inl.inj (Option.some.inj h)
      subst hQ
      subst hAe
      exact pw_throwS (own := RX3) (cls := "java/lang/IllegalStateException") (text := "the place is empty") (ik := 51) (is := 106) (ic := 55) hx hb hfl hown hlk (by decide +kernel) (hta _ aw_455) (hta _ aw_11) (by decide +kernel) (fun w hw => hta w (pw_at55 w hw)) pw_nt55 pw_gt55 hE hP hS hl.1 hml hxt dX3_sicken_15 dX3_sicken_18 dX3_sicken_19 dX3_sicken_21 dX3_sicken_24 (Nat.le_of_ble_eq_true rfl) (Nat.le_of_ble_eq_true rfl) (Nat.le_of_ble_eq_true rfl) (Nat.le_of_ble_eq_true rfl) rfl (Nat.le_of_ble_eq_true rfl) (Nat.le_of_ble_eq_true rfl)

set_option maxHeartbeats 8000000 in
set_option maxRecDepth 100000 in
theorem kX3_requireSetting_t (l : Launch) (hfl : l.stackTraces = false) (D : va_G) (cy : Nat → ClassId) (sz : Nat)  (x0 : Int32) (k : Nat) (h : fX3_requireSetting x0 = some (Sum.inl k)) : vx_Met l yX3_requireSetting aX3_requireSetting ({ frames := 6, cells := 1, slots := 6, locals := 90 }) (pw_PreE D cy [.int x0] ([]) sz) (pw_NQ ([]) sz) (pw_XC D k ([]) sz) 1 6 (va_A ([]) sz) := by
  refine pw_metX (cc := cX3_requireSetting) (maxL := 1) (ret := none) (by decide) rfl (Nat.le_of_ble_eq_true rfl) ?_
  intro p e s m args below meth c ls A hx hb hr hml hlk hts hown hAe hA hK hP hD hS hl hxt hE
  have hl : lv_has ls 1 [(0, .int x0)] := hl
  generalize hQ : vx_MQ below (pw_NQ ([]) sz) (pw_XC D k ([]) sz) args s 1 6 (va_A ([]) sz) = Q
  have hF : CallFix p m c cX3_requireSetting 1 s args aX3_requireSetting RX3 := ⟨hx, hb, hml, hown, hts⟩
  have hta : ∀ w ∈ pw_all, w.before args s = true := fun w h => hts w (List.mem_cons_of_mem _ h)
  unfold fX3_requireSetting at h
  refine lv_iload_n hx hb dX3_requireSetting_0 rfl (lv_at hl 0 rfl) ?_
  refine lv_if_lt (tgt := 10) hx hb dX3_requireSetting_1 (by decide) (fun c1_ => ?_) (fun c1_ => ?_)
  · have h := pq_t c1_ h
    obtain rfl := Sum.inl.inj (Option.some.inj h)
    subst hQ
    subst hAe
    exact pw_throwSW (own := RX3) (cls := "java/lang/IndexOutOfBoundsException") (text := "there is no such setting") (ik := 262) (is := 269) (ic := 266) hx hb hfl hown hlk (by decide +kernel) (hta _ aw_439) (hta _ aw_10) (by decide +kernel) (fun w hw => hta w (pw_at266 w hw)) pw_nt266 pw_gt266 hE hP hS hl.1 hml hxt dX3_requireSetting_10 dX3_requireSetting_13 dX3_requireSetting_14 dX3_requireSetting_17 dX3_requireSetting_20 (Nat.le_of_ble_eq_true rfl) (Nat.le_of_ble_eq_true rfl) (Nat.le_of_ble_eq_true rfl) (Nat.le_of_ble_eq_true rfl) rfl (Nat.le_of_ble_eq_true rfl) (Nat.le_of_ble_eq_true rfl)
  · have h := pq_e c1_ h
    refine lv_iload_n hx hb dX3_requireSetting_4 rfl (lv_at hl 0 rfl) ?_
    refine lv_bipush (v := 9) hx hb dX3_requireSetting_5 (by decide) ?_
    refine lv_icmp_lt (tgt := 21) hx hb dX3_requireSetting_7 (by decide) (fun c2_ => ?_) (fun c2_ => ?_)
    · have h := pq_t c2_ h
      exact nomatch h
    · have h := pq_e c2_ h
      obtain rfl := Sum.inl.inj (Option.some.inj h)
      subst hQ
      subst hAe
      exact pw_throwSW (own := RX3) (cls := "java/lang/IndexOutOfBoundsException") (text := "there is no such setting") (ik := 262) (is := 269) (ic := 266) hx hb hfl hown hlk (by decide +kernel) (hta _ aw_439) (hta _ aw_10) (by decide +kernel) (fun w hw => hta w (pw_at266 w hw)) pw_nt266 pw_gt266 hE hP hS hl.1 hml hxt dX3_requireSetting_10 dX3_requireSetting_13 dX3_requireSetting_14 dX3_requireSetting_17 dX3_requireSetting_20 (Nat.le_of_ble_eq_true rfl) (Nat.le_of_ble_eq_true rfl) (Nat.le_of_ble_eq_true rfl) (Nat.le_of_ble_eq_true rfl) rfl (Nat.le_of_ble_eq_true rfl) (Nat.le_of_ble_eq_true rfl)

set_option maxHeartbeats 8000000 in
set_option maxRecDepth 100000 in
theorem kX3_set_t (l : Launch) (hfl : l.stackTraces = false) (D : va_G) (cy : Nat → ClassId) (qa : Nat → Nat → Nat) (sz : Nat) (P : Nat → Nat → Int32) (T : Nat → Nat → Int32) (S : Nat → Nat → Nat → Int32) (nw : Int32) (hz : Int32) (ak : Nat → Int32) (pa : Nat → Int32) (wt : Nat → Int32) (cd : Nat → Int32) (ln : Int32) (x1 : Int32) (x2 : Int32) (k : Nat) (h : fX3_set x1 x2 P S nw hz = some (Sum.inl k)) : vx_Met l yX3_set aX3_set ({ frames := 7, cells := 1, slots := 6, locals := 115 }) (pw_PreE D cy [.ref (qa 0 0), .int x1, .int x2] (W3 cy qa P T S nw hz ak pa wt cd ln) sz) (pw_NQ (W3 cy qa P T S nw hz ak pa wt cd ln) sz) (pw_XC D k (W3 cy qa P T S nw hz ak pa wt cd ln) sz) 1 6 (va_A (W3 cy qa P T S nw hz ak pa wt cd ln) sz) := by
  refine pw_metX (cc := cX3_set) (maxL := 3) (ret := (some .int)) (by decide) rfl (Nat.le_of_ble_eq_true rfl) ?_
  intro p e s m args below meth c ls A hx hb hr hml hlk hts hown hAe hA hK hP hD hS hl hxt hE
  have hl : lv_has ls 3 [(0, .ref (qa 0 0)), (1, .int x1), (2, .int x2)] := hl
  generalize hQ : vx_MQ below (pw_NQ (W3 cy qa P T S nw hz ak pa wt cd ln) sz) (pw_XC D k (W3 cy qa P T S nw hz ak pa wt cd ln) sz) args s 1 6 (va_A (W3 cy qa P T S nw hz ak pa wt cd ln) sz) = Q
  have hF : CallFix p m c cX3_set 3 s args aX3_set RX3 := ⟨hx, hb, hml, hown, hts⟩
  have hta : ∀ w ∈ pw_all, w.before args s = true := fun w h => hts w (List.mem_cons_of_mem _ h)
  have hin3 : ∀ w ∈ wsX30, w ∈ aX3_set := fun w h => List.mem_cons_of_mem _ (inA3 w h)
  have hin2 : ∀ w ∈ wsX20, w ∈ aX3_set := fun w h => List.mem_cons_of_mem _ (inA2 w h)
  have hin1 : ∀ w ∈ wsX10, w ∈ aX3_set := fun w h => List.mem_cons_of_mem _ (inA1 w h)
  have hin0 : ∀ w ∈ wsX00, w ∈ aX3_set := fun w h => List.mem_cons_of_mem _ (inA0 w h)
  unfold fX3_set at h
  refine lv_iload_n hx hb dX3_set_0 rfl (lv_at hl 1 rfl) ?_
  obtain ⟨r1, hr1, h⟩ := pq_b h
  rcases pq_inl h with rfl | ⟨a2, rfl, h⟩
  · subst hQ
    subst hAe
    exact pw_tS (rest := []) (As := [.int x1]) hF (kX3_requireSetting_t l hfl D cy _ x1 k hr1) (cwS 1 hts (pw_gS (own := RX3) (idx := 121) (y := yX3_requireSetting) aw_540 aw_541 aw_1 aw_542) rfl rfl rfl pX3_requireSetting ⟨Nat.le_of_ble_eq_true rfl, Nat.le_of_ble_eq_true rfl⟩) hK hP hD hS hE rfl hl.1 rfl (Nat.le_of_ble_eq_true rfl) dX3_set_1 hxt hlk (Nat.le_of_ble_eq_true rfl) (Nat.le_of_ble_eq_true rfl) (Nat.le_of_ble_eq_true rfl) (Nat.le_of_ble_eq_true rfl) hA
  · refine pw_sv (rest := []) (As := [.int x1]) hF (kX3_requireSetting l D cy _ x1 a2 hr1) (cwS 1 hts (pw_gS (own := RX3) (idx := 121) (y := yX3_requireSetting) aw_540 aw_541 aw_1 aw_542) rfl rfl rfl pX3_requireSetting ⟨Nat.le_of_ble_eq_true rfl, Nat.le_of_ble_eq_true rfl⟩) hK hP hS hA rfl hl.1 rfl (Nat.le_of_ble_eq_true rfl) dX3_set_1 ⟨Nat.zero_le _, Nat.zero_le _⟩ (fun H locs hP hS => ?_)
    refine lv_iload_n hx hb dX3_set_4 rfl (lv_at hl 2 rfl) ?_
    obtain ⟨t6, hZ6, hT6⟩ := hE.2.2.2.2.2.1
    obtain ⟨t7, hZ7, hT7⟩ := hE.2.2.2.2.2.2.1
    obtain ⟨t8, hZ8, hT8⟩ := hE.2.2.2.2.2.2.2
    refine va_gets hx hb hZ7 hS hown (hta _ aw_544) (fun _ h9 => h9) dX3_set_5 ?_
    refine lv_iload_n hx hb dX3_set_8 rfl (lv_at hl 1 rfl) ?_
    obtain ⟨hg, h⟩ := pq_g h
    refine va_ti hx hb hT7 hS (pq_vp hg) rfl dX3_set_9 ?_
    refine lv_icmp_lt (tgt := 22) hx hb dX3_set_10 (by decide) (fun c1_ => ?_) (fun c1_ => ?_)
    · have h := pq_t c1_ h
      obtain rfl := Sum.inl.inj (Option.some.inj h)
      subst hQ
      subst hAe
      exact pw_throwS (own := RX3) (cls := "java/lang/IllegalArgumentException") (text := "the value is out of range") (ik := 130) (is := 132) (ic := 134) hx hb hfl hown hlk (by decide +kernel) (hta _ aw_276) (hta _ aw_13) (by decide +kernel) (fun w hw => hta w (pw_at134 w hw)) pw_nt134 pw_gt134 hE hP hS hl.1 hml hxt dX3_set_22 dX3_set_25 dX3_set_26 dX3_set_28 dX3_set_31 (Nat.le_of_ble_eq_true rfl) (Nat.le_of_ble_eq_true rfl) (Nat.le_of_ble_eq_true rfl) (Nat.le_of_ble_eq_true rfl) rfl (Nat.le_of_ble_eq_true rfl) (Nat.le_of_ble_eq_true rfl)
    · have h := pq_e c1_ h
      refine lv_iload_n hx hb dX3_set_13 rfl (lv_at hl 2 rfl) ?_
      obtain ⟨t6, hZ6, hT6⟩ := hE.2.2.2.2.2.1
      obtain ⟨t7, hZ7, hT7⟩ := hE.2.2.2.2.2.2.1
      obtain ⟨t8, hZ8, hT8⟩ := hE.2.2.2.2.2.2.2
      refine va_gets hx hb hZ8 hS hown (hta _ aw_546) (fun _ h9 => h9) dX3_set_14 ?_
      refine lv_iload_n hx hb dX3_set_17 rfl (lv_at hl 1 rfl) ?_
      obtain ⟨hg, h⟩ := pq_g h
      refine va_ti hx hb hT8 hS (pq_vp hg) rfl dX3_set_18 ?_
      refine lv_icmp_le (tgt := 32) hx hb dX3_set_19 (by decide) (fun c2_ => ?_) (fun c2_ => ?_)
      · have h := pq_t c2_ h
        refine lv_aload_n hx hb dX3_set_32 rfl (lv_at hl 0 rfl) ?_
        refine va_get (D := D) (ci := 3) (v := .ref (qa 4 0)) (C := RX3) (T := TX3) (N := 7) hx hb hts hin3 hown hK hP 0 rfl rfl 5 (by decide) (hta _ aw_129) (fun _ h9 => h9) rfl dX3_set_33 ?_
        refine lv_aload_n hx hb dX3_set_36 rfl (lv_at hl 0 rfl) ?_
        refine va_get (D := D) (ci := 3) (v := .ref (qa 1 0)) (C := RX3) (T := TX3) (N := 7) hx hb hts hin3 hown hK hP 0 rfl rfl 0 (by decide) (hta _ aw_124) (fun _ h9 => h9) rfl dX3_set_37 ?_
        obtain ⟨r3, hr3, h⟩ := pq_b h
        refine pw_fv (ws0 := W3 cy qa P T S nw hz ak pa wt cd ln) (ws1 := W3 cy qa P T r3.1 r3.2.1 r3.2.2 ak pa wt cd ln) (wc := WP cy (qa 1) P ++ WH cy qa S nw hz) (w1 := WP cy (qa 1) P ++ WH cy qa r3.1 r3.2.1 r3.2.2) (rest := []) (As := [.ref (qa 1 0)]) hF (kX1_save l D cy qa _ P S nw hz r3 hr3) (cwV 1 hts (pw_gV (own := RX3) (idx := 58) (C := RX1) (y := yX1_save) aw_150 aw_151 aw_152 aw_4 aw_153) rfl rfl rfl pX1_save ⟨Nat.le_of_ble_eq_true rfl, Nat.le_of_ble_eq_true rfl⟩) 1 (RX1, TX1, 3) rfl rfl ⟨15, _, rfl⟩ hK hP hD hS hA (pw_s34 _ _ _ _ _) (pw_s34 _ _ _ _ _) rfl rfl hl.1 rfl (Nat.le_of_ble_eq_true rfl) dX3_set_40 ⟨Nat.zero_le _, Nat.zero_le _⟩ (fun H locs hP hD hS => ?_)
        refine lv_aload_n hx hb dX3_set_43 rfl (lv_at hl 0 rfl) ?_
        refine va_get (D := D) (ci := 3) (v := .ref (qa 1 0)) (C := RX3) (T := TX3) (N := 7) hx hb hts hin3 hown hK hP 0 rfl rfl 0 (by decide) (hta _ aw_124) (fun _ h9 => h9) rfl dX3_set_44 ?_
        refine lv_iload_n hx hb dX3_set_47 rfl (lv_at hl 1 rfl) ?_
        refine lv_iload_n hx hb dX3_set_48 rfl (lv_at hl 2 rfl) ?_
        obtain ⟨r4, hr4, h⟩ := pq_b h
        refine pw_fi (ws0 := W3 cy qa P T r3.1 r3.2.1 r3.2.2 ak pa wt cd ln) (ws1 := W3 cy qa r4.2 T r3.1 r3.2.1 r3.2.2 ak pa wt cd ln) (wc := WP cy (qa 1) P) (w1 := WP cy (qa 1) r4.2) (rest := []) (As := [.int x1, .int x2]) hF (kX2_change l D cy (qa 1) _ P x1 x2 r4 hr4) (cwV 2 hts (pw_gV (own := RX3) (idx := 135) (C := RX2) (y := yX2_change) aw_549 aw_550 aw_551 aw_2 aw_552) rfl rfl rfl pX2_change ⟨Nat.le_of_ble_eq_true rfl, Nat.le_of_ble_eq_true rfl⟩) 2 (RX2, TX2, 16) rfl rfl ⟨0, _, rfl⟩ hK hP hD hS hA (pw_s3 _ _ _ _ _) (pw_s3 _ _ _ _ _) rfl rfl hl.1 rfl (Nat.le_of_ble_eq_true rfl) dX3_set_49 ⟨Nat.zero_le _, Nat.zero_le _⟩ (fun H locs hP hD hS => ?_)
        exact nomatch h
      · have h := pq_e c2_ h
        obtain rfl := Sum.inl.inj (Option.some.inj h)
        subst hQ
        subst hAe
        exact pw_throwS (own := RX3) (cls := "java/lang/IllegalArgumentException") (text := "the value is out of range") (ik := 130) (is := 132) (ic := 134) hx hb hfl hown hlk (by decide +kernel) (hta _ aw_276) (hta _ aw_13) (by decide +kernel) (fun w hw => hta w (pw_at134 w hw)) pw_nt134 pw_gt134 hE hP hS hl.1 hml hxt dX3_set_22 dX3_set_25 dX3_set_26 dX3_set_28 dX3_set_31 (Nat.le_of_ble_eq_true rfl) (Nat.le_of_ble_eq_true rfl) (Nat.le_of_ble_eq_true rfl) (Nat.le_of_ble_eq_true rfl) rfl (Nat.le_of_ble_eq_true rfl) (Nat.le_of_ble_eq_true rfl)

set_option maxHeartbeats 8000000 in
set_option maxRecDepth 100000 in
theorem kX3_pass_t (l : Launch) (hfl : l.stackTraces = false) (D : va_G) (cy : Nat → ClassId) (qa : Nat → Nat → Nat) (sz : Nat) (P : Nat → Nat → Int32) (T : Nat → Nat → Int32) (S : Nat → Nat → Nat → Int32) (nw : Int32) (hz : Int32) (ak : Nat → Int32) (pa : Nat → Int32) (wt : Nat → Int32) (cd : Nat → Int32) (ln : Int32) (x1 : Int32) (k : Nat) (h : fX3_pass x1 P S nw hz = some (Sum.inl k)) : vx_Met l yX3_pass aX3_pass ({ frames := 6, cells := 1, slots := 6, locals := 116 }) (pw_PreE D cy [.ref (qa 0 0), .int x1] (W3 cy qa P T S nw hz ak pa wt cd ln) sz) (pw_NQ (W3 cy qa P T S nw hz ak pa wt cd ln) sz) (pw_XC D k (W3 cy qa P T S nw hz ak pa wt cd ln) sz) 1 6 (va_A (W3 cy qa P T S nw hz ak pa wt cd ln) sz) := by
  refine pw_metX (cc := cX3_pass) (maxL := 2) (ret := (some .int)) (by decide) rfl (Nat.le_of_ble_eq_true rfl) ?_
  intro p e s m args below meth c ls A hx hb hr hml hlk hts hown hAe hA hK hP hD hS hl hxt hE
  have hl : lv_has ls 2 [(0, .ref (qa 0 0)), (1, .int x1)] := hl
  generalize hQ : vx_MQ below (pw_NQ (W3 cy qa P T S nw hz ak pa wt cd ln) sz) (pw_XC D k (W3 cy qa P T S nw hz ak pa wt cd ln) sz) args s 1 6 (va_A (W3 cy qa P T S nw hz ak pa wt cd ln) sz) = Q
  have hF : CallFix p m c cX3_pass 2 s args aX3_pass RX3 := ⟨hx, hb, hml, hown, hts⟩
  have hta : ∀ w ∈ pw_all, w.before args s = true := fun w h => hts w (List.mem_cons_of_mem _ h)
  have hin3 : ∀ w ∈ wsX30, w ∈ aX3_pass := fun w h => List.mem_cons_of_mem _ (inA3 w h)
  have hin2 : ∀ w ∈ wsX20, w ∈ aX3_pass := fun w h => List.mem_cons_of_mem _ (inA2 w h)
  have hin1 : ∀ w ∈ wsX10, w ∈ aX3_pass := fun w h => List.mem_cons_of_mem _ (inA1 w h)
  have hin0 : ∀ w ∈ wsX00, w ∈ aX3_pass := fun w h => List.mem_cons_of_mem _ (inA0 w h)
  unfold fX3_pass at h
  refine lv_iload_n hx hb dX3_pass_0 rfl (lv_at hl 1 rfl) ?_
  refine lv_iconst (v := 1) hx hb dX3_pass_1 (by decide) ?_
  refine lv_icmp_lt (tgt := 11) hx hb dX3_pass_2 (by decide) (fun c1_ => ?_) (fun c1_ => ?_)
  · have h := pq_t c1_ h
    obtain rfl := Sum.inl.inj (Option.some.inj h)
    subst hQ
    subst hAe
    exact pw_throwS (own := RX3) (cls := "java/lang/IllegalArgumentException") (text := "units are 1 to 99") (ik := 130) (is := 139) (ic := 134) hx hb hfl hown hlk (by decide +kernel) (hta _ aw_276) (hta _ aw_13) (by decide +kernel) (fun w hw => hta w (pw_at134 w hw)) pw_nt134 pw_gt134 hE hP hS hl.1 hml hxt dX3_pass_11 dX3_pass_14 dX3_pass_15 dX3_pass_17 dX3_pass_20 (Nat.le_of_ble_eq_true rfl) (Nat.le_of_ble_eq_true rfl) (Nat.le_of_ble_eq_true rfl) (Nat.le_of_ble_eq_true rfl) rfl (Nat.le_of_ble_eq_true rfl) (Nat.le_of_ble_eq_true rfl)
  · have h := pq_e c1_ h
    refine lv_iload_n hx hb dX3_pass_5 rfl (lv_at hl 1 rfl) ?_
    refine lv_bipush (v := 99) hx hb dX3_pass_6 (by decide) ?_
    refine lv_icmp_le (tgt := 21) hx hb dX3_pass_8 (by decide) (fun c2_ => ?_) (fun c2_ => ?_)
    · have h := pq_t c2_ h
      refine lv_aload_n hx hb dX3_pass_21 rfl (lv_at hl 0 rfl) ?_
      refine va_get (D := D) (ci := 3) (v := .ref (qa 1 0)) (C := RX3) (T := TX3) (N := 7) hx hb hts hin3 hown hK hP 0 rfl rfl 0 (by decide) (hta _ aw_124) (fun _ h9 => h9) rfl dX3_pass_22 ?_
      refine lv_iload_n hx hb dX3_pass_25 rfl (lv_at hl 1 rfl) ?_
      obtain ⟨r1, hr1, h⟩ := pq_b h
      refine pw_fi (ws0 := W3 cy qa P T S nw hz ak pa wt cd ln) (ws1 := W3 cy qa P T S nw hz ak pa wt cd ln) (wc := WP cy (qa 1) P) (w1 := WP cy (qa 1) P) (rest := []) (As := [.int x1]) hF (kX2_canPassUnits l D cy (qa 1) _ P x1 r1 hr1) (cwV 1 hts (pw_gV (own := RX3) (idx := 141) (C := RX2) (y := yX2_canPassUnits) aw_561 aw_562 aw_563 aw_2 aw_564) rfl rfl rfl pX2_canPassUnits ⟨Nat.le_of_ble_eq_true rfl, Nat.le_of_ble_eq_true rfl⟩) 2 (RX2, TX2, 16) rfl rfl ⟨0, _, rfl⟩ hK hP hD hS hA (pw_s3 _ _ _ _ _) (pw_s3 _ _ _ _ _) rfl rfl hl.1 rfl (Nat.le_of_ble_eq_true rfl) dX3_pass_26 ⟨Nat.zero_le _, Nat.zero_le _⟩ (fun H locs hP hD hS => ?_)
      refine lv_if_ne (tgt := 42) hx hb dX3_pass_29 (by decide) (fun c3_ => ?_) (fun c3_ => ?_)
      · have h := pq_e c3_ h
        refine lv_aload_n hx hb dX3_pass_42 rfl (lv_at hl 0 rfl) ?_
        refine va_get (D := D) (ci := 3) (v := .ref (qa 4 0)) (C := RX3) (T := TX3) (N := 7) hx hb hts hin3 hown hK hP 0 rfl rfl 5 (by decide) (hta _ aw_129) (fun _ h9 => h9) rfl dX3_pass_43 ?_
        refine lv_aload_n hx hb dX3_pass_46 rfl (lv_at hl 0 rfl) ?_
        refine va_get (D := D) (ci := 3) (v := .ref (qa 1 0)) (C := RX3) (T := TX3) (N := 7) hx hb hts hin3 hown hK hP 0 rfl rfl 0 (by decide) (hta _ aw_124) (fun _ h9 => h9) rfl dX3_pass_47 ?_
        obtain ⟨r2, hr2, h⟩ := pq_b h
        refine pw_fv (ws0 := W3 cy qa P T S nw hz ak pa wt cd ln) (ws1 := W3 cy qa P T r2.1 r2.2.1 r2.2.2 ak pa wt cd ln) (wc := WP cy (qa 1) P ++ WH cy qa S nw hz) (w1 := WP cy (qa 1) P ++ WH cy qa r2.1 r2.2.1 r2.2.2) (rest := []) (As := [.ref (qa 1 0)]) hF (kX1_save l D cy qa _ P S nw hz r2 hr2) (cwV 1 hts (pw_gV (own := RX3) (idx := 58) (C := RX1) (y := yX1_save) aw_150 aw_151 aw_152 aw_4 aw_153) rfl rfl rfl pX1_save ⟨Nat.le_of_ble_eq_true rfl, Nat.le_of_ble_eq_true rfl⟩) 1 (RX1, TX1, 3) rfl rfl ⟨15, _, rfl⟩ hK hP hD hS hA (pw_s34 _ _ _ _ _) (pw_s34 _ _ _ _ _) rfl rfl hl.1 rfl (Nat.le_of_ble_eq_true rfl) dX3_pass_50 ⟨Nat.zero_le _, Nat.zero_le _⟩ (fun H locs hP hD hS => ?_)
        refine lv_aload_n hx hb dX3_pass_53 rfl (lv_at hl 0 rfl) ?_
        refine va_get (D := D) (ci := 3) (v := .ref (qa 1 0)) (C := RX3) (T := TX3) (N := 7) hx hb hts hin3 hown hK hP 0 rfl rfl 0 (by decide) (hta _ aw_124) (fun _ h9 => h9) rfl dX3_pass_54 ?_
        refine lv_iload_n hx hb dX3_pass_57 rfl (lv_at hl 1 rfl) ?_
        obtain ⟨r3, hr3, h⟩ := pq_b h
        refine pw_fi (ws0 := W3 cy qa P T r2.1 r2.2.1 r2.2.2 ak pa wt cd ln) (ws1 := W3 cy qa r3.2 T r2.1 r2.2.1 r2.2.2 ak pa wt cd ln) (wc := WP cy (qa 1) P) (w1 := WP cy (qa 1) r3.2) (rest := []) (As := [.int x1]) hF (kX2_passUnits l D cy (qa 1) _ P x1 r3 hr3) (cwV 1 hts (pw_gV (own := RX3) (idx := 146) (C := RX2) (y := yX2_passUnits) aw_368 aw_369 aw_370 aw_2 aw_371) rfl rfl rfl pX2_passUnits ⟨Nat.le_of_ble_eq_true rfl, Nat.le_of_ble_eq_true rfl⟩) 2 (RX2, TX2, 16) rfl rfl ⟨0, _, rfl⟩ hK hP hD hS hA (pw_s3 _ _ _ _ _) (pw_s3 _ _ _ _ _) rfl rfl hl.1 rfl (Nat.le_of_ble_eq_true rfl) dX3_pass_58 ⟨Nat.zero_le _, Nat.zero_le _⟩ (fun H locs hP hD hS => ?_)
        exact nomatch h
      · have h := pq_t c3_ h
        obtain rfl := Sum.inl.inj (Option.some.inj h)
        subst hQ
        subst hAe
        exact pw_throwS (own := RX3) (cls := "java/lang/IllegalStateException") (text := "the time would be above 9999") (ik := 51) (is := 144) (ic := 55) hx hb hfl hown hlk (by decide +kernel) (hta _ aw_455) (hta _ aw_11) (by decide +kernel) (fun w hw => hta w (pw_at55 w hw)) pw_nt55 pw_gt55 hE hP hS hl.1 hml hxt dX3_pass_32 dX3_pass_35 dX3_pass_36 dX3_pass_38 dX3_pass_41 (Nat.le_of_ble_eq_true rfl) (Nat.le_of_ble_eq_true rfl) (Nat.le_of_ble_eq_true rfl) (Nat.le_of_ble_eq_true rfl) rfl (Nat.le_of_ble_eq_true rfl) (Nat.le_of_ble_eq_true rfl)
    · have h := pq_e c2_ h
      obtain rfl := Sum.inl.inj (Option.some.inj h)
      subst hQ
      subst hAe
      exact pw_throwS (own := RX3) (cls := "java/lang/IllegalArgumentException") (text := "units are 1 to 99") (ik := 130) (is := 139) (ic := 134) hx hb hfl hown hlk (by decide +kernel) (hta _ aw_276) (hta _ aw_13) (by decide +kernel) (fun w hw => hta w (pw_at134 w hw)) pw_nt134 pw_gt134 hE hP hS hl.1 hml hxt dX3_pass_11 dX3_pass_14 dX3_pass_15 dX3_pass_17 dX3_pass_20 (Nat.le_of_ble_eq_true rfl) (Nat.le_of_ble_eq_true rfl) (Nat.le_of_ble_eq_true rfl) (Nat.le_of_ble_eq_true rfl) rfl (Nat.le_of_ble_eq_true rfl) (Nat.le_of_ble_eq_true rfl)

set_option maxHeartbeats 8000000 in
set_option maxRecDepth 100000 in
theorem kX3_append_t (l : Launch) (hfl : l.stackTraces = false) (D : va_G) (cy : Nat → ClassId) (qa : Nat → Nat → Nat) (sz : Nat) (P : Nat → Nat → Int32) (T : Nat → Nat → Int32) (S : Nat → Nat → Nat → Int32) (nw : Int32) (hz : Int32) (ak : Nat → Int32) (pa : Nat → Int32) (wt : Nat → Int32) (cd : Nat → Int32) (ln : Int32) (x1 : Int32) (k : Nat) (h : fX3_append x1 cd ln = some (Sum.inl k)) : vx_Met l yX3_append aX3_append ({ frames := 6, cells := 1, slots := 6, locals := 90 }) (pw_PreE D cy [.ref (qa 0 0), .int x1] (W3 cy qa P T S nw hz ak pa wt cd ln) sz) (pw_NQ (W3 cy qa P T S nw hz ak pa wt cd ln) sz) (pw_XC D k (W3 cy qa P T S nw hz ak pa wt cd ln) sz) 1 6 (va_A (W3 cy qa P T S nw hz ak pa wt cd ln) sz) := by
  refine pw_metX (cc := cX3_append) (maxL := 2) (ret := (some .int)) (by decide) rfl (Nat.le_of_ble_eq_true rfl) ?_
  intro p e s m args below meth c ls A hx hb hr hml hlk hts hown hAe hA hK hP hD hS hl hxt hE
  have hl : lv_has ls 2 [(0, .ref (qa 0 0)), (1, .int x1)] := hl
  generalize hQ : vx_MQ below (pw_NQ (W3 cy qa P T S nw hz ak pa wt cd ln) sz) (pw_XC D k (W3 cy qa P T S nw hz ak pa wt cd ln) sz) args s 1 6 (va_A (W3 cy qa P T S nw hz ak pa wt cd ln) sz) = Q
  have hF : CallFix p m c cX3_append 2 s args aX3_append RX3 := ⟨hx, hb, hml, hown, hts⟩
  have hta : ∀ w ∈ pw_all, w.before args s = true := fun w h => hts w (List.mem_cons_of_mem _ h)
  have hin3 : ∀ w ∈ wsX30, w ∈ aX3_append := fun w h => List.mem_cons_of_mem _ (inA3 w h)
  have hin2 : ∀ w ∈ wsX20, w ∈ aX3_append := fun w h => List.mem_cons_of_mem _ (inA2 w h)
  have hin1 : ∀ w ∈ wsX10, w ∈ aX3_append := fun w h => List.mem_cons_of_mem _ (inA1 w h)
  have hin0 : ∀ w ∈ wsX00, w ∈ aX3_append := fun w h => List.mem_cons_of_mem _ (inA0 w h)
  unfold fX3_append at h
  refine lv_iload_n hx hb dX3_append_0 rfl (lv_at hl 1 rfl) ?_
  refine lv_bipush (v := 33) hx hb dX3_append_1 (by decide) ?_
  refine lv_icmp_lt (tgt := 12) hx hb dX3_append_3 (by decide) (fun c1_ => ?_) (fun c1_ => ?_)
  · have h := pq_t c1_ h
    obtain rfl := Sum.inl.inj (Option.some.inj h)
    subst hQ
    subst hAe
    exact pw_throwS (own := RX3) (cls := "java/lang/IllegalArgumentException") (text := "a code is 33 to 126") (ik := 130) (is := 149) (ic := 134) hx hb hfl hown hlk (by decide +kernel) (hta _ aw_276) (hta _ aw_13) (by decide +kernel) (fun w hw => hta w (pw_at134 w hw)) pw_nt134 pw_gt134 hE hP hS hl.1 hml hxt dX3_append_12 dX3_append_15 dX3_append_16 dX3_append_18 dX3_append_21 (Nat.le_of_ble_eq_true rfl) (Nat.le_of_ble_eq_true rfl) (Nat.le_of_ble_eq_true rfl) (Nat.le_of_ble_eq_true rfl) rfl (Nat.le_of_ble_eq_true rfl) (Nat.le_of_ble_eq_true rfl)
  · have h := pq_e c1_ h
    refine lv_iload_n hx hb dX3_append_6 rfl (lv_at hl 1 rfl) ?_
    refine lv_bipush (v := 126) hx hb dX3_append_7 (by decide) ?_
    refine lv_icmp_le (tgt := 22) hx hb dX3_append_9 (by decide) (fun c2_ => ?_) (fun c2_ => ?_)
    · have h := pq_t c2_ h
      refine lv_aload_n hx hb dX3_append_22 rfl (lv_at hl 0 rfl) ?_
      refine va_get (D := D) (ci := 3) (v := .ref (qa 3 0)) (C := RX3) (T := TX3) (N := 7) hx hb hts hin3 hown hK hP 0 rfl rfl 6 (by decide) (hta _ aw_130) (fun _ h9 => h9) rfl dX3_append_23 ?_
      obtain ⟨r1, hr1, h⟩ := pq_b h
      refine pw_fi (ws0 := W3 cy qa P T S nw hz ak pa wt cd ln) (ws1 := W3 cy qa P T S nw hz ak pa wt cd ln) (wc := WT cy (qa 3) cd ln) (w1 := WT cy (qa 3) cd ln) (rest := []) (As := []) hF (kX0_isFull l D cy (qa 3) _ cd ln  r1 hr1) (cwV 0 hts (pw_gV (own := RX3) (idx := 151) (C := RX0) (y := yX0_isFull) aw_574 aw_575 aw_576 aw_5 aw_577) rfl rfl rfl pX0_isFull ⟨Nat.le_of_ble_eq_true rfl, Nat.le_of_ble_eq_true rfl⟩) 0 (RX0, TX0, 2) rfl rfl ⟨0, _, rfl⟩ hK hP hD hS hA (pw_s1 _ _ _) (pw_s1 _ _ _) rfl rfl hl.1 rfl (Nat.le_of_ble_eq_true rfl) dX3_append_26 ⟨Nat.zero_le _, Nat.zero_le _⟩ (fun H locs hP hD hS => ?_)
      refine lv_if_eq (tgt := 42) hx hb dX3_append_29 (by decide) (fun c3_ => ?_) (fun c3_ => ?_)
      · have h := pq_t c3_ h
        refine lv_aload_n hx hb dX3_append_42 rfl (lv_at hl 0 rfl) ?_
        refine va_get (D := D) (ci := 3) (v := .ref (qa 3 0)) (C := RX3) (T := TX3) (N := 7) hx hb hts hin3 hown hK hP 0 rfl rfl 6 (by decide) (hta _ aw_130) (fun _ h9 => h9) rfl dX3_append_43 ?_
        refine lv_iload_n hx hb dX3_append_46 rfl (lv_at hl 1 rfl) ?_
        obtain ⟨r2, hr2, h⟩ := pq_b h
        refine pw_fv (ws0 := W3 cy qa P T S nw hz ak pa wt cd ln) (ws1 := W3 cy qa P T S nw hz ak pa wt r2.1 r2.2) (wc := WT cy (qa 3) cd ln) (w1 := WT cy (qa 3) r2.1 r2.2) (rest := []) (As := [.int x1]) hF (kX0_put l D cy (qa 3) _ cd ln x1 r2 hr2) (cwV 1 hts (pw_gV (own := RX3) (idx := 157) (C := RX0) (y := yX0_put) aw_579 aw_580 aw_581 aw_5 aw_582) rfl rfl rfl pX0_put ⟨Nat.le_of_ble_eq_true rfl, Nat.le_of_ble_eq_true rfl⟩) 0 (RX0, TX0, 2) rfl rfl ⟨0, _, rfl⟩ hK hP hD hS hA (pw_s1 _ _ _) (pw_s1 _ _ _) rfl rfl hl.1 rfl (Nat.le_of_ble_eq_true rfl) dX3_append_47 ⟨Nat.zero_le _, Nat.zero_le _⟩ (fun H locs hP hD hS => ?_)
        refine lv_aload_n hx hb dX3_append_50 rfl (lv_at hl 0 rfl) ?_
        refine va_get (D := D) (ci := 3) (v := .ref (qa 3 0)) (C := RX3) (T := TX3) (N := 7) hx hb hts hin3 hown hK hP 0 rfl rfl 6 (by decide) (hta _ aw_130) (fun _ h9 => h9) rfl dX3_append_51 ?_
        refine va_get (D := D) (ci := 0) (v := .int r2.2) (C := RX0) (T := TX0) (N := 2) hx hb hts hin0 hown hK hP 4 rfl rfl 1 (by decide) (hta _ aw_118) (fun _ h9 => h9) rfl dX3_append_54 ?_
        exact nomatch h
      · have h := pq_e c3_ h
        obtain rfl := Sum.inl.inj (Option.some.inj h)
        subst hQ
        subst hAe
        exact pw_throwS (own := RX3) (cls := "java/lang/IllegalStateException") (text := "the buffer has 60 characters") (ik := 51) (is := 155) (ic := 55) hx hb hfl hown hlk (by decide +kernel) (hta _ aw_455) (hta _ aw_11) (by decide +kernel) (fun w hw => hta w (pw_at55 w hw)) pw_nt55 pw_gt55 hE hP hS hl.1 hml hxt dX3_append_32 dX3_append_35 dX3_append_36 dX3_append_38 dX3_append_41 (Nat.le_of_ble_eq_true rfl) (Nat.le_of_ble_eq_true rfl) (Nat.le_of_ble_eq_true rfl) (Nat.le_of_ble_eq_true rfl) rfl (Nat.le_of_ble_eq_true rfl) (Nat.le_of_ble_eq_true rfl)
    · have h := pq_e c2_ h
      obtain rfl := Sum.inl.inj (Option.some.inj h)
      subst hQ
      subst hAe
      exact pw_throwS (own := RX3) (cls := "java/lang/IllegalArgumentException") (text := "a code is 33 to 126") (ik := 130) (is := 149) (ic := 134) hx hb hfl hown hlk (by decide +kernel) (hta _ aw_276) (hta _ aw_13) (by decide +kernel) (fun w hw => hta w (pw_at134 w hw)) pw_nt134 pw_gt134 hE hP hS hl.1 hml hxt dX3_append_12 dX3_append_15 dX3_append_16 dX3_append_18 dX3_append_21 (Nat.le_of_ble_eq_true rfl) (Nat.le_of_ble_eq_true rfl) (Nat.le_of_ble_eq_true rfl) (Nat.le_of_ble_eq_true rfl) rfl (Nat.le_of_ble_eq_true rfl) (Nat.le_of_ble_eq_true rfl)

set_option maxHeartbeats 8000000 in
set_option maxRecDepth 100000 in
theorem kX3_run_t (l : Launch) (hfl : l.stackTraces = false) (D : va_G) (cy : Nat → ClassId) (qa : Nat → Nat → Nat) (sz : Nat) (P : Nat → Nat → Int32) (T : Nat → Nat → Int32) (S : Nat → Nat → Nat → Int32) (nw : Int32) (hz : Int32) (ak : Nat → Int32) (pa : Nat → Int32) (wt : Nat → Int32) (cd : Nat → Int32) (ln : Int32)  (k : Nat) (h : fX3_run P S nw hz cd ln = some (Sum.inl k)) : vx_Met l yX3_run aX3_run ({ frames := 6, cells := 1, slots := 6, locals := 138 }) (pw_PreE D cy [.ref (qa 0 0)] (W3 cy qa P T S nw hz ak pa wt cd ln) sz) (pw_NQ (W3 cy qa P T S nw hz ak pa wt cd ln) sz) (pw_XC D k (W3 cy qa P T S nw hz ak pa wt cd ln) sz) 1 6 (va_A (W3 cy qa P T S nw hz ak pa wt cd ln) sz) := by
  refine pw_metX (cc := cX3_run) (maxL := 3) (ret := (some .int)) (by decide) rfl (Nat.le_of_ble_eq_true rfl) ?_
  intro p e s m args below meth c ls A hx hb hr hml hlk hts hown hAe hA hK hP hD hS hl hxt hE
  have hl : lv_has ls 3 [(0, .ref (qa 0 0))] := hl
  generalize hQ : vx_MQ below (pw_NQ (W3 cy qa P T S nw hz ak pa wt cd ln) sz) (pw_XC D k (W3 cy qa P T S nw hz ak pa wt cd ln) sz) args s 1 6 (va_A (W3 cy qa P T S nw hz ak pa wt cd ln) sz) = Q
  have hF : CallFix p m c cX3_run 3 s args aX3_run RX3 := ⟨hx, hb, hml, hown, hts⟩
  have hta : ∀ w ∈ pw_all, w.before args s = true := fun w h => hts w (List.mem_cons_of_mem _ h)
  have hin3 : ∀ w ∈ wsX30, w ∈ aX3_run := fun w h => List.mem_cons_of_mem _ (inA3 w h)
  have hin2 : ∀ w ∈ wsX20, w ∈ aX3_run := fun w h => List.mem_cons_of_mem _ (inA2 w h)
  have hin1 : ∀ w ∈ wsX10, w ∈ aX3_run := fun w h => List.mem_cons_of_mem _ (inA1 w h)
  have hin0 : ∀ w ∈ wsX00, w ∈ aX3_run := fun w h => List.mem_cons_of_mem _ (inA0 w h)
  unfold fX3_run at h
  refine lv_aload_n hx hb dX3_run_0 rfl (lv_at hl 0 rfl) ?_
  refine va_get (D := D) (ci := 3) (v := .ref (qa 3 0)) (C := RX3) (T := TX3) (N := 7) hx hb hts hin3 hown hK hP 0 rfl rfl 6 (by decide) (hta _ aw_130) (fun _ h9 => h9) rfl dX3_run_1 ?_
  obtain ⟨r1, hr1, h⟩ := pq_b h
  refine pw_fi (ws0 := W3 cy qa P T S nw hz ak pa wt cd ln) (ws1 := W3 cy qa P T S nw hz ak pa wt cd ln) (wc := WT cy (qa 3) cd ln) (w1 := WT cy (qa 3) cd ln) (rest := []) (As := []) hF (kX0_isComplete l D cy (qa 3) _ cd ln  r1 hr1) (cwV 0 hts (pw_gV (own := RX3) (idx := 167) (C := RX0) (y := yX0_isComplete) aw_591 aw_592 aw_593 aw_5 aw_594) rfl rfl rfl pX0_isComplete ⟨Nat.le_of_ble_eq_true rfl, Nat.le_of_ble_eq_true rfl⟩) 0 (RX0, TX0, 2) rfl rfl ⟨0, _, rfl⟩ hK hP hD hS hA (pw_s1 _ _ _) (pw_s1 _ _ _) rfl rfl hl.1 rfl (Nat.le_of_ble_eq_true rfl) dX3_run_4 ⟨Nat.zero_le _, Nat.zero_le _⟩ (fun H locs hP hD hS => ?_)
  refine lv_if_ne (tgt := 20) hx hb dX3_run_7 (by decide) (fun c1_ => ?_) (fun c1_ => ?_)
  · have h := pq_e c1_ h
    refine lv_aload_n hx hb dX3_run_20 rfl (lv_at hl 0 rfl) ?_
    refine va_get (D := D) (ci := 3) (v := .ref (qa 4 0)) (C := RX3) (T := TX3) (N := 7) hx hb hts hin3 hown hK hP 0 rfl rfl 5 (by decide) (hta _ aw_129) (fun _ h9 => h9) rfl dX3_run_21 ?_
    refine lv_aload_n hx hb dX3_run_24 rfl (lv_at hl 0 rfl) ?_
    refine va_get (D := D) (ci := 3) (v := .ref (qa 1 0)) (C := RX3) (T := TX3) (N := 7) hx hb hts hin3 hown hK hP 0 rfl rfl 0 (by decide) (hta _ aw_124) (fun _ h9 => h9) rfl dX3_run_25 ?_
    obtain ⟨r2, hr2, h⟩ := pq_b h
    refine pw_fv (ws0 := W3 cy qa P T S nw hz ak pa wt cd ln) (ws1 := W3 cy qa P T r2.1 r2.2.1 r2.2.2 ak pa wt cd ln) (wc := WP cy (qa 1) P ++ WH cy qa S nw hz) (w1 := WP cy (qa 1) P ++ WH cy qa r2.1 r2.2.1 r2.2.2) (rest := []) (As := [.ref (qa 1 0)]) hF (kX1_save l D cy qa _ P S nw hz r2 hr2) (cwV 1 hts (pw_gV (own := RX3) (idx := 58) (C := RX1) (y := yX1_save) aw_150 aw_151 aw_152 aw_4 aw_153) rfl rfl rfl pX1_save ⟨Nat.le_of_ble_eq_true rfl, Nat.le_of_ble_eq_true rfl⟩) 1 (RX1, TX1, 3) rfl rfl ⟨15, _, rfl⟩ hK hP hD hS hA (pw_s34 _ _ _ _ _) (pw_s34 _ _ _ _ _) rfl rfl hl.1 rfl (Nat.le_of_ble_eq_true rfl) dX3_run_28 ⟨Nat.zero_le _, Nat.zero_le _⟩ (fun H locs hP hD hS => ?_)
    refine lv_iconst (v := 0) hx hb dX3_run_31 (by decide) ?_
    refine lv_istore_n (lv' := [(1, .int 0), (0, .ref (qa 0 0))]) hx hb dX3_run_32 rfl hl (by decide) rfl (fun ls hl => ?_)
    refine lv_iconst (v := 0) hx hb dX3_run_33 (by decide) ?_
    refine lv_istore_n (lv' := [(2, .int 0), (1, .int 0), (0, .ref (qa 0 0))]) hx hb dX3_run_34 rfl hl (by decide) rfl (fun ls hl => ?_)
    have L35_n3 : ∀ (n : Nat) (x1_35 : Int32) (x2_35 : Int32) (P_35 : Nat → Nat → Int32) (H : Heap) (locs : List Loc) (ls : Array Slot), fX3_run_L35 cd ln r2 n x1_35 x2_35 P_35 = some (Sum.inl k) → va_P D vwCl (W3 cy qa P_35 T r2.1 r2.2.1 r2.2.2 ak pa wt cd ln) H → va_D A (W3 cy qa P_35 T r2.1 r2.2.1 r2.2.2 ak pa wt cd ln) → va_S A s.heap H locs → lv_has ls 3 [(0, .ref (qa 0 0)), (1, .int x1_35), (2, .int x2_35)] → W p l e ({ frames := 6, cells := 1, slots := 6, locals := 138 } : Room) s m args below meth c H locs 0 0 Q (F0 m 35 ls []) := by
      intro n
      induction n with
      | zero =>
        intro x1_35 x2_35 P_35 H locs ls h hP hD hS hl
        exact pq_n h
      | succ n ih35 =>
        intro x1_35 x2_35 P_35 H locs ls h hP hD hS hl
        rw [fX3_run_L35] at h
        refine lv_iload_n hx hb dX3_run_35 rfl (lv_at hl 2 rfl) ?_
        refine lv_aload_n hx hb dX3_run_36 rfl (lv_at hl 0 rfl) ?_
        refine va_get (D := D) (ci := 3) (v := .ref (qa 3 0)) (C := RX3) (T := TX3) (N := 7) hx hb hts hin3 hown hK hP 0 rfl rfl 6 (by decide) (hta _ aw_130) (fun _ h9 => h9) rfl dX3_run_37 ?_
        obtain ⟨r4, hr4, h⟩ := pq_b h
        refine pw_fi (ws0 := W3 cy qa P_35 T r2.1 r2.2.1 r2.2.2 ak pa wt cd ln) (ws1 := W3 cy qa P_35 T r2.1 r2.2.1 r2.2.2 ak pa wt cd ln) (wc := WT cy (qa 3) cd ln) (w1 := WT cy (qa 3) cd ln) (rest := [.int x2_35]) (As := []) hF (kX0_parts l D cy (qa 3) _ cd ln  r4 hr4) (cwV 0 hts (pw_gV (own := RX3) (idx := 172) (C := RX0) (y := yX0_parts) aw_597 aw_598 aw_599 aw_5 aw_600) rfl rfl rfl pX0_parts ⟨Nat.le_of_ble_eq_true rfl, Nat.le_of_ble_eq_true rfl⟩) 0 (RX0, TX0, 2) rfl rfl ⟨0, _, rfl⟩ hK hP hD hS hA (pw_s1 _ _ _) (pw_s1 _ _ _) rfl rfl hl.1 rfl (Nat.le_of_ble_eq_true rfl) dX3_run_40 ⟨Nat.zero_le _, Nat.zero_le _⟩ (fun H locs hP hD hS => ?_)
        refine lv_icmp_ge (tgt := 81) hx hb dX3_run_43 (by decide) (fun c2_ => ?_) (fun c2_ => ?_)
        · have h := pq_t c2_ h
          refine lv_aload_n hx hb dX3_run_81 rfl (lv_at hl 0 rfl) ?_
          refine va_get (D := D) (ci := 3) (v := .ref (qa 3 0)) (C := RX3) (T := TX3) (N := 7) hx hb hts hin3 hown hK hP 0 rfl rfl 6 (by decide) (hta _ aw_130) (fun _ h9 => h9) rfl dX3_run_82 ?_
          refine lv_iconst (v := 0) hx hb dX3_run_85 (by decide) ?_
          refine va_put (D := D) (ci := 0) (v := .int 0) (ty := .int) (C := RX0) (T := TX0) (N := 2) hx hb hts hin0 tyX0 tyX0_ok nmX0 hown hK hP hD hS 4 rfl rfl 1 (by decide) (hta _ aw_118) (fun _ h9 => h9) rfl (by decide +kernel) rfl rfl (Nat.le_of_ble_eq_true rfl) dX3_run_86 (fun H locs hP hD hS => ?_)
          have hP : va_P D vwCl (W3 cy qa P_35 T r2.1 r2.2.1 r2.2.2 ak pa wt cd 0) H := hP
          have hD : va_D A (W3 cy qa P_35 T r2.1 r2.2.1 r2.2.2 ak pa wt cd 0) := hD
          refine lv_iload_n hx hb dX3_run_89 rfl (lv_at hl 1 rfl) ?_
          exact nomatch h
        · have h := pq_e c2_ h
          refine lv_aload_n hx hb dX3_run_46 rfl (lv_at hl 0 rfl) ?_
          refine lv_aload_n hx hb dX3_run_47 rfl (lv_at hl 0 rfl) ?_
          refine va_get (D := D) (ci := 3) (v := .ref (qa 3 0)) (C := RX3) (T := TX3) (N := 7) hx hb hts hin3 hown hK hP 0 rfl rfl 6 (by decide) (hta _ aw_130) (fun _ h9 => h9) rfl dX3_run_48 ?_
          refine lv_iload_n hx hb dX3_run_51 rfl (lv_at hl 2 rfl) ?_
          obtain ⟨r5, hr5, h⟩ := pq_b h
          refine pw_fi (ws0 := W3 cy qa P_35 T r2.1 r2.2.1 r2.2.2 ak pa wt cd ln) (ws1 := W3 cy qa P_35 T r2.1 r2.2.1 r2.2.2 ak pa wt cd ln) (wc := WT cy (qa 3) cd ln) (w1 := WT cy (qa 3) cd ln) (rest := [.ref (qa 0 0)]) (As := [.int x2_35]) hF (kX0_kindOf l D cy (qa 3) _ cd ln x2_35 r5 hr5) (cwV 1 hts (pw_gV (own := RX3) (idx := 175) (C := RX0) (y := yX0_kindOf) aw_601 aw_602 aw_603 aw_5 aw_604) rfl rfl rfl pX0_kindOf ⟨Nat.le_of_ble_eq_true rfl, Nat.le_of_ble_eq_true rfl⟩) 0 (RX0, TX0, 2) rfl rfl ⟨0, _, rfl⟩ hK hP hD hS hA (pw_s1 _ _ _) (pw_s1 _ _ _) rfl rfl hl.1 rfl (Nat.le_of_ble_eq_true rfl) dX3_run_52 ⟨Nat.zero_le _, Nat.zero_le _⟩ (fun H locs hP hD hS => ?_)
          refine lv_aload_n hx hb dX3_run_55 rfl (lv_at hl 0 rfl) ?_
          refine va_get (D := D) (ci := 3) (v := .ref (qa 3 0)) (C := RX3) (T := TX3) (N := 7) hx hb hts hin3 hown hK hP 0 rfl rfl 6 (by decide) (hta _ aw_130) (fun _ h9 => h9) rfl dX3_run_56 ?_
          refine lv_iload_n hx hb dX3_run_59 rfl (lv_at hl 2 rfl) ?_
          obtain ⟨r6, hr6, h⟩ := pq_b h
          refine pw_fi (ws0 := W3 cy qa P_35 T r2.1 r2.2.1 r2.2.2 ak pa wt cd ln) (ws1 := W3 cy qa P_35 T r2.1 r2.2.1 r2.2.2 ak pa wt cd ln) (wc := WT cy (qa 3) cd ln) (w1 := WT cy (qa 3) cd ln) (rest := [.int r5, .ref (qa 0 0)]) (As := [.int x2_35]) hF (kX0_numberOf l D cy (qa 3) _ cd ln x2_35 r6 hr6) (cwV 1 hts (pw_gV (own := RX3) (idx := 178) (C := RX0) (y := yX0_numberOf) aw_605 aw_606 aw_607 aw_5 aw_608) rfl rfl rfl pX0_numberOf ⟨Nat.le_of_ble_eq_true rfl, Nat.le_of_ble_eq_true rfl⟩) 0 (RX0, TX0, 2) rfl rfl ⟨0, _, rfl⟩ hK hP hD hS hA (pw_s1 _ _ _) (pw_s1 _ _ _) rfl rfl hl.1 rfl (Nat.le_of_ble_eq_true rfl) dX3_run_60 ⟨Nat.zero_le _, Nat.zero_le _⟩ (fun H locs hP hD hS => ?_)
          obtain ⟨r7, hr7, h⟩ := pq_b h
          refine pw_ci (w1 := W3 cy qa r7.2 T r2.1 r2.2.1 r2.2.2 ak pa wt cd ln) (rest := []) (As := [.int r5, .int r6]) hF (kX3_makeCall l D cy qa _ P_35 T r2.1 r2.2.1 r2.2.2 ak pa wt cd ln r5 r6 r7 hr7) (cwV 2 hts (pw_gV (own := RX3) (idx := 181) (C := RX3) (y := yX3_makeCall) aw_609 aw_611 aw_s16 aw_1 aw_612) rfl rfl rfl pX3_makeCall ⟨Nat.le_of_ble_eq_true rfl, Nat.le_of_ble_eq_true rfl⟩) (va_recv hK hP (ci := 3) (q0 := 0) rfl rfl) hK hP hD hS hA rfl rfl hl.1 rfl (Nat.le_of_ble_eq_true rfl) dX3_run_63 ⟨Nat.zero_le _, Nat.zero_le _⟩ (fun H locs hP hD hS => ?_)
          refine lv_if_ne (tgt := 72) hx hb dX3_run_66 (by decide) (fun c3_ => ?_) (fun c3_ => ?_)
          · have h := pq_e c3_ h
            refine lv_iinc (v := x1_35 + 1) (lv' := [(1, .int (x1_35 + 1)), (0, .ref (qa 0 0)), (2, .int x2_35)]) hx hb dX3_run_72 hl (k := 1) rfl (by first | rfl | decide) (by decide) rfl (fun ls hl => ?_)
            refine lv_iinc (v := x2_35 + 1) (lv' := [(2, .int (x2_35 + 1)), (1, .int (x1_35 + 1)), (0, .ref (qa 0 0))]) hx hb dX3_run_75 hl (k := 2) rfl (by first | rfl | decide) (by decide) rfl (fun ls hl => ?_)
            refine lv_goto (tgt := 35) hx hb dX3_run_78 (by decide) ?_
            exact ih35 (x1_35 + 1) (x2_35 + 1) r7.2 _ _ _ h hP hD hS (lv_sub hl [2, 1, 0] rfl)
          · have h := pq_t c3_ h
            refine lv_goto (tgt := 81) hx hb dX3_run_69 (by decide) ?_
            refine lv_aload_n hx hb dX3_run_81 rfl (lv_at hl 0 rfl) ?_
            refine va_get (D := D) (ci := 3) (v := .ref (qa 3 0)) (C := RX3) (T := TX3) (N := 7) hx hb hts hin3 hown hK hP 0 rfl rfl 6 (by decide) (hta _ aw_130) (fun _ h9 => h9) rfl dX3_run_82 ?_
            refine lv_iconst (v := 0) hx hb dX3_run_85 (by decide) ?_
            refine va_put (D := D) (ci := 0) (v := .int 0) (ty := .int) (C := RX0) (T := TX0) (N := 2) hx hb hts hin0 tyX0 tyX0_ok nmX0 hown hK hP hD hS 4 rfl rfl 1 (by decide) (hta _ aw_118) (fun _ h9 => h9) rfl (by decide +kernel) rfl rfl (Nat.le_of_ble_eq_true rfl) dX3_run_86 (fun H locs hP hD hS => ?_)
            have hP : va_P D vwCl (W3 cy qa r7.2 T r2.1 r2.2.1 r2.2.2 ak pa wt cd 0) H := hP
            have hD : va_D A (W3 cy qa r7.2 T r2.1 r2.2.1 r2.2.2 ak pa wt cd 0) := hD
            refine lv_iload_n hx hb dX3_run_89 rfl (lv_at hl 1 rfl) ?_
            exact nomatch h
    exact L35_n3 1000 0 0 P _ _ _ h hP hD hS (lv_sub hl [2, 1, 0] rfl)
  · have h := pq_t c1_ h
    obtain rfl := Sum.inl.inj (Option.some.inj h)
    subst hQ
    subst hAe
    exact pw_throwS (own := RX3) (cls := "java/lang/IllegalArgumentException") (text := "the buffer is not complete calls as a text") (ik := 130) (is := 170) (ic := 134) hx hb hfl hown hlk (by decide +kernel) (hta _ aw_276) (hta _ aw_13) (by decide +kernel) (fun w hw => hta w (pw_at134 w hw)) pw_nt134 pw_gt134 hE hP hS hl.1 hml hxt dX3_run_10 dX3_run_13 dX3_run_14 dX3_run_16 dX3_run_19 (Nat.le_of_ble_eq_true rfl) (Nat.le_of_ble_eq_true rfl) (Nat.le_of_ble_eq_true rfl) (Nat.le_of_ble_eq_true rfl) rfl (Nat.le_of_ble_eq_true rfl) (Nat.le_of_ble_eq_true rfl)

set_option maxHeartbeats 8000000 in
set_option maxRecDepth 100000 in
theorem kX3_undo_t (l : Launch) (hfl : l.stackTraces = false) (D : va_G) (cy : Nat → ClassId) (qa : Nat → Nat → Nat) (sz : Nat) (P : Nat → Nat → Int32) (T : Nat → Nat → Int32) (S : Nat → Nat → Nat → Int32) (nw : Int32) (hz : Int32) (ak : Nat → Int32) (pa : Nat → Int32) (wt : Nat → Int32) (cd : Nat → Int32) (ln : Int32)  (k : Nat) (h : fX3_undo P S nw hz = some (Sum.inl k)) : vx_Met l yX3_undo aX3_undo ({ frames := 6, cells := 1, slots := 6, locals := 111 }) (pw_PreE D cy [.ref (qa 0 0)] (W3 cy qa P T S nw hz ak pa wt cd ln) sz) (pw_NQ (W3 cy qa P T S nw hz ak pa wt cd ln) sz) (pw_XC D k (W3 cy qa P T S nw hz ak pa wt cd ln) sz) 1 6 (va_A (W3 cy qa P T S nw hz ak pa wt cd ln) sz) := by
  refine pw_metX (cc := cX3_undo) (maxL := 1) (ret := (some .int)) (by decide) rfl (Nat.le_of_ble_eq_true rfl) ?_
  intro p e s m args below meth c ls A hx hb hr hml hlk hts hown hAe hA hK hP hD hS hl hxt hE
  have hl : lv_has ls 1 [(0, .ref (qa 0 0))] := hl
  generalize hQ : vx_MQ below (pw_NQ (W3 cy qa P T S nw hz ak pa wt cd ln) sz) (pw_XC D k (W3 cy qa P T S nw hz ak pa wt cd ln) sz) args s 1 6 (va_A (W3 cy qa P T S nw hz ak pa wt cd ln) sz) = Q
  have hF : CallFix p m c cX3_undo 1 s args aX3_undo RX3 := ⟨hx, hb, hml, hown, hts⟩
  have hta : ∀ w ∈ pw_all, w.before args s = true := fun w h => hts w (List.mem_cons_of_mem _ h)
  have hin3 : ∀ w ∈ wsX30, w ∈ aX3_undo := fun w h => List.mem_cons_of_mem _ (inA3 w h)
  have hin2 : ∀ w ∈ wsX20, w ∈ aX3_undo := fun w h => List.mem_cons_of_mem _ (inA2 w h)
  have hin1 : ∀ w ∈ wsX10, w ∈ aX3_undo := fun w h => List.mem_cons_of_mem _ (inA1 w h)
  have hin0 : ∀ w ∈ wsX00, w ∈ aX3_undo := fun w h => List.mem_cons_of_mem _ (inA0 w h)
  unfold fX3_undo at h
  refine lv_aload_n hx hb dX3_undo_0 rfl (lv_at hl 0 rfl) ?_
  refine va_get (D := D) (ci := 3) (v := .ref (qa 4 0)) (C := RX3) (T := TX3) (N := 7) hx hb hts hin3 hown hK hP 0 rfl rfl 5 (by decide) (hta _ aw_129) (fun _ h9 => h9) rfl dX3_undo_1 ?_
  refine va_get (D := D) (ci := 1) (v := .int hz) (C := RX1) (T := TX1) (N := 3) hx hb hts hin1 hown hK hP 36 rfl rfl 2 (by decide) (hta _ aw_101) (fun _ h9 => h9) rfl dX3_undo_4 ?_
  refine lv_if_ne (tgt := 20) hx hb dX3_undo_7 (by decide) (fun c1_ => ?_) (fun c1_ => ?_)
  · have h := pq_e c1_ h
    refine lv_aload_n hx hb dX3_undo_20 rfl (lv_at hl 0 rfl) ?_
    refine va_get (D := D) (ci := 3) (v := .ref (qa 4 0)) (C := RX3) (T := TX3) (N := 7) hx hb hts hin3 hown hK hP 0 rfl rfl 5 (by decide) (hta _ aw_129) (fun _ h9 => h9) rfl dX3_undo_21 ?_
    refine lv_aload_n hx hb dX3_undo_24 rfl (lv_at hl 0 rfl) ?_
    refine va_get (D := D) (ci := 3) (v := .ref (qa 1 0)) (C := RX3) (T := TX3) (N := 7) hx hb hts hin3 hown hK hP 0 rfl rfl 0 (by decide) (hta _ aw_124) (fun _ h9 => h9) rfl dX3_undo_25 ?_
    obtain ⟨r1, hr1, h⟩ := pq_b h
    refine pw_fv (ws0 := W3 cy qa P T S nw hz ak pa wt cd ln) (ws1 := W3 cy qa r1.1 T S r1.2.1 r1.2.2 ak pa wt cd ln) (wc := WP cy (qa 1) P ++ WH cy qa S nw hz) (w1 := WP cy (qa 1) r1.1 ++ WH cy qa S r1.2.1 r1.2.2) (rest := []) (As := [.ref (qa 1 0)]) hF (kX1_restore l D cy qa _ P S nw hz r1 hr1) (cwV 1 hts (pw_gV (own := RX3) (idx := 190) (C := RX1) (y := yX1_restore) aw_621 aw_622 aw_623 aw_4 aw_624) rfl rfl rfl pX1_restore ⟨Nat.le_of_ble_eq_true rfl, Nat.le_of_ble_eq_true rfl⟩) 1 (RX1, TX1, 3) rfl rfl ⟨15, _, rfl⟩ hK hP hD hS hA (pw_s34 _ _ _ _ _) (pw_s34 _ _ _ _ _) rfl rfl hl.1 rfl (Nat.le_of_ble_eq_true rfl) dX3_undo_28 ⟨Nat.zero_le _, Nat.zero_le _⟩ (fun H locs hP hD hS => ?_)
    refine lv_aload_n hx hb dX3_undo_31 rfl (lv_at hl 0 rfl) ?_
    refine va_get (D := D) (ci := 3) (v := .ref (qa 4 0)) (C := RX3) (T := TX3) (N := 7) hx hb hts hin3 hown hK hP 0 rfl rfl 5 (by decide) (hta _ aw_129) (fun _ h9 => h9) rfl dX3_undo_32 ?_
    refine va_get (D := D) (ci := 1) (v := .int r1.2.2) (C := RX1) (T := TX1) (N := 3) hx hb hts hin1 hown hK hP 36 rfl rfl 2 (by decide) (hta _ aw_101) (fun _ h9 => h9) rfl dX3_undo_35 ?_
    exact nomatch h
  · have h := pq_t c1_ h
    obtain rfl := Sum.inl.inj (Option.some.inj h)
    subst hQ
    subst hAe
    exact pw_throwS (own := RX3) (cls := "java/lang/IllegalStateException") (text := "there is no saved state") (ik := 51) (is := 188) (ic := 55) hx hb hfl hown hlk (by decide +kernel) (hta _ aw_455) (hta _ aw_11) (by decide +kernel) (fun w hw => hta w (pw_at55 w hw)) pw_nt55 pw_gt55 hE hP hS hl.1 hml hxt dX3_undo_10 dX3_undo_13 dX3_undo_14 dX3_undo_16 dX3_undo_19 (Nat.le_of_ble_eq_true rfl) (Nat.le_of_ble_eq_true rfl) (Nat.le_of_ble_eq_true rfl) (Nat.le_of_ble_eq_true rfl) rfl (Nat.le_of_ble_eq_true rfl) (Nat.le_of_ble_eq_true rfl)

set_option maxHeartbeats 8000000 in
set_option maxRecDepth 100000 in
theorem kX3_requireKind_t (l : Launch) (hfl : l.stackTraces = false) (D : va_G) (cy : Nat → ClassId) (sz : Nat)  (x0 : Int32) (x1 : Int32) (k : Nat) (h : fX3_requireKind x0 x1 = some (Sum.inl k)) : vx_Met l yX3_requireKind aX3_requireKind ({ frames := 6, cells := 1, slots := 6, locals := 90 }) (pw_PreE D cy [.int x0, .int x1] ([]) sz) (pw_NQ ([]) sz) (pw_XC D k ([]) sz) 1 6 (va_A ([]) sz) := by
  refine pw_metX (cc := cX3_requireKind) (maxL := 2) (ret := none) (by decide) rfl (Nat.le_of_ble_eq_true rfl) ?_
  intro p e s m args below meth c ls A hx hb hr hml hlk hts hown hAe hA hK hP hD hS hl hxt hE
  have hl : lv_has ls 2 [(0, .int x0), (1, .int x1)] := hl
  generalize hQ : vx_MQ below (pw_NQ ([]) sz) (pw_XC D k ([]) sz) args s 1 6 (va_A ([]) sz) = Q
  have hF : CallFix p m c cX3_requireKind 2 s args aX3_requireKind RX3 := ⟨hx, hb, hml, hown, hts⟩
  have hta : ∀ w ∈ pw_all, w.before args s = true := fun w h => hts w (List.mem_cons_of_mem _ h)
  unfold fX3_requireKind at h
  refine lv_iload_n hx hb dX3_requireKind_0 rfl (lv_at hl 0 rfl) ?_
  refine lv_if_lt (tgt := 9) hx hb dX3_requireKind_1 (by decide) (fun c1_ => ?_) (fun c1_ => ?_)
  · have h := pq_t c1_ h
    obtain rfl := Sum.inl.inj (Option.some.inj h)
    subst hQ
    subst hAe
    exact pw_throwSW (own := RX3) (cls := "java/lang/IllegalArgumentException") (text := "what is out of range") (ik := 130) (is := 271) (ic := 134) hx hb hfl hown hlk (by decide +kernel) (hta _ aw_276) (hta _ aw_13) (by decide +kernel) (fun w hw => hta w (pw_at134 w hw)) pw_nt134 pw_gt134 hE hP hS hl.1 hml hxt dX3_requireKind_9 dX3_requireKind_12 dX3_requireKind_13 dX3_requireKind_16 dX3_requireKind_19 (Nat.le_of_ble_eq_true rfl) (Nat.le_of_ble_eq_true rfl) (Nat.le_of_ble_eq_true rfl) (Nat.le_of_ble_eq_true rfl) rfl (Nat.le_of_ble_eq_true rfl) (Nat.le_of_ble_eq_true rfl)
  · have h := pq_e c1_ h
    refine lv_iload_n hx hb dX3_requireKind_4 rfl (lv_at hl 0 rfl) ?_
    refine lv_iload_n hx hb dX3_requireKind_5 rfl (lv_at hl 1 rfl) ?_
    refine lv_icmp_lt (tgt := 20) hx hb dX3_requireKind_6 (by decide) (fun c2_ => ?_) (fun c2_ => ?_)
    · have h := pq_t c2_ h
      exact nomatch h
    · have h := pq_e c2_ h
      obtain rfl := Sum.inl.inj (Option.some.inj h)
      subst hQ
      subst hAe
      exact pw_throwSW (own := RX3) (cls := "java/lang/IllegalArgumentException") (text := "what is out of range") (ik := 130) (is := 271) (ic := 134) hx hb hfl hown hlk (by decide +kernel) (hta _ aw_276) (hta _ aw_13) (by decide +kernel) (fun w hw => hta w (pw_at134 w hw)) pw_nt134 pw_gt134 hE hP hS hl.1 hml hxt dX3_requireKind_9 dX3_requireKind_12 dX3_requireKind_13 dX3_requireKind_16 dX3_requireKind_19 (Nat.le_of_ble_eq_true rfl) (Nat.le_of_ble_eq_true rfl) (Nat.le_of_ble_eq_true rfl) (Nat.le_of_ble_eq_true rfl) rfl (Nat.le_of_ble_eq_true rfl) (Nat.le_of_ble_eq_true rfl)

set_option maxHeartbeats 8000000 in
set_option maxRecDepth 100000 in
theorem kX3_place_t (l : Launch) (hfl : l.stackTraces = false) (D : va_G) (cy : Nat → ClassId) (qa : Nat → Nat → Nat) (sz : Nat) (P : Nat → Nat → Int32) (T : Nat → Nat → Int32) (S : Nat → Nat → Nat → Int32) (nw : Int32) (hz : Int32) (ak : Nat → Int32) (pa : Nat → Int32) (wt : Nat → Int32) (cd : Nat → Int32) (ln : Int32) (x1 : Int32) (x2 : Int32) (k : Nat) (h : fX3_place x1 x2 P = some (Sum.inl k)) : vx_Met l yX3_place aX3_place ({ frames := 7, cells := 1, slots := 6, locals := 111 }) (pw_PreE D cy [.ref (qa 0 0), .int x1, .int x2] (W3 cy qa P T S nw hz ak pa wt cd ln) sz) (pw_NQ (W3 cy qa P T S nw hz ak pa wt cd ln) sz) (pw_XC D k (W3 cy qa P T S nw hz ak pa wt cd ln) sz) 1 6 (va_A (W3 cy qa P T S nw hz ak pa wt cd ln) sz) := by
  refine pw_metX (cc := cX3_place) (maxL := 3) (ret := (some .int)) (by decide) rfl (Nat.le_of_ble_eq_true rfl) ?_
  intro p e s m args below meth c ls A hx hb hr hml hlk hts hown hAe hA hK hP hD hS hl hxt hE
  have hl : lv_has ls 3 [(0, .ref (qa 0 0)), (1, .int x1), (2, .int x2)] := hl
  generalize hQ : vx_MQ below (pw_NQ (W3 cy qa P T S nw hz ak pa wt cd ln) sz) (pw_XC D k (W3 cy qa P T S nw hz ak pa wt cd ln) sz) args s 1 6 (va_A (W3 cy qa P T S nw hz ak pa wt cd ln) sz) = Q
  have hF : CallFix p m c cX3_place 3 s args aX3_place RX3 := ⟨hx, hb, hml, hown, hts⟩
  have hta : ∀ w ∈ pw_all, w.before args s = true := fun w h => hts w (List.mem_cons_of_mem _ h)
  have hin3 : ∀ w ∈ wsX30, w ∈ aX3_place := fun w h => List.mem_cons_of_mem _ (inA3 w h)
  have hin2 : ∀ w ∈ wsX20, w ∈ aX3_place := fun w h => List.mem_cons_of_mem _ (inA2 w h)
  have hin1 : ∀ w ∈ wsX10, w ∈ aX3_place := fun w h => List.mem_cons_of_mem _ (inA1 w h)
  have hin0 : ∀ w ∈ wsX00, w ∈ aX3_place := fun w h => List.mem_cons_of_mem _ (inA0 w h)
  unfold fX3_place at h
  refine lv_iload_n hx hb dX3_place_0 rfl (lv_at hl 1 rfl) ?_
  obtain ⟨r1, hr1, h⟩ := pq_b h
  rcases pq_inl h with rfl | ⟨a2, rfl, h⟩
  · subst hQ
    subst hAe
    exact pw_tS (rest := []) (As := [.int x1]) hF (kX3_requirePlace_t l hfl D cy _ x1 k hr1) (cwS 1 hts (pw_gS (own := RX3) (idx := 66) (y := yX3_requirePlace) aw_478 aw_479 aw_1 aw_480) rfl rfl rfl pX3_requirePlace ⟨Nat.le_of_ble_eq_true rfl, Nat.le_of_ble_eq_true rfl⟩) hK hP hD hS hE rfl hl.1 rfl (Nat.le_of_ble_eq_true rfl) dX3_place_1 hxt hlk (Nat.le_of_ble_eq_true rfl) (Nat.le_of_ble_eq_true rfl) (Nat.le_of_ble_eq_true rfl) (Nat.le_of_ble_eq_true rfl) hA
  · refine pw_sv (rest := []) (As := [.int x1]) hF (kX3_requirePlace l D cy _ x1 a2 hr1) (cwS 1 hts (pw_gS (own := RX3) (idx := 66) (y := yX3_requirePlace) aw_478 aw_479 aw_1 aw_480) rfl rfl rfl pX3_requirePlace ⟨Nat.le_of_ble_eq_true rfl, Nat.le_of_ble_eq_true rfl⟩) hK hP hS hA rfl hl.1 rfl (Nat.le_of_ble_eq_true rfl) dX3_place_1 ⟨Nat.zero_le _, Nat.zero_le _⟩ (fun H locs hP hS => ?_)
    refine lv_iload_n hx hb dX3_place_4 rfl (lv_at hl 2 rfl) ?_
    refine lv_bipush (v := 6) hx hb dX3_place_5 (by decide) ?_
    obtain ⟨r3, hr3, h⟩ := pq_b h
    rcases pq_inl h with rfl | ⟨a4, rfl, h⟩
    · subst hQ
      subst hAe
      exact pw_tS (rest := []) (As := [.int x2, .int 6]) hF (kX3_requireKind_t l hfl D cy _ x2 6 k hr3) (cwS 2 hts (pw_gS (own := RX3) (idx := 193) (y := yX3_requireKind) aw_273 aw_274 aw_1 aw_275) rfl rfl rfl pX3_requireKind ⟨Nat.le_of_ble_eq_true rfl, Nat.le_of_ble_eq_true rfl⟩) hK hP hD hS hE rfl hl.1 rfl (Nat.le_of_ble_eq_true rfl) dX3_place_7 hxt hlk (Nat.le_of_ble_eq_true rfl) (Nat.le_of_ble_eq_true rfl) (Nat.le_of_ble_eq_true rfl) (Nat.le_of_ble_eq_true rfl) hA
    · refine pw_sv (rest := []) (As := [.int x2, .int 6]) hF (kX3_requireKind l D cy _ x2 6 a4 hr3) (cwS 2 hts (pw_gS (own := RX3) (idx := 193) (y := yX3_requireKind) aw_273 aw_274 aw_1 aw_275) rfl rfl rfl pX3_requireKind ⟨Nat.le_of_ble_eq_true rfl, Nat.le_of_ble_eq_true rfl⟩) hK hP hS hA rfl hl.1 rfl (Nat.le_of_ble_eq_true rfl) dX3_place_7 ⟨Nat.zero_le _, Nat.zero_le _⟩ (fun H locs hP hS => ?_)
      refine lv_aload_n hx hb dX3_place_10 rfl (lv_at hl 0 rfl) ?_
      refine va_get (D := D) (ci := 3) (v := .ref (qa 1 0)) (C := RX3) (T := TX3) (N := 7) hx hb hts hin3 hown hK hP 0 rfl rfl 0 (by decide) (hta _ aw_124) (fun _ h9 => h9) rfl dX3_place_11 ?_
      refine lv_iload_n hx hb dX3_place_14 rfl (lv_at hl 1 rfl) ?_
      refine lv_iload_n hx hb dX3_place_15 rfl (lv_at hl 2 rfl) ?_
      obtain ⟨r5, hr5, h⟩ := pq_b h
      refine pw_fi (ws0 := W3 cy qa P T S nw hz ak pa wt cd ln) (ws1 := W3 cy qa P T S nw hz ak pa wt cd ln) (wc := WP cy (qa 1) P) (w1 := WP cy (qa 1) P) (rest := []) (As := [.int x1, .int x2]) hF (kX2_placeProperty l D cy (qa 1) _ P x1 x2 r5 hr5) (cwV 2 hts (pw_gV (own := RX3) (idx := 197) (C := RX2) (y := yX2_placeProperty) aw_355 aw_356 aw_357 aw_2 aw_358) rfl rfl rfl pX2_placeProperty ⟨Nat.le_of_ble_eq_true rfl, Nat.le_of_ble_eq_true rfl⟩) 2 (RX2, TX2, 16) rfl rfl ⟨0, _, rfl⟩ hK hP hD hS hA (pw_s3 _ _ _ _ _) (pw_s3 _ _ _ _ _) rfl rfl hl.1 rfl (Nat.le_of_ble_eq_true rfl) dX3_place_16 ⟨Nat.zero_le _, Nat.zero_le _⟩ (fun H locs hP hD hS => ?_)
      exact nomatch h

set_option maxHeartbeats 8000000 in
set_option maxRecDepth 100000 in
theorem kX3_owner_t (l : Launch) (hfl : l.stackTraces = false) (D : va_G) (cy : Nat → ClassId) (qa : Nat → Nat → Nat) (sz : Nat) (P : Nat → Nat → Int32) (T : Nat → Nat → Int32) (S : Nat → Nat → Nat → Int32) (nw : Int32) (hz : Int32) (ak : Nat → Int32) (pa : Nat → Int32) (wt : Nat → Int32) (cd : Nat → Int32) (ln : Int32) (x1 : Int32) (x2 : Int32) (k : Nat) (h : fX3_owner x1 x2 P = some (Sum.inl k)) : vx_Met l yX3_owner aX3_owner ({ frames := 7, cells := 1, slots := 6, locals := 111 }) (pw_PreE D cy [.ref (qa 0 0), .int x1, .int x2] (W3 cy qa P T S nw hz ak pa wt cd ln) sz) (pw_NQ (W3 cy qa P T S nw hz ak pa wt cd ln) sz) (pw_XC D k (W3 cy qa P T S nw hz ak pa wt cd ln) sz) 1 6 (va_A (W3 cy qa P T S nw hz ak pa wt cd ln) sz) := by
  refine pw_metX (cc := cX3_owner) (maxL := 3) (ret := (some .int)) (by decide) rfl (Nat.le_of_ble_eq_true rfl) ?_
  intro p e s m args below meth c ls A hx hb hr hml hlk hts hown hAe hA hK hP hD hS hl hxt hE
  have hl : lv_has ls 3 [(0, .ref (qa 0 0)), (1, .int x1), (2, .int x2)] := hl
  generalize hQ : vx_MQ below (pw_NQ (W3 cy qa P T S nw hz ak pa wt cd ln) sz) (pw_XC D k (W3 cy qa P T S nw hz ak pa wt cd ln) sz) args s 1 6 (va_A (W3 cy qa P T S nw hz ak pa wt cd ln) sz) = Q
  have hF : CallFix p m c cX3_owner 3 s args aX3_owner RX3 := ⟨hx, hb, hml, hown, hts⟩
  have hta : ∀ w ∈ pw_all, w.before args s = true := fun w h => hts w (List.mem_cons_of_mem _ h)
  have hin3 : ∀ w ∈ wsX30, w ∈ aX3_owner := fun w h => List.mem_cons_of_mem _ (inA3 w h)
  have hin2 : ∀ w ∈ wsX20, w ∈ aX3_owner := fun w h => List.mem_cons_of_mem _ (inA2 w h)
  have hin1 : ∀ w ∈ wsX10, w ∈ aX3_owner := fun w h => List.mem_cons_of_mem _ (inA1 w h)
  have hin0 : ∀ w ∈ wsX00, w ∈ aX3_owner := fun w h => List.mem_cons_of_mem _ (inA0 w h)
  unfold fX3_owner at h
  refine lv_iload_n hx hb dX3_owner_0 rfl (lv_at hl 1 rfl) ?_
  obtain ⟨r1, hr1, h⟩ := pq_b h
  rcases pq_inl h with rfl | ⟨a2, rfl, h⟩
  · subst hQ
    subst hAe
    exact pw_tS (rest := []) (As := [.int x1]) hF (kX3_requireOwner_t l hfl D cy _ x1 k hr1) (cwS 1 hts (pw_gS (own := RX3) (idx := 43) (y := yX3_requireOwner) aw_436 aw_437 aw_1 aw_438) rfl rfl rfl pX3_requireOwner ⟨Nat.le_of_ble_eq_true rfl, Nat.le_of_ble_eq_true rfl⟩) hK hP hD hS hE rfl hl.1 rfl (Nat.le_of_ble_eq_true rfl) dX3_owner_1 hxt hlk (Nat.le_of_ble_eq_true rfl) (Nat.le_of_ble_eq_true rfl) (Nat.le_of_ble_eq_true rfl) (Nat.le_of_ble_eq_true rfl) hA
  · refine pw_sv (rest := []) (As := [.int x1]) hF (kX3_requireOwner l D cy _ x1 a2 hr1) (cwS 1 hts (pw_gS (own := RX3) (idx := 43) (y := yX3_requireOwner) aw_436 aw_437 aw_1 aw_438) rfl rfl rfl pX3_requireOwner ⟨Nat.le_of_ble_eq_true rfl, Nat.le_of_ble_eq_true rfl⟩) hK hP hS hA rfl hl.1 rfl (Nat.le_of_ble_eq_true rfl) dX3_owner_1 ⟨Nat.zero_le _, Nat.zero_le _⟩ (fun H locs hP hS => ?_)
    refine lv_iload_n hx hb dX3_owner_4 rfl (lv_at hl 2 rfl) ?_
    refine lv_bipush (v := 7) hx hb dX3_owner_5 (by decide) ?_
    obtain ⟨r3, hr3, h⟩ := pq_b h
    rcases pq_inl h with rfl | ⟨a4, rfl, h⟩
    · subst hQ
      subst hAe
      exact pw_tS (rest := []) (As := [.int x2, .int 7]) hF (kX3_requireKind_t l hfl D cy _ x2 7 k hr3) (cwS 2 hts (pw_gS (own := RX3) (idx := 193) (y := yX3_requireKind) aw_273 aw_274 aw_1 aw_275) rfl rfl rfl pX3_requireKind ⟨Nat.le_of_ble_eq_true rfl, Nat.le_of_ble_eq_true rfl⟩) hK hP hD hS hE rfl hl.1 rfl (Nat.le_of_ble_eq_true rfl) dX3_owner_7 hxt hlk (Nat.le_of_ble_eq_true rfl) (Nat.le_of_ble_eq_true rfl) (Nat.le_of_ble_eq_true rfl) (Nat.le_of_ble_eq_true rfl) hA
    · refine pw_sv (rest := []) (As := [.int x2, .int 7]) hF (kX3_requireKind l D cy _ x2 7 a4 hr3) (cwS 2 hts (pw_gS (own := RX3) (idx := 193) (y := yX3_requireKind) aw_273 aw_274 aw_1 aw_275) rfl rfl rfl pX3_requireKind ⟨Nat.le_of_ble_eq_true rfl, Nat.le_of_ble_eq_true rfl⟩) hK hP hS hA rfl hl.1 rfl (Nat.le_of_ble_eq_true rfl) dX3_owner_7 ⟨Nat.zero_le _, Nat.zero_le _⟩ (fun H locs hP hS => ?_)
      refine lv_aload_n hx hb dX3_owner_10 rfl (lv_at hl 0 rfl) ?_
      refine va_get (D := D) (ci := 3) (v := .ref (qa 1 0)) (C := RX3) (T := TX3) (N := 7) hx hb hts hin3 hown hK hP 0 rfl rfl 0 (by decide) (hta _ aw_124) (fun _ h9 => h9) rfl dX3_owner_11 ?_
      refine lv_iload_n hx hb dX3_owner_14 rfl (lv_at hl 1 rfl) ?_
      refine lv_iload_n hx hb dX3_owner_15 rfl (lv_at hl 2 rfl) ?_
      obtain ⟨r5, hr5, h⟩ := pq_b h
      refine pw_fi (ws0 := W3 cy qa P T S nw hz ak pa wt cd ln) (ws1 := W3 cy qa P T S nw hz ak pa wt cd ln) (wc := WP cy (qa 1) P) (w1 := WP cy (qa 1) P) (rest := []) (As := [.int x1, .int x2]) hF (kX2_ownerProperty l D cy (qa 1) _ P x1 x2 r5 hr5) (cwV 2 hts (pw_gV (own := RX3) (idx := 200) (C := RX2) (y := yX2_ownerProperty) aw_386 aw_387 aw_388 aw_2 aw_389) rfl rfl rfl pX2_ownerProperty ⟨Nat.le_of_ble_eq_true rfl, Nat.le_of_ble_eq_true rfl⟩) 2 (RX2, TX2, 16) rfl rfl ⟨0, _, rfl⟩ hK hP hD hS hA (pw_s3 _ _ _ _ _) (pw_s3 _ _ _ _ _) rfl rfl hl.1 rfl (Nat.le_of_ble_eq_true rfl) dX3_owner_16 ⟨Nat.zero_le _, Nat.zero_le _⟩ (fun H locs hP hD hS => ?_)
      exact nomatch h

set_option maxHeartbeats 8000000 in
set_option maxRecDepth 100000 in
theorem kX3_count_t (l : Launch) (hfl : l.stackTraces = false) (D : va_G) (cy : Nat → ClassId) (qa : Nat → Nat → Nat) (sz : Nat) (P : Nat → Nat → Int32) (T : Nat → Nat → Int32) (S : Nat → Nat → Nat → Int32) (nw : Int32) (hz : Int32) (ak : Nat → Int32) (pa : Nat → Int32) (wt : Nat → Int32) (cd : Nat → Int32) (ln : Int32) (x1 : Int32) (k : Nat) (h : fX3_count x1 P hz = some (Sum.inl k)) : vx_Met l yX3_count aX3_count ({ frames := 7, cells := 1, slots := 6, locals := 111 }) (pw_PreE D cy [.ref (qa 0 0), .int x1] (W3 cy qa P T S nw hz ak pa wt cd ln) sz) (pw_NQ (W3 cy qa P T S nw hz ak pa wt cd ln) sz) (pw_XC D k (W3 cy qa P T S nw hz ak pa wt cd ln) sz) 1 6 (va_A (W3 cy qa P T S nw hz ak pa wt cd ln) sz) := by
  refine pw_metX (cc := cX3_count) (maxL := 2) (ret := (some .int)) (by decide) rfl (Nat.le_of_ble_eq_true rfl) ?_
  intro p e s m args below meth c ls A hx hb hr hml hlk hts hown hAe hA hK hP hD hS hl hxt hE
  have hl : lv_has ls 2 [(0, .ref (qa 0 0)), (1, .int x1)] := hl
  generalize hQ : vx_MQ below (pw_NQ (W3 cy qa P T S nw hz ak pa wt cd ln) sz) (pw_XC D k (W3 cy qa P T S nw hz ak pa wt cd ln) sz) args s 1 6 (va_A (W3 cy qa P T S nw hz ak pa wt cd ln) sz) = Q
  have hF : CallFix p m c cX3_count 2 s args aX3_count RX3 := ⟨hx, hb, hml, hown, hts⟩
  have hta : ∀ w ∈ pw_all, w.before args s = true := fun w h => hts w (List.mem_cons_of_mem _ h)
  have hin3 : ∀ w ∈ wsX30, w ∈ aX3_count := fun w h => List.mem_cons_of_mem _ (inA3 w h)
  have hin2 : ∀ w ∈ wsX20, w ∈ aX3_count := fun w h => List.mem_cons_of_mem _ (inA2 w h)
  have hin1 : ∀ w ∈ wsX10, w ∈ aX3_count := fun w h => List.mem_cons_of_mem _ (inA1 w h)
  have hin0 : ∀ w ∈ wsX00, w ∈ aX3_count := fun w h => List.mem_cons_of_mem _ (inA0 w h)
  unfold fX3_count at h
  refine lv_iload_n hx hb dX3_count_0 rfl (lv_at hl 1 rfl) ?_
  refine lv_bipush (v := 14) hx hb dX3_count_1 (by decide) ?_
  obtain ⟨r1, hr1, h⟩ := pq_b h
  rcases pq_inl h with rfl | ⟨a2, rfl, h⟩
  · subst hQ
    subst hAe
    exact pw_tS (rest := []) (As := [.int x1, .int 14]) hF (kX3_requireKind_t l hfl D cy _ x1 14 k hr1) (cwS 2 hts (pw_gS (own := RX3) (idx := 193) (y := yX3_requireKind) aw_273 aw_274 aw_1 aw_275) rfl rfl rfl pX3_requireKind ⟨Nat.le_of_ble_eq_true rfl, Nat.le_of_ble_eq_true rfl⟩) hK hP hD hS hE rfl hl.1 rfl (Nat.le_of_ble_eq_true rfl) dX3_count_3 hxt hlk (Nat.le_of_ble_eq_true rfl) (Nat.le_of_ble_eq_true rfl) (Nat.le_of_ble_eq_true rfl) (Nat.le_of_ble_eq_true rfl) hA
  · refine pw_sv (rest := []) (As := [.int x1, .int 14]) hF (kX3_requireKind l D cy _ x1 14 a2 hr1) (cwS 2 hts (pw_gS (own := RX3) (idx := 193) (y := yX3_requireKind) aw_273 aw_274 aw_1 aw_275) rfl rfl rfl pX3_requireKind ⟨Nat.le_of_ble_eq_true rfl, Nat.le_of_ble_eq_true rfl⟩) hK hP hS hA rfl hl.1 rfl (Nat.le_of_ble_eq_true rfl) dX3_count_3 ⟨Nat.zero_le _, Nat.zero_le _⟩ (fun H locs hP hS => ?_)
    refine lv_iload_n hx hb dX3_count_6 rfl (lv_at hl 1 rfl) ?_
    refine lv_bipush (v := 13) hx hb dX3_count_7 (by decide) ?_
    refine lv_icmp_ne (tgt := 22) hx hb dX3_count_9 (by decide) (fun c1_ => ?_) (fun c1_ => ?_)
    · have h := pq_e c1_ h
      refine lv_aload_n hx hb dX3_count_22 rfl (lv_at hl 0 rfl) ?_
      refine va_get (D := D) (ci := 3) (v := .ref (qa 1 0)) (C := RX3) (T := TX3) (N := 7) hx hb hts hin3 hown hK hP 0 rfl rfl 0 (by decide) (hta _ aw_124) (fun _ h9 => h9) rfl dX3_count_23 ?_
      refine lv_iload_n hx hb dX3_count_26 rfl (lv_at hl 1 rfl) ?_
      obtain ⟨r3, hr3, h⟩ := pq_b h
      refine pw_fi (ws0 := W3 cy qa P T S nw hz ak pa wt cd ln) (ws1 := W3 cy qa P T S nw hz ak pa wt cd ln) (wc := WP cy (qa 1) P) (w1 := WP cy (qa 1) P) (rest := []) (As := [.int x1]) hF (kX2_number l D cy (qa 1) _ P x1 r3 hr3) (cwV 1 hts (pw_gV (own := RX3) (idx := 203) (C := RX2) (y := yX2_number) aw_344 aw_345 aw_346 aw_2 aw_347) rfl rfl rfl pX2_number ⟨Nat.le_of_ble_eq_true rfl, Nat.le_of_ble_eq_true rfl⟩) 2 (RX2, TX2, 16) rfl rfl ⟨0, _, rfl⟩ hK hP hD hS hA (pw_s3 _ _ _ _ _) (pw_s3 _ _ _ _ _) rfl rfl hl.1 rfl (Nat.le_of_ble_eq_true rfl) dX3_count_27 ⟨Nat.zero_le _, Nat.zero_le _⟩ (fun H locs hP hD hS => ?_)
      exact nomatch h
    · have h := pq_t c1_ h
      refine lv_aload_n hx hb dX3_count_12 rfl (lv_at hl 0 rfl) ?_
      refine va_get (D := D) (ci := 3) (v := .ref (qa 4 0)) (C := RX3) (T := TX3) (N := 7) hx hb hts hin3 hown hK hP 0 rfl rfl 5 (by decide) (hta _ aw_129) (fun _ h9 => h9) rfl dX3_count_13 ?_
      refine va_get (D := D) (ci := 1) (v := .int hz) (C := RX1) (T := TX1) (N := 3) hx hb hts hin1 hown hK hP 36 rfl rfl 2 (by decide) (hta _ aw_101) (fun _ h9 => h9) rfl dX3_count_16 ?_
      refine lv_goto (tgt := 30) hx hb dX3_count_19 (by decide) ?_
      exact nomatch h

set_option maxHeartbeats 8000000 in
set_option maxRecDepth 100000 in
theorem kX3_setting_t (l : Launch) (hfl : l.stackTraces = false) (D : va_G) (cy : Nat → ClassId) (qa : Nat → Nat → Nat) (sz : Nat) (P : Nat → Nat → Int32) (T : Nat → Nat → Int32) (S : Nat → Nat → Nat → Int32) (nw : Int32) (hz : Int32) (ak : Nat → Int32) (pa : Nat → Int32) (wt : Nat → Int32) (cd : Nat → Int32) (ln : Int32) (x1 : Int32) (k : Nat) (h : fX3_setting x1 P = some (Sum.inl k)) : vx_Met l yX3_setting aX3_setting ({ frames := 7, cells := 1, slots := 6, locals := 110 }) (pw_PreE D cy [.ref (qa 0 0), .int x1] (W3 cy qa P T S nw hz ak pa wt cd ln) sz) (pw_NQ (W3 cy qa P T S nw hz ak pa wt cd ln) sz) (pw_XC D k (W3 cy qa P T S nw hz ak pa wt cd ln) sz) 1 6 (va_A (W3 cy qa P T S nw hz ak pa wt cd ln) sz) := by
  refine pw_metX (cc := cX3_setting) (maxL := 2) (ret := (some .int)) (by decide) rfl (Nat.le_of_ble_eq_true rfl) ?_
  intro p e s m args below meth c ls A hx hb hr hml hlk hts hown hAe hA hK hP hD hS hl hxt hE
  have hl : lv_has ls 2 [(0, .ref (qa 0 0)), (1, .int x1)] := hl
  generalize hQ : vx_MQ below (pw_NQ (W3 cy qa P T S nw hz ak pa wt cd ln) sz) (pw_XC D k (W3 cy qa P T S nw hz ak pa wt cd ln) sz) args s 1 6 (va_A (W3 cy qa P T S nw hz ak pa wt cd ln) sz) = Q
  have hF : CallFix p m c cX3_setting 2 s args aX3_setting RX3 := ⟨hx, hb, hml, hown, hts⟩
  have hta : ∀ w ∈ pw_all, w.before args s = true := fun w h => hts w (List.mem_cons_of_mem _ h)
  have hin3 : ∀ w ∈ wsX30, w ∈ aX3_setting := fun w h => List.mem_cons_of_mem _ (inA3 w h)
  have hin2 : ∀ w ∈ wsX20, w ∈ aX3_setting := fun w h => List.mem_cons_of_mem _ (inA2 w h)
  have hin1 : ∀ w ∈ wsX10, w ∈ aX3_setting := fun w h => List.mem_cons_of_mem _ (inA1 w h)
  have hin0 : ∀ w ∈ wsX00, w ∈ aX3_setting := fun w h => List.mem_cons_of_mem _ (inA0 w h)
  unfold fX3_setting at h
  refine lv_iload_n hx hb dX3_setting_0 rfl (lv_at hl 1 rfl) ?_
  obtain ⟨r1, hr1, h⟩ := pq_b h
  rcases pq_inl h with rfl | ⟨a2, rfl, h⟩
  · subst hQ
    subst hAe
    exact pw_tS (rest := []) (As := [.int x1]) hF (kX3_requireSetting_t l hfl D cy _ x1 k hr1) (cwS 1 hts (pw_gS (own := RX3) (idx := 121) (y := yX3_requireSetting) aw_540 aw_541 aw_1 aw_542) rfl rfl rfl pX3_requireSetting ⟨Nat.le_of_ble_eq_true rfl, Nat.le_of_ble_eq_true rfl⟩) hK hP hD hS hE rfl hl.1 rfl (Nat.le_of_ble_eq_true rfl) dX3_setting_1 hxt hlk (Nat.le_of_ble_eq_true rfl) (Nat.le_of_ble_eq_true rfl) (Nat.le_of_ble_eq_true rfl) (Nat.le_of_ble_eq_true rfl) hA
  · refine pw_sv (rest := []) (As := [.int x1]) hF (kX3_requireSetting l D cy _ x1 a2 hr1) (cwS 1 hts (pw_gS (own := RX3) (idx := 121) (y := yX3_requireSetting) aw_540 aw_541 aw_1 aw_542) rfl rfl rfl pX3_requireSetting ⟨Nat.le_of_ble_eq_true rfl, Nat.le_of_ble_eq_true rfl⟩) hK hP hS hA rfl hl.1 rfl (Nat.le_of_ble_eq_true rfl) dX3_setting_1 ⟨Nat.zero_le _, Nat.zero_le _⟩ (fun H locs hP hS => ?_)
    refine lv_aload_n hx hb dX3_setting_4 rfl (lv_at hl 0 rfl) ?_
    refine va_get (D := D) (ci := 3) (v := .ref (qa 1 0)) (C := RX3) (T := TX3) (N := 7) hx hb hts hin3 hown hK hP 0 rfl rfl 0 (by decide) (hta _ aw_124) (fun _ h9 => h9) rfl dX3_setting_5 ?_
    refine va_get (D := D) (ci := 2) (v := .ref (qa 1 1)) (C := RX2) (T := TX2) (N := 16) hx hb hts hin2 hown hK hP 21 rfl rfl 1 (by decide) (hta _ aw_35) (fun _ h9 => h9) rfl dX3_setting_8 ?_
    refine lv_iload_n hx hb dX3_setting_11 rfl (lv_at hl 1 rfl) ?_
    obtain ⟨hg, h⟩ := pq_g h
    refine va_iald hx hb hK hP 22 0 rfl rfl (pq_vp hg) dX3_setting_12 ?_
    exact nomatch h

set_option maxHeartbeats 8000000 in
set_option maxRecDepth 100000 in
theorem kX3_ifAsked_t (l : Launch) (hfl : l.stackTraces = false) (D : va_G) (cy : Nat → ClassId) (qa : Nat → Nat → Nat) (sz : Nat) (P : Nat → Nat → Int32) (T : Nat → Nat → Int32) (S : Nat → Nat → Nat → Int32) (nw : Int32) (hz : Int32) (ak : Nat → Int32) (pa : Nat → Int32) (wt : Nat → Int32) (cd : Nat → Int32) (ln : Int32) (x1 : Int32) (x2 : Int32) (k : Nat) (h : fX3_ifAsked x1 x2 P T ak = some (Sum.inl k)) : vx_Met l yX3_ifAsked aX3_ifAsked ({ frames := 7, cells := 1, slots := 6, locals := 135 }) (pw_PreE D cy [.ref (qa 0 0), .int x1, .int x2] (W3 cy qa P T S nw hz ak pa wt cd ln) sz) (pw_NQ (W3 cy qa P T S nw hz ak pa wt cd ln) sz) (pw_XC D k (W3 cy qa P T S nw hz ak pa wt cd ln) sz) 1 6 (va_A (W3 cy qa P T S nw hz ak pa wt cd ln) sz) := by
  refine pw_metX (cc := cX3_ifAsked) (maxL := 3) (ret := (some .int)) (by decide) rfl (Nat.le_of_ble_eq_true rfl) ?_
  intro p e s m args below meth c ls A hx hb hr hml hlk hts hown hAe hA hK hP hD hS hl hxt hE
  have hl : lv_has ls 3 [(0, .ref (qa 0 0)), (1, .int x1), (2, .int x2)] := hl
  generalize hQ : vx_MQ below (pw_NQ (W3 cy qa P T S nw hz ak pa wt cd ln) sz) (pw_XC D k (W3 cy qa P T S nw hz ak pa wt cd ln) sz) args s 1 6 (va_A (W3 cy qa P T S nw hz ak pa wt cd ln) sz) = Q
  have hF : CallFix p m c cX3_ifAsked 3 s args aX3_ifAsked RX3 := ⟨hx, hb, hml, hown, hts⟩
  have hta : ∀ w ∈ pw_all, w.before args s = true := fun w h => hts w (List.mem_cons_of_mem _ h)
  have hin3 : ∀ w ∈ wsX30, w ∈ aX3_ifAsked := fun w h => List.mem_cons_of_mem _ (inA3 w h)
  have hin2 : ∀ w ∈ wsX20, w ∈ aX3_ifAsked := fun w h => List.mem_cons_of_mem _ (inA2 w h)
  have hin1 : ∀ w ∈ wsX10, w ∈ aX3_ifAsked := fun w h => List.mem_cons_of_mem _ (inA1 w h)
  have hin0 : ∀ w ∈ wsX00, w ∈ aX3_ifAsked := fun w h => List.mem_cons_of_mem _ (inA0 w h)
  unfold fX3_ifAsked at h
  refine lv_iload_n hx hb dX3_ifAsked_0 rfl (lv_at hl 1 rfl) ?_
  obtain ⟨r1, hr1, h⟩ := pq_b h
  rcases pq_inl h with rfl | ⟨a2, rfl, h⟩
  · subst hQ
    subst hAe
    exact pw_tS (rest := []) (As := [.int x1]) hF (kX3_requireOwner_t l hfl D cy _ x1 k hr1) (cwS 1 hts (pw_gS (own := RX3) (idx := 43) (y := yX3_requireOwner) aw_436 aw_437 aw_1 aw_438) rfl rfl rfl pX3_requireOwner ⟨Nat.le_of_ble_eq_true rfl, Nat.le_of_ble_eq_true rfl⟩) hK hP hD hS hE rfl hl.1 rfl (Nat.le_of_ble_eq_true rfl) dX3_ifAsked_1 hxt hlk (Nat.le_of_ble_eq_true rfl) (Nat.le_of_ble_eq_true rfl) (Nat.le_of_ble_eq_true rfl) (Nat.le_of_ble_eq_true rfl) hA
  · refine pw_sv (rest := []) (As := [.int x1]) hF (kX3_requireOwner l D cy _ x1 a2 hr1) (cwS 1 hts (pw_gS (own := RX3) (idx := 43) (y := yX3_requireOwner) aw_436 aw_437 aw_1 aw_438) rfl rfl rfl pX3_requireOwner ⟨Nat.le_of_ble_eq_true rfl, Nat.le_of_ble_eq_true rfl⟩) hK hP hS hA rfl hl.1 rfl (Nat.le_of_ble_eq_true rfl) dX3_ifAsked_1 ⟨Nat.zero_le _, Nat.zero_le _⟩ (fun H locs hP hS => ?_)
    refine lv_iload_n hx hb dX3_ifAsked_4 rfl (lv_at hl 2 rfl) ?_
    refine lv_iconst (v := 3) hx hb dX3_ifAsked_5 (by decide) ?_
    obtain ⟨r3, hr3, h⟩ := pq_b h
    rcases pq_inl h with rfl | ⟨a4, rfl, h⟩
    · subst hQ
      subst hAe
      exact pw_tS (rest := []) (As := [.int x2, .int 3]) hF (kX3_requireKind_t l hfl D cy _ x2 3 k hr3) (cwS 2 hts (pw_gS (own := RX3) (idx := 193) (y := yX3_requireKind) aw_273 aw_274 aw_1 aw_275) rfl rfl rfl pX3_requireKind ⟨Nat.le_of_ble_eq_true rfl, Nat.le_of_ble_eq_true rfl⟩) hK hP hD hS hE rfl hl.1 rfl (Nat.le_of_ble_eq_true rfl) dX3_ifAsked_6 hxt hlk (Nat.le_of_ble_eq_true rfl) (Nat.le_of_ble_eq_true rfl) (Nat.le_of_ble_eq_true rfl) (Nat.le_of_ble_eq_true rfl) hA
    · refine pw_sv (rest := []) (As := [.int x2, .int 3]) hF (kX3_requireKind l D cy _ x2 3 a4 hr3) (cwS 2 hts (pw_gS (own := RX3) (idx := 193) (y := yX3_requireKind) aw_273 aw_274 aw_1 aw_275) rfl rfl rfl pX3_requireKind ⟨Nat.le_of_ble_eq_true rfl, Nat.le_of_ble_eq_true rfl⟩) hK hP hS hA rfl hl.1 rfl (Nat.le_of_ble_eq_true rfl) dX3_ifAsked_6 ⟨Nat.zero_le _, Nat.zero_le _⟩ (fun H locs hP hS => ?_)
      refine lv_aload_n hx hb dX3_ifAsked_9 rfl (lv_at hl 0 rfl) ?_
      refine lv_iload_n hx hb dX3_ifAsked_10 rfl (lv_at hl 1 rfl) ?_
      obtain ⟨r5, hr5, h⟩ := pq_b h
      refine pw_cv (w1 := W3 cy qa P r5.1 S nw hz r5.2 pa wt cd ln) (rest := []) (As := [.int x1]) hF (kX3_tryAsking l D cy qa _ P T S nw hz ak pa wt cd ln x1 r5 hr5) (cwV 1 hts (pw_gV (own := RX3) (idx := 209) (C := RX3) (y := yX3_tryAsking) aw_402 aw_404 aw_s14 aw_1 aw_405) rfl rfl rfl pX3_tryAsking ⟨Nat.le_of_ble_eq_true rfl, Nat.le_of_ble_eq_true rfl⟩) (va_recv hK hP (ci := 3) (q0 := 0) rfl rfl) hK hP hD hS hA rfl rfl hl.1 rfl (Nat.le_of_ble_eq_true rfl) dX3_ifAsked_11 ⟨Nat.zero_le _, Nat.zero_le _⟩ (fun H locs hP hD hS => ?_)
      refine lv_aload_n hx hb dX3_ifAsked_14 rfl (lv_at hl 0 rfl) ?_
      refine va_get (D := D) (ci := 3) (v := .ref (qa 0 1)) (C := RX3) (T := TX3) (N := 7) hx hb hts hin3 hown hK hP 0 rfl rfl 2 (by decide) (hta _ aw_126) (fun _ h9 => h9) rfl dX3_ifAsked_15 ?_
      refine lv_iload_n hx hb dX3_ifAsked_18 rfl (lv_at hl 2 rfl) ?_
      obtain ⟨hg, h⟩ := pq_g h
      refine va_iald hx hb hK hP 1 0 rfl rfl (pq_vp hg) dX3_ifAsked_19 ?_
      exact nomatch h

set_option maxHeartbeats 8000000 in
set_option maxRecDepth 100000 in
theorem kX3_ifPassed_t (l : Launch) (hfl : l.stackTraces = false) (D : va_G) (cy : Nat → ClassId) (qa : Nat → Nat → Nat) (sz : Nat) (P : Nat → Nat → Int32) (T : Nat → Nat → Int32) (S : Nat → Nat → Nat → Int32) (nw : Int32) (hz : Int32) (ak : Nat → Int32) (pa : Nat → Int32) (wt : Nat → Int32) (cd : Nat → Int32) (ln : Int32) (x1 : Int32) (x2 : Int32) (k : Nat) (h : fX3_ifPassed x1 x2 P T pa = some (Sum.inl k)) : vx_Met l yX3_ifPassed aX3_ifPassed ({ frames := 7, cells := 1, slots := 6, locals := 137 }) (pw_PreE D cy [.ref (qa 0 0), .int x1, .int x2] (W3 cy qa P T S nw hz ak pa wt cd ln) sz) (pw_NQ (W3 cy qa P T S nw hz ak pa wt cd ln) sz) (pw_XC D k (W3 cy qa P T S nw hz ak pa wt cd ln) sz) 1 6 (va_A (W3 cy qa P T S nw hz ak pa wt cd ln) sz) := by
  refine pw_metX (cc := cX3_ifPassed) (maxL := 3) (ret := (some .int)) (by decide) rfl (Nat.le_of_ble_eq_true rfl) ?_
  intro p e s m args below meth c ls A hx hb hr hml hlk hts hown hAe hA hK hP hD hS hl hxt hE
  have hl : lv_has ls 3 [(0, .ref (qa 0 0)), (1, .int x1), (2, .int x2)] := hl
  generalize hQ : vx_MQ below (pw_NQ (W3 cy qa P T S nw hz ak pa wt cd ln) sz) (pw_XC D k (W3 cy qa P T S nw hz ak pa wt cd ln) sz) args s 1 6 (va_A (W3 cy qa P T S nw hz ak pa wt cd ln) sz) = Q
  have hF : CallFix p m c cX3_ifPassed 3 s args aX3_ifPassed RX3 := ⟨hx, hb, hml, hown, hts⟩
  have hta : ∀ w ∈ pw_all, w.before args s = true := fun w h => hts w (List.mem_cons_of_mem _ h)
  have hin3 : ∀ w ∈ wsX30, w ∈ aX3_ifPassed := fun w h => List.mem_cons_of_mem _ (inA3 w h)
  have hin2 : ∀ w ∈ wsX20, w ∈ aX3_ifPassed := fun w h => List.mem_cons_of_mem _ (inA2 w h)
  have hin1 : ∀ w ∈ wsX10, w ∈ aX3_ifPassed := fun w h => List.mem_cons_of_mem _ (inA1 w h)
  have hin0 : ∀ w ∈ wsX00, w ∈ aX3_ifPassed := fun w h => List.mem_cons_of_mem _ (inA0 w h)
  unfold fX3_ifPassed at h
  refine lv_iload_n hx hb dX3_ifPassed_0 rfl (lv_at hl 1 rfl) ?_
  refine lv_if_lt (tgt := 11) hx hb dX3_ifPassed_1 (by decide) (fun c1_ => ?_) (fun c1_ => ?_)
  · have h := pq_t c1_ h
    obtain rfl := Sum.inl.inj (Option.some.inj h)
    subst hQ
    subst hAe
    exact pw_throwS (own := RX3) (cls := "java/lang/IllegalArgumentException") (text := "units are 0 to 200") (ik := 130) (is := 212) (ic := 134) hx hb hfl hown hlk (by decide +kernel) (hta _ aw_276) (hta _ aw_13) (by decide +kernel) (fun w hw => hta w (pw_at134 w hw)) pw_nt134 pw_gt134 hE hP hS hl.1 hml hxt dX3_ifPassed_11 dX3_ifPassed_14 dX3_ifPassed_15 dX3_ifPassed_17 dX3_ifPassed_20 (Nat.le_of_ble_eq_true rfl) (Nat.le_of_ble_eq_true rfl) (Nat.le_of_ble_eq_true rfl) (Nat.le_of_ble_eq_true rfl) rfl (Nat.le_of_ble_eq_true rfl) (Nat.le_of_ble_eq_true rfl)
  · have h := pq_e c1_ h
    refine lv_iload_n hx hb dX3_ifPassed_4 rfl (lv_at hl 1 rfl) ?_
    refine lv_sipush (v := 200) hx hb dX3_ifPassed_5 (by decide) ?_
    refine lv_icmp_le (tgt := 21) hx hb dX3_ifPassed_8 (by decide) (fun c2_ => ?_) (fun c2_ => ?_)
    · have h := pq_t c2_ h
      refine lv_iload_n hx hb dX3_ifPassed_21 rfl (lv_at hl 2 rfl) ?_
      refine lv_iconst (v := 4) hx hb dX3_ifPassed_22 (by decide) ?_
      obtain ⟨r1, hr1, h⟩ := pq_b h
      rcases pq_inl h with rfl | ⟨a2, rfl, h⟩
      · subst hQ
        subst hAe
        exact pw_tS (rest := []) (As := [.int x2, .int 4]) hF (kX3_requireKind_t l hfl D cy _ x2 4 k hr1) (cwS 2 hts (pw_gS (own := RX3) (idx := 193) (y := yX3_requireKind) aw_273 aw_274 aw_1 aw_275) rfl rfl rfl pX3_requireKind ⟨Nat.le_of_ble_eq_true rfl, Nat.le_of_ble_eq_true rfl⟩) hK hP hD hS hE rfl hl.1 rfl (Nat.le_of_ble_eq_true rfl) dX3_ifPassed_23 hxt hlk (Nat.le_of_ble_eq_true rfl) (Nat.le_of_ble_eq_true rfl) (Nat.le_of_ble_eq_true rfl) (Nat.le_of_ble_eq_true rfl) hA
      · refine pw_sv (rest := []) (As := [.int x2, .int 4]) hF (kX3_requireKind l D cy _ x2 4 a2 hr1) (cwS 2 hts (pw_gS (own := RX3) (idx := 193) (y := yX3_requireKind) aw_273 aw_274 aw_1 aw_275) rfl rfl rfl pX3_requireKind ⟨Nat.le_of_ble_eq_true rfl, Nat.le_of_ble_eq_true rfl⟩) hK hP hS hA rfl hl.1 rfl (Nat.le_of_ble_eq_true rfl) dX3_ifPassed_23 ⟨Nat.zero_le _, Nat.zero_le _⟩ (fun H locs hP hS => ?_)
        refine lv_aload_n hx hb dX3_ifPassed_26 rfl (lv_at hl 0 rfl) ?_
        refine lv_iload_n hx hb dX3_ifPassed_27 rfl (lv_at hl 1 rfl) ?_
        obtain ⟨r3, hr3, h⟩ := pq_b h
        refine pw_cv (w1 := W3 cy qa P r3.1 S nw hz ak r3.2 wt cd ln) (rest := []) (As := [.int x1]) hF (kX3_tryPassing l D cy qa _ P T S nw hz ak pa wt cd ln x1 r3 hr3) (cwV 1 hts (pw_gV (own := RX3) (idx := 214) (C := RX3) (y := yX3_tryPassing) aw_414 aw_416 aw_s15 aw_1 aw_417) rfl rfl rfl pX3_tryPassing ⟨Nat.le_of_ble_eq_true rfl, Nat.le_of_ble_eq_true rfl⟩) (va_recv hK hP (ci := 3) (q0 := 0) rfl rfl) hK hP hD hS hA rfl rfl hl.1 rfl (Nat.le_of_ble_eq_true rfl) dX3_ifPassed_28 ⟨Nat.zero_le _, Nat.zero_le _⟩ (fun H locs hP hD hS => ?_)
        refine lv_aload_n hx hb dX3_ifPassed_31 rfl (lv_at hl 0 rfl) ?_
        refine va_get (D := D) (ci := 3) (v := .ref (qa 0 2)) (C := RX3) (T := TX3) (N := 7) hx hb hts hin3 hown hK hP 0 rfl rfl 3 (by decide) (hta _ aw_127) (fun _ h9 => h9) rfl dX3_ifPassed_32 ?_
        refine lv_iload_n hx hb dX3_ifPassed_35 rfl (lv_at hl 2 rfl) ?_
        obtain ⟨hg, h⟩ := pq_g h
        refine va_iald hx hb hK hP 2 0 rfl rfl (pq_vp hg) dX3_ifPassed_36 ?_
        exact nomatch h
    · have h := pq_e c2_ h
      obtain rfl := Sum.inl.inj (Option.some.inj h)
      subst hQ
      subst hAe
      exact pw_throwS (own := RX3) (cls := "java/lang/IllegalArgumentException") (text := "units are 0 to 200") (ik := 130) (is := 212) (ic := 134) hx hb hfl hown hlk (by decide +kernel) (hta _ aw_276) (hta _ aw_13) (by decide +kernel) (fun w hw => hta w (pw_at134 w hw)) pw_nt134 pw_gt134 hE hP hS hl.1 hml hxt dX3_ifPassed_11 dX3_ifPassed_14 dX3_ifPassed_15 dX3_ifPassed_17 dX3_ifPassed_20 (Nat.le_of_ble_eq_true rfl) (Nat.le_of_ble_eq_true rfl) (Nat.le_of_ble_eq_true rfl) (Nat.le_of_ble_eq_true rfl) rfl (Nat.le_of_ble_eq_true rfl) (Nat.le_of_ble_eq_true rfl)

set_option maxHeartbeats 8000000 in
set_option maxRecDepth 100000 in
theorem kX3_waitsFor_t (l : Launch) (hfl : l.stackTraces = false) (D : va_G) (cy : Nat → ClassId) (qa : Nat → Nat → Nat) (sz : Nat) (P : Nat → Nat → Int32) (T : Nat → Nat → Int32) (S : Nat → Nat → Nat → Int32) (nw : Int32) (hz : Int32) (ak : Nat → Int32) (pa : Nat → Int32) (wt : Nat → Int32) (cd : Nat → Int32) (ln : Int32) (x1 : Int32) (k : Nat) (h : fX3_waitsFor x1 P T wt = some (Sum.inl k)) : vx_Met l yX3_waitsFor aX3_waitsFor ({ frames := 7, cells := 1, slots := 6, locals := 138 }) (pw_PreE D cy [.ref (qa 0 0), .int x1] (W3 cy qa P T S nw hz ak pa wt cd ln) sz) (pw_NQ (W3 cy qa P T S nw hz ak pa wt cd ln) sz) (pw_XC D k (W3 cy qa P T S nw hz ak pa wt cd ln) sz) 1 6 (va_A (W3 cy qa P T S nw hz ak pa wt cd ln) sz) := by
  refine pw_metX (cc := cX3_waitsFor) (maxL := 2) (ret := (some .int)) (by decide) rfl (Nat.le_of_ble_eq_true rfl) ?_
  intro p e s m args below meth c ls A hx hb hr hml hlk hts hown hAe hA hK hP hD hS hl hxt hE
  have hl : lv_has ls 2 [(0, .ref (qa 0 0)), (1, .int x1)] := hl
  generalize hQ : vx_MQ below (pw_NQ (W3 cy qa P T S nw hz ak pa wt cd ln) sz) (pw_XC D k (W3 cy qa P T S nw hz ak pa wt cd ln) sz) args s 1 6 (va_A (W3 cy qa P T S nw hz ak pa wt cd ln) sz) = Q
  have hF : CallFix p m c cX3_waitsFor 2 s args aX3_waitsFor RX3 := ⟨hx, hb, hml, hown, hts⟩
  have hta : ∀ w ∈ pw_all, w.before args s = true := fun w h => hts w (List.mem_cons_of_mem _ h)
  have hin3 : ∀ w ∈ wsX30, w ∈ aX3_waitsFor := fun w h => List.mem_cons_of_mem _ (inA3 w h)
  have hin2 : ∀ w ∈ wsX20, w ∈ aX3_waitsFor := fun w h => List.mem_cons_of_mem _ (inA2 w h)
  have hin1 : ∀ w ∈ wsX10, w ∈ aX3_waitsFor := fun w h => List.mem_cons_of_mem _ (inA1 w h)
  have hin0 : ∀ w ∈ wsX00, w ∈ aX3_waitsFor := fun w h => List.mem_cons_of_mem _ (inA0 w h)
  unfold fX3_waitsFor at h
  refine lv_iload_n hx hb dX3_waitsFor_0 rfl (lv_at hl 1 rfl) ?_
  obtain ⟨r1, hr1, h⟩ := pq_b h
  rcases pq_inl h with rfl | ⟨a2, rfl, h⟩
  · subst hQ
    subst hAe
    exact pw_tS (rest := []) (As := [.int x1]) hF (kX3_requireOwner_t l hfl D cy _ x1 k hr1) (cwS 1 hts (pw_gS (own := RX3) (idx := 43) (y := yX3_requireOwner) aw_436 aw_437 aw_1 aw_438) rfl rfl rfl pX3_requireOwner ⟨Nat.le_of_ble_eq_true rfl, Nat.le_of_ble_eq_true rfl⟩) hK hP hD hS hE rfl hl.1 rfl (Nat.le_of_ble_eq_true rfl) dX3_waitsFor_1 hxt hlk (Nat.le_of_ble_eq_true rfl) (Nat.le_of_ble_eq_true rfl) (Nat.le_of_ble_eq_true rfl) (Nat.le_of_ble_eq_true rfl) hA
  · refine pw_sv (rest := []) (As := [.int x1]) hF (kX3_requireOwner l D cy _ x1 a2 hr1) (cwS 1 hts (pw_gS (own := RX3) (idx := 43) (y := yX3_requireOwner) aw_436 aw_437 aw_1 aw_438) rfl rfl rfl pX3_requireOwner ⟨Nat.le_of_ble_eq_true rfl, Nat.le_of_ble_eq_true rfl⟩) hK hP hS hA rfl hl.1 rfl (Nat.le_of_ble_eq_true rfl) dX3_waitsFor_1 ⟨Nat.zero_le _, Nat.zero_le _⟩ (fun H locs hP hS => ?_)
    refine lv_aload_n hx hb dX3_waitsFor_4 rfl (lv_at hl 0 rfl) ?_
    obtain ⟨r3, hr3, h⟩ := pq_b h
    refine pw_cv (w1 := W3 cy qa P r3.1 S nw hz ak pa r3.2 cd ln) (rest := []) (As := []) hF (kX3_tryWaiting l D cy qa _ P T S nw hz ak pa wt cd ln  r3 hr3) (cwV 0 hts (pw_gV (own := RX3) (idx := 217) (C := RX3) (y := yX3_tryWaiting) aw_363 aw_365 aw_s10 aw_1 aw_366) rfl rfl rfl pX3_tryWaiting ⟨Nat.le_of_ble_eq_true rfl, Nat.le_of_ble_eq_true rfl⟩) (va_recv hK hP (ci := 3) (q0 := 0) rfl rfl) hK hP hD hS hA rfl rfl hl.1 rfl (Nat.le_of_ble_eq_true rfl) dX3_waitsFor_5 ⟨Nat.zero_le _, Nat.zero_le _⟩ (fun H locs hP hD hS => ?_)
    refine lv_aload_n hx hb dX3_waitsFor_8 rfl (lv_at hl 0 rfl) ?_
    refine va_get (D := D) (ci := 3) (v := .ref (qa 0 3)) (C := RX3) (T := TX3) (N := 7) hx hb hts hin3 hown hK hP 0 rfl rfl 4 (by decide) (hta _ aw_128) (fun _ h9 => h9) rfl dX3_waitsFor_9 ?_
    refine lv_iload_n hx hb dX3_waitsFor_12 rfl (lv_at hl 1 rfl) ?_
    obtain ⟨hg, h⟩ := pq_g h
    refine va_iald hx hb hK hP 3 0 rfl rfl (pq_vp hg) dX3_waitsFor_13 ?_
    exact nomatch h

