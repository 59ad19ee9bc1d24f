def aX4_thrown : List Cond := Cond.code yX4_thrown cX4_thrown 1 (some .int) :: pw_all
theorem pX4_thrown : yX4_thrown.cls = RX4 ∧ yX4_thrown.cls ≠ "java/lang/invoke/MethodHandle" ∧ yX4_thrown.cls ≠ "java/lang/invoke/VarHandle" ∧ (parseMethodDescriptor yX4_thrown.desc).map (fun d => d.parameters.length) = some 0 := by decide +kernel
set_option maxHeartbeats 8000000 in
set_option maxRecDepth 100000 in
theorem kX4_thrown (l : Launch) (D : va_G) (cy : Nat → ClassId) (q : Nat → Nat) (sz : Nat) (th : Int32) (z : Nat → Int32) (sv : Nat → Int32) (sn : Int32) (sp : Nat → Int32) (bf : Nat → Int32) (ty : Int32) (gn : Nat → Int32) (hs : Int64)  (o : Int32) (h : fX4_thrown th = some o) : Met l yX4_thrown aX4_thrown ({ frames := 0, cells := 0, slots := 0, locals := 0 }) (pw_Pre D cy [.ref (q 0)] (WM cy q th z sv sn sp bf ty gn hs) sz) (pw_I D o (WM cy q th z sv sn sp bf ty gn hs) (WM cy q th z sv sn sp bf ty gn hs) sz) 0 0 (va_A (WM cy q th z sv sn sp bf ty gn hs) sz) := by
  refine pw_met (cc := cX4_thrown) (maxL := 1) (ret := (some .int)) (by decide) rfl (Nat.le_of_ble_eq_true rfl) ?_
  intro p e s m args below meth c ls A hx hb hr hml hlk hts hown hAe hA hK hP hD hS hl
  have hl : lv_has ls 1 [(0, .ref (q 0))] := hl
  generalize hQ : MQ below (pw_I D o (WM cy q th z sv sn sp bf ty gn hs) (WM cy q th z sv sn sp bf ty gn hs) sz) args s 0 0 (va_A (WM cy q th z sv sn sp bf ty gn hs) sz) = Q
  have hF : CallFix p m c cX4_thrown 1 s args aX4_thrown RX4 := ⟨hx, hb, hml, hown, hts⟩
  have hta : ∀ w ∈ pw_all, w.before args s = true := fun w h => hts w (List.mem_cons_of_mem _ h)
  have hin : ∀ w ∈ wsX40, w ∈ aX4_thrown := fun w h => List.mem_cons_of_mem _ (inA4 w h)
  unfold fX4_thrown at h
  refine lv_aload_n hx hb dX4_thrown_0 rfl (lv_at hl 0 rfl) ?_
  refine va_get (D := D) (ci := 4) (v := .int th) (C := RX4) (T := TX4) (N := 9) hx hb hts hin hown hK hP 0 rfl rfl 0 (by decide) (hta _ aw_686) (fun _ h9 => h9) rfl dX4_thrown_1 ?_
  obtain rfl := Option.some.inj h
  subst hQ
  exact pw_ri hx hb hr hlk hAe hP hS rfl dX4_thrown_4

def aX4_in : List Cond := Cond.code yX4_in cX4_in 3 (some .boolean) :: pw_all
theorem pX4_in : yX4_in.cls = RX4 ∧ yX4_in.cls ≠ "java/lang/invoke/MethodHandle" ∧ yX4_in.cls ≠ "java/lang/invoke/VarHandle" ∧ (parseMethodDescriptor yX4_in.desc).map (fun d => d.parameters.length) = some 3 := by decide +kernel
set_option maxHeartbeats 8000000 in
set_option maxRecDepth 100000 in
theorem kX4_in (l : Launch) (D : va_G) (cy : Nat → ClassId) (sz : Nat)  (x0 : Int32) (x1 : Int32) (x2 : Int32) (o : Int32) (h : fX4_in x0 x1 x2 = some o) : Met l yX4_in aX4_in ({ frames := 0, cells := 0, slots := 0, locals := 0 }) (pw_Pre D cy [.int x0, .int x1, .int x2] ([]) sz) (pw_I D o ([]) ([]) sz) 0 0 (va_A ([]) sz) := by
  refine pw_met (cc := cX4_in) (maxL := 3) (ret := (some .boolean)) (by decide) rfl (Nat.le_of_ble_eq_true rfl) ?_
  intro p e s m args below meth c ls A hx hb hr hml hlk hts hown hAe hA hK hP hD hS hl
  have hl : lv_has ls 3 [(0, .int x0), (1, .int x1), (2, .int x2)] := hl
  generalize hQ : MQ below (pw_I D o ([]) ([]) sz) args s 0 0 (va_A ([]) sz) = Q
  have hF : CallFix p m c cX4_in 3 s args aX4_in RX4 := ⟨hx, hb, hml, hown, hts⟩
  have hta : ∀ w ∈ pw_all, w.before args s = true := fun w h => hts w (List.mem_cons_of_mem _ h)
  unfold fX4_in at h
  refine lv_iload_n hx hb dX4_in_0 rfl (lv_at hl 0 rfl) ?_
  refine lv_iload_n hx hb dX4_in_1 rfl (lv_at hl 1 rfl) ?_
  refine lv_icmp_lt (tgt := 14) hx hb dX4_in_2 (by decide) (fun c1_ => ?_) (fun c1_ => ?_)
  · have h := pq_t c1_ h
    refine lv_iconst (v := 0) hx hb dX4_in_14 (by decide) ?_
    obtain rfl := Option.some.inj h
    subst hQ
    exact pw_rz hx hb hr rfl hlk hAe hP hS rfl dX4_in_15
  · have h := pq_e c1_ h
    refine lv_iload_n hx hb dX4_in_5 rfl (lv_at hl 0 rfl) ?_
    refine lv_iload_n hx hb dX4_in_6 rfl (lv_at hl 2 rfl) ?_
    refine lv_icmp_gt (tgt := 14) hx hb dX4_in_7 (by decide) (fun c2_ => ?_) (fun c2_ => ?_)
    · have h := pq_t c2_ h
      refine lv_iconst (v := 0) hx hb dX4_in_14 (by decide) ?_
      obtain rfl := Option.some.inj h
      subst hQ
      exact pw_rz hx hb hr rfl hlk hAe hP hS rfl dX4_in_15
    · have h := pq_e c2_ h
      refine lv_iconst (v := 1) hx hb dX4_in_10 (by decide) ?_
      refine lv_goto (tgt := 15) hx hb dX4_in_11 (by decide) ?_
      obtain rfl := Option.some.inj h
      subst hQ
      exact pw_rz hx hb hr rfl hlk hAe hP hS rfl dX4_in_15

def aX4_isPlace : List Cond := Cond.code yX4_isPlace cX4_isPlace 1 (some .boolean) :: pw_all
theorem pX4_isPlace : yX4_isPlace.cls = RX4 ∧ yX4_isPlace.cls ≠ "java/lang/invoke/MethodHandle" ∧ yX4_isPlace.cls ≠ "java/lang/invoke/VarHandle" ∧ (parseMethodDescriptor yX4_isPlace.desc).map (fun d => d.parameters.length) = some 1 := by decide +kernel
set_option maxHeartbeats 8000000 in
set_option maxRecDepth 100000 in
theorem kX4_isPlace (l : Launch) (D : va_G) (cy : Nat → ClassId) (sz : Nat)  (x0 : Int32) (o : Int32) (h : fX4_isPlace x0 = some o) : Met l yX4_isPlace aX4_isPlace ({ frames := 1, cells := 0, slots := 0, locals := 22 }) (pw_Pre D cy [.int x0] ([]) sz) (pw_I D o ([]) ([]) sz) 0 0 (va_A ([]) sz) := by
  refine pw_met (cc := cX4_isPlace) (maxL := 1) (ret := (some .boolean)) (by decide) rfl (Nat.le_of_ble_eq_true rfl) ?_
  intro p e s m args below meth c ls A hx hb hr hml hlk hts hown hAe hA hK hP hD hS hl
  have hl : lv_has ls 1 [(0, .int x0)] := hl
  generalize hQ : MQ below (pw_I D o ([]) ([]) sz) args s 0 0 (va_A ([]) sz) = Q
  have hF : CallFix p m c cX4_isPlace 1 s args aX4_isPlace RX4 := ⟨hx, hb, hml, hown, hts⟩
  have hta : ∀ w ∈ pw_all, w.before args s = true := fun w h => hts w (List.mem_cons_of_mem _ h)
  unfold fX4_isPlace at h
  refine lv_iload_n hx hb dX4_isPlace_0 rfl (lv_at hl 0 rfl) ?_
  refine lv_iconst (v := 0) hx hb dX4_isPlace_1 (by decide) ?_
  refine lv_bipush (v := 7) hx hb dX4_isPlace_2 (by decide) ?_
  obtain ⟨r1, hr1, h⟩ := pq_b h
  refine pw_si (rest := []) (As := [.int x0, .int 0, .int 7]) hF (kX4_in l D cy _ x0 0 7 r1 hr1) (cwS 3 hts (pw_gS (own := RX4) (idx := 36) (y := yX4_in) aw_729 aw_730 aw_6 aw_731) rfl rfl rfl pX4_in ⟨Nat.le_of_ble_eq_true rfl, Nat.le_of_ble_eq_true rfl⟩) hK hP hS hA rfl hl.1 rfl (Nat.le_of_ble_eq_true rfl) dX4_isPlace_4 ⟨Nat.zero_le _, Nat.zero_le _⟩ (fun H locs hP hS => ?_)
  obtain ⟨hg, h⟩ := pq_g h
  obtain rfl := Option.some.inj h
  subst hQ
  exact pw_rz hx hb hr (pq_nz hg) hlk hAe hP hS rfl dX4_isPlace_7

def aX4_isOwner : List Cond := Cond.code yX4_isOwner cX4_isOwner 1 (some .boolean) :: pw_all
theorem pX4_isOwner : yX4_isOwner.cls = RX4 ∧ yX4_isOwner.cls ≠ "java/lang/invoke/MethodHandle" ∧ yX4_isOwner.cls ≠ "java/lang/invoke/VarHandle" ∧ (parseMethodDescriptor yX4_isOwner.desc).map (fun d => d.parameters.length) = some 1 := by decide +kernel
set_option maxHeartbeats 8000000 in
set_option maxRecDepth 100000 in
theorem kX4_isOwner (l : Launch) (D : va_G) (cy : Nat → ClassId) (sz : Nat)  (x0 : Int32) (o : Int32) (h : fX4_isOwner x0 = some o) : Met l yX4_isOwner aX4_isOwner ({ frames := 1, cells := 0, slots := 0, locals := 22 }) (pw_Pre D cy [.int x0] ([]) sz) (pw_I D o ([]) ([]) sz) 0 0 (va_A ([]) sz) := by
  refine pw_met (cc := cX4_isOwner) (maxL := 1) (ret := (some .boolean)) (by decide) rfl (Nat.le_of_ble_eq_true rfl) ?_
  intro p e s m args below meth c ls A hx hb hr hml hlk hts hown hAe hA hK hP hD hS hl
  have hl : lv_has ls 1 [(0, .int x0)] := hl
  generalize hQ : MQ below (pw_I D o ([]) ([]) sz) args s 0 0 (va_A ([]) sz) = Q
  have hF : CallFix p m c cX4_isOwner 1 s args aX4_isOwner RX4 := ⟨hx, hb, hml, hown, hts⟩
  have hta : ∀ w ∈ pw_all, w.before args s = true := fun w h => hts w (List.mem_cons_of_mem _ h)
  unfold fX4_isOwner at h
  refine lv_iload_n hx hb dX4_isOwner_0 rfl (lv_at hl 0 rfl) ?_
  refine lv_iconst (v := 0) hx hb dX4_isOwner_1 (by decide) ?_
  refine lv_bipush (v := 7) hx hb dX4_isOwner_2 (by decide) ?_
  obtain ⟨r1, hr1, h⟩ := pq_b h
  refine pw_si (rest := []) (As := [.int x0, .int 0, .int 7]) hF (kX4_in l D cy _ x0 0 7 r1 hr1) (cwS 3 hts (pw_gS (own := RX4) (idx := 36) (y := yX4_in) aw_729 aw_730 aw_6 aw_731) rfl rfl rfl pX4_in ⟨Nat.le_of_ble_eq_true rfl, Nat.le_of_ble_eq_true rfl⟩) hK hP hS hA rfl hl.1 rfl (Nat.le_of_ble_eq_true rfl) dX4_isOwner_4 ⟨Nat.zero_le _, Nat.zero_le _⟩ (fun H locs hP hS => ?_)
  obtain ⟨hg, h⟩ := pq_g h
  obtain rfl := Option.some.inj h
  subst hQ
  exact pw_rz hx hb hr (pq_nz hg) hlk hAe hP hS rfl dX4_isOwner_7

def aX4_of : List Cond := Cond.code yX4_of cX4_of 3 (some .int) :: pw_all
theorem pX4_of : yX4_of.cls = RX4 ∧ yX4_of.cls ≠ "java/lang/invoke/MethodHandle" ∧ yX4_of.cls ≠ "java/lang/invoke/VarHandle" ∧ (parseMethodDescriptor yX4_of.desc).map (fun d => d.parameters.length) = some 2 := by decide +kernel
set_option maxHeartbeats 8000000 in
set_option maxRecDepth 100000 in
theorem kX4_of (l : Launch) (D : va_G) (cy : Nat → ClassId) (q : Nat → Nat) (sz : Nat) (th : Int32) (z : Nat → Int32) (sv : Nat → Int32) (sn : Int32) (sp : Nat → Int32) (bf : Nat → Int32) (ty : Int32) (gn : Nat → Int32) (hs : Int64) (x1 : Int32) (x2 : Int32) (o : Int32) (h : fX4_of x1 x2 z = some o) : Met l yX4_of aX4_of ({ frames := 0, cells := 0, slots := 0, locals := 0 }) (pw_Pre D cy [.ref (q 0), .int x1, .int x2] (WM cy q th z sv sn sp bf ty gn hs) sz) (pw_I D o (WM cy q th z sv sn sp bf ty gn hs) (WM cy q th z sv sn sp bf ty gn hs) sz) 0 0 (va_A (WM cy q th z sv sn sp bf ty gn hs) sz) := by
  refine pw_met (cc := cX4_of) (maxL := 3) (ret := (some .int)) (by decide) rfl (Nat.le_of_ble_eq_true rfl) ?_
  intro p e s m args below meth c ls A hx hb hr hml hlk hts hown hAe hA hK hP hD hS hl
  have hl : lv_has ls 3 [(0, .ref (q 0)), (1, .int x1), (2, .int x2)] := hl
  generalize hQ : MQ below (pw_I D o (WM cy q th z sv sn sp bf ty gn hs) (WM cy q th z sv sn sp bf ty gn hs) sz) args s 0 0 (va_A (WM cy q th z sv sn sp bf ty gn hs) sz) = Q
  have hF : CallFix p m c cX4_of 3 s args aX4_of RX4 := ⟨hx, hb, hml, hown, hts⟩
  have hta : ∀ w ∈ pw_all, w.before args s = true := fun w h => hts w (List.mem_cons_of_mem _ h)
  have hin : ∀ w ∈ wsX40, w ∈ aX4_of := fun w h => List.mem_cons_of_mem _ (inA4 w h)
  unfold fX4_of at h
  refine lv_aload_n hx hb dX4_of_0 rfl (lv_at hl 0 rfl) ?_
  refine va_get (D := D) (ci := 4) (v := .ref (q 1)) (C := RX4) (T := TX4) (N := 9) hx hb hts hin hown hK hP 0 rfl rfl 1 (by decide) (hta _ aw_687) (fun _ h9 => h9) rfl dX4_of_1 ?_
  refine lv_bipush (v := 26) hx hb dX4_of_4 (by decide) ?_
  refine lv_bipush (v := 6) hx hb dX4_of_6 (by decide) ?_
  refine lv_iload_n hx hb dX4_of_8 rfl (lv_at hl 1 rfl) ?_
  refine lv_imul hx hb dX4_of_9 ?_
  refine lv_iadd hx hb dX4_of_10 ?_
  refine lv_iload_n hx hb dX4_of_11 rfl (lv_at hl 2 rfl) ?_
  refine lv_iadd hx hb dX4_of_12 ?_
  obtain ⟨hg, h⟩ := pq_g h
  refine va_iald hx hb hK hP 1 0 rfl rfl (pq_vp hg) dX4_of_13 ?_
  obtain rfl := Option.some.inj h
  subst hQ
  exact pw_ri hx hb hr hlk hAe hP hS rfl dX4_of_14

def aX4_put : List Cond := Cond.code yX4_put cX4_put 4 none :: pw_all
theorem pX4_put : yX4_put.cls = RX4 ∧ yX4_put.cls ≠ "java/lang/invoke/MethodHandle" ∧ yX4_put.cls ≠ "java/lang/invoke/VarHandle" ∧ (parseMethodDescriptor yX4_put.desc).map (fun d => d.parameters.length) = some 3 := by decide +kernel
set_option maxHeartbeats 8000000 in
set_option maxRecDepth 100000 in
theorem kX4_put (l : Launch) (D : va_G) (cy : Nat → ClassId) (q : Nat → Nat) (sz : Nat) (th : Int32) (z : Nat → Int32) (sv : Nat → Int32) (sn : Int32) (sp : Nat → Int32) (bf : Nat → Int32) (ty : Int32) (gn : Nat → Int32) (hs : Int64) (x1 : Int32) (x2 : Int32) (x3 : Int32) (o : (Nat → Int32)) (h : fX4_put x1 x2 x3 z = some o) : Met l yX4_put aX4_put ({ frames := 0, cells := 0, slots := 0, locals := 0 }) (pw_Pre D cy [.ref (q 0), .int x1, .int x2, .int x3] (WM cy q th z sv sn sp bf ty gn hs) sz) (pw_V D (WM cy q th z sv sn sp bf ty gn hs) (WM cy q th o sv sn sp bf ty gn hs) sz) 0 0 (va_A (WM cy q th z sv sn sp bf ty gn hs) sz) := by
  refine pw_met (cc := cX4_put) (maxL := 4) (ret := none) (by decide) rfl (Nat.le_of_ble_eq_true rfl) ?_
  intro p e s m args below meth c ls A hx hb hr hml hlk hts hown hAe hA hK hP hD hS hl
  have hl : lv_has ls 4 [(0, .ref (q 0)), (1, .int x1), (2, .int x2), (3, .int x3)] := hl
  generalize hQ : MQ below (pw_V D (WM cy q th z sv sn sp bf ty gn hs) (WM cy q th o sv sn sp bf ty gn hs) sz) args s 0 0 (va_A (WM cy q th z sv sn sp bf ty gn hs) sz) = Q
  have hF : CallFix p m c cX4_put 4 s args aX4_put RX4 := ⟨hx, hb, hml, hown, hts⟩
  have hta : ∀ w ∈ pw_all, w.before args s = true := fun w h => hts w (List.mem_cons_of_mem _ h)
  have hin : ∀ w ∈ wsX40, w ∈ aX4_put := fun w h => List.mem_cons_of_mem _ (inA4 w h)
  unfold fX4_put at h
  refine lv_aload_n hx hb dX4_put_0 rfl (lv_at hl 0 rfl) ?_
  refine va_get (D := D) (ci := 4) (v := .ref (q 1)) (C := RX4) (T := TX4) (N := 9) hx hb hts hin hown hK hP 0 rfl rfl 1 (by decide) (hta _ aw_687) (fun _ h9 => h9) rfl dX4_put_1 ?_
  refine lv_bipush (v := 26) hx hb dX4_put_4 (by decide) ?_
  refine lv_bipush (v := 6) hx hb dX4_put_6 (by decide) ?_
  refine lv_iload_n hx hb dX4_put_8 rfl (lv_at hl 1 rfl) ?_
  refine lv_imul hx hb dX4_put_9 ?_
  refine lv_iadd hx hb dX4_put_10 ?_
  refine lv_iload_n hx hb dX4_put_11 rfl (lv_at hl 2 rfl) ?_
  refine lv_iadd hx hb dX4_put_12 ?_
  refine lv_iload_n hx hb dX4_put_13 rfl (lv_at hl 3 rfl) ?_
  obtain ⟨hg, h⟩ := pq_g h
  refine va_iast hx hb hK hP hD hS 1 0 rfl rfl (pq_vp hg) dX4_put_14 (fun H locs hP hD hS => ?_)
  have hP : va_P D vwCl (WM cy q th (upd z ((26 + (6 * x1)) + x2).toNatClampNeg x3) sv sn sp bf ty gn hs) H := hP
  have hD : va_D A (WM cy q th (upd z ((26 + (6 * x1)) + x2).toNatClampNeg x3) sv sn sp bf ty gn hs) := hD
  obtain rfl := Option.some.inj h
  subst hQ
  exact pw_rv hx hb hr hlk hAe hP hS dX4_put_15

def aX4_its : List Cond := Cond.code yX4_its cX4_its 3 (some .int) :: pw_all
theorem pX4_its : yX4_its.cls = RX4 ∧ yX4_its.cls ≠ "java/lang/invoke/MethodHandle" ∧ yX4_its.cls ≠ "java/lang/invoke/VarHandle" ∧ (parseMethodDescriptor yX4_its.desc).map (fun d => d.parameters.length) = some 2 := by decide +kernel
set_option maxHeartbeats 8000000 in
set_option maxRecDepth 100000 in
theorem kX4_its (l : Launch) (D : va_G) (cy : Nat → ClassId) (q : Nat → Nat) (sz : Nat) (th : Int32) (z : Nat → Int32) (sv : Nat → Int32) (sn : Int32) (sp : Nat → Int32) (bf : Nat → Int32) (ty : Int32) (gn : Nat → Int32) (hs : Int64) (x1 : Int32) (x2 : Int32) (o : Int32) (h : fX4_its x1 x2 z = some o) : Met l yX4_its aX4_its ({ frames := 0, cells := 0, slots := 0, locals := 0 }) (pw_Pre D cy [.ref (q 0), .int x1, .int x2] (WM cy q th z sv sn sp bf ty gn hs) sz) (pw_I D o (WM cy q th z sv sn sp bf ty gn hs) (WM cy q th z sv sn sp bf ty gn hs) sz) 0 0 (va_A (WM cy q th z sv sn sp bf ty gn hs) sz) := by
  refine pw_met (cc := cX4_its) (maxL := 3) (ret := (some .int)) (by decide) rfl (Nat.le_of_ble_eq_true rfl) ?_
  intro p e s m args below meth c ls A hx hb hr hml hlk hts hown hAe hA hK hP hD hS hl
  have hl : lv_has ls 3 [(0, .ref (q 0)), (1, .int x1), (2, .int x2)] := hl
  generalize hQ : MQ below (pw_I D o (WM cy q th z sv sn sp bf ty gn hs) (WM cy q th z sv sn sp bf ty gn hs) sz) args s 0 0 (va_A (WM cy q th z sv sn sp bf ty gn hs) sz) = Q
  have hF : CallFix p m c cX4_its 3 s args aX4_its RX4 := ⟨hx, hb, hml, hown, hts⟩
  have hta : ∀ w ∈ pw_all, w.before args s = true := fun w h => hts w (List.mem_cons_of_mem _ h)
  have hin : ∀ w ∈ wsX40, w ∈ aX4_its := fun w h => List.mem_cons_of_mem _ (inA4 w h)
  unfold fX4_its at h
  refine lv_aload_n hx hb dX4_its_0 rfl (lv_at hl 0 rfl) ?_
  refine va_get (D := D) (ci := 4) (v := .ref (q 1)) (C := RX4) (T := TX4) (N := 9) hx hb hts hin hown hK hP 0 rfl rfl 1 (by decide) (hta _ aw_687) (fun _ h9 => h9) rfl dX4_its_1 ?_
  refine lv_bipush (v := 74) hx hb dX4_its_4 (by decide) ?_
  refine lv_iconst (v := 5) hx hb dX4_its_6 (by decide) ?_
  refine lv_iload_n hx hb dX4_its_7 rfl (lv_at hl 1 rfl) ?_
  refine lv_imul hx hb dX4_its_8 ?_
  refine lv_iadd hx hb dX4_its_9 ?_
  refine lv_iload_n hx hb dX4_its_10 rfl (lv_at hl 2 rfl) ?_
  refine lv_iadd hx hb dX4_its_11 ?_
  obtain ⟨hg, h⟩ := pq_g h
  refine va_iald hx hb hK hP 1 0 rfl rfl (pq_vp hg) dX4_its_12 ?_
  obtain rfl := Option.some.inj h
  subst hQ
  exact pw_ri hx hb hr hlk hAe hP hS rfl dX4_its_13

def aX4_lay : List Cond := Cond.code yX4_lay cX4_lay 4 none :: pw_all
theorem pX4_lay : yX4_lay.cls = RX4 ∧ yX4_lay.cls ≠ "java/lang/invoke/MethodHandle" ∧ yX4_lay.cls ≠ "java/lang/invoke/VarHandle" ∧ (parseMethodDescriptor yX4_lay.desc).map (fun d => d.parameters.length) = some 3 := by decide +kernel
set_option maxHeartbeats 8000000 in
set_option maxRecDepth 100000 in
theorem kX4_lay (l : Launch) (D : va_G) (cy : Nat → ClassId) (q : Nat → Nat) (sz : Nat) (th : Int32) (z : Nat → Int32) (sv : Nat → Int32) (sn : Int32) (sp : Nat → Int32) (bf : Nat → Int32) (ty : Int32) (gn : Nat → Int32) (hs : Int64) (x1 : Int32) (x2 : Int32) (x3 : Int32) (o : (Nat → Int32)) (h : fX4_lay x1 x2 x3 z = some o) : Met l yX4_lay aX4_lay ({ frames := 0, cells := 0, slots := 0, locals := 0 }) (pw_Pre D cy [.ref (q 0), .int x1, .int x2, .int x3] (WM cy q th z sv sn sp bf ty gn hs) sz) (pw_V D (WM cy q th z sv sn sp bf ty gn hs) (WM cy q th o sv sn sp bf ty gn hs) sz) 0 0 (va_A (WM cy q th z sv sn sp bf ty gn hs) sz) := by
  refine pw_met (cc := cX4_lay) (maxL := 4) (ret := none) (by decide) rfl (Nat.le_of_ble_eq_true rfl) ?_
  intro p e s m args below meth c ls A hx hb hr hml hlk hts hown hAe hA hK hP hD hS hl
  have hl : lv_has ls 4 [(0, .ref (q 0)), (1, .int x1), (2, .int x2), (3, .int x3)] := hl
  generalize hQ : MQ below (pw_V D (WM cy q th z sv sn sp bf ty gn hs) (WM cy q th o sv sn sp bf ty gn hs) sz) args s 0 0 (va_A (WM cy q th z sv sn sp bf ty gn hs) sz) = Q
  have hF : CallFix p m c cX4_lay 4 s args aX4_lay RX4 := ⟨hx, hb, hml, hown, hts⟩
  have hta : ∀ w ∈ pw_all, w.before args s = true := fun w h => hts w (List.mem_cons_of_mem _ h)
  have hin : ∀ w ∈ wsX40, w ∈ aX4_lay := fun w h => List.mem_cons_of_mem _ (inA4 w h)
  unfold fX4_lay at h
  refine lv_aload_n hx hb dX4_lay_0 rfl (lv_at hl 0 rfl) ?_
  refine va_get (D := D) (ci := 4) (v := .ref (q 1)) (C := RX4) (T := TX4) (N := 9) hx hb hts hin hown hK hP 0 rfl rfl 1 (by decide) (hta _ aw_687) (fun _ h9 => h9) rfl dX4_lay_1 ?_
  refine lv_bipush (v := 74) hx hb dX4_lay_4 (by decide) ?_
  refine lv_iconst (v := 5) hx hb dX4_lay_6 (by decide) ?_
  refine lv_iload_n hx hb dX4_lay_7 rfl (lv_at hl 1 rfl) ?_
  refine lv_imul hx hb dX4_lay_8 ?_
  refine lv_iadd hx hb dX4_lay_9 ?_
  refine lv_iload_n hx hb dX4_lay_10 rfl (lv_at hl 2 rfl) ?_
  refine lv_iadd hx hb dX4_lay_11 ?_
  refine lv_iload_n hx hb dX4_lay_12 rfl (lv_at hl 3 rfl) ?_
  obtain ⟨hg, h⟩ := pq_g h
  refine va_iast hx hb hK hP hD hS 1 0 rfl rfl (pq_vp hg) dX4_lay_13 (fun H locs hP hD hS => ?_)
  have hP : va_P D vwCl (WM cy q th (upd z ((74 + (5 * x1)) + x2).toNatClampNeg x3) sv sn sp bf ty gn hs) H := hP
  have hD : va_D A (WM cy q th (upd z ((74 + (5 * x1)) + x2).toNatClampNeg x3) sv sn sp bf ty gn hs) := hD
  obtain rfl := Option.some.inj h
  subst hQ
  exact pw_rv hx hb hr hlk hAe hP hS dX4_lay_14

def aX4_isIn : List Cond := Cond.code yX4_isIn cX4_isIn 3 (some .boolean) :: pw_all
theorem pX4_isIn : yX4_isIn.cls = RX4 ∧ yX4_isIn.cls ≠ "java/lang/invoke/MethodHandle" ∧ yX4_isIn.cls ≠ "java/lang/invoke/VarHandle" ∧ (parseMethodDescriptor yX4_isIn.desc).map (fun d => d.parameters.length) = some 2 := by decide +kernel
set_option maxHeartbeats 8000000 in
set_option maxRecDepth 100000 in
theorem kX4_isIn (l : Launch) (D : va_G) (cy : Nat → ClassId) (q : Nat → Nat) (sz : Nat) (th : Int32) (z : Nat → Int32) (sv : Nat → Int32) (sn : Int32) (sp : Nat → Int32) (bf : Nat → Int32) (ty : Int32) (gn : Nat → Int32) (hs : Int64) (x1 : Int32) (x2 : Int32) (o : Int32) (h : fX4_isIn x1 x2 z = some o) : Met l yX4_isIn aX4_isIn ({ frames := 1, cells := 0, slots := 0, locals := 22 }) (pw_Pre D cy [.ref (q 0), .int x1, .int x2] (WM cy q th z sv sn sp bf ty gn hs) sz) (pw_I D o (WM cy q th z sv sn sp bf ty gn hs) (WM cy q th z sv sn sp bf ty gn hs) sz) 0 0 (va_A (WM cy q th z sv sn sp bf ty gn hs) sz) := by
  refine pw_met (cc := cX4_isIn) (maxL := 3) (ret := (some .boolean)) (by decide) rfl (Nat.le_of_ble_eq_true rfl) ?_
  intro p e s m args below meth c ls A hx hb hr hml hlk hts hown hAe hA hK hP hD hS hl
  have hl : lv_has ls 3 [(0, .ref (q 0)), (1, .int x1), (2, .int x2)] := hl
  generalize hQ : MQ below (pw_I D o (WM cy q th z sv sn sp bf ty gn hs) (WM cy q th z sv sn sp bf ty gn hs) sz) args s 0 0 (va_A (WM cy q th z sv sn sp bf ty gn hs) sz) = Q
  have hF : CallFix p m c cX4_isIn 3 s args aX4_isIn RX4 := ⟨hx, hb, hml, hown, hts⟩
  have hta : ∀ w ∈ pw_all, w.before args s = true := fun w h => hts w (List.mem_cons_of_mem _ h)
  have hin : ∀ w ∈ wsX40, w ∈ aX4_isIn := fun w h => List.mem_cons_of_mem _ (inA4 w h)
  unfold fX4_isIn at h
  refine lv_aload_n hx hb dX4_isIn_0 rfl (lv_at hl 0 rfl) ?_
  refine lv_iload_n hx hb dX4_isIn_1 rfl (lv_at hl 1 rfl) ?_
  refine lv_iconst (v := 0) hx hb dX4_isIn_2 (by decide) ?_
  obtain ⟨r1, hr1, h⟩ := pq_b h
  refine pw_ci (w1 := WM cy q th z sv sn sp bf ty gn hs) (rest := []) (As := [.int x1, .int 0]) hF (kX4_of l D cy q _ th z sv sn sp bf ty gn hs x1 0 r1 hr1) (cwV 2 hts (pw_gV (own := RX4) (idx := 40) (C := RX4) (y := yX4_of) aw_768 aw_770 aw_s28 aw_6 aw_771) rfl rfl rfl pX4_of ⟨Nat.le_of_ble_eq_true rfl, Nat.le_of_ble_eq_true rfl⟩) (va_recv hK hP (ci := 4) (q0 := 0) rfl rfl) hK hP hD hS hA rfl rfl hl.1 rfl (Nat.le_of_ble_eq_true rfl) dX4_isIn_3 ⟨Nat.zero_le _, Nat.zero_le _⟩ (fun H locs hP hD hS => ?_)
  refine lv_iload_n hx hb dX4_isIn_6 rfl (lv_at hl 2 rfl) ?_
  refine lv_icmp_ne (tgt := 14) hx hb dX4_isIn_7 (by decide) (fun c1_ => ?_) (fun c1_ => ?_)
  · have h := pq_e c1_ h
    refine lv_iconst (v := 0) hx hb dX4_isIn_14 (by decide) ?_
    obtain rfl := Option.some.inj h
    subst hQ
    exact pw_rz hx hb hr rfl hlk hAe hP hS rfl dX4_isIn_15
  · have h := pq_t c1_ h
    refine lv_iconst (v := 1) hx hb dX4_isIn_10 (by decide) ?_
    refine lv_goto (tgt := 15) hx hb dX4_isIn_11 (by decide) ?_
    obtain rfl := Option.some.inj h
    subst hQ
    exact pw_rz hx hb hr rfl hlk hAe hP hS rfl dX4_isIn_15

def aX4_isThere : List Cond := Cond.code yX4_isThere cX4_isThere 2 (some .boolean) :: pw_all
theorem pX4_isThere : yX4_isThere.cls = RX4 ∧ yX4_isThere.cls ≠ "java/lang/invoke/MethodHandle" ∧ yX4_isThere.cls ≠ "java/lang/invoke/VarHandle" ∧ (parseMethodDescriptor yX4_isThere.desc).map (fun d => d.parameters.length) = some 1 := by decide +kernel
set_option maxHeartbeats 8000000 in
set_option maxRecDepth 100000 in
theorem kX4_isThere (l : Launch) (D : va_G) (cy : Nat → ClassId) (q : Nat → Nat) (sz : Nat) (th : Int32) (z : Nat → Int32) (sv : Nat → Int32) (sn : Int32) (sp : Nat → Int32) (bf : Nat → Int32) (ty : Int32) (gn : Nat → Int32) (hs : Int64) (x1 : Int32) (o : Int32) (h : fX4_isThere x1 z = some o) : Met l yX4_isThere aX4_isThere ({ frames := 1, cells := 0, slots := 0, locals := 22 }) (pw_Pre D cy [.ref (q 0), .int x1] (WM cy q th z sv sn sp bf ty gn hs) sz) (pw_I D o (WM cy q th z sv sn sp bf ty gn hs) (WM cy q th z sv sn sp bf ty gn hs) sz) 0 0 (va_A (WM cy q th z sv sn sp bf ty gn hs) sz) := by
  refine pw_met (cc := cX4_isThere) (maxL := 2) (ret := (some .boolean)) (by decide) rfl (Nat.le_of_ble_eq_true rfl) ?_
  intro p e s m args below meth c ls A hx hb hr hml hlk hts hown hAe hA hK hP hD hS hl
  have hl : lv_has ls 2 [(0, .ref (q 0)), (1, .int x1)] := hl
  generalize hQ : MQ below (pw_I D o (WM cy q th z sv sn sp bf ty gn hs) (WM cy q th z sv sn sp bf ty gn hs) sz) args s 0 0 (va_A (WM cy q th z sv sn sp bf ty gn hs) sz) = Q
  have hF : CallFix p m c cX4_isThere 2 s args aX4_isThere RX4 := ⟨hx, hb, hml, hown, hts⟩
  have hta : ∀ w ∈ pw_all, w.before args s = true := fun w h => hts w (List.mem_cons_of_mem _ h)
  have hin : ∀ w ∈ wsX40, w ∈ aX4_isThere := fun w h => List.mem_cons_of_mem _ (inA4 w h)
  unfold fX4_isThere at h
  refine lv_aload_n hx hb dX4_isThere_0 rfl (lv_at hl 0 rfl) ?_
  refine lv_iload_n hx hb dX4_isThere_1 rfl (lv_at hl 1 rfl) ?_
  refine lv_iconst (v := 0) hx hb dX4_isThere_2 (by decide) ?_
  obtain ⟨r1, hr1, h⟩ := pq_b h
  refine pw_ci (w1 := WM cy q th z sv sn sp bf ty gn hs) (rest := []) (As := [.int x1, .int 0]) hF (kX4_its l D cy q _ th z sv sn sp bf ty gn hs x1 0 r1 hr1) (cwV 2 hts (pw_gV (own := RX4) (idx := 44) (C := RX4) (y := yX4_its) aw_740 aw_742 aw_s21 aw_6 aw_743) rfl rfl rfl pX4_its ⟨Nat.le_of_ble_eq_true rfl, Nat.le_of_ble_eq_true rfl⟩) (va_recv hK hP (ci := 4) (q0 := 0) rfl rfl) hK hP hD hS hA rfl rfl hl.1 rfl (Nat.le_of_ble_eq_true rfl) dX4_isThere_3 ⟨Nat.zero_le _, Nat.zero_le _⟩ (fun H locs hP hD hS => ?_)
  refine lv_iconst (v := 1) hx hb dX4_isThere_6 (by decide) ?_
  refine lv_icmp_ne (tgt := 14) hx hb dX4_isThere_7 (by decide) (fun c1_ => ?_) (fun c1_ => ?_)
  · have h := pq_e c1_ h
    refine lv_iconst (v := 0) hx hb dX4_isThere_14 (by decide) ?_
    obtain rfl := Option.some.inj h
    subst hQ
    exact pw_rz hx hb hr rfl hlk hAe hP hS rfl dX4_isThere_15
  · have h := pq_t c1_ h
    refine lv_iconst (v := 1) hx hb dX4_isThere_10 (by decide) ?_
    refine lv_goto (tgt := 15) hx hb dX4_isThere_11 (by decide) ?_
    obtain rfl := Option.some.inj h
    subst hQ
    exact pw_rz hx hb hr rfl hlk hAe hP hS rfl dX4_isThere_15

def aX4_save : List Cond := Cond.code yX4_save cX4_save 2 none :: pw_all
theorem pX4_save : yX4_save.cls = RX4 ∧ yX4_save.cls ≠ "java/lang/invoke/MethodHandle" ∧ yX4_save.cls ≠ "java/lang/invoke/VarHandle" ∧ (parseMethodDescriptor yX4_save.desc).map (fun d => d.parameters.length) = some 0 := by decide +kernel
set_option maxHeartbeats 8000000 in
set_option maxRecDepth 100000 in
theorem kX4_save (l : Launch) (D : va_G) (cy : Nat → ClassId) (q : Nat → Nat) (sz : Nat) (th : Int32) (z : Nat → Int32) (sv : Nat → Int32) (sn : Int32) (sp : Nat → Int32) (bf : Nat → Int32) (ty : Int32) (gn : Nat → Int32) (hs : Int64)  (o : (Nat → Int32) × Int32) (h : fX4_save z sv sn = some o) : Met l yX4_save aX4_save ({ frames := 0, cells := 0, slots := 0, locals := 0 }) (pw_Pre D cy [.ref (q 0)] (WM cy q th z sv sn sp bf ty gn hs) sz) (pw_V D (WM cy q th z sv sn sp bf ty gn hs) (WM cy q th z o.1 o.2 sp bf ty gn hs) sz) 0 0 (va_A (WM cy q th z sv sn sp bf ty gn hs) sz) := by
  refine pw_met (cc := cX4_save) (maxL := 2) (ret := none) (by decide) rfl (Nat.le_of_ble_eq_true rfl) ?_
  intro p e s m args below meth c ls A hx hb hr hml hlk hts hown hAe hA hK hP hD hS hl
  have hl : lv_has ls 2 [(0, .ref (q 0))] := hl
  generalize hQ : MQ below (pw_V D (WM cy q th z sv sn sp bf ty gn hs) (WM cy q th z o.1 o.2 sp bf ty gn hs) sz) args s 0 0 (va_A (WM cy q th z sv sn sp bf ty gn hs) sz) = Q
  have hF : CallFix p m c cX4_save 2 s args aX4_save RX4 := ⟨hx, hb, hml, hown, hts⟩
  have hta : ∀ w ∈ pw_all, w.before args s = true := fun w h => hts w (List.mem_cons_of_mem _ h)
  have hin : ∀ w ∈ wsX40, w ∈ aX4_save := fun w h => List.mem_cons_of_mem _ (inA4 w h)
  unfold fX4_save at h
  refine lv_aload_n hx hb dX4_save_0 rfl (lv_at hl 0 rfl) ?_
  refine va_get (D := D) (ci := 4) (v := .int sn) (C := RX4) (T := TX4) (N := 9) hx hb hts hin hown hK hP 0 rfl rfl 3 (by decide) (hta _ aw_689) (fun _ h9 => h9) rfl dX4_save_1 ?_
  refine lv_bipush (v := 6) hx hb dX4_save_4 (by decide) ?_
  obtain ⟨v1, hv1, h⟩ := pq_b h
  have J49_v1 : ∀ (H : Heap) (locs : List Loc) (ls : Array Slot), va_P D vwCl (WM cy q th z v1.1 v1.2 sp bf ty gn hs) H → va_D A (WM cy q th z v1.1 v1.2 sp bf ty gn hs) → va_S A s.heap H locs → lv_has ls 2 [(0, .ref (q 0))] → W p l e ({ frames := 0, cells := 0, slots := 0, locals := 0 } : Room) s m args below meth c H locs 0 0 Q (F0 m 49 ls []) := by
    intro H locs ls hP hD hS hl
    refine lv_iconst (v := 0) hx hb dX4_save_49 (by decide) ?_
    refine lv_istore_n (lv' := [(1, .int 0), (0, .ref (q 0))]) hx hb dX4_save_50 rfl hl (by decide) rfl (fun ls hl => ?_)
    obtain ⟨v5, hv5, h⟩ := pq_b h
    have X83_v5 : ∀ (H : Heap) (locs : List Loc) (ls : Array Slot), va_P D vwCl (WM cy q th z v5 v1.2 sp bf ty gn hs) H → va_D A (WM cy q th z v5 v1.2 sp bf ty gn hs) → va_S A s.heap H locs → lv_has ls 2 [(0, .ref (q 0))] → W p l e ({ frames := 0, cells := 0, slots := 0, locals := 0 } : Room) s m args below meth c H locs 0 0 Q (F0 m 83 ls []) := by
      intro H locs ls hP hD hS hl
      refine lv_aload_n hx hb dX4_save_83 rfl (lv_at hl 0 rfl) ?_
      refine lv_dup hx hb dX4_save_84 rfl ?_
      refine va_get (D := D) (ci := 4) (v := .int v1.2) (C := RX4) (T := TX4) (N := 9) hx hb hts hin hown hK hP 0 rfl rfl 3 (by decide) (hta _ aw_689) (fun _ h9 => h9) rfl dX4_save_85 ?_
      refine lv_iconst (v := 1) hx hb dX4_save_88 (by decide) ?_
      refine lv_iadd hx hb dX4_save_89 ?_
      refine va_put (D := D) (ci := 4) (v := .int (v1.2 + 1)) (ty := .int) (C := RX4) (T := TX4) (N := 9) hx hb hts hin tyX4 tyX4_ok nmX4 hown hK hP hD hS 0 rfl rfl 3 (by decide) (hta _ aw_689) (fun _ h9 => h9) rfl (by decide +kernel) rfl rfl (Nat.le_of_ble_eq_true rfl) dX4_save_90 (fun H locs hP hD hS => ?_)
      have hP : va_P D vwCl (WM cy q th z v5 (v1.2 + 1) sp bf ty gn hs) H := hP
      have hD : va_D A (WM cy q th z v5 (v1.2 + 1) sp bf ty gn hs) := hD
      obtain rfl := Option.some.inj h
      subst hQ
      exact pw_rv hx hb hr hlk hAe hP hS dX4_save_93
    clear h
    have L51_n4 : ∀ (n : Nat) (x1_51 : Int32) (sv_51 : Nat → Int32) (H : Heap) (locs : List Loc) (ls : Array Slot), fX4_save_L51 z v1 n x1_51 sv_51 = some v5 → va_P D vwCl (WM cy q th z sv_51 v1.2 sp bf ty gn hs) H → va_D A (WM cy q th z sv_51 v1.2 sp bf ty gn hs) → va_S A s.heap H locs → lv_has ls 2 [(0, .ref (q 0)), (1, .int x1_51)] → W p l e ({ frames := 0, cells := 0, slots := 0, locals := 0 } : Room) s m args below meth c H locs 0 0 Q (F0 m 51 ls []) := by
      intro n
      induction n with
      | zero =>
        intro x1_51 sv_51 H locs ls h hP hD hS hl
        exact pq_n h
      | succ n ih51 =>
        intro x1_51 sv_51 H locs ls h hP hD hS hl
        rw [fX4_save_L51] at h
        refine lv_iload_n hx hb dX4_save_51 rfl (lv_at hl 1 rfl) ?_
        refine lv_bipush (v := 114) hx hb dX4_save_52 (by decide) ?_
        refine lv_icmp_ge (tgt := 83) hx hb dX4_save_54 (by decide) (fun c3_ => ?_) (fun c3_ => ?_)
        · have h := pq_t c3_ h
          obtain rfl := Option.some.inj h
          exact X83_v5 _ _ _ hP hD hS (lv_sub hl [0] rfl)
        · have h := pq_e c3_ h
          refine lv_aload_n hx hb dX4_save_57 rfl (lv_at hl 0 rfl) ?_
          refine va_get (D := D) (ci := 4) (v := .ref (q 2)) (C := RX4) (T := TX4) (N := 9) hx hb hts hin hown hK hP 0 rfl rfl 2 (by decide) (hta _ aw_688) (fun _ h9 => h9) rfl dX4_save_58 ?_
          refine lv_aload_n hx hb dX4_save_61 rfl (lv_at hl 0 rfl) ?_
          refine va_get (D := D) (ci := 4) (v := .int v1.2) (C := RX4) (T := TX4) (N := 9) hx hb hts hin hown hK hP 0 rfl rfl 3 (by decide) (hta _ aw_689) (fun _ h9 => h9) rfl dX4_save_62 ?_
          refine lv_bipush (v := 114) hx hb dX4_save_65 (by decide) ?_
          refine lv_imul hx hb dX4_save_67 ?_
          refine lv_iload_n hx hb dX4_save_68 rfl (lv_at hl 1 rfl) ?_
          refine lv_iadd hx hb dX4_save_69 ?_
          refine lv_aload_n hx hb dX4_save_70 rfl (lv_at hl 0 rfl) ?_
          refine va_get (D := D) (ci := 4) (v := .ref (q 1)) (C := RX4) (T := TX4) (N := 9) hx hb hts hin hown hK hP 0 rfl rfl 1 (by decide) (hta _ aw_687) (fun _ h9 => h9) rfl dX4_save_71 ?_
          refine lv_iload_n hx hb dX4_save_74 rfl (lv_at hl 1 rfl) ?_
          obtain ⟨hg, h⟩ := pq_g h
          refine va_iald hx hb hK hP 1 0 rfl rfl (pq_vp hg) dX4_save_75 ?_
          obtain ⟨hg, h⟩ := pq_g h
          refine va_iast hx hb hK hP hD hS 2 0 rfl rfl (pq_vp hg) dX4_save_76 (fun H locs hP hD hS => ?_)
          have hP : va_P D vwCl (WM cy q th z (upd sv_51 ((v1.2 * 114) + x1_51).toNatClampNeg (z x1_51.toNatClampNeg)) v1.2 sp bf ty gn hs) H := hP
          have hD : va_D A (WM cy q th z (upd sv_51 ((v1.2 * 114) + x1_51).toNatClampNeg (z x1_51.toNatClampNeg)) v1.2 sp bf ty gn hs) := hD
          refine lv_iinc (v := x1_51 + 1) (lv' := [(1, .int (x1_51 + 1)), (0, .ref (q 0))]) hx hb dX4_save_77 hl (k := 1) rfl (by first | rfl | decide) (by decide) rfl (fun ls hl => ?_)
          refine lv_goto (tgt := 51) hx hb dX4_save_80 (by decide) ?_
          exact ih51 (x1_51 + 1) (upd sv_51 ((v1.2 * 114) + x1_51).toNatClampNeg (z x1_51.toNatClampNeg)) _ _ _ h hP hD hS (lv_sub hl [1, 0] rfl)
    have h := hv5
    exact L51_n4 1000 0 v1.1 _ _ _ h hP hD hS (lv_sub hl [1, 0] rfl)
  clear h
  have h := hv1
  clear hv1
  refine lv_icmp_ne (tgt := 49) hx hb dX4_save_6 (by decide) (fun c1_ => ?_) (fun c1_ => ?_)
  · have h := pq_e c1_ h
    obtain rfl := Option.some.inj h
    exact J49_v1 _ _ _ hP hD hS (lv_sub hl [0] rfl)
  · have h := pq_t c1_ h
    refine lv_iconst (v := 0) hx hb dX4_save_9 (by decide) ?_
    refine lv_istore_n (lv' := [(1, .int 0), (0, .ref (q 0))]) hx hb dX4_save_10 rfl hl (by decide) rfl (fun ls hl => ?_)
    obtain ⟨v3, hv3, h⟩ := pq_b h
    have X39_v3 : ∀ (H : Heap) (locs : List Loc) (ls : Array Slot), va_P D vwCl (WM cy q th z v3 sn sp bf ty gn hs) H → va_D A (WM cy q th z v3 sn sp bf ty gn hs) → va_S A s.heap H locs → lv_has ls 2 [(0, .ref (q 0))] → W p l e ({ frames := 0, cells := 0, slots := 0, locals := 0 } : Room) s m args below meth c H locs 0 0 Q (F0 m 39 ls []) := by
      intro H locs ls hP hD hS hl
      refine lv_aload_n hx hb dX4_save_39 rfl (lv_at hl 0 rfl) ?_
      refine lv_dup hx hb dX4_save_40 rfl ?_
      refine va_get (D := D) (ci := 4) (v := .int sn) (C := RX4) (T := TX4) (N := 9) hx hb hts hin hown hK hP 0 rfl rfl 3 (by decide) (hta _ aw_689) (fun _ h9 => h9) rfl dX4_save_41 ?_
      refine lv_iconst (v := 1) hx hb dX4_save_44 (by decide) ?_
      refine lv_isub hx hb dX4_save_45 ?_
      refine va_put (D := D) (ci := 4) (v := .int (sn - 1)) (ty := .int) (C := RX4) (T := TX4) (N := 9) hx hb hts hin tyX4 tyX4_ok nmX4 hown hK hP hD hS 0 rfl rfl 3 (by decide) (hta _ aw_689) (fun _ h9 => h9) rfl (by decide +kernel) rfl rfl (Nat.le_of_ble_eq_true rfl) dX4_save_46 (fun H locs hP hD hS => ?_)
      have hP : va_P D vwCl (WM cy q th z v3 (sn - 1) sp bf ty gn hs) H := hP
      have hD : va_D A (WM cy q th z v3 (sn - 1) sp bf ty gn hs) := hD
      obtain rfl := Option.some.inj h
      exact J49_v1 _ _ _ hP hD hS (lv_sub hl [0] rfl)
    clear h
    have L11_n2 : ∀ (n : Nat) (x1_11 : Int32) (sv_11 : Nat → Int32) (H : Heap) (locs : List Loc) (ls : Array Slot), fX4_save_L11  n x1_11 sv_11 = some v3 → va_P D vwCl (WM cy q th z sv_11 sn sp bf ty gn hs) H → va_D A (WM cy q th z sv_11 sn sp bf ty gn hs) → va_S A s.heap H locs → lv_has ls 2 [(0, .ref (q 0)), (1, .int x1_11)] → W p l e ({ frames := 0, cells := 0, slots := 0, locals := 0 } : Room) s m args below meth c H locs 0 0 Q (F0 m 11 ls []) := by
      intro n
      induction n with
      | zero =>
        intro x1_11 sv_11 H locs ls h hP hD hS hl
        exact pq_n h
      | succ n ih11 =>
        intro x1_11 sv_11 H locs ls h hP hD hS hl
        rw [fX4_save_L11] at h
        refine lv_iload_n hx hb dX4_save_11 rfl (lv_at hl 1 rfl) ?_
        refine lv_sipush (v := 570) hx hb dX4_save_12 (by decide) ?_
        refine lv_icmp_ge (tgt := 39) hx hb dX4_save_15 (by decide) (fun c2_ => ?_) (fun c2_ => ?_)
        · have h := pq_t c2_ h
          obtain rfl := Option.some.inj h
          exact X39_v3 _ _ _ hP hD hS (lv_sub hl [0] rfl)
        · have h := pq_e c2_ h
          refine lv_aload_n hx hb dX4_save_18 rfl (lv_at hl 0 rfl) ?_
          refine va_get (D := D) (ci := 4) (v := .ref (q 2)) (C := RX4) (T := TX4) (N := 9) hx hb hts hin hown hK hP 0 rfl rfl 2 (by decide) (hta _ aw_688) (fun _ h9 => h9) rfl dX4_save_19 ?_
          refine lv_iload_n hx hb dX4_save_22 rfl (lv_at hl 1 rfl) ?_
          refine lv_aload_n hx hb dX4_save_23 rfl (lv_at hl 0 rfl) ?_
          refine va_get (D := D) (ci := 4) (v := .ref (q 2)) (C := RX4) (T := TX4) (N := 9) hx hb hts hin hown hK hP 0 rfl rfl 2 (by decide) (hta _ aw_688) (fun _ h9 => h9) rfl dX4_save_24 ?_
          refine lv_iload_n hx hb dX4_save_27 rfl (lv_at hl 1 rfl) ?_
          refine lv_bipush (v := 114) hx hb dX4_save_28 (by decide) ?_
          refine lv_iadd hx hb dX4_save_30 ?_
          obtain ⟨hg, h⟩ := pq_g h
          refine va_iald hx hb hK hP 2 0 rfl rfl (pq_vp hg) dX4_save_31 ?_
          obtain ⟨hg, h⟩ := pq_g h
          refine va_iast hx hb hK hP hD hS 2 0 rfl rfl (pq_vp hg) dX4_save_32 (fun H locs hP hD hS => ?_)
          have hP : va_P D vwCl (WM cy q th z (upd sv_11 x1_11.toNatClampNeg (sv_11 (x1_11 + 114).toNatClampNeg)) sn sp bf ty gn hs) H := hP
          have hD : va_D A (WM cy q th z (upd sv_11 x1_11.toNatClampNeg (sv_11 (x1_11 + 114).toNatClampNeg)) sn sp bf ty gn hs) := hD
          refine lv_iinc (v := x1_11 + 1) (lv' := [(1, .int (x1_11 + 1)), (0, .ref (q 0))]) hx hb dX4_save_33 hl (k := 1) rfl (by first | rfl | decide) (by decide) rfl (fun ls hl => ?_)
          refine lv_goto (tgt := 11) hx hb dX4_save_36 (by decide) ?_
          exact ih11 (x1_11 + 1) (upd sv_11 x1_11.toNatClampNeg (sv_11 (x1_11 + 114).toNatClampNeg)) _ _ _ h hP hD hS (lv_sub hl [1, 0] rfl)
    have h := hv3
    exact L11_n2 1000 0 sv _ _ _ h hP hD hS (lv_sub hl [1, 0] rfl)

def aX4_undo : List Cond := Cond.code yX4_undo cX4_undo 2 (some .int) :: pw_all
theorem pX4_undo : yX4_undo.cls = RX4 ∧ yX4_undo.cls ≠ "java/lang/invoke/MethodHandle" ∧ yX4_undo.cls ≠ "java/lang/invoke/VarHandle" ∧ (parseMethodDescriptor yX4_undo.desc).map (fun d => d.parameters.length) = some 0 := by decide +kernel
set_option maxHeartbeats 8000000 in
set_option maxRecDepth 100000 in
theorem kX4_undo (l : Launch) (D : va_G) (cy : Nat → ClassId) (q : Nat → Nat) (sz : Nat) (th : Int32) (z : Nat → Int32) (sv : Nat → Int32) (sn : Int32) (sp : Nat → Int32) (bf : Nat → Int32) (ty : Int32) (gn : Nat → Int32) (hs : Int64)  (o : Int32 × Int32 × (Nat → Int32) × Int32) (h : fX4_undo th z sv sn = some o) : Met l yX4_undo aX4_undo ({ frames := 0, cells := 0, slots := 0, locals := 0 }) (pw_Pre D cy [.ref (q 0)] (WM cy q th z sv sn sp bf ty gn hs) sz) (pw_I D o.1 (WM cy q th z sv sn sp bf ty gn hs) (WM cy q o.2.1 o.2.2.1 sv o.2.2.2 sp bf ty gn hs) sz) 0 0 (va_A (WM cy q th z sv sn sp bf ty gn hs) sz) := by
  refine pw_met (cc := cX4_undo) (maxL := 2) (ret := (some .int)) (by decide) rfl (Nat.le_of_ble_eq_true rfl) ?_
  intro p e s m args below meth c ls A hx hb hr hml hlk hts hown hAe hA hK hP hD hS hl
  have hl : lv_has ls 2 [(0, .ref (q 0))] := hl
  generalize hQ : MQ below (pw_I D o.1 (WM cy q th z sv sn sp bf ty gn hs) (WM cy q o.2.1 o.2.2.1 sv o.2.2.2 sp bf ty gn hs) sz) args s 0 0 (va_A (WM cy q th z sv sn sp bf ty gn hs) sz) = Q
  have hF : CallFix p m c cX4_undo 2 s args aX4_undo RX4 := ⟨hx, hb, hml, hown, hts⟩
  have hta : ∀ w ∈ pw_all, w.before args s = true := fun w h => hts w (List.mem_cons_of_mem _ h)
  have hin : ∀ w ∈ wsX40, w ∈ aX4_undo := fun w h => List.mem_cons_of_mem _ (inA4 w h)
  unfold fX4_undo at h
  refine lv_aload_n hx hb dX4_undo_0 rfl (lv_at hl 0 rfl) ?_
  refine lv_aload_n hx hb dX4_undo_1 rfl (lv_at hl 0 rfl) ?_
  refine va_get (D := D) (ci := 4) (v := .int sn) (C := RX4) (T := TX4) (N := 9) hx hb hts hin hown hK hP 0 rfl rfl 3 (by decide) (hta _ aw_689) (fun _ h9 => h9) rfl dX4_undo_2 ?_
  obtain ⟨v1, hv1, h⟩ := pq_b h
  have J13_v1 : ∀ (H : Heap) (locs : List Loc) (ls : Array Slot), va_P D vwCl (WM cy q th z sv sn sp bf ty gn hs) H → va_D A (WM cy q th z sv sn sp bf ty gn hs) → va_S A s.heap H locs → lv_has ls 2 [(0, .ref (q 0))] → W p l e ({ frames := 0, cells := 0, slots := 0, locals := 0 } : Room) s m args below meth c H locs 0 0 Q (F0 m 13 ls [.int v1, .ref (q 0)]) := by
    intro H locs ls hP hD hS hl
    refine va_put (D := D) (ci := 4) (v := .int v1) (ty := .int) (C := RX4) (T := TX4) (N := 9) hx hb hts hin tyX4 tyX4_ok nmX4 hown hK hP hD hS 0 rfl rfl 0 (by decide) (hta _ aw_686) (fun _ h9 => h9) rfl (by decide +kernel) rfl rfl (Nat.le_of_ble_eq_true rfl) dX4_undo_13 (fun H locs hP hD hS => ?_)
    have hP : va_P D vwCl (WM cy q v1 z sv sn sp bf ty gn hs) H := hP
    have hD : va_D A (WM cy q v1 z sv sn sp bf ty gn hs) := hD
    refine lv_aload_n hx hb dX4_undo_16 rfl (lv_at hl 0 rfl) ?_
    refine va_get (D := D) (ci := 4) (v := .int v1) (C := RX4) (T := TX4) (N := 9) hx hb hts hin hown hK hP 0 rfl rfl 0 (by decide) (hta _ aw_686) (fun _ h9 => h9) rfl dX4_undo_17 ?_
    refine lv_if_le (tgt := 25) hx hb dX4_undo_20 (by decide) (fun c2_ => ?_) (fun c2_ => ?_)
    · have h := pq_t c2_ h
      refine lv_aload_n hx hb dX4_undo_25 rfl (lv_at hl 0 rfl) ?_
      refine lv_dup hx hb dX4_undo_26 rfl ?_
      refine va_get (D := D) (ci := 4) (v := .int sn) (C := RX4) (T := TX4) (N := 9) hx hb hts hin hown hK hP 0 rfl rfl 3 (by decide) (hta _ aw_689) (fun _ h9 => h9) rfl dX4_undo_27 ?_
      refine lv_iconst (v := 1) hx hb dX4_undo_30 (by decide) ?_
      refine lv_isub hx hb dX4_undo_31 ?_
      refine va_put (D := D) (ci := 4) (v := .int (sn - 1)) (ty := .int) (C := RX4) (T := TX4) (N := 9) hx hb hts hin tyX4 tyX4_ok nmX4 hown hK hP hD hS 0 rfl rfl 3 (by decide) (hta _ aw_689) (fun _ h9 => h9) rfl (by decide +kernel) rfl rfl (Nat.le_of_ble_eq_true rfl) dX4_undo_32 (fun H locs hP hD hS => ?_)
      have hP : va_P D vwCl (WM cy q v1 z sv (sn - 1) sp bf ty gn hs) H := hP
      have hD : va_D A (WM cy q v1 z sv (sn - 1) sp bf ty gn hs) := hD
      refine lv_iconst (v := 0) hx hb dX4_undo_35 (by decide) ?_
      refine lv_istore_n (lv' := [(1, .int 0), (0, .ref (q 0))]) hx hb dX4_undo_36 rfl hl (by decide) rfl (fun ls hl => ?_)
      have L37_n2 : ∀ (n : Nat) (x1_37 : Int32) (z_37 : Nat → Int32) (H : Heap) (locs : List Loc) (ls : Array Slot), fX4_undo_L37 sv sn v1 n x1_37 z_37 = some o → va_P D vwCl (WM cy q v1 z_37 sv (sn - 1) sp bf ty gn hs) H → va_D A (WM cy q v1 z_37 sv (sn - 1) sp bf ty gn hs) → va_S A s.heap H locs → lv_has ls 2 [(0, .ref (q 0)), (1, .int x1_37)] → W p l e ({ frames := 0, cells := 0, slots := 0, locals := 0 } : Room) s m args below meth c H locs 0 0 Q (F0 m 37 ls []) := by
        intro n
        induction n with
        | zero =>
          intro x1_37 z_37 H locs ls h hP hD hS hl
          exact pq_n h
        | succ n ih37 =>
          intro x1_37 z_37 H locs ls h hP hD hS hl
          rw [fX4_undo_L37] at h
          refine lv_iload_n hx hb dX4_undo_37 rfl (lv_at hl 1 rfl) ?_
          refine lv_bipush (v := 114) hx hb dX4_undo_38 (by decide) ?_
          refine lv_icmp_ge (tgt := 69) hx hb dX4_undo_40 (by decide) (fun c3_ => ?_) (fun c3_ => ?_)
          · have h := pq_t c3_ h
            refine lv_aload_n hx hb dX4_undo_69 rfl (lv_at hl 0 rfl) ?_
            refine va_get (D := D) (ci := 4) (v := .int (sn - 1)) (C := RX4) (T := TX4) (N := 9) hx hb hts hin hown hK hP 0 rfl rfl 3 (by decide) (hta _ aw_689) (fun _ h9 => h9) rfl dX4_undo_70 ?_
            obtain rfl := Option.some.inj h
            subst hQ
            exact pw_ri hx hb hr hlk hAe hP hS rfl dX4_undo_73
          · have h := pq_e c3_ h
            refine lv_aload_n hx hb dX4_undo_43 rfl (lv_at hl 0 rfl) ?_
            refine va_get (D := D) (ci := 4) (v := .ref (q 1)) (C := RX4) (T := TX4) (N := 9) hx hb hts hin hown hK hP 0 rfl rfl 1 (by decide) (hta _ aw_687) (fun _ h9 => h9) rfl dX4_undo_44 ?_
            refine lv_iload_n hx hb dX4_undo_47 rfl (lv_at hl 1 rfl) ?_
            refine lv_aload_n hx hb dX4_undo_48 rfl (lv_at hl 0 rfl) ?_
            refine va_get (D := D) (ci := 4) (v := .ref (q 2)) (C := RX4) (T := TX4) (N := 9) hx hb hts hin hown hK hP 0 rfl rfl 2 (by decide) (hta _ aw_688) (fun _ h9 => h9) rfl dX4_undo_49 ?_
            refine lv_aload_n hx hb dX4_undo_52 rfl (lv_at hl 0 rfl) ?_
            refine va_get (D := D) (ci := 4) (v := .int (sn - 1)) (C := RX4) (T := TX4) (N := 9) hx hb hts hin hown hK hP 0 rfl rfl 3 (by decide) (hta _ aw_689) (fun _ h9 => h9) rfl dX4_undo_53 ?_
            refine lv_bipush (v := 114) hx hb dX4_undo_56 (by decide) ?_
            refine lv_imul hx hb dX4_undo_58 ?_
            refine lv_iload_n hx hb dX4_undo_59 rfl (lv_at hl 1 rfl) ?_
            refine lv_iadd hx hb dX4_undo_60 ?_
            obtain ⟨hg, h⟩ := pq_g h
            refine va_iald hx hb hK hP 2 0 rfl rfl (pq_vp hg) dX4_undo_61 ?_
            obtain ⟨hg, h⟩ := pq_g h
            refine va_iast hx hb hK hP hD hS 1 0 rfl rfl (pq_vp hg) dX4_undo_62 (fun H locs hP hD hS => ?_)
            have hP : va_P D vwCl (WM cy q v1 (upd z_37 x1_37.toNatClampNeg (sv (((sn - 1) * 114) + x1_37).toNatClampNeg)) sv (sn - 1) sp bf ty gn hs) H := hP
            have hD : va_D A (WM cy q v1 (upd z_37 x1_37.toNatClampNeg (sv (((sn - 1) * 114) + x1_37).toNatClampNeg)) sv (sn - 1) sp bf ty gn hs) := hD
            refine lv_iinc (v := x1_37 + 1) (lv' := [(1, .int (x1_37 + 1)), (0, .ref (q 0))]) hx hb dX4_undo_63 hl (k := 1) rfl (by first | rfl | decide) (by decide) rfl (fun ls hl => ?_)
            refine lv_goto (tgt := 37) hx hb dX4_undo_66 (by decide) ?_
            exact ih37 (x1_37 + 1) (upd z_37 x1_37.toNatClampNeg (sv (((sn - 1) * 114) + x1_37).toNatClampNeg)) _ _ _ h hP hD hS (lv_sub hl [1, 0] rfl)
      exact L37_n2 1000 0 z _ _ _ h hP hD hS (lv_sub hl [1, 0] rfl)
    · have h := pq_e c2_ h
      refine lv_iconst (v := 0) hx hb dX4_undo_23 (by decide) ?_
      obtain rfl := Option.some.inj h
      subst hQ
      exact pw_ri hx hb hr hlk hAe hP hS rfl dX4_undo_24
  clear h
  have h := hv1
  clear hv1
  refine lv_if_ne (tgt := 12) hx hb dX4_undo_5 (by decide) (fun c1_ => ?_) (fun c1_ => ?_)
  · have h := pq_e c1_ h
    refine lv_iconst (v := 0) hx hb dX4_undo_12 (by decide) ?_
    obtain rfl := Option.some.inj h
    exact J13_v1 _ _ _ hP hD hS (lv_sub hl [0] rfl)
  · have h := pq_t c1_ h
    refine lv_iconst (v := 1) hx hb dX4_undo_8 (by decide) ?_
    refine lv_goto (tgt := 13) hx hb dX4_undo_9 (by decide) ?_
    obtain rfl := Option.some.inj h
    exact J13_v1 _ _ _ hP hD hS (lv_sub hl [0] rfl)

def aX4_putAside : List Cond := Cond.code yX4_putAside cX4_putAside 2 none :: pw_all
theorem pX4_putAside : yX4_putAside.cls = RX4 ∧ yX4_putAside.cls ≠ "java/lang/invoke/MethodHandle" ∧ yX4_putAside.cls ≠ "java/lang/invoke/VarHandle" ∧ (parseMethodDescriptor yX4_putAside.desc).map (fun d => d.parameters.length) = some 0 := by decide +kernel
set_option maxHeartbeats 8000000 in
set_option maxRecDepth 100000 in
theorem kX4_putAside (l : Launch) (D : va_G) (cy : Nat → ClassId) (q : Nat → Nat) (sz : Nat) (th : Int32) (z : Nat → Int32) (sv : Nat → Int32) (sn : Int32) (sp : Nat → Int32) (bf : Nat → Int32) (ty : Int32) (gn : Nat → Int32) (hs : Int64)  (o : (Nat → Int32)) (h : fX4_putAside z sp = some o) : Met l yX4_putAside aX4_putAside ({ frames := 0, cells := 0, slots := 0, locals := 0 }) (pw_Pre D cy [.ref (q 0)] (WM cy q th z sv sn sp bf ty gn hs) sz) (pw_V D (WM cy q th z sv sn sp bf ty gn hs) (WM cy q th z sv sn o bf ty gn hs) sz) 0 0 (va_A (WM cy q th z sv sn sp bf ty gn hs) sz) := by
  refine pw_met (cc := cX4_putAside) (maxL := 2) (ret := none) (by decide) rfl (Nat.le_of_ble_eq_true rfl) ?_
  intro p e s m args below meth c ls A hx hb hr hml hlk hts hown hAe hA hK hP hD hS hl
  have hl : lv_has ls 2 [(0, .ref (q 0))] := hl
  generalize hQ : MQ below (pw_V D (WM cy q th z sv sn sp bf ty gn hs) (WM cy q th z sv sn o bf ty gn hs) sz) args s 0 0 (va_A (WM cy q th z sv sn sp bf ty gn hs) sz) = Q
  have hF : CallFix p m c cX4_putAside 2 s args aX4_putAside RX4 := ⟨hx, hb, hml, hown, hts⟩
  have hta : ∀ w ∈ pw_all, w.before args s = true := fun w h => hts w (List.mem_cons_of_mem _ h)
  have hin : ∀ w ∈ wsX40, w ∈ aX4_putAside := fun w h => List.mem_cons_of_mem _ (inA4 w h)
  unfold fX4_putAside at h
  refine lv_iconst (v := 0) hx hb dX4_putAside_0 (by decide) ?_
  refine lv_istore_n (lv' := [(1, .int 0), (0, .ref (q 0))]) hx hb dX4_putAside_1 rfl hl (by decide) rfl (fun ls hl => ?_)
  have L2_n1 : ∀ (n : Nat) (x1_2 : Int32) (sp_2 : Nat → Int32) (H : Heap) (locs : List Loc) (ls : Array Slot), fX4_putAside_L2 z n x1_2 sp_2 = some o → va_P D vwCl (WM cy q th z sv sn sp_2 bf ty gn hs) H → va_D A (WM cy q th z sv sn sp_2 bf ty gn hs) → va_S A s.heap H locs → lv_has ls 2 [(0, .ref (q 0)), (1, .int x1_2)] → W p l e ({ frames := 0, cells := 0, slots := 0, locals := 0 } : Room) s m args below meth c H locs 0 0 Q (F0 m 2 ls []) := by
    intro n
    induction n with
    | zero =>
      intro x1_2 sp_2 H locs ls h hP hD hS hl
      exact pq_n h
    | succ n ih2 =>
      intro x1_2 sp_2 H locs ls h hP hD hS hl
      rw [fX4_putAside_L2] at h
      refine lv_iload_n hx hb dX4_putAside_2 rfl (lv_at hl 1 rfl) ?_
      refine lv_bipush (v := 114) hx hb dX4_putAside_3 (by decide) ?_
      refine lv_icmp_ge (tgt := 26) hx hb dX4_putAside_5 (by decide) (fun c1_ => ?_) (fun c1_ => ?_)
      · have h := pq_t c1_ h
        obtain rfl := Option.some.inj h
        subst hQ
        exact pw_rv hx hb hr hlk hAe hP hS dX4_putAside_26
      · have h := pq_e c1_ h
        refine lv_aload_n hx hb dX4_putAside_8 rfl (lv_at hl 0 rfl) ?_
        refine va_get (D := D) (ci := 4) (v := .ref (q 4)) (C := RX4) (T := TX4) (N := 9) hx hb hts hin hown hK hP 0 rfl rfl 4 (by decide) (hta _ aw_690) (fun _ h9 => h9) rfl dX4_putAside_9 ?_
        refine lv_iload_n hx hb dX4_putAside_12 rfl (lv_at hl 1 rfl) ?_
        refine lv_aload_n hx hb dX4_putAside_13 rfl (lv_at hl 0 rfl) ?_
        refine va_get (D := D) (ci := 4) (v := .ref (q 1)) (C := RX4) (T := TX4) (N := 9) hx hb hts hin hown hK hP 0 rfl rfl 1 (by decide) (hta _ aw_687) (fun _ h9 => h9) rfl dX4_putAside_14 ?_
        refine lv_iload_n hx hb dX4_putAside_17 rfl (lv_at hl 1 rfl) ?_
        obtain ⟨hg, h⟩ := pq_g h
        refine va_iald hx hb hK hP 1 0 rfl rfl (pq_vp hg) dX4_putAside_18 ?_
        obtain ⟨hg, h⟩ := pq_g h
        refine va_iast hx hb hK hP hD hS 3 0 rfl rfl (pq_vp hg) dX4_putAside_19 (fun H locs hP hD hS => ?_)
        have hP : va_P D vwCl (WM cy q th z sv sn (upd sp_2 x1_2.toNatClampNeg (z x1_2.toNatClampNeg)) bf ty gn hs) H := hP
        have hD : va_D A (WM cy q th z sv sn (upd sp_2 x1_2.toNatClampNeg (z x1_2.toNatClampNeg)) bf ty gn hs) := hD
        refine lv_iinc (v := x1_2 + 1) (lv' := [(1, .int (x1_2 + 1)), (0, .ref (q 0))]) hx hb dX4_putAside_20 hl (k := 1) rfl (by first | rfl | decide) (by decide) rfl (fun ls hl => ?_)
        refine lv_goto (tgt := 2) hx hb dX4_putAside_23 (by decide) ?_
        exact ih2 (x1_2 + 1) (upd sp_2 x1_2.toNatClampNeg (z x1_2.toNatClampNeg)) _ _ _ h hP hD hS (lv_sub hl [1, 0] rfl)
  exact L2_n1 1000 0 sp _ _ _ h hP hD hS (lv_sub hl [1, 0] rfl)

def aX4_bringBack : List Cond := Cond.code yX4_bringBack cX4_bringBack 2 none :: pw_all
theorem pX4_bringBack : yX4_bringBack.cls = RX4 ∧ yX4_bringBack.cls ≠ "java/lang/invoke/MethodHandle" ∧ yX4_bringBack.cls ≠ "java/lang/invoke/VarHandle" ∧ (parseMethodDescriptor yX4_bringBack.desc).map (fun d => d.parameters.length) = some 0 := by decide +kernel
set_option maxHeartbeats 8000000 in
set_option maxRecDepth 100000 in
theorem kX4_bringBack (l : Launch) (D : va_G) (cy : Nat → ClassId) (q : Nat → Nat) (sz : Nat) (th : Int32) (z : Nat → Int32) (sv : Nat → Int32) (sn : Int32) (sp : Nat → Int32) (bf : Nat → Int32) (ty : Int32) (gn : Nat → Int32) (hs : Int64)  (o : (Nat → Int32)) (h : fX4_bringBack z sp = some o) : Met l yX4_bringBack aX4_bringBack ({ frames := 0, cells := 0, slots := 0, locals := 0 }) (pw_Pre D cy [.ref (q 0)] (WM cy q th z sv sn sp bf ty gn hs) sz) (pw_V D (WM cy q th z sv sn sp bf ty gn hs) (WM cy q th o sv sn sp bf ty gn hs) sz) 0 0 (va_A (WM cy q th z sv sn sp bf ty gn hs) sz) := by
  refine pw_met (cc := cX4_bringBack) (maxL := 2) (ret := none) (by decide) rfl (Nat.le_of_ble_eq_true rfl) ?_
  intro p e s m args below meth c ls A hx hb hr hml hlk hts hown hAe hA hK hP hD hS hl
  have hl : lv_has ls 2 [(0, .ref (q 0))] := hl
  generalize hQ : MQ below (pw_V D (WM cy q th z sv sn sp bf ty gn hs) (WM cy q th o sv sn sp bf ty gn hs) sz) args s 0 0 (va_A (WM cy q th z sv sn sp bf ty gn hs) sz) = Q
  have hF : CallFix p m c cX4_bringBack 2 s args aX4_bringBack RX4 := ⟨hx, hb, hml, hown, hts⟩
  have hta : ∀ w ∈ pw_all, w.before args s = true := fun w h => hts w (List.mem_cons_of_mem _ h)
  have hin : ∀ w ∈ wsX40, w ∈ aX4_bringBack := fun w h => List.mem_cons_of_mem _ (inA4 w h)
  unfold fX4_bringBack at h
  refine lv_iconst (v := 0) hx hb dX4_bringBack_0 (by decide) ?_
  refine lv_istore_n (lv' := [(1, .int 0), (0, .ref (q 0))]) hx hb dX4_bringBack_1 rfl hl (by decide) rfl (fun ls hl => ?_)
  have L2_n1 : ∀ (n : Nat) (x1_2 : Int32) (z_2 : Nat → Int32) (H : Heap) (locs : List Loc) (ls : Array Slot), fX4_bringBack_L2 sp n x1_2 z_2 = some o → va_P D vwCl (WM cy q th z_2 sv sn sp bf ty gn hs) H → va_D A (WM cy q th z_2 sv sn sp bf ty gn hs) → va_S A s.heap H locs → lv_has ls 2 [(0, .ref (q 0)), (1, .int x1_2)] → W p l e ({ frames := 0, cells := 0, slots := 0, locals := 0 } : Room) s m args below meth c H locs 0 0 Q (F0 m 2 ls []) := by
    intro n
    induction n with
    | zero =>
      intro x1_2 z_2 H locs ls h hP hD hS hl
      exact pq_n h
    | succ n ih2 =>
      intro x1_2 z_2 H locs ls h hP hD hS hl
      rw [fX4_bringBack_L2] at h
      refine lv_iload_n hx hb dX4_bringBack_2 rfl (lv_at hl 1 rfl) ?_
      refine lv_bipush (v := 114) hx hb dX4_bringBack_3 (by decide) ?_
      refine lv_icmp_ge (tgt := 26) hx hb dX4_bringBack_5 (by decide) (fun c1_ => ?_) (fun c1_ => ?_)
      · have h := pq_t c1_ h
        obtain rfl := Option.some.inj h
        subst hQ
        exact pw_rv hx hb hr hlk hAe hP hS dX4_bringBack_26
      · have h := pq_e c1_ h
        refine lv_aload_n hx hb dX4_bringBack_8 rfl (lv_at hl 0 rfl) ?_
        refine va_get (D := D) (ci := 4) (v := .ref (q 1)) (C := RX4) (T := TX4) (N := 9) hx hb hts hin hown hK hP 0 rfl rfl 1 (by decide) (hta _ aw_687) (fun _ h9 => h9) rfl dX4_bringBack_9 ?_
        refine lv_iload_n hx hb dX4_bringBack_12 rfl (lv_at hl 1 rfl) ?_
        refine lv_aload_n hx hb dX4_bringBack_13 rfl (lv_at hl 0 rfl) ?_
        refine va_get (D := D) (ci := 4) (v := .ref (q 4)) (C := RX4) (T := TX4) (N := 9) hx hb hts hin hown hK hP 0 rfl rfl 4 (by decide) (hta _ aw_690) (fun _ h9 => h9) rfl dX4_bringBack_14 ?_
        refine lv_iload_n hx hb dX4_bringBack_17 rfl (lv_at hl 1 rfl) ?_
        obtain ⟨hg, h⟩ := pq_g h
        refine va_iald hx hb hK hP 3 0 rfl rfl (pq_vp hg) dX4_bringBack_18 ?_
        obtain ⟨hg, h⟩ := pq_g h
        refine va_iast hx hb hK hP hD hS 1 0 rfl rfl (pq_vp hg) dX4_bringBack_19 (fun H locs hP hD hS => ?_)
        have hP : va_P D vwCl (WM cy q th (upd z_2 x1_2.toNatClampNeg (sp x1_2.toNatClampNeg)) sv sn sp bf ty gn hs) H := hP
        have hD : va_D A (WM cy q th (upd z_2 x1_2.toNatClampNeg (sp x1_2.toNatClampNeg)) sv sn sp bf ty gn hs) := hD
        refine lv_iinc (v := x1_2 + 1) (lv' := [(1, .int (x1_2 + 1)), (0, .ref (q 0))]) hx hb dX4_bringBack_20 hl (k := 1) rfl (by first | rfl | decide) (by decide) rfl (fun ls hl => ?_)
        refine lv_goto (tgt := 2) hx hb dX4_bringBack_23 (by decide) ?_
        exact ih2 (x1_2 + 1) (upd z_2 x1_2.toNatClampNeg (sp x1_2.toNatClampNeg)) _ _ _ h hP hD hS (lv_sub hl [1, 0] rfl)
  exact L2_n1 1000 0 z _ _ _ h hP hD hS (lv_sub hl [1, 0] rfl)

def aX4_manyIn : List Cond := Cond.code yX4_manyIn cX4_manyIn 4 (some .int) :: pw_all
theorem pX4_manyIn : yX4_manyIn.cls = RX4 ∧ yX4_manyIn.cls ≠ "java/lang/invoke/MethodHandle" ∧ yX4_manyIn.cls ≠ "java/lang/invoke/VarHandle" ∧ (parseMethodDescriptor yX4_manyIn.desc).map (fun d => d.parameters.length) = some 1 := by decide +kernel
set_option maxHeartbeats 8000000 in
set_option maxRecDepth 100000 in
theorem kX4_manyIn (l : Launch) (D : va_G) (cy : Nat → ClassId) (q : Nat → Nat) (sz : Nat) (th : Int32) (z : Nat → Int32) (sv : Nat → Int32) (sn : Int32) (sp : Nat → Int32) (bf : Nat → Int32) (ty : Int32) (gn : Nat → Int32) (hs : Int64) (x1 : Int32) (o : Int32) (h : fX4_manyIn x1 z = some o) : Met l yX4_manyIn aX4_manyIn ({ frames := 2, cells := 0, slots := 0, locals := 44 }) (pw_Pre D cy [.ref (q 0), .int x1] (WM cy q th z sv sn sp bf ty gn hs) sz) (pw_I D o (WM cy q th z sv sn sp bf ty gn hs) (WM cy q th z sv sn sp bf ty gn hs) sz) 0 0 (va_A (WM cy q th z sv sn sp bf ty gn hs) sz) := by
  refine pw_met (cc := cX4_manyIn) (maxL := 4) (ret := (some .int)) (by decide) rfl (Nat.le_of_ble_eq_true rfl) ?_
  intro p e s m args below meth c ls A hx hb hr hml hlk hts hown hAe hA hK hP hD hS hl
  have hl : lv_has ls 4 [(0, .ref (q 0)), (1, .int x1)] := hl
  generalize hQ : MQ below (pw_I D o (WM cy q th z sv sn sp bf ty gn hs) (WM cy q th z sv sn sp bf ty gn hs) sz) args s 0 0 (va_A (WM cy q th z sv sn sp bf ty gn hs) sz) = Q
  have hF : CallFix p m c cX4_manyIn 4 s args aX4_manyIn RX4 := ⟨hx, hb, hml, hown, hts⟩
  have hta : ∀ w ∈ pw_all, w.before args s = true := fun w h => hts w (List.mem_cons_of_mem _ h)
  have hin : ∀ w ∈ wsX40, w ∈ aX4_manyIn := fun w h => List.mem_cons_of_mem _ (inA4 w h)
  unfold fX4_manyIn at h
  refine lv_iconst (v := 0) hx hb dX4_manyIn_0 (by decide) ?_
  refine lv_istore_n (lv' := [(2, .int 0), (0, .ref (q 0)), (1, .int x1)]) hx hb dX4_manyIn_1 rfl hl (by decide) rfl (fun ls hl => ?_)
  refine lv_iconst (v := 0) hx hb dX4_manyIn_2 (by decide) ?_
  refine lv_istore_n (lv' := [(3, .int 0), (2, .int 0), (0, .ref (q 0)), (1, .int x1)]) hx hb dX4_manyIn_3 rfl hl (by decide) rfl (fun ls hl => ?_)
  have L4_n1 : ∀ (n : Nat) (x2_4 : Int32) (x3_4 : Int32) (H : Heap) (locs : List Loc) (ls : Array Slot), fX4_manyIn_L4 x1 z n x2_4 x3_4 = some o → va_P D vwCl (WM cy q th z sv sn sp bf ty gn hs) H → va_D A (WM cy q th z sv sn sp bf ty gn hs) → va_S A s.heap H locs → lv_has ls 4 [(0, .ref (q 0)), (1, .int x1), (2, .int x2_4), (3, .int x3_4)] → W p l e ({ frames := 2, cells := 0, slots := 0, locals := 44 } : Room) s m args below meth c H locs 0 0 Q (F0 m 4 ls []) := by
    intro n
    induction n with
    | zero =>
      intro x2_4 x3_4 H locs ls h hP hD hS hl
      exact pq_n h
    | succ n ih4 =>
      intro x2_4 x3_4 H locs ls h hP hD hS hl
      rw [fX4_manyIn_L4] at h
      refine lv_iload_n hx hb dX4_manyIn_4 rfl (lv_at hl 3 rfl) ?_
      refine lv_bipush (v := 8) hx hb dX4_manyIn_5 (by decide) ?_
      refine lv_icmp_ge (tgt := 33) hx hb dX4_manyIn_7 (by decide) (fun c1_ => ?_) (fun c1_ => ?_)
      · have h := pq_t c1_ h
        refine lv_iload_n hx hb dX4_manyIn_33 rfl (lv_at hl 2 rfl) ?_
        obtain rfl := Option.some.inj h
        subst hQ
        exact pw_ri hx hb hr hlk hAe hP hS rfl dX4_manyIn_34
      · have h := pq_e c1_ h
        refine lv_iload_n hx hb dX4_manyIn_10 rfl (lv_at hl 2 rfl) ?_
        refine lv_aload_n hx hb dX4_manyIn_11 rfl (lv_at hl 0 rfl) ?_
        refine lv_iload_n hx hb dX4_manyIn_12 rfl (lv_at hl 3 rfl) ?_
        refine lv_iload_n hx hb dX4_manyIn_13 rfl (lv_at hl 1 rfl) ?_
        obtain ⟨r2, hr2, h⟩ := pq_b h
        refine pw_ci (w1 := WM cy q th z sv sn sp bf ty gn hs) (rest := [.int x2_4]) (As := [.int x3_4, .int x1]) hF (kX4_isIn l D cy q _ th z sv sn sp bf ty gn hs x3_4 x1 r2 hr2) (cwV 2 hts (pw_gV (own := RX4) (idx := 50) (C := RX4) (y := yX4_isIn) aw_780 aw_782 aw_s31 aw_6 aw_783) rfl rfl rfl pX4_isIn ⟨Nat.le_of_ble_eq_true rfl, Nat.le_of_ble_eq_true rfl⟩) (va_recv hK hP (ci := 4) (q0 := 0) rfl rfl) hK hP hD hS hA rfl rfl hl.1 rfl (Nat.le_of_ble_eq_true rfl) dX4_manyIn_14 ⟨Nat.zero_le _, Nat.zero_le _⟩ (fun H locs hP hD hS => ?_)
        refine lv_if_eq (tgt := 24) hx hb dX4_manyIn_17 (by decide) (fun c2_ => ?_) (fun c2_ => ?_)
        · have h := pq_t c2_ h
          refine lv_iconst (v := 0) hx hb dX4_manyIn_24 (by decide) ?_
          refine lv_iadd hx hb dX4_manyIn_25 ?_
          refine lv_istore_n (lv' := [(2, .int (x2_4 + 0)), (0, .ref (q 0)), (1, .int x1), (3, .int x3_4)]) hx hb dX4_manyIn_26 rfl hl (by decide) rfl (fun ls hl => ?_)
          refine lv_iinc (v := x3_4 + 1) (lv' := [(3, .int (x3_4 + 1)), (2, .int (x2_4 + 0)), (0, .ref (q 0)), (1, .int x1)]) hx hb dX4_manyIn_27 hl (k := 3) rfl (by first | rfl | decide) (by decide) rfl (fun ls hl => ?_)
          refine lv_goto (tgt := 4) hx hb dX4_manyIn_30 (by decide) ?_
          exact ih4 (x2_4 + 0) (x3_4 + 1) _ _ _ h hP hD hS (lv_sub hl [2, 3, 1, 0] rfl)
        · have h := pq_e c2_ h
          refine lv_iconst (v := 1) hx hb dX4_manyIn_20 (by decide) ?_
          refine lv_goto (tgt := 25) hx hb dX4_manyIn_21 (by decide) ?_
          refine lv_iadd hx hb dX4_manyIn_25 ?_
          refine lv_istore_n (lv' := [(2, .int (x2_4 + 1)), (0, .ref (q 0)), (1, .int x1), (3, .int x3_4)]) hx hb dX4_manyIn_26 rfl hl (by decide) rfl (fun ls hl => ?_)
          refine lv_iinc (v := x3_4 + 1) (lv' := [(3, .int (x3_4 + 1)), (2, .int (x2_4 + 1)), (0, .ref (q 0)), (1, .int x1)]) hx hb dX4_manyIn_27 hl (k := 3) rfl (by first | rfl | decide) (by decide) rfl (fun ls hl => ?_)
          refine lv_goto (tgt := 4) hx hb dX4_manyIn_30 (by decide) ?_
          exact ih4 (x2_4 + 1) (x3_4 + 1) _ _ _ h hP hD hS (lv_sub hl [2, 3, 1, 0] rfl)
  exact L4_n1 1000 0 0 _ _ _ h hP hD hS (lv_sub hl [2, 3, 1, 0] rfl)

def aX4_connections : List Cond := Cond.code yX4_connections cX4_connections 1 (some .int) :: pw_all
theorem pX4_connections : yX4_connections.cls = RX4 ∧ yX4_connections.cls ≠ "java/lang/invoke/MethodHandle" ∧ yX4_connections.cls ≠ "java/lang/invoke/VarHandle" ∧ (parseMethodDescriptor yX4_connections.desc).map (fun d => d.parameters.length) = some 0 := by decide +kernel
set_option maxHeartbeats 8000000 in
set_option maxRecDepth 100000 in
theorem kX4_connections (l : Launch) (D : va_G) (cy : Nat → ClassId) (q : Nat → Nat) (sz : Nat) (th : Int32) (z : Nat → Int32) (sv : Nat → Int32) (sn : Int32) (sp : Nat → Int32) (bf : Nat → Int32) (ty : Int32) (gn : Nat → Int32) (hs : Int64)  (o : Int32) (h : fX4_connections z = some o) : Met l yX4_connections aX4_connections ({ frames := 3, cells := 0, slots := 0, locals := 67 }) (pw_Pre D cy [.ref (q 0)] (WM cy q th z sv sn sp bf ty gn hs) sz) (pw_I D o (WM cy q th z sv sn sp bf ty gn hs) (WM cy q th z sv sn sp bf ty gn hs) sz) 0 0 (va_A (WM cy q th z sv sn sp bf ty gn hs) sz) := by
  refine pw_met (cc := cX4_connections) (maxL := 1) (ret := (some .int)) (by decide) rfl (Nat.le_of_ble_eq_true rfl) ?_
  intro p e s m args below meth c ls A hx hb hr hml hlk hts hown hAe hA hK hP hD hS hl
  have hl : lv_has ls 1 [(0, .ref (q 0))] := hl
  generalize hQ : MQ below (pw_I D o (WM cy q th z sv sn sp bf ty gn hs) (WM cy q th z sv sn sp bf ty gn hs) sz) args s 0 0 (va_A (WM cy q th z sv sn sp bf ty gn hs) sz) = Q
  have hF : CallFix p m c cX4_connections 1 s args aX4_connections RX4 := ⟨hx, hb, hml, hown, hts⟩
  have hta : ∀ w ∈ pw_all, w.before args s = true := fun w h => hts w (List.mem_cons_of_mem _ h)
  have hin : ∀ w ∈ wsX40, w ∈ aX4_connections := fun w h => List.mem_cons_of_mem _ (inA4 w h)
  unfold fX4_connections at h
  refine lv_bipush (v := 8) hx hb dX4_connections_0 (by decide) ?_
  refine lv_aload_n hx hb dX4_connections_2 rfl (lv_at hl 0 rfl) ?_
  refine lv_iconst (v := 0) hx hb dX4_connections_3 (by decide) ?_
  obtain ⟨r1, hr1, h⟩ := pq_b h
  refine pw_ci (w1 := WM cy q th z sv sn sp bf ty gn hs) (rest := [.int 8]) (As := [.int 0]) hF (kX4_manyIn l D cy q _ th z sv sn sp bf ty gn hs 0 r1 hr1) (cwV 1 hts (pw_gV (own := RX4) (idx := 54) (C := RX4) (y := yX4_manyIn) aw_792 aw_794 aw_s34 aw_6 aw_795) rfl rfl rfl pX4_manyIn ⟨Nat.le_of_ble_eq_true rfl, Nat.le_of_ble_eq_true rfl⟩) (va_recv hK hP (ci := 4) (q0 := 0) rfl rfl) hK hP hD hS hA rfl rfl hl.1 rfl (Nat.le_of_ble_eq_true rfl) dX4_connections_4 ⟨Nat.zero_le _, Nat.zero_le _⟩ (fun H locs hP hD hS => ?_)
  refine lv_isub hx hb dX4_connections_7 ?_
  obtain rfl := Option.some.inj h
  subst hQ
  exact pw_ri hx hb hr hlk hAe hP hS rfl dX4_connections_8

def aX4_lentTo : List Cond := Cond.code yX4_lentTo cX4_lentTo 4 (some .int) :: pw_all
theorem pX4_lentTo : yX4_lentTo.cls = RX4 ∧ yX4_lentTo.cls ≠ "java/lang/invoke/MethodHandle" ∧ yX4_lentTo.cls ≠ "java/lang/invoke/VarHandle" ∧ (parseMethodDescriptor yX4_lentTo.desc).map (fun d => d.parameters.length) = some 1 := by decide +kernel
set_option maxHeartbeats 8000000 in
set_option maxRecDepth 100000 in
theorem kX4_lentTo (l : Launch) (D : va_G) (cy : Nat → ClassId) (q : Nat → Nat) (sz : Nat) (th : Int32) (z : Nat → Int32) (sv : Nat → Int32) (sn : Int32) (sp : Nat → Int32) (bf : Nat → Int32) (ty : Int32) (gn : Nat → Int32) (hs : Int64) (x1 : Int32) (o : Int32) (h : fX4_lentTo x1 z = some o) : Met l yX4_lentTo aX4_lentTo ({ frames := 1, cells := 0, slots := 0, locals := 22 }) (pw_Pre D cy [.ref (q 0), .int x1] (WM cy q th z sv sn sp bf ty gn hs) sz) (pw_I D o (WM cy q th z sv sn sp bf ty gn hs) (WM cy q th z sv sn sp bf ty gn hs) sz) 0 0 (va_A (WM cy q th z sv sn sp bf ty gn hs) sz) := by
  refine pw_met (cc := cX4_lentTo) (maxL := 4) (ret := (some .int)) (by decide) rfl (Nat.le_of_ble_eq_true rfl) ?_
  intro p e s m args below meth c ls A hx hb hr hml hlk hts hown hAe hA hK hP hD hS hl
  have hl : lv_has ls 4 [(0, .ref (q 0)), (1, .int x1)] := hl
  generalize hQ : MQ below (pw_I D o (WM cy q th z sv sn sp bf ty gn hs) (WM cy q th z sv sn sp bf ty gn hs) sz) args s 0 0 (va_A (WM cy q th z sv sn sp bf ty gn hs) sz) = Q
  have hF : CallFix p m c cX4_lentTo 4 s args aX4_lentTo RX4 := ⟨hx, hb, hml, hown, hts⟩
  have hta : ∀ w ∈ pw_all, w.before args s = true := fun w h => hts w (List.mem_cons_of_mem _ h)
  have hin : ∀ w ∈ wsX40, w ∈ aX4_lentTo := fun w h => List.mem_cons_of_mem _ (inA4 w h)
  unfold fX4_lentTo at h
  refine lv_iconst (v := 0) hx hb dX4_lentTo_0 (by decide) ?_
  refine lv_istore_n (lv' := [(2, .int 0), (0, .ref (q 0)), (1, .int x1)]) hx hb dX4_lentTo_1 rfl hl (by decide) rfl (fun ls hl => ?_)
  refine lv_iconst (v := 0) hx hb dX4_lentTo_2 (by decide) ?_
  refine lv_istore_n (lv' := [(3, .int 0), (2, .int 0), (0, .ref (q 0)), (1, .int x1)]) hx hb dX4_lentTo_3 rfl hl (by decide) rfl (fun ls hl => ?_)
  have L4_n1 : ∀ (n : Nat) (x2_4 : Int32) (x3_4 : Int32) (H : Heap) (locs : List Loc) (ls : Array Slot), fX4_lentTo_L4 x1 z n x2_4 x3_4 = some o → va_P D vwCl (WM cy q th z sv sn sp bf ty gn hs) H → va_D A (WM cy q th z sv sn sp bf ty gn hs) → va_S A s.heap H locs → lv_has ls 4 [(0, .ref (q 0)), (1, .int x1), (2, .int x2_4), (3, .int x3_4)] → W p l e ({ frames := 1, cells := 0, slots := 0, locals := 22 } : Room) s m args below meth c H locs 0 0 Q (F0 m 4 ls []) := by
    intro n
    induction n with
    | zero =>
      intro x2_4 x3_4 H locs ls h hP hD hS hl
      exact pq_n h
    | succ n ih4 =>
      intro x2_4 x3_4 H locs ls h hP hD hS hl
      rw [fX4_lentTo_L4] at h
      refine lv_iload_n hx hb dX4_lentTo_4 rfl (lv_at hl 3 rfl) ?_
      refine lv_bipush (v := 8) hx hb dX4_lentTo_5 (by decide) ?_
      refine lv_icmp_ge (tgt := 34) hx hb dX4_lentTo_7 (by decide) (fun c1_ => ?_) (fun c1_ => ?_)
      · have h := pq_t c1_ h
        refine lv_iload_n hx hb dX4_lentTo_34 rfl (lv_at hl 2 rfl) ?_
        obtain rfl := Option.some.inj h
        subst hQ
        exact pw_ri hx hb hr hlk hAe hP hS rfl dX4_lentTo_35
      · have h := pq_e c1_ h
        refine lv_iload_n hx hb dX4_lentTo_10 rfl (lv_at hl 2 rfl) ?_
        refine lv_aload_n hx hb dX4_lentTo_11 rfl (lv_at hl 0 rfl) ?_
        refine lv_iload_n hx hb dX4_lentTo_12 rfl (lv_at hl 3 rfl) ?_
        refine lv_iconst (v := 1) hx hb dX4_lentTo_13 (by decide) ?_
        obtain ⟨r2, hr2, h⟩ := pq_b h
        refine pw_ci (w1 := WM cy q th z sv sn sp bf ty gn hs) (rest := [.int x2_4]) (As := [.int x3_4, .int 1]) hF (kX4_of l D cy q _ th z sv sn sp bf ty gn hs x3_4 1 r2 hr2) (cwV 2 hts (pw_gV (own := RX4) (idx := 40) (C := RX4) (y := yX4_of) aw_768 aw_770 aw_s28 aw_6 aw_771) rfl rfl rfl pX4_of ⟨Nat.le_of_ble_eq_true rfl, Nat.le_of_ble_eq_true rfl⟩) (va_recv hK hP (ci := 4) (q0 := 0) rfl rfl) hK hP hD hS hA rfl rfl hl.1 rfl (Nat.le_of_ble_eq_true rfl) dX4_lentTo_14 ⟨Nat.zero_le _, Nat.zero_le _⟩ (fun H locs hP hD hS => ?_)
        refine lv_iload_n hx hb dX4_lentTo_17 rfl (lv_at hl 1 rfl) ?_
        refine lv_icmp_ne (tgt := 25) hx hb dX4_lentTo_18 (by decide) (fun c2_ => ?_) (fun c2_ => ?_)
        · have h := pq_e c2_ h
          refine lv_iconst (v := 0) hx hb dX4_lentTo_25 (by decide) ?_
          refine lv_iadd hx hb dX4_lentTo_26 ?_
          refine lv_istore_n (lv' := [(2, .int (x2_4 + 0)), (0, .ref (q 0)), (1, .int x1), (3, .int x3_4)]) hx hb dX4_lentTo_27 rfl hl (by decide) rfl (fun ls hl => ?_)
          refine lv_iinc (v := x3_4 + 1) (lv' := [(3, .int (x3_4 + 1)), (2, .int (x2_4 + 0)), (0, .ref (q 0)), (1, .int x1)]) hx hb dX4_lentTo_28 hl (k := 3) rfl (by first | rfl | decide) (by decide) rfl (fun ls hl => ?_)
          refine lv_goto (tgt := 4) hx hb dX4_lentTo_31 (by decide) ?_
          exact ih4 (x2_4 + 0) (x3_4 + 1) _ _ _ h hP hD hS (lv_sub hl [2, 3, 1, 0] rfl)
        · have h := pq_t c2_ h
          refine lv_iconst (v := 1) hx hb dX4_lentTo_21 (by decide) ?_
          refine lv_goto (tgt := 26) hx hb dX4_lentTo_22 (by decide) ?_
          refine lv_iadd hx hb dX4_lentTo_26 ?_
          refine lv_istore_n (lv' := [(2, .int (x2_4 + 1)), (0, .ref (q 0)), (1, .int x1), (3, .int x3_4)]) hx hb dX4_lentTo_27 rfl hl (by decide) rfl (fun ls hl => ?_)
          refine lv_iinc (v := x3_4 + 1) (lv' := [(3, .int (x3_4 + 1)), (2, .int (x2_4 + 1)), (0, .ref (q 0)), (1, .int x1)]) hx hb dX4_lentTo_28 hl (k := 3) rfl (by first | rfl | decide) (by decide) rfl (fun ls hl => ?_)
          refine lv_goto (tgt := 4) hx hb dX4_lentTo_31 (by decide) ?_
          exact ih4 (x2_4 + 1) (x3_4 + 1) _ _ _ h hP hD hS (lv_sub hl [2, 3, 1, 0] rfl)
  exact L4_n1 1000 0 0 _ _ _ h hP hD hS (lv_sub hl [2, 3, 1, 0] rfl)

def aX4_mayHaveMore : List Cond := Cond.code yX4_mayHaveMore cX4_mayHaveMore 2 (some .boolean) :: pw_all
theorem pX4_mayHaveMore : yX4_mayHaveMore.cls = RX4 ∧ yX4_mayHaveMore.cls ≠ "java/lang/invoke/MethodHandle" ∧ yX4_mayHaveMore.cls ≠ "java/lang/invoke/VarHandle" ∧ (parseMethodDescriptor yX4_mayHaveMore.desc).map (fun d => d.parameters.length) = some 1 := by decide +kernel
set_option maxHeartbeats 8000000 in
set_option maxRecDepth 100000 in
theorem kX4_mayHaveMore (l : Launch) (D : va_G) (cy : Nat → ClassId) (q : Nat → Nat) (sz : Nat) (th : Int32) (z : Nat → Int32) (sv : Nat → Int32) (sn : Int32) (sp : Nat → Int32) (bf : Nat → Int32) (ty : Int32) (gn : Nat → Int32) (hs : Int64) (x1 : Int32) (o : Int32) (h : fX4_mayHaveMore x1 z = some o) : Met l yX4_mayHaveMore aX4_mayHaveMore ({ frames := 2, cells := 0, slots := 0, locals := 45 }) (pw_Pre D cy [.ref (q 0), .int x1] (WM cy q th z sv sn sp bf ty gn hs) sz) (pw_I D o (WM cy q th z sv sn sp bf ty gn hs) (WM cy q th z sv sn sp bf ty gn hs) sz) 0 0 (va_A (WM cy q th z sv sn sp bf ty gn hs) sz) := by
  refine pw_met (cc := cX4_mayHaveMore) (maxL := 2) (ret := (some .boolean)) (by decide) rfl (Nat.le_of_ble_eq_true rfl) ?_
  intro p e s m args below meth c ls A hx hb hr hml hlk hts hown hAe hA hK hP hD hS hl
  have hl : lv_has ls 2 [(0, .ref (q 0)), (1, .int x1)] := hl
  generalize hQ : MQ below (pw_I D o (WM cy q th z sv sn sp bf ty gn hs) (WM cy q th z sv sn sp bf ty gn hs) sz) args s 0 0 (va_A (WM cy q th z sv sn sp bf ty gn hs) sz) = Q
  have hF : CallFix p m c cX4_mayHaveMore 2 s args aX4_mayHaveMore RX4 := ⟨hx, hb, hml, hown, hts⟩
  have hta : ∀ w ∈ pw_all, w.before args s = true := fun w h => hts w (List.mem_cons_of_mem _ h)
  have hin : ∀ w ∈ wsX40, w ∈ aX4_mayHaveMore := fun w h => List.mem_cons_of_mem _ (inA4 w h)
  unfold fX4_mayHaveMore at h
  refine lv_aload_n hx hb dX4_mayHaveMore_0 rfl (lv_at hl 0 rfl) ?_
  refine lv_iload_n hx hb dX4_mayHaveMore_1 rfl (lv_at hl 1 rfl) ?_
  obtain ⟨r1, hr1, h⟩ := pq_b h
  refine pw_ci (w1 := WM cy q th z sv sn sp bf ty gn hs) (rest := []) (As := [.int x1]) hF (kX4_lentTo l D cy q _ th z sv sn sp bf ty gn hs x1 r1 hr1) (cwV 1 hts (pw_gV (own := RX4) (idx := 58) (C := RX4) (y := yX4_lentTo) aw_764 aw_766 aw_s27 aw_6 aw_767) rfl rfl rfl pX4_lentTo ⟨Nat.le_of_ble_eq_true rfl, Nat.le_of_ble_eq_true rfl⟩) (va_recv hK hP (ci := 4) (q0 := 0) rfl rfl) hK hP hD hS hA rfl rfl hl.1 rfl (Nat.le_of_ble_eq_true rfl) dX4_mayHaveMore_2 ⟨Nat.zero_le _, Nat.zero_le _⟩ (fun H locs hP hD hS => ?_)
  refine lv_aload_n hx hb dX4_mayHaveMore_5 rfl (lv_at hl 0 rfl) ?_
  refine va_get (D := D) (ci := 4) (v := .ref (q 1)) (C := RX4) (T := TX4) (N := 9) hx hb hts hin hown hK hP 0 rfl rfl 1 (by decide) (hta _ aw_687) (fun _ h9 => h9) rfl dX4_mayHaveMore_6 ?_
  refine lv_iconst (v := 1) hx hb dX4_mayHaveMore_9 (by decide) ?_
  refine va_iald hx hb hK hP 1 0 rfl rfl (pq_vp (by decide +kernel)) dX4_mayHaveMore_10 ?_
  refine lv_icmp_ge (tgt := 18) hx hb dX4_mayHaveMore_11 (by decide) (fun c1_ => ?_) (fun c1_ => ?_)
  · have h := pq_t c1_ h
    refine lv_iconst (v := 0) hx hb dX4_mayHaveMore_18 (by decide) ?_
    obtain rfl := Option.some.inj h
    subst hQ
    exact pw_rz hx hb hr rfl hlk hAe hP hS rfl dX4_mayHaveMore_19
  · have h := pq_e c1_ h
    refine lv_iconst (v := 1) hx hb dX4_mayHaveMore_14 (by decide) ?_
    refine lv_goto (tgt := 19) hx hb dX4_mayHaveMore_15 (by decide) ?_
    obtain rfl := Option.some.inj h
    subst hQ
    exact pw_rz hx hb hr rfl hlk hAe hP hS rfl dX4_mayHaveMore_19

def aX4_close : List Cond := Cond.code yX4_close cX4_close 3 none :: pw_all
theorem pX4_close : yX4_close.cls = RX4 ∧ yX4_close.cls ≠ "java/lang/invoke/MethodHandle" ∧ yX4_close.cls ≠ "java/lang/invoke/VarHandle" ∧ (parseMethodDescriptor yX4_close.desc).map (fun d => d.parameters.length) = some 2 := by decide +kernel
set_option maxHeartbeats 8000000 in
set_option maxRecDepth 100000 in
theorem kX4_close (l : Launch) (D : va_G) (cy : Nat → ClassId) (q : Nat → Nat) (sz : Nat) (th : Int32) (z : Nat → Int32) (sv : Nat → Int32) (sn : Int32) (sp : Nat → Int32) (bf : Nat → Int32) (ty : Int32) (gn : Nat → Int32) (hs : Int64) (x1 : Int32) (x2 : Int32) (o : (Nat → Int32)) (h : fX4_close x1 x2 z = some o) : Met l yX4_close aX4_close ({ frames := 1, cells := 0, slots := 0, locals := 23 }) (pw_Pre D cy [.ref (q 0), .int x1, .int x2] (WM cy q th z sv sn sp bf ty gn hs) sz) (pw_V D (WM cy q th z sv sn sp bf ty gn hs) (WM cy q th o sv sn sp bf ty gn hs) sz) 0 0 (va_A (WM cy q th z sv sn sp bf ty gn hs) sz) := by
  refine pw_met (cc := cX4_close) (maxL := 3) (ret := none) (by decide) rfl (Nat.le_of_ble_eq_true rfl) ?_
  intro p e s m args below meth c ls A hx hb hr hml hlk hts hown hAe hA hK hP hD hS hl
  have hl : lv_has ls 3 [(0, .ref (q 0)), (1, .int x1), (2, .int x2)] := hl
  generalize hQ : MQ below (pw_V D (WM cy q th z sv sn sp bf ty gn hs) (WM cy q th o sv sn sp bf ty gn hs) sz) args s 0 0 (va_A (WM cy q th z sv sn sp bf ty gn hs) sz) = Q
  have hF : CallFix p m c cX4_close 3 s args aX4_close RX4 := ⟨hx, hb, hml, hown, hts⟩
  have hta : ∀ w ∈ pw_all, w.before args s = true := fun w h => hts w (List.mem_cons_of_mem _ h)
  have hin : ∀ w ∈ wsX40, w ∈ aX4_close := fun w h => List.mem_cons_of_mem _ (inA4 w h)
  unfold fX4_close at h
  refine lv_aload_n hx hb dX4_close_0 rfl (lv_at hl 0 rfl) ?_
  refine lv_iload_n hx hb dX4_close_1 rfl (lv_at hl 1 rfl) ?_
  refine lv_iconst (v := 0) hx hb dX4_close_2 (by decide) ?_
  refine lv_iconst (v := 0) hx hb dX4_close_3 (by decide) ?_
  obtain ⟨r1, hr1, h⟩ := pq_b h
  refine pw_cv (w1 := WM cy q th r1 sv sn sp bf ty gn hs) (rest := []) (As := [.int x1, .int 0, .int 0]) hF (kX4_put l D cy q _ th z sv sn sp bf ty gn hs x1 0 0 r1 hr1) (cwV 3 hts (pw_gV (own := RX4) (idx := 25) (C := RX4) (y := yX4_put) aw_678 aw_680 aw_s17 aw_6 aw_681) rfl rfl rfl pX4_put ⟨Nat.le_of_ble_eq_true rfl, Nat.le_of_ble_eq_true rfl⟩) (va_recv hK hP (ci := 4) (q0 := 0) rfl rfl) hK hP hD hS hA rfl rfl hl.1 rfl (Nat.le_of_ble_eq_true rfl) dX4_close_4 ⟨Nat.zero_le _, Nat.zero_le _⟩ (fun H locs hP hD hS => ?_)
  refine lv_aload_n hx hb dX4_close_7 rfl (lv_at hl 0 rfl) ?_
  refine lv_iload_n hx hb dX4_close_8 rfl (lv_at hl 1 rfl) ?_
  refine lv_iconst (v := 1) hx hb dX4_close_9 (by decide) ?_
  refine lv_iconst (v := (-1)) hx hb dX4_close_10 (by decide) ?_
  obtain ⟨r2, hr2, h⟩ := pq_b h
  refine pw_cv (w1 := WM cy q th r2 sv sn sp bf ty gn hs) (rest := []) (As := [.int x1, .int 1, .int (-1)]) hF (kX4_put l D cy q _ th r1 sv sn sp bf ty gn hs x1 1 (-1) r2 hr2) (cwV 3 hts (pw_gV (own := RX4) (idx := 25) (C := RX4) (y := yX4_put) aw_678 aw_680 aw_s17 aw_6 aw_681) rfl rfl rfl pX4_put ⟨Nat.le_of_ble_eq_true rfl, Nat.le_of_ble_eq_true rfl⟩) (va_recv hK hP (ci := 4) (q0 := 0) rfl rfl) hK hP hD hS hA rfl rfl hl.1 rfl (Nat.le_of_ble_eq_true rfl) dX4_close_11 ⟨Nat.zero_le _, Nat.zero_le _⟩ (fun H locs hP hD hS => ?_)
  refine lv_aload_n hx hb dX4_close_14 rfl (lv_at hl 0 rfl) ?_
  refine lv_iload_n hx hb dX4_close_15 rfl (lv_at hl 1 rfl) ?_
  refine lv_iconst (v := 2) hx hb dX4_close_16 (by decide) ?_
  refine lv_iconst (v := 0) hx hb dX4_close_17 (by decide) ?_
  obtain ⟨r3, hr3, h⟩ := pq_b h
  refine pw_cv (w1 := WM cy q th r3 sv sn sp bf ty gn hs) (rest := []) (As := [.int x1, .int 2, .int 0]) hF (kX4_put l D cy q _ th r2 sv sn sp bf ty gn hs x1 2 0 r3 hr3) (cwV 3 hts (pw_gV (own := RX4) (idx := 25) (C := RX4) (y := yX4_put) aw_678 aw_680 aw_s17 aw_6 aw_681) rfl rfl rfl pX4_put ⟨Nat.le_of_ble_eq_true rfl, Nat.le_of_ble_eq_true rfl⟩) (va_recv hK hP (ci := 4) (q0 := 0) rfl rfl) hK hP hD hS hA rfl rfl hl.1 rfl (Nat.le_of_ble_eq_true rfl) dX4_close_18 ⟨Nat.zero_le _, Nat.zero_le _⟩ (fun H locs hP hD hS => ?_)
  refine lv_aload_n hx hb dX4_close_21 rfl (lv_at hl 0 rfl) ?_
  refine lv_iload_n hx hb dX4_close_22 rfl (lv_at hl 1 rfl) ?_
  refine lv_iconst (v := 3) hx hb dX4_close_23 (by decide) ?_
  refine lv_iconst (v := 0) hx hb dX4_close_24 (by decide) ?_
  obtain ⟨r4, hr4, h⟩ := pq_b h
  refine pw_cv (w1 := WM cy q th r4 sv sn sp bf ty gn hs) (rest := []) (As := [.int x1, .int 3, .int 0]) hF (kX4_put l D cy q _ th r3 sv sn sp bf ty gn hs x1 3 0 r4 hr4) (cwV 3 hts (pw_gV (own := RX4) (idx := 25) (C := RX4) (y := yX4_put) aw_678 aw_680 aw_s17 aw_6 aw_681) rfl rfl rfl pX4_put ⟨Nat.le_of_ble_eq_true rfl, Nat.le_of_ble_eq_true rfl⟩) (va_recv hK hP (ci := 4) (q0 := 0) rfl rfl) hK hP hD hS hA rfl rfl hl.1 rfl (Nat.le_of_ble_eq_true rfl) dX4_close_25 ⟨Nat.zero_le _, Nat.zero_le _⟩ (fun H locs hP hD hS => ?_)
  refine lv_aload_n hx hb dX4_close_28 rfl (lv_at hl 0 rfl) ?_
  refine lv_iload_n hx hb dX4_close_29 rfl (lv_at hl 1 rfl) ?_
  refine lv_iconst (v := 4) hx hb dX4_close_30 (by decide) ?_
  refine lv_iconst (v := 0) hx hb dX4_close_31 (by decide) ?_
  obtain ⟨r5, hr5, h⟩ := pq_b h
  refine pw_cv (w1 := WM cy q th r5 sv sn sp bf ty gn hs) (rest := []) (As := [.int x1, .int 4, .int 0]) hF (kX4_put l D cy q _ th r4 sv sn sp bf ty gn hs x1 4 0 r5 hr5) (cwV 3 hts (pw_gV (own := RX4) (idx := 25) (C := RX4) (y := yX4_put) aw_678 aw_680 aw_s17 aw_6 aw_681) rfl rfl rfl pX4_put ⟨Nat.le_of_ble_eq_true rfl, Nat.le_of_ble_eq_true rfl⟩) (va_recv hK hP (ci := 4) (q0 := 0) rfl rfl) hK hP hD hS hA rfl rfl hl.1 rfl (Nat.le_of_ble_eq_true rfl) dX4_close_32 ⟨Nat.zero_le _, Nat.zero_le _⟩ (fun H locs hP hD hS => ?_)
  refine lv_aload_n hx hb dX4_close_35 rfl (lv_at hl 0 rfl) ?_
  refine va_get (D := D) (ci := 4) (v := .ref (q 1)) (C := RX4) (T := TX4) (N := 9) hx hb hts hin hown hK hP 0 rfl rfl 1 (by decide) (hta _ aw_687) (fun _ h9 => h9) rfl dX4_close_36 ?_
  refine lv_bipush (v := 11) hx hb dX4_close_39 (by decide) ?_
  refine lv_dup2_11 hx hb dX4_close_41 rfl rfl ?_
  refine va_iald hx hb hK hP 1 0 rfl rfl (pq_vp (by decide +kernel)) dX4_close_42 ?_
  refine lv_iconst (v := 1) hx hb dX4_close_43 (by decide) ?_
  refine lv_iadd hx hb dX4_close_44 ?_
  refine va_iast hx hb hK hP hD hS 1 0 rfl rfl (pq_vp (by decide +kernel)) dX4_close_45 (fun H locs hP hD hS => ?_)
  have hP : va_P D vwCl (WM cy q th (upd r5 (11 : Int32).toNatClampNeg ((r5 (11 : Int32).toNatClampNeg) + 1)) sv sn sp bf ty gn hs) H := hP
  have hD : va_D A (WM cy q th (upd r5 (11 : Int32).toNatClampNeg ((r5 (11 : Int32).toNatClampNeg) + 1)) sv sn sp bf ty gn hs) := hD
  refine lv_iload_n hx hb dX4_close_46 rfl (lv_at hl 2 rfl) ?_
  refine lv_iconst (v := (-1)) hx hb dX4_close_47 (by decide) ?_
  refine lv_icmp_eq (tgt := 61) hx hb dX4_close_48 (by decide) (fun c1_ => ?_) (fun c1_ => ?_)
  · have h := pq_t c1_ h
    obtain rfl := Option.some.inj h
    subst hQ
    exact pw_rv hx hb hr hlk hAe hP hS dX4_close_61
  · have h := pq_e c1_ h
    refine lv_aload_n hx hb dX4_close_51 rfl (lv_at hl 0 rfl) ?_
    refine va_get (D := D) (ci := 4) (v := .ref (q 1)) (C := RX4) (T := TX4) (N := 9) hx hb hts hin hown hK hP 0 rfl rfl 1 (by decide) (hta _ aw_687) (fun _ h9 => h9) rfl dX4_close_52 ?_
    refine lv_iload_n hx hb dX4_close_55 rfl (lv_at hl 2 rfl) ?_
    refine lv_dup2_11 hx hb dX4_close_56 rfl rfl ?_
    obtain ⟨hg, h⟩ := pq_g h
    refine va_iald hx hb hK hP 1 0 rfl rfl (pq_vp hg) dX4_close_57 ?_
    refine lv_iconst (v := 1) hx hb dX4_close_58 (by decide) ?_
    refine lv_iadd hx hb dX4_close_59 ?_
    obtain ⟨hg, h⟩ := pq_g h
    refine va_iast hx hb hK hP hD hS 1 0 rfl rfl (pq_vp hg) dX4_close_60 (fun H locs hP hD hS => ?_)
    have hP : va_P D vwCl (WM cy q th (upd (upd r5 (11 : Int32).toNatClampNeg ((r5 (11 : Int32).toNatClampNeg) + 1)) x2.toNatClampNeg (((upd r5 (11 : Int32).toNatClampNeg ((r5 (11 : Int32).toNatClampNeg) + 1)) x2.toNatClampNeg) + 1)) sv sn sp bf ty gn hs) H := hP
    have hD : va_D A (WM cy q th (upd (upd r5 (11 : Int32).toNatClampNeg ((r5 (11 : Int32).toNatClampNeg) + 1)) x2.toNatClampNeg (((upd r5 (11 : Int32).toNatClampNeg ((r5 (11 : Int32).toNatClampNeg) + 1)) x2.toNatClampNeg) + 1)) sv sn sp bf ty gn hs) := hD
    obtain rfl := Option.some.inj h
    subst hQ
    exact pw_rv hx hb hr hlk hAe hP hS dX4_close_61

def aX4_nextIdle : List Cond := Cond.code yX4_nextIdle cX4_nextIdle 4 (some .int) :: pw_all
theorem pX4_nextIdle : yX4_nextIdle.cls = RX4 ∧ yX4_nextIdle.cls ≠ "java/lang/invoke/MethodHandle" ∧ yX4_nextIdle.cls ≠ "java/lang/invoke/VarHandle" ∧ (parseMethodDescriptor yX4_nextIdle.desc).map (fun d => d.parameters.length) = some 0 := by decide +kernel
set_option maxHeartbeats 8000000 in
set_option maxRecDepth 100000 in
theorem kX4_nextIdle (l : Launch) (D : va_G) (cy : Nat → ClassId) (q : Nat → Nat) (sz : Nat) (th : Int32) (z : Nat → Int32) (sv : Nat → Int32) (sn : Int32) (sp : Nat → Int32) (bf : Nat → Int32) (ty : Int32) (gn : Nat → Int32) (hs : Int64)  (o : Int32) (h : fX4_nextIdle z = some o) : Met l yX4_nextIdle aX4_nextIdle ({ frames := 2, cells := 0, slots := 0, locals := 44 }) (pw_Pre D cy [.ref (q 0)] (WM cy q th z sv sn sp bf ty gn hs) sz) (pw_I D o (WM cy q th z sv sn sp bf ty gn hs) (WM cy q th z sv sn sp bf ty gn hs) sz) 0 0 (va_A (WM cy q th z sv sn sp bf ty gn hs) sz) := by
  refine pw_met (cc := cX4_nextIdle) (maxL := 4) (ret := (some .int)) (by decide) rfl (Nat.le_of_ble_eq_true rfl) ?_
  intro p e s m args below meth c ls A hx hb hr hml hlk hts hown hAe hA hK hP hD hS hl
  have hl : lv_has ls 4 [(0, .ref (q 0))] := hl
  generalize hQ : MQ below (pw_I D o (WM cy q th z sv sn sp bf ty gn hs) (WM cy q th z sv sn sp bf ty gn hs) sz) args s 0 0 (va_A (WM cy q th z sv sn sp bf ty gn hs) sz) = Q
  have hF : CallFix p m c cX4_nextIdle 4 s args aX4_nextIdle RX4 := ⟨hx, hb, hml, hown, hts⟩
  have hta : ∀ w ∈ pw_all, w.before args s = true := fun w h => hts w (List.mem_cons_of_mem _ h)
  have hin : ∀ w ∈ wsX40, w ∈ aX4_nextIdle := fun w h => List.mem_cons_of_mem _ (inA4 w h)
  unfold fX4_nextIdle at h
  refine lv_iconst (v := (-1)) hx hb dX4_nextIdle_0 (by decide) ?_
  refine lv_istore_n (lv' := [(1, .int (-1)), (0, .ref (q 0))]) hx hb dX4_nextIdle_1 rfl hl (by decide) rfl (fun ls hl => ?_)
  refine lv_iconst (v := 0) hx hb dX4_nextIdle_2 (by decide) ?_
  refine lv_istore_n (lv' := [(2, .int 0), (1, .int (-1)), (0, .ref (q 0))]) hx hb dX4_nextIdle_3 rfl hl (by decide) rfl (fun ls hl => ?_)
  have L4_n1 : ∀ (n : Nat) (x1_4 : Int32) (x2_4 : Int32) (H : Heap) (locs : List Loc) (ls : Array Slot), fX4_nextIdle_L4 z n x1_4 x2_4 = some o → va_P D vwCl (WM cy q th z sv sn sp bf ty gn hs) H → va_D A (WM cy q th z sv sn sp bf ty gn hs) → va_S A s.heap H locs → lv_has ls 4 [(0, .ref (q 0)), (1, .int x1_4), (2, .int x2_4)] → W p l e ({ frames := 2, cells := 0, slots := 0, locals := 44 } : Room) s m args below meth c H locs 0 0 Q (F0 m 4 ls []) := by
    intro n
    induction n with
    | zero =>
      intro x1_4 x2_4 H locs ls h hP hD hS hl
      exact pq_n h
    | succ n ih4 =>
      intro x1_4 x2_4 H locs ls h hP hD hS hl
      rw [fX4_nextIdle_L4] at h
      refine lv_iload_n hx hb dX4_nextIdle_4 rfl (lv_at hl 2 rfl) ?_
      refine lv_bipush (v := 8) hx hb dX4_nextIdle_5 (by decide) ?_
      refine lv_icmp_ge (tgt := 88) hx hb dX4_nextIdle_7 (by decide) (fun c1_ => ?_) (fun c1_ => ?_)
      · have h := pq_t c1_ h
        refine lv_iload_n hx hb dX4_nextIdle_88 rfl (lv_at hl 1 rfl) ?_
        obtain rfl := Option.some.inj h
        subst hQ
        exact pw_ri hx hb hr hlk hAe hP hS rfl dX4_nextIdle_89
      · have h := pq_e c1_ h
        refine lv_aload_n hx hb dX4_nextIdle_10 rfl (lv_at hl 0 rfl) ?_
        refine lv_iload_n hx hb dX4_nextIdle_11 rfl (lv_at hl 2 rfl) ?_
        refine lv_iconst (v := 1) hx hb dX4_nextIdle_12 (by decide) ?_
        obtain ⟨r2, hr2, h⟩ := pq_b h
        refine pw_ci (w1 := WM cy q th z sv sn sp bf ty gn hs) (rest := []) (As := [.int x2_4, .int 1]) hF (kX4_isIn l D cy q _ th z sv sn sp bf ty gn hs x2_4 1 r2 hr2) (cwV 2 hts (pw_gV (own := RX4) (idx := 50) (C := RX4) (y := yX4_isIn) aw_780 aw_782 aw_s31 aw_6 aw_783) rfl rfl rfl pX4_isIn ⟨Nat.le_of_ble_eq_true rfl, Nat.le_of_ble_eq_true rfl⟩) (va_recv hK hP (ci := 4) (q0 := 0) rfl rfl) hK hP hD hS hA rfl rfl hl.1 rfl (Nat.le_of_ble_eq_true rfl) dX4_nextIdle_13 ⟨Nat.zero_le _, Nat.zero_le _⟩ (fun H locs hP hD hS => ?_)
        refine lv_if_eq (tgt := 82) hx hb dX4_nextIdle_16 (by decide) (fun c2_ => ?_) (fun c2_ => ?_)
        · have h := pq_t c2_ h
          refine lv_iinc (v := x2_4 + 1) (lv' := [(2, .int (x2_4 + 1)), (0, .ref (q 0)), (1, .int x1_4)]) hx hb dX4_nextIdle_82 hl (k := 2) rfl (by first | rfl | decide) (by decide) rfl (fun ls hl => ?_)
          refine lv_goto (tgt := 4) hx hb dX4_nextIdle_85 (by decide) ?_
          exact ih4 x1_4 (x2_4 + 1) _ _ _ h hP hD hS (lv_sub hl [1, 2, 0] rfl)
        · have h := pq_e c2_ h
          refine lv_iload_n hx hb dX4_nextIdle_19 rfl (lv_at hl 1 rfl) ?_
          refine lv_iconst (v := (-1)) hx hb dX4_nextIdle_20 (by decide) ?_
          obtain ⟨v3, hv3, h⟩ := pq_b h
          have J71_v3 : ∀ (H : Heap) (locs : List Loc) (ls : Array Slot), va_P D vwCl (WM cy q th z sv sn sp bf ty gn hs) H → va_D A (WM cy q th z sv sn sp bf ty gn hs) → va_S A s.heap H locs → lv_has ls 4 [(0, .ref (q 0)), (1, .int x1_4), (2, .int x2_4)] → W p l e ({ frames := 2, cells := 0, slots := 0, locals := 44 } : Room) s m args below meth c H locs 0 0 Q (F0 m 71 ls [.int v3]) := by
            intro H locs ls hP hD hS hl
            refine lv_istore_n (lv' := [(3, .int v3), (0, .ref (q 0)), (1, .int x1_4), (2, .int x2_4)]) hx hb dX4_nextIdle_71 rfl hl (by decide) rfl (fun ls hl => ?_)
            refine lv_iload_n hx hb dX4_nextIdle_72 rfl (lv_at hl 0 rfl) ?_
            refine lv_if_eq (tgt := 80) hx hb dX4_nextIdle_73 (by decide) (fun c7_ => ?_) (fun c7_ => ?_)
            · have h := pq_t c7_ h
              refine lv_iload_n hx hb dX4_nextIdle_80 rfl (lv_at hl 2 rfl) ?_
              refine lv_istore_n (lv' := [(1, .int x1_4), (3, .int v3), (0, .ref (q 0)), (2, .int x2_4)]) hx hb dX4_nextIdle_81 rfl hl (by decide) rfl (fun ls hl => ?_)
              refine lv_iinc (v := x2_4 + 1) (lv' := [(2, .int (x2_4 + 1)), (1, .int x1_4), (3, .int v3), (0, .ref (q 0))]) hx hb dX4_nextIdle_82 hl (k := 3) rfl (by first | rfl | decide) (by decide) rfl (fun ls hl => ?_)
              refine lv_goto (tgt := 4) hx hb dX4_nextIdle_85 (by decide) ?_
              exact ih4 x1_4 (x2_4 + 1) _ _ _ h hP hD hS (lv_sub hl [3, 1, 0] rfl)
            · have h := pq_e c7_ h
              refine lv_iload_n hx hb dX4_nextIdle_76 rfl (lv_at hl 3 rfl) ?_
              refine lv_goto (tgt := 81) hx hb dX4_nextIdle_77 (by decide) ?_
              refine lv_istore_n (lv' := [(1, .int x2_4), (3, .int v3), (0, .ref (q 0)), (2, .int x2_4)]) hx hb dX4_nextIdle_81 rfl hl (by decide) rfl (fun ls hl => ?_)
              refine lv_iinc (v := x2_4 + 1) (lv' := [(2, .int (x2_4 + 1)), (1, .int x2_4), (3, .int v3), (0, .ref (q 0))]) hx hb dX4_nextIdle_82 hl (k := 3) rfl (by first | rfl | decide) (by decide) rfl (fun ls hl => ?_)
              refine lv_goto (tgt := 4) hx hb dX4_nextIdle_85 (by decide) ?_
              exact ih4 x2_4 (x2_4 + 1) _ _ _ h hP hD hS (lv_sub hl [3, 1, 0] rfl)
          clear h
          have h := hv3
          clear hv3
          refine lv_icmp_eq (tgt := 66) hx hb dX4_nextIdle_21 (by decide) (fun c3_ => ?_) (fun c3_ => ?_)
          · have h := pq_t c3_ h
            refine lv_iconst (v := 1) hx hb dX4_nextIdle_66 (by decide) ?_
            refine lv_goto (tgt := 71) hx hb dX4_nextIdle_67 (by decide) ?_
            obtain rfl := Option.some.inj h
            exact J71_v3 _ _ _ hP hD hS (lv_sub hl [0, 1, 2] rfl)
          · have h := pq_e c3_ h
            refine lv_aload_n hx hb dX4_nextIdle_24 rfl (lv_at hl 0 rfl) ?_
            refine va_get (D := D) (ci := 4) (v := .ref (q 1)) (C := RX4) (T := TX4) (N := 9) hx hb hts hin hown hK hP 0 rfl rfl 1 (by decide) (hta _ aw_687) (fun _ h9 => h9) rfl dX4_nextIdle_25 ?_
            refine lv_iconst (v := 3) hx hb dX4_nextIdle_28 (by decide) ?_
            refine va_iald hx hb hK hP 1 0 rfl rfl (pq_vp (by decide +kernel)) dX4_nextIdle_29 ?_
            refine lv_if_ne (tgt := 51) hx hb dX4_nextIdle_30 (by decide) (fun c4_ => ?_) (fun c4_ => ?_)
            · have h := pq_e c4_ h
              refine lv_aload_n hx hb dX4_nextIdle_51 rfl (lv_at hl 0 rfl) ?_
              refine lv_iload_n hx hb dX4_nextIdle_52 rfl (lv_at hl 2 rfl) ?_
              refine lv_iconst (v := 4) hx hb dX4_nextIdle_53 (by decide) ?_
              obtain ⟨r4, hr4, h⟩ := pq_b h
              refine pw_ci (w1 := WM cy q th z sv sn sp bf ty gn hs) (rest := []) (As := [.int x2_4, .int 4]) hF (kX4_of l D cy q _ th z sv sn sp bf ty gn hs x2_4 4 r4 hr4) (cwV 2 hts (pw_gV (own := RX4) (idx := 40) (C := RX4) (y := yX4_of) aw_768 aw_770 aw_s28 aw_6 aw_771) rfl rfl rfl pX4_of ⟨Nat.le_of_ble_eq_true rfl, Nat.le_of_ble_eq_true rfl⟩) (va_recv hK hP (ci := 4) (q0 := 0) rfl rfl) hK hP hD hS hA rfl rfl hl.1 rfl (Nat.le_of_ble_eq_true rfl) dX4_nextIdle_54 ⟨Nat.zero_le _, Nat.zero_le _⟩ (fun H locs hP hD hS => ?_)
              refine lv_aload_n hx hb dX4_nextIdle_57 rfl (lv_at hl 0 rfl) ?_
              refine lv_iload_n hx hb dX4_nextIdle_58 rfl (lv_at hl 1 rfl) ?_
              refine lv_iconst (v := 4) hx hb dX4_nextIdle_59 (by decide) ?_
              obtain ⟨r5, hr5, h⟩ := pq_b h
              refine pw_ci (w1 := WM cy q th z sv sn sp bf ty gn hs) (rest := [.int r4]) (As := [.int x1_4, .int 4]) hF (kX4_of l D cy q _ th z sv sn sp bf ty gn hs x1_4 4 r5 hr5) (cwV 2 hts (pw_gV (own := RX4) (idx := 40) (C := RX4) (y := yX4_of) aw_768 aw_770 aw_s28 aw_6 aw_771) rfl rfl rfl pX4_of ⟨Nat.le_of_ble_eq_true rfl, Nat.le_of_ble_eq_true rfl⟩) (va_recv hK hP (ci := 4) (q0 := 0) rfl rfl) hK hP hD hS hA rfl rfl hl.1 rfl (Nat.le_of_ble_eq_true rfl) dX4_nextIdle_60 ⟨Nat.zero_le _, Nat.zero_le _⟩ (fun H locs hP hD hS => ?_)
              refine lv_icmp_ge (tgt := 70) hx hb dX4_nextIdle_63 (by decide) (fun c5_ => ?_) (fun c5_ => ?_)
              · have h := pq_t c5_ h
                refine lv_iconst (v := 0) hx hb dX4_nextIdle_70 (by decide) ?_
                obtain rfl := Option.some.inj h
                exact J71_v3 _ _ _ hP hD hS (lv_sub hl [0, 1, 2] rfl)
              · have h := pq_e c5_ h
                refine lv_iconst (v := 1) hx hb dX4_nextIdle_66 (by decide) ?_
                refine lv_goto (tgt := 71) hx hb dX4_nextIdle_67 (by decide) ?_
                obtain rfl := Option.some.inj h
                exact J71_v3 _ _ _ hP hD hS (lv_sub hl [0, 1, 2] rfl)
            · have h := pq_t c4_ h
              refine lv_aload_n hx hb dX4_nextIdle_33 rfl (lv_at hl 0 rfl) ?_
              refine lv_iload_n hx hb dX4_nextIdle_34 rfl (lv_at hl 2 rfl) ?_
              refine lv_iconst (v := 4) hx hb dX4_nextIdle_35 (by decide) ?_
              obtain ⟨r6, hr6, h⟩ := pq_b h
              refine pw_ci (w1 := WM cy q th z sv sn sp bf ty gn hs) (rest := []) (As := [.int x2_4, .int 4]) hF (kX4_of l D cy q _ th z sv sn sp bf ty gn hs x2_4 4 r6 hr6) (cwV 2 hts (pw_gV (own := RX4) (idx := 40) (C := RX4) (y := yX4_of) aw_768 aw_770 aw_s28 aw_6 aw_771) rfl rfl rfl pX4_of ⟨Nat.le_of_ble_eq_true rfl, Nat.le_of_ble_eq_true rfl⟩) (va_recv hK hP (ci := 4) (q0 := 0) rfl rfl) hK hP hD hS hA rfl rfl hl.1 rfl (Nat.le_of_ble_eq_true rfl) dX4_nextIdle_36 ⟨Nat.zero_le _, Nat.zero_le _⟩ (fun H locs hP hD hS => ?_)
              refine lv_aload_n hx hb dX4_nextIdle_39 rfl (lv_at hl 0 rfl) ?_
              refine lv_iload_n hx hb dX4_nextIdle_40 rfl (lv_at hl 1 rfl) ?_
              refine lv_iconst (v := 4) hx hb dX4_nextIdle_41 (by decide) ?_
              obtain ⟨r7, hr7, h⟩ := pq_b h
              refine pw_ci (w1 := WM cy q th z sv sn sp bf ty gn hs) (rest := [.int r6]) (As := [.int x1_4, .int 4]) hF (kX4_of l D cy q _ th z sv sn sp bf ty gn hs x1_4 4 r7 hr7) (cwV 2 hts (pw_gV (own := RX4) (idx := 40) (C := RX4) (y := yX4_of) aw_768 aw_770 aw_s28 aw_6 aw_771) rfl rfl rfl pX4_of ⟨Nat.le_of_ble_eq_true rfl, Nat.le_of_ble_eq_true rfl⟩) (va_recv hK hP (ci := 4) (q0 := 0) rfl rfl) hK hP hD hS hA rfl rfl hl.1 rfl (Nat.le_of_ble_eq_true rfl) dX4_nextIdle_42 ⟨Nat.zero_le _, Nat.zero_le _⟩ (fun H locs hP hD hS => ?_)
              refine lv_icmp_le (tgt := 70) hx hb dX4_nextIdle_45 (by decide) (fun c6_ => ?_) (fun c6_ => ?_)
              · have h := pq_t c6_ h
                refine lv_iconst (v := 0) hx hb dX4_nextIdle_70 (by decide) ?_
                obtain rfl := Option.some.inj h
                exact J71_v3 _ _ _ hP hD hS (lv_sub hl [0, 1, 2] rfl)
              · have h := pq_e c6_ h
                refine lv_goto (tgt := 66) hx hb dX4_nextIdle_48 (by decide) ?_
                refine lv_iconst (v := 1) hx hb dX4_nextIdle_66 (by decide) ?_
                refine lv_goto (tgt := 71) hx hb dX4_nextIdle_67 (by decide) ?_
                obtain rfl := Option.some.inj h
                exact J71_v3 _ _ _ hP hD hS (lv_sub hl [0, 1, 2] rfl)
  exact L4_n1 1000 (-1) 0 _ _ _ h hP hD hS (lv_sub hl [2, 1, 0] rfl)

def aX4_openOne : List Cond := Cond.code yX4_openOne cX4_openOne 2 (some .int) :: pw_all
theorem pX4_openOne : yX4_openOne.cls = RX4 ∧ yX4_openOne.cls ≠ "java/lang/invoke/MethodHandle" ∧ yX4_openOne.cls ≠ "java/lang/invoke/VarHandle" ∧ (parseMethodDescriptor yX4_openOne.desc).map (fun d => d.parameters.length) = some 0 := by decide +kernel
set_option maxHeartbeats 8000000 in
set_option maxRecDepth 100000 in
theorem kX4_openOne (l : Launch) (D : va_G) (cy : Nat → ClassId) (q : Nat → Nat) (sz : Nat) (th : Int32) (z : Nat → Int32) (sv : Nat → Int32) (sn : Int32) (sp : Nat → Int32) (bf : Nat → Int32) (ty : Int32) (gn : Nat → Int32) (hs : Int64)  (o : Int32 × (Nat → Int32)) (h : fX4_openOne z = some o) : Met l yX4_openOne aX4_openOne ({ frames := 2, cells := 0, slots := 0, locals := 44 }) (pw_Pre D cy [.ref (q 0)] (WM cy q th z sv sn sp bf ty gn hs) sz) (pw_I D o.1 (WM cy q th z sv sn sp bf ty gn hs) (WM cy q th o.2 sv sn sp bf ty gn hs) sz) 0 0 (va_A (WM cy q th z sv sn sp bf ty gn hs) sz) := by
  refine pw_met (cc := cX4_openOne) (maxL := 2) (ret := (some .int)) (by decide) rfl (Nat.le_of_ble_eq_true rfl) ?_
  intro p e s m args below meth c ls A hx hb hr hml hlk hts hown hAe hA hK hP hD hS hl
  have hl : lv_has ls 2 [(0, .ref (q 0))] := hl
  generalize hQ : MQ below (pw_I D o.1 (WM cy q th z sv sn sp bf ty gn hs) (WM cy q th o.2 sv sn sp bf ty gn hs) sz) args s 0 0 (va_A (WM cy q th z sv sn sp bf ty gn hs) sz) = Q
  have hF : CallFix p m c cX4_openOne 2 s args aX4_openOne RX4 := ⟨hx, hb, hml, hown, hts⟩
  have hta : ∀ w ∈ pw_all, w.before args s = true := fun w h => hts w (List.mem_cons_of_mem _ h)
  have hin : ∀ w ∈ wsX40, w ∈ aX4_openOne := fun w h => List.mem_cons_of_mem _ (inA4 w h)
  unfold fX4_openOne at h
  refine lv_iconst (v := 0) hx hb dX4_openOne_0 (by decide) ?_
  refine lv_istore_n (lv' := [(1, .int 0), (0, .ref (q 0))]) hx hb dX4_openOne_1 rfl hl (by decide) rfl (fun ls hl => ?_)
  obtain ⟨v2, hv2, h⟩ := pq_b h
  have X17_v2 : ∀ (H : Heap) (locs : List Loc) (ls : Array Slot), va_P D vwCl (WM cy q th z sv sn sp bf ty gn hs) H → va_D A (WM cy q th z sv sn sp bf ty gn hs) → va_S A s.heap H locs → lv_has ls 2 [(0, .ref (q 0)), (1, .int v2)] → W p l e ({ frames := 2, cells := 0, slots := 0, locals := 44 } : Room) s m args below meth c H locs 0 0 Q (F0 m 17 ls []) := by
    intro H locs ls hP hD hS hl
    refine lv_aload_n hx hb dX4_openOne_17 rfl (lv_at hl 0 rfl) ?_
    refine lv_iload_n hx hb dX4_openOne_18 rfl (lv_at hl 1 rfl) ?_
    refine lv_iconst (v := 0) hx hb dX4_openOne_19 (by decide) ?_
    refine lv_iconst (v := 1) hx hb dX4_openOne_20 (by decide) ?_
    obtain ⟨r4, hr4, h⟩ := pq_b h
    refine pw_cv (w1 := WM cy q th r4 sv sn sp bf ty gn hs) (rest := []) (As := [.int v2, .int 0, .int 1]) hF (kX4_put l D cy q _ th z sv sn sp bf ty gn hs v2 0 1 r4 hr4) (cwV 3 hts (pw_gV (own := RX4) (idx := 25) (C := RX4) (y := yX4_put) aw_678 aw_680 aw_s17 aw_6 aw_681) rfl rfl rfl pX4_put ⟨Nat.le_of_ble_eq_true rfl, Nat.le_of_ble_eq_true rfl⟩) (va_recv hK hP (ci := 4) (q0 := 0) rfl rfl) hK hP hD hS hA rfl rfl hl.1 rfl (Nat.le_of_ble_eq_true rfl) dX4_openOne_21 ⟨Nat.zero_le _, Nat.zero_le _⟩ (fun H locs hP hD hS => ?_)
    refine lv_aload_n hx hb dX4_openOne_24 rfl (lv_at hl 0 rfl) ?_
    refine lv_iload_n hx hb dX4_openOne_25 rfl (lv_at hl 1 rfl) ?_
    refine lv_iconst (v := 4) hx hb dX4_openOne_26 (by decide) ?_
    refine lv_aload_n hx hb dX4_openOne_27 rfl (lv_at hl 0 rfl) ?_
    refine va_get (D := D) (ci := 4) (v := .ref (q 1)) (C := RX4) (T := TX4) (N := 9) hx hb hts hin hown hK hP 0 rfl rfl 1 (by decide) (hta _ aw_687) (fun _ h9 => h9) rfl dX4_openOne_28 ?_
    refine lv_bipush (v := 9) hx hb dX4_openOne_31 (by decide) ?_
    refine va_iald hx hb hK hP 1 0 rfl rfl (pq_vp (by decide +kernel)) dX4_openOne_33 ?_
    obtain ⟨r5, hr5, h⟩ := pq_b h
    refine pw_cv (w1 := WM cy q th r5 sv sn sp bf ty gn hs) (rest := []) (As := [.int v2, .int 4, .int (r4 (9 : Int32).toNatClampNeg)]) hF (kX4_put l D cy q _ th r4 sv sn sp bf ty gn hs v2 4 (r4 (9 : Int32).toNatClampNeg) r5 hr5) (cwV 3 hts (pw_gV (own := RX4) (idx := 25) (C := RX4) (y := yX4_put) aw_678 aw_680 aw_s17 aw_6 aw_681) rfl rfl rfl pX4_put ⟨Nat.le_of_ble_eq_true rfl, Nat.le_of_ble_eq_true rfl⟩) (va_recv hK hP (ci := 4) (q0 := 0) rfl rfl) hK hP hD hS hA rfl rfl hl.1 rfl (Nat.le_of_ble_eq_true rfl) dX4_openOne_34 ⟨Nat.zero_le _, Nat.zero_le _⟩ (fun H locs hP hD hS => ?_)
    refine lv_aload_n hx hb dX4_openOne_37 rfl (lv_at hl 0 rfl) ?_
    refine lv_iload_n hx hb dX4_openOne_38 rfl (lv_at hl 1 rfl) ?_
    refine lv_iconst (v := 5) hx hb dX4_openOne_39 (by decide) ?_
    refine lv_aload_n hx hb dX4_openOne_40 rfl (lv_at hl 0 rfl) ?_
    refine lv_iload_n hx hb dX4_openOne_41 rfl (lv_at hl 1 rfl) ?_
    refine lv_iconst (v := 5) hx hb dX4_openOne_42 (by decide) ?_
    obtain ⟨r6, hr6, h⟩ := pq_b h
    refine pw_ci (w1 := WM cy q th r5 sv sn sp bf ty gn hs) (rest := [.int 5, .int v2, .ref (q 0)]) (As := [.int v2, .int 5]) hF (kX4_of l D cy q _ th r5 sv sn sp bf ty gn hs v2 5 r6 hr6) (cwV 2 hts (pw_gV (own := RX4) (idx := 40) (C := RX4) (y := yX4_of) aw_768 aw_770 aw_s28 aw_6 aw_771) rfl rfl rfl pX4_of ⟨Nat.le_of_ble_eq_true rfl, Nat.le_of_ble_eq_true rfl⟩) (va_recv hK hP (ci := 4) (q0 := 0) rfl rfl) hK hP hD hS hA rfl rfl hl.1 rfl (Nat.le_of_ble_eq_true rfl) dX4_openOne_43 ⟨Nat.zero_le _, Nat.zero_le _⟩ (fun H locs hP hD hS => ?_)
    refine lv_iconst (v := 1) hx hb dX4_openOne_46 (by decide) ?_
    refine lv_iadd hx hb dX4_openOne_47 ?_
    obtain ⟨r7, hr7, h⟩ := pq_b h
    refine pw_cv (w1 := WM cy q th r7 sv sn sp bf ty gn hs) (rest := []) (As := [.int v2, .int 5, .int (r6 + 1)]) hF (kX4_put l D cy q _ th r5 sv sn sp bf ty gn hs v2 5 (r6 + 1) r7 hr7) (cwV 3 hts (pw_gV (own := RX4) (idx := 25) (C := RX4) (y := yX4_put) aw_678 aw_680 aw_s17 aw_6 aw_681) rfl rfl rfl pX4_put ⟨Nat.le_of_ble_eq_true rfl, Nat.le_of_ble_eq_true rfl⟩) (va_recv hK hP (ci := 4) (q0 := 0) rfl rfl) hK hP hD hS hA rfl rfl hl.1 rfl (Nat.le_of_ble_eq_true rfl) dX4_openOne_48 ⟨Nat.zero_le _, Nat.zero_le _⟩ (fun H locs hP hD hS => ?_)
    refine lv_aload_n hx hb dX4_openOne_51 rfl (lv_at hl 0 rfl) ?_
    refine va_get (D := D) (ci := 4) (v := .ref (q 1)) (C := RX4) (T := TX4) (N := 9) hx hb hts hin hown hK hP 0 rfl rfl 1 (by decide) (hta _ aw_687) (fun _ h9 => h9) rfl dX4_openOne_52 ?_
    refine lv_bipush (v := 10) hx hb dX4_openOne_55 (by decide) ?_
    refine lv_dup2_11 hx hb dX4_openOne_57 rfl rfl ?_
    refine va_iald hx hb hK hP 1 0 rfl rfl (pq_vp (by decide +kernel)) dX4_openOne_58 ?_
    refine lv_iconst (v := 1) hx hb dX4_openOne_59 (by decide) ?_
    refine lv_iadd hx hb dX4_openOne_60 ?_
    refine va_iast hx hb hK hP hD hS 1 0 rfl rfl (pq_vp (by decide +kernel)) dX4_openOne_61 (fun H locs hP hD hS => ?_)
    have hP : va_P D vwCl (WM cy q th (upd r7 (10 : Int32).toNatClampNeg ((r7 (10 : Int32).toNatClampNeg) + 1)) sv sn sp bf ty gn hs) H := hP
    have hD : va_D A (WM cy q th (upd r7 (10 : Int32).toNatClampNeg ((r7 (10 : Int32).toNatClampNeg) + 1)) sv sn sp bf ty gn hs) := hD
    refine lv_iload_n hx hb dX4_openOne_62 rfl (lv_at hl 1 rfl) ?_
    obtain rfl := Option.some.inj h
    subst hQ
    exact pw_ri hx hb hr hlk hAe hP hS rfl dX4_openOne_63
  clear h
  have L2_n1 : ∀ (n : Nat) (x1_2 : Int32) (H : Heap) (locs : List Loc) (ls : Array Slot), fX4_openOne_L2 z n x1_2 = some v2 → va_P D vwCl (WM cy q th z sv sn sp bf ty gn hs) H → va_D A (WM cy q th z sv sn sp bf ty gn hs) → va_S A s.heap H locs → lv_has ls 2 [(0, .ref (q 0)), (1, .int x1_2)] → W p l e ({ frames := 2, cells := 0, slots := 0, locals := 44 } : Room) s m args below meth c H locs 0 0 Q (F0 m 2 ls []) := by
    intro n
    induction n with
    | zero =>
      intro x1_2 H locs ls h hP hD hS hl
      exact pq_n h
    | succ n ih2 =>
      intro x1_2 H locs ls h hP hD hS hl
      rw [fX4_openOne_L2] at h
      refine lv_aload_n hx hb dX4_openOne_2 rfl (lv_at hl 0 rfl) ?_
      refine lv_iload_n hx hb dX4_openOne_3 rfl (lv_at hl 1 rfl) ?_
      refine lv_iconst (v := 0) hx hb dX4_openOne_4 (by decide) ?_
      obtain ⟨r3, hr3, h⟩ := pq_b h
      refine pw_ci (w1 := WM cy q th z sv sn sp bf ty gn hs) (rest := []) (As := [.int x1_2, .int 0]) hF (kX4_isIn l D cy q _ th z sv sn sp bf ty gn hs x1_2 0 r3 hr3) (cwV 2 hts (pw_gV (own := RX4) (idx := 50) (C := RX4) (y := yX4_isIn) aw_780 aw_782 aw_s31 aw_6 aw_783) rfl rfl rfl pX4_isIn ⟨Nat.le_of_ble_eq_true rfl, Nat.le_of_ble_eq_true rfl⟩) (va_recv hK hP (ci := 4) (q0 := 0) rfl rfl) hK hP hD hS hA rfl rfl hl.1 rfl (Nat.le_of_ble_eq_true rfl) dX4_openOne_5 ⟨Nat.zero_le _, Nat.zero_le _⟩ (fun H locs hP hD hS => ?_)
      refine lv_if_ne (tgt := 17) hx hb dX4_openOne_8 (by decide) (fun c1_ => ?_) (fun c1_ => ?_)
      · have h := pq_e c1_ h
        obtain rfl := Option.some.inj h
        exact X17_v2 _ _ _ hP hD hS (lv_sub hl [0, 1] rfl)
      · have h := pq_t c1_ h
        refine lv_iinc (v := x1_2 + 1) (lv' := [(1, .int (x1_2 + 1)), (0, .ref (q 0))]) hx hb dX4_openOne_11 hl (k := 1) rfl (by first | rfl | decide) (by decide) rfl (fun ls hl => ?_)
        refine lv_goto (tgt := 2) hx hb dX4_openOne_14 (by decide) ?_
        exact ih2 (x1_2 + 1) _ _ _ h hP hD hS (lv_sub hl [1, 0] rfl)
  have h := hv2
  exact L2_n1 1000 0 _ _ _ h hP hD hS (lv_sub hl [1, 0] rfl)

def aX4_look : List Cond := Cond.code yX4_look cX4_look 3 (some .int) :: pw_all
theorem pX4_look : yX4_look.cls = RX4 ∧ yX4_look.cls ≠ "java/lang/invoke/MethodHandle" ∧ yX4_look.cls ≠ "java/lang/invoke/VarHandle" ∧ (parseMethodDescriptor yX4_look.desc).map (fun d => d.parameters.length) = some 0 := by decide +kernel
set_option maxHeartbeats 8000000 in
set_option maxRecDepth 100000 in
theorem kX4_look (l : Launch) (D : va_G) (cy : Nat → ClassId) (q : Nat → Nat) (sz : Nat) (th : Int32) (z : Nat → Int32) (sv : Nat → Int32) (sn : Int32) (sp : Nat → Int32) (bf : Nat → Int32) (ty : Int32) (gn : Nat → Int32) (hs : Int64)  (o : Int32 × (Nat → Int32)) (h : fX4_look z = some o) : Met l yX4_look aX4_look ({ frames := 4, cells := 0, slots := 0, locals := 87 }) (pw_Pre D cy [.ref (q 0)] (WM cy q th z sv sn sp bf ty gn hs) sz) (pw_I D o.1 (WM cy q th z sv sn sp bf ty gn hs) (WM cy q th o.2 sv sn sp bf ty gn hs) sz) 0 0 (va_A (WM cy q th z sv sn sp bf ty gn hs) sz) := by
  refine pw_met (cc := cX4_look) (maxL := 3) (ret := (some .int)) (by decide) rfl (Nat.le_of_ble_eq_true rfl) ?_
  intro p e s m args below meth c ls A hx hb hr hml hlk hts hown hAe hA hK hP hD hS hl
  have hl : lv_has ls 3 [(0, .ref (q 0))] := hl
  generalize hQ : MQ below (pw_I D o.1 (WM cy q th z sv sn sp bf ty gn hs) (WM cy q th o.2 sv sn sp bf ty gn hs) sz) args s 0 0 (va_A (WM cy q th z sv sn sp bf ty gn hs) sz) = Q
  have hF : CallFix p m c cX4_look 3 s args aX4_look RX4 := ⟨hx, hb, hml, hown, hts⟩
  have hta : ∀ w ∈ pw_all, w.before args s = true := fun w h => hts w (List.mem_cons_of_mem _ h)
  have hin : ∀ w ∈ wsX40, w ∈ aX4_look := fun w h => List.mem_cons_of_mem _ (inA4 w h)
  unfold fX4_look at h
  refine lv_aload_n hx hb dX4_look_0 rfl (lv_at hl 0 rfl) ?_
  obtain ⟨r1, hr1, h⟩ := pq_b h
  refine pw_ci (w1 := WM cy q th z sv sn sp bf ty gn hs) (rest := []) (As := []) hF (kX4_nextIdle l D cy q _ th z sv sn sp bf ty gn hs  r1 hr1) (cwV 0 hts (pw_gV (own := RX4) (idx := 61) (C := RX4) (y := yX4_nextIdle) aw_776 aw_778 aw_s30 aw_6 aw_779) rfl rfl rfl pX4_nextIdle ⟨Nat.le_of_ble_eq_true rfl, Nat.le_of_ble_eq_true rfl⟩) (va_recv hK hP (ci := 4) (q0 := 0) rfl rfl) hK hP hD hS hA rfl rfl hl.1 rfl (Nat.le_of_ble_eq_true rfl) dX4_look_1 ⟨Nat.zero_le _, Nat.zero_le _⟩ (fun H locs hP hD hS => ?_)
  refine lv_istore_n (lv' := [(1, .int r1), (0, .ref (q 0))]) hx hb dX4_look_4 rfl hl (by decide) rfl (fun ls hl => ?_)
  refine lv_aload_n hx hb dX4_look_5 rfl (lv_at hl 1 rfl) ?_
  refine va_get (D := D) (ci := 4) (v := .ref (q 1)) (C := RX4) (T := TX4) (N := 9) hx hb hts hin hown hK hP 0 rfl rfl 1 (by decide) (hta _ aw_687) (fun _ h9 => h9) rfl dX4_look_6 ?_
  refine lv_iconst (v := 4) hx hb dX4_look_9 (by decide) ?_
  refine va_iald hx hb hK hP 1 0 rfl rfl (pq_vp (by decide +kernel)) dX4_look_10 ?_
  refine lv_iconst (v := 1) hx hb dX4_look_11 (by decide) ?_
  obtain ⟨v2, hv2, h⟩ := pq_b h
  have J20_v2 : ∀ (H : Heap) (locs : List Loc) (ls : Array Slot), va_P D vwCl (WM cy q th z sv sn sp bf ty gn hs) H → va_D A (WM cy q th z sv sn sp bf ty gn hs) → va_S A s.heap H locs → lv_has ls 3 [(0, .ref (q 0)), (1, .int r1)] → W p l e ({ frames := 4, cells := 0, slots := 0, locals := 87 } : Room) s m args below meth c H locs 0 0 Q (F0 m 20 ls [.int v2]) := by
    intro H locs ls hP hD hS hl
    refine lv_istore_n (lv' := [(2, .int v2), (0, .ref (q 0)), (1, .int r1)]) hx hb dX4_look_20 rfl hl (by decide) rfl (fun ls hl => ?_)
    have L21_n3 : ∀ (n : Nat) (x1_21 : Int32) (z_21 : Nat → Int32) (H : Heap) (locs : List Loc) (ls : Array Slot), fX4_look_L21 v2 n x1_21 z_21 = some o → va_P D vwCl (WM cy q th z_21 sv sn sp bf ty gn hs) H → va_D A (WM cy q th z_21 sv sn sp bf ty gn hs) → va_S A s.heap H locs → lv_has ls 3 [(0, .ref (q 0)), (1, .int x1_21), (2, .int v2)] → W p l e ({ frames := 4, cells := 0, slots := 0, locals := 87 } : Room) s m args below meth c H locs 0 0 Q (F0 m 21 ls []) := by
      intro n
      induction n with
      | zero =>
        intro x1_21 z_21 H locs ls h hP hD hS hl
        exact pq_n h
      | succ n ih21 =>
        intro x1_21 z_21 H locs ls h hP hD hS hl
        rw [fX4_look_L21] at h
        refine lv_iload_n hx hb dX4_look_21 rfl (lv_at hl 1 rfl) ?_
        refine lv_iconst (v := (-1)) hx hb dX4_look_22 (by decide) ?_
        refine lv_icmp_eq (tgt := 67) hx hb dX4_look_23 (by decide) (fun c2_ => ?_) (fun c2_ => ?_)
        · have h := pq_t c2_ h
          refine lv_iload_n hx hb dX4_look_67 rfl (lv_at hl 1 rfl) ?_
          refine lv_iconst (v := (-1)) hx hb dX4_look_68 (by decide) ?_
          refine lv_icmp_eq (tgt := 74) hx hb dX4_look_69 (by decide) (fun c3_ => ?_) (fun c3_ => ?_)
          · have h := pq_t c3_ h
            refine lv_aload_n hx hb dX4_look_74 rfl (lv_at hl 0 rfl) ?_
            obtain ⟨r4, hr4, h⟩ := pq_b h
            refine pw_ci (w1 := WM cy q th z_21 sv sn sp bf ty gn hs) (rest := []) (As := []) hF (kX4_connections l D cy q _ th z_21 sv sn sp bf ty gn hs  r4 hr4) (cwV 0 hts (pw_gV (own := RX4) (idx := 69) (C := RX4) (y := yX4_connections) aw_788 aw_790 aw_s33 aw_6 aw_791) rfl rfl rfl pX4_connections ⟨Nat.le_of_ble_eq_true rfl, Nat.le_of_ble_eq_true rfl⟩) (va_recv hK hP (ci := 4) (q0 := 0) rfl rfl) hK hP hD hS hA rfl rfl hl.1 rfl (Nat.le_of_ble_eq_true rfl) dX4_look_75 ⟨Nat.zero_le _, Nat.zero_le _⟩ (fun H locs hP hD hS => ?_)
            refine lv_aload_n hx hb dX4_look_78 rfl (lv_at hl 0 rfl) ?_
            refine va_get (D := D) (ci := 4) (v := .ref (q 1)) (C := RX4) (T := TX4) (N := 9) hx hb hts hin hown hK hP 0 rfl rfl 1 (by decide) (hta _ aw_687) (fun _ h9 => h9) rfl dX4_look_79 ?_
            refine lv_iconst (v := 0) hx hb dX4_look_82 (by decide) ?_
            refine va_iald hx hb hK hP 1 0 rfl rfl (pq_vp (by decide +kernel)) dX4_look_83 ?_
            refine lv_icmp_ge (tgt := 94) hx hb dX4_look_84 (by decide) (fun c4_ => ?_) (fun c4_ => ?_)
            · have h := pq_t c4_ h
              refine lv_iconst (v := (-1)) hx hb dX4_look_94 (by decide) ?_
              obtain rfl := Option.some.inj h
              subst hQ
              exact pw_ri hx hb hr hlk hAe hP hS rfl dX4_look_95
            · have h := pq_e c4_ h
              refine lv_aload_n hx hb dX4_look_87 rfl (lv_at hl 0 rfl) ?_
              obtain ⟨r5, hr5, h⟩ := pq_b h
              refine pw_ci (w1 := WM cy q th r5.2 sv sn sp bf ty gn hs) (rest := []) (As := []) hF (kX4_openOne l D cy q _ th z_21 sv sn sp bf ty gn hs  r5 hr5) (cwV 0 hts (pw_gV (own := RX4) (idx := 72) (C := RX4) (y := yX4_openOne) aw_796 aw_798 aw_s35 aw_6 aw_799) rfl rfl rfl pX4_openOne ⟨Nat.le_of_ble_eq_true rfl, Nat.le_of_ble_eq_true rfl⟩) (va_recv hK hP (ci := 4) (q0 := 0) rfl rfl) hK hP hD hS hA rfl rfl hl.1 rfl (Nat.le_of_ble_eq_true rfl) dX4_look_88 ⟨Nat.zero_le _, Nat.zero_le _⟩ (fun H locs hP hD hS => ?_)
              refine lv_goto (tgt := 95) hx hb dX4_look_91 (by decide) ?_
              obtain rfl := Option.some.inj h
              subst hQ
              exact pw_ri hx hb hr hlk hAe hP hS rfl dX4_look_95
          · have h := pq_e c3_ h
            refine lv_iload_n hx hb dX4_look_72 rfl (lv_at hl 1 rfl) ?_
            obtain rfl := Option.some.inj h
            subst hQ
            exact pw_ri hx hb hr hlk hAe hP hS rfl dX4_look_73
        · have h := pq_e c2_ h
          refine lv_iload_n hx hb dX4_look_26 rfl (lv_at hl 2 rfl) ?_
          refine lv_if_eq (tgt := 67) hx hb dX4_look_27 (by decide) (fun c5_ => ?_) (fun c5_ => ?_)
          · have h := pq_t c5_ h
            refine lv_iload_n hx hb dX4_look_67 rfl (lv_at hl 1 rfl) ?_
            refine lv_iconst (v := (-1)) hx hb dX4_look_68 (by decide) ?_
            refine lv_icmp_eq (tgt := 74) hx hb dX4_look_69 (by decide) (fun c6_ => ?_) (fun c6_ => ?_)
            · have h := pq_t c6_ h
              refine lv_aload_n hx hb dX4_look_74 rfl (lv_at hl 0 rfl) ?_
              obtain ⟨r6, hr6, h⟩ := pq_b h
              refine pw_ci (w1 := WM cy q th z_21 sv sn sp bf ty gn hs) (rest := []) (As := []) hF (kX4_connections l D cy q _ th z_21 sv sn sp bf ty gn hs  r6 hr6) (cwV 0 hts (pw_gV (own := RX4) (idx := 69) (C := RX4) (y := yX4_connections) aw_788 aw_790 aw_s33 aw_6 aw_791) rfl rfl rfl pX4_connections ⟨Nat.le_of_ble_eq_true rfl, Nat.le_of_ble_eq_true rfl⟩) (va_recv hK hP (ci := 4) (q0 := 0) rfl rfl) hK hP hD hS hA rfl rfl hl.1 rfl (Nat.le_of_ble_eq_true rfl) dX4_look_75 ⟨Nat.zero_le _, Nat.zero_le _⟩ (fun H locs hP hD hS => ?_)
              refine lv_aload_n hx hb dX4_look_78 rfl (lv_at hl 0 rfl) ?_
              refine va_get (D := D) (ci := 4) (v := .ref (q 1)) (C := RX4) (T := TX4) (N := 9) hx hb hts hin hown hK hP 0 rfl rfl 1 (by decide) (hta _ aw_687) (fun _ h9 => h9) rfl dX4_look_79 ?_
              refine lv_iconst (v := 0) hx hb dX4_look_82 (by decide) ?_
              refine va_iald hx hb hK hP 1 0 rfl rfl (pq_vp (by decide +kernel)) dX4_look_83 ?_
              refine lv_icmp_ge (tgt := 94) hx hb dX4_look_84 (by decide) (fun c7_ => ?_) (fun c7_ => ?_)
              · have h := pq_t c7_ h
                refine lv_iconst (v := (-1)) hx hb dX4_look_94 (by decide) ?_
                obtain rfl := Option.some.inj h
                subst hQ
                exact pw_ri hx hb hr hlk hAe hP hS rfl dX4_look_95
              · have h := pq_e c7_ h
                refine lv_aload_n hx hb dX4_look_87 rfl (lv_at hl 0 rfl) ?_
                obtain ⟨r7, hr7, h⟩ := pq_b h
                refine pw_ci (w1 := WM cy q th r7.2 sv sn sp bf ty gn hs) (rest := []) (As := []) hF (kX4_openOne l D cy q _ th z_21 sv sn sp bf ty gn hs  r7 hr7) (cwV 0 hts (pw_gV (own := RX4) (idx := 72) (C := RX4) (y := yX4_openOne) aw_796 aw_798 aw_s35 aw_6 aw_799) rfl rfl rfl pX4_openOne ⟨Nat.le_of_ble_eq_true rfl, Nat.le_of_ble_eq_true rfl⟩) (va_recv hK hP (ci := 4) (q0 := 0) rfl rfl) hK hP hD hS hA rfl rfl hl.1 rfl (Nat.le_of_ble_eq_true rfl) dX4_look_88 ⟨Nat.zero_le _, Nat.zero_le _⟩ (fun H locs hP hD hS => ?_)
                refine lv_goto (tgt := 95) hx hb dX4_look_91 (by decide) ?_
                obtain rfl := Option.some.inj h
                subst hQ
                exact pw_ri hx hb hr hlk hAe hP hS rfl dX4_look_95
            · have h := pq_e c6_ h
              refine lv_iload_n hx hb dX4_look_72 rfl (lv_at hl 1 rfl) ?_
              obtain rfl := Option.some.inj h
              subst hQ
              exact pw_ri hx hb hr hlk hAe hP hS rfl dX4_look_73
          · have h := pq_e c5_ h
            refine lv_aload_n hx hb dX4_look_30 rfl (lv_at hl 0 rfl) ?_
            refine va_get (D := D) (ci := 4) (v := .ref (q 1)) (C := RX4) (T := TX4) (N := 9) hx hb hts hin hown hK hP 0 rfl rfl 1 (by decide) (hta _ aw_687) (fun _ h9 => h9) rfl dX4_look_31 ?_
            refine lv_bipush (v := 15) hx hb dX4_look_34 (by decide) ?_
            refine lv_dup2_11 hx hb dX4_look_36 rfl rfl ?_
            refine va_iald hx hb hK hP 1 0 rfl rfl (pq_vp (by decide +kernel)) dX4_look_37 ?_
            refine lv_iconst (v := 1) hx hb dX4_look_38 (by decide) ?_
            refine lv_iadd hx hb dX4_look_39 ?_
            refine va_iast hx hb hK hP hD hS 1 0 rfl rfl (pq_vp (by decide +kernel)) dX4_look_40 (fun H locs hP hD hS => ?_)
            have hP : va_P D vwCl (WM cy q th (upd z_21 (15 : Int32).toNatClampNeg ((z_21 (15 : Int32).toNatClampNeg) + 1)) sv sn sp bf ty gn hs) H := hP
            have hD : va_D A (WM cy q th (upd z_21 (15 : Int32).toNatClampNeg ((z_21 (15 : Int32).toNatClampNeg) + 1)) sv sn sp bf ty gn hs) := hD
            refine lv_aload_n hx hb dX4_look_41 rfl (lv_at hl 0 rfl) ?_
            refine lv_iload_n hx hb dX4_look_42 rfl (lv_at hl 1 rfl) ?_
            refine lv_iconst (v := 2) hx hb dX4_look_43 (by decide) ?_
            obtain ⟨r8, hr8, h⟩ := pq_b h
            refine pw_ci (w1 := WM cy q th (upd z_21 (15 : Int32).toNatClampNeg ((z_21 (15 : Int32).toNatClampNeg) + 1)) sv sn sp bf ty gn hs) (rest := []) (As := [.int x1_21, .int 2]) hF (kX4_of l D cy q _ th (upd z_21 (15 : Int32).toNatClampNeg ((z_21 (15 : Int32).toNatClampNeg) + 1)) sv sn sp bf ty gn hs x1_21 2 r8 hr8) (cwV 2 hts (pw_gV (own := RX4) (idx := 40) (C := RX4) (y := yX4_of) aw_768 aw_770 aw_s28 aw_6 aw_771) rfl rfl rfl pX4_of ⟨Nat.le_of_ble_eq_true rfl, Nat.le_of_ble_eq_true rfl⟩) (va_recv hK hP (ci := 4) (q0 := 0) rfl rfl) hK hP hD hS hA rfl rfl hl.1 rfl (Nat.le_of_ble_eq_true rfl) dX4_look_44 ⟨Nat.zero_le _, Nat.zero_le _⟩ (fun H locs hP hD hS => ?_)
            refine lv_if_ne (tgt := 52) hx hb dX4_look_47 (by decide) (fun c8_ => ?_) (fun c8_ => ?_)
            · have h := pq_e c8_ h
              refine lv_aload_n hx hb dX4_look_52 rfl (lv_at hl 0 rfl) ?_
              refine lv_iload_n hx hb dX4_look_53 rfl (lv_at hl 1 rfl) ?_
              refine lv_bipush (v := 12) hx hb dX4_look_54 (by decide) ?_
              obtain ⟨r9, hr9, h⟩ := pq_b h
              refine pw_cv (w1 := WM cy q th r9 sv sn sp bf ty gn hs) (rest := []) (As := [.int x1_21, .int 12]) hF (kX4_close l D cy q _ th (upd z_21 (15 : Int32).toNatClampNeg ((z_21 (15 : Int32).toNatClampNeg) + 1)) sv sn sp bf ty gn hs x1_21 12 r9 hr9) (cwV 2 hts (pw_gV (own := RX4) (idx := 65) (C := RX4) (y := yX4_close) aw_784 aw_786 aw_s32 aw_6 aw_787) rfl rfl rfl pX4_close ⟨Nat.le_of_ble_eq_true rfl, Nat.le_of_ble_eq_true rfl⟩) (va_recv hK hP (ci := 4) (q0 := 0) rfl rfl) hK hP hD hS hA rfl rfl hl.1 rfl (Nat.le_of_ble_eq_true rfl) dX4_look_56 ⟨Nat.zero_le _, Nat.zero_le _⟩ (fun H locs hP hD hS => ?_)
              refine lv_aload_n hx hb dX4_look_59 rfl (lv_at hl 0 rfl) ?_
              obtain ⟨r10, hr10, h⟩ := pq_b h
              refine pw_ci (w1 := WM cy q th r9 sv sn sp bf ty gn hs) (rest := []) (As := []) hF (kX4_nextIdle l D cy q _ th r9 sv sn sp bf ty gn hs  r10 hr10) (cwV 0 hts (pw_gV (own := RX4) (idx := 61) (C := RX4) (y := yX4_nextIdle) aw_776 aw_778 aw_s30 aw_6 aw_779) rfl rfl rfl pX4_nextIdle ⟨Nat.le_of_ble_eq_true rfl, Nat.le_of_ble_eq_true rfl⟩) (va_recv hK hP (ci := 4) (q0 := 0) rfl rfl) hK hP hD hS hA rfl rfl hl.1 rfl (Nat.le_of_ble_eq_true rfl) dX4_look_60 ⟨Nat.zero_le _, Nat.zero_le _⟩ (fun H locs hP hD hS => ?_)
              refine lv_istore_n (lv' := [(1, .int r10), (0, .ref (q 0)), (2, .int v2)]) hx hb dX4_look_63 rfl hl (by decide) rfl (fun ls hl => ?_)
              refine lv_goto (tgt := 21) hx hb dX4_look_64 (by decide) ?_
              exact ih21 r10 r9 _ _ _ h hP hD hS (lv_sub hl [1, 0, 2] rfl)
            · have h := pq_t c8_ h
              refine lv_iload_n hx hb dX4_look_50 rfl (lv_at hl 1 rfl) ?_
              obtain rfl := Option.some.inj h
              subst hQ
              exact pw_ri hx hb hr hlk hAe hP hS rfl dX4_look_51
    exact L21_n3 1000 r1 z _ _ _ h hP hD hS (lv_sub hl [1, 2, 0] rfl)
  clear h
  have h := hv2
  clear hv2
  refine lv_icmp_ne (tgt := 19) hx hb dX4_look_12 (by decide) (fun c1_ => ?_) (fun c1_ => ?_)
  · have h := pq_e c1_ h
    refine lv_iconst (v := 0) hx hb dX4_look_19 (by decide) ?_
    obtain rfl := Option.some.inj h
    exact J20_v2 _ _ _ hP hD hS (lv_sub hl [1, 0] rfl)
  · have h := pq_t c1_ h
    refine lv_iconst (v := 1) hx hb dX4_look_15 (by decide) ?_
    refine lv_goto (tgt := 20) hx hb dX4_look_16 (by decide) ?_
    obtain rfl := Option.some.inj h
    exact J20_v2 _ _ _ hP hD hS (lv_sub hl [1, 0] rfl)

def aX4_lend : List Cond := Cond.code yX4_lend cX4_lend 3 none :: pw_all
theorem pX4_lend : yX4_lend.cls = RX4 ∧ yX4_lend.cls ≠ "java/lang/invoke/MethodHandle" ∧ yX4_lend.cls ≠ "java/lang/invoke/VarHandle" ∧ (parseMethodDescriptor yX4_lend.desc).map (fun d => d.parameters.length) = some 2 := by decide +kernel
set_option maxHeartbeats 8000000 in
set_option maxRecDepth 100000 in
theorem kX4_lend (l : Launch) (D : va_G) (cy : Nat → ClassId) (q : Nat → Nat) (sz : Nat) (th : Int32) (z : Nat → Int32) (sv : Nat → Int32) (sn : Int32) (sp : Nat → Int32) (bf : Nat → Int32) (ty : Int32) (gn : Nat → Int32) (hs : Int64) (x1 : Int32) (x2 : Int32) (o : (Nat → Int32) × (Nat → Int32)) (h : fX4_lend x1 x2 z gn = some o) : Met l yX4_lend aX4_lend ({ frames := 1, cells := 0, slots := 0, locals := 23 }) (pw_Pre D cy [.ref (q 0), .int x1, .int x2] (WM cy q th z sv sn sp bf ty gn hs) sz) (pw_V D (WM cy q th z sv sn sp bf ty gn hs) (WM cy q th o.1 sv sn sp bf ty o.2 hs) sz) 0 0 (va_A (WM cy q th z sv sn sp bf ty gn hs) sz) := by
  refine pw_met (cc := cX4_lend) (maxL := 3) (ret := none) (by decide) rfl (Nat.le_of_ble_eq_true rfl) ?_
  intro p e s m args below meth c ls A hx hb hr hml hlk hts hown hAe hA hK hP hD hS hl
  have hl : lv_has ls 3 [(0, .ref (q 0)), (1, .int x1), (2, .int x2)] := hl
  generalize hQ : MQ below (pw_V D (WM cy q th z sv sn sp bf ty gn hs) (WM cy q th o.1 sv sn sp bf ty o.2 hs) sz) args s 0 0 (va_A (WM cy q th z sv sn sp bf ty gn hs) sz) = Q
  have hF : CallFix p m c cX4_lend 3 s args aX4_lend RX4 := ⟨hx, hb, hml, hown, hts⟩
  have hta : ∀ w ∈ pw_all, w.before args s = true := fun w h => hts w (List.mem_cons_of_mem _ h)
  have hin : ∀ w ∈ wsX40, w ∈ aX4_lend := fun w h => List.mem_cons_of_mem _ (inA4 w h)
  unfold fX4_lend at h
  refine lv_aload_n hx hb dX4_lend_0 rfl (lv_at hl 0 rfl) ?_
  refine lv_iload_n hx hb dX4_lend_1 rfl (lv_at hl 1 rfl) ?_
  refine lv_iconst (v := 0) hx hb dX4_lend_2 (by decide) ?_
  refine lv_iconst (v := 2) hx hb dX4_lend_3 (by decide) ?_
  obtain ⟨r1, hr1, h⟩ := pq_b h
  refine pw_cv (w1 := WM cy q th r1 sv sn sp bf ty gn hs) (rest := []) (As := [.int x1, .int 0, .int 2]) hF (kX4_put l D cy q _ th z sv sn sp bf ty gn hs x1 0 2 r1 hr1) (cwV 3 hts (pw_gV (own := RX4) (idx := 25) (C := RX4) (y := yX4_put) aw_678 aw_680 aw_s17 aw_6 aw_681) rfl rfl rfl pX4_put ⟨Nat.le_of_ble_eq_true rfl, Nat.le_of_ble_eq_true rfl⟩) (va_recv hK hP (ci := 4) (q0 := 0) rfl rfl) hK hP hD hS hA rfl rfl hl.1 rfl (Nat.le_of_ble_eq_true rfl) dX4_lend_4 ⟨Nat.zero_le _, Nat.zero_le _⟩ (fun H locs hP hD hS => ?_)
  refine lv_aload_n hx hb dX4_lend_7 rfl (lv_at hl 0 rfl) ?_
  refine lv_iload_n hx hb dX4_lend_8 rfl (lv_at hl 1 rfl) ?_
  refine lv_iconst (v := 1) hx hb dX4_lend_9 (by decide) ?_
  refine lv_iload_n hx hb dX4_lend_10 rfl (lv_at hl 2 rfl) ?_
  obtain ⟨r2, hr2, h⟩ := pq_b h
  refine pw_cv (w1 := WM cy q th r2 sv sn sp bf ty gn hs) (rest := []) (As := [.int x1, .int 1, .int x2]) hF (kX4_put l D cy q _ th r1 sv sn sp bf ty gn hs x1 1 x2 r2 hr2) (cwV 3 hts (pw_gV (own := RX4) (idx := 25) (C := RX4) (y := yX4_put) aw_678 aw_680 aw_s17 aw_6 aw_681) rfl rfl rfl pX4_put ⟨Nat.le_of_ble_eq_true rfl, Nat.le_of_ble_eq_true rfl⟩) (va_recv hK hP (ci := 4) (q0 := 0) rfl rfl) hK hP hD hS hA rfl rfl hl.1 rfl (Nat.le_of_ble_eq_true rfl) dX4_lend_11 ⟨Nat.zero_le _, Nat.zero_le _⟩ (fun H locs hP hD hS => ?_)
  refine lv_aload_n hx hb dX4_lend_14 rfl (lv_at hl 0 rfl) ?_
  refine lv_iload_n hx hb dX4_lend_15 rfl (lv_at hl 1 rfl) ?_
  refine lv_iconst (v := 3) hx hb dX4_lend_16 (by decide) ?_
  refine lv_aload_n hx hb dX4_lend_17 rfl (lv_at hl 0 rfl) ?_
  refine lv_iload_n hx hb dX4_lend_18 rfl (lv_at hl 1 rfl) ?_
  refine lv_iconst (v := 3) hx hb dX4_lend_19 (by decide) ?_
  obtain ⟨r3, hr3, h⟩ := pq_b h
  refine pw_ci (w1 := WM cy q th r2 sv sn sp bf ty gn hs) (rest := [.int 3, .int x1, .ref (q 0)]) (As := [.int x1, .int 3]) hF (kX4_of l D cy q _ th r2 sv sn sp bf ty gn hs x1 3 r3 hr3) (cwV 2 hts (pw_gV (own := RX4) (idx := 40) (C := RX4) (y := yX4_of) aw_768 aw_770 aw_s28 aw_6 aw_771) rfl rfl rfl pX4_of ⟨Nat.le_of_ble_eq_true rfl, Nat.le_of_ble_eq_true rfl⟩) (va_recv hK hP (ci := 4) (q0 := 0) rfl rfl) hK hP hD hS hA rfl rfl hl.1 rfl (Nat.le_of_ble_eq_true rfl) dX4_lend_20 ⟨Nat.zero_le _, Nat.zero_le _⟩ (fun H locs hP hD hS => ?_)
  refine lv_iconst (v := 1) hx hb dX4_lend_23 (by decide) ?_
  refine lv_iadd hx hb dX4_lend_24 ?_
  obtain ⟨r4, hr4, h⟩ := pq_b h
  refine pw_cv (w1 := WM cy q th r4 sv sn sp bf ty gn hs) (rest := []) (As := [.int x1, .int 3, .int (r3 + 1)]) hF (kX4_put l D cy q _ th r2 sv sn sp bf ty gn hs x1 3 (r3 + 1) r4 hr4) (cwV 3 hts (pw_gV (own := RX4) (idx := 25) (C := RX4) (y := yX4_put) aw_678 aw_680 aw_s17 aw_6 aw_681) rfl rfl rfl pX4_put ⟨Nat.le_of_ble_eq_true rfl, Nat.le_of_ble_eq_true rfl⟩) (va_recv hK hP (ci := 4) (q0 := 0) rfl rfl) hK hP hD hS hA rfl rfl hl.1 rfl (Nat.le_of_ble_eq_true rfl) dX4_lend_25 ⟨Nat.zero_le _, Nat.zero_le _⟩ (fun H locs hP hD hS => ?_)
  refine lv_aload_n hx hb dX4_lend_28 rfl (lv_at hl 0 rfl) ?_
  refine lv_iload_n hx hb dX4_lend_29 rfl (lv_at hl 1 rfl) ?_
  refine lv_iconst (v := 4) hx hb dX4_lend_30 (by decide) ?_
  refine lv_aload_n hx hb dX4_lend_31 rfl (lv_at hl 0 rfl) ?_
  refine va_get (D := D) (ci := 4) (v := .ref (q 1)) (C := RX4) (T := TX4) (N := 9) hx hb hts hin hown hK hP 0 rfl rfl 1 (by decide) (hta _ aw_687) (fun _ h9 => h9) rfl dX4_lend_32 ?_
  refine lv_bipush (v := 9) hx hb dX4_lend_35 (by decide) ?_
  refine va_iald hx hb hK hP 1 0 rfl rfl (pq_vp (by decide +kernel)) dX4_lend_37 ?_
  obtain ⟨r5, hr5, h⟩ := pq_b h
  refine pw_cv (w1 := WM cy q th r5 sv sn sp bf ty gn hs) (rest := []) (As := [.int x1, .int 4, .int (r4 (9 : Int32).toNatClampNeg)]) hF (kX4_put l D cy q _ th r4 sv sn sp bf ty gn hs x1 4 (r4 (9 : Int32).toNatClampNeg) r5 hr5) (cwV 3 hts (pw_gV (own := RX4) (idx := 25) (C := RX4) (y := yX4_put) aw_678 aw_680 aw_s17 aw_6 aw_681) rfl rfl rfl pX4_put ⟨Nat.le_of_ble_eq_true rfl, Nat.le_of_ble_eq_true rfl⟩) (va_recv hK hP (ci := 4) (q0 := 0) rfl rfl) hK hP hD hS hA rfl rfl hl.1 rfl (Nat.le_of_ble_eq_true rfl) dX4_lend_38 ⟨Nat.zero_le _, Nat.zero_le _⟩ (fun H locs hP hD hS => ?_)
  refine lv_aload_n hx hb dX4_lend_41 rfl (lv_at hl 0 rfl) ?_
  refine va_get (D := D) (ci := 4) (v := .ref (q 1)) (C := RX4) (T := TX4) (N := 9) hx hb hts hin hown hK hP 0 rfl rfl 1 (by decide) (hta _ aw_687) (fun _ h9 => h9) rfl dX4_lend_42 ?_
  refine lv_bipush (v := 16) hx hb dX4_lend_45 (by decide) ?_
  refine lv_dup2_11 hx hb dX4_lend_47 rfl rfl ?_
  refine va_iald hx hb hK hP 1 0 rfl rfl (pq_vp (by decide +kernel)) dX4_lend_48 ?_
  refine lv_iconst (v := 1) hx hb dX4_lend_49 (by decide) ?_
  refine lv_iadd hx hb dX4_lend_50 ?_
  refine va_iast hx hb hK hP hD hS 1 0 rfl rfl (pq_vp (by decide +kernel)) dX4_lend_51 (fun H locs hP hD hS => ?_)
  have hP : va_P D vwCl (WM cy q th (upd r5 (16 : Int32).toNatClampNeg ((r5 (16 : Int32).toNatClampNeg) + 1)) sv sn sp bf ty gn hs) H := hP
  have hD : va_D A (WM cy q th (upd r5 (16 : Int32).toNatClampNeg ((r5 (16 : Int32).toNatClampNeg) + 1)) sv sn sp bf ty gn hs) := hD
  refine lv_aload_n hx hb dX4_lend_52 rfl (lv_at hl 0 rfl) ?_
  refine lv_iload_n hx hb dX4_lend_53 rfl (lv_at hl 2 rfl) ?_
  refine lv_iconst (v := 2) hx hb dX4_lend_54 (by decide) ?_
  refine lv_aload_n hx hb dX4_lend_55 rfl (lv_at hl 0 rfl) ?_
  refine lv_iload_n hx hb dX4_lend_56 rfl (lv_at hl 2 rfl) ?_
  refine lv_iconst (v := 2) hx hb dX4_lend_57 (by decide) ?_
  obtain ⟨r6, hr6, h⟩ := pq_b h
  refine pw_ci (w1 := WM cy q th (upd r5 (16 : Int32).toNatClampNeg ((r5 (16 : Int32).toNatClampNeg) + 1)) sv sn sp bf ty gn hs) (rest := [.int 2, .int x2, .ref (q 0)]) (As := [.int x2, .int 2]) hF (kX4_its l D cy q _ th (upd r5 (16 : Int32).toNatClampNeg ((r5 (16 : Int32).toNatClampNeg) + 1)) sv sn sp bf ty gn hs x2 2 r6 hr6) (cwV 2 hts (pw_gV (own := RX4) (idx := 44) (C := RX4) (y := yX4_its) aw_740 aw_742 aw_s21 aw_6 aw_743) rfl rfl rfl pX4_its ⟨Nat.le_of_ble_eq_true rfl, Nat.le_of_ble_eq_true rfl⟩) (va_recv hK hP (ci := 4) (q0 := 0) rfl rfl) hK hP hD hS hA rfl rfl hl.1 rfl (Nat.le_of_ble_eq_true rfl) dX4_lend_58 ⟨Nat.zero_le _, Nat.zero_le _⟩ (fun H locs hP hD hS => ?_)
  refine lv_iconst (v := 1) hx hb dX4_lend_61 (by decide) ?_
  refine lv_iadd hx hb dX4_lend_62 ?_
  obtain ⟨r7, hr7, h⟩ := pq_b h
  refine pw_cv (w1 := WM cy q th r7 sv sn sp bf ty gn hs) (rest := []) (As := [.int x2, .int 2, .int (r6 + 1)]) hF (kX4_lay l D cy q _ th (upd r5 (16 : Int32).toNatClampNeg ((r5 (16 : Int32).toNatClampNeg) + 1)) sv sn sp bf ty gn hs x2 2 (r6 + 1) r7 hr7) (cwV 3 hts (pw_gV (own := RX4) (idx := 29) (C := RX4) (y := yX4_lay) aw_682 aw_684 aw_s18 aw_6 aw_685) rfl rfl rfl pX4_lay ⟨Nat.le_of_ble_eq_true rfl, Nat.le_of_ble_eq_true rfl⟩) (va_recv hK hP (ci := 4) (q0 := 0) rfl rfl) hK hP hD hS hA rfl rfl hl.1 rfl (Nat.le_of_ble_eq_true rfl) dX4_lend_63 ⟨Nat.zero_le _, Nat.zero_le _⟩ (fun H locs hP hD hS => ?_)
  refine lv_aload_n hx hb dX4_lend_66 rfl (lv_at hl 0 rfl) ?_
  refine va_get (D := D) (ci := 4) (v := .ref (q 7)) (C := RX4) (T := TX4) (N := 9) hx hb hts hin hown hK hP 0 rfl rfl 7 (by decide) (hta _ aw_693) (fun _ h9 => h9) rfl dX4_lend_67 ?_
  refine lv_iload_n hx hb dX4_lend_70 rfl (lv_at hl 2 rfl) ?_
  refine lv_iload_n hx hb dX4_lend_71 rfl (lv_at hl 1 rfl) ?_
  obtain ⟨hg, h⟩ := pq_g h
  refine va_iast hx hb hK hP hD hS 5 0 rfl rfl (pq_vp hg) dX4_lend_72 (fun H locs hP hD hS => ?_)
  have hP : va_P D vwCl (WM cy q th r7 sv sn sp bf ty (upd gn x2.toNatClampNeg x1) hs) H := hP
  have hD : va_D A (WM cy q th r7 sv sn sp bf ty (upd gn x2.toNatClampNeg x1) hs) := hD
  obtain rfl := Option.some.inj h
  subst hQ
  exact pw_rv hx hb hr hlk hAe hP hS dX4_lend_73

def aX4_placeInQueue : List Cond := Cond.code yX4_placeInQueue cX4_placeInQueue 3 (some .int) :: pw_all
theorem pX4_placeInQueue : yX4_placeInQueue.cls = RX4 ∧ yX4_placeInQueue.cls ≠ "java/lang/invoke/MethodHandle" ∧ yX4_placeInQueue.cls ≠ "java/lang/invoke/VarHandle" ∧ (parseMethodDescriptor yX4_placeInQueue.desc).map (fun d => d.parameters.length) = some 1 := by decide +kernel
set_option maxHeartbeats 8000000 in
set_option maxRecDepth 100000 in
theorem kX4_placeInQueue (l : Launch) (D : va_G) (cy : Nat → ClassId) (q : Nat → Nat) (sz : Nat) (th : Int32) (z : Nat → Int32) (sv : Nat → Int32) (sn : Int32) (sp : Nat → Int32) (bf : Nat → Int32) (ty : Int32) (gn : Nat → Int32) (hs : Int64) (x1 : Int32) (o : Int32) (h : fX4_placeInQueue x1 z = some o) : Met l yX4_placeInQueue aX4_placeInQueue ({ frames := 0, cells := 0, slots := 0, locals := 0 }) (pw_Pre D cy [.ref (q 0), .int x1] (WM cy q th z sv sn sp bf ty gn hs) sz) (pw_I D o (WM cy q th z sv sn sp bf ty gn hs) (WM cy q th z sv sn sp bf ty gn hs) sz) 0 0 (va_A (WM cy q th z sv sn sp bf ty gn hs) sz) := by
  refine pw_met (cc := cX4_placeInQueue) (maxL := 3) (ret := (some .int)) (by decide) rfl (Nat.le_of_ble_eq_true rfl) ?_
  intro p e s m args below meth c ls A hx hb hr hml hlk hts hown hAe hA hK hP hD hS hl
  have hl : lv_has ls 3 [(0, .ref (q 0)), (1, .int x1)] := hl
  generalize hQ : MQ below (pw_I D o (WM cy q th z sv sn sp bf ty gn hs) (WM cy q th z sv sn sp bf ty gn hs) sz) args s 0 0 (va_A (WM cy q th z sv sn sp bf ty gn hs) sz) = Q
  have hF : CallFix p m c cX4_placeInQueue 3 s args aX4_placeInQueue RX4 := ⟨hx, hb, hml, hown, hts⟩
  have hta : ∀ w ∈ pw_all, w.before args s = true := fun w h => hts w (List.mem_cons_of_mem _ h)
  have hin : ∀ w ∈ wsX40, w ∈ aX4_placeInQueue := fun w h => List.mem_cons_of_mem _ (inA4 w h)
  unfold fX4_placeInQueue at h
  refine lv_iconst (v := 0) hx hb dX4_placeInQueue_0 (by decide) ?_
  refine lv_istore_n (lv' := [(2, .int 0), (0, .ref (q 0)), (1, .int x1)]) hx hb dX4_placeInQueue_1 rfl hl (by decide) rfl (fun ls hl => ?_)
  have L2_n1 : ∀ (n : Nat) (x2_2 : Int32) (H : Heap) (locs : List Loc) (ls : Array Slot), fX4_placeInQueue_L2 x1 z n x2_2 = some o → va_P D vwCl (WM cy q th z sv sn sp bf ty gn hs) H → va_D A (WM cy q th z sv sn sp bf ty gn hs) → va_S A s.heap H locs → lv_has ls 3 [(0, .ref (q 0)), (1, .int x1), (2, .int x2_2)] → W p l e ({ frames := 0, cells := 0, slots := 0, locals := 0 } : Room) s m args below meth c H locs 0 0 Q (F0 m 2 ls []) := by
    intro n
    induction n with
    | zero =>
      intro x2_2 H locs ls h hP hD hS hl
      exact pq_n h
    | succ n ih2 =>
      intro x2_2 H locs ls h hP hD hS hl
      rw [fX4_placeInQueue_L2] at h
      refine lv_iload_n hx hb dX4_placeInQueue_2 rfl (lv_at hl 2 rfl) ?_
      refine lv_aload_n hx hb dX4_placeInQueue_3 rfl (lv_at hl 0 rfl) ?_
      refine va_get (D := D) (ci := 4) (v := .ref (q 1)) (C := RX4) (T := TX4) (N := 9) hx hb hts hin hown hK hP 0 rfl rfl 1 (by decide) (hta _ aw_687) (fun _ h9 => h9) rfl dX4_placeInQueue_4 ?_
      refine lv_bipush (v := 17) hx hb dX4_placeInQueue_7 (by decide) ?_
      refine va_iald hx hb hK hP 1 0 rfl rfl (pq_vp (by decide +kernel)) dX4_placeInQueue_9 ?_
      refine lv_icmp_ge (tgt := 34) hx hb dX4_placeInQueue_10 (by decide) (fun c1_ => ?_) (fun c1_ => ?_)
      · have h := pq_t c1_ h
        refine lv_iconst (v := (-1)) hx hb dX4_placeInQueue_34 (by decide) ?_
        obtain rfl := Option.some.inj h
        subst hQ
        exact pw_ri hx hb hr hlk hAe hP hS rfl dX4_placeInQueue_35
      · have h := pq_e c1_ h
        refine lv_aload_n hx hb dX4_placeInQueue_13 rfl (lv_at hl 0 rfl) ?_
        refine va_get (D := D) (ci := 4) (v := .ref (q 1)) (C := RX4) (T := TX4) (N := 9) hx hb hts hin hown hK hP 0 rfl rfl 1 (by decide) (hta _ aw_687) (fun _ h9 => h9) rfl dX4_placeInQueue_14 ?_
        refine lv_bipush (v := 18) hx hb dX4_placeInQueue_17 (by decide) ?_
        refine lv_iload_n hx hb dX4_placeInQueue_19 rfl (lv_at hl 2 rfl) ?_
        refine lv_iadd hx hb dX4_placeInQueue_20 ?_
        obtain ⟨hg, h⟩ := pq_g h
        refine va_iald hx hb hK hP 1 0 rfl rfl (pq_vp hg) dX4_placeInQueue_21 ?_
        refine lv_iload_n hx hb dX4_placeInQueue_22 rfl (lv_at hl 1 rfl) ?_
        refine lv_icmp_ne (tgt := 28) hx hb dX4_placeInQueue_23 (by decide) (fun c2_ => ?_) (fun c2_ => ?_)
        · have h := pq_e c2_ h
          refine lv_iinc (v := x2_2 + 1) (lv' := [(2, .int (x2_2 + 1)), (0, .ref (q 0)), (1, .int x1)]) hx hb dX4_placeInQueue_28 hl (k := 2) rfl (by first | rfl | decide) (by decide) rfl (fun ls hl => ?_)
          refine lv_goto (tgt := 2) hx hb dX4_placeInQueue_31 (by decide) ?_
          exact ih2 (x2_2 + 1) _ _ _ h hP hD hS (lv_sub hl [1, 2, 0] rfl)
        · have h := pq_t c2_ h
          refine lv_iload_n hx hb dX4_placeInQueue_26 rfl (lv_at hl 2 rfl) ?_
          obtain rfl := Option.some.inj h
          subst hQ
          exact pw_ri hx hb hr hlk hAe hP hS rfl dX4_placeInQueue_27
  exact L2_n1 1000 0 _ _ _ h hP hD hS (lv_sub hl [1, 2, 0] rfl)

def aX4_waits : List Cond := Cond.code yX4_waits cX4_waits 2 (some .boolean) :: pw_all
theorem pX4_waits : yX4_waits.cls = RX4 ∧ yX4_waits.cls ≠ "java/lang/invoke/MethodHandle" ∧ yX4_waits.cls ≠ "java/lang/invoke/VarHandle" ∧ (parseMethodDescriptor yX4_waits.desc).map (fun d => d.parameters.length) = some 1 := by decide +kernel
set_option maxHeartbeats 8000000 in
set_option maxRecDepth 100000 in
theorem kX4_waits (l : Launch) (D : va_G) (cy : Nat → ClassId) (q : Nat → Nat) (sz : Nat) (th : Int32) (z : Nat → Int32) (sv : Nat → Int32) (sn : Int32) (sp : Nat → Int32) (bf : Nat → Int32) (ty : Int32) (gn : Nat → Int32) (hs : Int64) (x1 : Int32) (o : Int32) (h : fX4_waits x1 z = some o) : Met l yX4_waits aX4_waits ({ frames := 1, cells := 0, slots := 0, locals := 22 }) (pw_Pre D cy [.ref (q 0), .int x1] (WM cy q th z sv sn sp bf ty gn hs) sz) (pw_I D o (WM cy q th z sv sn sp bf ty gn hs) (WM cy q th z sv sn sp bf ty gn hs) sz) 0 0 (va_A (WM cy q th z sv sn sp bf ty gn hs) sz) := by
  refine pw_met (cc := cX4_waits) (maxL := 2) (ret := (some .boolean)) (by decide) rfl (Nat.le_of_ble_eq_true rfl) ?_
  intro p e s m args below meth c ls A hx hb hr hml hlk hts hown hAe hA hK hP hD hS hl
  have hl : lv_has ls 2 [(0, .ref (q 0)), (1, .int x1)] := hl
  generalize hQ : MQ below (pw_I D o (WM cy q th z sv sn sp bf ty gn hs) (WM cy q th z sv sn sp bf ty gn hs) sz) args s 0 0 (va_A (WM cy q th z sv sn sp bf ty gn hs) sz) = Q
  have hF : CallFix p m c cX4_waits 2 s args aX4_waits RX4 := ⟨hx, hb, hml, hown, hts⟩
  have hta : ∀ w ∈ pw_all, w.before args s = true := fun w h => hts w (List.mem_cons_of_mem _ h)
  have hin : ∀ w ∈ wsX40, w ∈ aX4_waits := fun w h => List.mem_cons_of_mem _ (inA4 w h)
  unfold fX4_waits at h
  refine lv_aload_n hx hb dX4_waits_0 rfl (lv_at hl 0 rfl) ?_
  refine lv_iload_n hx hb dX4_waits_1 rfl (lv_at hl 1 rfl) ?_
  obtain ⟨r1, hr1, h⟩ := pq_b h
  refine pw_ci (w1 := WM cy q th z sv sn sp bf ty gn hs) (rest := []) (As := [.int x1]) hF (kX4_placeInQueue l D cy q _ th z sv sn sp bf ty gn hs x1 r1 hr1) (cwV 1 hts (pw_gV (own := RX4) (idx := 75) (C := RX4) (y := yX4_placeInQueue) aw_748 aw_750 aw_s23 aw_6 aw_751) rfl rfl rfl pX4_placeInQueue ⟨Nat.le_of_ble_eq_true rfl, Nat.le_of_ble_eq_true rfl⟩) (va_recv hK hP (ci := 4) (q0 := 0) rfl rfl) hK hP hD hS hA rfl rfl hl.1 rfl (Nat.le_of_ble_eq_true rfl) dX4_waits_2 ⟨Nat.zero_le _, Nat.zero_le _⟩ (fun H locs hP hD hS => ?_)
  refine lv_iconst (v := (-1)) hx hb dX4_waits_5 (by decide) ?_
  refine lv_icmp_eq (tgt := 13) hx hb dX4_waits_6 (by decide) (fun c1_ => ?_) (fun c1_ => ?_)
  · have h := pq_t c1_ h
    refine lv_iconst (v := 0) hx hb dX4_waits_13 (by decide) ?_
    obtain rfl := Option.some.inj h
    subst hQ
    exact pw_rz hx hb hr rfl hlk hAe hP hS rfl dX4_waits_14
  · have h := pq_e c1_ h
    refine lv_iconst (v := 1) hx hb dX4_waits_9 (by decide) ?_
    refine lv_goto (tgt := 14) hx hb dX4_waits_10 (by decide) ?_
    obtain rfl := Option.some.inj h
    subst hQ
    exact pw_rz hx hb hr rfl hlk hAe hP hS rfl dX4_waits_14

def aX4_waitedFor : List Cond := Cond.code yX4_waitedFor cX4_waitedFor 2 (some .int) :: pw_all
theorem pX4_waitedFor : yX4_waitedFor.cls = RX4 ∧ yX4_waitedFor.cls ≠ "java/lang/invoke/MethodHandle" ∧ yX4_waitedFor.cls ≠ "java/lang/invoke/VarHandle" ∧ (parseMethodDescriptor yX4_waitedFor.desc).map (fun d => d.parameters.length) = some 1 := by decide +kernel
set_option maxHeartbeats 8000000 in
set_option maxRecDepth 100000 in
theorem kX4_waitedFor (l : Launch) (D : va_G) (cy : Nat → ClassId) (q : Nat → Nat) (sz : Nat) (th : Int32) (z : Nat → Int32) (sv : Nat → Int32) (sn : Int32) (sp : Nat → Int32) (bf : Nat → Int32) (ty : Int32) (gn : Nat → Int32) (hs : Int64) (x1 : Int32) (o : Int32) (h : fX4_waitedFor x1 z = some o) : Met l yX4_waitedFor aX4_waitedFor ({ frames := 1, cells := 0, slots := 0, locals := 22 }) (pw_Pre D cy [.ref (q 0), .int x1] (WM cy q th z sv sn sp bf ty gn hs) sz) (pw_I D o (WM cy q th z sv sn sp bf ty gn hs) (WM cy q th z sv sn sp bf ty gn hs) sz) 0 0 (va_A (WM cy q th z sv sn sp bf ty gn hs) sz) := by
  refine pw_met (cc := cX4_waitedFor) (maxL := 2) (ret := (some .int)) (by decide) rfl (Nat.le_of_ble_eq_true rfl) ?_
  intro p e s m args below meth c ls A hx hb hr hml hlk hts hown hAe hA hK hP hD hS hl
  have hl : lv_has ls 2 [(0, .ref (q 0)), (1, .int x1)] := hl
  generalize hQ : MQ below (pw_I D o (WM cy q th z sv sn sp bf ty gn hs) (WM cy q th z sv sn sp bf ty gn hs) sz) args s 0 0 (va_A (WM cy q th z sv sn sp bf ty gn hs) sz) = Q
  have hF : CallFix p m c cX4_waitedFor 2 s args aX4_waitedFor RX4 := ⟨hx, hb, hml, hown, hts⟩
  have hta : ∀ w ∈ pw_all, w.before args s = true := fun w h => hts w (List.mem_cons_of_mem _ h)
  have hin : ∀ w ∈ wsX40, w ∈ aX4_waitedFor := fun w h => List.mem_cons_of_mem _ (inA4 w h)
  unfold fX4_waitedFor at h
  refine lv_aload_n hx hb dX4_waitedFor_0 rfl (lv_at hl 0 rfl) ?_
  refine va_get (D := D) (ci := 4) (v := .ref (q 1)) (C := RX4) (T := TX4) (N := 9) hx hb hts hin hown hK hP 0 rfl rfl 1 (by decide) (hta _ aw_687) (fun _ h9 => h9) rfl dX4_waitedFor_1 ?_
  refine lv_bipush (v := 9) hx hb dX4_waitedFor_4 (by decide) ?_
  refine va_iald hx hb hK hP 1 0 rfl rfl (pq_vp (by decide +kernel)) dX4_waitedFor_6 ?_
  refine lv_aload_n hx hb dX4_waitedFor_7 rfl (lv_at hl 0 rfl) ?_
  refine lv_iload_n hx hb dX4_waitedFor_8 rfl (lv_at hl 1 rfl) ?_
  refine lv_iconst (v := 1) hx hb dX4_waitedFor_9 (by decide) ?_
  obtain ⟨r1, hr1, h⟩ := pq_b h
  refine pw_ci (w1 := WM cy q th z sv sn sp bf ty gn hs) (rest := [.int (z (9 : Int32).toNatClampNeg)]) (As := [.int x1, .int 1]) hF (kX4_its l D cy q _ th z sv sn sp bf ty gn hs x1 1 r1 hr1) (cwV 2 hts (pw_gV (own := RX4) (idx := 44) (C := RX4) (y := yX4_its) aw_740 aw_742 aw_s21 aw_6 aw_743) rfl rfl rfl pX4_its ⟨Nat.le_of_ble_eq_true rfl, Nat.le_of_ble_eq_true rfl⟩) (va_recv hK hP (ci := 4) (q0 := 0) rfl rfl) hK hP hD hS hA rfl rfl hl.1 rfl (Nat.le_of_ble_eq_true rfl) dX4_waitedFor_10 ⟨Nat.zero_le _, Nat.zero_le _⟩ (fun H locs hP hD hS => ?_)
  refine lv_isub hx hb dX4_waitedFor_13 ?_
  obtain rfl := Option.some.inj h
  subst hQ
  exact pw_ri hx hb hr hlk hAe hP hS rfl dX4_waitedFor_14

def aX4_leaveQueue : List Cond := Cond.code yX4_leaveQueue cX4_leaveQueue 3 none :: pw_all
theorem pX4_leaveQueue : yX4_leaveQueue.cls = RX4 ∧ yX4_leaveQueue.cls ≠ "java/lang/invoke/MethodHandle" ∧ yX4_leaveQueue.cls ≠ "java/lang/invoke/VarHandle" ∧ (parseMethodDescriptor yX4_leaveQueue.desc).map (fun d => d.parameters.length) = some 1 := by decide +kernel
set_option maxHeartbeats 8000000 in
set_option maxRecDepth 100000 in
theorem kX4_leaveQueue (l : Launch) (D : va_G) (cy : Nat → ClassId) (q : Nat → Nat) (sz : Nat) (th : Int32) (z : Nat → Int32) (sv : Nat → Int32) (sn : Int32) (sp : Nat → Int32) (bf : Nat → Int32) (ty : Int32) (gn : Nat → Int32) (hs : Int64) (x1 : Int32) (o : (Nat → Int32)) (h : fX4_leaveQueue x1 z = some o) : Met l yX4_leaveQueue aX4_leaveQueue ({ frames := 1, cells := 0, slots := 0, locals := 22 }) (pw_Pre D cy [.ref (q 0), .int x1] (WM cy q th z sv sn sp bf ty gn hs) sz) (pw_V D (WM cy q th z sv sn sp bf ty gn hs) (WM cy q th o sv sn sp bf ty gn hs) sz) 0 0 (va_A (WM cy q th z sv sn sp bf ty gn hs) sz) := by
  refine pw_met (cc := cX4_leaveQueue) (maxL := 3) (ret := none) (by decide) rfl (Nat.le_of_ble_eq_true rfl) ?_
  intro p e s m args below meth c ls A hx hb hr hml hlk hts hown hAe hA hK hP hD hS hl
  have hl : lv_has ls 3 [(0, .ref (q 0)), (1, .int x1)] := hl
  generalize hQ : MQ below (pw_V D (WM cy q th z sv sn sp bf ty gn hs) (WM cy q th o sv sn sp bf ty gn hs) sz) args s 0 0 (va_A (WM cy q th z sv sn sp bf ty gn hs) sz) = Q
  have hF : CallFix p m c cX4_leaveQueue 3 s args aX4_leaveQueue RX4 := ⟨hx, hb, hml, hown, hts⟩
  have hta : ∀ w ∈ pw_all, w.before args s = true := fun w h => hts w (List.mem_cons_of_mem _ h)
  have hin : ∀ w ∈ wsX40, w ∈ aX4_leaveQueue := fun w h => List.mem_cons_of_mem _ (inA4 w h)
  unfold fX4_leaveQueue at h
  refine lv_aload_n hx hb dX4_leaveQueue_0 rfl (lv_at hl 0 rfl) ?_
  refine lv_iload_n hx hb dX4_leaveQueue_1 rfl (lv_at hl 1 rfl) ?_
  obtain ⟨r1, hr1, h⟩ := pq_b h
  refine pw_ci (w1 := WM cy q th z sv sn sp bf ty gn hs) (rest := []) (As := [.int x1]) hF (kX4_placeInQueue l D cy q _ th z sv sn sp bf ty gn hs x1 r1 hr1) (cwV 1 hts (pw_gV (own := RX4) (idx := 75) (C := RX4) (y := yX4_placeInQueue) aw_748 aw_750 aw_s23 aw_6 aw_751) rfl rfl rfl pX4_placeInQueue ⟨Nat.le_of_ble_eq_true rfl, Nat.le_of_ble_eq_true rfl⟩) (va_recv hK hP (ci := 4) (q0 := 0) rfl rfl) hK hP hD hS hA rfl rfl hl.1 rfl (Nat.le_of_ble_eq_true rfl) dX4_leaveQueue_2 ⟨Nat.zero_le _, Nat.zero_le _⟩ (fun H locs hP hD hS => ?_)
  refine lv_istore_n (lv' := [(2, .int r1), (0, .ref (q 0)), (1, .int x1)]) hx hb dX4_leaveQueue_5 rfl hl (by decide) rfl (fun ls hl => ?_)
  refine lv_aload_n hx hb dX4_leaveQueue_6 rfl (lv_at hl 1 rfl) ?_
  refine va_get (D := D) (ci := 4) (v := .ref (q 1)) (C := RX4) (T := TX4) (N := 9) hx hb hts hin hown hK hP 0 rfl rfl 1 (by decide) (hta _ aw_687) (fun _ h9 => h9) rfl dX4_leaveQueue_7 ?_
  refine lv_bipush (v := 17) hx hb dX4_leaveQueue_10 (by decide) ?_
  refine lv_dup2_11 hx hb dX4_leaveQueue_12 rfl rfl ?_
  refine va_iald hx hb hK hP 1 0 rfl rfl (pq_vp (by decide +kernel)) dX4_leaveQueue_13 ?_
  refine lv_iconst (v := 1) hx hb dX4_leaveQueue_14 (by decide) ?_
  refine lv_isub hx hb dX4_leaveQueue_15 ?_
  refine va_iast hx hb hK hP hD hS 1 0 rfl rfl (pq_vp (by decide +kernel)) dX4_leaveQueue_16 (fun H locs hP hD hS => ?_)
  have hP : va_P D vwCl (WM cy q th (upd z (17 : Int32).toNatClampNeg ((z (17 : Int32).toNatClampNeg) - 1)) sv sn sp bf ty gn hs) H := hP
  have hD : va_D A (WM cy q th (upd z (17 : Int32).toNatClampNeg ((z (17 : Int32).toNatClampNeg) - 1)) sv sn sp bf ty gn hs) := hD
  obtain ⟨v3, hv3, h⟩ := pq_b h
  have X54_v3 : ∀ (H : Heap) (locs : List Loc) (ls : Array Slot), va_P D vwCl (WM cy q th v3 sv sn sp bf ty gn hs) H → va_D A (WM cy q th v3 sv sn sp bf ty gn hs) → va_S A s.heap H locs → lv_has ls 3 [(0, .ref (q 0))] → W p l e ({ frames := 1, cells := 0, slots := 0, locals := 22 } : Room) s m args below meth c H locs 0 0 Q (F0 m 54 ls []) := by
    intro H locs ls hP hD hS hl
    refine lv_aload_n hx hb dX4_leaveQueue_54 rfl (lv_at hl 0 rfl) ?_
    refine va_get (D := D) (ci := 4) (v := .ref (q 1)) (C := RX4) (T := TX4) (N := 9) hx hb hts hin hown hK hP 0 rfl rfl 1 (by decide) (hta _ aw_687) (fun _ h9 => h9) rfl dX4_leaveQueue_55 ?_
    refine lv_bipush (v := 18) hx hb dX4_leaveQueue_58 (by decide) ?_
    refine lv_aload_n hx hb dX4_leaveQueue_60 rfl (lv_at hl 0 rfl) ?_
    refine va_get (D := D) (ci := 4) (v := .ref (q 1)) (C := RX4) (T := TX4) (N := 9) hx hb hts hin hown hK hP 0 rfl rfl 1 (by decide) (hta _ aw_687) (fun _ h9 => h9) rfl dX4_leaveQueue_61 ?_
    refine lv_bipush (v := 17) hx hb dX4_leaveQueue_64 (by decide) ?_
    refine va_iald hx hb hK hP 1 0 rfl rfl (pq_vp (by decide +kernel)) dX4_leaveQueue_66 ?_
    refine lv_iadd hx hb dX4_leaveQueue_67 ?_
    refine lv_iconst (v := 0) hx hb dX4_leaveQueue_68 (by decide) ?_
    obtain ⟨hg, h⟩ := pq_g h
    refine va_iast hx hb hK hP hD hS 1 0 rfl rfl (pq_vp hg) dX4_leaveQueue_69 (fun H locs hP hD hS => ?_)
    have hP : va_P D vwCl (WM cy q th (upd v3 (18 + (v3 (17 : Int32).toNatClampNeg)).toNatClampNeg 0) sv sn sp bf ty gn hs) H := hP
    have hD : va_D A (WM cy q th (upd v3 (18 + (v3 (17 : Int32).toNatClampNeg)).toNatClampNeg 0) sv sn sp bf ty gn hs) := hD
    obtain rfl := Option.some.inj h
    subst hQ
    exact pw_rv hx hb hr hlk hAe hP hS dX4_leaveQueue_70
  clear h
  have L17_n2 : ∀ (n : Nat) (x2_17 : Int32) (z_17 : Nat → Int32) (H : Heap) (locs : List Loc) (ls : Array Slot), fX4_leaveQueue_L17  n x2_17 z_17 = some v3 → va_P D vwCl (WM cy q th z_17 sv sn sp bf ty gn hs) H → va_D A (WM cy q th z_17 sv sn sp bf ty gn hs) → va_S A s.heap H locs → lv_has ls 3 [(0, .ref (q 0)), (2, .int x2_17)] → W p l e ({ frames := 1, cells := 0, slots := 0, locals := 22 } : Room) s m args below meth c H locs 0 0 Q (F0 m 17 ls []) := by
    intro n
    induction n with
    | zero =>
      intro x2_17 z_17 H locs ls h hP hD hS hl
      exact pq_n h
    | succ n ih17 =>
      intro x2_17 z_17 H locs ls h hP hD hS hl
      rw [fX4_leaveQueue_L17] at h
      refine lv_iload_n hx hb dX4_leaveQueue_17 rfl (lv_at hl 1 rfl) ?_
      refine lv_aload_n hx hb dX4_leaveQueue_18 rfl (lv_at hl 0 rfl) ?_
      refine va_get (D := D) (ci := 4) (v := .ref (q 1)) (C := RX4) (T := TX4) (N := 9) hx hb hts hin hown hK hP 0 rfl rfl 1 (by decide) (hta _ aw_687) (fun _ h9 => h9) rfl dX4_leaveQueue_19 ?_
      refine lv_bipush (v := 17) hx hb dX4_leaveQueue_22 (by decide) ?_
      refine va_iald hx hb hK hP 1 0 rfl rfl (pq_vp (by decide +kernel)) dX4_leaveQueue_24 ?_
      refine lv_icmp_ge (tgt := 54) hx hb dX4_leaveQueue_25 (by decide) (fun c1_ => ?_) (fun c1_ => ?_)
      · have h := pq_t c1_ h
        obtain rfl := Option.some.inj h
        exact X54_v3 _ _ _ hP hD hS (lv_sub hl [0] rfl)
      · have h := pq_e c1_ h
        refine lv_aload_n hx hb dX4_leaveQueue_28 rfl (lv_at hl 0 rfl) ?_
        refine va_get (D := D) (ci := 4) (v := .ref (q 1)) (C := RX4) (T := TX4) (N := 9) hx hb hts hin hown hK hP 0 rfl rfl 1 (by decide) (hta _ aw_687) (fun _ h9 => h9) rfl dX4_leaveQueue_29 ?_
        refine lv_bipush (v := 18) hx hb dX4_leaveQueue_32 (by decide) ?_
        refine lv_iload_n hx hb dX4_leaveQueue_34 rfl (lv_at hl 1 rfl) ?_
        refine lv_iadd hx hb dX4_leaveQueue_35 ?_
        refine lv_aload_n hx hb dX4_leaveQueue_36 rfl (lv_at hl 0 rfl) ?_
        refine va_get (D := D) (ci := 4) (v := .ref (q 1)) (C := RX4) (T := TX4) (N := 9) hx hb hts hin hown hK hP 0 rfl rfl 1 (by decide) (hta _ aw_687) (fun _ h9 => h9) rfl dX4_leaveQueue_37 ?_
        refine lv_bipush (v := 18) hx hb dX4_leaveQueue_40 (by decide) ?_
        refine lv_iload_n hx hb dX4_leaveQueue_42 rfl (lv_at hl 1 rfl) ?_
        refine lv_iadd hx hb dX4_leaveQueue_43 ?_
        refine lv_iconst (v := 1) hx hb dX4_leaveQueue_44 (by decide) ?_
        refine lv_iadd hx hb dX4_leaveQueue_45 ?_
        obtain ⟨hg, h⟩ := pq_g h
        refine va_iald hx hb hK hP 1 0 rfl rfl (pq_vp hg) dX4_leaveQueue_46 ?_
        obtain ⟨hg, h⟩ := pq_g h
        refine va_iast hx hb hK hP hD hS 1 0 rfl rfl (pq_vp hg) dX4_leaveQueue_47 (fun H locs hP hD hS => ?_)
        have hP : va_P D vwCl (WM cy q th (upd z_17 (18 + x2_17).toNatClampNeg (z_17 ((18 + x2_17) + 1).toNatClampNeg)) sv sn sp bf ty gn hs) H := hP
        have hD : va_D A (WM cy q th (upd z_17 (18 + x2_17).toNatClampNeg (z_17 ((18 + x2_17) + 1).toNatClampNeg)) sv sn sp bf ty gn hs) := hD
        refine lv_iinc (v := x2_17 + 1) (lv' := [(2, .int (x2_17 + 1)), (0, .ref (q 0))]) hx hb dX4_leaveQueue_48 hl (k := 1) rfl (by first | rfl | decide) (by decide) rfl (fun ls hl => ?_)
        refine lv_goto (tgt := 17) hx hb dX4_leaveQueue_51 (by decide) ?_
        exact ih17 (x2_17 + 1) (upd z_17 (18 + x2_17).toNatClampNeg (z_17 ((18 + x2_17) + 1).toNatClampNeg)) _ _ _ h hP hD hS (lv_sub hl [1, 0] rfl)
  have h := hv3
  exact L17_n2 1000 r1 (upd z (17 : Int32).toNatClampNeg ((z (17 : Int32).toNatClampNeg) - 1)) _ _ _ h hP hD hS (lv_sub hl [1, 0] rfl)

def aX4_firstToServe : List Cond := Cond.code yX4_firstToServe cX4_firstToServe 2 (some .int) :: pw_all
theorem pX4_firstToServe : yX4_firstToServe.cls = RX4 ∧ yX4_firstToServe.cls ≠ "java/lang/invoke/MethodHandle" ∧ yX4_firstToServe.cls ≠ "java/lang/invoke/VarHandle" ∧ (parseMethodDescriptor yX4_firstToServe.desc).map (fun d => d.parameters.length) = some 0 := by decide +kernel
set_option maxHeartbeats 8000000 in
set_option maxRecDepth 100000 in
theorem kX4_firstToServe (l : Launch) (D : va_G) (cy : Nat → ClassId) (q : Nat → Nat) (sz : Nat) (th : Int32) (z : Nat → Int32) (sv : Nat → Int32) (sn : Int32) (sp : Nat → Int32) (bf : Nat → Int32) (ty : Int32) (gn : Nat → Int32) (hs : Int64)  (o : Int32) (h : fX4_firstToServe z = some o) : Met l yX4_firstToServe aX4_firstToServe ({ frames := 3, cells := 0, slots := 0, locals := 66 }) (pw_Pre D cy [.ref (q 0)] (WM cy q th z sv sn sp bf ty gn hs) sz) (pw_I D o (WM cy q th z sv sn sp bf ty gn hs) (WM cy q th z sv sn sp bf ty gn hs) sz) 0 0 (va_A (WM cy q th z sv sn sp bf ty gn hs) sz) := by
  refine pw_met (cc := cX4_firstToServe) (maxL := 2) (ret := (some .int)) (by decide) rfl (Nat.le_of_ble_eq_true rfl) ?_
  intro p e s m args below meth c ls A hx hb hr hml hlk hts hown hAe hA hK hP hD hS hl
  have hl : lv_has ls 2 [(0, .ref (q 0))] := hl
  generalize hQ : MQ below (pw_I D o (WM cy q th z sv sn sp bf ty gn hs) (WM cy q th z sv sn sp bf ty gn hs) sz) args s 0 0 (va_A (WM cy q th z sv sn sp bf ty gn hs) sz) = Q
  have hF : CallFix p m c cX4_firstToServe 2 s args aX4_firstToServe RX4 := ⟨hx, hb, hml, hown, hts⟩
  have hta : ∀ w ∈ pw_all, w.before args s = true := fun w h => hts w (List.mem_cons_of_mem _ h)
  have hin : ∀ w ∈ wsX40, w ∈ aX4_firstToServe := fun w h => List.mem_cons_of_mem _ (inA4 w h)
  unfold fX4_firstToServe at h
  refine lv_iconst (v := 0) hx hb dX4_firstToServe_0 (by decide) ?_
  refine lv_istore_n (lv' := [(1, .int 0), (0, .ref (q 0))]) hx hb dX4_firstToServe_1 rfl hl (by decide) rfl (fun ls hl => ?_)
  have L2_n1 : ∀ (n : Nat) (x1_2 : Int32) (H : Heap) (locs : List Loc) (ls : Array Slot), fX4_firstToServe_L2 z n x1_2 = some o → va_P D vwCl (WM cy q th z sv sn sp bf ty gn hs) H → va_D A (WM cy q th z sv sn sp bf ty gn hs) → va_S A s.heap H locs → lv_has ls 2 [(0, .ref (q 0)), (1, .int x1_2)] → W p l e ({ frames := 3, cells := 0, slots := 0, locals := 66 } : Room) s m args below meth c H locs 0 0 Q (F0 m 2 ls []) := by
    intro n
    induction n with
    | zero =>
      intro x1_2 H locs ls h hP hD hS hl
      exact pq_n h
    | succ n ih2 =>
      intro x1_2 H locs ls h hP hD hS hl
      rw [fX4_firstToServe_L2] at h
      refine lv_iload_n hx hb dX4_firstToServe_2 rfl (lv_at hl 1 rfl) ?_
      refine lv_aload_n hx hb dX4_firstToServe_3 rfl (lv_at hl 0 rfl) ?_
      refine va_get (D := D) (ci := 4) (v := .ref (q 1)) (C := RX4) (T := TX4) (N := 9) hx hb hts hin hown hK hP 0 rfl rfl 1 (by decide) (hta _ aw_687) (fun _ h9 => h9) rfl dX4_firstToServe_4 ?_
      refine lv_bipush (v := 17) hx hb dX4_firstToServe_7 (by decide) ?_
      refine va_iald hx hb hK hP 1 0 rfl rfl (pq_vp (by decide +kernel)) dX4_firstToServe_9 ?_
      refine lv_icmp_ge (tgt := 45) hx hb dX4_firstToServe_10 (by decide) (fun c1_ => ?_) (fun c1_ => ?_)
      · have h := pq_t c1_ h
        refine lv_iconst (v := (-1)) hx hb dX4_firstToServe_45 (by decide) ?_
        obtain rfl := Option.some.inj h
        subst hQ
        exact pw_ri hx hb hr hlk hAe hP hS rfl dX4_firstToServe_46
      · have h := pq_e c1_ h
        refine lv_aload_n hx hb dX4_firstToServe_13 rfl (lv_at hl 0 rfl) ?_
        refine lv_aload_n hx hb dX4_firstToServe_14 rfl (lv_at hl 0 rfl) ?_
        refine va_get (D := D) (ci := 4) (v := .ref (q 1)) (C := RX4) (T := TX4) (N := 9) hx hb hts hin hown hK hP 0 rfl rfl 1 (by decide) (hta _ aw_687) (fun _ h9 => h9) rfl dX4_firstToServe_15 ?_
        refine lv_bipush (v := 18) hx hb dX4_firstToServe_18 (by decide) ?_
        refine lv_iload_n hx hb dX4_firstToServe_20 rfl (lv_at hl 1 rfl) ?_
        refine lv_iadd hx hb dX4_firstToServe_21 ?_
        obtain ⟨hg, h⟩ := pq_g h
        refine va_iald hx hb hK hP 1 0 rfl rfl (pq_vp hg) dX4_firstToServe_22 ?_
        obtain ⟨r2, hr2, h⟩ := pq_b h
        refine pw_ci (w1 := WM cy q th z sv sn sp bf ty gn hs) (rest := []) (As := [.int (z (18 + x1_2).toNatClampNeg)]) hF (kX4_mayHaveMore l D cy q _ th z sv sn sp bf ty gn hs (z (18 + x1_2).toNatClampNeg) r2 hr2) (cwV 1 hts (pw_gV (own := RX4) (idx := 78) (C := RX4) (y := yX4_mayHaveMore) aw_760 aw_762 aw_s26 aw_6 aw_763) rfl rfl rfl pX4_mayHaveMore ⟨Nat.le_of_ble_eq_true rfl, Nat.le_of_ble_eq_true rfl⟩) (va_recv hK hP (ci := 4) (q0 := 0) rfl rfl) hK hP hD hS hA rfl rfl hl.1 rfl (Nat.le_of_ble_eq_true rfl) dX4_firstToServe_23 ⟨Nat.zero_le _, Nat.zero_le _⟩ (fun H locs hP hD hS => ?_)
        refine lv_if_eq (tgt := 39) hx hb dX4_firstToServe_26 (by decide) (fun c2_ => ?_) (fun c2_ => ?_)
        · have h := pq_t c2_ h
          refine lv_iinc (v := x1_2 + 1) (lv' := [(1, .int (x1_2 + 1)), (0, .ref (q 0))]) hx hb dX4_firstToServe_39 hl (k := 1) rfl (by first | rfl | decide) (by decide) rfl (fun ls hl => ?_)
          refine lv_goto (tgt := 2) hx hb dX4_firstToServe_42 (by decide) ?_
          exact ih2 (x1_2 + 1) _ _ _ h hP hD hS (lv_sub hl [1, 0] rfl)
        · have h := pq_e c2_ h
          refine lv_aload_n hx hb dX4_firstToServe_29 rfl (lv_at hl 0 rfl) ?_
          refine va_get (D := D) (ci := 4) (v := .ref (q 1)) (C := RX4) (T := TX4) (N := 9) hx hb hts hin hown hK hP 0 rfl rfl 1 (by decide) (hta _ aw_687) (fun _ h9 => h9) rfl dX4_firstToServe_30 ?_
          refine lv_bipush (v := 18) hx hb dX4_firstToServe_33 (by decide) ?_
          refine lv_iload_n hx hb dX4_firstToServe_35 rfl (lv_at hl 1 rfl) ?_
          refine lv_iadd hx hb dX4_firstToServe_36 ?_
          obtain ⟨hg, h⟩ := pq_g h
          refine va_iald hx hb hK hP 1 0 rfl rfl (pq_vp hg) dX4_firstToServe_37 ?_
          obtain rfl := Option.some.inj h
          subst hQ
          exact pw_ri hx hb hr hlk hAe hP hS rfl dX4_firstToServe_38
  exact L2_n1 1000 0 _ _ _ h hP hD hS (lv_sub hl [1, 0] rfl)

def aX4_serve : List Cond := Cond.code yX4_serve cX4_serve 3 none :: pw_all
theorem pX4_serve : yX4_serve.cls = RX4 ∧ yX4_serve.cls ≠ "java/lang/invoke/MethodHandle" ∧ yX4_serve.cls ≠ "java/lang/invoke/VarHandle" ∧ (parseMethodDescriptor yX4_serve.desc).map (fun d => d.parameters.length) = some 0 := by decide +kernel
set_option maxHeartbeats 8000000 in
set_option maxRecDepth 100000 in
theorem kX4_serve (l : Launch) (D : va_G) (cy : Nat → ClassId) (q : Nat → Nat) (sz : Nat) (th : Int32) (z : Nat → Int32) (sv : Nat → Int32) (sn : Int32) (sp : Nat → Int32) (bf : Nat → Int32) (ty : Int32) (gn : Nat → Int32) (hs : Int64)  (o : (Nat → Int32) × (Nat → Int32)) (h : fX4_serve z gn = some o) : Met l yX4_serve aX4_serve ({ frames := 5, cells := 0, slots := 0, locals := 109 }) (pw_Pre D cy [.ref (q 0)] (WM cy q th z sv sn sp bf ty gn hs) sz) (pw_V D (WM cy q th z sv sn sp bf ty gn hs) (WM cy q th o.1 sv sn sp bf ty o.2 hs) sz) 0 0 (va_A (WM cy q th z sv sn sp bf ty gn hs) sz) := by
  refine pw_met (cc := cX4_serve) (maxL := 3) (ret := none) (by decide) rfl (Nat.le_of_ble_eq_true rfl) ?_
  intro p e s m args below meth c ls A hx hb hr hml hlk hts hown hAe hA hK hP hD hS hl
  have hl : lv_has ls 3 [(0, .ref (q 0))] := hl
  generalize hQ : MQ below (pw_V D (WM cy q th z sv sn sp bf ty gn hs) (WM cy q th o.1 sv sn sp bf ty o.2 hs) sz) args s 0 0 (va_A (WM cy q th z sv sn sp bf ty gn hs) sz) = Q
  have hF : CallFix p m c cX4_serve 3 s args aX4_serve RX4 := ⟨hx, hb, hml, hown, hts⟩
  have hta : ∀ w ∈ pw_all, w.before args s = true := fun w h => hts w (List.mem_cons_of_mem _ h)
  have hin : ∀ w ∈ wsX40, w ∈ aX4_serve := fun w h => List.mem_cons_of_mem _ (inA4 w h)
  unfold fX4_serve at h
  refine lv_aload_n hx hb dX4_serve_0 rfl (lv_at hl 0 rfl) ?_
  obtain ⟨r1, hr1, h⟩ := pq_b h
  refine pw_ci (w1 := WM cy q th z sv sn sp bf ty gn hs) (rest := []) (As := []) hF (kX4_firstToServe l D cy q _ th z sv sn sp bf ty gn hs  r1 hr1) (cwV 0 hts (pw_gV (own := RX4) (idx := 82) (C := RX4) (y := yX4_firstToServe) aw_808 aw_810 aw_s38 aw_6 aw_811) rfl rfl rfl pX4_firstToServe ⟨Nat.le_of_ble_eq_true rfl, Nat.le_of_ble_eq_true rfl⟩) (va_recv hK hP (ci := 4) (q0 := 0) rfl rfl) hK hP hD hS hA rfl rfl hl.1 rfl (Nat.le_of_ble_eq_true rfl) dX4_serve_1 ⟨Nat.zero_le _, Nat.zero_le _⟩ (fun H locs hP hD hS => ?_)
  refine lv_istore_n (lv' := [(1, .int r1), (0, .ref (q 0))]) hx hb dX4_serve_4 rfl hl (by decide) rfl (fun ls hl => ?_)
  refine lv_iload_n hx hb dX4_serve_5 rfl (lv_at hl 0 rfl) ?_
  refine lv_iconst (v := (-1)) hx hb dX4_serve_6 (by decide) ?_
  obtain ⟨v2, hv2, h⟩ := pq_b h
  have J18_v2 : ∀ (H : Heap) (locs : List Loc) (ls : Array Slot), va_P D vwCl (WM cy q th v2.2 sv sn sp bf ty gn hs) H → va_D A (WM cy q th v2.2 sv sn sp bf ty gn hs) → va_S A s.heap H locs → lv_has ls 3 [(0, .ref (q 0)), (1, .int r1)] → W p l e ({ frames := 5, cells := 0, slots := 0, locals := 109 } : Room) s m args below meth c H locs 0 0 Q (F0 m 18 ls [.int v2.1]) := by
    intro H locs ls hP hD hS hl
    refine lv_istore_n (lv' := [(2, .int v2.1), (0, .ref (q 0)), (1, .int r1)]) hx hb dX4_serve_18 rfl hl (by decide) rfl (fun ls hl => ?_)
    have L19_n4 : ∀ (n : Nat) (x1_19 : Int32) (x2_19 : Int32) (z_19 : Nat → Int32) (gn_19 : Nat → Int32) (H : Heap) (locs : List Loc) (ls : Array Slot), fX4_serve_L19  n x1_19 x2_19 z_19 gn_19 = some o → va_P D vwCl (WM cy q th z_19 sv sn sp bf ty gn_19 hs) H → va_D A (WM cy q th z_19 sv sn sp bf ty gn_19 hs) → va_S A s.heap H locs → lv_has ls 3 [(0, .ref (q 0)), (1, .int x1_19), (2, .int x2_19)] → W p l e ({ frames := 5, cells := 0, slots := 0, locals := 109 } : Room) s m args below meth c H locs 0 0 Q (F0 m 19 ls []) := by
      intro n
      induction n with
      | zero =>
        intro x1_19 x2_19 z_19 gn_19 H locs ls h hP hD hS hl
        exact pq_n h
      | succ n ih19 =>
        intro x1_19 x2_19 z_19 gn_19 H locs ls h hP hD hS hl
        rw [fX4_serve_L19] at h
        refine lv_iload_n hx hb dX4_serve_19 rfl (lv_at hl 2 rfl) ?_
        refine lv_iconst (v := (-1)) hx hb dX4_serve_20 (by decide) ?_
        refine lv_icmp_eq (tgt := 82) hx hb dX4_serve_21 (by decide) (fun c2_ => ?_) (fun c2_ => ?_)
        · have h := pq_t c2_ h
          obtain rfl := Option.some.inj h
          subst hQ
          exact pw_rv hx hb hr hlk hAe hP hS dX4_serve_82
        · have h := pq_e c2_ h
          refine lv_aload_n hx hb dX4_serve_24 rfl (lv_at hl 0 rfl) ?_
          refine lv_iload_n hx hb dX4_serve_25 rfl (lv_at hl 1 rfl) ?_
          refine lv_iconst (v := 4) hx hb dX4_serve_26 (by decide) ?_
          refine lv_aload_n hx hb dX4_serve_27 rfl (lv_at hl 0 rfl) ?_
          refine lv_iload_n hx hb dX4_serve_28 rfl (lv_at hl 1 rfl) ?_
          refine lv_iconst (v := 4) hx hb dX4_serve_29 (by decide) ?_
          obtain ⟨r5, hr5, h⟩ := pq_b h
          refine pw_ci (w1 := WM cy q th z_19 sv sn sp bf ty gn_19 hs) (rest := [.int 4, .int x1_19, .ref (q 0)]) (As := [.int x1_19, .int 4]) hF (kX4_its l D cy q _ th z_19 sv sn sp bf ty gn_19 hs x1_19 4 r5 hr5) (cwV 2 hts (pw_gV (own := RX4) (idx := 44) (C := RX4) (y := yX4_its) aw_740 aw_742 aw_s21 aw_6 aw_743) rfl rfl rfl pX4_its ⟨Nat.le_of_ble_eq_true rfl, Nat.le_of_ble_eq_true rfl⟩) (va_recv hK hP (ci := 4) (q0 := 0) rfl rfl) hK hP hD hS hA rfl rfl hl.1 rfl (Nat.le_of_ble_eq_true rfl) dX4_serve_30 ⟨Nat.zero_le _, Nat.zero_le _⟩ (fun H locs hP hD hS => ?_)
          refine lv_aload_n hx hb dX4_serve_33 rfl (lv_at hl 0 rfl) ?_
          refine lv_iload_n hx hb dX4_serve_34 rfl (lv_at hl 1 rfl) ?_
          obtain ⟨r6, hr6, h⟩ := pq_b h
          refine pw_ci (w1 := WM cy q th z_19 sv sn sp bf ty gn_19 hs) (rest := [.int r5, .int 4, .int x1_19, .ref (q 0)]) (As := [.int x1_19]) hF (kX4_waitedFor l D cy q _ th z_19 sv sn sp bf ty gn_19 hs x1_19 r6 hr6) (cwV 1 hts (pw_gV (own := RX4) (idx := 88) (C := RX4) (y := yX4_waitedFor) aw_812 aw_814 aw_s39 aw_6 aw_815) rfl rfl rfl pX4_waitedFor ⟨Nat.le_of_ble_eq_true rfl, Nat.le_of_ble_eq_true rfl⟩) (va_recv hK hP (ci := 4) (q0 := 0) rfl rfl) hK hP hD hS hA rfl rfl hl.1 rfl (Nat.le_of_ble_eq_true rfl) dX4_serve_35 ⟨Nat.zero_le _, Nat.zero_le _⟩ (fun H locs hP hD hS => ?_)
          refine lv_iadd hx hb dX4_serve_38 ?_
          obtain ⟨r7, hr7, h⟩ := pq_b h
          refine pw_cv (w1 := WM cy q th r7 sv sn sp bf ty gn_19 hs) (rest := []) (As := [.int x1_19, .int 4, .int (r5 + r6)]) hF (kX4_lay l D cy q _ th z_19 sv sn sp bf ty gn_19 hs x1_19 4 (r5 + r6) r7 hr7) (cwV 3 hts (pw_gV (own := RX4) (idx := 29) (C := RX4) (y := yX4_lay) aw_682 aw_684 aw_s18 aw_6 aw_685) rfl rfl rfl pX4_lay ⟨Nat.le_of_ble_eq_true rfl, Nat.le_of_ble_eq_true rfl⟩) (va_recv hK hP (ci := 4) (q0 := 0) rfl rfl) hK hP hD hS hA rfl rfl hl.1 rfl (Nat.le_of_ble_eq_true rfl) dX4_serve_39 ⟨Nat.zero_le _, Nat.zero_le _⟩ (fun H locs hP hD hS => ?_)
          refine lv_aload_n hx hb dX4_serve_42 rfl (lv_at hl 0 rfl) ?_
          refine lv_iload_n hx hb dX4_serve_43 rfl (lv_at hl 1 rfl) ?_
          obtain ⟨r8, hr8, h⟩ := pq_b h
          refine pw_cv (w1 := WM cy q th r8 sv sn sp bf ty gn_19 hs) (rest := []) (As := [.int x1_19]) hF (kX4_leaveQueue l D cy q _ th r7 sv sn sp bf ty gn_19 hs x1_19 r8 hr8) (cwV 1 hts (pw_gV (own := RX4) (idx := 91) (C := RX4) (y := yX4_leaveQueue) aw_816 aw_818 aw_s40 aw_6 aw_819) rfl rfl rfl pX4_leaveQueue ⟨Nat.le_of_ble_eq_true rfl, Nat.le_of_ble_eq_true rfl⟩) (va_recv hK hP (ci := 4) (q0 := 0) rfl rfl) hK hP hD hS hA rfl rfl hl.1 rfl (Nat.le_of_ble_eq_true rfl) dX4_serve_44 ⟨Nat.zero_le _, Nat.zero_le _⟩ (fun H locs hP hD hS => ?_)
          refine lv_aload_n hx hb dX4_serve_47 rfl (lv_at hl 0 rfl) ?_
          refine lv_iload_n hx hb dX4_serve_48 rfl (lv_at hl 1 rfl) ?_
          refine lv_iconst (v := 1) hx hb dX4_serve_49 (by decide) ?_
          refine lv_iconst (v := 0) hx hb dX4_serve_50 (by decide) ?_
          obtain ⟨r9, hr9, h⟩ := pq_b h
          refine pw_cv (w1 := WM cy q th r9 sv sn sp bf ty gn_19 hs) (rest := []) (As := [.int x1_19, .int 1, .int 0]) hF (kX4_lay l D cy q _ th r8 sv sn sp bf ty gn_19 hs x1_19 1 0 r9 hr9) (cwV 3 hts (pw_gV (own := RX4) (idx := 29) (C := RX4) (y := yX4_lay) aw_682 aw_684 aw_s18 aw_6 aw_685) rfl rfl rfl pX4_lay ⟨Nat.le_of_ble_eq_true rfl, Nat.le_of_ble_eq_true rfl⟩) (va_recv hK hP (ci := 4) (q0 := 0) rfl rfl) hK hP hD hS hA rfl rfl hl.1 rfl (Nat.le_of_ble_eq_true rfl) dX4_serve_51 ⟨Nat.zero_le _, Nat.zero_le _⟩ (fun H locs hP hD hS => ?_)
          refine lv_aload_n hx hb dX4_serve_54 rfl (lv_at hl 0 rfl) ?_
          refine lv_iload_n hx hb dX4_serve_55 rfl (lv_at hl 2 rfl) ?_
          refine lv_iload_n hx hb dX4_serve_56 rfl (lv_at hl 1 rfl) ?_
          obtain ⟨r10, hr10, h⟩ := pq_b h
          refine pw_cv (w1 := WM cy q th r10.1 sv sn sp bf ty r10.2 hs) (rest := []) (As := [.int x2_19, .int x1_19]) hF (kX4_lend l D cy q _ th r9 sv sn sp bf ty gn_19 hs x2_19 x1_19 r10 hr10) (cwV 2 hts (pw_gV (own := RX4) (idx := 95) (C := RX4) (y := yX4_lend) aw_800 aw_802 aw_s36 aw_6 aw_803) rfl rfl rfl pX4_lend ⟨Nat.le_of_ble_eq_true rfl, Nat.le_of_ble_eq_true rfl⟩) (va_recv hK hP (ci := 4) (q0 := 0) rfl rfl) hK hP hD hS hA rfl rfl hl.1 rfl (Nat.le_of_ble_eq_true rfl) dX4_serve_57 ⟨Nat.zero_le _, Nat.zero_le _⟩ (fun H locs hP hD hS => ?_)
          refine lv_aload_n hx hb dX4_serve_60 rfl (lv_at hl 0 rfl) ?_
          obtain ⟨r11, hr11, h⟩ := pq_b h
          refine pw_ci (w1 := WM cy q th r10.1 sv sn sp bf ty r10.2 hs) (rest := []) (As := []) hF (kX4_firstToServe l D cy q _ th r10.1 sv sn sp bf ty r10.2 hs  r11 hr11) (cwV 0 hts (pw_gV (own := RX4) (idx := 82) (C := RX4) (y := yX4_firstToServe) aw_808 aw_810 aw_s38 aw_6 aw_811) rfl rfl rfl pX4_firstToServe ⟨Nat.le_of_ble_eq_true rfl, Nat.le_of_ble_eq_true rfl⟩) (va_recv hK hP (ci := 4) (q0 := 0) rfl rfl) hK hP hD hS hA rfl rfl hl.1 rfl (Nat.le_of_ble_eq_true rfl) dX4_serve_61 ⟨Nat.zero_le _, Nat.zero_le _⟩ (fun H locs hP hD hS => ?_)
          refine lv_istore_n (lv' := [(1, .int r11), (0, .ref (q 0)), (2, .int x2_19)]) hx hb dX4_serve_64 rfl hl (by decide) rfl (fun ls hl => ?_)
          refine lv_iload_n hx hb dX4_serve_65 rfl (lv_at hl 0 rfl) ?_
          refine lv_iconst (v := (-1)) hx hb dX4_serve_66 (by decide) ?_
          refine lv_icmp_ne (tgt := 74) hx hb dX4_serve_67 (by decide) (fun c3_ => ?_) (fun c3_ => ?_)
          · have h := pq_e c3_ h
            refine lv_aload_n hx hb dX4_serve_74 rfl (lv_at hl 1 rfl) ?_
            obtain ⟨r12, hr12, h⟩ := pq_b h
            refine pw_ci (w1 := WM cy q th r12.2 sv sn sp bf ty r10.2 hs) (rest := []) (As := []) hF (kX4_look l D cy q _ th r10.1 sv sn sp bf ty r10.2 hs  r12 hr12) (cwV 0 hts (pw_gV (own := RX4) (idx := 85) (C := RX4) (y := yX4_look) aw_772 aw_774 aw_s29 aw_6 aw_775) rfl rfl rfl pX4_look ⟨Nat.le_of_ble_eq_true rfl, Nat.le_of_ble_eq_true rfl⟩) (va_recv hK hP (ci := 4) (q0 := 0) rfl rfl) hK hP hD hS hA rfl rfl hl.1 rfl (Nat.le_of_ble_eq_true rfl) dX4_serve_75 ⟨Nat.zero_le _, Nat.zero_le _⟩ (fun H locs hP hD hS => ?_)
            refine lv_istore_n (lv' := [(2, .int r12.1), (1, .int r11), (0, .ref (q 0))]) hx hb dX4_serve_78 rfl hl (by decide) rfl (fun ls hl => ?_)
            refine lv_goto (tgt := 19) hx hb dX4_serve_79 (by decide) ?_
            exact ih19 r11 r12.1 r12.2 r10.2 _ _ _ h hP hD hS (lv_sub hl [2, 1, 0] rfl)
          · have h := pq_t c3_ h
            refine lv_iconst (v := (-1)) hx hb dX4_serve_70 (by decide) ?_
            refine lv_goto (tgt := 78) hx hb dX4_serve_71 (by decide) ?_
            refine lv_istore_n (lv' := [(2, .int (-1)), (1, .int r11), (0, .ref (q 0))]) hx hb dX4_serve_78 rfl hl (by decide) rfl (fun ls hl => ?_)
            refine lv_goto (tgt := 19) hx hb dX4_serve_79 (by decide) ?_
            exact ih19 r11 (-1) r10.1 r10.2 _ _ _ h hP hD hS (lv_sub hl [2, 1, 0] rfl)
    exact L19_n4 1000 r1 v2.1 v2.2 gn _ _ _ h hP hD hS (lv_sub hl [1, 2, 0] rfl)
  clear h
  have h := hv2
  clear hv2
  refine lv_icmp_ne (tgt := 14) hx hb dX4_serve_7 (by decide) (fun c1_ => ?_) (fun c1_ => ?_)
  · have h := pq_e c1_ h
    refine lv_aload_n hx hb dX4_serve_14 rfl (lv_at hl 1 rfl) ?_
    obtain ⟨r3, hr3, h⟩ := pq_b h
    refine pw_ci (w1 := WM cy q th r3.2 sv sn sp bf ty gn hs) (rest := []) (As := []) hF (kX4_look l D cy q _ th z sv sn sp bf ty gn hs  r3 hr3) (cwV 0 hts (pw_gV (own := RX4) (idx := 85) (C := RX4) (y := yX4_look) aw_772 aw_774 aw_s29 aw_6 aw_775) rfl rfl rfl pX4_look ⟨Nat.le_of_ble_eq_true rfl, Nat.le_of_ble_eq_true rfl⟩) (va_recv hK hP (ci := 4) (q0 := 0) rfl rfl) hK hP hD hS hA rfl rfl hl.1 rfl (Nat.le_of_ble_eq_true rfl) dX4_serve_15 ⟨Nat.zero_le _, Nat.zero_le _⟩ (fun H locs hP hD hS => ?_)
    obtain rfl := Option.some.inj h
    exact J18_v2 _ _ _ hP hD hS (lv_sub hl [1, 0] rfl)
  · have h := pq_t c1_ h
    refine lv_iconst (v := (-1)) hx hb dX4_serve_10 (by decide) ?_
    refine lv_goto (tgt := 18) hx hb dX4_serve_11 (by decide) ?_
    obtain rfl := Option.some.inj h
    exact J18_v2 _ _ _ hP hD hS (lv_sub hl [1, 0] rfl)

def aX4_askIt : List Cond := Cond.code yX4_askIt cX4_askIt 3 (some .int) :: pw_all
theorem pX4_askIt : yX4_askIt.cls = RX4 ∧ yX4_askIt.cls ≠ "java/lang/invoke/MethodHandle" ∧ yX4_askIt.cls ≠ "java/lang/invoke/VarHandle" ∧ (parseMethodDescriptor yX4_askIt.desc).map (fun d => d.parameters.length) = some 1 := by decide +kernel
set_option maxHeartbeats 8000000 in
set_option maxRecDepth 100000 in
theorem kX4_askIt (l : Launch) (D : va_G) (cy : Nat → ClassId) (q : Nat → Nat) (sz : Nat) (th : Int32) (z : Nat → Int32) (sv : Nat → Int32) (sn : Int32) (sp : Nat → Int32) (bf : Nat → Int32) (ty : Int32) (gn : Nat → Int32) (hs : Int64) (x1 : Int32) (o : Int32 × (Nat → Int32) × (Nat → Int32)) (h : fX4_askIt x1 z gn = some o) : Met l yX4_askIt aX4_askIt ({ frames := 6, cells := 0, slots := 0, locals := 131 }) (pw_Pre D cy [.ref (q 0), .int x1] (WM cy q th z sv sn sp bf ty gn hs) sz) (pw_I D o.1 (WM cy q th z sv sn sp bf ty gn hs) (WM cy q th o.2.1 sv sn sp bf ty o.2.2 hs) sz) 0 0 (va_A (WM cy q th z sv sn sp bf ty gn hs) sz) := by
  refine pw_met (cc := cX4_askIt) (maxL := 3) (ret := (some .int)) (by decide) rfl (Nat.le_of_ble_eq_true rfl) ?_
  intro p e s m args below meth c ls A hx hb hr hml hlk hts hown hAe hA hK hP hD hS hl
  have hl : lv_has ls 3 [(0, .ref (q 0)), (1, .int x1)] := hl
  generalize hQ : MQ below (pw_I D o.1 (WM cy q th z sv sn sp bf ty gn hs) (WM cy q th o.2.1 sv sn sp bf ty o.2.2 hs) sz) args s 0 0 (va_A (WM cy q th z sv sn sp bf ty gn hs) sz) = Q
  have hF : CallFix p m c cX4_askIt 3 s args aX4_askIt RX4 := ⟨hx, hb, hml, hown, hts⟩
  have hta : ∀ w ∈ pw_all, w.before args s = true := fun w h => hts w (List.mem_cons_of_mem _ h)
  have hin : ∀ w ∈ wsX40, w ∈ aX4_askIt := fun w h => List.mem_cons_of_mem _ (inA4 w h)
  unfold fX4_askIt at h
  refine lv_iconst (v := 0) hx hb dX4_askIt_0 (by decide) ?_
  refine lv_istore_n (lv' := [(2, .int 0), (0, .ref (q 0)), (1, .int x1)]) hx hb dX4_askIt_1 rfl hl (by decide) rfl (fun ls hl => ?_)
  obtain ⟨v2, hv2, h⟩ := pq_b h
  have X21_v2 : ∀ (H : Heap) (locs : List Loc) (ls : Array Slot), va_P D vwCl (WM cy q th z sv sn sp bf ty v2 hs) H → va_D A (WM cy q th z sv sn sp bf ty v2 hs) → va_S A s.heap H locs → lv_has ls 3 [(0, .ref (q 0)), (1, .int x1)] → W p l e ({ frames := 6, cells := 0, slots := 0, locals := 131 } : Room) s m args below meth c H locs 0 0 Q (F0 m 21 ls []) := by
    intro H locs ls hP hD hS hl
    refine lv_aload_n hx hb dX4_askIt_21 rfl (lv_at hl 0 rfl) ?_
    refine lv_iload_n hx hb dX4_askIt_22 rfl (lv_at hl 1 rfl) ?_
    obtain ⟨r3, hr3, h⟩ := pq_b h
    refine pw_ci (w1 := WM cy q th z sv sn sp bf ty v2 hs) (rest := []) (As := [.int x1]) hF (kX4_mayHaveMore l D cy q _ th z sv sn sp bf ty v2 hs x1 r3 hr3) (cwV 1 hts (pw_gV (own := RX4) (idx := 78) (C := RX4) (y := yX4_mayHaveMore) aw_760 aw_762 aw_s26 aw_6 aw_763) rfl rfl rfl pX4_mayHaveMore ⟨Nat.le_of_ble_eq_true rfl, Nat.le_of_ble_eq_true rfl⟩) (va_recv hK hP (ci := 4) (q0 := 0) rfl rfl) hK hP hD hS hA rfl rfl hl.1 rfl (Nat.le_of_ble_eq_true rfl) dX4_askIt_23 ⟨Nat.zero_le _, Nat.zero_le _⟩ (fun H locs hP hD hS => ?_)
    obtain ⟨v4, hv4, h⟩ := pq_b h
    have J47_v4 : ∀ (H : Heap) (locs : List Loc) (ls : Array Slot), va_P D vwCl (WM cy q th v4.2 sv sn sp bf ty v2 hs) H → va_D A (WM cy q th v4.2 sv sn sp bf ty v2 hs) → va_S A s.heap H locs → lv_has ls 3 [(0, .ref (q 0)), (1, .int x1)] → W p l e ({ frames := 6, cells := 0, slots := 0, locals := 131 } : Room) s m args below meth c H locs 0 0 Q (F0 m 47 ls [.int v4.1]) := by
      intro H locs ls hP hD hS hl
      refine lv_istore_n (lv' := [(2, .int v4.1), (0, .ref (q 0)), (1, .int x1)]) hx hb dX4_askIt_47 rfl hl (by decide) rfl (fun ls hl => ?_)
      refine lv_iload_n hx hb dX4_askIt_48 rfl (lv_at hl 0 rfl) ?_
      refine lv_iconst (v := (-1)) hx hb dX4_askIt_49 (by decide) ?_
      obtain ⟨v6, hv6, h⟩ := pq_b h
      have J102_v6 : ∀ (H : Heap) (locs : List Loc) (ls : Array Slot), va_P D vwCl (WM cy q th v6.1 sv sn sp bf ty v6.2 hs) H → va_D A (WM cy q th v6.1 sv sn sp bf ty v6.2 hs) → va_S A s.heap H locs → lv_has ls 3 [(0, .ref (q 0)), (1, .int x1)] → W p l e ({ frames := 6, cells := 0, slots := 0, locals := 131 } : Room) s m args below meth c H locs 0 0 Q (F0 m 102 ls []) := by
        intro H locs ls hP hD hS hl
        refine lv_aload_n hx hb dX4_askIt_102 rfl (lv_at hl 0 rfl) ?_
        obtain ⟨r9, hr9, h⟩ := pq_b h
        refine pw_cv (w1 := WM cy q th r9.1 sv sn sp bf ty r9.2 hs) (rest := []) (As := []) hF (kX4_serve l D cy q _ th v6.1 sv sn sp bf ty v6.2 hs  r9 hr9) (cwV 0 hts (pw_gV (own := RX4) (idx := 98) (C := RX4) (y := yX4_serve) aw_804 aw_806 aw_s37 aw_6 aw_807) rfl rfl rfl pX4_serve ⟨Nat.le_of_ble_eq_true rfl, Nat.le_of_ble_eq_true rfl⟩) (va_recv hK hP (ci := 4) (q0 := 0) rfl rfl) hK hP hD hS hA rfl rfl hl.1 rfl (Nat.le_of_ble_eq_true rfl) dX4_askIt_103 ⟨Nat.zero_le _, Nat.zero_le _⟩ (fun H locs hP hD hS => ?_)
        refine lv_aload_n hx hb dX4_askIt_106 rfl (lv_at hl 0 rfl) ?_
        refine va_get (D := D) (ci := 4) (v := .ref (q 7)) (C := RX4) (T := TX4) (N := 9) hx hb hts hin hown hK hP 0 rfl rfl 7 (by decide) (hta _ aw_693) (fun _ h9 => h9) rfl dX4_askIt_107 ?_
        refine lv_iload_n hx hb dX4_askIt_110 rfl (lv_at hl 1 rfl) ?_
        obtain ⟨hg, h⟩ := pq_g h
        refine va_iald hx hb hK hP 5 0 rfl rfl (pq_vp hg) dX4_askIt_111 ?_
        obtain rfl := Option.some.inj h
        subst hQ
        exact pw_ri hx hb hr hlk hAe hP hS rfl dX4_askIt_112
      clear h
      have h := hv6
      clear hv6
      refine lv_icmp_eq (tgt := 62) hx hb dX4_askIt_50 (by decide) (fun c4_ => ?_) (fun c4_ => ?_)
      · have h := pq_t c4_ h
        refine lv_aload_n hx hb dX4_askIt_62 rfl (lv_at hl 1 rfl) ?_
        refine va_get (D := D) (ci := 4) (v := .ref (q 1)) (C := RX4) (T := TX4) (N := 9) hx hb hts hin hown hK hP 0 rfl rfl 1 (by decide) (hta _ aw_687) (fun _ h9 => h9) rfl dX4_askIt_63 ?_
        refine lv_bipush (v := 18) hx hb dX4_askIt_66 (by decide) ?_
        refine lv_aload_n hx hb dX4_askIt_68 rfl (lv_at hl 1 rfl) ?_
        refine va_get (D := D) (ci := 4) (v := .ref (q 1)) (C := RX4) (T := TX4) (N := 9) hx hb hts hin hown hK hP 0 rfl rfl 1 (by decide) (hta _ aw_687) (fun _ h9 => h9) rfl dX4_askIt_69 ?_
        refine lv_bipush (v := 17) hx hb dX4_askIt_72 (by decide) ?_
        refine va_iald hx hb hK hP 1 0 rfl rfl (pq_vp (by decide +kernel)) dX4_askIt_74 ?_
        refine lv_iadd hx hb dX4_askIt_75 ?_
        refine lv_iload_n hx hb dX4_askIt_76 rfl (lv_at hl 2 rfl) ?_
        obtain ⟨hg, h⟩ := pq_g h
        refine va_iast hx hb hK hP hD hS 1 0 rfl rfl (pq_vp hg) dX4_askIt_77 (fun H locs hP hD hS => ?_)
        have hP : va_P D vwCl (WM cy q th (upd v4.2 (18 + (v4.2 (17 : Int32).toNatClampNeg)).toNatClampNeg x1) sv sn sp bf ty v2 hs) H := hP
        have hD : va_D A (WM cy q th (upd v4.2 (18 + (v4.2 (17 : Int32).toNatClampNeg)).toNatClampNeg x1) sv sn sp bf ty v2 hs) := hD
        refine lv_aload_n hx hb dX4_askIt_78 rfl (lv_at hl 1 rfl) ?_
        refine va_get (D := D) (ci := 4) (v := .ref (q 1)) (C := RX4) (T := TX4) (N := 9) hx hb hts hin hown hK hP 0 rfl rfl 1 (by decide) (hta _ aw_687) (fun _ h9 => h9) rfl dX4_askIt_79 ?_
        refine lv_bipush (v := 17) hx hb dX4_askIt_82 (by decide) ?_
        refine lv_dup2_11 hx hb dX4_askIt_84 rfl rfl ?_
        refine va_iald hx hb hK hP 1 0 rfl rfl (pq_vp (by decide +kernel)) dX4_askIt_85 ?_
        refine lv_iconst (v := 1) hx hb dX4_askIt_86 (by decide) ?_
        refine lv_iadd hx hb dX4_askIt_87 ?_
        refine va_iast hx hb hK hP hD hS 1 0 rfl rfl (pq_vp (by decide +kernel)) dX4_askIt_88 (fun H locs hP hD hS => ?_)
        have hP : va_P D vwCl (WM cy q th (upd (upd v4.2 (18 + (v4.2 (17 : Int32).toNatClampNeg)).toNatClampNeg x1) (17 : Int32).toNatClampNeg (((upd v4.2 (18 + (v4.2 (17 : Int32).toNatClampNeg)).toNatClampNeg x1) (17 : Int32).toNatClampNeg) + 1)) sv sn sp bf ty v2 hs) H := hP
        have hD : va_D A (WM cy q th (upd (upd v4.2 (18 + (v4.2 (17 : Int32).toNatClampNeg)).toNatClampNeg x1) (17 : Int32).toNatClampNeg (((upd v4.2 (18 + (v4.2 (17 : Int32).toNatClampNeg)).toNatClampNeg x1) (17 : Int32).toNatClampNeg) + 1)) sv sn sp bf ty v2 hs) := hD
        refine lv_aload_n hx hb dX4_askIt_89 rfl (lv_at hl 1 rfl) ?_
        refine lv_iload_n hx hb dX4_askIt_90 rfl (lv_at hl 2 rfl) ?_
        refine lv_iconst (v := 1) hx hb dX4_askIt_91 (by decide) ?_
        refine lv_aload_n hx hb dX4_askIt_92 rfl (lv_at hl 1 rfl) ?_
        refine va_get (D := D) (ci := 4) (v := .ref (q 1)) (C := RX4) (T := TX4) (N := 9) hx hb hts hin hown hK hP 0 rfl rfl 1 (by decide) (hta _ aw_687) (fun _ h9 => h9) rfl dX4_askIt_93 ?_
        refine lv_bipush (v := 9) hx hb dX4_askIt_96 (by decide) ?_
        refine va_iald hx hb hK hP 1 0 rfl rfl (pq_vp (by decide +kernel)) dX4_askIt_98 ?_
        obtain ⟨r7, hr7, h⟩ := pq_b h
        refine pw_cv (w1 := WM cy q th r7 sv sn sp bf ty v2 hs) (rest := []) (As := [.int x1, .int 1, .int ((upd (upd v4.2 (18 + (v4.2 (17 : Int32).toNatClampNeg)).toNatClampNeg x1) (17 : Int32).toNatClampNeg (((upd v4.2 (18 + (v4.2 (17 : Int32).toNatClampNeg)).toNatClampNeg x1) (17 : Int32).toNatClampNeg) + 1)) (9 : Int32).toNatClampNeg)]) hF (kX4_lay l D cy q _ th (upd (upd v4.2 (18 + (v4.2 (17 : Int32).toNatClampNeg)).toNatClampNeg x1) (17 : Int32).toNatClampNeg (((upd v4.2 (18 + (v4.2 (17 : Int32).toNatClampNeg)).toNatClampNeg x1) (17 : Int32).toNatClampNeg) + 1)) sv sn sp bf ty v2 hs x1 1 ((upd (upd v4.2 (18 + (v4.2 (17 : Int32).toNatClampNeg)).toNatClampNeg x1) (17 : Int32).toNatClampNeg (((upd v4.2 (18 + (v4.2 (17 : Int32).toNatClampNeg)).toNatClampNeg x1) (17 : Int32).toNatClampNeg) + 1)) (9 : Int32).toNatClampNeg) r7 hr7) (cwV 3 hts (pw_gV (own := RX4) (idx := 29) (C := RX4) (y := yX4_lay) aw_682 aw_684 aw_s18 aw_6 aw_685) rfl rfl rfl pX4_lay ⟨Nat.le_of_ble_eq_true rfl, Nat.le_of_ble_eq_true rfl⟩) (va_recv hK hP (ci := 4) (q0 := 0) rfl rfl) hK hP hD hS hA rfl rfl hl.1 rfl (Nat.le_of_ble_eq_true rfl) dX4_askIt_99 ⟨Nat.zero_le _, Nat.zero_le _⟩ (fun H locs hP hD hS => ?_)
        obtain rfl := Option.some.inj h
        exact J102_v6 _ _ _ hP hD hS (lv_sub hl [1, 2] rfl)
      · have h := pq_e c4_ h
        refine lv_aload_n hx hb dX4_askIt_53 rfl (lv_at hl 1 rfl) ?_
        refine lv_iload_n hx hb dX4_askIt_54 rfl (lv_at hl 0 rfl) ?_
        refine lv_iload_n hx hb dX4_askIt_55 rfl (lv_at hl 2 rfl) ?_
        obtain ⟨r8, hr8, h⟩ := pq_b h
        refine pw_cv (w1 := WM cy q th r8.1 sv sn sp bf ty r8.2 hs) (rest := []) (As := [.int v4.1, .int x1]) hF (kX4_lend l D cy q _ th v4.2 sv sn sp bf ty v2 hs v4.1 x1 r8 hr8) (cwV 2 hts (pw_gV (own := RX4) (idx := 95) (C := RX4) (y := yX4_lend) aw_800 aw_802 aw_s36 aw_6 aw_803) rfl rfl rfl pX4_lend ⟨Nat.le_of_ble_eq_true rfl, Nat.le_of_ble_eq_true rfl⟩) (va_recv hK hP (ci := 4) (q0 := 0) rfl rfl) hK hP hD hS hA rfl rfl hl.1 rfl (Nat.le_of_ble_eq_true rfl) dX4_askIt_56 ⟨Nat.zero_le _, Nat.zero_le _⟩ (fun H locs hP hD hS => ?_)
        refine lv_goto (tgt := 102) hx hb dX4_askIt_59 (by decide) ?_
        obtain rfl := Option.some.inj h
        exact J102_v6 _ _ _ hP hD hS (lv_sub hl [1, 2] rfl)
    clear h
    have h := hv4
    clear hv4
    refine lv_if_eq (tgt := 46) hx hb dX4_askIt_26 (by decide) (fun c2_ => ?_) (fun c2_ => ?_)
    · have h := pq_t c2_ h
      refine lv_iconst (v := (-1)) hx hb dX4_askIt_46 (by decide) ?_
      obtain rfl := Option.some.inj h
      exact J47_v4 _ _ _ hP hD hS (lv_sub hl [0, 1] rfl)
    · have h := pq_e c2_ h
      refine lv_aload_n hx hb dX4_askIt_29 rfl (lv_at hl 0 rfl) ?_
      refine va_get (D := D) (ci := 4) (v := .ref (q 1)) (C := RX4) (T := TX4) (N := 9) hx hb hts hin hown hK hP 0 rfl rfl 1 (by decide) (hta _ aw_687) (fun _ h9 => h9) rfl dX4_askIt_30 ?_
      refine lv_bipush (v := 17) hx hb dX4_askIt_33 (by decide) ?_
      refine va_iald hx hb hK hP 1 0 rfl rfl (pq_vp (by decide +kernel)) dX4_askIt_35 ?_
      refine lv_if_ne (tgt := 46) hx hb dX4_askIt_36 (by decide) (fun c3_ => ?_) (fun c3_ => ?_)
      · have h := pq_e c3_ h
        refine lv_iconst (v := (-1)) hx hb dX4_askIt_46 (by decide) ?_
        obtain rfl := Option.some.inj h
        exact J47_v4 _ _ _ hP hD hS (lv_sub hl [0, 1] rfl)
      · have h := pq_t c3_ h
        refine lv_aload_n hx hb dX4_askIt_39 rfl (lv_at hl 0 rfl) ?_
        obtain ⟨r5, hr5, h⟩ := pq_b h
        refine pw_ci (w1 := WM cy q th r5.2 sv sn sp bf ty v2 hs) (rest := []) (As := []) hF (kX4_look l D cy q _ th z sv sn sp bf ty v2 hs  r5 hr5) (cwV 0 hts (pw_gV (own := RX4) (idx := 85) (C := RX4) (y := yX4_look) aw_772 aw_774 aw_s29 aw_6 aw_775) rfl rfl rfl pX4_look ⟨Nat.le_of_ble_eq_true rfl, Nat.le_of_ble_eq_true rfl⟩) (va_recv hK hP (ci := 4) (q0 := 0) rfl rfl) hK hP hD hS hA rfl rfl hl.1 rfl (Nat.le_of_ble_eq_true rfl) dX4_askIt_40 ⟨Nat.zero_le _, Nat.zero_le _⟩ (fun H locs hP hD hS => ?_)
        refine lv_goto (tgt := 47) hx hb dX4_askIt_43 (by decide) ?_
        obtain rfl := Option.some.inj h
        exact J47_v4 _ _ _ hP hD hS (lv_sub hl [0, 1] rfl)
  clear h
  have L2_n1 : ∀ (n : Nat) (x2_2 : Int32) (gn_2 : Nat → Int32) (H : Heap) (locs : List Loc) (ls : Array Slot), fX4_askIt_L2  n x2_2 gn_2 = some v2 → va_P D vwCl (WM cy q th z sv sn sp bf ty gn_2 hs) H → va_D A (WM cy q th z sv sn sp bf ty gn_2 hs) → va_S A s.heap H locs → lv_has ls 3 [(0, .ref (q 0)), (1, .int x1), (2, .int x2_2)] → W p l e ({ frames := 6, cells := 0, slots := 0, locals := 131 } : Room) s m args below meth c H locs 0 0 Q (F0 m 2 ls []) := by
    intro n
    induction n with
    | zero =>
      intro x2_2 gn_2 H locs ls h hP hD hS hl
      exact pq_n h
    | succ n ih2 =>
      intro x2_2 gn_2 H locs ls h hP hD hS hl
      rw [fX4_askIt_L2] at h
      refine lv_iload_n hx hb dX4_askIt_2 rfl (lv_at hl 2 rfl) ?_
      refine lv_bipush (v := 8) hx hb dX4_askIt_3 (by decide) ?_
      refine lv_icmp_ge (tgt := 21) hx hb dX4_askIt_5 (by decide) (fun c1_ => ?_) (fun c1_ => ?_)
      · have h := pq_t c1_ h
        obtain rfl := Option.some.inj h
        exact X21_v2 _ _ _ hP hD hS (lv_sub hl [0, 1] rfl)
      · have h := pq_e c1_ h
        refine lv_aload_n hx hb dX4_askIt_8 rfl (lv_at hl 0 rfl) ?_
        refine va_get (D := D) (ci := 4) (v := .ref (q 7)) (C := RX4) (T := TX4) (N := 9) hx hb hts hin hown hK hP 0 rfl rfl 7 (by decide) (hta _ aw_693) (fun _ h9 => h9) rfl dX4_askIt_9 ?_
        refine lv_iload_n hx hb dX4_askIt_12 rfl (lv_at hl 2 rfl) ?_
        refine lv_iconst (v := (-1)) hx hb dX4_askIt_13 (by decide) ?_
        obtain ⟨hg, h⟩ := pq_g h
        refine va_iast hx hb hK hP hD hS 5 0 rfl rfl (pq_vp hg) dX4_askIt_14 (fun H locs hP hD hS => ?_)
        have hP : va_P D vwCl (WM cy q th z sv sn sp bf ty (upd gn_2 x2_2.toNatClampNeg (-1)) hs) H := hP
        have hD : va_D A (WM cy q th z sv sn sp bf ty (upd gn_2 x2_2.toNatClampNeg (-1)) hs) := hD
        refine lv_iinc (v := x2_2 + 1) (lv' := [(2, .int (x2_2 + 1)), (0, .ref (q 0)), (1, .int x1)]) hx hb dX4_askIt_15 hl (k := 2) rfl (by first | rfl | decide) (by decide) rfl (fun ls hl => ?_)
        refine lv_goto (tgt := 2) hx hb dX4_askIt_18 (by decide) ?_
        exact ih2 (x2_2 + 1) (upd gn_2 x2_2.toNatClampNeg (-1)) _ _ _ h hP hD hS (lv_sub hl [1, 2, 0] rfl)
  have h := hv2
  exact L2_n1 1000 0 gn _ _ _ h hP hD hS (lv_sub hl [1, 2, 0] rfl)

def aX4_canAsk : List Cond := Cond.code yX4_canAsk cX4_canAsk 2 (some .boolean) :: pw_all
theorem pX4_canAsk : yX4_canAsk.cls = RX4 ∧ yX4_canAsk.cls ≠ "java/lang/invoke/MethodHandle" ∧ yX4_canAsk.cls ≠ "java/lang/invoke/VarHandle" ∧ (parseMethodDescriptor yX4_canAsk.desc).map (fun d => d.parameters.length) = some 1 := by decide +kernel
set_option maxHeartbeats 8000000 in
set_option maxRecDepth 100000 in
theorem kX4_canAsk (l : Launch) (D : va_G) (cy : Nat → ClassId) (q : Nat → Nat) (sz : Nat) (th : Int32) (z : Nat → Int32) (sv : Nat → Int32) (sn : Int32) (sp : Nat → Int32) (bf : Nat → Int32) (ty : Int32) (gn : Nat → Int32) (hs : Int64) (x1 : Int32) (o : Int32) (h : fX4_canAsk x1 z = some o) : Met l yX4_canAsk aX4_canAsk ({ frames := 2, cells := 0, slots := 0, locals := 43 }) (pw_Pre D cy [.ref (q 0), .int x1] (WM cy q th z sv sn sp bf ty gn hs) sz) (pw_I D o (WM cy q th z sv sn sp bf ty gn hs) (WM cy q th z sv sn sp bf ty gn hs) sz) 0 0 (va_A (WM cy q th z sv sn sp bf ty gn hs) sz) := by
  refine pw_met (cc := cX4_canAsk) (maxL := 2) (ret := (some .boolean)) (by decide) rfl (Nat.le_of_ble_eq_true rfl) ?_
  intro p e s m args below meth c ls A hx hb hr hml hlk hts hown hAe hA hK hP hD hS hl
  have hl : lv_has ls 2 [(0, .ref (q 0)), (1, .int x1)] := hl
  generalize hQ : MQ below (pw_I D o (WM cy q th z sv sn sp bf ty gn hs) (WM cy q th z sv sn sp bf ty gn hs) sz) args s 0 0 (va_A (WM cy q th z sv sn sp bf ty gn hs) sz) = Q
  have hF : CallFix p m c cX4_canAsk 2 s args aX4_canAsk RX4 := ⟨hx, hb, hml, hown, hts⟩
  have hta : ∀ w ∈ pw_all, w.before args s = true := fun w h => hts w (List.mem_cons_of_mem _ h)
  have hin : ∀ w ∈ wsX40, w ∈ aX4_canAsk := fun w h => List.mem_cons_of_mem _ (inA4 w h)
  unfold fX4_canAsk at h
  refine lv_aload_n hx hb dX4_canAsk_0 rfl (lv_at hl 0 rfl) ?_
  refine lv_iload_n hx hb dX4_canAsk_1 rfl (lv_at hl 1 rfl) ?_
  obtain ⟨r1, hr1, h⟩ := pq_b h
  refine pw_ci (w1 := WM cy q th z sv sn sp bf ty gn hs) (rest := []) (As := [.int x1]) hF (kX4_isThere l D cy q _ th z sv sn sp bf ty gn hs x1 r1 hr1) (cwV 1 hts (pw_gV (own := RX4) (idx := 101) (C := RX4) (y := yX4_isThere) aw_736 aw_738 aw_s20 aw_6 aw_739) rfl rfl rfl pX4_isThere ⟨Nat.le_of_ble_eq_true rfl, Nat.le_of_ble_eq_true rfl⟩) (va_recv hK hP (ci := 4) (q0 := 0) rfl rfl) hK hP hD hS hA rfl rfl hl.1 rfl (Nat.le_of_ble_eq_true rfl) dX4_canAsk_2 ⟨Nat.zero_le _, Nat.zero_le _⟩ (fun H locs hP hD hS => ?_)
  refine lv_if_eq (tgt := 20) hx hb dX4_canAsk_5 (by decide) (fun c1_ => ?_) (fun c1_ => ?_)
  · have h := pq_t c1_ h
    refine lv_iconst (v := 0) hx hb dX4_canAsk_20 (by decide) ?_
    obtain rfl := Option.some.inj h
    subst hQ
    exact pw_rz hx hb hr rfl hlk hAe hP hS rfl dX4_canAsk_21
  · have h := pq_e c1_ h
    refine lv_aload_n hx hb dX4_canAsk_8 rfl (lv_at hl 0 rfl) ?_
    refine lv_iload_n hx hb dX4_canAsk_9 rfl (lv_at hl 1 rfl) ?_
    obtain ⟨r2, hr2, h⟩ := pq_b h
    refine pw_ci (w1 := WM cy q th z sv sn sp bf ty gn hs) (rest := []) (As := [.int x1]) hF (kX4_waits l D cy q _ th z sv sn sp bf ty gn hs x1 r2 hr2) (cwV 1 hts (pw_gV (own := RX4) (idx := 104) (C := RX4) (y := yX4_waits) aw_744 aw_746 aw_s22 aw_6 aw_747) rfl rfl rfl pX4_waits ⟨Nat.le_of_ble_eq_true rfl, Nat.le_of_ble_eq_true rfl⟩) (va_recv hK hP (ci := 4) (q0 := 0) rfl rfl) hK hP hD hS hA rfl rfl hl.1 rfl (Nat.le_of_ble_eq_true rfl) dX4_canAsk_10 ⟨Nat.zero_le _, Nat.zero_le _⟩ (fun H locs hP hD hS => ?_)
    refine lv_if_ne (tgt := 20) hx hb dX4_canAsk_13 (by decide) (fun c2_ => ?_) (fun c2_ => ?_)
    · have h := pq_e c2_ h
      refine lv_iconst (v := 0) hx hb dX4_canAsk_20 (by decide) ?_
      obtain rfl := Option.some.inj h
      subst hQ
      exact pw_rz hx hb hr rfl hlk hAe hP hS rfl dX4_canAsk_21
    · have h := pq_t c2_ h
      refine lv_iconst (v := 1) hx hb dX4_canAsk_16 (by decide) ?_
      refine lv_goto (tgt := 21) hx hb dX4_canAsk_17 (by decide) ?_
      obtain rfl := Option.some.inj h
      subst hQ
      exact pw_rz hx hb hr rfl hlk hAe hP hS rfl dX4_canAsk_21

def aX4_canGive : List Cond := Cond.code yX4_canGive cX4_canGive 2 (some .boolean) :: pw_all
theorem pX4_canGive : yX4_canGive.cls = RX4 ∧ yX4_canGive.cls ≠ "java/lang/invoke/MethodHandle" ∧ yX4_canGive.cls ≠ "java/lang/invoke/VarHandle" ∧ (parseMethodDescriptor yX4_canGive.desc).map (fun d => d.parameters.length) = some 1 := by decide +kernel
set_option maxHeartbeats 8000000 in
set_option maxRecDepth 100000 in
theorem kX4_canGive (l : Launch) (D : va_G) (cy : Nat → ClassId) (q : Nat → Nat) (sz : Nat) (th : Int32) (z : Nat → Int32) (sv : Nat → Int32) (sn : Int32) (sp : Nat → Int32) (bf : Nat → Int32) (ty : Int32) (gn : Nat → Int32) (hs : Int64) (x1 : Int32) (o : Int32) (h : fX4_canGive x1 z = some o) : Met l yX4_canGive aX4_canGive ({ frames := 2, cells := 0, slots := 0, locals := 44 }) (pw_Pre D cy [.ref (q 0), .int x1] (WM cy q th z sv sn sp bf ty gn hs) sz) (pw_I D o (WM cy q th z sv sn sp bf ty gn hs) (WM cy q th z sv sn sp bf ty gn hs) sz) 0 0 (va_A (WM cy q th z sv sn sp bf ty gn hs) sz) := by
  refine pw_met (cc := cX4_canGive) (maxL := 2) (ret := (some .boolean)) (by decide) rfl (Nat.le_of_ble_eq_true rfl) ?_
  intro p e s m args below meth c ls A hx hb hr hml hlk hts hown hAe hA hK hP hD hS hl
  have hl : lv_has ls 2 [(0, .ref (q 0)), (1, .int x1)] := hl
  generalize hQ : MQ below (pw_I D o (WM cy q th z sv sn sp bf ty gn hs) (WM cy q th z sv sn sp bf ty gn hs) sz) args s 0 0 (va_A (WM cy q th z sv sn sp bf ty gn hs) sz) = Q
  have hF : CallFix p m c cX4_canGive 2 s args aX4_canGive RX4 := ⟨hx, hb, hml, hown, hts⟩
  have hta : ∀ w ∈ pw_all, w.before args s = true := fun w h => hts w (List.mem_cons_of_mem _ h)
  have hin : ∀ w ∈ wsX40, w ∈ aX4_canGive := fun w h => List.mem_cons_of_mem _ (inA4 w h)
  unfold fX4_canGive at h
  refine lv_aload_n hx hb dX4_canGive_0 rfl (lv_at hl 0 rfl) ?_
  refine lv_iload_n hx hb dX4_canGive_1 rfl (lv_at hl 1 rfl) ?_
  refine lv_iconst (v := 2) hx hb dX4_canGive_2 (by decide) ?_
  obtain ⟨r1, hr1, h⟩ := pq_b h
  refine pw_ci (w1 := WM cy q th z sv sn sp bf ty gn hs) (rest := []) (As := [.int x1, .int 2]) hF (kX4_isIn l D cy q _ th z sv sn sp bf ty gn hs x1 2 r1 hr1) (cwV 2 hts (pw_gV (own := RX4) (idx := 50) (C := RX4) (y := yX4_isIn) aw_780 aw_782 aw_s31 aw_6 aw_783) rfl rfl rfl pX4_isIn ⟨Nat.le_of_ble_eq_true rfl, Nat.le_of_ble_eq_true rfl⟩) (va_recv hK hP (ci := 4) (q0 := 0) rfl rfl) hK hP hD hS hA rfl rfl hl.1 rfl (Nat.le_of_ble_eq_true rfl) dX4_canGive_3 ⟨Nat.zero_le _, Nat.zero_le _⟩ (fun H locs hP hD hS => ?_)
  refine lv_if_eq (tgt := 26) hx hb dX4_canGive_6 (by decide) (fun c1_ => ?_) (fun c1_ => ?_)
  · have h := pq_t c1_ h
    refine lv_iconst (v := 0) hx hb dX4_canGive_26 (by decide) ?_
    obtain rfl := Option.some.inj h
    subst hQ
    exact pw_rz hx hb hr rfl hlk hAe hP hS rfl dX4_canGive_27
  · have h := pq_e c1_ h
    refine lv_aload_n hx hb dX4_canGive_9 rfl (lv_at hl 0 rfl) ?_
    refine lv_aload_n hx hb dX4_canGive_10 rfl (lv_at hl 0 rfl) ?_
    refine lv_iload_n hx hb dX4_canGive_11 rfl (lv_at hl 1 rfl) ?_
    refine lv_iconst (v := 1) hx hb dX4_canGive_12 (by decide) ?_
    obtain ⟨r2, hr2, h⟩ := pq_b h
    refine pw_ci (w1 := WM cy q th z sv sn sp bf ty gn hs) (rest := [.ref (q 0)]) (As := [.int x1, .int 1]) hF (kX4_of l D cy q _ th z sv sn sp bf ty gn hs x1 1 r2 hr2) (cwV 2 hts (pw_gV (own := RX4) (idx := 40) (C := RX4) (y := yX4_of) aw_768 aw_770 aw_s28 aw_6 aw_771) rfl rfl rfl pX4_of ⟨Nat.le_of_ble_eq_true rfl, Nat.le_of_ble_eq_true rfl⟩) (va_recv hK hP (ci := 4) (q0 := 0) rfl rfl) hK hP hD hS hA rfl rfl hl.1 rfl (Nat.le_of_ble_eq_true rfl) dX4_canGive_13 ⟨Nat.zero_le _, Nat.zero_le _⟩ (fun H locs hP hD hS => ?_)
    obtain ⟨r3, hr3, h⟩ := pq_b h
    refine pw_ci (w1 := WM cy q th z sv sn sp bf ty gn hs) (rest := []) (As := [.int r2]) hF (kX4_isThere l D cy q _ th z sv sn sp bf ty gn hs r2 r3 hr3) (cwV 1 hts (pw_gV (own := RX4) (idx := 101) (C := RX4) (y := yX4_isThere) aw_736 aw_738 aw_s20 aw_6 aw_739) rfl rfl rfl pX4_isThere ⟨Nat.le_of_ble_eq_true rfl, Nat.le_of_ble_eq_true rfl⟩) (va_recv hK hP (ci := 4) (q0 := 0) rfl rfl) hK hP hD hS hA rfl rfl hl.1 rfl (Nat.le_of_ble_eq_true rfl) dX4_canGive_16 ⟨Nat.zero_le _, Nat.zero_le _⟩ (fun H locs hP hD hS => ?_)
    refine lv_if_eq (tgt := 26) hx hb dX4_canGive_19 (by decide) (fun c2_ => ?_) (fun c2_ => ?_)
    · have h := pq_t c2_ h
      refine lv_iconst (v := 0) hx hb dX4_canGive_26 (by decide) ?_
      obtain rfl := Option.some.inj h
      subst hQ
      exact pw_rz hx hb hr rfl hlk hAe hP hS rfl dX4_canGive_27
    · have h := pq_e c2_ h
      refine lv_iconst (v := 1) hx hb dX4_canGive_22 (by decide) ?_
      refine lv_goto (tgt := 27) hx hb dX4_canGive_23 (by decide) ?_
      obtain rfl := Option.some.inj h
      subst hQ
      exact pw_rz hx hb hr rfl hlk hAe hP hS rfl dX4_canGive_27

def aX4_giveIt : List Cond := Cond.code yX4_giveIt cX4_giveIt 2 (some .int) :: pw_all
theorem pX4_giveIt : yX4_giveIt.cls = RX4 ∧ yX4_giveIt.cls ≠ "java/lang/invoke/MethodHandle" ∧ yX4_giveIt.cls ≠ "java/lang/invoke/VarHandle" ∧ (parseMethodDescriptor yX4_giveIt.desc).map (fun d => d.parameters.length) = some 1 := by decide +kernel
set_option maxHeartbeats 8000000 in
set_option maxRecDepth 100000 in
theorem kX4_giveIt (l : Launch) (D : va_G) (cy : Nat → ClassId) (q : Nat → Nat) (sz : Nat) (th : Int32) (z : Nat → Int32) (sv : Nat → Int32) (sn : Int32) (sp : Nat → Int32) (bf : Nat → Int32) (ty : Int32) (gn : Nat → Int32) (hs : Int64) (x1 : Int32) (o : Int32 × (Nat → Int32) × (Nat → Int32)) (h : fX4_giveIt x1 z gn = some o) : Met l yX4_giveIt aX4_giveIt ({ frames := 6, cells := 0, slots := 0, locals := 131 }) (pw_Pre D cy [.ref (q 0), .int x1] (WM cy q th z sv sn sp bf ty gn hs) sz) (pw_I D o.1 (WM cy q th z sv sn sp bf ty gn hs) (WM cy q th o.2.1 sv sn sp bf ty o.2.2 hs) sz) 0 0 (va_A (WM cy q th z sv sn sp bf ty gn hs) sz) := by
  refine pw_met (cc := cX4_giveIt) (maxL := 2) (ret := (some .int)) (by decide) rfl (Nat.le_of_ble_eq_true rfl) ?_
  intro p e s m args below meth c ls A hx hb hr hml hlk hts hown hAe hA hK hP hD hS hl
  have hl : lv_has ls 2 [(0, .ref (q 0)), (1, .int x1)] := hl
  generalize hQ : MQ below (pw_I D o.1 (WM cy q th z sv sn sp bf ty gn hs) (WM cy q th o.2.1 sv sn sp bf ty o.2.2 hs) sz) args s 0 0 (va_A (WM cy q th z sv sn sp bf ty gn hs) sz) = Q
  have hF : CallFix p m c cX4_giveIt 2 s args aX4_giveIt RX4 := ⟨hx, hb, hml, hown, hts⟩
  have hta : ∀ w ∈ pw_all, w.before args s = true := fun w h => hts w (List.mem_cons_of_mem _ h)
  have hin : ∀ w ∈ wsX40, w ∈ aX4_giveIt := fun w h => List.mem_cons_of_mem _ (inA4 w h)
  unfold fX4_giveIt at h
  refine lv_aload_n hx hb dX4_giveIt_0 rfl (lv_at hl 0 rfl) ?_
  refine lv_iload_n hx hb dX4_giveIt_1 rfl (lv_at hl 1 rfl) ?_
  refine lv_iconst (v := 0) hx hb dX4_giveIt_2 (by decide) ?_
  refine lv_iconst (v := 1) hx hb dX4_giveIt_3 (by decide) ?_
  obtain ⟨r1, hr1, h⟩ := pq_b h
  refine pw_cv (w1 := WM cy q th r1 sv sn sp bf ty gn hs) (rest := []) (As := [.int x1, .int 0, .int 1]) hF (kX4_put l D cy q _ th z sv sn sp bf ty gn hs x1 0 1 r1 hr1) (cwV 3 hts (pw_gV (own := RX4) (idx := 25) (C := RX4) (y := yX4_put) aw_678 aw_680 aw_s17 aw_6 aw_681) rfl rfl rfl pX4_put ⟨Nat.le_of_ble_eq_true rfl, Nat.le_of_ble_eq_true rfl⟩) (va_recv hK hP (ci := 4) (q0 := 0) rfl rfl) hK hP hD hS hA rfl rfl hl.1 rfl (Nat.le_of_ble_eq_true rfl) dX4_giveIt_4 ⟨Nat.zero_le _, Nat.zero_le _⟩ (fun H locs hP hD hS => ?_)
  refine lv_aload_n hx hb dX4_giveIt_7 rfl (lv_at hl 0 rfl) ?_
  refine lv_iload_n hx hb dX4_giveIt_8 rfl (lv_at hl 1 rfl) ?_
  refine lv_iconst (v := 1) hx hb dX4_giveIt_9 (by decide) ?_
  refine lv_iconst (v := (-1)) hx hb dX4_giveIt_10 (by decide) ?_
  obtain ⟨r2, hr2, h⟩ := pq_b h
  refine pw_cv (w1 := WM cy q th r2 sv sn sp bf ty gn hs) (rest := []) (As := [.int x1, .int 1, .int (-1)]) hF (kX4_put l D cy q _ th r1 sv sn sp bf ty gn hs x1 1 (-1) r2 hr2) (cwV 3 hts (pw_gV (own := RX4) (idx := 25) (C := RX4) (y := yX4_put) aw_678 aw_680 aw_s17 aw_6 aw_681) rfl rfl rfl pX4_put ⟨Nat.le_of_ble_eq_true rfl, Nat.le_of_ble_eq_true rfl⟩) (va_recv hK hP (ci := 4) (q0 := 0) rfl rfl) hK hP hD hS hA rfl rfl hl.1 rfl (Nat.le_of_ble_eq_true rfl) dX4_giveIt_11 ⟨Nat.zero_le _, Nat.zero_le _⟩ (fun H locs hP hD hS => ?_)
  refine lv_aload_n hx hb dX4_giveIt_14 rfl (lv_at hl 0 rfl) ?_
  refine lv_iload_n hx hb dX4_giveIt_15 rfl (lv_at hl 1 rfl) ?_
  refine lv_iconst (v := 4) hx hb dX4_giveIt_16 (by decide) ?_
  refine lv_aload_n hx hb dX4_giveIt_17 rfl (lv_at hl 0 rfl) ?_
  refine va_get (D := D) (ci := 4) (v := .ref (q 1)) (C := RX4) (T := TX4) (N := 9) hx hb hts hin hown hK hP 0 rfl rfl 1 (by decide) (hta _ aw_687) (fun _ h9 => h9) rfl dX4_giveIt_18 ?_
  refine lv_bipush (v := 9) hx hb dX4_giveIt_21 (by decide) ?_
  refine va_iald hx hb hK hP 1 0 rfl rfl (pq_vp (by decide +kernel)) dX4_giveIt_23 ?_
  obtain ⟨r3, hr3, h⟩ := pq_b h
  refine pw_cv (w1 := WM cy q th r3 sv sn sp bf ty gn hs) (rest := []) (As := [.int x1, .int 4, .int (r2 (9 : Int32).toNatClampNeg)]) hF (kX4_put l D cy q _ th r2 sv sn sp bf ty gn hs x1 4 (r2 (9 : Int32).toNatClampNeg) r3 hr3) (cwV 3 hts (pw_gV (own := RX4) (idx := 25) (C := RX4) (y := yX4_put) aw_678 aw_680 aw_s17 aw_6 aw_681) rfl rfl rfl pX4_put ⟨Nat.le_of_ble_eq_true rfl, Nat.le_of_ble_eq_true rfl⟩) (va_recv hK hP (ci := 4) (q0 := 0) rfl rfl) hK hP hD hS hA rfl rfl hl.1 rfl (Nat.le_of_ble_eq_true rfl) dX4_giveIt_24 ⟨Nat.zero_le _, Nat.zero_le _⟩ (fun H locs hP hD hS => ?_)
  refine lv_aload_n hx hb dX4_giveIt_27 rfl (lv_at hl 0 rfl) ?_
  obtain ⟨r4, hr4, h⟩ := pq_b h
  refine pw_cv (w1 := WM cy q th r4.1 sv sn sp bf ty r4.2 hs) (rest := []) (As := []) hF (kX4_serve l D cy q _ th r3 sv sn sp bf ty gn hs  r4 hr4) (cwV 0 hts (pw_gV (own := RX4) (idx := 98) (C := RX4) (y := yX4_serve) aw_804 aw_806 aw_s37 aw_6 aw_807) rfl rfl rfl pX4_serve ⟨Nat.le_of_ble_eq_true rfl, Nat.le_of_ble_eq_true rfl⟩) (va_recv hK hP (ci := 4) (q0 := 0) rfl rfl) hK hP hD hS hA rfl rfl hl.1 rfl (Nat.le_of_ble_eq_true rfl) dX4_giveIt_28 ⟨Nat.zero_le _, Nat.zero_le _⟩ (fun H locs hP hD hS => ?_)
  refine lv_aload_n hx hb dX4_giveIt_31 rfl (lv_at hl 0 rfl) ?_
  refine lv_iload_n hx hb dX4_giveIt_32 rfl (lv_at hl 1 rfl) ?_
  refine lv_iconst (v := 1) hx hb dX4_giveIt_33 (by decide) ?_
  obtain ⟨r5, hr5, h⟩ := pq_b h
  refine pw_ci (w1 := WM cy q th r4.1 sv sn sp bf ty r4.2 hs) (rest := []) (As := [.int x1, .int 1]) hF (kX4_of l D cy q _ th r4.1 sv sn sp bf ty r4.2 hs x1 1 r5 hr5) (cwV 2 hts (pw_gV (own := RX4) (idx := 40) (C := RX4) (y := yX4_of) aw_768 aw_770 aw_s28 aw_6 aw_771) rfl rfl rfl pX4_of ⟨Nat.le_of_ble_eq_true rfl, Nat.le_of_ble_eq_true rfl⟩) (va_recv hK hP (ci := 4) (q0 := 0) rfl rfl) hK hP hD hS hA rfl rfl hl.1 rfl (Nat.le_of_ble_eq_true rfl) dX4_giveIt_34 ⟨Nat.zero_le _, Nat.zero_le _⟩ (fun H locs hP hD hS => ?_)
  obtain rfl := Option.some.inj h
  subst hQ
  exact pw_ri hx hb hr hlk hAe hP hS rfl dX4_giveIt_37

def aX4_appearIt : List Cond := Cond.code yX4_appearIt cX4_appearIt 3 (some .int) :: pw_all
theorem pX4_appearIt : yX4_appearIt.cls = RX4 ∧ yX4_appearIt.cls ≠ "java/lang/invoke/MethodHandle" ∧ yX4_appearIt.cls ≠ "java/lang/invoke/VarHandle" ∧ (parseMethodDescriptor yX4_appearIt.desc).map (fun d => d.parameters.length) = some 2 := by decide +kernel
set_option maxHeartbeats 8000000 in
set_option maxRecDepth 100000 in
theorem kX4_appearIt (l : Launch) (D : va_G) (cy : Nat → ClassId) (q : Nat → Nat) (sz : Nat) (th : Int32) (z : Nat → Int32) (sv : Nat → Int32) (sn : Int32) (sp : Nat → Int32) (bf : Nat → Int32) (ty : Int32) (gn : Nat → Int32) (hs : Int64) (x1 : Int32) (x2 : Int32) (o : Int32 × (Nat → Int32) × (Nat → Int32)) (h : fX4_appearIt x1 x2 z gn = some o) : Met l yX4_appearIt aX4_appearIt ({ frames := 6, cells := 0, slots := 0, locals := 131 }) (pw_Pre D cy [.ref (q 0), .int x1, .int x2] (WM cy q th z sv sn sp bf ty gn hs) sz) (pw_I D o.1 (WM cy q th z sv sn sp bf ty gn hs) (WM cy q th o.2.1 sv sn sp bf ty o.2.2 hs) sz) 0 0 (va_A (WM cy q th z sv sn sp bf ty gn hs) sz) := by
  refine pw_met (cc := cX4_appearIt) (maxL := 3) (ret := (some .int)) (by decide) rfl (Nat.le_of_ble_eq_true rfl) ?_
  intro p e s m args below meth c ls A hx hb hr hml hlk hts hown hAe hA hK hP hD hS hl
  have hl : lv_has ls 3 [(0, .ref (q 0)), (1, .int x1), (2, .int x2)] := hl
  generalize hQ : MQ below (pw_I D o.1 (WM cy q th z sv sn sp bf ty gn hs) (WM cy q th o.2.1 sv sn sp bf ty o.2.2 hs) sz) args s 0 0 (va_A (WM cy q th z sv sn sp bf ty gn hs) sz) = Q
  have hF : CallFix p m c cX4_appearIt 3 s args aX4_appearIt RX4 := ⟨hx, hb, hml, hown, hts⟩
  have hta : ∀ w ∈ pw_all, w.before args s = true := fun w h => hts w (List.mem_cons_of_mem _ h)
  have hin : ∀ w ∈ wsX40, w ∈ aX4_appearIt := fun w h => List.mem_cons_of_mem _ (inA4 w h)
  unfold fX4_appearIt at h
  refine lv_iload_n hx hb dX4_appearIt_0 rfl (lv_at hl 2 rfl) ?_
  obtain ⟨v1, hv1, h⟩ := pq_b h
  have J24_v1 : ∀ (H : Heap) (locs : List Loc) (ls : Array Slot), va_P D vwCl (WM cy q th v1 sv sn sp bf ty gn hs) H → va_D A (WM cy q th v1 sv sn sp bf ty gn hs) → va_S A s.heap H locs → lv_has ls 3 [(0, .ref (q 0)), (1, .int x1), (2, .int x2)] → W p l e ({ frames := 6, cells := 0, slots := 0, locals := 131 } : Room) s m args below meth c H locs 0 0 Q (F0 m 24 ls []) := by
    intro H locs ls hP hD hS hl
    refine lv_aload_n hx hb dX4_appearIt_24 rfl (lv_at hl 0 rfl) ?_
    refine lv_iload_n hx hb dX4_appearIt_25 rfl (lv_at hl 1 rfl) ?_
    refine lv_iconst (v := 0) hx hb dX4_appearIt_26 (by decide) ?_
    refine lv_iload_n hx hb dX4_appearIt_27 rfl (lv_at hl 2 rfl) ?_
    obtain ⟨v5, hv5, h⟩ := pq_b h
    have J36_v5 : ∀ (H : Heap) (locs : List Loc) (ls : Array Slot), va_P D vwCl (WM cy q th v1 sv sn sp bf ty gn hs) H → va_D A (WM cy q th v1 sv sn sp bf ty gn hs) → va_S A s.heap H locs → lv_has ls 3 [(0, .ref (q 0)), (1, .int x1)] → W p l e ({ frames := 6, cells := 0, slots := 0, locals := 131 } : Room) s m args below meth c H locs 0 0 Q (F0 m 36 ls [.int v5, .int 0, .int x1, .ref (q 0)]) := by
      intro H locs ls hP hD hS hl
      obtain ⟨r6, hr6, h⟩ := pq_b h
      refine pw_cv (w1 := WM cy q th r6 sv sn sp bf ty gn hs) (rest := []) (As := [.int x1, .int 0, .int v5]) hF (kX4_lay l D cy q _ th v1 sv sn sp bf ty gn hs x1 0 v5 r6 hr6) (cwV 3 hts (pw_gV (own := RX4) (idx := 29) (C := RX4) (y := yX4_lay) aw_682 aw_684 aw_s18 aw_6 aw_685) rfl rfl rfl pX4_lay ⟨Nat.le_of_ble_eq_true rfl, Nat.le_of_ble_eq_true rfl⟩) (va_recv hK hP (ci := 4) (q0 := 0) rfl rfl) hK hP hD hS hA rfl rfl hl.1 rfl (Nat.le_of_ble_eq_true rfl) dX4_appearIt_36 ⟨Nat.zero_le _, Nat.zero_le _⟩ (fun H locs hP hD hS => ?_)
      refine lv_aload_n hx hb dX4_appearIt_39 rfl (lv_at hl 0 rfl) ?_
      obtain ⟨r7, hr7, h⟩ := pq_b h
      refine pw_cv (w1 := WM cy q th r7.1 sv sn sp bf ty r7.2 hs) (rest := []) (As := []) hF (kX4_serve l D cy q _ th r6 sv sn sp bf ty gn hs  r7 hr7) (cwV 0 hts (pw_gV (own := RX4) (idx := 98) (C := RX4) (y := yX4_serve) aw_804 aw_806 aw_s37 aw_6 aw_807) rfl rfl rfl pX4_serve ⟨Nat.le_of_ble_eq_true rfl, Nat.le_of_ble_eq_true rfl⟩) (va_recv hK hP (ci := 4) (q0 := 0) rfl rfl) hK hP hD hS hA rfl rfl hl.1 rfl (Nat.le_of_ble_eq_true rfl) dX4_appearIt_40 ⟨Nat.zero_le _, Nat.zero_le _⟩ (fun H locs hP hD hS => ?_)
      refine lv_aload_n hx hb dX4_appearIt_43 rfl (lv_at hl 0 rfl) ?_
      refine lv_iload_n hx hb dX4_appearIt_44 rfl (lv_at hl 1 rfl) ?_
      obtain ⟨r8, hr8, h⟩ := pq_b h
      refine pw_ci (w1 := WM cy q th r7.1 sv sn sp bf ty r7.2 hs) (rest := []) (As := [.int x1]) hF (kX4_lentTo l D cy q _ th r7.1 sv sn sp bf ty r7.2 hs x1 r8 hr8) (cwV 1 hts (pw_gV (own := RX4) (idx := 58) (C := RX4) (y := yX4_lentTo) aw_764 aw_766 aw_s27 aw_6 aw_767) rfl rfl rfl pX4_lentTo ⟨Nat.le_of_ble_eq_true rfl, Nat.le_of_ble_eq_true rfl⟩) (va_recv hK hP (ci := 4) (q0 := 0) rfl rfl) hK hP hD hS hA rfl rfl hl.1 rfl (Nat.le_of_ble_eq_true rfl) dX4_appearIt_45 ⟨Nat.zero_le _, Nat.zero_le _⟩ (fun H locs hP hD hS => ?_)
      obtain rfl := Option.some.inj h
      subst hQ
      exact pw_ri hx hb hr hlk hAe hP hS rfl dX4_appearIt_48
    clear h
    have h := hv5
    clear hv5
    refine lv_if_eq (tgt := 35) hx hb dX4_appearIt_28 (by decide) (fun c3_ => ?_) (fun c3_ => ?_)
    · have h := pq_t c3_ h
      refine lv_iconst (v := 0) hx hb dX4_appearIt_35 (by decide) ?_
      obtain rfl := Option.some.inj h
      exact J36_v5 _ _ _ hP hD hS (lv_sub hl [0, 1] rfl)
    · have h := pq_e c3_ h
      refine lv_iconst (v := 1) hx hb dX4_appearIt_31 (by decide) ?_
      refine lv_goto (tgt := 36) hx hb dX4_appearIt_32 (by decide) ?_
      obtain rfl := Option.some.inj h
      exact J36_v5 _ _ _ hP hD hS (lv_sub hl [0, 1] rfl)
  clear h
  have h := hv1
  clear hv1
  refine lv_if_ne (tgt := 24) hx hb dX4_appearIt_1 (by decide) (fun c1_ => ?_) (fun c1_ => ?_)
  · have h := pq_e c1_ h
    obtain rfl := Option.some.inj h
    exact J24_v1 _ _ _ hP hD hS (lv_sub hl [0, 1, 2] rfl)
  · have h := pq_t c1_ h
    refine lv_aload_n hx hb dX4_appearIt_4 rfl (lv_at hl 0 rfl) ?_
    refine lv_iload_n hx hb dX4_appearIt_5 rfl (lv_at hl 1 rfl) ?_
    obtain ⟨r2, hr2, h⟩ := pq_b h
    refine pw_ci (w1 := WM cy q th z sv sn sp bf ty gn hs) (rest := []) (As := [.int x1]) hF (kX4_waits l D cy q _ th z sv sn sp bf ty gn hs x1 r2 hr2) (cwV 1 hts (pw_gV (own := RX4) (idx := 104) (C := RX4) (y := yX4_waits) aw_744 aw_746 aw_s22 aw_6 aw_747) rfl rfl rfl pX4_waits ⟨Nat.le_of_ble_eq_true rfl, Nat.le_of_ble_eq_true rfl⟩) (va_recv hK hP (ci := 4) (q0 := 0) rfl rfl) hK hP hD hS hA rfl rfl hl.1 rfl (Nat.le_of_ble_eq_true rfl) dX4_appearIt_6 ⟨Nat.zero_le _, Nat.zero_le _⟩ (fun H locs hP hD hS => ?_)
    refine lv_if_eq (tgt := 24) hx hb dX4_appearIt_9 (by decide) (fun c2_ => ?_) (fun c2_ => ?_)
    · have h := pq_t c2_ h
      obtain rfl := Option.some.inj h
      exact J24_v1 _ _ _ hP hD hS (lv_sub hl [0, 1, 2] rfl)
    · have h := pq_e c2_ h
      refine lv_aload_n hx hb dX4_appearIt_12 rfl (lv_at hl 0 rfl) ?_
      refine lv_iload_n hx hb dX4_appearIt_13 rfl (lv_at hl 1 rfl) ?_
      obtain ⟨r3, hr3, h⟩ := pq_b h
      refine pw_cv (w1 := WM cy q th r3 sv sn sp bf ty gn hs) (rest := []) (As := [.int x1]) hF (kX4_leaveQueue l D cy q _ th z sv sn sp bf ty gn hs x1 r3 hr3) (cwV 1 hts (pw_gV (own := RX4) (idx := 91) (C := RX4) (y := yX4_leaveQueue) aw_816 aw_818 aw_s40 aw_6 aw_819) rfl rfl rfl pX4_leaveQueue ⟨Nat.le_of_ble_eq_true rfl, Nat.le_of_ble_eq_true rfl⟩) (va_recv hK hP (ci := 4) (q0 := 0) rfl rfl) hK hP hD hS hA rfl rfl hl.1 rfl (Nat.le_of_ble_eq_true rfl) dX4_appearIt_14 ⟨Nat.zero_le _, Nat.zero_le _⟩ (fun H locs hP hD hS => ?_)
      refine lv_aload_n hx hb dX4_appearIt_17 rfl (lv_at hl 0 rfl) ?_
      refine lv_iload_n hx hb dX4_appearIt_18 rfl (lv_at hl 1 rfl) ?_
      refine lv_iconst (v := 1) hx hb dX4_appearIt_19 (by decide) ?_
      refine lv_iconst (v := 0) hx hb dX4_appearIt_20 (by decide) ?_
      obtain ⟨r4, hr4, h⟩ := pq_b h
      refine pw_cv (w1 := WM cy q th r4 sv sn sp bf ty gn hs) (rest := []) (As := [.int x1, .int 1, .int 0]) hF (kX4_lay l D cy q _ th r3 sv sn sp bf ty gn hs x1 1 0 r4 hr4) (cwV 3 hts (pw_gV (own := RX4) (idx := 29) (C := RX4) (y := yX4_lay) aw_682 aw_684 aw_s18 aw_6 aw_685) rfl rfl rfl pX4_lay ⟨Nat.le_of_ble_eq_true rfl, Nat.le_of_ble_eq_true rfl⟩) (va_recv hK hP (ci := 4) (q0 := 0) rfl rfl) hK hP hD hS hA rfl rfl hl.1 rfl (Nat.le_of_ble_eq_true rfl) dX4_appearIt_21 ⟨Nat.zero_le _, Nat.zero_le _⟩ (fun H locs hP hD hS => ?_)
      obtain rfl := Option.some.inj h
      exact J24_v1 _ _ _ hP hD hS (lv_sub hl [0, 1, 2] rfl)

def aX4_checkAll : List Cond := Cond.code yX4_checkAll cX4_checkAll 3 (some .int) :: pw_all
theorem pX4_checkAll : yX4_checkAll.cls = RX4 ∧ yX4_checkAll.cls ≠ "java/lang/invoke/MethodHandle" ∧ yX4_checkAll.cls ≠ "java/lang/invoke/VarHandle" ∧ (parseMethodDescriptor yX4_checkAll.desc).map (fun d => d.parameters.length) = some 0 := by decide +kernel
set_option maxHeartbeats 8000000 in
set_option maxRecDepth 100000 in
theorem kX4_checkAll (l : Launch) (D : va_G) (cy : Nat → ClassId) (q : Nat → Nat) (sz : Nat) (th : Int32) (z : Nat → Int32) (sv : Nat → Int32) (sn : Int32) (sp : Nat → Int32) (bf : Nat → Int32) (ty : Int32) (gn : Nat → Int32) (hs : Int64)  (o : Int32 × (Nat → Int32)) (h : fX4_checkAll z = some o) : Met l yX4_checkAll aX4_checkAll ({ frames := 2, cells := 0, slots := 0, locals := 45 }) (pw_Pre D cy [.ref (q 0)] (WM cy q th z sv sn sp bf ty gn hs) sz) (pw_I D o.1 (WM cy q th z sv sn sp bf ty gn hs) (WM cy q th o.2 sv sn sp bf ty gn hs) sz) 0 0 (va_A (WM cy q th z sv sn sp bf ty gn hs) sz) := by
  refine pw_met (cc := cX4_checkAll) (maxL := 3) (ret := (some .int)) (by decide) rfl (Nat.le_of_ble_eq_true rfl) ?_
  intro p e s m args below meth c ls A hx hb hr hml hlk hts hown hAe hA hK hP hD hS hl
  have hl : lv_has ls 3 [(0, .ref (q 0))] := hl
  generalize hQ : MQ below (pw_I D o.1 (WM cy q th z sv sn sp bf ty gn hs) (WM cy q th o.2 sv sn sp bf ty gn hs) sz) args s 0 0 (va_A (WM cy q th z sv sn sp bf ty gn hs) sz) = Q
  have hF : CallFix p m c cX4_checkAll 3 s args aX4_checkAll RX4 := ⟨hx, hb, hml, hown, hts⟩
  have hta : ∀ w ∈ pw_all, w.before args s = true := fun w h => hts w (List.mem_cons_of_mem _ h)
  have hin : ∀ w ∈ wsX40, w ∈ aX4_checkAll := fun w h => List.mem_cons_of_mem _ (inA4 w h)
  unfold fX4_checkAll at h
  refine lv_iconst (v := 0) hx hb dX4_checkAll_0 (by decide) ?_
  refine lv_istore_n (lv' := [(1, .int 0), (0, .ref (q 0))]) hx hb dX4_checkAll_1 rfl hl (by decide) rfl (fun ls hl => ?_)
  refine lv_iconst (v := 0) hx hb dX4_checkAll_2 (by decide) ?_
  refine lv_istore_n (lv' := [(2, .int 0), (1, .int 0), (0, .ref (q 0))]) hx hb dX4_checkAll_3 rfl hl (by decide) rfl (fun ls hl => ?_)
  have L4_n1 : ∀ (n : Nat) (x1_4 : Int32) (x2_4 : Int32) (z_4 : Nat → Int32) (H : Heap) (locs : List Loc) (ls : Array Slot), fX4_checkAll_L4  n x1_4 x2_4 z_4 = some o → va_P D vwCl (WM cy q th z_4 sv sn sp bf ty gn hs) H → va_D A (WM cy q th z_4 sv sn sp bf ty gn hs) → va_S A s.heap H locs → lv_has ls 3 [(0, .ref (q 0)), (1, .int x1_4), (2, .int x2_4)] → W p l e ({ frames := 2, cells := 0, slots := 0, locals := 45 } : Room) s m args below meth c H locs 0 0 Q (F0 m 4 ls []) := by
    intro n
    induction n with
    | zero =>
      intro x1_4 x2_4 z_4 H locs ls h hP hD hS hl
      exact pq_n h
    | succ n ih4 =>
      intro x1_4 x2_4 z_4 H locs ls h hP hD hS hl
      rw [fX4_checkAll_L4] at h
      refine lv_iload_n hx hb dX4_checkAll_4 rfl (lv_at hl 2 rfl) ?_
      refine lv_bipush (v := 8) hx hb dX4_checkAll_5 (by decide) ?_
      refine lv_icmp_ge (tgt := 56) hx hb dX4_checkAll_7 (by decide) (fun c1_ => ?_) (fun c1_ => ?_)
      · have h := pq_t c1_ h
        refine lv_iload_n hx hb dX4_checkAll_56 rfl (lv_at hl 1 rfl) ?_
        obtain rfl := Option.some.inj h
        subst hQ
        exact pw_ri hx hb hr hlk hAe hP hS rfl dX4_checkAll_57
      · have h := pq_e c1_ h
        refine lv_aload_n hx hb dX4_checkAll_10 rfl (lv_at hl 0 rfl) ?_
        refine lv_iload_n hx hb dX4_checkAll_11 rfl (lv_at hl 2 rfl) ?_
        refine lv_iconst (v := 1) hx hb dX4_checkAll_12 (by decide) ?_
        obtain ⟨r2, hr2, h⟩ := pq_b h
        refine pw_ci (w1 := WM cy q th z_4 sv sn sp bf ty gn hs) (rest := []) (As := [.int x2_4, .int 1]) hF (kX4_isIn l D cy q _ th z_4 sv sn sp bf ty gn hs x2_4 1 r2 hr2) (cwV 2 hts (pw_gV (own := RX4) (idx := 50) (C := RX4) (y := yX4_isIn) aw_780 aw_782 aw_s31 aw_6 aw_783) rfl rfl rfl pX4_isIn ⟨Nat.le_of_ble_eq_true rfl, Nat.le_of_ble_eq_true rfl⟩) (va_recv hK hP (ci := 4) (q0 := 0) rfl rfl) hK hP hD hS hA rfl rfl hl.1 rfl (Nat.le_of_ble_eq_true rfl) dX4_checkAll_13 ⟨Nat.zero_le _, Nat.zero_le _⟩ (fun H locs hP hD hS => ?_)
        refine lv_if_eq (tgt := 50) hx hb dX4_checkAll_16 (by decide) (fun c2_ => ?_) (fun c2_ => ?_)
        · have h := pq_t c2_ h
          refine lv_iinc (v := x2_4 + 1) (lv' := [(2, .int (x2_4 + 1)), (0, .ref (q 0)), (1, .int x1_4)]) hx hb dX4_checkAll_50 hl (k := 2) rfl (by first | rfl | decide) (by decide) rfl (fun ls hl => ?_)
          refine lv_goto (tgt := 4) hx hb dX4_checkAll_53 (by decide) ?_
          exact ih4 x1_4 (x2_4 + 1) z_4 _ _ _ h hP hD hS (lv_sub hl [1, 2, 0] rfl)
        · have h := pq_e c2_ h
          refine lv_aload_n hx hb dX4_checkAll_19 rfl (lv_at hl 0 rfl) ?_
          refine va_get (D := D) (ci := 4) (v := .ref (q 1)) (C := RX4) (T := TX4) (N := 9) hx hb hts hin hown hK hP 0 rfl rfl 1 (by decide) (hta _ aw_687) (fun _ h9 => h9) rfl dX4_checkAll_20 ?_
          refine lv_bipush (v := 15) hx hb dX4_checkAll_23 (by decide) ?_
          refine lv_dup2_11 hx hb dX4_checkAll_25 rfl rfl ?_
          refine va_iald hx hb hK hP 1 0 rfl rfl (pq_vp (by decide +kernel)) dX4_checkAll_26 ?_
          refine lv_iconst (v := 1) hx hb dX4_checkAll_27 (by decide) ?_
          refine lv_iadd hx hb dX4_checkAll_28 ?_
          refine va_iast hx hb hK hP hD hS 1 0 rfl rfl (pq_vp (by decide +kernel)) dX4_checkAll_29 (fun H locs hP hD hS => ?_)
          have hP : va_P D vwCl (WM cy q th (upd z_4 (15 : Int32).toNatClampNeg ((z_4 (15 : Int32).toNatClampNeg) + 1)) sv sn sp bf ty gn hs) H := hP
          have hD : va_D A (WM cy q th (upd z_4 (15 : Int32).toNatClampNeg ((z_4 (15 : Int32).toNatClampNeg) + 1)) sv sn sp bf ty gn hs) := hD
          refine lv_aload_n hx hb dX4_checkAll_30 rfl (lv_at hl 0 rfl) ?_
          refine lv_iload_n hx hb dX4_checkAll_31 rfl (lv_at hl 2 rfl) ?_
          refine lv_iconst (v := 2) hx hb dX4_checkAll_32 (by decide) ?_
          obtain ⟨r3, hr3, h⟩ := pq_b h
          refine pw_ci (w1 := WM cy q th (upd z_4 (15 : Int32).toNatClampNeg ((z_4 (15 : Int32).toNatClampNeg) + 1)) sv sn sp bf ty gn hs) (rest := []) (As := [.int x2_4, .int 2]) hF (kX4_of l D cy q _ th (upd z_4 (15 : Int32).toNatClampNeg ((z_4 (15 : Int32).toNatClampNeg) + 1)) sv sn sp bf ty gn hs x2_4 2 r3 hr3) (cwV 2 hts (pw_gV (own := RX4) (idx := 40) (C := RX4) (y := yX4_of) aw_768 aw_770 aw_s28 aw_6 aw_771) rfl rfl rfl pX4_of ⟨Nat.le_of_ble_eq_true rfl, Nat.le_of_ble_eq_true rfl⟩) (va_recv hK hP (ci := 4) (q0 := 0) rfl rfl) hK hP hD hS hA rfl rfl hl.1 rfl (Nat.le_of_ble_eq_true rfl) dX4_checkAll_33 ⟨Nat.zero_le _, Nat.zero_le _⟩ (fun H locs hP hD hS => ?_)
          refine lv_iconst (v := 1) hx hb dX4_checkAll_36 (by decide) ?_
          refine lv_icmp_ne (tgt := 50) hx hb dX4_checkAll_37 (by decide) (fun c3_ => ?_) (fun c3_ => ?_)
          · have h := pq_e c3_ h
            refine lv_iinc (v := x2_4 + 1) (lv' := [(2, .int (x2_4 + 1)), (0, .ref (q 0)), (1, .int x1_4)]) hx hb dX4_checkAll_50 hl (k := 2) rfl (by first | rfl | decide) (by decide) rfl (fun ls hl => ?_)
            refine lv_goto (tgt := 4) hx hb dX4_checkAll_53 (by decide) ?_
            exact ih4 x1_4 (x2_4 + 1) (upd z_4 (15 : Int32).toNatClampNeg ((z_4 (15 : Int32).toNatClampNeg) + 1)) _ _ _ h hP hD hS (lv_sub hl [1, 2, 0] rfl)
          · have h := pq_t c3_ h
            refine lv_aload_n hx hb dX4_checkAll_40 rfl (lv_at hl 0 rfl) ?_
            refine lv_iload_n hx hb dX4_checkAll_41 rfl (lv_at hl 2 rfl) ?_
            refine lv_bipush (v := 12) hx hb dX4_checkAll_42 (by decide) ?_
            obtain ⟨r4, hr4, h⟩ := pq_b h
            refine pw_cv (w1 := WM cy q th r4 sv sn sp bf ty gn hs) (rest := []) (As := [.int x2_4, .int 12]) hF (kX4_close l D cy q _ th (upd z_4 (15 : Int32).toNatClampNeg ((z_4 (15 : Int32).toNatClampNeg) + 1)) sv sn sp bf ty gn hs x2_4 12 r4 hr4) (cwV 2 hts (pw_gV (own := RX4) (idx := 65) (C := RX4) (y := yX4_close) aw_784 aw_786 aw_s32 aw_6 aw_787) rfl rfl rfl pX4_close ⟨Nat.le_of_ble_eq_true rfl, Nat.le_of_ble_eq_true rfl⟩) (va_recv hK hP (ci := 4) (q0 := 0) rfl rfl) hK hP hD hS hA rfl rfl hl.1 rfl (Nat.le_of_ble_eq_true rfl) dX4_checkAll_44 ⟨Nat.zero_le _, Nat.zero_le _⟩ (fun H locs hP hD hS => ?_)
            refine lv_iinc (v := x1_4 + 1) (lv' := [(1, .int (x1_4 + 1)), (0, .ref (q 0)), (2, .int x2_4)]) hx hb dX4_checkAll_47 hl (k := 1) rfl (by first | rfl | decide) (by decide) rfl (fun ls hl => ?_)
            refine lv_iinc (v := x2_4 + 1) (lv' := [(2, .int (x2_4 + 1)), (1, .int (x1_4 + 1)), (0, .ref (q 0))]) hx hb dX4_checkAll_50 hl (k := 2) rfl (by first | rfl | decide) (by decide) rfl (fun ls hl => ?_)
            refine lv_goto (tgt := 4) hx hb dX4_checkAll_53 (by decide) ?_
            exact ih4 (x1_4 + 1) (x2_4 + 1) r4 _ _ _ h hP hD hS (lv_sub hl [2, 1, 0] rfl)
  exact L4_n1 1000 0 0 z _ _ _ h hP hD hS (lv_sub hl [2, 1, 0] rfl)

def aX4_sickenIt : List Cond := Cond.code yX4_sickenIt cX4_sickenIt 3 (some .int) :: pw_all
theorem pX4_sickenIt : yX4_sickenIt.cls = RX4 ∧ yX4_sickenIt.cls ≠ "java/lang/invoke/MethodHandle" ∧ yX4_sickenIt.cls ≠ "java/lang/invoke/VarHandle" ∧ (parseMethodDescriptor yX4_sickenIt.desc).map (fun d => d.parameters.length) = some 1 := by decide +kernel
set_option maxHeartbeats 8000000 in
set_option maxRecDepth 100000 in
theorem kX4_sickenIt (l : Launch) (D : va_G) (cy : Nat → ClassId) (q : Nat → Nat) (sz : Nat) (th : Int32) (z : Nat → Int32) (sv : Nat → Int32) (sn : Int32) (sp : Nat → Int32) (bf : Nat → Int32) (ty : Int32) (gn : Nat → Int32) (hs : Int64) (x1 : Int32) (o : Int32 × (Nat → Int32) × (Nat → Int32)) (h : fX4_sickenIt x1 z gn = some o) : Met l yX4_sickenIt aX4_sickenIt ({ frames := 6, cells := 0, slots := 0, locals := 131 }) (pw_Pre D cy [.ref (q 0), .int x1] (WM cy q th z sv sn sp bf ty gn hs) sz) (pw_I D o.1 (WM cy q th z sv sn sp bf ty gn hs) (WM cy q th o.2.1 sv sn sp bf ty o.2.2 hs) sz) 0 0 (va_A (WM cy q th z sv sn sp bf ty gn hs) sz) := by
  refine pw_met (cc := cX4_sickenIt) (maxL := 3) (ret := (some .int)) (by decide) rfl (Nat.le_of_ble_eq_true rfl) ?_
  intro p e s m args below meth c ls A hx hb hr hml hlk hts hown hAe hA hK hP hD hS hl
  have hl : lv_has ls 3 [(0, .ref (q 0)), (1, .int x1)] := hl
  generalize hQ : MQ below (pw_I D o.1 (WM cy q th z sv sn sp bf ty gn hs) (WM cy q th o.2.1 sv sn sp bf ty o.2.2 hs) sz) args s 0 0 (va_A (WM cy q th z sv sn sp bf ty gn hs) sz) = Q
  have hF : CallFix p m c cX4_sickenIt 3 s args aX4_sickenIt RX4 := ⟨hx, hb, hml, hown, hts⟩
  have hta : ∀ w ∈ pw_all, w.before args s = true := fun w h => hts w (List.mem_cons_of_mem _ h)
  have hin : ∀ w ∈ wsX40, w ∈ aX4_sickenIt := fun w h => List.mem_cons_of_mem _ (inA4 w h)
  unfold fX4_sickenIt at h
  refine lv_aload_n hx hb dX4_sickenIt_0 rfl (lv_at hl 0 rfl) ?_
  refine lv_iload_n hx hb dX4_sickenIt_1 rfl (lv_at hl 1 rfl) ?_
  refine lv_iconst (v := 2) hx hb dX4_sickenIt_2 (by decide) ?_
  obtain ⟨r1, hr1, h⟩ := pq_b h
  refine pw_ci (w1 := WM cy q th z sv sn sp bf ty gn hs) (rest := []) (As := [.int x1, .int 2]) hF (kX4_of l D cy q _ th z sv sn sp bf ty gn hs x1 2 r1 hr1) (cwV 2 hts (pw_gV (own := RX4) (idx := 40) (C := RX4) (y := yX4_of) aw_768 aw_770 aw_s28 aw_6 aw_771) rfl rfl rfl pX4_of ⟨Nat.le_of_ble_eq_true rfl, Nat.le_of_ble_eq_true rfl⟩) (va_recv hK hP (ci := 4) (q0 := 0) rfl rfl) hK hP hD hS hA rfl rfl hl.1 rfl (Nat.le_of_ble_eq_true rfl) dX4_sickenIt_3 ⟨Nat.zero_le _, Nat.zero_le _⟩ (fun H locs hP hD hS => ?_)
  refine lv_istore_n (lv' := [(2, .int r1), (0, .ref (q 0)), (1, .int x1)]) hx hb dX4_sickenIt_6 rfl hl (by decide) rfl (fun ls hl => ?_)
  refine lv_aload_n hx hb dX4_sickenIt_7 rfl (lv_at hl 1 rfl) ?_
  refine lv_iload_n hx hb dX4_sickenIt_8 rfl (lv_at hl 2 rfl) ?_
  refine lv_iconst (v := 2) hx hb dX4_sickenIt_9 (by decide) ?_
  refine lv_iconst (v := 1) hx hb dX4_sickenIt_10 (by decide) ?_
  obtain ⟨r2, hr2, h⟩ := pq_b h
  refine pw_cv (w1 := WM cy q th r2 sv sn sp bf ty gn hs) (rest := []) (As := [.int x1, .int 2, .int 1]) hF (kX4_put l D cy q _ th z sv sn sp bf ty gn hs x1 2 1 r2 hr2) (cwV 3 hts (pw_gV (own := RX4) (idx := 25) (C := RX4) (y := yX4_put) aw_678 aw_680 aw_s17 aw_6 aw_681) rfl rfl rfl pX4_put ⟨Nat.le_of_ble_eq_true rfl, Nat.le_of_ble_eq_true rfl⟩) (va_recv hK hP (ci := 4) (q0 := 0) rfl rfl) hK hP hD hS hA rfl rfl hl.1 rfl (Nat.le_of_ble_eq_true rfl) dX4_sickenIt_11 ⟨Nat.zero_le _, Nat.zero_le _⟩ (fun H locs hP hD hS => ?_)
  refine lv_aload_n hx hb dX4_sickenIt_14 rfl (lv_at hl 1 rfl) ?_
  obtain ⟨r3, hr3, h⟩ := pq_b h
  refine pw_cv (w1 := WM cy q th r3.1 sv sn sp bf ty r3.2 hs) (rest := []) (As := []) hF (kX4_serve l D cy q _ th r2 sv sn sp bf ty gn hs  r3 hr3) (cwV 0 hts (pw_gV (own := RX4) (idx := 98) (C := RX4) (y := yX4_serve) aw_804 aw_806 aw_s37 aw_6 aw_807) rfl rfl rfl pX4_serve ⟨Nat.le_of_ble_eq_true rfl, Nat.le_of_ble_eq_true rfl⟩) (va_recv hK hP (ci := 4) (q0 := 0) rfl rfl) hK hP hD hS hA rfl rfl hl.1 rfl (Nat.le_of_ble_eq_true rfl) dX4_sickenIt_15 ⟨Nat.zero_le _, Nat.zero_le _⟩ (fun H locs hP hD hS => ?_)
  refine lv_iconst (v := 1) hx hb dX4_sickenIt_18 (by decide) ?_
  refine lv_iload_n hx hb dX4_sickenIt_19 rfl (lv_at hl 0 rfl) ?_
  refine lv_isub hx hb dX4_sickenIt_20 ?_
  obtain rfl := Option.some.inj h
  subst hQ
  exact pw_ri hx hb hr hlk hAe hP hS rfl dX4_sickenIt_21

def aX4_giveUpIt : List Cond := Cond.code yX4_giveUpIt cX4_giveUpIt 2 none :: pw_all
theorem pX4_giveUpIt : yX4_giveUpIt.cls = RX4 ∧ yX4_giveUpIt.cls ≠ "java/lang/invoke/MethodHandle" ∧ yX4_giveUpIt.cls ≠ "java/lang/invoke/VarHandle" ∧ (parseMethodDescriptor yX4_giveUpIt.desc).map (fun d => d.parameters.length) = some 1 := by decide +kernel
set_option maxHeartbeats 8000000 in
set_option maxRecDepth 100000 in
theorem kX4_giveUpIt (l : Launch) (D : va_G) (cy : Nat → ClassId) (q : Nat → Nat) (sz : Nat) (th : Int32) (z : Nat → Int32) (sv : Nat → Int32) (sn : Int32) (sp : Nat → Int32) (bf : Nat → Int32) (ty : Int32) (gn : Nat → Int32) (hs : Int64) (x1 : Int32) (o : (Nat → Int32)) (h : fX4_giveUpIt x1 z = some o) : Met l yX4_giveUpIt aX4_giveUpIt ({ frames := 2, cells := 0, slots := 0, locals := 44 }) (pw_Pre D cy [.ref (q 0), .int x1] (WM cy q th z sv sn sp bf ty gn hs) sz) (pw_V D (WM cy q th z sv sn sp bf ty gn hs) (WM cy q th o sv sn sp bf ty gn hs) sz) 0 0 (va_A (WM cy q th z sv sn sp bf ty gn hs) sz) := by
  refine pw_met (cc := cX4_giveUpIt) (maxL := 2) (ret := none) (by decide) rfl (Nat.le_of_ble_eq_true rfl) ?_
  intro p e s m args below meth c ls A hx hb hr hml hlk hts hown hAe hA hK hP hD hS hl
  have hl : lv_has ls 2 [(0, .ref (q 0)), (1, .int x1)] := hl
  generalize hQ : MQ below (pw_V D (WM cy q th z sv sn sp bf ty gn hs) (WM cy q th o sv sn sp bf ty gn hs) sz) args s 0 0 (va_A (WM cy q th z sv sn sp bf ty gn hs) sz) = Q
  have hF : CallFix p m c cX4_giveUpIt 2 s args aX4_giveUpIt RX4 := ⟨hx, hb, hml, hown, hts⟩
  have hta : ∀ w ∈ pw_all, w.before args s = true := fun w h => hts w (List.mem_cons_of_mem _ h)
  have hin : ∀ w ∈ wsX40, w ∈ aX4_giveUpIt := fun w h => List.mem_cons_of_mem _ (inA4 w h)
  unfold fX4_giveUpIt at h
  refine lv_aload_n hx hb dX4_giveUpIt_0 rfl (lv_at hl 0 rfl) ?_
  refine lv_iload_n hx hb dX4_giveUpIt_1 rfl (lv_at hl 1 rfl) ?_
  obtain ⟨r1, hr1, h⟩ := pq_b h
  refine pw_cv (w1 := WM cy q th r1 sv sn sp bf ty gn hs) (rest := []) (As := [.int x1]) hF (kX4_leaveQueue l D cy q _ th z sv sn sp bf ty gn hs x1 r1 hr1) (cwV 1 hts (pw_gV (own := RX4) (idx := 91) (C := RX4) (y := yX4_leaveQueue) aw_816 aw_818 aw_s40 aw_6 aw_819) rfl rfl rfl pX4_leaveQueue ⟨Nat.le_of_ble_eq_true rfl, Nat.le_of_ble_eq_true rfl⟩) (va_recv hK hP (ci := 4) (q0 := 0) rfl rfl) hK hP hD hS hA rfl rfl hl.1 rfl (Nat.le_of_ble_eq_true rfl) dX4_giveUpIt_2 ⟨Nat.zero_le _, Nat.zero_le _⟩ (fun H locs hP hD hS => ?_)
  refine lv_aload_n hx hb dX4_giveUpIt_5 rfl (lv_at hl 0 rfl) ?_
  refine lv_iload_n hx hb dX4_giveUpIt_6 rfl (lv_at hl 1 rfl) ?_
  refine lv_iconst (v := 1) hx hb dX4_giveUpIt_7 (by decide) ?_
  refine lv_iconst (v := 0) hx hb dX4_giveUpIt_8 (by decide) ?_
  obtain ⟨r2, hr2, h⟩ := pq_b h
  refine pw_cv (w1 := WM cy q th r2 sv sn sp bf ty gn hs) (rest := []) (As := [.int x1, .int 1, .int 0]) hF (kX4_lay l D cy q _ th r1 sv sn sp bf ty gn hs x1 1 0 r2 hr2) (cwV 3 hts (pw_gV (own := RX4) (idx := 29) (C := RX4) (y := yX4_lay) aw_682 aw_684 aw_s18 aw_6 aw_685) rfl rfl rfl pX4_lay ⟨Nat.le_of_ble_eq_true rfl, Nat.le_of_ble_eq_true rfl⟩) (va_recv hK hP (ci := 4) (q0 := 0) rfl rfl) hK hP hD hS hA rfl rfl hl.1 rfl (Nat.le_of_ble_eq_true rfl) dX4_giveUpIt_9 ⟨Nat.zero_le _, Nat.zero_le _⟩ (fun H locs hP hD hS => ?_)
  refine lv_aload_n hx hb dX4_giveUpIt_12 rfl (lv_at hl 0 rfl) ?_
  refine lv_iload_n hx hb dX4_giveUpIt_13 rfl (lv_at hl 1 rfl) ?_
  refine lv_iconst (v := 3) hx hb dX4_giveUpIt_14 (by decide) ?_
  refine lv_aload_n hx hb dX4_giveUpIt_15 rfl (lv_at hl 0 rfl) ?_
  refine lv_iload_n hx hb dX4_giveUpIt_16 rfl (lv_at hl 1 rfl) ?_
  refine lv_iconst (v := 3) hx hb dX4_giveUpIt_17 (by decide) ?_
  obtain ⟨r3, hr3, h⟩ := pq_b h
  refine pw_ci (w1 := WM cy q th r2 sv sn sp bf ty gn hs) (rest := [.int 3, .int x1, .ref (q 0)]) (As := [.int x1, .int 3]) hF (kX4_its l D cy q _ th r2 sv sn sp bf ty gn hs x1 3 r3 hr3) (cwV 2 hts (pw_gV (own := RX4) (idx := 44) (C := RX4) (y := yX4_its) aw_740 aw_742 aw_s21 aw_6 aw_743) rfl rfl rfl pX4_its ⟨Nat.le_of_ble_eq_true rfl, Nat.le_of_ble_eq_true rfl⟩) (va_recv hK hP (ci := 4) (q0 := 0) rfl rfl) hK hP hD hS hA rfl rfl hl.1 rfl (Nat.le_of_ble_eq_true rfl) dX4_giveUpIt_18 ⟨Nat.zero_le _, Nat.zero_le _⟩ (fun H locs hP hD hS => ?_)
  refine lv_iconst (v := 1) hx hb dX4_giveUpIt_21 (by decide) ?_
  refine lv_iadd hx hb dX4_giveUpIt_22 ?_
  obtain ⟨r4, hr4, h⟩ := pq_b h
  refine pw_cv (w1 := WM cy q th r4 sv sn sp bf ty gn hs) (rest := []) (As := [.int x1, .int 3, .int (r3 + 1)]) hF (kX4_lay l D cy q _ th r2 sv sn sp bf ty gn hs x1 3 (r3 + 1) r4 hr4) (cwV 3 hts (pw_gV (own := RX4) (idx := 29) (C := RX4) (y := yX4_lay) aw_682 aw_684 aw_s18 aw_6 aw_685) rfl rfl rfl pX4_lay ⟨Nat.le_of_ble_eq_true rfl, Nat.le_of_ble_eq_true rfl⟩) (va_recv hK hP (ci := 4) (q0 := 0) rfl rfl) hK hP hD hS hA rfl rfl hl.1 rfl (Nat.le_of_ble_eq_true rfl) dX4_giveUpIt_23 ⟨Nat.zero_le _, Nat.zero_le _⟩ (fun H locs hP hD hS => ?_)
  obtain rfl := Option.some.inj h
  subst hQ
  exact pw_rv hx hb hr hlk hAe hP hS dX4_giveUpIt_26

def aX4_goUnit : List Cond := Cond.code yX4_goUnit cX4_goUnit 4 (some .int) :: pw_all
theorem pX4_goUnit : yX4_goUnit.cls = RX4 ∧ yX4_goUnit.cls ≠ "java/lang/invoke/MethodHandle" ∧ yX4_goUnit.cls ≠ "java/lang/invoke/VarHandle" ∧ (parseMethodDescriptor yX4_goUnit.desc).map (fun d => d.parameters.length) = some 0 := by decide +kernel
set_option maxHeartbeats 8000000 in
set_option maxRecDepth 100000 in
theorem kX4_goUnit (l : Launch) (D : va_G) (cy : Nat → ClassId) (q : Nat → Nat) (sz : Nat) (th : Int32) (z : Nat → Int32) (sv : Nat → Int32) (sn : Int32) (sp : Nat → Int32) (bf : Nat → Int32) (ty : Int32) (gn : Nat → Int32) (hs : Int64)  (o : Int32 × (Nat → Int32) × (Nat → Int32)) (h : fX4_goUnit z gn = some o) : Met l yX4_goUnit aX4_goUnit ({ frames := 6, cells := 0, slots := 0, locals := 131 }) (pw_Pre D cy [.ref (q 0)] (WM cy q th z sv sn sp bf ty gn hs) sz) (pw_I D o.1 (WM cy q th z sv sn sp bf ty gn hs) (WM cy q th o.2.1 sv sn sp bf ty o.2.2 hs) sz) 0 0 (va_A (WM cy q th z sv sn sp bf ty gn hs) sz) := by
  refine pw_met (cc := cX4_goUnit) (maxL := 4) (ret := (some .int)) (by decide) rfl (Nat.le_of_ble_eq_true rfl) ?_
  intro p e s m args below meth c ls A hx hb hr hml hlk hts hown hAe hA hK hP hD hS hl
  have hl : lv_has ls 4 [(0, .ref (q 0))] := hl
  generalize hQ : MQ below (pw_I D o.1 (WM cy q th z sv sn sp bf ty gn hs) (WM cy q th o.2.1 sv sn sp bf ty o.2.2 hs) sz) args s 0 0 (va_A (WM cy q th z sv sn sp bf ty gn hs) sz) = Q
  have hF : CallFix p m c cX4_goUnit 4 s args aX4_goUnit RX4 := ⟨hx, hb, hml, hown, hts⟩
  have hta : ∀ w ∈ pw_all, w.before args s = true := fun w h => hts w (List.mem_cons_of_mem _ h)
  have hin : ∀ w ∈ wsX40, w ∈ aX4_goUnit := fun w h => List.mem_cons_of_mem _ (inA4 w h)
  unfold fX4_goUnit at h
  refine lv_aload_n hx hb dX4_goUnit_0 rfl (lv_at hl 0 rfl) ?_
  refine va_get (D := D) (ci := 4) (v := .ref (q 1)) (C := RX4) (T := TX4) (N := 9) hx hb hts hin hown hK hP 0 rfl rfl 1 (by decide) (hta _ aw_687) (fun _ h9 => h9) rfl dX4_goUnit_1 ?_
  refine lv_bipush (v := 9) hx hb dX4_goUnit_4 (by decide) ?_
  refine lv_dup2_11 hx hb dX4_goUnit_6 rfl rfl ?_
  refine va_iald hx hb hK hP 1 0 rfl rfl (pq_vp (by decide +kernel)) dX4_goUnit_7 ?_
  refine lv_iconst (v := 1) hx hb dX4_goUnit_8 (by decide) ?_
  refine lv_iadd hx hb dX4_goUnit_9 ?_
  refine va_iast hx hb hK hP hD hS 1 0 rfl rfl (pq_vp (by decide +kernel)) dX4_goUnit_10 (fun H locs hP hD hS => ?_)
  have hP : va_P D vwCl (WM cy q th (upd z (9 : Int32).toNatClampNeg ((z (9 : Int32).toNatClampNeg) + 1)) sv sn sp bf ty gn hs) H := hP
  have hD : va_D A (WM cy q th (upd z (9 : Int32).toNatClampNeg ((z (9 : Int32).toNatClampNeg) + 1)) sv sn sp bf ty gn hs) := hD
  refine lv_iconst (v := 0) hx hb dX4_goUnit_11 (by decide) ?_
  refine lv_istore_n (lv' := [(1, .int 0), (0, .ref (q 0))]) hx hb dX4_goUnit_12 rfl hl (by decide) rfl (fun ls hl => ?_)
  obtain ⟨v2, hv2, h⟩ := pq_b h
  have X77_v2 : ∀ (H : Heap) (locs : List Loc) (ls : Array Slot), va_P D vwCl (WM cy q th v2 sv sn sp bf ty gn hs) H → va_D A (WM cy q th v2 sv sn sp bf ty gn hs) → va_S A s.heap H locs → lv_has ls 4 [(0, .ref (q 0))] → W p l e ({ frames := 6, cells := 0, slots := 0, locals := 131 } : Room) s m args below meth c H locs 0 0 Q (F0 m 77 ls []) := by
    intro H locs ls hP hD hS hl
    refine lv_aload_n hx hb dX4_goUnit_77 rfl (lv_at hl 0 rfl) ?_
    refine va_get (D := D) (ci := 4) (v := .ref (q 1)) (C := RX4) (T := TX4) (N := 9) hx hb hts hin hown hK hP 0 rfl rfl 1 (by decide) (hta _ aw_687) (fun _ h9 => h9) rfl dX4_goUnit_78 ?_
    refine lv_bipush (v := 6) hx hb dX4_goUnit_81 (by decide) ?_
    refine va_iald hx hb hK hP 1 0 rfl rfl (pq_vp (by decide +kernel)) dX4_goUnit_83 ?_
    obtain ⟨v8, hv8, h⟩ := pq_b h
    have J110_v8 : ∀ (H : Heap) (locs : List Loc) (ls : Array Slot), va_P D vwCl (WM cy q th v8 sv sn sp bf ty gn hs) H → va_D A (WM cy q th v8 sv sn sp bf ty gn hs) → va_S A s.heap H locs → lv_has ls 4 [(0, .ref (q 0))] → W p l e ({ frames := 6, cells := 0, slots := 0, locals := 131 } : Room) s m args below meth c H locs 0 0 Q (F0 m 110 ls []) := by
      intro H locs ls hP hD hS hl
      refine lv_iconst (v := 0) hx hb dX4_goUnit_110 (by decide) ?_
      refine lv_istore_n (lv' := [(1, .int 0), (0, .ref (q 0))]) hx hb dX4_goUnit_111 rfl hl (by decide) rfl (fun ls hl => ?_)
      obtain ⟨v11, hv11, h⟩ := pq_b h
      have X177_v11 : ∀ (H : Heap) (locs : List Loc) (ls : Array Slot), va_P D vwCl (WM cy q th v11 sv sn sp bf ty gn hs) H → va_D A (WM cy q th v11 sv sn sp bf ty gn hs) → va_S A s.heap H locs → lv_has ls 4 [(0, .ref (q 0))] → W p l e ({ frames := 6, cells := 0, slots := 0, locals := 131 } : Room) s m args below meth c H locs 0 0 Q (F0 m 177 ls []) := by
        intro H locs ls hP hD hS hl
        refine lv_iconst (v := 0) hx hb dX4_goUnit_177 (by decide) ?_
        refine lv_istore_n (lv' := [(1, .int 0), (0, .ref (q 0))]) hx hb dX4_goUnit_178 rfl hl (by decide) rfl (fun ls hl => ?_)
        refine lv_aload_n hx hb dX4_goUnit_179 rfl (lv_at hl 1 rfl) ?_
        refine va_get (D := D) (ci := 4) (v := .ref (q 1)) (C := RX4) (T := TX4) (N := 9) hx hb hts hin hown hK hP 0 rfl rfl 1 (by decide) (hta _ aw_687) (fun _ h9 => h9) rfl dX4_goUnit_180 ?_
        refine lv_bipush (v := 17) hx hb dX4_goUnit_183 (by decide) ?_
        refine va_iald hx hb hK hP 1 0 rfl rfl (pq_vp (by decide +kernel)) dX4_goUnit_185 ?_
        refine lv_iconst (v := 1) hx hb dX4_goUnit_186 (by decide) ?_
        refine lv_isub hx hb dX4_goUnit_187 ?_
        refine lv_istore_n (lv' := [(2, .int ((v11 (17 : Int32).toNatClampNeg) - 1)), (1, .int 0), (0, .ref (q 0))]) hx hb dX4_goUnit_188 rfl hl (by decide) rfl (fun ls hl => ?_)
        obtain ⟨v17, hv17, h⟩ := pq_b h
        have X232_v17 : ∀ (H : Heap) (locs : List Loc) (ls : Array Slot), va_P D vwCl (WM cy q th v17.2 sv sn sp bf ty gn hs) H → va_D A (WM cy q th v17.2 sv sn sp bf ty gn hs) → va_S A s.heap H locs → lv_has ls 4 [(0, .ref (q 0)), (1, .int v17.1)] → W p l e ({ frames := 6, cells := 0, slots := 0, locals := 131 } : Room) s m args below meth c H locs 0 0 Q (F0 m 232 ls []) := by
          intro H locs ls hP hD hS hl
          refine lv_aload_n hx hb dX4_goUnit_232 rfl (lv_at hl 0 rfl) ?_
          obtain ⟨r20, hr20, h⟩ := pq_b h
          refine pw_cv (w1 := WM cy q th r20.1 sv sn sp bf ty r20.2 hs) (rest := []) (As := []) hF (kX4_serve l D cy q _ th v17.2 sv sn sp bf ty gn hs  r20 hr20) (cwV 0 hts (pw_gV (own := RX4) (idx := 98) (C := RX4) (y := yX4_serve) aw_804 aw_806 aw_s37 aw_6 aw_807) rfl rfl rfl pX4_serve ⟨Nat.le_of_ble_eq_true rfl, Nat.le_of_ble_eq_true rfl⟩) (va_recv hK hP (ci := 4) (q0 := 0) rfl rfl) hK hP hD hS hA rfl rfl hl.1 rfl (Nat.le_of_ble_eq_true rfl) dX4_goUnit_233 ⟨Nat.zero_le _, Nat.zero_le _⟩ (fun H locs hP hD hS => ?_)
          refine lv_iload_n hx hb dX4_goUnit_236 rfl (lv_at hl 1 rfl) ?_
          obtain rfl := Option.some.inj h
          subst hQ
          exact pw_ri hx hb hr hlk hAe hP hS rfl dX4_goUnit_237
        clear h
        have L189_n16 : ∀ (n : Nat) (x1_189 : Int32) (x2_189 : Int32) (z_189 : Nat → Int32) (H : Heap) (locs : List Loc) (ls : Array Slot), fX4_goUnit_L189  n x1_189 x2_189 z_189 = some v17 → va_P D vwCl (WM cy q th z_189 sv sn sp bf ty gn hs) H → va_D A (WM cy q th z_189 sv sn sp bf ty gn hs) → va_S A s.heap H locs → lv_has ls 4 [(0, .ref (q 0)), (1, .int x1_189), (2, .int x2_189)] → W p l e ({ frames := 6, cells := 0, slots := 0, locals := 131 } : Room) s m args below meth c H locs 0 0 Q (F0 m 189 ls []) := by
          intro n
          induction n with
          | zero =>
            intro x1_189 x2_189 z_189 H locs ls h hP hD hS hl
            exact pq_n h
          | succ n ih189 =>
            intro x1_189 x2_189 z_189 H locs ls h hP hD hS hl
            rw [fX4_goUnit_L189] at h
            refine lv_iload_n hx hb dX4_goUnit_189 rfl (lv_at hl 2 rfl) ?_
            refine lv_if_lt (tgt := 232) hx hb dX4_goUnit_190 (by decide) (fun c11_ => ?_) (fun c11_ => ?_)
            · have h := pq_t c11_ h
              obtain rfl := Option.some.inj h
              exact X232_v17 _ _ _ hP hD hS (lv_sub hl [0, 1] rfl)
            · have h := pq_e c11_ h
              refine lv_aload_n hx hb dX4_goUnit_193 rfl (lv_at hl 0 rfl) ?_
              refine va_get (D := D) (ci := 4) (v := .ref (q 1)) (C := RX4) (T := TX4) (N := 9) hx hb hts hin hown hK hP 0 rfl rfl 1 (by decide) (hta _ aw_687) (fun _ h9 => h9) rfl dX4_goUnit_194 ?_
              refine lv_bipush (v := 18) hx hb dX4_goUnit_197 (by decide) ?_
              refine lv_iload_n hx hb dX4_goUnit_199 rfl (lv_at hl 2 rfl) ?_
              refine lv_iadd hx hb dX4_goUnit_200 ?_
              obtain ⟨hg, h⟩ := pq_g h
              refine va_iald hx hb hK hP 1 0 rfl rfl (pq_vp hg) dX4_goUnit_201 ?_
              refine lv_istore_n (lv' := [(3, .int (z_189 (18 + x2_189).toNatClampNeg)), (0, .ref (q 0)), (1, .int x1_189), (2, .int x2_189)]) hx hb dX4_goUnit_202 rfl hl (by decide) rfl (fun ls hl => ?_)
              refine lv_aload_n hx hb dX4_goUnit_203 rfl (lv_at hl 1 rfl) ?_
              refine lv_iload_n hx hb dX4_goUnit_204 rfl (lv_at hl 0 rfl) ?_
              obtain ⟨r18, hr18, h⟩ := pq_b h
              refine pw_ci (w1 := WM cy q th z_189 sv sn sp bf ty gn hs) (rest := []) (As := [.int (z_189 (18 + x2_189).toNatClampNeg)]) hF (kX4_waitedFor l D cy q _ th z_189 sv sn sp bf ty gn hs (z_189 (18 + x2_189).toNatClampNeg) r18 hr18) (cwV 1 hts (pw_gV (own := RX4) (idx := 88) (C := RX4) (y := yX4_waitedFor) aw_812 aw_814 aw_s39 aw_6 aw_815) rfl rfl rfl pX4_waitedFor ⟨Nat.le_of_ble_eq_true rfl, Nat.le_of_ble_eq_true rfl⟩) (va_recv hK hP (ci := 4) (q0 := 0) rfl rfl) hK hP hD hS hA rfl rfl hl.1 rfl (Nat.le_of_ble_eq_true rfl) dX4_goUnit_205 ⟨Nat.zero_le _, Nat.zero_le _⟩ (fun H locs hP hD hS => ?_)
              refine lv_aload_n hx hb dX4_goUnit_208 rfl (lv_at hl 1 rfl) ?_
              refine va_get (D := D) (ci := 4) (v := .ref (q 1)) (C := RX4) (T := TX4) (N := 9) hx hb hts hin hown hK hP 0 rfl rfl 1 (by decide) (hta _ aw_687) (fun _ h9 => h9) rfl dX4_goUnit_209 ?_
              refine lv_bipush (v := 8) hx hb dX4_goUnit_212 (by decide) ?_
              refine va_iald hx hb hK hP 1 0 rfl rfl (pq_vp (by decide +kernel)) dX4_goUnit_214 ?_
              refine lv_icmp_lt (tgt := 226) hx hb dX4_goUnit_215 (by decide) (fun c12_ => ?_) (fun c12_ => ?_)
              · have h := pq_t c12_ h
                refine lv_iinc (v := x2_189 + (-1)) (lv' := [(2, .int (x2_189 + (-1))), (3, .int (z_189 (18 + x2_189).toNatClampNeg)), (0, .ref (q 0)), (1, .int x1_189)]) hx hb dX4_goUnit_226 hl (k := 3) rfl (by first | rfl | decide) (by decide) rfl (fun ls hl => ?_)
                refine lv_goto (tgt := 189) hx hb dX4_goUnit_229 (by decide) ?_
                exact ih189 x1_189 (x2_189 + (-1)) z_189 _ _ _ h hP hD hS (lv_sub hl [2, 3, 0] rfl)
              · have h := pq_e c12_ h
                refine lv_aload_n hx hb dX4_goUnit_218 rfl (lv_at hl 1 rfl) ?_
                refine lv_iload_n hx hb dX4_goUnit_219 rfl (lv_at hl 0 rfl) ?_
                obtain ⟨r19, hr19, h⟩ := pq_b h
                refine pw_cv (w1 := WM cy q th r19 sv sn sp bf ty gn hs) (rest := []) (As := [.int (z_189 (18 + x2_189).toNatClampNeg)]) hF (kX4_giveUpIt l D cy q _ th z_189 sv sn sp bf ty gn hs (z_189 (18 + x2_189).toNatClampNeg) r19 hr19) (cwV 1 hts (pw_gV (own := RX4) (idx := 110) (C := RX4) (y := yX4_giveUpIt) aw_839 aw_841 aw_s43 aw_6 aw_842) rfl rfl rfl pX4_giveUpIt ⟨Nat.le_of_ble_eq_true rfl, Nat.le_of_ble_eq_true rfl⟩) (va_recv hK hP (ci := 4) (q0 := 0) rfl rfl) hK hP hD hS hA rfl rfl hl.1 rfl (Nat.le_of_ble_eq_true rfl) dX4_goUnit_220 ⟨Nat.zero_le _, Nat.zero_le _⟩ (fun H locs hP hD hS => ?_)
                refine lv_iinc (v := x1_189 + 1) (lv' := [(1, .int (x1_189 + 1)), (3, .int (z_189 (18 + x2_189).toNatClampNeg)), (0, .ref (q 0)), (2, .int x2_189)]) hx hb dX4_goUnit_223 hl (k := 2) rfl (by first | rfl | decide) (by decide) rfl (fun ls hl => ?_)
                refine lv_iinc (v := x2_189 + (-1)) (lv' := [(2, .int (x2_189 + (-1))), (1, .int (x1_189 + 1)), (3, .int (z_189 (18 + x2_189).toNatClampNeg)), (0, .ref (q 0))]) hx hb dX4_goUnit_226 hl (k := 3) rfl (by first | rfl | decide) (by decide) rfl (fun ls hl => ?_)
                refine lv_goto (tgt := 189) hx hb dX4_goUnit_229 (by decide) ?_
                exact ih189 (x1_189 + 1) (x2_189 + (-1)) r19 _ _ _ h hP hD hS (lv_sub hl [3, 1, 0] rfl)
        have h := hv17
        exact L189_n16 1000 0 ((v11 (17 : Int32).toNatClampNeg) - 1) v11 _ _ _ h hP hD hS (lv_sub hl [2, 1, 0] rfl)
      clear h
      have L112_n10 : ∀ (n : Nat) (x1_112 : Int32) (z_112 : Nat → Int32) (H : Heap) (locs : List Loc) (ls : Array Slot), fX4_goUnit_L112  n x1_112 z_112 = some v11 → va_P D vwCl (WM cy q th z_112 sv sn sp bf ty gn hs) H → va_D A (WM cy q th z_112 sv sn sp bf ty gn hs) → va_S A s.heap H locs → lv_has ls 4 [(0, .ref (q 0)), (1, .int x1_112)] → W p l e ({ frames := 6, cells := 0, slots := 0, locals := 131 } : Room) s m args below meth c H locs 0 0 Q (F0 m 112 ls []) := by
        intro n
        induction n with
        | zero =>
          intro x1_112 z_112 H locs ls h hP hD hS hl
          exact pq_n h
        | succ n ih112 =>
          intro x1_112 z_112 H locs ls h hP hD hS hl
          rw [fX4_goUnit_L112] at h
          refine lv_iload_n hx hb dX4_goUnit_112 rfl (lv_at hl 1 rfl) ?_
          refine lv_bipush (v := 8) hx hb dX4_goUnit_113 (by decide) ?_
          refine lv_icmp_ge (tgt := 177) hx hb dX4_goUnit_115 (by decide) (fun c7_ => ?_) (fun c7_ => ?_)
          · have h := pq_t c7_ h
            obtain rfl := Option.some.inj h
            exact X177_v11 _ _ _ hP hD hS (lv_sub hl [0] rfl)
          · have h := pq_e c7_ h
            refine lv_aload_n hx hb dX4_goUnit_118 rfl (lv_at hl 0 rfl) ?_
            refine lv_iload_n hx hb dX4_goUnit_119 rfl (lv_at hl 1 rfl) ?_
            refine lv_iconst (v := 1) hx hb dX4_goUnit_120 (by decide) ?_
            obtain ⟨r12, hr12, h⟩ := pq_b h
            refine pw_ci (w1 := WM cy q th z_112 sv sn sp bf ty gn hs) (rest := []) (As := [.int x1_112, .int 1]) hF (kX4_isIn l D cy q _ th z_112 sv sn sp bf ty gn hs x1_112 1 r12 hr12) (cwV 2 hts (pw_gV (own := RX4) (idx := 50) (C := RX4) (y := yX4_isIn) aw_780 aw_782 aw_s31 aw_6 aw_783) rfl rfl rfl pX4_isIn ⟨Nat.le_of_ble_eq_true rfl, Nat.le_of_ble_eq_true rfl⟩) (va_recv hK hP (ci := 4) (q0 := 0) rfl rfl) hK hP hD hS hA rfl rfl hl.1 rfl (Nat.le_of_ble_eq_true rfl) dX4_goUnit_121 ⟨Nat.zero_le _, Nat.zero_le _⟩ (fun H locs hP hD hS => ?_)
            refine lv_if_eq (tgt := 171) hx hb dX4_goUnit_124 (by decide) (fun c8_ => ?_) (fun c8_ => ?_)
            · have h := pq_t c8_ h
              refine lv_iinc (v := x1_112 + 1) (lv' := [(1, .int (x1_112 + 1)), (0, .ref (q 0))]) hx hb dX4_goUnit_171 hl (k := 1) rfl (by first | rfl | decide) (by decide) rfl (fun ls hl => ?_)
              refine lv_goto (tgt := 112) hx hb dX4_goUnit_174 (by decide) ?_
              exact ih112 (x1_112 + 1) z_112 _ _ _ h hP hD hS (lv_sub hl [1, 0] rfl)
            · have h := pq_e c8_ h
              refine lv_aload_n hx hb dX4_goUnit_127 rfl (lv_at hl 0 rfl) ?_
              refine va_get (D := D) (ci := 4) (v := .ref (q 1)) (C := RX4) (T := TX4) (N := 9) hx hb hts hin hown hK hP 0 rfl rfl 1 (by decide) (hta _ aw_687) (fun _ h9 => h9) rfl dX4_goUnit_128 ?_
              refine lv_bipush (v := 9) hx hb dX4_goUnit_131 (by decide) ?_
              refine va_iald hx hb hK hP 1 0 rfl rfl (pq_vp (by decide +kernel)) dX4_goUnit_133 ?_
              refine lv_aload_n hx hb dX4_goUnit_134 rfl (lv_at hl 0 rfl) ?_
              refine lv_iload_n hx hb dX4_goUnit_135 rfl (lv_at hl 1 rfl) ?_
              refine lv_iconst (v := 4) hx hb dX4_goUnit_136 (by decide) ?_
              obtain ⟨r13, hr13, h⟩ := pq_b h
              refine pw_ci (w1 := WM cy q th z_112 sv sn sp bf ty gn hs) (rest := [.int (z_112 (9 : Int32).toNatClampNeg)]) (As := [.int x1_112, .int 4]) hF (kX4_of l D cy q _ th z_112 sv sn sp bf ty gn hs x1_112 4 r13 hr13) (cwV 2 hts (pw_gV (own := RX4) (idx := 40) (C := RX4) (y := yX4_of) aw_768 aw_770 aw_s28 aw_6 aw_771) rfl rfl rfl pX4_of ⟨Nat.le_of_ble_eq_true rfl, Nat.le_of_ble_eq_true rfl⟩) (va_recv hK hP (ci := 4) (q0 := 0) rfl rfl) hK hP hD hS hA rfl rfl hl.1 rfl (Nat.le_of_ble_eq_true rfl) dX4_goUnit_137 ⟨Nat.zero_le _, Nat.zero_le _⟩ (fun H locs hP hD hS => ?_)
              refine lv_isub hx hb dX4_goUnit_140 ?_
              refine lv_aload_n hx hb dX4_goUnit_141 rfl (lv_at hl 0 rfl) ?_
              refine va_get (D := D) (ci := 4) (v := .ref (q 1)) (C := RX4) (T := TX4) (N := 9) hx hb hts hin hown hK hP 0 rfl rfl 1 (by decide) (hta _ aw_687) (fun _ h9 => h9) rfl dX4_goUnit_142 ?_
              refine lv_bipush (v := 7) hx hb dX4_goUnit_145 (by decide) ?_
              refine va_iald hx hb hK hP 1 0 rfl rfl (pq_vp (by decide +kernel)) dX4_goUnit_147 ?_
              refine lv_icmp_lt (tgt := 171) hx hb dX4_goUnit_148 (by decide) (fun c9_ => ?_) (fun c9_ => ?_)
              · have h := pq_t c9_ h
                refine lv_iinc (v := x1_112 + 1) (lv' := [(1, .int (x1_112 + 1)), (0, .ref (q 0))]) hx hb dX4_goUnit_171 hl (k := 1) rfl (by first | rfl | decide) (by decide) rfl (fun ls hl => ?_)
                refine lv_goto (tgt := 112) hx hb dX4_goUnit_174 (by decide) ?_
                exact ih112 (x1_112 + 1) z_112 _ _ _ h hP hD hS (lv_sub hl [1, 0] rfl)
              · have h := pq_e c9_ h
                refine lv_aload_n hx hb dX4_goUnit_151 rfl (lv_at hl 0 rfl) ?_
                obtain ⟨r14, hr14, h⟩ := pq_b h
                refine pw_ci (w1 := WM cy q th z_112 sv sn sp bf ty gn hs) (rest := []) (As := []) hF (kX4_connections l D cy q _ th z_112 sv sn sp bf ty gn hs  r14 hr14) (cwV 0 hts (pw_gV (own := RX4) (idx := 69) (C := RX4) (y := yX4_connections) aw_788 aw_790 aw_s33 aw_6 aw_791) rfl rfl rfl pX4_connections ⟨Nat.le_of_ble_eq_true rfl, Nat.le_of_ble_eq_true rfl⟩) (va_recv hK hP (ci := 4) (q0 := 0) rfl rfl) hK hP hD hS hA rfl rfl hl.1 rfl (Nat.le_of_ble_eq_true rfl) dX4_goUnit_152 ⟨Nat.zero_le _, Nat.zero_le _⟩ (fun H locs hP hD hS => ?_)
                refine lv_aload_n hx hb dX4_goUnit_155 rfl (lv_at hl 0 rfl) ?_
                refine va_get (D := D) (ci := 4) (v := .ref (q 1)) (C := RX4) (T := TX4) (N := 9) hx hb hts hin hown hK hP 0 rfl rfl 1 (by decide) (hta _ aw_687) (fun _ h9 => h9) rfl dX4_goUnit_156 ?_
                refine lv_iconst (v := 2) hx hb dX4_goUnit_159 (by decide) ?_
                refine va_iald hx hb hK hP 1 0 rfl rfl (pq_vp (by decide +kernel)) dX4_goUnit_160 ?_
                refine lv_icmp_le (tgt := 171) hx hb dX4_goUnit_161 (by decide) (fun c10_ => ?_) (fun c10_ => ?_)
                · have h := pq_t c10_ h
                  refine lv_iinc (v := x1_112 + 1) (lv' := [(1, .int (x1_112 + 1)), (0, .ref (q 0))]) hx hb dX4_goUnit_171 hl (k := 1) rfl (by first | rfl | decide) (by decide) rfl (fun ls hl => ?_)
                  refine lv_goto (tgt := 112) hx hb dX4_goUnit_174 (by decide) ?_
                  exact ih112 (x1_112 + 1) z_112 _ _ _ h hP hD hS (lv_sub hl [1, 0] rfl)
                · have h := pq_e c10_ h
                  refine lv_aload_n hx hb dX4_goUnit_164 rfl (lv_at hl 0 rfl) ?_
                  refine lv_iload_n hx hb dX4_goUnit_165 rfl (lv_at hl 1 rfl) ?_
                  refine lv_bipush (v := 13) hx hb dX4_goUnit_166 (by decide) ?_
                  obtain ⟨r15, hr15, h⟩ := pq_b h
                  refine pw_cv (w1 := WM cy q th r15 sv sn sp bf ty gn hs) (rest := []) (As := [.int x1_112, .int 13]) hF (kX4_close l D cy q _ th z_112 sv sn sp bf ty gn hs x1_112 13 r15 hr15) (cwV 2 hts (pw_gV (own := RX4) (idx := 65) (C := RX4) (y := yX4_close) aw_784 aw_786 aw_s32 aw_6 aw_787) rfl rfl rfl pX4_close ⟨Nat.le_of_ble_eq_true rfl, Nat.le_of_ble_eq_true rfl⟩) (va_recv hK hP (ci := 4) (q0 := 0) rfl rfl) hK hP hD hS hA rfl rfl hl.1 rfl (Nat.le_of_ble_eq_true rfl) dX4_goUnit_168 ⟨Nat.zero_le _, Nat.zero_le _⟩ (fun H locs hP hD hS => ?_)
                  refine lv_iinc (v := x1_112 + 1) (lv' := [(1, .int (x1_112 + 1)), (0, .ref (q 0))]) hx hb dX4_goUnit_171 hl (k := 1) rfl (by first | rfl | decide) (by decide) rfl (fun ls hl => ?_)
                  refine lv_goto (tgt := 112) hx hb dX4_goUnit_174 (by decide) ?_
                  exact ih112 (x1_112 + 1) r15 _ _ _ h hP hD hS (lv_sub hl [1, 0] rfl)
      have h := hv11
      exact L112_n10 1000 0 v8 _ _ _ h hP hD hS (lv_sub hl [1, 0] rfl)
    clear h
    have h := hv8
    clear hv8
    refine lv_if_le (tgt := 110) hx hb dX4_goUnit_84 (by decide) (fun c5_ => ?_) (fun c5_ => ?_)
    · have h := pq_t c5_ h
      obtain rfl := Option.some.inj h
      exact J110_v8 _ _ _ hP hD hS (lv_sub hl [0] rfl)
    · have h := pq_e c5_ h
      refine lv_aload_n hx hb dX4_goUnit_87 rfl (lv_at hl 0 rfl) ?_
      refine va_get (D := D) (ci := 4) (v := .ref (q 1)) (C := RX4) (T := TX4) (N := 9) hx hb hts hin hown hK hP 0 rfl rfl 1 (by decide) (hta _ aw_687) (fun _ h9 => h9) rfl dX4_goUnit_88 ?_
      refine lv_bipush (v := 9) hx hb dX4_goUnit_91 (by decide) ?_
      refine va_iald hx hb hK hP 1 0 rfl rfl (pq_vp (by decide +kernel)) dX4_goUnit_93 ?_
      refine lv_aload_n hx hb dX4_goUnit_94 rfl (lv_at hl 0 rfl) ?_
      refine va_get (D := D) (ci := 4) (v := .ref (q 1)) (C := RX4) (T := TX4) (N := 9) hx hb hts hin hown hK hP 0 rfl rfl 1 (by decide) (hta _ aw_687) (fun _ h9 => h9) rfl dX4_goUnit_95 ?_
      refine lv_bipush (v := 6) hx hb dX4_goUnit_98 (by decide) ?_
      refine va_iald hx hb hK hP 1 0 rfl rfl (pq_vp (by decide +kernel)) dX4_goUnit_100 ?_
      obtain ⟨hg, h⟩ := pq_g h
      refine lv_irem hx hb dX4_goUnit_101 hg ?_
      refine lv_if_ne (tgt := 110) hx hb dX4_goUnit_102 (by decide) (fun c6_ => ?_) (fun c6_ => ?_)
      · have h := pq_e c6_ h
        obtain rfl := Option.some.inj h
        exact J110_v8 _ _ _ hP hD hS (lv_sub hl [0] rfl)
      · have h := pq_t c6_ h
        refine lv_aload_n hx hb dX4_goUnit_105 rfl (lv_at hl 0 rfl) ?_
        obtain ⟨r9, hr9, h⟩ := pq_b h
        refine pw_ci (w1 := WM cy q th r9.2 sv sn sp bf ty gn hs) (rest := []) (As := []) hF (kX4_checkAll l D cy q _ th v2 sv sn sp bf ty gn hs  r9 hr9) (cwV 0 hts (pw_gV (own := RX4) (idx := 107) (C := RX4) (y := yX4_checkAll) aw_863 aw_865 aw_s46 aw_6 aw_866) rfl rfl rfl pX4_checkAll ⟨Nat.le_of_ble_eq_true rfl, Nat.le_of_ble_eq_true rfl⟩) (va_recv hK hP (ci := 4) (q0 := 0) rfl rfl) hK hP hD hS hA rfl rfl hl.1 rfl (Nat.le_of_ble_eq_true rfl) dX4_goUnit_106 ⟨Nat.zero_le _, Nat.zero_le _⟩ (fun H locs hP hD hS => ?_)
        refine lv_pop hx hb dX4_goUnit_109 rfl ?_
        obtain rfl := Option.some.inj h
        exact J110_v8 _ _ _ hP hD hS (lv_sub hl [0] rfl)
  clear h
  have L13_n1 : ∀ (n : Nat) (x1_13 : Int32) (z_13 : Nat → Int32) (H : Heap) (locs : List Loc) (ls : Array Slot), fX4_goUnit_L13  n x1_13 z_13 = some v2 → va_P D vwCl (WM cy q th z_13 sv sn sp bf ty gn hs) H → va_D A (WM cy q th z_13 sv sn sp bf ty gn hs) → va_S A s.heap H locs → lv_has ls 4 [(0, .ref (q 0)), (1, .int x1_13)] → W p l e ({ frames := 6, cells := 0, slots := 0, locals := 131 } : Room) s m args below meth c H locs 0 0 Q (F0 m 13 ls []) := by
    intro n
    induction n with
    | zero =>
      intro x1_13 z_13 H locs ls h hP hD hS hl
      exact pq_n h
    | succ n ih13 =>
      intro x1_13 z_13 H locs ls h hP hD hS hl
      rw [fX4_goUnit_L13] at h
      refine lv_iload_n hx hb dX4_goUnit_13 rfl (lv_at hl 1 rfl) ?_
      refine lv_bipush (v := 8) hx hb dX4_goUnit_14 (by decide) ?_
      refine lv_icmp_ge (tgt := 77) hx hb dX4_goUnit_16 (by decide) (fun c1_ => ?_) (fun c1_ => ?_)
      · have h := pq_t c1_ h
        obtain rfl := Option.some.inj h
        exact X77_v2 _ _ _ hP hD hS (lv_sub hl [0] rfl)
      · have h := pq_e c1_ h
        refine lv_aload_n hx hb dX4_goUnit_19 rfl (lv_at hl 0 rfl) ?_
        refine lv_iload_n hx hb dX4_goUnit_20 rfl (lv_at hl 1 rfl) ?_
        refine lv_iconst (v := 2) hx hb dX4_goUnit_21 (by decide) ?_
        obtain ⟨r3, hr3, h⟩ := pq_b h
        refine pw_ci (w1 := WM cy q th z_13 sv sn sp bf ty gn hs) (rest := []) (As := [.int x1_13, .int 2]) hF (kX4_isIn l D cy q _ th z_13 sv sn sp bf ty gn hs x1_13 2 r3 hr3) (cwV 2 hts (pw_gV (own := RX4) (idx := 50) (C := RX4) (y := yX4_isIn) aw_780 aw_782 aw_s31 aw_6 aw_783) rfl rfl rfl pX4_isIn ⟨Nat.le_of_ble_eq_true rfl, Nat.le_of_ble_eq_true rfl⟩) (va_recv hK hP (ci := 4) (q0 := 0) rfl rfl) hK hP hD hS hA rfl rfl hl.1 rfl (Nat.le_of_ble_eq_true rfl) dX4_goUnit_22 ⟨Nat.zero_le _, Nat.zero_le _⟩ (fun H locs hP hD hS => ?_)
        refine lv_if_eq (tgt := 71) hx hb dX4_goUnit_25 (by decide) (fun c2_ => ?_) (fun c2_ => ?_)
        · have h := pq_t c2_ h
          refine lv_iinc (v := x1_13 + 1) (lv' := [(1, .int (x1_13 + 1)), (0, .ref (q 0))]) hx hb dX4_goUnit_71 hl (k := 1) rfl (by first | rfl | decide) (by decide) rfl (fun ls hl => ?_)
          refine lv_goto (tgt := 13) hx hb dX4_goUnit_74 (by decide) ?_
          exact ih13 (x1_13 + 1) z_13 _ _ _ h hP hD hS (lv_sub hl [1, 0] rfl)
        · have h := pq_e c2_ h
          refine lv_aload_n hx hb dX4_goUnit_28 rfl (lv_at hl 0 rfl) ?_
          refine lv_aload_n hx hb dX4_goUnit_29 rfl (lv_at hl 0 rfl) ?_
          refine lv_iload_n hx hb dX4_goUnit_30 rfl (lv_at hl 1 rfl) ?_
          refine lv_iconst (v := 1) hx hb dX4_goUnit_31 (by decide) ?_
          obtain ⟨r4, hr4, h⟩ := pq_b h
          refine pw_ci (w1 := WM cy q th z_13 sv sn sp bf ty gn hs) (rest := [.ref (q 0)]) (As := [.int x1_13, .int 1]) hF (kX4_of l D cy q _ th z_13 sv sn sp bf ty gn hs x1_13 1 r4 hr4) (cwV 2 hts (pw_gV (own := RX4) (idx := 40) (C := RX4) (y := yX4_of) aw_768 aw_770 aw_s28 aw_6 aw_771) rfl rfl rfl pX4_of ⟨Nat.le_of_ble_eq_true rfl, Nat.le_of_ble_eq_true rfl⟩) (va_recv hK hP (ci := 4) (q0 := 0) rfl rfl) hK hP hD hS hA rfl rfl hl.1 rfl (Nat.le_of_ble_eq_true rfl) dX4_goUnit_32 ⟨Nat.zero_le _, Nat.zero_le _⟩ (fun H locs hP hD hS => ?_)
          obtain ⟨r5, hr5, h⟩ := pq_b h
          refine pw_ci (w1 := WM cy q th z_13 sv sn sp bf ty gn hs) (rest := []) (As := [.int r4]) hF (kX4_isThere l D cy q _ th z_13 sv sn sp bf ty gn hs r4 r5 hr5) (cwV 1 hts (pw_gV (own := RX4) (idx := 101) (C := RX4) (y := yX4_isThere) aw_736 aw_738 aw_s20 aw_6 aw_739) rfl rfl rfl pX4_isThere ⟨Nat.le_of_ble_eq_true rfl, Nat.le_of_ble_eq_true rfl⟩) (va_recv hK hP (ci := 4) (q0 := 0) rfl rfl) hK hP hD hS hA rfl rfl hl.1 rfl (Nat.le_of_ble_eq_true rfl) dX4_goUnit_35 ⟨Nat.zero_le _, Nat.zero_le _⟩ (fun H locs hP hD hS => ?_)
          refine lv_if_ne (tgt := 71) hx hb dX4_goUnit_38 (by decide) (fun c3_ => ?_) (fun c3_ => ?_)
          · have h := pq_e c3_ h
            refine lv_iinc (v := x1_13 + 1) (lv' := [(1, .int (x1_13 + 1)), (0, .ref (q 0))]) hx hb dX4_goUnit_71 hl (k := 1) rfl (by first | rfl | decide) (by decide) rfl (fun ls hl => ?_)
            refine lv_goto (tgt := 13) hx hb dX4_goUnit_74 (by decide) ?_
            exact ih13 (x1_13 + 1) z_13 _ _ _ h hP hD hS (lv_sub hl [1, 0] rfl)
          · have h := pq_t c3_ h
            refine lv_aload_n hx hb dX4_goUnit_41 rfl (lv_at hl 0 rfl) ?_
            refine va_get (D := D) (ci := 4) (v := .ref (q 1)) (C := RX4) (T := TX4) (N := 9) hx hb hts hin hown hK hP 0 rfl rfl 1 (by decide) (hta _ aw_687) (fun _ h9 => h9) rfl dX4_goUnit_42 ?_
            refine lv_bipush (v := 9) hx hb dX4_goUnit_45 (by decide) ?_
            refine va_iald hx hb hK hP 1 0 rfl rfl (pq_vp (by decide +kernel)) dX4_goUnit_47 ?_
            refine lv_aload_n hx hb dX4_goUnit_48 rfl (lv_at hl 0 rfl) ?_
            refine lv_iload_n hx hb dX4_goUnit_49 rfl (lv_at hl 1 rfl) ?_
            refine lv_iconst (v := 4) hx hb dX4_goUnit_50 (by decide) ?_
            obtain ⟨r6, hr6, h⟩ := pq_b h
            refine pw_ci (w1 := WM cy q th z_13 sv sn sp bf ty gn hs) (rest := [.int (z_13 (9 : Int32).toNatClampNeg)]) (As := [.int x1_13, .int 4]) hF (kX4_of l D cy q _ th z_13 sv sn sp bf ty gn hs x1_13 4 r6 hr6) (cwV 2 hts (pw_gV (own := RX4) (idx := 40) (C := RX4) (y := yX4_of) aw_768 aw_770 aw_s28 aw_6 aw_771) rfl rfl rfl pX4_of ⟨Nat.le_of_ble_eq_true rfl, Nat.le_of_ble_eq_true rfl⟩) (va_recv hK hP (ci := 4) (q0 := 0) rfl rfl) hK hP hD hS hA rfl rfl hl.1 rfl (Nat.le_of_ble_eq_true rfl) dX4_goUnit_51 ⟨Nat.zero_le _, Nat.zero_le _⟩ (fun H locs hP hD hS => ?_)
            refine lv_isub hx hb dX4_goUnit_54 ?_
            refine lv_aload_n hx hb dX4_goUnit_55 rfl (lv_at hl 0 rfl) ?_
            refine va_get (D := D) (ci := 4) (v := .ref (q 1)) (C := RX4) (T := TX4) (N := 9) hx hb hts hin hown hK hP 0 rfl rfl 1 (by decide) (hta _ aw_687) (fun _ h9 => h9) rfl dX4_goUnit_56 ?_
            refine lv_iconst (v := 5) hx hb dX4_goUnit_59 (by decide) ?_
            refine va_iald hx hb hK hP 1 0 rfl rfl (pq_vp (by decide +kernel)) dX4_goUnit_60 ?_
            refine lv_icmp_lt (tgt := 71) hx hb dX4_goUnit_61 (by decide) (fun c4_ => ?_) (fun c4_ => ?_)
            · have h := pq_t c4_ h
              refine lv_iinc (v := x1_13 + 1) (lv' := [(1, .int (x1_13 + 1)), (0, .ref (q 0))]) hx hb dX4_goUnit_71 hl (k := 1) rfl (by first | rfl | decide) (by decide) rfl (fun ls hl => ?_)
              refine lv_goto (tgt := 13) hx hb dX4_goUnit_74 (by decide) ?_
              exact ih13 (x1_13 + 1) z_13 _ _ _ h hP hD hS (lv_sub hl [1, 0] rfl)
            · have h := pq_e c4_ h
              refine lv_aload_n hx hb dX4_goUnit_64 rfl (lv_at hl 0 rfl) ?_
              refine lv_iload_n hx hb dX4_goUnit_65 rfl (lv_at hl 1 rfl) ?_
              refine lv_bipush (v := 14) hx hb dX4_goUnit_66 (by decide) ?_
              obtain ⟨r7, hr7, h⟩ := pq_b h
              refine pw_cv (w1 := WM cy q th r7 sv sn sp bf ty gn hs) (rest := []) (As := [.int x1_13, .int 14]) hF (kX4_close l D cy q _ th z_13 sv sn sp bf ty gn hs x1_13 14 r7 hr7) (cwV 2 hts (pw_gV (own := RX4) (idx := 65) (C := RX4) (y := yX4_close) aw_784 aw_786 aw_s32 aw_6 aw_787) rfl rfl rfl pX4_close ⟨Nat.le_of_ble_eq_true rfl, Nat.le_of_ble_eq_true rfl⟩) (va_recv hK hP (ci := 4) (q0 := 0) rfl rfl) hK hP hD hS hA rfl rfl hl.1 rfl (Nat.le_of_ble_eq_true rfl) dX4_goUnit_68 ⟨Nat.zero_le _, Nat.zero_le _⟩ (fun H locs hP hD hS => ?_)
              refine lv_iinc (v := x1_13 + 1) (lv' := [(1, .int (x1_13 + 1)), (0, .ref (q 0))]) hx hb dX4_goUnit_71 hl (k := 1) rfl (by first | rfl | decide) (by decide) rfl (fun ls hl => ?_)
              refine lv_goto (tgt := 13) hx hb dX4_goUnit_74 (by decide) ?_
              exact ih13 (x1_13 + 1) r7 _ _ _ h hP hD hS (lv_sub hl [1, 0] rfl)
  have h := hv2
  exact L13_n1 1000 0 (upd z (9 : Int32).toNatClampNeg ((z (9 : Int32).toNatClampNeg) + 1)) _ _ _ h hP hD hS (lv_sub hl [1, 0] rfl)

def aX4_go : List Cond := Cond.code yX4_go cX4_go 4 (some .int) :: pw_all
theorem pX4_go : yX4_go.cls = RX4 ∧ yX4_go.cls ≠ "java/lang/invoke/MethodHandle" ∧ yX4_go.cls ≠ "java/lang/invoke/VarHandle" ∧ (parseMethodDescriptor yX4_go.desc).map (fun d => d.parameters.length) = some 1 := by decide +kernel
set_option maxHeartbeats 8000000 in
set_option maxRecDepth 100000 in
theorem kX4_go (l : Launch) (D : va_G) (cy : Nat → ClassId) (q : Nat → Nat) (sz : Nat) (th : Int32) (z : Nat → Int32) (sv : Nat → Int32) (sn : Int32) (sp : Nat → Int32) (bf : Nat → Int32) (ty : Int32) (gn : Nat → Int32) (hs : Int64) (x1 : Int32) (o : Int32 × (Nat → Int32) × (Nat → Int32)) (h : fX4_go x1 z gn = some o) : Met l yX4_go aX4_go ({ frames := 7, cells := 0, slots := 0, locals := 154 }) (pw_Pre D cy [.ref (q 0), .int x1] (WM cy q th z sv sn sp bf ty gn hs) sz) (pw_I D o.1 (WM cy q th z sv sn sp bf ty gn hs) (WM cy q th o.2.1 sv sn sp bf ty o.2.2 hs) sz) 0 0 (va_A (WM cy q th z sv sn sp bf ty gn hs) sz) := by
  refine pw_met (cc := cX4_go) (maxL := 4) (ret := (some .int)) (by decide) rfl (Nat.le_of_ble_eq_true rfl) ?_
  intro p e s m args below meth c ls A hx hb hr hml hlk hts hown hAe hA hK hP hD hS hl
  have hl : lv_has ls 4 [(0, .ref (q 0)), (1, .int x1)] := hl
  generalize hQ : MQ below (pw_I D o.1 (WM cy q th z sv sn sp bf ty gn hs) (WM cy q th o.2.1 sv sn sp bf ty o.2.2 hs) sz) args s 0 0 (va_A (WM cy q th z sv sn sp bf ty gn hs) sz) = Q
  have hF : CallFix p m c cX4_go 4 s args aX4_go RX4 := ⟨hx, hb, hml, hown, hts⟩
  have hta : ∀ w ∈ pw_all, w.before args s = true := fun w h => hts w (List.mem_cons_of_mem _ h)
  have hin : ∀ w ∈ wsX40, w ∈ aX4_go := fun w h => List.mem_cons_of_mem _ (inA4 w h)
  unfold fX4_go at h
  refine lv_iconst (v := 0) hx hb dX4_go_0 (by decide) ?_
  refine lv_istore_n (lv' := [(2, .int 0), (0, .ref (q 0)), (1, .int x1)]) hx hb dX4_go_1 rfl hl (by decide) rfl (fun ls hl => ?_)
  refine lv_iconst (v := 0) hx hb dX4_go_2 (by decide) ?_
  refine lv_istore_n (lv' := [(3, .int 0), (2, .int 0), (0, .ref (q 0)), (1, .int x1)]) hx hb dX4_go_3 rfl hl (by decide) rfl (fun ls hl => ?_)
  have L4_n1 : ∀ (n : Nat) (x2_4 : Int32) (x3_4 : Int32) (z_4 : Nat → Int32) (gn_4 : Nat → Int32) (H : Heap) (locs : List Loc) (ls : Array Slot), fX4_go_L4 x1 n x2_4 x3_4 z_4 gn_4 = some o → va_P D vwCl (WM cy q th z_4 sv sn sp bf ty gn_4 hs) H → va_D A (WM cy q th z_4 sv sn sp bf ty gn_4 hs) → va_S A s.heap H locs → lv_has ls 4 [(0, .ref (q 0)), (1, .int x1), (2, .int x2_4), (3, .int x3_4)] → W p l e ({ frames := 7, cells := 0, slots := 0, locals := 154 } : Room) s m args below meth c H locs 0 0 Q (F0 m 4 ls []) := by
    intro n
    induction n with
    | zero =>
      intro x2_4 x3_4 z_4 gn_4 H locs ls h hP hD hS hl
      exact pq_n h
    | succ n ih4 =>
      intro x2_4 x3_4 z_4 gn_4 H locs ls h hP hD hS hl
      rw [fX4_go_L4] at h
      refine lv_iload_n hx hb dX4_go_4 rfl (lv_at hl 3 rfl) ?_
      refine lv_iload_n hx hb dX4_go_5 rfl (lv_at hl 1 rfl) ?_
      refine lv_icmp_ge (tgt := 22) hx hb dX4_go_6 (by decide) (fun c1_ => ?_) (fun c1_ => ?_)
      · have h := pq_t c1_ h
        refine lv_iload_n hx hb dX4_go_22 rfl (lv_at hl 2 rfl) ?_
        obtain rfl := Option.some.inj h
        subst hQ
        exact pw_ri hx hb hr hlk hAe hP hS rfl dX4_go_23
      · have h := pq_e c1_ h
        refine lv_iload_n hx hb dX4_go_9 rfl (lv_at hl 2 rfl) ?_
        refine lv_aload_n hx hb dX4_go_10 rfl (lv_at hl 0 rfl) ?_
        obtain ⟨r2, hr2, h⟩ := pq_b h
        refine pw_ci (w1 := WM cy q th r2.2.1 sv sn sp bf ty r2.2.2 hs) (rest := [.int x2_4]) (As := []) hF (kX4_goUnit l D cy q _ th z_4 sv sn sp bf ty gn_4 hs  r2 hr2) (cwV 0 hts (pw_gV (own := RX4) (idx := 113) (C := RX4) (y := yX4_goUnit) aw_889 aw_891 aw_s48 aw_6 aw_892) rfl rfl rfl pX4_goUnit ⟨Nat.le_of_ble_eq_true rfl, Nat.le_of_ble_eq_true rfl⟩) (va_recv hK hP (ci := 4) (q0 := 0) rfl rfl) hK hP hD hS hA rfl rfl hl.1 rfl (Nat.le_of_ble_eq_true rfl) dX4_go_11 ⟨Nat.zero_le _, Nat.zero_le _⟩ (fun H locs hP hD hS => ?_)
        refine lv_iadd hx hb dX4_go_14 ?_
        refine lv_istore_n (lv' := [(2, .int (x2_4 + r2.1)), (0, .ref (q 0)), (1, .int x1), (3, .int x3_4)]) hx hb dX4_go_15 rfl hl (by decide) rfl (fun ls hl => ?_)
        refine lv_iinc (v := x3_4 + 1) (lv' := [(3, .int (x3_4 + 1)), (2, .int (x2_4 + r2.1)), (0, .ref (q 0)), (1, .int x1)]) hx hb dX4_go_16 hl (k := 3) rfl (by first | rfl | decide) (by decide) rfl (fun ls hl => ?_)
        refine lv_goto (tgt := 4) hx hb dX4_go_19 (by decide) ?_
        exact ih4 (x2_4 + r2.1) (x3_4 + 1) r2.2.1 r2.2.2 _ _ _ h hP hD hS (lv_sub hl [2, 3, 1, 0] rfl)
  exact L4_n1 1000 0 0 z gn _ _ _ h hP hD hS (lv_sub hl [2, 3, 1, 0] rfl)

def aX4_ask : List Cond := Cond.code yX4_ask cX4_ask 2 (some .int) :: pw_all
theorem pX4_ask : yX4_ask.cls = RX4 ∧ yX4_ask.cls ≠ "java/lang/invoke/MethodHandle" ∧ yX4_ask.cls ≠ "java/lang/invoke/VarHandle" ∧ (parseMethodDescriptor yX4_ask.desc).map (fun d => d.parameters.length) = some 1 := by decide +kernel
set_option maxHeartbeats 8000000 in
set_option maxRecDepth 100000 in
theorem kX4_ask (l : Launch) (D : va_G) (cy : Nat → ClassId) (q : Nat → Nat) (sz : Nat) (th : Int32) (z : Nat → Int32) (sv : Nat → Int32) (sn : Int32) (sp : Nat → Int32) (bf : Nat → Int32) (ty : Int32) (gn : Nat → Int32) (hs : Int64) (x1 : Int32) (o : Int32 × Int32 × (Nat → Int32) × (Nat → Int32) × Int32 × (Nat → Int32)) (h : fX4_ask x1 th z sv sn gn = some o) : Met l yX4_ask aX4_ask ({ frames := 7, cells := 0, slots := 0, locals := 153 }) (pw_Pre D cy [.ref (q 0), .int x1] (WM cy q th z sv sn sp bf ty gn hs) sz) (pw_I D o.1 (WM cy q th z sv sn sp bf ty gn hs) (WM cy q o.2.1 o.2.2.1 o.2.2.2.1 o.2.2.2.2.1 sp bf ty o.2.2.2.2.2 hs) sz) 0 0 (va_A (WM cy q th z sv sn sp bf ty gn hs) sz) := by
  refine pw_met (cc := cX4_ask) (maxL := 2) (ret := (some .int)) (by decide) rfl (Nat.le_of_ble_eq_true rfl) ?_
  intro p e s m args below meth c ls A hx hb hr hml hlk hts hown hAe hA hK hP hD hS hl
  have hl : lv_has ls 2 [(0, .ref (q 0)), (1, .int x1)] := hl
  generalize hQ : MQ below (pw_I D o.1 (WM cy q th z sv sn sp bf ty gn hs) (WM cy q o.2.1 o.2.2.1 o.2.2.2.1 o.2.2.2.2.1 sp bf ty o.2.2.2.2.2 hs) sz) args s 0 0 (va_A (WM cy q th z sv sn sp bf ty gn hs) sz) = Q
  have hF : CallFix p m c cX4_ask 2 s args aX4_ask RX4 := ⟨hx, hb, hml, hown, hts⟩
  have hta : ∀ w ∈ pw_all, w.before args s = true := fun w h => hts w (List.mem_cons_of_mem _ h)
  have hin : ∀ w ∈ wsX40, w ∈ aX4_ask := fun w h => List.mem_cons_of_mem _ (inA4 w h)
  unfold fX4_ask at h
  refine lv_aload_n hx hb dX4_ask_0 rfl (lv_at hl 0 rfl) ?_
  refine lv_iload_n hx hb dX4_ask_1 rfl (lv_at hl 1 rfl) ?_
  obtain ⟨r1, hr1, h⟩ := pq_b h
  refine pw_si (rest := [.ref (q 0)]) (As := [.int x1]) hF (kX4_isOwner l D cy _ x1 r1 hr1) (cwS 1 hts (pw_gS (own := RX4) (idx := 116) (y := yX4_isOwner) aw_726 aw_727 aw_6 aw_728) rfl rfl rfl pX4_isOwner ⟨Nat.le_of_ble_eq_true rfl, Nat.le_of_ble_eq_true rfl⟩) hK hP hS hA rfl hl.1 rfl (Nat.le_of_ble_eq_true rfl) dX4_ask_2 ⟨Nat.zero_le _, Nat.zero_le _⟩ (fun H locs hP hS => ?_)
  obtain ⟨v2, hv2, h⟩ := pq_b h
  have J25_v2 : ∀ (H : Heap) (locs : List Loc) (ls : Array Slot), va_P D vwCl (WM cy q th z sv sn sp bf ty gn hs) H → va_D A (WM cy q th z sv sn sp bf ty gn hs) → va_S A s.heap H locs → lv_has ls 2 [(0, .ref (q 0)), (1, .int x1)] → W p l e ({ frames := 7, cells := 0, slots := 0, locals := 153 } : Room) s m args below meth c H locs 0 0 Q (F0 m 25 ls [.int v2, .ref (q 0)]) := by
    intro H locs ls hP hD hS hl
    refine va_put (D := D) (ci := 4) (v := .int v2) (ty := .int) (C := RX4) (T := TX4) (N := 9) hx hb hts hin tyX4 tyX4_ok nmX4 hown hK hP hD hS 0 rfl rfl 0 (by decide) (hta _ aw_686) (fun _ h9 => h9) rfl (by decide +kernel) rfl rfl (Nat.le_of_ble_eq_true rfl) dX4_ask_25 (fun H locs hP hD hS => ?_)
    have hP : va_P D vwCl (WM cy q v2 z sv sn sp bf ty gn hs) H := hP
    have hD : va_D A (WM cy q v2 z sv sn sp bf ty gn hs) := hD
    refine lv_aload_n hx hb dX4_ask_28 rfl (lv_at hl 0 rfl) ?_
    refine va_get (D := D) (ci := 4) (v := .int v2) (C := RX4) (T := TX4) (N := 9) hx hb hts hin hown hK hP 0 rfl rfl 0 (by decide) (hta _ aw_686) (fun _ h9 => h9) rfl dX4_ask_29 ?_
    refine lv_if_le (tgt := 37) hx hb dX4_ask_32 (by decide) (fun c3_ => ?_) (fun c3_ => ?_)
    · have h := pq_t c3_ h
      refine lv_aload_n hx hb dX4_ask_37 rfl (lv_at hl 0 rfl) ?_
      obtain ⟨r4, hr4, h⟩ := pq_b h
      refine pw_cv (w1 := WM cy q v2 z r4.1 r4.2 sp bf ty gn hs) (rest := []) (As := []) hF (kX4_save l D cy q _ v2 z sv sn sp bf ty gn hs  r4 hr4) (cwV 0 hts (pw_gV (own := RX4) (idx := 122) (C := RX4) (y := yX4_save) aw_752 aw_754 aw_s24 aw_6 aw_755) rfl rfl rfl pX4_save ⟨Nat.le_of_ble_eq_true rfl, Nat.le_of_ble_eq_true rfl⟩) (va_recv hK hP (ci := 4) (q0 := 0) rfl rfl) hK hP hD hS hA rfl rfl hl.1 rfl (Nat.le_of_ble_eq_true rfl) dX4_ask_38 ⟨Nat.zero_le _, Nat.zero_le _⟩ (fun H locs hP hD hS => ?_)
      refine lv_aload_n hx hb dX4_ask_41 rfl (lv_at hl 0 rfl) ?_
      refine lv_iload_n hx hb dX4_ask_42 rfl (lv_at hl 1 rfl) ?_
      obtain ⟨r5, hr5, h⟩ := pq_b h
      refine pw_ci (w1 := WM cy q v2 r5.2.1 r4.1 r4.2 sp bf ty r5.2.2 hs) (rest := []) (As := [.int x1]) hF (kX4_askIt l D cy q _ v2 z r4.1 r4.2 sp bf ty gn hs x1 r5 hr5) (cwV 1 hts (pw_gV (own := RX4) (idx := 125) (C := RX4) (y := yX4_askIt) aw_756 aw_758 aw_s25 aw_6 aw_759) rfl rfl rfl pX4_askIt ⟨Nat.le_of_ble_eq_true rfl, Nat.le_of_ble_eq_true rfl⟩) (va_recv hK hP (ci := 4) (q0 := 0) rfl rfl) hK hP hD hS hA rfl rfl hl.1 rfl (Nat.le_of_ble_eq_true rfl) dX4_ask_43 ⟨Nat.zero_le _, Nat.zero_le _⟩ (fun H locs hP hD hS => ?_)
      obtain rfl := Option.some.inj h
      subst hQ
      exact pw_ri hx hb hr hlk hAe hP hS rfl dX4_ask_46
    · have h := pq_e c3_ h
      refine lv_iconst (v := 0) hx hb dX4_ask_35 (by decide) ?_
      obtain rfl := Option.some.inj h
      subst hQ
      exact pw_ri hx hb hr hlk hAe hP hS rfl dX4_ask_36
  clear h
  have h := hv2
  clear hv2
  refine lv_if_ne (tgt := 12) hx hb dX4_ask_5 (by decide) (fun c1_ => ?_) (fun c1_ => ?_)
  · have h := pq_e c1_ h
    refine lv_aload_n hx hb dX4_ask_12 rfl (lv_at hl 0 rfl) ?_
    refine lv_iload_n hx hb dX4_ask_13 rfl (lv_at hl 1 rfl) ?_
    obtain ⟨r3, hr3, h⟩ := pq_b h
    refine pw_ci (w1 := WM cy q th z sv sn sp bf ty gn hs) (rest := [.ref (q 0)]) (As := [.int x1]) hF (kX4_canAsk l D cy q _ th z sv sn sp bf ty gn hs x1 r3 hr3) (cwV 1 hts (pw_gV (own := RX4) (idx := 119) (C := RX4) (y := yX4_canAsk) aw_732 aw_734 aw_s19 aw_6 aw_735) rfl rfl rfl pX4_canAsk ⟨Nat.le_of_ble_eq_true rfl, Nat.le_of_ble_eq_true rfl⟩) (va_recv hK hP (ci := 4) (q0 := 0) rfl rfl) hK hP hD hS hA rfl rfl hl.1 rfl (Nat.le_of_ble_eq_true rfl) dX4_ask_14 ⟨Nat.zero_le _, Nat.zero_le _⟩ (fun H locs hP hD hS => ?_)
    refine lv_if_eq (tgt := 24) hx hb dX4_ask_17 (by decide) (fun c2_ => ?_) (fun c2_ => ?_)
    · have h := pq_t c2_ h
      refine lv_iconst (v := 2) hx hb dX4_ask_24 (by decide) ?_
      obtain rfl := Option.some.inj h
      exact J25_v2 _ _ _ hP hD hS (lv_sub hl [0, 1] rfl)
    · have h := pq_e c2_ h
      refine lv_iconst (v := 0) hx hb dX4_ask_20 (by decide) ?_
      refine lv_goto (tgt := 25) hx hb dX4_ask_21 (by decide) ?_
      obtain rfl := Option.some.inj h
      exact J25_v2 _ _ _ hP hD hS (lv_sub hl [0, 1] rfl)
  · have h := pq_t c1_ h
    refine lv_iconst (v := 1) hx hb dX4_ask_8 (by decide) ?_
    refine lv_goto (tgt := 25) hx hb dX4_ask_9 (by decide) ?_
    obtain rfl := Option.some.inj h
    exact J25_v2 _ _ _ hP hD hS (lv_sub hl [0, 1] rfl)

def aX4_give : List Cond := Cond.code yX4_give cX4_give 2 (some .int) :: pw_all
theorem pX4_give : yX4_give.cls = RX4 ∧ yX4_give.cls ≠ "java/lang/invoke/MethodHandle" ∧ yX4_give.cls ≠ "java/lang/invoke/VarHandle" ∧ (parseMethodDescriptor yX4_give.desc).map (fun d => d.parameters.length) = some 1 := by decide +kernel
set_option maxHeartbeats 8000000 in
set_option maxRecDepth 100000 in
theorem kX4_give (l : Launch) (D : va_G) (cy : Nat → ClassId) (q : Nat → Nat) (sz : Nat) (th : Int32) (z : Nat → Int32) (sv : Nat → Int32) (sn : Int32) (sp : Nat → Int32) (bf : Nat → Int32) (ty : Int32) (gn : Nat → Int32) (hs : Int64) (x1 : Int32) (o : Int32 × Int32 × (Nat → Int32) × (Nat → Int32) × Int32 × (Nat → Int32)) (h : fX4_give x1 th z sv sn gn = some o) : Met l yX4_give aX4_give ({ frames := 7, cells := 0, slots := 0, locals := 152 }) (pw_Pre D cy [.ref (q 0), .int x1] (WM cy q th z sv sn sp bf ty gn hs) sz) (pw_I D o.1 (WM cy q th z sv sn sp bf ty gn hs) (WM cy q o.2.1 o.2.2.1 o.2.2.2.1 o.2.2.2.2.1 sp bf ty o.2.2.2.2.2 hs) sz) 0 0 (va_A (WM cy q th z sv sn sp bf ty gn hs) sz) := by
  refine pw_met (cc := cX4_give) (maxL := 2) (ret := (some .int)) (by decide) rfl (Nat.le_of_ble_eq_true rfl) ?_
  intro p e s m args below meth c ls A hx hb hr hml hlk hts hown hAe hA hK hP hD hS hl
  have hl : lv_has ls 2 [(0, .ref (q 0)), (1, .int x1)] := hl
  generalize hQ : MQ below (pw_I D o.1 (WM cy q th z sv sn sp bf ty gn hs) (WM cy q o.2.1 o.2.2.1 o.2.2.2.1 o.2.2.2.2.1 sp bf ty o.2.2.2.2.2 hs) sz) args s 0 0 (va_A (WM cy q th z sv sn sp bf ty gn hs) sz) = Q
  have hF : CallFix p m c cX4_give 2 s args aX4_give RX4 := ⟨hx, hb, hml, hown, hts⟩
  have hta : ∀ w ∈ pw_all, w.before args s = true := fun w h => hts w (List.mem_cons_of_mem _ h)
  have hin : ∀ w ∈ wsX40, w ∈ aX4_give := fun w h => List.mem_cons_of_mem _ (inA4 w h)
  unfold fX4_give at h
  refine lv_aload_n hx hb dX4_give_0 rfl (lv_at hl 0 rfl) ?_
  refine lv_iload_n hx hb dX4_give_1 rfl (lv_at hl 1 rfl) ?_
  obtain ⟨r1, hr1, h⟩ := pq_b h
  refine pw_si (rest := [.ref (q 0)]) (As := [.int x1]) hF (kX4_isPlace l D cy _ x1 r1 hr1) (cwS 1 hts (pw_gS (own := RX4) (idx := 128) (y := yX4_isPlace) aw_824 aw_825 aw_6 aw_826) rfl rfl rfl pX4_isPlace ⟨Nat.le_of_ble_eq_true rfl, Nat.le_of_ble_eq_true rfl⟩) hK hP hS hA rfl hl.1 rfl (Nat.le_of_ble_eq_true rfl) dX4_give_2 ⟨Nat.zero_le _, Nat.zero_le _⟩ (fun H locs hP hS => ?_)
  obtain ⟨v2, hv2, h⟩ := pq_b h
  have J25_v2 : ∀ (H : Heap) (locs : List Loc) (ls : Array Slot), va_P D vwCl (WM cy q th z sv sn sp bf ty gn hs) H → va_D A (WM cy q th z sv sn sp bf ty gn hs) → va_S A s.heap H locs → lv_has ls 2 [(0, .ref (q 0)), (1, .int x1)] → W p l e ({ frames := 7, cells := 0, slots := 0, locals := 152 } : Room) s m args below meth c H locs 0 0 Q (F0 m 25 ls [.int v2, .ref (q 0)]) := by
    intro H locs ls hP hD hS hl
    refine va_put (D := D) (ci := 4) (v := .int v2) (ty := .int) (C := RX4) (T := TX4) (N := 9) hx hb hts hin tyX4 tyX4_ok nmX4 hown hK hP hD hS 0 rfl rfl 0 (by decide) (hta _ aw_686) (fun _ h9 => h9) rfl (by decide +kernel) rfl rfl (Nat.le_of_ble_eq_true rfl) dX4_give_25 (fun H locs hP hD hS => ?_)
    have hP : va_P D vwCl (WM cy q v2 z sv sn sp bf ty gn hs) H := hP
    have hD : va_D A (WM cy q v2 z sv sn sp bf ty gn hs) := hD
    refine lv_aload_n hx hb dX4_give_28 rfl (lv_at hl 0 rfl) ?_
    refine va_get (D := D) (ci := 4) (v := .int v2) (C := RX4) (T := TX4) (N := 9) hx hb hts hin hown hK hP 0 rfl rfl 0 (by decide) (hta _ aw_686) (fun _ h9 => h9) rfl dX4_give_29 ?_
    refine lv_if_le (tgt := 37) hx hb dX4_give_32 (by decide) (fun c3_ => ?_) (fun c3_ => ?_)
    · have h := pq_t c3_ h
      refine lv_aload_n hx hb dX4_give_37 rfl (lv_at hl 0 rfl) ?_
      obtain ⟨r4, hr4, h⟩ := pq_b h
      refine pw_cv (w1 := WM cy q v2 z r4.1 r4.2 sp bf ty gn hs) (rest := []) (As := []) hF (kX4_save l D cy q _ v2 z sv sn sp bf ty gn hs  r4 hr4) (cwV 0 hts (pw_gV (own := RX4) (idx := 122) (C := RX4) (y := yX4_save) aw_752 aw_754 aw_s24 aw_6 aw_755) rfl rfl rfl pX4_save ⟨Nat.le_of_ble_eq_true rfl, Nat.le_of_ble_eq_true rfl⟩) (va_recv hK hP (ci := 4) (q0 := 0) rfl rfl) hK hP hD hS hA rfl rfl hl.1 rfl (Nat.le_of_ble_eq_true rfl) dX4_give_38 ⟨Nat.zero_le _, Nat.zero_le _⟩ (fun H locs hP hD hS => ?_)
      refine lv_aload_n hx hb dX4_give_41 rfl (lv_at hl 0 rfl) ?_
      refine lv_iload_n hx hb dX4_give_42 rfl (lv_at hl 1 rfl) ?_
      obtain ⟨r5, hr5, h⟩ := pq_b h
      refine pw_ci (w1 := WM cy q v2 r5.2.1 r4.1 r4.2 sp bf ty r5.2.2 hs) (rest := []) (As := [.int x1]) hF (kX4_giveIt l D cy q _ v2 z r4.1 r4.2 sp bf ty gn hs x1 r5 hr5) (cwV 1 hts (pw_gV (own := RX4) (idx := 134) (C := RX4) (y := yX4_giveIt) aw_831 aw_833 aw_s42 aw_6 aw_834) rfl rfl rfl pX4_giveIt ⟨Nat.le_of_ble_eq_true rfl, Nat.le_of_ble_eq_true rfl⟩) (va_recv hK hP (ci := 4) (q0 := 0) rfl rfl) hK hP hD hS hA rfl rfl hl.1 rfl (Nat.le_of_ble_eq_true rfl) dX4_give_43 ⟨Nat.zero_le _, Nat.zero_le _⟩ (fun H locs hP hD hS => ?_)
      obtain rfl := Option.some.inj h
      subst hQ
      exact pw_ri hx hb hr hlk hAe hP hS rfl dX4_give_46
    · have h := pq_e c3_ h
      refine lv_iconst (v := 0) hx hb dX4_give_35 (by decide) ?_
      obtain rfl := Option.some.inj h
      subst hQ
      exact pw_ri hx hb hr hlk hAe hP hS rfl dX4_give_36
  clear h
  have h := hv2
  clear hv2
  refine lv_if_ne (tgt := 12) hx hb dX4_give_5 (by decide) (fun c1_ => ?_) (fun c1_ => ?_)
  · have h := pq_e c1_ h
    refine lv_aload_n hx hb dX4_give_12 rfl (lv_at hl 0 rfl) ?_
    refine lv_iload_n hx hb dX4_give_13 rfl (lv_at hl 1 rfl) ?_
    obtain ⟨r3, hr3, h⟩ := pq_b h
    refine pw_ci (w1 := WM cy q th z sv sn sp bf ty gn hs) (rest := [.ref (q 0)]) (As := [.int x1]) hF (kX4_canGive l D cy q _ th z sv sn sp bf ty gn hs x1 r3 hr3) (cwV 1 hts (pw_gV (own := RX4) (idx := 131) (C := RX4) (y := yX4_canGive) aw_827 aw_829 aw_s41 aw_6 aw_830) rfl rfl rfl pX4_canGive ⟨Nat.le_of_ble_eq_true rfl, Nat.le_of_ble_eq_true rfl⟩) (va_recv hK hP (ci := 4) (q0 := 0) rfl rfl) hK hP hD hS hA rfl rfl hl.1 rfl (Nat.le_of_ble_eq_true rfl) dX4_give_14 ⟨Nat.zero_le _, Nat.zero_le _⟩ (fun H locs hP hD hS => ?_)
    refine lv_if_eq (tgt := 24) hx hb dX4_give_17 (by decide) (fun c2_ => ?_) (fun c2_ => ?_)
    · have h := pq_t c2_ h
      refine lv_iconst (v := 2) hx hb dX4_give_24 (by decide) ?_
      obtain rfl := Option.some.inj h
      exact J25_v2 _ _ _ hP hD hS (lv_sub hl [0, 1] rfl)
    · have h := pq_e c2_ h
      refine lv_iconst (v := 0) hx hb dX4_give_20 (by decide) ?_
      refine lv_goto (tgt := 25) hx hb dX4_give_21 (by decide) ?_
      obtain rfl := Option.some.inj h
      exact J25_v2 _ _ _ hP hD hS (lv_sub hl [0, 1] rfl)
  · have h := pq_t c1_ h
    refine lv_iconst (v := 1) hx hb dX4_give_8 (by decide) ?_
    refine lv_goto (tgt := 25) hx hb dX4_give_9 (by decide) ?_
    obtain rfl := Option.some.inj h
    exact J25_v2 _ _ _ hP hD hS (lv_sub hl [0, 1] rfl)

def aX4_giveUp : List Cond := Cond.code yX4_giveUp cX4_giveUp 3 (some .int) :: pw_all
theorem pX4_giveUp : yX4_giveUp.cls = RX4 ∧ yX4_giveUp.cls ≠ "java/lang/invoke/MethodHandle" ∧ yX4_giveUp.cls ≠ "java/lang/invoke/VarHandle" ∧ (parseMethodDescriptor yX4_giveUp.desc).map (fun d => d.parameters.length) = some 1 := by decide +kernel
set_option maxHeartbeats 8000000 in
set_option maxRecDepth 100000 in
theorem kX4_giveUp (l : Launch) (D : va_G) (cy : Nat → ClassId) (q : Nat → Nat) (sz : Nat) (th : Int32) (z : Nat → Int32) (sv : Nat → Int32) (sn : Int32) (sp : Nat → Int32) (bf : Nat → Int32) (ty : Int32) (gn : Nat → Int32) (hs : Int64) (x1 : Int32) (o : Int32 × Int32 × (Nat → Int32) × (Nat → Int32) × Int32 × (Nat → Int32)) (h : fX4_giveUp x1 th z sv sn gn = some o) : Met l yX4_giveUp aX4_giveUp ({ frames := 6, cells := 0, slots := 0, locals := 131 }) (pw_Pre D cy [.ref (q 0), .int x1] (WM cy q th z sv sn sp bf ty gn hs) sz) (pw_I D o.1 (WM cy q th z sv sn sp bf ty gn hs) (WM cy q o.2.1 o.2.2.1 o.2.2.2.1 o.2.2.2.2.1 sp bf ty o.2.2.2.2.2 hs) sz) 0 0 (va_A (WM cy q th z sv sn sp bf ty gn hs) sz) := by
  refine pw_met (cc := cX4_giveUp) (maxL := 3) (ret := (some .int)) (by decide) rfl (Nat.le_of_ble_eq_true rfl) ?_
  intro p e s m args below meth c ls A hx hb hr hml hlk hts hown hAe hA hK hP hD hS hl
  have hl : lv_has ls 3 [(0, .ref (q 0)), (1, .int x1)] := hl
  generalize hQ : MQ below (pw_I D o.1 (WM cy q th z sv sn sp bf ty gn hs) (WM cy q o.2.1 o.2.2.1 o.2.2.2.1 o.2.2.2.2.1 sp bf ty o.2.2.2.2.2 hs) sz) args s 0 0 (va_A (WM cy q th z sv sn sp bf ty gn hs) sz) = Q
  have hF : CallFix p m c cX4_giveUp 3 s args aX4_giveUp RX4 := ⟨hx, hb, hml, hown, hts⟩
  have hta : ∀ w ∈ pw_all, w.before args s = true := fun w h => hts w (List.mem_cons_of_mem _ h)
  have hin : ∀ w ∈ wsX40, w ∈ aX4_giveUp := fun w h => List.mem_cons_of_mem _ (inA4 w h)
  unfold fX4_giveUp at h
  refine lv_aload_n hx hb dX4_giveUp_0 rfl (lv_at hl 0 rfl) ?_
  refine lv_iload_n hx hb dX4_giveUp_1 rfl (lv_at hl 1 rfl) ?_
  obtain ⟨r1, hr1, h⟩ := pq_b h
  refine pw_si (rest := [.ref (q 0)]) (As := [.int x1]) hF (kX4_isOwner l D cy _ x1 r1 hr1) (cwS 1 hts (pw_gS (own := RX4) (idx := 116) (y := yX4_isOwner) aw_726 aw_727 aw_6 aw_728) rfl rfl rfl pX4_isOwner ⟨Nat.le_of_ble_eq_true rfl, Nat.le_of_ble_eq_true rfl⟩) hK hP hS hA rfl hl.1 rfl (Nat.le_of_ble_eq_true rfl) dX4_giveUp_2 ⟨Nat.zero_le _, Nat.zero_le _⟩ (fun H locs hP hS => ?_)
  obtain ⟨v2, hv2, h⟩ := pq_b h
  have J25_v2 : ∀ (H : Heap) (locs : List Loc) (ls : Array Slot), va_P D vwCl (WM cy q th z sv sn sp bf ty gn hs) H → va_D A (WM cy q th z sv sn sp bf ty gn hs) → va_S A s.heap H locs → lv_has ls 3 [(0, .ref (q 0)), (1, .int x1)] → W p l e ({ frames := 6, cells := 0, slots := 0, locals := 131 } : Room) s m args below meth c H locs 0 0 Q (F0 m 25 ls [.int v2, .ref (q 0)]) := by
    intro H locs ls hP hD hS hl
    refine va_put (D := D) (ci := 4) (v := .int v2) (ty := .int) (C := RX4) (T := TX4) (N := 9) hx hb hts hin tyX4 tyX4_ok nmX4 hown hK hP hD hS 0 rfl rfl 0 (by decide) (hta _ aw_686) (fun _ h9 => h9) rfl (by decide +kernel) rfl rfl (Nat.le_of_ble_eq_true rfl) dX4_giveUp_25 (fun H locs hP hD hS => ?_)
    have hP : va_P D vwCl (WM cy q v2 z sv sn sp bf ty gn hs) H := hP
    have hD : va_D A (WM cy q v2 z sv sn sp bf ty gn hs) := hD
    refine lv_aload_n hx hb dX4_giveUp_28 rfl (lv_at hl 0 rfl) ?_
    refine va_get (D := D) (ci := 4) (v := .int v2) (C := RX4) (T := TX4) (N := 9) hx hb hts hin hown hK hP 0 rfl rfl 0 (by decide) (hta _ aw_686) (fun _ h9 => h9) rfl dX4_giveUp_29 ?_
    refine lv_if_le (tgt := 37) hx hb dX4_giveUp_32 (by decide) (fun c3_ => ?_) (fun c3_ => ?_)
    · have h := pq_t c3_ h
      refine lv_aload_n hx hb dX4_giveUp_37 rfl (lv_at hl 0 rfl) ?_
      obtain ⟨r4, hr4, h⟩ := pq_b h
      refine pw_cv (w1 := WM cy q v2 z r4.1 r4.2 sp bf ty gn hs) (rest := []) (As := []) hF (kX4_save l D cy q _ v2 z sv sn sp bf ty gn hs  r4 hr4) (cwV 0 hts (pw_gV (own := RX4) (idx := 122) (C := RX4) (y := yX4_save) aw_752 aw_754 aw_s24 aw_6 aw_755) rfl rfl rfl pX4_save ⟨Nat.le_of_ble_eq_true rfl, Nat.le_of_ble_eq_true rfl⟩) (va_recv hK hP (ci := 4) (q0 := 0) rfl rfl) hK hP hD hS hA rfl rfl hl.1 rfl (Nat.le_of_ble_eq_true rfl) dX4_giveUp_38 ⟨Nat.zero_le _, Nat.zero_le _⟩ (fun H locs hP hD hS => ?_)
      refine lv_aload_n hx hb dX4_giveUp_41 rfl (lv_at hl 0 rfl) ?_
      refine lv_iload_n hx hb dX4_giveUp_42 rfl (lv_at hl 1 rfl) ?_
      obtain ⟨r5, hr5, h⟩ := pq_b h
      refine pw_ci (w1 := WM cy q v2 z r4.1 r4.2 sp bf ty gn hs) (rest := []) (As := [.int x1]) hF (kX4_waitedFor l D cy q _ v2 z r4.1 r4.2 sp bf ty gn hs x1 r5 hr5) (cwV 1 hts (pw_gV (own := RX4) (idx := 88) (C := RX4) (y := yX4_waitedFor) aw_812 aw_814 aw_s39 aw_6 aw_815) rfl rfl rfl pX4_waitedFor ⟨Nat.le_of_ble_eq_true rfl, Nat.le_of_ble_eq_true rfl⟩) (va_recv hK hP (ci := 4) (q0 := 0) rfl rfl) hK hP hD hS hA rfl rfl hl.1 rfl (Nat.le_of_ble_eq_true rfl) dX4_giveUp_43 ⟨Nat.zero_le _, Nat.zero_le _⟩ (fun H locs hP hD hS => ?_)
      refine lv_istore_n (lv' := [(2, .int r5), (0, .ref (q 0)), (1, .int x1)]) hx hb dX4_giveUp_46 rfl hl (by decide) rfl (fun ls hl => ?_)
      refine lv_aload_n hx hb dX4_giveUp_47 rfl (lv_at hl 1 rfl) ?_
      refine lv_iload_n hx hb dX4_giveUp_48 rfl (lv_at hl 2 rfl) ?_
      obtain ⟨r6, hr6, h⟩ := pq_b h
      refine pw_cv (w1 := WM cy q v2 r6 r4.1 r4.2 sp bf ty gn hs) (rest := []) (As := [.int x1]) hF (kX4_giveUpIt l D cy q _ v2 z r4.1 r4.2 sp bf ty gn hs x1 r6 hr6) (cwV 1 hts (pw_gV (own := RX4) (idx := 110) (C := RX4) (y := yX4_giveUpIt) aw_839 aw_841 aw_s43 aw_6 aw_842) rfl rfl rfl pX4_giveUpIt ⟨Nat.le_of_ble_eq_true rfl, Nat.le_of_ble_eq_true rfl⟩) (va_recv hK hP (ci := 4) (q0 := 0) rfl rfl) hK hP hD hS hA rfl rfl hl.1 rfl (Nat.le_of_ble_eq_true rfl) dX4_giveUp_49 ⟨Nat.zero_le _, Nat.zero_le _⟩ (fun H locs hP hD hS => ?_)
      refine lv_aload_n hx hb dX4_giveUp_52 rfl (lv_at hl 1 rfl) ?_
      obtain ⟨r7, hr7, h⟩ := pq_b h
      refine pw_cv (w1 := WM cy q v2 r7.1 r4.1 r4.2 sp bf ty r7.2 hs) (rest := []) (As := []) hF (kX4_serve l D cy q _ v2 r6 r4.1 r4.2 sp bf ty gn hs  r7 hr7) (cwV 0 hts (pw_gV (own := RX4) (idx := 98) (C := RX4) (y := yX4_serve) aw_804 aw_806 aw_s37 aw_6 aw_807) rfl rfl rfl pX4_serve ⟨Nat.le_of_ble_eq_true rfl, Nat.le_of_ble_eq_true rfl⟩) (va_recv hK hP (ci := 4) (q0 := 0) rfl rfl) hK hP hD hS hA rfl rfl hl.1 rfl (Nat.le_of_ble_eq_true rfl) dX4_giveUp_53 ⟨Nat.zero_le _, Nat.zero_le _⟩ (fun H locs hP hD hS => ?_)
      refine lv_iload_n hx hb dX4_giveUp_56 rfl (lv_at hl 0 rfl) ?_
      obtain rfl := Option.some.inj h
      subst hQ
      exact pw_ri hx hb hr hlk hAe hP hS rfl dX4_giveUp_57
    · have h := pq_e c3_ h
      refine lv_iconst (v := 0) hx hb dX4_giveUp_35 (by decide) ?_
      obtain rfl := Option.some.inj h
      subst hQ
      exact pw_ri hx hb hr hlk hAe hP hS rfl dX4_giveUp_36
  clear h
  have h := hv2
  clear hv2
  refine lv_if_ne (tgt := 12) hx hb dX4_giveUp_5 (by decide) (fun c1_ => ?_) (fun c1_ => ?_)
  · have h := pq_e c1_ h
    refine lv_aload_n hx hb dX4_giveUp_12 rfl (lv_at hl 0 rfl) ?_
    refine lv_iload_n hx hb dX4_giveUp_13 rfl (lv_at hl 1 rfl) ?_
    obtain ⟨r3, hr3, h⟩ := pq_b h
    refine pw_ci (w1 := WM cy q th z sv sn sp bf ty gn hs) (rest := [.ref (q 0)]) (As := [.int x1]) hF (kX4_waits l D cy q _ th z sv sn sp bf ty gn hs x1 r3 hr3) (cwV 1 hts (pw_gV (own := RX4) (idx := 104) (C := RX4) (y := yX4_waits) aw_744 aw_746 aw_s22 aw_6 aw_747) rfl rfl rfl pX4_waits ⟨Nat.le_of_ble_eq_true rfl, Nat.le_of_ble_eq_true rfl⟩) (va_recv hK hP (ci := 4) (q0 := 0) rfl rfl) hK hP hD hS hA rfl rfl hl.1 rfl (Nat.le_of_ble_eq_true rfl) dX4_giveUp_14 ⟨Nat.zero_le _, Nat.zero_le _⟩ (fun H locs hP hD hS => ?_)
    refine lv_if_eq (tgt := 24) hx hb dX4_giveUp_17 (by decide) (fun c2_ => ?_) (fun c2_ => ?_)
    · have h := pq_t c2_ h
      refine lv_iconst (v := 2) hx hb dX4_giveUp_24 (by decide) ?_
      obtain rfl := Option.some.inj h
      exact J25_v2 _ _ _ hP hD hS (lv_sub hl [0, 1] rfl)
    · have h := pq_e c2_ h
      refine lv_iconst (v := 0) hx hb dX4_giveUp_20 (by decide) ?_
      refine lv_goto (tgt := 25) hx hb dX4_giveUp_21 (by decide) ?_
      obtain rfl := Option.some.inj h
      exact J25_v2 _ _ _ hP hD hS (lv_sub hl [0, 1] rfl)
  · have h := pq_t c1_ h
    refine lv_iconst (v := 1) hx hb dX4_giveUp_8 (by decide) ?_
    refine lv_goto (tgt := 25) hx hb dX4_giveUp_9 (by decide) ?_
    obtain rfl := Option.some.inj h
    exact J25_v2 _ _ _ hP hD hS (lv_sub hl [0, 1] rfl)

def aX4_appear : List Cond := Cond.code yX4_appear cX4_appear 3 (some .int) :: pw_all
theorem pX4_appear : yX4_appear.cls = RX4 ∧ yX4_appear.cls ≠ "java/lang/invoke/MethodHandle" ∧ yX4_appear.cls ≠ "java/lang/invoke/VarHandle" ∧ (parseMethodDescriptor yX4_appear.desc).map (fun d => d.parameters.length) = some 2 := by decide +kernel
set_option maxHeartbeats 8000000 in
set_option maxRecDepth 100000 in
theorem kX4_appear (l : Launch) (D : va_G) (cy : Nat → ClassId) (q : Nat → Nat) (sz : Nat) (th : Int32) (z : Nat → Int32) (sv : Nat → Int32) (sn : Int32) (sp : Nat → Int32) (bf : Nat → Int32) (ty : Int32) (gn : Nat → Int32) (hs : Int64) (x1 : Int32) (x2 : Int32) (o : Int32 × Int32 × (Nat → Int32) × (Nat → Int32) × Int32 × (Nat → Int32)) (h : fX4_appear x1 x2 th z sv sn gn = some o) : Met l yX4_appear aX4_appear ({ frames := 7, cells := 0, slots := 0, locals := 153 }) (pw_Pre D cy [.ref (q 0), .int x1, .int x2] (WM cy q th z sv sn sp bf ty gn hs) sz) (pw_I D o.1 (WM cy q th z sv sn sp bf ty gn hs) (WM cy q o.2.1 o.2.2.1 o.2.2.2.1 o.2.2.2.2.1 sp bf ty o.2.2.2.2.2 hs) sz) 0 0 (va_A (WM cy q th z sv sn sp bf ty gn hs) sz) := by
  refine pw_met (cc := cX4_appear) (maxL := 3) (ret := (some .int)) (by decide) rfl (Nat.le_of_ble_eq_true rfl) ?_
  intro p e s m args below meth c ls A hx hb hr hml hlk hts hown hAe hA hK hP hD hS hl
  have hl : lv_has ls 3 [(0, .ref (q 0)), (1, .int x1), (2, .int x2)] := hl
  generalize hQ : MQ below (pw_I D o.1 (WM cy q th z sv sn sp bf ty gn hs) (WM cy q o.2.1 o.2.2.1 o.2.2.2.1 o.2.2.2.2.1 sp bf ty o.2.2.2.2.2 hs) sz) args s 0 0 (va_A (WM cy q th z sv sn sp bf ty gn hs) sz) = Q
  have hF : CallFix p m c cX4_appear 3 s args aX4_appear RX4 := ⟨hx, hb, hml, hown, hts⟩
  have hta : ∀ w ∈ pw_all, w.before args s = true := fun w h => hts w (List.mem_cons_of_mem _ h)
  have hin : ∀ w ∈ wsX40, w ∈ aX4_appear := fun w h => List.mem_cons_of_mem _ (inA4 w h)
  unfold fX4_appear at h
  refine lv_aload_n hx hb dX4_appear_0 rfl (lv_at hl 0 rfl) ?_
  refine lv_iload_n hx hb dX4_appear_1 rfl (lv_at hl 1 rfl) ?_
  obtain ⟨r1, hr1, h⟩ := pq_b h
  refine pw_si (rest := [.ref (q 0)]) (As := [.int x1]) hF (kX4_isOwner l D cy _ x1 r1 hr1) (cwS 1 hts (pw_gS (own := RX4) (idx := 116) (y := yX4_isOwner) aw_726 aw_727 aw_6 aw_728) rfl rfl rfl pX4_isOwner ⟨Nat.le_of_ble_eq_true rfl, Nat.le_of_ble_eq_true rfl⟩) hK hP hS hA rfl hl.1 rfl (Nat.le_of_ble_eq_true rfl) dX4_appear_2 ⟨Nat.zero_le _, Nat.zero_le _⟩ (fun H locs hP hS => ?_)
  obtain ⟨v2, hv2, h⟩ := pq_b h
  have J26_v2 : ∀ (H : Heap) (locs : List Loc) (ls : Array Slot), va_P D vwCl (WM cy q th z sv sn sp bf ty gn hs) H → va_D A (WM cy q th z sv sn sp bf ty gn hs) → va_S A s.heap H locs → lv_has ls 3 [(0, .ref (q 0)), (1, .int x1), (2, .int x2)] → W p l e ({ frames := 7, cells := 0, slots := 0, locals := 153 } : Room) s m args below meth c H locs 0 0 Q (F0 m 26 ls [.int v2, .ref (q 0)]) := by
    intro H locs ls hP hD hS hl
    refine va_put (D := D) (ci := 4) (v := .int v2) (ty := .int) (C := RX4) (T := TX4) (N := 9) hx hb hts hin tyX4 tyX4_ok nmX4 hown hK hP hD hS 0 rfl rfl 0 (by decide) (hta _ aw_686) (fun _ h9 => h9) rfl (by decide +kernel) rfl rfl (Nat.le_of_ble_eq_true rfl) dX4_appear_26 (fun H locs hP hD hS => ?_)
    have hP : va_P D vwCl (WM cy q v2 z sv sn sp bf ty gn hs) H := hP
    have hD : va_D A (WM cy q v2 z sv sn sp bf ty gn hs) := hD
    refine lv_aload_n hx hb dX4_appear_29 rfl (lv_at hl 0 rfl) ?_
    refine va_get (D := D) (ci := 4) (v := .int v2) (C := RX4) (T := TX4) (N := 9) hx hb hts hin hown hK hP 0 rfl rfl 0 (by decide) (hta _ aw_686) (fun _ h9 => h9) rfl dX4_appear_30 ?_
    refine lv_if_le (tgt := 38) hx hb dX4_appear_33 (by decide) (fun c3_ => ?_) (fun c3_ => ?_)
    · have h := pq_t c3_ h
      refine lv_aload_n hx hb dX4_appear_38 rfl (lv_at hl 0 rfl) ?_
      obtain ⟨r4, hr4, h⟩ := pq_b h
      refine pw_cv (w1 := WM cy q v2 z r4.1 r4.2 sp bf ty gn hs) (rest := []) (As := []) hF (kX4_save l D cy q _ v2 z sv sn sp bf ty gn hs  r4 hr4) (cwV 0 hts (pw_gV (own := RX4) (idx := 122) (C := RX4) (y := yX4_save) aw_752 aw_754 aw_s24 aw_6 aw_755) rfl rfl rfl pX4_save ⟨Nat.le_of_ble_eq_true rfl, Nat.le_of_ble_eq_true rfl⟩) (va_recv hK hP (ci := 4) (q0 := 0) rfl rfl) hK hP hD hS hA rfl rfl hl.1 rfl (Nat.le_of_ble_eq_true rfl) dX4_appear_39 ⟨Nat.zero_le _, Nat.zero_le _⟩ (fun H locs hP hD hS => ?_)
      refine lv_aload_n hx hb dX4_appear_42 rfl (lv_at hl 0 rfl) ?_
      refine lv_iload_n hx hb dX4_appear_43 rfl (lv_at hl 1 rfl) ?_
      refine lv_iload_n hx hb dX4_appear_44 rfl (lv_at hl 2 rfl) ?_
      obtain ⟨r5, hr5, h⟩ := pq_b h
      refine pw_ci (w1 := WM cy q v2 r5.2.1 r4.1 r4.2 sp bf ty r5.2.2 hs) (rest := []) (As := [.int x1, .int x2]) hF (kX4_appearIt l D cy q _ v2 z r4.1 r4.2 sp bf ty gn hs x1 x2 r5 hr5) (cwV 2 hts (pw_gV (own := RX4) (idx := 137) (C := RX4) (y := yX4_appearIt) aw_847 aw_849 aw_s44 aw_6 aw_850) rfl rfl rfl pX4_appearIt ⟨Nat.le_of_ble_eq_true rfl, Nat.le_of_ble_eq_true rfl⟩) (va_recv hK hP (ci := 4) (q0 := 0) rfl rfl) hK hP hD hS hA rfl rfl hl.1 rfl (Nat.le_of_ble_eq_true rfl) dX4_appear_45 ⟨Nat.zero_le _, Nat.zero_le _⟩ (fun H locs hP hD hS => ?_)
      obtain rfl := Option.some.inj h
      subst hQ
      exact pw_ri hx hb hr hlk hAe hP hS rfl dX4_appear_48
    · have h := pq_e c3_ h
      refine lv_iconst (v := 0) hx hb dX4_appear_36 (by decide) ?_
      obtain rfl := Option.some.inj h
      subst hQ
      exact pw_ri hx hb hr hlk hAe hP hS rfl dX4_appear_37
  clear h
  have h := hv2
  clear hv2
  refine lv_if_ne (tgt := 12) hx hb dX4_appear_5 (by decide) (fun c1_ => ?_) (fun c1_ => ?_)
  · have h := pq_e c1_ h
    refine lv_aload_n hx hb dX4_appear_12 rfl (lv_at hl 0 rfl) ?_
    refine lv_iload_n hx hb dX4_appear_13 rfl (lv_at hl 1 rfl) ?_
    obtain ⟨r3, hr3, h⟩ := pq_b h
    refine pw_ci (w1 := WM cy q th z sv sn sp bf ty gn hs) (rest := [.ref (q 0)]) (As := [.int x1]) hF (kX4_isThere l D cy q _ th z sv sn sp bf ty gn hs x1 r3 hr3) (cwV 1 hts (pw_gV (own := RX4) (idx := 101) (C := RX4) (y := yX4_isThere) aw_736 aw_738 aw_s20 aw_6 aw_739) rfl rfl rfl pX4_isThere ⟨Nat.le_of_ble_eq_true rfl, Nat.le_of_ble_eq_true rfl⟩) (va_recv hK hP (ci := 4) (q0 := 0) rfl rfl) hK hP hD hS hA rfl rfl hl.1 rfl (Nat.le_of_ble_eq_true rfl) dX4_appear_14 ⟨Nat.zero_le _, Nat.zero_le _⟩ (fun H locs hP hD hS => ?_)
    refine lv_iload_n hx hb dX4_appear_17 rfl (lv_at hl 2 rfl) ?_
    refine lv_icmp_ne (tgt := 25) hx hb dX4_appear_18 (by decide) (fun c2_ => ?_) (fun c2_ => ?_)
    · have h := pq_e c2_ h
      refine lv_iconst (v := 0) hx hb dX4_appear_25 (by decide) ?_
      obtain rfl := Option.some.inj h
      exact J26_v2 _ _ _ hP hD hS (lv_sub hl [0, 1, 2] rfl)
    · have h := pq_t c2_ h
      refine lv_iconst (v := 2) hx hb dX4_appear_21 (by decide) ?_
      refine lv_goto (tgt := 26) hx hb dX4_appear_22 (by decide) ?_
      obtain rfl := Option.some.inj h
      exact J26_v2 _ _ _ hP hD hS (lv_sub hl [0, 1, 2] rfl)
  · have h := pq_t c1_ h
    refine lv_iconst (v := 1) hx hb dX4_appear_8 (by decide) ?_
    refine lv_goto (tgt := 26) hx hb dX4_appear_9 (by decide) ?_
    obtain rfl := Option.some.inj h
    exact J26_v2 _ _ _ hP hD hS (lv_sub hl [0, 1, 2] rfl)

def aX4_sicken : List Cond := Cond.code yX4_sicken cX4_sicken 2 (some .int) :: pw_all
theorem pX4_sicken : yX4_sicken.cls = RX4 ∧ yX4_sicken.cls ≠ "java/lang/invoke/MethodHandle" ∧ yX4_sicken.cls ≠ "java/lang/invoke/VarHandle" ∧ (parseMethodDescriptor yX4_sicken.desc).map (fun d => d.parameters.length) = some 1 := by decide +kernel
set_option maxHeartbeats 8000000 in
set_option maxRecDepth 100000 in
theorem kX4_sicken (l : Launch) (D : va_G) (cy : Nat → ClassId) (q : Nat → Nat) (sz : Nat) (th : Int32) (z : Nat → Int32) (sv : Nat → Int32) (sn : Int32) (sp : Nat → Int32) (bf : Nat → Int32) (ty : Int32) (gn : Nat → Int32) (hs : Int64) (x1 : Int32) (o : Int32 × Int32 × (Nat → Int32) × (Nat → Int32) × Int32 × (Nat → Int32)) (h : fX4_sicken x1 th z sv sn gn = some o) : Met l yX4_sicken aX4_sicken ({ frames := 7, cells := 0, slots := 0, locals := 153 }) (pw_Pre D cy [.ref (q 0), .int x1] (WM cy q th z sv sn sp bf ty gn hs) sz) (pw_I D o.1 (WM cy q th z sv sn sp bf ty gn hs) (WM cy q o.2.1 o.2.2.1 o.2.2.2.1 o.2.2.2.2.1 sp bf ty o.2.2.2.2.2 hs) sz) 0 0 (va_A (WM cy q th z sv sn sp bf ty gn hs) sz) := by
  refine pw_met (cc := cX4_sicken) (maxL := 2) (ret := (some .int)) (by decide) rfl (Nat.le_of_ble_eq_true rfl) ?_
  intro p e s m args below meth c ls A hx hb hr hml hlk hts hown hAe hA hK hP hD hS hl
  have hl : lv_has ls 2 [(0, .ref (q 0)), (1, .int x1)] := hl
  generalize hQ : MQ below (pw_I D o.1 (WM cy q th z sv sn sp bf ty gn hs) (WM cy q o.2.1 o.2.2.1 o.2.2.2.1 o.2.2.2.2.1 sp bf ty o.2.2.2.2.2 hs) sz) args s 0 0 (va_A (WM cy q th z sv sn sp bf ty gn hs) sz) = Q
  have hF : CallFix p m c cX4_sicken 2 s args aX4_sicken RX4 := ⟨hx, hb, hml, hown, hts⟩
  have hta : ∀ w ∈ pw_all, w.before args s = true := fun w h => hts w (List.mem_cons_of_mem _ h)
  have hin : ∀ w ∈ wsX40, w ∈ aX4_sicken := fun w h => List.mem_cons_of_mem _ (inA4 w h)
  unfold fX4_sicken at h
  refine lv_aload_n hx hb dX4_sicken_0 rfl (lv_at hl 0 rfl) ?_
  refine lv_iload_n hx hb dX4_sicken_1 rfl (lv_at hl 1 rfl) ?_
  obtain ⟨r1, hr1, h⟩ := pq_b h
  refine pw_si (rest := [.ref (q 0)]) (As := [.int x1]) hF (kX4_isPlace l D cy _ x1 r1 hr1) (cwS 1 hts (pw_gS (own := RX4) (idx := 128) (y := yX4_isPlace) aw_824 aw_825 aw_6 aw_826) rfl rfl rfl pX4_isPlace ⟨Nat.le_of_ble_eq_true rfl, Nat.le_of_ble_eq_true rfl⟩) hK hP hS hA rfl hl.1 rfl (Nat.le_of_ble_eq_true rfl) dX4_sicken_2 ⟨Nat.zero_le _, Nat.zero_le _⟩ (fun H locs hP hS => ?_)
  obtain ⟨v2, hv2, h⟩ := pq_b h
  have J26_v2 : ∀ (H : Heap) (locs : List Loc) (ls : Array Slot), va_P D vwCl (WM cy q th z sv sn sp bf ty gn hs) H → va_D A (WM cy q th z sv sn sp bf ty gn hs) → va_S A s.heap H locs → lv_has ls 2 [(0, .ref (q 0)), (1, .int x1)] → W p l e ({ frames := 7, cells := 0, slots := 0, locals := 153 } : Room) s m args below meth c H locs 0 0 Q (F0 m 26 ls [.int v2, .ref (q 0)]) := by
    intro H locs ls hP hD hS hl
    refine va_put (D := D) (ci := 4) (v := .int v2) (ty := .int) (C := RX4) (T := TX4) (N := 9) hx hb hts hin tyX4 tyX4_ok nmX4 hown hK hP hD hS 0 rfl rfl 0 (by decide) (hta _ aw_686) (fun _ h9 => h9) rfl (by decide +kernel) rfl rfl (Nat.le_of_ble_eq_true rfl) dX4_sicken_26 (fun H locs hP hD hS => ?_)
    have hP : va_P D vwCl (WM cy q v2 z sv sn sp bf ty gn hs) H := hP
    have hD : va_D A (WM cy q v2 z sv sn sp bf ty gn hs) := hD
    refine lv_aload_n hx hb dX4_sicken_29 rfl (lv_at hl 0 rfl) ?_
    refine va_get (D := D) (ci := 4) (v := .int v2) (C := RX4) (T := TX4) (N := 9) hx hb hts hin hown hK hP 0 rfl rfl 0 (by decide) (hta _ aw_686) (fun _ h9 => h9) rfl dX4_sicken_30 ?_
    refine lv_if_le (tgt := 38) hx hb dX4_sicken_33 (by decide) (fun c3_ => ?_) (fun c3_ => ?_)
    · have h := pq_t c3_ h
      refine lv_aload_n hx hb dX4_sicken_38 rfl (lv_at hl 0 rfl) ?_
      obtain ⟨r4, hr4, h⟩ := pq_b h
      refine pw_cv (w1 := WM cy q v2 z r4.1 r4.2 sp bf ty gn hs) (rest := []) (As := []) hF (kX4_save l D cy q _ v2 z sv sn sp bf ty gn hs  r4 hr4) (cwV 0 hts (pw_gV (own := RX4) (idx := 122) (C := RX4) (y := yX4_save) aw_752 aw_754 aw_s24 aw_6 aw_755) rfl rfl rfl pX4_save ⟨Nat.le_of_ble_eq_true rfl, Nat.le_of_ble_eq_true rfl⟩) (va_recv hK hP (ci := 4) (q0 := 0) rfl rfl) hK hP hD hS hA rfl rfl hl.1 rfl (Nat.le_of_ble_eq_true rfl) dX4_sicken_39 ⟨Nat.zero_le _, Nat.zero_le _⟩ (fun H locs hP hD hS => ?_)
      refine lv_aload_n hx hb dX4_sicken_42 rfl (lv_at hl 0 rfl) ?_
      refine lv_iload_n hx hb dX4_sicken_43 rfl (lv_at hl 1 rfl) ?_
      obtain ⟨r5, hr5, h⟩ := pq_b h
      refine pw_ci (w1 := WM cy q v2 r5.2.1 r4.1 r4.2 sp bf ty r5.2.2 hs) (rest := []) (As := [.int x1]) hF (kX4_sickenIt l D cy q _ v2 z r4.1 r4.2 sp bf ty gn hs x1 r5 hr5) (cwV 1 hts (pw_gV (own := RX4) (idx := 141) (C := RX4) (y := yX4_sickenIt) aw_855 aw_857 aw_s45 aw_6 aw_858) rfl rfl rfl pX4_sickenIt ⟨Nat.le_of_ble_eq_true rfl, Nat.le_of_ble_eq_true rfl⟩) (va_recv hK hP (ci := 4) (q0 := 0) rfl rfl) hK hP hD hS hA rfl rfl hl.1 rfl (Nat.le_of_ble_eq_true rfl) dX4_sicken_44 ⟨Nat.zero_le _, Nat.zero_le _⟩ (fun H locs hP hD hS => ?_)
      obtain rfl := Option.some.inj h
      subst hQ
      exact pw_ri hx hb hr hlk hAe hP hS rfl dX4_sicken_47
    · have h := pq_e c3_ h
      refine lv_iconst (v := 0) hx hb dX4_sicken_36 (by decide) ?_
      obtain rfl := Option.some.inj h
      subst hQ
      exact pw_ri hx hb hr hlk hAe hP hS rfl dX4_sicken_37
  clear h
  have h := hv2
  clear hv2
  refine lv_if_ne (tgt := 12) hx hb dX4_sicken_5 (by decide) (fun c1_ => ?_) (fun c1_ => ?_)
  · have h := pq_e c1_ h
    refine lv_aload_n hx hb dX4_sicken_12 rfl (lv_at hl 0 rfl) ?_
    refine lv_iload_n hx hb dX4_sicken_13 rfl (lv_at hl 1 rfl) ?_
    refine lv_iconst (v := 0) hx hb dX4_sicken_14 (by decide) ?_
    obtain ⟨r3, hr3, h⟩ := pq_b h
    refine pw_ci (w1 := WM cy q th z sv sn sp bf ty gn hs) (rest := [.ref (q 0)]) (As := [.int x1, .int 0]) hF (kX4_isIn l D cy q _ th z sv sn sp bf ty gn hs x1 0 r3 hr3) (cwV 2 hts (pw_gV (own := RX4) (idx := 50) (C := RX4) (y := yX4_isIn) aw_780 aw_782 aw_s31 aw_6 aw_783) rfl rfl rfl pX4_isIn ⟨Nat.le_of_ble_eq_true rfl, Nat.le_of_ble_eq_true rfl⟩) (va_recv hK hP (ci := 4) (q0 := 0) rfl rfl) hK hP hD hS hA rfl rfl hl.1 rfl (Nat.le_of_ble_eq_true rfl) dX4_sicken_15 ⟨Nat.zero_le _, Nat.zero_le _⟩ (fun H locs hP hD hS => ?_)
    refine lv_if_eq (tgt := 25) hx hb dX4_sicken_18 (by decide) (fun c2_ => ?_) (fun c2_ => ?_)
    · have h := pq_t c2_ h
      refine lv_iconst (v := 0) hx hb dX4_sicken_25 (by decide) ?_
      obtain rfl := Option.some.inj h
      exact J26_v2 _ _ _ hP hD hS (lv_sub hl [0, 1] rfl)
    · have h := pq_e c2_ h
      refine lv_iconst (v := 2) hx hb dX4_sicken_21 (by decide) ?_
      refine lv_goto (tgt := 26) hx hb dX4_sicken_22 (by decide) ?_
      obtain rfl := Option.some.inj h
      exact J26_v2 _ _ _ hP hD hS (lv_sub hl [0, 1] rfl)
  · have h := pq_t c1_ h
    refine lv_iconst (v := 1) hx hb dX4_sicken_8 (by decide) ?_
    refine lv_goto (tgt := 26) hx hb dX4_sicken_9 (by decide) ?_
    obtain rfl := Option.some.inj h
    exact J26_v2 _ _ _ hP hD hS (lv_sub hl [0, 1] rfl)

def aX4_check : List Cond := Cond.code yX4_check cX4_check 2 (some .int) :: pw_all
theorem pX4_check : yX4_check.cls = RX4 ∧ yX4_check.cls ≠ "java/lang/invoke/MethodHandle" ∧ yX4_check.cls ≠ "java/lang/invoke/VarHandle" ∧ (parseMethodDescriptor yX4_check.desc).map (fun d => d.parameters.length) = some 0 := by decide +kernel
set_option maxHeartbeats 8000000 in
set_option maxRecDepth 100000 in
theorem kX4_check (l : Launch) (D : va_G) (cy : Nat → ClassId) (q : Nat → Nat) (sz : Nat) (th : Int32) (z : Nat → Int32) (sv : Nat → Int32) (sn : Int32) (sp : Nat → Int32) (bf : Nat → Int32) (ty : Int32) (gn : Nat → Int32) (hs : Int64)  (o : Int32 × Int32 × (Nat → Int32) × (Nat → Int32) × Int32 × (Nat → Int32)) (h : fX4_check th z sv sn gn = some o) : Met l yX4_check aX4_check ({ frames := 6, cells := 0, slots := 0, locals := 131 }) (pw_Pre D cy [.ref (q 0)] (WM cy q th z sv sn sp bf ty gn hs) sz) (pw_I D o.1 (WM cy q th z sv sn sp bf ty gn hs) (WM cy q o.2.1 o.2.2.1 o.2.2.2.1 o.2.2.2.2.1 sp bf ty o.2.2.2.2.2 hs) sz) 0 0 (va_A (WM cy q th z sv sn sp bf ty gn hs) sz) := by
  refine pw_met (cc := cX4_check) (maxL := 2) (ret := (some .int)) (by decide) rfl (Nat.le_of_ble_eq_true rfl) ?_
  intro p e s m args below meth c ls A hx hb hr hml hlk hts hown hAe hA hK hP hD hS hl
  have hl : lv_has ls 2 [(0, .ref (q 0))] := hl
  generalize hQ : MQ below (pw_I D o.1 (WM cy q th z sv sn sp bf ty gn hs) (WM cy q o.2.1 o.2.2.1 o.2.2.2.1 o.2.2.2.2.1 sp bf ty o.2.2.2.2.2 hs) sz) args s 0 0 (va_A (WM cy q th z sv sn sp bf ty gn hs) sz) = Q
  have hF : CallFix p m c cX4_check 2 s args aX4_check RX4 := ⟨hx, hb, hml, hown, hts⟩
  have hta : ∀ w ∈ pw_all, w.before args s = true := fun w h => hts w (List.mem_cons_of_mem _ h)
  have hin : ∀ w ∈ wsX40, w ∈ aX4_check := fun w h => List.mem_cons_of_mem _ (inA4 w h)
  unfold fX4_check at h
  refine lv_aload_n hx hb dX4_check_0 rfl (lv_at hl 0 rfl) ?_
  refine lv_iconst (v := 0) hx hb dX4_check_1 (by decide) ?_
  refine va_put (D := D) (ci := 4) (v := .int 0) (ty := .int) (C := RX4) (T := TX4) (N := 9) hx hb hts hin tyX4 tyX4_ok nmX4 hown hK hP hD hS 0 rfl rfl 0 (by decide) (hta _ aw_686) (fun _ h9 => h9) rfl (by decide +kernel) rfl rfl (Nat.le_of_ble_eq_true rfl) dX4_check_2 (fun H locs hP hD hS => ?_)
  have hP : va_P D vwCl (WM cy q 0 z sv sn sp bf ty gn hs) H := hP
  have hD : va_D A (WM cy q 0 z sv sn sp bf ty gn hs) := hD
  refine lv_aload_n hx hb dX4_check_5 rfl (lv_at hl 0 rfl) ?_
  obtain ⟨r1, hr1, h⟩ := pq_b h
  refine pw_cv (w1 := WM cy q 0 z r1.1 r1.2 sp bf ty gn hs) (rest := []) (As := []) hF (kX4_save l D cy q _ 0 z sv sn sp bf ty gn hs  r1 hr1) (cwV 0 hts (pw_gV (own := RX4) (idx := 122) (C := RX4) (y := yX4_save) aw_752 aw_754 aw_s24 aw_6 aw_755) rfl rfl rfl pX4_save ⟨Nat.le_of_ble_eq_true rfl, Nat.le_of_ble_eq_true rfl⟩) (va_recv hK hP (ci := 4) (q0 := 0) rfl rfl) hK hP hD hS hA rfl rfl hl.1 rfl (Nat.le_of_ble_eq_true rfl) dX4_check_6 ⟨Nat.zero_le _, Nat.zero_le _⟩ (fun H locs hP hD hS => ?_)
  refine lv_aload_n hx hb dX4_check_9 rfl (lv_at hl 0 rfl) ?_
  obtain ⟨r2, hr2, h⟩ := pq_b h
  refine pw_ci (w1 := WM cy q 0 r2.2 r1.1 r1.2 sp bf ty gn hs) (rest := []) (As := []) hF (kX4_checkAll l D cy q _ 0 z r1.1 r1.2 sp bf ty gn hs  r2 hr2) (cwV 0 hts (pw_gV (own := RX4) (idx := 107) (C := RX4) (y := yX4_checkAll) aw_863 aw_865 aw_s46 aw_6 aw_866) rfl rfl rfl pX4_checkAll ⟨Nat.le_of_ble_eq_true rfl, Nat.le_of_ble_eq_true rfl⟩) (va_recv hK hP (ci := 4) (q0 := 0) rfl rfl) hK hP hD hS hA rfl rfl hl.1 rfl (Nat.le_of_ble_eq_true rfl) dX4_check_10 ⟨Nat.zero_le _, Nat.zero_le _⟩ (fun H locs hP hD hS => ?_)
  refine lv_istore_n (lv' := [(1, .int r2.1), (0, .ref (q 0))]) hx hb dX4_check_13 rfl hl (by decide) rfl (fun ls hl => ?_)
  refine lv_aload_n hx hb dX4_check_14 rfl (lv_at hl 1 rfl) ?_
  obtain ⟨r3, hr3, h⟩ := pq_b h
  refine pw_cv (w1 := WM cy q 0 r3.1 r1.1 r1.2 sp bf ty r3.2 hs) (rest := []) (As := []) hF (kX4_serve l D cy q _ 0 r2.2 r1.1 r1.2 sp bf ty gn hs  r3 hr3) (cwV 0 hts (pw_gV (own := RX4) (idx := 98) (C := RX4) (y := yX4_serve) aw_804 aw_806 aw_s37 aw_6 aw_807) rfl rfl rfl pX4_serve ⟨Nat.le_of_ble_eq_true rfl, Nat.le_of_ble_eq_true rfl⟩) (va_recv hK hP (ci := 4) (q0 := 0) rfl rfl) hK hP hD hS hA rfl rfl hl.1 rfl (Nat.le_of_ble_eq_true rfl) dX4_check_15 ⟨Nat.zero_le _, Nat.zero_le _⟩ (fun H locs hP hD hS => ?_)
  refine lv_iload_n hx hb dX4_check_18 rfl (lv_at hl 0 rfl) ?_
  obtain rfl := Option.some.inj h
  subst hQ
  exact pw_ri hx hb hr hlk hAe hP hS rfl dX4_check_19

def aX4_drain : List Cond := Cond.code yX4_drain cX4_drain 3 (some .int) :: pw_all
theorem pX4_drain : yX4_drain.cls = RX4 ∧ yX4_drain.cls ≠ "java/lang/invoke/MethodHandle" ∧ yX4_drain.cls ≠ "java/lang/invoke/VarHandle" ∧ (parseMethodDescriptor yX4_drain.desc).map (fun d => d.parameters.length) = some 0 := by decide +kernel
set_option maxHeartbeats 8000000 in
set_option maxRecDepth 100000 in
theorem kX4_drain (l : Launch) (D : va_G) (cy : Nat → ClassId) (q : Nat → Nat) (sz : Nat) (th : Int32) (z : Nat → Int32) (sv : Nat → Int32) (sn : Int32) (sp : Nat → Int32) (bf : Nat → Int32) (ty : Int32) (gn : Nat → Int32) (hs : Int64)  (o : Int32 × Int32 × (Nat → Int32) × (Nat → Int32) × Int32 × (Nat → Int32)) (h : fX4_drain th z sv sn gn = some o) : Met l yX4_drain aX4_drain ({ frames := 6, cells := 0, slots := 0, locals := 131 }) (pw_Pre D cy [.ref (q 0)] (WM cy q th z sv sn sp bf ty gn hs) sz) (pw_I D o.1 (WM cy q th z sv sn sp bf ty gn hs) (WM cy q o.2.1 o.2.2.1 o.2.2.2.1 o.2.2.2.2.1 sp bf ty o.2.2.2.2.2 hs) sz) 0 0 (va_A (WM cy q th z sv sn sp bf ty gn hs) sz) := by
  refine pw_met (cc := cX4_drain) (maxL := 3) (ret := (some .int)) (by decide) rfl (Nat.le_of_ble_eq_true rfl) ?_
  intro p e s m args below meth c ls A hx hb hr hml hlk hts hown hAe hA hK hP hD hS hl
  have hl : lv_has ls 3 [(0, .ref (q 0))] := hl
  generalize hQ : MQ below (pw_I D o.1 (WM cy q th z sv sn sp bf ty gn hs) (WM cy q o.2.1 o.2.2.1 o.2.2.2.1 o.2.2.2.2.1 sp bf ty o.2.2.2.2.2 hs) sz) args s 0 0 (va_A (WM cy q th z sv sn sp bf ty gn hs) sz) = Q
  have hF : CallFix p m c cX4_drain 3 s args aX4_drain RX4 := ⟨hx, hb, hml, hown, hts⟩
  have hta : ∀ w ∈ pw_all, w.before args s = true := fun w h => hts w (List.mem_cons_of_mem _ h)
  have hin : ∀ w ∈ wsX40, w ∈ aX4_drain := fun w h => List.mem_cons_of_mem _ (inA4 w h)
  unfold fX4_drain at h
  refine lv_aload_n hx hb dX4_drain_0 rfl (lv_at hl 0 rfl) ?_
  refine lv_iconst (v := 0) hx hb dX4_drain_1 (by decide) ?_
  refine va_put (D := D) (ci := 4) (v := .int 0) (ty := .int) (C := RX4) (T := TX4) (N := 9) hx hb hts hin tyX4 tyX4_ok nmX4 hown hK hP hD hS 0 rfl rfl 0 (by decide) (hta _ aw_686) (fun _ h9 => h9) rfl (by decide +kernel) rfl rfl (Nat.le_of_ble_eq_true rfl) dX4_drain_2 (fun H locs hP hD hS => ?_)
  have hP : va_P D vwCl (WM cy q 0 z sv sn sp bf ty gn hs) H := hP
  have hD : va_D A (WM cy q 0 z sv sn sp bf ty gn hs) := hD
  refine lv_aload_n hx hb dX4_drain_5 rfl (lv_at hl 0 rfl) ?_
  obtain ⟨r1, hr1, h⟩ := pq_b h
  refine pw_cv (w1 := WM cy q 0 z r1.1 r1.2 sp bf ty gn hs) (rest := []) (As := []) hF (kX4_save l D cy q _ 0 z sv sn sp bf ty gn hs  r1 hr1) (cwV 0 hts (pw_gV (own := RX4) (idx := 122) (C := RX4) (y := yX4_save) aw_752 aw_754 aw_s24 aw_6 aw_755) rfl rfl rfl pX4_save ⟨Nat.le_of_ble_eq_true rfl, Nat.le_of_ble_eq_true rfl⟩) (va_recv hK hP (ci := 4) (q0 := 0) rfl rfl) hK hP hD hS hA rfl rfl hl.1 rfl (Nat.le_of_ble_eq_true rfl) dX4_drain_6 ⟨Nat.zero_le _, Nat.zero_le _⟩ (fun H locs hP hD hS => ?_)
  refine lv_iconst (v := 0) hx hb dX4_drain_9 (by decide) ?_
  refine lv_istore_n (lv' := [(1, .int 0), (0, .ref (q 0))]) hx hb dX4_drain_10 rfl hl (by decide) rfl (fun ls hl => ?_)
  refine lv_iconst (v := 0) hx hb dX4_drain_11 (by decide) ?_
  refine lv_istore_n (lv' := [(2, .int 0), (1, .int 0), (0, .ref (q 0))]) hx hb dX4_drain_12 rfl hl (by decide) rfl (fun ls hl => ?_)
  obtain ⟨v3, hv3, h⟩ := pq_b h
  have X43_v3 : ∀ (H : Heap) (locs : List Loc) (ls : Array Slot), va_P D vwCl (WM cy q 0 v3.2 r1.1 r1.2 sp bf ty gn hs) H → va_D A (WM cy q 0 v3.2 r1.1 r1.2 sp bf ty gn hs) → va_S A s.heap H locs → lv_has ls 3 [(0, .ref (q 0)), (1, .int v3.1)] → W p l e ({ frames := 6, cells := 0, slots := 0, locals := 131 } : Room) s m args below meth c H locs 0 0 Q (F0 m 43 ls []) := by
    intro H locs ls hP hD hS hl
    refine lv_aload_n hx hb dX4_drain_43 rfl (lv_at hl 0 rfl) ?_
    obtain ⟨r6, hr6, h⟩ := pq_b h
    refine pw_cv (w1 := WM cy q 0 r6.1 r1.1 r1.2 sp bf ty r6.2 hs) (rest := []) (As := []) hF (kX4_serve l D cy q _ 0 v3.2 r1.1 r1.2 sp bf ty gn hs  r6 hr6) (cwV 0 hts (pw_gV (own := RX4) (idx := 98) (C := RX4) (y := yX4_serve) aw_804 aw_806 aw_s37 aw_6 aw_807) rfl rfl rfl pX4_serve ⟨Nat.le_of_ble_eq_true rfl, Nat.le_of_ble_eq_true rfl⟩) (va_recv hK hP (ci := 4) (q0 := 0) rfl rfl) hK hP hD hS hA rfl rfl hl.1 rfl (Nat.le_of_ble_eq_true rfl) dX4_drain_44 ⟨Nat.zero_le _, Nat.zero_le _⟩ (fun H locs hP hD hS => ?_)
    refine lv_iload_n hx hb dX4_drain_47 rfl (lv_at hl 1 rfl) ?_
    obtain rfl := Option.some.inj h
    subst hQ
    exact pw_ri hx hb hr hlk hAe hP hS rfl dX4_drain_48
  clear h
  have L13_n2 : ∀ (n : Nat) (x1_13 : Int32) (x2_13 : Int32) (z_13 : Nat → Int32) (H : Heap) (locs : List Loc) (ls : Array Slot), fX4_drain_L13  n x1_13 x2_13 z_13 = some v3 → va_P D vwCl (WM cy q 0 z_13 r1.1 r1.2 sp bf ty gn hs) H → va_D A (WM cy q 0 z_13 r1.1 r1.2 sp bf ty gn hs) → va_S A s.heap H locs → lv_has ls 3 [(0, .ref (q 0)), (1, .int x1_13), (2, .int x2_13)] → W p l e ({ frames := 6, cells := 0, slots := 0, locals := 131 } : Room) s m args below meth c H locs 0 0 Q (F0 m 13 ls []) := by
    intro n
    induction n with
    | zero =>
      intro x1_13 x2_13 z_13 H locs ls h hP hD hS hl
      exact pq_n h
    | succ n ih13 =>
      intro x1_13 x2_13 z_13 H locs ls h hP hD hS hl
      rw [fX4_drain_L13] at h
      refine lv_iload_n hx hb dX4_drain_13 rfl (lv_at hl 2 rfl) ?_
      refine lv_bipush (v := 8) hx hb dX4_drain_14 (by decide) ?_
      refine lv_icmp_ge (tgt := 43) hx hb dX4_drain_16 (by decide) (fun c1_ => ?_) (fun c1_ => ?_)
      · have h := pq_t c1_ h
        obtain rfl := Option.some.inj h
        exact X43_v3 _ _ _ hP hD hS (lv_sub hl [0, 1] rfl)
      · have h := pq_e c1_ h
        refine lv_aload_n hx hb dX4_drain_19 rfl (lv_at hl 0 rfl) ?_
        refine lv_iload_n hx hb dX4_drain_20 rfl (lv_at hl 2 rfl) ?_
        refine lv_iconst (v := 1) hx hb dX4_drain_21 (by decide) ?_
        obtain ⟨r4, hr4, h⟩ := pq_b h
        refine pw_ci (w1 := WM cy q 0 z_13 r1.1 r1.2 sp bf ty gn hs) (rest := []) (As := [.int x2_13, .int 1]) hF (kX4_isIn l D cy q _ 0 z_13 r1.1 r1.2 sp bf ty gn hs x2_13 1 r4 hr4) (cwV 2 hts (pw_gV (own := RX4) (idx := 50) (C := RX4) (y := yX4_isIn) aw_780 aw_782 aw_s31 aw_6 aw_783) rfl rfl rfl pX4_isIn ⟨Nat.le_of_ble_eq_true rfl, Nat.le_of_ble_eq_true rfl⟩) (va_recv hK hP (ci := 4) (q0 := 0) rfl rfl) hK hP hD hS hA rfl rfl hl.1 rfl (Nat.le_of_ble_eq_true rfl) dX4_drain_22 ⟨Nat.zero_le _, Nat.zero_le _⟩ (fun H locs hP hD hS => ?_)
        refine lv_if_eq (tgt := 37) hx hb dX4_drain_25 (by decide) (fun c2_ => ?_) (fun c2_ => ?_)
        · have h := pq_t c2_ h
          refine lv_iinc (v := x2_13 + 1) (lv' := [(2, .int (x2_13 + 1)), (0, .ref (q 0)), (1, .int x1_13)]) hx hb dX4_drain_37 hl (k := 2) rfl (by first | rfl | decide) (by decide) rfl (fun ls hl => ?_)
          refine lv_goto (tgt := 13) hx hb dX4_drain_40 (by decide) ?_
          exact ih13 x1_13 (x2_13 + 1) z_13 _ _ _ h hP hD hS (lv_sub hl [1, 2, 0] rfl)
        · have h := pq_e c2_ h
          refine lv_aload_n hx hb dX4_drain_28 rfl (lv_at hl 0 rfl) ?_
          refine lv_iload_n hx hb dX4_drain_29 rfl (lv_at hl 2 rfl) ?_
          refine lv_iconst (v := (-1)) hx hb dX4_drain_30 (by decide) ?_
          obtain ⟨r5, hr5, h⟩ := pq_b h
          refine pw_cv (w1 := WM cy q 0 r5 r1.1 r1.2 sp bf ty gn hs) (rest := []) (As := [.int x2_13, .int (-1)]) hF (kX4_close l D cy q _ 0 z_13 r1.1 r1.2 sp bf ty gn hs x2_13 (-1) r5 hr5) (cwV 2 hts (pw_gV (own := RX4) (idx := 65) (C := RX4) (y := yX4_close) aw_784 aw_786 aw_s32 aw_6 aw_787) rfl rfl rfl pX4_close ⟨Nat.le_of_ble_eq_true rfl, Nat.le_of_ble_eq_true rfl⟩) (va_recv hK hP (ci := 4) (q0 := 0) rfl rfl) hK hP hD hS hA rfl rfl hl.1 rfl (Nat.le_of_ble_eq_true rfl) dX4_drain_31 ⟨Nat.zero_le _, Nat.zero_le _⟩ (fun H locs hP hD hS => ?_)
          refine lv_iinc (v := x1_13 + 1) (lv' := [(1, .int (x1_13 + 1)), (0, .ref (q 0)), (2, .int x2_13)]) hx hb dX4_drain_34 hl (k := 1) rfl (by first | rfl | decide) (by decide) rfl (fun ls hl => ?_)
          refine lv_iinc (v := x2_13 + 1) (lv' := [(2, .int (x2_13 + 1)), (1, .int (x1_13 + 1)), (0, .ref (q 0))]) hx hb dX4_drain_37 hl (k := 2) rfl (by first | rfl | decide) (by decide) rfl (fun ls hl => ?_)
          refine lv_goto (tgt := 13) hx hb dX4_drain_40 (by decide) ?_
          exact ih13 (x1_13 + 1) (x2_13 + 1) r5 _ _ _ h hP hD hS (lv_sub hl [2, 1, 0] rfl)
  have h := hv3
  exact L13_n2 1000 0 0 z _ _ _ h hP hD hS (lv_sub hl [2, 1, 0] rfl)

def aX4_leastOf : List Cond := Cond.code yX4_leastOf cX4_leastOf 1 (some .int) :: pw_all
theorem pX4_leastOf : yX4_leastOf.cls = RX4 ∧ yX4_leastOf.cls ≠ "java/lang/invoke/MethodHandle" ∧ yX4_leastOf.cls ≠ "java/lang/invoke/VarHandle" ∧ (parseMethodDescriptor yX4_leastOf.desc).map (fun d => d.parameters.length) = some 1 := by decide +kernel
set_option maxHeartbeats 8000000 in
set_option maxRecDepth 100000 in
theorem kX4_leastOf (l : Launch) (D : va_G) (cy : Nat → ClassId) (sz : Nat)  (x0 : Int32) (o : Int32) (h : fX4_leastOf x0 = some o) : Met l yX4_leastOf aX4_leastOf ({ frames := 1, cells := 0, slots := 0, locals := 22 }) (pw_Pre D cy [.int x0] ([]) sz) (pw_I D o ([]) ([]) sz) 0 0 (va_A ([]) sz) := by
  refine pw_met (cc := cX4_leastOf) (maxL := 1) (ret := (some .int)) (by decide) rfl (Nat.le_of_ble_eq_true rfl) ?_
  intro p e s m args below meth c ls A hx hb hr hml hlk hts hown hAe hA hK hP hD hS hl
  have hl : lv_has ls 1 [(0, .int x0)] := hl
  generalize hQ : MQ below (pw_I D o ([]) ([]) sz) args s 0 0 (va_A ([]) sz) = Q
  have hF : CallFix p m c cX4_leastOf 1 s args aX4_leastOf RX4 := ⟨hx, hb, hml, hown, hts⟩
  have hta : ∀ w ∈ pw_all, w.before args s = true := fun w h => hts w (List.mem_cons_of_mem _ h)
  unfold fX4_leastOf at h
  refine lv_iload_n hx hb dX4_leastOf_0 rfl (lv_at hl 0 rfl) ?_
  refine lv_iconst (v := 2) hx hb dX4_leastOf_1 (by decide) ?_
  refine lv_iconst (v := 4) hx hb dX4_leastOf_2 (by decide) ?_
  obtain ⟨r1, hr1, h⟩ := pq_b h
  refine pw_si (rest := []) (As := [.int x0, .int 2, .int 4]) hF (kX4_in l D cy _ x0 2 4 r1 hr1) (cwS 3 hts (pw_gS (own := RX4) (idx := 36) (y := yX4_in) aw_729 aw_730 aw_6 aw_731) rfl rfl rfl pX4_in ⟨Nat.le_of_ble_eq_true rfl, Nat.le_of_ble_eq_true rfl⟩) hK hP hS hA rfl hl.1 rfl (Nat.le_of_ble_eq_true rfl) dX4_leastOf_3 ⟨Nat.zero_le _, Nat.zero_le _⟩ (fun H locs hP hS => ?_)
  refine lv_if_ne (tgt := 15) hx hb dX4_leastOf_6 (by decide) (fun c1_ => ?_) (fun c1_ => ?_)
  · have h := pq_e c1_ h
    refine lv_iconst (v := 0) hx hb dX4_leastOf_15 (by decide) ?_
    refine lv_goto (tgt := 20) hx hb dX4_leastOf_16 (by decide) ?_
    obtain rfl := Option.some.inj h
    subst hQ
    exact pw_ri hx hb hr hlk hAe hP hS rfl dX4_leastOf_20
  · have h := pq_t c1_ h
    refine lv_iload_n hx hb dX4_leastOf_9 rfl (lv_at hl 0 rfl) ?_
    refine lv_bipush (v := 6) hx hb dX4_leastOf_10 (by decide) ?_
    refine lv_icmp_ne (tgt := 19) hx hb dX4_leastOf_12 (by decide) (fun c2_ => ?_) (fun c2_ => ?_)
    · have h := pq_e c2_ h
      refine lv_iconst (v := 1) hx hb dX4_leastOf_19 (by decide) ?_
      obtain rfl := Option.some.inj h
      subst hQ
      exact pw_ri hx hb hr hlk hAe hP hS rfl dX4_leastOf_20
    · have h := pq_t c2_ h
      refine lv_iconst (v := 0) hx hb dX4_leastOf_15 (by decide) ?_
      refine lv_goto (tgt := 20) hx hb dX4_leastOf_16 (by decide) ?_
      obtain rfl := Option.some.inj h
      subst hQ
      exact pw_ri hx hb hr hlk hAe hP hS rfl dX4_leastOf_20

def aX4_mostOf : List Cond := Cond.code yX4_mostOf cX4_mostOf 1 (some .int) :: pw_all
theorem pX4_mostOf : yX4_mostOf.cls = RX4 ∧ yX4_mostOf.cls ≠ "java/lang/invoke/MethodHandle" ∧ yX4_mostOf.cls ≠ "java/lang/invoke/VarHandle" ∧ (parseMethodDescriptor yX4_mostOf.desc).map (fun d => d.parameters.length) = some 1 := by decide +kernel
set_option maxHeartbeats 8000000 in
set_option maxRecDepth 100000 in
theorem kX4_mostOf (l : Launch) (D : va_G) (cy : Nat → ClassId) (sz : Nat)  (x0 : Int32) (o : Int32) (h : fX4_mostOf x0 = some o) : Met l yX4_mostOf aX4_mostOf ({ frames := 0, cells := 0, slots := 0, locals := 0 }) (pw_Pre D cy [.int x0] ([]) sz) (pw_I D o ([]) ([]) sz) 0 0 (va_A ([]) sz) := by
  refine pw_met (cc := cX4_mostOf) (maxL := 1) (ret := (some .int)) (by decide) rfl (Nat.le_of_ble_eq_true rfl) ?_
  intro p e s m args below meth c ls A hx hb hr hml hlk hts hown hAe hA hK hP hD hS hl
  have hl : lv_has ls 1 [(0, .int x0)] := hl
  generalize hQ : MQ below (pw_I D o ([]) ([]) sz) args s 0 0 (va_A ([]) sz) = Q
  have hF : CallFix p m c cX4_mostOf 1 s args aX4_mostOf RX4 := ⟨hx, hb, hml, hown, hts⟩
  have hta : ∀ w ∈ pw_all, w.before args s = true := fun w h => hts w (List.mem_cons_of_mem _ h)
  unfold fX4_mostOf at h
  refine lv_iload_n hx hb dX4_mostOf_0 rfl (lv_at hl 0 rfl) ?_
  refine lv_iconst (v := 2) hx hb dX4_mostOf_1 (by decide) ?_
  refine lv_icmp_gt (tgt := 10) hx hb dX4_mostOf_2 (by decide) (fun c1_ => ?_) (fun c1_ => ?_)
  · have h := pq_t c1_ h
    refine lv_iload_n hx hb dX4_mostOf_10 rfl (lv_at hl 0 rfl) ?_
    refine lv_iconst (v := 4) hx hb dX4_mostOf_11 (by decide) ?_
    refine lv_icmp_gt (tgt := 19) hx hb dX4_mostOf_12 (by decide) (fun c2_ => ?_) (fun c2_ => ?_)
    · have h := pq_t c2_ h
      refine lv_bipush (v := 99) hx hb dX4_mostOf_19 (by decide) ?_
      obtain rfl := Option.some.inj h
      subst hQ
      exact pw_ri hx hb hr hlk hAe hP hS rfl dX4_mostOf_21
    · have h := pq_e c2_ h
      refine lv_iconst (v := 1) hx hb dX4_mostOf_15 (by decide) ?_
      refine lv_goto (tgt := 21) hx hb dX4_mostOf_16 (by decide) ?_
      obtain rfl := Option.some.inj h
      subst hQ
      exact pw_ri hx hb hr hlk hAe hP hS rfl dX4_mostOf_21
  · have h := pq_e c1_ h
    refine lv_bipush (v := 8) hx hb dX4_mostOf_5 (by decide) ?_
    refine lv_goto (tgt := 21) hx hb dX4_mostOf_7 (by decide) ?_
    obtain rfl := Option.some.inj h
    subst hQ
    exact pw_ri hx hb hr hlk hAe hP hS rfl dX4_mostOf_21

def aX4_set : List Cond := Cond.code yX4_set cX4_set 4 (some .int) :: pw_all
theorem pX4_set : yX4_set.cls = RX4 ∧ yX4_set.cls ≠ "java/lang/invoke/MethodHandle" ∧ yX4_set.cls ≠ "java/lang/invoke/VarHandle" ∧ (parseMethodDescriptor yX4_set.desc).map (fun d => d.parameters.length) = some 2 := by decide +kernel
set_option maxHeartbeats 8000000 in
set_option maxRecDepth 100000 in
theorem kX4_set (l : Launch) (D : va_G) (cy : Nat → ClassId) (q : Nat → Nat) (sz : Nat) (th : Int32) (z : Nat → Int32) (sv : Nat → Int32) (sn : Int32) (sp : Nat → Int32) (bf : Nat → Int32) (ty : Int32) (gn : Nat → Int32) (hs : Int64) (x1 : Int32) (x2 : Int32) (o : Int32 × Int32 × (Nat → Int32) × (Nat → Int32) × Int32 × (Nat → Int32)) (h : fX4_set x1 x2 th z sv sn gn = some o) : Met l yX4_set aX4_set ({ frames := 6, cells := 0, slots := 0, locals := 131 }) (pw_Pre D cy [.ref (q 0), .int x1, .int x2] (WM cy q th z sv sn sp bf ty gn hs) sz) (pw_I D o.1 (WM cy q th z sv sn sp bf ty gn hs) (WM cy q o.2.1 o.2.2.1 o.2.2.2.1 o.2.2.2.2.1 sp bf ty o.2.2.2.2.2 hs) sz) 0 0 (va_A (WM cy q th z sv sn sp bf ty gn hs) sz) := by
  refine pw_met (cc := cX4_set) (maxL := 4) (ret := (some .int)) (by decide) rfl (Nat.le_of_ble_eq_true rfl) ?_
  intro p e s m args below meth c ls A hx hb hr hml hlk hts hown hAe hA hK hP hD hS hl
  have hl : lv_has ls 4 [(0, .ref (q 0)), (1, .int x1), (2, .int x2)] := hl
  generalize hQ : MQ below (pw_I D o.1 (WM cy q th z sv sn sp bf ty gn hs) (WM cy q o.2.1 o.2.2.1 o.2.2.2.1 o.2.2.2.2.1 sp bf ty o.2.2.2.2.2 hs) sz) args s 0 0 (va_A (WM cy q th z sv sn sp bf ty gn hs) sz) = Q
  have hF : CallFix p m c cX4_set 4 s args aX4_set RX4 := ⟨hx, hb, hml, hown, hts⟩
  have hta : ∀ w ∈ pw_all, w.before args s = true := fun w h => hts w (List.mem_cons_of_mem _ h)
  have hin : ∀ w ∈ wsX40, w ∈ aX4_set := fun w h => List.mem_cons_of_mem _ (inA4 w h)
  unfold fX4_set at h
  refine lv_aload_n hx hb dX4_set_0 rfl (lv_at hl 0 rfl) ?_
  refine lv_iload_n hx hb dX4_set_1 rfl (lv_at hl 1 rfl) ?_
  refine lv_iconst (v := 0) hx hb dX4_set_2 (by decide) ?_
  refine lv_bipush (v := 8) hx hb dX4_set_3 (by decide) ?_
  obtain ⟨r1, hr1, h⟩ := pq_b h
  refine pw_si (rest := [.ref (q 0)]) (As := [.int x1, .int 0, .int 8]) hF (kX4_in l D cy _ x1 0 8 r1 hr1) (cwS 3 hts (pw_gS (own := RX4) (idx := 36) (y := yX4_in) aw_729 aw_730 aw_6 aw_731) rfl rfl rfl pX4_in ⟨Nat.le_of_ble_eq_true rfl, Nat.le_of_ble_eq_true rfl⟩) hK hP hS hA rfl hl.1 rfl (Nat.le_of_ble_eq_true rfl) dX4_set_5 ⟨Nat.zero_le _, Nat.zero_le _⟩ (fun H locs hP hS => ?_)
  obtain ⟨v2, hv2, h⟩ := pq_b h
  have J35_v2 : ∀ (H : Heap) (locs : List Loc) (ls : Array Slot), va_P D vwCl (WM cy q th z sv sn sp bf ty gn hs) H → va_D A (WM cy q th z sv sn sp bf ty gn hs) → va_S A s.heap H locs → lv_has ls 4 [(0, .ref (q 0)), (1, .int x1), (2, .int x2)] → W p l e ({ frames := 6, cells := 0, slots := 0, locals := 131 } : Room) s m args below meth c H locs 0 0 Q (F0 m 35 ls [.int v2, .ref (q 0)]) := by
    intro H locs ls hP hD hS hl
    refine va_put (D := D) (ci := 4) (v := .int v2) (ty := .int) (C := RX4) (T := TX4) (N := 9) hx hb hts hin tyX4 tyX4_ok nmX4 hown hK hP hD hS 0 rfl rfl 0 (by decide) (hta _ aw_686) (fun _ h9 => h9) rfl (by decide +kernel) rfl rfl (Nat.le_of_ble_eq_true rfl) dX4_set_35 (fun H locs hP hD hS => ?_)
    have hP : va_P D vwCl (WM cy q v2 z sv sn sp bf ty gn hs) H := hP
    have hD : va_D A (WM cy q v2 z sv sn sp bf ty gn hs) := hD
    refine lv_aload_n hx hb dX4_set_38 rfl (lv_at hl 0 rfl) ?_
    refine va_get (D := D) (ci := 4) (v := .int v2) (C := RX4) (T := TX4) (N := 9) hx hb hts hin hown hK hP 0 rfl rfl 0 (by decide) (hta _ aw_686) (fun _ h9 => h9) rfl dX4_set_39 ?_
    refine lv_if_le (tgt := 47) hx hb dX4_set_42 (by decide) (fun c3_ => ?_) (fun c3_ => ?_)
    · have h := pq_t c3_ h
      refine lv_aload_n hx hb dX4_set_47 rfl (lv_at hl 0 rfl) ?_
      obtain ⟨r6, hr6, h⟩ := pq_b h
      refine pw_cv (w1 := WM cy q v2 z r6.1 r6.2 sp bf ty gn hs) (rest := []) (As := []) hF (kX4_save l D cy q _ v2 z sv sn sp bf ty gn hs  r6 hr6) (cwV 0 hts (pw_gV (own := RX4) (idx := 122) (C := RX4) (y := yX4_save) aw_752 aw_754 aw_s24 aw_6 aw_755) rfl rfl rfl pX4_save ⟨Nat.le_of_ble_eq_true rfl, Nat.le_of_ble_eq_true rfl⟩) (va_recv hK hP (ci := 4) (q0 := 0) rfl rfl) hK hP hD hS hA rfl rfl hl.1 rfl (Nat.le_of_ble_eq_true rfl) dX4_set_48 ⟨Nat.zero_le _, Nat.zero_le _⟩ (fun H locs hP hD hS => ?_)
      refine lv_aload_n hx hb dX4_set_51 rfl (lv_at hl 0 rfl) ?_
      refine va_get (D := D) (ci := 4) (v := .ref (q 1)) (C := RX4) (T := TX4) (N := 9) hx hb hts hin hown hK hP 0 rfl rfl 1 (by decide) (hta _ aw_687) (fun _ h9 => h9) rfl dX4_set_52 ?_
      refine lv_iload_n hx hb dX4_set_55 rfl (lv_at hl 1 rfl) ?_
      obtain ⟨hg, h⟩ := pq_g h
      refine va_iald hx hb hK hP 1 0 rfl rfl (pq_vp hg) dX4_set_56 ?_
      refine lv_istore_n (lv' := [(3, .int (z x1.toNatClampNeg)), (0, .ref (q 0)), (1, .int x1), (2, .int x2)]) hx hb dX4_set_57 rfl hl (by decide) rfl (fun ls hl => ?_)
      refine lv_aload_n hx hb dX4_set_58 rfl (lv_at hl 1 rfl) ?_
      refine va_get (D := D) (ci := 4) (v := .ref (q 1)) (C := RX4) (T := TX4) (N := 9) hx hb hts hin hown hK hP 0 rfl rfl 1 (by decide) (hta _ aw_687) (fun _ h9 => h9) rfl dX4_set_59 ?_
      refine lv_iload_n hx hb dX4_set_62 rfl (lv_at hl 2 rfl) ?_
      refine lv_iload_n hx hb dX4_set_63 rfl (lv_at hl 3 rfl) ?_
      obtain ⟨hg, h⟩ := pq_g h
      refine va_iast hx hb hK hP hD hS 1 0 rfl rfl (pq_vp hg) dX4_set_64 (fun H locs hP hD hS => ?_)
      have hP : va_P D vwCl (WM cy q v2 (upd z x1.toNatClampNeg x2) r6.1 r6.2 sp bf ty gn hs) H := hP
      have hD : va_D A (WM cy q v2 (upd z x1.toNatClampNeg x2) r6.1 r6.2 sp bf ty gn hs) := hD
      refine lv_aload_n hx hb dX4_set_65 rfl (lv_at hl 1 rfl) ?_
      obtain ⟨r7, hr7, h⟩ := pq_b h
      refine pw_cv (w1 := WM cy q v2 r7.1 r6.1 r6.2 sp bf ty r7.2 hs) (rest := []) (As := []) hF (kX4_serve l D cy q _ v2 (upd z x1.toNatClampNeg x2) r6.1 r6.2 sp bf ty gn hs  r7 hr7) (cwV 0 hts (pw_gV (own := RX4) (idx := 98) (C := RX4) (y := yX4_serve) aw_804 aw_806 aw_s37 aw_6 aw_807) rfl rfl rfl pX4_serve ⟨Nat.le_of_ble_eq_true rfl, Nat.le_of_ble_eq_true rfl⟩) (va_recv hK hP (ci := 4) (q0 := 0) rfl rfl) hK hP hD hS hA rfl rfl hl.1 rfl (Nat.le_of_ble_eq_true rfl) dX4_set_66 ⟨Nat.zero_le _, Nat.zero_le _⟩ (fun H locs hP hD hS => ?_)
      refine lv_iload_n hx hb dX4_set_69 rfl (lv_at hl 0 rfl) ?_
      obtain rfl := Option.some.inj h
      subst hQ
      exact pw_ri hx hb hr hlk hAe hP hS rfl dX4_set_70
    · have h := pq_e c3_ h
      refine lv_iconst (v := 0) hx hb dX4_set_45 (by decide) ?_
      obtain rfl := Option.some.inj h
      subst hQ
      exact pw_ri hx hb hr hlk hAe hP hS rfl dX4_set_46
  clear h
  have h := hv2
  clear hv2
  refine lv_if_ne (tgt := 15) hx hb dX4_set_8 (by decide) (fun c1_ => ?_) (fun c1_ => ?_)
  · have h := pq_e c1_ h
    refine lv_iload_n hx hb dX4_set_15 rfl (lv_at hl 2 rfl) ?_
    refine lv_iload_n hx hb dX4_set_16 rfl (lv_at hl 1 rfl) ?_
    obtain ⟨r3, hr3, h⟩ := pq_b h
    refine pw_si (rest := [.int x2, .ref (q 0)]) (As := [.int x1]) hF (kX4_leastOf l D cy _ x1 r3 hr3) (cwS 1 hts (pw_gS (own := RX4) (idx := 144) (y := yX4_leastOf) aw_875 aw_876 aw_6 aw_877) rfl rfl rfl pX4_leastOf ⟨Nat.le_of_ble_eq_true rfl, Nat.le_of_ble_eq_true rfl⟩) hK hP hS hA rfl hl.1 rfl (Nat.le_of_ble_eq_true rfl) dX4_set_17 ⟨Nat.zero_le _, Nat.zero_le _⟩ (fun H locs hP hS => ?_)
    refine lv_iload_n hx hb dX4_set_20 rfl (lv_at hl 1 rfl) ?_
    obtain ⟨r4, hr4, h⟩ := pq_b h
    refine pw_si (rest := [.int r3, .int x2, .ref (q 0)]) (As := [.int x1]) hF (kX4_mostOf l D cy _ x1 r4 hr4) (cwS 1 hts (pw_gS (own := RX4) (idx := 147) (y := yX4_mostOf) aw_878 aw_879 aw_6 aw_880) rfl rfl rfl pX4_mostOf ⟨Nat.le_of_ble_eq_true rfl, Nat.le_of_ble_eq_true rfl⟩) hK hP hS hA rfl hl.1 rfl (Nat.le_of_ble_eq_true rfl) dX4_set_21 ⟨Nat.zero_le _, Nat.zero_le _⟩ (fun H locs hP hS => ?_)
    obtain ⟨r5, hr5, h⟩ := pq_b h
    refine pw_si (rest := [.ref (q 0)]) (As := [.int x2, .int r3, .int r4]) hF (kX4_in l D cy _ x2 r3 r4 r5 hr5) (cwS 3 hts (pw_gS (own := RX4) (idx := 36) (y := yX4_in) aw_729 aw_730 aw_6 aw_731) rfl rfl rfl pX4_in ⟨Nat.le_of_ble_eq_true rfl, Nat.le_of_ble_eq_true rfl⟩) hK hP hS hA rfl hl.1 rfl (Nat.le_of_ble_eq_true rfl) dX4_set_24 ⟨Nat.zero_le _, Nat.zero_le _⟩ (fun H locs hP hS => ?_)
    refine lv_if_eq (tgt := 34) hx hb dX4_set_27 (by decide) (fun c2_ => ?_) (fun c2_ => ?_)
    · have h := pq_t c2_ h
      refine lv_iconst (v := 2) hx hb dX4_set_34 (by decide) ?_
      obtain rfl := Option.some.inj h
      exact J35_v2 _ _ _ hP hD hS (lv_sub hl [0, 1, 2] rfl)
    · have h := pq_e c2_ h
      refine lv_iconst (v := 0) hx hb dX4_set_30 (by decide) ?_
      refine lv_goto (tgt := 35) hx hb dX4_set_31 (by decide) ?_
      obtain rfl := Option.some.inj h
      exact J35_v2 _ _ _ hP hD hS (lv_sub hl [0, 1, 2] rfl)
  · have h := pq_t c1_ h
    refine lv_iconst (v := 1) hx hb dX4_set_11 (by decide) ?_
    refine lv_goto (tgt := 35) hx hb dX4_set_12 (by decide) ?_
    obtain rfl := Option.some.inj h
    exact J35_v2 _ _ _ hP hD hS (lv_sub hl [0, 1, 2] rfl)

def aX4_pass : List Cond := Cond.code yX4_pass cX4_pass 2 (some .int) :: pw_all
theorem pX4_pass : yX4_pass.cls = RX4 ∧ yX4_pass.cls ≠ "java/lang/invoke/MethodHandle" ∧ yX4_pass.cls ≠ "java/lang/invoke/VarHandle" ∧ (parseMethodDescriptor yX4_pass.desc).map (fun d => d.parameters.length) = some 1 := by decide +kernel
set_option maxHeartbeats 8000000 in
set_option maxRecDepth 100000 in
theorem kX4_pass (l : Launch) (D : va_G) (cy : Nat → ClassId) (q : Nat → Nat) (sz : Nat) (th : Int32) (z : Nat → Int32) (sv : Nat → Int32) (sn : Int32) (sp : Nat → Int32) (bf : Nat → Int32) (ty : Int32) (gn : Nat → Int32) (hs : Int64) (x1 : Int32) (o : Int32 × Int32 × (Nat → Int32) × (Nat → Int32) × Int32 × (Nat → Int32)) (h : fX4_pass x1 th z sv sn gn = some o) : Met l yX4_pass aX4_pass ({ frames := 8, cells := 0, slots := 0, locals := 177 }) (pw_Pre D cy [.ref (q 0), .int x1] (WM cy q th z sv sn sp bf ty gn hs) sz) (pw_I D o.1 (WM cy q th z sv sn sp bf ty gn hs) (WM cy q o.2.1 o.2.2.1 o.2.2.2.1 o.2.2.2.2.1 sp bf ty o.2.2.2.2.2 hs) sz) 0 0 (va_A (WM cy q th z sv sn sp bf ty gn hs) sz) := by
  refine pw_met (cc := cX4_pass) (maxL := 2) (ret := (some .int)) (by decide) rfl (Nat.le_of_ble_eq_true rfl) ?_
  intro p e s m args below meth c ls A hx hb hr hml hlk hts hown hAe hA hK hP hD hS hl
  have hl : lv_has ls 2 [(0, .ref (q 0)), (1, .int x1)] := hl
  generalize hQ : MQ below (pw_I D o.1 (WM cy q th z sv sn sp bf ty gn hs) (WM cy q o.2.1 o.2.2.1 o.2.2.2.1 o.2.2.2.2.1 sp bf ty o.2.2.2.2.2 hs) sz) args s 0 0 (va_A (WM cy q th z sv sn sp bf ty gn hs) sz) = Q
  have hF : CallFix p m c cX4_pass 2 s args aX4_pass RX4 := ⟨hx, hb, hml, hown, hts⟩
  have hta : ∀ w ∈ pw_all, w.before args s = true := fun w h => hts w (List.mem_cons_of_mem _ h)
  have hin : ∀ w ∈ wsX40, w ∈ aX4_pass := fun w h => List.mem_cons_of_mem _ (inA4 w h)
  unfold fX4_pass at h
  refine lv_aload_n hx hb dX4_pass_0 rfl (lv_at hl 0 rfl) ?_
  refine lv_iload_n hx hb dX4_pass_1 rfl (lv_at hl 1 rfl) ?_
  refine lv_iconst (v := 1) hx hb dX4_pass_2 (by decide) ?_
  refine lv_bipush (v := 99) hx hb dX4_pass_3 (by decide) ?_
  obtain ⟨r1, hr1, h⟩ := pq_b h
  refine pw_si (rest := [.ref (q 0)]) (As := [.int x1, .int 1, .int 99]) hF (kX4_in l D cy _ x1 1 99 r1 hr1) (cwS 3 hts (pw_gS (own := RX4) (idx := 36) (y := yX4_in) aw_729 aw_730 aw_6 aw_731) rfl rfl rfl pX4_in ⟨Nat.le_of_ble_eq_true rfl, Nat.le_of_ble_eq_true rfl⟩) hK hP hS hA rfl hl.1 rfl (Nat.le_of_ble_eq_true rfl) dX4_pass_5 ⟨Nat.zero_le _, Nat.zero_le _⟩ (fun H locs hP hS => ?_)
  obtain ⟨v2, hv2, h⟩ := pq_b h
  have J35_v2 : ∀ (H : Heap) (locs : List Loc) (ls : Array Slot), va_P D vwCl (WM cy q th z sv sn sp bf ty gn hs) H → va_D A (WM cy q th z sv sn sp bf ty gn hs) → va_S A s.heap H locs → lv_has ls 2 [(0, .ref (q 0)), (1, .int x1)] → W p l e ({ frames := 8, cells := 0, slots := 0, locals := 177 } : Room) s m args below meth c H locs 0 0 Q (F0 m 35 ls [.int v2, .ref (q 0)]) := by
    intro H locs ls hP hD hS hl
    refine va_put (D := D) (ci := 4) (v := .int v2) (ty := .int) (C := RX4) (T := TX4) (N := 9) hx hb hts hin tyX4 tyX4_ok nmX4 hown hK hP hD hS 0 rfl rfl 0 (by decide) (hta _ aw_686) (fun _ h9 => h9) rfl (by decide +kernel) rfl rfl (Nat.le_of_ble_eq_true rfl) dX4_pass_35 (fun H locs hP hD hS => ?_)
    have hP : va_P D vwCl (WM cy q v2 z sv sn sp bf ty gn hs) H := hP
    have hD : va_D A (WM cy q v2 z sv sn sp bf ty gn hs) := hD
    refine lv_aload_n hx hb dX4_pass_38 rfl (lv_at hl 0 rfl) ?_
    refine va_get (D := D) (ci := 4) (v := .int v2) (C := RX4) (T := TX4) (N := 9) hx hb hts hin hown hK hP 0 rfl rfl 0 (by decide) (hta _ aw_686) (fun _ h9 => h9) rfl dX4_pass_39 ?_
    refine lv_if_le (tgt := 47) hx hb dX4_pass_42 (by decide) (fun c3_ => ?_) (fun c3_ => ?_)
    · have h := pq_t c3_ h
      refine lv_aload_n hx hb dX4_pass_47 rfl (lv_at hl 0 rfl) ?_
      obtain ⟨r3, hr3, h⟩ := pq_b h
      refine pw_cv (w1 := WM cy q v2 z r3.1 r3.2 sp bf ty gn hs) (rest := []) (As := []) hF (kX4_save l D cy q _ v2 z sv sn sp bf ty gn hs  r3 hr3) (cwV 0 hts (pw_gV (own := RX4) (idx := 122) (C := RX4) (y := yX4_save) aw_752 aw_754 aw_s24 aw_6 aw_755) rfl rfl rfl pX4_save ⟨Nat.le_of_ble_eq_true rfl, Nat.le_of_ble_eq_true rfl⟩) (va_recv hK hP (ci := 4) (q0 := 0) rfl rfl) hK hP hD hS hA rfl rfl hl.1 rfl (Nat.le_of_ble_eq_true rfl) dX4_pass_48 ⟨Nat.zero_le _, Nat.zero_le _⟩ (fun H locs hP hD hS => ?_)
      refine lv_aload_n hx hb dX4_pass_51 rfl (lv_at hl 0 rfl) ?_
      refine lv_iload_n hx hb dX4_pass_52 rfl (lv_at hl 1 rfl) ?_
      obtain ⟨r4, hr4, h⟩ := pq_b h
      refine pw_ci (w1 := WM cy q v2 r4.2.1 r3.1 r3.2 sp bf ty r4.2.2 hs) (rest := []) (As := [.int x1]) hF (kX4_go l D cy q _ v2 z r3.1 r3.2 sp bf ty gn hs x1 r4 hr4) (cwV 1 hts (pw_gV (own := RX4) (idx := 150) (C := RX4) (y := yX4_go) aw_885 aw_887 aw_s47 aw_6 aw_888) rfl rfl rfl pX4_go ⟨Nat.le_of_ble_eq_true rfl, Nat.le_of_ble_eq_true rfl⟩) (va_recv hK hP (ci := 4) (q0 := 0) rfl rfl) hK hP hD hS hA rfl rfl hl.1 rfl (Nat.le_of_ble_eq_true rfl) dX4_pass_53 ⟨Nat.zero_le _, Nat.zero_le _⟩ (fun H locs hP hD hS => ?_)
      obtain rfl := Option.some.inj h
      subst hQ
      exact pw_ri hx hb hr hlk hAe hP hS rfl dX4_pass_56
    · have h := pq_e c3_ h
      refine lv_iconst (v := 0) hx hb dX4_pass_45 (by decide) ?_
      obtain rfl := Option.some.inj h
      subst hQ
      exact pw_ri hx hb hr hlk hAe hP hS rfl dX4_pass_46
  clear h
  have h := hv2
  clear hv2
  refine lv_if_ne (tgt := 15) hx hb dX4_pass_8 (by decide) (fun c1_ => ?_) (fun c1_ => ?_)
  · have h := pq_e c1_ h
    refine lv_aload_n hx hb dX4_pass_15 rfl (lv_at hl 0 rfl) ?_
    refine va_get (D := D) (ci := 4) (v := .ref (q 1)) (C := RX4) (T := TX4) (N := 9) hx hb hts hin hown hK hP 0 rfl rfl 1 (by decide) (hta _ aw_687) (fun _ h9 => h9) rfl dX4_pass_16 ?_
    refine lv_bipush (v := 9) hx hb dX4_pass_19 (by decide) ?_
    refine va_iald hx hb hK hP 1 0 rfl rfl (pq_vp (by decide +kernel)) dX4_pass_21 ?_
    refine lv_iload_n hx hb dX4_pass_22 rfl (lv_at hl 1 rfl) ?_
    refine lv_iadd hx hb dX4_pass_23 ?_
    refine lv_sipush (v := 9999) hx hb dX4_pass_24 (by decide) ?_
    refine lv_icmp_le (tgt := 34) hx hb dX4_pass_27 (by decide) (fun c2_ => ?_) (fun c2_ => ?_)
    · have h := pq_t c2_ h
      refine lv_iconst (v := 0) hx hb dX4_pass_34 (by decide) ?_
      obtain rfl := Option.some.inj h
      exact J35_v2 _ _ _ hP hD hS (lv_sub hl [0, 1] rfl)
    · have h := pq_e c2_ h
      refine lv_iconst (v := 2) hx hb dX4_pass_30 (by decide) ?_
      refine lv_goto (tgt := 35) hx hb dX4_pass_31 (by decide) ?_
      obtain rfl := Option.some.inj h
      exact J35_v2 _ _ _ hP hD hS (lv_sub hl [0, 1] rfl)
  · have h := pq_t c1_ h
    refine lv_iconst (v := 1) hx hb dX4_pass_11 (by decide) ?_
    refine lv_goto (tgt := 35) hx hb dX4_pass_12 (by decide) ?_
    obtain rfl := Option.some.inj h
    exact J35_v2 _ _ _ hP hD hS (lv_sub hl [0, 1] rfl)

def aX4_append : List Cond := Cond.code yX4_append cX4_append 2 (some .int) :: pw_all
theorem pX4_append : yX4_append.cls = RX4 ∧ yX4_append.cls ≠ "java/lang/invoke/MethodHandle" ∧ yX4_append.cls ≠ "java/lang/invoke/VarHandle" ∧ (parseMethodDescriptor yX4_append.desc).map (fun d => d.parameters.length) = some 1 := by decide +kernel
set_option maxHeartbeats 8000000 in
set_option maxRecDepth 100000 in
theorem kX4_append (l : Launch) (D : va_G) (cy : Nat → ClassId) (q : Nat → Nat) (sz : Nat) (th : Int32) (z : Nat → Int32) (sv : Nat → Int32) (sn : Int32) (sp : Nat → Int32) (bf : Nat → Int32) (ty : Int32) (gn : Nat → Int32) (hs : Int64) (x1 : Int32) (o : Int32 × Int32 × (Nat → Int32) × Int32) (h : fX4_append x1 th bf ty = some o) : Met l yX4_append aX4_append ({ frames := 1, cells := 0, slots := 0, locals := 22 }) (pw_Pre D cy [.ref (q 0), .int x1] (WM cy q th z sv sn sp bf ty gn hs) sz) (pw_I D o.1 (WM cy q th z sv sn sp bf ty gn hs) (WM cy q o.2.1 z sv sn sp o.2.2.1 o.2.2.2 gn hs) sz) 0 0 (va_A (WM cy q th z sv sn sp bf ty gn hs) sz) := by
  refine pw_met (cc := cX4_append) (maxL := 2) (ret := (some .int)) (by decide) rfl (Nat.le_of_ble_eq_true rfl) ?_
  intro p e s m args below meth c ls A hx hb hr hml hlk hts hown hAe hA hK hP hD hS hl
  have hl : lv_has ls 2 [(0, .ref (q 0)), (1, .int x1)] := hl
  generalize hQ : MQ below (pw_I D o.1 (WM cy q th z sv sn sp bf ty gn hs) (WM cy q o.2.1 z sv sn sp o.2.2.1 o.2.2.2 gn hs) sz) args s 0 0 (va_A (WM cy q th z sv sn sp bf ty gn hs) sz) = Q
  have hF : CallFix p m c cX4_append 2 s args aX4_append RX4 := ⟨hx, hb, hml, hown, hts⟩
  have hta : ∀ w ∈ pw_all, w.before args s = true := fun w h => hts w (List.mem_cons_of_mem _ h)
  have hin : ∀ w ∈ wsX40, w ∈ aX4_append := fun w h => List.mem_cons_of_mem _ (inA4 w h)
  unfold fX4_append at h
  refine lv_aload_n hx hb dX4_append_0 rfl (lv_at hl 0 rfl) ?_
  refine lv_iload_n hx hb dX4_append_1 rfl (lv_at hl 1 rfl) ?_
  refine lv_bipush (v := 33) hx hb dX4_append_2 (by decide) ?_
  refine lv_bipush (v := 126) hx hb dX4_append_4 (by decide) ?_
  obtain ⟨r1, hr1, h⟩ := pq_b h
  refine pw_si (rest := [.ref (q 0)]) (As := [.int x1, .int 33, .int 126]) hF (kX4_in l D cy _ x1 33 126 r1 hr1) (cwS 3 hts (pw_gS (own := RX4) (idx := 36) (y := yX4_in) aw_729 aw_730 aw_6 aw_731) rfl rfl rfl pX4_in ⟨Nat.le_of_ble_eq_true rfl, Nat.le_of_ble_eq_true rfl⟩) hK hP hS hA rfl hl.1 rfl (Nat.le_of_ble_eq_true rfl) dX4_append_6 ⟨Nat.zero_le _, Nat.zero_le _⟩ (fun H locs hP hS => ?_)
  obtain ⟨v2, hv2, h⟩ := pq_b h
  have J30_v2 : ∀ (H : Heap) (locs : List Loc) (ls : Array Slot), va_P D vwCl (WM cy q th z sv sn sp bf ty gn hs) H → va_D A (WM cy q th z sv sn sp bf ty gn hs) → va_S A s.heap H locs → lv_has ls 2 [(0, .ref (q 0)), (1, .int x1)] → W p l e ({ frames := 1, cells := 0, slots := 0, locals := 22 } : Room) s m args below meth c H locs 0 0 Q (F0 m 30 ls [.int v2, .ref (q 0)]) := by
    intro H locs ls hP hD hS hl
    refine va_put (D := D) (ci := 4) (v := .int v2) (ty := .int) (C := RX4) (T := TX4) (N := 9) hx hb hts hin tyX4 tyX4_ok nmX4 hown hK hP hD hS 0 rfl rfl 0 (by decide) (hta _ aw_686) (fun _ h9 => h9) rfl (by decide +kernel) rfl rfl (Nat.le_of_ble_eq_true rfl) dX4_append_30 (fun H locs hP hD hS => ?_)
    have hP : va_P D vwCl (WM cy q v2 z sv sn sp bf ty gn hs) H := hP
    have hD : va_D A (WM cy q v2 z sv sn sp bf ty gn hs) := hD
    refine lv_aload_n hx hb dX4_append_33 rfl (lv_at hl 0 rfl) ?_
    refine va_get (D := D) (ci := 4) (v := .int v2) (C := RX4) (T := TX4) (N := 9) hx hb hts hin hown hK hP 0 rfl rfl 0 (by decide) (hta _ aw_686) (fun _ h9 => h9) rfl dX4_append_34 ?_
    refine lv_if_le (tgt := 42) hx hb dX4_append_37 (by decide) (fun c3_ => ?_) (fun c3_ => ?_)
    · have h := pq_t c3_ h
      refine lv_aload_n hx hb dX4_append_42 rfl (lv_at hl 0 rfl) ?_
      refine va_get (D := D) (ci := 4) (v := .ref (q 5)) (C := RX4) (T := TX4) (N := 9) hx hb hts hin hown hK hP 0 rfl rfl 5 (by decide) (hta _ aw_691) (fun _ h9 => h9) rfl dX4_append_43 ?_
      refine lv_aload_n hx hb dX4_append_46 rfl (lv_at hl 0 rfl) ?_
      refine va_get (D := D) (ci := 4) (v := .int ty) (C := RX4) (T := TX4) (N := 9) hx hb hts hin hown hK hP 0 rfl rfl 6 (by decide) (hta _ aw_692) (fun _ h9 => h9) rfl dX4_append_47 ?_
      refine lv_iload_n hx hb dX4_append_50 rfl (lv_at hl 1 rfl) ?_
      obtain ⟨hg, h⟩ := pq_g h
      refine va_iast hx hb hK hP hD hS 4 0 rfl rfl (pq_vp hg) dX4_append_51 (fun H locs hP hD hS => ?_)
      have hP : va_P D vwCl (WM cy q v2 z sv sn sp (upd bf ty.toNatClampNeg x1) ty gn hs) H := hP
      have hD : va_D A (WM cy q v2 z sv sn sp (upd bf ty.toNatClampNeg x1) ty gn hs) := hD
      refine lv_aload_n hx hb dX4_append_52 rfl (lv_at hl 0 rfl) ?_
      refine lv_dup hx hb dX4_append_53 rfl ?_
      refine va_get (D := D) (ci := 4) (v := .int ty) (C := RX4) (T := TX4) (N := 9) hx hb hts hin hown hK hP 0 rfl rfl 6 (by decide) (hta _ aw_692) (fun _ h9 => h9) rfl dX4_append_54 ?_
      refine lv_iconst (v := 1) hx hb dX4_append_57 (by decide) ?_
      refine lv_iadd hx hb dX4_append_58 ?_
      refine va_put (D := D) (ci := 4) (v := .int (ty + 1)) (ty := .int) (C := RX4) (T := TX4) (N := 9) hx hb hts hin tyX4 tyX4_ok nmX4 hown hK hP hD hS 0 rfl rfl 6 (by decide) (hta _ aw_692) (fun _ h9 => h9) rfl (by decide +kernel) rfl rfl (Nat.le_of_ble_eq_true rfl) dX4_append_59 (fun H locs hP hD hS => ?_)
      have hP : va_P D vwCl (WM cy q v2 z sv sn sp (upd bf ty.toNatClampNeg x1) (ty + 1) gn hs) H := hP
      have hD : va_D A (WM cy q v2 z sv sn sp (upd bf ty.toNatClampNeg x1) (ty + 1) gn hs) := hD
      refine lv_aload_n hx hb dX4_append_62 rfl (lv_at hl 0 rfl) ?_
      refine va_get (D := D) (ci := 4) (v := .int (ty + 1)) (C := RX4) (T := TX4) (N := 9) hx hb hts hin hown hK hP 0 rfl rfl 6 (by decide) (hta _ aw_692) (fun _ h9 => h9) rfl dX4_append_63 ?_
      obtain rfl := Option.some.inj h
      subst hQ
      exact pw_ri hx hb hr hlk hAe hP hS rfl dX4_append_66
    · have h := pq_e c3_ h
      refine lv_iconst (v := 0) hx hb dX4_append_40 (by decide) ?_
      obtain rfl := Option.some.inj h
      subst hQ
      exact pw_ri hx hb hr hlk hAe hP hS rfl dX4_append_41
  clear h
  have h := hv2
  clear hv2
  refine lv_if_ne (tgt := 16) hx hb dX4_append_9 (by decide) (fun c1_ => ?_) (fun c1_ => ?_)
  · have h := pq_e c1_ h
    refine lv_aload_n hx hb dX4_append_16 rfl (lv_at hl 0 rfl) ?_
    refine va_get (D := D) (ci := 4) (v := .int ty) (C := RX4) (T := TX4) (N := 9) hx hb hts hin hown hK hP 0 rfl rfl 6 (by decide) (hta _ aw_692) (fun _ h9 => h9) rfl dX4_append_17 ?_
    refine lv_bipush (v := 60) hx hb dX4_append_20 (by decide) ?_
    refine lv_icmp_ne (tgt := 29) hx hb dX4_append_22 (by decide) (fun c2_ => ?_) (fun c2_ => ?_)
    · have h := pq_e c2_ h
      refine lv_iconst (v := 0) hx hb dX4_append_29 (by decide) ?_
      obtain rfl := Option.some.inj h
      exact J30_v2 _ _ _ hP hD hS (lv_sub hl [0, 1] rfl)
    · have h := pq_t c2_ h
      refine lv_iconst (v := 2) hx hb dX4_append_25 (by decide) ?_
      refine lv_goto (tgt := 30) hx hb dX4_append_26 (by decide) ?_
      obtain rfl := Option.some.inj h
      exact J30_v2 _ _ _ hP hD hS (lv_sub hl [0, 1] rfl)
  · have h := pq_t c1_ h
    refine lv_iconst (v := 1) hx hb dX4_append_12 (by decide) ?_
    refine lv_goto (tgt := 30) hx hb dX4_append_13 (by decide) ?_
    obtain rfl := Option.some.inj h
    exact J30_v2 _ _ _ hP hD hS (lv_sub hl [0, 1] rfl)

def aX4_clearBuffer : List Cond := Cond.code yX4_clearBuffer cX4_clearBuffer 2 (some .int) :: pw_all
theorem pX4_clearBuffer : yX4_clearBuffer.cls = RX4 ∧ yX4_clearBuffer.cls ≠ "java/lang/invoke/MethodHandle" ∧ yX4_clearBuffer.cls ≠ "java/lang/invoke/VarHandle" ∧ (parseMethodDescriptor yX4_clearBuffer.desc).map (fun d => d.parameters.length) = some 0 := by decide +kernel
set_option maxHeartbeats 8000000 in
set_option maxRecDepth 100000 in
theorem kX4_clearBuffer (l : Launch) (D : va_G) (cy : Nat → ClassId) (q : Nat → Nat) (sz : Nat) (th : Int32) (z : Nat → Int32) (sv : Nat → Int32) (sn : Int32) (sp : Nat → Int32) (bf : Nat → Int32) (ty : Int32) (gn : Nat → Int32) (hs : Int64)  (o : Int32 × Int32 × Int32) (h : fX4_clearBuffer th ty = some o) : Met l yX4_clearBuffer aX4_clearBuffer ({ frames := 0, cells := 0, slots := 0, locals := 0 }) (pw_Pre D cy [.ref (q 0)] (WM cy q th z sv sn sp bf ty gn hs) sz) (pw_I D o.1 (WM cy q th z sv sn sp bf ty gn hs) (WM cy q o.2.1 z sv sn sp bf o.2.2 gn hs) sz) 0 0 (va_A (WM cy q th z sv sn sp bf ty gn hs) sz) := by
  refine pw_met (cc := cX4_clearBuffer) (maxL := 2) (ret := (some .int)) (by decide) rfl (Nat.le_of_ble_eq_true rfl) ?_
  intro p e s m args below meth c ls A hx hb hr hml hlk hts hown hAe hA hK hP hD hS hl
  have hl : lv_has ls 2 [(0, .ref (q 0))] := hl
  generalize hQ : MQ below (pw_I D o.1 (WM cy q th z sv sn sp bf ty gn hs) (WM cy q o.2.1 z sv sn sp bf o.2.2 gn hs) sz) args s 0 0 (va_A (WM cy q th z sv sn sp bf ty gn hs) sz) = Q
  have hF : CallFix p m c cX4_clearBuffer 2 s args aX4_clearBuffer RX4 := ⟨hx, hb, hml, hown, hts⟩
  have hta : ∀ w ∈ pw_all, w.before args s = true := fun w h => hts w (List.mem_cons_of_mem _ h)
  have hin : ∀ w ∈ wsX40, w ∈ aX4_clearBuffer := fun w h => List.mem_cons_of_mem _ (inA4 w h)
  unfold fX4_clearBuffer at h
  refine lv_aload_n hx hb dX4_clearBuffer_0 rfl (lv_at hl 0 rfl) ?_
  refine lv_iconst (v := 0) hx hb dX4_clearBuffer_1 (by decide) ?_
  refine va_put (D := D) (ci := 4) (v := .int 0) (ty := .int) (C := RX4) (T := TX4) (N := 9) hx hb hts hin tyX4 tyX4_ok nmX4 hown hK hP hD hS 0 rfl rfl 0 (by decide) (hta _ aw_686) (fun _ h9 => h9) rfl (by decide +kernel) rfl rfl (Nat.le_of_ble_eq_true rfl) dX4_clearBuffer_2 (fun H locs hP hD hS => ?_)
  have hP : va_P D vwCl (WM cy q 0 z sv sn sp bf ty gn hs) H := hP
  have hD : va_D A (WM cy q 0 z sv sn sp bf ty gn hs) := hD
  refine lv_aload_n hx hb dX4_clearBuffer_5 rfl (lv_at hl 0 rfl) ?_
  refine va_get (D := D) (ci := 4) (v := .int ty) (C := RX4) (T := TX4) (N := 9) hx hb hts hin hown hK hP 0 rfl rfl 6 (by decide) (hta _ aw_692) (fun _ h9 => h9) rfl dX4_clearBuffer_6 ?_
  refine lv_istore_n (lv' := [(1, .int ty), (0, .ref (q 0))]) hx hb dX4_clearBuffer_9 rfl hl (by decide) rfl (fun ls hl => ?_)
  refine lv_aload_n hx hb dX4_clearBuffer_10 rfl (lv_at hl 1 rfl) ?_
  refine lv_iconst (v := 0) hx hb dX4_clearBuffer_11 (by decide) ?_
  refine va_put (D := D) (ci := 4) (v := .int 0) (ty := .int) (C := RX4) (T := TX4) (N := 9) hx hb hts hin tyX4 tyX4_ok nmX4 hown hK hP hD hS 0 rfl rfl 6 (by decide) (hta _ aw_692) (fun _ h9 => h9) rfl (by decide +kernel) rfl rfl (Nat.le_of_ble_eq_true rfl) dX4_clearBuffer_12 (fun H locs hP hD hS => ?_)
  have hP : va_P D vwCl (WM cy q 0 z sv sn sp bf 0 gn hs) H := hP
  have hD : va_D A (WM cy q 0 z sv sn sp bf 0 gn hs) := hD
  refine lv_iload_n hx hb dX4_clearBuffer_15 rfl (lv_at hl 0 rfl) ?_
  obtain rfl := Option.some.inj h
  subst hQ
  exact pw_ri hx hb hr hlk hAe hP hS rfl dX4_clearBuffer_16

def aX4_stands : List Cond := Cond.code yX4_stands cX4_stands 3 (some .boolean) :: pw_all
theorem pX4_stands : yX4_stands.cls = RX4 ∧ yX4_stands.cls ≠ "java/lang/invoke/MethodHandle" ∧ yX4_stands.cls ≠ "java/lang/invoke/VarHandle" ∧ (parseMethodDescriptor yX4_stands.desc).map (fun d => d.parameters.length) = some 1 := by decide +kernel
set_option maxHeartbeats 8000000 in
set_option maxRecDepth 100000 in
theorem kX4_stands (l : Launch) (D : va_G) (cy : Nat → ClassId) (q : Nat → Nat) (sz : Nat) (th : Int32) (z : Nat → Int32) (sv : Nat → Int32) (sn : Int32) (sp : Nat → Int32) (bf : Nat → Int32) (ty : Int32) (gn : Nat → Int32) (hs : Int64) (x1 : Int32) (o : Int32) (h : fX4_stands x1 bf = some o) : Met l yX4_stands aX4_stands ({ frames := 1, cells := 0, slots := 0, locals := 22 }) (pw_Pre D cy [.ref (q 0), .int x1] (WM cy q th z sv sn sp bf ty gn hs) sz) (pw_I D o (WM cy q th z sv sn sp bf ty gn hs) (WM cy q th z sv sn sp bf ty gn hs) sz) 0 0 (va_A (WM cy q th z sv sn sp bf ty gn hs) sz) := by
  refine pw_met (cc := cX4_stands) (maxL := 3) (ret := (some .boolean)) (by decide) rfl (Nat.le_of_ble_eq_true rfl) ?_
  intro p e s m args below meth c ls A hx hb hr hml hlk hts hown hAe hA hK hP hD hS hl
  have hl : lv_has ls 3 [(0, .ref (q 0)), (1, .int x1)] := hl
  generalize hQ : MQ below (pw_I D o (WM cy q th z sv sn sp bf ty gn hs) (WM cy q th z sv sn sp bf ty gn hs) sz) args s 0 0 (va_A (WM cy q th z sv sn sp bf ty gn hs) sz) = Q
  have hF : CallFix p m c cX4_stands 3 s args aX4_stands RX4 := ⟨hx, hb, hml, hown, hts⟩
  have hta : ∀ w ∈ pw_all, w.before args s = true := fun w h => hts w (List.mem_cons_of_mem _ h)
  have hin : ∀ w ∈ wsX40, w ∈ aX4_stands := fun w h => List.mem_cons_of_mem _ (inA4 w h)
  unfold fX4_stands at h
  refine lv_aload_n hx hb dX4_stands_0 rfl (lv_at hl 0 rfl) ?_
  refine va_get (D := D) (ci := 4) (v := .ref (q 5)) (C := RX4) (T := TX4) (N := 9) hx hb hts hin hown hK hP 0 rfl rfl 5 (by decide) (hta _ aw_691) (fun _ h9 => h9) rfl dX4_stands_1 ?_
  refine lv_iload_n hx hb dX4_stands_4 rfl (lv_at hl 1 rfl) ?_
  obtain ⟨hg, h⟩ := pq_g h
  refine va_iald hx hb hK hP 4 0 rfl rfl (pq_vp hg) dX4_stands_5 ?_
  refine lv_istore_n (lv' := [(2, .int (bf x1.toNatClampNeg)), (0, .ref (q 0)), (1, .int x1)]) hx hb dX4_stands_6 rfl hl (by decide) rfl (fun ls hl => ?_)
  refine lv_iload_n hx hb dX4_stands_7 rfl (lv_at hl 2 rfl) ?_
  refine lv_iconst (v := 2) hx hb dX4_stands_8 (by decide) ?_
  refine lv_irem hx hb dX4_stands_9 (by decide) ?_
  refine lv_if_ne (tgt := 55) hx hb dX4_stands_10 (by decide) (fun c1_ => ?_) (fun c1_ => ?_)
  · have h := pq_e c1_ h
    refine lv_aload_n hx hb dX4_stands_55 rfl (lv_at hl 1 rfl) ?_
    refine va_get (D := D) (ci := 4) (v := .ref (q 5)) (C := RX4) (T := TX4) (N := 9) hx hb hts hin hown hK hP 0 rfl rfl 5 (by decide) (hta _ aw_691) (fun _ h9 => h9) rfl dX4_stands_56 ?_
    refine lv_iload_n hx hb dX4_stands_59 rfl (lv_at hl 2 rfl) ?_
    refine lv_iconst (v := 1) hx hb dX4_stands_60 (by decide) ?_
    refine lv_isub hx hb dX4_stands_61 ?_
    obtain ⟨hg, h⟩ := pq_g h
    refine va_iald hx hb hK hP 4 0 rfl rfl (pq_vp hg) dX4_stands_62 ?_
    refine lv_bipush (v := 43) hx hb dX4_stands_63 (by decide) ?_
    refine lv_icmp_ne (tgt := 79) hx hb dX4_stands_65 (by decide) (fun c2_ => ?_) (fun c2_ => ?_)
    · have h := pq_e c2_ h
      refine lv_iload_n hx hb dX4_stands_79 rfl (lv_at hl 0 rfl) ?_
      refine lv_bipush (v := 48) hx hb dX4_stands_80 (by decide) ?_
      refine lv_bipush (v := 55) hx hb dX4_stands_82 (by decide) ?_
      obtain ⟨r1, hr1, h⟩ := pq_b h
      refine pw_si (rest := []) (As := [.int (bf x1.toNatClampNeg), .int 48, .int 55]) hF (kX4_in l D cy _ (bf x1.toNatClampNeg) 48 55 r1 hr1) (cwS 3 hts (pw_gS (own := RX4) (idx := 36) (y := yX4_in) aw_729 aw_730 aw_6 aw_731) rfl rfl rfl pX4_in ⟨Nat.le_of_ble_eq_true rfl, Nat.le_of_ble_eq_true rfl⟩) hK hP hS hA rfl hl.1 rfl (Nat.le_of_ble_eq_true rfl) dX4_stands_84 ⟨Nat.zero_le _, Nat.zero_le _⟩ (fun H locs hP hS => ?_)
      obtain ⟨hg, h⟩ := pq_g h
      obtain rfl := Option.some.inj h
      subst hQ
      exact pw_rz hx hb hr (pq_nz hg) hlk hAe hP hS rfl dX4_stands_87
    · have h := pq_t c2_ h
      refine lv_iload_n hx hb dX4_stands_68 rfl (lv_at hl 0 rfl) ?_
      refine lv_bipush (v := 49) hx hb dX4_stands_69 (by decide) ?_
      refine lv_bipush (v := 57) hx hb dX4_stands_71 (by decide) ?_
      obtain ⟨r2, hr2, h⟩ := pq_b h
      refine pw_si (rest := []) (As := [.int (bf x1.toNatClampNeg), .int 49, .int 57]) hF (kX4_in l D cy _ (bf x1.toNatClampNeg) 49 57 r2 hr2) (cwS 3 hts (pw_gS (own := RX4) (idx := 36) (y := yX4_in) aw_729 aw_730 aw_6 aw_731) rfl rfl rfl pX4_in ⟨Nat.le_of_ble_eq_true rfl, Nat.le_of_ble_eq_true rfl⟩) hK hP hS hA rfl hl.1 rfl (Nat.le_of_ble_eq_true rfl) dX4_stands_73 ⟨Nat.zero_le _, Nat.zero_le _⟩ (fun H locs hP hS => ?_)
      refine lv_goto (tgt := 87) hx hb dX4_stands_76 (by decide) ?_
      obtain ⟨hg, h⟩ := pq_g h
      obtain rfl := Option.some.inj h
      subst hQ
      exact pw_rz hx hb hr (pq_nz hg) hlk hAe hP hS rfl dX4_stands_87
  · have h := pq_t c1_ h
    refine lv_iload_n hx hb dX4_stands_13 rfl (lv_at hl 0 rfl) ?_
    refine lv_bipush (v := 97) hx hb dX4_stands_14 (by decide) ?_
    refine lv_icmp_eq (tgt := 49) hx hb dX4_stands_16 (by decide) (fun c3_ => ?_) (fun c3_ => ?_)
    · have h := pq_t c3_ h
      refine lv_iconst (v := 1) hx hb dX4_stands_49 (by decide) ?_
      refine lv_goto (tgt := 54) hx hb dX4_stands_50 (by decide) ?_
      obtain rfl := Option.some.inj h
      subst hQ
      exact pw_rz hx hb hr rfl hlk hAe hP hS rfl dX4_stands_54
    · have h := pq_e c3_ h
      refine lv_iload_n hx hb dX4_stands_19 rfl (lv_at hl 0 rfl) ?_
      refine lv_bipush (v := 103) hx hb dX4_stands_20 (by decide) ?_
      refine lv_icmp_eq (tgt := 49) hx hb dX4_stands_22 (by decide) (fun c4_ => ?_) (fun c4_ => ?_)
      · have h := pq_t c4_ h
        refine lv_iconst (v := 1) hx hb dX4_stands_49 (by decide) ?_
        refine lv_goto (tgt := 54) hx hb dX4_stands_50 (by decide) ?_
        obtain rfl := Option.some.inj h
        subst hQ
        exact pw_rz hx hb hr rfl hlk hAe hP hS rfl dX4_stands_54
      · have h := pq_e c4_ h
        refine lv_iload_n hx hb dX4_stands_25 rfl (lv_at hl 0 rfl) ?_
        refine lv_bipush (v := 115) hx hb dX4_stands_26 (by decide) ?_
        refine lv_icmp_eq (tgt := 49) hx hb dX4_stands_28 (by decide) (fun c5_ => ?_) (fun c5_ => ?_)
        · have h := pq_t c5_ h
          refine lv_iconst (v := 1) hx hb dX4_stands_49 (by decide) ?_
          refine lv_goto (tgt := 54) hx hb dX4_stands_50 (by decide) ?_
          obtain rfl := Option.some.inj h
          subst hQ
          exact pw_rz hx hb hr rfl hlk hAe hP hS rfl dX4_stands_54
        · have h := pq_e c5_ h
          refine lv_iload_n hx hb dX4_stands_31 rfl (lv_at hl 0 rfl) ?_
          refine lv_bipush (v := 118) hx hb dX4_stands_32 (by decide) ?_
          refine lv_icmp_eq (tgt := 49) hx hb dX4_stands_34 (by decide) (fun c6_ => ?_) (fun c6_ => ?_)
          · have h := pq_t c6_ h
            refine lv_iconst (v := 1) hx hb dX4_stands_49 (by decide) ?_
            refine lv_goto (tgt := 54) hx hb dX4_stands_50 (by decide) ?_
            obtain rfl := Option.some.inj h
            subst hQ
            exact pw_rz hx hb hr rfl hlk hAe hP hS rfl dX4_stands_54
          · have h := pq_e c6_ h
            refine lv_iload_n hx hb dX4_stands_37 rfl (lv_at hl 0 rfl) ?_
            refine lv_bipush (v := 99) hx hb dX4_stands_38 (by decide) ?_
            refine lv_icmp_eq (tgt := 49) hx hb dX4_stands_40 (by decide) (fun c7_ => ?_) (fun c7_ => ?_)
            · have h := pq_t c7_ h
              refine lv_iconst (v := 1) hx hb dX4_stands_49 (by decide) ?_
              refine lv_goto (tgt := 54) hx hb dX4_stands_50 (by decide) ?_
              obtain rfl := Option.some.inj h
              subst hQ
              exact pw_rz hx hb hr rfl hlk hAe hP hS rfl dX4_stands_54
            · have h := pq_e c7_ h
              refine lv_iload_n hx hb dX4_stands_43 rfl (lv_at hl 0 rfl) ?_
              refine lv_bipush (v := 43) hx hb dX4_stands_44 (by decide) ?_
              refine lv_icmp_ne (tgt := 53) hx hb dX4_stands_46 (by decide) (fun c8_ => ?_) (fun c8_ => ?_)
              · have h := pq_e c8_ h
                refine lv_iconst (v := 0) hx hb dX4_stands_53 (by decide) ?_
                obtain rfl := Option.some.inj h
                subst hQ
                exact pw_rz hx hb hr rfl hlk hAe hP hS rfl dX4_stands_54
              · have h := pq_t c8_ h
                refine lv_iconst (v := 1) hx hb dX4_stands_49 (by decide) ?_
                refine lv_goto (tgt := 54) hx hb dX4_stands_50 (by decide) ?_
                obtain rfl := Option.some.inj h
                subst hQ
                exact pw_rz hx hb hr rfl hlk hAe hP hS rfl dX4_stands_54

def aX4_readBuffer : List Cond := Cond.code yX4_readBuffer cX4_readBuffer 2 (some .int) :: pw_all
theorem pX4_readBuffer : yX4_readBuffer.cls = RX4 ∧ yX4_readBuffer.cls ≠ "java/lang/invoke/MethodHandle" ∧ yX4_readBuffer.cls ≠ "java/lang/invoke/VarHandle" ∧ (parseMethodDescriptor yX4_readBuffer.desc).map (fun d => d.parameters.length) = some 0 := by decide +kernel
set_option maxHeartbeats 8000000 in
set_option maxRecDepth 100000 in
theorem kX4_readBuffer (l : Launch) (D : va_G) (cy : Nat → ClassId) (q : Nat → Nat) (sz : Nat) (th : Int32) (z : Nat → Int32) (sv : Nat → Int32) (sn : Int32) (sp : Nat → Int32) (bf : Nat → Int32) (ty : Int32) (gn : Nat → Int32) (hs : Int64)  (o : Int32) (h : fX4_readBuffer bf ty = some o) : Met l yX4_readBuffer aX4_readBuffer ({ frames := 2, cells := 0, slots := 0, locals := 44 }) (pw_Pre D cy [.ref (q 0)] (WM cy q th z sv sn sp bf ty gn hs) sz) (pw_I D o (WM cy q th z sv sn sp bf ty gn hs) (WM cy q th z sv sn sp bf ty gn hs) sz) 0 0 (va_A (WM cy q th z sv sn sp bf ty gn hs) sz) := by
  refine pw_met (cc := cX4_readBuffer) (maxL := 2) (ret := (some .int)) (by decide) rfl (Nat.le_of_ble_eq_true rfl) ?_
  intro p e s m args below meth c ls A hx hb hr hml hlk hts hown hAe hA hK hP hD hS hl
  have hl : lv_has ls 2 [(0, .ref (q 0))] := hl
  generalize hQ : MQ below (pw_I D o (WM cy q th z sv sn sp bf ty gn hs) (WM cy q th z sv sn sp bf ty gn hs) sz) args s 0 0 (va_A (WM cy q th z sv sn sp bf ty gn hs) sz) = Q
  have hF : CallFix p m c cX4_readBuffer 2 s args aX4_readBuffer RX4 := ⟨hx, hb, hml, hown, hts⟩
  have hta : ∀ w ∈ pw_all, w.before args s = true := fun w h => hts w (List.mem_cons_of_mem _ h)
  have hin : ∀ w ∈ wsX40, w ∈ aX4_readBuffer := fun w h => List.mem_cons_of_mem _ (inA4 w h)
  unfold fX4_readBuffer at h
  refine lv_iconst (v := 0) hx hb dX4_readBuffer_0 (by decide) ?_
  refine lv_istore_n (lv' := [(1, .int 0), (0, .ref (q 0))]) hx hb dX4_readBuffer_1 rfl hl (by decide) rfl (fun ls hl => ?_)
  have L2_n1 : ∀ (n : Nat) (x1_2 : Int32) (H : Heap) (locs : List Loc) (ls : Array Slot), fX4_readBuffer_L2 bf ty n x1_2 = some o → va_P D vwCl (WM cy q th z sv sn sp bf ty gn hs) H → va_D A (WM cy q th z sv sn sp bf ty gn hs) → va_S A s.heap H locs → lv_has ls 2 [(0, .ref (q 0)), (1, .int x1_2)] → W p l e ({ frames := 2, cells := 0, slots := 0, locals := 44 } : Room) s m args below meth c H locs 0 0 Q (F0 m 2 ls []) := by
    intro n
    induction n with
    | zero =>
      intro x1_2 H locs ls h hP hD hS hl
      exact pq_n h
    | succ n ih2 =>
      intro x1_2 H locs ls h hP hD hS hl
      rw [fX4_readBuffer_L2] at h
      refine lv_iload_n hx hb dX4_readBuffer_2 rfl (lv_at hl 1 rfl) ?_
      refine lv_aload_n hx hb dX4_readBuffer_3 rfl (lv_at hl 0 rfl) ?_
      refine va_get (D := D) (ci := 4) (v := .int ty) (C := RX4) (T := TX4) (N := 9) hx hb hts hin hown hK hP 0 rfl rfl 6 (by decide) (hta _ aw_692) (fun _ h9 => h9) rfl dX4_readBuffer_4 ?_
      refine lv_icmp_ge (tgt := 26) hx hb dX4_readBuffer_7 (by decide) (fun c1_ => ?_) (fun c1_ => ?_)
      · have h := pq_t c1_ h
        refine lv_aload_n hx hb dX4_readBuffer_26 rfl (lv_at hl 0 rfl) ?_
        refine va_get (D := D) (ci := 4) (v := .int ty) (C := RX4) (T := TX4) (N := 9) hx hb hts hin hown hK hP 0 rfl rfl 6 (by decide) (hta _ aw_692) (fun _ h9 => h9) rfl dX4_readBuffer_27 ?_
        obtain rfl := Option.some.inj h
        subst hQ
        exact pw_ri hx hb hr hlk hAe hP hS rfl dX4_readBuffer_30
      · have h := pq_e c1_ h
        refine lv_aload_n hx hb dX4_readBuffer_10 rfl (lv_at hl 0 rfl) ?_
        refine lv_iload_n hx hb dX4_readBuffer_11 rfl (lv_at hl 1 rfl) ?_
        obtain ⟨r2, hr2, h⟩ := pq_b h
        refine pw_ci (w1 := WM cy q th z sv sn sp bf ty gn hs) (rest := []) (As := [.int x1_2]) hF (kX4_stands l D cy q _ th z sv sn sp bf ty gn hs x1_2 r2 hr2) (cwV 1 hts (pw_gV (own := RX4) (idx := 156) (C := RX4) (y := yX4_stands) aw_909 aw_911 aw_s50 aw_6 aw_912) rfl rfl rfl pX4_stands ⟨Nat.le_of_ble_eq_true rfl, Nat.le_of_ble_eq_true rfl⟩) (va_recv hK hP (ci := 4) (q0 := 0) rfl rfl) hK hP hD hS hA rfl rfl hl.1 rfl (Nat.le_of_ble_eq_true rfl) dX4_readBuffer_12 ⟨Nat.zero_le _, Nat.zero_le _⟩ (fun H locs hP hD hS => ?_)
        refine lv_if_ne (tgt := 20) hx hb dX4_readBuffer_15 (by decide) (fun c2_ => ?_) (fun c2_ => ?_)
        · have h := pq_e c2_ h
          refine lv_iinc (v := x1_2 + 1) (lv' := [(1, .int (x1_2 + 1)), (0, .ref (q 0))]) hx hb dX4_readBuffer_20 hl (k := 1) rfl (by first | rfl | decide) (by decide) rfl (fun ls hl => ?_)
          refine lv_goto (tgt := 2) hx hb dX4_readBuffer_23 (by decide) ?_
          exact ih2 (x1_2 + 1) _ _ _ h hP hD hS (lv_sub hl [1, 0] rfl)
        · have h := pq_t c2_ h
          refine lv_iload_n hx hb dX4_readBuffer_18 rfl (lv_at hl 1 rfl) ?_
          obtain rfl := Option.some.inj h
          subst hQ
          exact pw_ri hx hb hr hlk hAe hP hS rfl dX4_readBuffer_19
  exact L2_n1 1000 0 _ _ _ h hP hD hS (lv_sub hl [1, 0] rfl)

def aX4_firstError : List Cond := Cond.code yX4_firstError cX4_firstError 1 (some .int) :: pw_all
theorem pX4_firstError : yX4_firstError.cls = RX4 ∧ yX4_firstError.cls ≠ "java/lang/invoke/MethodHandle" ∧ yX4_firstError.cls ≠ "java/lang/invoke/VarHandle" ∧ (parseMethodDescriptor yX4_firstError.desc).map (fun d => d.parameters.length) = some 0 := by decide +kernel
set_option maxHeartbeats 8000000 in
set_option maxRecDepth 100000 in
theorem kX4_firstError (l : Launch) (D : va_G) (cy : Nat → ClassId) (q : Nat → Nat) (sz : Nat) (th : Int32) (z : Nat → Int32) (sv : Nat → Int32) (sn : Int32) (sp : Nat → Int32) (bf : Nat → Int32) (ty : Int32) (gn : Nat → Int32) (hs : Int64)  (o : Int32 × Int32) (h : fX4_firstError th bf ty = some o) : Met l yX4_firstError aX4_firstError ({ frames := 3, cells := 0, slots := 0, locals := 65 }) (pw_Pre D cy [.ref (q 0)] (WM cy q th z sv sn sp bf ty gn hs) sz) (pw_I D o.1 (WM cy q th z sv sn sp bf ty gn hs) (WM cy q o.2 z sv sn sp bf ty gn hs) sz) 0 0 (va_A (WM cy q th z sv sn sp bf ty gn hs) sz) := by
  refine pw_met (cc := cX4_firstError) (maxL := 1) (ret := (some .int)) (by decide) rfl (Nat.le_of_ble_eq_true rfl) ?_
  intro p e s m args below meth c ls A hx hb hr hml hlk hts hown hAe hA hK hP hD hS hl
  have hl : lv_has ls 1 [(0, .ref (q 0))] := hl
  generalize hQ : MQ below (pw_I D o.1 (WM cy q th z sv sn sp bf ty gn hs) (WM cy q o.2 z sv sn sp bf ty gn hs) sz) args s 0 0 (va_A (WM cy q th z sv sn sp bf ty gn hs) sz) = Q
  have hF : CallFix p m c cX4_firstError 1 s args aX4_firstError RX4 := ⟨hx, hb, hml, hown, hts⟩
  have hta : ∀ w ∈ pw_all, w.before args s = true := fun w h => hts w (List.mem_cons_of_mem _ h)
  have hin : ∀ w ∈ wsX40, w ∈ aX4_firstError := fun w h => List.mem_cons_of_mem _ (inA4 w h)
  unfold fX4_firstError at h
  refine lv_aload_n hx hb dX4_firstError_0 rfl (lv_at hl 0 rfl) ?_
  refine lv_iconst (v := 0) hx hb dX4_firstError_1 (by decide) ?_
  refine va_put (D := D) (ci := 4) (v := .int 0) (ty := .int) (C := RX4) (T := TX4) (N := 9) hx hb hts hin tyX4 tyX4_ok nmX4 hown hK hP hD hS 0 rfl rfl 0 (by decide) (hta _ aw_686) (fun _ h9 => h9) rfl (by decide +kernel) rfl rfl (Nat.le_of_ble_eq_true rfl) dX4_firstError_2 (fun H locs hP hD hS => ?_)
  have hP : va_P D vwCl (WM cy q 0 z sv sn sp bf ty gn hs) H := hP
  have hD : va_D A (WM cy q 0 z sv sn sp bf ty gn hs) := hD
  refine lv_aload_n hx hb dX4_firstError_5 rfl (lv_at hl 0 rfl) ?_
  obtain ⟨r1, hr1, h⟩ := pq_b h
  refine pw_ci (w1 := WM cy q 0 z sv sn sp bf ty gn hs) (rest := []) (As := []) hF (kX4_readBuffer l D cy q _ 0 z sv sn sp bf ty gn hs  r1 hr1) (cwV 0 hts (pw_gV (own := RX4) (idx := 159) (C := RX4) (y := yX4_readBuffer) aw_905 aw_907 aw_s49 aw_6 aw_908) rfl rfl rfl pX4_readBuffer ⟨Nat.le_of_ble_eq_true rfl, Nat.le_of_ble_eq_true rfl⟩) (va_recv hK hP (ci := 4) (q0 := 0) rfl rfl) hK hP hD hS hA rfl rfl hl.1 rfl (Nat.le_of_ble_eq_true rfl) dX4_firstError_6 ⟨Nat.zero_le _, Nat.zero_le _⟩ (fun H locs hP hD hS => ?_)
  obtain rfl := Option.some.inj h
  subst hQ
  exact pw_ri hx hb hr hlk hAe hP hS rfl dX4_firstError_9

def aX4_does : List Cond := Cond.code yX4_does cX4_does 3 (some .boolean) :: pw_all
theorem pX4_does : yX4_does.cls = RX4 ∧ yX4_does.cls ≠ "java/lang/invoke/MethodHandle" ∧ yX4_does.cls ≠ "java/lang/invoke/VarHandle" ∧ (parseMethodDescriptor yX4_does.desc).map (fun d => d.parameters.length) = some 2 := by decide +kernel
set_option maxHeartbeats 8000000 in
set_option maxRecDepth 100000 in
theorem kX4_does (l : Launch) (D : va_G) (cy : Nat → ClassId) (q : Nat → Nat) (sz : Nat) (th : Int32) (z : Nat → Int32) (sv : Nat → Int32) (sn : Int32) (sp : Nat → Int32) (bf : Nat → Int32) (ty : Int32) (gn : Nat → Int32) (hs : Int64) (x1 : Int32) (x2 : Int32) (o : Int32 × (Nat → Int32) × (Nat → Int32)) (h : fX4_does x1 x2 z gn = some o) : Met l yX4_does aX4_does ({ frames := 8, cells := 0, slots := 0, locals := 177 }) (pw_Pre D cy [.ref (q 0), .int x1, .int x2] (WM cy q th z sv sn sp bf ty gn hs) sz) (pw_I D o.1 (WM cy q th z sv sn sp bf ty gn hs) (WM cy q th o.2.1 sv sn sp bf ty o.2.2 hs) sz) 0 0 (va_A (WM cy q th z sv sn sp bf ty gn hs) sz) := by
  refine pw_met (cc := cX4_does) (maxL := 3) (ret := (some .boolean)) (by decide) rfl (Nat.le_of_ble_eq_true rfl) ?_
  intro p e s m args below meth c ls A hx hb hr hml hlk hts hown hAe hA hK hP hD hS hl
  have hl : lv_has ls 3 [(0, .ref (q 0)), (1, .int x1), (2, .int x2)] := hl
  generalize hQ : MQ below (pw_I D o.1 (WM cy q th z sv sn sp bf ty gn hs) (WM cy q th o.2.1 sv sn sp bf ty o.2.2 hs) sz) args s 0 0 (va_A (WM cy q th z sv sn sp bf ty gn hs) sz) = Q
  have hF : CallFix p m c cX4_does 3 s args aX4_does RX4 := ⟨hx, hb, hml, hown, hts⟩
  have hta : ∀ w ∈ pw_all, w.before args s = true := fun w h => hts w (List.mem_cons_of_mem _ h)
  have hin : ∀ w ∈ wsX40, w ∈ aX4_does := fun w h => List.mem_cons_of_mem _ (inA4 w h)
  unfold fX4_does at h
  refine lv_iload_n hx hb dX4_does_0 rfl (lv_at hl 1 rfl) ?_
  by_cases c1_ : x1 = 43
  · have h := pq_t c1_ h
    refine lv_lookup (off := 98) (tgt := 99) hx hb dX4_does_1 (by decide) (by rw [c1_]; decide) (by decide) ?_
    refine lv_aload_n hx hb dX4_does_99 rfl (lv_at hl 0 rfl) ?_
    refine va_get (D := D) (ci := 4) (v := .ref (q 1)) (C := RX4) (T := TX4) (N := 9) hx hb hts hin hown hK hP 0 rfl rfl 1 (by decide) (hta _ aw_687) (fun _ h9 => h9) rfl dX4_does_100 ?_
    refine lv_bipush (v := 9) hx hb dX4_does_103 (by decide) ?_
    refine va_iald hx hb hK hP 1 0 rfl rfl (pq_vp (by decide +kernel)) dX4_does_105 ?_
    refine lv_iload_n hx hb dX4_does_106 rfl (lv_at hl 2 rfl) ?_
    refine lv_iadd hx hb dX4_does_107 ?_
    refine lv_sipush (v := 9999) hx hb dX4_does_108 (by decide) ?_
    refine lv_icmp_le (tgt := 116) hx hb dX4_does_111 (by decide) (fun c2_ => ?_) (fun c2_ => ?_)
    · have h := pq_t c2_ h
      refine lv_aload_n hx hb dX4_does_116 rfl (lv_at hl 0 rfl) ?_
      refine lv_iload_n hx hb dX4_does_117 rfl (lv_at hl 2 rfl) ?_
      obtain ⟨r1, hr1, h⟩ := pq_b h
      refine pw_ci (w1 := WM cy q th r1.2.1 sv sn sp bf ty r1.2.2 hs) (rest := []) (As := [.int x2]) hF (kX4_go l D cy q _ th z sv sn sp bf ty gn hs x2 r1 hr1) (cwV 1 hts (pw_gV (own := RX4) (idx := 150) (C := RX4) (y := yX4_go) aw_885 aw_887 aw_s47 aw_6 aw_888) rfl rfl rfl pX4_go ⟨Nat.le_of_ble_eq_true rfl, Nat.le_of_ble_eq_true rfl⟩) (va_recv hK hP (ci := 4) (q0 := 0) rfl rfl) hK hP hD hS hA rfl rfl hl.1 rfl (Nat.le_of_ble_eq_true rfl) dX4_does_118 ⟨Nat.zero_le _, Nat.zero_le _⟩ (fun H locs hP hD hS => ?_)
      refine lv_pop hx hb dX4_does_121 rfl ?_
      refine lv_iconst (v := 1) hx hb dX4_does_122 (by decide) ?_
      obtain rfl := Option.some.inj h
      subst hQ
      exact pw_rz hx hb hr rfl hlk hAe hP hS rfl dX4_does_123
    · have h := pq_e c2_ h
      refine lv_iconst (v := 0) hx hb dX4_does_114 (by decide) ?_
      obtain rfl := Option.some.inj h
      subst hQ
      exact pw_rz hx hb hr rfl hlk hAe hP hS rfl dX4_does_115
  · have h := pq_e c1_ h
    by_cases c3_ : x1 = 97
    · have h := pq_t c3_ h
      refine lv_lookup (off := 43) (tgt := 44) hx hb dX4_does_1 (by decide) (by rw [c3_]; decide) (by decide) ?_
      refine lv_aload_n hx hb dX4_does_44 rfl (lv_at hl 0 rfl) ?_
      refine lv_iload_n hx hb dX4_does_45 rfl (lv_at hl 2 rfl) ?_
      obtain ⟨r2, hr2, h⟩ := pq_b h
      refine pw_ci (w1 := WM cy q th z sv sn sp bf ty gn hs) (rest := []) (As := [.int x2]) hF (kX4_canAsk l D cy q _ th z sv sn sp bf ty gn hs x2 r2 hr2) (cwV 1 hts (pw_gV (own := RX4) (idx := 119) (C := RX4) (y := yX4_canAsk) aw_732 aw_734 aw_s19 aw_6 aw_735) rfl rfl rfl pX4_canAsk ⟨Nat.le_of_ble_eq_true rfl, Nat.le_of_ble_eq_true rfl⟩) (va_recv hK hP (ci := 4) (q0 := 0) rfl rfl) hK hP hD hS hA rfl rfl hl.1 rfl (Nat.le_of_ble_eq_true rfl) dX4_does_46 ⟨Nat.zero_le _, Nat.zero_le _⟩ (fun H locs hP hD hS => ?_)
      refine lv_if_ne (tgt := 54) hx hb dX4_does_49 (by decide) (fun c4_ => ?_) (fun c4_ => ?_)
      · have h := pq_e c4_ h
        refine lv_aload_n hx hb dX4_does_54 rfl (lv_at hl 0 rfl) ?_
        refine lv_iload_n hx hb dX4_does_55 rfl (lv_at hl 2 rfl) ?_
        obtain ⟨r3, hr3, h⟩ := pq_b h
        refine pw_ci (w1 := WM cy q th r3.2.1 sv sn sp bf ty r3.2.2 hs) (rest := []) (As := [.int x2]) hF (kX4_askIt l D cy q _ th z sv sn sp bf ty gn hs x2 r3 hr3) (cwV 1 hts (pw_gV (own := RX4) (idx := 125) (C := RX4) (y := yX4_askIt) aw_756 aw_758 aw_s25 aw_6 aw_759) rfl rfl rfl pX4_askIt ⟨Nat.le_of_ble_eq_true rfl, Nat.le_of_ble_eq_true rfl⟩) (va_recv hK hP (ci := 4) (q0 := 0) rfl rfl) hK hP hD hS hA rfl rfl hl.1 rfl (Nat.le_of_ble_eq_true rfl) dX4_does_56 ⟨Nat.zero_le _, Nat.zero_le _⟩ (fun H locs hP hD hS => ?_)
        refine lv_pop hx hb dX4_does_59 rfl ?_
        refine lv_iconst (v := 1) hx hb dX4_does_60 (by decide) ?_
        obtain rfl := Option.some.inj h
        subst hQ
        exact pw_rz hx hb hr rfl hlk hAe hP hS rfl dX4_does_61
      · have h := pq_t c4_ h
        refine lv_iconst (v := 0) hx hb dX4_does_52 (by decide) ?_
        obtain rfl := Option.some.inj h
        subst hQ
        exact pw_rz hx hb hr rfl hlk hAe hP hS rfl dX4_does_53
    · have h := pq_e c3_ h
      by_cases c5_ : x1 = 103
      · have h := pq_t c5_ h
        refine lv_lookup (off := 61) (tgt := 62) hx hb dX4_does_1 (by decide) (by rw [c5_]; decide) (by decide) ?_
        refine lv_aload_n hx hb dX4_does_62 rfl (lv_at hl 0 rfl) ?_
        refine lv_iload_n hx hb dX4_does_63 rfl (lv_at hl 2 rfl) ?_
        obtain ⟨r4, hr4, h⟩ := pq_b h
        refine pw_ci (w1 := WM cy q th z sv sn sp bf ty gn hs) (rest := []) (As := [.int x2]) hF (kX4_canGive l D cy q _ th z sv sn sp bf ty gn hs x2 r4 hr4) (cwV 1 hts (pw_gV (own := RX4) (idx := 131) (C := RX4) (y := yX4_canGive) aw_827 aw_829 aw_s41 aw_6 aw_830) rfl rfl rfl pX4_canGive ⟨Nat.le_of_ble_eq_true rfl, Nat.le_of_ble_eq_true rfl⟩) (va_recv hK hP (ci := 4) (q0 := 0) rfl rfl) hK hP hD hS hA rfl rfl hl.1 rfl (Nat.le_of_ble_eq_true rfl) dX4_does_64 ⟨Nat.zero_le _, Nat.zero_le _⟩ (fun H locs hP hD hS => ?_)
        refine lv_if_ne (tgt := 72) hx hb dX4_does_67 (by decide) (fun c6_ => ?_) (fun c6_ => ?_)
        · have h := pq_e c6_ h
          refine lv_aload_n hx hb dX4_does_72 rfl (lv_at hl 0 rfl) ?_
          refine lv_iload_n hx hb dX4_does_73 rfl (lv_at hl 2 rfl) ?_
          obtain ⟨r5, hr5, h⟩ := pq_b h
          refine pw_ci (w1 := WM cy q th r5.2.1 sv sn sp bf ty r5.2.2 hs) (rest := []) (As := [.int x2]) hF (kX4_giveIt l D cy q _ th z sv sn sp bf ty gn hs x2 r5 hr5) (cwV 1 hts (pw_gV (own := RX4) (idx := 134) (C := RX4) (y := yX4_giveIt) aw_831 aw_833 aw_s42 aw_6 aw_834) rfl rfl rfl pX4_giveIt ⟨Nat.le_of_ble_eq_true rfl, Nat.le_of_ble_eq_true rfl⟩) (va_recv hK hP (ci := 4) (q0 := 0) rfl rfl) hK hP hD hS hA rfl rfl hl.1 rfl (Nat.le_of_ble_eq_true rfl) dX4_does_74 ⟨Nat.zero_le _, Nat.zero_le _⟩ (fun H locs hP hD hS => ?_)
          refine lv_pop hx hb dX4_does_77 rfl ?_
          refine lv_iconst (v := 1) hx hb dX4_does_78 (by decide) ?_
          obtain rfl := Option.some.inj h
          subst hQ
          exact pw_rz hx hb hr rfl hlk hAe hP hS rfl dX4_does_79
        · have h := pq_t c6_ h
          refine lv_iconst (v := 0) hx hb dX4_does_70 (by decide) ?_
          obtain rfl := Option.some.inj h
          subst hQ
          exact pw_rz hx hb hr rfl hlk hAe hP hS rfl dX4_does_71
      · have h := pq_e c5_ h
        by_cases c7_ : x1 = 115
        · have h := pq_t c7_ h
          refine lv_lookup (off := 79) (tgt := 80) hx hb dX4_does_1 (by decide) (by rw [c7_]; decide) (by decide) ?_
          refine lv_aload_n hx hb dX4_does_80 rfl (lv_at hl 0 rfl) ?_
          refine lv_iload_n hx hb dX4_does_81 rfl (lv_at hl 2 rfl) ?_
          refine lv_iconst (v := 0) hx hb dX4_does_82 (by decide) ?_
          obtain ⟨r6, hr6, h⟩ := pq_b h
          refine pw_ci (w1 := WM cy q th z sv sn sp bf ty gn hs) (rest := []) (As := [.int x2, .int 0]) hF (kX4_isIn l D cy q _ th z sv sn sp bf ty gn hs x2 0 r6 hr6) (cwV 2 hts (pw_gV (own := RX4) (idx := 50) (C := RX4) (y := yX4_isIn) aw_780 aw_782 aw_s31 aw_6 aw_783) rfl rfl rfl pX4_isIn ⟨Nat.le_of_ble_eq_true rfl, Nat.le_of_ble_eq_true rfl⟩) (va_recv hK hP (ci := 4) (q0 := 0) rfl rfl) hK hP hD hS hA rfl rfl hl.1 rfl (Nat.le_of_ble_eq_true rfl) dX4_does_83 ⟨Nat.zero_le _, Nat.zero_le _⟩ (fun H locs hP hD hS => ?_)
          refine lv_if_eq (tgt := 91) hx hb dX4_does_86 (by decide) (fun c8_ => ?_) (fun c8_ => ?_)
          · have h := pq_t c8_ h
            refine lv_aload_n hx hb dX4_does_91 rfl (lv_at hl 0 rfl) ?_
            refine lv_iload_n hx hb dX4_does_92 rfl (lv_at hl 2 rfl) ?_
            obtain ⟨r7, hr7, h⟩ := pq_b h
            refine pw_ci (w1 := WM cy q th r7.2.1 sv sn sp bf ty r7.2.2 hs) (rest := []) (As := [.int x2]) hF (kX4_sickenIt l D cy q _ th z sv sn sp bf ty gn hs x2 r7 hr7) (cwV 1 hts (pw_gV (own := RX4) (idx := 141) (C := RX4) (y := yX4_sickenIt) aw_855 aw_857 aw_s45 aw_6 aw_858) rfl rfl rfl pX4_sickenIt ⟨Nat.le_of_ble_eq_true rfl, Nat.le_of_ble_eq_true rfl⟩) (va_recv hK hP (ci := 4) (q0 := 0) rfl rfl) hK hP hD hS hA rfl rfl hl.1 rfl (Nat.le_of_ble_eq_true rfl) dX4_does_93 ⟨Nat.zero_le _, Nat.zero_le _⟩ (fun H locs hP hD hS => ?_)
            refine lv_pop hx hb dX4_does_96 rfl ?_
            refine lv_iconst (v := 1) hx hb dX4_does_97 (by decide) ?_
            obtain rfl := Option.some.inj h
            subst hQ
            exact pw_rz hx hb hr rfl hlk hAe hP hS rfl dX4_does_98
          · have h := pq_e c8_ h
            refine lv_iconst (v := 0) hx hb dX4_does_89 (by decide) ?_
            obtain rfl := Option.some.inj h
            subst hQ
            exact pw_rz hx hb hr rfl hlk hAe hP hS rfl dX4_does_90
        · have h := pq_e c7_ h
          refine lv_lookup (off := 123) (tgt := 124) hx hb dX4_does_1 (by decide) ((lv_osw c1_ (by decide)).trans ((lv_osw c3_ (by decide)).trans ((lv_osw c5_ (by decide)).trans ((lv_osw c7_ (by decide)).trans (rfl))))) (by decide) ?_
          refine lv_aload_n hx hb dX4_does_124 rfl (lv_at hl 0 rfl) ?_
          refine lv_iload_n hx hb dX4_does_125 rfl (lv_at hl 2 rfl) ?_
          obtain ⟨r8, hr8, h⟩ := pq_b h
          refine pw_ci (w1 := WM cy q th z sv sn sp bf ty gn hs) (rest := []) (As := [.int x2]) hF (kX4_isThere l D cy q _ th z sv sn sp bf ty gn hs x2 r8 hr8) (cwV 1 hts (pw_gV (own := RX4) (idx := 101) (C := RX4) (y := yX4_isThere) aw_736 aw_738 aw_s20 aw_6 aw_739) rfl rfl rfl pX4_isThere ⟨Nat.le_of_ble_eq_true rfl, Nat.le_of_ble_eq_true rfl⟩) (va_recv hK hP (ci := 4) (q0 := 0) rfl rfl) hK hP hD hS hA rfl rfl hl.1 rfl (Nat.le_of_ble_eq_true rfl) dX4_does_126 ⟨Nat.zero_le _, Nat.zero_le _⟩ (fun H locs hP hD hS => ?_)
          refine lv_iload_n hx hb dX4_does_129 rfl (lv_at hl 1 rfl) ?_
          refine lv_bipush (v := 99) hx hb dX4_does_130 (by decide) ?_
          obtain ⟨v9, hv9, h⟩ := pq_b h
          have J140_v9 : ∀ (H : Heap) (locs : List Loc) (ls : Array Slot), va_P D vwCl (WM cy q th z sv sn sp bf ty gn hs) H → va_D A (WM cy q th z sv sn sp bf ty gn hs) → va_S A s.heap H locs → lv_has ls 3 [(0, .ref (q 0)), (1, .int x1), (2, .int x2)] → W p l e ({ frames := 8, cells := 0, slots := 0, locals := 177 } : Room) s m args below meth c H locs 0 0 Q (F0 m 140 ls [.int v9, .int r8]) := by
            intro H locs ls hP hD hS hl
            refine lv_icmp_ne (tgt := 145) hx hb dX4_does_140 (by decide) (fun c10_ => ?_) (fun c10_ => ?_)
            · have h := pq_e c10_ h
              refine lv_aload_n hx hb dX4_does_145 rfl (lv_at hl 0 rfl) ?_
              refine lv_iload_n hx hb dX4_does_146 rfl (lv_at hl 2 rfl) ?_
              refine lv_iload_n hx hb dX4_does_147 rfl (lv_at hl 1 rfl) ?_
              refine lv_bipush (v := 99) hx hb dX4_does_148 (by decide) ?_
              refine lv_icmp_ne (tgt := 157) hx hb dX4_does_150 (by decide) (fun c11_ => ?_) (fun c11_ => ?_)
              · have h := pq_e c11_ h
                refine lv_iconst (v := 0) hx hb dX4_does_157 (by decide) ?_
                obtain ⟨r10, hr10, h⟩ := pq_b h
                refine pw_ci (w1 := WM cy q th r10.2.1 sv sn sp bf ty r10.2.2 hs) (rest := []) (As := [.int x2, .int 0]) hF (kX4_appearIt l D cy q _ th z sv sn sp bf ty gn hs x2 0 r10 hr10) (cwV 2 hts (pw_gV (own := RX4) (idx := 137) (C := RX4) (y := yX4_appearIt) aw_847 aw_849 aw_s44 aw_6 aw_850) rfl rfl rfl pX4_appearIt ⟨Nat.le_of_ble_eq_true rfl, Nat.le_of_ble_eq_true rfl⟩) (va_recv hK hP (ci := 4) (q0 := 0) rfl rfl) hK hP hD hS hA rfl rfl hl.1 rfl (Nat.le_of_ble_eq_true rfl) dX4_does_158 ⟨Nat.zero_le _, Nat.zero_le _⟩ (fun H locs hP hD hS => ?_)
                refine lv_pop hx hb dX4_does_161 rfl ?_
                refine lv_iconst (v := 1) hx hb dX4_does_162 (by decide) ?_
                obtain rfl := Option.some.inj h
                subst hQ
                exact pw_rz hx hb hr rfl hlk hAe hP hS rfl dX4_does_163
              · have h := pq_t c11_ h
                refine lv_iconst (v := 1) hx hb dX4_does_153 (by decide) ?_
                refine lv_goto (tgt := 158) hx hb dX4_does_154 (by decide) ?_
                obtain ⟨r11, hr11, h⟩ := pq_b h
                refine pw_ci (w1 := WM cy q th r11.2.1 sv sn sp bf ty r11.2.2 hs) (rest := []) (As := [.int x2, .int 1]) hF (kX4_appearIt l D cy q _ th z sv sn sp bf ty gn hs x2 1 r11 hr11) (cwV 2 hts (pw_gV (own := RX4) (idx := 137) (C := RX4) (y := yX4_appearIt) aw_847 aw_849 aw_s44 aw_6 aw_850) rfl rfl rfl pX4_appearIt ⟨Nat.le_of_ble_eq_true rfl, Nat.le_of_ble_eq_true rfl⟩) (va_recv hK hP (ci := 4) (q0 := 0) rfl rfl) hK hP hD hS hA rfl rfl hl.1 rfl (Nat.le_of_ble_eq_true rfl) dX4_does_158 ⟨Nat.zero_le _, Nat.zero_le _⟩ (fun H locs hP hD hS => ?_)
                refine lv_pop hx hb dX4_does_161 rfl ?_
                refine lv_iconst (v := 1) hx hb dX4_does_162 (by decide) ?_
                obtain rfl := Option.some.inj h
                subst hQ
                exact pw_rz hx hb hr rfl hlk hAe hP hS rfl dX4_does_163
            · have h := pq_t c10_ h
              refine lv_iconst (v := 0) hx hb dX4_does_143 (by decide) ?_
              obtain rfl := Option.some.inj h
              subst hQ
              exact pw_rz hx hb hr rfl hlk hAe hP hS rfl dX4_does_144
          clear h
          have h := hv9
          clear hv9
          refine lv_icmp_ne (tgt := 139) hx hb dX4_does_132 (by decide) (fun c9_ => ?_) (fun c9_ => ?_)
          · have h := pq_e c9_ h
            refine lv_iconst (v := 0) hx hb dX4_does_139 (by decide) ?_
            obtain rfl := Option.some.inj h
            exact J140_v9 _ _ _ hP hD hS (lv_sub hl [0, 1, 2] rfl)
          · have h := pq_t c9_ h
            refine lv_iconst (v := 1) hx hb dX4_does_135 (by decide) ?_
            refine lv_goto (tgt := 140) hx hb dX4_does_136 (by decide) ?_
            obtain rfl := Option.some.inj h
            exact J140_v9 _ _ _ hP hD hS (lv_sub hl [0, 1, 2] rfl)

def aX4_run : List Cond := Cond.code yX4_run cX4_run 2 (some .int) :: pw_all
theorem pX4_run : yX4_run.cls = RX4 ∧ yX4_run.cls ≠ "java/lang/invoke/MethodHandle" ∧ yX4_run.cls ≠ "java/lang/invoke/VarHandle" ∧ (parseMethodDescriptor yX4_run.desc).map (fun d => d.parameters.length) = some 0 := by decide +kernel
set_option maxHeartbeats 8000000 in
set_option maxRecDepth 100000 in
theorem kX4_run (l : Launch) (D : va_G) (cy : Nat → ClassId) (q : Nat → Nat) (sz : Nat) (th : Int32) (z : Nat → Int32) (sv : Nat → Int32) (sn : Int32) (sp : Nat → Int32) (bf : Nat → Int32) (ty : Int32) (gn : Nat → Int32) (hs : Int64)  (o : Int32 × Int32 × (Nat → Int32) × (Nat → Int32) × Int32 × Int32 × (Nat → Int32)) (h : fX4_run th z sv sn bf ty gn = some o) : Met l yX4_run aX4_run ({ frames := 9, cells := 0, slots := 0, locals := 199 }) (pw_Pre D cy [.ref (q 0)] (WM cy q th z sv sn sp bf ty gn hs) sz) (pw_I D o.1 (WM cy q th z sv sn sp bf ty gn hs) (WM cy q o.2.1 o.2.2.1 o.2.2.2.1 o.2.2.2.2.1 sp bf o.2.2.2.2.2.1 o.2.2.2.2.2.2 hs) sz) 0 0 (va_A (WM cy q th z sv sn sp bf ty gn hs) sz) := by
  refine pw_met (cc := cX4_run) (maxL := 2) (ret := (some .int)) (by decide) rfl (Nat.le_of_ble_eq_true rfl) ?_
  intro p e s m args below meth c ls A hx hb hr hml hlk hts hown hAe hA hK hP hD hS hl
  have hl : lv_has ls 2 [(0, .ref (q 0))] := hl
  generalize hQ : MQ below (pw_I D o.1 (WM cy q th z sv sn sp bf ty gn hs) (WM cy q o.2.1 o.2.2.1 o.2.2.2.1 o.2.2.2.2.1 sp bf o.2.2.2.2.2.1 o.2.2.2.2.2.2 hs) sz) args s 0 0 (va_A (WM cy q th z sv sn sp bf ty gn hs) sz) = Q
  have hF : CallFix p m c cX4_run 2 s args aX4_run RX4 := ⟨hx, hb, hml, hown, hts⟩
  have hta : ∀ w ∈ pw_all, w.before args s = true := fun w h => hts w (List.mem_cons_of_mem _ h)
  have hin : ∀ w ∈ wsX40, w ∈ aX4_run := fun w h => List.mem_cons_of_mem _ (inA4 w h)
  unfold fX4_run at h
  refine lv_aload_n hx hb dX4_run_0 rfl (lv_at hl 0 rfl) ?_
  refine lv_aload_n hx hb dX4_run_1 rfl (lv_at hl 0 rfl) ?_
  obtain ⟨r1, hr1, h⟩ := pq_b h
  refine pw_ci (w1 := WM cy q th z sv sn sp bf ty gn hs) (rest := [.ref (q 0)]) (As := []) hF (kX4_readBuffer l D cy q _ th z sv sn sp bf ty gn hs  r1 hr1) (cwV 0 hts (pw_gV (own := RX4) (idx := 159) (C := RX4) (y := yX4_readBuffer) aw_905 aw_907 aw_s49 aw_6 aw_908) rfl rfl rfl pX4_readBuffer ⟨Nat.le_of_ble_eq_true rfl, Nat.le_of_ble_eq_true rfl⟩) (va_recv hK hP (ci := 4) (q0 := 0) rfl rfl) hK hP hD hS hA rfl rfl hl.1 rfl (Nat.le_of_ble_eq_true rfl) dX4_run_2 ⟨Nat.zero_le _, Nat.zero_le _⟩ (fun H locs hP hD hS => ?_)
  refine lv_aload_n hx hb dX4_run_5 rfl (lv_at hl 0 rfl) ?_
  refine va_get (D := D) (ci := 4) (v := .int ty) (C := RX4) (T := TX4) (N := 9) hx hb hts hin hown hK hP 0 rfl rfl 6 (by decide) (hta _ aw_692) (fun _ h9 => h9) rfl dX4_run_6 ?_
  obtain ⟨v2, hv2, h⟩ := pq_b h
  have J33_v2 : ∀ (H : Heap) (locs : List Loc) (ls : Array Slot), va_P D vwCl (WM cy q th z sv sn sp bf ty gn hs) H → va_D A (WM cy q th z sv sn sp bf ty gn hs) → va_S A s.heap H locs → lv_has ls 2 [(0, .ref (q 0))] → W p l e ({ frames := 9, cells := 0, slots := 0, locals := 199 } : Room) s m args below meth c H locs 0 0 Q (F0 m 33 ls [.int v2, .ref (q 0)]) := by
    intro H locs ls hP hD hS hl
    refine va_put (D := D) (ci := 4) (v := .int v2) (ty := .int) (C := RX4) (T := TX4) (N := 9) hx hb hts hin tyX4 tyX4_ok nmX4 hown hK hP hD hS 0 rfl rfl 0 (by decide) (hta _ aw_686) (fun _ h9 => h9) rfl (by decide +kernel) rfl rfl (Nat.le_of_ble_eq_true rfl) dX4_run_33 (fun H locs hP hD hS => ?_)
    have hP : va_P D vwCl (WM cy q v2 z sv sn sp bf ty gn hs) H := hP
    have hD : va_D A (WM cy q v2 z sv sn sp bf ty gn hs) := hD
    refine lv_aload_n hx hb dX4_run_36 rfl (lv_at hl 0 rfl) ?_
    refine va_get (D := D) (ci := 4) (v := .int v2) (C := RX4) (T := TX4) (N := 9) hx hb hts hin hown hK hP 0 rfl rfl 0 (by decide) (hta _ aw_686) (fun _ h9 => h9) rfl dX4_run_37 ?_
    refine lv_if_le (tgt := 45) hx hb dX4_run_40 (by decide) (fun c4_ => ?_) (fun c4_ => ?_)
    · have h := pq_t c4_ h
      refine lv_aload_n hx hb dX4_run_45 rfl (lv_at hl 0 rfl) ?_
      obtain ⟨r3, hr3, h⟩ := pq_b h
      refine pw_cv (w1 := WM cy q v2 z r3.1 r3.2 sp bf ty gn hs) (rest := []) (As := []) hF (kX4_save l D cy q _ v2 z sv sn sp bf ty gn hs  r3 hr3) (cwV 0 hts (pw_gV (own := RX4) (idx := 122) (C := RX4) (y := yX4_save) aw_752 aw_754 aw_s24 aw_6 aw_755) rfl rfl rfl pX4_save ⟨Nat.le_of_ble_eq_true rfl, Nat.le_of_ble_eq_true rfl⟩) (va_recv hK hP (ci := 4) (q0 := 0) rfl rfl) hK hP hD hS hA rfl rfl hl.1 rfl (Nat.le_of_ble_eq_true rfl) dX4_run_46 ⟨Nat.zero_le _, Nat.zero_le _⟩ (fun H locs hP hD hS => ?_)
      refine lv_iconst (v := 0) hx hb dX4_run_49 (by decide) ?_
      refine lv_istore_n (lv' := [(1, .int 0), (0, .ref (q 0))]) hx hb dX4_run_50 rfl hl (by decide) rfl (fun ls hl => ?_)
      obtain ⟨v5, hv5, h⟩ := pq_b h
      have X95_v5 : ∀ (H : Heap) (locs : List Loc) (ls : Array Slot), va_P D vwCl (WM cy q v2 v5.2.1 r3.1 r3.2 sp bf ty v5.2.2 hs) H → va_D A (WM cy q v2 v5.2.1 r3.1 r3.2 sp bf ty v5.2.2 hs) → va_S A s.heap H locs → lv_has ls 2 [(0, .ref (q 0)), (1, .int v5.1)] → W p l e ({ frames := 9, cells := 0, slots := 0, locals := 199 } : Room) s m args below meth c H locs 0 0 Q (F0 m 95 ls []) := by
        intro H locs ls hP hD hS hl
        refine lv_aload_n hx hb dX4_run_95 rfl (lv_at hl 0 rfl) ?_
        refine lv_iconst (v := 0) hx hb dX4_run_96 (by decide) ?_
        refine va_put (D := D) (ci := 4) (v := .int 0) (ty := .int) (C := RX4) (T := TX4) (N := 9) hx hb hts hin tyX4 tyX4_ok nmX4 hown hK hP hD hS 0 rfl rfl 6 (by decide) (hta _ aw_692) (fun _ h9 => h9) rfl (by decide +kernel) rfl rfl (Nat.le_of_ble_eq_true rfl) dX4_run_97 (fun H locs hP hD hS => ?_)
        have hP : va_P D vwCl (WM cy q v2 v5.2.1 r3.1 r3.2 sp bf 0 v5.2.2 hs) H := hP
        have hD : va_D A (WM cy q v2 v5.2.1 r3.1 r3.2 sp bf 0 v5.2.2 hs) := hD
        refine lv_iload_n hx hb dX4_run_100 rfl (lv_at hl 1 rfl) ?_
        obtain rfl := Option.some.inj h
        subst hQ
        exact pw_ri hx hb hr hlk hAe hP hS rfl dX4_run_101
      clear h
      have L51_n4 : ∀ (n : Nat) (x1_51 : Int32) (z_51 : Nat → Int32) (gn_51 : Nat → Int32) (H : Heap) (locs : List Loc) (ls : Array Slot), fX4_run_L51 bf ty n x1_51 z_51 gn_51 = some v5 → va_P D vwCl (WM cy q v2 z_51 r3.1 r3.2 sp bf ty gn_51 hs) H → va_D A (WM cy q v2 z_51 r3.1 r3.2 sp bf ty gn_51 hs) → va_S A s.heap H locs → lv_has ls 2 [(0, .ref (q 0)), (1, .int x1_51)] → W p l e ({ frames := 9, cells := 0, slots := 0, locals := 199 } : Room) s m args below meth c H locs 0 0 Q (F0 m 51 ls []) := by
        intro n
        induction n with
        | zero =>
          intro x1_51 z_51 gn_51 H locs ls h hP hD hS hl
          exact pq_n h
        | succ n ih51 =>
          intro x1_51 z_51 gn_51 H locs ls h hP hD hS hl
          rw [fX4_run_L51] at h
          refine lv_iconst (v := 2) hx hb dX4_run_51 (by decide) ?_
          refine lv_iload_n hx hb dX4_run_52 rfl (lv_at hl 1 rfl) ?_
          refine lv_imul hx hb dX4_run_53 ?_
          refine lv_aload_n hx hb dX4_run_54 rfl (lv_at hl 0 rfl) ?_
          refine va_get (D := D) (ci := 4) (v := .int ty) (C := RX4) (T := TX4) (N := 9) hx hb hts hin hown hK hP 0 rfl rfl 6 (by decide) (hta _ aw_692) (fun _ h9 => h9) rfl dX4_run_55 ?_
          refine lv_icmp_ge (tgt := 95) hx hb dX4_run_58 (by decide) (fun c5_ => ?_) (fun c5_ => ?_)
          · have h := pq_t c5_ h
            obtain rfl := Option.some.inj h
            exact X95_v5 _ _ _ hP hD hS (lv_sub hl [0, 1] rfl)
          · have h := pq_e c5_ h
            refine lv_aload_n hx hb dX4_run_61 rfl (lv_at hl 0 rfl) ?_
            refine lv_aload_n hx hb dX4_run_62 rfl (lv_at hl 0 rfl) ?_
            refine va_get (D := D) (ci := 4) (v := .ref (q 5)) (C := RX4) (T := TX4) (N := 9) hx hb hts hin hown hK hP 0 rfl rfl 5 (by decide) (hta _ aw_691) (fun _ h9 => h9) rfl dX4_run_63 ?_
            refine lv_iconst (v := 2) hx hb dX4_run_66 (by decide) ?_
            refine lv_iload_n hx hb dX4_run_67 rfl (lv_at hl 1 rfl) ?_
            refine lv_imul hx hb dX4_run_68 ?_
            obtain ⟨hg, h⟩ := pq_g h
            refine va_iald hx hb hK hP 4 0 rfl rfl (pq_vp hg) dX4_run_69 ?_
            refine lv_aload_n hx hb dX4_run_70 rfl (lv_at hl 0 rfl) ?_
            refine va_get (D := D) (ci := 4) (v := .ref (q 5)) (C := RX4) (T := TX4) (N := 9) hx hb hts hin hown hK hP 0 rfl rfl 5 (by decide) (hta _ aw_691) (fun _ h9 => h9) rfl dX4_run_71 ?_
            refine lv_iconst (v := 2) hx hb dX4_run_74 (by decide) ?_
            refine lv_iload_n hx hb dX4_run_75 rfl (lv_at hl 1 rfl) ?_
            refine lv_imul hx hb dX4_run_76 ?_
            refine lv_iconst (v := 1) hx hb dX4_run_77 (by decide) ?_
            refine lv_iadd hx hb dX4_run_78 ?_
            obtain ⟨hg, h⟩ := pq_g h
            refine va_iald hx hb hK hP 4 0 rfl rfl (pq_vp hg) dX4_run_79 ?_
            refine lv_bipush (v := 48) hx hb dX4_run_80 (by decide) ?_
            refine lv_isub hx hb dX4_run_82 ?_
            obtain ⟨r6, hr6, h⟩ := pq_b h
            refine pw_ci (w1 := WM cy q v2 r6.2.1 r3.1 r3.2 sp bf ty r6.2.2 hs) (rest := []) (As := [.int (bf (2 * x1_51).toNatClampNeg), .int ((bf ((2 * x1_51) + 1).toNatClampNeg) - 48)]) hF (kX4_does l D cy q _ v2 z_51 r3.1 r3.2 sp bf ty gn_51 hs (bf (2 * x1_51).toNatClampNeg) ((bf ((2 * x1_51) + 1).toNatClampNeg) - 48) r6 hr6) (cwV 2 hts (pw_gV (own := RX4) (idx := 162) (C := RX4) (y := yX4_does) aw_917 aw_919 aw_s51 aw_6 aw_920) rfl rfl rfl pX4_does ⟨Nat.le_of_ble_eq_true rfl, Nat.le_of_ble_eq_true rfl⟩) (va_recv hK hP (ci := 4) (q0 := 0) rfl rfl) hK hP hD hS hA rfl rfl hl.1 rfl (Nat.le_of_ble_eq_true rfl) dX4_run_83 ⟨Nat.zero_le _, Nat.zero_le _⟩ (fun H locs hP hD hS => ?_)
            refine lv_if_eq (tgt := 95) hx hb dX4_run_86 (by decide) (fun c6_ => ?_) (fun c6_ => ?_)
            · have h := pq_t c6_ h
              obtain rfl := Option.some.inj h
              exact X95_v5 _ _ _ hP hD hS (lv_sub hl [0, 1] rfl)
            · have h := pq_e c6_ h
              refine lv_iinc (v := x1_51 + 1) (lv' := [(1, .int (x1_51 + 1)), (0, .ref (q 0))]) hx hb dX4_run_89 hl (k := 1) rfl (by first | rfl | decide) (by decide) rfl (fun ls hl => ?_)
              refine lv_goto (tgt := 51) hx hb dX4_run_92 (by decide) ?_
              exact ih51 (x1_51 + 1) r6.2.1 r6.2.2 _ _ _ h hP hD hS (lv_sub hl [1, 0] rfl)
      have h := hv5
      exact L51_n4 1000 0 z gn _ _ _ h hP hD hS (lv_sub hl [1, 0] rfl)
    · have h := pq_e c4_ h
      refine lv_iconst (v := 0) hx hb dX4_run_43 (by decide) ?_
      obtain rfl := Option.some.inj h
      subst hQ
      exact pw_ri hx hb hr hlk hAe hP hS rfl dX4_run_44
  clear h
  have h := hv2
  clear hv2
  refine lv_icmp_ne (tgt := 32) hx hb dX4_run_9 (by decide) (fun c1_ => ?_) (fun c1_ => ?_)
  · have h := pq_e c1_ h
    refine lv_iconst (v := 1) hx hb dX4_run_32 (by decide) ?_
    obtain rfl := Option.some.inj h
    exact J33_v2 _ _ _ hP hD hS (lv_sub hl [0] rfl)
  · have h := pq_t c1_ h
    refine lv_aload_n hx hb dX4_run_12 rfl (lv_at hl 0 rfl) ?_
    refine va_get (D := D) (ci := 4) (v := .int ty) (C := RX4) (T := TX4) (N := 9) hx hb hts hin hown hK hP 0 rfl rfl 6 (by decide) (hta _ aw_692) (fun _ h9 => h9) rfl dX4_run_13 ?_
    refine lv_if_le (tgt := 32) hx hb dX4_run_16 (by decide) (fun c2_ => ?_) (fun c2_ => ?_)
    · have h := pq_t c2_ h
      refine lv_iconst (v := 1) hx hb dX4_run_32 (by decide) ?_
      obtain rfl := Option.some.inj h
      exact J33_v2 _ _ _ hP hD hS (lv_sub hl [0] rfl)
    · have h := pq_e c2_ h
      refine lv_aload_n hx hb dX4_run_19 rfl (lv_at hl 0 rfl) ?_
      refine va_get (D := D) (ci := 4) (v := .int ty) (C := RX4) (T := TX4) (N := 9) hx hb hts hin hown hK hP 0 rfl rfl 6 (by decide) (hta _ aw_692) (fun _ h9 => h9) rfl dX4_run_20 ?_
      refine lv_iconst (v := 2) hx hb dX4_run_23 (by decide) ?_
      refine lv_irem hx hb dX4_run_24 (by decide) ?_
      refine lv_if_ne (tgt := 32) hx hb dX4_run_25 (by decide) (fun c3_ => ?_) (fun c3_ => ?_)
      · have h := pq_e c3_ h
        refine lv_iconst (v := 1) hx hb dX4_run_32 (by decide) ?_
        obtain rfl := Option.some.inj h
        exact J33_v2 _ _ _ hP hD hS (lv_sub hl [0] rfl)
      · have h := pq_t c3_ h
        refine lv_iconst (v := 0) hx hb dX4_run_28 (by decide) ?_
        refine lv_goto (tgt := 33) hx hb dX4_run_29 (by decide) ?_
        obtain rfl := Option.some.inj h
        exact J33_v2 _ _ _ hP hD hS (lv_sub hl [0] rfl)

def aX4_toldPlace : List Cond := Cond.code yX4_toldPlace cX4_toldPlace 3 (some .int) :: pw_all
theorem pX4_toldPlace : yX4_toldPlace.cls = RX4 ∧ yX4_toldPlace.cls ≠ "java/lang/invoke/MethodHandle" ∧ yX4_toldPlace.cls ≠ "java/lang/invoke/VarHandle" ∧ (parseMethodDescriptor yX4_toldPlace.desc).map (fun d => d.parameters.length) = some 2 := by decide +kernel
set_option maxHeartbeats 8000000 in
set_option maxRecDepth 100000 in
theorem kX4_toldPlace (l : Launch) (D : va_G) (cy : Nat → ClassId) (q : Nat → Nat) (sz : Nat) (th : Int32) (z : Nat → Int32) (sv : Nat → Int32) (sn : Int32) (sp : Nat → Int32) (bf : Nat → Int32) (ty : Int32) (gn : Nat → Int32) (hs : Int64) (x1 : Int32) (x2 : Int32) (o : Int32) (h : fX4_toldPlace x1 x2 z = some o) : Met l yX4_toldPlace aX4_toldPlace ({ frames := 2, cells := 0, slots := 0, locals := 44 }) (pw_Pre D cy [.ref (q 0), .int x1, .int x2] (WM cy q th z sv sn sp bf ty gn hs) sz) (pw_I D o (WM cy q th z sv sn sp bf ty gn hs) (WM cy q th z sv sn sp bf ty gn hs) sz) 0 0 (va_A (WM cy q th z sv sn sp bf ty gn hs) sz) := by
  refine pw_met (cc := cX4_toldPlace) (maxL := 3) (ret := (some .int)) (by decide) rfl (Nat.le_of_ble_eq_true rfl) ?_
  intro p e s m args below meth c ls A hx hb hr hml hlk hts hown hAe hA hK hP hD hS hl
  have hl : lv_has ls 3 [(0, .ref (q 0)), (1, .int x1), (2, .int x2)] := hl
  generalize hQ : MQ below (pw_I D o (WM cy q th z sv sn sp bf ty gn hs) (WM cy q th z sv sn sp bf ty gn hs) sz) args s 0 0 (va_A (WM cy q th z sv sn sp bf ty gn hs) sz) = Q
  have hF : CallFix p m c cX4_toldPlace 3 s args aX4_toldPlace RX4 := ⟨hx, hb, hml, hown, hts⟩
  have hta : ∀ w ∈ pw_all, w.before args s = true := fun w h => hts w (List.mem_cons_of_mem _ h)
  have hin : ∀ w ∈ wsX40, w ∈ aX4_toldPlace := fun w h => List.mem_cons_of_mem _ (inA4 w h)
  unfold fX4_toldPlace at h
  refine lv_iload_n hx hb dX4_toldPlace_0 rfl (lv_at hl 2 rfl) ?_
  refine lv_iconst (v := 4) hx hb dX4_toldPlace_1 (by decide) ?_
  refine lv_icmp_ne (tgt := 31) hx hb dX4_toldPlace_2 (by decide) (fun c1_ => ?_) (fun c1_ => ?_)
  · have h := pq_e c1_ h
    refine lv_aload_n hx hb dX4_toldPlace_31 rfl (lv_at hl 0 rfl) ?_
    refine lv_iload_n hx hb dX4_toldPlace_32 rfl (lv_at hl 1 rfl) ?_
    refine lv_iload_n hx hb dX4_toldPlace_33 rfl (lv_at hl 2 rfl) ?_
    obtain ⟨r1, hr1, h⟩ := pq_b h
    refine pw_ci (w1 := WM cy q th z sv sn sp bf ty gn hs) (rest := []) (As := [.int x1, .int x2]) hF (kX4_of l D cy q _ th z sv sn sp bf ty gn hs x1 x2 r1 hr1) (cwV 2 hts (pw_gV (own := RX4) (idx := 40) (C := RX4) (y := yX4_of) aw_768 aw_770 aw_s28 aw_6 aw_771) rfl rfl rfl pX4_of ⟨Nat.le_of_ble_eq_true rfl, Nat.le_of_ble_eq_true rfl⟩) (va_recv hK hP (ci := 4) (q0 := 0) rfl rfl) hK hP hD hS hA rfl rfl hl.1 rfl (Nat.le_of_ble_eq_true rfl) dX4_toldPlace_34 ⟨Nat.zero_le _, Nat.zero_le _⟩ (fun H locs hP hD hS => ?_)
    obtain rfl := Option.some.inj h
    subst hQ
    exact pw_ri hx hb hr hlk hAe hP hS rfl dX4_toldPlace_37
  · have h := pq_t c1_ h
    refine lv_aload_n hx hb dX4_toldPlace_5 rfl (lv_at hl 0 rfl) ?_
    refine lv_iload_n hx hb dX4_toldPlace_6 rfl (lv_at hl 1 rfl) ?_
    refine lv_iconst (v := 0) hx hb dX4_toldPlace_7 (by decide) ?_
    obtain ⟨r2, hr2, h⟩ := pq_b h
    refine pw_ci (w1 := WM cy q th z sv sn sp bf ty gn hs) (rest := []) (As := [.int x1, .int 0]) hF (kX4_isIn l D cy q _ th z sv sn sp bf ty gn hs x1 0 r2 hr2) (cwV 2 hts (pw_gV (own := RX4) (idx := 50) (C := RX4) (y := yX4_isIn) aw_780 aw_782 aw_s31 aw_6 aw_783) rfl rfl rfl pX4_isIn ⟨Nat.le_of_ble_eq_true rfl, Nat.le_of_ble_eq_true rfl⟩) (va_recv hK hP (ci := 4) (q0 := 0) rfl rfl) hK hP hD hS hA rfl rfl hl.1 rfl (Nat.le_of_ble_eq_true rfl) dX4_toldPlace_8 ⟨Nat.zero_le _, Nat.zero_le _⟩ (fun H locs hP hD hS => ?_)
    refine lv_if_ne (tgt := 31) hx hb dX4_toldPlace_11 (by decide) (fun c2_ => ?_) (fun c2_ => ?_)
    · have h := pq_e c2_ h
      refine lv_aload_n hx hb dX4_toldPlace_31 rfl (lv_at hl 0 rfl) ?_
      refine lv_iload_n hx hb dX4_toldPlace_32 rfl (lv_at hl 1 rfl) ?_
      refine lv_iload_n hx hb dX4_toldPlace_33 rfl (lv_at hl 2 rfl) ?_
      obtain ⟨r3, hr3, h⟩ := pq_b h
      refine pw_ci (w1 := WM cy q th z sv sn sp bf ty gn hs) (rest := []) (As := [.int x1, .int x2]) hF (kX4_of l D cy q _ th z sv sn sp bf ty gn hs x1 x2 r3 hr3) (cwV 2 hts (pw_gV (own := RX4) (idx := 40) (C := RX4) (y := yX4_of) aw_768 aw_770 aw_s28 aw_6 aw_771) rfl rfl rfl pX4_of ⟨Nat.le_of_ble_eq_true rfl, Nat.le_of_ble_eq_true rfl⟩) (va_recv hK hP (ci := 4) (q0 := 0) rfl rfl) hK hP hD hS hA rfl rfl hl.1 rfl (Nat.le_of_ble_eq_true rfl) dX4_toldPlace_34 ⟨Nat.zero_le _, Nat.zero_le _⟩ (fun H locs hP hD hS => ?_)
      obtain rfl := Option.some.inj h
      subst hQ
      exact pw_ri hx hb hr hlk hAe hP hS rfl dX4_toldPlace_37
    · have h := pq_t c2_ h
      refine lv_aload_n hx hb dX4_toldPlace_14 rfl (lv_at hl 0 rfl) ?_
      refine va_get (D := D) (ci := 4) (v := .ref (q 1)) (C := RX4) (T := TX4) (N := 9) hx hb hts hin hown hK hP 0 rfl rfl 1 (by decide) (hta _ aw_687) (fun _ h9 => h9) rfl dX4_toldPlace_15 ?_
      refine lv_bipush (v := 9) hx hb dX4_toldPlace_18 (by decide) ?_
      refine va_iald hx hb hK hP 1 0 rfl rfl (pq_vp (by decide +kernel)) dX4_toldPlace_20 ?_
      refine lv_aload_n hx hb dX4_toldPlace_21 rfl (lv_at hl 0 rfl) ?_
      refine lv_iload_n hx hb dX4_toldPlace_22 rfl (lv_at hl 1 rfl) ?_
      refine lv_iconst (v := 4) hx hb dX4_toldPlace_23 (by decide) ?_
      obtain ⟨r4, hr4, h⟩ := pq_b h
      refine pw_ci (w1 := WM cy q th z sv sn sp bf ty gn hs) (rest := [.int (z (9 : Int32).toNatClampNeg)]) (As := [.int x1, .int 4]) hF (kX4_of l D cy q _ th z sv sn sp bf ty gn hs x1 4 r4 hr4) (cwV 2 hts (pw_gV (own := RX4) (idx := 40) (C := RX4) (y := yX4_of) aw_768 aw_770 aw_s28 aw_6 aw_771) rfl rfl rfl pX4_of ⟨Nat.le_of_ble_eq_true rfl, Nat.le_of_ble_eq_true rfl⟩) (va_recv hK hP (ci := 4) (q0 := 0) rfl rfl) hK hP hD hS hA rfl rfl hl.1 rfl (Nat.le_of_ble_eq_true rfl) dX4_toldPlace_24 ⟨Nat.zero_le _, Nat.zero_le _⟩ (fun H locs hP hD hS => ?_)
      refine lv_isub hx hb dX4_toldPlace_27 ?_
      refine lv_goto (tgt := 37) hx hb dX4_toldPlace_28 (by decide) ?_
      obtain rfl := Option.some.inj h
      subst hQ
      exact pw_ri hx hb hr hlk hAe hP hS rfl dX4_toldPlace_37

def aX4_place : List Cond := Cond.code yX4_place cX4_place 3 (some .int) :: pw_all
theorem pX4_place : yX4_place.cls = RX4 ∧ yX4_place.cls ≠ "java/lang/invoke/MethodHandle" ∧ yX4_place.cls ≠ "java/lang/invoke/VarHandle" ∧ (parseMethodDescriptor yX4_place.desc).map (fun d => d.parameters.length) = some 2 := by decide +kernel
set_option maxHeartbeats 8000000 in
set_option maxRecDepth 100000 in
theorem kX4_place (l : Launch) (D : va_G) (cy : Nat → ClassId) (q : Nat → Nat) (sz : Nat) (th : Int32) (z : Nat → Int32) (sv : Nat → Int32) (sn : Int32) (sp : Nat → Int32) (bf : Nat → Int32) (ty : Int32) (gn : Nat → Int32) (hs : Int64) (x1 : Int32) (x2 : Int32) (o : Int32 × Int32) (h : fX4_place x1 x2 th z = some o) : Met l yX4_place aX4_place ({ frames := 3, cells := 0, slots := 0, locals := 66 }) (pw_Pre D cy [.ref (q 0), .int x1, .int x2] (WM cy q th z sv sn sp bf ty gn hs) sz) (pw_I D o.1 (WM cy q th z sv sn sp bf ty gn hs) (WM cy q o.2 z sv sn sp bf ty gn hs) sz) 0 0 (va_A (WM cy q th z sv sn sp bf ty gn hs) sz) := by
  refine pw_met (cc := cX4_place) (maxL := 3) (ret := (some .int)) (by decide) rfl (Nat.le_of_ble_eq_true rfl) ?_
  intro p e s m args below meth c ls A hx hb hr hml hlk hts hown hAe hA hK hP hD hS hl
  have hl : lv_has ls 3 [(0, .ref (q 0)), (1, .int x1), (2, .int x2)] := hl
  generalize hQ : MQ below (pw_I D o.1 (WM cy q th z sv sn sp bf ty gn hs) (WM cy q o.2 z sv sn sp bf ty gn hs) sz) args s 0 0 (va_A (WM cy q th z sv sn sp bf ty gn hs) sz) = Q
  have hF : CallFix p m c cX4_place 3 s args aX4_place RX4 := ⟨hx, hb, hml, hown, hts⟩
  have hta : ∀ w ∈ pw_all, w.before args s = true := fun w h => hts w (List.mem_cons_of_mem _ h)
  have hin : ∀ w ∈ wsX40, w ∈ aX4_place := fun w h => List.mem_cons_of_mem _ (inA4 w h)
  unfold fX4_place at h
  refine lv_aload_n hx hb dX4_place_0 rfl (lv_at hl 0 rfl) ?_
  refine lv_iload_n hx hb dX4_place_1 rfl (lv_at hl 1 rfl) ?_
  obtain ⟨r1, hr1, h⟩ := pq_b h
  refine pw_si (rest := [.ref (q 0)]) (As := [.int x1]) hF (kX4_isPlace l D cy _ x1 r1 hr1) (cwS 1 hts (pw_gS (own := RX4) (idx := 128) (y := yX4_isPlace) aw_824 aw_825 aw_6 aw_826) rfl rfl rfl pX4_isPlace ⟨Nat.le_of_ble_eq_true rfl, Nat.le_of_ble_eq_true rfl⟩) hK hP hS hA rfl hl.1 rfl (Nat.le_of_ble_eq_true rfl) dX4_place_2 ⟨Nat.zero_le _, Nat.zero_le _⟩ (fun H locs hP hS => ?_)
  obtain ⟨v2, hv2, h⟩ := pq_b h
  have J26_v2 : ∀ (H : Heap) (locs : List Loc) (ls : Array Slot), va_P D vwCl (WM cy q th z sv sn sp bf ty gn hs) H → va_D A (WM cy q th z sv sn sp bf ty gn hs) → va_S A s.heap H locs → lv_has ls 3 [(0, .ref (q 0)), (1, .int x1), (2, .int x2)] → W p l e ({ frames := 3, cells := 0, slots := 0, locals := 66 } : Room) s m args below meth c H locs 0 0 Q (F0 m 26 ls [.int v2, .ref (q 0)]) := by
    intro H locs ls hP hD hS hl
    refine va_put (D := D) (ci := 4) (v := .int v2) (ty := .int) (C := RX4) (T := TX4) (N := 9) hx hb hts hin tyX4 tyX4_ok nmX4 hown hK hP hD hS 0 rfl rfl 0 (by decide) (hta _ aw_686) (fun _ h9 => h9) rfl (by decide +kernel) rfl rfl (Nat.le_of_ble_eq_true rfl) dX4_place_26 (fun H locs hP hD hS => ?_)
    have hP : va_P D vwCl (WM cy q v2 z sv sn sp bf ty gn hs) H := hP
    have hD : va_D A (WM cy q v2 z sv sn sp bf ty gn hs) := hD
    refine lv_aload_n hx hb dX4_place_29 rfl (lv_at hl 0 rfl) ?_
    refine va_get (D := D) (ci := 4) (v := .int v2) (C := RX4) (T := TX4) (N := 9) hx hb hts hin hown hK hP 0 rfl rfl 0 (by decide) (hta _ aw_686) (fun _ h9 => h9) rfl dX4_place_30 ?_
    refine lv_if_le (tgt := 40) hx hb dX4_place_33 (by decide) (fun c3_ => ?_) (fun c3_ => ?_)
    · have h := pq_t c3_ h
      refine lv_aload_n hx hb dX4_place_40 rfl (lv_at hl 0 rfl) ?_
      refine lv_iload_n hx hb dX4_place_41 rfl (lv_at hl 1 rfl) ?_
      refine lv_iload_n hx hb dX4_place_42 rfl (lv_at hl 2 rfl) ?_
      obtain ⟨r4, hr4, h⟩ := pq_b h
      refine pw_ci (w1 := WM cy q v2 z sv sn sp bf ty gn hs) (rest := []) (As := [.int x1, .int x2]) hF (kX4_toldPlace l D cy q _ v2 z sv sn sp bf ty gn hs x1 x2 r4 hr4) (cwV 2 hts (pw_gV (own := RX4) (idx := 165) (C := RX4) (y := yX4_toldPlace) aw_925 aw_927 aw_s52 aw_6 aw_928) rfl rfl rfl pX4_toldPlace ⟨Nat.le_of_ble_eq_true rfl, Nat.le_of_ble_eq_true rfl⟩) (va_recv hK hP (ci := 4) (q0 := 0) rfl rfl) hK hP hD hS hA rfl rfl hl.1 rfl (Nat.le_of_ble_eq_true rfl) dX4_place_43 ⟨Nat.zero_le _, Nat.zero_le _⟩ (fun H locs hP hD hS => ?_)
      obtain rfl := Option.some.inj h
      subst hQ
      exact pw_ri hx hb hr hlk hAe hP hS rfl dX4_place_46
    · have h := pq_e c3_ h
      refine lv_iconst (v := 0) hx hb dX4_place_36 (by decide) ?_
      refine lv_goto (tgt := 46) hx hb dX4_place_37 (by decide) ?_
      obtain rfl := Option.some.inj h
      subst hQ
      exact pw_ri hx hb hr hlk hAe hP hS rfl dX4_place_46
  clear h
  have h := hv2
  clear hv2
  refine lv_if_ne (tgt := 12) hx hb dX4_place_5 (by decide) (fun c1_ => ?_) (fun c1_ => ?_)
  · have h := pq_e c1_ h
    refine lv_iload_n hx hb dX4_place_12 rfl (lv_at hl 2 rfl) ?_
    refine lv_iconst (v := 0) hx hb dX4_place_13 (by decide) ?_
    refine lv_iconst (v := 5) hx hb dX4_place_14 (by decide) ?_
    obtain ⟨r3, hr3, h⟩ := pq_b h
    refine pw_si (rest := [.ref (q 0)]) (As := [.int x2, .int 0, .int 5]) hF (kX4_in l D cy _ x2 0 5 r3 hr3) (cwS 3 hts (pw_gS (own := RX4) (idx := 36) (y := yX4_in) aw_729 aw_730 aw_6 aw_731) rfl rfl rfl pX4_in ⟨Nat.le_of_ble_eq_true rfl, Nat.le_of_ble_eq_true rfl⟩) hK hP hS hA rfl hl.1 rfl (Nat.le_of_ble_eq_true rfl) dX4_place_15 ⟨Nat.zero_le _, Nat.zero_le _⟩ (fun H locs hP hS => ?_)
    refine lv_if_eq (tgt := 25) hx hb dX4_place_18 (by decide) (fun c2_ => ?_) (fun c2_ => ?_)
    · have h := pq_t c2_ h
      refine lv_iconst (v := 2) hx hb dX4_place_25 (by decide) ?_
      obtain rfl := Option.some.inj h
      exact J26_v2 _ _ _ hP hD hS (lv_sub hl [0, 1, 2] rfl)
    · have h := pq_e c2_ h
      refine lv_iconst (v := 0) hx hb dX4_place_21 (by decide) ?_
      refine lv_goto (tgt := 26) hx hb dX4_place_22 (by decide) ?_
      obtain rfl := Option.some.inj h
      exact J26_v2 _ _ _ hP hD hS (lv_sub hl [0, 1, 2] rfl)
  · have h := pq_t c1_ h
    refine lv_iconst (v := 1) hx hb dX4_place_8 (by decide) ?_
    refine lv_goto (tgt := 26) hx hb dX4_place_9 (by decide) ?_
    obtain rfl := Option.some.inj h
    exact J26_v2 _ _ _ hP hD hS (lv_sub hl [0, 1, 2] rfl)

def aX4_toldOwner : List Cond := Cond.code yX4_toldOwner cX4_toldOwner 3 (some .int) :: pw_all
theorem pX4_toldOwner : yX4_toldOwner.cls = RX4 ∧ yX4_toldOwner.cls ≠ "java/lang/invoke/MethodHandle" ∧ yX4_toldOwner.cls ≠ "java/lang/invoke/VarHandle" ∧ (parseMethodDescriptor yX4_toldOwner.desc).map (fun d => d.parameters.length) = some 2 := by decide +kernel
set_option maxHeartbeats 8000000 in
set_option maxRecDepth 100000 in
theorem kX4_toldOwner (l : Launch) (D : va_G) (cy : Nat → ClassId) (q : Nat → Nat) (sz : Nat) (th : Int32) (z : Nat → Int32) (sv : Nat → Int32) (sn : Int32) (sp : Nat → Int32) (bf : Nat → Int32) (ty : Int32) (gn : Nat → Int32) (hs : Int64) (x1 : Int32) (x2 : Int32) (o : Int32) (h : fX4_toldOwner x1 x2 z = some o) : Met l yX4_toldOwner aX4_toldOwner ({ frames := 2, cells := 0, slots := 0, locals := 45 }) (pw_Pre D cy [.ref (q 0), .int x1, .int x2] (WM cy q th z sv sn sp bf ty gn hs) sz) (pw_I D o (WM cy q th z sv sn sp bf ty gn hs) (WM cy q th z sv sn sp bf ty gn hs) sz) 0 0 (va_A (WM cy q th z sv sn sp bf ty gn hs) sz) := by
  refine pw_met (cc := cX4_toldOwner) (maxL := 3) (ret := (some .int)) (by decide) rfl (Nat.le_of_ble_eq_true rfl) ?_
  intro p e s m args below meth c ls A hx hb hr hml hlk hts hown hAe hA hK hP hD hS hl
  have hl : lv_has ls 3 [(0, .ref (q 0)), (1, .int x1), (2, .int x2)] := hl
  generalize hQ : MQ below (pw_I D o (WM cy q th z sv sn sp bf ty gn hs) (WM cy q th z sv sn sp bf ty gn hs) sz) args s 0 0 (va_A (WM cy q th z sv sn sp bf ty gn hs) sz) = Q
  have hF : CallFix p m c cX4_toldOwner 3 s args aX4_toldOwner RX4 := ⟨hx, hb, hml, hown, hts⟩
  have hta : ∀ w ∈ pw_all, w.before args s = true := fun w h => hts w (List.mem_cons_of_mem _ h)
  have hin : ∀ w ∈ wsX40, w ∈ aX4_toldOwner := fun w h => List.mem_cons_of_mem _ (inA4 w h)
  unfold fX4_toldOwner at h
  refine lv_iload_n hx hb dX4_toldOwner_0 rfl (lv_at hl 2 rfl) ?_
  by_cases c1_ : x2 = 0
  · have h := pq_t c1_ h
    refine lv_tableIn (off := 31) (tgt := 32) hx hb dX4_toldOwner_1 (by rw [c1_]; decide) (by rw [c1_]; decide) (by rw [c1_]; decide) (by decide) ?_
    refine lv_aload_n hx hb dX4_toldOwner_32 rfl (lv_at hl 0 rfl) ?_
    refine lv_iload_n hx hb dX4_toldOwner_33 rfl (lv_at hl 1 rfl) ?_
    refine lv_iconst (v := 0) hx hb dX4_toldOwner_34 (by decide) ?_
    obtain ⟨r1, hr1, h⟩ := pq_b h
    refine pw_ci (w1 := WM cy q th z sv sn sp bf ty gn hs) (rest := []) (As := [.int x1, .int 0]) hF (kX4_its l D cy q _ th z sv sn sp bf ty gn hs x1 0 r1 hr1) (cwV 2 hts (pw_gV (own := RX4) (idx := 44) (C := RX4) (y := yX4_its) aw_740 aw_742 aw_s21 aw_6 aw_743) rfl rfl rfl pX4_its ⟨Nat.le_of_ble_eq_true rfl, Nat.le_of_ble_eq_true rfl⟩) (va_recv hK hP (ci := 4) (q0 := 0) rfl rfl) hK hP hD hS hA rfl rfl hl.1 rfl (Nat.le_of_ble_eq_true rfl) dX4_toldOwner_35 ⟨Nat.zero_le _, Nat.zero_le _⟩ (fun H locs hP hD hS => ?_)
    obtain rfl := Option.some.inj h
    subst hQ
    exact pw_ri hx hb hr hlk hAe hP hS rfl dX4_toldOwner_38
  · have h := pq_e c1_ h
    by_cases c2_ : x2 = 1
    · have h := pq_t c2_ h
      refine lv_tableIn (off := 38) (tgt := 39) hx hb dX4_toldOwner_1 (by rw [c2_]; decide) (by rw [c2_]; decide) (by rw [c2_]; decide) (by decide) ?_
      refine lv_aload_n hx hb dX4_toldOwner_39 rfl (lv_at hl 0 rfl) ?_
      refine lv_iload_n hx hb dX4_toldOwner_40 rfl (lv_at hl 1 rfl) ?_
      obtain ⟨r2, hr2, h⟩ := pq_b h
      refine pw_ci (w1 := WM cy q th z sv sn sp bf ty gn hs) (rest := []) (As := [.int x1]) hF (kX4_lentTo l D cy q _ th z sv sn sp bf ty gn hs x1 r2 hr2) (cwV 1 hts (pw_gV (own := RX4) (idx := 58) (C := RX4) (y := yX4_lentTo) aw_764 aw_766 aw_s27 aw_6 aw_767) rfl rfl rfl pX4_lentTo ⟨Nat.le_of_ble_eq_true rfl, Nat.le_of_ble_eq_true rfl⟩) (va_recv hK hP (ci := 4) (q0 := 0) rfl rfl) hK hP hD hS hA rfl rfl hl.1 rfl (Nat.le_of_ble_eq_true rfl) dX4_toldOwner_41 ⟨Nat.zero_le _, Nat.zero_le _⟩ (fun H locs hP hD hS => ?_)
      obtain rfl := Option.some.inj h
      subst hQ
      exact pw_ri hx hb hr hlk hAe hP hS rfl dX4_toldOwner_44
    · have h := pq_e c2_ h
      by_cases c3_ : x2 = 2
      · have h := pq_t c3_ h
        refine lv_tableIn (off := 44) (tgt := 45) hx hb dX4_toldOwner_1 (by rw [c3_]; decide) (by rw [c3_]; decide) (by rw [c3_]; decide) (by decide) ?_
        refine lv_aload_n hx hb dX4_toldOwner_45 rfl (lv_at hl 0 rfl) ?_
        refine lv_iload_n hx hb dX4_toldOwner_46 rfl (lv_at hl 1 rfl) ?_
        obtain ⟨r3, hr3, h⟩ := pq_b h
        refine pw_ci (w1 := WM cy q th z sv sn sp bf ty gn hs) (rest := []) (As := [.int x1]) hF (kX4_placeInQueue l D cy q _ th z sv sn sp bf ty gn hs x1 r3 hr3) (cwV 1 hts (pw_gV (own := RX4) (idx := 75) (C := RX4) (y := yX4_placeInQueue) aw_748 aw_750 aw_s23 aw_6 aw_751) rfl rfl rfl pX4_placeInQueue ⟨Nat.le_of_ble_eq_true rfl, Nat.le_of_ble_eq_true rfl⟩) (va_recv hK hP (ci := 4) (q0 := 0) rfl rfl) hK hP hD hS hA rfl rfl hl.1 rfl (Nat.le_of_ble_eq_true rfl) dX4_toldOwner_47 ⟨Nat.zero_le _, Nat.zero_le _⟩ (fun H locs hP hD hS => ?_)
        obtain rfl := Option.some.inj h
        subst hQ
        exact pw_ri hx hb hr hlk hAe hP hS rfl dX4_toldOwner_50
      · have h := pq_e c3_ h
        by_cases c4_ : x2 = 3
        · have h := pq_t c4_ h
          refine lv_tableIn (off := 50) (tgt := 51) hx hb dX4_toldOwner_1 (by rw [c4_]; decide) (by rw [c4_]; decide) (by rw [c4_]; decide) (by decide) ?_
          refine lv_aload_n hx hb dX4_toldOwner_51 rfl (lv_at hl 0 rfl) ?_
          refine lv_iload_n hx hb dX4_toldOwner_52 rfl (lv_at hl 1 rfl) ?_
          obtain ⟨r4, hr4, h⟩ := pq_b h
          refine pw_ci (w1 := WM cy q th z sv sn sp bf ty gn hs) (rest := []) (As := [.int x1]) hF (kX4_waits l D cy q _ th z sv sn sp bf ty gn hs x1 r4 hr4) (cwV 1 hts (pw_gV (own := RX4) (idx := 104) (C := RX4) (y := yX4_waits) aw_744 aw_746 aw_s22 aw_6 aw_747) rfl rfl rfl pX4_waits ⟨Nat.le_of_ble_eq_true rfl, Nat.le_of_ble_eq_true rfl⟩) (va_recv hK hP (ci := 4) (q0 := 0) rfl rfl) hK hP hD hS hA rfl rfl hl.1 rfl (Nat.le_of_ble_eq_true rfl) dX4_toldOwner_53 ⟨Nat.zero_le _, Nat.zero_le _⟩ (fun H locs hP hD hS => ?_)
          refine lv_if_eq (tgt := 67) hx hb dX4_toldOwner_56 (by decide) (fun c5_ => ?_) (fun c5_ => ?_)
          · have h := pq_t c5_ h
            refine lv_iconst (v := 0) hx hb dX4_toldOwner_67 (by decide) ?_
            obtain rfl := Option.some.inj h
            subst hQ
            exact pw_ri hx hb hr hlk hAe hP hS rfl dX4_toldOwner_68
          · have h := pq_e c5_ h
            refine lv_aload_n hx hb dX4_toldOwner_59 rfl (lv_at hl 0 rfl) ?_
            refine lv_iload_n hx hb dX4_toldOwner_60 rfl (lv_at hl 1 rfl) ?_
            obtain ⟨r5, hr5, h⟩ := pq_b h
            refine pw_ci (w1 := WM cy q th z sv sn sp bf ty gn hs) (rest := []) (As := [.int x1]) hF (kX4_waitedFor l D cy q _ th z sv sn sp bf ty gn hs x1 r5 hr5) (cwV 1 hts (pw_gV (own := RX4) (idx := 88) (C := RX4) (y := yX4_waitedFor) aw_812 aw_814 aw_s39 aw_6 aw_815) rfl rfl rfl pX4_waitedFor ⟨Nat.le_of_ble_eq_true rfl, Nat.le_of_ble_eq_true rfl⟩) (va_recv hK hP (ci := 4) (q0 := 0) rfl rfl) hK hP hD hS hA rfl rfl hl.1 rfl (Nat.le_of_ble_eq_true rfl) dX4_toldOwner_61 ⟨Nat.zero_le _, Nat.zero_le _⟩ (fun H locs hP hD hS => ?_)
            refine lv_goto (tgt := 68) hx hb dX4_toldOwner_64 (by decide) ?_
            obtain rfl := Option.some.inj h
            subst hQ
            exact pw_ri hx hb hr hlk hAe hP hS rfl dX4_toldOwner_68
        · have h := pq_e c4_ h
          refine lv_tableOut (tgt := 69) hx hb dX4_toldOwner_1 (pq_out 4 rfl (by decide) (fun k hk => match k, hk with | 0, _ => c1_ | 1, _ => c2_ | 2, _ => c3_ | 3, _ => c4_ | k + 4, hk => absurd hk (by omega))) (by decide) ?_
          refine lv_aload_n hx hb dX4_toldOwner_69 rfl (lv_at hl 0 rfl) ?_
          refine lv_iload_n hx hb dX4_toldOwner_70 rfl (lv_at hl 1 rfl) ?_
          refine lv_iload_n hx hb dX4_toldOwner_71 rfl (lv_at hl 2 rfl) ?_
          refine lv_iconst (v := 2) hx hb dX4_toldOwner_72 (by decide) ?_
          refine lv_isub hx hb dX4_toldOwner_73 ?_
          obtain ⟨r6, hr6, h⟩ := pq_b h
          refine pw_ci (w1 := WM cy q th z sv sn sp bf ty gn hs) (rest := []) (As := [.int x1, .int (x2 - 2)]) hF (kX4_its l D cy q _ th z sv sn sp bf ty gn hs x1 (x2 - 2) r6 hr6) (cwV 2 hts (pw_gV (own := RX4) (idx := 44) (C := RX4) (y := yX4_its) aw_740 aw_742 aw_s21 aw_6 aw_743) rfl rfl rfl pX4_its ⟨Nat.le_of_ble_eq_true rfl, Nat.le_of_ble_eq_true rfl⟩) (va_recv hK hP (ci := 4) (q0 := 0) rfl rfl) hK hP hD hS hA rfl rfl hl.1 rfl (Nat.le_of_ble_eq_true rfl) dX4_toldOwner_74 ⟨Nat.zero_le _, Nat.zero_le _⟩ (fun H locs hP hD hS => ?_)
          obtain rfl := Option.some.inj h
          subst hQ
          exact pw_ri hx hb hr hlk hAe hP hS rfl dX4_toldOwner_77

def aX4_owner : List Cond := Cond.code yX4_owner cX4_owner 3 (some .int) :: pw_all
theorem pX4_owner : yX4_owner.cls = RX4 ∧ yX4_owner.cls ≠ "java/lang/invoke/MethodHandle" ∧ yX4_owner.cls ≠ "java/lang/invoke/VarHandle" ∧ (parseMethodDescriptor yX4_owner.desc).map (fun d => d.parameters.length) = some 2 := by decide +kernel
set_option maxHeartbeats 8000000 in
set_option maxRecDepth 100000 in
theorem kX4_owner (l : Launch) (D : va_G) (cy : Nat → ClassId) (q : Nat → Nat) (sz : Nat) (th : Int32) (z : Nat → Int32) (sv : Nat → Int32) (sn : Int32) (sp : Nat → Int32) (bf : Nat → Int32) (ty : Int32) (gn : Nat → Int32) (hs : Int64) (x1 : Int32) (x2 : Int32) (o : Int32 × Int32) (h : fX4_owner x1 x2 th z = some o) : Met l yX4_owner aX4_owner ({ frames := 3, cells := 0, slots := 0, locals := 67 }) (pw_Pre D cy [.ref (q 0), .int x1, .int x2] (WM cy q th z sv sn sp bf ty gn hs) sz) (pw_I D o.1 (WM cy q th z sv sn sp bf ty gn hs) (WM cy q o.2 z sv sn sp bf ty gn hs) sz) 0 0 (va_A (WM cy q th z sv sn sp bf ty gn hs) sz) := by
  refine pw_met (cc := cX4_owner) (maxL := 3) (ret := (some .int)) (by decide) rfl (Nat.le_of_ble_eq_true rfl) ?_
  intro p e s m args below meth c ls A hx hb hr hml hlk hts hown hAe hA hK hP hD hS hl
  have hl : lv_has ls 3 [(0, .ref (q 0)), (1, .int x1), (2, .int x2)] := hl
  generalize hQ : MQ below (pw_I D o.1 (WM cy q th z sv sn sp bf ty gn hs) (WM cy q o.2 z sv sn sp bf ty gn hs) sz) args s 0 0 (va_A (WM cy q th z sv sn sp bf ty gn hs) sz) = Q
  have hF : CallFix p m c cX4_owner 3 s args aX4_owner RX4 := ⟨hx, hb, hml, hown, hts⟩
  have hta : ∀ w ∈ pw_all, w.before args s = true := fun w h => hts w (List.mem_cons_of_mem _ h)
  have hin : ∀ w ∈ wsX40, w ∈ aX4_owner := fun w h => List.mem_cons_of_mem _ (inA4 w h)
  unfold fX4_owner at h
  refine lv_aload_n hx hb dX4_owner_0 rfl (lv_at hl 0 rfl) ?_
  refine lv_iload_n hx hb dX4_owner_1 rfl (lv_at hl 1 rfl) ?_
  obtain ⟨r1, hr1, h⟩ := pq_b h
  refine pw_si (rest := [.ref (q 0)]) (As := [.int x1]) hF (kX4_isOwner l D cy _ x1 r1 hr1) (cwS 1 hts (pw_gS (own := RX4) (idx := 116) (y := yX4_isOwner) aw_726 aw_727 aw_6 aw_728) rfl rfl rfl pX4_isOwner ⟨Nat.le_of_ble_eq_true rfl, Nat.le_of_ble_eq_true rfl⟩) hK hP hS hA rfl hl.1 rfl (Nat.le_of_ble_eq_true rfl) dX4_owner_2 ⟨Nat.zero_le _, Nat.zero_le _⟩ (fun H locs hP hS => ?_)
  obtain ⟨v2, hv2, h⟩ := pq_b h
  have J27_v2 : ∀ (H : Heap) (locs : List Loc) (ls : Array Slot), va_P D vwCl (WM cy q th z sv sn sp bf ty gn hs) H → va_D A (WM cy q th z sv sn sp bf ty gn hs) → va_S A s.heap H locs → lv_has ls 3 [(0, .ref (q 0)), (1, .int x1), (2, .int x2)] → W p l e ({ frames := 3, cells := 0, slots := 0, locals := 67 } : Room) s m args below meth c H locs 0 0 Q (F0 m 27 ls [.int v2, .ref (q 0)]) := by
    intro H locs ls hP hD hS hl
    refine va_put (D := D) (ci := 4) (v := .int v2) (ty := .int) (C := RX4) (T := TX4) (N := 9) hx hb hts hin tyX4 tyX4_ok nmX4 hown hK hP hD hS 0 rfl rfl 0 (by decide) (hta _ aw_686) (fun _ h9 => h9) rfl (by decide +kernel) rfl rfl (Nat.le_of_ble_eq_true rfl) dX4_owner_27 (fun H locs hP hD hS => ?_)
    have hP : va_P D vwCl (WM cy q v2 z sv sn sp bf ty gn hs) H := hP
    have hD : va_D A (WM cy q v2 z sv sn sp bf ty gn hs) := hD
    refine lv_aload_n hx hb dX4_owner_30 rfl (lv_at hl 0 rfl) ?_
    refine va_get (D := D) (ci := 4) (v := .int v2) (C := RX4) (T := TX4) (N := 9) hx hb hts hin hown hK hP 0 rfl rfl 0 (by decide) (hta _ aw_686) (fun _ h9 => h9) rfl dX4_owner_31 ?_
    refine lv_if_le (tgt := 41) hx hb dX4_owner_34 (by decide) (fun c3_ => ?_) (fun c3_ => ?_)
    · have h := pq_t c3_ h
      refine lv_aload_n hx hb dX4_owner_41 rfl (lv_at hl 0 rfl) ?_
      refine lv_iload_n hx hb dX4_owner_42 rfl (lv_at hl 1 rfl) ?_
      refine lv_iload_n hx hb dX4_owner_43 rfl (lv_at hl 2 rfl) ?_
      obtain ⟨r4, hr4, h⟩ := pq_b h
      refine pw_ci (w1 := WM cy q v2 z sv sn sp bf ty gn hs) (rest := []) (As := [.int x1, .int x2]) hF (kX4_toldOwner l D cy q _ v2 z sv sn sp bf ty gn hs x1 x2 r4 hr4) (cwV 2 hts (pw_gV (own := RX4) (idx := 168) (C := RX4) (y := yX4_toldOwner) aw_933 aw_935 aw_s53 aw_6 aw_936) rfl rfl rfl pX4_toldOwner ⟨Nat.le_of_ble_eq_true rfl, Nat.le_of_ble_eq_true rfl⟩) (va_recv hK hP (ci := 4) (q0 := 0) rfl rfl) hK hP hD hS hA rfl rfl hl.1 rfl (Nat.le_of_ble_eq_true rfl) dX4_owner_44 ⟨Nat.zero_le _, Nat.zero_le _⟩ (fun H locs hP hD hS => ?_)
      obtain rfl := Option.some.inj h
      subst hQ
      exact pw_ri hx hb hr hlk hAe hP hS rfl dX4_owner_47
    · have h := pq_e c3_ h
      refine lv_iconst (v := 0) hx hb dX4_owner_37 (by decide) ?_
      refine lv_goto (tgt := 47) hx hb dX4_owner_38 (by decide) ?_
      obtain rfl := Option.some.inj h
      subst hQ
      exact pw_ri hx hb hr hlk hAe hP hS rfl dX4_owner_47
  clear h
  have h := hv2
  clear hv2
  refine lv_if_ne (tgt := 12) hx hb dX4_owner_5 (by decide) (fun c1_ => ?_) (fun c1_ => ?_)
  · have h := pq_e c1_ h
    refine lv_iload_n hx hb dX4_owner_12 rfl (lv_at hl 2 rfl) ?_
    refine lv_iconst (v := 0) hx hb dX4_owner_13 (by decide) ?_
    refine lv_bipush (v := 6) hx hb dX4_owner_14 (by decide) ?_
    obtain ⟨r3, hr3, h⟩ := pq_b h
    refine pw_si (rest := [.ref (q 0)]) (As := [.int x2, .int 0, .int 6]) hF (kX4_in l D cy _ x2 0 6 r3 hr3) (cwS 3 hts (pw_gS (own := RX4) (idx := 36) (y := yX4_in) aw_729 aw_730 aw_6 aw_731) rfl rfl rfl pX4_in ⟨Nat.le_of_ble_eq_true rfl, Nat.le_of_ble_eq_true rfl⟩) hK hP hS hA rfl hl.1 rfl (Nat.le_of_ble_eq_true rfl) dX4_owner_16 ⟨Nat.zero_le _, Nat.zero_le _⟩ (fun H locs hP hS => ?_)
    refine lv_if_eq (tgt := 26) hx hb dX4_owner_19 (by decide) (fun c2_ => ?_) (fun c2_ => ?_)
    · have h := pq_t c2_ h
      refine lv_iconst (v := 2) hx hb dX4_owner_26 (by decide) ?_
      obtain rfl := Option.some.inj h
      exact J27_v2 _ _ _ hP hD hS (lv_sub hl [0, 1, 2] rfl)
    · have h := pq_e c2_ h
      refine lv_iconst (v := 0) hx hb dX4_owner_22 (by decide) ?_
      refine lv_goto (tgt := 27) hx hb dX4_owner_23 (by decide) ?_
      obtain rfl := Option.some.inj h
      exact J27_v2 _ _ _ hP hD hS (lv_sub hl [0, 1, 2] rfl)
  · have h := pq_t c1_ h
    refine lv_iconst (v := 1) hx hb dX4_owner_8 (by decide) ?_
    refine lv_goto (tgt := 27) hx hb dX4_owner_9 (by decide) ?_
    obtain rfl := Option.some.inj h
    exact J27_v2 _ _ _ hP hD hS (lv_sub hl [0, 1, 2] rfl)

def aX4_sick : List Cond := Cond.code yX4_sick cX4_sick 3 (some .int) :: pw_all
theorem pX4_sick : yX4_sick.cls = RX4 ∧ yX4_sick.cls ≠ "java/lang/invoke/MethodHandle" ∧ yX4_sick.cls ≠ "java/lang/invoke/VarHandle" ∧ (parseMethodDescriptor yX4_sick.desc).map (fun d => d.parameters.length) = some 0 := by decide +kernel
set_option maxHeartbeats 8000000 in
set_option maxRecDepth 100000 in
theorem kX4_sick (l : Launch) (D : va_G) (cy : Nat → ClassId) (q : Nat → Nat) (sz : Nat) (th : Int32) (z : Nat → Int32) (sv : Nat → Int32) (sn : Int32) (sp : Nat → Int32) (bf : Nat → Int32) (ty : Int32) (gn : Nat → Int32) (hs : Int64)  (o : Int32) (h : fX4_sick z = some o) : Met l yX4_sick aX4_sick ({ frames := 1, cells := 0, slots := 0, locals := 22 }) (pw_Pre D cy [.ref (q 0)] (WM cy q th z sv sn sp bf ty gn hs) sz) (pw_I D o (WM cy q th z sv sn sp bf ty gn hs) (WM cy q th z sv sn sp bf ty gn hs) sz) 0 0 (va_A (WM cy q th z sv sn sp bf ty gn hs) sz) := by
  refine pw_met (cc := cX4_sick) (maxL := 3) (ret := (some .int)) (by decide) rfl (Nat.le_of_ble_eq_true rfl) ?_
  intro p e s m args below meth c ls A hx hb hr hml hlk hts hown hAe hA hK hP hD hS hl
  have hl : lv_has ls 3 [(0, .ref (q 0))] := hl
  generalize hQ : MQ below (pw_I D o (WM cy q th z sv sn sp bf ty gn hs) (WM cy q th z sv sn sp bf ty gn hs) sz) args s 0 0 (va_A (WM cy q th z sv sn sp bf ty gn hs) sz) = Q
  have hF : CallFix p m c cX4_sick 3 s args aX4_sick RX4 := ⟨hx, hb, hml, hown, hts⟩
  have hta : ∀ w ∈ pw_all, w.before args s = true := fun w h => hts w (List.mem_cons_of_mem _ h)
  have hin : ∀ w ∈ wsX40, w ∈ aX4_sick := fun w h => List.mem_cons_of_mem _ (inA4 w h)
  unfold fX4_sick at h
  refine lv_iconst (v := 0) hx hb dX4_sick_0 (by decide) ?_
  refine lv_istore_n (lv' := [(1, .int 0), (0, .ref (q 0))]) hx hb dX4_sick_1 rfl hl (by decide) rfl (fun ls hl => ?_)
  refine lv_iconst (v := 0) hx hb dX4_sick_2 (by decide) ?_
  refine lv_istore_n (lv' := [(2, .int 0), (1, .int 0), (0, .ref (q 0))]) hx hb dX4_sick_3 rfl hl (by decide) rfl (fun ls hl => ?_)
  have L4_n1 : ∀ (n : Nat) (x1_4 : Int32) (x2_4 : Int32) (H : Heap) (locs : List Loc) (ls : Array Slot), fX4_sick_L4 z n x1_4 x2_4 = some o → va_P D vwCl (WM cy q th z sv sn sp bf ty gn hs) H → va_D A (WM cy q th z sv sn sp bf ty gn hs) → va_S A s.heap H locs → lv_has ls 3 [(0, .ref (q 0)), (1, .int x1_4), (2, .int x2_4)] → W p l e ({ frames := 1, cells := 0, slots := 0, locals := 22 } : Room) s m args below meth c H locs 0 0 Q (F0 m 4 ls []) := by
    intro n
    induction n with
    | zero =>
      intro x1_4 x2_4 H locs ls h hP hD hS hl
      exact pq_n h
    | succ n ih4 =>
      intro x1_4 x2_4 H locs ls h hP hD hS hl
      rw [fX4_sick_L4] at h
      refine lv_iload_n hx hb dX4_sick_4 rfl (lv_at hl 2 rfl) ?_
      refine lv_bipush (v := 8) hx hb dX4_sick_5 (by decide) ?_
      refine lv_icmp_ge (tgt := 25) hx hb dX4_sick_7 (by decide) (fun c1_ => ?_) (fun c1_ => ?_)
      · have h := pq_t c1_ h
        refine lv_iload_n hx hb dX4_sick_25 rfl (lv_at hl 1 rfl) ?_
        obtain rfl := Option.some.inj h
        subst hQ
        exact pw_ri hx hb hr hlk hAe hP hS rfl dX4_sick_26
      · have h := pq_e c1_ h
        refine lv_iload_n hx hb dX4_sick_10 rfl (lv_at hl 1 rfl) ?_
        refine lv_aload_n hx hb dX4_sick_11 rfl (lv_at hl 0 rfl) ?_
        refine lv_iload_n hx hb dX4_sick_12 rfl (lv_at hl 2 rfl) ?_
        refine lv_iconst (v := 2) hx hb dX4_sick_13 (by decide) ?_
        obtain ⟨r2, hr2, h⟩ := pq_b h
        refine pw_ci (w1 := WM cy q th z sv sn sp bf ty gn hs) (rest := [.int x1_4]) (As := [.int x2_4, .int 2]) hF (kX4_of l D cy q _ th z sv sn sp bf ty gn hs x2_4 2 r2 hr2) (cwV 2 hts (pw_gV (own := RX4) (idx := 40) (C := RX4) (y := yX4_of) aw_768 aw_770 aw_s28 aw_6 aw_771) rfl rfl rfl pX4_of ⟨Nat.le_of_ble_eq_true rfl, Nat.le_of_ble_eq_true rfl⟩) (va_recv hK hP (ci := 4) (q0 := 0) rfl rfl) hK hP hD hS hA rfl rfl hl.1 rfl (Nat.le_of_ble_eq_true rfl) dX4_sick_14 ⟨Nat.zero_le _, Nat.zero_le _⟩ (fun H locs hP hD hS => ?_)
        refine lv_iadd hx hb dX4_sick_17 ?_
        refine lv_istore_n (lv' := [(1, .int (x1_4 + r2)), (0, .ref (q 0)), (2, .int x2_4)]) hx hb dX4_sick_18 rfl hl (by decide) rfl (fun ls hl => ?_)
        refine lv_iinc (v := x2_4 + 1) (lv' := [(2, .int (x2_4 + 1)), (1, .int (x1_4 + r2)), (0, .ref (q 0))]) hx hb dX4_sick_19 hl (k := 2) rfl (by first | rfl | decide) (by decide) rfl (fun ls hl => ?_)
        refine lv_goto (tgt := 4) hx hb dX4_sick_22 (by decide) ?_
        exact ih4 (x1_4 + r2) (x2_4 + 1) _ _ _ h hP hD hS (lv_sub hl [2, 1, 0] rfl)
  exact L4_n1 1000 0 0 _ _ _ h hP hD hS (lv_sub hl [2, 1, 0] rfl)

def aX4_counted : List Cond := Cond.code yX4_counted cX4_counted 2 (some .int) :: pw_all
theorem pX4_counted : yX4_counted.cls = RX4 ∧ yX4_counted.cls ≠ "java/lang/invoke/MethodHandle" ∧ yX4_counted.cls ≠ "java/lang/invoke/VarHandle" ∧ (parseMethodDescriptor yX4_counted.desc).map (fun d => d.parameters.length) = some 1 := by decide +kernel
set_option maxHeartbeats 8000000 in
set_option maxRecDepth 100000 in
theorem kX4_counted (l : Launch) (D : va_G) (cy : Nat → ClassId) (q : Nat → Nat) (sz : Nat) (th : Int32) (z : Nat → Int32) (sv : Nat → Int32) (sn : Int32) (sp : Nat → Int32) (bf : Nat → Int32) (ty : Int32) (gn : Nat → Int32) (hs : Int64) (x1 : Int32) (o : Int32) (h : fX4_counted x1 z sn = some o) : Met l yX4_counted aX4_counted ({ frames := 4, cells := 0, slots := 0, locals := 87 }) (pw_Pre D cy [.ref (q 0), .int x1] (WM cy q th z sv sn sp bf ty gn hs) sz) (pw_I D o (WM cy q th z sv sn sp bf ty gn hs) (WM cy q th z sv sn sp bf ty gn hs) sz) 0 0 (va_A (WM cy q th z sv sn sp bf ty gn hs) sz) := by
  refine pw_met (cc := cX4_counted) (maxL := 2) (ret := (some .int)) (by decide) rfl (Nat.le_of_ble_eq_true rfl) ?_
  intro p e s m args below meth c ls A hx hb hr hml hlk hts hown hAe hA hK hP hD hS hl
  have hl : lv_has ls 2 [(0, .ref (q 0)), (1, .int x1)] := hl
  generalize hQ : MQ below (pw_I D o (WM cy q th z sv sn sp bf ty gn hs) (WM cy q th z sv sn sp bf ty gn hs) sz) args s 0 0 (va_A (WM cy q th z sv sn sp bf ty gn hs) sz) = Q
  have hF : CallFix p m c cX4_counted 2 s args aX4_counted RX4 := ⟨hx, hb, hml, hown, hts⟩
  have hta : ∀ w ∈ pw_all, w.before args s = true := fun w h => hts w (List.mem_cons_of_mem _ h)
  have hin : ∀ w ∈ wsX40, w ∈ aX4_counted := fun w h => List.mem_cons_of_mem _ (inA4 w h)
  unfold fX4_counted at h
  refine lv_iload_n hx hb dX4_counted_0 rfl (lv_at hl 1 rfl) ?_
  by_cases c1_ : x1 = 0
  · have h := pq_t c1_ h
    refine lv_tableIn (off := 71) (tgt := 72) hx hb dX4_counted_1 (by rw [c1_]; decide) (by rw [c1_]; decide) (by rw [c1_]; decide) (by decide) ?_
    refine lv_aload_n hx hb dX4_counted_72 rfl (lv_at hl 0 rfl) ?_
    refine va_get (D := D) (ci := 4) (v := .ref (q 1)) (C := RX4) (T := TX4) (N := 9) hx hb hts hin hown hK hP 0 rfl rfl 1 (by decide) (hta _ aw_687) (fun _ h9 => h9) rfl dX4_counted_73 ?_
    refine lv_bipush (v := 9) hx hb dX4_counted_76 (by decide) ?_
    refine va_iald hx hb hK hP 1 0 rfl rfl (pq_vp (by decide +kernel)) dX4_counted_78 ?_
    obtain rfl := Option.some.inj h
    subst hQ
    exact pw_ri hx hb hr hlk hAe hP hS rfl dX4_counted_79
  · have h := pq_e c1_ h
    by_cases c2_ : x1 = 1
    · have h := pq_t c2_ h
      refine lv_tableIn (off := 79) (tgt := 80) hx hb dX4_counted_1 (by rw [c2_]; decide) (by rw [c2_]; decide) (by rw [c2_]; decide) (by decide) ?_
      refine lv_aload_n hx hb dX4_counted_80 rfl (lv_at hl 0 rfl) ?_
      obtain ⟨r1, hr1, h⟩ := pq_b h
      refine pw_ci (w1 := WM cy q th z sv sn sp bf ty gn hs) (rest := []) (As := []) hF (kX4_connections l D cy q _ th z sv sn sp bf ty gn hs  r1 hr1) (cwV 0 hts (pw_gV (own := RX4) (idx := 69) (C := RX4) (y := yX4_connections) aw_788 aw_790 aw_s33 aw_6 aw_791) rfl rfl rfl pX4_connections ⟨Nat.le_of_ble_eq_true rfl, Nat.le_of_ble_eq_true rfl⟩) (va_recv hK hP (ci := 4) (q0 := 0) rfl rfl) hK hP hD hS hA rfl rfl hl.1 rfl (Nat.le_of_ble_eq_true rfl) dX4_counted_81 ⟨Nat.zero_le _, Nat.zero_le _⟩ (fun H locs hP hD hS => ?_)
      obtain rfl := Option.some.inj h
      subst hQ
      exact pw_ri hx hb hr hlk hAe hP hS rfl dX4_counted_84
    · have h := pq_e c2_ h
      by_cases c3_ : x1 = 2
      · have h := pq_t c3_ h
        refine lv_tableIn (off := 84) (tgt := 85) hx hb dX4_counted_1 (by rw [c3_]; decide) (by rw [c3_]; decide) (by rw [c3_]; decide) (by decide) ?_
        refine lv_aload_n hx hb dX4_counted_85 rfl (lv_at hl 0 rfl) ?_
        refine lv_iconst (v := 1) hx hb dX4_counted_86 (by decide) ?_
        obtain ⟨r2, hr2, h⟩ := pq_b h
        refine pw_ci (w1 := WM cy q th z sv sn sp bf ty gn hs) (rest := []) (As := [.int 1]) hF (kX4_manyIn l D cy q _ th z sv sn sp bf ty gn hs 1 r2 hr2) (cwV 1 hts (pw_gV (own := RX4) (idx := 54) (C := RX4) (y := yX4_manyIn) aw_792 aw_794 aw_s34 aw_6 aw_795) rfl rfl rfl pX4_manyIn ⟨Nat.le_of_ble_eq_true rfl, Nat.le_of_ble_eq_true rfl⟩) (va_recv hK hP (ci := 4) (q0 := 0) rfl rfl) hK hP hD hS hA rfl rfl hl.1 rfl (Nat.le_of_ble_eq_true rfl) dX4_counted_87 ⟨Nat.zero_le _, Nat.zero_le _⟩ (fun H locs hP hD hS => ?_)
        obtain rfl := Option.some.inj h
        subst hQ
        exact pw_ri hx hb hr hlk hAe hP hS rfl dX4_counted_90
      · have h := pq_e c3_ h
        by_cases c4_ : x1 = 3
        · have h := pq_t c4_ h
          refine lv_tableIn (off := 90) (tgt := 91) hx hb dX4_counted_1 (by rw [c4_]; decide) (by rw [c4_]; decide) (by rw [c4_]; decide) (by decide) ?_
          refine lv_aload_n hx hb dX4_counted_91 rfl (lv_at hl 0 rfl) ?_
          refine lv_iconst (v := 2) hx hb dX4_counted_92 (by decide) ?_
          obtain ⟨r3, hr3, h⟩ := pq_b h
          refine pw_ci (w1 := WM cy q th z sv sn sp bf ty gn hs) (rest := []) (As := [.int 2]) hF (kX4_manyIn l D cy q _ th z sv sn sp bf ty gn hs 2 r3 hr3) (cwV 1 hts (pw_gV (own := RX4) (idx := 54) (C := RX4) (y := yX4_manyIn) aw_792 aw_794 aw_s34 aw_6 aw_795) rfl rfl rfl pX4_manyIn ⟨Nat.le_of_ble_eq_true rfl, Nat.le_of_ble_eq_true rfl⟩) (va_recv hK hP (ci := 4) (q0 := 0) rfl rfl) hK hP hD hS hA rfl rfl hl.1 rfl (Nat.le_of_ble_eq_true rfl) dX4_counted_93 ⟨Nat.zero_le _, Nat.zero_le _⟩ (fun H locs hP hD hS => ?_)
          obtain rfl := Option.some.inj h
          subst hQ
          exact pw_ri hx hb hr hlk hAe hP hS rfl dX4_counted_96
        · have h := pq_e c4_ h
          by_cases c5_ : x1 = 4
          · have h := pq_t c5_ h
            refine lv_tableIn (off := 96) (tgt := 97) hx hb dX4_counted_1 (by rw [c5_]; decide) (by rw [c5_]; decide) (by rw [c5_]; decide) (by decide) ?_
            refine lv_aload_n hx hb dX4_counted_97 rfl (lv_at hl 0 rfl) ?_
            obtain ⟨r4, hr4, h⟩ := pq_b h
            refine pw_ci (w1 := WM cy q th z sv sn sp bf ty gn hs) (rest := []) (As := []) hF (kX4_sick l D cy q _ th z sv sn sp bf ty gn hs  r4 hr4) (cwV 0 hts (pw_gV (own := RX4) (idx := 171) (C := RX4) (y := yX4_sick) aw_945 aw_947 aw_s55 aw_6 aw_948) rfl rfl rfl pX4_sick ⟨Nat.le_of_ble_eq_true rfl, Nat.le_of_ble_eq_true rfl⟩) (va_recv hK hP (ci := 4) (q0 := 0) rfl rfl) hK hP hD hS hA rfl rfl hl.1 rfl (Nat.le_of_ble_eq_true rfl) dX4_counted_98 ⟨Nat.zero_le _, Nat.zero_le _⟩ (fun H locs hP hD hS => ?_)
            obtain rfl := Option.some.inj h
            subst hQ
            exact pw_ri hx hb hr hlk hAe hP hS rfl dX4_counted_101
          · have h := pq_e c5_ h
            by_cases c6_ : x1 = 5
            · have h := pq_t c6_ h
              refine lv_tableIn (off := 101) (tgt := 102) hx hb dX4_counted_1 (by rw [c6_]; decide) (by rw [c6_]; decide) (by rw [c6_]; decide) (by decide) ?_
              refine lv_aload_n hx hb dX4_counted_102 rfl (lv_at hl 0 rfl) ?_
              refine va_get (D := D) (ci := 4) (v := .ref (q 1)) (C := RX4) (T := TX4) (N := 9) hx hb hts hin hown hK hP 0 rfl rfl 1 (by decide) (hta _ aw_687) (fun _ h9 => h9) rfl dX4_counted_103 ?_
              refine lv_bipush (v := 17) hx hb dX4_counted_106 (by decide) ?_
              refine va_iald hx hb hK hP 1 0 rfl rfl (pq_vp (by decide +kernel)) dX4_counted_108 ?_
              obtain rfl := Option.some.inj h
              subst hQ
              exact pw_ri hx hb hr hlk hAe hP hS rfl dX4_counted_109
            · have h := pq_e c6_ h
              by_cases c7_ : x1 = 6
              · have h := pq_t c7_ h
                refine lv_tableIn (off := 114) (tgt := 115) hx hb dX4_counted_1 (by rw [c7_]; decide) (by rw [c7_]; decide) (by rw [c7_]; decide) (by decide) ?_
                refine lv_aload_n hx hb dX4_counted_115 rfl (lv_at hl 0 rfl) ?_
                refine va_get (D := D) (ci := 4) (v := .ref (q 1)) (C := RX4) (T := TX4) (N := 9) hx hb hts hin hown hK hP 0 rfl rfl 1 (by decide) (hta _ aw_687) (fun _ h9 => h9) rfl dX4_counted_116 ?_
                refine lv_bipush (v := 10) hx hb dX4_counted_119 (by decide) ?_
                refine lv_iload_n hx hb dX4_counted_121 rfl (lv_at hl 1 rfl) ?_
                refine lv_iadd hx hb dX4_counted_122 ?_
                refine lv_bipush (v := 6) hx hb dX4_counted_123 (by decide) ?_
                refine lv_isub hx hb dX4_counted_125 ?_
                obtain ⟨hg, h⟩ := pq_g h
                refine va_iald hx hb hK hP 1 0 rfl rfl (pq_vp hg) dX4_counted_126 ?_
                obtain rfl := Option.some.inj h
                subst hQ
                exact pw_ri hx hb hr hlk hAe hP hS rfl dX4_counted_127
              · have h := pq_e c7_ h
                by_cases c8_ : x1 = 7
                · have h := pq_t c8_ h
                  refine lv_tableIn (off := 114) (tgt := 115) hx hb dX4_counted_1 (by rw [c8_]; decide) (by rw [c8_]; decide) (by rw [c8_]; decide) (by decide) ?_
                  refine lv_aload_n hx hb dX4_counted_115 rfl (lv_at hl 0 rfl) ?_
                  refine va_get (D := D) (ci := 4) (v := .ref (q 1)) (C := RX4) (T := TX4) (N := 9) hx hb hts hin hown hK hP 0 rfl rfl 1 (by decide) (hta _ aw_687) (fun _ h9 => h9) rfl dX4_counted_116 ?_
                  refine lv_bipush (v := 10) hx hb dX4_counted_119 (by decide) ?_
                  refine lv_iload_n hx hb dX4_counted_121 rfl (lv_at hl 1 rfl) ?_
                  refine lv_iadd hx hb dX4_counted_122 ?_
                  refine lv_bipush (v := 6) hx hb dX4_counted_123 (by decide) ?_
                  refine lv_isub hx hb dX4_counted_125 ?_
                  obtain ⟨hg, h⟩ := pq_g h
                  refine va_iald hx hb hK hP 1 0 rfl rfl (pq_vp hg) dX4_counted_126 ?_
                  obtain rfl := Option.some.inj h
                  subst hQ
                  exact pw_ri hx hb hr hlk hAe hP hS rfl dX4_counted_127
                · have h := pq_e c8_ h
                  by_cases c9_ : x1 = 8
                  · have h := pq_t c9_ h
                    refine lv_tableIn (off := 114) (tgt := 115) hx hb dX4_counted_1 (by rw [c9_]; decide) (by rw [c9_]; decide) (by rw [c9_]; decide) (by decide) ?_
                    refine lv_aload_n hx hb dX4_counted_115 rfl (lv_at hl 0 rfl) ?_
                    refine va_get (D := D) (ci := 4) (v := .ref (q 1)) (C := RX4) (T := TX4) (N := 9) hx hb hts hin hown hK hP 0 rfl rfl 1 (by decide) (hta _ aw_687) (fun _ h9 => h9) rfl dX4_counted_116 ?_
                    refine lv_bipush (v := 10) hx hb dX4_counted_119 (by decide) ?_
                    refine lv_iload_n hx hb dX4_counted_121 rfl (lv_at hl 1 rfl) ?_
                    refine lv_iadd hx hb dX4_counted_122 ?_
                    refine lv_bipush (v := 6) hx hb dX4_counted_123 (by decide) ?_
                    refine lv_isub hx hb dX4_counted_125 ?_
                    obtain ⟨hg, h⟩ := pq_g h
                    refine va_iald hx hb hK hP 1 0 rfl rfl (pq_vp hg) dX4_counted_126 ?_
                    obtain rfl := Option.some.inj h
                    subst hQ
                    exact pw_ri hx hb hr hlk hAe hP hS rfl dX4_counted_127
                  · have h := pq_e c9_ h
                    by_cases c10_ : x1 = 9
                    · have h := pq_t c10_ h
                      refine lv_tableIn (off := 114) (tgt := 115) hx hb dX4_counted_1 (by rw [c10_]; decide) (by rw [c10_]; decide) (by rw [c10_]; decide) (by decide) ?_
                      refine lv_aload_n hx hb dX4_counted_115 rfl (lv_at hl 0 rfl) ?_
                      refine va_get (D := D) (ci := 4) (v := .ref (q 1)) (C := RX4) (T := TX4) (N := 9) hx hb hts hin hown hK hP 0 rfl rfl 1 (by decide) (hta _ aw_687) (fun _ h9 => h9) rfl dX4_counted_116 ?_
                      refine lv_bipush (v := 10) hx hb dX4_counted_119 (by decide) ?_
                      refine lv_iload_n hx hb dX4_counted_121 rfl (lv_at hl 1 rfl) ?_
                      refine lv_iadd hx hb dX4_counted_122 ?_
                      refine lv_bipush (v := 6) hx hb dX4_counted_123 (by decide) ?_
                      refine lv_isub hx hb dX4_counted_125 ?_
                      obtain ⟨hg, h⟩ := pq_g h
                      refine va_iald hx hb hK hP 1 0 rfl rfl (pq_vp hg) dX4_counted_126 ?_
                      obtain rfl := Option.some.inj h
                      subst hQ
                      exact pw_ri hx hb hr hlk hAe hP hS rfl dX4_counted_127
                    · have h := pq_e c10_ h
                      by_cases c11_ : x1 = 10
                      · have h := pq_t c11_ h
                        refine lv_tableIn (off := 114) (tgt := 115) hx hb dX4_counted_1 (by rw [c11_]; decide) (by rw [c11_]; decide) (by rw [c11_]; decide) (by decide) ?_
                        refine lv_aload_n hx hb dX4_counted_115 rfl (lv_at hl 0 rfl) ?_
                        refine va_get (D := D) (ci := 4) (v := .ref (q 1)) (C := RX4) (T := TX4) (N := 9) hx hb hts hin hown hK hP 0 rfl rfl 1 (by decide) (hta _ aw_687) (fun _ h9 => h9) rfl dX4_counted_116 ?_
                        refine lv_bipush (v := 10) hx hb dX4_counted_119 (by decide) ?_
                        refine lv_iload_n hx hb dX4_counted_121 rfl (lv_at hl 1 rfl) ?_
                        refine lv_iadd hx hb dX4_counted_122 ?_
                        refine lv_bipush (v := 6) hx hb dX4_counted_123 (by decide) ?_
                        refine lv_isub hx hb dX4_counted_125 ?_
                        obtain ⟨hg, h⟩ := pq_g h
                        refine va_iald hx hb hK hP 1 0 rfl rfl (pq_vp hg) dX4_counted_126 ?_
                        obtain rfl := Option.some.inj h
                        subst hQ
                        exact pw_ri hx hb hr hlk hAe hP hS rfl dX4_counted_127
                      · have h := pq_e c11_ h
                        by_cases c12_ : x1 = 11
                        · have h := pq_t c12_ h
                          refine lv_tableIn (off := 114) (tgt := 115) hx hb dX4_counted_1 (by rw [c12_]; decide) (by rw [c12_]; decide) (by rw [c12_]; decide) (by decide) ?_
                          refine lv_aload_n hx hb dX4_counted_115 rfl (lv_at hl 0 rfl) ?_
                          refine va_get (D := D) (ci := 4) (v := .ref (q 1)) (C := RX4) (T := TX4) (N := 9) hx hb hts hin hown hK hP 0 rfl rfl 1 (by decide) (hta _ aw_687) (fun _ h9 => h9) rfl dX4_counted_116 ?_
                          refine lv_bipush (v := 10) hx hb dX4_counted_119 (by decide) ?_
                          refine lv_iload_n hx hb dX4_counted_121 rfl (lv_at hl 1 rfl) ?_
                          refine lv_iadd hx hb dX4_counted_122 ?_
                          refine lv_bipush (v := 6) hx hb dX4_counted_123 (by decide) ?_
                          refine lv_isub hx hb dX4_counted_125 ?_
                          obtain ⟨hg, h⟩ := pq_g h
                          refine va_iald hx hb hK hP 1 0 rfl rfl (pq_vp hg) dX4_counted_126 ?_
                          obtain rfl := Option.some.inj h
                          subst hQ
                          exact pw_ri hx hb hr hlk hAe hP hS rfl dX4_counted_127
                        · have h := pq_e c12_ h
                          by_cases c13_ : x1 = 12
                          · have h := pq_t c13_ h
                            refine lv_tableIn (off := 114) (tgt := 115) hx hb dX4_counted_1 (by rw [c13_]; decide) (by rw [c13_]; decide) (by rw [c13_]; decide) (by decide) ?_
                            refine lv_aload_n hx hb dX4_counted_115 rfl (lv_at hl 0 rfl) ?_
                            refine va_get (D := D) (ci := 4) (v := .ref (q 1)) (C := RX4) (T := TX4) (N := 9) hx hb hts hin hown hK hP 0 rfl rfl 1 (by decide) (hta _ aw_687) (fun _ h9 => h9) rfl dX4_counted_116 ?_
                            refine lv_bipush (v := 10) hx hb dX4_counted_119 (by decide) ?_
                            refine lv_iload_n hx hb dX4_counted_121 rfl (lv_at hl 1 rfl) ?_
                            refine lv_iadd hx hb dX4_counted_122 ?_
                            refine lv_bipush (v := 6) hx hb dX4_counted_123 (by decide) ?_
                            refine lv_isub hx hb dX4_counted_125 ?_
                            obtain ⟨hg, h⟩ := pq_g h
                            refine va_iald hx hb hK hP 1 0 rfl rfl (pq_vp hg) dX4_counted_126 ?_
                            obtain rfl := Option.some.inj h
                            subst hQ
                            exact pw_ri hx hb hr hlk hAe hP hS rfl dX4_counted_127
                          · have h := pq_e c13_ h
                            by_cases c14_ : x1 = 13
                            · have h := pq_t c14_ h
                              refine lv_tableIn (off := 109) (tgt := 110) hx hb dX4_counted_1 (by rw [c14_]; decide) (by rw [c14_]; decide) (by rw [c14_]; decide) (by decide) ?_
                              refine lv_aload_n hx hb dX4_counted_110 rfl (lv_at hl 0 rfl) ?_
                              refine va_get (D := D) (ci := 4) (v := .int sn) (C := RX4) (T := TX4) (N := 9) hx hb hts hin hown hK hP 0 rfl rfl 3 (by decide) (hta _ aw_689) (fun _ h9 => h9) rfl dX4_counted_111 ?_
                              obtain rfl := Option.some.inj h
                              subst hQ
                              exact pw_ri hx hb hr hlk hAe hP hS rfl dX4_counted_114
                            · have h := pq_e c14_ h
                              refine lv_tableOut (tgt := 115) hx hb dX4_counted_1 (pq_out 14 rfl (by decide) (fun k hk => match k, hk with | 0, _ => c1_ | 1, _ => c2_ | 2, _ => c3_ | 3, _ => c4_ | 4, _ => c5_ | 5, _ => c6_ | 6, _ => c7_ | 7, _ => c8_ | 8, _ => c9_ | 9, _ => c10_ | 10, _ => c11_ | 11, _ => c12_ | 12, _ => c13_ | 13, _ => c14_ | k + 14, hk => absurd hk (by omega))) (by decide) ?_
                              refine lv_aload_n hx hb dX4_counted_115 rfl (lv_at hl 0 rfl) ?_
                              refine va_get (D := D) (ci := 4) (v := .ref (q 1)) (C := RX4) (T := TX4) (N := 9) hx hb hts hin hown hK hP 0 rfl rfl 1 (by decide) (hta _ aw_687) (fun _ h9 => h9) rfl dX4_counted_116 ?_
                              refine lv_bipush (v := 10) hx hb dX4_counted_119 (by decide) ?_
                              refine lv_iload_n hx hb dX4_counted_121 rfl (lv_at hl 1 rfl) ?_
                              refine lv_iadd hx hb dX4_counted_122 ?_
                              refine lv_bipush (v := 6) hx hb dX4_counted_123 (by decide) ?_
                              refine lv_isub hx hb dX4_counted_125 ?_
                              obtain ⟨hg, h⟩ := pq_g h
                              refine va_iald hx hb hK hP 1 0 rfl rfl (pq_vp hg) dX4_counted_126 ?_
                              obtain rfl := Option.some.inj h
                              subst hQ
                              exact pw_ri hx hb hr hlk hAe hP hS rfl dX4_counted_127

def aX4_count : List Cond := Cond.code yX4_count cX4_count 2 (some .int) :: pw_all
theorem pX4_count : yX4_count.cls = RX4 ∧ yX4_count.cls ≠ "java/lang/invoke/MethodHandle" ∧ yX4_count.cls ≠ "java/lang/invoke/VarHandle" ∧ (parseMethodDescriptor yX4_count.desc).map (fun d => d.parameters.length) = some 1 := by decide +kernel
set_option maxHeartbeats 8000000 in
set_option maxRecDepth 100000 in
theorem kX4_count (l : Launch) (D : va_G) (cy : Nat → ClassId) (q : Nat → Nat) (sz : Nat) (th : Int32) (z : Nat → Int32) (sv : Nat → Int32) (sn : Int32) (sp : Nat → Int32) (bf : Nat → Int32) (ty : Int32) (gn : Nat → Int32) (hs : Int64) (x1 : Int32) (o : Int32 × Int32) (h : fX4_count x1 th z sn = some o) : Met l yX4_count aX4_count ({ frames := 5, cells := 0, slots := 0, locals := 108 }) (pw_Pre D cy [.ref (q 0), .int x1] (WM cy q th z sv sn sp bf ty gn hs) sz) (pw_I D o.1 (WM cy q th z sv sn sp bf ty gn hs) (WM cy q o.2 z sv sn sp bf ty gn hs) sz) 0 0 (va_A (WM cy q th z sv sn sp bf ty gn hs) sz) := by
  refine pw_met (cc := cX4_count) (maxL := 2) (ret := (some .int)) (by decide) rfl (Nat.le_of_ble_eq_true rfl) ?_
  intro p e s m args below meth c ls A hx hb hr hml hlk hts hown hAe hA hK hP hD hS hl
  have hl : lv_has ls 2 [(0, .ref (q 0)), (1, .int x1)] := hl
  generalize hQ : MQ below (pw_I D o.1 (WM cy q th z sv sn sp bf ty gn hs) (WM cy q o.2 z sv sn sp bf ty gn hs) sz) args s 0 0 (va_A (WM cy q th z sv sn sp bf ty gn hs) sz) = Q
  have hF : CallFix p m c cX4_count 2 s args aX4_count RX4 := ⟨hx, hb, hml, hown, hts⟩
  have hta : ∀ w ∈ pw_all, w.before args s = true := fun w h => hts w (List.mem_cons_of_mem _ h)
  have hin : ∀ w ∈ wsX40, w ∈ aX4_count := fun w h => List.mem_cons_of_mem _ (inA4 w h)
  unfold fX4_count at h
  refine lv_aload_n hx hb dX4_count_0 rfl (lv_at hl 0 rfl) ?_
  refine lv_iload_n hx hb dX4_count_1 rfl (lv_at hl 1 rfl) ?_
  refine lv_iconst (v := 0) hx hb dX4_count_2 (by decide) ?_
  refine lv_bipush (v := 13) hx hb dX4_count_3 (by decide) ?_
  obtain ⟨r1, hr1, h⟩ := pq_b h
  refine pw_si (rest := [.ref (q 0)]) (As := [.int x1, .int 0, .int 13]) hF (kX4_in l D cy _ x1 0 13 r1 hr1) (cwS 3 hts (pw_gS (own := RX4) (idx := 36) (y := yX4_in) aw_729 aw_730 aw_6 aw_731) rfl rfl rfl pX4_in ⟨Nat.le_of_ble_eq_true rfl, Nat.le_of_ble_eq_true rfl⟩) hK hP hS hA rfl hl.1 rfl (Nat.le_of_ble_eq_true rfl) dX4_count_5 ⟨Nat.zero_le _, Nat.zero_le _⟩ (fun H locs hP hS => ?_)
  obtain ⟨v2, hv2, h⟩ := pq_b h
  have J16_v2 : ∀ (H : Heap) (locs : List Loc) (ls : Array Slot), va_P D vwCl (WM cy q th z sv sn sp bf ty gn hs) H → va_D A (WM cy q th z sv sn sp bf ty gn hs) → va_S A s.heap H locs → lv_has ls 2 [(0, .ref (q 0)), (1, .int x1)] → W p l e ({ frames := 5, cells := 0, slots := 0, locals := 108 } : Room) s m args below meth c H locs 0 0 Q (F0 m 16 ls [.int v2, .ref (q 0)]) := by
    intro H locs ls hP hD hS hl
    refine va_put (D := D) (ci := 4) (v := .int v2) (ty := .int) (C := RX4) (T := TX4) (N := 9) hx hb hts hin tyX4 tyX4_ok nmX4 hown hK hP hD hS 0 rfl rfl 0 (by decide) (hta _ aw_686) (fun _ h9 => h9) rfl (by decide +kernel) rfl rfl (Nat.le_of_ble_eq_true rfl) dX4_count_16 (fun H locs hP hD hS => ?_)
    have hP : va_P D vwCl (WM cy q v2 z sv sn sp bf ty gn hs) H := hP
    have hD : va_D A (WM cy q v2 z sv sn sp bf ty gn hs) := hD
    refine lv_aload_n hx hb dX4_count_19 rfl (lv_at hl 0 rfl) ?_
    refine va_get (D := D) (ci := 4) (v := .int v2) (C := RX4) (T := TX4) (N := 9) hx hb hts hin hown hK hP 0 rfl rfl 0 (by decide) (hta _ aw_686) (fun _ h9 => h9) rfl dX4_count_20 ?_
    refine lv_if_le (tgt := 30) hx hb dX4_count_23 (by decide) (fun c2_ => ?_) (fun c2_ => ?_)
    · have h := pq_t c2_ h
      refine lv_aload_n hx hb dX4_count_30 rfl (lv_at hl 0 rfl) ?_
      refine lv_iload_n hx hb dX4_count_31 rfl (lv_at hl 1 rfl) ?_
      obtain ⟨r3, hr3, h⟩ := pq_b h
      refine pw_ci (w1 := WM cy q v2 z sv sn sp bf ty gn hs) (rest := []) (As := [.int x1]) hF (kX4_counted l D cy q _ v2 z sv sn sp bf ty gn hs x1 r3 hr3) (cwV 1 hts (pw_gV (own := RX4) (idx := 174) (C := RX4) (y := yX4_counted) aw_941 aw_943 aw_s54 aw_6 aw_944) rfl rfl rfl pX4_counted ⟨Nat.le_of_ble_eq_true rfl, Nat.le_of_ble_eq_true rfl⟩) (va_recv hK hP (ci := 4) (q0 := 0) rfl rfl) hK hP hD hS hA rfl rfl hl.1 rfl (Nat.le_of_ble_eq_true rfl) dX4_count_32 ⟨Nat.zero_le _, Nat.zero_le _⟩ (fun H locs hP hD hS => ?_)
      obtain rfl := Option.some.inj h
      subst hQ
      exact pw_ri hx hb hr hlk hAe hP hS rfl dX4_count_35
    · have h := pq_e c2_ h
      refine lv_iconst (v := 0) hx hb dX4_count_26 (by decide) ?_
      refine lv_goto (tgt := 35) hx hb dX4_count_27 (by decide) ?_
      obtain rfl := Option.some.inj h
      subst hQ
      exact pw_ri hx hb hr hlk hAe hP hS rfl dX4_count_35
  clear h
  have h := hv2
  clear hv2
  refine lv_if_eq (tgt := 15) hx hb dX4_count_8 (by decide) (fun c1_ => ?_) (fun c1_ => ?_)
  · have h := pq_t c1_ h
    refine lv_iconst (v := 1) hx hb dX4_count_15 (by decide) ?_
    obtain rfl := Option.some.inj h
    exact J16_v2 _ _ _ hP hD hS (lv_sub hl [0, 1] rfl)
  · have h := pq_e c1_ h
    refine lv_iconst (v := 0) hx hb dX4_count_11 (by decide) ?_
    refine lv_goto (tgt := 16) hx hb dX4_count_12 (by decide) ?_
    obtain rfl := Option.some.inj h
    exact J16_v2 _ _ _ hP hD hS (lv_sub hl [0, 1] rfl)

def aX4_setting : List Cond := Cond.code yX4_setting cX4_setting 2 (some .int) :: pw_all
theorem pX4_setting : yX4_setting.cls = RX4 ∧ yX4_setting.cls ≠ "java/lang/invoke/MethodHandle" ∧ yX4_setting.cls ≠ "java/lang/invoke/VarHandle" ∧ (parseMethodDescriptor yX4_setting.desc).map (fun d => d.parameters.length) = some 1 := by decide +kernel
set_option maxHeartbeats 8000000 in
set_option maxRecDepth 100000 in
theorem kX4_setting (l : Launch) (D : va_G) (cy : Nat → ClassId) (q : Nat → Nat) (sz : Nat) (th : Int32) (z : Nat → Int32) (sv : Nat → Int32) (sn : Int32) (sp : Nat → Int32) (bf : Nat → Int32) (ty : Int32) (gn : Nat → Int32) (hs : Int64) (x1 : Int32) (o : Int32 × Int32) (h : fX4_setting x1 th z = some o) : Met l yX4_setting aX4_setting ({ frames := 1, cells := 0, slots := 0, locals := 22 }) (pw_Pre D cy [.ref (q 0), .int x1] (WM cy q th z sv sn sp bf ty gn hs) sz) (pw_I D o.1 (WM cy q th z sv sn sp bf ty gn hs) (WM cy q o.2 z sv sn sp bf ty gn hs) sz) 0 0 (va_A (WM cy q th z sv sn sp bf ty gn hs) sz) := by
  refine pw_met (cc := cX4_setting) (maxL := 2) (ret := (some .int)) (by decide) rfl (Nat.le_of_ble_eq_true rfl) ?_
  intro p e s m args below meth c ls A hx hb hr hml hlk hts hown hAe hA hK hP hD hS hl
  have hl : lv_has ls 2 [(0, .ref (q 0)), (1, .int x1)] := hl
  generalize hQ : MQ below (pw_I D o.1 (WM cy q th z sv sn sp bf ty gn hs) (WM cy q o.2 z sv sn sp bf ty gn hs) sz) args s 0 0 (va_A (WM cy q th z sv sn sp bf ty gn hs) sz) = Q
  have hF : CallFix p m c cX4_setting 2 s args aX4_setting RX4 := ⟨hx, hb, hml, hown, hts⟩
  have hta : ∀ w ∈ pw_all, w.before args s = true := fun w h => hts w (List.mem_cons_of_mem _ h)
  have hin : ∀ w ∈ wsX40, w ∈ aX4_setting := fun w h => List.mem_cons_of_mem _ (inA4 w h)
  unfold fX4_setting at h
  refine lv_aload_n hx hb dX4_setting_0 rfl (lv_at hl 0 rfl) ?_
  refine lv_iload_n hx hb dX4_setting_1 rfl (lv_at hl 1 rfl) ?_
  refine lv_iconst (v := 0) hx hb dX4_setting_2 (by decide) ?_
  refine lv_bipush (v := 8) hx hb dX4_setting_3 (by decide) ?_
  obtain ⟨r1, hr1, h⟩ := pq_b h
  refine pw_si (rest := [.ref (q 0)]) (As := [.int x1, .int 0, .int 8]) hF (kX4_in l D cy _ x1 0 8 r1 hr1) (cwS 3 hts (pw_gS (own := RX4) (idx := 36) (y := yX4_in) aw_729 aw_730 aw_6 aw_731) rfl rfl rfl pX4_in ⟨Nat.le_of_ble_eq_true rfl, Nat.le_of_ble_eq_true rfl⟩) hK hP hS hA rfl hl.1 rfl (Nat.le_of_ble_eq_true rfl) dX4_setting_5 ⟨Nat.zero_le _, Nat.zero_le _⟩ (fun H locs hP hS => ?_)
  obtain ⟨v2, hv2, h⟩ := pq_b h
  have J16_v2 : ∀ (H : Heap) (locs : List Loc) (ls : Array Slot), va_P D vwCl (WM cy q th z sv sn sp bf ty gn hs) H → va_D A (WM cy q th z sv sn sp bf ty gn hs) → va_S A s.heap H locs → lv_has ls 2 [(0, .ref (q 0)), (1, .int x1)] → W p l e ({ frames := 1, cells := 0, slots := 0, locals := 22 } : Room) s m args below meth c H locs 0 0 Q (F0 m 16 ls [.int v2, .ref (q 0)]) := by
    intro H locs ls hP hD hS hl
    refine va_put (D := D) (ci := 4) (v := .int v2) (ty := .int) (C := RX4) (T := TX4) (N := 9) hx hb hts hin tyX4 tyX4_ok nmX4 hown hK hP hD hS 0 rfl rfl 0 (by decide) (hta _ aw_686) (fun _ h9 => h9) rfl (by decide +kernel) rfl rfl (Nat.le_of_ble_eq_true rfl) dX4_setting_16 (fun H locs hP hD hS => ?_)
    have hP : va_P D vwCl (WM cy q v2 z sv sn sp bf ty gn hs) H := hP
    have hD : va_D A (WM cy q v2 z sv sn sp bf ty gn hs) := hD
    refine lv_aload_n hx hb dX4_setting_19 rfl (lv_at hl 0 rfl) ?_
    refine va_get (D := D) (ci := 4) (v := .int v2) (C := RX4) (T := TX4) (N := 9) hx hb hts hin hown hK hP 0 rfl rfl 0 (by decide) (hta _ aw_686) (fun _ h9 => h9) rfl dX4_setting_20 ?_
    refine lv_if_le (tgt := 30) hx hb dX4_setting_23 (by decide) (fun c2_ => ?_) (fun c2_ => ?_)
    · have h := pq_t c2_ h
      refine lv_aload_n hx hb dX4_setting_30 rfl (lv_at hl 0 rfl) ?_
      refine va_get (D := D) (ci := 4) (v := .ref (q 1)) (C := RX4) (T := TX4) (N := 9) hx hb hts hin hown hK hP 0 rfl rfl 1 (by decide) (hta _ aw_687) (fun _ h9 => h9) rfl dX4_setting_31 ?_
      refine lv_iload_n hx hb dX4_setting_34 rfl (lv_at hl 1 rfl) ?_
      obtain ⟨hg, h⟩ := pq_g h
      refine va_iald hx hb hK hP 1 0 rfl rfl (pq_vp hg) dX4_setting_35 ?_
      obtain rfl := Option.some.inj h
      subst hQ
      exact pw_ri hx hb hr hlk hAe hP hS rfl dX4_setting_36
    · have h := pq_e c2_ h
      refine lv_iconst (v := 0) hx hb dX4_setting_26 (by decide) ?_
      refine lv_goto (tgt := 36) hx hb dX4_setting_27 (by decide) ?_
      obtain rfl := Option.some.inj h
      subst hQ
      exact pw_ri hx hb hr hlk hAe hP hS rfl dX4_setting_36
  clear h
  have h := hv2
  clear hv2
  refine lv_if_eq (tgt := 15) hx hb dX4_setting_8 (by decide) (fun c1_ => ?_) (fun c1_ => ?_)
  · have h := pq_t c1_ h
    refine lv_iconst (v := 1) hx hb dX4_setting_15 (by decide) ?_
    obtain rfl := Option.some.inj h
    exact J16_v2 _ _ _ hP hD hS (lv_sub hl [0, 1] rfl)
  · have h := pq_e c1_ h
    refine lv_iconst (v := 0) hx hb dX4_setting_11 (by decide) ?_
    refine lv_goto (tgt := 16) hx hb dX4_setting_12 (by decide) ?_
    obtain rfl := Option.some.inj h
    exact J16_v2 _ _ _ hP hD hS (lv_sub hl [0, 1] rfl)

def aX4_wouldGet : List Cond := Cond.code yX4_wouldGet cX4_wouldGet 6 (some .int) :: pw_all
theorem pX4_wouldGet : yX4_wouldGet.cls = RX4 ∧ yX4_wouldGet.cls ≠ "java/lang/invoke/MethodHandle" ∧ yX4_wouldGet.cls ≠ "java/lang/invoke/VarHandle" ∧ (parseMethodDescriptor yX4_wouldGet.desc).map (fun d => d.parameters.length) = some 2 := by decide +kernel
set_option maxHeartbeats 8000000 in
set_option maxRecDepth 100000 in
theorem kX4_wouldGet (l : Launch) (D : va_G) (cy : Nat → ClassId) (q : Nat → Nat) (sz : Nat) (th : Int32) (z : Nat → Int32) (sv : Nat → Int32) (sn : Int32) (sp : Nat → Int32) (bf : Nat → Int32) (ty : Int32) (gn : Nat → Int32) (hs : Int64) (x1 : Int32) (x2 : Int32) (o : Int32 × (Nat → Int32) × (Nat → Int32) × (Nat → Int32)) (h : fX4_wouldGet x1 x2 z sp gn = some o) : Met l yX4_wouldGet aX4_wouldGet ({ frames := 7, cells := 0, slots := 0, locals := 153 }) (pw_Pre D cy [.ref (q 0), .int x1, .int x2] (WM cy q th z sv sn sp bf ty gn hs) sz) (pw_I D o.1 (WM cy q th z sv sn sp bf ty gn hs) (WM cy q th o.2.1 sv sn o.2.2.1 bf ty o.2.2.2 hs) sz) 0 0 (va_A (WM cy q th z sv sn sp bf ty gn hs) sz) := by
  refine pw_met (cc := cX4_wouldGet) (maxL := 6) (ret := (some .int)) (by decide) rfl (Nat.le_of_ble_eq_true rfl) ?_
  intro p e s m args below meth c ls A hx hb hr hml hlk hts hown hAe hA hK hP hD hS hl
  have hl : lv_has ls 6 [(0, .ref (q 0)), (1, .int x1), (2, .int x2)] := hl
  generalize hQ : MQ below (pw_I D o.1 (WM cy q th z sv sn sp bf ty gn hs) (WM cy q th o.2.1 sv sn o.2.2.1 bf ty o.2.2.2 hs) sz) args s 0 0 (va_A (WM cy q th z sv sn sp bf ty gn hs) sz) = Q
  have hF : CallFix p m c cX4_wouldGet 6 s args aX4_wouldGet RX4 := ⟨hx, hb, hml, hown, hts⟩
  have hta : ∀ w ∈ pw_all, w.before args s = true := fun w h => hts w (List.mem_cons_of_mem _ h)
  have hin : ∀ w ∈ wsX40, w ∈ aX4_wouldGet := fun w h => List.mem_cons_of_mem _ (inA4 w h)
  unfold fX4_wouldGet at h
  refine lv_aload_n hx hb dX4_wouldGet_0 rfl (lv_at hl 0 rfl) ?_
  refine lv_iload_n hx hb dX4_wouldGet_1 rfl (lv_at hl 1 rfl) ?_
  obtain ⟨r1, hr1, h⟩ := pq_b h
  refine pw_ci (w1 := WM cy q th z sv sn sp bf ty gn hs) (rest := []) (As := [.int x1]) hF (kX4_canAsk l D cy q _ th z sv sn sp bf ty gn hs x1 r1 hr1) (cwV 1 hts (pw_gV (own := RX4) (idx := 119) (C := RX4) (y := yX4_canAsk) aw_732 aw_734 aw_s19 aw_6 aw_735) rfl rfl rfl pX4_canAsk ⟨Nat.le_of_ble_eq_true rfl, Nat.le_of_ble_eq_true rfl⟩) (va_recv hK hP (ci := 4) (q0 := 0) rfl rfl) hK hP hD hS hA rfl rfl hl.1 rfl (Nat.le_of_ble_eq_true rfl) dX4_wouldGet_2 ⟨Nat.zero_le _, Nat.zero_le _⟩ (fun H locs hP hD hS => ?_)
  refine lv_if_ne (tgt := 18) hx hb dX4_wouldGet_5 (by decide) (fun c1_ => ?_) (fun c1_ => ?_)
  · have h := pq_e c1_ h
    refine lv_aload_n hx hb dX4_wouldGet_18 rfl (lv_at hl 0 rfl) ?_
    obtain ⟨r2, hr2, h⟩ := pq_b h
    refine pw_cv (w1 := WM cy q th z sv sn r2 bf ty gn hs) (rest := []) (As := []) hF (kX4_putAside l D cy q _ th z sv sn sp bf ty gn hs  r2 hr2) (cwV 0 hts (pw_gV (own := RX4) (idx := 177) (C := RX4) (y := yX4_putAside) aw_961 aw_963 aw_s57 aw_6 aw_964) rfl rfl rfl pX4_putAside ⟨Nat.le_of_ble_eq_true rfl, Nat.le_of_ble_eq_true rfl⟩) (va_recv hK hP (ci := 4) (q0 := 0) rfl rfl) hK hP hD hS hA rfl rfl hl.1 rfl (Nat.le_of_ble_eq_true rfl) dX4_wouldGet_19 ⟨Nat.zero_le _, Nat.zero_le _⟩ (fun H locs hP hD hS => ?_)
    refine lv_aload_n hx hb dX4_wouldGet_22 rfl (lv_at hl 0 rfl) ?_
    refine va_get (D := D) (ci := 4) (v := .ref (q 1)) (C := RX4) (T := TX4) (N := 9) hx hb hts hin hown hK hP 0 rfl rfl 1 (by decide) (hta _ aw_687) (fun _ h9 => h9) rfl dX4_wouldGet_23 ?_
    refine lv_bipush (v := 11) hx hb dX4_wouldGet_26 (by decide) ?_
    refine va_iald hx hb hK hP 1 0 rfl rfl (pq_vp (by decide +kernel)) dX4_wouldGet_28 ?_
    refine lv_istore_n (lv' := [(3, .int (z (11 : Int32).toNatClampNeg)), (0, .ref (q 0)), (1, .int x1), (2, .int x2)]) hx hb dX4_wouldGet_29 rfl hl (by decide) rfl (fun ls hl => ?_)
    refine lv_aload_n hx hb dX4_wouldGet_30 rfl (lv_at hl 1 rfl) ?_
    refine lv_iload_n hx hb dX4_wouldGet_31 rfl (lv_at hl 2 rfl) ?_
    obtain ⟨r3, hr3, h⟩ := pq_b h
    refine pw_ci (w1 := WM cy q th r3.2.1 sv sn r2 bf ty r3.2.2 hs) (rest := []) (As := [.int x1]) hF (kX4_askIt l D cy q _ th z sv sn r2 bf ty gn hs x1 r3 hr3) (cwV 1 hts (pw_gV (own := RX4) (idx := 125) (C := RX4) (y := yX4_askIt) aw_756 aw_758 aw_s25 aw_6 aw_759) rfl rfl rfl pX4_askIt ⟨Nat.le_of_ble_eq_true rfl, Nat.le_of_ble_eq_true rfl⟩) (va_recv hK hP (ci := 4) (q0 := 0) rfl rfl) hK hP hD hS hA rfl rfl hl.1 rfl (Nat.le_of_ble_eq_true rfl) dX4_wouldGet_32 ⟨Nat.zero_le _, Nat.zero_le _⟩ (fun H locs hP hD hS => ?_)
    refine lv_istore (lv' := [(4, .int r3.1), (3, .int (z (11 : Int32).toNatClampNeg)), (0, .ref (q 0)), (1, .int x1), (2, .int x2)]) hx hb dX4_wouldGet_35 hl (by decide) rfl (fun ls hl => ?_)
    refine lv_iload hx hb dX4_wouldGet_37 (lv_at hl 0 rfl) ?_
    refine lv_istore (lv' := [(5, .int r3.1), (4, .int r3.1), (3, .int (z (11 : Int32).toNatClampNeg)), (0, .ref (q 0)), (1, .int x1), (2, .int x2)]) hx hb dX4_wouldGet_39 hl (by decide) rfl (fun ls hl => ?_)
    refine lv_iload_n hx hb dX4_wouldGet_41 rfl (lv_at hl 5 rfl) ?_
    refine lv_iconst (v := 1) hx hb dX4_wouldGet_42 (by decide) ?_
    refine lv_icmp_ne (tgt := 87) hx hb dX4_wouldGet_43 (by decide) (fun c2_ => ?_) (fun c2_ => ?_)
    · have h := pq_e c2_ h
      refine lv_iload_n hx hb dX4_wouldGet_87 rfl (lv_at hl 5 rfl) ?_
      refine lv_iconst (v := 2) hx hb dX4_wouldGet_88 (by decide) ?_
      refine lv_icmp_ne (tgt := 103) hx hb dX4_wouldGet_89 (by decide) (fun c3_ => ?_) (fun c3_ => ?_)
      · have h := pq_e c3_ h
        refine lv_aload_n hx hb dX4_wouldGet_103 rfl (lv_at hl 3 rfl) ?_
        obtain ⟨r4, hr4, h⟩ := pq_b h
        refine pw_cv (w1 := WM cy q th r4 sv sn r2 bf ty r3.2.2 hs) (rest := []) (As := []) hF (kX4_bringBack l D cy q _ th r3.2.1 sv sn r2 bf ty r3.2.2 hs  r4 hr4) (cwV 0 hts (pw_gV (own := RX4) (idx := 180) (C := RX4) (y := yX4_bringBack) aw_965 aw_967 aw_s58 aw_6 aw_968) rfl rfl rfl pX4_bringBack ⟨Nat.le_of_ble_eq_true rfl, Nat.le_of_ble_eq_true rfl⟩) (va_recv hK hP (ci := 4) (q0 := 0) rfl rfl) hK hP hD hS hA rfl rfl hl.1 rfl (Nat.le_of_ble_eq_true rfl) dX4_wouldGet_104 ⟨Nat.zero_le _, Nat.zero_le _⟩ (fun H locs hP hD hS => ?_)
        refine lv_iload hx hb dX4_wouldGet_107 (lv_at hl 0 rfl) ?_
        obtain rfl := Option.some.inj h
        subst hQ
        exact pw_ri hx hb hr hlk hAe hP hS rfl dX4_wouldGet_109
      · have h := pq_t c3_ h
        refine lv_aload_n hx hb dX4_wouldGet_92 rfl (lv_at hl 3 rfl) ?_
        refine va_get (D := D) (ci := 4) (v := .ref (q 1)) (C := RX4) (T := TX4) (N := 9) hx hb hts hin hown hK hP 0 rfl rfl 1 (by decide) (hta _ aw_687) (fun _ h9 => h9) rfl dX4_wouldGet_93 ?_
        refine lv_bipush (v := 11) hx hb dX4_wouldGet_96 (by decide) ?_
        refine va_iald hx hb hK hP 1 0 rfl rfl (pq_vp (by decide +kernel)) dX4_wouldGet_98 ?_
        refine lv_iload_n hx hb dX4_wouldGet_99 rfl (lv_at hl 2 rfl) ?_
        refine lv_isub hx hb dX4_wouldGet_100 ?_
        refine lv_istore (lv' := [(5, .int ((r3.2.1 (11 : Int32).toNatClampNeg) - (z (11 : Int32).toNatClampNeg))), (4, .int r3.1), (3, .int (z (11 : Int32).toNatClampNeg)), (0, .ref (q 0)), (1, .int x1), (2, .int x2)]) hx hb dX4_wouldGet_101 hl (by decide) rfl (fun ls hl => ?_)
        refine lv_aload_n hx hb dX4_wouldGet_103 rfl (lv_at hl 3 rfl) ?_
        obtain ⟨r5, hr5, h⟩ := pq_b h
        refine pw_cv (w1 := WM cy q th r5 sv sn r2 bf ty r3.2.2 hs) (rest := []) (As := []) hF (kX4_bringBack l D cy q _ th r3.2.1 sv sn r2 bf ty r3.2.2 hs  r5 hr5) (cwV 0 hts (pw_gV (own := RX4) (idx := 180) (C := RX4) (y := yX4_bringBack) aw_965 aw_967 aw_s58 aw_6 aw_968) rfl rfl rfl pX4_bringBack ⟨Nat.le_of_ble_eq_true rfl, Nat.le_of_ble_eq_true rfl⟩) (va_recv hK hP (ci := 4) (q0 := 0) rfl rfl) hK hP hD hS hA rfl rfl hl.1 rfl (Nat.le_of_ble_eq_true rfl) dX4_wouldGet_104 ⟨Nat.zero_le _, Nat.zero_le _⟩ (fun H locs hP hD hS => ?_)
        refine lv_iload hx hb dX4_wouldGet_107 (lv_at hl 0 rfl) ?_
        obtain rfl := Option.some.inj h
        subst hQ
        exact pw_ri hx hb hr hlk hAe hP hS rfl dX4_wouldGet_109
    · have h := pq_t c2_ h
      refine lv_iload hx hb dX4_wouldGet_46 (lv_at hl 1 rfl) ?_
      refine lv_iconst (v := (-1)) hx hb dX4_wouldGet_48 (by decide) ?_
      obtain ⟨v6, hv6, h⟩ := pq_b h
      have J82_v6 : ∀ (H : Heap) (locs : List Loc) (ls : Array Slot), va_P D vwCl (WM cy q th r3.2.1 sv sn r2 bf ty r3.2.2 hs) H → va_D A (WM cy q th r3.2.1 sv sn r2 bf ty r3.2.2 hs) → va_S A s.heap H locs → lv_has ls 6 [(0, .ref (q 0))] → W p l e ({ frames := 7, cells := 0, slots := 0, locals := 153 } : Room) s m args below meth c H locs 0 0 Q (F0 m 82 ls [.int v6]) := by
        intro H locs ls hP hD hS hl
        refine lv_istore (lv' := [(5, .int v6), (0, .ref (q 0))]) hx hb dX4_wouldGet_82 hl (by decide) rfl (fun ls hl => ?_)
        refine lv_goto (tgt := 103) hx hb dX4_wouldGet_84 (by decide) ?_
        refine lv_aload_n hx hb dX4_wouldGet_103 rfl (lv_at hl 1 rfl) ?_
        obtain ⟨r8, hr8, h⟩ := pq_b h
        refine pw_cv (w1 := WM cy q th r8 sv sn r2 bf ty r3.2.2 hs) (rest := []) (As := []) hF (kX4_bringBack l D cy q _ th r3.2.1 sv sn r2 bf ty r3.2.2 hs  r8 hr8) (cwV 0 hts (pw_gV (own := RX4) (idx := 180) (C := RX4) (y := yX4_bringBack) aw_965 aw_967 aw_s58 aw_6 aw_968) rfl rfl rfl pX4_bringBack ⟨Nat.le_of_ble_eq_true rfl, Nat.le_of_ble_eq_true rfl⟩) (va_recv hK hP (ci := 4) (q0 := 0) rfl rfl) hK hP hD hS hA rfl rfl hl.1 rfl (Nat.le_of_ble_eq_true rfl) dX4_wouldGet_104 ⟨Nat.zero_le _, Nat.zero_le _⟩ (fun H locs hP hD hS => ?_)
        refine lv_iload hx hb dX4_wouldGet_107 (lv_at hl 0 rfl) ?_
        obtain rfl := Option.some.inj h
        subst hQ
        exact pw_ri hx hb hr hlk hAe hP hS rfl dX4_wouldGet_109
      clear h
      have h := hv6
      clear hv6
      refine lv_icmp_eq (tgt := 81) hx hb dX4_wouldGet_49 (by decide) (fun c4_ => ?_) (fun c4_ => ?_)
      · have h := pq_t c4_ h
        refine lv_iconst (v := 0) hx hb dX4_wouldGet_81 (by decide) ?_
        obtain rfl := Option.some.inj h
        exact J82_v6 _ _ _ hP hD hS (lv_sub hl [3] rfl)
      · have h := pq_e c4_ h
        refine lv_aload_n hx hb dX4_wouldGet_52 rfl (lv_at hl 3 rfl) ?_
        refine lv_iload hx hb dX4_wouldGet_53 (lv_at hl 1 rfl) ?_
        refine lv_iconst (v := 5) hx hb dX4_wouldGet_55 (by decide) ?_
        obtain ⟨r7, hr7, h⟩ := pq_b h
        refine pw_ci (w1 := WM cy q th r3.2.1 sv sn r2 bf ty r3.2.2 hs) (rest := []) (As := [.int r3.1, .int 5]) hF (kX4_of l D cy q _ th r3.2.1 sv sn r2 bf ty r3.2.2 hs r3.1 5 r7 hr7) (cwV 2 hts (pw_gV (own := RX4) (idx := 40) (C := RX4) (y := yX4_of) aw_768 aw_770 aw_s28 aw_6 aw_771) rfl rfl rfl pX4_of ⟨Nat.le_of_ble_eq_true rfl, Nat.le_of_ble_eq_true rfl⟩) (va_recv hK hP (ci := 4) (q0 := 0) rfl rfl) hK hP hD hS hA rfl rfl hl.1 rfl (Nat.le_of_ble_eq_true rfl) dX4_wouldGet_56 ⟨Nat.zero_le _, Nat.zero_le _⟩ (fun H locs hP hD hS => ?_)
        refine lv_aload_n hx hb dX4_wouldGet_59 rfl (lv_at hl 3 rfl) ?_
        refine va_get (D := D) (ci := 4) (v := .ref (q 4)) (C := RX4) (T := TX4) (N := 9) hx hb hts hin hown hK hP 0 rfl rfl 4 (by decide) (hta _ aw_690) (fun _ h9 => h9) rfl dX4_wouldGet_60 ?_
        refine lv_bipush (v := 26) hx hb dX4_wouldGet_63 (by decide) ?_
        refine lv_bipush (v := 6) hx hb dX4_wouldGet_65 (by decide) ?_
        refine lv_iload hx hb dX4_wouldGet_67 (lv_at hl 1 rfl) ?_
        refine lv_imul hx hb dX4_wouldGet_69 ?_
        refine lv_iadd hx hb dX4_wouldGet_70 ?_
        refine lv_iconst (v := 5) hx hb dX4_wouldGet_71 (by decide) ?_
        refine lv_iadd hx hb dX4_wouldGet_72 ?_
        obtain ⟨hg, h⟩ := pq_g h
        refine va_iald hx hb hK hP 3 0 rfl rfl (pq_vp hg) dX4_wouldGet_73 ?_
        refine lv_icmp_le (tgt := 81) hx hb dX4_wouldGet_74 (by decide) (fun c5_ => ?_) (fun c5_ => ?_)
        · have h := pq_t c5_ h
          refine lv_iconst (v := 0) hx hb dX4_wouldGet_81 (by decide) ?_
          obtain rfl := Option.some.inj h
          exact J82_v6 _ _ _ hP hD hS (lv_sub hl [3] rfl)
        · have h := pq_e c5_ h
          refine lv_iconst (v := 1) hx hb dX4_wouldGet_77 (by decide) ?_
          refine lv_goto (tgt := 82) hx hb dX4_wouldGet_78 (by decide) ?_
          obtain rfl := Option.some.inj h
          exact J82_v6 _ _ _ hP hD hS (lv_sub hl [3] rfl)
  · have h := pq_t c1_ h
    refine lv_iload_n hx hb dX4_wouldGet_8 rfl (lv_at hl 2 rfl) ?_
    refine lv_if_ne (tgt := 16) hx hb dX4_wouldGet_9 (by decide) (fun c6_ => ?_) (fun c6_ => ?_)
    · have h := pq_e c6_ h
      refine lv_iconst (v := 0) hx hb dX4_wouldGet_16 (by decide) ?_
      obtain rfl := Option.some.inj h
      subst hQ
      exact pw_ri hx hb hr hlk hAe hP hS rfl dX4_wouldGet_17
    · have h := pq_t c6_ h
      refine lv_iconst (v := (-1)) hx hb dX4_wouldGet_12 (by decide) ?_
      refine lv_goto (tgt := 17) hx hb dX4_wouldGet_13 (by decide) ?_
      obtain rfl := Option.some.inj h
      subst hQ
      exact pw_ri hx hb hr hlk hAe hP hS rfl dX4_wouldGet_17

def aX4_ifAsked : List Cond := Cond.code yX4_ifAsked cX4_ifAsked 3 (some .int) :: pw_all
theorem pX4_ifAsked : yX4_ifAsked.cls = RX4 ∧ yX4_ifAsked.cls ≠ "java/lang/invoke/MethodHandle" ∧ yX4_ifAsked.cls ≠ "java/lang/invoke/VarHandle" ∧ (parseMethodDescriptor yX4_ifAsked.desc).map (fun d => d.parameters.length) = some 2 := by decide +kernel
set_option maxHeartbeats 8000000 in
set_option maxRecDepth 100000 in
theorem kX4_ifAsked (l : Launch) (D : va_G) (cy : Nat → ClassId) (q : Nat → Nat) (sz : Nat) (th : Int32) (z : Nat → Int32) (sv : Nat → Int32) (sn : Int32) (sp : Nat → Int32) (bf : Nat → Int32) (ty : Int32) (gn : Nat → Int32) (hs : Int64) (x1 : Int32) (x2 : Int32) (o : Int32 × Int32 × (Nat → Int32) × (Nat → Int32) × (Nat → Int32)) (h : fX4_ifAsked x1 x2 th z sp gn = some o) : Met l yX4_ifAsked aX4_ifAsked ({ frames := 8, cells := 0, slots := 0, locals := 178 }) (pw_Pre D cy [.ref (q 0), .int x1, .int x2] (WM cy q th z sv sn sp bf ty gn hs) sz) (pw_I D o.1 (WM cy q th z sv sn sp bf ty gn hs) (WM cy q o.2.1 o.2.2.1 sv sn o.2.2.2.1 bf ty o.2.2.2.2 hs) sz) 0 0 (va_A (WM cy q th z sv sn sp bf ty gn hs) sz) := by
  refine pw_met (cc := cX4_ifAsked) (maxL := 3) (ret := (some .int)) (by decide) rfl (Nat.le_of_ble_eq_true rfl) ?_
  intro p e s m args below meth c ls A hx hb hr hml hlk hts hown hAe hA hK hP hD hS hl
  have hl : lv_has ls 3 [(0, .ref (q 0)), (1, .int x1), (2, .int x2)] := hl
  generalize hQ : MQ below (pw_I D o.1 (WM cy q th z sv sn sp bf ty gn hs) (WM cy q o.2.1 o.2.2.1 sv sn o.2.2.2.1 bf ty o.2.2.2.2 hs) sz) args s 0 0 (va_A (WM cy q th z sv sn sp bf ty gn hs) sz) = Q
  have hF : CallFix p m c cX4_ifAsked 3 s args aX4_ifAsked RX4 := ⟨hx, hb, hml, hown, hts⟩
  have hta : ∀ w ∈ pw_all, w.before args s = true := fun w h => hts w (List.mem_cons_of_mem _ h)
  have hin : ∀ w ∈ wsX40, w ∈ aX4_ifAsked := fun w h => List.mem_cons_of_mem _ (inA4 w h)
  unfold fX4_ifAsked at h
  refine lv_aload_n hx hb dX4_ifAsked_0 rfl (lv_at hl 0 rfl) ?_
  refine lv_iload_n hx hb dX4_ifAsked_1 rfl (lv_at hl 1 rfl) ?_
  obtain ⟨r1, hr1, h⟩ := pq_b h
  refine pw_si (rest := [.ref (q 0)]) (As := [.int x1]) hF (kX4_isOwner l D cy _ x1 r1 hr1) (cwS 1 hts (pw_gS (own := RX4) (idx := 116) (y := yX4_isOwner) aw_726 aw_727 aw_6 aw_728) rfl rfl rfl pX4_isOwner ⟨Nat.le_of_ble_eq_true rfl, Nat.le_of_ble_eq_true rfl⟩) hK hP hS hA rfl hl.1 rfl (Nat.le_of_ble_eq_true rfl) dX4_ifAsked_2 ⟨Nat.zero_le _, Nat.zero_le _⟩ (fun H locs hP hS => ?_)
  obtain ⟨v2, hv2, h⟩ := pq_b h
  have J26_v2 : ∀ (H : Heap) (locs : List Loc) (ls : Array Slot), va_P D vwCl (WM cy q th z sv sn sp bf ty gn hs) H → va_D A (WM cy q th z sv sn sp bf ty gn hs) → va_S A s.heap H locs → lv_has ls 3 [(0, .ref (q 0)), (1, .int x1), (2, .int x2)] → W p l e ({ frames := 8, cells := 0, slots := 0, locals := 178 } : Room) s m args below meth c H locs 0 0 Q (F0 m 26 ls [.int v2, .ref (q 0)]) := by
    intro H locs ls hP hD hS hl
    refine va_put (D := D) (ci := 4) (v := .int v2) (ty := .int) (C := RX4) (T := TX4) (N := 9) hx hb hts hin tyX4 tyX4_ok nmX4 hown hK hP hD hS 0 rfl rfl 0 (by decide) (hta _ aw_686) (fun _ h9 => h9) rfl (by decide +kernel) rfl rfl (Nat.le_of_ble_eq_true rfl) dX4_ifAsked_26 (fun H locs hP hD hS => ?_)
    have hP : va_P D vwCl (WM cy q v2 z sv sn sp bf ty gn hs) H := hP
    have hD : va_D A (WM cy q v2 z sv sn sp bf ty gn hs) := hD
    refine lv_aload_n hx hb dX4_ifAsked_29 rfl (lv_at hl 0 rfl) ?_
    refine va_get (D := D) (ci := 4) (v := .int v2) (C := RX4) (T := TX4) (N := 9) hx hb hts hin hown hK hP 0 rfl rfl 0 (by decide) (hta _ aw_686) (fun _ h9 => h9) rfl dX4_ifAsked_30 ?_
    refine lv_if_le (tgt := 40) hx hb dX4_ifAsked_33 (by decide) (fun c3_ => ?_) (fun c3_ => ?_)
    · have h := pq_t c3_ h
      refine lv_aload_n hx hb dX4_ifAsked_40 rfl (lv_at hl 0 rfl) ?_
      refine lv_iload_n hx hb dX4_ifAsked_41 rfl (lv_at hl 1 rfl) ?_
      refine lv_iload_n hx hb dX4_ifAsked_42 rfl (lv_at hl 2 rfl) ?_
      obtain ⟨r4, hr4, h⟩ := pq_b h
      refine pw_ci (w1 := WM cy q v2 r4.2.1 sv sn r4.2.2.1 bf ty r4.2.2.2 hs) (rest := []) (As := [.int x1, .int x2]) hF (kX4_wouldGet l D cy q _ v2 z sv sn sp bf ty gn hs x1 x2 r4 hr4) (cwV 2 hts (pw_gV (own := RX4) (idx := 183) (C := RX4) (y := yX4_wouldGet) aw_957 aw_959 aw_s56 aw_6 aw_960) rfl rfl rfl pX4_wouldGet ⟨Nat.le_of_ble_eq_true rfl, Nat.le_of_ble_eq_true rfl⟩) (va_recv hK hP (ci := 4) (q0 := 0) rfl rfl) hK hP hD hS hA rfl rfl hl.1 rfl (Nat.le_of_ble_eq_true rfl) dX4_ifAsked_43 ⟨Nat.zero_le _, Nat.zero_le _⟩ (fun H locs hP hD hS => ?_)
      obtain rfl := Option.some.inj h
      subst hQ
      exact pw_ri hx hb hr hlk hAe hP hS rfl dX4_ifAsked_46
    · have h := pq_e c3_ h
      refine lv_iconst (v := 0) hx hb dX4_ifAsked_36 (by decide) ?_
      refine lv_goto (tgt := 46) hx hb dX4_ifAsked_37 (by decide) ?_
      obtain rfl := Option.some.inj h
      subst hQ
      exact pw_ri hx hb hr hlk hAe hP hS rfl dX4_ifAsked_46
  clear h
  have h := hv2
  clear hv2
  refine lv_if_ne (tgt := 12) hx hb dX4_ifAsked_5 (by decide) (fun c1_ => ?_) (fun c1_ => ?_)
  · have h := pq_e c1_ h
    refine lv_iload_n hx hb dX4_ifAsked_12 rfl (lv_at hl 2 rfl) ?_
    refine lv_iconst (v := 0) hx hb dX4_ifAsked_13 (by decide) ?_
    refine lv_iconst (v := 2) hx hb dX4_ifAsked_14 (by decide) ?_
    obtain ⟨r3, hr3, h⟩ := pq_b h
    refine pw_si (rest := [.ref (q 0)]) (As := [.int x2, .int 0, .int 2]) hF (kX4_in l D cy _ x2 0 2 r3 hr3) (cwS 3 hts (pw_gS (own := RX4) (idx := 36) (y := yX4_in) aw_729 aw_730 aw_6 aw_731) rfl rfl rfl pX4_in ⟨Nat.le_of_ble_eq_true rfl, Nat.le_of_ble_eq_true rfl⟩) hK hP hS hA rfl hl.1 rfl (Nat.le_of_ble_eq_true rfl) dX4_ifAsked_15 ⟨Nat.zero_le _, Nat.zero_le _⟩ (fun H locs hP hS => ?_)
    refine lv_if_eq (tgt := 25) hx hb dX4_ifAsked_18 (by decide) (fun c2_ => ?_) (fun c2_ => ?_)
    · have h := pq_t c2_ h
      refine lv_iconst (v := 2) hx hb dX4_ifAsked_25 (by decide) ?_
      obtain rfl := Option.some.inj h
      exact J26_v2 _ _ _ hP hD hS (lv_sub hl [0, 1, 2] rfl)
    · have h := pq_e c2_ h
      refine lv_iconst (v := 0) hx hb dX4_ifAsked_21 (by decide) ?_
      refine lv_goto (tgt := 26) hx hb dX4_ifAsked_22 (by decide) ?_
      obtain rfl := Option.some.inj h
      exact J26_v2 _ _ _ hP hD hS (lv_sub hl [0, 1, 2] rfl)
  · have h := pq_t c1_ h
    refine lv_iconst (v := 1) hx hb dX4_ifAsked_8 (by decide) ?_
    refine lv_goto (tgt := 26) hx hb dX4_ifAsked_9 (by decide) ?_
    obtain rfl := Option.some.inj h
    exact J26_v2 _ _ _ hP hD hS (lv_sub hl [0, 1, 2] rfl)

def aX4_wouldBe : List Cond := Cond.code yX4_wouldBe cX4_wouldBe 6 (some .int) :: pw_all
theorem pX4_wouldBe : yX4_wouldBe.cls = RX4 ∧ yX4_wouldBe.cls ≠ "java/lang/invoke/MethodHandle" ∧ yX4_wouldBe.cls ≠ "java/lang/invoke/VarHandle" ∧ (parseMethodDescriptor yX4_wouldBe.desc).map (fun d => d.parameters.length) = some 2 := by decide +kernel
set_option maxHeartbeats 8000000 in
set_option maxRecDepth 100000 in
theorem kX4_wouldBe (l : Launch) (D : va_G) (cy : Nat → ClassId) (q : Nat → Nat) (sz : Nat) (th : Int32) (z : Nat → Int32) (sv : Nat → Int32) (sn : Int32) (sp : Nat → Int32) (bf : Nat → Int32) (ty : Int32) (gn : Nat → Int32) (hs : Int64) (x1 : Int32) (x2 : Int32) (o : Int32 × (Nat → Int32) × (Nat → Int32) × (Nat → Int32)) (h : fX4_wouldBe x1 x2 z sp gn = some o) : Met l yX4_wouldBe aX4_wouldBe ({ frames := 8, cells := 0, slots := 0, locals := 177 }) (pw_Pre D cy [.ref (q 0), .int x1, .int x2] (WM cy q th z sv sn sp bf ty gn hs) sz) (pw_I D o.1 (WM cy q th z sv sn sp bf ty gn hs) (WM cy q th o.2.1 sv sn o.2.2.1 bf ty o.2.2.2 hs) sz) 0 0 (va_A (WM cy q th z sv sn sp bf ty gn hs) sz) := by
  refine pw_met (cc := cX4_wouldBe) (maxL := 6) (ret := (some .int)) (by decide) rfl (Nat.le_of_ble_eq_true rfl) ?_
  intro p e s m args below meth c ls A hx hb hr hml hlk hts hown hAe hA hK hP hD hS hl
  have hl : lv_has ls 6 [(0, .ref (q 0)), (1, .int x1), (2, .int x2)] := hl
  generalize hQ : MQ below (pw_I D o.1 (WM cy q th z sv sn sp bf ty gn hs) (WM cy q th o.2.1 sv sn o.2.2.1 bf ty o.2.2.2 hs) sz) args s 0 0 (va_A (WM cy q th z sv sn sp bf ty gn hs) sz) = Q
  have hF : CallFix p m c cX4_wouldBe 6 s args aX4_wouldBe RX4 := ⟨hx, hb, hml, hown, hts⟩
  have hta : ∀ w ∈ pw_all, w.before args s = true := fun w h => hts w (List.mem_cons_of_mem _ h)
  have hin : ∀ w ∈ wsX40, w ∈ aX4_wouldBe := fun w h => List.mem_cons_of_mem _ (inA4 w h)
  unfold fX4_wouldBe at h
  refine lv_aload_n hx hb dX4_wouldBe_0 rfl (lv_at hl 0 rfl) ?_
  obtain ⟨r1, hr1, h⟩ := pq_b h
  refine pw_cv (w1 := WM cy q th z sv sn r1 bf ty gn hs) (rest := []) (As := []) hF (kX4_putAside l D cy q _ th z sv sn sp bf ty gn hs  r1 hr1) (cwV 0 hts (pw_gV (own := RX4) (idx := 177) (C := RX4) (y := yX4_putAside) aw_961 aw_963 aw_s57 aw_6 aw_964) rfl rfl rfl pX4_putAside ⟨Nat.le_of_ble_eq_true rfl, Nat.le_of_ble_eq_true rfl⟩) (va_recv hK hP (ci := 4) (q0 := 0) rfl rfl) hK hP hD hS hA rfl rfl hl.1 rfl (Nat.le_of_ble_eq_true rfl) dX4_wouldBe_1 ⟨Nat.zero_le _, Nat.zero_le _⟩ (fun H locs hP hD hS => ?_)
  refine lv_aload_n hx hb dX4_wouldBe_4 rfl (lv_at hl 0 rfl) ?_
  refine va_get (D := D) (ci := 4) (v := .ref (q 1)) (C := RX4) (T := TX4) (N := 9) hx hb hts hin hown hK hP 0 rfl rfl 1 (by decide) (hta _ aw_687) (fun _ h9 => h9) rfl dX4_wouldBe_5 ?_
  refine lv_bipush (v := 11) hx hb dX4_wouldBe_8 (by decide) ?_
  refine va_iald hx hb hK hP 1 0 rfl rfl (pq_vp (by decide +kernel)) dX4_wouldBe_10 ?_
  refine lv_istore_n (lv' := [(3, .int (z (11 : Int32).toNatClampNeg)), (0, .ref (q 0)), (1, .int x1), (2, .int x2)]) hx hb dX4_wouldBe_11 rfl hl (by decide) rfl (fun ls hl => ?_)
  refine lv_aload_n hx hb dX4_wouldBe_12 rfl (lv_at hl 1 rfl) ?_
  refine lv_iload_n hx hb dX4_wouldBe_13 rfl (lv_at hl 2 rfl) ?_
  obtain ⟨r2, hr2, h⟩ := pq_b h
  refine pw_ci (w1 := WM cy q th r2.2.1 sv sn r1 bf ty r2.2.2 hs) (rest := []) (As := [.int x1]) hF (kX4_go l D cy q _ th z sv sn r1 bf ty gn hs x1 r2 hr2) (cwV 1 hts (pw_gV (own := RX4) (idx := 150) (C := RX4) (y := yX4_go) aw_885 aw_887 aw_s47 aw_6 aw_888) rfl rfl rfl pX4_go ⟨Nat.le_of_ble_eq_true rfl, Nat.le_of_ble_eq_true rfl⟩) (va_recv hK hP (ci := 4) (q0 := 0) rfl rfl) hK hP hD hS hA rfl rfl hl.1 rfl (Nat.le_of_ble_eq_true rfl) dX4_wouldBe_14 ⟨Nat.zero_le _, Nat.zero_le _⟩ (fun H locs hP hD hS => ?_)
  refine lv_istore (lv' := [(4, .int r2.1), (3, .int (z (11 : Int32).toNatClampNeg)), (0, .ref (q 0)), (1, .int x1), (2, .int x2)]) hx hb dX4_wouldBe_17 hl (by decide) rfl (fun ls hl => ?_)
  refine lv_iload_n hx hb dX4_wouldBe_19 rfl (lv_at hl 4 rfl) ?_
  refine lv_if_ne (tgt := 28) hx hb dX4_wouldBe_20 (by decide) (fun c1_ => ?_) (fun c1_ => ?_)
  · have h := pq_e c1_ h
    refine lv_iload_n hx hb dX4_wouldBe_28 rfl (lv_at hl 4 rfl) ?_
    refine lv_iconst (v := 1) hx hb dX4_wouldBe_29 (by decide) ?_
    refine lv_icmp_ne (tgt := 45) hx hb dX4_wouldBe_30 (by decide) (fun c2_ => ?_) (fun c2_ => ?_)
    · have h := pq_e c2_ h
      refine lv_iload_n hx hb dX4_wouldBe_45 rfl (lv_at hl 4 rfl) ?_
      refine lv_iconst (v := 2) hx hb dX4_wouldBe_46 (by decide) ?_
      refine lv_icmp_ne (tgt := 57) hx hb dX4_wouldBe_47 (by decide) (fun c3_ => ?_) (fun c3_ => ?_)
      · have h := pq_e c3_ h
        refine lv_aload_n hx hb dX4_wouldBe_57 rfl (lv_at hl 2 rfl) ?_
        refine va_get (D := D) (ci := 4) (v := .ref (q 1)) (C := RX4) (T := TX4) (N := 9) hx hb hts hin hown hK hP 0 rfl rfl 1 (by decide) (hta _ aw_687) (fun _ h9 => h9) rfl dX4_wouldBe_58 ?_
        refine lv_bipush (v := 17) hx hb dX4_wouldBe_61 (by decide) ?_
        refine va_iald hx hb hK hP 1 0 rfl rfl (pq_vp (by decide +kernel)) dX4_wouldBe_63 ?_
        refine lv_istore (lv' := [(5, .int (r2.2.1 (17 : Int32).toNatClampNeg)), (4, .int r2.1), (3, .int (z (11 : Int32).toNatClampNeg)), (0, .ref (q 0)), (1, .int x1), (2, .int x2)]) hx hb dX4_wouldBe_64 hl (by decide) rfl (fun ls hl => ?_)
        refine lv_aload_n hx hb dX4_wouldBe_66 rfl (lv_at hl 3 rfl) ?_
        obtain ⟨r3, hr3, h⟩ := pq_b h
        refine pw_cv (w1 := WM cy q th r3 sv sn r1 bf ty r2.2.2 hs) (rest := []) (As := []) hF (kX4_bringBack l D cy q _ th r2.2.1 sv sn r1 bf ty r2.2.2 hs  r3 hr3) (cwV 0 hts (pw_gV (own := RX4) (idx := 180) (C := RX4) (y := yX4_bringBack) aw_965 aw_967 aw_s58 aw_6 aw_968) rfl rfl rfl pX4_bringBack ⟨Nat.le_of_ble_eq_true rfl, Nat.le_of_ble_eq_true rfl⟩) (va_recv hK hP (ci := 4) (q0 := 0) rfl rfl) hK hP hD hS hA rfl rfl hl.1 rfl (Nat.le_of_ble_eq_true rfl) dX4_wouldBe_67 ⟨Nat.zero_le _, Nat.zero_le _⟩ (fun H locs hP hD hS => ?_)
        refine lv_iload hx hb dX4_wouldBe_70 (lv_at hl 0 rfl) ?_
        obtain rfl := Option.some.inj h
        subst hQ
        exact pw_ri hx hb hr hlk hAe hP hS rfl dX4_wouldBe_72
      · have h := pq_t c3_ h
        refine lv_aload_n hx hb dX4_wouldBe_50 rfl (lv_at hl 2 rfl) ?_
        obtain ⟨r4, hr4, h⟩ := pq_b h
        refine pw_ci (w1 := WM cy q th r2.2.1 sv sn r1 bf ty r2.2.2 hs) (rest := []) (As := []) hF (kX4_connections l D cy q _ th r2.2.1 sv sn r1 bf ty r2.2.2 hs  r4 hr4) (cwV 0 hts (pw_gV (own := RX4) (idx := 69) (C := RX4) (y := yX4_connections) aw_788 aw_790 aw_s33 aw_6 aw_791) rfl rfl rfl pX4_connections ⟨Nat.le_of_ble_eq_true rfl, Nat.le_of_ble_eq_true rfl⟩) (va_recv hK hP (ci := 4) (q0 := 0) rfl rfl) hK hP hD hS hA rfl rfl hl.1 rfl (Nat.le_of_ble_eq_true rfl) dX4_wouldBe_51 ⟨Nat.zero_le _, Nat.zero_le _⟩ (fun H locs hP hD hS => ?_)
        refine lv_goto (tgt := 64) hx hb dX4_wouldBe_54 (by decide) ?_
        refine lv_istore (lv' := [(5, .int r4), (4, .int r2.1), (3, .int (z (11 : Int32).toNatClampNeg)), (0, .ref (q 0)), (1, .int x1), (2, .int x2)]) hx hb dX4_wouldBe_64 hl (by decide) rfl (fun ls hl => ?_)
        refine lv_aload_n hx hb dX4_wouldBe_66 rfl (lv_at hl 3 rfl) ?_
        obtain ⟨r5, hr5, h⟩ := pq_b h
        refine pw_cv (w1 := WM cy q th r5 sv sn r1 bf ty r2.2.2 hs) (rest := []) (As := []) hF (kX4_bringBack l D cy q _ th r2.2.1 sv sn r1 bf ty r2.2.2 hs  r5 hr5) (cwV 0 hts (pw_gV (own := RX4) (idx := 180) (C := RX4) (y := yX4_bringBack) aw_965 aw_967 aw_s58 aw_6 aw_968) rfl rfl rfl pX4_bringBack ⟨Nat.le_of_ble_eq_true rfl, Nat.le_of_ble_eq_true rfl⟩) (va_recv hK hP (ci := 4) (q0 := 0) rfl rfl) hK hP hD hS hA rfl rfl hl.1 rfl (Nat.le_of_ble_eq_true rfl) dX4_wouldBe_67 ⟨Nat.zero_le _, Nat.zero_le _⟩ (fun H locs hP hD hS => ?_)
        refine lv_iload hx hb dX4_wouldBe_70 (lv_at hl 0 rfl) ?_
        obtain rfl := Option.some.inj h
        subst hQ
        exact pw_ri hx hb hr hlk hAe hP hS rfl dX4_wouldBe_72
    · have h := pq_t c2_ h
      refine lv_aload_n hx hb dX4_wouldBe_33 rfl (lv_at hl 2 rfl) ?_
      refine va_get (D := D) (ci := 4) (v := .ref (q 1)) (C := RX4) (T := TX4) (N := 9) hx hb hts hin hown hK hP 0 rfl rfl 1 (by decide) (hta _ aw_687) (fun _ h9 => h9) rfl dX4_wouldBe_34 ?_
      refine lv_bipush (v := 11) hx hb dX4_wouldBe_37 (by decide) ?_
      refine va_iald hx hb hK hP 1 0 rfl rfl (pq_vp (by decide +kernel)) dX4_wouldBe_39 ?_
      refine lv_iload_n hx hb dX4_wouldBe_40 rfl (lv_at hl 1 rfl) ?_
      refine lv_isub hx hb dX4_wouldBe_41 ?_
      refine lv_goto (tgt := 64) hx hb dX4_wouldBe_42 (by decide) ?_
      refine lv_istore (lv' := [(5, .int ((r2.2.1 (11 : Int32).toNatClampNeg) - (z (11 : Int32).toNatClampNeg))), (4, .int r2.1), (3, .int (z (11 : Int32).toNatClampNeg)), (0, .ref (q 0)), (1, .int x1), (2, .int x2)]) hx hb dX4_wouldBe_64 hl (by decide) rfl (fun ls hl => ?_)
      refine lv_aload_n hx hb dX4_wouldBe_66 rfl (lv_at hl 3 rfl) ?_
      obtain ⟨r6, hr6, h⟩ := pq_b h
      refine pw_cv (w1 := WM cy q th r6 sv sn r1 bf ty r2.2.2 hs) (rest := []) (As := []) hF (kX4_bringBack l D cy q _ th r2.2.1 sv sn r1 bf ty r2.2.2 hs  r6 hr6) (cwV 0 hts (pw_gV (own := RX4) (idx := 180) (C := RX4) (y := yX4_bringBack) aw_965 aw_967 aw_s58 aw_6 aw_968) rfl rfl rfl pX4_bringBack ⟨Nat.le_of_ble_eq_true rfl, Nat.le_of_ble_eq_true rfl⟩) (va_recv hK hP (ci := 4) (q0 := 0) rfl rfl) hK hP hD hS hA rfl rfl hl.1 rfl (Nat.le_of_ble_eq_true rfl) dX4_wouldBe_67 ⟨Nat.zero_le _, Nat.zero_le _⟩ (fun H locs hP hD hS => ?_)
      refine lv_iload hx hb dX4_wouldBe_70 (lv_at hl 0 rfl) ?_
      obtain rfl := Option.some.inj h
      subst hQ
      exact pw_ri hx hb hr hlk hAe hP hS rfl dX4_wouldBe_72
  · have h := pq_t c1_ h
    refine lv_iload hx hb dX4_wouldBe_23 (lv_at hl 0 rfl) ?_
    refine lv_goto (tgt := 64) hx hb dX4_wouldBe_25 (by decide) ?_
    refine lv_istore (lv' := [(5, .int r2.1), (4, .int r2.1), (3, .int (z (11 : Int32).toNatClampNeg)), (0, .ref (q 0)), (1, .int x1), (2, .int x2)]) hx hb dX4_wouldBe_64 hl (by decide) rfl (fun ls hl => ?_)
    refine lv_aload_n hx hb dX4_wouldBe_66 rfl (lv_at hl 3 rfl) ?_
    obtain ⟨r7, hr7, h⟩ := pq_b h
    refine pw_cv (w1 := WM cy q th r7 sv sn r1 bf ty r2.2.2 hs) (rest := []) (As := []) hF (kX4_bringBack l D cy q _ th r2.2.1 sv sn r1 bf ty r2.2.2 hs  r7 hr7) (cwV 0 hts (pw_gV (own := RX4) (idx := 180) (C := RX4) (y := yX4_bringBack) aw_965 aw_967 aw_s58 aw_6 aw_968) rfl rfl rfl pX4_bringBack ⟨Nat.le_of_ble_eq_true rfl, Nat.le_of_ble_eq_true rfl⟩) (va_recv hK hP (ci := 4) (q0 := 0) rfl rfl) hK hP hD hS hA rfl rfl hl.1 rfl (Nat.le_of_ble_eq_true rfl) dX4_wouldBe_67 ⟨Nat.zero_le _, Nat.zero_le _⟩ (fun H locs hP hD hS => ?_)
    refine lv_iload hx hb dX4_wouldBe_70 (lv_at hl 0 rfl) ?_
    obtain rfl := Option.some.inj h
    subst hQ
    exact pw_ri hx hb hr hlk hAe hP hS rfl dX4_wouldBe_72

def aX4_ifPassed : List Cond := Cond.code yX4_ifPassed cX4_ifPassed 3 (some .int) :: pw_all
theorem pX4_ifPassed : yX4_ifPassed.cls = RX4 ∧ yX4_ifPassed.cls ≠ "java/lang/invoke/MethodHandle" ∧ yX4_ifPassed.cls ≠ "java/lang/invoke/VarHandle" ∧ (parseMethodDescriptor yX4_ifPassed.desc).map (fun d => d.parameters.length) = some 2 := by decide +kernel
set_option maxHeartbeats 8000000 in
set_option maxRecDepth 100000 in
theorem kX4_ifPassed (l : Launch) (D : va_G) (cy : Nat → ClassId) (q : Nat → Nat) (sz : Nat) (th : Int32) (z : Nat → Int32) (sv : Nat → Int32) (sn : Int32) (sp : Nat → Int32) (bf : Nat → Int32) (ty : Int32) (gn : Nat → Int32) (hs : Int64) (x1 : Int32) (x2 : Int32) (o : Int32 × Int32 × (Nat → Int32) × (Nat → Int32) × (Nat → Int32)) (h : fX4_ifPassed x1 x2 th z sp gn = some o) : Met l yX4_ifPassed aX4_ifPassed ({ frames := 9, cells := 0, slots := 0, locals := 202 }) (pw_Pre D cy [.ref (q 0), .int x1, .int x2] (WM cy q th z sv sn sp bf ty gn hs) sz) (pw_I D o.1 (WM cy q th z sv sn sp bf ty gn hs) (WM cy q o.2.1 o.2.2.1 sv sn o.2.2.2.1 bf ty o.2.2.2.2 hs) sz) 0 0 (va_A (WM cy q th z sv sn sp bf ty gn hs) sz) := by
  refine pw_met (cc := cX4_ifPassed) (maxL := 3) (ret := (some .int)) (by decide) rfl (Nat.le_of_ble_eq_true rfl) ?_
  intro p e s m args below meth c ls A hx hb hr hml hlk hts hown hAe hA hK hP hD hS hl
  have hl : lv_has ls 3 [(0, .ref (q 0)), (1, .int x1), (2, .int x2)] := hl
  generalize hQ : MQ below (pw_I D o.1 (WM cy q th z sv sn sp bf ty gn hs) (WM cy q o.2.1 o.2.2.1 sv sn o.2.2.2.1 bf ty o.2.2.2.2 hs) sz) args s 0 0 (va_A (WM cy q th z sv sn sp bf ty gn hs) sz) = Q
  have hF : CallFix p m c cX4_ifPassed 3 s args aX4_ifPassed RX4 := ⟨hx, hb, hml, hown, hts⟩
  have hta : ∀ w ∈ pw_all, w.before args s = true := fun w h => hts w (List.mem_cons_of_mem _ h)
  have hin : ∀ w ∈ wsX40, w ∈ aX4_ifPassed := fun w h => List.mem_cons_of_mem _ (inA4 w h)
  unfold fX4_ifPassed at h
  refine lv_aload_n hx hb dX4_ifPassed_0 rfl (lv_at hl 0 rfl) ?_
  refine lv_iload_n hx hb dX4_ifPassed_1 rfl (lv_at hl 1 rfl) ?_
  refine lv_iconst (v := 0) hx hb dX4_ifPassed_2 (by decide) ?_
  refine lv_sipush (v := 200) hx hb dX4_ifPassed_3 (by decide) ?_
  obtain ⟨r1, hr1, h⟩ := pq_b h
  refine pw_si (rest := [.ref (q 0)]) (As := [.int x1, .int 0, .int 200]) hF (kX4_in l D cy _ x1 0 200 r1 hr1) (cwS 3 hts (pw_gS (own := RX4) (idx := 36) (y := yX4_in) aw_729 aw_730 aw_6 aw_731) rfl rfl rfl pX4_in ⟨Nat.le_of_ble_eq_true rfl, Nat.le_of_ble_eq_true rfl⟩) hK hP hS hA rfl hl.1 rfl (Nat.le_of_ble_eq_true rfl) dX4_ifPassed_6 ⟨Nat.zero_le _, Nat.zero_le _⟩ (fun H locs hP hS => ?_)
  obtain ⟨v2, hv2, h⟩ := pq_b h
  have J26_v2 : ∀ (H : Heap) (locs : List Loc) (ls : Array Slot), va_P D vwCl (WM cy q th z sv sn sp bf ty gn hs) H → va_D A (WM cy q th z sv sn sp bf ty gn hs) → va_S A s.heap H locs → lv_has ls 3 [(0, .ref (q 0)), (1, .int x1), (2, .int x2)] → W p l e ({ frames := 9, cells := 0, slots := 0, locals := 202 } : Room) s m args below meth c H locs 0 0 Q (F0 m 26 ls [.int v2, .ref (q 0)]) := by
    intro H locs ls hP hD hS hl
    refine va_put (D := D) (ci := 4) (v := .int v2) (ty := .int) (C := RX4) (T := TX4) (N := 9) hx hb hts hin tyX4 tyX4_ok nmX4 hown hK hP hD hS 0 rfl rfl 0 (by decide) (hta _ aw_686) (fun _ h9 => h9) rfl (by decide +kernel) rfl rfl (Nat.le_of_ble_eq_true rfl) dX4_ifPassed_26 (fun H locs hP hD hS => ?_)
    have hP : va_P D vwCl (WM cy q v2 z sv sn sp bf ty gn hs) H := hP
    have hD : va_D A (WM cy q v2 z sv sn sp bf ty gn hs) := hD
    refine lv_aload_n hx hb dX4_ifPassed_29 rfl (lv_at hl 0 rfl) ?_
    refine va_get (D := D) (ci := 4) (v := .int v2) (C := RX4) (T := TX4) (N := 9) hx hb hts hin hown hK hP 0 rfl rfl 0 (by decide) (hta _ aw_686) (fun _ h9 => h9) rfl dX4_ifPassed_30 ?_
    refine lv_if_le (tgt := 40) hx hb dX4_ifPassed_33 (by decide) (fun c3_ => ?_) (fun c3_ => ?_)
    · have h := pq_t c3_ h
      refine lv_aload_n hx hb dX4_ifPassed_40 rfl (lv_at hl 0 rfl) ?_
      refine lv_iload_n hx hb dX4_ifPassed_41 rfl (lv_at hl 1 rfl) ?_
      refine lv_iload_n hx hb dX4_ifPassed_42 rfl (lv_at hl 2 rfl) ?_
      obtain ⟨r4, hr4, h⟩ := pq_b h
      refine pw_ci (w1 := WM cy q v2 r4.2.1 sv sn r4.2.2.1 bf ty r4.2.2.2 hs) (rest := []) (As := [.int x1, .int x2]) hF (kX4_wouldBe l D cy q _ v2 z sv sn sp bf ty gn hs x1 x2 r4 hr4) (cwV 2 hts (pw_gV (own := RX4) (idx := 186) (C := RX4) (y := yX4_wouldBe) aw_973 aw_975 aw_s59 aw_6 aw_976) rfl rfl rfl pX4_wouldBe ⟨Nat.le_of_ble_eq_true rfl, Nat.le_of_ble_eq_true rfl⟩) (va_recv hK hP (ci := 4) (q0 := 0) rfl rfl) hK hP hD hS hA rfl rfl hl.1 rfl (Nat.le_of_ble_eq_true rfl) dX4_ifPassed_43 ⟨Nat.zero_le _, Nat.zero_le _⟩ (fun H locs hP hD hS => ?_)
      obtain rfl := Option.some.inj h
      subst hQ
      exact pw_ri hx hb hr hlk hAe hP hS rfl dX4_ifPassed_46
    · have h := pq_e c3_ h
      refine lv_iconst (v := 0) hx hb dX4_ifPassed_36 (by decide) ?_
      refine lv_goto (tgt := 46) hx hb dX4_ifPassed_37 (by decide) ?_
      obtain rfl := Option.some.inj h
      subst hQ
      exact pw_ri hx hb hr hlk hAe hP hS rfl dX4_ifPassed_46
  clear h
  have h := hv2
  clear hv2
  refine lv_if_eq (tgt := 25) hx hb dX4_ifPassed_9 (by decide) (fun c1_ => ?_) (fun c1_ => ?_)
  · have h := pq_t c1_ h
    refine lv_iconst (v := 1) hx hb dX4_ifPassed_25 (by decide) ?_
    obtain rfl := Option.some.inj h
    exact J26_v2 _ _ _ hP hD hS (lv_sub hl [0, 1, 2] rfl)
  · have h := pq_e c1_ h
    refine lv_iload_n hx hb dX4_ifPassed_12 rfl (lv_at hl 2 rfl) ?_
    refine lv_iconst (v := 0) hx hb dX4_ifPassed_13 (by decide) ?_
    refine lv_iconst (v := 3) hx hb dX4_ifPassed_14 (by decide) ?_
    obtain ⟨r3, hr3, h⟩ := pq_b h
    refine pw_si (rest := [.ref (q 0)]) (As := [.int x2, .int 0, .int 3]) hF (kX4_in l D cy _ x2 0 3 r3 hr3) (cwS 3 hts (pw_gS (own := RX4) (idx := 36) (y := yX4_in) aw_729 aw_730 aw_6 aw_731) rfl rfl rfl pX4_in ⟨Nat.le_of_ble_eq_true rfl, Nat.le_of_ble_eq_true rfl⟩) hK hP hS hA rfl hl.1 rfl (Nat.le_of_ble_eq_true rfl) dX4_ifPassed_15 ⟨Nat.zero_le _, Nat.zero_le _⟩ (fun H locs hP hS => ?_)
    refine lv_if_eq (tgt := 25) hx hb dX4_ifPassed_18 (by decide) (fun c2_ => ?_) (fun c2_ => ?_)
    · have h := pq_t c2_ h
      refine lv_iconst (v := 1) hx hb dX4_ifPassed_25 (by decide) ?_
      obtain rfl := Option.some.inj h
      exact J26_v2 _ _ _ hP hD hS (lv_sub hl [0, 1, 2] rfl)
    · have h := pq_e c2_ h
      refine lv_iconst (v := 0) hx hb dX4_ifPassed_21 (by decide) ?_
      refine lv_goto (tgt := 26) hx hb dX4_ifPassed_22 (by decide) ?_
      obtain rfl := Option.some.inj h
      exact J26_v2 _ _ _ hP hD hS (lv_sub hl [0, 1, 2] rfl)

def aX4_wouldWait : List Cond := Cond.code yX4_wouldWait cX4_wouldWait 5 (some .int) :: pw_all
theorem pX4_wouldWait : yX4_wouldWait.cls = RX4 ∧ yX4_wouldWait.cls ≠ "java/lang/invoke/MethodHandle" ∧ yX4_wouldWait.cls ≠ "java/lang/invoke/VarHandle" ∧ (parseMethodDescriptor yX4_wouldWait.desc).map (fun d => d.parameters.length) = some 1 := by decide +kernel
set_option maxHeartbeats 8000000 in
set_option maxRecDepth 100000 in
theorem kX4_wouldWait (l : Launch) (D : va_G) (cy : Nat → ClassId) (q : Nat → Nat) (sz : Nat) (th : Int32) (z : Nat → Int32) (sv : Nat → Int32) (sn : Int32) (sp : Nat → Int32) (bf : Nat → Int32) (ty : Int32) (gn : Nat → Int32) (hs : Int64) (x1 : Int32) (o : Int32 × (Nat → Int32) × (Nat → Int32) × (Nat → Int32)) (h : fX4_wouldWait x1 z sp gn = some o) : Met l yX4_wouldWait aX4_wouldWait ({ frames := 7, cells := 0, slots := 0, locals := 154 }) (pw_Pre D cy [.ref (q 0), .int x1] (WM cy q th z sv sn sp bf ty gn hs) sz) (pw_I D o.1 (WM cy q th z sv sn sp bf ty gn hs) (WM cy q th o.2.1 sv sn o.2.2.1 bf ty o.2.2.2 hs) sz) 0 0 (va_A (WM cy q th z sv sn sp bf ty gn hs) sz) := by
  refine pw_met (cc := cX4_wouldWait) (maxL := 5) (ret := (some .int)) (by decide) rfl (Nat.le_of_ble_eq_true rfl) ?_
  intro p e s m args below meth c ls A hx hb hr hml hlk hts hown hAe hA hK hP hD hS hl
  have hl : lv_has ls 5 [(0, .ref (q 0)), (1, .int x1)] := hl
  generalize hQ : MQ below (pw_I D o.1 (WM cy q th z sv sn sp bf ty gn hs) (WM cy q th o.2.1 sv sn o.2.2.1 bf ty o.2.2.2 hs) sz) args s 0 0 (va_A (WM cy q th z sv sn sp bf ty gn hs) sz) = Q
  have hF : CallFix p m c cX4_wouldWait 5 s args aX4_wouldWait RX4 := ⟨hx, hb, hml, hown, hts⟩
  have hta : ∀ w ∈ pw_all, w.before args s = true := fun w h => hts w (List.mem_cons_of_mem _ h)
  have hin : ∀ w ∈ wsX40, w ∈ aX4_wouldWait := fun w h => List.mem_cons_of_mem _ (inA4 w h)
  unfold fX4_wouldWait at h
  refine lv_aload_n hx hb dX4_wouldWait_0 rfl (lv_at hl 0 rfl) ?_
  refine lv_iload_n hx hb dX4_wouldWait_1 rfl (lv_at hl 1 rfl) ?_
  obtain ⟨r1, hr1, h⟩ := pq_b h
  refine pw_ci (w1 := WM cy q th z sv sn sp bf ty gn hs) (rest := []) (As := [.int x1]) hF (kX4_waits l D cy q _ th z sv sn sp bf ty gn hs x1 r1 hr1) (cwV 1 hts (pw_gV (own := RX4) (idx := 104) (C := RX4) (y := yX4_waits) aw_744 aw_746 aw_s22 aw_6 aw_747) rfl rfl rfl pX4_waits ⟨Nat.le_of_ble_eq_true rfl, Nat.le_of_ble_eq_true rfl⟩) (va_recv hK hP (ci := 4) (q0 := 0) rfl rfl) hK hP hD hS hA rfl rfl hl.1 rfl (Nat.le_of_ble_eq_true rfl) dX4_wouldWait_2 ⟨Nat.zero_le _, Nat.zero_le _⟩ (fun H locs hP hD hS => ?_)
  refine lv_if_ne (tgt := 10) hx hb dX4_wouldWait_5 (by decide) (fun c1_ => ?_) (fun c1_ => ?_)
  · have h := pq_e c1_ h
    refine lv_aload_n hx hb dX4_wouldWait_10 rfl (lv_at hl 0 rfl) ?_
    obtain ⟨r2, hr2, h⟩ := pq_b h
    refine pw_cv (w1 := WM cy q th z sv sn r2 bf ty gn hs) (rest := []) (As := []) hF (kX4_putAside l D cy q _ th z sv sn sp bf ty gn hs  r2 hr2) (cwV 0 hts (pw_gV (own := RX4) (idx := 177) (C := RX4) (y := yX4_putAside) aw_961 aw_963 aw_s57 aw_6 aw_964) rfl rfl rfl pX4_putAside ⟨Nat.le_of_ble_eq_true rfl, Nat.le_of_ble_eq_true rfl⟩) (va_recv hK hP (ci := 4) (q0 := 0) rfl rfl) hK hP hD hS hA rfl rfl hl.1 rfl (Nat.le_of_ble_eq_true rfl) dX4_wouldWait_11 ⟨Nat.zero_le _, Nat.zero_le _⟩ (fun H locs hP hD hS => ?_)
    refine lv_aload_n hx hb dX4_wouldWait_14 rfl (lv_at hl 0 rfl) ?_
    refine lv_iload_n hx hb dX4_wouldWait_15 rfl (lv_at hl 1 rfl) ?_
    refine lv_iconst (v := 2) hx hb dX4_wouldWait_16 (by decide) ?_
    obtain ⟨r3, hr3, h⟩ := pq_b h
    refine pw_ci (w1 := WM cy q th z sv sn r2 bf ty gn hs) (rest := []) (As := [.int x1, .int 2]) hF (kX4_its l D cy q _ th z sv sn r2 bf ty gn hs x1 2 r3 hr3) (cwV 2 hts (pw_gV (own := RX4) (idx := 44) (C := RX4) (y := yX4_its) aw_740 aw_742 aw_s21 aw_6 aw_743) rfl rfl rfl pX4_its ⟨Nat.le_of_ble_eq_true rfl, Nat.le_of_ble_eq_true rfl⟩) (va_recv hK hP (ci := 4) (q0 := 0) rfl rfl) hK hP hD hS hA rfl rfl hl.1 rfl (Nat.le_of_ble_eq_true rfl) dX4_wouldWait_17 ⟨Nat.zero_le _, Nat.zero_le _⟩ (fun H locs hP hD hS => ?_)
    refine lv_istore_n (lv' := [(2, .int r3), (0, .ref (q 0)), (1, .int x1)]) hx hb dX4_wouldWait_20 rfl hl (by decide) rfl (fun ls hl => ?_)
    refine lv_iconst (v := 0) hx hb dX4_wouldWait_21 (by decide) ?_
    refine lv_istore_n (lv' := [(3, .int 0), (2, .int r3), (0, .ref (q 0)), (1, .int x1)]) hx hb dX4_wouldWait_22 rfl hl (by decide) rfl (fun ls hl => ?_)
    obtain ⟨v5, hv5, h⟩ := pq_b h
    have X42_v5 : ∀ (H : Heap) (locs : List Loc) (ls : Array Slot), va_P D vwCl (WM cy q th v5.2.1 sv sn r2 bf ty v5.2.2 hs) H → va_D A (WM cy q th v5.2.1 sv sn r2 bf ty v5.2.2 hs) → va_S A s.heap H locs → lv_has ls 5 [(0, .ref (q 0)), (1, .int x1), (2, .int r3), (3, .int v5.1)] → W p l e ({ frames := 7, cells := 0, slots := 0, locals := 154 } : Room) s m args below meth c H locs 0 0 Q (F0 m 42 ls []) := by
      intro H locs ls hP hD hS hl
      refine lv_aload_n hx hb dX4_wouldWait_42 rfl (lv_at hl 0 rfl) ?_
      refine lv_iload_n hx hb dX4_wouldWait_43 rfl (lv_at hl 1 rfl) ?_
      refine lv_iconst (v := 2) hx hb dX4_wouldWait_44 (by decide) ?_
      obtain ⟨r8, hr8, h⟩ := pq_b h
      refine pw_ci (w1 := WM cy q th v5.2.1 sv sn r2 bf ty v5.2.2 hs) (rest := []) (As := [.int x1, .int 2]) hF (kX4_its l D cy q _ th v5.2.1 sv sn r2 bf ty v5.2.2 hs x1 2 r8 hr8) (cwV 2 hts (pw_gV (own := RX4) (idx := 44) (C := RX4) (y := yX4_its) aw_740 aw_742 aw_s21 aw_6 aw_743) rfl rfl rfl pX4_its ⟨Nat.le_of_ble_eq_true rfl, Nat.le_of_ble_eq_true rfl⟩) (va_recv hK hP (ci := 4) (q0 := 0) rfl rfl) hK hP hD hS hA rfl rfl hl.1 rfl (Nat.le_of_ble_eq_true rfl) dX4_wouldWait_45 ⟨Nat.zero_le _, Nat.zero_le _⟩ (fun H locs hP hD hS => ?_)
      refine lv_iload_n hx hb dX4_wouldWait_48 rfl (lv_at hl 2 rfl) ?_
      refine lv_icmp_le (tgt := 56) hx hb dX4_wouldWait_49 (by decide) (fun c3_ => ?_) (fun c3_ => ?_)
      · have h := pq_t c3_ h
        refine lv_iconst (v := (-1)) hx hb dX4_wouldWait_56 (by decide) ?_
        refine lv_istore (lv' := [(4, .int (-1)), (0, .ref (q 0)), (1, .int x1), (2, .int r3), (3, .int v5.1)]) hx hb dX4_wouldWait_57 hl (by decide) rfl (fun ls hl => ?_)
        refine lv_aload_n hx hb dX4_wouldWait_59 rfl (lv_at hl 1 rfl) ?_
        obtain ⟨r9, hr9, h⟩ := pq_b h
        refine pw_cv (w1 := WM cy q th r9 sv sn r2 bf ty v5.2.2 hs) (rest := []) (As := []) hF (kX4_bringBack l D cy q _ th v5.2.1 sv sn r2 bf ty v5.2.2 hs  r9 hr9) (cwV 0 hts (pw_gV (own := RX4) (idx := 180) (C := RX4) (y := yX4_bringBack) aw_965 aw_967 aw_s58 aw_6 aw_968) rfl rfl rfl pX4_bringBack ⟨Nat.le_of_ble_eq_true rfl, Nat.le_of_ble_eq_true rfl⟩) (va_recv hK hP (ci := 4) (q0 := 0) rfl rfl) hK hP hD hS hA rfl rfl hl.1 rfl (Nat.le_of_ble_eq_true rfl) dX4_wouldWait_60 ⟨Nat.zero_le _, Nat.zero_le _⟩ (fun H locs hP hD hS => ?_)
        refine lv_iload hx hb dX4_wouldWait_63 (lv_at hl 0 rfl) ?_
        obtain rfl := Option.some.inj h
        subst hQ
        exact pw_ri hx hb hr hlk hAe hP hS rfl dX4_wouldWait_65
      · have h := pq_e c3_ h
        refine lv_iload_n hx hb dX4_wouldWait_52 rfl (lv_at hl 3 rfl) ?_
        refine lv_goto (tgt := 57) hx hb dX4_wouldWait_53 (by decide) ?_
        refine lv_istore (lv' := [(4, .int v5.1), (0, .ref (q 0)), (1, .int x1), (2, .int r3), (3, .int v5.1)]) hx hb dX4_wouldWait_57 hl (by decide) rfl (fun ls hl => ?_)
        refine lv_aload_n hx hb dX4_wouldWait_59 rfl (lv_at hl 1 rfl) ?_
        obtain ⟨r10, hr10, h⟩ := pq_b h
        refine pw_cv (w1 := WM cy q th r10 sv sn r2 bf ty v5.2.2 hs) (rest := []) (As := []) hF (kX4_bringBack l D cy q _ th v5.2.1 sv sn r2 bf ty v5.2.2 hs  r10 hr10) (cwV 0 hts (pw_gV (own := RX4) (idx := 180) (C := RX4) (y := yX4_bringBack) aw_965 aw_967 aw_s58 aw_6 aw_968) rfl rfl rfl pX4_bringBack ⟨Nat.le_of_ble_eq_true rfl, Nat.le_of_ble_eq_true rfl⟩) (va_recv hK hP (ci := 4) (q0 := 0) rfl rfl) hK hP hD hS hA rfl rfl hl.1 rfl (Nat.le_of_ble_eq_true rfl) dX4_wouldWait_60 ⟨Nat.zero_le _, Nat.zero_le _⟩ (fun H locs hP hD hS => ?_)
        refine lv_iload hx hb dX4_wouldWait_63 (lv_at hl 0 rfl) ?_
        obtain rfl := Option.some.inj h
        subst hQ
        exact pw_ri hx hb hr hlk hAe hP hS rfl dX4_wouldWait_65
    clear h
    have L23_n4 : ∀ (n : Nat) (x3_23 : Int32) (z_23 : Nat → Int32) (gn_23 : Nat → Int32) (H : Heap) (locs : List Loc) (ls : Array Slot), fX4_wouldWait_L23 x1 n x3_23 z_23 gn_23 = some v5 → va_P D vwCl (WM cy q th z_23 sv sn r2 bf ty gn_23 hs) H → va_D A (WM cy q th z_23 sv sn r2 bf ty gn_23 hs) → va_S A s.heap H locs → lv_has ls 5 [(0, .ref (q 0)), (1, .int x1), (2, .int r3), (3, .int x3_23)] → W p l e ({ frames := 7, cells := 0, slots := 0, locals := 154 } : Room) s m args below meth c H locs 0 0 Q (F0 m 23 ls []) := by
      intro n
      induction n with
      | zero =>
        intro x3_23 z_23 gn_23 H locs ls h hP hD hS hl
        exact pq_n h
      | succ n ih23 =>
        intro x3_23 z_23 gn_23 H locs ls h hP hD hS hl
        rw [fX4_wouldWait_L23] at h
        refine lv_aload_n hx hb dX4_wouldWait_23 rfl (lv_at hl 0 rfl) ?_
        refine lv_iload_n hx hb dX4_wouldWait_24 rfl (lv_at hl 1 rfl) ?_
        obtain ⟨r6, hr6, h⟩ := pq_b h
        refine pw_ci (w1 := WM cy q th z_23 sv sn r2 bf ty gn_23 hs) (rest := []) (As := [.int x1]) hF (kX4_waits l D cy q _ th z_23 sv sn r2 bf ty gn_23 hs x1 r6 hr6) (cwV 1 hts (pw_gV (own := RX4) (idx := 104) (C := RX4) (y := yX4_waits) aw_744 aw_746 aw_s22 aw_6 aw_747) rfl rfl rfl pX4_waits ⟨Nat.le_of_ble_eq_true rfl, Nat.le_of_ble_eq_true rfl⟩) (va_recv hK hP (ci := 4) (q0 := 0) rfl rfl) hK hP hD hS hA rfl rfl hl.1 rfl (Nat.le_of_ble_eq_true rfl) dX4_wouldWait_25 ⟨Nat.zero_le _, Nat.zero_le _⟩ (fun H locs hP hD hS => ?_)
        refine lv_if_eq (tgt := 42) hx hb dX4_wouldWait_28 (by decide) (fun c2_ => ?_) (fun c2_ => ?_)
        · have h := pq_t c2_ h
          obtain rfl := Option.some.inj h
          exact X42_v5 _ _ _ hP hD hS (lv_sub hl [0, 1, 2, 3] rfl)
        · have h := pq_e c2_ h
          refine lv_aload_n hx hb dX4_wouldWait_31 rfl (lv_at hl 0 rfl) ?_
          obtain ⟨r7, hr7, h⟩ := pq_b h
          refine pw_ci (w1 := WM cy q th r7.2.1 sv sn r2 bf ty r7.2.2 hs) (rest := []) (As := []) hF (kX4_goUnit l D cy q _ th z_23 sv sn r2 bf ty gn_23 hs  r7 hr7) (cwV 0 hts (pw_gV (own := RX4) (idx := 113) (C := RX4) (y := yX4_goUnit) aw_889 aw_891 aw_s48 aw_6 aw_892) rfl rfl rfl pX4_goUnit ⟨Nat.le_of_ble_eq_true rfl, Nat.le_of_ble_eq_true rfl⟩) (va_recv hK hP (ci := 4) (q0 := 0) rfl rfl) hK hP hD hS hA rfl rfl hl.1 rfl (Nat.le_of_ble_eq_true rfl) dX4_wouldWait_32 ⟨Nat.zero_le _, Nat.zero_le _⟩ (fun H locs hP hD hS => ?_)
          refine lv_pop hx hb dX4_wouldWait_35 rfl ?_
          refine lv_iinc (v := x3_23 + 1) (lv' := [(3, .int (x3_23 + 1)), (0, .ref (q 0)), (1, .int x1), (2, .int r3)]) hx hb dX4_wouldWait_36 hl (k := 3) rfl (by first | rfl | decide) (by decide) rfl (fun ls hl => ?_)
          refine lv_goto (tgt := 23) hx hb dX4_wouldWait_39 (by decide) ?_
          exact ih23 (x3_23 + 1) r7.2.1 r7.2.2 _ _ _ h hP hD hS (lv_sub hl [1, 2, 3, 0] rfl)
    have h := hv5
    exact L23_n4 1000 0 z gn _ _ _ h hP hD hS (lv_sub hl [2, 3, 1, 0] rfl)
  · have h := pq_t c1_ h
    refine lv_iconst (v := (-1)) hx hb dX4_wouldWait_8 (by decide) ?_
    obtain rfl := Option.some.inj h
    subst hQ
    exact pw_ri hx hb hr hlk hAe hP hS rfl dX4_wouldWait_9

def aX4_waitsFor : List Cond := Cond.code yX4_waitsFor cX4_waitsFor 2 (some .int) :: pw_all
theorem pX4_waitsFor : yX4_waitsFor.cls = RX4 ∧ yX4_waitsFor.cls ≠ "java/lang/invoke/MethodHandle" ∧ yX4_waitsFor.cls ≠ "java/lang/invoke/VarHandle" ∧ (parseMethodDescriptor yX4_waitsFor.desc).map (fun d => d.parameters.length) = some 1 := by decide +kernel
set_option maxHeartbeats 8000000 in
set_option maxRecDepth 100000 in
theorem kX4_waitsFor (l : Launch) (D : va_G) (cy : Nat → ClassId) (q : Nat → Nat) (sz : Nat) (th : Int32) (z : Nat → Int32) (sv : Nat → Int32) (sn : Int32) (sp : Nat → Int32) (bf : Nat → Int32) (ty : Int32) (gn : Nat → Int32) (hs : Int64) (x1 : Int32) (o : Int32 × Int32 × (Nat → Int32) × (Nat → Int32) × (Nat → Int32)) (h : fX4_waitsFor x1 th z sp gn = some o) : Met l yX4_waitsFor aX4_waitsFor ({ frames := 8, cells := 0, slots := 0, locals := 178 }) (pw_Pre D cy [.ref (q 0), .int x1] (WM cy q th z sv sn sp bf ty gn hs) sz) (pw_I D o.1 (WM cy q th z sv sn sp bf ty gn hs) (WM cy q o.2.1 o.2.2.1 sv sn o.2.2.2.1 bf ty o.2.2.2.2 hs) sz) 0 0 (va_A (WM cy q th z sv sn sp bf ty gn hs) sz) := by
  refine pw_met (cc := cX4_waitsFor) (maxL := 2) (ret := (some .int)) (by decide) rfl (Nat.le_of_ble_eq_true rfl) ?_
  intro p e s m args below meth c ls A hx hb hr hml hlk hts hown hAe hA hK hP hD hS hl
  have hl : lv_has ls 2 [(0, .ref (q 0)), (1, .int x1)] := hl
  generalize hQ : MQ below (pw_I D o.1 (WM cy q th z sv sn sp bf ty gn hs) (WM cy q o.2.1 o.2.2.1 sv sn o.2.2.2.1 bf ty o.2.2.2.2 hs) sz) args s 0 0 (va_A (WM cy q th z sv sn sp bf ty gn hs) sz) = Q
  have hF : CallFix p m c cX4_waitsFor 2 s args aX4_waitsFor RX4 := ⟨hx, hb, hml, hown, hts⟩
  have hta : ∀ w ∈ pw_all, w.before args s = true := fun w h => hts w (List.mem_cons_of_mem _ h)
  have hin : ∀ w ∈ wsX40, w ∈ aX4_waitsFor := fun w h => List.mem_cons_of_mem _ (inA4 w h)
  unfold fX4_waitsFor at h
  refine lv_aload_n hx hb dX4_waitsFor_0 rfl (lv_at hl 0 rfl) ?_
  refine lv_iload_n hx hb dX4_waitsFor_1 rfl (lv_at hl 1 rfl) ?_
  obtain ⟨r1, hr1, h⟩ := pq_b h
  refine pw_si (rest := [.ref (q 0)]) (As := [.int x1]) hF (kX4_isOwner l D cy _ x1 r1 hr1) (cwS 1 hts (pw_gS (own := RX4) (idx := 116) (y := yX4_isOwner) aw_726 aw_727 aw_6 aw_728) rfl rfl rfl pX4_isOwner ⟨Nat.le_of_ble_eq_true rfl, Nat.le_of_ble_eq_true rfl⟩) hK hP hS hA rfl hl.1 rfl (Nat.le_of_ble_eq_true rfl) dX4_waitsFor_2 ⟨Nat.zero_le _, Nat.zero_le _⟩ (fun H locs hP hS => ?_)
  obtain ⟨v2, hv2, h⟩ := pq_b h
  have J13_v2 : ∀ (H : Heap) (locs : List Loc) (ls : Array Slot), va_P D vwCl (WM cy q th z sv sn sp bf ty gn hs) H → va_D A (WM cy q th z sv sn sp bf ty gn hs) → va_S A s.heap H locs → lv_has ls 2 [(0, .ref (q 0)), (1, .int x1)] → W p l e ({ frames := 8, cells := 0, slots := 0, locals := 178 } : Room) s m args below meth c H locs 0 0 Q (F0 m 13 ls [.int v2, .ref (q 0)]) := by
    intro H locs ls hP hD hS hl
    refine va_put (D := D) (ci := 4) (v := .int v2) (ty := .int) (C := RX4) (T := TX4) (N := 9) hx hb hts hin tyX4 tyX4_ok nmX4 hown hK hP hD hS 0 rfl rfl 0 (by decide) (hta _ aw_686) (fun _ h9 => h9) rfl (by decide +kernel) rfl rfl (Nat.le_of_ble_eq_true rfl) dX4_waitsFor_13 (fun H locs hP hD hS => ?_)
    have hP : va_P D vwCl (WM cy q v2 z sv sn sp bf ty gn hs) H := hP
    have hD : va_D A (WM cy q v2 z sv sn sp bf ty gn hs) := hD
    refine lv_aload_n hx hb dX4_waitsFor_16 rfl (lv_at hl 0 rfl) ?_
    refine va_get (D := D) (ci := 4) (v := .int v2) (C := RX4) (T := TX4) (N := 9) hx hb hts hin hown hK hP 0 rfl rfl 0 (by decide) (hta _ aw_686) (fun _ h9 => h9) rfl dX4_waitsFor_17 ?_
    refine lv_if_le (tgt := 27) hx hb dX4_waitsFor_20 (by decide) (fun c2_ => ?_) (fun c2_ => ?_)
    · have h := pq_t c2_ h
      refine lv_aload_n hx hb dX4_waitsFor_27 rfl (lv_at hl 0 rfl) ?_
      refine lv_iload_n hx hb dX4_waitsFor_28 rfl (lv_at hl 1 rfl) ?_
      obtain ⟨r3, hr3, h⟩ := pq_b h
      refine pw_ci (w1 := WM cy q v2 r3.2.1 sv sn r3.2.2.1 bf ty r3.2.2.2 hs) (rest := []) (As := [.int x1]) hF (kX4_wouldWait l D cy q _ v2 z sv sn sp bf ty gn hs x1 r3 hr3) (cwV 1 hts (pw_gV (own := RX4) (idx := 189) (C := RX4) (y := yX4_wouldWait) aw_981 aw_983 aw_s60 aw_6 aw_984) rfl rfl rfl pX4_wouldWait ⟨Nat.le_of_ble_eq_true rfl, Nat.le_of_ble_eq_true rfl⟩) (va_recv hK hP (ci := 4) (q0 := 0) rfl rfl) hK hP hD hS hA rfl rfl hl.1 rfl (Nat.le_of_ble_eq_true rfl) dX4_waitsFor_29 ⟨Nat.zero_le _, Nat.zero_le _⟩ (fun H locs hP hD hS => ?_)
      obtain rfl := Option.some.inj h
      subst hQ
      exact pw_ri hx hb hr hlk hAe hP hS rfl dX4_waitsFor_32
    · have h := pq_e c2_ h
      refine lv_iconst (v := 0) hx hb dX4_waitsFor_23 (by decide) ?_
      refine lv_goto (tgt := 32) hx hb dX4_waitsFor_24 (by decide) ?_
      obtain rfl := Option.some.inj h
      subst hQ
      exact pw_ri hx hb hr hlk hAe hP hS rfl dX4_waitsFor_32
  clear h
  have h := hv2
  clear hv2
  refine lv_if_eq (tgt := 12) hx hb dX4_waitsFor_5 (by decide) (fun c1_ => ?_) (fun c1_ => ?_)
  · have h := pq_t c1_ h
    refine lv_iconst (v := 1) hx hb dX4_waitsFor_12 (by decide) ?_
    obtain rfl := Option.some.inj h
    exact J13_v2 _ _ _ hP hD hS (lv_sub hl [0, 1] rfl)
  · have h := pq_e c1_ h
    refine lv_iconst (v := 0) hx hb dX4_waitsFor_8 (by decide) ?_
    refine lv_goto (tgt := 13) hx hb dX4_waitsFor_9 (by decide) ?_
    obtain rfl := Option.some.inj h
    exact J13_v2 _ _ _ hP hD hS (lv_sub hl [0, 1] rfl)

def aX4_blockerNow : List Cond := Cond.code yX4_blockerNow cX4_blockerNow 5 (some .int) :: pw_all
theorem pX4_blockerNow : yX4_blockerNow.cls = RX4 ∧ yX4_blockerNow.cls ≠ "java/lang/invoke/MethodHandle" ∧ yX4_blockerNow.cls ≠ "java/lang/invoke/VarHandle" ∧ (parseMethodDescriptor yX4_blockerNow.desc).map (fun d => d.parameters.length) = some 0 := by decide +kernel
set_option maxHeartbeats 8000000 in
set_option maxRecDepth 100000 in
theorem kX4_blockerNow (l : Launch) (D : va_G) (cy : Nat → ClassId) (q : Nat → Nat) (sz : Nat) (th : Int32) (z : Nat → Int32) (sv : Nat → Int32) (sn : Int32) (sp : Nat → Int32) (bf : Nat → Int32) (ty : Int32) (gn : Nat → Int32) (hs : Int64)  (o : Int32) (h : fX4_blockerNow z = some o) : Met l yX4_blockerNow aX4_blockerNow ({ frames := 2, cells := 0, slots := 0, locals := 45 }) (pw_Pre D cy [.ref (q 0)] (WM cy q th z sv sn sp bf ty gn hs) sz) (pw_I D o (WM cy q th z sv sn sp bf ty gn hs) (WM cy q th z sv sn sp bf ty gn hs) sz) 0 0 (va_A (WM cy q th z sv sn sp bf ty gn hs) sz) := by
  refine pw_met (cc := cX4_blockerNow) (maxL := 5) (ret := (some .int)) (by decide) rfl (Nat.le_of_ble_eq_true rfl) ?_
  intro p e s m args below meth c ls A hx hb hr hml hlk hts hown hAe hA hK hP hD hS hl
  have hl : lv_has ls 5 [(0, .ref (q 0))] := hl
  generalize hQ : MQ below (pw_I D o (WM cy q th z sv sn sp bf ty gn hs) (WM cy q th z sv sn sp bf ty gn hs) sz) args s 0 0 (va_A (WM cy q th z sv sn sp bf ty gn hs) sz) = Q
  have hF : CallFix p m c cX4_blockerNow 5 s args aX4_blockerNow RX4 := ⟨hx, hb, hml, hown, hts⟩
  have hta : ∀ w ∈ pw_all, w.before args s = true := fun w h => hts w (List.mem_cons_of_mem _ h)
  have hin : ∀ w ∈ wsX40, w ∈ aX4_blockerNow := fun w h => List.mem_cons_of_mem _ (inA4 w h)
  unfold fX4_blockerNow at h
  refine lv_iconst (v := (-1)) hx hb dX4_blockerNow_0 (by decide) ?_
  refine lv_istore_n (lv' := [(1, .int (-1)), (0, .ref (q 0))]) hx hb dX4_blockerNow_1 rfl hl (by decide) rfl (fun ls hl => ?_)
  refine lv_iconst (v := 0) hx hb dX4_blockerNow_2 (by decide) ?_
  refine lv_istore_n (lv' := [(2, .int 0), (1, .int (-1)), (0, .ref (q 0))]) hx hb dX4_blockerNow_3 rfl hl (by decide) rfl (fun ls hl => ?_)
  refine lv_iconst (v := 0) hx hb dX4_blockerNow_4 (by decide) ?_
  refine lv_istore_n (lv' := [(3, .int 0), (2, .int 0), (1, .int (-1)), (0, .ref (q 0))]) hx hb dX4_blockerNow_5 rfl hl (by decide) rfl (fun ls hl => ?_)
  have L6_n1 : ∀ (n : Nat) (x1_6 : Int32) (x2_6 : Int32) (x3_6 : Int32) (H : Heap) (locs : List Loc) (ls : Array Slot), fX4_blockerNow_L6 z n x1_6 x2_6 x3_6 = some o → va_P D vwCl (WM cy q th z sv sn sp bf ty gn hs) H → va_D A (WM cy q th z sv sn sp bf ty gn hs) → va_S A s.heap H locs → lv_has ls 5 [(0, .ref (q 0)), (1, .int x1_6), (2, .int x2_6), (3, .int x3_6)] → W p l e ({ frames := 2, cells := 0, slots := 0, locals := 45 } : Room) s m args below meth c H locs 0 0 Q (F0 m 6 ls []) := by
    intro n
    induction n with
    | zero =>
      intro x1_6 x2_6 x3_6 H locs ls h hP hD hS hl
      exact pq_n h
    | succ n ih6 =>
      intro x1_6 x2_6 x3_6 H locs ls h hP hD hS hl
      rw [fX4_blockerNow_L6] at h
      refine lv_iload_n hx hb dX4_blockerNow_6 rfl (lv_at hl 3 rfl) ?_
      refine lv_bipush (v := 8) hx hb dX4_blockerNow_7 (by decide) ?_
      refine lv_icmp_ge (tgt := 60) hx hb dX4_blockerNow_9 (by decide) (fun c1_ => ?_) (fun c1_ => ?_)
      · have h := pq_t c1_ h
        refine lv_iload_n hx hb dX4_blockerNow_60 rfl (lv_at hl 1 rfl) ?_
        obtain rfl := Option.some.inj h
        subst hQ
        exact pw_ri hx hb hr hlk hAe hP hS rfl dX4_blockerNow_61
      · have h := pq_e c1_ h
        refine lv_aload_n hx hb dX4_blockerNow_12 rfl (lv_at hl 0 rfl) ?_
        refine va_get (D := D) (ci := 4) (v := .ref (q 1)) (C := RX4) (T := TX4) (N := 9) hx hb hts hin hown hK hP 0 rfl rfl 1 (by decide) (hta _ aw_687) (fun _ h9 => h9) rfl dX4_blockerNow_13 ?_
        refine lv_bipush (v := 17) hx hb dX4_blockerNow_16 (by decide) ?_
        refine va_iald hx hb hK hP 1 0 rfl rfl (pq_vp (by decide +kernel)) dX4_blockerNow_18 ?_
        refine lv_if_le (tgt := 60) hx hb dX4_blockerNow_19 (by decide) (fun c2_ => ?_) (fun c2_ => ?_)
        · have h := pq_t c2_ h
          refine lv_iload_n hx hb dX4_blockerNow_60 rfl (lv_at hl 1 rfl) ?_
          obtain rfl := Option.some.inj h
          subst hQ
          exact pw_ri hx hb hr hlk hAe hP hS rfl dX4_blockerNow_61
        · have h := pq_e c2_ h
          refine lv_aload_n hx hb dX4_blockerNow_22 rfl (lv_at hl 0 rfl) ?_
          refine lv_iload_n hx hb dX4_blockerNow_23 rfl (lv_at hl 3 rfl) ?_
          obtain ⟨r2, hr2, h⟩ := pq_b h
          refine pw_ci (w1 := WM cy q th z sv sn sp bf ty gn hs) (rest := []) (As := [.int x3_6]) hF (kX4_lentTo l D cy q _ th z sv sn sp bf ty gn hs x3_6 r2 hr2) (cwV 1 hts (pw_gV (own := RX4) (idx := 58) (C := RX4) (y := yX4_lentTo) aw_764 aw_766 aw_s27 aw_6 aw_767) rfl rfl rfl pX4_lentTo ⟨Nat.le_of_ble_eq_true rfl, Nat.le_of_ble_eq_true rfl⟩) (va_recv hK hP (ci := 4) (q0 := 0) rfl rfl) hK hP hD hS hA rfl rfl hl.1 rfl (Nat.le_of_ble_eq_true rfl) dX4_blockerNow_24 ⟨Nat.zero_le _, Nat.zero_le _⟩ (fun H locs hP hD hS => ?_)
          refine lv_istore (lv' := [(4, .int r2), (0, .ref (q 0)), (1, .int x1_6), (2, .int x2_6), (3, .int x3_6)]) hx hb dX4_blockerNow_27 hl (by decide) rfl (fun ls hl => ?_)
          refine lv_iload hx hb dX4_blockerNow_29 (lv_at hl 0 rfl) ?_
          refine lv_iload_n hx hb dX4_blockerNow_31 rfl (lv_at hl 3 rfl) ?_
          obtain ⟨v3, hv3, h⟩ := pq_b h
          have J40_v3 : ∀ (H : Heap) (locs : List Loc) (ls : Array Slot), va_P D vwCl (WM cy q th z sv sn sp bf ty gn hs) H → va_D A (WM cy q th z sv sn sp bf ty gn hs) → va_S A s.heap H locs → lv_has ls 5 [(0, .ref (q 0)), (2, .int x2_6), (3, .int x3_6), (4, .int r2)] → W p l e ({ frames := 2, cells := 0, slots := 0, locals := 45 } : Room) s m args below meth c H locs 0 0 Q (F0 m 40 ls [.int v3]) := by
            intro H locs ls hP hD hS hl
            refine lv_istore_n (lv' := [(1, .int v3), (0, .ref (q 0)), (2, .int x2_6), (3, .int x3_6), (4, .int r2)]) hx hb dX4_blockerNow_40 rfl hl (by decide) rfl (fun ls hl => ?_)
            refine lv_iload hx hb dX4_blockerNow_41 (lv_at hl 4 rfl) ?_
            refine lv_iload_n hx hb dX4_blockerNow_43 rfl (lv_at hl 2 rfl) ?_
            refine lv_icmp_le (tgt := 52) hx hb dX4_blockerNow_44 (by decide) (fun c4_ => ?_) (fun c4_ => ?_)
            · have h := pq_t c4_ h
              refine lv_iload_n hx hb dX4_blockerNow_52 rfl (lv_at hl 2 rfl) ?_
              refine lv_istore_n (lv' := [(2, .int x2_6), (1, .int v3), (0, .ref (q 0)), (3, .int x3_6), (4, .int r2)]) hx hb dX4_blockerNow_53 rfl hl (by decide) rfl (fun ls hl => ?_)
              refine lv_iinc (v := x3_6 + 1) (lv' := [(3, .int (x3_6 + 1)), (2, .int x2_6), (1, .int v3), (0, .ref (q 0)), (4, .int r2)]) hx hb dX4_blockerNow_54 hl (k := 3) rfl (by first | rfl | decide) (by decide) rfl (fun ls hl => ?_)
              refine lv_goto (tgt := 6) hx hb dX4_blockerNow_57 (by decide) ?_
              exact ih6 v3 x2_6 (x3_6 + 1) _ _ _ h hP hD hS (lv_sub hl [3, 2, 1, 0] rfl)
            · have h := pq_e c4_ h
              refine lv_iload hx hb dX4_blockerNow_47 (lv_at hl 4 rfl) ?_
              refine lv_goto (tgt := 53) hx hb dX4_blockerNow_49 (by decide) ?_
              refine lv_istore_n (lv' := [(2, .int r2), (1, .int v3), (0, .ref (q 0)), (3, .int x3_6), (4, .int r2)]) hx hb dX4_blockerNow_53 rfl hl (by decide) rfl (fun ls hl => ?_)
              refine lv_iinc (v := x3_6 + 1) (lv' := [(3, .int (x3_6 + 1)), (2, .int r2), (1, .int v3), (0, .ref (q 0)), (4, .int r2)]) hx hb dX4_blockerNow_54 hl (k := 3) rfl (by first | rfl | decide) (by decide) rfl (fun ls hl => ?_)
              refine lv_goto (tgt := 6) hx hb dX4_blockerNow_57 (by decide) ?_
              exact ih6 v3 r2 (x3_6 + 1) _ _ _ h hP hD hS (lv_sub hl [3, 2, 1, 0] rfl)
          clear h
          have h := hv3
          clear hv3
          refine lv_icmp_le (tgt := 39) hx hb dX4_blockerNow_32 (by decide) (fun c3_ => ?_) (fun c3_ => ?_)
          · have h := pq_t c3_ h
            refine lv_iload_n hx hb dX4_blockerNow_39 rfl (lv_at hl 2 rfl) ?_
            obtain rfl := Option.some.inj h
            exact J40_v3 _ _ _ hP hD hS (lv_sub hl [1, 3, 4, 0] rfl)
          · have h := pq_e c3_ h
            refine lv_iload_n hx hb dX4_blockerNow_35 rfl (lv_at hl 4 rfl) ?_
            refine lv_goto (tgt := 40) hx hb dX4_blockerNow_36 (by decide) ?_
            obtain rfl := Option.some.inj h
            exact J40_v3 _ _ _ hP hD hS (lv_sub hl [1, 3, 4, 0] rfl)
  exact L6_n1 1000 (-1) 0 0 _ _ _ h hP hD hS (lv_sub hl [3, 2, 1, 0] rfl)

def aX4_blocker : List Cond := Cond.code yX4_blocker cX4_blocker 1 (some .int) :: pw_all
theorem pX4_blocker : yX4_blocker.cls = RX4 ∧ yX4_blocker.cls ≠ "java/lang/invoke/MethodHandle" ∧ yX4_blocker.cls ≠ "java/lang/invoke/VarHandle" ∧ (parseMethodDescriptor yX4_blocker.desc).map (fun d => d.parameters.length) = some 0 := by decide +kernel
set_option maxHeartbeats 8000000 in
set_option maxRecDepth 100000 in
theorem kX4_blocker (l : Launch) (D : va_G) (cy : Nat → ClassId) (q : Nat → Nat) (sz : Nat) (th : Int32) (z : Nat → Int32) (sv : Nat → Int32) (sn : Int32) (sp : Nat → Int32) (bf : Nat → Int32) (ty : Int32) (gn : Nat → Int32) (hs : Int64)  (o : Int32 × Int32) (h : fX4_blocker th z = some o) : Met l yX4_blocker aX4_blocker ({ frames := 3, cells := 0, slots := 0, locals := 69 }) (pw_Pre D cy [.ref (q 0)] (WM cy q th z sv sn sp bf ty gn hs) sz) (pw_I D o.1 (WM cy q th z sv sn sp bf ty gn hs) (WM cy q o.2 z sv sn sp bf ty gn hs) sz) 0 0 (va_A (WM cy q th z sv sn sp bf ty gn hs) sz) := by
  refine pw_met (cc := cX4_blocker) (maxL := 1) (ret := (some .int)) (by decide) rfl (Nat.le_of_ble_eq_true rfl) ?_
  intro p e s m args below meth c ls A hx hb hr hml hlk hts hown hAe hA hK hP hD hS hl
  have hl : lv_has ls 1 [(0, .ref (q 0))] := hl
  generalize hQ : MQ below (pw_I D o.1 (WM cy q th z sv sn sp bf ty gn hs) (WM cy q o.2 z sv sn sp bf ty gn hs) sz) args s 0 0 (va_A (WM cy q th z sv sn sp bf ty gn hs) sz) = Q
  have hF : CallFix p m c cX4_blocker 1 s args aX4_blocker RX4 := ⟨hx, hb, hml, hown, hts⟩
  have hta : ∀ w ∈ pw_all, w.before args s = true := fun w h => hts w (List.mem_cons_of_mem _ h)
  have hin : ∀ w ∈ wsX40, w ∈ aX4_blocker := fun w h => List.mem_cons_of_mem _ (inA4 w h)
  unfold fX4_blocker at h
  refine lv_aload_n hx hb dX4_blocker_0 rfl (lv_at hl 0 rfl) ?_
  refine lv_iconst (v := 0) hx hb dX4_blocker_1 (by decide) ?_
  refine va_put (D := D) (ci := 4) (v := .int 0) (ty := .int) (C := RX4) (T := TX4) (N := 9) hx hb hts hin tyX4 tyX4_ok nmX4 hown hK hP hD hS 0 rfl rfl 0 (by decide) (hta _ aw_686) (fun _ h9 => h9) rfl (by decide +kernel) rfl rfl (Nat.le_of_ble_eq_true rfl) dX4_blocker_2 (fun H locs hP hD hS => ?_)
  have hP : va_P D vwCl (WM cy q 0 z sv sn sp bf ty gn hs) H := hP
  have hD : va_D A (WM cy q 0 z sv sn sp bf ty gn hs) := hD
  refine lv_aload_n hx hb dX4_blocker_5 rfl (lv_at hl 0 rfl) ?_
  obtain ⟨r1, hr1, h⟩ := pq_b h
  refine pw_ci (w1 := WM cy q 0 z sv sn sp bf ty gn hs) (rest := []) (As := []) hF (kX4_blockerNow l D cy q _ 0 z sv sn sp bf ty gn hs  r1 hr1) (cwV 0 hts (pw_gV (own := RX4) (idx := 192) (C := RX4) (y := yX4_blockerNow) aw_989 aw_991 aw_s61 aw_6 aw_992) rfl rfl rfl pX4_blockerNow ⟨Nat.le_of_ble_eq_true rfl, Nat.le_of_ble_eq_true rfl⟩) (va_recv hK hP (ci := 4) (q0 := 0) rfl rfl) hK hP hD hS hA rfl rfl hl.1 rfl (Nat.le_of_ble_eq_true rfl) dX4_blocker_6 ⟨Nat.zero_le _, Nat.zero_le _⟩ (fun H locs hP hD hS => ?_)
  obtain rfl := Option.some.inj h
  subst hQ
  exact pw_ri hx hb hr hlk hAe hP hS rfl dX4_blocker_9

def aX4_evenness : List Cond := Cond.code yX4_evenness cX4_evenness 5 (some .double) :: pw_all
theorem pX4_evenness : yX4_evenness.cls = RX4 ∧ yX4_evenness.cls ≠ "java/lang/invoke/MethodHandle" ∧ yX4_evenness.cls ≠ "java/lang/invoke/VarHandle" ∧ (parseMethodDescriptor yX4_evenness.desc).map (fun d => d.parameters.length) = some 0 := by decide +kernel
set_option maxHeartbeats 8000000 in
set_option maxRecDepth 100000 in
theorem kX4_evenness (l : Launch) (D : va_G) (cy : Nat → ClassId) (q : Nat → Nat) (sz : Nat) (th : Int32) (z : Nat → Int32) (sv : Nat → Int32) (sn : Int32) (sp : Nat → Int32) (bf : Nat → Int32) (ty : Int32) (gn : Nat → Int32) (hs : Int64)  (o : UInt64) (h : fX4_evenness z = some o) : Met l yX4_evenness aX4_evenness ({ frames := 1, cells := 0, slots := 0, locals := 22 }) (pw_Pre D cy [.ref (q 0)] (WM cy q th z sv sn sp bf ty gn hs) sz) (pw_F D o (WM cy q th z sv sn sp bf ty gn hs) (WM cy q th z sv sn sp bf ty gn hs) sz) 0 0 (va_A (WM cy q th z sv sn sp bf ty gn hs) sz) := by
  refine pw_met (cc := cX4_evenness) (maxL := 5) (ret := (some .double)) (by decide) rfl (Nat.le_of_ble_eq_true rfl) ?_
  intro p e s m args below meth c ls A hx hb hr hml hlk hts hown hAe hA hK hP hD hS hl
  have hl : lv_has ls 5 [(0, .ref (q 0))] := hl
  generalize hQ : MQ below (pw_F D o (WM cy q th z sv sn sp bf ty gn hs) (WM cy q th z sv sn sp bf ty gn hs) sz) args s 0 0 (va_A (WM cy q th z sv sn sp bf ty gn hs) sz) = Q
  have hF : CallFix p m c cX4_evenness 5 s args aX4_evenness RX4 := ⟨hx, hb, hml, hown, hts⟩
  have hta : ∀ w ∈ pw_all, w.before args s = true := fun w h => hts w (List.mem_cons_of_mem _ h)
  have hin : ∀ w ∈ wsX40, w ∈ aX4_evenness := fun w h => List.mem_cons_of_mem _ (inA4 w h)
  unfold fX4_evenness at h
  refine lv_iconst (v := 0) hx hb dX4_evenness_0 (by decide) ?_
  refine lv_istore_n (lv' := [(1, .int 0), (0, .ref (q 0))]) hx hb dX4_evenness_1 rfl hl (by decide) rfl (fun ls hl => ?_)
  refine lv_iconst (v := 0) hx hb dX4_evenness_2 (by decide) ?_
  refine lv_istore_n (lv' := [(2, .int 0), (1, .int 0), (0, .ref (q 0))]) hx hb dX4_evenness_3 rfl hl (by decide) rfl (fun ls hl => ?_)
  refine lv_iconst (v := 0) hx hb dX4_evenness_4 (by decide) ?_
  refine lv_istore_n (lv' := [(3, .int 0), (2, .int 0), (1, .int 0), (0, .ref (q 0))]) hx hb dX4_evenness_5 rfl hl (by decide) rfl (fun ls hl => ?_)
  obtain ⟨v2, hv2, h⟩ := pq_b h
  have X61_v2 : ∀ (H : Heap) (locs : List Loc) (ls : Array Slot), va_P D vwCl (WM cy q th z sv sn sp bf ty gn hs) H → va_D A (WM cy q th z sv sn sp bf ty gn hs) → va_S A s.heap H locs → lv_has ls 5 [(1, .int v2.1), (2, .int v2.2)] → W p l e ({ frames := 1, cells := 0, slots := 0, locals := 22 } : Room) s m args below meth c H locs 0 0 Q (F0 m 61 ls []) := by
    intro H locs ls hP hD hS hl
    refine lv_iload_n hx hb dX4_evenness_61 rfl (lv_at hl 1 rfl) ?_
    refine lv_if_ne (tgt := 69) hx hb dX4_evenness_62 (by decide) (fun c6_ => ?_) (fun c6_ => ?_)
    · have h := pq_e c6_ h
      refine lv_iload_n hx hb dX4_evenness_69 rfl (lv_at hl 0 rfl) ?_
      refine lv_i2d hx hb dX4_evenness_70 ?_
      refine lv_iload_n hx hb dX4_evenness_71 rfl (lv_at hl 1 rfl) ?_
      refine lv_i2d hx hb dX4_evenness_72 ?_
      obtain ⟨hg, h⟩ := pq_g h
      refine lv_ddiv hx hb dX4_evenness_73 (pq_nv hg) ?_
      obtain rfl := Option.some.inj h
      subst hQ
      exact pw_rd hx hb hr hlk hAe hP hS rfl dX4_evenness_74
    · have h := pq_t c6_ h
      refine lv_dconst1 hx hb dX4_evenness_65 ?_
      refine lv_goto (tgt := 74) hx hb dX4_evenness_66 (by decide) ?_
      obtain rfl := Option.some.inj h
      subst hQ
      exact pw_rd hx hb hr hlk hAe hP hS rfl dX4_evenness_74
  clear h
  have L6_n1 : ∀ (n : Nat) (x1_6 : Int32) (x2_6 : Int32) (x3_6 : Int32) (H : Heap) (locs : List Loc) (ls : Array Slot), fX4_evenness_L6 z n x1_6 x2_6 x3_6 = some v2 → va_P D vwCl (WM cy q th z sv sn sp bf ty gn hs) H → va_D A (WM cy q th z sv sn sp bf ty gn hs) → va_S A s.heap H locs → lv_has ls 5 [(0, .ref (q 0)), (1, .int x1_6), (2, .int x2_6), (3, .int x3_6)] → W p l e ({ frames := 1, cells := 0, slots := 0, locals := 22 } : Room) s m args below meth c H locs 0 0 Q (F0 m 6 ls []) := by
    intro n
    induction n with
    | zero =>
      intro x1_6 x2_6 x3_6 H locs ls h hP hD hS hl
      exact pq_n h
    | succ n ih6 =>
      intro x1_6 x2_6 x3_6 H locs ls h hP hD hS hl
      rw [fX4_evenness_L6] at h
      refine lv_iload_n hx hb dX4_evenness_6 rfl (lv_at hl 3 rfl) ?_
      refine lv_bipush (v := 8) hx hb dX4_evenness_7 (by decide) ?_
      refine lv_icmp_ge (tgt := 61) hx hb dX4_evenness_9 (by decide) (fun c1_ => ?_) (fun c1_ => ?_)
      · have h := pq_t c1_ h
        obtain rfl := Option.some.inj h
        exact X61_v2 _ _ _ hP hD hS (lv_sub hl [1, 2] rfl)
      · have h := pq_e c1_ h
        refine lv_aload_n hx hb dX4_evenness_12 rfl (lv_at hl 0 rfl) ?_
        refine lv_iload_n hx hb dX4_evenness_13 rfl (lv_at hl 3 rfl) ?_
        refine lv_iconst (v := 2) hx hb dX4_evenness_14 (by decide) ?_
        obtain ⟨r3, hr3, h⟩ := pq_b h
        refine pw_ci (w1 := WM cy q th z sv sn sp bf ty gn hs) (rest := []) (As := [.int x3_6, .int 2]) hF (kX4_its l D cy q _ th z sv sn sp bf ty gn hs x3_6 2 r3 hr3) (cwV 2 hts (pw_gV (own := RX4) (idx := 44) (C := RX4) (y := yX4_its) aw_740 aw_742 aw_s21 aw_6 aw_743) rfl rfl rfl pX4_its ⟨Nat.le_of_ble_eq_true rfl, Nat.le_of_ble_eq_true rfl⟩) (va_recv hK hP (ci := 4) (q0 := 0) rfl rfl) hK hP hD hS hA rfl rfl hl.1 rfl (Nat.le_of_ble_eq_true rfl) dX4_evenness_15 ⟨Nat.zero_le _, Nat.zero_le _⟩ (fun H locs hP hD hS => ?_)
        refine lv_istore (lv' := [(4, .int r3), (0, .ref (q 0)), (1, .int x1_6), (2, .int x2_6), (3, .int x3_6)]) hx hb dX4_evenness_18 hl (by decide) rfl (fun ls hl => ?_)
        refine lv_iload hx hb dX4_evenness_20 (lv_at hl 0 rfl) ?_
        obtain ⟨v4, hv4, h⟩ := pq_b h
        have J41_v4 : ∀ (H : Heap) (locs : List Loc) (ls : Array Slot), va_P D vwCl (WM cy q th z sv sn sp bf ty gn hs) H → va_D A (WM cy q th z sv sn sp bf ty gn hs) → va_S A s.heap H locs → lv_has ls 5 [(0, .ref (q 0)), (2, .int x2_6), (3, .int x3_6), (4, .int r3)] → W p l e ({ frames := 1, cells := 0, slots := 0, locals := 22 } : Room) s m args below meth c H locs 0 0 Q (F0 m 41 ls [.int v4]) := by
          intro H locs ls hP hD hS hl
          refine lv_istore_n (lv' := [(1, .int v4), (0, .ref (q 0)), (2, .int x2_6), (3, .int x3_6), (4, .int r3)]) hx hb dX4_evenness_41 rfl hl (by decide) rfl (fun ls hl => ?_)
          refine lv_iload hx hb dX4_evenness_42 (lv_at hl 4 rfl) ?_
          refine lv_iload_n hx hb dX4_evenness_44 rfl (lv_at hl 2 rfl) ?_
          refine lv_icmp_le (tgt := 53) hx hb dX4_evenness_45 (by decide) (fun c5_ => ?_) (fun c5_ => ?_)
          · have h := pq_t c5_ h
            refine lv_iload_n hx hb dX4_evenness_53 rfl (lv_at hl 2 rfl) ?_
            refine lv_istore_n (lv' := [(2, .int x2_6), (1, .int v4), (0, .ref (q 0)), (3, .int x3_6), (4, .int r3)]) hx hb dX4_evenness_54 rfl hl (by decide) rfl (fun ls hl => ?_)
            refine lv_iinc (v := x3_6 + 1) (lv' := [(3, .int (x3_6 + 1)), (2, .int x2_6), (1, .int v4), (0, .ref (q 0)), (4, .int r3)]) hx hb dX4_evenness_55 hl (k := 3) rfl (by first | rfl | decide) (by decide) rfl (fun ls hl => ?_)
            refine lv_goto (tgt := 6) hx hb dX4_evenness_58 (by decide) ?_
            exact ih6 v4 x2_6 (x3_6 + 1) _ _ _ h hP hD hS (lv_sub hl [3, 2, 1, 0] rfl)
          · have h := pq_e c5_ h
            refine lv_iload hx hb dX4_evenness_48 (lv_at hl 4 rfl) ?_
            refine lv_goto (tgt := 54) hx hb dX4_evenness_50 (by decide) ?_
            refine lv_istore_n (lv' := [(2, .int r3), (1, .int v4), (0, .ref (q 0)), (3, .int x3_6), (4, .int r3)]) hx hb dX4_evenness_54 rfl hl (by decide) rfl (fun ls hl => ?_)
            refine lv_iinc (v := x3_6 + 1) (lv' := [(3, .int (x3_6 + 1)), (2, .int r3), (1, .int v4), (0, .ref (q 0)), (4, .int r3)]) hx hb dX4_evenness_55 hl (k := 3) rfl (by first | rfl | decide) (by decide) rfl (fun ls hl => ?_)
            refine lv_goto (tgt := 6) hx hb dX4_evenness_58 (by decide) ?_
            exact ih6 v4 r3 (x3_6 + 1) _ _ _ h hP hD hS (lv_sub hl [3, 2, 1, 0] rfl)
        clear h
        have h := hv4
        clear hv4
        refine lv_if_le (tgt := 40) hx hb dX4_evenness_22 (by decide) (fun c2_ => ?_) (fun c2_ => ?_)
        · have h := pq_t c2_ h
          refine lv_iload_n hx hb dX4_evenness_40 rfl (lv_at hl 2 rfl) ?_
          obtain rfl := Option.some.inj h
          exact J41_v4 _ _ _ hP hD hS (lv_sub hl [1, 3, 4, 0] rfl)
        · have h := pq_e c2_ h
          refine lv_iload_n hx hb dX4_evenness_25 rfl (lv_at hl 2 rfl) ?_
          refine lv_if_eq (tgt := 35) hx hb dX4_evenness_26 (by decide) (fun c3_ => ?_) (fun c3_ => ?_)
          · have h := pq_t c3_ h
            refine lv_iload hx hb dX4_evenness_35 (lv_at hl 0 rfl) ?_
            refine lv_goto (tgt := 41) hx hb dX4_evenness_37 (by decide) ?_
            obtain rfl := Option.some.inj h
            exact J41_v4 _ _ _ hP hD hS (lv_sub hl [1, 3, 4, 0] rfl)
          · have h := pq_e c3_ h
            refine lv_iload hx hb dX4_evenness_29 (lv_at hl 0 rfl) ?_
            refine lv_iload_n hx hb dX4_evenness_31 rfl (lv_at hl 2 rfl) ?_
            refine lv_icmp_ge (tgt := 40) hx hb dX4_evenness_32 (by decide) (fun c4_ => ?_) (fun c4_ => ?_)
            · have h := pq_t c4_ h
              refine lv_iload_n hx hb dX4_evenness_40 rfl (lv_at hl 2 rfl) ?_
              obtain rfl := Option.some.inj h
              exact J41_v4 _ _ _ hP hD hS (lv_sub hl [1, 3, 4, 0] rfl)
            · have h := pq_e c4_ h
              refine lv_iload hx hb dX4_evenness_35 (lv_at hl 0 rfl) ?_
              refine lv_goto (tgt := 41) hx hb dX4_evenness_37 (by decide) ?_
              obtain rfl := Option.some.inj h
              exact J41_v4 _ _ _ hP hD hS (lv_sub hl [1, 3, 4, 0] rfl)
  have h := hv2
  exact L6_n1 1000 0 0 0 _ _ _ h hP hD hS (lv_sub hl [3, 2, 1, 0] rfl)

def aX4_fairness : List Cond := Cond.code yX4_fairness cX4_fairness 1 (some .double) :: pw_all
theorem pX4_fairness : yX4_fairness.cls = RX4 ∧ yX4_fairness.cls ≠ "java/lang/invoke/MethodHandle" ∧ yX4_fairness.cls ≠ "java/lang/invoke/VarHandle" ∧ (parseMethodDescriptor yX4_fairness.desc).map (fun d => d.parameters.length) = some 0 := by decide +kernel
set_option maxHeartbeats 8000000 in
set_option maxRecDepth 100000 in
theorem kX4_fairness (l : Launch) (D : va_G) (cy : Nat → ClassId) (q : Nat → Nat) (sz : Nat) (th : Int32) (z : Nat → Int32) (sv : Nat → Int32) (sn : Int32) (sp : Nat → Int32) (bf : Nat → Int32) (ty : Int32) (gn : Nat → Int32) (hs : Int64)  (o : UInt64 × Int32) (h : fX4_fairness th z = some o) : Met l yX4_fairness aX4_fairness ({ frames := 2, cells := 0, slots := 0, locals := 46 }) (pw_Pre D cy [.ref (q 0)] (WM cy q th z sv sn sp bf ty gn hs) sz) (pw_F D o.1 (WM cy q th z sv sn sp bf ty gn hs) (WM cy q o.2 z sv sn sp bf ty gn hs) sz) 0 0 (va_A (WM cy q th z sv sn sp bf ty gn hs) sz) := by
  refine pw_met (cc := cX4_fairness) (maxL := 1) (ret := (some .double)) (by decide) rfl (Nat.le_of_ble_eq_true rfl) ?_
  intro p e s m args below meth c ls A hx hb hr hml hlk hts hown hAe hA hK hP hD hS hl
  have hl : lv_has ls 1 [(0, .ref (q 0))] := hl
  generalize hQ : MQ below (pw_F D o.1 (WM cy q th z sv sn sp bf ty gn hs) (WM cy q o.2 z sv sn sp bf ty gn hs) sz) args s 0 0 (va_A (WM cy q th z sv sn sp bf ty gn hs) sz) = Q
  have hF : CallFix p m c cX4_fairness 1 s args aX4_fairness RX4 := ⟨hx, hb, hml, hown, hts⟩
  have hta : ∀ w ∈ pw_all, w.before args s = true := fun w h => hts w (List.mem_cons_of_mem _ h)
  have hin : ∀ w ∈ wsX40, w ∈ aX4_fairness := fun w h => List.mem_cons_of_mem _ (inA4 w h)
  unfold fX4_fairness at h
  refine lv_aload_n hx hb dX4_fairness_0 rfl (lv_at hl 0 rfl) ?_
  refine lv_iconst (v := 0) hx hb dX4_fairness_1 (by decide) ?_
  refine va_put (D := D) (ci := 4) (v := .int 0) (ty := .int) (C := RX4) (T := TX4) (N := 9) hx hb hts hin tyX4 tyX4_ok nmX4 hown hK hP hD hS 0 rfl rfl 0 (by decide) (hta _ aw_686) (fun _ h9 => h9) rfl (by decide +kernel) rfl rfl (Nat.le_of_ble_eq_true rfl) dX4_fairness_2 (fun H locs hP hD hS => ?_)
  have hP : va_P D vwCl (WM cy q 0 z sv sn sp bf ty gn hs) H := hP
  have hD : va_D A (WM cy q 0 z sv sn sp bf ty gn hs) := hD
  refine lv_aload_n hx hb dX4_fairness_5 rfl (lv_at hl 0 rfl) ?_
  obtain ⟨r1, hr1, h⟩ := pq_b h
  refine pw_cd (w1 := WM cy q 0 z sv sn sp bf ty gn hs) (rest := []) (As := []) hF (kX4_evenness l D cy q _ 0 z sv sn sp bf ty gn hs  r1 hr1) (cwV 0 hts (pw_gV (own := RX4) (idx := 195) (C := RX4) (y := yX4_evenness) aw_997 aw_999 aw_s62 aw_6 aw_1000) rfl rfl rfl pX4_evenness ⟨Nat.le_of_ble_eq_true rfl, Nat.le_of_ble_eq_true rfl⟩) (va_recv hK hP (ci := 4) (q0 := 0) rfl rfl) hK hP hD hS hA rfl rfl hl.1 rfl (Nat.le_of_ble_eq_true rfl) dX4_fairness_6 ⟨Nat.zero_le _, Nat.zero_le _⟩ (fun H locs hP hD hS => ?_)
  obtain rfl := Option.some.inj h
  subst hQ
  exact pw_rd hx hb hr hlk hAe hP hS rfl dX4_fairness_9

def aX4_bitsOf : List Cond := Cond.code yX4_bitsOf cX4_bitsOf 6 (some .long) :: pw_all
theorem pX4_bitsOf : yX4_bitsOf.cls = RX4 ∧ yX4_bitsOf.cls ≠ "java/lang/invoke/MethodHandle" ∧ yX4_bitsOf.cls ≠ "java/lang/invoke/VarHandle" ∧ (parseMethodDescriptor yX4_bitsOf.desc).map (fun d => d.parameters.length) = some 1 := by decide +kernel
set_option maxHeartbeats 8000000 in
set_option maxRecDepth 100000 in
theorem kX4_bitsOf (l : Launch) (D : va_G) (cy : Nat → ClassId) (sz : Nat)  (x0 : UInt64) (o : Int64) (h : fX4_bitsOf x0 = some o) : Met l yX4_bitsOf aX4_bitsOf ({ frames := 0, cells := 0, slots := 0, locals := 0 }) (pw_Pre D cy [.double x0] ([]) sz) (pw_J D o ([]) ([]) sz) 0 0 (va_A ([]) sz) := by
  refine pw_met (cc := cX4_bitsOf) (maxL := 6) (ret := (some .long)) (by decide) rfl (Nat.le_of_ble_eq_true rfl) ?_
  intro p e s m args below meth c ls A hx hb hr hml hlk hts hown hAe hA hK hP hD hS hl
  have hl : lv_has ls 6 [(0, .double x0)] := hl
  generalize hQ : MQ below (pw_J D o ([]) ([]) sz) args s 0 0 (va_A ([]) sz) = Q
  have hF : CallFix p m c cX4_bitsOf 6 s args aX4_bitsOf RX4 := ⟨hx, hb, hml, hown, hts⟩
  have hta : ∀ w ∈ pw_all, w.before args s = true := fun w h => hts w (List.mem_cons_of_mem _ h)
  unfold fX4_bitsOf at h
  refine lv_dload_n hx hb dX4_bitsOf_0 rfl (lv_at hl 0 rfl) ?_
  refine lv_dconst0 hx hb dX4_bitsOf_1 ?_
  refine lv_dcmp hx hb dX4_bitsOf_2 ?_
  refine lv_if_ne (tgt := 8) hx hb dX4_bitsOf_3 (by decide) (fun c1_ => ?_) (fun c1_ => ?_)
  · have h := pq_e c1_ h
    refine lv_dload_n hx hb dX4_bitsOf_8 rfl (lv_at hl 0 rfl) ?_
    refine lv_dstore_n (lv' := [(2, .double x0), (0, .double x0)]) hx hb dX4_bitsOf_9 rfl hl (by decide) rfl (fun ls hl => ?_)
    refine lv_ldc2 hx hb hown (hta _ aw_1018) dX4_bitsOf_10 ?_
    refine lv_lstore (lv' := [(4, .long 1023), (2, .double x0), (0, .double x0)]) hx hb dX4_bitsOf_13 hl (by decide) rfl (fun ls hl => ?_)
    obtain ⟨v2, hv2, h⟩ := pq_b h
    have X38_v2 : ∀ (H : Heap) (locs : List Loc) (ls : Array Slot), va_P D vwCl ([]) H → va_D A ([]) → va_S A s.heap H locs → lv_has ls 6 [(2, .double v2.1), (4, .long v2.2)] → W p l e ({ frames := 0, cells := 0, slots := 0, locals := 0 } : Room) s m args below meth c H locs 0 0 Q (F0 m 38 ls []) := by
      intro H locs ls hP hD hS hl
      obtain ⟨v4, hv4, h⟩ := pq_b h
      have X59_v4 : ∀ (H : Heap) (locs : List Loc) (ls : Array Slot), va_P D vwCl ([]) H → va_D A ([]) → va_S A s.heap H locs → lv_has ls 6 [(2, .double v4.1), (4, .long v4.2)] → W p l e ({ frames := 0, cells := 0, slots := 0, locals := 0 } : Room) s m args below meth c H locs 0 0 Q (F0 m 59 ls []) := by
        intro H locs ls hP hD hS hl
        refine lv_lload hx hb dX4_bitsOf_59 (lv_at hl 1 rfl) ?_
        refine lv_bipush (v := 52) hx hb dX4_bitsOf_61 (by decide) ?_
        refine lv_lshl (v := v4.2 <<< ((52 : Int32).toInt64 &&& 63)) hx hb dX4_bitsOf_63 rfl ?_
        refine lv_dload_n hx hb dX4_bitsOf_64 rfl (lv_at hl 0 rfl) ?_
        refine lv_ldc2d hx hb hown (hta _ aw_1020) dX4_bitsOf_65 ?_
        obtain ⟨hg, h⟩ := pq_g h
        refine lv_dmul hx hb dX4_bitsOf_68 (pq_nv hg) ?_
        refine lv_d2l hx hb dX4_bitsOf_69 ?_
        refine lv_ladd hx hb dX4_bitsOf_70 ?_
        refine lv_ldc2 hx hb hown (hta _ aw_1021) dX4_bitsOf_71 ?_
        refine lv_lsub hx hb dX4_bitsOf_74 ?_
        obtain rfl := Option.some.inj h
        subst hQ
        exact pw_rj hx hb hr hlk hAe hP hS rfl dX4_bitsOf_75
      clear h
      have L38_n3 : ∀ (n : Nat) (x2_38 : UInt64) (x4_38 : Int64) (H : Heap) (locs : List Loc) (ls : Array Slot), fX4_bitsOf_L38  n x2_38 x4_38 = some v4 → va_P D vwCl ([]) H → va_D A ([]) → va_S A s.heap H locs → lv_has ls 6 [(2, .double x2_38), (4, .long x4_38)] → W p l e ({ frames := 0, cells := 0, slots := 0, locals := 0 } : Room) s m args below meth c H locs 0 0 Q (F0 m 38 ls []) := by
        intro n
        induction n with
        | zero =>
          intro x2_38 x4_38 H locs ls h hP hD hS hl
          exact pq_n h
        | succ n ih38 =>
          intro x2_38 x4_38 H locs ls h hP hD hS hl
          rw [fX4_bitsOf_L38] at h
          refine lv_dload_n hx hb dX4_bitsOf_38 rfl (lv_at hl 0 rfl) ?_
          refine lv_dconst1 hx hb dX4_bitsOf_39 ?_
          refine lv_dcmp hx hb dX4_bitsOf_40 ?_
          refine lv_if_ge (tgt := 59) hx hb dX4_bitsOf_41 (by decide) (fun c3_ => ?_) (fun c3_ => ?_)
          · have h := pq_t c3_ h
            obtain rfl := Option.some.inj h
            exact X59_v4 _ _ _ hP hD hS (lv_sub hl [0, 1] rfl)
          · have h := pq_e c3_ h
            refine lv_dload_n hx hb dX4_bitsOf_44 rfl (lv_at hl 0 rfl) ?_
            refine lv_ldc2d hx hb hown (hta _ aw_1019) dX4_bitsOf_45 ?_
            obtain ⟨hg, h⟩ := pq_g h
            refine lv_dmul hx hb dX4_bitsOf_48 (pq_nv hg) ?_
            refine lv_dstore_n (lv' := [(2, .double (FP.dmul x2_38 4611686018427387904)), (4, .long x4_38)]) hx hb dX4_bitsOf_49 rfl hl (by decide) rfl (fun ls hl => ?_)
            refine lv_lload hx hb dX4_bitsOf_50 (lv_at hl 1 rfl) ?_
            refine lv_lconst (v := 1) hx hb dX4_bitsOf_52 (by decide) ?_
            refine lv_lsub hx hb dX4_bitsOf_53 ?_
            refine lv_lstore (lv' := [(4, .long (x4_38 - 1)), (2, .double (FP.dmul x2_38 4611686018427387904))]) hx hb dX4_bitsOf_54 hl (by decide) rfl (fun ls hl => ?_)
            refine lv_goto (tgt := 38) hx hb dX4_bitsOf_56 (by decide) ?_
            exact ih38 (FP.dmul x2_38 4611686018427387904) (x4_38 - 1) _ _ _ h hP hD hS (lv_sub hl [1, 0] rfl)
      have h := hv4
      exact L38_n3 1000 v2.1 v2.2 _ _ _ h hP hD hS (lv_sub hl [0, 1] rfl)
    clear h
    have L15_n1 : ∀ (n : Nat) (x2_15 : UInt64) (x4_15 : Int64) (H : Heap) (locs : List Loc) (ls : Array Slot), fX4_bitsOf_L15  n x2_15 x4_15 = some v2 → va_P D vwCl ([]) H → va_D A ([]) → va_S A s.heap H locs → lv_has ls 6 [(2, .double x2_15), (4, .long x4_15)] → W p l e ({ frames := 0, cells := 0, slots := 0, locals := 0 } : Room) s m args below meth c H locs 0 0 Q (F0 m 15 ls []) := by
      intro n
      induction n with
      | zero =>
        intro x2_15 x4_15 H locs ls h hP hD hS hl
        exact pq_n h
      | succ n ih15 =>
        intro x2_15 x4_15 H locs ls h hP hD hS hl
        rw [fX4_bitsOf_L15] at h
        refine lv_dload_n hx hb dX4_bitsOf_15 rfl (lv_at hl 0 rfl) ?_
        refine lv_ldc2d hx hb hown (hta _ aw_1019) dX4_bitsOf_16 ?_
        refine lv_dcmp hx hb dX4_bitsOf_19 ?_
        refine lv_if_lt (tgt := 38) hx hb dX4_bitsOf_20 (by decide) (fun c2_ => ?_) (fun c2_ => ?_)
        · have h := pq_t c2_ h
          obtain rfl := Option.some.inj h
          exact X38_v2 _ _ _ hP hD hS (lv_sub hl [0, 1] rfl)
        · have h := pq_e c2_ h
          refine lv_dload_n hx hb dX4_bitsOf_23 rfl (lv_at hl 0 rfl) ?_
          refine lv_ldc2d hx hb hown (hta _ aw_1019) dX4_bitsOf_24 ?_
          obtain ⟨hg, h⟩ := pq_g h
          refine lv_ddiv hx hb dX4_bitsOf_27 (pq_nv hg) ?_
          refine lv_dstore_n (lv' := [(2, .double (FP.ddiv x2_15 4611686018427387904)), (4, .long x4_15)]) hx hb dX4_bitsOf_28 rfl hl (by decide) rfl (fun ls hl => ?_)
          refine lv_lload hx hb dX4_bitsOf_29 (lv_at hl 1 rfl) ?_
          refine lv_lconst (v := 1) hx hb dX4_bitsOf_31 (by decide) ?_
          refine lv_ladd hx hb dX4_bitsOf_32 ?_
          refine lv_lstore (lv' := [(4, .long (x4_15 + 1)), (2, .double (FP.ddiv x2_15 4611686018427387904))]) hx hb dX4_bitsOf_33 hl (by decide) rfl (fun ls hl => ?_)
          refine lv_goto (tgt := 15) hx hb dX4_bitsOf_35 (by decide) ?_
          exact ih15 (FP.ddiv x2_15 4611686018427387904) (x4_15 + 1) _ _ _ h hP hD hS (lv_sub hl [1, 0] rfl)
    have h := hv2
    exact L15_n1 1000 x0 1023 _ _ _ h hP hD hS (lv_sub hl [1, 0] rfl)
  · have h := pq_t c1_ h
    refine lv_lconst (v := 0) hx hb dX4_bitsOf_6 (by decide) ?_
    obtain rfl := Option.some.inj h
    subst hQ
    exact pw_rj hx hb hr hlk hAe hP hS rfl dX4_bitsOf_7

def aX4_mix : List Cond := Cond.code yX4_mix cX4_mix 3 none :: pw_all
theorem pX4_mix : yX4_mix.cls = RX4 ∧ yX4_mix.cls ≠ "java/lang/invoke/MethodHandle" ∧ yX4_mix.cls ≠ "java/lang/invoke/VarHandle" ∧ (parseMethodDescriptor yX4_mix.desc).map (fun d => d.parameters.length) = some 1 := by decide +kernel
set_option maxHeartbeats 8000000 in
set_option maxRecDepth 100000 in
theorem kX4_mix (l : Launch) (D : va_G) (cy : Nat → ClassId) (q : Nat → Nat) (sz : Nat) (th : Int32) (z : Nat → Int32) (sv : Nat → Int32) (sn : Int32) (sp : Nat → Int32) (bf : Nat → Int32) (ty : Int32) (gn : Nat → Int32) (hs : Int64) (x1 : Int64) (o : Int64) (h : fX4_mix x1 hs = some o) : Met l yX4_mix aX4_mix ({ frames := 0, cells := 0, slots := 0, locals := 0 }) (pw_Pre D cy [.ref (q 0), .long x1] (WM cy q th z sv sn sp bf ty gn hs) sz) (pw_V D (WM cy q th z sv sn sp bf ty gn hs) (WM cy q th z sv sn sp bf ty gn o) sz) 0 0 (va_A (WM cy q th z sv sn sp bf ty gn hs) sz) := by
  refine pw_met (cc := cX4_mix) (maxL := 3) (ret := none) (by decide) rfl (Nat.le_of_ble_eq_true rfl) ?_
  intro p e s m args below meth c ls A hx hb hr hml hlk hts hown hAe hA hK hP hD hS hl
  have hl : lv_has ls 3 [(0, .ref (q 0)), (1, .long x1)] := hl
  generalize hQ : MQ below (pw_V D (WM cy q th z sv sn sp bf ty gn hs) (WM cy q th z sv sn sp bf ty gn o) sz) args s 0 0 (va_A (WM cy q th z sv sn sp bf ty gn hs) sz) = Q
  have hF : CallFix p m c cX4_mix 3 s args aX4_mix RX4 := ⟨hx, hb, hml, hown, hts⟩
  have hta : ∀ w ∈ pw_all, w.before args s = true := fun w h => hts w (List.mem_cons_of_mem _ h)
  have hin : ∀ w ∈ wsX40, w ∈ aX4_mix := fun w h => List.mem_cons_of_mem _ (inA4 w h)
  unfold fX4_mix at h
  refine lv_aload_n hx hb dX4_mix_0 rfl (lv_at hl 0 rfl) ?_
  refine lv_ldc2 hx hb hown (hta _ aw_1010) dX4_mix_1 ?_
  refine lv_aload_n hx hb dX4_mix_4 rfl (lv_at hl 0 rfl) ?_
  refine va_get (D := D) (ci := 4) (v := .long hs) (C := RX4) (T := TX4) (N := 9) hx hb hts hin hown hK hP 0 rfl rfl 8 (by decide) (hta _ aw_694) (fun _ h9 => h9) rfl dX4_mix_5 ?_
  refine lv_lmul hx hb dX4_mix_8 ?_
  refine lv_lload_n hx hb dX4_mix_9 rfl (lv_at hl 1 rfl) ?_
  refine lv_ladd hx hb dX4_mix_10 ?_
  refine va_put (D := D) (ci := 4) (v := .long ((31 * hs) + x1)) (ty := .long) (C := RX4) (T := TX4) (N := 9) hx hb hts hin tyX4 tyX4_ok nmX4 hown hK hP hD hS 0 rfl rfl 8 (by decide) (hta _ aw_694) (fun _ h9 => h9) rfl (by decide +kernel) rfl rfl (Nat.le_of_ble_eq_true rfl) dX4_mix_11 (fun H locs hP hD hS => ?_)
  have hP : va_P D vwCl (WM cy q th z sv sn sp bf ty gn ((31 * hs) + x1)) H := hP
  have hD : va_D A (WM cy q th z sv sn sp bf ty gn ((31 * hs) + x1)) := hD
  obtain rfl := Option.some.inj h
  subst hQ
  exact pw_rv hx hb hr hlk hAe hP hS dX4_mix_14

def aX4_mixOwner : List Cond := Cond.code yX4_mixOwner cX4_mixOwner 3 none :: pw_all
theorem pX4_mixOwner : yX4_mixOwner.cls = RX4 ∧ yX4_mixOwner.cls ≠ "java/lang/invoke/MethodHandle" ∧ yX4_mixOwner.cls ≠ "java/lang/invoke/VarHandle" ∧ (parseMethodDescriptor yX4_mixOwner.desc).map (fun d => d.parameters.length) = some 1 := by decide +kernel
set_option maxHeartbeats 8000000 in
set_option maxRecDepth 100000 in
theorem kX4_mixOwner (l : Launch) (D : va_G) (cy : Nat → ClassId) (q : Nat → Nat) (sz : Nat) (th : Int32) (z : Nat → Int32) (sv : Nat → Int32) (sn : Int32) (sp : Nat → Int32) (bf : Nat → Int32) (ty : Int32) (gn : Nat → Int32) (hs : Int64) (x1 : Int32) (o : (Nat → Int32) × (Nat → Int32) × (Nat → Int32) × Int64) (h : fX4_mixOwner x1 z sp gn hs = some o) : Met l yX4_mixOwner aX4_mixOwner ({ frames := 8, cells := 0, slots := 0, locals := 178 }) (pw_Pre D cy [.ref (q 0), .int x1] (WM cy q th z sv sn sp bf ty gn hs) sz) (pw_V D (WM cy q th z sv sn sp bf ty gn hs) (WM cy q th o.1 sv sn o.2.1 bf ty o.2.2.1 o.2.2.2) sz) 0 0 (va_A (WM cy q th z sv sn sp bf ty gn hs) sz) := by
  refine pw_met (cc := cX4_mixOwner) (maxL := 3) (ret := none) (by decide) rfl (Nat.le_of_ble_eq_true rfl) ?_
  intro p e s m args below meth c ls A hx hb hr hml hlk hts hown hAe hA hK hP hD hS hl
  have hl : lv_has ls 3 [(0, .ref (q 0)), (1, .int x1)] := hl
  generalize hQ : MQ below (pw_V D (WM cy q th z sv sn sp bf ty gn hs) (WM cy q th o.1 sv sn o.2.1 bf ty o.2.2.1 o.2.2.2) sz) args s 0 0 (va_A (WM cy q th z sv sn sp bf ty gn hs) sz) = Q
  have hF : CallFix p m c cX4_mixOwner 3 s args aX4_mixOwner RX4 := ⟨hx, hb, hml, hown, hts⟩
  have hta : ∀ w ∈ pw_all, w.before args s = true := fun w h => hts w (List.mem_cons_of_mem _ h)
  have hin : ∀ w ∈ wsX40, w ∈ aX4_mixOwner := fun w h => List.mem_cons_of_mem _ (inA4 w h)
  unfold fX4_mixOwner at h
  refine lv_iconst (v := 0) hx hb dX4_mixOwner_0 (by decide) ?_
  refine lv_istore_n (lv' := [(2, .int 0), (0, .ref (q 0)), (1, .int x1)]) hx hb dX4_mixOwner_1 rfl hl (by decide) rfl (fun ls hl => ?_)
  obtain ⟨v2, hv2, h⟩ := pq_b h
  have X25_v2 : ∀ (H : Heap) (locs : List Loc) (ls : Array Slot), va_P D vwCl (WM cy q th z sv sn sp bf ty gn v2) H → va_D A (WM cy q th z sv sn sp bf ty gn v2) → va_S A s.heap H locs → lv_has ls 3 [(0, .ref (q 0)), (1, .int x1)] → W p l e ({ frames := 8, cells := 0, slots := 0, locals := 178 } : Room) s m args below meth c H locs 0 0 Q (F0 m 25 ls []) := by
    intro H locs ls hP hD hS hl
    refine lv_iconst (v := 0) hx hb dX4_mixOwner_25 (by decide) ?_
    refine lv_istore_n (lv' := [(2, .int 0), (0, .ref (q 0)), (1, .int x1)]) hx hb dX4_mixOwner_26 rfl hl (by decide) rfl (fun ls hl => ?_)
    obtain ⟨v6, hv6, h⟩ := pq_b h
    have X49_v6 : ∀ (H : Heap) (locs : List Loc) (ls : Array Slot), va_P D vwCl (WM cy q th v6.1 sv sn v6.2.1 bf ty v6.2.2.1 v6.2.2.2) H → va_D A (WM cy q th v6.1 sv sn v6.2.1 bf ty v6.2.2.1 v6.2.2.2) → va_S A s.heap H locs → lv_has ls 3 [(0, .ref (q 0)), (1, .int x1)] → W p l e ({ frames := 8, cells := 0, slots := 0, locals := 178 } : Room) s m args below meth c H locs 0 0 Q (F0 m 49 ls []) := by
      intro H locs ls hP hD hS hl
      refine lv_aload_n hx hb dX4_mixOwner_49 rfl (lv_at hl 0 rfl) ?_
      refine lv_aload_n hx hb dX4_mixOwner_50 rfl (lv_at hl 0 rfl) ?_
      refine lv_iload_n hx hb dX4_mixOwner_51 rfl (lv_at hl 1 rfl) ?_
      obtain ⟨r9, hr9, h⟩ := pq_b h
      refine pw_ci (w1 := WM cy q th r9.2.1 sv sn r9.2.2.1 bf ty r9.2.2.2 v6.2.2.2) (rest := [.ref (q 0)]) (As := [.int x1]) hF (kX4_wouldWait l D cy q _ th v6.1 sv sn v6.2.1 bf ty v6.2.2.1 v6.2.2.2 x1 r9 hr9) (cwV 1 hts (pw_gV (own := RX4) (idx := 189) (C := RX4) (y := yX4_wouldWait) aw_981 aw_983 aw_s60 aw_6 aw_984) rfl rfl rfl pX4_wouldWait ⟨Nat.le_of_ble_eq_true rfl, Nat.le_of_ble_eq_true rfl⟩) (va_recv hK hP (ci := 4) (q0 := 0) rfl rfl) hK hP hD hS hA rfl rfl hl.1 rfl (Nat.le_of_ble_eq_true rfl) dX4_mixOwner_52 ⟨Nat.zero_le _, Nat.zero_le _⟩ (fun H locs hP hD hS => ?_)
      refine lv_i2l (v := r9.1.toInt64) hx hb dX4_mixOwner_55 rfl ?_
      obtain ⟨r10, hr10, h⟩ := pq_b h
      refine pw_cv (w1 := WM cy q th r9.2.1 sv sn r9.2.2.1 bf ty r9.2.2.2 r10) (rest := []) (As := [.long r9.1.toInt64]) hF (kX4_mix l D cy q _ th r9.2.1 sv sn r9.2.2.1 bf ty r9.2.2.2 v6.2.2.2 r9.1.toInt64 r10 hr10) (cwV 1 hts (pw_gV (own := RX4) (idx := 213) (C := RX4) (y := yX4_mix) aw_1006 aw_1008 aw_s63 aw_6 aw_1009) rfl rfl rfl pX4_mix ⟨Nat.le_of_ble_eq_true rfl, Nat.le_of_ble_eq_true rfl⟩) (va_recv hK hP (ci := 4) (q0 := 0) rfl rfl) hK hP hD hS hA rfl rfl hl.1 rfl (Nat.le_of_ble_eq_true rfl) dX4_mixOwner_56 ⟨Nat.zero_le _, Nat.zero_le _⟩ (fun H locs hP hD hS => ?_)
      obtain rfl := Option.some.inj h
      subst hQ
      exact pw_rv hx hb hr hlk hAe hP hS dX4_mixOwner_59
    clear h
    have L27_n5 : ∀ (n : Nat) (x2_27 : Int32) (z_27 : Nat → Int32) (sp_27 : Nat → Int32) (gn_27 : Nat → Int32) (hs_27 : Int64) (H : Heap) (locs : List Loc) (ls : Array Slot), fX4_mixOwner_L27 x1 n x2_27 z_27 sp_27 gn_27 hs_27 = some v6 → va_P D vwCl (WM cy q th z_27 sv sn sp_27 bf ty gn_27 hs_27) H → va_D A (WM cy q th z_27 sv sn sp_27 bf ty gn_27 hs_27) → va_S A s.heap H locs → lv_has ls 3 [(0, .ref (q 0)), (1, .int x1), (2, .int x2_27)] → W p l e ({ frames := 8, cells := 0, slots := 0, locals := 178 } : Room) s m args below meth c H locs 0 0 Q (F0 m 27 ls []) := by
      intro n
      induction n with
      | zero =>
        intro x2_27 z_27 sp_27 gn_27 hs_27 H locs ls h hP hD hS hl
        exact pq_n h
      | succ n ih27 =>
        intro x2_27 z_27 sp_27 gn_27 hs_27 H locs ls h hP hD hS hl
        rw [fX4_mixOwner_L27] at h
        refine lv_iload_n hx hb dX4_mixOwner_27 rfl (lv_at hl 2 rfl) ?_
        refine lv_iconst (v := 2) hx hb dX4_mixOwner_28 (by decide) ?_
        refine lv_icmp_gt (tgt := 49) hx hb dX4_mixOwner_29 (by decide) (fun c2_ => ?_) (fun c2_ => ?_)
        · have h := pq_t c2_ h
          obtain rfl := Option.some.inj h
          exact X49_v6 _ _ _ hP hD hS (lv_sub hl [0, 1] rfl)
        · have h := pq_e c2_ h
          refine lv_aload_n hx hb dX4_mixOwner_32 rfl (lv_at hl 0 rfl) ?_
          refine lv_aload_n hx hb dX4_mixOwner_33 rfl (lv_at hl 0 rfl) ?_
          refine lv_iload_n hx hb dX4_mixOwner_34 rfl (lv_at hl 1 rfl) ?_
          refine lv_iload_n hx hb dX4_mixOwner_35 rfl (lv_at hl 2 rfl) ?_
          obtain ⟨r7, hr7, h⟩ := pq_b h
          refine pw_ci (w1 := WM cy q th r7.2.1 sv sn r7.2.2.1 bf ty r7.2.2.2 hs_27) (rest := [.ref (q 0)]) (As := [.int x1, .int x2_27]) hF (kX4_wouldGet l D cy q _ th z_27 sv sn sp_27 bf ty gn_27 hs_27 x1 x2_27 r7 hr7) (cwV 2 hts (pw_gV (own := RX4) (idx := 183) (C := RX4) (y := yX4_wouldGet) aw_957 aw_959 aw_s56 aw_6 aw_960) rfl rfl rfl pX4_wouldGet ⟨Nat.le_of_ble_eq_true rfl, Nat.le_of_ble_eq_true rfl⟩) (va_recv hK hP (ci := 4) (q0 := 0) rfl rfl) hK hP hD hS hA rfl rfl hl.1 rfl (Nat.le_of_ble_eq_true rfl) dX4_mixOwner_36 ⟨Nat.zero_le _, Nat.zero_le _⟩ (fun H locs hP hD hS => ?_)
          refine lv_i2l (v := r7.1.toInt64) hx hb dX4_mixOwner_39 rfl ?_
          obtain ⟨r8, hr8, h⟩ := pq_b h
          refine pw_cv (w1 := WM cy q th r7.2.1 sv sn r7.2.2.1 bf ty r7.2.2.2 r8) (rest := []) (As := [.long r7.1.toInt64]) hF (kX4_mix l D cy q _ th r7.2.1 sv sn r7.2.2.1 bf ty r7.2.2.2 hs_27 r7.1.toInt64 r8 hr8) (cwV 1 hts (pw_gV (own := RX4) (idx := 213) (C := RX4) (y := yX4_mix) aw_1006 aw_1008 aw_s63 aw_6 aw_1009) rfl rfl rfl pX4_mix ⟨Nat.le_of_ble_eq_true rfl, Nat.le_of_ble_eq_true rfl⟩) (va_recv hK hP (ci := 4) (q0 := 0) rfl rfl) hK hP hD hS hA rfl rfl hl.1 rfl (Nat.le_of_ble_eq_true rfl) dX4_mixOwner_40 ⟨Nat.zero_le _, Nat.zero_le _⟩ (fun H locs hP hD hS => ?_)
          refine lv_iinc (v := x2_27 + 1) (lv' := [(2, .int (x2_27 + 1)), (0, .ref (q 0)), (1, .int x1)]) hx hb dX4_mixOwner_43 hl (k := 2) rfl (by first | rfl | decide) (by decide) rfl (fun ls hl => ?_)
          refine lv_goto (tgt := 27) hx hb dX4_mixOwner_46 (by decide) ?_
          exact ih27 (x2_27 + 1) r7.2.1 r7.2.2.1 r7.2.2.2 r8 _ _ _ h hP hD hS (lv_sub hl [1, 2, 0] rfl)
    have h := hv6
    exact L27_n5 1000 0 z sp gn v2 _ _ _ h hP hD hS (lv_sub hl [1, 2, 0] rfl)
  clear h
  have L2_n1 : ∀ (n : Nat) (x2_2 : Int32) (hs_2 : Int64) (H : Heap) (locs : List Loc) (ls : Array Slot), fX4_mixOwner_L2 x1 z n x2_2 hs_2 = some v2 → va_P D vwCl (WM cy q th z sv sn sp bf ty gn hs_2) H → va_D A (WM cy q th z sv sn sp bf ty gn hs_2) → va_S A s.heap H locs → lv_has ls 3 [(0, .ref (q 0)), (1, .int x1), (2, .int x2_2)] → W p l e ({ frames := 8, cells := 0, slots := 0, locals := 178 } : Room) s m args below meth c H locs 0 0 Q (F0 m 2 ls []) := by
    intro n
    induction n with
    | zero =>
      intro x2_2 hs_2 H locs ls h hP hD hS hl
      exact pq_n h
    | succ n ih2 =>
      intro x2_2 hs_2 H locs ls h hP hD hS hl
      rw [fX4_mixOwner_L2] at h
      refine lv_iload_n hx hb dX4_mixOwner_2 rfl (lv_at hl 2 rfl) ?_
      refine lv_bipush (v := 6) hx hb dX4_mixOwner_3 (by decide) ?_
      refine lv_icmp_gt (tgt := 25) hx hb dX4_mixOwner_5 (by decide) (fun c1_ => ?_) (fun c1_ => ?_)
      · have h := pq_t c1_ h
        obtain rfl := Option.some.inj h
        exact X25_v2 _ _ _ hP hD hS (lv_sub hl [0, 1] rfl)
      · have h := pq_e c1_ h
        refine lv_aload_n hx hb dX4_mixOwner_8 rfl (lv_at hl 0 rfl) ?_
        refine lv_aload_n hx hb dX4_mixOwner_9 rfl (lv_at hl 0 rfl) ?_
        refine lv_iload_n hx hb dX4_mixOwner_10 rfl (lv_at hl 1 rfl) ?_
        refine lv_iload_n hx hb dX4_mixOwner_11 rfl (lv_at hl 2 rfl) ?_
        obtain ⟨r3, hr3, h⟩ := pq_b h
        refine pw_ci (w1 := WM cy q th z sv sn sp bf ty gn hs_2) (rest := [.ref (q 0)]) (As := [.int x1, .int x2_2]) hF (kX4_toldOwner l D cy q _ th z sv sn sp bf ty gn hs_2 x1 x2_2 r3 hr3) (cwV 2 hts (pw_gV (own := RX4) (idx := 168) (C := RX4) (y := yX4_toldOwner) aw_933 aw_935 aw_s53 aw_6 aw_936) rfl rfl rfl pX4_toldOwner ⟨Nat.le_of_ble_eq_true rfl, Nat.le_of_ble_eq_true rfl⟩) (va_recv hK hP (ci := 4) (q0 := 0) rfl rfl) hK hP hD hS hA rfl rfl hl.1 rfl (Nat.le_of_ble_eq_true rfl) dX4_mixOwner_12 ⟨Nat.zero_le _, Nat.zero_le _⟩ (fun H locs hP hD hS => ?_)
        refine lv_i2l (v := r3.toInt64) hx hb dX4_mixOwner_15 rfl ?_
        obtain ⟨r4, hr4, h⟩ := pq_b h
        refine pw_cv (w1 := WM cy q th z sv sn sp bf ty gn r4) (rest := []) (As := [.long r3.toInt64]) hF (kX4_mix l D cy q _ th z sv sn sp bf ty gn hs_2 r3.toInt64 r4 hr4) (cwV 1 hts (pw_gV (own := RX4) (idx := 213) (C := RX4) (y := yX4_mix) aw_1006 aw_1008 aw_s63 aw_6 aw_1009) rfl rfl rfl pX4_mix ⟨Nat.le_of_ble_eq_true rfl, Nat.le_of_ble_eq_true rfl⟩) (va_recv hK hP (ci := 4) (q0 := 0) rfl rfl) hK hP hD hS hA rfl rfl hl.1 rfl (Nat.le_of_ble_eq_true rfl) dX4_mixOwner_16 ⟨Nat.zero_le _, Nat.zero_le _⟩ (fun H locs hP hD hS => ?_)
        refine lv_iinc (v := x2_2 + 1) (lv' := [(2, .int (x2_2 + 1)), (0, .ref (q 0)), (1, .int x1)]) hx hb dX4_mixOwner_19 hl (k := 2) rfl (by first | rfl | decide) (by decide) rfl (fun ls hl => ?_)
        refine lv_goto (tgt := 2) hx hb dX4_mixOwner_22 (by decide) ?_
        exact ih2 (x2_2 + 1) r4 _ _ _ h hP hD hS (lv_sub hl [1, 2, 0] rfl)
  have h := hv2
  exact L2_n1 1000 0 hs _ _ _ h hP hD hS (lv_sub hl [1, 2, 0] rfl)

def aX4_digest : List Cond := Cond.code yX4_digest cX4_digest 3 (some .long) :: pw_all
theorem pX4_digest : yX4_digest.cls = RX4 ∧ yX4_digest.cls ≠ "java/lang/invoke/MethodHandle" ∧ yX4_digest.cls ≠ "java/lang/invoke/VarHandle" ∧ (parseMethodDescriptor yX4_digest.desc).map (fun d => d.parameters.length) = some 0 := by decide +kernel
set_option maxHeartbeats 8000000 in
set_option maxRecDepth 100000 in
theorem kX4_digest (l : Launch) (D : va_G) (cy : Nat → ClassId) (q : Nat → Nat) (sz : Nat) (th : Int32) (z : Nat → Int32) (sv : Nat → Int32) (sn : Int32) (sp : Nat → Int32) (bf : Nat → Int32) (ty : Int32) (gn : Nat → Int32) (hs : Int64)  (o : Int64 × Int32 × (Nat → Int32) × (Nat → Int32) × (Nat → Int32) × Int64) (h : fX4_digest th z sn sp bf ty gn hs = some o) : Met l yX4_digest aX4_digest ({ frames := 9, cells := 0, slots := 0, locals := 202 }) (pw_Pre D cy [.ref (q 0)] (WM cy q th z sv sn sp bf ty gn hs) sz) (pw_J D o.1 (WM cy q th z sv sn sp bf ty gn hs) (WM cy q o.2.1 o.2.2.1 sv sn o.2.2.2.1 bf ty o.2.2.2.2.1 o.2.2.2.2.2) sz) 0 0 (va_A (WM cy q th z sv sn sp bf ty gn hs) sz) := by
  refine pw_met (cc := cX4_digest) (maxL := 3) (ret := (some .long)) (by decide) rfl (Nat.le_of_ble_eq_true rfl) ?_
  intro p e s m args below meth c ls A hx hb hr hml hlk hts hown hAe hA hK hP hD hS hl
  have hl : lv_has ls 3 [(0, .ref (q 0))] := hl
  generalize hQ : MQ below (pw_J D o.1 (WM cy q th z sv sn sp bf ty gn hs) (WM cy q o.2.1 o.2.2.1 sv sn o.2.2.2.1 bf ty o.2.2.2.2.1 o.2.2.2.2.2) sz) args s 0 0 (va_A (WM cy q th z sv sn sp bf ty gn hs) sz) = Q
  have hF : CallFix p m c cX4_digest 3 s args aX4_digest RX4 := ⟨hx, hb, hml, hown, hts⟩
  have hta : ∀ w ∈ pw_all, w.before args s = true := fun w h => hts w (List.mem_cons_of_mem _ h)
  have hin : ∀ w ∈ wsX40, w ∈ aX4_digest := fun w h => List.mem_cons_of_mem _ (inA4 w h)
  unfold fX4_digest at h
  refine lv_aload_n hx hb dX4_digest_0 rfl (lv_at hl 0 rfl) ?_
  refine lv_iconst (v := 0) hx hb dX4_digest_1 (by decide) ?_
  refine va_put (D := D) (ci := 4) (v := .int 0) (ty := .int) (C := RX4) (T := TX4) (N := 9) hx hb hts hin tyX4 tyX4_ok nmX4 hown hK hP hD hS 0 rfl rfl 0 (by decide) (hta _ aw_686) (fun _ h9 => h9) rfl (by decide +kernel) rfl rfl (Nat.le_of_ble_eq_true rfl) dX4_digest_2 (fun H locs hP hD hS => ?_)
  have hP : va_P D vwCl (WM cy q 0 z sv sn sp bf ty gn hs) H := hP
  have hD : va_D A (WM cy q 0 z sv sn sp bf ty gn hs) := hD
  refine lv_aload_n hx hb dX4_digest_5 rfl (lv_at hl 0 rfl) ?_
  refine lv_ldc2 hx hb hown (hta _ aw_1005) dX4_digest_6 ?_
  refine va_put (D := D) (ci := 4) (v := .long 2753) (ty := .long) (C := RX4) (T := TX4) (N := 9) hx hb hts hin tyX4 tyX4_ok nmX4 hown hK hP hD hS 0 rfl rfl 8 (by decide) (hta _ aw_694) (fun _ h9 => h9) rfl (by decide +kernel) rfl rfl (Nat.le_of_ble_eq_true rfl) dX4_digest_9 (fun H locs hP hD hS => ?_)
  have hP : va_P D vwCl (WM cy q 0 z sv sn sp bf ty gn 2753) H := hP
  have hD : va_D A (WM cy q 0 z sv sn sp bf ty gn 2753) := hD
  refine lv_iconst (v := 0) hx hb dX4_digest_12 (by decide) ?_
  refine lv_istore_n (lv' := [(1, .int 0), (0, .ref (q 0))]) hx hb dX4_digest_13 rfl hl (by decide) rfl (fun ls hl => ?_)
  obtain ⟨v2, hv2, h⟩ := pq_b h
  have X36_v2 : ∀ (H : Heap) (locs : List Loc) (ls : Array Slot), va_P D vwCl (WM cy q 0 z sv sn sp bf ty gn v2) H → va_D A (WM cy q 0 z sv sn sp bf ty gn v2) → va_S A s.heap H locs → lv_has ls 3 [(0, .ref (q 0))] → W p l e ({ frames := 9, cells := 0, slots := 0, locals := 202 } : Room) s m args below meth c H locs 0 0 Q (F0 m 36 ls []) := by
    intro H locs ls hP hD hS hl
    refine lv_iconst (v := 0) hx hb dX4_digest_36 (by decide) ?_
    refine lv_istore_n (lv' := [(1, .int 0), (0, .ref (q 0))]) hx hb dX4_digest_37 rfl hl (by decide) rfl (fun ls hl => ?_)
    obtain ⟨v6, hv6, h⟩ := pq_b h
    have X61_v6 : ∀ (H : Heap) (locs : List Loc) (ls : Array Slot), va_P D vwCl (WM cy q 0 z sv sn sp bf ty gn v6) H → va_D A (WM cy q 0 z sv sn sp bf ty gn v6) → va_S A s.heap H locs → lv_has ls 3 [(0, .ref (q 0))] → W p l e ({ frames := 9, cells := 0, slots := 0, locals := 202 } : Room) s m args below meth c H locs 0 0 Q (F0 m 61 ls []) := by
      intro H locs ls hP hD hS hl
      refine lv_iconst (v := 0) hx hb dX4_digest_61 (by decide) ?_
      refine lv_istore_n (lv' := [(1, .int 0), (0, .ref (q 0))]) hx hb dX4_digest_62 rfl hl (by decide) rfl (fun ls hl => ?_)
      obtain ⟨v9, hv9, h⟩ := pq_b h
      have X99_v9 : ∀ (H : Heap) (locs : List Loc) (ls : Array Slot), va_P D vwCl (WM cy q 0 z sv sn sp bf ty gn v9) H → va_D A (WM cy q 0 z sv sn sp bf ty gn v9) → va_S A s.heap H locs → lv_has ls 3 [(0, .ref (q 0))] → W p l e ({ frames := 9, cells := 0, slots := 0, locals := 202 } : Room) s m args below meth c H locs 0 0 Q (F0 m 99 ls []) := by
        intro H locs ls hP hD hS hl
        refine lv_iconst (v := 0) hx hb dX4_digest_99 (by decide) ?_
        refine lv_istore_n (lv' := [(1, .int 0), (0, .ref (q 0))]) hx hb dX4_digest_100 rfl hl (by decide) rfl (fun ls hl => ?_)
        obtain ⟨v15, hv15, h⟩ := pq_b h
        have X118_v15 : ∀ (H : Heap) (locs : List Loc) (ls : Array Slot), va_P D vwCl (WM cy q 0 v15.1 sv sn v15.2.1 bf ty v15.2.2.1 v15.2.2.2) H → va_D A (WM cy q 0 v15.1 sv sn v15.2.1 bf ty v15.2.2.1 v15.2.2.2) → va_S A s.heap H locs → lv_has ls 3 [(0, .ref (q 0))] → W p l e ({ frames := 9, cells := 0, slots := 0, locals := 202 } : Room) s m args below meth c H locs 0 0 Q (F0 m 118 ls []) := by
          intro H locs ls hP hD hS hl
          refine lv_iconst (v := 0) hx hb dX4_digest_118 (by decide) ?_
          refine lv_istore_n (lv' := [(1, .int 0), (0, .ref (q 0))]) hx hb dX4_digest_119 rfl hl (by decide) rfl (fun ls hl => ?_)
          obtain ⟨v18, hv18, h⟩ := pq_b h
          have X143_v18 : ∀ (H : Heap) (locs : List Loc) (ls : Array Slot), va_P D vwCl (WM cy q 0 v18.1 sv sn v18.2.1 bf ty v18.2.2.1 v18.2.2.2) H → va_D A (WM cy q 0 v18.1 sv sn v18.2.1 bf ty v18.2.2.1 v18.2.2.2) → va_S A s.heap H locs → lv_has ls 3 [(0, .ref (q 0))] → W p l e ({ frames := 9, cells := 0, slots := 0, locals := 202 } : Room) s m args below meth c H locs 0 0 Q (F0 m 143 ls []) := by
            intro H locs ls hP hD hS hl
            refine lv_aload_n hx hb dX4_digest_143 rfl (lv_at hl 0 rfl) ?_
            refine lv_aload_n hx hb dX4_digest_144 rfl (lv_at hl 0 rfl) ?_
            obtain ⟨r21, hr21, h⟩ := pq_b h
            refine pw_ci (w1 := WM cy q 0 v18.1 sv sn v18.2.1 bf ty v18.2.2.1 v18.2.2.2) (rest := [.ref (q 0)]) (As := []) hF (kX4_blockerNow l D cy q _ 0 v18.1 sv sn v18.2.1 bf ty v18.2.2.1 v18.2.2.2  r21 hr21) (cwV 0 hts (pw_gV (own := RX4) (idx := 192) (C := RX4) (y := yX4_blockerNow) aw_989 aw_991 aw_s61 aw_6 aw_992) rfl rfl rfl pX4_blockerNow ⟨Nat.le_of_ble_eq_true rfl, Nat.le_of_ble_eq_true rfl⟩) (va_recv hK hP (ci := 4) (q0 := 0) rfl rfl) hK hP hD hS hA rfl rfl hl.1 rfl (Nat.le_of_ble_eq_true rfl) dX4_digest_145 ⟨Nat.zero_le _, Nat.zero_le _⟩ (fun H locs hP hD hS => ?_)
            refine lv_i2l (v := r21.toInt64) hx hb dX4_digest_148 rfl ?_
            obtain ⟨r22, hr22, h⟩ := pq_b h
            refine pw_cv (w1 := WM cy q 0 v18.1 sv sn v18.2.1 bf ty v18.2.2.1 r22) (rest := []) (As := [.long r21.toInt64]) hF (kX4_mix l D cy q _ 0 v18.1 sv sn v18.2.1 bf ty v18.2.2.1 v18.2.2.2 r21.toInt64 r22 hr22) (cwV 1 hts (pw_gV (own := RX4) (idx := 213) (C := RX4) (y := yX4_mix) aw_1006 aw_1008 aw_s63 aw_6 aw_1009) rfl rfl rfl pX4_mix ⟨Nat.le_of_ble_eq_true rfl, Nat.le_of_ble_eq_true rfl⟩) (va_recv hK hP (ci := 4) (q0 := 0) rfl rfl) hK hP hD hS hA rfl rfl hl.1 rfl (Nat.le_of_ble_eq_true rfl) dX4_digest_149 ⟨Nat.zero_le _, Nat.zero_le _⟩ (fun H locs hP hD hS => ?_)
            refine lv_aload_n hx hb dX4_digest_152 rfl (lv_at hl 0 rfl) ?_
            refine lv_aload_n hx hb dX4_digest_153 rfl (lv_at hl 0 rfl) ?_
            obtain ⟨r23, hr23, h⟩ := pq_b h
            refine pw_cd (w1 := WM cy q 0 v18.1 sv sn v18.2.1 bf ty v18.2.2.1 r22) (rest := [.ref (q 0)]) (As := []) hF (kX4_evenness l D cy q _ 0 v18.1 sv sn v18.2.1 bf ty v18.2.2.1 r22  r23 hr23) (cwV 0 hts (pw_gV (own := RX4) (idx := 195) (C := RX4) (y := yX4_evenness) aw_997 aw_999 aw_s62 aw_6 aw_1000) rfl rfl rfl pX4_evenness ⟨Nat.le_of_ble_eq_true rfl, Nat.le_of_ble_eq_true rfl⟩) (va_recv hK hP (ci := 4) (q0 := 0) rfl rfl) hK hP hD hS hA rfl rfl hl.1 rfl (Nat.le_of_ble_eq_true rfl) dX4_digest_154 ⟨Nat.zero_le _, Nat.zero_le _⟩ (fun H locs hP hD hS => ?_)
            obtain ⟨r24, hr24, h⟩ := pq_b h
            refine pw_sj (rest := [.ref (q 0)]) (As := [.double r23]) hF (kX4_bitsOf l D cy _ r23 r24 hr24) (cwS 1 hts (pw_gS (own := RX4) (idx := 222) (y := yX4_bitsOf) aw_1015 aw_1016 aw_6 aw_1017) rfl rfl rfl pX4_bitsOf ⟨Nat.le_of_ble_eq_true rfl, Nat.le_of_ble_eq_true rfl⟩) hK hP hS hA rfl hl.1 rfl (Nat.le_of_ble_eq_true rfl) dX4_digest_157 ⟨Nat.zero_le _, Nat.zero_le _⟩ (fun H locs hP hS => ?_)
            obtain ⟨r25, hr25, h⟩ := pq_b h
            refine pw_cv (w1 := WM cy q 0 v18.1 sv sn v18.2.1 bf ty v18.2.2.1 r25) (rest := []) (As := [.long r24]) hF (kX4_mix l D cy q _ 0 v18.1 sv sn v18.2.1 bf ty v18.2.2.1 r22 r24 r25 hr25) (cwV 1 hts (pw_gV (own := RX4) (idx := 213) (C := RX4) (y := yX4_mix) aw_1006 aw_1008 aw_s63 aw_6 aw_1009) rfl rfl rfl pX4_mix ⟨Nat.le_of_ble_eq_true rfl, Nat.le_of_ble_eq_true rfl⟩) (va_recv hK hP (ci := 4) (q0 := 0) rfl rfl) hK hP hD hS hA rfl rfl hl.1 rfl (Nat.le_of_ble_eq_true rfl) dX4_digest_160 ⟨Nat.zero_le _, Nat.zero_le _⟩ (fun H locs hP hD hS => ?_)
            refine lv_aload_n hx hb dX4_digest_163 rfl (lv_at hl 0 rfl) ?_
            refine lv_aload_n hx hb dX4_digest_164 rfl (lv_at hl 0 rfl) ?_
            refine va_get (D := D) (ci := 4) (v := .int ty) (C := RX4) (T := TX4) (N := 9) hx hb hts hin hown hK hP 0 rfl rfl 6 (by decide) (hta _ aw_692) (fun _ h9 => h9) rfl dX4_digest_165 ?_
            refine lv_i2l (v := ty.toInt64) hx hb dX4_digest_168 rfl ?_
            obtain ⟨r26, hr26, h⟩ := pq_b h
            refine pw_cv (w1 := WM cy q 0 v18.1 sv sn v18.2.1 bf ty v18.2.2.1 r26) (rest := []) (As := [.long ty.toInt64]) hF (kX4_mix l D cy q _ 0 v18.1 sv sn v18.2.1 bf ty v18.2.2.1 r25 ty.toInt64 r26 hr26) (cwV 1 hts (pw_gV (own := RX4) (idx := 213) (C := RX4) (y := yX4_mix) aw_1006 aw_1008 aw_s63 aw_6 aw_1009) rfl rfl rfl pX4_mix ⟨Nat.le_of_ble_eq_true rfl, Nat.le_of_ble_eq_true rfl⟩) (va_recv hK hP (ci := 4) (q0 := 0) rfl rfl) hK hP hD hS hA rfl rfl hl.1 rfl (Nat.le_of_ble_eq_true rfl) dX4_digest_169 ⟨Nat.zero_le _, Nat.zero_le _⟩ (fun H locs hP hD hS => ?_)
            refine lv_iconst (v := 0) hx hb dX4_digest_172 (by decide) ?_
            refine lv_istore_n (lv' := [(1, .int 0), (0, .ref (q 0))]) hx hb dX4_digest_173 rfl hl (by decide) rfl (fun ls hl => ?_)
            have L174_n27 : ∀ (n : Nat) (x1_174 : Int32) (hs_174 : Int64) (H : Heap) (locs : List Loc) (ls : Array Slot), fX4_digest_L174 bf ty v18 n x1_174 hs_174 = some o → va_P D vwCl (WM cy q 0 v18.1 sv sn v18.2.1 bf ty v18.2.2.1 hs_174) H → va_D A (WM cy q 0 v18.1 sv sn v18.2.1 bf ty v18.2.2.1 hs_174) → va_S A s.heap H locs → lv_has ls 3 [(0, .ref (q 0)), (1, .int x1_174)] → W p l e ({ frames := 9, cells := 0, slots := 0, locals := 202 } : Room) s m args below meth c H locs 0 0 Q (F0 m 174 ls []) := by
              intro n
              induction n with
              | zero =>
                intro x1_174 hs_174 H locs ls h hP hD hS hl
                exact pq_n h
              | succ n ih174 =>
                intro x1_174 hs_174 H locs ls h hP hD hS hl
                rw [fX4_digest_L174] at h
                refine lv_iload_n hx hb dX4_digest_174 rfl (lv_at hl 1 rfl) ?_
                refine lv_aload_n hx hb dX4_digest_175 rfl (lv_at hl 0 rfl) ?_
                refine va_get (D := D) (ci := 4) (v := .int ty) (C := RX4) (T := TX4) (N := 9) hx hb hts hin hown hK hP 0 rfl rfl 6 (by decide) (hta _ aw_692) (fun _ h9 => h9) rfl dX4_digest_176 ?_
                refine lv_icmp_ge (tgt := 199) hx hb dX4_digest_179 (by decide) (fun c7_ => ?_) (fun c7_ => ?_)
                · have h := pq_t c7_ h
                  refine lv_aload_n hx hb dX4_digest_199 rfl (lv_at hl 0 rfl) ?_
                  refine va_get (D := D) (ci := 4) (v := .long hs_174) (C := RX4) (T := TX4) (N := 9) hx hb hts hin hown hK hP 0 rfl rfl 8 (by decide) (hta _ aw_694) (fun _ h9 => h9) rfl dX4_digest_200 ?_
                  obtain rfl := Option.some.inj h
                  subst hQ
                  exact pw_rj hx hb hr hlk hAe hP hS rfl dX4_digest_203
                · have h := pq_e c7_ h
                  refine lv_aload_n hx hb dX4_digest_182 rfl (lv_at hl 0 rfl) ?_
                  refine lv_aload_n hx hb dX4_digest_183 rfl (lv_at hl 0 rfl) ?_
                  refine va_get (D := D) (ci := 4) (v := .ref (q 5)) (C := RX4) (T := TX4) (N := 9) hx hb hts hin hown hK hP 0 rfl rfl 5 (by decide) (hta _ aw_691) (fun _ h9 => h9) rfl dX4_digest_184 ?_
                  refine lv_iload_n hx hb dX4_digest_187 rfl (lv_at hl 1 rfl) ?_
                  obtain ⟨hg, h⟩ := pq_g h
                  refine va_iald hx hb hK hP 4 0 rfl rfl (pq_vp hg) dX4_digest_188 ?_
                  refine lv_i2l (v := (bf x1_174.toNatClampNeg).toInt64) hx hb dX4_digest_189 rfl ?_
                  obtain ⟨r28, hr28, h⟩ := pq_b h
                  refine pw_cv (w1 := WM cy q 0 v18.1 sv sn v18.2.1 bf ty v18.2.2.1 r28) (rest := []) (As := [.long ((bf x1_174.toNatClampNeg).toInt64)]) hF (kX4_mix l D cy q _ 0 v18.1 sv sn v18.2.1 bf ty v18.2.2.1 hs_174 ((bf x1_174.toNatClampNeg).toInt64) r28 hr28) (cwV 1 hts (pw_gV (own := RX4) (idx := 213) (C := RX4) (y := yX4_mix) aw_1006 aw_1008 aw_s63 aw_6 aw_1009) rfl rfl rfl pX4_mix ⟨Nat.le_of_ble_eq_true rfl, Nat.le_of_ble_eq_true rfl⟩) (va_recv hK hP (ci := 4) (q0 := 0) rfl rfl) hK hP hD hS hA rfl rfl hl.1 rfl (Nat.le_of_ble_eq_true rfl) dX4_digest_190 ⟨Nat.zero_le _, Nat.zero_le _⟩ (fun H locs hP hD hS => ?_)
                  refine lv_iinc (v := x1_174 + 1) (lv' := [(1, .int (x1_174 + 1)), (0, .ref (q 0))]) hx hb dX4_digest_193 hl (k := 1) rfl (by first | rfl | decide) (by decide) rfl (fun ls hl => ?_)
                  refine lv_goto (tgt := 174) hx hb dX4_digest_196 (by decide) ?_
                  exact ih174 (x1_174 + 1) r28 _ _ _ h hP hD hS (lv_sub hl [1, 0] rfl)
            exact L174_n27 1000 0 r26 _ _ _ h hP hD hS (lv_sub hl [1, 0] rfl)
          clear h
          have L120_n17 : ∀ (n : Nat) (x1_120 : Int32) (z_120 : Nat → Int32) (sp_120 : Nat → Int32) (gn_120 : Nat → Int32) (hs_120 : Int64) (H : Heap) (locs : List Loc) (ls : Array Slot), fX4_digest_L120  n x1_120 z_120 sp_120 gn_120 hs_120 = some v18 → va_P D vwCl (WM cy q 0 z_120 sv sn sp_120 bf ty gn_120 hs_120) H → va_D A (WM cy q 0 z_120 sv sn sp_120 bf ty gn_120 hs_120) → va_S A s.heap H locs → lv_has ls 3 [(0, .ref (q 0)), (1, .int x1_120)] → W p l e ({ frames := 9, cells := 0, slots := 0, locals := 202 } : Room) s m args below meth c H locs 0 0 Q (F0 m 120 ls []) := by
            intro n
            induction n with
            | zero =>
              intro x1_120 z_120 sp_120 gn_120 hs_120 H locs ls h hP hD hS hl
              exact pq_n h
            | succ n ih120 =>
              intro x1_120 z_120 sp_120 gn_120 hs_120 H locs ls h hP hD hS hl
              rw [fX4_digest_L120] at h
              refine lv_iload_n hx hb dX4_digest_120 rfl (lv_at hl 1 rfl) ?_
              refine lv_iconst (v := 3) hx hb dX4_digest_121 (by decide) ?_
              refine lv_icmp_gt (tgt := 143) hx hb dX4_digest_122 (by decide) (fun c6_ => ?_) (fun c6_ => ?_)
              · have h := pq_t c6_ h
                obtain rfl := Option.some.inj h
                exact X143_v18 _ _ _ hP hD hS (lv_sub hl [0] rfl)
              · have h := pq_e c6_ h
                refine lv_aload_n hx hb dX4_digest_125 rfl (lv_at hl 0 rfl) ?_
                refine lv_aload_n hx hb dX4_digest_126 rfl (lv_at hl 0 rfl) ?_
                refine lv_bipush (v := 12) hx hb dX4_digest_127 (by decide) ?_
                refine lv_iload_n hx hb dX4_digest_129 rfl (lv_at hl 1 rfl) ?_
                obtain ⟨r19, hr19, h⟩ := pq_b h
                refine pw_ci (w1 := WM cy q 0 r19.2.1 sv sn r19.2.2.1 bf ty r19.2.2.2 hs_120) (rest := [.ref (q 0)]) (As := [.int 12, .int x1_120]) hF (kX4_wouldBe l D cy q _ 0 z_120 sv sn sp_120 bf ty gn_120 hs_120 12 x1_120 r19 hr19) (cwV 2 hts (pw_gV (own := RX4) (idx := 186) (C := RX4) (y := yX4_wouldBe) aw_973 aw_975 aw_s59 aw_6 aw_976) rfl rfl rfl pX4_wouldBe ⟨Nat.le_of_ble_eq_true rfl, Nat.le_of_ble_eq_true rfl⟩) (va_recv hK hP (ci := 4) (q0 := 0) rfl rfl) hK hP hD hS hA rfl rfl hl.1 rfl (Nat.le_of_ble_eq_true rfl) dX4_digest_130 ⟨Nat.zero_le _, Nat.zero_le _⟩ (fun H locs hP hD hS => ?_)
                refine lv_i2l (v := r19.1.toInt64) hx hb dX4_digest_133 rfl ?_
                obtain ⟨r20, hr20, h⟩ := pq_b h
                refine pw_cv (w1 := WM cy q 0 r19.2.1 sv sn r19.2.2.1 bf ty r19.2.2.2 r20) (rest := []) (As := [.long r19.1.toInt64]) hF (kX4_mix l D cy q _ 0 r19.2.1 sv sn r19.2.2.1 bf ty r19.2.2.2 hs_120 r19.1.toInt64 r20 hr20) (cwV 1 hts (pw_gV (own := RX4) (idx := 213) (C := RX4) (y := yX4_mix) aw_1006 aw_1008 aw_s63 aw_6 aw_1009) rfl rfl rfl pX4_mix ⟨Nat.le_of_ble_eq_true rfl, Nat.le_of_ble_eq_true rfl⟩) (va_recv hK hP (ci := 4) (q0 := 0) rfl rfl) hK hP hD hS hA rfl rfl hl.1 rfl (Nat.le_of_ble_eq_true rfl) dX4_digest_134 ⟨Nat.zero_le _, Nat.zero_le _⟩ (fun H locs hP hD hS => ?_)
                refine lv_iinc (v := x1_120 + 1) (lv' := [(1, .int (x1_120 + 1)), (0, .ref (q 0))]) hx hb dX4_digest_137 hl (k := 1) rfl (by first | rfl | decide) (by decide) rfl (fun ls hl => ?_)
                refine lv_goto (tgt := 120) hx hb dX4_digest_140 (by decide) ?_
                exact ih120 (x1_120 + 1) r19.2.1 r19.2.2.1 r19.2.2.2 r20 _ _ _ h hP hD hS (lv_sub hl [1, 0] rfl)
          have h := hv18
          exact L120_n17 1000 0 v15.1 v15.2.1 v15.2.2.1 v15.2.2.2 _ _ _ h hP hD hS (lv_sub hl [1, 0] rfl)
        clear h
        have L101_n14 : ∀ (n : Nat) (x1_101 : Int32) (z_101 : Nat → Int32) (sp_101 : Nat → Int32) (gn_101 : Nat → Int32) (hs_101 : Int64) (H : Heap) (locs : List Loc) (ls : Array Slot), fX4_digest_L101  n x1_101 z_101 sp_101 gn_101 hs_101 = some v15 → va_P D vwCl (WM cy q 0 z_101 sv sn sp_101 bf ty gn_101 hs_101) H → va_D A (WM cy q 0 z_101 sv sn sp_101 bf ty gn_101 hs_101) → va_S A s.heap H locs → lv_has ls 3 [(0, .ref (q 0)), (1, .int x1_101)] → W p l e ({ frames := 9, cells := 0, slots := 0, locals := 202 } : Room) s m args below meth c H locs 0 0 Q (F0 m 101 ls []) := by
          intro n
          induction n with
          | zero =>
            intro x1_101 z_101 sp_101 gn_101 hs_101 H locs ls h hP hD hS hl
            exact pq_n h
          | succ n ih101 =>
            intro x1_101 z_101 sp_101 gn_101 hs_101 H locs ls h hP hD hS hl
            rw [fX4_digest_L101] at h
            refine lv_iload_n hx hb dX4_digest_101 rfl (lv_at hl 1 rfl) ?_
            refine lv_bipush (v := 8) hx hb dX4_digest_102 (by decide) ?_
            refine lv_icmp_ge (tgt := 118) hx hb dX4_digest_104 (by decide) (fun c5_ => ?_) (fun c5_ => ?_)
            · have h := pq_t c5_ h
              obtain rfl := Option.some.inj h
              exact X118_v15 _ _ _ hP hD hS (lv_sub hl [0] rfl)
            · have h := pq_e c5_ h
              refine lv_aload_n hx hb dX4_digest_107 rfl (lv_at hl 0 rfl) ?_
              refine lv_iload_n hx hb dX4_digest_108 rfl (lv_at hl 1 rfl) ?_
              obtain ⟨r16, hr16, h⟩ := pq_b h
              refine pw_cv (w1 := WM cy q 0 r16.1 sv sn r16.2.1 bf ty r16.2.2.1 r16.2.2.2) (rest := []) (As := [.int x1_101]) hF (kX4_mixOwner l D cy q _ 0 z_101 sv sn sp_101 bf ty gn_101 hs_101 x1_101 r16 hr16) (cwV 1 hts (pw_gV (own := RX4) (idx := 219) (C := RX4) (y := yX4_mixOwner) aw_1011 aw_1013 aw_s64 aw_6 aw_1014) rfl rfl rfl pX4_mixOwner ⟨Nat.le_of_ble_eq_true rfl, Nat.le_of_ble_eq_true rfl⟩) (va_recv hK hP (ci := 4) (q0 := 0) rfl rfl) hK hP hD hS hA rfl rfl hl.1 rfl (Nat.le_of_ble_eq_true rfl) dX4_digest_109 ⟨Nat.zero_le _, Nat.zero_le _⟩ (fun H locs hP hD hS => ?_)
              refine lv_iinc (v := x1_101 + 1) (lv' := [(1, .int (x1_101 + 1)), (0, .ref (q 0))]) hx hb dX4_digest_112 hl (k := 1) rfl (by first | rfl | decide) (by decide) rfl (fun ls hl => ?_)
              refine lv_goto (tgt := 101) hx hb dX4_digest_115 (by decide) ?_
              exact ih101 (x1_101 + 1) r16.1 r16.2.1 r16.2.2.1 r16.2.2.2 _ _ _ h hP hD hS (lv_sub hl [1, 0] rfl)
        have h := hv15
        exact L101_n14 1000 0 z sp gn v9 _ _ _ h hP hD hS (lv_sub hl [1, 0] rfl)
      clear h
      have L63_n8 : ∀ (n : Nat) (x1_63 : Int32) (hs_63 : Int64) (H : Heap) (locs : List Loc) (ls : Array Slot), fX4_digest_L63 z n x1_63 hs_63 = some v9 → va_P D vwCl (WM cy q 0 z sv sn sp bf ty gn hs_63) H → va_D A (WM cy q 0 z sv sn sp bf ty gn hs_63) → va_S A s.heap H locs → lv_has ls 3 [(0, .ref (q 0)), (1, .int x1_63)] → W p l e ({ frames := 9, cells := 0, slots := 0, locals := 202 } : Room) s m args below meth c H locs 0 0 Q (F0 m 63 ls []) := by
        intro n
        induction n with
        | zero =>
          intro x1_63 hs_63 H locs ls h hP hD hS hl
          exact pq_n h
        | succ n ih63 =>
          intro x1_63 hs_63 H locs ls h hP hD hS hl
          rw [fX4_digest_L63] at h
          refine lv_iload_n hx hb dX4_digest_63 rfl (lv_at hl 1 rfl) ?_
          refine lv_bipush (v := 8) hx hb dX4_digest_64 (by decide) ?_
          refine lv_icmp_ge (tgt := 99) hx hb dX4_digest_66 (by decide) (fun c3_ => ?_) (fun c3_ => ?_)
          · have h := pq_t c3_ h
            obtain rfl := Option.some.inj h
            exact X99_v9 _ _ _ hP hD hS (lv_sub hl [0] rfl)
          · have h := pq_e c3_ h
            refine lv_iconst (v := 0) hx hb dX4_digest_69 (by decide) ?_
            refine lv_istore_n (lv' := [(2, .int 0), (0, .ref (q 0)), (1, .int x1_63)]) hx hb dX4_digest_70 rfl hl (by decide) rfl (fun ls hl => ?_)
            obtain ⟨v11, hv11, h⟩ := pq_b h
            have X93_v11 : ∀ (H : Heap) (locs : List Loc) (ls : Array Slot), va_P D vwCl (WM cy q 0 z sv sn sp bf ty gn v11) H → va_D A (WM cy q 0 z sv sn sp bf ty gn v11) → va_S A s.heap H locs → lv_has ls 3 [(0, .ref (q 0)), (1, .int x1_63)] → W p l e ({ frames := 9, cells := 0, slots := 0, locals := 202 } : Room) s m args below meth c H locs 0 0 Q (F0 m 93 ls []) := by
              intro H locs ls hP hD hS hl
              refine lv_iinc (v := x1_63 + 1) (lv' := [(1, .int (x1_63 + 1)), (0, .ref (q 0))]) hx hb dX4_digest_93 hl (k := 1) rfl (by first | rfl | decide) (by decide) rfl (fun ls hl => ?_)
              refine lv_goto (tgt := 63) hx hb dX4_digest_96 (by decide) ?_
              exact ih63 (x1_63 + 1) v11 _ _ _ h hP hD hS (lv_sub hl [1, 0] rfl)
            clear h
            have L71_n10 : ∀ (n : Nat) (x2_71 : Int32) (hs_71 : Int64) (H : Heap) (locs : List Loc) (ls : Array Slot), fX4_digest_L71 z x1_63 n x2_71 hs_71 = some v11 → va_P D vwCl (WM cy q 0 z sv sn sp bf ty gn hs_71) H → va_D A (WM cy q 0 z sv sn sp bf ty gn hs_71) → va_S A s.heap H locs → lv_has ls 3 [(0, .ref (q 0)), (1, .int x1_63), (2, .int x2_71)] → W p l e ({ frames := 9, cells := 0, slots := 0, locals := 202 } : Room) s m args below meth c H locs 0 0 Q (F0 m 71 ls []) := by
              intro n
              induction n with
              | zero =>
                intro x2_71 hs_71 H locs ls h hP hD hS hl
                exact pq_n h
              | succ n ih71 =>
                intro x2_71 hs_71 H locs ls h hP hD hS hl
                rw [fX4_digest_L71] at h
                refine lv_iload_n hx hb dX4_digest_71 rfl (lv_at hl 2 rfl) ?_
                refine lv_iconst (v := 5) hx hb dX4_digest_72 (by decide) ?_
                refine lv_icmp_gt (tgt := 93) hx hb dX4_digest_73 (by decide) (fun c4_ => ?_) (fun c4_ => ?_)
                · have h := pq_t c4_ h
                  obtain rfl := Option.some.inj h
                  exact X93_v11 _ _ _ hP hD hS (lv_sub hl [0, 1] rfl)
                · have h := pq_e c4_ h
                  refine lv_aload_n hx hb dX4_digest_76 rfl (lv_at hl 0 rfl) ?_
                  refine lv_aload_n hx hb dX4_digest_77 rfl (lv_at hl 0 rfl) ?_
                  refine lv_iload_n hx hb dX4_digest_78 rfl (lv_at hl 1 rfl) ?_
                  refine lv_iload_n hx hb dX4_digest_79 rfl (lv_at hl 2 rfl) ?_
                  obtain ⟨r12, hr12, h⟩ := pq_b h
                  refine pw_ci (w1 := WM cy q 0 z sv sn sp bf ty gn hs_71) (rest := [.ref (q 0)]) (As := [.int x1_63, .int x2_71]) hF (kX4_toldPlace l D cy q _ 0 z sv sn sp bf ty gn hs_71 x1_63 x2_71 r12 hr12) (cwV 2 hts (pw_gV (own := RX4) (idx := 165) (C := RX4) (y := yX4_toldPlace) aw_925 aw_927 aw_s52 aw_6 aw_928) rfl rfl rfl pX4_toldPlace ⟨Nat.le_of_ble_eq_true rfl, Nat.le_of_ble_eq_true rfl⟩) (va_recv hK hP (ci := 4) (q0 := 0) rfl rfl) hK hP hD hS hA rfl rfl hl.1 rfl (Nat.le_of_ble_eq_true rfl) dX4_digest_80 ⟨Nat.zero_le _, Nat.zero_le _⟩ (fun H locs hP hD hS => ?_)
                  refine lv_i2l (v := r12.toInt64) hx hb dX4_digest_83 rfl ?_
                  obtain ⟨r13, hr13, h⟩ := pq_b h
                  refine pw_cv (w1 := WM cy q 0 z sv sn sp bf ty gn r13) (rest := []) (As := [.long r12.toInt64]) hF (kX4_mix l D cy q _ 0 z sv sn sp bf ty gn hs_71 r12.toInt64 r13 hr13) (cwV 1 hts (pw_gV (own := RX4) (idx := 213) (C := RX4) (y := yX4_mix) aw_1006 aw_1008 aw_s63 aw_6 aw_1009) rfl rfl rfl pX4_mix ⟨Nat.le_of_ble_eq_true rfl, Nat.le_of_ble_eq_true rfl⟩) (va_recv hK hP (ci := 4) (q0 := 0) rfl rfl) hK hP hD hS hA rfl rfl hl.1 rfl (Nat.le_of_ble_eq_true rfl) dX4_digest_84 ⟨Nat.zero_le _, Nat.zero_le _⟩ (fun H locs hP hD hS => ?_)
                  refine lv_iinc (v := x2_71 + 1) (lv' := [(2, .int (x2_71 + 1)), (0, .ref (q 0)), (1, .int x1_63)]) hx hb dX4_digest_87 hl (k := 2) rfl (by first | rfl | decide) (by decide) rfl (fun ls hl => ?_)
                  refine lv_goto (tgt := 71) hx hb dX4_digest_90 (by decide) ?_
                  exact ih71 (x2_71 + 1) r13 _ _ _ h hP hD hS (lv_sub hl [1, 2, 0] rfl)
            have h := hv11
            exact L71_n10 1000 0 hs_63 _ _ _ h hP hD hS (lv_sub hl [1, 2, 0] rfl)
      have h := hv9
      exact L63_n8 1000 0 v6 _ _ _ h hP hD hS (lv_sub hl [1, 0] rfl)
    clear h
    have L38_n5 : ∀ (n : Nat) (x1_38 : Int32) (hs_38 : Int64) (H : Heap) (locs : List Loc) (ls : Array Slot), fX4_digest_L38 z n x1_38 hs_38 = some v6 → va_P D vwCl (WM cy q 0 z sv sn sp bf ty gn hs_38) H → va_D A (WM cy q 0 z sv sn sp bf ty gn hs_38) → va_S A s.heap H locs → lv_has ls 3 [(0, .ref (q 0)), (1, .int x1_38)] → W p l e ({ frames := 9, cells := 0, slots := 0, locals := 202 } : Room) s m args below meth c H locs 0 0 Q (F0 m 38 ls []) := by
      intro n
      induction n with
      | zero =>
        intro x1_38 hs_38 H locs ls h hP hD hS hl
        exact pq_n h
      | succ n ih38 =>
        intro x1_38 hs_38 H locs ls h hP hD hS hl
        rw [fX4_digest_L38] at h
        refine lv_iload_n hx hb dX4_digest_38 rfl (lv_at hl 1 rfl) ?_
        refine lv_bipush (v := 9) hx hb dX4_digest_39 (by decide) ?_
        refine lv_icmp_ge (tgt := 61) hx hb dX4_digest_41 (by decide) (fun c2_ => ?_) (fun c2_ => ?_)
        · have h := pq_t c2_ h
          obtain rfl := Option.some.inj h
          exact X61_v6 _ _ _ hP hD hS (lv_sub hl [0] rfl)
        · have h := pq_e c2_ h
          refine lv_aload_n hx hb dX4_digest_44 rfl (lv_at hl 0 rfl) ?_
          refine lv_aload_n hx hb dX4_digest_45 rfl (lv_at hl 0 rfl) ?_
          refine va_get (D := D) (ci := 4) (v := .ref (q 1)) (C := RX4) (T := TX4) (N := 9) hx hb hts hin hown hK hP 0 rfl rfl 1 (by decide) (hta _ aw_687) (fun _ h9 => h9) rfl dX4_digest_46 ?_
          refine lv_iload_n hx hb dX4_digest_49 rfl (lv_at hl 1 rfl) ?_
          obtain ⟨hg, h⟩ := pq_g h
          refine va_iald hx hb hK hP 1 0 rfl rfl (pq_vp hg) dX4_digest_50 ?_
          refine lv_i2l (v := (z x1_38.toNatClampNeg).toInt64) hx hb dX4_digest_51 rfl ?_
          obtain ⟨r7, hr7, h⟩ := pq_b h
          refine pw_cv (w1 := WM cy q 0 z sv sn sp bf ty gn r7) (rest := []) (As := [.long ((z x1_38.toNatClampNeg).toInt64)]) hF (kX4_mix l D cy q _ 0 z sv sn sp bf ty gn hs_38 ((z x1_38.toNatClampNeg).toInt64) r7 hr7) (cwV 1 hts (pw_gV (own := RX4) (idx := 213) (C := RX4) (y := yX4_mix) aw_1006 aw_1008 aw_s63 aw_6 aw_1009) rfl rfl rfl pX4_mix ⟨Nat.le_of_ble_eq_true rfl, Nat.le_of_ble_eq_true rfl⟩) (va_recv hK hP (ci := 4) (q0 := 0) rfl rfl) hK hP hD hS hA rfl rfl hl.1 rfl (Nat.le_of_ble_eq_true rfl) dX4_digest_52 ⟨Nat.zero_le _, Nat.zero_le _⟩ (fun H locs hP hD hS => ?_)
          refine lv_iinc (v := x1_38 + 1) (lv' := [(1, .int (x1_38 + 1)), (0, .ref (q 0))]) hx hb dX4_digest_55 hl (k := 1) rfl (by first | rfl | decide) (by decide) rfl (fun ls hl => ?_)
          refine lv_goto (tgt := 38) hx hb dX4_digest_58 (by decide) ?_
          exact ih38 (x1_38 + 1) r7 _ _ _ h hP hD hS (lv_sub hl [1, 0] rfl)
    have h := hv6
    exact L38_n5 1000 0 v2 _ _ _ h hP hD hS (lv_sub hl [1, 0] rfl)
  clear h
  have L14_n1 : ∀ (n : Nat) (x1_14 : Int32) (hs_14 : Int64) (H : Heap) (locs : List Loc) (ls : Array Slot), fX4_digest_L14 z sn n x1_14 hs_14 = some v2 → va_P D vwCl (WM cy q 0 z sv sn sp bf ty gn hs_14) H → va_D A (WM cy q 0 z sv sn sp bf ty gn hs_14) → va_S A s.heap H locs → lv_has ls 3 [(0, .ref (q 0)), (1, .int x1_14)] → W p l e ({ frames := 9, cells := 0, slots := 0, locals := 202 } : Room) s m args below meth c H locs 0 0 Q (F0 m 14 ls []) := by
    intro n
    induction n with
    | zero =>
      intro x1_14 hs_14 H locs ls h hP hD hS hl
      exact pq_n h
    | succ n ih14 =>
      intro x1_14 hs_14 H locs ls h hP hD hS hl
      rw [fX4_digest_L14] at h
      refine lv_iload_n hx hb dX4_digest_14 rfl (lv_at hl 1 rfl) ?_
      refine lv_bipush (v := 13) hx hb dX4_digest_15 (by decide) ?_
      refine lv_icmp_gt (tgt := 36) hx hb dX4_digest_17 (by decide) (fun c1_ => ?_) (fun c1_ => ?_)
      · have h := pq_t c1_ h
        obtain rfl := Option.some.inj h
        exact X36_v2 _ _ _ hP hD hS (lv_sub hl [0] rfl)
      · have h := pq_e c1_ h
        refine lv_aload_n hx hb dX4_digest_20 rfl (lv_at hl 0 rfl) ?_
        refine lv_aload_n hx hb dX4_digest_21 rfl (lv_at hl 0 rfl) ?_
        refine lv_iload_n hx hb dX4_digest_22 rfl (lv_at hl 1 rfl) ?_
        obtain ⟨r3, hr3, h⟩ := pq_b h
        refine pw_ci (w1 := WM cy q 0 z sv sn sp bf ty gn hs_14) (rest := [.ref (q 0)]) (As := [.int x1_14]) hF (kX4_counted l D cy q _ 0 z sv sn sp bf ty gn hs_14 x1_14 r3 hr3) (cwV 1 hts (pw_gV (own := RX4) (idx := 174) (C := RX4) (y := yX4_counted) aw_941 aw_943 aw_s54 aw_6 aw_944) rfl rfl rfl pX4_counted ⟨Nat.le_of_ble_eq_true rfl, Nat.le_of_ble_eq_true rfl⟩) (va_recv hK hP (ci := 4) (q0 := 0) rfl rfl) hK hP hD hS hA rfl rfl hl.1 rfl (Nat.le_of_ble_eq_true rfl) dX4_digest_23 ⟨Nat.zero_le _, Nat.zero_le _⟩ (fun H locs hP hD hS => ?_)
        refine lv_i2l (v := r3.toInt64) hx hb dX4_digest_26 rfl ?_
        obtain ⟨r4, hr4, h⟩ := pq_b h
        refine pw_cv (w1 := WM cy q 0 z sv sn sp bf ty gn r4) (rest := []) (As := [.long r3.toInt64]) hF (kX4_mix l D cy q _ 0 z sv sn sp bf ty gn hs_14 r3.toInt64 r4 hr4) (cwV 1 hts (pw_gV (own := RX4) (idx := 213) (C := RX4) (y := yX4_mix) aw_1006 aw_1008 aw_s63 aw_6 aw_1009) rfl rfl rfl pX4_mix ⟨Nat.le_of_ble_eq_true rfl, Nat.le_of_ble_eq_true rfl⟩) (va_recv hK hP (ci := 4) (q0 := 0) rfl rfl) hK hP hD hS hA rfl rfl hl.1 rfl (Nat.le_of_ble_eq_true rfl) dX4_digest_27 ⟨Nat.zero_le _, Nat.zero_le _⟩ (fun H locs hP hD hS => ?_)
        refine lv_iinc (v := x1_14 + 1) (lv' := [(1, .int (x1_14 + 1)), (0, .ref (q 0))]) hx hb dX4_digest_30 hl (k := 1) rfl (by first | rfl | decide) (by decide) rfl (fun ls hl => ?_)
        refine lv_goto (tgt := 14) hx hb dX4_digest_33 (by decide) ?_
        exact ih14 (x1_14 + 1) r4 _ _ _ h hP hD hS (lv_sub hl [1, 0] rfl)
  have h := hv2
  exact L14_n1 1000 0 2753 _ _ _ h hP hD hS (lv_sub hl [1, 0] rfl)

