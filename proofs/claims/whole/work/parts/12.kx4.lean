def aX4_of : List Cond := Cond.code yX4_of cX4_of 3 (some .int) :: pw_all
theorem pX4_of : yX4_of.cls = RX4 ∧ yX4_of.cls ≠ "java/lang/invoke/MethodHandle" ∧ yX4_of.cls ≠ "java/lang/invoke/VarHandle" ∧ (parseMethodDescriptor yX4_of.desc).map (fun d => d.parameters.length) = some 2 := by decide +kernel
set_option maxHeartbeats 8000000 in
set_option maxRecDepth 100000 in
theorem kX4_of (l : Launch) (D : va_G) (cy : Nat → ClassId) (q : Nat → Nat) (sz : Nat) (th : Int32) (z : Nat → Int32) (sv : Nat → Int32) (sn : Int32) (sp : Nat → Int32) (bf : Nat → Int32) (ty : Int32) (gn : Nat → Int32) (hs : Int64) (x1 : Int32) (x2 : Int32) (o : Int32) (h : fX4_of x1 x2 z = some o) : Met l yX4_of aX4_of ({ frames := 0, cells := 0, slots := 0, locals := 0 }) (pw_Pre D cy [.ref (q 0), .int x1, .int x2] (WM cy q th z sv sn sp bf ty gn hs) sz) (pw_I D o (WM cy q th z sv sn sp bf ty gn hs) (WM cy q th z sv sn sp bf ty gn hs) sz) 0 0 (va_A (WM cy q th z sv sn sp bf ty gn hs) sz) := by
  refine pw_met (cc := cX4_of) (maxL := 3) (ret := (some .int)) (by decide) rfl (Nat.le_of_ble_eq_true rfl) ?_
  intro p e s m args below meth c ls A hx hb hr hml hlk hts hown hAe hA hK hP hD hS hl
  have hl : lv_has ls 3 [(0, .ref (q 0)), (1, .int x1), (2, .int x2)] := hl
  generalize hQ : MQ below (pw_I D o (WM cy q th z sv sn sp bf ty gn hs) (WM cy q th z sv sn sp bf ty gn hs) sz) args s 0 0 (va_A (WM cy q th z sv sn sp bf ty gn hs) sz) = Q
  have hF : CallFix p m c cX4_of 3 s args aX4_of RX4 := ⟨hx, hb, hml, hown, hts⟩
  have hta : ∀ w ∈ pw_all, w.before args s = true := fun w h => hts w (List.mem_cons_of_mem _ h)
  have hin : ∀ w ∈ wsX40, w ∈ aX4_of := fun w h => List.mem_cons_of_mem _ (inA4 w h)
  unfold fX4_of at h
  refine lv_aload_n hx hb dX4_of_0 rfl (lv_at hl 0 rfl) ?_
  refine va_get (D := D) (ci := 4) (v := .ref (q 1)) (C := RX4) (T := TX4) (N := 9) hx hb hts hin hown hK hP 0 rfl rfl 1 (by decide) (hta _ aw_687) (fun _ h9 => h9) rfl dX4_of_1 ?_
  refine lv_bipush (v := 26) hx hb dX4_of_4 (by decide) ?_
  refine lv_bipush (v := 6) hx hb dX4_of_6 (by decide) ?_
  refine lv_iload_n hx hb dX4_of_8 rfl (lv_at hl 1 rfl) ?_
  refine lv_imul hx hb dX4_of_9 ?_
  refine lv_iadd hx hb dX4_of_10 ?_
  refine lv_iload_n hx hb dX4_of_11 rfl (lv_at hl 2 rfl) ?_
  refine lv_iadd hx hb dX4_of_12 ?_
  obtain ⟨hg, h⟩ := pq_g h
  refine va_iald hx hb hK hP 1 0 rfl rfl (pq_vp hg) dX4_of_13 ?_
  obtain rfl := Option.some.inj h
  subst hQ
  exact pw_ri hx hb hr hlk hAe hP hS rfl dX4_of_14

def aX4_put : List Cond := Cond.code yX4_put cX4_put 4 none :: pw_all
theorem pX4_put : yX4_put.cls = RX4 ∧ yX4_put.cls ≠ "java/lang/invoke/MethodHandle" ∧ yX4_put.cls ≠ "java/lang/invoke/VarHandle" ∧ (parseMethodDescriptor yX4_put.desc).map (fun d => d.parameters.length) = some 3 := by decide +kernel
set_option maxHeartbeats 8000000 in
set_option maxRecDepth 100000 in
theorem kX4_put (l : Launch) (D : va_G) (cy : Nat → ClassId) (q : Nat → Nat) (sz : Nat) (th : Int32) (z : Nat → Int32) (sv : Nat → Int32) (sn : Int32) (sp : Nat → Int32) (bf : Nat → Int32) (ty : Int32) (gn : Nat → Int32) (hs : Int64) (x1 : Int32) (x2 : Int32) (x3 : Int32) (o : (Nat → Int32)) (h : fX4_put x1 x2 x3 z = some o) : Met l yX4_put aX4_put ({ frames := 0, cells := 0, slots := 0, locals := 0 }) (pw_Pre D cy [.ref (q 0), .int x1, .int x2, .int x3] (WM cy q th z sv sn sp bf ty gn hs) sz) (pw_V D (WM cy q th z sv sn sp bf ty gn hs) (WM cy q th o sv sn sp bf ty gn hs) sz) 0 0 (va_A (WM cy q th z sv sn sp bf ty gn hs) sz) := by
  refine pw_met (cc := cX4_put) (maxL := 4) (ret := none) (by decide) rfl (Nat.le_of_ble_eq_true rfl) ?_
  intro p e s m args below meth c ls A hx hb hr hml hlk hts hown hAe hA hK hP hD hS hl
  have hl : lv_has ls 4 [(0, .ref (q 0)), (1, .int x1), (2, .int x2), (3, .int x3)] := hl
  generalize hQ : MQ below (pw_V D (WM cy q th z sv sn sp bf ty gn hs) (WM cy q th o sv sn sp bf ty gn hs) sz) args s 0 0 (va_A (WM cy q th z sv sn sp bf ty gn hs) sz) = Q
  have hF : CallFix p m c cX4_put 4 s args aX4_put RX4 := ⟨hx, hb, hml, hown, hts⟩
  have hta : ∀ w ∈ pw_all, w.before args s = true := fun w h => hts w (List.mem_cons_of_mem _ h)
  have hin : ∀ w ∈ wsX40, w ∈ aX4_put := fun w h => List.mem_cons_of_mem _ (inA4 w h)
  unfold fX4_put at h
  refine lv_aload_n hx hb dX4_put_0 rfl (lv_at hl 0 rfl) ?_
  refine va_get (D := D) (ci := 4) (v := .ref (q 1)) (C := RX4) (T := TX4) (N := 9) hx hb hts hin hown hK hP 0 rfl rfl 1 (by decide) (hta _ aw_687) (fun _ h9 => h9) rfl dX4_put_1 ?_
  refine lv_bipush (v := 26) hx hb dX4_put_4 (by decide) ?_
  refine lv_bipush (v := 6) hx hb dX4_put_6 (by decide) ?_
  refine lv_iload_n hx hb dX4_put_8 rfl (lv_at hl 1 rfl) ?_
  refine lv_imul hx hb dX4_put_9 ?_
  refine lv_iadd hx hb dX4_put_10 ?_
  refine lv_iload_n hx hb dX4_put_11 rfl (lv_at hl 2 rfl) ?_
  refine lv_iadd hx hb dX4_put_12 ?_
  refine lv_iload_n hx hb dX4_put_13 rfl (lv_at hl 3 rfl) ?_
  obtain ⟨hg, h⟩ := pq_g h
  refine va_iast hx hb hK hP hD hS 1 0 rfl rfl (pq_vp hg) dX4_put_14 (fun H locs hP hD hS => ?_)
  have hP : va_P D vwCl (WM cy q th (upd z ((26 + (6 * x1)) + x2).toNatClampNeg x3) sv sn sp bf ty gn hs) H := hP
  have hD : va_D A (WM cy q th (upd z ((26 + (6 * x1)) + x2).toNatClampNeg x3) sv sn sp bf ty gn hs) := hD
  obtain rfl := Option.some.inj h
  subst hQ
  exact pw_rv hx hb hr hlk hAe hP hS dX4_put_15

def aX4_isIn : List Cond := Cond.code yX4_isIn cX4_isIn 3 (some .boolean) :: pw_all
theorem pX4_isIn : yX4_isIn.cls = RX4 ∧ yX4_isIn.cls ≠ "java/lang/invoke/MethodHandle" ∧ yX4_isIn.cls ≠ "java/lang/invoke/VarHandle" ∧ (parseMethodDescriptor yX4_isIn.desc).map (fun d => d.parameters.length) = some 2 := by decide +kernel
set_option maxHeartbeats 8000000 in
set_option maxRecDepth 100000 in
theorem kX4_isIn (l : Launch) (D : va_G) (cy : Nat → ClassId) (q : Nat → Nat) (sz : Nat) (th : Int32) (z : Nat → Int32) (sv : Nat → Int32) (sn : Int32) (sp : Nat → Int32) (bf : Nat → Int32) (ty : Int32) (gn : Nat → Int32) (hs : Int64) (x1 : Int32) (x2 : Int32) (o : Int32) (h : fX4_isIn x1 x2 z = some o) : Met l yX4_isIn aX4_isIn ({ frames := 1, cells := 0, slots := 0, locals := 22 }) (pw_Pre D cy [.ref (q 0), .int x1, .int x2] (WM cy q th z sv sn sp bf ty gn hs) sz) (pw_I D o (WM cy q th z sv sn sp bf ty gn hs) (WM cy q th z sv sn sp bf ty gn hs) sz) 0 0 (va_A (WM cy q th z sv sn sp bf ty gn hs) sz) := by
  refine pw_met (cc := cX4_isIn) (maxL := 3) (ret := (some .boolean)) (by decide) rfl (Nat.le_of_ble_eq_true rfl) ?_
  intro p e s m args below meth c ls A hx hb hr hml hlk hts hown hAe hA hK hP hD hS hl
  have hl : lv_has ls 3 [(0, .ref (q 0)), (1, .int x1), (2, .int x2)] := hl
  generalize hQ : MQ below (pw_I D o (WM cy q th z sv sn sp bf ty gn hs) (WM cy q th z sv sn sp bf ty gn hs) sz) args s 0 0 (va_A (WM cy q th z sv sn sp bf ty gn hs) sz) = Q
  have hF : CallFix p m c cX4_isIn 3 s args aX4_isIn RX4 := ⟨hx, hb, hml, hown, hts⟩
  have hta : ∀ w ∈ pw_all, w.before args s = true := fun w h => hts w (List.mem_cons_of_mem _ h)
  have hin : ∀ w ∈ wsX40, w ∈ aX4_isIn := fun w h => List.mem_cons_of_mem _ (inA4 w h)
  unfold fX4_isIn at h
  refine lv_aload_n hx hb dX4_isIn_0 rfl (lv_at hl 0 rfl) ?_
  refine lv_iload_n hx hb dX4_isIn_1 rfl (lv_at hl 1 rfl) ?_
  refine lv_iconst (v := 0) hx hb dX4_isIn_2 (by decide) ?_
  obtain ⟨r1, hr1, h⟩ := pq_b h
  refine pw_ci (w1 := WM cy q th z sv sn sp bf ty gn hs) (rest := []) (As := [.int x1, .int 0]) hF (kX4_of l D cy q _ th z sv sn sp bf ty gn hs x1 0 r1 hr1) (cwV 2 hts (pw_gV (own := RX4) (idx := 40) (C := RX4) (y := yX4_of) aw_768 aw_770 aw_s28 aw_6 aw_771) rfl rfl rfl pX4_of ⟨Nat.le_of_ble_eq_true rfl, Nat.le_of_ble_eq_true rfl⟩) (va_recv hK hP (ci := 4) (q0 := 0) rfl rfl) hK hP hD hS hA rfl rfl hl.1 rfl (Nat.le_of_ble_eq_true rfl) dX4_isIn_3 ⟨Nat.zero_le _, Nat.zero_le _⟩ (fun H locs hP hD hS => ?_)
  refine lv_iload_n hx hb dX4_isIn_6 rfl (lv_at hl 2 rfl) ?_
  refine lv_icmp_ne (tgt := 14) hx hb dX4_isIn_7 (by decide) (fun c1_ => ?_) (fun c1_ => ?_)
  · have h := pq_e c1_ h
    refine lv_iconst (v := 0) hx hb dX4_isIn_14 (by decide) ?_
    obtain rfl := Option.some.inj h
    subst hQ
    exact pw_rz hx hb hr rfl hlk hAe hP hS rfl dX4_isIn_15
  · have h := pq_t c1_ h
    refine lv_iconst (v := 1) hx hb dX4_isIn_10 (by decide) ?_
    refine lv_goto (tgt := 15) hx hb dX4_isIn_11 (by decide) ?_
    obtain rfl := Option.some.inj h
    subst hQ
    exact pw_rz hx hb hr rfl hlk hAe hP hS rfl dX4_isIn_15

def aX4_save : List Cond := Cond.code yX4_save cX4_save 2 none :: pw_all
theorem pX4_save : yX4_save.cls = RX4 ∧ yX4_save.cls ≠ "java/lang/invoke/MethodHandle" ∧ yX4_save.cls ≠ "java/lang/invoke/VarHandle" ∧ (parseMethodDescriptor yX4_save.desc).map (fun d => d.parameters.length) = some 0 := by decide +kernel
set_option maxHeartbeats 8000000 in
set_option maxRecDepth 100000 in
theorem kX4_save (l : Launch) (D : va_G) (cy : Nat → ClassId) (q : Nat → Nat) (sz : Nat) (th : Int32) (z : Nat → Int32) (sv : Nat → Int32) (sn : Int32) (sp : Nat → Int32) (bf : Nat → Int32) (ty : Int32) (gn : Nat → Int32) (hs : Int64)  (o : (Nat → Int32) × Int32) (h : fX4_save z sv sn = some o) : Met l yX4_save aX4_save ({ frames := 0, cells := 0, slots := 0, locals := 0 }) (pw_Pre D cy [.ref (q 0)] (WM cy q th z sv sn sp bf ty gn hs) sz) (pw_V D (WM cy q th z sv sn sp bf ty gn hs) (WM cy q th z o.1 o.2 sp bf ty gn hs) sz) 0 0 (va_A (WM cy q th z sv sn sp bf ty gn hs) sz) := by
  refine pw_met (cc := cX4_save) (maxL := 2) (ret := none) (by decide) rfl (Nat.le_of_ble_eq_true rfl) ?_
  intro p e s m args below meth c ls A hx hb hr hml hlk hts hown hAe hA hK hP hD hS hl
  have hl : lv_has ls 2 [(0, .ref (q 0))] := hl
  generalize hQ : MQ below (pw_V D (WM cy q th z sv sn sp bf ty gn hs) (WM cy q th z o.1 o.2 sp bf ty gn hs) sz) args s 0 0 (va_A (WM cy q th z sv sn sp bf ty gn hs) sz) = Q
  have hF : CallFix p m c cX4_save 2 s args aX4_save RX4 := ⟨hx, hb, hml, hown, hts⟩
  have hta : ∀ w ∈ pw_all, w.before args s = true := fun w h => hts w (List.mem_cons_of_mem _ h)
  have hin : ∀ w ∈ wsX40, w ∈ aX4_save := fun w h => List.mem_cons_of_mem _ (inA4 w h)
  unfold fX4_save at h
  refine lv_aload_n hx hb dX4_save_0 rfl (lv_at hl 0 rfl) ?_
  refine va_get (D := D) (ci := 4) (v := .int sn) (C := RX4) (T := TX4) (N := 9) hx hb hts hin hown hK hP 0 rfl rfl 3 (by decide) (hta _ aw_689) (fun _ h9 => h9) rfl dX4_save_1 ?_
  refine lv_bipush (v := 6) hx hb dX4_save_4 (by decide) ?_
  obtain ⟨v1, hv1, h⟩ := pq_b h
  have J49_v1 : ∀ (H : Heap) (locs : List Loc) (ls : Array Slot), va_P D vwCl (WM cy q th z v1.1 v1.2 sp bf ty gn hs) H → va_D A (WM cy q th z v1.1 v1.2 sp bf ty gn hs) → va_S A s.heap H locs → lv_has ls 2 [(0, .ref (q 0))] → W p l e ({ frames := 0, cells := 0, slots := 0, locals := 0 } : Room) s m args below meth c H locs 0 0 Q (F0 m 49 ls []) := by
    intro H locs ls hP hD hS hl
    refine lv_iconst (v := 0) hx hb dX4_save_49 (by decide) ?_
    refine lv_istore_n (lv' := [(1, .int 0), (0, .ref (q 0))]) hx hb dX4_save_50 rfl hl (by decide) rfl (fun ls hl => ?_)
    obtain ⟨v5, hv5, h⟩ := pq_b h
    have X83_v5 : ∀ (H : Heap) (locs : List Loc) (ls : Array Slot), va_P D vwCl (WM cy q th z v5 v1.2 sp bf ty gn hs) H → va_D A (WM cy q th z v5 v1.2 sp bf ty gn hs) → va_S A s.heap H locs → lv_has ls 2 [(0, .ref (q 0))] → W p l e ({ frames := 0, cells := 0, slots := 0, locals := 0 } : Room) s m args below meth c H locs 0 0 Q (F0 m 83 ls []) := by
      intro H locs ls hP hD hS hl
      refine lv_aload_n hx hb dX4_save_83 rfl (lv_at hl 0 rfl) ?_
      refine lv_dup hx hb dX4_save_84 rfl ?_
      refine va_get (D := D) (ci := 4) (v := .int v1.2) (C := RX4) (T := TX4) (N := 9) hx hb hts hin hown hK hP 0 rfl rfl 3 (by decide) (hta _ aw_689) (fun _ h9 => h9) rfl dX4_save_85 ?_
      refine lv_iconst (v := 1) hx hb dX4_save_88 (by decide) ?_
      refine lv_iadd hx hb dX4_save_89 ?_
      refine va_put (D := D) (ci := 4) (v := .int (v1.2 + 1)) (ty := .int) (C := RX4) (T := TX4) (N := 9) hx hb hts hin tyX4 tyX4_ok nmX4 hown hK hP hD hS 0 rfl rfl 3 (by decide) (hta _ aw_689) (fun _ h9 => h9) rfl (by decide +kernel) rfl rfl (Nat.le_of_ble_eq_true rfl) dX4_save_90 (fun H locs hP hD hS => ?_)
      have hP : va_P D vwCl (WM cy q th z v5 (v1.2 + 1) sp bf ty gn hs) H := hP
      have hD : va_D A (WM cy q th z v5 (v1.2 + 1) sp bf ty gn hs) := hD
      obtain rfl := Option.some.inj h
      subst hQ
      exact pw_rv hx hb hr hlk hAe hP hS dX4_save_93
    clear h
    have L51_n4 : ∀ (n : Nat) (x1_51 : Int32) (sv_51 : Nat → Int32) (H : Heap) (locs : List Loc) (ls : Array Slot), fX4_save_L51 z v1 n x1_51 sv_51 = some v5 → va_P D vwCl (WM cy q th z sv_51 v1.2 sp bf ty gn hs) H → va_D A (WM cy q th z sv_51 v1.2 sp bf ty gn hs) → va_S A s.heap H locs → lv_has ls 2 [(0, .ref (q 0)), (1, .int x1_51)] → W p l e ({ frames := 0, cells := 0, slots := 0, locals := 0 } : Room) s m args below meth c H locs 0 0 Q (F0 m 51 ls []) := by
      intro n
      induction n with
      | zero =>
        intro x1_51 sv_51 H locs ls h hP hD hS hl
        exact pq_n h
      | succ n ih51 =>
        intro x1_51 sv_51 H locs ls h hP hD hS hl
        rw [fX4_save_L51] at h
        refine lv_iload_n hx hb dX4_save_51 rfl (lv_at hl 1 rfl) ?_
        refine lv_bipush (v := 114) hx hb dX4_save_52 (by decide) ?_
        refine lv_icmp_ge (tgt := 83) hx hb dX4_save_54 (by decide) (fun c3_ => ?_) (fun c3_ => ?_)
        · have h := pq_t c3_ h
          obtain rfl := Option.some.inj h
          exact X83_v5 _ _ _ hP hD hS (lv_sub hl [0] rfl)
        · have h := pq_e c3_ h
          refine lv_aload_n hx hb dX4_save_57 rfl (lv_at hl 0 rfl) ?_
          refine va_get (D := D) (ci := 4) (v := .ref (q 2)) (C := RX4) (T := TX4) (N := 9) hx hb hts hin hown hK hP 0 rfl rfl 2 (by decide) (hta _ aw_688) (fun _ h9 => h9) rfl dX4_save_58 ?_
          refine lv_aload_n hx hb dX4_save_61 rfl (lv_at hl 0 rfl) ?_
          refine va_get (D := D) (ci := 4) (v := .int v1.2) (C := RX4) (T := TX4) (N := 9) hx hb hts hin hown hK hP 0 rfl rfl 3 (by decide) (hta _ aw_689) (fun _ h9 => h9) rfl dX4_save_62 ?_
          refine lv_bipush (v := 114) hx hb dX4_save_65 (by decide) ?_
          refine lv_imul hx hb dX4_save_67 ?_
          refine lv_iload_n hx hb dX4_save_68 rfl (lv_at hl 1 rfl) ?_
          refine lv_iadd hx hb dX4_save_69 ?_
          refine lv_aload_n hx hb dX4_save_70 rfl (lv_at hl 0 rfl) ?_
          refine va_get (D := D) (ci := 4) (v := .ref (q 1)) (C := RX4) (T := TX4) (N := 9) hx hb hts hin hown hK hP 0 rfl rfl 1 (by decide) (hta _ aw_687) (fun _ h9 => h9) rfl dX4_save_71 ?_
          refine lv_iload_n hx hb dX4_save_74 rfl (lv_at hl 1 rfl) ?_
          obtain ⟨hg, h⟩ := pq_g h
          refine va_iald hx hb hK hP 1 0 rfl rfl (pq_vp hg) dX4_save_75 ?_
          obtain ⟨hg, h⟩ := pq_g h
          refine va_iast hx hb hK hP hD hS 2 0 rfl rfl (pq_vp hg) dX4_save_76 (fun H locs hP hD hS => ?_)
          have hP : va_P D vwCl (WM cy q th z (upd sv_51 ((v1.2 * 114) + x1_51).toNatClampNeg (z x1_51.toNatClampNeg)) v1.2 sp bf ty gn hs) H := hP
          have hD : va_D A (WM cy q th z (upd sv_51 ((v1.2 * 114) + x1_51).toNatClampNeg (z x1_51.toNatClampNeg)) v1.2 sp bf ty gn hs) := hD
          refine lv_iinc (v := x1_51 + 1) (lv' := [(1, .int (x1_51 + 1)), (0, .ref (q 0))]) hx hb dX4_save_77 hl (k := 1) rfl (by first | rfl | decide) (by decide) rfl (fun ls hl => ?_)
          refine lv_goto (tgt := 51) hx hb dX4_save_80 (by decide) ?_
          exact ih51 (x1_51 + 1) (upd sv_51 ((v1.2 * 114) + x1_51).toNatClampNeg (z x1_51.toNatClampNeg)) _ _ _ h hP hD hS (lv_sub hl [1, 0] rfl)
    have h := hv5
    exact L51_n4 1000 0 v1.1 _ _ _ h hP hD hS (lv_sub hl [1, 0] rfl)
  clear h
  have h := hv1
  clear hv1
  refine lv_icmp_ne (tgt := 49) hx hb dX4_save_6 (by decide) (fun c1_ => ?_) (fun c1_ => ?_)
  · have h := pq_e c1_ h
    obtain rfl := Option.some.inj h
    exact J49_v1 _ _ _ hP hD hS (lv_sub hl [0] rfl)
  · have h := pq_t c1_ h
    refine lv_iconst (v := 0) hx hb dX4_save_9 (by decide) ?_
    refine lv_istore_n (lv' := [(1, .int 0), (0, .ref (q 0))]) hx hb dX4_save_10 rfl hl (by decide) rfl (fun ls hl => ?_)
    obtain ⟨v3, hv3, h⟩ := pq_b h
    have X39_v3 : ∀ (H : Heap) (locs : List Loc) (ls : Array Slot), va_P D vwCl (WM cy q th z v3 sn sp bf ty gn hs) H → va_D A (WM cy q th z v3 sn sp bf ty gn hs) → va_S A s.heap H locs → lv_has ls 2 [(0, .ref (q 0))] → W p l e ({ frames := 0, cells := 0, slots := 0, locals := 0 } : Room) s m args below meth c H locs 0 0 Q (F0 m 39 ls []) := by
      intro H locs ls hP hD hS hl
      refine lv_aload_n hx hb dX4_save_39 rfl (lv_at hl 0 rfl) ?_
      refine lv_dup hx hb dX4_save_40 rfl ?_
      refine va_get (D := D) (ci := 4) (v := .int sn) (C := RX4) (T := TX4) (N := 9) hx hb hts hin hown hK hP 0 rfl rfl 3 (by decide) (hta _ aw_689) (fun _ h9 => h9) rfl dX4_save_41 ?_
      refine lv_iconst (v := 1) hx hb dX4_save_44 (by decide) ?_
      refine lv_isub hx hb dX4_save_45 ?_
      refine va_put (D := D) (ci := 4) (v := .int (sn - 1)) (ty := .int) (C := RX4) (T := TX4) (N := 9) hx hb hts hin tyX4 tyX4_ok nmX4 hown hK hP hD hS 0 rfl rfl 3 (by decide) (hta _ aw_689) (fun _ h9 => h9) rfl (by decide +kernel) rfl rfl (Nat.le_of_ble_eq_true rfl) dX4_save_46 (fun H locs hP hD hS => ?_)
      have hP : va_P D vwCl (WM cy q th z v3 (sn - 1) sp bf ty gn hs) H := hP
      have hD : va_D A (WM cy q th z v3 (sn - 1) sp bf ty gn hs) := hD
      obtain rfl := Option.some.inj h
      exact J49_v1 _ _ _ hP hD hS (lv_sub hl [0] rfl)
    clear h
    have L11_n2 : ∀ (n : Nat) (x1_11 : Int32) (sv_11 : Nat → Int32) (H : Heap) (locs : List Loc) (ls : Array Slot), fX4_save_L11  n x1_11 sv_11 = some v3 → va_P D vwCl (WM cy q th z sv_11 sn sp bf ty gn hs) H → va_D A (WM cy q th z sv_11 sn sp bf ty gn hs) → va_S A s.heap H locs → lv_has ls 2 [(0, .ref (q 0)), (1, .int x1_11)] → W p l e ({ frames := 0, cells := 0, slots := 0, locals := 0 } : Room) s m args below meth c H locs 0 0 Q (F0 m 11 ls []) := by
      intro n
      induction n with
      | zero =>
        intro x1_11 sv_11 H locs ls h hP hD hS hl
        exact pq_n h
      | succ n ih11 =>
        intro x1_11 sv_11 H locs ls h hP hD hS hl
        rw [fX4_save_L11] at h
        refine lv_iload_n hx hb dX4_save_11 rfl (lv_at hl 1 rfl) ?_
        refine lv_sipush (v := 570) hx hb dX4_save_12 (by decide) ?_
        refine lv_icmp_ge (tgt := 39) hx hb dX4_save_15 (by decide) (fun c2_ => ?_) (fun c2_ => ?_)
        · have h := pq_t c2_ h
          obtain rfl := Option.some.inj h
          exact X39_v3 _ _ _ hP hD hS (lv_sub hl [0] rfl)
        · have h := pq_e c2_ h
          refine lv_aload_n hx hb dX4_save_18 rfl (lv_at hl 0 rfl) ?_
          refine va_get (D := D) (ci := 4) (v := .ref (q 2)) (C := RX4) (T := TX4) (N := 9) hx hb hts hin hown hK hP 0 rfl rfl 2 (by decide) (hta _ aw_688) (fun _ h9 => h9) rfl dX4_save_19 ?_
          refine lv_iload_n hx hb dX4_save_22 rfl (lv_at hl 1 rfl) ?_
          refine lv_aload_n hx hb dX4_save_23 rfl (lv_at hl 0 rfl) ?_
          refine va_get (D := D) (ci := 4) (v := .ref (q 2)) (C := RX4) (T := TX4) (N := 9) hx hb hts hin hown hK hP 0 rfl rfl 2 (by decide) (hta _ aw_688) (fun _ h9 => h9) rfl dX4_save_24 ?_
          refine lv_iload_n hx hb dX4_save_27 rfl (lv_at hl 1 rfl) ?_
          refine lv_bipush (v := 114) hx hb dX4_save_28 (by decide) ?_
          refine lv_iadd hx hb dX4_save_30 ?_
          obtain ⟨hg, h⟩ := pq_g h
          refine va_iald hx hb hK hP 2 0 rfl rfl (pq_vp hg) dX4_save_31 ?_
          obtain ⟨hg, h⟩ := pq_g h
          refine va_iast hx hb hK hP hD hS 2 0 rfl rfl (pq_vp hg) dX4_save_32 (fun H locs hP hD hS => ?_)
          have hP : va_P D vwCl (WM cy q th z (upd sv_11 x1_11.toNatClampNeg (sv_11 (x1_11 + 114).toNatClampNeg)) sn sp bf ty gn hs) H := hP
          have hD : va_D A (WM cy q th z (upd sv_11 x1_11.toNatClampNeg (sv_11 (x1_11 + 114).toNatClampNeg)) sn sp bf ty gn hs) := hD
          refine lv_iinc (v := x1_11 + 1) (lv' := [(1, .int (x1_11 + 1)), (0, .ref (q 0))]) hx hb dX4_save_33 hl (k := 1) rfl (by first | rfl | decide) (by decide) rfl (fun ls hl => ?_)
          refine lv_goto (tgt := 11) hx hb dX4_save_36 (by decide) ?_
          exact ih11 (x1_11 + 1) (upd sv_11 x1_11.toNatClampNeg (sv_11 (x1_11 + 114).toNatClampNeg)) _ _ _ h hP hD hS (lv_sub hl [1, 0] rfl)
    have h := hv3
    exact L11_n2 1000 0 sv _ _ _ h hP hD hS (lv_sub hl [1, 0] rfl)

def aX4_manyIn : List Cond := Cond.code yX4_manyIn cX4_manyIn 4 (some .int) :: pw_all
theorem pX4_manyIn : yX4_manyIn.cls = RX4 ∧ yX4_manyIn.cls ≠ "java/lang/invoke/MethodHandle" ∧ yX4_manyIn.cls ≠ "java/lang/invoke/VarHandle" ∧ (parseMethodDescriptor yX4_manyIn.desc).map (fun d => d.parameters.length) = some 1 := by decide +kernel
set_option maxHeartbeats 8000000 in
set_option maxRecDepth 100000 in
theorem kX4_manyIn (l : Launch) (D : va_G) (cy : Nat → ClassId) (q : Nat → Nat) (sz : Nat) (th : Int32) (z : Nat → Int32) (sv : Nat → Int32) (sn : Int32) (sp : Nat → Int32) (bf : Nat → Int32) (ty : Int32) (gn : Nat → Int32) (hs : Int64) (x1 : Int32) (o : Int32) (h : fX4_manyIn x1 z = some o) : Met l yX4_manyIn aX4_manyIn ({ frames := 2, cells := 0, slots := 0, locals := 44 }) (pw_Pre D cy [.ref (q 0), .int x1] (WM cy q th z sv sn sp bf ty gn hs) sz) (pw_I D o (WM cy q th z sv sn sp bf ty gn hs) (WM cy q th z sv sn sp bf ty gn hs) sz) 0 0 (va_A (WM cy q th z sv sn sp bf ty gn hs) sz) := by
  refine pw_met (cc := cX4_manyIn) (maxL := 4) (ret := (some .int)) (by decide) rfl (Nat.le_of_ble_eq_true rfl) ?_
  intro p e s m args below meth c ls A hx hb hr hml hlk hts hown hAe hA hK hP hD hS hl
  have hl : lv_has ls 4 [(0, .ref (q 0)), (1, .int x1)] := hl
  generalize hQ : MQ below (pw_I D o (WM cy q th z sv sn sp bf ty gn hs) (WM cy q th z sv sn sp bf ty gn hs) sz) args s 0 0 (va_A (WM cy q th z sv sn sp bf ty gn hs) sz) = Q
  have hF : CallFix p m c cX4_manyIn 4 s args aX4_manyIn RX4 := ⟨hx, hb, hml, hown, hts⟩
  have hta : ∀ w ∈ pw_all, w.before args s = true := fun w h => hts w (List.mem_cons_of_mem _ h)
  have hin : ∀ w ∈ wsX40, w ∈ aX4_manyIn := fun w h => List.mem_cons_of_mem _ (inA4 w h)
  unfold fX4_manyIn at h
  refine lv_iconst (v := 0) hx hb dX4_manyIn_0 (by decide) ?_
  refine lv_istore_n (lv' := [(2, .int 0), (0, .ref (q 0)), (1, .int x1)]) hx hb dX4_manyIn_1 rfl hl (by decide) rfl (fun ls hl => ?_)
  refine lv_iconst (v := 0) hx hb dX4_manyIn_2 (by decide) ?_
  refine lv_istore_n (lv' := [(3, .int 0), (2, .int 0), (0, .ref (q 0)), (1, .int x1)]) hx hb dX4_manyIn_3 rfl hl (by decide) rfl (fun ls hl => ?_)
  have L4_n1 : ∀ (n : Nat) (x2_4 : Int32) (x3_4 : Int32) (H : Heap) (locs : List Loc) (ls : Array Slot), fX4_manyIn_L4 x1 z n x2_4 x3_4 = some o → va_P D vwCl (WM cy q th z sv sn sp bf ty gn hs) H → va_D A (WM cy q th z sv sn sp bf ty gn hs) → va_S A s.heap H locs → lv_has ls 4 [(0, .ref (q 0)), (1, .int x1), (2, .int x2_4), (3, .int x3_4)] → W p l e ({ frames := 2, cells := 0, slots := 0, locals := 44 } : Room) s m args below meth c H locs 0 0 Q (F0 m 4 ls []) := by
    intro n
    induction n with
    | zero =>
      intro x2_4 x3_4 H locs ls h hP hD hS hl
      exact pq_n h
    | succ n ih4 =>
      intro x2_4 x3_4 H locs ls h hP hD hS hl
      rw [fX4_manyIn_L4] at h
      refine lv_iload_n hx hb dX4_manyIn_4 rfl (lv_at hl 3 rfl) ?_
      refine lv_bipush (v := 8) hx hb dX4_manyIn_5 (by decide) ?_
      refine lv_icmp_ge (tgt := 33) hx hb dX4_manyIn_7 (by decide) (fun c1_ => ?_) (fun c1_ => ?_)
      · have h := pq_t c1_ h
        refine lv_iload_n hx hb dX4_manyIn_33 rfl (lv_at hl 2 rfl) ?_
        obtain rfl := Option.some.inj h
        subst hQ
        exact pw_ri hx hb hr hlk hAe hP hS rfl dX4_manyIn_34
      · have h := pq_e c1_ h
        refine lv_iload_n hx hb dX4_manyIn_10 rfl (lv_at hl 2 rfl) ?_
        refine lv_aload_n hx hb dX4_manyIn_11 rfl (lv_at hl 0 rfl) ?_
        refine lv_iload_n hx hb dX4_manyIn_12 rfl (lv_at hl 3 rfl) ?_
        refine lv_iload_n hx hb dX4_manyIn_13 rfl (lv_at hl 1 rfl) ?_
        obtain ⟨r2, hr2, h⟩ := pq_b h
        refine pw_ci (w1 := WM cy q th z sv sn sp bf ty gn hs) (rest := [.int x2_4]) (As := [.int x3_4, .int x1]) hF (kX4_isIn l D cy q _ th z sv sn sp bf ty gn hs x3_4 x1 r2 hr2) (cwV 2 hts (pw_gV (own := RX4) (idx := 50) (C := RX4) (y := yX4_isIn) aw_780 aw_782 aw_s31 aw_6 aw_783) rfl rfl rfl pX4_isIn ⟨Nat.le_of_ble_eq_true rfl, Nat.le_of_ble_eq_true rfl⟩) (va_recv hK hP (ci := 4) (q0 := 0) rfl rfl) hK hP hD hS hA rfl rfl hl.1 rfl (Nat.le_of_ble_eq_true rfl) dX4_manyIn_14 ⟨Nat.zero_le _, Nat.zero_le _⟩ (fun H locs hP hD hS => ?_)
        refine lv_if_eq (tgt := 24) hx hb dX4_manyIn_17 (by decide) (fun c2_ => ?_) (fun c2_ => ?_)
        · have h := pq_t c2_ h
          refine lv_iconst (v := 0) hx hb dX4_manyIn_24 (by decide) ?_
          refine lv_iadd hx hb dX4_manyIn_25 ?_
          refine lv_istore_n (lv' := [(2, .int (x2_4 + 0)), (0, .ref (q 0)), (1, .int x1), (3, .int x3_4)]) hx hb dX4_manyIn_26 rfl hl (by decide) rfl (fun ls hl => ?_)
          refine lv_iinc (v := x3_4 + 1) (lv' := [(3, .int (x3_4 + 1)), (2, .int (x2_4 + 0)), (0, .ref (q 0)), (1, .int x1)]) hx hb dX4_manyIn_27 hl (k := 3) rfl (by first | rfl | decide) (by decide) rfl (fun ls hl => ?_)
          refine lv_goto (tgt := 4) hx hb dX4_manyIn_30 (by decide) ?_
          exact ih4 (x2_4 + 0) (x3_4 + 1) _ _ _ h hP hD hS (lv_sub hl [2, 3, 1, 0] rfl)
        · have h := pq_e c2_ h
          refine lv_iconst (v := 1) hx hb dX4_manyIn_20 (by decide) ?_
          refine lv_goto (tgt := 25) hx hb dX4_manyIn_21 (by decide) ?_
          refine lv_iadd hx hb dX4_manyIn_25 ?_
          refine lv_istore_n (lv' := [(2, .int (x2_4 + 1)), (0, .ref (q 0)), (1, .int x1), (3, .int x3_4)]) hx hb dX4_manyIn_26 rfl hl (by decide) rfl (fun ls hl => ?_)
          refine lv_iinc (v := x3_4 + 1) (lv' := [(3, .int (x3_4 + 1)), (2, .int (x2_4 + 1)), (0, .ref (q 0)), (1, .int x1)]) hx hb dX4_manyIn_27 hl (k := 3) rfl (by first | rfl | decide) (by decide) rfl (fun ls hl => ?_)
          refine lv_goto (tgt := 4) hx hb dX4_manyIn_30 (by decide) ?_
          exact ih4 (x2_4 + 1) (x3_4 + 1) _ _ _ h hP hD hS (lv_sub hl [2, 3, 1, 0] rfl)
  exact L4_n1 1000 0 0 _ _ _ h hP hD hS (lv_sub hl [2, 3, 1, 0] rfl)

def aX4_connections : List Cond := Cond.code yX4_connections cX4_connections 1 (some .int) :: pw_all
theorem pX4_connections : yX4_connections.cls = RX4 ∧ yX4_connections.cls ≠ "java/lang/invoke/MethodHandle" ∧ yX4_connections.cls ≠ "java/lang/invoke/VarHandle" ∧ (parseMethodDescriptor yX4_connections.desc).map (fun d => d.parameters.length) = some 0 := by decide +kernel
set_option maxHeartbeats 8000000 in
set_option maxRecDepth 100000 in
theorem kX4_connections (l : Launch) (D : va_G) (cy : Nat → ClassId) (q : Nat → Nat) (sz : Nat) (th : Int32) (z : Nat → Int32) (sv : Nat → Int32) (sn : Int32) (sp : Nat → Int32) (bf : Nat → Int32) (ty : Int32) (gn : Nat → Int32) (hs : Int64)  (o : Int32) (h : fX4_connections z = some o) : Met l yX4_connections aX4_connections ({ frames := 3, cells := 0, slots := 0, locals := 67 }) (pw_Pre D cy [.ref (q 0)] (WM cy q th z sv sn sp bf ty gn hs) sz) (pw_I D o (WM cy q th z sv sn sp bf ty gn hs) (WM cy q th z sv sn sp bf ty gn hs) sz) 0 0 (va_A (WM cy q th z sv sn sp bf ty gn hs) sz) := by
  refine pw_met (cc := cX4_connections) (maxL := 1) (ret := (some .int)) (by decide) rfl (Nat.le_of_ble_eq_true rfl) ?_
  intro p e s m args below meth c ls A hx hb hr hml hlk hts hown hAe hA hK hP hD hS hl
  have hl : lv_has ls 1 [(0, .ref (q 0))] := hl
  generalize hQ : MQ below (pw_I D o (WM cy q th z sv sn sp bf ty gn hs) (WM cy q th z sv sn sp bf ty gn hs) sz) args s 0 0 (va_A (WM cy q th z sv sn sp bf ty gn hs) sz) = Q
  have hF : CallFix p m c cX4_connections 1 s args aX4_connections RX4 := ⟨hx, hb, hml, hown, hts⟩
  have hta : ∀ w ∈ pw_all, w.before args s = true := fun w h => hts w (List.mem_cons_of_mem _ h)
  have hin : ∀ w ∈ wsX40, w ∈ aX4_connections := fun w h => List.mem_cons_of_mem _ (inA4 w h)
  unfold fX4_connections at h
  refine lv_bipush (v := 8) hx hb dX4_connections_0 (by decide) ?_
  refine lv_aload_n hx hb dX4_connections_2 rfl (lv_at hl 0 rfl) ?_
  refine lv_iconst (v := 0) hx hb dX4_connections_3 (by decide) ?_
  obtain ⟨r1, hr1, h⟩ := pq_b h
  refine pw_ci (w1 := WM cy q th z sv sn sp bf ty gn hs) (rest := [.int 8]) (As := [.int 0]) hF (kX4_manyIn l D cy q _ th z sv sn sp bf ty gn hs 0 r1 hr1) (cwV 1 hts (pw_gV (own := RX4) (idx := 54) (C := RX4) (y := yX4_manyIn) aw_792 aw_794 aw_s34 aw_6 aw_795) rfl rfl rfl pX4_manyIn ⟨Nat.le_of_ble_eq_true rfl, Nat.le_of_ble_eq_true rfl⟩) (va_recv hK hP (ci := 4) (q0 := 0) rfl rfl) hK hP hD hS hA rfl rfl hl.1 rfl (Nat.le_of_ble_eq_true rfl) dX4_connections_4 ⟨Nat.zero_le _, Nat.zero_le _⟩ (fun H locs hP hD hS => ?_)
  refine lv_isub hx hb dX4_connections_7 ?_
  obtain rfl := Option.some.inj h
  subst hQ
  exact pw_ri hx hb hr hlk hAe hP hS rfl dX4_connections_8

def aX4_lentTo : List Cond := Cond.code yX4_lentTo cX4_lentTo 4 (some .int) :: pw_all
theorem pX4_lentTo : yX4_lentTo.cls = RX4 ∧ yX4_lentTo.cls ≠ "java/lang/invoke/MethodHandle" ∧ yX4_lentTo.cls ≠ "java/lang/invoke/VarHandle" ∧ (parseMethodDescriptor yX4_lentTo.desc).map (fun d => d.parameters.length) = some 1 := by decide +kernel
set_option maxHeartbeats 8000000 in
set_option maxRecDepth 100000 in
theorem kX4_lentTo (l : Launch) (D : va_G) (cy : Nat → ClassId) (q : Nat → Nat) (sz : Nat) (th : Int32) (z : Nat → Int32) (sv : Nat → Int32) (sn : Int32) (sp : Nat → Int32) (bf : Nat → Int32) (ty : Int32) (gn : Nat → Int32) (hs : Int64) (x1 : Int32) (o : Int32) (h : fX4_lentTo x1 z = some o) : Met l yX4_lentTo aX4_lentTo ({ frames := 1, cells := 0, slots := 0, locals := 22 }) (pw_Pre D cy [.ref (q 0), .int x1] (WM cy q th z sv sn sp bf ty gn hs) sz) (pw_I D o (WM cy q th z sv sn sp bf ty gn hs) (WM cy q th z sv sn sp bf ty gn hs) sz) 0 0 (va_A (WM cy q th z sv sn sp bf ty gn hs) sz) := by
  refine pw_met (cc := cX4_lentTo) (maxL := 4) (ret := (some .int)) (by decide) rfl (Nat.le_of_ble_eq_true rfl) ?_
  intro p e s m args below meth c ls A hx hb hr hml hlk hts hown hAe hA hK hP hD hS hl
  have hl : lv_has ls 4 [(0, .ref (q 0)), (1, .int x1)] := hl
  generalize hQ : MQ below (pw_I D o (WM cy q th z sv sn sp bf ty gn hs) (WM cy q th z sv sn sp bf ty gn hs) sz) args s 0 0 (va_A (WM cy q th z sv sn sp bf ty gn hs) sz) = Q
  have hF : CallFix p m c cX4_lentTo 4 s args aX4_lentTo RX4 := ⟨hx, hb, hml, hown, hts⟩
  have hta : ∀ w ∈ pw_all, w.before args s = true := fun w h => hts w (List.mem_cons_of_mem _ h)
  have hin : ∀ w ∈ wsX40, w ∈ aX4_lentTo := fun w h => List.mem_cons_of_mem _ (inA4 w h)
  unfold fX4_lentTo at h
  refine lv_iconst (v := 0) hx hb dX4_lentTo_0 (by decide) ?_
  refine lv_istore_n (lv' := [(2, .int 0), (0, .ref (q 0)), (1, .int x1)]) hx hb dX4_lentTo_1 rfl hl (by decide) rfl (fun ls hl => ?_)
  refine lv_iconst (v := 0) hx hb dX4_lentTo_2 (by decide) ?_
  refine lv_istore_n (lv' := [(3, .int 0), (2, .int 0), (0, .ref (q 0)), (1, .int x1)]) hx hb dX4_lentTo_3 rfl hl (by decide) rfl (fun ls hl => ?_)
  have L4_n1 : ∀ (n : Nat) (x2_4 : Int32) (x3_4 : Int32) (H : Heap) (locs : List Loc) (ls : Array Slot), fX4_lentTo_L4 x1 z n x2_4 x3_4 = some o → va_P D vwCl (WM cy q th z sv sn sp bf ty gn hs) H → va_D A (WM cy q th z sv sn sp bf ty gn hs) → va_S A s.heap H locs → lv_has ls 4 [(0, .ref (q 0)), (1, .int x1), (2, .int x2_4), (3, .int x3_4)] → W p l e ({ frames := 1, cells := 0, slots := 0, locals := 22 } : Room) s m args below meth c H locs 0 0 Q (F0 m 4 ls []) := by
    intro n
    induction n with
    | zero =>
      intro x2_4 x3_4 H locs ls h hP hD hS hl
      exact pq_n h
    | succ n ih4 =>
      intro x2_4 x3_4 H locs ls h hP hD hS hl
      rw [fX4_lentTo_L4] at h
      refine lv_iload_n hx hb dX4_lentTo_4 rfl (lv_at hl 3 rfl) ?_
      refine lv_bipush (v := 8) hx hb dX4_lentTo_5 (by decide) ?_
      refine lv_icmp_ge (tgt := 34) hx hb dX4_lentTo_7 (by decide) (fun c1_ => ?_) (fun c1_ => ?_)
      · have h := pq_t c1_ h
        refine lv_iload_n hx hb dX4_lentTo_34 rfl (lv_at hl 2 rfl) ?_
        obtain rfl := Option.some.inj h
        subst hQ
        exact pw_ri hx hb hr hlk hAe hP hS rfl dX4_lentTo_35
      · have h := pq_e c1_ h
        refine lv_iload_n hx hb dX4_lentTo_10 rfl (lv_at hl 2 rfl) ?_
        refine lv_aload_n hx hb dX4_lentTo_11 rfl (lv_at hl 0 rfl) ?_
        refine lv_iload_n hx hb dX4_lentTo_12 rfl (lv_at hl 3 rfl) ?_
        refine lv_iconst (v := 1) hx hb dX4_lentTo_13 (by decide) ?_
        obtain ⟨r2, hr2, h⟩ := pq_b h
        refine pw_ci (w1 := WM cy q th z sv sn sp bf ty gn hs) (rest := [.int x2_4]) (As := [.int x3_4, .int 1]) hF (kX4_of l D cy q _ th z sv sn sp bf ty gn hs x3_4 1 r2 hr2) (cwV 2 hts (pw_gV (own := RX4) (idx := 40) (C := RX4) (y := yX4_of) aw_768 aw_770 aw_s28 aw_6 aw_771) rfl rfl rfl pX4_of ⟨Nat.le_of_ble_eq_true rfl, Nat.le_of_ble_eq_true rfl⟩) (va_recv hK hP (ci := 4) (q0 := 0) rfl rfl) hK hP hD hS hA rfl rfl hl.1 rfl (Nat.le_of_ble_eq_true rfl) dX4_lentTo_14 ⟨Nat.zero_le _, Nat.zero_le _⟩ (fun H locs hP hD hS => ?_)
        refine lv_iload_n hx hb dX4_lentTo_17 rfl (lv_at hl 1 rfl) ?_
        refine lv_icmp_ne (tgt := 25) hx hb dX4_lentTo_18 (by decide) (fun c2_ => ?_) (fun c2_ => ?_)
        · have h := pq_e c2_ h
          refine lv_iconst (v := 0) hx hb dX4_lentTo_25 (by decide) ?_
          refine lv_iadd hx hb dX4_lentTo_26 ?_
          refine lv_istore_n (lv' := [(2, .int (x2_4 + 0)), (0, .ref (q 0)), (1, .int x1), (3, .int x3_4)]) hx hb dX4_lentTo_27 rfl hl (by decide) rfl (fun ls hl => ?_)
          refine lv_iinc (v := x3_4 + 1) (lv' := [(3, .int (x3_4 + 1)), (2, .int (x2_4 + 0)), (0, .ref (q 0)), (1, .int x1)]) hx hb dX4_lentTo_28 hl (k := 3) rfl (by first | rfl | decide) (by decide) rfl (fun ls hl => ?_)
          refine lv_goto (tgt := 4) hx hb dX4_lentTo_31 (by decide) ?_
          exact ih4 (x2_4 + 0) (x3_4 + 1) _ _ _ h hP hD hS (lv_sub hl [2, 3, 1, 0] rfl)
        · have h := pq_t c2_ h
          refine lv_iconst (v := 1) hx hb dX4_lentTo_21 (by decide) ?_
          refine lv_goto (tgt := 26) hx hb dX4_lentTo_22 (by decide) ?_
          refine lv_iadd hx hb dX4_lentTo_26 ?_
          refine lv_istore_n (lv' := [(2, .int (x2_4 + 1)), (0, .ref (q 0)), (1, .int x1), (3, .int x3_4)]) hx hb dX4_lentTo_27 rfl hl (by decide) rfl (fun ls hl => ?_)
          refine lv_iinc (v := x3_4 + 1) (lv' := [(3, .int (x3_4 + 1)), (2, .int (x2_4 + 1)), (0, .ref (q 0)), (1, .int x1)]) hx hb dX4_lentTo_28 hl (k := 3) rfl (by first | rfl | decide) (by decide) rfl (fun ls hl => ?_)
          refine lv_goto (tgt := 4) hx hb dX4_lentTo_31 (by decide) ?_
          exact ih4 (x2_4 + 1) (x3_4 + 1) _ _ _ h hP hD hS (lv_sub hl [2, 3, 1, 0] rfl)
  exact L4_n1 1000 0 0 _ _ _ h hP hD hS (lv_sub hl [2, 3, 1, 0] rfl)

def aX4_close : List Cond := Cond.code yX4_close cX4_close 3 none :: pw_all
theorem pX4_close : yX4_close.cls = RX4 ∧ yX4_close.cls ≠ "java/lang/invoke/MethodHandle" ∧ yX4_close.cls ≠ "java/lang/invoke/VarHandle" ∧ (parseMethodDescriptor yX4_close.desc).map (fun d => d.parameters.length) = some 2 := by decide +kernel
set_option maxHeartbeats 8000000 in
set_option maxRecDepth 100000 in
theorem kX4_close (l : Launch) (D : va_G) (cy : Nat → ClassId) (q : Nat → Nat) (sz : Nat) (th : Int32) (z : Nat → Int32) (sv : Nat → Int32) (sn : Int32) (sp : Nat → Int32) (bf : Nat → Int32) (ty : Int32) (gn : Nat → Int32) (hs : Int64) (x1 : Int32) (x2 : Int32) (o : (Nat → Int32)) (h : fX4_close x1 x2 z = some o) : Met l yX4_close aX4_close ({ frames := 1, cells := 0, slots := 0, locals := 23 }) (pw_Pre D cy [.ref (q 0), .int x1, .int x2] (WM cy q th z sv sn sp bf ty gn hs) sz) (pw_V D (WM cy q th z sv sn sp bf ty gn hs) (WM cy q th o sv sn sp bf ty gn hs) sz) 0 0 (va_A (WM cy q th z sv sn sp bf ty gn hs) sz) := by
  refine pw_met (cc := cX4_close) (maxL := 3) (ret := none) (by decide) rfl (Nat.le_of_ble_eq_true rfl) ?_
  intro p e s m args below meth c ls A hx hb hr hml hlk hts hown hAe hA hK hP hD hS hl
  have hl : lv_has ls 3 [(0, .ref (q 0)), (1, .int x1), (2, .int x2)] := hl
  generalize hQ : MQ below (pw_V D (WM cy q th z sv sn sp bf ty gn hs) (WM cy q th o sv sn sp bf ty gn hs) sz) args s 0 0 (va_A (WM cy q th z sv sn sp bf ty gn hs) sz) = Q
  have hF : CallFix p m c cX4_close 3 s args aX4_close RX4 := ⟨hx, hb, hml, hown, hts⟩
  have hta : ∀ w ∈ pw_all, w.before args s = true := fun w h => hts w (List.mem_cons_of_mem _ h)
  have hin : ∀ w ∈ wsX40, w ∈ aX4_close := fun w h => List.mem_cons_of_mem _ (inA4 w h)
  unfold fX4_close at h
  refine lv_aload_n hx hb dX4_close_0 rfl (lv_at hl 0 rfl) ?_
  refine lv_iload_n hx hb dX4_close_1 rfl (lv_at hl 1 rfl) ?_
  refine lv_iconst (v := 0) hx hb dX4_close_2 (by decide) ?_
  refine lv_iconst (v := 0) hx hb dX4_close_3 (by decide) ?_
  obtain ⟨r1, hr1, h⟩ := pq_b h
  refine pw_cv (w1 := WM cy q th r1 sv sn sp bf ty gn hs) (rest := []) (As := [.int x1, .int 0, .int 0]) hF (kX4_put l D cy q _ th z sv sn sp bf ty gn hs x1 0 0 r1 hr1) (cwV 3 hts (pw_gV (own := RX4) (idx := 25) (C := RX4) (y := yX4_put) aw_678 aw_680 aw_s17 aw_6 aw_681) rfl rfl rfl pX4_put ⟨Nat.le_of_ble_eq_true rfl, Nat.le_of_ble_eq_true rfl⟩) (va_recv hK hP (ci := 4) (q0 := 0) rfl rfl) hK hP hD hS hA rfl rfl hl.1 rfl (Nat.le_of_ble_eq_true rfl) dX4_close_4 ⟨Nat.zero_le _, Nat.zero_le _⟩ (fun H locs hP hD hS => ?_)
  refine lv_aload_n hx hb dX4_close_7 rfl (lv_at hl 0 rfl) ?_
  refine lv_iload_n hx hb dX4_close_8 rfl (lv_at hl 1 rfl) ?_
  refine lv_iconst (v := 1) hx hb dX4_close_9 (by decide) ?_
  refine lv_iconst (v := (-1)) hx hb dX4_close_10 (by decide) ?_
  obtain ⟨r2, hr2, h⟩ := pq_b h
  refine pw_cv (w1 := WM cy q th r2 sv sn sp bf ty gn hs) (rest := []) (As := [.int x1, .int 1, .int (-1)]) hF (kX4_put l D cy q _ th r1 sv sn sp bf ty gn hs x1 1 (-1) r2 hr2) (cwV 3 hts (pw_gV (own := RX4) (idx := 25) (C := RX4) (y := yX4_put) aw_678 aw_680 aw_s17 aw_6 aw_681) rfl rfl rfl pX4_put ⟨Nat.le_of_ble_eq_true rfl, Nat.le_of_ble_eq_true rfl⟩) (va_recv hK hP (ci := 4) (q0 := 0) rfl rfl) hK hP hD hS hA rfl rfl hl.1 rfl (Nat.le_of_ble_eq_true rfl) dX4_close_11 ⟨Nat.zero_le _, Nat.zero_le _⟩ (fun H locs hP hD hS => ?_)
  refine lv_aload_n hx hb dX4_close_14 rfl (lv_at hl 0 rfl) ?_
  refine lv_iload_n hx hb dX4_close_15 rfl (lv_at hl 1 rfl) ?_
  refine lv_iconst (v := 2) hx hb dX4_close_16 (by decide) ?_
  refine lv_iconst (v := 0) hx hb dX4_close_17 (by decide) ?_
  obtain ⟨r3, hr3, h⟩ := pq_b h
  refine pw_cv (w1 := WM cy q th r3 sv sn sp bf ty gn hs) (rest := []) (As := [.int x1, .int 2, .int 0]) hF (kX4_put l D cy q _ th r2 sv sn sp bf ty gn hs x1 2 0 r3 hr3) (cwV 3 hts (pw_gV (own := RX4) (idx := 25) (C := RX4) (y := yX4_put) aw_678 aw_680 aw_s17 aw_6 aw_681) rfl rfl rfl pX4_put ⟨Nat.le_of_ble_eq_true rfl, Nat.le_of_ble_eq_true rfl⟩) (va_recv hK hP (ci := 4) (q0 := 0) rfl rfl) hK hP hD hS hA rfl rfl hl.1 rfl (Nat.le_of_ble_eq_true rfl) dX4_close_18 ⟨Nat.zero_le _, Nat.zero_le _⟩ (fun H locs hP hD hS => ?_)
  refine lv_aload_n hx hb dX4_close_21 rfl (lv_at hl 0 rfl) ?_
  refine lv_iload_n hx hb dX4_close_22 rfl (lv_at hl 1 rfl) ?_
  refine lv_iconst (v := 3) hx hb dX4_close_23 (by decide) ?_
  refine lv_iconst (v := 0) hx hb dX4_close_24 (by decide) ?_
  obtain ⟨r4, hr4, h⟩ := pq_b h
  refine pw_cv (w1 := WM cy q th r4 sv sn sp bf ty gn hs) (rest := []) (As := [.int x1, .int 3, .int 0]) hF (kX4_put l D cy q _ th r3 sv sn sp bf ty gn hs x1 3 0 r4 hr4) (cwV 3 hts (pw_gV (own := RX4) (idx := 25) (C := RX4) (y := yX4_put) aw_678 aw_680 aw_s17 aw_6 aw_681) rfl rfl rfl pX4_put ⟨Nat.le_of_ble_eq_true rfl, Nat.le_of_ble_eq_true rfl⟩) (va_recv hK hP (ci := 4) (q0 := 0) rfl rfl) hK hP hD hS hA rfl rfl hl.1 rfl (Nat.le_of_ble_eq_true rfl) dX4_close_25 ⟨Nat.zero_le _, Nat.zero_le _⟩ (fun H locs hP hD hS => ?_)
  refine lv_aload_n hx hb dX4_close_28 rfl (lv_at hl 0 rfl) ?_
  refine lv_iload_n hx hb dX4_close_29 rfl (lv_at hl 1 rfl) ?_
  refine lv_iconst (v := 4) hx hb dX4_close_30 (by decide) ?_
  refine lv_iconst (v := 0) hx hb dX4_close_31 (by decide) ?_
  obtain ⟨r5, hr5, h⟩ := pq_b h
  refine pw_cv (w1 := WM cy q th r5 sv sn sp bf ty gn hs) (rest := []) (As := [.int x1, .int 4, .int 0]) hF (kX4_put l D cy q _ th r4 sv sn sp bf ty gn hs x1 4 0 r5 hr5) (cwV 3 hts (pw_gV (own := RX4) (idx := 25) (C := RX4) (y := yX4_put) aw_678 aw_680 aw_s17 aw_6 aw_681) rfl rfl rfl pX4_put ⟨Nat.le_of_ble_eq_true rfl, Nat.le_of_ble_eq_true rfl⟩) (va_recv hK hP (ci := 4) (q0 := 0) rfl rfl) hK hP hD hS hA rfl rfl hl.1 rfl (Nat.le_of_ble_eq_true rfl) dX4_close_32 ⟨Nat.zero_le _, Nat.zero_le _⟩ (fun H locs hP hD hS => ?_)
  refine lv_aload_n hx hb dX4_close_35 rfl (lv_at hl 0 rfl) ?_
  refine va_get (D := D) (ci := 4) (v := .ref (q 1)) (C := RX4) (T := TX4) (N := 9) hx hb hts hin hown hK hP 0 rfl rfl 1 (by decide) (hta _ aw_687) (fun _ h9 => h9) rfl dX4_close_36 ?_
  refine lv_bipush (v := 11) hx hb dX4_close_39 (by decide) ?_
  refine lv_dup2_11 hx hb dX4_close_41 rfl rfl ?_
  refine va_iald hx hb hK hP 1 0 rfl rfl (pq_vp (by decide +kernel)) dX4_close_42 ?_
  refine lv_iconst (v := 1) hx hb dX4_close_43 (by decide) ?_
  refine lv_iadd hx hb dX4_close_44 ?_
  refine va_iast hx hb hK hP hD hS 1 0 rfl rfl (pq_vp (by decide +kernel)) dX4_close_45 (fun H locs hP hD hS => ?_)
  have hP : va_P D vwCl (WM cy q th (upd r5 (11 : Int32).toNatClampNeg ((r5 (11 : Int32).toNatClampNeg) + 1)) sv sn sp bf ty gn hs) H := hP
  have hD : va_D A (WM cy q th (upd r5 (11 : Int32).toNatClampNeg ((r5 (11 : Int32).toNatClampNeg) + 1)) sv sn sp bf ty gn hs) := hD
  refine lv_iload_n hx hb dX4_close_46 rfl (lv_at hl 2 rfl) ?_
  refine lv_iconst (v := (-1)) hx hb dX4_close_47 (by decide) ?_
  refine lv_icmp_eq (tgt := 61) hx hb dX4_close_48 (by decide) (fun c1_ => ?_) (fun c1_ => ?_)
  · have h := pq_t c1_ h
    obtain rfl := Option.some.inj h
    subst hQ
    exact pw_rv hx hb hr hlk hAe hP hS dX4_close_61
  · have h := pq_e c1_ h
    refine lv_aload_n hx hb dX4_close_51 rfl (lv_at hl 0 rfl) ?_
    refine va_get (D := D) (ci := 4) (v := .ref (q 1)) (C := RX4) (T := TX4) (N := 9) hx hb hts hin hown hK hP 0 rfl rfl 1 (by decide) (hta _ aw_687) (fun _ h9 => h9) rfl dX4_close_52 ?_
    refine lv_iload_n hx hb dX4_close_55 rfl (lv_at hl 2 rfl) ?_
    refine lv_dup2_11 hx hb dX4_close_56 rfl rfl ?_
    obtain ⟨hg, h⟩ := pq_g h
    refine va_iald hx hb hK hP 1 0 rfl rfl (pq_vp hg) dX4_close_57 ?_
    refine lv_iconst (v := 1) hx hb dX4_close_58 (by decide) ?_
    refine lv_iadd hx hb dX4_close_59 ?_
    obtain ⟨hg, h⟩ := pq_g h
    refine va_iast hx hb hK hP hD hS 1 0 rfl rfl (pq_vp hg) dX4_close_60 (fun H locs hP hD hS => ?_)
    have hP : va_P D vwCl (WM cy q th (upd (upd r5 (11 : Int32).toNatClampNeg ((r5 (11 : Int32).toNatClampNeg) + 1)) x2.toNatClampNeg (((upd r5 (11 : Int32).toNatClampNeg ((r5 (11 : Int32).toNatClampNeg) + 1)) x2.toNatClampNeg) + 1)) sv sn sp bf ty gn hs) H := hP
    have hD : va_D A (WM cy q th (upd (upd r5 (11 : Int32).toNatClampNeg ((r5 (11 : Int32).toNatClampNeg) + 1)) x2.toNatClampNeg (((upd r5 (11 : Int32).toNatClampNeg ((r5 (11 : Int32).toNatClampNeg) + 1)) x2.toNatClampNeg) + 1)) sv sn sp bf ty gn hs) := hD
    obtain rfl := Option.some.inj h
    subst hQ
    exact pw_rv hx hb hr hlk hAe hP hS dX4_close_61

def aX4_nextIdle : List Cond := Cond.code yX4_nextIdle cX4_nextIdle 4 (some .int) :: pw_all
theorem pX4_nextIdle : yX4_nextIdle.cls = RX4 ∧ yX4_nextIdle.cls ≠ "java/lang/invoke/MethodHandle" ∧ yX4_nextIdle.cls ≠ "java/lang/invoke/VarHandle" ∧ (parseMethodDescriptor yX4_nextIdle.desc).map (fun d => d.parameters.length) = some 0 := by decide +kernel
set_option maxHeartbeats 8000000 in
set_option maxRecDepth 100000 in
theorem kX4_nextIdle (l : Launch) (D : va_G) (cy : Nat → ClassId) (q : Nat → Nat) (sz : Nat) (th : Int32) (z : Nat → Int32) (sv : Nat → Int32) (sn : Int32) (sp : Nat → Int32) (bf : Nat → Int32) (ty : Int32) (gn : Nat → Int32) (hs : Int64)  (o : Int32) (h : fX4_nextIdle z = some o) : Met l yX4_nextIdle aX4_nextIdle ({ frames := 2, cells := 0, slots := 0, locals := 44 }) (pw_Pre D cy [.ref (q 0)] (WM cy q th z sv sn sp bf ty gn hs) sz) (pw_I D o (WM cy q th z sv sn sp bf ty gn hs) (WM cy q th z sv sn sp bf ty gn hs) sz) 0 0 (va_A (WM cy q th z sv sn sp bf ty gn hs) sz) := by
  refine pw_met (cc := cX4_nextIdle) (maxL := 4) (ret := (some .int)) (by decide) rfl (Nat.le_of_ble_eq_true rfl) ?_
  intro p e s m args below meth c ls A hx hb hr hml hlk hts hown hAe hA hK hP hD hS hl
  have hl : lv_has ls 4 [(0, .ref (q 0))] := hl
  generalize hQ : MQ below (pw_I D o (WM cy q th z sv sn sp bf ty gn hs) (WM cy q th z sv sn sp bf ty gn hs) sz) args s 0 0 (va_A (WM cy q th z sv sn sp bf ty gn hs) sz) = Q
  have hF : CallFix p m c cX4_nextIdle 4 s args aX4_nextIdle RX4 := ⟨hx, hb, hml, hown, hts⟩
  have hta : ∀ w ∈ pw_all, w.before args s = true := fun w h => hts w (List.mem_cons_of_mem _ h)
  have hin : ∀ w ∈ wsX40, w ∈ aX4_nextIdle := fun w h => List.mem_cons_of_mem _ (inA4 w h)
  unfold fX4_nextIdle at h
  refine lv_iconst (v := (-1)) hx hb dX4_nextIdle_0 (by decide) ?_
  refine lv_istore_n (lv' := [(1, .int (-1)), (0, .ref (q 0))]) hx hb dX4_nextIdle_1 rfl hl (by decide) rfl (fun ls hl => ?_)
  refine lv_iconst (v := 0) hx hb dX4_nextIdle_2 (by decide) ?_
  refine lv_istore_n (lv' := [(2, .int 0), (1, .int (-1)), (0, .ref (q 0))]) hx hb dX4_nextIdle_3 rfl hl (by decide) rfl (fun ls hl => ?_)
  have L4_n1 : ∀ (n : Nat) (x1_4 : Int32) (x2_4 : Int32) (H : Heap) (locs : List Loc) (ls : Array Slot), fX4_nextIdle_L4 z n x1_4 x2_4 = some o → va_P D vwCl (WM cy q th z sv sn sp bf ty gn hs) H → va_D A (WM cy q th z sv sn sp bf ty gn hs) → va_S A s.heap H locs → lv_has ls 4 [(0, .ref (q 0)), (1, .int x1_4), (2, .int x2_4)] → W p l e ({ frames := 2, cells := 0, slots := 0, locals := 44 } : Room) s m args below meth c H locs 0 0 Q (F0 m 4 ls []) := by
    intro n
    induction n with
    | zero =>
      intro x1_4 x2_4 H locs ls h hP hD hS hl
      exact pq_n h
    | succ n ih4 =>
      intro x1_4 x2_4 H locs ls h hP hD hS hl
      rw [fX4_nextIdle_L4] at h
      refine lv_iload_n hx hb dX4_nextIdle_4 rfl (lv_at hl 2 rfl) ?_
      refine lv_bipush (v := 8) hx hb dX4_nextIdle_5 (by decide) ?_
      refine lv_icmp_ge (tgt := 88) hx hb dX4_nextIdle_7 (by decide) (fun c1_ => ?_) (fun c1_ => ?_)
      · have h := pq_t c1_ h
        refine lv_iload_n hx hb dX4_nextIdle_88 rfl (lv_at hl 1 rfl) ?_
        obtain rfl := Option.some.inj h
        subst hQ
        exact pw_ri hx hb hr hlk hAe hP hS rfl dX4_nextIdle_89
      · have h := pq_e c1_ h
        refine lv_aload_n hx hb dX4_nextIdle_10 rfl (lv_at hl 0 rfl) ?_
        refine lv_iload_n hx hb dX4_nextIdle_11 rfl (lv_at hl 2 rfl) ?_
        refine lv_iconst (v := 1) hx hb dX4_nextIdle_12 (by decide) ?_
        obtain ⟨r2, hr2, h⟩ := pq_b h
        refine pw_ci (w1 := WM cy q th z sv sn sp bf ty gn hs) (rest := []) (As := [.int x2_4, .int 1]) hF (kX4_isIn l D cy q _ th z sv sn sp bf ty gn hs x2_4 1 r2 hr2) (cwV 2 hts (pw_gV (own := RX4) (idx := 50) (C := RX4) (y := yX4_isIn) aw_780 aw_782 aw_s31 aw_6 aw_783) rfl rfl rfl pX4_isIn ⟨Nat.le_of_ble_eq_true rfl, Nat.le_of_ble_eq_true rfl⟩) (va_recv hK hP (ci := 4) (q0 := 0) rfl rfl) hK hP hD hS hA rfl rfl hl.1 rfl (Nat.le_of_ble_eq_true rfl) dX4_nextIdle_13 ⟨Nat.zero_le _, Nat.zero_le _⟩ (fun H locs hP hD hS => ?_)
        refine lv_if_eq (tgt := 82) hx hb dX4_nextIdle_16 (by decide) (fun c2_ => ?_) (fun c2_ => ?_)
        · have h := pq_t c2_ h
          refine lv_iinc (v := x2_4 + 1) (lv' := [(2, .int (x2_4 + 1)), (0, .ref (q 0)), (1, .int x1_4)]) hx hb dX4_nextIdle_82 hl (k := 2) rfl (by first | rfl | decide) (by decide) rfl (fun ls hl => ?_)
          refine lv_goto (tgt := 4) hx hb dX4_nextIdle_85 (by decide) ?_
          exact ih4 x1_4 (x2_4 + 1) _ _ _ h hP hD hS (lv_sub hl [1, 2, 0] rfl)
        · have h := pq_e c2_ h
          refine lv_iload_n hx hb dX4_nextIdle_19 rfl (lv_at hl 1 rfl) ?_
          refine lv_iconst (v := (-1)) hx hb dX4_nextIdle_20 (by decide) ?_
          obtain ⟨v3, hv3, h⟩ := pq_b h
          have J71_v3 : ∀ (H : Heap) (locs : List Loc) (ls : Array Slot), va_P D vwCl (WM cy q th z sv sn sp bf ty gn hs) H → va_D A (WM cy q th z sv sn sp bf ty gn hs) → va_S A s.heap H locs → lv_has ls 4 [(0, .ref (q 0)), (1, .int x1_4), (2, .int x2_4)] → W p l e ({ frames := 2, cells := 0, slots := 0, locals := 44 } : Room) s m args below meth c H locs 0 0 Q (F0 m 71 ls [.int v3]) := by
            intro H locs ls hP hD hS hl
            refine lv_istore_n (lv' := [(3, .int v3), (0, .ref (q 0)), (1, .int x1_4), (2, .int x2_4)]) hx hb dX4_nextIdle_71 rfl hl (by decide) rfl (fun ls hl => ?_)
            refine lv_iload_n hx hb dX4_nextIdle_72 rfl (lv_at hl 0 rfl) ?_
            refine lv_if_eq (tgt := 80) hx hb dX4_nextIdle_73 (by decide) (fun c7_ => ?_) (fun c7_ => ?_)
            · have h := pq_t c7_ h
              refine lv_iload_n hx hb dX4_nextIdle_80 rfl (lv_at hl 2 rfl) ?_
              refine lv_istore_n (lv' := [(1, .int x1_4), (3, .int v3), (0, .ref (q 0)), (2, .int x2_4)]) hx hb dX4_nextIdle_81 rfl hl (by decide) rfl (fun ls hl => ?_)
              refine lv_iinc (v := x2_4 + 1) (lv' := [(2, .int (x2_4 + 1)), (1, .int x1_4), (3, .int v3), (0, .ref (q 0))]) hx hb dX4_nextIdle_82 hl (k := 3) rfl (by first | rfl | decide) (by decide) rfl (fun ls hl => ?_)
              refine lv_goto (tgt := 4) hx hb dX4_nextIdle_85 (by decide) ?_
              exact ih4 x1_4 (x2_4 + 1) _ _ _ h hP hD hS (lv_sub hl [3, 1, 0] rfl)
            · have h := pq_e c7_ h
              refine lv_iload_n hx hb dX4_nextIdle_76 rfl (lv_at hl 3 rfl) ?_
              refine lv_goto (tgt := 81) hx hb dX4_nextIdle_77 (by decide) ?_
              refine lv_istore_n (lv' := [(1, .int x2_4), (3, .int v3), (0, .ref (q 0)), (2, .int x2_4)]) hx hb dX4_nextIdle_81 rfl hl (by decide) rfl (fun ls hl => ?_)
              refine lv_iinc (v := x2_4 + 1) (lv' := [(2, .int (x2_4 + 1)), (1, .int x2_4), (3, .int v3), (0, .ref (q 0))]) hx hb dX4_nextIdle_82 hl (k := 3) rfl (by first | rfl | decide) (by decide) rfl (fun ls hl => ?_)
              refine lv_goto (tgt := 4) hx hb dX4_nextIdle_85 (by decide) ?_
              exact ih4 x2_4 (x2_4 + 1) _ _ _ h hP hD hS (lv_sub hl [3, 1, 0] rfl)
          clear h
          have h := hv3
          clear hv3
          refine lv_icmp_eq (tgt := 66) hx hb dX4_nextIdle_21 (by decide) (fun c3_ => ?_) (fun c3_ => ?_)
          · have h := pq_t c3_ h
            refine lv_iconst (v := 1) hx hb dX4_nextIdle_66 (by decide) ?_
            refine lv_goto (tgt := 71) hx hb dX4_nextIdle_67 (by decide) ?_
            obtain rfl := Option.some.inj h
            exact J71_v3 _ _ _ hP hD hS (lv_sub hl [0, 1, 2] rfl)
          · have h := pq_e c3_ h
            refine lv_aload_n hx hb dX4_nextIdle_24 rfl (lv_at hl 0 rfl) ?_
            refine va_get (D := D) (ci := 4) (v := .ref (q 1)) (C := RX4) (T := TX4) (N := 9) hx hb hts hin hown hK hP 0 rfl rfl 1 (by decide) (hta _ aw_687) (fun _ h9 => h9) rfl dX4_nextIdle_25 ?_
            refine lv_iconst (v := 3) hx hb dX4_nextIdle_28 (by decide) ?_
            refine va_iald hx hb hK hP 1 0 rfl rfl (pq_vp (by decide +kernel)) dX4_nextIdle_29 ?_
            refine lv_if_ne (tgt := 51) hx hb dX4_nextIdle_30 (by decide) (fun c4_ => ?_) (fun c4_ => ?_)
            · have h := pq_e c4_ h
              refine lv_aload_n hx hb dX4_nextIdle_51 rfl (lv_at hl 0 rfl) ?_
              refine lv_iload_n hx hb dX4_nextIdle_52 rfl (lv_at hl 2 rfl) ?_
              refine lv_iconst (v := 4) hx hb dX4_nextIdle_53 (by decide) ?_
              obtain ⟨r4, hr4, h⟩ := pq_b h
              refine pw_ci (w1 := WM cy q th z sv sn sp bf ty gn hs) (rest := []) (As := [.int x2_4, .int 4]) hF (kX4_of l D cy q _ th z sv sn sp bf ty gn hs x2_4 4 r4 hr4) (cwV 2 hts (pw_gV (own := RX4) (idx := 40) (C := RX4) (y := yX4_of) aw_768 aw_770 aw_s28 aw_6 aw_771) rfl rfl rfl pX4_of ⟨Nat.le_of_ble_eq_true rfl, Nat.le_of_ble_eq_true rfl⟩) (va_recv hK hP (ci := 4) (q0 := 0) rfl rfl) hK hP hD hS hA rfl rfl hl.1 rfl (Nat.le_of_ble_eq_true rfl) dX4_nextIdle_54 ⟨Nat.zero_le _, Nat.zero_le _⟩ (fun H locs hP hD hS => ?_)
              refine lv_aload_n hx hb dX4_nextIdle_57 rfl (lv_at hl 0 rfl) ?_
              refine lv_iload_n hx hb dX4_nextIdle_58 rfl (lv_at hl 1 rfl) ?_
              refine lv_iconst (v := 4) hx hb dX4_nextIdle_59 (by decide) ?_
              obtain ⟨r5, hr5, h⟩ := pq_b h
              refine pw_ci (w1 := WM cy q th z sv sn sp bf ty gn hs) (rest := [.int r4]) (As := [.int x1_4, .int 4]) hF (kX4_of l D cy q _ th z sv sn sp bf ty gn hs x1_4 4 r5 hr5) (cwV 2 hts (pw_gV (own := RX4) (idx := 40) (C := RX4) (y := yX4_of) aw_768 aw_770 aw_s28 aw_6 aw_771) rfl rfl rfl pX4_of ⟨Nat.le_of_ble_eq_true rfl, Nat.le_of_ble_eq_true rfl⟩) (va_recv hK hP (ci := 4) (q0 := 0) rfl rfl) hK hP hD hS hA rfl rfl hl.1 rfl (Nat.le_of_ble_eq_true rfl) dX4_nextIdle_60 ⟨Nat.zero_le _, Nat.zero_le _⟩ (fun H locs hP hD hS => ?_)
              refine lv_icmp_ge (tgt := 70) hx hb dX4_nextIdle_63 (by decide) (fun c5_ => ?_) (fun c5_ => ?_)
              · have h := pq_t c5_ h
                refine lv_iconst (v := 0) hx hb dX4_nextIdle_70 (by decide) ?_
                obtain rfl := Option.some.inj h
                exact J71_v3 _ _ _ hP hD hS (lv_sub hl [0, 1, 2] rfl)
              · have h := pq_e c5_ h
                refine lv_iconst (v := 1) hx hb dX4_nextIdle_66 (by decide) ?_
                refine lv_goto (tgt := 71) hx hb dX4_nextIdle_67 (by decide) ?_
                obtain rfl := Option.some.inj h
                exact J71_v3 _ _ _ hP hD hS (lv_sub hl [0, 1, 2] rfl)
            · have h := pq_t c4_ h
              refine lv_aload_n hx hb dX4_nextIdle_33 rfl (lv_at hl 0 rfl) ?_
              refine lv_iload_n hx hb dX4_nextIdle_34 rfl (lv_at hl 2 rfl) ?_
              refine lv_iconst (v := 4) hx hb dX4_nextIdle_35 (by decide) ?_
              obtain ⟨r6, hr6, h⟩ := pq_b h
              refine pw_ci (w1 := WM cy q th z sv sn sp bf ty gn hs) (rest := []) (As := [.int x2_4, .int 4]) hF (kX4_of l D cy q _ th z sv sn sp bf ty gn hs x2_4 4 r6 hr6) (cwV 2 hts (pw_gV (own := RX4) (idx := 40) (C := RX4) (y := yX4_of) aw_768 aw_770 aw_s28 aw_6 aw_771) rfl rfl rfl pX4_of ⟨Nat.le_of_ble_eq_true rfl, Nat.le_of_ble_eq_true rfl⟩) (va_recv hK hP (ci := 4) (q0 := 0) rfl rfl) hK hP hD hS hA rfl rfl hl.1 rfl (Nat.le_of_ble_eq_true rfl) dX4_nextIdle_36 ⟨Nat.zero_le _, Nat.zero_le _⟩ (fun H locs hP hD hS => ?_)
              refine lv_aload_n hx hb dX4_nextIdle_39 rfl (lv_at hl 0 rfl) ?_
              refine lv_iload_n hx hb dX4_nextIdle_40 rfl (lv_at hl 1 rfl) ?_
              refine lv_iconst (v := 4) hx hb dX4_nextIdle_41 (by decide) ?_
              obtain ⟨r7, hr7, h⟩ := pq_b h
              refine pw_ci (w1 := WM cy q th z sv sn sp bf ty gn hs) (rest := [.int r6]) (As := [.int x1_4, .int 4]) hF (kX4_of l D cy q _ th z sv sn sp bf ty gn hs x1_4 4 r7 hr7) (cwV 2 hts (pw_gV (own := RX4) (idx := 40) (C := RX4) (y := yX4_of) aw_768 aw_770 aw_s28 aw_6 aw_771) rfl rfl rfl pX4_of ⟨Nat.le_of_ble_eq_true rfl, Nat.le_of_ble_eq_true rfl⟩) (va_recv hK hP (ci := 4) (q0 := 0) rfl rfl) hK hP hD hS hA rfl rfl hl.1 rfl (Nat.le_of_ble_eq_true rfl) dX4_nextIdle_42 ⟨Nat.zero_le _, Nat.zero_le _⟩ (fun H locs hP hD hS => ?_)
              refine lv_icmp_le (tgt := 70) hx hb dX4_nextIdle_45 (by decide) (fun c6_ => ?_) (fun c6_ => ?_)
              · have h := pq_t c6_ h
                refine lv_iconst (v := 0) hx hb dX4_nextIdle_70 (by decide) ?_
                obtain rfl := Option.some.inj h
                exact J71_v3 _ _ _ hP hD hS (lv_sub hl [0, 1, 2] rfl)
              · have h := pq_e c6_ h
                refine lv_goto (tgt := 66) hx hb dX4_nextIdle_48 (by decide) ?_
                refine lv_iconst (v := 1) hx hb dX4_nextIdle_66 (by decide) ?_
                refine lv_goto (tgt := 71) hx hb dX4_nextIdle_67 (by decide) ?_
                obtain rfl := Option.some.inj h
                exact J71_v3 _ _ _ hP hD hS (lv_sub hl [0, 1, 2] rfl)
  exact L4_n1 1000 (-1) 0 _ _ _ h hP hD hS (lv_sub hl [2, 1, 0] rfl)

def aX4_openOne : List Cond := Cond.code yX4_openOne cX4_openOne 2 (some .int) :: pw_all
theorem pX4_openOne : yX4_openOne.cls = RX4 ∧ yX4_openOne.cls ≠ "java/lang/invoke/MethodHandle" ∧ yX4_openOne.cls ≠ "java/lang/invoke/VarHandle" ∧ (parseMethodDescriptor yX4_openOne.desc).map (fun d => d.parameters.length) = some 0 := by decide +kernel
set_option maxHeartbeats 8000000 in
set_option maxRecDepth 100000 in
theorem kX4_openOne (l : Launch) (D : va_G) (cy : Nat → ClassId) (q : Nat → Nat) (sz : Nat) (th : Int32) (z : Nat → Int32) (sv : Nat → Int32) (sn : Int32) (sp : Nat → Int32) (bf : Nat → Int32) (ty : Int32) (gn : Nat → Int32) (hs : Int64)  (o : Int32 × (Nat → Int32)) (h : fX4_openOne z = some o) : Met l yX4_openOne aX4_openOne ({ frames := 2, cells := 0, slots := 0, locals := 44 }) (pw_Pre D cy [.ref (q 0)] (WM cy q th z sv sn sp bf ty gn hs) sz) (pw_I D o.1 (WM cy q th z sv sn sp bf ty gn hs) (WM cy q th o.2 sv sn sp bf ty gn hs) sz) 0 0 (va_A (WM cy q th z sv sn sp bf ty gn hs) sz) := by
  refine pw_met (cc := cX4_openOne) (maxL := 2) (ret := (some .int)) (by decide) rfl (Nat.le_of_ble_eq_true rfl) ?_
  intro p e s m args below meth c ls A hx hb hr hml hlk hts hown hAe hA hK hP hD hS hl
  have hl : lv_has ls 2 [(0, .ref (q 0))] := hl
  generalize hQ : MQ below (pw_I D o.1 (WM cy q th z sv sn sp bf ty gn hs) (WM cy q th o.2 sv sn sp bf ty gn hs) sz) args s 0 0 (va_A (WM cy q th z sv sn sp bf ty gn hs) sz) = Q
  have hF : CallFix p m c cX4_openOne 2 s args aX4_openOne RX4 := ⟨hx, hb, hml, hown, hts⟩
  have hta : ∀ w ∈ pw_all, w.before args s = true := fun w h => hts w (List.mem_cons_of_mem _ h)
  have hin : ∀ w ∈ wsX40, w ∈ aX4_openOne := fun w h => List.mem_cons_of_mem _ (inA4 w h)
  unfold fX4_openOne at h
  refine lv_iconst (v := 0) hx hb dX4_openOne_0 (by decide) ?_
  refine lv_istore_n (lv' := [(1, .int 0), (0, .ref (q 0))]) hx hb dX4_openOne_1 rfl hl (by decide) rfl (fun ls hl => ?_)
  obtain ⟨v2, hv2, h⟩ := pq_b h
  have X17_v2 : ∀ (H : Heap) (locs : List Loc) (ls : Array Slot), va_P D vwCl (WM cy q th z sv sn sp bf ty gn hs) H → va_D A (WM cy q th z sv sn sp bf ty gn hs) → va_S A s.heap H locs → lv_has ls 2 [(0, .ref (q 0)), (1, .int v2)] → W p l e ({ frames := 2, cells := 0, slots := 0, locals := 44 } : Room) s m args below meth c H locs 0 0 Q (F0 m 17 ls []) := by
    intro H locs ls hP hD hS hl
    refine lv_aload_n hx hb dX4_openOne_17 rfl (lv_at hl 0 rfl) ?_
    refine lv_iload_n hx hb dX4_openOne_18 rfl (lv_at hl 1 rfl) ?_
    refine lv_iconst (v := 0) hx hb dX4_openOne_19 (by decide) ?_
    refine lv_iconst (v := 1) hx hb dX4_openOne_20 (by decide) ?_
    obtain ⟨r4, hr4, h⟩ := pq_b h
    refine pw_cv (w1 := WM cy q th r4 sv sn sp bf ty gn hs) (rest := []) (As := [.int v2, .int 0, .int 1]) hF (kX4_put l D cy q _ th z sv sn sp bf ty gn hs v2 0 1 r4 hr4) (cwV 3 hts (pw_gV (own := RX4) (idx := 25) (C := RX4) (y := yX4_put) aw_678 aw_680 aw_s17 aw_6 aw_681) rfl rfl rfl pX4_put ⟨Nat.le_of_ble_eq_true rfl, Nat.le_of_ble_eq_true rfl⟩) (va_recv hK hP (ci := 4) (q0 := 0) rfl rfl) hK hP hD hS hA rfl rfl hl.1 rfl (Nat.le_of_ble_eq_true rfl) dX4_openOne_21 ⟨Nat.zero_le _, Nat.zero_le _⟩ (fun H locs hP hD hS => ?_)
    refine lv_aload_n hx hb dX4_openOne_24 rfl (lv_at hl 0 rfl) ?_
    refine lv_iload_n hx hb dX4_openOne_25 rfl (lv_at hl 1 rfl) ?_
    refine lv_iconst (v := 4) hx hb dX4_openOne_26 (by decide) ?_
    refine lv_aload_n hx hb dX4_openOne_27 rfl (lv_at hl 0 rfl) ?_
    refine va_get (D := D) (ci := 4) (v := .ref (q 1)) (C := RX4) (T := TX4) (N := 9) hx hb hts hin hown hK hP 0 rfl rfl 1 (by decide) (hta _ aw_687) (fun _ h9 => h9) rfl dX4_openOne_28 ?_
    refine lv_bipush (v := 9) hx hb dX4_openOne_31 (by decide) ?_
    refine va_iald hx hb hK hP 1 0 rfl rfl (pq_vp (by decide +kernel)) dX4_openOne_33 ?_
    obtain ⟨r5, hr5, h⟩ := pq_b h
    refine pw_cv (w1 := WM cy q th r5 sv sn sp bf ty gn hs) (rest := []) (As := [.int v2, .int 4, .int (r4 (9 : Int32).toNatClampNeg)]) hF (kX4_put l D cy q _ th r4 sv sn sp bf ty gn hs v2 4 (r4 (9 : Int32).toNatClampNeg) r5 hr5) (cwV 3 hts (pw_gV (own := RX4) (idx := 25) (C := RX4) (y := yX4_put) aw_678 aw_680 aw_s17 aw_6 aw_681) rfl rfl rfl pX4_put ⟨Nat.le_of_ble_eq_true rfl, Nat.le_of_ble_eq_true rfl⟩) (va_recv hK hP (ci := 4) (q0 := 0) rfl rfl) hK hP hD hS hA rfl rfl hl.1 rfl (Nat.le_of_ble_eq_true rfl) dX4_openOne_34 ⟨Nat.zero_le _, Nat.zero_le _⟩ (fun H locs hP hD hS => ?_)
    refine lv_aload_n hx hb dX4_openOne_37 rfl (lv_at hl 0 rfl) ?_
    refine lv_iload_n hx hb dX4_openOne_38 rfl (lv_at hl 1 rfl) ?_
    refine lv_iconst (v := 5) hx hb dX4_openOne_39 (by decide) ?_
    refine lv_aload_n hx hb dX4_openOne_40 rfl (lv_at hl 0 rfl) ?_
    refine lv_iload_n hx hb dX4_openOne_41 rfl (lv_at hl 1 rfl) ?_
    refine lv_iconst (v := 5) hx hb dX4_openOne_42 (by decide) ?_
    obtain ⟨r6, hr6, h⟩ := pq_b h
    refine pw_ci (w1 := WM cy q th r5 sv sn sp bf ty gn hs) (rest := [.int 5, .int v2, .ref (q 0)]) (As := [.int v2, .int 5]) hF (kX4_of l D cy q _ th r5 sv sn sp bf ty gn hs v2 5 r6 hr6) (cwV 2 hts (pw_gV (own := RX4) (idx := 40) (C := RX4) (y := yX4_of) aw_768 aw_770 aw_s28 aw_6 aw_771) rfl rfl rfl pX4_of ⟨Nat.le_of_ble_eq_true rfl, Nat.le_of_ble_eq_true rfl⟩) (va_recv hK hP (ci := 4) (q0 := 0) rfl rfl) hK hP hD hS hA rfl rfl hl.1 rfl (Nat.le_of_ble_eq_true rfl) dX4_openOne_43 ⟨Nat.zero_le _, Nat.zero_le _⟩ (fun H locs hP hD hS => ?_)
    refine lv_iconst (v := 1) hx hb dX4_openOne_46 (by decide) ?_
    refine lv_iadd hx hb dX4_openOne_47 ?_
    obtain ⟨r7, hr7, h⟩ := pq_b h
    refine pw_cv (w1 := WM cy q th r7 sv sn sp bf ty gn hs) (rest := []) (As := [.int v2, .int 5, .int (r6 + 1)]) hF (kX4_put l D cy q _ th r5 sv sn sp bf ty gn hs v2 5 (r6 + 1) r7 hr7) (cwV 3 hts (pw_gV (own := RX4) (idx := 25) (C := RX4) (y := yX4_put) aw_678 aw_680 aw_s17 aw_6 aw_681) rfl rfl rfl pX4_put ⟨Nat.le_of_ble_eq_true rfl, Nat.le_of_ble_eq_true rfl⟩) (va_recv hK hP (ci := 4) (q0 := 0) rfl rfl) hK hP hD hS hA rfl rfl hl.1 rfl (Nat.le_of_ble_eq_true rfl) dX4_openOne_48 ⟨Nat.zero_le _, Nat.zero_le _⟩ (fun H locs hP hD hS => ?_)
    refine lv_aload_n hx hb dX4_openOne_51 rfl (lv_at hl 0 rfl) ?_
    refine va_get (D := D) (ci := 4) (v := .ref (q 1)) (C := RX4) (T := TX4) (N := 9) hx hb hts hin hown hK hP 0 rfl rfl 1 (by decide) (hta _ aw_687) (fun _ h9 => h9) rfl dX4_openOne_52 ?_
    refine lv_bipush (v := 10) hx hb dX4_openOne_55 (by decide) ?_
    refine lv_dup2_11 hx hb dX4_openOne_57 rfl rfl ?_
    refine va_iald hx hb hK hP 1 0 rfl rfl (pq_vp (by decide +kernel)) dX4_openOne_58 ?_
    refine lv_iconst (v := 1) hx hb dX4_openOne_59 (by decide) ?_
    refine lv_iadd hx hb dX4_openOne_60 ?_
    refine va_iast hx hb hK hP hD hS 1 0 rfl rfl (pq_vp (by decide +kernel)) dX4_openOne_61 (fun H locs hP hD hS => ?_)
    have hP : va_P D vwCl (WM cy q th (upd r7 (10 : Int32).toNatClampNeg ((r7 (10 : Int32).toNatClampNeg) + 1)) sv sn sp bf ty gn hs) H := hP
    have hD : va_D A (WM cy q th (upd r7 (10 : Int32).toNatClampNeg ((r7 (10 : Int32).toNatClampNeg) + 1)) sv sn sp bf ty gn hs) := hD
    refine lv_iload_n hx hb dX4_openOne_62 rfl (lv_at hl 1 rfl) ?_
    obtain rfl := Option.some.inj h
    subst hQ
    exact pw_ri hx hb hr hlk hAe hP hS rfl dX4_openOne_63
  clear h
  have L2_n1 : ∀ (n : Nat) (x1_2 : Int32) (H : Heap) (locs : List Loc) (ls : Array Slot), fX4_openOne_L2 z n x1_2 = some v2 → va_P D vwCl (WM cy q th z sv sn sp bf ty gn hs) H → va_D A (WM cy q th z sv sn sp bf ty gn hs) → va_S A s.heap H locs → lv_has ls 2 [(0, .ref (q 0)), (1, .int x1_2)] → W p l e ({ frames := 2, cells := 0, slots := 0, locals := 44 } : Room) s m args below meth c H locs 0 0 Q (F0 m 2 ls []) := by
    intro n
    induction n with
    | zero =>
      intro x1_2 H locs ls h hP hD hS hl
      exact pq_n h
    | succ n ih2 =>
      intro x1_2 H locs ls h hP hD hS hl
      rw [fX4_openOne_L2] at h
      refine lv_aload_n hx hb dX4_openOne_2 rfl (lv_at hl 0 rfl) ?_
      refine lv_iload_n hx hb dX4_openOne_3 rfl (lv_at hl 1 rfl) ?_
      refine lv_iconst (v := 0) hx hb dX4_openOne_4 (by decide) ?_
      obtain ⟨r3, hr3, h⟩ := pq_b h
      refine pw_ci (w1 := WM cy q th z sv sn sp bf ty gn hs) (rest := []) (As := [.int x1_2, .int 0]) hF (kX4_isIn l D cy q _ th z sv sn sp bf ty gn hs x1_2 0 r3 hr3) (cwV 2 hts (pw_gV (own := RX4) (idx := 50) (C := RX4) (y := yX4_isIn) aw_780 aw_782 aw_s31 aw_6 aw_783) rfl rfl rfl pX4_isIn ⟨Nat.le_of_ble_eq_true rfl, Nat.le_of_ble_eq_true rfl⟩) (va_recv hK hP (ci := 4) (q0 := 0) rfl rfl) hK hP hD hS hA rfl rfl hl.1 rfl (Nat.le_of_ble_eq_true rfl) dX4_openOne_5 ⟨Nat.zero_le _, Nat.zero_le _⟩ (fun H locs hP hD hS => ?_)
      refine lv_if_ne (tgt := 17) hx hb dX4_openOne_8 (by decide) (fun c1_ => ?_) (fun c1_ => ?_)
      · have h := pq_e c1_ h
        obtain rfl := Option.some.inj h
        exact X17_v2 _ _ _ hP hD hS (lv_sub hl [0, 1] rfl)
      · have h := pq_t c1_ h
        refine lv_iinc (v := x1_2 + 1) (lv' := [(1, .int (x1_2 + 1)), (0, .ref (q 0))]) hx hb dX4_openOne_11 hl (k := 1) rfl (by first | rfl | decide) (by decide) rfl (fun ls hl => ?_)
        refine lv_goto (tgt := 2) hx hb dX4_openOne_14 (by decide) ?_
        exact ih2 (x1_2 + 1) _ _ _ h hP hD hS (lv_sub hl [1, 0] rfl)
  have h := hv2
  exact L2_n1 1000 0 _ _ _ h hP hD hS (lv_sub hl [1, 0] rfl)

def aX4_look : List Cond := Cond.code yX4_look cX4_look 3 (some .int) :: pw_all
theorem pX4_look : yX4_look.cls = RX4 ∧ yX4_look.cls ≠ "java/lang/invoke/MethodHandle" ∧ yX4_look.cls ≠ "java/lang/invoke/VarHandle" ∧ (parseMethodDescriptor yX4_look.desc).map (fun d => d.parameters.length) = some 0 := by decide +kernel
set_option maxHeartbeats 8000000 in
set_option maxRecDepth 100000 in
theorem kX4_look (l : Launch) (D : va_G) (cy : Nat → ClassId) (q : Nat → Nat) (sz : Nat) (th : Int32) (z : Nat → Int32) (sv : Nat → Int32) (sn : Int32) (sp : Nat → Int32) (bf : Nat → Int32) (ty : Int32) (gn : Nat → Int32) (hs : Int64)  (o : Int32 × (Nat → Int32)) (h : fX4_look z = some o) : Met l yX4_look aX4_look ({ frames := 4, cells := 0, slots := 0, locals := 87 }) (pw_Pre D cy [.ref (q 0)] (WM cy q th z sv sn sp bf ty gn hs) sz) (pw_I D o.1 (WM cy q th z sv sn sp bf ty gn hs) (WM cy q th o.2 sv sn sp bf ty gn hs) sz) 0 0 (va_A (WM cy q th z sv sn sp bf ty gn hs) sz) := by
  refine pw_met (cc := cX4_look) (maxL := 3) (ret := (some .int)) (by decide) rfl (Nat.le_of_ble_eq_true rfl) ?_
  intro p e s m args below meth c ls A hx hb hr hml hlk hts hown hAe hA hK hP hD hS hl
  have hl : lv_has ls 3 [(0, .ref (q 0))] := hl
  generalize hQ : MQ below (pw_I D o.1 (WM cy q th z sv sn sp bf ty gn hs) (WM cy q th o.2 sv sn sp bf ty gn hs) sz) args s 0 0 (va_A (WM cy q th z sv sn sp bf ty gn hs) sz) = Q
  have hF : CallFix p m c cX4_look 3 s args aX4_look RX4 := ⟨hx, hb, hml, hown, hts⟩
  have hta : ∀ w ∈ pw_all, w.before args s = true := fun w h => hts w (List.mem_cons_of_mem _ h)
  have hin : ∀ w ∈ wsX40, w ∈ aX4_look := fun w h => List.mem_cons_of_mem _ (inA4 w h)
  unfold fX4_look at h
  refine lv_aload_n hx hb dX4_look_0 rfl (lv_at hl 0 rfl) ?_
  obtain ⟨r1, hr1, h⟩ := pq_b h
  refine pw_ci (w1 := WM cy q th z sv sn sp bf ty gn hs) (rest := []) (As := []) hF (kX4_nextIdle l D cy q _ th z sv sn sp bf ty gn hs  r1 hr1) (cwV 0 hts (pw_gV (own := RX4) (idx := 61) (C := RX4) (y := yX4_nextIdle) aw_776 aw_778 aw_s30 aw_6 aw_779) rfl rfl rfl pX4_nextIdle ⟨Nat.le_of_ble_eq_true rfl, Nat.le_of_ble_eq_true rfl⟩) (va_recv hK hP (ci := 4) (q0 := 0) rfl rfl) hK hP hD hS hA rfl rfl hl.1 rfl (Nat.le_of_ble_eq_true rfl) dX4_look_1 ⟨Nat.zero_le _, Nat.zero_le _⟩ (fun H locs hP hD hS => ?_)
  refine lv_istore_n (lv' := [(1, .int r1), (0, .ref (q 0))]) hx hb dX4_look_4 rfl hl (by decide) rfl (fun ls hl => ?_)
  refine lv_aload_n hx hb dX4_look_5 rfl (lv_at hl 1 rfl) ?_
  refine va_get (D := D) (ci := 4) (v := .ref (q 1)) (C := RX4) (T := TX4) (N := 9) hx hb hts hin hown hK hP 0 rfl rfl 1 (by decide) (hta _ aw_687) (fun _ h9 => h9) rfl dX4_look_6 ?_
  refine lv_iconst (v := 4) hx hb dX4_look_9 (by decide) ?_
  refine va_iald hx hb hK hP 1 0 rfl rfl (pq_vp (by decide +kernel)) dX4_look_10 ?_
  refine lv_iconst (v := 1) hx hb dX4_look_11 (by decide) ?_
  obtain ⟨v2, hv2, h⟩ := pq_b h
  have J20_v2 : ∀ (H : Heap) (locs : List Loc) (ls : Array Slot), va_P D vwCl (WM cy q th z sv sn sp bf ty gn hs) H → va_D A (WM cy q th z sv sn sp bf ty gn hs) → va_S A s.heap H locs → lv_has ls 3 [(0, .ref (q 0)), (1, .int r1)] → W p l e ({ frames := 4, cells := 0, slots := 0, locals := 87 } : Room) s m args below meth c H locs 0 0 Q (F0 m 20 ls [.int v2]) := by
    intro H locs ls hP hD hS hl
    refine lv_istore_n (lv' := [(2, .int v2), (0, .ref (q 0)), (1, .int r1)]) hx hb dX4_look_20 rfl hl (by decide) rfl (fun ls hl => ?_)
    have L21_n3 : ∀ (n : Nat) (x1_21 : Int32) (z_21 : Nat → Int32) (H : Heap) (locs : List Loc) (ls : Array Slot), fX4_look_L21 v2 n x1_21 z_21 = some o → va_P D vwCl (WM cy q th z_21 sv sn sp bf ty gn hs) H → va_D A (WM cy q th z_21 sv sn sp bf ty gn hs) → va_S A s.heap H locs → lv_has ls 3 [(0, .ref (q 0)), (1, .int x1_21), (2, .int v2)] → W p l e ({ frames := 4, cells := 0, slots := 0, locals := 87 } : Room) s m args below meth c H locs 0 0 Q (F0 m 21 ls []) := by
      intro n
      induction n with
      | zero =>
        intro x1_21 z_21 H locs ls h hP hD hS hl
        exact pq_n h
      | succ n ih21 =>
        intro x1_21 z_21 H locs ls h hP hD hS hl
        rw [fX4_look_L21] at h
        refine lv_iload_n hx hb dX4_look_21 rfl (lv_at hl 1 rfl) ?_
        refine lv_iconst (v := (-1)) hx hb dX4_look_22 (by decide) ?_
        refine lv_icmp_eq (tgt := 67) hx hb dX4_look_23 (by decide) (fun c2_ => ?_) (fun c2_ => ?_)
        · have h := pq_t c2_ h
          refine lv_iload_n hx hb dX4_look_67 rfl (lv_at hl 1 rfl) ?_
          refine lv_iconst (v := (-1)) hx hb dX4_look_68 (by decide) ?_
          refine lv_icmp_eq (tgt := 74) hx hb dX4_look_69 (by decide) (fun c3_ => ?_) (fun c3_ => ?_)
          · have h := pq_t c3_ h
            refine lv_aload_n hx hb dX4_look_74 rfl (lv_at hl 0 rfl) ?_
            obtain ⟨r4, hr4, h⟩ := pq_b h
            refine pw_ci (w1 := WM cy q th z_21 sv sn sp bf ty gn hs) (rest := []) (As := []) hF (kX4_connections l D cy q _ th z_21 sv sn sp bf ty gn hs  r4 hr4) (cwV 0 hts (pw_gV (own := RX4) (idx := 69) (C := RX4) (y := yX4_connections) aw_788 aw_790 aw_s33 aw_6 aw_791) rfl rfl rfl pX4_connections ⟨Nat.le_of_ble_eq_true rfl, Nat.le_of_ble_eq_true rfl⟩) (va_recv hK hP (ci := 4) (q0 := 0) rfl rfl) hK hP hD hS hA rfl rfl hl.1 rfl (Nat.le_of_ble_eq_true rfl) dX4_look_75 ⟨Nat.zero_le _, Nat.zero_le _⟩ (fun H locs hP hD hS => ?_)
            refine lv_aload_n hx hb dX4_look_78 rfl (lv_at hl 0 rfl) ?_
            refine va_get (D := D) (ci := 4) (v := .ref (q 1)) (C := RX4) (T := TX4) (N := 9) hx hb hts hin hown hK hP 0 rfl rfl 1 (by decide) (hta _ aw_687) (fun _ h9 => h9) rfl dX4_look_79 ?_
            refine lv_iconst (v := 0) hx hb dX4_look_82 (by decide) ?_
            refine va_iald hx hb hK hP 1 0 rfl rfl (pq_vp (by decide +kernel)) dX4_look_83 ?_
            refine lv_icmp_ge (tgt := 94) hx hb dX4_look_84 (by decide) (fun c4_ => ?_) (fun c4_ => ?_)
            · have h := pq_t c4_ h
              refine lv_iconst (v := (-1)) hx hb dX4_look_94 (by decide) ?_
              obtain rfl := Option.some.inj h
              subst hQ
              exact pw_ri hx hb hr hlk hAe hP hS rfl dX4_look_95
            · have h := pq_e c4_ h
              refine lv_aload_n hx hb dX4_look_87 rfl (lv_at hl 0 rfl) ?_
              obtain ⟨r5, hr5, h⟩ := pq_b h
              refine pw_ci (w1 := WM cy q th r5.2 sv sn sp bf ty gn hs) (rest := []) (As := []) hF (kX4_openOne l D cy q _ th z_21 sv sn sp bf ty gn hs  r5 hr5) (cwV 0 hts (pw_gV (own := RX4) (idx := 72) (C := RX4) (y := yX4_openOne) aw_796 aw_798 aw_s35 aw_6 aw_799) rfl rfl rfl pX4_openOne ⟨Nat.le_of_ble_eq_true rfl, Nat.le_of_ble_eq_true rfl⟩) (va_recv hK hP (ci := 4) (q0 := 0) rfl rfl) hK hP hD hS hA rfl rfl hl.1 rfl (Nat.le_of_ble_eq_true rfl) dX4_look_88 ⟨Nat.zero_le _, Nat.zero_le _⟩ (fun H locs hP hD hS => ?_)
              refine lv_goto (tgt := 95) hx hb dX4_look_91 (by decide) ?_
              obtain rfl := Option.some.inj h
              subst hQ
              exact pw_ri hx hb hr hlk hAe hP hS rfl dX4_look_95
          · have h := pq_e c3_ h
            refine lv_iload_n hx hb dX4_look_72 rfl (lv_at hl 1 rfl) ?_
            obtain rfl := Option.some.inj h
            subst hQ
            exact pw_ri hx hb hr hlk hAe hP hS rfl dX4_look_73
        · have h := pq_e c2_ h
          refine lv_iload_n hx hb dX4_look_26 rfl (lv_at hl 2 rfl) ?_
          refine lv_if_eq (tgt := 67) hx hb dX4_look_27 (by decide) (fun c5_ => ?_) (fun c5_ => ?_)
          · have h := pq_t c5_ h
            refine lv_iload_n hx hb dX4_look_67 rfl (lv_at hl 1 rfl) ?_
            refine lv_iconst (v := (-1)) hx hb dX4_look_68 (by decide) ?_
            refine lv_icmp_eq (tgt := 74) hx hb dX4_look_69 (by decide) (fun c6_ => ?_) (fun c6_ => ?_)
            · have h := pq_t c6_ h
              refine lv_aload_n hx hb dX4_look_74 rfl (lv_at hl 0 rfl) ?_
              obtain ⟨r6, hr6, h⟩ := pq_b h
              refine pw_ci (w1 := WM cy q th z_21 sv sn sp bf ty gn hs) (rest := []) (As := []) hF (kX4_connections l D cy q _ th z_21 sv sn sp bf ty gn hs  r6 hr6) (cwV 0 hts (pw_gV (own := RX4) (idx := 69) (C := RX4) (y := yX4_connections) aw_788 aw_790 aw_s33 aw_6 aw_791) rfl rfl rfl pX4_connections ⟨Nat.le_of_ble_eq_true rfl, Nat.le_of_ble_eq_true rfl⟩) (va_recv hK hP (ci := 4) (q0 := 0) rfl rfl) hK hP hD hS hA rfl rfl hl.1 rfl (Nat.le_of_ble_eq_true rfl) dX4_look_75 ⟨Nat.zero_le _, Nat.zero_le _⟩ (fun H locs hP hD hS => ?_)
              refine lv_aload_n hx hb dX4_look_78 rfl (lv_at hl 0 rfl) ?_
              refine va_get (D := D) (ci := 4) (v := .ref (q 1)) (C := RX4) (T := TX4) (N := 9) hx hb hts hin hown hK hP 0 rfl rfl 1 (by decide) (hta _ aw_687) (fun _ h9 => h9) rfl dX4_look_79 ?_
              refine lv_iconst (v := 0) hx hb dX4_look_82 (by decide) ?_
              refine va_iald hx hb hK hP 1 0 rfl rfl (pq_vp (by decide +kernel)) dX4_look_83 ?_
              refine lv_icmp_ge (tgt := 94) hx hb dX4_look_84 (by decide) (fun c7_ => ?_) (fun c7_ => ?_)
              · have h := pq_t c7_ h
                refine lv_iconst (v := (-1)) hx hb dX4_look_94 (by decide) ?_
                obtain rfl := Option.some.inj h
                subst hQ
                exact pw_ri hx hb hr hlk hAe hP hS rfl dX4_look_95
              · have h := pq_e c7_ h
                refine lv_aload_n hx hb dX4_look_87 rfl (lv_at hl 0 rfl) ?_
                obtain ⟨r7, hr7, h⟩ := pq_b h
                refine pw_ci (w1 := WM cy q th r7.2 sv sn sp bf ty gn hs) (rest := []) (As := []) hF (kX4_openOne l D cy q _ th z_21 sv sn sp bf ty gn hs  r7 hr7) (cwV 0 hts (pw_gV (own := RX4) (idx := 72) (C := RX4) (y := yX4_openOne) aw_796 aw_798 aw_s35 aw_6 aw_799) rfl rfl rfl pX4_openOne ⟨Nat.le_of_ble_eq_true rfl, Nat.le_of_ble_eq_true rfl⟩) (va_recv hK hP (ci := 4) (q0 := 0) rfl rfl) hK hP hD hS hA rfl rfl hl.1 rfl (Nat.le_of_ble_eq_true rfl) dX4_look_88 ⟨Nat.zero_le _, Nat.zero_le _⟩ (fun H locs hP hD hS => ?_)
                refine lv_goto (tgt := 95) hx hb dX4_look_91 (by decide) ?_
                obtain rfl := Option.some.inj h
                subst hQ
                exact pw_ri hx hb hr hlk hAe hP hS rfl dX4_look_95
            · have h := pq_e c6_ h
              refine lv_iload_n hx hb dX4_look_72 rfl (lv_at hl 1 rfl) ?_
              obtain rfl := Option.some.inj h
              subst hQ
              exact pw_ri hx hb hr hlk hAe hP hS rfl dX4_look_73
          · have h := pq_e c5_ h
            refine lv_aload_n hx hb dX4_look_30 rfl (lv_at hl 0 rfl) ?_
            refine va_get (D := D) (ci := 4) (v := .ref (q 1)) (C := RX4) (T := TX4) (N := 9) hx hb hts hin hown hK hP 0 rfl rfl 1 (by decide) (hta _ aw_687) (fun _ h9 => h9) rfl dX4_look_31 ?_
            refine lv_bipush (v := 15) hx hb dX4_look_34 (by decide) ?_
            refine lv_dup2_11 hx hb dX4_look_36 rfl rfl ?_
            refine va_iald hx hb hK hP 1 0 rfl rfl (pq_vp (by decide +kernel)) dX4_look_37 ?_
            refine lv_iconst (v := 1) hx hb dX4_look_38 (by decide) ?_
            refine lv_iadd hx hb dX4_look_39 ?_
            refine va_iast hx hb hK hP hD hS 1 0 rfl rfl (pq_vp (by decide +kernel)) dX4_look_40 (fun H locs hP hD hS => ?_)
            have hP : va_P D vwCl (WM cy q th (upd z_21 (15 : Int32).toNatClampNeg ((z_21 (15 : Int32).toNatClampNeg) + 1)) sv sn sp bf ty gn hs) H := hP
            have hD : va_D A (WM cy q th (upd z_21 (15 : Int32).toNatClampNeg ((z_21 (15 : Int32).toNatClampNeg) + 1)) sv sn sp bf ty gn hs) := hD
            refine lv_aload_n hx hb dX4_look_41 rfl (lv_at hl 0 rfl) ?_
            refine lv_iload_n hx hb dX4_look_42 rfl (lv_at hl 1 rfl) ?_
            refine lv_iconst (v := 2) hx hb dX4_look_43 (by decide) ?_
            obtain ⟨r8, hr8, h⟩ := pq_b h
            refine pw_ci (w1 := WM cy q th (upd z_21 (15 : Int32).toNatClampNeg ((z_21 (15 : Int32).toNatClampNeg) + 1)) sv sn sp bf ty gn hs) (rest := []) (As := [.int x1_21, .int 2]) hF (kX4_of l D cy q _ th (upd z_21 (15 : Int32).toNatClampNeg ((z_21 (15 : Int32).toNatClampNeg) + 1)) sv sn sp bf ty gn hs x1_21 2 r8 hr8) (cwV 2 hts (pw_gV (own := RX4) (idx := 40) (C := RX4) (y := yX4_of) aw_768 aw_770 aw_s28 aw_6 aw_771) rfl rfl rfl pX4_of ⟨Nat.le_of_ble_eq_true rfl, Nat.le_of_ble_eq_true rfl⟩) (va_recv hK hP (ci := 4) (q0 := 0) rfl rfl) hK hP hD hS hA rfl rfl hl.1 rfl (Nat.le_of_ble_eq_true rfl) dX4_look_44 ⟨Nat.zero_le _, Nat.zero_le _⟩ (fun H locs hP hD hS => ?_)
            refine lv_if_ne (tgt := 52) hx hb dX4_look_47 (by decide) (fun c8_ => ?_) (fun c8_ => ?_)
            · have h := pq_e c8_ h
              refine lv_aload_n hx hb dX4_look_52 rfl (lv_at hl 0 rfl) ?_
              refine lv_iload_n hx hb dX4_look_53 rfl (lv_at hl 1 rfl) ?_
              refine lv_bipush (v := 12) hx hb dX4_look_54 (by decide) ?_
              obtain ⟨r9, hr9, h⟩ := pq_b h
              refine pw_cv (w1 := WM cy q th r9 sv sn sp bf ty gn hs) (rest := []) (As := [.int x1_21, .int 12]) hF (kX4_close l D cy q _ th (upd z_21 (15 : Int32).toNatClampNeg ((z_21 (15 : Int32).toNatClampNeg) + 1)) sv sn sp bf ty gn hs x1_21 12 r9 hr9) (cwV 2 hts (pw_gV (own := RX4) (idx := 65) (C := RX4) (y := yX4_close) aw_784 aw_786 aw_s32 aw_6 aw_787) rfl rfl rfl pX4_close ⟨Nat.le_of_ble_eq_true rfl, Nat.le_of_ble_eq_true rfl⟩) (va_recv hK hP (ci := 4) (q0 := 0) rfl rfl) hK hP hD hS hA rfl rfl hl.1 rfl (Nat.le_of_ble_eq_true rfl) dX4_look_56 ⟨Nat.zero_le _, Nat.zero_le _⟩ (fun H locs hP hD hS => ?_)
              refine lv_aload_n hx hb dX4_look_59 rfl (lv_at hl 0 rfl) ?_
              obtain ⟨r10, hr10, h⟩ := pq_b h
              refine pw_ci (w1 := WM cy q th r9 sv sn sp bf ty gn hs) (rest := []) (As := []) hF (kX4_nextIdle l D cy q _ th r9 sv sn sp bf ty gn hs  r10 hr10) (cwV 0 hts (pw_gV (own := RX4) (idx := 61) (C := RX4) (y := yX4_nextIdle) aw_776 aw_778 aw_s30 aw_6 aw_779) rfl rfl rfl pX4_nextIdle ⟨Nat.le_of_ble_eq_true rfl, Nat.le_of_ble_eq_true rfl⟩) (va_recv hK hP (ci := 4) (q0 := 0) rfl rfl) hK hP hD hS hA rfl rfl hl.1 rfl (Nat.le_of_ble_eq_true rfl) dX4_look_60 ⟨Nat.zero_le _, Nat.zero_le _⟩ (fun H locs hP hD hS => ?_)
              refine lv_istore_n (lv' := [(1, .int r10), (0, .ref (q 0)), (2, .int v2)]) hx hb dX4_look_63 rfl hl (by decide) rfl (fun ls hl => ?_)
              refine lv_goto (tgt := 21) hx hb dX4_look_64 (by decide) ?_
              exact ih21 r10 r9 _ _ _ h hP hD hS (lv_sub hl [1, 0, 2] rfl)
            · have h := pq_t c8_ h
              refine lv_iload_n hx hb dX4_look_50 rfl (lv_at hl 1 rfl) ?_
              obtain rfl := Option.some.inj h
              subst hQ
              exact pw_ri hx hb hr hlk hAe hP hS rfl dX4_look_51
    exact L21_n3 1000 r1 z _ _ _ h hP hD hS (lv_sub hl [1, 2, 0] rfl)
  clear h
  have h := hv2
  clear hv2
  refine lv_icmp_ne (tgt := 19) hx hb dX4_look_12 (by decide) (fun c1_ => ?_) (fun c1_ => ?_)
  · have h := pq_e c1_ h
    refine lv_iconst (v := 0) hx hb dX4_look_19 (by decide) ?_
    obtain rfl := Option.some.inj h
    exact J20_v2 _ _ _ hP hD hS (lv_sub hl [1, 0] rfl)
  · have h := pq_t c1_ h
    refine lv_iconst (v := 1) hx hb dX4_look_15 (by decide) ?_
    refine lv_goto (tgt := 20) hx hb dX4_look_16 (by decide) ?_
    obtain rfl := Option.some.inj h
    exact J20_v2 _ _ _ hP hD hS (lv_sub hl [1, 0] rfl)

