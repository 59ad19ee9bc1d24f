/-! ===== the law's body: the walk ===== -/
set_option maxHeartbeats 8000000 in
set_option maxRecDepth 100000 in
theorem kA_law {p : Program} {e : Env} {s : State} {m : MethodId} {args : Array Value} {below : List Frame} {meth : Method} {c : Code} (l : Launch) {D : va_G} {cy : Nat → ClassId} {qa : Nat → Nat → Nat} {A : Nat → Prop} {b L : Nat} {xs : Nat → Int32} (hx : p.tables.exec = Jvm.exec) (hb : c.code = cL_law) (hF : CallFix p m c cL_law 12 s args pw_all RL) (hK : va_K D vwCl (pw_tys cy) s) (hE : pw_E A s s.heap) (hA : ∀ q : Nat, s.heap.size ≤ q → A q) (hX : va_X b L xs s s.heap) (hbl : b < s.heap.size) (hbA : ¬ A b) (hL : L ≤ 260) {P : Nat → Nat → Int32} {T : Nat → Nat → Int32} {S : Nat → Nat → Nat → Int32} {nw : Int32} {hz : Int32} {ak : Nat → Int32} {pa : Nat → Int32} {wt : Nat → Int32} {cd : Nat → Int32} {ln : Int32} (h : fL_law L xs P T S nw hz ak pa wt cd ln = some ()) {H : Heap} {locs : List Loc} {ls : Array Slot} {Q : State → Prop} (hP : va_P D vwCl (W3 cy qa P T S nw hz ak pa wt cd ln) H) (hD : va_D A (W3 cy qa P T S nw hz ak pa wt cd ln)) (hS : va_S A s.heap H locs) (hl : lv_has ls 12 [(1, .ref (qa 0 0)), (0, .ref b)]) (kk : ∀ (H : Heap) (locs : List Loc) (ls : Array Slot), va_S A s.heap H locs → W p l e room_1 s m args below meth c H locs 200 3000 Q (F0 m 739 ls [.int 1])) : W p l e room_1 s m args below meth c H locs 200 3000 Q (F0 m 8 ls []) := by
  have hts : ∀ w ∈ pw_all, w.before args s = true := hF.2.2.2.2
  have hown : s.vm.findClass RL = some m.cls := hF.2.2.2.1
  unfold fL_law at h
  refine lv_aload_n hx hb dL_law_8 rfl (lv_at hl 0 rfl) ?_
  obtain ⟨r1, hr1, h⟩ := pq_b h
  refine pw_zsi (w1 := W3 cy qa P T S nw hz ak pa wt cd ln) (rest := []) (As := [.ref (qa 0 0)]) hF (kL_addUp l D cy qa _ P T S nw hz ak pa wt cd ln  r1 hr1) (cwS 1 hts (pw_gSt (own := RL) (idx := 53) (y := yL_addUp) aw_441 aw_442 aw_0 aw_443) rfl rfl rfl pL_addUp ⟨Nat.le_of_ble_eq_true rfl, Nat.le_of_ble_eq_true rfl⟩) hK hP hD hS hA rfl rfl hl.1 rfl (Nat.le_of_ble_eq_true rfl) dL_law_9 ⟨Nat.le_of_ble_eq_true rfl, Nat.le_of_ble_eq_true rfl⟩ (fun H locs hP hD hS => ?_)
  obtain ⟨c1_, h⟩ := pq_g h
  refine lv_if_ne (tgt := 17) hx hb dL_law_12 (by decide) (fun _ => ?_) (fun cc_ => absurd cc_ c1_)
  refine lv_aload_n hx hb dL_law_17 rfl (lv_at hl 1 rfl) ?_
  refine lv_iconst (v := 0) hx hb dL_law_18 (by decide) ?_
  obtain ⟨hg, h⟩ := pq_g h
  refine pw_zcell (rest := []) hF (kL_cell l D b L xs hL _ (0 : Int32) hg) (cwS 2 hts (pw_gSt (own := RL) (idx := 59) (y := yL_cell) aw_432 aw_433 aw_0 aw_434) rfl rfl rfl pL_cell ⟨Nat.le_of_ble_eq_true rfl, Nat.le_of_ble_eq_true rfl⟩) hK hP hS hA hX hbl hbA rfl hl.1 rfl (Nat.le_of_ble_eq_true rfl) dL_law_19 ⟨Nat.le_of_ble_eq_true rfl, Nat.le_of_ble_eq_true rfl⟩ (fun H locs hP hS => ?_)
  refine lv_istore_n (lv' := [(2, .int (pw_cellV L xs (0 : Int32))), (1, .ref (qa 0 0)), (0, .ref b)]) hx hb dL_law_22 rfl hl (by decide) rfl (fun ls hl => ?_)
  refine lv_aload_n hx hb dL_law_23 rfl (lv_at hl 1 rfl) ?_
  refine lv_iconst (v := 0) hx hb dL_law_24 (by decide) ?_
  refine lv_iconst (v := 1) hx hb dL_law_25 (by decide) ?_
  refine lv_iload_n hx hb dL_law_26 rfl (lv_at hl 0 rfl) ?_
  refine lv_bipush (v := 8) hx hb dL_law_27 (by decide) ?_
  obtain ⟨r2, hr2, h⟩ := pq_b h
  refine pw_si (rest := [.int 1, .int 0, .ref (qa 0 0)]) (As := [.int (pw_cellV L xs (0 : Int32)), .int 8]) hF (kL_low l D cy _ (pw_cellV L xs (0 : Int32)) 8 r2 hr2) (cwS 2 hts (pw_gSt (own := RL) (idx := 63) (y := yL_low) aw_437 aw_438 aw_0 aw_439) rfl rfl rfl pL_low ⟨Nat.le_of_ble_eq_true rfl, Nat.le_of_ble_eq_true rfl⟩) hK hP hS hA rfl hl.1 rfl (Nat.le_of_ble_eq_true rfl) dL_law_29 ⟨Nat.le_of_ble_eq_true rfl, Nat.le_of_ble_eq_true rfl⟩ (fun H locs hP hS => ?_)
  refine lv_iadd hx hb dL_law_32 ?_
  obtain ⟨r3, hr3, h⟩ := pq_b h
  obtain ⟨a4, e9_, h9_⟩ := pq_inn h
  clear h
  have h := h9_
  clear h9_
  subst e9_
  refine pw_fiE (ws0 := W3 cy qa P T S nw hz ak pa wt cd ln) (ws1 := W3 cy qa a4.2.1 T a4.2.2.1 a4.2.2.2.1 a4.2.2.2.2 ak pa wt cd ln) (wa := []) (wb := []) (wc := W3 cy qa P T S nw hz ak pa wt cd ln) (w1 := W3 cy qa a4.2.1 T a4.2.2.1 a4.2.2.2.1 a4.2.2.2.2 ak pa wt cd ln) (rest := []) (As := [.int 0, .int (1 + r2)]) hF (kX3_set l D cy qa _ P T S nw hz ak pa wt cd ln 0 (1 + r2) a4 hr3) (cwV 2 hts (pw_gVt (own := RL) (idx := 66) (C := RX3) (y := yX3_set) aw_362 aw_363 aw_364 aw_1 aw_365) rfl rfl rfl pX3_set ⟨Nat.le_of_ble_eq_true rfl, Nat.le_of_ble_eq_true rfl⟩) 3 (RX3, TX3, 7) rfl rfl ⟨0, _, rfl⟩ hK hP hD hS hA hE (pw_s0 _) (pw_s0 _) rfl rfl hl.1 rfl (Nat.le_of_ble_eq_true rfl) dL_law_33 ⟨Nat.le_of_ble_eq_true rfl, Nat.le_of_ble_eq_true rfl⟩ (fun H locs hP hD hS => ?_)
  refine lv_iconst (v := 4) hx hb dL_law_36 (by decide) ?_
  obtain ⟨c2_, h⟩ := pq_g h
  refine lv_icmp_ne (tgt := 111) hx hb dL_law_37 (by decide) (fun cc_ => absurd c2_ cc_) (fun _ => ?_)
  refine lv_aload_n hx hb dL_law_40 rfl (lv_at hl 1 rfl) ?_
  refine lv_iconst (v := 1) hx hb dL_law_41 (by decide) ?_
  refine lv_iconst (v := 1) hx hb dL_law_42 (by decide) ?_
  refine lv_iload_n hx hb dL_law_43 rfl (lv_at hl 0 rfl) ?_
  refine lv_iconst (v := 3) hx hb dL_law_44 (by decide) ?_
  refine lv_ishr hx hb dL_law_45 ?_
  refine lv_iconst (v := 3) hx hb dL_law_46 (by decide) ?_
  obtain ⟨r5, hr5, h⟩ := pq_b h
  refine pw_si (rest := [.int 1, .int 1, .ref (qa 0 0)]) (As := [.int ((pw_cellV L xs (0 : Int32)) >>> ((3 : Int32) &&& 31)), .int 3]) hF (kL_low l D cy _ ((pw_cellV L xs (0 : Int32)) >>> ((3 : Int32) &&& 31)) 3 r5 hr5) (cwS 2 hts (pw_gSt (own := RL) (idx := 63) (y := yL_low) aw_437 aw_438 aw_0 aw_439) rfl rfl rfl pL_low ⟨Nat.le_of_ble_eq_true rfl, Nat.le_of_ble_eq_true rfl⟩) hK hP hS hA rfl hl.1 rfl (Nat.le_of_ble_eq_true rfl) dL_law_47 ⟨Nat.le_of_ble_eq_true rfl, Nat.le_of_ble_eq_true rfl⟩ (fun H locs hP hS => ?_)
  refine lv_iadd hx hb dL_law_50 ?_
  obtain ⟨r6, hr6, h⟩ := pq_b h
  obtain ⟨a7, e9_, h9_⟩ := pq_inn h
  clear h
  have h := h9_
  clear h9_
  subst e9_
  refine pw_fiE (ws0 := W3 cy qa a4.2.1 T a4.2.2.1 a4.2.2.2.1 a4.2.2.2.2 ak pa wt cd ln) (ws1 := W3 cy qa a7.2.1 T a7.2.2.1 a7.2.2.2.1 a7.2.2.2.2 ak pa wt cd ln) (wa := []) (wb := []) (wc := W3 cy qa a4.2.1 T a4.2.2.1 a4.2.2.2.1 a4.2.2.2.2 ak pa wt cd ln) (w1 := W3 cy qa a7.2.1 T a7.2.2.1 a7.2.2.2.1 a7.2.2.2.2 ak pa wt cd ln) (rest := []) (As := [.int 1, .int (1 + r5)]) hF (kX3_set l D cy qa _ a4.2.1 T a4.2.2.1 a4.2.2.2.1 a4.2.2.2.2 ak pa wt cd ln 1 (1 + r5) a7 hr6) (cwV 2 hts (pw_gVt (own := RL) (idx := 66) (C := RX3) (y := yX3_set) aw_362 aw_363 aw_364 aw_1 aw_365) rfl rfl rfl pX3_set ⟨Nat.le_of_ble_eq_true rfl, Nat.le_of_ble_eq_true rfl⟩) 3 (RX3, TX3, 7) rfl rfl ⟨0, _, rfl⟩ hK hP hD hS hA hE (pw_s0 _) (pw_s0 _) rfl rfl hl.1 rfl (Nat.le_of_ble_eq_true rfl) dL_law_51 ⟨Nat.le_of_ble_eq_true rfl, Nat.le_of_ble_eq_true rfl⟩ (fun H locs hP hD hS => ?_)
  refine lv_iconst (v := 2) hx hb dL_law_54 (by decide) ?_
  obtain ⟨c3_, h⟩ := pq_g h
  refine lv_icmp_ne (tgt := 111) hx hb dL_law_55 (by decide) (fun cc_ => absurd c3_ cc_) (fun _ => ?_)
  refine lv_aload_n hx hb dL_law_58 rfl (lv_at hl 1 rfl) ?_
  refine lv_iconst (v := 2) hx hb dL_law_59 (by decide) ?_
  refine lv_iload_n hx hb dL_law_60 rfl (lv_at hl 0 rfl) ?_
  refine lv_iconst (v := 5) hx hb dL_law_61 (by decide) ?_
  refine lv_ishr hx hb dL_law_62 ?_
  refine lv_iconst (v := 4) hx hb dL_law_63 (by decide) ?_
  obtain ⟨r8, hr8, h⟩ := pq_b h
  refine pw_si (rest := [.int 2, .ref (qa 0 0)]) (As := [.int ((pw_cellV L xs (0 : Int32)) >>> ((5 : Int32) &&& 31)), .int 4]) hF (kL_low l D cy _ ((pw_cellV L xs (0 : Int32)) >>> ((5 : Int32) &&& 31)) 4 r8 hr8) (cwS 2 hts (pw_gSt (own := RL) (idx := 63) (y := yL_low) aw_437 aw_438 aw_0 aw_439) rfl rfl rfl pL_low ⟨Nat.le_of_ble_eq_true rfl, Nat.le_of_ble_eq_true rfl⟩) hK hP hS hA rfl hl.1 rfl (Nat.le_of_ble_eq_true rfl) dL_law_64 ⟨Nat.le_of_ble_eq_true rfl, Nat.le_of_ble_eq_true rfl⟩ (fun H locs hP hS => ?_)
  obtain ⟨r9, hr9, h⟩ := pq_b h
  obtain ⟨a10, e9_, h9_⟩ := pq_inn h
  clear h
  have h := h9_
  clear h9_
  subst e9_
  refine pw_fiE (ws0 := W3 cy qa a7.2.1 T a7.2.2.1 a7.2.2.2.1 a7.2.2.2.2 ak pa wt cd ln) (ws1 := W3 cy qa a10.2.1 T a10.2.2.1 a10.2.2.2.1 a10.2.2.2.2 ak pa wt cd ln) (wa := []) (wb := []) (wc := W3 cy qa a7.2.1 T a7.2.2.1 a7.2.2.2.1 a7.2.2.2.2 ak pa wt cd ln) (w1 := W3 cy qa a10.2.1 T a10.2.2.1 a10.2.2.2.1 a10.2.2.2.2 ak pa wt cd ln) (rest := []) (As := [.int 2, .int r8]) hF (kX3_set l D cy qa _ a7.2.1 T a7.2.2.1 a7.2.2.2.1 a7.2.2.2.2 ak pa wt cd ln 2 r8 a10 hr9) (cwV 2 hts (pw_gVt (own := RL) (idx := 66) (C := RX3) (y := yX3_set) aw_362 aw_363 aw_364 aw_1 aw_365) rfl rfl rfl pX3_set ⟨Nat.le_of_ble_eq_true rfl, Nat.le_of_ble_eq_true rfl⟩) 3 (RX3, TX3, 7) rfl rfl ⟨0, _, rfl⟩ hK hP hD hS hA hE (pw_s0 _) (pw_s0 _) rfl rfl hl.1 rfl (Nat.le_of_ble_eq_true rfl) dL_law_67 ⟨Nat.le_of_ble_eq_true rfl, Nat.le_of_ble_eq_true rfl⟩ (fun H locs hP hD hS => ?_)
  refine lv_iconst (v := 1) hx hb dL_law_70 (by decide) ?_
  obtain ⟨c4_, h⟩ := pq_g h
  refine lv_icmp_ne (tgt := 111) hx hb dL_law_71 (by decide) (fun cc_ => absurd c4_ cc_) (fun _ => ?_)
  refine lv_aload_n hx hb dL_law_74 rfl (lv_at hl 1 rfl) ?_
  refine lv_iconst (v := 3) hx hb dL_law_75 (by decide) ?_
  refine lv_iload_n hx hb dL_law_76 rfl (lv_at hl 0 rfl) ?_
  refine lv_bipush (v := 7) hx hb dL_law_77 (by decide) ?_
  refine lv_ishr hx hb dL_law_79 ?_
  refine lv_iconst (v := 2) hx hb dL_law_80 (by decide) ?_
  obtain ⟨r11, hr11, h⟩ := pq_b h
  refine pw_si (rest := [.int 3, .ref (qa 0 0)]) (As := [.int ((pw_cellV L xs (0 : Int32)) >>> ((7 : Int32) &&& 31)), .int 2]) hF (kL_low l D cy _ ((pw_cellV L xs (0 : Int32)) >>> ((7 : Int32) &&& 31)) 2 r11 hr11) (cwS 2 hts (pw_gSt (own := RL) (idx := 63) (y := yL_low) aw_437 aw_438 aw_0 aw_439) rfl rfl rfl pL_low ⟨Nat.le_of_ble_eq_true rfl, Nat.le_of_ble_eq_true rfl⟩) hK hP hS hA rfl hl.1 rfl (Nat.le_of_ble_eq_true rfl) dL_law_81 ⟨Nat.le_of_ble_eq_true rfl, Nat.le_of_ble_eq_true rfl⟩ (fun H locs hP hS => ?_)
  obtain ⟨r12, hr12, h⟩ := pq_b h
  obtain ⟨a13, e9_, h9_⟩ := pq_inn h
  clear h
  have h := h9_
  clear h9_
  subst e9_
  refine pw_fiE (ws0 := W3 cy qa a10.2.1 T a10.2.2.1 a10.2.2.2.1 a10.2.2.2.2 ak pa wt cd ln) (ws1 := W3 cy qa a13.2.1 T a13.2.2.1 a13.2.2.2.1 a13.2.2.2.2 ak pa wt cd ln) (wa := []) (wb := []) (wc := W3 cy qa a10.2.1 T a10.2.2.1 a10.2.2.2.1 a10.2.2.2.2 ak pa wt cd ln) (w1 := W3 cy qa a13.2.1 T a13.2.2.1 a13.2.2.2.1 a13.2.2.2.2 ak pa wt cd ln) (rest := []) (As := [.int 3, .int r11]) hF (kX3_set l D cy qa _ a10.2.1 T a10.2.2.1 a10.2.2.2.1 a10.2.2.2.2 ak pa wt cd ln 3 r11 a13 hr12) (cwV 2 hts (pw_gVt (own := RL) (idx := 66) (C := RX3) (y := yX3_set) aw_362 aw_363 aw_364 aw_1 aw_365) rfl rfl rfl pX3_set ⟨Nat.le_of_ble_eq_true rfl, Nat.le_of_ble_eq_true rfl⟩) 3 (RX3, TX3, 7) rfl rfl ⟨0, _, rfl⟩ hK hP hD hS hA hE (pw_s0 _) (pw_s0 _) rfl rfl hl.1 rfl (Nat.le_of_ble_eq_true rfl) dL_law_84 ⟨Nat.le_of_ble_eq_true rfl, Nat.le_of_ble_eq_true rfl⟩ (fun H locs hP hD hS => ?_)
  obtain ⟨c5_, h⟩ := pq_g h
  refine lv_if_ne (tgt := 111) hx hb dL_law_87 (by decide) (fun cc_ => absurd c5_ cc_) (fun _ => ?_)
  refine lv_aload_n hx hb dL_law_90 rfl (lv_at hl 1 rfl) ?_
  refine lv_iconst (v := 4) hx hb dL_law_91 (by decide) ?_
  refine lv_iload_n hx hb dL_law_92 rfl (lv_at hl 0 rfl) ?_
  refine lv_bipush (v := 8) hx hb dL_law_93 (by decide) ?_
  refine lv_ishr hx hb dL_law_95 ?_
  refine lv_iconst (v := 2) hx hb dL_law_96 (by decide) ?_
  obtain ⟨r14, hr14, h⟩ := pq_b h
  refine pw_si (rest := [.int 4, .ref (qa 0 0)]) (As := [.int ((pw_cellV L xs (0 : Int32)) >>> ((8 : Int32) &&& 31)), .int 2]) hF (kL_low l D cy _ ((pw_cellV L xs (0 : Int32)) >>> ((8 : Int32) &&& 31)) 2 r14 hr14) (cwS 2 hts (pw_gSt (own := RL) (idx := 63) (y := yL_low) aw_437 aw_438 aw_0 aw_439) rfl rfl rfl pL_low ⟨Nat.le_of_ble_eq_true rfl, Nat.le_of_ble_eq_true rfl⟩) hK hP hS hA rfl hl.1 rfl (Nat.le_of_ble_eq_true rfl) dL_law_97 ⟨Nat.le_of_ble_eq_true rfl, Nat.le_of_ble_eq_true rfl⟩ (fun H locs hP hS => ?_)
  obtain ⟨r15, hr15, h⟩ := pq_b h
  obtain ⟨a16, e9_, h9_⟩ := pq_inn h
  clear h
  have h := h9_
  clear h9_
  subst e9_
  refine pw_fiE (ws0 := W3 cy qa a13.2.1 T a13.2.2.1 a13.2.2.2.1 a13.2.2.2.2 ak pa wt cd ln) (ws1 := W3 cy qa a16.2.1 T a16.2.2.1 a16.2.2.2.1 a16.2.2.2.2 ak pa wt cd ln) (wa := []) (wb := []) (wc := W3 cy qa a13.2.1 T a13.2.2.1 a13.2.2.2.1 a13.2.2.2.2 ak pa wt cd ln) (w1 := W3 cy qa a16.2.1 T a16.2.2.1 a16.2.2.2.1 a16.2.2.2.2 ak pa wt cd ln) (rest := []) (As := [.int 4, .int r14]) hF (kX3_set l D cy qa _ a13.2.1 T a13.2.2.1 a13.2.2.2.1 a13.2.2.2.2 ak pa wt cd ln 4 r14 a16 hr15) (cwV 2 hts (pw_gVt (own := RL) (idx := 66) (C := RX3) (y := yX3_set) aw_362 aw_363 aw_364 aw_1 aw_365) rfl rfl rfl pX3_set ⟨Nat.le_of_ble_eq_true rfl, Nat.le_of_ble_eq_true rfl⟩) 3 (RX3, TX3, 7) rfl rfl ⟨0, _, rfl⟩ hK hP hD hS hA hE (pw_s0 _) (pw_s0 _) rfl rfl hl.1 rfl (Nat.le_of_ble_eq_true rfl) dL_law_100 ⟨Nat.le_of_ble_eq_true rfl, Nat.le_of_ble_eq_true rfl⟩ (fun H locs hP hD hS => ?_)
  refine lv_iconst (v := 1) hx hb dL_law_103 (by decide) ?_
  obtain ⟨c6_, h⟩ := pq_g h
  refine lv_icmp_ne (tgt := 111) hx hb dL_law_104 (by decide) (fun cc_ => absurd c6_ cc_) (fun _ => ?_)
  refine lv_iconst (v := 1) hx hb dL_law_107 (by decide) ?_
  refine lv_goto (tgt := 112) hx hb dL_law_108 (by decide) ?_
  refine lv_istore_n (lv' := [(3, .int 1), (2, .int (pw_cellV L xs (0 : Int32))), (1, .ref (qa 0 0)), (0, .ref b)]) hx hb dL_law_112 rfl hl (by decide) rfl (fun ls hl => ?_)
  refine lv_iload_n hx hb dL_law_113 rfl (lv_at hl 0 rfl) ?_
  refine lv_if_eq (tgt := 205) hx hb dL_law_114 (by decide) (fun c7_ => absurd c7_ (by decide)) (fun c7_ => ?_)
  refine lv_aload_n hx hb dL_law_117 rfl (lv_at hl 2 rfl) ?_
  refine lv_iconst (v := 5) hx hb dL_law_118 (by decide) ?_
  refine lv_iconst (v := 1) hx hb dL_law_119 (by decide) ?_
  refine lv_iload_n hx hb dL_law_120 rfl (lv_at hl 1 rfl) ?_
  refine lv_bipush (v := 9) hx hb dL_law_121 (by decide) ?_
  refine lv_ishr hx hb dL_law_123 ?_
  refine lv_bipush (v := 9) hx hb dL_law_124 (by decide) ?_
  obtain ⟨r17, hr17, h⟩ := pq_b h
  refine pw_si (rest := [.int 1, .int 5, .ref (qa 0 0)]) (As := [.int ((pw_cellV L xs (0 : Int32)) >>> ((9 : Int32) &&& 31)), .int 9]) hF (kL_low l D cy _ ((pw_cellV L xs (0 : Int32)) >>> ((9 : Int32) &&& 31)) 9 r17 hr17) (cwS 2 hts (pw_gSt (own := RL) (idx := 63) (y := yL_low) aw_437 aw_438 aw_0 aw_439) rfl rfl rfl pL_low ⟨Nat.le_of_ble_eq_true rfl, Nat.le_of_ble_eq_true rfl⟩) hK hP hS hA rfl hl.1 rfl (Nat.le_of_ble_eq_true rfl) dL_law_126 ⟨Nat.le_of_ble_eq_true rfl, Nat.le_of_ble_eq_true rfl⟩ (fun H locs hP hS => ?_)
  refine lv_iadd hx hb dL_law_129 ?_
  obtain ⟨r18, hr18, h⟩ := pq_b h
  obtain ⟨a19, e9_, h9_⟩ := pq_inn h
  clear h
  have h := h9_
  clear h9_
  subst e9_
  refine pw_fiE (ws0 := W3 cy qa a16.2.1 T a16.2.2.1 a16.2.2.2.1 a16.2.2.2.2 ak pa wt cd ln) (ws1 := W3 cy qa a19.2.1 T a19.2.2.1 a19.2.2.2.1 a19.2.2.2.2 ak pa wt cd ln) (wa := []) (wb := []) (wc := W3 cy qa a16.2.1 T a16.2.2.1 a16.2.2.2.1 a16.2.2.2.2 ak pa wt cd ln) (w1 := W3 cy qa a19.2.1 T a19.2.2.1 a19.2.2.2.1 a19.2.2.2.2 ak pa wt cd ln) (rest := []) (As := [.int 5, .int (1 + r17)]) hF (kX3_set l D cy qa _ a16.2.1 T a16.2.2.1 a16.2.2.2.1 a16.2.2.2.2 ak pa wt cd ln 5 (1 + r17) a19 hr18) (cwV 2 hts (pw_gVt (own := RL) (idx := 66) (C := RX3) (y := yX3_set) aw_362 aw_363 aw_364 aw_1 aw_365) rfl rfl rfl pX3_set ⟨Nat.le_of_ble_eq_true rfl, Nat.le_of_ble_eq_true rfl⟩) 3 (RX3, TX3, 7) rfl rfl ⟨0, _, rfl⟩ hK hP hD hS hA hE (pw_s0 _) (pw_s0 _) rfl rfl hl.1 rfl (Nat.le_of_ble_eq_true rfl) dL_law_130 ⟨Nat.le_of_ble_eq_true rfl, Nat.le_of_ble_eq_true rfl⟩ (fun H locs hP hD hS => ?_)
  refine lv_bipush (v := 10) hx hb dL_law_133 (by decide) ?_
  obtain ⟨c8_, h⟩ := pq_g h
  refine lv_icmp_ne (tgt := 205) hx hb dL_law_135 (by decide) (fun cc_ => absurd c8_ cc_) (fun _ => ?_)
  refine lv_aload_n hx hb dL_law_138 rfl (lv_at hl 2 rfl) ?_
  refine lv_bipush (v := 6) hx hb dL_law_139 (by decide) ?_
  refine lv_iload_n hx hb dL_law_141 rfl (lv_at hl 1 rfl) ?_
  refine lv_bipush (v := 13) hx hb dL_law_142 (by decide) ?_
  refine lv_ishr hx hb dL_law_144 ?_
  refine lv_bipush (v := 6) hx hb dL_law_145 (by decide) ?_
  obtain ⟨r20, hr20, h⟩ := pq_b h
  refine pw_si (rest := [.int 6, .ref (qa 0 0)]) (As := [.int ((pw_cellV L xs (0 : Int32)) >>> ((13 : Int32) &&& 31)), .int 6]) hF (kL_low l D cy _ ((pw_cellV L xs (0 : Int32)) >>> ((13 : Int32) &&& 31)) 6 r20 hr20) (cwS 2 hts (pw_gSt (own := RL) (idx := 63) (y := yL_low) aw_437 aw_438 aw_0 aw_439) rfl rfl rfl pL_low ⟨Nat.le_of_ble_eq_true rfl, Nat.le_of_ble_eq_true rfl⟩) hK hP hS hA rfl hl.1 rfl (Nat.le_of_ble_eq_true rfl) dL_law_147 ⟨Nat.le_of_ble_eq_true rfl, Nat.le_of_ble_eq_true rfl⟩ (fun H locs hP hS => ?_)
  obtain ⟨r21, hr21, h⟩ := pq_b h
  obtain ⟨a22, e9_, h9_⟩ := pq_inn h
  clear h
  have h := h9_
  clear h9_
  subst e9_
  refine pw_fiE (ws0 := W3 cy qa a19.2.1 T a19.2.2.1 a19.2.2.2.1 a19.2.2.2.2 ak pa wt cd ln) (ws1 := W3 cy qa a22.2.1 T a22.2.2.1 a22.2.2.2.1 a22.2.2.2.2 ak pa wt cd ln) (wa := []) (wb := []) (wc := W3 cy qa a19.2.1 T a19.2.2.1 a19.2.2.2.1 a19.2.2.2.2 ak pa wt cd ln) (w1 := W3 cy qa a22.2.1 T a22.2.2.1 a22.2.2.2.1 a22.2.2.2.2 ak pa wt cd ln) (rest := []) (As := [.int 6, .int r20]) hF (kX3_set l D cy qa _ a19.2.1 T a19.2.2.1 a19.2.2.2.1 a19.2.2.2.2 ak pa wt cd ln 6 r20 a22 hr21) (cwV 2 hts (pw_gVt (own := RL) (idx := 66) (C := RX3) (y := yX3_set) aw_362 aw_363 aw_364 aw_1 aw_365) rfl rfl rfl pX3_set ⟨Nat.le_of_ble_eq_true rfl, Nat.le_of_ble_eq_true rfl⟩) 3 (RX3, TX3, 7) rfl rfl ⟨0, _, rfl⟩ hK hP hD hS hA hE (pw_s0 _) (pw_s0 _) rfl rfl hl.1 rfl (Nat.le_of_ble_eq_true rfl) dL_law_150 ⟨Nat.le_of_ble_eq_true rfl, Nat.le_of_ble_eq_true rfl⟩ (fun H locs hP hD hS => ?_)
  refine lv_iconst (v := 5) hx hb dL_law_153 (by decide) ?_
  obtain ⟨c9_, h⟩ := pq_g h
  refine lv_icmp_ne (tgt := 205) hx hb dL_law_154 (by decide) (fun cc_ => absurd c9_ cc_) (fun _ => ?_)
  refine lv_aload_n hx hb dL_law_157 rfl (lv_at hl 2 rfl) ?_
  refine lv_bipush (v := 7) hx hb dL_law_158 (by decide) ?_
  refine lv_iconst (v := 1) hx hb dL_law_160 (by decide) ?_
  refine lv_iload_n hx hb dL_law_161 rfl (lv_at hl 1 rfl) ?_
  refine lv_bipush (v := 16) hx hb dL_law_162 (by decide) ?_
  refine lv_ishr hx hb dL_law_164 ?_
  refine lv_bipush (v := 12) hx hb dL_law_165 (by decide) ?_
  obtain ⟨r23, hr23, h⟩ := pq_b h
  refine pw_si (rest := [.int 1, .int 7, .ref (qa 0 0)]) (As := [.int ((pw_cellV L xs (0 : Int32)) >>> ((16 : Int32) &&& 31)), .int 12]) hF (kL_low l D cy _ ((pw_cellV L xs (0 : Int32)) >>> ((16 : Int32) &&& 31)) 12 r23 hr23) (cwS 2 hts (pw_gSt (own := RL) (idx := 63) (y := yL_low) aw_437 aw_438 aw_0 aw_439) rfl rfl rfl pL_low ⟨Nat.le_of_ble_eq_true rfl, Nat.le_of_ble_eq_true rfl⟩) hK hP hS hA rfl hl.1 rfl (Nat.le_of_ble_eq_true rfl) dL_law_167 ⟨Nat.le_of_ble_eq_true rfl, Nat.le_of_ble_eq_true rfl⟩ (fun H locs hP hS => ?_)
  refine lv_iadd hx hb dL_law_170 ?_
  obtain ⟨r24, hr24, h⟩ := pq_b h
  obtain ⟨a25, e9_, h9_⟩ := pq_inn h
  clear h
  have h := h9_
  clear h9_
  subst e9_
  refine pw_fiE (ws0 := W3 cy qa a22.2.1 T a22.2.2.1 a22.2.2.2.1 a22.2.2.2.2 ak pa wt cd ln) (ws1 := W3 cy qa a25.2.1 T a25.2.2.1 a25.2.2.2.1 a25.2.2.2.2 ak pa wt cd ln) (wa := []) (wb := []) (wc := W3 cy qa a22.2.1 T a22.2.2.1 a22.2.2.2.1 a22.2.2.2.2 ak pa wt cd ln) (w1 := W3 cy qa a25.2.1 T a25.2.2.1 a25.2.2.2.1 a25.2.2.2.2 ak pa wt cd ln) (rest := []) (As := [.int 7, .int (1 + r23)]) hF (kX3_set l D cy qa _ a22.2.1 T a22.2.2.1 a22.2.2.2.1 a22.2.2.2.2 ak pa wt cd ln 7 (1 + r23) a25 hr24) (cwV 2 hts (pw_gVt (own := RL) (idx := 66) (C := RX3) (y := yX3_set) aw_362 aw_363 aw_364 aw_1 aw_365) rfl rfl rfl pX3_set ⟨Nat.le_of_ble_eq_true rfl, Nat.le_of_ble_eq_true rfl⟩) 3 (RX3, TX3, 7) rfl rfl ⟨0, _, rfl⟩ hK hP hD hS hA hE (pw_s0 _) (pw_s0 _) rfl rfl hl.1 rfl (Nat.le_of_ble_eq_true rfl) dL_law_171 ⟨Nat.le_of_ble_eq_true rfl, Nat.le_of_ble_eq_true rfl⟩ (fun H locs hP hD hS => ?_)
  refine lv_bipush (v := 20) hx hb dL_law_174 (by decide) ?_
  obtain ⟨c10_, h⟩ := pq_g h
  refine lv_icmp_ne (tgt := 205) hx hb dL_law_176 (by decide) (fun cc_ => absurd c10_ cc_) (fun _ => ?_)
  refine lv_aload_n hx hb dL_law_179 rfl (lv_at hl 2 rfl) ?_
  refine lv_bipush (v := 8) hx hb dL_law_180 (by decide) ?_
  refine lv_iconst (v := 1) hx hb dL_law_182 (by decide) ?_
  refine lv_iload_n hx hb dL_law_183 rfl (lv_at hl 1 rfl) ?_
  refine lv_bipush (v := 20) hx hb dL_law_184 (by decide) ?_
  refine lv_ishr hx hb dL_law_186 ?_
  refine lv_bipush (v := 12) hx hb dL_law_187 (by decide) ?_
  obtain ⟨r26, hr26, h⟩ := pq_b h
  refine pw_si (rest := [.int 1, .int 8, .ref (qa 0 0)]) (As := [.int ((pw_cellV L xs (0 : Int32)) >>> ((20 : Int32) &&& 31)), .int 12]) hF (kL_low l D cy _ ((pw_cellV L xs (0 : Int32)) >>> ((20 : Int32) &&& 31)) 12 r26 hr26) (cwS 2 hts (pw_gSt (own := RL) (idx := 63) (y := yL_low) aw_437 aw_438 aw_0 aw_439) rfl rfl rfl pL_low ⟨Nat.le_of_ble_eq_true rfl, Nat.le_of_ble_eq_true rfl⟩) hK hP hS hA rfl hl.1 rfl (Nat.le_of_ble_eq_true rfl) dL_law_189 ⟨Nat.le_of_ble_eq_true rfl, Nat.le_of_ble_eq_true rfl⟩ (fun H locs hP hS => ?_)
  refine lv_iadd hx hb dL_law_192 ?_
  obtain ⟨r27, hr27, h⟩ := pq_b h
  obtain ⟨a28, e9_, h9_⟩ := pq_inn h
  clear h
  have h := h9_
  clear h9_
  subst e9_
  refine pw_fiE (ws0 := W3 cy qa a25.2.1 T a25.2.2.1 a25.2.2.2.1 a25.2.2.2.2 ak pa wt cd ln) (ws1 := W3 cy qa a28.2.1 T a28.2.2.1 a28.2.2.2.1 a28.2.2.2.2 ak pa wt cd ln) (wa := []) (wb := []) (wc := W3 cy qa a25.2.1 T a25.2.2.1 a25.2.2.2.1 a25.2.2.2.2 ak pa wt cd ln) (w1 := W3 cy qa a28.2.1 T a28.2.2.1 a28.2.2.2.1 a28.2.2.2.2 ak pa wt cd ln) (rest := []) (As := [.int 8, .int (1 + r26)]) hF (kX3_set l D cy qa _ a25.2.1 T a25.2.2.1 a25.2.2.2.1 a25.2.2.2.2 ak pa wt cd ln 8 (1 + r26) a28 hr27) (cwV 2 hts (pw_gVt (own := RL) (idx := 66) (C := RX3) (y := yX3_set) aw_362 aw_363 aw_364 aw_1 aw_365) rfl rfl rfl pX3_set ⟨Nat.le_of_ble_eq_true rfl, Nat.le_of_ble_eq_true rfl⟩) 3 (RX3, TX3, 7) rfl rfl ⟨0, _, rfl⟩ hK hP hD hS hA hE (pw_s0 _) (pw_s0 _) rfl rfl hl.1 rfl (Nat.le_of_ble_eq_true rfl) dL_law_193 ⟨Nat.le_of_ble_eq_true rfl, Nat.le_of_ble_eq_true rfl⟩ (fun H locs hP hD hS => ?_)
  refine lv_bipush (v := 15) hx hb dL_law_196 (by decide) ?_
  obtain ⟨c11_, h⟩ := pq_g h
  refine lv_icmp_ne (tgt := 205) hx hb dL_law_198 (by decide) (fun cc_ => absurd c11_ cc_) (fun _ => ?_)
  refine lv_iconst (v := 1) hx hb dL_law_201 (by decide) ?_
  refine lv_goto (tgt := 206) hx hb dL_law_202 (by decide) ?_
  refine lv_istore_n (lv' := [(3, .int 1), (2, .int (pw_cellV L xs (0 : Int32))), (1, .ref (qa 0 0)), (0, .ref b)]) hx hb dL_law_206 rfl hl (by decide) rfl (fun ls hl => ?_)
  refine lv_iconst (v := 0) hx hb dL_law_207 (by decide) ?_
  refine lv_istore (lv' := [(4, .int 0), (3, .int 1), (2, .int (pw_cellV L xs (0 : Int32))), (1, .ref (qa 0 0)), (0, .ref b)]) hx hb dL_law_208 hl (by decide) rfl (fun ls hl => ?_)
  obtain ⟨v30, hv30, h⟩ := pq_b h
  have X707_v30 : ∀ (H : Heap) (locs : List Loc) (ls : Array Slot), va_P D vwCl (W3 cy qa v30.2.1 v30.2.2.1 v30.2.2.2.1 v30.2.2.2.2.1 v30.2.2.2.2.2.1 v30.2.2.2.2.2.2.1 v30.2.2.2.2.2.2.2.1 v30.2.2.2.2.2.2.2.2 cd ln) H → va_D A (W3 cy qa v30.2.1 v30.2.2.1 v30.2.2.2.1 v30.2.2.2.2.1 v30.2.2.2.2.2.1 v30.2.2.2.2.2.2.1 v30.2.2.2.2.2.2.2.1 v30.2.2.2.2.2.2.2.2 cd ln) → va_S A s.heap H locs → lv_has ls 12 [(1, .ref (qa 0 0)), (3, .int v30.1)] → W p l e room_1 s m args below meth c H locs 200 3000 Q (F0 m 707 ls []) := by
    intro H locs ls hP hD hS hl
    refine lv_aload_n hx hb dL_law_707 rfl (lv_at hl 0 rfl) ?_
    refine lv_iconst (v := 2) hx hb dL_law_708 (by decide) ?_
    obtain ⟨r122, hr122, h⟩ := pq_b h
    obtain ⟨a123, e9_, h9_⟩ := pq_inn h
    clear h
    have h := h9_
    clear h9_
    subst e9_
    refine pw_ci (w1 := W3 cy qa v30.2.1 v30.2.2.1 v30.2.2.2.1 v30.2.2.2.2.1 v30.2.2.2.2.2.1 v30.2.2.2.2.2.2.1 v30.2.2.2.2.2.2.2.1 v30.2.2.2.2.2.2.2.2 cd ln) (rest := []) (As := [.int 2]) hF (kX3_count l D cy qa _ v30.2.1 v30.2.2.1 v30.2.2.2.1 v30.2.2.2.2.1 v30.2.2.2.2.2.1 v30.2.2.2.2.2.2.1 v30.2.2.2.2.2.2.2.1 v30.2.2.2.2.2.2.2.2 cd ln 2 a123 hr122) (cwV 1 hts (pw_gVt (own := RL) (idx := 16) (C := RX3) (y := yX3_count) aw_420 aw_421 aw_422 aw_1 aw_423) rfl rfl rfl pX3_count ⟨Nat.le_of_ble_eq_true rfl, Nat.le_of_ble_eq_true rfl⟩) (va_recv hK hP (ci := 3) (q0 := 0) rfl rfl) hK hP hD hS hA rfl rfl hl.1 rfl (Nat.le_of_ble_eq_true rfl) dL_law_709 ⟨Nat.le_of_ble_eq_true rfl, Nat.le_of_ble_eq_true rfl⟩ (fun H locs hP hD hS => ?_)
    refine lv_istore (lv' := [(4, .int a123), (1, .ref (qa 0 0)), (3, .int v30.1)]) hx hb dL_law_712 hl (by decide) rfl (fun ls hl => ?_)
    refine lv_iload_n hx hb dL_law_714 rfl (lv_at hl 2 rfl) ?_
    obtain ⟨c63_, h⟩ := pq_g h
    refine lv_if_eq (tgt := 738) hx hb dL_law_715 (by decide) (fun cc_ => absurd cc_ c63_) (fun _ => ?_)
    refine lv_aload_n hx hb dL_law_718 rfl (lv_at hl 1 rfl) ?_
    obtain ⟨r124, hr124, h⟩ := pq_b h
    refine pw_ci (w1 := W3 cy qa r124.2.1 v30.2.2.1 r124.2.2.1 r124.2.2.2.1 r124.2.2.2.2 v30.2.2.2.2.2.2.1 v30.2.2.2.2.2.2.2.1 v30.2.2.2.2.2.2.2.2 cd ln) (rest := []) (As := []) hF (kX3_drain l D cy qa _ v30.2.1 v30.2.2.1 v30.2.2.2.1 v30.2.2.2.2.1 v30.2.2.2.2.2.1 v30.2.2.2.2.2.2.1 v30.2.2.2.2.2.2.2.1 v30.2.2.2.2.2.2.2.2 cd ln  r124 hr124) (cwV 0 hts (pw_gVt (own := RL) (idx := 93) (C := RX3) (y := yX3_drain) aw_354 aw_355 aw_356 aw_1 aw_357) rfl rfl rfl pX3_drain ⟨Nat.le_of_ble_eq_true rfl, Nat.le_of_ble_eq_true rfl⟩) (va_recv hK hP (ci := 3) (q0 := 0) rfl rfl) hK hP hD hS hA rfl rfl hl.1 rfl (Nat.le_of_ble_eq_true rfl) dL_law_719 ⟨Nat.le_of_ble_eq_true rfl, Nat.le_of_ble_eq_true rfl⟩ (fun H locs hP hD hS => ?_)
    refine lv_iload hx hb dL_law_722 (lv_at hl 0 rfl) ?_
    obtain ⟨c64_, h⟩ := pq_g h
    refine lv_icmp_ne (tgt := 738) hx hb dL_law_724 (by decide) (fun cc_ => absurd c64_ cc_) (fun _ => ?_)
    refine lv_aload_n hx hb dL_law_727 rfl (lv_at hl 1 rfl) ?_
    obtain ⟨r125, hr125, h⟩ := pq_b h
    refine pw_zsi (w1 := W3 cy qa r124.2.1 v30.2.2.1 r124.2.2.1 r124.2.2.2.1 r124.2.2.2.2 v30.2.2.2.2.2.2.1 v30.2.2.2.2.2.2.2.1 v30.2.2.2.2.2.2.2.2 cd ln) (rest := []) (As := [.ref (qa 0 0)]) hF (kL_addUp l D cy qa _ r124.2.1 v30.2.2.1 r124.2.2.1 r124.2.2.2.1 r124.2.2.2.2 v30.2.2.2.2.2.2.1 v30.2.2.2.2.2.2.2.1 v30.2.2.2.2.2.2.2.2 cd ln  r125 hr125) (cwS 1 hts (pw_gSt (own := RL) (idx := 53) (y := yL_addUp) aw_441 aw_442 aw_0 aw_443) rfl rfl rfl pL_addUp ⟨Nat.le_of_ble_eq_true rfl, Nat.le_of_ble_eq_true rfl⟩) hK hP hD hS hA rfl rfl hl.1 rfl (Nat.le_of_ble_eq_true rfl) dL_law_728 ⟨Nat.le_of_ble_eq_true rfl, Nat.le_of_ble_eq_true rfl⟩ (fun H locs hP hD hS => ?_)
    obtain ⟨c65_, h⟩ := pq_g h
    refine lv_if_eq (tgt := 738) hx hb dL_law_731 (by decide) (fun cc_ => absurd cc_ c65_) (fun _ => ?_)
    refine lv_iconst (v := 1) hx hb dL_law_734 (by decide) ?_
    refine lv_goto (tgt := 739) hx hb dL_law_735 (by decide) ?_
    exact kk _ _ _ hS
  clear h
  have L210_n29 : ∀ (n : Nat) (x3_210 : Int32) (x4_210 : Int32) (P_210 : Nat → Nat → Int32) (T_210 : Nat → Nat → Int32) (S_210 : Nat → Nat → Nat → Int32) (nw_210 : Int32) (hz_210 : Int32) (ak_210 : Nat → Int32) (pa_210 : Nat → Int32) (wt_210 : Nat → Int32) (H : Heap) (locs : List Loc) (ls : Array Slot), fL_law_L210 L xs n x3_210 x4_210 P_210 T_210 S_210 nw_210 hz_210 ak_210 pa_210 wt_210 = some v30 → va_P D vwCl (W3 cy qa P_210 T_210 S_210 nw_210 hz_210 ak_210 pa_210 wt_210 cd ln) H → va_D A (W3 cy qa P_210 T_210 S_210 nw_210 hz_210 ak_210 pa_210 wt_210 cd ln) → va_S A s.heap H locs → lv_has ls 12 [(0, .ref b), (1, .ref (qa 0 0)), (3, .int x3_210), (4, .int x4_210)] → W p l e room_1 s m args below meth c H locs 200 3000 Q (F0 m 210 ls []) := by
    intro n
    induction n with
    | zero =>
      intro x3_210 x4_210 P_210 T_210 S_210 nw_210 hz_210 ak_210 pa_210 wt_210 H locs ls h hP hD hS hl
      exact pq_n h
    | succ n ih210 =>
      intro x3_210 x4_210 P_210 T_210 S_210 nw_210 hz_210 ak_210 pa_210 wt_210 H locs ls h hP hD hS hl
      rw [fL_law_L210] at h
      refine lv_iload hx hb dL_law_210 (lv_at hl 3 rfl) ?_
      refine lv_bipush (v := 50) hx hb dL_law_212 (by decide) ?_
      refine lv_icmp_ge (tgt := 707) hx hb dL_law_214 (by decide) (fun c12_ => ?_) (fun c12_ => ?_)
      · have h := pq_t c12_ h
        obtain rfl := Option.some.inj h
        exact X707_v30 _ _ _ hP hD hS (lv_sub hl [1, 2] rfl)
      · have h := pq_e c12_ h
        refine lv_iload_n hx hb dL_law_217 rfl (lv_at hl 2 rfl) ?_
        obtain ⟨c13_, h⟩ := pq_g h
        refine lv_if_eq (tgt := 707) hx hb dL_law_218 (by decide) (fun cc_ => absurd cc_ c13_) (fun _ => ?_)
        refine lv_aload_n hx hb dL_law_221 rfl (lv_at hl 0 rfl) ?_
        refine lv_iconst (v := 1) hx hb dL_law_222 (by decide) ?_
        refine lv_iload hx hb dL_law_223 (lv_at hl 3 rfl) ?_
        refine lv_iadd hx hb dL_law_225 ?_
        obtain ⟨hg, h⟩ := pq_g h
        refine pw_zcell (rest := []) hF (kL_cell l D b L xs hL _ (1 + x4_210) hg) (cwS 2 hts (pw_gSt (own := RL) (idx := 59) (y := yL_cell) aw_432 aw_433 aw_0 aw_434) rfl rfl rfl pL_cell ⟨Nat.le_of_ble_eq_true rfl, Nat.le_of_ble_eq_true rfl⟩) hK hP hS hA hX hbl hbA rfl hl.1 rfl (Nat.le_of_ble_eq_true rfl) dL_law_226 ⟨Nat.le_of_ble_eq_true rfl, Nat.le_of_ble_eq_true rfl⟩ (fun H locs hP hS => ?_)
        refine lv_istore (lv' := [(5, .int (pw_cellV L xs (1 + x4_210))), (0, .ref b), (1, .ref (qa 0 0)), (3, .int x3_210), (4, .int x4_210)]) hx hb dL_law_229 hl (by decide) rfl (fun ls hl => ?_)
        refine lv_iload hx hb dL_law_231 (lv_at hl 0 rfl) ?_
        refine lv_iconst (v := 4) hx hb dL_law_233 (by decide) ?_
        refine lv_ishr hx hb dL_law_234 ?_
        refine lv_bipush (v := 8) hx hb dL_law_235 (by decide) ?_
        obtain ⟨r31, hr31, h⟩ := pq_b h
        refine pw_si (rest := []) (As := [.int ((pw_cellV L xs (1 + x4_210)) >>> ((4 : Int32) &&& 31)), .int 8]) hF (kL_low l D cy _ ((pw_cellV L xs (1 + x4_210)) >>> ((4 : Int32) &&& 31)) 8 r31 hr31) (cwS 2 hts (pw_gSt (own := RL) (idx := 63) (y := yL_low) aw_437 aw_438 aw_0 aw_439) rfl rfl rfl pL_low ⟨Nat.le_of_ble_eq_true rfl, Nat.le_of_ble_eq_true rfl⟩) hK hP hS hA rfl hl.1 rfl (Nat.le_of_ble_eq_true rfl) dL_law_237 ⟨Nat.le_of_ble_eq_true rfl, Nat.le_of_ble_eq_true rfl⟩ (fun H locs hP hS => ?_)
        refine lv_istore (lv' := [(6, .int r31), (5, .int (pw_cellV L xs (1 + x4_210))), (0, .ref b), (1, .ref (qa 0 0)), (3, .int x3_210), (4, .int x4_210)]) hx hb dL_law_240 hl (by decide) rfl (fun ls hl => ?_)
        refine lv_iload hx hb dL_law_242 (lv_at hl 1 rfl) ?_
        refine lv_bipush (v := 14) hx hb dL_law_244 (by decide) ?_
        obtain ⟨r32, hr32, h⟩ := pq_b h
        refine pw_si (rest := []) (As := [.int (pw_cellV L xs (1 + x4_210)), .int 14]) hF (kL_low l D cy _ (pw_cellV L xs (1 + x4_210)) 14 r32 hr32) (cwS 2 hts (pw_gSt (own := RL) (idx := 63) (y := yL_low) aw_437 aw_438 aw_0 aw_439) rfl rfl rfl pL_low ⟨Nat.le_of_ble_eq_true rfl, Nat.le_of_ble_eq_true rfl⟩) hK hP hS hA rfl hl.1 rfl (Nat.le_of_ble_eq_true rfl) dL_law_246 ⟨Nat.le_of_ble_eq_true rfl, Nat.le_of_ble_eq_true rfl⟩ (fun H locs hP hS => ?_)
        refine lv_istore (lv' := [(7, .int r32), (6, .int r31), (5, .int (pw_cellV L xs (1 + x4_210))), (0, .ref b), (1, .ref (qa 0 0)), (3, .int x3_210), (4, .int x4_210)]) hx hb dL_law_249 hl (by decide) rfl (fun ls hl => ?_)
        refine lv_iload hx hb dL_law_251 (lv_at hl 0 rfl) ?_
        refine lv_iconst (v := 5) hx hb dL_law_253 (by decide) ?_
        obtain ⟨v33, hv33, h⟩ := pq_b h
        have J684_v33 : ∀ (H : Heap) (locs : List Loc) (ls : Array Slot), va_P D vwCl (W3 cy qa v33.2.1 v33.2.2.1 v33.2.2.2.1 v33.2.2.2.2.1 v33.2.2.2.2.2.1 v33.2.2.2.2.2.2.1 v33.2.2.2.2.2.2.2.1 v33.2.2.2.2.2.2.2.2 cd ln) H → va_D A (W3 cy qa v33.2.1 v33.2.2.1 v33.2.2.2.1 v33.2.2.2.2.1 v33.2.2.2.2.2.1 v33.2.2.2.2.2.2.1 v33.2.2.2.2.2.2.2.1 v33.2.2.2.2.2.2.2.2 cd ln) → va_S A s.heap H locs → lv_has ls 12 [(0, .ref b), (1, .ref (qa 0 0)), (3, .int v33.1), (4, .int x4_210)] → W p l e room_1 s m args below meth c H locs 200 3000 Q (F0 m 684 ls []) := by
          intro H locs ls hP hD hS hl
          refine lv_iload_n hx hb dL_law_684 rfl (lv_at hl 2 rfl) ?_
          obtain ⟨c61_, h⟩ := pq_g h
          refine lv_if_eq (tgt := 699) hx hb dL_law_685 (by decide) (fun cc_ => absurd cc_ c61_) (fun _ => ?_)
          refine lv_aload_n hx hb dL_law_688 rfl (lv_at hl 1 rfl) ?_
          obtain ⟨r121, hr121, h⟩ := pq_b h
          refine pw_zsi (w1 := W3 cy qa v33.2.1 v33.2.2.1 v33.2.2.2.1 v33.2.2.2.2.1 v33.2.2.2.2.2.1 v33.2.2.2.2.2.2.1 v33.2.2.2.2.2.2.2.1 v33.2.2.2.2.2.2.2.2 cd ln) (rest := []) (As := [.ref (qa 0 0)]) hF (kL_addUp l D cy qa _ v33.2.1 v33.2.2.1 v33.2.2.2.1 v33.2.2.2.2.1 v33.2.2.2.2.2.1 v33.2.2.2.2.2.2.1 v33.2.2.2.2.2.2.2.1 v33.2.2.2.2.2.2.2.2 cd ln  r121 hr121) (cwS 1 hts (pw_gSt (own := RL) (idx := 53) (y := yL_addUp) aw_441 aw_442 aw_0 aw_443) rfl rfl rfl pL_addUp ⟨Nat.le_of_ble_eq_true rfl, Nat.le_of_ble_eq_true rfl⟩) hK hP hD hS hA rfl rfl hl.1 rfl (Nat.le_of_ble_eq_true rfl) dL_law_689 ⟨Nat.le_of_ble_eq_true rfl, Nat.le_of_ble_eq_true rfl⟩ (fun H locs hP hD hS => ?_)
          obtain ⟨c62_, h⟩ := pq_g h
          refine lv_if_eq (tgt := 699) hx hb dL_law_692 (by decide) (fun cc_ => absurd cc_ c62_) (fun _ => ?_)
          refine lv_iconst (v := 1) hx hb dL_law_695 (by decide) ?_
          refine lv_goto (tgt := 700) hx hb dL_law_696 (by decide) ?_
          refine lv_istore_n (lv' := [(3, .int 1), (0, .ref b), (1, .ref (qa 0 0)), (4, .int x4_210)]) hx hb dL_law_700 rfl hl (by decide) rfl (fun ls hl => ?_)
          refine lv_iinc (v := x4_210 + 1) (lv' := [(4, .int (x4_210 + 1)), (3, .int 1), (0, .ref b), (1, .ref (qa 0 0))]) hx hb dL_law_701 hl (k := 3) rfl (by first | rfl | decide) (by decide) rfl (fun ls hl => ?_)
          refine lv_goto (tgt := 210) hx hb dL_law_704 (by decide) ?_
          exact ih210 (1) (x4_210 + 1) v33.2.1 v33.2.2.1 v33.2.2.2.1 v33.2.2.2.2.1 v33.2.2.2.2.2.1 v33.2.2.2.2.2.2.1 v33.2.2.2.2.2.2.2.1 v33.2.2.2.2.2.2.2.2 _ _ _ h hP hD hS (lv_sub hl [2, 3, 1, 0] rfl)
        clear h
        have h := hv33
        clear hv33
        refine lv_icmp_ge (tgt := 267) hx hb dL_law_254 (by decide) (fun c14_ => ?_) (fun c14_ => ?_)
        · have h := pq_t c14_ h
          refine lv_iload hx hb dL_law_267 (lv_at hl 0 rfl) ?_
          refine lv_bipush (v := 8) hx hb dL_law_269 (by decide) ?_
          refine lv_icmp_ge (tgt := 284) hx hb dL_law_271 (by decide) (fun c15_ => ?_) (fun c15_ => ?_)
          · have h := pq_t c15_ h
            refine lv_iload hx hb dL_law_284 (lv_at hl 0 rfl) ?_
            refine lv_bipush (v := 8) hx hb dL_law_286 (by decide) ?_
            refine lv_icmp_ne (tgt := 422) hx hb dL_law_288 (by decide) (fun c16_ => ?_) (fun c16_ => ?_)
            · have h := pq_e c16_ h
              refine lv_iload hx hb dL_law_422 (lv_at hl 0 rfl) ?_
              refine lv_bipush (v := 9) hx hb dL_law_424 (by decide) ?_
              refine lv_icmp_ne (tgt := 470) hx hb dL_law_426 (by decide) (fun c17_ => ?_) (fun c17_ => ?_)
              · have h := pq_e c17_ h
                refine lv_iload hx hb dL_law_470 (lv_at hl 0 rfl) ?_
                refine lv_bipush (v := 10) hx hb dL_law_472 (by decide) ?_
                refine lv_icmp_ne (tgt := 563) hx hb dL_law_474 (by decide) (fun c18_ => ?_) (fun c18_ => ?_)
                · have h := pq_e c18_ h
                  refine lv_iload hx hb dL_law_563 (lv_at hl 0 rfl) ?_
                  refine lv_bipush (v := 11) hx hb dL_law_565 (by decide) ?_
                  refine lv_icmp_ne (tgt := 643) hx hb dL_law_567 (by decide) (fun c19_ => ?_) (fun c19_ => ?_)
                  · have h := pq_e c19_ h
                    refine lv_iload hx hb dL_law_643 (lv_at hl 0 rfl) ?_
                    refine lv_bipush (v := 11) hx hb dL_law_645 (by decide) ?_
                    refine lv_icmp_le (tgt := 684) hx hb dL_law_647 (by decide) (fun c20_ => ?_) (fun c20_ => ?_)
                    · have h := pq_t c20_ h
                      obtain rfl := Option.some.inj h
                      exact J684_v33 _ _ _ hP hD hS (lv_sub hl [3, 4, 5, 6] rfl)
                    · have h := pq_e c20_ h
                      refine lv_aload_n hx hb dL_law_650 rfl (lv_at hl 4 rfl) ?_
                      refine lv_iconst (v := 1) hx hb dL_law_651 (by decide) ?_
                      refine lv_iload hx hb dL_law_652 (lv_at hl 2 rfl) ?_
                      refine lv_bipush (v := 7) hx hb dL_law_654 (by decide) ?_
                      refine lv_ishr hx hb dL_law_656 ?_
                      refine lv_bipush (v := 6) hx hb dL_law_657 (by decide) ?_
                      obtain ⟨r34, hr34, h⟩ := pq_b h
                      refine pw_si (rest := [.int 1, .ref (qa 0 0)]) (As := [.int ((pw_cellV L xs (1 + x4_210)) >>> ((7 : Int32) &&& 31)), .int 6]) hF (kL_low l D cy _ ((pw_cellV L xs (1 + x4_210)) >>> ((7 : Int32) &&& 31)) 6 r34 hr34) (cwS 2 hts (pw_gSt (own := RL) (idx := 63) (y := yL_low) aw_437 aw_438 aw_0 aw_439) rfl rfl rfl pL_low ⟨Nat.le_of_ble_eq_true rfl, Nat.le_of_ble_eq_true rfl⟩) hK hP hS hA rfl hl.1 rfl (Nat.le_of_ble_eq_true rfl) dL_law_659 ⟨Nat.le_of_ble_eq_true rfl, Nat.le_of_ble_eq_true rfl⟩ (fun H locs hP hS => ?_)
                      refine lv_iadd hx hb dL_law_662 ?_
                      refine lv_iload hx hb dL_law_663 (lv_at hl 1 rfl) ?_
                      obtain ⟨r35, hr35, h⟩ := pq_b h
                      refine pw_zsi (w1 := W3 cy qa r35.2.1 r35.2.2.1 r35.2.2.2.1 r35.2.2.2.2.1 r35.2.2.2.2.2.1 ak_210 r35.2.2.2.2.2.2.1 r35.2.2.2.2.2.2.2 cd ln) (rest := []) (As := [.ref (qa 0 0), .int (1 + r34), .int r31]) hF (kL_pass l D cy qa _ P_210 T_210 S_210 nw_210 hz_210 ak_210 pa_210 wt_210 cd ln (1 + r34) r31 r35 hr35) (cwS 3 hts (pw_gSt (own := RL) (idx := 87) (y := yL_pass) aw_501 aw_502 aw_0 aw_503) rfl rfl rfl pL_pass ⟨Nat.le_of_ble_eq_true rfl, Nat.le_of_ble_eq_true rfl⟩) hK hP hD hS hA rfl rfl hl.1 rfl (Nat.le_of_ble_eq_true rfl) dL_law_665 ⟨Nat.le_of_ble_eq_true rfl, Nat.le_of_ble_eq_true rfl⟩ (fun H locs hP hD hS => ?_)
                      obtain ⟨c21_, h⟩ := pq_g h
                      refine lv_if_eq (tgt := 682) hx hb dL_law_668 (by decide) (fun cc_ => absurd cc_ c21_) (fun _ => ?_)
                      refine lv_aload_n hx hb dL_law_671 rfl (lv_at hl 4 rfl) ?_
                      obtain ⟨r36, hr36, h⟩ := pq_b h
                      refine pw_zsi (w1 := W3 cy qa r35.2.1 r35.2.2.1 r35.2.2.2.1 r35.2.2.2.2.1 r35.2.2.2.2.2.1 ak_210 r35.2.2.2.2.2.2.1 r35.2.2.2.2.2.2.2 cd ln) (rest := []) (As := [.ref (qa 0 0)]) hF (kL_holds l D cy qa _ r35.2.1 r35.2.2.1 r35.2.2.2.1 r35.2.2.2.2.1 r35.2.2.2.2.2.1 ak_210 r35.2.2.2.2.2.2.1 r35.2.2.2.2.2.2.2 cd ln  r36 hr36) (cwS 1 hts (pw_gSt (own := RL) (idx := 90) (y := yL_holds) aw_549 aw_550 aw_0 aw_551) rfl rfl rfl pL_holds ⟨Nat.le_of_ble_eq_true rfl, Nat.le_of_ble_eq_true rfl⟩) hK hP hD hS hA rfl rfl hl.1 rfl (Nat.le_of_ble_eq_true rfl) dL_law_672 ⟨Nat.le_of_ble_eq_true rfl, Nat.le_of_ble_eq_true rfl⟩ (fun H locs hP hD hS => ?_)
                      obtain ⟨c22_, h⟩ := pq_g h
                      refine lv_if_eq (tgt := 682) hx hb dL_law_675 (by decide) (fun cc_ => absurd cc_ c22_) (fun _ => ?_)
                      refine lv_iconst (v := 1) hx hb dL_law_678 (by decide) ?_
                      refine lv_goto (tgt := 683) hx hb dL_law_679 (by decide) ?_
                      refine lv_istore_n (lv' := [(3, .int 1), (7, .int r32), (6, .int r31), (5, .int (pw_cellV L xs (1 + x4_210))), (0, .ref b), (1, .ref (qa 0 0)), (4, .int x4_210)]) hx hb dL_law_683 rfl hl (by decide) rfl (fun ls hl => ?_)
                      obtain rfl := Option.some.inj h
                      exact J684_v33 _ _ _ hP hD hS (lv_sub hl [4, 5, 0, 6] rfl)
                  · have h := pq_t c19_ h
                    refine lv_aload_n hx hb dL_law_570 rfl (lv_at hl 4 rfl) ?_
                    refine lv_iload hx hb dL_law_571 (lv_at hl 1 rfl) ?_
                    refine lv_iconst (v := 2) hx hb dL_law_573 (by decide) ?_
                    obtain ⟨r37, hr37, h⟩ := pq_b h
                    obtain ⟨a38, e9_, h9_⟩ := pq_inn h
                    clear h
                    have h := h9_
                    clear h9_
                    subst e9_
                    refine pw_ci (w1 := W3 cy qa P_210 T_210 S_210 nw_210 hz_210 ak_210 pa_210 wt_210 cd ln) (rest := []) (As := [.int r31, .int 2]) hF (kX3_owner l D cy qa _ P_210 T_210 S_210 nw_210 hz_210 ak_210 pa_210 wt_210 cd ln r31 2 a38 hr37) (cwV 2 hts (pw_gVt (own := RL) (idx := 23) (C := RX3) (y := yX3_owner) aw_410 aw_411 aw_412 aw_1 aw_413) rfl rfl rfl pX3_owner ⟨Nat.le_of_ble_eq_true rfl, Nat.le_of_ble_eq_true rfl⟩) (va_recv hK hP (ci := 3) (q0 := 0) rfl rfl) hK hP hD hS hA rfl rfl hl.1 rfl (Nat.le_of_ble_eq_true rfl) dL_law_574 ⟨Nat.le_of_ble_eq_true rfl, Nat.le_of_ble_eq_true rfl⟩ (fun H locs hP hD hS => ?_)
                    refine lv_if_lt (tgt := 643) hx hb dL_law_577 (by decide) (fun c23_ => ?_) (fun c23_ => ?_)
                    · have h := pq_t c23_ h
                      refine lv_iload hx hb dL_law_643 (lv_at hl 0 rfl) ?_
                      refine lv_bipush (v := 11) hx hb dL_law_645 (by decide) ?_
                      refine lv_icmp_le (tgt := 684) hx hb dL_law_647 (by decide) (fun c24_ => ?_) (fun c24_ => ?_)
                      · have h := pq_t c24_ h
                        obtain rfl := Option.some.inj h
                        exact J684_v33 _ _ _ hP hD hS (lv_sub hl [3, 4, 5, 6] rfl)
                      · have h := pq_e c24_ h
                        refine lv_aload_n hx hb dL_law_650 rfl (lv_at hl 4 rfl) ?_
                        refine lv_iconst (v := 1) hx hb dL_law_651 (by decide) ?_
                        refine lv_iload hx hb dL_law_652 (lv_at hl 2 rfl) ?_
                        refine lv_bipush (v := 7) hx hb dL_law_654 (by decide) ?_
                        refine lv_ishr hx hb dL_law_656 ?_
                        refine lv_bipush (v := 6) hx hb dL_law_657 (by decide) ?_
                        obtain ⟨r39, hr39, h⟩ := pq_b h
                        refine pw_si (rest := [.int 1, .ref (qa 0 0)]) (As := [.int ((pw_cellV L xs (1 + x4_210)) >>> ((7 : Int32) &&& 31)), .int 6]) hF (kL_low l D cy _ ((pw_cellV L xs (1 + x4_210)) >>> ((7 : Int32) &&& 31)) 6 r39 hr39) (cwS 2 hts (pw_gSt (own := RL) (idx := 63) (y := yL_low) aw_437 aw_438 aw_0 aw_439) rfl rfl rfl pL_low ⟨Nat.le_of_ble_eq_true rfl, Nat.le_of_ble_eq_true rfl⟩) hK hP hS hA rfl hl.1 rfl (Nat.le_of_ble_eq_true rfl) dL_law_659 ⟨Nat.le_of_ble_eq_true rfl, Nat.le_of_ble_eq_true rfl⟩ (fun H locs hP hS => ?_)
                        refine lv_iadd hx hb dL_law_662 ?_
                        refine lv_iload hx hb dL_law_663 (lv_at hl 1 rfl) ?_
                        obtain ⟨r40, hr40, h⟩ := pq_b h
                        refine pw_zsi (w1 := W3 cy qa r40.2.1 r40.2.2.1 r40.2.2.2.1 r40.2.2.2.2.1 r40.2.2.2.2.2.1 ak_210 r40.2.2.2.2.2.2.1 r40.2.2.2.2.2.2.2 cd ln) (rest := []) (As := [.ref (qa 0 0), .int (1 + r39), .int r31]) hF (kL_pass l D cy qa _ P_210 T_210 S_210 nw_210 hz_210 ak_210 pa_210 wt_210 cd ln (1 + r39) r31 r40 hr40) (cwS 3 hts (pw_gSt (own := RL) (idx := 87) (y := yL_pass) aw_501 aw_502 aw_0 aw_503) rfl rfl rfl pL_pass ⟨Nat.le_of_ble_eq_true rfl, Nat.le_of_ble_eq_true rfl⟩) hK hP hD hS hA rfl rfl hl.1 rfl (Nat.le_of_ble_eq_true rfl) dL_law_665 ⟨Nat.le_of_ble_eq_true rfl, Nat.le_of_ble_eq_true rfl⟩ (fun H locs hP hD hS => ?_)
                        obtain ⟨c25_, h⟩ := pq_g h
                        refine lv_if_eq (tgt := 682) hx hb dL_law_668 (by decide) (fun cc_ => absurd cc_ c25_) (fun _ => ?_)
                        refine lv_aload_n hx hb dL_law_671 rfl (lv_at hl 4 rfl) ?_
                        obtain ⟨r41, hr41, h⟩ := pq_b h
                        refine pw_zsi (w1 := W3 cy qa r40.2.1 r40.2.2.1 r40.2.2.2.1 r40.2.2.2.2.1 r40.2.2.2.2.2.1 ak_210 r40.2.2.2.2.2.2.1 r40.2.2.2.2.2.2.2 cd ln) (rest := []) (As := [.ref (qa 0 0)]) hF (kL_holds l D cy qa _ r40.2.1 r40.2.2.1 r40.2.2.2.1 r40.2.2.2.2.1 r40.2.2.2.2.2.1 ak_210 r40.2.2.2.2.2.2.1 r40.2.2.2.2.2.2.2 cd ln  r41 hr41) (cwS 1 hts (pw_gSt (own := RL) (idx := 90) (y := yL_holds) aw_549 aw_550 aw_0 aw_551) rfl rfl rfl pL_holds ⟨Nat.le_of_ble_eq_true rfl, Nat.le_of_ble_eq_true rfl⟩) hK hP hD hS hA rfl rfl hl.1 rfl (Nat.le_of_ble_eq_true rfl) dL_law_672 ⟨Nat.le_of_ble_eq_true rfl, Nat.le_of_ble_eq_true rfl⟩ (fun H locs hP hD hS => ?_)
                        obtain ⟨c26_, h⟩ := pq_g h
                        refine lv_if_eq (tgt := 682) hx hb dL_law_675 (by decide) (fun cc_ => absurd cc_ c26_) (fun _ => ?_)
                        refine lv_iconst (v := 1) hx hb dL_law_678 (by decide) ?_
                        refine lv_goto (tgt := 683) hx hb dL_law_679 (by decide) ?_
                        refine lv_istore_n (lv' := [(3, .int 1), (7, .int r32), (6, .int r31), (5, .int (pw_cellV L xs (1 + x4_210))), (0, .ref b), (1, .ref (qa 0 0)), (4, .int x4_210)]) hx hb dL_law_683 rfl hl (by decide) rfl (fun ls hl => ?_)
                        obtain rfl := Option.some.inj h
                        exact J684_v33 _ _ _ hP hD hS (lv_sub hl [4, 5, 0, 6] rfl)
                    · have h := pq_e c23_ h
                      refine lv_aload_n hx hb dL_law_580 rfl (lv_at hl 4 rfl) ?_
                      refine lv_iload hx hb dL_law_581 (lv_at hl 1 rfl) ?_
                      refine lv_iconst (v := 3) hx hb dL_law_583 (by decide) ?_
                      obtain ⟨r42, hr42, h⟩ := pq_b h
                      obtain ⟨a43, e9_, h9_⟩ := pq_inn h
                      clear h
                      have h := h9_
                      clear h9_
                      subst e9_
                      refine pw_ci (w1 := W3 cy qa P_210 T_210 S_210 nw_210 hz_210 ak_210 pa_210 wt_210 cd ln) (rest := []) (As := [.int r31, .int 3]) hF (kX3_owner l D cy qa _ P_210 T_210 S_210 nw_210 hz_210 ak_210 pa_210 wt_210 cd ln r31 3 a43 hr42) (cwV 2 hts (pw_gVt (own := RL) (idx := 23) (C := RX3) (y := yX3_owner) aw_410 aw_411 aw_412 aw_1 aw_413) rfl rfl rfl pX3_owner ⟨Nat.le_of_ble_eq_true rfl, Nat.le_of_ble_eq_true rfl⟩) (va_recv hK hP (ci := 3) (q0 := 0) rfl rfl) hK hP hD hS hA rfl rfl hl.1 rfl (Nat.le_of_ble_eq_true rfl) dL_law_584 ⟨Nat.le_of_ble_eq_true rfl, Nat.le_of_ble_eq_true rfl⟩ (fun H locs hP hD hS => ?_)
                      refine lv_istore (lv' := [(8, .int a43), (7, .int r32), (6, .int r31), (5, .int (pw_cellV L xs (1 + x4_210))), (0, .ref b), (1, .ref (qa 0 0)), (3, .int x3_210), (4, .int x4_210)]) hx hb dL_law_587 hl (by decide) rfl (fun ls hl => ?_)
                      refine lv_aload_n hx hb dL_law_589 rfl (lv_at hl 5 rfl) ?_
                      refine lv_iload hx hb dL_law_590 (lv_at hl 2 rfl) ?_
                      refine lv_iconst (v := 5) hx hb dL_law_592 (by decide) ?_
                      obtain ⟨r44, hr44, h⟩ := pq_b h
                      obtain ⟨a45, e9_, h9_⟩ := pq_inn h
                      clear h
                      have h := h9_
                      clear h9_
                      subst e9_
                      refine pw_ci (w1 := W3 cy qa P_210 T_210 S_210 nw_210 hz_210 ak_210 pa_210 wt_210 cd ln) (rest := []) (As := [.int r31, .int 5]) hF (kX3_owner l D cy qa _ P_210 T_210 S_210 nw_210 hz_210 ak_210 pa_210 wt_210 cd ln r31 5 a45 hr44) (cwV 2 hts (pw_gVt (own := RL) (idx := 23) (C := RX3) (y := yX3_owner) aw_410 aw_411 aw_412 aw_1 aw_413) rfl rfl rfl pX3_owner ⟨Nat.le_of_ble_eq_true rfl, Nat.le_of_ble_eq_true rfl⟩) (va_recv hK hP (ci := 3) (q0 := 0) rfl rfl) hK hP hD hS hA rfl rfl hl.1 rfl (Nat.le_of_ble_eq_true rfl) dL_law_593 ⟨Nat.le_of_ble_eq_true rfl, Nat.le_of_ble_eq_true rfl⟩ (fun H locs hP hD hS => ?_)
                      refine lv_istore (lv' := [(9, .int a45), (8, .int a43), (7, .int r32), (6, .int r31), (5, .int (pw_cellV L xs (1 + x4_210))), (0, .ref b), (1, .ref (qa 0 0)), (3, .int x3_210), (4, .int x4_210)]) hx hb dL_law_596 hl (by decide) rfl (fun ls hl => ?_)
                      refine lv_aload_n hx hb dL_law_598 rfl (lv_at hl 6 rfl) ?_
                      refine lv_iload hx hb dL_law_599 (lv_at hl 3 rfl) ?_
                      obtain ⟨r46, hr46, h⟩ := pq_b h
                      obtain ⟨a47, e9_, h9_⟩ := pq_inn h
                      clear h
                      have h := h9_
                      clear h9_
                      subst e9_
                      refine pw_ci (w1 := W3 cy qa a47.2.1 T_210 a47.2.2.1 a47.2.2.2.1 a47.2.2.2.2 ak_210 pa_210 wt_210 cd ln) (rest := []) (As := [.int r31]) hF (kX3_giveUp l D cy qa _ P_210 T_210 S_210 nw_210 hz_210 ak_210 pa_210 wt_210 cd ln r31 a47 hr46) (cwV 1 hts (pw_gVt (own := RL) (idx := 84) (C := RX3) (y := yX3_giveUp) aw_142 aw_143 aw_144 aw_1 aw_145) rfl rfl rfl pX3_giveUp ⟨Nat.le_of_ble_eq_true rfl, Nat.le_of_ble_eq_true rfl⟩) (va_recv hK hP (ci := 3) (q0 := 0) rfl rfl) hK hP hD hS hA rfl rfl hl.1 rfl (Nat.le_of_ble_eq_true rfl) dL_law_601 ⟨Nat.le_of_ble_eq_true rfl, Nat.le_of_ble_eq_true rfl⟩ (fun H locs hP hD hS => ?_)
                      refine lv_iload hx hb dL_law_604 (lv_at hl 1 rfl) ?_
                      obtain ⟨c27_, h⟩ := pq_g h
                      refine lv_icmp_ne (tgt := 638) hx hb dL_law_606 (by decide) (fun cc_ => absurd c27_ cc_) (fun _ => ?_)
                      refine lv_aload_n hx hb dL_law_609 rfl (lv_at hl 6 rfl) ?_
                      refine lv_iload hx hb dL_law_610 (lv_at hl 3 rfl) ?_
                      refine lv_iconst (v := 5) hx hb dL_law_612 (by decide) ?_
                      obtain ⟨r48, hr48, h⟩ := pq_b h
                      obtain ⟨a49, e9_, h9_⟩ := pq_inn h
                      clear h
                      have h := h9_
                      clear h9_
                      subst e9_
                      refine pw_ci (w1 := W3 cy qa a47.2.1 T_210 a47.2.2.1 a47.2.2.2.1 a47.2.2.2.2 ak_210 pa_210 wt_210 cd ln) (rest := []) (As := [.int r31, .int 5]) hF (kX3_owner l D cy qa _ a47.2.1 T_210 a47.2.2.1 a47.2.2.2.1 a47.2.2.2.2 ak_210 pa_210 wt_210 cd ln r31 5 a49 hr48) (cwV 2 hts (pw_gVt (own := RL) (idx := 23) (C := RX3) (y := yX3_owner) aw_410 aw_411 aw_412 aw_1 aw_413) rfl rfl rfl pX3_owner ⟨Nat.le_of_ble_eq_true rfl, Nat.le_of_ble_eq_true rfl⟩) (va_recv hK hP (ci := 3) (q0 := 0) rfl rfl) hK hP hD hS hA rfl rfl hl.1 rfl (Nat.le_of_ble_eq_true rfl) dL_law_613 ⟨Nat.le_of_ble_eq_true rfl, Nat.le_of_ble_eq_true rfl⟩ (fun H locs hP hD hS => ?_)
                      refine lv_iload hx hb dL_law_616 (lv_at hl 0 rfl) ?_
                      refine lv_iconst (v := 1) hx hb dL_law_618 (by decide) ?_
                      refine lv_iadd hx hb dL_law_619 ?_
                      obtain ⟨c28_, h⟩ := pq_g h
                      refine lv_icmp_ne (tgt := 638) hx hb dL_law_620 (by decide) (fun cc_ => absurd c28_ cc_) (fun _ => ?_)
                      refine lv_aload_n hx hb dL_law_623 rfl (lv_at hl 6 rfl) ?_
                      refine lv_iload hx hb dL_law_624 (lv_at hl 3 rfl) ?_
                      refine lv_iconst (v := 2) hx hb dL_law_626 (by decide) ?_
                      obtain ⟨r50, hr50, h⟩ := pq_b h
                      obtain ⟨a51, e9_, h9_⟩ := pq_inn h
                      clear h
                      have h := h9_
                      clear h9_
                      subst e9_
                      refine pw_ci (w1 := W3 cy qa a47.2.1 T_210 a47.2.2.1 a47.2.2.2.1 a47.2.2.2.2 ak_210 pa_210 wt_210 cd ln) (rest := []) (As := [.int r31, .int 2]) hF (kX3_owner l D cy qa _ a47.2.1 T_210 a47.2.2.1 a47.2.2.2.1 a47.2.2.2.2 ak_210 pa_210 wt_210 cd ln r31 2 a51 hr50) (cwV 2 hts (pw_gVt (own := RL) (idx := 23) (C := RX3) (y := yX3_owner) aw_410 aw_411 aw_412 aw_1 aw_413) rfl rfl rfl pX3_owner ⟨Nat.le_of_ble_eq_true rfl, Nat.le_of_ble_eq_true rfl⟩) (va_recv hK hP (ci := 3) (q0 := 0) rfl rfl) hK hP hD hS hA rfl rfl hl.1 rfl (Nat.le_of_ble_eq_true rfl) dL_law_627 ⟨Nat.le_of_ble_eq_true rfl, Nat.le_of_ble_eq_true rfl⟩ (fun H locs hP hD hS => ?_)
                      refine lv_iconst (v := (-1)) hx hb dL_law_630 (by decide) ?_
                      obtain ⟨c29_, h⟩ := pq_g h
                      refine lv_icmp_ne (tgt := 638) hx hb dL_law_631 (by decide) (fun cc_ => absurd c29_ cc_) (fun _ => ?_)
                      refine lv_iconst (v := 1) hx hb dL_law_634 (by decide) ?_
                      refine lv_goto (tgt := 639) hx hb dL_law_635 (by decide) ?_
                      refine lv_istore_n (lv' := [(3, .int 1), (9, .int a45), (8, .int a43), (7, .int r32), (6, .int r31), (5, .int (pw_cellV L xs (1 + x4_210))), (0, .ref b), (1, .ref (qa 0 0)), (4, .int x4_210)]) hx hb dL_law_639 rfl hl (by decide) rfl (fun ls hl => ?_)
                      refine lv_goto (tgt := 684) hx hb dL_law_640 (by decide) ?_
                      obtain rfl := Option.some.inj h
                      exact J684_v33 _ _ _ hP hD hS (lv_sub hl [6, 7, 0, 8] rfl)
                · have h := pq_t c18_ h
                  refine lv_iconst (v := 0) hx hb dL_law_477 (by decide) ?_
                  refine lv_istore (lv' := [(8, .int 0), (7, .int r32), (6, .int r31), (5, .int (pw_cellV L xs (1 + x4_210))), (0, .ref b), (1, .ref (qa 0 0)), (3, .int x3_210), (4, .int x4_210)]) hx hb dL_law_478 hl (by decide) rfl (fun ls hl => ?_)
                  refine lv_iconst (v := 0) hx hb dL_law_480 (by decide) ?_
                  refine lv_istore (lv' := [(9, .int 0), (8, .int 0), (7, .int r32), (6, .int r31), (5, .int (pw_cellV L xs (1 + x4_210))), (0, .ref b), (1, .ref (qa 0 0)), (3, .int x3_210), (4, .int x4_210)]) hx hb dL_law_481 hl (by decide) rfl (fun ls hl => ?_)
                  obtain ⟨v53, hv53, h⟩ := pq_b h
                  have X523_v53 : ∀ (H : Heap) (locs : List Loc) (ls : Array Slot), va_P D vwCl (W3 cy qa P_210 T_210 S_210 nw_210 hz_210 ak_210 pa_210 wt_210 cd ln) H → va_D A (W3 cy qa P_210 T_210 S_210 nw_210 hz_210 ak_210 pa_210 wt_210 cd ln) → va_S A s.heap H locs → lv_has ls 12 [(0, .ref b), (1, .ref (qa 0 0)), (4, .int x4_210), (8, .int v53)] → W p l e room_1 s m args below meth c H locs 200 3000 Q (F0 m 523 ls []) := by
                    intro H locs ls hP hD hS hl
                    refine lv_aload_n hx hb dL_law_523 rfl (lv_at hl 1 rfl) ?_
                    refine lv_bipush (v := 8) hx hb dL_law_524 (by decide) ?_
                    obtain ⟨r58, hr58, h⟩ := pq_b h
                    obtain ⟨a59, e9_, h9_⟩ := pq_inn h
                    clear h
                    have h := h9_
                    clear h9_
                    subst e9_
                    refine pw_ci (w1 := W3 cy qa P_210 T_210 S_210 nw_210 hz_210 ak_210 pa_210 wt_210 cd ln) (rest := []) (As := [.int 8]) hF (kX3_count l D cy qa _ P_210 T_210 S_210 nw_210 hz_210 ak_210 pa_210 wt_210 cd ln 8 a59 hr58) (cwV 1 hts (pw_gVt (own := RL) (idx := 16) (C := RX3) (y := yX3_count) aw_420 aw_421 aw_422 aw_1 aw_423) rfl rfl rfl pX3_count ⟨Nat.le_of_ble_eq_true rfl, Nat.le_of_ble_eq_true rfl⟩) (va_recv hK hP (ci := 3) (q0 := 0) rfl rfl) hK hP hD hS hA rfl rfl hl.1 rfl (Nat.le_of_ble_eq_true rfl) dL_law_526 ⟨Nat.le_of_ble_eq_true rfl, Nat.le_of_ble_eq_true rfl⟩ (fun H locs hP hD hS => ?_)
                    refine lv_istore (lv' := [(9, .int a59), (0, .ref b), (1, .ref (qa 0 0)), (4, .int x4_210), (8, .int v53)]) hx hb dL_law_529 hl (by decide) rfl (fun ls hl => ?_)
                    refine lv_aload_n hx hb dL_law_531 rfl (lv_at hl 2 rfl) ?_
                    obtain ⟨r60, hr60, h⟩ := pq_b h
                    refine pw_ci (w1 := W3 cy qa r60.2.1 T_210 r60.2.2.1 r60.2.2.2.1 r60.2.2.2.2 ak_210 pa_210 wt_210 cd ln) (rest := []) (As := []) hF (kX3_check l D cy qa _ P_210 T_210 S_210 nw_210 hz_210 ak_210 pa_210 wt_210 cd ln  r60 hr60) (cwV 0 hts (pw_gVt (own := RL) (idx := 81) (C := RX3) (y := yX3_check) aw_345 aw_346 aw_347 aw_1 aw_348) rfl rfl rfl pX3_check ⟨Nat.le_of_ble_eq_true rfl, Nat.le_of_ble_eq_true rfl⟩) (va_recv hK hP (ci := 3) (q0 := 0) rfl rfl) hK hP hD hS hA rfl rfl hl.1 rfl (Nat.le_of_ble_eq_true rfl) dL_law_532 ⟨Nat.le_of_ble_eq_true rfl, Nat.le_of_ble_eq_true rfl⟩ (fun H locs hP hD hS => ?_)
                    refine lv_iload hx hb dL_law_535 (lv_at hl 4 rfl) ?_
                    obtain ⟨c32_, h⟩ := pq_g h
                    refine lv_icmp_ne (tgt := 558) hx hb dL_law_537 (by decide) (fun cc_ => absurd c32_ cc_) (fun _ => ?_)
                    refine lv_aload_n hx hb dL_law_540 rfl (lv_at hl 2 rfl) ?_
                    refine lv_bipush (v := 8) hx hb dL_law_541 (by decide) ?_
                    obtain ⟨r61, hr61, h⟩ := pq_b h
                    obtain ⟨a62, e9_, h9_⟩ := pq_inn h
                    clear h
                    have h := h9_
                    clear h9_
                    subst e9_
                    refine pw_ci (w1 := W3 cy qa r60.2.1 T_210 r60.2.2.1 r60.2.2.2.1 r60.2.2.2.2 ak_210 pa_210 wt_210 cd ln) (rest := []) (As := [.int 8]) hF (kX3_count l D cy qa _ r60.2.1 T_210 r60.2.2.1 r60.2.2.2.1 r60.2.2.2.2 ak_210 pa_210 wt_210 cd ln 8 a62 hr61) (cwV 1 hts (pw_gVt (own := RL) (idx := 16) (C := RX3) (y := yX3_count) aw_420 aw_421 aw_422 aw_1 aw_423) rfl rfl rfl pX3_count ⟨Nat.le_of_ble_eq_true rfl, Nat.le_of_ble_eq_true rfl⟩) (va_recv hK hP (ci := 3) (q0 := 0) rfl rfl) hK hP hD hS hA rfl rfl hl.1 rfl (Nat.le_of_ble_eq_true rfl) dL_law_543 ⟨Nat.le_of_ble_eq_true rfl, Nat.le_of_ble_eq_true rfl⟩ (fun H locs hP hD hS => ?_)
                    refine lv_iload hx hb dL_law_546 (lv_at hl 0 rfl) ?_
                    refine lv_iload hx hb dL_law_548 (lv_at hl 4 rfl) ?_
                    refine lv_iadd hx hb dL_law_550 ?_
                    obtain ⟨c33_, h⟩ := pq_g h
                    refine lv_icmp_ne (tgt := 558) hx hb dL_law_551 (by decide) (fun cc_ => absurd c33_ cc_) (fun _ => ?_)
                    refine lv_iconst (v := 1) hx hb dL_law_554 (by decide) ?_
                    refine lv_goto (tgt := 559) hx hb dL_law_555 (by decide) ?_
                    refine lv_istore_n (lv' := [(3, .int 1), (9, .int a59), (0, .ref b), (1, .ref (qa 0 0)), (4, .int x4_210), (8, .int v53)]) hx hb dL_law_559 rfl hl (by decide) rfl (fun ls hl => ?_)
                    refine lv_goto (tgt := 684) hx hb dL_law_560 (by decide) ?_
                    obtain rfl := Option.some.inj h
                    exact J684_v33 _ _ _ hP hD hS (lv_sub hl [2, 3, 0, 4] rfl)
                  clear h
                  have L483_n52 : ∀ (n : Nat) (x8_483 : Int32) (x9_483 : Int32) (H : Heap) (locs : List Loc) (ls : Array Slot), fL_law_L483 P_210 n x8_483 x9_483 = some v53 → va_P D vwCl (W3 cy qa P_210 T_210 S_210 nw_210 hz_210 ak_210 pa_210 wt_210 cd ln) H → va_D A (W3 cy qa P_210 T_210 S_210 nw_210 hz_210 ak_210 pa_210 wt_210 cd ln) → va_S A s.heap H locs → lv_has ls 12 [(0, .ref b), (1, .ref (qa 0 0)), (4, .int x4_210), (8, .int x8_483), (9, .int x9_483)] → W p l e room_1 s m args below meth c H locs 200 3000 Q (F0 m 483 ls []) := by
                    intro n
                    induction n with
                    | zero =>
                      intro x8_483 x9_483 H locs ls h hP hD hS hl
                      exact pq_n h
                    | succ n ih483 =>
                      intro x8_483 x9_483 H locs ls h hP hD hS hl
                      rw [fL_law_L483] at h
                      refine lv_iload hx hb dL_law_483 (lv_at hl 4 rfl) ?_
                      refine lv_bipush (v := 8) hx hb dL_law_485 (by decide) ?_
                      refine lv_icmp_ge (tgt := 523) hx hb dL_law_487 (by decide) (fun c30_ => ?_) (fun c30_ => ?_)
                      · have h := pq_t c30_ h
                        obtain rfl := Option.some.inj h
                        exact X523_v53 _ _ _ hP hD hS (lv_sub hl [0, 1, 2, 3] rfl)
                      · have h := pq_e c30_ h
                        refine lv_iload hx hb dL_law_490 (lv_at hl 3 rfl) ?_
                        refine lv_aload_n hx hb dL_law_492 rfl (lv_at hl 1 rfl) ?_
                        refine lv_iload hx hb dL_law_493 (lv_at hl 4 rfl) ?_
                        refine lv_iconst (v := 0) hx hb dL_law_495 (by decide) ?_
                        obtain ⟨r54, hr54, h⟩ := pq_b h
                        obtain ⟨a55, e9_, h9_⟩ := pq_inn h
                        clear h
                        have h := h9_
                        clear h9_
                        subst e9_
                        refine pw_ci (w1 := W3 cy qa P_210 T_210 S_210 nw_210 hz_210 ak_210 pa_210 wt_210 cd ln) (rest := [.int x8_483]) (As := [.int x9_483, .int 0]) hF (kX3_place l D cy qa _ P_210 T_210 S_210 nw_210 hz_210 ak_210 pa_210 wt_210 cd ln x9_483 0 a55 hr54) (cwV 2 hts (pw_gVt (own := RL) (idx := 10) (C := RX3) (y := yX3_place) aw_394 aw_395 aw_396 aw_1 aw_397) rfl rfl rfl pX3_place ⟨Nat.le_of_ble_eq_true rfl, Nat.le_of_ble_eq_true rfl⟩) (va_recv hK hP (ci := 3) (q0 := 0) rfl rfl) hK hP hD hS hA rfl rfl hl.1 rfl (Nat.le_of_ble_eq_true rfl) dL_law_496 ⟨Nat.le_of_ble_eq_true rfl, Nat.le_of_ble_eq_true rfl⟩ (fun H locs hP hD hS => ?_)
                        refine lv_iconst (v := 1) hx hb dL_law_499 (by decide) ?_
                        refine lv_icmp_ne (tgt := 513) hx hb dL_law_500 (by decide) (fun c31_ => ?_) (fun c31_ => ?_)
                        · have h := pq_e c31_ h
                          refine lv_iconst (v := 0) hx hb dL_law_513 (by decide) ?_
                          refine lv_iadd hx hb dL_law_514 ?_
                          refine lv_istore (lv' := [(8, .int (x8_483 + 0)), (0, .ref b), (1, .ref (qa 0 0)), (4, .int x4_210), (9, .int x9_483)]) hx hb dL_law_515 hl (by decide) rfl (fun ls hl => ?_)
                          refine lv_iinc (v := x9_483 + 1) (lv' := [(9, .int (x9_483 + 1)), (8, .int (x8_483 + 0)), (0, .ref b), (1, .ref (qa 0 0)), (4, .int x4_210)]) hx hb dL_law_517 hl (k := 4) rfl (by first | rfl | decide) (by decide) rfl (fun ls hl => ?_)
                          refine lv_goto (tgt := 483) hx hb dL_law_520 (by decide) ?_
                          exact ih483 (x8_483 + 0) (x9_483 + 1) _ _ _ h hP hD hS (lv_sub hl [2, 3, 4, 1, 0] rfl)
                        · have h := pq_t c31_ h
                          refine lv_aload_n hx hb dL_law_503 rfl (lv_at hl 1 rfl) ?_
                          refine lv_iload hx hb dL_law_504 (lv_at hl 4 rfl) ?_
                          refine lv_iconst (v := 2) hx hb dL_law_506 (by decide) ?_
                          obtain ⟨r56, hr56, h⟩ := pq_b h
                          obtain ⟨a57, e9_, h9_⟩ := pq_inn h
                          clear h
                          have h := h9_
                          clear h9_
                          subst e9_
                          refine pw_ci (w1 := W3 cy qa P_210 T_210 S_210 nw_210 hz_210 ak_210 pa_210 wt_210 cd ln) (rest := [.int x8_483]) (As := [.int x9_483, .int 2]) hF (kX3_place l D cy qa _ P_210 T_210 S_210 nw_210 hz_210 ak_210 pa_210 wt_210 cd ln x9_483 2 a57 hr56) (cwV 2 hts (pw_gVt (own := RL) (idx := 10) (C := RX3) (y := yX3_place) aw_394 aw_395 aw_396 aw_1 aw_397) rfl rfl rfl pX3_place ⟨Nat.le_of_ble_eq_true rfl, Nat.le_of_ble_eq_true rfl⟩) (va_recv hK hP (ci := 3) (q0 := 0) rfl rfl) hK hP hD hS hA rfl rfl hl.1 rfl (Nat.le_of_ble_eq_true rfl) dL_law_507 ⟨Nat.le_of_ble_eq_true rfl, Nat.le_of_ble_eq_true rfl⟩ (fun H locs hP hD hS => ?_)
                          refine lv_goto (tgt := 514) hx hb dL_law_510 (by decide) ?_
                          refine lv_iadd hx hb dL_law_514 ?_
                          refine lv_istore (lv' := [(8, .int (x8_483 + a57)), (0, .ref b), (1, .ref (qa 0 0)), (4, .int x4_210), (9, .int x9_483)]) hx hb dL_law_515 hl (by decide) rfl (fun ls hl => ?_)
                          refine lv_iinc (v := x9_483 + 1) (lv' := [(9, .int (x9_483 + 1)), (8, .int (x8_483 + a57)), (0, .ref b), (1, .ref (qa 0 0)), (4, .int x4_210)]) hx hb dL_law_517 hl (k := 4) rfl (by first | rfl | decide) (by decide) rfl (fun ls hl => ?_)
                          refine lv_goto (tgt := 483) hx hb dL_law_520 (by decide) ?_
                          exact ih483 (x8_483 + a57) (x9_483 + 1) _ _ _ h hP hD hS (lv_sub hl [2, 3, 4, 1, 0] rfl)
                  have h := hv53
                  exact L483_n52 1000 0 0 _ _ _ h hP hD hS (lv_sub hl [5, 6, 8, 1, 0] rfl)
              · have h := pq_t c17_ h
                refine lv_aload_n hx hb dL_law_429 rfl (lv_at hl 4 rfl) ?_
                refine lv_iload hx hb dL_law_430 (lv_at hl 1 rfl) ?_
                refine lv_iconst (v := 0) hx hb dL_law_432 (by decide) ?_
                obtain ⟨r63, hr63, h⟩ := pq_b h
                obtain ⟨a64, e9_, h9_⟩ := pq_inn h
                clear h
                have h := h9_
                clear h9_
                subst e9_
                refine pw_ci (w1 := W3 cy qa P_210 T_210 S_210 nw_210 hz_210 ak_210 pa_210 wt_210 cd ln) (rest := []) (As := [.int r31, .int 0]) hF (kX3_place l D cy qa _ P_210 T_210 S_210 nw_210 hz_210 ak_210 pa_210 wt_210 cd ln r31 0 a64 hr63) (cwV 2 hts (pw_gVt (own := RL) (idx := 10) (C := RX3) (y := yX3_place) aw_394 aw_395 aw_396 aw_1 aw_397) rfl rfl rfl pX3_place ⟨Nat.le_of_ble_eq_true rfl, Nat.le_of_ble_eq_true rfl⟩) (va_recv hK hP (ci := 3) (q0 := 0) rfl rfl) hK hP hD hS hA rfl rfl hl.1 rfl (Nat.le_of_ble_eq_true rfl) dL_law_433 ⟨Nat.le_of_ble_eq_true rfl, Nat.le_of_ble_eq_true rfl⟩ (fun H locs hP hD hS => ?_)
                refine lv_if_le (tgt := 470) hx hb dL_law_436 (by decide) (fun c34_ => ?_) (fun c34_ => ?_)
                · have h := pq_t c34_ h
                  refine lv_iload hx hb dL_law_470 (lv_at hl 0 rfl) ?_
                  refine lv_bipush (v := 10) hx hb dL_law_472 (by decide) ?_
                  refine lv_icmp_ne (tgt := 563) hx hb dL_law_474 (by decide) (fun c35_ => ?_) (fun c35_ => ?_)
                  · have h := pq_e c35_ h
                    refine lv_iload hx hb dL_law_563 (lv_at hl 0 rfl) ?_
                    refine lv_bipush (v := 11) hx hb dL_law_565 (by decide) ?_
                    refine lv_icmp_ne (tgt := 643) hx hb dL_law_567 (by decide) (fun c36_ => ?_) (fun c36_ => ?_)
                    · have h := pq_e c36_ h
                      refine lv_iload hx hb dL_law_643 (lv_at hl 0 rfl) ?_
                      refine lv_bipush (v := 11) hx hb dL_law_645 (by decide) ?_
                      refine lv_icmp_le (tgt := 684) hx hb dL_law_647 (by decide) (fun c37_ => ?_) (fun c37_ => ?_)
                      · have h := pq_t c37_ h
                        obtain rfl := Option.some.inj h
                        exact J684_v33 _ _ _ hP hD hS (lv_sub hl [3, 4, 5, 6] rfl)
                      · have h := pq_e c37_ h
                        refine lv_aload_n hx hb dL_law_650 rfl (lv_at hl 4 rfl) ?_
                        refine lv_iconst (v := 1) hx hb dL_law_651 (by decide) ?_
                        refine lv_iload hx hb dL_law_652 (lv_at hl 2 rfl) ?_
                        refine lv_bipush (v := 7) hx hb dL_law_654 (by decide) ?_
                        refine lv_ishr hx hb dL_law_656 ?_
                        refine lv_bipush (v := 6) hx hb dL_law_657 (by decide) ?_
                        obtain ⟨r65, hr65, h⟩ := pq_b h
                        refine pw_si (rest := [.int 1, .ref (qa 0 0)]) (As := [.int ((pw_cellV L xs (1 + x4_210)) >>> ((7 : Int32) &&& 31)), .int 6]) hF (kL_low l D cy _ ((pw_cellV L xs (1 + x4_210)) >>> ((7 : Int32) &&& 31)) 6 r65 hr65) (cwS 2 hts (pw_gSt (own := RL) (idx := 63) (y := yL_low) aw_437 aw_438 aw_0 aw_439) rfl rfl rfl pL_low ⟨Nat.le_of_ble_eq_true rfl, Nat.le_of_ble_eq_true rfl⟩) hK hP hS hA rfl hl.1 rfl (Nat.le_of_ble_eq_true rfl) dL_law_659 ⟨Nat.le_of_ble_eq_true rfl, Nat.le_of_ble_eq_true rfl⟩ (fun H locs hP hS => ?_)
                        refine lv_iadd hx hb dL_law_662 ?_
                        refine lv_iload hx hb dL_law_663 (lv_at hl 1 rfl) ?_
                        obtain ⟨r66, hr66, h⟩ := pq_b h
                        refine pw_zsi (w1 := W3 cy qa r66.2.1 r66.2.2.1 r66.2.2.2.1 r66.2.2.2.2.1 r66.2.2.2.2.2.1 ak_210 r66.2.2.2.2.2.2.1 r66.2.2.2.2.2.2.2 cd ln) (rest := []) (As := [.ref (qa 0 0), .int (1 + r65), .int r31]) hF (kL_pass l D cy qa _ P_210 T_210 S_210 nw_210 hz_210 ak_210 pa_210 wt_210 cd ln (1 + r65) r31 r66 hr66) (cwS 3 hts (pw_gSt (own := RL) (idx := 87) (y := yL_pass) aw_501 aw_502 aw_0 aw_503) rfl rfl rfl pL_pass ⟨Nat.le_of_ble_eq_true rfl, Nat.le_of_ble_eq_true rfl⟩) hK hP hD hS hA rfl rfl hl.1 rfl (Nat.le_of_ble_eq_true rfl) dL_law_665 ⟨Nat.le_of_ble_eq_true rfl, Nat.le_of_ble_eq_true rfl⟩ (fun H locs hP hD hS => ?_)
                        obtain ⟨c38_, h⟩ := pq_g h
                        refine lv_if_eq (tgt := 682) hx hb dL_law_668 (by decide) (fun cc_ => absurd cc_ c38_) (fun _ => ?_)
                        refine lv_aload_n hx hb dL_law_671 rfl (lv_at hl 4 rfl) ?_
                        obtain ⟨r67, hr67, h⟩ := pq_b h
                        refine pw_zsi (w1 := W3 cy qa r66.2.1 r66.2.2.1 r66.2.2.2.1 r66.2.2.2.2.1 r66.2.2.2.2.2.1 ak_210 r66.2.2.2.2.2.2.1 r66.2.2.2.2.2.2.2 cd ln) (rest := []) (As := [.ref (qa 0 0)]) hF (kL_holds l D cy qa _ r66.2.1 r66.2.2.1 r66.2.2.2.1 r66.2.2.2.2.1 r66.2.2.2.2.2.1 ak_210 r66.2.2.2.2.2.2.1 r66.2.2.2.2.2.2.2 cd ln  r67 hr67) (cwS 1 hts (pw_gSt (own := RL) (idx := 90) (y := yL_holds) aw_549 aw_550 aw_0 aw_551) rfl rfl rfl pL_holds ⟨Nat.le_of_ble_eq_true rfl, Nat.le_of_ble_eq_true rfl⟩) hK hP hD hS hA rfl rfl hl.1 rfl (Nat.le_of_ble_eq_true rfl) dL_law_672 ⟨Nat.le_of_ble_eq_true rfl, Nat.le_of_ble_eq_true rfl⟩ (fun H locs hP hD hS => ?_)
                        obtain ⟨c39_, h⟩ := pq_g h
                        refine lv_if_eq (tgt := 682) hx hb dL_law_675 (by decide) (fun cc_ => absurd cc_ c39_) (fun _ => ?_)
                        refine lv_iconst (v := 1) hx hb dL_law_678 (by decide) ?_
                        refine lv_goto (tgt := 683) hx hb dL_law_679 (by decide) ?_
                        refine lv_istore_n (lv' := [(3, .int 1), (7, .int r32), (6, .int r31), (5, .int (pw_cellV L xs (1 + x4_210))), (0, .ref b), (1, .ref (qa 0 0)), (4, .int x4_210)]) hx hb dL_law_683 rfl hl (by decide) rfl (fun ls hl => ?_)
                        obtain rfl := Option.some.inj h
                        exact J684_v33 _ _ _ hP hD hS (lv_sub hl [4, 5, 0, 6] rfl)
                    · have h := pq_t c36_ h
                      refine lv_aload_n hx hb dL_law_570 rfl (lv_at hl 4 rfl) ?_
                      refine lv_iload hx hb dL_law_571 (lv_at hl 1 rfl) ?_
                      refine lv_iconst (v := 2) hx hb dL_law_573 (by decide) ?_
                      obtain ⟨r68, hr68, h⟩ := pq_b h
                      obtain ⟨a69, e9_, h9_⟩ := pq_inn h
                      clear h
                      have h := h9_
                      clear h9_
                      subst e9_
                      refine pw_ci (w1 := W3 cy qa P_210 T_210 S_210 nw_210 hz_210 ak_210 pa_210 wt_210 cd ln) (rest := []) (As := [.int r31, .int 2]) hF (kX3_owner l D cy qa _ P_210 T_210 S_210 nw_210 hz_210 ak_210 pa_210 wt_210 cd ln r31 2 a69 hr68) (cwV 2 hts (pw_gVt (own := RL) (idx := 23) (C := RX3) (y := yX3_owner) aw_410 aw_411 aw_412 aw_1 aw_413) rfl rfl rfl pX3_owner ⟨Nat.le_of_ble_eq_true rfl, Nat.le_of_ble_eq_true rfl⟩) (va_recv hK hP (ci := 3) (q0 := 0) rfl rfl) hK hP hD hS hA rfl rfl hl.1 rfl (Nat.le_of_ble_eq_true rfl) dL_law_574 ⟨Nat.le_of_ble_eq_true rfl, Nat.le_of_ble_eq_true rfl⟩ (fun H locs hP hD hS => ?_)
                      refine lv_if_lt (tgt := 643) hx hb dL_law_577 (by decide) (fun c40_ => ?_) (fun c40_ => ?_)
                      · have h := pq_t c40_ h
                        refine lv_iload hx hb dL_law_643 (lv_at hl 0 rfl) ?_
                        refine lv_bipush (v := 11) hx hb dL_law_645 (by decide) ?_
                        refine lv_icmp_le (tgt := 684) hx hb dL_law_647 (by decide) (fun c41_ => ?_) (fun c41_ => ?_)
                        · have h := pq_t c41_ h
                          obtain rfl := Option.some.inj h
                          exact J684_v33 _ _ _ hP hD hS (lv_sub hl [3, 4, 5, 6] rfl)
                        · have h := pq_e c41_ h
                          refine lv_aload_n hx hb dL_law_650 rfl (lv_at hl 4 rfl) ?_
                          refine lv_iconst (v := 1) hx hb dL_law_651 (by decide) ?_
                          refine lv_iload hx hb dL_law_652 (lv_at hl 2 rfl) ?_
                          refine lv_bipush (v := 7) hx hb dL_law_654 (by decide) ?_
                          refine lv_ishr hx hb dL_law_656 ?_
                          refine lv_bipush (v := 6) hx hb dL_law_657 (by decide) ?_
                          obtain ⟨r70, hr70, h⟩ := pq_b h
                          refine pw_si (rest := [.int 1, .ref (qa 0 0)]) (As := [.int ((pw_cellV L xs (1 + x4_210)) >>> ((7 : Int32) &&& 31)), .int 6]) hF (kL_low l D cy _ ((pw_cellV L xs (1 + x4_210)) >>> ((7 : Int32) &&& 31)) 6 r70 hr70) (cwS 2 hts (pw_gSt (own := RL) (idx := 63) (y := yL_low) aw_437 aw_438 aw_0 aw_439) rfl rfl rfl pL_low ⟨Nat.le_of_ble_eq_true rfl, Nat.le_of_ble_eq_true rfl⟩) hK hP hS hA rfl hl.1 rfl (Nat.le_of_ble_eq_true rfl) dL_law_659 ⟨Nat.le_of_ble_eq_true rfl, Nat.le_of_ble_eq_true rfl⟩ (fun H locs hP hS => ?_)
                          refine lv_iadd hx hb dL_law_662 ?_
                          refine lv_iload hx hb dL_law_663 (lv_at hl 1 rfl) ?_
                          obtain ⟨r71, hr71, h⟩ := pq_b h
                          refine pw_zsi (w1 := W3 cy qa r71.2.1 r71.2.2.1 r71.2.2.2.1 r71.2.2.2.2.1 r71.2.2.2.2.2.1 ak_210 r71.2.2.2.2.2.2.1 r71.2.2.2.2.2.2.2 cd ln) (rest := []) (As := [.ref (qa 0 0), .int (1 + r70), .int r31]) hF (kL_pass l D cy qa _ P_210 T_210 S_210 nw_210 hz_210 ak_210 pa_210 wt_210 cd ln (1 + r70) r31 r71 hr71) (cwS 3 hts (pw_gSt (own := RL) (idx := 87) (y := yL_pass) aw_501 aw_502 aw_0 aw_503) rfl rfl rfl pL_pass ⟨Nat.le_of_ble_eq_true rfl, Nat.le_of_ble_eq_true rfl⟩) hK hP hD hS hA rfl rfl hl.1 rfl (Nat.le_of_ble_eq_true rfl) dL_law_665 ⟨Nat.le_of_ble_eq_true rfl, Nat.le_of_ble_eq_true rfl⟩ (fun H locs hP hD hS => ?_)
                          obtain ⟨c42_, h⟩ := pq_g h
                          refine lv_if_eq (tgt := 682) hx hb dL_law_668 (by decide) (fun cc_ => absurd cc_ c42_) (fun _ => ?_)
                          refine lv_aload_n hx hb dL_law_671 rfl (lv_at hl 4 rfl) ?_
                          obtain ⟨r72, hr72, h⟩ := pq_b h
                          refine pw_zsi (w1 := W3 cy qa r71.2.1 r71.2.2.1 r71.2.2.2.1 r71.2.2.2.2.1 r71.2.2.2.2.2.1 ak_210 r71.2.2.2.2.2.2.1 r71.2.2.2.2.2.2.2 cd ln) (rest := []) (As := [.ref (qa 0 0)]) hF (kL_holds l D cy qa _ r71.2.1 r71.2.2.1 r71.2.2.2.1 r71.2.2.2.2.1 r71.2.2.2.2.2.1 ak_210 r71.2.2.2.2.2.2.1 r71.2.2.2.2.2.2.2 cd ln  r72 hr72) (cwS 1 hts (pw_gSt (own := RL) (idx := 90) (y := yL_holds) aw_549 aw_550 aw_0 aw_551) rfl rfl rfl pL_holds ⟨Nat.le_of_ble_eq_true rfl, Nat.le_of_ble_eq_true rfl⟩) hK hP hD hS hA rfl rfl hl.1 rfl (Nat.le_of_ble_eq_true rfl) dL_law_672 ⟨Nat.le_of_ble_eq_true rfl, Nat.le_of_ble_eq_true rfl⟩ (fun H locs hP hD hS => ?_)
                          obtain ⟨c43_, h⟩ := pq_g h
                          refine lv_if_eq (tgt := 682) hx hb dL_law_675 (by decide) (fun cc_ => absurd cc_ c43_) (fun _ => ?_)
                          refine lv_iconst (v := 1) hx hb dL_law_678 (by decide) ?_
                          refine lv_goto (tgt := 683) hx hb dL_law_679 (by decide) ?_
                          refine lv_istore_n (lv' := [(3, .int 1), (7, .int r32), (6, .int r31), (5, .int (pw_cellV L xs (1 + x4_210))), (0, .ref b), (1, .ref (qa 0 0)), (4, .int x4_210)]) hx hb dL_law_683 rfl hl (by decide) rfl (fun ls hl => ?_)
                          obtain rfl := Option.some.inj h
                          exact J684_v33 _ _ _ hP hD hS (lv_sub hl [4, 5, 0, 6] rfl)
                      · have h := pq_e c40_ h
                        refine lv_aload_n hx hb dL_law_580 rfl (lv_at hl 4 rfl) ?_
                        refine lv_iload hx hb dL_law_581 (lv_at hl 1 rfl) ?_
                        refine lv_iconst (v := 3) hx hb dL_law_583 (by decide) ?_
                        obtain ⟨r73, hr73, h⟩ := pq_b h
                        obtain ⟨a74, e9_, h9_⟩ := pq_inn h
                        clear h
                        have h := h9_
                        clear h9_
                        subst e9_
                        refine pw_ci (w1 := W3 cy qa P_210 T_210 S_210 nw_210 hz_210 ak_210 pa_210 wt_210 cd ln) (rest := []) (As := [.int r31, .int 3]) hF (kX3_owner l D cy qa _ P_210 T_210 S_210 nw_210 hz_210 ak_210 pa_210 wt_210 cd ln r31 3 a74 hr73) (cwV 2 hts (pw_gVt (own := RL) (idx := 23) (C := RX3) (y := yX3_owner) aw_410 aw_411 aw_412 aw_1 aw_413) rfl rfl rfl pX3_owner ⟨Nat.le_of_ble_eq_true rfl, Nat.le_of_ble_eq_true rfl⟩) (va_recv hK hP (ci := 3) (q0 := 0) rfl rfl) hK hP hD hS hA rfl rfl hl.1 rfl (Nat.le_of_ble_eq_true rfl) dL_law_584 ⟨Nat.le_of_ble_eq_true rfl, Nat.le_of_ble_eq_true rfl⟩ (fun H locs hP hD hS => ?_)
                        refine lv_istore (lv' := [(8, .int a74), (7, .int r32), (6, .int r31), (5, .int (pw_cellV L xs (1 + x4_210))), (0, .ref b), (1, .ref (qa 0 0)), (3, .int x3_210), (4, .int x4_210)]) hx hb dL_law_587 hl (by decide) rfl (fun ls hl => ?_)
                        refine lv_aload_n hx hb dL_law_589 rfl (lv_at hl 5 rfl) ?_
                        refine lv_iload hx hb dL_law_590 (lv_at hl 2 rfl) ?_
                        refine lv_iconst (v := 5) hx hb dL_law_592 (by decide) ?_
                        obtain ⟨r75, hr75, h⟩ := pq_b h
                        obtain ⟨a76, e9_, h9_⟩ := pq_inn h
                        clear h
                        have h := h9_
                        clear h9_
                        subst e9_
                        refine pw_ci (w1 := W3 cy qa P_210 T_210 S_210 nw_210 hz_210 ak_210 pa_210 wt_210 cd ln) (rest := []) (As := [.int r31, .int 5]) hF (kX3_owner l D cy qa _ P_210 T_210 S_210 nw_210 hz_210 ak_210 pa_210 wt_210 cd ln r31 5 a76 hr75) (cwV 2 hts (pw_gVt (own := RL) (idx := 23) (C := RX3) (y := yX3_owner) aw_410 aw_411 aw_412 aw_1 aw_413) rfl rfl rfl pX3_owner ⟨Nat.le_of_ble_eq_true rfl, Nat.le_of_ble_eq_true rfl⟩) (va_recv hK hP (ci := 3) (q0 := 0) rfl rfl) hK hP hD hS hA rfl rfl hl.1 rfl (Nat.le_of_ble_eq_true rfl) dL_law_593 ⟨Nat.le_of_ble_eq_true rfl, Nat.le_of_ble_eq_true rfl⟩ (fun H locs hP hD hS => ?_)
                        refine lv_istore (lv' := [(9, .int a76), (8, .int a74), (7, .int r32), (6, .int r31), (5, .int (pw_cellV L xs (1 + x4_210))), (0, .ref b), (1, .ref (qa 0 0)), (3, .int x3_210), (4, .int x4_210)]) hx hb dL_law_596 hl (by decide) rfl (fun ls hl => ?_)
                        refine lv_aload_n hx hb dL_law_598 rfl (lv_at hl 6 rfl) ?_
                        refine lv_iload hx hb dL_law_599 (lv_at hl 3 rfl) ?_
                        obtain ⟨r77, hr77, h⟩ := pq_b h
                        obtain ⟨a78, e9_, h9_⟩ := pq_inn h
                        clear h
                        have h := h9_
                        clear h9_
                        subst e9_
                        refine pw_ci (w1 := W3 cy qa a78.2.1 T_210 a78.2.2.1 a78.2.2.2.1 a78.2.2.2.2 ak_210 pa_210 wt_210 cd ln) (rest := []) (As := [.int r31]) hF (kX3_giveUp l D cy qa _ P_210 T_210 S_210 nw_210 hz_210 ak_210 pa_210 wt_210 cd ln r31 a78 hr77) (cwV 1 hts (pw_gVt (own := RL) (idx := 84) (C := RX3) (y := yX3_giveUp) aw_142 aw_143 aw_144 aw_1 aw_145) rfl rfl rfl pX3_giveUp ⟨Nat.le_of_ble_eq_true rfl, Nat.le_of_ble_eq_true rfl⟩) (va_recv hK hP (ci := 3) (q0 := 0) rfl rfl) hK hP hD hS hA rfl rfl hl.1 rfl (Nat.le_of_ble_eq_true rfl) dL_law_601 ⟨Nat.le_of_ble_eq_true rfl, Nat.le_of_ble_eq_true rfl⟩ (fun H locs hP hD hS => ?_)
                        refine lv_iload hx hb dL_law_604 (lv_at hl 1 rfl) ?_
                        obtain ⟨c44_, h⟩ := pq_g h
                        refine lv_icmp_ne (tgt := 638) hx hb dL_law_606 (by decide) (fun cc_ => absurd c44_ cc_) (fun _ => ?_)
                        refine lv_aload_n hx hb dL_law_609 rfl (lv_at hl 6 rfl) ?_
                        refine lv_iload hx hb dL_law_610 (lv_at hl 3 rfl) ?_
                        refine lv_iconst (v := 5) hx hb dL_law_612 (by decide) ?_
                        obtain ⟨r79, hr79, h⟩ := pq_b h
                        obtain ⟨a80, e9_, h9_⟩ := pq_inn h
                        clear h
                        have h := h9_
                        clear h9_
                        subst e9_
                        refine pw_ci (w1 := W3 cy qa a78.2.1 T_210 a78.2.2.1 a78.2.2.2.1 a78.2.2.2.2 ak_210 pa_210 wt_210 cd ln) (rest := []) (As := [.int r31, .int 5]) hF (kX3_owner l D cy qa _ a78.2.1 T_210 a78.2.2.1 a78.2.2.2.1 a78.2.2.2.2 ak_210 pa_210 wt_210 cd ln r31 5 a80 hr79) (cwV 2 hts (pw_gVt (own := RL) (idx := 23) (C := RX3) (y := yX3_owner) aw_410 aw_411 aw_412 aw_1 aw_413) rfl rfl rfl pX3_owner ⟨Nat.le_of_ble_eq_true rfl, Nat.le_of_ble_eq_true rfl⟩) (va_recv hK hP (ci := 3) (q0 := 0) rfl rfl) hK hP hD hS hA rfl rfl hl.1 rfl (Nat.le_of_ble_eq_true rfl) dL_law_613 ⟨Nat.le_of_ble_eq_true rfl, Nat.le_of_ble_eq_true rfl⟩ (fun H locs hP hD hS => ?_)
                        refine lv_iload hx hb dL_law_616 (lv_at hl 0 rfl) ?_
                        refine lv_iconst (v := 1) hx hb dL_law_618 (by decide) ?_
                        refine lv_iadd hx hb dL_law_619 ?_
                        obtain ⟨c45_, h⟩ := pq_g h
                        refine lv_icmp_ne (tgt := 638) hx hb dL_law_620 (by decide) (fun cc_ => absurd c45_ cc_) (fun _ => ?_)
                        refine lv_aload_n hx hb dL_law_623 rfl (lv_at hl 6 rfl) ?_
                        refine lv_iload hx hb dL_law_624 (lv_at hl 3 rfl) ?_
                        refine lv_iconst (v := 2) hx hb dL_law_626 (by decide) ?_
                        obtain ⟨r81, hr81, h⟩ := pq_b h
                        obtain ⟨a82, e9_, h9_⟩ := pq_inn h
                        clear h
                        have h := h9_
                        clear h9_
                        subst e9_
                        refine pw_ci (w1 := W3 cy qa a78.2.1 T_210 a78.2.2.1 a78.2.2.2.1 a78.2.2.2.2 ak_210 pa_210 wt_210 cd ln) (rest := []) (As := [.int r31, .int 2]) hF (kX3_owner l D cy qa _ a78.2.1 T_210 a78.2.2.1 a78.2.2.2.1 a78.2.2.2.2 ak_210 pa_210 wt_210 cd ln r31 2 a82 hr81) (cwV 2 hts (pw_gVt (own := RL) (idx := 23) (C := RX3) (y := yX3_owner) aw_410 aw_411 aw_412 aw_1 aw_413) rfl rfl rfl pX3_owner ⟨Nat.le_of_ble_eq_true rfl, Nat.le_of_ble_eq_true rfl⟩) (va_recv hK hP (ci := 3) (q0 := 0) rfl rfl) hK hP hD hS hA rfl rfl hl.1 rfl (Nat.le_of_ble_eq_true rfl) dL_law_627 ⟨Nat.le_of_ble_eq_true rfl, Nat.le_of_ble_eq_true rfl⟩ (fun H locs hP hD hS => ?_)
                        refine lv_iconst (v := (-1)) hx hb dL_law_630 (by decide) ?_
                        obtain ⟨c46_, h⟩ := pq_g h
                        refine lv_icmp_ne (tgt := 638) hx hb dL_law_631 (by decide) (fun cc_ => absurd c46_ cc_) (fun _ => ?_)
                        refine lv_iconst (v := 1) hx hb dL_law_634 (by decide) ?_
                        refine lv_goto (tgt := 639) hx hb dL_law_635 (by decide) ?_
                        refine lv_istore_n (lv' := [(3, .int 1), (9, .int a76), (8, .int a74), (7, .int r32), (6, .int r31), (5, .int (pw_cellV L xs (1 + x4_210))), (0, .ref b), (1, .ref (qa 0 0)), (4, .int x4_210)]) hx hb dL_law_639 rfl hl (by decide) rfl (fun ls hl => ?_)
                        refine lv_goto (tgt := 684) hx hb dL_law_640 (by decide) ?_
                        obtain rfl := Option.some.inj h
                        exact J684_v33 _ _ _ hP hD hS (lv_sub hl [6, 7, 0, 8] rfl)
                  · have h := pq_t c35_ h
                    refine lv_iconst (v := 0) hx hb dL_law_477 (by decide) ?_
                    refine lv_istore (lv' := [(8, .int 0), (7, .int r32), (6, .int r31), (5, .int (pw_cellV L xs (1 + x4_210))), (0, .ref b), (1, .ref (qa 0 0)), (3, .int x3_210), (4, .int x4_210)]) hx hb dL_law_478 hl (by decide) rfl (fun ls hl => ?_)
                    refine lv_iconst (v := 0) hx hb dL_law_480 (by decide) ?_
                    refine lv_istore (lv' := [(9, .int 0), (8, .int 0), (7, .int r32), (6, .int r31), (5, .int (pw_cellV L xs (1 + x4_210))), (0, .ref b), (1, .ref (qa 0 0)), (3, .int x3_210), (4, .int x4_210)]) hx hb dL_law_481 hl (by decide) rfl (fun ls hl => ?_)
                    obtain ⟨v84, hv84, h⟩ := pq_b h
                    have X523_v84 : ∀ (H : Heap) (locs : List Loc) (ls : Array Slot), va_P D vwCl (W3 cy qa P_210 T_210 S_210 nw_210 hz_210 ak_210 pa_210 wt_210 cd ln) H → va_D A (W3 cy qa P_210 T_210 S_210 nw_210 hz_210 ak_210 pa_210 wt_210 cd ln) → va_S A s.heap H locs → lv_has ls 12 [(0, .ref b), (1, .ref (qa 0 0)), (4, .int x4_210), (8, .int v84)] → W p l e room_1 s m args below meth c H locs 200 3000 Q (F0 m 523 ls []) := by
                      intro H locs ls hP hD hS hl
                      refine lv_aload_n hx hb dL_law_523 rfl (lv_at hl 1 rfl) ?_
                      refine lv_bipush (v := 8) hx hb dL_law_524 (by decide) ?_
                      obtain ⟨r89, hr89, h⟩ := pq_b h
                      obtain ⟨a90, e9_, h9_⟩ := pq_inn h
                      clear h
                      have h := h9_
                      clear h9_
                      subst e9_
                      refine pw_ci (w1 := W3 cy qa P_210 T_210 S_210 nw_210 hz_210 ak_210 pa_210 wt_210 cd ln) (rest := []) (As := [.int 8]) hF (kX3_count l D cy qa _ P_210 T_210 S_210 nw_210 hz_210 ak_210 pa_210 wt_210 cd ln 8 a90 hr89) (cwV 1 hts (pw_gVt (own := RL) (idx := 16) (C := RX3) (y := yX3_count) aw_420 aw_421 aw_422 aw_1 aw_423) rfl rfl rfl pX3_count ⟨Nat.le_of_ble_eq_true rfl, Nat.le_of_ble_eq_true rfl⟩) (va_recv hK hP (ci := 3) (q0 := 0) rfl rfl) hK hP hD hS hA rfl rfl hl.1 rfl (Nat.le_of_ble_eq_true rfl) dL_law_526 ⟨Nat.le_of_ble_eq_true rfl, Nat.le_of_ble_eq_true rfl⟩ (fun H locs hP hD hS => ?_)
                      refine lv_istore (lv' := [(9, .int a90), (0, .ref b), (1, .ref (qa 0 0)), (4, .int x4_210), (8, .int v84)]) hx hb dL_law_529 hl (by decide) rfl (fun ls hl => ?_)
                      refine lv_aload_n hx hb dL_law_531 rfl (lv_at hl 2 rfl) ?_
                      obtain ⟨r91, hr91, h⟩ := pq_b h
                      refine pw_ci (w1 := W3 cy qa r91.2.1 T_210 r91.2.2.1 r91.2.2.2.1 r91.2.2.2.2 ak_210 pa_210 wt_210 cd ln) (rest := []) (As := []) hF (kX3_check l D cy qa _ P_210 T_210 S_210 nw_210 hz_210 ak_210 pa_210 wt_210 cd ln  r91 hr91) (cwV 0 hts (pw_gVt (own := RL) (idx := 81) (C := RX3) (y := yX3_check) aw_345 aw_346 aw_347 aw_1 aw_348) rfl rfl rfl pX3_check ⟨Nat.le_of_ble_eq_true rfl, Nat.le_of_ble_eq_true rfl⟩) (va_recv hK hP (ci := 3) (q0 := 0) rfl rfl) hK hP hD hS hA rfl rfl hl.1 rfl (Nat.le_of_ble_eq_true rfl) dL_law_532 ⟨Nat.le_of_ble_eq_true rfl, Nat.le_of_ble_eq_true rfl⟩ (fun H locs hP hD hS => ?_)
                      refine lv_iload hx hb dL_law_535 (lv_at hl 4 rfl) ?_
                      obtain ⟨c49_, h⟩ := pq_g h
                      refine lv_icmp_ne (tgt := 558) hx hb dL_law_537 (by decide) (fun cc_ => absurd c49_ cc_) (fun _ => ?_)
                      refine lv_aload_n hx hb dL_law_540 rfl (lv_at hl 2 rfl) ?_
                      refine lv_bipush (v := 8) hx hb dL_law_541 (by decide) ?_
                      obtain ⟨r92, hr92, h⟩ := pq_b h
                      obtain ⟨a93, e9_, h9_⟩ := pq_inn h
                      clear h
                      have h := h9_
                      clear h9_
                      subst e9_
                      refine pw_ci (w1 := W3 cy qa r91.2.1 T_210 r91.2.2.1 r91.2.2.2.1 r91.2.2.2.2 ak_210 pa_210 wt_210 cd ln) (rest := []) (As := [.int 8]) hF (kX3_count l D cy qa _ r91.2.1 T_210 r91.2.2.1 r91.2.2.2.1 r91.2.2.2.2 ak_210 pa_210 wt_210 cd ln 8 a93 hr92) (cwV 1 hts (pw_gVt (own := RL) (idx := 16) (C := RX3) (y := yX3_count) aw_420 aw_421 aw_422 aw_1 aw_423) rfl rfl rfl pX3_count ⟨Nat.le_of_ble_eq_true rfl, Nat.le_of_ble_eq_true rfl⟩) (va_recv hK hP (ci := 3) (q0 := 0) rfl rfl) hK hP hD hS hA rfl rfl hl.1 rfl (Nat.le_of_ble_eq_true rfl) dL_law_543 ⟨Nat.le_of_ble_eq_true rfl, Nat.le_of_ble_eq_true rfl⟩ (fun H locs hP hD hS => ?_)
                      refine lv_iload hx hb dL_law_546 (lv_at hl 0 rfl) ?_
                      refine lv_iload hx hb dL_law_548 (lv_at hl 4 rfl) ?_
                      refine lv_iadd hx hb dL_law_550 ?_
                      obtain ⟨c50_, h⟩ := pq_g h
                      refine lv_icmp_ne (tgt := 558) hx hb dL_law_551 (by decide) (fun cc_ => absurd c50_ cc_) (fun _ => ?_)
                      refine lv_iconst (v := 1) hx hb dL_law_554 (by decide) ?_
                      refine lv_goto (tgt := 559) hx hb dL_law_555 (by decide) ?_
                      refine lv_istore_n (lv' := [(3, .int 1), (9, .int a90), (0, .ref b), (1, .ref (qa 0 0)), (4, .int x4_210), (8, .int v84)]) hx hb dL_law_559 rfl hl (by decide) rfl (fun ls hl => ?_)
                      refine lv_goto (tgt := 684) hx hb dL_law_560 (by decide) ?_
                      obtain rfl := Option.some.inj h
                      exact J684_v33 _ _ _ hP hD hS (lv_sub hl [2, 3, 0, 4] rfl)
                    clear h
                    have L483_n83 : ∀ (n : Nat) (x8_483 : Int32) (x9_483 : Int32) (H : Heap) (locs : List Loc) (ls : Array Slot), fL_law_L483b2 P_210 n x8_483 x9_483 = some v84 → va_P D vwCl (W3 cy qa P_210 T_210 S_210 nw_210 hz_210 ak_210 pa_210 wt_210 cd ln) H → va_D A (W3 cy qa P_210 T_210 S_210 nw_210 hz_210 ak_210 pa_210 wt_210 cd ln) → va_S A s.heap H locs → lv_has ls 12 [(0, .ref b), (1, .ref (qa 0 0)), (4, .int x4_210), (8, .int x8_483), (9, .int x9_483)] → W p l e room_1 s m args below meth c H locs 200 3000 Q (F0 m 483 ls []) := by
                      intro n
                      induction n with
                      | zero =>
                        intro x8_483 x9_483 H locs ls h hP hD hS hl
                        exact pq_n h
                      | succ n ih483 =>
                        intro x8_483 x9_483 H locs ls h hP hD hS hl
                        rw [fL_law_L483b2] at h
                        refine lv_iload hx hb dL_law_483 (lv_at hl 4 rfl) ?_
                        refine lv_bipush (v := 8) hx hb dL_law_485 (by decide) ?_
                        refine lv_icmp_ge (tgt := 523) hx hb dL_law_487 (by decide) (fun c47_ => ?_) (fun c47_ => ?_)
                        · have h := pq_t c47_ h
                          obtain rfl := Option.some.inj h
                          exact X523_v84 _ _ _ hP hD hS (lv_sub hl [0, 1, 2, 3] rfl)
                        · have h := pq_e c47_ h
                          refine lv_iload hx hb dL_law_490 (lv_at hl 3 rfl) ?_
                          refine lv_aload_n hx hb dL_law_492 rfl (lv_at hl 1 rfl) ?_
                          refine lv_iload hx hb dL_law_493 (lv_at hl 4 rfl) ?_
                          refine lv_iconst (v := 0) hx hb dL_law_495 (by decide) ?_
                          obtain ⟨r85, hr85, h⟩ := pq_b h
                          obtain ⟨a86, e9_, h9_⟩ := pq_inn h
                          clear h
                          have h := h9_
                          clear h9_
                          subst e9_
                          refine pw_ci (w1 := W3 cy qa P_210 T_210 S_210 nw_210 hz_210 ak_210 pa_210 wt_210 cd ln) (rest := [.int x8_483]) (As := [.int x9_483, .int 0]) hF (kX3_place l D cy qa _ P_210 T_210 S_210 nw_210 hz_210 ak_210 pa_210 wt_210 cd ln x9_483 0 a86 hr85) (cwV 2 hts (pw_gVt (own := RL) (idx := 10) (C := RX3) (y := yX3_place) aw_394 aw_395 aw_396 aw_1 aw_397) rfl rfl rfl pX3_place ⟨Nat.le_of_ble_eq_true rfl, Nat.le_of_ble_eq_true rfl⟩) (va_recv hK hP (ci := 3) (q0 := 0) rfl rfl) hK hP hD hS hA rfl rfl hl.1 rfl (Nat.le_of_ble_eq_true rfl) dL_law_496 ⟨Nat.le_of_ble_eq_true rfl, Nat.le_of_ble_eq_true rfl⟩ (fun H locs hP hD hS => ?_)
                          refine lv_iconst (v := 1) hx hb dL_law_499 (by decide) ?_
                          refine lv_icmp_ne (tgt := 513) hx hb dL_law_500 (by decide) (fun c48_ => ?_) (fun c48_ => ?_)
                          · have h := pq_e c48_ h
                            refine lv_iconst (v := 0) hx hb dL_law_513 (by decide) ?_
                            refine lv_iadd hx hb dL_law_514 ?_
                            refine lv_istore (lv' := [(8, .int (x8_483 + 0)), (0, .ref b), (1, .ref (qa 0 0)), (4, .int x4_210), (9, .int x9_483)]) hx hb dL_law_515 hl (by decide) rfl (fun ls hl => ?_)
                            refine lv_iinc (v := x9_483 + 1) (lv' := [(9, .int (x9_483 + 1)), (8, .int (x8_483 + 0)), (0, .ref b), (1, .ref (qa 0 0)), (4, .int x4_210)]) hx hb dL_law_517 hl (k := 4) rfl (by first | rfl | decide) (by decide) rfl (fun ls hl => ?_)
                            refine lv_goto (tgt := 483) hx hb dL_law_520 (by decide) ?_
                            exact ih483 (x8_483 + 0) (x9_483 + 1) _ _ _ h hP hD hS (lv_sub hl [2, 3, 4, 1, 0] rfl)
                          · have h := pq_t c48_ h
                            refine lv_aload_n hx hb dL_law_503 rfl (lv_at hl 1 rfl) ?_
                            refine lv_iload hx hb dL_law_504 (lv_at hl 4 rfl) ?_
                            refine lv_iconst (v := 2) hx hb dL_law_506 (by decide) ?_
                            obtain ⟨r87, hr87, h⟩ := pq_b h
                            obtain ⟨a88, e9_, h9_⟩ := pq_inn h
                            clear h
                            have h := h9_
                            clear h9_
                            subst e9_
                            refine pw_ci (w1 := W3 cy qa P_210 T_210 S_210 nw_210 hz_210 ak_210 pa_210 wt_210 cd ln) (rest := [.int x8_483]) (As := [.int x9_483, .int 2]) hF (kX3_place l D cy qa _ P_210 T_210 S_210 nw_210 hz_210 ak_210 pa_210 wt_210 cd ln x9_483 2 a88 hr87) (cwV 2 hts (pw_gVt (own := RL) (idx := 10) (C := RX3) (y := yX3_place) aw_394 aw_395 aw_396 aw_1 aw_397) rfl rfl rfl pX3_place ⟨Nat.le_of_ble_eq_true rfl, Nat.le_of_ble_eq_true rfl⟩) (va_recv hK hP (ci := 3) (q0 := 0) rfl rfl) hK hP hD hS hA rfl rfl hl.1 rfl (Nat.le_of_ble_eq_true rfl) dL_law_507 ⟨Nat.le_of_ble_eq_true rfl, Nat.le_of_ble_eq_true rfl⟩ (fun H locs hP hD hS => ?_)
                            refine lv_goto (tgt := 514) hx hb dL_law_510 (by decide) ?_
                            refine lv_iadd hx hb dL_law_514 ?_
                            refine lv_istore (lv' := [(8, .int (x8_483 + a88)), (0, .ref b), (1, .ref (qa 0 0)), (4, .int x4_210), (9, .int x9_483)]) hx hb dL_law_515 hl (by decide) rfl (fun ls hl => ?_)
                            refine lv_iinc (v := x9_483 + 1) (lv' := [(9, .int (x9_483 + 1)), (8, .int (x8_483 + a88)), (0, .ref b), (1, .ref (qa 0 0)), (4, .int x4_210)]) hx hb dL_law_517 hl (k := 4) rfl (by first | rfl | decide) (by decide) rfl (fun ls hl => ?_)
                            refine lv_goto (tgt := 483) hx hb dL_law_520 (by decide) ?_
                            exact ih483 (x8_483 + a88) (x9_483 + 1) _ _ _ h hP hD hS (lv_sub hl [2, 3, 4, 1, 0] rfl)
                    have h := hv84
                    exact L483_n83 1000 0 0 _ _ _ h hP hD hS (lv_sub hl [5, 6, 8, 1, 0] rfl)
                · have h := pq_e c34_ h
                  refine lv_aload_n hx hb dL_law_439 rfl (lv_at hl 4 rfl) ?_
                  refine lv_iload hx hb dL_law_440 (lv_at hl 1 rfl) ?_
                  refine lv_iconst (v := 2) hx hb dL_law_442 (by decide) ?_
                  obtain ⟨r94, hr94, h⟩ := pq_b h
                  obtain ⟨a95, e9_, h9_⟩ := pq_inn h
                  clear h
                  have h := h9_
                  clear h9_
                  subst e9_
                  refine pw_ci (w1 := W3 cy qa P_210 T_210 S_210 nw_210 hz_210 ak_210 pa_210 wt_210 cd ln) (rest := []) (As := [.int r31, .int 2]) hF (kX3_place l D cy qa _ P_210 T_210 S_210 nw_210 hz_210 ak_210 pa_210 wt_210 cd ln r31 2 a95 hr94) (cwV 2 hts (pw_gVt (own := RL) (idx := 10) (C := RX3) (y := yX3_place) aw_394 aw_395 aw_396 aw_1 aw_397) rfl rfl rfl pX3_place ⟨Nat.le_of_ble_eq_true rfl, Nat.le_of_ble_eq_true rfl⟩) (va_recv hK hP (ci := 3) (q0 := 0) rfl rfl) hK hP hD hS hA rfl rfl hl.1 rfl (Nat.le_of_ble_eq_true rfl) dL_law_443 ⟨Nat.le_of_ble_eq_true rfl, Nat.le_of_ble_eq_true rfl⟩ (fun H locs hP hD hS => ?_)
                  refine lv_istore (lv' := [(8, .int a95), (7, .int r32), (6, .int r31), (5, .int (pw_cellV L xs (1 + x4_210))), (0, .ref b), (1, .ref (qa 0 0)), (3, .int x3_210), (4, .int x4_210)]) hx hb dL_law_446 hl (by decide) rfl (fun ls hl => ?_)
                  refine lv_aload_n hx hb dL_law_448 rfl (lv_at hl 5 rfl) ?_
                  refine lv_iload hx hb dL_law_449 (lv_at hl 2 rfl) ?_
                  obtain ⟨r96, hr96, h⟩ := pq_b h
                  obtain ⟨a97, e9_, h9_⟩ := pq_inn h
                  clear h
                  have h := h9_
                  clear h9_
                  subst e9_
                  refine pw_ci (w1 := W3 cy qa a97.2.1 T_210 a97.2.2.1 a97.2.2.2.1 a97.2.2.2.2 ak_210 pa_210 wt_210 cd ln) (rest := []) (As := [.int r31]) hF (kX3_sicken l D cy qa _ P_210 T_210 S_210 nw_210 hz_210 ak_210 pa_210 wt_210 cd ln r31 a97 hr96) (cwV 1 hts (pw_gVt (own := RL) (idx := 78) (C := RX3) (y := yX3_sicken) aw_331 aw_332 aw_333 aw_1 aw_334) rfl rfl rfl pX3_sicken ⟨Nat.le_of_ble_eq_true rfl, Nat.le_of_ble_eq_true rfl⟩) (va_recv hK hP (ci := 3) (q0 := 0) rfl rfl) hK hP hD hS hA rfl rfl hl.1 rfl (Nat.le_of_ble_eq_true rfl) dL_law_451 ⟨Nat.le_of_ble_eq_true rfl, Nat.le_of_ble_eq_true rfl⟩ (fun H locs hP hD hS => ?_)
                  refine lv_iconst (v := 1) hx hb dL_law_454 (by decide) ?_
                  refine lv_iload hx hb dL_law_455 (lv_at hl 0 rfl) ?_
                  refine lv_isub hx hb dL_law_457 ?_
                  obtain ⟨c51_, h⟩ := pq_g h
                  refine lv_icmp_ne (tgt := 465) hx hb dL_law_458 (by decide) (fun cc_ => absurd c51_ cc_) (fun _ => ?_)
                  refine lv_iconst (v := 1) hx hb dL_law_461 (by decide) ?_
                  refine lv_goto (tgt := 466) hx hb dL_law_462 (by decide) ?_
                  refine lv_istore_n (lv' := [(3, .int 1), (8, .int a95), (7, .int r32), (6, .int r31), (5, .int (pw_cellV L xs (1 + x4_210))), (0, .ref b), (1, .ref (qa 0 0)), (4, .int x4_210)]) hx hb dL_law_466 rfl hl (by decide) rfl (fun ls hl => ?_)
                  refine lv_goto (tgt := 684) hx hb dL_law_467 (by decide) ?_
                  obtain rfl := Option.some.inj h
                  exact J684_v33 _ _ _ hP hD hS (lv_sub hl [5, 6, 0, 7] rfl)
            · have h := pq_t c16_ h
              refine lv_aload_n hx hb dL_law_291 rfl (lv_at hl 4 rfl) ?_
              refine lv_iload hx hb dL_law_292 (lv_at hl 1 rfl) ?_
              refine lv_iconst (v := 0) hx hb dL_law_294 (by decide) ?_
              obtain ⟨r98, hr98, h⟩ := pq_b h
              obtain ⟨a99, e9_, h9_⟩ := pq_inn h
              clear h
              have h := h9_
              clear h9_
              subst e9_
              refine pw_ci (w1 := W3 cy qa P_210 T_210 S_210 nw_210 hz_210 ak_210 pa_210 wt_210 cd ln) (rest := []) (As := [.int r31, .int 0]) hF (kX3_owner l D cy qa _ P_210 T_210 S_210 nw_210 hz_210 ak_210 pa_210 wt_210 cd ln r31 0 a99 hr98) (cwV 2 hts (pw_gVt (own := RL) (idx := 23) (C := RX3) (y := yX3_owner) aw_410 aw_411 aw_412 aw_1 aw_413) rfl rfl rfl pX3_owner ⟨Nat.le_of_ble_eq_true rfl, Nat.le_of_ble_eq_true rfl⟩) (va_recv hK hP (ci := 3) (q0 := 0) rfl rfl) hK hP hD hS hA rfl rfl hl.1 rfl (Nat.le_of_ble_eq_true rfl) dL_law_295 ⟨Nat.le_of_ble_eq_true rfl, Nat.le_of_ble_eq_true rfl⟩ (fun H locs hP hD hS => ?_)
              refine lv_iconst (v := 1) hx hb dL_law_298 (by decide) ?_
              obtain ⟨v100, hv100, h⟩ := pq_b h
              have J307_v100 : ∀ (H : Heap) (locs : List Loc) (ls : Array Slot), va_P D vwCl (W3 cy qa P_210 T_210 S_210 nw_210 hz_210 ak_210 pa_210 wt_210 cd ln) H → va_D A (W3 cy qa P_210 T_210 S_210 nw_210 hz_210 ak_210 pa_210 wt_210 cd ln) → va_S A s.heap H locs → lv_has ls 12 [(0, .ref b), (1, .ref (qa 0 0)), (4, .int x4_210), (6, .int r31)] → W p l e room_1 s m args below meth c H locs 200 3000 Q (F0 m 307 ls [.int v100]) := by
                intro H locs ls hP hD hS hl
                refine lv_istore (lv' := [(8, .int v100), (0, .ref b), (1, .ref (qa 0 0)), (4, .int x4_210), (6, .int r31)]) hx hb dL_law_307 hl (by decide) rfl (fun ls hl => ?_)
                refine lv_aload_n hx hb dL_law_309 rfl (lv_at hl 2 rfl) ?_
                refine lv_iload hx hb dL_law_310 (lv_at hl 4 rfl) ?_
                refine lv_iconst (v := 2) hx hb dL_law_312 (by decide) ?_
                obtain ⟨r101, hr101, h⟩ := pq_b h
                obtain ⟨a102, e9_, h9_⟩ := pq_inn h
                clear h
                have h := h9_
                clear h9_
                subst e9_
                refine pw_ci (w1 := W3 cy qa P_210 T_210 S_210 nw_210 hz_210 ak_210 pa_210 wt_210 cd ln) (rest := []) (As := [.int r31, .int 2]) hF (kX3_owner l D cy qa _ P_210 T_210 S_210 nw_210 hz_210 ak_210 pa_210 wt_210 cd ln r31 2 a102 hr101) (cwV 2 hts (pw_gVt (own := RL) (idx := 23) (C := RX3) (y := yX3_owner) aw_410 aw_411 aw_412 aw_1 aw_413) rfl rfl rfl pX3_owner ⟨Nat.le_of_ble_eq_true rfl, Nat.le_of_ble_eq_true rfl⟩) (va_recv hK hP (ci := 3) (q0 := 0) rfl rfl) hK hP hD hS hA rfl rfl hl.1 rfl (Nat.le_of_ble_eq_true rfl) dL_law_313 ⟨Nat.le_of_ble_eq_true rfl, Nat.le_of_ble_eq_true rfl⟩ (fun H locs hP hD hS => ?_)
                obtain ⟨v103, hv103, h⟩ := pq_b h
                have J324_v103 : ∀ (H : Heap) (locs : List Loc) (ls : Array Slot), va_P D vwCl (W3 cy qa P_210 T_210 S_210 nw_210 hz_210 ak_210 pa_210 wt_210 cd ln) H → va_D A (W3 cy qa P_210 T_210 S_210 nw_210 hz_210 ak_210 pa_210 wt_210 cd ln) → va_S A s.heap H locs → lv_has ls 12 [(0, .ref b), (1, .ref (qa 0 0)), (4, .int x4_210), (6, .int r31), (8, .int v100)] → W p l e room_1 s m args below meth c H locs 200 3000 Q (F0 m 324 ls [.int v103]) := by
                  intro H locs ls hP hD hS hl
                  refine lv_istore (lv' := [(9, .int v103), (0, .ref b), (1, .ref (qa 0 0)), (4, .int x4_210), (6, .int r31), (8, .int v100)]) hx hb dL_law_324 hl (by decide) rfl (fun ls hl => ?_)
                  refine lv_aload_n hx hb dL_law_326 rfl (lv_at hl 2 rfl) ?_
                  refine lv_iload hx hb dL_law_327 (lv_at hl 4 rfl) ?_
                  refine lv_iconst (v := 5) hx hb dL_law_329 (by decide) ?_
                  obtain ⟨r104, hr104, h⟩ := pq_b h
                  obtain ⟨a105, e9_, h9_⟩ := pq_inn h
                  clear h
                  have h := h9_
                  clear h9_
                  subst e9_
                  refine pw_ci (w1 := W3 cy qa P_210 T_210 S_210 nw_210 hz_210 ak_210 pa_210 wt_210 cd ln) (rest := []) (As := [.int r31, .int 5]) hF (kX3_owner l D cy qa _ P_210 T_210 S_210 nw_210 hz_210 ak_210 pa_210 wt_210 cd ln r31 5 a105 hr104) (cwV 2 hts (pw_gVt (own := RL) (idx := 23) (C := RX3) (y := yX3_owner) aw_410 aw_411 aw_412 aw_1 aw_413) rfl rfl rfl pX3_owner ⟨Nat.le_of_ble_eq_true rfl, Nat.le_of_ble_eq_true rfl⟩) (va_recv hK hP (ci := 3) (q0 := 0) rfl rfl) hK hP hD hS hA rfl rfl hl.1 rfl (Nat.le_of_ble_eq_true rfl) dL_law_330 ⟨Nat.le_of_ble_eq_true rfl, Nat.le_of_ble_eq_true rfl⟩ (fun H locs hP hD hS => ?_)
                  refine lv_istore (lv' := [(10, .int a105), (9, .int v103), (0, .ref b), (1, .ref (qa 0 0)), (4, .int x4_210), (6, .int r31), (8, .int v100)]) hx hb dL_law_333 hl (by decide) rfl (fun ls hl => ?_)
                  refine lv_aload_n hx hb dL_law_335 rfl (lv_at hl 3 rfl) ?_
                  refine lv_iload hx hb dL_law_336 (lv_at hl 5 rfl) ?_
                  refine lv_iconst (v := 1) hx hb dL_law_338 (by decide) ?_
                  obtain ⟨r106, hr106, h⟩ := pq_b h
                  obtain ⟨a107, e9_, h9_⟩ := pq_inn h
                  clear h
                  have h := h9_
                  clear h9_
                  subst e9_
                  refine pw_ci (w1 := W3 cy qa P_210 T_210 S_210 nw_210 hz_210 ak_210 pa_210 wt_210 cd ln) (rest := []) (As := [.int r31, .int 1]) hF (kX3_owner l D cy qa _ P_210 T_210 S_210 nw_210 hz_210 ak_210 pa_210 wt_210 cd ln r31 1 a107 hr106) (cwV 2 hts (pw_gVt (own := RL) (idx := 23) (C := RX3) (y := yX3_owner) aw_410 aw_411 aw_412 aw_1 aw_413) rfl rfl rfl pX3_owner ⟨Nat.le_of_ble_eq_true rfl, Nat.le_of_ble_eq_true rfl⟩) (va_recv hK hP (ci := 3) (q0 := 0) rfl rfl) hK hP hD hS hA rfl rfl hl.1 rfl (Nat.le_of_ble_eq_true rfl) dL_law_339 ⟨Nat.le_of_ble_eq_true rfl, Nat.le_of_ble_eq_true rfl⟩ (fun H locs hP hD hS => ?_)
                  refine lv_istore (lv' := [(11, .int a107), (10, .int a105), (9, .int v103), (0, .ref b), (1, .ref (qa 0 0)), (4, .int x4_210), (6, .int r31), (8, .int v100)]) hx hb dL_law_342 hl (by decide) rfl (fun ls hl => ?_)
                  refine lv_aload_n hx hb dL_law_344 rfl (lv_at hl 4 rfl) ?_
                  refine lv_iload hx hb dL_law_345 (lv_at hl 6 rfl) ?_
                  refine lv_iload hx hb dL_law_347 (lv_at hl 7 rfl) ?_
                  obtain ⟨v108, hv108, h⟩ := pq_b h
                  have J357_v108 : ∀ (H : Heap) (locs : List Loc) (ls : Array Slot), va_P D vwCl (W3 cy qa P_210 T_210 S_210 nw_210 hz_210 ak_210 pa_210 wt_210 cd ln) H → va_D A (W3 cy qa P_210 T_210 S_210 nw_210 hz_210 ak_210 pa_210 wt_210 cd ln) → va_S A s.heap H locs → lv_has ls 12 [(0, .ref b), (1, .ref (qa 0 0)), (4, .int x4_210), (6, .int r31), (8, .int v100), (9, .int v103), (10, .int a105), (11, .int a107)] → W p l e room_1 s m args below meth c H locs 200 3000 Q (F0 m 357 ls [.int v108, .int r31, .ref (qa 0 0)]) := by
                    intro H locs ls hP hD hS hl
                    obtain ⟨r109, hr109, h⟩ := pq_b h
                    obtain ⟨a110, e9_, h9_⟩ := pq_inn h
                    clear h
                    have h := h9_
                    clear h9_
                    subst e9_
                    refine pw_ci (w1 := W3 cy qa a110.2.1 T_210 a110.2.2.1 a110.2.2.2.1 a110.2.2.2.2 ak_210 pa_210 wt_210 cd ln) (rest := []) (As := [.int r31, .int v108]) hF (kX3_appear l D cy qa _ P_210 T_210 S_210 nw_210 hz_210 ak_210 pa_210 wt_210 cd ln r31 v108 a110 hr109) (cwV 2 hts (pw_gVt (own := RL) (idx := 74) (C := RX3) (y := yX3_appear) aw_317 aw_318 aw_319 aw_1 aw_320) rfl rfl rfl pX3_appear ⟨Nat.le_of_ble_eq_true rfl, Nat.le_of_ble_eq_true rfl⟩) (va_recv hK hP (ci := 3) (q0 := 0) rfl rfl) hK hP hD hS hA rfl rfl hl.1 rfl (Nat.le_of_ble_eq_true rfl) dL_law_357 ⟨Nat.le_of_ble_eq_true rfl, Nat.le_of_ble_eq_true rfl⟩ (fun H locs hP hD hS => ?_)
                    refine lv_iload hx hb dL_law_360 (lv_at hl 7 rfl) ?_
                    obtain ⟨c55_, h⟩ := pq_g h
                    refine lv_icmp_ne (tgt := 417) hx hb dL_law_362 (by decide) (fun cc_ => absurd c55_ cc_) (fun _ => ?_)
                    refine lv_aload_n hx hb dL_law_365 rfl (lv_at hl 1 rfl) ?_
                    refine lv_iload hx hb dL_law_366 (lv_at hl 3 rfl) ?_
                    refine lv_iconst (v := 0) hx hb dL_law_368 (by decide) ?_
                    obtain ⟨r111, hr111, h⟩ := pq_b h
                    obtain ⟨a112, e9_, h9_⟩ := pq_inn h
                    clear h
                    have h := h9_
                    clear h9_
                    subst e9_
                    refine pw_ci (w1 := W3 cy qa a110.2.1 T_210 a110.2.2.1 a110.2.2.2.1 a110.2.2.2.2 ak_210 pa_210 wt_210 cd ln) (rest := []) (As := [.int r31, .int 0]) hF (kX3_owner l D cy qa _ a110.2.1 T_210 a110.2.2.1 a110.2.2.2.1 a110.2.2.2.2 ak_210 pa_210 wt_210 cd ln r31 0 a112 hr111) (cwV 2 hts (pw_gVt (own := RL) (idx := 23) (C := RX3) (y := yX3_owner) aw_410 aw_411 aw_412 aw_1 aw_413) rfl rfl rfl pX3_owner ⟨Nat.le_of_ble_eq_true rfl, Nat.le_of_ble_eq_true rfl⟩) (va_recv hK hP (ci := 3) (q0 := 0) rfl rfl) hK hP hD hS hA rfl rfl hl.1 rfl (Nat.le_of_ble_eq_true rfl) dL_law_369 ⟨Nat.le_of_ble_eq_true rfl, Nat.le_of_ble_eq_true rfl⟩ (fun H locs hP hD hS => ?_)
                    refine lv_iload hx hb dL_law_372 (lv_at hl 4 rfl) ?_
                    obtain ⟨v113, hv113, h⟩ := pq_b h
                    have J382_v113 : ∀ (H : Heap) (locs : List Loc) (ls : Array Slot), va_P D vwCl (W3 cy qa a110.2.1 T_210 a110.2.2.1 a110.2.2.2.1 a110.2.2.2.2 ak_210 pa_210 wt_210 cd ln) H → va_D A (W3 cy qa a110.2.1 T_210 a110.2.2.1 a110.2.2.2.1 a110.2.2.2.2 ak_210 pa_210 wt_210 cd ln) → va_S A s.heap H locs → lv_has ls 12 [(0, .ref b), (1, .ref (qa 0 0)), (4, .int x4_210), (6, .int r31), (9, .int v103), (10, .int a105)] → W p l e room_1 s m args below meth c H locs 200 3000 Q (F0 m 382 ls [.int v113, .int a112]) := by
                      intro H locs ls hP hD hS hl
                      obtain ⟨c57_, h⟩ := pq_g h
                      refine lv_icmp_ne (tgt := 417) hx hb dL_law_382 (by decide) (fun cc_ => absurd c57_ cc_) (fun _ => ?_)
                      refine lv_iload hx hb dL_law_385 (lv_at hl 4 rfl) ?_
                      obtain ⟨v114, hv114, h⟩ := pq_b h
                      have J401_v114 : ∀ (H : Heap) (locs : List Loc) (ls : Array Slot), va_P D vwCl (W3 cy qa a110.2.1 T_210 a110.2.2.1 a110.2.2.2.1 a110.2.2.2.2 ak_210 pa_210 wt_210 cd ln) H → va_D A (W3 cy qa a110.2.1 T_210 a110.2.2.1 a110.2.2.2.1 a110.2.2.2.2 ak_210 pa_210 wt_210 cd ln) → va_S A s.heap H locs → lv_has ls 12 [(0, .ref b), (1, .ref (qa 0 0)), (4, .int x4_210), (6, .int r31), (10, .int a105)] → W p l e room_1 s m args below meth c H locs 200 3000 Q (F0 m 401 ls []) := by
                        intro H locs ls hP hD hS hl
                        refine lv_aload_n hx hb dL_law_401 rfl (lv_at hl 1 rfl) ?_
                        refine lv_iload hx hb dL_law_402 (lv_at hl 3 rfl) ?_
                        refine lv_iconst (v := 5) hx hb dL_law_404 (by decide) ?_
                        obtain ⟨r117, hr117, h⟩ := pq_b h
                        obtain ⟨a118, e9_, h9_⟩ := pq_inn h
                        clear h
                        have h := h9_
                        clear h9_
                        subst e9_
                        refine pw_ci (w1 := W3 cy qa a110.2.1 T_210 a110.2.2.1 a110.2.2.2.1 a110.2.2.2.2 ak_210 pa_210 wt_210 cd ln) (rest := []) (As := [.int r31, .int 5]) hF (kX3_owner l D cy qa _ a110.2.1 T_210 a110.2.2.1 a110.2.2.2.1 a110.2.2.2.2 ak_210 pa_210 wt_210 cd ln r31 5 a118 hr117) (cwV 2 hts (pw_gVt (own := RL) (idx := 23) (C := RX3) (y := yX3_owner) aw_410 aw_411 aw_412 aw_1 aw_413) rfl rfl rfl pX3_owner ⟨Nat.le_of_ble_eq_true rfl, Nat.le_of_ble_eq_true rfl⟩) (va_recv hK hP (ci := 3) (q0 := 0) rfl rfl) hK hP hD hS hA rfl rfl hl.1 rfl (Nat.le_of_ble_eq_true rfl) dL_law_405 ⟨Nat.le_of_ble_eq_true rfl, Nat.le_of_ble_eq_true rfl⟩ (fun H locs hP hD hS => ?_)
                        refine lv_iload hx hb dL_law_408 (lv_at hl 4 rfl) ?_
                        obtain ⟨c60_, h⟩ := pq_g h
                        refine lv_icmp_ne (tgt := 417) hx hb dL_law_410 (by decide) (fun cc_ => absurd c60_ cc_) (fun _ => ?_)
                        refine lv_iconst (v := 1) hx hb dL_law_413 (by decide) ?_
                        refine lv_goto (tgt := 418) hx hb dL_law_414 (by decide) ?_
                        refine lv_istore_n (lv' := [(3, .int 1), (0, .ref b), (1, .ref (qa 0 0)), (4, .int x4_210), (6, .int r31), (10, .int a105)]) hx hb dL_law_418 rfl hl (by decide) rfl (fun ls hl => ?_)
                        refine lv_goto (tgt := 684) hx hb dL_law_419 (by decide) ?_
                        obtain rfl := Option.some.inj h
                        exact J684_v33 _ _ _ hP hD hS (lv_sub hl [1, 2, 0, 3] rfl)
                      clear h
                      have h := hv114
                      clear hv114
                      refine lv_if_eq (tgt := 401) hx hb dL_law_387 (by decide) (fun c58_ => ?_) (fun c58_ => ?_)
                      · have h := pq_t c58_ h
                        obtain rfl := Option.some.inj h
                        exact J401_v114 _ _ _ hP hD hS (lv_sub hl [0, 1, 2, 3, 5] rfl)
                      · have h := pq_e c58_ h
                        refine lv_aload_n hx hb dL_law_390 rfl (lv_at hl 1 rfl) ?_
                        refine lv_iload hx hb dL_law_391 (lv_at hl 3 rfl) ?_
                        refine lv_iconst (v := 2) hx hb dL_law_393 (by decide) ?_
                        obtain ⟨r115, hr115, h⟩ := pq_b h
                        obtain ⟨a116, e9_, h9_⟩ := pq_inn h
                        clear h
                        have h := h9_
                        clear h9_
                        subst e9_
                        refine pw_ci (w1 := W3 cy qa a110.2.1 T_210 a110.2.2.1 a110.2.2.2.1 a110.2.2.2.2 ak_210 pa_210 wt_210 cd ln) (rest := []) (As := [.int r31, .int 2]) hF (kX3_owner l D cy qa _ a110.2.1 T_210 a110.2.2.1 a110.2.2.2.1 a110.2.2.2.2 ak_210 pa_210 wt_210 cd ln r31 2 a116 hr115) (cwV 2 hts (pw_gVt (own := RL) (idx := 23) (C := RX3) (y := yX3_owner) aw_410 aw_411 aw_412 aw_1 aw_413) rfl rfl rfl pX3_owner ⟨Nat.le_of_ble_eq_true rfl, Nat.le_of_ble_eq_true rfl⟩) (va_recv hK hP (ci := 3) (q0 := 0) rfl rfl) hK hP hD hS hA rfl rfl hl.1 rfl (Nat.le_of_ble_eq_true rfl) dL_law_394 ⟨Nat.le_of_ble_eq_true rfl, Nat.le_of_ble_eq_true rfl⟩ (fun H locs hP hD hS => ?_)
                        refine lv_iconst (v := (-1)) hx hb dL_law_397 (by decide) ?_
                        obtain ⟨c59_, h⟩ := pq_g h
                        refine lv_icmp_ne (tgt := 417) hx hb dL_law_398 (by decide) (fun cc_ => absurd c59_ cc_) (fun _ => ?_)
                        obtain rfl := Option.some.inj h
                        exact J401_v114 _ _ _ hP hD hS (lv_sub hl [0, 1, 2, 3, 5] rfl)
                    clear h
                    have h := hv113
                    clear hv113
                    refine lv_if_eq (tgt := 381) hx hb dL_law_374 (by decide) (fun c56_ => ?_) (fun c56_ => ?_)
                    · have h := pq_t c56_ h
                      refine lv_iconst (v := 1) hx hb dL_law_381 (by decide) ?_
                      obtain rfl := Option.some.inj h
                      exact J382_v113 _ _ _ hP hD hS (lv_sub hl [0, 1, 2, 3, 5, 6] rfl)
                    · have h := pq_e c56_ h
                      refine lv_iconst (v := 0) hx hb dL_law_377 (by decide) ?_
                      refine lv_goto (tgt := 382) hx hb dL_law_378 (by decide) ?_
                      obtain rfl := Option.some.inj h
                      exact J382_v113 _ _ _ hP hD hS (lv_sub hl [0, 1, 2, 3, 5, 6] rfl)
                  clear h
                  have h := hv108
                  clear hv108
                  refine lv_if_ne (tgt := 356) hx hb dL_law_349 (by decide) (fun c54_ => ?_) (fun c54_ => ?_)
                  · have h := pq_e c54_ h
                    refine lv_iconst (v := 0) hx hb dL_law_356 (by decide) ?_
                    obtain rfl := Option.some.inj h
                    exact J357_v108 _ _ _ hP hD hS (lv_sub hl [3, 4, 5, 6, 7, 2, 1, 0] rfl)
                  · have h := pq_t c54_ h
                    refine lv_iconst (v := 1) hx hb dL_law_352 (by decide) ?_
                    refine lv_goto (tgt := 357) hx hb dL_law_353 (by decide) ?_
                    obtain rfl := Option.some.inj h
                    exact J357_v108 _ _ _ hP hD hS (lv_sub hl [3, 4, 5, 6, 7, 2, 1, 0] rfl)
                clear h
                have h := hv103
                clear hv103
                refine lv_if_lt (tgt := 323) hx hb dL_law_316 (by decide) (fun c53_ => ?_) (fun c53_ => ?_)
                · have h := pq_t c53_ h
                  refine lv_iconst (v := 0) hx hb dL_law_323 (by decide) ?_
                  obtain rfl := Option.some.inj h
                  exact J324_v103 _ _ _ hP hD hS (lv_sub hl [1, 2, 3, 4, 0] rfl)
                · have h := pq_e c53_ h
                  refine lv_iconst (v := 1) hx hb dL_law_319 (by decide) ?_
                  refine lv_goto (tgt := 324) hx hb dL_law_320 (by decide) ?_
                  obtain rfl := Option.some.inj h
                  exact J324_v103 _ _ _ hP hD hS (lv_sub hl [1, 2, 3, 4, 0] rfl)
              clear h
              have h := hv100
              clear hv100
              refine lv_icmp_ne (tgt := 306) hx hb dL_law_299 (by decide) (fun c52_ => ?_) (fun c52_ => ?_)
              · have h := pq_e c52_ h
                refine lv_iconst (v := 0) hx hb dL_law_306 (by decide) ?_
                obtain rfl := Option.some.inj h
                exact J307_v100 _ _ _ hP hD hS (lv_sub hl [3, 4, 6, 1] rfl)
              · have h := pq_t c52_ h
                refine lv_iconst (v := 1) hx hb dL_law_302 (by decide) ?_
                refine lv_goto (tgt := 307) hx hb dL_law_303 (by decide) ?_
                obtain rfl := Option.some.inj h
                exact J307_v100 _ _ _ hP hD hS (lv_sub hl [3, 4, 6, 1] rfl)
          · have h := pq_e c15_ h
            refine lv_aload_n hx hb dL_law_274 rfl (lv_at hl 4 rfl) ?_
            refine lv_iload hx hb dL_law_275 (lv_at hl 1 rfl) ?_
            obtain ⟨r119, hr119, h⟩ := pq_b h
            refine pw_zsi (w1 := W3 cy qa r119.2.1 T_210 r119.2.2.1 r119.2.2.2.1 r119.2.2.2.2 ak_210 pa_210 wt_210 cd ln) (rest := []) (As := [.ref (qa 0 0), .int r31]) hF (kL_give l D cy qa _ P_210 T_210 S_210 nw_210 hz_210 ak_210 pa_210 wt_210 cd ln r31 r119 hr119) (cwS 2 hts (pw_gSt (own := RL) (idx := 72) (y := yL_give) aw_484 aw_485 aw_0 aw_486) rfl rfl rfl pL_give ⟨Nat.le_of_ble_eq_true rfl, Nat.le_of_ble_eq_true rfl⟩) hK hP hD hS hA rfl rfl hl.1 rfl (Nat.le_of_ble_eq_true rfl) dL_law_277 ⟨Nat.le_of_ble_eq_true rfl, Nat.le_of_ble_eq_true rfl⟩ (fun H locs hP hD hS => ?_)
            refine lv_istore_n (lv' := [(3, .int r119.1), (7, .int r32), (6, .int r31), (5, .int (pw_cellV L xs (1 + x4_210))), (0, .ref b), (1, .ref (qa 0 0)), (4, .int x4_210)]) hx hb dL_law_280 rfl hl (by decide) rfl (fun ls hl => ?_)
            refine lv_goto (tgt := 684) hx hb dL_law_281 (by decide) ?_
            obtain rfl := Option.some.inj h
            exact J684_v33 _ _ _ hP hD hS (lv_sub hl [4, 5, 0, 6] rfl)
        · have h := pq_e c14_ h
          refine lv_aload_n hx hb dL_law_257 rfl (lv_at hl 4 rfl) ?_
          refine lv_iload hx hb dL_law_258 (lv_at hl 1 rfl) ?_
          obtain ⟨r120, hr120, h⟩ := pq_b h
          refine pw_zsi (w1 := W3 cy qa r120.2.1 r120.2.2.1 r120.2.2.2.1 r120.2.2.2.2.1 r120.2.2.2.2.2.1 r120.2.2.2.2.2.2 pa_210 wt_210 cd ln) (rest := []) (As := [.ref (qa 0 0), .int r31]) hF (kL_ask l D cy qa _ P_210 T_210 S_210 nw_210 hz_210 ak_210 pa_210 wt_210 cd ln r31 r120 hr120) (cwS 2 hts (pw_gSt (own := RL) (idx := 69) (y := yL_ask) aw_459 aw_460 aw_0 aw_461) rfl rfl rfl pL_ask ⟨Nat.le_of_ble_eq_true rfl, Nat.le_of_ble_eq_true rfl⟩) hK hP hD hS hA rfl rfl hl.1 rfl (Nat.le_of_ble_eq_true rfl) dL_law_260 ⟨Nat.le_of_ble_eq_true rfl, Nat.le_of_ble_eq_true rfl⟩ (fun H locs hP hD hS => ?_)
          refine lv_istore_n (lv' := [(3, .int r120.1), (7, .int r32), (6, .int r31), (5, .int (pw_cellV L xs (1 + x4_210))), (0, .ref b), (1, .ref (qa 0 0)), (4, .int x4_210)]) hx hb dL_law_263 rfl hl (by decide) rfl (fun ls hl => ?_)
          refine lv_goto (tgt := 684) hx hb dL_law_264 (by decide) ?_
          obtain rfl := Option.some.inj h
          exact J684_v33 _ _ _ hP hD hS (lv_sub hl [4, 5, 0, 6] rfl)
  have h := hv30
  exact L210_n29 1000 1 0 a28.2.1 T a28.2.2.1 a28.2.2.2.1 a28.2.2.2.2 ak pa wt _ _ _ h hP hD hS (lv_sub hl [4, 3, 1, 0] rfl)
