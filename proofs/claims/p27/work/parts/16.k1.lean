/-! ===== copyFrom, save, restore ===== -/
def pq_fb (f : Nat → Int32) : Bool := (List.range 8).all (fun j => fits .boolean (.int (f j)))
theorem pq_fbi {f : Nat → Int32} (h : pq_fb f = true) : ∀ j, j < 8 → fits .boolean (.int (f j)) = true := fun j hj => List.all_eq_true.mp h j (List.mem_range.mpr hj)
def fX2_copyFrom (v : Nat → Nat → Int32) : Option (Nat → Nat → Int32) :=
  if pq_fb (v 4) then if pq_fb (v 8) then some v else none else none
theorem pw_cell {cA : ClassId} {n : Nat} {f g : Nat → Int32} (h : ∀ j, j < n → f j = g j) : vp_cell cA (n, .inl f) = vp_cell cA (n, .inl g) := by
  rw [vp_cell_i, vp_cell_i]
  unfold arrV
  congr 1
  apply Array.ext
  · simp
  · intro i h1 h2
    simp at h1
    simp [h i h1]
theorem pw_copy {p : Program} {l : Launch} {e : Env} {R : Room} {s : State} {m : MethodId} {args : Array Value} {below : List Frame} {meth : Method} {c : Code} {H : Heap} {locs : List Loc} {cells slots : Nat} {Q : State → Prop} {cc : ByteArray} {pc : Nat} {ls : Array Slot} {rest : List Value} {D : va_G} {cl : List vw_C} {tys : List (ClassId × FieldType)} {ws : va_W} {A : Nat → Prop} {H0 : Heap} {a : Nat} (hexec : p.tables.exec = Jvm.exec) (hb : c.code = cc) (hml : c.maxLocals = ls.size) {own : String} {index : Nat} (hown : s.vm.findClass own = some m.cls) (hlink : (Cond.methodLink own index arraycopyName).before args s = true) (hnat : (Cond.native arraycopyName).before args s = true) (hstat : (Cond.static arraycopyName).before args s = true) (hini : (Cond.initialized "java/lang/System").before args s = true)
    (hK : va_K D cl tys s) (hP : va_P D cl ws H) (hD : va_D A ws) (hS : va_S A H0 H locs) (q0 q1 t0 : Nat) {a0 : Nat} {c0 c1 : ClassId} {n0 : Nat} {f g : Nat → Int32} {ty : FieldType} (ha0 : ws[q0]? = some (a0, .inl (c0, n0, .inl f))) (ha1 : ws[q1]? = some (a, .inl (c1, n0, .inl g))) (ht0 : tys[t0]? = some (c0, ty)) (ht1 : tys[t0]? = some (c1, ty)) (hprim : refKind ty = false)
    {n : Int32} (h3 : ¬ n < 0) (h4 : n.toNatClampNeg = n0) (hfit : ∀ i, i < n0 → fits ty (.int (f i)) = true)
    (hframes : 1 ≤ R.frames) (hlocals : (rest.map fun v => v.category).sum + (nativeFrameWords "java/lang/System" "arraycopy" 5 + 11) ≤ R.locals) (hdg : decode cc pc = .ok (.invokestatic index, 3))
    (kk : ∀ (H1 : Heap) (locs1 : List Loc), va_P D cl (ws.set q1 (a, .inl (c1, n0, .inl f))) H1 → va_D A (ws.set q1 (a, .inl (c1, n0, .inl f))) → va_S A H0 H1 locs1 → W p l e R s m args below meth c H1 locs1 cells slots Q (F0 m (pc + 3) ls rest)) : W p l e R s m args below meth c H locs cells slots Q (F0 m pc ls (.int n :: .int 0 :: .ref a :: .int 0 :: .ref a0 :: rest)) := by
  have z0 : (0 : Int32).toNatClampNeg = 0 := rfl
  refine va_copyi hexec hb hml hown hlink hnat hstat hini hK hP hD hS q0 q1 t0 t0 ha0 ha1 ht0 ht1 hprim (by decide) (by decide) h3 (by rw [z0, h4]; omega) (by rw [z0, h4]; omega) (fun i hi => by rw [z0, Nat.zero_add]; exact hfit i (by rw [← h4]; exact hi)) hframes hlocals hdg (fun H1 locs1 hP1 hD1 hS1 => kk H1 locs1 ?_ (hD.set ha1) hS1)
  have hl := (List.getElem?_eq_some_iff.mp ha1).1
  intro k q hk
  by_cases hkq : k = q1
  · subst hkq
    rw [List.getElem?_set_self hl] at hk
    cases hk
    have h1 := hP1 k _ (List.getElem?_set_self hl)
    show H1[a]? = some (vp_cell c1 (n0, .inl f))
    have h2 : H1[a]? = some (vp_cell c1 (n0, .inl (va_cpy f g (0 : Int32).toNatClampNeg (0 : Int32).toNatClampNeg n.toNatClampNeg))) := h1
    rw [h2, z0, h4, pw_cell (fun j hj => pk_cpy_in (f := f) (g := g) (sp := 0) (dp := 0) (n := n0) (j := j) (Nat.zero_le j) (by omega))]
    rw [pw_cell (f := fun j => f (0 + (j - 0))) (g := f) (fun j _ => by show f (0 + (j - 0)) = f j; rw [Nat.zero_add, Nat.sub_zero])]
  · exact hP1 k q (by rw [List.getElem?_set_ne (Ne.symm hkq)] at hk ⊢; exact hk)
def aX2_copyFrom : List Cond := Cond.code yX2_copyFrom cX2_copyFrom 2 none :: pw_all
theorem pX2_copyFrom : yX2_copyFrom.cls = RX2 ∧ yX2_copyFrom.cls ≠ "java/lang/invoke/MethodHandle" ∧ yX2_copyFrom.cls ≠ "java/lang/invoke/VarHandle" ∧ (parseMethodDescriptor yX2_copyFrom.desc).map (fun d => d.parameters.length) = some 1 := by decide +kernel
set_option maxHeartbeats 8000000 in
set_option maxRecDepth 100000 in
theorem kX2_copyFrom (l : Launch) (D : va_G) (cy : Nat → ClassId) (q q2 : Nat → Nat) (sz : Nat) (u v : Nat → Nat → Int32) (o : Nat → Nat → Int32) (h : fX2_copyFrom v = some o) : Met l yX2_copyFrom aX2_copyFrom ({ frames := 1, cells := 0, slots := 0, locals := 60 }) (pw_Pre D cy [.ref (q 0), .ref (q2 0)] (WP cy q u ++ WP cy q2 v) sz) (pw_V D (WP cy q u ++ WP cy q2 v) (WP cy q o ++ WP cy q2 v) sz) 0 0 (va_A (WP cy q u ++ WP cy q2 v) sz) := by
  unfold fX2_copyFrom at h
  obtain ⟨hf4, h⟩ := pq_g h
  obtain ⟨hf8, h⟩ := pq_g h
  obtain rfl := Option.some.inj h
  have hf4 := pq_fbi hf4
  have hf8 := pq_fbi hf8
  refine pw_met (cc := cX2_copyFrom) (maxL := 2) (ret := none) (by decide) rfl (Nat.le_of_ble_eq_true rfl) ?_
  intro p e s m args below meth c ls A hx hb hr hml hlk hts hown hAe hA hK hP hD hS hl
  have hl : lv_has ls 2 [(0, .ref (q 0)), (1, .ref (q2 0))] := hl
  have hF : CallFix p m c cX2_copyFrom 2 s args aX2_copyFrom RX2 := ⟨hx, hb, hml, hown, hts⟩
  have hta : ∀ w ∈ pw_all, w.before args s = true := fun w h => hts w (List.mem_cons_of_mem _ h)
  have hin : ∀ w ∈ wsX20, w ∈ aX2_copyFrom := fun w h => List.mem_cons_of_mem _ (inA2 w h)
  have hP : va_P D vwCl (WPx cy q (u 0 0) (u 1) (u 2) (u 3) (u 4) (u 5) (u 6) (u 7) (u 8) (u 9) (u 10) (u 11) (u 12) (u 13) (u 14 0) (u 15) ++ WP cy q2 v) s.heap := hP
  have hD : va_D A (WPx cy q (u 0 0) (u 1) (u 2) (u 3) (u 4) (u 5) (u 6) (u 7) (u 8) (u 9) (u 10) (u 11) (u 12) (u 13) (u 14 0) (u 15) ++ WP cy q2 v) := hD
  refine lv_aload_n hx hb dX2_copyFrom_0 rfl (lv_at hl 0 rfl) ?_
  refine lv_aload_n hx hb dX2_copyFrom_1 rfl (lv_at hl 1 rfl) ?_
  refine va_get (D := D) (ci := 2) (v := .int (v 0 0)) (C := RX2) (T := TX2) (N := 16) hx hb hts hin hown hK hP 15 rfl rfl 0 (by decide) (hta _ aw_32) (fun _ h9 => h9) rfl dX2_copyFrom_2 ?_
  refine va_put (D := D) (ci := 2) (v := .int (v 0 0)) (ty := .int) (C := RX2) (T := TX2) (N := 16) hx hb hts hin tyX2 tyX2_ok nmX2 hown hK hP hD hS 0 rfl rfl 0 (by decide) (hta _ aw_32) (fun _ h9 => h9) rfl (by decide +kernel) rfl rfl (Nat.le_of_ble_eq_true rfl) dX2_copyFrom_5 (fun H locs hP hD hS => ?_)
  have hP : va_P D vwCl (WPx cy q (v 0 0) (u 1) (u 2) (u 3) (u 4) (u 5) (u 6) (u 7) (u 8) (u 9) (u 10) (u 11) (u 12) (u 13) (u 14 0) (u 15) ++ WP cy q2 v) H := hP
  have hD : va_D A (WPx cy q (v 0 0) (u 1) (u 2) (u 3) (u 4) (u 5) (u 6) (u 7) (u 8) (u 9) (u 10) (u 11) (u 12) (u 13) (u 14 0) (u 15) ++ WP cy q2 v) := hD
  refine lv_aload_n hx hb dX2_copyFrom_8 rfl (lv_at hl 1 rfl) ?_
  refine va_get (D := D) (ci := 2) (v := .ref (q2 1)) (C := RX2) (T := TX2) (N := 16) hx hb hts hin hown hK hP 15 rfl rfl 1 (by decide) (hta _ aw_33) (fun _ h9 => h9) rfl dX2_copyFrom_9 ?_
  refine lv_iconst (v := 0) hx hb dX2_copyFrom_12 (by decide) ?_
  refine lv_aload_n hx hb dX2_copyFrom_13 rfl (lv_at hl 0 rfl) ?_
  refine va_get (D := D) (ci := 2) (v := .ref (q 1)) (C := RX2) (T := TX2) (N := 16) hx hb hts hin hown hK hP 0 rfl rfl 1 (by decide) (hta _ aw_33) (fun _ h9 => h9) rfl dX2_copyFrom_14 ?_
  refine lv_iconst (v := 0) hx hb dX2_copyFrom_17 (by decide) ?_
  refine lv_bipush (v := 9) hx hb dX2_copyFrom_18 (by decide) ?_
  refine pw_copy hx hb (by rw [hml]; exact hl.1.symm) (own := RX2) (index := 58) hown (hta _ aw_29) (hta _ aw_31) (hta _ aw_30) (hta _ aw_3) hK hP hD hS 16 1 0 rfl rfl rfl rfl rfl (by decide) (by decide) (fun _ _ => rfl) (Nat.le_of_ble_eq_true rfl) (by decide) dX2_copyFrom_20 (fun H locs hP hD hS => ?_)
  have hP : va_P D vwCl (WPx cy q (v 0 0) (v 1) (u 2) (u 3) (u 4) (u 5) (u 6) (u 7) (u 8) (u 9) (u 10) (u 11) (u 12) (u 13) (u 14 0) (u 15) ++ WP cy q2 v) H := hP
  have hD : va_D A (WPx cy q (v 0 0) (v 1) (u 2) (u 3) (u 4) (u 5) (u 6) (u 7) (u 8) (u 9) (u 10) (u 11) (u 12) (u 13) (u 14 0) (u 15) ++ WP cy q2 v) := hD
  refine lv_aload_n hx hb dX2_copyFrom_23 rfl (lv_at hl 1 rfl) ?_
  refine va_get (D := D) (ci := 2) (v := .ref (q2 2)) (C := RX2) (T := TX2) (N := 16) hx hb hts hin hown hK hP 15 rfl rfl 2 (by decide) (hta _ aw_35) (fun _ h9 => h9) rfl dX2_copyFrom_24 ?_
  refine lv_iconst (v := 0) hx hb dX2_copyFrom_27 (by decide) ?_
  refine lv_aload_n hx hb dX2_copyFrom_28 rfl (lv_at hl 0 rfl) ?_
  refine va_get (D := D) (ci := 2) (v := .ref (q 2)) (C := RX2) (T := TX2) (N := 16) hx hb hts hin hown hK hP 0 rfl rfl 2 (by decide) (hta _ aw_35) (fun _ h9 => h9) rfl dX2_copyFrom_29 ?_
  refine lv_iconst (v := 0) hx hb dX2_copyFrom_32 (by decide) ?_
  refine lv_bipush (v := 8) hx hb dX2_copyFrom_33 (by decide) ?_
  refine pw_copy hx hb (by rw [hml]; exact hl.1.symm) (own := RX2) (index := 58) hown (hta _ aw_29) (hta _ aw_31) (hta _ aw_30) (hta _ aw_3) hK hP hD hS 17 2 0 rfl rfl rfl rfl rfl (by decide) (by decide) (fun _ _ => rfl) (Nat.le_of_ble_eq_true rfl) (by decide) dX2_copyFrom_35 (fun H locs hP hD hS => ?_)
  have hP : va_P D vwCl (WPx cy q (v 0 0) (v 1) (v 2) (u 3) (u 4) (u 5) (u 6) (u 7) (u 8) (u 9) (u 10) (u 11) (u 12) (u 13) (u 14 0) (u 15) ++ WP cy q2 v) H := hP
  have hD : va_D A (WPx cy q (v 0 0) (v 1) (v 2) (u 3) (u 4) (u 5) (u 6) (u 7) (u 8) (u 9) (u 10) (u 11) (u 12) (u 13) (u 14 0) (u 15) ++ WP cy q2 v) := hD
  refine lv_aload_n hx hb dX2_copyFrom_38 rfl (lv_at hl 1 rfl) ?_
  refine va_get (D := D) (ci := 2) (v := .ref (q2 3)) (C := RX2) (T := TX2) (N := 16) hx hb hts hin hown hK hP 15 rfl rfl 3 (by decide) (hta _ aw_36) (fun _ h9 => h9) rfl dX2_copyFrom_39 ?_
  refine lv_iconst (v := 0) hx hb dX2_copyFrom_42 (by decide) ?_
  refine lv_aload_n hx hb dX2_copyFrom_43 rfl (lv_at hl 0 rfl) ?_
  refine va_get (D := D) (ci := 2) (v := .ref (q 3)) (C := RX2) (T := TX2) (N := 16) hx hb hts hin hown hK hP 0 rfl rfl 3 (by decide) (hta _ aw_36) (fun _ h9 => h9) rfl dX2_copyFrom_44 ?_
  refine lv_iconst (v := 0) hx hb dX2_copyFrom_47 (by decide) ?_
  refine lv_bipush (v := 8) hx hb dX2_copyFrom_48 (by decide) ?_
  refine pw_copy hx hb (by rw [hml]; exact hl.1.symm) (own := RX2) (index := 58) hown (hta _ aw_29) (hta _ aw_31) (hta _ aw_30) (hta _ aw_3) hK hP hD hS 18 3 0 rfl rfl rfl rfl rfl (by decide) (by decide) (fun _ _ => rfl) (Nat.le_of_ble_eq_true rfl) (by decide) dX2_copyFrom_50 (fun H locs hP hD hS => ?_)
  have hP : va_P D vwCl (WPx cy q (v 0 0) (v 1) (v 2) (v 3) (u 4) (u 5) (u 6) (u 7) (u 8) (u 9) (u 10) (u 11) (u 12) (u 13) (u 14 0) (u 15) ++ WP cy q2 v) H := hP
  have hD : va_D A (WPx cy q (v 0 0) (v 1) (v 2) (v 3) (u 4) (u 5) (u 6) (u 7) (u 8) (u 9) (u 10) (u 11) (u 12) (u 13) (u 14 0) (u 15) ++ WP cy q2 v) := hD
  refine lv_aload_n hx hb dX2_copyFrom_53 rfl (lv_at hl 1 rfl) ?_
  refine va_get (D := D) (ci := 2) (v := .ref (q2 4)) (C := RX2) (T := TX2) (N := 16) hx hb hts hin hown hK hP 15 rfl rfl 4 (by decide) (hta _ aw_37) (fun _ h9 => h9) rfl dX2_copyFrom_54 ?_
  refine lv_iconst (v := 0) hx hb dX2_copyFrom_57 (by decide) ?_
  refine lv_aload_n hx hb dX2_copyFrom_58 rfl (lv_at hl 0 rfl) ?_
  refine va_get (D := D) (ci := 2) (v := .ref (q 4)) (C := RX2) (T := TX2) (N := 16) hx hb hts hin hown hK hP 0 rfl rfl 4 (by decide) (hta _ aw_37) (fun _ h9 => h9) rfl dX2_copyFrom_59 ?_
  refine lv_iconst (v := 0) hx hb dX2_copyFrom_62 (by decide) ?_
  refine lv_bipush (v := 8) hx hb dX2_copyFrom_63 (by decide) ?_
  refine pw_copy hx hb (by rw [hml]; exact hl.1.symm) (own := RX2) (index := 58) hown (hta _ aw_29) (hta _ aw_31) (hta _ aw_30) (hta _ aw_3) hK hP hD hS 19 4 1 rfl rfl rfl rfl rfl (by decide) (by decide) hf4 (Nat.le_of_ble_eq_true rfl) (by decide) dX2_copyFrom_65 (fun H locs hP hD hS => ?_)
  have hP : va_P D vwCl (WPx cy q (v 0 0) (v 1) (v 2) (v 3) (v 4) (u 5) (u 6) (u 7) (u 8) (u 9) (u 10) (u 11) (u 12) (u 13) (u 14 0) (u 15) ++ WP cy q2 v) H := hP
  have hD : va_D A (WPx cy q (v 0 0) (v 1) (v 2) (v 3) (v 4) (u 5) (u 6) (u 7) (u 8) (u 9) (u 10) (u 11) (u 12) (u 13) (u 14 0) (u 15) ++ WP cy q2 v) := hD
  refine lv_aload_n hx hb dX2_copyFrom_68 rfl (lv_at hl 1 rfl) ?_
  refine va_get (D := D) (ci := 2) (v := .ref (q2 5)) (C := RX2) (T := TX2) (N := 16) hx hb hts hin hown hK hP 15 rfl rfl 5 (by decide) (hta _ aw_38) (fun _ h9 => h9) rfl dX2_copyFrom_69 ?_
  refine lv_iconst (v := 0) hx hb dX2_copyFrom_72 (by decide) ?_
  refine lv_aload_n hx hb dX2_copyFrom_73 rfl (lv_at hl 0 rfl) ?_
  refine va_get (D := D) (ci := 2) (v := .ref (q 5)) (C := RX2) (T := TX2) (N := 16) hx hb hts hin hown hK hP 0 rfl rfl 5 (by decide) (hta _ aw_38) (fun _ h9 => h9) rfl dX2_copyFrom_74 ?_
  refine lv_iconst (v := 0) hx hb dX2_copyFrom_77 (by decide) ?_
  refine lv_bipush (v := 8) hx hb dX2_copyFrom_78 (by decide) ?_
  refine pw_copy hx hb (by rw [hml]; exact hl.1.symm) (own := RX2) (index := 58) hown (hta _ aw_29) (hta _ aw_31) (hta _ aw_30) (hta _ aw_3) hK hP hD hS 20 5 0 rfl rfl rfl rfl rfl (by decide) (by decide) (fun _ _ => rfl) (Nat.le_of_ble_eq_true rfl) (by decide) dX2_copyFrom_80 (fun H locs hP hD hS => ?_)
  have hP : va_P D vwCl (WPx cy q (v 0 0) (v 1) (v 2) (v 3) (v 4) (v 5) (u 6) (u 7) (u 8) (u 9) (u 10) (u 11) (u 12) (u 13) (u 14 0) (u 15) ++ WP cy q2 v) H := hP
  have hD : va_D A (WPx cy q (v 0 0) (v 1) (v 2) (v 3) (v 4) (v 5) (u 6) (u 7) (u 8) (u 9) (u 10) (u 11) (u 12) (u 13) (u 14 0) (u 15) ++ WP cy q2 v) := hD
  refine lv_aload_n hx hb dX2_copyFrom_83 rfl (lv_at hl 1 rfl) ?_
  refine va_get (D := D) (ci := 2) (v := .ref (q2 6)) (C := RX2) (T := TX2) (N := 16) hx hb hts hin hown hK hP 15 rfl rfl 6 (by decide) (hta _ aw_39) (fun _ h9 => h9) rfl dX2_copyFrom_84 ?_
  refine lv_iconst (v := 0) hx hb dX2_copyFrom_87 (by decide) ?_
  refine lv_aload_n hx hb dX2_copyFrom_88 rfl (lv_at hl 0 rfl) ?_
  refine va_get (D := D) (ci := 2) (v := .ref (q 6)) (C := RX2) (T := TX2) (N := 16) hx hb hts hin hown hK hP 0 rfl rfl 6 (by decide) (hta _ aw_39) (fun _ h9 => h9) rfl dX2_copyFrom_89 ?_
  refine lv_iconst (v := 0) hx hb dX2_copyFrom_92 (by decide) ?_
  refine lv_bipush (v := 8) hx hb dX2_copyFrom_93 (by decide) ?_
  refine pw_copy hx hb (by rw [hml]; exact hl.1.symm) (own := RX2) (index := 58) hown (hta _ aw_29) (hta _ aw_31) (hta _ aw_30) (hta _ aw_3) hK hP hD hS 21 6 0 rfl rfl rfl rfl rfl (by decide) (by decide) (fun _ _ => rfl) (Nat.le_of_ble_eq_true rfl) (by decide) dX2_copyFrom_95 (fun H locs hP hD hS => ?_)
  have hP : va_P D vwCl (WPx cy q (v 0 0) (v 1) (v 2) (v 3) (v 4) (v 5) (v 6) (u 7) (u 8) (u 9) (u 10) (u 11) (u 12) (u 13) (u 14 0) (u 15) ++ WP cy q2 v) H := hP
  have hD : va_D A (WPx cy q (v 0 0) (v 1) (v 2) (v 3) (v 4) (v 5) (v 6) (u 7) (u 8) (u 9) (u 10) (u 11) (u 12) (u 13) (u 14 0) (u 15) ++ WP cy q2 v) := hD
  refine lv_aload_n hx hb dX2_copyFrom_98 rfl (lv_at hl 1 rfl) ?_
  refine va_get (D := D) (ci := 2) (v := .ref (q2 7)) (C := RX2) (T := TX2) (N := 16) hx hb hts hin hown hK hP 15 rfl rfl 7 (by decide) (hta _ aw_40) (fun _ h9 => h9) rfl dX2_copyFrom_99 ?_
  refine lv_iconst (v := 0) hx hb dX2_copyFrom_102 (by decide) ?_
  refine lv_aload_n hx hb dX2_copyFrom_103 rfl (lv_at hl 0 rfl) ?_
  refine va_get (D := D) (ci := 2) (v := .ref (q 7)) (C := RX2) (T := TX2) (N := 16) hx hb hts hin hown hK hP 0 rfl rfl 7 (by decide) (hta _ aw_40) (fun _ h9 => h9) rfl dX2_copyFrom_104 ?_
  refine lv_iconst (v := 0) hx hb dX2_copyFrom_107 (by decide) ?_
  refine lv_bipush (v := 8) hx hb dX2_copyFrom_108 (by decide) ?_
  refine pw_copy hx hb (by rw [hml]; exact hl.1.symm) (own := RX2) (index := 58) hown (hta _ aw_29) (hta _ aw_31) (hta _ aw_30) (hta _ aw_3) hK hP hD hS 22 7 0 rfl rfl rfl rfl rfl (by decide) (by decide) (fun _ _ => rfl) (Nat.le_of_ble_eq_true rfl) (by decide) dX2_copyFrom_110 (fun H locs hP hD hS => ?_)
  have hP : va_P D vwCl (WPx cy q (v 0 0) (v 1) (v 2) (v 3) (v 4) (v 5) (v 6) (v 7) (u 8) (u 9) (u 10) (u 11) (u 12) (u 13) (u 14 0) (u 15) ++ WP cy q2 v) H := hP
  have hD : va_D A (WPx cy q (v 0 0) (v 1) (v 2) (v 3) (v 4) (v 5) (v 6) (v 7) (u 8) (u 9) (u 10) (u 11) (u 12) (u 13) (u 14 0) (u 15) ++ WP cy q2 v) := hD
  refine lv_aload_n hx hb dX2_copyFrom_113 rfl (lv_at hl 1 rfl) ?_
  refine va_get (D := D) (ci := 2) (v := .ref (q2 8)) (C := RX2) (T := TX2) (N := 16) hx hb hts hin hown hK hP 15 rfl rfl 8 (by decide) (hta _ aw_42) (fun _ h9 => h9) rfl dX2_copyFrom_114 ?_
  refine lv_iconst (v := 0) hx hb dX2_copyFrom_117 (by decide) ?_
  refine lv_aload_n hx hb dX2_copyFrom_118 rfl (lv_at hl 0 rfl) ?_
  refine va_get (D := D) (ci := 2) (v := .ref (q 8)) (C := RX2) (T := TX2) (N := 16) hx hb hts hin hown hK hP 0 rfl rfl 8 (by decide) (hta _ aw_42) (fun _ h9 => h9) rfl dX2_copyFrom_119 ?_
  refine lv_iconst (v := 0) hx hb dX2_copyFrom_122 (by decide) ?_
  refine lv_bipush (v := 8) hx hb dX2_copyFrom_123 (by decide) ?_
  refine pw_copy hx hb (by rw [hml]; exact hl.1.symm) (own := RX2) (index := 58) hown (hta _ aw_29) (hta _ aw_31) (hta _ aw_30) (hta _ aw_3) hK hP hD hS 23 8 1 rfl rfl rfl rfl rfl (by decide) (by decide) hf8 (Nat.le_of_ble_eq_true rfl) (by decide) dX2_copyFrom_125 (fun H locs hP hD hS => ?_)
  have hP : va_P D vwCl (WPx cy q (v 0 0) (v 1) (v 2) (v 3) (v 4) (v 5) (v 6) (v 7) (v 8) (u 9) (u 10) (u 11) (u 12) (u 13) (u 14 0) (u 15) ++ WP cy q2 v) H := hP
  have hD : va_D A (WPx cy q (v 0 0) (v 1) (v 2) (v 3) (v 4) (v 5) (v 6) (v 7) (v 8) (u 9) (u 10) (u 11) (u 12) (u 13) (u 14 0) (u 15) ++ WP cy q2 v) := hD
  refine lv_aload_n hx hb dX2_copyFrom_128 rfl (lv_at hl 1 rfl) ?_
  refine va_get (D := D) (ci := 2) (v := .ref (q2 9)) (C := RX2) (T := TX2) (N := 16) hx hb hts hin hown hK hP 15 rfl rfl 9 (by decide) (hta _ aw_43) (fun _ h9 => h9) rfl dX2_copyFrom_129 ?_
  refine lv_iconst (v := 0) hx hb dX2_copyFrom_132 (by decide) ?_
  refine lv_aload_n hx hb dX2_copyFrom_133 rfl (lv_at hl 0 rfl) ?_
  refine va_get (D := D) (ci := 2) (v := .ref (q 9)) (C := RX2) (T := TX2) (N := 16) hx hb hts hin hown hK hP 0 rfl rfl 9 (by decide) (hta _ aw_43) (fun _ h9 => h9) rfl dX2_copyFrom_134 ?_
  refine lv_iconst (v := 0) hx hb dX2_copyFrom_137 (by decide) ?_
  refine lv_bipush (v := 8) hx hb dX2_copyFrom_138 (by decide) ?_
  refine pw_copy hx hb (by rw [hml]; exact hl.1.symm) (own := RX2) (index := 58) hown (hta _ aw_29) (hta _ aw_31) (hta _ aw_30) (hta _ aw_3) hK hP hD hS 24 9 0 rfl rfl rfl rfl rfl (by decide) (by decide) (fun _ _ => rfl) (Nat.le_of_ble_eq_true rfl) (by decide) dX2_copyFrom_140 (fun H locs hP hD hS => ?_)
  have hP : va_P D vwCl (WPx cy q (v 0 0) (v 1) (v 2) (v 3) (v 4) (v 5) (v 6) (v 7) (v 8) (v 9) (u 10) (u 11) (u 12) (u 13) (u 14 0) (u 15) ++ WP cy q2 v) H := hP
  have hD : va_D A (WPx cy q (v 0 0) (v 1) (v 2) (v 3) (v 4) (v 5) (v 6) (v 7) (v 8) (v 9) (u 10) (u 11) (u 12) (u 13) (u 14 0) (u 15) ++ WP cy q2 v) := hD
  refine lv_aload_n hx hb dX2_copyFrom_143 rfl (lv_at hl 1 rfl) ?_
  refine va_get (D := D) (ci := 2) (v := .ref (q2 10)) (C := RX2) (T := TX2) (N := 16) hx hb hts hin hown hK hP 15 rfl rfl 10 (by decide) (hta _ aw_45) (fun _ h9 => h9) rfl dX2_copyFrom_144 ?_
  refine lv_iconst (v := 0) hx hb dX2_copyFrom_147 (by decide) ?_
  refine lv_aload_n hx hb dX2_copyFrom_148 rfl (lv_at hl 0 rfl) ?_
  refine va_get (D := D) (ci := 2) (v := .ref (q 10)) (C := RX2) (T := TX2) (N := 16) hx hb hts hin hown hK hP 0 rfl rfl 10 (by decide) (hta _ aw_45) (fun _ h9 => h9) rfl dX2_copyFrom_149 ?_
  refine lv_iconst (v := 0) hx hb dX2_copyFrom_152 (by decide) ?_
  refine lv_bipush (v := 8) hx hb dX2_copyFrom_153 (by decide) ?_
  refine pw_copy hx hb (by rw [hml]; exact hl.1.symm) (own := RX2) (index := 58) hown (hta _ aw_29) (hta _ aw_31) (hta _ aw_30) (hta _ aw_3) hK hP hD hS 25 10 0 rfl rfl rfl rfl rfl (by decide) (by decide) (fun _ _ => rfl) (Nat.le_of_ble_eq_true rfl) (by decide) dX2_copyFrom_155 (fun H locs hP hD hS => ?_)
  have hP : va_P D vwCl (WPx cy q (v 0 0) (v 1) (v 2) (v 3) (v 4) (v 5) (v 6) (v 7) (v 8) (v 9) (v 10) (u 11) (u 12) (u 13) (u 14 0) (u 15) ++ WP cy q2 v) H := hP
  have hD : va_D A (WPx cy q (v 0 0) (v 1) (v 2) (v 3) (v 4) (v 5) (v 6) (v 7) (v 8) (v 9) (v 10) (u 11) (u 12) (u 13) (u 14 0) (u 15) ++ WP cy q2 v) := hD
  refine lv_aload_n hx hb dX2_copyFrom_158 rfl (lv_at hl 1 rfl) ?_
  refine va_get (D := D) (ci := 2) (v := .ref (q2 11)) (C := RX2) (T := TX2) (N := 16) hx hb hts hin hown hK hP 15 rfl rfl 11 (by decide) (hta _ aw_46) (fun _ h9 => h9) rfl dX2_copyFrom_159 ?_
  refine lv_iconst (v := 0) hx hb dX2_copyFrom_162 (by decide) ?_
  refine lv_aload_n hx hb dX2_copyFrom_163 rfl (lv_at hl 0 rfl) ?_
  refine va_get (D := D) (ci := 2) (v := .ref (q 11)) (C := RX2) (T := TX2) (N := 16) hx hb hts hin hown hK hP 0 rfl rfl 11 (by decide) (hta _ aw_46) (fun _ h9 => h9) rfl dX2_copyFrom_164 ?_
  refine lv_iconst (v := 0) hx hb dX2_copyFrom_167 (by decide) ?_
  refine lv_bipush (v := 8) hx hb dX2_copyFrom_168 (by decide) ?_
  refine pw_copy hx hb (by rw [hml]; exact hl.1.symm) (own := RX2) (index := 58) hown (hta _ aw_29) (hta _ aw_31) (hta _ aw_30) (hta _ aw_3) hK hP hD hS 26 11 0 rfl rfl rfl rfl rfl (by decide) (by decide) (fun _ _ => rfl) (Nat.le_of_ble_eq_true rfl) (by decide) dX2_copyFrom_170 (fun H locs hP hD hS => ?_)
  have hP : va_P D vwCl (WPx cy q (v 0 0) (v 1) (v 2) (v 3) (v 4) (v 5) (v 6) (v 7) (v 8) (v 9) (v 10) (v 11) (u 12) (u 13) (u 14 0) (u 15) ++ WP cy q2 v) H := hP
  have hD : va_D A (WPx cy q (v 0 0) (v 1) (v 2) (v 3) (v 4) (v 5) (v 6) (v 7) (v 8) (v 9) (v 10) (v 11) (u 12) (u 13) (u 14 0) (u 15) ++ WP cy q2 v) := hD
  refine lv_aload_n hx hb dX2_copyFrom_173 rfl (lv_at hl 1 rfl) ?_
  refine va_get (D := D) (ci := 2) (v := .ref (q2 12)) (C := RX2) (T := TX2) (N := 16) hx hb hts hin hown hK hP 15 rfl rfl 12 (by decide) (hta _ aw_47) (fun _ h9 => h9) rfl dX2_copyFrom_174 ?_
  refine lv_iconst (v := 0) hx hb dX2_copyFrom_177 (by decide) ?_
  refine lv_aload_n hx hb dX2_copyFrom_178 rfl (lv_at hl 0 rfl) ?_
  refine va_get (D := D) (ci := 2) (v := .ref (q 12)) (C := RX2) (T := TX2) (N := 16) hx hb hts hin hown hK hP 0 rfl rfl 12 (by decide) (hta _ aw_47) (fun _ h9 => h9) rfl dX2_copyFrom_179 ?_
  refine lv_iconst (v := 0) hx hb dX2_copyFrom_182 (by decide) ?_
  refine lv_bipush (v := 8) hx hb dX2_copyFrom_183 (by decide) ?_
  refine pw_copy hx hb (by rw [hml]; exact hl.1.symm) (own := RX2) (index := 58) hown (hta _ aw_29) (hta _ aw_31) (hta _ aw_30) (hta _ aw_3) hK hP hD hS 27 12 0 rfl rfl rfl rfl rfl (by decide) (by decide) (fun _ _ => rfl) (Nat.le_of_ble_eq_true rfl) (by decide) dX2_copyFrom_185 (fun H locs hP hD hS => ?_)
  have hP : va_P D vwCl (WPx cy q (v 0 0) (v 1) (v 2) (v 3) (v 4) (v 5) (v 6) (v 7) (v 8) (v 9) (v 10) (v 11) (v 12) (u 13) (u 14 0) (u 15) ++ WP cy q2 v) H := hP
  have hD : va_D A (WPx cy q (v 0 0) (v 1) (v 2) (v 3) (v 4) (v 5) (v 6) (v 7) (v 8) (v 9) (v 10) (v 11) (v 12) (u 13) (u 14 0) (u 15) ++ WP cy q2 v) := hD
  refine lv_aload_n hx hb dX2_copyFrom_188 rfl (lv_at hl 1 rfl) ?_
  refine va_get (D := D) (ci := 2) (v := .ref (q2 13)) (C := RX2) (T := TX2) (N := 16) hx hb hts hin hown hK hP 15 rfl rfl 13 (by decide) (hta _ aw_48) (fun _ h9 => h9) rfl dX2_copyFrom_189 ?_
  refine lv_iconst (v := 0) hx hb dX2_copyFrom_192 (by decide) ?_
  refine lv_aload_n hx hb dX2_copyFrom_193 rfl (lv_at hl 0 rfl) ?_
  refine va_get (D := D) (ci := 2) (v := .ref (q 13)) (C := RX2) (T := TX2) (N := 16) hx hb hts hin hown hK hP 0 rfl rfl 13 (by decide) (hta _ aw_48) (fun _ h9 => h9) rfl dX2_copyFrom_194 ?_
  refine lv_iconst (v := 0) hx hb dX2_copyFrom_197 (by decide) ?_
  refine lv_bipush (v := 8) hx hb dX2_copyFrom_198 (by decide) ?_
  refine pw_copy hx hb (by rw [hml]; exact hl.1.symm) (own := RX2) (index := 58) hown (hta _ aw_29) (hta _ aw_31) (hta _ aw_30) (hta _ aw_3) hK hP hD hS 28 13 0 rfl rfl rfl rfl rfl (by decide) (by decide) (fun _ _ => rfl) (Nat.le_of_ble_eq_true rfl) (by decide) dX2_copyFrom_200 (fun H locs hP hD hS => ?_)
  have hP : va_P D vwCl (WPx cy q (v 0 0) (v 1) (v 2) (v 3) (v 4) (v 5) (v 6) (v 7) (v 8) (v 9) (v 10) (v 11) (v 12) (v 13) (u 14 0) (u 15) ++ WP cy q2 v) H := hP
  have hD : va_D A (WPx cy q (v 0 0) (v 1) (v 2) (v 3) (v 4) (v 5) (v 6) (v 7) (v 8) (v 9) (v 10) (v 11) (v 12) (v 13) (u 14 0) (u 15) ++ WP cy q2 v) := hD
  refine lv_aload_n hx hb dX2_copyFrom_203 rfl (lv_at hl 0 rfl) ?_
  refine lv_aload_n hx hb dX2_copyFrom_204 rfl (lv_at hl 1 rfl) ?_
  refine va_get (D := D) (ci := 2) (v := .int (v 14 0)) (C := RX2) (T := TX2) (N := 16) hx hb hts hin hown hK hP 15 rfl rfl 14 (by decide) (hta _ aw_49) (fun _ h9 => h9) rfl dX2_copyFrom_205 ?_
  refine va_put (D := D) (ci := 2) (v := .int (v 14 0)) (ty := .int) (C := RX2) (T := TX2) (N := 16) hx hb hts hin tyX2 tyX2_ok nmX2 hown hK hP hD hS 0 rfl rfl 14 (by decide) (hta _ aw_49) (fun _ h9 => h9) rfl (by decide +kernel) rfl rfl (Nat.le_of_ble_eq_true rfl) dX2_copyFrom_208 (fun H locs hP hD hS => ?_)
  have hP : va_P D vwCl (WPx cy q (v 0 0) (v 1) (v 2) (v 3) (v 4) (v 5) (v 6) (v 7) (v 8) (v 9) (v 10) (v 11) (v 12) (v 13) (v 14 0) (u 15) ++ WP cy q2 v) H := hP
  have hD : va_D A (WPx cy q (v 0 0) (v 1) (v 2) (v 3) (v 4) (v 5) (v 6) (v 7) (v 8) (v 9) (v 10) (v 11) (v 12) (v 13) (v 14 0) (u 15) ++ WP cy q2 v) := hD
  refine lv_aload_n hx hb dX2_copyFrom_211 rfl (lv_at hl 1 rfl) ?_
  refine va_get (D := D) (ci := 2) (v := .ref (q2 15)) (C := RX2) (T := TX2) (N := 16) hx hb hts hin hown hK hP 15 rfl rfl 15 (by decide) (hta _ aw_51) (fun _ h9 => h9) rfl dX2_copyFrom_212 ?_
  refine lv_iconst (v := 0) hx hb dX2_copyFrom_215 (by decide) ?_
  refine lv_aload_n hx hb dX2_copyFrom_216 rfl (lv_at hl 0 rfl) ?_
  refine va_get (D := D) (ci := 2) (v := .ref (q 15)) (C := RX2) (T := TX2) (N := 16) hx hb hts hin hown hK hP 0 rfl rfl 15 (by decide) (hta _ aw_51) (fun _ h9 => h9) rfl dX2_copyFrom_217 ?_
  refine lv_iconst (v := 0) hx hb dX2_copyFrom_220 (by decide) ?_
  refine lv_bipush (v := 7) hx hb dX2_copyFrom_221 (by decide) ?_
  refine pw_copy hx hb (by rw [hml]; exact hl.1.symm) (own := RX2) (index := 58) hown (hta _ aw_29) (hta _ aw_31) (hta _ aw_30) (hta _ aw_3) hK hP hD hS 29 14 0 rfl rfl rfl rfl rfl (by decide) (by decide) (fun _ _ => rfl) (Nat.le_of_ble_eq_true rfl) (by decide) dX2_copyFrom_223 (fun H locs hP hD hS => ?_)
  have hP : va_P D vwCl (WPx cy q (v 0 0) (v 1) (v 2) (v 3) (v 4) (v 5) (v 6) (v 7) (v 8) (v 9) (v 10) (v 11) (v 12) (v 13) (v 14 0) (v 15) ++ WP cy q2 v) H := hP
  have hD : va_D A (WPx cy q (v 0 0) (v 1) (v 2) (v 3) (v 4) (v 5) (v 6) (v 7) (v 8) (v 9) (v 10) (v 11) (v 12) (v 13) (v 14 0) (v 15) ++ WP cy q2 v) := hD
  have hP : va_P D vwCl (WP cy q v ++ WP cy q2 v) H := hP
  exact pw_rv hx hb hr hlk hAe hP hS dX2_copyFrom_226
/-- a call over cells that stand apart in the caller's world -/
theorem pw_gv {p : Program} {l : Launch} {e : Env} {R : Room} {s : State} {m : MethodId} {args : Array Value} {below : List Frame} {meth : Method} {c : Code} {H : Heap} {locs : List Loc} {cells slots : Nat} {Q : State → Prop} {cc : ByteArray} {D : va_G} {cy : Nat → ClassId} {A : Nat → Prop} {pc : Nat} {ls : Array Slot} {bytes : ByteArray} {maxL nL n index : Nat} {ret : Option FieldType} {ws Ts : List Cond} {rm : Room} {own C : String} {y : MethodName} {a : Addr} {As rest st0 : List Value} {H0 : Heap} {ws0 ws1 wc wr w1 : va_W} (S : CallFix p m c cc nL s args Ts own) (hM : Met l y ws rm (pw_Pre D cy (.ref a :: As) wc H.size) (pw_V D wc w1 H.size) 0 0 (va_A wc H.size)) (cw : CallW R s args own C index y bytes maxL ret ws rm 0 0 n) (ci : Nat) (q : vw_C) (hq : vwCl[ci]? = some q) (hqC : q.1 = C) (hrc : ∃ (k : Nat) (fs : List Value), wc[k]? = some (a, .inr (ci, fs))) (hK : va_K D vwCl (pw_tys cy) s) (hP : va_P D vwCl ws0 H) (hD : va_D A ws0) (hS : va_S A H0 H locs) (hA : ∀ q : Nat, H0.size ≤ q → A q) (isC isR perm : List Nat) (hC : isC.map (fun i => ws0[i]?) = wc.map some) (hR : isR.map (fun i => ws0[i]?) = wr.map some) (hnd : va_nd isR = true) (hnc : va_nd isC = true) (hdis : ∀ i ∈ isR, i ∉ isC) (hperm : perm.filterMap (fun i => (wr ++ w1)[i]?) = ws1) (hadr : ws1.map Prod.fst = ws0.map Prod.fst) (hn : As.length = n) (hsz : ls.size = nL) (hst : st0 = As.reverse ++ .ref a :: rest) (hW : (rest.map fun v => v.category).sum ≤ 8) (hdg : decode cc pc = .ok (.invokevirtual index, 3)) (hRm : cells ≤ R.cells ∧ slots ≤ R.slots)
    (hw1 : w1.map Prod.fst = wc.map Prod.fst)
    (kk : ∀ (H1 : Heap) (locs1 : List Loc), va_P D vwCl ws1 H1 → va_D A ws1 → va_S A H0 H1 locs1 → W p l e R s m args below meth c H1 locs1 cells slots Q (F0 m (pc + 3) ls rest)) : W p l e R s m args below meth c H locs cells slots Q (F0 m pc ls st0) := by
  subst hqC
  obtain ⟨k, fs, hrc⟩ := hrc
  have at' : ∀ (k : Nat) (q : Nat × va_E), wc[k]? = some q → ∃ i, isC[k]? = some i ∧ ws0[i]? = some q := by
    intro k q hq
    have h1 : (isC.map (fun i => ws0[i]?))[k]? = some (some q) := by rw [hC, List.getElem?_map, hq]; rfl
    rw [List.getElem?_map] at h1
    cases hi : isC[k]? with
    | none => rw [hi] at h1; cases h1
    | some i => rw [hi] at h1; exact ⟨i, rfl, Option.some.inj h1⟩
  have hPc : va_P D vwCl wc H := fun k q hk => by
    obtain ⟨i, -, h2⟩ := at' k q hk
    exact hP i q h2
  have hDc : va_D A wc := hD.sub isC hnc hC
  have hF := pw_own hDc hS hA
  refine va_callv (va_runV (rest := rest) S hM cw ⟨pw_blind, va_recv hK hPc hq hrc, pw_pre hPc hK hDc⟩ rfl hn hsz hst (lv_room (pc := pc) (ls := ls) (m := m) hW) hdg hRm) hS (fun q _ h => hF q h) hF (fun u t H1 locs1 ht hvm hw hB hz hk hS1 => ?_)
  rw [ht] at hB
  have hD1 : va_D (va_A wc H.size) w1 := pw_adr hDc.self hw1
  obtain ⟨hP2, -⟩ := va_join (wr := wr) (w1 := w1) hP hD isC isR hC hR hnd hdis hk hF hB hD1
  exact kk H1 locs1 (hP2.sub perm hperm) (pw_adr hD hadr) hS1
def fX1_save (P : Nat → Nat → Int32) (S : Nat → Nat → Nat → Int32) (nw hz : Int32) : Option ((Nat → Nat → Nat → Int32) × Int32 × Int32) :=
  if pq_in ((nw + 1) - (nw + 1) / 6 * 6) 6 then
  (fX2_copyFrom P).bind fun w =>
  some (fun j => if j = ((nw + 1) - (nw + 1) / 6 * 6).toNatClampNeg then w else S j, (nw + 1) - (nw + 1) / 6 * 6, if 6 < hz + 1 then 6 else hz + 1)
  else none
def fX1_restore (P : Nat → Nat → Int32) (S : Nat → Nat → Nat → Int32) (nw hz : Int32) : Option ((Nat → Nat → Int32) × Int32 × Int32) :=
  if pq_in nw 6 then
  (fX2_copyFrom (S nw.toNatClampNeg)).bind fun w =>
  some (w, ((nw + 6) - 1) - ((nw + 6) - 1) / 6 * 6, hz - 1)
  else none
def aX1_save : List Cond := Cond.code yX1_save cX1_save 2 none :: pw_all
theorem pX1_save : yX1_save.cls = RX1 ∧ yX1_save.cls ≠ "java/lang/invoke/MethodHandle" ∧ yX1_save.cls ≠ "java/lang/invoke/VarHandle" ∧ (parseMethodDescriptor yX1_save.desc).map (fun d => d.parameters.length) = some 1 := by decide +kernel
set_option maxHeartbeats 8000000 in
set_option maxRecDepth 100000 in
theorem kX1_save (l : Launch) (D : va_G) (cy : Nat → ClassId) (qa : Nat → Nat → Nat) (sz : Nat) (P : Nat → Nat → Int32) (S : Nat → Nat → Nat → Int32) (nw hz : Int32) (o : (Nat → Nat → Nat → Int32) × Int32 × Int32) (h : fX1_save P S nw hz = some o) : Met l yX1_save aX1_save ({ frames := 2, cells := 0, slots := 0, locals := 90 }) (pw_Pre D cy [.ref (qa 4 0), .ref (qa 1 0)] (WP cy (qa 1) P ++ WH cy qa S nw hz) sz) (pw_V D (WP cy (qa 1) P ++ WH cy qa S nw hz) (WP cy (qa 1) P ++ WH cy qa o.1 o.2.1 o.2.2) sz) 0 0 (va_A (WP cy (qa 1) P ++ WH cy qa S nw hz) sz) := by
  refine pw_met (cc := cX1_save) (maxL := 2) (ret := none) (by decide) rfl (Nat.le_of_ble_eq_true rfl) ?_
  intro p e s m args below meth c ls A hx hb hr hml hlk hts hown hAe hA hK hP hD hS hl
  have hl : lv_has ls 2 [(0, .ref (qa 4 0)), (1, .ref (qa 1 0))] := hl
  have hF : CallFix p m c cX1_save 2 s args aX1_save RX1 := ⟨hx, hb, hml, hown, hts⟩
  have hta : ∀ w ∈ pw_all, w.before args s = true := fun w h => hts w (List.mem_cons_of_mem _ h)
  have hin : ∀ w ∈ wsX10, w ∈ aX1_save := fun w h => List.mem_cons_of_mem _ (inA1 w h)
  unfold fX1_save at h
  obtain ⟨hg, h⟩ := pq_g h
  obtain ⟨w9, hw9, h⟩ := pq_b h
  obtain rfl := Option.some.inj h
  refine lv_aload_n hx hb dX1_save_0 rfl (lv_at hl 0 rfl) ?_
  refine lv_aload_n hx hb dX1_save_1 rfl (lv_at hl 0 rfl) ?_
  refine va_get (D := D) (ci := 1) (v := .int nw) (C := RX1) (T := TX1) (N := 3) hx hb hts hin hown hK hP 15 rfl rfl 1 (by decide) (hta _ aw_98) (fun _ h9 => h9) rfl dX1_save_2 ?_
  refine lv_iconst (v := 1) hx hb dX1_save_5 (by decide) ?_
  refine lv_iadd hx hb dX1_save_6 ?_
  refine lv_bipush (v := 6) hx hb dX1_save_7 (by decide) ?_
  refine lv_irem hx hb dX1_save_9 (by decide) ?_
  refine va_put (D := D) (ci := 1) (v := .int ((nw + 1) - (nw + 1) / 6 * 6)) (ty := .int) (C := RX1) (T := TX1) (N := 3) hx hb hts hin tyX1 tyX1_ok nmX1 hown hK hP hD hS 15 rfl rfl 1 (by decide) (hta _ aw_98) (fun _ h9 => h9) rfl (by decide +kernel) rfl rfl (Nat.le_of_ble_eq_true rfl) dX1_save_10 (fun H locs hP hD hS => ?_)
  have hP : va_P D vwCl (WP cy (qa 1) P ++ WH cy qa S ((nw + 1) - (nw + 1) / 6 * 6) hz) H := hP
  have hD : va_D A (WP cy (qa 1) P ++ WH cy qa S ((nw + 1) - (nw + 1) / 6 * 6) hz) := hD
  refine lv_aload_n hx hb dX1_save_13 rfl (lv_at hl 0 rfl) ?_
  refine va_get (D := D) (ci := 1) (v := .ref (qa 4 1)) (C := RX1) (T := TX1) (N := 3) hx hb hts hin hown hK hP 15 rfl rfl 0 (by decide) (hta _ aw_97) (fun _ h9 => h9) rfl dX1_save_14 ?_
  refine lv_aload_n hx hb dX1_save_17 rfl (lv_at hl 0 rfl) ?_
  refine va_get (D := D) (ci := 1) (v := .int ((nw + 1) - (nw + 1) / 6 * 6)) (C := RX1) (T := TX1) (N := 3) hx hb hts hin hown hK hP 15 rfl rfl 1 (by decide) (hta _ aw_98) (fun _ h9 => h9) rfl dX1_save_18 ?_
  refine va_aldq hx hb hK hP 16 2 rfl rfl (pq_vp hg) dX1_save_21 ?_
  have hlt : (((nw + 1) - (nw + 1) / 6 * 6)).toNatClampNeg < 6 := by simp only [pq_in, Bool.and_eq_true, decide_eq_true_eq] at hg; exact hg.2
  generalize hi : (((nw + 1) - (nw + 1) / 6 * 6)).toNatClampNeg = i at hlt ⊢
  refine lv_aload_n hx hb dX1_save_22 rfl (lv_at hl 1 rfl) ?_
  rcases (show i = 0 ∨ i = 1 ∨ i = 2 ∨ i = 3 ∨ i = 4 ∨ i = 5 by omega) with rfl | rfl | rfl | rfl | rfl | rfl
  · refine pw_gv (ws0 := WP cy (qa 1) P ++ WH cy qa S ((nw + 1) - (nw + 1) / 6 * 6) hz) (ws1 := WP cy (qa 1) P ++ WH cy qa (fun j => if j = 0 then w9 else S j) ((nw + 1) - (nw + 1) / 6 * 6) hz) (wc := WP cy (qa 5) (S 0) ++ WP cy (qa 1) P) (w1 := WP cy (qa 5) w9 ++ WP cy (qa 1) P) (wr := WHh cy qa ((nw + 1) - (nw + 1) / 6 * 6) hz ++ (WP cy (qa 6) (S 1) ++ (WP cy (qa 7) (S 2) ++ (WP cy (qa 8) (S 3) ++ (WP cy (qa 9) (S 4) ++ (WP cy (qa 10) (S 5))))))) (rest := []) (As := [.ref (qa 1 0)]) hF (kX2_copyFrom l D cy (qa 5) (qa 1) _ (S 0) P w9 hw9) (cwV 1 hts (pw_gV (own := RX1) (idx := 20) (C := RX2) (y := yX2_copyFrom) aw_241 aw_242 aw_243 aw_2 aw_244) rfl rfl rfl pX2_copyFrom ⟨Nat.le_of_ble_eq_true rfl, Nat.le_of_ble_eq_true rfl⟩) 2 (RX2, TX2, 16) rfl rfl ⟨0, _, rfl⟩ hK hP hD hS hA [17, 18, 19, 20, 21, 22, 23, 24, 25, 26, 27, 28, 29, 30, 31, 0, 1, 2, 3, 4, 5, 6, 7, 8, 9, 10, 11, 12, 13, 14] [15, 16, 32, 33, 34, 35, 36, 37, 38, 39, 40, 41, 42, 43, 44, 45, 46, 47, 48, 49, 50, 51, 52, 53, 54, 55, 56, 57, 58, 59, 60, 61, 62, 63, 64, 65, 66, 67, 68, 69, 70, 71, 72, 73, 74, 75, 76, 77, 78, 79, 80, 81, 82, 83, 84, 85, 86, 87, 88, 89, 90, 91, 92, 93, 94, 95, 96, 97, 98, 99, 100, 101, 102, 103, 104, 105, 106] [92, 93, 94, 95, 96, 97, 98, 99, 100, 101, 102, 103, 104, 105, 106, 0, 1, 77, 78, 79, 80, 81, 82, 83, 84, 85, 86, 87, 88, 89, 90, 91, 2, 3, 4, 5, 6, 7, 8, 9, 10, 11, 12, 13, 14, 15, 16, 17, 18, 19, 20, 21, 22, 23, 24, 25, 26, 27, 28, 29, 30, 31, 32, 33, 34, 35, 36, 37, 38, 39, 40, 41, 42, 43, 44, 45, 46, 47, 48, 49, 50, 51, 52, 53, 54, 55, 56, 57, 58, 59, 60, 61, 62, 63, 64, 65, 66, 67, 68, 69, 70, 71, 72, 73, 74, 75, 76] rfl rfl (by decide) (by decide) (by decide) rfl rfl rfl hl.1 rfl (Nat.le_of_ble_eq_true rfl) dX1_save_23 ⟨Nat.zero_le _, Nat.zero_le _⟩ rfl (fun H locs hP hD hS => ?_)
    refine lv_aload_n hx hb dX1_save_26 rfl (lv_at hl 0 rfl) ?_
    refine lv_aload_n hx hb dX1_save_27 rfl (lv_at hl 0 rfl) ?_
    refine va_get (D := D) (ci := 1) (v := .int hz) (C := RX1) (T := TX1) (N := 3) hx hb hts hin hown hK hP 15 rfl rfl 2 (by decide) (hta _ aw_99) (fun _ h9 => h9) rfl dX1_save_28 ?_
    refine lv_iconst (v := 1) hx hb dX1_save_31 (by decide) ?_
    refine lv_iadd hx hb dX1_save_32 ?_
    refine lv_bipush (v := 6) hx hb dX1_save_33 (by decide) ?_
    refine va_mmin hx hb (by rw [hml]; exact hl.1.symm) (own := RX1) (index := 27) hown (hta _ aw_245) (hta _ aw_246) (hta _ aw_11) (hta _ aw_247) (Nat.le_of_ble_eq_true rfl) (Nat.le_of_ble_eq_true rfl) (Nat.zero_le _) (Nat.zero_le _) dX1_save_35 ?_
    refine va_put (D := D) (ci := 1) (v := .int (if 6 < hz + 1 then 6 else hz + 1)) (ty := .int) (C := RX1) (T := TX1) (N := 3) hx hb hts hin tyX1 tyX1_ok nmX1 hown hK hP hD hS 15 rfl rfl 2 (by decide) (hta _ aw_99) (fun _ h9 => h9) rfl (by decide +kernel) rfl rfl (Nat.le_of_ble_eq_true rfl) dX1_save_38 (fun H locs hP hD hS => ?_)
    have hP : va_P D vwCl (WP cy (qa 1) P ++ WH cy qa (fun j => if j = 0 then w9 else S j) ((nw + 1) - (nw + 1) / 6 * 6) (if 6 < hz + 1 then 6 else hz + 1)) H := hP
    have hD : va_D A (WP cy (qa 1) P ++ WH cy qa (fun j => if j = 0 then w9 else S j) ((nw + 1) - (nw + 1) / 6 * 6) (if 6 < hz + 1 then 6 else hz + 1)) := hD
    exact pw_rv hx hb hr hlk hAe hP hS dX1_save_41
  · refine pw_gv (ws0 := WP cy (qa 1) P ++ WH cy qa S ((nw + 1) - (nw + 1) / 6 * 6) hz) (ws1 := WP cy (qa 1) P ++ WH cy qa (fun j => if j = 1 then w9 else S j) ((nw + 1) - (nw + 1) / 6 * 6) hz) (wc := WP cy (qa 6) (S 1) ++ WP cy (qa 1) P) (w1 := WP cy (qa 6) w9 ++ WP cy (qa 1) P) (wr := WHh cy qa ((nw + 1) - (nw + 1) / 6 * 6) hz ++ (WP cy (qa 5) (S 0) ++ (WP cy (qa 7) (S 2) ++ (WP cy (qa 8) (S 3) ++ (WP cy (qa 9) (S 4) ++ (WP cy (qa 10) (S 5))))))) (rest := []) (As := [.ref (qa 1 0)]) hF (kX2_copyFrom l D cy (qa 6) (qa 1) _ (S 1) P w9 hw9) (cwV 1 hts (pw_gV (own := RX1) (idx := 20) (C := RX2) (y := yX2_copyFrom) aw_241 aw_242 aw_243 aw_2 aw_244) rfl rfl rfl pX2_copyFrom ⟨Nat.le_of_ble_eq_true rfl, Nat.le_of_ble_eq_true rfl⟩) 2 (RX2, TX2, 16) rfl rfl ⟨0, _, rfl⟩ hK hP hD hS hA [32, 33, 34, 35, 36, 37, 38, 39, 40, 41, 42, 43, 44, 45, 46, 0, 1, 2, 3, 4, 5, 6, 7, 8, 9, 10, 11, 12, 13, 14] [15, 16, 17, 18, 19, 20, 21, 22, 23, 24, 25, 26, 27, 28, 29, 30, 31, 47, 48, 49, 50, 51, 52, 53, 54, 55, 56, 57, 58, 59, 60, 61, 62, 63, 64, 65, 66, 67, 68, 69, 70, 71, 72, 73, 74, 75, 76, 77, 78, 79, 80, 81, 82, 83, 84, 85, 86, 87, 88, 89, 90, 91, 92, 93, 94, 95, 96, 97, 98, 99, 100, 101, 102, 103, 104, 105, 106] [92, 93, 94, 95, 96, 97, 98, 99, 100, 101, 102, 103, 104, 105, 106, 0, 1, 2, 3, 4, 5, 6, 7, 8, 9, 10, 11, 12, 13, 14, 15, 16, 77, 78, 79, 80, 81, 82, 83, 84, 85, 86, 87, 88, 89, 90, 91, 17, 18, 19, 20, 21, 22, 23, 24, 25, 26, 27, 28, 29, 30, 31, 32, 33, 34, 35, 36, 37, 38, 39, 40, 41, 42, 43, 44, 45, 46, 47, 48, 49, 50, 51, 52, 53, 54, 55, 56, 57, 58, 59, 60, 61, 62, 63, 64, 65, 66, 67, 68, 69, 70, 71, 72, 73, 74, 75, 76] rfl rfl (by decide) (by decide) (by decide) rfl rfl rfl hl.1 rfl (Nat.le_of_ble_eq_true rfl) dX1_save_23 ⟨Nat.zero_le _, Nat.zero_le _⟩ rfl (fun H locs hP hD hS => ?_)
    refine lv_aload_n hx hb dX1_save_26 rfl (lv_at hl 0 rfl) ?_
    refine lv_aload_n hx hb dX1_save_27 rfl (lv_at hl 0 rfl) ?_
    refine va_get (D := D) (ci := 1) (v := .int hz) (C := RX1) (T := TX1) (N := 3) hx hb hts hin hown hK hP 15 rfl rfl 2 (by decide) (hta _ aw_99) (fun _ h9 => h9) rfl dX1_save_28 ?_
    refine lv_iconst (v := 1) hx hb dX1_save_31 (by decide) ?_
    refine lv_iadd hx hb dX1_save_32 ?_
    refine lv_bipush (v := 6) hx hb dX1_save_33 (by decide) ?_
    refine va_mmin hx hb (by rw [hml]; exact hl.1.symm) (own := RX1) (index := 27) hown (hta _ aw_245) (hta _ aw_246) (hta _ aw_11) (hta _ aw_247) (Nat.le_of_ble_eq_true rfl) (Nat.le_of_ble_eq_true rfl) (Nat.zero_le _) (Nat.zero_le _) dX1_save_35 ?_
    refine va_put (D := D) (ci := 1) (v := .int (if 6 < hz + 1 then 6 else hz + 1)) (ty := .int) (C := RX1) (T := TX1) (N := 3) hx hb hts hin tyX1 tyX1_ok nmX1 hown hK hP hD hS 15 rfl rfl 2 (by decide) (hta _ aw_99) (fun _ h9 => h9) rfl (by decide +kernel) rfl rfl (Nat.le_of_ble_eq_true rfl) dX1_save_38 (fun H locs hP hD hS => ?_)
    have hP : va_P D vwCl (WP cy (qa 1) P ++ WH cy qa (fun j => if j = 1 then w9 else S j) ((nw + 1) - (nw + 1) / 6 * 6) (if 6 < hz + 1 then 6 else hz + 1)) H := hP
    have hD : va_D A (WP cy (qa 1) P ++ WH cy qa (fun j => if j = 1 then w9 else S j) ((nw + 1) - (nw + 1) / 6 * 6) (if 6 < hz + 1 then 6 else hz + 1)) := hD
    exact pw_rv hx hb hr hlk hAe hP hS dX1_save_41
  · refine pw_gv (ws0 := WP cy (qa 1) P ++ WH cy qa S ((nw + 1) - (nw + 1) / 6 * 6) hz) (ws1 := WP cy (qa 1) P ++ WH cy qa (fun j => if j = 2 then w9 else S j) ((nw + 1) - (nw + 1) / 6 * 6) hz) (wc := WP cy (qa 7) (S 2) ++ WP cy (qa 1) P) (w1 := WP cy (qa 7) w9 ++ WP cy (qa 1) P) (wr := WHh cy qa ((nw + 1) - (nw + 1) / 6 * 6) hz ++ (WP cy (qa 5) (S 0) ++ (WP cy (qa 6) (S 1) ++ (WP cy (qa 8) (S 3) ++ (WP cy (qa 9) (S 4) ++ (WP cy (qa 10) (S 5))))))) (rest := []) (As := [.ref (qa 1 0)]) hF (kX2_copyFrom l D cy (qa 7) (qa 1) _ (S 2) P w9 hw9) (cwV 1 hts (pw_gV (own := RX1) (idx := 20) (C := RX2) (y := yX2_copyFrom) aw_241 aw_242 aw_243 aw_2 aw_244) rfl rfl rfl pX2_copyFrom ⟨Nat.le_of_ble_eq_true rfl, Nat.le_of_ble_eq_true rfl⟩) 2 (RX2, TX2, 16) rfl rfl ⟨0, _, rfl⟩ hK hP hD hS hA [47, 48, 49, 50, 51, 52, 53, 54, 55, 56, 57, 58, 59, 60, 61, 0, 1, 2, 3, 4, 5, 6, 7, 8, 9, 10, 11, 12, 13, 14] [15, 16, 17, 18, 19, 20, 21, 22, 23, 24, 25, 26, 27, 28, 29, 30, 31, 32, 33, 34, 35, 36, 37, 38, 39, 40, 41, 42, 43, 44, 45, 46, 62, 63, 64, 65, 66, 67, 68, 69, 70, 71, 72, 73, 74, 75, 76, 77, 78, 79, 80, 81, 82, 83, 84, 85, 86, 87, 88, 89, 90, 91, 92, 93, 94, 95, 96, 97, 98, 99, 100, 101, 102, 103, 104, 105, 106] [92, 93, 94, 95, 96, 97, 98, 99, 100, 101, 102, 103, 104, 105, 106, 0, 1, 2, 3, 4, 5, 6, 7, 8, 9, 10, 11, 12, 13, 14, 15, 16, 17, 18, 19, 20, 21, 22, 23, 24, 25, 26, 27, 28, 29, 30, 31, 77, 78, 79, 80, 81, 82, 83, 84, 85, 86, 87, 88, 89, 90, 91, 32, 33, 34, 35, 36, 37, 38, 39, 40, 41, 42, 43, 44, 45, 46, 47, 48, 49, 50, 51, 52, 53, 54, 55, 56, 57, 58, 59, 60, 61, 62, 63, 64, 65, 66, 67, 68, 69, 70, 71, 72, 73, 74, 75, 76] rfl rfl (by decide) (by decide) (by decide) rfl rfl rfl hl.1 rfl (Nat.le_of_ble_eq_true rfl) dX1_save_23 ⟨Nat.zero_le _, Nat.zero_le _⟩ rfl (fun H locs hP hD hS => ?_)
    refine lv_aload_n hx hb dX1_save_26 rfl (lv_at hl 0 rfl) ?_
    refine lv_aload_n hx hb dX1_save_27 rfl (lv_at hl 0 rfl) ?_
    refine va_get (D := D) (ci := 1) (v := .int hz) (C := RX1) (T := TX1) (N := 3) hx hb hts hin hown hK hP 15 rfl rfl 2 (by decide) (hta _ aw_99) (fun _ h9 => h9) rfl dX1_save_28 ?_
    refine lv_iconst (v := 1) hx hb dX1_save_31 (by decide) ?_
    refine lv_iadd hx hb dX1_save_32 ?_
    refine lv_bipush (v := 6) hx hb dX1_save_33 (by decide) ?_
    refine va_mmin hx hb (by rw [hml]; exact hl.1.symm) (own := RX1) (index := 27) hown (hta _ aw_245) (hta _ aw_246) (hta _ aw_11) (hta _ aw_247) (Nat.le_of_ble_eq_true rfl) (Nat.le_of_ble_eq_true rfl) (Nat.zero_le _) (Nat.zero_le _) dX1_save_35 ?_
    refine va_put (D := D) (ci := 1) (v := .int (if 6 < hz + 1 then 6 else hz + 1)) (ty := .int) (C := RX1) (T := TX1) (N := 3) hx hb hts hin tyX1 tyX1_ok nmX1 hown hK hP hD hS 15 rfl rfl 2 (by decide) (hta _ aw_99) (fun _ h9 => h9) rfl (by decide +kernel) rfl rfl (Nat.le_of_ble_eq_true rfl) dX1_save_38 (fun H locs hP hD hS => ?_)
    have hP : va_P D vwCl (WP cy (qa 1) P ++ WH cy qa (fun j => if j = 2 then w9 else S j) ((nw + 1) - (nw + 1) / 6 * 6) (if 6 < hz + 1 then 6 else hz + 1)) H := hP
    have hD : va_D A (WP cy (qa 1) P ++ WH cy qa (fun j => if j = 2 then w9 else S j) ((nw + 1) - (nw + 1) / 6 * 6) (if 6 < hz + 1 then 6 else hz + 1)) := hD
    exact pw_rv hx hb hr hlk hAe hP hS dX1_save_41
  · refine pw_gv (ws0 := WP cy (qa 1) P ++ WH cy qa S ((nw + 1) - (nw + 1) / 6 * 6) hz) (ws1 := WP cy (qa 1) P ++ WH cy qa (fun j => if j = 3 then w9 else S j) ((nw + 1) - (nw + 1) / 6 * 6) hz) (wc := WP cy (qa 8) (S 3) ++ WP cy (qa 1) P) (w1 := WP cy (qa 8) w9 ++ WP cy (qa 1) P) (wr := WHh cy qa ((nw + 1) - (nw + 1) / 6 * 6) hz ++ (WP cy (qa 5) (S 0) ++ (WP cy (qa 6) (S 1) ++ (WP cy (qa 7) (S 2) ++ (WP cy (qa 9) (S 4) ++ (WP cy (qa 10) (S 5))))))) (rest := []) (As := [.ref (qa 1 0)]) hF (kX2_copyFrom l D cy (qa 8) (qa 1) _ (S 3) P w9 hw9) (cwV 1 hts (pw_gV (own := RX1) (idx := 20) (C := RX2) (y := yX2_copyFrom) aw_241 aw_242 aw_243 aw_2 aw_244) rfl rfl rfl pX2_copyFrom ⟨Nat.le_of_ble_eq_true rfl, Nat.le_of_ble_eq_true rfl⟩) 2 (RX2, TX2, 16) rfl rfl ⟨0, _, rfl⟩ hK hP hD hS hA [62, 63, 64, 65, 66, 67, 68, 69, 70, 71, 72, 73, 74, 75, 76, 0, 1, 2, 3, 4, 5, 6, 7, 8, 9, 10, 11, 12, 13, 14] [15, 16, 17, 18, 19, 20, 21, 22, 23, 24, 25, 26, 27, 28, 29, 30, 31, 32, 33, 34, 35, 36, 37, 38, 39, 40, 41, 42, 43, 44, 45, 46, 47, 48, 49, 50, 51, 52, 53, 54, 55, 56, 57, 58, 59, 60, 61, 77, 78, 79, 80, 81, 82, 83, 84, 85, 86, 87, 88, 89, 90, 91, 92, 93, 94, 95, 96, 97, 98, 99, 100, 101, 102, 103, 104, 105, 106] [92, 93, 94, 95, 96, 97, 98, 99, 100, 101, 102, 103, 104, 105, 106, 0, 1, 2, 3, 4, 5, 6, 7, 8, 9, 10, 11, 12, 13, 14, 15, 16, 17, 18, 19, 20, 21, 22, 23, 24, 25, 26, 27, 28, 29, 30, 31, 32, 33, 34, 35, 36, 37, 38, 39, 40, 41, 42, 43, 44, 45, 46, 77, 78, 79, 80, 81, 82, 83, 84, 85, 86, 87, 88, 89, 90, 91, 47, 48, 49, 50, 51, 52, 53, 54, 55, 56, 57, 58, 59, 60, 61, 62, 63, 64, 65, 66, 67, 68, 69, 70, 71, 72, 73, 74, 75, 76] rfl rfl (by decide) (by decide) (by decide) rfl rfl rfl hl.1 rfl (Nat.le_of_ble_eq_true rfl) dX1_save_23 ⟨Nat.zero_le _, Nat.zero_le _⟩ rfl (fun H locs hP hD hS => ?_)
    refine lv_aload_n hx hb dX1_save_26 rfl (lv_at hl 0 rfl) ?_
    refine lv_aload_n hx hb dX1_save_27 rfl (lv_at hl 0 rfl) ?_
    refine va_get (D := D) (ci := 1) (v := .int hz) (C := RX1) (T := TX1) (N := 3) hx hb hts hin hown hK hP 15 rfl rfl 2 (by decide) (hta _ aw_99) (fun _ h9 => h9) rfl dX1_save_28 ?_
    refine lv_iconst (v := 1) hx hb dX1_save_31 (by decide) ?_
    refine lv_iadd hx hb dX1_save_32 ?_
    refine lv_bipush (v := 6) hx hb dX1_save_33 (by decide) ?_
    refine va_mmin hx hb (by rw [hml]; exact hl.1.symm) (own := RX1) (index := 27) hown (hta _ aw_245) (hta _ aw_246) (hta _ aw_11) (hta _ aw_247) (Nat.le_of_ble_eq_true rfl) (Nat.le_of_ble_eq_true rfl) (Nat.zero_le _) (Nat.zero_le _) dX1_save_35 ?_
    refine va_put (D := D) (ci := 1) (v := .int (if 6 < hz + 1 then 6 else hz + 1)) (ty := .int) (C := RX1) (T := TX1) (N := 3) hx hb hts hin tyX1 tyX1_ok nmX1 hown hK hP hD hS 15 rfl rfl 2 (by decide) (hta _ aw_99) (fun _ h9 => h9) rfl (by decide +kernel) rfl rfl (Nat.le_of_ble_eq_true rfl) dX1_save_38 (fun H locs hP hD hS => ?_)
    have hP : va_P D vwCl (WP cy (qa 1) P ++ WH cy qa (fun j => if j = 3 then w9 else S j) ((nw + 1) - (nw + 1) / 6 * 6) (if 6 < hz + 1 then 6 else hz + 1)) H := hP
    have hD : va_D A (WP cy (qa 1) P ++ WH cy qa (fun j => if j = 3 then w9 else S j) ((nw + 1) - (nw + 1) / 6 * 6) (if 6 < hz + 1 then 6 else hz + 1)) := hD
    exact pw_rv hx hb hr hlk hAe hP hS dX1_save_41
  · refine pw_gv (ws0 := WP cy (qa 1) P ++ WH cy qa S ((nw + 1) - (nw + 1) / 6 * 6) hz) (ws1 := WP cy (qa 1) P ++ WH cy qa (fun j => if j = 4 then w9 else S j) ((nw + 1) - (nw + 1) / 6 * 6) hz) (wc := WP cy (qa 9) (S 4) ++ WP cy (qa 1) P) (w1 := WP cy (qa 9) w9 ++ WP cy (qa 1) P) (wr := WHh cy qa ((nw + 1) - (nw + 1) / 6 * 6) hz ++ (WP cy (qa 5) (S 0) ++ (WP cy (qa 6) (S 1) ++ (WP cy (qa 7) (S 2) ++ (WP cy (qa 8) (S 3) ++ (WP cy (qa 10) (S 5))))))) (rest := []) (As := [.ref (qa 1 0)]) hF (kX2_copyFrom l D cy (qa 9) (qa 1) _ (S 4) P w9 hw9) (cwV 1 hts (pw_gV (own := RX1) (idx := 20) (C := RX2) (y := yX2_copyFrom) aw_241 aw_242 aw_243 aw_2 aw_244) rfl rfl rfl pX2_copyFrom ⟨Nat.le_of_ble_eq_true rfl, Nat.le_of_ble_eq_true rfl⟩) 2 (RX2, TX2, 16) rfl rfl ⟨0, _, rfl⟩ hK hP hD hS hA [77, 78, 79, 80, 81, 82, 83, 84, 85, 86, 87, 88, 89, 90, 91, 0, 1, 2, 3, 4, 5, 6, 7, 8, 9, 10, 11, 12, 13, 14] [15, 16, 17, 18, 19, 20, 21, 22, 23, 24, 25, 26, 27, 28, 29, 30, 31, 32, 33, 34, 35, 36, 37, 38, 39, 40, 41, 42, 43, 44, 45, 46, 47, 48, 49, 50, 51, 52, 53, 54, 55, 56, 57, 58, 59, 60, 61, 62, 63, 64, 65, 66, 67, 68, 69, 70, 71, 72, 73, 74, 75, 76, 92, 93, 94, 95, 96, 97, 98, 99, 100, 101, 102, 103, 104, 105, 106] [92, 93, 94, 95, 96, 97, 98, 99, 100, 101, 102, 103, 104, 105, 106, 0, 1, 2, 3, 4, 5, 6, 7, 8, 9, 10, 11, 12, 13, 14, 15, 16, 17, 18, 19, 20, 21, 22, 23, 24, 25, 26, 27, 28, 29, 30, 31, 32, 33, 34, 35, 36, 37, 38, 39, 40, 41, 42, 43, 44, 45, 46, 47, 48, 49, 50, 51, 52, 53, 54, 55, 56, 57, 58, 59, 60, 61, 77, 78, 79, 80, 81, 82, 83, 84, 85, 86, 87, 88, 89, 90, 91, 62, 63, 64, 65, 66, 67, 68, 69, 70, 71, 72, 73, 74, 75, 76] rfl rfl (by decide) (by decide) (by decide) rfl rfl rfl hl.1 rfl (Nat.le_of_ble_eq_true rfl) dX1_save_23 ⟨Nat.zero_le _, Nat.zero_le _⟩ rfl (fun H locs hP hD hS => ?_)
    refine lv_aload_n hx hb dX1_save_26 rfl (lv_at hl 0 rfl) ?_
    refine lv_aload_n hx hb dX1_save_27 rfl (lv_at hl 0 rfl) ?_
    refine va_get (D := D) (ci := 1) (v := .int hz) (C := RX1) (T := TX1) (N := 3) hx hb hts hin hown hK hP 15 rfl rfl 2 (by decide) (hta _ aw_99) (fun _ h9 => h9) rfl dX1_save_28 ?_
    refine lv_iconst (v := 1) hx hb dX1_save_31 (by decide) ?_
    refine lv_iadd hx hb dX1_save_32 ?_
    refine lv_bipush (v := 6) hx hb dX1_save_33 (by decide) ?_
    refine va_mmin hx hb (by rw [hml]; exact hl.1.symm) (own := RX1) (index := 27) hown (hta _ aw_245) (hta _ aw_246) (hta _ aw_11) (hta _ aw_247) (Nat.le_of_ble_eq_true rfl) (Nat.le_of_ble_eq_true rfl) (Nat.zero_le _) (Nat.zero_le _) dX1_save_35 ?_
    refine va_put (D := D) (ci := 1) (v := .int (if 6 < hz + 1 then 6 else hz + 1)) (ty := .int) (C := RX1) (T := TX1) (N := 3) hx hb hts hin tyX1 tyX1_ok nmX1 hown hK hP hD hS 15 rfl rfl 2 (by decide) (hta _ aw_99) (fun _ h9 => h9) rfl (by decide +kernel) rfl rfl (Nat.le_of_ble_eq_true rfl) dX1_save_38 (fun H locs hP hD hS => ?_)
    have hP : va_P D vwCl (WP cy (qa 1) P ++ WH cy qa (fun j => if j = 4 then w9 else S j) ((nw + 1) - (nw + 1) / 6 * 6) (if 6 < hz + 1 then 6 else hz + 1)) H := hP
    have hD : va_D A (WP cy (qa 1) P ++ WH cy qa (fun j => if j = 4 then w9 else S j) ((nw + 1) - (nw + 1) / 6 * 6) (if 6 < hz + 1 then 6 else hz + 1)) := hD
    exact pw_rv hx hb hr hlk hAe hP hS dX1_save_41
  · refine pw_gv (ws0 := WP cy (qa 1) P ++ WH cy qa S ((nw + 1) - (nw + 1) / 6 * 6) hz) (ws1 := WP cy (qa 1) P ++ WH cy qa (fun j => if j = 5 then w9 else S j) ((nw + 1) - (nw + 1) / 6 * 6) hz) (wc := WP cy (qa 10) (S 5) ++ WP cy (qa 1) P) (w1 := WP cy (qa 10) w9 ++ WP cy (qa 1) P) (wr := WHh cy qa ((nw + 1) - (nw + 1) / 6 * 6) hz ++ (WP cy (qa 5) (S 0) ++ (WP cy (qa 6) (S 1) ++ (WP cy (qa 7) (S 2) ++ (WP cy (qa 8) (S 3) ++ (WP cy (qa 9) (S 4))))))) (rest := []) (As := [.ref (qa 1 0)]) hF (kX2_copyFrom l D cy (qa 10) (qa 1) _ (S 5) P w9 hw9) (cwV 1 hts (pw_gV (own := RX1) (idx := 20) (C := RX2) (y := yX2_copyFrom) aw_241 aw_242 aw_243 aw_2 aw_244) rfl rfl rfl pX2_copyFrom ⟨Nat.le_of_ble_eq_true rfl, Nat.le_of_ble_eq_true rfl⟩) 2 (RX2, TX2, 16) rfl rfl ⟨0, _, rfl⟩ hK hP hD hS hA [92, 93, 94, 95, 96, 97, 98, 99, 100, 101, 102, 103, 104, 105, 106, 0, 1, 2, 3, 4, 5, 6, 7, 8, 9, 10, 11, 12, 13, 14] [15, 16, 17, 18, 19, 20, 21, 22, 23, 24, 25, 26, 27, 28, 29, 30, 31, 32, 33, 34, 35, 36, 37, 38, 39, 40, 41, 42, 43, 44, 45, 46, 47, 48, 49, 50, 51, 52, 53, 54, 55, 56, 57, 58, 59, 60, 61, 62, 63, 64, 65, 66, 67, 68, 69, 70, 71, 72, 73, 74, 75, 76, 77, 78, 79, 80, 81, 82, 83, 84, 85, 86, 87, 88, 89, 90, 91] [92, 93, 94, 95, 96, 97, 98, 99, 100, 101, 102, 103, 104, 105, 106, 0, 1, 2, 3, 4, 5, 6, 7, 8, 9, 10, 11, 12, 13, 14, 15, 16, 17, 18, 19, 20, 21, 22, 23, 24, 25, 26, 27, 28, 29, 30, 31, 32, 33, 34, 35, 36, 37, 38, 39, 40, 41, 42, 43, 44, 45, 46, 47, 48, 49, 50, 51, 52, 53, 54, 55, 56, 57, 58, 59, 60, 61, 62, 63, 64, 65, 66, 67, 68, 69, 70, 71, 72, 73, 74, 75, 76, 77, 78, 79, 80, 81, 82, 83, 84, 85, 86, 87, 88, 89, 90, 91] rfl rfl (by decide) (by decide) (by decide) rfl rfl rfl hl.1 rfl (Nat.le_of_ble_eq_true rfl) dX1_save_23 ⟨Nat.zero_le _, Nat.zero_le _⟩ rfl (fun H locs hP hD hS => ?_)
    refine lv_aload_n hx hb dX1_save_26 rfl (lv_at hl 0 rfl) ?_
    refine lv_aload_n hx hb dX1_save_27 rfl (lv_at hl 0 rfl) ?_
    refine va_get (D := D) (ci := 1) (v := .int hz) (C := RX1) (T := TX1) (N := 3) hx hb hts hin hown hK hP 15 rfl rfl 2 (by decide) (hta _ aw_99) (fun _ h9 => h9) rfl dX1_save_28 ?_
    refine lv_iconst (v := 1) hx hb dX1_save_31 (by decide) ?_
    refine lv_iadd hx hb dX1_save_32 ?_
    refine lv_bipush (v := 6) hx hb dX1_save_33 (by decide) ?_
    refine va_mmin hx hb (by rw [hml]; exact hl.1.symm) (own := RX1) (index := 27) hown (hta _ aw_245) (hta _ aw_246) (hta _ aw_11) (hta _ aw_247) (Nat.le_of_ble_eq_true rfl) (Nat.le_of_ble_eq_true rfl) (Nat.zero_le _) (Nat.zero_le _) dX1_save_35 ?_
    refine va_put (D := D) (ci := 1) (v := .int (if 6 < hz + 1 then 6 else hz + 1)) (ty := .int) (C := RX1) (T := TX1) (N := 3) hx hb hts hin tyX1 tyX1_ok nmX1 hown hK hP hD hS 15 rfl rfl 2 (by decide) (hta _ aw_99) (fun _ h9 => h9) rfl (by decide +kernel) rfl rfl (Nat.le_of_ble_eq_true rfl) dX1_save_38 (fun H locs hP hD hS => ?_)
    have hP : va_P D vwCl (WP cy (qa 1) P ++ WH cy qa (fun j => if j = 5 then w9 else S j) ((nw + 1) - (nw + 1) / 6 * 6) (if 6 < hz + 1 then 6 else hz + 1)) H := hP
    have hD : va_D A (WP cy (qa 1) P ++ WH cy qa (fun j => if j = 5 then w9 else S j) ((nw + 1) - (nw + 1) / 6 * 6) (if 6 < hz + 1 then 6 else hz + 1)) := hD
    exact pw_rv hx hb hr hlk hAe hP hS dX1_save_41
