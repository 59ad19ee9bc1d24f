/-! ===== the constructor of PoolTurnsModel ===== -/
def pq_zs : Nat → Int32 := (upd (upd (upd (upd (upd (upd (upd (upd (fun _ => 0) (0 : Int32).toNatClampNeg 4) (1 : Int32).toNatClampNeg 2) (2 : Int32).toNatClampNeg 1) (4 : Int32).toNatClampNeg 1) (5 : Int32).toNatClampNeg 10) (6 : Int32).toNatClampNeg 5) (7 : Int32).toNatClampNeg 20) (8 : Int32).toNatClampNeg 15)
def fX4_iA : Nat → Int32 → (Nat → Int32) → Option (Nat → Int32)
  | 0, _, _ => none
  | n + 1, x, z => if 8 ≤ x then some z else (fX4_put x 1 (-1) z).bind fun r => fX4_iA n (x + 1) r
def fX4_iB : Nat → Int32 → (Nat → Int32) → Option (Nat → Int32)
  | 0, _, _ => none
  | n + 1, x, z => if 8 ≤ x then some z else (fX4_lay x 0 1 z).bind fun r => fX4_iB n (x + 1) r
def fX4_init : Option (Nat → Int32) := (fX4_iA 1000 0 pq_zs).bind fun v => fX4_iB 1000 0 v
def aX4_init : List Cond := Cond.code yX4_init cX4_init 2 none :: pw_all
set_option maxHeartbeats 8000000 in
set_option maxRecDepth 100000 in
theorem kX4_init (l : Launch) (D : va_G) (cy : Nat → ClassId) (a sz : Nat) (o : Nat → Int32) (h : fX4_init = some o) : Met l yX4_init aX4_init ({ frames := 2, cells := 5, slots := 980, locals := 80 }) (pw_PreI D cy [.ref a] ([(a, .inr (4, [.int 0, .null, .null, .int 0, .null, .null, .int 0, .null, .long 0]))]) sz) (pw_QW (S := Nat → Nat) D (fun q => q 0 = a) (fun q => WM cy q 0 o (fun _ => 0) 0 (fun _ => 0) (fun _ => 0) 0 (fun _ => 0) 0) ([(a, .inr (4, [.int 0, .null, .null, .int 0, .null, .null, .int 0, .null, .long 0]))]) sz) 5 980 (va_A ([(a, .inr (4, [.int 0, .null, .null, .int 0, .null, .null, .int 0, .null, .long 0]))]) sz) := by
  refine pw_metI (cc := cX4_init) (maxL := 2) (ret := none) (by decide) rfl (Nat.le_of_ble_eq_true rfl) ?_
  intro p e s m args below meth c ls A hx hb hr hml hlk hts hown hAe hA hK hP hD hS hl hE hO hnm
  have hnm : meth.name = "<init>" := hnm
  have hl : lv_has ls 2 [(0, .ref a)] := hl
  have hF : CallFix p m c cX4_init 2 s args aX4_init RX4 := ⟨hx, hb, hml, hown, hts⟩
  have hta : ∀ w ∈ pw_all, w.before args s = true := fun w h => hts w (List.mem_cons_of_mem _ h)
  have hin : ∀ w ∈ wsX40, w ∈ aX4_init := fun w h => List.mem_cons_of_mem _ (inA4 w h)
  refine lv_aload_n hx hb dX4_init_0 rfl (lv_at hl 0 rfl) ?_
  refine W.objInit hx hb hown (hta _ aw_677) (hta _ aw_20) (hta _ aw_21) rfl (by rw [hml]; exact hl.1) rfl dX4_init_1 (Nat.le_of_ble_eq_true rfl) (Nat.le_of_ble_eq_true rfl) ?_
  refine W.eq (g2 := F0 m 4 ls []) rfl ?_
  refine lv_aload_n hx hb dX4_init_4 rfl (lv_at hl 0 rfl) ?_
  refine lv_bipush (v := 114) hx hb dX4_init_5 (by decide) ?_
  refine pw_newa (atype := .int) hx hb (hta _ aw_87) rfl 0 rfl hK hP hD hS hA (a0 := (114, .inl (fun _ => 0))) (fun _ => rfl) (by decide) (by decide) (by decide) (Nat.le_of_ble_eq_true rfl) (Nat.le_of_ble_eq_true rfl) dX4_init_7 (fun q1 H hP hD hS => ?_)
  have hP : va_P D vwCl ([(a, .inr (4, [.int 0, .null, .null, .int 0, .null, .null, .int 0, .null, .long 0])), (q1, .inl (cy 0, 114, .inl (fun _ => 0)))]) H := hP
  have hD : va_D A ([(a, .inr (4, [.int 0, .null, .null, .int 0, .null, .null, .int 0, .null, .long 0])), (q1, .inl (cy 0, 114, .inl (fun _ => 0)))]) := hD
  refine va_putF (D := D) (ci := 4) (v := .ref q1) (ty := .array .int) (C := RX4) (T := TX4) (N := 9) hx hb hts hin tyX4 tyX4_ok nmX4 hown hK hP hD hS 0 rfl rfl 1 (by decide) (hta _ aw_687) (fun _ h9 => h9) rfl hnm rfl (by decide +kernel) rfl rfl (Nat.le_of_ble_eq_true rfl) dX4_init_9 (fun H locs hP hD hS => ?_)
  have hP : va_P D vwCl ([(a, .inr (4, [.int 0, .ref q1, .null, .int 0, .null, .null, .int 0, .null, .long 0])), (q1, .inl (cy 0, 114, .inl (fun _ => 0)))]) H := hP
  have hD : va_D A ([(a, .inr (4, [.int 0, .ref q1, .null, .int 0, .null, .null, .int 0, .null, .long 0])), (q1, .inl (cy 0, 114, .inl (fun _ => 0)))]) := hD
  refine lv_aload_n hx hb dX4_init_12 rfl (lv_at hl 0 rfl) ?_
  refine lv_sipush (v := 684) hx hb dX4_init_13 (by decide) ?_
  refine pw_newa (atype := .int) hx hb (hta _ aw_87) rfl 0 rfl hK hP hD hS hA (a0 := (684, .inl (fun _ => 0))) (fun _ => rfl) (by decide) (by decide) (by decide) (Nat.le_of_ble_eq_true rfl) (Nat.le_of_ble_eq_true rfl) dX4_init_16 (fun q2 H hP hD hS => ?_)
  have hP : va_P D vwCl ([(a, .inr (4, [.int 0, .ref q1, .null, .int 0, .null, .null, .int 0, .null, .long 0])), (q1, .inl (cy 0, 114, .inl (fun _ => 0))), (q2, .inl (cy 0, 684, .inl (fun _ => 0)))]) H := hP
  have hD : va_D A ([(a, .inr (4, [.int 0, .ref q1, .null, .int 0, .null, .null, .int 0, .null, .long 0])), (q1, .inl (cy 0, 114, .inl (fun _ => 0))), (q2, .inl (cy 0, 684, .inl (fun _ => 0)))]) := hD
  refine va_putF (D := D) (ci := 4) (v := .ref q2) (ty := .array .int) (C := RX4) (T := TX4) (N := 9) hx hb hts hin tyX4 tyX4_ok nmX4 hown hK hP hD hS 0 rfl rfl 2 (by decide) (hta _ aw_688) (fun _ h9 => h9) rfl hnm rfl (by decide +kernel) rfl rfl (Nat.le_of_ble_eq_true rfl) dX4_init_18 (fun H locs hP hD hS => ?_)
  have hP : va_P D vwCl ([(a, .inr (4, [.int 0, .ref q1, .ref q2, .int 0, .null, .null, .int 0, .null, .long 0])), (q1, .inl (cy 0, 114, .inl (fun _ => 0))), (q2, .inl (cy 0, 684, .inl (fun _ => 0)))]) H := hP
  have hD : va_D A ([(a, .inr (4, [.int 0, .ref q1, .ref q2, .int 0, .null, .null, .int 0, .null, .long 0])), (q1, .inl (cy 0, 114, .inl (fun _ => 0))), (q2, .inl (cy 0, 684, .inl (fun _ => 0)))]) := hD
  refine lv_aload_n hx hb dX4_init_21 rfl (lv_at hl 0 rfl) ?_
  refine lv_bipush (v := 114) hx hb dX4_init_22 (by decide) ?_
  refine pw_newa (atype := .int) hx hb (hta _ aw_87) rfl 0 rfl hK hP hD hS hA (a0 := (114, .inl (fun _ => 0))) (fun _ => rfl) (by decide) (by decide) (by decide) (Nat.le_of_ble_eq_true rfl) (Nat.le_of_ble_eq_true rfl) dX4_init_24 (fun q4 H hP hD hS => ?_)
  have hP : va_P D vwCl ([(a, .inr (4, [.int 0, .ref q1, .ref q2, .int 0, .null, .null, .int 0, .null, .long 0])), (q1, .inl (cy 0, 114, .inl (fun _ => 0))), (q2, .inl (cy 0, 684, .inl (fun _ => 0))), (q4, .inl (cy 0, 114, .inl (fun _ => 0)))]) H := hP
  have hD : va_D A ([(a, .inr (4, [.int 0, .ref q1, .ref q2, .int 0, .null, .null, .int 0, .null, .long 0])), (q1, .inl (cy 0, 114, .inl (fun _ => 0))), (q2, .inl (cy 0, 684, .inl (fun _ => 0))), (q4, .inl (cy 0, 114, .inl (fun _ => 0)))]) := hD
  refine va_putF (D := D) (ci := 4) (v := .ref q4) (ty := .array .int) (C := RX4) (T := TX4) (N := 9) hx hb hts hin tyX4 tyX4_ok nmX4 hown hK hP hD hS 0 rfl rfl 4 (by decide) (hta _ aw_690) (fun _ h9 => h9) rfl hnm rfl (by decide +kernel) rfl rfl (Nat.le_of_ble_eq_true rfl) dX4_init_26 (fun H locs hP hD hS => ?_)
  have hP : va_P D vwCl ([(a, .inr (4, [.int 0, .ref q1, .ref q2, .int 0, .ref q4, .null, .int 0, .null, .long 0])), (q1, .inl (cy 0, 114, .inl (fun _ => 0))), (q2, .inl (cy 0, 684, .inl (fun _ => 0))), (q4, .inl (cy 0, 114, .inl (fun _ => 0)))]) H := hP
  have hD : va_D A ([(a, .inr (4, [.int 0, .ref q1, .ref q2, .int 0, .ref q4, .null, .int 0, .null, .long 0])), (q1, .inl (cy 0, 114, .inl (fun _ => 0))), (q2, .inl (cy 0, 684, .inl (fun _ => 0))), (q4, .inl (cy 0, 114, .inl (fun _ => 0)))]) := hD
  refine lv_aload_n hx hb dX4_init_29 rfl (lv_at hl 0 rfl) ?_
  refine lv_bipush (v := 60) hx hb dX4_init_30 (by decide) ?_
  refine pw_newa (atype := .int) hx hb (hta _ aw_87) rfl 0 rfl hK hP hD hS hA (a0 := (60, .inl (fun _ => 0))) (fun _ => rfl) (by decide) (by decide) (by decide) (Nat.le_of_ble_eq_true rfl) (Nat.le_of_ble_eq_true rfl) dX4_init_32 (fun q5 H hP hD hS => ?_)
  have hP : va_P D vwCl ([(a, .inr (4, [.int 0, .ref q1, .ref q2, .int 0, .ref q4, .null, .int 0, .null, .long 0])), (q1, .inl (cy 0, 114, .inl (fun _ => 0))), (q2, .inl (cy 0, 684, .inl (fun _ => 0))), (q4, .inl (cy 0, 114, .inl (fun _ => 0))), (q5, .inl (cy 0, 60, .inl (fun _ => 0)))]) H := hP
  have hD : va_D A ([(a, .inr (4, [.int 0, .ref q1, .ref q2, .int 0, .ref q4, .null, .int 0, .null, .long 0])), (q1, .inl (cy 0, 114, .inl (fun _ => 0))), (q2, .inl (cy 0, 684, .inl (fun _ => 0))), (q4, .inl (cy 0, 114, .inl (fun _ => 0))), (q5, .inl (cy 0, 60, .inl (fun _ => 0)))]) := hD
  refine va_putF (D := D) (ci := 4) (v := .ref q5) (ty := .array .int) (C := RX4) (T := TX4) (N := 9) hx hb hts hin tyX4 tyX4_ok nmX4 hown hK hP hD hS 0 rfl rfl 5 (by decide) (hta _ aw_691) (fun _ h9 => h9) rfl hnm rfl (by decide +kernel) rfl rfl (Nat.le_of_ble_eq_true rfl) dX4_init_34 (fun H locs hP hD hS => ?_)
  have hP : va_P D vwCl ([(a, .inr (4, [.int 0, .ref q1, .ref q2, .int 0, .ref q4, .ref q5, .int 0, .null, .long 0])), (q1, .inl (cy 0, 114, .inl (fun _ => 0))), (q2, .inl (cy 0, 684, .inl (fun _ => 0))), (q4, .inl (cy 0, 114, .inl (fun _ => 0))), (q5, .inl (cy 0, 60, .inl (fun _ => 0)))]) H := hP
  have hD : va_D A ([(a, .inr (4, [.int 0, .ref q1, .ref q2, .int 0, .ref q4, .ref q5, .int 0, .null, .long 0])), (q1, .inl (cy 0, 114, .inl (fun _ => 0))), (q2, .inl (cy 0, 684, .inl (fun _ => 0))), (q4, .inl (cy 0, 114, .inl (fun _ => 0))), (q5, .inl (cy 0, 60, .inl (fun _ => 0)))]) := hD
  refine lv_aload_n hx hb dX4_init_37 rfl (lv_at hl 0 rfl) ?_
  refine lv_bipush (v := 8) hx hb dX4_init_38 (by decide) ?_
  refine pw_newa (atype := .int) hx hb (hta _ aw_87) rfl 0 rfl hK hP hD hS hA (a0 := (8, .inl (fun _ => 0))) (fun _ => rfl) (by decide) (by decide) (by decide) (Nat.le_of_ble_eq_true rfl) (Nat.le_of_ble_eq_true rfl) dX4_init_40 (fun q7 H hP hD hS => ?_)
  have hP : va_P D vwCl ([(a, .inr (4, [.int 0, .ref q1, .ref q2, .int 0, .ref q4, .ref q5, .int 0, .null, .long 0])), (q1, .inl (cy 0, 114, .inl (fun _ => 0))), (q2, .inl (cy 0, 684, .inl (fun _ => 0))), (q4, .inl (cy 0, 114, .inl (fun _ => 0))), (q5, .inl (cy 0, 60, .inl (fun _ => 0))), (q7, .inl (cy 0, 8, .inl (fun _ => 0)))]) H := hP
  have hD : va_D A ([(a, .inr (4, [.int 0, .ref q1, .ref q2, .int 0, .ref q4, .ref q5, .int 0, .null, .long 0])), (q1, .inl (cy 0, 114, .inl (fun _ => 0))), (q2, .inl (cy 0, 684, .inl (fun _ => 0))), (q4, .inl (cy 0, 114, .inl (fun _ => 0))), (q5, .inl (cy 0, 60, .inl (fun _ => 0))), (q7, .inl (cy 0, 8, .inl (fun _ => 0)))]) := hD
  refine va_putF (D := D) (ci := 4) (v := .ref q7) (ty := .array .int) (C := RX4) (T := TX4) (N := 9) hx hb hts hin tyX4 tyX4_ok nmX4 hown hK hP hD hS 0 rfl rfl 7 (by decide) (hta _ aw_693) (fun _ h9 => h9) rfl hnm rfl (by decide +kernel) rfl rfl (Nat.le_of_ble_eq_true rfl) dX4_init_42 (fun H locs hP hD hS => ?_)
  have hP : va_P D vwCl ([(a, .inr (4, [.int 0, .ref q1, .ref q2, .int 0, .ref q4, .ref q5, .int 0, .ref q7, .long 0])), (q1, .inl (cy 0, 114, .inl (fun _ => 0))), (q2, .inl (cy 0, 684, .inl (fun _ => 0))), (q4, .inl (cy 0, 114, .inl (fun _ => 0))), (q5, .inl (cy 0, 60, .inl (fun _ => 0))), (q7, .inl (cy 0, 8, .inl (fun _ => 0)))]) H := hP
  have hD : va_D A ([(a, .inr (4, [.int 0, .ref q1, .ref q2, .int 0, .ref q4, .ref q5, .int 0, .ref q7, .long 0])), (q1, .inl (cy 0, 114, .inl (fun _ => 0))), (q2, .inl (cy 0, 684, .inl (fun _ => 0))), (q4, .inl (cy 0, 114, .inl (fun _ => 0))), (q5, .inl (cy 0, 60, .inl (fun _ => 0))), (q7, .inl (cy 0, 8, .inl (fun _ => 0)))]) := hD
  refine lv_aload_n hx hb dX4_init_45 rfl (lv_at hl 0 rfl) ?_
  refine va_get (D := D) (ci := 4) (v := .ref q1) (C := RX4) (T := TX4) (N := 9) hx hb hts hin hown hK hP 0 rfl rfl 1 (by decide) (hta _ aw_687) (fun _ h9 => h9) rfl dX4_init_46 ?_
  refine lv_iconst (v := 0) hx hb dX4_init_49 (by decide) ?_
  refine lv_iconst (v := 4) hx hb dX4_init_50 (by decide) ?_
  refine va_iast hx hb hK hP hD hS 1 0 rfl rfl (pq_vp (by decide)) dX4_init_51 (fun H locs hP hD hS => ?_)
  have hP : va_P D vwCl ([(a, .inr (4, [.int 0, .ref q1, .ref q2, .int 0, .ref q4, .ref q5, .int 0, .ref q7, .long 0])), (q1, .inl (cy 0, 114, .inl (upd (fun _ => 0) (0 : Int32).toNatClampNeg 4))), (q2, .inl (cy 0, 684, .inl (fun _ => 0))), (q4, .inl (cy 0, 114, .inl (fun _ => 0))), (q5, .inl (cy 0, 60, .inl (fun _ => 0))), (q7, .inl (cy 0, 8, .inl (fun _ => 0)))]) H := hP
  have hD : va_D A ([(a, .inr (4, [.int 0, .ref q1, .ref q2, .int 0, .ref q4, .ref q5, .int 0, .ref q7, .long 0])), (q1, .inl (cy 0, 114, .inl (upd (fun _ => 0) (0 : Int32).toNatClampNeg 4))), (q2, .inl (cy 0, 684, .inl (fun _ => 0))), (q4, .inl (cy 0, 114, .inl (fun _ => 0))), (q5, .inl (cy 0, 60, .inl (fun _ => 0))), (q7, .inl (cy 0, 8, .inl (fun _ => 0)))]) := hD
  refine lv_aload_n hx hb dX4_init_52 rfl (lv_at hl 0 rfl) ?_
  refine va_get (D := D) (ci := 4) (v := .ref q1) (C := RX4) (T := TX4) (N := 9) hx hb hts hin hown hK hP 0 rfl rfl 1 (by decide) (hta _ aw_687) (fun _ h9 => h9) rfl dX4_init_53 ?_
  refine lv_iconst (v := 1) hx hb dX4_init_56 (by decide) ?_
  refine lv_iconst (v := 2) hx hb dX4_init_57 (by decide) ?_
  refine va_iast hx hb hK hP hD hS 1 0 rfl rfl (pq_vp (by decide)) dX4_init_58 (fun H locs hP hD hS => ?_)
  have hP : va_P D vwCl ([(a, .inr (4, [.int 0, .ref q1, .ref q2, .int 0, .ref q4, .ref q5, .int 0, .ref q7, .long 0])), (q1, .inl (cy 0, 114, .inl (upd (upd (fun _ => 0) (0 : Int32).toNatClampNeg 4) (1 : Int32).toNatClampNeg 2))), (q2, .inl (cy 0, 684, .inl (fun _ => 0))), (q4, .inl (cy 0, 114, .inl (fun _ => 0))), (q5, .inl (cy 0, 60, .inl (fun _ => 0))), (q7, .inl (cy 0, 8, .inl (fun _ => 0)))]) H := hP
  have hD : va_D A ([(a, .inr (4, [.int 0, .ref q1, .ref q2, .int 0, .ref q4, .ref q5, .int 0, .ref q7, .long 0])), (q1, .inl (cy 0, 114, .inl (upd (upd (fun _ => 0) (0 : Int32).toNatClampNeg 4) (1 : Int32).toNatClampNeg 2))), (q2, .inl (cy 0, 684, .inl (fun _ => 0))), (q4, .inl (cy 0, 114, .inl (fun _ => 0))), (q5, .inl (cy 0, 60, .inl (fun _ => 0))), (q7, .inl (cy 0, 8, .inl (fun _ => 0)))]) := hD
  refine lv_aload_n hx hb dX4_init_59 rfl (lv_at hl 0 rfl) ?_
  refine va_get (D := D) (ci := 4) (v := .ref q1) (C := RX4) (T := TX4) (N := 9) hx hb hts hin hown hK hP 0 rfl rfl 1 (by decide) (hta _ aw_687) (fun _ h9 => h9) rfl dX4_init_60 ?_
  refine lv_iconst (v := 2) hx hb dX4_init_63 (by decide) ?_
  refine lv_iconst (v := 1) hx hb dX4_init_64 (by decide) ?_
  refine va_iast hx hb hK hP hD hS 1 0 rfl rfl (pq_vp (by decide)) dX4_init_65 (fun H locs hP hD hS => ?_)
  have hP : va_P D vwCl ([(a, .inr (4, [.int 0, .ref q1, .ref q2, .int 0, .ref q4, .ref q5, .int 0, .ref q7, .long 0])), (q1, .inl (cy 0, 114, .inl (upd (upd (upd (fun _ => 0) (0 : Int32).toNatClampNeg 4) (1 : Int32).toNatClampNeg 2) (2 : Int32).toNatClampNeg 1))), (q2, .inl (cy 0, 684, .inl (fun _ => 0))), (q4, .inl (cy 0, 114, .inl (fun _ => 0))), (q5, .inl (cy 0, 60, .inl (fun _ => 0))), (q7, .inl (cy 0, 8, .inl (fun _ => 0)))]) H := hP
  have hD : va_D A ([(a, .inr (4, [.int 0, .ref q1, .ref q2, .int 0, .ref q4, .ref q5, .int 0, .ref q7, .long 0])), (q1, .inl (cy 0, 114, .inl (upd (upd (upd (fun _ => 0) (0 : Int32).toNatClampNeg 4) (1 : Int32).toNatClampNeg 2) (2 : Int32).toNatClampNeg 1))), (q2, .inl (cy 0, 684, .inl (fun _ => 0))), (q4, .inl (cy 0, 114, .inl (fun _ => 0))), (q5, .inl (cy 0, 60, .inl (fun _ => 0))), (q7, .inl (cy 0, 8, .inl (fun _ => 0)))]) := hD
  refine lv_aload_n hx hb dX4_init_66 rfl (lv_at hl 0 rfl) ?_
  refine va_get (D := D) (ci := 4) (v := .ref q1) (C := RX4) (T := TX4) (N := 9) hx hb hts hin hown hK hP 0 rfl rfl 1 (by decide) (hta _ aw_687) (fun _ h9 => h9) rfl dX4_init_67 ?_
  refine lv_iconst (v := 4) hx hb dX4_init_70 (by decide) ?_
  refine lv_iconst (v := 1) hx hb dX4_init_71 (by decide) ?_
  refine va_iast hx hb hK hP hD hS 1 0 rfl rfl (pq_vp (by decide)) dX4_init_72 (fun H locs hP hD hS => ?_)
  have hP : va_P D vwCl ([(a, .inr (4, [.int 0, .ref q1, .ref q2, .int 0, .ref q4, .ref q5, .int 0, .ref q7, .long 0])), (q1, .inl (cy 0, 114, .inl (upd (upd (upd (upd (fun _ => 0) (0 : Int32).toNatClampNeg 4) (1 : Int32).toNatClampNeg 2) (2 : Int32).toNatClampNeg 1) (4 : Int32).toNatClampNeg 1))), (q2, .inl (cy 0, 684, .inl (fun _ => 0))), (q4, .inl (cy 0, 114, .inl (fun _ => 0))), (q5, .inl (cy 0, 60, .inl (fun _ => 0))), (q7, .inl (cy 0, 8, .inl (fun _ => 0)))]) H := hP
  have hD : va_D A ([(a, .inr (4, [.int 0, .ref q1, .ref q2, .int 0, .ref q4, .ref q5, .int 0, .ref q7, .long 0])), (q1, .inl (cy 0, 114, .inl (upd (upd (upd (upd (fun _ => 0) (0 : Int32).toNatClampNeg 4) (1 : Int32).toNatClampNeg 2) (2 : Int32).toNatClampNeg 1) (4 : Int32).toNatClampNeg 1))), (q2, .inl (cy 0, 684, .inl (fun _ => 0))), (q4, .inl (cy 0, 114, .inl (fun _ => 0))), (q5, .inl (cy 0, 60, .inl (fun _ => 0))), (q7, .inl (cy 0, 8, .inl (fun _ => 0)))]) := hD
  refine lv_aload_n hx hb dX4_init_73 rfl (lv_at hl 0 rfl) ?_
  refine va_get (D := D) (ci := 4) (v := .ref q1) (C := RX4) (T := TX4) (N := 9) hx hb hts hin hown hK hP 0 rfl rfl 1 (by decide) (hta _ aw_687) (fun _ h9 => h9) rfl dX4_init_74 ?_
  refine lv_iconst (v := 5) hx hb dX4_init_77 (by decide) ?_
  refine lv_bipush (v := 10) hx hb dX4_init_78 (by decide) ?_
  refine va_iast hx hb hK hP hD hS 1 0 rfl rfl (pq_vp (by decide)) dX4_init_80 (fun H locs hP hD hS => ?_)
  have hP : va_P D vwCl ([(a, .inr (4, [.int 0, .ref q1, .ref q2, .int 0, .ref q4, .ref q5, .int 0, .ref q7, .long 0])), (q1, .inl (cy 0, 114, .inl (upd (upd (upd (upd (upd (fun _ => 0) (0 : Int32).toNatClampNeg 4) (1 : Int32).toNatClampNeg 2) (2 : Int32).toNatClampNeg 1) (4 : Int32).toNatClampNeg 1) (5 : Int32).toNatClampNeg 10))), (q2, .inl (cy 0, 684, .inl (fun _ => 0))), (q4, .inl (cy 0, 114, .inl (fun _ => 0))), (q5, .inl (cy 0, 60, .inl (fun _ => 0))), (q7, .inl (cy 0, 8, .inl (fun _ => 0)))]) H := hP
  have hD : va_D A ([(a, .inr (4, [.int 0, .ref q1, .ref q2, .int 0, .ref q4, .ref q5, .int 0, .ref q7, .long 0])), (q1, .inl (cy 0, 114, .inl (upd (upd (upd (upd (upd (fun _ => 0) (0 : Int32).toNatClampNeg 4) (1 : Int32).toNatClampNeg 2) (2 : Int32).toNatClampNeg 1) (4 : Int32).toNatClampNeg 1) (5 : Int32).toNatClampNeg 10))), (q2, .inl (cy 0, 684, .inl (fun _ => 0))), (q4, .inl (cy 0, 114, .inl (fun _ => 0))), (q5, .inl (cy 0, 60, .inl (fun _ => 0))), (q7, .inl (cy 0, 8, .inl (fun _ => 0)))]) := hD
  refine lv_aload_n hx hb dX4_init_81 rfl (lv_at hl 0 rfl) ?_
  refine va_get (D := D) (ci := 4) (v := .ref q1) (C := RX4) (T := TX4) (N := 9) hx hb hts hin hown hK hP 0 rfl rfl 1 (by decide) (hta _ aw_687) (fun _ h9 => h9) rfl dX4_init_82 ?_
  refine lv_bipush (v := 6) hx hb dX4_init_85 (by decide) ?_
  refine lv_iconst (v := 5) hx hb dX4_init_87 (by decide) ?_
  refine va_iast hx hb hK hP hD hS 1 0 rfl rfl (pq_vp (by decide)) dX4_init_88 (fun H locs hP hD hS => ?_)
  have hP : va_P D vwCl ([(a, .inr (4, [.int 0, .ref q1, .ref q2, .int 0, .ref q4, .ref q5, .int 0, .ref q7, .long 0])), (q1, .inl (cy 0, 114, .inl (upd (upd (upd (upd (upd (upd (fun _ => 0) (0 : Int32).toNatClampNeg 4) (1 : Int32).toNatClampNeg 2) (2 : Int32).toNatClampNeg 1) (4 : Int32).toNatClampNeg 1) (5 : Int32).toNatClampNeg 10) (6 : Int32).toNatClampNeg 5))), (q2, .inl (cy 0, 684, .inl (fun _ => 0))), (q4, .inl (cy 0, 114, .inl (fun _ => 0))), (q5, .inl (cy 0, 60, .inl (fun _ => 0))), (q7, .inl (cy 0, 8, .inl (fun _ => 0)))]) H := hP
  have hD : va_D A ([(a, .inr (4, [.int 0, .ref q1, .ref q2, .int 0, .ref q4, .ref q5, .int 0, .ref q7, .long 0])), (q1, .inl (cy 0, 114, .inl (upd (upd (upd (upd (upd (upd (fun _ => 0) (0 : Int32).toNatClampNeg 4) (1 : Int32).toNatClampNeg 2) (2 : Int32).toNatClampNeg 1) (4 : Int32).toNatClampNeg 1) (5 : Int32).toNatClampNeg 10) (6 : Int32).toNatClampNeg 5))), (q2, .inl (cy 0, 684, .inl (fun _ => 0))), (q4, .inl (cy 0, 114, .inl (fun _ => 0))), (q5, .inl (cy 0, 60, .inl (fun _ => 0))), (q7, .inl (cy 0, 8, .inl (fun _ => 0)))]) := hD
  refine lv_aload_n hx hb dX4_init_89 rfl (lv_at hl 0 rfl) ?_
  refine va_get (D := D) (ci := 4) (v := .ref q1) (C := RX4) (T := TX4) (N := 9) hx hb hts hin hown hK hP 0 rfl rfl 1 (by decide) (hta _ aw_687) (fun _ h9 => h9) rfl dX4_init_90 ?_
  refine lv_bipush (v := 7) hx hb dX4_init_93 (by decide) ?_
  refine lv_bipush (v := 20) hx hb dX4_init_95 (by decide) ?_
  refine va_iast hx hb hK hP hD hS 1 0 rfl rfl (pq_vp (by decide)) dX4_init_97 (fun H locs hP hD hS => ?_)
  have hP : va_P D vwCl ([(a, .inr (4, [.int 0, .ref q1, .ref q2, .int 0, .ref q4, .ref q5, .int 0, .ref q7, .long 0])), (q1, .inl (cy 0, 114, .inl (upd (upd (upd (upd (upd (upd (upd (fun _ => 0) (0 : Int32).toNatClampNeg 4) (1 : Int32).toNatClampNeg 2) (2 : Int32).toNatClampNeg 1) (4 : Int32).toNatClampNeg 1) (5 : Int32).toNatClampNeg 10) (6 : Int32).toNatClampNeg 5) (7 : Int32).toNatClampNeg 20))), (q2, .inl (cy 0, 684, .inl (fun _ => 0))), (q4, .inl (cy 0, 114, .inl (fun _ => 0))), (q5, .inl (cy 0, 60, .inl (fun _ => 0))), (q7, .inl (cy 0, 8, .inl (fun _ => 0)))]) H := hP
  have hD : va_D A ([(a, .inr (4, [.int 0, .ref q1, .ref q2, .int 0, .ref q4, .ref q5, .int 0, .ref q7, .long 0])), (q1, .inl (cy 0, 114, .inl (upd (upd (upd (upd (upd (upd (upd (fun _ => 0) (0 : Int32).toNatClampNeg 4) (1 : Int32).toNatClampNeg 2) (2 : Int32).toNatClampNeg 1) (4 : Int32).toNatClampNeg 1) (5 : Int32).toNatClampNeg 10) (6 : Int32).toNatClampNeg 5) (7 : Int32).toNatClampNeg 20))), (q2, .inl (cy 0, 684, .inl (fun _ => 0))), (q4, .inl (cy 0, 114, .inl (fun _ => 0))), (q5, .inl (cy 0, 60, .inl (fun _ => 0))), (q7, .inl (cy 0, 8, .inl (fun _ => 0)))]) := hD
  refine lv_aload_n hx hb dX4_init_98 rfl (lv_at hl 0 rfl) ?_
  refine va_get (D := D) (ci := 4) (v := .ref q1) (C := RX4) (T := TX4) (N := 9) hx hb hts hin hown hK hP 0 rfl rfl 1 (by decide) (hta _ aw_687) (fun _ h9 => h9) rfl dX4_init_99 ?_
  refine lv_bipush (v := 8) hx hb dX4_init_102 (by decide) ?_
  refine lv_bipush (v := 15) hx hb dX4_init_104 (by decide) ?_
  refine va_iast hx hb hK hP hD hS 1 0 rfl rfl (pq_vp (by decide)) dX4_init_106 (fun H locs hP hD hS => ?_)
  have hP : va_P D vwCl ([(a, .inr (4, [.int 0, .ref q1, .ref q2, .int 0, .ref q4, .ref q5, .int 0, .ref q7, .long 0])), (q1, .inl (cy 0, 114, .inl (upd (upd (upd (upd (upd (upd (upd (upd (fun _ => 0) (0 : Int32).toNatClampNeg 4) (1 : Int32).toNatClampNeg 2) (2 : Int32).toNatClampNeg 1) (4 : Int32).toNatClampNeg 1) (5 : Int32).toNatClampNeg 10) (6 : Int32).toNatClampNeg 5) (7 : Int32).toNatClampNeg 20) (8 : Int32).toNatClampNeg 15))), (q2, .inl (cy 0, 684, .inl (fun _ => 0))), (q4, .inl (cy 0, 114, .inl (fun _ => 0))), (q5, .inl (cy 0, 60, .inl (fun _ => 0))), (q7, .inl (cy 0, 8, .inl (fun _ => 0)))]) H := hP
  have hD : va_D A ([(a, .inr (4, [.int 0, .ref q1, .ref q2, .int 0, .ref q4, .ref q5, .int 0, .ref q7, .long 0])), (q1, .inl (cy 0, 114, .inl (upd (upd (upd (upd (upd (upd (upd (upd (fun _ => 0) (0 : Int32).toNatClampNeg 4) (1 : Int32).toNatClampNeg 2) (2 : Int32).toNatClampNeg 1) (4 : Int32).toNatClampNeg 1) (5 : Int32).toNatClampNeg 10) (6 : Int32).toNatClampNeg 5) (7 : Int32).toNatClampNeg 20) (8 : Int32).toNatClampNeg 15))), (q2, .inl (cy 0, 684, .inl (fun _ => 0))), (q4, .inl (cy 0, 114, .inl (fun _ => 0))), (q5, .inl (cy 0, 60, .inl (fun _ => 0))), (q7, .inl (cy 0, 8, .inl (fun _ => 0)))]) := hD
  have hP : va_P D vwCl (WM cy (fun i => [a, q1, q2, 0, q4, q5, 0, q7].getD i 0) 0 pq_zs (fun _ => 0) 0 (fun _ => 0) (fun _ => 0) 0 (fun _ => 0) 0) H := hP
  have hD : va_D A (WM cy (fun i => [a, q1, q2, 0, q4, q5, 0, q7].getD i 0) 0 pq_zs (fun _ => 0) 0 (fun _ => 0) (fun _ => 0) 0 (fun _ => 0) 0) := hD
  refine W.widen (k := 5) (n := 980) (Nat.le_of_ble_eq_true rfl) (Nat.le_of_ble_eq_true rfl) ?_
  unfold fX4_init at h
  obtain ⟨v1, hv1, h⟩ := pq_b h
  have hlast := h
  have LB : ∀ (n : Nat) (x : Int32) (z : Nat → Int32) (H : Heap) (locs : List Loc) (ls : Array Slot), fX4_iB n x z = some o → va_P D vwCl (WM cy (fun i => [a, q1, q2, 0, q4, q5, 0, q7].getD i 0) 0 z (fun _ => 0) 0 (fun _ => 0) (fun _ => 0) 0 (fun _ => 0) 0) H → va_D A (WM cy (fun i => [a, q1, q2, 0, q4, q5, 0, q7].getD i 0) 0 z (fun _ => 0) 0 (fun _ => 0) (fun _ => 0) 0 (fun _ => 0) 0) → va_S A s.heap H locs → lv_has ls 2 [(1, .int x), (0, .ref a)] → W p l e ({ frames := 2, cells := 5, slots := 980, locals := 80 } : Room) s m args below meth c H locs 5 980 (MQ below (pw_QW (S := Nat → Nat) D (fun q => q 0 = a) (fun q => WM cy q 0 o (fun _ => 0) 0 (fun _ => 0) (fun _ => 0) 0 (fun _ => 0) 0) ([(a, .inr (4, [.int 0, .null, .null, .int 0, .null, .null, .int 0, .null, .long 0]))]) sz) args s 5 980 (va_A ([(a, .inr (4, [.int 0, .null, .null, .int 0, .null, .null, .int 0, .null, .long 0]))]) sz)) (F0 m 130 ls []) := by
    intro n
    induction n with
    | zero =>
      intro x z H locs ls h hP hD hS hl
      exact pq_n h
    | succ n ih =>
      intro x z H locs ls h hP hD hS hl
      rw [fX4_iB] at h
      refine lv_iload_n hx hb dX4_init_130 rfl (lv_at hl 0 rfl) ?_
      refine lv_bipush (v := 8) hx hb dX4_init_131 (by decide) ?_
      refine lv_icmp_ge (tgt := 149) hx hb dX4_init_133 (by decide) (fun c1_ => ?_) (fun c1_ => ?_)
      · have h := pq_t c1_ h
        obtain rfl := Option.some.inj h
        exact pw_rw (Wn := fun q => WM cy q 0 z (fun _ => 0) 0 (fun _ => 0) (fun _ => 0) 0 (fun _ => 0) 0) (fun i => [a, q1, q2, 0, q4, q5, 0, q7].getD i 0) hx hb hr hlk hAe hP hD rfl hS dX4_init_149
      · have h := pq_e c1_ h
        obtain ⟨r1, hr1, h⟩ := pq_b h
        refine lv_aload_n hx hb dX4_init_136 rfl (lv_at hl 1 rfl) ?_
        refine lv_iload_n hx hb dX4_init_137 rfl (lv_at hl 0 rfl) ?_
        refine lv_iconst (v := 0) hx hb dX4_init_138 (by decide) ?_
        refine lv_iconst (v := 1) hx hb dX4_init_139 (by decide) ?_
        refine pw_cv (w1 := WM cy (fun i => [a, q1, q2, 0, q4, q5, 0, q7].getD i 0) 0 r1 (fun _ => 0) 0 (fun _ => 0) (fun _ => 0) 0 (fun _ => 0) 0) (rest := []) (As := [.int x, .int 0, .int 1]) hF (kX4_lay l D cy (fun i => [a, q1, q2, 0, q4, q5, 0, q7].getD i 0) _ 0 z (fun _ => 0) 0 (fun _ => 0) (fun _ => 0) 0 (fun _ => 0) 0 x 0 1 r1 hr1) (cwV 3 hts (pw_gV (own := RX4) (idx := 29) (C := RX4) (y := yX4_lay) aw_682 aw_684 aw_s18 aw_6 aw_685) rfl rfl rfl pX4_lay ⟨Nat.le_of_ble_eq_true rfl, Nat.le_of_ble_eq_true rfl⟩) (va_recv hK hP (ci := 4) (q0 := 0) rfl rfl) hK hP hD hS hA rfl rfl hl.1 rfl (Nat.le_of_ble_eq_true rfl) dX4_init_140 ⟨Nat.le_of_ble_eq_true rfl, Nat.le_of_ble_eq_true rfl⟩ (fun H locs hP hD hS => ?_)
        refine lv_iinc (v := x + 1) (lv' := [(1, .int (x + 1)), (0, .ref a)]) hx hb dX4_init_143 hl (k := 0) rfl (by first | rfl | decide) (by decide) rfl (fun ls hl => ?_)
        refine lv_goto (tgt := 130) hx hb dX4_init_146 (by decide) ?_
        exact ih (x + 1) r1 H locs ls h hP hD hS hl
  have LA : ∀ (n : Nat) (x : Int32) (z : Nat → Int32) (H : Heap) (locs : List Loc) (ls : Array Slot), fX4_iA n x z = some v1 → va_P D vwCl (WM cy (fun i => [a, q1, q2, 0, q4, q5, 0, q7].getD i 0) 0 z (fun _ => 0) 0 (fun _ => 0) (fun _ => 0) 0 (fun _ => 0) 0) H → va_D A (WM cy (fun i => [a, q1, q2, 0, q4, q5, 0, q7].getD i 0) 0 z (fun _ => 0) 0 (fun _ => 0) (fun _ => 0) 0 (fun _ => 0) 0) → va_S A s.heap H locs → lv_has ls 2 [(1, .int x), (0, .ref a)] → W p l e ({ frames := 2, cells := 5, slots := 980, locals := 80 } : Room) s m args below meth c H locs 5 980 (MQ below (pw_QW (S := Nat → Nat) D (fun q => q 0 = a) (fun q => WM cy q 0 o (fun _ => 0) 0 (fun _ => 0) (fun _ => 0) 0 (fun _ => 0) 0) ([(a, .inr (4, [.int 0, .null, .null, .int 0, .null, .null, .int 0, .null, .long 0]))]) sz) args s 5 980 (va_A ([(a, .inr (4, [.int 0, .null, .null, .int 0, .null, .null, .int 0, .null, .long 0]))]) sz)) (F0 m 109 ls []) := by
    intro n
    induction n with
    | zero =>
      intro x z H locs ls h hP hD hS hl
      exact pq_n h
    | succ n ih =>
      intro x z H locs ls h hP hD hS hl
      rw [fX4_iA] at h
      refine lv_iload_n hx hb dX4_init_109 rfl (lv_at hl 0 rfl) ?_
      refine lv_bipush (v := 8) hx hb dX4_init_110 (by decide) ?_
      refine lv_icmp_ge (tgt := 128) hx hb dX4_init_112 (by decide) (fun c1_ => ?_) (fun c1_ => ?_)
      · have h := pq_t c1_ h
        obtain rfl := Option.some.inj h
        refine lv_iconst (v := 0) hx hb dX4_init_128 (by decide) ?_
        refine lv_istore_n (lv' := [(1, .int 0), (0, .ref a)]) hx hb dX4_init_129 rfl hl (by decide) rfl (fun ls hl => ?_)
        exact LB 1000 0 _ H locs ls hlast hP hD hS hl
      · have h := pq_e c1_ h
        obtain ⟨r1, hr1, h⟩ := pq_b h
        refine lv_aload_n hx hb dX4_init_115 rfl (lv_at hl 1 rfl) ?_
        refine lv_iload_n hx hb dX4_init_116 rfl (lv_at hl 0 rfl) ?_
        refine lv_iconst (v := 1) hx hb dX4_init_117 (by decide) ?_
        refine lv_iconst (v := (-1)) hx hb dX4_init_118 (by decide) ?_
        refine pw_cv (w1 := WM cy (fun i => [a, q1, q2, 0, q4, q5, 0, q7].getD i 0) 0 r1 (fun _ => 0) 0 (fun _ => 0) (fun _ => 0) 0 (fun _ => 0) 0) (rest := []) (As := [.int x, .int 1, .int (-1)]) hF (kX4_put l D cy (fun i => [a, q1, q2, 0, q4, q5, 0, q7].getD i 0) _ 0 z (fun _ => 0) 0 (fun _ => 0) (fun _ => 0) 0 (fun _ => 0) 0 x 1 (-1) r1 hr1) (cwV 3 hts (pw_gV (own := RX4) (idx := 25) (C := RX4) (y := yX4_put) aw_678 aw_680 aw_s17 aw_6 aw_681) rfl rfl rfl pX4_put ⟨Nat.le_of_ble_eq_true rfl, Nat.le_of_ble_eq_true rfl⟩) (va_recv hK hP (ci := 4) (q0 := 0) rfl rfl) hK hP hD hS hA rfl rfl hl.1 rfl (Nat.le_of_ble_eq_true rfl) dX4_init_119 ⟨Nat.le_of_ble_eq_true rfl, Nat.le_of_ble_eq_true rfl⟩ (fun H locs hP hD hS => ?_)
        refine lv_iinc (v := x + 1) (lv' := [(1, .int (x + 1)), (0, .ref a)]) hx hb dX4_init_122 hl (k := 0) rfl (by first | rfl | decide) (by decide) rfl (fun ls hl => ?_)
        refine lv_goto (tgt := 109) hx hb dX4_init_125 (by decide) ?_
        exact ih (x + 1) r1 H locs ls h hP hD hS hl
  refine lv_iconst (v := 0) hx hb dX4_init_107 (by decide) ?_
  refine lv_istore_n (lv' := [(1, .int 0), (0, .ref a)]) hx hb dX4_init_108 rfl hl (by decide) rfl (fun ls hl => ?_)
  exact LA 1000 0 pq_zs H locs ls hv1 hP hD hS hl
