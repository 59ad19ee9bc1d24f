/-! ===== the arms of the law ===== -/
theorem pw_ix {k j L : Nat} (hL : L ≤ 1536) (hk : k + j < L) : vp_in (Int32.ofNat (k + j)) L := pq_vp (r_in hk (by omega))
theorem pw_ix1 {k L : Nat} (hL : L ≤ 1536) (hk : k + 2 < L) : vp_in (Int32.ofNat k + 1) L := by
  rw [r_s]
  exact pw_ix hL (j := 1) (by omega)
theorem pw_ix2 {k L : Nat} (hL : L ≤ 1536) (hk : k + 2 < L) : vp_in (Int32.ofNat k + 2) L := by
  rw [show Int32.ofNat k + 2 = Int32.ofNat (k + 2) from r_a k 2]
  exact pw_ix hL (j := 2) (by omega)
set_option maxHeartbeats 8000000 in
set_option maxRecDepth 100000 in
theorem kA_ask {p : Program} {e : Env} {s : State} {m : MethodId} {args : Array Value} {below : List Frame} {meth : Method} {c : Code} (l : Launch) (hfl : l.stackTraces = false) {D : va_G} {cy : Nat → ClassId} {qa : Nat → Nat → Nat} {q : Nat → Nat} {A : Nat → Prop} {b L k ao : Nat} {xs : Nat → Int32} (hx : p.tables.exec = Jvm.exec) (hb : c.code = cL_law) (hF : CallFix p m c cL_law 9 s args pw_all RL) (hK : va_K D vwCl (pw_tys cy) s) (hE : pw_E A s s.heap) (hA : ∀ q : Nat, s.heap.size ≤ q → A q) (hX : va_X b L xs s s.heap) (hbl : b < s.heap.size) (hbA : ¬ A b) (hL : L ≤ 1536) (hk : k + 2 < L) {P T : Nat → Nat → Int32} {S : Nat → Nat → Nat → Int32} {nw hz : Int32} {ak pa wt cd : Nat → Int32} {ln : Int32} {ov : Nat → Int64} {th : Int32} {z sv : Nat → Int32} {sn : Int32} {sp bf : Nat → Int32} {ty : Int32} {gn : Nat → Int32} {hs : Int64} (RAh : RA P S nw hz cd ln z sv sn bf ty) {H : Heap} {locs : List Loc} {ls : Array Slot} {cells slots : Nat} {Q : State → Prop} (hP : va_P D vwCl (WL cy qa P T S nw hz ak pa wt cd ln ao ov ++ WM cy q th z sv sn sp bf ty gn hs) H) (hD : va_D A (WL cy qa P T S nw hz ak pa wt cd ln ao ov ++ WM cy q th z sv sn sp bf ty gn hs)) (hS : va_S A s.heap H locs) (hl : lv_has ls 9 [(0, .ref b), (1, .ref (qa 0 0)), (2, .ref (q 0)), (3, .ref ao), (4, .int (Int32.ofNat k))]) (hR1 : cells + 1 ≤ room_1.cells) (hR2 : slots + 6 ≤ room_1.slots) (kk : ∀ (P T : Nat → Nat → Int32) (S : Nat → Nat → Nat → Int32) (nw hz : Int32) (ak pa wt cd : Nat → Int32) (ln : Int32) (ov : Nat → Int64) (th : Int32) (z sv : Nat → Int32) (sn : Int32) (sp bf : Nat → Int32) (ty : Int32) (gn : Nat → Int32) (hs : Int64) (H : Heap) (locs : List Loc) (ls : Array Slot), RA P S nw hz cd ln z sv sn bf ty → va_P D vwCl (WL cy qa P T S nw hz ak pa wt cd ln ao ov ++ WM cy q th z sv sn sp bf ty gn hs) H → va_D A (WL cy qa P T S nw hz ak pa wt cd ln ao ov ++ WM cy q th z sv sn sp bf ty gn hs) → va_S A s.heap H locs → lv_has ls 9 [(0, .ref b), (1, .ref (qa 0 0)), (2, .ref (q 0)), (3, .ref ao), (4, .int (Int32.ofNat k))] → W p l e room_1 s m args below meth c H locs (cells + 1) (slots + 6) Q (F0 m 1284 ls [])) : W p l e room_1 s m args below meth c H locs cells slots Q (F0 m 148 ls []) := by
  have h1i : vp_in (Int32.ofNat k + 1) L := pw_ix1 hL hk
  have h2i : vp_in (Int32.ofNat k + 2) L := pw_ix2 hL hk
  have hts := hF.2.2.2.2
  rcases c_ask RAh (xs (Int32.ofNat k + 1).toNatClampNeg) th gn with (⟨h3, h4⟩ | ⟨h3, h4⟩) | ⟨r, P', S', nw', hz', z', sv', sn', gn', h3, h4, RA1⟩
  · skip
    refine lv_aload_n hx hb dL_law_148 rfl (lv_at hl 1 rfl) ?_
    refine lv_aload_n hx hb dL_law_149 rfl (lv_at hl 0 rfl) ?_
    refine lv_iload hx hb dL_law_150 (lv_at hl 4 rfl) ?_
    refine lv_iconst (v := 1) hx hb dL_law_152 (by decide) ?_
    refine lv_iadd hx hb dL_law_153 ?_
    refine va_sld hx hb hX hbl hbA hS h1i dL_law_154 ?_
    refine lv_aload_n hx hb dL_law_155 rfl (lv_at hl 3 rfl) ?_
    refine pw_lcall (r := 1) (ws0 := WL cy qa P T S nw hz ak pa wt cd ln ao ov ++ WM cy q th z sv sn sp bf ty gn hs) (ws1 := WL cy qa P T S nw hz ak pa wt cd ln ao ov ++ WM cy q th z sv sn sp bf ty gn hs) (wa := []) (wb := WM cy q th z sv sn sp bf ty gn hs) (wc := WL cy qa P T S nw hz ak pa wt cd ln ao ov) (w1 := WL cy qa P T S nw hz ak pa wt cd ln ao ov) (rest := []) (As := [.ref (qa 0 0), .int (xs (Int32.ofNat k + 1).toNatClampNeg), .ref ao]) hF (kL_ask_t1 l hfl D cy qa _ P T S nw hz ak pa wt cd ln ao ov (xs (Int32.ofNat k + 1).toNatClampNeg) h3) (vx_cwSW 3 hts (pw_gSW aw_427 aw_428 aw_0 aw_429) rfl rfl rfl pL_ask ⟨Nat.le_of_ble_eq_true rfl, Nat.le_of_ble_eq_true rfl⟩) hK hP hD hS hA hE rfl rfl rfl rfl hl.1 rfl (Nat.le_of_ble_eq_true rfl) dL_law_156 ⟨by omega, by omega⟩ (fun H locs hP hD hS => ?_)
    refine lv_istore (lv' := [(5, .int 1), (0, .ref b), (1, .ref (qa 0 0)), (2, .ref (q 0)), (3, .ref ao), (4, .int (Int32.ofNat k))]) hx hb dL_law_159 hl (by decide) rfl (fun ls hl => ?_)
    refine lv_aload_n hx hb dL_law_161 rfl (lv_at hl 3 rfl) ?_
    refine lv_aload_n hx hb dL_law_162 rfl (lv_at hl 1 rfl) ?_
    refine lv_iload hx hb dL_law_163 (lv_at hl 5 rfl) ?_
    refine lv_iconst (v := 1) hx hb dL_law_165 (by decide) ?_
    refine lv_iadd hx hb dL_law_166 ?_
    refine va_sld hx hb hX hbl hbA hS h1i dL_law_167 ?_
    refine pw_fi (r := 0) (ws0 := WL cy qa P T S nw hz ak pa wt cd ln ao ov ++ WM cy q th z sv sn sp bf ty gn hs) (ws1 := WL cy qa P T S nw hz ak pa wt cd ln ao ov ++ WM cy q 1 z sv sn sp bf ty gn hs) (wa := WL cy qa P T S nw hz ak pa wt cd ln ao ov) (wb := []) (wc := WM cy q th z sv sn sp bf ty gn hs) (w1 := WM cy q 1 z sv sn sp bf ty gn hs) (rest := []) (As := [.int (xs (Int32.ofNat k + 1).toNatClampNeg)]) hF (kX4_ask l D cy q _ th z sv sn sp bf ty gn hs (xs (Int32.ofNat k + 1).toNatClampNeg) (0, 1, z, sv, sn, gn) h4) (cwV 1 hts (pw_gVt (own := RL) (idx := 79) (C := RX4) (y := yX4_ask) aw_722 aw_723 aw_724 aw_6 aw_725) rfl rfl rfl pX4_ask ⟨Nat.le_of_ble_eq_true rfl, Nat.le_of_ble_eq_true rfl⟩) 4 (RX4, TX4, 9) rfl rfl ⟨0, _, rfl⟩ hK hP hD hS hA (by rw [List.append_nil]) (by rw [List.append_nil]) rfl rfl hl.1 rfl (Nat.le_of_ble_eq_true rfl) dL_law_168 ⟨hR1, hR2⟩ (fun H locs hP hD hS => ?_)
    refine lv_istore (lv' := [(6, .int 0), (5, .int 1), (0, .ref b), (1, .ref (qa 0 0)), (2, .ref (q 0)), (3, .ref ao), (4, .int (Int32.ofNat k))]) hx hb dL_law_171 hl (by decide) rfl (fun ls hl => ?_)
    refine lv_aload_n hx hb dL_law_173 rfl (lv_at hl 4 rfl) ?_
    refine pw_fi (r := 1) (ws0 := WL cy qa P T S nw hz ak pa wt cd ln ao ov ++ WM cy q 1 z sv sn sp bf ty gn hs) (ws1 := WL cy qa P T S nw hz ak pa wt cd ln ao ov ++ WM cy q 1 z sv sn sp bf ty gn hs) (wa := WL cy qa P T S nw hz ak pa wt cd ln ao ov) (wb := []) (wc := WM cy q 1 z sv sn sp bf ty gn hs) (w1 := WM cy q 1 z sv sn sp bf ty gn hs) (rest := []) (As := []) hF (kX4_thrown l D cy q _ 1 z sv sn sp bf ty gn hs 1 rfl) (cwV 0 hts (pw_gVt (own := RL) (idx := 80) (C := RX4) (y := yX4_thrown) aw_714 aw_715 aw_716 aw_6 aw_717) rfl rfl rfl pX4_thrown ⟨Nat.le_of_ble_eq_true rfl, Nat.le_of_ble_eq_true rfl⟩) 4 (RX4, TX4, 9) rfl rfl ⟨0, _, rfl⟩ hK hP hD hS hA (by rw [List.append_nil]) (by rw [List.append_nil]) rfl rfl hl.1 rfl (Nat.le_of_ble_eq_true rfl) dL_law_174 ⟨hR1, hR2⟩ (fun H locs hP hD hS => ?_)
    refine lv_iload hx hb dL_law_177 (lv_at hl 1 rfl) ?_
    refine lv_icmp_eq (tgt := 184) hx hb dL_law_179 (by decide) (fun _ => ?_) (fun c_ => absurd rfl c_)
    refine lv_iload hx hb dL_law_184 (lv_at hl 1 rfl) ?_
    refine lv_if_ne (tgt := 201) hx hb dL_law_186 (by decide) (fun _ => ?_) (fun c_ => absurd c_ (by decide))
    refine lv_goto (tgt := 1284) hx hb dL_law_201 (by decide) ?_
    exact kk P T S nw hz ak pa wt cd ln ov 1 z sv sn sp bf ty gn hs H locs ls RAh hP hD hS ⟨hl.1, hl.2.1, fun x hx9 => hl.2.2 x (List.mem_cons_of_mem _ (List.mem_cons_of_mem _ hx9))⟩
  · skip
    refine lv_aload_n hx hb dL_law_148 rfl (lv_at hl 1 rfl) ?_
    refine lv_aload_n hx hb dL_law_149 rfl (lv_at hl 0 rfl) ?_
    refine lv_iload hx hb dL_law_150 (lv_at hl 4 rfl) ?_
    refine lv_iconst (v := 1) hx hb dL_law_152 (by decide) ?_
    refine lv_iadd hx hb dL_law_153 ?_
    refine va_sld hx hb hX hbl hbA hS h1i dL_law_154 ?_
    refine lv_aload_n hx hb dL_law_155 rfl (lv_at hl 3 rfl) ?_
    refine pw_lcall (r := 2) (ws0 := WL cy qa P T S nw hz ak pa wt cd ln ao ov ++ WM cy q th z sv sn sp bf ty gn hs) (ws1 := WL cy qa P T S nw hz ak pa wt cd ln ao ov ++ WM cy q th z sv sn sp bf ty gn hs) (wa := []) (wb := WM cy q th z sv sn sp bf ty gn hs) (wc := WL cy qa P T S nw hz ak pa wt cd ln ao ov) (w1 := WL cy qa P T S nw hz ak pa wt cd ln ao ov) (rest := []) (As := [.ref (qa 0 0), .int (xs (Int32.ofNat k + 1).toNatClampNeg), .ref ao]) hF (kL_ask_t2 l hfl D cy qa _ P T S nw hz ak pa wt cd ln ao ov (xs (Int32.ofNat k + 1).toNatClampNeg) h3) (vx_cwSW 3 hts (pw_gSW aw_427 aw_428 aw_0 aw_429) rfl rfl rfl pL_ask ⟨Nat.le_of_ble_eq_true rfl, Nat.le_of_ble_eq_true rfl⟩) hK hP hD hS hA hE rfl rfl rfl rfl hl.1 rfl (Nat.le_of_ble_eq_true rfl) dL_law_156 ⟨by omega, by omega⟩ (fun H locs hP hD hS => ?_)
    refine lv_istore (lv' := [(5, .int 2), (0, .ref b), (1, .ref (qa 0 0)), (2, .ref (q 0)), (3, .ref ao), (4, .int (Int32.ofNat k))]) hx hb dL_law_159 hl (by decide) rfl (fun ls hl => ?_)
    refine lv_aload_n hx hb dL_law_161 rfl (lv_at hl 3 rfl) ?_
    refine lv_aload_n hx hb dL_law_162 rfl (lv_at hl 1 rfl) ?_
    refine lv_iload hx hb dL_law_163 (lv_at hl 5 rfl) ?_
    refine lv_iconst (v := 1) hx hb dL_law_165 (by decide) ?_
    refine lv_iadd hx hb dL_law_166 ?_
    refine va_sld hx hb hX hbl hbA hS h1i dL_law_167 ?_
    refine pw_fi (r := 0) (ws0 := WL cy qa P T S nw hz ak pa wt cd ln ao ov ++ WM cy q th z sv sn sp bf ty gn hs) (ws1 := WL cy qa P T S nw hz ak pa wt cd ln ao ov ++ WM cy q 2 z sv sn sp bf ty gn hs) (wa := WL cy qa P T S nw hz ak pa wt cd ln ao ov) (wb := []) (wc := WM cy q th z sv sn sp bf ty gn hs) (w1 := WM cy q 2 z sv sn sp bf ty gn hs) (rest := []) (As := [.int (xs (Int32.ofNat k + 1).toNatClampNeg)]) hF (kX4_ask l D cy q _ th z sv sn sp bf ty gn hs (xs (Int32.ofNat k + 1).toNatClampNeg) (0, 2, z, sv, sn, gn) h4) (cwV 1 hts (pw_gVt (own := RL) (idx := 79) (C := RX4) (y := yX4_ask) aw_722 aw_723 aw_724 aw_6 aw_725) rfl rfl rfl pX4_ask ⟨Nat.le_of_ble_eq_true rfl, Nat.le_of_ble_eq_true rfl⟩) 4 (RX4, TX4, 9) rfl rfl ⟨0, _, rfl⟩ hK hP hD hS hA (by rw [List.append_nil]) (by rw [List.append_nil]) rfl rfl hl.1 rfl (Nat.le_of_ble_eq_true rfl) dL_law_168 ⟨hR1, hR2⟩ (fun H locs hP hD hS => ?_)
    refine lv_istore (lv' := [(6, .int 0), (5, .int 2), (0, .ref b), (1, .ref (qa 0 0)), (2, .ref (q 0)), (3, .ref ao), (4, .int (Int32.ofNat k))]) hx hb dL_law_171 hl (by decide) rfl (fun ls hl => ?_)
    refine lv_aload_n hx hb dL_law_173 rfl (lv_at hl 4 rfl) ?_
    refine pw_fi (r := 2) (ws0 := WL cy qa P T S nw hz ak pa wt cd ln ao ov ++ WM cy q 2 z sv sn sp bf ty gn hs) (ws1 := WL cy qa P T S nw hz ak pa wt cd ln ao ov ++ WM cy q 2 z sv sn sp bf ty gn hs) (wa := WL cy qa P T S nw hz ak pa wt cd ln ao ov) (wb := []) (wc := WM cy q 2 z sv sn sp bf ty gn hs) (w1 := WM cy q 2 z sv sn sp bf ty gn hs) (rest := []) (As := []) hF (kX4_thrown l D cy q _ 2 z sv sn sp bf ty gn hs 2 rfl) (cwV 0 hts (pw_gVt (own := RL) (idx := 80) (C := RX4) (y := yX4_thrown) aw_714 aw_715 aw_716 aw_6 aw_717) rfl rfl rfl pX4_thrown ⟨Nat.le_of_ble_eq_true rfl, Nat.le_of_ble_eq_true rfl⟩) 4 (RX4, TX4, 9) rfl rfl ⟨0, _, rfl⟩ hK hP hD hS hA (by rw [List.append_nil]) (by rw [List.append_nil]) rfl rfl hl.1 rfl (Nat.le_of_ble_eq_true rfl) dL_law_174 ⟨hR1, hR2⟩ (fun H locs hP hD hS => ?_)
    refine lv_iload hx hb dL_law_177 (lv_at hl 1 rfl) ?_
    refine lv_icmp_eq (tgt := 184) hx hb dL_law_179 (by decide) (fun _ => ?_) (fun c_ => absurd rfl c_)
    refine lv_iload hx hb dL_law_184 (lv_at hl 1 rfl) ?_
    refine lv_if_ne (tgt := 201) hx hb dL_law_186 (by decide) (fun _ => ?_) (fun c_ => absurd c_ (by decide))
    refine lv_goto (tgt := 1284) hx hb dL_law_201 (by decide) ?_
    exact kk P T S nw hz ak pa wt cd ln ov 2 z sv sn sp bf ty gn hs H locs ls RAh hP hD hS ⟨hl.1, hl.2.1, fun x hx9 => hl.2.2 x (List.mem_cons_of_mem _ (List.mem_cons_of_mem _ hx9))⟩
  · skip
    refine lv_aload_n hx hb dL_law_148 rfl (lv_at hl 1 rfl) ?_
    refine lv_aload_n hx hb dL_law_149 rfl (lv_at hl 0 rfl) ?_
    refine lv_iload hx hb dL_law_150 (lv_at hl 4 rfl) ?_
    refine lv_iconst (v := 1) hx hb dL_law_152 (by decide) ?_
    refine lv_iadd hx hb dL_law_153 ?_
    refine va_sld hx hb hX hbl hbA hS h1i dL_law_154 ?_
    refine lv_aload_n hx hb dL_law_155 rfl (lv_at hl 3 rfl) ?_
    refine pw_lcall (r := 0) (ws0 := WL cy qa P T S nw hz ak pa wt cd ln ao ov ++ WM cy q th z sv sn sp bf ty gn hs) (ws1 := WL cy qa P' T S' nw' hz' ak pa wt cd ln ao (vp_updL ov (0 : Int32).toNatClampNeg r.toInt64) ++ WM cy q th z sv sn sp bf ty gn hs) (wa := []) (wb := WM cy q th z sv sn sp bf ty gn hs) (wc := WL cy qa P T S nw hz ak pa wt cd ln ao ov) (w1 := WL cy qa P' T S' nw' hz' ak pa wt cd ln ao (vp_updL ov (0 : Int32).toNatClampNeg r.toInt64)) (rest := []) (As := [.ref (qa 0 0), .int (xs (Int32.ofNat k + 1).toNatClampNeg), .ref ao]) hF (kL_ask_r l hfl D cy qa _ P T S nw hz ak pa wt cd ln ao ov (xs (Int32.ofNat k + 1).toNatClampNeg) (r, P', S', nw', hz') h3) (vx_cwSW 3 hts (pw_gSW aw_427 aw_428 aw_0 aw_429) rfl rfl rfl pL_ask ⟨Nat.le_of_ble_eq_true rfl, Nat.le_of_ble_eq_true rfl⟩) hK hP hD hS hA hE rfl rfl rfl rfl hl.1 rfl (Nat.le_of_ble_eq_true rfl) dL_law_156 ⟨by omega, by omega⟩ (fun H locs hP hD hS => ?_)
    refine W.widen (k := cells + 1) (n := slots + 6) (by omega) (by omega) ?_
    refine lv_istore (lv' := [(5, .int 0), (0, .ref b), (1, .ref (qa 0 0)), (2, .ref (q 0)), (3, .ref ao), (4, .int (Int32.ofNat k))]) hx hb dL_law_159 hl (by decide) rfl (fun ls hl => ?_)
    refine lv_aload_n hx hb dL_law_161 rfl (lv_at hl 3 rfl) ?_
    refine lv_aload_n hx hb dL_law_162 rfl (lv_at hl 1 rfl) ?_
    refine lv_iload hx hb dL_law_163 (lv_at hl 5 rfl) ?_
    refine lv_iconst (v := 1) hx hb dL_law_165 (by decide) ?_
    refine lv_iadd hx hb dL_law_166 ?_
    refine va_sld hx hb hX hbl hbA hS h1i dL_law_167 ?_
    refine pw_fi (r := r) (ws0 := WL cy qa P' T S' nw' hz' ak pa wt cd ln ao (vp_updL ov (0 : Int32).toNatClampNeg r.toInt64) ++ WM cy q th z sv sn sp bf ty gn hs) (ws1 := WL cy qa P' T S' nw' hz' ak pa wt cd ln ao (vp_updL ov (0 : Int32).toNatClampNeg r.toInt64) ++ WM cy q 0 z' sv' sn' sp bf ty gn' hs) (wa := WL cy qa P' T S' nw' hz' ak pa wt cd ln ao (vp_updL ov (0 : Int32).toNatClampNeg r.toInt64)) (wb := []) (wc := WM cy q th z sv sn sp bf ty gn hs) (w1 := WM cy q 0 z' sv' sn' sp bf ty gn' hs) (rest := []) (As := [.int (xs (Int32.ofNat k + 1).toNatClampNeg)]) hF (kX4_ask l D cy q _ th z sv sn sp bf ty gn hs (xs (Int32.ofNat k + 1).toNatClampNeg) (r, 0, z', sv', sn', gn') h4) (cwV 1 hts (pw_gVt (own := RL) (idx := 79) (C := RX4) (y := yX4_ask) aw_722 aw_723 aw_724 aw_6 aw_725) rfl rfl rfl pX4_ask ⟨Nat.le_of_ble_eq_true rfl, Nat.le_of_ble_eq_true rfl⟩) 4 (RX4, TX4, 9) rfl rfl ⟨0, _, rfl⟩ hK hP hD hS hA (by rw [List.append_nil]) (by rw [List.append_nil]) rfl rfl hl.1 rfl (Nat.le_of_ble_eq_true rfl) dL_law_168 ⟨hR1, hR2⟩ (fun H locs hP hD hS => ?_)
    refine lv_istore (lv' := [(6, .int r), (5, .int 0), (0, .ref b), (1, .ref (qa 0 0)), (2, .ref (q 0)), (3, .ref ao), (4, .int (Int32.ofNat k))]) hx hb dL_law_171 hl (by decide) rfl (fun ls hl => ?_)
    refine lv_aload_n hx hb dL_law_173 rfl (lv_at hl 4 rfl) ?_
    refine pw_fi (r := 0) (ws0 := WL cy qa P' T S' nw' hz' ak pa wt cd ln ao (vp_updL ov (0 : Int32).toNatClampNeg r.toInt64) ++ WM cy q 0 z' sv' sn' sp bf ty gn' hs) (ws1 := WL cy qa P' T S' nw' hz' ak pa wt cd ln ao (vp_updL ov (0 : Int32).toNatClampNeg r.toInt64) ++ WM cy q 0 z' sv' sn' sp bf ty gn' hs) (wa := WL cy qa P' T S' nw' hz' ak pa wt cd ln ao (vp_updL ov (0 : Int32).toNatClampNeg r.toInt64)) (wb := []) (wc := WM cy q 0 z' sv' sn' sp bf ty gn' hs) (w1 := WM cy q 0 z' sv' sn' sp bf ty gn' hs) (rest := []) (As := []) hF (kX4_thrown l D cy q _ 0 z' sv' sn' sp bf ty gn' hs 0 rfl) (cwV 0 hts (pw_gVt (own := RL) (idx := 80) (C := RX4) (y := yX4_thrown) aw_714 aw_715 aw_716 aw_6 aw_717) rfl rfl rfl pX4_thrown ⟨Nat.le_of_ble_eq_true rfl, Nat.le_of_ble_eq_true rfl⟩) 4 (RX4, TX4, 9) rfl rfl ⟨0, _, rfl⟩ hK hP hD hS hA (by rw [List.append_nil]) (by rw [List.append_nil]) rfl rfl hl.1 rfl (Nat.le_of_ble_eq_true rfl) dL_law_174 ⟨hR1, hR2⟩ (fun H locs hP hD hS => ?_)
    refine lv_iload hx hb dL_law_177 (lv_at hl 1 rfl) ?_
    refine lv_icmp_eq (tgt := 184) hx hb dL_law_179 (by decide) (fun _ => ?_) (fun c_ => absurd rfl c_)
    refine lv_iload hx hb dL_law_184 (lv_at hl 1 rfl) ?_
    refine lv_if_ne (tgt := 201) hx hb dL_law_186 (by decide) (fun c_ => absurd rfl c_) (fun _ => ?_)
    refine lv_aload_n hx hb dL_law_189 rfl (lv_at hl 5 rfl) ?_
    refine lv_iconst (v := 0) hx hb dL_law_190 (by decide) ?_
    refine va_lald hx hb hK hP 128 3 rfl rfl (pq_vp (by decide)) dL_law_191 ?_
    refine lv_iload hx hb dL_law_192 (lv_at hl 0 rfl) ?_
    refine lv_i2l (v := r.toInt64) hx hb dL_law_194 rfl ?_
    refine W.lcmp hx hb dL_law_195 ?_
    refine lv_if_eq (tgt := 201) hx hb dL_law_196 (by decide) (fun _ => ?_) (fun c_ => absurd ((lg_cmp_eq _ _).mpr rfl) c_)
    refine lv_goto (tgt := 1284) hx hb dL_law_201 (by decide) ?_
    exact kk P' T S' nw' hz' ak pa wt cd ln (vp_updL ov (0 : Int32).toNatClampNeg r.toInt64) 0 z' sv' sn' sp bf ty gn' hs H locs ls RA1 hP hD hS ⟨hl.1, hl.2.1, fun x hx9 => hl.2.2 x (List.mem_cons_of_mem _ (List.mem_cons_of_mem _ hx9))⟩
