/-! ===== the arms of the law ===== -/
theorem pw_ix {k j L : Nat} (hL : L ≤ 1536) (hk : k + j < L) : vp_in (Int32.ofNat (k + j)) L := pq_vp (r_in hk (by omega))
theorem pw_ix1 {k L : Nat} (hL : L ≤ 1536) (hk : k + 2 < L) : vp_in (Int32.ofNat k + 1) L := by
  rw [r_s]
  exact pw_ix hL (j := 1) (by omega)
theorem pw_ix2 {k L : Nat} (hL : L ≤ 1536) (hk : k + 2 < L) : vp_in (Int32.ofNat k + 2) L := by
  rw [show Int32.ofNat k + 2 = Int32.ofNat (k + 2) from r_a k 2]
  exact pw_ix hL (j := 2) (by omega)
set_option maxHeartbeats 8000000 in
set_option maxRecDepth 100000 in
theorem kA_ask {p : Program} {e : Env} {s : State} {m : MethodId} {args : Array Value} {below : List Frame} {meth : Method} {c : Code} (l : Launch) (hfl : l.stackTraces = false) {D : va_G} {cy : Nat → ClassId} {qa : Nat → Nat → Nat} {q : Nat → Nat} {A : Nat → Prop} {b L k ao : Nat} {xs : Nat → Int32} (hx : p.tables.exec = Jvm.exec) (hb : c.code = cL_law) (hF : CallFix p m c cL_law 9 s args pw_all RL) (hK : va_K D vwCl (pw_tys cy) s) (hE : pw_E A s s.heap) (hA : ∀ q : Nat, s.heap.size ≤ q → A q) (hX : va_X b L xs s s.heap) (hbl : b < s.heap.size) (hbA : ¬ A b) (hL : L ≤ 1536) (hk : k + 2 < L) {P T : Nat → Nat → Int32} {S : Nat → Nat → Nat → Int32} {nw hz : Int32} {ak pa wt cd : Nat → Int32} {ln : Int32} {ov : Nat → Int64} {th : Int32} {z sv : Nat → Int32} {sn : Int32} {sp bf : Nat → Int32} {ty : Int32} {gn : Nat → Int32} {hs : Int64} (RAh : RA P S nw hz cd ln z sv sn bf ty) {H : Heap} {locs : List Loc} {ls : Array Slot} {cells slots : Nat} {Q : State → Prop} (hP : va_P D vwCl (WL cy qa P T S nw hz ak pa wt cd ln ao ov ++ WM cy q th z sv sn sp bf ty gn hs) H) (hD : va_D A (WL cy qa P T S nw hz ak pa wt cd ln ao ov ++ WM cy q th z sv sn sp bf ty gn hs)) (hS : va_S A s.heap H locs) (hl : lv_has ls 9 [(0, .ref b), (1, .ref (qa 0 0)), (2, .ref (q 0)), (3, .ref ao), (4, .int (Int32.ofNat k))]) (hR1 : cells + 1 ≤ room_1.cells) (hR2 : slots + 6 ≤ room_1.slots) (kk : ∀ (P T : Nat → Nat → Int32) (S : Nat → Nat → Nat → Int32) (nw hz : Int32) (ak pa wt cd : Nat → Int32) (ln : Int32) (ov : Nat → Int64) (th : Int32) (z sv : Nat → Int32) (sn : Int32) (sp bf : Nat → Int32) (ty : Int32) (gn : Nat → Int32) (hs : Int64) (H : Heap) (locs : List Loc) (ls : Array Slot), RA P S nw hz cd ln z sv sn bf ty → va_P D vwCl (WL cy qa P T S nw hz ak pa wt cd ln ao ov ++ WM cy q th z sv sn sp bf ty gn hs) H → va_D A (WL cy qa P T S nw hz ak pa wt cd ln ao ov ++ WM cy q th z sv sn sp bf ty gn hs) → va_S A s.heap H locs → lv_has ls 9 [(0, .ref b), (1, .ref (qa 0 0)), (2, .ref (q 0)), (3, .ref ao), (4, .int (Int32.ofNat k))] → W p l e room_1 s m args below meth c H locs (cells + 1) (slots + 6) Q (F0 m 1284 ls [])) : W p l e room_1 s m args below meth c H locs cells slots Q (F0 m 148 ls []) := by
  have h1i : vp_in (Int32.ofNat k + 1) L := pw_ix1 hL hk
  have h2i : vp_in (Int32.ofNat k + 2) L := pw_ix2 hL hk
  have hts := hF.2.2.2.2
  rcases c_ask RAh (xs (Int32.ofNat k + 1).toNatClampNeg) th gn with (⟨h3, h4⟩ | ⟨h3, h4⟩) | ⟨r, P', S', nw', hz', z', sv', sn', gn', h3, h4, RA1⟩
  · skip
    refine lv_aload_n hx hb dL_law_148 rfl (lv_at hl 1 rfl) ?_
    refine lv_aload_n hx hb dL_law_149 rfl (lv_at hl 0 rfl) ?_
    refine lv_iload hx hb dL_law_150 (lv_at hl 4 rfl) ?_
    refine lv_iconst (v := 1) hx hb dL_law_152 (by decide) ?_
    refine lv_iadd hx hb dL_law_153 ?_
    refine va_sld hx hb hX hbl hbA hS h1i dL_law_154 ?_
    refine lv_aload_n hx hb dL_law_155 rfl (lv_at hl 3 rfl) ?_
    refine pw_lcall (r := 1) (ws0 := WL cy qa P T S nw hz ak pa wt cd ln ao ov ++ WM cy q th z sv sn sp bf ty gn hs) (ws1 := WL cy qa P T S nw hz ak pa wt cd ln ao ov ++ WM cy q th z sv sn sp bf ty gn hs) (wa := []) (wb := WM cy q th z sv sn sp bf ty gn hs) (wc := WL cy qa P T S nw hz ak pa wt cd ln ao ov) (w1 := WL cy qa P T S nw hz ak pa wt cd ln ao ov) (rest := []) (As := [.ref (qa 0 0), .int (xs (Int32.ofNat k + 1).toNatClampNeg), .ref ao]) hF (kL_ask_t1 l hfl D cy qa _ P T S nw hz ak pa wt cd ln ao ov (xs (Int32.ofNat k + 1).toNatClampNeg) h3) (vx_cwSW 3 hts (pw_gSW aw_427 aw_428 aw_0 aw_429) rfl rfl rfl pL_ask ⟨Nat.le_of_ble_eq_true rfl, Nat.le_of_ble_eq_true rfl⟩) hK hP hD hS hA hE rfl rfl rfl rfl hl.1 rfl (Nat.le_of_ble_eq_true rfl) dL_law_156 ⟨by omega, by omega⟩ (fun H locs hP hD hS => ?_)
    refine lv_istore (lv' := [(5, .int 1), (0, .ref b), (1, .ref (qa 0 0)), (2, .ref (q 0)), (3, .ref ao), (4, .int (Int32.ofNat k))]) hx hb dL_law_159 hl (by decide) rfl (fun ls hl => ?_)
    refine lv_aload_n hx hb dL_law_161 rfl (lv_at hl 3 rfl) ?_
    refine lv_aload_n hx hb dL_law_162 rfl (lv_at hl 1 rfl) ?_
    refine lv_iload hx hb dL_law_163 (lv_at hl 5 rfl) ?_
    refine lv_iconst (v := 1) hx hb dL_law_165 (by decide) ?_
    refine lv_iadd hx hb dL_law_166 ?_
    refine va_sld hx hb hX hbl hbA hS h1i dL_law_167 ?_
    refine pw_fi (r := 0) (ws0 := WL cy qa P T S nw hz ak pa wt cd ln ao ov ++ WM cy q th z sv sn sp bf ty gn hs) (ws1 := WL cy qa P T S nw hz ak pa wt cd ln ao ov ++ WM cy q 1 z sv sn sp bf ty gn hs) (wa := WL cy qa P T S nw hz ak pa wt cd ln ao ov) (wb := []) (wc := WM cy q th z sv sn sp bf ty gn hs) (w1 := WM cy q 1 z sv sn sp bf ty gn hs) (rest := []) (As := [.int (xs (Int32.ofNat k + 1).toNatClampNeg)]) hF (kX4_ask l D cy q _ th z sv sn sp bf ty gn hs (xs (Int32.ofNat k + 1).toNatClampNeg) (0, 1, z, sv, sn, gn) h4) (cwV 1 hts (pw_gVt (own := RL) (idx := 79) (C := RX4) (y := yX4_ask) aw_722 aw_723 aw_724 aw_6 aw_725) rfl rfl rfl pX4_ask ⟨Nat.le_of_ble_eq_true rfl, Nat.le_of_ble_eq_true rfl⟩) 4 (RX4, TX4, 9) rfl rfl ⟨0, _, rfl⟩ hK hP hD hS hA (by rw [List.append_nil]) (by rw [List.append_nil]) rfl rfl hl.1 rfl (Nat.le_of_ble_eq_true rfl) dL_law_168 ⟨hR1, hR2⟩ (fun H locs hP hD hS => ?_)
    refine lv_istore (lv' := [(6, .int 0), (5, .int 1), (0, .ref b), (1, .ref (qa 0 0)), (2, .ref (q 0)), (3, .ref ao), (4, .int (Int32.ofNat k))]) hx hb dL_law_171 hl (by decide) rfl (fun ls hl => ?_)
    refine lv_aload_n hx hb dL_law_173 rfl (lv_at hl 4 rfl) ?_
    refine pw_fi (r := 1) (ws0 := WL cy qa P T S nw hz ak pa wt cd ln ao ov ++ WM cy q 1 z sv sn sp bf ty gn hs) (ws1 := WL cy qa P T S nw hz ak pa wt cd ln ao ov ++ WM cy q 1 z sv sn sp bf ty gn hs) (wa := WL cy qa P T S nw hz ak pa wt cd ln ao ov) (wb := []) (wc := WM cy q 1 z sv sn sp bf ty gn hs) (w1 := WM cy q 1 z sv sn sp bf ty gn hs) (rest := []) (As := []) hF (kX4_thrown l D cy q _ 1 z sv sn sp bf ty gn hs 1 rfl) (cwV 0 hts (pw_gVt (own := RL) (idx := 80) (C := RX4) (y := yX4_thrown) aw_714 aw_715 aw_716 aw_6 aw_717) rfl rfl rfl pX4_thrown ⟨Nat.le_of_ble_eq_true rfl, Nat.le_of_ble_eq_true rfl⟩) 4 (RX4, TX4, 9) rfl rfl ⟨0, _, rfl⟩ hK hP hD hS hA (by rw [List.append_nil]) (by rw [List.append_nil]) rfl rfl hl.1 rfl (Nat.le_of_ble_eq_true rfl) dL_law_174 ⟨hR1, hR2⟩ (fun H locs hP hD hS => ?_)
    refine lv_iload hx hb dL_law_177 (lv_at hl 1 rfl) ?_
    refine lv_icmp_eq (tgt := 184) hx hb dL_law_179 (by decide) (fun _ => ?_) (fun c_ => absurd rfl c_)
    refine lv_iload hx hb dL_law_184 (lv_at hl 1 rfl) ?_
    refine lv_if_ne (tgt := 201) hx hb dL_law_186 (by decide) (fun _ => ?_) (fun c_ => absurd c_ (by decide))
    refine lv_goto (tgt := 1284) hx hb dL_law_201 (by decide) ?_
    exact kk P T S nw hz ak pa wt cd ln ov 1 z sv sn sp bf ty gn hs H locs ls RAh hP hD hS ⟨hl.1, hl.2.1, fun x hx9 => hl.2.2 x (List.mem_cons_of_mem _ (List.mem_cons_of_mem _ hx9))⟩
  · skip
    refine lv_aload_n hx hb dL_law_148 rfl (lv_at hl 1 rfl) ?_
    refine lv_aload_n hx hb dL_law_149 rfl (lv_at hl 0 rfl) ?_
    refine lv_iload hx hb dL_law_150 (lv_at hl 4 rfl) ?_
    refine lv_iconst (v := 1) hx hb dL_law_152 (by decide) ?_
    refine lv_iadd hx hb dL_law_153 ?_
    refine va_sld hx hb hX hbl hbA hS h1i dL_law_154 ?_
    refine lv_aload_n hx hb dL_law_155 rfl (lv_at hl 3 rfl) ?_
    refine pw_lcall (r := 2) (ws0 := WL cy qa P T S nw hz ak pa wt cd ln ao ov ++ WM cy q th z sv sn sp bf ty gn hs) (ws1 := WL cy qa P T S nw hz ak pa wt cd ln ao ov ++ WM cy q th z sv sn sp bf ty gn hs) (wa := []) (wb := WM cy q th z sv sn sp bf ty gn hs) (wc := WL cy qa P T S nw hz ak pa wt cd ln ao ov) (w1 := WL cy qa P T S nw hz ak pa wt cd ln ao ov) (rest := []) (As := [.ref (qa 0 0), .int (xs (Int32.ofNat k + 1).toNatClampNeg), .ref ao]) hF (kL_ask_t2 l hfl D cy qa _ P T S nw hz ak pa wt cd ln ao ov (xs (Int32.ofNat k + 1).toNatClampNeg) h3) (vx_cwSW 3 hts (pw_gSW aw_427 aw_428 aw_0 aw_429) rfl rfl rfl pL_ask ⟨Nat.le_of_ble_eq_true rfl, Nat.le_of_ble_eq_true rfl⟩) hK hP hD hS hA hE rfl rfl rfl rfl hl.1 rfl (Nat.le_of_ble_eq_true rfl) dL_law_156 ⟨by omega, by omega⟩ (fun H locs hP hD hS => ?_)
    refine lv_istore (lv' := [(5, .int 2), (0, .ref b), (1, .ref (qa 0 0)), (2, .ref (q 0)), (3, .ref ao), (4, .int (Int32.ofNat k))]) hx hb dL_law_159 hl (by decide) rfl (fun ls hl => ?_)
    refine lv_aload_n hx hb dL_law_161 rfl (lv_at hl 3 rfl) ?_
    refine lv_aload_n hx hb dL_law_162 rfl (lv_at hl 1 rfl) ?_
    refine lv_iload hx hb dL_law_163 (lv_at hl 5 rfl) ?_
    refine lv_iconst (v := 1) hx hb dL_law_165 (by decide) ?_
    refine lv_iadd hx hb dL_law_166 ?_
    refine va_sld hx hb hX hbl hbA hS h1i dL_law_167 ?_
    refine pw_fi (r := 0) (ws0 := WL cy qa P T S nw hz ak pa wt cd ln ao ov ++ WM cy q th z sv sn sp bf ty gn hs) (ws1 := WL cy qa P T S nw hz ak pa wt cd ln ao ov ++ WM cy q 2 z sv sn sp bf ty gn hs) (wa := WL cy qa P T S nw hz ak pa wt cd ln ao ov) (wb := []) (wc := WM cy q th z sv sn sp bf ty gn hs) (w1 := WM cy q 2 z sv sn sp bf ty gn hs) (rest := []) (As := [.int (xs (Int32.ofNat k + 1).toNatClampNeg)]) hF (kX4_ask l D cy q _ th z sv sn sp bf ty gn hs (xs (Int32.ofNat k + 1).toNatClampNeg) (0, 2, z, sv, sn, gn) h4) (cwV 1 hts (pw_gVt (own := RL) (idx := 79) (C := RX4) (y := yX4_ask) aw_722 aw_723 aw_724 aw_6 aw_725) rfl rfl rfl pX4_ask ⟨Nat.le_of_ble_eq_true rfl, Nat.le_of_ble_eq_true rfl⟩) 4 (RX4, TX4, 9) rfl rfl ⟨0, _, rfl⟩ hK hP hD hS hA (by rw [List.append_nil]) (by rw [List.append_nil]) rfl rfl hl.1 rfl (Nat.le_of_ble_eq_true rfl) dL_law_168 ⟨hR1, hR2⟩ (fun H locs hP hD hS => ?_)
    refine lv_istore (lv' := [(6, .int 0), (5, .int 2), (0, .ref b), (1, .ref (qa 0 0)), (2, .ref (q 0)), (3, .ref ao), (4, .int (Int32.ofNat k))]) hx hb dL_law_171 hl (by decide) rfl (fun ls hl => ?_)
    refine lv_aload_n hx hb dL_law_173 rfl (lv_at hl 4 rfl) ?_
    refine pw_fi (r := 2) (ws0 := WL cy qa P T S nw hz ak pa wt cd ln ao ov ++ WM cy q 2 z sv sn sp bf ty gn hs) (ws1 := WL cy qa P T S nw hz ak pa wt cd ln ao ov ++ WM cy q 2 z sv sn sp bf ty gn hs) (wa := WL cy qa P T S nw hz ak pa wt cd ln ao ov) (wb := []) (wc := WM cy q 2 z sv sn sp bf ty gn hs) (w1 := WM cy q 2 z sv sn sp bf ty gn hs) (rest := []) (As := []) hF (kX4_thrown l D cy q _ 2 z sv sn sp bf ty gn hs 2 rfl) (cwV 0 hts (pw_gVt (own := RL) (idx := 80) (C := RX4) (y := yX4_thrown) aw_714 aw_715 aw_716 aw_6 aw_717) rfl rfl rfl pX4_thrown ⟨Nat.le_of_ble_eq_true rfl, Nat.le_of_ble_eq_true rfl⟩) 4 (RX4, TX4, 9) rfl rfl ⟨0, _, rfl⟩ hK hP hD hS hA (by rw [List.append_nil]) (by rw [List.append_nil]) rfl rfl hl.1 rfl (Nat.le_of_ble_eq_true rfl) dL_law_174 ⟨hR1, hR2⟩ (fun H locs hP hD hS => ?_)
    refine lv_iload hx hb dL_law_177 (lv_at hl 1 rfl) ?_
    refine lv_icmp_eq (tgt := 184) hx hb dL_law_179 (by decide) (fun _ => ?_) (fun c_ => absurd rfl c_)
    refine lv_iload hx hb dL_law_184 (lv_at hl 1 rfl) ?_
    refine lv_if_ne (tgt := 201) hx hb dL_law_186 (by decide) (fun _ => ?_) (fun c_ => absurd c_ (by decide))
    refine lv_goto (tgt := 1284) hx hb dL_law_201 (by decide) ?_
    exact kk P T S nw hz ak pa wt cd ln ov 2 z sv sn sp bf ty gn hs H locs ls RAh hP hD hS ⟨hl.1, hl.2.1, fun x hx9 => hl.2.2 x (List.mem_cons_of_mem _ (List.mem_cons_of_mem _ hx9))⟩
  · skip
    refine lv_aload_n hx hb dL_law_148 rfl (lv_at hl 1 rfl) ?_
    refine lv_aload_n hx hb dL_law_149 rfl (lv_at hl 0 rfl) ?_
    refine lv_iload hx hb dL_law_150 (lv_at hl 4 rfl) ?_
    refine lv_iconst (v := 1) hx hb dL_law_152 (by decide) ?_
    refine lv_iadd hx hb dL_law_153 ?_
    refine va_sld hx hb hX hbl hbA hS h1i dL_law_154 ?_
    refine lv_aload_n hx hb dL_law_155 rfl (lv_at hl 3 rfl) ?_
    refine pw_lcall (r := 0) (ws0 := WL cy qa P T S nw hz ak pa wt cd ln ao ov ++ WM cy q th z sv sn sp bf ty gn hs) (ws1 := WL cy qa P' T S' nw' hz' ak pa wt cd ln ao (vp_updL ov (0 : Int32).toNatClampNeg r.toInt64) ++ WM cy q th z sv sn sp bf ty gn hs) (wa := []) (wb := WM cy q th z sv sn sp bf ty gn hs) (wc := WL cy qa P T S nw hz ak pa wt cd ln ao ov) (w1 := WL cy qa P' T S' nw' hz' ak pa wt cd ln ao (vp_updL ov (0 : Int32).toNatClampNeg r.toInt64)) (rest := []) (As := [.ref (qa 0 0), .int (xs (Int32.ofNat k + 1).toNatClampNeg), .ref ao]) hF (kL_ask_r l hfl D cy qa _ P T S nw hz ak pa wt cd ln ao ov (xs (Int32.ofNat k + 1).toNatClampNeg) (r, P', S', nw', hz') h3) (vx_cwSW 3 hts (pw_gSW aw_427 aw_428 aw_0 aw_429) rfl rfl rfl pL_ask ⟨Nat.le_of_ble_eq_true rfl, Nat.le_of_ble_eq_true rfl⟩) hK hP hD hS hA hE rfl rfl rfl rfl hl.1 rfl (Nat.le_of_ble_eq_true rfl) dL_law_156 ⟨by omega, by omega⟩ (fun H locs hP hD hS => ?_)
    refine W.widen (k := cells + 1) (n := slots + 6) (by omega) (by omega) ?_
    refine lv_istore (lv' := [(5, .int 0), (0, .ref b), (1, .ref (qa 0 0)), (2, .ref (q 0)), (3, .ref ao), (4, .int (Int32.ofNat k))]) hx hb dL_law_159 hl (by decide) rfl (fun ls hl => ?_)
    refine lv_aload_n hx hb dL_law_161 rfl (lv_at hl 3 rfl) ?_
    refine lv_aload_n hx hb dL_law_162 rfl (lv_at hl 1 rfl) ?_
    refine lv_iload hx hb dL_law_163 (lv_at hl 5 rfl) ?_
    refine lv_iconst (v := 1) hx hb dL_law_165 (by decide) ?_
    refine lv_iadd hx hb dL_law_166 ?_
    refine va_sld hx hb hX hbl hbA hS h1i dL_law_167 ?_
    refine pw_fi (r := r) (ws0 := WL cy qa P' T S' nw' hz' ak pa wt cd ln ao (vp_updL ov (0 : Int32).toNatClampNeg r.toInt64) ++ WM cy q th z sv sn sp bf ty gn hs) (ws1 := WL cy qa P' T S' nw' hz' ak pa wt cd ln ao (vp_updL ov (0 : Int32).toNatClampNeg r.toInt64) ++ WM cy q 0 z' sv' sn' sp bf ty gn' hs) (wa := WL cy qa P' T S' nw' hz' ak pa wt cd ln ao (vp_updL ov (0 : Int32).toNatClampNeg r.toInt64)) (wb := []) (wc := WM cy q th z sv sn sp bf ty gn hs) (w1 := WM cy q 0 z' sv' sn' sp bf ty gn' hs) (rest := []) (As := [.int (xs (Int32.ofNat k + 1).toNatClampNeg)]) hF (kX4_ask l D cy q _ th z sv sn sp bf ty gn hs (xs (Int32.ofNat k + 1).toNatClampNeg) (r, 0, z', sv', sn', gn') h4) (cwV 1 hts (pw_gVt (own := RL) (idx := 79) (C := RX4) (y := yX4_ask) aw_722 aw_723 aw_724 aw_6 aw_725) rfl rfl rfl pX4_ask ⟨Nat.le_of_ble_eq_true rfl, Nat.le_of_ble_eq_true rfl⟩) 4 (RX4, TX4, 9) rfl rfl ⟨0, _, rfl⟩ hK hP hD hS hA (by rw [List.append_nil]) (by rw [List.append_nil]) rfl rfl hl.1 rfl (Nat.le_of_ble_eq_true rfl) dL_law_168 ⟨hR1, hR2⟩ (fun H locs hP hD hS => ?_)
    refine lv_istore (lv' := [(6, .int r), (5, .int 0), (0, .ref b), (1, .ref (qa 0 0)), (2, .ref (q 0)), (3, .ref ao), (4, .int (Int32.ofNat k))]) hx hb dL_law_171 hl (by decide) rfl (fun ls hl => ?_)
    refine lv_aload_n hx hb dL_law_173 rfl (lv_at hl 4 rfl) ?_
    refine pw_fi (r := 0) (ws0 := WL cy qa P' T S' nw' hz' ak pa wt cd ln ao (vp_updL ov (0 : Int32).toNatClampNeg r.toInt64) ++ WM cy q 0 z' sv' sn' sp bf ty gn' hs) (ws1 := WL cy qa P' T S' nw' hz' ak pa wt cd ln ao (vp_updL ov (0 : Int32).toNatClampNeg r.toInt64) ++ WM cy q 0 z' sv' sn' sp bf ty gn' hs) (wa := WL cy qa P' T S' nw' hz' ak pa wt cd ln ao (vp_updL ov (0 : Int32).toNatClampNeg r.toInt64)) (wb := []) (wc := WM cy q 0 z' sv' sn' sp bf ty gn' hs) (w1 := WM cy q 0 z' sv' sn' sp bf ty gn' hs) (rest := []) (As := []) hF (kX4_thrown l D cy q _ 0 z' sv' sn' sp bf ty gn' hs 0 rfl) (cwV 0 hts (pw_gVt (own := RL) (idx := 80) (C := RX4) (y := yX4_thrown) aw_714 aw_715 aw_716 aw_6 aw_717) rfl rfl rfl pX4_thrown ⟨Nat.le_of_ble_eq_true rfl, Nat.le_of_ble_eq_true rfl⟩) 4 (RX4, TX4, 9) rfl rfl ⟨0, _, rfl⟩ hK hP hD hS hA (by rw [List.append_nil]) (by rw [List.append_nil]) rfl rfl hl.1 rfl (Nat.le_of_ble_eq_true rfl) dL_law_174 ⟨hR1, hR2⟩ (fun H locs hP hD hS => ?_)
    refine lv_iload hx hb dL_law_177 (lv_at hl 1 rfl) ?_
    refine lv_icmp_eq (tgt := 184) hx hb dL_law_179 (by decide) (fun _ => ?_) (fun c_ => absurd rfl c_)
    refine lv_iload hx hb dL_law_184 (lv_at hl 1 rfl) ?_
    refine lv_if_ne (tgt := 201) hx hb dL_law_186 (by decide) (fun c_ => absurd rfl c_) (fun _ => ?_)
    refine lv_aload_n hx hb dL_law_189 rfl (lv_at hl 5 rfl) ?_
    refine lv_iconst (v := 0) hx hb dL_law_190 (by decide) ?_
    refine va_lald hx hb hK hP 128 3 rfl rfl (pq_vp (by decide)) dL_law_191 ?_
    refine lv_iload hx hb dL_law_192 (lv_at hl 0 rfl) ?_
    refine lv_i2l (v := r.toInt64) hx hb dL_law_194 rfl ?_
    refine W.lcmp hx hb dL_law_195 ?_
    refine lv_if_eq (tgt := 201) hx hb dL_law_196 (by decide) (fun _ => ?_) (fun c_ => absurd ((lg_cmp_eq _ _).mpr rfl) c_)
    refine lv_goto (tgt := 1284) hx hb dL_law_201 (by decide) ?_
    exact kk P' T S' nw' hz' ak pa wt cd ln (vp_updL ov (0 : Int32).toNatClampNeg r.toInt64) 0 z' sv' sn' sp bf ty gn' hs H locs ls RA1 hP hD hS ⟨hl.1, hl.2.1, fun x hx9 => hl.2.2 x (List.mem_cons_of_mem _ (List.mem_cons_of_mem _ hx9))⟩
set_option maxHeartbeats 8000000 in
set_option maxRecDepth 100000 in
theorem kA_give {p : Program} {e : Env} {s : State} {m : MethodId} {args : Array Value} {below : List Frame} {meth : Method} {c : Code} (l : Launch) (hfl : l.stackTraces = false) {D : va_G} {cy : Nat → ClassId} {qa : Nat → Nat → Nat} {q : Nat → Nat} {A : Nat → Prop} {b L k ao : Nat} {xs : Nat → Int32} (hx : p.tables.exec = Jvm.exec) (hb : c.code = cL_law) (hF : CallFix p m c cL_law 9 s args pw_all RL) (hK : va_K D vwCl (pw_tys cy) s) (hE : pw_E A s s.heap) (hA : ∀ q : Nat, s.heap.size ≤ q → A q) (hX : va_X b L xs s s.heap) (hbl : b < s.heap.size) (hbA : ¬ A b) (hL : L ≤ 1536) (hk : k + 2 < L) {P T : Nat → Nat → Int32} {S : Nat → Nat → Nat → Int32} {nw hz : Int32} {ak pa wt cd : Nat → Int32} {ln : Int32} {ov : Nat → Int64} {th : Int32} {z sv : Nat → Int32} {sn : Int32} {sp bf : Nat → Int32} {ty : Int32} {gn : Nat → Int32} {hs : Int64} (RAh : RA P S nw hz cd ln z sv sn bf ty) {H : Heap} {locs : List Loc} {ls : Array Slot} {cells slots : Nat} {Q : State → Prop} (hP : va_P D vwCl (WL cy qa P T S nw hz ak pa wt cd ln ao ov ++ WM cy q th z sv sn sp bf ty gn hs) H) (hD : va_D A (WL cy qa P T S nw hz ak pa wt cd ln ao ov ++ WM cy q th z sv sn sp bf ty gn hs)) (hS : va_S A s.heap H locs) (hl : lv_has ls 9 [(0, .ref b), (1, .ref (qa 0 0)), (2, .ref (q 0)), (3, .ref ao), (4, .int (Int32.ofNat k))]) (hR1 : cells + 1 ≤ room_1.cells) (hR2 : slots + 6 ≤ room_1.slots) (kk : ∀ (P T : Nat → Nat → Int32) (S : Nat → Nat → Nat → Int32) (nw hz : Int32) (ak pa wt cd : Nat → Int32) (ln : Int32) (ov : Nat → Int64) (th : Int32) (z sv : Nat → Int32) (sn : Int32) (sp bf : Nat → Int32) (ty : Int32) (gn : Nat → Int32) (hs : Int64) (H : Heap) (locs : List Loc) (ls : Array Slot), RA P S nw hz cd ln z sv sn bf ty → va_P D vwCl (WL cy qa P T S nw hz ak pa wt cd ln ao ov ++ WM cy q th z sv sn sp bf ty gn hs) H → va_D A (WL cy qa P T S nw hz ak pa wt cd ln ao ov ++ WM cy q th z sv sn sp bf ty gn hs) → va_S A s.heap H locs → lv_has ls 9 [(0, .ref b), (1, .ref (qa 0 0)), (2, .ref (q 0)), (3, .ref ao), (4, .int (Int32.ofNat k))] → W p l e room_1 s m args below meth c H locs (cells + 1) (slots + 6) Q (F0 m 1284 ls [])) : W p l e room_1 s m args below meth c H locs cells slots Q (F0 m 204 ls []) := by
  have h1i : vp_in (Int32.ofNat k + 1) L := pw_ix1 hL hk
  have h2i : vp_in (Int32.ofNat k + 2) L := pw_ix2 hL hk
  have hts := hF.2.2.2.2
  rcases c_give RAh (xs (Int32.ofNat k + 1).toNatClampNeg) th gn with (⟨h3, h4⟩ | ⟨h3, h4⟩) | ⟨r, P', S', nw', hz', z', sv', sn', gn', h3, h4, RA1⟩
  · skip
    refine lv_aload_n hx hb dL_law_204 rfl (lv_at hl 1 rfl) ?_
    refine lv_aload_n hx hb dL_law_205 rfl (lv_at hl 0 rfl) ?_
    refine lv_iload hx hb dL_law_206 (lv_at hl 4 rfl) ?_
    refine lv_iconst (v := 1) hx hb dL_law_208 (by decide) ?_
    refine lv_iadd hx hb dL_law_209 ?_
    refine va_sld hx hb hX hbl hbA hS h1i dL_law_210 ?_
    refine lv_aload_n hx hb dL_law_211 rfl (lv_at hl 3 rfl) ?_
    refine pw_lcall (r := 1) (ws0 := WL cy qa P T S nw hz ak pa wt cd ln ao ov ++ WM cy q th z sv sn sp bf ty gn hs) (ws1 := WL cy qa P T S nw hz ak pa wt cd ln ao ov ++ WM cy q th z sv sn sp bf ty gn hs) (wa := []) (wb := WM cy q th z sv sn sp bf ty gn hs) (wc := WL cy qa P T S nw hz ak pa wt cd ln ao ov) (w1 := WL cy qa P T S nw hz ak pa wt cd ln ao ov) (rest := []) (As := [.ref (qa 0 0), .int (xs (Int32.ofNat k + 1).toNatClampNeg), .ref ao]) hF (kL_give_t1 l hfl D cy qa _ P T S nw hz ak pa wt cd ln ao ov (xs (Int32.ofNat k + 1).toNatClampNeg) h3) (vx_cwSW 3 hts (pw_gSW aw_471 aw_472 aw_0 aw_473) rfl rfl rfl pL_give ⟨Nat.le_of_ble_eq_true rfl, Nat.le_of_ble_eq_true rfl⟩) hK hP hD hS hA hE rfl rfl rfl rfl hl.1 rfl (Nat.le_of_ble_eq_true rfl) dL_law_212 ⟨by omega, by omega⟩ (fun H locs hP hD hS => ?_)
    refine lv_istore (lv' := [(5, .int 1), (0, .ref b), (1, .ref (qa 0 0)), (2, .ref (q 0)), (3, .ref ao), (4, .int (Int32.ofNat k))]) hx hb dL_law_215 hl (by decide) rfl (fun ls hl => ?_)
    refine lv_aload_n hx hb dL_law_217 rfl (lv_at hl 3 rfl) ?_
    refine lv_aload_n hx hb dL_law_218 rfl (lv_at hl 1 rfl) ?_
    refine lv_iload hx hb dL_law_219 (lv_at hl 5 rfl) ?_
    refine lv_iconst (v := 1) hx hb dL_law_221 (by decide) ?_
    refine lv_iadd hx hb dL_law_222 ?_
    refine va_sld hx hb hX hbl hbA hS h1i dL_law_223 ?_
    refine pw_fi (r := 0) (ws0 := WL cy qa P T S nw hz ak pa wt cd ln ao ov ++ WM cy q th z sv sn sp bf ty gn hs) (ws1 := WL cy qa P T S nw hz ak pa wt cd ln ao ov ++ WM cy q 1 z sv sn sp bf ty gn hs) (wa := WL cy qa P T S nw hz ak pa wt cd ln ao ov) (wb := []) (wc := WM cy q th z sv sn sp bf ty gn hs) (w1 := WM cy q 1 z sv sn sp bf ty gn hs) (rest := []) (As := [.int (xs (Int32.ofNat k + 1).toNatClampNeg)]) hF (kX4_give l D cy q _ th z sv sn sp bf ty gn hs (xs (Int32.ofNat k + 1).toNatClampNeg) (0, 1, z, sv, sn, gn) h4) (cwV 1 hts (pw_gVt (own := RL) (idx := 85) (C := RX4) (y := yX4_give) aw_820 aw_821 aw_822 aw_6 aw_823) rfl rfl rfl pX4_give ⟨Nat.le_of_ble_eq_true rfl, Nat.le_of_ble_eq_true rfl⟩) 4 (RX4, TX4, 9) rfl rfl ⟨0, _, rfl⟩ hK hP hD hS hA (by rw [List.append_nil]) (by rw [List.append_nil]) rfl rfl hl.1 rfl (Nat.le_of_ble_eq_true rfl) dL_law_224 ⟨hR1, hR2⟩ (fun H locs hP hD hS => ?_)
    refine lv_istore (lv' := [(6, .int 0), (5, .int 1), (0, .ref b), (1, .ref (qa 0 0)), (2, .ref (q 0)), (3, .ref ao), (4, .int (Int32.ofNat k))]) hx hb dL_law_227 hl (by decide) rfl (fun ls hl => ?_)
    refine lv_aload_n hx hb dL_law_229 rfl (lv_at hl 4 rfl) ?_
    refine pw_fi (r := 1) (ws0 := WL cy qa P T S nw hz ak pa wt cd ln ao ov ++ WM cy q 1 z sv sn sp bf ty gn hs) (ws1 := WL cy qa P T S nw hz ak pa wt cd ln ao ov ++ WM cy q 1 z sv sn sp bf ty gn hs) (wa := WL cy qa P T S nw hz ak pa wt cd ln ao ov) (wb := []) (wc := WM cy q 1 z sv sn sp bf ty gn hs) (w1 := WM cy q 1 z sv sn sp bf ty gn hs) (rest := []) (As := []) hF (kX4_thrown l D cy q _ 1 z sv sn sp bf ty gn hs 1 rfl) (cwV 0 hts (pw_gVt (own := RL) (idx := 80) (C := RX4) (y := yX4_thrown) aw_714 aw_715 aw_716 aw_6 aw_717) rfl rfl rfl pX4_thrown ⟨Nat.le_of_ble_eq_true rfl, Nat.le_of_ble_eq_true rfl⟩) 4 (RX4, TX4, 9) rfl rfl ⟨0, _, rfl⟩ hK hP hD hS hA (by rw [List.append_nil]) (by rw [List.append_nil]) rfl rfl hl.1 rfl (Nat.le_of_ble_eq_true rfl) dL_law_230 ⟨hR1, hR2⟩ (fun H locs hP hD hS => ?_)
    refine lv_iload hx hb dL_law_233 (lv_at hl 1 rfl) ?_
    refine lv_icmp_eq (tgt := 240) hx hb dL_law_235 (by decide) (fun _ => ?_) (fun c_ => absurd rfl c_)
    refine lv_iload hx hb dL_law_240 (lv_at hl 1 rfl) ?_
    refine lv_if_ne (tgt := 257) hx hb dL_law_242 (by decide) (fun _ => ?_) (fun c_ => absurd c_ (by decide))
    refine lv_goto (tgt := 1284) hx hb dL_law_257 (by decide) ?_
    exact kk P T S nw hz ak pa wt cd ln ov 1 z sv sn sp bf ty gn hs H locs ls RAh hP hD hS ⟨hl.1, hl.2.1, fun x hx9 => hl.2.2 x (List.mem_cons_of_mem _ (List.mem_cons_of_mem _ hx9))⟩
  · skip
    refine lv_aload_n hx hb dL_law_204 rfl (lv_at hl 1 rfl) ?_
    refine lv_aload_n hx hb dL_law_205 rfl (lv_at hl 0 rfl) ?_
    refine lv_iload hx hb dL_law_206 (lv_at hl 4 rfl) ?_
    refine lv_iconst (v := 1) hx hb dL_law_208 (by decide) ?_
    refine lv_iadd hx hb dL_law_209 ?_
    refine va_sld hx hb hX hbl hbA hS h1i dL_law_210 ?_
    refine lv_aload_n hx hb dL_law_211 rfl (lv_at hl 3 rfl) ?_
    refine pw_lcall (r := 2) (ws0 := WL cy qa P T S nw hz ak pa wt cd ln ao ov ++ WM cy q th z sv sn sp bf ty gn hs) (ws1 := WL cy qa P T S nw hz ak pa wt cd ln ao ov ++ WM cy q th z sv sn sp bf ty gn hs) (wa := []) (wb := WM cy q th z sv sn sp bf ty gn hs) (wc := WL cy qa P T S nw hz ak pa wt cd ln ao ov) (w1 := WL cy qa P T S nw hz ak pa wt cd ln ao ov) (rest := []) (As := [.ref (qa 0 0), .int (xs (Int32.ofNat k + 1).toNatClampNeg), .ref ao]) hF (kL_give_t2 l hfl D cy qa _ P T S nw hz ak pa wt cd ln ao ov (xs (Int32.ofNat k + 1).toNatClampNeg) h3) (vx_cwSW 3 hts (pw_gSW aw_471 aw_472 aw_0 aw_473) rfl rfl rfl pL_give ⟨Nat.le_of_ble_eq_true rfl, Nat.le_of_ble_eq_true rfl⟩) hK hP hD hS hA hE rfl rfl rfl rfl hl.1 rfl (Nat.le_of_ble_eq_true rfl) dL_law_212 ⟨by omega, by omega⟩ (fun H locs hP hD hS => ?_)
    refine lv_istore (lv' := [(5, .int 2), (0, .ref b), (1, .ref (qa 0 0)), (2, .ref (q 0)), (3, .ref ao), (4, .int (Int32.ofNat k))]) hx hb dL_law_215 hl (by decide) rfl (fun ls hl => ?_)
    refine lv_aload_n hx hb dL_law_217 rfl (lv_at hl 3 rfl) ?_
    refine lv_aload_n hx hb dL_law_218 rfl (lv_at hl 1 rfl) ?_
    refine lv_iload hx hb dL_law_219 (lv_at hl 5 rfl) ?_
    refine lv_iconst (v := 1) hx hb dL_law_221 (by decide) ?_
    refine lv_iadd hx hb dL_law_222 ?_
    refine va_sld hx hb hX hbl hbA hS h1i dL_law_223 ?_
    refine pw_fi (r := 0) (ws0 := WL cy qa P T S nw hz ak pa wt cd ln ao ov ++ WM cy q th z sv sn sp bf ty gn hs) (ws1 := WL cy qa P T S nw hz ak pa wt cd ln ao ov ++ WM cy q 2 z sv sn sp bf ty gn hs) (wa := WL cy qa P T S nw hz ak pa wt cd ln ao ov) (wb := []) (wc := WM cy q th z sv sn sp bf ty gn hs) (w1 := WM cy q 2 z sv sn sp bf ty gn hs) (rest := []) (As := [.int (xs (Int32.ofNat k + 1).toNatClampNeg)]) hF (kX4_give l D cy q _ th z sv sn sp bf ty gn hs (xs (Int32.ofNat k + 1).toNatClampNeg) (0, 2, z, sv, sn, gn) h4) (cwV 1 hts (pw_gVt (own := RL) (idx := 85) (C := RX4) (y := yX4_give) aw_820 aw_821 aw_822 aw_6 aw_823) rfl rfl rfl pX4_give ⟨Nat.le_of_ble_eq_true rfl, Nat.le_of_ble_eq_true rfl⟩) 4 (RX4, TX4, 9) rfl rfl ⟨0, _, rfl⟩ hK hP hD hS hA (by rw [List.append_nil]) (by rw [List.append_nil]) rfl rfl hl.1 rfl (Nat.le_of_ble_eq_true rfl) dL_law_224 ⟨hR1, hR2⟩ (fun H locs hP hD hS => ?_)
    refine lv_istore (lv' := [(6, .int 0), (5, .int 2), (0, .ref b), (1, .ref (qa 0 0)), (2, .ref (q 0)), (3, .ref ao), (4, .int (Int32.ofNat k))]) hx hb dL_law_227 hl (by decide) rfl (fun ls hl => ?_)
    refine lv_aload_n hx hb dL_law_229 rfl (lv_at hl 4 rfl) ?_
    refine pw_fi (r := 2) (ws0 := WL cy qa P T S nw hz ak pa wt cd ln ao ov ++ WM cy q 2 z sv sn sp bf ty gn hs) (ws1 := WL cy qa P T S nw hz ak pa wt cd ln ao ov ++ WM cy q 2 z sv sn sp bf ty gn hs) (wa := WL cy qa P T S nw hz ak pa wt cd ln ao ov) (wb := []) (wc := WM cy q 2 z sv sn sp bf ty gn hs) (w1 := WM cy q 2 z sv sn sp bf ty gn hs) (rest := []) (As := []) hF (kX4_thrown l D cy q _ 2 z sv sn sp bf ty gn hs 2 rfl) (cwV 0 hts (pw_gVt (own := RL) (idx := 80) (C := RX4) (y := yX4_thrown) aw_714 aw_715 aw_716 aw_6 aw_717) rfl rfl rfl pX4_thrown ⟨Nat.le_of_ble_eq_true rfl, Nat.le_of_ble_eq_true rfl⟩) 4 (RX4, TX4, 9) rfl rfl ⟨0, _, rfl⟩ hK hP hD hS hA (by rw [List.append_nil]) (by rw [List.append_nil]) rfl rfl hl.1 rfl (Nat.le_of_ble_eq_true rfl) dL_law_230 ⟨hR1, hR2⟩ (fun H locs hP hD hS => ?_)
    refine lv_iload hx hb dL_law_233 (lv_at hl 1 rfl) ?_
    refine lv_icmp_eq (tgt := 240) hx hb dL_law_235 (by decide) (fun _ => ?_) (fun c_ => absurd rfl c_)
    refine lv_iload hx hb dL_law_240 (lv_at hl 1 rfl) ?_
    refine lv_if_ne (tgt := 257) hx hb dL_law_242 (by decide) (fun _ => ?_) (fun c_ => absurd c_ (by decide))
    refine lv_goto (tgt := 1284) hx hb dL_law_257 (by decide) ?_
    exact kk P T S nw hz ak pa wt cd ln ov 2 z sv sn sp bf ty gn hs H locs ls RAh hP hD hS ⟨hl.1, hl.2.1, fun x hx9 => hl.2.2 x (List.mem_cons_of_mem _ (List.mem_cons_of_mem _ hx9))⟩
  · skip
    refine lv_aload_n hx hb dL_law_204 rfl (lv_at hl 1 rfl) ?_
    refine lv_aload_n hx hb dL_law_205 rfl (lv_at hl 0 rfl) ?_
    refine lv_iload hx hb dL_law_206 (lv_at hl 4 rfl) ?_
    refine lv_iconst (v := 1) hx hb dL_law_208 (by decide) ?_
    refine lv_iadd hx hb dL_law_209 ?_
    refine va_sld hx hb hX hbl hbA hS h1i dL_law_210 ?_
    refine lv_aload_n hx hb dL_law_211 rfl (lv_at hl 3 rfl) ?_
    refine pw_lcall (r := 0) (ws0 := WL cy qa P T S nw hz ak pa wt cd ln ao ov ++ WM cy q th z sv sn sp bf ty gn hs) (ws1 := WL cy qa P' T S' nw' hz' ak pa wt cd ln ao (vp_updL ov (0 : Int32).toNatClampNeg r.toInt64) ++ WM cy q th z sv sn sp bf ty gn hs) (wa := []) (wb := WM cy q th z sv sn sp bf ty gn hs) (wc := WL cy qa P T S nw hz ak pa wt cd ln ao ov) (w1 := WL cy qa P' T S' nw' hz' ak pa wt cd ln ao (vp_updL ov (0 : Int32).toNatClampNeg r.toInt64)) (rest := []) (As := [.ref (qa 0 0), .int (xs (Int32.ofNat k + 1).toNatClampNeg), .ref ao]) hF (kL_give_r l hfl D cy qa _ P T S nw hz ak pa wt cd ln ao ov (xs (Int32.ofNat k + 1).toNatClampNeg) (r, P', S', nw', hz') h3) (vx_cwSW 3 hts (pw_gSW aw_471 aw_472 aw_0 aw_473) rfl rfl rfl pL_give ⟨Nat.le_of_ble_eq_true rfl, Nat.le_of_ble_eq_true rfl⟩) hK hP hD hS hA hE rfl rfl rfl rfl hl.1 rfl (Nat.le_of_ble_eq_true rfl) dL_law_212 ⟨by omega, by omega⟩ (fun H locs hP hD hS => ?_)
    refine W.widen (k := cells + 1) (n := slots + 6) (by omega) (by omega) ?_
    refine lv_istore (lv' := [(5, .int 0), (0, .ref b), (1, .ref (qa 0 0)), (2, .ref (q 0)), (3, .ref ao), (4, .int (Int32.ofNat k))]) hx hb dL_law_215 hl (by decide) rfl (fun ls hl => ?_)
    refine lv_aload_n hx hb dL_law_217 rfl (lv_at hl 3 rfl) ?_
    refine lv_aload_n hx hb dL_law_218 rfl (lv_at hl 1 rfl) ?_
    refine lv_iload hx hb dL_law_219 (lv_at hl 5 rfl) ?_
    refine lv_iconst (v := 1) hx hb dL_law_221 (by decide) ?_
    refine lv_iadd hx hb dL_law_222 ?_
    refine va_sld hx hb hX hbl hbA hS h1i dL_law_223 ?_
    refine pw_fi (r := r) (ws0 := WL cy qa P' T S' nw' hz' ak pa wt cd ln ao (vp_updL ov (0 : Int32).toNatClampNeg r.toInt64) ++ WM cy q th z sv sn sp bf ty gn hs) (ws1 := WL cy qa P' T S' nw' hz' ak pa wt cd ln ao (vp_updL ov (0 : Int32).toNatClampNeg r.toInt64) ++ WM cy q 0 z' sv' sn' sp bf ty gn' hs) (wa := WL cy qa P' T S' nw' hz' ak pa wt cd ln ao (vp_updL ov (0 : Int32).toNatClampNeg r.toInt64)) (wb := []) (wc := WM cy q th z sv sn sp bf ty gn hs) (w1 := WM cy q 0 z' sv' sn' sp bf ty gn' hs) (rest := []) (As := [.int (xs (Int32.ofNat k + 1).toNatClampNeg)]) hF (kX4_give l D cy q _ th z sv sn sp bf ty gn hs (xs (Int32.ofNat k + 1).toNatClampNeg) (r, 0, z', sv', sn', gn') h4) (cwV 1 hts (pw_gVt (own := RL) (idx := 85) (C := RX4) (y := yX4_give) aw_820 aw_821 aw_822 aw_6 aw_823) rfl rfl rfl pX4_give ⟨Nat.le_of_ble_eq_true rfl, Nat.le_of_ble_eq_true rfl⟩) 4 (RX4, TX4, 9) rfl rfl ⟨0, _, rfl⟩ hK hP hD hS hA (by rw [List.append_nil]) (by rw [List.append_nil]) rfl rfl hl.1 rfl (Nat.le_of_ble_eq_true rfl) dL_law_224 ⟨hR1, hR2⟩ (fun H locs hP hD hS => ?_)
    refine lv_istore (lv' := [(6, .int r), (5, .int 0), (0, .ref b), (1, .ref (qa 0 0)), (2, .ref (q 0)), (3, .ref ao), (4, .int (Int32.ofNat k))]) hx hb dL_law_227 hl (by decide) rfl (fun ls hl => ?_)
    refine lv_aload_n hx hb dL_law_229 rfl (lv_at hl 4 rfl) ?_
    refine pw_fi (r := 0) (ws0 := WL cy qa P' T S' nw' hz' ak pa wt cd ln ao (vp_updL ov (0 : Int32).toNatClampNeg r.toInt64) ++ WM cy q 0 z' sv' sn' sp bf ty gn' hs) (ws1 := WL cy qa P' T S' nw' hz' ak pa wt cd ln ao (vp_updL ov (0 : Int32).toNatClampNeg r.toInt64) ++ WM cy q 0 z' sv' sn' sp bf ty gn' hs) (wa := WL cy qa P' T S' nw' hz' ak pa wt cd ln ao (vp_updL ov (0 : Int32).toNatClampNeg r.toInt64)) (wb := []) (wc := WM cy q 0 z' sv' sn' sp bf ty gn' hs) (w1 := WM cy q 0 z' sv' sn' sp bf ty gn' hs) (rest := []) (As := []) hF (kX4_thrown l D cy q _ 0 z' sv' sn' sp bf ty gn' hs 0 rfl) (cwV 0 hts (pw_gVt (own := RL) (idx := 80) (C := RX4) (y := yX4_thrown) aw_714 aw_715 aw_716 aw_6 aw_717) rfl rfl rfl pX4_thrown ⟨Nat.le_of_ble_eq_true rfl, Nat.le_of_ble_eq_true rfl⟩) 4 (RX4, TX4, 9) rfl rfl ⟨0, _, rfl⟩ hK hP hD hS hA (by rw [List.append_nil]) (by rw [List.append_nil]) rfl rfl hl.1 rfl (Nat.le_of_ble_eq_true rfl) dL_law_230 ⟨hR1, hR2⟩ (fun H locs hP hD hS => ?_)
    refine lv_iload hx hb dL_law_233 (lv_at hl 1 rfl) ?_
    refine lv_icmp_eq (tgt := 240) hx hb dL_law_235 (by decide) (fun _ => ?_) (fun c_ => absurd rfl c_)
    refine lv_iload hx hb dL_law_240 (lv_at hl 1 rfl) ?_
    refine lv_if_ne (tgt := 257) hx hb dL_law_242 (by decide) (fun c_ => absurd rfl c_) (fun _ => ?_)
    refine lv_aload_n hx hb dL_law_245 rfl (lv_at hl 5 rfl) ?_
    refine lv_iconst (v := 0) hx hb dL_law_246 (by decide) ?_
    refine va_lald hx hb hK hP 128 3 rfl rfl (pq_vp (by decide)) dL_law_247 ?_
    refine lv_iload hx hb dL_law_248 (lv_at hl 0 rfl) ?_
    refine lv_i2l (v := r.toInt64) hx hb dL_law_250 rfl ?_
    refine W.lcmp hx hb dL_law_251 ?_
    refine lv_if_eq (tgt := 257) hx hb dL_law_252 (by decide) (fun _ => ?_) (fun c_ => absurd ((lg_cmp_eq _ _).mpr rfl) c_)
    refine lv_goto (tgt := 1284) hx hb dL_law_257 (by decide) ?_
    exact kk P' T S' nw' hz' ak pa wt cd ln (vp_updL ov (0 : Int32).toNatClampNeg r.toInt64) 0 z' sv' sn' sp bf ty gn' hs H locs ls RA1 hP hD hS ⟨hl.1, hl.2.1, fun x hx9 => hl.2.2 x (List.mem_cons_of_mem _ (List.mem_cons_of_mem _ hx9))⟩
set_option maxHeartbeats 8000000 in
set_option maxRecDepth 100000 in
theorem kA_giveUp {p : Program} {e : Env} {s : State} {m : MethodId} {args : Array Value} {below : List Frame} {meth : Method} {c : Code} (l : Launch) (hfl : l.stackTraces = false) {D : va_G} {cy : Nat → ClassId} {qa : Nat → Nat → Nat} {q : Nat → Nat} {A : Nat → Prop} {b L k ao : Nat} {xs : Nat → Int32} (hx : p.tables.exec = Jvm.exec) (hb : c.code = cL_law) (hF : CallFix p m c cL_law 9 s args pw_all RL) (hK : va_K D vwCl (pw_tys cy) s) (hE : pw_E A s s.heap) (hA : ∀ q : Nat, s.heap.size ≤ q → A q) (hX : va_X b L xs s s.heap) (hbl : b < s.heap.size) (hbA : ¬ A b) (hL : L ≤ 1536) (hk : k + 2 < L) {P T : Nat → Nat → Int32} {S : Nat → Nat → Nat → Int32} {nw hz : Int32} {ak pa wt cd : Nat → Int32} {ln : Int32} {ov : Nat → Int64} {th : Int32} {z sv : Nat → Int32} {sn : Int32} {sp bf : Nat → Int32} {ty : Int32} {gn : Nat → Int32} {hs : Int64} (RAh : RA P S nw hz cd ln z sv sn bf ty) {H : Heap} {locs : List Loc} {ls : Array Slot} {cells slots : Nat} {Q : State → Prop} (hP : va_P D vwCl (WL cy qa P T S nw hz ak pa wt cd ln ao ov ++ WM cy q th z sv sn sp bf ty gn hs) H) (hD : va_D A (WL cy qa P T S nw hz ak pa wt cd ln ao ov ++ WM cy q th z sv sn sp bf ty gn hs)) (hS : va_S A s.heap H locs) (hl : lv_has ls 9 [(0, .ref b), (1, .ref (qa 0 0)), (2, .ref (q 0)), (3, .ref ao), (4, .int (Int32.ofNat k))]) (hR1 : cells + 1 ≤ room_1.cells) (hR2 : slots + 6 ≤ room_1.slots) (kk : ∀ (P T : Nat → Nat → Int32) (S : Nat → Nat → Nat → Int32) (nw hz : Int32) (ak pa wt cd : Nat → Int32) (ln : Int32) (ov : Nat → Int64) (th : Int32) (z sv : Nat → Int32) (sn : Int32) (sp bf : Nat → Int32) (ty : Int32) (gn : Nat → Int32) (hs : Int64) (H : Heap) (locs : List Loc) (ls : Array Slot), RA P S nw hz cd ln z sv sn bf ty → va_P D vwCl (WL cy qa P T S nw hz ak pa wt cd ln ao ov ++ WM cy q th z sv sn sp bf ty gn hs) H → va_D A (WL cy qa P T S nw hz ak pa wt cd ln ao ov ++ WM cy q th z sv sn sp bf ty gn hs) → va_S A s.heap H locs → lv_has ls 9 [(0, .ref b), (1, .ref (qa 0 0)), (2, .ref (q 0)), (3, .ref ao), (4, .int (Int32.ofNat k))] → W p l e room_1 s m args below meth c H locs (cells + 1) (slots + 6) Q (F0 m 1284 ls [])) : W p l e room_1 s m args below meth c H locs cells slots Q (F0 m 260 ls []) := by
  have h1i : vp_in (Int32.ofNat k + 1) L := pw_ix1 hL hk
  have h2i : vp_in (Int32.ofNat k + 2) L := pw_ix2 hL hk
  have hts := hF.2.2.2.2
  rcases c_giveUp RAh (xs (Int32.ofNat k + 1).toNatClampNeg) th gn with (⟨h3, h4⟩ | ⟨h3, h4⟩) | ⟨r, P', S', nw', hz', z', sv', sn', gn', h3, h4, RA1⟩
  · skip
    refine lv_aload_n hx hb dL_law_260 rfl (lv_at hl 1 rfl) ?_
    refine lv_aload_n hx hb dL_law_261 rfl (lv_at hl 0 rfl) ?_
    refine lv_iload hx hb dL_law_262 (lv_at hl 4 rfl) ?_
    refine lv_iconst (v := 1) hx hb dL_law_264 (by decide) ?_
    refine lv_iadd hx hb dL_law_265 ?_
    refine va_sld hx hb hX hbl hbA hS h1i dL_law_266 ?_
    refine lv_aload_n hx hb dL_law_267 rfl (lv_at hl 3 rfl) ?_
    refine pw_lcall (r := 1) (ws0 := WL cy qa P T S nw hz ak pa wt cd ln ao ov ++ WM cy q th z sv sn sp bf ty gn hs) (ws1 := WL cy qa P T S nw hz ak pa wt cd ln ao ov ++ WM cy q th z sv sn sp bf ty gn hs) (wa := []) (wb := WM cy q th z sv sn sp bf ty gn hs) (wc := WL cy qa P T S nw hz ak pa wt cd ln ao ov) (w1 := WL cy qa P T S nw hz ak pa wt cd ln ao ov) (rest := []) (As := [.ref (qa 0 0), .int (xs (Int32.ofNat k + 1).toNatClampNeg), .ref ao]) hF (kL_giveUp_t1 l hfl D cy qa _ P T S nw hz ak pa wt cd ln ao ov (xs (Int32.ofNat k + 1).toNatClampNeg) h3) (vx_cwSW 3 hts (pw_gSW aw_492 aw_493 aw_0 aw_494) rfl rfl rfl pL_giveUp ⟨Nat.le_of_ble_eq_true rfl, Nat.le_of_ble_eq_true rfl⟩) hK hP hD hS hA hE rfl rfl rfl rfl hl.1 rfl (Nat.le_of_ble_eq_true rfl) dL_law_268 ⟨by omega, by omega⟩ (fun H locs hP hD hS => ?_)
    refine lv_istore (lv' := [(5, .int 1), (0, .ref b), (1, .ref (qa 0 0)), (2, .ref (q 0)), (3, .ref ao), (4, .int (Int32.ofNat k))]) hx hb dL_law_271 hl (by decide) rfl (fun ls hl => ?_)
    refine lv_aload_n hx hb dL_law_273 rfl (lv_at hl 3 rfl) ?_
    refine lv_aload_n hx hb dL_law_274 rfl (lv_at hl 1 rfl) ?_
    refine lv_iload hx hb dL_law_275 (lv_at hl 5 rfl) ?_
    refine lv_iconst (v := 1) hx hb dL_law_277 (by decide) ?_
    refine lv_iadd hx hb dL_law_278 ?_
    refine va_sld hx hb hX hbl hbA hS h1i dL_law_279 ?_
    refine pw_fi (r := 0) (ws0 := WL cy qa P T S nw hz ak pa wt cd ln ao ov ++ WM cy q th z sv sn sp bf ty gn hs) (ws1 := WL cy qa P T S nw hz ak pa wt cd ln ao ov ++ WM cy q 1 z sv sn sp bf ty gn hs) (wa := WL cy qa P T S nw hz ak pa wt cd ln ao ov) (wb := []) (wc := WM cy q th z sv sn sp bf ty gn hs) (w1 := WM cy q 1 z sv sn sp bf ty gn hs) (rest := []) (As := [.int (xs (Int32.ofNat k + 1).toNatClampNeg)]) hF (kX4_giveUp l D cy q _ th z sv sn sp bf ty gn hs (xs (Int32.ofNat k + 1).toNatClampNeg) (0, 1, z, sv, sn, gn) h4) (cwV 1 hts (pw_gVt (own := RL) (idx := 88) (C := RX4) (y := yX4_giveUp) aw_835 aw_836 aw_837 aw_6 aw_838) rfl rfl rfl pX4_giveUp ⟨Nat.le_of_ble_eq_true rfl, Nat.le_of_ble_eq_true rfl⟩) 4 (RX4, TX4, 9) rfl rfl ⟨0, _, rfl⟩ hK hP hD hS hA (by rw [List.append_nil]) (by rw [List.append_nil]) rfl rfl hl.1 rfl (Nat.le_of_ble_eq_true rfl) dL_law_280 ⟨hR1, hR2⟩ (fun H locs hP hD hS => ?_)
    refine lv_istore (lv' := [(6, .int 0), (5, .int 1), (0, .ref b), (1, .ref (qa 0 0)), (2, .ref (q 0)), (3, .ref ao), (4, .int (Int32.ofNat k))]) hx hb dL_law_283 hl (by decide) rfl (fun ls hl => ?_)
    refine lv_aload_n hx hb dL_law_285 rfl (lv_at hl 4 rfl) ?_
    refine pw_fi (r := 1) (ws0 := WL cy qa P T S nw hz ak pa wt cd ln ao ov ++ WM cy q 1 z sv sn sp bf ty gn hs) (ws1 := WL cy qa P T S nw hz ak pa wt cd ln ao ov ++ WM cy q 1 z sv sn sp bf ty gn hs) (wa := WL cy qa P T S nw hz ak pa wt cd ln ao ov) (wb := []) (wc := WM cy q 1 z sv sn sp bf ty gn hs) (w1 := WM cy q 1 z sv sn sp bf ty gn hs) (rest := []) (As := []) hF (kX4_thrown l D cy q _ 1 z sv sn sp bf ty gn hs 1 rfl) (cwV 0 hts (pw_gVt (own := RL) (idx := 80) (C := RX4) (y := yX4_thrown) aw_714 aw_715 aw_716 aw_6 aw_717) rfl rfl rfl pX4_thrown ⟨Nat.le_of_ble_eq_true rfl, Nat.le_of_ble_eq_true rfl⟩) 4 (RX4, TX4, 9) rfl rfl ⟨0, _, rfl⟩ hK hP hD hS hA (by rw [List.append_nil]) (by rw [List.append_nil]) rfl rfl hl.1 rfl (Nat.le_of_ble_eq_true rfl) dL_law_286 ⟨hR1, hR2⟩ (fun H locs hP hD hS => ?_)
    refine lv_iload hx hb dL_law_289 (lv_at hl 1 rfl) ?_
    refine lv_icmp_eq (tgt := 296) hx hb dL_law_291 (by decide) (fun _ => ?_) (fun c_ => absurd rfl c_)
    refine lv_iload hx hb dL_law_296 (lv_at hl 1 rfl) ?_
    refine lv_if_ne (tgt := 313) hx hb dL_law_298 (by decide) (fun _ => ?_) (fun c_ => absurd c_ (by decide))
    refine lv_goto (tgt := 1284) hx hb dL_law_313 (by decide) ?_
    exact kk P T S nw hz ak pa wt cd ln ov 1 z sv sn sp bf ty gn hs H locs ls RAh hP hD hS ⟨hl.1, hl.2.1, fun x hx9 => hl.2.2 x (List.mem_cons_of_mem _ (List.mem_cons_of_mem _ hx9))⟩
  · skip
    refine lv_aload_n hx hb dL_law_260 rfl (lv_at hl 1 rfl) ?_
    refine lv_aload_n hx hb dL_law_261 rfl (lv_at hl 0 rfl) ?_
    refine lv_iload hx hb dL_law_262 (lv_at hl 4 rfl) ?_
    refine lv_iconst (v := 1) hx hb dL_law_264 (by decide) ?_
    refine lv_iadd hx hb dL_law_265 ?_
    refine va_sld hx hb hX hbl hbA hS h1i dL_law_266 ?_
    refine lv_aload_n hx hb dL_law_267 rfl (lv_at hl 3 rfl) ?_
    refine pw_lcall (r := 2) (ws0 := WL cy qa P T S nw hz ak pa wt cd ln ao ov ++ WM cy q th z sv sn sp bf ty gn hs) (ws1 := WL cy qa P T S nw hz ak pa wt cd ln ao ov ++ WM cy q th z sv sn sp bf ty gn hs) (wa := []) (wb := WM cy q th z sv sn sp bf ty gn hs) (wc := WL cy qa P T S nw hz ak pa wt cd ln ao ov) (w1 := WL cy qa P T S nw hz ak pa wt cd ln ao ov) (rest := []) (As := [.ref (qa 0 0), .int (xs (Int32.ofNat k + 1).toNatClampNeg), .ref ao]) hF (kL_giveUp_t2 l hfl D cy qa _ P T S nw hz ak pa wt cd ln ao ov (xs (Int32.ofNat k + 1).toNatClampNeg) h3) (vx_cwSW 3 hts (pw_gSW aw_492 aw_493 aw_0 aw_494) rfl rfl rfl pL_giveUp ⟨Nat.le_of_ble_eq_true rfl, Nat.le_of_ble_eq_true rfl⟩) hK hP hD hS hA hE rfl rfl rfl rfl hl.1 rfl (Nat.le_of_ble_eq_true rfl) dL_law_268 ⟨by omega, by omega⟩ (fun H locs hP hD hS => ?_)
    refine lv_istore (lv' := [(5, .int 2), (0, .ref b), (1, .ref (qa 0 0)), (2, .ref (q 0)), (3, .ref ao), (4, .int (Int32.ofNat k))]) hx hb dL_law_271 hl (by decide) rfl (fun ls hl => ?_)
    refine lv_aload_n hx hb dL_law_273 rfl (lv_at hl 3 rfl) ?_
    refine lv_aload_n hx hb dL_law_274 rfl (lv_at hl 1 rfl) ?_
    refine lv_iload hx hb dL_law_275 (lv_at hl 5 rfl) ?_
    refine lv_iconst (v := 1) hx hb dL_law_277 (by decide) ?_
    refine lv_iadd hx hb dL_law_278 ?_
    refine va_sld hx hb hX hbl hbA hS h1i dL_law_279 ?_
    refine pw_fi (r := 0) (ws0 := WL cy qa P T S nw hz ak pa wt cd ln ao ov ++ WM cy q th z sv sn sp bf ty gn hs) (ws1 := WL cy qa P T S nw hz ak pa wt cd ln ao ov ++ WM cy q 2 z sv sn sp bf ty gn hs) (wa := WL cy qa P T S nw hz ak pa wt cd ln ao ov) (wb := []) (wc := WM cy q th z sv sn sp bf ty gn hs) (w1 := WM cy q 2 z sv sn sp bf ty gn hs) (rest := []) (As := [.int (xs (Int32.ofNat k + 1).toNatClampNeg)]) hF (kX4_giveUp l D cy q _ th z sv sn sp bf ty gn hs (xs (Int32.ofNat k + 1).toNatClampNeg) (0, 2, z, sv, sn, gn) h4) (cwV 1 hts (pw_gVt (own := RL) (idx := 88) (C := RX4) (y := yX4_giveUp) aw_835 aw_836 aw_837 aw_6 aw_838) rfl rfl rfl pX4_giveUp ⟨Nat.le_of_ble_eq_true rfl, Nat.le_of_ble_eq_true rfl⟩) 4 (RX4, TX4, 9) rfl rfl ⟨0, _, rfl⟩ hK hP hD hS hA (by rw [List.append_nil]) (by rw [List.append_nil]) rfl rfl hl.1 rfl (Nat.le_of_ble_eq_true rfl) dL_law_280 ⟨hR1, hR2⟩ (fun H locs hP hD hS => ?_)
    refine lv_istore (lv' := [(6, .int 0), (5, .int 2), (0, .ref b), (1, .ref (qa 0 0)), (2, .ref (q 0)), (3, .ref ao), (4, .int (Int32.ofNat k))]) hx hb dL_law_283 hl (by decide) rfl (fun ls hl => ?_)
    refine lv_aload_n hx hb dL_law_285 rfl (lv_at hl 4 rfl) ?_
    refine pw_fi (r := 2) (ws0 := WL cy qa P T S nw hz ak pa wt cd ln ao ov ++ WM cy q 2 z sv sn sp bf ty gn hs) (ws1 := WL cy qa P T S nw hz ak pa wt cd ln ao ov ++ WM cy q 2 z sv sn sp bf ty gn hs) (wa := WL cy qa P T S nw hz ak pa wt cd ln ao ov) (wb := []) (wc := WM cy q 2 z sv sn sp bf ty gn hs) (w1 := WM cy q 2 z sv sn sp bf ty gn hs) (rest := []) (As := []) hF (kX4_thrown l D cy q _ 2 z sv sn sp bf ty gn hs 2 rfl) (cwV 0 hts (pw_gVt (own := RL) (idx := 80) (C := RX4) (y := yX4_thrown) aw_714 aw_715 aw_716 aw_6 aw_717) rfl rfl rfl pX4_thrown ⟨Nat.le_of_ble_eq_true rfl, Nat.le_of_ble_eq_true rfl⟩) 4 (RX4, TX4, 9) rfl rfl ⟨0, _, rfl⟩ hK hP hD hS hA (by rw [List.append_nil]) (by rw [List.append_nil]) rfl rfl hl.1 rfl (Nat.le_of_ble_eq_true rfl) dL_law_286 ⟨hR1, hR2⟩ (fun H locs hP hD hS => ?_)
    refine lv_iload hx hb dL_law_289 (lv_at hl 1 rfl) ?_
    refine lv_icmp_eq (tgt := 296) hx hb dL_law_291 (by decide) (fun _ => ?_) (fun c_ => absurd rfl c_)
    refine lv_iload hx hb dL_law_296 (lv_at hl 1 rfl) ?_
    refine lv_if_ne (tgt := 313) hx hb dL_law_298 (by decide) (fun _ => ?_) (fun c_ => absurd c_ (by decide))
    refine lv_goto (tgt := 1284) hx hb dL_law_313 (by decide) ?_
    exact kk P T S nw hz ak pa wt cd ln ov 2 z sv sn sp bf ty gn hs H locs ls RAh hP hD hS ⟨hl.1, hl.2.1, fun x hx9 => hl.2.2 x (List.mem_cons_of_mem _ (List.mem_cons_of_mem _ hx9))⟩
  · skip
    refine lv_aload_n hx hb dL_law_260 rfl (lv_at hl 1 rfl) ?_
    refine lv_aload_n hx hb dL_law_261 rfl (lv_at hl 0 rfl) ?_
    refine lv_iload hx hb dL_law_262 (lv_at hl 4 rfl) ?_
    refine lv_iconst (v := 1) hx hb dL_law_264 (by decide) ?_
    refine lv_iadd hx hb dL_law_265 ?_
    refine va_sld hx hb hX hbl hbA hS h1i dL_law_266 ?_
    refine lv_aload_n hx hb dL_law_267 rfl (lv_at hl 3 rfl) ?_
    refine pw_lcall (r := 0) (ws0 := WL cy qa P T S nw hz ak pa wt cd ln ao ov ++ WM cy q th z sv sn sp bf ty gn hs) (ws1 := WL cy qa P' T S' nw' hz' ak pa wt cd ln ao (vp_updL ov (0 : Int32).toNatClampNeg r.toInt64) ++ WM cy q th z sv sn sp bf ty gn hs) (wa := []) (wb := WM cy q th z sv sn sp bf ty gn hs) (wc := WL cy qa P T S nw hz ak pa wt cd ln ao ov) (w1 := WL cy qa P' T S' nw' hz' ak pa wt cd ln ao (vp_updL ov (0 : Int32).toNatClampNeg r.toInt64)) (rest := []) (As := [.ref (qa 0 0), .int (xs (Int32.ofNat k + 1).toNatClampNeg), .ref ao]) hF (kL_giveUp_r l hfl D cy qa _ P T S nw hz ak pa wt cd ln ao ov (xs (Int32.ofNat k + 1).toNatClampNeg) (r, P', S', nw', hz') h3) (vx_cwSW 3 hts (pw_gSW aw_492 aw_493 aw_0 aw_494) rfl rfl rfl pL_giveUp ⟨Nat.le_of_ble_eq_true rfl, Nat.le_of_ble_eq_true rfl⟩) hK hP hD hS hA hE rfl rfl rfl rfl hl.1 rfl (Nat.le_of_ble_eq_true rfl) dL_law_268 ⟨by omega, by omega⟩ (fun H locs hP hD hS => ?_)
    refine W.widen (k := cells + 1) (n := slots + 6) (by omega) (by omega) ?_
    refine lv_istore (lv' := [(5, .int 0), (0, .ref b), (1, .ref (qa 0 0)), (2, .ref (q 0)), (3, .ref ao), (4, .int (Int32.ofNat k))]) hx hb dL_law_271 hl (by decide) rfl (fun ls hl => ?_)
    refine lv_aload_n hx hb dL_law_273 rfl (lv_at hl 3 rfl) ?_
    refine lv_aload_n hx hb dL_law_274 rfl (lv_at hl 1 rfl) ?_
    refine lv_iload hx hb dL_law_275 (lv_at hl 5 rfl) ?_
    refine lv_iconst (v := 1) hx hb dL_law_277 (by decide) ?_
    refine lv_iadd hx hb dL_law_278 ?_
    refine va_sld hx hb hX hbl hbA hS h1i dL_law_279 ?_
    refine pw_fi (r := r) (ws0 := WL cy qa P' T S' nw' hz' ak pa wt cd ln ao (vp_updL ov (0 : Int32).toNatClampNeg r.toInt64) ++ WM cy q th z sv sn sp bf ty gn hs) (ws1 := WL cy qa P' T S' nw' hz' ak pa wt cd ln ao (vp_updL ov (0 : Int32).toNatClampNeg r.toInt64) ++ WM cy q 0 z' sv' sn' sp bf ty gn' hs) (wa := WL cy qa P' T S' nw' hz' ak pa wt cd ln ao (vp_updL ov (0 : Int32).toNatClampNeg r.toInt64)) (wb := []) (wc := WM cy q th z sv sn sp bf ty gn hs) (w1 := WM cy q 0 z' sv' sn' sp bf ty gn' hs) (rest := []) (As := [.int (xs (Int32.ofNat k + 1).toNatClampNeg)]) hF (kX4_giveUp l D cy q _ th z sv sn sp bf ty gn hs (xs (Int32.ofNat k + 1).toNatClampNeg) (r, 0, z', sv', sn', gn') h4) (cwV 1 hts (pw_gVt (own := RL) (idx := 88) (C := RX4) (y := yX4_giveUp) aw_835 aw_836 aw_837 aw_6 aw_838) rfl rfl rfl pX4_giveUp ⟨Nat.le_of_ble_eq_true rfl, Nat.le_of_ble_eq_true rfl⟩) 4 (RX4, TX4, 9) rfl rfl ⟨0, _, rfl⟩ hK hP hD hS hA (by rw [List.append_nil]) (by rw [List.append_nil]) rfl rfl hl.1 rfl (Nat.le_of_ble_eq_true rfl) dL_law_280 ⟨hR1, hR2⟩ (fun H locs hP hD hS => ?_)
    refine lv_istore (lv' := [(6, .int r), (5, .int 0), (0, .ref b), (1, .ref (qa 0 0)), (2, .ref (q 0)), (3, .ref ao), (4, .int (Int32.ofNat k))]) hx hb dL_law_283 hl (by decide) rfl (fun ls hl => ?_)
    refine lv_aload_n hx hb dL_law_285 rfl (lv_at hl 4 rfl) ?_
    refine pw_fi (r := 0) (ws0 := WL cy qa P' T S' nw' hz' ak pa wt cd ln ao (vp_updL ov (0 : Int32).toNatClampNeg r.toInt64) ++ WM cy q 0 z' sv' sn' sp bf ty gn' hs) (ws1 := WL cy qa P' T S' nw' hz' ak pa wt cd ln ao (vp_updL ov (0 : Int32).toNatClampNeg r.toInt64) ++ WM cy q 0 z' sv' sn' sp bf ty gn' hs) (wa := WL cy qa P' T S' nw' hz' ak pa wt cd ln ao (vp_updL ov (0 : Int32).toNatClampNeg r.toInt64)) (wb := []) (wc := WM cy q 0 z' sv' sn' sp bf ty gn' hs) (w1 := WM cy q 0 z' sv' sn' sp bf ty gn' hs) (rest := []) (As := []) hF (kX4_thrown l D cy q _ 0 z' sv' sn' sp bf ty gn' hs 0 rfl) (cwV 0 hts (pw_gVt (own := RL) (idx := 80) (C := RX4) (y := yX4_thrown) aw_714 aw_715 aw_716 aw_6 aw_717) rfl rfl rfl pX4_thrown ⟨Nat.le_of_ble_eq_true rfl, Nat.le_of_ble_eq_true rfl⟩) 4 (RX4, TX4, 9) rfl rfl ⟨0, _, rfl⟩ hK hP hD hS hA (by rw [List.append_nil]) (by rw [List.append_nil]) rfl rfl hl.1 rfl (Nat.le_of_ble_eq_true rfl) dL_law_286 ⟨hR1, hR2⟩ (fun H locs hP hD hS => ?_)
    refine lv_iload hx hb dL_law_289 (lv_at hl 1 rfl) ?_
    refine lv_icmp_eq (tgt := 296) hx hb dL_law_291 (by decide) (fun _ => ?_) (fun c_ => absurd rfl c_)
    refine lv_iload hx hb dL_law_296 (lv_at hl 1 rfl) ?_
    refine lv_if_ne (tgt := 313) hx hb dL_law_298 (by decide) (fun c_ => absurd rfl c_) (fun _ => ?_)
    refine lv_aload_n hx hb dL_law_301 rfl (lv_at hl 5 rfl) ?_
    refine lv_iconst (v := 0) hx hb dL_law_302 (by decide) ?_
    refine va_lald hx hb hK hP 128 3 rfl rfl (pq_vp (by decide)) dL_law_303 ?_
    refine lv_iload hx hb dL_law_304 (lv_at hl 0 rfl) ?_
    refine lv_i2l (v := r.toInt64) hx hb dL_law_306 rfl ?_
    refine W.lcmp hx hb dL_law_307 ?_
    refine lv_if_eq (tgt := 313) hx hb dL_law_308 (by decide) (fun _ => ?_) (fun c_ => absurd ((lg_cmp_eq _ _).mpr rfl) c_)
    refine lv_goto (tgt := 1284) hx hb dL_law_313 (by decide) ?_
    exact kk P' T S' nw' hz' ak pa wt cd ln (vp_updL ov (0 : Int32).toNatClampNeg r.toInt64) 0 z' sv' sn' sp bf ty gn' hs H locs ls RA1 hP hD hS ⟨hl.1, hl.2.1, fun x hx9 => hl.2.2 x (List.mem_cons_of_mem _ (List.mem_cons_of_mem _ hx9))⟩
set_option maxHeartbeats 8000000 in
set_option maxRecDepth 100000 in
theorem kA_appear {p : Program} {e : Env} {s : State} {m : MethodId} {args : Array Value} {below : List Frame} {meth : Method} {c : Code} (l : Launch) (hfl : l.stackTraces = false) {D : va_G} {cy : Nat → ClassId} {qa : Nat → Nat → Nat} {q : Nat → Nat} {A : Nat → Prop} {b L k ao : Nat} {xs : Nat → Int32} (hx : p.tables.exec = Jvm.exec) (hb : c.code = cL_law) (hF : CallFix p m c cL_law 9 s args pw_all RL) (hK : va_K D vwCl (pw_tys cy) s) (hE : pw_E A s s.heap) (hA : ∀ q : Nat, s.heap.size ≤ q → A q) (hX : va_X b L xs s s.heap) (hbl : b < s.heap.size) (hbA : ¬ A b) (hL : L ≤ 1536) (hk : k + 2 < L) {P T : Nat → Nat → Int32} {S : Nat → Nat → Nat → Int32} {nw hz : Int32} {ak pa wt cd : Nat → Int32} {ln : Int32} {ov : Nat → Int64} {th : Int32} {z sv : Nat → Int32} {sn : Int32} {sp bf : Nat → Int32} {ty : Int32} {gn : Nat → Int32} {hs : Int64} (RAh : RA P S nw hz cd ln z sv sn bf ty) {H : Heap} {locs : List Loc} {ls : Array Slot} {cells slots : Nat} {Q : State → Prop} (hP : va_P D vwCl (WL cy qa P T S nw hz ak pa wt cd ln ao ov ++ WM cy q th z sv sn sp bf ty gn hs) H) (hD : va_D A (WL cy qa P T S nw hz ak pa wt cd ln ao ov ++ WM cy q th z sv sn sp bf ty gn hs)) (hS : va_S A s.heap H locs) (hl : lv_has ls 9 [(0, .ref b), (1, .ref (qa 0 0)), (2, .ref (q 0)), (3, .ref ao), (4, .int (Int32.ofNat k))]) (hR1 : cells + 1 ≤ room_1.cells) (hR2 : slots + 6 ≤ room_1.slots) (kk : ∀ (P T : Nat → Nat → Int32) (S : Nat → Nat → Nat → Int32) (nw hz : Int32) (ak pa wt cd : Nat → Int32) (ln : Int32) (ov : Nat → Int64) (th : Int32) (z sv : Nat → Int32) (sn : Int32) (sp bf : Nat → Int32) (ty : Int32) (gn : Nat → Int32) (hs : Int64) (H : Heap) (locs : List Loc) (ls : Array Slot), RA P S nw hz cd ln z sv sn bf ty → va_P D vwCl (WL cy qa P T S nw hz ak pa wt cd ln ao ov ++ WM cy q th z sv sn sp bf ty gn hs) H → va_D A (WL cy qa P T S nw hz ak pa wt cd ln ao ov ++ WM cy q th z sv sn sp bf ty gn hs) → va_S A s.heap H locs → lv_has ls 9 [(0, .ref b), (1, .ref (qa 0 0)), (2, .ref (q 0)), (3, .ref ao), (4, .int (Int32.ofNat k))] → W p l e room_1 s m args below meth c H locs (cells + 1) (slots + 6) Q (F0 m 1284 ls [])) : W p l e room_1 s m args below meth c H locs cells slots Q (F0 m 316 ls []) := by
  have h1i : vp_in (Int32.ofNat k + 1) L := pw_ix1 hL hk
  have h2i : vp_in (Int32.ofNat k + 2) L := pw_ix2 hL hk
  have hts := hF.2.2.2.2
  by_cases hz2 : (xs (Int32.ofNat k + 2).toNatClampNeg) = 0
  · skip
    rcases c_appear RAh (xs (Int32.ofNat k + 1).toNatClampNeg) 0 th (Or.inl rfl) gn with (⟨h3, h4⟩ | ⟨h3, h4⟩) | ⟨r, P', S', nw', hz', z', sv', sn', gn', h3, h4, RA1⟩
    · skip
      refine lv_aload_n hx hb dL_law_316 rfl (lv_at hl 1 rfl) ?_
      refine lv_aload_n hx hb dL_law_317 rfl (lv_at hl 0 rfl) ?_
      refine lv_iload hx hb dL_law_318 (lv_at hl 4 rfl) ?_
      refine lv_iconst (v := 1) hx hb dL_law_320 (by decide) ?_
      refine lv_iadd hx hb dL_law_321 ?_
      refine va_sld hx hb hX hbl hbA hS h1i dL_law_322 ?_
      refine lv_aload_n hx hb dL_law_323 rfl (lv_at hl 0 rfl) ?_
      refine lv_iload hx hb dL_law_324 (lv_at hl 4 rfl) ?_
      refine lv_iconst (v := 2) hx hb dL_law_326 (by decide) ?_
      refine lv_iadd hx hb dL_law_327 ?_
      refine va_sld hx hb hX hbl hbA hS h2i dL_law_328 ?_
      refine lv_if_eq (tgt := 336) hx hb dL_law_329 (by decide) (fun _ => ?_) (fun c_ => absurd hz2 c_)
      refine lv_iconst (v := 0) hx hb dL_law_336 (by decide) ?_
      refine lv_aload_n hx hb dL_law_337 rfl (lv_at hl 3 rfl) ?_
      refine pw_lcall (r := 1) (ws0 := WL cy qa P T S nw hz ak pa wt cd ln ao ov ++ WM cy q th z sv sn sp bf ty gn hs) (ws1 := WL cy qa P T S nw hz ak pa wt cd ln ao ov ++ WM cy q th z sv sn sp bf ty gn hs) (wa := []) (wb := WM cy q th z sv sn sp bf ty gn hs) (wc := WL cy qa P T S nw hz ak pa wt cd ln ao ov) (w1 := WL cy qa P T S nw hz ak pa wt cd ln ao ov) (rest := []) (As := [.ref (qa 0 0), .int (xs (Int32.ofNat k + 1).toNatClampNeg), .int 0, .ref ao]) hF (kL_appear_t1 l hfl D cy qa _ P T S nw hz ak pa wt cd ln ao ov (xs (Int32.ofNat k + 1).toNatClampNeg) 0 h3) (vx_cwSW 4 hts (pw_gSW aw_506 aw_507 aw_0 aw_508) rfl rfl rfl pL_appear ⟨Nat.le_of_ble_eq_true rfl, Nat.le_of_ble_eq_true rfl⟩) hK hP hD hS hA hE rfl rfl rfl rfl hl.1 rfl (Nat.le_of_ble_eq_true rfl) dL_law_338 ⟨by omega, by omega⟩ (fun H locs hP hD hS => ?_)
      refine lv_istore (lv' := [(5, .int 1), (0, .ref b), (1, .ref (qa 0 0)), (2, .ref (q 0)), (3, .ref ao), (4, .int (Int32.ofNat k))]) hx hb dL_law_341 hl (by decide) rfl (fun ls hl => ?_)
      refine lv_aload_n hx hb dL_law_343 rfl (lv_at hl 3 rfl) ?_
      refine lv_aload_n hx hb dL_law_344 rfl (lv_at hl 1 rfl) ?_
      refine lv_iload hx hb dL_law_345 (lv_at hl 5 rfl) ?_
      refine lv_iconst (v := 1) hx hb dL_law_347 (by decide) ?_
      refine lv_iadd hx hb dL_law_348 ?_
      refine va_sld hx hb hX hbl hbA hS h1i dL_law_349 ?_
      refine lv_aload_n hx hb dL_law_350 rfl (lv_at hl 1 rfl) ?_
      refine lv_iload hx hb dL_law_351 (lv_at hl 5 rfl) ?_
      refine lv_iconst (v := 2) hx hb dL_law_353 (by decide) ?_
      refine lv_iadd hx hb dL_law_354 ?_
      refine va_sld hx hb hX hbl hbA hS h2i dL_law_355 ?_
      refine lv_if_eq (tgt := 363) hx hb dL_law_356 (by decide) (fun _ => ?_) (fun c_ => absurd hz2 c_)
      refine lv_iconst (v := 0) hx hb dL_law_363 (by decide) ?_
      refine pw_fi (r := 0) (ws0 := WL cy qa P T S nw hz ak pa wt cd ln ao ov ++ WM cy q th z sv sn sp bf ty gn hs) (ws1 := WL cy qa P T S nw hz ak pa wt cd ln ao ov ++ WM cy q 1 z sv sn sp bf ty gn hs) (wa := WL cy qa P T S nw hz ak pa wt cd ln ao ov) (wb := []) (wc := WM cy q th z sv sn sp bf ty gn hs) (w1 := WM cy q 1 z sv sn sp bf ty gn hs) (rest := []) (As := [.int (xs (Int32.ofNat k + 1).toNatClampNeg), .int 0]) hF (kX4_appear l D cy q _ th z sv sn sp bf ty gn hs (xs (Int32.ofNat k + 1).toNatClampNeg) 0 (0, 1, z, sv, sn, gn) h4) (cwV 2 hts (pw_gVt (own := RL) (idx := 92) (C := RX4) (y := yX4_appear) aw_843 aw_844 aw_845 aw_6 aw_846) rfl rfl rfl pX4_appear ⟨Nat.le_of_ble_eq_true rfl, Nat.le_of_ble_eq_true rfl⟩) 4 (RX4, TX4, 9) rfl rfl ⟨0, _, rfl⟩ hK hP hD hS hA (by rw [List.append_nil]) (by rw [List.append_nil]) rfl rfl hl.1 rfl (Nat.le_of_ble_eq_true rfl) dL_law_364 ⟨hR1, hR2⟩ (fun H locs hP hD hS => ?_)
      refine lv_istore (lv' := [(6, .int 0), (5, .int 1), (0, .ref b), (1, .ref (qa 0 0)), (2, .ref (q 0)), (3, .ref ao), (4, .int (Int32.ofNat k))]) hx hb dL_law_367 hl (by decide) rfl (fun ls hl => ?_)
      refine lv_aload_n hx hb dL_law_369 rfl (lv_at hl 4 rfl) ?_
      refine pw_fi (r := 1) (ws0 := WL cy qa P T S nw hz ak pa wt cd ln ao ov ++ WM cy q 1 z sv sn sp bf ty gn hs) (ws1 := WL cy qa P T S nw hz ak pa wt cd ln ao ov ++ WM cy q 1 z sv sn sp bf ty gn hs) (wa := WL cy qa P T S nw hz ak pa wt cd ln ao ov) (wb := []) (wc := WM cy q 1 z sv sn sp bf ty gn hs) (w1 := WM cy q 1 z sv sn sp bf ty gn hs) (rest := []) (As := []) hF (kX4_thrown l D cy q _ 1 z sv sn sp bf ty gn hs 1 rfl) (cwV 0 hts (pw_gVt (own := RL) (idx := 80) (C := RX4) (y := yX4_thrown) aw_714 aw_715 aw_716 aw_6 aw_717) rfl rfl rfl pX4_thrown ⟨Nat.le_of_ble_eq_true rfl, Nat.le_of_ble_eq_true rfl⟩) 4 (RX4, TX4, 9) rfl rfl ⟨0, _, rfl⟩ hK hP hD hS hA (by rw [List.append_nil]) (by rw [List.append_nil]) rfl rfl hl.1 rfl (Nat.le_of_ble_eq_true rfl) dL_law_370 ⟨hR1, hR2⟩ (fun H locs hP hD hS => ?_)
      refine lv_iload hx hb dL_law_373 (lv_at hl 1 rfl) ?_
      refine lv_icmp_eq (tgt := 380) hx hb dL_law_375 (by decide) (fun _ => ?_) (fun c_ => absurd rfl c_)
      refine lv_iload hx hb dL_law_380 (lv_at hl 1 rfl) ?_
      refine lv_if_ne (tgt := 397) hx hb dL_law_382 (by decide) (fun _ => ?_) (fun c_ => absurd c_ (by decide))
      refine lv_goto (tgt := 1284) hx hb dL_law_397 (by decide) ?_
      exact kk P T S nw hz ak pa wt cd ln ov 1 z sv sn sp bf ty gn hs H locs ls RAh hP hD hS ⟨hl.1, hl.2.1, fun x hx9 => hl.2.2 x (List.mem_cons_of_mem _ (List.mem_cons_of_mem _ hx9))⟩
    · skip
      refine lv_aload_n hx hb dL_law_316 rfl (lv_at hl 1 rfl) ?_
      refine lv_aload_n hx hb dL_law_317 rfl (lv_at hl 0 rfl) ?_
      refine lv_iload hx hb dL_law_318 (lv_at hl 4 rfl) ?_
      refine lv_iconst (v := 1) hx hb dL_law_320 (by decide) ?_
      refine lv_iadd hx hb dL_law_321 ?_
      refine va_sld hx hb hX hbl hbA hS h1i dL_law_322 ?_
      refine lv_aload_n hx hb dL_law_323 rfl (lv_at hl 0 rfl) ?_
      refine lv_iload hx hb dL_law_324 (lv_at hl 4 rfl) ?_
      refine lv_iconst (v := 2) hx hb dL_law_326 (by decide) ?_
      refine lv_iadd hx hb dL_law_327 ?_
      refine va_sld hx hb hX hbl hbA hS h2i dL_law_328 ?_
      refine lv_if_eq (tgt := 336) hx hb dL_law_329 (by decide) (fun _ => ?_) (fun c_ => absurd hz2 c_)
      refine lv_iconst (v := 0) hx hb dL_law_336 (by decide) ?_
      refine lv_aload_n hx hb dL_law_337 rfl (lv_at hl 3 rfl) ?_
      refine pw_lcall (r := 2) (ws0 := WL cy qa P T S nw hz ak pa wt cd ln ao ov ++ WM cy q th z sv sn sp bf ty gn hs) (ws1 := WL cy qa P T S nw hz ak pa wt cd ln ao ov ++ WM cy q th z sv sn sp bf ty gn hs) (wa := []) (wb := WM cy q th z sv sn sp bf ty gn hs) (wc := WL cy qa P T S nw hz ak pa wt cd ln ao ov) (w1 := WL cy qa P T S nw hz ak pa wt cd ln ao ov) (rest := []) (As := [.ref (qa 0 0), .int (xs (Int32.ofNat k + 1).toNatClampNeg), .int 0, .ref ao]) hF (kL_appear_t2 l hfl D cy qa _ P T S nw hz ak pa wt cd ln ao ov (xs (Int32.ofNat k + 1).toNatClampNeg) 0 h3) (vx_cwSW 4 hts (pw_gSW aw_506 aw_507 aw_0 aw_508) rfl rfl rfl pL_appear ⟨Nat.le_of_ble_eq_true rfl, Nat.le_of_ble_eq_true rfl⟩) hK hP hD hS hA hE rfl rfl rfl rfl hl.1 rfl (Nat.le_of_ble_eq_true rfl) dL_law_338 ⟨by omega, by omega⟩ (fun H locs hP hD hS => ?_)
      refine lv_istore (lv' := [(5, .int 2), (0, .ref b), (1, .ref (qa 0 0)), (2, .ref (q 0)), (3, .ref ao), (4, .int (Int32.ofNat k))]) hx hb dL_law_341 hl (by decide) rfl (fun ls hl => ?_)
      refine lv_aload_n hx hb dL_law_343 rfl (lv_at hl 3 rfl) ?_
      refine lv_aload_n hx hb dL_law_344 rfl (lv_at hl 1 rfl) ?_
      refine lv_iload hx hb dL_law_345 (lv_at hl 5 rfl) ?_
      refine lv_iconst (v := 1) hx hb dL_law_347 (by decide) ?_
      refine lv_iadd hx hb dL_law_348 ?_
      refine va_sld hx hb hX hbl hbA hS h1i dL_law_349 ?_
      refine lv_aload_n hx hb dL_law_350 rfl (lv_at hl 1 rfl) ?_
      refine lv_iload hx hb dL_law_351 (lv_at hl 5 rfl) ?_
      refine lv_iconst (v := 2) hx hb dL_law_353 (by decide) ?_
      refine lv_iadd hx hb dL_law_354 ?_
      refine va_sld hx hb hX hbl hbA hS h2i dL_law_355 ?_
      refine lv_if_eq (tgt := 363) hx hb dL_law_356 (by decide) (fun _ => ?_) (fun c_ => absurd hz2 c_)
      refine lv_iconst (v := 0) hx hb dL_law_363 (by decide) ?_
      refine pw_fi (r := 0) (ws0 := WL cy qa P T S nw hz ak pa wt cd ln ao ov ++ WM cy q th z sv sn sp bf ty gn hs) (ws1 := WL cy qa P T S nw hz ak pa wt cd ln ao ov ++ WM cy q 2 z sv sn sp bf ty gn hs) (wa := WL cy qa P T S nw hz ak pa wt cd ln ao ov) (wb := []) (wc := WM cy q th z sv sn sp bf ty gn hs) (w1 := WM cy q 2 z sv sn sp bf ty gn hs) (rest := []) (As := [.int (xs (Int32.ofNat k + 1).toNatClampNeg), .int 0]) hF (kX4_appear l D cy q _ th z sv sn sp bf ty gn hs (xs (Int32.ofNat k + 1).toNatClampNeg) 0 (0, 2, z, sv, sn, gn) h4) (cwV 2 hts (pw_gVt (own := RL) (idx := 92) (C := RX4) (y := yX4_appear) aw_843 aw_844 aw_845 aw_6 aw_846) rfl rfl rfl pX4_appear ⟨Nat.le_of_ble_eq_true rfl, Nat.le_of_ble_eq_true rfl⟩) 4 (RX4, TX4, 9) rfl rfl ⟨0, _, rfl⟩ hK hP hD hS hA (by rw [List.append_nil]) (by rw [List.append_nil]) rfl rfl hl.1 rfl (Nat.le_of_ble_eq_true rfl) dL_law_364 ⟨hR1, hR2⟩ (fun H locs hP hD hS => ?_)
      refine lv_istore (lv' := [(6, .int 0), (5, .int 2), (0, .ref b), (1, .ref (qa 0 0)), (2, .ref (q 0)), (3, .ref ao), (4, .int (Int32.ofNat k))]) hx hb dL_law_367 hl (by decide) rfl (fun ls hl => ?_)
      refine lv_aload_n hx hb dL_law_369 rfl (lv_at hl 4 rfl) ?_
      refine pw_fi (r := 2) (ws0 := WL cy qa P T S nw hz ak pa wt cd ln ao ov ++ WM cy q 2 z sv sn sp bf ty gn hs) (ws1 := WL cy qa P T S nw hz ak pa wt cd ln ao ov ++ WM cy q 2 z sv sn sp bf ty gn hs) (wa := WL cy qa P T S nw hz ak pa wt cd ln ao ov) (wb := []) (wc := WM cy q 2 z sv sn sp bf ty gn hs) (w1 := WM cy q 2 z sv sn sp bf ty gn hs) (rest := []) (As := []) hF (kX4_thrown l D cy q _ 2 z sv sn sp bf ty gn hs 2 rfl) (cwV 0 hts (pw_gVt (own := RL) (idx := 80) (C := RX4) (y := yX4_thrown) aw_714 aw_715 aw_716 aw_6 aw_717) rfl rfl rfl pX4_thrown ⟨Nat.le_of_ble_eq_true rfl, Nat.le_of_ble_eq_true rfl⟩) 4 (RX4, TX4, 9) rfl rfl ⟨0, _, rfl⟩ hK hP hD hS hA (by rw [List.append_nil]) (by rw [List.append_nil]) rfl rfl hl.1 rfl (Nat.le_of_ble_eq_true rfl) dL_law_370 ⟨hR1, hR2⟩ (fun H locs hP hD hS => ?_)
      refine lv_iload hx hb dL_law_373 (lv_at hl 1 rfl) ?_
      refine lv_icmp_eq (tgt := 380) hx hb dL_law_375 (by decide) (fun _ => ?_) (fun c_ => absurd rfl c_)
      refine lv_iload hx hb dL_law_380 (lv_at hl 1 rfl) ?_
      refine lv_if_ne (tgt := 397) hx hb dL_law_382 (by decide) (fun _ => ?_) (fun c_ => absurd c_ (by decide))
      refine lv_goto (tgt := 1284) hx hb dL_law_397 (by decide) ?_
      exact kk P T S nw hz ak pa wt cd ln ov 2 z sv sn sp bf ty gn hs H locs ls RAh hP hD hS ⟨hl.1, hl.2.1, fun x hx9 => hl.2.2 x (List.mem_cons_of_mem _ (List.mem_cons_of_mem _ hx9))⟩
    · skip
      refine lv_aload_n hx hb dL_law_316 rfl (lv_at hl 1 rfl) ?_
      refine lv_aload_n hx hb dL_law_317 rfl (lv_at hl 0 rfl) ?_
      refine lv_iload hx hb dL_law_318 (lv_at hl 4 rfl) ?_
      refine lv_iconst (v := 1) hx hb dL_law_320 (by decide) ?_
      refine lv_iadd hx hb dL_law_321 ?_
      refine va_sld hx hb hX hbl hbA hS h1i dL_law_322 ?_
      refine lv_aload_n hx hb dL_law_323 rfl (lv_at hl 0 rfl) ?_
      refine lv_iload hx hb dL_law_324 (lv_at hl 4 rfl) ?_
      refine lv_iconst (v := 2) hx hb dL_law_326 (by decide) ?_
      refine lv_iadd hx hb dL_law_327 ?_
      refine va_sld hx hb hX hbl hbA hS h2i dL_law_328 ?_
      refine lv_if_eq (tgt := 336) hx hb dL_law_329 (by decide) (fun _ => ?_) (fun c_ => absurd hz2 c_)
      refine lv_iconst (v := 0) hx hb dL_law_336 (by decide) ?_
      refine lv_aload_n hx hb dL_law_337 rfl (lv_at hl 3 rfl) ?_
      refine pw_lcall (r := 0) (ws0 := WL cy qa P T S nw hz ak pa wt cd ln ao ov ++ WM cy q th z sv sn sp bf ty gn hs) (ws1 := WL cy qa P' T S' nw' hz' ak pa wt cd ln ao (vp_updL ov (0 : Int32).toNatClampNeg r.toInt64) ++ WM cy q th z sv sn sp bf ty gn hs) (wa := []) (wb := WM cy q th z sv sn sp bf ty gn hs) (wc := WL cy qa P T S nw hz ak pa wt cd ln ao ov) (w1 := WL cy qa P' T S' nw' hz' ak pa wt cd ln ao (vp_updL ov (0 : Int32).toNatClampNeg r.toInt64)) (rest := []) (As := [.ref (qa 0 0), .int (xs (Int32.ofNat k + 1).toNatClampNeg), .int 0, .ref ao]) hF (kL_appear_r l hfl D cy qa _ P T S nw hz ak pa wt cd ln ao ov (xs (Int32.ofNat k + 1).toNatClampNeg) 0 (r, P', S', nw', hz') h3) (vx_cwSW 4 hts (pw_gSW aw_506 aw_507 aw_0 aw_508) rfl rfl rfl pL_appear ⟨Nat.le_of_ble_eq_true rfl, Nat.le_of_ble_eq_true rfl⟩) hK hP hD hS hA hE rfl rfl rfl rfl hl.1 rfl (Nat.le_of_ble_eq_true rfl) dL_law_338 ⟨by omega, by omega⟩ (fun H locs hP hD hS => ?_)
      refine W.widen (k := cells + 1) (n := slots + 6) (by omega) (by omega) ?_
      refine lv_istore (lv' := [(5, .int 0), (0, .ref b), (1, .ref (qa 0 0)), (2, .ref (q 0)), (3, .ref ao), (4, .int (Int32.ofNat k))]) hx hb dL_law_341 hl (by decide) rfl (fun ls hl => ?_)
      refine lv_aload_n hx hb dL_law_343 rfl (lv_at hl 3 rfl) ?_
      refine lv_aload_n hx hb dL_law_344 rfl (lv_at hl 1 rfl) ?_
      refine lv_iload hx hb dL_law_345 (lv_at hl 5 rfl) ?_
      refine lv_iconst (v := 1) hx hb dL_law_347 (by decide) ?_
      refine lv_iadd hx hb dL_law_348 ?_
      refine va_sld hx hb hX hbl hbA hS h1i dL_law_349 ?_
      refine lv_aload_n hx hb dL_law_350 rfl (lv_at hl 1 rfl) ?_
      refine lv_iload hx hb dL_law_351 (lv_at hl 5 rfl) ?_
      refine lv_iconst (v := 2) hx hb dL_law_353 (by decide) ?_
      refine lv_iadd hx hb dL_law_354 ?_
      refine va_sld hx hb hX hbl hbA hS h2i dL_law_355 ?_
      refine lv_if_eq (tgt := 363) hx hb dL_law_356 (by decide) (fun _ => ?_) (fun c_ => absurd hz2 c_)
      refine lv_iconst (v := 0) hx hb dL_law_363 (by decide) ?_
      refine pw_fi (r := r) (ws0 := WL cy qa P' T S' nw' hz' ak pa wt cd ln ao (vp_updL ov (0 : Int32).toNatClampNeg r.toInt64) ++ WM cy q th z sv sn sp bf ty gn hs) (ws1 := WL cy qa P' T S' nw' hz' ak pa wt cd ln ao (vp_updL ov (0 : Int32).toNatClampNeg r.toInt64) ++ WM cy q 0 z' sv' sn' sp bf ty gn' hs) (wa := WL cy qa P' T S' nw' hz' ak pa wt cd ln ao (vp_updL ov (0 : Int32).toNatClampNeg r.toInt64)) (wb := []) (wc := WM cy q th z sv sn sp bf ty gn hs) (w1 := WM cy q 0 z' sv' sn' sp bf ty gn' hs) (rest := []) (As := [.int (xs (Int32.ofNat k + 1).toNatClampNeg), .int 0]) hF (kX4_appear l D cy q _ th z sv sn sp bf ty gn hs (xs (Int32.ofNat k + 1).toNatClampNeg) 0 (r, 0, z', sv', sn', gn') h4) (cwV 2 hts (pw_gVt (own := RL) (idx := 92) (C := RX4) (y := yX4_appear) aw_843 aw_844 aw_845 aw_6 aw_846) rfl rfl rfl pX4_appear ⟨Nat.le_of_ble_eq_true rfl, Nat.le_of_ble_eq_true rfl⟩) 4 (RX4, TX4, 9) rfl rfl ⟨0, _, rfl⟩ hK hP hD hS hA (by rw [List.append_nil]) (by rw [List.append_nil]) rfl rfl hl.1 rfl (Nat.le_of_ble_eq_true rfl) dL_law_364 ⟨hR1, hR2⟩ (fun H locs hP hD hS => ?_)
      refine lv_istore (lv' := [(6, .int r), (5, .int 0), (0, .ref b), (1, .ref (qa 0 0)), (2, .ref (q 0)), (3, .ref ao), (4, .int (Int32.ofNat k))]) hx hb dL_law_367 hl (by decide) rfl (fun ls hl => ?_)
      refine lv_aload_n hx hb dL_law_369 rfl (lv_at hl 4 rfl) ?_
      refine pw_fi (r := 0) (ws0 := WL cy qa P' T S' nw' hz' ak pa wt cd ln ao (vp_updL ov (0 : Int32).toNatClampNeg r.toInt64) ++ WM cy q 0 z' sv' sn' sp bf ty gn' hs) (ws1 := WL cy qa P' T S' nw' hz' ak pa wt cd ln ao (vp_updL ov (0 : Int32).toNatClampNeg r.toInt64) ++ WM cy q 0 z' sv' sn' sp bf ty gn' hs) (wa := WL cy qa P' T S' nw' hz' ak pa wt cd ln ao (vp_updL ov (0 : Int32).toNatClampNeg r.toInt64)) (wb := []) (wc := WM cy q 0 z' sv' sn' sp bf ty gn' hs) (w1 := WM cy q 0 z' sv' sn' sp bf ty gn' hs) (rest := []) (As := []) hF (kX4_thrown l D cy q _ 0 z' sv' sn' sp bf ty gn' hs 0 rfl) (cwV 0 hts (pw_gVt (own := RL) (idx := 80) (C := RX4) (y := yX4_thrown) aw_714 aw_715 aw_716 aw_6 aw_717) rfl rfl rfl pX4_thrown ⟨Nat.le_of_ble_eq_true rfl, Nat.le_of_ble_eq_true rfl⟩) 4 (RX4, TX4, 9) rfl rfl ⟨0, _, rfl⟩ hK hP hD hS hA (by rw [List.append_nil]) (by rw [List.append_nil]) rfl rfl hl.1 rfl (Nat.le_of_ble_eq_true rfl) dL_law_370 ⟨hR1, hR2⟩ (fun H locs hP hD hS => ?_)
      refine lv_iload hx hb dL_law_373 (lv_at hl 1 rfl) ?_
      refine lv_icmp_eq (tgt := 380) hx hb dL_law_375 (by decide) (fun _ => ?_) (fun c_ => absurd rfl c_)
      refine lv_iload hx hb dL_law_380 (lv_at hl 1 rfl) ?_
      refine lv_if_ne (tgt := 397) hx hb dL_law_382 (by decide) (fun c_ => absurd rfl c_) (fun _ => ?_)
      refine lv_aload_n hx hb dL_law_385 rfl (lv_at hl 5 rfl) ?_
      refine lv_iconst (v := 0) hx hb dL_law_386 (by decide) ?_
      refine va_lald hx hb hK hP 128 3 rfl rfl (pq_vp (by decide)) dL_law_387 ?_
      refine lv_iload hx hb dL_law_388 (lv_at hl 0 rfl) ?_
      refine lv_i2l (v := r.toInt64) hx hb dL_law_390 rfl ?_
      refine W.lcmp hx hb dL_law_391 ?_
      refine lv_if_eq (tgt := 397) hx hb dL_law_392 (by decide) (fun _ => ?_) (fun c_ => absurd ((lg_cmp_eq _ _).mpr rfl) c_)
      refine lv_goto (tgt := 1284) hx hb dL_law_397 (by decide) ?_
      exact kk P' T S' nw' hz' ak pa wt cd ln (vp_updL ov (0 : Int32).toNatClampNeg r.toInt64) 0 z' sv' sn' sp bf ty gn' hs H locs ls RA1 hP hD hS ⟨hl.1, hl.2.1, fun x hx9 => hl.2.2 x (List.mem_cons_of_mem _ (List.mem_cons_of_mem _ hx9))⟩
  · skip
    rcases c_appear RAh (xs (Int32.ofNat k + 1).toNatClampNeg) 1 th (Or.inr rfl) gn with (⟨h3, h4⟩ | ⟨h3, h4⟩) | ⟨r, P', S', nw', hz', z', sv', sn', gn', h3, h4, RA1⟩
    · skip
      refine lv_aload_n hx hb dL_law_316 rfl (lv_at hl 1 rfl) ?_
      refine lv_aload_n hx hb dL_law_317 rfl (lv_at hl 0 rfl) ?_
      refine lv_iload hx hb dL_law_318 (lv_at hl 4 rfl) ?_
      refine lv_iconst (v := 1) hx hb dL_law_320 (by decide) ?_
      refine lv_iadd hx hb dL_law_321 ?_
      refine va_sld hx hb hX hbl hbA hS h1i dL_law_322 ?_
      refine lv_aload_n hx hb dL_law_323 rfl (lv_at hl 0 rfl) ?_
      refine lv_iload hx hb dL_law_324 (lv_at hl 4 rfl) ?_
      refine lv_iconst (v := 2) hx hb dL_law_326 (by decide) ?_
      refine lv_iadd hx hb dL_law_327 ?_
      refine va_sld hx hb hX hbl hbA hS h2i dL_law_328 ?_
      refine lv_if_eq (tgt := 336) hx hb dL_law_329 (by decide) (fun c_ => absurd c_ hz2) (fun _ => ?_)
      refine lv_iconst (v := 1) hx hb dL_law_332 (by decide) ?_
      refine lv_goto (tgt := 337) hx hb dL_law_333 (by decide) ?_
      refine lv_aload_n hx hb dL_law_337 rfl (lv_at hl 3 rfl) ?_
      refine pw_lcall (r := 1) (ws0 := WL cy qa P T S nw hz ak pa wt cd ln ao ov ++ WM cy q th z sv sn sp bf ty gn hs) (ws1 := WL cy qa P T S nw hz ak pa wt cd ln ao ov ++ WM cy q th z sv sn sp bf ty gn hs) (wa := []) (wb := WM cy q th z sv sn sp bf ty gn hs) (wc := WL cy qa P T S nw hz ak pa wt cd ln ao ov) (w1 := WL cy qa P T S nw hz ak pa wt cd ln ao ov) (rest := []) (As := [.ref (qa 0 0), .int (xs (Int32.ofNat k + 1).toNatClampNeg), .int 1, .ref ao]) hF (kL_appear_t1 l hfl D cy qa _ P T S nw hz ak pa wt cd ln ao ov (xs (Int32.ofNat k + 1).toNatClampNeg) 1 h3) (vx_cwSW 4 hts (pw_gSW aw_506 aw_507 aw_0 aw_508) rfl rfl rfl pL_appear ⟨Nat.le_of_ble_eq_true rfl, Nat.le_of_ble_eq_true rfl⟩) hK hP hD hS hA hE rfl rfl rfl rfl hl.1 rfl (Nat.le_of_ble_eq_true rfl) dL_law_338 ⟨by omega, by omega⟩ (fun H locs hP hD hS => ?_)
      refine lv_istore (lv' := [(5, .int 1), (0, .ref b), (1, .ref (qa 0 0)), (2, .ref (q 0)), (3, .ref ao), (4, .int (Int32.ofNat k))]) hx hb dL_law_341 hl (by decide) rfl (fun ls hl => ?_)
      refine lv_aload_n hx hb dL_law_343 rfl (lv_at hl 3 rfl) ?_
      refine lv_aload_n hx hb dL_law_344 rfl (lv_at hl 1 rfl) ?_
      refine lv_iload hx hb dL_law_345 (lv_at hl 5 rfl) ?_
      refine lv_iconst (v := 1) hx hb dL_law_347 (by decide) ?_
      refine lv_iadd hx hb dL_law_348 ?_
      refine va_sld hx hb hX hbl hbA hS h1i dL_law_349 ?_
      refine lv_aload_n hx hb dL_law_350 rfl (lv_at hl 1 rfl) ?_
      refine lv_iload hx hb dL_law_351 (lv_at hl 5 rfl) ?_
      refine lv_iconst (v := 2) hx hb dL_law_353 (by decide) ?_
      refine lv_iadd hx hb dL_law_354 ?_
      refine va_sld hx hb hX hbl hbA hS h2i dL_law_355 ?_
      refine lv_if_eq (tgt := 363) hx hb dL_law_356 (by decide) (fun c_ => absurd c_ hz2) (fun _ => ?_)
      refine lv_iconst (v := 1) hx hb dL_law_359 (by decide) ?_
      refine lv_goto (tgt := 364) hx hb dL_law_360 (by decide) ?_
      refine pw_fi (r := 0) (ws0 := WL cy qa P T S nw hz ak pa wt cd ln ao ov ++ WM cy q th z sv sn sp bf ty gn hs) (ws1 := WL cy qa P T S nw hz ak pa wt cd ln ao ov ++ WM cy q 1 z sv sn sp bf ty gn hs) (wa := WL cy qa P T S nw hz ak pa wt cd ln ao ov) (wb := []) (wc := WM cy q th z sv sn sp bf ty gn hs) (w1 := WM cy q 1 z sv sn sp bf ty gn hs) (rest := []) (As := [.int (xs (Int32.ofNat k + 1).toNatClampNeg), .int 1]) hF (kX4_appear l D cy q _ th z sv sn sp bf ty gn hs (xs (Int32.ofNat k + 1).toNatClampNeg) 1 (0, 1, z, sv, sn, gn) h4) (cwV 2 hts (pw_gVt (own := RL) (idx := 92) (C := RX4) (y := yX4_appear) aw_843 aw_844 aw_845 aw_6 aw_846) rfl rfl rfl pX4_appear ⟨Nat.le_of_ble_eq_true rfl, Nat.le_of_ble_eq_true rfl⟩) 4 (RX4, TX4, 9) rfl rfl ⟨0, _, rfl⟩ hK hP hD hS hA (by rw [List.append_nil]) (by rw [List.append_nil]) rfl rfl hl.1 rfl (Nat.le_of_ble_eq_true rfl) dL_law_364 ⟨hR1, hR2⟩ (fun H locs hP hD hS => ?_)
      refine lv_istore (lv' := [(6, .int 0), (5, .int 1), (0, .ref b), (1, .ref (qa 0 0)), (2, .ref (q 0)), (3, .ref ao), (4, .int (Int32.ofNat k))]) hx hb dL_law_367 hl (by decide) rfl (fun ls hl => ?_)
      refine lv_aload_n hx hb dL_law_369 rfl (lv_at hl 4 rfl) ?_
      refine pw_fi (r := 1) (ws0 := WL cy qa P T S nw hz ak pa wt cd ln ao ov ++ WM cy q 1 z sv sn sp bf ty gn hs) (ws1 := WL cy qa P T S nw hz ak pa wt cd ln ao ov ++ WM cy q 1 z sv sn sp bf ty gn hs) (wa := WL cy qa P T S nw hz ak pa wt cd ln ao ov) (wb := []) (wc := WM cy q 1 z sv sn sp bf ty gn hs) (w1 := WM cy q 1 z sv sn sp bf ty gn hs) (rest := []) (As := []) hF (kX4_thrown l D cy q _ 1 z sv sn sp bf ty gn hs 1 rfl) (cwV 0 hts (pw_gVt (own := RL) (idx := 80) (C := RX4) (y := yX4_thrown) aw_714 aw_715 aw_716 aw_6 aw_717) rfl rfl rfl pX4_thrown ⟨Nat.le_of_ble_eq_true rfl, Nat.le_of_ble_eq_true rfl⟩) 4 (RX4, TX4, 9) rfl rfl ⟨0, _, rfl⟩ hK hP hD hS hA (by rw [List.append_nil]) (by rw [List.append_nil]) rfl rfl hl.1 rfl (Nat.le_of_ble_eq_true rfl) dL_law_370 ⟨hR1, hR2⟩ (fun H locs hP hD hS => ?_)
      refine lv_iload hx hb dL_law_373 (lv_at hl 1 rfl) ?_
      refine lv_icmp_eq (tgt := 380) hx hb dL_law_375 (by decide) (fun _ => ?_) (fun c_ => absurd rfl c_)
      refine lv_iload hx hb dL_law_380 (lv_at hl 1 rfl) ?_
      refine lv_if_ne (tgt := 397) hx hb dL_law_382 (by decide) (fun _ => ?_) (fun c_ => absurd c_ (by decide))
      refine lv_goto (tgt := 1284) hx hb dL_law_397 (by decide) ?_
      exact kk P T S nw hz ak pa wt cd ln ov 1 z sv sn sp bf ty gn hs H locs ls RAh hP hD hS ⟨hl.1, hl.2.1, fun x hx9 => hl.2.2 x (List.mem_cons_of_mem _ (List.mem_cons_of_mem _ hx9))⟩
    · skip
      refine lv_aload_n hx hb dL_law_316 rfl (lv_at hl 1 rfl) ?_
      refine lv_aload_n hx hb dL_law_317 rfl (lv_at hl 0 rfl) ?_
      refine lv_iload hx hb dL_law_318 (lv_at hl 4 rfl) ?_
      refine lv_iconst (v := 1) hx hb dL_law_320 (by decide) ?_
      refine lv_iadd hx hb dL_law_321 ?_
      refine va_sld hx hb hX hbl hbA hS h1i dL_law_322 ?_
      refine lv_aload_n hx hb dL_law_323 rfl (lv_at hl 0 rfl) ?_
      refine lv_iload hx hb dL_law_324 (lv_at hl 4 rfl) ?_
      refine lv_iconst (v := 2) hx hb dL_law_326 (by decide) ?_
      refine lv_iadd hx hb dL_law_327 ?_
      refine va_sld hx hb hX hbl hbA hS h2i dL_law_328 ?_
      refine lv_if_eq (tgt := 336) hx hb dL_law_329 (by decide) (fun c_ => absurd c_ hz2) (fun _ => ?_)
      refine lv_iconst (v := 1) hx hb dL_law_332 (by decide) ?_
      refine lv_goto (tgt := 337) hx hb dL_law_333 (by decide) ?_
      refine lv_aload_n hx hb dL_law_337 rfl (lv_at hl 3 rfl) ?_
      refine pw_lcall (r := 2) (ws0 := WL cy qa P T S nw hz ak pa wt cd ln ao ov ++ WM cy q th z sv sn sp bf ty gn hs) (ws1 := WL cy qa P T S nw hz ak pa wt cd ln ao ov ++ WM cy q th z sv sn sp bf ty gn hs) (wa := []) (wb := WM cy q th z sv sn sp bf ty gn hs) (wc := WL cy qa P T S nw hz ak pa wt cd ln ao ov) (w1 := WL cy qa P T S nw hz ak pa wt cd ln ao ov) (rest := []) (As := [.ref (qa 0 0), .int (xs (Int32.ofNat k + 1).toNatClampNeg), .int 1, .ref ao]) hF (kL_appear_t2 l hfl D cy qa _ P T S nw hz ak pa wt cd ln ao ov (xs (Int32.ofNat k + 1).toNatClampNeg) 1 h3) (vx_cwSW 4 hts (pw_gSW aw_506 aw_507 aw_0 aw_508) rfl rfl rfl pL_appear ⟨Nat.le_of_ble_eq_true rfl, Nat.le_of_ble_eq_true rfl⟩) hK hP hD hS hA hE rfl rfl rfl rfl hl.1 rfl (Nat.le_of_ble_eq_true rfl) dL_law_338 ⟨by omega, by omega⟩ (fun H locs hP hD hS => ?_)
      refine lv_istore (lv' := [(5, .int 2), (0, .ref b), (1, .ref (qa 0 0)), (2, .ref (q 0)), (3, .ref ao), (4, .int (Int32.ofNat k))]) hx hb dL_law_341 hl (by decide) rfl (fun ls hl => ?_)
      refine lv_aload_n hx hb dL_law_343 rfl (lv_at hl 3 rfl) ?_
      refine lv_aload_n hx hb dL_law_344 rfl (lv_at hl 1 rfl) ?_
      refine lv_iload hx hb dL_law_345 (lv_at hl 5 rfl) ?_
      refine lv_iconst (v := 1) hx hb dL_law_347 (by decide) ?_
      refine lv_iadd hx hb dL_law_348 ?_
      refine va_sld hx hb hX hbl hbA hS h1i dL_law_349 ?_
      refine lv_aload_n hx hb dL_law_350 rfl (lv_at hl 1 rfl) ?_
      refine lv_iload hx hb dL_law_351 (lv_at hl 5 rfl) ?_
      refine lv_iconst (v := 2) hx hb dL_law_353 (by decide) ?_
      refine lv_iadd hx hb dL_law_354 ?_
      refine va_sld hx hb hX hbl hbA hS h2i dL_law_355 ?_
      refine lv_if_eq (tgt := 363) hx hb dL_law_356 (by decide) (fun c_ => absurd c_ hz2) (fun _ => ?_)
      refine lv_iconst (v := 1) hx hb dL_law_359 (by decide) ?_
      refine lv_goto (tgt := 364) hx hb dL_law_360 (by decide) ?_
      refine pw_fi (r := 0) (ws0 := WL cy qa P T S nw hz ak pa wt cd ln ao ov ++ WM cy q th z sv sn sp bf ty gn hs) (ws1 := WL cy qa P T S nw hz ak pa wt cd ln ao ov ++ WM cy q 2 z sv sn sp bf ty gn hs) (wa := WL cy qa P T S nw hz ak pa wt cd ln ao ov) (wb := []) (wc := WM cy q th z sv sn sp bf ty gn hs) (w1 := WM cy q 2 z sv sn sp bf ty gn hs) (rest := []) (As := [.int (xs (Int32.ofNat k + 1).toNatClampNeg), .int 1]) hF (kX4_appear l D cy q _ th z sv sn sp bf ty gn hs (xs (Int32.ofNat k + 1).toNatClampNeg) 1 (0, 2, z, sv, sn, gn) h4) (cwV 2 hts (pw_gVt (own := RL) (idx := 92) (C := RX4) (y := yX4_appear) aw_843 aw_844 aw_845 aw_6 aw_846) rfl rfl rfl pX4_appear ⟨Nat.le_of_ble_eq_true rfl, Nat.le_of_ble_eq_true rfl⟩) 4 (RX4, TX4, 9) rfl rfl ⟨0, _, rfl⟩ hK hP hD hS hA (by rw [List.append_nil]) (by rw [List.append_nil]) rfl rfl hl.1 rfl (Nat.le_of_ble_eq_true rfl) dL_law_364 ⟨hR1, hR2⟩ (fun H locs hP hD hS => ?_)
      refine lv_istore (lv' := [(6, .int 0), (5, .int 2), (0, .ref b), (1, .ref (qa 0 0)), (2, .ref (q 0)), (3, .ref ao), (4, .int (Int32.ofNat k))]) hx hb dL_law_367 hl (by decide) rfl (fun ls hl => ?_)
      refine lv_aload_n hx hb dL_law_369 rfl (lv_at hl 4 rfl) ?_
      refine pw_fi (r := 2) (ws0 := WL cy qa P T S nw hz ak pa wt cd ln ao ov ++ WM cy q 2 z sv sn sp bf ty gn hs) (ws1 := WL cy qa P T S nw hz ak pa wt cd ln ao ov ++ WM cy q 2 z sv sn sp bf ty gn hs) (wa := WL cy qa P T S nw hz ak pa wt cd ln ao ov) (wb := []) (wc := WM cy q 2 z sv sn sp bf ty gn hs) (w1 := WM cy q 2 z sv sn sp bf ty gn hs) (rest := []) (As := []) hF (kX4_thrown l D cy q _ 2 z sv sn sp bf ty gn hs 2 rfl) (cwV 0 hts (pw_gVt (own := RL) (idx := 80) (C := RX4) (y := yX4_thrown) aw_714 aw_715 aw_716 aw_6 aw_717) rfl rfl rfl pX4_thrown ⟨Nat.le_of_ble_eq_true rfl, Nat.le_of_ble_eq_true rfl⟩) 4 (RX4, TX4, 9) rfl rfl ⟨0, _, rfl⟩ hK hP hD hS hA (by rw [List.append_nil]) (by rw [List.append_nil]) rfl rfl hl.1 rfl (Nat.le_of_ble_eq_true rfl) dL_law_370 ⟨hR1, hR2⟩ (fun H locs hP hD hS => ?_)
      refine lv_iload hx hb dL_law_373 (lv_at hl 1 rfl) ?_
      refine lv_icmp_eq (tgt := 380) hx hb dL_law_375 (by decide) (fun _ => ?_) (fun c_ => absurd rfl c_)
      refine lv_iload hx hb dL_law_380 (lv_at hl 1 rfl) ?_
      refine lv_if_ne (tgt := 397) hx hb dL_law_382 (by decide) (fun _ => ?_) (fun c_ => absurd c_ (by decide))
      refine lv_goto (tgt := 1284) hx hb dL_law_397 (by decide) ?_
      exact kk P T S nw hz ak pa wt cd ln ov 2 z sv sn sp bf ty gn hs H locs ls RAh hP hD hS ⟨hl.1, hl.2.1, fun x hx9 => hl.2.2 x (List.mem_cons_of_mem _ (List.mem_cons_of_mem _ hx9))⟩
    · skip
      refine lv_aload_n hx hb dL_law_316 rfl (lv_at hl 1 rfl) ?_
      refine lv_aload_n hx hb dL_law_317 rfl (lv_at hl 0 rfl) ?_
      refine lv_iload hx hb dL_law_318 (lv_at hl 4 rfl) ?_
      refine lv_iconst (v := 1) hx hb dL_law_320 (by decide) ?_
      refine lv_iadd hx hb dL_law_321 ?_
      refine va_sld hx hb hX hbl hbA hS h1i dL_law_322 ?_
      refine lv_aload_n hx hb dL_law_323 rfl (lv_at hl 0 rfl) ?_
      refine lv_iload hx hb dL_law_324 (lv_at hl 4 rfl) ?_
      refine lv_iconst (v := 2) hx hb dL_law_326 (by decide) ?_
      refine lv_iadd hx hb dL_law_327 ?_
      refine va_sld hx hb hX hbl hbA hS h2i dL_law_328 ?_
      refine lv_if_eq (tgt := 336) hx hb dL_law_329 (by decide) (fun c_ => absurd c_ hz2) (fun _ => ?_)
      refine lv_iconst (v := 1) hx hb dL_law_332 (by decide) ?_
      refine lv_goto (tgt := 337) hx hb dL_law_333 (by decide) ?_
      refine lv_aload_n hx hb dL_law_337 rfl (lv_at hl 3 rfl) ?_
      refine pw_lcall (r := 0) (ws0 := WL cy qa P T S nw hz ak pa wt cd ln ao ov ++ WM cy q th z sv sn sp bf ty gn hs) (ws1 := WL cy qa P' T S' nw' hz' ak pa wt cd ln ao (vp_updL ov (0 : Int32).toNatClampNeg r.toInt64) ++ WM cy q th z sv sn sp bf ty gn hs) (wa := []) (wb := WM cy q th z sv sn sp bf ty gn hs) (wc := WL cy qa P T S nw hz ak pa wt cd ln ao ov) (w1 := WL cy qa P' T S' nw' hz' ak pa wt cd ln ao (vp_updL ov (0 : Int32).toNatClampNeg r.toInt64)) (rest := []) (As := [.ref (qa 0 0), .int (xs (Int32.ofNat k + 1).toNatClampNeg), .int 1, .ref ao]) hF (kL_appear_r l hfl D cy qa _ P T S nw hz ak pa wt cd ln ao ov (xs (Int32.ofNat k + 1).toNatClampNeg) 1 (r, P', S', nw', hz') h3) (vx_cwSW 4 hts (pw_gSW aw_506 aw_507 aw_0 aw_508) rfl rfl rfl pL_appear ⟨Nat.le_of_ble_eq_true rfl, Nat.le_of_ble_eq_true rfl⟩) hK hP hD hS hA hE rfl rfl rfl rfl hl.1 rfl (Nat.le_of_ble_eq_true rfl) dL_law_338 ⟨by omega, by omega⟩ (fun H locs hP hD hS => ?_)
      refine W.widen (k := cells + 1) (n := slots + 6) (by omega) (by omega) ?_
      refine lv_istore (lv' := [(5, .int 0), (0, .ref b), (1, .ref (qa 0 0)), (2, .ref (q 0)), (3, .ref ao), (4, .int (Int32.ofNat k))]) hx hb dL_law_341 hl (by decide) rfl (fun ls hl => ?_)
      refine lv_aload_n hx hb dL_law_343 rfl (lv_at hl 3 rfl) ?_
      refine lv_aload_n hx hb dL_law_344 rfl (lv_at hl 1 rfl) ?_
      refine lv_iload hx hb dL_law_345 (lv_at hl 5 rfl) ?_
      refine lv_iconst (v := 1) hx hb dL_law_347 (by decide) ?_
      refine lv_iadd hx hb dL_law_348 ?_
      refine va_sld hx hb hX hbl hbA hS h1i dL_law_349 ?_
      refine lv_aload_n hx hb dL_law_350 rfl (lv_at hl 1 rfl) ?_
      refine lv_iload hx hb dL_law_351 (lv_at hl 5 rfl) ?_
      refine lv_iconst (v := 2) hx hb dL_law_353 (by decide) ?_
      refine lv_iadd hx hb dL_law_354 ?_
      refine va_sld hx hb hX hbl hbA hS h2i dL_law_355 ?_
      refine lv_if_eq (tgt := 363) hx hb dL_law_356 (by decide) (fun c_ => absurd c_ hz2) (fun _ => ?_)
      refine lv_iconst (v := 1) hx hb dL_law_359 (by decide) ?_
      refine lv_goto (tgt := 364) hx hb dL_law_360 (by decide) ?_
      refine pw_fi (r := r) (ws0 := WL cy qa P' T S' nw' hz' ak pa wt cd ln ao (vp_updL ov (0 : Int32).toNatClampNeg r.toInt64) ++ WM cy q th z sv sn sp bf ty gn hs) (ws1 := WL cy qa P' T S' nw' hz' ak pa wt cd ln ao (vp_updL ov (0 : Int32).toNatClampNeg r.toInt64) ++ WM cy q 0 z' sv' sn' sp bf ty gn' hs) (wa := WL cy qa P' T S' nw' hz' ak pa wt cd ln ao (vp_updL ov (0 : Int32).toNatClampNeg r.toInt64)) (wb := []) (wc := WM cy q th z sv sn sp bf ty gn hs) (w1 := WM cy q 0 z' sv' sn' sp bf ty gn' hs) (rest := []) (As := [.int (xs (Int32.ofNat k + 1).toNatClampNeg), .int 1]) hF (kX4_appear l D cy q _ th z sv sn sp bf ty gn hs (xs (Int32.ofNat k + 1).toNatClampNeg) 1 (r, 0, z', sv', sn', gn') h4) (cwV 2 hts (pw_gVt (own := RL) (idx := 92) (C := RX4) (y := yX4_appear) aw_843 aw_844 aw_845 aw_6 aw_846) rfl rfl rfl pX4_appear ⟨Nat.le_of_ble_eq_true rfl, Nat.le_of_ble_eq_true rfl⟩) 4 (RX4, TX4, 9) rfl rfl ⟨0, _, rfl⟩ hK hP hD hS hA (by rw [List.append_nil]) (by rw [List.append_nil]) rfl rfl hl.1 rfl (Nat.le_of_ble_eq_true rfl) dL_law_364 ⟨hR1, hR2⟩ (fun H locs hP hD hS => ?_)
      refine lv_istore (lv' := [(6, .int r), (5, .int 0), (0, .ref b), (1, .ref (qa 0 0)), (2, .ref (q 0)), (3, .ref ao), (4, .int (Int32.ofNat k))]) hx hb dL_law_367 hl (by decide) rfl (fun ls hl => ?_)
      refine lv_aload_n hx hb dL_law_369 rfl (lv_at hl 4 rfl) ?_
      refine pw_fi (r := 0) (ws0 := WL cy qa P' T S' nw' hz' ak pa wt cd ln ao (vp_updL ov (0 : Int32).toNatClampNeg r.toInt64) ++ WM cy q 0 z' sv' sn' sp bf ty gn' hs) (ws1 := WL cy qa P' T S' nw' hz' ak pa wt cd ln ao (vp_updL ov (0 : Int32).toNatClampNeg r.toInt64) ++ WM cy q 0 z' sv' sn' sp bf ty gn' hs) (wa := WL cy qa P' T S' nw' hz' ak pa wt cd ln ao (vp_updL ov (0 : Int32).toNatClampNeg r.toInt64)) (wb := []) (wc := WM cy q 0 z' sv' sn' sp bf ty gn' hs) (w1 := WM cy q 0 z' sv' sn' sp bf ty gn' hs) (rest := []) (As := []) hF (kX4_thrown l D cy q _ 0 z' sv' sn' sp bf ty gn' hs 0 rfl) (cwV 0 hts (pw_gVt (own := RL) (idx := 80) (C := RX4) (y := yX4_thrown) aw_714 aw_715 aw_716 aw_6 aw_717) rfl rfl rfl pX4_thrown ⟨Nat.le_of_ble_eq_true rfl, Nat.le_of_ble_eq_true rfl⟩) 4 (RX4, TX4, 9) rfl rfl ⟨0, _, rfl⟩ hK hP hD hS hA (by rw [List.append_nil]) (by rw [List.append_nil]) rfl rfl hl.1 rfl (Nat.le_of_ble_eq_true rfl) dL_law_370 ⟨hR1, hR2⟩ (fun H locs hP hD hS => ?_)
      refine lv_iload hx hb dL_law_373 (lv_at hl 1 rfl) ?_
      refine lv_icmp_eq (tgt := 380) hx hb dL_law_375 (by decide) (fun _ => ?_) (fun c_ => absurd rfl c_)
      refine lv_iload hx hb dL_law_380 (lv_at hl 1 rfl) ?_
      refine lv_if_ne (tgt := 397) hx hb dL_law_382 (by decide) (fun c_ => absurd rfl c_) (fun _ => ?_)
      refine lv_aload_n hx hb dL_law_385 rfl (lv_at hl 5 rfl) ?_
      refine lv_iconst (v := 0) hx hb dL_law_386 (by decide) ?_
      refine va_lald hx hb hK hP 128 3 rfl rfl (pq_vp (by decide)) dL_law_387 ?_
      refine lv_iload hx hb dL_law_388 (lv_at hl 0 rfl) ?_
      refine lv_i2l (v := r.toInt64) hx hb dL_law_390 rfl ?_
      refine W.lcmp hx hb dL_law_391 ?_
      refine lv_if_eq (tgt := 397) hx hb dL_law_392 (by decide) (fun _ => ?_) (fun c_ => absurd ((lg_cmp_eq _ _).mpr rfl) c_)
      refine lv_goto (tgt := 1284) hx hb dL_law_397 (by decide) ?_
      exact kk P' T S' nw' hz' ak pa wt cd ln (vp_updL ov (0 : Int32).toNatClampNeg r.toInt64) 0 z' sv' sn' sp bf ty gn' hs H locs ls RA1 hP hD hS ⟨hl.1, hl.2.1, fun x hx9 => hl.2.2 x (List.mem_cons_of_mem _ (List.mem_cons_of_mem _ hx9))⟩
set_option maxHeartbeats 8000000 in
set_option maxRecDepth 100000 in
theorem kA_sicken {p : Program} {e : Env} {s : State} {m : MethodId} {args : Array Value} {below : List Frame} {meth : Method} {c : Code} (l : Launch) (hfl : l.stackTraces = false) {D : va_G} {cy : Nat → ClassId} {qa : Nat → Nat → Nat} {q : Nat → Nat} {A : Nat → Prop} {b L k ao : Nat} {xs : Nat → Int32} (hx : p.tables.exec = Jvm.exec) (hb : c.code = cL_law) (hF : CallFix p m c cL_law 9 s args pw_all RL) (hK : va_K D vwCl (pw_tys cy) s) (hE : pw_E A s s.heap) (hA : ∀ q : Nat, s.heap.size ≤ q → A q) (hX : va_X b L xs s s.heap) (hbl : b < s.heap.size) (hbA : ¬ A b) (hL : L ≤ 1536) (hk : k + 2 < L) {P T : Nat → Nat → Int32} {S : Nat → Nat → Nat → Int32} {nw hz : Int32} {ak pa wt cd : Nat → Int32} {ln : Int32} {ov : Nat → Int64} {th : Int32} {z sv : Nat → Int32} {sn : Int32} {sp bf : Nat → Int32} {ty : Int32} {gn : Nat → Int32} {hs : Int64} (RAh : RA P S nw hz cd ln z sv sn bf ty) {H : Heap} {locs : List Loc} {ls : Array Slot} {cells slots : Nat} {Q : State → Prop} (hP : va_P D vwCl (WL cy qa P T S nw hz ak pa wt cd ln ao ov ++ WM cy q th z sv sn sp bf ty gn hs) H) (hD : va_D A (WL cy qa P T S nw hz ak pa wt cd ln ao ov ++ WM cy q th z sv sn sp bf ty gn hs)) (hS : va_S A s.heap H locs) (hl : lv_has ls 9 [(0, .ref b), (1, .ref (qa 0 0)), (2, .ref (q 0)), (3, .ref ao), (4, .int (Int32.ofNat k))]) (hR1 : cells + 1 ≤ room_1.cells) (hR2 : slots + 6 ≤ room_1.slots) (kk : ∀ (P T : Nat → Nat → Int32) (S : Nat → Nat → Nat → Int32) (nw hz : Int32) (ak pa wt cd : Nat → Int32) (ln : Int32) (ov : Nat → Int64) (th : Int32) (z sv : Nat → Int32) (sn : Int32) (sp bf : Nat → Int32) (ty : Int32) (gn : Nat → Int32) (hs : Int64) (H : Heap) (locs : List Loc) (ls : Array Slot), RA P S nw hz cd ln z sv sn bf ty → va_P D vwCl (WL cy qa P T S nw hz ak pa wt cd ln ao ov ++ WM cy q th z sv sn sp bf ty gn hs) H → va_D A (WL cy qa P T S nw hz ak pa wt cd ln ao ov ++ WM cy q th z sv sn sp bf ty gn hs) → va_S A s.heap H locs → lv_has ls 9 [(0, .ref b), (1, .ref (qa 0 0)), (2, .ref (q 0)), (3, .ref ao), (4, .int (Int32.ofNat k))] → W p l e room_1 s m args below meth c H locs (cells + 1) (slots + 6) Q (F0 m 1284 ls [])) : W p l e room_1 s m args below meth c H locs cells slots Q (F0 m 400 ls []) := by
  have h1i : vp_in (Int32.ofNat k + 1) L := pw_ix1 hL hk
  have h2i : vp_in (Int32.ofNat k + 2) L := pw_ix2 hL hk
  have hts := hF.2.2.2.2
  rcases c_sicken RAh (xs (Int32.ofNat k + 1).toNatClampNeg) th gn with (⟨h3, h4⟩ | ⟨h3, h4⟩) | ⟨r, P', S', nw', hz', z', sv', sn', gn', h3, h4, RA1⟩
  · skip
    refine lv_aload_n hx hb dL_law_400 rfl (lv_at hl 1 rfl) ?_
    refine lv_aload_n hx hb dL_law_401 rfl (lv_at hl 0 rfl) ?_
    refine lv_iload hx hb dL_law_402 (lv_at hl 4 rfl) ?_
    refine lv_iconst (v := 1) hx hb dL_law_404 (by decide) ?_
    refine lv_iadd hx hb dL_law_405 ?_
    refine va_sld hx hb hX hbl hbA hS h1i dL_law_406 ?_
    refine lv_aload_n hx hb dL_law_407 rfl (lv_at hl 3 rfl) ?_
    refine pw_lcall (r := 1) (ws0 := WL cy qa P T S nw hz ak pa wt cd ln ao ov ++ WM cy q th z sv sn sp bf ty gn hs) (ws1 := WL cy qa P T S nw hz ak pa wt cd ln ao ov ++ WM cy q th z sv sn sp bf ty gn hs) (wa := []) (wb := WM cy q th z sv sn sp bf ty gn hs) (wc := WL cy qa P T S nw hz ak pa wt cd ln ao ov) (w1 := WL cy qa P T S nw hz ak pa wt cd ln ao ov) (rest := []) (As := [.ref (qa 0 0), .int (xs (Int32.ofNat k + 1).toNatClampNeg), .ref ao]) hF (kL_sicken_t1 l hfl D cy qa _ P T S nw hz ak pa wt cd ln ao ov (xs (Int32.ofNat k + 1).toNatClampNeg) h3) (vx_cwSW 3 hts (pw_gSW aw_519 aw_520 aw_0 aw_521) rfl rfl rfl pL_sicken ⟨Nat.le_of_ble_eq_true rfl, Nat.le_of_ble_eq_true rfl⟩) hK hP hD hS hA hE rfl rfl rfl rfl hl.1 rfl (Nat.le_of_ble_eq_true rfl) dL_law_408 ⟨by omega, by omega⟩ (fun H locs hP hD hS => ?_)
    refine lv_istore (lv' := [(5, .int 1), (0, .ref b), (1, .ref (qa 0 0)), (2, .ref (q 0)), (3, .ref ao), (4, .int (Int32.ofNat k))]) hx hb dL_law_411 hl (by decide) rfl (fun ls hl => ?_)
    refine lv_aload_n hx hb dL_law_413 rfl (lv_at hl 3 rfl) ?_
    refine lv_aload_n hx hb dL_law_414 rfl (lv_at hl 1 rfl) ?_
    refine lv_iload hx hb dL_law_415 (lv_at hl 5 rfl) ?_
    refine lv_iconst (v := 1) hx hb dL_law_417 (by decide) ?_
    refine lv_iadd hx hb dL_law_418 ?_
    refine va_sld hx hb hX hbl hbA hS h1i dL_law_419 ?_
    refine pw_fi (r := 0) (ws0 := WL cy qa P T S nw hz ak pa wt cd ln ao ov ++ WM cy q th z sv sn sp bf ty gn hs) (ws1 := WL cy qa P T S nw hz ak pa wt cd ln ao ov ++ WM cy q 1 z sv sn sp bf ty gn hs) (wa := WL cy qa P T S nw hz ak pa wt cd ln ao ov) (wb := []) (wc := WM cy q th z sv sn sp bf ty gn hs) (w1 := WM cy q 1 z sv sn sp bf ty gn hs) (rest := []) (As := [.int (xs (Int32.ofNat k + 1).toNatClampNeg)]) hF (kX4_sicken l D cy q _ th z sv sn sp bf ty gn hs (xs (Int32.ofNat k + 1).toNatClampNeg) (0, 1, z, sv, sn, gn) h4) (cwV 1 hts (pw_gVt (own := RL) (idx := 95) (C := RX4) (y := yX4_sicken) aw_851 aw_852 aw_853 aw_6 aw_854) rfl rfl rfl pX4_sicken ⟨Nat.le_of_ble_eq_true rfl, Nat.le_of_ble_eq_true rfl⟩) 4 (RX4, TX4, 9) rfl rfl ⟨0, _, rfl⟩ hK hP hD hS hA (by rw [List.append_nil]) (by rw [List.append_nil]) rfl rfl hl.1 rfl (Nat.le_of_ble_eq_true rfl) dL_law_420 ⟨hR1, hR2⟩ (fun H locs hP hD hS => ?_)
    refine lv_istore (lv' := [(6, .int 0), (5, .int 1), (0, .ref b), (1, .ref (qa 0 0)), (2, .ref (q 0)), (3, .ref ao), (4, .int (Int32.ofNat k))]) hx hb dL_law_423 hl (by decide) rfl (fun ls hl => ?_)
    refine lv_aload_n hx hb dL_law_425 rfl (lv_at hl 4 rfl) ?_
    refine pw_fi (r := 1) (ws0 := WL cy qa P T S nw hz ak pa wt cd ln ao ov ++ WM cy q 1 z sv sn sp bf ty gn hs) (ws1 := WL cy qa P T S nw hz ak pa wt cd ln ao ov ++ WM cy q 1 z sv sn sp bf ty gn hs) (wa := WL cy qa P T S nw hz ak pa wt cd ln ao ov) (wb := []) (wc := WM cy q 1 z sv sn sp bf ty gn hs) (w1 := WM cy q 1 z sv sn sp bf ty gn hs) (rest := []) (As := []) hF (kX4_thrown l D cy q _ 1 z sv sn sp bf ty gn hs 1 rfl) (cwV 0 hts (pw_gVt (own := RL) (idx := 80) (C := RX4) (y := yX4_thrown) aw_714 aw_715 aw_716 aw_6 aw_717) rfl rfl rfl pX4_thrown ⟨Nat.le_of_ble_eq_true rfl, Nat.le_of_ble_eq_true rfl⟩) 4 (RX4, TX4, 9) rfl rfl ⟨0, _, rfl⟩ hK hP hD hS hA (by rw [List.append_nil]) (by rw [List.append_nil]) rfl rfl hl.1 rfl (Nat.le_of_ble_eq_true rfl) dL_law_426 ⟨hR1, hR2⟩ (fun H locs hP hD hS => ?_)
    refine lv_iload hx hb dL_law_429 (lv_at hl 1 rfl) ?_
    refine lv_icmp_eq (tgt := 436) hx hb dL_law_431 (by decide) (fun _ => ?_) (fun c_ => absurd rfl c_)
    refine lv_iload hx hb dL_law_436 (lv_at hl 1 rfl) ?_
    refine lv_if_ne (tgt := 453) hx hb dL_law_438 (by decide) (fun _ => ?_) (fun c_ => absurd c_ (by decide))
    refine lv_goto (tgt := 1284) hx hb dL_law_453 (by decide) ?_
    exact kk P T S nw hz ak pa wt cd ln ov 1 z sv sn sp bf ty gn hs H locs ls RAh hP hD hS ⟨hl.1, hl.2.1, fun x hx9 => hl.2.2 x (List.mem_cons_of_mem _ (List.mem_cons_of_mem _ hx9))⟩
  · skip
    refine lv_aload_n hx hb dL_law_400 rfl (lv_at hl 1 rfl) ?_
    refine lv_aload_n hx hb dL_law_401 rfl (lv_at hl 0 rfl) ?_
    refine lv_iload hx hb dL_law_402 (lv_at hl 4 rfl) ?_
    refine lv_iconst (v := 1) hx hb dL_law_404 (by decide) ?_
    refine lv_iadd hx hb dL_law_405 ?_
    refine va_sld hx hb hX hbl hbA hS h1i dL_law_406 ?_
    refine lv_aload_n hx hb dL_law_407 rfl (lv_at hl 3 rfl) ?_
    refine pw_lcall (r := 2) (ws0 := WL cy qa P T S nw hz ak pa wt cd ln ao ov ++ WM cy q th z sv sn sp bf ty gn hs) (ws1 := WL cy qa P T S nw hz ak pa wt cd ln ao ov ++ WM cy q th z sv sn sp bf ty gn hs) (wa := []) (wb := WM cy q th z sv sn sp bf ty gn hs) (wc := WL cy qa P T S nw hz ak pa wt cd ln ao ov) (w1 := WL cy qa P T S nw hz ak pa wt cd ln ao ov) (rest := []) (As := [.ref (qa 0 0), .int (xs (Int32.ofNat k + 1).toNatClampNeg), .ref ao]) hF (kL_sicken_t2 l hfl D cy qa _ P T S nw hz ak pa wt cd ln ao ov (xs (Int32.ofNat k + 1).toNatClampNeg) h3) (vx_cwSW 3 hts (pw_gSW aw_519 aw_520 aw_0 aw_521) rfl rfl rfl pL_sicken ⟨Nat.le_of_ble_eq_true rfl, Nat.le_of_ble_eq_true rfl⟩) hK hP hD hS hA hE rfl rfl rfl rfl hl.1 rfl (Nat.le_of_ble_eq_true rfl) dL_law_408 ⟨by omega, by omega⟩ (fun H locs hP hD hS => ?_)
    refine lv_istore (lv' := [(5, .int 2), (0, .ref b), (1, .ref (qa 0 0)), (2, .ref (q 0)), (3, .ref ao), (4, .int (Int32.ofNat k))]) hx hb dL_law_411 hl (by decide) rfl (fun ls hl => ?_)
    refine lv_aload_n hx hb dL_law_413 rfl (lv_at hl 3 rfl) ?_
    refine lv_aload_n hx hb dL_law_414 rfl (lv_at hl 1 rfl) ?_
    refine lv_iload hx hb dL_law_415 (lv_at hl 5 rfl) ?_
    refine lv_iconst (v := 1) hx hb dL_law_417 (by decide) ?_
    refine lv_iadd hx hb dL_law_418 ?_
    refine va_sld hx hb hX hbl hbA hS h1i dL_law_419 ?_
    refine pw_fi (r := 0) (ws0 := WL cy qa P T S nw hz ak pa wt cd ln ao ov ++ WM cy q th z sv sn sp bf ty gn hs) (ws1 := WL cy qa P T S nw hz ak pa wt cd ln ao ov ++ WM cy q 2 z sv sn sp bf ty gn hs) (wa := WL cy qa P T S nw hz ak pa wt cd ln ao ov) (wb := []) (wc := WM cy q th z sv sn sp bf ty gn hs) (w1 := WM cy q 2 z sv sn sp bf ty gn hs) (rest := []) (As := [.int (xs (Int32.ofNat k + 1).toNatClampNeg)]) hF (kX4_sicken l D cy q _ th z sv sn sp bf ty gn hs (xs (Int32.ofNat k + 1).toNatClampNeg) (0, 2, z, sv, sn, gn) h4) (cwV 1 hts (pw_gVt (own := RL) (idx := 95) (C := RX4) (y := yX4_sicken) aw_851 aw_852 aw_853 aw_6 aw_854) rfl rfl rfl pX4_sicken ⟨Nat.le_of_ble_eq_true rfl, Nat.le_of_ble_eq_true rfl⟩) 4 (RX4, TX4, 9) rfl rfl ⟨0, _, rfl⟩ hK hP hD hS hA (by rw [List.append_nil]) (by rw [List.append_nil]) rfl rfl hl.1 rfl (Nat.le_of_ble_eq_true rfl) dL_law_420 ⟨hR1, hR2⟩ (fun H locs hP hD hS => ?_)
    refine lv_istore (lv' := [(6, .int 0), (5, .int 2), (0, .ref b), (1, .ref (qa 0 0)), (2, .ref (q 0)), (3, .ref ao), (4, .int (Int32.ofNat k))]) hx hb dL_law_423 hl (by decide) rfl (fun ls hl => ?_)
    refine lv_aload_n hx hb dL_law_425 rfl (lv_at hl 4 rfl) ?_
    refine pw_fi (r := 2) (ws0 := WL cy qa P T S nw hz ak pa wt cd ln ao ov ++ WM cy q 2 z sv sn sp bf ty gn hs) (ws1 := WL cy qa P T S nw hz ak pa wt cd ln ao ov ++ WM cy q 2 z sv sn sp bf ty gn hs) (wa := WL cy qa P T S nw hz ak pa wt cd ln ao ov) (wb := []) (wc := WM cy q 2 z sv sn sp bf ty gn hs) (w1 := WM cy q 2 z sv sn sp bf ty gn hs) (rest := []) (As := []) hF (kX4_thrown l D cy q _ 2 z sv sn sp bf ty gn hs 2 rfl) (cwV 0 hts (pw_gVt (own := RL) (idx := 80) (C := RX4) (y := yX4_thrown) aw_714 aw_715 aw_716 aw_6 aw_717) rfl rfl rfl pX4_thrown ⟨Nat.le_of_ble_eq_true rfl, Nat.le_of_ble_eq_true rfl⟩) 4 (RX4, TX4, 9) rfl rfl ⟨0, _, rfl⟩ hK hP hD hS hA (by rw [List.append_nil]) (by rw [List.append_nil]) rfl rfl hl.1 rfl (Nat.le_of_ble_eq_true rfl) dL_law_426 ⟨hR1, hR2⟩ (fun H locs hP hD hS => ?_)
    refine lv_iload hx hb dL_law_429 (lv_at hl 1 rfl) ?_
    refine lv_icmp_eq (tgt := 436) hx hb dL_law_431 (by decide) (fun _ => ?_) (fun c_ => absurd rfl c_)
    refine lv_iload hx hb dL_law_436 (lv_at hl 1 rfl) ?_
    refine lv_if_ne (tgt := 453) hx hb dL_law_438 (by decide) (fun _ => ?_) (fun c_ => absurd c_ (by decide))
    refine lv_goto (tgt := 1284) hx hb dL_law_453 (by decide) ?_
    exact kk P T S nw hz ak pa wt cd ln ov 2 z sv sn sp bf ty gn hs H locs ls RAh hP hD hS ⟨hl.1, hl.2.1, fun x hx9 => hl.2.2 x (List.mem_cons_of_mem _ (List.mem_cons_of_mem _ hx9))⟩
  · skip
    refine lv_aload_n hx hb dL_law_400 rfl (lv_at hl 1 rfl) ?_
    refine lv_aload_n hx hb dL_law_401 rfl (lv_at hl 0 rfl) ?_
    refine lv_iload hx hb dL_law_402 (lv_at hl 4 rfl) ?_
    refine lv_iconst (v := 1) hx hb dL_law_404 (by decide) ?_
    refine lv_iadd hx hb dL_law_405 ?_
    refine va_sld hx hb hX hbl hbA hS h1i dL_law_406 ?_
    refine lv_aload_n hx hb dL_law_407 rfl (lv_at hl 3 rfl) ?_
    refine pw_lcall (r := 0) (ws0 := WL cy qa P T S nw hz ak pa wt cd ln ao ov ++ WM cy q th z sv sn sp bf ty gn hs) (ws1 := WL cy qa P' T S' nw' hz' ak pa wt cd ln ao (vp_updL ov (0 : Int32).toNatClampNeg r.toInt64) ++ WM cy q th z sv sn sp bf ty gn hs) (wa := []) (wb := WM cy q th z sv sn sp bf ty gn hs) (wc := WL cy qa P T S nw hz ak pa wt cd ln ao ov) (w1 := WL cy qa P' T S' nw' hz' ak pa wt cd ln ao (vp_updL ov (0 : Int32).toNatClampNeg r.toInt64)) (rest := []) (As := [.ref (qa 0 0), .int (xs (Int32.ofNat k + 1).toNatClampNeg), .ref ao]) hF (kL_sicken_r l hfl D cy qa _ P T S nw hz ak pa wt cd ln ao ov (xs (Int32.ofNat k + 1).toNatClampNeg) (r, P', S', nw', hz') h3) (vx_cwSW 3 hts (pw_gSW aw_519 aw_520 aw_0 aw_521) rfl rfl rfl pL_sicken ⟨Nat.le_of_ble_eq_true rfl, Nat.le_of_ble_eq_true rfl⟩) hK hP hD hS hA hE rfl rfl rfl rfl hl.1 rfl (Nat.le_of_ble_eq_true rfl) dL_law_408 ⟨by omega, by omega⟩ (fun H locs hP hD hS => ?_)
    refine W.widen (k := cells + 1) (n := slots + 6) (by omega) (by omega) ?_
    refine lv_istore (lv' := [(5, .int 0), (0, .ref b), (1, .ref (qa 0 0)), (2, .ref (q 0)), (3, .ref ao), (4, .int (Int32.ofNat k))]) hx hb dL_law_411 hl (by decide) rfl (fun ls hl => ?_)
    refine lv_aload_n hx hb dL_law_413 rfl (lv_at hl 3 rfl) ?_
    refine lv_aload_n hx hb dL_law_414 rfl (lv_at hl 1 rfl) ?_
    refine lv_iload hx hb dL_law_415 (lv_at hl 5 rfl) ?_
    refine lv_iconst (v := 1) hx hb dL_law_417 (by decide) ?_
    refine lv_iadd hx hb dL_law_418 ?_
    refine va_sld hx hb hX hbl hbA hS h1i dL_law_419 ?_
    refine pw_fi (r := r) (ws0 := WL cy qa P' T S' nw' hz' ak pa wt cd ln ao (vp_updL ov (0 : Int32).toNatClampNeg r.toInt64) ++ WM cy q th z sv sn sp bf ty gn hs) (ws1 := WL cy qa P' T S' nw' hz' ak pa wt cd ln ao (vp_updL ov (0 : Int32).toNatClampNeg r.toInt64) ++ WM cy q 0 z' sv' sn' sp bf ty gn' hs) (wa := WL cy qa P' T S' nw' hz' ak pa wt cd ln ao (vp_updL ov (0 : Int32).toNatClampNeg r.toInt64)) (wb := []) (wc := WM cy q th z sv sn sp bf ty gn hs) (w1 := WM cy q 0 z' sv' sn' sp bf ty gn' hs) (rest := []) (As := [.int (xs (Int32.ofNat k + 1).toNatClampNeg)]) hF (kX4_sicken l D cy q _ th z sv sn sp bf ty gn hs (xs (Int32.ofNat k + 1).toNatClampNeg) (r, 0, z', sv', sn', gn') h4) (cwV 1 hts (pw_gVt (own := RL) (idx := 95) (C := RX4) (y := yX4_sicken) aw_851 aw_852 aw_853 aw_6 aw_854) rfl rfl rfl pX4_sicken ⟨Nat.le_of_ble_eq_true rfl, Nat.le_of_ble_eq_true rfl⟩) 4 (RX4, TX4, 9) rfl rfl ⟨0, _, rfl⟩ hK hP hD hS hA (by rw [List.append_nil]) (by rw [List.append_nil]) rfl rfl hl.1 rfl (Nat.le_of_ble_eq_true rfl) dL_law_420 ⟨hR1, hR2⟩ (fun H locs hP hD hS => ?_)
    refine lv_istore (lv' := [(6, .int r), (5, .int 0), (0, .ref b), (1, .ref (qa 0 0)), (2, .ref (q 0)), (3, .ref ao), (4, .int (Int32.ofNat k))]) hx hb dL_law_423 hl (by decide) rfl (fun ls hl => ?_)
    refine lv_aload_n hx hb dL_law_425 rfl (lv_at hl 4 rfl) ?_
    refine pw_fi (r := 0) (ws0 := WL cy qa P' T S' nw' hz' ak pa wt cd ln ao (vp_updL ov (0 : Int32).toNatClampNeg r.toInt64) ++ WM cy q 0 z' sv' sn' sp bf ty gn' hs) (ws1 := WL cy qa P' T S' nw' hz' ak pa wt cd ln ao (vp_updL ov (0 : Int32).toNatClampNeg r.toInt64) ++ WM cy q 0 z' sv' sn' sp bf ty gn' hs) (wa := WL cy qa P' T S' nw' hz' ak pa wt cd ln ao (vp_updL ov (0 : Int32).toNatClampNeg r.toInt64)) (wb := []) (wc := WM cy q 0 z' sv' sn' sp bf ty gn' hs) (w1 := WM cy q 0 z' sv' sn' sp bf ty gn' hs) (rest := []) (As := []) hF (kX4_thrown l D cy q _ 0 z' sv' sn' sp bf ty gn' hs 0 rfl) (cwV 0 hts (pw_gVt (own := RL) (idx := 80) (C := RX4) (y := yX4_thrown) aw_714 aw_715 aw_716 aw_6 aw_717) rfl rfl rfl pX4_thrown ⟨Nat.le_of_ble_eq_true rfl, Nat.le_of_ble_eq_true rfl⟩) 4 (RX4, TX4, 9) rfl rfl ⟨0, _, rfl⟩ hK hP hD hS hA (by rw [List.append_nil]) (by rw [List.append_nil]) rfl rfl hl.1 rfl (Nat.le_of_ble_eq_true rfl) dL_law_426 ⟨hR1, hR2⟩ (fun H locs hP hD hS => ?_)
    refine lv_iload hx hb dL_law_429 (lv_at hl 1 rfl) ?_
    refine lv_icmp_eq (tgt := 436) hx hb dL_law_431 (by decide) (fun _ => ?_) (fun c_ => absurd rfl c_)
    refine lv_iload hx hb dL_law_436 (lv_at hl 1 rfl) ?_
    refine lv_if_ne (tgt := 453) hx hb dL_law_438 (by decide) (fun c_ => absurd rfl c_) (fun _ => ?_)
    refine lv_aload_n hx hb dL_law_441 rfl (lv_at hl 5 rfl) ?_
    refine lv_iconst (v := 0) hx hb dL_law_442 (by decide) ?_
    refine va_lald hx hb hK hP 128 3 rfl rfl (pq_vp (by decide)) dL_law_443 ?_
    refine lv_iload hx hb dL_law_444 (lv_at hl 0 rfl) ?_
    refine lv_i2l (v := r.toInt64) hx hb dL_law_446 rfl ?_
    refine W.lcmp hx hb dL_law_447 ?_
    refine lv_if_eq (tgt := 453) hx hb dL_law_448 (by decide) (fun _ => ?_) (fun c_ => absurd ((lg_cmp_eq _ _).mpr rfl) c_)
    refine lv_goto (tgt := 1284) hx hb dL_law_453 (by decide) ?_
    exact kk P' T S' nw' hz' ak pa wt cd ln (vp_updL ov (0 : Int32).toNatClampNeg r.toInt64) 0 z' sv' sn' sp bf ty gn' hs H locs ls RA1 hP hD hS ⟨hl.1, hl.2.1, fun x hx9 => hl.2.2 x (List.mem_cons_of_mem _ (List.mem_cons_of_mem _ hx9))⟩
set_option maxHeartbeats 8000000 in
set_option maxRecDepth 100000 in
theorem kA_set {p : Program} {e : Env} {s : State} {m : MethodId} {args : Array Value} {below : List Frame} {meth : Method} {c : Code} (l : Launch) (hfl : l.stackTraces = false) {D : va_G} {cy : Nat → ClassId} {qa : Nat → Nat → Nat} {q : Nat → Nat} {A : Nat → Prop} {b L k ao : Nat} {xs : Nat → Int32} (hx : p.tables.exec = Jvm.exec) (hb : c.code = cL_law) (hF : CallFix p m c cL_law 9 s args pw_all RL) (hK : va_K D vwCl (pw_tys cy) s) (hE : pw_E A s s.heap) (hA : ∀ q : Nat, s.heap.size ≤ q → A q) (hX : va_X b L xs s s.heap) (hbl : b < s.heap.size) (hbA : ¬ A b) (hL : L ≤ 1536) (hk : k + 2 < L) {P T : Nat → Nat → Int32} {S : Nat → Nat → Nat → Int32} {nw hz : Int32} {ak pa wt cd : Nat → Int32} {ln : Int32} {ov : Nat → Int64} {th : Int32} {z sv : Nat → Int32} {sn : Int32} {sp bf : Nat → Int32} {ty : Int32} {gn : Nat → Int32} {hs : Int64} (RAh : RA P S nw hz cd ln z sv sn bf ty) {H : Heap} {locs : List Loc} {ls : Array Slot} {cells slots : Nat} {Q : State → Prop} (hP : va_P D vwCl (WL cy qa P T S nw hz ak pa wt cd ln ao ov ++ WM cy q th z sv sn sp bf ty gn hs) H) (hD : va_D A (WL cy qa P T S nw hz ak pa wt cd ln ao ov ++ WM cy q th z sv sn sp bf ty gn hs)) (hS : va_S A s.heap H locs) (hl : lv_has ls 9 [(0, .ref b), (1, .ref (qa 0 0)), (2, .ref (q 0)), (3, .ref ao), (4, .int (Int32.ofNat k))]) (hR1 : cells + 1 ≤ room_1.cells) (hR2 : slots + 6 ≤ room_1.slots) (kk : ∀ (P T : Nat → Nat → Int32) (S : Nat → Nat → Nat → Int32) (nw hz : Int32) (ak pa wt cd : Nat → Int32) (ln : Int32) (ov : Nat → Int64) (th : Int32) (z sv : Nat → Int32) (sn : Int32) (sp bf : Nat → Int32) (ty : Int32) (gn : Nat → Int32) (hs : Int64) (H : Heap) (locs : List Loc) (ls : Array Slot), RA P S nw hz cd ln z sv sn bf ty → va_P D vwCl (WL cy qa P T S nw hz ak pa wt cd ln ao ov ++ WM cy q th z sv sn sp bf ty gn hs) H → va_D A (WL cy qa P T S nw hz ak pa wt cd ln ao ov ++ WM cy q th z sv sn sp bf ty gn hs) → va_S A s.heap H locs → lv_has ls 9 [(0, .ref b), (1, .ref (qa 0 0)), (2, .ref (q 0)), (3, .ref ao), (4, .int (Int32.ofNat k))] → W p l e room_1 s m args below meth c H locs (cells + 1) (slots + 6) Q (F0 m 1284 ls [])) : W p l e room_1 s m args below meth c H locs cells slots Q (F0 m 482 ls []) := by
  have h1i : vp_in (Int32.ofNat k + 1) L := pw_ix1 hL hk
  have h2i : vp_in (Int32.ofNat k + 2) L := pw_ix2 hL hk
  have hts := hF.2.2.2.2
  rcases c_set RAh (xs (Int32.ofNat k + 1).toNatClampNeg) (xs (Int32.ofNat k + 2).toNatClampNeg) th gn with (⟨h3, h4⟩ | ⟨h3, h4⟩) | ⟨r, P', S', nw', hz', z', sv', sn', gn', h3, h4, RA1⟩
  · skip
    refine lv_aload_n hx hb dL_law_482 rfl (lv_at hl 1 rfl) ?_
    refine lv_aload_n hx hb dL_law_483 rfl (lv_at hl 0 rfl) ?_
    refine lv_iload hx hb dL_law_484 (lv_at hl 4 rfl) ?_
    refine lv_iconst (v := 1) hx hb dL_law_486 (by decide) ?_
    refine lv_iadd hx hb dL_law_487 ?_
    refine va_sld hx hb hX hbl hbA hS h1i dL_law_488 ?_
    refine lv_aload_n hx hb dL_law_489 rfl (lv_at hl 0 rfl) ?_
    refine lv_iload hx hb dL_law_490 (lv_at hl 4 rfl) ?_
    refine lv_iconst (v := 2) hx hb dL_law_492 (by decide) ?_
    refine lv_iadd hx hb dL_law_493 ?_
    refine va_sld hx hb hX hbl hbA hS h2i dL_law_494 ?_
    refine lv_aload_n hx hb dL_law_495 rfl (lv_at hl 3 rfl) ?_
    refine pw_lcall (r := 1) (ws0 := WL cy qa P T S nw hz ak pa wt cd ln ao ov ++ WM cy q th z sv sn sp bf ty gn hs) (ws1 := WL cy qa P T S nw hz ak pa wt cd ln ao ov ++ WM cy q th z sv sn sp bf ty gn hs) (wa := []) (wb := WM cy q th z sv sn sp bf ty gn hs) (wc := WL cy qa P T S nw hz ak pa wt cd ln ao ov) (w1 := WL cy qa P T S nw hz ak pa wt cd ln ao ov) (rest := []) (As := [.ref (qa 0 0), .int (xs (Int32.ofNat k + 1).toNatClampNeg), .int (xs (Int32.ofNat k + 2).toNatClampNeg), .ref ao]) hF (kL_set_t1 l hfl D cy qa _ P T S nw hz ak pa wt cd ln ao ov (xs (Int32.ofNat k + 1).toNatClampNeg) (xs (Int32.ofNat k + 2).toNatClampNeg) h3) (vx_cwSW 4 hts (pw_gSW aw_532 aw_533 aw_0 aw_534) rfl rfl rfl pL_set ⟨Nat.le_of_ble_eq_true rfl, Nat.le_of_ble_eq_true rfl⟩) hK hP hD hS hA hE rfl rfl rfl rfl hl.1 rfl (Nat.le_of_ble_eq_true rfl) dL_law_496 ⟨by omega, by omega⟩ (fun H locs hP hD hS => ?_)
    refine lv_istore (lv' := [(5, .int 1), (0, .ref b), (1, .ref (qa 0 0)), (2, .ref (q 0)), (3, .ref ao), (4, .int (Int32.ofNat k))]) hx hb dL_law_499 hl (by decide) rfl (fun ls hl => ?_)
    refine lv_aload_n hx hb dL_law_501 rfl (lv_at hl 3 rfl) ?_
    refine lv_aload_n hx hb dL_law_502 rfl (lv_at hl 1 rfl) ?_
    refine lv_iload hx hb dL_law_503 (lv_at hl 5 rfl) ?_
    refine lv_iconst (v := 1) hx hb dL_law_505 (by decide) ?_
    refine lv_iadd hx hb dL_law_506 ?_
    refine va_sld hx hb hX hbl hbA hS h1i dL_law_507 ?_
    refine lv_aload_n hx hb dL_law_508 rfl (lv_at hl 1 rfl) ?_
    refine lv_iload hx hb dL_law_509 (lv_at hl 5 rfl) ?_
    refine lv_iconst (v := 2) hx hb dL_law_511 (by decide) ?_
    refine lv_iadd hx hb dL_law_512 ?_
    refine va_sld hx hb hX hbl hbA hS h2i dL_law_513 ?_
    refine pw_fi (r := 0) (ws0 := WL cy qa P T S nw hz ak pa wt cd ln ao ov ++ WM cy q th z sv sn sp bf ty gn hs) (ws1 := WL cy qa P T S nw hz ak pa wt cd ln ao ov ++ WM cy q 1 z sv sn sp bf ty gn hs) (wa := WL cy qa P T S nw hz ak pa wt cd ln ao ov) (wb := []) (wc := WM cy q th z sv sn sp bf ty gn hs) (w1 := WM cy q 1 z sv sn sp bf ty gn hs) (rest := []) (As := [.int (xs (Int32.ofNat k + 1).toNatClampNeg), .int (xs (Int32.ofNat k + 2).toNatClampNeg)]) hF (kX4_set l D cy q _ th z sv sn sp bf ty gn hs (xs (Int32.ofNat k + 1).toNatClampNeg) (xs (Int32.ofNat k + 2).toNatClampNeg) (0, 1, z, sv, sn, gn) h4) (cwV 2 hts (pw_gVt (own := RL) (idx := 107) (C := RX4) (y := yX4_set) aw_871 aw_872 aw_873 aw_6 aw_874) rfl rfl rfl pX4_set ⟨Nat.le_of_ble_eq_true rfl, Nat.le_of_ble_eq_true rfl⟩) 4 (RX4, TX4, 9) rfl rfl ⟨0, _, rfl⟩ hK hP hD hS hA (by rw [List.append_nil]) (by rw [List.append_nil]) rfl rfl hl.1 rfl (Nat.le_of_ble_eq_true rfl) dL_law_514 ⟨hR1, hR2⟩ (fun H locs hP hD hS => ?_)
    refine lv_istore (lv' := [(6, .int 0), (5, .int 1), (0, .ref b), (1, .ref (qa 0 0)), (2, .ref (q 0)), (3, .ref ao), (4, .int (Int32.ofNat k))]) hx hb dL_law_517 hl (by decide) rfl (fun ls hl => ?_)
    refine lv_aload_n hx hb dL_law_519 rfl (lv_at hl 4 rfl) ?_
    refine pw_fi (r := 1) (ws0 := WL cy qa P T S nw hz ak pa wt cd ln ao ov ++ WM cy q 1 z sv sn sp bf ty gn hs) (ws1 := WL cy qa P T S nw hz ak pa wt cd ln ao ov ++ WM cy q 1 z sv sn sp bf ty gn hs) (wa := WL cy qa P T S nw hz ak pa wt cd ln ao ov) (wb := []) (wc := WM cy q 1 z sv sn sp bf ty gn hs) (w1 := WM cy q 1 z sv sn sp bf ty gn hs) (rest := []) (As := []) hF (kX4_thrown l D cy q _ 1 z sv sn sp bf ty gn hs 1 rfl) (cwV 0 hts (pw_gVt (own := RL) (idx := 80) (C := RX4) (y := yX4_thrown) aw_714 aw_715 aw_716 aw_6 aw_717) rfl rfl rfl pX4_thrown ⟨Nat.le_of_ble_eq_true rfl, Nat.le_of_ble_eq_true rfl⟩) 4 (RX4, TX4, 9) rfl rfl ⟨0, _, rfl⟩ hK hP hD hS hA (by rw [List.append_nil]) (by rw [List.append_nil]) rfl rfl hl.1 rfl (Nat.le_of_ble_eq_true rfl) dL_law_520 ⟨hR1, hR2⟩ (fun H locs hP hD hS => ?_)
    refine lv_iload hx hb dL_law_523 (lv_at hl 1 rfl) ?_
    refine lv_icmp_eq (tgt := 530) hx hb dL_law_525 (by decide) (fun _ => ?_) (fun c_ => absurd rfl c_)
    refine lv_iload hx hb dL_law_530 (lv_at hl 1 rfl) ?_
    refine lv_if_ne (tgt := 547) hx hb dL_law_532 (by decide) (fun _ => ?_) (fun c_ => absurd c_ (by decide))
    refine lv_goto (tgt := 1284) hx hb dL_law_547 (by decide) ?_
    exact kk P T S nw hz ak pa wt cd ln ov 1 z sv sn sp bf ty gn hs H locs ls RAh hP hD hS ⟨hl.1, hl.2.1, fun x hx9 => hl.2.2 x (List.mem_cons_of_mem _ (List.mem_cons_of_mem _ hx9))⟩
  · skip
    refine lv_aload_n hx hb dL_law_482 rfl (lv_at hl 1 rfl) ?_
    refine lv_aload_n hx hb dL_law_483 rfl (lv_at hl 0 rfl) ?_
    refine lv_iload hx hb dL_law_484 (lv_at hl 4 rfl) ?_
    refine lv_iconst (v := 1) hx hb dL_law_486 (by decide) ?_
    refine lv_iadd hx hb dL_law_487 ?_
    refine va_sld hx hb hX hbl hbA hS h1i dL_law_488 ?_
    refine lv_aload_n hx hb dL_law_489 rfl (lv_at hl 0 rfl) ?_
    refine lv_iload hx hb dL_law_490 (lv_at hl 4 rfl) ?_
    refine lv_iconst (v := 2) hx hb dL_law_492 (by decide) ?_
    refine lv_iadd hx hb dL_law_493 ?_
    refine va_sld hx hb hX hbl hbA hS h2i dL_law_494 ?_
    refine lv_aload_n hx hb dL_law_495 rfl (lv_at hl 3 rfl) ?_
    refine pw_lcall (r := 2) (ws0 := WL cy qa P T S nw hz ak pa wt cd ln ao ov ++ WM cy q th z sv sn sp bf ty gn hs) (ws1 := WL cy qa P T S nw hz ak pa wt cd ln ao ov ++ WM cy q th z sv sn sp bf ty gn hs) (wa := []) (wb := WM cy q th z sv sn sp bf ty gn hs) (wc := WL cy qa P T S nw hz ak pa wt cd ln ao ov) (w1 := WL cy qa P T S nw hz ak pa wt cd ln ao ov) (rest := []) (As := [.ref (qa 0 0), .int (xs (Int32.ofNat k + 1).toNatClampNeg), .int (xs (Int32.ofNat k + 2).toNatClampNeg), .ref ao]) hF (kL_set_t3 l hfl D cy qa _ P T S nw hz ak pa wt cd ln ao ov (xs (Int32.ofNat k + 1).toNatClampNeg) (xs (Int32.ofNat k + 2).toNatClampNeg) h3) (vx_cwSW 4 hts (pw_gSW aw_532 aw_533 aw_0 aw_534) rfl rfl rfl pL_set ⟨Nat.le_of_ble_eq_true rfl, Nat.le_of_ble_eq_true rfl⟩) hK hP hD hS hA hE rfl rfl rfl rfl hl.1 rfl (Nat.le_of_ble_eq_true rfl) dL_law_496 ⟨by omega, by omega⟩ (fun H locs hP hD hS => ?_)
    refine lv_istore (lv' := [(5, .int 2), (0, .ref b), (1, .ref (qa 0 0)), (2, .ref (q 0)), (3, .ref ao), (4, .int (Int32.ofNat k))]) hx hb dL_law_499 hl (by decide) rfl (fun ls hl => ?_)
    refine lv_aload_n hx hb dL_law_501 rfl (lv_at hl 3 rfl) ?_
    refine lv_aload_n hx hb dL_law_502 rfl (lv_at hl 1 rfl) ?_
    refine lv_iload hx hb dL_law_503 (lv_at hl 5 rfl) ?_
    refine lv_iconst (v := 1) hx hb dL_law_505 (by decide) ?_
    refine lv_iadd hx hb dL_law_506 ?_
    refine va_sld hx hb hX hbl hbA hS h1i dL_law_507 ?_
    refine lv_aload_n hx hb dL_law_508 rfl (lv_at hl 1 rfl) ?_
    refine lv_iload hx hb dL_law_509 (lv_at hl 5 rfl) ?_
    refine lv_iconst (v := 2) hx hb dL_law_511 (by decide) ?_
    refine lv_iadd hx hb dL_law_512 ?_
    refine va_sld hx hb hX hbl hbA hS h2i dL_law_513 ?_
    refine pw_fi (r := 0) (ws0 := WL cy qa P T S nw hz ak pa wt cd ln ao ov ++ WM cy q th z sv sn sp bf ty gn hs) (ws1 := WL cy qa P T S nw hz ak pa wt cd ln ao ov ++ WM cy q 2 z sv sn sp bf ty gn hs) (wa := WL cy qa P T S nw hz ak pa wt cd ln ao ov) (wb := []) (wc := WM cy q th z sv sn sp bf ty gn hs) (w1 := WM cy q 2 z sv sn sp bf ty gn hs) (rest := []) (As := [.int (xs (Int32.ofNat k + 1).toNatClampNeg), .int (xs (Int32.ofNat k + 2).toNatClampNeg)]) hF (kX4_set l D cy q _ th z sv sn sp bf ty gn hs (xs (Int32.ofNat k + 1).toNatClampNeg) (xs (Int32.ofNat k + 2).toNatClampNeg) (0, 2, z, sv, sn, gn) h4) (cwV 2 hts (pw_gVt (own := RL) (idx := 107) (C := RX4) (y := yX4_set) aw_871 aw_872 aw_873 aw_6 aw_874) rfl rfl rfl pX4_set ⟨Nat.le_of_ble_eq_true rfl, Nat.le_of_ble_eq_true rfl⟩) 4 (RX4, TX4, 9) rfl rfl ⟨0, _, rfl⟩ hK hP hD hS hA (by rw [List.append_nil]) (by rw [List.append_nil]) rfl rfl hl.1 rfl (Nat.le_of_ble_eq_true rfl) dL_law_514 ⟨hR1, hR2⟩ (fun H locs hP hD hS => ?_)
    refine lv_istore (lv' := [(6, .int 0), (5, .int 2), (0, .ref b), (1, .ref (qa 0 0)), (2, .ref (q 0)), (3, .ref ao), (4, .int (Int32.ofNat k))]) hx hb dL_law_517 hl (by decide) rfl (fun ls hl => ?_)
    refine lv_aload_n hx hb dL_law_519 rfl (lv_at hl 4 rfl) ?_
    refine pw_fi (r := 2) (ws0 := WL cy qa P T S nw hz ak pa wt cd ln ao ov ++ WM cy q 2 z sv sn sp bf ty gn hs) (ws1 := WL cy qa P T S nw hz ak pa wt cd ln ao ov ++ WM cy q 2 z sv sn sp bf ty gn hs) (wa := WL cy qa P T S nw hz ak pa wt cd ln ao ov) (wb := []) (wc := WM cy q 2 z sv sn sp bf ty gn hs) (w1 := WM cy q 2 z sv sn sp bf ty gn hs) (rest := []) (As := []) hF (kX4_thrown l D cy q _ 2 z sv sn sp bf ty gn hs 2 rfl) (cwV 0 hts (pw_gVt (own := RL) (idx := 80) (C := RX4) (y := yX4_thrown) aw_714 aw_715 aw_716 aw_6 aw_717) rfl rfl rfl pX4_thrown ⟨Nat.le_of_ble_eq_true rfl, Nat.le_of_ble_eq_true rfl⟩) 4 (RX4, TX4, 9) rfl rfl ⟨0, _, rfl⟩ hK hP hD hS hA (by rw [List.append_nil]) (by rw [List.append_nil]) rfl rfl hl.1 rfl (Nat.le_of_ble_eq_true rfl) dL_law_520 ⟨hR1, hR2⟩ (fun H locs hP hD hS => ?_)
    refine lv_iload hx hb dL_law_523 (lv_at hl 1 rfl) ?_
    refine lv_icmp_eq (tgt := 530) hx hb dL_law_525 (by decide) (fun _ => ?_) (fun c_ => absurd rfl c_)
    refine lv_iload hx hb dL_law_530 (lv_at hl 1 rfl) ?_
    refine lv_if_ne (tgt := 547) hx hb dL_law_532 (by decide) (fun _ => ?_) (fun c_ => absurd c_ (by decide))
    refine lv_goto (tgt := 1284) hx hb dL_law_547 (by decide) ?_
    exact kk P T S nw hz ak pa wt cd ln ov 2 z sv sn sp bf ty gn hs H locs ls RAh hP hD hS ⟨hl.1, hl.2.1, fun x hx9 => hl.2.2 x (List.mem_cons_of_mem _ (List.mem_cons_of_mem _ hx9))⟩
  · skip
    refine lv_aload_n hx hb dL_law_482 rfl (lv_at hl 1 rfl) ?_
    refine lv_aload_n hx hb dL_law_483 rfl (lv_at hl 0 rfl) ?_
    refine lv_iload hx hb dL_law_484 (lv_at hl 4 rfl) ?_
    refine lv_iconst (v := 1) hx hb dL_law_486 (by decide) ?_
    refine lv_iadd hx hb dL_law_487 ?_
    refine va_sld hx hb hX hbl hbA hS h1i dL_law_488 ?_
    refine lv_aload_n hx hb dL_law_489 rfl (lv_at hl 0 rfl) ?_
    refine lv_iload hx hb dL_law_490 (lv_at hl 4 rfl) ?_
    refine lv_iconst (v := 2) hx hb dL_law_492 (by decide) ?_
    refine lv_iadd hx hb dL_law_493 ?_
    refine va_sld hx hb hX hbl hbA hS h2i dL_law_494 ?_
    refine lv_aload_n hx hb dL_law_495 rfl (lv_at hl 3 rfl) ?_
    refine pw_lcall (r := 0) (ws0 := WL cy qa P T S nw hz ak pa wt cd ln ao ov ++ WM cy q th z sv sn sp bf ty gn hs) (ws1 := WL cy qa P' T S' nw' hz' ak pa wt cd ln ao (vp_updL ov (0 : Int32).toNatClampNeg r.toInt64) ++ WM cy q th z sv sn sp bf ty gn hs) (wa := []) (wb := WM cy q th z sv sn sp bf ty gn hs) (wc := WL cy qa P T S nw hz ak pa wt cd ln ao ov) (w1 := WL cy qa P' T S' nw' hz' ak pa wt cd ln ao (vp_updL ov (0 : Int32).toNatClampNeg r.toInt64)) (rest := []) (As := [.ref (qa 0 0), .int (xs (Int32.ofNat k + 1).toNatClampNeg), .int (xs (Int32.ofNat k + 2).toNatClampNeg), .ref ao]) hF (kL_set_r l hfl D cy qa _ P T S nw hz ak pa wt cd ln ao ov (xs (Int32.ofNat k + 1).toNatClampNeg) (xs (Int32.ofNat k + 2).toNatClampNeg) (r, P', S', nw', hz') h3) (vx_cwSW 4 hts (pw_gSW aw_532 aw_533 aw_0 aw_534) rfl rfl rfl pL_set ⟨Nat.le_of_ble_eq_true rfl, Nat.le_of_ble_eq_true rfl⟩) hK hP hD hS hA hE rfl rfl rfl rfl hl.1 rfl (Nat.le_of_ble_eq_true rfl) dL_law_496 ⟨by omega, by omega⟩ (fun H locs hP hD hS => ?_)
    refine W.widen (k := cells + 1) (n := slots + 6) (by omega) (by omega) ?_
    refine lv_istore (lv' := [(5, .int 0), (0, .ref b), (1, .ref (qa 0 0)), (2, .ref (q 0)), (3, .ref ao), (4, .int (Int32.ofNat k))]) hx hb dL_law_499 hl (by decide) rfl (fun ls hl => ?_)
    refine lv_aload_n hx hb dL_law_501 rfl (lv_at hl 3 rfl) ?_
    refine lv_aload_n hx hb dL_law_502 rfl (lv_at hl 1 rfl) ?_
    refine lv_iload hx hb dL_law_503 (lv_at hl 5 rfl) ?_
    refine lv_iconst (v := 1) hx hb dL_law_505 (by decide) ?_
    refine lv_iadd hx hb dL_law_506 ?_
    refine va_sld hx hb hX hbl hbA hS h1i dL_law_507 ?_
    refine lv_aload_n hx hb dL_law_508 rfl (lv_at hl 1 rfl) ?_
    refine lv_iload hx hb dL_law_509 (lv_at hl 5 rfl) ?_
    refine lv_iconst (v := 2) hx hb dL_law_511 (by decide) ?_
    refine lv_iadd hx hb dL_law_512 ?_
    refine va_sld hx hb hX hbl hbA hS h2i dL_law_513 ?_
    refine pw_fi (r := r) (ws0 := WL cy qa P' T S' nw' hz' ak pa wt cd ln ao (vp_updL ov (0 : Int32).toNatClampNeg r.toInt64) ++ WM cy q th z sv sn sp bf ty gn hs) (ws1 := WL cy qa P' T S' nw' hz' ak pa wt cd ln ao (vp_updL ov (0 : Int32).toNatClampNeg r.toInt64) ++ WM cy q 0 z' sv' sn' sp bf ty gn' hs) (wa := WL cy qa P' T S' nw' hz' ak pa wt cd ln ao (vp_updL ov (0 : Int32).toNatClampNeg r.toInt64)) (wb := []) (wc := WM cy q th z sv sn sp bf ty gn hs) (w1 := WM cy q 0 z' sv' sn' sp bf ty gn' hs) (rest := []) (As := [.int (xs (Int32.ofNat k + 1).toNatClampNeg), .int (xs (Int32.ofNat k + 2).toNatClampNeg)]) hF (kX4_set l D cy q _ th z sv sn sp bf ty gn hs (xs (Int32.ofNat k + 1).toNatClampNeg) (xs (Int32.ofNat k + 2).toNatClampNeg) (r, 0, z', sv', sn', gn') h4) (cwV 2 hts (pw_gVt (own := RL) (idx := 107) (C := RX4) (y := yX4_set) aw_871 aw_872 aw_873 aw_6 aw_874) rfl rfl rfl pX4_set ⟨Nat.le_of_ble_eq_true rfl, Nat.le_of_ble_eq_true rfl⟩) 4 (RX4, TX4, 9) rfl rfl ⟨0, _, rfl⟩ hK hP hD hS hA (by rw [List.append_nil]) (by rw [List.append_nil]) rfl rfl hl.1 rfl (Nat.le_of_ble_eq_true rfl) dL_law_514 ⟨hR1, hR2⟩ (fun H locs hP hD hS => ?_)
    refine lv_istore (lv' := [(6, .int r), (5, .int 0), (0, .ref b), (1, .ref (qa 0 0)), (2, .ref (q 0)), (3, .ref ao), (4, .int (Int32.ofNat k))]) hx hb dL_law_517 hl (by decide) rfl (fun ls hl => ?_)
    refine lv_aload_n hx hb dL_law_519 rfl (lv_at hl 4 rfl) ?_
    refine pw_fi (r := 0) (ws0 := WL cy qa P' T S' nw' hz' ak pa wt cd ln ao (vp_updL ov (0 : Int32).toNatClampNeg r.toInt64) ++ WM cy q 0 z' sv' sn' sp bf ty gn' hs) (ws1 := WL cy qa P' T S' nw' hz' ak pa wt cd ln ao (vp_updL ov (0 : Int32).toNatClampNeg r.toInt64) ++ WM cy q 0 z' sv' sn' sp bf ty gn' hs) (wa := WL cy qa P' T S' nw' hz' ak pa wt cd ln ao (vp_updL ov (0 : Int32).toNatClampNeg r.toInt64)) (wb := []) (wc := WM cy q 0 z' sv' sn' sp bf ty gn' hs) (w1 := WM cy q 0 z' sv' sn' sp bf ty gn' hs) (rest := []) (As := []) hF (kX4_thrown l D cy q _ 0 z' sv' sn' sp bf ty gn' hs 0 rfl) (cwV 0 hts (pw_gVt (own := RL) (idx := 80) (C := RX4) (y := yX4_thrown) aw_714 aw_715 aw_716 aw_6 aw_717) rfl rfl rfl pX4_thrown ⟨Nat.le_of_ble_eq_true rfl, Nat.le_of_ble_eq_true rfl⟩) 4 (RX4, TX4, 9) rfl rfl ⟨0, _, rfl⟩ hK hP hD hS hA (by rw [List.append_nil]) (by rw [List.append_nil]) rfl rfl hl.1 rfl (Nat.le_of_ble_eq_true rfl) dL_law_520 ⟨hR1, hR2⟩ (fun H locs hP hD hS => ?_)
    refine lv_iload hx hb dL_law_523 (lv_at hl 1 rfl) ?_
    refine lv_icmp_eq (tgt := 530) hx hb dL_law_525 (by decide) (fun _ => ?_) (fun c_ => absurd rfl c_)
    refine lv_iload hx hb dL_law_530 (lv_at hl 1 rfl) ?_
    refine lv_if_ne (tgt := 547) hx hb dL_law_532 (by decide) (fun c_ => absurd rfl c_) (fun _ => ?_)
    refine lv_aload_n hx hb dL_law_535 rfl (lv_at hl 5 rfl) ?_
    refine lv_iconst (v := 0) hx hb dL_law_536 (by decide) ?_
    refine va_lald hx hb hK hP 128 3 rfl rfl (pq_vp (by decide)) dL_law_537 ?_
    refine lv_iload hx hb dL_law_538 (lv_at hl 0 rfl) ?_
    refine lv_i2l (v := r.toInt64) hx hb dL_law_540 rfl ?_
    refine W.lcmp hx hb dL_law_541 ?_
    refine lv_if_eq (tgt := 547) hx hb dL_law_542 (by decide) (fun _ => ?_) (fun c_ => absurd ((lg_cmp_eq _ _).mpr rfl) c_)
    refine lv_goto (tgt := 1284) hx hb dL_law_547 (by decide) ?_
    exact kk P' T S' nw' hz' ak pa wt cd ln (vp_updL ov (0 : Int32).toNatClampNeg r.toInt64) 0 z' sv' sn' sp bf ty gn' hs H locs ls RA1 hP hD hS ⟨hl.1, hl.2.1, fun x hx9 => hl.2.2 x (List.mem_cons_of_mem _ (List.mem_cons_of_mem _ hx9))⟩
set_option maxHeartbeats 8000000 in
set_option maxRecDepth 100000 in
theorem kA_pass {p : Program} {e : Env} {s : State} {m : MethodId} {args : Array Value} {below : List Frame} {meth : Method} {c : Code} (l : Launch) (hfl : l.stackTraces = false) {D : va_G} {cy : Nat → ClassId} {qa : Nat → Nat → Nat} {q : Nat → Nat} {A : Nat → Prop} {b L k ao : Nat} {xs : Nat → Int32} (hx : p.tables.exec = Jvm.exec) (hb : c.code = cL_law) (hF : CallFix p m c cL_law 9 s args pw_all RL) (hK : va_K D vwCl (pw_tys cy) s) (hE : pw_E A s s.heap) (hA : ∀ q : Nat, s.heap.size ≤ q → A q) (hX : va_X b L xs s s.heap) (hbl : b < s.heap.size) (hbA : ¬ A b) (hL : L ≤ 1536) (hk : k + 2 < L) {P T : Nat → Nat → Int32} {S : Nat → Nat → Nat → Int32} {nw hz : Int32} {ak pa wt cd : Nat → Int32} {ln : Int32} {ov : Nat → Int64} {th : Int32} {z sv : Nat → Int32} {sn : Int32} {sp bf : Nat → Int32} {ty : Int32} {gn : Nat → Int32} {hs : Int64} (RAh : RA P S nw hz cd ln z sv sn bf ty) {H : Heap} {locs : List Loc} {ls : Array Slot} {cells slots : Nat} {Q : State → Prop} (hP : va_P D vwCl (WL cy qa P T S nw hz ak pa wt cd ln ao ov ++ WM cy q th z sv sn sp bf ty gn hs) H) (hD : va_D A (WL cy qa P T S nw hz ak pa wt cd ln ao ov ++ WM cy q th z sv sn sp bf ty gn hs)) (hS : va_S A s.heap H locs) (hl : lv_has ls 9 [(0, .ref b), (1, .ref (qa 0 0)), (2, .ref (q 0)), (3, .ref ao), (4, .int (Int32.ofNat k))]) (hR1 : cells + 1 ≤ room_1.cells) (hR2 : slots + 6 ≤ room_1.slots) (kk : ∀ (P T : Nat → Nat → Int32) (S : Nat → Nat → Nat → Int32) (nw hz : Int32) (ak pa wt cd : Nat → Int32) (ln : Int32) (ov : Nat → Int64) (th : Int32) (z sv : Nat → Int32) (sn : Int32) (sp bf : Nat → Int32) (ty : Int32) (gn : Nat → Int32) (hs : Int64) (H : Heap) (locs : List Loc) (ls : Array Slot), RA P S nw hz cd ln z sv sn bf ty → va_P D vwCl (WL cy qa P T S nw hz ak pa wt cd ln ao ov ++ WM cy q th z sv sn sp bf ty gn hs) H → va_D A (WL cy qa P T S nw hz ak pa wt cd ln ao ov ++ WM cy q th z sv sn sp bf ty gn hs) → va_S A s.heap H locs → lv_has ls 9 [(0, .ref b), (1, .ref (qa 0 0)), (2, .ref (q 0)), (3, .ref ao), (4, .int (Int32.ofNat k))] → W p l e room_1 s m args below meth c H locs (cells + 1) (slots + 6) Q (F0 m 1284 ls [])) : W p l e room_1 s m args below meth c H locs cells slots Q (F0 m 550 ls []) := by
  have h1i : vp_in (Int32.ofNat k + 1) L := pw_ix1 hL hk
  have h2i : vp_in (Int32.ofNat k + 2) L := pw_ix2 hL hk
  have hts := hF.2.2.2.2
  rcases c_pass RAh (xs (Int32.ofNat k + 1).toNatClampNeg) th gn with (⟨h3, h4⟩ | ⟨h3, h4⟩) | ⟨r, P', S', nw', hz', z', sv', sn', gn', h3, h4, RA1⟩
  · skip
    refine lv_aload_n hx hb dL_law_550 rfl (lv_at hl 1 rfl) ?_
    refine lv_aload_n hx hb dL_law_551 rfl (lv_at hl 0 rfl) ?_
    refine lv_iload hx hb dL_law_552 (lv_at hl 4 rfl) ?_
    refine lv_iconst (v := 1) hx hb dL_law_554 (by decide) ?_
    refine lv_iadd hx hb dL_law_555 ?_
    refine va_sld hx hb hX hbl hbA hS h1i dL_law_556 ?_
    refine lv_aload_n hx hb dL_law_557 rfl (lv_at hl 3 rfl) ?_
    refine pw_lcall (r := 1) (ws0 := WL cy qa P T S nw hz ak pa wt cd ln ao ov ++ WM cy q th z sv sn sp bf ty gn hs) (ws1 := WL cy qa P T S nw hz ak pa wt cd ln ao ov ++ WM cy q th z sv sn sp bf ty gn hs) (wa := []) (wb := WM cy q th z sv sn sp bf ty gn hs) (wc := WL cy qa P T S nw hz ak pa wt cd ln ao ov) (w1 := WL cy qa P T S nw hz ak pa wt cd ln ao ov) (rest := []) (As := [.ref (qa 0 0), .int (xs (Int32.ofNat k + 1).toNatClampNeg), .ref ao]) hF (kL_pass_t3 l hfl D cy qa _ P T S nw hz ak pa wt cd ln ao ov (xs (Int32.ofNat k + 1).toNatClampNeg) h3) (vx_cwSW 3 hts (pw_gSW aw_553 aw_554 aw_0 aw_555) rfl rfl rfl pL_pass ⟨Nat.le_of_ble_eq_true rfl, Nat.le_of_ble_eq_true rfl⟩) hK hP hD hS hA hE rfl rfl rfl rfl hl.1 rfl (Nat.le_of_ble_eq_true rfl) dL_law_558 ⟨by omega, by omega⟩ (fun H locs hP hD hS => ?_)
    refine lv_istore (lv' := [(5, .int 1), (0, .ref b), (1, .ref (qa 0 0)), (2, .ref (q 0)), (3, .ref ao), (4, .int (Int32.ofNat k))]) hx hb dL_law_561 hl (by decide) rfl (fun ls hl => ?_)
    refine lv_aload_n hx hb dL_law_563 rfl (lv_at hl 3 rfl) ?_
    refine lv_aload_n hx hb dL_law_564 rfl (lv_at hl 1 rfl) ?_
    refine lv_iload hx hb dL_law_565 (lv_at hl 5 rfl) ?_
    refine lv_iconst (v := 1) hx hb dL_law_567 (by decide) ?_
    refine lv_iadd hx hb dL_law_568 ?_
    refine va_sld hx hb hX hbl hbA hS h1i dL_law_569 ?_
    refine pw_fi (r := 0) (ws0 := WL cy qa P T S nw hz ak pa wt cd ln ao ov ++ WM cy q th z sv sn sp bf ty gn hs) (ws1 := WL cy qa P T S nw hz ak pa wt cd ln ao ov ++ WM cy q 1 z sv sn sp bf ty gn hs) (wa := WL cy qa P T S nw hz ak pa wt cd ln ao ov) (wb := []) (wc := WM cy q th z sv sn sp bf ty gn hs) (w1 := WM cy q 1 z sv sn sp bf ty gn hs) (rest := []) (As := [.int (xs (Int32.ofNat k + 1).toNatClampNeg)]) hF (kX4_pass l D cy q _ th z sv sn sp bf ty gn hs (xs (Int32.ofNat k + 1).toNatClampNeg) (0, 1, z, sv, sn, gn) h4) (cwV 1 hts (pw_gVt (own := RL) (idx := 110) (C := RX4) (y := yX4_pass) aw_881 aw_882 aw_883 aw_6 aw_884) rfl rfl rfl pX4_pass ⟨Nat.le_of_ble_eq_true rfl, Nat.le_of_ble_eq_true rfl⟩) 4 (RX4, TX4, 9) rfl rfl ⟨0, _, rfl⟩ hK hP hD hS hA (by rw [List.append_nil]) (by rw [List.append_nil]) rfl rfl hl.1 rfl (Nat.le_of_ble_eq_true rfl) dL_law_570 ⟨hR1, hR2⟩ (fun H locs hP hD hS => ?_)
    refine lv_istore (lv' := [(6, .int 0), (5, .int 1), (0, .ref b), (1, .ref (qa 0 0)), (2, .ref (q 0)), (3, .ref ao), (4, .int (Int32.ofNat k))]) hx hb dL_law_573 hl (by decide) rfl (fun ls hl => ?_)
    refine lv_aload_n hx hb dL_law_575 rfl (lv_at hl 4 rfl) ?_
    refine pw_fi (r := 1) (ws0 := WL cy qa P T S nw hz ak pa wt cd ln ao ov ++ WM cy q 1 z sv sn sp bf ty gn hs) (ws1 := WL cy qa P T S nw hz ak pa wt cd ln ao ov ++ WM cy q 1 z sv sn sp bf ty gn hs) (wa := WL cy qa P T S nw hz ak pa wt cd ln ao ov) (wb := []) (wc := WM cy q 1 z sv sn sp bf ty gn hs) (w1 := WM cy q 1 z sv sn sp bf ty gn hs) (rest := []) (As := []) hF (kX4_thrown l D cy q _ 1 z sv sn sp bf ty gn hs 1 rfl) (cwV 0 hts (pw_gVt (own := RL) (idx := 80) (C := RX4) (y := yX4_thrown) aw_714 aw_715 aw_716 aw_6 aw_717) rfl rfl rfl pX4_thrown ⟨Nat.le_of_ble_eq_true rfl, Nat.le_of_ble_eq_true rfl⟩) 4 (RX4, TX4, 9) rfl rfl ⟨0, _, rfl⟩ hK hP hD hS hA (by rw [List.append_nil]) (by rw [List.append_nil]) rfl rfl hl.1 rfl (Nat.le_of_ble_eq_true rfl) dL_law_576 ⟨hR1, hR2⟩ (fun H locs hP hD hS => ?_)
    refine lv_iload hx hb dL_law_579 (lv_at hl 1 rfl) ?_
    refine lv_icmp_eq (tgt := 586) hx hb dL_law_581 (by decide) (fun _ => ?_) (fun c_ => absurd rfl c_)
    refine lv_iload hx hb dL_law_586 (lv_at hl 1 rfl) ?_
    refine lv_if_ne (tgt := 603) hx hb dL_law_588 (by decide) (fun _ => ?_) (fun c_ => absurd c_ (by decide))
    refine lv_goto (tgt := 1284) hx hb dL_law_603 (by decide) ?_
    exact kk P T S nw hz ak pa wt cd ln ov 1 z sv sn sp bf ty gn hs H locs ls RAh hP hD hS ⟨hl.1, hl.2.1, fun x hx9 => hl.2.2 x (List.mem_cons_of_mem _ (List.mem_cons_of_mem _ hx9))⟩
  · skip
    refine lv_aload_n hx hb dL_law_550 rfl (lv_at hl 1 rfl) ?_
    refine lv_aload_n hx hb dL_law_551 rfl (lv_at hl 0 rfl) ?_
    refine lv_iload hx hb dL_law_552 (lv_at hl 4 rfl) ?_
    refine lv_iconst (v := 1) hx hb dL_law_554 (by decide) ?_
    refine lv_iadd hx hb dL_law_555 ?_
    refine va_sld hx hb hX hbl hbA hS h1i dL_law_556 ?_
    refine lv_aload_n hx hb dL_law_557 rfl (lv_at hl 3 rfl) ?_
    refine pw_lcall (r := 2) (ws0 := WL cy qa P T S nw hz ak pa wt cd ln ao ov ++ WM cy q th z sv sn sp bf ty gn hs) (ws1 := WL cy qa P T S nw hz ak pa wt cd ln ao ov ++ WM cy q th z sv sn sp bf ty gn hs) (wa := []) (wb := WM cy q th z sv sn sp bf ty gn hs) (wc := WL cy qa P T S nw hz ak pa wt cd ln ao ov) (w1 := WL cy qa P T S nw hz ak pa wt cd ln ao ov) (rest := []) (As := [.ref (qa 0 0), .int (xs (Int32.ofNat k + 1).toNatClampNeg), .ref ao]) hF (kL_pass_t2 l hfl D cy qa _ P T S nw hz ak pa wt cd ln ao ov (xs (Int32.ofNat k + 1).toNatClampNeg) h3) (vx_cwSW 3 hts (pw_gSW aw_553 aw_554 aw_0 aw_555) rfl rfl rfl pL_pass ⟨Nat.le_of_ble_eq_true rfl, Nat.le_of_ble_eq_true rfl⟩) hK hP hD hS hA hE rfl rfl rfl rfl hl.1 rfl (Nat.le_of_ble_eq_true rfl) dL_law_558 ⟨by omega, by omega⟩ (fun H locs hP hD hS => ?_)
    refine lv_istore (lv' := [(5, .int 2), (0, .ref b), (1, .ref (qa 0 0)), (2, .ref (q 0)), (3, .ref ao), (4, .int (Int32.ofNat k))]) hx hb dL_law_561 hl (by decide) rfl (fun ls hl => ?_)
    refine lv_aload_n hx hb dL_law_563 rfl (lv_at hl 3 rfl) ?_
    refine lv_aload_n hx hb dL_law_564 rfl (lv_at hl 1 rfl) ?_
    refine lv_iload hx hb dL_law_565 (lv_at hl 5 rfl) ?_
    refine lv_iconst (v := 1) hx hb dL_law_567 (by decide) ?_
    refine lv_iadd hx hb dL_law_568 ?_
    refine va_sld hx hb hX hbl hbA hS h1i dL_law_569 ?_
    refine pw_fi (r := 0) (ws0 := WL cy qa P T S nw hz ak pa wt cd ln ao ov ++ WM cy q th z sv sn sp bf ty gn hs) (ws1 := WL cy qa P T S nw hz ak pa wt cd ln ao ov ++ WM cy q 2 z sv sn sp bf ty gn hs) (wa := WL cy qa P T S nw hz ak pa wt cd ln ao ov) (wb := []) (wc := WM cy q th z sv sn sp bf ty gn hs) (w1 := WM cy q 2 z sv sn sp bf ty gn hs) (rest := []) (As := [.int (xs (Int32.ofNat k + 1).toNatClampNeg)]) hF (kX4_pass l D cy q _ th z sv sn sp bf ty gn hs (xs (Int32.ofNat k + 1).toNatClampNeg) (0, 2, z, sv, sn, gn) h4) (cwV 1 hts (pw_gVt (own := RL) (idx := 110) (C := RX4) (y := yX4_pass) aw_881 aw_882 aw_883 aw_6 aw_884) rfl rfl rfl pX4_pass ⟨Nat.le_of_ble_eq_true rfl, Nat.le_of_ble_eq_true rfl⟩) 4 (RX4, TX4, 9) rfl rfl ⟨0, _, rfl⟩ hK hP hD hS hA (by rw [List.append_nil]) (by rw [List.append_nil]) rfl rfl hl.1 rfl (Nat.le_of_ble_eq_true rfl) dL_law_570 ⟨hR1, hR2⟩ (fun H locs hP hD hS => ?_)
    refine lv_istore (lv' := [(6, .int 0), (5, .int 2), (0, .ref b), (1, .ref (qa 0 0)), (2, .ref (q 0)), (3, .ref ao), (4, .int (Int32.ofNat k))]) hx hb dL_law_573 hl (by decide) rfl (fun ls hl => ?_)
    refine lv_aload_n hx hb dL_law_575 rfl (lv_at hl 4 rfl) ?_
    refine pw_fi (r := 2) (ws0 := WL cy qa P T S nw hz ak pa wt cd ln ao ov ++ WM cy q 2 z sv sn sp bf ty gn hs) (ws1 := WL cy qa P T S nw hz ak pa wt cd ln ao ov ++ WM cy q 2 z sv sn sp bf ty gn hs) (wa := WL cy qa P T S nw hz ak pa wt cd ln ao ov) (wb := []) (wc := WM cy q 2 z sv sn sp bf ty gn hs) (w1 := WM cy q 2 z sv sn sp bf ty gn hs) (rest := []) (As := []) hF (kX4_thrown l D cy q _ 2 z sv sn sp bf ty gn hs 2 rfl) (cwV 0 hts (pw_gVt (own := RL) (idx := 80) (C := RX4) (y := yX4_thrown) aw_714 aw_715 aw_716 aw_6 aw_717) rfl rfl rfl pX4_thrown ⟨Nat.le_of_ble_eq_true rfl, Nat.le_of_ble_eq_true rfl⟩) 4 (RX4, TX4, 9) rfl rfl ⟨0, _, rfl⟩ hK hP hD hS hA (by rw [List.append_nil]) (by rw [List.append_nil]) rfl rfl hl.1 rfl (Nat.le_of_ble_eq_true rfl) dL_law_576 ⟨hR1, hR2⟩ (fun H locs hP hD hS => ?_)
    refine lv_iload hx hb dL_law_579 (lv_at hl 1 rfl) ?_
    refine lv_icmp_eq (tgt := 586) hx hb dL_law_581 (by decide) (fun _ => ?_) (fun c_ => absurd rfl c_)
    refine lv_iload hx hb dL_law_586 (lv_at hl 1 rfl) ?_
    refine lv_if_ne (tgt := 603) hx hb dL_law_588 (by decide) (fun _ => ?_) (fun c_ => absurd c_ (by decide))
    refine lv_goto (tgt := 1284) hx hb dL_law_603 (by decide) ?_
    exact kk P T S nw hz ak pa wt cd ln ov 2 z sv sn sp bf ty gn hs H locs ls RAh hP hD hS ⟨hl.1, hl.2.1, fun x hx9 => hl.2.2 x (List.mem_cons_of_mem _ (List.mem_cons_of_mem _ hx9))⟩
  · skip
    refine lv_aload_n hx hb dL_law_550 rfl (lv_at hl 1 rfl) ?_
    refine lv_aload_n hx hb dL_law_551 rfl (lv_at hl 0 rfl) ?_
    refine lv_iload hx hb dL_law_552 (lv_at hl 4 rfl) ?_
    refine lv_iconst (v := 1) hx hb dL_law_554 (by decide) ?_
    refine lv_iadd hx hb dL_law_555 ?_
    refine va_sld hx hb hX hbl hbA hS h1i dL_law_556 ?_
    refine lv_aload_n hx hb dL_law_557 rfl (lv_at hl 3 rfl) ?_
    refine pw_lcall (r := 0) (ws0 := WL cy qa P T S nw hz ak pa wt cd ln ao ov ++ WM cy q th z sv sn sp bf ty gn hs) (ws1 := WL cy qa P' T S' nw' hz' ak pa wt cd ln ao (vp_updL ov (0 : Int32).toNatClampNeg r.toInt64) ++ WM cy q th z sv sn sp bf ty gn hs) (wa := []) (wb := WM cy q th z sv sn sp bf ty gn hs) (wc := WL cy qa P T S nw hz ak pa wt cd ln ao ov) (w1 := WL cy qa P' T S' nw' hz' ak pa wt cd ln ao (vp_updL ov (0 : Int32).toNatClampNeg r.toInt64)) (rest := []) (As := [.ref (qa 0 0), .int (xs (Int32.ofNat k + 1).toNatClampNeg), .ref ao]) hF (kL_pass_r l hfl D cy qa _ P T S nw hz ak pa wt cd ln ao ov (xs (Int32.ofNat k + 1).toNatClampNeg) (r, P', S', nw', hz') h3) (vx_cwSW 3 hts (pw_gSW aw_553 aw_554 aw_0 aw_555) rfl rfl rfl pL_pass ⟨Nat.le_of_ble_eq_true rfl, Nat.le_of_ble_eq_true rfl⟩) hK hP hD hS hA hE rfl rfl rfl rfl hl.1 rfl (Nat.le_of_ble_eq_true rfl) dL_law_558 ⟨by omega, by omega⟩ (fun H locs hP hD hS => ?_)
    refine W.widen (k := cells + 1) (n := slots + 6) (by omega) (by omega) ?_
    refine lv_istore (lv' := [(5, .int 0), (0, .ref b), (1, .ref (qa 0 0)), (2, .ref (q 0)), (3, .ref ao), (4, .int (Int32.ofNat k))]) hx hb dL_law_561 hl (by decide) rfl (fun ls hl => ?_)
    refine lv_aload_n hx hb dL_law_563 rfl (lv_at hl 3 rfl) ?_
    refine lv_aload_n hx hb dL_law_564 rfl (lv_at hl 1 rfl) ?_
    refine lv_iload hx hb dL_law_565 (lv_at hl 5 rfl) ?_
    refine lv_iconst (v := 1) hx hb dL_law_567 (by decide) ?_
    refine lv_iadd hx hb dL_law_568 ?_
    refine va_sld hx hb hX hbl hbA hS h1i dL_law_569 ?_
    refine pw_fi (r := r) (ws0 := WL cy qa P' T S' nw' hz' ak pa wt cd ln ao (vp_updL ov (0 : Int32).toNatClampNeg r.toInt64) ++ WM cy q th z sv sn sp bf ty gn hs) (ws1 := WL cy qa P' T S' nw' hz' ak pa wt cd ln ao (vp_updL ov (0 : Int32).toNatClampNeg r.toInt64) ++ WM cy q 0 z' sv' sn' sp bf ty gn' hs) (wa := WL cy qa P' T S' nw' hz' ak pa wt cd ln ao (vp_updL ov (0 : Int32).toNatClampNeg r.toInt64)) (wb := []) (wc := WM cy q th z sv sn sp bf ty gn hs) (w1 := WM cy q 0 z' sv' sn' sp bf ty gn' hs) (rest := []) (As := [.int (xs (Int32.ofNat k + 1).toNatClampNeg)]) hF (kX4_pass l D cy q _ th z sv sn sp bf ty gn hs (xs (Int32.ofNat k + 1).toNatClampNeg) (r, 0, z', sv', sn', gn') h4) (cwV 1 hts (pw_gVt (own := RL) (idx := 110) (C := RX4) (y := yX4_pass) aw_881 aw_882 aw_883 aw_6 aw_884) rfl rfl rfl pX4_pass ⟨Nat.le_of_ble_eq_true rfl, Nat.le_of_ble_eq_true rfl⟩) 4 (RX4, TX4, 9) rfl rfl ⟨0, _, rfl⟩ hK hP hD hS hA (by rw [List.append_nil]) (by rw [List.append_nil]) rfl rfl hl.1 rfl (Nat.le_of_ble_eq_true rfl) dL_law_570 ⟨hR1, hR2⟩ (fun H locs hP hD hS => ?_)
    refine lv_istore (lv' := [(6, .int r), (5, .int 0), (0, .ref b), (1, .ref (qa 0 0)), (2, .ref (q 0)), (3, .ref ao), (4, .int (Int32.ofNat k))]) hx hb dL_law_573 hl (by decide) rfl (fun ls hl => ?_)
    refine lv_aload_n hx hb dL_law_575 rfl (lv_at hl 4 rfl) ?_
    refine pw_fi (r := 0) (ws0 := WL cy qa P' T S' nw' hz' ak pa wt cd ln ao (vp_updL ov (0 : Int32).toNatClampNeg r.toInt64) ++ WM cy q 0 z' sv' sn' sp bf ty gn' hs) (ws1 := WL cy qa P' T S' nw' hz' ak pa wt cd ln ao (vp_updL ov (0 : Int32).toNatClampNeg r.toInt64) ++ WM cy q 0 z' sv' sn' sp bf ty gn' hs) (wa := WL cy qa P' T S' nw' hz' ak pa wt cd ln ao (vp_updL ov (0 : Int32).toNatClampNeg r.toInt64)) (wb := []) (wc := WM cy q 0 z' sv' sn' sp bf ty gn' hs) (w1 := WM cy q 0 z' sv' sn' sp bf ty gn' hs) (rest := []) (As := []) hF (kX4_thrown l D cy q _ 0 z' sv' sn' sp bf ty gn' hs 0 rfl) (cwV 0 hts (pw_gVt (own := RL) (idx := 80) (C := RX4) (y := yX4_thrown) aw_714 aw_715 aw_716 aw_6 aw_717) rfl rfl rfl pX4_thrown ⟨Nat.le_of_ble_eq_true rfl, Nat.le_of_ble_eq_true rfl⟩) 4 (RX4, TX4, 9) rfl rfl ⟨0, _, rfl⟩ hK hP hD hS hA (by rw [List.append_nil]) (by rw [List.append_nil]) rfl rfl hl.1 rfl (Nat.le_of_ble_eq_true rfl) dL_law_576 ⟨hR1, hR2⟩ (fun H locs hP hD hS => ?_)
    refine lv_iload hx hb dL_law_579 (lv_at hl 1 rfl) ?_
    refine lv_icmp_eq (tgt := 586) hx hb dL_law_581 (by decide) (fun _ => ?_) (fun c_ => absurd rfl c_)
    refine lv_iload hx hb dL_law_586 (lv_at hl 1 rfl) ?_
    refine lv_if_ne (tgt := 603) hx hb dL_law_588 (by decide) (fun c_ => absurd rfl c_) (fun _ => ?_)
    refine lv_aload_n hx hb dL_law_591 rfl (lv_at hl 5 rfl) ?_
    refine lv_iconst (v := 0) hx hb dL_law_592 (by decide) ?_
    refine va_lald hx hb hK hP 128 3 rfl rfl (pq_vp (by decide)) dL_law_593 ?_
    refine lv_iload hx hb dL_law_594 (lv_at hl 0 rfl) ?_
    refine lv_i2l (v := r.toInt64) hx hb dL_law_596 rfl ?_
    refine W.lcmp hx hb dL_law_597 ?_
    refine lv_if_eq (tgt := 603) hx hb dL_law_598 (by decide) (fun _ => ?_) (fun c_ => absurd ((lg_cmp_eq _ _).mpr rfl) c_)
    refine lv_goto (tgt := 1284) hx hb dL_law_603 (by decide) ?_
    exact kk P' T S' nw' hz' ak pa wt cd ln (vp_updL ov (0 : Int32).toNatClampNeg r.toInt64) 0 z' sv' sn' sp bf ty gn' hs H locs ls RA1 hP hD hS ⟨hl.1, hl.2.1, fun x hx9 => hl.2.2 x (List.mem_cons_of_mem _ (List.mem_cons_of_mem _ hx9))⟩
set_option maxHeartbeats 8000000 in
set_option maxRecDepth 100000 in
theorem kA_append {p : Program} {e : Env} {s : State} {m : MethodId} {args : Array Value} {below : List Frame} {meth : Method} {c : Code} (l : Launch) (hfl : l.stackTraces = false) {D : va_G} {cy : Nat → ClassId} {qa : Nat → Nat → Nat} {q : Nat → Nat} {A : Nat → Prop} {b L k ao : Nat} {xs : Nat → Int32} (hx : p.tables.exec = Jvm.exec) (hb : c.code = cL_law) (hF : CallFix p m c cL_law 9 s args pw_all RL) (hK : va_K D vwCl (pw_tys cy) s) (hE : pw_E A s s.heap) (hA : ∀ q : Nat, s.heap.size ≤ q → A q) (hX : va_X b L xs s s.heap) (hbl : b < s.heap.size) (hbA : ¬ A b) (hL : L ≤ 1536) (hk : k + 2 < L) {P T : Nat → Nat → Int32} {S : Nat → Nat → Nat → Int32} {nw hz : Int32} {ak pa wt cd : Nat → Int32} {ln : Int32} {ov : Nat → Int64} {th : Int32} {z sv : Nat → Int32} {sn : Int32} {sp bf : Nat → Int32} {ty : Int32} {gn : Nat → Int32} {hs : Int64} (RAh : RA P S nw hz cd ln z sv sn bf ty) {H : Heap} {locs : List Loc} {ls : Array Slot} {cells slots : Nat} {Q : State → Prop} (hP : va_P D vwCl (WL cy qa P T S nw hz ak pa wt cd ln ao ov ++ WM cy q th z sv sn sp bf ty gn hs) H) (hD : va_D A (WL cy qa P T S nw hz ak pa wt cd ln ao ov ++ WM cy q th z sv sn sp bf ty gn hs)) (hS : va_S A s.heap H locs) (hl : lv_has ls 9 [(0, .ref b), (1, .ref (qa 0 0)), (2, .ref (q 0)), (3, .ref ao), (4, .int (Int32.ofNat k))]) (hR1 : cells + 1 ≤ room_1.cells) (hR2 : slots + 6 ≤ room_1.slots) (kk : ∀ (P T : Nat → Nat → Int32) (S : Nat → Nat → Nat → Int32) (nw hz : Int32) (ak pa wt cd : Nat → Int32) (ln : Int32) (ov : Nat → Int64) (th : Int32) (z sv : Nat → Int32) (sn : Int32) (sp bf : Nat → Int32) (ty : Int32) (gn : Nat → Int32) (hs : Int64) (H : Heap) (locs : List Loc) (ls : Array Slot), RA P S nw hz cd ln z sv sn bf ty → va_P D vwCl (WL cy qa P T S nw hz ak pa wt cd ln ao ov ++ WM cy q th z sv sn sp bf ty gn hs) H → va_D A (WL cy qa P T S nw hz ak pa wt cd ln ao ov ++ WM cy q th z sv sn sp bf ty gn hs) → va_S A s.heap H locs → lv_has ls 9 [(0, .ref b), (1, .ref (qa 0 0)), (2, .ref (q 0)), (3, .ref ao), (4, .int (Int32.ofNat k))] → W p l e room_1 s m args below meth c H locs (cells + 1) (slots + 6) Q (F0 m 1284 ls [])) : W p l e room_1 s m args below meth c H locs cells slots Q (F0 m 606 ls []) := by
  have h1i : vp_in (Int32.ofNat k + 1) L := pw_ix1 hL hk
  have h2i : vp_in (Int32.ofNat k + 2) L := pw_ix2 hL hk
  have hts := hF.2.2.2.2
  rcases c_append RAh (xs (Int32.ofNat k + 1).toNatClampNeg) th with (⟨h3, h4⟩ | ⟨h3, h4⟩) | ⟨r, cd', ln', bf', h3, h4, RA1⟩
  · skip
    refine lv_aload_n hx hb dL_law_606 rfl (lv_at hl 1 rfl) ?_
    refine lv_aload_n hx hb dL_law_607 rfl (lv_at hl 0 rfl) ?_
    refine lv_iload hx hb dL_law_608 (lv_at hl 4 rfl) ?_
    refine lv_iconst (v := 1) hx hb dL_law_610 (by decide) ?_
    refine lv_iadd hx hb dL_law_611 ?_
    refine va_sld hx hb hX hbl hbA hS h1i dL_law_612 ?_
    refine lv_aload_n hx hb dL_law_613 rfl (lv_at hl 3 rfl) ?_
    refine pw_lcall (r := 1) (ws0 := WL cy qa P T S nw hz ak pa wt cd ln ao ov ++ WM cy q th z sv sn sp bf ty gn hs) (ws1 := WL cy qa P T S nw hz ak pa wt cd ln ao ov ++ WM cy q th z sv sn sp bf ty gn hs) (wa := []) (wb := WM cy q th z sv sn sp bf ty gn hs) (wc := WL cy qa P T S nw hz ak pa wt cd ln ao ov) (w1 := WL cy qa P T S nw hz ak pa wt cd ln ao ov) (rest := []) (As := [.ref (qa 0 0), .int (xs (Int32.ofNat k + 1).toNatClampNeg), .ref ao]) hF (kL_append_t3 l hfl D cy qa _ P T S nw hz ak pa wt cd ln ao ov (xs (Int32.ofNat k + 1).toNatClampNeg) h3) (vx_cwSW 3 hts (pw_gSW aw_566 aw_567 aw_0 aw_568) rfl rfl rfl pL_append ⟨Nat.le_of_ble_eq_true rfl, Nat.le_of_ble_eq_true rfl⟩) hK hP hD hS hA hE rfl rfl rfl rfl hl.1 rfl (Nat.le_of_ble_eq_true rfl) dL_law_614 ⟨by omega, by omega⟩ (fun H locs hP hD hS => ?_)
    refine lv_istore (lv' := [(5, .int 1), (0, .ref b), (1, .ref (qa 0 0)), (2, .ref (q 0)), (3, .ref ao), (4, .int (Int32.ofNat k))]) hx hb dL_law_617 hl (by decide) rfl (fun ls hl => ?_)
    refine lv_aload_n hx hb dL_law_619 rfl (lv_at hl 3 rfl) ?_
    refine lv_aload_n hx hb dL_law_620 rfl (lv_at hl 1 rfl) ?_
    refine lv_iload hx hb dL_law_621 (lv_at hl 5 rfl) ?_
    refine lv_iconst (v := 1) hx hb dL_law_623 (by decide) ?_
    refine lv_iadd hx hb dL_law_624 ?_
    refine va_sld hx hb hX hbl hbA hS h1i dL_law_625 ?_
    refine pw_fi (r := 0) (ws0 := WL cy qa P T S nw hz ak pa wt cd ln ao ov ++ WM cy q th z sv sn sp bf ty gn hs) (ws1 := WL cy qa P T S nw hz ak pa wt cd ln ao ov ++ WM cy q 1 z sv sn sp bf ty gn hs) (wa := WL cy qa P T S nw hz ak pa wt cd ln ao ov) (wb := []) (wc := WM cy q th z sv sn sp bf ty gn hs) (w1 := WM cy q 1 z sv sn sp bf ty gn hs) (rest := []) (As := [.int (xs (Int32.ofNat k + 1).toNatClampNeg)]) hF (kX4_append l D cy q _ th z sv sn sp bf ty gn hs (xs (Int32.ofNat k + 1).toNatClampNeg) (0, 1, bf, ty) h4) (cwV 1 hts (pw_gVt (own := RL) (idx := 113) (C := RX4) (y := yX4_append) aw_893 aw_894 aw_895 aw_6 aw_896) rfl rfl rfl pX4_append ⟨Nat.le_of_ble_eq_true rfl, Nat.le_of_ble_eq_true rfl⟩) 4 (RX4, TX4, 9) rfl rfl ⟨0, _, rfl⟩ hK hP hD hS hA (by rw [List.append_nil]) (by rw [List.append_nil]) rfl rfl hl.1 rfl (Nat.le_of_ble_eq_true rfl) dL_law_626 ⟨hR1, hR2⟩ (fun H locs hP hD hS => ?_)
    refine lv_istore (lv' := [(6, .int 0), (5, .int 1), (0, .ref b), (1, .ref (qa 0 0)), (2, .ref (q 0)), (3, .ref ao), (4, .int (Int32.ofNat k))]) hx hb dL_law_629 hl (by decide) rfl (fun ls hl => ?_)
    refine lv_aload_n hx hb dL_law_631 rfl (lv_at hl 4 rfl) ?_
    refine pw_fi (r := 1) (ws0 := WL cy qa P T S nw hz ak pa wt cd ln ao ov ++ WM cy q 1 z sv sn sp bf ty gn hs) (ws1 := WL cy qa P T S nw hz ak pa wt cd ln ao ov ++ WM cy q 1 z sv sn sp bf ty gn hs) (wa := WL cy qa P T S nw hz ak pa wt cd ln ao ov) (wb := []) (wc := WM cy q 1 z sv sn sp bf ty gn hs) (w1 := WM cy q 1 z sv sn sp bf ty gn hs) (rest := []) (As := []) hF (kX4_thrown l D cy q _ 1 z sv sn sp bf ty gn hs 1 rfl) (cwV 0 hts (pw_gVt (own := RL) (idx := 80) (C := RX4) (y := yX4_thrown) aw_714 aw_715 aw_716 aw_6 aw_717) rfl rfl rfl pX4_thrown ⟨Nat.le_of_ble_eq_true rfl, Nat.le_of_ble_eq_true rfl⟩) 4 (RX4, TX4, 9) rfl rfl ⟨0, _, rfl⟩ hK hP hD hS hA (by rw [List.append_nil]) (by rw [List.append_nil]) rfl rfl hl.1 rfl (Nat.le_of_ble_eq_true rfl) dL_law_632 ⟨hR1, hR2⟩ (fun H locs hP hD hS => ?_)
    refine lv_iload hx hb dL_law_635 (lv_at hl 1 rfl) ?_
    refine lv_icmp_eq (tgt := 642) hx hb dL_law_637 (by decide) (fun _ => ?_) (fun c_ => absurd rfl c_)
    refine lv_iload hx hb dL_law_642 (lv_at hl 1 rfl) ?_
    refine lv_if_ne (tgt := 659) hx hb dL_law_644 (by decide) (fun _ => ?_) (fun c_ => absurd c_ (by decide))
    refine lv_goto (tgt := 1284) hx hb dL_law_659 (by decide) ?_
    exact kk P T S nw hz ak pa wt cd ln ov 1 z sv sn sp bf ty gn hs H locs ls RAh hP hD hS ⟨hl.1, hl.2.1, fun x hx9 => hl.2.2 x (List.mem_cons_of_mem _ (List.mem_cons_of_mem _ hx9))⟩
  · skip
    refine lv_aload_n hx hb dL_law_606 rfl (lv_at hl 1 rfl) ?_
    refine lv_aload_n hx hb dL_law_607 rfl (lv_at hl 0 rfl) ?_
    refine lv_iload hx hb dL_law_608 (lv_at hl 4 rfl) ?_
    refine lv_iconst (v := 1) hx hb dL_law_610 (by decide) ?_
    refine lv_iadd hx hb dL_law_611 ?_
    refine va_sld hx hb hX hbl hbA hS h1i dL_law_612 ?_
    refine lv_aload_n hx hb dL_law_613 rfl (lv_at hl 3 rfl) ?_
    refine pw_lcall (r := 2) (ws0 := WL cy qa P T S nw hz ak pa wt cd ln ao ov ++ WM cy q th z sv sn sp bf ty gn hs) (ws1 := WL cy qa P T S nw hz ak pa wt cd ln ao ov ++ WM cy q th z sv sn sp bf ty gn hs) (wa := []) (wb := WM cy q th z sv sn sp bf ty gn hs) (wc := WL cy qa P T S nw hz ak pa wt cd ln ao ov) (w1 := WL cy qa P T S nw hz ak pa wt cd ln ao ov) (rest := []) (As := [.ref (qa 0 0), .int (xs (Int32.ofNat k + 1).toNatClampNeg), .ref ao]) hF (kL_append_t2 l hfl D cy qa _ P T S nw hz ak pa wt cd ln ao ov (xs (Int32.ofNat k + 1).toNatClampNeg) h3) (vx_cwSW 3 hts (pw_gSW aw_566 aw_567 aw_0 aw_568) rfl rfl rfl pL_append ⟨Nat.le_of_ble_eq_true rfl, Nat.le_of_ble_eq_true rfl⟩) hK hP hD hS hA hE rfl rfl rfl rfl hl.1 rfl (Nat.le_of_ble_eq_true rfl) dL_law_614 ⟨by omega, by omega⟩ (fun H locs hP hD hS => ?_)
    refine lv_istore (lv' := [(5, .int 2), (0, .ref b), (1, .ref (qa 0 0)), (2, .ref (q 0)), (3, .ref ao), (4, .int (Int32.ofNat k))]) hx hb dL_law_617 hl (by decide) rfl (fun ls hl => ?_)
    refine lv_aload_n hx hb dL_law_619 rfl (lv_at hl 3 rfl) ?_
    refine lv_aload_n hx hb dL_law_620 rfl (lv_at hl 1 rfl) ?_
    refine lv_iload hx hb dL_law_621 (lv_at hl 5 rfl) ?_
    refine lv_iconst (v := 1) hx hb dL_law_623 (by decide) ?_
    refine lv_iadd hx hb dL_law_624 ?_
    refine va_sld hx hb hX hbl hbA hS h1i dL_law_625 ?_
    refine pw_fi (r := 0) (ws0 := WL cy qa P T S nw hz ak pa wt cd ln ao ov ++ WM cy q th z sv sn sp bf ty gn hs) (ws1 := WL cy qa P T S nw hz ak pa wt cd ln ao ov ++ WM cy q 2 z sv sn sp bf ty gn hs) (wa := WL cy qa P T S nw hz ak pa wt cd ln ao ov) (wb := []) (wc := WM cy q th z sv sn sp bf ty gn hs) (w1 := WM cy q 2 z sv sn sp bf ty gn hs) (rest := []) (As := [.int (xs (Int32.ofNat k + 1).toNatClampNeg)]) hF (kX4_append l D cy q _ th z sv sn sp bf ty gn hs (xs (Int32.ofNat k + 1).toNatClampNeg) (0, 2, bf, ty) h4) (cwV 1 hts (pw_gVt (own := RL) (idx := 113) (C := RX4) (y := yX4_append) aw_893 aw_894 aw_895 aw_6 aw_896) rfl rfl rfl pX4_append ⟨Nat.le_of_ble_eq_true rfl, Nat.le_of_ble_eq_true rfl⟩) 4 (RX4, TX4, 9) rfl rfl ⟨0, _, rfl⟩ hK hP hD hS hA (by rw [List.append_nil]) (by rw [List.append_nil]) rfl rfl hl.1 rfl (Nat.le_of_ble_eq_true rfl) dL_law_626 ⟨hR1, hR2⟩ (fun H locs hP hD hS => ?_)
    refine lv_istore (lv' := [(6, .int 0), (5, .int 2), (0, .ref b), (1, .ref (qa 0 0)), (2, .ref (q 0)), (3, .ref ao), (4, .int (Int32.ofNat k))]) hx hb dL_law_629 hl (by decide) rfl (fun ls hl => ?_)
    refine lv_aload_n hx hb dL_law_631 rfl (lv_at hl 4 rfl) ?_
    refine pw_fi (r := 2) (ws0 := WL cy qa P T S nw hz ak pa wt cd ln ao ov ++ WM cy q 2 z sv sn sp bf ty gn hs) (ws1 := WL cy qa P T S nw hz ak pa wt cd ln ao ov ++ WM cy q 2 z sv sn sp bf ty gn hs) (wa := WL cy qa P T S nw hz ak pa wt cd ln ao ov) (wb := []) (wc := WM cy q 2 z sv sn sp bf ty gn hs) (w1 := WM cy q 2 z sv sn sp bf ty gn hs) (rest := []) (As := []) hF (kX4_thrown l D cy q _ 2 z sv sn sp bf ty gn hs 2 rfl) (cwV 0 hts (pw_gVt (own := RL) (idx := 80) (C := RX4) (y := yX4_thrown) aw_714 aw_715 aw_716 aw_6 aw_717) rfl rfl rfl pX4_thrown ⟨Nat.le_of_ble_eq_true rfl, Nat.le_of_ble_eq_true rfl⟩) 4 (RX4, TX4, 9) rfl rfl ⟨0, _, rfl⟩ hK hP hD hS hA (by rw [List.append_nil]) (by rw [List.append_nil]) rfl rfl hl.1 rfl (Nat.le_of_ble_eq_true rfl) dL_law_632 ⟨hR1, hR2⟩ (fun H locs hP hD hS => ?_)
    refine lv_iload hx hb dL_law_635 (lv_at hl 1 rfl) ?_
    refine lv_icmp_eq (tgt := 642) hx hb dL_law_637 (by decide) (fun _ => ?_) (fun c_ => absurd rfl c_)
    refine lv_iload hx hb dL_law_642 (lv_at hl 1 rfl) ?_
    refine lv_if_ne (tgt := 659) hx hb dL_law_644 (by decide) (fun _ => ?_) (fun c_ => absurd c_ (by decide))
    refine lv_goto (tgt := 1284) hx hb dL_law_659 (by decide) ?_
    exact kk P T S nw hz ak pa wt cd ln ov 2 z sv sn sp bf ty gn hs H locs ls RAh hP hD hS ⟨hl.1, hl.2.1, fun x hx9 => hl.2.2 x (List.mem_cons_of_mem _ (List.mem_cons_of_mem _ hx9))⟩
  · skip
    refine lv_aload_n hx hb dL_law_606 rfl (lv_at hl 1 rfl) ?_
    refine lv_aload_n hx hb dL_law_607 rfl (lv_at hl 0 rfl) ?_
    refine lv_iload hx hb dL_law_608 (lv_at hl 4 rfl) ?_
    refine lv_iconst (v := 1) hx hb dL_law_610 (by decide) ?_
    refine lv_iadd hx hb dL_law_611 ?_
    refine va_sld hx hb hX hbl hbA hS h1i dL_law_612 ?_
    refine lv_aload_n hx hb dL_law_613 rfl (lv_at hl 3 rfl) ?_
    refine pw_lcall (r := 0) (ws0 := WL cy qa P T S nw hz ak pa wt cd ln ao ov ++ WM cy q th z sv sn sp bf ty gn hs) (ws1 := WL cy qa P T S nw hz ak pa wt cd' ln' ao (vp_updL ov (0 : Int32).toNatClampNeg r.toInt64) ++ WM cy q th z sv sn sp bf ty gn hs) (wa := []) (wb := WM cy q th z sv sn sp bf ty gn hs) (wc := WL cy qa P T S nw hz ak pa wt cd ln ao ov) (w1 := WL cy qa P T S nw hz ak pa wt cd' ln' ao (vp_updL ov (0 : Int32).toNatClampNeg r.toInt64)) (rest := []) (As := [.ref (qa 0 0), .int (xs (Int32.ofNat k + 1).toNatClampNeg), .ref ao]) hF (kL_append_r l hfl D cy qa _ P T S nw hz ak pa wt cd ln ao ov (xs (Int32.ofNat k + 1).toNatClampNeg) (r, cd', ln') h3) (vx_cwSW 3 hts (pw_gSW aw_566 aw_567 aw_0 aw_568) rfl rfl rfl pL_append ⟨Nat.le_of_ble_eq_true rfl, Nat.le_of_ble_eq_true rfl⟩) hK hP hD hS hA hE rfl rfl rfl rfl hl.1 rfl (Nat.le_of_ble_eq_true rfl) dL_law_614 ⟨by omega, by omega⟩ (fun H locs hP hD hS => ?_)
    refine W.widen (k := cells + 1) (n := slots + 6) (by omega) (by omega) ?_
    refine lv_istore (lv' := [(5, .int 0), (0, .ref b), (1, .ref (qa 0 0)), (2, .ref (q 0)), (3, .ref ao), (4, .int (Int32.ofNat k))]) hx hb dL_law_617 hl (by decide) rfl (fun ls hl => ?_)
    refine lv_aload_n hx hb dL_law_619 rfl (lv_at hl 3 rfl) ?_
    refine lv_aload_n hx hb dL_law_620 rfl (lv_at hl 1 rfl) ?_
    refine lv_iload hx hb dL_law_621 (lv_at hl 5 rfl) ?_
    refine lv_iconst (v := 1) hx hb dL_law_623 (by decide) ?_
    refine lv_iadd hx hb dL_law_624 ?_
    refine va_sld hx hb hX hbl hbA hS h1i dL_law_625 ?_
    refine pw_fi (r := r) (ws0 := WL cy qa P T S nw hz ak pa wt cd' ln' ao (vp_updL ov (0 : Int32).toNatClampNeg r.toInt64) ++ WM cy q th z sv sn sp bf ty gn hs) (ws1 := WL cy qa P T S nw hz ak pa wt cd' ln' ao (vp_updL ov (0 : Int32).toNatClampNeg r.toInt64) ++ WM cy q 0 z sv sn sp bf' ln' gn hs) (wa := WL cy qa P T S nw hz ak pa wt cd' ln' ao (vp_updL ov (0 : Int32).toNatClampNeg r.toInt64)) (wb := []) (wc := WM cy q th z sv sn sp bf ty gn hs) (w1 := WM cy q 0 z sv sn sp bf' ln' gn hs) (rest := []) (As := [.int (xs (Int32.ofNat k + 1).toNatClampNeg)]) hF (kX4_append l D cy q _ th z sv sn sp bf ty gn hs (xs (Int32.ofNat k + 1).toNatClampNeg) (r, 0, bf', ln') h4) (cwV 1 hts (pw_gVt (own := RL) (idx := 113) (C := RX4) (y := yX4_append) aw_893 aw_894 aw_895 aw_6 aw_896) rfl rfl rfl pX4_append ⟨Nat.le_of_ble_eq_true rfl, Nat.le_of_ble_eq_true rfl⟩) 4 (RX4, TX4, 9) rfl rfl ⟨0, _, rfl⟩ hK hP hD hS hA (by rw [List.append_nil]) (by rw [List.append_nil]) rfl rfl hl.1 rfl (Nat.le_of_ble_eq_true rfl) dL_law_626 ⟨hR1, hR2⟩ (fun H locs hP hD hS => ?_)
    refine lv_istore (lv' := [(6, .int r), (5, .int 0), (0, .ref b), (1, .ref (qa 0 0)), (2, .ref (q 0)), (3, .ref ao), (4, .int (Int32.ofNat k))]) hx hb dL_law_629 hl (by decide) rfl (fun ls hl => ?_)
    refine lv_aload_n hx hb dL_law_631 rfl (lv_at hl 4 rfl) ?_
    refine pw_fi (r := 0) (ws0 := WL cy qa P T S nw hz ak pa wt cd' ln' ao (vp_updL ov (0 : Int32).toNatClampNeg r.toInt64) ++ WM cy q 0 z sv sn sp bf' ln' gn hs) (ws1 := WL cy qa P T S nw hz ak pa wt cd' ln' ao (vp_updL ov (0 : Int32).toNatClampNeg r.toInt64) ++ WM cy q 0 z sv sn sp bf' ln' gn hs) (wa := WL cy qa P T S nw hz ak pa wt cd' ln' ao (vp_updL ov (0 : Int32).toNatClampNeg r.toInt64)) (wb := []) (wc := WM cy q 0 z sv sn sp bf' ln' gn hs) (w1 := WM cy q 0 z sv sn sp bf' ln' gn hs) (rest := []) (As := []) hF (kX4_thrown l D cy q _ 0 z sv sn sp bf' ln' gn hs 0 rfl) (cwV 0 hts (pw_gVt (own := RL) (idx := 80) (C := RX4) (y := yX4_thrown) aw_714 aw_715 aw_716 aw_6 aw_717) rfl rfl rfl pX4_thrown ⟨Nat.le_of_ble_eq_true rfl, Nat.le_of_ble_eq_true rfl⟩) 4 (RX4, TX4, 9) rfl rfl ⟨0, _, rfl⟩ hK hP hD hS hA (by rw [List.append_nil]) (by rw [List.append_nil]) rfl rfl hl.1 rfl (Nat.le_of_ble_eq_true rfl) dL_law_632 ⟨hR1, hR2⟩ (fun H locs hP hD hS => ?_)
    refine lv_iload hx hb dL_law_635 (lv_at hl 1 rfl) ?_
    refine lv_icmp_eq (tgt := 642) hx hb dL_law_637 (by decide) (fun _ => ?_) (fun c_ => absurd rfl c_)
    refine lv_iload hx hb dL_law_642 (lv_at hl 1 rfl) ?_
    refine lv_if_ne (tgt := 659) hx hb dL_law_644 (by decide) (fun c_ => absurd rfl c_) (fun _ => ?_)
    refine lv_aload_n hx hb dL_law_647 rfl (lv_at hl 5 rfl) ?_
    refine lv_iconst (v := 0) hx hb dL_law_648 (by decide) ?_
    refine va_lald hx hb hK hP 128 3 rfl rfl (pq_vp (by decide)) dL_law_649 ?_
    refine lv_iload hx hb dL_law_650 (lv_at hl 0 rfl) ?_
    refine lv_i2l (v := r.toInt64) hx hb dL_law_652 rfl ?_
    refine W.lcmp hx hb dL_law_653 ?_
    refine lv_if_eq (tgt := 659) hx hb dL_law_654 (by decide) (fun _ => ?_) (fun c_ => absurd ((lg_cmp_eq _ _).mpr rfl) c_)
    refine lv_goto (tgt := 1284) hx hb dL_law_659 (by decide) ?_
    exact kk P T S nw hz ak pa wt cd' ln' (vp_updL ov (0 : Int32).toNatClampNeg r.toInt64) 0 z sv sn sp bf' ln' gn hs H locs ls RA1 hP hD hS ⟨hl.1, hl.2.1, fun x hx9 => hl.2.2 x (List.mem_cons_of_mem _ (List.mem_cons_of_mem _ hx9))⟩
set_option maxHeartbeats 8000000 in
set_option maxRecDepth 100000 in
theorem kA_run {p : Program} {e : Env} {s : State} {m : MethodId} {args : Array Value} {below : List Frame} {meth : Method} {c : Code} (l : Launch) (hfl : l.stackTraces = false) {D : va_G} {cy : Nat → ClassId} {qa : Nat → Nat → Nat} {q : Nat → Nat} {A : Nat → Prop} {b L k ao : Nat} {xs : Nat → Int32} (hx : p.tables.exec = Jvm.exec) (hb : c.code = cL_law) (hF : CallFix p m c cL_law 9 s args pw_all RL) (hK : va_K D vwCl (pw_tys cy) s) (hE : pw_E A s s.heap) (hA : ∀ q : Nat, s.heap.size ≤ q → A q) (hX : va_X b L xs s s.heap) (hbl : b < s.heap.size) (hbA : ¬ A b) (hL : L ≤ 1536) (hk : k + 2 < L) {P T : Nat → Nat → Int32} {S : Nat → Nat → Nat → Int32} {nw hz : Int32} {ak pa wt cd : Nat → Int32} {ln : Int32} {ov : Nat → Int64} {th : Int32} {z sv : Nat → Int32} {sn : Int32} {sp bf : Nat → Int32} {ty : Int32} {gn : Nat → Int32} {hs : Int64} (RAh : RA P S nw hz cd ln z sv sn bf ty) {H : Heap} {locs : List Loc} {ls : Array Slot} {cells slots : Nat} {Q : State → Prop} (hP : va_P D vwCl (WL cy qa P T S nw hz ak pa wt cd ln ao ov ++ WM cy q th z sv sn sp bf ty gn hs) H) (hD : va_D A (WL cy qa P T S nw hz ak pa wt cd ln ao ov ++ WM cy q th z sv sn sp bf ty gn hs)) (hS : va_S A s.heap H locs) (hl : lv_has ls 9 [(0, .ref b), (1, .ref (qa 0 0)), (2, .ref (q 0)), (3, .ref ao), (4, .int (Int32.ofNat k))]) (hR1 : cells + 1 ≤ room_1.cells) (hR2 : slots + 6 ≤ room_1.slots) (kk : ∀ (P T : Nat → Nat → Int32) (S : Nat → Nat → Nat → Int32) (nw hz : Int32) (ak pa wt cd : Nat → Int32) (ln : Int32) (ov : Nat → Int64) (th : Int32) (z sv : Nat → Int32) (sn : Int32) (sp bf : Nat → Int32) (ty : Int32) (gn : Nat → Int32) (hs : Int64) (H : Heap) (locs : List Loc) (ls : Array Slot), RA P S nw hz cd ln z sv sn bf ty → va_P D vwCl (WL cy qa P T S nw hz ak pa wt cd ln ao ov ++ WM cy q th z sv sn sp bf ty gn hs) H → va_D A (WL cy qa P T S nw hz ak pa wt cd ln ao ov ++ WM cy q th z sv sn sp bf ty gn hs) → va_S A s.heap H locs → lv_has ls 9 [(0, .ref b), (1, .ref (qa 0 0)), (2, .ref (q 0)), (3, .ref ao), (4, .int (Int32.ofNat k))] → W p l e room_1 s m args below meth c H locs (cells + 1) (slots + 6) Q (F0 m 1284 ls [])) : W p l e room_1 s m args below meth c H locs cells slots Q (F0 m 688 ls []) := by
  have h1i : vp_in (Int32.ofNat k + 1) L := pw_ix1 hL hk
  have h2i : vp_in (Int32.ofNat k + 2) L := pw_ix2 hL hk
  have hts := hF.2.2.2.2
  rcases c_run RAh th gn with ⟨h3, h4⟩ | ⟨r, P', S', nw', hz', z', sv', sn', gn', h3, h4, RA1⟩
  · skip
    refine lv_aload_n hx hb dL_law_688 rfl (lv_at hl 1 rfl) ?_
    refine lv_aload_n hx hb dL_law_689 rfl (lv_at hl 3 rfl) ?_
    refine pw_lcall (r := 1) (ws0 := WL cy qa P T S nw hz ak pa wt cd ln ao ov ++ WM cy q th z sv sn sp bf ty gn hs) (ws1 := WL cy qa P T S nw hz ak pa wt cd ln ao ov ++ WM cy q th z sv sn sp bf ty gn hs) (wa := []) (wb := WM cy q th z sv sn sp bf ty gn hs) (wc := WL cy qa P T S nw hz ak pa wt cd ln ao ov) (w1 := WL cy qa P T S nw hz ak pa wt cd ln ao ov) (rest := []) (As := [.ref (qa 0 0), .ref ao]) hF (kL_run_t3 l hfl D cy qa _ P T S nw hz ak pa wt cd ln ao ov h3) (vx_cwSW 2 hts (pw_gSW aw_584 aw_585 aw_0 aw_586) rfl rfl rfl pL_run ⟨Nat.le_of_ble_eq_true rfl, Nat.le_of_ble_eq_true rfl⟩) hK hP hD hS hA hE rfl rfl rfl rfl hl.1 rfl (Nat.le_of_ble_eq_true rfl) dL_law_690 ⟨by omega, by omega⟩ (fun H locs hP hD hS => ?_)
    refine lv_istore (lv' := [(5, .int 1), (0, .ref b), (1, .ref (qa 0 0)), (2, .ref (q 0)), (3, .ref ao), (4, .int (Int32.ofNat k))]) hx hb dL_law_693 hl (by decide) rfl (fun ls hl => ?_)
    refine lv_aload_n hx hb dL_law_695 rfl (lv_at hl 3 rfl) ?_
    refine pw_fi (r := 0) (ws0 := WL cy qa P T S nw hz ak pa wt cd ln ao ov ++ WM cy q th z sv sn sp bf ty gn hs) (ws1 := WL cy qa P T S nw hz ak pa wt cd ln ao ov ++ WM cy q 1 z sv sn sp bf ty gn hs) (wa := WL cy qa P T S nw hz ak pa wt cd ln ao ov) (wb := []) (wc := WM cy q th z sv sn sp bf ty gn hs) (w1 := WM cy q 1 z sv sn sp bf ty gn hs) (rest := []) (As := []) hF (kX4_run l D cy q _ th z sv sn sp bf ty gn hs (0, 1, z, sv, sn, ty, gn) h4) (cwV 0 hts (pw_gVt (own := RL) (idx := 125) (C := RX4) (y := yX4_run) aw_913 aw_914 aw_915 aw_6 aw_916) rfl rfl rfl pX4_run ⟨Nat.le_of_ble_eq_true rfl, Nat.le_of_ble_eq_true rfl⟩) 4 (RX4, TX4, 9) rfl rfl ⟨0, _, rfl⟩ hK hP hD hS hA (by rw [List.append_nil]) (by rw [List.append_nil]) rfl rfl hl.1 rfl (Nat.le_of_ble_eq_true rfl) dL_law_696 ⟨hR1, hR2⟩ (fun H locs hP hD hS => ?_)
    refine lv_istore (lv' := [(6, .int 0), (5, .int 1), (0, .ref b), (1, .ref (qa 0 0)), (2, .ref (q 0)), (3, .ref ao), (4, .int (Int32.ofNat k))]) hx hb dL_law_699 hl (by decide) rfl (fun ls hl => ?_)
    refine lv_aload_n hx hb dL_law_701 rfl (lv_at hl 4 rfl) ?_
    refine pw_fi (r := 1) (ws0 := WL cy qa P T S nw hz ak pa wt cd ln ao ov ++ WM cy q 1 z sv sn sp bf ty gn hs) (ws1 := WL cy qa P T S nw hz ak pa wt cd ln ao ov ++ WM cy q 1 z sv sn sp bf ty gn hs) (wa := WL cy qa P T S nw hz ak pa wt cd ln ao ov) (wb := []) (wc := WM cy q 1 z sv sn sp bf ty gn hs) (w1 := WM cy q 1 z sv sn sp bf ty gn hs) (rest := []) (As := []) hF (kX4_thrown l D cy q _ 1 z sv sn sp bf ty gn hs 1 rfl) (cwV 0 hts (pw_gVt (own := RL) (idx := 80) (C := RX4) (y := yX4_thrown) aw_714 aw_715 aw_716 aw_6 aw_717) rfl rfl rfl pX4_thrown ⟨Nat.le_of_ble_eq_true rfl, Nat.le_of_ble_eq_true rfl⟩) 4 (RX4, TX4, 9) rfl rfl ⟨0, _, rfl⟩ hK hP hD hS hA (by rw [List.append_nil]) (by rw [List.append_nil]) rfl rfl hl.1 rfl (Nat.le_of_ble_eq_true rfl) dL_law_702 ⟨hR1, hR2⟩ (fun H locs hP hD hS => ?_)
    refine lv_iload hx hb dL_law_705 (lv_at hl 1 rfl) ?_
    refine lv_icmp_eq (tgt := 712) hx hb dL_law_707 (by decide) (fun _ => ?_) (fun c_ => absurd rfl c_)
    refine lv_iload hx hb dL_law_712 (lv_at hl 1 rfl) ?_
    refine lv_if_ne (tgt := 729) hx hb dL_law_714 (by decide) (fun _ => ?_) (fun c_ => absurd c_ (by decide))
    refine lv_goto (tgt := 1284) hx hb dL_law_729 (by decide) ?_
    exact kk P T S nw hz ak pa wt cd ln ov 1 z sv sn sp bf ty gn hs H locs ls RAh hP hD hS ⟨hl.1, hl.2.1, fun x hx9 => hl.2.2 x (List.mem_cons_of_mem _ (List.mem_cons_of_mem _ hx9))⟩
  · skip
    refine lv_aload_n hx hb dL_law_688 rfl (lv_at hl 1 rfl) ?_
    refine lv_aload_n hx hb dL_law_689 rfl (lv_at hl 3 rfl) ?_
    refine pw_lcall (r := 0) (ws0 := WL cy qa P T S nw hz ak pa wt cd ln ao ov ++ WM cy q th z sv sn sp bf ty gn hs) (ws1 := WL cy qa P' T S' nw' hz' ak pa wt cd 0 ao (vp_updL ov (0 : Int32).toNatClampNeg r.toInt64) ++ WM cy q th z sv sn sp bf ty gn hs) (wa := []) (wb := WM cy q th z sv sn sp bf ty gn hs) (wc := WL cy qa P T S nw hz ak pa wt cd ln ao ov) (w1 := WL cy qa P' T S' nw' hz' ak pa wt cd 0 ao (vp_updL ov (0 : Int32).toNatClampNeg r.toInt64)) (rest := []) (As := [.ref (qa 0 0), .ref ao]) hF (kL_run_r l hfl D cy qa _ P T S nw hz ak pa wt cd ln ao ov (r, P', S', nw', hz', 0) h3) (vx_cwSW 2 hts (pw_gSW aw_584 aw_585 aw_0 aw_586) rfl rfl rfl pL_run ⟨Nat.le_of_ble_eq_true rfl, Nat.le_of_ble_eq_true rfl⟩) hK hP hD hS hA hE rfl rfl rfl rfl hl.1 rfl (Nat.le_of_ble_eq_true rfl) dL_law_690 ⟨by omega, by omega⟩ (fun H locs hP hD hS => ?_)
    refine W.widen (k := cells + 1) (n := slots + 6) (by omega) (by omega) ?_
    refine lv_istore (lv' := [(5, .int 0), (0, .ref b), (1, .ref (qa 0 0)), (2, .ref (q 0)), (3, .ref ao), (4, .int (Int32.ofNat k))]) hx hb dL_law_693 hl (by decide) rfl (fun ls hl => ?_)
    refine lv_aload_n hx hb dL_law_695 rfl (lv_at hl 3 rfl) ?_
    refine pw_fi (r := r) (ws0 := WL cy qa P' T S' nw' hz' ak pa wt cd 0 ao (vp_updL ov (0 : Int32).toNatClampNeg r.toInt64) ++ WM cy q th z sv sn sp bf ty gn hs) (ws1 := WL cy qa P' T S' nw' hz' ak pa wt cd 0 ao (vp_updL ov (0 : Int32).toNatClampNeg r.toInt64) ++ WM cy q 0 z' sv' sn' sp bf 0 gn' hs) (wa := WL cy qa P' T S' nw' hz' ak pa wt cd 0 ao (vp_updL ov (0 : Int32).toNatClampNeg r.toInt64)) (wb := []) (wc := WM cy q th z sv sn sp bf ty gn hs) (w1 := WM cy q 0 z' sv' sn' sp bf 0 gn' hs) (rest := []) (As := []) hF (kX4_run l D cy q _ th z sv sn sp bf ty gn hs (r, 0, z', sv', sn', 0, gn') h4) (cwV 0 hts (pw_gVt (own := RL) (idx := 125) (C := RX4) (y := yX4_run) aw_913 aw_914 aw_915 aw_6 aw_916) rfl rfl rfl pX4_run ⟨Nat.le_of_ble_eq_true rfl, Nat.le_of_ble_eq_true rfl⟩) 4 (RX4, TX4, 9) rfl rfl ⟨0, _, rfl⟩ hK hP hD hS hA (by rw [List.append_nil]) (by rw [List.append_nil]) rfl rfl hl.1 rfl (Nat.le_of_ble_eq_true rfl) dL_law_696 ⟨hR1, hR2⟩ (fun H locs hP hD hS => ?_)
    refine lv_istore (lv' := [(6, .int r), (5, .int 0), (0, .ref b), (1, .ref (qa 0 0)), (2, .ref (q 0)), (3, .ref ao), (4, .int (Int32.ofNat k))]) hx hb dL_law_699 hl (by decide) rfl (fun ls hl => ?_)
    refine lv_aload_n hx hb dL_law_701 rfl (lv_at hl 4 rfl) ?_
    refine pw_fi (r := 0) (ws0 := WL cy qa P' T S' nw' hz' ak pa wt cd 0 ao (vp_updL ov (0 : Int32).toNatClampNeg r.toInt64) ++ WM cy q 0 z' sv' sn' sp bf 0 gn' hs) (ws1 := WL cy qa P' T S' nw' hz' ak pa wt cd 0 ao (vp_updL ov (0 : Int32).toNatClampNeg r.toInt64) ++ WM cy q 0 z' sv' sn' sp bf 0 gn' hs) (wa := WL cy qa P' T S' nw' hz' ak pa wt cd 0 ao (vp_updL ov (0 : Int32).toNatClampNeg r.toInt64)) (wb := []) (wc := WM cy q 0 z' sv' sn' sp bf 0 gn' hs) (w1 := WM cy q 0 z' sv' sn' sp bf 0 gn' hs) (rest := []) (As := []) hF (kX4_thrown l D cy q _ 0 z' sv' sn' sp bf 0 gn' hs 0 rfl) (cwV 0 hts (pw_gVt (own := RL) (idx := 80) (C := RX4) (y := yX4_thrown) aw_714 aw_715 aw_716 aw_6 aw_717) rfl rfl rfl pX4_thrown ⟨Nat.le_of_ble_eq_true rfl, Nat.le_of_ble_eq_true rfl⟩) 4 (RX4, TX4, 9) rfl rfl ⟨0, _, rfl⟩ hK hP hD hS hA (by rw [List.append_nil]) (by rw [List.append_nil]) rfl rfl hl.1 rfl (Nat.le_of_ble_eq_true rfl) dL_law_702 ⟨hR1, hR2⟩ (fun H locs hP hD hS => ?_)
    refine lv_iload hx hb dL_law_705 (lv_at hl 1 rfl) ?_
    refine lv_icmp_eq (tgt := 712) hx hb dL_law_707 (by decide) (fun _ => ?_) (fun c_ => absurd rfl c_)
    refine lv_iload hx hb dL_law_712 (lv_at hl 1 rfl) ?_
    refine lv_if_ne (tgt := 729) hx hb dL_law_714 (by decide) (fun c_ => absurd rfl c_) (fun _ => ?_)
    refine lv_aload_n hx hb dL_law_717 rfl (lv_at hl 5 rfl) ?_
    refine lv_iconst (v := 0) hx hb dL_law_718 (by decide) ?_
    refine va_lald hx hb hK hP 128 3 rfl rfl (pq_vp (by decide)) dL_law_719 ?_
    refine lv_iload hx hb dL_law_720 (lv_at hl 0 rfl) ?_
    refine lv_i2l (v := r.toInt64) hx hb dL_law_722 rfl ?_
    refine W.lcmp hx hb dL_law_723 ?_
    refine lv_if_eq (tgt := 729) hx hb dL_law_724 (by decide) (fun _ => ?_) (fun c_ => absurd ((lg_cmp_eq _ _).mpr rfl) c_)
    refine lv_goto (tgt := 1284) hx hb dL_law_729 (by decide) ?_
    exact kk P' T S' nw' hz' ak pa wt cd 0 (vp_updL ov (0 : Int32).toNatClampNeg r.toInt64) 0 z' sv' sn' sp bf 0 gn' hs H locs ls RA1 hP hD hS ⟨hl.1, hl.2.1, fun x hx9 => hl.2.2 x (List.mem_cons_of_mem _ (List.mem_cons_of_mem _ hx9))⟩
set_option maxHeartbeats 8000000 in
set_option maxRecDepth 100000 in
theorem kA_undo {p : Program} {e : Env} {s : State} {m : MethodId} {args : Array Value} {below : List Frame} {meth : Method} {c : Code} (l : Launch) (hfl : l.stackTraces = false) {D : va_G} {cy : Nat → ClassId} {qa : Nat → Nat → Nat} {q : Nat → Nat} {A : Nat → Prop} {b L k ao : Nat} {xs : Nat → Int32} (hx : p.tables.exec = Jvm.exec) (hb : c.code = cL_law) (hF : CallFix p m c cL_law 9 s args pw_all RL) (hK : va_K D vwCl (pw_tys cy) s) (hE : pw_E A s s.heap) (hA : ∀ q : Nat, s.heap.size ≤ q → A q) (hX : va_X b L xs s s.heap) (hbl : b < s.heap.size) (hbA : ¬ A b) (hL : L ≤ 1536) (hk : k + 2 < L) {P T : Nat → Nat → Int32} {S : Nat → Nat → Nat → Int32} {nw hz : Int32} {ak pa wt cd : Nat → Int32} {ln : Int32} {ov : Nat → Int64} {th : Int32} {z sv : Nat → Int32} {sn : Int32} {sp bf : Nat → Int32} {ty : Int32} {gn : Nat → Int32} {hs : Int64} (RAh : RA P S nw hz cd ln z sv sn bf ty) {H : Heap} {locs : List Loc} {ls : Array Slot} {cells slots : Nat} {Q : State → Prop} (hP : va_P D vwCl (WL cy qa P T S nw hz ak pa wt cd ln ao ov ++ WM cy q th z sv sn sp bf ty gn hs) H) (hD : va_D A (WL cy qa P T S nw hz ak pa wt cd ln ao ov ++ WM cy q th z sv sn sp bf ty gn hs)) (hS : va_S A s.heap H locs) (hl : lv_has ls 9 [(0, .ref b), (1, .ref (qa 0 0)), (2, .ref (q 0)), (3, .ref ao), (4, .int (Int32.ofNat k))]) (hR1 : cells + 1 ≤ room_1.cells) (hR2 : slots + 6 ≤ room_1.slots) (kk : ∀ (P T : Nat → Nat → Int32) (S : Nat → Nat → Nat → Int32) (nw hz : Int32) (ak pa wt cd : Nat → Int32) (ln : Int32) (ov : Nat → Int64) (th : Int32) (z sv : Nat → Int32) (sn : Int32) (sp bf : Nat → Int32) (ty : Int32) (gn : Nat → Int32) (hs : Int64) (H : Heap) (locs : List Loc) (ls : Array Slot), RA P S nw hz cd ln z sv sn bf ty → va_P D vwCl (WL cy qa P T S nw hz ak pa wt cd ln ao ov ++ WM cy q th z sv sn sp bf ty gn hs) H → va_D A (WL cy qa P T S nw hz ak pa wt cd ln ao ov ++ WM cy q th z sv sn sp bf ty gn hs) → va_S A s.heap H locs → lv_has ls 9 [(0, .ref b), (1, .ref (qa 0 0)), (2, .ref (q 0)), (3, .ref ao), (4, .int (Int32.ofNat k))] → W p l e room_1 s m args below meth c H locs (cells + 1) (slots + 6) Q (F0 m 1284 ls [])) : W p l e room_1 s m args below meth c H locs cells slots Q (F0 m 732 ls []) := by
  have h1i : vp_in (Int32.ofNat k + 1) L := pw_ix1 hL hk
  have h2i : vp_in (Int32.ofNat k + 2) L := pw_ix2 hL hk
  have hts := hF.2.2.2.2
  rcases c_undo RAh th with ⟨h3, h4⟩ | ⟨r, P', nw', hz', z', sn', h3, h4, RA1⟩
  · skip
    refine lv_aload_n hx hb dL_law_732 rfl (lv_at hl 1 rfl) ?_
    refine lv_aload_n hx hb dL_law_733 rfl (lv_at hl 3 rfl) ?_
    refine pw_lcall (r := 1) (ws0 := WL cy qa P T S nw hz ak pa wt cd ln ao ov ++ WM cy q th z sv sn sp bf ty gn hs) (ws1 := WL cy qa P T S nw hz ak pa wt cd ln ao ov ++ WM cy q th z sv sn sp bf ty gn hs) (wa := []) (wb := WM cy q th z sv sn sp bf ty gn hs) (wc := WL cy qa P T S nw hz ak pa wt cd ln ao ov) (w1 := WL cy qa P T S nw hz ak pa wt cd ln ao ov) (rest := []) (As := [.ref (qa 0 0), .ref ao]) hF (kL_undo_t2 l hfl D cy qa _ P T S nw hz ak pa wt cd ln ao ov h3) (vx_cwSW 2 hts (pw_gSW aw_613 aw_614 aw_0 aw_615) rfl rfl rfl pL_undo ⟨Nat.le_of_ble_eq_true rfl, Nat.le_of_ble_eq_true rfl⟩) hK hP hD hS hA hE rfl rfl rfl rfl hl.1 rfl (Nat.le_of_ble_eq_true rfl) dL_law_734 ⟨by omega, by omega⟩ (fun H locs hP hD hS => ?_)
    refine lv_istore (lv' := [(5, .int 1), (0, .ref b), (1, .ref (qa 0 0)), (2, .ref (q 0)), (3, .ref ao), (4, .int (Int32.ofNat k))]) hx hb dL_law_737 hl (by decide) rfl (fun ls hl => ?_)
    refine lv_aload_n hx hb dL_law_739 rfl (lv_at hl 3 rfl) ?_
    refine pw_fi (r := 0) (ws0 := WL cy qa P T S nw hz ak pa wt cd ln ao ov ++ WM cy q th z sv sn sp bf ty gn hs) (ws1 := WL cy qa P T S nw hz ak pa wt cd ln ao ov ++ WM cy q 1 z sv sn sp bf ty gn hs) (wa := WL cy qa P T S nw hz ak pa wt cd ln ao ov) (wb := []) (wc := WM cy q th z sv sn sp bf ty gn hs) (w1 := WM cy q 1 z sv sn sp bf ty gn hs) (rest := []) (As := []) hF (kX4_undo l D cy q _ th z sv sn sp bf ty gn hs (0, 1, z, sn) h4) (cwV 0 hts (pw_gVt (own := RL) (idx := 128) (C := RX4) (y := yX4_undo) aw_718 aw_719 aw_720 aw_6 aw_721) rfl rfl rfl pX4_undo ⟨Nat.le_of_ble_eq_true rfl, Nat.le_of_ble_eq_true rfl⟩) 4 (RX4, TX4, 9) rfl rfl ⟨0, _, rfl⟩ hK hP hD hS hA (by rw [List.append_nil]) (by rw [List.append_nil]) rfl rfl hl.1 rfl (Nat.le_of_ble_eq_true rfl) dL_law_740 ⟨hR1, hR2⟩ (fun H locs hP hD hS => ?_)
    refine lv_istore (lv' := [(6, .int 0), (5, .int 1), (0, .ref b), (1, .ref (qa 0 0)), (2, .ref (q 0)), (3, .ref ao), (4, .int (Int32.ofNat k))]) hx hb dL_law_743 hl (by decide) rfl (fun ls hl => ?_)
    refine lv_aload_n hx hb dL_law_745 rfl (lv_at hl 4 rfl) ?_
    refine pw_fi (r := 1) (ws0 := WL cy qa P T S nw hz ak pa wt cd ln ao ov ++ WM cy q 1 z sv sn sp bf ty gn hs) (ws1 := WL cy qa P T S nw hz ak pa wt cd ln ao ov ++ WM cy q 1 z sv sn sp bf ty gn hs) (wa := WL cy qa P T S nw hz ak pa wt cd ln ao ov) (wb := []) (wc := WM cy q 1 z sv sn sp bf ty gn hs) (w1 := WM cy q 1 z sv sn sp bf ty gn hs) (rest := []) (As := []) hF (kX4_thrown l D cy q _ 1 z sv sn sp bf ty gn hs 1 rfl) (cwV 0 hts (pw_gVt (own := RL) (idx := 80) (C := RX4) (y := yX4_thrown) aw_714 aw_715 aw_716 aw_6 aw_717) rfl rfl rfl pX4_thrown ⟨Nat.le_of_ble_eq_true rfl, Nat.le_of_ble_eq_true rfl⟩) 4 (RX4, TX4, 9) rfl rfl ⟨0, _, rfl⟩ hK hP hD hS hA (by rw [List.append_nil]) (by rw [List.append_nil]) rfl rfl hl.1 rfl (Nat.le_of_ble_eq_true rfl) dL_law_746 ⟨hR1, hR2⟩ (fun H locs hP hD hS => ?_)
    refine lv_iload hx hb dL_law_749 (lv_at hl 1 rfl) ?_
    refine lv_icmp_eq (tgt := 756) hx hb dL_law_751 (by decide) (fun _ => ?_) (fun c_ => absurd rfl c_)
    refine lv_iload hx hb dL_law_756 (lv_at hl 1 rfl) ?_
    refine lv_if_ne (tgt := 773) hx hb dL_law_758 (by decide) (fun _ => ?_) (fun c_ => absurd c_ (by decide))
    refine lv_goto (tgt := 1284) hx hb dL_law_773 (by decide) ?_
    exact kk P T S nw hz ak pa wt cd ln ov 1 z sv sn sp bf ty gn hs H locs ls RAh hP hD hS ⟨hl.1, hl.2.1, fun x hx9 => hl.2.2 x (List.mem_cons_of_mem _ (List.mem_cons_of_mem _ hx9))⟩
  · skip
    refine lv_aload_n hx hb dL_law_732 rfl (lv_at hl 1 rfl) ?_
    refine lv_aload_n hx hb dL_law_733 rfl (lv_at hl 3 rfl) ?_
    refine pw_lcall (r := 0) (ws0 := WL cy qa P T S nw hz ak pa wt cd ln ao ov ++ WM cy q th z sv sn sp bf ty gn hs) (ws1 := WL cy qa P' T S nw' hz' ak pa wt cd ln ao (vp_updL ov (0 : Int32).toNatClampNeg r.toInt64) ++ WM cy q th z sv sn sp bf ty gn hs) (wa := []) (wb := WM cy q th z sv sn sp bf ty gn hs) (wc := WL cy qa P T S nw hz ak pa wt cd ln ao ov) (w1 := WL cy qa P' T S nw' hz' ak pa wt cd ln ao (vp_updL ov (0 : Int32).toNatClampNeg r.toInt64)) (rest := []) (As := [.ref (qa 0 0), .ref ao]) hF (kL_undo_r l hfl D cy qa _ P T S nw hz ak pa wt cd ln ao ov (r, P', nw', hz') h3) (vx_cwSW 2 hts (pw_gSW aw_613 aw_614 aw_0 aw_615) rfl rfl rfl pL_undo ⟨Nat.le_of_ble_eq_true rfl, Nat.le_of_ble_eq_true rfl⟩) hK hP hD hS hA hE rfl rfl rfl rfl hl.1 rfl (Nat.le_of_ble_eq_true rfl) dL_law_734 ⟨by omega, by omega⟩ (fun H locs hP hD hS => ?_)
    refine W.widen (k := cells + 1) (n := slots + 6) (by omega) (by omega) ?_
    refine lv_istore (lv' := [(5, .int 0), (0, .ref b), (1, .ref (qa 0 0)), (2, .ref (q 0)), (3, .ref ao), (4, .int (Int32.ofNat k))]) hx hb dL_law_737 hl (by decide) rfl (fun ls hl => ?_)
    refine lv_aload_n hx hb dL_law_739 rfl (lv_at hl 3 rfl) ?_
    refine pw_fi (r := r) (ws0 := WL cy qa P' T S nw' hz' ak pa wt cd ln ao (vp_updL ov (0 : Int32).toNatClampNeg r.toInt64) ++ WM cy q th z sv sn sp bf ty gn hs) (ws1 := WL cy qa P' T S nw' hz' ak pa wt cd ln ao (vp_updL ov (0 : Int32).toNatClampNeg r.toInt64) ++ WM cy q 0 z' sv sn' sp bf ty gn hs) (wa := WL cy qa P' T S nw' hz' ak pa wt cd ln ao (vp_updL ov (0 : Int32).toNatClampNeg r.toInt64)) (wb := []) (wc := WM cy q th z sv sn sp bf ty gn hs) (w1 := WM cy q 0 z' sv sn' sp bf ty gn hs) (rest := []) (As := []) hF (kX4_undo l D cy q _ th z sv sn sp bf ty gn hs (r, 0, z', sn') h4) (cwV 0 hts (pw_gVt (own := RL) (idx := 128) (C := RX4) (y := yX4_undo) aw_718 aw_719 aw_720 aw_6 aw_721) rfl rfl rfl pX4_undo ⟨Nat.le_of_ble_eq_true rfl, Nat.le_of_ble_eq_true rfl⟩) 4 (RX4, TX4, 9) rfl rfl ⟨0, _, rfl⟩ hK hP hD hS hA (by rw [List.append_nil]) (by rw [List.append_nil]) rfl rfl hl.1 rfl (Nat.le_of_ble_eq_true rfl) dL_law_740 ⟨hR1, hR2⟩ (fun H locs hP hD hS => ?_)
    refine lv_istore (lv' := [(6, .int r), (5, .int 0), (0, .ref b), (1, .ref (qa 0 0)), (2, .ref (q 0)), (3, .ref ao), (4, .int (Int32.ofNat k))]) hx hb dL_law_743 hl (by decide) rfl (fun ls hl => ?_)
    refine lv_aload_n hx hb dL_law_745 rfl (lv_at hl 4 rfl) ?_
    refine pw_fi (r := 0) (ws0 := WL cy qa P' T S nw' hz' ak pa wt cd ln ao (vp_updL ov (0 : Int32).toNatClampNeg r.toInt64) ++ WM cy q 0 z' sv sn' sp bf ty gn hs) (ws1 := WL cy qa P' T S nw' hz' ak pa wt cd ln ao (vp_updL ov (0 : Int32).toNatClampNeg r.toInt64) ++ WM cy q 0 z' sv sn' sp bf ty gn hs) (wa := WL cy qa P' T S nw' hz' ak pa wt cd ln ao (vp_updL ov (0 : Int32).toNatClampNeg r.toInt64)) (wb := []) (wc := WM cy q 0 z' sv sn' sp bf ty gn hs) (w1 := WM cy q 0 z' sv sn' sp bf ty gn hs) (rest := []) (As := []) hF (kX4_thrown l D cy q _ 0 z' sv sn' sp bf ty gn hs 0 rfl) (cwV 0 hts (pw_gVt (own := RL) (idx := 80) (C := RX4) (y := yX4_thrown) aw_714 aw_715 aw_716 aw_6 aw_717) rfl rfl rfl pX4_thrown ⟨Nat.le_of_ble_eq_true rfl, Nat.le_of_ble_eq_true rfl⟩) 4 (RX4, TX4, 9) rfl rfl ⟨0, _, rfl⟩ hK hP hD hS hA (by rw [List.append_nil]) (by rw [List.append_nil]) rfl rfl hl.1 rfl (Nat.le_of_ble_eq_true rfl) dL_law_746 ⟨hR1, hR2⟩ (fun H locs hP hD hS => ?_)
    refine lv_iload hx hb dL_law_749 (lv_at hl 1 rfl) ?_
    refine lv_icmp_eq (tgt := 756) hx hb dL_law_751 (by decide) (fun _ => ?_) (fun c_ => absurd rfl c_)
    refine lv_iload hx hb dL_law_756 (lv_at hl 1 rfl) ?_
    refine lv_if_ne (tgt := 773) hx hb dL_law_758 (by decide) (fun c_ => absurd rfl c_) (fun _ => ?_)
    refine lv_aload_n hx hb dL_law_761 rfl (lv_at hl 5 rfl) ?_
    refine lv_iconst (v := 0) hx hb dL_law_762 (by decide) ?_
    refine va_lald hx hb hK hP 128 3 rfl rfl (pq_vp (by decide)) dL_law_763 ?_
    refine lv_iload hx hb dL_law_764 (lv_at hl 0 rfl) ?_
    refine lv_i2l (v := r.toInt64) hx hb dL_law_766 rfl ?_
    refine W.lcmp hx hb dL_law_767 ?_
    refine lv_if_eq (tgt := 773) hx hb dL_law_768 (by decide) (fun _ => ?_) (fun c_ => absurd ((lg_cmp_eq _ _).mpr rfl) c_)
    refine lv_goto (tgt := 1284) hx hb dL_law_773 (by decide) ?_
    exact kk P' T S nw' hz' ak pa wt cd ln (vp_updL ov (0 : Int32).toNatClampNeg r.toInt64) 0 z' sv sn' sp bf ty gn hs H locs ls RA1 hP hD hS ⟨hl.1, hl.2.1, fun x hx9 => hl.2.2 x (List.mem_cons_of_mem _ (List.mem_cons_of_mem _ hx9))⟩
set_option maxHeartbeats 8000000 in
set_option maxRecDepth 100000 in
theorem kA_place {p : Program} {e : Env} {s : State} {m : MethodId} {args : Array Value} {below : List Frame} {meth : Method} {c : Code} (l : Launch) (hfl : l.stackTraces = false) {D : va_G} {cy : Nat → ClassId} {qa : Nat → Nat → Nat} {q : Nat → Nat} {A : Nat → Prop} {b L k ao : Nat} {xs : Nat → Int32} (hx : p.tables.exec = Jvm.exec) (hb : c.code = cL_law) (hF : CallFix p m c cL_law 9 s args pw_all RL) (hK : va_K D vwCl (pw_tys cy) s) (hE : pw_E A s s.heap) (hA : ∀ q : Nat, s.heap.size ≤ q → A q) (hX : va_X b L xs s s.heap) (hbl : b < s.heap.size) (hbA : ¬ A b) (hL : L ≤ 1536) (hk : k + 2 < L) {P T : Nat → Nat → Int32} {S : Nat → Nat → Nat → Int32} {nw hz : Int32} {ak pa wt cd : Nat → Int32} {ln : Int32} {ov : Nat → Int64} {th : Int32} {z sv : Nat → Int32} {sn : Int32} {sp bf : Nat → Int32} {ty : Int32} {gn : Nat → Int32} {hs : Int64} (RAh : RA P S nw hz cd ln z sv sn bf ty) {H : Heap} {locs : List Loc} {ls : Array Slot} {cells slots : Nat} {Q : State → Prop} (hP : va_P D vwCl (WL cy qa P T S nw hz ak pa wt cd ln ao ov ++ WM cy q th z sv sn sp bf ty gn hs) H) (hD : va_D A (WL cy qa P T S nw hz ak pa wt cd ln ao ov ++ WM cy q th z sv sn sp bf ty gn hs)) (hS : va_S A s.heap H locs) (hl : lv_has ls 9 [(0, .ref b), (1, .ref (qa 0 0)), (2, .ref (q 0)), (3, .ref ao), (4, .int (Int32.ofNat k))]) (hR1 : cells + 1 ≤ room_1.cells) (hR2 : slots + 6 ≤ room_1.slots) (kk : ∀ (P T : Nat → Nat → Int32) (S : Nat → Nat → Nat → Int32) (nw hz : Int32) (ak pa wt cd : Nat → Int32) (ln : Int32) (ov : Nat → Int64) (th : Int32) (z sv : Nat → Int32) (sn : Int32) (sp bf : Nat → Int32) (ty : Int32) (gn : Nat → Int32) (hs : Int64) (H : Heap) (locs : List Loc) (ls : Array Slot), RA P S nw hz cd ln z sv sn bf ty → va_P D vwCl (WL cy qa P T S nw hz ak pa wt cd ln ao ov ++ WM cy q th z sv sn sp bf ty gn hs) H → va_D A (WL cy qa P T S nw hz ak pa wt cd ln ao ov ++ WM cy q th z sv sn sp bf ty gn hs) → va_S A s.heap H locs → lv_has ls 9 [(0, .ref b), (1, .ref (qa 0 0)), (2, .ref (q 0)), (3, .ref ao), (4, .int (Int32.ofNat k))] → W p l e room_1 s m args below meth c H locs (cells + 1) (slots + 6) Q (F0 m 1284 ls [])) : W p l e room_1 s m args below meth c H locs cells slots Q (F0 m 776 ls []) := by
  have h1i : vp_in (Int32.ofNat k + 1) L := pw_ix1 hL hk
  have h2i : vp_in (Int32.ofNat k + 2) L := pw_ix2 hL hk
  have hts := hF.2.2.2.2
  rcases c_place RAh (xs (Int32.ofNat k + 1).toNatClampNeg) (xs (Int32.ofNat k + 2).toNatClampNeg) th with (⟨h3, h4⟩ | ⟨h3, h4⟩) | ⟨r, h3, h4⟩
  · skip
    refine lv_aload_n hx hb dL_law_776 rfl (lv_at hl 1 rfl) ?_
    refine lv_aload_n hx hb dL_law_777 rfl (lv_at hl 0 rfl) ?_
    refine lv_iload hx hb dL_law_778 (lv_at hl 4 rfl) ?_
    refine lv_iconst (v := 1) hx hb dL_law_780 (by decide) ?_
    refine lv_iadd hx hb dL_law_781 ?_
    refine va_sld hx hb hX hbl hbA hS h1i dL_law_782 ?_
    refine lv_aload_n hx hb dL_law_783 rfl (lv_at hl 0 rfl) ?_
    refine lv_iload hx hb dL_law_784 (lv_at hl 4 rfl) ?_
    refine lv_iconst (v := 2) hx hb dL_law_786 (by decide) ?_
    refine lv_iadd hx hb dL_law_787 ?_
    refine va_sld hx hb hX hbl hbA hS h2i dL_law_788 ?_
    refine lv_aload_n hx hb dL_law_789 rfl (lv_at hl 3 rfl) ?_
    refine pw_lcall (r := 1) (ws0 := WL cy qa P T S nw hz ak pa wt cd ln ao ov ++ WM cy q th z sv sn sp bf ty gn hs) (ws1 := WL cy qa P T S nw hz ak pa wt cd ln ao ov ++ WM cy q th z sv sn sp bf ty gn hs) (wa := []) (wb := WM cy q th z sv sn sp bf ty gn hs) (wc := WL cy qa P T S nw hz ak pa wt cd ln ao ov) (w1 := WL cy qa P T S nw hz ak pa wt cd ln ao ov) (rest := []) (As := [.ref (qa 0 0), .int (xs (Int32.ofNat k + 1).toNatClampNeg), .int (xs (Int32.ofNat k + 2).toNatClampNeg), .ref ao]) hF (kL_place_t1 l hfl D cy qa _ P T S nw hz ak pa wt cd ln ao ov (xs (Int32.ofNat k + 1).toNatClampNeg) (xs (Int32.ofNat k + 2).toNatClampNeg) h3) (vx_cwSW 4 hts (pw_gSW aw_625 aw_626 aw_0 aw_627) rfl rfl rfl pL_place ⟨Nat.le_of_ble_eq_true rfl, Nat.le_of_ble_eq_true rfl⟩) hK hP hD hS hA hE rfl rfl rfl rfl hl.1 rfl (Nat.le_of_ble_eq_true rfl) dL_law_790 ⟨by omega, by omega⟩ (fun H locs hP hD hS => ?_)
    refine lv_istore (lv' := [(5, .int 1), (0, .ref b), (1, .ref (qa 0 0)), (2, .ref (q 0)), (3, .ref ao), (4, .int (Int32.ofNat k))]) hx hb dL_law_793 hl (by decide) rfl (fun ls hl => ?_)
    refine lv_aload_n hx hb dL_law_795 rfl (lv_at hl 3 rfl) ?_
    refine lv_aload_n hx hb dL_law_796 rfl (lv_at hl 1 rfl) ?_
    refine lv_iload hx hb dL_law_797 (lv_at hl 5 rfl) ?_
    refine lv_iconst (v := 1) hx hb dL_law_799 (by decide) ?_
    refine lv_iadd hx hb dL_law_800 ?_
    refine va_sld hx hb hX hbl hbA hS h1i dL_law_801 ?_
    refine lv_aload_n hx hb dL_law_802 rfl (lv_at hl 1 rfl) ?_
    refine lv_iload hx hb dL_law_803 (lv_at hl 5 rfl) ?_
    refine lv_iconst (v := 2) hx hb dL_law_805 (by decide) ?_
    refine lv_iadd hx hb dL_law_806 ?_
    refine va_sld hx hb hX hbl hbA hS h2i dL_law_807 ?_
    refine pw_fi (r := 0) (ws0 := WL cy qa P T S nw hz ak pa wt cd ln ao ov ++ WM cy q th z sv sn sp bf ty gn hs) (ws1 := WL cy qa P T S nw hz ak pa wt cd ln ao ov ++ WM cy q 1 z sv sn sp bf ty gn hs) (wa := WL cy qa P T S nw hz ak pa wt cd ln ao ov) (wb := []) (wc := WM cy q th z sv sn sp bf ty gn hs) (w1 := WM cy q 1 z sv sn sp bf ty gn hs) (rest := []) (As := [.int (xs (Int32.ofNat k + 1).toNatClampNeg), .int (xs (Int32.ofNat k + 2).toNatClampNeg)]) hF (kX4_place l D cy q _ th z sv sn sp bf ty gn hs (xs (Int32.ofNat k + 1).toNatClampNeg) (xs (Int32.ofNat k + 2).toNatClampNeg) (0, 1) h4) (cwV 2 hts (pw_gVt (own := RL) (idx := 131) (C := RX4) (y := yX4_place) aw_921 aw_922 aw_923 aw_6 aw_924) rfl rfl rfl pX4_place ⟨Nat.le_of_ble_eq_true rfl, Nat.le_of_ble_eq_true rfl⟩) 4 (RX4, TX4, 9) rfl rfl ⟨0, _, rfl⟩ hK hP hD hS hA (by rw [List.append_nil]) (by rw [List.append_nil]) rfl rfl hl.1 rfl (Nat.le_of_ble_eq_true rfl) dL_law_808 ⟨hR1, hR2⟩ (fun H locs hP hD hS => ?_)
    refine lv_istore (lv' := [(6, .int 0), (5, .int 1), (0, .ref b), (1, .ref (qa 0 0)), (2, .ref (q 0)), (3, .ref ao), (4, .int (Int32.ofNat k))]) hx hb dL_law_811 hl (by decide) rfl (fun ls hl => ?_)
    refine lv_aload_n hx hb dL_law_813 rfl (lv_at hl 4 rfl) ?_
    refine pw_fi (r := 1) (ws0 := WL cy qa P T S nw hz ak pa wt cd ln ao ov ++ WM cy q 1 z sv sn sp bf ty gn hs) (ws1 := WL cy qa P T S nw hz ak pa wt cd ln ao ov ++ WM cy q 1 z sv sn sp bf ty gn hs) (wa := WL cy qa P T S nw hz ak pa wt cd ln ao ov) (wb := []) (wc := WM cy q 1 z sv sn sp bf ty gn hs) (w1 := WM cy q 1 z sv sn sp bf ty gn hs) (rest := []) (As := []) hF (kX4_thrown l D cy q _ 1 z sv sn sp bf ty gn hs 1 rfl) (cwV 0 hts (pw_gVt (own := RL) (idx := 80) (C := RX4) (y := yX4_thrown) aw_714 aw_715 aw_716 aw_6 aw_717) rfl rfl rfl pX4_thrown ⟨Nat.le_of_ble_eq_true rfl, Nat.le_of_ble_eq_true rfl⟩) 4 (RX4, TX4, 9) rfl rfl ⟨0, _, rfl⟩ hK hP hD hS hA (by rw [List.append_nil]) (by rw [List.append_nil]) rfl rfl hl.1 rfl (Nat.le_of_ble_eq_true rfl) dL_law_814 ⟨hR1, hR2⟩ (fun H locs hP hD hS => ?_)
    refine lv_iload hx hb dL_law_817 (lv_at hl 1 rfl) ?_
    refine lv_icmp_eq (tgt := 824) hx hb dL_law_819 (by decide) (fun _ => ?_) (fun c_ => absurd rfl c_)
    refine lv_iload hx hb dL_law_824 (lv_at hl 1 rfl) ?_
    refine lv_if_ne (tgt := 841) hx hb dL_law_826 (by decide) (fun _ => ?_) (fun c_ => absurd c_ (by decide))
    refine lv_goto (tgt := 1284) hx hb dL_law_841 (by decide) ?_
    exact kk P T S nw hz ak pa wt cd ln ov 1 z sv sn sp bf ty gn hs H locs ls RAh hP hD hS ⟨hl.1, hl.2.1, fun x hx9 => hl.2.2 x (List.mem_cons_of_mem _ (List.mem_cons_of_mem _ hx9))⟩
  · skip
    refine lv_aload_n hx hb dL_law_776 rfl (lv_at hl 1 rfl) ?_
    refine lv_aload_n hx hb dL_law_777 rfl (lv_at hl 0 rfl) ?_
    refine lv_iload hx hb dL_law_778 (lv_at hl 4 rfl) ?_
    refine lv_iconst (v := 1) hx hb dL_law_780 (by decide) ?_
    refine lv_iadd hx hb dL_law_781 ?_
    refine va_sld hx hb hX hbl hbA hS h1i dL_law_782 ?_
    refine lv_aload_n hx hb dL_law_783 rfl (lv_at hl 0 rfl) ?_
    refine lv_iload hx hb dL_law_784 (lv_at hl 4 rfl) ?_
    refine lv_iconst (v := 2) hx hb dL_law_786 (by decide) ?_
    refine lv_iadd hx hb dL_law_787 ?_
    refine va_sld hx hb hX hbl hbA hS h2i dL_law_788 ?_
    refine lv_aload_n hx hb dL_law_789 rfl (lv_at hl 3 rfl) ?_
    refine pw_lcall (r := 2) (ws0 := WL cy qa P T S nw hz ak pa wt cd ln ao ov ++ WM cy q th z sv sn sp bf ty gn hs) (ws1 := WL cy qa P T S nw hz ak pa wt cd ln ao ov ++ WM cy q th z sv sn sp bf ty gn hs) (wa := []) (wb := WM cy q th z sv sn sp bf ty gn hs) (wc := WL cy qa P T S nw hz ak pa wt cd ln ao ov) (w1 := WL cy qa P T S nw hz ak pa wt cd ln ao ov) (rest := []) (As := [.ref (qa 0 0), .int (xs (Int32.ofNat k + 1).toNatClampNeg), .int (xs (Int32.ofNat k + 2).toNatClampNeg), .ref ao]) hF (kL_place_t3 l hfl D cy qa _ P T S nw hz ak pa wt cd ln ao ov (xs (Int32.ofNat k + 1).toNatClampNeg) (xs (Int32.ofNat k + 2).toNatClampNeg) h3) (vx_cwSW 4 hts (pw_gSW aw_625 aw_626 aw_0 aw_627) rfl rfl rfl pL_place ⟨Nat.le_of_ble_eq_true rfl, Nat.le_of_ble_eq_true rfl⟩) hK hP hD hS hA hE rfl rfl rfl rfl hl.1 rfl (Nat.le_of_ble_eq_true rfl) dL_law_790 ⟨by omega, by omega⟩ (fun H locs hP hD hS => ?_)
    refine lv_istore (lv' := [(5, .int 2), (0, .ref b), (1, .ref (qa 0 0)), (2, .ref (q 0)), (3, .ref ao), (4, .int (Int32.ofNat k))]) hx hb dL_law_793 hl (by decide) rfl (fun ls hl => ?_)
    refine lv_aload_n hx hb dL_law_795 rfl (lv_at hl 3 rfl) ?_
    refine lv_aload_n hx hb dL_law_796 rfl (lv_at hl 1 rfl) ?_
    refine lv_iload hx hb dL_law_797 (lv_at hl 5 rfl) ?_
    refine lv_iconst (v := 1) hx hb dL_law_799 (by decide) ?_
    refine lv_iadd hx hb dL_law_800 ?_
    refine va_sld hx hb hX hbl hbA hS h1i dL_law_801 ?_
    refine lv_aload_n hx hb dL_law_802 rfl (lv_at hl 1 rfl) ?_
    refine lv_iload hx hb dL_law_803 (lv_at hl 5 rfl) ?_
    refine lv_iconst (v := 2) hx hb dL_law_805 (by decide) ?_
    refine lv_iadd hx hb dL_law_806 ?_
    refine va_sld hx hb hX hbl hbA hS h2i dL_law_807 ?_
    refine pw_fi (r := 0) (ws0 := WL cy qa P T S nw hz ak pa wt cd ln ao ov ++ WM cy q th z sv sn sp bf ty gn hs) (ws1 := WL cy qa P T S nw hz ak pa wt cd ln ao ov ++ WM cy q 2 z sv sn sp bf ty gn hs) (wa := WL cy qa P T S nw hz ak pa wt cd ln ao ov) (wb := []) (wc := WM cy q th z sv sn sp bf ty gn hs) (w1 := WM cy q 2 z sv sn sp bf ty gn hs) (rest := []) (As := [.int (xs (Int32.ofNat k + 1).toNatClampNeg), .int (xs (Int32.ofNat k + 2).toNatClampNeg)]) hF (kX4_place l D cy q _ th z sv sn sp bf ty gn hs (xs (Int32.ofNat k + 1).toNatClampNeg) (xs (Int32.ofNat k + 2).toNatClampNeg) (0, 2) h4) (cwV 2 hts (pw_gVt (own := RL) (idx := 131) (C := RX4) (y := yX4_place) aw_921 aw_922 aw_923 aw_6 aw_924) rfl rfl rfl pX4_place ⟨Nat.le_of_ble_eq_true rfl, Nat.le_of_ble_eq_true rfl⟩) 4 (RX4, TX4, 9) rfl rfl ⟨0, _, rfl⟩ hK hP hD hS hA (by rw [List.append_nil]) (by rw [List.append_nil]) rfl rfl hl.1 rfl (Nat.le_of_ble_eq_true rfl) dL_law_808 ⟨hR1, hR2⟩ (fun H locs hP hD hS => ?_)
    refine lv_istore (lv' := [(6, .int 0), (5, .int 2), (0, .ref b), (1, .ref (qa 0 0)), (2, .ref (q 0)), (3, .ref ao), (4, .int (Int32.ofNat k))]) hx hb dL_law_811 hl (by decide) rfl (fun ls hl => ?_)
    refine lv_aload_n hx hb dL_law_813 rfl (lv_at hl 4 rfl) ?_
    refine pw_fi (r := 2) (ws0 := WL cy qa P T S nw hz ak pa wt cd ln ao ov ++ WM cy q 2 z sv sn sp bf ty gn hs) (ws1 := WL cy qa P T S nw hz ak pa wt cd ln ao ov ++ WM cy q 2 z sv sn sp bf ty gn hs) (wa := WL cy qa P T S nw hz ak pa wt cd ln ao ov) (wb := []) (wc := WM cy q 2 z sv sn sp bf ty gn hs) (w1 := WM cy q 2 z sv sn sp bf ty gn hs) (rest := []) (As := []) hF (kX4_thrown l D cy q _ 2 z sv sn sp bf ty gn hs 2 rfl) (cwV 0 hts (pw_gVt (own := RL) (idx := 80) (C := RX4) (y := yX4_thrown) aw_714 aw_715 aw_716 aw_6 aw_717) rfl rfl rfl pX4_thrown ⟨Nat.le_of_ble_eq_true rfl, Nat.le_of_ble_eq_true rfl⟩) 4 (RX4, TX4, 9) rfl rfl ⟨0, _, rfl⟩ hK hP hD hS hA (by rw [List.append_nil]) (by rw [List.append_nil]) rfl rfl hl.1 rfl (Nat.le_of_ble_eq_true rfl) dL_law_814 ⟨hR1, hR2⟩ (fun H locs hP hD hS => ?_)
    refine lv_iload hx hb dL_law_817 (lv_at hl 1 rfl) ?_
    refine lv_icmp_eq (tgt := 824) hx hb dL_law_819 (by decide) (fun _ => ?_) (fun c_ => absurd rfl c_)
    refine lv_iload hx hb dL_law_824 (lv_at hl 1 rfl) ?_
    refine lv_if_ne (tgt := 841) hx hb dL_law_826 (by decide) (fun _ => ?_) (fun c_ => absurd c_ (by decide))
    refine lv_goto (tgt := 1284) hx hb dL_law_841 (by decide) ?_
    exact kk P T S nw hz ak pa wt cd ln ov 2 z sv sn sp bf ty gn hs H locs ls RAh hP hD hS ⟨hl.1, hl.2.1, fun x hx9 => hl.2.2 x (List.mem_cons_of_mem _ (List.mem_cons_of_mem _ hx9))⟩
  · skip
    refine lv_aload_n hx hb dL_law_776 rfl (lv_at hl 1 rfl) ?_
    refine lv_aload_n hx hb dL_law_777 rfl (lv_at hl 0 rfl) ?_
    refine lv_iload hx hb dL_law_778 (lv_at hl 4 rfl) ?_
    refine lv_iconst (v := 1) hx hb dL_law_780 (by decide) ?_
    refine lv_iadd hx hb dL_law_781 ?_
    refine va_sld hx hb hX hbl hbA hS h1i dL_law_782 ?_
    refine lv_aload_n hx hb dL_law_783 rfl (lv_at hl 0 rfl) ?_
    refine lv_iload hx hb dL_law_784 (lv_at hl 4 rfl) ?_
    refine lv_iconst (v := 2) hx hb dL_law_786 (by decide) ?_
    refine lv_iadd hx hb dL_law_787 ?_
    refine va_sld hx hb hX hbl hbA hS h2i dL_law_788 ?_
    refine lv_aload_n hx hb dL_law_789 rfl (lv_at hl 3 rfl) ?_
    refine pw_lcall (r := 0) (ws0 := WL cy qa P T S nw hz ak pa wt cd ln ao ov ++ WM cy q th z sv sn sp bf ty gn hs) (ws1 := WL cy qa P T S nw hz ak pa wt cd ln ao (vp_updL ov (0 : Int32).toNatClampNeg r.toInt64) ++ WM cy q th z sv sn sp bf ty gn hs) (wa := []) (wb := WM cy q th z sv sn sp bf ty gn hs) (wc := WL cy qa P T S nw hz ak pa wt cd ln ao ov) (w1 := WL cy qa P T S nw hz ak pa wt cd ln ao (vp_updL ov (0 : Int32).toNatClampNeg r.toInt64)) (rest := []) (As := [.ref (qa 0 0), .int (xs (Int32.ofNat k + 1).toNatClampNeg), .int (xs (Int32.ofNat k + 2).toNatClampNeg), .ref ao]) hF (kL_place_r l hfl D cy qa _ P T S nw hz ak pa wt cd ln ao ov (xs (Int32.ofNat k + 1).toNatClampNeg) (xs (Int32.ofNat k + 2).toNatClampNeg) r h3) (vx_cwSW 4 hts (pw_gSW aw_625 aw_626 aw_0 aw_627) rfl rfl rfl pL_place ⟨Nat.le_of_ble_eq_true rfl, Nat.le_of_ble_eq_true rfl⟩) hK hP hD hS hA hE rfl rfl rfl rfl hl.1 rfl (Nat.le_of_ble_eq_true rfl) dL_law_790 ⟨by omega, by omega⟩ (fun H locs hP hD hS => ?_)
    refine W.widen (k := cells + 1) (n := slots + 6) (by omega) (by omega) ?_
    refine lv_istore (lv' := [(5, .int 0), (0, .ref b), (1, .ref (qa 0 0)), (2, .ref (q 0)), (3, .ref ao), (4, .int (Int32.ofNat k))]) hx hb dL_law_793 hl (by decide) rfl (fun ls hl => ?_)
    refine lv_aload_n hx hb dL_law_795 rfl (lv_at hl 3 rfl) ?_
    refine lv_aload_n hx hb dL_law_796 rfl (lv_at hl 1 rfl) ?_
    refine lv_iload hx hb dL_law_797 (lv_at hl 5 rfl) ?_
    refine lv_iconst (v := 1) hx hb dL_law_799 (by decide) ?_
    refine lv_iadd hx hb dL_law_800 ?_
    refine va_sld hx hb hX hbl hbA hS h1i dL_law_801 ?_
    refine lv_aload_n hx hb dL_law_802 rfl (lv_at hl 1 rfl) ?_
    refine lv_iload hx hb dL_law_803 (lv_at hl 5 rfl) ?_
    refine lv_iconst (v := 2) hx hb dL_law_805 (by decide) ?_
    refine lv_iadd hx hb dL_law_806 ?_
    refine va_sld hx hb hX hbl hbA hS h2i dL_law_807 ?_
    refine pw_fi (r := r) (ws0 := WL cy qa P T S nw hz ak pa wt cd ln ao (vp_updL ov (0 : Int32).toNatClampNeg r.toInt64) ++ WM cy q th z sv sn sp bf ty gn hs) (ws1 := WL cy qa P T S nw hz ak pa wt cd ln ao (vp_updL ov (0 : Int32).toNatClampNeg r.toInt64) ++ WM cy q 0 z sv sn sp bf ty gn hs) (wa := WL cy qa P T S nw hz ak pa wt cd ln ao (vp_updL ov (0 : Int32).toNatClampNeg r.toInt64)) (wb := []) (wc := WM cy q th z sv sn sp bf ty gn hs) (w1 := WM cy q 0 z sv sn sp bf ty gn hs) (rest := []) (As := [.int (xs (Int32.ofNat k + 1).toNatClampNeg), .int (xs (Int32.ofNat k + 2).toNatClampNeg)]) hF (kX4_place l D cy q _ th z sv sn sp bf ty gn hs (xs (Int32.ofNat k + 1).toNatClampNeg) (xs (Int32.ofNat k + 2).toNatClampNeg) (r, 0) h4) (cwV 2 hts (pw_gVt (own := RL) (idx := 131) (C := RX4) (y := yX4_place) aw_921 aw_922 aw_923 aw_6 aw_924) rfl rfl rfl pX4_place ⟨Nat.le_of_ble_eq_true rfl, Nat.le_of_ble_eq_true rfl⟩) 4 (RX4, TX4, 9) rfl rfl ⟨0, _, rfl⟩ hK hP hD hS hA (by rw [List.append_nil]) (by rw [List.append_nil]) rfl rfl hl.1 rfl (Nat.le_of_ble_eq_true rfl) dL_law_808 ⟨hR1, hR2⟩ (fun H locs hP hD hS => ?_)
    refine lv_istore (lv' := [(6, .int r), (5, .int 0), (0, .ref b), (1, .ref (qa 0 0)), (2, .ref (q 0)), (3, .ref ao), (4, .int (Int32.ofNat k))]) hx hb dL_law_811 hl (by decide) rfl (fun ls hl => ?_)
    refine lv_aload_n hx hb dL_law_813 rfl (lv_at hl 4 rfl) ?_
    refine pw_fi (r := 0) (ws0 := WL cy qa P T S nw hz ak pa wt cd ln ao (vp_updL ov (0 : Int32).toNatClampNeg r.toInt64) ++ WM cy q 0 z sv sn sp bf ty gn hs) (ws1 := WL cy qa P T S nw hz ak pa wt cd ln ao (vp_updL ov (0 : Int32).toNatClampNeg r.toInt64) ++ WM cy q 0 z sv sn sp bf ty gn hs) (wa := WL cy qa P T S nw hz ak pa wt cd ln ao (vp_updL ov (0 : Int32).toNatClampNeg r.toInt64)) (wb := []) (wc := WM cy q 0 z sv sn sp bf ty gn hs) (w1 := WM cy q 0 z sv sn sp bf ty gn hs) (rest := []) (As := []) hF (kX4_thrown l D cy q _ 0 z sv sn sp bf ty gn hs 0 rfl) (cwV 0 hts (pw_gVt (own := RL) (idx := 80) (C := RX4) (y := yX4_thrown) aw_714 aw_715 aw_716 aw_6 aw_717) rfl rfl rfl pX4_thrown ⟨Nat.le_of_ble_eq_true rfl, Nat.le_of_ble_eq_true rfl⟩) 4 (RX4, TX4, 9) rfl rfl ⟨0, _, rfl⟩ hK hP hD hS hA (by rw [List.append_nil]) (by rw [List.append_nil]) rfl rfl hl.1 rfl (Nat.le_of_ble_eq_true rfl) dL_law_814 ⟨hR1, hR2⟩ (fun H locs hP hD hS => ?_)
    refine lv_iload hx hb dL_law_817 (lv_at hl 1 rfl) ?_
    refine lv_icmp_eq (tgt := 824) hx hb dL_law_819 (by decide) (fun _ => ?_) (fun c_ => absurd rfl c_)
    refine lv_iload hx hb dL_law_824 (lv_at hl 1 rfl) ?_
    refine lv_if_ne (tgt := 841) hx hb dL_law_826 (by decide) (fun c_ => absurd rfl c_) (fun _ => ?_)
    refine lv_aload_n hx hb dL_law_829 rfl (lv_at hl 5 rfl) ?_
    refine lv_iconst (v := 0) hx hb dL_law_830 (by decide) ?_
    refine va_lald hx hb hK hP 128 3 rfl rfl (pq_vp (by decide)) dL_law_831 ?_
    refine lv_iload hx hb dL_law_832 (lv_at hl 0 rfl) ?_
    refine lv_i2l (v := r.toInt64) hx hb dL_law_834 rfl ?_
    refine W.lcmp hx hb dL_law_835 ?_
    refine lv_if_eq (tgt := 841) hx hb dL_law_836 (by decide) (fun _ => ?_) (fun c_ => absurd ((lg_cmp_eq _ _).mpr rfl) c_)
    refine lv_goto (tgt := 1284) hx hb dL_law_841 (by decide) ?_
    exact kk P T S nw hz ak pa wt cd ln (vp_updL ov (0 : Int32).toNatClampNeg r.toInt64) 0 z sv sn sp bf ty gn hs H locs ls RAh hP hD hS ⟨hl.1, hl.2.1, fun x hx9 => hl.2.2 x (List.mem_cons_of_mem _ (List.mem_cons_of_mem _ hx9))⟩
set_option maxHeartbeats 8000000 in
set_option maxRecDepth 100000 in
theorem kA_owner {p : Program} {e : Env} {s : State} {m : MethodId} {args : Array Value} {below : List Frame} {meth : Method} {c : Code} (l : Launch) (hfl : l.stackTraces = false) {D : va_G} {cy : Nat → ClassId} {qa : Nat → Nat → Nat} {q : Nat → Nat} {A : Nat → Prop} {b L k ao : Nat} {xs : Nat → Int32} (hx : p.tables.exec = Jvm.exec) (hb : c.code = cL_law) (hF : CallFix p m c cL_law 9 s args pw_all RL) (hK : va_K D vwCl (pw_tys cy) s) (hE : pw_E A s s.heap) (hA : ∀ q : Nat, s.heap.size ≤ q → A q) (hX : va_X b L xs s s.heap) (hbl : b < s.heap.size) (hbA : ¬ A b) (hL : L ≤ 1536) (hk : k + 2 < L) {P T : Nat → Nat → Int32} {S : Nat → Nat → Nat → Int32} {nw hz : Int32} {ak pa wt cd : Nat → Int32} {ln : Int32} {ov : Nat → Int64} {th : Int32} {z sv : Nat → Int32} {sn : Int32} {sp bf : Nat → Int32} {ty : Int32} {gn : Nat → Int32} {hs : Int64} (RAh : RA P S nw hz cd ln z sv sn bf ty) {H : Heap} {locs : List Loc} {ls : Array Slot} {cells slots : Nat} {Q : State → Prop} (hP : va_P D vwCl (WL cy qa P T S nw hz ak pa wt cd ln ao ov ++ WM cy q th z sv sn sp bf ty gn hs) H) (hD : va_D A (WL cy qa P T S nw hz ak pa wt cd ln ao ov ++ WM cy q th z sv sn sp bf ty gn hs)) (hS : va_S A s.heap H locs) (hl : lv_has ls 9 [(0, .ref b), (1, .ref (qa 0 0)), (2, .ref (q 0)), (3, .ref ao), (4, .int (Int32.ofNat k))]) (hR1 : cells + 1 ≤ room_1.cells) (hR2 : slots + 6 ≤ room_1.slots) (kk : ∀ (P T : Nat → Nat → Int32) (S : Nat → Nat → Nat → Int32) (nw hz : Int32) (ak pa wt cd : Nat → Int32) (ln : Int32) (ov : Nat → Int64) (th : Int32) (z sv : Nat → Int32) (sn : Int32) (sp bf : Nat → Int32) (ty : Int32) (gn : Nat → Int32) (hs : Int64) (H : Heap) (locs : List Loc) (ls : Array Slot), RA P S nw hz cd ln z sv sn bf ty → va_P D vwCl (WL cy qa P T S nw hz ak pa wt cd ln ao ov ++ WM cy q th z sv sn sp bf ty gn hs) H → va_D A (WL cy qa P T S nw hz ak pa wt cd ln ao ov ++ WM cy q th z sv sn sp bf ty gn hs) → va_S A s.heap H locs → lv_has ls 9 [(0, .ref b), (1, .ref (qa 0 0)), (2, .ref (q 0)), (3, .ref ao), (4, .int (Int32.ofNat k))] → W p l e room_1 s m args below meth c H locs (cells + 1) (slots + 6) Q (F0 m 1284 ls [])) : W p l e room_1 s m args below meth c H locs cells slots Q (F0 m 844 ls []) := by
  have h1i : vp_in (Int32.ofNat k + 1) L := pw_ix1 hL hk
  have h2i : vp_in (Int32.ofNat k + 2) L := pw_ix2 hL hk
  have hts := hF.2.2.2.2
  rcases c_owner RAh (xs (Int32.ofNat k + 1).toNatClampNeg) (xs (Int32.ofNat k + 2).toNatClampNeg) th with (⟨h3, h4⟩ | ⟨h3, h4⟩) | ⟨r, h3, h4⟩
  · skip
    refine lv_aload_n hx hb dL_law_844 rfl (lv_at hl 1 rfl) ?_
    refine lv_aload_n hx hb dL_law_845 rfl (lv_at hl 0 rfl) ?_
    refine lv_iload hx hb dL_law_846 (lv_at hl 4 rfl) ?_
    refine lv_iconst (v := 1) hx hb dL_law_848 (by decide) ?_
    refine lv_iadd hx hb dL_law_849 ?_
    refine va_sld hx hb hX hbl hbA hS h1i dL_law_850 ?_
    refine lv_aload_n hx hb dL_law_851 rfl (lv_at hl 0 rfl) ?_
    refine lv_iload hx hb dL_law_852 (lv_at hl 4 rfl) ?_
    refine lv_iconst (v := 2) hx hb dL_law_854 (by decide) ?_
    refine lv_iadd hx hb dL_law_855 ?_
    refine va_sld hx hb hX hbl hbA hS h2i dL_law_856 ?_
    refine lv_aload_n hx hb dL_law_857 rfl (lv_at hl 3 rfl) ?_
    refine pw_lcall (r := 1) (ws0 := WL cy qa P T S nw hz ak pa wt cd ln ao ov ++ WM cy q th z sv sn sp bf ty gn hs) (ws1 := WL cy qa P T S nw hz ak pa wt cd ln ao ov ++ WM cy q th z sv sn sp bf ty gn hs) (wa := []) (wb := WM cy q th z sv sn sp bf ty gn hs) (wc := WL cy qa P T S nw hz ak pa wt cd ln ao ov) (w1 := WL cy qa P T S nw hz ak pa wt cd ln ao ov) (rest := []) (As := [.ref (qa 0 0), .int (xs (Int32.ofNat k + 1).toNatClampNeg), .int (xs (Int32.ofNat k + 2).toNatClampNeg), .ref ao]) hF (kL_owner_t1 l hfl D cy qa _ P T S nw hz ak pa wt cd ln ao ov (xs (Int32.ofNat k + 1).toNatClampNeg) (xs (Int32.ofNat k + 2).toNatClampNeg) h3) (vx_cwSW 4 hts (pw_gSW aw_632 aw_633 aw_0 aw_634) rfl rfl rfl pL_owner ⟨Nat.le_of_ble_eq_true rfl, Nat.le_of_ble_eq_true rfl⟩) hK hP hD hS hA hE rfl rfl rfl rfl hl.1 rfl (Nat.le_of_ble_eq_true rfl) dL_law_858 ⟨by omega, by omega⟩ (fun H locs hP hD hS => ?_)
    refine lv_istore (lv' := [(5, .int 1), (0, .ref b), (1, .ref (qa 0 0)), (2, .ref (q 0)), (3, .ref ao), (4, .int (Int32.ofNat k))]) hx hb dL_law_861 hl (by decide) rfl (fun ls hl => ?_)
    refine lv_aload_n hx hb dL_law_863 rfl (lv_at hl 3 rfl) ?_
    refine lv_aload_n hx hb dL_law_864 rfl (lv_at hl 1 rfl) ?_
    refine lv_iload hx hb dL_law_865 (lv_at hl 5 rfl) ?_
    refine lv_iconst (v := 1) hx hb dL_law_867 (by decide) ?_
    refine lv_iadd hx hb dL_law_868 ?_
    refine va_sld hx hb hX hbl hbA hS h1i dL_law_869 ?_
    refine lv_aload_n hx hb dL_law_870 rfl (lv_at hl 1 rfl) ?_
    refine lv_iload hx hb dL_law_871 (lv_at hl 5 rfl) ?_
    refine lv_iconst (v := 2) hx hb dL_law_873 (by decide) ?_
    refine lv_iadd hx hb dL_law_874 ?_
    refine va_sld hx hb hX hbl hbA hS h2i dL_law_875 ?_
    refine pw_fi (r := 0) (ws0 := WL cy qa P T S nw hz ak pa wt cd ln ao ov ++ WM cy q th z sv sn sp bf ty gn hs) (ws1 := WL cy qa P T S nw hz ak pa wt cd ln ao ov ++ WM cy q 1 z sv sn sp bf ty gn hs) (wa := WL cy qa P T S nw hz ak pa wt cd ln ao ov) (wb := []) (wc := WM cy q th z sv sn sp bf ty gn hs) (w1 := WM cy q 1 z sv sn sp bf ty gn hs) (rest := []) (As := [.int (xs (Int32.ofNat k + 1).toNatClampNeg), .int (xs (Int32.ofNat k + 2).toNatClampNeg)]) hF (kX4_owner l D cy q _ th z sv sn sp bf ty gn hs (xs (Int32.ofNat k + 1).toNatClampNeg) (xs (Int32.ofNat k + 2).toNatClampNeg) (0, 1) h4) (cwV 2 hts (pw_gVt (own := RL) (idx := 134) (C := RX4) (y := yX4_owner) aw_929 aw_930 aw_931 aw_6 aw_932) rfl rfl rfl pX4_owner ⟨Nat.le_of_ble_eq_true rfl, Nat.le_of_ble_eq_true rfl⟩) 4 (RX4, TX4, 9) rfl rfl ⟨0, _, rfl⟩ hK hP hD hS hA (by rw [List.append_nil]) (by rw [List.append_nil]) rfl rfl hl.1 rfl (Nat.le_of_ble_eq_true rfl) dL_law_876 ⟨hR1, hR2⟩ (fun H locs hP hD hS => ?_)
    refine lv_istore (lv' := [(6, .int 0), (5, .int 1), (0, .ref b), (1, .ref (qa 0 0)), (2, .ref (q 0)), (3, .ref ao), (4, .int (Int32.ofNat k))]) hx hb dL_law_879 hl (by decide) rfl (fun ls hl => ?_)
    refine lv_aload_n hx hb dL_law_881 rfl (lv_at hl 4 rfl) ?_
    refine pw_fi (r := 1) (ws0 := WL cy qa P T S nw hz ak pa wt cd ln ao ov ++ WM cy q 1 z sv sn sp bf ty gn hs) (ws1 := WL cy qa P T S nw hz ak pa wt cd ln ao ov ++ WM cy q 1 z sv sn sp bf ty gn hs) (wa := WL cy qa P T S nw hz ak pa wt cd ln ao ov) (wb := []) (wc := WM cy q 1 z sv sn sp bf ty gn hs) (w1 := WM cy q 1 z sv sn sp bf ty gn hs) (rest := []) (As := []) hF (kX4_thrown l D cy q _ 1 z sv sn sp bf ty gn hs 1 rfl) (cwV 0 hts (pw_gVt (own := RL) (idx := 80) (C := RX4) (y := yX4_thrown) aw_714 aw_715 aw_716 aw_6 aw_717) rfl rfl rfl pX4_thrown ⟨Nat.le_of_ble_eq_true rfl, Nat.le_of_ble_eq_true rfl⟩) 4 (RX4, TX4, 9) rfl rfl ⟨0, _, rfl⟩ hK hP hD hS hA (by rw [List.append_nil]) (by rw [List.append_nil]) rfl rfl hl.1 rfl (Nat.le_of_ble_eq_true rfl) dL_law_882 ⟨hR1, hR2⟩ (fun H locs hP hD hS => ?_)
    refine lv_iload hx hb dL_law_885 (lv_at hl 1 rfl) ?_
    refine lv_icmp_eq (tgt := 892) hx hb dL_law_887 (by decide) (fun _ => ?_) (fun c_ => absurd rfl c_)
    refine lv_iload hx hb dL_law_892 (lv_at hl 1 rfl) ?_
    refine lv_if_ne (tgt := 909) hx hb dL_law_894 (by decide) (fun _ => ?_) (fun c_ => absurd c_ (by decide))
    refine lv_goto (tgt := 1284) hx hb dL_law_909 (by decide) ?_
    exact kk P T S nw hz ak pa wt cd ln ov 1 z sv sn sp bf ty gn hs H locs ls RAh hP hD hS ⟨hl.1, hl.2.1, fun x hx9 => hl.2.2 x (List.mem_cons_of_mem _ (List.mem_cons_of_mem _ hx9))⟩
  · skip
    refine lv_aload_n hx hb dL_law_844 rfl (lv_at hl 1 rfl) ?_
    refine lv_aload_n hx hb dL_law_845 rfl (lv_at hl 0 rfl) ?_
    refine lv_iload hx hb dL_law_846 (lv_at hl 4 rfl) ?_
    refine lv_iconst (v := 1) hx hb dL_law_848 (by decide) ?_
    refine lv_iadd hx hb dL_law_849 ?_
    refine va_sld hx hb hX hbl hbA hS h1i dL_law_850 ?_
    refine lv_aload_n hx hb dL_law_851 rfl (lv_at hl 0 rfl) ?_
    refine lv_iload hx hb dL_law_852 (lv_at hl 4 rfl) ?_
    refine lv_iconst (v := 2) hx hb dL_law_854 (by decide) ?_
    refine lv_iadd hx hb dL_law_855 ?_
    refine va_sld hx hb hX hbl hbA hS h2i dL_law_856 ?_
    refine lv_aload_n hx hb dL_law_857 rfl (lv_at hl 3 rfl) ?_
    refine pw_lcall (r := 2) (ws0 := WL cy qa P T S nw hz ak pa wt cd ln ao ov ++ WM cy q th z sv sn sp bf ty gn hs) (ws1 := WL cy qa P T S nw hz ak pa wt cd ln ao ov ++ WM cy q th z sv sn sp bf ty gn hs) (wa := []) (wb := WM cy q th z sv sn sp bf ty gn hs) (wc := WL cy qa P T S nw hz ak pa wt cd ln ao ov) (w1 := WL cy qa P T S nw hz ak pa wt cd ln ao ov) (rest := []) (As := [.ref (qa 0 0), .int (xs (Int32.ofNat k + 1).toNatClampNeg), .int (xs (Int32.ofNat k + 2).toNatClampNeg), .ref ao]) hF (kL_owner_t3 l hfl D cy qa _ P T S nw hz ak pa wt cd ln ao ov (xs (Int32.ofNat k + 1).toNatClampNeg) (xs (Int32.ofNat k + 2).toNatClampNeg) h3) (vx_cwSW 4 hts (pw_gSW aw_632 aw_633 aw_0 aw_634) rfl rfl rfl pL_owner ⟨Nat.le_of_ble_eq_true rfl, Nat.le_of_ble_eq_true rfl⟩) hK hP hD hS hA hE rfl rfl rfl rfl hl.1 rfl (Nat.le_of_ble_eq_true rfl) dL_law_858 ⟨by omega, by omega⟩ (fun H locs hP hD hS => ?_)
    refine lv_istore (lv' := [(5, .int 2), (0, .ref b), (1, .ref (qa 0 0)), (2, .ref (q 0)), (3, .ref ao), (4, .int (Int32.ofNat k))]) hx hb dL_law_861 hl (by decide) rfl (fun ls hl => ?_)
    refine lv_aload_n hx hb dL_law_863 rfl (lv_at hl 3 rfl) ?_
    refine lv_aload_n hx hb dL_law_864 rfl (lv_at hl 1 rfl) ?_
    refine lv_iload hx hb dL_law_865 (lv_at hl 5 rfl) ?_
    refine lv_iconst (v := 1) hx hb dL_law_867 (by decide) ?_
    refine lv_iadd hx hb dL_law_868 ?_
    refine va_sld hx hb hX hbl hbA hS h1i dL_law_869 ?_
    refine lv_aload_n hx hb dL_law_870 rfl (lv_at hl 1 rfl) ?_
    refine lv_iload hx hb dL_law_871 (lv_at hl 5 rfl) ?_
    refine lv_iconst (v := 2) hx hb dL_law_873 (by decide) ?_
    refine lv_iadd hx hb dL_law_874 ?_
    refine va_sld hx hb hX hbl hbA hS h2i dL_law_875 ?_
    refine pw_fi (r := 0) (ws0 := WL cy qa P T S nw hz ak pa wt cd ln ao ov ++ WM cy q th z sv sn sp bf ty gn hs) (ws1 := WL cy qa P T S nw hz ak pa wt cd ln ao ov ++ WM cy q 2 z sv sn sp bf ty gn hs) (wa := WL cy qa P T S nw hz ak pa wt cd ln ao ov) (wb := []) (wc := WM cy q th z sv sn sp bf ty gn hs) (w1 := WM cy q 2 z sv sn sp bf ty gn hs) (rest := []) (As := [.int (xs (Int32.ofNat k + 1).toNatClampNeg), .int (xs (Int32.ofNat k + 2).toNatClampNeg)]) hF (kX4_owner l D cy q _ th z sv sn sp bf ty gn hs (xs (Int32.ofNat k + 1).toNatClampNeg) (xs (Int32.ofNat k + 2).toNatClampNeg) (0, 2) h4) (cwV 2 hts (pw_gVt (own := RL) (idx := 134) (C := RX4) (y := yX4_owner) aw_929 aw_930 aw_931 aw_6 aw_932) rfl rfl rfl pX4_owner ⟨Nat.le_of_ble_eq_true rfl, Nat.le_of_ble_eq_true rfl⟩) 4 (RX4, TX4, 9) rfl rfl ⟨0, _, rfl⟩ hK hP hD hS hA (by rw [List.append_nil]) (by rw [List.append_nil]) rfl rfl hl.1 rfl (Nat.le_of_ble_eq_true rfl) dL_law_876 ⟨hR1, hR2⟩ (fun H locs hP hD hS => ?_)
    refine lv_istore (lv' := [(6, .int 0), (5, .int 2), (0, .ref b), (1, .ref (qa 0 0)), (2, .ref (q 0)), (3, .ref ao), (4, .int (Int32.ofNat k))]) hx hb dL_law_879 hl (by decide) rfl (fun ls hl => ?_)
    refine lv_aload_n hx hb dL_law_881 rfl (lv_at hl 4 rfl) ?_
    refine pw_fi (r := 2) (ws0 := WL cy qa P T S nw hz ak pa wt cd ln ao ov ++ WM cy q 2 z sv sn sp bf ty gn hs) (ws1 := WL cy qa P T S nw hz ak pa wt cd ln ao ov ++ WM cy q 2 z sv sn sp bf ty gn hs) (wa := WL cy qa P T S nw hz ak pa wt cd ln ao ov) (wb := []) (wc := WM cy q 2 z sv sn sp bf ty gn hs) (w1 := WM cy q 2 z sv sn sp bf ty gn hs) (rest := []) (As := []) hF (kX4_thrown l D cy q _ 2 z sv sn sp bf ty gn hs 2 rfl) (cwV 0 hts (pw_gVt (own := RL) (idx := 80) (C := RX4) (y := yX4_thrown) aw_714 aw_715 aw_716 aw_6 aw_717) rfl rfl rfl pX4_thrown ⟨Nat.le_of_ble_eq_true rfl, Nat.le_of_ble_eq_true rfl⟩) 4 (RX4, TX4, 9) rfl rfl ⟨0, _, rfl⟩ hK hP hD hS hA (by rw [List.append_nil]) (by rw [List.append_nil]) rfl rfl hl.1 rfl (Nat.le_of_ble_eq_true rfl) dL_law_882 ⟨hR1, hR2⟩ (fun H locs hP hD hS => ?_)
    refine lv_iload hx hb dL_law_885 (lv_at hl 1 rfl) ?_
    refine lv_icmp_eq (tgt := 892) hx hb dL_law_887 (by decide) (fun _ => ?_) (fun c_ => absurd rfl c_)
    refine lv_iload hx hb dL_law_892 (lv_at hl 1 rfl) ?_
    refine lv_if_ne (tgt := 909) hx hb dL_law_894 (by decide) (fun _ => ?_) (fun c_ => absurd c_ (by decide))
    refine lv_goto (tgt := 1284) hx hb dL_law_909 (by decide) ?_
    exact kk P T S nw hz ak pa wt cd ln ov 2 z sv sn sp bf ty gn hs H locs ls RAh hP hD hS ⟨hl.1, hl.2.1, fun x hx9 => hl.2.2 x (List.mem_cons_of_mem _ (List.mem_cons_of_mem _ hx9))⟩
  · skip
    refine lv_aload_n hx hb dL_law_844 rfl (lv_at hl 1 rfl) ?_
    refine lv_aload_n hx hb dL_law_845 rfl (lv_at hl 0 rfl) ?_
    refine lv_iload hx hb dL_law_846 (lv_at hl 4 rfl) ?_
    refine lv_iconst (v := 1) hx hb dL_law_848 (by decide) ?_
    refine lv_iadd hx hb dL_law_849 ?_
    refine va_sld hx hb hX hbl hbA hS h1i dL_law_850 ?_
    refine lv_aload_n hx hb dL_law_851 rfl (lv_at hl 0 rfl) ?_
    refine lv_iload hx hb dL_law_852 (lv_at hl 4 rfl) ?_
    refine lv_iconst (v := 2) hx hb dL_law_854 (by decide) ?_
    refine lv_iadd hx hb dL_law_855 ?_
    refine va_sld hx hb hX hbl hbA hS h2i dL_law_856 ?_
    refine lv_aload_n hx hb dL_law_857 rfl (lv_at hl 3 rfl) ?_
    refine pw_lcall (r := 0) (ws0 := WL cy qa P T S nw hz ak pa wt cd ln ao ov ++ WM cy q th z sv sn sp bf ty gn hs) (ws1 := WL cy qa P T S nw hz ak pa wt cd ln ao (vp_updL ov (0 : Int32).toNatClampNeg r.toInt64) ++ WM cy q th z sv sn sp bf ty gn hs) (wa := []) (wb := WM cy q th z sv sn sp bf ty gn hs) (wc := WL cy qa P T S nw hz ak pa wt cd ln ao ov) (w1 := WL cy qa P T S nw hz ak pa wt cd ln ao (vp_updL ov (0 : Int32).toNatClampNeg r.toInt64)) (rest := []) (As := [.ref (qa 0 0), .int (xs (Int32.ofNat k + 1).toNatClampNeg), .int (xs (Int32.ofNat k + 2).toNatClampNeg), .ref ao]) hF (kL_owner_r l hfl D cy qa _ P T S nw hz ak pa wt cd ln ao ov (xs (Int32.ofNat k + 1).toNatClampNeg) (xs (Int32.ofNat k + 2).toNatClampNeg) r h3) (vx_cwSW 4 hts (pw_gSW aw_632 aw_633 aw_0 aw_634) rfl rfl rfl pL_owner ⟨Nat.le_of_ble_eq_true rfl, Nat.le_of_ble_eq_true rfl⟩) hK hP hD hS hA hE rfl rfl rfl rfl hl.1 rfl (Nat.le_of_ble_eq_true rfl) dL_law_858 ⟨by omega, by omega⟩ (fun H locs hP hD hS => ?_)
    refine W.widen (k := cells + 1) (n := slots + 6) (by omega) (by omega) ?_
    refine lv_istore (lv' := [(5, .int 0), (0, .ref b), (1, .ref (qa 0 0)), (2, .ref (q 0)), (3, .ref ao), (4, .int (Int32.ofNat k))]) hx hb dL_law_861 hl (by decide) rfl (fun ls hl => ?_)
    refine lv_aload_n hx hb dL_law_863 rfl (lv_at hl 3 rfl) ?_
    refine lv_aload_n hx hb dL_law_864 rfl (lv_at hl 1 rfl) ?_
    refine lv_iload hx hb dL_law_865 (lv_at hl 5 rfl) ?_
    refine lv_iconst (v := 1) hx hb dL_law_867 (by decide) ?_
    refine lv_iadd hx hb dL_law_868 ?_
    refine va_sld hx hb hX hbl hbA hS h1i dL_law_869 ?_
    refine lv_aload_n hx hb dL_law_870 rfl (lv_at hl 1 rfl) ?_
    refine lv_iload hx hb dL_law_871 (lv_at hl 5 rfl) ?_
    refine lv_iconst (v := 2) hx hb dL_law_873 (by decide) ?_
    refine lv_iadd hx hb dL_law_874 ?_
    refine va_sld hx hb hX hbl hbA hS h2i dL_law_875 ?_
    refine pw_fi (r := r) (ws0 := WL cy qa P T S nw hz ak pa wt cd ln ao (vp_updL ov (0 : Int32).toNatClampNeg r.toInt64) ++ WM cy q th z sv sn sp bf ty gn hs) (ws1 := WL cy qa P T S nw hz ak pa wt cd ln ao (vp_updL ov (0 : Int32).toNatClampNeg r.toInt64) ++ WM cy q 0 z sv sn sp bf ty gn hs) (wa := WL cy qa P T S nw hz ak pa wt cd ln ao (vp_updL ov (0 : Int32).toNatClampNeg r.toInt64)) (wb := []) (wc := WM cy q th z sv sn sp bf ty gn hs) (w1 := WM cy q 0 z sv sn sp bf ty gn hs) (rest := []) (As := [.int (xs (Int32.ofNat k + 1).toNatClampNeg), .int (xs (Int32.ofNat k + 2).toNatClampNeg)]) hF (kX4_owner l D cy q _ th z sv sn sp bf ty gn hs (xs (Int32.ofNat k + 1).toNatClampNeg) (xs (Int32.ofNat k + 2).toNatClampNeg) (r, 0) h4) (cwV 2 hts (pw_gVt (own := RL) (idx := 134) (C := RX4) (y := yX4_owner) aw_929 aw_930 aw_931 aw_6 aw_932) rfl rfl rfl pX4_owner ⟨Nat.le_of_ble_eq_true rfl, Nat.le_of_ble_eq_true rfl⟩) 4 (RX4, TX4, 9) rfl rfl ⟨0, _, rfl⟩ hK hP hD hS hA (by rw [List.append_nil]) (by rw [List.append_nil]) rfl rfl hl.1 rfl (Nat.le_of_ble_eq_true rfl) dL_law_876 ⟨hR1, hR2⟩ (fun H locs hP hD hS => ?_)
    refine lv_istore (lv' := [(6, .int r), (5, .int 0), (0, .ref b), (1, .ref (qa 0 0)), (2, .ref (q 0)), (3, .ref ao), (4, .int (Int32.ofNat k))]) hx hb dL_law_879 hl (by decide) rfl (fun ls hl => ?_)
    refine lv_aload_n hx hb dL_law_881 rfl (lv_at hl 4 rfl) ?_
    refine pw_fi (r := 0) (ws0 := WL cy qa P T S nw hz ak pa wt cd ln ao (vp_updL ov (0 : Int32).toNatClampNeg r.toInt64) ++ WM cy q 0 z sv sn sp bf ty gn hs) (ws1 := WL cy qa P T S nw hz ak pa wt cd ln ao (vp_updL ov (0 : Int32).toNatClampNeg r.toInt64) ++ WM cy q 0 z sv sn sp bf ty gn hs) (wa := WL cy qa P T S nw hz ak pa wt cd ln ao (vp_updL ov (0 : Int32).toNatClampNeg r.toInt64)) (wb := []) (wc := WM cy q 0 z sv sn sp bf ty gn hs) (w1 := WM cy q 0 z sv sn sp bf ty gn hs) (rest := []) (As := []) hF (kX4_thrown l D cy q _ 0 z sv sn sp bf ty gn hs 0 rfl) (cwV 0 hts (pw_gVt (own := RL) (idx := 80) (C := RX4) (y := yX4_thrown) aw_714 aw_715 aw_716 aw_6 aw_717) rfl rfl rfl pX4_thrown ⟨Nat.le_of_ble_eq_true rfl, Nat.le_of_ble_eq_true rfl⟩) 4 (RX4, TX4, 9) rfl rfl ⟨0, _, rfl⟩ hK hP hD hS hA (by rw [List.append_nil]) (by rw [List.append_nil]) rfl rfl hl.1 rfl (Nat.le_of_ble_eq_true rfl) dL_law_882 ⟨hR1, hR2⟩ (fun H locs hP hD hS => ?_)
    refine lv_iload hx hb dL_law_885 (lv_at hl 1 rfl) ?_
    refine lv_icmp_eq (tgt := 892) hx hb dL_law_887 (by decide) (fun _ => ?_) (fun c_ => absurd rfl c_)
    refine lv_iload hx hb dL_law_892 (lv_at hl 1 rfl) ?_
    refine lv_if_ne (tgt := 909) hx hb dL_law_894 (by decide) (fun c_ => absurd rfl c_) (fun _ => ?_)
    refine lv_aload_n hx hb dL_law_897 rfl (lv_at hl 5 rfl) ?_
    refine lv_iconst (v := 0) hx hb dL_law_898 (by decide) ?_
    refine va_lald hx hb hK hP 128 3 rfl rfl (pq_vp (by decide)) dL_law_899 ?_
    refine lv_iload hx hb dL_law_900 (lv_at hl 0 rfl) ?_
    refine lv_i2l (v := r.toInt64) hx hb dL_law_902 rfl ?_
    refine W.lcmp hx hb dL_law_903 ?_
    refine lv_if_eq (tgt := 909) hx hb dL_law_904 (by decide) (fun _ => ?_) (fun c_ => absurd ((lg_cmp_eq _ _).mpr rfl) c_)
    refine lv_goto (tgt := 1284) hx hb dL_law_909 (by decide) ?_
    exact kk P T S nw hz ak pa wt cd ln (vp_updL ov (0 : Int32).toNatClampNeg r.toInt64) 0 z sv sn sp bf ty gn hs H locs ls RAh hP hD hS ⟨hl.1, hl.2.1, fun x hx9 => hl.2.2 x (List.mem_cons_of_mem _ (List.mem_cons_of_mem _ hx9))⟩
set_option maxHeartbeats 8000000 in
set_option maxRecDepth 100000 in
theorem kA_count {p : Program} {e : Env} {s : State} {m : MethodId} {args : Array Value} {below : List Frame} {meth : Method} {c : Code} (l : Launch) (hfl : l.stackTraces = false) {D : va_G} {cy : Nat → ClassId} {qa : Nat → Nat → Nat} {q : Nat → Nat} {A : Nat → Prop} {b L k ao : Nat} {xs : Nat → Int32} (hx : p.tables.exec = Jvm.exec) (hb : c.code = cL_law) (hF : CallFix p m c cL_law 9 s args pw_all RL) (hK : va_K D vwCl (pw_tys cy) s) (hE : pw_E A s s.heap) (hA : ∀ q : Nat, s.heap.size ≤ q → A q) (hX : va_X b L xs s s.heap) (hbl : b < s.heap.size) (hbA : ¬ A b) (hL : L ≤ 1536) (hk : k + 2 < L) {P T : Nat → Nat → Int32} {S : Nat → Nat → Nat → Int32} {nw hz : Int32} {ak pa wt cd : Nat → Int32} {ln : Int32} {ov : Nat → Int64} {th : Int32} {z sv : Nat → Int32} {sn : Int32} {sp bf : Nat → Int32} {ty : Int32} {gn : Nat → Int32} {hs : Int64} (RAh : RA P S nw hz cd ln z sv sn bf ty) {H : Heap} {locs : List Loc} {ls : Array Slot} {cells slots : Nat} {Q : State → Prop} (hP : va_P D vwCl (WL cy qa P T S nw hz ak pa wt cd ln ao ov ++ WM cy q th z sv sn sp bf ty gn hs) H) (hD : va_D A (WL cy qa P T S nw hz ak pa wt cd ln ao ov ++ WM cy q th z sv sn sp bf ty gn hs)) (hS : va_S A s.heap H locs) (hl : lv_has ls 9 [(0, .ref b), (1, .ref (qa 0 0)), (2, .ref (q 0)), (3, .ref ao), (4, .int (Int32.ofNat k))]) (hR1 : cells + 1 ≤ room_1.cells) (hR2 : slots + 6 ≤ room_1.slots) (kk : ∀ (P T : Nat → Nat → Int32) (S : Nat → Nat → Nat → Int32) (nw hz : Int32) (ak pa wt cd : Nat → Int32) (ln : Int32) (ov : Nat → Int64) (th : Int32) (z sv : Nat → Int32) (sn : Int32) (sp bf : Nat → Int32) (ty : Int32) (gn : Nat → Int32) (hs : Int64) (H : Heap) (locs : List Loc) (ls : Array Slot), RA P S nw hz cd ln z sv sn bf ty → va_P D vwCl (WL cy qa P T S nw hz ak pa wt cd ln ao ov ++ WM cy q th z sv sn sp bf ty gn hs) H → va_D A (WL cy qa P T S nw hz ak pa wt cd ln ao ov ++ WM cy q th z sv sn sp bf ty gn hs) → va_S A s.heap H locs → lv_has ls 9 [(0, .ref b), (1, .ref (qa 0 0)), (2, .ref (q 0)), (3, .ref ao), (4, .int (Int32.ofNat k))] → W p l e room_1 s m args below meth c H locs (cells + 1) (slots + 6) Q (F0 m 1284 ls [])) : W p l e room_1 s m args below meth c H locs cells slots Q (F0 m 912 ls []) := by
  have h1i : vp_in (Int32.ofNat k + 1) L := pw_ix1 hL hk
  have h2i : vp_in (Int32.ofNat k + 2) L := pw_ix2 hL hk
  have hts := hF.2.2.2.2
  rcases c_count RAh (xs (Int32.ofNat k + 1).toNatClampNeg) th with ⟨h3, h4⟩ | ⟨r, h3, h4⟩
  · skip
    refine lv_aload_n hx hb dL_law_912 rfl (lv_at hl 1 rfl) ?_
    refine lv_aload_n hx hb dL_law_913 rfl (lv_at hl 0 rfl) ?_
    refine lv_iload hx hb dL_law_914 (lv_at hl 4 rfl) ?_
    refine lv_iconst (v := 1) hx hb dL_law_916 (by decide) ?_
    refine lv_iadd hx hb dL_law_917 ?_
    refine va_sld hx hb hX hbl hbA hS h1i dL_law_918 ?_
    refine lv_aload_n hx hb dL_law_919 rfl (lv_at hl 3 rfl) ?_
    refine pw_lcall (r := 1) (ws0 := WL cy qa P T S nw hz ak pa wt cd ln ao ov ++ WM cy q th z sv sn sp bf ty gn hs) (ws1 := WL cy qa P T S nw hz ak pa wt cd ln ao ov ++ WM cy q th z sv sn sp bf ty gn hs) (wa := []) (wb := WM cy q th z sv sn sp bf ty gn hs) (wc := WL cy qa P T S nw hz ak pa wt cd ln ao ov) (w1 := WL cy qa P T S nw hz ak pa wt cd ln ao ov) (rest := []) (As := [.ref (qa 0 0), .int (xs (Int32.ofNat k + 1).toNatClampNeg), .ref ao]) hF (kL_count_t3 l hfl D cy qa _ P T S nw hz ak pa wt cd ln ao ov (xs (Int32.ofNat k + 1).toNatClampNeg) h3) (vx_cwSW 3 hts (pw_gSW aw_639 aw_640 aw_0 aw_641) rfl rfl rfl pL_count ⟨Nat.le_of_ble_eq_true rfl, Nat.le_of_ble_eq_true rfl⟩) hK hP hD hS hA hE rfl rfl rfl rfl hl.1 rfl (Nat.le_of_ble_eq_true rfl) dL_law_920 ⟨by omega, by omega⟩ (fun H locs hP hD hS => ?_)
    refine lv_istore (lv' := [(5, .int 1), (0, .ref b), (1, .ref (qa 0 0)), (2, .ref (q 0)), (3, .ref ao), (4, .int (Int32.ofNat k))]) hx hb dL_law_923 hl (by decide) rfl (fun ls hl => ?_)
    refine lv_aload_n hx hb dL_law_925 rfl (lv_at hl 3 rfl) ?_
    refine lv_aload_n hx hb dL_law_926 rfl (lv_at hl 1 rfl) ?_
    refine lv_iload hx hb dL_law_927 (lv_at hl 5 rfl) ?_
    refine lv_iconst (v := 1) hx hb dL_law_929 (by decide) ?_
    refine lv_iadd hx hb dL_law_930 ?_
    refine va_sld hx hb hX hbl hbA hS h1i dL_law_931 ?_
    refine pw_fi (r := 0) (ws0 := WL cy qa P T S nw hz ak pa wt cd ln ao ov ++ WM cy q th z sv sn sp bf ty gn hs) (ws1 := WL cy qa P T S nw hz ak pa wt cd ln ao ov ++ WM cy q 1 z sv sn sp bf ty gn hs) (wa := WL cy qa P T S nw hz ak pa wt cd ln ao ov) (wb := []) (wc := WM cy q th z sv sn sp bf ty gn hs) (w1 := WM cy q 1 z sv sn sp bf ty gn hs) (rest := []) (As := [.int (xs (Int32.ofNat k + 1).toNatClampNeg)]) hF (kX4_count l D cy q _ th z sv sn sp bf ty gn hs (xs (Int32.ofNat k + 1).toNatClampNeg) (0, 1) h4) (cwV 1 hts (pw_gVt (own := RL) (idx := 137) (C := RX4) (y := yX4_count) aw_937 aw_938 aw_939 aw_6 aw_940) rfl rfl rfl pX4_count ⟨Nat.le_of_ble_eq_true rfl, Nat.le_of_ble_eq_true rfl⟩) 4 (RX4, TX4, 9) rfl rfl ⟨0, _, rfl⟩ hK hP hD hS hA (by rw [List.append_nil]) (by rw [List.append_nil]) rfl rfl hl.1 rfl (Nat.le_of_ble_eq_true rfl) dL_law_932 ⟨hR1, hR2⟩ (fun H locs hP hD hS => ?_)
    refine lv_istore (lv' := [(6, .int 0), (5, .int 1), (0, .ref b), (1, .ref (qa 0 0)), (2, .ref (q 0)), (3, .ref ao), (4, .int (Int32.ofNat k))]) hx hb dL_law_935 hl (by decide) rfl (fun ls hl => ?_)
    refine lv_aload_n hx hb dL_law_937 rfl (lv_at hl 4 rfl) ?_
    refine pw_fi (r := 1) (ws0 := WL cy qa P T S nw hz ak pa wt cd ln ao ov ++ WM cy q 1 z sv sn sp bf ty gn hs) (ws1 := WL cy qa P T S nw hz ak pa wt cd ln ao ov ++ WM cy q 1 z sv sn sp bf ty gn hs) (wa := WL cy qa P T S nw hz ak pa wt cd ln ao ov) (wb := []) (wc := WM cy q 1 z sv sn sp bf ty gn hs) (w1 := WM cy q 1 z sv sn sp bf ty gn hs) (rest := []) (As := []) hF (kX4_thrown l D cy q _ 1 z sv sn sp bf ty gn hs 1 rfl) (cwV 0 hts (pw_gVt (own := RL) (idx := 80) (C := RX4) (y := yX4_thrown) aw_714 aw_715 aw_716 aw_6 aw_717) rfl rfl rfl pX4_thrown ⟨Nat.le_of_ble_eq_true rfl, Nat.le_of_ble_eq_true rfl⟩) 4 (RX4, TX4, 9) rfl rfl ⟨0, _, rfl⟩ hK hP hD hS hA (by rw [List.append_nil]) (by rw [List.append_nil]) rfl rfl hl.1 rfl (Nat.le_of_ble_eq_true rfl) dL_law_938 ⟨hR1, hR2⟩ (fun H locs hP hD hS => ?_)
    refine lv_iload hx hb dL_law_941 (lv_at hl 1 rfl) ?_
    refine lv_icmp_eq (tgt := 948) hx hb dL_law_943 (by decide) (fun _ => ?_) (fun c_ => absurd rfl c_)
    refine lv_iload hx hb dL_law_948 (lv_at hl 1 rfl) ?_
    refine lv_if_ne (tgt := 965) hx hb dL_law_950 (by decide) (fun _ => ?_) (fun c_ => absurd c_ (by decide))
    refine lv_goto (tgt := 1284) hx hb dL_law_965 (by decide) ?_
    exact kk P T S nw hz ak pa wt cd ln ov 1 z sv sn sp bf ty gn hs H locs ls RAh hP hD hS ⟨hl.1, hl.2.1, fun x hx9 => hl.2.2 x (List.mem_cons_of_mem _ (List.mem_cons_of_mem _ hx9))⟩
  · skip
    refine lv_aload_n hx hb dL_law_912 rfl (lv_at hl 1 rfl) ?_
    refine lv_aload_n hx hb dL_law_913 rfl (lv_at hl 0 rfl) ?_
    refine lv_iload hx hb dL_law_914 (lv_at hl 4 rfl) ?_
    refine lv_iconst (v := 1) hx hb dL_law_916 (by decide) ?_
    refine lv_iadd hx hb dL_law_917 ?_
    refine va_sld hx hb hX hbl hbA hS h1i dL_law_918 ?_
    refine lv_aload_n hx hb dL_law_919 rfl (lv_at hl 3 rfl) ?_
    refine pw_lcall (r := 0) (ws0 := WL cy qa P T S nw hz ak pa wt cd ln ao ov ++ WM cy q th z sv sn sp bf ty gn hs) (ws1 := WL cy qa P T S nw hz ak pa wt cd ln ao (vp_updL ov (0 : Int32).toNatClampNeg r.toInt64) ++ WM cy q th z sv sn sp bf ty gn hs) (wa := []) (wb := WM cy q th z sv sn sp bf ty gn hs) (wc := WL cy qa P T S nw hz ak pa wt cd ln ao ov) (w1 := WL cy qa P T S nw hz ak pa wt cd ln ao (vp_updL ov (0 : Int32).toNatClampNeg r.toInt64)) (rest := []) (As := [.ref (qa 0 0), .int (xs (Int32.ofNat k + 1).toNatClampNeg), .ref ao]) hF (kL_count_r l hfl D cy qa _ P T S nw hz ak pa wt cd ln ao ov (xs (Int32.ofNat k + 1).toNatClampNeg) r h3) (vx_cwSW 3 hts (pw_gSW aw_639 aw_640 aw_0 aw_641) rfl rfl rfl pL_count ⟨Nat.le_of_ble_eq_true rfl, Nat.le_of_ble_eq_true rfl⟩) hK hP hD hS hA hE rfl rfl rfl rfl hl.1 rfl (Nat.le_of_ble_eq_true rfl) dL_law_920 ⟨by omega, by omega⟩ (fun H locs hP hD hS => ?_)
    refine W.widen (k := cells + 1) (n := slots + 6) (by omega) (by omega) ?_
    refine lv_istore (lv' := [(5, .int 0), (0, .ref b), (1, .ref (qa 0 0)), (2, .ref (q 0)), (3, .ref ao), (4, .int (Int32.ofNat k))]) hx hb dL_law_923 hl (by decide) rfl (fun ls hl => ?_)
    refine lv_aload_n hx hb dL_law_925 rfl (lv_at hl 3 rfl) ?_
    refine lv_aload_n hx hb dL_law_926 rfl (lv_at hl 1 rfl) ?_
    refine lv_iload hx hb dL_law_927 (lv_at hl 5 rfl) ?_
    refine lv_iconst (v := 1) hx hb dL_law_929 (by decide) ?_
    refine lv_iadd hx hb dL_law_930 ?_
    refine va_sld hx hb hX hbl hbA hS h1i dL_law_931 ?_
    refine pw_fi (r := r) (ws0 := WL cy qa P T S nw hz ak pa wt cd ln ao (vp_updL ov (0 : Int32).toNatClampNeg r.toInt64) ++ WM cy q th z sv sn sp bf ty gn hs) (ws1 := WL cy qa P T S nw hz ak pa wt cd ln ao (vp_updL ov (0 : Int32).toNatClampNeg r.toInt64) ++ WM cy q 0 z sv sn sp bf ty gn hs) (wa := WL cy qa P T S nw hz ak pa wt cd ln ao (vp_updL ov (0 : Int32).toNatClampNeg r.toInt64)) (wb := []) (wc := WM cy q th z sv sn sp bf ty gn hs) (w1 := WM cy q 0 z sv sn sp bf ty gn hs) (rest := []) (As := [.int (xs (Int32.ofNat k + 1).toNatClampNeg)]) hF (kX4_count l D cy q _ th z sv sn sp bf ty gn hs (xs (Int32.ofNat k + 1).toNatClampNeg) (r, 0) h4) (cwV 1 hts (pw_gVt (own := RL) (idx := 137) (C := RX4) (y := yX4_count) aw_937 aw_938 aw_939 aw_6 aw_940) rfl rfl rfl pX4_count ⟨Nat.le_of_ble_eq_true rfl, Nat.le_of_ble_eq_true rfl⟩) 4 (RX4, TX4, 9) rfl rfl ⟨0, _, rfl⟩ hK hP hD hS hA (by rw [List.append_nil]) (by rw [List.append_nil]) rfl rfl hl.1 rfl (Nat.le_of_ble_eq_true rfl) dL_law_932 ⟨hR1, hR2⟩ (fun H locs hP hD hS => ?_)
    refine lv_istore (lv' := [(6, .int r), (5, .int 0), (0, .ref b), (1, .ref (qa 0 0)), (2, .ref (q 0)), (3, .ref ao), (4, .int (Int32.ofNat k))]) hx hb dL_law_935 hl (by decide) rfl (fun ls hl => ?_)
    refine lv_aload_n hx hb dL_law_937 rfl (lv_at hl 4 rfl) ?_
    refine pw_fi (r := 0) (ws0 := WL cy qa P T S nw hz ak pa wt cd ln ao (vp_updL ov (0 : Int32).toNatClampNeg r.toInt64) ++ WM cy q 0 z sv sn sp bf ty gn hs) (ws1 := WL cy qa P T S nw hz ak pa wt cd ln ao (vp_updL ov (0 : Int32).toNatClampNeg r.toInt64) ++ WM cy q 0 z sv sn sp bf ty gn hs) (wa := WL cy qa P T S nw hz ak pa wt cd ln ao (vp_updL ov (0 : Int32).toNatClampNeg r.toInt64)) (wb := []) (wc := WM cy q 0 z sv sn sp bf ty gn hs) (w1 := WM cy q 0 z sv sn sp bf ty gn hs) (rest := []) (As := []) hF (kX4_thrown l D cy q _ 0 z sv sn sp bf ty gn hs 0 rfl) (cwV 0 hts (pw_gVt (own := RL) (idx := 80) (C := RX4) (y := yX4_thrown) aw_714 aw_715 aw_716 aw_6 aw_717) rfl rfl rfl pX4_thrown ⟨Nat.le_of_ble_eq_true rfl, Nat.le_of_ble_eq_true rfl⟩) 4 (RX4, TX4, 9) rfl rfl ⟨0, _, rfl⟩ hK hP hD hS hA (by rw [List.append_nil]) (by rw [List.append_nil]) rfl rfl hl.1 rfl (Nat.le_of_ble_eq_true rfl) dL_law_938 ⟨hR1, hR2⟩ (fun H locs hP hD hS => ?_)
    refine lv_iload hx hb dL_law_941 (lv_at hl 1 rfl) ?_
    refine lv_icmp_eq (tgt := 948) hx hb dL_law_943 (by decide) (fun _ => ?_) (fun c_ => absurd rfl c_)
    refine lv_iload hx hb dL_law_948 (lv_at hl 1 rfl) ?_
    refine lv_if_ne (tgt := 965) hx hb dL_law_950 (by decide) (fun c_ => absurd rfl c_) (fun _ => ?_)
    refine lv_aload_n hx hb dL_law_953 rfl (lv_at hl 5 rfl) ?_
    refine lv_iconst (v := 0) hx hb dL_law_954 (by decide) ?_
    refine va_lald hx hb hK hP 128 3 rfl rfl (pq_vp (by decide)) dL_law_955 ?_
    refine lv_iload hx hb dL_law_956 (lv_at hl 0 rfl) ?_
    refine lv_i2l (v := r.toInt64) hx hb dL_law_958 rfl ?_
    refine W.lcmp hx hb dL_law_959 ?_
    refine lv_if_eq (tgt := 965) hx hb dL_law_960 (by decide) (fun _ => ?_) (fun c_ => absurd ((lg_cmp_eq _ _).mpr rfl) c_)
    refine lv_goto (tgt := 1284) hx hb dL_law_965 (by decide) ?_
    exact kk P T S nw hz ak pa wt cd ln (vp_updL ov (0 : Int32).toNatClampNeg r.toInt64) 0 z sv sn sp bf ty gn hs H locs ls RAh hP hD hS ⟨hl.1, hl.2.1, fun x hx9 => hl.2.2 x (List.mem_cons_of_mem _ (List.mem_cons_of_mem _ hx9))⟩
set_option maxHeartbeats 8000000 in
set_option maxRecDepth 100000 in
theorem kA_setting {p : Program} {e : Env} {s : State} {m : MethodId} {args : Array Value} {below : List Frame} {meth : Method} {c : Code} (l : Launch) (hfl : l.stackTraces = false) {D : va_G} {cy : Nat → ClassId} {qa : Nat → Nat → Nat} {q : Nat → Nat} {A : Nat → Prop} {b L k ao : Nat} {xs : Nat → Int32} (hx : p.tables.exec = Jvm.exec) (hb : c.code = cL_law) (hF : CallFix p m c cL_law 9 s args pw_all RL) (hK : va_K D vwCl (pw_tys cy) s) (hE : pw_E A s s.heap) (hA : ∀ q : Nat, s.heap.size ≤ q → A q) (hX : va_X b L xs s s.heap) (hbl : b < s.heap.size) (hbA : ¬ A b) (hL : L ≤ 1536) (hk : k + 2 < L) {P T : Nat → Nat → Int32} {S : Nat → Nat → Nat → Int32} {nw hz : Int32} {ak pa wt cd : Nat → Int32} {ln : Int32} {ov : Nat → Int64} {th : Int32} {z sv : Nat → Int32} {sn : Int32} {sp bf : Nat → Int32} {ty : Int32} {gn : Nat → Int32} {hs : Int64} (RAh : RA P S nw hz cd ln z sv sn bf ty) {H : Heap} {locs : List Loc} {ls : Array Slot} {cells slots : Nat} {Q : State → Prop} (hP : va_P D vwCl (WL cy qa P T S nw hz ak pa wt cd ln ao ov ++ WM cy q th z sv sn sp bf ty gn hs) H) (hD : va_D A (WL cy qa P T S nw hz ak pa wt cd ln ao ov ++ WM cy q th z sv sn sp bf ty gn hs)) (hS : va_S A s.heap H locs) (hl : lv_has ls 9 [(0, .ref b), (1, .ref (qa 0 0)), (2, .ref (q 0)), (3, .ref ao), (4, .int (Int32.ofNat k))]) (hR1 : cells + 1 ≤ room_1.cells) (hR2 : slots + 6 ≤ room_1.slots) (kk : ∀ (P T : Nat → Nat → Int32) (S : Nat → Nat → Nat → Int32) (nw hz : Int32) (ak pa wt cd : Nat → Int32) (ln : Int32) (ov : Nat → Int64) (th : Int32) (z sv : Nat → Int32) (sn : Int32) (sp bf : Nat → Int32) (ty : Int32) (gn : Nat → Int32) (hs : Int64) (H : Heap) (locs : List Loc) (ls : Array Slot), RA P S nw hz cd ln z sv sn bf ty → va_P D vwCl (WL cy qa P T S nw hz ak pa wt cd ln ao ov ++ WM cy q th z sv sn sp bf ty gn hs) H → va_D A (WL cy qa P T S nw hz ak pa wt cd ln ao ov ++ WM cy q th z sv sn sp bf ty gn hs) → va_S A s.heap H locs → lv_has ls 9 [(0, .ref b), (1, .ref (qa 0 0)), (2, .ref (q 0)), (3, .ref ao), (4, .int (Int32.ofNat k))] → W p l e room_1 s m args below meth c H locs (cells + 1) (slots + 6) Q (F0 m 1284 ls [])) : W p l e room_1 s m args below meth c H locs cells slots Q (F0 m 968 ls []) := by
  have h1i : vp_in (Int32.ofNat k + 1) L := pw_ix1 hL hk
  have h2i : vp_in (Int32.ofNat k + 2) L := pw_ix2 hL hk
  have hts := hF.2.2.2.2
  rcases c_setting RAh (xs (Int32.ofNat k + 1).toNatClampNeg) th with ⟨h3, h4⟩ | ⟨r, h3, h4⟩
  · skip
    refine lv_aload_n hx hb dL_law_968 rfl (lv_at hl 1 rfl) ?_
    refine lv_aload_n hx hb dL_law_969 rfl (lv_at hl 0 rfl) ?_
    refine lv_iload hx hb dL_law_970 (lv_at hl 4 rfl) ?_
    refine lv_iconst (v := 1) hx hb dL_law_972 (by decide) ?_
    refine lv_iadd hx hb dL_law_973 ?_
    refine va_sld hx hb hX hbl hbA hS h1i dL_law_974 ?_
    refine lv_aload_n hx hb dL_law_975 rfl (lv_at hl 3 rfl) ?_
    refine pw_lcall (r := 1) (ws0 := WL cy qa P T S nw hz ak pa wt cd ln ao ov ++ WM cy q th z sv sn sp bf ty gn hs) (ws1 := WL cy qa P T S nw hz ak pa wt cd ln ao ov ++ WM cy q th z sv sn sp bf ty gn hs) (wa := []) (wb := WM cy q th z sv sn sp bf ty gn hs) (wc := WL cy qa P T S nw hz ak pa wt cd ln ao ov) (w1 := WL cy qa P T S nw hz ak pa wt cd ln ao ov) (rest := []) (As := [.ref (qa 0 0), .int (xs (Int32.ofNat k + 1).toNatClampNeg), .ref ao]) hF (kL_setting_t1 l hfl D cy qa _ P T S nw hz ak pa wt cd ln ao ov (xs (Int32.ofNat k + 1).toNatClampNeg) h3) (vx_cwSW 3 hts (pw_gSW aw_643 aw_644 aw_0 aw_645) rfl rfl rfl pL_setting ⟨Nat.le_of_ble_eq_true rfl, Nat.le_of_ble_eq_true rfl⟩) hK hP hD hS hA hE rfl rfl rfl rfl hl.1 rfl (Nat.le_of_ble_eq_true rfl) dL_law_976 ⟨by omega, by omega⟩ (fun H locs hP hD hS => ?_)
    refine lv_istore (lv' := [(5, .int 1), (0, .ref b), (1, .ref (qa 0 0)), (2, .ref (q 0)), (3, .ref ao), (4, .int (Int32.ofNat k))]) hx hb dL_law_979 hl (by decide) rfl (fun ls hl => ?_)
    refine lv_aload_n hx hb dL_law_981 rfl (lv_at hl 3 rfl) ?_
    refine lv_aload_n hx hb dL_law_982 rfl (lv_at hl 1 rfl) ?_
    refine lv_iload hx hb dL_law_983 (lv_at hl 5 rfl) ?_
    refine lv_iconst (v := 1) hx hb dL_law_985 (by decide) ?_
    refine lv_iadd hx hb dL_law_986 ?_
    refine va_sld hx hb hX hbl hbA hS h1i dL_law_987 ?_
    refine pw_fi (r := 0) (ws0 := WL cy qa P T S nw hz ak pa wt cd ln ao ov ++ WM cy q th z sv sn sp bf ty gn hs) (ws1 := WL cy qa P T S nw hz ak pa wt cd ln ao ov ++ WM cy q 1 z sv sn sp bf ty gn hs) (wa := WL cy qa P T S nw hz ak pa wt cd ln ao ov) (wb := []) (wc := WM cy q th z sv sn sp bf ty gn hs) (w1 := WM cy q 1 z sv sn sp bf ty gn hs) (rest := []) (As := [.int (xs (Int32.ofNat k + 1).toNatClampNeg)]) hF (kX4_setting l D cy q _ th z sv sn sp bf ty gn hs (xs (Int32.ofNat k + 1).toNatClampNeg) (0, 1) h4) (cwV 1 hts (pw_gVt (own := RL) (idx := 140) (C := RX4) (y := yX4_setting) aw_949 aw_950 aw_951 aw_6 aw_952) rfl rfl rfl pX4_setting ⟨Nat.le_of_ble_eq_true rfl, Nat.le_of_ble_eq_true rfl⟩) 4 (RX4, TX4, 9) rfl rfl ⟨0, _, rfl⟩ hK hP hD hS hA (by rw [List.append_nil]) (by rw [List.append_nil]) rfl rfl hl.1 rfl (Nat.le_of_ble_eq_true rfl) dL_law_988 ⟨hR1, hR2⟩ (fun H locs hP hD hS => ?_)
    refine lv_istore (lv' := [(6, .int 0), (5, .int 1), (0, .ref b), (1, .ref (qa 0 0)), (2, .ref (q 0)), (3, .ref ao), (4, .int (Int32.ofNat k))]) hx hb dL_law_991 hl (by decide) rfl (fun ls hl => ?_)
    refine lv_aload_n hx hb dL_law_993 rfl (lv_at hl 4 rfl) ?_
    refine pw_fi (r := 1) (ws0 := WL cy qa P T S nw hz ak pa wt cd ln ao ov ++ WM cy q 1 z sv sn sp bf ty gn hs) (ws1 := WL cy qa P T S nw hz ak pa wt cd ln ao ov ++ WM cy q 1 z sv sn sp bf ty gn hs) (wa := WL cy qa P T S nw hz ak pa wt cd ln ao ov) (wb := []) (wc := WM cy q 1 z sv sn sp bf ty gn hs) (w1 := WM cy q 1 z sv sn sp bf ty gn hs) (rest := []) (As := []) hF (kX4_thrown l D cy q _ 1 z sv sn sp bf ty gn hs 1 rfl) (cwV 0 hts (pw_gVt (own := RL) (idx := 80) (C := RX4) (y := yX4_thrown) aw_714 aw_715 aw_716 aw_6 aw_717) rfl rfl rfl pX4_thrown ⟨Nat.le_of_ble_eq_true rfl, Nat.le_of_ble_eq_true rfl⟩) 4 (RX4, TX4, 9) rfl rfl ⟨0, _, rfl⟩ hK hP hD hS hA (by rw [List.append_nil]) (by rw [List.append_nil]) rfl rfl hl.1 rfl (Nat.le_of_ble_eq_true rfl) dL_law_994 ⟨hR1, hR2⟩ (fun H locs hP hD hS => ?_)
    refine lv_iload hx hb dL_law_997 (lv_at hl 1 rfl) ?_
    refine lv_icmp_eq (tgt := 1004) hx hb dL_law_999 (by decide) (fun _ => ?_) (fun c_ => absurd rfl c_)
    refine lv_iload hx hb dL_law_1004 (lv_at hl 1 rfl) ?_
    refine lv_if_ne (tgt := 1021) hx hb dL_law_1006 (by decide) (fun _ => ?_) (fun c_ => absurd c_ (by decide))
    refine lv_goto (tgt := 1284) hx hb dL_law_1021 (by decide) ?_
    exact kk P T S nw hz ak pa wt cd ln ov 1 z sv sn sp bf ty gn hs H locs ls RAh hP hD hS ⟨hl.1, hl.2.1, fun x hx9 => hl.2.2 x (List.mem_cons_of_mem _ (List.mem_cons_of_mem _ hx9))⟩
  · skip
    refine lv_aload_n hx hb dL_law_968 rfl (lv_at hl 1 rfl) ?_
    refine lv_aload_n hx hb dL_law_969 rfl (lv_at hl 0 rfl) ?_
    refine lv_iload hx hb dL_law_970 (lv_at hl 4 rfl) ?_
    refine lv_iconst (v := 1) hx hb dL_law_972 (by decide) ?_
    refine lv_iadd hx hb dL_law_973 ?_
    refine va_sld hx hb hX hbl hbA hS h1i dL_law_974 ?_
    refine lv_aload_n hx hb dL_law_975 rfl (lv_at hl 3 rfl) ?_
    refine pw_lcall (r := 0) (ws0 := WL cy qa P T S nw hz ak pa wt cd ln ao ov ++ WM cy q th z sv sn sp bf ty gn hs) (ws1 := WL cy qa P T S nw hz ak pa wt cd ln ao (vp_updL ov (0 : Int32).toNatClampNeg r.toInt64) ++ WM cy q th z sv sn sp bf ty gn hs) (wa := []) (wb := WM cy q th z sv sn sp bf ty gn hs) (wc := WL cy qa P T S nw hz ak pa wt cd ln ao ov) (w1 := WL cy qa P T S nw hz ak pa wt cd ln ao (vp_updL ov (0 : Int32).toNatClampNeg r.toInt64)) (rest := []) (As := [.ref (qa 0 0), .int (xs (Int32.ofNat k + 1).toNatClampNeg), .ref ao]) hF (kL_setting_r l hfl D cy qa _ P T S nw hz ak pa wt cd ln ao ov (xs (Int32.ofNat k + 1).toNatClampNeg) r h3) (vx_cwSW 3 hts (pw_gSW aw_643 aw_644 aw_0 aw_645) rfl rfl rfl pL_setting ⟨Nat.le_of_ble_eq_true rfl, Nat.le_of_ble_eq_true rfl⟩) hK hP hD hS hA hE rfl rfl rfl rfl hl.1 rfl (Nat.le_of_ble_eq_true rfl) dL_law_976 ⟨by omega, by omega⟩ (fun H locs hP hD hS => ?_)
    refine W.widen (k := cells + 1) (n := slots + 6) (by omega) (by omega) ?_
    refine lv_istore (lv' := [(5, .int 0), (0, .ref b), (1, .ref (qa 0 0)), (2, .ref (q 0)), (3, .ref ao), (4, .int (Int32.ofNat k))]) hx hb dL_law_979 hl (by decide) rfl (fun ls hl => ?_)
    refine lv_aload_n hx hb dL_law_981 rfl (lv_at hl 3 rfl) ?_
    refine lv_aload_n hx hb dL_law_982 rfl (lv_at hl 1 rfl) ?_
    refine lv_iload hx hb dL_law_983 (lv_at hl 5 rfl) ?_
    refine lv_iconst (v := 1) hx hb dL_law_985 (by decide) ?_
    refine lv_iadd hx hb dL_law_986 ?_
    refine va_sld hx hb hX hbl hbA hS h1i dL_law_987 ?_
    refine pw_fi (r := r) (ws0 := WL cy qa P T S nw hz ak pa wt cd ln ao (vp_updL ov (0 : Int32).toNatClampNeg r.toInt64) ++ WM cy q th z sv sn sp bf ty gn hs) (ws1 := WL cy qa P T S nw hz ak pa wt cd ln ao (vp_updL ov (0 : Int32).toNatClampNeg r.toInt64) ++ WM cy q 0 z sv sn sp bf ty gn hs) (wa := WL cy qa P T S nw hz ak pa wt cd ln ao (vp_updL ov (0 : Int32).toNatClampNeg r.toInt64)) (wb := []) (wc := WM cy q th z sv sn sp bf ty gn hs) (w1 := WM cy q 0 z sv sn sp bf ty gn hs) (rest := []) (As := [.int (xs (Int32.ofNat k + 1).toNatClampNeg)]) hF (kX4_setting l D cy q _ th z sv sn sp bf ty gn hs (xs (Int32.ofNat k + 1).toNatClampNeg) (r, 0) h4) (cwV 1 hts (pw_gVt (own := RL) (idx := 140) (C := RX4) (y := yX4_setting) aw_949 aw_950 aw_951 aw_6 aw_952) rfl rfl rfl pX4_setting ⟨Nat.le_of_ble_eq_true rfl, Nat.le_of_ble_eq_true rfl⟩) 4 (RX4, TX4, 9) rfl rfl ⟨0, _, rfl⟩ hK hP hD hS hA (by rw [List.append_nil]) (by rw [List.append_nil]) rfl rfl hl.1 rfl (Nat.le_of_ble_eq_true rfl) dL_law_988 ⟨hR1, hR2⟩ (fun H locs hP hD hS => ?_)
    refine lv_istore (lv' := [(6, .int r), (5, .int 0), (0, .ref b), (1, .ref (qa 0 0)), (2, .ref (q 0)), (3, .ref ao), (4, .int (Int32.ofNat k))]) hx hb dL_law_991 hl (by decide) rfl (fun ls hl => ?_)
    refine lv_aload_n hx hb dL_law_993 rfl (lv_at hl 4 rfl) ?_
    refine pw_fi (r := 0) (ws0 := WL cy qa P T S nw hz ak pa wt cd ln ao (vp_updL ov (0 : Int32).toNatClampNeg r.toInt64) ++ WM cy q 0 z sv sn sp bf ty gn hs) (ws1 := WL cy qa P T S nw hz ak pa wt cd ln ao (vp_updL ov (0 : Int32).toNatClampNeg r.toInt64) ++ WM cy q 0 z sv sn sp bf ty gn hs) (wa := WL cy qa P T S nw hz ak pa wt cd ln ao (vp_updL ov (0 : Int32).toNatClampNeg r.toInt64)) (wb := []) (wc := WM cy q 0 z sv sn sp bf ty gn hs) (w1 := WM cy q 0 z sv sn sp bf ty gn hs) (rest := []) (As := []) hF (kX4_thrown l D cy q _ 0 z sv sn sp bf ty gn hs 0 rfl) (cwV 0 hts (pw_gVt (own := RL) (idx := 80) (C := RX4) (y := yX4_thrown) aw_714 aw_715 aw_716 aw_6 aw_717) rfl rfl rfl pX4_thrown ⟨Nat.le_of_ble_eq_true rfl, Nat.le_of_ble_eq_true rfl⟩) 4 (RX4, TX4, 9) rfl rfl ⟨0, _, rfl⟩ hK hP hD hS hA (by rw [List.append_nil]) (by rw [List.append_nil]) rfl rfl hl.1 rfl (Nat.le_of_ble_eq_true rfl) dL_law_994 ⟨hR1, hR2⟩ (fun H locs hP hD hS => ?_)
    refine lv_iload hx hb dL_law_997 (lv_at hl 1 rfl) ?_
    refine lv_icmp_eq (tgt := 1004) hx hb dL_law_999 (by decide) (fun _ => ?_) (fun c_ => absurd rfl c_)
    refine lv_iload hx hb dL_law_1004 (lv_at hl 1 rfl) ?_
    refine lv_if_ne (tgt := 1021) hx hb dL_law_1006 (by decide) (fun c_ => absurd rfl c_) (fun _ => ?_)
    refine lv_aload_n hx hb dL_law_1009 rfl (lv_at hl 5 rfl) ?_
    refine lv_iconst (v := 0) hx hb dL_law_1010 (by decide) ?_
    refine va_lald hx hb hK hP 128 3 rfl rfl (pq_vp (by decide)) dL_law_1011 ?_
    refine lv_iload hx hb dL_law_1012 (lv_at hl 0 rfl) ?_
    refine lv_i2l (v := r.toInt64) hx hb dL_law_1014 rfl ?_
    refine W.lcmp hx hb dL_law_1015 ?_
    refine lv_if_eq (tgt := 1021) hx hb dL_law_1016 (by decide) (fun _ => ?_) (fun c_ => absurd ((lg_cmp_eq _ _).mpr rfl) c_)
    refine lv_goto (tgt := 1284) hx hb dL_law_1021 (by decide) ?_
    exact kk P T S nw hz ak pa wt cd ln (vp_updL ov (0 : Int32).toNatClampNeg r.toInt64) 0 z sv sn sp bf ty gn hs H locs ls RAh hP hD hS ⟨hl.1, hl.2.1, fun x hx9 => hl.2.2 x (List.mem_cons_of_mem _ (List.mem_cons_of_mem _ hx9))⟩
set_option maxHeartbeats 8000000 in
set_option maxRecDepth 100000 in
theorem kA_ifAsked {p : Program} {e : Env} {s : State} {m : MethodId} {args : Array Value} {below : List Frame} {meth : Method} {c : Code} (l : Launch) (hfl : l.stackTraces = false) {D : va_G} {cy : Nat → ClassId} {qa : Nat → Nat → Nat} {q : Nat → Nat} {A : Nat → Prop} {b L k ao : Nat} {xs : Nat → Int32} (hx : p.tables.exec = Jvm.exec) (hb : c.code = cL_law) (hF : CallFix p m c cL_law 9 s args pw_all RL) (hK : va_K D vwCl (pw_tys cy) s) (hE : pw_E A s s.heap) (hA : ∀ q : Nat, s.heap.size ≤ q → A q) (hX : va_X b L xs s s.heap) (hbl : b < s.heap.size) (hbA : ¬ A b) (hL : L ≤ 1536) (hk : k + 2 < L) {P T : Nat → Nat → Int32} {S : Nat → Nat → Nat → Int32} {nw hz : Int32} {ak pa wt cd : Nat → Int32} {ln : Int32} {ov : Nat → Int64} {th : Int32} {z sv : Nat → Int32} {sn : Int32} {sp bf : Nat → Int32} {ty : Int32} {gn : Nat → Int32} {hs : Int64} (RAh : RA P S nw hz cd ln z sv sn bf ty) {H : Heap} {locs : List Loc} {ls : Array Slot} {cells slots : Nat} {Q : State → Prop} (hP : va_P D vwCl (WL cy qa P T S nw hz ak pa wt cd ln ao ov ++ WM cy q th z sv sn sp bf ty gn hs) H) (hD : va_D A (WL cy qa P T S nw hz ak pa wt cd ln ao ov ++ WM cy q th z sv sn sp bf ty gn hs)) (hS : va_S A s.heap H locs) (hl : lv_has ls 9 [(0, .ref b), (1, .ref (qa 0 0)), (2, .ref (q 0)), (3, .ref ao), (4, .int (Int32.ofNat k))]) (hR1 : cells + 1 ≤ room_1.cells) (hR2 : slots + 6 ≤ room_1.slots) (kk : ∀ (P T : Nat → Nat → Int32) (S : Nat → Nat → Nat → Int32) (nw hz : Int32) (ak pa wt cd : Nat → Int32) (ln : Int32) (ov : Nat → Int64) (th : Int32) (z sv : Nat → Int32) (sn : Int32) (sp bf : Nat → Int32) (ty : Int32) (gn : Nat → Int32) (hs : Int64) (H : Heap) (locs : List Loc) (ls : Array Slot), RA P S nw hz cd ln z sv sn bf ty → va_P D vwCl (WL cy qa P T S nw hz ak pa wt cd ln ao ov ++ WM cy q th z sv sn sp bf ty gn hs) H → va_D A (WL cy qa P T S nw hz ak pa wt cd ln ao ov ++ WM cy q th z sv sn sp bf ty gn hs) → va_S A s.heap H locs → lv_has ls 9 [(0, .ref b), (1, .ref (qa 0 0)), (2, .ref (q 0)), (3, .ref ao), (4, .int (Int32.ofNat k))] → W p l e room_1 s m args below meth c H locs (cells + 1) (slots + 6) Q (F0 m 1284 ls [])) : W p l e room_1 s m args below meth c H locs cells slots Q (F0 m 1024 ls []) := by
  have h1i : vp_in (Int32.ofNat k + 1) L := pw_ix1 hL hk
  have h2i : vp_in (Int32.ofNat k + 2) L := pw_ix2 hL hk
  have hts := hF.2.2.2.2
  rcases c_ifAsked RAh (xs (Int32.ofNat k + 1).toNatClampNeg) (xs (Int32.ofNat k + 2).toNatClampNeg) th T ak sp gn with (⟨h3, h4⟩ | ⟨h3, h4⟩) | ⟨r, T', ak', z', sp', gn', h3, h4, RA1⟩
  · skip
    refine lv_aload_n hx hb dL_law_1024 rfl (lv_at hl 1 rfl) ?_
    refine lv_aload_n hx hb dL_law_1025 rfl (lv_at hl 0 rfl) ?_
    refine lv_iload hx hb dL_law_1026 (lv_at hl 4 rfl) ?_
    refine lv_iconst (v := 1) hx hb dL_law_1028 (by decide) ?_
    refine lv_iadd hx hb dL_law_1029 ?_
    refine va_sld hx hb hX hbl hbA hS h1i dL_law_1030 ?_
    refine lv_aload_n hx hb dL_law_1031 rfl (lv_at hl 0 rfl) ?_
    refine lv_iload hx hb dL_law_1032 (lv_at hl 4 rfl) ?_
    refine lv_iconst (v := 2) hx hb dL_law_1034 (by decide) ?_
    refine lv_iadd hx hb dL_law_1035 ?_
    refine va_sld hx hb hX hbl hbA hS h2i dL_law_1036 ?_
    refine lv_aload_n hx hb dL_law_1037 rfl (lv_at hl 3 rfl) ?_
    refine pw_lcall (r := 1) (ws0 := WL cy qa P T S nw hz ak pa wt cd ln ao ov ++ WM cy q th z sv sn sp bf ty gn hs) (ws1 := WL cy qa P T S nw hz ak pa wt cd ln ao ov ++ WM cy q th z sv sn sp bf ty gn hs) (wa := []) (wb := WM cy q th z sv sn sp bf ty gn hs) (wc := WL cy qa P T S nw hz ak pa wt cd ln ao ov) (w1 := WL cy qa P T S nw hz ak pa wt cd ln ao ov) (rest := []) (As := [.ref (qa 0 0), .int (xs (Int32.ofNat k + 1).toNatClampNeg), .int (xs (Int32.ofNat k + 2).toNatClampNeg), .ref ao]) hF (kL_ifAsked_t1 l hfl D cy qa _ P T S nw hz ak pa wt cd ln ao ov (xs (Int32.ofNat k + 1).toNatClampNeg) (xs (Int32.ofNat k + 2).toNatClampNeg) h3) (vx_cwSW 4 hts (pw_gSW aw_650 aw_651 aw_0 aw_652) rfl rfl rfl pL_ifAsked ⟨Nat.le_of_ble_eq_true rfl, Nat.le_of_ble_eq_true rfl⟩) hK hP hD hS hA hE rfl rfl rfl rfl hl.1 rfl (Nat.le_of_ble_eq_true rfl) dL_law_1038 ⟨by omega, by omega⟩ (fun H locs hP hD hS => ?_)
    refine lv_istore (lv' := [(5, .int 1), (0, .ref b), (1, .ref (qa 0 0)), (2, .ref (q 0)), (3, .ref ao), (4, .int (Int32.ofNat k))]) hx hb dL_law_1041 hl (by decide) rfl (fun ls hl => ?_)
    refine lv_aload_n hx hb dL_law_1043 rfl (lv_at hl 3 rfl) ?_
    refine lv_aload_n hx hb dL_law_1044 rfl (lv_at hl 1 rfl) ?_
    refine lv_iload hx hb dL_law_1045 (lv_at hl 5 rfl) ?_
    refine lv_iconst (v := 1) hx hb dL_law_1047 (by decide) ?_
    refine lv_iadd hx hb dL_law_1048 ?_
    refine va_sld hx hb hX hbl hbA hS h1i dL_law_1049 ?_
    refine lv_aload_n hx hb dL_law_1050 rfl (lv_at hl 1 rfl) ?_
    refine lv_iload hx hb dL_law_1051 (lv_at hl 5 rfl) ?_
    refine lv_iconst (v := 2) hx hb dL_law_1053 (by decide) ?_
    refine lv_iadd hx hb dL_law_1054 ?_
    refine va_sld hx hb hX hbl hbA hS h2i dL_law_1055 ?_
    refine pw_fi (r := 0) (ws0 := WL cy qa P T S nw hz ak pa wt cd ln ao ov ++ WM cy q th z sv sn sp bf ty gn hs) (ws1 := WL cy qa P T S nw hz ak pa wt cd ln ao ov ++ WM cy q 1 z sv sn sp bf ty gn hs) (wa := WL cy qa P T S nw hz ak pa wt cd ln ao ov) (wb := []) (wc := WM cy q th z sv sn sp bf ty gn hs) (w1 := WM cy q 1 z sv sn sp bf ty gn hs) (rest := []) (As := [.int (xs (Int32.ofNat k + 1).toNatClampNeg), .int (xs (Int32.ofNat k + 2).toNatClampNeg)]) hF (kX4_ifAsked l D cy q _ th z sv sn sp bf ty gn hs (xs (Int32.ofNat k + 1).toNatClampNeg) (xs (Int32.ofNat k + 2).toNatClampNeg) (0, 1, z, sp, gn) h4) (cwV 2 hts (pw_gVt (own := RL) (idx := 143) (C := RX4) (y := yX4_ifAsked) aw_953 aw_954 aw_955 aw_6 aw_956) rfl rfl rfl pX4_ifAsked ⟨Nat.le_of_ble_eq_true rfl, Nat.le_of_ble_eq_true rfl⟩) 4 (RX4, TX4, 9) rfl rfl ⟨0, _, rfl⟩ hK hP hD hS hA (by rw [List.append_nil]) (by rw [List.append_nil]) rfl rfl hl.1 rfl (Nat.le_of_ble_eq_true rfl) dL_law_1056 ⟨hR1, hR2⟩ (fun H locs hP hD hS => ?_)
    refine lv_istore (lv' := [(6, .int 0), (5, .int 1), (0, .ref b), (1, .ref (qa 0 0)), (2, .ref (q 0)), (3, .ref ao), (4, .int (Int32.ofNat k))]) hx hb dL_law_1059 hl (by decide) rfl (fun ls hl => ?_)
    refine lv_aload_n hx hb dL_law_1061 rfl (lv_at hl 4 rfl) ?_
    refine pw_fi (r := 1) (ws0 := WL cy qa P T S nw hz ak pa wt cd ln ao ov ++ WM cy q 1 z sv sn sp bf ty gn hs) (ws1 := WL cy qa P T S nw hz ak pa wt cd ln ao ov ++ WM cy q 1 z sv sn sp bf ty gn hs) (wa := WL cy qa P T S nw hz ak pa wt cd ln ao ov) (wb := []) (wc := WM cy q 1 z sv sn sp bf ty gn hs) (w1 := WM cy q 1 z sv sn sp bf ty gn hs) (rest := []) (As := []) hF (kX4_thrown l D cy q _ 1 z sv sn sp bf ty gn hs 1 rfl) (cwV 0 hts (pw_gVt (own := RL) (idx := 80) (C := RX4) (y := yX4_thrown) aw_714 aw_715 aw_716 aw_6 aw_717) rfl rfl rfl pX4_thrown ⟨Nat.le_of_ble_eq_true rfl, Nat.le_of_ble_eq_true rfl⟩) 4 (RX4, TX4, 9) rfl rfl ⟨0, _, rfl⟩ hK hP hD hS hA (by rw [List.append_nil]) (by rw [List.append_nil]) rfl rfl hl.1 rfl (Nat.le_of_ble_eq_true rfl) dL_law_1062 ⟨hR1, hR2⟩ (fun H locs hP hD hS => ?_)
    refine lv_iload hx hb dL_law_1065 (lv_at hl 1 rfl) ?_
    refine lv_icmp_eq (tgt := 1072) hx hb dL_law_1067 (by decide) (fun _ => ?_) (fun c_ => absurd rfl c_)
    refine lv_iload hx hb dL_law_1072 (lv_at hl 1 rfl) ?_
    refine lv_if_ne (tgt := 1089) hx hb dL_law_1074 (by decide) (fun _ => ?_) (fun c_ => absurd c_ (by decide))
    refine lv_goto (tgt := 1284) hx hb dL_law_1089 (by decide) ?_
    exact kk P T S nw hz ak pa wt cd ln ov 1 z sv sn sp bf ty gn hs H locs ls RAh hP hD hS ⟨hl.1, hl.2.1, fun x hx9 => hl.2.2 x (List.mem_cons_of_mem _ (List.mem_cons_of_mem _ hx9))⟩
  · skip
    refine lv_aload_n hx hb dL_law_1024 rfl (lv_at hl 1 rfl) ?_
    refine lv_aload_n hx hb dL_law_1025 rfl (lv_at hl 0 rfl) ?_
    refine lv_iload hx hb dL_law_1026 (lv_at hl 4 rfl) ?_
    refine lv_iconst (v := 1) hx hb dL_law_1028 (by decide) ?_
    refine lv_iadd hx hb dL_law_1029 ?_
    refine va_sld hx hb hX hbl hbA hS h1i dL_law_1030 ?_
    refine lv_aload_n hx hb dL_law_1031 rfl (lv_at hl 0 rfl) ?_
    refine lv_iload hx hb dL_law_1032 (lv_at hl 4 rfl) ?_
    refine lv_iconst (v := 2) hx hb dL_law_1034 (by decide) ?_
    refine lv_iadd hx hb dL_law_1035 ?_
    refine va_sld hx hb hX hbl hbA hS h2i dL_law_1036 ?_
    refine lv_aload_n hx hb dL_law_1037 rfl (lv_at hl 3 rfl) ?_
    refine pw_lcall (r := 2) (ws0 := WL cy qa P T S nw hz ak pa wt cd ln ao ov ++ WM cy q th z sv sn sp bf ty gn hs) (ws1 := WL cy qa P T S nw hz ak pa wt cd ln ao ov ++ WM cy q th z sv sn sp bf ty gn hs) (wa := []) (wb := WM cy q th z sv sn sp bf ty gn hs) (wc := WL cy qa P T S nw hz ak pa wt cd ln ao ov) (w1 := WL cy qa P T S nw hz ak pa wt cd ln ao ov) (rest := []) (As := [.ref (qa 0 0), .int (xs (Int32.ofNat k + 1).toNatClampNeg), .int (xs (Int32.ofNat k + 2).toNatClampNeg), .ref ao]) hF (kL_ifAsked_t3 l hfl D cy qa _ P T S nw hz ak pa wt cd ln ao ov (xs (Int32.ofNat k + 1).toNatClampNeg) (xs (Int32.ofNat k + 2).toNatClampNeg) h3) (vx_cwSW 4 hts (pw_gSW aw_650 aw_651 aw_0 aw_652) rfl rfl rfl pL_ifAsked ⟨Nat.le_of_ble_eq_true rfl, Nat.le_of_ble_eq_true rfl⟩) hK hP hD hS hA hE rfl rfl rfl rfl hl.1 rfl (Nat.le_of_ble_eq_true rfl) dL_law_1038 ⟨by omega, by omega⟩ (fun H locs hP hD hS => ?_)
    refine lv_istore (lv' := [(5, .int 2), (0, .ref b), (1, .ref (qa 0 0)), (2, .ref (q 0)), (3, .ref ao), (4, .int (Int32.ofNat k))]) hx hb dL_law_1041 hl (by decide) rfl (fun ls hl => ?_)
    refine lv_aload_n hx hb dL_law_1043 rfl (lv_at hl 3 rfl) ?_
    refine lv_aload_n hx hb dL_law_1044 rfl (lv_at hl 1 rfl) ?_
    refine lv_iload hx hb dL_law_1045 (lv_at hl 5 rfl) ?_
    refine lv_iconst (v := 1) hx hb dL_law_1047 (by decide) ?_
    refine lv_iadd hx hb dL_law_1048 ?_
    refine va_sld hx hb hX hbl hbA hS h1i dL_law_1049 ?_
    refine lv_aload_n hx hb dL_law_1050 rfl (lv_at hl 1 rfl) ?_
    refine lv_iload hx hb dL_law_1051 (lv_at hl 5 rfl) ?_
    refine lv_iconst (v := 2) hx hb dL_law_1053 (by decide) ?_
    refine lv_iadd hx hb dL_law_1054 ?_
    refine va_sld hx hb hX hbl hbA hS h2i dL_law_1055 ?_
    refine pw_fi (r := 0) (ws0 := WL cy qa P T S nw hz ak pa wt cd ln ao ov ++ WM cy q th z sv sn sp bf ty gn hs) (ws1 := WL cy qa P T S nw hz ak pa wt cd ln ao ov ++ WM cy q 2 z sv sn sp bf ty gn hs) (wa := WL cy qa P T S nw hz ak pa wt cd ln ao ov) (wb := []) (wc := WM cy q th z sv sn sp bf ty gn hs) (w1 := WM cy q 2 z sv sn sp bf ty gn hs) (rest := []) (As := [.int (xs (Int32.ofNat k + 1).toNatClampNeg), .int (xs (Int32.ofNat k + 2).toNatClampNeg)]) hF (kX4_ifAsked l D cy q _ th z sv sn sp bf ty gn hs (xs (Int32.ofNat k + 1).toNatClampNeg) (xs (Int32.ofNat k + 2).toNatClampNeg) (0, 2, z, sp, gn) h4) (cwV 2 hts (pw_gVt (own := RL) (idx := 143) (C := RX4) (y := yX4_ifAsked) aw_953 aw_954 aw_955 aw_6 aw_956) rfl rfl rfl pX4_ifAsked ⟨Nat.le_of_ble_eq_true rfl, Nat.le_of_ble_eq_true rfl⟩) 4 (RX4, TX4, 9) rfl rfl ⟨0, _, rfl⟩ hK hP hD hS hA (by rw [List.append_nil]) (by rw [List.append_nil]) rfl rfl hl.1 rfl (Nat.le_of_ble_eq_true rfl) dL_law_1056 ⟨hR1, hR2⟩ (fun H locs hP hD hS => ?_)
    refine lv_istore (lv' := [(6, .int 0), (5, .int 2), (0, .ref b), (1, .ref (qa 0 0)), (2, .ref (q 0)), (3, .ref ao), (4, .int (Int32.ofNat k))]) hx hb dL_law_1059 hl (by decide) rfl (fun ls hl => ?_)
    refine lv_aload_n hx hb dL_law_1061 rfl (lv_at hl 4 rfl) ?_
    refine pw_fi (r := 2) (ws0 := WL cy qa P T S nw hz ak pa wt cd ln ao ov ++ WM cy q 2 z sv sn sp bf ty gn hs) (ws1 := WL cy qa P T S nw hz ak pa wt cd ln ao ov ++ WM cy q 2 z sv sn sp bf ty gn hs) (wa := WL cy qa P T S nw hz ak pa wt cd ln ao ov) (wb := []) (wc := WM cy q 2 z sv sn sp bf ty gn hs) (w1 := WM cy q 2 z sv sn sp bf ty gn hs) (rest := []) (As := []) hF (kX4_thrown l D cy q _ 2 z sv sn sp bf ty gn hs 2 rfl) (cwV 0 hts (pw_gVt (own := RL) (idx := 80) (C := RX4) (y := yX4_thrown) aw_714 aw_715 aw_716 aw_6 aw_717) rfl rfl rfl pX4_thrown ⟨Nat.le_of_ble_eq_true rfl, Nat.le_of_ble_eq_true rfl⟩) 4 (RX4, TX4, 9) rfl rfl ⟨0, _, rfl⟩ hK hP hD hS hA (by rw [List.append_nil]) (by rw [List.append_nil]) rfl rfl hl.1 rfl (Nat.le_of_ble_eq_true rfl) dL_law_1062 ⟨hR1, hR2⟩ (fun H locs hP hD hS => ?_)
    refine lv_iload hx hb dL_law_1065 (lv_at hl 1 rfl) ?_
    refine lv_icmp_eq (tgt := 1072) hx hb dL_law_1067 (by decide) (fun _ => ?_) (fun c_ => absurd rfl c_)
    refine lv_iload hx hb dL_law_1072 (lv_at hl 1 rfl) ?_
    refine lv_if_ne (tgt := 1089) hx hb dL_law_1074 (by decide) (fun _ => ?_) (fun c_ => absurd c_ (by decide))
    refine lv_goto (tgt := 1284) hx hb dL_law_1089 (by decide) ?_
    exact kk P T S nw hz ak pa wt cd ln ov 2 z sv sn sp bf ty gn hs H locs ls RAh hP hD hS ⟨hl.1, hl.2.1, fun x hx9 => hl.2.2 x (List.mem_cons_of_mem _ (List.mem_cons_of_mem _ hx9))⟩
  · skip
    refine lv_aload_n hx hb dL_law_1024 rfl (lv_at hl 1 rfl) ?_
    refine lv_aload_n hx hb dL_law_1025 rfl (lv_at hl 0 rfl) ?_
    refine lv_iload hx hb dL_law_1026 (lv_at hl 4 rfl) ?_
    refine lv_iconst (v := 1) hx hb dL_law_1028 (by decide) ?_
    refine lv_iadd hx hb dL_law_1029 ?_
    refine va_sld hx hb hX hbl hbA hS h1i dL_law_1030 ?_
    refine lv_aload_n hx hb dL_law_1031 rfl (lv_at hl 0 rfl) ?_
    refine lv_iload hx hb dL_law_1032 (lv_at hl 4 rfl) ?_
    refine lv_iconst (v := 2) hx hb dL_law_1034 (by decide) ?_
    refine lv_iadd hx hb dL_law_1035 ?_
    refine va_sld hx hb hX hbl hbA hS h2i dL_law_1036 ?_
    refine lv_aload_n hx hb dL_law_1037 rfl (lv_at hl 3 rfl) ?_
    refine pw_lcall (r := 0) (ws0 := WL cy qa P T S nw hz ak pa wt cd ln ao ov ++ WM cy q th z sv sn sp bf ty gn hs) (ws1 := WL cy qa P T' S nw hz ak' pa wt cd ln ao (vp_updL ov (0 : Int32).toNatClampNeg r.toInt64) ++ WM cy q th z sv sn sp bf ty gn hs) (wa := []) (wb := WM cy q th z sv sn sp bf ty gn hs) (wc := WL cy qa P T S nw hz ak pa wt cd ln ao ov) (w1 := WL cy qa P T' S nw hz ak' pa wt cd ln ao (vp_updL ov (0 : Int32).toNatClampNeg r.toInt64)) (rest := []) (As := [.ref (qa 0 0), .int (xs (Int32.ofNat k + 1).toNatClampNeg), .int (xs (Int32.ofNat k + 2).toNatClampNeg), .ref ao]) hF (kL_ifAsked_r l hfl D cy qa _ P T S nw hz ak pa wt cd ln ao ov (xs (Int32.ofNat k + 1).toNatClampNeg) (xs (Int32.ofNat k + 2).toNatClampNeg) (r, T', ak') h3) (vx_cwSW 4 hts (pw_gSW aw_650 aw_651 aw_0 aw_652) rfl rfl rfl pL_ifAsked ⟨Nat.le_of_ble_eq_true rfl, Nat.le_of_ble_eq_true rfl⟩) hK hP hD hS hA hE rfl rfl rfl rfl hl.1 rfl (Nat.le_of_ble_eq_true rfl) dL_law_1038 ⟨by omega, by omega⟩ (fun H locs hP hD hS => ?_)
    refine W.widen (k := cells + 1) (n := slots + 6) (by omega) (by omega) ?_
    refine lv_istore (lv' := [(5, .int 0), (0, .ref b), (1, .ref (qa 0 0)), (2, .ref (q 0)), (3, .ref ao), (4, .int (Int32.ofNat k))]) hx hb dL_law_1041 hl (by decide) rfl (fun ls hl => ?_)
    refine lv_aload_n hx hb dL_law_1043 rfl (lv_at hl 3 rfl) ?_
    refine lv_aload_n hx hb dL_law_1044 rfl (lv_at hl 1 rfl) ?_
    refine lv_iload hx hb dL_law_1045 (lv_at hl 5 rfl) ?_
    refine lv_iconst (v := 1) hx hb dL_law_1047 (by decide) ?_
    refine lv_iadd hx hb dL_law_1048 ?_
    refine va_sld hx hb hX hbl hbA hS h1i dL_law_1049 ?_
    refine lv_aload_n hx hb dL_law_1050 rfl (lv_at hl 1 rfl) ?_
    refine lv_iload hx hb dL_law_1051 (lv_at hl 5 rfl) ?_
    refine lv_iconst (v := 2) hx hb dL_law_1053 (by decide) ?_
    refine lv_iadd hx hb dL_law_1054 ?_
    refine va_sld hx hb hX hbl hbA hS h2i dL_law_1055 ?_
    refine pw_fi (r := r) (ws0 := WL cy qa P T' S nw hz ak' pa wt cd ln ao (vp_updL ov (0 : Int32).toNatClampNeg r.toInt64) ++ WM cy q th z sv sn sp bf ty gn hs) (ws1 := WL cy qa P T' S nw hz ak' pa wt cd ln ao (vp_updL ov (0 : Int32).toNatClampNeg r.toInt64) ++ WM cy q 0 z' sv sn sp' bf ty gn' hs) (wa := WL cy qa P T' S nw hz ak' pa wt cd ln ao (vp_updL ov (0 : Int32).toNatClampNeg r.toInt64)) (wb := []) (wc := WM cy q th z sv sn sp bf ty gn hs) (w1 := WM cy q 0 z' sv sn sp' bf ty gn' hs) (rest := []) (As := [.int (xs (Int32.ofNat k + 1).toNatClampNeg), .int (xs (Int32.ofNat k + 2).toNatClampNeg)]) hF (kX4_ifAsked l D cy q _ th z sv sn sp bf ty gn hs (xs (Int32.ofNat k + 1).toNatClampNeg) (xs (Int32.ofNat k + 2).toNatClampNeg) (r, 0, z', sp', gn') h4) (cwV 2 hts (pw_gVt (own := RL) (idx := 143) (C := RX4) (y := yX4_ifAsked) aw_953 aw_954 aw_955 aw_6 aw_956) rfl rfl rfl pX4_ifAsked ⟨Nat.le_of_ble_eq_true rfl, Nat.le_of_ble_eq_true rfl⟩) 4 (RX4, TX4, 9) rfl rfl ⟨0, _, rfl⟩ hK hP hD hS hA (by rw [List.append_nil]) (by rw [List.append_nil]) rfl rfl hl.1 rfl (Nat.le_of_ble_eq_true rfl) dL_law_1056 ⟨hR1, hR2⟩ (fun H locs hP hD hS => ?_)
    refine lv_istore (lv' := [(6, .int r), (5, .int 0), (0, .ref b), (1, .ref (qa 0 0)), (2, .ref (q 0)), (3, .ref ao), (4, .int (Int32.ofNat k))]) hx hb dL_law_1059 hl (by decide) rfl (fun ls hl => ?_)
    refine lv_aload_n hx hb dL_law_1061 rfl (lv_at hl 4 rfl) ?_
    refine pw_fi (r := 0) (ws0 := WL cy qa P T' S nw hz ak' pa wt cd ln ao (vp_updL ov (0 : Int32).toNatClampNeg r.toInt64) ++ WM cy q 0 z' sv sn sp' bf ty gn' hs) (ws1 := WL cy qa P T' S nw hz ak' pa wt cd ln ao (vp_updL ov (0 : Int32).toNatClampNeg r.toInt64) ++ WM cy q 0 z' sv sn sp' bf ty gn' hs) (wa := WL cy qa P T' S nw hz ak' pa wt cd ln ao (vp_updL ov (0 : Int32).toNatClampNeg r.toInt64)) (wb := []) (wc := WM cy q 0 z' sv sn sp' bf ty gn' hs) (w1 := WM cy q 0 z' sv sn sp' bf ty gn' hs) (rest := []) (As := []) hF (kX4_thrown l D cy q _ 0 z' sv sn sp' bf ty gn' hs 0 rfl) (cwV 0 hts (pw_gVt (own := RL) (idx := 80) (C := RX4) (y := yX4_thrown) aw_714 aw_715 aw_716 aw_6 aw_717) rfl rfl rfl pX4_thrown ⟨Nat.le_of_ble_eq_true rfl, Nat.le_of_ble_eq_true rfl⟩) 4 (RX4, TX4, 9) rfl rfl ⟨0, _, rfl⟩ hK hP hD hS hA (by rw [List.append_nil]) (by rw [List.append_nil]) rfl rfl hl.1 rfl (Nat.le_of_ble_eq_true rfl) dL_law_1062 ⟨hR1, hR2⟩ (fun H locs hP hD hS => ?_)
    refine lv_iload hx hb dL_law_1065 (lv_at hl 1 rfl) ?_
    refine lv_icmp_eq (tgt := 1072) hx hb dL_law_1067 (by decide) (fun _ => ?_) (fun c_ => absurd rfl c_)
    refine lv_iload hx hb dL_law_1072 (lv_at hl 1 rfl) ?_
    refine lv_if_ne (tgt := 1089) hx hb dL_law_1074 (by decide) (fun c_ => absurd rfl c_) (fun _ => ?_)
    refine lv_aload_n hx hb dL_law_1077 rfl (lv_at hl 5 rfl) ?_
    refine lv_iconst (v := 0) hx hb dL_law_1078 (by decide) ?_
    refine va_lald hx hb hK hP 128 3 rfl rfl (pq_vp (by decide)) dL_law_1079 ?_
    refine lv_iload hx hb dL_law_1080 (lv_at hl 0 rfl) ?_
    refine lv_i2l (v := r.toInt64) hx hb dL_law_1082 rfl ?_
    refine W.lcmp hx hb dL_law_1083 ?_
    refine lv_if_eq (tgt := 1089) hx hb dL_law_1084 (by decide) (fun _ => ?_) (fun c_ => absurd ((lg_cmp_eq _ _).mpr rfl) c_)
    refine lv_goto (tgt := 1284) hx hb dL_law_1089 (by decide) ?_
    exact kk P T' S nw hz ak' pa wt cd ln (vp_updL ov (0 : Int32).toNatClampNeg r.toInt64) 0 z' sv sn sp' bf ty gn' hs H locs ls RA1 hP hD hS ⟨hl.1, hl.2.1, fun x hx9 => hl.2.2 x (List.mem_cons_of_mem _ (List.mem_cons_of_mem _ hx9))⟩
set_option maxHeartbeats 8000000 in
set_option maxRecDepth 100000 in
theorem kA_ifPassed {p : Program} {e : Env} {s : State} {m : MethodId} {args : Array Value} {below : List Frame} {meth : Method} {c : Code} (l : Launch) (hfl : l.stackTraces = false) {D : va_G} {cy : Nat → ClassId} {qa : Nat → Nat → Nat} {q : Nat → Nat} {A : Nat → Prop} {b L k ao : Nat} {xs : Nat → Int32} (hx : p.tables.exec = Jvm.exec) (hb : c.code = cL_law) (hF : CallFix p m c cL_law 9 s args pw_all RL) (hK : va_K D vwCl (pw_tys cy) s) (hE : pw_E A s s.heap) (hA : ∀ q : Nat, s.heap.size ≤ q → A q) (hX : va_X b L xs s s.heap) (hbl : b < s.heap.size) (hbA : ¬ A b) (hL : L ≤ 1536) (hk : k + 2 < L) {P T : Nat → Nat → Int32} {S : Nat → Nat → Nat → Int32} {nw hz : Int32} {ak pa wt cd : Nat → Int32} {ln : Int32} {ov : Nat → Int64} {th : Int32} {z sv : Nat → Int32} {sn : Int32} {sp bf : Nat → Int32} {ty : Int32} {gn : Nat → Int32} {hs : Int64} (RAh : RA P S nw hz cd ln z sv sn bf ty) {H : Heap} {locs : List Loc} {ls : Array Slot} {cells slots : Nat} {Q : State → Prop} (hP : va_P D vwCl (WL cy qa P T S nw hz ak pa wt cd ln ao ov ++ WM cy q th z sv sn sp bf ty gn hs) H) (hD : va_D A (WL cy qa P T S nw hz ak pa wt cd ln ao ov ++ WM cy q th z sv sn sp bf ty gn hs)) (hS : va_S A s.heap H locs) (hl : lv_has ls 9 [(0, .ref b), (1, .ref (qa 0 0)), (2, .ref (q 0)), (3, .ref ao), (4, .int (Int32.ofNat k))]) (hR1 : cells + 1 ≤ room_1.cells) (hR2 : slots + 6 ≤ room_1.slots) (kk : ∀ (P T : Nat → Nat → Int32) (S : Nat → Nat → Nat → Int32) (nw hz : Int32) (ak pa wt cd : Nat → Int32) (ln : Int32) (ov : Nat → Int64) (th : Int32) (z sv : Nat → Int32) (sn : Int32) (sp bf : Nat → Int32) (ty : Int32) (gn : Nat → Int32) (hs : Int64) (H : Heap) (locs : List Loc) (ls : Array Slot), RA P S nw hz cd ln z sv sn bf ty → va_P D vwCl (WL cy qa P T S nw hz ak pa wt cd ln ao ov ++ WM cy q th z sv sn sp bf ty gn hs) H → va_D A (WL cy qa P T S nw hz ak pa wt cd ln ao ov ++ WM cy q th z sv sn sp bf ty gn hs) → va_S A s.heap H locs → lv_has ls 9 [(0, .ref b), (1, .ref (qa 0 0)), (2, .ref (q 0)), (3, .ref ao), (4, .int (Int32.ofNat k))] → W p l e room_1 s m args below meth c H locs (cells + 1) (slots + 6) Q (F0 m 1284 ls [])) : W p l e room_1 s m args below meth c H locs cells slots Q (F0 m 1092 ls []) := by
  have h1i : vp_in (Int32.ofNat k + 1) L := pw_ix1 hL hk
  have h2i : vp_in (Int32.ofNat k + 2) L := pw_ix2 hL hk
  have hts := hF.2.2.2.2
  rcases c_ifPassed RAh (xs (Int32.ofNat k + 1).toNatClampNeg) (xs (Int32.ofNat k + 2).toNatClampNeg) th T pa sp gn with ⟨h3, h4⟩ | ⟨r, T', pa', z', sp', gn', h3, h4, RA1⟩
  · skip
    refine lv_aload_n hx hb dL_law_1092 rfl (lv_at hl 1 rfl) ?_
    refine lv_aload_n hx hb dL_law_1093 rfl (lv_at hl 0 rfl) ?_
    refine lv_iload hx hb dL_law_1094 (lv_at hl 4 rfl) ?_
    refine lv_iconst (v := 1) hx hb dL_law_1096 (by decide) ?_
    refine lv_iadd hx hb dL_law_1097 ?_
    refine va_sld hx hb hX hbl hbA hS h1i dL_law_1098 ?_
    refine lv_aload_n hx hb dL_law_1099 rfl (lv_at hl 0 rfl) ?_
    refine lv_iload hx hb dL_law_1100 (lv_at hl 4 rfl) ?_
    refine lv_iconst (v := 2) hx hb dL_law_1102 (by decide) ?_
    refine lv_iadd hx hb dL_law_1103 ?_
    refine va_sld hx hb hX hbl hbA hS h2i dL_law_1104 ?_
    refine lv_aload_n hx hb dL_law_1105 rfl (lv_at hl 3 rfl) ?_
    refine pw_lcall (r := 1) (ws0 := WL cy qa P T S nw hz ak pa wt cd ln ao ov ++ WM cy q th z sv sn sp bf ty gn hs) (ws1 := WL cy qa P T S nw hz ak pa wt cd ln ao ov ++ WM cy q th z sv sn sp bf ty gn hs) (wa := []) (wb := WM cy q th z sv sn sp bf ty gn hs) (wc := WL cy qa P T S nw hz ak pa wt cd ln ao ov) (w1 := WL cy qa P T S nw hz ak pa wt cd ln ao ov) (rest := []) (As := [.ref (qa 0 0), .int (xs (Int32.ofNat k + 1).toNatClampNeg), .int (xs (Int32.ofNat k + 2).toNatClampNeg), .ref ao]) hF (kL_ifPassed_t3 l hfl D cy qa _ P T S nw hz ak pa wt cd ln ao ov (xs (Int32.ofNat k + 1).toNatClampNeg) (xs (Int32.ofNat k + 2).toNatClampNeg) h3) (vx_cwSW 4 hts (pw_gSW aw_657 aw_658 aw_0 aw_659) rfl rfl rfl pL_ifPassed ⟨Nat.le_of_ble_eq_true rfl, Nat.le_of_ble_eq_true rfl⟩) hK hP hD hS hA hE rfl rfl rfl rfl hl.1 rfl (Nat.le_of_ble_eq_true rfl) dL_law_1106 ⟨by omega, by omega⟩ (fun H locs hP hD hS => ?_)
    refine lv_istore (lv' := [(5, .int 1), (0, .ref b), (1, .ref (qa 0 0)), (2, .ref (q 0)), (3, .ref ao), (4, .int (Int32.ofNat k))]) hx hb dL_law_1109 hl (by decide) rfl (fun ls hl => ?_)
    refine lv_aload_n hx hb dL_law_1111 rfl (lv_at hl 3 rfl) ?_
    refine lv_aload_n hx hb dL_law_1112 rfl (lv_at hl 1 rfl) ?_
    refine lv_iload hx hb dL_law_1113 (lv_at hl 5 rfl) ?_
    refine lv_iconst (v := 1) hx hb dL_law_1115 (by decide) ?_
    refine lv_iadd hx hb dL_law_1116 ?_
    refine va_sld hx hb hX hbl hbA hS h1i dL_law_1117 ?_
    refine lv_aload_n hx hb dL_law_1118 rfl (lv_at hl 1 rfl) ?_
    refine lv_iload hx hb dL_law_1119 (lv_at hl 5 rfl) ?_
    refine lv_iconst (v := 2) hx hb dL_law_1121 (by decide) ?_
    refine lv_iadd hx hb dL_law_1122 ?_
    refine va_sld hx hb hX hbl hbA hS h2i dL_law_1123 ?_
    refine pw_fi (r := 0) (ws0 := WL cy qa P T S nw hz ak pa wt cd ln ao ov ++ WM cy q th z sv sn sp bf ty gn hs) (ws1 := WL cy qa P T S nw hz ak pa wt cd ln ao ov ++ WM cy q 1 z sv sn sp bf ty gn hs) (wa := WL cy qa P T S nw hz ak pa wt cd ln ao ov) (wb := []) (wc := WM cy q th z sv sn sp bf ty gn hs) (w1 := WM cy q 1 z sv sn sp bf ty gn hs) (rest := []) (As := [.int (xs (Int32.ofNat k + 1).toNatClampNeg), .int (xs (Int32.ofNat k + 2).toNatClampNeg)]) hF (kX4_ifPassed l D cy q _ th z sv sn sp bf ty gn hs (xs (Int32.ofNat k + 1).toNatClampNeg) (xs (Int32.ofNat k + 2).toNatClampNeg) (0, 1, z, sp, gn) h4) (cwV 2 hts (pw_gVt (own := RL) (idx := 146) (C := RX4) (y := yX4_ifPassed) aw_969 aw_970 aw_971 aw_6 aw_972) rfl rfl rfl pX4_ifPassed ⟨Nat.le_of_ble_eq_true rfl, Nat.le_of_ble_eq_true rfl⟩) 4 (RX4, TX4, 9) rfl rfl ⟨0, _, rfl⟩ hK hP hD hS hA (by rw [List.append_nil]) (by rw [List.append_nil]) rfl rfl hl.1 rfl (Nat.le_of_ble_eq_true rfl) dL_law_1124 ⟨hR1, hR2⟩ (fun H locs hP hD hS => ?_)
    refine lv_istore (lv' := [(6, .int 0), (5, .int 1), (0, .ref b), (1, .ref (qa 0 0)), (2, .ref (q 0)), (3, .ref ao), (4, .int (Int32.ofNat k))]) hx hb dL_law_1127 hl (by decide) rfl (fun ls hl => ?_)
    refine lv_aload_n hx hb dL_law_1129 rfl (lv_at hl 4 rfl) ?_
    refine pw_fi (r := 1) (ws0 := WL cy qa P T S nw hz ak pa wt cd ln ao ov ++ WM cy q 1 z sv sn sp bf ty gn hs) (ws1 := WL cy qa P T S nw hz ak pa wt cd ln ao ov ++ WM cy q 1 z sv sn sp bf ty gn hs) (wa := WL cy qa P T S nw hz ak pa wt cd ln ao ov) (wb := []) (wc := WM cy q 1 z sv sn sp bf ty gn hs) (w1 := WM cy q 1 z sv sn sp bf ty gn hs) (rest := []) (As := []) hF (kX4_thrown l D cy q _ 1 z sv sn sp bf ty gn hs 1 rfl) (cwV 0 hts (pw_gVt (own := RL) (idx := 80) (C := RX4) (y := yX4_thrown) aw_714 aw_715 aw_716 aw_6 aw_717) rfl rfl rfl pX4_thrown ⟨Nat.le_of_ble_eq_true rfl, Nat.le_of_ble_eq_true rfl⟩) 4 (RX4, TX4, 9) rfl rfl ⟨0, _, rfl⟩ hK hP hD hS hA (by rw [List.append_nil]) (by rw [List.append_nil]) rfl rfl hl.1 rfl (Nat.le_of_ble_eq_true rfl) dL_law_1130 ⟨hR1, hR2⟩ (fun H locs hP hD hS => ?_)
    refine lv_iload hx hb dL_law_1133 (lv_at hl 1 rfl) ?_
    refine lv_icmp_eq (tgt := 1140) hx hb dL_law_1135 (by decide) (fun _ => ?_) (fun c_ => absurd rfl c_)
    refine lv_iload hx hb dL_law_1140 (lv_at hl 1 rfl) ?_
    refine lv_if_ne (tgt := 1157) hx hb dL_law_1142 (by decide) (fun _ => ?_) (fun c_ => absurd c_ (by decide))
    refine lv_goto (tgt := 1284) hx hb dL_law_1157 (by decide) ?_
    exact kk P T S nw hz ak pa wt cd ln ov 1 z sv sn sp bf ty gn hs H locs ls RAh hP hD hS ⟨hl.1, hl.2.1, fun x hx9 => hl.2.2 x (List.mem_cons_of_mem _ (List.mem_cons_of_mem _ hx9))⟩
  · skip
    refine lv_aload_n hx hb dL_law_1092 rfl (lv_at hl 1 rfl) ?_
    refine lv_aload_n hx hb dL_law_1093 rfl (lv_at hl 0 rfl) ?_
    refine lv_iload hx hb dL_law_1094 (lv_at hl 4 rfl) ?_
    refine lv_iconst (v := 1) hx hb dL_law_1096 (by decide) ?_
    refine lv_iadd hx hb dL_law_1097 ?_
    refine va_sld hx hb hX hbl hbA hS h1i dL_law_1098 ?_
    refine lv_aload_n hx hb dL_law_1099 rfl (lv_at hl 0 rfl) ?_
    refine lv_iload hx hb dL_law_1100 (lv_at hl 4 rfl) ?_
    refine lv_iconst (v := 2) hx hb dL_law_1102 (by decide) ?_
    refine lv_iadd hx hb dL_law_1103 ?_
    refine va_sld hx hb hX hbl hbA hS h2i dL_law_1104 ?_
    refine lv_aload_n hx hb dL_law_1105 rfl (lv_at hl 3 rfl) ?_
    refine pw_lcall (r := 0) (ws0 := WL cy qa P T S nw hz ak pa wt cd ln ao ov ++ WM cy q th z sv sn sp bf ty gn hs) (ws1 := WL cy qa P T' S nw hz ak pa' wt cd ln ao (vp_updL ov (0 : Int32).toNatClampNeg r.toInt64) ++ WM cy q th z sv sn sp bf ty gn hs) (wa := []) (wb := WM cy q th z sv sn sp bf ty gn hs) (wc := WL cy qa P T S nw hz ak pa wt cd ln ao ov) (w1 := WL cy qa P T' S nw hz ak pa' wt cd ln ao (vp_updL ov (0 : Int32).toNatClampNeg r.toInt64)) (rest := []) (As := [.ref (qa 0 0), .int (xs (Int32.ofNat k + 1).toNatClampNeg), .int (xs (Int32.ofNat k + 2).toNatClampNeg), .ref ao]) hF (kL_ifPassed_r l hfl D cy qa _ P T S nw hz ak pa wt cd ln ao ov (xs (Int32.ofNat k + 1).toNatClampNeg) (xs (Int32.ofNat k + 2).toNatClampNeg) (r, T', pa') h3) (vx_cwSW 4 hts (pw_gSW aw_657 aw_658 aw_0 aw_659) rfl rfl rfl pL_ifPassed ⟨Nat.le_of_ble_eq_true rfl, Nat.le_of_ble_eq_true rfl⟩) hK hP hD hS hA hE rfl rfl rfl rfl hl.1 rfl (Nat.le_of_ble_eq_true rfl) dL_law_1106 ⟨by omega, by omega⟩ (fun H locs hP hD hS => ?_)
    refine W.widen (k := cells + 1) (n := slots + 6) (by omega) (by omega) ?_
    refine lv_istore (lv' := [(5, .int 0), (0, .ref b), (1, .ref (qa 0 0)), (2, .ref (q 0)), (3, .ref ao), (4, .int (Int32.ofNat k))]) hx hb dL_law_1109 hl (by decide) rfl (fun ls hl => ?_)
    refine lv_aload_n hx hb dL_law_1111 rfl (lv_at hl 3 rfl) ?_
    refine lv_aload_n hx hb dL_law_1112 rfl (lv_at hl 1 rfl) ?_
    refine lv_iload hx hb dL_law_1113 (lv_at hl 5 rfl) ?_
    refine lv_iconst (v := 1) hx hb dL_law_1115 (by decide) ?_
    refine lv_iadd hx hb dL_law_1116 ?_
    refine va_sld hx hb hX hbl hbA hS h1i dL_law_1117 ?_
    refine lv_aload_n hx hb dL_law_1118 rfl (lv_at hl 1 rfl) ?_
    refine lv_iload hx hb dL_law_1119 (lv_at hl 5 rfl) ?_
    refine lv_iconst (v := 2) hx hb dL_law_1121 (by decide) ?_
    refine lv_iadd hx hb dL_law_1122 ?_
    refine va_sld hx hb hX hbl hbA hS h2i dL_law_1123 ?_
    refine pw_fi (r := r) (ws0 := WL cy qa P T' S nw hz ak pa' wt cd ln ao (vp_updL ov (0 : Int32).toNatClampNeg r.toInt64) ++ WM cy q th z sv sn sp bf ty gn hs) (ws1 := WL cy qa P T' S nw hz ak pa' wt cd ln ao (vp_updL ov (0 : Int32).toNatClampNeg r.toInt64) ++ WM cy q 0 z' sv sn sp' bf ty gn' hs) (wa := WL cy qa P T' S nw hz ak pa' wt cd ln ao (vp_updL ov (0 : Int32).toNatClampNeg r.toInt64)) (wb := []) (wc := WM cy q th z sv sn sp bf ty gn hs) (w1 := WM cy q 0 z' sv sn sp' bf ty gn' hs) (rest := []) (As := [.int (xs (Int32.ofNat k + 1).toNatClampNeg), .int (xs (Int32.ofNat k + 2).toNatClampNeg)]) hF (kX4_ifPassed l D cy q _ th z sv sn sp bf ty gn hs (xs (Int32.ofNat k + 1).toNatClampNeg) (xs (Int32.ofNat k + 2).toNatClampNeg) (r, 0, z', sp', gn') h4) (cwV 2 hts (pw_gVt (own := RL) (idx := 146) (C := RX4) (y := yX4_ifPassed) aw_969 aw_970 aw_971 aw_6 aw_972) rfl rfl rfl pX4_ifPassed ⟨Nat.le_of_ble_eq_true rfl, Nat.le_of_ble_eq_true rfl⟩) 4 (RX4, TX4, 9) rfl rfl ⟨0, _, rfl⟩ hK hP hD hS hA (by rw [List.append_nil]) (by rw [List.append_nil]) rfl rfl hl.1 rfl (Nat.le_of_ble_eq_true rfl) dL_law_1124 ⟨hR1, hR2⟩ (fun H locs hP hD hS => ?_)
    refine lv_istore (lv' := [(6, .int r), (5, .int 0), (0, .ref b), (1, .ref (qa 0 0)), (2, .ref (q 0)), (3, .ref ao), (4, .int (Int32.ofNat k))]) hx hb dL_law_1127 hl (by decide) rfl (fun ls hl => ?_)
    refine lv_aload_n hx hb dL_law_1129 rfl (lv_at hl 4 rfl) ?_
    refine pw_fi (r := 0) (ws0 := WL cy qa P T' S nw hz ak pa' wt cd ln ao (vp_updL ov (0 : Int32).toNatClampNeg r.toInt64) ++ WM cy q 0 z' sv sn sp' bf ty gn' hs) (ws1 := WL cy qa P T' S nw hz ak pa' wt cd ln ao (vp_updL ov (0 : Int32).toNatClampNeg r.toInt64) ++ WM cy q 0 z' sv sn sp' bf ty gn' hs) (wa := WL cy qa P T' S nw hz ak pa' wt cd ln ao (vp_updL ov (0 : Int32).toNatClampNeg r.toInt64)) (wb := []) (wc := WM cy q 0 z' sv sn sp' bf ty gn' hs) (w1 := WM cy q 0 z' sv sn sp' bf ty gn' hs) (rest := []) (As := []) hF (kX4_thrown l D cy q _ 0 z' sv sn sp' bf ty gn' hs 0 rfl) (cwV 0 hts (pw_gVt (own := RL) (idx := 80) (C := RX4) (y := yX4_thrown) aw_714 aw_715 aw_716 aw_6 aw_717) rfl rfl rfl pX4_thrown ⟨Nat.le_of_ble_eq_true rfl, Nat.le_of_ble_eq_true rfl⟩) 4 (RX4, TX4, 9) rfl rfl ⟨0, _, rfl⟩ hK hP hD hS hA (by rw [List.append_nil]) (by rw [List.append_nil]) rfl rfl hl.1 rfl (Nat.le_of_ble_eq_true rfl) dL_law_1130 ⟨hR1, hR2⟩ (fun H locs hP hD hS => ?_)
    refine lv_iload hx hb dL_law_1133 (lv_at hl 1 rfl) ?_
    refine lv_icmp_eq (tgt := 1140) hx hb dL_law_1135 (by decide) (fun _ => ?_) (fun c_ => absurd rfl c_)
    refine lv_iload hx hb dL_law_1140 (lv_at hl 1 rfl) ?_
    refine lv_if_ne (tgt := 1157) hx hb dL_law_1142 (by decide) (fun c_ => absurd rfl c_) (fun _ => ?_)
    refine lv_aload_n hx hb dL_law_1145 rfl (lv_at hl 5 rfl) ?_
    refine lv_iconst (v := 0) hx hb dL_law_1146 (by decide) ?_
    refine va_lald hx hb hK hP 128 3 rfl rfl (pq_vp (by decide)) dL_law_1147 ?_
    refine lv_iload hx hb dL_law_1148 (lv_at hl 0 rfl) ?_
    refine lv_i2l (v := r.toInt64) hx hb dL_law_1150 rfl ?_
    refine W.lcmp hx hb dL_law_1151 ?_
    refine lv_if_eq (tgt := 1157) hx hb dL_law_1152 (by decide) (fun _ => ?_) (fun c_ => absurd ((lg_cmp_eq _ _).mpr rfl) c_)
    refine lv_goto (tgt := 1284) hx hb dL_law_1157 (by decide) ?_
    exact kk P T' S nw hz ak pa' wt cd ln (vp_updL ov (0 : Int32).toNatClampNeg r.toInt64) 0 z' sv sn sp' bf ty gn' hs H locs ls RA1 hP hD hS ⟨hl.1, hl.2.1, fun x hx9 => hl.2.2 x (List.mem_cons_of_mem _ (List.mem_cons_of_mem _ hx9))⟩
set_option maxHeartbeats 8000000 in
set_option maxRecDepth 100000 in
theorem kA_waitsFor {p : Program} {e : Env} {s : State} {m : MethodId} {args : Array Value} {below : List Frame} {meth : Method} {c : Code} (l : Launch) (hfl : l.stackTraces = false) {D : va_G} {cy : Nat → ClassId} {qa : Nat → Nat → Nat} {q : Nat → Nat} {A : Nat → Prop} {b L k ao : Nat} {xs : Nat → Int32} (hx : p.tables.exec = Jvm.exec) (hb : c.code = cL_law) (hF : CallFix p m c cL_law 9 s args pw_all RL) (hK : va_K D vwCl (pw_tys cy) s) (hE : pw_E A s s.heap) (hA : ∀ q : Nat, s.heap.size ≤ q → A q) (hX : va_X b L xs s s.heap) (hbl : b < s.heap.size) (hbA : ¬ A b) (hL : L ≤ 1536) (hk : k + 2 < L) {P T : Nat → Nat → Int32} {S : Nat → Nat → Nat → Int32} {nw hz : Int32} {ak pa wt cd : Nat → Int32} {ln : Int32} {ov : Nat → Int64} {th : Int32} {z sv : Nat → Int32} {sn : Int32} {sp bf : Nat → Int32} {ty : Int32} {gn : Nat → Int32} {hs : Int64} (RAh : RA P S nw hz cd ln z sv sn bf ty) {H : Heap} {locs : List Loc} {ls : Array Slot} {cells slots : Nat} {Q : State → Prop} (hP : va_P D vwCl (WL cy qa P T S nw hz ak pa wt cd ln ao ov ++ WM cy q th z sv sn sp bf ty gn hs) H) (hD : va_D A (WL cy qa P T S nw hz ak pa wt cd ln ao ov ++ WM cy q th z sv sn sp bf ty gn hs)) (hS : va_S A s.heap H locs) (hl : lv_has ls 9 [(0, .ref b), (1, .ref (qa 0 0)), (2, .ref (q 0)), (3, .ref ao), (4, .int (Int32.ofNat k))]) (hR1 : cells + 1 ≤ room_1.cells) (hR2 : slots + 6 ≤ room_1.slots) (kk : ∀ (P T : Nat → Nat → Int32) (S : Nat → Nat → Nat → Int32) (nw hz : Int32) (ak pa wt cd : Nat → Int32) (ln : Int32) (ov : Nat → Int64) (th : Int32) (z sv : Nat → Int32) (sn : Int32) (sp bf : Nat → Int32) (ty : Int32) (gn : Nat → Int32) (hs : Int64) (H : Heap) (locs : List Loc) (ls : Array Slot), RA P S nw hz cd ln z sv sn bf ty → va_P D vwCl (WL cy qa P T S nw hz ak pa wt cd ln ao ov ++ WM cy q th z sv sn sp bf ty gn hs) H → va_D A (WL cy qa P T S nw hz ak pa wt cd ln ao ov ++ WM cy q th z sv sn sp bf ty gn hs) → va_S A s.heap H locs → lv_has ls 9 [(0, .ref b), (1, .ref (qa 0 0)), (2, .ref (q 0)), (3, .ref ao), (4, .int (Int32.ofNat k))] → W p l e room_1 s m args below meth c H locs (cells + 1) (slots + 6) Q (F0 m 1284 ls [])) : W p l e room_1 s m args below meth c H locs cells slots Q (F0 m 1160 ls []) := by
  have h1i : vp_in (Int32.ofNat k + 1) L := pw_ix1 hL hk
  have h2i : vp_in (Int32.ofNat k + 2) L := pw_ix2 hL hk
  have hts := hF.2.2.2.2
  rcases c_waitsFor RAh (xs (Int32.ofNat k + 1).toNatClampNeg) th T wt sp gn with ⟨h3, h4⟩ | ⟨r, T', wt', z', sp', gn', h3, h4, RA1⟩
  · skip
    refine lv_aload_n hx hb dL_law_1160 rfl (lv_at hl 1 rfl) ?_
    refine lv_aload_n hx hb dL_law_1161 rfl (lv_at hl 0 rfl) ?_
    refine lv_iload hx hb dL_law_1162 (lv_at hl 4 rfl) ?_
    refine lv_iconst (v := 1) hx hb dL_law_1164 (by decide) ?_
    refine lv_iadd hx hb dL_law_1165 ?_
    refine va_sld hx hb hX hbl hbA hS h1i dL_law_1166 ?_
    refine lv_aload_n hx hb dL_law_1167 rfl (lv_at hl 3 rfl) ?_
    refine pw_lcall (r := 1) (ws0 := WL cy qa P T S nw hz ak pa wt cd ln ao ov ++ WM cy q th z sv sn sp bf ty gn hs) (ws1 := WL cy qa P T S nw hz ak pa wt cd ln ao ov ++ WM cy q th z sv sn sp bf ty gn hs) (wa := []) (wb := WM cy q th z sv sn sp bf ty gn hs) (wc := WL cy qa P T S nw hz ak pa wt cd ln ao ov) (w1 := WL cy qa P T S nw hz ak pa wt cd ln ao ov) (rest := []) (As := [.ref (qa 0 0), .int (xs (Int32.ofNat k + 1).toNatClampNeg), .ref ao]) hF (kL_waitsFor_t1 l hfl D cy qa _ P T S nw hz ak pa wt cd ln ao ov (xs (Int32.ofNat k + 1).toNatClampNeg) h3) (vx_cwSW 3 hts (pw_gSW aw_665 aw_666 aw_0 aw_667) rfl rfl rfl pL_waitsFor ⟨Nat.le_of_ble_eq_true rfl, Nat.le_of_ble_eq_true rfl⟩) hK hP hD hS hA hE rfl rfl rfl rfl hl.1 rfl (Nat.le_of_ble_eq_true rfl) dL_law_1168 ⟨by omega, by omega⟩ (fun H locs hP hD hS => ?_)
    refine lv_istore (lv' := [(5, .int 1), (0, .ref b), (1, .ref (qa 0 0)), (2, .ref (q 0)), (3, .ref ao), (4, .int (Int32.ofNat k))]) hx hb dL_law_1171 hl (by decide) rfl (fun ls hl => ?_)
    refine lv_aload_n hx hb dL_law_1173 rfl (lv_at hl 3 rfl) ?_
    refine lv_aload_n hx hb dL_law_1174 rfl (lv_at hl 1 rfl) ?_
    refine lv_iload hx hb dL_law_1175 (lv_at hl 5 rfl) ?_
    refine lv_iconst (v := 1) hx hb dL_law_1177 (by decide) ?_
    refine lv_iadd hx hb dL_law_1178 ?_
    refine va_sld hx hb hX hbl hbA hS h1i dL_law_1179 ?_
    refine pw_fi (r := 0) (ws0 := WL cy qa P T S nw hz ak pa wt cd ln ao ov ++ WM cy q th z sv sn sp bf ty gn hs) (ws1 := WL cy qa P T S nw hz ak pa wt cd ln ao ov ++ WM cy q 1 z sv sn sp bf ty gn hs) (wa := WL cy qa P T S nw hz ak pa wt cd ln ao ov) (wb := []) (wc := WM cy q th z sv sn sp bf ty gn hs) (w1 := WM cy q 1 z sv sn sp bf ty gn hs) (rest := []) (As := [.int (xs (Int32.ofNat k + 1).toNatClampNeg)]) hF (kX4_waitsFor l D cy q _ th z sv sn sp bf ty gn hs (xs (Int32.ofNat k + 1).toNatClampNeg) (0, 1, z, sp, gn) h4) (cwV 1 hts (pw_gVt (own := RL) (idx := 149) (C := RX4) (y := yX4_waitsFor) aw_977 aw_978 aw_979 aw_6 aw_980) rfl rfl rfl pX4_waitsFor ⟨Nat.le_of_ble_eq_true rfl, Nat.le_of_ble_eq_true rfl⟩) 4 (RX4, TX4, 9) rfl rfl ⟨0, _, rfl⟩ hK hP hD hS hA (by rw [List.append_nil]) (by rw [List.append_nil]) rfl rfl hl.1 rfl (Nat.le_of_ble_eq_true rfl) dL_law_1180 ⟨hR1, hR2⟩ (fun H locs hP hD hS => ?_)
    refine lv_istore (lv' := [(6, .int 0), (5, .int 1), (0, .ref b), (1, .ref (qa 0 0)), (2, .ref (q 0)), (3, .ref ao), (4, .int (Int32.ofNat k))]) hx hb dL_law_1183 hl (by decide) rfl (fun ls hl => ?_)
    refine lv_aload_n hx hb dL_law_1185 rfl (lv_at hl 4 rfl) ?_
    refine pw_fi (r := 1) (ws0 := WL cy qa P T S nw hz ak pa wt cd ln ao ov ++ WM cy q 1 z sv sn sp bf ty gn hs) (ws1 := WL cy qa P T S nw hz ak pa wt cd ln ao ov ++ WM cy q 1 z sv sn sp bf ty gn hs) (wa := WL cy qa P T S nw hz ak pa wt cd ln ao ov) (wb := []) (wc := WM cy q 1 z sv sn sp bf ty gn hs) (w1 := WM cy q 1 z sv sn sp bf ty gn hs) (rest := []) (As := []) hF (kX4_thrown l D cy q _ 1 z sv sn sp bf ty gn hs 1 rfl) (cwV 0 hts (pw_gVt (own := RL) (idx := 80) (C := RX4) (y := yX4_thrown) aw_714 aw_715 aw_716 aw_6 aw_717) rfl rfl rfl pX4_thrown ⟨Nat.le_of_ble_eq_true rfl, Nat.le_of_ble_eq_true rfl⟩) 4 (RX4, TX4, 9) rfl rfl ⟨0, _, rfl⟩ hK hP hD hS hA (by rw [List.append_nil]) (by rw [List.append_nil]) rfl rfl hl.1 rfl (Nat.le_of_ble_eq_true rfl) dL_law_1186 ⟨hR1, hR2⟩ (fun H locs hP hD hS => ?_)
    refine lv_iload hx hb dL_law_1189 (lv_at hl 1 rfl) ?_
    refine lv_icmp_eq (tgt := 1196) hx hb dL_law_1191 (by decide) (fun _ => ?_) (fun c_ => absurd rfl c_)
    refine lv_iload hx hb dL_law_1196 (lv_at hl 1 rfl) ?_
    refine lv_if_ne (tgt := 1213) hx hb dL_law_1198 (by decide) (fun _ => ?_) (fun c_ => absurd c_ (by decide))
    refine lv_goto (tgt := 1284) hx hb dL_law_1213 (by decide) ?_
    exact kk P T S nw hz ak pa wt cd ln ov 1 z sv sn sp bf ty gn hs H locs ls RAh hP hD hS ⟨hl.1, hl.2.1, fun x hx9 => hl.2.2 x (List.mem_cons_of_mem _ (List.mem_cons_of_mem _ hx9))⟩
  · skip
    refine lv_aload_n hx hb dL_law_1160 rfl (lv_at hl 1 rfl) ?_
    refine lv_aload_n hx hb dL_law_1161 rfl (lv_at hl 0 rfl) ?_
    refine lv_iload hx hb dL_law_1162 (lv_at hl 4 rfl) ?_
    refine lv_iconst (v := 1) hx hb dL_law_1164 (by decide) ?_
    refine lv_iadd hx hb dL_law_1165 ?_
    refine va_sld hx hb hX hbl hbA hS h1i dL_law_1166 ?_
    refine lv_aload_n hx hb dL_law_1167 rfl (lv_at hl 3 rfl) ?_
    refine pw_lcall (r := 0) (ws0 := WL cy qa P T S nw hz ak pa wt cd ln ao ov ++ WM cy q th z sv sn sp bf ty gn hs) (ws1 := WL cy qa P T' S nw hz ak pa wt' cd ln ao (vp_updL ov (0 : Int32).toNatClampNeg r.toInt64) ++ WM cy q th z sv sn sp bf ty gn hs) (wa := []) (wb := WM cy q th z sv sn sp bf ty gn hs) (wc := WL cy qa P T S nw hz ak pa wt cd ln ao ov) (w1 := WL cy qa P T' S nw hz ak pa wt' cd ln ao (vp_updL ov (0 : Int32).toNatClampNeg r.toInt64)) (rest := []) (As := [.ref (qa 0 0), .int (xs (Int32.ofNat k + 1).toNatClampNeg), .ref ao]) hF (kL_waitsFor_r l hfl D cy qa _ P T S nw hz ak pa wt cd ln ao ov (xs (Int32.ofNat k + 1).toNatClampNeg) (r, T', wt') h3) (vx_cwSW 3 hts (pw_gSW aw_665 aw_666 aw_0 aw_667) rfl rfl rfl pL_waitsFor ⟨Nat.le_of_ble_eq_true rfl, Nat.le_of_ble_eq_true rfl⟩) hK hP hD hS hA hE rfl rfl rfl rfl hl.1 rfl (Nat.le_of_ble_eq_true rfl) dL_law_1168 ⟨by omega, by omega⟩ (fun H locs hP hD hS => ?_)
    refine W.widen (k := cells + 1) (n := slots + 6) (by omega) (by omega) ?_
    refine lv_istore (lv' := [(5, .int 0), (0, .ref b), (1, .ref (qa 0 0)), (2, .ref (q 0)), (3, .ref ao), (4, .int (Int32.ofNat k))]) hx hb dL_law_1171 hl (by decide) rfl (fun ls hl => ?_)
    refine lv_aload_n hx hb dL_law_1173 rfl (lv_at hl 3 rfl) ?_
    refine lv_aload_n hx hb dL_law_1174 rfl (lv_at hl 1 rfl) ?_
    refine lv_iload hx hb dL_law_1175 (lv_at hl 5 rfl) ?_
    refine lv_iconst (v := 1) hx hb dL_law_1177 (by decide) ?_
    refine lv_iadd hx hb dL_law_1178 ?_
    refine va_sld hx hb hX hbl hbA hS h1i dL_law_1179 ?_
    refine pw_fi (r := r) (ws0 := WL cy qa P T' S nw hz ak pa wt' cd ln ao (vp_updL ov (0 : Int32).toNatClampNeg r.toInt64) ++ WM cy q th z sv sn sp bf ty gn hs) (ws1 := WL cy qa P T' S nw hz ak pa wt' cd ln ao (vp_updL ov (0 : Int32).toNatClampNeg r.toInt64) ++ WM cy q 0 z' sv sn sp' bf ty gn' hs) (wa := WL cy qa P T' S nw hz ak pa wt' cd ln ao (vp_updL ov (0 : Int32).toNatClampNeg r.toInt64)) (wb := []) (wc := WM cy q th z sv sn sp bf ty gn hs) (w1 := WM cy q 0 z' sv sn sp' bf ty gn' hs) (rest := []) (As := [.int (xs (Int32.ofNat k + 1).toNatClampNeg)]) hF (kX4_waitsFor l D cy q _ th z sv sn sp bf ty gn hs (xs (Int32.ofNat k + 1).toNatClampNeg) (r, 0, z', sp', gn') h4) (cwV 1 hts (pw_gVt (own := RL) (idx := 149) (C := RX4) (y := yX4_waitsFor) aw_977 aw_978 aw_979 aw_6 aw_980) rfl rfl rfl pX4_waitsFor ⟨Nat.le_of_ble_eq_true rfl, Nat.le_of_ble_eq_true rfl⟩) 4 (RX4, TX4, 9) rfl rfl ⟨0, _, rfl⟩ hK hP hD hS hA (by rw [List.append_nil]) (by rw [List.append_nil]) rfl rfl hl.1 rfl (Nat.le_of_ble_eq_true rfl) dL_law_1180 ⟨hR1, hR2⟩ (fun H locs hP hD hS => ?_)
    refine lv_istore (lv' := [(6, .int r), (5, .int 0), (0, .ref b), (1, .ref (qa 0 0)), (2, .ref (q 0)), (3, .ref ao), (4, .int (Int32.ofNat k))]) hx hb dL_law_1183 hl (by decide) rfl (fun ls hl => ?_)
    refine lv_aload_n hx hb dL_law_1185 rfl (lv_at hl 4 rfl) ?_
    refine pw_fi (r := 0) (ws0 := WL cy qa P T' S nw hz ak pa wt' cd ln ao (vp_updL ov (0 : Int32).toNatClampNeg r.toInt64) ++ WM cy q 0 z' sv sn sp' bf ty gn' hs) (ws1 := WL cy qa P T' S nw hz ak pa wt' cd ln ao (vp_updL ov (0 : Int32).toNatClampNeg r.toInt64) ++ WM cy q 0 z' sv sn sp' bf ty gn' hs) (wa := WL cy qa P T' S nw hz ak pa wt' cd ln ao (vp_updL ov (0 : Int32).toNatClampNeg r.toInt64)) (wb := []) (wc := WM cy q 0 z' sv sn sp' bf ty gn' hs) (w1 := WM cy q 0 z' sv sn sp' bf ty gn' hs) (rest := []) (As := []) hF (kX4_thrown l D cy q _ 0 z' sv sn sp' bf ty gn' hs 0 rfl) (cwV 0 hts (pw_gVt (own := RL) (idx := 80) (C := RX4) (y := yX4_thrown) aw_714 aw_715 aw_716 aw_6 aw_717) rfl rfl rfl pX4_thrown ⟨Nat.le_of_ble_eq_true rfl, Nat.le_of_ble_eq_true rfl⟩) 4 (RX4, TX4, 9) rfl rfl ⟨0, _, rfl⟩ hK hP hD hS hA (by rw [List.append_nil]) (by rw [List.append_nil]) rfl rfl hl.1 rfl (Nat.le_of_ble_eq_true rfl) dL_law_1186 ⟨hR1, hR2⟩ (fun H locs hP hD hS => ?_)
    refine lv_iload hx hb dL_law_1189 (lv_at hl 1 rfl) ?_
    refine lv_icmp_eq (tgt := 1196) hx hb dL_law_1191 (by decide) (fun _ => ?_) (fun c_ => absurd rfl c_)
    refine lv_iload hx hb dL_law_1196 (lv_at hl 1 rfl) ?_
    refine lv_if_ne (tgt := 1213) hx hb dL_law_1198 (by decide) (fun c_ => absurd rfl c_) (fun _ => ?_)
    refine lv_aload_n hx hb dL_law_1201 rfl (lv_at hl 5 rfl) ?_
    refine lv_iconst (v := 0) hx hb dL_law_1202 (by decide) ?_
    refine va_lald hx hb hK hP 128 3 rfl rfl (pq_vp (by decide)) dL_law_1203 ?_
    refine lv_iload hx hb dL_law_1204 (lv_at hl 0 rfl) ?_
    refine lv_i2l (v := r.toInt64) hx hb dL_law_1206 rfl ?_
    refine W.lcmp hx hb dL_law_1207 ?_
    refine lv_if_eq (tgt := 1213) hx hb dL_law_1208 (by decide) (fun _ => ?_) (fun c_ => absurd ((lg_cmp_eq _ _).mpr rfl) c_)
    refine lv_goto (tgt := 1284) hx hb dL_law_1213 (by decide) ?_
    exact kk P T' S nw hz ak pa wt' cd ln (vp_updL ov (0 : Int32).toNatClampNeg r.toInt64) 0 z' sv sn sp' bf ty gn' hs H locs ls RA1 hP hD hS ⟨hl.1, hl.2.1, fun x hx9 => hl.2.2 x (List.mem_cons_of_mem _ (List.mem_cons_of_mem _ hx9))⟩
