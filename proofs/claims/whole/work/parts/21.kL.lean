/-! ===== the law's wrappers ===== -/
abbrev WL (cy : Nat → ClassId) (qa : Nat → Nat → Nat) (P T : Nat → Nat → Int32) (S : Nat → Nat → Nat → Int32) (nw hz : Int32) (ak pa wt cd : Nat → Int32) (ln : Int32) (ao : Nat) (ov : Nat → Int64) : va_W := W3 cy qa P T S nw hz ak pa wt cd ln ++ [(ao, .inl (cy 3, 1, .inr (.inl ov)))]
theorem pw_gSW {own : String} {idx : Nat} {y : MethodName} {b : ByteArray} {n : Nat} {r : Option FieldType} {hh : List (Nat × Nat × Nat × Nat)} (h1 : Cond.methodLink own idx y ∈ pw_all) (h2 : Cond.static y ∈ pw_all) (h4 : Cond.initialized y.cls ∈ pw_all) (h5 : Cond.codeWith y b n r hh ∈ pw_all) : GoodIn pw_all (va_wsS own idx y (Cond.codeWith y b n r hh :: pw_all)) := by
  intro w hw
  have hm : w ∈ pw_all := by
    rcases List.mem_append.mp hw with h | h
    · simp only [List.mem_cons, List.not_mem_nil, or_false] at h
      rcases h with rfl | rfl | rfl
      · exact h1
      · exact h2
      · exact h4
    · rcases List.mem_cons.mp h with rfl | h
      · exact h5
      · exact h
  exact ⟨hm, pw_good hm⟩
theorem pw_gVt {own C : String} {idx : Nat} {y : MethodName} {b : ByteArray} {n : Nat} {r : Option FieldType} (h1 : Cond.methodLink own idx y ∈ pw_all) (h2 : Cond.instanceMethod y ∈ pw_all) (h3 : Cond.selects C y y ∈ pw_all) (h4 : Cond.initialized C ∈ pw_all) (h5 : Cond.code y b n r ∈ pw_all) : GoodIn pw_all (wsV own idx C y (Cond.code y b n r :: pw_all)) := by
  intro w hw
  have hm : w ∈ pw_all := by
    rcases List.mem_append.mp hw with h | h
    · simp only [List.mem_cons, List.not_mem_nil, or_false] at h
      rcases h with rfl | rfl | rfl | rfl
      · exact h1
      · exact h2
      · exact h3
      · exact h4
    · rcases List.mem_cons.mp h with rfl | h
      · exact h5
      · exact h
  exact ⟨hm, pw_good hm⟩
theorem pw_metW {l : Launch} {y : MethodName} {cc : ByteArray} {maxL : Nat} {ret : Option FieldType} {hh : List (Nat × Nat × Nat × Nat)} {ws ws' : List Cond} {rm : Room} {D : va_G} {cy : Nat → ClassId} {av : List Value} {w0 : va_W} {sz mc ms : Nat} {Qc : Array Value → State → Outcome → State → Prop} {XC : String → State → State → Prop} (hy : plainName y.cls = true) (hw : ws = Cond.codeWith y cc maxL ret hh :: ws') (hlen : (lg_sl av).length ≤ maxL)
    (body : ∀ (p : Program) (e : Env) (s : State) (m : MethodId) (args : Array Value) (below : List Frame) (meth : Method) (c : Code) (ls : Array Slot) (A : Nat → Prop), p.tables.exec = Jvm.exec → c.code = cc → meth.sig.returnType = ret → c.maxLocals = maxL → meth.locks = false → (∀ w ∈ ws, w.before args s = true) → s.vm.findClass y.cls = some m.cls → A = va_A w0 sz → (∀ q : Nat, s.heap.size ≤ q → A q) → va_K D vwCl (pw_tys cy) s → va_P D vwCl w0 s.heap → va_D A w0 → va_S A s.heap s.heap [] → lv_has ls maxL (lv_args 0 av) → c.exceptionTable.toList = tableOf hh → pw_E A s s.heap →
      W p l e rm s m args below meth c s.heap [] 0 0 (vx_MQ below Qc XC args s mc ms (va_A w0 sz)) (F0 m 0 ls [])) : vx_Met l y ws rm (pw_PreE D cy av w0 sz) Qc XC mc ms (va_A w0 sz) := by
  refine vx_ofWH (cc := cc) (maxL := maxL) (ret := ret) (hh := hh) hy hw ?_
  intro p e s m args below meth c s₁ B hml hv
  obtain ⟨rfl, hsz, hP, hK, hD0, hE⟩ := hv
  have hts := atoms_spec (ws := ws) B.pre
  have hown : s.vm.findClass y.cls = some m.cls := findClass_of_methodNamed B.named
  have htab := vx_table (x := y) B (hts (Cond.codeWith y cc maxL ret hh) (by rw [hw]; exact List.mem_cons_self))
  subst hsz
  have hl := lv_entry av (n := maxL) hlen
  rw [lg_entry_eq]
  exact body p e s m _ below meth c _ (va_A w0 s.heap.size) B.exec B.bytes B.returns hml B.notSynchronized hts hown rfl (fun q h => Or.inr h) hK hP hD0.self va_S.rf hl htab hE
section PWL
variable {p : Program} {l : Launch} {e : Env} {R : Room} {s : State} {m : MethodId} {args : Array Value} {below : List Frame} {meth : Method} {c : Code} {H : Heap} {locs : List Loc} {cells slots : Nat} {Q : State → Prop}
variable {cc : ByteArray} {D : va_G} {cy : Nat → ClassId} {sz : Nat} {A : Nat → Prop} {pc : Nat} {ls : Array Slot}
variable {bytes : ByteArray} {maxL nL n index : Nat} {ret : Option FieldType} {ws Ts : List Cond} {rm : Room} {own C : String} {y : MethodName} {a : Addr} {As rest st0 : List Value}
theorem pw_fiE {r : Int32} {ws0 ws1 wa wb wc w1 : va_W} (S : CallFix p m c cc nL s args Ts own) (hM : Met l y ws rm (pw_PreE D cy (.ref a :: As) wc H.size) (pw_I D r wc w1 H.size) 0 0 (va_A wc H.size)) (cw : CallW R s args own C index y bytes maxL ret ws rm 0 0 n) (ci : Nat) (q : vw_C) (hq : vwCl[ci]? = some q) (hqC : q.1 = C) (hrc : ∃ (k : Nat) (fs : List Value), wc[k]? = some (a, .inr (ci, fs))) (hK : va_K D vwCl (pw_tys cy) s) (hP : va_P D vwCl ws0 H) (hD : va_D A ws0) (hS : va_S A s.heap H locs) (hA : ∀ q : Nat, s.heap.size ≤ q → A q) (hE : pw_E A s s.heap) (he0 : ws0 = wa ++ (wc ++ wb)) (he1 : ws1 = wa ++ (w1 ++ wb)) (hadr : w1.map Prod.fst = wc.map Prod.fst) (hn : As.length = n) (hsz : ls.size = nL) (hst : st0 = As.reverse ++ .ref a :: rest) (hW : (rest.map fun v => v.category).sum ≤ 8) (hdg : decode cc pc = .ok (.invokevirtual index, 3)) (hR : cells ≤ R.cells ∧ slots ≤ R.slots)
    (kk : ∀ (H1 : Heap) (locs1 : List Loc), va_P D vwCl ws1 H1 → va_D A ws1 → va_S A s.heap H1 locs1 → W p l e R s m args below meth c H1 locs1 cells slots Q (F0 m (pc + 3) ls (.int r :: rest))) : W p l e R s m args below meth c H locs cells slots Q (F0 m pc ls st0) := by
  subst he0
  subst he1
  subst hqC
  obtain ⟨k, fs, hrc⟩ := hrc
  have hPc := pw_midP hP
  have hDc := pw_mid hD
  have hF := pw_own hDc hS hA
  refine va_calli (va_runV (rest := rest) S hM cw ⟨pw_blindE, va_recv hK hPc hq hrc, pw_preE hPc hK hDc hS hA hE⟩ rfl hn hsz hst (lv_room (pc := pc) (ls := ls) (m := m) hW) hdg hR) hS (fun q _ h => hF q h) hF (fun x u t H1 locs1 ht hvm hw hB hz hk hS1 => ?_)
  rw [ht] at hB
  rw [show x = r from hw]
  exact kk H1 locs1 (pw_fr hP hD hk hB) (pw_adr hD (pw_mapf hadr)) hS1
/-- a call that throws its exception k -/
theorem pw_cT {k : Nat} {ws0 wa wb wc : va_W} (S : CallFix p m c cc nL s args Ts own) (hM : vx_Met l y ws rm (pw_PreE D cy (.ref a :: As) wc H.size) (pw_NQ wc H.size) (pw_XC D k wc H.size) 1 6 (va_A wc H.size)) (cw : CallW R s args own C index y bytes maxL ret ws rm 1 6 n) (ci : Nat) (q : vw_C) (hq : vwCl[ci]? = some q) (hqC : q.1 = C) (hrc : ∃ (k : Nat) (fs : List Value), wc[k]? = some (a, .inr (ci, fs))) (hK : va_K D vwCl (pw_tys cy) s) (hP : va_P D vwCl ws0 H) (hD : va_D A ws0) (hS : va_S A s.heap H locs) (hA : ∀ q : Nat, s.heap.size ≤ q → A q) (hE : pw_E A s s.heap) (he0 : ws0 = wa ++ (wc ++ wb)) (hn : As.length = n) (hsz : ls.size = nL) (hst : st0 = As.reverse ++ .ref a :: rest) (hW : (rest.map fun v => v.category).sum ≤ 8) (hdg : decode cc pc = .ok (.invokevirtual index, 3)) (hR1 : cells + 1 ≤ R.cells) (hR2 : slots + 6 ≤ R.slots)
    (kk : ∀ (E : String) (ce : Cell) (q9 : Addr) (H1 : Heap) (locs1 : List Loc), E = pw_ex k → va_P D vwCl ws0 H1 → va_D A ws0 → va_S A s.heap H1 locs1 → H1[q9]? = some ce → ce.vm = .none → s.vm.findClass E = some ce.cls → vx_W p l e R s m args below meth c H1 locs1 (cells + 1) (slots + 6) Q (F0 m pc ls rest) q9) : W p l e R s m args below meth c H locs cells slots Q (F0 m pc ls st0) := by
  subst he0
  subst hqC
  obtain ⟨k, fs, hrc⟩ := hrc
  have hPc := pw_midP hP
  have hDc := pw_mid hD
  have hF := pw_own hDc hS hA
  refine vx_callv (vx_runV (rest := rest) S hM cw ⟨pw_blindE, va_recv hK hPc hq hrc, pw_preE hPc hK hDc hS hA hE⟩ rfl hn hsz hst (lv_room (pc := pc) (ls := ls) (m := m) hW) hdg ⟨hR1, hR2⟩) hS (fun q _ h => hF q h) hF (fun q _ h => hF q h) (fun E ce q9 u t H1 locs1 ht hvm _ hB hz hk hS1 hce hcv hfc => ?_) (fun u t H1 locs1 ht hvm hw _ _ _ _ => hw.elim)
  have hP1 := hB.2
  rw [ht] at hP1
  exact kk E ce q9 H1 locs1 hB.1 (pw_fr hP hD hk hP1) hD hS1 hce hcv hfc
end PWL

def aL_ask : List Cond := Cond.codeWith yL_ask cL_ask 4 (some .int) [(0, 9, 12, 13), (0, 9, 15, 15)] :: pw_all
theorem pL_ask : yL_ask.cls ≠ "java/lang/invoke/MethodHandle" ∧ yL_ask.cls ≠ "java/lang/invoke/VarHandle" ∧ (parseMethodDescriptor yL_ask.desc).map (fun d => d.parameters.length) = some 3 := by decide +kernel
set_option maxHeartbeats 8000000 in
set_option maxRecDepth 100000 in
theorem kL_ask_r (l : Launch) (hfl : l.stackTraces = false) (D : va_G) (cy : Nat → ClassId) (qa : Nat → Nat → Nat) (sz : Nat) (P : Nat → Nat → Int32) (T : Nat → Nat → Int32) (S : Nat → Nat → Nat → Int32) (nw : Int32) (hz : Int32) (ak : Nat → Int32) (pa : Nat → Int32) (wt : Nat → Int32) (cd : Nat → Int32) (ln : Int32) (ao : Nat) (ov : Nat → Int64) (x1 : Int32) (o : Int32 × (Nat → Nat → Int32) × (Nat → Nat → Nat → Int32) × Int32 × Int32) (h : fX3_ask x1 P S nw hz = some (Sum.inr o)) : vx_Met l yL_ask aL_ask ({ frames := 6, cells := 0, slots := 0, locals := 134 } : Room) (pw_PreE D cy [.ref (qa 0 0), .int x1, .ref ao] (WL cy qa P T S nw hz ak pa wt cd ln ao ov) sz) (pw_I D 0 (WL cy qa P T S nw hz ak pa wt cd ln ao ov) (WL cy qa o.2.1 T o.2.2.1 o.2.2.2.1 o.2.2.2.2 ak pa wt cd ln ao (vp_updL ov (0 : Int32).toNatClampNeg o.1.toInt64)) sz) (fun _ _ _ => False) 0 0 (va_A (WL cy qa P T S nw hz ak pa wt cd ln ao ov) sz) := by
  refine pw_metW (cc := cL_ask) (maxL := 4) (ret := (some .int)) (hh := [(0, 9, 12, 13), (0, 9, 15, 15)]) (by decide) rfl (Nat.le_of_ble_eq_true rfl) ?_
  intro p e s m args below meth c ls A hx hb hr hml hlk hts hown hAe hA hK hP hD hS hl htab hE
  have hl : lv_has ls 4 [(0, .ref (qa 0 0)), (1, .int x1), (2, .ref ao)] := hl
  have hF : CallFix p m c cL_ask 4 s args aL_ask RL := ⟨hx, hb, hml, hown, hts⟩
  have hta : ∀ w ∈ pw_all, w.before args s = true := fun w h => hts w (List.mem_cons_of_mem _ h)
  refine lv_aload_n hx hb dL_ask_0 rfl (lv_at hl 2 rfl) ?_
  refine lv_iconst (v := 0) hx hb dL_ask_1 (by decide) ?_
  refine lv_aload_n hx hb dL_ask_2 rfl (lv_at hl 0 rfl) ?_
  refine lv_iload_n hx hb dL_ask_3 rfl (lv_at hl 1 rfl) ?_
  refine pw_fi (ws0 := WL cy qa P T S nw hz ak pa wt cd ln ao ov) (ws1 := W3 cy qa o.2.1 T o.2.2.1 o.2.2.2.1 o.2.2.2.2 ak pa wt cd ln ++ [(ao, .inl (cy 3, 1, .inr (.inl ov)))]) (wa := []) (wb := [(ao, .inl (cy 3, 1, .inr (.inl ov)))]) (wc := W3 cy qa P T S nw hz ak pa wt cd ln) (w1 := W3 cy qa o.2.1 T o.2.2.1 o.2.2.2.1 o.2.2.2.2 ak pa wt cd ln) (rest := [.int 0, .ref ao]) (As := [.int x1]) hF (kX3_ask l D cy qa _ P T S nw hz ak pa wt cd ln x1 o h) (cwV 1 hts (pw_gV (own := RL) (idx := 7) (C := RX3) (y := yX3_ask) aw_432 aw_433 aw_434 aw_1 aw_435) rfl rfl rfl pX3_ask ⟨Nat.le_of_ble_eq_true rfl, Nat.le_of_ble_eq_true rfl⟩) 3 (RX3, TX3, 7) rfl rfl ⟨0, _, rfl⟩ hK hP hD hS hA rfl rfl rfl rfl hl.1 rfl (Nat.le_of_ble_eq_true rfl) dL_ask_4 ⟨Nat.zero_le _, Nat.zero_le _⟩ (fun H locs hP hD hS => ?_)
  refine lv_i2l (v := o.1.toInt64) hx hb dL_ask_7 rfl ?_
  refine va_last hx hb hK hP hD hS 128 3 rfl rfl (pq_vp (by decide +kernel)) dL_ask_8 (fun H locs hP hD hS => ?_)
  have hP : va_P D vwCl (WL cy qa o.2.1 T o.2.2.1 o.2.2.2.1 o.2.2.2.2 ak pa wt cd ln ao (vp_updL ov (0 : Int32).toNatClampNeg o.1.toInt64)) H := hP
  refine lv_goto (tgt := 18) hx hb dL_ask_9 (by decide) ?_
  refine lv_iconst (v := 0) hx hb dL_ask_18 (by decide) ?_
  exact vx_ret (pw_ri hx hb hr hlk hAe hP hS rfl dL_ask_19)
set_option maxHeartbeats 8000000 in
set_option maxRecDepth 100000 in
theorem kL_ask_t1 (l : Launch) (hfl : l.stackTraces = false) (D : va_G) (cy : Nat → ClassId) (qa : Nat → Nat → Nat) (sz : Nat) (P : Nat → Nat → Int32) (T : Nat → Nat → Int32) (S : Nat → Nat → Nat → Int32) (nw : Int32) (hz : Int32) (ak : Nat → Int32) (pa : Nat → Int32) (wt : Nat → Int32) (cd : Nat → Int32) (ln : Int32) (ao : Nat) (ov : Nat → Int64) (x1 : Int32) (h : fX3_ask x1 P S nw hz = some (Sum.inl 1)) : vx_Met l yL_ask aL_ask ({ frames := 8, cells := 1, slots := 6, locals := 134 } : Room) (pw_PreE D cy [.ref (qa 0 0), .int x1, .ref ao] (WL cy qa P T S nw hz ak pa wt cd ln ao ov) sz) (pw_I D 1 (WL cy qa P T S nw hz ak pa wt cd ln ao ov) (WL cy qa P T S nw hz ak pa wt cd ln ao ov) sz) (fun _ _ _ => False) 1 6 (va_A (WL cy qa P T S nw hz ak pa wt cd ln ao ov) sz) := by
  refine pw_metW (cc := cL_ask) (maxL := 4) (ret := (some .int)) (hh := [(0, 9, 12, 13), (0, 9, 15, 15)]) (by decide) rfl (Nat.le_of_ble_eq_true rfl) ?_
  intro p e s m args below meth c ls A hx hb hr hml hlk hts hown hAe hA hK hP hD hS hl htab hE
  have hl : lv_has ls 4 [(0, .ref (qa 0 0)), (1, .int x1), (2, .ref ao)] := hl
  have hF : CallFix p m c cL_ask 4 s args aL_ask RL := ⟨hx, hb, hml, hown, hts⟩
  have hta : ∀ w ∈ pw_all, w.before args s = true := fun w h => hts w (List.mem_cons_of_mem _ h)
  refine lv_aload_n hx hb dL_ask_0 rfl (lv_at hl 2 rfl) ?_
  refine lv_iconst (v := 0) hx hb dL_ask_1 (by decide) ?_
  refine lv_aload_n hx hb dL_ask_2 rfl (lv_at hl 0 rfl) ?_
  refine lv_iload_n hx hb dL_ask_3 rfl (lv_at hl 1 rfl) ?_
  refine pw_cT (ws0 := WL cy qa P T S nw hz ak pa wt cd ln ao ov) (wa := []) (wb := [(ao, .inl (cy 3, 1, .inr (.inl ov)))]) (wc := W3 cy qa P T S nw hz ak pa wt cd ln) (rest := [.int 0, .ref ao]) (As := [.int x1]) hF (kX3_ask_t l hfl D cy qa _ P T S nw hz ak pa wt cd ln x1 1 h) (cwV 1 hts (pw_gV (own := RL) (idx := 7) (C := RX3) (y := yX3_ask) aw_432 aw_433 aw_434 aw_1 aw_435) rfl rfl rfl pX3_ask ⟨Nat.le_of_ble_eq_true rfl, Nat.le_of_ble_eq_true rfl⟩) 3 (RX3, TX3, 7) rfl rfl ⟨0, _, rfl⟩ hK hP hD hS hA hE rfl rfl hl.1 rfl (Nat.le_of_ble_eq_true rfl) dL_ask_4 (Nat.le_of_ble_eq_true rfl) (Nat.le_of_ble_eq_true rfl) (fun E ce q9 H locs hEk hP hD hS hce hcv hfc => ?_)
  subst hEk
  refine vx_catch (name := "java/lang/IndexOutOfBoundsException") hown [] ⟨0, 9, 12, 13⟩ [⟨0, 9, 15, 15⟩] (by rw [htab]; rfl) (fun z hz => by cases hz) (by decide) (by decide) (hta _ aw_430) (va_Nw.use rfl (hE.1 (.castable (pw_ex 1) "java/lang/IndexOutOfBoundsException") (by decide +kernel))) hce hcv hfc ?_
  refine lv_astore_n (lv' := [(3, .ref q9), (0, .ref (qa 0 0)), (1, .int x1), (2, .ref ao)]) hx hb dL_ask_12 rfl hl (by decide) rfl (fun ls hl => ?_)
  refine lv_iconst (v := 1) hx hb dL_ask_13 (by decide) ?_
  exact vx_ret (pw_ri hx hb hr hlk hAe hP hS rfl dL_ask_14)
set_option maxHeartbeats 8000000 in
set_option maxRecDepth 100000 in
theorem kL_ask_t2 (l : Launch) (hfl : l.stackTraces = false) (D : va_G) (cy : Nat → ClassId) (qa : Nat → Nat → Nat) (sz : Nat) (P : Nat → Nat → Int32) (T : Nat → Nat → Int32) (S : Nat → Nat → Nat → Int32) (nw : Int32) (hz : Int32) (ak : Nat → Int32) (pa : Nat → Int32) (wt : Nat → Int32) (cd : Nat → Int32) (ln : Int32) (ao : Nat) (ov : Nat → Int64) (x1 : Int32) (h : fX3_ask x1 P S nw hz = some (Sum.inl 2)) : vx_Met l yL_ask aL_ask ({ frames := 8, cells := 1, slots := 6, locals := 134 } : Room) (pw_PreE D cy [.ref (qa 0 0), .int x1, .ref ao] (WL cy qa P T S nw hz ak pa wt cd ln ao ov) sz) (pw_I D 2 (WL cy qa P T S nw hz ak pa wt cd ln ao ov) (WL cy qa P T S nw hz ak pa wt cd ln ao ov) sz) (fun _ _ _ => False) 1 6 (va_A (WL cy qa P T S nw hz ak pa wt cd ln ao ov) sz) := by
  refine pw_metW (cc := cL_ask) (maxL := 4) (ret := (some .int)) (hh := [(0, 9, 12, 13), (0, 9, 15, 15)]) (by decide) rfl (Nat.le_of_ble_eq_true rfl) ?_
  intro p e s m args below meth c ls A hx hb hr hml hlk hts hown hAe hA hK hP hD hS hl htab hE
  have hl : lv_has ls 4 [(0, .ref (qa 0 0)), (1, .int x1), (2, .ref ao)] := hl
  have hF : CallFix p m c cL_ask 4 s args aL_ask RL := ⟨hx, hb, hml, hown, hts⟩
  have hta : ∀ w ∈ pw_all, w.before args s = true := fun w h => hts w (List.mem_cons_of_mem _ h)
  refine lv_aload_n hx hb dL_ask_0 rfl (lv_at hl 2 rfl) ?_
  refine lv_iconst (v := 0) hx hb dL_ask_1 (by decide) ?_
  refine lv_aload_n hx hb dL_ask_2 rfl (lv_at hl 0 rfl) ?_
  refine lv_iload_n hx hb dL_ask_3 rfl (lv_at hl 1 rfl) ?_
  refine pw_cT (ws0 := WL cy qa P T S nw hz ak pa wt cd ln ao ov) (wa := []) (wb := [(ao, .inl (cy 3, 1, .inr (.inl ov)))]) (wc := W3 cy qa P T S nw hz ak pa wt cd ln) (rest := [.int 0, .ref ao]) (As := [.int x1]) hF (kX3_ask_t l hfl D cy qa _ P T S nw hz ak pa wt cd ln x1 2 h) (cwV 1 hts (pw_gV (own := RL) (idx := 7) (C := RX3) (y := yX3_ask) aw_432 aw_433 aw_434 aw_1 aw_435) rfl rfl rfl pX3_ask ⟨Nat.le_of_ble_eq_true rfl, Nat.le_of_ble_eq_true rfl⟩) 3 (RX3, TX3, 7) rfl rfl ⟨0, _, rfl⟩ hK hP hD hS hA hE rfl rfl hl.1 rfl (Nat.le_of_ble_eq_true rfl) dL_ask_4 (Nat.le_of_ble_eq_true rfl) (Nat.le_of_ble_eq_true rfl) (fun E ce q9 H locs hEk hP hD hS hce hcv hfc => ?_)
  subst hEk
  refine vx_catch (name := "java/lang/IllegalStateException") hown [⟨0, 9, 12, 13⟩] ⟨0, 9, 15, 15⟩ [] (by rw [htab]; rfl) (fun z hz => by
    rcases List.mem_singleton.mp hz with rfl
    exact Or.inr ⟨by decide, "java/lang/IndexOutOfBoundsException", hta _ aw_430, hE.2.2.2.2.1 _ (by decide +kernel) _ (by decide +kernel) (by decide +kernel)⟩) (by decide) (by decide) (hta _ aw_431) (va_Nw.use rfl (hE.1 (.castable (pw_ex 2) "java/lang/IllegalStateException") (by decide +kernel))) hce hcv hfc ?_
  refine lv_astore_n (lv' := [(3, .ref q9), (0, .ref (qa 0 0)), (1, .int x1), (2, .ref ao)]) hx hb dL_ask_15 rfl hl (by decide) rfl (fun ls hl => ?_)
  refine lv_iconst (v := 2) hx hb dL_ask_16 (by decide) ?_
  exact vx_ret (pw_ri hx hb hr hlk hAe hP hS rfl dL_ask_17)
def aL_give : List Cond := Cond.codeWith yL_give cL_give 4 (some .int) [(0, 9, 12, 13), (0, 9, 15, 15)] :: pw_all
theorem pL_give : yL_give.cls ≠ "java/lang/invoke/MethodHandle" ∧ yL_give.cls ≠ "java/lang/invoke/VarHandle" ∧ (parseMethodDescriptor yL_give.desc).map (fun d => d.parameters.length) = some 3 := by decide +kernel
set_option maxHeartbeats 8000000 in
set_option maxRecDepth 100000 in
theorem kL_give_r (l : Launch) (hfl : l.stackTraces = false) (D : va_G) (cy : Nat → ClassId) (qa : Nat → Nat → Nat) (sz : Nat) (P : Nat → Nat → Int32) (T : Nat → Nat → Int32) (S : Nat → Nat → Nat → Int32) (nw : Int32) (hz : Int32) (ak : Nat → Int32) (pa : Nat → Int32) (wt : Nat → Int32) (cd : Nat → Int32) (ln : Int32) (ao : Nat) (ov : Nat → Int64) (x1 : Int32) (o : Int32 × (Nat → Nat → Int32) × (Nat → Nat → Nat → Int32) × Int32 × Int32) (h : fX3_give x1 P S nw hz = some (Sum.inr o)) : vx_Met l yL_give aL_give ({ frames := 6, cells := 0, slots := 0, locals := 134 } : Room) (pw_PreE D cy [.ref (qa 0 0), .int x1, .ref ao] (WL cy qa P T S nw hz ak pa wt cd ln ao ov) sz) (pw_I D 0 (WL cy qa P T S nw hz ak pa wt cd ln ao ov) (WL cy qa o.2.1 T o.2.2.1 o.2.2.2.1 o.2.2.2.2 ak pa wt cd ln ao (vp_updL ov (0 : Int32).toNatClampNeg o.1.toInt64)) sz) (fun _ _ _ => False) 0 0 (va_A (WL cy qa P T S nw hz ak pa wt cd ln ao ov) sz) := by
  refine pw_metW (cc := cL_give) (maxL := 4) (ret := (some .int)) (hh := [(0, 9, 12, 13), (0, 9, 15, 15)]) (by decide) rfl (Nat.le_of_ble_eq_true rfl) ?_
  intro p e s m args below meth c ls A hx hb hr hml hlk hts hown hAe hA hK hP hD hS hl htab hE
  have hl : lv_has ls 4 [(0, .ref (qa 0 0)), (1, .int x1), (2, .ref ao)] := hl
  have hF : CallFix p m c cL_give 4 s args aL_give RL := ⟨hx, hb, hml, hown, hts⟩
  have hta : ∀ w ∈ pw_all, w.before args s = true := fun w h => hts w (List.mem_cons_of_mem _ h)
  refine lv_aload_n hx hb dL_give_0 rfl (lv_at hl 2 rfl) ?_
  refine lv_iconst (v := 0) hx hb dL_give_1 (by decide) ?_
  refine lv_aload_n hx hb dL_give_2 rfl (lv_at hl 0 rfl) ?_
  refine lv_iload_n hx hb dL_give_3 rfl (lv_at hl 1 rfl) ?_
  refine pw_fi (ws0 := WL cy qa P T S nw hz ak pa wt cd ln ao ov) (ws1 := W3 cy qa o.2.1 T o.2.2.1 o.2.2.2.1 o.2.2.2.2 ak pa wt cd ln ++ [(ao, .inl (cy 3, 1, .inr (.inl ov)))]) (wa := []) (wb := [(ao, .inl (cy 3, 1, .inr (.inl ov)))]) (wc := W3 cy qa P T S nw hz ak pa wt cd ln) (w1 := W3 cy qa o.2.1 T o.2.2.1 o.2.2.2.1 o.2.2.2.2 ak pa wt cd ln) (rest := [.int 0, .ref ao]) (As := [.int x1]) hF (kX3_give l D cy qa _ P T S nw hz ak pa wt cd ln x1 o h) (cwV 1 hts (pw_gV (own := RL) (idx := 17) (C := RX3) (y := yX3_give) aw_474 aw_475 aw_476 aw_1 aw_477) rfl rfl rfl pX3_give ⟨Nat.le_of_ble_eq_true rfl, Nat.le_of_ble_eq_true rfl⟩) 3 (RX3, TX3, 7) rfl rfl ⟨0, _, rfl⟩ hK hP hD hS hA rfl rfl rfl rfl hl.1 rfl (Nat.le_of_ble_eq_true rfl) dL_give_4 ⟨Nat.zero_le _, Nat.zero_le _⟩ (fun H locs hP hD hS => ?_)
  refine lv_i2l (v := o.1.toInt64) hx hb dL_give_7 rfl ?_
  refine va_last hx hb hK hP hD hS 128 3 rfl rfl (pq_vp (by decide +kernel)) dL_give_8 (fun H locs hP hD hS => ?_)
  have hP : va_P D vwCl (WL cy qa o.2.1 T o.2.2.1 o.2.2.2.1 o.2.2.2.2 ak pa wt cd ln ao (vp_updL ov (0 : Int32).toNatClampNeg o.1.toInt64)) H := hP
  refine lv_goto (tgt := 18) hx hb dL_give_9 (by decide) ?_
  refine lv_iconst (v := 0) hx hb dL_give_18 (by decide) ?_
  exact vx_ret (pw_ri hx hb hr hlk hAe hP hS rfl dL_give_19)
set_option maxHeartbeats 8000000 in
set_option maxRecDepth 100000 in
theorem kL_give_t1 (l : Launch) (hfl : l.stackTraces = false) (D : va_G) (cy : Nat → ClassId) (qa : Nat → Nat → Nat) (sz : Nat) (P : Nat → Nat → Int32) (T : Nat → Nat → Int32) (S : Nat → Nat → Nat → Int32) (nw : Int32) (hz : Int32) (ak : Nat → Int32) (pa : Nat → Int32) (wt : Nat → Int32) (cd : Nat → Int32) (ln : Int32) (ao : Nat) (ov : Nat → Int64) (x1 : Int32) (h : fX3_give x1 P S nw hz = some (Sum.inl 1)) : vx_Met l yL_give aL_give ({ frames := 8, cells := 1, slots := 6, locals := 134 } : Room) (pw_PreE D cy [.ref (qa 0 0), .int x1, .ref ao] (WL cy qa P T S nw hz ak pa wt cd ln ao ov) sz) (pw_I D 1 (WL cy qa P T S nw hz ak pa wt cd ln ao ov) (WL cy qa P T S nw hz ak pa wt cd ln ao ov) sz) (fun _ _ _ => False) 1 6 (va_A (WL cy qa P T S nw hz ak pa wt cd ln ao ov) sz) := by
  refine pw_metW (cc := cL_give) (maxL := 4) (ret := (some .int)) (hh := [(0, 9, 12, 13), (0, 9, 15, 15)]) (by decide) rfl (Nat.le_of_ble_eq_true rfl) ?_
  intro p e s m args below meth c ls A hx hb hr hml hlk hts hown hAe hA hK hP hD hS hl htab hE
  have hl : lv_has ls 4 [(0, .ref (qa 0 0)), (1, .int x1), (2, .ref ao)] := hl
  have hF : CallFix p m c cL_give 4 s args aL_give RL := ⟨hx, hb, hml, hown, hts⟩
  have hta : ∀ w ∈ pw_all, w.before args s = true := fun w h => hts w (List.mem_cons_of_mem _ h)
  refine lv_aload_n hx hb dL_give_0 rfl (lv_at hl 2 rfl) ?_
  refine lv_iconst (v := 0) hx hb dL_give_1 (by decide) ?_
  refine lv_aload_n hx hb dL_give_2 rfl (lv_at hl 0 rfl) ?_
  refine lv_iload_n hx hb dL_give_3 rfl (lv_at hl 1 rfl) ?_
  refine pw_cT (ws0 := WL cy qa P T S nw hz ak pa wt cd ln ao ov) (wa := []) (wb := [(ao, .inl (cy 3, 1, .inr (.inl ov)))]) (wc := W3 cy qa P T S nw hz ak pa wt cd ln) (rest := [.int 0, .ref ao]) (As := [.int x1]) hF (kX3_give_t l hfl D cy qa _ P T S nw hz ak pa wt cd ln x1 1 h) (cwV 1 hts (pw_gV (own := RL) (idx := 17) (C := RX3) (y := yX3_give) aw_474 aw_475 aw_476 aw_1 aw_477) rfl rfl rfl pX3_give ⟨Nat.le_of_ble_eq_true rfl, Nat.le_of_ble_eq_true rfl⟩) 3 (RX3, TX3, 7) rfl rfl ⟨0, _, rfl⟩ hK hP hD hS hA hE rfl rfl hl.1 rfl (Nat.le_of_ble_eq_true rfl) dL_give_4 (Nat.le_of_ble_eq_true rfl) (Nat.le_of_ble_eq_true rfl) (fun E ce q9 H locs hEk hP hD hS hce hcv hfc => ?_)
  subst hEk
  refine vx_catch (name := "java/lang/IndexOutOfBoundsException") hown [] ⟨0, 9, 12, 13⟩ [⟨0, 9, 15, 15⟩] (by rw [htab]; rfl) (fun z hz => by cases hz) (by decide) (by decide) (hta _ aw_430) (va_Nw.use rfl (hE.1 (.castable (pw_ex 1) "java/lang/IndexOutOfBoundsException") (by decide +kernel))) hce hcv hfc ?_
  refine lv_astore_n (lv' := [(3, .ref q9), (0, .ref (qa 0 0)), (1, .int x1), (2, .ref ao)]) hx hb dL_give_12 rfl hl (by decide) rfl (fun ls hl => ?_)
  refine lv_iconst (v := 1) hx hb dL_give_13 (by decide) ?_
  exact vx_ret (pw_ri hx hb hr hlk hAe hP hS rfl dL_give_14)
set_option maxHeartbeats 8000000 in
set_option maxRecDepth 100000 in
theorem kL_give_t2 (l : Launch) (hfl : l.stackTraces = false) (D : va_G) (cy : Nat → ClassId) (qa : Nat → Nat → Nat) (sz : Nat) (P : Nat → Nat → Int32) (T : Nat → Nat → Int32) (S : Nat → Nat → Nat → Int32) (nw : Int32) (hz : Int32) (ak : Nat → Int32) (pa : Nat → Int32) (wt : Nat → Int32) (cd : Nat → Int32) (ln : Int32) (ao : Nat) (ov : Nat → Int64) (x1 : Int32) (h : fX3_give x1 P S nw hz = some (Sum.inl 2)) : vx_Met l yL_give aL_give ({ frames := 8, cells := 1, slots := 6, locals := 134 } : Room) (pw_PreE D cy [.ref (qa 0 0), .int x1, .ref ao] (WL cy qa P T S nw hz ak pa wt cd ln ao ov) sz) (pw_I D 2 (WL cy qa P T S nw hz ak pa wt cd ln ao ov) (WL cy qa P T S nw hz ak pa wt cd ln ao ov) sz) (fun _ _ _ => False) 1 6 (va_A (WL cy qa P T S nw hz ak pa wt cd ln ao ov) sz) := by
  refine pw_metW (cc := cL_give) (maxL := 4) (ret := (some .int)) (hh := [(0, 9, 12, 13), (0, 9, 15, 15)]) (by decide) rfl (Nat.le_of_ble_eq_true rfl) ?_
  intro p e s m args below meth c ls A hx hb hr hml hlk hts hown hAe hA hK hP hD hS hl htab hE
  have hl : lv_has ls 4 [(0, .ref (qa 0 0)), (1, .int x1), (2, .ref ao)] := hl
  have hF : CallFix p m c cL_give 4 s args aL_give RL := ⟨hx, hb, hml, hown, hts⟩
  have hta : ∀ w ∈ pw_all, w.before args s = true := fun w h => hts w (List.mem_cons_of_mem _ h)
  refine lv_aload_n hx hb dL_give_0 rfl (lv_at hl 2 rfl) ?_
  refine lv_iconst (v := 0) hx hb dL_give_1 (by decide) ?_
  refine lv_aload_n hx hb dL_give_2 rfl (lv_at hl 0 rfl) ?_
  refine lv_iload_n hx hb dL_give_3 rfl (lv_at hl 1 rfl) ?_
  refine pw_cT (ws0 := WL cy qa P T S nw hz ak pa wt cd ln ao ov) (wa := []) (wb := [(ao, .inl (cy 3, 1, .inr (.inl ov)))]) (wc := W3 cy qa P T S nw hz ak pa wt cd ln) (rest := [.int 0, .ref ao]) (As := [.int x1]) hF (kX3_give_t l hfl D cy qa _ P T S nw hz ak pa wt cd ln x1 2 h) (cwV 1 hts (pw_gV (own := RL) (idx := 17) (C := RX3) (y := yX3_give) aw_474 aw_475 aw_476 aw_1 aw_477) rfl rfl rfl pX3_give ⟨Nat.le_of_ble_eq_true rfl, Nat.le_of_ble_eq_true rfl⟩) 3 (RX3, TX3, 7) rfl rfl ⟨0, _, rfl⟩ hK hP hD hS hA hE rfl rfl hl.1 rfl (Nat.le_of_ble_eq_true rfl) dL_give_4 (Nat.le_of_ble_eq_true rfl) (Nat.le_of_ble_eq_true rfl) (fun E ce q9 H locs hEk hP hD hS hce hcv hfc => ?_)
  subst hEk
  refine vx_catch (name := "java/lang/IllegalStateException") hown [⟨0, 9, 12, 13⟩] ⟨0, 9, 15, 15⟩ [] (by rw [htab]; rfl) (fun z hz => by
    rcases List.mem_singleton.mp hz with rfl
    exact Or.inr ⟨by decide, "java/lang/IndexOutOfBoundsException", hta _ aw_430, hE.2.2.2.2.1 _ (by decide +kernel) _ (by decide +kernel) (by decide +kernel)⟩) (by decide) (by decide) (hta _ aw_431) (va_Nw.use rfl (hE.1 (.castable (pw_ex 2) "java/lang/IllegalStateException") (by decide +kernel))) hce hcv hfc ?_
  refine lv_astore_n (lv' := [(3, .ref q9), (0, .ref (qa 0 0)), (1, .int x1), (2, .ref ao)]) hx hb dL_give_15 rfl hl (by decide) rfl (fun ls hl => ?_)
  refine lv_iconst (v := 2) hx hb dL_give_16 (by decide) ?_
  exact vx_ret (pw_ri hx hb hr hlk hAe hP hS rfl dL_give_17)
def aL_giveUp : List Cond := Cond.codeWith yL_giveUp cL_giveUp 4 (some .int) [(0, 9, 12, 13), (0, 9, 15, 15)] :: pw_all
theorem pL_giveUp : yL_giveUp.cls ≠ "java/lang/invoke/MethodHandle" ∧ yL_giveUp.cls ≠ "java/lang/invoke/VarHandle" ∧ (parseMethodDescriptor yL_giveUp.desc).map (fun d => d.parameters.length) = some 3 := by decide +kernel
set_option maxHeartbeats 8000000 in
set_option maxRecDepth 100000 in
theorem kL_giveUp_r (l : Launch) (hfl : l.stackTraces = false) (D : va_G) (cy : Nat → ClassId) (qa : Nat → Nat → Nat) (sz : Nat) (P : Nat → Nat → Int32) (T : Nat → Nat → Int32) (S : Nat → Nat → Nat → Int32) (nw : Int32) (hz : Int32) (ak : Nat → Int32) (pa : Nat → Int32) (wt : Nat → Int32) (cd : Nat → Int32) (ln : Int32) (ao : Nat) (ov : Nat → Int64) (x1 : Int32) (o : Int32 × (Nat → Nat → Int32) × (Nat → Nat → Nat → Int32) × Int32 × Int32) (h : fX3_giveUp x1 P S nw hz = some (Sum.inr o)) : vx_Met l yL_giveUp aL_giveUp ({ frames := 6, cells := 0, slots := 0, locals := 135 } : Room) (pw_PreE D cy [.ref (qa 0 0), .int x1, .ref ao] (WL cy qa P T S nw hz ak pa wt cd ln ao ov) sz) (pw_I D 0 (WL cy qa P T S nw hz ak pa wt cd ln ao ov) (WL cy qa o.2.1 T o.2.2.1 o.2.2.2.1 o.2.2.2.2 ak pa wt cd ln ao (vp_updL ov (0 : Int32).toNatClampNeg o.1.toInt64)) sz) (fun _ _ _ => False) 0 0 (va_A (WL cy qa P T S nw hz ak pa wt cd ln ao ov) sz) := by
  refine pw_metW (cc := cL_giveUp) (maxL := 4) (ret := (some .int)) (hh := [(0, 9, 12, 13), (0, 9, 15, 15)]) (by decide) rfl (Nat.le_of_ble_eq_true rfl) ?_
  intro p e s m args below meth c ls A hx hb hr hml hlk hts hown hAe hA hK hP hD hS hl htab hE
  have hl : lv_has ls 4 [(0, .ref (qa 0 0)), (1, .int x1), (2, .ref ao)] := hl
  have hF : CallFix p m c cL_giveUp 4 s args aL_giveUp RL := ⟨hx, hb, hml, hown, hts⟩
  have hta : ∀ w ∈ pw_all, w.before args s = true := fun w h => hts w (List.mem_cons_of_mem _ h)
  refine lv_aload_n hx hb dL_giveUp_0 rfl (lv_at hl 2 rfl) ?_
  refine lv_iconst (v := 0) hx hb dL_giveUp_1 (by decide) ?_
  refine lv_aload_n hx hb dL_giveUp_2 rfl (lv_at hl 0 rfl) ?_
  refine lv_iload_n hx hb dL_giveUp_3 rfl (lv_at hl 1 rfl) ?_
  refine pw_fi (ws0 := WL cy qa P T S nw hz ak pa wt cd ln ao ov) (ws1 := W3 cy qa o.2.1 T o.2.2.1 o.2.2.2.1 o.2.2.2.2 ak pa wt cd ln ++ [(ao, .inl (cy 3, 1, .inr (.inl ov)))]) (wa := []) (wb := [(ao, .inl (cy 3, 1, .inr (.inl ov)))]) (wc := W3 cy qa P T S nw hz ak pa wt cd ln) (w1 := W3 cy qa o.2.1 T o.2.2.1 o.2.2.2.1 o.2.2.2.2 ak pa wt cd ln) (rest := [.int 0, .ref ao]) (As := [.int x1]) hF (kX3_giveUp l D cy qa _ P T S nw hz ak pa wt cd ln x1 o h) (cwV 1 hts (pw_gV (own := RL) (idx := 20) (C := RX3) (y := yX3_giveUp) aw_495 aw_496 aw_497 aw_1 aw_498) rfl rfl rfl pX3_giveUp ⟨Nat.le_of_ble_eq_true rfl, Nat.le_of_ble_eq_true rfl⟩) 3 (RX3, TX3, 7) rfl rfl ⟨0, _, rfl⟩ hK hP hD hS hA rfl rfl rfl rfl hl.1 rfl (Nat.le_of_ble_eq_true rfl) dL_giveUp_4 ⟨Nat.zero_le _, Nat.zero_le _⟩ (fun H locs hP hD hS => ?_)
  refine lv_i2l (v := o.1.toInt64) hx hb dL_giveUp_7 rfl ?_
  refine va_last hx hb hK hP hD hS 128 3 rfl rfl (pq_vp (by decide +kernel)) dL_giveUp_8 (fun H locs hP hD hS => ?_)
  have hP : va_P D vwCl (WL cy qa o.2.1 T o.2.2.1 o.2.2.2.1 o.2.2.2.2 ak pa wt cd ln ao (vp_updL ov (0 : Int32).toNatClampNeg o.1.toInt64)) H := hP
  refine lv_goto (tgt := 18) hx hb dL_giveUp_9 (by decide) ?_
  refine lv_iconst (v := 0) hx hb dL_giveUp_18 (by decide) ?_
  exact vx_ret (pw_ri hx hb hr hlk hAe hP hS rfl dL_giveUp_19)
set_option maxHeartbeats 8000000 in
set_option maxRecDepth 100000 in
theorem kL_giveUp_t1 (l : Launch) (hfl : l.stackTraces = false) (D : va_G) (cy : Nat → ClassId) (qa : Nat → Nat → Nat) (sz : Nat) (P : Nat → Nat → Int32) (T : Nat → Nat → Int32) (S : Nat → Nat → Nat → Int32) (nw : Int32) (hz : Int32) (ak : Nat → Int32) (pa : Nat → Int32) (wt : Nat → Int32) (cd : Nat → Int32) (ln : Int32) (ao : Nat) (ov : Nat → Int64) (x1 : Int32) (h : fX3_giveUp x1 P S nw hz = some (Sum.inl 1)) : vx_Met l yL_giveUp aL_giveUp ({ frames := 8, cells := 1, slots := 6, locals := 135 } : Room) (pw_PreE D cy [.ref (qa 0 0), .int x1, .ref ao] (WL cy qa P T S nw hz ak pa wt cd ln ao ov) sz) (pw_I D 1 (WL cy qa P T S nw hz ak pa wt cd ln ao ov) (WL cy qa P T S nw hz ak pa wt cd ln ao ov) sz) (fun _ _ _ => False) 1 6 (va_A (WL cy qa P T S nw hz ak pa wt cd ln ao ov) sz) := by
  refine pw_metW (cc := cL_giveUp) (maxL := 4) (ret := (some .int)) (hh := [(0, 9, 12, 13), (0, 9, 15, 15)]) (by decide) rfl (Nat.le_of_ble_eq_true rfl) ?_
  intro p e s m args below meth c ls A hx hb hr hml hlk hts hown hAe hA hK hP hD hS hl htab hE
  have hl : lv_has ls 4 [(0, .ref (qa 0 0)), (1, .int x1), (2, .ref ao)] := hl
  have hF : CallFix p m c cL_giveUp 4 s args aL_giveUp RL := ⟨hx, hb, hml, hown, hts⟩
  have hta : ∀ w ∈ pw_all, w.before args s = true := fun w h => hts w (List.mem_cons_of_mem _ h)
  refine lv_aload_n hx hb dL_giveUp_0 rfl (lv_at hl 2 rfl) ?_
  refine lv_iconst (v := 0) hx hb dL_giveUp_1 (by decide) ?_
  refine lv_aload_n hx hb dL_giveUp_2 rfl (lv_at hl 0 rfl) ?_
  refine lv_iload_n hx hb dL_giveUp_3 rfl (lv_at hl 1 rfl) ?_
  refine pw_cT (ws0 := WL cy qa P T S nw hz ak pa wt cd ln ao ov) (wa := []) (wb := [(ao, .inl (cy 3, 1, .inr (.inl ov)))]) (wc := W3 cy qa P T S nw hz ak pa wt cd ln) (rest := [.int 0, .ref ao]) (As := [.int x1]) hF (kX3_giveUp_t l hfl D cy qa _ P T S nw hz ak pa wt cd ln x1 1 h) (cwV 1 hts (pw_gV (own := RL) (idx := 20) (C := RX3) (y := yX3_giveUp) aw_495 aw_496 aw_497 aw_1 aw_498) rfl rfl rfl pX3_giveUp ⟨Nat.le_of_ble_eq_true rfl, Nat.le_of_ble_eq_true rfl⟩) 3 (RX3, TX3, 7) rfl rfl ⟨0, _, rfl⟩ hK hP hD hS hA hE rfl rfl hl.1 rfl (Nat.le_of_ble_eq_true rfl) dL_giveUp_4 (Nat.le_of_ble_eq_true rfl) (Nat.le_of_ble_eq_true rfl) (fun E ce q9 H locs hEk hP hD hS hce hcv hfc => ?_)
  subst hEk
  refine vx_catch (name := "java/lang/IndexOutOfBoundsException") hown [] ⟨0, 9, 12, 13⟩ [⟨0, 9, 15, 15⟩] (by rw [htab]; rfl) (fun z hz => by cases hz) (by decide) (by decide) (hta _ aw_430) (va_Nw.use rfl (hE.1 (.castable (pw_ex 1) "java/lang/IndexOutOfBoundsException") (by decide +kernel))) hce hcv hfc ?_
  refine lv_astore_n (lv' := [(3, .ref q9), (0, .ref (qa 0 0)), (1, .int x1), (2, .ref ao)]) hx hb dL_giveUp_12 rfl hl (by decide) rfl (fun ls hl => ?_)
  refine lv_iconst (v := 1) hx hb dL_giveUp_13 (by decide) ?_
  exact vx_ret (pw_ri hx hb hr hlk hAe hP hS rfl dL_giveUp_14)
set_option maxHeartbeats 8000000 in
set_option maxRecDepth 100000 in
theorem kL_giveUp_t2 (l : Launch) (hfl : l.stackTraces = false) (D : va_G) (cy : Nat → ClassId) (qa : Nat → Nat → Nat) (sz : Nat) (P : Nat → Nat → Int32) (T : Nat → Nat → Int32) (S : Nat → Nat → Nat → Int32) (nw : Int32) (hz : Int32) (ak : Nat → Int32) (pa : Nat → Int32) (wt : Nat → Int32) (cd : Nat → Int32) (ln : Int32) (ao : Nat) (ov : Nat → Int64) (x1 : Int32) (h : fX3_giveUp x1 P S nw hz = some (Sum.inl 2)) : vx_Met l yL_giveUp aL_giveUp ({ frames := 8, cells := 1, slots := 6, locals := 135 } : Room) (pw_PreE D cy [.ref (qa 0 0), .int x1, .ref ao] (WL cy qa P T S nw hz ak pa wt cd ln ao ov) sz) (pw_I D 2 (WL cy qa P T S nw hz ak pa wt cd ln ao ov) (WL cy qa P T S nw hz ak pa wt cd ln ao ov) sz) (fun _ _ _ => False) 1 6 (va_A (WL cy qa P T S nw hz ak pa wt cd ln ao ov) sz) := by
  refine pw_metW (cc := cL_giveUp) (maxL := 4) (ret := (some .int)) (hh := [(0, 9, 12, 13), (0, 9, 15, 15)]) (by decide) rfl (Nat.le_of_ble_eq_true rfl) ?_
  intro p e s m args below meth c ls A hx hb hr hml hlk hts hown hAe hA hK hP hD hS hl htab hE
  have hl : lv_has ls 4 [(0, .ref (qa 0 0)), (1, .int x1), (2, .ref ao)] := hl
  have hF : CallFix p m c cL_giveUp 4 s args aL_giveUp RL := ⟨hx, hb, hml, hown, hts⟩
  have hta : ∀ w ∈ pw_all, w.before args s = true := fun w h => hts w (List.mem_cons_of_mem _ h)
  refine lv_aload_n hx hb dL_giveUp_0 rfl (lv_at hl 2 rfl) ?_
  refine lv_iconst (v := 0) hx hb dL_giveUp_1 (by decide) ?_
  refine lv_aload_n hx hb dL_giveUp_2 rfl (lv_at hl 0 rfl) ?_
  refine lv_iload_n hx hb dL_giveUp_3 rfl (lv_at hl 1 rfl) ?_
  refine pw_cT (ws0 := WL cy qa P T S nw hz ak pa wt cd ln ao ov) (wa := []) (wb := [(ao, .inl (cy 3, 1, .inr (.inl ov)))]) (wc := W3 cy qa P T S nw hz ak pa wt cd ln) (rest := [.int 0, .ref ao]) (As := [.int x1]) hF (kX3_giveUp_t l hfl D cy qa _ P T S nw hz ak pa wt cd ln x1 2 h) (cwV 1 hts (pw_gV (own := RL) (idx := 20) (C := RX3) (y := yX3_giveUp) aw_495 aw_496 aw_497 aw_1 aw_498) rfl rfl rfl pX3_giveUp ⟨Nat.le_of_ble_eq_true rfl, Nat.le_of_ble_eq_true rfl⟩) 3 (RX3, TX3, 7) rfl rfl ⟨0, _, rfl⟩ hK hP hD hS hA hE rfl rfl hl.1 rfl (Nat.le_of_ble_eq_true rfl) dL_giveUp_4 (Nat.le_of_ble_eq_true rfl) (Nat.le_of_ble_eq_true rfl) (fun E ce q9 H locs hEk hP hD hS hce hcv hfc => ?_)
  subst hEk
  refine vx_catch (name := "java/lang/IllegalStateException") hown [⟨0, 9, 12, 13⟩] ⟨0, 9, 15, 15⟩ [] (by rw [htab]; rfl) (fun z hz => by
    rcases List.mem_singleton.mp hz with rfl
    exact Or.inr ⟨by decide, "java/lang/IndexOutOfBoundsException", hta _ aw_430, hE.2.2.2.2.1 _ (by decide +kernel) _ (by decide +kernel) (by decide +kernel)⟩) (by decide) (by decide) (hta _ aw_431) (va_Nw.use rfl (hE.1 (.castable (pw_ex 2) "java/lang/IllegalStateException") (by decide +kernel))) hce hcv hfc ?_
  refine lv_astore_n (lv' := [(3, .ref q9), (0, .ref (qa 0 0)), (1, .int x1), (2, .ref ao)]) hx hb dL_giveUp_15 rfl hl (by decide) rfl (fun ls hl => ?_)
  refine lv_iconst (v := 2) hx hb dL_giveUp_16 (by decide) ?_
  exact vx_ret (pw_ri hx hb hr hlk hAe hP hS rfl dL_giveUp_17)
def aL_appear : List Cond := Cond.codeWith yL_appear cL_appear 5 (some .int) [(0, 10, 13, 13), (0, 10, 17, 15)] :: pw_all
theorem pL_appear : yL_appear.cls ≠ "java/lang/invoke/MethodHandle" ∧ yL_appear.cls ≠ "java/lang/invoke/VarHandle" ∧ (parseMethodDescriptor yL_appear.desc).map (fun d => d.parameters.length) = some 4 := by decide +kernel
set_option maxHeartbeats 8000000 in
set_option maxRecDepth 100000 in
theorem kL_appear_r (l : Launch) (hfl : l.stackTraces = false) (D : va_G) (cy : Nat → ClassId) (qa : Nat → Nat → Nat) (sz : Nat) (P : Nat → Nat → Int32) (T : Nat → Nat → Int32) (S : Nat → Nat → Nat → Int32) (nw : Int32) (hz : Int32) (ak : Nat → Int32) (pa : Nat → Int32) (wt : Nat → Int32) (cd : Nat → Int32) (ln : Int32) (ao : Nat) (ov : Nat → Int64) (x1 : Int32) (x2 : Int32) (o : Int32 × (Nat → Nat → Int32) × (Nat → Nat → Nat → Int32) × Int32 × Int32) (h : fX3_appear x1 x2 P S nw hz = some (Sum.inr o)) : vx_Met l yL_appear aL_appear ({ frames := 6, cells := 0, slots := 0, locals := 136 } : Room) (pw_PreE D cy [.ref (qa 0 0), .int x1, .int x2, .ref ao] (WL cy qa P T S nw hz ak pa wt cd ln ao ov) sz) (pw_I D 0 (WL cy qa P T S nw hz ak pa wt cd ln ao ov) (WL cy qa o.2.1 T o.2.2.1 o.2.2.2.1 o.2.2.2.2 ak pa wt cd ln ao (vp_updL ov (0 : Int32).toNatClampNeg o.1.toInt64)) sz) (fun _ _ _ => False) 0 0 (va_A (WL cy qa P T S nw hz ak pa wt cd ln ao ov) sz) := by
  refine pw_metW (cc := cL_appear) (maxL := 5) (ret := (some .int)) (hh := [(0, 10, 13, 13), (0, 10, 17, 15)]) (by decide) rfl (Nat.le_of_ble_eq_true rfl) ?_
  intro p e s m args below meth c ls A hx hb hr hml hlk hts hown hAe hA hK hP hD hS hl htab hE
  have hl : lv_has ls 5 [(0, .ref (qa 0 0)), (1, .int x1), (2, .int x2), (3, .ref ao)] := hl
  have hF : CallFix p m c cL_appear 5 s args aL_appear RL := ⟨hx, hb, hml, hown, hts⟩
  have hta : ∀ w ∈ pw_all, w.before args s = true := fun w h => hts w (List.mem_cons_of_mem _ h)
  refine lv_aload_n hx hb dL_appear_0 rfl (lv_at hl 3 rfl) ?_
  refine lv_iconst (v := 0) hx hb dL_appear_1 (by decide) ?_
  refine lv_aload_n hx hb dL_appear_2 rfl (lv_at hl 0 rfl) ?_
  refine lv_iload_n hx hb dL_appear_3 rfl (lv_at hl 1 rfl) ?_
  refine lv_iload_n hx hb dL_appear_4 rfl (lv_at hl 2 rfl) ?_
  refine pw_fi (ws0 := WL cy qa P T S nw hz ak pa wt cd ln ao ov) (ws1 := W3 cy qa o.2.1 T o.2.2.1 o.2.2.2.1 o.2.2.2.2 ak pa wt cd ln ++ [(ao, .inl (cy 3, 1, .inr (.inl ov)))]) (wa := []) (wb := [(ao, .inl (cy 3, 1, .inr (.inl ov)))]) (wc := W3 cy qa P T S nw hz ak pa wt cd ln) (w1 := W3 cy qa o.2.1 T o.2.2.1 o.2.2.2.1 o.2.2.2.2 ak pa wt cd ln) (rest := [.int 0, .ref ao]) (As := [.int x1, .int x2]) hF (kX3_appear l D cy qa _ P T S nw hz ak pa wt cd ln x1 x2 o h) (cwV 2 hts (pw_gV (own := RL) (idx := 23) (C := RX3) (y := yX3_appear) aw_509 aw_510 aw_511 aw_1 aw_512) rfl rfl rfl pX3_appear ⟨Nat.le_of_ble_eq_true rfl, Nat.le_of_ble_eq_true rfl⟩) 3 (RX3, TX3, 7) rfl rfl ⟨0, _, rfl⟩ hK hP hD hS hA rfl rfl rfl rfl hl.1 rfl (Nat.le_of_ble_eq_true rfl) dL_appear_5 ⟨Nat.zero_le _, Nat.zero_le _⟩ (fun H locs hP hD hS => ?_)
  refine lv_i2l (v := o.1.toInt64) hx hb dL_appear_8 rfl ?_
  refine va_last hx hb hK hP hD hS 128 3 rfl rfl (pq_vp (by decide +kernel)) dL_appear_9 (fun H locs hP hD hS => ?_)
  have hP : va_P D vwCl (WL cy qa o.2.1 T o.2.2.1 o.2.2.2.1 o.2.2.2.2 ak pa wt cd ln ao (vp_updL ov (0 : Int32).toNatClampNeg o.1.toInt64)) H := hP
  refine lv_goto (tgt := 21) hx hb dL_appear_10 (by decide) ?_
  refine lv_iconst (v := 0) hx hb dL_appear_21 (by decide) ?_
  exact vx_ret (pw_ri hx hb hr hlk hAe hP hS rfl dL_appear_22)
set_option maxHeartbeats 8000000 in
set_option maxRecDepth 100000 in
theorem kL_appear_t1 (l : Launch) (hfl : l.stackTraces = false) (D : va_G) (cy : Nat → ClassId) (qa : Nat → Nat → Nat) (sz : Nat) (P : Nat → Nat → Int32) (T : Nat → Nat → Int32) (S : Nat → Nat → Nat → Int32) (nw : Int32) (hz : Int32) (ak : Nat → Int32) (pa : Nat → Int32) (wt : Nat → Int32) (cd : Nat → Int32) (ln : Int32) (ao : Nat) (ov : Nat → Int64) (x1 : Int32) (x2 : Int32) (h : fX3_appear x1 x2 P S nw hz = some (Sum.inl 1)) : vx_Met l yL_appear aL_appear ({ frames := 8, cells := 1, slots := 6, locals := 136 } : Room) (pw_PreE D cy [.ref (qa 0 0), .int x1, .int x2, .ref ao] (WL cy qa P T S nw hz ak pa wt cd ln ao ov) sz) (pw_I D 1 (WL cy qa P T S nw hz ak pa wt cd ln ao ov) (WL cy qa P T S nw hz ak pa wt cd ln ao ov) sz) (fun _ _ _ => False) 1 6 (va_A (WL cy qa P T S nw hz ak pa wt cd ln ao ov) sz) := by
  refine pw_metW (cc := cL_appear) (maxL := 5) (ret := (some .int)) (hh := [(0, 10, 13, 13), (0, 10, 17, 15)]) (by decide) rfl (Nat.le_of_ble_eq_true rfl) ?_
  intro p e s m args below meth c ls A hx hb hr hml hlk hts hown hAe hA hK hP hD hS hl htab hE
  have hl : lv_has ls 5 [(0, .ref (qa 0 0)), (1, .int x1), (2, .int x2), (3, .ref ao)] := hl
  have hF : CallFix p m c cL_appear 5 s args aL_appear RL := ⟨hx, hb, hml, hown, hts⟩
  have hta : ∀ w ∈ pw_all, w.before args s = true := fun w h => hts w (List.mem_cons_of_mem _ h)
  refine lv_aload_n hx hb dL_appear_0 rfl (lv_at hl 3 rfl) ?_
  refine lv_iconst (v := 0) hx hb dL_appear_1 (by decide) ?_
  refine lv_aload_n hx hb dL_appear_2 rfl (lv_at hl 0 rfl) ?_
  refine lv_iload_n hx hb dL_appear_3 rfl (lv_at hl 1 rfl) ?_
  refine lv_iload_n hx hb dL_appear_4 rfl (lv_at hl 2 rfl) ?_
  refine pw_cT (ws0 := WL cy qa P T S nw hz ak pa wt cd ln ao ov) (wa := []) (wb := [(ao, .inl (cy 3, 1, .inr (.inl ov)))]) (wc := W3 cy qa P T S nw hz ak pa wt cd ln) (rest := [.int 0, .ref ao]) (As := [.int x1, .int x2]) hF (kX3_appear_t l hfl D cy qa _ P T S nw hz ak pa wt cd ln x1 x2 1 h) (cwV 2 hts (pw_gV (own := RL) (idx := 23) (C := RX3) (y := yX3_appear) aw_509 aw_510 aw_511 aw_1 aw_512) rfl rfl rfl pX3_appear ⟨Nat.le_of_ble_eq_true rfl, Nat.le_of_ble_eq_true rfl⟩) 3 (RX3, TX3, 7) rfl rfl ⟨0, _, rfl⟩ hK hP hD hS hA hE rfl rfl hl.1 rfl (Nat.le_of_ble_eq_true rfl) dL_appear_5 (Nat.le_of_ble_eq_true rfl) (Nat.le_of_ble_eq_true rfl) (fun E ce q9 H locs hEk hP hD hS hce hcv hfc => ?_)
  subst hEk
  refine vx_catch (name := "java/lang/IndexOutOfBoundsException") hown [] ⟨0, 10, 13, 13⟩ [⟨0, 10, 17, 15⟩] (by rw [htab]; rfl) (fun z hz => by cases hz) (by decide) (by decide) (hta _ aw_430) (va_Nw.use rfl (hE.1 (.castable (pw_ex 1) "java/lang/IndexOutOfBoundsException") (by decide +kernel))) hce hcv hfc ?_
  refine lv_astore (lv' := [(4, .ref q9), (0, .ref (qa 0 0)), (1, .int x1), (2, .int x2), (3, .ref ao)]) hx hb dL_appear_13 hl (by decide) rfl (fun ls hl => ?_)
  refine lv_iconst (v := 1) hx hb dL_appear_15 (by decide) ?_
  exact vx_ret (pw_ri hx hb hr hlk hAe hP hS rfl dL_appear_16)
set_option maxHeartbeats 8000000 in
set_option maxRecDepth 100000 in
theorem kL_appear_t2 (l : Launch) (hfl : l.stackTraces = false) (D : va_G) (cy : Nat → ClassId) (qa : Nat → Nat → Nat) (sz : Nat) (P : Nat → Nat → Int32) (T : Nat → Nat → Int32) (S : Nat → Nat → Nat → Int32) (nw : Int32) (hz : Int32) (ak : Nat → Int32) (pa : Nat → Int32) (wt : Nat → Int32) (cd : Nat → Int32) (ln : Int32) (ao : Nat) (ov : Nat → Int64) (x1 : Int32) (x2 : Int32) (h : fX3_appear x1 x2 P S nw hz = some (Sum.inl 2)) : vx_Met l yL_appear aL_appear ({ frames := 8, cells := 1, slots := 6, locals := 136 } : Room) (pw_PreE D cy [.ref (qa 0 0), .int x1, .int x2, .ref ao] (WL cy qa P T S nw hz ak pa wt cd ln ao ov) sz) (pw_I D 2 (WL cy qa P T S nw hz ak pa wt cd ln ao ov) (WL cy qa P T S nw hz ak pa wt cd ln ao ov) sz) (fun _ _ _ => False) 1 6 (va_A (WL cy qa P T S nw hz ak pa wt cd ln ao ov) sz) := by
  refine pw_metW (cc := cL_appear) (maxL := 5) (ret := (some .int)) (hh := [(0, 10, 13, 13), (0, 10, 17, 15)]) (by decide) rfl (Nat.le_of_ble_eq_true rfl) ?_
  intro p e s m args below meth c ls A hx hb hr hml hlk hts hown hAe hA hK hP hD hS hl htab hE
  have hl : lv_has ls 5 [(0, .ref (qa 0 0)), (1, .int x1), (2, .int x2), (3, .ref ao)] := hl
  have hF : CallFix p m c cL_appear 5 s args aL_appear RL := ⟨hx, hb, hml, hown, hts⟩
  have hta : ∀ w ∈ pw_all, w.before args s = true := fun w h => hts w (List.mem_cons_of_mem _ h)
  refine lv_aload_n hx hb dL_appear_0 rfl (lv_at hl 3 rfl) ?_
  refine lv_iconst (v := 0) hx hb dL_appear_1 (by decide) ?_
  refine lv_aload_n hx hb dL_appear_2 rfl (lv_at hl 0 rfl) ?_
  refine lv_iload_n hx hb dL_appear_3 rfl (lv_at hl 1 rfl) ?_
  refine lv_iload_n hx hb dL_appear_4 rfl (lv_at hl 2 rfl) ?_
  refine pw_cT (ws0 := WL cy qa P T S nw hz ak pa wt cd ln ao ov) (wa := []) (wb := [(ao, .inl (cy 3, 1, .inr (.inl ov)))]) (wc := W3 cy qa P T S nw hz ak pa wt cd ln) (rest := [.int 0, .ref ao]) (As := [.int x1, .int x2]) hF (kX3_appear_t l hfl D cy qa _ P T S nw hz ak pa wt cd ln x1 x2 2 h) (cwV 2 hts (pw_gV (own := RL) (idx := 23) (C := RX3) (y := yX3_appear) aw_509 aw_510 aw_511 aw_1 aw_512) rfl rfl rfl pX3_appear ⟨Nat.le_of_ble_eq_true rfl, Nat.le_of_ble_eq_true rfl⟩) 3 (RX3, TX3, 7) rfl rfl ⟨0, _, rfl⟩ hK hP hD hS hA hE rfl rfl hl.1 rfl (Nat.le_of_ble_eq_true rfl) dL_appear_5 (Nat.le_of_ble_eq_true rfl) (Nat.le_of_ble_eq_true rfl) (fun E ce q9 H locs hEk hP hD hS hce hcv hfc => ?_)
  subst hEk
  refine vx_catch (name := "java/lang/IllegalStateException") hown [⟨0, 10, 13, 13⟩] ⟨0, 10, 17, 15⟩ [] (by rw [htab]; rfl) (fun z hz => by
    rcases List.mem_singleton.mp hz with rfl
    exact Or.inr ⟨by decide, "java/lang/IndexOutOfBoundsException", hta _ aw_430, hE.2.2.2.2.1 _ (by decide +kernel) _ (by decide +kernel) (by decide +kernel)⟩) (by decide) (by decide) (hta _ aw_431) (va_Nw.use rfl (hE.1 (.castable (pw_ex 2) "java/lang/IllegalStateException") (by decide +kernel))) hce hcv hfc ?_
  refine lv_astore (lv' := [(4, .ref q9), (0, .ref (qa 0 0)), (1, .int x1), (2, .int x2), (3, .ref ao)]) hx hb dL_appear_17 hl (by decide) rfl (fun ls hl => ?_)
  refine lv_iconst (v := 2) hx hb dL_appear_19 (by decide) ?_
  exact vx_ret (pw_ri hx hb hr hlk hAe hP hS rfl dL_appear_20)
def aL_sicken : List Cond := Cond.codeWith yL_sicken cL_sicken 4 (some .int) [(0, 9, 12, 13), (0, 9, 15, 15)] :: pw_all
theorem pL_sicken : yL_sicken.cls ≠ "java/lang/invoke/MethodHandle" ∧ yL_sicken.cls ≠ "java/lang/invoke/VarHandle" ∧ (parseMethodDescriptor yL_sicken.desc).map (fun d => d.parameters.length) = some 3 := by decide +kernel
set_option maxHeartbeats 8000000 in
set_option maxRecDepth 100000 in
theorem kL_sicken_r (l : Launch) (hfl : l.stackTraces = false) (D : va_G) (cy : Nat → ClassId) (qa : Nat → Nat → Nat) (sz : Nat) (P : Nat → Nat → Int32) (T : Nat → Nat → Int32) (S : Nat → Nat → Nat → Int32) (nw : Int32) (hz : Int32) (ak : Nat → Int32) (pa : Nat → Int32) (wt : Nat → Int32) (cd : Nat → Int32) (ln : Int32) (ao : Nat) (ov : Nat → Int64) (x1 : Int32) (o : Int32 × (Nat → Nat → Int32) × (Nat → Nat → Nat → Int32) × Int32 × Int32) (h : fX3_sicken x1 P S nw hz = some (Sum.inr o)) : vx_Met l yL_sicken aL_sicken ({ frames := 4, cells := 0, slots := 0, locals := 132 } : Room) (pw_PreE D cy [.ref (qa 0 0), .int x1, .ref ao] (WL cy qa P T S nw hz ak pa wt cd ln ao ov) sz) (pw_I D 0 (WL cy qa P T S nw hz ak pa wt cd ln ao ov) (WL cy qa o.2.1 T o.2.2.1 o.2.2.2.1 o.2.2.2.2 ak pa wt cd ln ao (vp_updL ov (0 : Int32).toNatClampNeg o.1.toInt64)) sz) (fun _ _ _ => False) 0 0 (va_A (WL cy qa P T S nw hz ak pa wt cd ln ao ov) sz) := by
  refine pw_metW (cc := cL_sicken) (maxL := 4) (ret := (some .int)) (hh := [(0, 9, 12, 13), (0, 9, 15, 15)]) (by decide) rfl (Nat.le_of_ble_eq_true rfl) ?_
  intro p e s m args below meth c ls A hx hb hr hml hlk hts hown hAe hA hK hP hD hS hl htab hE
  have hl : lv_has ls 4 [(0, .ref (qa 0 0)), (1, .int x1), (2, .ref ao)] := hl
  have hF : CallFix p m c cL_sicken 4 s args aL_sicken RL := ⟨hx, hb, hml, hown, hts⟩
  have hta : ∀ w ∈ pw_all, w.before args s = true := fun w h => hts w (List.mem_cons_of_mem _ h)
  refine lv_aload_n hx hb dL_sicken_0 rfl (lv_at hl 2 rfl) ?_
  refine lv_iconst (v := 0) hx hb dL_sicken_1 (by decide) ?_
  refine lv_aload_n hx hb dL_sicken_2 rfl (lv_at hl 0 rfl) ?_
  refine lv_iload_n hx hb dL_sicken_3 rfl (lv_at hl 1 rfl) ?_
  refine pw_fi (ws0 := WL cy qa P T S nw hz ak pa wt cd ln ao ov) (ws1 := W3 cy qa o.2.1 T o.2.2.1 o.2.2.2.1 o.2.2.2.2 ak pa wt cd ln ++ [(ao, .inl (cy 3, 1, .inr (.inl ov)))]) (wa := []) (wb := [(ao, .inl (cy 3, 1, .inr (.inl ov)))]) (wc := W3 cy qa P T S nw hz ak pa wt cd ln) (w1 := W3 cy qa o.2.1 T o.2.2.1 o.2.2.2.1 o.2.2.2.2 ak pa wt cd ln) (rest := [.int 0, .ref ao]) (As := [.int x1]) hF (kX3_sicken l D cy qa _ P T S nw hz ak pa wt cd ln x1 o h) (cwV 1 hts (pw_gV (own := RL) (idx := 27) (C := RX3) (y := yX3_sicken) aw_522 aw_523 aw_524 aw_1 aw_525) rfl rfl rfl pX3_sicken ⟨Nat.le_of_ble_eq_true rfl, Nat.le_of_ble_eq_true rfl⟩) 3 (RX3, TX3, 7) rfl rfl ⟨0, _, rfl⟩ hK hP hD hS hA rfl rfl rfl rfl hl.1 rfl (Nat.le_of_ble_eq_true rfl) dL_sicken_4 ⟨Nat.zero_le _, Nat.zero_le _⟩ (fun H locs hP hD hS => ?_)
  refine lv_i2l (v := o.1.toInt64) hx hb dL_sicken_7 rfl ?_
  refine va_last hx hb hK hP hD hS 128 3 rfl rfl (pq_vp (by decide +kernel)) dL_sicken_8 (fun H locs hP hD hS => ?_)
  have hP : va_P D vwCl (WL cy qa o.2.1 T o.2.2.1 o.2.2.2.1 o.2.2.2.2 ak pa wt cd ln ao (vp_updL ov (0 : Int32).toNatClampNeg o.1.toInt64)) H := hP
  refine lv_goto (tgt := 18) hx hb dL_sicken_9 (by decide) ?_
  refine lv_iconst (v := 0) hx hb dL_sicken_18 (by decide) ?_
  exact vx_ret (pw_ri hx hb hr hlk hAe hP hS rfl dL_sicken_19)
set_option maxHeartbeats 8000000 in
set_option maxRecDepth 100000 in
theorem kL_sicken_t1 (l : Launch) (hfl : l.stackTraces = false) (D : va_G) (cy : Nat → ClassId) (qa : Nat → Nat → Nat) (sz : Nat) (P : Nat → Nat → Int32) (T : Nat → Nat → Int32) (S : Nat → Nat → Nat → Int32) (nw : Int32) (hz : Int32) (ak : Nat → Int32) (pa : Nat → Int32) (wt : Nat → Int32) (cd : Nat → Int32) (ln : Int32) (ao : Nat) (ov : Nat → Int64) (x1 : Int32) (h : fX3_sicken x1 P S nw hz = some (Sum.inl 1)) : vx_Met l yL_sicken aL_sicken ({ frames := 8, cells := 1, slots := 6, locals := 132 } : Room) (pw_PreE D cy [.ref (qa 0 0), .int x1, .ref ao] (WL cy qa P T S nw hz ak pa wt cd ln ao ov) sz) (pw_I D 1 (WL cy qa P T S nw hz ak pa wt cd ln ao ov) (WL cy qa P T S nw hz ak pa wt cd ln ao ov) sz) (fun _ _ _ => False) 1 6 (va_A (WL cy qa P T S nw hz ak pa wt cd ln ao ov) sz) := by
  refine pw_metW (cc := cL_sicken) (maxL := 4) (ret := (some .int)) (hh := [(0, 9, 12, 13), (0, 9, 15, 15)]) (by decide) rfl (Nat.le_of_ble_eq_true rfl) ?_
  intro p e s m args below meth c ls A hx hb hr hml hlk hts hown hAe hA hK hP hD hS hl htab hE
  have hl : lv_has ls 4 [(0, .ref (qa 0 0)), (1, .int x1), (2, .ref ao)] := hl
  have hF : CallFix p m c cL_sicken 4 s args aL_sicken RL := ⟨hx, hb, hml, hown, hts⟩
  have hta : ∀ w ∈ pw_all, w.before args s = true := fun w h => hts w (List.mem_cons_of_mem _ h)
  refine lv_aload_n hx hb dL_sicken_0 rfl (lv_at hl 2 rfl) ?_
  refine lv_iconst (v := 0) hx hb dL_sicken_1 (by decide) ?_
  refine lv_aload_n hx hb dL_sicken_2 rfl (lv_at hl 0 rfl) ?_
  refine lv_iload_n hx hb dL_sicken_3 rfl (lv_at hl 1 rfl) ?_
  refine pw_cT (ws0 := WL cy qa P T S nw hz ak pa wt cd ln ao ov) (wa := []) (wb := [(ao, .inl (cy 3, 1, .inr (.inl ov)))]) (wc := W3 cy qa P T S nw hz ak pa wt cd ln) (rest := [.int 0, .ref ao]) (As := [.int x1]) hF (kX3_sicken_t l hfl D cy qa _ P T S nw hz ak pa wt cd ln x1 1 h) (cwV 1 hts (pw_gV (own := RL) (idx := 27) (C := RX3) (y := yX3_sicken) aw_522 aw_523 aw_524 aw_1 aw_525) rfl rfl rfl pX3_sicken ⟨Nat.le_of_ble_eq_true rfl, Nat.le_of_ble_eq_true rfl⟩) 3 (RX3, TX3, 7) rfl rfl ⟨0, _, rfl⟩ hK hP hD hS hA hE rfl rfl hl.1 rfl (Nat.le_of_ble_eq_true rfl) dL_sicken_4 (Nat.le_of_ble_eq_true rfl) (Nat.le_of_ble_eq_true rfl) (fun E ce q9 H locs hEk hP hD hS hce hcv hfc => ?_)
  subst hEk
  refine vx_catch (name := "java/lang/IndexOutOfBoundsException") hown [] ⟨0, 9, 12, 13⟩ [⟨0, 9, 15, 15⟩] (by rw [htab]; rfl) (fun z hz => by cases hz) (by decide) (by decide) (hta _ aw_430) (va_Nw.use rfl (hE.1 (.castable (pw_ex 1) "java/lang/IndexOutOfBoundsException") (by decide +kernel))) hce hcv hfc ?_
  refine lv_astore_n (lv' := [(3, .ref q9), (0, .ref (qa 0 0)), (1, .int x1), (2, .ref ao)]) hx hb dL_sicken_12 rfl hl (by decide) rfl (fun ls hl => ?_)
  refine lv_iconst (v := 1) hx hb dL_sicken_13 (by decide) ?_
  exact vx_ret (pw_ri hx hb hr hlk hAe hP hS rfl dL_sicken_14)
set_option maxHeartbeats 8000000 in
set_option maxRecDepth 100000 in
theorem kL_sicken_t2 (l : Launch) (hfl : l.stackTraces = false) (D : va_G) (cy : Nat → ClassId) (qa : Nat → Nat → Nat) (sz : Nat) (P : Nat → Nat → Int32) (T : Nat → Nat → Int32) (S : Nat → Nat → Nat → Int32) (nw : Int32) (hz : Int32) (ak : Nat → Int32) (pa : Nat → Int32) (wt : Nat → Int32) (cd : Nat → Int32) (ln : Int32) (ao : Nat) (ov : Nat → Int64) (x1 : Int32) (h : fX3_sicken x1 P S nw hz = some (Sum.inl 2)) : vx_Met l yL_sicken aL_sicken ({ frames := 8, cells := 1, slots := 6, locals := 132 } : Room) (pw_PreE D cy [.ref (qa 0 0), .int x1, .ref ao] (WL cy qa P T S nw hz ak pa wt cd ln ao ov) sz) (pw_I D 2 (WL cy qa P T S nw hz ak pa wt cd ln ao ov) (WL cy qa P T S nw hz ak pa wt cd ln ao ov) sz) (fun _ _ _ => False) 1 6 (va_A (WL cy qa P T S nw hz ak pa wt cd ln ao ov) sz) := by
  refine pw_metW (cc := cL_sicken) (maxL := 4) (ret := (some .int)) (hh := [(0, 9, 12, 13), (0, 9, 15, 15)]) (by decide) rfl (Nat.le_of_ble_eq_true rfl) ?_
  intro p e s m args below meth c ls A hx hb hr hml hlk hts hown hAe hA hK hP hD hS hl htab hE
  have hl : lv_has ls 4 [(0, .ref (qa 0 0)), (1, .int x1), (2, .ref ao)] := hl
  have hF : CallFix p m c cL_sicken 4 s args aL_sicken RL := ⟨hx, hb, hml, hown, hts⟩
  have hta : ∀ w ∈ pw_all, w.before args s = true := fun w h => hts w (List.mem_cons_of_mem _ h)
  refine lv_aload_n hx hb dL_sicken_0 rfl (lv_at hl 2 rfl) ?_
  refine lv_iconst (v := 0) hx hb dL_sicken_1 (by decide) ?_
  refine lv_aload_n hx hb dL_sicken_2 rfl (lv_at hl 0 rfl) ?_
  refine lv_iload_n hx hb dL_sicken_3 rfl (lv_at hl 1 rfl) ?_
  refine pw_cT (ws0 := WL cy qa P T S nw hz ak pa wt cd ln ao ov) (wa := []) (wb := [(ao, .inl (cy 3, 1, .inr (.inl ov)))]) (wc := W3 cy qa P T S nw hz ak pa wt cd ln) (rest := [.int 0, .ref ao]) (As := [.int x1]) hF (kX3_sicken_t l hfl D cy qa _ P T S nw hz ak pa wt cd ln x1 2 h) (cwV 1 hts (pw_gV (own := RL) (idx := 27) (C := RX3) (y := yX3_sicken) aw_522 aw_523 aw_524 aw_1 aw_525) rfl rfl rfl pX3_sicken ⟨Nat.le_of_ble_eq_true rfl, Nat.le_of_ble_eq_true rfl⟩) 3 (RX3, TX3, 7) rfl rfl ⟨0, _, rfl⟩ hK hP hD hS hA hE rfl rfl hl.1 rfl (Nat.le_of_ble_eq_true rfl) dL_sicken_4 (Nat.le_of_ble_eq_true rfl) (Nat.le_of_ble_eq_true rfl) (fun E ce q9 H locs hEk hP hD hS hce hcv hfc => ?_)
  subst hEk
  refine vx_catch (name := "java/lang/IllegalStateException") hown [⟨0, 9, 12, 13⟩] ⟨0, 9, 15, 15⟩ [] (by rw [htab]; rfl) (fun z hz => by
    rcases List.mem_singleton.mp hz with rfl
    exact Or.inr ⟨by decide, "java/lang/IndexOutOfBoundsException", hta _ aw_430, hE.2.2.2.2.1 _ (by decide +kernel) _ (by decide +kernel) (by decide +kernel)⟩) (by decide) (by decide) (hta _ aw_431) (va_Nw.use rfl (hE.1 (.castable (pw_ex 2) "java/lang/IllegalStateException") (by decide +kernel))) hce hcv hfc ?_
  refine lv_astore_n (lv' := [(3, .ref q9), (0, .ref (qa 0 0)), (1, .int x1), (2, .ref ao)]) hx hb dL_sicken_15 rfl hl (by decide) rfl (fun ls hl => ?_)
  refine lv_iconst (v := 2) hx hb dL_sicken_16 (by decide) ?_
  exact vx_ret (pw_ri hx hb hr hlk hAe hP hS rfl dL_sicken_17)
def aL_set : List Cond := Cond.codeWith yL_set cL_set 5 (some .int) [(0, 10, 13, 13), (0, 10, 17, 34)] :: pw_all
theorem pL_set : yL_set.cls ≠ "java/lang/invoke/MethodHandle" ∧ yL_set.cls ≠ "java/lang/invoke/VarHandle" ∧ (parseMethodDescriptor yL_set.desc).map (fun d => d.parameters.length) = some 4 := by decide +kernel
set_option maxHeartbeats 8000000 in
set_option maxRecDepth 100000 in
theorem kL_set_r (l : Launch) (hfl : l.stackTraces = false) (D : va_G) (cy : Nat → ClassId) (qa : Nat → Nat → Nat) (sz : Nat) (P : Nat → Nat → Int32) (T : Nat → Nat → Int32) (S : Nat → Nat → Nat → Int32) (nw : Int32) (hz : Int32) (ak : Nat → Int32) (pa : Nat → Int32) (wt : Nat → Int32) (cd : Nat → Int32) (ln : Int32) (ao : Nat) (ov : Nat → Int64) (x1 : Int32) (x2 : Int32) (o : Int32 × (Nat → Nat → Int32) × (Nat → Nat → Nat → Int32) × Int32 × Int32) (h : fX3_set x1 x2 P S nw hz = some (Sum.inr o)) : vx_Met l yL_set aL_set ({ frames := 6, cells := 0, slots := 0, locals := 137 } : Room) (pw_PreE D cy [.ref (qa 0 0), .int x1, .int x2, .ref ao] (WL cy qa P T S nw hz ak pa wt cd ln ao ov) sz) (pw_I D 0 (WL cy qa P T S nw hz ak pa wt cd ln ao ov) (WL cy qa o.2.1 T o.2.2.1 o.2.2.2.1 o.2.2.2.2 ak pa wt cd ln ao (vp_updL ov (0 : Int32).toNatClampNeg o.1.toInt64)) sz) (fun _ _ _ => False) 0 0 (va_A (WL cy qa P T S nw hz ak pa wt cd ln ao ov) sz) := by
  refine pw_metW (cc := cL_set) (maxL := 5) (ret := (some .int)) (hh := [(0, 10, 13, 13), (0, 10, 17, 34)]) (by decide) rfl (Nat.le_of_ble_eq_true rfl) ?_
  intro p e s m args below meth c ls A hx hb hr hml hlk hts hown hAe hA hK hP hD hS hl htab hE
  have hl : lv_has ls 5 [(0, .ref (qa 0 0)), (1, .int x1), (2, .int x2), (3, .ref ao)] := hl
  have hF : CallFix p m c cL_set 5 s args aL_set RL := ⟨hx, hb, hml, hown, hts⟩
  have hta : ∀ w ∈ pw_all, w.before args s = true := fun w h => hts w (List.mem_cons_of_mem _ h)
  refine lv_aload_n hx hb dL_set_0 rfl (lv_at hl 3 rfl) ?_
  refine lv_iconst (v := 0) hx hb dL_set_1 (by decide) ?_
  refine lv_aload_n hx hb dL_set_2 rfl (lv_at hl 0 rfl) ?_
  refine lv_iload_n hx hb dL_set_3 rfl (lv_at hl 1 rfl) ?_
  refine lv_iload_n hx hb dL_set_4 rfl (lv_at hl 2 rfl) ?_
  refine pw_fiE (ws0 := WL cy qa P T S nw hz ak pa wt cd ln ao ov) (ws1 := W3 cy qa o.2.1 T o.2.2.1 o.2.2.2.1 o.2.2.2.2 ak pa wt cd ln ++ [(ao, .inl (cy 3, 1, .inr (.inl ov)))]) (wa := []) (wb := [(ao, .inl (cy 3, 1, .inr (.inl ov)))]) (wc := W3 cy qa P T S nw hz ak pa wt cd ln) (w1 := W3 cy qa o.2.1 T o.2.2.1 o.2.2.2.1 o.2.2.2.2 ak pa wt cd ln) (rest := [.int 0, .ref ao]) (As := [.int x1, .int x2]) hF (kX3_set l D cy qa _ P T S nw hz ak pa wt cd ln x1 x2 o h) (cwV 2 hts (pw_gV (own := RL) (idx := 30) (C := RX3) (y := yX3_set) aw_536 aw_537 aw_538 aw_1 aw_539) rfl rfl rfl pX3_set ⟨Nat.le_of_ble_eq_true rfl, Nat.le_of_ble_eq_true rfl⟩) 3 (RX3, TX3, 7) rfl rfl ⟨0, _, rfl⟩ hK hP hD hS hA hE rfl rfl rfl rfl hl.1 rfl (Nat.le_of_ble_eq_true rfl) dL_set_5 ⟨Nat.zero_le _, Nat.zero_le _⟩ (fun H locs hP hD hS => ?_)
  refine lv_i2l (v := o.1.toInt64) hx hb dL_set_8 rfl ?_
  refine va_last hx hb hK hP hD hS 128 3 rfl rfl (pq_vp (by decide +kernel)) dL_set_9 (fun H locs hP hD hS => ?_)
  have hP : va_P D vwCl (WL cy qa o.2.1 T o.2.2.1 o.2.2.2.1 o.2.2.2.2 ak pa wt cd ln ao (vp_updL ov (0 : Int32).toNatClampNeg o.1.toInt64)) H := hP
  refine lv_goto (tgt := 21) hx hb dL_set_10 (by decide) ?_
  refine lv_iconst (v := 0) hx hb dL_set_21 (by decide) ?_
  exact vx_ret (pw_ri hx hb hr hlk hAe hP hS rfl dL_set_22)
set_option maxHeartbeats 8000000 in
set_option maxRecDepth 100000 in
theorem kL_set_t1 (l : Launch) (hfl : l.stackTraces = false) (D : va_G) (cy : Nat → ClassId) (qa : Nat → Nat → Nat) (sz : Nat) (P : Nat → Nat → Int32) (T : Nat → Nat → Int32) (S : Nat → Nat → Nat → Int32) (nw : Int32) (hz : Int32) (ak : Nat → Int32) (pa : Nat → Int32) (wt : Nat → Int32) (cd : Nat → Int32) (ln : Int32) (ao : Nat) (ov : Nat → Int64) (x1 : Int32) (x2 : Int32) (h : fX3_set x1 x2 P S nw hz = some (Sum.inl 1)) : vx_Met l yL_set aL_set ({ frames := 8, cells := 1, slots := 6, locals := 137 } : Room) (pw_PreE D cy [.ref (qa 0 0), .int x1, .int x2, .ref ao] (WL cy qa P T S nw hz ak pa wt cd ln ao ov) sz) (pw_I D 1 (WL cy qa P T S nw hz ak pa wt cd ln ao ov) (WL cy qa P T S nw hz ak pa wt cd ln ao ov) sz) (fun _ _ _ => False) 1 6 (va_A (WL cy qa P T S nw hz ak pa wt cd ln ao ov) sz) := by
  refine pw_metW (cc := cL_set) (maxL := 5) (ret := (some .int)) (hh := [(0, 10, 13, 13), (0, 10, 17, 34)]) (by decide) rfl (Nat.le_of_ble_eq_true rfl) ?_
  intro p e s m args below meth c ls A hx hb hr hml hlk hts hown hAe hA hK hP hD hS hl htab hE
  have hl : lv_has ls 5 [(0, .ref (qa 0 0)), (1, .int x1), (2, .int x2), (3, .ref ao)] := hl
  have hF : CallFix p m c cL_set 5 s args aL_set RL := ⟨hx, hb, hml, hown, hts⟩
  have hta : ∀ w ∈ pw_all, w.before args s = true := fun w h => hts w (List.mem_cons_of_mem _ h)
  refine lv_aload_n hx hb dL_set_0 rfl (lv_at hl 3 rfl) ?_
  refine lv_iconst (v := 0) hx hb dL_set_1 (by decide) ?_
  refine lv_aload_n hx hb dL_set_2 rfl (lv_at hl 0 rfl) ?_
  refine lv_iload_n hx hb dL_set_3 rfl (lv_at hl 1 rfl) ?_
  refine lv_iload_n hx hb dL_set_4 rfl (lv_at hl 2 rfl) ?_
  refine pw_cT (ws0 := WL cy qa P T S nw hz ak pa wt cd ln ao ov) (wa := []) (wb := [(ao, .inl (cy 3, 1, .inr (.inl ov)))]) (wc := W3 cy qa P T S nw hz ak pa wt cd ln) (rest := [.int 0, .ref ao]) (As := [.int x1, .int x2]) hF (kX3_set_t l hfl D cy qa _ P T S nw hz ak pa wt cd ln x1 x2 1 h) (cwV 2 hts (pw_gV (own := RL) (idx := 30) (C := RX3) (y := yX3_set) aw_536 aw_537 aw_538 aw_1 aw_539) rfl rfl rfl pX3_set ⟨Nat.le_of_ble_eq_true rfl, Nat.le_of_ble_eq_true rfl⟩) 3 (RX3, TX3, 7) rfl rfl ⟨0, _, rfl⟩ hK hP hD hS hA hE rfl rfl hl.1 rfl (Nat.le_of_ble_eq_true rfl) dL_set_5 (Nat.le_of_ble_eq_true rfl) (Nat.le_of_ble_eq_true rfl) (fun E ce q9 H locs hEk hP hD hS hce hcv hfc => ?_)
  subst hEk
  refine vx_catch (name := "java/lang/IndexOutOfBoundsException") hown [] ⟨0, 10, 13, 13⟩ [⟨0, 10, 17, 34⟩] (by rw [htab]; rfl) (fun z hz => by cases hz) (by decide) (by decide) (hta _ aw_430) (va_Nw.use rfl (hE.1 (.castable (pw_ex 1) "java/lang/IndexOutOfBoundsException") (by decide +kernel))) hce hcv hfc ?_
  refine lv_astore (lv' := [(4, .ref q9), (0, .ref (qa 0 0)), (1, .int x1), (2, .int x2), (3, .ref ao)]) hx hb dL_set_13 hl (by decide) rfl (fun ls hl => ?_)
  refine lv_iconst (v := 1) hx hb dL_set_15 (by decide) ?_
  exact vx_ret (pw_ri hx hb hr hlk hAe hP hS rfl dL_set_16)
set_option maxHeartbeats 8000000 in
set_option maxRecDepth 100000 in
theorem kL_set_t3 (l : Launch) (hfl : l.stackTraces = false) (D : va_G) (cy : Nat → ClassId) (qa : Nat → Nat → Nat) (sz : Nat) (P : Nat → Nat → Int32) (T : Nat → Nat → Int32) (S : Nat → Nat → Nat → Int32) (nw : Int32) (hz : Int32) (ak : Nat → Int32) (pa : Nat → Int32) (wt : Nat → Int32) (cd : Nat → Int32) (ln : Int32) (ao : Nat) (ov : Nat → Int64) (x1 : Int32) (x2 : Int32) (h : fX3_set x1 x2 P S nw hz = some (Sum.inl 3)) : vx_Met l yL_set aL_set ({ frames := 8, cells := 1, slots := 6, locals := 137 } : Room) (pw_PreE D cy [.ref (qa 0 0), .int x1, .int x2, .ref ao] (WL cy qa P T S nw hz ak pa wt cd ln ao ov) sz) (pw_I D 2 (WL cy qa P T S nw hz ak pa wt cd ln ao ov) (WL cy qa P T S nw hz ak pa wt cd ln ao ov) sz) (fun _ _ _ => False) 1 6 (va_A (WL cy qa P T S nw hz ak pa wt cd ln ao ov) sz) := by
  refine pw_metW (cc := cL_set) (maxL := 5) (ret := (some .int)) (hh := [(0, 10, 13, 13), (0, 10, 17, 34)]) (by decide) rfl (Nat.le_of_ble_eq_true rfl) ?_
  intro p e s m args below meth c ls A hx hb hr hml hlk hts hown hAe hA hK hP hD hS hl htab hE
  have hl : lv_has ls 5 [(0, .ref (qa 0 0)), (1, .int x1), (2, .int x2), (3, .ref ao)] := hl
  have hF : CallFix p m c cL_set 5 s args aL_set RL := ⟨hx, hb, hml, hown, hts⟩
  have hta : ∀ w ∈ pw_all, w.before args s = true := fun w h => hts w (List.mem_cons_of_mem _ h)
  refine lv_aload_n hx hb dL_set_0 rfl (lv_at hl 3 rfl) ?_
  refine lv_iconst (v := 0) hx hb dL_set_1 (by decide) ?_
  refine lv_aload_n hx hb dL_set_2 rfl (lv_at hl 0 rfl) ?_
  refine lv_iload_n hx hb dL_set_3 rfl (lv_at hl 1 rfl) ?_
  refine lv_iload_n hx hb dL_set_4 rfl (lv_at hl 2 rfl) ?_
  refine pw_cT (ws0 := WL cy qa P T S nw hz ak pa wt cd ln ao ov) (wa := []) (wb := [(ao, .inl (cy 3, 1, .inr (.inl ov)))]) (wc := W3 cy qa P T S nw hz ak pa wt cd ln) (rest := [.int 0, .ref ao]) (As := [.int x1, .int x2]) hF (kX3_set_t l hfl D cy qa _ P T S nw hz ak pa wt cd ln x1 x2 3 h) (cwV 2 hts (pw_gV (own := RL) (idx := 30) (C := RX3) (y := yX3_set) aw_536 aw_537 aw_538 aw_1 aw_539) rfl rfl rfl pX3_set ⟨Nat.le_of_ble_eq_true rfl, Nat.le_of_ble_eq_true rfl⟩) 3 (RX3, TX3, 7) rfl rfl ⟨0, _, rfl⟩ hK hP hD hS hA hE rfl rfl hl.1 rfl (Nat.le_of_ble_eq_true rfl) dL_set_5 (Nat.le_of_ble_eq_true rfl) (Nat.le_of_ble_eq_true rfl) (fun E ce q9 H locs hEk hP hD hS hce hcv hfc => ?_)
  subst hEk
  refine vx_catch (name := "java/lang/IllegalArgumentException") hown [⟨0, 10, 13, 13⟩] ⟨0, 10, 17, 34⟩ [] (by rw [htab]; rfl) (fun z hz => by
    rcases List.mem_singleton.mp hz with rfl
    exact Or.inr ⟨by decide, "java/lang/IndexOutOfBoundsException", hta _ aw_430, hE.2.2.2.2.1 _ (by decide +kernel) _ (by decide +kernel) (by decide +kernel)⟩) (by decide) (by decide) (hta _ aw_535) (va_Nw.use rfl (hE.1 (.castable (pw_ex 3) "java/lang/IllegalArgumentException") (by decide +kernel))) hce hcv hfc ?_
  refine lv_astore (lv' := [(4, .ref q9), (0, .ref (qa 0 0)), (1, .int x1), (2, .int x2), (3, .ref ao)]) hx hb dL_set_17 hl (by decide) rfl (fun ls hl => ?_)
  refine lv_iconst (v := 2) hx hb dL_set_19 (by decide) ?_
  exact vx_ret (pw_ri hx hb hr hlk hAe hP hS rfl dL_set_20)
def aL_pass : List Cond := Cond.codeWith yL_pass cL_pass 4 (some .int) [(0, 9, 12, 34), (0, 9, 15, 15)] :: pw_all
theorem pL_pass : yL_pass.cls ≠ "java/lang/invoke/MethodHandle" ∧ yL_pass.cls ≠ "java/lang/invoke/VarHandle" ∧ (parseMethodDescriptor yL_pass.desc).map (fun d => d.parameters.length) = some 3 := by decide +kernel
set_option maxHeartbeats 8000000 in
set_option maxRecDepth 100000 in
theorem kL_pass_r (l : Launch) (hfl : l.stackTraces = false) (D : va_G) (cy : Nat → ClassId) (qa : Nat → Nat → Nat) (sz : Nat) (P : Nat → Nat → Int32) (T : Nat → Nat → Int32) (S : Nat → Nat → Nat → Int32) (nw : Int32) (hz : Int32) (ak : Nat → Int32) (pa : Nat → Int32) (wt : Nat → Int32) (cd : Nat → Int32) (ln : Int32) (ao : Nat) (ov : Nat → Int64) (x1 : Int32) (o : Int32 × (Nat → Nat → Int32) × (Nat → Nat → Nat → Int32) × Int32 × Int32) (h : fX3_pass x1 P S nw hz = some (Sum.inr o)) : vx_Met l yL_pass aL_pass ({ frames := 6, cells := 0, slots := 0, locals := 137 } : Room) (pw_PreE D cy [.ref (qa 0 0), .int x1, .ref ao] (WL cy qa P T S nw hz ak pa wt cd ln ao ov) sz) (pw_I D 0 (WL cy qa P T S nw hz ak pa wt cd ln ao ov) (WL cy qa o.2.1 T o.2.2.1 o.2.2.2.1 o.2.2.2.2 ak pa wt cd ln ao (vp_updL ov (0 : Int32).toNatClampNeg o.1.toInt64)) sz) (fun _ _ _ => False) 0 0 (va_A (WL cy qa P T S nw hz ak pa wt cd ln ao ov) sz) := by
  refine pw_metW (cc := cL_pass) (maxL := 4) (ret := (some .int)) (hh := [(0, 9, 12, 34), (0, 9, 15, 15)]) (by decide) rfl (Nat.le_of_ble_eq_true rfl) ?_
  intro p e s m args below meth c ls A hx hb hr hml hlk hts hown hAe hA hK hP hD hS hl htab hE
  have hl : lv_has ls 4 [(0, .ref (qa 0 0)), (1, .int x1), (2, .ref ao)] := hl
  have hF : CallFix p m c cL_pass 4 s args aL_pass RL := ⟨hx, hb, hml, hown, hts⟩
  have hta : ∀ w ∈ pw_all, w.before args s = true := fun w h => hts w (List.mem_cons_of_mem _ h)
  refine lv_aload_n hx hb dL_pass_0 rfl (lv_at hl 2 rfl) ?_
  refine lv_iconst (v := 0) hx hb dL_pass_1 (by decide) ?_
  refine lv_aload_n hx hb dL_pass_2 rfl (lv_at hl 0 rfl) ?_
  refine lv_iload_n hx hb dL_pass_3 rfl (lv_at hl 1 rfl) ?_
  refine pw_fi (ws0 := WL cy qa P T S nw hz ak pa wt cd ln ao ov) (ws1 := W3 cy qa o.2.1 T o.2.2.1 o.2.2.2.1 o.2.2.2.2 ak pa wt cd ln ++ [(ao, .inl (cy 3, 1, .inr (.inl ov)))]) (wa := []) (wb := [(ao, .inl (cy 3, 1, .inr (.inl ov)))]) (wc := W3 cy qa P T S nw hz ak pa wt cd ln) (w1 := W3 cy qa o.2.1 T o.2.2.1 o.2.2.2.1 o.2.2.2.2 ak pa wt cd ln) (rest := [.int 0, .ref ao]) (As := [.int x1]) hF (kX3_pass l D cy qa _ P T S nw hz ak pa wt cd ln x1 o h) (cwV 1 hts (pw_gV (own := RL) (idx := 36) (C := RX3) (y := yX3_pass) aw_556 aw_557 aw_558 aw_1 aw_559) rfl rfl rfl pX3_pass ⟨Nat.le_of_ble_eq_true rfl, Nat.le_of_ble_eq_true rfl⟩) 3 (RX3, TX3, 7) rfl rfl ⟨0, _, rfl⟩ hK hP hD hS hA rfl rfl rfl rfl hl.1 rfl (Nat.le_of_ble_eq_true rfl) dL_pass_4 ⟨Nat.zero_le _, Nat.zero_le _⟩ (fun H locs hP hD hS => ?_)
  refine lv_i2l (v := o.1.toInt64) hx hb dL_pass_7 rfl ?_
  refine va_last hx hb hK hP hD hS 128 3 rfl rfl (pq_vp (by decide +kernel)) dL_pass_8 (fun H locs hP hD hS => ?_)
  have hP : va_P D vwCl (WL cy qa o.2.1 T o.2.2.1 o.2.2.2.1 o.2.2.2.2 ak pa wt cd ln ao (vp_updL ov (0 : Int32).toNatClampNeg o.1.toInt64)) H := hP
  refine lv_goto (tgt := 18) hx hb dL_pass_9 (by decide) ?_
  refine lv_iconst (v := 0) hx hb dL_pass_18 (by decide) ?_
  exact vx_ret (pw_ri hx hb hr hlk hAe hP hS rfl dL_pass_19)
set_option maxHeartbeats 8000000 in
set_option maxRecDepth 100000 in
theorem kL_pass_t3 (l : Launch) (hfl : l.stackTraces = false) (D : va_G) (cy : Nat → ClassId) (qa : Nat → Nat → Nat) (sz : Nat) (P : Nat → Nat → Int32) (T : Nat → Nat → Int32) (S : Nat → Nat → Nat → Int32) (nw : Int32) (hz : Int32) (ak : Nat → Int32) (pa : Nat → Int32) (wt : Nat → Int32) (cd : Nat → Int32) (ln : Int32) (ao : Nat) (ov : Nat → Int64) (x1 : Int32) (h : fX3_pass x1 P S nw hz = some (Sum.inl 3)) : vx_Met l yL_pass aL_pass ({ frames := 7, cells := 1, slots := 6, locals := 137 } : Room) (pw_PreE D cy [.ref (qa 0 0), .int x1, .ref ao] (WL cy qa P T S nw hz ak pa wt cd ln ao ov) sz) (pw_I D 1 (WL cy qa P T S nw hz ak pa wt cd ln ao ov) (WL cy qa P T S nw hz ak pa wt cd ln ao ov) sz) (fun _ _ _ => False) 1 6 (va_A (WL cy qa P T S nw hz ak pa wt cd ln ao ov) sz) := by
  refine pw_metW (cc := cL_pass) (maxL := 4) (ret := (some .int)) (hh := [(0, 9, 12, 34), (0, 9, 15, 15)]) (by decide) rfl (Nat.le_of_ble_eq_true rfl) ?_
  intro p e s m args below meth c ls A hx hb hr hml hlk hts hown hAe hA hK hP hD hS hl htab hE
  have hl : lv_has ls 4 [(0, .ref (qa 0 0)), (1, .int x1), (2, .ref ao)] := hl
  have hF : CallFix p m c cL_pass 4 s args aL_pass RL := ⟨hx, hb, hml, hown, hts⟩
  have hta : ∀ w ∈ pw_all, w.before args s = true := fun w h => hts w (List.mem_cons_of_mem _ h)
  refine lv_aload_n hx hb dL_pass_0 rfl (lv_at hl 2 rfl) ?_
  refine lv_iconst (v := 0) hx hb dL_pass_1 (by decide) ?_
  refine lv_aload_n hx hb dL_pass_2 rfl (lv_at hl 0 rfl) ?_
  refine lv_iload_n hx hb dL_pass_3 rfl (lv_at hl 1 rfl) ?_
  refine pw_cT (ws0 := WL cy qa P T S nw hz ak pa wt cd ln ao ov) (wa := []) (wb := [(ao, .inl (cy 3, 1, .inr (.inl ov)))]) (wc := W3 cy qa P T S nw hz ak pa wt cd ln) (rest := [.int 0, .ref ao]) (As := [.int x1]) hF (kX3_pass_t l hfl D cy qa _ P T S nw hz ak pa wt cd ln x1 3 h) (cwV 1 hts (pw_gV (own := RL) (idx := 36) (C := RX3) (y := yX3_pass) aw_556 aw_557 aw_558 aw_1 aw_559) rfl rfl rfl pX3_pass ⟨Nat.le_of_ble_eq_true rfl, Nat.le_of_ble_eq_true rfl⟩) 3 (RX3, TX3, 7) rfl rfl ⟨0, _, rfl⟩ hK hP hD hS hA hE rfl rfl hl.1 rfl (Nat.le_of_ble_eq_true rfl) dL_pass_4 (Nat.le_of_ble_eq_true rfl) (Nat.le_of_ble_eq_true rfl) (fun E ce q9 H locs hEk hP hD hS hce hcv hfc => ?_)
  subst hEk
  refine vx_catch (name := "java/lang/IllegalArgumentException") hown [] ⟨0, 9, 12, 34⟩ [⟨0, 9, 15, 15⟩] (by rw [htab]; rfl) (fun z hz => by cases hz) (by decide) (by decide) (hta _ aw_535) (va_Nw.use rfl (hE.1 (.castable (pw_ex 3) "java/lang/IllegalArgumentException") (by decide +kernel))) hce hcv hfc ?_
  refine lv_astore_n (lv' := [(3, .ref q9), (0, .ref (qa 0 0)), (1, .int x1), (2, .ref ao)]) hx hb dL_pass_12 rfl hl (by decide) rfl (fun ls hl => ?_)
  refine lv_iconst (v := 1) hx hb dL_pass_13 (by decide) ?_
  exact vx_ret (pw_ri hx hb hr hlk hAe hP hS rfl dL_pass_14)
set_option maxHeartbeats 8000000 in
set_option maxRecDepth 100000 in
theorem kL_pass_t2 (l : Launch) (hfl : l.stackTraces = false) (D : va_G) (cy : Nat → ClassId) (qa : Nat → Nat → Nat) (sz : Nat) (P : Nat → Nat → Int32) (T : Nat → Nat → Int32) (S : Nat → Nat → Nat → Int32) (nw : Int32) (hz : Int32) (ak : Nat → Int32) (pa : Nat → Int32) (wt : Nat → Int32) (cd : Nat → Int32) (ln : Int32) (ao : Nat) (ov : Nat → Int64) (x1 : Int32) (h : fX3_pass x1 P S nw hz = some (Sum.inl 2)) : vx_Met l yL_pass aL_pass ({ frames := 7, cells := 1, slots := 6, locals := 137 } : Room) (pw_PreE D cy [.ref (qa 0 0), .int x1, .ref ao] (WL cy qa P T S nw hz ak pa wt cd ln ao ov) sz) (pw_I D 2 (WL cy qa P T S nw hz ak pa wt cd ln ao ov) (WL cy qa P T S nw hz ak pa wt cd ln ao ov) sz) (fun _ _ _ => False) 1 6 (va_A (WL cy qa P T S nw hz ak pa wt cd ln ao ov) sz) := by
  refine pw_metW (cc := cL_pass) (maxL := 4) (ret := (some .int)) (hh := [(0, 9, 12, 34), (0, 9, 15, 15)]) (by decide) rfl (Nat.le_of_ble_eq_true rfl) ?_
  intro p e s m args below meth c ls A hx hb hr hml hlk hts hown hAe hA hK hP hD hS hl htab hE
  have hl : lv_has ls 4 [(0, .ref (qa 0 0)), (1, .int x1), (2, .ref ao)] := hl
  have hF : CallFix p m c cL_pass 4 s args aL_pass RL := ⟨hx, hb, hml, hown, hts⟩
  have hta : ∀ w ∈ pw_all, w.before args s = true := fun w h => hts w (List.mem_cons_of_mem _ h)
  refine lv_aload_n hx hb dL_pass_0 rfl (lv_at hl 2 rfl) ?_
  refine lv_iconst (v := 0) hx hb dL_pass_1 (by decide) ?_
  refine lv_aload_n hx hb dL_pass_2 rfl (lv_at hl 0 rfl) ?_
  refine lv_iload_n hx hb dL_pass_3 rfl (lv_at hl 1 rfl) ?_
  refine pw_cT (ws0 := WL cy qa P T S nw hz ak pa wt cd ln ao ov) (wa := []) (wb := [(ao, .inl (cy 3, 1, .inr (.inl ov)))]) (wc := W3 cy qa P T S nw hz ak pa wt cd ln) (rest := [.int 0, .ref ao]) (As := [.int x1]) hF (kX3_pass_t l hfl D cy qa _ P T S nw hz ak pa wt cd ln x1 2 h) (cwV 1 hts (pw_gV (own := RL) (idx := 36) (C := RX3) (y := yX3_pass) aw_556 aw_557 aw_558 aw_1 aw_559) rfl rfl rfl pX3_pass ⟨Nat.le_of_ble_eq_true rfl, Nat.le_of_ble_eq_true rfl⟩) 3 (RX3, TX3, 7) rfl rfl ⟨0, _, rfl⟩ hK hP hD hS hA hE rfl rfl hl.1 rfl (Nat.le_of_ble_eq_true rfl) dL_pass_4 (Nat.le_of_ble_eq_true rfl) (Nat.le_of_ble_eq_true rfl) (fun E ce q9 H locs hEk hP hD hS hce hcv hfc => ?_)
  subst hEk
  refine vx_catch (name := "java/lang/IllegalStateException") hown [⟨0, 9, 12, 34⟩] ⟨0, 9, 15, 15⟩ [] (by rw [htab]; rfl) (fun z hz => by
    rcases List.mem_singleton.mp hz with rfl
    exact Or.inr ⟨by decide, "java/lang/IllegalArgumentException", hta _ aw_535, hE.2.2.2.2.1 _ (by decide +kernel) _ (by decide +kernel) (by decide +kernel)⟩) (by decide) (by decide) (hta _ aw_431) (va_Nw.use rfl (hE.1 (.castable (pw_ex 2) "java/lang/IllegalStateException") (by decide +kernel))) hce hcv hfc ?_
  refine lv_astore_n (lv' := [(3, .ref q9), (0, .ref (qa 0 0)), (1, .int x1), (2, .ref ao)]) hx hb dL_pass_15 rfl hl (by decide) rfl (fun ls hl => ?_)
  refine lv_iconst (v := 2) hx hb dL_pass_16 (by decide) ?_
  exact vx_ret (pw_ri hx hb hr hlk hAe hP hS rfl dL_pass_17)
def aL_append : List Cond := Cond.codeWith yL_append cL_append 4 (some .int) [(0, 9, 12, 34), (0, 9, 15, 15)] :: pw_all
theorem pL_append : yL_append.cls ≠ "java/lang/invoke/MethodHandle" ∧ yL_append.cls ≠ "java/lang/invoke/VarHandle" ∧ (parseMethodDescriptor yL_append.desc).map (fun d => d.parameters.length) = some 3 := by decide +kernel
set_option maxHeartbeats 8000000 in
set_option maxRecDepth 100000 in
theorem kL_append_r (l : Launch) (hfl : l.stackTraces = false) (D : va_G) (cy : Nat → ClassId) (qa : Nat → Nat → Nat) (sz : Nat) (P : Nat → Nat → Int32) (T : Nat → Nat → Int32) (S : Nat → Nat → Nat → Int32) (nw : Int32) (hz : Int32) (ak : Nat → Int32) (pa : Nat → Int32) (wt : Nat → Int32) (cd : Nat → Int32) (ln : Int32) (ao : Nat) (ov : Nat → Int64) (x1 : Int32) (o : Int32 × (Nat → Int32) × Int32) (h : fX3_append x1 cd ln = some (Sum.inr o)) : vx_Met l yL_append aL_append ({ frames := 3, cells := 0, slots := 0, locals := 62 } : Room) (pw_PreE D cy [.ref (qa 0 0), .int x1, .ref ao] (WL cy qa P T S nw hz ak pa wt cd ln ao ov) sz) (pw_I D 0 (WL cy qa P T S nw hz ak pa wt cd ln ao ov) (WL cy qa P T S nw hz ak pa wt o.2.1 o.2.2 ao (vp_updL ov (0 : Int32).toNatClampNeg o.1.toInt64)) sz) (fun _ _ _ => False) 0 0 (va_A (WL cy qa P T S nw hz ak pa wt cd ln ao ov) sz) := by
  refine pw_metW (cc := cL_append) (maxL := 4) (ret := (some .int)) (hh := [(0, 9, 12, 34), (0, 9, 15, 15)]) (by decide) rfl (Nat.le_of_ble_eq_true rfl) ?_
  intro p e s m args below meth c ls A hx hb hr hml hlk hts hown hAe hA hK hP hD hS hl htab hE
  have hl : lv_has ls 4 [(0, .ref (qa 0 0)), (1, .int x1), (2, .ref ao)] := hl
  have hF : CallFix p m c cL_append 4 s args aL_append RL := ⟨hx, hb, hml, hown, hts⟩
  have hta : ∀ w ∈ pw_all, w.before args s = true := fun w h => hts w (List.mem_cons_of_mem _ h)
  refine lv_aload_n hx hb dL_append_0 rfl (lv_at hl 2 rfl) ?_
  refine lv_iconst (v := 0) hx hb dL_append_1 (by decide) ?_
  refine lv_aload_n hx hb dL_append_2 rfl (lv_at hl 0 rfl) ?_
  refine lv_iload_n hx hb dL_append_3 rfl (lv_at hl 1 rfl) ?_
  refine pw_fi (ws0 := WL cy qa P T S nw hz ak pa wt cd ln ao ov) (ws1 := W3 cy qa P T S nw hz ak pa wt o.2.1 o.2.2 ++ [(ao, .inl (cy 3, 1, .inr (.inl ov)))]) (wa := []) (wb := [(ao, .inl (cy 3, 1, .inr (.inl ov)))]) (wc := W3 cy qa P T S nw hz ak pa wt cd ln) (w1 := W3 cy qa P T S nw hz ak pa wt o.2.1 o.2.2) (rest := [.int 0, .ref ao]) (As := [.int x1]) hF (kX3_append l D cy qa _ P T S nw hz ak pa wt cd ln x1 o h) (cwV 1 hts (pw_gV (own := RL) (idx := 39) (C := RX3) (y := yX3_append) aw_569 aw_570 aw_571 aw_1 aw_572) rfl rfl rfl pX3_append ⟨Nat.le_of_ble_eq_true rfl, Nat.le_of_ble_eq_true rfl⟩) 3 (RX3, TX3, 7) rfl rfl ⟨0, _, rfl⟩ hK hP hD hS hA rfl rfl rfl rfl hl.1 rfl (Nat.le_of_ble_eq_true rfl) dL_append_4 ⟨Nat.zero_le _, Nat.zero_le _⟩ (fun H locs hP hD hS => ?_)
  refine lv_i2l (v := o.1.toInt64) hx hb dL_append_7 rfl ?_
  refine va_last hx hb hK hP hD hS 128 3 rfl rfl (pq_vp (by decide +kernel)) dL_append_8 (fun H locs hP hD hS => ?_)
  have hP : va_P D vwCl (WL cy qa P T S nw hz ak pa wt o.2.1 o.2.2 ao (vp_updL ov (0 : Int32).toNatClampNeg o.1.toInt64)) H := hP
  refine lv_goto (tgt := 18) hx hb dL_append_9 (by decide) ?_
  refine lv_iconst (v := 0) hx hb dL_append_18 (by decide) ?_
  exact vx_ret (pw_ri hx hb hr hlk hAe hP hS rfl dL_append_19)
set_option maxHeartbeats 8000000 in
set_option maxRecDepth 100000 in
theorem kL_append_t3 (l : Launch) (hfl : l.stackTraces = false) (D : va_G) (cy : Nat → ClassId) (qa : Nat → Nat → Nat) (sz : Nat) (P : Nat → Nat → Int32) (T : Nat → Nat → Int32) (S : Nat → Nat → Nat → Int32) (nw : Int32) (hz : Int32) (ak : Nat → Int32) (pa : Nat → Int32) (wt : Nat → Int32) (cd : Nat → Int32) (ln : Int32) (ao : Nat) (ov : Nat → Int64) (x1 : Int32) (h : fX3_append x1 cd ln = some (Sum.inl 3)) : vx_Met l yL_append aL_append ({ frames := 7, cells := 1, slots := 6, locals := 111 } : Room) (pw_PreE D cy [.ref (qa 0 0), .int x1, .ref ao] (WL cy qa P T S nw hz ak pa wt cd ln ao ov) sz) (pw_I D 1 (WL cy qa P T S nw hz ak pa wt cd ln ao ov) (WL cy qa P T S nw hz ak pa wt cd ln ao ov) sz) (fun _ _ _ => False) 1 6 (va_A (WL cy qa P T S nw hz ak pa wt cd ln ao ov) sz) := by
  refine pw_metW (cc := cL_append) (maxL := 4) (ret := (some .int)) (hh := [(0, 9, 12, 34), (0, 9, 15, 15)]) (by decide) rfl (Nat.le_of_ble_eq_true rfl) ?_
  intro p e s m args below meth c ls A hx hb hr hml hlk hts hown hAe hA hK hP hD hS hl htab hE
  have hl : lv_has ls 4 [(0, .ref (qa 0 0)), (1, .int x1), (2, .ref ao)] := hl
  have hF : CallFix p m c cL_append 4 s args aL_append RL := ⟨hx, hb, hml, hown, hts⟩
  have hta : ∀ w ∈ pw_all, w.before args s = true := fun w h => hts w (List.mem_cons_of_mem _ h)
  refine lv_aload_n hx hb dL_append_0 rfl (lv_at hl 2 rfl) ?_
  refine lv_iconst (v := 0) hx hb dL_append_1 (by decide) ?_
  refine lv_aload_n hx hb dL_append_2 rfl (lv_at hl 0 rfl) ?_
  refine lv_iload_n hx hb dL_append_3 rfl (lv_at hl 1 rfl) ?_
  refine pw_cT (ws0 := WL cy qa P T S nw hz ak pa wt cd ln ao ov) (wa := []) (wb := [(ao, .inl (cy 3, 1, .inr (.inl ov)))]) (wc := W3 cy qa P T S nw hz ak pa wt cd ln) (rest := [.int 0, .ref ao]) (As := [.int x1]) hF (kX3_append_t l hfl D cy qa _ P T S nw hz ak pa wt cd ln x1 3 h) (cwV 1 hts (pw_gV (own := RL) (idx := 39) (C := RX3) (y := yX3_append) aw_569 aw_570 aw_571 aw_1 aw_572) rfl rfl rfl pX3_append ⟨Nat.le_of_ble_eq_true rfl, Nat.le_of_ble_eq_true rfl⟩) 3 (RX3, TX3, 7) rfl rfl ⟨0, _, rfl⟩ hK hP hD hS hA hE rfl rfl hl.1 rfl (Nat.le_of_ble_eq_true rfl) dL_append_4 (Nat.le_of_ble_eq_true rfl) (Nat.le_of_ble_eq_true rfl) (fun E ce q9 H locs hEk hP hD hS hce hcv hfc => ?_)
  subst hEk
  refine vx_catch (name := "java/lang/IllegalArgumentException") hown [] ⟨0, 9, 12, 34⟩ [⟨0, 9, 15, 15⟩] (by rw [htab]; rfl) (fun z hz => by cases hz) (by decide) (by decide) (hta _ aw_535) (va_Nw.use rfl (hE.1 (.castable (pw_ex 3) "java/lang/IllegalArgumentException") (by decide +kernel))) hce hcv hfc ?_
  refine lv_astore_n (lv' := [(3, .ref q9), (0, .ref (qa 0 0)), (1, .int x1), (2, .ref ao)]) hx hb dL_append_12 rfl hl (by decide) rfl (fun ls hl => ?_)
  refine lv_iconst (v := 1) hx hb dL_append_13 (by decide) ?_
  exact vx_ret (pw_ri hx hb hr hlk hAe hP hS rfl dL_append_14)
set_option maxHeartbeats 8000000 in
set_option maxRecDepth 100000 in
theorem kL_append_t2 (l : Launch) (hfl : l.stackTraces = false) (D : va_G) (cy : Nat → ClassId) (qa : Nat → Nat → Nat) (sz : Nat) (P : Nat → Nat → Int32) (T : Nat → Nat → Int32) (S : Nat → Nat → Nat → Int32) (nw : Int32) (hz : Int32) (ak : Nat → Int32) (pa : Nat → Int32) (wt : Nat → Int32) (cd : Nat → Int32) (ln : Int32) (ao : Nat) (ov : Nat → Int64) (x1 : Int32) (h : fX3_append x1 cd ln = some (Sum.inl 2)) : vx_Met l yL_append aL_append ({ frames := 7, cells := 1, slots := 6, locals := 111 } : Room) (pw_PreE D cy [.ref (qa 0 0), .int x1, .ref ao] (WL cy qa P T S nw hz ak pa wt cd ln ao ov) sz) (pw_I D 2 (WL cy qa P T S nw hz ak pa wt cd ln ao ov) (WL cy qa P T S nw hz ak pa wt cd ln ao ov) sz) (fun _ _ _ => False) 1 6 (va_A (WL cy qa P T S nw hz ak pa wt cd ln ao ov) sz) := by
  refine pw_metW (cc := cL_append) (maxL := 4) (ret := (some .int)) (hh := [(0, 9, 12, 34), (0, 9, 15, 15)]) (by decide) rfl (Nat.le_of_ble_eq_true rfl) ?_
  intro p e s m args below meth c ls A hx hb hr hml hlk hts hown hAe hA hK hP hD hS hl htab hE
  have hl : lv_has ls 4 [(0, .ref (qa 0 0)), (1, .int x1), (2, .ref ao)] := hl
  have hF : CallFix p m c cL_append 4 s args aL_append RL := ⟨hx, hb, hml, hown, hts⟩
  have hta : ∀ w ∈ pw_all, w.before args s = true := fun w h => hts w (List.mem_cons_of_mem _ h)
  refine lv_aload_n hx hb dL_append_0 rfl (lv_at hl 2 rfl) ?_
  refine lv_iconst (v := 0) hx hb dL_append_1 (by decide) ?_
  refine lv_aload_n hx hb dL_append_2 rfl (lv_at hl 0 rfl) ?_
  refine lv_iload_n hx hb dL_append_3 rfl (lv_at hl 1 rfl) ?_
  refine pw_cT (ws0 := WL cy qa P T S nw hz ak pa wt cd ln ao ov) (wa := []) (wb := [(ao, .inl (cy 3, 1, .inr (.inl ov)))]) (wc := W3 cy qa P T S nw hz ak pa wt cd ln) (rest := [.int 0, .ref ao]) (As := [.int x1]) hF (kX3_append_t l hfl D cy qa _ P T S nw hz ak pa wt cd ln x1 2 h) (cwV 1 hts (pw_gV (own := RL) (idx := 39) (C := RX3) (y := yX3_append) aw_569 aw_570 aw_571 aw_1 aw_572) rfl rfl rfl pX3_append ⟨Nat.le_of_ble_eq_true rfl, Nat.le_of_ble_eq_true rfl⟩) 3 (RX3, TX3, 7) rfl rfl ⟨0, _, rfl⟩ hK hP hD hS hA hE rfl rfl hl.1 rfl (Nat.le_of_ble_eq_true rfl) dL_append_4 (Nat.le_of_ble_eq_true rfl) (Nat.le_of_ble_eq_true rfl) (fun E ce q9 H locs hEk hP hD hS hce hcv hfc => ?_)
  subst hEk
  refine vx_catch (name := "java/lang/IllegalStateException") hown [⟨0, 9, 12, 34⟩] ⟨0, 9, 15, 15⟩ [] (by rw [htab]; rfl) (fun z hz => by
    rcases List.mem_singleton.mp hz with rfl
    exact Or.inr ⟨by decide, "java/lang/IllegalArgumentException", hta _ aw_535, hE.2.2.2.2.1 _ (by decide +kernel) _ (by decide +kernel) (by decide +kernel)⟩) (by decide) (by decide) (hta _ aw_431) (va_Nw.use rfl (hE.1 (.castable (pw_ex 2) "java/lang/IllegalStateException") (by decide +kernel))) hce hcv hfc ?_
  refine lv_astore_n (lv' := [(3, .ref q9), (0, .ref (qa 0 0)), (1, .int x1), (2, .ref ao)]) hx hb dL_append_15 rfl hl (by decide) rfl (fun ls hl => ?_)
  refine lv_iconst (v := 2) hx hb dL_append_16 (by decide) ?_
  exact vx_ret (pw_ri hx hb hr hlk hAe hP hS rfl dL_append_17)
def aL_run : List Cond := Cond.codeWith yL_run cL_run 3 (some .int) [(0, 8, 11, 34)] :: pw_all
theorem pL_run : yL_run.cls ≠ "java/lang/invoke/MethodHandle" ∧ yL_run.cls ≠ "java/lang/invoke/VarHandle" ∧ (parseMethodDescriptor yL_run.desc).map (fun d => d.parameters.length) = some 2 := by decide +kernel
set_option maxHeartbeats 8000000 in
set_option maxRecDepth 100000 in
theorem kL_run_r (l : Launch) (hfl : l.stackTraces = false) (D : va_G) (cy : Nat → ClassId) (qa : Nat → Nat → Nat) (sz : Nat) (P : Nat → Nat → Int32) (T : Nat → Nat → Int32) (S : Nat → Nat → Nat → Int32) (nw : Int32) (hz : Int32) (ak : Nat → Int32) (pa : Nat → Int32) (wt : Nat → Int32) (cd : Nat → Int32) (ln : Int32) (ao : Nat) (ov : Nat → Int64)  (o : Int32 × (Nat → Nat → Int32) × (Nat → Nat → Nat → Int32) × Int32 × Int32 × Int32) (h : fX3_run P S nw hz cd ln = some (Sum.inr o)) : vx_Met l yL_run aL_run ({ frames := 7, cells := 0, slots := 0, locals := 160 } : Room) (pw_PreE D cy [.ref (qa 0 0), .ref ao] (WL cy qa P T S nw hz ak pa wt cd ln ao ov) sz) (pw_I D 0 (WL cy qa P T S nw hz ak pa wt cd ln ao ov) (WL cy qa o.2.1 T o.2.2.1 o.2.2.2.1 o.2.2.2.2.1 ak pa wt cd o.2.2.2.2.2 ao (vp_updL ov (0 : Int32).toNatClampNeg o.1.toInt64)) sz) (fun _ _ _ => False) 0 0 (va_A (WL cy qa P T S nw hz ak pa wt cd ln ao ov) sz) := by
  refine pw_metW (cc := cL_run) (maxL := 3) (ret := (some .int)) (hh := [(0, 8, 11, 34)]) (by decide) rfl (Nat.le_of_ble_eq_true rfl) ?_
  intro p e s m args below meth c ls A hx hb hr hml hlk hts hown hAe hA hK hP hD hS hl htab hE
  have hl : lv_has ls 3 [(0, .ref (qa 0 0)), (1, .ref ao)] := hl
  have hF : CallFix p m c cL_run 3 s args aL_run RL := ⟨hx, hb, hml, hown, hts⟩
  have hta : ∀ w ∈ pw_all, w.before args s = true := fun w h => hts w (List.mem_cons_of_mem _ h)
  refine lv_aload_n hx hb dL_run_0 rfl (lv_at hl 1 rfl) ?_
  refine lv_iconst (v := 0) hx hb dL_run_1 (by decide) ?_
  refine lv_aload_n hx hb dL_run_2 rfl (lv_at hl 0 rfl) ?_
  refine pw_fi (ws0 := WL cy qa P T S nw hz ak pa wt cd ln ao ov) (ws1 := W3 cy qa o.2.1 T o.2.2.1 o.2.2.2.1 o.2.2.2.2.1 ak pa wt cd o.2.2.2.2.2 ++ [(ao, .inl (cy 3, 1, .inr (.inl ov)))]) (wa := []) (wb := [(ao, .inl (cy 3, 1, .inr (.inl ov)))]) (wc := W3 cy qa P T S nw hz ak pa wt cd ln) (w1 := W3 cy qa o.2.1 T o.2.2.1 o.2.2.2.1 o.2.2.2.2.1 ak pa wt cd o.2.2.2.2.2) (rest := [.int 0, .ref ao]) (As := []) hF (kX3_run l D cy qa _ P T S nw hz ak pa wt cd ln  o h) (cwV 0 hts (pw_gV (own := RL) (idx := 42) (C := RX3) (y := yX3_run) aw_587 aw_588 aw_589 aw_1 aw_590) rfl rfl rfl pX3_run ⟨Nat.le_of_ble_eq_true rfl, Nat.le_of_ble_eq_true rfl⟩) 3 (RX3, TX3, 7) rfl rfl ⟨0, _, rfl⟩ hK hP hD hS hA rfl rfl rfl rfl hl.1 rfl (Nat.le_of_ble_eq_true rfl) dL_run_3 ⟨Nat.zero_le _, Nat.zero_le _⟩ (fun H locs hP hD hS => ?_)
  refine lv_i2l (v := o.1.toInt64) hx hb dL_run_6 rfl ?_
  refine va_last hx hb hK hP hD hS 128 3 rfl rfl (pq_vp (by decide +kernel)) dL_run_7 (fun H locs hP hD hS => ?_)
  have hP : va_P D vwCl (WL cy qa o.2.1 T o.2.2.1 o.2.2.2.1 o.2.2.2.2.1 ak pa wt cd o.2.2.2.2.2 ao (vp_updL ov (0 : Int32).toNatClampNeg o.1.toInt64)) H := hP
  refine lv_goto (tgt := 14) hx hb dL_run_8 (by decide) ?_
  refine lv_iconst (v := 0) hx hb dL_run_14 (by decide) ?_
  exact vx_ret (pw_ri hx hb hr hlk hAe hP hS rfl dL_run_15)
set_option maxHeartbeats 8000000 in
set_option maxRecDepth 100000 in
theorem kL_run_t3 (l : Launch) (hfl : l.stackTraces = false) (D : va_G) (cy : Nat → ClassId) (qa : Nat → Nat → Nat) (sz : Nat) (P : Nat → Nat → Int32) (T : Nat → Nat → Int32) (S : Nat → Nat → Nat → Int32) (nw : Int32) (hz : Int32) (ak : Nat → Int32) (pa : Nat → Int32) (wt : Nat → Int32) (cd : Nat → Int32) (ln : Int32) (ao : Nat) (ov : Nat → Int64)  (h : fX3_run P S nw hz cd ln = some (Sum.inl 3)) : vx_Met l yL_run aL_run ({ frames := 7, cells := 1, slots := 6, locals := 160 } : Room) (pw_PreE D cy [.ref (qa 0 0), .ref ao] (WL cy qa P T S nw hz ak pa wt cd ln ao ov) sz) (pw_I D 1 (WL cy qa P T S nw hz ak pa wt cd ln ao ov) (WL cy qa P T S nw hz ak pa wt cd ln ao ov) sz) (fun _ _ _ => False) 1 6 (va_A (WL cy qa P T S nw hz ak pa wt cd ln ao ov) sz) := by
  refine pw_metW (cc := cL_run) (maxL := 3) (ret := (some .int)) (hh := [(0, 8, 11, 34)]) (by decide) rfl (Nat.le_of_ble_eq_true rfl) ?_
  intro p e s m args below meth c ls A hx hb hr hml hlk hts hown hAe hA hK hP hD hS hl htab hE
  have hl : lv_has ls 3 [(0, .ref (qa 0 0)), (1, .ref ao)] := hl
  have hF : CallFix p m c cL_run 3 s args aL_run RL := ⟨hx, hb, hml, hown, hts⟩
  have hta : ∀ w ∈ pw_all, w.before args s = true := fun w h => hts w (List.mem_cons_of_mem _ h)
  refine lv_aload_n hx hb dL_run_0 rfl (lv_at hl 1 rfl) ?_
  refine lv_iconst (v := 0) hx hb dL_run_1 (by decide) ?_
  refine lv_aload_n hx hb dL_run_2 rfl (lv_at hl 0 rfl) ?_
  refine pw_cT (ws0 := WL cy qa P T S nw hz ak pa wt cd ln ao ov) (wa := []) (wb := [(ao, .inl (cy 3, 1, .inr (.inl ov)))]) (wc := W3 cy qa P T S nw hz ak pa wt cd ln) (rest := [.int 0, .ref ao]) (As := []) hF (kX3_run_t l hfl D cy qa _ P T S nw hz ak pa wt cd ln  3 h) (cwV 0 hts (pw_gV (own := RL) (idx := 42) (C := RX3) (y := yX3_run) aw_587 aw_588 aw_589 aw_1 aw_590) rfl rfl rfl pX3_run ⟨Nat.le_of_ble_eq_true rfl, Nat.le_of_ble_eq_true rfl⟩) 3 (RX3, TX3, 7) rfl rfl ⟨0, _, rfl⟩ hK hP hD hS hA hE rfl rfl hl.1 rfl (Nat.le_of_ble_eq_true rfl) dL_run_3 (Nat.le_of_ble_eq_true rfl) (Nat.le_of_ble_eq_true rfl) (fun E ce q9 H locs hEk hP hD hS hce hcv hfc => ?_)
  subst hEk
  refine vx_catch (name := "java/lang/IllegalArgumentException") hown [] ⟨0, 8, 11, 34⟩ [] (by rw [htab]; rfl) (fun z hz => by cases hz) (by decide) (by decide) (hta _ aw_535) (va_Nw.use rfl (hE.1 (.castable (pw_ex 3) "java/lang/IllegalArgumentException") (by decide +kernel))) hce hcv hfc ?_
  refine lv_astore_n (lv' := [(2, .ref q9), (0, .ref (qa 0 0)), (1, .ref ao)]) hx hb dL_run_11 rfl hl (by decide) rfl (fun ls hl => ?_)
  refine lv_iconst (v := 1) hx hb dL_run_12 (by decide) ?_
  exact vx_ret (pw_ri hx hb hr hlk hAe hP hS rfl dL_run_13)
def aL_undo : List Cond := Cond.codeWith yL_undo cL_undo 3 (some .int) [(0, 8, 11, 15)] :: pw_all
theorem pL_undo : yL_undo.cls ≠ "java/lang/invoke/MethodHandle" ∧ yL_undo.cls ≠ "java/lang/invoke/VarHandle" ∧ (parseMethodDescriptor yL_undo.desc).map (fun d => d.parameters.length) = some 2 := by decide +kernel
set_option maxHeartbeats 8000000 in
set_option maxRecDepth 100000 in
theorem kL_undo_r (l : Launch) (hfl : l.stackTraces = false) (D : va_G) (cy : Nat → ClassId) (qa : Nat → Nat → Nat) (sz : Nat) (P : Nat → Nat → Int32) (T : Nat → Nat → Int32) (S : Nat → Nat → Nat → Int32) (nw : Int32) (hz : Int32) (ak : Nat → Int32) (pa : Nat → Int32) (wt : Nat → Int32) (cd : Nat → Int32) (ln : Int32) (ao : Nat) (ov : Nat → Int64)  (o : Int32 × (Nat → Nat → Int32) × Int32 × Int32) (h : fX3_undo P S nw hz = some (Sum.inr o)) : vx_Met l yL_undo aL_undo ({ frames := 4, cells := 0, slots := 0, locals := 131 } : Room) (pw_PreE D cy [.ref (qa 0 0), .ref ao] (WL cy qa P T S nw hz ak pa wt cd ln ao ov) sz) (pw_I D 0 (WL cy qa P T S nw hz ak pa wt cd ln ao ov) (WL cy qa o.2.1 T S o.2.2.1 o.2.2.2 ak pa wt cd ln ao (vp_updL ov (0 : Int32).toNatClampNeg o.1.toInt64)) sz) (fun _ _ _ => False) 0 0 (va_A (WL cy qa P T S nw hz ak pa wt cd ln ao ov) sz) := by
  refine pw_metW (cc := cL_undo) (maxL := 3) (ret := (some .int)) (hh := [(0, 8, 11, 15)]) (by decide) rfl (Nat.le_of_ble_eq_true rfl) ?_
  intro p e s m args below meth c ls A hx hb hr hml hlk hts hown hAe hA hK hP hD hS hl htab hE
  have hl : lv_has ls 3 [(0, .ref (qa 0 0)), (1, .ref ao)] := hl
  have hF : CallFix p m c cL_undo 3 s args aL_undo RL := ⟨hx, hb, hml, hown, hts⟩
  have hta : ∀ w ∈ pw_all, w.before args s = true := fun w h => hts w (List.mem_cons_of_mem _ h)
  refine lv_aload_n hx hb dL_undo_0 rfl (lv_at hl 1 rfl) ?_
  refine lv_iconst (v := 0) hx hb dL_undo_1 (by decide) ?_
  refine lv_aload_n hx hb dL_undo_2 rfl (lv_at hl 0 rfl) ?_
  refine pw_fi (ws0 := WL cy qa P T S nw hz ak pa wt cd ln ao ov) (ws1 := W3 cy qa o.2.1 T S o.2.2.1 o.2.2.2 ak pa wt cd ln ++ [(ao, .inl (cy 3, 1, .inr (.inl ov)))]) (wa := []) (wb := [(ao, .inl (cy 3, 1, .inr (.inl ov)))]) (wc := W3 cy qa P T S nw hz ak pa wt cd ln) (w1 := W3 cy qa o.2.1 T S o.2.2.1 o.2.2.2 ak pa wt cd ln) (rest := [.int 0, .ref ao]) (As := []) hF (kX3_undo l D cy qa _ P T S nw hz ak pa wt cd ln  o h) (cwV 0 hts (pw_gV (own := RL) (idx := 46) (C := RX3) (y := yX3_undo) aw_616 aw_617 aw_618 aw_1 aw_619) rfl rfl rfl pX3_undo ⟨Nat.le_of_ble_eq_true rfl, Nat.le_of_ble_eq_true rfl⟩) 3 (RX3, TX3, 7) rfl rfl ⟨0, _, rfl⟩ hK hP hD hS hA rfl rfl rfl rfl hl.1 rfl (Nat.le_of_ble_eq_true rfl) dL_undo_3 ⟨Nat.zero_le _, Nat.zero_le _⟩ (fun H locs hP hD hS => ?_)
  refine lv_i2l (v := o.1.toInt64) hx hb dL_undo_6 rfl ?_
  refine va_last hx hb hK hP hD hS 128 3 rfl rfl (pq_vp (by decide +kernel)) dL_undo_7 (fun H locs hP hD hS => ?_)
  have hP : va_P D vwCl (WL cy qa o.2.1 T S o.2.2.1 o.2.2.2 ak pa wt cd ln ao (vp_updL ov (0 : Int32).toNatClampNeg o.1.toInt64)) H := hP
  refine lv_goto (tgt := 14) hx hb dL_undo_8 (by decide) ?_
  refine lv_iconst (v := 0) hx hb dL_undo_14 (by decide) ?_
  exact vx_ret (pw_ri hx hb hr hlk hAe hP hS rfl dL_undo_15)
set_option maxHeartbeats 8000000 in
set_option maxRecDepth 100000 in
theorem kL_undo_t2 (l : Launch) (hfl : l.stackTraces = false) (D : va_G) (cy : Nat → ClassId) (qa : Nat → Nat → Nat) (sz : Nat) (P : Nat → Nat → Int32) (T : Nat → Nat → Int32) (S : Nat → Nat → Nat → Int32) (nw : Int32) (hz : Int32) (ak : Nat → Int32) (pa : Nat → Int32) (wt : Nat → Int32) (cd : Nat → Int32) (ln : Int32) (ao : Nat) (ov : Nat → Int64)  (h : fX3_undo P S nw hz = some (Sum.inl 2)) : vx_Met l yL_undo aL_undo ({ frames := 7, cells := 1, slots := 6, locals := 131 } : Room) (pw_PreE D cy [.ref (qa 0 0), .ref ao] (WL cy qa P T S nw hz ak pa wt cd ln ao ov) sz) (pw_I D 1 (WL cy qa P T S nw hz ak pa wt cd ln ao ov) (WL cy qa P T S nw hz ak pa wt cd ln ao ov) sz) (fun _ _ _ => False) 1 6 (va_A (WL cy qa P T S nw hz ak pa wt cd ln ao ov) sz) := by
  refine pw_metW (cc := cL_undo) (maxL := 3) (ret := (some .int)) (hh := [(0, 8, 11, 15)]) (by decide) rfl (Nat.le_of_ble_eq_true rfl) ?_
  intro p e s m args below meth c ls A hx hb hr hml hlk hts hown hAe hA hK hP hD hS hl htab hE
  have hl : lv_has ls 3 [(0, .ref (qa 0 0)), (1, .ref ao)] := hl
  have hF : CallFix p m c cL_undo 3 s args aL_undo RL := ⟨hx, hb, hml, hown, hts⟩
  have hta : ∀ w ∈ pw_all, w.before args s = true := fun w h => hts w (List.mem_cons_of_mem _ h)
  refine lv_aload_n hx hb dL_undo_0 rfl (lv_at hl 1 rfl) ?_
  refine lv_iconst (v := 0) hx hb dL_undo_1 (by decide) ?_
  refine lv_aload_n hx hb dL_undo_2 rfl (lv_at hl 0 rfl) ?_
  refine pw_cT (ws0 := WL cy qa P T S nw hz ak pa wt cd ln ao ov) (wa := []) (wb := [(ao, .inl (cy 3, 1, .inr (.inl ov)))]) (wc := W3 cy qa P T S nw hz ak pa wt cd ln) (rest := [.int 0, .ref ao]) (As := []) hF (kX3_undo_t l hfl D cy qa _ P T S nw hz ak pa wt cd ln  2 h) (cwV 0 hts (pw_gV (own := RL) (idx := 46) (C := RX3) (y := yX3_undo) aw_616 aw_617 aw_618 aw_1 aw_619) rfl rfl rfl pX3_undo ⟨Nat.le_of_ble_eq_true rfl, Nat.le_of_ble_eq_true rfl⟩) 3 (RX3, TX3, 7) rfl rfl ⟨0, _, rfl⟩ hK hP hD hS hA hE rfl rfl hl.1 rfl (Nat.le_of_ble_eq_true rfl) dL_undo_3 (Nat.le_of_ble_eq_true rfl) (Nat.le_of_ble_eq_true rfl) (fun E ce q9 H locs hEk hP hD hS hce hcv hfc => ?_)
  subst hEk
  refine vx_catch (name := "java/lang/IllegalStateException") hown [] ⟨0, 8, 11, 15⟩ [] (by rw [htab]; rfl) (fun z hz => by cases hz) (by decide) (by decide) (hta _ aw_431) (va_Nw.use rfl (hE.1 (.castable (pw_ex 2) "java/lang/IllegalStateException") (by decide +kernel))) hce hcv hfc ?_
  refine lv_astore_n (lv' := [(2, .ref q9), (0, .ref (qa 0 0)), (1, .ref ao)]) hx hb dL_undo_11 rfl hl (by decide) rfl (fun ls hl => ?_)
  refine lv_iconst (v := 1) hx hb dL_undo_12 (by decide) ?_
  exact vx_ret (pw_ri hx hb hr hlk hAe hP hS rfl dL_undo_13)
def aL_place : List Cond := Cond.codeWith yL_place cL_place 5 (some .int) [(0, 10, 13, 13), (0, 10, 17, 34)] :: pw_all
theorem pL_place : yL_place.cls ≠ "java/lang/invoke/MethodHandle" ∧ yL_place.cls ≠ "java/lang/invoke/VarHandle" ∧ (parseMethodDescriptor yL_place.desc).map (fun d => d.parameters.length) = some 4 := by decide +kernel
set_option maxHeartbeats 8000000 in
set_option maxRecDepth 100000 in
theorem kL_place_r (l : Launch) (hfl : l.stackTraces = false) (D : va_G) (cy : Nat → ClassId) (qa : Nat → Nat → Nat) (sz : Nat) (P : Nat → Nat → Int32) (T : Nat → Nat → Int32) (S : Nat → Nat → Nat → Int32) (nw : Int32) (hz : Int32) (ak : Nat → Int32) (pa : Nat → Int32) (wt : Nat → Int32) (cd : Nat → Int32) (ln : Int32) (ao : Nat) (ov : Nat → Int64) (x1 : Int32) (x2 : Int32) (o : Int32) (h : fX3_place x1 x2 P = some (Sum.inr o)) : vx_Met l yL_place aL_place ({ frames := 3, cells := 0, slots := 0, locals := 65 } : Room) (pw_PreE D cy [.ref (qa 0 0), .int x1, .int x2, .ref ao] (WL cy qa P T S nw hz ak pa wt cd ln ao ov) sz) (pw_I D 0 (WL cy qa P T S nw hz ak pa wt cd ln ao ov) (WL cy qa P T S nw hz ak pa wt cd ln ao (vp_updL ov (0 : Int32).toNatClampNeg o.toInt64)) sz) (fun _ _ _ => False) 0 0 (va_A (WL cy qa P T S nw hz ak pa wt cd ln ao ov) sz) := by
  refine pw_metW (cc := cL_place) (maxL := 5) (ret := (some .int)) (hh := [(0, 10, 13, 13), (0, 10, 17, 34)]) (by decide) rfl (Nat.le_of_ble_eq_true rfl) ?_
  intro p e s m args below meth c ls A hx hb hr hml hlk hts hown hAe hA hK hP hD hS hl htab hE
  have hl : lv_has ls 5 [(0, .ref (qa 0 0)), (1, .int x1), (2, .int x2), (3, .ref ao)] := hl
  have hF : CallFix p m c cL_place 5 s args aL_place RL := ⟨hx, hb, hml, hown, hts⟩
  have hta : ∀ w ∈ pw_all, w.before args s = true := fun w h => hts w (List.mem_cons_of_mem _ h)
  refine lv_aload_n hx hb dL_place_0 rfl (lv_at hl 3 rfl) ?_
  refine lv_iconst (v := 0) hx hb dL_place_1 (by decide) ?_
  refine lv_aload_n hx hb dL_place_2 rfl (lv_at hl 0 rfl) ?_
  refine lv_iload_n hx hb dL_place_3 rfl (lv_at hl 1 rfl) ?_
  refine lv_iload_n hx hb dL_place_4 rfl (lv_at hl 2 rfl) ?_
  refine pw_fi (ws0 := WL cy qa P T S nw hz ak pa wt cd ln ao ov) (ws1 := W3 cy qa P T S nw hz ak pa wt cd ln ++ [(ao, .inl (cy 3, 1, .inr (.inl ov)))]) (wa := []) (wb := [(ao, .inl (cy 3, 1, .inr (.inl ov)))]) (wc := W3 cy qa P T S nw hz ak pa wt cd ln) (w1 := W3 cy qa P T S nw hz ak pa wt cd ln) (rest := [.int 0, .ref ao]) (As := [.int x1, .int x2]) hF (kX3_place l D cy qa _ P T S nw hz ak pa wt cd ln x1 x2 o h) (cwV 2 hts (pw_gV (own := RL) (idx := 49) (C := RX3) (y := yX3_place) aw_628 aw_629 aw_630 aw_1 aw_631) rfl rfl rfl pX3_place ⟨Nat.le_of_ble_eq_true rfl, Nat.le_of_ble_eq_true rfl⟩) 3 (RX3, TX3, 7) rfl rfl ⟨0, _, rfl⟩ hK hP hD hS hA rfl rfl rfl rfl hl.1 rfl (Nat.le_of_ble_eq_true rfl) dL_place_5 ⟨Nat.zero_le _, Nat.zero_le _⟩ (fun H locs hP hD hS => ?_)
  refine lv_i2l (v := o.toInt64) hx hb dL_place_8 rfl ?_
  refine va_last hx hb hK hP hD hS 128 3 rfl rfl (pq_vp (by decide +kernel)) dL_place_9 (fun H locs hP hD hS => ?_)
  have hP : va_P D vwCl (WL cy qa P T S nw hz ak pa wt cd ln ao (vp_updL ov (0 : Int32).toNatClampNeg o.toInt64)) H := hP
  refine lv_goto (tgt := 21) hx hb dL_place_10 (by decide) ?_
  refine lv_iconst (v := 0) hx hb dL_place_21 (by decide) ?_
  exact vx_ret (pw_ri hx hb hr hlk hAe hP hS rfl dL_place_22)
set_option maxHeartbeats 8000000 in
set_option maxRecDepth 100000 in
theorem kL_place_t1 (l : Launch) (hfl : l.stackTraces = false) (D : va_G) (cy : Nat → ClassId) (qa : Nat → Nat → Nat) (sz : Nat) (P : Nat → Nat → Int32) (T : Nat → Nat → Int32) (S : Nat → Nat → Nat → Int32) (nw : Int32) (hz : Int32) (ak : Nat → Int32) (pa : Nat → Int32) (wt : Nat → Int32) (cd : Nat → Int32) (ln : Int32) (ao : Nat) (ov : Nat → Int64) (x1 : Int32) (x2 : Int32) (h : fX3_place x1 x2 P = some (Sum.inl 1)) : vx_Met l yL_place aL_place ({ frames := 8, cells := 1, slots := 6, locals := 133 } : Room) (pw_PreE D cy [.ref (qa 0 0), .int x1, .int x2, .ref ao] (WL cy qa P T S nw hz ak pa wt cd ln ao ov) sz) (pw_I D 1 (WL cy qa P T S nw hz ak pa wt cd ln ao ov) (WL cy qa P T S nw hz ak pa wt cd ln ao ov) sz) (fun _ _ _ => False) 1 6 (va_A (WL cy qa P T S nw hz ak pa wt cd ln ao ov) sz) := by
  refine pw_metW (cc := cL_place) (maxL := 5) (ret := (some .int)) (hh := [(0, 10, 13, 13), (0, 10, 17, 34)]) (by decide) rfl (Nat.le_of_ble_eq_true rfl) ?_
  intro p e s m args below meth c ls A hx hb hr hml hlk hts hown hAe hA hK hP hD hS hl htab hE
  have hl : lv_has ls 5 [(0, .ref (qa 0 0)), (1, .int x1), (2, .int x2), (3, .ref ao)] := hl
  have hF : CallFix p m c cL_place 5 s args aL_place RL := ⟨hx, hb, hml, hown, hts⟩
  have hta : ∀ w ∈ pw_all, w.before args s = true := fun w h => hts w (List.mem_cons_of_mem _ h)
  refine lv_aload_n hx hb dL_place_0 rfl (lv_at hl 3 rfl) ?_
  refine lv_iconst (v := 0) hx hb dL_place_1 (by decide) ?_
  refine lv_aload_n hx hb dL_place_2 rfl (lv_at hl 0 rfl) ?_
  refine lv_iload_n hx hb dL_place_3 rfl (lv_at hl 1 rfl) ?_
  refine lv_iload_n hx hb dL_place_4 rfl (lv_at hl 2 rfl) ?_
  refine pw_cT (ws0 := WL cy qa P T S nw hz ak pa wt cd ln ao ov) (wa := []) (wb := [(ao, .inl (cy 3, 1, .inr (.inl ov)))]) (wc := W3 cy qa P T S nw hz ak pa wt cd ln) (rest := [.int 0, .ref ao]) (As := [.int x1, .int x2]) hF (kX3_place_t l hfl D cy qa _ P T S nw hz ak pa wt cd ln x1 x2 1 h) (cwV 2 hts (pw_gV (own := RL) (idx := 49) (C := RX3) (y := yX3_place) aw_628 aw_629 aw_630 aw_1 aw_631) rfl rfl rfl pX3_place ⟨Nat.le_of_ble_eq_true rfl, Nat.le_of_ble_eq_true rfl⟩) 3 (RX3, TX3, 7) rfl rfl ⟨0, _, rfl⟩ hK hP hD hS hA hE rfl rfl hl.1 rfl (Nat.le_of_ble_eq_true rfl) dL_place_5 (Nat.le_of_ble_eq_true rfl) (Nat.le_of_ble_eq_true rfl) (fun E ce q9 H locs hEk hP hD hS hce hcv hfc => ?_)
  subst hEk
  refine vx_catch (name := "java/lang/IndexOutOfBoundsException") hown [] ⟨0, 10, 13, 13⟩ [⟨0, 10, 17, 34⟩] (by rw [htab]; rfl) (fun z hz => by cases hz) (by decide) (by decide) (hta _ aw_430) (va_Nw.use rfl (hE.1 (.castable (pw_ex 1) "java/lang/IndexOutOfBoundsException") (by decide +kernel))) hce hcv hfc ?_
  refine lv_astore (lv' := [(4, .ref q9), (0, .ref (qa 0 0)), (1, .int x1), (2, .int x2), (3, .ref ao)]) hx hb dL_place_13 hl (by decide) rfl (fun ls hl => ?_)
  refine lv_iconst (v := 1) hx hb dL_place_15 (by decide) ?_
  exact vx_ret (pw_ri hx hb hr hlk hAe hP hS rfl dL_place_16)
set_option maxHeartbeats 8000000 in
set_option maxRecDepth 100000 in
theorem kL_place_t3 (l : Launch) (hfl : l.stackTraces = false) (D : va_G) (cy : Nat → ClassId) (qa : Nat → Nat → Nat) (sz : Nat) (P : Nat → Nat → Int32) (T : Nat → Nat → Int32) (S : Nat → Nat → Nat → Int32) (nw : Int32) (hz : Int32) (ak : Nat → Int32) (pa : Nat → Int32) (wt : Nat → Int32) (cd : Nat → Int32) (ln : Int32) (ao : Nat) (ov : Nat → Int64) (x1 : Int32) (x2 : Int32) (h : fX3_place x1 x2 P = some (Sum.inl 3)) : vx_Met l yL_place aL_place ({ frames := 8, cells := 1, slots := 6, locals := 133 } : Room) (pw_PreE D cy [.ref (qa 0 0), .int x1, .int x2, .ref ao] (WL cy qa P T S nw hz ak pa wt cd ln ao ov) sz) (pw_I D 2 (WL cy qa P T S nw hz ak pa wt cd ln ao ov) (WL cy qa P T S nw hz ak pa wt cd ln ao ov) sz) (fun _ _ _ => False) 1 6 (va_A (WL cy qa P T S nw hz ak pa wt cd ln ao ov) sz) := by
  refine pw_metW (cc := cL_place) (maxL := 5) (ret := (some .int)) (hh := [(0, 10, 13, 13), (0, 10, 17, 34)]) (by decide) rfl (Nat.le_of_ble_eq_true rfl) ?_
  intro p e s m args below meth c ls A hx hb hr hml hlk hts hown hAe hA hK hP hD hS hl htab hE
  have hl : lv_has ls 5 [(0, .ref (qa 0 0)), (1, .int x1), (2, .int x2), (3, .ref ao)] := hl
  have hF : CallFix p m c cL_place 5 s args aL_place RL := ⟨hx, hb, hml, hown, hts⟩
  have hta : ∀ w ∈ pw_all, w.before args s = true := fun w h => hts w (List.mem_cons_of_mem _ h)
  refine lv_aload_n hx hb dL_place_0 rfl (lv_at hl 3 rfl) ?_
  refine lv_iconst (v := 0) hx hb dL_place_1 (by decide) ?_
  refine lv_aload_n hx hb dL_place_2 rfl (lv_at hl 0 rfl) ?_
  refine lv_iload_n hx hb dL_place_3 rfl (lv_at hl 1 rfl) ?_
  refine lv_iload_n hx hb dL_place_4 rfl (lv_at hl 2 rfl) ?_
  refine pw_cT (ws0 := WL cy qa P T S nw hz ak pa wt cd ln ao ov) (wa := []) (wb := [(ao, .inl (cy 3, 1, .inr (.inl ov)))]) (wc := W3 cy qa P T S nw hz ak pa wt cd ln) (rest := [.int 0, .ref ao]) (As := [.int x1, .int x2]) hF (kX3_place_t l hfl D cy qa _ P T S nw hz ak pa wt cd ln x1 x2 3 h) (cwV 2 hts (pw_gV (own := RL) (idx := 49) (C := RX3) (y := yX3_place) aw_628 aw_629 aw_630 aw_1 aw_631) rfl rfl rfl pX3_place ⟨Nat.le_of_ble_eq_true rfl, Nat.le_of_ble_eq_true rfl⟩) 3 (RX3, TX3, 7) rfl rfl ⟨0, _, rfl⟩ hK hP hD hS hA hE rfl rfl hl.1 rfl (Nat.le_of_ble_eq_true rfl) dL_place_5 (Nat.le_of_ble_eq_true rfl) (Nat.le_of_ble_eq_true rfl) (fun E ce q9 H locs hEk hP hD hS hce hcv hfc => ?_)
  subst hEk
  refine vx_catch (name := "java/lang/IllegalArgumentException") hown [⟨0, 10, 13, 13⟩] ⟨0, 10, 17, 34⟩ [] (by rw [htab]; rfl) (fun z hz => by
    rcases List.mem_singleton.mp hz with rfl
    exact Or.inr ⟨by decide, "java/lang/IndexOutOfBoundsException", hta _ aw_430, hE.2.2.2.2.1 _ (by decide +kernel) _ (by decide +kernel) (by decide +kernel)⟩) (by decide) (by decide) (hta _ aw_535) (va_Nw.use rfl (hE.1 (.castable (pw_ex 3) "java/lang/IllegalArgumentException") (by decide +kernel))) hce hcv hfc ?_
  refine lv_astore (lv' := [(4, .ref q9), (0, .ref (qa 0 0)), (1, .int x1), (2, .int x2), (3, .ref ao)]) hx hb dL_place_17 hl (by decide) rfl (fun ls hl => ?_)
  refine lv_iconst (v := 2) hx hb dL_place_19 (by decide) ?_
  exact vx_ret (pw_ri hx hb hr hlk hAe hP hS rfl dL_place_20)
def aL_owner : List Cond := Cond.codeWith yL_owner cL_owner 5 (some .int) [(0, 10, 13, 13), (0, 10, 17, 34)] :: pw_all
theorem pL_owner : yL_owner.cls ≠ "java/lang/invoke/MethodHandle" ∧ yL_owner.cls ≠ "java/lang/invoke/VarHandle" ∧ (parseMethodDescriptor yL_owner.desc).map (fun d => d.parameters.length) = some 4 := by decide +kernel
set_option maxHeartbeats 8000000 in
set_option maxRecDepth 100000 in
theorem kL_owner_r (l : Launch) (hfl : l.stackTraces = false) (D : va_G) (cy : Nat → ClassId) (qa : Nat → Nat → Nat) (sz : Nat) (P : Nat → Nat → Int32) (T : Nat → Nat → Int32) (S : Nat → Nat → Nat → Int32) (nw : Int32) (hz : Int32) (ak : Nat → Int32) (pa : Nat → Int32) (wt : Nat → Int32) (cd : Nat → Int32) (ln : Int32) (ao : Nat) (ov : Nat → Int64) (x1 : Int32) (x2 : Int32) (o : Int32) (h : fX3_owner x1 x2 P = some (Sum.inr o)) : vx_Met l yL_owner aL_owner ({ frames := 4, cells := 0, slots := 0, locals := 87 } : Room) (pw_PreE D cy [.ref (qa 0 0), .int x1, .int x2, .ref ao] (WL cy qa P T S nw hz ak pa wt cd ln ao ov) sz) (pw_I D 0 (WL cy qa P T S nw hz ak pa wt cd ln ao ov) (WL cy qa P T S nw hz ak pa wt cd ln ao (vp_updL ov (0 : Int32).toNatClampNeg o.toInt64)) sz) (fun _ _ _ => False) 0 0 (va_A (WL cy qa P T S nw hz ak pa wt cd ln ao ov) sz) := by
  refine pw_metW (cc := cL_owner) (maxL := 5) (ret := (some .int)) (hh := [(0, 10, 13, 13), (0, 10, 17, 34)]) (by decide) rfl (Nat.le_of_ble_eq_true rfl) ?_
  intro p e s m args below meth c ls A hx hb hr hml hlk hts hown hAe hA hK hP hD hS hl htab hE
  have hl : lv_has ls 5 [(0, .ref (qa 0 0)), (1, .int x1), (2, .int x2), (3, .ref ao)] := hl
  have hF : CallFix p m c cL_owner 5 s args aL_owner RL := ⟨hx, hb, hml, hown, hts⟩
  have hta : ∀ w ∈ pw_all, w.before args s = true := fun w h => hts w (List.mem_cons_of_mem _ h)
  refine lv_aload_n hx hb dL_owner_0 rfl (lv_at hl 3 rfl) ?_
  refine lv_iconst (v := 0) hx hb dL_owner_1 (by decide) ?_
  refine lv_aload_n hx hb dL_owner_2 rfl (lv_at hl 0 rfl) ?_
  refine lv_iload_n hx hb dL_owner_3 rfl (lv_at hl 1 rfl) ?_
  refine lv_iload_n hx hb dL_owner_4 rfl (lv_at hl 2 rfl) ?_
  refine pw_fi (ws0 := WL cy qa P T S nw hz ak pa wt cd ln ao ov) (ws1 := W3 cy qa P T S nw hz ak pa wt cd ln ++ [(ao, .inl (cy 3, 1, .inr (.inl ov)))]) (wa := []) (wb := [(ao, .inl (cy 3, 1, .inr (.inl ov)))]) (wc := W3 cy qa P T S nw hz ak pa wt cd ln) (w1 := W3 cy qa P T S nw hz ak pa wt cd ln) (rest := [.int 0, .ref ao]) (As := [.int x1, .int x2]) hF (kX3_owner l D cy qa _ P T S nw hz ak pa wt cd ln x1 x2 o h) (cwV 2 hts (pw_gV (own := RL) (idx := 52) (C := RX3) (y := yX3_owner) aw_635 aw_636 aw_637 aw_1 aw_638) rfl rfl rfl pX3_owner ⟨Nat.le_of_ble_eq_true rfl, Nat.le_of_ble_eq_true rfl⟩) 3 (RX3, TX3, 7) rfl rfl ⟨0, _, rfl⟩ hK hP hD hS hA rfl rfl rfl rfl hl.1 rfl (Nat.le_of_ble_eq_true rfl) dL_owner_5 ⟨Nat.zero_le _, Nat.zero_le _⟩ (fun H locs hP hD hS => ?_)
  refine lv_i2l (v := o.toInt64) hx hb dL_owner_8 rfl ?_
  refine va_last hx hb hK hP hD hS 128 3 rfl rfl (pq_vp (by decide +kernel)) dL_owner_9 (fun H locs hP hD hS => ?_)
  have hP : va_P D vwCl (WL cy qa P T S nw hz ak pa wt cd ln ao (vp_updL ov (0 : Int32).toNatClampNeg o.toInt64)) H := hP
  refine lv_goto (tgt := 21) hx hb dL_owner_10 (by decide) ?_
  refine lv_iconst (v := 0) hx hb dL_owner_21 (by decide) ?_
  exact vx_ret (pw_ri hx hb hr hlk hAe hP hS rfl dL_owner_22)
set_option maxHeartbeats 8000000 in
set_option maxRecDepth 100000 in
theorem kL_owner_t1 (l : Launch) (hfl : l.stackTraces = false) (D : va_G) (cy : Nat → ClassId) (qa : Nat → Nat → Nat) (sz : Nat) (P : Nat → Nat → Int32) (T : Nat → Nat → Int32) (S : Nat → Nat → Nat → Int32) (nw : Int32) (hz : Int32) (ak : Nat → Int32) (pa : Nat → Int32) (wt : Nat → Int32) (cd : Nat → Int32) (ln : Int32) (ao : Nat) (ov : Nat → Int64) (x1 : Int32) (x2 : Int32) (h : fX3_owner x1 x2 P = some (Sum.inl 1)) : vx_Met l yL_owner aL_owner ({ frames := 8, cells := 1, slots := 6, locals := 133 } : Room) (pw_PreE D cy [.ref (qa 0 0), .int x1, .int x2, .ref ao] (WL cy qa P T S nw hz ak pa wt cd ln ao ov) sz) (pw_I D 1 (WL cy qa P T S nw hz ak pa wt cd ln ao ov) (WL cy qa P T S nw hz ak pa wt cd ln ao ov) sz) (fun _ _ _ => False) 1 6 (va_A (WL cy qa P T S nw hz ak pa wt cd ln ao ov) sz) := by
  refine pw_metW (cc := cL_owner) (maxL := 5) (ret := (some .int)) (hh := [(0, 10, 13, 13), (0, 10, 17, 34)]) (by decide) rfl (Nat.le_of_ble_eq_true rfl) ?_
  intro p e s m args below meth c ls A hx hb hr hml hlk hts hown hAe hA hK hP hD hS hl htab hE
  have hl : lv_has ls 5 [(0, .ref (qa 0 0)), (1, .int x1), (2, .int x2), (3, .ref ao)] := hl
  have hF : CallFix p m c cL_owner 5 s args aL_owner RL := ⟨hx, hb, hml, hown, hts⟩
  have hta : ∀ w ∈ pw_all, w.before args s = true := fun w h => hts w (List.mem_cons_of_mem _ h)
  refine lv_aload_n hx hb dL_owner_0 rfl (lv_at hl 3 rfl) ?_
  refine lv_iconst (v := 0) hx hb dL_owner_1 (by decide) ?_
  refine lv_aload_n hx hb dL_owner_2 rfl (lv_at hl 0 rfl) ?_
  refine lv_iload_n hx hb dL_owner_3 rfl (lv_at hl 1 rfl) ?_
  refine lv_iload_n hx hb dL_owner_4 rfl (lv_at hl 2 rfl) ?_
  refine pw_cT (ws0 := WL cy qa P T S nw hz ak pa wt cd ln ao ov) (wa := []) (wb := [(ao, .inl (cy 3, 1, .inr (.inl ov)))]) (wc := W3 cy qa P T S nw hz ak pa wt cd ln) (rest := [.int 0, .ref ao]) (As := [.int x1, .int x2]) hF (kX3_owner_t l hfl D cy qa _ P T S nw hz ak pa wt cd ln x1 x2 1 h) (cwV 2 hts (pw_gV (own := RL) (idx := 52) (C := RX3) (y := yX3_owner) aw_635 aw_636 aw_637 aw_1 aw_638) rfl rfl rfl pX3_owner ⟨Nat.le_of_ble_eq_true rfl, Nat.le_of_ble_eq_true rfl⟩) 3 (RX3, TX3, 7) rfl rfl ⟨0, _, rfl⟩ hK hP hD hS hA hE rfl rfl hl.1 rfl (Nat.le_of_ble_eq_true rfl) dL_owner_5 (Nat.le_of_ble_eq_true rfl) (Nat.le_of_ble_eq_true rfl) (fun E ce q9 H locs hEk hP hD hS hce hcv hfc => ?_)
  subst hEk
  refine vx_catch (name := "java/lang/IndexOutOfBoundsException") hown [] ⟨0, 10, 13, 13⟩ [⟨0, 10, 17, 34⟩] (by rw [htab]; rfl) (fun z hz => by cases hz) (by decide) (by decide) (hta _ aw_430) (va_Nw.use rfl (hE.1 (.castable (pw_ex 1) "java/lang/IndexOutOfBoundsException") (by decide +kernel))) hce hcv hfc ?_
  refine lv_astore (lv' := [(4, .ref q9), (0, .ref (qa 0 0)), (1, .int x1), (2, .int x2), (3, .ref ao)]) hx hb dL_owner_13 hl (by decide) rfl (fun ls hl => ?_)
  refine lv_iconst (v := 1) hx hb dL_owner_15 (by decide) ?_
  exact vx_ret (pw_ri hx hb hr hlk hAe hP hS rfl dL_owner_16)
set_option maxHeartbeats 8000000 in
set_option maxRecDepth 100000 in
theorem kL_owner_t3 (l : Launch) (hfl : l.stackTraces = false) (D : va_G) (cy : Nat → ClassId) (qa : Nat → Nat → Nat) (sz : Nat) (P : Nat → Nat → Int32) (T : Nat → Nat → Int32) (S : Nat → Nat → Nat → Int32) (nw : Int32) (hz : Int32) (ak : Nat → Int32) (pa : Nat → Int32) (wt : Nat → Int32) (cd : Nat → Int32) (ln : Int32) (ao : Nat) (ov : Nat → Int64) (x1 : Int32) (x2 : Int32) (h : fX3_owner x1 x2 P = some (Sum.inl 3)) : vx_Met l yL_owner aL_owner ({ frames := 8, cells := 1, slots := 6, locals := 133 } : Room) (pw_PreE D cy [.ref (qa 0 0), .int x1, .int x2, .ref ao] (WL cy qa P T S nw hz ak pa wt cd ln ao ov) sz) (pw_I D 2 (WL cy qa P T S nw hz ak pa wt cd ln ao ov) (WL cy qa P T S nw hz ak pa wt cd ln ao ov) sz) (fun _ _ _ => False) 1 6 (va_A (WL cy qa P T S nw hz ak pa wt cd ln ao ov) sz) := by
  refine pw_metW (cc := cL_owner) (maxL := 5) (ret := (some .int)) (hh := [(0, 10, 13, 13), (0, 10, 17, 34)]) (by decide) rfl (Nat.le_of_ble_eq_true rfl) ?_
  intro p e s m args below meth c ls A hx hb hr hml hlk hts hown hAe hA hK hP hD hS hl htab hE
  have hl : lv_has ls 5 [(0, .ref (qa 0 0)), (1, .int x1), (2, .int x2), (3, .ref ao)] := hl
  have hF : CallFix p m c cL_owner 5 s args aL_owner RL := ⟨hx, hb, hml, hown, hts⟩
  have hta : ∀ w ∈ pw_all, w.before args s = true := fun w h => hts w (List.mem_cons_of_mem _ h)
  refine lv_aload_n hx hb dL_owner_0 rfl (lv_at hl 3 rfl) ?_
  refine lv_iconst (v := 0) hx hb dL_owner_1 (by decide) ?_
  refine lv_aload_n hx hb dL_owner_2 rfl (lv_at hl 0 rfl) ?_
  refine lv_iload_n hx hb dL_owner_3 rfl (lv_at hl 1 rfl) ?_
  refine lv_iload_n hx hb dL_owner_4 rfl (lv_at hl 2 rfl) ?_
  refine pw_cT (ws0 := WL cy qa P T S nw hz ak pa wt cd ln ao ov) (wa := []) (wb := [(ao, .inl (cy 3, 1, .inr (.inl ov)))]) (wc := W3 cy qa P T S nw hz ak pa wt cd ln) (rest := [.int 0, .ref ao]) (As := [.int x1, .int x2]) hF (kX3_owner_t l hfl D cy qa _ P T S nw hz ak pa wt cd ln x1 x2 3 h) (cwV 2 hts (pw_gV (own := RL) (idx := 52) (C := RX3) (y := yX3_owner) aw_635 aw_636 aw_637 aw_1 aw_638) rfl rfl rfl pX3_owner ⟨Nat.le_of_ble_eq_true rfl, Nat.le_of_ble_eq_true rfl⟩) 3 (RX3, TX3, 7) rfl rfl ⟨0, _, rfl⟩ hK hP hD hS hA hE rfl rfl hl.1 rfl (Nat.le_of_ble_eq_true rfl) dL_owner_5 (Nat.le_of_ble_eq_true rfl) (Nat.le_of_ble_eq_true rfl) (fun E ce q9 H locs hEk hP hD hS hce hcv hfc => ?_)
  subst hEk
  refine vx_catch (name := "java/lang/IllegalArgumentException") hown [⟨0, 10, 13, 13⟩] ⟨0, 10, 17, 34⟩ [] (by rw [htab]; rfl) (fun z hz => by
    rcases List.mem_singleton.mp hz with rfl
    exact Or.inr ⟨by decide, "java/lang/IndexOutOfBoundsException", hta _ aw_430, hE.2.2.2.2.1 _ (by decide +kernel) _ (by decide +kernel) (by decide +kernel)⟩) (by decide) (by decide) (hta _ aw_535) (va_Nw.use rfl (hE.1 (.castable (pw_ex 3) "java/lang/IllegalArgumentException") (by decide +kernel))) hce hcv hfc ?_
  refine lv_astore (lv' := [(4, .ref q9), (0, .ref (qa 0 0)), (1, .int x1), (2, .int x2), (3, .ref ao)]) hx hb dL_owner_17 hl (by decide) rfl (fun ls hl => ?_)
  refine lv_iconst (v := 2) hx hb dL_owner_19 (by decide) ?_
  exact vx_ret (pw_ri hx hb hr hlk hAe hP hS rfl dL_owner_20)
def aL_count : List Cond := Cond.codeWith yL_count cL_count 4 (some .int) [(0, 9, 12, 34)] :: pw_all
theorem pL_count : yL_count.cls ≠ "java/lang/invoke/MethodHandle" ∧ yL_count.cls ≠ "java/lang/invoke/VarHandle" ∧ (parseMethodDescriptor yL_count.desc).map (fun d => d.parameters.length) = some 3 := by decide +kernel
set_option maxHeartbeats 8000000 in
set_option maxRecDepth 100000 in
theorem kL_count_r (l : Launch) (hfl : l.stackTraces = false) (D : va_G) (cy : Nat → ClassId) (qa : Nat → Nat → Nat) (sz : Nat) (P : Nat → Nat → Int32) (T : Nat → Nat → Int32) (S : Nat → Nat → Nat → Int32) (nw : Int32) (hz : Int32) (ak : Nat → Int32) (pa : Nat → Int32) (wt : Nat → Int32) (cd : Nat → Int32) (ln : Int32) (ao : Nat) (ov : Nat → Int64) (x1 : Int32) (o : Int32) (h : fX3_count x1 P hz = some (Sum.inr o)) : vx_Met l yL_count aL_count ({ frames := 4, cells := 0, slots := 0, locals := 86 } : Room) (pw_PreE D cy [.ref (qa 0 0), .int x1, .ref ao] (WL cy qa P T S nw hz ak pa wt cd ln ao ov) sz) (pw_I D 0 (WL cy qa P T S nw hz ak pa wt cd ln ao ov) (WL cy qa P T S nw hz ak pa wt cd ln ao (vp_updL ov (0 : Int32).toNatClampNeg o.toInt64)) sz) (fun _ _ _ => False) 0 0 (va_A (WL cy qa P T S nw hz ak pa wt cd ln ao ov) sz) := by
  refine pw_metW (cc := cL_count) (maxL := 4) (ret := (some .int)) (hh := [(0, 9, 12, 34)]) (by decide) rfl (Nat.le_of_ble_eq_true rfl) ?_
  intro p e s m args below meth c ls A hx hb hr hml hlk hts hown hAe hA hK hP hD hS hl htab hE
  have hl : lv_has ls 4 [(0, .ref (qa 0 0)), (1, .int x1), (2, .ref ao)] := hl
  have hF : CallFix p m c cL_count 4 s args aL_count RL := ⟨hx, hb, hml, hown, hts⟩
  have hta : ∀ w ∈ pw_all, w.before args s = true := fun w h => hts w (List.mem_cons_of_mem _ h)
  refine lv_aload_n hx hb dL_count_0 rfl (lv_at hl 2 rfl) ?_
  refine lv_iconst (v := 0) hx hb dL_count_1 (by decide) ?_
  refine lv_aload_n hx hb dL_count_2 rfl (lv_at hl 0 rfl) ?_
  refine lv_iload_n hx hb dL_count_3 rfl (lv_at hl 1 rfl) ?_
  refine pw_fi (ws0 := WL cy qa P T S nw hz ak pa wt cd ln ao ov) (ws1 := W3 cy qa P T S nw hz ak pa wt cd ln ++ [(ao, .inl (cy 3, 1, .inr (.inl ov)))]) (wa := []) (wb := [(ao, .inl (cy 3, 1, .inr (.inl ov)))]) (wc := W3 cy qa P T S nw hz ak pa wt cd ln) (w1 := W3 cy qa P T S nw hz ak pa wt cd ln) (rest := [.int 0, .ref ao]) (As := [.int x1]) hF (kX3_count l D cy qa _ P T S nw hz ak pa wt cd ln x1 o h) (cwV 1 hts (pw_gV (own := RL) (idx := 55) (C := RX3) (y := yX3_count) aw_642 aw_270 aw_271 aw_1 aw_272) rfl rfl rfl pX3_count ⟨Nat.le_of_ble_eq_true rfl, Nat.le_of_ble_eq_true rfl⟩) 3 (RX3, TX3, 7) rfl rfl ⟨0, _, rfl⟩ hK hP hD hS hA rfl rfl rfl rfl hl.1 rfl (Nat.le_of_ble_eq_true rfl) dL_count_4 ⟨Nat.zero_le _, Nat.zero_le _⟩ (fun H locs hP hD hS => ?_)
  refine lv_i2l (v := o.toInt64) hx hb dL_count_7 rfl ?_
  refine va_last hx hb hK hP hD hS 128 3 rfl rfl (pq_vp (by decide +kernel)) dL_count_8 (fun H locs hP hD hS => ?_)
  have hP : va_P D vwCl (WL cy qa P T S nw hz ak pa wt cd ln ao (vp_updL ov (0 : Int32).toNatClampNeg o.toInt64)) H := hP
  refine lv_goto (tgt := 15) hx hb dL_count_9 (by decide) ?_
  refine lv_iconst (v := 0) hx hb dL_count_15 (by decide) ?_
  exact vx_ret (pw_ri hx hb hr hlk hAe hP hS rfl dL_count_16)
set_option maxHeartbeats 8000000 in
set_option maxRecDepth 100000 in
theorem kL_count_t3 (l : Launch) (hfl : l.stackTraces = false) (D : va_G) (cy : Nat → ClassId) (qa : Nat → Nat → Nat) (sz : Nat) (P : Nat → Nat → Int32) (T : Nat → Nat → Int32) (S : Nat → Nat → Nat → Int32) (nw : Int32) (hz : Int32) (ak : Nat → Int32) (pa : Nat → Int32) (wt : Nat → Int32) (cd : Nat → Int32) (ln : Int32) (ao : Nat) (ov : Nat → Int64) (x1 : Int32) (h : fX3_count x1 P hz = some (Sum.inl 3)) : vx_Met l yL_count aL_count ({ frames := 8, cells := 1, slots := 6, locals := 132 } : Room) (pw_PreE D cy [.ref (qa 0 0), .int x1, .ref ao] (WL cy qa P T S nw hz ak pa wt cd ln ao ov) sz) (pw_I D 1 (WL cy qa P T S nw hz ak pa wt cd ln ao ov) (WL cy qa P T S nw hz ak pa wt cd ln ao ov) sz) (fun _ _ _ => False) 1 6 (va_A (WL cy qa P T S nw hz ak pa wt cd ln ao ov) sz) := by
  refine pw_metW (cc := cL_count) (maxL := 4) (ret := (some .int)) (hh := [(0, 9, 12, 34)]) (by decide) rfl (Nat.le_of_ble_eq_true rfl) ?_
  intro p e s m args below meth c ls A hx hb hr hml hlk hts hown hAe hA hK hP hD hS hl htab hE
  have hl : lv_has ls 4 [(0, .ref (qa 0 0)), (1, .int x1), (2, .ref ao)] := hl
  have hF : CallFix p m c cL_count 4 s args aL_count RL := ⟨hx, hb, hml, hown, hts⟩
  have hta : ∀ w ∈ pw_all, w.before args s = true := fun w h => hts w (List.mem_cons_of_mem _ h)
  refine lv_aload_n hx hb dL_count_0 rfl (lv_at hl 2 rfl) ?_
  refine lv_iconst (v := 0) hx hb dL_count_1 (by decide) ?_
  refine lv_aload_n hx hb dL_count_2 rfl (lv_at hl 0 rfl) ?_
  refine lv_iload_n hx hb dL_count_3 rfl (lv_at hl 1 rfl) ?_
  refine pw_cT (ws0 := WL cy qa P T S nw hz ak pa wt cd ln ao ov) (wa := []) (wb := [(ao, .inl (cy 3, 1, .inr (.inl ov)))]) (wc := W3 cy qa P T S nw hz ak pa wt cd ln) (rest := [.int 0, .ref ao]) (As := [.int x1]) hF (kX3_count_t l hfl D cy qa _ P T S nw hz ak pa wt cd ln x1 3 h) (cwV 1 hts (pw_gV (own := RL) (idx := 55) (C := RX3) (y := yX3_count) aw_642 aw_270 aw_271 aw_1 aw_272) rfl rfl rfl pX3_count ⟨Nat.le_of_ble_eq_true rfl, Nat.le_of_ble_eq_true rfl⟩) 3 (RX3, TX3, 7) rfl rfl ⟨0, _, rfl⟩ hK hP hD hS hA hE rfl rfl hl.1 rfl (Nat.le_of_ble_eq_true rfl) dL_count_4 (Nat.le_of_ble_eq_true rfl) (Nat.le_of_ble_eq_true rfl) (fun E ce q9 H locs hEk hP hD hS hce hcv hfc => ?_)
  subst hEk
  refine vx_catch (name := "java/lang/IllegalArgumentException") hown [] ⟨0, 9, 12, 34⟩ [] (by rw [htab]; rfl) (fun z hz => by cases hz) (by decide) (by decide) (hta _ aw_535) (va_Nw.use rfl (hE.1 (.castable (pw_ex 3) "java/lang/IllegalArgumentException") (by decide +kernel))) hce hcv hfc ?_
  refine lv_astore_n (lv' := [(3, .ref q9), (0, .ref (qa 0 0)), (1, .int x1), (2, .ref ao)]) hx hb dL_count_12 rfl hl (by decide) rfl (fun ls hl => ?_)
  refine lv_iconst (v := 1) hx hb dL_count_13 (by decide) ?_
  exact vx_ret (pw_ri hx hb hr hlk hAe hP hS rfl dL_count_14)
def aL_setting : List Cond := Cond.codeWith yL_setting cL_setting 4 (some .int) [(0, 9, 12, 13)] :: pw_all
theorem pL_setting : yL_setting.cls ≠ "java/lang/invoke/MethodHandle" ∧ yL_setting.cls ≠ "java/lang/invoke/VarHandle" ∧ (parseMethodDescriptor yL_setting.desc).map (fun d => d.parameters.length) = some 3 := by decide +kernel
set_option maxHeartbeats 8000000 in
set_option maxRecDepth 100000 in
theorem kL_setting_r (l : Launch) (hfl : l.stackTraces = false) (D : va_G) (cy : Nat → ClassId) (qa : Nat → Nat → Nat) (sz : Nat) (P : Nat → Nat → Int32) (T : Nat → Nat → Int32) (S : Nat → Nat → Nat → Int32) (nw : Int32) (hz : Int32) (ak : Nat → Int32) (pa : Nat → Int32) (wt : Nat → Int32) (cd : Nat → Int32) (ln : Int32) (ao : Nat) (ov : Nat → Int64) (x1 : Int32) (o : Int32) (h : fX3_setting x1 P = some (Sum.inr o)) : vx_Met l yL_setting aL_setting ({ frames := 2, cells := 0, slots := 0, locals := 41 } : Room) (pw_PreE D cy [.ref (qa 0 0), .int x1, .ref ao] (WL cy qa P T S nw hz ak pa wt cd ln ao ov) sz) (pw_I D 0 (WL cy qa P T S nw hz ak pa wt cd ln ao ov) (WL cy qa P T S nw hz ak pa wt cd ln ao (vp_updL ov (0 : Int32).toNatClampNeg o.toInt64)) sz) (fun _ _ _ => False) 0 0 (va_A (WL cy qa P T S nw hz ak pa wt cd ln ao ov) sz) := by
  refine pw_metW (cc := cL_setting) (maxL := 4) (ret := (some .int)) (hh := [(0, 9, 12, 13)]) (by decide) rfl (Nat.le_of_ble_eq_true rfl) ?_
  intro p e s m args below meth c ls A hx hb hr hml hlk hts hown hAe hA hK hP hD hS hl htab hE
  have hl : lv_has ls 4 [(0, .ref (qa 0 0)), (1, .int x1), (2, .ref ao)] := hl
  have hF : CallFix p m c cL_setting 4 s args aL_setting RL := ⟨hx, hb, hml, hown, hts⟩
  have hta : ∀ w ∈ pw_all, w.before args s = true := fun w h => hts w (List.mem_cons_of_mem _ h)
  refine lv_aload_n hx hb dL_setting_0 rfl (lv_at hl 2 rfl) ?_
  refine lv_iconst (v := 0) hx hb dL_setting_1 (by decide) ?_
  refine lv_aload_n hx hb dL_setting_2 rfl (lv_at hl 0 rfl) ?_
  refine lv_iload_n hx hb dL_setting_3 rfl (lv_at hl 1 rfl) ?_
  refine pw_fi (ws0 := WL cy qa P T S nw hz ak pa wt cd ln ao ov) (ws1 := W3 cy qa P T S nw hz ak pa wt cd ln ++ [(ao, .inl (cy 3, 1, .inr (.inl ov)))]) (wa := []) (wb := [(ao, .inl (cy 3, 1, .inr (.inl ov)))]) (wc := W3 cy qa P T S nw hz ak pa wt cd ln) (w1 := W3 cy qa P T S nw hz ak pa wt cd ln) (rest := [.int 0, .ref ao]) (As := [.int x1]) hF (kX3_setting l D cy qa _ P T S nw hz ak pa wt cd ln x1 o h) (cwV 1 hts (pw_gV (own := RL) (idx := 58) (C := RX3) (y := yX3_setting) aw_646 aw_647 aw_648 aw_1 aw_649) rfl rfl rfl pX3_setting ⟨Nat.le_of_ble_eq_true rfl, Nat.le_of_ble_eq_true rfl⟩) 3 (RX3, TX3, 7) rfl rfl ⟨0, _, rfl⟩ hK hP hD hS hA rfl rfl rfl rfl hl.1 rfl (Nat.le_of_ble_eq_true rfl) dL_setting_4 ⟨Nat.zero_le _, Nat.zero_le _⟩ (fun H locs hP hD hS => ?_)
  refine lv_i2l (v := o.toInt64) hx hb dL_setting_7 rfl ?_
  refine va_last hx hb hK hP hD hS 128 3 rfl rfl (pq_vp (by decide +kernel)) dL_setting_8 (fun H locs hP hD hS => ?_)
  have hP : va_P D vwCl (WL cy qa P T S nw hz ak pa wt cd ln ao (vp_updL ov (0 : Int32).toNatClampNeg o.toInt64)) H := hP
  refine lv_goto (tgt := 15) hx hb dL_setting_9 (by decide) ?_
  refine lv_iconst (v := 0) hx hb dL_setting_15 (by decide) ?_
  exact vx_ret (pw_ri hx hb hr hlk hAe hP hS rfl dL_setting_16)
set_option maxHeartbeats 8000000 in
set_option maxRecDepth 100000 in
theorem kL_setting_t1 (l : Launch) (hfl : l.stackTraces = false) (D : va_G) (cy : Nat → ClassId) (qa : Nat → Nat → Nat) (sz : Nat) (P : Nat → Nat → Int32) (T : Nat → Nat → Int32) (S : Nat → Nat → Nat → Int32) (nw : Int32) (hz : Int32) (ak : Nat → Int32) (pa : Nat → Int32) (wt : Nat → Int32) (cd : Nat → Int32) (ln : Int32) (ao : Nat) (ov : Nat → Int64) (x1 : Int32) (h : fX3_setting x1 P = some (Sum.inl 1)) : vx_Met l yL_setting aL_setting ({ frames := 8, cells := 1, slots := 6, locals := 131 } : Room) (pw_PreE D cy [.ref (qa 0 0), .int x1, .ref ao] (WL cy qa P T S nw hz ak pa wt cd ln ao ov) sz) (pw_I D 1 (WL cy qa P T S nw hz ak pa wt cd ln ao ov) (WL cy qa P T S nw hz ak pa wt cd ln ao ov) sz) (fun _ _ _ => False) 1 6 (va_A (WL cy qa P T S nw hz ak pa wt cd ln ao ov) sz) := by
  refine pw_metW (cc := cL_setting) (maxL := 4) (ret := (some .int)) (hh := [(0, 9, 12, 13)]) (by decide) rfl (Nat.le_of_ble_eq_true rfl) ?_
  intro p e s m args below meth c ls A hx hb hr hml hlk hts hown hAe hA hK hP hD hS hl htab hE
  have hl : lv_has ls 4 [(0, .ref (qa 0 0)), (1, .int x1), (2, .ref ao)] := hl
  have hF : CallFix p m c cL_setting 4 s args aL_setting RL := ⟨hx, hb, hml, hown, hts⟩
  have hta : ∀ w ∈ pw_all, w.before args s = true := fun w h => hts w (List.mem_cons_of_mem _ h)
  refine lv_aload_n hx hb dL_setting_0 rfl (lv_at hl 2 rfl) ?_
  refine lv_iconst (v := 0) hx hb dL_setting_1 (by decide) ?_
  refine lv_aload_n hx hb dL_setting_2 rfl (lv_at hl 0 rfl) ?_
  refine lv_iload_n hx hb dL_setting_3 rfl (lv_at hl 1 rfl) ?_
  refine pw_cT (ws0 := WL cy qa P T S nw hz ak pa wt cd ln ao ov) (wa := []) (wb := [(ao, .inl (cy 3, 1, .inr (.inl ov)))]) (wc := W3 cy qa P T S nw hz ak pa wt cd ln) (rest := [.int 0, .ref ao]) (As := [.int x1]) hF (kX3_setting_t l hfl D cy qa _ P T S nw hz ak pa wt cd ln x1 1 h) (cwV 1 hts (pw_gV (own := RL) (idx := 58) (C := RX3) (y := yX3_setting) aw_646 aw_647 aw_648 aw_1 aw_649) rfl rfl rfl pX3_setting ⟨Nat.le_of_ble_eq_true rfl, Nat.le_of_ble_eq_true rfl⟩) 3 (RX3, TX3, 7) rfl rfl ⟨0, _, rfl⟩ hK hP hD hS hA hE rfl rfl hl.1 rfl (Nat.le_of_ble_eq_true rfl) dL_setting_4 (Nat.le_of_ble_eq_true rfl) (Nat.le_of_ble_eq_true rfl) (fun E ce q9 H locs hEk hP hD hS hce hcv hfc => ?_)
  subst hEk
  refine vx_catch (name := "java/lang/IndexOutOfBoundsException") hown [] ⟨0, 9, 12, 13⟩ [] (by rw [htab]; rfl) (fun z hz => by cases hz) (by decide) (by decide) (hta _ aw_430) (va_Nw.use rfl (hE.1 (.castable (pw_ex 1) "java/lang/IndexOutOfBoundsException") (by decide +kernel))) hce hcv hfc ?_
  refine lv_astore_n (lv' := [(3, .ref q9), (0, .ref (qa 0 0)), (1, .int x1), (2, .ref ao)]) hx hb dL_setting_12 rfl hl (by decide) rfl (fun ls hl => ?_)
  refine lv_iconst (v := 1) hx hb dL_setting_13 (by decide) ?_
  exact vx_ret (pw_ri hx hb hr hlk hAe hP hS rfl dL_setting_14)
def aL_ifAsked : List Cond := Cond.codeWith yL_ifAsked cL_ifAsked 5 (some .int) [(0, 10, 13, 13), (0, 10, 17, 34)] :: pw_all
theorem pL_ifAsked : yL_ifAsked.cls ≠ "java/lang/invoke/MethodHandle" ∧ yL_ifAsked.cls ≠ "java/lang/invoke/VarHandle" ∧ (parseMethodDescriptor yL_ifAsked.desc).map (fun d => d.parameters.length) = some 4 := by decide +kernel
set_option maxHeartbeats 8000000 in
set_option maxRecDepth 100000 in
theorem kL_ifAsked_r (l : Launch) (hfl : l.stackTraces = false) (D : va_G) (cy : Nat → ClassId) (qa : Nat → Nat → Nat) (sz : Nat) (P : Nat → Nat → Int32) (T : Nat → Nat → Int32) (S : Nat → Nat → Nat → Int32) (nw : Int32) (hz : Int32) (ak : Nat → Int32) (pa : Nat → Int32) (wt : Nat → Int32) (cd : Nat → Int32) (ln : Int32) (ao : Nat) (ov : Nat → Int64) (x1 : Int32) (x2 : Int32) (o : Int32 × (Nat → Nat → Int32) × (Nat → Int32)) (h : fX3_ifAsked x1 x2 P T ak = some (Sum.inr o)) : vx_Met l yL_ifAsked aL_ifAsked ({ frames := 7, cells := 0, slots := 0, locals := 157 } : Room) (pw_PreE D cy [.ref (qa 0 0), .int x1, .int x2, .ref ao] (WL cy qa P T S nw hz ak pa wt cd ln ao ov) sz) (pw_I D 0 (WL cy qa P T S nw hz ak pa wt cd ln ao ov) (WL cy qa P o.2.1 S nw hz o.2.2 pa wt cd ln ao (vp_updL ov (0 : Int32).toNatClampNeg o.1.toInt64)) sz) (fun _ _ _ => False) 0 0 (va_A (WL cy qa P T S nw hz ak pa wt cd ln ao ov) sz) := by
  refine pw_metW (cc := cL_ifAsked) (maxL := 5) (ret := (some .int)) (hh := [(0, 10, 13, 13), (0, 10, 17, 34)]) (by decide) rfl (Nat.le_of_ble_eq_true rfl) ?_
  intro p e s m args below meth c ls A hx hb hr hml hlk hts hown hAe hA hK hP hD hS hl htab hE
  have hl : lv_has ls 5 [(0, .ref (qa 0 0)), (1, .int x1), (2, .int x2), (3, .ref ao)] := hl
  have hF : CallFix p m c cL_ifAsked 5 s args aL_ifAsked RL := ⟨hx, hb, hml, hown, hts⟩
  have hta : ∀ w ∈ pw_all, w.before args s = true := fun w h => hts w (List.mem_cons_of_mem _ h)
  refine lv_aload_n hx hb dL_ifAsked_0 rfl (lv_at hl 3 rfl) ?_
  refine lv_iconst (v := 0) hx hb dL_ifAsked_1 (by decide) ?_
  refine lv_aload_n hx hb dL_ifAsked_2 rfl (lv_at hl 0 rfl) ?_
  refine lv_iload_n hx hb dL_ifAsked_3 rfl (lv_at hl 1 rfl) ?_
  refine lv_iload_n hx hb dL_ifAsked_4 rfl (lv_at hl 2 rfl) ?_
  refine pw_fi (ws0 := WL cy qa P T S nw hz ak pa wt cd ln ao ov) (ws1 := W3 cy qa P o.2.1 S nw hz o.2.2 pa wt cd ln ++ [(ao, .inl (cy 3, 1, .inr (.inl ov)))]) (wa := []) (wb := [(ao, .inl (cy 3, 1, .inr (.inl ov)))]) (wc := W3 cy qa P T S nw hz ak pa wt cd ln) (w1 := W3 cy qa P o.2.1 S nw hz o.2.2 pa wt cd ln) (rest := [.int 0, .ref ao]) (As := [.int x1, .int x2]) hF (kX3_ifAsked l D cy qa _ P T S nw hz ak pa wt cd ln x1 x2 o h) (cwV 2 hts (pw_gV (own := RL) (idx := 61) (C := RX3) (y := yX3_ifAsked) aw_653 aw_654 aw_655 aw_1 aw_656) rfl rfl rfl pX3_ifAsked ⟨Nat.le_of_ble_eq_true rfl, Nat.le_of_ble_eq_true rfl⟩) 3 (RX3, TX3, 7) rfl rfl ⟨0, _, rfl⟩ hK hP hD hS hA rfl rfl rfl rfl hl.1 rfl (Nat.le_of_ble_eq_true rfl) dL_ifAsked_5 ⟨Nat.zero_le _, Nat.zero_le _⟩ (fun H locs hP hD hS => ?_)
  refine lv_i2l (v := o.1.toInt64) hx hb dL_ifAsked_8 rfl ?_
  refine va_last hx hb hK hP hD hS 128 3 rfl rfl (pq_vp (by decide +kernel)) dL_ifAsked_9 (fun H locs hP hD hS => ?_)
  have hP : va_P D vwCl (WL cy qa P o.2.1 S nw hz o.2.2 pa wt cd ln ao (vp_updL ov (0 : Int32).toNatClampNeg o.1.toInt64)) H := hP
  refine lv_goto (tgt := 21) hx hb dL_ifAsked_10 (by decide) ?_
  refine lv_iconst (v := 0) hx hb dL_ifAsked_21 (by decide) ?_
  exact vx_ret (pw_ri hx hb hr hlk hAe hP hS rfl dL_ifAsked_22)
set_option maxHeartbeats 8000000 in
set_option maxRecDepth 100000 in
theorem kL_ifAsked_t1 (l : Launch) (hfl : l.stackTraces = false) (D : va_G) (cy : Nat → ClassId) (qa : Nat → Nat → Nat) (sz : Nat) (P : Nat → Nat → Int32) (T : Nat → Nat → Int32) (S : Nat → Nat → Nat → Int32) (nw : Int32) (hz : Int32) (ak : Nat → Int32) (pa : Nat → Int32) (wt : Nat → Int32) (cd : Nat → Int32) (ln : Int32) (ao : Nat) (ov : Nat → Int64) (x1 : Int32) (x2 : Int32) (h : fX3_ifAsked x1 x2 P T ak = some (Sum.inl 1)) : vx_Met l yL_ifAsked aL_ifAsked ({ frames := 8, cells := 1, slots := 6, locals := 157 } : Room) (pw_PreE D cy [.ref (qa 0 0), .int x1, .int x2, .ref ao] (WL cy qa P T S nw hz ak pa wt cd ln ao ov) sz) (pw_I D 1 (WL cy qa P T S nw hz ak pa wt cd ln ao ov) (WL cy qa P T S nw hz ak pa wt cd ln ao ov) sz) (fun _ _ _ => False) 1 6 (va_A (WL cy qa P T S nw hz ak pa wt cd ln ao ov) sz) := by
  refine pw_metW (cc := cL_ifAsked) (maxL := 5) (ret := (some .int)) (hh := [(0, 10, 13, 13), (0, 10, 17, 34)]) (by decide) rfl (Nat.le_of_ble_eq_true rfl) ?_
  intro p e s m args below meth c ls A hx hb hr hml hlk hts hown hAe hA hK hP hD hS hl htab hE
  have hl : lv_has ls 5 [(0, .ref (qa 0 0)), (1, .int x1), (2, .int x2), (3, .ref ao)] := hl
  have hF : CallFix p m c cL_ifAsked 5 s args aL_ifAsked RL := ⟨hx, hb, hml, hown, hts⟩
  have hta : ∀ w ∈ pw_all, w.before args s = true := fun w h => hts w (List.mem_cons_of_mem _ h)
  refine lv_aload_n hx hb dL_ifAsked_0 rfl (lv_at hl 3 rfl) ?_
  refine lv_iconst (v := 0) hx hb dL_ifAsked_1 (by decide) ?_
  refine lv_aload_n hx hb dL_ifAsked_2 rfl (lv_at hl 0 rfl) ?_
  refine lv_iload_n hx hb dL_ifAsked_3 rfl (lv_at hl 1 rfl) ?_
  refine lv_iload_n hx hb dL_ifAsked_4 rfl (lv_at hl 2 rfl) ?_
  refine pw_cT (ws0 := WL cy qa P T S nw hz ak pa wt cd ln ao ov) (wa := []) (wb := [(ao, .inl (cy 3, 1, .inr (.inl ov)))]) (wc := W3 cy qa P T S nw hz ak pa wt cd ln) (rest := [.int 0, .ref ao]) (As := [.int x1, .int x2]) hF (kX3_ifAsked_t l hfl D cy qa _ P T S nw hz ak pa wt cd ln x1 x2 1 h) (cwV 2 hts (pw_gV (own := RL) (idx := 61) (C := RX3) (y := yX3_ifAsked) aw_653 aw_654 aw_655 aw_1 aw_656) rfl rfl rfl pX3_ifAsked ⟨Nat.le_of_ble_eq_true rfl, Nat.le_of_ble_eq_true rfl⟩) 3 (RX3, TX3, 7) rfl rfl ⟨0, _, rfl⟩ hK hP hD hS hA hE rfl rfl hl.1 rfl (Nat.le_of_ble_eq_true rfl) dL_ifAsked_5 (Nat.le_of_ble_eq_true rfl) (Nat.le_of_ble_eq_true rfl) (fun E ce q9 H locs hEk hP hD hS hce hcv hfc => ?_)
  subst hEk
  refine vx_catch (name := "java/lang/IndexOutOfBoundsException") hown [] ⟨0, 10, 13, 13⟩ [⟨0, 10, 17, 34⟩] (by rw [htab]; rfl) (fun z hz => by cases hz) (by decide) (by decide) (hta _ aw_430) (va_Nw.use rfl (hE.1 (.castable (pw_ex 1) "java/lang/IndexOutOfBoundsException") (by decide +kernel))) hce hcv hfc ?_
  refine lv_astore (lv' := [(4, .ref q9), (0, .ref (qa 0 0)), (1, .int x1), (2, .int x2), (3, .ref ao)]) hx hb dL_ifAsked_13 hl (by decide) rfl (fun ls hl => ?_)
  refine lv_iconst (v := 1) hx hb dL_ifAsked_15 (by decide) ?_
  exact vx_ret (pw_ri hx hb hr hlk hAe hP hS rfl dL_ifAsked_16)
set_option maxHeartbeats 8000000 in
set_option maxRecDepth 100000 in
theorem kL_ifAsked_t3 (l : Launch) (hfl : l.stackTraces = false) (D : va_G) (cy : Nat → ClassId) (qa : Nat → Nat → Nat) (sz : Nat) (P : Nat → Nat → Int32) (T : Nat → Nat → Int32) (S : Nat → Nat → Nat → Int32) (nw : Int32) (hz : Int32) (ak : Nat → Int32) (pa : Nat → Int32) (wt : Nat → Int32) (cd : Nat → Int32) (ln : Int32) (ao : Nat) (ov : Nat → Int64) (x1 : Int32) (x2 : Int32) (h : fX3_ifAsked x1 x2 P T ak = some (Sum.inl 3)) : vx_Met l yL_ifAsked aL_ifAsked ({ frames := 8, cells := 1, slots := 6, locals := 157 } : Room) (pw_PreE D cy [.ref (qa 0 0), .int x1, .int x2, .ref ao] (WL cy qa P T S nw hz ak pa wt cd ln ao ov) sz) (pw_I D 2 (WL cy qa P T S nw hz ak pa wt cd ln ao ov) (WL cy qa P T S nw hz ak pa wt cd ln ao ov) sz) (fun _ _ _ => False) 1 6 (va_A (WL cy qa P T S nw hz ak pa wt cd ln ao ov) sz) := by
  refine pw_metW (cc := cL_ifAsked) (maxL := 5) (ret := (some .int)) (hh := [(0, 10, 13, 13), (0, 10, 17, 34)]) (by decide) rfl (Nat.le_of_ble_eq_true rfl) ?_
  intro p e s m args below meth c ls A hx hb hr hml hlk hts hown hAe hA hK hP hD hS hl htab hE
  have hl : lv_has ls 5 [(0, .ref (qa 0 0)), (1, .int x1), (2, .int x2), (3, .ref ao)] := hl
  have hF : CallFix p m c cL_ifAsked 5 s args aL_ifAsked RL := ⟨hx, hb, hml, hown, hts⟩
  have hta : ∀ w ∈ pw_all, w.before args s = true := fun w h => hts w (List.mem_cons_of_mem _ h)
  refine lv_aload_n hx hb dL_ifAsked_0 rfl (lv_at hl 3 rfl) ?_
  refine lv_iconst (v := 0) hx hb dL_ifAsked_1 (by decide) ?_
  refine lv_aload_n hx hb dL_ifAsked_2 rfl (lv_at hl 0 rfl) ?_
  refine lv_iload_n hx hb dL_ifAsked_3 rfl (lv_at hl 1 rfl) ?_
  refine lv_iload_n hx hb dL_ifAsked_4 rfl (lv_at hl 2 rfl) ?_
  refine pw_cT (ws0 := WL cy qa P T S nw hz ak pa wt cd ln ao ov) (wa := []) (wb := [(ao, .inl (cy 3, 1, .inr (.inl ov)))]) (wc := W3 cy qa P T S nw hz ak pa wt cd ln) (rest := [.int 0, .ref ao]) (As := [.int x1, .int x2]) hF (kX3_ifAsked_t l hfl D cy qa _ P T S nw hz ak pa wt cd ln x1 x2 3 h) (cwV 2 hts (pw_gV (own := RL) (idx := 61) (C := RX3) (y := yX3_ifAsked) aw_653 aw_654 aw_655 aw_1 aw_656) rfl rfl rfl pX3_ifAsked ⟨Nat.le_of_ble_eq_true rfl, Nat.le_of_ble_eq_true rfl⟩) 3 (RX3, TX3, 7) rfl rfl ⟨0, _, rfl⟩ hK hP hD hS hA hE rfl rfl hl.1 rfl (Nat.le_of_ble_eq_true rfl) dL_ifAsked_5 (Nat.le_of_ble_eq_true rfl) (Nat.le_of_ble_eq_true rfl) (fun E ce q9 H locs hEk hP hD hS hce hcv hfc => ?_)
  subst hEk
  refine vx_catch (name := "java/lang/IllegalArgumentException") hown [⟨0, 10, 13, 13⟩] ⟨0, 10, 17, 34⟩ [] (by rw [htab]; rfl) (fun z hz => by
    rcases List.mem_singleton.mp hz with rfl
    exact Or.inr ⟨by decide, "java/lang/IndexOutOfBoundsException", hta _ aw_430, hE.2.2.2.2.1 _ (by decide +kernel) _ (by decide +kernel) (by decide +kernel)⟩) (by decide) (by decide) (hta _ aw_535) (va_Nw.use rfl (hE.1 (.castable (pw_ex 3) "java/lang/IllegalArgumentException") (by decide +kernel))) hce hcv hfc ?_
  refine lv_astore (lv' := [(4, .ref q9), (0, .ref (qa 0 0)), (1, .int x1), (2, .int x2), (3, .ref ao)]) hx hb dL_ifAsked_17 hl (by decide) rfl (fun ls hl => ?_)
  refine lv_iconst (v := 2) hx hb dL_ifAsked_19 (by decide) ?_
  exact vx_ret (pw_ri hx hb hr hlk hAe hP hS rfl dL_ifAsked_20)
def aL_ifPassed : List Cond := Cond.codeWith yL_ifPassed cL_ifPassed 5 (some .int) [(0, 10, 13, 34)] :: pw_all
theorem pL_ifPassed : yL_ifPassed.cls ≠ "java/lang/invoke/MethodHandle" ∧ yL_ifPassed.cls ≠ "java/lang/invoke/VarHandle" ∧ (parseMethodDescriptor yL_ifPassed.desc).map (fun d => d.parameters.length) = some 4 := by decide +kernel
set_option maxHeartbeats 8000000 in
set_option maxRecDepth 100000 in
theorem kL_ifPassed_r (l : Launch) (hfl : l.stackTraces = false) (D : va_G) (cy : Nat → ClassId) (qa : Nat → Nat → Nat) (sz : Nat) (P : Nat → Nat → Int32) (T : Nat → Nat → Int32) (S : Nat → Nat → Nat → Int32) (nw : Int32) (hz : Int32) (ak : Nat → Int32) (pa : Nat → Int32) (wt : Nat → Int32) (cd : Nat → Int32) (ln : Int32) (ao : Nat) (ov : Nat → Int64) (x1 : Int32) (x2 : Int32) (o : Int32 × (Nat → Nat → Int32) × (Nat → Int32)) (h : fX3_ifPassed x1 x2 P T pa = some (Sum.inr o)) : vx_Met l yL_ifPassed aL_ifPassed ({ frames := 7, cells := 0, slots := 0, locals := 159 } : Room) (pw_PreE D cy [.ref (qa 0 0), .int x1, .int x2, .ref ao] (WL cy qa P T S nw hz ak pa wt cd ln ao ov) sz) (pw_I D 0 (WL cy qa P T S nw hz ak pa wt cd ln ao ov) (WL cy qa P o.2.1 S nw hz ak o.2.2 wt cd ln ao (vp_updL ov (0 : Int32).toNatClampNeg o.1.toInt64)) sz) (fun _ _ _ => False) 0 0 (va_A (WL cy qa P T S nw hz ak pa wt cd ln ao ov) sz) := by
  refine pw_metW (cc := cL_ifPassed) (maxL := 5) (ret := (some .int)) (hh := [(0, 10, 13, 34)]) (by decide) rfl (Nat.le_of_ble_eq_true rfl) ?_
  intro p e s m args below meth c ls A hx hb hr hml hlk hts hown hAe hA hK hP hD hS hl htab hE
  have hl : lv_has ls 5 [(0, .ref (qa 0 0)), (1, .int x1), (2, .int x2), (3, .ref ao)] := hl
  have hF : CallFix p m c cL_ifPassed 5 s args aL_ifPassed RL := ⟨hx, hb, hml, hown, hts⟩
  have hta : ∀ w ∈ pw_all, w.before args s = true := fun w h => hts w (List.mem_cons_of_mem _ h)
  refine lv_aload_n hx hb dL_ifPassed_0 rfl (lv_at hl 3 rfl) ?_
  refine lv_iconst (v := 0) hx hb dL_ifPassed_1 (by decide) ?_
  refine lv_aload_n hx hb dL_ifPassed_2 rfl (lv_at hl 0 rfl) ?_
  refine lv_iload_n hx hb dL_ifPassed_3 rfl (lv_at hl 1 rfl) ?_
  refine lv_iload_n hx hb dL_ifPassed_4 rfl (lv_at hl 2 rfl) ?_
  refine pw_fi (ws0 := WL cy qa P T S nw hz ak pa wt cd ln ao ov) (ws1 := W3 cy qa P o.2.1 S nw hz ak o.2.2 wt cd ln ++ [(ao, .inl (cy 3, 1, .inr (.inl ov)))]) (wa := []) (wb := [(ao, .inl (cy 3, 1, .inr (.inl ov)))]) (wc := W3 cy qa P T S nw hz ak pa wt cd ln) (w1 := W3 cy qa P o.2.1 S nw hz ak o.2.2 wt cd ln) (rest := [.int 0, .ref ao]) (As := [.int x1, .int x2]) hF (kX3_ifPassed l D cy qa _ P T S nw hz ak pa wt cd ln x1 x2 o h) (cwV 2 hts (pw_gV (own := RL) (idx := 64) (C := RX3) (y := yX3_ifPassed) aw_660 aw_661 aw_662 aw_1 aw_663) rfl rfl rfl pX3_ifPassed ⟨Nat.le_of_ble_eq_true rfl, Nat.le_of_ble_eq_true rfl⟩) 3 (RX3, TX3, 7) rfl rfl ⟨0, _, rfl⟩ hK hP hD hS hA rfl rfl rfl rfl hl.1 rfl (Nat.le_of_ble_eq_true rfl) dL_ifPassed_5 ⟨Nat.zero_le _, Nat.zero_le _⟩ (fun H locs hP hD hS => ?_)
  refine lv_i2l (v := o.1.toInt64) hx hb dL_ifPassed_8 rfl ?_
  refine va_last hx hb hK hP hD hS 128 3 rfl rfl (pq_vp (by decide +kernel)) dL_ifPassed_9 (fun H locs hP hD hS => ?_)
  have hP : va_P D vwCl (WL cy qa P o.2.1 S nw hz ak o.2.2 wt cd ln ao (vp_updL ov (0 : Int32).toNatClampNeg o.1.toInt64)) H := hP
  refine lv_goto (tgt := 17) hx hb dL_ifPassed_10 (by decide) ?_
  refine lv_iconst (v := 0) hx hb dL_ifPassed_17 (by decide) ?_
  exact vx_ret (pw_ri hx hb hr hlk hAe hP hS rfl dL_ifPassed_18)
set_option maxHeartbeats 8000000 in
set_option maxRecDepth 100000 in
theorem kL_ifPassed_t3 (l : Launch) (hfl : l.stackTraces = false) (D : va_G) (cy : Nat → ClassId) (qa : Nat → Nat → Nat) (sz : Nat) (P : Nat → Nat → Int32) (T : Nat → Nat → Int32) (S : Nat → Nat → Nat → Int32) (nw : Int32) (hz : Int32) (ak : Nat → Int32) (pa : Nat → Int32) (wt : Nat → Int32) (cd : Nat → Int32) (ln : Int32) (ao : Nat) (ov : Nat → Int64) (x1 : Int32) (x2 : Int32) (h : fX3_ifPassed x1 x2 P T pa = some (Sum.inl 3)) : vx_Met l yL_ifPassed aL_ifPassed ({ frames := 8, cells := 1, slots := 6, locals := 159 } : Room) (pw_PreE D cy [.ref (qa 0 0), .int x1, .int x2, .ref ao] (WL cy qa P T S nw hz ak pa wt cd ln ao ov) sz) (pw_I D 1 (WL cy qa P T S nw hz ak pa wt cd ln ao ov) (WL cy qa P T S nw hz ak pa wt cd ln ao ov) sz) (fun _ _ _ => False) 1 6 (va_A (WL cy qa P T S nw hz ak pa wt cd ln ao ov) sz) := by
  refine pw_metW (cc := cL_ifPassed) (maxL := 5) (ret := (some .int)) (hh := [(0, 10, 13, 34)]) (by decide) rfl (Nat.le_of_ble_eq_true rfl) ?_
  intro p e s m args below meth c ls A hx hb hr hml hlk hts hown hAe hA hK hP hD hS hl htab hE
  have hl : lv_has ls 5 [(0, .ref (qa 0 0)), (1, .int x1), (2, .int x2), (3, .ref ao)] := hl
  have hF : CallFix p m c cL_ifPassed 5 s args aL_ifPassed RL := ⟨hx, hb, hml, hown, hts⟩
  have hta : ∀ w ∈ pw_all, w.before args s = true := fun w h => hts w (List.mem_cons_of_mem _ h)
  refine lv_aload_n hx hb dL_ifPassed_0 rfl (lv_at hl 3 rfl) ?_
  refine lv_iconst (v := 0) hx hb dL_ifPassed_1 (by decide) ?_
  refine lv_aload_n hx hb dL_ifPassed_2 rfl (lv_at hl 0 rfl) ?_
  refine lv_iload_n hx hb dL_ifPassed_3 rfl (lv_at hl 1 rfl) ?_
  refine lv_iload_n hx hb dL_ifPassed_4 rfl (lv_at hl 2 rfl) ?_
  refine pw_cT (ws0 := WL cy qa P T S nw hz ak pa wt cd ln ao ov) (wa := []) (wb := [(ao, .inl (cy 3, 1, .inr (.inl ov)))]) (wc := W3 cy qa P T S nw hz ak pa wt cd ln) (rest := [.int 0, .ref ao]) (As := [.int x1, .int x2]) hF (kX3_ifPassed_t l hfl D cy qa _ P T S nw hz ak pa wt cd ln x1 x2 3 h) (cwV 2 hts (pw_gV (own := RL) (idx := 64) (C := RX3) (y := yX3_ifPassed) aw_660 aw_661 aw_662 aw_1 aw_663) rfl rfl rfl pX3_ifPassed ⟨Nat.le_of_ble_eq_true rfl, Nat.le_of_ble_eq_true rfl⟩) 3 (RX3, TX3, 7) rfl rfl ⟨0, _, rfl⟩ hK hP hD hS hA hE rfl rfl hl.1 rfl (Nat.le_of_ble_eq_true rfl) dL_ifPassed_5 (Nat.le_of_ble_eq_true rfl) (Nat.le_of_ble_eq_true rfl) (fun E ce q9 H locs hEk hP hD hS hce hcv hfc => ?_)
  subst hEk
  refine vx_catch (name := "java/lang/IllegalArgumentException") hown [] ⟨0, 10, 13, 34⟩ [] (by rw [htab]; rfl) (fun z hz => by cases hz) (by decide) (by decide) (hta _ aw_535) (va_Nw.use rfl (hE.1 (.castable (pw_ex 3) "java/lang/IllegalArgumentException") (by decide +kernel))) hce hcv hfc ?_
  refine lv_astore (lv' := [(4, .ref q9), (0, .ref (qa 0 0)), (1, .int x1), (2, .int x2), (3, .ref ao)]) hx hb dL_ifPassed_13 hl (by decide) rfl (fun ls hl => ?_)
  refine lv_iconst (v := 1) hx hb dL_ifPassed_15 (by decide) ?_
  exact vx_ret (pw_ri hx hb hr hlk hAe hP hS rfl dL_ifPassed_16)
def aL_waitsFor : List Cond := Cond.codeWith yL_waitsFor cL_waitsFor 4 (some .int) [(0, 9, 12, 13)] :: pw_all
theorem pL_waitsFor : yL_waitsFor.cls ≠ "java/lang/invoke/MethodHandle" ∧ yL_waitsFor.cls ≠ "java/lang/invoke/VarHandle" ∧ (parseMethodDescriptor yL_waitsFor.desc).map (fun d => d.parameters.length) = some 3 := by decide +kernel
set_option maxHeartbeats 8000000 in
set_option maxRecDepth 100000 in
theorem kL_waitsFor_r (l : Launch) (hfl : l.stackTraces = false) (D : va_G) (cy : Nat → ClassId) (qa : Nat → Nat → Nat) (sz : Nat) (P : Nat → Nat → Int32) (T : Nat → Nat → Int32) (S : Nat → Nat → Nat → Int32) (nw : Int32) (hz : Int32) (ak : Nat → Int32) (pa : Nat → Int32) (wt : Nat → Int32) (cd : Nat → Int32) (ln : Int32) (ao : Nat) (ov : Nat → Int64) (x1 : Int32) (o : Int32 × (Nat → Nat → Int32) × (Nat → Int32)) (h : fX3_waitsFor x1 P T wt = some (Sum.inr o)) : vx_Met l yL_waitsFor aL_waitsFor ({ frames := 7, cells := 0, slots := 0, locals := 159 } : Room) (pw_PreE D cy [.ref (qa 0 0), .int x1, .ref ao] (WL cy qa P T S nw hz ak pa wt cd ln ao ov) sz) (pw_I D 0 (WL cy qa P T S nw hz ak pa wt cd ln ao ov) (WL cy qa P o.2.1 S nw hz ak pa o.2.2 cd ln ao (vp_updL ov (0 : Int32).toNatClampNeg o.1.toInt64)) sz) (fun _ _ _ => False) 0 0 (va_A (WL cy qa P T S nw hz ak pa wt cd ln ao ov) sz) := by
  refine pw_metW (cc := cL_waitsFor) (maxL := 4) (ret := (some .int)) (hh := [(0, 9, 12, 13)]) (by decide) rfl (Nat.le_of_ble_eq_true rfl) ?_
  intro p e s m args below meth c ls A hx hb hr hml hlk hts hown hAe hA hK hP hD hS hl htab hE
  have hl : lv_has ls 4 [(0, .ref (qa 0 0)), (1, .int x1), (2, .ref ao)] := hl
  have hF : CallFix p m c cL_waitsFor 4 s args aL_waitsFor RL := ⟨hx, hb, hml, hown, hts⟩
  have hta : ∀ w ∈ pw_all, w.before args s = true := fun w h => hts w (List.mem_cons_of_mem _ h)
  refine lv_aload_n hx hb dL_waitsFor_0 rfl (lv_at hl 2 rfl) ?_
  refine lv_iconst (v := 0) hx hb dL_waitsFor_1 (by decide) ?_
  refine lv_aload_n hx hb dL_waitsFor_2 rfl (lv_at hl 0 rfl) ?_
  refine lv_iload_n hx hb dL_waitsFor_3 rfl (lv_at hl 1 rfl) ?_
  refine pw_fi (ws0 := WL cy qa P T S nw hz ak pa wt cd ln ao ov) (ws1 := W3 cy qa P o.2.1 S nw hz ak pa o.2.2 cd ln ++ [(ao, .inl (cy 3, 1, .inr (.inl ov)))]) (wa := []) (wb := [(ao, .inl (cy 3, 1, .inr (.inl ov)))]) (wc := W3 cy qa P T S nw hz ak pa wt cd ln) (w1 := W3 cy qa P o.2.1 S nw hz ak pa o.2.2 cd ln) (rest := [.int 0, .ref ao]) (As := [.int x1]) hF (kX3_waitsFor l D cy qa _ P T S nw hz ak pa wt cd ln x1 o h) (cwV 1 hts (pw_gV (own := RL) (idx := 67) (C := RX3) (y := yX3_waitsFor) aw_668 aw_669 aw_670 aw_1 aw_671) rfl rfl rfl pX3_waitsFor ⟨Nat.le_of_ble_eq_true rfl, Nat.le_of_ble_eq_true rfl⟩) 3 (RX3, TX3, 7) rfl rfl ⟨0, _, rfl⟩ hK hP hD hS hA rfl rfl rfl rfl hl.1 rfl (Nat.le_of_ble_eq_true rfl) dL_waitsFor_4 ⟨Nat.zero_le _, Nat.zero_le _⟩ (fun H locs hP hD hS => ?_)
  refine lv_i2l (v := o.1.toInt64) hx hb dL_waitsFor_7 rfl ?_
  refine va_last hx hb hK hP hD hS 128 3 rfl rfl (pq_vp (by decide +kernel)) dL_waitsFor_8 (fun H locs hP hD hS => ?_)
  have hP : va_P D vwCl (WL cy qa P o.2.1 S nw hz ak pa o.2.2 cd ln ao (vp_updL ov (0 : Int32).toNatClampNeg o.1.toInt64)) H := hP
  refine lv_goto (tgt := 15) hx hb dL_waitsFor_9 (by decide) ?_
  refine lv_iconst (v := 0) hx hb dL_waitsFor_15 (by decide) ?_
  exact vx_ret (pw_ri hx hb hr hlk hAe hP hS rfl dL_waitsFor_16)
set_option maxHeartbeats 8000000 in
set_option maxRecDepth 100000 in
theorem kL_waitsFor_t1 (l : Launch) (hfl : l.stackTraces = false) (D : va_G) (cy : Nat → ClassId) (qa : Nat → Nat → Nat) (sz : Nat) (P : Nat → Nat → Int32) (T : Nat → Nat → Int32) (S : Nat → Nat → Nat → Int32) (nw : Int32) (hz : Int32) (ak : Nat → Int32) (pa : Nat → Int32) (wt : Nat → Int32) (cd : Nat → Int32) (ln : Int32) (ao : Nat) (ov : Nat → Int64) (x1 : Int32) (h : fX3_waitsFor x1 P T wt = some (Sum.inl 1)) : vx_Met l yL_waitsFor aL_waitsFor ({ frames := 8, cells := 1, slots := 6, locals := 159 } : Room) (pw_PreE D cy [.ref (qa 0 0), .int x1, .ref ao] (WL cy qa P T S nw hz ak pa wt cd ln ao ov) sz) (pw_I D 1 (WL cy qa P T S nw hz ak pa wt cd ln ao ov) (WL cy qa P T S nw hz ak pa wt cd ln ao ov) sz) (fun _ _ _ => False) 1 6 (va_A (WL cy qa P T S nw hz ak pa wt cd ln ao ov) sz) := by
  refine pw_metW (cc := cL_waitsFor) (maxL := 4) (ret := (some .int)) (hh := [(0, 9, 12, 13)]) (by decide) rfl (Nat.le_of_ble_eq_true rfl) ?_
  intro p e s m args below meth c ls A hx hb hr hml hlk hts hown hAe hA hK hP hD hS hl htab hE
  have hl : lv_has ls 4 [(0, .ref (qa 0 0)), (1, .int x1), (2, .ref ao)] := hl
  have hF : CallFix p m c cL_waitsFor 4 s args aL_waitsFor RL := ⟨hx, hb, hml, hown, hts⟩
  have hta : ∀ w ∈ pw_all, w.before args s = true := fun w h => hts w (List.mem_cons_of_mem _ h)
  refine lv_aload_n hx hb dL_waitsFor_0 rfl (lv_at hl 2 rfl) ?_
  refine lv_iconst (v := 0) hx hb dL_waitsFor_1 (by decide) ?_
  refine lv_aload_n hx hb dL_waitsFor_2 rfl (lv_at hl 0 rfl) ?_
  refine lv_iload_n hx hb dL_waitsFor_3 rfl (lv_at hl 1 rfl) ?_
  refine pw_cT (ws0 := WL cy qa P T S nw hz ak pa wt cd ln ao ov) (wa := []) (wb := [(ao, .inl (cy 3, 1, .inr (.inl ov)))]) (wc := W3 cy qa P T S nw hz ak pa wt cd ln) (rest := [.int 0, .ref ao]) (As := [.int x1]) hF (kX3_waitsFor_t l hfl D cy qa _ P T S nw hz ak pa wt cd ln x1 1 h) (cwV 1 hts (pw_gV (own := RL) (idx := 67) (C := RX3) (y := yX3_waitsFor) aw_668 aw_669 aw_670 aw_1 aw_671) rfl rfl rfl pX3_waitsFor ⟨Nat.le_of_ble_eq_true rfl, Nat.le_of_ble_eq_true rfl⟩) 3 (RX3, TX3, 7) rfl rfl ⟨0, _, rfl⟩ hK hP hD hS hA hE rfl rfl hl.1 rfl (Nat.le_of_ble_eq_true rfl) dL_waitsFor_4 (Nat.le_of_ble_eq_true rfl) (Nat.le_of_ble_eq_true rfl) (fun E ce q9 H locs hEk hP hD hS hce hcv hfc => ?_)
  subst hEk
  refine vx_catch (name := "java/lang/IndexOutOfBoundsException") hown [] ⟨0, 9, 12, 13⟩ [] (by rw [htab]; rfl) (fun z hz => by cases hz) (by decide) (by decide) (hta _ aw_430) (va_Nw.use rfl (hE.1 (.castable (pw_ex 1) "java/lang/IndexOutOfBoundsException") (by decide +kernel))) hce hcv hfc ?_
  refine lv_astore_n (lv' := [(3, .ref q9), (0, .ref (qa 0 0)), (1, .int x1), (2, .ref ao)]) hx hb dL_waitsFor_12 rfl hl (by decide) rfl (fun ls hl => ?_)
  refine lv_iconst (v := 1) hx hb dL_waitsFor_13 (by decide) ?_
  exact vx_ret (pw_ri hx hb hr hlk hAe hP hS rfl dL_waitsFor_14)
