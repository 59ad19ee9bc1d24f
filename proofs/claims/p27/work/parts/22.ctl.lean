/-! ===== constructors: rows ===== -/
theorem pw_join {A : Nat → Prop} {D : va_G} {cl : List vw_C} {ws wc w1 : va_W} {H H1 : Heap} (hP : va_P D cl (ws ++ wc) H) (hD : va_D A (ws ++ wc)) (hk : ∀ q : Nat, q < H.size → ¬ va_A wc H.size q → H1[q]? = H[q]?) (hF : ∀ q, va_A wc H.size q → A q) (hP1 : va_P D cl w1 H1) (hD1 : va_D (va_A wc H.size) w1) : va_P D cl (ws ++ w1) H1 ∧ va_D A (ws ++ w1) := by
  have left : ∀ {w : va_W} (k : Nat) (q : Nat × va_E), ws[k]? = some q → (ws ++ w)[k]? = some q := fun k q h => by
    have hl := (List.getElem?_eq_some_iff.mp h).1
    rw [List.getElem?_append_left hl]
    exact h
  have hPw : va_P D cl ws H := fun k q h => hP k q (left k q h)
  have out : ∀ (k : Nat) (q : Nat × va_E), ws[k]? = some q → ¬ va_A wc H.size q.1 := by
    intro k q h
    rintro (⟨j, e, hj⟩ | hs)
    · have hl := (List.getElem?_eq_some_iff.mp h).1
      have h2 : (ws ++ wc)[ws.length + j]? = some (q.1, e) := by
        rw [List.getElem?_append_right (by omega), Nat.add_sub_cancel_left]
        exact hj
      have h3 := hD.1 k (ws.length + j) q (q.1, e) (left k q h) h2 rfl
      omega
    · have := (hPw k q h).lt
      omega
  refine ⟨(hPw.kept (fun k q h => hk q.1 ((hPw k q h).lt) (out k q h))).app hP1, fun i j x y hi hj e => ?_, fun k q hk => ?_⟩
  · rw [List.getElem?_append] at hi hj
    by_cases h1 : i < ws.length
    · rw [if_pos h1] at hi
      by_cases h2 : j < ws.length
      · rw [if_pos h2] at hj
        exact hD.1 i j x y (left i x hi) (left j y hj) e
      · rw [if_neg h2] at hj
        exact absurd (e ▸ hD1.2 _ y hj) (out i x hi)
    · rw [if_neg h1] at hi
      by_cases h2 : j < ws.length
      · rw [if_pos h2] at hj
        exact absurd (e ▸ hD1.2 _ x hi) (out j y hj)
      · rw [if_neg h2] at hj
        have := hD1.1 _ _ x y hi hj e
        omega
  · rw [List.getElem?_append] at hk
    by_cases h1 : k < ws.length
    · rw [if_pos h1] at hk
      exact hD.2 k q (left k q hk)
    · rw [if_neg h1] at hk
      exact hF _ (hD1.2 _ q hk)
theorem pw_RA {U : State} {c1 c2 : ClassId} {ty : FieldType} (h1 : va_RA U c1 ty) (h2 : va_RA U c2 ty) : c1 = c2 := by
  cases ty with
  | object C =>
    obtain ⟨_, _, _, _, _, a⟩ := h1
    obtain ⟨_, _, _, _, _, b⟩ := h2
    exact Option.some.inj (a.symm.trans b)
  | _ => exact Option.some.inj ((show _ = some c1 from h1).symm.trans (show _ = some c2 from h2))
/-- what a constructor finds: its object, the premises of a throw, the row of pools -/
abbrev pw_PreI (D : va_G) (cy : Nat → ClassId) (av : List Value) (ws : va_W) (sz : Nat) : Array Value → State → Prop := va_Pc av (fun U => U.heap.size = sz ∧ va_P D vwCl ws U.heap ∧ va_K D vwCl (pw_tys cy) U ∧ va_D (fun _ => True) ws ∧ pw_E (va_A ws sz) U U.heap ∧ va_AO "PoolTurns$Pool" U)
theorem pw_blindI {D : va_G} {cy : Nat → ClassId} {av : List Value} {ws : va_W} {sz : Nat} : FrameBlind (pw_PreI D cy av ws sz) := fun a U g mk q => by
  obtain ⟨q0, q1, qP, qK, qD, qE, qO⟩ := q
  exact ⟨q0, q1, qP, va_K.moved (u := U) (U := U.calling g mk a) (Vm.Alike.refl U.vm) qK, qD, qE.blind, va_AO.moved (u := U) (U := U.calling g mk a) (Vm.Alike.refl U.vm) qO⟩
theorem pw_preI {D : va_G} {cy : Nat → ClassId} {av : List Value} {ws : va_W} {H : Heap} {s : State} {A : Nat → Prop} {locs : List Loc} (hP : va_P D vwCl ws H) (hK : va_K D vwCl (pw_tys cy) s) (hD : va_D (fun _ => True) ws) (hS : va_S A s.heap H locs) (hB : ∀ q, va_A ws H.size q → A q) (hE : pw_E A s s.heap) (hO : va_AO "PoolTurns$Pool" s) : ∀ U : State, U.heap = H → s.WarmedH U.vm → pw_PreI D cy av ws H.size av.toArray U := fun U hU hW =>
  ⟨rfl, by rw [hU], by rw [hU]; exact hP, va_K.moved hW.alike hK, hD, by rw [hU]; exact hE.call hW hS hB, va_AO.moved hW.alike hO⟩
theorem pw_metI {l : Launch} {y : MethodName} {cc : ByteArray} {maxL : Nat} {ret : Option FieldType} {ws ws' : List Cond} {rm : Room} {D : va_G} {cy : Nat → ClassId} {av : List Value} {w0 : va_W} {sz mc ms : Nat} {Qc : Array Value → State → Outcome → State → Prop} (hy : plainName y.cls = true) (hw : ws = Cond.code y cc maxL ret :: ws') (hlen : (lg_sl av).length ≤ maxL)
    (body : ∀ (p : Program) (e : Env) (s : State) (m : MethodId) (args : Array Value) (below : List Frame) (meth : Method) (c : Code) (ls : Array Slot) (A : Nat → Prop), p.tables.exec = Jvm.exec → c.code = cc → meth.sig.returnType = ret → c.maxLocals = maxL → meth.locks = false → (∀ w ∈ ws, w.before args s = true) → s.vm.findClass y.cls = some m.cls → A = va_A w0 sz → (∀ q : Nat, s.heap.size ≤ q → A q) → va_K D vwCl (pw_tys cy) s → va_P D vwCl w0 s.heap → va_D A w0 → va_S A s.heap s.heap [] → lv_has ls maxL (lv_args 0 av) → pw_E A s s.heap → va_AO "PoolTurns$Pool" s → meth.name = y.name →
      W p l e rm s m args below meth c s.heap [] 0 0 (MQ below Qc args s mc ms (va_A w0 sz)) (F0 m 0 ls [])) : Met l y ws rm (pw_PreI D cy av w0 sz) Qc mc ms (va_A w0 sz) := by
  refine Met.ofW (cc := cc) (maxL := maxL) (ret := ret) hy hw ?_
  intro p e s m args below meth c s₁ B hml hv
  obtain ⟨rfl, hsz, hP, hK, hD0, hE, hO⟩ := hv
  have hts := atoms_spec (ws := ws) B.pre
  have hown : s.vm.findClass y.cls = some m.cls := findClass_of_methodNamed B.named
  subst hsz
  have hl := lv_entry av (n := maxL) hlen
  rw [lg_entry_eq]
  exact body p e s m _ below meth c _ (va_A w0 s.heap.size) B.exec B.bytes B.returns hml B.notSynchronized hts hown rfl (fun q h => Or.inr h) hK hP hD0.self va_S.rf hl hE hO (name_of_methodNamed B.named B.method).1
/-- what a constructor leaves: a world of its own -/
abbrev pw_QW {S : Type} (D : va_G) (po : S → Prop) (Wn : S → va_W) (w0 : va_W) (sz : Nat) : Array Value → State → Outcome → State → Prop := va_Qv po (fun q t => va_P D vwCl (Wn q) t.heap ∧ va_D (va_A w0 sz) (Wn q)) (va_A w0 sz)
section PWI
variable {p : Program} {l : Launch} {e : Env} {R : Room} {s : State} {m : MethodId} {args : Array Value} {below : List Frame} {meth : Method} {c : Code} {H : Heap} {locs : List Loc} {cells slots : Nat} {Q : State → Prop}
variable {cc : ByteArray} {D : va_G} {cy : Nat → ClassId} {w0 ws w1 : va_W} {sz : Nat} {A : Nat → Prop} {pc : Nat} {ls : Array Slot} {rest : List Value}
theorem pw_rw {S : Type} {po : S → Prop} {Wn : S → va_W} (u : S) (hx : p.tables.exec = Jvm.exec) (hb : c.code = cc) (hr : meth.sig.returnType = none) (hlocks : meth.locks = false) (hAe : A = va_A w0 sz) (hP : va_P D vwCl (Wn u) H) (hD : va_D A (Wn u)) (hu : po u) (hS : va_S A s.heap H locs) (hdg : decode cc pc = .ok (.return_, 1)) :
    W p l e R s m args below meth c H locs cells slots (MQ below (pw_QW D po Wn w0 sz) args s cells slots (va_A w0 sz)) (F0 m pc ls []) := by
  subst hAe
  exact W.vret hx hb hr (fun t ht hW => ⟨⟨u, rfl, hu, by rw [ht]; exact hP, hD⟩, hS.F ht⟩) hS.2.2 hdg hlocks
theorem pw_newa (hexec : p.tables.exec = Jvm.exec) (hb : c.code = cc) {atype : ArrayType} (harr : (Cond.arrayClass (newarray.typeOf atype)).before args s = true) {ty : FieldType} (hty : newarray.typeOf atype = ty) (t0 : Nat) (ht : (pw_tys cy)[t0]? = some (cy t0, ty)) (hK : va_K D vwCl (pw_tys cy) s) (hP : va_P D vwCl ws H) (hD : va_D A ws) (hS : va_S A s.heap H locs) (hA : ∀ q, s.heap.size ≤ q → A q)
    {n : Int32} {N' : Nat} {a0 : vp_A} (ha : ∀ cA : ClassId, vp_cell cA a0 = arrV cA N' (fun _ => defaultValue ty)) (hn : ¬ n < 0) (hN : n.toNatClampNeg = N') (hbytes : N' * componentBytes ty ≤ 536870912) (hcells : cells + 1 ≤ R.cells) (hslots : slots + N' ≤ R.slots) (hdg : decode cc pc = .ok (.newarray atype, 2))
    (kk : ∀ (q : Nat) (H1 : Heap), va_P D vwCl (ws ++ [(q, .inl (cy t0, a0))]) H1 → va_D A (ws ++ [(q, .inl (cy t0, a0))]) → va_S A s.heap H1 locs → W p l e R s m args below meth c H1 locs (cells + 1) (slots + N') Q (F0 m (pc + 2) ls (.ref q :: rest))) : W p l e R s m args below meth c H locs cells slots Q (F0 m pc ls (.int n :: rest)) := by
  refine va_newa hexec hb harr hty hK hP hD hS hA ha hn hN hbytes hcells hslots hdg (fun q cA H1 hK1 hP1 hD1 hS1 => ?_)
  have e : cA = cy t0 := pw_RA (hK1.2 3 (cA, ty) rfl).2 (hK.2 t0 _ ht).2
  subst e
  exact kk q H1 hP1 hD1 hS1
theorem pw_newq (hexec : p.tables.exec = Jvm.exec) (hb : c.code = cc) {own : String} {index : Nat} (hown : s.vm.findClass own = some m.cls) (hclink : (Cond.classLink own index "PoolTurns$Pool").before args s = true) (hover : va_AO "PoolTurns$Pool" s) (hK : va_K D vwCl (pw_tys cy) s) (hP : va_P D vwCl ws H) (hD : va_D A ws) (hS : va_S A s.heap H locs) (hA : ∀ q, s.heap.size ≤ q → A q)
    {n : Int32} {N' : Nat} (hn : ¬ n < 0) (hN : n.toNatClampNeg = N') (hbytes : N' * 4 ≤ 536870912) (hcells : cells + 1 ≤ R.cells) (hslots : slots + N' ≤ R.slots) (hdg : decode cc pc = .ok (.anewarray index, 3))
    (kk : ∀ (q : Nat) (H1 : Heap), va_P D vwCl (ws ++ [(q, .inl (cy 2, N', .inr (.inr (.inr (.inr (fun _ => none))))))]) H1 → va_D A (ws ++ [(q, .inl (cy 2, N', .inr (.inr (.inr (.inr (fun _ => none))))))]) → va_S A s.heap H1 locs → W p l e R s m args below meth c H1 locs (cells + 1) (slots + N') Q (F0 m (pc + 3) ls (.ref q :: rest))) : W p l e R s m args below meth c H locs cells slots Q (F0 m pc ls (.int n :: rest)) := by
  refine va_newq hexec hb hown hclink hover hK hP hD hS hA hn hN hbytes hcells hslots hdg (fun q cA H1 hK1 hP1 hD1 hS1 => ?_)
  have e : cA = cy 2 := pw_RA (hK1.2 3 (cA, .object "PoolTurns$Pool") rfl).2 (hK.2 2 _ rfl).2
  subst e
  exact kk q H1 hP1 hD1 hS1
/-- a constructor is called on the newest object -/
theorem pw_ctor {S : Type} {po : S → Prop} {Wn : S → va_W} {y : MethodName} {wsc : List Cond} {rm : Room} {mc ms maxL nL index : Nat} {bytes : ByteArray} {Ts : List Cond} {own : String} {a : Nat} {E : va_E} (X : CallFix p m c cc nL s args Ts own) (hM : Met l y wsc rm (pw_PreI D cy [.ref a] [(a, E)] H.size) (pw_QW D po Wn [(a, E)] H.size) mc ms (va_A [(a, E)] H.size)) (cw : CallB R s args own index y bytes maxL none wsc rm mc ms 0 ∧ y.name = "<init>" ∧ (Cond.instanceMethod y).before args s = true) (hsz : ls.size = nL)
    (hP : va_P D vwCl (ws ++ [(a, E)]) H) (hK : va_K D vwCl (pw_tys cy) s) (hD : va_D A (ws ++ [(a, E)])) (hS : va_S A s.heap H locs) (hA : ∀ q : Nat, s.heap.size ≤ q → A q) (hE : pw_E A s s.heap) (hO : va_AO "PoolTurns$Pool" s) (hW : (rest.map fun v => v.category).sum ≤ 8) (hdg : decode cc pc = .ok (.invokespecial index, 3)) (hR : cells + mc ≤ R.cells ∧ slots + ms ≤ R.slots)
    (kk : ∀ (u : S) (H1 : Heap) (locs1 : List Loc), po u → va_P D vwCl (ws ++ Wn u) H1 → va_D A (ws ++ Wn u) → va_S A s.heap H1 locs1 → W p l e R s m args below meth c H1 locs1 (cells + mc) (slots + ms) Q (F0 m (pc + 3) ls rest)) : W p l e R s m args below meth c H locs cells slots Q (F0 m pc ls (.ref a :: rest)) := by
  have hPc : va_P D vwCl [(a, E)] H := fun k q hk => by
    refine hP (ws.length + k) q ?_
    rw [List.getElem?_append_right (by omega), Nat.add_sub_cancel_left]
    exact hk
  have hDc : va_D (fun _ => True) [(a, E)] := ⟨fun i j x y hi hj _ => by
    have h1 := (List.getElem?_eq_some_iff.mp hi).1
    have h2 := (List.getElem?_eq_some_iff.mp hj).1
    have h1 : i < 1 := h1
    have h2 : j < 1 := h2
    omega, fun _ _ _ => trivial⟩
  have ha : A a := hD.2 ws.length (a, E) (by rw [List.getElem?_append_right (Nat.le_refl _), Nat.sub_self]; rfl)
  have hF : ∀ q, va_A [(a, E)] H.size q → A q := by
    rintro q (⟨k, e', hk⟩ | h)
    · have h1 : k < 1 := (List.getElem?_eq_some_iff.mp hk).1
      have h0 : k = 0 := by omega
      subst h0
      cases hk
      exact ha
    · exact hA q (Nat.le_trans hS.1 h)
  refine va_callv (va_runI (As := []) (rest := rest) X hM cw ⟨pw_blindI, pw_preI hPc hK hDc hS hF hE hO⟩ rfl rfl hsz rfl (lv_room (pc := pc) (ls := ls) (m := m) hW) hdg hR) hS (fun q _ h => hF q h) hF (fun u t H1 locs1 ht hvm hw hB hz hk hS1 => ?_)
  obtain ⟨hP1, hD1⟩ := hB
  rw [ht] at hP1
  obtain ⟨hP2, hD2⟩ := pw_join hP hD hk hF hP1 hD1
  exact kk u H1 locs1 hw hP2 hD2 hS1
theorem pw_ctorN {S : Type} {po : S → Prop} {Wn : S → va_W} {y : MethodName} {wsc : List Cond} {rm : Room} {mc ms maxL nL index : Nat} {bytes : ByteArray} {Ts : List Cond} {own host : String} {a : Nat} {E : va_E} (X : CallFix p m c cc nL s args Ts own) (hM : Met l y wsc rm (pw_PreI D cy [.ref a] [(a, E)] H.size) (pw_QW D po Wn [(a, E)] H.size) mc ms (va_A [(a, E)] H.size)) (cw : va_CN R s args own index y host bytes maxL none wsc rm mc ms 0 ∧ y.name = "<init>" ∧ (Cond.instanceMethod y).before args s = true) (hsz : ls.size = nL)
    (hP : va_P D vwCl (ws ++ [(a, E)]) H) (hK : va_K D vwCl (pw_tys cy) s) (hD : va_D A (ws ++ [(a, E)])) (hS : va_S A s.heap H locs) (hA : ∀ q : Nat, s.heap.size ≤ q → A q) (hE : pw_E A s s.heap) (hO : va_AO "PoolTurns$Pool" s) (hW : (rest.map fun v => v.category).sum ≤ 8) (hdg : decode cc pc = .ok (.invokespecial index, 3)) (hR : cells + mc ≤ R.cells ∧ slots + ms ≤ R.slots)
    (kk : ∀ (u : S) (H1 : Heap) (locs1 : List Loc), po u → va_P D vwCl (ws ++ Wn u) H1 → va_D A (ws ++ Wn u) → va_S A s.heap H1 locs1 → W p l e R s m args below meth c H1 locs1 (cells + mc) (slots + ms) Q (F0 m (pc + 3) ls rest)) : W p l e R s m args below meth c H locs cells slots Q (F0 m pc ls (.ref a :: rest)) := by
  have hPc : va_P D vwCl [(a, E)] H := fun k q hk => by
    refine hP (ws.length + k) q ?_
    rw [List.getElem?_append_right (by omega), Nat.add_sub_cancel_left]
    exact hk
  have hDc : va_D (fun _ => True) [(a, E)] := ⟨fun i j x y hi hj _ => by
    have h1 := (List.getElem?_eq_some_iff.mp hi).1
    have h2 := (List.getElem?_eq_some_iff.mp hj).1
    have h1 : i < 1 := h1
    have h2 : j < 1 := h2
    omega, fun _ _ _ => trivial⟩
  have ha : A a := hD.2 ws.length (a, E) (by rw [List.getElem?_append_right (Nat.le_refl _), Nat.sub_self]; rfl)
  have hF : ∀ q, va_A [(a, E)] H.size q → A q := by
    rintro q (⟨k, e', hk⟩ | h)
    · have h1 : k < 1 := (List.getElem?_eq_some_iff.mp hk).1
      have h0 : k = 0 := by omega
      subst h0
      cases hk
      exact ha
    · exact hA q (Nat.le_trans hS.1 h)
  refine va_callv (va_runIN (As := []) (rest := rest) X hM cw ⟨pw_blindI, pw_preI hPc hK hDc hS hF hE hO⟩ rfl rfl hsz rfl (lv_room (pc := pc) (ls := ls) (m := m) hW) hdg hR) hS (fun q _ h => hF q h) hF (fun u t H1 locs1 ht hvm hw hB hz hk hS1 => ?_)
  obtain ⟨hP1, hD1⟩ := hB
  rw [ht] at hP1
  obtain ⟨hP2, hD2⟩ := pw_join hP hD hk hF hP1 hD1
  exact kk u H1 locs1 hw hP2 hD2 hS1
/-- the first numbers of a static row are copied -/
theorem pw_copyT (hexec : p.tables.exec = Jvm.exec) (hb : c.code = cc) (hml : c.maxLocals = ls.size) {own : String} {index : Nat} (hown : s.vm.findClass own = some m.cls) (hlink : (Cond.methodLink own index arraycopyName).before args s = true) (hnat : (Cond.native arraycopyName).before args s = true) (hstat : (Cond.static arraycopyName).before args s = true) (hini : (Cond.initialized "java/lang/System").before args s = true)
    {tys : List (ClassId × FieldType)} {cl : List vw_C} (hK : va_K D cl tys s) (hP : va_P D cl ws H) (hD : va_D A ws) (hS : va_S A s.heap H locs) {a b0 : Nat} {f : Nat → Int32} (hT : va_T .int b0 9 (fun j => .int (f j)) A s s.heap) (q1 t1 : Nat) {c1 : ClassId} {g : Nat → Int32} (ha1 : ws[q1]? = some (a, .inl (c1, 9, .inl g))) (ht1 : tys[t1]? = some (c1, .int))
    (hframes : 1 ≤ R.frames) (hlocals : (rest.map fun v => v.category).sum + (nativeFrameWords "java/lang/System" "arraycopy" 5 + 11) ≤ R.locals) (hdg : decode cc pc = .ok (.invokestatic index, 3))
    (kk : ∀ (H1 : Heap) (locs1 : List Loc), va_P D cl (ws.set q1 (a, .inl (c1, 9, .inl f))) H1 → va_D A (ws.set q1 (a, .inl (c1, 9, .inl f))) → va_S A s.heap H1 locs1 → W p l e R s m args below meth c H1 locs1 cells slots Q (F0 m (pc + 3) ls rest)) : W p l e R s m args below meth c H locs cells slots Q (F0 m pc ls (.int 9 :: .int 0 :: .ref a :: .int 0 :: .ref b0 :: rest)) := by
  intro T hT0 X
  obtain ⟨scr, hs1, hs2, hs3, hs4, _, hs5, hbA⟩ := hT
  have hbl : b0 < s.heap.size := (Array.getElem?_eq_some_iff.mp hs1).1
  have hc0 : H[b0]? = some scr := by rw [hS.2.1 b0 hbl hbA]; exact hs1
  have hc1 : H[a]? = some (vp_cell c1 (9, .inl g)) := hP q1 _ ha1
  obtain ⟨hs6, k0, hk0, cm0, hkk0⟩ := hs2
  obtain ⟨-, k1, hk1, cm1, hkk1⟩ := (hK.2 t1 _ ht1).1 9 (fun j => .int (g j))
  have z9 : (9 : Int32).toInt = 9 := by decide
  have z0 : (0 : Int32).toInt = 0 := by decide
  have n9 : (9 : Int32).toNatClampNeg = 9 := by decide
  have n0 : (0 : Int32).toNatClampNeg = 0 := by decide
  obtain ⟨vm', X', step⟩ := X.arraycopy hexec hown hlink hnat hstat hini (src := b0) (dst := a) (cs := scr) (cd := vp_cell c1 (9, .inl g)) (srcPos := 0) (destPos := 0) (n := 9) (by rw [hT0]; exact hc0) (by rw [hT0]; exact hc1)
    hs6 (fun _ h => by cases h) hs3 (fun h => by cases h) hk0 hk1 hkk0 hkk1 (by simp [refKind]) (by decide) (by decide) (by decide)
    (by rw [z0, z9]; omega)
    (by rw [z0, z9]; show ¬ _ > ((arrV c1 9 (fun j => .int (g j))).slots.size : Int); rw [arrV_size]; omega)
    (fun vm₁ _ i hi => by
      have hi : i < 9 := by rw [n9] at hi; exact hi
      have e : scr.slots.getD ((0 : Int32).toNatClampNeg + i) .null = .int (f i) := by
        rw [n0, Nat.zero_add, Array.getD_eq_getD_getElem?, hs5 _ hi]
        rfl
      refine ⟨?_, ?_⟩
      · rw [e]; rfl
      · rw [e]; exact trivial)
    (g := F0 m pc ls (.int 9 :: .int 0 :: .ref a :: .int 0 :: .ref b0 :: rest)) rfl (by rw [hml]) (rest := rest) rfl (by rw [hb]; exact hdg) hframes (by show 2 * 0 + _ + _ ≤ _; omega)
  have e1 : copied scr (vp_cell c1 (9, .inl g)) 0 0 9 = vp_cell c1 (9, .inl f) := by
    have e2 : copied scr (vp_cell c1 (9, .inl g)) 0 0 9 = vp_cell c1 (9, .inl (va_cpy f g (0 : Int32).toNatClampNeg (0 : Int32).toNatClampNeg (9 : Int32).toNatClampNeg)) := va_copiedX (fun z => .int z) scr c1 f g hs5 (by rw [n0, n9]; omega)
    rw [e2, n0, n9, pw_cell (fun j hj => pk_cpy_in (f := f) (g := g) (sp := 0) (dp := 0) (n := 9) (j := j) (Nat.zero_le j) (by omega))]
    exact pw_cell (fun j _ => by show f (0 + (j - 0)) = f j; rw [Nat.zero_add, Nat.sub_zero])
  rw [e1] at X' step
  have hl : a < H.size := (Array.getElem?_eq_some_iff.mp hc1).1
  have hheap : ((T.setVm vm').setCell a (vp_cell c1 (9, .inl f))).heap = H.setIfInBounds a (vp_cell c1 (9, .inl f)) := by rw [← hT0]; rfl
  have oq : ∀ q : Nat, q ≠ a → (H.setIfInBounds a (vp_cell c1 (9, .inl f)))[q]? = H[q]? := fun q hq => by simp [Array.getElem?_setIfInBounds, Ne.symm hq]
  obtain ⟨t, a1, b1⟩ := kk _ _ (hP.set hD ha1 (show (H.setIfInBounds a _)[a]? = some _ by simp [Array.getElem?_setIfInBounds, hl]) oq) (hD.set ha1) ⟨by simp; exact hS.1, fun q g1 g2 => by
      rw [oq q (fun e => g2 (by rw [e]; exact hD.2 q1 _ ha1))]
      exact hS.2.1 q g1 g2, fun q hq => by
      rcases List.mem_append.mp hq with h | h
      · exact hS.2.2 q h
      · obtain ⟨z, -, hz⟩ := List.mem_map.mp h
        rw [← hz]
        exact hD.2 q1 _ ha1⟩ _ hheap X'
  exact ⟨t, step t a1, b1⟩
end PWI
