/-! ===== own rows: checks and branches of the functional texts; the walk's ends and calls over worlds of fixed addresses ===== -/
def pq_in (i : Int32) (n : Nat) : Bool := decide (¬ i < 0) && decide (i.toNatClampNeg < n)
theorem pq_vp {i : Int32} {n : Nat} (h : pq_in i n = true) : vp_in i n := by
  simp only [pq_in, Bool.and_eq_true, decide_eq_true_eq] at h
  intro q
  rcases q with q | q
  · exact h.1 q
  · exact absurd h.2 (Nat.not_lt.mpr q)
theorem pq_g {c : Prop} [Decidable c] {α : Type} {A : Option α} {r : α} (h : (if c then A else none) = some r) : c ∧ A = some r := by
  by_cases hc : c
  · rw [if_pos hc] at h; exact ⟨hc, h⟩
  · rw [if_neg hc] at h; cases h
theorem pq_t {c : Prop} [Decidable c] {α : Type} {A B : Option α} {r : α} (hc : c) (h : (if c then A else B) = some r) : A = some r := by
  rw [if_pos hc] at h; exact h
theorem pq_e {c : Prop} [Decidable c] {α : Type} {A B : Option α} {r : α} (hc : ¬ c) (h : (if c then A else B) = some r) : B = some r := by
  rw [if_neg hc] at h; exact h
theorem pq_b {α β : Type} {x : Option α} {k : α → Option β} {r : β} (h : x.bind k = some r) : ∃ a, x = some a ∧ k a = some r := by
  cases x with
  | none => cases h
  | some a => exact ⟨a, rfl, h⟩
theorem pq_n {α : Type} {r : α} {P : Prop} (h : (none : Option α) = some r) : P := by cases h
/-- an int that a field or an array of booleans can hold as it is -/
def pq_bool (x : Int32) : Bool := decide (x = 0) || decide (x = 1)
theorem pq_nz {x : Int32} (h : pq_bool x = true) : narrow .boolean (.int x) = .int x := by
  simp only [pq_bool, Bool.or_eq_true, decide_eq_true_eq] at h
  rcases h with h | h <;> subst h <;> rfl
def pu (u : Nat → Nat → Int32) (k : Nat) (f : Nat → Int32) : Nat → Nat → Int32 := fun j => if j = k then f else u j
abbrev pw_tys (cy : Nat → ClassId) : List (ClassId × FieldType) := [(cy 0, .int), (cy 1, .boolean), (cy 2, .object "PoolTurns$Pool")]
/-- the cells of a Pool: its object, its rows -/
abbrev WP (cy : Nat → ClassId) (q : Nat → Nat) (u : Nat → Nat → Int32) : va_W := [(q 0, .inr (2, [.int (u 0 0), .ref (q 1), .ref (q 2), .ref (q 3), .ref (q 4), .ref (q 5), .ref (q 6), .ref (q 7), .ref (q 8), .ref (q 9), .ref (q 10), .ref (q 11), .ref (q 12), .ref (q 13), .int (u 14 0), .ref (q 15)])), (q 1, .inl (cy 0, 9, .inl (u 1))), (q 2, .inl (cy 0, 8, .inl (u 2))), (q 3, .inl (cy 0, 8, .inl (u 3))), (q 4, .inl (cy 1, 8, .inl (u 4))), (q 5, .inl (cy 0, 8, .inl (u 5))), (q 6, .inl (cy 0, 8, .inl (u 6))), (q 7, .inl (cy 0, 8, .inl (u 7))), (q 8, .inl (cy 1, 8, .inl (u 8))), (q 9, .inl (cy 0, 8, .inl (u 9))), (q 10, .inl (cy 0, 8, .inl (u 10))), (q 11, .inl (cy 0, 8, .inl (u 11))), (q 12, .inl (cy 0, 8, .inl (u 12))), (q 13, .inl (cy 0, 8, .inl (u 13))), (q 15, .inl (cy 0, 7, .inl (u 15)))]
/-- the cells of a PoolTurnsModel -/
abbrev WM (cy : Nat → ClassId) (q : Nat → Nat) (th : Int32) (z sv : Nat → Int32) (sn : Int32) (sp bf : Nat → Int32) (ty : Int32) (gn : Nat → Int32) (hs : Int64) : va_W := [(q 0, .inr (4, [.int th, .ref (q 1), .ref (q 2), .int sn, .ref (q 4), .ref (q 5), .int ty, .ref (q 7), .long hs])), (q 1, .inl (cy 0, 114, .inl z)), (q 2, .inl (cy 0, 684, .inl sv)), (q 4, .inl (cy 0, 114, .inl sp)), (q 5, .inl (cy 0, 60, .inl bf)), (q 7, .inl (cy 0, 8, .inl gn))]
/-- the cells of a CallText -/
abbrev WT (cy : Nat → ClassId) (q : Nat → Nat) (cd : Nat → Int32) (ln : Int32) : va_W := [(q 0, .inr (0, [.ref (q 1), .int ln])), (q 1, .inl (cy 0, 60, .inl cd))]
abbrev pw_Pre (D : va_G) (cy : Nat → ClassId) (av : List Value) (ws : va_W) (sz : Nat) : Array Value → State → Prop := va_Pc av (fun U => U.heap.size = sz ∧ va_P D vwCl ws U.heap ∧ va_K D vwCl (pw_tys cy) U ∧ va_D (fun _ => True) ws)
abbrev pw_I (D : va_G) (r : Int32) (ws w1 : va_W) (sz : Nat) : Array Value → State → Outcome → State → Prop := va_Qi (fun (x : Int32) (_ : Unit) => x = r) (fun _ t => va_P D vwCl w1 t.heap) (va_A ws sz)
abbrev pw_J (D : va_G) (r : Int64) (ws w1 : va_W) (sz : Nat) : Array Value → State → Outcome → State → Prop := va_Ql (fun (x : Int64) (_ : Unit) => x = r) (fun _ t => va_P D vwCl w1 t.heap) (va_A ws sz)
abbrev pw_F (D : va_G) (r : UInt64) (ws w1 : va_W) (sz : Nat) : Array Value → State → Outcome → State → Prop := va_Qd (fun (x : UInt64) (_ : Unit) => x = r) (fun _ t => va_P D vwCl w1 t.heap) (va_A ws sz)
abbrev pw_V (D : va_G) (ws w1 : va_W) (sz : Nat) : Array Value → State → Outcome → State → Prop := va_Qv (fun (_ : Unit) => True) (fun _ t => va_P D vwCl w1 t.heap) (va_A ws sz)
theorem pw_blind {D : va_G} {cy : Nat → ClassId} {av : List Value} {ws : va_W} {sz : Nat} : FrameBlind (pw_Pre D cy av ws sz) := fun a U g mk q => by
  obtain ⟨q0, q1, qP, qK, qD⟩ := q
  exact ⟨q0, q1, qP, va_K.moved (u := U) (U := U.calling g mk a) (Vm.Alike.refl U.vm) qK, qD⟩
theorem pw_pre {D : va_G} {cy : Nat → ClassId} {av : List Value} {ws : va_W} {H : Heap} {s : State} {A : Nat → Prop} (hP : va_P D vwCl ws H) (hK : va_K D vwCl (pw_tys cy) s) (hD : va_D A ws) : ∀ U : State, U.heap = H → s.WarmedH U.vm → pw_Pre D cy av ws H.size av.toArray U := fun U hU hW =>
  ⟨rfl, by rw [hU], by rw [hU]; exact hP, va_K.moved hW.alike hK, hD.weaken (fun _ _ _ _ => trivial)⟩
/-- apartness speaks of addresses alone -/
theorem pw_adr {A : Nat → Prop} {ws w1 : va_W} (hD : va_D A ws) (h : w1.map Prod.fst = ws.map Prod.fst) : va_D A w1 := by
  have key : ∀ (k : Nat) (q : Nat × va_E), w1[k]? = some q → ∃ q0, ws[k]? = some q0 ∧ q0.1 = q.1 := by
    intro k q hk
    have h1 : (w1.map Prod.fst)[k]? = some q.1 := by rw [List.getElem?_map, hk]; rfl
    rw [h, List.getElem?_map] at h1
    cases hw : ws[k]? with
    | none => rw [hw] at h1; cases h1
    | some q0 => rw [hw] at h1; exact ⟨q0, rfl, Option.some.inj h1⟩
  refine ⟨fun i j x y hi hj hxy => ?_, fun k q hk => ?_⟩
  · obtain ⟨x0, h1, h2⟩ := key i x hi
    obtain ⟨y0, h3, h4⟩ := key j y hj
    exact hD.1 i j x0 y0 h1 h3 (h2.trans (hxy.trans h4.symm))
  · obtain ⟨q0, h1, h2⟩ := key k q hk
    rw [← h2]
    exact hD.2 k q0 h1
theorem pw_own {A : Nat → Prop} {ws : va_W} {H0 H : Heap} {locs : List Loc} (hD : va_D A ws) (hS : va_S A H0 H locs) (hA : ∀ q : Nat, H0.size ≤ q → A q) : ∀ q, va_A ws H.size q → A q := fun q h =>
  h.elim (fun ⟨k, _, h⟩ => hD.2 k _ h) (fun h => hA q (Nat.le_trans hS.1 h))
theorem pw_met {l : Launch} {y : MethodName} {cc : ByteArray} {maxL : Nat} {ret : Option FieldType} {ws ws' : List Cond} {rm : Room} {D : va_G} {cy : Nat → ClassId} {av : List Value} {w0 : va_W} {sz mc ms : Nat} {Qc : Array Value → State → Outcome → State → Prop} (hy : plainName y.cls = true) (hw : ws = Cond.code y cc maxL ret :: ws') (hlen : (lg_sl av).length ≤ maxL)
    (body : ∀ (p : Program) (e : Env) (s : State) (m : MethodId) (args : Array Value) (below : List Frame) (meth : Method) (c : Code) (ls : Array Slot) (A : Nat → Prop), p.tables.exec = Jvm.exec → c.code = cc → meth.sig.returnType = ret → c.maxLocals = maxL → meth.locks = false → (∀ w ∈ ws, w.before args s = true) → s.vm.findClass y.cls = some m.cls → A = va_A w0 sz → (∀ q : Nat, s.heap.size ≤ q → A q) → va_K D vwCl (pw_tys cy) s → va_P D vwCl w0 s.heap → va_D A w0 → va_S A s.heap s.heap [] → lv_has ls maxL (lv_args 0 av) →
      W p l e rm s m args below meth c s.heap [] 0 0 (MQ below Qc args s mc ms (va_A w0 sz)) (F0 m 0 ls [])) : Met l y ws rm (pw_Pre D cy av w0 sz) Qc mc ms (va_A w0 sz) := by
  refine Met.ofW (cc := cc) (maxL := maxL) (ret := ret) hy hw ?_
  intro p e s m args below meth c s₁ B hml hv
  obtain ⟨rfl, hsz, hP, hK, hD0⟩ := hv
  have hts := atoms_spec (ws := ws) B.pre
  have hown : s.vm.findClass y.cls = some m.cls := findClass_of_methodNamed B.named
  subst hsz
  have hl := lv_entry av (n := maxL) hlen
  rw [lg_entry_eq]
  exact body p e s m _ below meth c _ (va_A w0 s.heap.size) B.exec B.bytes B.returns hml B.notSynchronized hts hown rfl (fun q h => Or.inr h) hK hP hD0.self va_S.rf hl
section PWR
variable {p : Program} {l : Launch} {e : Env} {R : Room} {s : State} {m : MethodId} {args : Array Value} {below : List Frame} {meth : Method} {c : Code} {H : Heap} {locs : List Loc} {cells slots : Nat} {Q : State → Prop}
variable {cc : ByteArray} {D : va_G} {cy : Nat → ClassId} {w0 w1 : va_W} {sz : Nat} {A : Nat → Prop} {pc : Nat} {ls : Array Slot}
theorem pw_ri {r v : Int32} (hx : p.tables.exec = Jvm.exec) (hb : c.code = cc) (hr : meth.sig.returnType = some .int) (hlocks : meth.locks = false) (hAe : A = va_A w0 sz) (hP : va_P D vwCl w1 H) (hS : va_S A s.heap H locs) (hv : v = r) (hdg : decode cc pc = .ok (.ireturn, 1)) :
    W p l e R s m args below meth c H locs cells slots (MQ below (pw_I D r w0 w1 sz) args s cells slots (va_A w0 sz)) (F0 m pc ls [.int v]) := by
  subst hAe
  exact W.iret (v := v) hx hb hr (fun t ht hW => ⟨⟨v, (), rfl, hv, by show va_P D vwCl w1 t.heap; rw [ht]; exact hP⟩, hS.F ht⟩) hS.2.2 hdg hlocks
theorem pw_rz {r v : Int32} (hx : p.tables.exec = Jvm.exec) (hb : c.code = cc) (hr : meth.sig.returnType = some .boolean) (hn : narrow .boolean (.int v) = .int v) (hlocks : meth.locks = false) (hAe : A = va_A w0 sz) (hP : va_P D vwCl w1 H) (hS : va_S A s.heap H locs) (hv : v = r) (hdg : decode cc pc = .ok (.ireturn, 1)) :
    W p l e R s m args below meth c H locs cells slots (MQ below (pw_I D r w0 w1 sz) args s cells slots (va_A w0 sz)) (F0 m pc ls [.int v]) := by
  subst hAe
  exact W.zret (v := v) hx hb hr hn (fun t ht hW => ⟨⟨v, (), rfl, hv, by show va_P D vwCl w1 t.heap; rw [ht]; exact hP⟩, hS.F ht⟩) hS.2.2 hdg hlocks
theorem pw_rv (hx : p.tables.exec = Jvm.exec) (hb : c.code = cc) (hr : meth.sig.returnType = none) (hlocks : meth.locks = false) (hAe : A = va_A w0 sz) (hP : va_P D vwCl w1 H) (hS : va_S A s.heap H locs) (hdg : decode cc pc = .ok (.return_, 1)) :
    W p l e R s m args below meth c H locs cells slots (MQ below (pw_V D w0 w1 sz) args s cells slots (va_A w0 sz)) (F0 m pc ls []) := by
  subst hAe
  exact W.vret hx hb hr (fun t ht hW => ⟨⟨(), rfl, trivial, by show va_P D vwCl w1 t.heap; rw [ht]; exact hP⟩, hS.F ht⟩) hS.2.2 hdg hlocks
theorem pw_rj {r v : Int64} (hx : p.tables.exec = Jvm.exec) (hb : c.code = cc) (hr : meth.sig.returnType = some .long) (hlocks : meth.locks = false) (hAe : A = va_A w0 sz) (hP : va_P D vwCl w1 H) (hS : va_S A s.heap H locs) (hv : v = r) (hdg : decode cc pc = .ok (.lreturn, 1)) :
    W p l e R s m args below meth c H locs cells slots (MQ below (pw_J D r w0 w1 sz) args s cells slots (va_A w0 sz)) (F0 m pc ls [.long v]) := by
  subst hAe
  exact W.lret (v := v) hx hb hr (fun t ht hW => ⟨⟨v, (), rfl, hv, by show va_P D vwCl w1 t.heap; rw [ht]; exact hP⟩, hS.F ht⟩) hS.2.2 hdg hlocks
theorem pw_rd {r v : UInt64} (hx : p.tables.exec = Jvm.exec) (hb : c.code = cc) (hr : meth.sig.returnType = some .double) (hlocks : meth.locks = false) (hAe : A = va_A w0 sz) (hP : va_P D vwCl w1 H) (hS : va_S A s.heap H locs) (hv : v = r) (hdg : decode cc pc = .ok (.dreturn, 1)) :
    W p l e R s m args below meth c H locs cells slots (MQ below (pw_F D r w0 w1 sz) args s cells slots (va_A w0 sz)) (F0 m pc ls [.double v]) := by
  subst hAe
  exact W.dret (v := v) hx hb hr (fun t ht hW => ⟨⟨v, (), rfl, hv, by show va_P D vwCl w1 t.heap; rw [ht]; exact hP⟩, hS.F ht⟩) hS.2.2 hdg hlocks
variable {bytes : ByteArray} {maxL nL n index : Nat} {ret : Option FieldType} {ws Ts : List Cond} {rm : Room} {own C : String} {y : MethodName} {a : Addr} {As rest st0 : List Value} {wc : va_W} {H0 : Heap}
/-- calls of an object's method over the very world of the caller -/
theorem pw_ci {r : Int32} (S : CallFix p m c cc nL s args Ts own) (hM : Met l y ws rm (pw_Pre D cy (.ref a :: As) wc H.size) (pw_I D r wc w1 H.size) 0 0 (va_A wc H.size)) (cw : CallW R s args own C index y bytes maxL ret ws rm 0 0 n) (hrv : ∃ cell : Cell, H[a]? = some cell ∧ cell.vm.isStatics = false ∧ s.vm.findClass C = some cell.cls) (hK : va_K D vwCl (pw_tys cy) s) (hP : va_P D vwCl wc H) (hD : va_D A wc) (hS : va_S A H0 H locs) (hA : ∀ q : Nat, H0.size ≤ q → A q) (hadr : w1.map Prod.fst = wc.map Prod.fst) (hn : As.length = n) (hsz : ls.size = nL) (hst : st0 = As.reverse ++ .ref a :: rest) (hW : (rest.map fun v => v.category).sum ≤ 8) (hdg : decode cc pc = .ok (.invokevirtual index, 3)) (hR : cells ≤ R.cells ∧ slots ≤ R.slots)
    (kk : ∀ (H1 : Heap) (locs1 : List Loc), va_P D vwCl w1 H1 → va_D A w1 → va_S A H0 H1 locs1 → W p l e R s m args below meth c H1 locs1 cells slots Q (F0 m (pc + 3) ls (.int r :: rest))) : W p l e R s m args below meth c H locs cells slots Q (F0 m pc ls st0) := by
  have hF := pw_own hD hS hA
  refine va_calli (va_runV (rest := rest) S hM cw ⟨pw_blind, hrv, pw_pre hP hK hD⟩ rfl hn hsz hst (lv_room (pc := pc) (ls := ls) (m := m) hW) hdg hR) hS (fun q _ h => hF q h) hF (fun x u t H1 locs1 ht hvm hw hB hz hk hS1 => ?_)
  rw [ht] at hB
  rw [show x = r from hw]
  exact kk H1 locs1 hB (pw_adr hD hadr) hS1
theorem pw_cj {r : Int64} (S : CallFix p m c cc nL s args Ts own) (hM : Met l y ws rm (pw_Pre D cy (.ref a :: As) wc H.size) (pw_J D r wc w1 H.size) 0 0 (va_A wc H.size)) (cw : CallW R s args own C index y bytes maxL ret ws rm 0 0 n) (hrv : ∃ cell : Cell, H[a]? = some cell ∧ cell.vm.isStatics = false ∧ s.vm.findClass C = some cell.cls) (hK : va_K D vwCl (pw_tys cy) s) (hP : va_P D vwCl wc H) (hD : va_D A wc) (hS : va_S A H0 H locs) (hA : ∀ q : Nat, H0.size ≤ q → A q) (hadr : w1.map Prod.fst = wc.map Prod.fst) (hn : As.length = n) (hsz : ls.size = nL) (hst : st0 = As.reverse ++ .ref a :: rest) (hW : (rest.map fun v => v.category).sum ≤ 8) (hdg : decode cc pc = .ok (.invokevirtual index, 3)) (hR : cells ≤ R.cells ∧ slots ≤ R.slots)
    (kk : ∀ (H1 : Heap) (locs1 : List Loc), va_P D vwCl w1 H1 → va_D A w1 → va_S A H0 H1 locs1 → W p l e R s m args below meth c H1 locs1 cells slots Q (F0 m (pc + 3) ls (.long r :: rest))) : W p l e R s m args below meth c H locs cells slots Q (F0 m pc ls st0) := by
  have hF := pw_own hD hS hA
  refine va_calll (va_runV (rest := rest) S hM cw ⟨pw_blind, hrv, pw_pre hP hK hD⟩ rfl hn hsz hst (lv_room (pc := pc) (ls := ls) (m := m) hW) hdg hR) hS (fun q _ h => hF q h) hF (fun x u t H1 locs1 ht hvm hw hB hz hk hS1 => ?_)
  rw [ht] at hB
  rw [show x = r from hw]
  exact kk H1 locs1 hB (pw_adr hD hadr) hS1
theorem pw_cd {r : UInt64} (S : CallFix p m c cc nL s args Ts own) (hM : Met l y ws rm (pw_Pre D cy (.ref a :: As) wc H.size) (pw_F D r wc w1 H.size) 0 0 (va_A wc H.size)) (cw : CallW R s args own C index y bytes maxL ret ws rm 0 0 n) (hrv : ∃ cell : Cell, H[a]? = some cell ∧ cell.vm.isStatics = false ∧ s.vm.findClass C = some cell.cls) (hK : va_K D vwCl (pw_tys cy) s) (hP : va_P D vwCl wc H) (hD : va_D A wc) (hS : va_S A H0 H locs) (hA : ∀ q : Nat, H0.size ≤ q → A q) (hadr : w1.map Prod.fst = wc.map Prod.fst) (hn : As.length = n) (hsz : ls.size = nL) (hst : st0 = As.reverse ++ .ref a :: rest) (hW : (rest.map fun v => v.category).sum ≤ 8) (hdg : decode cc pc = .ok (.invokevirtual index, 3)) (hR : cells ≤ R.cells ∧ slots ≤ R.slots)
    (kk : ∀ (H1 : Heap) (locs1 : List Loc), va_P D vwCl w1 H1 → va_D A w1 → va_S A H0 H1 locs1 → W p l e R s m args below meth c H1 locs1 cells slots Q (F0 m (pc + 3) ls (.double r :: rest))) : W p l e R s m args below meth c H locs cells slots Q (F0 m pc ls st0) := by
  have hF := pw_own hD hS hA
  refine va_calld (va_runV (rest := rest) S hM cw ⟨pw_blind, hrv, pw_pre hP hK hD⟩ rfl hn hsz hst (lv_room (pc := pc) (ls := ls) (m := m) hW) hdg hR) hS (fun q _ h => hF q h) hF (fun x u t H1 locs1 ht hvm hw hB hz hk hS1 => ?_)
  rw [ht] at hB
  rw [show x = r from hw]
  exact kk H1 locs1 hB (pw_adr hD hadr) hS1
theorem pw_cv (S : CallFix p m c cc nL s args Ts own) (hM : Met l y ws rm (pw_Pre D cy (.ref a :: As) wc H.size) (pw_V D wc w1 H.size) 0 0 (va_A wc H.size)) (cw : CallW R s args own C index y bytes maxL ret ws rm 0 0 n) (hrv : ∃ cell : Cell, H[a]? = some cell ∧ cell.vm.isStatics = false ∧ s.vm.findClass C = some cell.cls) (hK : va_K D vwCl (pw_tys cy) s) (hP : va_P D vwCl wc H) (hD : va_D A wc) (hS : va_S A H0 H locs) (hA : ∀ q : Nat, H0.size ≤ q → A q) (hadr : w1.map Prod.fst = wc.map Prod.fst) (hn : As.length = n) (hsz : ls.size = nL) (hst : st0 = As.reverse ++ .ref a :: rest) (hW : (rest.map fun v => v.category).sum ≤ 8) (hdg : decode cc pc = .ok (.invokevirtual index, 3)) (hR : cells ≤ R.cells ∧ slots ≤ R.slots)
    (kk : ∀ (H1 : Heap) (locs1 : List Loc), va_P D vwCl w1 H1 → va_D A w1 → va_S A H0 H1 locs1 → W p l e R s m args below meth c H1 locs1 cells slots Q (F0 m (pc + 3) ls rest)) : W p l e R s m args below meth c H locs cells slots Q (F0 m pc ls st0) := by
  have hF := pw_own hD hS hA
  refine va_callv (va_runV (rest := rest) S hM cw ⟨pw_blind, hrv, pw_pre hP hK hD⟩ rfl hn hsz hst (lv_room (pc := pc) (ls := ls) (m := m) hW) hdg hR) hS (fun q _ h => hF q h) hF (fun u t H1 locs1 ht hvm hw hB hz hk hS1 => ?_)
  rw [ht] at hB
  exact kk H1 locs1 hB (pw_adr hD hadr) hS1
/-- a static call that touches no cell: the caller's world stays -/
theorem pw_stay {D : va_G} {ws : va_W} {H H1 : Heap} (hP : va_P D vwCl ws H) (hk : ∀ q : Nat, q < H.size → ¬ va_A [] H.size q → H1[q]? = H[q]?) : va_P D vwCl ws H1 := hP.kept fun k q h => hk q.1 (hP k q h).lt (fun z => z.elim (fun ⟨k, _, h⟩ => by simp at h) (fun z => absurd (hP k q h).lt (Nat.not_lt.mpr z)))
theorem pw_si {r : Int32} (S : CallFix p m c cc nL s args Ts own) (hM : Met l y ws rm (pw_Pre D cy As [] H.size) (pw_I D r [] [] H.size) 0 0 (va_A [] H.size)) (cw : CallB R s args own index y bytes maxL ret ws rm 0 0 n ∧ (Cond.static y).before args s = true) (hK : va_K D vwCl (pw_tys cy) s) (hP : va_P D vwCl wc H) (hS : va_S A H0 H locs) (hA : ∀ q : Nat, H0.size ≤ q → A q) (hn : As.length = n) (hsz : ls.size = nL) (hst : st0 = As.reverse ++ rest) (hW : (rest.map fun v => v.category).sum ≤ 8) (hdg : decode cc pc = .ok (.invokestatic index, 3)) (hR : cells ≤ R.cells ∧ slots ≤ R.slots)
    (kk : ∀ (H1 : Heap) (locs1 : List Loc), va_P D vwCl wc H1 → va_S A H0 H1 locs1 → W p l e R s m args below meth c H1 locs1 cells slots Q (F0 m (pc + 3) ls (.int r :: rest))) : W p l e R s m args below meth c H locs cells slots Q (F0 m pc ls st0) := by
  have hPn : va_P D vwCl [] H := fun k q h => by simp at h
  have hDn : va_D A [] := ⟨fun i j p q h => by simp at h, fun k q h => by simp at h⟩
  have hF := pw_own hDn hS hA
  refine va_calli (va_runS (rest := rest) S hM cw ⟨pw_blind, pw_pre hPn hK hDn⟩ rfl hn hsz hst (lv_room (pc := pc) (ls := ls) (m := m) hW) hdg hR) hS (fun q _ h => hF q h) hF (fun x u t H1 locs1 ht hvm hw hB hz hk hS1 => ?_)
  rw [show x = r from hw]
  exact kk H1 locs1 (pw_stay hP hk) hS1
theorem pw_sj {r : Int64} (S : CallFix p m c cc nL s args Ts own) (hM : Met l y ws rm (pw_Pre D cy As [] H.size) (pw_J D r [] [] H.size) 0 0 (va_A [] H.size)) (cw : CallB R s args own index y bytes maxL ret ws rm 0 0 n ∧ (Cond.static y).before args s = true) (hK : va_K D vwCl (pw_tys cy) s) (hP : va_P D vwCl wc H) (hS : va_S A H0 H locs) (hA : ∀ q : Nat, H0.size ≤ q → A q) (hn : As.length = n) (hsz : ls.size = nL) (hst : st0 = As.reverse ++ rest) (hW : (rest.map fun v => v.category).sum ≤ 8) (hdg : decode cc pc = .ok (.invokestatic index, 3)) (hR : cells ≤ R.cells ∧ slots ≤ R.slots)
    (kk : ∀ (H1 : Heap) (locs1 : List Loc), va_P D vwCl wc H1 → va_S A H0 H1 locs1 → W p l e R s m args below meth c H1 locs1 cells slots Q (F0 m (pc + 3) ls (.long r :: rest))) : W p l e R s m args below meth c H locs cells slots Q (F0 m pc ls st0) := by
  have hPn : va_P D vwCl [] H := fun k q h => by simp at h
  have hDn : va_D A [] := ⟨fun i j p q h => by simp at h, fun k q h => by simp at h⟩
  have hF := pw_own hDn hS hA
  refine va_calll (va_runS (rest := rest) S hM cw ⟨pw_blind, pw_pre hPn hK hDn⟩ rfl hn hsz hst (lv_room (pc := pc) (ls := ls) (m := m) hW) hdg hR) hS (fun q _ h => hF q h) hF (fun x u t H1 locs1 ht hvm hw hB hz hk hS1 => ?_)
  rw [show x = r from hw]
  exact kk H1 locs1 (pw_stay hP hk) hS1
end PWR
/-- a double that is a number or an infinity -/
def pq_nn (r : UInt64) : Bool := decide (r &&& 0x7fffffffffffffff ≤ 0x7ff0000000000000)
theorem pq_nv {r : UInt64} (h : pq_nn r = true) : vf_n64 r := by
  unfold vf_n64
  exact of_decide_eq_true h
theorem pq_out {x : Int32} {hi : Int} (n : Nat) (hn : hi + 1 = (n : Int)) (hs : n < 2147483648) (h : ∀ k, k < n → ¬ x = nI k) : x.toInt < 0 ∨ hi < x.toInt := by
  by_cases h0 : x.toInt < 0
  · exact Or.inl h0
  · refine Or.inr ?_
    rcases (show hi < x.toInt ∨ x.toInt ≤ hi by omega) with q | q
    · exact q
    · have hx : ¬ x < 0 := fun c => h0 (Int32.lt_iff_toInt_lt.mp c)
      obtain ⟨j, hj, e⟩ := nI_of hx
      have ht : x.toInt = (j : Int) := by rw [e]; exact nI_toInt hj
      exact absurd e (h j (by omega))
