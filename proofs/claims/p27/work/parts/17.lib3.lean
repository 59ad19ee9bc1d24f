/-! ===== PoolTurns' own methods: answers that are thrown, rows of a part of the world ===== -/
theorem pq_inr {α γ : Type} {r : Nat ⊕ α} {o : γ} {g : α → Option (Nat ⊕ γ)} (h : Sum.elim (fun e => some (Sum.inl e)) g r = some (Sum.inr o)) : ∃ a, r = Sum.inr a ∧ g a = some (Sum.inr o) := by
  cases r with
  | inl e => exact nomatch h
  | inr a => exact ⟨a, rfl, h⟩
theorem pq_inn {α γ : Type} {r : Nat ⊕ α} {o : γ} {g : α → Option γ} (h : Sum.elim (fun _ => none) g r = some o) : ∃ a, r = Sum.inr a ∧ g a = some o := by
  cases r with
  | inl e => exact nomatch h
  | inr a => exact ⟨a, rfl, h⟩
theorem pq_inl {α γ : Type} {r : Nat ⊕ α} {k : Nat} {g : α → Option (Nat ⊕ γ)} (h : Sum.elim (fun e => some (Sum.inl e)) g r = some (Sum.inl k)) : r = Sum.inl k ∨ ∃ a, r = Sum.inr a ∧ g a = some (Sum.inl k) := by
  cases r with
  | inl e => exact Or.inl (congrArg Sum.inl (Sum.inl.inj (Option.some.inj h)))
  | inr a => exact Or.inr ⟨a, rfl, h⟩
theorem pw_at {ws : va_W} {c : Nat × va_E} (k : Nat) (h : ws[k]? = some c) : ws = ws.take k ++ ([c] ++ ws.drop (k + 1)) := by
  obtain ⟨hl, he⟩ := List.getElem?_eq_some_iff.mp h
  have h1 : ws.drop k = c :: ws.drop (k + 1) := by rw [List.drop_eq_getElem_cons hl, he]
  calc ws = ws.take k ++ ws.drop k := (List.take_append_drop k ws).symm
    _ = ws.take k ++ ([c] ++ ws.drop (k + 1)) := by rw [h1]; rfl
abbrev pw_nm : List String := ["java/lang/RuntimeException", "java/lang/Exception"]
theorem pw_lw55 : ∀ w ∈ (vx_atS RX3 55 "java/lang/IllegalStateException" pw_nm).filter goodWord, w ∈ lw_tbl := by decide +kernel
theorem pw_lw266 : ∀ w ∈ (vx_atS RX3 266 "java/lang/IndexOutOfBoundsException" pw_nm).filter goodWord, w ∈ lw_tbl := by decide +kernel
theorem pw_lw134 : ∀ w ∈ (vx_atS RX3 134 "java/lang/IllegalArgumentException" pw_nm).filter goodWord, w ∈ lw_tbl := by decide +kernel
theorem pw_at55 : ∀ w ∈ (vx_atS RX3 55 "java/lang/IllegalStateException" pw_nm).filter goodWord, w ∈ pw_all := fun w h => List.mem_filter.mpr ⟨pw_lw55 w h, (List.mem_filter.mp h).2⟩
theorem pw_at266 : ∀ w ∈ (vx_atS RX3 266 "java/lang/IndexOutOfBoundsException" pw_nm).filter goodWord, w ∈ pw_all := fun w h => List.mem_filter.mpr ⟨pw_lw266 w h, (List.mem_filter.mp h).2⟩
theorem pw_at134 : ∀ w ∈ (vx_atS RX3 134 "java/lang/IllegalArgumentException" pw_nm).filter goodWord, w ∈ pw_all := fun w h => List.mem_filter.mpr ⟨pw_lw134 w h, (List.mem_filter.mp h).2⟩
theorem pw_nt55 : ∀ w ∈ (vx_atS RX3 55 "java/lang/IllegalStateException" pw_nm).filter (fun w => !goodWord w), w ∈ pw_NW := by decide +kernel
theorem pw_nt266 : ∀ w ∈ (vx_atS RX3 266 "java/lang/IndexOutOfBoundsException" pw_nm).filter (fun w => !goodWord w), w ∈ pw_NW := by decide +kernel
theorem pw_nt134 : ∀ w ∈ (vx_atS RX3 134 "java/lang/IllegalArgumentException" pw_nm).filter (fun w => !goodWord w), w ∈ pw_NW := by decide +kernel
theorem pw_gt55 : ∀ w ∈ Cond.classLink RX3 51 "java/lang/IllegalStateException" :: Cond.initialized "java/lang/IllegalStateException" :: vx_atS RX3 55 "java/lang/IllegalStateException" pw_nm, vx_ot w = true := by decide +kernel
theorem pw_gt266 : ∀ w ∈ Cond.classLink RX3 262 "java/lang/IndexOutOfBoundsException" :: Cond.initialized "java/lang/IndexOutOfBoundsException" :: vx_atS RX3 266 "java/lang/IndexOutOfBoundsException" pw_nm, vx_ot w = true := by decide +kernel
theorem pw_gt134 : ∀ w ∈ Cond.classLink RX3 130 "java/lang/IllegalArgumentException" :: Cond.initialized "java/lang/IllegalArgumentException" :: vx_atS RX3 134 "java/lang/IllegalArgumentException" pw_nm, vx_ot w = true := by decide +kernel
theorem pw_metE {l : Launch} {y : MethodName} {cc : ByteArray} {maxL : Nat} {ret : Option FieldType} {ws ws' : List Cond} {rm : Room} {D : va_G} {cy : Nat → ClassId} {av : List Value} {w0 : va_W} {sz mc ms : Nat} {Qc : Array Value → State → Outcome → State → Prop} (hy : plainName y.cls = true) (hw : ws = Cond.code y cc maxL ret :: ws') (hlen : (lg_sl av).length ≤ maxL)
    (body : ∀ (p : Program) (e : Env) (s : State) (m : MethodId) (args : Array Value) (below : List Frame) (meth : Method) (c : Code) (ls : Array Slot) (A : Nat → Prop), p.tables.exec = Jvm.exec → c.code = cc → meth.sig.returnType = ret → c.maxLocals = maxL → meth.locks = false → (∀ w ∈ ws, w.before args s = true) → s.vm.findClass y.cls = some m.cls → A = va_A w0 sz → (∀ q : Nat, s.heap.size ≤ q → A q) → va_K D vwCl (pw_tys cy) s → va_P D vwCl w0 s.heap → va_D A w0 → va_S A s.heap s.heap [] → lv_has ls maxL (lv_args 0 av) → pw_E A s s.heap →
      W p l e rm s m args below meth c s.heap [] 0 0 (MQ below Qc args s mc ms (va_A w0 sz)) (F0 m 0 ls [])) : Met l y ws rm (pw_PreE D cy av w0 sz) Qc mc ms (va_A w0 sz) := by
  refine Met.ofW (cc := cc) (maxL := maxL) (ret := ret) hy hw ?_
  intro p e s m args below meth c s₁ B hml hv
  obtain ⟨rfl, hsz, hP, hK, hD0, hE⟩ := hv
  have hts := atoms_spec (ws := ws) B.pre
  have hown : s.vm.findClass y.cls = some m.cls := findClass_of_methodNamed B.named
  subst hsz
  have hl := lv_entry av (n := maxL) hlen
  rw [lg_entry_eq]
  exact body p e s m _ below meth c _ (va_A w0 s.heap.size) B.exec B.bytes B.returns hml B.notSynchronized hts hown rfl (fun q h => Or.inr h) hK hP hD0.self va_S.rf hl hE
section PWX
variable {p : Program} {l : Launch} {e : Env} {R : Room} {s : State} {m : MethodId} {args : Array Value} {below : List Frame} {meth : Method} {c : Code} {H : Heap} {locs : List Loc} {cells slots : Nat}
variable {cc : ByteArray} {D : va_G} {cy : Nat → ClassId} {w0 : va_W} {sz : Nat} {A : Nat → Prop} {pc : Nat} {ls : Array Slot} {rest st0 As : List Value} {k mc ms : Nat}
theorem pw_hat {own cls : String} {ic : Nat} (hg1 : ∀ w ∈ (vx_atS own ic cls pw_nm).filter goodWord, w.before args s = true) (hg2 : ∀ w ∈ (vx_atS own ic cls pw_nm).filter (fun w => !goodWord w), w ∈ pw_NW) (hE : pw_E A s s.heap) : ∀ w ∈ vx_atS own ic cls pw_nm, w.before args s = true :=
  vx_hat (B := pw_NW) hg1 hg2 (fun w hw => va_Nw.use (pw_NWot w hw) (hE.1 w hw))
theorem pw_hx {cls : String} (hkx : cls = pw_ex k) (hP : va_P D vwCl w0 H) (hS : va_S (va_A w0 sz) s.heap H locs) : ∀ t : State, s.vm.Alike t.vm → H.size ≤ t.heap.size → (∀ q : Nat, q < H.size → t.heap[q]? = H[q]?) → pw_XC D k w0 sz cls s t := fun t _ hz hq =>
  ⟨(), trivial, ⟨hkx, hP.kept (fun j q hj => hq q.1 (hP j q hj).lt)⟩, Nat.le_trans hS.1 hz, fun q h1 h2 => (hq q (Nat.lt_of_lt_of_le h1 hS.1)).trans (hS.2.1 q h1 h2)⟩
theorem pw_throwS {own cls text : String} {ik is ic nL : Nat} (hx : p.tables.exec = Jvm.exec) (hb : c.code = cc) (hfl : l.stackTraces = false) (hown : s.vm.findClass own = some m.cls) (hlk : meth.locks = false) (hcls : Bundle.fit cls = true) (hk : (Cond.classLink own ik cls).before args s = true) (hini : (Cond.initialized cls).before args s = true) (hstr : (is, text) ∈ pw_str) (hg1 : ∀ w ∈ (vx_atS own ic cls pw_nm).filter goodWord, w.before args s = true) (hg2 : ∀ w ∈ (vx_atS own ic cls pw_nm).filter (fun w => !goodWord w), w ∈ pw_NW) (hg3 : ∀ w ∈ Cond.classLink own ik cls :: Cond.initialized cls :: vx_atS own ic cls pw_nm, vx_ot w = true) (hE : pw_E (va_A w0 sz) s s.heap) (hP : va_P D vwCl w0 H) (hS : va_S (va_A w0 sz) s.heap H locs) (hsz : ls.size = nL) (hml : c.maxLocals = nL) (hxt : ∀ x ∈ c.exceptionTable.toList, False)
    (d0 : decode cc pc = .ok (.new ik, 3)) (d3 : decode cc (pc + 3) = .ok (.dup, 1)) (d4 : decode cc (pc + 4) = .ok (.ldc is, 2)) (d6 : decode cc (pc + 6) = .ok (.invokespecial ic, 3)) (d9 : decode cc (pc + 9) = .ok (.athrow, 1))
    (hF : 5 < R.frames) (hL : (rest.map fun v => v.category).sum + 82 ≤ R.locals) (hC : cells + 1 ≤ R.cells) (hSl : slots + 6 ≤ R.slots) (hkx : cls = pw_ex k) (hc : cells + 1 ≤ mc) (hs : slots + 6 ≤ ms) (ho : own = "PoolTurns" := by rfl) :
    W p l e R s m args below meth c H locs cells slots (vx_MQ below (pw_NQ w0 sz) (pw_XC D k w0 sz) args s mc ms (va_A w0 sz)) (F0 m pc ls rest) := by
  obtain ⟨sa, hsa⟩ := hE.2.1 (is, text) hstr
  subst ho
  exact vx_throwS hx hb hfl (names := pw_nm) hown hcls (by decide +kernel) hk hini hsa (pw_hat hg1 hg2 hE) hg3 hE.2.2.1 hE.2.2.2.1 hS (hsz.trans hml.symm) d0 d3 d4 d6 d9 (fun x hx => (hxt x hx).elim) hF hL hC hSl hlk (pw_hx hkx hP hS) hS.2.2 hc hs
theorem pw_throwSW {own cls text : String} {ik is ic nL : Nat} (hx : p.tables.exec = Jvm.exec) (hb : c.code = cc) (hfl : l.stackTraces = false) (hown : s.vm.findClass own = some m.cls) (hlk : meth.locks = false) (hcls : Bundle.fit cls = true) (hk : (Cond.classLink own ik cls).before args s = true) (hini : (Cond.initialized cls).before args s = true) (hstr : (is, text) ∈ pw_str) (hg1 : ∀ w ∈ (vx_atS own ic cls pw_nm).filter goodWord, w.before args s = true) (hg2 : ∀ w ∈ (vx_atS own ic cls pw_nm).filter (fun w => !goodWord w), w ∈ pw_NW) (hg3 : ∀ w ∈ Cond.classLink own ik cls :: Cond.initialized cls :: vx_atS own ic cls pw_nm, vx_ot w = true) (hE : pw_E (va_A w0 sz) s s.heap) (hP : va_P D vwCl w0 H) (hS : va_S (va_A w0 sz) s.heap H locs) (hsz : ls.size = nL) (hml : c.maxLocals = nL) (hxt : ∀ x ∈ c.exceptionTable.toList, False)
    (d0 : decode cc pc = .ok (.new ik, 3)) (d3 : decode cc (pc + 3) = .ok (.dup, 1)) (d4 : decode cc (pc + 4) = .ok (.ldc_w is, 3)) (d7 : decode cc (pc + 7) = .ok (.invokespecial ic, 3)) (d10 : decode cc (pc + 10) = .ok (.athrow, 1))
    (hF : 5 < R.frames) (hL : (rest.map fun v => v.category).sum + 82 ≤ R.locals) (hC : cells + 1 ≤ R.cells) (hSl : slots + 6 ≤ R.slots) (hkx : cls = pw_ex k) (hc : cells + 1 ≤ mc) (hs : slots + 6 ≤ ms) (ho : own = "PoolTurns" := by rfl) :
    W p l e R s m args below meth c H locs cells slots (vx_MQ below (pw_NQ w0 sz) (pw_XC D k w0 sz) args s mc ms (va_A w0 sz)) (F0 m pc ls rest) := by
  obtain ⟨sa, hsa⟩ := hE.2.1 (is, text) hstr
  subst ho
  exact vx_throwSW hx hb hfl (names := pw_nm) hown hcls (by decide +kernel) hk hini hsa (pw_hat hg1 hg2 hE) hg3 hE.2.2.1 hE.2.2.2.1 hS (hsz.trans hml.symm) d0 d3 d4 d7 d10 (fun x hx => (hxt x hx).elim) hF hL hC hSl hlk (pw_hx hkx hP hS) hS.2.2 hc hs
variable {bytes : ByteArray} {maxL nL n index : Nat} {ret : Option FieldType} {ws Ts : List Cond} {rm : Room} {own : String} {y : MethodName}
/-- a static call that throws, and is not caught here -/
theorem pw_tS (S : CallFix p m c cc nL s args Ts own) (hM : vx_Met l y ws rm (pw_PreE D cy As [] H.size) (pw_NQ [] H.size) (pw_XC D k [] H.size) 1 6 (va_A [] H.size)) (cw : CallB R s args own index y bytes maxL ret ws rm 1 6 n ∧ (Cond.static y).before args s = true) (hK : va_K D vwCl (pw_tys cy) s) (hP : va_P D vwCl w0 H) (hD : va_D (va_A w0 sz) w0) (hS : va_S (va_A w0 sz) s.heap H locs) (hE : pw_E (va_A w0 sz) s s.heap) (hn : As.length = n) (hsz : ls.size = nL) (hst : st0 = As.reverse ++ rest) (hW : (rest.map fun v => v.category).sum ≤ 8) (hdg : decode cc pc = .ok (.invokestatic index, 3)) (hxt : ∀ x ∈ c.exceptionTable.toList, False) (hlk : meth.locks = false) (hR1 : cells + 1 ≤ R.cells) (hR2 : slots + 6 ≤ R.slots) (hc : cells + 1 ≤ mc) (hs : slots + 6 ≤ ms) (hA : ∀ q : Nat, s.heap.size ≤ q → va_A w0 sz q) :
    W p l e R s m args below meth c H locs cells slots (vx_MQ below (pw_NQ w0 sz) (pw_XC D k w0 sz) args s mc ms (va_A w0 sz)) (F0 m pc ls st0) := by
  have hPn : va_P D vwCl [] H := fun k q h => by simp at h
  have hDn : va_D (va_A w0 sz) [] := ⟨fun i j p q h => by simp at h, fun k q h => by simp at h⟩
  have hF := pw_own hDn hS hA
  refine vx_callv (vx_runS (rest := rest) S hM cw ⟨pw_blindE, pw_preE hPn hK hDn hS hA hE⟩ rfl hn hsz hst (lv_room (pc := pc) (ls := ls) (m := m) hW) hdg ⟨hR1, hR2⟩) hS (fun q _ h => hF q h) hF (fun q _ h => hF q h) (fun E ce q9 u t H1 locs1 ht hvm _ hB hz hk hS1 hce hcv hfc => ?_) (fun u t H1 locs1 ht hvm hw _ _ _ _ => hw.elim)
  have hP1 := pw_stay hP hk
  exact vx_out (fun x hx => (hxt x hx).elim) hlk hce hcv hfc (fun t2 h2 hv2 => ⟨(), trivial, ⟨hB.1, by rw [h2]; exact hP1⟩, hS1.F h2⟩) hS1.2.2 hc hs
end PWX
