/-! ===== frames: a part of the world; the worlds of History and PoolTurns; what a throw needs ===== -/
theorem pw_memP {D : va_G} {cl : List vw_C} {ws : va_W} {H : Heap} : va_P D cl ws H ↔ ∀ q ∈ ws, va_at D cl q H :=
  ⟨fun h q hq => by
    obtain ⟨k, hk⟩ := List.getElem?_of_mem hq
    exact h k q hk, fun h k q hk => h q (List.mem_of_getElem? hk)⟩
theorem pw_apart {A : Nat → Prop} {wa wb wc : va_W} (hD : va_D A (wa ++ (wc ++ wb))) : (∀ x ∈ wa, ∀ y ∈ wc, x.1 ≠ y.1) ∧ ∀ x ∈ wb, ∀ y ∈ wc, x.1 ≠ y.1 := by
  have hc : ∀ (j : Nat) (y : Nat × va_E), wc[j]? = some y → (wa ++ (wc ++ wb))[wa.length + j]? = some y := by
    intro j y hj
    have hjl : j < wc.length := (List.getElem?_eq_some_iff.mp hj).1
    rw [List.getElem?_append_right (by omega), show wa.length + j - wa.length = j by omega, List.getElem?_append_left hjl]
    exact hj
  refine ⟨fun x hx y hy e => ?_, fun x hx y hy e => ?_⟩
  · obtain ⟨i, hi⟩ := List.getElem?_of_mem hx
    obtain ⟨j, hj⟩ := List.getElem?_of_mem hy
    have hil : i < wa.length := (List.getElem?_eq_some_iff.mp hi).1
    have h1 : (wa ++ (wc ++ wb))[i]? = some x := by rw [List.getElem?_append_left hil]; exact hi
    have := hD.1 _ _ x y h1 (hc j y hj) e
    omega
  · obtain ⟨i, hi⟩ := List.getElem?_of_mem hx
    obtain ⟨j, hj⟩ := List.getElem?_of_mem hy
    have hjl : j < wc.length := (List.getElem?_eq_some_iff.mp hj).1
    have h1 : (wa ++ (wc ++ wb))[wa.length + wc.length + i]? = some x := by
      rw [List.getElem?_append_right (by omega), List.getElem?_append_right (by omega), show wa.length + wc.length + i - wa.length - wc.length = i by omega]
      exact hi
    have := hD.1 _ _ x y h1 (hc j y hj) e
    omega
theorem pw_mid {A : Nat → Prop} {wa wb wc : va_W} (hD : va_D A (wa ++ (wc ++ wb))) : va_D A wc := by
  have hc : ∀ (j : Nat) (y : Nat × va_E), wc[j]? = some y → (wa ++ (wc ++ wb))[wa.length + j]? = some y := by
    intro j y hj
    have hjl : j < wc.length := (List.getElem?_eq_some_iff.mp hj).1
    rw [List.getElem?_append_right (by omega), show wa.length + j - wa.length = j by omega, List.getElem?_append_left hjl]
    exact hj
  refine ⟨fun i j x y hi hj hxy => ?_, fun k q hk => hD.2 _ q (hc k q hk)⟩
  have := hD.1 _ _ x y (hc i x hi) (hc j y hj) hxy
  omega
theorem pw_midP {D : va_G} {cl : List vw_C} {wa wb wc : va_W} {H : Heap} (hP : va_P D cl (wa ++ (wc ++ wb)) H) : va_P D cl wc H :=
  pw_memP.mpr fun q hq => pw_memP.mp hP q (List.mem_append_right _ (List.mem_append_left _ hq))
/-- behind a call over a part of the world: the rest of it stays -/
theorem pw_fr {D : va_G} {cl : List vw_C} {A : Nat → Prop} {wa wb wc w1 : va_W} {H H1 : Heap} (hP : va_P D cl (wa ++ (wc ++ wb)) H) (hD : va_D A (wa ++ (wc ++ wb))) (hk : ∀ q : Nat, q < H.size → ¬ va_A wc H.size q → H1[q]? = H[q]?) (hP1 : va_P D cl w1 H1) : va_P D cl (wa ++ (w1 ++ wb)) H1 := by
  have hm := pw_memP.mp hP
  have hap := pw_apart hD
  have key : ∀ q : Nat × va_E, (∀ y ∈ wc, q.1 ≠ y.1) → va_at D cl q H → va_at D cl q H1 := fun q hq hat => hat.kept (hk q.1 hat.lt (fun z => z.elim (fun ⟨k, e, h⟩ => hq (q.1, e) (List.mem_of_getElem? h) rfl) (fun z => absurd hat.lt (Nat.not_lt.mpr z))))
  refine pw_memP.mpr fun q hq => ?_
  rcases List.mem_append.mp hq with h | h
  · exact key q (hap.1 q h) (hm q (List.mem_append_left _ h))
  · rcases List.mem_append.mp h with h | h
    · exact pw_memP.mp hP1 q h
    · exact key q (hap.2 q h) (hm q (List.mem_append_right _ (List.mem_append_right _ h)))
theorem pw_mapf {wa wb wc w1 : va_W} (h : w1.map Prod.fst = wc.map Prod.fst) : (wa ++ (w1 ++ wb)).map Prod.fst = (wa ++ (wc ++ wb)).map Prod.fst := by
  simp only [List.map_append, h]
theorem pw_s1 (a b x : va_W) : a ++ (b ++ x) = a ++ (b ++ x) := rfl
theorem pw_s2 (a b c x : va_W) : a ++ (b ++ (c ++ x)) = (a ++ b) ++ (c ++ x) := by simp only [List.append_assoc]
theorem pw_s3 (a b c d x : va_W) : a ++ (b ++ (c ++ (d ++ x))) = (a ++ (b ++ c)) ++ (d ++ x) := by simp only [List.append_assoc]
theorem pw_s23 (a b c d x : va_W) : a ++ (b ++ (c ++ (d ++ x))) = (a ++ b) ++ ((c ++ d) ++ x) := by simp only [List.append_assoc]
theorem pw_s34 (a b c d x : va_W) : a ++ (b ++ (c ++ (d ++ x))) = (a ++ (b ++ c)) ++ ((d ++ x) ++ []) := by simp only [List.append_assoc, List.append_nil]
theorem pw_s0 (a : va_W) : a = [] ++ (a ++ []) := by simp only [List.append_nil, List.nil_append]
/-- the cells of a Pool, row by row -/
abbrev WPx (cy : Nat → ClassId) (q : Nat → Nat) (u0 : Int32) (u1 u2 u3 u4 u5 u6 u7 u8 u9 u10 u11 u12 u13 : Nat → Int32) (u14 : Int32) (u15 : Nat → Int32) : va_W := [(q 0, .inr (2, [.int u0, .ref (q 1), .ref (q 2), .ref (q 3), .ref (q 4), .ref (q 5), .ref (q 6), .ref (q 7), .ref (q 8), .ref (q 9), .ref (q 10), .ref (q 11), .ref (q 12), .ref (q 13), .int u14, .ref (q 15)])), (q 1, .inl (cy 0, 9, .inl u1)), (q 2, .inl (cy 0, 8, .inl u2)), (q 3, .inl (cy 0, 8, .inl u3)), (q 4, .inl (cy 1, 8, .inl u4)), (q 5, .inl (cy 0, 8, .inl u5)), (q 6, .inl (cy 0, 8, .inl u6)), (q 7, .inl (cy 0, 8, .inl u7)), (q 8, .inl (cy 1, 8, .inl u8)), (q 9, .inl (cy 0, 8, .inl u9)), (q 10, .inl (cy 0, 8, .inl u10)), (q 11, .inl (cy 0, 8, .inl u11)), (q 12, .inl (cy 0, 8, .inl u12)), (q 13, .inl (cy 0, 8, .inl u13)), (q 15, .inl (cy 0, 7, .inl u15))]
/-- the cells of a History: its object, its row, the six saved pools -/
abbrev WHh (cy : Nat → ClassId) (qa : Nat → Nat → Nat) (nw hz : Int32) : va_W := [(qa 4 0, .inr (1, [.ref (qa 4 1), .int nw, .int hz])), (qa 4 1, .inl (cy 2, 6, .inr (.inr (.inr (.inr (fun j => some (qa (5 + j) 0)))))))]
abbrev WHs (cy : Nat → ClassId) (qa : Nat → Nat → Nat) (S : Nat → Nat → Nat → Int32) : va_W := WP cy (qa 5) (S 0) ++ (WP cy (qa 6) (S 1) ++ (WP cy (qa 7) (S 2) ++ (WP cy (qa 8) (S 3) ++ (WP cy (qa 9) (S 4) ++ WP cy (qa 10) (S 5)))))
abbrev WH (cy : Nat → ClassId) (qa : Nat → Nat → Nat) (S : Nat → Nat → Nat → Int32) (nw hz : Int32) : va_W := WHh cy qa nw hz ++ WHs cy qa S
/-- the cells of a PoolTurns: its object and its three rows, its text, its trial pool, its pool, its history -/
abbrev W3a (cy : Nat → ClassId) (qa : Nat → Nat → Nat) (ak pa wt : Nat → Int32) : va_W := [(qa 0 0, .inr (3, [.ref (qa 1 0), .ref (qa 2 0), .ref (qa 0 1), .ref (qa 0 2), .ref (qa 0 3), .ref (qa 4 0), .ref (qa 3 0)])), (qa 0 1, .inl (cy 0, 3, .inl ak)), (qa 0 2, .inl (cy 0, 4, .inl pa)), (qa 0 3, .inl (cy 0, 8, .inl wt))]
abbrev W3 (cy : Nat → ClassId) (qa : Nat → Nat → Nat) (P T : Nat → Nat → Int32) (S : Nat → Nat → Nat → Int32) (nw hz : Int32) (ak pa wt cd : Nat → Int32) (ln : Int32) : va_W := W3a cy qa ak pa wt ++ (WT cy (qa 3) cd ln ++ (WP cy (qa 2) T ++ (WP cy (qa 1) P ++ WH cy qa S nw hz)))
def pw_ex (k : Nat) : String := if k = 1 then "java/lang/IndexOutOfBoundsException" else if k = 2 then "java/lang/IllegalStateException" else "java/lang/IllegalArgumentException"
def pw_NW : List Cond := [(Jvm.Cond.fieldLinkNest "PoolTurns$Pool" (55 : Nat) "PoolTurns" "FIRST_VALUES" "[I" "PoolTurns"), (Jvm.Cond.methodLinkNest "PoolTurns" (38 : Nat) ({ cls := "PoolTurns$CallText", name := "<init>", desc := "()V" } : Jvm.MethodName) "PoolTurns"), (Jvm.Cond.castable "java/lang/IndexOutOfBoundsException" "java/lang/IndexOutOfBoundsException"), (Jvm.Cond.declares ({ cls := "java/lang/RuntimeException", name := "<init>", desc := "()V" } : Jvm.MethodName)), (Jvm.Cond.declares ({ cls := "java/lang/RuntimeException", name := "<init>", desc := "(Ljava/lang/String;)V" } : Jvm.MethodName)), (Jvm.Cond.declares ({ cls := "java/lang/Exception", name := "<init>", desc := "()V" } : Jvm.MethodName)), (Jvm.Cond.declares ({ cls := "java/lang/Exception", name := "<init>", desc := "(Ljava/lang/String;)V" } : Jvm.MethodName)), (Jvm.Cond.declares ({ cls := "java/lang/Throwable", name := "<init>", desc := "()V" } : Jvm.MethodName)), (Jvm.Cond.declares ({ cls := "java/lang/Throwable", name := "<init>", desc := "(Ljava/lang/String;)V" } : Jvm.MethodName)), (Jvm.Cond.castable "java/lang/IllegalStateException" "java/lang/IllegalStateException"), (Jvm.Cond.castable "java/lang/IllegalArgumentException" "java/lang/IllegalArgumentException")]
def pw_str : List (Nat × String) := [(264, "there is no such owner"), (83, "the owner does not wait"), (94, "the owner is so already"), (267, "there is no such place"), (106, "the place is empty"), (269, "there is no such setting"), (132, "the value is out of range"), (271, "what is out of range"), (53, "the owner has vanished, or waits already"), (72, "the connection is not lent, or its owner has vanished"), (212, "units are 0 to 200"), (139, "units are 1 to 99"), (144, "the time would be above 9999")]
def pw_xs : List String := []
def pw_first : Nat → Int32 := fun j => if j = 0 then 4 else if j = 1 then 2 else if j = 2 then 1 else if j = 3 then 0 else if j = 4 then 1 else if j = 5 then 10 else if j = 6 then 5 else if j = 7 then 20 else 15
def pw_least : Nat → Int32 := fun j => if j = 0 then 1 else if j = 1 then 1 else if j = 2 then 0 else if j = 3 then 0 else if j = 4 then 0 else if j = 5 then 1 else if j = 6 then 0 else if j = 7 then 1 else 1
def pw_great : Nat → Int32 := fun j => if j = 0 then 8 else if j = 1 then 8 else if j = 2 then 8 else if j = 3 then 1 else if j = 4 then 1 else if j = 5 then 99 else if j = 6 then 99 else if j = 7 then 99 else 99
/-- a constant row of nine ints -/
def pw_K (n : String) (f : Nat → Int32) (A : Nat → Prop) (U : State) (H : Heap) : Prop := ∃ t : Nat, va_Z "PoolTurns" n "[I" (.ref t) A U H ∧ va_T .int t 9 (fun j => .int (f j)) A U H
def pw_E (A : Nat → Prop) (U : State) (H : Heap) : Prop := (∀ w ∈ pw_NW, va_Nw w U) ∧ (∀ x ∈ pw_str, ∃ a : Nat, vk_R "PoolTurns" x.1 x.2 a U) ∧ vx_Zq Bundle.tN "UNASSIGNED_STACK" Bundle.steD A U H ∧ vx_Zq Bundle.tN "SUPPRESSED_SENTINEL" Bundle.listD A U H ∧ (∀ x ∈ pw_xs, ∀ y ∈ pw_xs, x ≠ y → va_Nc x y U) ∧ pw_K "FIRST_VALUES" pw_first A U H ∧ pw_K "LEAST_VALUES" pw_least A U H ∧ pw_K "GREATEST_VALUES" pw_great A U H
theorem pw_NWot : ∀ w ∈ pw_NW, w.onTables = true := by decide +kernel
theorem pw_NWwarm {s U : State} (hW : s.WarmedH U.vm) (h : ∀ w ∈ pw_NW, va_Nw w s) : ∀ w ∈ pw_NW, va_Nw w U := by
  have h2 : ∀ w ∈ pw_NW, (va_Nw w s → va_Nw w U) := by
    unfold pw_NW
    simp only [List.forall_mem_cons]
    refine ⟨va_Nw.warmF hW, va_Nw.warmM hW, va_Nw.warmC hW, va_Nw.warmD hW, va_Nw.warmD hW, va_Nw.warmD hW, va_Nw.warmD hW, va_Nw.warmD hW, va_Nw.warmD hW, va_Nw.warmC hW, va_Nw.warmC hW, ?_⟩
    intro w hw
    cases hw
  exact fun w hw => h2 w hw (h w hw)
theorem pw_K.call {n : String} {f : Nat → Int32} {A B : Nat → Prop} {s U : State} {H : Heap} (hvm : s.vm.Alike U.vm) (h : pw_K n f A s s.heap) (hq : ∀ a : Nat, a < s.heap.size → ¬ A a → H[a]? = s.heap[a]?) (hB : ∀ q, B q → A q) : pw_K n f B U H := by
  obtain ⟨t, h1, h2⟩ := h
  exact ⟨t, ((va_Z.moved hvm h1).kept hq).narrow hB, ((va_T.moved hvm h2).kept hq).narrow hB⟩
/-- the premises of a throw, at a call -/
theorem pw_E.call {A B : Nat → Prop} {s U : State} {H : Heap} {locs : List Loc} (hW : s.WarmedH U.vm) (h : pw_E A s s.heap) (hS : va_S A s.heap H locs) (hB : ∀ q, B q → A q) : pw_E B U H := by
  obtain ⟨h1, h2, h3, h4, h5, h6, h7, h8⟩ := h
  have hvm := hW.alike
  exact ⟨pw_NWwarm hW h1, fun x hx => by
    obtain ⟨a, ha⟩ := h2 x hx
    exact ⟨a, vk_R.warm hW ha⟩, ((vx_Zq.moved hvm h3).kept hS.2.1).narrow hB, ((vx_Zq.moved hvm h4).kept hS.2.1).narrow hB, fun x hx y hy n => va_Nc.moved hvm (h5 x hx y hy n), h6.call hvm hS.2.1 hB, h7.call hvm hS.2.1 hB, h8.call hvm hS.2.1 hB⟩
theorem pw_E.blind {A : Nat → Prop} {U : State} {g : JFrame} {mk : MethodId} {a : Array Value} (h : pw_E A U U.heap) : pw_E A (U.calling g mk a) (U.calling g mk a).heap := by
  obtain ⟨h1, h2, h3, h4, h5, ⟨t6, p6, q6⟩, ⟨t7, p7, q7⟩, ⟨t8, p8, q8⟩⟩ := h
  have hvm : U.vm.Alike (U.calling g mk a).vm := Vm.Alike.refl U.vm
  exact ⟨fun w hw => va_Nw.same (u := U) (pw_NWot w hw) rfl (h1 w hw), fun x hx => by
    obtain ⟨b, hb⟩ := h2 x hx
    exact ⟨b, vk_R.same (u := U) rfl hb⟩, vx_Zq.moved (u := U) hvm h3, vx_Zq.moved (u := U) hvm h4, fun x hx y hy n => va_Nc.moved hvm (h5 x hx y hy n), ⟨t6, va_Z.moved (u := U) hvm p6, va_T.moved (u := U) hvm q6⟩, ⟨t7, va_Z.moved (u := U) hvm p7, va_T.moved (u := U) hvm q7⟩, ⟨t8, va_Z.moved (u := U) hvm p8, va_T.moved (u := U) hvm q8⟩⟩
abbrev pw_PreE (D : va_G) (cy : Nat → ClassId) (av : List Value) (ws : va_W) (sz : Nat) : Array Value → State → Prop := va_Pc av (fun U => U.heap.size = sz ∧ va_P D vwCl ws U.heap ∧ va_K D vwCl (pw_tys cy) U ∧ va_D (fun _ => True) ws ∧ pw_E (va_A ws sz) U U.heap)
theorem pw_blindE {D : va_G} {cy : Nat → ClassId} {av : List Value} {ws : va_W} {sz : Nat} : FrameBlind (pw_PreE D cy av ws sz) := fun a U g mk q => by
  obtain ⟨q0, q1, qP, qK, qD, qE⟩ := q
  exact ⟨q0, q1, qP, va_K.moved (u := U) (U := U.calling g mk a) (Vm.Alike.refl U.vm) qK, qD, qE.blind⟩
theorem pw_preE {D : va_G} {cy : Nat → ClassId} {av : List Value} {ws : va_W} {H : Heap} {s : State} {A : Nat → Prop} {locs : List Loc} (hP : va_P D vwCl ws H) (hK : va_K D vwCl (pw_tys cy) s) (hD : va_D A ws) (hS : va_S A s.heap H locs) (hA : ∀ q : Nat, s.heap.size ≤ q → A q) (hE : pw_E A s s.heap) : ∀ U : State, U.heap = H → s.WarmedH U.vm → pw_PreE D cy av ws H.size av.toArray U := fun U hU hW =>
  ⟨rfl, by rw [hU], by rw [hU]; exact hP, va_K.moved hW.alike hK, hD.weaken (fun _ _ _ _ => trivial), by rw [hU]; exact hE.call hW hS (pw_own hD hS hA)⟩
/-- a method that throws its exception number k, and nothing is changed -/
abbrev pw_XC (D : va_G) (k : Nat) (ws : va_W) (sz : Nat) : String → State → State → Prop := vx_X (fun (_ : Unit) => True) (fun E _ t => E = pw_ex k ∧ va_P D vwCl ws t.heap) (va_A ws sz)
abbrev pw_NQ (ws : va_W) (sz : Nat) : Array Value → State → Outcome → State → Prop := va_Qv (fun (_ : Unit) => False) (fun _ _ => True) (va_A ws sz)
section PWF
variable {p : Program} {l : Launch} {e : Env} {R : Room} {s : State} {m : MethodId} {args : Array Value} {below : List Frame} {meth : Method} {c : Code} {H : Heap} {locs : List Loc} {cells slots : Nat} {Q : State → Prop}
variable {cc : ByteArray} {D : va_G} {cy : Nat → ClassId} {sz : Nat} {A : Nat → Prop} {pc : Nat} {ls : Array Slot}
variable {bytes : ByteArray} {maxL nL n index : Nat} {ret : Option FieldType} {ws Ts : List Cond} {rm : Room} {own C : String} {y : MethodName} {a : Addr} {As rest st0 : List Value} {H0 : Heap}
theorem pw_fi {r : Int32} {ws0 ws1 wa wb wc w1 : va_W} (S : CallFix p m c cc nL s args Ts own) (hM : Met l y ws rm (pw_Pre D cy (.ref a :: As) wc H.size) (pw_I D r wc w1 H.size) 0 0 (va_A wc H.size)) (cw : CallW R s args own C index y bytes maxL ret ws rm 0 0 n) (ci : Nat) (q : vw_C) (hq : vwCl[ci]? = some q) (hqC : q.1 = C) (hrc : ∃ (k : Nat) (fs : List Value), wc[k]? = some (a, .inr (ci, fs))) (hK : va_K D vwCl (pw_tys cy) s) (hP : va_P D vwCl ws0 H) (hD : va_D A ws0) (hS : va_S A H0 H locs) (hA : ∀ q : Nat, H0.size ≤ q → A q) (he0 : ws0 = wa ++ (wc ++ wb)) (he1 : ws1 = wa ++ (w1 ++ wb)) (hadr : w1.map Prod.fst = wc.map Prod.fst) (hn : As.length = n) (hsz : ls.size = nL) (hst : st0 = As.reverse ++ .ref a :: rest) (hW : (rest.map fun v => v.category).sum ≤ 8) (hdg : decode cc pc = .ok (.invokevirtual index, 3)) (hR : cells ≤ R.cells ∧ slots ≤ R.slots)
    (kk : ∀ (H1 : Heap) (locs1 : List Loc), va_P D vwCl ws1 H1 → va_D A ws1 → va_S A H0 H1 locs1 → W p l e R s m args below meth c H1 locs1 cells slots Q (F0 m (pc + 3) ls (.int r :: rest))) : W p l e R s m args below meth c H locs cells slots Q (F0 m pc ls st0) := by
  subst he0
  subst he1
  subst hqC
  obtain ⟨k, fs, hrc⟩ := hrc
  have hPc := pw_midP hP
  have hDc := pw_mid hD
  have hF := pw_own hDc hS hA
  refine va_calli (va_runV (rest := rest) S hM cw ⟨pw_blind, va_recv hK hPc hq hrc, pw_pre hPc hK hDc⟩ rfl hn hsz hst (lv_room (pc := pc) (ls := ls) (m := m) hW) hdg hR) hS (fun q _ h => hF q h) hF (fun x u t H1 locs1 ht hvm hw hB hz hk hS1 => ?_)
  rw [ht] at hB
  rw [show x = r from hw]
  exact kk H1 locs1 (pw_fr hP hD hk hB) (pw_adr hD (pw_mapf hadr)) hS1
theorem pw_fj {r : Int64} {ws0 ws1 wa wb wc w1 : va_W} (S : CallFix p m c cc nL s args Ts own) (hM : Met l y ws rm (pw_Pre D cy (.ref a :: As) wc H.size) (pw_J D r wc w1 H.size) 0 0 (va_A wc H.size)) (cw : CallW R s args own C index y bytes maxL ret ws rm 0 0 n) (ci : Nat) (q : vw_C) (hq : vwCl[ci]? = some q) (hqC : q.1 = C) (hrc : ∃ (k : Nat) (fs : List Value), wc[k]? = some (a, .inr (ci, fs))) (hK : va_K D vwCl (pw_tys cy) s) (hP : va_P D vwCl ws0 H) (hD : va_D A ws0) (hS : va_S A H0 H locs) (hA : ∀ q : Nat, H0.size ≤ q → A q) (he0 : ws0 = wa ++ (wc ++ wb)) (he1 : ws1 = wa ++ (w1 ++ wb)) (hadr : w1.map Prod.fst = wc.map Prod.fst) (hn : As.length = n) (hsz : ls.size = nL) (hst : st0 = As.reverse ++ .ref a :: rest) (hW : (rest.map fun v => v.category).sum ≤ 8) (hdg : decode cc pc = .ok (.invokevirtual index, 3)) (hR : cells ≤ R.cells ∧ slots ≤ R.slots)
    (kk : ∀ (H1 : Heap) (locs1 : List Loc), va_P D vwCl ws1 H1 → va_D A ws1 → va_S A H0 H1 locs1 → W p l e R s m args below meth c H1 locs1 cells slots Q (F0 m (pc + 3) ls (.long r :: rest))) : W p l e R s m args below meth c H locs cells slots Q (F0 m pc ls st0) := by
  subst he0
  subst he1
  subst hqC
  obtain ⟨k, fs, hrc⟩ := hrc
  have hPc := pw_midP hP
  have hDc := pw_mid hD
  have hF := pw_own hDc hS hA
  refine va_calll (va_runV (rest := rest) S hM cw ⟨pw_blind, va_recv hK hPc hq hrc, pw_pre hPc hK hDc⟩ rfl hn hsz hst (lv_room (pc := pc) (ls := ls) (m := m) hW) hdg hR) hS (fun q _ h => hF q h) hF (fun x u t H1 locs1 ht hvm hw hB hz hk hS1 => ?_)
  rw [ht] at hB
  rw [show x = r from hw]
  exact kk H1 locs1 (pw_fr hP hD hk hB) (pw_adr hD (pw_mapf hadr)) hS1
theorem pw_fd {r : UInt64} {ws0 ws1 wa wb wc w1 : va_W} (S : CallFix p m c cc nL s args Ts own) (hM : Met l y ws rm (pw_Pre D cy (.ref a :: As) wc H.size) (pw_F D r wc w1 H.size) 0 0 (va_A wc H.size)) (cw : CallW R s args own C index y bytes maxL ret ws rm 0 0 n) (ci : Nat) (q : vw_C) (hq : vwCl[ci]? = some q) (hqC : q.1 = C) (hrc : ∃ (k : Nat) (fs : List Value), wc[k]? = some (a, .inr (ci, fs))) (hK : va_K D vwCl (pw_tys cy) s) (hP : va_P D vwCl ws0 H) (hD : va_D A ws0) (hS : va_S A H0 H locs) (hA : ∀ q : Nat, H0.size ≤ q → A q) (he0 : ws0 = wa ++ (wc ++ wb)) (he1 : ws1 = wa ++ (w1 ++ wb)) (hadr : w1.map Prod.fst = wc.map Prod.fst) (hn : As.length = n) (hsz : ls.size = nL) (hst : st0 = As.reverse ++ .ref a :: rest) (hW : (rest.map fun v => v.category).sum ≤ 8) (hdg : decode cc pc = .ok (.invokevirtual index, 3)) (hR : cells ≤ R.cells ∧ slots ≤ R.slots)
    (kk : ∀ (H1 : Heap) (locs1 : List Loc), va_P D vwCl ws1 H1 → va_D A ws1 → va_S A H0 H1 locs1 → W p l e R s m args below meth c H1 locs1 cells slots Q (F0 m (pc + 3) ls (.double r :: rest))) : W p l e R s m args below meth c H locs cells slots Q (F0 m pc ls st0) := by
  subst he0
  subst he1
  subst hqC
  obtain ⟨k, fs, hrc⟩ := hrc
  have hPc := pw_midP hP
  have hDc := pw_mid hD
  have hF := pw_own hDc hS hA
  refine va_calld (va_runV (rest := rest) S hM cw ⟨pw_blind, va_recv hK hPc hq hrc, pw_pre hPc hK hDc⟩ rfl hn hsz hst (lv_room (pc := pc) (ls := ls) (m := m) hW) hdg hR) hS (fun q _ h => hF q h) hF (fun x u t H1 locs1 ht hvm hw hB hz hk hS1 => ?_)
  rw [ht] at hB
  rw [show x = r from hw]
  exact kk H1 locs1 (pw_fr hP hD hk hB) (pw_adr hD (pw_mapf hadr)) hS1
theorem pw_fv {ws0 ws1 wa wb wc w1 : va_W} (S : CallFix p m c cc nL s args Ts own) (hM : Met l y ws rm (pw_Pre D cy (.ref a :: As) wc H.size) (pw_V D wc w1 H.size) 0 0 (va_A wc H.size)) (cw : CallW R s args own C index y bytes maxL ret ws rm 0 0 n) (ci : Nat) (q : vw_C) (hq : vwCl[ci]? = some q) (hqC : q.1 = C) (hrc : ∃ (k : Nat) (fs : List Value), wc[k]? = some (a, .inr (ci, fs))) (hK : va_K D vwCl (pw_tys cy) s) (hP : va_P D vwCl ws0 H) (hD : va_D A ws0) (hS : va_S A H0 H locs) (hA : ∀ q : Nat, H0.size ≤ q → A q) (he0 : ws0 = wa ++ (wc ++ wb)) (he1 : ws1 = wa ++ (w1 ++ wb)) (hadr : w1.map Prod.fst = wc.map Prod.fst) (hn : As.length = n) (hsz : ls.size = nL) (hst : st0 = As.reverse ++ .ref a :: rest) (hW : (rest.map fun v => v.category).sum ≤ 8) (hdg : decode cc pc = .ok (.invokevirtual index, 3)) (hR : cells ≤ R.cells ∧ slots ≤ R.slots)
    (kk : ∀ (H1 : Heap) (locs1 : List Loc), va_P D vwCl ws1 H1 → va_D A ws1 → va_S A H0 H1 locs1 → W p l e R s m args below meth c H1 locs1 cells slots Q (F0 m (pc + 3) ls rest)) : W p l e R s m args below meth c H locs cells slots Q (F0 m pc ls st0) := by
  subst he0
  subst he1
  subst hqC
  obtain ⟨k, fs, hrc⟩ := hrc
  have hPc := pw_midP hP
  have hDc := pw_mid hD
  have hF := pw_own hDc hS hA
  refine va_callv (va_runV (rest := rest) S hM cw ⟨pw_blind, va_recv hK hPc hq hrc, pw_pre hPc hK hDc⟩ rfl hn hsz hst (lv_room (pc := pc) (ls := ls) (m := m) hW) hdg hR) hS (fun q _ h => hF q h) hF (fun u t H1 locs1 ht hvm hw hB hz hk hS1 => ?_)
  rw [ht] at hB
  exact kk H1 locs1 (pw_fr hP hD hk hB) (pw_adr hD (pw_mapf hadr)) hS1
theorem pw_sv {wc : va_W} (S : CallFix p m c cc nL s args Ts own) (hM : Met l y ws rm (pw_Pre D cy As [] H.size) (pw_V D [] [] H.size) 0 0 (va_A [] H.size)) (cw : CallB R s args own index y bytes maxL ret ws rm 0 0 n ∧ (Cond.static y).before args s = true) (hK : va_K D vwCl (pw_tys cy) s) (hP : va_P D vwCl wc H) (hS : va_S A H0 H locs) (hA : ∀ q : Nat, H0.size ≤ q → A q) (hn : As.length = n) (hsz : ls.size = nL) (hst : st0 = As.reverse ++ rest) (hW : (rest.map fun v => v.category).sum ≤ 8) (hdg : decode cc pc = .ok (.invokestatic index, 3)) (hR : cells ≤ R.cells ∧ slots ≤ R.slots)
    (kk : ∀ (H1 : Heap) (locs1 : List Loc), va_P D vwCl wc H1 → va_S A H0 H1 locs1 → W p l e R s m args below meth c H1 locs1 cells slots Q (F0 m (pc + 3) ls rest)) : W p l e R s m args below meth c H locs cells slots Q (F0 m pc ls st0) := by
  have hPn : va_P D vwCl [] H := fun k q h => by simp at h
  have hDn : va_D A [] := ⟨fun i j p q h => by simp at h, fun k q h => by simp at h⟩
  have hF := pw_own hDn hS hA
  refine va_callv (va_runS (rest := rest) S hM cw ⟨pw_blind, pw_pre hPn hK hDn⟩ rfl hn hsz hst (lv_room (pc := pc) (ls := ls) (m := m) hW) hdg hR) hS (fun q _ h => hF q h) hF (fun u t H1 locs1 ht hvm hw hB hz hk hS1 => ?_)
  exact kk H1 locs1 (pw_stay hP hk) hS1
theorem pw_sjf {r : Int64} {ws0 wa wb wc : va_W} (S : CallFix p m c cc nL s args Ts own) (hM : Met l y ws rm (pw_Pre D cy As wc H.size) (pw_J D r wc wc H.size) 0 0 (va_A wc H.size)) (cw : CallB R s args own index y bytes maxL ret ws rm 0 0 n ∧ (Cond.static y).before args s = true) (hK : va_K D vwCl (pw_tys cy) s) (hP : va_P D vwCl ws0 H) (hD : va_D A ws0) (hS : va_S A H0 H locs) (hA : ∀ q : Nat, H0.size ≤ q → A q) (he0 : ws0 = wa ++ (wc ++ wb)) (hn : As.length = n) (hsz : ls.size = nL) (hst : st0 = As.reverse ++ rest) (hW : (rest.map fun v => v.category).sum ≤ 8) (hdg : decode cc pc = .ok (.invokestatic index, 3)) (hR : cells ≤ R.cells ∧ slots ≤ R.slots)
    (kk : ∀ (H1 : Heap) (locs1 : List Loc), va_P D vwCl ws0 H1 → va_D A ws0 → va_S A H0 H1 locs1 → W p l e R s m args below meth c H1 locs1 cells slots Q (F0 m (pc + 3) ls (.long r :: rest))) : W p l e R s m args below meth c H locs cells slots Q (F0 m pc ls st0) := by
  subst he0
  have hPc := pw_midP hP
  have hDc := pw_mid hD
  have hF := pw_own hDc hS hA
  refine va_calll (va_runS (rest := rest) S hM cw ⟨pw_blind, pw_pre hPc hK hDc⟩ rfl hn hsz hst (lv_room (pc := pc) (ls := ls) (m := m) hW) hdg hR) hS (fun q _ h => hF q h) hF (fun x u t H1 locs1 ht hvm hw hB hz hk hS1 => ?_)
  rw [ht] at hB
  rw [show x = r from hw]
  exact kk H1 locs1 (pw_fr hP hD hk hB) hD hS1
/-- the head of a method that throws -/
theorem pw_metX {ws' : List Cond} {av : List Value} {w0 : va_W} {mc ms : Nat} {Qc : Array Value → State → Outcome → State → Prop} {XC : String → State → State → Prop} (hy : plainName y.cls = true) (hw : ws = Cond.code y cc maxL ret :: ws') (hlen : (lg_sl av).length ≤ maxL)
    (body : ∀ (p : Program) (e : Env) (s : State) (m : MethodId) (args : Array Value) (below : List Frame) (meth : Method) (c : Code) (ls : Array Slot) (A : Nat → Prop), p.tables.exec = Jvm.exec → c.code = cc → meth.sig.returnType = ret → c.maxLocals = maxL → meth.locks = false → (∀ w ∈ ws, w.before args s = true) → s.vm.findClass y.cls = some m.cls → A = va_A w0 sz → (∀ q : Nat, s.heap.size ≤ q → A q) → va_K D vwCl (pw_tys cy) s → va_P D vwCl w0 s.heap → va_D A w0 → va_S A s.heap s.heap [] → lv_has ls maxL (lv_args 0 av) → (∀ x ∈ c.exceptionTable.toList, False) → pw_E A s s.heap →
      W p l e rm s m args below meth c s.heap [] 0 0 (vx_MQ below Qc XC args s mc ms (va_A w0 sz)) (F0 m 0 ls [])) : vx_Met l y ws rm (pw_PreE D cy av w0 sz) Qc XC mc ms (va_A w0 sz) := by
  refine vx_ofW (cc := cc) (maxL := maxL) (ret := ret) hy hw ?_
  intro p e s m args below meth c s₁ B hml hxt hv
  obtain ⟨rfl, hsz, hP, hK, hD0, hE⟩ := hv
  have hts := atoms_spec (ws := ws) B.pre
  have hown : s.vm.findClass y.cls = some m.cls := findClass_of_methodNamed B.named
  subst hsz
  have hl := lv_entry av (n := maxL) hlen
  rw [lg_entry_eq]
  exact body p e s m _ below meth c _ (va_A w0 s.heap.size) B.exec B.bytes B.returns hml B.notSynchronized hts hown rfl (fun q h => Or.inr h) hK hP hD0.self va_S.rf hl hxt hE
end PWF
