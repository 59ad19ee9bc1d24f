/-! ===== the law's body: rows of its calls ===== -/
def pw_cellV (L : Nat) (xs : Nat → Int32) (k : Int32) : Int32 := if Int32.ofNat L ≤ k then 32452867 * k + 15485863 else xs k.toNatClampNeg
theorem pw_gSt {own : String} {idx : Nat} {y : MethodName} {b : ByteArray} {n : Nat} {r : Option FieldType} (h1 : Cond.methodLink own idx y ∈ pw_all) (h2 : Cond.static y ∈ pw_all) (h4 : Cond.initialized own ∈ pw_all) (h5 : Cond.code y b n r ∈ pw_all) : GoodIn pw_all (wsS own idx y (Cond.code y b n r :: pw_all)) := by
  intro w hw
  have hm : w ∈ pw_all := by
    rcases List.mem_append.mp hw with h | h
    · simp only [List.mem_cons, List.not_mem_nil, or_false] at h
      rcases h with rfl | rfl | rfl
      · exact h1
      · exact h2
      · exact h4
    · rcases List.mem_cons.mp h with rfl | h
      · exact h5
      · exact h
  exact ⟨hm, pw_good hm⟩
theorem pw_gVt {own C : String} {idx : Nat} {y : MethodName} {b : ByteArray} {n : Nat} {r : Option FieldType} (h1 : Cond.methodLink own idx y ∈ pw_all) (h2 : Cond.instanceMethod y ∈ pw_all) (h3 : Cond.selects C y y ∈ pw_all) (h4 : Cond.initialized C ∈ pw_all) (h5 : Cond.code y b n r ∈ pw_all) : GoodIn pw_all (wsV own idx C y (Cond.code y b n r :: pw_all)) := by
  intro w hw
  have hm : w ∈ pw_all := by
    rcases List.mem_append.mp hw with h | h
    · simp only [List.mem_cons, List.not_mem_nil, or_false] at h
      rcases h with rfl | rfl | rfl | rfl
      · exact h1
      · exact h2
      · exact h3
      · exact h4
    · rcases List.mem_cons.mp h with rfl | h
      · exact h5
      · exact h
  exact ⟨hm, pw_good hm⟩
abbrev pw_PreX (b L : Nat) (xs : Nat → Int32) (av : List Value) (sz : Nat) : Array Value → State → Prop := va_Pc av (fun U => U.heap.size = sz ∧ b < sz ∧ va_X b L xs U U.heap)
theorem pw_blindX {b L : Nat} {xs : Nat → Int32} {av : List Value} {sz : Nat} : FrameBlind (pw_PreX b L xs av sz) := fun a U g mk q => by
  obtain ⟨q0, q1, q2, q3⟩ := q
  exact ⟨q0, q1, q2, va_X.moved (u := U) (U := U.calling g mk a) (Vm.Alike.refl U.vm) q3⟩
section PWZ
variable {p : Program} {l : Launch} {e : Env} {R : Room} {s : State} {m : MethodId} {args : Array Value} {below : List Frame} {meth : Method} {c : Code} {H : Heap} {locs : List Loc} {cells slots : Nat} {Q : State → Prop}
variable {cc : ByteArray} {D : va_G} {cy : Nat → ClassId} {sz : Nat} {A : Nat → Prop} {pc : Nat} {ls : Array Slot}
variable {bytes : ByteArray} {maxL nL n index : Nat} {ret : Option FieldType} {ws Ts : List Cond} {rm : Room} {own C : String} {y : MethodName} {a : Addr} {As rest st0 : List Value} {H0 : Heap}
theorem pw_zsi {r : Int32} {wc w1 : va_W} (S : CallFix p m c cc nL s args Ts own) (hM : Met l y ws rm (pw_Pre D cy As wc H.size) (pw_I D r wc w1 H.size) 0 0 (va_A wc H.size)) (cw : CallB R s args own index y bytes maxL ret ws rm 0 0 n ∧ (Cond.static y).before args s = true) (hK : va_K D vwCl (pw_tys cy) s) (hP : va_P D vwCl wc H) (hD : va_D A wc) (hS : va_S A H0 H locs) (hA : ∀ q : Nat, H0.size ≤ q → A q) (hadr : w1.map Prod.fst = wc.map Prod.fst) (hn : As.length = n) (hsz : ls.size = nL) (hst : st0 = As.reverse ++ rest) (hW : (rest.map fun v => v.category).sum ≤ 8) (hdg : decode cc pc = .ok (.invokestatic index, 3)) (hR : cells ≤ R.cells ∧ slots ≤ R.slots)
    (kk : ∀ (H1 : Heap) (locs1 : List Loc), va_P D vwCl w1 H1 → va_D A w1 → va_S A H0 H1 locs1 → W p l e R s m args below meth c H1 locs1 cells slots Q (F0 m (pc + 3) ls (.int r :: rest))) : W p l e R s m args below meth c H locs cells slots Q (F0 m pc ls st0) := by
  have hF := pw_own hD hS hA
  refine va_calli (va_runS (rest := rest) S hM cw ⟨pw_blind, pw_pre hP hK hD⟩ rfl hn hsz hst (lv_room (pc := pc) (ls := ls) (m := m) hW) hdg hR) hS (fun q _ h => hF q h) hF (fun x u t H1 locs1 ht hvm hw hB hz hk hS1 => ?_)
  rw [ht] at hB
  rw [show x = r from hw]
  exact kk H1 locs1 hB (pw_adr hD hadr) hS1
theorem pw_zcell {r k : Int32} {b L : Nat} {xs : Nat → Int32} {wc : va_W} (S : CallFix p m c cc nL s args Ts own) (hM : Met l y ws rm (pw_PreX b L xs [.ref b, .int k] H.size) (pw_I D r [] [] H.size) 0 0 (va_A [] H.size)) (cw : CallB R s args own index y bytes maxL ret ws rm 0 0 n ∧ (Cond.static y).before args s = true) (hK : va_K D vwCl (pw_tys cy) s) (hP : va_P D vwCl wc H) (hS : va_S A s.heap H locs) (hA : ∀ q : Nat, s.heap.size ≤ q → A q) (hX : va_X b L xs s s.heap) (hbl : b < s.heap.size) (hbA : ¬ A b) (hn : 2 = n) (hsz : ls.size = nL) (hst : st0 = [Value.ref b, .int k].reverse ++ rest) (hW : (rest.map fun v => v.category).sum ≤ 8) (hdg : decode cc pc = .ok (.invokestatic index, 3)) (hR : cells ≤ R.cells ∧ slots ≤ R.slots)
    (kk : ∀ (H1 : Heap) (locs1 : List Loc), va_P D vwCl wc H1 → va_S A s.heap H1 locs1 → W p l e R s m args below meth c H1 locs1 cells slots Q (F0 m (pc + 3) ls (.int r :: rest))) : W p l e R s m args below meth c H locs cells slots Q (F0 m pc ls st0) := by
  have hDn : va_D A [] := ⟨fun i j p q h => by simp at h, fun k q h => by simp at h⟩
  have hF := pw_own hDn hS hA
  have pre : ∀ U : State, U.heap = H → s.WarmedH U.vm → pw_PreX b L xs [.ref b, .int k] H.size ([Value.ref b, .int k]).toArray U := fun U hU hW =>
    ⟨rfl, by rw [hU], Nat.lt_of_lt_of_le hbl hS.1, by rw [hU]; exact (va_X.moved hW.alike hX).kept (hS.2.1 b hbl hbA)⟩
  refine va_calli (va_runS (rest := rest) S hM cw ⟨pw_blindX, pre⟩ rfl hn hsz hst (lv_room (pc := pc) (ls := ls) (m := m) hW) hdg hR) hS (fun q _ h => hF q h) hF (fun x u t H1 locs1 ht hvm hw hB hz hk hS1 => ?_)
  rw [show x = r from hw]
  exact kk H1 locs1 (pw_stay hP hk) hS1
theorem pw_fiE {r : Int32} {ws0 ws1 wa wb wc w1 : va_W} (S : CallFix p m c cc nL s args Ts own) (hM : Met l y ws rm (pw_PreE D cy (.ref a :: As) wc H.size) (pw_I D r wc w1 H.size) 0 0 (va_A wc H.size)) (cw : CallW R s args own C index y bytes maxL ret ws rm 0 0 n) (ci : Nat) (q : vw_C) (hq : vwCl[ci]? = some q) (hqC : q.1 = C) (hrc : ∃ (k : Nat) (fs : List Value), wc[k]? = some (a, .inr (ci, fs))) (hK : va_K D vwCl (pw_tys cy) s) (hP : va_P D vwCl ws0 H) (hD : va_D A ws0) (hS : va_S A s.heap H locs) (hA : ∀ q : Nat, s.heap.size ≤ q → A q) (hE : pw_E A s s.heap) (he0 : ws0 = wa ++ (wc ++ wb)) (he1 : ws1 = wa ++ (w1 ++ wb)) (hadr : w1.map Prod.fst = wc.map Prod.fst) (hn : As.length = n) (hsz : ls.size = nL) (hst : st0 = As.reverse ++ .ref a :: rest) (hW : (rest.map fun v => v.category).sum ≤ 8) (hdg : decode cc pc = .ok (.invokevirtual index, 3)) (hR : cells ≤ R.cells ∧ slots ≤ R.slots)
    (kk : ∀ (H1 : Heap) (locs1 : List Loc), va_P D vwCl ws1 H1 → va_D A ws1 → va_S A s.heap H1 locs1 → W p l e R s m args below meth c H1 locs1 cells slots Q (F0 m (pc + 3) ls (.int r :: rest))) : W p l e R s m args below meth c H locs cells slots Q (F0 m pc ls st0) := by
  subst he0
  subst he1
  subst hqC
  obtain ⟨k, fs, hrc⟩ := hrc
  have hPc := pw_midP hP
  have hDc := pw_mid hD
  have hF := pw_own hDc hS hA
  refine va_calli (va_runV (rest := rest) S hM cw ⟨pw_blindE, va_recv hK hPc hq hrc, pw_preE hPc hK hDc hS hA hE⟩ rfl hn hsz hst (lv_room (pc := pc) (ls := ls) (m := m) hW) hdg hR) hS (fun q _ h => hF q h) hF (fun x u t H1 locs1 ht hvm hw hB hz hk hS1 => ?_)
  rw [ht] at hB
  rw [show x = r from hw]
  exact kk H1 locs1 (pw_fr hP hD hk hB) (pw_adr hD (pw_mapf hadr)) hS1
end PWZ
def aL_cell : List Cond := Cond.code yL_cell cL_cell 2 (some .int) :: pw_all
theorem pL_cell : yL_cell.cls = RL ∧ yL_cell.cls ≠ "java/lang/invoke/MethodHandle" ∧ yL_cell.cls ≠ "java/lang/invoke/VarHandle" ∧ (parseMethodDescriptor yL_cell.desc).map (fun d => d.parameters.length) = some 2 := by decide +kernel
set_option maxHeartbeats 8000000 in
set_option maxRecDepth 100000 in
theorem kL_cell (l : Launch) (D : va_G) (b L : Nat) (xs : Nat → Int32) (hL : L ≤ 260) (sz : Nat) (x1 : Int32) (h0 : ¬ x1 < 0) : Met l yL_cell aL_cell ({ frames := 0, cells := 0, slots := 0, locals := 0 }) (pw_PreX b L xs [.ref b, .int x1] sz) (pw_I D (pw_cellV L xs x1) [] [] sz) 0 0 (va_A [] sz) := by
  refine Met.ofW (cc := cL_cell) (maxL := 2) (ret := some .int) (by decide) rfl ?_
  intro p e s m args below meth c s₁ B hml hv
  obtain ⟨rfl, hsz, hbs, hX⟩ := hv
  have hx := B.exec
  have hb : c.code = cL_cell := B.bytes
  have hr := B.returns
  have hlk := B.notSynchronized
  have hts := atoms_spec (ws := aL_cell) B.pre
  have hta : ∀ w ∈ pw_all, w.before ([Value.ref b, .int x1]).toArray s = true := fun w h => hts w (List.mem_cons_of_mem _ h)
  have hown : s.vm.findClass yL_cell.cls = some m.cls := findClass_of_methodNamed B.named
  have hown : s.vm.findClass RL = some m.cls := hown
  subst hsz
  have hl := lv_entry ([.ref b, .int x1]) (n := 2) (Nat.le_of_ble_eq_true rfl)
  rw [lg_entry_eq]
  generalize (lg_sl ([.ref b, .int x1]) ++ List.replicate (2 - (lg_sl ([.ref b, .int x1])).length) Slot.unset).toArray = ls at hl ⊢
  have hl : lv_has ls 2 [(0, .ref b), (1, .int x1)] := hl
  have hbA : ¬ va_A [] s.heap.size b := fun z => by
    rcases z with ⟨k, e, z⟩ | z
    · simp at z
    · omega
  have hPn : va_P D vwCl [] s.heap := fun k q h => by simp at h
  have hS : va_S (va_A [] s.heap.size) s.heap s.heap [] := va_S.rf
  generalize hQ : MQ below (pw_I D (pw_cellV L xs x1) [] [] s.heap.size) ([Value.ref b, .int x1]).toArray s 0 0 (va_A [] s.heap.size) = Q
  refine lv_iload_n hx hb dL_cell_0 rfl (lv_at hl 1 rfl) ?_
  refine lv_aload_n hx hb dL_cell_1 rfl (lv_at hl 0 rfl) ?_
  refine va_slen hx hb hX hbs hbA hS dL_cell_2 ?_
  refine lv_icmp_ge (tgt := 12) hx hb dL_cell_3 (by decide) (fun c1 => ?_) (fun c1 => ?_)
  · refine lv_ldc (v := 32452867) hx hb hown (hta _ aw_435) dL_cell_12 ?_
    refine lv_iload_n hx hb dL_cell_14 rfl (lv_at hl 1 rfl) ?_
    refine lv_imul hx hb dL_cell_15 ?_
    refine lv_ldc (v := 15485863) hx hb hown (hta _ aw_436) dL_cell_16 ?_
    refine lv_iadd hx hb dL_cell_18 ?_
    subst hQ
    exact pw_ri hx hb hr hlk rfl hPn hS (if_pos c1).symm dL_cell_19
  · have hin : vp_in x1 L := fun z => by
      rcases z with z | z
      · exact h0 z
      · apply c1
        rw [Int32.le_iff_toInt_le, Int32.toInt_ofNat_of_lt (by omega)]
        have z1 : x1 = Int32.ofNat x1.toNatClampNeg := (Int32.ofNat_toNatClampNeg x1 (by rw [Int32.lt_iff_toInt_lt] at h0; rw [Int32.le_iff_toInt_le]; omega)).symm
        have z2 := Int32.toNatClampNeg_lt x1
        have z3 : x1.toInt = (x1.toNatClampNeg : Int) := by
          rw [z1, Int32.toInt_ofNat_of_lt z2, ← z1]
        omega
    refine lv_aload_n hx hb dL_cell_6 rfl (lv_at hl 0 rfl) ?_
    refine lv_iload_n hx hb dL_cell_7 rfl (lv_at hl 1 rfl) ?_
    refine va_sld hx hb hX hbs hbA hS hin dL_cell_8 ?_
    refine lv_goto (tgt := 19) hx hb dL_cell_9 (by decide) ?_
    subst hQ
    exact pw_ri hx hb hr hlk rfl hPn hS (if_neg c1).symm dL_cell_19
def fL_law_L483 (P_210 : Nat → Nat → Int32) : Nat → Int32 → Int32 → Option (Int32)
  | 0, _, _ => none
  | n + 1, x8_483, x9_483 =>
    if 8 ≤ x9_483 then
      some x8_483
    else
      (fX3_place x9_483 0 P_210).bind fun r54 =>
      Sum.elim (fun e => none) (fun a55 =>
      if a55 = 1 then
        (fX3_place x9_483 2 P_210).bind fun r56 =>
        Sum.elim (fun e => none) (fun a57 =>
        fL_law_L483 P_210 n (x8_483 + a57) (x9_483 + 1)) r56
      else
        fL_law_L483 P_210 n (x8_483 + 0) (x9_483 + 1)) r54
def fL_law_L483b2 (P_210 : Nat → Nat → Int32) : Nat → Int32 → Int32 → Option (Int32)
  | 0, _, _ => none
  | n + 1, x8_483, x9_483 =>
    if 8 ≤ x9_483 then
      some x8_483
    else
      (fX3_place x9_483 0 P_210).bind fun r85 =>
      Sum.elim (fun e => none) (fun a86 =>
      if a86 = 1 then
        (fX3_place x9_483 2 P_210).bind fun r87 =>
        Sum.elim (fun e => none) (fun a88 =>
        fL_law_L483b2 P_210 n (x8_483 + a88) (x9_483 + 1)) r87
      else
        fL_law_L483b2 P_210 n (x8_483 + 0) (x9_483 + 1)) r85
def fL_law_L210 (L : Nat) (xs : Nat → Int32) : Nat → Int32 → Int32 → (Nat → Nat → Int32) → (Nat → Nat → Int32) → (Nat → Nat → Nat → Int32) → Int32 → Int32 → (Nat → Int32) → (Nat → Int32) → (Nat → Int32) → Option (Int32 × (Nat → Nat → Int32) × (Nat → Nat → Int32) × (Nat → Nat → Nat → Int32) × Int32 × Int32 × (Nat → Int32) × (Nat → Int32) × (Nat → Int32))
  | 0, _, _, _, _, _, _, _, _, _, _ => none
  | n + 1, x3_210, x4_210, P_210, T_210, S_210, nw_210, hz_210, ak_210, pa_210, wt_210 =>
    if 50 ≤ x4_210 then
      some (x3_210, P_210, T_210, S_210, nw_210, hz_210, ak_210, pa_210, wt_210)
    else
      if ¬ (x3_210 = 0) then
      if ¬ (1 + x4_210 < 0) then
      (fL_low ((pw_cellV L xs (1 + x4_210)) >>> ((4 : Int32) &&& 31)) 8).bind fun r31 =>
      (fL_low (pw_cellV L xs (1 + x4_210)) 14).bind fun r32 =>
      (if 5 ≤ r32 then
         if 8 ≤ r32 then
           if r32 = 8 then
             (fX3_owner r31 0 P_210).bind fun r98 =>
             Sum.elim (fun e => none) (fun a99 =>
             (if a99 = 1 then
                some (1 : Int32)
              else
                some (0 : Int32) : Option (Int32)).bind fun v100 =>
             (fX3_owner r31 2 P_210).bind fun r101 =>
             Sum.elim (fun e => none) (fun a102 =>
             (if a102 < 0 then
                some (0 : Int32)
              else
                some (1 : Int32) : Option (Int32)).bind fun v103 =>
             (fX3_owner r31 5 P_210).bind fun r104 =>
             Sum.elim (fun e => none) (fun a105 =>
             (fX3_owner r31 1 P_210).bind fun r106 =>
             Sum.elim (fun e => none) (fun a107 =>
             (if v100 = 0 then
                some (1 : Int32)
              else
                some (0 : Int32) : Option (Int32)).bind fun v108 =>
             (fX3_appear r31 v108 P_210 S_210 nw_210 hz_210).bind fun r109 =>
             Sum.elim (fun e => none) (fun a110 =>
             if a110.1 = a107 then
             (fX3_owner r31 0 a110.2.1).bind fun r111 =>
             Sum.elim (fun e => none) (fun a112 =>
             (if v100 = 0 then
                some (1 : Int32)
              else
                some (0 : Int32) : Option (Int32)).bind fun v113 =>
             if a112 = v113 then
             (if v103 = 0 then
                some ()
              else
                (fX3_owner r31 2 a110.2.1).bind fun r115 =>
                Sum.elim (fun e => none) (fun a116 =>
                if a116 = (-1) then
                some ()
                else none) r115 : Option (Unit)).bind fun v114 =>
             (fX3_owner r31 5 a110.2.1).bind fun r117 =>
             Sum.elim (fun e => none) (fun a118 =>
             if a118 = a105 then
             some (1, a110.2.1, T_210, a110.2.2.1, a110.2.2.2.1, a110.2.2.2.2, ak_210, pa_210, wt_210)
             else none) r117
             else none) r111
             else none) r109) r106) r104) r101) r98
           else
             if r32 = 9 then
               (fX3_place r31 0 P_210).bind fun r63 =>
               Sum.elim (fun e => none) (fun a64 =>
               if a64 ≤ 0 then
                 if r32 = 10 then
                   (fL_law_L483b2 P_210 1000 0 0).bind fun v84 =>
                   (fX3_count 8 P_210 hz_210).bind fun r89 =>
                   Sum.elim (fun e => none) (fun a90 =>
                   (fX3_check P_210 S_210 nw_210 hz_210).bind fun r91 =>
                   if r91.1 = v84 then
                   (fX3_count 8 r91.2.1 r91.2.2.2.2).bind fun r92 =>
                   Sum.elim (fun e => none) (fun a93 =>
                   if a93 = a90 + v84 then
                   some (1, r91.2.1, T_210, r91.2.2.1, r91.2.2.2.1, r91.2.2.2.2, ak_210, pa_210, wt_210)
                   else none) r92
                   else none) r89
                 else
                   if r32 = 11 then
                     (fX3_owner r31 2 P_210).bind fun r68 =>
                     Sum.elim (fun e => none) (fun a69 =>
                     if a69 < 0 then
                       if r32 ≤ 11 then
                         some (x3_210, P_210, T_210, S_210, nw_210, hz_210, ak_210, pa_210, wt_210)
                       else
                         (fL_low ((pw_cellV L xs (1 + x4_210)) >>> ((7 : Int32) &&& 31)) 6).bind fun r70 =>
                         (fL_pass (1 + r70) r31 P_210 T_210 S_210 nw_210 hz_210 pa_210 wt_210).bind fun r71 =>
                         if ¬ (r71.1 = 0) then
                         (fL_holds r71.2.1 r71.2.2.2.2.2.1).bind fun r72 =>
                         if ¬ (r72 = 0) then
                         some (1, r71.2.1, r71.2.2.1, r71.2.2.2.1, r71.2.2.2.2.1, r71.2.2.2.2.2.1, ak_210, r71.2.2.2.2.2.2.1, r71.2.2.2.2.2.2.2)
                         else none
                         else none
                     else
                       (fX3_owner r31 3 P_210).bind fun r73 =>
                       Sum.elim (fun e => none) (fun a74 =>
                       (fX3_owner r31 5 P_210).bind fun r75 =>
                       Sum.elim (fun e => none) (fun a76 =>
                       (fX3_giveUp r31 P_210 S_210 nw_210 hz_210).bind fun r77 =>
                       Sum.elim (fun e => none) (fun a78 =>
                       if a78.1 = a74 then
                       (fX3_owner r31 5 a78.2.1).bind fun r79 =>
                       Sum.elim (fun e => none) (fun a80 =>
                       if a80 = a76 + 1 then
                       (fX3_owner r31 2 a78.2.1).bind fun r81 =>
                       Sum.elim (fun e => none) (fun a82 =>
                       if a82 = (-1) then
                       some (1, a78.2.1, T_210, a78.2.2.1, a78.2.2.2.1, a78.2.2.2.2, ak_210, pa_210, wt_210)
                       else none) r81
                       else none) r79
                       else none) r77) r75) r73) r68
                   else
                     if r32 ≤ 11 then
                       some (x3_210, P_210, T_210, S_210, nw_210, hz_210, ak_210, pa_210, wt_210)
                     else
                       (fL_low ((pw_cellV L xs (1 + x4_210)) >>> ((7 : Int32) &&& 31)) 6).bind fun r65 =>
                       (fL_pass (1 + r65) r31 P_210 T_210 S_210 nw_210 hz_210 pa_210 wt_210).bind fun r66 =>
                       if ¬ (r66.1 = 0) then
                       (fL_holds r66.2.1 r66.2.2.2.2.2.1).bind fun r67 =>
                       if ¬ (r67 = 0) then
                       some (1, r66.2.1, r66.2.2.1, r66.2.2.2.1, r66.2.2.2.2.1, r66.2.2.2.2.2.1, ak_210, r66.2.2.2.2.2.2.1, r66.2.2.2.2.2.2.2)
                       else none
                       else none
               else
                 (fX3_place r31 2 P_210).bind fun r94 =>
                 Sum.elim (fun e => none) (fun a95 =>
                 (fX3_sicken r31 P_210 S_210 nw_210 hz_210).bind fun r96 =>
                 Sum.elim (fun e => none) (fun a97 =>
                 if a97.1 = 1 - a95 then
                 some (1, a97.2.1, T_210, a97.2.2.1, a97.2.2.2.1, a97.2.2.2.2, ak_210, pa_210, wt_210)
                 else none) r96) r94) r63
             else
               if r32 = 10 then
                 (fL_law_L483 P_210 1000 0 0).bind fun v53 =>
                 (fX3_count 8 P_210 hz_210).bind fun r58 =>
                 Sum.elim (fun e => none) (fun a59 =>
                 (fX3_check P_210 S_210 nw_210 hz_210).bind fun r60 =>
                 if r60.1 = v53 then
                 (fX3_count 8 r60.2.1 r60.2.2.2.2).bind fun r61 =>
                 Sum.elim (fun e => none) (fun a62 =>
                 if a62 = a59 + v53 then
                 some (1, r60.2.1, T_210, r60.2.2.1, r60.2.2.2.1, r60.2.2.2.2, ak_210, pa_210, wt_210)
                 else none) r61
                 else none) r58
               else
                 if r32 = 11 then
                   (fX3_owner r31 2 P_210).bind fun r37 =>
                   Sum.elim (fun e => none) (fun a38 =>
                   if a38 < 0 then
                     if r32 ≤ 11 then
                       some (x3_210, P_210, T_210, S_210, nw_210, hz_210, ak_210, pa_210, wt_210)
                     else
                       (fL_low ((pw_cellV L xs (1 + x4_210)) >>> ((7 : Int32) &&& 31)) 6).bind fun r39 =>
                       (fL_pass (1 + r39) r31 P_210 T_210 S_210 nw_210 hz_210 pa_210 wt_210).bind fun r40 =>
                       if ¬ (r40.1 = 0) then
                       (fL_holds r40.2.1 r40.2.2.2.2.2.1).bind fun r41 =>
                       if ¬ (r41 = 0) then
                       some (1, r40.2.1, r40.2.2.1, r40.2.2.2.1, r40.2.2.2.2.1, r40.2.2.2.2.2.1, ak_210, r40.2.2.2.2.2.2.1, r40.2.2.2.2.2.2.2)
                       else none
                       else none
                   else
                     (fX3_owner r31 3 P_210).bind fun r42 =>
                     Sum.elim (fun e => none) (fun a43 =>
                     (fX3_owner r31 5 P_210).bind fun r44 =>
                     Sum.elim (fun e => none) (fun a45 =>
                     (fX3_giveUp r31 P_210 S_210 nw_210 hz_210).bind fun r46 =>
                     Sum.elim (fun e => none) (fun a47 =>
                     if a47.1 = a43 then
                     (fX3_owner r31 5 a47.2.1).bind fun r48 =>
                     Sum.elim (fun e => none) (fun a49 =>
                     if a49 = a45 + 1 then
                     (fX3_owner r31 2 a47.2.1).bind fun r50 =>
                     Sum.elim (fun e => none) (fun a51 =>
                     if a51 = (-1) then
                     some (1, a47.2.1, T_210, a47.2.2.1, a47.2.2.2.1, a47.2.2.2.2, ak_210, pa_210, wt_210)
                     else none) r50
                     else none) r48
                     else none) r46) r44) r42) r37
                 else
                   if r32 ≤ 11 then
                     some (x3_210, P_210, T_210, S_210, nw_210, hz_210, ak_210, pa_210, wt_210)
                   else
                     (fL_low ((pw_cellV L xs (1 + x4_210)) >>> ((7 : Int32) &&& 31)) 6).bind fun r34 =>
                     (fL_pass (1 + r34) r31 P_210 T_210 S_210 nw_210 hz_210 pa_210 wt_210).bind fun r35 =>
                     if ¬ (r35.1 = 0) then
                     (fL_holds r35.2.1 r35.2.2.2.2.2.1).bind fun r36 =>
                     if ¬ (r36 = 0) then
                     some (1, r35.2.1, r35.2.2.1, r35.2.2.2.1, r35.2.2.2.2.1, r35.2.2.2.2.2.1, ak_210, r35.2.2.2.2.2.2.1, r35.2.2.2.2.2.2.2)
                     else none
                     else none
         else
           (fL_give r31 P_210 S_210 nw_210 hz_210).bind fun r119 =>
           some (r119.1, r119.2.1, T_210, r119.2.2.1, r119.2.2.2.1, r119.2.2.2.2, ak_210, pa_210, wt_210)
       else
         (fL_ask r31 P_210 T_210 S_210 nw_210 hz_210 ak_210).bind fun r120 =>
         some (r120.1, r120.2.1, r120.2.2.1, r120.2.2.2.1, r120.2.2.2.2.1, r120.2.2.2.2.2.1, r120.2.2.2.2.2.2, pa_210, wt_210) : Option (Int32 × (Nat → Nat → Int32) × (Nat → Nat → Int32) × (Nat → Nat → Nat → Int32) × Int32 × Int32 × (Nat → Int32) × (Nat → Int32) × (Nat → Int32))).bind fun v33 =>
      if ¬ (v33.1 = 0) then
      (fL_addUp v33.2.1 v33.2.2.2.2.2.1).bind fun r121 =>
      if ¬ (r121 = 0) then
      fL_law_L210 L xs n 1 (x4_210 + 1) v33.2.1 v33.2.2.1 v33.2.2.2.1 v33.2.2.2.2.1 v33.2.2.2.2.2.1 v33.2.2.2.2.2.2.1 v33.2.2.2.2.2.2.2.1 v33.2.2.2.2.2.2.2.2
      else none
      else none
      else none
      else none
def fL_law (L : Nat) (xs : Nat → Int32) (P : Nat → Nat → Int32) (T : Nat → Nat → Int32) (S : Nat → Nat → Nat → Int32) (nw : Int32) (hz : Int32) (ak : Nat → Int32) (pa : Nat → Int32) (wt : Nat → Int32) (cd : Nat → Int32) (ln : Int32) : Option Unit :=
  (fL_addUp P hz).bind fun r1 =>
  if ¬ (r1 = 0) then
  if ¬ ((0 : Int32) < 0) then
  (fL_low (pw_cellV L xs (0 : Int32)) 8).bind fun r2 =>
  (fX3_set 0 (1 + r2) P S nw hz).bind fun r3 =>
  Sum.elim (fun e => none) (fun a4 =>
  if a4.1 = 4 then
  (fL_low ((pw_cellV L xs (0 : Int32)) >>> ((3 : Int32) &&& 31)) 3).bind fun r5 =>
  (fX3_set 1 (1 + r5) a4.2.1 a4.2.2.1 a4.2.2.2.1 a4.2.2.2.2).bind fun r6 =>
  Sum.elim (fun e => none) (fun a7 =>
  if a7.1 = 2 then
  (fL_low ((pw_cellV L xs (0 : Int32)) >>> ((5 : Int32) &&& 31)) 4).bind fun r8 =>
  (fX3_set 2 r8 a7.2.1 a7.2.2.1 a7.2.2.2.1 a7.2.2.2.2).bind fun r9 =>
  Sum.elim (fun e => none) (fun a10 =>
  if a10.1 = 1 then
  (fL_low ((pw_cellV L xs (0 : Int32)) >>> ((7 : Int32) &&& 31)) 2).bind fun r11 =>
  (fX3_set 3 r11 a10.2.1 a10.2.2.1 a10.2.2.2.1 a10.2.2.2.2).bind fun r12 =>
  Sum.elim (fun e => none) (fun a13 =>
  if a13.1 = 0 then
  (fL_low ((pw_cellV L xs (0 : Int32)) >>> ((8 : Int32) &&& 31)) 2).bind fun r14 =>
  (fX3_set 4 r14 a13.2.1 a13.2.2.1 a13.2.2.2.1 a13.2.2.2.2).bind fun r15 =>
  Sum.elim (fun e => none) (fun a16 =>
  if a16.1 = 1 then
  (fL_low ((pw_cellV L xs (0 : Int32)) >>> ((9 : Int32) &&& 31)) 9).bind fun r17 =>
  (fX3_set 5 (1 + r17) a16.2.1 a16.2.2.1 a16.2.2.2.1 a16.2.2.2.2).bind fun r18 =>
  Sum.elim (fun e => none) (fun a19 =>
  if a19.1 = 10 then
  (fL_low ((pw_cellV L xs (0 : Int32)) >>> ((13 : Int32) &&& 31)) 6).bind fun r20 =>
  (fX3_set 6 r20 a19.2.1 a19.2.2.1 a19.2.2.2.1 a19.2.2.2.2).bind fun r21 =>
  Sum.elim (fun e => none) (fun a22 =>
  if a22.1 = 5 then
  (fL_low ((pw_cellV L xs (0 : Int32)) >>> ((16 : Int32) &&& 31)) 12).bind fun r23 =>
  (fX3_set 7 (1 + r23) a22.2.1 a22.2.2.1 a22.2.2.2.1 a22.2.2.2.2).bind fun r24 =>
  Sum.elim (fun e => none) (fun a25 =>
  if a25.1 = 20 then
  (fL_low ((pw_cellV L xs (0 : Int32)) >>> ((20 : Int32) &&& 31)) 12).bind fun r26 =>
  (fX3_set 8 (1 + r26) a25.2.1 a25.2.2.1 a25.2.2.2.1 a25.2.2.2.2).bind fun r27 =>
  Sum.elim (fun e => none) (fun a28 =>
  if a28.1 = 15 then
  (fL_law_L210 L xs 1000 1 0 a28.2.1 T a28.2.2.1 a28.2.2.2.1 a28.2.2.2.2 ak pa wt).bind fun v30 =>
  (fX3_count 2 v30.2.1 v30.2.2.2.2.2.1).bind fun r122 =>
  Sum.elim (fun e => none) (fun a123 =>
  if ¬ (v30.1 = 0) then
  (fX3_drain v30.2.1 v30.2.2.2.1 v30.2.2.2.2.1 v30.2.2.2.2.2.1).bind fun r124 =>
  if r124.1 = a123 then
  (fL_addUp r124.2.1 r124.2.2.2.2).bind fun r125 =>
  if ¬ (r125 = 0) then
  some ()
  else none
  else none
  else none) r122
  else none) r27
  else none) r24
  else none) r21
  else none) r18
  else none) r15
  else none) r12
  else none) r9
  else none) r6
  else none) r3
  else none
  else none
