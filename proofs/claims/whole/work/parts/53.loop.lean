/-! ===== the law: a round, and the loop ===== -/
set_option maxHeartbeats 8000000 in
set_option maxRecDepth 100000 in
theorem kA_round {p : Program} {e : Env} {s : State} {m : MethodId} {args : Array Value} {below : List Frame} {meth : Method} {c : Code} (l : Launch) (hfl : l.stackTraces = false) {D : va_G} {cy : Nat → ClassId} {qa : Nat → Nat → Nat} {q : Nat → Nat} {A : Nat → Prop} {b L k ao : Nat} {xs : Nat → Int32} (hx : p.tables.exec = Jvm.exec) (hb : c.code = cL_law) (hF : CallFix p m c cL_law 9 s args pw_all RL) (hK : va_K D vwCl (pw_tys cy) s) (hE : pw_E A s s.heap) (hA : ∀ q : Nat, s.heap.size ≤ q → A q) (hX : va_X b L xs s s.heap) (hbl : b < s.heap.size) (hbA : ¬ A b) (hL : L ≤ 1536) (hk : k + 2 < L) {P T : Nat → Nat → Int32} {S : Nat → Nat → Nat → Int32} {nw hz : Int32} {ak pa wt cd : Nat → Int32} {ln : Int32} {ov : Nat → Int64} {th : Int32} {z sv : Nat → Int32} {sn : Int32} {sp bf : Nat → Int32} {ty : Int32} {gn : Nat → Int32} {hs : Int64} (RAh : RA P S nw hz cd ln z sv sn bf ty) {H : Heap} {locs : List Loc} {ls : Array Slot} {cells slots : Nat} {Q : State → Prop} (hP : va_P D vwCl (WL cy qa P T S nw hz ak pa wt cd ln ao ov ++ WM cy q th z sv sn sp bf ty gn hs) H) (hD : va_D A (WL cy qa P T S nw hz ak pa wt cd ln ao ov ++ WM cy q th z sv sn sp bf ty gn hs)) (hS : va_S A s.heap H locs) (hl : lv_has ls 9 [(0, .ref b), (1, .ref (qa 0 0)), (2, .ref (q 0)), (3, .ref ao), (4, .int (Int32.ofNat k))]) (hR1 : cells + 1 ≤ room_1.cells) (hR2 : slots + 6 ≤ room_1.slots) (kk : ∀ (P T : Nat → Nat → Int32) (S : Nat → Nat → Nat → Int32) (nw hz : Int32) (ak pa wt cd : Nat → Int32) (ln : Int32) (ov : Nat → Int64) (th : Int32) (z sv : Nat → Int32) (sn : Int32) (sp bf : Nat → Int32) (ty : Int32) (gn : Nat → Int32) (hs : Int64) (H : Heap) (locs : List Loc) (ls : Array Slot), RA P S nw hz cd ln z sv sn bf ty → va_P D vwCl (WL cy qa P T S nw hz ak pa wt cd ln ao ov ++ WM cy q th z sv sn sp bf ty gn hs) H → va_D A (WL cy qa P T S nw hz ak pa wt cd ln ao ov ++ WM cy q th z sv sn sp bf ty gn hs) → va_S A s.heap H locs → lv_has ls 9 [(0, .ref b), (1, .ref (qa 0 0)), (2, .ref (q 0)), (3, .ref ao), (4, .int (Int32.ofNat k))] → W p l e room_1 s m args below meth c H locs (cells + 1) (slots + 6) Q (F0 m 1284 ls [])) : W p l e room_1 s m args below meth c H locs cells slots Q (F0 m 32 ls []) := by
  have h0i : vp_in (Int32.ofNat k) L := pw_ix (k := k) (j := 0) hL (by omega)
  refine lv_aload_n hx hb dL_law_32 rfl (lv_at hl 0 rfl) ?_
  refine lv_iload hx hb dL_law_33 (lv_at hl 4 rfl) ?_
  refine va_sld hx hb hX hbl hbA hS h0i dL_law_35 ?_
  refine lv_bipush (v := 31) hx hb dL_law_36 (by decide) ?_
  refine lv_iand hx hb dL_law_38 ?_
  generalize (xs (Int32.ofNat k).toNatClampNeg &&& 31) = v
  by_cases c0 : v = 0
  · rw [c0]
    refine lv_tableIn (off := 109) (tgt := 148) hx hb dL_law_39 (by decide) (by decide) (by decide) (by decide) ?_
    exact kA_ask l hfl hx hb hF hK hE hA hX hbl hbA hL hk RAh hP hD hS hl hR1 hR2 kk
  by_cases c1 : v = 1
  · rw [c1]
    refine lv_tableIn (off := 165) (tgt := 204) hx hb dL_law_39 (by decide) (by decide) (by decide) (by decide) ?_
    exact kA_give l hfl hx hb hF hK hE hA hX hbl hbA hL hk RAh hP hD hS hl hR1 hR2 kk
  by_cases c2 : v = 2
  · rw [c2]
    refine lv_tableIn (off := 221) (tgt := 260) hx hb dL_law_39 (by decide) (by decide) (by decide) (by decide) ?_
    exact kA_giveUp l hfl hx hb hF hK hE hA hX hbl hbA hL hk RAh hP hD hS hl hR1 hR2 kk
  by_cases c3 : v = 3
  · rw [c3]
    refine lv_tableIn (off := 277) (tgt := 316) hx hb dL_law_39 (by decide) (by decide) (by decide) (by decide) ?_
    exact kA_appear l hfl hx hb hF hK hE hA hX hbl hbA hL hk RAh hP hD hS hl hR1 hR2 kk
  by_cases c4 : v = 4
  · rw [c4]
    refine lv_tableIn (off := 361) (tgt := 400) hx hb dL_law_39 (by decide) (by decide) (by decide) (by decide) ?_
    exact kA_sicken l hfl hx hb hF hK hE hA hX hbl hbA hL hk RAh hP hD hS hl hR1 hR2 kk
  by_cases c5 : v = 5
  · rw [c5]
    refine lv_tableIn (off := 417) (tgt := 456) hx hb dL_law_39 (by decide) (by decide) (by decide) (by decide) ?_
    exact kA_check l hfl hx hb hF hK hE hA hX hbl hbA hL hk RAh hP hD hS hl hR1 hR2 kk
  by_cases c6 : v = 6
  · rw [c6]
    refine lv_tableIn (off := 430) (tgt := 469) hx hb dL_law_39 (by decide) (by decide) (by decide) (by decide) ?_
    exact kA_drain l hfl hx hb hF hK hE hA hX hbl hbA hL hk RAh hP hD hS hl hR1 hR2 kk
  by_cases c7 : v = 7
  · rw [c7]
    refine lv_tableIn (off := 443) (tgt := 482) hx hb dL_law_39 (by decide) (by decide) (by decide) (by decide) ?_
    exact kA_set l hfl hx hb hF hK hE hA hX hbl hbA hL hk RAh hP hD hS hl hR1 hR2 kk
  by_cases c8 : v = 8
  · rw [c8]
    refine lv_tableIn (off := 511) (tgt := 550) hx hb dL_law_39 (by decide) (by decide) (by decide) (by decide) ?_
    exact kA_pass l hfl hx hb hF hK hE hA hX hbl hbA hL hk RAh hP hD hS hl hR1 hR2 kk
  by_cases c9 : v = 9
  · rw [c9]
    refine lv_tableIn (off := 567) (tgt := 606) hx hb dL_law_39 (by decide) (by decide) (by decide) (by decide) ?_
    exact kA_append l hfl hx hb hF hK hE hA hX hbl hbA hL hk RAh hP hD hS hl hR1 hR2 kk
  by_cases c10 : v = 10
  · rw [c10]
    refine lv_tableIn (off := 623) (tgt := 662) hx hb dL_law_39 (by decide) (by decide) (by decide) (by decide) ?_
    exact kA_clearBuffer l hfl hx hb hF hK hE hA hX hbl hbA hL hk RAh hP hD hS hl hR1 hR2 kk
  by_cases c11 : v = 11
  · rw [c11]
    refine lv_tableIn (off := 636) (tgt := 675) hx hb dL_law_39 (by decide) (by decide) (by decide) (by decide) ?_
    exact kA_firstError l hfl hx hb hF hK hE hA hX hbl hbA hL hk RAh hP hD hS hl hR1 hR2 kk
  by_cases c12 : v = 12
  · rw [c12]
    refine lv_tableIn (off := 649) (tgt := 688) hx hb dL_law_39 (by decide) (by decide) (by decide) (by decide) ?_
    exact kA_run l hfl hx hb hF hK hE hA hX hbl hbA hL hk RAh hP hD hS hl hR1 hR2 kk
  by_cases c13 : v = 13
  · rw [c13]
    refine lv_tableIn (off := 693) (tgt := 732) hx hb dL_law_39 (by decide) (by decide) (by decide) (by decide) ?_
    exact kA_undo l hfl hx hb hF hK hE hA hX hbl hbA hL hk RAh hP hD hS hl hR1 hR2 kk
  by_cases c14 : v = 14
  · rw [c14]
    refine lv_tableIn (off := 737) (tgt := 776) hx hb dL_law_39 (by decide) (by decide) (by decide) (by decide) ?_
    exact kA_place l hfl hx hb hF hK hE hA hX hbl hbA hL hk RAh hP hD hS hl hR1 hR2 kk
  by_cases c15 : v = 15
  · rw [c15]
    refine lv_tableIn (off := 805) (tgt := 844) hx hb dL_law_39 (by decide) (by decide) (by decide) (by decide) ?_
    exact kA_owner l hfl hx hb hF hK hE hA hX hbl hbA hL hk RAh hP hD hS hl hR1 hR2 kk
  by_cases c16 : v = 16
  · rw [c16]
    refine lv_tableIn (off := 873) (tgt := 912) hx hb dL_law_39 (by decide) (by decide) (by decide) (by decide) ?_
    exact kA_count l hfl hx hb hF hK hE hA hX hbl hbA hL hk RAh hP hD hS hl hR1 hR2 kk
  by_cases c17 : v = 17
  · rw [c17]
    refine lv_tableIn (off := 929) (tgt := 968) hx hb dL_law_39 (by decide) (by decide) (by decide) (by decide) ?_
    exact kA_setting l hfl hx hb hF hK hE hA hX hbl hbA hL hk RAh hP hD hS hl hR1 hR2 kk
  by_cases c18 : v = 18
  · rw [c18]
    refine lv_tableIn (off := 985) (tgt := 1024) hx hb dL_law_39 (by decide) (by decide) (by decide) (by decide) ?_
    exact kA_ifAsked l hfl hx hb hF hK hE hA hX hbl hbA hL hk RAh hP hD hS hl hR1 hR2 kk
  by_cases c19 : v = 19
  · rw [c19]
    refine lv_tableIn (off := 1053) (tgt := 1092) hx hb dL_law_39 (by decide) (by decide) (by decide) (by decide) ?_
    exact kA_ifPassed l hfl hx hb hF hK hE hA hX hbl hbA hL hk RAh hP hD hS hl hR1 hR2 kk
  by_cases c20 : v = 20
  · rw [c20]
    refine lv_tableIn (off := 1121) (tgt := 1160) hx hb dL_law_39 (by decide) (by decide) (by decide) (by decide) ?_
    exact kA_waitsFor l hfl hx hb hF hK hE hA hX hbl hbA hL hk RAh hP hD hS hl hR1 hR2 kk
  by_cases c21 : v = 21
  · rw [c21]
    refine lv_tableIn (off := 1177) (tgt := 1216) hx hb dL_law_39 (by decide) (by decide) (by decide) (by decide) ?_
    exact kA_blocker l hfl hx hb hF hK hE hA hX hbl hbA hL hk RAh hP hD hS hl hR1 hR2 kk
  by_cases c22 : v = 22
  · rw [c22]
    refine lv_tableIn (off := 1190) (tgt := 1229) hx hb dL_law_39 (by decide) (by decide) (by decide) (by decide) ?_
    exact kA_fairness l hfl hx hb hF hK hE hA hX hbl hbA hL hk RAh hP hD hS hl hR1 hR2 kk
  by_cases c23 : v = 23
  · rw [c23]
    refine lv_tableIn (off := 1231) (tgt := 1270) hx hb dL_law_39 (by decide) (by decide) (by decide) (by decide) ?_
    exact kA_digest l hfl hx hb hF hK hE hA hX hbl hbA hL hk RAh hP hD hS hl hR1 hR2 kk
  have n0 : ¬ v.toInt = 0 := lv_neT c0 (by decide)
  have n1 : ¬ v.toInt = 1 := lv_neT c1 (by decide)
  have n2 : ¬ v.toInt = 2 := lv_neT c2 (by decide)
  have n3 : ¬ v.toInt = 3 := lv_neT c3 (by decide)
  have n4 : ¬ v.toInt = 4 := lv_neT c4 (by decide)
  have n5 : ¬ v.toInt = 5 := lv_neT c5 (by decide)
  have n6 : ¬ v.toInt = 6 := lv_neT c6 (by decide)
  have n7 : ¬ v.toInt = 7 := lv_neT c7 (by decide)
  have n8 : ¬ v.toInt = 8 := lv_neT c8 (by decide)
  have n9 : ¬ v.toInt = 9 := lv_neT c9 (by decide)
  have n10 : ¬ v.toInt = 10 := lv_neT c10 (by decide)
  have n11 : ¬ v.toInt = 11 := lv_neT c11 (by decide)
  have n12 : ¬ v.toInt = 12 := lv_neT c12 (by decide)
  have n13 : ¬ v.toInt = 13 := lv_neT c13 (by decide)
  have n14 : ¬ v.toInt = 14 := lv_neT c14 (by decide)
  have n15 : ¬ v.toInt = 15 := lv_neT c15 (by decide)
  have n16 : ¬ v.toInt = 16 := lv_neT c16 (by decide)
  have n17 : ¬ v.toInt = 17 := lv_neT c17 (by decide)
  have n18 : ¬ v.toInt = 18 := lv_neT c18 (by decide)
  have n19 : ¬ v.toInt = 19 := lv_neT c19 (by decide)
  have n20 : ¬ v.toInt = 20 := lv_neT c20 (by decide)
  have n21 : ¬ v.toInt = 21 := lv_neT c21 (by decide)
  have n22 : ¬ v.toInt = 22 := lv_neT c22 (by decide)
  have n23 : ¬ v.toInt = 23 := lv_neT c23 (by decide)
  refine lv_tableOut (tgt := 1284) hx hb dL_law_39 (by omega) (by decide) ?_
  refine W.widen (k := cells + 1) (n := slots + 6) (by omega) (by omega) ?_
  exact kk P T S nw hz ak pa wt cd ln ov th z sv sn sp bf ty gn hs H locs ls RAh hP hD hS hl
theorem pw_len {k L : Nat} (hL : L ≤ 1536) (hk : k ≤ 1540) : (Int32.ofNat L - 3 < Int32.ofNat k) ↔ L < k + 3 := by
  rw [Int32.lt_iff_toInt_lt, Int32.toInt_sub, r_ti (by omega), r_ti (by omega), show (3 : Int32).toInt = 3 from by decide]
  rw [Int.bmod_eq_of_le (by omega) (by omega)]
  omega
set_option maxHeartbeats 8000000 in
set_option maxRecDepth 100000 in
theorem kA_loop {p : Program} {e : Env} {s : State} {m : MethodId} {args : Array Value} {below : List Frame} {meth : Method} {c : Code} (l : Launch) (hfl : l.stackTraces = false) {D : va_G} {cy : Nat → ClassId} {qa : Nat → Nat → Nat} {q : Nat → Nat} {A : Nat → Prop} {b L ao : Nat} {xs : Nat → Int32} (hx : p.tables.exec = Jvm.exec) (hb : c.code = cL_law) (hF : CallFix p m c cL_law 9 s args pw_all RL) (hK : va_K D vwCl (pw_tys cy) s) (hE : pw_E A s s.heap) (hA : ∀ q : Nat, s.heap.size ≤ q → A q) (hX : va_X b L xs s s.heap) (hbl : b < s.heap.size) (hbA : ¬ A b) (hL : L ≤ 1536) {Q : State → Prop} (ke : ∀ (H : Heap) (locs : List Loc) (ls : Array Slot) (cells slots : Nat), va_S A s.heap H locs → cells ≤ 1000 → slots ≤ 10000 → W p l e room_1 s m args below meth c H locs cells slots Q (F0 m 1290 ls [])) : ∀ (n k : Nat), L ≤ k + 3 * n → k ≤ 1540 → ∀ {P T : Nat → Nat → Int32} {S : Nat → Nat → Nat → Int32} {nw hz : Int32} {ak pa wt cd : Nat → Int32} {ln : Int32} {ov : Nat → Int64} {th : Int32} {z sv : Nat → Int32} {sn : Int32} {sp bf : Nat → Int32} {ty : Int32} {gn : Nat → Int32} {hs : Int64} (RAh : RA P S nw hz cd ln z sv sn bf ty) {H : Heap} {locs : List Loc} {ls : Array Slot} {cells slots : Nat} (hP : va_P D vwCl (WL cy qa P T S nw hz ak pa wt cd ln ao ov ++ WM cy q th z sv sn sp bf ty gn hs) H) (hD : va_D A (WL cy qa P T S nw hz ak pa wt cd ln ao ov ++ WM cy q th z sv sn sp bf ty gn hs)) (hS : va_S A s.heap H locs) (hl : lv_has ls 9 [(0, .ref b), (1, .ref (qa 0 0)), (2, .ref (q 0)), (3, .ref ao), (4, .int (Int32.ofNat k))]) (hc1 : cells + n ≤ 1000) (hs1 : slots + 6 * n ≤ 10000), W p l e room_1 s m args below meth c H locs cells slots Q (F0 m 23 ls []) := by
  intro n
  induction n with
  | zero =>
    intro k hk1 hk2 P T S nw hz ak pa wt cd ln ov th z sv sn sp bf ty gn hs RAh H locs ls cells slots hP hD hS hl hc1 hs1
    refine lv_iload hx hb dL_law_23 (lv_at hl 4 rfl) ?_
    refine lv_aload_n hx hb dL_law_25 rfl (lv_at hl 0 rfl) ?_
    refine va_slen hx hb hX hbl hbA hS dL_law_26 ?_
    refine lv_iconst (v := 3) hx hb dL_law_27 (by decide) ?_
    refine lv_isub hx hb dL_law_28 ?_
    refine lv_icmp_gt (tgt := 1290) hx hb dL_law_29 (by decide) (fun _ => ?_) (fun h => absurd ((pw_len hL hk2).mpr (by omega)) h)
    exact ke H locs ls cells slots hS (by omega) (by omega)
  | succ n ih =>
    intro k hk1 hk2 P T S nw hz ak pa wt cd ln ov th z sv sn sp bf ty gn hs RAh H locs ls cells slots hP hD hS hl hc1 hs1
    refine lv_iload hx hb dL_law_23 (lv_at hl 4 rfl) ?_
    refine lv_aload_n hx hb dL_law_25 rfl (lv_at hl 0 rfl) ?_
    refine va_slen hx hb hX hbl hbA hS dL_law_26 ?_
    refine lv_iconst (v := 3) hx hb dL_law_27 (by decide) ?_
    refine lv_isub hx hb dL_law_28 ?_
    refine lv_icmp_gt (tgt := 1290) hx hb dL_law_29 (by decide) (fun _ => ?_) (fun h => ?_)
    · exact ke H locs ls cells slots hS (by omega) (by omega)
    · have hk : k + 2 < L := by
        have h3 : ¬ L < k + 3 := fun q => h ((pw_len hL hk2).mpr q)
        omega
      refine kA_round l hfl hx hb hF hK hE hA hX hbl hbA hL hk RAh hP hD hS hl (show cells + 1 ≤ 601024 by omega) (show slots + 6 ≤ 7293034 by omega) ?_
      intro P T S nw hz ak pa wt cd ln ov th z sv sn sp bf ty gn hs H locs ls RAh hP hD hS hl
      refine lv_iinc (v := Int32.ofNat (k + 3)) (lv' := [(4, .int (Int32.ofNat (k + 3))), (0, .ref b), (1, .ref (qa 0 0)), (2, .ref (q 0)), (3, .ref ao)]) hx hb dL_law_1284 hl (k := 4) rfl (r_a k 3) (by decide) rfl (fun ls hl => ?_)
      refine lv_goto (tgt := 23) hx hb dL_law_1287 (by decide) ?_
      exact ih (k + 3) (by omega) (by omega) RAh hP hD hS (lv_sub hl [1, 2, 3, 4, 0] rfl) (by omega) (by omega)
