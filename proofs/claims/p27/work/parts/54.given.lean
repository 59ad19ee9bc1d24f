/-! ===== what the start gives: the classes, the rows of constants, the texts ===== -/
def pw_nar : List Cond := flatC (Jvm.Cond.and given_1 narrow_1)
theorem pn_42 : (Jvm.Cond.exactly (Jvm.Term.string "PoolTurns" (264 : Nat)) "java/lang/String") ∈ pw_nar := List.mem_of_getElem? (i := 42) (by decide +kernel)
theorem pn_68 : (Jvm.Cond.exactly (Jvm.Term.string "PoolTurns" (83 : Nat)) "java/lang/String") ∈ pw_nar := List.mem_of_getElem? (i := 68) (by decide +kernel)
theorem pn_96 : (Jvm.Cond.exactly (Jvm.Term.string "PoolTurns" (94 : Nat)) "java/lang/String") ∈ pw_nar := List.mem_of_getElem? (i := 96) (by decide +kernel)
theorem pn_125 : (Jvm.Cond.exactly (Jvm.Term.string "PoolTurns" (267 : Nat)) "java/lang/String") ∈ pw_nar := List.mem_of_getElem? (i := 125) (by decide +kernel)
theorem pn_154 : (Jvm.Cond.exactly (Jvm.Term.string "PoolTurns" (106 : Nat)) "java/lang/String") ∈ pw_nar := List.mem_of_getElem? (i := 154) (by decide +kernel)
theorem pn_180 : (Jvm.Cond.exactly (Jvm.Term.string "PoolTurns" (269 : Nat)) "java/lang/String") ∈ pw_nar := List.mem_of_getElem? (i := 180) (by decide +kernel)
theorem pn_213 : (Jvm.Cond.exactly (Jvm.Term.string "PoolTurns" (132 : Nat)) "java/lang/String") ∈ pw_nar := List.mem_of_getElem? (i := 213) (by decide +kernel)
theorem pn_248 : (Jvm.Cond.exactly (Jvm.Term.string "PoolTurns" (271 : Nat)) "java/lang/String") ∈ pw_nar := List.mem_of_getElem? (i := 248) (by decide +kernel)
theorem pn_279 : (Jvm.Cond.exactly (Jvm.Term.string "PoolTurns" (53 : Nat)) "java/lang/String") ∈ pw_nar := List.mem_of_getElem? (i := 279) (by decide +kernel)
theorem pn_331 : (Jvm.Cond.exactly (Jvm.Term.string "PoolTurns" (72 : Nat)) "java/lang/String") ∈ pw_nar := List.mem_of_getElem? (i := 331) (by decide +kernel)
theorem pn_397 : (Jvm.Cond.exactly (Jvm.Term.string "PoolTurns" (212 : Nat)) "java/lang/String") ∈ pw_nar := List.mem_of_getElem? (i := 397) (by decide +kernel)
theorem pn_429 : (Jvm.Cond.exactly (Jvm.Term.string "PoolTurns" (139 : Nat)) "java/lang/String") ∈ pw_nar := List.mem_of_getElem? (i := 429) (by decide +kernel)
theorem pn_461 : (Jvm.Cond.exactly (Jvm.Term.string "PoolTurns" (144 : Nat)) "java/lang/String") ∈ pw_nar := List.mem_of_getElem? (i := 461) (by decide +kernel)
theorem pn_7 : (Jvm.Cond.eq (Jvm.Term.elem (Jvm.Term.static "PoolTurns" "FIRST_VALUES" "[I") (Jvm.Term.int (0 : Int32))) (Jvm.Term.int (4 : Int32))) ∈ pw_nar := List.mem_of_getElem? (i := 7) (by decide +kernel)
theorem pn_8 : (Jvm.Cond.eq (Jvm.Term.elem (Jvm.Term.static "PoolTurns" "FIRST_VALUES" "[I") (Jvm.Term.int (1 : Int32))) (Jvm.Term.int (2 : Int32))) ∈ pw_nar := List.mem_of_getElem? (i := 8) (by decide +kernel)
theorem pn_9 : (Jvm.Cond.eq (Jvm.Term.elem (Jvm.Term.static "PoolTurns" "FIRST_VALUES" "[I") (Jvm.Term.int (2 : Int32))) (Jvm.Term.int (1 : Int32))) ∈ pw_nar := List.mem_of_getElem? (i := 9) (by decide +kernel)
theorem pn_10 : (Jvm.Cond.eq (Jvm.Term.elem (Jvm.Term.static "PoolTurns" "FIRST_VALUES" "[I") (Jvm.Term.int (3 : Int32))) (Jvm.Term.int (0 : Int32))) ∈ pw_nar := List.mem_of_getElem? (i := 10) (by decide +kernel)
theorem pn_11 : (Jvm.Cond.eq (Jvm.Term.elem (Jvm.Term.static "PoolTurns" "FIRST_VALUES" "[I") (Jvm.Term.int (4 : Int32))) (Jvm.Term.int (1 : Int32))) ∈ pw_nar := List.mem_of_getElem? (i := 11) (by decide +kernel)
theorem pn_12 : (Jvm.Cond.eq (Jvm.Term.elem (Jvm.Term.static "PoolTurns" "FIRST_VALUES" "[I") (Jvm.Term.int (5 : Int32))) (Jvm.Term.int (10 : Int32))) ∈ pw_nar := List.mem_of_getElem? (i := 12) (by decide +kernel)
theorem pn_13 : (Jvm.Cond.eq (Jvm.Term.elem (Jvm.Term.static "PoolTurns" "FIRST_VALUES" "[I") (Jvm.Term.int (6 : Int32))) (Jvm.Term.int (5 : Int32))) ∈ pw_nar := List.mem_of_getElem? (i := 13) (by decide +kernel)
theorem pn_14 : (Jvm.Cond.eq (Jvm.Term.elem (Jvm.Term.static "PoolTurns" "FIRST_VALUES" "[I") (Jvm.Term.int (7 : Int32))) (Jvm.Term.int (20 : Int32))) ∈ pw_nar := List.mem_of_getElem? (i := 14) (by decide +kernel)
theorem pn_15 : (Jvm.Cond.eq (Jvm.Term.elem (Jvm.Term.static "PoolTurns" "FIRST_VALUES" "[I") (Jvm.Term.int (8 : Int32))) (Jvm.Term.int (15 : Int32))) ∈ pw_nar := List.mem_of_getElem? (i := 15) (by decide +kernel)
theorem pn_5 : (Jvm.Cond.arrayOf (Jvm.Term.static "PoolTurns" "FIRST_VALUES" "[I") Jvm.ClassFile.FieldType.int) ∈ pw_nar := List.mem_of_getElem? (i := 5) (by decide +kernel)
theorem pn_6 : (Jvm.Cond.eq (Jvm.Term.length (Jvm.Term.static "PoolTurns" "FIRST_VALUES" "[I")) (Jvm.Term.int (9 : Int32))) ∈ pw_nar := List.mem_of_getElem? (i := 6) (by decide +kernel)
theorem pn_21 : (Jvm.Cond.eq (Jvm.Term.elem (Jvm.Term.static "PoolTurns" "LEAST_VALUES" "[I") (Jvm.Term.int (0 : Int32))) (Jvm.Term.int (1 : Int32))) ∈ pw_nar := List.mem_of_getElem? (i := 21) (by decide +kernel)
theorem pn_22 : (Jvm.Cond.eq (Jvm.Term.elem (Jvm.Term.static "PoolTurns" "LEAST_VALUES" "[I") (Jvm.Term.int (1 : Int32))) (Jvm.Term.int (1 : Int32))) ∈ pw_nar := List.mem_of_getElem? (i := 22) (by decide +kernel)
theorem pn_23 : (Jvm.Cond.eq (Jvm.Term.elem (Jvm.Term.static "PoolTurns" "LEAST_VALUES" "[I") (Jvm.Term.int (2 : Int32))) (Jvm.Term.int (0 : Int32))) ∈ pw_nar := List.mem_of_getElem? (i := 23) (by decide +kernel)
theorem pn_24 : (Jvm.Cond.eq (Jvm.Term.elem (Jvm.Term.static "PoolTurns" "LEAST_VALUES" "[I") (Jvm.Term.int (3 : Int32))) (Jvm.Term.int (0 : Int32))) ∈ pw_nar := List.mem_of_getElem? (i := 24) (by decide +kernel)
theorem pn_25 : (Jvm.Cond.eq (Jvm.Term.elem (Jvm.Term.static "PoolTurns" "LEAST_VALUES" "[I") (Jvm.Term.int (4 : Int32))) (Jvm.Term.int (0 : Int32))) ∈ pw_nar := List.mem_of_getElem? (i := 25) (by decide +kernel)
theorem pn_26 : (Jvm.Cond.eq (Jvm.Term.elem (Jvm.Term.static "PoolTurns" "LEAST_VALUES" "[I") (Jvm.Term.int (5 : Int32))) (Jvm.Term.int (1 : Int32))) ∈ pw_nar := List.mem_of_getElem? (i := 26) (by decide +kernel)
theorem pn_27 : (Jvm.Cond.eq (Jvm.Term.elem (Jvm.Term.static "PoolTurns" "LEAST_VALUES" "[I") (Jvm.Term.int (6 : Int32))) (Jvm.Term.int (0 : Int32))) ∈ pw_nar := List.mem_of_getElem? (i := 27) (by decide +kernel)
theorem pn_28 : (Jvm.Cond.eq (Jvm.Term.elem (Jvm.Term.static "PoolTurns" "LEAST_VALUES" "[I") (Jvm.Term.int (7 : Int32))) (Jvm.Term.int (1 : Int32))) ∈ pw_nar := List.mem_of_getElem? (i := 28) (by decide +kernel)
theorem pn_29 : (Jvm.Cond.eq (Jvm.Term.elem (Jvm.Term.static "PoolTurns" "LEAST_VALUES" "[I") (Jvm.Term.int (8 : Int32))) (Jvm.Term.int (1 : Int32))) ∈ pw_nar := List.mem_of_getElem? (i := 29) (by decide +kernel)
theorem pn_19 : (Jvm.Cond.arrayOf (Jvm.Term.static "PoolTurns" "LEAST_VALUES" "[I") Jvm.ClassFile.FieldType.int) ∈ pw_nar := List.mem_of_getElem? (i := 19) (by decide +kernel)
theorem pn_20 : (Jvm.Cond.eq (Jvm.Term.length (Jvm.Term.static "PoolTurns" "LEAST_VALUES" "[I")) (Jvm.Term.int (9 : Int32))) ∈ pw_nar := List.mem_of_getElem? (i := 20) (by decide +kernel)
theorem pn_33 : (Jvm.Cond.eq (Jvm.Term.elem (Jvm.Term.static "PoolTurns" "GREATEST_VALUES" "[I") (Jvm.Term.int (0 : Int32))) (Jvm.Term.int (8 : Int32))) ∈ pw_nar := List.mem_of_getElem? (i := 33) (by decide +kernel)
theorem pn_34 : (Jvm.Cond.eq (Jvm.Term.elem (Jvm.Term.static "PoolTurns" "GREATEST_VALUES" "[I") (Jvm.Term.int (1 : Int32))) (Jvm.Term.int (8 : Int32))) ∈ pw_nar := List.mem_of_getElem? (i := 34) (by decide +kernel)
theorem pn_35 : (Jvm.Cond.eq (Jvm.Term.elem (Jvm.Term.static "PoolTurns" "GREATEST_VALUES" "[I") (Jvm.Term.int (2 : Int32))) (Jvm.Term.int (8 : Int32))) ∈ pw_nar := List.mem_of_getElem? (i := 35) (by decide +kernel)
theorem pn_36 : (Jvm.Cond.eq (Jvm.Term.elem (Jvm.Term.static "PoolTurns" "GREATEST_VALUES" "[I") (Jvm.Term.int (3 : Int32))) (Jvm.Term.int (1 : Int32))) ∈ pw_nar := List.mem_of_getElem? (i := 36) (by decide +kernel)
theorem pn_37 : (Jvm.Cond.eq (Jvm.Term.elem (Jvm.Term.static "PoolTurns" "GREATEST_VALUES" "[I") (Jvm.Term.int (4 : Int32))) (Jvm.Term.int (1 : Int32))) ∈ pw_nar := List.mem_of_getElem? (i := 37) (by decide +kernel)
theorem pn_38 : (Jvm.Cond.eq (Jvm.Term.elem (Jvm.Term.static "PoolTurns" "GREATEST_VALUES" "[I") (Jvm.Term.int (5 : Int32))) (Jvm.Term.int (99 : Int32))) ∈ pw_nar := List.mem_of_getElem? (i := 38) (by decide +kernel)
theorem pn_39 : (Jvm.Cond.eq (Jvm.Term.elem (Jvm.Term.static "PoolTurns" "GREATEST_VALUES" "[I") (Jvm.Term.int (6 : Int32))) (Jvm.Term.int (99 : Int32))) ∈ pw_nar := List.mem_of_getElem? (i := 39) (by decide +kernel)
theorem pn_40 : (Jvm.Cond.eq (Jvm.Term.elem (Jvm.Term.static "PoolTurns" "GREATEST_VALUES" "[I") (Jvm.Term.int (7 : Int32))) (Jvm.Term.int (99 : Int32))) ∈ pw_nar := List.mem_of_getElem? (i := 40) (by decide +kernel)
theorem pn_41 : (Jvm.Cond.eq (Jvm.Term.elem (Jvm.Term.static "PoolTurns" "GREATEST_VALUES" "[I") (Jvm.Term.int (8 : Int32))) (Jvm.Term.int (99 : Int32))) ∈ pw_nar := List.mem_of_getElem? (i := 41) (by decide +kernel)
theorem pn_31 : (Jvm.Cond.arrayOf (Jvm.Term.static "PoolTurns" "GREATEST_VALUES" "[I") Jvm.ClassFile.FieldType.int) ∈ pw_nar := List.mem_of_getElem? (i := 31) (by decide +kernel)
theorem pn_32 : (Jvm.Cond.eq (Jvm.Term.length (Jvm.Term.static "PoolTurns" "GREATEST_VALUES" "[I")) (Jvm.Term.int (9 : Int32))) ∈ pw_nar := List.mem_of_getElem? (i := 32) (by decide +kernel)
theorem pn_16 : (Jvm.Cond.isRef (Jvm.Term.static "java/lang/Throwable" "UNASSIGNED_STACK" "[Ljava/lang/StackTraceElement;")) ∈ pw_nar := List.mem_of_getElem? (i := 16) (by decide +kernel)
theorem pn_17 : (Jvm.Cond.isRef (Jvm.Term.static "java/lang/Throwable" "SUPPRESSED_SENTINEL" "Ljava/util/List;")) ∈ pw_nar := List.mem_of_getElem? (i := 17) (by decide +kernel)
theorem pt_1 {w : Cond} (h : w ∈ tables_1_1) : w ∈ lw_tbl := List.mem_append_right _ (show w ∈ tables_1 from List.mem_append_left _ h)
theorem pt_2 {w : Cond} (h : w ∈ tables_1_2) : w ∈ lw_tbl := List.mem_append_right _ (show w ∈ tables_1 from List.mem_append_right _ (List.mem_append_left _ h))
theorem pt_3 {w : Cond} (h : w ∈ tables_1_3) : w ∈ lw_tbl := List.mem_append_right _ (show w ∈ tables_1 from List.mem_append_right _ (List.mem_append_right _ (h)))
theorem pw_gIt {y : MethodName} {b : ByteArray} {n : Nat} {r : Option FieldType} (h5 : Cond.code y b n r ∈ pw_all) : GoodIn pw_all (Cond.code y b n r :: pw_all) := by
  intro w hw
  have hm : w ∈ pw_all := by
    rcases List.mem_cons.mp hw with rfl | h
    · exact h5
    · exact h
  exact ⟨hm, pw_good hm⟩
theorem pw_ac {s : State} {args : Array Value} {ty : FieldType} (hty : ∀ C, ty ≠ .object C) (h : (Cond.arrayClass ty).before args s = true) : ∃ cA : ClassId, ArrOfT s cA ty ∧ va_RA s cA ty := by
  obtain ⟨c, k, comp, f1, f2, f3⟩ := Cond.arrayClass_spec h
  refine ⟨c, fun n z => ⟨fun k h => (by cases h), k, f2, comp, f3⟩, ?_⟩
  cases ty with
  | object C => exact absurd rfl (hty C)
  | _ => exact f1
theorem pw_ao {s : State} {args : Array Value} {C : String} (h : (Cond.arrayOver (.object C)).before args s = true) : ∃ cA : ClassId, ArrOfT s cA (.object C) ∧ va_RA s cA (.object C) := by
  obtain ⟨comp, c, k, e1, e2, e3, e4, e5⟩ := Cond.arrayOver_spec h
  exact ⟨c, fun n z => ⟨fun k h => (by cases h), k, e3, comp, e4⟩, k, comp, e3, e4, e1, e5⟩
theorem pw_Kex {s : State} {args : Array Value} (hts : ∀ w ∈ lw_tbl, w.before args s = true) : ∃ (D : va_G) (cy : Nat → ClassId), va_K D vwCl (pw_tys cy) s := by
  have hta : ∀ w ∈ pw_all, w.before args s = true := fun w h => hts w (pw_tbl h)
  obtain ⟨c0, i0, h0⟩ := u_known (C := RX0) (T := TX0) (N := 2) (n := 2) hta inA0 (hta _ aw_109)
  obtain ⟨c1, i1, h1⟩ := u_known (C := RX1) (T := TX1) (N := 3) (n := 3) hta inA1 (hta _ aw_89)
  obtain ⟨c2, i2, h2⟩ := u_known (C := RX2) (T := TX2) (N := 16) (n := 16) hta inA2 (hta _ aw_22)
  obtain ⟨c3, i3, h3⟩ := u_known (C := RX3) (T := TX3) (N := 7) (n := 7) hta inA3 (hta _ aw_14)
  obtain ⟨a0, g0⟩ := pw_ac (ty := .int) (fun C h => by cases h) (hta _ aw_86)
  obtain ⟨a1, g1⟩ := pw_ac (ty := .boolean) (fun C h => by cases h) (hta _ aw_87)
  obtain ⟨a2, g2⟩ := pw_ao (C := "PoolTurns$Pool") (hts _ (pt_1 (List.mem_of_getElem? (i := 95) rfl)))
  refine ⟨(fun k => [c0, c1, c2, c3].getD k c0, fun k => [i0, i1, i2, i3].getD k i0), fun k => [a0, a1, a2].getD k a0, fun k q hq => ?_, fun k q hq => ?_⟩
  · match k, hq with
    | 0, hq => cases hq; exact h0
    | 1, hq => cases hq; exact h1
    | 2, hq => cases hq; exact h2
    | 3, hq => cases hq; exact h3
    | k + 4, hq => cases hq
  · match k, hq with
    | 0, hq => cases hq; exact g0
    | 1, hq => cases hq; exact g1
    | 2, hq => cases hq; exact g2
    | k + 3, hq => cases hq
theorem pw_Kof {s : State} {args : Array Value} {n : String} {f : Nat → Int32} {A : Nat → Prop} (hA : ∀ a : Nat, a < s.heap.size → ¬ A a) (hl : (Cond.laysStatic "PoolTurns" n "[I").before args s = true) (hini : (Cond.initialized "PoolTurns").before args s = true) (harr : (Cond.arrayOf (.static "PoolTurns" n "[I") .int).before args s = true) (hlen : (Cond.eq (.length (.static "PoolTurns" n "[I")) (.int 9)).before args s = true) (hel : ∀ j : Nat, j < 9 → (Cond.eq (.elem (.static "PoolTurns" n "[I") (.int (Int32.ofNat j))) (.int (f j))).before args s = true) : pw_K n f A s s.heap := by
  obtain ⟨t, h1, h2⟩ := va_Tof (N := 9) (f := fun j => .int (f j)) (A := A) (by decide) harr (va_eqt hlen) (fun j hj => va_eqt (hel j hj)) hA
  exact ⟨t, va_Zref hl hini h1 hA, h2⟩
theorem pw_all9 {P : Nat → Prop} (h0 : P 0) (h1 : P 1) (h2 : P 2) (h3 : P 3) (h4 : P 4) (h5 : P 5) (h6 : P 6) (h7 : P 7) (h8 : P 8) : ∀ j : Nat, j < 9 → P j := by
  intro j hj
  match j, hj with
  | 0, _ => exact h0
  | 1, _ => exact h1
  | 2, _ => exact h2
  | 3, _ => exact h3
  | 4, _ => exact h4
  | 5, _ => exact h5
  | 6, _ => exact h6
  | 7, _ => exact h7
  | 8, _ => exact h8
  | j + 9, hj => omega
theorem pw_sof {s : State} {args : Array Value} {k : Nat} {tx : String} (h1 : (Cond.stringRef "PoolTurns" k tx).before args s = true) (h2 : (Cond.exactly (.string "PoolTurns" k) "java/lang/String").before args s = true) : ∃ a : Nat, vk_R "PoolTurns" k tx a s := by
  obtain ⟨a, _, _, _, e, _⟩ := Cond.exactly_spec h2
  exact ⟨a, vk_R.of h1 e⟩
theorem pw_NWin : ∀ w ∈ pw_NW, w ∈ lw_tbl := by
  unfold pw_NW
  exact List.forall_mem_cons.mpr ⟨(pt_1 (List.mem_of_getElem? (i := 27) rfl)), List.forall_mem_cons.mpr ⟨(pt_1 (List.mem_of_getElem? (i := 110) rfl)), List.forall_mem_cons.mpr ⟨(pt_1 (List.mem_of_getElem? (i := 151) rfl)), List.forall_mem_cons.mpr ⟨(pt_1 (List.mem_of_getElem? (i := 152) rfl)), List.forall_mem_cons.mpr ⟨(pt_1 (List.mem_of_getElem? (i := 153) rfl)), List.forall_mem_cons.mpr ⟨(pt_1 (List.mem_of_getElem? (i := 154) rfl)), List.forall_mem_cons.mpr ⟨(pt_1 (List.mem_of_getElem? (i := 155) rfl)), List.forall_mem_cons.mpr ⟨(pt_1 (List.mem_of_getElem? (i := 156) rfl)), List.forall_mem_cons.mpr ⟨(pt_1 (List.mem_of_getElem? (i := 157) rfl)), List.forall_mem_cons.mpr ⟨(pt_1 (List.mem_of_getElem? (i := 223) rfl)), List.forall_mem_cons.mpr ⟨(pt_2 (List.mem_of_getElem? (i := 136) rfl)), fun _ h => absurd h List.not_mem_nil⟩⟩⟩⟩⟩⟩⟩⟩⟩⟩⟩
theorem pw_strof {s : State} {args : Array Value} (hts : ∀ w ∈ lw_tbl, w.before args s = true) (hs : ∀ w ∈ pw_nar, w.before args s = true) : ∀ x ∈ pw_str, ∃ a : Nat, vk_R "PoolTurns" x.1 x.2 a s := by
  unfold pw_str
  exact List.forall_mem_cons.mpr ⟨pw_sof (k := 264) (tx := "there is no such owner") (hts _ (pt_1 (List.mem_of_getElem? (i := 190) rfl))) (hs _ pn_42), List.forall_mem_cons.mpr ⟨pw_sof (k := 83) (tx := "the owner does not wait") (hts _ (pt_1 (List.mem_of_getElem? (i := 230) rfl))) (hs _ pn_68), List.forall_mem_cons.mpr ⟨pw_sof (k := 94) (tx := "the owner is so already") (hts _ (pt_2 (List.mem_of_getElem? (i := 85) rfl))) (hs _ pn_96), List.forall_mem_cons.mpr ⟨pw_sof (k := 267) (tx := "there is no such place") (hts _ (pt_2 (List.mem_of_getElem? (i := 98) rfl))) (hs _ pn_125), List.forall_mem_cons.mpr ⟨pw_sof (k := 106) (tx := "the place is empty") (hts _ (pt_2 (List.mem_of_getElem? (i := 100) rfl))) (hs _ pn_154), List.forall_mem_cons.mpr ⟨pw_sof (k := 269) (tx := "there is no such setting") (hts _ (pt_2 (List.mem_of_getElem? (i := 129) rfl))) (hs _ pn_180), List.forall_mem_cons.mpr ⟨pw_sof (k := 132) (tx := "the value is out of range") (hts _ (pt_2 (List.mem_of_getElem? (i := 143) rfl))) (hs _ pn_213), List.forall_mem_cons.mpr ⟨pw_sof (k := 271) (tx := "what is out of range") (hts _ (pt_2 (List.mem_of_getElem? (i := 161) rfl))) (hs _ pn_248), List.forall_mem_cons.mpr ⟨pw_sof (k := 53) (tx := "the owner has vanished, or waits already") (hts _ (pt_3 (List.mem_of_getElem? (i := 3) rfl))) (hs _ pn_279), List.forall_mem_cons.mpr ⟨pw_sof (k := 72) (tx := "the connection is not lent, or its owner has vanished") (hts _ (pt_3 (List.mem_of_getElem? (i := 15) rfl))) (hs _ pn_331), List.forall_mem_cons.mpr ⟨pw_sof (k := 212) (tx := "units are 0 to 200") (hts _ (pt_3 (List.mem_of_getElem? (i := 28) rfl))) (hs _ pn_397), List.forall_mem_cons.mpr ⟨pw_sof (k := 139) (tx := "units are 1 to 99") (hts _ (pt_3 (List.mem_of_getElem? (i := 63) rfl))) (hs _ pn_429), List.forall_mem_cons.mpr ⟨pw_sof (k := 144) (tx := "the time would be above 9999") (hts _ (pt_3 (List.mem_of_getElem? (i := 68) rfl))) (hs _ pn_461), fun _ h => absurd h List.not_mem_nil⟩⟩⟩⟩⟩⟩⟩⟩⟩⟩⟩⟩⟩
theorem pw_ncof {s : State} {args : Array Value} (hs : ∀ w ∈ pw_nar, w.before args s = true) : ∀ x ∈ pw_xs, ∀ y ∈ pw_xs, x ≠ y → va_Nc x y s := by
  unfold pw_xs
  exact fun _ h => absurd h List.not_mem_nil
theorem pw_K_FIRST_VALUES {s : State} {args : Array Value} {A : Nat → Prop} (hA : ∀ a : Nat, a < s.heap.size → ¬ A a) (hts : ∀ w ∈ lw_tbl, w.before args s = true) (hs : ∀ w ∈ pw_nar, w.before args s = true) : pw_K "FIRST_VALUES" pw_first A s s.heap :=
  pw_Kof hA (hts _ (pt_1 (List.mem_of_getElem? (i := 28) rfl))) (hts _ (pw_tbl aw_1)) (hs _ pn_5) (hs _ pn_6) (pw_all9 (hs _ pn_7) (hs _ pn_8) (hs _ pn_9) (hs _ pn_10) (hs _ pn_11) (hs _ pn_12) (hs _ pn_13) (hs _ pn_14) (hs _ pn_15))
theorem pw_K_LEAST_VALUES {s : State} {args : Array Value} {A : Nat → Prop} (hA : ∀ a : Nat, a < s.heap.size → ¬ A a) (hts : ∀ w ∈ lw_tbl, w.before args s = true) (hs : ∀ w ∈ pw_nar, w.before args s = true) : pw_K "LEAST_VALUES" pw_least A s s.heap :=
  pw_Kof hA (hts _ (pt_2 (List.mem_of_getElem? (i := 131) rfl))) (hts _ (pw_tbl aw_1)) (hs _ pn_19) (hs _ pn_20) (pw_all9 (hs _ pn_21) (hs _ pn_22) (hs _ pn_23) (hs _ pn_24) (hs _ pn_25) (hs _ pn_26) (hs _ pn_27) (hs _ pn_28) (hs _ pn_29))
theorem pw_K_GREATEST_VALUES {s : State} {args : Array Value} {A : Nat → Prop} (hA : ∀ a : Nat, a < s.heap.size → ¬ A a) (hts : ∀ w ∈ lw_tbl, w.before args s = true) (hs : ∀ w ∈ pw_nar, w.before args s = true) : pw_K "GREATEST_VALUES" pw_great A s s.heap :=
  pw_Kof hA (hts _ (pt_2 (List.mem_of_getElem? (i := 133) rfl))) (hts _ (pw_tbl aw_1)) (hs _ pn_31) (hs _ pn_32) (pw_all9 (hs _ pn_33) (hs _ pn_34) (hs _ pn_35) (hs _ pn_36) (hs _ pn_37) (hs _ pn_38) (hs _ pn_39) (hs _ pn_40) (hs _ pn_41))
theorem pw_Eof {s : State} {args : Array Value} {A : Nat → Prop} (hA : ∀ a : Nat, a < s.heap.size → ¬ A a) (hts : ∀ w ∈ lw_tbl, w.before args s = true) (hs : ∀ w ∈ pw_nar, w.before args s = true) : pw_E A s s.heap :=
  ⟨fun w hw => va_Nw.of (pw_NWot w hw) (hts w (pw_NWin w hw)), pw_strof hts hs, vx_Zqof (hts _ (pt_1 (List.mem_of_getElem? (i := 176) rfl))) (hts _ (pw_tbl aw_6)) (hs _ pn_16) hA, vx_Zqof (hts _ (pt_1 (List.mem_of_getElem? (i := 178) rfl))) (hts _ (pw_tbl aw_6)) (hs _ pn_17) hA, pw_ncof hs, pw_K_FIRST_VALUES hA hts hs, pw_K_LEAST_VALUES hA hts hs, pw_K_GREATEST_VALUES hA hts hs⟩
