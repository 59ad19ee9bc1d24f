/-! ===== the law: rows of its calls ===== -/
section PWL
variable {p : Program} {l : Launch} {e : Env} {R : Room} {s : State} {m : MethodId} {args : Array Value} {below : List Frame} {meth : Method} {c : Code} {H : Heap} {locs : List Loc} {cells slots : Nat} {Q : State → Prop}
variable {cc : ByteArray} {D : va_G} {cy : Nat → ClassId} {A : Nat → Prop} {pc : Nat} {ls : Array Slot} {rest As : List Value}
/-- a static method of the law that catches what is thrown -/
theorem pw_lcall {r : Int32} {ws0 ws1 wa wb wc w1 : va_W} {y : MethodName} {wsc : List Cond} {rm : Room} {mc ms maxL nL index n : Nat} {bytes : ByteArray} {ret : Option FieldType} {hh : List (Nat × Nat × Nat × Nat)} {Ts : List Cond} {own : String} {st0 : List Value} (S : CallFix p m c cc nL s args Ts own) (hM : vx_Met l y wsc rm (pw_PreE D cy As wc H.size) (pw_I D r wc w1 H.size) (fun _ _ _ => False) mc ms (va_A wc H.size)) (cw : vx_CSW R s args own index y bytes maxL ret hh wsc rm mc ms n) (hK : va_K D vwCl (pw_tys cy) s) (hP : va_P D vwCl ws0 H) (hD : va_D A ws0) (hS : va_S A s.heap H locs) (hA : ∀ q : Nat, s.heap.size ≤ q → A q) (hE : pw_E A s s.heap) (he0 : ws0 = wa ++ (wc ++ wb)) (he1 : ws1 = wa ++ (w1 ++ wb)) (hadr : w1.map Prod.fst = wc.map Prod.fst) (hn : As.length = n) (hsz : ls.size = nL) (hst : st0 = As.reverse ++ rest) (hW : (rest.map fun v => v.category).sum ≤ 8) (hdg : decode cc pc = .ok (.invokestatic index, 3)) (hR : cells + mc ≤ R.cells ∧ slots + ms ≤ R.slots)
    (kk : ∀ (H1 : Heap) (locs1 : List Loc), va_P D vwCl ws1 H1 → va_D A ws1 → va_S A s.heap H1 locs1 → W p l e R s m args below meth c H1 locs1 (cells + mc) (slots + ms) Q (F0 m (pc + 3) ls (.int r :: rest))) : W p l e R s m args below meth c H locs cells slots Q (F0 m pc ls st0) := by
  subst he0
  subst he1
  have hPc := pw_midP hP
  have hDc := pw_mid hD
  have hF := pw_own hDc hS hA
  have hr := vx_runSX (e := e) (cells := cells) (slots := slots) (locs := locs) (below := below) (meth := meth) (rest := rest) (g := F0 m pc ls st0) S hM cw ⟨pw_blindE, pw_preE hPc hK hDc hS hA hE⟩ rfl hn hsz hst (lv_room (pc := pc) (ls := ls) (m := m) hW) hdg hR
  intro T hT X
  rcases hr T hT X with ⟨v, st₀, t, T', L, h0, X', hL, e1, e2, ⟨⟨r', u, hv, hp, hb⟩, hFr⟩, st⟩ | ⟨q, st₀, t, T', L, E, ce, h0, X', hL, e1, e2, hb, hce, hcv, hcl, st⟩
  · cases hv
    obtain ⟨k1, k2, k3⟩ := vx_keep h0 e1 hS (fun q _ h => hF q h) hF hL hFr
    have hp : r' = r := hp
    subst hp
    have hb : va_P D vwCl w1 T'.heap := by rw [e1]; exact hb
    obtain ⟨t2, a1, b1⟩ := kk T'.heap (locs ++ L) (pw_fr hP hD k2 hb) (pw_adr hD (pw_mapf hadr)) k3 T' rfl X'
    exact ⟨t2, st t2 a1, b1⟩
  · exact hb.elim
end PWL
