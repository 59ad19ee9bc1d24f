abbrev WR (cy : Nat → ClassId) (a0 N : Nat) (rw : Nat → Int32) : va_W := [(a0, .inl (cy 0, N, .inl rw))]
def fX3_requireOwner (x0 : Int32) : Option (Nat ⊕ (Unit)) :=
  if x0 < 0 then
    some (Sum.inl 1)
  else
    if x0 < 8 then
      some (Sum.inr ())
    else
      some (Sum.inl 1)

def fX3_ask (x1 : Int32) (P : Nat → Nat → Int32) (S : Nat → Nat → Nat → Int32) (nw : Int32) (hz : Int32) : Option (Nat ⊕ (Int32 × (Nat → Nat → Int32) × (Nat → Nat → Nat → Int32) × Int32 × Int32)) :=
  (fX3_requireOwner x1).bind fun r1 =>
  Sum.elim (fun e => some (Sum.inl e)) (fun a2 =>
  (fX2_canRequest x1 P).bind fun r3 =>
  if r3 = 0 then
    some (Sum.inl 2)
  else
    (fX1_save P S nw hz).bind fun r4 =>
    (fX2_request x1 P).bind fun r5 =>
    some (Sum.inr (r5.1, r5.2, r4.1, r4.2.1, r4.2.2))) r1

def fX3_requirePlace (x0 : Int32) : Option (Nat ⊕ (Unit)) :=
  if x0 < 0 then
    some (Sum.inl 1)
  else
    if x0 < 8 then
      some (Sum.inr ())
    else
      some (Sum.inl 1)

def fX3_give (x1 : Int32) (P : Nat → Nat → Int32) (S : Nat → Nat → Nat → Int32) (nw : Int32) (hz : Int32) : Option (Nat ⊕ (Int32 × (Nat → Nat → Int32) × (Nat → Nat → Nat → Int32) × Int32 × Int32)) :=
  (fX3_requirePlace x1).bind fun r1 =>
  Sum.elim (fun e => some (Sum.inl e)) (fun a2 =>
  (fX2_canTakeBack x1 P).bind fun r3 =>
  if r3 = 0 then
    some (Sum.inl 2)
  else
    (fX1_save P S nw hz).bind fun r4 =>
    (fX2_takeBack x1 P).bind fun r5 =>
    (fX2_borrower x1 r5).bind fun r6 =>
    some (Sum.inr (r6, r5, r4.1, r4.2.1, r4.2.2))) r1

def fX3_giveUp (x1 : Int32) (P : Nat → Nat → Int32) (S : Nat → Nat → Nat → Int32) (nw : Int32) (hz : Int32) : Option (Nat ⊕ (Int32 × (Nat → Nat → Int32) × (Nat → Nat → Nat → Int32) × Int32 × Int32)) :=
  (fX3_requireOwner x1).bind fun r1 =>
  Sum.elim (fun e => some (Sum.inl e)) (fun a2 =>
  (fX2_turnOf x1 P).bind fun r3 =>
  if r3 = (-1) then
    some (Sum.inl 2)
  else
    (fX1_save P S nw hz).bind fun r4 =>
    (fX2_waitOf x1 P).bind fun r5 =>
    (fX2_stopWaiting x1 P).bind fun r6 =>
    some (Sum.inr (r5, r6, r4.1, r4.2.1, r4.2.2))) r1

def fX3_appear (x1 : Int32) (x2 : Int32) (P : Nat → Nat → Int32) (S : Nat → Nat → Nat → Int32) (nw : Int32) (hz : Int32) : Option (Nat ⊕ (Int32 × (Nat → Nat → Int32) × (Nat → Nat → Nat → Int32) × Int32 × Int32)) :=
  (fX3_requireOwner x1).bind fun r1 =>
  Sum.elim (fun e => some (Sum.inl e)) (fun a2 =>
  (fX2_isThere x1 P).bind fun r3 =>
  if r3 = x2 then
    some (Sum.inl 2)
  else
    (fX1_save P S nw hz).bind fun r4 =>
    (fX2_turnUp x1 x2 P).bind fun r5 =>
    (fX2_lentCount x1 r5).bind fun r6 =>
    some (Sum.inr (r6, r5, r4.1, r4.2.1, r4.2.2))) r1

def fX3_sicken (x1 : Int32) (P : Nat → Nat → Int32) (S : Nat → Nat → Nat → Int32) (nw : Int32) (hz : Int32) : Option (Nat ⊕ (Int32 × (Nat → Nat → Int32) × (Nat → Nat → Nat → Int32) × Int32 × Int32)) :=
  (fX3_requirePlace x1).bind fun r1 =>
  Sum.elim (fun e => some (Sum.inl e)) (fun a2 =>
  (fX2_isEmpty x1 P).bind fun r3 =>
  if r3 = 0 then
    (fX1_save P S nw hz).bind fun r4 =>
    (fX2_makeSick x1 P).bind fun r5 =>
    if r5.1 = 0 then
      some (Sum.inr (0, r5.2, r4.1, r4.2.1, r4.2.2))
    else
      some (Sum.inr (1, r5.2, r4.1, r4.2.1, r4.2.2))
  else
    some (Sum.inl 2)) r1

def fX3_check (P : Nat → Nat → Int32) (S : Nat → Nat → Nat → Int32) (nw : Int32) (hz : Int32) : Option (Int32 × (Nat → Nat → Int32) × (Nat → Nat → Nat → Int32) × Int32 × Int32) :=
  (fX1_save P S nw hz).bind fun r1 =>
  (fX2_checkIdle P).bind fun r2 =>
  (fX2_serveWaiters (-1) r2.2).bind fun r3 =>
  some (r2.1, r3.2, r1.1, r1.2.1, r1.2.2)

def fX3_drain (P : Nat → Nat → Int32) (S : Nat → Nat → Nat → Int32) (nw : Int32) (hz : Int32) : Option (Int32 × (Nat → Nat → Int32) × (Nat → Nat → Nat → Int32) × Int32 × Int32) :=
  (fX1_save P S nw hz).bind fun r1 =>
  (fX2_closeIdle P).bind fun r2 =>
  (fX2_serveWaiters (-1) r2.2).bind fun r3 =>
  some (r2.1, r3.2, r1.1, r1.2.1, r1.2.2)

def fX3_requireSetting (x0 : Int32) : Option (Nat ⊕ (Unit)) :=
  if x0 < 0 then
    some (Sum.inl 1)
  else
    if x0 < 9 then
      some (Sum.inr ())
    else
      some (Sum.inl 1)

def fX3_set (x1 : Int32) (x2 : Int32) (P : Nat → Nat → Int32) (S : Nat → Nat → Nat → Int32) (nw : Int32) (hz : Int32) : Option (Nat ⊕ (Int32 × (Nat → Nat → Int32) × (Nat → Nat → Nat → Int32) × Int32 × Int32)) :=
  (fX3_requireSetting x1).bind fun r1 =>
  Sum.elim (fun e => some (Sum.inl e)) (fun a2 =>
  if pq_in x1 9 then
  if x2 < pw_least x1.toNatClampNeg then
    some (Sum.inl 3)
  else
    if pq_in x1 9 then
    if x2 ≤ pw_great x1.toNatClampNeg then
      (fX1_save P S nw hz).bind fun r3 =>
      (fX2_change x1 x2 P).bind fun r4 =>
      some (Sum.inr (r4.1, r4.2, r3.1, r3.2.1, r3.2.2))
    else
      some (Sum.inl 3)
    else none
  else none) r1

def fX3_pass (x1 : Int32) (P : Nat → Nat → Int32) (S : Nat → Nat → Nat → Int32) (nw : Int32) (hz : Int32) : Option (Nat ⊕ (Int32 × (Nat → Nat → Int32) × (Nat → Nat → Nat → Int32) × Int32 × Int32)) :=
  if x1 < 1 then
    some (Sum.inl 3)
  else
    if x1 ≤ 99 then
      (fX2_canPassUnits x1 P).bind fun r1 =>
      if r1 = 0 then
        some (Sum.inl 2)
      else
        (fX1_save P S nw hz).bind fun r2 =>
        (fX2_passUnits x1 P).bind fun r3 =>
        some (Sum.inr (r3.1, r3.2, r2.1, r2.2.1, r2.2.2))
    else
      some (Sum.inl 3)

def fX3_append (x1 : Int32) (cd : Nat → Int32) (ln : Int32) : Option (Nat ⊕ (Int32 × (Nat → Int32) × Int32)) :=
  if x1 < 33 then
    some (Sum.inl 3)
  else
    if x1 ≤ 126 then
      (fX0_isFull ln).bind fun r1 =>
      if r1 = 0 then
        (fX0_put x1 cd ln).bind fun r2 =>
        some (Sum.inr (r2.2, r2.1, r2.2))
      else
        some (Sum.inl 2)
    else
      some (Sum.inl 3)

def fX3_clearBuffer (ln : Int32) : Option (Int32 × Int32) :=
  some (ln, 0)

def fX3_firstError (cd : Nat → Int32) (ln : Int32) : Option (Int32) :=
  (fX0_firstMisfit cd ln).bind fun r1 =>
  some r1

def fX3_makeCall (x1 : Int32) (x2 : Int32) (P : Nat → Nat → Int32) : Option (Int32 × (Nat → Nat → Int32)) :=
  if x1 = 97 then
    (fX2_canRequest x2 P).bind fun r1 =>
    if r1 = 0 then
      some (0, P)
    else
      (fX2_request x2 P).bind fun r2 =>
      some (1, r2.2)
  else
    if x1 = 99 then
      (fX2_isThere x2 P).bind fun r3 =>
      (if x1 = 99 then
         some (1 : Int32)
       else
         some (0 : Int32) : Option (Int32)).bind fun v4 =>
      if r3 = v4 then
        some (0, P)
      else
        if x1 = 99 then
          (fX2_turnUp x2 1 P).bind fun r6 =>
          some (1, r6)
        else
          (fX2_turnUp x2 0 P).bind fun r5 =>
          some (1, r5)
    else
      if x1 = 103 then
        (fX2_canTakeBack x2 P).bind fun r7 =>
        if r7 = 0 then
          some (0, P)
        else
          (fX2_takeBack x2 P).bind fun r8 =>
          some (1, r8)
      else
        if x1 = 115 then
          (fX2_isEmpty x2 P).bind fun r9 =>
          if r9 = 0 then
            (fX2_makeSick x2 P).bind fun r10 =>
            some (1, r10.2)
          else
            some (0, P)
        else
          if x1 = 118 then
            (fX2_isThere x2 P).bind fun r11 =>
            (if x1 = 99 then
               some (1 : Int32)
             else
               some (0 : Int32) : Option (Int32)).bind fun v12 =>
            if r11 = v12 then
              some (0, P)
            else
              if x1 = 99 then
                (fX2_turnUp x2 1 P).bind fun r14 =>
                some (1, r14)
              else
                (fX2_turnUp x2 0 P).bind fun r13 =>
                some (1, r13)
          else
            (fX2_canPassUnits x2 P).bind fun r15 =>
            if r15 = 0 then
              some (0, P)
            else
              (fX2_passUnits x2 P).bind fun r16 =>
              some (1, r16.2)

def fX3_run_L35 (cd : Nat → Int32) (ln : Int32) (r2 : (Nat → Nat → Nat → Int32) × Int32 × Int32) : Nat → Int32 → Int32 → (Nat → Nat → Int32) → Option (Nat ⊕ (Int32 × (Nat → Nat → Int32) × (Nat → Nat → Nat → Int32) × Int32 × Int32 × Int32))
  | 0, _, _, _ => none
  | n + 1, x1_35, x2_35, P_35 =>
    (fX0_parts ln).bind fun r4 =>
    if r4 ≤ x2_35 then
      some (Sum.inr (x1_35, P_35, r2.1, r2.2.1, r2.2.2, 0))
    else
      (fX0_kindOf x2_35 cd).bind fun r5 =>
      (fX0_numberOf x2_35 cd).bind fun r6 =>
      (fX3_makeCall r5 r6 P_35).bind fun r7 =>
      if r7.1 = 0 then
        some (Sum.inr (x1_35, r7.2, r2.1, r2.2.1, r2.2.2, 0))
      else
        fX3_run_L35 cd ln r2 n (x1_35 + 1) (x2_35 + 1) r7.2
def fX3_run (P : Nat → Nat → Int32) (S : Nat → Nat → Nat → Int32) (nw : Int32) (hz : Int32) (cd : Nat → Int32) (ln : Int32) : Option (Nat ⊕ (Int32 × (Nat → Nat → Int32) × (Nat → Nat → Nat → Int32) × Int32 × Int32 × Int32)) :=
  (fX0_isComplete cd ln).bind fun r1 =>
  if r1 = 0 then
    some (Sum.inl 3)
  else
    (fX1_save P S nw hz).bind fun r2 =>
    fX3_run_L35 cd ln r2 1000 0 0 P

def fX3_undo (P : Nat → Nat → Int32) (S : Nat → Nat → Nat → Int32) (nw : Int32) (hz : Int32) : Option (Nat ⊕ (Int32 × (Nat → Nat → Int32) × Int32 × Int32)) :=
  if hz = 0 then
    some (Sum.inl 2)
  else
    (fX1_restore P S nw hz).bind fun r1 =>
    some (Sum.inr (r1.2.2, r1.1, r1.2.1, r1.2.2))

def fX3_requireKind (x0 : Int32) (x1 : Int32) : Option (Nat ⊕ (Unit)) :=
  if x0 < 0 then
    some (Sum.inl 3)
  else
    if x0 < x1 then
      some (Sum.inr ())
    else
      some (Sum.inl 3)

def fX3_place (x1 : Int32) (x2 : Int32) (P : Nat → Nat → Int32) : Option (Nat ⊕ (Int32)) :=
  (fX3_requirePlace x1).bind fun r1 =>
  Sum.elim (fun e => some (Sum.inl e)) (fun a2 =>
  (fX3_requireKind x2 6).bind fun r3 =>
  Sum.elim (fun e => some (Sum.inl e)) (fun a4 =>
  (fX2_placeProperty x1 x2 P).bind fun r5 =>
  some (Sum.inr r5)) r3) r1

def fX3_owner (x1 : Int32) (x2 : Int32) (P : Nat → Nat → Int32) : Option (Nat ⊕ (Int32)) :=
  (fX3_requireOwner x1).bind fun r1 =>
  Sum.elim (fun e => some (Sum.inl e)) (fun a2 =>
  (fX3_requireKind x2 7).bind fun r3 =>
  Sum.elim (fun e => some (Sum.inl e)) (fun a4 =>
  (fX2_ownerProperty x1 x2 P).bind fun r5 =>
  some (Sum.inr r5)) r3) r1

def fX3_count (x1 : Int32) (P : Nat → Nat → Int32) (hz : Int32) : Option (Nat ⊕ (Int32)) :=
  (fX3_requireKind x1 14).bind fun r1 =>
  Sum.elim (fun e => some (Sum.inl e)) (fun a2 =>
  if x1 = 13 then
    some (Sum.inr hz)
  else
    (fX2_number x1 P).bind fun r3 =>
    some (Sum.inr r3)) r1

def fX3_setting (x1 : Int32) (P : Nat → Nat → Int32) : Option (Nat ⊕ (Int32)) :=
  (fX3_requireSetting x1).bind fun r1 =>
  Sum.elim (fun e => some (Sum.inl e)) (fun a2 =>
  if pq_in x1 9 then
  some (Sum.inr ((P 1) x1.toNatClampNeg))
  else none) r1

def fX3_tryAsking (x1 : Int32) (P : Nat → Nat → Int32) (T : Nat → Nat → Int32) (ak : Nat → Int32) : Option ((Nat → Nat → Int32) × (Nat → Int32)) :=
  (fX2_canRequest x1 P).bind fun r1 =>
  if r1 = 0 then
    some (T, upd (upd (upd ak (0 : Int32).toNatClampNeg (-1)) (1 : Int32).toNatClampNeg 0) (2 : Int32).toNatClampNeg 0)
  else
    (fX2_copyFrom P).bind fun r2 =>
    (fX2_request x1 r2).bind fun r3 =>
    (if r3.1 = (-1) then
       some (0 : Int32)
     else
       if pq_in r3.1 8 then
       if pq_in r3.1 8 then
       if (r3.2 7) r3.1.toNatClampNeg ≤ (P 7) r3.1.toNatClampNeg then
         some (0 : Int32)
       else
         some (1 : Int32)
       else none
       else none : Option (Int32)).bind fun v4 =>
    some (r3.2, upd (upd (upd (upd (upd (upd ak (0 : Int32).toNatClampNeg (-1)) (1 : Int32).toNatClampNeg 0) (2 : Int32).toNatClampNeg 0) (0 : Int32).toNatClampNeg r3.1) (1 : Int32).toNatClampNeg v4) (2 : Int32).toNatClampNeg (((r3.2 15) (1 : Int32).toNatClampNeg) - ((P 15) (1 : Int32).toNatClampNeg)))

def fX3_ifAsked (x1 : Int32) (x2 : Int32) (P : Nat → Nat → Int32) (T : Nat → Nat → Int32) (ak : Nat → Int32) : Option (Nat ⊕ (Int32 × (Nat → Nat → Int32) × (Nat → Int32))) :=
  (fX3_requireOwner x1).bind fun r1 =>
  Sum.elim (fun e => some (Sum.inl e)) (fun a2 =>
  (fX3_requireKind x2 3).bind fun r3 =>
  Sum.elim (fun e => some (Sum.inl e)) (fun a4 =>
  (fX3_tryAsking x1 P T ak).bind fun r5 =>
  if pq_in x2 3 then
  some (Sum.inr (r5.2 x2.toNatClampNeg, r5.1, r5.2))
  else none) r3) r1

def fX3_tryPassing (x1 : Int32) (P : Nat → Nat → Int32) (T : Nat → Nat → Int32) (pa : Nat → Int32) : Option ((Nat → Nat → Int32) × (Nat → Int32)) :=
  (fX2_copyFrom P).bind fun r1 =>
  (fX2_passUnits x1 r1).bind fun r2 =>
  (fX2_connections r2.2).bind fun r3 =>
  some (r2.2, upd (upd (upd (upd pa (0 : Int32).toNatClampNeg r2.1) (1 : Int32).toNatClampNeg (((r2.2 15) (1 : Int32).toNatClampNeg) - ((P 15) (1 : Int32).toNatClampNeg))) (2 : Int32).toNatClampNeg r3) (3 : Int32).toNatClampNeg (r2.2 14 0))

def fX3_ifPassed (x1 : Int32) (x2 : Int32) (P : Nat → Nat → Int32) (T : Nat → Nat → Int32) (pa : Nat → Int32) : Option (Nat ⊕ (Int32 × (Nat → Nat → Int32) × (Nat → Int32))) :=
  if x1 < 0 then
    some (Sum.inl 3)
  else
    if x1 ≤ 200 then
      (fX3_requireKind x2 4).bind fun r1 =>
      Sum.elim (fun e => some (Sum.inl e)) (fun a2 =>
      (fX3_tryPassing x1 P T pa).bind fun r3 =>
      if pq_in x2 4 then
      some (Sum.inr (r3.2 x2.toNatClampNeg, r3.1, r3.2))
      else none) r1
    else
      some (Sum.inl 3)

def fX3_tryWaiting_L2  : Nat → Int32 → (Nat → Int32) → Option ((Nat → Int32))
  | 0, _, _ => none
  | n + 1, x1_2, wt_2 =>
    if 8 ≤ x1_2 then
      some wt_2
    else
      if pq_in x1_2 8 then
      fX3_tryWaiting_L2  n (x1_2 + 1) (upd wt_2 x1_2.toNatClampNeg (-1))
      else none
def fX3_tryWaiting_L61 (P : Nat → Nat → Int32) (x1_34 : Int32) (r5 : Int32 × (Nat → Nat → Int32)) : Nat → Int32 → (Nat → Int32) → Option ((Nat → Int32))
  | 0, _, _ => none
  | n + 1, x2_61, wt_61 =>
    if 8 ≤ x2_61 then
      some wt_61
    else
      if pq_in x2_61 8 then
      if wt_61 x2_61.toNatClampNeg = (-1) then
        if pq_in x2_61 8 then
        if pq_in x2_61 8 then
        if (r5.2 9) x2_61.toNatClampNeg ≤ (P 9) x2_61.toNatClampNeg then
          fX3_tryWaiting_L61 P x1_34 r5 n (x2_61 + 1) wt_61
        else
          if pq_in x2_61 8 then
          fX3_tryWaiting_L61 P x1_34 r5 n (x2_61 + 1) (upd wt_61 x2_61.toNatClampNeg x1_34)
          else none
        else none
        else none
      else
        fX3_tryWaiting_L61 P x1_34 r5 n (x2_61 + 1) wt_61
      else none
def fX3_tryWaiting_L34 (P : Nat → Nat → Int32) : Nat → Int32 → (Nat → Nat → Int32) → (Nat → Int32) → Option ((Nat → Nat → Int32) × (Nat → Int32))
  | 0, _, _, _ => none
  | n + 1, x1_34, T_34, wt_34 =>
    if 99 < x1_34 then
      some (T_34, wt_34)
    else
      if T_34 14 0 ≤ 0 then
        some (T_34, wt_34)
      else
        (fX2_passUnits 1 T_34).bind fun r5 =>
        (fX3_tryWaiting_L61 P x1_34 r5 1000 0 wt_34).bind fun v7 =>
        fX3_tryWaiting_L34 P n (x1_34 + 1) r5.2 v7
def fX3_tryWaiting (P : Nat → Nat → Int32) (T : Nat → Nat → Int32) (wt : Nat → Int32) : Option ((Nat → Nat → Int32) × (Nat → Int32)) :=
  (fX3_tryWaiting_L2  1000 0 wt).bind fun v2 =>
  (fX2_copyFrom P).bind fun r3 =>
  fX3_tryWaiting_L34 P 1000 1 r3 v2

def fX3_waitsFor (x1 : Int32) (P : Nat → Nat → Int32) (T : Nat → Nat → Int32) (wt : Nat → Int32) : Option (Nat ⊕ (Int32 × (Nat → Nat → Int32) × (Nat → Int32))) :=
  (fX3_requireOwner x1).bind fun r1 =>
  Sum.elim (fun e => some (Sum.inl e)) (fun a2 =>
  (fX3_tryWaiting P T wt).bind fun r3 =>
  if pq_in x1 8 then
  some (Sum.inr (r3.2 x1.toNatClampNeg, r3.1, r3.2))
  else none) r1

def fX3_blocker_L18 (P : Nat → Nat → Int32) : Nat → Int32 → Int32 → Int32 → Option (Int32)
  | 0, _, _, _ => none
  | n + 1, x1_18, x2_18, x3_18 =>
    if 8 ≤ x3_18 then
      some x2_18
    else
      (fX2_lentCount x3_18 P).bind fun r2 =>
      if r2 ≤ x1_18 then
        fX3_blocker_L18 P n x1_18 x2_18 (x3_18 + 1)
      else
        fX3_blocker_L18 P n r2 x3_18 (x3_18 + 1)
def fX3_blocker (P : Nat → Nat → Int32) : Option (Int32) :=
  if P 14 0 = 0 then
    some (-1)
  else
    fX3_blocker_L18 P 1000 0 (-1) 0

def fX3_fairness_L6 (P : Nat → Nat → Int32) : Nat → Int32 → Int32 → Int32 → Option (Int32 × Int32)
  | 0, _, _, _ => none
  | n + 1, x1_6, x2_6, x3_6 =>
    if 8 ≤ x3_6 then
      some (x1_6, x2_6)
    else
      if pq_in x3_6 8 then
      (if (P 9) x3_6.toNatClampNeg ≤ 0 then
         some x1_6
       else
         if x1_6 = 0 then
           some ((P 9) x3_6.toNatClampNeg)
         else
           if x1_6 ≤ (P 9) x3_6.toNatClampNeg then
             some x1_6
           else
             some ((P 9) x3_6.toNatClampNeg) : Option (Int32)).bind fun v3 =>
      fX3_fairness_L6 P n v3 (if x2_6 < (P 9) x3_6.toNatClampNeg then (P 9) x3_6.toNatClampNeg else x2_6) (x3_6 + 1)
      else none
def fX3_fairness (P : Nat → Nat → Int32) : Option (UInt64) :=
  (fX3_fairness_L6 P 1000 0 0 0).bind fun v2 =>
  if v2.2 = 0 then
    some FP.dconst1
  else
    if pq_nn (FP.ddiv (FP.i2d v2.1) (FP.i2d v2.2)) then
    some (FP.ddiv (FP.i2d v2.1) (FP.i2d v2.2))
    else none

def fX3_bitsOfShare_L10  : Nat → UInt64 → Int64 → Int32 → Option (UInt64 × Int64)
  | 0, _, _, _ => none
  | n + 1, x2_10, x4_10, x6_10 =>
    if 1022 ≤ x6_10 then
      some (x2_10, x4_10)
    else
      if 0 ≤ Op.cmpValue (FP.dcmp x2_10 FP.dconst1) .g then
        some (x2_10, x4_10)
      else
        if pq_nn (FP.dmul x2_10 4611686018427387904) then
        fX3_bitsOfShare_L10  n (FP.dmul x2_10 4611686018427387904) (x4_10 - 1) (x6_10 + 1)
        else none
def fX3_bitsOfShare (x0 : UInt64) : Option (Int64) :=
  (fX3_bitsOfShare_L10  1000 x0 1023 0).bind fun v2 =>
  if pq_nn (FP.dsub v2.1 FP.dconst1) then
  if pq_nn (FP.dmul (FP.dsub v2.1 FP.dconst1) 4841369599423283200) then
  some ((v2.2 <<< ((52 : Int32).toInt64 &&& 63)) + (FP.d2l (FP.dmul (FP.dsub v2.1 FP.dconst1) 4841369599423283200)))
  else none
  else none

def fX3_mixRow_L13 (rw : Nat → Int32) (N : Nat) : Nat → Int64 → Int32 → Option (Int64)
  | 0, _, _ => none
  | n + 1, x3_13, x7_13 =>
    if nI N ≤ x7_13 then
      some x3_13
    else
      if pq_in x7_13 N then
      fX3_mixRow_L13 rw N n ((31 * x3_13) + ((rw x7_13.toNatClampNeg).toInt64)) (x7_13 + 1)
      else none
def fX3_mixRow (x0 : Int64) (N : Nat) (rw : Nat → Int32) : Option (Int64) :=
  fX3_mixRow_L13 rw N 1000 x0 0

def fX3_digest_L6 (P : Nat → Nat → Int32) (hz : Int32) : Nat → Int64 → Int32 → Option (Int64)
  | 0, _, _ => none
  | n + 1, x1_6, x3_6 =>
    if 14 ≤ x3_6 then
      some x1_6
    else
      (fX3_count x3_6 P hz).bind fun r3 =>
      Sum.elim (fun e => none) (fun a4 =>
      fX3_digest_L6 P hz n ((31 * x1_6) + a4.toInt64) (x3_6 + 1)) r3
def fX3_digest_L54 (P : Nat → Nat → Int32) (x3_45 : Int32) : Nat → Int64 → Int32 → Option (Int64)
  | 0, _, _ => none
  | n + 1, x1_54, x4_54 =>
    if 6 ≤ x4_54 then
      some x1_54
    else
      (fX2_placeProperty x3_45 x4_54 P).bind fun r10 =>
      fX3_digest_L54 P x3_45 n ((31 * x1_54) + r10.toInt64) (x4_54 + 1)
def fX3_digest_L45 (P : Nat → Nat → Int32) : Nat → Int64 → Int32 → Option (Int64)
  | 0, _, _ => none
  | n + 1, x1_45, x3_45 =>
    if 8 ≤ x3_45 then
      some x1_45
    else
      (fX3_digest_L54 P x3_45 1000 x1_45 0).bind fun v9 =>
      fX3_digest_L45 P n v9 (x3_45 + 1)
def fX3_digest_L106 (P : Nat → Nat → Int32) (x3_97 : Int32) : Nat → Int64 → Int32 → Option (Int64)
  | 0, _, _ => none
  | n + 1, x1_106, x4_106 =>
    if 7 ≤ x4_106 then
      some x1_106
    else
      (fX2_ownerProperty x3_97 x4_106 P).bind fun r16 =>
      fX3_digest_L106 P x3_97 n ((31 * x1_106) + r16.toInt64) (x4_106 + 1)
def fX3_digest_L97 (P : Nat → Nat → Int32) (r11 : (Nat → Nat → Int32) × (Nat → Int32)) : Nat → Int64 → Int32 → (Nat → Nat → Int32) → (Nat → Int32) → Option (Int64 × (Nat → Nat → Int32) × (Nat → Int32))
  | 0, _, _, _, _ => none
  | n + 1, x1_97, x3_97, T_97, ak_97 =>
    if 8 ≤ x3_97 then
      some (x1_97, T_97, ak_97)
    else
      (fX3_digest_L106 P x3_97 1000 x1_97 0).bind fun v15 =>
      (fX3_tryAsking x3_97 P T_97 ak_97).bind fun r17 =>
      (fX3_mixRow v15 3 r17.2).bind fun r18 =>
      if pq_in x3_97 8 then
      fX3_digest_L97 P r11 n ((31 * r18) + ((r11.2 x3_97.toNatClampNeg).toInt64)) (x3_97 + 1) r17.1 r17.2
      else none
def fX3_digest_L229 (cd : Nat → Int32) (ln : Int32) (r11 : (Nat → Nat → Int32) × (Nat → Int32)) (v13 : Int64 × (Nat → Nat → Int32) × (Nat → Int32)) (r19 : (Nat → Nat → Int32) × (Nat → Int32)) : Nat → Int64 → Int32 → Option (Int64 × (Nat → Nat → Int32) × (Nat → Int32) × (Nat → Int32) × (Nat → Int32))
  | 0, _, _ => none
  | n + 1, x1_229, x3_229 =>
    if ln ≤ x3_229 then
      some (x1_229, r19.1, v13.2.2, r19.2, r11.2)
    else
      if pq_in x3_229 60 then
      fX3_digest_L229 cd ln r11 v13 r19 n ((31 * x1_229) + ((cd x3_229.toNatClampNeg).toInt64)) (x3_229 + 1)
      else none
def fX3_digest (P : Nat → Nat → Int32) (T : Nat → Nat → Int32) (hz : Int32) (ak : Nat → Int32) (pa : Nat → Int32) (wt : Nat → Int32) (cd : Nat → Int32) (ln : Int32) : Option (Int64 × (Nat → Nat → Int32) × (Nat → Int32) × (Nat → Int32) × (Nat → Int32)) :=
  (fX3_digest_L6 P hz 1000 2753 0).bind fun v2 =>
  (fX3_mixRow v2 9 (P 1)).bind fun r5 =>
  (fX3_digest_L45 P 1000 r5 0).bind fun v7 =>
  (fX3_tryWaiting P T wt).bind fun r11 =>
  (fX3_digest_L97 P r11 1000 v7 0 r11.1 ak).bind fun v13 =>
  (fX3_tryPassing 12 P v13.2.1 pa).bind fun r19 =>
  (fX3_mixRow v13.1 4 r19.2).bind fun r20 =>
  (fX3_blocker P).bind fun r21 =>
  (fX3_fairness P).bind fun r22 =>
  (fX3_bitsOfShare r22).bind fun r23 =>
  fX3_digest_L229 cd ln r11 v13 r19 1000 ((31 * ((31 * ((31 * r20) + r21.toInt64)) + r23)) + ln.toInt64) 0

