abbrev WR (cy : Nat → ClassId) (a0 N : Nat) (rw : Nat → Int32) : va_W := [(a0, .inl (cy 0, N, .inl rw))]
def fX3_requireOwner (x0 : Int32) : Option (Nat ⊕ (Unit)) :=
  if x0 < 0 then
    some (Sum.inl 1)
  else
    if x0 < 8 then
      some (Sum.inr ())
    else
      some (Sum.inl 1)

def fX3_ask (x1 : Int32) (P : Nat → Nat → Int32) (S : Nat → Nat → Nat → Int32) (nw : Int32) (hz : Int32) : Option (Nat ⊕ (Int32 × (Nat → Nat → Int32) × (Nat → Nat → Nat → Int32) × Int32 × Int32)) :=
  (fX3_requireOwner x1).bind fun r1 =>
  Sum.elim (fun e => some (Sum.inl e)) (fun a2 =>
  (fX2_canRequest x1 P).bind fun r3 =>
  if r3 = 0 then
    some (Sum.inl 2)
  else
    (fX1_save P S nw hz).bind fun r4 =>
    (fX2_request x1 P).bind fun r5 =>
    some (Sum.inr (r5.1, r5.2, r4.1, r4.2.1, r4.2.2))) r1

def fX3_requirePlace (x0 : Int32) : Option (Nat ⊕ (Unit)) :=
  if x0 < 0 then
    some (Sum.inl 1)
  else
    if x0 < 8 then
      some (Sum.inr ())
    else
      some (Sum.inl 1)

def fX3_give (x1 : Int32) (P : Nat → Nat → Int32) (S : Nat → Nat → Nat → Int32) (nw : Int32) (hz : Int32) : Option (Nat ⊕ (Int32 × (Nat → Nat → Int32) × (Nat → Nat → Nat → Int32) × Int32 × Int32)) :=
  (fX3_requirePlace x1).bind fun r1 =>
  Sum.elim (fun e => some (Sum.inl e)) (fun a2 =>
  (fX2_canTakeBack x1 P).bind fun r3 =>
  if r3 = 0 then
    some (Sum.inl 2)
  else
    (fX1_save P S nw hz).bind fun r4 =>
    (fX2_takeBack x1 P).bind fun r5 =>
    (fX2_borrower x1 r5).bind fun r6 =>
    some (Sum.inr (r6, r5, r4.1, r4.2.1, r4.2.2))) r1

def fX3_giveUp (x1 : Int32) (P : Nat → Nat → Int32) (S : Nat → Nat → Nat → Int32) (nw : Int32) (hz : Int32) : Option (Nat ⊕ (Int32 × (Nat → Nat → Int32) × (Nat → Nat → Nat → Int32) × Int32 × Int32)) :=
  (fX3_requireOwner x1).bind fun r1 =>
  Sum.elim (fun e => some (Sum.inl e)) (fun a2 =>
  (fX2_turnOf x1 P).bind fun r3 =>
  if r3 = (-1) then
    some (Sum.inl 2)
  else
    (fX1_save P S nw hz).bind fun r4 =>
    (fX2_waitOf x1 P).bind fun r5 =>
    (fX2_stopWaiting x1 P).bind fun r6 =>
    some (Sum.inr (r5, r6, r4.1, r4.2.1, r4.2.2))) r1

def fX3_appear (x1 : Int32) (x2 : Int32) (P : Nat → Nat → Int32) (S : Nat → Nat → Nat → Int32) (nw : Int32) (hz : Int32) : Option (Nat ⊕ (Int32 × (Nat → Nat → Int32) × (Nat → Nat → Nat → Int32) × Int32 × Int32)) :=
  (fX3_requireOwner x1).bind fun r1 =>
  Sum.elim (fun e => some (Sum.inl e)) (fun a2 =>
  (fX2_isThere x1 P).bind fun r3 =>
  if r3 = x2 then
    some (Sum.inl 2)
  else
    (fX1_save P S nw hz).bind fun r4 =>
    (fX2_turnUp x1 x2 P).bind fun r5 =>
    (fX2_lentCount x1 r5).bind fun r6 =>
    some (Sum.inr (r6, r5, r4.1, r4.2.1, r4.2.2))) r1

def fX3_sicken (x1 : Int32) (P : Nat → Nat → Int32) (S : Nat → Nat → Nat → Int32) (nw : Int32) (hz : Int32) : Option (Nat ⊕ (Int32 × (Nat → Nat → Int32) × (Nat → Nat → Nat → Int32) × Int32 × Int32)) :=
  (fX3_requirePlace x1).bind fun r1 =>
  Sum.elim (fun e => some (Sum.inl e)) (fun a2 =>
  (fX2_isEmpty x1 P).bind fun r3 =>
  if r3 = 0 then
    (fX1_save P S nw hz).bind fun r4 =>
    (fX2_makeSick x1 P).bind fun r5 =>
    if r5.1 = 0 then
      some (Sum.inr (0, r5.2, r4.1, r4.2.1, r4.2.2))
    else
      some (Sum.inr (1, r5.2, r4.1, r4.2.1, r4.2.2))
  else
    some (Sum.inl 2)) r1

def fX3_check (P : Nat → Nat → Int32) (S : Nat → Nat → Nat → Int32) (nw : Int32) (hz : Int32) : Option (Int32 × (Nat → Nat → Int32) × (Nat → Nat → Nat → Int32) × Int32 × Int32) :=
  (fX1_save P S nw hz).bind fun r1 =>
  (fX2_checkIdle P).bind fun r2 =>
  (fX2_serveWaiters (-1) r2.2).bind fun r3 =>
  some (r2.1, r3.2, r1.1, r1.2.1, r1.2.2)

def fX3_drain (P : Nat → Nat → Int32) (S : Nat → Nat → Nat → Int32) (nw : Int32) (hz : Int32) : Option (Int32 × (Nat → Nat → Int32) × (Nat → Nat → Nat → Int32) × Int32 × Int32) :=
  (fX1_save P S nw hz).bind fun r1 =>
  (fX2_closeIdle P).bind fun r2 =>
  (fX2_serveWaiters (-1) r2.2).bind fun r3 =>
  some (r2.1, r3.2, r1.1, r1.2.1, r1.2.2)

def fX3_requireSetting (x0 : Int32) : Option (Nat ⊕ (Unit)) :=
  if x0 < 0 then
    some (Sum.inl 1)
  else
    if x0 < 9 then
      some (Sum.inr ())
    else
      some (Sum.inl 1)

def fX3_set (x1 : Int32) (x2 : Int32) (P : Nat → Nat → Int32) (S : Nat → Nat → Nat → Int32) (nw : Int32) (hz : Int32) : Option (Nat ⊕ (Int32 × (Nat → Nat → Int32) × (Nat → Nat → Nat → Int32) × Int32 × Int32)) :=
  (fX3_requireSetting x1).bind fun r1 =>
  Sum.elim (fun e => some (Sum.inl e)) (fun a2 =>
  if pq_in x1 9 then
  if x2 < pw_least x1.toNatClampNeg then
    some (Sum.inl 3)
  else
    if pq_in x1 9 then
    if x2 ≤ pw_great x1.toNatClampNeg then
      (fX1_save P S nw hz).bind fun r3 =>
      (fX2_change x1 x2 P).bind fun r4 =>
      some (Sum.inr (r4.1, r4.2, r3.1, r3.2.1, r3.2.2))
    else
      some (Sum.inl 3)
    else none
  else none) r1

def fX3_pass (x1 : Int32) (P : Nat → Nat → Int32) (S : Nat → Nat → Nat → Int32) (nw : Int32) (hz : Int32) : Option (Nat ⊕ (Int32 × (Nat → Nat → Int32) × (Nat → Nat → Nat → Int32) × Int32 × Int32)) :=
  if x1 < 1 then
    some (Sum.inl 3)
  else
    if x1 ≤ 99 then
      (fX2_canPassUnits x1 P).bind fun r1 =>
      if r1 = 0 then
        some (Sum.inl 2)
      else
        (fX1_save P S nw hz).bind fun r2 =>
        (fX2_passUnits x1 P).bind fun r3 =>
        some (Sum.inr (r3.1, r3.2, r2.1, r2.2.1, r2.2.2))
    else
      some (Sum.inl 3)

def fX3_requireKind (x0 : Int32) (x1 : Int32) : Option (Nat ⊕ (Unit)) :=
  if x0 < 0 then
    some (Sum.inl 3)
  else
    if x0 < x1 then
      some (Sum.inr ())
    else
      some (Sum.inl 3)

def fX3_place (x1 : Int32) (x2 : Int32) (P : Nat → Nat → Int32) : Option (Nat ⊕ (Int32)) :=
  (fX3_requirePlace x1).bind fun r1 =>
  Sum.elim (fun e => some (Sum.inl e)) (fun a2 =>
  (fX3_requireKind x2 6).bind fun r3 =>
  Sum.elim (fun e => some (Sum.inl e)) (fun a4 =>
  (fX2_placeProperty x1 x2 P).bind fun r5 =>
  some (Sum.inr r5)) r3) r1

def fX3_owner (x1 : Int32) (x2 : Int32) (P : Nat → Nat → Int32) : Option (Nat ⊕ (Int32)) :=
  (fX3_requireOwner x1).bind fun r1 =>
  Sum.elim (fun e => some (Sum.inl e)) (fun a2 =>
  (fX3_requireKind x2 7).bind fun r3 =>
  Sum.elim (fun e => some (Sum.inl e)) (fun a4 =>
  (fX2_ownerProperty x1 x2 P).bind fun r5 =>
  some (Sum.inr r5)) r3) r1

def fX3_count (x1 : Int32) (P : Nat → Nat → Int32) (hz : Int32) : Option (Nat ⊕ (Int32)) :=
  (fX3_requireKind x1 14).bind fun r1 =>
  Sum.elim (fun e => some (Sum.inl e)) (fun a2 =>
  if x1 = 13 then
    some (Sum.inr hz)
  else
    (fX2_number x1 P).bind fun r3 =>
    some (Sum.inr r3)) r1

def fX3_setting (x1 : Int32) (P : Nat → Nat → Int32) : Option (Nat ⊕ (Int32)) :=
  (fX3_requireSetting x1).bind fun r1 =>
  Sum.elim (fun e => some (Sum.inl e)) (fun a2 =>
  if pq_in x1 9 then
  some (Sum.inr ((P 1) x1.toNatClampNeg))
  else none) r1

def fX3_tryAsking (x1 : Int32) (P : Nat → Nat → Int32) (T : Nat → Nat → Int32) (ak : Nat → Int32) : Option ((Nat → Nat → Int32) × (Nat → Int32)) :=
  (fX2_canRequest x1 P).bind fun r1 =>
  if r1 = 0 then
    some (T, upd (upd (upd ak (0 : Int32).toNatClampNeg (-1)) (1 : Int32).toNatClampNeg 0) (2 : Int32).toNatClampNeg 0)
  else
    (fX2_copyFrom P).bind fun r2 =>
    (fX2_request x1 r2).bind fun r3 =>
    (if r3.1 = (-1) then
       some (0 : Int32)
     else
       if pq_in r3.1 8 then
       if pq_in r3.1 8 then
       if (r3.2 7) r3.1.toNatClampNeg ≤ (P 7) r3.1.toNatClampNeg then
         some (0 : Int32)
       else
         some (1 : Int32)
       else none
       else none : Option (Int32)).bind fun v4 =>
    some (r3.2, upd (upd (upd (upd (upd (upd ak (0 : Int32).toNatClampNeg (-1)) (1 : Int32).toNatClampNeg 0) (2 : Int32).toNatClampNeg 0) (0 : Int32).toNatClampNeg r3.1) (1 : Int32).toNatClampNeg v4) (2 : Int32).toNatClampNeg (((r3.2 15) (1 : Int32).toNatClampNeg) - ((P 15) (1 : Int32).toNatClampNeg)))

def fX3_ifAsked (x1 : Int32) (x2 : Int32) (P : Nat → Nat → Int32) (T : Nat → Nat → Int32) (ak : Nat → Int32) : Option (Nat ⊕ (Int32 × (Nat → Nat → Int32) × (Nat → Int32))) :=
  (fX3_requireOwner x1).bind fun r1 =>
  Sum.elim (fun e => some (Sum.inl e)) (fun a2 =>
  (fX3_requireKind x2 3).bind fun r3 =>
  Sum.elim (fun e => some (Sum.inl e)) (fun a4 =>
  (fX3_tryAsking x1 P T ak).bind fun r5 =>
  if pq_in x2 3 then
  some (Sum.inr (r5.2 x2.toNatClampNeg, r5.1, r5.2))
  else none) r3) r1

def fX3_tryPassing (x1 : Int32) (P : Nat → Nat → Int32) (T : Nat → Nat → Int32) (pa : Nat → Int32) : Option ((Nat → Nat → Int32) × (Nat → Int32)) :=
  (fX2_copyFrom P).bind fun r1 =>
  (fX2_passUnits x1 r1).bind fun r2 =>
  (fX2_connections r2.2).bind fun r3 =>
  some (r2.2, upd (upd (upd (upd pa (0 : Int32).toNatClampNeg r2.1) (1 : Int32).toNatClampNeg (((r2.2 15) (1 : Int32).toNatClampNeg) - ((P 15) (1 : Int32).toNatClampNeg))) (2 : Int32).toNatClampNeg r3) (3 : Int32).toNatClampNeg (r2.2 14 0))

def fX3_ifPassed (x1 : Int32) (x2 : Int32) (P : Nat → Nat → Int32) (T : Nat → Nat → Int32) (pa : Nat → Int32) : Option (Nat ⊕ (Int32 × (Nat → Nat → Int32) × (Nat → Int32))) :=
  if x1 < 0 then
    some (Sum.inl 3)
  else
    if x1 ≤ 200 then
      (fX3_requireKind x2 4).bind fun r1 =>
      Sum.elim (fun e => some (Sum.inl e)) (fun a2 =>
      (fX3_tryPassing x1 P T pa).bind fun r3 =>
      if pq_in x2 4 then
      some (Sum.inr (r3.2 x2.toNatClampNeg, r3.1, r3.2))
      else none) r1
    else
      some (Sum.inl 3)

def fX3_tryWaiting_L2  : Nat → Int32 → (Nat → Int32) → Option ((Nat → Int32))
  | 0, _, _ => none
  | n + 1, x1_2, wt_2 =>
    if 8 ≤ x1_2 then
      some wt_2
    else
      if pq_in x1_2 8 then
      fX3_tryWaiting_L2  n (x1_2 + 1) (upd wt_2 x1_2.toNatClampNeg (-1))
      else none
def fX3_tryWaiting_L61 (P : Nat → Nat → Int32) (x1_34 : Int32) (r5 : Int32 × (Nat → Nat → Int32)) : Nat → Int32 → (Nat → Int32) → Option ((Nat → Int32))
  | 0, _, _ => none
  | n + 1, x2_61, wt_61 =>
    if 8 ≤ x2_61 then
      some wt_61
    else
      if pq_in x2_61 8 then
      if wt_61 x2_61.toNatClampNeg = (-1) then
        if pq_in x2_61 8 then
        if pq_in x2_61 8 then
        if (r5.2 9) x2_61.toNatClampNeg ≤ (P 9) x2_61.toNatClampNeg then
          fX3_tryWaiting_L61 P x1_34 r5 n (x2_61 + 1) wt_61
        else
          if pq_in x2_61 8 then
          fX3_tryWaiting_L61 P x1_34 r5 n (x2_61 + 1) (upd wt_61 x2_61.toNatClampNeg x1_34)
          else none
        else none
        else none
      else
        fX3_tryWaiting_L61 P x1_34 r5 n (x2_61 + 1) wt_61
      else none
def fX3_tryWaiting_L34 (P : Nat → Nat → Int32) : Nat → Int32 → (Nat → Nat → Int32) → (Nat → Int32) → Option ((Nat → Nat → Int32) × (Nat → Int32))
  | 0, _, _, _ => none
  | n + 1, x1_34, T_34, wt_34 =>
    if 99 < x1_34 then
      some (T_34, wt_34)
    else
      if T_34 14 0 ≤ 0 then
        some (T_34, wt_34)
      else
        (fX2_passUnits 1 T_34).bind fun r5 =>
        (fX3_tryWaiting_L61 P x1_34 r5 1000 0 wt_34).bind fun v7 =>
        fX3_tryWaiting_L34 P n (x1_34 + 1) r5.2 v7
def fX3_tryWaiting (P : Nat → Nat → Int32) (T : Nat → Nat → Int32) (wt : Nat → Int32) : Option ((Nat → Nat → Int32) × (Nat → Int32)) :=
  (fX3_tryWaiting_L2  1000 0 wt).bind fun v2 =>
  (fX2_copyFrom P).bind fun r3 =>
  fX3_tryWaiting_L34 P 1000 1 r3 v2

def fX3_waitsFor (x1 : Int32) (P : Nat → Nat → Int32) (T : Nat → Nat → Int32) (wt : Nat → Int32) : Option (Nat ⊕ (Int32 × (Nat → Nat → Int32) × (Nat → Int32))) :=
  (fX3_requireOwner x1).bind fun r1 =>
  Sum.elim (fun e => some (Sum.inl e)) (fun a2 =>
  (fX3_tryWaiting P T wt).bind fun r3 =>
  if pq_in x1 8 then
  some (Sum.inr (r3.2 x1.toNatClampNeg, r3.1, r3.2))
  else none) r1

def fX3_blocker_L18 (P : Nat → Nat → Int32) : Nat → Int32 → Int32 → Int32 → Option (Int32)
  | 0, _, _, _ => none
  | n + 1, x1_18, x2_18, x3_18 =>
    if 8 ≤ x3_18 then
      some x2_18
    else
      (fX2_lentCount x3_18 P).bind fun r2 =>
      if r2 ≤ x1_18 then
        fX3_blocker_L18 P n x1_18 x2_18 (x3_18 + 1)
      else
        fX3_blocker_L18 P n r2 x3_18 (x3_18 + 1)
def fX3_blocker (P : Nat → Nat → Int32) : Option (Int32) :=
  if P 14 0 = 0 then
    some (-1)
  else
    fX3_blocker_L18 P 1000 0 (-1) 0

def fX3_fairness_L6 (P : Nat → Nat → Int32) : Nat → Int32 → Int32 → Int32 → Option (Int32 × Int32)
  | 0, _, _, _ => none
  | n + 1, x1_6, x2_6, x3_6 =>
    if 8 ≤ x3_6 then
      some (x1_6, x2_6)
    else
      if pq_in x3_6 8 then
      (if (P 9) x3_6.toNatClampNeg ≤ 0 then
         some x1_6
       else
         if x1_6 = 0 then
           some ((P 9) x3_6.toNatClampNeg)
         else
           if x1_6 ≤ (P 9) x3_6.toNatClampNeg then
             some x1_6
           else
             some ((P 9) x3_6.toNatClampNeg) : Option (Int32)).bind fun v3 =>
      fX3_fairness_L6 P n v3 (if x2_6 < (P 9) x3_6.toNatClampNeg then (P 9) x3_6.toNatClampNeg else x2_6) (x3_6 + 1)
      else none
def fX3_fairness (P : Nat → Nat → Int32) : Option (UInt64) :=
  (fX3_fairness_L6 P 1000 0 0 0).bind fun v2 =>
  if v2.2 = 0 then
    some FP.dconst1
  else
    if pq_nn (FP.ddiv (FP.i2d v2.1) (FP.i2d v2.2)) then
    some (FP.ddiv (FP.i2d v2.1) (FP.i2d v2.2))
    else none

