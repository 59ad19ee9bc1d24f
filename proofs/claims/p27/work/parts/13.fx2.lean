
def fX2_isEmpty (x1 : Int32) (u : Nat → Nat → Int32) : Option (Int32) :=
  if pq_in x1 8 then
  if (u 2) x1.toNatClampNeg = 0 then
    some 1
  else
    some 0
  else none

def fX2_borrower (x1 : Int32) (u : Nat → Nat → Int32) : Option (Int32) :=
  if pq_in x1 8 then
  if (u 2) x1.toNatClampNeg = 2 then
    if pq_in x1 8 then
    some ((u 3) x1.toNatClampNeg)
    else none
  else
    some (-1)
  else none

def fX2_standingSo_L4 (x1 : Int32) (u : Nat → Nat → Int32) : Nat → Int32 → Int32 → Option (Int32)
  | 0, _, _ => none
  | n + 1, x2_4, x3_4 =>
    if 8 ≤ x3_4 then
      some x2_4
    else
      if pq_in x3_4 8 then
      if (u 2) x3_4.toNatClampNeg = x1 then
        fX2_standingSo_L4 x1 u n (x2_4 + 1) (x3_4 + 1)
      else
        fX2_standingSo_L4 x1 u n x2_4 (x3_4 + 1)
      else none
def fX2_standingSo (x1 : Int32) (u : Nat → Nat → Int32) : Option (Int32) :=
  fX2_standingSo_L4 x1 u 1000 0 0

def fX2_connections (u : Nat → Nat → Int32) : Option (Int32) :=
  (fX2_standingSo 0 u).bind fun r1 =>
  some (8 - r1)

def fX2_sickCount_L4 (u : Nat → Nat → Int32) : Nat → Int32 → Int32 → Option (Int32)
  | 0, _, _ => none
  | n + 1, x1_4, x2_4 =>
    if 8 ≤ x2_4 then
      some x1_4
    else
      if pq_in x2_4 8 then
      if (u 4) x2_4.toNatClampNeg = 0 then
        fX2_sickCount_L4 u n x1_4 (x2_4 + 1)
      else
        fX2_sickCount_L4 u n (x1_4 + 1) (x2_4 + 1)
      else none
def fX2_sickCount (u : Nat → Nat → Int32) : Option (Int32) :=
  fX2_sickCount_L4 u 1000 0 0

def fX2_lentCount_L4 (x1 : Int32) (u : Nat → Nat → Int32) : Nat → Int32 → Int32 → Option (Int32)
  | 0, _, _ => none
  | n + 1, x2_4, x3_4 =>
    if 8 ≤ x3_4 then
      some x2_4
    else
      if pq_in x3_4 8 then
      if (u 2) x3_4.toNatClampNeg = 2 then
        if pq_in x3_4 8 then
        if (u 3) x3_4.toNatClampNeg = x1 then
          fX2_lentCount_L4 x1 u n (x2_4 + 1) (x3_4 + 1)
        else
          fX2_lentCount_L4 x1 u n x2_4 (x3_4 + 1)
        else none
      else
        fX2_lentCount_L4 x1 u n x2_4 (x3_4 + 1)
      else none
def fX2_lentCount (x1 : Int32) (u : Nat → Nat → Int32) : Option (Int32) :=
  fX2_lentCount_L4 x1 u 1000 0 0

def fX2_isThere (x1 : Int32) (u : Nat → Nat → Int32) : Option (Int32) :=
  if pq_in x1 8 then
  if (u 8) x1.toNatClampNeg = 0 then
    some 1
  else
    some 0
  else none

def fX2_mayHaveOneMore (x1 : Int32) (u : Nat → Nat → Int32) : Option (Int32) :=
  (fX2_lentCount x1 u).bind fun r1 =>
  if (u 1) (1 : Int32).toNatClampNeg ≤ r1 then
    some 0
  else
    some 1

def fX2_turnOf_L2 (x1 : Int32) (u : Nat → Nat → Int32) : Nat → Int32 → Option (Int32)
  | 0, _ => none
  | n + 1, x2_2 =>
    if u 14 0 ≤ x2_2 then
      some (-1)
    else
      if pq_in x2_2 8 then
      if (u 13) x2_2.toNatClampNeg = x1 then
        some x2_2
      else
        fX2_turnOf_L2 x1 u n (x2_2 + 1)
      else none
def fX2_turnOf (x1 : Int32) (u : Nat → Nat → Int32) : Option (Int32) :=
  fX2_turnOf_L2 x1 u 1000 0

def fX2_waitOf (x1 : Int32) (u : Nat → Nat → Int32) : Option (Int32) :=
  (fX2_turnOf x1 u).bind fun r1 =>
  if r1 = (-1) then
    some 0
  else
    if pq_in x1 8 then
    some ((u 0 0) - ((u 12) x1.toNatClampNeg))
    else none

def fX2_placeProperty (x1 : Int32) (x2 : Int32) (u : Nat → Nat → Int32) : Option (Int32) :=
  if x2 = 0 then
    if pq_in x1 8 then
    some ((u 2) x1.toNatClampNeg)
    else none
  else
    if x2 = 1 then
      (fX2_borrower x1 u).bind fun r1 =>
      some r1
    else
      if x2 = 2 then
        if pq_in x1 8 then
        if (u 4) x1.toNatClampNeg = 0 then
          some 0
        else
          some 1
        else none
      else
        if x2 = 3 then
          if pq_in x1 8 then
          some ((u 5) x1.toNatClampNeg)
          else none
        else
          if x2 = 4 then
            (fX2_isEmpty x1 u).bind fun r2 =>
            if r2 = 0 then
              if pq_in x1 8 then
              some ((u 0 0) - ((u 6) x1.toNatClampNeg))
              else none
            else
              some 0
          else
            if pq_in x1 8 then
            some ((u 7) x1.toNatClampNeg)
            else none

def fX2_ownerProperty (x1 : Int32) (x2 : Int32) (u : Nat → Nat → Int32) : Option (Int32) :=
  if x2 = 0 then
    (fX2_isThere x1 u).bind fun r1 =>
    if r1 = 0 then
      some 0
    else
      some 1
  else
    if x2 = 1 then
      (fX2_lentCount x1 u).bind fun r2 =>
      some r2
    else
      if x2 = 2 then
        (fX2_turnOf x1 u).bind fun r3 =>
        some r3
      else
        if x2 = 3 then
          (fX2_waitOf x1 u).bind fun r4 =>
          some r4
        else
          if x2 = 4 then
            if pq_in x1 8 then
            some ((u 9) x1.toNatClampNeg)
            else none
          else
            if x2 = 5 then
              if pq_in x1 8 then
              some ((u 10) x1.toNatClampNeg)
              else none
            else
              if pq_in x1 8 then
              some ((u 11) x1.toNatClampNeg)
              else none

def fX2_number (x1 : Int32) (u : Nat → Nat → Int32) : Option (Int32) :=
  if x1 = 0 then
    some (u 0 0)
  else
    if x1 = 1 then
      (fX2_connections u).bind fun r1 =>
      some r1
    else
      if x1 = 2 then
        (fX2_standingSo 1 u).bind fun r2 =>
        some r2
      else
        if x1 = 3 then
          (fX2_standingSo 2 u).bind fun r3 =>
          some r3
        else
          if x1 = 4 then
            (fX2_sickCount u).bind fun r4 =>
            some r4
          else
            if x1 = 5 then
              some (u 14 0)
            else
              if x1 - 6 < 0 then
                some 0
              else
                if 7 ≤ x1 - 6 then
                  some 0
                else
                  if pq_in (x1 - 6) 7 then
                  some ((u 15) (x1 - 6).toNatClampNeg)
                  else none

def fX2_canRequest (x1 : Int32) (u : Nat → Nat → Int32) : Option (Int32) :=
  (fX2_isThere x1 u).bind fun r1 =>
  if r1 = 0 then
    some 0
  else
    (fX2_turnOf x1 u).bind fun r2 =>
    if r2 = (-1) then
      some 1
    else
      some 0

def fX2_close (x1 : Int32) (u : Nat → Nat → Int32) : Option ((Nat → Nat → Int32)) :=
  if pq_in x1 8 then
  if pq_in x1 8 then
  if pq_in x1 8 then
  (some (pu (pu (pu (pu u 2 (upd (u 2) x1.toNatClampNeg 0)) 4 (upd (u 4) x1.toNatClampNeg (vp_nar .boolean 0))) 5 (upd (u 5) x1.toNatClampNeg 0)) 15 (upd (u 15) (1 : Int32).toNatClampNeg (((u 15) (1 : Int32).toNatClampNeg) + 1)))).bind fun w1 =>
  some w1
  else none
  else none
  else none

def fX2_closeIfSick (x1 : Int32) (u : Nat → Nat → Int32) : Option (Int32 × (Nat → Nat → Int32)) :=
  if pq_in x1 8 then
  if (u 4) x1.toNatClampNeg = 0 then
    some (0, pu u 15 (upd (u 15) (5 : Int32).toNatClampNeg (((u 15) (5 : Int32).toNatClampNeg) + 1)))
  else
    (fX2_close x1 (pu u 15 (upd (u 15) (5 : Int32).toNatClampNeg (((u 15) (5 : Int32).toNatClampNeg) + 1)))).bind fun r1 =>
    some (1, pu r1 15 (upd (r1 15) (2 : Int32).toNatClampNeg (((r1 15) (2 : Int32).toNatClampNeg) + 1)))
  else none

def fX2_isAhead (x1 : Int32) (x2 : Int32) (u : Nat → Nat → Int32) : Option (Int32) :=
  if (u 1) (3 : Int32).toNatClampNeg = 1 then
    if x2 ≤ x1 then
      some 0
    else
      some 1
  else
    if x1 ≤ x2 then
      some 0
    else
      some 1

def fX2_nextIdle_L4 (u : Nat → Nat → Int32) : Nat → Int32 → Int32 → Option (Int32)
  | 0, _, _ => none
  | n + 1, x1_4, x2_4 =>
    if 8 ≤ x2_4 then
      some x1_4
    else
      if pq_in x2_4 8 then
      if (u 2) x2_4.toNatClampNeg = 1 then
        if x1_4 = (-1) then
          fX2_nextIdle_L4 u n x2_4 (x2_4 + 1)
        else
          if pq_in x2_4 8 then
          if pq_in x1_4 8 then
          (fX2_isAhead ((u 6) x2_4.toNatClampNeg) ((u 6) x1_4.toNatClampNeg) u).bind fun r2 =>
          if r2 = 0 then
            fX2_nextIdle_L4 u n x1_4 (x2_4 + 1)
          else
            fX2_nextIdle_L4 u n x2_4 (x2_4 + 1)
          else none
          else none
      else
        fX2_nextIdle_L4 u n x1_4 (x2_4 + 1)
      else none
def fX2_nextIdle (u : Nat → Nat → Int32) : Option (Int32) :=
  fX2_nextIdle_L4 u 1000 (-1) 0

def fX2_open_L2 (u : Nat → Nat → Int32) : Nat → Int32 → Option (Int32 × (Nat → Nat → Int32))
  | 0, _ => none
  | n + 1, x1_2 =>
    if 8 ≤ x1_2 then
      some ((-1), u)
    else
      (fX2_isEmpty x1_2 u).bind fun r2 =>
      if r2 = 0 then
        fX2_open_L2 u n (x1_2 + 1)
      else
        if pq_in x1_2 8 then
        if pq_in x1_2 8 then
        if pq_in x1_2 8 then
        if pq_in x1_2 8 then
        (some (pu (pu (pu (pu u 2 (upd (u 2) x1_2.toNatClampNeg 1)) 6 (upd (u 6) x1_2.toNatClampNeg (u 0 0))) 7 (upd (u 7) x1_2.toNatClampNeg (((u 7) x1_2.toNatClampNeg) + 1))) 15 (upd (u 15) (0 : Int32).toNatClampNeg (((u 15) (0 : Int32).toNatClampNeg) + 1)))).bind fun w3 =>
        some (x1_2, w3)
        else none
        else none
        else none
        else none
def fX2_open (u : Nat → Nat → Int32) : Option (Int32 × (Nat → Nat → Int32)) :=
  fX2_open_L2 u 1000 0

def fX2_findConnection_L2  : Nat → Int32 → (Nat → Nat → Int32) → Option (Int32 × (Nat → Nat → Int32))
  | 0, _, _ => none
  | n + 1, x1_2, u_2 =>
    if 8 ≤ x1_2 then
      (fX2_connections u_2).bind fun r2 =>
      if (u_2 1) (0 : Int32).toNatClampNeg ≤ r2 then
        some ((-1), u_2)
      else
        (fX2_open u_2).bind fun r3 =>
        some (r3.1, r3.2)
    else
      (fX2_nextIdle u_2).bind fun r4 =>
      if r4 = (-1) then
        (fX2_connections u_2).bind fun r6 =>
        if (u_2 1) (0 : Int32).toNatClampNeg ≤ r6 then
          some ((-1), u_2)
        else
          (fX2_open u_2).bind fun r7 =>
          some (r7.1, r7.2)
      else
        if (u_2 1) (4 : Int32).toNatClampNeg = 0 then
          some (r4, u_2)
        else
          (fX2_closeIfSick r4 u_2).bind fun r5 =>
          if r5.1 = 0 then
            some (r4, r5.2)
          else
            fX2_findConnection_L2  n (x1_2 + 1) r5.2
def fX2_findConnection (u : Nat → Nat → Int32) : Option (Int32 × (Nat → Nat → Int32)) :=
  fX2_findConnection_L2  1000 0 u

def fX2_firstTurnThatMayHaveOne_L2 (u : Nat → Nat → Int32) : Nat → Int32 → Option (Int32)
  | 0, _ => none
  | n + 1, x1_2 =>
    if u 14 0 ≤ x1_2 then
      some (-1)
    else
      if pq_in x1_2 8 then
      (fX2_mayHaveOneMore ((u 13) x1_2.toNatClampNeg) u).bind fun r2 =>
      if r2 = 0 then
        fX2_firstTurnThatMayHaveOne_L2 u n (x1_2 + 1)
      else
        some x1_2
      else none
def fX2_firstTurnThatMayHaveOne (u : Nat → Nat → Int32) : Option (Int32) :=
  fX2_firstTurnThatMayHaveOne_L2 u 1000 0

def fX2_leave_L15  : Nat → Int32 → (Nat → Nat → Int32) → Option ((Nat → Nat → Int32))
  | 0, _, _ => none
  | n + 1, x2_15, u_15 =>
    if u_15 14 0 ≤ x2_15 + 1 then
      some u_15
    else
      if pq_in (x2_15 + 1) 8 then
      if pq_in x2_15 8 then
      fX2_leave_L15  n (x2_15 + 1) (pu u_15 13 (upd (u_15 13) x2_15.toNatClampNeg ((u_15 13) (x2_15 + 1).toNatClampNeg)))
      else none
      else none
def fX2_leave (x1 : Int32) (u : Nat → Nat → Int32) : Option ((Nat → Nat → Int32)) :=
  if x1 < 0 then
    some u
  else
    if x1 < u 14 0 then
      (fX2_leave_L15  1000 x1 u).bind fun v2 =>
      some (pu v2 14 (fun _ => (v2 14 0) - 1))
    else
      some u

def fX2_lend (x1 : Int32) (x2 : Int32) (u : Nat → Nat → Int32) : Option ((Nat → Nat → Int32)) :=
  if pq_in x1 8 then
  if pq_in x1 8 then
  if pq_in x1 8 then
  if pq_in x1 8 then
  if pq_in x1 8 then
  (some (pu (pu (pu (pu u 2 (upd (u 2) x1.toNatClampNeg 2)) 3 (upd (u 3) x1.toNatClampNeg x2)) 5 (upd (u 5) x1.toNatClampNeg (((u 5) x1.toNatClampNeg) + 1))) 6 (upd (u 6) x1.toNatClampNeg (u 0 0)))).bind fun w1 =>
  if pq_in x2 8 then
  if pq_in x2 8 then
  some (pu (pu w1 9 (upd (w1 9) x2.toNatClampNeg (((w1 9) x2.toNatClampNeg) + 1))) 15 (upd (w1 15) (6 : Int32).toNatClampNeg (((w1 15) (6 : Int32).toNatClampNeg) + 1)))
  else none
  else none
  else none
  else none
  else none
  else none
  else none

def fX2_serveWaiters_L4 (x1 : Int32) : Nat → Int32 → Int32 → (Nat → Nat → Int32) → Option (Int32 × (Nat → Nat → Int32))
  | 0, _, _, _ => none
  | n + 1, x2_4, x3_4, u_4 =>
    if 8 ≤ x3_4 then
      some (x2_4, u_4)
    else
      (fX2_firstTurnThatMayHaveOne u_4).bind fun r2 =>
      (if r2 = (-1) then
         some ((-1), u_4)
       else
         (fX2_findConnection u_4).bind fun r4 =>
         some (r4.1, r4.2) : Option (Int32 × (Nat → Nat → Int32))).bind fun v3 =>
      if v3.1 = (-1) then
        some (x2_4, v3.2)
      else
        if pq_in r2 8 then
        if pq_in ((v3.2 13) r2.toNatClampNeg) 8 then
        if pq_in ((v3.2 13) r2.toNatClampNeg) 8 then
        if pq_in ((v3.2 13) r2.toNatClampNeg) 8 then
        (fX2_leave r2 (pu v3.2 11 (upd (v3.2 11) ((v3.2 13) r2.toNatClampNeg).toNatClampNeg (((v3.2 11) ((v3.2 13) r2.toNatClampNeg).toNatClampNeg) + ((v3.2 0 0) - ((v3.2 12) ((v3.2 13) r2.toNatClampNeg).toNatClampNeg)))))).bind fun r5 =>
        (fX2_lend v3.1 ((v3.2 13) r2.toNatClampNeg) r5).bind fun r6 =>
        if (v3.2 13) r2.toNatClampNeg = x1 then
          fX2_serveWaiters_L4 x1 n v3.1 (x3_4 + 1) r6
        else
          fX2_serveWaiters_L4 x1 n x2_4 (x3_4 + 1) r6
        else none
        else none
        else none
        else none
def fX2_serveWaiters (x1 : Int32) (u : Nat → Nat → Int32) : Option (Int32 × (Nat → Nat → Int32)) :=
  fX2_serveWaiters_L4 x1 1000 (-1) 0 u

def fX2_request (x1 : Int32) (u : Nat → Nat → Int32) : Option (Int32 × (Nat → Nat → Int32)) :=
  if 8 ≤ u 14 0 then
    (fX2_serveWaiters x1 u).bind fun r1 =>
    some (r1.1, r1.2)
  else
    if pq_in (u 14 0) 8 then
    if pq_in x1 8 then
    (fX2_serveWaiters x1 (pu (pu (pu u 12 (upd (u 12) x1.toNatClampNeg (u 0 0))) 13 (upd (u 13) (u 14 0).toNatClampNeg x1)) 14 (fun _ => (u 14 0) + 1))).bind fun r2 =>
    some (r2.1, r2.2)
    else none
    else none

def fX2_canTakeBack (x1 : Int32) (u : Nat → Nat → Int32) : Option (Int32) :=
  if pq_in x1 8 then
  if (u 2) x1.toNatClampNeg = 2 then
    if pq_in x1 8 then
    (fX2_isThere ((u 3) x1.toNatClampNeg) u).bind fun r1 =>
    if r1 = 0 then
      some 0
    else
      some 1
    else none
  else
    some 0
  else none

def fX2_takeBack (x1 : Int32) (u : Nat → Nat → Int32) : Option ((Nat → Nat → Int32)) :=
  if pq_in x1 8 then
  if pq_in x1 8 then
  (fX2_serveWaiters (-1) (pu (pu u 2 (upd (u 2) x1.toNatClampNeg 1)) 6 (upd (u 6) x1.toNatClampNeg (u 0 0)))).bind fun r1 =>
  some r1.2
  else none
  else none

def fX2_stopWaiting (x1 : Int32) (u : Nat → Nat → Int32) : Option ((Nat → Nat → Int32)) :=
  (fX2_turnOf x1 u).bind fun r1 =>
  (fX2_leave r1 u).bind fun r2 =>
  if pq_in x1 8 then
  if pq_in x1 8 then
  (fX2_serveWaiters (-1) (pu r2 10 (upd (r2 10) x1.toNatClampNeg (((r2 10) x1.toNatClampNeg) + 1)))).bind fun r3 =>
  some r3.2
  else none
  else none

def fX2_turnUp (x1 : Int32) (x2 : Int32) (u : Nat → Nat → Int32) : Option ((Nat → Nat → Int32)) :=
  (if x2 = 0 then
     some (1 : Int32)
   else
     some (0 : Int32) : Option (Int32)).bind fun v1 =>
  if pq_in x1 8 then
  (fX2_turnOf x1 (pu u 8 (upd (u 8) x1.toNatClampNeg (vp_nar .boolean v1)))).bind fun r2 =>
  (fX2_leave r2 (pu u 8 (upd (u 8) x1.toNatClampNeg (vp_nar .boolean v1)))).bind fun r3 =>
  (fX2_serveWaiters (-1) r3).bind fun r4 =>
  some r4.2
  else none

def fX2_makeSick (x1 : Int32) (u : Nat → Nat → Int32) : Option (Int32 × (Nat → Nat → Int32)) :=
  if pq_in x1 8 then
  if (u 4) x1.toNatClampNeg = 0 then
    if pq_in x1 8 then
    some (1, pu u 4 (upd (u 4) x1.toNatClampNeg (vp_nar .boolean 1)))
    else none
  else
    if pq_in x1 8 then
    some (0, pu u 4 (upd (u 4) x1.toNatClampNeg (vp_nar .boolean 1)))
    else none
  else none

def fX2_change (x1 : Int32) (x2 : Int32) (u : Nat → Nat → Int32) : Option (Int32 × (Nat → Nat → Int32)) :=
  if pq_in x1 9 then
  if pq_in x1 9 then
  (fX2_serveWaiters (-1) (pu u 1 (upd (u 1) x1.toNatClampNeg x2))).bind fun r1 =>
  some ((u 1) x1.toNatClampNeg, r1.2)
  else none
  else none

def fX2_canPassUnits (x1 : Int32) (u : Nat → Nat → Int32) : Option (Int32) :=
  if 9999 - (u 0 0) < x1 then
    some 0
  else
    some 1

def fX2_checkIdle_L4  : Nat → Int32 → Int32 → (Nat → Nat → Int32) → Option (Int32 × (Nat → Nat → Int32))
  | 0, _, _, _ => none
  | n + 1, x1_4, x2_4, u_4 =>
    if 8 ≤ x2_4 then
      some (x1_4, u_4)
    else
      if pq_in x2_4 8 then
      if (u_4 2) x2_4.toNatClampNeg = 1 then
        (fX2_closeIfSick x2_4 u_4).bind fun r2 =>
        if r2.1 = 0 then
          fX2_checkIdle_L4  n x1_4 (x2_4 + 1) r2.2
        else
          fX2_checkIdle_L4  n (x1_4 + 1) (x2_4 + 1) r2.2
      else
        fX2_checkIdle_L4  n x1_4 (x2_4 + 1) u_4
      else none
def fX2_checkIdle (u : Nat → Nat → Int32) : Option (Int32 × (Nat → Nat → Int32)) :=
  fX2_checkIdle_L4  1000 0 0 u

def fX2_closeIdleTooLong_L7  : Nat → Int32 → Int32 → (Nat → Nat → Int32) → Option ((Nat → Nat → Int32))
  | 0, _, _, _ => none
  | n + 1, x1_7, x2_7, u_7 =>
    if 8 ≤ x2_7 then
      some u_7
    else
      if x1_7 ≤ (u_7 1) (2 : Int32).toNatClampNeg then
        some u_7
      else
        if pq_in x2_7 8 then
        if (u_7 2) x2_7.toNatClampNeg = 1 then
          if pq_in x2_7 8 then
          if (u_7 0 0) - ((u_7 6) x2_7.toNatClampNeg) < (u_7 1) (7 : Int32).toNatClampNeg then
            fX2_closeIdleTooLong_L7  n x1_7 (x2_7 + 1) u_7
          else
            (fX2_close x2_7 u_7).bind fun r3 =>
            fX2_closeIdleTooLong_L7  n (x1_7 + (-1)) (x2_7 + 1) (pu r3 15 (upd (r3 15) (3 : Int32).toNatClampNeg (((r3 15) (3 : Int32).toNatClampNeg) + 1)))
          else none
        else
          fX2_closeIdleTooLong_L7  n x1_7 (x2_7 + 1) u_7
        else none
def fX2_closeIdleTooLong (u : Nat → Nat → Int32) : Option ((Nat → Nat → Int32)) :=
  (fX2_connections u).bind fun r1 =>
  fX2_closeIdleTooLong_L7  1000 r1 0 u

def fX2_closeLeasesOfVanished_L2  : Nat → Int32 → (Nat → Nat → Int32) → Option ((Nat → Nat → Int32))
  | 0, _, _ => none
  | n + 1, x1_2, u_2 =>
    if 8 ≤ x1_2 then
      some u_2
    else
      if pq_in x1_2 8 then
      if (u_2 2) x1_2.toNatClampNeg = 2 then
        if pq_in x1_2 8 then
        if pq_in ((u_2 3) x1_2.toNatClampNeg) 8 then
        if (u_2 8) ((u_2 3) x1_2.toNatClampNeg).toNatClampNeg = 0 then
          fX2_closeLeasesOfVanished_L2  n (x1_2 + 1) u_2
        else
          if pq_in x1_2 8 then
          if (u_2 0 0) - ((u_2 6) x1_2.toNatClampNeg) < (u_2 1) (5 : Int32).toNatClampNeg then
            fX2_closeLeasesOfVanished_L2  n (x1_2 + 1) u_2
          else
            (fX2_close x1_2 u_2).bind fun r2 =>
            fX2_closeLeasesOfVanished_L2  n (x1_2 + 1) (pu r2 15 (upd (r2 15) (4 : Int32).toNatClampNeg (((r2 15) (4 : Int32).toNatClampNeg) + 1)))
          else none
        else none
        else none
      else
        fX2_closeLeasesOfVanished_L2  n (x1_2 + 1) u_2
      else none
def fX2_closeLeasesOfVanished (u : Nat → Nat → Int32) : Option ((Nat → Nat → Int32)) :=
  fX2_closeLeasesOfVanished_L2  1000 0 u

def fX2_dropTiredWaiters_L9  : Nat → Int32 → Int32 → (Nat → Nat → Int32) → Option (Int32 × (Nat → Nat → Int32))
  | 0, _, _, _ => none
  | n + 1, x1_9, x2_9, u_9 =>
    if x2_9 < 0 then
      some (x1_9, u_9)
    else
      if pq_in x2_9 8 then
      if pq_in ((u_9 13) x2_9.toNatClampNeg) 8 then
      if (u_9 0 0) - ((u_9 12) ((u_9 13) x2_9.toNatClampNeg).toNatClampNeg) < (u_9 1) (8 : Int32).toNatClampNeg then
        fX2_dropTiredWaiters_L9  n x1_9 (x2_9 + (-1)) u_9
      else
        (fX2_leave x2_9 u_9).bind fun r2 =>
        if pq_in ((u_9 13) x2_9.toNatClampNeg) 8 then
        if pq_in ((u_9 13) x2_9.toNatClampNeg) 8 then
        fX2_dropTiredWaiters_L9  n (x1_9 + 1) (x2_9 + (-1)) (pu r2 10 (upd (r2 10) ((u_9 13) x2_9.toNatClampNeg).toNatClampNeg (((r2 10) ((u_9 13) x2_9.toNatClampNeg).toNatClampNeg) + 1)))
        else none
        else none
      else none
      else none
def fX2_dropTiredWaiters (u : Nat → Nat → Int32) : Option (Int32 × (Nat → Nat → Int32)) :=
  fX2_dropTiredWaiters_L9  1000 0 ((u 14 0) - 1) u

def fX2_passUnits_L4 (x1 : Int32) : Nat → Int32 → Int32 → (Nat → Nat → Int32) → Option (Int32 × (Nat → Nat → Int32))
  | 0, _, _, _ => none
  | n + 1, x2_4, x3_4, u_4 =>
    if x1 ≤ x3_4 then
      some (x2_4, u_4)
    else
      (fX2_closeLeasesOfVanished (pu u_4 0 (fun _ => (u_4 0 0) + 1))).bind fun r2 =>
      (if (r2 1) (6 : Int32).toNatClampNeg ≤ 0 then
         some r2
       else
         if ¬ (r2 1) (6 : Int32).toNatClampNeg = 0 then
         if (r2 0 0) - (r2 0 0) / ((r2 1) (6 : Int32).toNatClampNeg) * ((r2 1) (6 : Int32).toNatClampNeg) = 0 then
           (fX2_checkIdle r2).bind fun r4 =>
           some r4.2
         else
           some r2
         else none : Option ((Nat → Nat → Int32))).bind fun v3 =>
      (fX2_closeIdleTooLong v3).bind fun r5 =>
      (fX2_dropTiredWaiters r5).bind fun r6 =>
      (fX2_serveWaiters (-1) r6.2).bind fun r7 =>
      fX2_passUnits_L4 x1 n (x2_4 + r6.1) (x3_4 + 1) r7.2
def fX2_passUnits (x1 : Int32) (u : Nat → Nat → Int32) : Option (Int32 × (Nat → Nat → Int32)) :=
  fX2_passUnits_L4 x1 1000 0 0 u

def fX2_closeIdle_L4  : Nat → Int32 → Int32 → (Nat → Nat → Int32) → Option (Int32 × (Nat → Nat → Int32))
  | 0, _, _, _ => none
  | n + 1, x1_4, x2_4, u_4 =>
    if 8 ≤ x2_4 then
      some (x1_4, u_4)
    else
      if pq_in x2_4 8 then
      if (u_4 2) x2_4.toNatClampNeg = 1 then
        (fX2_close x2_4 u_4).bind fun r2 =>
        fX2_closeIdle_L4  n (x1_4 + 1) (x2_4 + 1) r2
      else
        fX2_closeIdle_L4  n x1_4 (x2_4 + 1) u_4
      else none
def fX2_closeIdle (u : Nat → Nat → Int32) : Option (Int32 × (Nat → Nat → Int32)) :=
  fX2_closeIdle_L4  1000 0 0 u

