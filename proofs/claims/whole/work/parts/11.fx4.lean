def fX4_of (x1 : Int32) (x2 : Int32) (z : Nat → Int32) : Option (Int32) :=
  if pq_in ((26 + (6 * x1)) + x2) 114 then
  some (z ((26 + (6 * x1)) + x2).toNatClampNeg)
  else none

def fX4_put (x1 : Int32) (x2 : Int32) (x3 : Int32) (z : Nat → Int32) : Option ((Nat → Int32)) :=
  if pq_in ((26 + (6 * x1)) + x2) 114 then
  some (upd z ((26 + (6 * x1)) + x2).toNatClampNeg x3)
  else none

def fX4_isIn (x1 : Int32) (x2 : Int32) (z : Nat → Int32) : Option (Int32) :=
  (fX4_of x1 0 z).bind fun r1 =>
  if r1 = x2 then
    some 1
  else
    some 0

def fX4_save_L11  : Nat → Int32 → (Nat → Int32) → Option ((Nat → Int32))
  | 0, _, _ => none
  | n + 1, x1_11, sv_11 =>
    if 570 ≤ x1_11 then
      some sv_11
    else
      if pq_in (x1_11 + 114) 684 then
      if pq_in x1_11 684 then
      fX4_save_L11  n (x1_11 + 1) (upd sv_11 x1_11.toNatClampNeg (sv_11 (x1_11 + 114).toNatClampNeg))
      else none
      else none
def fX4_save_L51 (z : Nat → Int32) (v1 : (Nat → Int32) × Int32) : Nat → Int32 → (Nat → Int32) → Option ((Nat → Int32))
  | 0, _, _ => none
  | n + 1, x1_51, sv_51 =>
    if 114 ≤ x1_51 then
      some sv_51
    else
      if pq_in x1_51 114 then
      if pq_in ((v1.2 * 114) + x1_51) 684 then
      fX4_save_L51 z v1 n (x1_51 + 1) (upd sv_51 ((v1.2 * 114) + x1_51).toNatClampNeg (z x1_51.toNatClampNeg))
      else none
      else none
def fX4_save (z : Nat → Int32) (sv : Nat → Int32) (sn : Int32) : Option ((Nat → Int32) × Int32) :=
  (if sn = 6 then
     (fX4_save_L11  1000 0 sv).bind fun v3 =>
     some (v3, sn - 1)
   else
     some (sv, sn) : Option ((Nat → Int32) × Int32)).bind fun v1 =>
  (fX4_save_L51 z v1 1000 0 v1.1).bind fun v5 =>
  some (v5, v1.2 + 1)

def fX4_manyIn_L4 (x1 : Int32) (z : Nat → Int32) : Nat → Int32 → Int32 → Option (Int32)
  | 0, _, _ => none
  | n + 1, x2_4, x3_4 =>
    if 8 ≤ x3_4 then
      some x2_4
    else
      (fX4_isIn x3_4 x1 z).bind fun r2 =>
      if r2 = 0 then
        fX4_manyIn_L4 x1 z n (x2_4 + 0) (x3_4 + 1)
      else
        fX4_manyIn_L4 x1 z n (x2_4 + 1) (x3_4 + 1)
def fX4_manyIn (x1 : Int32) (z : Nat → Int32) : Option (Int32) :=
  fX4_manyIn_L4 x1 z 1000 0 0

def fX4_connections (z : Nat → Int32) : Option (Int32) :=
  (fX4_manyIn 0 z).bind fun r1 =>
  some (8 - r1)

def fX4_lentTo_L4 (x1 : Int32) (z : Nat → Int32) : Nat → Int32 → Int32 → Option (Int32)
  | 0, _, _ => none
  | n + 1, x2_4, x3_4 =>
    if 8 ≤ x3_4 then
      some x2_4
    else
      (fX4_of x3_4 1 z).bind fun r2 =>
      if r2 = x1 then
        fX4_lentTo_L4 x1 z n (x2_4 + 1) (x3_4 + 1)
      else
        fX4_lentTo_L4 x1 z n (x2_4 + 0) (x3_4 + 1)
def fX4_lentTo (x1 : Int32) (z : Nat → Int32) : Option (Int32) :=
  fX4_lentTo_L4 x1 z 1000 0 0

def fX4_close (x1 : Int32) (x2 : Int32) (z : Nat → Int32) : Option ((Nat → Int32)) :=
  (fX4_put x1 0 0 z).bind fun r1 =>
  (fX4_put x1 1 (-1) r1).bind fun r2 =>
  (fX4_put x1 2 0 r2).bind fun r3 =>
  (fX4_put x1 3 0 r3).bind fun r4 =>
  (fX4_put x1 4 0 r4).bind fun r5 =>
  if x2 = (-1) then
    some (upd r5 (11 : Int32).toNatClampNeg ((r5 (11 : Int32).toNatClampNeg) + 1))
  else
    if pq_in x2 114 then
    if pq_in x2 114 then
    some (upd (upd r5 (11 : Int32).toNatClampNeg ((r5 (11 : Int32).toNatClampNeg) + 1)) x2.toNatClampNeg (((upd r5 (11 : Int32).toNatClampNeg ((r5 (11 : Int32).toNatClampNeg) + 1)) x2.toNatClampNeg) + 1))
    else none
    else none

def fX4_nextIdle_L4 (z : Nat → Int32) : Nat → Int32 → Int32 → Option (Int32)
  | 0, _, _ => none
  | n + 1, x1_4, x2_4 =>
    if 8 ≤ x2_4 then
      some x1_4
    else
      (fX4_isIn x2_4 1 z).bind fun r2 =>
      if r2 = 0 then
        fX4_nextIdle_L4 z n x1_4 (x2_4 + 1)
      else
        (if x1_4 = (-1) then
           some (1 : Int32)
         else
           if z (3 : Int32).toNatClampNeg = 0 then
             (fX4_of x2_4 4 z).bind fun r6 =>
             (fX4_of x1_4 4 z).bind fun r7 =>
             if r6 ≤ r7 then
               some (0 : Int32)
             else
               some (1 : Int32)
           else
             (fX4_of x2_4 4 z).bind fun r4 =>
             (fX4_of x1_4 4 z).bind fun r5 =>
             if r5 ≤ r4 then
               some (0 : Int32)
             else
               some (1 : Int32) : Option (Int32)).bind fun v3 =>
        if v3 = 0 then
          fX4_nextIdle_L4 z n x1_4 (x2_4 + 1)
        else
          fX4_nextIdle_L4 z n x2_4 (x2_4 + 1)
def fX4_nextIdle (z : Nat → Int32) : Option (Int32) :=
  fX4_nextIdle_L4 z 1000 (-1) 0

def fX4_openOne_L2 (z : Nat → Int32) : Nat → Int32 → Option (Int32)
  | 0, _ => none
  | n + 1, x1_2 =>
    (fX4_isIn x1_2 0 z).bind fun r3 =>
    if r3 = 0 then
      fX4_openOne_L2 z n (x1_2 + 1)
    else
      some x1_2
def fX4_openOne (z : Nat → Int32) : Option (Int32 × (Nat → Int32)) :=
  (fX4_openOne_L2 z 1000 0).bind fun v2 =>
  (fX4_put v2 0 1 z).bind fun r4 =>
  (fX4_put v2 4 (r4 (9 : Int32).toNatClampNeg) r4).bind fun r5 =>
  (fX4_of v2 5 r5).bind fun r6 =>
  (fX4_put v2 5 (r6 + 1) r5).bind fun r7 =>
  some (v2, upd r7 (10 : Int32).toNatClampNeg ((r7 (10 : Int32).toNatClampNeg) + 1))

def fX4_look_L21 (v2 : Int32) : Nat → Int32 → (Nat → Int32) → Option (Int32 × (Nat → Int32))
  | 0, _, _ => none
  | n + 1, x1_21, z_21 =>
    if x1_21 = (-1) then
      if x1_21 = (-1) then
        (fX4_connections z_21).bind fun r4 =>
        if z_21 (0 : Int32).toNatClampNeg ≤ r4 then
          some ((-1), z_21)
        else
          (fX4_openOne z_21).bind fun r5 =>
          some (r5.1, r5.2)
      else
        some (x1_21, z_21)
    else
      if v2 = 0 then
        if x1_21 = (-1) then
          (fX4_connections z_21).bind fun r6 =>
          if z_21 (0 : Int32).toNatClampNeg ≤ r6 then
            some ((-1), z_21)
          else
            (fX4_openOne z_21).bind fun r7 =>
            some (r7.1, r7.2)
        else
          some (x1_21, z_21)
      else
        (fX4_of x1_21 2 (upd z_21 (15 : Int32).toNatClampNeg ((z_21 (15 : Int32).toNatClampNeg) + 1))).bind fun r8 =>
        if r8 = 0 then
          some (x1_21, upd z_21 (15 : Int32).toNatClampNeg ((z_21 (15 : Int32).toNatClampNeg) + 1))
        else
          (fX4_close x1_21 12 (upd z_21 (15 : Int32).toNatClampNeg ((z_21 (15 : Int32).toNatClampNeg) + 1))).bind fun r9 =>
          (fX4_nextIdle r9).bind fun r10 =>
          fX4_look_L21 v2 n r10 r9
def fX4_look (z : Nat → Int32) : Option (Int32 × (Nat → Int32)) :=
  (fX4_nextIdle z).bind fun r1 =>
  (if z (4 : Int32).toNatClampNeg = 1 then
     some (1 : Int32)
   else
     some (0 : Int32) : Option (Int32)).bind fun v2 =>
  fX4_look_L21 v2 1000 r1 z

