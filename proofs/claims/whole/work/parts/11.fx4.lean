def fX4_thrown (th : Int32) : Option (Int32) :=
  some th

def fX4_in (x0 : Int32) (x1 : Int32) (x2 : Int32) : Option (Int32) :=
  if x0 < x1 then
    some 0
  else
    if x2 < x0 then
      some 0
    else
      some 1

def fX4_isPlace (x0 : Int32) : Option (Int32) :=
  (fX4_in x0 0 7).bind fun r1 =>
  if pq_bool r1 then
  some r1
  else none

def fX4_isOwner (x0 : Int32) : Option (Int32) :=
  (fX4_in x0 0 7).bind fun r1 =>
  if pq_bool r1 then
  some r1
  else none

def fX4_of (x1 : Int32) (x2 : Int32) (z : Nat → Int32) : Option (Int32) :=
  if pq_in ((26 + (6 * x1)) + x2) 114 then
  some (z ((26 + (6 * x1)) + x2).toNatClampNeg)
  else none

def fX4_put (x1 : Int32) (x2 : Int32) (x3 : Int32) (z : Nat → Int32) : Option ((Nat → Int32)) :=
  if pq_in ((26 + (6 * x1)) + x2) 114 then
  some (upd z ((26 + (6 * x1)) + x2).toNatClampNeg x3)
  else none

def fX4_its (x1 : Int32) (x2 : Int32) (z : Nat → Int32) : Option (Int32) :=
  if pq_in ((74 + (5 * x1)) + x2) 114 then
  some (z ((74 + (5 * x1)) + x2).toNatClampNeg)
  else none

def fX4_lay (x1 : Int32) (x2 : Int32) (x3 : Int32) (z : Nat → Int32) : Option ((Nat → Int32)) :=
  if pq_in ((74 + (5 * x1)) + x2) 114 then
  some (upd z ((74 + (5 * x1)) + x2).toNatClampNeg x3)
  else none

def fX4_isIn (x1 : Int32) (x2 : Int32) (z : Nat → Int32) : Option (Int32) :=
  (fX4_of x1 0 z).bind fun r1 =>
  if r1 = x2 then
    some 1
  else
    some 0

def fX4_isThere (x1 : Int32) (z : Nat → Int32) : Option (Int32) :=
  (fX4_its x1 0 z).bind fun r1 =>
  if r1 = 1 then
    some 1
  else
    some 0

def fX4_save_L11  : Nat → Int32 → (Nat → Int32) → Option ((Nat → Int32))
  | 0, _, _ => none
  | n + 1, x1_11, sv_11 =>
    if 570 ≤ x1_11 then
      some sv_11
    else
      if pq_in (x1_11 + 114) 684 then
      if pq_in x1_11 684 then
      fX4_save_L11  n (x1_11 + 1) (upd sv_11 x1_11.toNatClampNeg (sv_11 (x1_11 + 114).toNatClampNeg))
      else none
      else none
def fX4_save_L51 (z : Nat → Int32) (v1 : (Nat → Int32) × Int32) : Nat → Int32 → (Nat → Int32) → Option ((Nat → Int32))
  | 0, _, _ => none
  | n + 1, x1_51, sv_51 =>
    if 114 ≤ x1_51 then
      some sv_51
    else
      if pq_in x1_51 114 then
      if pq_in ((v1.2 * 114) + x1_51) 684 then
      fX4_save_L51 z v1 n (x1_51 + 1) (upd sv_51 ((v1.2 * 114) + x1_51).toNatClampNeg (z x1_51.toNatClampNeg))
      else none
      else none
def fX4_save (z : Nat → Int32) (sv : Nat → Int32) (sn : Int32) : Option ((Nat → Int32) × Int32) :=
  (if sn = 6 then
     (fX4_save_L11  1000 0 sv).bind fun v3 =>
     some (v3, sn - 1)
   else
     some (sv, sn) : Option ((Nat → Int32) × Int32)).bind fun v1 =>
  (fX4_save_L51 z v1 1000 0 v1.1).bind fun v5 =>
  some (v5, v1.2 + 1)

def fX4_undo_L37 (sv : Nat → Int32) (sn : Int32) (v1 : Int32) : Nat → Int32 → (Nat → Int32) → Option (Int32 × Int32 × (Nat → Int32) × Int32)
  | 0, _, _ => none
  | n + 1, x1_37, z_37 =>
    if 114 ≤ x1_37 then
      some (sn - 1, v1, z_37, sn - 1)
    else
      if pq_in (((sn - 1) * 114) + x1_37) 684 then
      if pq_in x1_37 114 then
      fX4_undo_L37 sv sn v1 n (x1_37 + 1) (upd z_37 x1_37.toNatClampNeg (sv (((sn - 1) * 114) + x1_37).toNatClampNeg))
      else none
      else none
def fX4_undo (th : Int32) (z : Nat → Int32) (sv : Nat → Int32) (sn : Int32) : Option (Int32 × Int32 × (Nat → Int32) × Int32) :=
  (if sn = 0 then
     some (1 : Int32)
   else
     some (0 : Int32) : Option (Int32)).bind fun v1 =>
  if v1 ≤ 0 then
    fX4_undo_L37 sv sn v1 1000 0 z
  else
    some (0, v1, z, sn)

def fX4_putAside_L2 (z : Nat → Int32) : Nat → Int32 → (Nat → Int32) → Option ((Nat → Int32))
  | 0, _, _ => none
  | n + 1, x1_2, sp_2 =>
    if 114 ≤ x1_2 then
      some sp_2
    else
      if pq_in x1_2 114 then
      if pq_in x1_2 114 then
      fX4_putAside_L2 z n (x1_2 + 1) (upd sp_2 x1_2.toNatClampNeg (z x1_2.toNatClampNeg))
      else none
      else none
def fX4_putAside (z : Nat → Int32) (sp : Nat → Int32) : Option ((Nat → Int32)) :=
  fX4_putAside_L2 z 1000 0 sp

def fX4_bringBack_L2 (sp : Nat → Int32) : Nat → Int32 → (Nat → Int32) → Option ((Nat → Int32))
  | 0, _, _ => none
  | n + 1, x1_2, z_2 =>
    if 114 ≤ x1_2 then
      some z_2
    else
      if pq_in x1_2 114 then
      if pq_in x1_2 114 then
      fX4_bringBack_L2 sp n (x1_2 + 1) (upd z_2 x1_2.toNatClampNeg (sp x1_2.toNatClampNeg))
      else none
      else none
def fX4_bringBack (z : Nat → Int32) (sp : Nat → Int32) : Option ((Nat → Int32)) :=
  fX4_bringBack_L2 sp 1000 0 z

def fX4_manyIn_L4 (x1 : Int32) (z : Nat → Int32) : Nat → Int32 → Int32 → Option (Int32)
  | 0, _, _ => none
  | n + 1, x2_4, x3_4 =>
    if 8 ≤ x3_4 then
      some x2_4
    else
      (fX4_isIn x3_4 x1 z).bind fun r2 =>
      if r2 = 0 then
        fX4_manyIn_L4 x1 z n (x2_4 + 0) (x3_4 + 1)
      else
        fX4_manyIn_L4 x1 z n (x2_4 + 1) (x3_4 + 1)
def fX4_manyIn (x1 : Int32) (z : Nat → Int32) : Option (Int32) :=
  fX4_manyIn_L4 x1 z 1000 0 0

def fX4_connections (z : Nat → Int32) : Option (Int32) :=
  (fX4_manyIn 0 z).bind fun r1 =>
  some (8 - r1)

def fX4_lentTo_L4 (x1 : Int32) (z : Nat → Int32) : Nat → Int32 → Int32 → Option (Int32)
  | 0, _, _ => none
  | n + 1, x2_4, x3_4 =>
    if 8 ≤ x3_4 then
      some x2_4
    else
      (fX4_of x3_4 1 z).bind fun r2 =>
      if r2 = x1 then
        fX4_lentTo_L4 x1 z n (x2_4 + 1) (x3_4 + 1)
      else
        fX4_lentTo_L4 x1 z n (x2_4 + 0) (x3_4 + 1)
def fX4_lentTo (x1 : Int32) (z : Nat → Int32) : Option (Int32) :=
  fX4_lentTo_L4 x1 z 1000 0 0

def fX4_mayHaveMore (x1 : Int32) (z : Nat → Int32) : Option (Int32) :=
  (fX4_lentTo x1 z).bind fun r1 =>
  if z (1 : Int32).toNatClampNeg ≤ r1 then
    some 0
  else
    some 1

def fX4_close (x1 : Int32) (x2 : Int32) (z : Nat → Int32) : Option ((Nat → Int32)) :=
  (fX4_put x1 0 0 z).bind fun r1 =>
  (fX4_put x1 1 (-1) r1).bind fun r2 =>
  (fX4_put x1 2 0 r2).bind fun r3 =>
  (fX4_put x1 3 0 r3).bind fun r4 =>
  (fX4_put x1 4 0 r4).bind fun r5 =>
  if x2 = (-1) then
    some (upd r5 (11 : Int32).toNatClampNeg ((r5 (11 : Int32).toNatClampNeg) + 1))
  else
    if pq_in x2 114 then
    if pq_in x2 114 then
    some (upd (upd r5 (11 : Int32).toNatClampNeg ((r5 (11 : Int32).toNatClampNeg) + 1)) x2.toNatClampNeg (((upd r5 (11 : Int32).toNatClampNeg ((r5 (11 : Int32).toNatClampNeg) + 1)) x2.toNatClampNeg) + 1))
    else none
    else none

def fX4_nextIdle_L4 (z : Nat → Int32) : Nat → Int32 → Int32 → Option (Int32)
  | 0, _, _ => none
  | n + 1, x1_4, x2_4 =>
    if 8 ≤ x2_4 then
      some x1_4
    else
      (fX4_isIn x2_4 1 z).bind fun r2 =>
      if r2 = 0 then
        fX4_nextIdle_L4 z n x1_4 (x2_4 + 1)
      else
        (if x1_4 = (-1) then
           some (1 : Int32)
         else
           if z (3 : Int32).toNatClampNeg = 0 then
             (fX4_of x2_4 4 z).bind fun r6 =>
             (fX4_of x1_4 4 z).bind fun r7 =>
             if r6 ≤ r7 then
               some (0 : Int32)
             else
               some (1 : Int32)
           else
             (fX4_of x2_4 4 z).bind fun r4 =>
             (fX4_of x1_4 4 z).bind fun r5 =>
             if r5 ≤ r4 then
               some (0 : Int32)
             else
               some (1 : Int32) : Option (Int32)).bind fun v3 =>
        if v3 = 0 then
          fX4_nextIdle_L4 z n x1_4 (x2_4 + 1)
        else
          fX4_nextIdle_L4 z n x2_4 (x2_4 + 1)
def fX4_nextIdle (z : Nat → Int32) : Option (Int32) :=
  fX4_nextIdle_L4 z 1000 (-1) 0

def fX4_openOne_L2 (z : Nat → Int32) : Nat → Int32 → Option (Int32)
  | 0, _ => none
  | n + 1, x1_2 =>
    (fX4_isIn x1_2 0 z).bind fun r3 =>
    if r3 = 0 then
      fX4_openOne_L2 z n (x1_2 + 1)
    else
      some x1_2
def fX4_openOne (z : Nat → Int32) : Option (Int32 × (Nat → Int32)) :=
  (fX4_openOne_L2 z 1000 0).bind fun v2 =>
  (fX4_put v2 0 1 z).bind fun r4 =>
  (fX4_put v2 4 (r4 (9 : Int32).toNatClampNeg) r4).bind fun r5 =>
  (fX4_of v2 5 r5).bind fun r6 =>
  (fX4_put v2 5 (r6 + 1) r5).bind fun r7 =>
  some (v2, upd r7 (10 : Int32).toNatClampNeg ((r7 (10 : Int32).toNatClampNeg) + 1))

def fX4_look_L21 (v2 : Int32) : Nat → Int32 → (Nat → Int32) → Option (Int32 × (Nat → Int32))
  | 0, _, _ => none
  | n + 1, x1_21, z_21 =>
    if x1_21 = (-1) then
      if x1_21 = (-1) then
        (fX4_connections z_21).bind fun r4 =>
        if z_21 (0 : Int32).toNatClampNeg ≤ r4 then
          some ((-1), z_21)
        else
          (fX4_openOne z_21).bind fun r5 =>
          some (r5.1, r5.2)
      else
        some (x1_21, z_21)
    else
      if v2 = 0 then
        if x1_21 = (-1) then
          (fX4_connections z_21).bind fun r6 =>
          if z_21 (0 : Int32).toNatClampNeg ≤ r6 then
            some ((-1), z_21)
          else
            (fX4_openOne z_21).bind fun r7 =>
            some (r7.1, r7.2)
        else
          some (x1_21, z_21)
      else
        (fX4_of x1_21 2 (upd z_21 (15 : Int32).toNatClampNeg ((z_21 (15 : Int32).toNatClampNeg) + 1))).bind fun r8 =>
        if r8 = 0 then
          some (x1_21, upd z_21 (15 : Int32).toNatClampNeg ((z_21 (15 : Int32).toNatClampNeg) + 1))
        else
          (fX4_close x1_21 12 (upd z_21 (15 : Int32).toNatClampNeg ((z_21 (15 : Int32).toNatClampNeg) + 1))).bind fun r9 =>
          (fX4_nextIdle r9).bind fun r10 =>
          fX4_look_L21 v2 n r10 r9
def fX4_look (z : Nat → Int32) : Option (Int32 × (Nat → Int32)) :=
  (fX4_nextIdle z).bind fun r1 =>
  (if z (4 : Int32).toNatClampNeg = 1 then
     some (1 : Int32)
   else
     some (0 : Int32) : Option (Int32)).bind fun v2 =>
  fX4_look_L21 v2 1000 r1 z

def fX4_lend (x1 : Int32) (x2 : Int32) (z : Nat → Int32) (gn : Nat → Int32) : Option ((Nat → Int32) × (Nat → Int32)) :=
  (fX4_put x1 0 2 z).bind fun r1 =>
  (fX4_put x1 1 x2 r1).bind fun r2 =>
  (fX4_of x1 3 r2).bind fun r3 =>
  (fX4_put x1 3 (r3 + 1) r2).bind fun r4 =>
  (fX4_put x1 4 (r4 (9 : Int32).toNatClampNeg) r4).bind fun r5 =>
  (fX4_its x2 2 (upd r5 (16 : Int32).toNatClampNeg ((r5 (16 : Int32).toNatClampNeg) + 1))).bind fun r6 =>
  (fX4_lay x2 2 (r6 + 1) (upd r5 (16 : Int32).toNatClampNeg ((r5 (16 : Int32).toNatClampNeg) + 1))).bind fun r7 =>
  if pq_in x2 8 then
  some (r7, upd gn x2.toNatClampNeg x1)
  else none

def fX4_placeInQueue_L2 (x1 : Int32) (z : Nat → Int32) : Nat → Int32 → Option (Int32)
  | 0, _ => none
  | n + 1, x2_2 =>
    if z (17 : Int32).toNatClampNeg ≤ x2_2 then
      some (-1)
    else
      if pq_in (18 + x2_2) 114 then
      if z (18 + x2_2).toNatClampNeg = x1 then
        some x2_2
      else
        fX4_placeInQueue_L2 x1 z n (x2_2 + 1)
      else none
def fX4_placeInQueue (x1 : Int32) (z : Nat → Int32) : Option (Int32) :=
  fX4_placeInQueue_L2 x1 z 1000 0

def fX4_waits (x1 : Int32) (z : Nat → Int32) : Option (Int32) :=
  (fX4_placeInQueue x1 z).bind fun r1 =>
  if r1 = (-1) then
    some 0
  else
    some 1

def fX4_waitedFor (x1 : Int32) (z : Nat → Int32) : Option (Int32) :=
  (fX4_its x1 1 z).bind fun r1 =>
  some ((z (9 : Int32).toNatClampNeg) - r1)

def fX4_leaveQueue_L17  : Nat → Int32 → (Nat → Int32) → Option ((Nat → Int32))
  | 0, _, _ => none
  | n + 1, x2_17, z_17 =>
    if z_17 (17 : Int32).toNatClampNeg ≤ x2_17 then
      some z_17
    else
      if pq_in ((18 + x2_17) + 1) 114 then
      if pq_in (18 + x2_17) 114 then
      fX4_leaveQueue_L17  n (x2_17 + 1) (upd z_17 (18 + x2_17).toNatClampNeg (z_17 ((18 + x2_17) + 1).toNatClampNeg))
      else none
      else none
def fX4_leaveQueue (x1 : Int32) (z : Nat → Int32) : Option ((Nat → Int32)) :=
  (fX4_placeInQueue x1 z).bind fun r1 =>
  (fX4_leaveQueue_L17  1000 r1 (upd z (17 : Int32).toNatClampNeg ((z (17 : Int32).toNatClampNeg) - 1))).bind fun v3 =>
  if pq_in (18 + (v3 (17 : Int32).toNatClampNeg)) 114 then
  some (upd v3 (18 + (v3 (17 : Int32).toNatClampNeg)).toNatClampNeg 0)
  else none

def fX4_firstToServe_L2 (z : Nat → Int32) : Nat → Int32 → Option (Int32)
  | 0, _ => none
  | n + 1, x1_2 =>
    if z (17 : Int32).toNatClampNeg ≤ x1_2 then
      some (-1)
    else
      if pq_in (18 + x1_2) 114 then
      (fX4_mayHaveMore (z (18 + x1_2).toNatClampNeg) z).bind fun r2 =>
      if r2 = 0 then
        fX4_firstToServe_L2 z n (x1_2 + 1)
      else
        if pq_in (18 + x1_2) 114 then
        some (z (18 + x1_2).toNatClampNeg)
        else none
      else none
def fX4_firstToServe (z : Nat → Int32) : Option (Int32) :=
  fX4_firstToServe_L2 z 1000 0

def fX4_serve_L19  : Nat → Int32 → Int32 → (Nat → Int32) → (Nat → Int32) → Option ((Nat → Int32) × (Nat → Int32))
  | 0, _, _, _, _ => none
  | n + 1, x1_19, x2_19, z_19, gn_19 =>
    if x2_19 = (-1) then
      some (z_19, gn_19)
    else
      (fX4_its x1_19 4 z_19).bind fun r5 =>
      (fX4_waitedFor x1_19 z_19).bind fun r6 =>
      (fX4_lay x1_19 4 (r5 + r6) z_19).bind fun r7 =>
      (fX4_leaveQueue x1_19 r7).bind fun r8 =>
      (fX4_lay x1_19 1 0 r8).bind fun r9 =>
      (fX4_lend x2_19 x1_19 r9 gn_19).bind fun r10 =>
      (fX4_firstToServe r10.1).bind fun r11 =>
      if r11 = (-1) then
        fX4_serve_L19  n r11 (-1) r10.1 r10.2
      else
        (fX4_look r10.1).bind fun r12 =>
        fX4_serve_L19  n r11 r12.1 r12.2 r10.2
def fX4_serve (z : Nat → Int32) (gn : Nat → Int32) : Option ((Nat → Int32) × (Nat → Int32)) :=
  (fX4_firstToServe z).bind fun r1 =>
  (if r1 = (-1) then
     some ((-1), z)
   else
     (fX4_look z).bind fun r3 =>
     some (r3.1, r3.2) : Option (Int32 × (Nat → Int32))).bind fun v2 =>
  fX4_serve_L19  1000 r1 v2.1 v2.2 gn

def fX4_askIt_L2  : Nat → Int32 → (Nat → Int32) → Option ((Nat → Int32))
  | 0, _, _ => none
  | n + 1, x2_2, gn_2 =>
    if 8 ≤ x2_2 then
      some gn_2
    else
      if pq_in x2_2 8 then
      fX4_askIt_L2  n (x2_2 + 1) (upd gn_2 x2_2.toNatClampNeg (-1))
      else none
def fX4_askIt (x1 : Int32) (z : Nat → Int32) (gn : Nat → Int32) : Option (Int32 × (Nat → Int32) × (Nat → Int32)) :=
  (fX4_askIt_L2  1000 0 gn).bind fun v2 =>
  (fX4_mayHaveMore x1 z).bind fun r3 =>
  (if r3 = 0 then
     some ((-1), z)
   else
     if z (17 : Int32).toNatClampNeg = 0 then
       (fX4_look z).bind fun r5 =>
       some (r5.1, r5.2)
     else
       some ((-1), z) : Option (Int32 × (Nat → Int32))).bind fun v4 =>
  (if v4.1 = (-1) then
     if pq_in (18 + (v4.2 (17 : Int32).toNatClampNeg)) 114 then
     (fX4_lay x1 1 ((upd (upd v4.2 (18 + (v4.2 (17 : Int32).toNatClampNeg)).toNatClampNeg x1) (17 : Int32).toNatClampNeg (((upd v4.2 (18 + (v4.2 (17 : Int32).toNatClampNeg)).toNatClampNeg x1) (17 : Int32).toNatClampNeg) + 1)) (9 : Int32).toNatClampNeg) (upd (upd v4.2 (18 + (v4.2 (17 : Int32).toNatClampNeg)).toNatClampNeg x1) (17 : Int32).toNatClampNeg (((upd v4.2 (18 + (v4.2 (17 : Int32).toNatClampNeg)).toNatClampNeg x1) (17 : Int32).toNatClampNeg) + 1))).bind fun r7 =>
     some (r7, v2)
     else none
   else
     (fX4_lend v4.1 x1 v4.2 v2).bind fun r8 =>
     some (r8.1, r8.2) : Option ((Nat → Int32) × (Nat → Int32))).bind fun v6 =>
  (fX4_serve v6.1 v6.2).bind fun r9 =>
  if pq_in x1 8 then
  some (r9.2 x1.toNatClampNeg, r9.1, r9.2)
  else none

def fX4_canAsk (x1 : Int32) (z : Nat → Int32) : Option (Int32) :=
  (fX4_isThere x1 z).bind fun r1 =>
  if r1 = 0 then
    some 0
  else
    (fX4_waits x1 z).bind fun r2 =>
    if r2 = 0 then
      some 1
    else
      some 0

def fX4_canGive (x1 : Int32) (z : Nat → Int32) : Option (Int32) :=
  (fX4_isIn x1 2 z).bind fun r1 =>
  if r1 = 0 then
    some 0
  else
    (fX4_of x1 1 z).bind fun r2 =>
    (fX4_isThere r2 z).bind fun r3 =>
    if r3 = 0 then
      some 0
    else
      some 1

def fX4_giveIt (x1 : Int32) (z : Nat → Int32) (gn : Nat → Int32) : Option (Int32 × (Nat → Int32) × (Nat → Int32)) :=
  (fX4_put x1 0 1 z).bind fun r1 =>
  (fX4_put x1 1 (-1) r1).bind fun r2 =>
  (fX4_put x1 4 (r2 (9 : Int32).toNatClampNeg) r2).bind fun r3 =>
  (fX4_serve r3 gn).bind fun r4 =>
  (fX4_of x1 1 r4.1).bind fun r5 =>
  some (r5, r4.1, r4.2)

def fX4_appearIt (x1 : Int32) (x2 : Int32) (z : Nat → Int32) (gn : Nat → Int32) : Option (Int32 × (Nat → Int32) × (Nat → Int32)) :=
  (if x2 = 0 then
     (fX4_waits x1 z).bind fun r2 =>
     if r2 = 0 then
       some z
     else
       (fX4_leaveQueue x1 z).bind fun r3 =>
       (fX4_lay x1 1 0 r3).bind fun r4 =>
       some r4
   else
     some z : Option ((Nat → Int32))).bind fun v1 =>
  (if x2 = 0 then
     some (0 : Int32)
   else
     some (1 : Int32) : Option (Int32)).bind fun v5 =>
  (fX4_lay x1 0 v5 v1).bind fun r6 =>
  (fX4_serve r6 gn).bind fun r7 =>
  (fX4_lentTo x1 r7.1).bind fun r8 =>
  some (r8, r7.1, r7.2)

def fX4_checkAll_L4  : Nat → Int32 → Int32 → (Nat → Int32) → Option (Int32 × (Nat → Int32))
  | 0, _, _, _ => none
  | n + 1, x1_4, x2_4, z_4 =>
    if 8 ≤ x2_4 then
      some (x1_4, z_4)
    else
      (fX4_isIn x2_4 1 z_4).bind fun r2 =>
      if r2 = 0 then
        fX4_checkAll_L4  n x1_4 (x2_4 + 1) z_4
      else
        (fX4_of x2_4 2 (upd z_4 (15 : Int32).toNatClampNeg ((z_4 (15 : Int32).toNatClampNeg) + 1))).bind fun r3 =>
        if r3 = 1 then
          (fX4_close x2_4 12 (upd z_4 (15 : Int32).toNatClampNeg ((z_4 (15 : Int32).toNatClampNeg) + 1))).bind fun r4 =>
          fX4_checkAll_L4  n (x1_4 + 1) (x2_4 + 1) r4
        else
          fX4_checkAll_L4  n x1_4 (x2_4 + 1) (upd z_4 (15 : Int32).toNatClampNeg ((z_4 (15 : Int32).toNatClampNeg) + 1))
def fX4_checkAll (z : Nat → Int32) : Option (Int32 × (Nat → Int32)) :=
  fX4_checkAll_L4  1000 0 0 z

def fX4_sickenIt (x1 : Int32) (z : Nat → Int32) (gn : Nat → Int32) : Option (Int32 × (Nat → Int32) × (Nat → Int32)) :=
  (fX4_of x1 2 z).bind fun r1 =>
  (fX4_put x1 2 1 z).bind fun r2 =>
  (fX4_serve r2 gn).bind fun r3 =>
  some (1 - r1, r3.1, r3.2)

def fX4_giveUpIt (x1 : Int32) (z : Nat → Int32) : Option ((Nat → Int32)) :=
  (fX4_leaveQueue x1 z).bind fun r1 =>
  (fX4_lay x1 1 0 r1).bind fun r2 =>
  (fX4_its x1 3 r2).bind fun r3 =>
  (fX4_lay x1 3 (r3 + 1) r2).bind fun r4 =>
  some r4

def fX4_goUnit_L13  : Nat → Int32 → (Nat → Int32) → Option ((Nat → Int32))
  | 0, _, _ => none
  | n + 1, x1_13, z_13 =>
    if 8 ≤ x1_13 then
      some z_13
    else
      (fX4_isIn x1_13 2 z_13).bind fun r3 =>
      if r3 = 0 then
        fX4_goUnit_L13  n (x1_13 + 1) z_13
      else
        (fX4_of x1_13 1 z_13).bind fun r4 =>
        (fX4_isThere r4 z_13).bind fun r5 =>
        if r5 = 0 then
          (fX4_of x1_13 4 z_13).bind fun r6 =>
          if (z_13 (9 : Int32).toNatClampNeg) - r6 < z_13 (5 : Int32).toNatClampNeg then
            fX4_goUnit_L13  n (x1_13 + 1) z_13
          else
            (fX4_close x1_13 14 z_13).bind fun r7 =>
            fX4_goUnit_L13  n (x1_13 + 1) r7
        else
          fX4_goUnit_L13  n (x1_13 + 1) z_13
def fX4_goUnit_L112  : Nat → Int32 → (Nat → Int32) → Option ((Nat → Int32))
  | 0, _, _ => none
  | n + 1, x1_112, z_112 =>
    if 8 ≤ x1_112 then
      some z_112
    else
      (fX4_isIn x1_112 1 z_112).bind fun r12 =>
      if r12 = 0 then
        fX4_goUnit_L112  n (x1_112 + 1) z_112
      else
        (fX4_of x1_112 4 z_112).bind fun r13 =>
        if (z_112 (9 : Int32).toNatClampNeg) - r13 < z_112 (7 : Int32).toNatClampNeg then
          fX4_goUnit_L112  n (x1_112 + 1) z_112
        else
          (fX4_connections z_112).bind fun r14 =>
          if r14 ≤ z_112 (2 : Int32).toNatClampNeg then
            fX4_goUnit_L112  n (x1_112 + 1) z_112
          else
            (fX4_close x1_112 13 z_112).bind fun r15 =>
            fX4_goUnit_L112  n (x1_112 + 1) r15
def fX4_goUnit_L189  : Nat → Int32 → Int32 → (Nat → Int32) → Option (Int32 × (Nat → Int32))
  | 0, _, _, _ => none
  | n + 1, x1_189, x2_189, z_189 =>
    if x2_189 < 0 then
      some (x1_189, z_189)
    else
      if pq_in (18 + x2_189) 114 then
      (fX4_waitedFor (z_189 (18 + x2_189).toNatClampNeg) z_189).bind fun r18 =>
      if r18 < z_189 (8 : Int32).toNatClampNeg then
        fX4_goUnit_L189  n x1_189 (x2_189 + (-1)) z_189
      else
        (fX4_giveUpIt (z_189 (18 + x2_189).toNatClampNeg) z_189).bind fun r19 =>
        fX4_goUnit_L189  n (x1_189 + 1) (x2_189 + (-1)) r19
      else none
def fX4_goUnit (z : Nat → Int32) (gn : Nat → Int32) : Option (Int32 × (Nat → Int32) × (Nat → Int32)) :=
  (fX4_goUnit_L13  1000 0 (upd z (9 : Int32).toNatClampNeg ((z (9 : Int32).toNatClampNeg) + 1))).bind fun v2 =>
  (if v2 (6 : Int32).toNatClampNeg ≤ 0 then
     some v2
   else
     if ¬ v2 (6 : Int32).toNatClampNeg = 0 then
     if (v2 (9 : Int32).toNatClampNeg) - (v2 (9 : Int32).toNatClampNeg) / (v2 (6 : Int32).toNatClampNeg) * (v2 (6 : Int32).toNatClampNeg) = 0 then
       (fX4_checkAll v2).bind fun r9 =>
       some r9.2
     else
       some v2
     else none : Option ((Nat → Int32))).bind fun v8 =>
  (fX4_goUnit_L112  1000 0 v8).bind fun v11 =>
  (fX4_goUnit_L189  1000 0 ((v11 (17 : Int32).toNatClampNeg) - 1) v11).bind fun v17 =>
  (fX4_serve v17.2 gn).bind fun r20 =>
  some (v17.1, r20.1, r20.2)

def fX4_go_L4 (x1 : Int32) : Nat → Int32 → Int32 → (Nat → Int32) → (Nat → Int32) → Option (Int32 × (Nat → Int32) × (Nat → Int32))
  | 0, _, _, _, _ => none
  | n + 1, x2_4, x3_4, z_4, gn_4 =>
    if x1 ≤ x3_4 then
      some (x2_4, z_4, gn_4)
    else
      (fX4_goUnit z_4 gn_4).bind fun r2 =>
      fX4_go_L4 x1 n (x2_4 + r2.1) (x3_4 + 1) r2.2.1 r2.2.2
def fX4_go (x1 : Int32) (z : Nat → Int32) (gn : Nat → Int32) : Option (Int32 × (Nat → Int32) × (Nat → Int32)) :=
  fX4_go_L4 x1 1000 0 0 z gn

def fX4_ask (x1 : Int32) (th : Int32) (z : Nat → Int32) (sv : Nat → Int32) (sn : Int32) (gn : Nat → Int32) : Option (Int32 × Int32 × (Nat → Int32) × (Nat → Int32) × Int32 × (Nat → Int32)) :=
  (fX4_isOwner x1).bind fun r1 =>
  (if r1 = 0 then
     some (1 : Int32)
   else
     (fX4_canAsk x1 z).bind fun r3 =>
     if r3 = 0 then
       some (2 : Int32)
     else
       some (0 : Int32) : Option (Int32)).bind fun v2 =>
  if v2 ≤ 0 then
    (fX4_save z sv sn).bind fun r4 =>
    (fX4_askIt x1 z gn).bind fun r5 =>
    some (r5.1, v2, r5.2.1, r4.1, r4.2, r5.2.2)
  else
    some (0, v2, z, sv, sn, gn)

def fX4_give (x1 : Int32) (th : Int32) (z : Nat → Int32) (sv : Nat → Int32) (sn : Int32) (gn : Nat → Int32) : Option (Int32 × Int32 × (Nat → Int32) × (Nat → Int32) × Int32 × (Nat → Int32)) :=
  (fX4_isPlace x1).bind fun r1 =>
  (if r1 = 0 then
     some (1 : Int32)
   else
     (fX4_canGive x1 z).bind fun r3 =>
     if r3 = 0 then
       some (2 : Int32)
     else
       some (0 : Int32) : Option (Int32)).bind fun v2 =>
  if v2 ≤ 0 then
    (fX4_save z sv sn).bind fun r4 =>
    (fX4_giveIt x1 z gn).bind fun r5 =>
    some (r5.1, v2, r5.2.1, r4.1, r4.2, r5.2.2)
  else
    some (0, v2, z, sv, sn, gn)

def fX4_giveUp (x1 : Int32) (th : Int32) (z : Nat → Int32) (sv : Nat → Int32) (sn : Int32) (gn : Nat → Int32) : Option (Int32 × Int32 × (Nat → Int32) × (Nat → Int32) × Int32 × (Nat → Int32)) :=
  (fX4_isOwner x1).bind fun r1 =>
  (if r1 = 0 then
     some (1 : Int32)
   else
     (fX4_waits x1 z).bind fun r3 =>
     if r3 = 0 then
       some (2 : Int32)
     else
       some (0 : Int32) : Option (Int32)).bind fun v2 =>
  if v2 ≤ 0 then
    (fX4_save z sv sn).bind fun r4 =>
    (fX4_waitedFor x1 z).bind fun r5 =>
    (fX4_giveUpIt x1 z).bind fun r6 =>
    (fX4_serve r6 gn).bind fun r7 =>
    some (r5, v2, r7.1, r4.1, r4.2, r7.2)
  else
    some (0, v2, z, sv, sn, gn)

def fX4_appear (x1 : Int32) (x2 : Int32) (th : Int32) (z : Nat → Int32) (sv : Nat → Int32) (sn : Int32) (gn : Nat → Int32) : Option (Int32 × Int32 × (Nat → Int32) × (Nat → Int32) × Int32 × (Nat → Int32)) :=
  (fX4_isOwner x1).bind fun r1 =>
  (if r1 = 0 then
     some (1 : Int32)
   else
     (fX4_isThere x1 z).bind fun r3 =>
     if r3 = x2 then
       some (2 : Int32)
     else
       some (0 : Int32) : Option (Int32)).bind fun v2 =>
  if v2 ≤ 0 then
    (fX4_save z sv sn).bind fun r4 =>
    (fX4_appearIt x1 x2 z gn).bind fun r5 =>
    some (r5.1, v2, r5.2.1, r4.1, r4.2, r5.2.2)
  else
    some (0, v2, z, sv, sn, gn)

def fX4_sicken (x1 : Int32) (th : Int32) (z : Nat → Int32) (sv : Nat → Int32) (sn : Int32) (gn : Nat → Int32) : Option (Int32 × Int32 × (Nat → Int32) × (Nat → Int32) × Int32 × (Nat → Int32)) :=
  (fX4_isPlace x1).bind fun r1 =>
  (if r1 = 0 then
     some (1 : Int32)
   else
     (fX4_isIn x1 0 z).bind fun r3 =>
     if r3 = 0 then
       some (0 : Int32)
     else
       some (2 : Int32) : Option (Int32)).bind fun v2 =>
  if v2 ≤ 0 then
    (fX4_save z sv sn).bind fun r4 =>
    (fX4_sickenIt x1 z gn).bind fun r5 =>
    some (r5.1, v2, r5.2.1, r4.1, r4.2, r5.2.2)
  else
    some (0, v2, z, sv, sn, gn)

def fX4_check (th : Int32) (z : Nat → Int32) (sv : Nat → Int32) (sn : Int32) (gn : Nat → Int32) : Option (Int32 × Int32 × (Nat → Int32) × (Nat → Int32) × Int32 × (Nat → Int32)) :=
  (fX4_save z sv sn).bind fun r1 =>
  (fX4_checkAll z).bind fun r2 =>
  (fX4_serve r2.2 gn).bind fun r3 =>
  some (r2.1, 0, r3.1, r1.1, r1.2, r3.2)

def fX4_drain_L13  : Nat → Int32 → Int32 → (Nat → Int32) → Option (Int32 × (Nat → Int32))
  | 0, _, _, _ => none
  | n + 1, x1_13, x2_13, z_13 =>
    if 8 ≤ x2_13 then
      some (x1_13, z_13)
    else
      (fX4_isIn x2_13 1 z_13).bind fun r4 =>
      if r4 = 0 then
        fX4_drain_L13  n x1_13 (x2_13 + 1) z_13
      else
        (fX4_close x2_13 (-1) z_13).bind fun r5 =>
        fX4_drain_L13  n (x1_13 + 1) (x2_13 + 1) r5
def fX4_drain (th : Int32) (z : Nat → Int32) (sv : Nat → Int32) (sn : Int32) (gn : Nat → Int32) : Option (Int32 × Int32 × (Nat → Int32) × (Nat → Int32) × Int32 × (Nat → Int32)) :=
  (fX4_save z sv sn).bind fun r1 =>
  (fX4_drain_L13  1000 0 0 z).bind fun v3 =>
  (fX4_serve v3.2 gn).bind fun r6 =>
  some (v3.1, 0, r6.1, r1.1, r1.2, r6.2)

def fX4_leastOf (x0 : Int32) : Option (Int32) :=
  (fX4_in x0 2 4).bind fun r1 =>
  if r1 = 0 then
    if x0 = 6 then
      some 0
    else
      some 1
  else
    some 0

def fX4_mostOf (x0 : Int32) : Option (Int32) :=
  if 2 < x0 then
    if 4 < x0 then
      some 99
    else
      some 1
  else
    some 8

def fX4_set (x1 : Int32) (x2 : Int32) (th : Int32) (z : Nat → Int32) (sv : Nat → Int32) (sn : Int32) (gn : Nat → Int32) : Option (Int32 × Int32 × (Nat → Int32) × (Nat → Int32) × Int32 × (Nat → Int32)) :=
  (fX4_in x1 0 8).bind fun r1 =>
  (if r1 = 0 then
     some (1 : Int32)
   else
     (fX4_leastOf x1).bind fun r3 =>
     (fX4_mostOf x1).bind fun r4 =>
     (fX4_in x2 r3 r4).bind fun r5 =>
     if r5 = 0 then
       some (2 : Int32)
     else
       some (0 : Int32) : Option (Int32)).bind fun v2 =>
  if v2 ≤ 0 then
    (fX4_save z sv sn).bind fun r6 =>
    if pq_in x1 114 then
    if pq_in x1 114 then
    (fX4_serve (upd z x1.toNatClampNeg x2) gn).bind fun r7 =>
    some (z x1.toNatClampNeg, v2, r7.1, r6.1, r6.2, r7.2)
    else none
    else none
  else
    some (0, v2, z, sv, sn, gn)

def fX4_pass (x1 : Int32) (th : Int32) (z : Nat → Int32) (sv : Nat → Int32) (sn : Int32) (gn : Nat → Int32) : Option (Int32 × Int32 × (Nat → Int32) × (Nat → Int32) × Int32 × (Nat → Int32)) :=
  (fX4_in x1 1 99).bind fun r1 =>
  (if r1 = 0 then
     some (1 : Int32)
   else
     if (z (9 : Int32).toNatClampNeg) + x1 ≤ 9999 then
       some (0 : Int32)
     else
       some (2 : Int32) : Option (Int32)).bind fun v2 =>
  if v2 ≤ 0 then
    (fX4_save z sv sn).bind fun r3 =>
    (fX4_go x1 z gn).bind fun r4 =>
    some (r4.1, v2, r4.2.1, r3.1, r3.2, r4.2.2)
  else
    some (0, v2, z, sv, sn, gn)

def fX4_append (x1 : Int32) (th : Int32) (bf : Nat → Int32) (ty : Int32) : Option (Int32 × Int32 × (Nat → Int32) × Int32) :=
  (fX4_in x1 33 126).bind fun r1 =>
  (if r1 = 0 then
     some (1 : Int32)
   else
     if ty = 60 then
       some (2 : Int32)
     else
       some (0 : Int32) : Option (Int32)).bind fun v2 =>
  if v2 ≤ 0 then
    if pq_in ty 60 then
    some (ty + 1, v2, upd bf ty.toNatClampNeg x1, ty + 1)
    else none
  else
    some (0, v2, bf, ty)

def fX4_clearBuffer (th : Int32) (ty : Int32) : Option (Int32 × Int32 × Int32) :=
  some (ty, 0, 0)

def fX4_stands (x1 : Int32) (bf : Nat → Int32) : Option (Int32) :=
  if pq_in x1 60 then
  if x1 - x1 / 2 * 2 = 0 then
    if bf x1.toNatClampNeg = 97 then
      some 1
    else
      if bf x1.toNatClampNeg = 103 then
        some 1
      else
        if bf x1.toNatClampNeg = 115 then
          some 1
        else
          if bf x1.toNatClampNeg = 118 then
            some 1
          else
            if bf x1.toNatClampNeg = 99 then
              some 1
            else
              if bf x1.toNatClampNeg = 43 then
                some 1
              else
                some 0
  else
    if pq_in (x1 - 1) 60 then
    if bf (x1 - 1).toNatClampNeg = 43 then
      (fX4_in (bf x1.toNatClampNeg) 49 57).bind fun r2 =>
      if pq_bool r2 then
      some r2
      else none
    else
      (fX4_in (bf x1.toNatClampNeg) 48 55).bind fun r1 =>
      if pq_bool r1 then
      some r1
      else none
    else none
  else none

def fX4_readBuffer_L2 (bf : Nat → Int32) (ty : Int32) : Nat → Int32 → Option (Int32)
  | 0, _ => none
  | n + 1, x1_2 =>
    if ty ≤ x1_2 then
      some ty
    else
      (fX4_stands x1_2 bf).bind fun r2 =>
      if r2 = 0 then
        some x1_2
      else
        fX4_readBuffer_L2 bf ty n (x1_2 + 1)
def fX4_readBuffer (bf : Nat → Int32) (ty : Int32) : Option (Int32) :=
  fX4_readBuffer_L2 bf ty 1000 0

def fX4_firstError (th : Int32) (bf : Nat → Int32) (ty : Int32) : Option (Int32 × Int32) :=
  (fX4_readBuffer bf ty).bind fun r1 =>
  some (r1, 0)

def fX4_does (x1 : Int32) (x2 : Int32) (z : Nat → Int32) (gn : Nat → Int32) : Option (Int32 × (Nat → Int32) × (Nat → Int32)) :=
  if x1 = 43 then
    if (z (9 : Int32).toNatClampNeg) + x2 ≤ 9999 then
      (fX4_go x2 z gn).bind fun r1 =>
      some (1, r1.2.1, r1.2.2)
    else
      some (0, z, gn)
  else
    if x1 = 97 then
      (fX4_canAsk x2 z).bind fun r2 =>
      if r2 = 0 then
        some (0, z, gn)
      else
        (fX4_askIt x2 z gn).bind fun r3 =>
        some (1, r3.2.1, r3.2.2)
    else
      if x1 = 103 then
        (fX4_canGive x2 z).bind fun r4 =>
        if r4 = 0 then
          some (0, z, gn)
        else
          (fX4_giveIt x2 z gn).bind fun r5 =>
          some (1, r5.2.1, r5.2.2)
      else
        if x1 = 115 then
          (fX4_isIn x2 0 z).bind fun r6 =>
          if r6 = 0 then
            (fX4_sickenIt x2 z gn).bind fun r7 =>
            some (1, r7.2.1, r7.2.2)
          else
            some (0, z, gn)
        else
          (fX4_isThere x2 z).bind fun r8 =>
          (if x1 = 99 then
             some (1 : Int32)
           else
             some (0 : Int32) : Option (Int32)).bind fun v9 =>
          if r8 = v9 then
            some (0, z, gn)
          else
            if x1 = 99 then
              (fX4_appearIt x2 1 z gn).bind fun r11 =>
              some (1, r11.2.1, r11.2.2)
            else
              (fX4_appearIt x2 0 z gn).bind fun r10 =>
              some (1, r10.2.1, r10.2.2)

def fX4_run_L51 (bf : Nat → Int32) (ty : Int32) : Nat → Int32 → (Nat → Int32) → (Nat → Int32) → Option (Int32 × (Nat → Int32) × (Nat → Int32))
  | 0, _, _, _ => none
  | n + 1, x1_51, z_51, gn_51 =>
    if ty ≤ 2 * x1_51 then
      some (x1_51, z_51, gn_51)
    else
      if pq_in (2 * x1_51) 60 then
      if pq_in ((2 * x1_51) + 1) 60 then
      (fX4_does (bf (2 * x1_51).toNatClampNeg) ((bf ((2 * x1_51) + 1).toNatClampNeg) - 48) z_51 gn_51).bind fun r6 =>
      if r6.1 = 0 then
        some (x1_51, r6.2.1, r6.2.2)
      else
        fX4_run_L51 bf ty n (x1_51 + 1) r6.2.1 r6.2.2
      else none
      else none
def fX4_run (th : Int32) (z : Nat → Int32) (sv : Nat → Int32) (sn : Int32) (bf : Nat → Int32) (ty : Int32) (gn : Nat → Int32) : Option (Int32 × Int32 × (Nat → Int32) × (Nat → Int32) × Int32 × Int32 × (Nat → Int32)) :=
  (fX4_readBuffer bf ty).bind fun r1 =>
  (if r1 = ty then
     if ty ≤ 0 then
       some (1 : Int32)
     else
       if ty - ty / 2 * 2 = 0 then
         some (0 : Int32)
       else
         some (1 : Int32)
   else
     some (1 : Int32) : Option (Int32)).bind fun v2 =>
  if v2 ≤ 0 then
    (fX4_save z sv sn).bind fun r3 =>
    (fX4_run_L51 bf ty 1000 0 z gn).bind fun v5 =>
    some (v5.1, v2, v5.2.1, r3.1, r3.2, 0, v5.2.2)
  else
    some (0, v2, z, sv, sn, ty, gn)

def fX4_toldPlace (x1 : Int32) (x2 : Int32) (z : Nat → Int32) : Option (Int32) :=
  if x2 = 4 then
    (fX4_isIn x1 0 z).bind fun r2 =>
    if r2 = 0 then
      (fX4_of x1 4 z).bind fun r4 =>
      some ((z (9 : Int32).toNatClampNeg) - r4)
    else
      (fX4_of x1 x2 z).bind fun r3 =>
      some r3
  else
    (fX4_of x1 x2 z).bind fun r1 =>
    some r1

def fX4_place (x1 : Int32) (x2 : Int32) (th : Int32) (z : Nat → Int32) : Option (Int32 × Int32) :=
  (fX4_isPlace x1).bind fun r1 =>
  (if r1 = 0 then
     some (1 : Int32)
   else
     (fX4_in x2 0 5).bind fun r3 =>
     if r3 = 0 then
       some (2 : Int32)
     else
       some (0 : Int32) : Option (Int32)).bind fun v2 =>
  if v2 ≤ 0 then
    (fX4_toldPlace x1 x2 z).bind fun r4 =>
    some (r4, v2)
  else
    some (0, v2)

def fX4_toldOwner (x1 : Int32) (x2 : Int32) (z : Nat → Int32) : Option (Int32) :=
  if x2 = 0 then
    (fX4_its x1 0 z).bind fun r1 =>
    some r1
  else
    if x2 = 1 then
      (fX4_lentTo x1 z).bind fun r2 =>
      some r2
    else
      if x2 = 2 then
        (fX4_placeInQueue x1 z).bind fun r3 =>
        some r3
      else
        if x2 = 3 then
          (fX4_waits x1 z).bind fun r4 =>
          if r4 = 0 then
            some 0
          else
            (fX4_waitedFor x1 z).bind fun r5 =>
            some r5
        else
          (fX4_its x1 (x2 - 2) z).bind fun r6 =>
          some r6

def fX4_owner (x1 : Int32) (x2 : Int32) (th : Int32) (z : Nat → Int32) : Option (Int32 × Int32) :=
  (fX4_isOwner x1).bind fun r1 =>
  (if r1 = 0 then
     some (1 : Int32)
   else
     (fX4_in x2 0 6).bind fun r3 =>
     if r3 = 0 then
       some (2 : Int32)
     else
       some (0 : Int32) : Option (Int32)).bind fun v2 =>
  if v2 ≤ 0 then
    (fX4_toldOwner x1 x2 z).bind fun r4 =>
    some (r4, v2)
  else
    some (0, v2)

def fX4_sick_L4 (z : Nat → Int32) : Nat → Int32 → Int32 → Option (Int32)
  | 0, _, _ => none
  | n + 1, x1_4, x2_4 =>
    if 8 ≤ x2_4 then
      some x1_4
    else
      (fX4_of x2_4 2 z).bind fun r2 =>
      fX4_sick_L4 z n (x1_4 + r2) (x2_4 + 1)
def fX4_sick (z : Nat → Int32) : Option (Int32) :=
  fX4_sick_L4 z 1000 0 0

def fX4_counted (x1 : Int32) (z : Nat → Int32) (sn : Int32) : Option (Int32) :=
  if x1 = 0 then
    some (z (9 : Int32).toNatClampNeg)
  else
    if x1 = 1 then
      (fX4_connections z).bind fun r1 =>
      some r1
    else
      if x1 = 2 then
        (fX4_manyIn 1 z).bind fun r2 =>
        some r2
      else
        if x1 = 3 then
          (fX4_manyIn 2 z).bind fun r3 =>
          some r3
        else
          if x1 = 4 then
            (fX4_sick z).bind fun r4 =>
            some r4
          else
            if x1 = 5 then
              some (z (17 : Int32).toNatClampNeg)
            else
              if x1 = 6 then
                if pq_in ((10 + x1) - 6) 114 then
                some (z ((10 + x1) - 6).toNatClampNeg)
                else none
              else
                if x1 = 7 then
                  if pq_in ((10 + x1) - 6) 114 then
                  some (z ((10 + x1) - 6).toNatClampNeg)
                  else none
                else
                  if x1 = 8 then
                    if pq_in ((10 + x1) - 6) 114 then
                    some (z ((10 + x1) - 6).toNatClampNeg)
                    else none
                  else
                    if x1 = 9 then
                      if pq_in ((10 + x1) - 6) 114 then
                      some (z ((10 + x1) - 6).toNatClampNeg)
                      else none
                    else
                      if x1 = 10 then
                        if pq_in ((10 + x1) - 6) 114 then
                        some (z ((10 + x1) - 6).toNatClampNeg)
                        else none
                      else
                        if x1 = 11 then
                          if pq_in ((10 + x1) - 6) 114 then
                          some (z ((10 + x1) - 6).toNatClampNeg)
                          else none
                        else
                          if x1 = 12 then
                            if pq_in ((10 + x1) - 6) 114 then
                            some (z ((10 + x1) - 6).toNatClampNeg)
                            else none
                          else
                            if x1 = 13 then
                              some sn
                            else
                              if pq_in ((10 + x1) - 6) 114 then
                              some (z ((10 + x1) - 6).toNatClampNeg)
                              else none

def fX4_count (x1 : Int32) (th : Int32) (z : Nat → Int32) (sn : Int32) : Option (Int32 × Int32) :=
  (fX4_in x1 0 13).bind fun r1 =>
  (if r1 = 0 then
     some (1 : Int32)
   else
     some (0 : Int32) : Option (Int32)).bind fun v2 =>
  if v2 ≤ 0 then
    (fX4_counted x1 z sn).bind fun r3 =>
    some (r3, v2)
  else
    some (0, v2)

def fX4_setting (x1 : Int32) (th : Int32) (z : Nat → Int32) : Option (Int32 × Int32) :=
  (fX4_in x1 0 8).bind fun r1 =>
  (if r1 = 0 then
     some (1 : Int32)
   else
     some (0 : Int32) : Option (Int32)).bind fun v2 =>
  if v2 ≤ 0 then
    if pq_in x1 114 then
    some (z x1.toNatClampNeg, v2)
    else none
  else
    some (0, v2)

def fX4_wouldGet (x1 : Int32) (x2 : Int32) (z : Nat → Int32) (sp : Nat → Int32) (gn : Nat → Int32) : Option (Int32 × (Nat → Int32) × (Nat → Int32) × (Nat → Int32)) :=
  (fX4_canAsk x1 z).bind fun r1 =>
  if r1 = 0 then
    if x2 = 0 then
      some ((-1), z, sp, gn)
    else
      some (0, z, sp, gn)
  else
    (fX4_putAside z sp).bind fun r2 =>
    (fX4_askIt x1 z gn).bind fun r3 =>
    if x2 = 1 then
      (if r3.1 = (-1) then
         some (0 : Int32)
       else
         (fX4_of r3.1 5 r3.2.1).bind fun r7 =>
         if pq_in ((26 + (6 * r3.1)) + 5) 114 then
         if r7 ≤ r2 ((26 + (6 * r3.1)) + 5).toNatClampNeg then
           some (0 : Int32)
         else
           some (1 : Int32)
         else none : Option (Int32)).bind fun v6 =>
      (fX4_bringBack r3.2.1 r2).bind fun r8 =>
      some (v6, r8, r2, r3.2.2)
    else
      if x2 = 2 then
        (fX4_bringBack r3.2.1 r2).bind fun r5 =>
        some ((r3.2.1 (11 : Int32).toNatClampNeg) - (z (11 : Int32).toNatClampNeg), r5, r2, r3.2.2)
      else
        (fX4_bringBack r3.2.1 r2).bind fun r4 =>
        some (r3.1, r4, r2, r3.2.2)

def fX4_ifAsked (x1 : Int32) (x2 : Int32) (th : Int32) (z : Nat → Int32) (sp : Nat → Int32) (gn : Nat → Int32) : Option (Int32 × Int32 × (Nat → Int32) × (Nat → Int32) × (Nat → Int32)) :=
  (fX4_isOwner x1).bind fun r1 =>
  (if r1 = 0 then
     some (1 : Int32)
   else
     (fX4_in x2 0 2).bind fun r3 =>
     if r3 = 0 then
       some (2 : Int32)
     else
       some (0 : Int32) : Option (Int32)).bind fun v2 =>
  if v2 ≤ 0 then
    (fX4_wouldGet x1 x2 z sp gn).bind fun r4 =>
    some (r4.1, v2, r4.2.1, r4.2.2.1, r4.2.2.2)
  else
    some (0, v2, z, sp, gn)

def fX4_wouldBe (x1 : Int32) (x2 : Int32) (z : Nat → Int32) (sp : Nat → Int32) (gn : Nat → Int32) : Option (Int32 × (Nat → Int32) × (Nat → Int32) × (Nat → Int32)) :=
  (fX4_putAside z sp).bind fun r1 =>
  (fX4_go x1 z gn).bind fun r2 =>
  if x2 = 0 then
    (fX4_bringBack r2.2.1 r1).bind fun r7 =>
    some (r2.1, r7, r1, r2.2.2)
  else
    if x2 = 1 then
      (fX4_bringBack r2.2.1 r1).bind fun r6 =>
      some ((r2.2.1 (11 : Int32).toNatClampNeg) - (z (11 : Int32).toNatClampNeg), r6, r1, r2.2.2)
    else
      if x2 = 2 then
        (fX4_connections r2.2.1).bind fun r4 =>
        (fX4_bringBack r2.2.1 r1).bind fun r5 =>
        some (r4, r5, r1, r2.2.2)
      else
        (fX4_bringBack r2.2.1 r1).bind fun r3 =>
        some (r2.2.1 (17 : Int32).toNatClampNeg, r3, r1, r2.2.2)

def fX4_ifPassed (x1 : Int32) (x2 : Int32) (th : Int32) (z : Nat → Int32) (sp : Nat → Int32) (gn : Nat → Int32) : Option (Int32 × Int32 × (Nat → Int32) × (Nat → Int32) × (Nat → Int32)) :=
  (fX4_in x1 0 200).bind fun r1 =>
  (if r1 = 0 then
     some (1 : Int32)
   else
     (fX4_in x2 0 3).bind fun r3 =>
     if r3 = 0 then
       some (1 : Int32)
     else
       some (0 : Int32) : Option (Int32)).bind fun v2 =>
  if v2 ≤ 0 then
    (fX4_wouldBe x1 x2 z sp gn).bind fun r4 =>
    some (r4.1, v2, r4.2.1, r4.2.2.1, r4.2.2.2)
  else
    some (0, v2, z, sp, gn)

def fX4_wouldWait_L23 (x1 : Int32) : Nat → Int32 → (Nat → Int32) → (Nat → Int32) → Option (Int32 × (Nat → Int32) × (Nat → Int32))
  | 0, _, _, _ => none
  | n + 1, x3_23, z_23, gn_23 =>
    (fX4_waits x1 z_23).bind fun r6 =>
    if r6 = 0 then
      some (x3_23, z_23, gn_23)
    else
      (fX4_goUnit z_23 gn_23).bind fun r7 =>
      fX4_wouldWait_L23 x1 n (x3_23 + 1) r7.2.1 r7.2.2
def fX4_wouldWait (x1 : Int32) (z : Nat → Int32) (sp : Nat → Int32) (gn : Nat → Int32) : Option (Int32 × (Nat → Int32) × (Nat → Int32) × (Nat → Int32)) :=
  (fX4_waits x1 z).bind fun r1 =>
  if r1 = 0 then
    some ((-1), z, sp, gn)
  else
    (fX4_putAside z sp).bind fun r2 =>
    (fX4_its x1 2 z).bind fun r3 =>
    (fX4_wouldWait_L23 x1 1000 0 z gn).bind fun v5 =>
    (fX4_its x1 2 v5.2.1).bind fun r8 =>
    if r8 ≤ r3 then
      (fX4_bringBack v5.2.1 r2).bind fun r9 =>
      some ((-1), r9, r2, v5.2.2)
    else
      (fX4_bringBack v5.2.1 r2).bind fun r10 =>
      some (v5.1, r10, r2, v5.2.2)

def fX4_waitsFor (x1 : Int32) (th : Int32) (z : Nat → Int32) (sp : Nat → Int32) (gn : Nat → Int32) : Option (Int32 × Int32 × (Nat → Int32) × (Nat → Int32) × (Nat → Int32)) :=
  (fX4_isOwner x1).bind fun r1 =>
  (if r1 = 0 then
     some (1 : Int32)
   else
     some (0 : Int32) : Option (Int32)).bind fun v2 =>
  if v2 ≤ 0 then
    (fX4_wouldWait x1 z sp gn).bind fun r3 =>
    some (r3.1, v2, r3.2.1, r3.2.2.1, r3.2.2.2)
  else
    some (0, v2, z, sp, gn)

def fX4_blockerNow_L6 (z : Nat → Int32) : Nat → Int32 → Int32 → Int32 → Option (Int32)
  | 0, _, _, _ => none
  | n + 1, x1_6, x2_6, x3_6 =>
    if 8 ≤ x3_6 then
      some x1_6
    else
      if z (17 : Int32).toNatClampNeg ≤ 0 then
        some x1_6
      else
        (fX4_lentTo x3_6 z).bind fun r2 =>
        (if r2 ≤ x2_6 then
           some x1_6
         else
           some x3_6 : Option (Int32)).bind fun v3 =>
        if r2 ≤ x2_6 then
          fX4_blockerNow_L6 z n v3 x2_6 (x3_6 + 1)
        else
          fX4_blockerNow_L6 z n v3 r2 (x3_6 + 1)
def fX4_blockerNow (z : Nat → Int32) : Option (Int32) :=
  fX4_blockerNow_L6 z 1000 (-1) 0 0

def fX4_blocker (th : Int32) (z : Nat → Int32) : Option (Int32 × Int32) :=
  (fX4_blockerNow z).bind fun r1 =>
  some (r1, 0)

def fX4_evenness_L6 (z : Nat → Int32) : Nat → Int32 → Int32 → Int32 → Option (Int32 × Int32)
  | 0, _, _, _ => none
  | n + 1, x1_6, x2_6, x3_6 =>
    if 8 ≤ x3_6 then
      some (x1_6, x2_6)
    else
      (fX4_its x3_6 2 z).bind fun r3 =>
      (if r3 ≤ 0 then
         some x1_6
       else
         if x1_6 = 0 then
           some r3
         else
           if x1_6 ≤ r3 then
             some x1_6
           else
             some r3 : Option (Int32)).bind fun v4 =>
      if r3 ≤ x2_6 then
        fX4_evenness_L6 z n v4 x2_6 (x3_6 + 1)
      else
        fX4_evenness_L6 z n v4 r3 (x3_6 + 1)
def fX4_evenness (z : Nat → Int32) : Option (UInt64) :=
  (fX4_evenness_L6 z 1000 0 0 0).bind fun v2 =>
  if v2.2 = 0 then
    some FP.dconst1
  else
    if pq_nn (FP.ddiv (FP.i2d v2.1) (FP.i2d v2.2)) then
    some (FP.ddiv (FP.i2d v2.1) (FP.i2d v2.2))
    else none

def fX4_fairness (th : Int32) (z : Nat → Int32) : Option (UInt64 × Int32) :=
  (fX4_evenness z).bind fun r1 =>
  some (r1, 0)

def fX4_bitsOf_L15  : Nat → UInt64 → Int64 → Option (UInt64 × Int64)
  | 0, _, _ => none
  | n + 1, x2_15, x4_15 =>
    if Op.cmpValue (FP.dcmp x2_15 4611686018427387904) .l < 0 then
      some (x2_15, x4_15)
    else
      if pq_nn (FP.ddiv x2_15 4611686018427387904) then
      fX4_bitsOf_L15  n (FP.ddiv x2_15 4611686018427387904) (x4_15 + 1)
      else none
def fX4_bitsOf_L38  : Nat → UInt64 → Int64 → Option (UInt64 × Int64)
  | 0, _, _ => none
  | n + 1, x2_38, x4_38 =>
    if 0 ≤ Op.cmpValue (FP.dcmp x2_38 FP.dconst1) .g then
      some (x2_38, x4_38)
    else
      if pq_nn (FP.dmul x2_38 4611686018427387904) then
      fX4_bitsOf_L38  n (FP.dmul x2_38 4611686018427387904) (x4_38 - 1)
      else none
def fX4_bitsOf (x0 : UInt64) : Option (Int64) :=
  if Op.cmpValue (FP.dcmp x0 FP.dconst0) .l = 0 then
    some 0
  else
    (fX4_bitsOf_L15  1000 x0 1023).bind fun v2 =>
    (fX4_bitsOf_L38  1000 v2.1 v2.2).bind fun v4 =>
    if pq_nn (FP.dmul v4.1 4841369599423283200) then
    some (((v4.2 <<< ((52 : Int32).toInt64 &&& 63)) + (FP.d2l (FP.dmul v4.1 4841369599423283200))) - 4503599627370496)
    else none

def fX4_mix (x1 : Int64) (hs : Int64) : Option (Int64) :=
  some ((31 * hs) + x1)

def fX4_mixOwner_L2 (x1 : Int32) (z : Nat → Int32) : Nat → Int32 → Int64 → Option (Int64)
  | 0, _, _ => none
  | n + 1, x2_2, hs_2 =>
    if 6 < x2_2 then
      some hs_2
    else
      (fX4_toldOwner x1 x2_2 z).bind fun r3 =>
      (fX4_mix r3.toInt64 hs_2).bind fun r4 =>
      fX4_mixOwner_L2 x1 z n (x2_2 + 1) r4
def fX4_mixOwner_L27 (x1 : Int32) : Nat → Int32 → (Nat → Int32) → (Nat → Int32) → (Nat → Int32) → Int64 → Option ((Nat → Int32) × (Nat → Int32) × (Nat → Int32) × Int64)
  | 0, _, _, _, _, _ => none
  | n + 1, x2_27, z_27, sp_27, gn_27, hs_27 =>
    if 2 < x2_27 then
      some (z_27, sp_27, gn_27, hs_27)
    else
      (fX4_wouldGet x1 x2_27 z_27 sp_27 gn_27).bind fun r7 =>
      (fX4_mix r7.1.toInt64 hs_27).bind fun r8 =>
      fX4_mixOwner_L27 x1 n (x2_27 + 1) r7.2.1 r7.2.2.1 r7.2.2.2 r8
def fX4_mixOwner (x1 : Int32) (z : Nat → Int32) (sp : Nat → Int32) (gn : Nat → Int32) (hs : Int64) : Option ((Nat → Int32) × (Nat → Int32) × (Nat → Int32) × Int64) :=
  (fX4_mixOwner_L2 x1 z 1000 0 hs).bind fun v2 =>
  (fX4_mixOwner_L27 x1 1000 0 z sp gn v2).bind fun v6 =>
  (fX4_wouldWait x1 v6.1 v6.2.1 v6.2.2.1).bind fun r9 =>
  (fX4_mix r9.1.toInt64 v6.2.2.2).bind fun r10 =>
  some (r9.2.1, r9.2.2.1, r9.2.2.2, r10)

def fX4_digest_L14 (z : Nat → Int32) (sn : Int32) : Nat → Int32 → Int64 → Option (Int64)
  | 0, _, _ => none
  | n + 1, x1_14, hs_14 =>
    if 13 < x1_14 then
      some hs_14
    else
      (fX4_counted x1_14 z sn).bind fun r3 =>
      (fX4_mix r3.toInt64 hs_14).bind fun r4 =>
      fX4_digest_L14 z sn n (x1_14 + 1) r4
def fX4_digest_L38 (z : Nat → Int32) : Nat → Int32 → Int64 → Option (Int64)
  | 0, _, _ => none
  | n + 1, x1_38, hs_38 =>
    if 9 ≤ x1_38 then
      some hs_38
    else
      if pq_in x1_38 114 then
      (fX4_mix ((z x1_38.toNatClampNeg).toInt64) hs_38).bind fun r7 =>
      fX4_digest_L38 z n (x1_38 + 1) r7
      else none
def fX4_digest_L71 (z : Nat → Int32) (x1_63 : Int32) : Nat → Int32 → Int64 → Option (Int64)
  | 0, _, _ => none
  | n + 1, x2_71, hs_71 =>
    if 5 < x2_71 then
      some hs_71
    else
      (fX4_toldPlace x1_63 x2_71 z).bind fun r12 =>
      (fX4_mix r12.toInt64 hs_71).bind fun r13 =>
      fX4_digest_L71 z x1_63 n (x2_71 + 1) r13
def fX4_digest_L63 (z : Nat → Int32) : Nat → Int32 → Int64 → Option (Int64)
  | 0, _, _ => none
  | n + 1, x1_63, hs_63 =>
    if 8 ≤ x1_63 then
      some hs_63
    else
      (fX4_digest_L71 z x1_63 1000 0 hs_63).bind fun v11 =>
      fX4_digest_L63 z n (x1_63 + 1) v11
def fX4_digest_L101  : Nat → Int32 → (Nat → Int32) → (Nat → Int32) → (Nat → Int32) → Int64 → Option ((Nat → Int32) × (Nat → Int32) × (Nat → Int32) × Int64)
  | 0, _, _, _, _, _ => none
  | n + 1, x1_101, z_101, sp_101, gn_101, hs_101 =>
    if 8 ≤ x1_101 then
      some (z_101, sp_101, gn_101, hs_101)
    else
      (fX4_mixOwner x1_101 z_101 sp_101 gn_101 hs_101).bind fun r16 =>
      fX4_digest_L101  n (x1_101 + 1) r16.1 r16.2.1 r16.2.2.1 r16.2.2.2
def fX4_digest_L120  : Nat → Int32 → (Nat → Int32) → (Nat → Int32) → (Nat → Int32) → Int64 → Option ((Nat → Int32) × (Nat → Int32) × (Nat → Int32) × Int64)
  | 0, _, _, _, _, _ => none
  | n + 1, x1_120, z_120, sp_120, gn_120, hs_120 =>
    if 3 < x1_120 then
      some (z_120, sp_120, gn_120, hs_120)
    else
      (fX4_wouldBe 12 x1_120 z_120 sp_120 gn_120).bind fun r19 =>
      (fX4_mix r19.1.toInt64 hs_120).bind fun r20 =>
      fX4_digest_L120  n (x1_120 + 1) r19.2.1 r19.2.2.1 r19.2.2.2 r20
def fX4_digest_L174 (bf : Nat → Int32) (ty : Int32) (v18 : (Nat → Int32) × (Nat → Int32) × (Nat → Int32) × Int64) : Nat → Int32 → Int64 → Option (Int64 × Int32 × (Nat → Int32) × (Nat → Int32) × (Nat → Int32) × Int64)
  | 0, _, _ => none
  | n + 1, x1_174, hs_174 =>
    if ty ≤ x1_174 then
      some (hs_174, 0, v18.1, v18.2.1, v18.2.2.1, hs_174)
    else
      if pq_in x1_174 60 then
      (fX4_mix ((bf x1_174.toNatClampNeg).toInt64) hs_174).bind fun r28 =>
      fX4_digest_L174 bf ty v18 n (x1_174 + 1) r28
      else none
def fX4_digest (th : Int32) (z : Nat → Int32) (sn : Int32) (sp : Nat → Int32) (bf : Nat → Int32) (ty : Int32) (gn : Nat → Int32) (hs : Int64) : Option (Int64 × Int32 × (Nat → Int32) × (Nat → Int32) × (Nat → Int32) × Int64) :=
  (fX4_digest_L14 z sn 1000 0 2753).bind fun v2 =>
  (fX4_digest_L38 z 1000 0 v2).bind fun v6 =>
  (fX4_digest_L63 z 1000 0 v6).bind fun v9 =>
  (fX4_digest_L101  1000 0 z sp gn v9).bind fun v15 =>
  (fX4_digest_L120  1000 0 v15.1 v15.2.1 v15.2.2.1 v15.2.2.2).bind fun v18 =>
  (fX4_blockerNow v18.1).bind fun r21 =>
  (fX4_mix r21.toInt64 v18.2.2.2).bind fun r22 =>
  (fX4_evenness v18.1).bind fun r23 =>
  (fX4_bitsOf r23).bind fun r24 =>
  (fX4_mix r24 r22).bind fun r25 =>
  (fX4_mix ty.toInt64 r25).bind fun r26 =>
  fX4_digest_L174 bf ty v18 1000 0 r26

