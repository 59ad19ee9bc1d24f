/-! ===== the law's methods: what they answer (none where it would be false) ===== -/
def fL_low (x0 : Int32) (x1 : Int32) : Option (Int32) :=
  if ¬ x1 = 0 then
  some ((x0 &&& 2147483647) - (x0 &&& 2147483647) / x1 * x1)
  else none

def fL_addUp_L15 (P : Nat → Nat → Int32) (hz : Int32) : Nat → Int32 → Int32 → Int32 → Int32 → Int32 → Int32 → Option (Int32 × Int32 × Int32 × Int32 × Int32)
  | 0, _, _, _, _, _, _ => none
  | n + 1, x1_15, x2_15, x3_15, x4_15, x5_15, x6_15 =>
    if 8 ≤ x6_15 then
      some (x1_15, x2_15, x3_15, x4_15, x5_15)
    else
      (fX3_place x6_15 0 P).bind fun r3 =>
      Sum.elim (fun e => none) (fun a4 =>
      (fX3_place x6_15 1 P).bind fun r5 =>
      Sum.elim (fun e => none) (fun a6 =>
      if ¬ (a4 < 0) then
      if ¬ (2 < a4) then
      (if a4 = 2 then
         some (1 : Int32)
       else
         some (0 : Int32) : Option (Int32)).bind fun v7 =>
      (if a6 < 0 then
         some (0 : Int32)
       else
         some (1 : Int32) : Option (Int32)).bind fun v8 =>
      if v7 = v8 then
      (if a4 = 0 then
         (fX3_place x6_15 2 P).bind fun r10 =>
         Sum.elim (fun e => none) (fun a11 =>
         if a11 = 0 then
         (fX3_place x6_15 3 P).bind fun r12 =>
         Sum.elim (fun e => none) (fun a13 =>
         if a13 = 0 then
         (fX3_place x6_15 4 P).bind fun r14 =>
         Sum.elim (fun e => none) (fun a15 =>
         if a15 = 0 then
         some ()
         else none) r14
         else none) r12
         else none) r10
       else
         some () : Option (Unit)).bind fun v9 =>
      (fX3_place x6_15 4 P).bind fun r16 =>
      Sum.elim (fun e => none) (fun a17 =>
      if ¬ (a17 < 0) then
      (fX3_place x6_15 4 P).bind fun r18 =>
      Sum.elim (fun e => none) (fun a19 =>
      (fX3_count 0 P hz).bind fun r20 =>
      Sum.elim (fun e => none) (fun a21 =>
      if a19 ≤ a21 then
      (if a4 = 1 then
         some (1 : Int32)
       else
         some (0 : Int32) : Option (Int32)).bind fun v22 =>
      (if a4 = 2 then
         some (1 : Int32)
       else
         some (0 : Int32) : Option (Int32)).bind fun v23 =>
      (fX3_place x6_15 2 P).bind fun r24 =>
      Sum.elim (fun e => none) (fun a25 =>
      (fX3_place x6_15 5 P).bind fun r26 =>
      Sum.elim (fun e => none) (fun a27 =>
      (fX3_place x6_15 3 P).bind fun r28 =>
      Sum.elim (fun e => none) (fun a29 =>
      fL_addUp_L15 P hz n (x1_15 + v22) (x2_15 + v23) (x3_15 + a25) (x4_15 + a27) (x5_15 + a29) (x6_15 + 1)) r28) r26) r24
      else none) r20) r18
      else none) r16
      else none
      else none
      else none) r5) r3
def fL_addUp_L291 (P : Nat → Nat → Int32) (x14_251 : Int32) : Nat → Int32 → Int32 → Option (Int32)
  | 0, _, _ => none
  | n + 1, x18_291, x19_291 =>
    if 8 ≤ x19_291 then
      some x18_291
    else
      (fX3_place x19_291 1 P).bind fun r43 =>
      Sum.elim (fun e => none) (fun a44 =>
      if a44 = x14_251 then
        fL_addUp_L291 P x14_251 n (x18_291 + 1) (x19_291 + 1)
      else
        fL_addUp_L291 P x14_251 n (x18_291 + 0) (x19_291 + 1)) r43
def fL_addUp_L251 (P : Nat → Nat → Int32) (hz : Int32) (v30 : Int32) : Nat → Int32 → Int32 → Int32 → Int32 → Int32 → Int32 → Int32 → Int32 → Option (Int32 × Int32 × Int32 × Int32 × Int32 × Int32 × Int32)
  | 0, _, _, _, _, _, _, _, _ => none
  | n + 1, x6_251, x7_251, x8_251, x9_251, x10_251, x11_251, x13_251, x14_251 =>
    if 8 ≤ x14_251 then
      some (x6_251, x7_251, x8_251, x9_251, x10_251, x11_251, x13_251)
    else
      (fX3_owner x14_251 1 P).bind fun r35 =>
      Sum.elim (fun e => none) (fun a36 =>
      (fX3_owner x14_251 2 P).bind fun r37 =>
      Sum.elim (fun e => none) (fun a38 =>
      (fX3_owner x14_251 4 P).bind fun r39 =>
      Sum.elim (fun e => none) (fun a40 =>
      (fL_addUp_L291 P x14_251 1000 0 0).bind fun v42 =>
      (if a38 < 0 then
         some (0 : Int32)
       else
         some (1 : Int32) : Option (Int32)).bind fun v45 =>
      if a36 = v42 then
      (if v45 = 0 then
         some ()
       else
         (fX3_owner x14_251 0 P).bind fun r47 =>
         Sum.elim (fun e => none) (fun a48 =>
         if ¬ (a48 = 0) then
         if v30 = 0 then
           if ¬ ((x11_251 >>> (a38 &&& 31)) &&& 1 = 1) then
           some ()
           else none
         else
           (fX3_setting 1 P).bind fun r49 =>
           Sum.elim (fun e => none) (fun a50 =>
           if ¬ (a36 < a50) then
           if ¬ ((x11_251 >>> (a38 &&& 31)) &&& 1 = 1) then
           some ()
           else none
           else none) r49
         else none) r47 : Option (Unit)).bind fun v46 =>
      (if v45 = 0 then
         (fX3_owner x14_251 3 P).bind fun r52 =>
         Sum.elim (fun e => none) (fun a53 =>
         if a53 = 0 then
         some ()
         else none) r52
       else
         some () : Option (Unit)).bind fun v51 =>
      (if v45 = 0 then
         some ()
       else
         (fX3_owner x14_251 3 P).bind fun r55 =>
         Sum.elim (fun e => none) (fun a56 =>
         (fX3_count 0 P hz).bind fun r57 =>
         Sum.elim (fun e => none) (fun a58 =>
         if a56 ≤ a58 then
         some ()
         else none) r57) r55 : Option (Unit)).bind fun v54 =>
      (if v45 = 0 then
         some (0 : Int32)
       else
         some ((1 : Int32) <<< (a38 &&& 31)) : Option (Int32)).bind fun v59 =>
      (if v45 = 0 then
         some (0 : Int32)
       else
         some (1 : Int32) : Option (Int32)).bind fun v60 =>
      (if a40 ≤ x9_251 then
         some x9_251
       else
         some a40 : Option (Int32)).bind fun v61 =>
      (if a40 ≤ 0 then
         some x10_251
       else
         if x10_251 = 0 then
           some a40
         else
           if x10_251 ≤ a40 then
             some x10_251
           else
             some a40 : Option (Int32)).bind fun v62 =>
      if a36 ≤ 0 then
        fL_addUp_L251 P hz v30 n (x6_251 + a40) (x7_251 + a36) (x8_251 + v60) v61 v62 (x11_251 ||| v59) x13_251 (x14_251 + 1)
      else
        if x13_251 < 0 then
          fL_addUp_L251 P hz v30 n (x6_251 + a40) (x7_251 + a36) (x8_251 + v60) v61 v62 (x11_251 ||| v59) x14_251 (x14_251 + 1)
        else
          (fX3_owner x13_251 1 P).bind fun r63 =>
          Sum.elim (fun e => none) (fun a64 =>
          if a36 ≤ a64 then
            fL_addUp_L251 P hz v30 n (x6_251 + a40) (x7_251 + a36) (x8_251 + v60) v61 v62 (x11_251 ||| v59) x13_251 (x14_251 + 1)
          else
            fL_addUp_L251 P hz v30 n (x6_251 + a40) (x7_251 + a36) (x8_251 + v60) v61 v62 (x11_251 ||| v59) x14_251 (x14_251 + 1)) r63
      else none) r39) r37) r35
def fL_addUp (P : Nat → Nat → Int32) (hz : Int32) : Option (Int32) :=
  (fL_addUp_L15 P hz 1000 0 0 0 0 0 0).bind fun v2 =>
  (if 0 < v2.1 then
     some (1 : Int32)
   else
     (fX3_setting 0 P).bind fun r31 =>
     Sum.elim (fun e => none) (fun a32 =>
     if a32 ≤ v2.1 + v2.2.1 then
       some (0 : Int32)
     else
       some (1 : Int32)) r31 : Option (Int32)).bind fun v30 =>
  (fL_addUp_L251 P hz v30 1000 0 0 0 0 0 0 (-1) 0).bind fun v34 =>
  (fX3_count 1 P hz).bind fun r65 =>
  Sum.elim (fun e => none) (fun a66 =>
  if a66 = v2.1 + v2.2.1 then
  (fX3_count 2 P hz).bind fun r67 =>
  Sum.elim (fun e => none) (fun a68 =>
  if a68 = v2.1 then
  (fX3_count 3 P hz).bind fun r69 =>
  Sum.elim (fun e => none) (fun a70 =>
  if a70 = v2.2.1 then
  if v34.2.1 = v2.2.1 then
  (fX3_count 4 P hz).bind fun r71 =>
  Sum.elim (fun e => none) (fun a72 =>
  if a72 = v2.2.2.1 then
  (fX3_count 5 P hz).bind fun r73 =>
  Sum.elim (fun e => none) (fun a74 =>
  if a74 = v34.2.2.1 then
  if v34.2.2.2.2.2.1 = ((1 : Int32) <<< (v34.2.2.1 &&& 31)) - 1 then
  (fX3_count 6 P hz).bind fun r75 =>
  Sum.elim (fun e => none) (fun a76 =>
  if a76 = v2.2.2.2.1 then
  (fX3_count 6 P hz).bind fun r77 =>
  Sum.elim (fun e => none) (fun a78 =>
  (fX3_count 7 P hz).bind fun r79 =>
  Sum.elim (fun e => none) (fun a80 =>
  if a78 - a80 = v2.1 + v2.2.1 then
  (fX3_count 8 P hz).bind fun r81 =>
  Sum.elim (fun e => none) (fun a82 =>
  (fX3_count 9 P hz).bind fun r83 =>
  Sum.elim (fun e => none) (fun a84 =>
  (fX3_count 10 P hz).bind fun r85 =>
  Sum.elim (fun e => none) (fun a86 =>
  (fX3_count 7 P hz).bind fun r87 =>
  Sum.elim (fun e => none) (fun a88 =>
  if ¬ (a88 < (a82 + a84) + a86) then
  (fX3_count 12 P hz).bind fun r89 =>
  Sum.elim (fun e => none) (fun a90 =>
  if a90 = v34.1 then
  if ¬ (v34.1 < v2.2.2.2.2) then
  (fX3_blocker P).bind fun r91 =>
  (if v34.2.2.1 = 0 then
     some (-1 : Int32)
   else
     some v34.2.2.2.2.2.2 : Option (Int32)).bind fun v92 =>
  if r91 = v92 then
  (fX3_fairness P).bind fun r93 =>
  if v34.2.2.2.1 = 0 then
    if Op.cmpValue (FP.dcmp r93 FP.dconst1) .l = 0 then
    some 1
    else none
  else
    if pq_nn (FP.ddiv (FP.i2d v34.2.2.2.2.1) (FP.i2d v34.2.2.2.1)) then
    if Op.cmpValue (FP.dcmp r93 (FP.ddiv (FP.i2d v34.2.2.2.2.1) (FP.i2d v34.2.2.2.1))) .l = 0 then
    some 1
    else none
    else none
  else none
  else none
  else none) r89
  else none) r87) r85) r83) r81
  else none) r79) r77
  else none) r75
  else none
  else none) r73
  else none) r71
  else none
  else none) r69
  else none) r67
  else none) r65

def fL_ask (x1 : Int32) (P : Nat → Nat → Int32) (T : Nat → Nat → Int32) (S : Nat → Nat → Nat → Int32) (nw : Int32) (hz : Int32) (ak : Nat → Int32) : Option (Int32 × (Nat → Nat → Int32) × (Nat → Nat → Int32) × (Nat → Nat → Nat → Int32) × Int32 × Int32 × (Nat → Int32)) :=
  (fX3_ifAsked x1 0 P T ak).bind fun r1 =>
  Sum.elim (fun e => none) (fun a2 =>
  (fX3_count 6 P hz).bind fun r3 =>
  Sum.elim (fun e => none) (fun a4 =>
  (fX3_ifAsked x1 1 P a2.2.1 a2.2.2).bind fun r5 =>
  Sum.elim (fun e => none) (fun a6 =>
  (fX3_count 7 P hz).bind fun r7 =>
  Sum.elim (fun e => none) (fun a8 =>
  (fX3_ifAsked x1 2 P a6.2.1 a6.2.2).bind fun r9 =>
  Sum.elim (fun e => none) (fun a10 =>
  (fX3_owner x1 4 P).bind fun r11 =>
  Sum.elim (fun e => none) (fun a12 =>
  (fX3_owner x1 1 P).bind fun r13 =>
  Sum.elim (fun e => none) (fun a14 =>
  (fX3_owner x1 0 P).bind fun r15 =>
  Sum.elim (fun e => none) (fun a16 =>
  if a16 = 0 then
    if a2.1 = (-1) then
    if a6.1 = 0 then
    (fX3_count 7 P hz).bind fun r17 =>
    Sum.elim (fun e => none) (fun a18 =>
    if a8 + a10.1 = a18 then
    some (1, P, a10.2.1, S, nw, hz, a10.2.2)
    else none) r17
    else none
    else none
  else
    (fX3_owner x1 2 P).bind fun r19 =>
    Sum.elim (fun e => none) (fun a20 =>
    if a20 < 0 then
      (fX3_setting 1 P).bind fun r21 =>
      Sum.elim (fun e => none) (fun a22 =>
      (if a22 ≤ a14 then
         some (0 : Int32)
       else
         some (1 : Int32) : Option (Int32)).bind fun v23 =>
      (fX3_ask x1 P S nw hz).bind fun r24 =>
      Sum.elim (fun e => none) (fun a25 =>
      if a25.1 = a2.1 then
      (fX3_count 7 a25.2.1 a25.2.2.2.2).bind fun r26 =>
      Sum.elim (fun e => none) (fun a27 =>
      if a27 = a8 + a10.1 then
      (fX3_count 6 a25.2.1 a25.2.2.2.2).bind fun r28 =>
      Sum.elim (fun e => none) (fun a29 =>
      if ¬ (a29 < a4 + a6.1) then
      (if a2.1 < 0 then
         some ()
       else
         if ¬ (v23 = 0) then
         some ()
         else none : Option (Unit)).bind fun v30 =>
      if 0 ≤ a2.1 then
        (fX3_place a2.1 0 a25.2.1).bind fun r31 =>
        Sum.elim (fun e => none) (fun a32 =>
        if a32 = 2 then
        (fX3_place a2.1 1 a25.2.1).bind fun r33 =>
        Sum.elim (fun e => none) (fun a34 =>
        if a34 = x1 then
        (fX3_place a2.1 4 a25.2.1).bind fun r35 =>
        Sum.elim (fun e => none) (fun a36 =>
        if a36 = 0 then
        (fX3_owner x1 2 a25.2.1).bind fun r37 =>
        Sum.elim (fun e => none) (fun a38 =>
        if a38 = (-1) then
        (fX3_owner x1 4 a25.2.1).bind fun r39 =>
        Sum.elim (fun e => none) (fun a40 =>
        if a40 = a12 + 1 then
        (fX3_owner x1 1 a25.2.1).bind fun r41 =>
        Sum.elim (fun e => none) (fun a42 =>
        if a42 = a14 + 1 then
        (fX3_setting 4 a25.2.1).bind fun r43 =>
        Sum.elim (fun e => none) (fun a44 =>
        (if a44 = 0 then
           some ()
         else
           (fX3_place a2.1 2 a25.2.1).bind fun r46 =>
           Sum.elim (fun e => none) (fun a47 =>
           if a47 = 0 then
           some ()
           else none) r46 : Option (Unit)).bind fun v45 =>
        if a6.1 = 0 then
          some (1, a25.2.1, a10.2.1, a25.2.2.1, a25.2.2.2.1, a25.2.2.2.2, a10.2.2)
        else
          (fX3_place a2.1 3 a25.2.1).bind fun r48 =>
          Sum.elim (fun e => none) (fun a49 =>
          if a49 = 1 then
          some (1, a25.2.1, a10.2.1, a25.2.2.1, a25.2.2.2.1, a25.2.2.2.2, a10.2.2)
          else none) r48) r43
        else none) r41
        else none) r39
        else none) r37
        else none) r35
        else none) r33
        else none) r31
      else
        (fX3_owner x1 2 a25.2.1).bind fun r50 =>
        Sum.elim (fun e => none) (fun a51 =>
        (fX3_count 5 a25.2.1 a25.2.2.2.2).bind fun r52 =>
        Sum.elim (fun e => none) (fun a53 =>
        if a51 = a53 - 1 then
        (fX3_owner x1 3 a25.2.1).bind fun r54 =>
        Sum.elim (fun e => none) (fun a55 =>
        if a55 = 0 then
        (fX3_owner x1 4 a25.2.1).bind fun r56 =>
        Sum.elim (fun e => none) (fun a57 =>
        if a57 = a12 then
        some (1, a25.2.1, a10.2.1, a25.2.2.1, a25.2.2.2.1, a25.2.2.2.2, a10.2.2)
        else none) r56
        else none) r54
        else none) r52) r50
      else none) r28
      else none) r26
      else none) r24) r21
    else
      if a2.1 = (-1) then
      if a6.1 = 0 then
      (fX3_count 7 P hz).bind fun r58 =>
      Sum.elim (fun e => none) (fun a59 =>
      if a8 + a10.1 = a59 then
      some (1, P, a10.2.1, S, nw, hz, a10.2.2)
      else none) r58
      else none
      else none) r19) r15) r13) r11) r9) r7) r5) r3) r1

def fL_give (x1 : Int32) (P : Nat → Nat → Int32) (S : Nat → Nat → Nat → Int32) (nw : Int32) (hz : Int32) : Option (Int32 × (Nat → Nat → Int32) × (Nat → Nat → Nat → Int32) × Int32 × Int32) :=
  (fX3_place x1 1 P).bind fun r1 =>
  Sum.elim (fun e => none) (fun a2 =>
  if a2 < 0 then
    some (1, P, S, nw, hz)
  else
    (fX3_owner a2 0 P).bind fun r3 =>
    Sum.elim (fun e => none) (fun a4 =>
    if a4 = 0 then
      some (1, P, S, nw, hz)
    else
      (fX3_count 5 P hz).bind fun r5 =>
      Sum.elim (fun e => none) (fun a6 =>
      (fX3_give x1 P S nw hz).bind fun r7 =>
      Sum.elim (fun e => none) (fun a8 =>
      (fX3_place x1 1 a8.2.1).bind fun r9 =>
      Sum.elim (fun e => none) (fun a10 =>
      if a8.1 = a10 then
      (if a8.1 < 0 then
         some ()
       else
         (fX3_place x1 0 a8.2.1).bind fun r12 =>
         Sum.elim (fun e => none) (fun a13 =>
         if a13 = 2 then
         some ()
         else none) r12 : Option (Unit)).bind fun v11 =>
      if 0 < a6 then
        some (1, a8.2.1, a8.2.2.1, a8.2.2.2.1, a8.2.2.2.2)
      else
        if a8.1 = (-1) then
        (fX3_place x1 0 a8.2.1).bind fun r14 =>
        Sum.elim (fun e => none) (fun a15 =>
        if a15 = 1 then
        (fX3_place x1 4 a8.2.1).bind fun r16 =>
        Sum.elim (fun e => none) (fun a17 =>
        if a17 = 0 then
        some (1, a8.2.1, a8.2.2.1, a8.2.2.2.1, a8.2.2.2.2)
        else none) r16
        else none) r14
        else none
      else none) r9) r7) r5) r3) r1

def fL_pass (x1 : Int32) (x2 : Int32) (P : Nat → Nat → Int32) (T : Nat → Nat → Int32) (S : Nat → Nat → Nat → Int32) (nw : Int32) (hz : Int32) (pa : Nat → Int32) (wt : Nat → Int32) : Option (Int32 × (Nat → Nat → Int32) × (Nat → Nat → Int32) × (Nat → Nat → Nat → Int32) × Int32 × Int32 × (Nat → Int32) × (Nat → Int32)) :=
  (fX3_ifPassed x1 0 P T pa).bind fun r1 =>
  Sum.elim (fun e => none) (fun a2 =>
  (fX3_count 7 P hz).bind fun r3 =>
  Sum.elim (fun e => none) (fun a4 =>
  (fX3_ifPassed x1 1 P a2.2.1 a2.2.2).bind fun r5 =>
  Sum.elim (fun e => none) (fun a6 =>
  (fX3_ifPassed x1 2 P a6.2.1 a6.2.2).bind fun r7 =>
  Sum.elim (fun e => none) (fun a8 =>
  (fX3_ifPassed x1 3 P a8.2.1 a8.2.2).bind fun r9 =>
  Sum.elim (fun e => none) (fun a10 =>
  (fX3_waitsFor x2 P a10.2.1 wt).bind fun r11 =>
  Sum.elim (fun e => none) (fun a12 =>
  (fX3_owner x2 2 P).bind fun r13 =>
  Sum.elim (fun e => none) (fun a14 =>
  (if a14 < 0 then
     some (0 : Int32)
   else
     some (1 : Int32) : Option (Int32)).bind fun v15 =>
  (fX3_owner x2 3 P).bind fun r16 =>
  Sum.elim (fun e => none) (fun a17 =>
  (fX3_owner x2 4 P).bind fun r18 =>
  Sum.elim (fun e => none) (fun a19 =>
  (fX3_owner x2 5 P).bind fun r20 =>
  Sum.elim (fun e => none) (fun a21 =>
  (fX3_owner x2 6 P).bind fun r22 =>
  Sum.elim (fun e => none) (fun a23 =>
  (fX3_count 0 P hz).bind fun r24 =>
  Sum.elim (fun e => none) (fun a25 =>
  (fX3_pass x1 P S nw hz).bind fun r26 =>
  Sum.elim (fun e => none) (fun a27 =>
  if a27.1 = a2.1 then
  (fX3_count 7 a27.2.1 a27.2.2.2.2).bind fun r28 =>
  Sum.elim (fun e => none) (fun a29 =>
  if a29 = a4 + a6.1 then
  (fX3_count 1 a27.2.1 a27.2.2.2.2).bind fun r30 =>
  Sum.elim (fun e => none) (fun a31 =>
  if a31 = a8.1 then
  (fX3_count 5 a27.2.1 a27.2.2.2.2).bind fun r32 =>
  Sum.elim (fun e => none) (fun a33 =>
  if a33 = a10.1 then
  (fX3_count 0 a27.2.1 a27.2.2.2.2).bind fun r34 =>
  Sum.elim (fun e => none) (fun a35 =>
  if a35 = a25 + x1 then
  if v15 = 0 then
    if a12.1 = (-1) then
    (fX3_owner x2 4 a27.2.1).bind fun r56 =>
    Sum.elim (fun e => none) (fun a57 =>
    if a57 = a19 then
    some (1, a27.2.1, a12.2.1, a27.2.2.1, a27.2.2.2.1, a27.2.2.2.2, a10.2.2, a12.2.2)
    else none) r56
    else none
  else
    (fX3_setting 8 a27.2.1).bind fun r36 =>
    Sum.elim (fun e => none) (fun a37 =>
    (if a17 < a37 then
       (fX3_setting 8 a27.2.1).bind fun r39 =>
       Sum.elim (fun e => none) (fun a40 =>
       some (a40 - a17)) r39
     else
       some (1 : Int32) : Option (Int32)).bind fun v38 =>
    (if a12.1 < 0 then
       some (0 : Int32)
     else
       if x1 < a12.1 then
         some (0 : Int32)
       else
         some (1 : Int32) : Option (Int32)).bind fun v41 =>
    (if 0 ≤ a12.1 then
       some (0 : Int32)
     else
       if x1 < v38 then
         some (0 : Int32)
       else
         some (1 : Int32) : Option (Int32)).bind fun v42 =>
    (if a12.1 < 0 then
       some ()
     else
       if ¬ (a12.1 < 1) then
       if ¬ (v38 ≤ a12.1) then
       some ()
       else none
       else none : Option (Unit)).bind fun v43 =>
    (fX3_owner x2 4 a27.2.1).bind fun r44 =>
    Sum.elim (fun e => none) (fun a45 =>
    (if v41 = 0 then
       some (0 : Int32)
     else
       some (1 : Int32) : Option (Int32)).bind fun v46 =>
    if a45 = a19 + v46 then
    (fX3_owner x2 5 a27.2.1).bind fun r47 =>
    Sum.elim (fun e => none) (fun a48 =>
    (if v42 = 0 then
       some (0 : Int32)
     else
       some (1 : Int32) : Option (Int32)).bind fun v49 =>
    if a48 = a21 + v49 then
    (fX3_owner x2 2 a27.2.1).bind fun r50 =>
    Sum.elim (fun e => none) (fun a51 =>
    (if a51 < 0 then
       some (0 : Int32)
     else
       some (1 : Int32) : Option (Int32)).bind fun v52 =>
    (if v41 = 0 then
       if v42 = 0 then
         some (1 : Int32)
       else
         some (0 : Int32)
     else
       some (0 : Int32) : Option (Int32)).bind fun v53 =>
    if v52 = v53 then
    (fX3_owner x2 6 a27.2.1).bind fun r54 =>
    Sum.elim (fun e => none) (fun a55 =>
    if v41 = 0 then
      if a55 = a23 + 0 then
      some (1, a27.2.1, a12.2.1, a27.2.2.1, a27.2.2.2.1, a27.2.2.2.2, a10.2.2, a12.2.2)
      else none
    else
      if a55 = a23 + (a17 + a12.1) then
      some (1, a27.2.1, a12.2.1, a27.2.2.1, a27.2.2.2.1, a27.2.2.2.2, a10.2.2, a12.2.2)
      else none) r54
    else none) r50
    else none) r47
    else none) r44) r36
  else none) r34
  else none) r32
  else none) r30
  else none) r28
  else none) r26) r24) r22) r20) r18) r16) r13) r11) r9) r7) r5) r3) r1

def fL_holds_L4 (P : Nat → Nat → Int32) (hz : Int32) : Nat → Int32 → Int32 → Option (Int32)
  | 0, _, _ => none
  | n + 1, x1_4, x2_4 =>
    if 8 ≤ x2_4 then
      some x1_4
    else
      (fX3_place x2_4 1 P).bind fun r3 =>
      Sum.elim (fun e => none) (fun a4 =>
      if ¬ (x1_4 = 0) then
      (if a4 < 0 then
         some ()
       else
         (fX3_owner a4 0 P).bind fun r6 =>
         Sum.elim (fun e => none) (fun a7 =>
         if a7 = 1 then
           some ()
         else
           (fX3_place x2_4 4 P).bind fun r8 =>
           Sum.elim (fun e => none) (fun a9 =>
           (fX3_setting 5 P).bind fun r10 =>
           Sum.elim (fun e => none) (fun a11 =>
           if ¬ (a11 ≤ a9) then
           some ()
           else none) r10) r8) r6 : Option (Unit)).bind fun v5 =>
      (fX3_place x2_4 0 P).bind fun r12 =>
      Sum.elim (fun e => none) (fun a13 =>
      if a13 = 1 then
        (fX3_count 1 P hz).bind fun r14 =>
        Sum.elim (fun e => none) (fun a15 =>
        (fX3_setting 2 P).bind fun r16 =>
        Sum.elim (fun e => none) (fun a17 =>
        if a15 ≤ a17 then
          fL_holds_L4 P hz n 1 (x2_4 + 1)
        else
          (fX3_place x2_4 4 P).bind fun r18 =>
          Sum.elim (fun e => none) (fun a19 =>
          (fX3_setting 7 P).bind fun r20 =>
          Sum.elim (fun e => none) (fun a21 =>
          if ¬ (a21 ≤ a19) then
          fL_holds_L4 P hz n 1 (x2_4 + 1)
          else none) r20) r18) r16) r14
      else
        fL_holds_L4 P hz n 1 (x2_4 + 1)) r12
      else none) r3
def fL_holds_L111 (P : Nat → Nat → Int32) : Nat → Int32 → Int32 → Option (Int32)
  | 0, _, _ => none
  | n + 1, x1_111, x2_111 =>
    if 8 ≤ x2_111 then
      if pq_bool x1_111 then
      some x1_111
      else none
    else
      if ¬ (x1_111 = 0) then
      (fX3_owner x2_111 3 P).bind fun r23 =>
      Sum.elim (fun e => none) (fun a24 =>
      (fX3_setting 8 P).bind fun r25 =>
      Sum.elim (fun e => none) (fun a26 =>
      if ¬ (a26 ≤ a24) then
      fL_holds_L111 P n 1 (x2_111 + 1)
      else none) r25) r23
      else none
def fL_holds (P : Nat → Nat → Int32) (hz : Int32) : Option (Int32) :=
  (fL_holds_L4 P hz 1000 1 0).bind fun v2 =>
  fL_holds_L111 P 1000 v2 0

