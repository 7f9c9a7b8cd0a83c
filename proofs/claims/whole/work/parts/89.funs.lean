/-! THE METHODS AS FUNCTIONS (by gen/emit.py) -/
def X5_isIn (v0 : Int32) (v1 : Int32) (v2 : Int32) : Bool :=
  if v0 < v1 then
    false
  else
    if v2 < v0 then
      false
    else
      true
def X5_finding (x_found : Nat → Int32) (v1 : Int32) : Option (Int32 × (Nat → Int32)) :=
  if inr v1 7 then
    if inr v1 7 then
      some (((-1000001) - v1), (upd x_found v1.toNatClampNeg ((x_found v1.toNatClampNeg) + 1)))
    else none
  else none
def X2_addBow_sc (sc_bows : Int32) (sc_kinds : Nat → Int32) (sc_loves : Nat → Int32) (sc_seconds : Nat → Int32) (sc_aheads : Nat → Int32) (v1 : Int32) : Option (Int32 × Int32 × (Nat → Int32) × (Nat → Int32) × (Nat → Int32) × (Nat → Int32)) :=
  if inr sc_bows 9 then
    if inr sc_bows 9 then
      if inr sc_bows 9 then
        if inr sc_bows 9 then
          some (sc_bows, (sc_bows + 1), (upd sc_kinds sc_bows.toNatClampNeg v1), (upd sc_loves sc_bows.toNatClampNeg 10), (upd sc_seconds sc_bows.toNatClampNeg 5), (upd sc_aheads sc_bows.toNatClampNeg 0))
        else none
      else none
    else none
  else none
def X5_bow (x_found : Nat → Int32) (sc_bows : Int32) (sc_kinds : Nat → Int32) (sc_loves : Nat → Int32) (sc_seconds : Nat → Int32) (sc_aheads : Nat → Int32) (v1 : Int32) : Option (Int32 × (Nat → Int32) × Int32 × (Nat → Int32) × (Nat → Int32) × (Nat → Int32) × (Nat → Int32)) :=
  if (xb (X5_isIn v1 0 6)) = 0 then
    Option.bind (X5_finding x_found 0) fun r12 =>
    some (r12.1, r12.2, sc_bows, sc_kinds, sc_loves, sc_seconds, sc_aheads)
  else
    if sc_bows < 9 then
      Option.bind (X2_addBow_sc sc_bows sc_kinds sc_loves sc_seconds sc_aheads v1) fun r39 =>
      some (r39.1, x_found, r39.2.1, r39.2.2.1, r39.2.2.2.1, r39.2.2.2.2.1, r39.2.2.2.2.2)
    else
      Option.bind (X5_finding x_found 1) fun r30 =>
      some (r30.1, r30.2, sc_bows, sc_kinds, sc_loves, sc_seconds, sc_aheads)
def X6_in1 (v0 : Int32) (v1 : Int32) (v2 : Int32) : Bool :=
  if v0 < v1 then
    false
  else
    if v2 < v0 then
      false
    else
      true
def X6_no (m_found : Nat → Int32) (v1 : Int32) : Option (Int32 × (Nat → Int32)) :=
  if inr v1 7 then
    if inr v1 7 then
      some (((-1000001) - v1), (upd m_found v1.toNatClampNeg ((m_found v1.toNatClampNeg) + 1)))
    else none
  else none
def X6_puts (m_s : Nat → Int32) (v1 : Int32) (v2 : Int32) (v3 : Int32) : Option ((Nat → Int32)) :=
  if inr ((10 + (4 * v1)) + v2) 83 then
    some (upd m_s ((10 + (4 * v1)) + v2).toNatClampNeg v3)
  else none
def X6_addsBow (m_s : Nat → Int32) (v1 : Int32) : Option ((Nat → Int32)) :=
  Option.bind (X6_puts m_s (m_s 3) 0 v1) fun r11 =>
  Option.bind (X6_puts r11 (m_s 3) 1 10) fun r19 =>
  Option.bind (X6_puts r19 (m_s 3) 2 5) fun r26 =>
  Option.bind (X6_puts r26 (m_s 3) 3 0) fun r33 =>
  some (upd r33 3 ((r33 3) + 1))
def X6_bow (m_s : Nat → Int32) (m_found : Nat → Int32) (v1 : Int32) : Option (Int32 × (Nat → Int32) × (Nat → Int32)) :=
  if (xb (X6_in1 v1 0 6)) = 0 then
    Option.bind (X6_no m_found 0) fun r12 =>
    some (r12.1, m_s, r12.2)
  else
    if (m_s 3) = 9 then
      Option.bind (X6_no m_found 1) fun r29 =>
      some (r29.1, m_s, r29.2)
    else
      Option.bind (X6_addsBow m_s v1) fun r35 =>
      some (((r35 3) - 1), r35, m_found)
def X2_isBow (sc_bows : Int32) (v1 : Int32) : Bool :=
  if v1 < 0 then
    false
  else
    if sc_bows ≤ v1 then
      false
    else
      true
def X0_leftBy (v0 : Int32) (v1 : Int32) : Int32 :=
  if v0 = 1 then
    0
  else
  if v0 = 2 then
    v1
  else
  if v0 = 3 then
    v1
  else
  if v0 = 4 then
    (2 * v1)
  else
  if v0 = 5 then
    0
  else
  if v0 = 6 then
    50
  else
  v1
def X2_leftBy (sc_kinds : Nat → Int32) (sc_loves : Nat → Int32) (v1 : Int32) : Option (Int32) :=
  if inr v1 9 then
    if inr v1 9 then
      some (X0_leftBy (sc_kinds v1.toNatClampNeg) (sc_loves v1.toNatClampNeg))
    else none
  else none
def X2_leftByLatest (sc_there : Int32) (sc_kinds : Nat → Int32) (sc_loves : Nat → Int32) (sc_stage : Nat → Int32) : Option (Int32) :=
  if sc_there = 0 then
    some 0
  else
    if inr (sc_there - 1) 9 then
      Option.bind (X2_leftBy sc_kinds sc_loves (sc_stage (sc_there - 1).toNatClampNeg)) fun r23 =>
      some r23
    else none
def X0_fallingNoise (v0 : Int32) (v1 : Int32) : Int32 :=
  (xmax 0 ((v0 + (v1 / 10)) - (xmax 0 (v1 - v0))))
def X0_noiseOf (v0 : Int32) (v1 : Int32) (v2 : Int32) : Int32 :=
  if v0 = 1 then
    (v1 / 4)
  else
  if v0 = 2 then
    (v1 + (v2 / 10))
  else
  if v0 = 3 then
    (X0_fallingNoise v1 v2)
  else
  if v0 = 4 then
    (2 * (X0_fallingNoise v1 v2))
  else
  if v0 = 5 then
    (v1 + 5)
  else
  if v0 = 6 then
    ((v1 + 5) + 20)
  else
  v1
def X2_noiseBy (sc_kinds : Nat → Int32) (sc_loves : Nat → Int32) (v1 : Int32) (v2 : Int32) : Option (Int32) :=
  if inr v1 9 then
    if inr v1 9 then
      some (X0_noiseOf (sc_kinds v1.toNatClampNeg) (sc_loves v1.toNatClampNeg) v2)
    else none
  else none
def X0_lastedBy (v0 : Int32) (v1 : Int32) : Int32 :=
  if v0 = 1 then
    (xmax 1 (v1 / 4))
  else
  if v0 = 2 then
    v1
  else
  if v0 = 3 then
    (v1 + 1)
  else
  if v0 = 4 then
    ((v1 + 1) + 5)
  else
  if v0 = 5 then
    v1
  else
  if v0 = 6 then
    (xmax 1 (v1 / 2))
  else
  v1
def X2_lastedBy (sc_kinds : Nat → Int32) (sc_seconds : Nat → Int32) (v1 : Int32) : Option (Int32) :=
  if inr v1 9 then
    if inr v1 9 then
      some (X0_lastedBy (sc_kinds v1.toNatClampNeg) (sc_seconds v1.toNatClampNeg))
    else none
  else none
def X5_of (x_found : Nat → Int32) (sc_bows : Int32) (sc_there : Int32) (sc_kinds : Nat → Int32) (sc_loves : Nat → Int32) (sc_seconds : Nat → Int32) (sc_aheads : Nat → Int32) (sc_stage : Nat → Int32) (v1 : Int32) (v2 : Int32) : Option (Int32 × (Nat → Int32)) :=
  if (xb (X2_isBow sc_bows v1)) = 0 then
    Option.bind (X5_finding x_found 0) fun r13 =>
    some (r13.1, r13.2)
  else
    if v2 = 0 then
      if inr v1 9 then
        some ((sc_kinds v1.toNatClampNeg), x_found)
      else none
    else
    if v2 = 1 then
      if inr v1 9 then
        some ((sc_loves v1.toNatClampNeg), x_found)
      else none
    else
    if v2 = 2 then
      if inr v1 9 then
        some ((sc_seconds v1.toNatClampNeg), x_found)
      else none
    else
    if v2 = 3 then
      if inr v1 9 then
        some ((sc_aheads v1.toNatClampNeg), x_found)
      else none
    else
    if v2 = 4 then
      Option.bind (X2_leftBy sc_kinds sc_loves v1) fun r105 =>
      some (r105, x_found)
    else
    if v2 = 5 then
      Option.bind (X2_lastedBy sc_kinds sc_seconds v1) fun r114 =>
      some (r114, x_found)
    else
    if v2 = 6 then
      Option.bind (X2_leftByLatest sc_there sc_kinds sc_loves sc_stage) fun r127 =>
      Option.bind (X2_noiseBy sc_kinds sc_loves v1 r127) fun r130 =>
      some (r130, x_found)
    else
    Option.bind (X5_finding x_found 0) fun r136 =>
    some (r136.1, r136.2)
def X6_isBow (m_s : Nat → Int32) (v1 : Int32) : Option (Bool) :=
  some (X6_in1 v1 0 ((m_s 3) - 1))
def X6_get (m_s : Nat → Int32) (v1 : Int32) (v2 : Int32) : Option (Int32) :=
  if inr ((10 + (4 * v1)) + v2) 83 then
    some (m_s ((10 + (4 * v1)) + v2).toNatClampNeg)
  else none
def X6_leaves (m_s : Nat → Int32) (v1 : Int32) : Option (Int32) :=
  Option.bind (X6_get m_s v1 0) fun r3 =>
  if r3 = 1 then
    some 0
  else
    if r3 = 5 then
      some 0
    else
      if r3 = 4 then
        Option.bind (X6_get m_s v1 1) fun r30 =>
        some (2 * r30)
      else
        if r3 = 6 then
          some 50
        else
          Option.bind (X6_get m_s v1 1) fun r51 =>
          some r51
def X6_most (v0 : Int32) (v1 : Int32) : Int32 :=
  if v0 ≤ v1 then
    v1
  else
    v0
def X6_secondsOf (m_s : Nat → Int32) (v1 : Int32) : Option (Int32) :=
  Option.bind (X6_get m_s v1 2) fun r3 =>
  Option.bind (X6_get m_s v1 0) fun r10 =>
  if r10 = 1 then
    some (X6_most 1 (r3 / 4))
  else
  if r10 = 2 then
    some r3
  else
  if r10 = 3 then
    some (r3 + 1)
  else
  if r10 = 4 then
    some (r3 + 6)
  else
  if r10 = 5 then
    some r3
  else
  if r10 = 6 then
    some (X6_most 1 (r3 / 2))
  else
  some r3
def X6_whoAt (m_s : Nat → Int32) (v1 : Int32) : Option (Int32) :=
  if inr (46 + (3 * v1)) 83 then
    some (m_s (46 + (3 * v1)).toNatClampNeg)
  else none
def X6_latest (m_s : Nat → Int32) : Option (Int32) :=
  if (m_s 2) = 0 then
    some (-1)
  else
    Option.bind (X6_whoAt m_s ((m_s 2) - 1)) fun r22 =>
    some r22
def X6_leftBy (m_s : Nat → Int32) (v1 : Int32) : Option (Int32) :=
  if 0 ≤ v1 then
    Option.bind (X6_leaves m_s v1) fun r10 =>
    some r10
  else
    some 0
def X6_noiseOf (v0 : Int32) (v1 : Int32) (v2 : Int32) : Int32 :=
  if v0 = 1 then
    (v1 / 4)
  else
  if v0 = 2 then
    (v1 + (v2 / 10))
  else
  if v0 = 3 then
    (X6_most 0 ((v1 + (v2 / 10)) - (X6_most 0 (v2 - v1))))
  else
  if v0 = 4 then
    (2 * (X6_most 0 ((v1 + (v2 / 10)) - (X6_most 0 (v2 - v1)))))
  else
  if v0 = 5 then
    (v1 + 5)
  else
  if v0 = 6 then
    (v1 + 25)
  else
  v1
def X6_noiseBy (m_s : Nat → Int32) (v1 : Int32) (v2 : Int32) : Option (Int32) :=
  Option.bind (X6_get m_s v1 0) fun r3 =>
  Option.bind (X6_get m_s v1 1) fun r9 =>
  some (X6_noiseOf r3 r9 v2)
def X6_of (m_s : Nat → Int32) (m_found : Nat → Int32) (v1 : Int32) (v2 : Int32) : Option (Int32 × (Nat → Int32)) :=
  Option.bind (X6_isBow m_s v1) fun r2 =>
  if (xb r2) = 0 then
    Option.bind (X6_no m_found 0) fun r20 =>
    some (r20.1, r20.2)
  else
    if (xb (X6_in1 v2 0 6)) = 0 then
      Option.bind (X6_no m_found 0) fun r20_1 =>
      some (r20_1.1, r20_1.2)
    else
      if 4 ≤ v2 then
        if v2 = 4 then
          Option.bind (X6_leaves m_s v1) fun r45 =>
          some (r45, m_found)
        else
          if v2 = 5 then
            Option.bind (X6_secondsOf m_s v1) fun r58 =>
            some (r58, m_found)
          else
            Option.bind (X6_latest m_s) fun r68 =>
            Option.bind (X6_leftBy m_s r68) fun r71 =>
            Option.bind (X6_noiseBy m_s v1 r71) fun r74 =>
            some (r74, m_found)
      else
        Option.bind (X6_get m_s v1 v2) fun r32 =>
        some (r32, m_found)
def X2_isSetWithout (sc_bows : Int32) (v1 : Int32) (v2 : Int32) : Bool :=
  if (xb (X5_isIn v1 0 ((xshl 1 sc_bows) - 1))) = 0 then
    false
  else
    if (v1 &&& (xshl 1 v2)) = 0 then
      true
    else
      false
def X5_put_sc_aheads (sc_aheads : Nat → Int32) (v1 : Int32) (v2 : Int32) : Option (Int32 × (Nat → Int32)) :=
  if inr v1 9 then
    if inr v1 9 then
      some ((sc_aheads v1.toNatClampNeg), (upd sc_aheads v1.toNatClampNeg v2))
    else none
  else none
def X5_put_sc_seconds (sc_seconds : Nat → Int32) (v1 : Int32) (v2 : Int32) : Option (Int32 × (Nat → Int32)) :=
  if inr v1 9 then
    if inr v1 9 then
      some ((sc_seconds v1.toNatClampNeg), (upd sc_seconds v1.toNatClampNeg v2))
    else none
  else none
def X5_put_sc_loves (sc_loves : Nat → Int32) (v1 : Int32) (v2 : Int32) : Option (Int32 × (Nat → Int32)) :=
  if inr v1 9 then
    if inr v1 9 then
      some ((sc_loves v1.toNatClampNeg), (upd sc_loves v1.toNatClampNeg v2))
    else none
  else none
def X5_put_sc_kinds (sc_kinds : Nat → Int32) (v1 : Int32) (v2 : Int32) : Option (Int32 × (Nat → Int32)) :=
  if inr v1 9 then
    if inr v1 9 then
      some ((sc_kinds v1.toNatClampNeg), (upd sc_kinds v1.toNatClampNeg v2))
    else none
  else none
def X5_change (x_found : Nat → Int32) (sc_bows : Int32) (sc_kinds : Nat → Int32) (sc_loves : Nat → Int32) (sc_seconds : Nat → Int32) (sc_aheads : Nat → Int32) (v1 : Int32) (v2 : Int32) (v3 : Int32) : Option (Int32 × (Nat → Int32) × (Nat → Int32) × (Nat → Int32) × (Nat → Int32) × (Nat → Int32)) :=
  if (xb (X2_isBow sc_bows v1)) = 0 then
    Option.bind (X5_finding x_found 0) fun r13 =>
    some (r13.1, r13.2, sc_kinds, sc_loves, sc_seconds, sc_aheads)
  else
    if v2 = 0 then
      if (xb (X5_isIn v3 0 6)) = 0 then
        Option.bind (X5_finding x_found 0) fun r75 =>
        some (r75.1, r75.2, sc_kinds, sc_loves, sc_seconds, sc_aheads)
      else
        Option.bind (X5_put_sc_kinds sc_kinds v1 v3) fun r67 =>
        some (r67.1, x_found, r67.2, sc_loves, sc_seconds, sc_aheads)
    else
    if v2 = 1 then
      if (xb (X5_isIn v3 0 99)) = 0 then
        Option.bind (X5_finding x_found 0) fun r106 =>
        some (r106.1, r106.2, sc_kinds, sc_loves, sc_seconds, sc_aheads)
      else
        Option.bind (X5_put_sc_loves sc_loves v1 v3) fun r98 =>
        some (r98.1, x_found, sc_kinds, r98.2, sc_seconds, sc_aheads)
    else
    if v2 = 2 then
      if (xb (X5_isIn v3 1 60)) = 0 then
        Option.bind (X5_finding x_found 0) fun r137 =>
        some (r137.1, r137.2, sc_kinds, sc_loves, sc_seconds, sc_aheads)
      else
        Option.bind (X5_put_sc_seconds sc_seconds v1 v3) fun r129 =>
        some (r129.1, x_found, sc_kinds, sc_loves, r129.2, sc_aheads)
    else
    if v2 = 3 then
      if (xb (X2_isSetWithout sc_bows v3 v1)) = 0 then
        Option.bind (X5_finding x_found 0) fun r170 =>
        some (r170.1, r170.2, sc_kinds, sc_loves, sc_seconds, sc_aheads)
      else
        Option.bind (X5_put_sc_aheads sc_aheads v1 v3) fun r162 =>
        some (r162.1, x_found, sc_kinds, sc_loves, sc_seconds, r162.2)
    else
    Option.bind (X5_finding x_found 0) fun r176 =>
    some (r176.1, r176.2, sc_kinds, sc_loves, sc_seconds, sc_aheads)
def X6_isIn (v0 : Int32) (v1 : Int32) : Bool :=
  if ((xshr v0 v1) &&& 1) = 1 then
    true
  else
    false
def X6_allBows (m_s : Nat → Int32) : Option (Int32) :=
  some ((xshl 1 (m_s 3)) - 1)
def X6_change_L96 (m_s : Nat → Int32) (m_found : Nat → Int32) (v1 : Int32) (v2 : Int32) (v3 : Int32) : Option (Int32 × (Nat → Int32) × (Nat → Int32)) :=
  Option.bind (X6_get m_s v1 v2) fun r99 =>
  Option.bind (X6_puts m_s v1 v2 v3) fun r108 =>
  some (r99, r108, m_found)
def X6_change_L69 (m_s : Nat → Int32) (m_found : Nat → Int32) (v1 : Int32) (v2 : Int32) (v3 : Int32) (v4 : Int32) (t0 : Int32) (t1 : Int32) : Option (Int32 × (Nat → Int32) × (Nat → Int32)) :=
  if (xb (X6_in1 t0 t1 v4)) = 0 then
    Option.bind (X6_no m_found 0) fun r92 =>
    some (r92.1, m_s, r92.2)
  else
    if v2 = 3 then
      if (xb (X6_isIn v3 v1)) = 0 then
        X6_change_L96 m_s m_found v1 v2 v3
      else
        Option.bind (X6_no m_found 0) fun r92_1 =>
        some (r92_1.1, m_s, r92_1.2)
    else
      X6_change_L96 m_s m_found v1 v2 v3
def X6_change_L56 (m_s : Nat → Int32) (m_found : Nat → Int32) (v1 : Int32) (v2 : Int32) (v3 : Int32) (t0 : Int32) : Option (Int32 × (Nat → Int32) × (Nat → Int32)) :=
  if v2 = 2 then
    X6_change_L69 m_s m_found v1 v2 v3 t0 v3 1
  else
    X6_change_L69 m_s m_found v1 v2 v3 t0 v3 0
def X6_change (m_s : Nat → Int32) (m_found : Nat → Int32) (v1 : Int32) (v2 : Int32) (v3 : Int32) : Option (Int32 × (Nat → Int32) × (Nat → Int32)) :=
  Option.bind (X6_isBow m_s v1) fun r2 =>
  if (xb r2) = 0 then
    Option.bind (X6_no m_found 0) fun r19 =>
    some (r19.1, m_s, r19.2)
  else
    if (xb (X6_in1 v2 0 3)) = 0 then
      Option.bind (X6_no m_found 0) fun r19_1 =>
      some (r19_1.1, m_s, r19_1.2)
    else
      if v2 = 0 then
        X6_change_L56 m_s m_found v1 v2 v3 6
      else
        if v2 = 1 then
          X6_change_L56 m_s m_found v1 v2 v3 99
        else
          if v2 = 2 then
            X6_change_L56 m_s m_found v1 v2 v3 60
          else
            Option.bind (X6_allBows m_s) fun r53 =>
            X6_change_L56 m_s m_found v1 v2 v3 r53
def X5_contract_L75 (x_found : Nat → Int32) (sc_aheads : Nat → Int32) (v2 : Int32) (v4 : Int32) (t0 : Int32) : Option (Int32 × (Nat → Int32) × (Nat → Int32)) :=
  if inr v2 9 then
    if t0 = v4 then
      some (0, x_found, (upd sc_aheads v2.toNatClampNeg t0))
    else
      some (1, x_found, (upd sc_aheads v2.toNatClampNeg t0))
  else none
def X5_contract (x_found : Nat → Int32) (sc_bows : Int32) (sc_aheads : Nat → Int32) (v1 : Int32) (v2 : Int32) (v3 : Int32) : Option (Int32 × (Nat → Int32) × (Nat → Int32)) :=
  if (xb (X2_isBow sc_bows v1)) = 0 then
    Option.bind (X5_finding x_found 0) fun r38 =>
    some (r38.1, r38.2, sc_aheads)
  else
    if (xb (X2_isBow sc_bows v2)) = 0 then
      Option.bind (X5_finding x_found 0) fun r38_1 =>
      some (r38_1.1, r38_1.2, sc_aheads)
    else
      if v1 = v2 then
        Option.bind (X5_finding x_found 0) fun r38_2 =>
        some (r38_2.1, r38_2.2, sc_aheads)
      else
        if (xb (X5_isIn v3 0 1)) = 0 then
          Option.bind (X5_finding x_found 0) fun r38_3 =>
          some (r38_3.1, r38_3.2, sc_aheads)
        else
          if inr v2 9 then
            if v3 = 1 then
              X5_contract_L75 x_found sc_aheads v2 (sc_aheads v2.toNatClampNeg) ((sc_aheads v2.toNatClampNeg) ||| (xshl 1 v1))
            else
              X5_contract_L75 x_found sc_aheads v2 (sc_aheads v2.toNatClampNeg) ((sc_aheads v2.toNatClampNeg) &&& ((xshl 1 v1) ^^^ (-1)))
          else none
def X6_contract_L69 (m_s : Nat → Int32) (m_found : Nat → Int32) (v2 : Int32) (v4 : Int32) (t1 : Int32) (t2 : Int32) (t3 : Int32) : Option (Int32 × (Nat → Int32) × (Nat → Int32)) :=
  Option.bind (X6_puts m_s t1 t2 t3) fun r69 =>
  Option.bind (X6_get r69 v2 3) fun r77 =>
  if v4 = r77 then
    some (0, r69, m_found)
  else
    some (1, r69, m_found)
def X6_contract (m_s : Nat → Int32) (m_found : Nat → Int32) (v1 : Int32) (v2 : Int32) (v3 : Int32) : Option (Int32 × (Nat → Int32) × (Nat → Int32)) :=
  Option.bind (X6_isBow m_s v1) fun r2 =>
  if (xb r2) = 0 then
    Option.bind (X6_no m_found 0) fun r32 =>
    some (r32.1, m_s, r32.2)
  else
    Option.bind (X6_isBow m_s v2) fun r10 =>
    if (xb r10) = 0 then
      Option.bind (X6_no m_found 0) fun r32_1 =>
      some (r32_1.1, m_s, r32_1.2)
    else
      if v1 = v2 then
        Option.bind (X6_no m_found 0) fun r32_2 =>
        some (r32_2.1, m_s, r32_2.2)
      else
        if (xb (X6_in1 v3 0 1)) = 0 then
          Option.bind (X6_no m_found 0) fun r32_3 =>
          some (r32_3.1, m_s, r32_3.2)
        else
          Option.bind (X6_get m_s v2 3) fun r39 =>
          if v3 = 1 then
            X6_contract_L69 m_s m_found v2 r39 v2 3 (r39 ||| (xshl 1 v1))
          else
            X6_contract_L69 m_s m_found v2 r39 v2 3 (r39 &&& ((xshl 1 v1) ^^^ (-1)))
def X5_put_sc_rules (sc_rules : Nat → Int32) (v1 : Int32) (v2 : Int32) : Option (Int32 × (Nat → Int32)) :=
  if inr v1 5 then
    if inr v1 5 then
      some ((sc_rules v1.toNatClampNeg), (upd sc_rules v1.toNatClampNeg v2))
    else none
  else none
def X5_rule (x_found : Nat → Int32) (sc_rules : Nat → Int32) (v1 : Int32) (v2 : Int32) : Option (Int32 × (Nat → Int32) × (Nat → Int32)) :=
  if (xb (X5_isIn v1 0 4)) = 0 then
    Option.bind (X5_finding x_found 0) fun r24 =>
    some (r24.1, r24.2, sc_rules)
  else
    if inr v1 5 then
      if (xb (X5_isIn v2 0 (xstat 0 v1.toNatClampNeg))) = 0 then
        Option.bind (X5_finding x_found 0) fun r24_1 =>
        some (r24_1.1, r24_1.2, sc_rules)
      else
        Option.bind (X5_put_sc_rules sc_rules v1 v2) fun r37 =>
        some (r37.1, x_found, r37.2)
    else none
def X6_greatestRule (v0 : Int32) : Int32 :=
  if v0 = 0 then
    9
  else
    if v0 = 1 then
      10
    else
      if v0 = 4 then
        999
      else
        99
def X6_rule (m_s : Nat → Int32) (m_found : Nat → Int32) (v1 : Int32) (v2 : Int32) : Option (Int32 × (Nat → Int32) × (Nat → Int32)) :=
  if (xb (X6_in1 v1 0 4)) = 0 then
    Option.bind (X6_no m_found 0) fun r23 =>
    some (r23.1, m_s, r23.2)
  else
    if (xb (X6_in1 v2 0 (X6_greatestRule v1))) = 0 then
      Option.bind (X6_no m_found 0) fun r23_1 =>
      some (r23_1.1, m_s, r23_1.2)
    else
      if inr (5 + v1) 83 then
        if inr (5 + v1) 83 then
          some ((m_s (5 + v1).toNatClampNeg), (upd m_s (5 + v1).toNatClampNeg v2), m_found)
        else none
      else none
def X5_noise (x_found : Nat → Int32) (sc_bows : Int32) (sc_kinds : Nat → Int32) (sc_loves : Nat → Int32) (v1 : Int32) (v2 : Int32) : Option (Int32 × (Nat → Int32)) :=
  if (xb (X2_isBow sc_bows v1)) = 0 then
    Option.bind (X5_finding x_found 0) fun r24 =>
    some (r24.1, r24.2)
  else
    if (xb (X5_isIn v2 0 999)) = 0 then
      Option.bind (X5_finding x_found 0) fun r24_1 =>
      some (r24_1.1, r24_1.2)
    else
      Option.bind (X2_noiseBy sc_kinds sc_loves v1 v2) fun r34 =>
      some (r34, x_found)
def X6_noise (m_s : Nat → Int32) (m_found : Nat → Int32) (v1 : Int32) (v2 : Int32) : Option (Int32 × (Nat → Int32)) :=
  Option.bind (X6_isBow m_s v1) fun r2 =>
  if (xb r2) = 0 then
    Option.bind (X6_no m_found 0) fun r30 =>
    some (r30.1, r30.2)
  else
    if (xb (X6_in1 v2 0 999)) = 0 then
      Option.bind (X6_no m_found 0) fun r30_1 =>
      some (r30_1.1, r30_1.2)
    else
      Option.bind (X6_noiseBy m_s v1 v2) fun r22 =>
      some (r22, m_found)
def X2_couldCome (sc_aheads : Nat → Int32) (v1 : Int32) (v2 : Int32) : Option (Bool) :=
  if (v2 &&& (xshl 1 v1)) = 0 then
    if inr v1 9 then
      if ((sc_aheads v1.toNatClampNeg) &&& (v2 ^^^ (-1))) = 0 then
        some true
      else
        some false
    else none
  else
    some false
def X2_enter (sc_there : Int32) (sc_came : Int32) (sc_heard : Int32) (sc_clock : Int32) (sc_kinds : Nat → Int32) (sc_loves : Nat → Int32) (sc_seconds : Nat → Int32) (sc_stage : Nat → Int32) (sc_noises : Nat → Int32) (sc_times : Nat → Int32) (v1 : Int32) : Option (Int32 × Int32 × Int32 × Int32 × Int32 × (Nat → Int32) × (Nat → Int32) × (Nat → Int32)) :=
  Option.bind (X2_leftByLatest sc_there sc_kinds sc_loves sc_stage) fun r3 =>
  Option.bind (X2_noiseBy sc_kinds sc_loves v1 r3) fun r6 =>
  Option.bind (X2_lastedBy sc_kinds sc_seconds v1) fun r12 =>
  if inr sc_there 9 then
    if inr sc_there 9 then
      if inr sc_there 9 then
        some (r6, (sc_there + 1), (sc_came ||| (xshl 1 v1)), (sc_heard + r6), (sc_clock + r12), (upd sc_stage sc_there.toNatClampNeg v1), (upd sc_noises sc_there.toNatClampNeg r6), (upd sc_times sc_there.toNatClampNeg r12))
      else none
    else none
  else none
def X5_come (x_found : Nat → Int32) (sc_bows : Int32) (sc_there : Int32) (sc_came : Int32) (sc_heard : Int32) (sc_clock : Int32) (sc_kinds : Nat → Int32) (sc_loves : Nat → Int32) (sc_seconds : Nat → Int32) (sc_aheads : Nat → Int32) (sc_stage : Nat → Int32) (sc_noises : Nat → Int32) (sc_times : Nat → Int32) (v1 : Int32) : Option (Int32 × (Nat → Int32) × Int32 × Int32 × Int32 × Int32 × (Nat → Int32) × (Nat → Int32) × (Nat → Int32)) :=
  if (xb (X2_isBow sc_bows v1)) = 0 then
    Option.bind (X5_finding x_found 0) fun r13 =>
    some (r13.1, r13.2, sc_there, sc_came, sc_heard, sc_clock, sc_stage, sc_noises, sc_times)
  else
    Option.bind (X2_couldCome sc_aheads v1 sc_came) fun r29 =>
    if (xb r29) = 0 then
      Option.bind (X5_finding x_found 4) fun r37 =>
      some (r37.1, r37.2, sc_there, sc_came, sc_heard, sc_clock, sc_stage, sc_noises, sc_times)
    else
      Option.bind (X2_enter sc_there sc_came sc_heard sc_clock sc_kinds sc_loves sc_seconds sc_stage sc_noises sc_times v1) fun r46 =>
      some (r46.1, x_found, r46.2.1, r46.2.2.1, r46.2.2.2.1, r46.2.2.2.2.1, r46.2.2.2.2.2.1, r46.2.2.2.2.2.2.1, r46.2.2.2.2.2.2.2)
def X6_stageSet_L4 (m_s : Nat → Int32) : Nat → Int32 → Int32 → Option (Int32)
  | 0, _, _ => none
  | n + 1, v1, v2 =>
    if (m_s 2) ≤ v2 then
      some v1
    else
      Option.bind (X6_whoAt m_s v2) fun r18 =>
      X6_stageSet_L4 m_s n (v1 ||| (xshl 1 r18)) (v2 + 1)
def X6_stageSet (m_s : Nat → Int32) : Option (Int32) :=
  X6_stageSet_L4 m_s FU 0 0
def X6_canBehind (m_s : Nat → Int32) (v1 : Int32) (v2 : Int32) : Option (Bool) :=
  if (xb (X6_isIn v2 v1)) = 0 then
    Option.bind (X6_get m_s v1 3) fun r11 =>
    if (r11 &&& (v2 ^^^ (-1))) = 0 then
      some true
    else
      some false
  else
    some false
def X6_comes (m_s : Nat → Int32) (v1 : Int32) : Option (Int32 × (Nat → Int32)) :=
  Option.bind (X6_latest m_s) fun r4 =>
  Option.bind (X6_leftBy m_s r4) fun r7 =>
  Option.bind (X6_noiseBy m_s v1 r7) fun r10 =>
  if inr (46 + (3 * (m_s 2))) 83 then
    if inr ((46 + (3 * (m_s 2))) + 1) 83 then
      Option.bind (X6_secondsOf (upd (upd m_s (46 + (3 * (m_s 2))).toNatClampNeg v1) ((46 + (3 * (m_s 2))) + 1).toNatClampNeg r10) v1) fun r51 =>
      if inr ((46 + (3 * (m_s 2))) + 2) 83 then
        if inr ((46 + (3 * (m_s 2))) + 2) 83 then
          some (r10, (upd (upd (upd (upd (upd (upd m_s (46 + (3 * (m_s 2))).toNatClampNeg v1) ((46 + (3 * (m_s 2))) + 1).toNatClampNeg r10) ((46 + (3 * (m_s 2))) + 2).toNatClampNeg r51) 2 (((upd (upd (upd m_s (46 + (3 * (m_s 2))).toNatClampNeg v1) ((46 + (3 * (m_s 2))) + 1).toNatClampNeg r10) ((46 + (3 * (m_s 2))) + 2).toNatClampNeg r51) 2) + 1)) 0 (((upd (upd (upd (upd m_s (46 + (3 * (m_s 2))).toNatClampNeg v1) ((46 + (3 * (m_s 2))) + 1).toNatClampNeg r10) ((46 + (3 * (m_s 2))) + 2).toNatClampNeg r51) 2 (((upd (upd (upd m_s (46 + (3 * (m_s 2))).toNatClampNeg v1) ((46 + (3 * (m_s 2))) + 1).toNatClampNeg r10) ((46 + (3 * (m_s 2))) + 2).toNatClampNeg r51) 2) + 1)) 0) + r10)) 1 (((upd (upd (upd (upd (upd m_s (46 + (3 * (m_s 2))).toNatClampNeg v1) ((46 + (3 * (m_s 2))) + 1).toNatClampNeg r10) ((46 + (3 * (m_s 2))) + 2).toNatClampNeg r51) 2 (((upd (upd (upd m_s (46 + (3 * (m_s 2))).toNatClampNeg v1) ((46 + (3 * (m_s 2))) + 1).toNatClampNeg r10) ((46 + (3 * (m_s 2))) + 2).toNatClampNeg r51) 2) + 1)) 0 (((upd (upd (upd (upd m_s (46 + (3 * (m_s 2))).toNatClampNeg v1) ((46 + (3 * (m_s 2))) + 1).toNatClampNeg r10) ((46 + (3 * (m_s 2))) + 2).toNatClampNeg r51) 2 (((upd (upd (upd m_s (46 + (3 * (m_s 2))).toNatClampNeg v1) ((46 + (3 * (m_s 2))) + 1).toNatClampNeg r10) ((46 + (3 * (m_s 2))) + 2).toNatClampNeg r51) 2) + 1)) 0) + r10)) 1) + ((upd (upd (upd (upd (upd m_s (46 + (3 * (m_s 2))).toNatClampNeg v1) ((46 + (3 * (m_s 2))) + 1).toNatClampNeg r10) ((46 + (3 * (m_s 2))) + 2).toNatClampNeg r51) 2 (((upd (upd (upd m_s (46 + (3 * (m_s 2))).toNatClampNeg v1) ((46 + (3 * (m_s 2))) + 1).toNatClampNeg r10) ((46 + (3 * (m_s 2))) + 2).toNatClampNeg r51) 2) + 1)) 0 (((upd (upd (upd (upd m_s (46 + (3 * (m_s 2))).toNatClampNeg v1) ((46 + (3 * (m_s 2))) + 1).toNatClampNeg r10) ((46 + (3 * (m_s 2))) + 2).toNatClampNeg r51) 2 (((upd (upd (upd m_s (46 + (3 * (m_s 2))).toNatClampNeg v1) ((46 + (3 * (m_s 2))) + 1).toNatClampNeg r10) ((46 + (3 * (m_s 2))) + 2).toNatClampNeg r51) 2) + 1)) 0) + r10)) ((46 + (3 * (m_s 2))) + 2).toNatClampNeg))))
        else none
      else none
    else none
  else none
def X6_come (m_s : Nat → Int32) (m_found : Nat → Int32) (v1 : Int32) : Option (Int32 × (Nat → Int32) × (Nat → Int32)) :=
  Option.bind (X6_isBow m_s v1) fun r2 =>
  if (xb r2) = 0 then
    Option.bind (X6_no m_found 0) fun r10 =>
    some (r10.1, m_s, r10.2)
  else
    Option.bind (X6_stageSet m_s) fun r17 =>
    Option.bind (X6_canBehind m_s v1 r17) fun r20 =>
    if (xb r20) = 0 then
      Option.bind (X6_no m_found 4) fun r36 =>
      some (r36.1, m_s, r36.2)
    else
      Option.bind (X6_comes m_s v1) fun r28 =>
      some (r28.1, r28.2, m_found)
def X2_leave (sc_there : Int32) (sc_came : Int32) (sc_heard : Int32) (sc_clock : Int32) (sc_stage : Nat → Int32) (sc_noises : Nat → Int32) (sc_times : Nat → Int32) : Option (Int32 × Int32 × Int32 × Int32 × Int32) :=
  if inr (sc_there - 1) 9 then
    if inr (sc_there - 1) 9 then
      if inr (sc_there - 1) 9 then
        some ((sc_stage (sc_there - 1).toNatClampNeg), (sc_there - 1), (sc_came &&& ((xshl 1 (sc_stage (sc_there - 1).toNatClampNeg)) ^^^ (-1))), (sc_heard - (sc_noises (sc_there - 1).toNatClampNeg)), (sc_clock - (sc_times (sc_there - 1).toNatClampNeg)))
      else none
    else none
  else none
def X5_back (x_found : Nat → Int32) (sc_there : Int32) (sc_came : Int32) (sc_heard : Int32) (sc_clock : Int32) (sc_stage : Nat → Int32) (sc_noises : Nat → Int32) (sc_times : Nat → Int32) : Option (Int32 × (Nat → Int32) × Int32 × Int32 × Int32 × Int32) :=
  if sc_there = 0 then
    Option.bind (X5_finding x_found 3) fun r12 =>
    some (r12.1, r12.2, sc_there, sc_came, sc_heard, sc_clock)
  else
    Option.bind (X2_leave sc_there sc_came sc_heard sc_clock sc_stage sc_noises sc_times) fun r20 =>
    some (r20.1, x_found, r20.2.1, r20.2.2.1, r20.2.2.2.1, r20.2.2.2.2)
def X6_back (m_s : Nat → Int32) (m_found : Nat → Int32) : Option (Int32 × (Nat → Int32) × (Nat → Int32)) :=
  if (m_s 2) = 0 then
    Option.bind (X6_no m_found 3) fun r11 =>
    some (r11.1, m_s, r11.2)
  else
    if inr ((46 + (3 * ((upd m_s 2 ((m_s 2) - 1)) 2))) + 1) 83 then
      if inr ((46 + (3 * ((upd m_s 2 ((m_s 2) - 1)) 2))) + 2) 83 then
        if inr (46 + (3 * ((upd m_s 2 ((m_s 2) - 1)) 2))) 83 then
          some (((upd (upd (upd m_s 2 ((m_s 2) - 1)) 0 (((upd m_s 2 ((m_s 2) - 1)) 0) - ((upd m_s 2 ((m_s 2) - 1)) ((46 + (3 * ((upd m_s 2 ((m_s 2) - 1)) 2))) + 1).toNatClampNeg))) 1 (((upd (upd m_s 2 ((m_s 2) - 1)) 0 (((upd m_s 2 ((m_s 2) - 1)) 0) - ((upd m_s 2 ((m_s 2) - 1)) ((46 + (3 * ((upd m_s 2 ((m_s 2) - 1)) 2))) + 1).toNatClampNeg))) 1) - ((upd (upd m_s 2 ((m_s 2) - 1)) 0 (((upd m_s 2 ((m_s 2) - 1)) 0) - ((upd m_s 2 ((m_s 2) - 1)) ((46 + (3 * ((upd m_s 2 ((m_s 2) - 1)) 2))) + 1).toNatClampNeg))) ((46 + (3 * ((upd m_s 2 ((m_s 2) - 1)) 2))) + 2).toNatClampNeg))) (46 + (3 * ((upd m_s 2 ((m_s 2) - 1)) 2))).toNatClampNeg), (upd (upd (upd m_s 2 ((m_s 2) - 1)) 0 (((upd m_s 2 ((m_s 2) - 1)) 0) - ((upd m_s 2 ((m_s 2) - 1)) ((46 + (3 * ((upd m_s 2 ((m_s 2) - 1)) 2))) + 1).toNatClampNeg))) 1 (((upd (upd m_s 2 ((m_s 2) - 1)) 0 (((upd m_s 2 ((m_s 2) - 1)) 0) - ((upd m_s 2 ((m_s 2) - 1)) ((46 + (3 * ((upd m_s 2 ((m_s 2) - 1)) 2))) + 1).toNatClampNeg))) 1) - ((upd (upd m_s 2 ((m_s 2) - 1)) 0 (((upd m_s 2 ((m_s 2) - 1)) 0) - ((upd m_s 2 ((m_s 2) - 1)) ((46 + (3 * ((upd m_s 2 ((m_s 2) - 1)) 2))) + 1).toNatClampNeg))) ((46 + (3 * ((upd m_s 2 ((m_s 2) - 1)) 2))) + 2).toNatClampNeg))), m_found)
        else none
      else none
    else none
def X2_empty : Option (Int32 × Int32 × Int32 × Int32) :=
  some (0, 0, 0, 0)
def X5_clear (sc_there : Int32) : Option (Int32 × Int32 × Int32 × Int32 × Int32) :=
  Option.bind (X2_empty) fun r12 =>
  some (sc_there, r12.1, r12.2.1, r12.2.2.1, r12.2.2.2)
def X6_clear (m_s : Nat → Int32) : Option (Int32 × (Nat → Int32)) :=
  some ((m_s 2), (upd (upd (upd m_s 2 0) 0 0) 1 0))
def X5_stood (x_found : Nat → Int32) (sc_there : Int32) (sc_stage : Nat → Int32) (v1 : Int32) : Option (Int32 × (Nat → Int32)) :=
  if 0 ≤ v1 then
    if v1 < sc_there then
      if inr v1 9 then
        some ((sc_stage v1.toNatClampNeg), x_found)
      else none
    else
      Option.bind (X5_finding x_found 3) fun r23 =>
      some (r23.1, r23.2)
  else
    Option.bind (X5_finding x_found 0) fun r6 =>
    some (r6.1, r6.2)
def X6_stood (m_s : Nat → Int32) (m_found : Nat → Int32) (v1 : Int32) : Option (Int32 × (Nat → Int32)) :=
  if 0 ≤ v1 then
    if (m_s 2) ≤ v1 then
      Option.bind (X6_no m_found 3) fun r30 =>
      some (r30.1, r30.2)
    else
      Option.bind (X6_whoAt m_s v1) fun r22 =>
      some (r22, m_found)
  else
    Option.bind (X6_no m_found 0) fun r6 =>
    some (r6.1, r6.2)
def X2_falls_L6 (sc_there : Int32) (sc_kinds : Nat → Int32) (sc_loves : Nat → Int32) (sc_stage : Nat → Int32) : Nat → Int32 → Int32 → Int32 → Option (Int32)
  | 0, _, _, _ => none
  | n + 1, v1, v2, v3 =>
    if sc_there ≤ v3 then
      some v1
    else
      if inr v3 9 then
        if inr (sc_stage v3.toNatClampNeg) 9 then
          if v2 ≤ (sc_loves (sc_stage v3.toNatClampNeg).toNatClampNeg) then
            if inr v3 9 then
              Option.bind (X2_leftBy sc_kinds sc_loves (sc_stage v3.toNatClampNeg)) fun r39 =>
              X2_falls_L6 sc_there sc_kinds sc_loves sc_stage n v1 r39 (v3 + 1)
            else none
          else
            if inr v3 9 then
              Option.bind (X2_leftBy sc_kinds sc_loves (sc_stage v3.toNatClampNeg)) fun r39_1 =>
              X2_falls_L6 sc_there sc_kinds sc_loves sc_stage n (v1 + 1) r39_1 (v3 + 1)
            else none
        else none
      else none
def X2_falls (sc_there : Int32) (sc_kinds : Nat → Int32) (sc_loves : Nat → Int32) (sc_stage : Nat → Int32) : Option (Int32) :=
  X2_falls_L6 sc_there sc_kinds sc_loves sc_stage FU 0 0 0
def X2_comers_L4 (sc_bows : Int32) (sc_came : Int32) (sc_aheads : Nat → Int32) : Nat → Int32 → Int32 → Option (Int32)
  | 0, _, _ => none
  | n + 1, v1, v2 =>
    if sc_bows ≤ v2 then
      some v1
    else
      Option.bind (X2_couldCome sc_aheads v2 sc_came) fun r18 =>
      if (xb r18) = 0 then
        X2_comers_L4 sc_bows sc_came sc_aheads n v1 (v2 + 1)
      else
        X2_comers_L4 sc_bows sc_came sc_aheads n (v1 ||| (xshl 1 v2)) (v2 + 1)
def X2_comers (sc_bows : Int32) (sc_came : Int32) (sc_aheads : Nat → Int32) : Option (Int32) :=
  X2_comers_L4 sc_bows sc_came sc_aheads FU 0 0
def X5_now (x_found : Nat → Int32) (sc_bows : Int32) (sc_there : Int32) (sc_came : Int32) (sc_heard : Int32) (sc_clock : Int32) (sc_kinds : Nat → Int32) (sc_loves : Nat → Int32) (sc_aheads : Nat → Int32) (sc_stage : Nat → Int32) (v1 : Int32) : Option (Int32 × (Nat → Int32)) :=
  if v1 = 0 then
    some (sc_there, x_found)
  else
  if v1 = 1 then
    some (sc_heard, x_found)
  else
  if v1 = 2 then
    some (sc_clock, x_found)
  else
  if v1 = 3 then
    some (sc_came, x_found)
  else
  if v1 = 4 then
    Option.bind (X2_comers sc_bows sc_came sc_aheads) fun r76 =>
    some (r76, x_found)
  else
  if v1 = 5 then
    Option.bind (X2_falls sc_there sc_kinds sc_loves sc_stage) fun r84 =>
    some (r84, x_found)
  else
  Option.bind (X5_finding x_found 0) fun r90 =>
  some (r90.1, r90.2)
def X6_fallsOfStage_L34 (k4 : Int32 → Int32 → Option (Int32)) (m_s : Nat → Int32) (v2 : Int32) (t0 : Int32) (t1 : Int32) : Option (Int32) :=
  Option.bind (X6_whoAt m_s v2) fun r37 =>
  Option.bind (X6_get m_s r37 1) fun r41 =>
  if t1 ≤ r41 then
    k4 (t0 + 0) (v2 + 1)
  else
    k4 (t0 + 1) (v2 + 1)
def X6_fallsOfStage_L4 (m_s : Nat → Int32) : Nat → Int32 → Int32 → Option (Int32)
  | 0, _, _ => none
  | n + 1, v1, v2 =>
    if (m_s 2) ≤ v2 then
      some v1
    else
      if v2 = 0 then
        X6_fallsOfStage_L34 (fun v10 v20 => X6_fallsOfStage_L4 m_s n v10 v20) m_s v2 v1 0
      else
        Option.bind (X6_whoAt m_s (v2 - 1)) fun r28 =>
        Option.bind (X6_leaves m_s r28) fun r31 =>
        X6_fallsOfStage_L34 (fun v10 v20 => X6_fallsOfStage_L4 m_s n v10 v20) m_s v2 v1 r31
def X6_fallsOfStage (m_s : Nat → Int32) : Option (Int32) :=
  X6_fallsOfStage_L4 m_s FU 0 0
def X6_canSet_L4 (m_s : Nat → Int32) : Nat → Int32 → Int32 → Int32 → Option (Int32)
  | 0, _, _, _ => none
  | n + 1, v1, v2, v3 =>
    if (m_s 3) ≤ v3 then
      some v2
    else
      Option.bind (X6_canBehind m_s v3 v1) fun r18 =>
      if (xb r18) = 0 then
        X6_canSet_L4 m_s n v1 (v2 ||| 0) (v3 + 1)
      else
        X6_canSet_L4 m_s n v1 (v2 ||| (xshl 1 v3)) (v3 + 1)
def X6_canSet (m_s : Nat → Int32) (v1 : Int32) : Option (Int32) :=
  X6_canSet_L4 m_s FU v1 0 0
def X6_now (m_s : Nat → Int32) (m_found : Nat → Int32) (v1 : Int32) : Option (Int32 × (Nat → Int32)) :=
  if v1 = 0 then
    some ((m_s 2), m_found)
  else
  if v1 = 1 then
    some ((m_s 0), m_found)
  else
  if v1 = 2 then
    some ((m_s 1), m_found)
  else
  if v1 = 3 then
    Option.bind (X6_stageSet m_s) fun r62 =>
    some (r62, m_found)
  else
  if v1 = 4 then
    Option.bind (X6_stageSet m_s) fun r68 =>
    Option.bind (X6_canSet m_s r68) fun r71 =>
    some (r71, m_found)
  else
  if v1 = 5 then
    Option.bind (X6_fallsOfStage m_s) fun r76 =>
    some (r76, m_found)
  else
  Option.bind (X6_no m_found 0) fun r82 =>
  some (r82.1, r82.2)
def X1_startFrom_L40 (sc_kinds : Nat → Int32) (sc_loves : Nat → Int32) (sc_aheads : Nat → Int32) (od_kinds : Nat → Int32) (od_loves : Nat → Int32) (od_aheads : Nat → Int32) (t1 : Int32) (od_bows_ : Int32) (od_came_ : Int32) : Option (Int32 × Int32 × Int32 × Int32 × (Nat → Int32) × (Nat → Int32) × (Nat → Int32)) :=
  some (od_bows_, od_came_, t1, ((xshl 1 od_bows_) - 1), (va_cpy sc_kinds od_kinds (Int32.toNatClampNeg 0) (Int32.toNatClampNeg 0) (Int32.toNatClampNeg 9)), (va_cpy sc_loves od_loves (Int32.toNatClampNeg 0) (Int32.toNatClampNeg 0) (Int32.toNatClampNeg 9)), (va_cpy sc_aheads od_aheads (Int32.toNatClampNeg 0) (Int32.toNatClampNeg 0) (Int32.toNatClampNeg 9)))
def X1_startFrom (sc_bows : Int32) (sc_there : Int32) (sc_came : Int32) (sc_kinds : Nat → Int32) (sc_loves : Nat → Int32) (sc_aheads : Nat → Int32) (sc_stage : Nat → Int32) (od_kinds : Nat → Int32) (od_loves : Nat → Int32) (od_aheads : Nat → Int32) : Option (Int32 × Int32 × Int32 × Int32 × (Nat → Int32) × (Nat → Int32) × (Nat → Int32)) :=
  if sc_there = 0 then
    X1_startFrom_L40 sc_kinds sc_loves sc_aheads od_kinds od_loves od_aheads 9 sc_bows sc_came
  else
    if inr (sc_there - 1) 9 then
      X1_startFrom_L40 sc_kinds sc_loves sc_aheads od_kinds od_loves od_aheads (sc_stage (sc_there - 1).toNatClampNeg) sc_bows sc_came
    else none
def X1_canFollow (od_aheads : Nat → Int32) (v1 : Int32) (v2 : Int32) : Option (Bool) :=
  if (v2 &&& (xshl 1 v1)) = 0 then
    if inr v1 9 then
      if ((od_aheads v1.toNatClampNeg) &&& (v2 ^^^ (-1))) = 0 then
        some true
      else
        some false
    else none
  else
    some false
def X1_haveWay_L17 (k7 : Int32 → Int32 → Option (Bool)) (od_bows : Int32) (od_aheads : Nat → Int32) : Nat → Int32 → Int32 → Int32 → Option (Bool)
  | 0, _, _, _ => none
  | n + 1, v1, v2, v3 =>
    if od_bows ≤ v3 then
      k7 v1 (v2 + 1)
    else
      Option.bind (X1_canFollow od_aheads v3 v1) fun r28 =>
      if (xb r28) = 0 then
        X1_haveWay_L17 k7 od_bows od_aheads n v1 v2 (v3 + 1)
      else
        X1_haveWay_L17 k7 od_bows od_aheads n (v1 ||| (xshl 1 v3)) v2 (v3 + 1)
def X1_haveWay_L7 (od_bows : Int32) (od_full : Int32) (od_aheads : Nat → Int32) : Nat → Int32 → Int32 → Option (Bool)
  | 0, _, _ => none
  | n + 1, v1, v2 =>
    if od_bows ≤ v2 then
      if v1 = od_full then
        some true
      else
        some false
    else
      X1_haveWay_L17 (fun v10 v20 => X1_haveWay_L7 od_bows od_full od_aheads n v10 v20) od_bows od_aheads FU v1 v2 0
def X1_haveWay (od_bows : Int32) (od_came : Int32) (od_full : Int32) (od_aheads : Nat → Int32) : Option (Bool) :=
  X1_haveWay_L7 od_bows od_full od_aheads FU od_came 0
def X1_score_L64 (k2 : Int32 → Int32 → (Nat → Int32) → Option ((Nat → Int32))) (k39 : Int32 → Int32 → Int32 → Int32 → (Nat → Int32) → Option ((Nat → Int32))) (od_kinds : Nat → Int32) (od_loves : Nat → Int32) (v1 : Int32) (v2 : Int32) (v3 : Int32) (v4 : Int32) (t0 : Int32) (od_scores_ : (Nat → Int32)) : Option ((Nat → Int32)) :=
  if v1 = 1 then
    if inr ((v2 * 9) + v4) 90 then
      k39 v1 v2 v3 (v4 + 1) (upd od_scores_ ((v2 * 9) + v4).toNatClampNeg (-t0))
    else none
  else
    if inr v4 9 then
      if inr v4 9 then
        if inr ((v2 * 9) + v4) 90 then
          k39 v1 v2 v3 (v4 + 1) (upd od_scores_ ((v2 * 9) + v4).toNatClampNeg (X0_noiseOf (od_kinds v4.toNatClampNeg) (od_loves v4.toNatClampNeg) v3))
        else none
      else none
    else none
def X1_score_L39 (k2 : Int32 → Int32 → (Nat → Int32) → Option ((Nat → Int32))) (od_bows : Int32) (od_kinds : Nat → Int32) (od_loves : Nat → Int32) : Nat → Int32 → Int32 → Int32 → Int32 → (Nat → Int32) → Option ((Nat → Int32))
  | 0, _, _, _, _, _ => none
  | n + 1, v1, v2, v3, v4, od_scores_ =>
    if od_bows ≤ v4 then
      k2 v1 (v2 + 1) od_scores_
    else
      if inr v4 9 then
        if v3 ≤ (od_loves v4.toNatClampNeg) then
          X1_score_L64 (fun v10 v20 od_scores_0 => k2 v10 v20 od_scores_0) (fun v10 v20 v30 v40 od_scores_0 => X1_score_L39 k2 od_bows od_kinds od_loves n v10 v20 v30 v40 od_scores_0) od_kinds od_loves v1 v2 v3 v4 0 od_scores_
        else
          X1_score_L64 (fun v10 v20 od_scores_0 => k2 v10 v20 od_scores_0) (fun v10 v20 v30 v40 od_scores_0 => X1_score_L39 k2 od_bows od_kinds od_loves n v10 v20 v30 v40 od_scores_0) od_kinds od_loves v1 v2 v3 v4 1 od_scores_
      else none
def X1_score_L2 (od_bows : Int32) (od_kinds : Nat → Int32) (od_loves : Nat → Int32) : Nat → Int32 → Int32 → (Nat → Int32) → Option ((Nat → Int32))
  | 0, _, _, _ => none
  | n + 1, v1, v2, od_scores_ =>
    if 9 < v2 then
      some od_scores_
    else
      if od_bows ≤ v2 then
        X1_score_L39 (fun v10 v20 od_scores_0 => X1_score_L2 od_bows od_kinds od_loves n v10 v20 od_scores_0) od_bows od_kinds od_loves FU v1 v2 0 0 od_scores_
      else
        if inr v2 9 then
          if inr v2 9 then
            X1_score_L39 (fun v10 v20 od_scores_0 => X1_score_L2 od_bows od_kinds od_loves n v10 v20 od_scores_0) od_bows od_kinds od_loves FU v1 v2 (X0_leftBy (od_kinds v2.toNatClampNeg) (od_loves v2.toNatClampNeg)) 0 od_scores_
          else none
        else none
def X1_score (od_bows : Int32) (od_kinds : Nat → Int32) (od_loves : Nat → Int32) (od_scores : Nat → Int32) (v1 : Int32) : Option ((Nat → Int32)) :=
  X1_score_L2 od_bows od_kinds od_loves FU v1 0 od_scores
def X1_canStand_L45 (k17 : Int32 → Int32 → Option (Bool)) (od_aheads : Nat → Int32) (v1 : Int32) (v2 : Int32) (t0 : Int32) : Option (Bool) :=
  if t0 = 0 then
    k17 v1 (v2 + 1)
  else
    if inr v2 9 then
      if ((od_aheads v2.toNatClampNeg) &&& (v1 ^^^ (-1))) = 0 then
        k17 v1 (v2 + 1)
      else
        some false
    else none
def X1_canStand_L17 (od_bows : Int32) (od_came : Int32) (od_aheads : Nat → Int32) : Nat → Int32 → Int32 → Option (Bool)
  | 0, _, _ => none
  | n + 1, v1, v2 =>
    if od_bows ≤ v2 then
      some true
    else
      if ((v1 &&& (od_came ^^^ (-1))) &&& (xshl 1 v2)) = 0 then
        X1_canStand_L45 (fun v10 v20 => X1_canStand_L17 od_bows od_came od_aheads n v10 v20) od_aheads v1 v2 0
      else
        X1_canStand_L45 (fun v10 v20 => X1_canStand_L17 od_bows od_came od_aheads n v10 v20) od_aheads v1 v2 1
def X1_canStand (od_bows : Int32) (od_came : Int32) (od_aheads : Nat → Int32) (v1 : Int32) : Option (Bool) :=
  if (v1 &&& od_came) = od_came then
    X1_canStand_L17 od_bows od_came od_aheads FU v1 0
  else
    some false
def X1_findFollowers_L7 (od_bows : Int32) (od_aheads : Nat → Int32) (od_most : Nat → Int32) : Nat → Int32 → Int32 → Int32 → (Nat → Int32) → (Nat → Int32) → Option (Int32 × (Nat → Int32) × (Nat → Int32))
  | 0, _, _, _, _, _ => none
  | n + 1, v1, v2, od_many_, od_followers_, od_mostThen_ =>
    if od_bows ≤ v2 then
      some (od_many_, od_followers_, od_mostThen_)
    else
      Option.bind (X1_canFollow od_aheads v2 v1) fun r18 =>
      if (xb r18) = 0 then
        X1_findFollowers_L7 od_bows od_aheads od_most n v1 (v2 + 1) od_many_ od_followers_ od_mostThen_
      else
        if inr od_many_ 9 then
          if inr (((v1 ||| (xshl 1 v2)) * 9) + v2) 4608 then
            if inr od_many_ 9 then
              X1_findFollowers_L7 od_bows od_aheads od_most n v1 (v2 + 1) (od_many_ + 1) (upd od_followers_ od_many_.toNatClampNeg v2) (upd od_mostThen_ od_many_.toNatClampNeg (od_most (((v1 ||| (xshl 1 v2)) * 9) + v2).toNatClampNeg))
            else none
          else none
        else none
def X1_findFollowers (od_bows : Int32) (od_aheads : Nat → Int32) (od_most : Nat → Int32) (od_followers : Nat → Int32) (od_mostThen : Nat → Int32) (v1 : Int32) : Option (Int32 × (Nat → Int32) × (Nat → Int32)) :=
  X1_findFollowers_L7 od_bows od_aheads od_most FU v1 0 0 od_followers od_mostThen
def X1_mostBehind_L5 (od_many : Int32) (od_scores : Nat → Int32) (od_followers : Nat → Int32) (od_mostThen : Nat → Int32) : Nat → Int32 → Int32 → Int32 → Option (Int32)
  | 0, _, _, _ => none
  | n + 1, v1, v2, v3 =>
    if od_many ≤ v3 then
      if od_many = 0 then
        some 0
      else
        some v2
    else
      if inr v3 9 then
        if inr ((v1 * 9) + (od_followers v3.toNatClampNeg)) 90 then
          if inr v3 9 then
            X1_mostBehind_L5 od_many od_scores od_followers od_mostThen n v1 (xmax v2 ((od_scores ((v1 * 9) + (od_followers v3.toNatClampNeg)).toNatClampNeg) + (od_mostThen v3.toNatClampNeg))) (v3 + 1)
          else none
        else none
      else none
def X1_mostBehind (od_many : Int32) (od_scores : Nat → Int32) (od_followers : Nat → Int32) (od_mostThen : Nat → Int32) (v1 : Int32) : Option (Int32) :=
  X1_mostBehind_L5 od_many od_scores od_followers od_mostThen FU v1 (-1000000) 0
def X1_weigh_L33 (k10 : Int32 → Int32 → (Nat → Int32) → (Nat → Int32) → (Nat → Int32) → (Nat → Int32) → Option (Int32 × Int32 × (Nat → Int32) × (Nat → Int32) × (Nat → Int32) × (Nat → Int32))) (od_bows : Int32) (od_came : Int32) : Nat → Int32 → Int32 → Int32 → (Nat → Int32) → (Nat → Int32) → (Nat → Int32) → (Nat → Int32) → Option (Int32 × Int32 × (Nat → Int32) × (Nat → Int32) × (Nat → Int32) × (Nat → Int32))
  | 0, _, _, _, _, _, _, _ => none
  | n + 1, v2, v3, od_many_, od_scores_, od_most_, od_followers_, od_mostThen_ =>
    if od_bows ≤ v3 then
      k10 (v2 + (-1)) od_many_ od_scores_ od_most_ od_followers_ od_mostThen_
    else
      if ((v2 &&& (od_came ^^^ (-1))) &&& (xshl 1 v3)) = 0 then
        X1_weigh_L33 k10 od_bows od_came n v2 (v3 + 1) od_many_ od_scores_ od_most_ od_followers_ od_mostThen_
      else
        Option.bind (X1_mostBehind od_many_ od_scores_ od_followers_ od_mostThen_ v3) fun r68 =>
        if inr ((v2 * 9) + v3) 4608 then
          X1_weigh_L33 k10 od_bows od_came n v2 (v3 + 1) od_many_ od_scores_ (upd od_most_ ((v2 * 9) + v3).toNatClampNeg r68) od_followers_ od_mostThen_
        else none
def X1_weigh_L10 (od_bows : Int32) (od_came : Int32) (od_latest : Int32) (od_aheads : Nat → Int32) : Nat → Int32 → Int32 → (Nat → Int32) → (Nat → Int32) → (Nat → Int32) → (Nat → Int32) → Option (Int32 × Int32 × (Nat → Int32) × (Nat → Int32) × (Nat → Int32) × (Nat → Int32))
  | 0, _, _, _, _, _, _ => none
  | n + 1, v2, od_many_, od_scores_, od_most_, od_followers_, od_mostThen_ =>
    if v2 ≤ od_came then
      Option.bind (X1_findFollowers od_bows od_aheads od_most_ od_followers_ od_mostThen_ od_came) fun r89 =>
      Option.bind (X1_mostBehind r89.1 od_scores_ r89.2.1 r89.2.2 od_latest) fun r97 =>
      some (r97, r89.1, od_scores_, od_most_, r89.2.1, r89.2.2)
    else
      Option.bind (X1_canStand od_bows od_came od_aheads v2) fun r20 =>
      if (xb r20) = 0 then
        X1_weigh_L10 od_bows od_came od_latest od_aheads n (v2 + (-1)) od_many_ od_scores_ od_most_ od_followers_ od_mostThen_
      else
        Option.bind (X1_findFollowers od_bows od_aheads od_most_ od_followers_ od_mostThen_ v2) fun r28 =>
        X1_weigh_L33 (fun v20 od_many_0 od_scores_0 od_most_0 od_followers_0 od_mostThen_0 => X1_weigh_L10 od_bows od_came od_latest od_aheads n v20 od_many_0 od_scores_0 od_most_0 od_followers_0 od_mostThen_0) od_bows od_came FU v2 0 r28.1 od_scores_ od_most_ r28.2.1 r28.2.2
def X1_weigh (od_many : Int32) (od_bows : Int32) (od_came : Int32) (od_latest : Int32) (od_full : Int32) (od_kinds : Nat → Int32) (od_loves : Nat → Int32) (od_aheads : Nat → Int32) (od_scores : Nat → Int32) (od_most : Nat → Int32) (od_followers : Nat → Int32) (od_mostThen : Nat → Int32) (v1 : Int32) : Option (Int32 × Int32 × (Nat → Int32) × (Nat → Int32) × (Nat → Int32) × (Nat → Int32)) :=
  Option.bind (X1_score od_bows od_kinds od_loves od_scores v1) fun r2 =>
  X1_weigh_L10 od_bows od_came od_latest od_aheads FU od_full od_many r2 od_most od_followers od_mostThen
def X5_best (x_found : Nat → Int32) (sc_bows : Int32) (sc_there : Int32) (sc_came : Int32) (sc_kinds : Nat → Int32) (sc_loves : Nat → Int32) (sc_aheads : Nat → Int32) (sc_stage : Nat → Int32) (od_many : Int32) (od_bows : Int32) (od_came : Int32) (od_latest : Int32) (od_full : Int32) (od_kinds : Nat → Int32) (od_loves : Nat → Int32) (od_aheads : Nat → Int32) (od_scores : Nat → Int32) (od_most : Nat → Int32) (od_followers : Nat → Int32) (od_mostThen : Nat → Int32) (v1 : Int32) : Option (Int32 × (Nat → Int32) × Int32 × Int32 × Int32 × Int32 × Int32 × (Nat → Int32) × (Nat → Int32) × (Nat → Int32) × (Nat → Int32) × (Nat → Int32) × (Nat → Int32) × (Nat → Int32)) :=
  if (xb (X5_isIn v1 0 1)) = 0 then
    Option.bind (X5_finding x_found 0) fun r11 =>
    some (r11.1, r11.2, od_many, od_bows, od_came, od_latest, od_full, od_kinds, od_loves, od_aheads, od_scores, od_most, od_followers, od_mostThen)
  else
    Option.bind (X1_startFrom sc_bows sc_there sc_came sc_kinds sc_loves sc_aheads sc_stage od_kinds od_loves od_aheads) fun r23 =>
    Option.bind (X1_haveWay r23.1 r23.2.1 r23.2.2.2.1 r23.2.2.2.2.2.2) fun r30 =>
    if (xb r30) = 0 then
      Option.bind (X5_finding x_found 3) fun r38 =>
      some (r38.1, r38.2, od_many, r23.1, r23.2.1, r23.2.2.1, r23.2.2.2.1, r23.2.2.2.2.1, r23.2.2.2.2.2.1, r23.2.2.2.2.2.2, od_scores, od_most, od_followers, od_mostThen)
    else
      Option.bind (X1_weigh od_many r23.1 r23.2.1 r23.2.2.1 r23.2.2.2.1 r23.2.2.2.2.1 r23.2.2.2.2.2.1 r23.2.2.2.2.2.2 od_scores od_most od_followers od_mostThen v1) fun r47 =>
      if v1 = 1 then
        some ((-r47.1), x_found, r47.2.1, r23.1, r23.2.1, r23.2.2.1, r23.2.2.2.1, r23.2.2.2.2.1, r23.2.2.2.2.2.1, r23.2.2.2.2.2.2, r47.2.2.1, r47.2.2.2.1, r47.2.2.2.2.1, r47.2.2.2.2.2)
      else
        some (r47.1, x_found, r47.2.1, r23.1, r23.2.1, r23.2.2.1, r23.2.2.2.1, r23.2.2.2.2.1, r23.2.2.2.2.2.1, r23.2.2.2.2.2.2, r47.2.2.1, r47.2.2.2.1, r47.2.2.2.2.1, r47.2.2.2.2.2)
def X6_brings (m_s : Nat → Int32) (v1 : Int32) (v2 : Int32) (v3 : Int32) : Option (Int32) :=
  Option.bind (X6_leftBy m_s v3) fun r2 =>
  if v1 = 0 then
    Option.bind (X6_noiseBy m_s v2 r2) fun r15 =>
    some r15
  else
    Option.bind (X6_get m_s v2 1) fun r26 =>
    if r2 ≤ r26 then
      some 0
    else
      some (-1)
def X6_findsBest_L50 (k13 : Int32 → Int32 → Int32 → Int32 → (Nat → Int32) → Option (Int32 × (Nat → Int32))) (k22 : Int32 → Int32 → Int32 → Int32 → Int32 → (Nat → Int32) → Option (Int32 × (Nat → Int32))) (m_s : Nat → Int32) : Nat → Int32 → Int32 → Int32 → Int32 → Int32 → Int32 → Int32 → (Nat → Int32) → Option (Int32 × (Nat → Int32))
  | 0, _, _, _, _, _, _, _, _ => none
  | n + 1, v1, v2, v3, v4, v5, v6, v7, m_behind_ =>
    if (m_s 3) ≤ v7 then
      if inr (((10 * v4) + v5) + 1) 5120 then
        k22 v1 v2 v3 v4 (v5 + 1) (upd m_behind_ (((10 * v4) + v5) + 1).toNatClampNeg v6)
      else none
    else
      if (v4 &&& v2) = v2 then
        Option.bind (X6_canBehind m_s v7 v4) fun r74 =>
        if (xb r74) = 0 then
          X6_findsBest_L50 k13 k22 m_s n v1 v2 v3 v4 v5 v6 (v7 + 1) m_behind_
        else
          if inr (((10 * (v4 ||| (xshl 1 v7))) + v7) + 1) 5120 then
            if (m_behind_ (((10 * (v4 ||| (xshl 1 v7))) + v7) + 1).toNatClampNeg) = (-99999999) then
              X6_findsBest_L50 k13 k22 m_s n v1 v2 v3 v4 v5 (X6_most v6 (-99999999)) (v7 + 1) m_behind_
            else
              Option.bind (X6_brings m_s v1 v7 v5) fun r122 =>
              X6_findsBest_L50 k13 k22 m_s n v1 v2 v3 v4 v5 (X6_most v6 ((m_behind_ (((10 * (v4 ||| (xshl 1 v7))) + v7) + 1).toNatClampNeg) + r122)) (v7 + 1) m_behind_
          else none
      else
        if inr (((10 * v4) + v5) + 1) 5120 then
          k22 v1 v2 v3 v4 (v5 + 1) (upd m_behind_ (((10 * v4) + v5) + 1).toNatClampNeg v6)
        else none
def X6_findsBest_L22 (k13 : Int32 → Int32 → Int32 → Int32 → (Nat → Int32) → Option (Int32 × (Nat → Int32))) (m_s : Nat → Int32) : Nat → Int32 → Int32 → Int32 → Int32 → Int32 → (Nat → Int32) → Option (Int32 × (Nat → Int32))
  | 0, _, _, _, _, _, _ => none
  | n + 1, v1, v2, v3, v4, v5, m_behind_ =>
    if (m_s 3) ≤ v5 then
      k13 v1 v2 v3 (v4 + (-1)) m_behind_
    else
      if v4 = v3 then
        X6_findsBest_L50 (fun v10 v20 v30 v40 m_behind_0 => k13 v10 v20 v30 v40 m_behind_0) (fun v10 v20 v30 v40 v50 m_behind_0 => X6_findsBest_L22 k13 m_s n v10 v20 v30 v40 v50 m_behind_0) m_s FU v1 v2 v3 v4 v5 0 0 m_behind_
      else
        X6_findsBest_L50 (fun v10 v20 v30 v40 m_behind_0 => k13 v10 v20 v30 v40 m_behind_0) (fun v10 v20 v30 v40 v50 m_behind_0 => X6_findsBest_L22 k13 m_s n v10 v20 v30 v40 v50 m_behind_0) m_s FU v1 v2 v3 v4 v5 (-99999999) 0 m_behind_
def X6_findsBest_L13 (m_s : Nat → Int32) : Nat → Int32 → Int32 → Int32 → Int32 → (Nat → Int32) → Option (Int32 × (Nat → Int32))
  | 0, _, _, _, _, _ => none
  | n + 1, v1, v2, v3, v4, m_behind_ =>
    if v4 < v2 then
      Option.bind (X6_latest m_s) fun r181 =>
      if inr (((10 * v2) + r181) + 1) 5120 then
        some ((m_behind_ (((10 * v2) + r181) + 1).toNatClampNeg), m_behind_)
      else none
    else
      X6_findsBest_L22 (fun v10 v20 v30 v40 m_behind_0 => X6_findsBest_L13 m_s n v10 v20 v30 v40 m_behind_0) m_s FU v1 v2 v3 v4 (-1) m_behind_
def X6_findsBest (m_s : Nat → Int32) (m_behind : Nat → Int32) (v1 : Int32) : Option (Int32 × (Nat → Int32)) :=
  Option.bind (X6_stageSet m_s) fun r1 =>
  Option.bind (X6_allBows m_s) fun r6 =>
  X6_findsBest_L13 m_s FU v1 r1 r6 r6 m_behind
def X6_best (m_s : Nat → Int32) (m_found : Nat → Int32) (m_behind : Nat → Int32) (v1 : Int32) : Option (Int32 × (Nat → Int32) × (Nat → Int32)) :=
  if (xb (X6_in1 v1 0 1)) = 0 then
    Option.bind (X6_no m_found 0) fun r11 =>
    some (r11.1, r11.2, m_behind)
  else
    Option.bind (X6_findsBest m_s m_behind v1) fun r17 =>
    if r17.1 = (-99999999) then
      Option.bind (X6_no m_found 3) fun r29 =>
      some (r29.1, r29.2, r17.2)
    else
      if v1 = 0 then
        some (r17.1, m_found, r17.2)
      else
        some ((-r17.1), m_found, r17.2)
def bc1 (x : Int32) : Int32 := x - (xush x 1 &&& 1431655765)
def bc2 (x : Int32) : Int32 := (x &&& 858993459) + (xush x 2 &&& 858993459)
def bc3 (x : Int32) : Int32 := (x + xush x 4) &&& 252645135
def bc4 (x : Int32) : Int32 := x + xush x 8
def bc5 (x : Int32) : Int32 := x + xush x 16
def J6_bitCount_0f7a4 (v0 : Int32) : Int32 := bc5 (bc4 (bc3 (bc2 (bc1 v0)))) &&& 63
def X1_rest (od_came : Int32) (od_full : Int32) : Int32 :=
  (J6_bitCount_0f7a4 (od_full &&& (od_came ^^^ (-1))))
def X1_firstBehind_L8 (od_many : Int32) (od_scores : Nat → Int32) (od_followers : Nat → Int32) (od_mostThen : Nat → Int32) : Nat → Int32 → Int32 → Int32 → Option (Int32)
  | 0, _, _, _ => none
  | n + 1, v1, v2, v3 =>
    if od_many ≤ v3 then
      some 0
    else
      if inr v3 9 then
        if inr ((v1 * 9) + (od_followers v3.toNatClampNeg)) 90 then
          if inr v3 9 then
            if ((od_scores ((v1 * 9) + (od_followers v3.toNatClampNeg)).toNatClampNeg) + (od_mostThen v3.toNatClampNeg)) = v2 then
              if inr v3 9 then
                some (od_followers v3.toNatClampNeg)
              else none
            else
              X1_firstBehind_L8 od_many od_scores od_followers od_mostThen n v1 v2 (v3 + 1)
          else none
        else none
      else none
def X1_firstBehind (od_many : Int32) (od_scores : Nat → Int32) (od_followers : Nat → Int32) (od_mostThen : Nat → Int32) (v1 : Int32) : Option (Int32) :=
  Option.bind (X1_mostBehind od_many od_scores od_followers od_mostThen v1) fun r2 =>
  X1_firstBehind_L8 od_many od_scores od_followers od_mostThen FU v1 r2 0
def X1_findFirst_L25 (od_bows : Int32) (od_aheads : Nat → Int32) : Nat → Int32 → Int32 → Int32 → Int32 → Int32 → (Nat → Int32) → (Nat → Int32) → (Nat → Int32) → (Nat → Int32) → (Nat → Int32) → Option (Int32 × (Nat → Int32) × (Nat → Int32) × (Nat → Int32) × (Nat → Int32) × (Nat → Int32))
  | 0, _, _, _, _, _, _, _, _, _, _ => none
  | n + 1, v2, v3, v4, v5, od_many_, od_scores_, od_most_, od_followers_, od_mostThen_, od_first_ =>
    if v4 ≤ v5 then
      some (od_many_, od_scores_, od_most_, od_followers_, od_mostThen_, od_first_)
    else
      Option.bind (X1_findFollowers od_bows od_aheads od_most_ od_followers_ od_mostThen_ v2) fun r34 =>
      Option.bind (X1_firstBehind r34.1 od_scores_ r34.2.1 r34.2.2 v3) fun r45 =>
      if inr v5 9 then
        if inr v5 9 then
          X1_findFirst_L25 od_bows od_aheads n (v2 ||| (xshl 1 ((upd od_first_ v5.toNatClampNeg r45) v5.toNatClampNeg))) ((upd od_first_ v5.toNatClampNeg r45) v5.toNatClampNeg) v4 (v5 + 1) r34.1 od_scores_ od_most_ r34.2.1 r34.2.2 (upd od_first_ v5.toNatClampNeg r45)
        else none
      else none
def X1_findFirst (od_many : Int32) (od_bows : Int32) (od_came : Int32) (od_latest : Int32) (od_full : Int32) (od_kinds : Nat → Int32) (od_loves : Nat → Int32) (od_aheads : Nat → Int32) (od_scores : Nat → Int32) (od_most : Nat → Int32) (od_followers : Nat → Int32) (od_mostThen : Nat → Int32) (od_first : Nat → Int32) (v1 : Int32) : Option (Int32 × (Nat → Int32) × (Nat → Int32) × (Nat → Int32) × (Nat → Int32) × (Nat → Int32)) :=
  Option.bind (X1_weigh od_many od_bows od_came od_latest od_full od_kinds od_loves od_aheads od_scores od_most od_followers od_mostThen v1) fun r2 =>
  X1_findFirst_L25 od_bows od_aheads FU od_came od_latest (X1_rest od_came od_full) 0 r2.2.1 r2.2.2.1 r2.2.2.2.1 r2.2.2.2.2.1 r2.2.2.2.2.2 od_first
def X5_ith (x_found : Nat → Int32) (sc_bows : Int32) (sc_there : Int32) (sc_came : Int32) (sc_kinds : Nat → Int32) (sc_loves : Nat → Int32) (sc_aheads : Nat → Int32) (sc_stage : Nat → Int32) (od_many : Int32) (od_bows : Int32) (od_came : Int32) (od_latest : Int32) (od_full : Int32) (od_kinds : Nat → Int32) (od_loves : Nat → Int32) (od_aheads : Nat → Int32) (od_scores : Nat → Int32) (od_most : Nat → Int32) (od_followers : Nat → Int32) (od_mostThen : Nat → Int32) (od_first : Nat → Int32) (v1 : Int32) (v2 : Int32) : Option (Int32 × (Nat → Int32) × Int32 × Int32 × Int32 × Int32 × Int32 × (Nat → Int32) × (Nat → Int32) × (Nat → Int32) × (Nat → Int32) × (Nat → Int32) × (Nat → Int32) × (Nat → Int32) × (Nat → Int32)) :=
  if (xb (X5_isIn v1 0 1)) = 0 then
    Option.bind (X5_finding x_found 0) fun r15 =>
    some (r15.1, r15.2, od_many, od_bows, od_came, od_latest, od_full, od_kinds, od_loves, od_aheads, od_scores, od_most, od_followers, od_mostThen, od_first)
  else
    if 0 ≤ v2 then
      Option.bind (X1_startFrom sc_bows sc_there sc_came sc_kinds sc_loves sc_aheads sc_stage od_kinds od_loves od_aheads) fun r27 =>
      if (X1_rest r27.2.1 r27.2.2.2.1) ≤ v2 then
        Option.bind (X5_finding x_found 3) fun r53 =>
        some (r53.1, r53.2, od_many, r27.1, r27.2.1, r27.2.2.1, r27.2.2.2.1, r27.2.2.2.2.1, r27.2.2.2.2.2.1, r27.2.2.2.2.2.2, od_scores, od_most, od_followers, od_mostThen, od_first)
      else
        Option.bind (X1_haveWay r27.1 r27.2.1 r27.2.2.2.1 r27.2.2.2.2.2.2) fun r45 =>
        if (xb r45) = 0 then
          Option.bind (X5_finding x_found 3) fun r53_1 =>
          some (r53_1.1, r53_1.2, od_many, r27.1, r27.2.1, r27.2.2.1, r27.2.2.2.1, r27.2.2.2.2.1, r27.2.2.2.2.2.1, r27.2.2.2.2.2.2, od_scores, od_most, od_followers, od_mostThen, od_first)
        else
          Option.bind (X1_findFirst od_many r27.1 r27.2.1 r27.2.2.1 r27.2.2.2.1 r27.2.2.2.2.1 r27.2.2.2.2.2.1 r27.2.2.2.2.2.2 od_scores od_most od_followers od_mostThen od_first v1) fun r62 =>
          if inr v2 9 then
            some ((r62.2.2.2.2.2 v2.toNatClampNeg), x_found, r62.1, r27.1, r27.2.1, r27.2.2.1, r27.2.2.2.1, r27.2.2.2.2.1, r27.2.2.2.2.2.1, r27.2.2.2.2.2.2, r62.2.1, r62.2.2.1, r62.2.2.2.1, r62.2.2.2.2.1, r62.2.2.2.2.2)
          else none
    else
      Option.bind (X5_finding x_found 0) fun r15_1 =>
      some (r15_1.1, r15_1.2, od_many, od_bows, od_came, od_latest, od_full, od_kinds, od_loves, od_aheads, od_scores, od_most, od_followers, od_mostThen, od_first)
def X6_findsRow_L88 (k22 : Int32 → Int32 → Int32 → Int32 → Int32 → (Nat → Int32) → (Nat → Int32) → Option (Bool × Int32 × (Nat → Int32) × (Nat → Int32))) (k49 : Int32 → Int32 → Int32 → Int32 → Int32 → Int32 → Int32 → (Nat → Int32) → (Nat → Int32) → Option (Bool × Int32 × (Nat → Int32) × (Nat → Int32))) (m_s : Nat → Int32) (v1 : Int32) (v2 : Int32) (v3 : Int32) (v4 : Int32) (v5 : Int32) (v6 : Int32) (t0 : Int32) (m_rowMany_ : Int32) (m_behind_ : (Nat → Int32)) (m_row_ : (Nat → Int32)) : Option (Bool × Int32 × (Nat → Int32) × (Nat → Int32)) :=
  if t0 = (-99999999) then
    k49 v1 v2 v3 v4 v5 (v6 + (-1)) m_rowMany_ m_behind_ m_row_
  else
    Option.bind (X6_brings m_s v1 v6 v4) fun r105 =>
    if (t0 + r105) = v2 then
      k49 v1 v2 v3 v4 v6 (v6 + (-1)) m_rowMany_ m_behind_ m_row_
    else
      k49 v1 v2 v3 v4 v5 (v6 + (-1)) m_rowMany_ m_behind_ m_row_
def X6_findsRow_L49 (k22 : Int32 → Int32 → Int32 → Int32 → Int32 → (Nat → Int32) → (Nat → Int32) → Option (Bool × Int32 × (Nat → Int32) × (Nat → Int32))) (m_s : Nat → Int32) : Nat → Int32 → Int32 → Int32 → Int32 → Int32 → Int32 → Int32 → (Nat → Int32) → (Nat → Int32) → Option (Bool × Int32 × (Nat → Int32) × (Nat → Int32))
  | 0, _, _, _, _, _, _, _, _, _ => none
  | n + 1, v1, v2, v3, v4, v5, v6, m_rowMany_, m_behind_, m_row_ =>
    if v6 < 0 then
      if inr m_rowMany_ 9 then
        if inr (((10 * (v3 ||| (xshl 1 v5))) + v5) + 1) 5120 then
          k22 v1 (m_behind_ (((10 * (v3 ||| (xshl 1 v5))) + v5) + 1).toNatClampNeg) (v3 ||| (xshl 1 v5)) v5 (m_rowMany_ + 1) m_behind_ (upd m_row_ m_rowMany_.toNatClampNeg v5)
        else none
      else none
    else
      Option.bind (X6_canBehind m_s v6 v3) fun r58 =>
      if (xb r58) = 0 then
        X6_findsRow_L88 (fun v10 v20 v30 v40 m_rowMany_0 m_behind_0 m_row_0 => k22 v10 v20 v30 v40 m_rowMany_0 m_behind_0 m_row_0) (fun v10 v20 v30 v40 v50 v60 m_rowMany_0 m_behind_0 m_row_0 => X6_findsRow_L49 k22 m_s n v10 v20 v30 v40 v50 v60 m_rowMany_0 m_behind_0 m_row_0) m_s v1 v2 v3 v4 v5 v6 (-99999999) m_rowMany_ m_behind_ m_row_
      else
        if inr (((10 * (v3 ||| (xshl 1 v6))) + v6) + 1) 5120 then
          X6_findsRow_L88 (fun v10 v20 v30 v40 m_rowMany_0 m_behind_0 m_row_0 => k22 v10 v20 v30 v40 m_rowMany_0 m_behind_0 m_row_0) (fun v10 v20 v30 v40 v50 v60 m_rowMany_0 m_behind_0 m_row_0 => X6_findsRow_L49 k22 m_s n v10 v20 v30 v40 v50 v60 m_rowMany_0 m_behind_0 m_row_0) m_s v1 v2 v3 v4 v5 v6 (m_behind_ (((10 * (v3 ||| (xshl 1 v6))) + v6) + 1).toNatClampNeg) m_rowMany_ m_behind_ m_row_
        else none
def X6_findsRow_L178 (v2 : Int32) (m_rowMany_ : Int32) (m_behind_ : (Nat → Int32)) (m_row_ : (Nat → Int32)) : Option (Bool × Int32 × (Nat → Int32) × (Nat → Int32)) :=
  if v2 = (-99999999) then
    some (false, m_rowMany_, m_behind_, m_row_)
  else
    some (true, m_rowMany_, m_behind_, m_row_)
def X6_findsRow_L22 (m_s : Nat → Int32) : Nat → Int32 → Int32 → Int32 → Int32 → Int32 → (Nat → Int32) → (Nat → Int32) → Option (Bool × Int32 × (Nat → Int32) × (Nat → Int32))
  | 0, _, _, _, _, _, _, _ => none
  | n + 1, v1, v2, v3, v4, m_rowMany_, m_behind_, m_row_ =>
    if v2 = (-99999999) then
      X6_findsRow_L178 v2 m_rowMany_ m_behind_ m_row_
    else
      Option.bind (X6_allBows m_s) fun r30 =>
      if v3 = r30 then
        X6_findsRow_L178 v2 m_rowMany_ m_behind_ m_row_
      else
        X6_findsRow_L49 (fun v10 v20 v30 v40 m_rowMany_0 m_behind_0 m_row_0 => X6_findsRow_L22 m_s n v10 v20 v30 v40 m_rowMany_0 m_behind_0 m_row_0) m_s FU v1 v2 v3 v4 (-1) ((m_s 3) - 1) m_rowMany_ m_behind_ m_row_
def X6_findsRow (m_s : Nat → Int32) (m_behind : Nat → Int32) (m_row : Nat → Int32) (v1 : Int32) : Option (Bool × Int32 × (Nat → Int32) × (Nat → Int32)) :=
  Option.bind (X6_findsBest m_s m_behind v1) fun r2 =>
  Option.bind (X6_stageSet m_s) fun r7 =>
  Option.bind (X6_latest m_s) fun r12 =>
  X6_findsRow_L22 m_s FU v1 r2.1 r7 r12 0 r2.2 m_row
def X6_ith (m_rowMany : Int32) (m_s : Nat → Int32) (m_found : Nat → Int32) (m_behind : Nat → Int32) (m_row : Nat → Int32) (v1 : Int32) (v2 : Int32) : Option (Int32 × Int32 × (Nat → Int32) × (Nat → Int32) × (Nat → Int32)) :=
  if (xb (X6_in1 v1 0 1)) = 0 then
    Option.bind (X6_no m_found 0) fun r15 =>
    some (r15.1, m_rowMany, r15.2, m_behind, m_row)
  else
    if 0 ≤ v2 then
      Option.bind (X6_findsRow m_s m_behind m_row v1) fun r21 =>
      if (xb r21.1) = 0 then
        Option.bind (X6_no m_found 3) fun r48 =>
        some (r48.1, r21.2.1, r48.2, r21.2.2.1, r21.2.2.2)
      else
        if r21.2.1 ≤ v2 then
          Option.bind (X6_no m_found 3) fun r48_1 =>
          some (r48_1.1, r21.2.1, r48_1.2, r21.2.2.1, r21.2.2.2)
        else
          if inr v2 9 then
            some ((r21.2.2.2 v2.toNatClampNeg), r21.2.1, m_found, r21.2.2.1, r21.2.2.2)
          else none
    else
      Option.bind (X6_no m_found 0) fun r15_1 =>
      some (r15_1.1, m_rowMany, r15_1.2, m_behind, m_row)
def X1_countWays_L29 (k5 : Int32 → (Nat → Int32) → Option (Int32 × (Nat → Int32))) (od_bows : Int32) (od_aheads : Nat → Int32) : Nat → Int32 → Int32 → Int32 → (Nat → Int32) → Option (Int32 × (Nat → Int32))
  | 0, _, _, _, _ => none
  | n + 1, v1, v2, v3, od_bySet_ =>
    if od_bows ≤ v3 then
      if inr v1 512 then
        k5 (v1 + (-1)) (upd od_bySet_ v1.toNatClampNeg v2)
      else none
    else
      Option.bind (X1_canFollow od_aheads v3 v1) fun r40 =>
      if (xb r40) = 0 then
        X1_countWays_L29 k5 od_bows od_aheads n v1 v2 (v3 + 1) od_bySet_
      else
        if inr (v1 ||| (xshl 1 v3)) 512 then
          X1_countWays_L29 k5 od_bows od_aheads n v1 (v2 + (od_bySet_ (v1 ||| (xshl 1 v3)).toNatClampNeg)) (v3 + 1) od_bySet_
        else none
def X1_countWays_L5 (od_bows : Int32) (od_came : Int32) (od_full : Int32) (od_aheads : Nat → Int32) : Nat → Int32 → (Nat → Int32) → Option (Int32 × (Nat → Int32))
  | 0, _, _ => none
  | n + 1, v1, od_bySet_ =>
    if v1 < od_came then
      if inr od_came 512 then
        some ((od_bySet_ od_came.toNatClampNeg), od_bySet_)
      else none
    else
      if v1 = od_full then
        X1_countWays_L29 (fun v10 od_bySet_0 => X1_countWays_L5 od_bows od_came od_full od_aheads n v10 od_bySet_0) od_bows od_aheads FU v1 1 0 od_bySet_
      else
        X1_countWays_L29 (fun v10 od_bySet_0 => X1_countWays_L5 od_bows od_came od_full od_aheads n v10 od_bySet_0) od_bows od_aheads FU v1 0 0 od_bySet_
def X1_countWays (od_bows : Int32) (od_came : Int32) (od_full : Int32) (od_aheads : Nat → Int32) (od_bySet : Nat → Int32) : Option (Int32 × (Nat → Int32)) :=
  X1_countWays_L5 od_bows od_came od_full od_aheads FU od_full od_bySet
def X5_ways (sc_bows : Int32) (sc_there : Int32) (sc_came : Int32) (sc_kinds : Nat → Int32) (sc_loves : Nat → Int32) (sc_aheads : Nat → Int32) (sc_stage : Nat → Int32) (od_kinds : Nat → Int32) (od_loves : Nat → Int32) (od_aheads : Nat → Int32) (od_bySet : Nat → Int32) : Option (Int32 × Int32 × Int32 × Int32 × Int32 × (Nat → Int32) × (Nat → Int32) × (Nat → Int32) × (Nat → Int32)) :=
  Option.bind (X1_startFrom sc_bows sc_there sc_came sc_kinds sc_loves sc_aheads sc_stage od_kinds od_loves od_aheads) fun r8 =>
  Option.bind (X1_countWays r8.1 r8.2.1 r8.2.2.2.1 r8.2.2.2.2.2.2 od_bySet) fun r15 =>
  some (r15.1, r8.1, r8.2.1, r8.2.2.1, r8.2.2.2.1, r8.2.2.2.2.1, r8.2.2.2.2.2.1, r8.2.2.2.2.2.2, r15.2)
def X6_countsWays_L34 (k12 : Int32 → Int32 → Int32 → (Nat → Int32) → (Nat → Int32) → Option (Int32 × (Nat → Int32) × (Nat → Int32))) (v1 : Int32) (v2 : Int32) (v3 : Int32) (t1 : Int32) (t2 : Int32) (m_comesTo_ : (Nat → Int32)) (m_goesOn_ : (Nat → Int32)) : Option (Int32 × (Nat → Int32) × (Nat → Int32)) :=
  if inr t1 512 then
    if v3 = v2 then
      if inr v3 512 then
        k12 v1 v2 (v3 + 1) (upd m_comesTo_ t1.toNatClampNeg t2) (upd m_goesOn_ v3.toNatClampNeg 1)
      else none
    else
      if inr v3 512 then
        k12 v1 v2 (v3 + 1) (upd m_comesTo_ t1.toNatClampNeg t2) (upd m_goesOn_ v3.toNatClampNeg 0)
      else none
  else none
def X6_countsWays_L67 (k59 : Int32 → Int32 → Int32 → (Nat → Int32) → (Nat → Int32) → Option (Int32 × (Nat → Int32) × (Nat → Int32))) (m_s : Nat → Int32) : Nat → Int32 → Int32 → Int32 → Int32 → (Nat → Int32) → (Nat → Int32) → Option (Int32 × (Nat → Int32) × (Nat → Int32))
  | 0, _, _, _, _, _, _ => none
  | n + 1, v1, v2, v3, v4, m_comesTo_, m_goesOn_ =>
    if (m_s 3) ≤ v4 then
      k59 v1 v2 (v3 + 1) m_comesTo_ m_goesOn_
    else
      if inr (v3 ||| (xshl 1 v4)) 512 then
        if inr v3 512 then
          if (m_comesTo_ v3.toNatClampNeg) ≤ 0 then
            if inr (v3 ||| (xshl 1 v4)) 512 then
              X6_countsWays_L67 k59 m_s n v1 v2 v3 (v4 + 1) (upd m_comesTo_ (v3 ||| (xshl 1 v4)).toNatClampNeg ((m_comesTo_ (v3 ||| (xshl 1 v4)).toNatClampNeg) + 0)) m_goesOn_
            else none
          else
            Option.bind (X6_canBehind m_s v4 v3) fun r103 =>
            if (xb r103) = 0 then
              if inr (v3 ||| (xshl 1 v4)) 512 then
                X6_countsWays_L67 k59 m_s n v1 v2 v3 (v4 + 1) (upd m_comesTo_ (v3 ||| (xshl 1 v4)).toNatClampNeg ((m_comesTo_ (v3 ||| (xshl 1 v4)).toNatClampNeg) + 0)) m_goesOn_
              else none
            else
              if inr v3 512 then
                if inr (v3 ||| (xshl 1 v4)) 512 then
                  X6_countsWays_L67 k59 m_s n v1 v2 v3 (v4 + 1) (upd m_comesTo_ (v3 ||| (xshl 1 v4)).toNatClampNeg ((m_comesTo_ (v3 ||| (xshl 1 v4)).toNatClampNeg) + (m_comesTo_ v3.toNatClampNeg))) m_goesOn_
                else none
              else none
        else none
      else none
def X6_countsWays_L144 (k137 : Int32 → Int32 → (Nat → Int32) → (Nat → Int32) → Option (Int32 × (Nat → Int32) × (Nat → Int32))) (m_s : Nat → Int32) : Nat → Int32 → Int32 → Int32 → (Nat → Int32) → (Nat → Int32) → Option (Int32 × (Nat → Int32) × (Nat → Int32))
  | 0, _, _, _, _, _ => none
  | n + 1, v1, v3, v4, m_comesTo_, m_goesOn_ =>
    if (m_s 3) ≤ v4 then
      k137 v1 (v3 + (-1)) m_comesTo_ m_goesOn_
    else
      if inr v3 512 then
        Option.bind (X6_canBehind m_s v4 v3) fun r166 =>
        if (xb r166) = 0 then
          if inr v3 512 then
            X6_countsWays_L144 k137 m_s n v1 v3 (v4 + 1) m_comesTo_ (upd m_goesOn_ v3.toNatClampNeg ((m_goesOn_ v3.toNatClampNeg) + 0))
          else none
        else
          if inr (v3 ||| (xshl 1 v4)) 512 then
            if inr v3 512 then
              X6_countsWays_L144 k137 m_s n v1 v3 (v4 + 1) m_comesTo_ (upd m_goesOn_ v3.toNatClampNeg ((m_goesOn_ v3.toNatClampNeg) + (m_goesOn_ (v3 ||| (xshl 1 v4)).toNatClampNeg)))
            else none
          else none
      else none
def X6_countsWays_L137 (m_s : Nat → Int32) : Nat → Int32 → Int32 → (Nat → Int32) → (Nat → Int32) → Option (Int32 × (Nat → Int32) × (Nat → Int32))
  | 0, _, _, _, _ => none
  | n + 1, v1, v3, m_comesTo_, m_goesOn_ =>
    if v3 < 0 then
      if inr v1 512 then
        some ((m_goesOn_ v1.toNatClampNeg), m_comesTo_, m_goesOn_)
      else none
    else
      X6_countsWays_L144 (fun v10 v30 m_comesTo_0 m_goesOn_0 => X6_countsWays_L137 m_s n v10 v30 m_comesTo_0 m_goesOn_0) m_s FU v1 v3 0 m_comesTo_ m_goesOn_
def X6_countsWays_L59 (m_s : Nat → Int32) : Nat → Int32 → Int32 → Int32 → (Nat → Int32) → (Nat → Int32) → Option (Int32 × (Nat → Int32) × (Nat → Int32))
  | 0, _, _, _, _, _ => none
  | n + 1, v1, v2, v3, m_comesTo_, m_goesOn_ =>
    if v2 < v3 then
      X6_countsWays_L137 m_s FU v1 (v2 - 1) m_comesTo_ m_goesOn_
    else
      X6_countsWays_L67 (fun v10 v20 v30 m_comesTo_0 m_goesOn_0 => X6_countsWays_L59 m_s n v10 v20 v30 m_comesTo_0 m_goesOn_0) m_s FU v1 v2 v3 0 m_comesTo_ m_goesOn_
def X6_countsWays_L12 (m_s : Nat → Int32) : Nat → Int32 → Int32 → Int32 → (Nat → Int32) → (Nat → Int32) → Option (Int32 × (Nat → Int32) × (Nat → Int32))
  | 0, _, _, _, _, _ => none
  | n + 1, v1, v2, v3, m_comesTo_, m_goesOn_ =>
    if 512 ≤ v3 then
      X6_countsWays_L59 m_s FU v1 v2 v1 m_comesTo_ m_goesOn_
    else
      if v3 = v1 then
        X6_countsWays_L34 (fun v10 v20 v30 m_comesTo_0 m_goesOn_0 => X6_countsWays_L12 m_s n v10 v20 v30 m_comesTo_0 m_goesOn_0) v1 v2 v3 v3 1 m_comesTo_ m_goesOn_
      else
        X6_countsWays_L34 (fun v10 v20 v30 m_comesTo_0 m_goesOn_0 => X6_countsWays_L12 m_s n v10 v20 v30 m_comesTo_0 m_goesOn_0) v1 v2 v3 v3 0 m_comesTo_ m_goesOn_
def X6_countsWays (m_s : Nat → Int32) (m_comesTo : Nat → Int32) (m_goesOn : Nat → Int32) : Option (Int32 × (Nat → Int32) × (Nat → Int32)) :=
  Option.bind (X6_stageSet m_s) fun r1 =>
  Option.bind (X6_allBows m_s) fun r6 =>
  X6_countsWays_L12 m_s FU r1 r6 0 m_comesTo m_goesOn
def X6_ways (m_s : Nat → Int32) (m_comesTo : Nat → Int32) (m_goesOn : Nat → Int32) : Option (Int32 × (Nat → Int32) × (Nat → Int32)) :=
  Option.bind (X6_countsWays m_s m_comesTo m_goesOn) fun r1 =>
  some (r1.1, r1.2.1, r1.2.2)
def X1_lastOnes_L4 (od_bows : Int32) (od_came : Int32) (od_full : Int32) (od_aheads : Nat → Int32) : Nat → Int32 → Int32 → Option (Int32)
  | 0, _, _ => none
  | n + 1, v1, v2 =>
    if od_bows ≤ v2 then
      some ((od_full &&& (od_came ^^^ (-1))) &&& (v1 ^^^ (-1)))
    else
      if (od_came &&& (xshl 1 v2)) = 0 then
        if inr v2 9 then
          X1_lastOnes_L4 od_bows od_came od_full od_aheads n (v1 ||| (od_aheads v2.toNatClampNeg)) (v2 + 1)
        else none
      else
        X1_lastOnes_L4 od_bows od_came od_full od_aheads n v1 (v2 + 1)
def X1_lastOnes (od_bows : Int32) (od_came : Int32) (od_full : Int32) (od_aheads : Nat → Int32) : Option (Int32) :=
  X1_lastOnes_L4 od_bows od_came od_full od_aheads FU 0 0
def X5_lasts (sc_bows : Int32) (sc_there : Int32) (sc_came : Int32) (sc_kinds : Nat → Int32) (sc_loves : Nat → Int32) (sc_aheads : Nat → Int32) (sc_stage : Nat → Int32) (od_kinds : Nat → Int32) (od_loves : Nat → Int32) (od_aheads : Nat → Int32) : Option (Int32 × Int32 × Int32 × Int32 × Int32 × (Nat → Int32) × (Nat → Int32) × (Nat → Int32)) :=
  Option.bind (X1_startFrom sc_bows sc_there sc_came sc_kinds sc_loves sc_aheads sc_stage od_kinds od_loves od_aheads) fun r8 =>
  Option.bind (X1_haveWay r8.1 r8.2.1 r8.2.2.2.1 r8.2.2.2.2.2.2) fun r15 =>
  if (xb r15) = 0 then
    some (0, r8.1, r8.2.1, r8.2.2.1, r8.2.2.2.1, r8.2.2.2.2.1, r8.2.2.2.2.2.1, r8.2.2.2.2.2.2)
  else
    Option.bind (X1_lastOnes r8.1 r8.2.1 r8.2.2.2.1 r8.2.2.2.2.2.2) fun r25 =>
    some (r25, r8.1, r8.2.1, r8.2.2.1, r8.2.2.2.1, r8.2.2.2.2.1, r8.2.2.2.2.2.1, r8.2.2.2.2.2.2)
def X6_lasts_L9 (m_s : Nat → Int32) : Nat → Int32 → Int32 → Int32 → (Nat → Int32) → (Nat → Int32) → Option (Int32 × (Nat → Int32) × (Nat → Int32))
  | 0, _, _, _, _, _ => none
  | n + 1, v1, v2, v3, m_comesTo_, m_goesOn_ =>
    if (m_s 3) ≤ v3 then
      some (v2, m_comesTo_, m_goesOn_)
    else
      if v1 ≤ 0 then
        some (v2, m_comesTo_, m_goesOn_)
      else
        Option.bind (X6_allBows m_s) fun r24 =>
        if inr (r24 &&& ((xshl 1 v3) ^^^ (-1))) 512 then
          if (m_comesTo_ (r24 &&& ((xshl 1 v3) ^^^ (-1))).toNatClampNeg) ≤ 0 then
            X6_lasts_L9 m_s n v1 (v2 ||| 0) (v3 + 1) m_comesTo_ m_goesOn_
          else
            Option.bind (X6_canBehind m_s v3 (r24 &&& ((xshl 1 v3) ^^^ (-1)))) fun r50 =>
            if (xb r50) = 0 then
              X6_lasts_L9 m_s n v1 (v2 ||| 0) (v3 + 1) m_comesTo_ m_goesOn_
            else
              X6_lasts_L9 m_s n v1 (v2 ||| (xshl 1 v3)) (v3 + 1) m_comesTo_ m_goesOn_
        else none
def X6_lasts (m_s : Nat → Int32) (m_comesTo : Nat → Int32) (m_goesOn : Nat → Int32) : Option (Int32 × (Nat → Int32) × (Nat → Int32)) :=
  Option.bind (X6_countsWays m_s m_comesTo m_goesOn) fun r1 =>
  X6_lasts_L9 m_s FU r1.1 0 0 r1.2.1 r1.2.2
def X2_hasCome (sc_came : Int32) (v1 : Int32) : Bool :=
  if (sc_came &&& (xshl 1 v1)) = 0 then
    false
  else
    true
def X1_allAhead_L24 (k12 : Int32 → Int32 → Int32 → Option (Int32)) (od_bows : Int32) (od_aheads : Nat → Int32) : Nat → Int32 → Int32 → Int32 → Int32 → Option (Int32)
  | 0, _, _, _, _ => none
  | n + 1, v2, v3, v4, v5 =>
    if od_bows ≤ v5 then
      k12 v2 v3 (v4 + 1)
    else
      if (v3 &&& (xshl 1 v5)) = 0 then
        X1_allAhead_L24 k12 od_bows od_aheads n v2 v3 v4 (v5 + 1)
      else
        if inr v5 9 then
          X1_allAhead_L24 k12 od_bows od_aheads n v2 (v3 ||| ((od_aheads v5.toNatClampNeg) &&& v2)) v4 (v5 + 1)
        else none
def X1_allAhead_L12 (od_bows : Int32) (od_aheads : Nat → Int32) : Nat → Int32 → Int32 → Int32 → Option (Int32)
  | 0, _, _, _ => none
  | n + 1, v2, v3, v4 =>
    if od_bows ≤ v4 then
      some v3
    else
      X1_allAhead_L24 (fun v20 v30 v40 => X1_allAhead_L12 od_bows od_aheads n v20 v30 v40) od_bows od_aheads FU v2 v3 v4 0
def X1_allAhead (od_bows : Int32) (od_aheads : Nat → Int32) (v1 : Int32) (v2 : Int32) : Option (Int32) :=
  if inr v1 9 then
    X1_allAhead_L12 od_bows od_aheads FU v2 ((od_aheads v1.toNatClampNeg) &&& v2) 0
  else none
def X1_earliest (od_bows : Int32) (od_came : Int32) (od_full : Int32) (od_aheads : Nat → Int32) (v1 : Int32) : Option (Int32) :=
  Option.bind (X1_allAhead od_bows od_aheads v1 (od_full &&& (od_came ^^^ (-1)))) fun r13 =>
  some (J6_bitCount_0f7a4 r13)
def X1_latest_L28 (k4 : Int32 → Int32 → Int32 → Option (Int32)) (od_bows : Int32) (od_came : Int32) (od_full : Int32) (od_aheads : Nat → Int32) (v1 : Int32) (v2 : Int32) (v3 : Int32) (t0 : Int32) : Option (Int32) :=
  if t0 = 0 then
    k4 v1 v2 (v3 + 1)
  else
    Option.bind (X1_allAhead od_bows od_aheads v3 (od_full &&& (od_came ^^^ (-1)))) fun r48 =>
    if (r48 &&& (xshl 1 v1)) = 0 then
      k4 v1 v2 (v3 + 1)
    else
      k4 v1 (v2 + 1) (v3 + 1)
def X1_latest_L4 (od_bows : Int32) (od_came : Int32) (od_full : Int32) (od_aheads : Nat → Int32) : Nat → Int32 → Int32 → Int32 → Option (Int32)
  | 0, _, _, _ => none
  | n + 1, v1, v2, v3 =>
    if od_bows ≤ v3 then
      some (((X1_rest od_came od_full) - 1) - v2)
    else
      if (od_came &&& (xshl 1 v3)) = 0 then
        X1_latest_L28 (fun v10 v20 v30 => X1_latest_L4 od_bows od_came od_full od_aheads n v10 v20 v30) od_bows od_came od_full od_aheads v1 v2 v3 1
      else
        X1_latest_L28 (fun v10 v20 v30 => X1_latest_L4 od_bows od_came od_full od_aheads n v10 v20 v30) od_bows od_came od_full od_aheads v1 v2 v3 0
def X1_latest (od_bows : Int32) (od_came : Int32) (od_full : Int32) (od_aheads : Nat → Int32) (v1 : Int32) : Option (Int32) :=
  X1_latest_L4 od_bows od_came od_full od_aheads FU v1 0 0
def X5_place (x_found : Nat → Int32) (sc_bows : Int32) (sc_there : Int32) (sc_came : Int32) (sc_kinds : Nat → Int32) (sc_loves : Nat → Int32) (sc_aheads : Nat → Int32) (sc_stage : Nat → Int32) (od_bows : Int32) (od_came : Int32) (od_latest : Int32) (od_full : Int32) (od_kinds : Nat → Int32) (od_loves : Nat → Int32) (od_aheads : Nat → Int32) (v1 : Int32) (v2 : Int32) : Option (Int32 × (Nat → Int32) × Int32 × Int32 × Int32 × Int32 × (Nat → Int32) × (Nat → Int32) × (Nat → Int32)) :=
  if (xb (X2_isBow sc_bows v1)) = 0 then
    Option.bind (X5_finding x_found 0) fun r22 =>
    some (r22.1, r22.2, od_bows, od_came, od_latest, od_full, od_kinds, od_loves, od_aheads)
  else
    if (xb (X5_isIn v2 0 1)) = 0 then
      Option.bind (X5_finding x_found 0) fun r22_1 =>
      some (r22_1.1, r22_1.2, od_bows, od_came, od_latest, od_full, od_kinds, od_loves, od_aheads)
    else
      if (xb (X2_hasCome sc_came v1)) = 0 then
        Option.bind (X1_startFrom sc_bows sc_there sc_came sc_kinds sc_loves sc_aheads sc_stage od_kinds od_loves od_aheads) fun r51 =>
        Option.bind (X1_haveWay r51.1 r51.2.1 r51.2.2.2.1 r51.2.2.2.2.2.2) fun r58 =>
        if (xb r58) = 0 then
          Option.bind (X5_finding x_found 3) fun r66 =>
          some (r66.1, r66.2, r51.1, r51.2.1, r51.2.2.1, r51.2.2.2.1, r51.2.2.2.2.1, r51.2.2.2.2.2.1, r51.2.2.2.2.2.2)
        else
          if v2 = 0 then
            Option.bind (X1_earliest r51.1 r51.2.1 r51.2.2.2.1 r51.2.2.2.2.2.2 v1) fun r79 =>
            some (r79, x_found, r51.1, r51.2.1, r51.2.2.1, r51.2.2.2.1, r51.2.2.2.2.1, r51.2.2.2.2.2.1, r51.2.2.2.2.2.2)
          else
            Option.bind (X1_latest r51.1 r51.2.1 r51.2.2.2.1 r51.2.2.2.2.2.2 v1) fun r90 =>
            some (r90, x_found, r51.1, r51.2.1, r51.2.2.1, r51.2.2.2.1, r51.2.2.2.2.1, r51.2.2.2.2.2.1, r51.2.2.2.2.2.2)
      else
        Option.bind (X5_finding x_found 4) fun r39 =>
        some (r39.1, r39.2, od_bows, od_came, od_latest, od_full, od_kinds, od_loves, od_aheads)
def X6_bits_L4 : Nat → Int32 → Int32 → Option (Int32)
  | 0, _, _ => none
  | n + 1, v1, v2 =>
    if v2 = 0 then
      some v1
    else
      X6_bits_L4 n (v1 + 1) (v2 &&& (v2 - 1))
def X6_bits (v0 : Int32) : Option (Int32) :=
  X6_bits_L4 FU 0 v0
def X6_place_L142 (k62 : Int32 → Int32 → Int32 → Int32 → Int32 → (Nat → Int32) → (Nat → Int32) → Option (Int32 × (Nat → Int32) × (Nat → Int32) × (Nat → Int32))) (v1 : Int32) (v2 : Int32) (v4 : Int32) (v5 : Int32) (v6 : Int32) (v7 : Int32) (t0 : Int32) (m_comesTo_ : (Nat → Int32)) (m_goesOn_ : (Nat → Int32)) : Option (Int32 × (Nat → Int32) × (Nat → Int32) × (Nat → Int32)) :=
  if v6 = 0 then
    k62 v1 v2 t0 v4 (v5 + 1) m_comesTo_ m_goesOn_
  else
    k62 v1 v2 t0 (X6_most v4 v7) (v5 + 1) m_comesTo_ m_goesOn_
def X6_place_L109 (k62 : Int32 → Int32 → Int32 → Int32 → Int32 → (Nat → Int32) → (Nat → Int32) → Option (Int32 × (Nat → Int32) × (Nat → Int32) × (Nat → Int32))) (m_s : Nat → Int32) (v1 : Int32) (v2 : Int32) (v3 : Int32) (v4 : Int32) (v5 : Int32) (t0 : Int32) (m_comesTo_ : (Nat → Int32)) (m_goesOn_ : (Nat → Int32)) : Option (Int32 × (Nat → Int32) × (Nat → Int32) × (Nat → Int32)) :=
  Option.bind (X6_bits v5) fun r113 =>
  if t0 = 0 then
    X6_place_L142 (fun v10 v20 v30 v40 v50 m_comesTo_0 m_goesOn_0 => k62 v10 v20 v30 v40 v50 m_comesTo_0 m_goesOn_0) v1 v2 v4 v5 t0 (r113 - (m_s 2)) v3 m_comesTo_ m_goesOn_
  else
    if v3 ≤ (r113 - (m_s 2)) then
      X6_place_L142 (fun v10 v20 v30 v40 v50 m_comesTo_0 m_goesOn_0 => k62 v10 v20 v30 v40 v50 m_comesTo_0 m_goesOn_0) v1 v2 v4 v5 t0 (r113 - (m_s 2)) v3 m_comesTo_ m_goesOn_
    else
      X6_place_L142 (fun v10 v20 v30 v40 v50 m_comesTo_0 m_goesOn_0 => k62 v10 v20 v30 v40 v50 m_comesTo_0 m_goesOn_0) v1 v2 v4 v5 t0 (r113 - (m_s 2)) (r113 - (m_s 2)) m_comesTo_ m_goesOn_
def X6_place_L62 (m_s : Nat → Int32) (m_found : Nat → Int32) : Nat → Int32 → Int32 → Int32 → Int32 → Int32 → (Nat → Int32) → (Nat → Int32) → Option (Int32 × (Nat → Int32) × (Nat → Int32) × (Nat → Int32))
  | 0, _, _, _, _, _, _, _ => none
  | n + 1, v1, v2, v3, v4, v5, m_comesTo_, m_goesOn_ =>
    if 512 ≤ v5 then
      if v2 = 0 then
        some (v3, m_found, m_comesTo_, m_goesOn_)
      else
        some (v4, m_found, m_comesTo_, m_goesOn_)
    else
      if inr v5 512 then
        if (m_comesTo_ v5.toNatClampNeg) ≤ 0 then
          X6_place_L109 (fun v10 v20 v30 v40 v50 m_comesTo_0 m_goesOn_0 => X6_place_L62 m_s m_found n v10 v20 v30 v40 v50 m_comesTo_0 m_goesOn_0) m_s v1 v2 v3 v4 v5 0 m_comesTo_ m_goesOn_
        else
          Option.bind (X6_canBehind m_s v1 v5) fun r84 =>
          if (xb r84) = 0 then
            X6_place_L109 (fun v10 v20 v30 v40 v50 m_comesTo_0 m_goesOn_0 => X6_place_L62 m_s m_found n v10 v20 v30 v40 v50 m_comesTo_0 m_goesOn_0) m_s v1 v2 v3 v4 v5 0 m_comesTo_ m_goesOn_
          else
            if inr (v5 ||| (xshl 1 v1)) 512 then
              if (m_goesOn_ (v5 ||| (xshl 1 v1)).toNatClampNeg) ≤ 0 then
                X6_place_L109 (fun v10 v20 v30 v40 v50 m_comesTo_0 m_goesOn_0 => X6_place_L62 m_s m_found n v10 v20 v30 v40 v50 m_comesTo_0 m_goesOn_0) m_s v1 v2 v3 v4 v5 0 m_comesTo_ m_goesOn_
              else
                X6_place_L109 (fun v10 v20 v30 v40 v50 m_comesTo_0 m_goesOn_0 => X6_place_L62 m_s m_found n v10 v20 v30 v40 v50 m_comesTo_0 m_goesOn_0) m_s v1 v2 v3 v4 v5 1 m_comesTo_ m_goesOn_
            else none
      else none
def X6_place (m_s : Nat → Int32) (m_found : Nat → Int32) (m_comesTo : Nat → Int32) (m_goesOn : Nat → Int32) (v1 : Int32) (v2 : Int32) : Option (Int32 × (Nat → Int32) × (Nat → Int32) × (Nat → Int32)) :=
  Option.bind (X6_isBow m_s v1) fun r2 =>
  if (xb r2) = 0 then
    Option.bind (X6_no m_found 0) fun r19 =>
    some (r19.1, r19.2, m_comesTo, m_goesOn)
  else
    if (xb (X6_in1 v2 0 1)) = 0 then
      Option.bind (X6_no m_found 0) fun r19_1 =>
      some (r19_1.1, r19_1.2, m_comesTo, m_goesOn)
    else
      Option.bind (X6_stageSet m_s) fun r24 =>
      if (xb (X6_isIn r24 v1)) = 0 then
        Option.bind (X6_countsWays m_s m_comesTo m_goesOn) fun r41 =>
        if r41.1 = 0 then
          Option.bind (X6_no m_found 3) fun r49 =>
          some (r49.1, r49.2, r41.2.1, r41.2.2)
        else
          X6_place_L62 m_s m_found FU v1 v2 9 0 0 r41.2.1 r41.2.2
      else
        Option.bind (X6_no m_found 4) fun r36 =>
        some (r36.1, r36.2, m_comesTo, m_goesOn)
def X5_all (x_found : Nat → Int32) (sc_bows : Int32) (sc_there : Int32) (sc_came : Int32) (sc_kinds : Nat → Int32) (sc_loves : Nat → Int32) (sc_aheads : Nat → Int32) (sc_stage : Nat → Int32) (od_bows : Int32) (od_came : Int32) (od_latest : Int32) (od_full : Int32) (od_kinds : Nat → Int32) (od_loves : Nat → Int32) (od_aheads : Nat → Int32) (v1 : Int32) : Option (Int32 × (Nat → Int32) × Int32 × Int32 × Int32 × Int32 × (Nat → Int32) × (Nat → Int32) × (Nat → Int32)) :=
  if (xb (X2_isBow sc_bows v1)) = 0 then
    Option.bind (X5_finding x_found 0) fun r13 =>
    some (r13.1, r13.2, od_bows, od_came, od_latest, od_full, od_kinds, od_loves, od_aheads)
  else
    Option.bind (X1_startFrom sc_bows sc_there sc_came sc_kinds sc_loves sc_aheads sc_stage od_kinds od_loves od_aheads) fun r25 =>
    Option.bind (X1_allAhead r25.1 r25.2.2.2.2.2.2 v1 r25.2.2.2.1) fun r40 =>
    some (r40, x_found, r25.1, r25.2.1, r25.2.2.1, r25.2.2.2.1, r25.2.2.2.2.1, r25.2.2.2.2.2.1, r25.2.2.2.2.2.2)
def X6_allAhead_L18 (k9 : Int32 → Int32 → Option (Int32)) (m_s : Nat → Int32) : Nat → Int32 → Int32 → Int32 → Option (Int32)
  | 0, _, _, _ => none
  | n + 1, v2, v3, v4 =>
    if (m_s 3) ≤ v4 then
      k9 v2 (v3 + 1)
    else
      if (xb (X6_isIn v2 v4)) = 0 then
        X6_allAhead_L18 k9 m_s n (v2 ||| 0) v3 (v4 + 1)
      else
        Option.bind (X6_get m_s v4 3) fun r43 =>
        X6_allAhead_L18 k9 m_s n (v2 ||| r43) v3 (v4 + 1)
def X6_allAhead_L9 (m_s : Nat → Int32) : Nat → Int32 → Int32 → Option (Int32)
  | 0, _, _ => none
  | n + 1, v2, v3 =>
    if 9 ≤ v3 then
      some v2
    else
      X6_allAhead_L18 (fun v20 v30 => X6_allAhead_L9 m_s n v20 v30) m_s FU v2 v3 0
def X6_allAhead (m_s : Nat → Int32) (v1 : Int32) : Option (Int32) :=
  Option.bind (X6_get m_s v1 3) fun r3 =>
  X6_allAhead_L9 m_s FU r3 0
def X6_all (m_s : Nat → Int32) (m_found : Nat → Int32) (v1 : Int32) : Option (Int32 × (Nat → Int32)) :=
  Option.bind (X6_isBow m_s v1) fun r2 =>
  if (xb r2) = 0 then
    Option.bind (X6_no m_found 0) fun r18 =>
    some (r18.1, r18.2)
  else
    Option.bind (X6_allAhead m_s v1) fun r10 =>
    some (r10, m_found)
def X5_clash_L15 (sc_bows : Int32) : Nat → Int32 → Int32 → Int32 → Int32 → Int32 → Int32 → (Nat → Int32) → (Nat → Int32) → (Nat → Int32) → Option (Int32 × Int32 × Int32 × Int32 × Int32 × (Nat → Int32) × (Nat → Int32) × (Nat → Int32))
  | 0, _, _, _, _, _, _, _, _, _ => none
  | n + 1, v1, v2, od_bows_, od_came_, od_latest_, od_full_, od_kinds_, od_loves_, od_aheads_ =>
    if sc_bows ≤ v2 then
      some (v1, od_bows_, od_came_, od_latest_, od_full_, od_kinds_, od_loves_, od_aheads_)
    else
      Option.bind (X1_allAhead od_bows_ od_aheads_ v2 od_full_) fun r39 =>
      X5_clash_L15 sc_bows n (v1 ||| (r39 &&& (xshl 1 v2))) (v2 + 1) od_bows_ od_came_ od_latest_ od_full_ od_kinds_ od_loves_ od_aheads_
def X5_clash (sc_bows : Int32) (sc_there : Int32) (sc_came : Int32) (sc_kinds : Nat → Int32) (sc_loves : Nat → Int32) (sc_aheads : Nat → Int32) (sc_stage : Nat → Int32) (od_kinds : Nat → Int32) (od_loves : Nat → Int32) (od_aheads : Nat → Int32) : Option (Int32 × Int32 × Int32 × Int32 × Int32 × (Nat → Int32) × (Nat → Int32) × (Nat → Int32)) :=
  Option.bind (X1_startFrom sc_bows sc_there sc_came sc_kinds sc_loves sc_aheads sc_stage od_kinds od_loves od_aheads) fun r8 =>
  X5_clash_L15 sc_bows FU 0 0 r8.1 r8.2.1 r8.2.2.1 r8.2.2.2.1 r8.2.2.2.2.1 r8.2.2.2.2.2.1 r8.2.2.2.2.2.2
def X6_clash_L4 (m_s : Nat → Int32) : Nat → Int32 → Int32 → Option (Int32)
  | 0, _, _ => none
  | n + 1, v1, v2 =>
    if (m_s 3) ≤ v2 then
      some v1
    else
      Option.bind (X6_allAhead m_s v2) fun r17 =>
      if (xb (X6_isIn r17 v2)) = 0 then
        X6_clash_L4 m_s n (v1 ||| 0) (v2 + 1)
      else
        X6_clash_L4 m_s n (v1 ||| (xshl 1 v2)) (v2 + 1)
def X6_clash (m_s : Nat → Int32) : Option (Int32) :=
  X6_clash_L4 m_s FU 0 0
def X1_fewestBroken_L22 (k9 : Int32 → (Nat → Int32) → Option (Int32 × (Nat → Int32))) (od_bows : Int32) (od_aheads : Nat → Int32) : Nat → Int32 → Int32 → Int32 → (Nat → Int32) → Option (Int32 × (Nat → Int32))
  | 0, _, _, _, _ => none
  | n + 1, v1, v2, v3, od_bySet_ =>
    if od_bows ≤ v3 then
      if inr v1 512 then
        k9 (v1 + 1) (upd od_bySet_ v1.toNatClampNeg v2)
      else none
    else
      if (v1 &&& (xshl 1 v3)) = 0 then
        X1_fewestBroken_L22 k9 od_bows od_aheads n v1 v2 (v3 + 1) od_bySet_
      else
        if inr v3 9 then
          if inr (v1 &&& ((xshl 1 v3) ^^^ (-1))) 512 then
            X1_fewestBroken_L22 k9 od_bows od_aheads n v1 (xmin v2 ((od_bySet_ (v1 &&& ((xshl 1 v3) ^^^ (-1))).toNatClampNeg) + (J6_bitCount_0f7a4 ((od_aheads v3.toNatClampNeg) &&& (v1 ^^^ (-1)))))) (v3 + 1) od_bySet_
          else none
        else none
def X1_fewestBroken_L9 (od_bows : Int32) (od_full : Int32) (od_aheads : Nat → Int32) : Nat → Int32 → (Nat → Int32) → Option (Int32 × (Nat → Int32))
  | 0, _, _ => none
  | n + 1, v1, od_bySet_ =>
    if od_full < v1 then
      if inr od_full 512 then
        some ((od_bySet_ od_full.toNatClampNeg), od_bySet_)
      else none
    else
      X1_fewestBroken_L22 (fun v10 od_bySet_0 => X1_fewestBroken_L9 od_bows od_full od_aheads n v10 od_bySet_0) od_bows od_aheads FU v1 72 0 od_bySet_
def X1_fewestBroken (od_bows : Int32) (od_full : Int32) (od_aheads : Nat → Int32) (od_bySet : Nat → Int32) : Option (Int32 × (Nat → Int32)) :=
  X1_fewestBroken_L9 od_bows od_full od_aheads FU 1 (upd od_bySet 0 0)
def X5_broken (sc_bows : Int32) (sc_there : Int32) (sc_came : Int32) (sc_kinds : Nat → Int32) (sc_loves : Nat → Int32) (sc_aheads : Nat → Int32) (sc_stage : Nat → Int32) (od_kinds : Nat → Int32) (od_loves : Nat → Int32) (od_aheads : Nat → Int32) (od_bySet : Nat → Int32) : Option (Int32 × Int32 × Int32 × Int32 × Int32 × (Nat → Int32) × (Nat → Int32) × (Nat → Int32) × (Nat → Int32)) :=
  Option.bind (X1_startFrom sc_bows sc_there sc_came sc_kinds sc_loves sc_aheads sc_stage od_kinds od_loves od_aheads) fun r8 =>
  Option.bind (X1_fewestBroken r8.1 r8.2.2.2.1 r8.2.2.2.2.2.2 od_bySet) fun r15 =>
  some (r15.1, r8.1, r8.2.1, r8.2.2.1, r8.2.2.2.1, r8.2.2.2.2.1, r8.2.2.2.2.2.1, r8.2.2.2.2.2.2, r15.2)
def X6_broken_L26 (k9 : Int32 → (Nat → Int32) → Option (Int32 × (Nat → Int32))) (m_s : Nat → Int32) : Nat → Int32 → Int32 → (Nat → Int32) → Option (Int32 × (Nat → Int32))
  | 0, _, _, _ => none
  | n + 1, v1, v2, m_comesTo_ =>
    if (m_s 3) ≤ v2 then
      k9 (v1 + 1) m_comesTo_
    else
      if (xb (X6_isIn v1 v2)) = 0 then
        X6_broken_L26 k9 m_s n v1 (v2 + 1) m_comesTo_
      else
        if inr (v1 &&& ((xshl 1 v2) ^^^ (-1))) 512 then
          Option.bind (X6_get m_s v2 3) fun r59 =>
          Option.bind (X6_bits (r59 &&& (v1 ^^^ (-1)))) fun r66 =>
          if inr v1 512 then
            if (m_comesTo_ v1.toNatClampNeg) < 0 then
              if inr v1 512 then
                X6_broken_L26 k9 m_s n v1 (v2 + 1) (upd m_comesTo_ v1.toNatClampNeg ((m_comesTo_ (v1 &&& ((xshl 1 v2) ^^^ (-1))).toNatClampNeg) + r66))
              else none
            else
              if inr v1 512 then
                if (m_comesTo_ v1.toNatClampNeg) ≤ ((m_comesTo_ (v1 &&& ((xshl 1 v2) ^^^ (-1))).toNatClampNeg) + r66) then
                  if inr v1 512 then
                    if inr v1 512 then
                      X6_broken_L26 k9 m_s n v1 (v2 + 1) (upd m_comesTo_ v1.toNatClampNeg (m_comesTo_ v1.toNatClampNeg))
                    else none
                  else none
                else
                  if inr v1 512 then
                    X6_broken_L26 k9 m_s n v1 (v2 + 1) (upd m_comesTo_ v1.toNatClampNeg ((m_comesTo_ (v1 &&& ((xshl 1 v2) ^^^ (-1))).toNatClampNeg) + r66))
                  else none
              else none
          else none
        else none
def X6_broken_L9 (m_s : Nat → Int32) : Nat → Int32 → (Nat → Int32) → Option (Int32 × (Nat → Int32))
  | 0, _, _ => none
  | n + 1, v1, m_comesTo_ =>
    Option.bind (X6_allBows m_s) fun r11 =>
    if r11 < v1 then
      Option.bind (X6_allBows m_s) fun r123 =>
      if inr r123 512 then
        some ((m_comesTo_ r123.toNatClampNeg), m_comesTo_)
      else none
    else
      if inr v1 512 then
        X6_broken_L26 (fun v10 m_comesTo_0 => X6_broken_L9 m_s n v10 m_comesTo_0) m_s FU v1 0 (upd m_comesTo_ v1.toNatClampNeg (-1))
      else none
def X6_broken (m_s : Nat → Int32) (m_comesTo : Nat → Int32) : Option (Int32 × (Nat → Int32)) :=
  X6_broken_L9 m_s FU 1 (upd m_comesTo 0 0)
def X5_between_L58 (x_found : Nat → Int32) (sc_bows : Int32) (sc_kinds : Nat → Int32) (sc_loves : Nat → Int32) : Nat → Int32 → Int32 → Int32 → Int32 → Int32 → Option (Int32 × (Nat → Int32))
  | 0, _, _, _, _, _ => none
  | n + 1, v1, v2, v3, v4, v5 =>
    if sc_bows ≤ v5 then
      some (v4, x_found)
    else
      if v5 = v1 then
        X5_between_L58 x_found sc_bows sc_kinds sc_loves n v1 v2 v3 v4 (v5 + 1)
      else
        if v5 = v2 then
          X5_between_L58 x_found sc_bows sc_kinds sc_loves n v1 v2 v3 v4 (v5 + 1)
        else
          Option.bind (X2_leftBy sc_kinds sc_loves v1) fun r93 =>
          Option.bind (X2_noiseBy sc_kinds sc_loves v5 r93) fun r96 =>
          Option.bind (X2_leftBy sc_kinds sc_loves v5) fun r110 =>
          Option.bind (X2_noiseBy sc_kinds sc_loves v2 r110) fun r113 =>
          if (r96 + r113) ≤ v3 then
            X5_between_L58 x_found sc_bows sc_kinds sc_loves n v1 v2 v3 v4 (v5 + 1)
          else
            X5_between_L58 x_found sc_bows sc_kinds sc_loves n v1 v2 (r96 + r113) v5 (v5 + 1)
def X5_between (x_found : Nat → Int32) (sc_bows : Int32) (sc_kinds : Nat → Int32) (sc_loves : Nat → Int32) (v1 : Int32) (v2 : Int32) : Option (Int32 × (Nat → Int32)) :=
  if (xb (X2_isBow sc_bows v1)) = 0 then
    Option.bind (X5_finding x_found 0) fun r29 =>
    some (r29.1, r29.2)
  else
    if (xb (X2_isBow sc_bows v2)) = 0 then
      Option.bind (X5_finding x_found 0) fun r29_1 =>
      some (r29_1.1, r29_1.2)
    else
      if v1 = v2 then
        Option.bind (X5_finding x_found 0) fun r29_2 =>
        some (r29_2.1, r29_2.2)
      else
        if sc_bows = 2 then
          Option.bind (X5_finding x_found 3) fun r46 =>
          some (r46.1, r46.2)
        else
          X5_between_L58 x_found sc_bows sc_kinds sc_loves FU v1 v2 (-1) (-1) 0
def X6_between_L85 (k35 : Int32 → Int32 → Int32 → Int32 → Int32 → Option (Int32 × (Nat → Int32))) (v1 : Int32) (v2 : Int32) (v3 : Int32) (v4 : Int32) (v5 : Int32) (t0 : Int32) : Option (Int32 × (Nat → Int32)) :=
  if t0 ≤ v4 then
    k35 v1 v2 v3 (X6_most v4 t0) (v5 + 1)
  else
    k35 v1 v2 v5 (X6_most v4 t0) (v5 + 1)
def X6_between_L35 (m_s : Nat → Int32) (m_found : Nat → Int32) : Nat → Int32 → Int32 → Int32 → Int32 → Int32 → Option (Int32 × (Nat → Int32))
  | 0, _, _, _, _, _ => none
  | n + 1, v1, v2, v3, v4, v5 =>
    if (m_s 3) ≤ v5 then
      if 0 ≤ v3 then
        some (v3, m_found)
      else
        Option.bind (X6_no m_found 3) fun r122 =>
        some (r122.1, r122.2)
    else
      if v5 = v1 then
        X6_between_L85 (fun v10 v20 v30 v40 v50 => X6_between_L35 m_s m_found n v10 v20 v30 v40 v50) v1 v2 v3 v4 v5 (-1)
      else
        if v5 = v2 then
          X6_between_L85 (fun v10 v20 v30 v40 v50 => X6_between_L35 m_s m_found n v10 v20 v30 v40 v50) v1 v2 v3 v4 v5 (-1)
        else
          Option.bind (X6_leaves m_s v1) fun r67 =>
          Option.bind (X6_noiseBy m_s v5 r67) fun r70 =>
          Option.bind (X6_leaves m_s v5) fun r78 =>
          Option.bind (X6_noiseBy m_s v2 r78) fun r81 =>
          X6_between_L85 (fun v10 v20 v30 v40 v50 => X6_between_L35 m_s m_found n v10 v20 v30 v40 v50) v1 v2 v3 v4 v5 (r70 + r81)
def X6_between (m_s : Nat → Int32) (m_found : Nat → Int32) (v1 : Int32) (v2 : Int32) : Option (Int32 × (Nat → Int32)) :=
  Option.bind (X6_isBow m_s v1) fun r2 =>
  if (xb r2) = 0 then
    Option.bind (X6_no m_found 0) fun r23 =>
    some (r23.1, r23.2)
  else
    Option.bind (X6_isBow m_s v2) fun r10 =>
    if (xb r10) = 0 then
      Option.bind (X6_no m_found 0) fun r23_1 =>
      some (r23_1.1, r23_1.2)
    else
      if v1 = v2 then
        Option.bind (X6_no m_found 0) fun r23_2 =>
        some (r23_2.1, r23_2.2)
      else
        X6_between_L35 m_s m_found FU v1 v2 (-1) (-1) 0
def X1_bestKind_L8 (od_bows : Int32) (od_came : Int32) (od_latest : Int32) (od_full : Int32) (od_loves : Nat → Int32) (od_aheads : Nat → Int32) : Nat → Int32 → Int32 → Int32 → Int32 → Int32 → (Nat → Int32) → (Nat → Int32) → (Nat → Int32) → (Nat → Int32) → (Nat → Int32) → Option (Int32 × Int32 × (Nat → Int32) × (Nat → Int32) × (Nat → Int32) × (Nat → Int32) × (Nat → Int32))
  | 0, _, _, _, _, _, _, _, _, _, _ => none
  | n + 1, v1, v2, v3, v4, od_many_, od_kinds_, od_scores_, od_most_, od_followers_, od_mostThen_ =>
    if 7 ≤ v4 then
      some (v3, od_many_, od_kinds_, od_scores_, od_most_, od_followers_, od_mostThen_)
    else
      if inr v1 9 then
        Option.bind (X1_weigh od_many_ od_bows od_came od_latest od_full (upd od_kinds_ v1.toNatClampNeg v4) od_loves od_aheads od_scores_ od_most_ od_followers_ od_mostThen_ 0) fun r25 =>
        if r25.1 ≤ v2 then
          X1_bestKind_L8 od_bows od_came od_latest od_full od_loves od_aheads n v1 v2 v3 (v4 + 1) r25.2.1 (upd od_kinds_ v1.toNatClampNeg v4) r25.2.2.1 r25.2.2.2.1 r25.2.2.2.2.1 r25.2.2.2.2.2
        else
          X1_bestKind_L8 od_bows od_came od_latest od_full od_loves od_aheads n v1 r25.1 v4 (v4 + 1) r25.2.1 (upd od_kinds_ v1.toNatClampNeg v4) r25.2.2.1 r25.2.2.2.1 r25.2.2.2.2.1 r25.2.2.2.2.2
      else none
def X1_bestKind (od_many : Int32) (od_bows : Int32) (od_came : Int32) (od_latest : Int32) (od_full : Int32) (od_kinds : Nat → Int32) (od_loves : Nat → Int32) (od_aheads : Nat → Int32) (od_scores : Nat → Int32) (od_most : Nat → Int32) (od_followers : Nat → Int32) (od_mostThen : Nat → Int32) (v1 : Int32) : Option (Int32 × Int32 × (Nat → Int32) × (Nat → Int32) × (Nat → Int32) × (Nat → Int32) × (Nat → Int32)) :=
  X1_bestKind_L8 od_bows od_came od_latest od_full od_loves od_aheads FU v1 (-1000000) 0 0 od_many od_kinds od_scores od_most od_followers od_mostThen
def X5_kindFor (x_found : Nat → Int32) (sc_bows : Int32) (sc_there : Int32) (sc_came : Int32) (sc_kinds : Nat → Int32) (sc_loves : Nat → Int32) (sc_aheads : Nat → Int32) (sc_stage : Nat → Int32) (od_many : Int32) (od_bows : Int32) (od_came : Int32) (od_latest : Int32) (od_full : Int32) (od_kinds : Nat → Int32) (od_loves : Nat → Int32) (od_aheads : Nat → Int32) (od_scores : Nat → Int32) (od_most : Nat → Int32) (od_followers : Nat → Int32) (od_mostThen : Nat → Int32) (v1 : Int32) : Option (Int32 × (Nat → Int32) × Int32 × Int32 × Int32 × Int32 × Int32 × (Nat → Int32) × (Nat → Int32) × (Nat → Int32) × (Nat → Int32) × (Nat → Int32) × (Nat → Int32) × (Nat → Int32)) :=
  if (xb (X2_isBow sc_bows v1)) = 0 then
    Option.bind (X5_finding x_found 0) fun r13 =>
    some (r13.1, r13.2, od_many, od_bows, od_came, od_latest, od_full, od_kinds, od_loves, od_aheads, od_scores, od_most, od_followers, od_mostThen)
  else
    Option.bind (X1_startFrom sc_bows sc_there sc_came sc_kinds sc_loves sc_aheads sc_stage od_kinds od_loves od_aheads) fun r25 =>
    Option.bind (X1_haveWay r25.1 r25.2.1 r25.2.2.2.1 r25.2.2.2.2.2.2) fun r32 =>
    if (xb r32) = 0 then
      Option.bind (X5_finding x_found 3) fun r40 =>
      some (r40.1, r40.2, od_many, r25.1, r25.2.1, r25.2.2.1, r25.2.2.2.1, r25.2.2.2.2.1, r25.2.2.2.2.2.1, r25.2.2.2.2.2.2, od_scores, od_most, od_followers, od_mostThen)
    else
      Option.bind (X1_bestKind od_many r25.1 r25.2.1 r25.2.2.1 r25.2.2.2.1 r25.2.2.2.2.1 r25.2.2.2.2.2.1 r25.2.2.2.2.2.2 od_scores od_most od_followers od_mostThen v1) fun r49 =>
      some (r49.1, x_found, r49.2.1, r25.1, r25.2.1, r25.2.2.1, r25.2.2.2.1, r49.2.2.1, r25.2.2.2.2.2.1, r25.2.2.2.2.2.2, r49.2.2.2.1, r49.2.2.2.2.1, r49.2.2.2.2.2.1, r49.2.2.2.2.2.2)
def X6_kindFor_L30 (m_found : Nat → Int32) : Nat → Int32 → Int32 → Int32 → Int32 → Int32 → (Nat → Int32) → (Nat → Int32) → Option (Int32 × (Nat → Int32) × (Nat → Int32) × (Nat → Int32))
  | 0, _, _, _, _, _, _, _ => none
  | n + 1, v1, v2, v3, v4, v5, m_s_, m_behind_ =>
    if 6 < v5 then
      Option.bind (X6_puts m_s_ v1 0 v2) fun r85 =>
      if 0 ≤ v3 then
        some (v3, r85, m_found, m_behind_)
      else
        Option.bind (X6_no m_found 3) fun r94 =>
        some (r94.1, r85, r94.2, m_behind_)
    else
      Option.bind (X6_puts m_s_ v1 0 v5) fun r42 =>
      Option.bind (X6_findsBest r42 m_behind_ 0) fun r47 =>
      if r47.1 ≤ v4 then
        X6_kindFor_L30 m_found n v1 v2 v3 (X6_most v4 r47.1) (v5 + 1) r42 r47.2
      else
        X6_kindFor_L30 m_found n v1 v2 v5 (X6_most v4 r47.1) (v5 + 1) r42 r47.2
def X6_kindFor (m_s : Nat → Int32) (m_found : Nat → Int32) (m_behind : Nat → Int32) (v1 : Int32) : Option (Int32 × (Nat → Int32) × (Nat → Int32) × (Nat → Int32)) :=
  Option.bind (X6_isBow m_s v1) fun r2 =>
  if (xb r2) = 0 then
    Option.bind (X6_no m_found 0) fun r10 =>
    some (r10.1, m_s, r10.2, m_behind)
  else
    Option.bind (X6_get m_s v1 0) fun r17 =>
    X6_kindFor_L30 m_found FU v1 r17 (-1) (-99999999) 0 m_s m_behind
def X1_freeOne_L82 (k4 : Int32 → Int32 → Int32 → Int32 → Int32 → (Nat → Int32) → (Nat → Int32) → (Nat → Int32) → (Nat → Int32) → (Nat → Int32) → Option (Bool × Int32 × Int32 × Int32 × (Nat → Int32) × (Nat → Int32) × (Nat → Int32) × (Nat → Int32) × (Nat → Int32))) (k14 : Int32 → Int32 → Int32 → Int32 → Int32 → Int32 → (Nat → Int32) → (Nat → Int32) → (Nat → Int32) → (Nat → Int32) → (Nat → Int32) → Option (Bool × Int32 × Int32 × Int32 × (Nat → Int32) × (Nat → Int32) × (Nat → Int32) × (Nat → Int32) × (Nat → Int32))) (v2 : Int32) (v3 : Int32) (v4 : Int32) (v5 : Int32) (od_many_ : Int32) (od_freedOne_ : Int32) (od_freedMost_ : Int32) (od_aheads_ : (Nat → Int32)) (od_scores_ : (Nat → Int32)) (od_most_ : (Nat → Int32)) (od_followers_ : (Nat → Int32)) (od_mostThen_ : (Nat → Int32)) : Option (Bool × Int32 × Int32 × Int32 × (Nat → Int32) × (Nat → Int32) × (Nat → Int32) × (Nat → Int32) × (Nat → Int32)) :=
  if inr v3 9 then
    k14 1 v2 (v3 + 1) od_many_ ((10 * v2) + v3) v5 (upd od_aheads_ v3.toNatClampNeg v4) od_scores_ od_most_ od_followers_ od_mostThen_
  else none
def X1_freeOne_L14 (k4 : Int32 → Int32 → Int32 → Int32 → Int32 → (Nat → Int32) → (Nat → Int32) → (Nat → Int32) → (Nat → Int32) → (Nat → Int32) → Option (Bool × Int32 × Int32 × Int32 × (Nat → Int32) × (Nat → Int32) × (Nat → Int32) × (Nat → Int32) × (Nat → Int32))) (od_bows : Int32) (od_came : Int32) (od_latest : Int32) (od_full : Int32) (od_kinds : Nat → Int32) (od_loves : Nat → Int32) : Nat → Int32 → Int32 → Int32 → Int32 → Int32 → Int32 → (Nat → Int32) → (Nat → Int32) → (Nat → Int32) → (Nat → Int32) → (Nat → Int32) → Option (Bool × Int32 × Int32 × Int32 × (Nat → Int32) × (Nat → Int32) × (Nat → Int32) × (Nat → Int32) × (Nat → Int32))
  | 0, _, _, _, _, _, _, _, _, _, _, _ => none
  | n + 1, v1, v2, v3, od_many_, od_freedOne_, od_freedMost_, od_aheads_, od_scores_, od_most_, od_followers_, od_mostThen_ =>
    if od_bows ≤ v3 then
      k4 v1 (v2 + 1) od_many_ od_freedOne_ od_freedMost_ od_aheads_ od_scores_ od_most_ od_followers_ od_mostThen_
    else
      if inr v3 9 then
        if inr v3 9 then
          if inr v3 9 then
            if (od_aheads_ v3.toNatClampNeg) = ((upd od_aheads_ v3.toNatClampNeg ((od_aheads_ v3.toNatClampNeg) &&& ((xshl 1 v2) ^^^ (-1)))) v3.toNatClampNeg) then
              if inr v3 9 then
                X1_freeOne_L14 k4 od_bows od_came od_latest od_full od_kinds od_loves n v1 v2 (v3 + 1) od_many_ od_freedOne_ od_freedMost_ (upd (upd od_aheads_ v3.toNatClampNeg ((od_aheads_ v3.toNatClampNeg) &&& ((xshl 1 v2) ^^^ (-1)))) v3.toNatClampNeg (od_aheads_ v3.toNatClampNeg)) od_scores_ od_most_ od_followers_ od_mostThen_
              else none
            else
              Option.bind (X1_haveWay od_bows od_came od_full (upd od_aheads_ v3.toNatClampNeg ((od_aheads_ v3.toNatClampNeg) &&& ((xshl 1 v2) ^^^ (-1))))) fun r56 =>
              if (xb r56) = 0 then
                if inr v3 9 then
                  X1_freeOne_L14 k4 od_bows od_came od_latest od_full od_kinds od_loves n v1 v2 (v3 + 1) od_many_ od_freedOne_ od_freedMost_ (upd (upd od_aheads_ v3.toNatClampNeg ((od_aheads_ v3.toNatClampNeg) &&& ((xshl 1 v2) ^^^ (-1)))) v3.toNatClampNeg (od_aheads_ v3.toNatClampNeg)) od_scores_ od_most_ od_followers_ od_mostThen_
                else none
              else
                Option.bind (X1_weigh od_many_ od_bows od_came od_latest od_full od_kinds od_loves (upd od_aheads_ v3.toNatClampNeg ((od_aheads_ v3.toNatClampNeg) &&& ((xshl 1 v2) ^^^ (-1)))) od_scores_ od_most_ od_followers_ od_mostThen_ 0) fun r64 =>
                if v1 = 0 then
                  X1_freeOne_L82 (fun v10 v20 od_many_0 od_freedOne_0 od_freedMost_0 od_aheads_0 od_scores_0 od_most_0 od_followers_0 od_mostThen_0 => k4 v10 v20 od_many_0 od_freedOne_0 od_freedMost_0 od_aheads_0 od_scores_0 od_most_0 od_followers_0 od_mostThen_0) (fun v10 v20 v30 od_many_0 od_freedOne_0 od_freedMost_0 od_aheads_0 od_scores_0 od_most_0 od_followers_0 od_mostThen_0 => X1_freeOne_L14 k4 od_bows od_came od_latest od_full od_kinds od_loves n v10 v20 v30 od_many_0 od_freedOne_0 od_freedMost_0 od_aheads_0 od_scores_0 od_most_0 od_followers_0 od_mostThen_0) v2 v3 (od_aheads_ v3.toNatClampNeg) r64.1 r64.2.1 od_freedOne_ od_freedMost_ (upd od_aheads_ v3.toNatClampNeg ((od_aheads_ v3.toNatClampNeg) &&& ((xshl 1 v2) ^^^ (-1)))) r64.2.2.1 r64.2.2.2.1 r64.2.2.2.2.1 r64.2.2.2.2.2
                else
                  if r64.1 ≤ od_freedMost_ then
                    if inr v3 9 then
                      X1_freeOne_L14 k4 od_bows od_came od_latest od_full od_kinds od_loves n v1 v2 (v3 + 1) r64.2.1 od_freedOne_ od_freedMost_ (upd (upd od_aheads_ v3.toNatClampNeg ((od_aheads_ v3.toNatClampNeg) &&& ((xshl 1 v2) ^^^ (-1)))) v3.toNatClampNeg (od_aheads_ v3.toNatClampNeg)) r64.2.2.1 r64.2.2.2.1 r64.2.2.2.2.1 r64.2.2.2.2.2
                    else none
                  else
                    X1_freeOne_L82 (fun v10 v20 od_many_0 od_freedOne_0 od_freedMost_0 od_aheads_0 od_scores_0 od_most_0 od_followers_0 od_mostThen_0 => k4 v10 v20 od_many_0 od_freedOne_0 od_freedMost_0 od_aheads_0 od_scores_0 od_most_0 od_followers_0 od_mostThen_0) (fun v10 v20 v30 od_many_0 od_freedOne_0 od_freedMost_0 od_aheads_0 od_scores_0 od_most_0 od_followers_0 od_mostThen_0 => X1_freeOne_L14 k4 od_bows od_came od_latest od_full od_kinds od_loves n v10 v20 v30 od_many_0 od_freedOne_0 od_freedMost_0 od_aheads_0 od_scores_0 od_most_0 od_followers_0 od_mostThen_0) v2 v3 (od_aheads_ v3.toNatClampNeg) r64.1 r64.2.1 od_freedOne_ od_freedMost_ (upd od_aheads_ v3.toNatClampNeg ((od_aheads_ v3.toNatClampNeg) &&& ((xshl 1 v2) ^^^ (-1)))) r64.2.2.1 r64.2.2.2.1 r64.2.2.2.2.1 r64.2.2.2.2.2
          else none
        else none
      else none
def X1_freeOne_L4 (od_bows : Int32) (od_came : Int32) (od_latest : Int32) (od_full : Int32) (od_kinds : Nat → Int32) (od_loves : Nat → Int32) : Nat → Int32 → Int32 → Int32 → Int32 → Int32 → (Nat → Int32) → (Nat → Int32) → (Nat → Int32) → (Nat → Int32) → (Nat → Int32) → Option (Bool × Int32 × Int32 × Int32 × (Nat → Int32) × (Nat → Int32) × (Nat → Int32) × (Nat → Int32) × (Nat → Int32))
  | 0, _, _, _, _, _, _, _, _, _, _ => none
  | n + 1, v1, v2, od_many_, od_freedOne_, od_freedMost_, od_aheads_, od_scores_, od_most_, od_followers_, od_mostThen_ =>
    if od_bows ≤ v2 then
      if v1 = 0 ∨ v1 = 1 then some ((decide (v1 = 1)), od_many_, od_freedOne_, od_freedMost_, od_aheads_, od_scores_, od_most_, od_followers_, od_mostThen_) else none
    else
      X1_freeOne_L14 (fun v10 v20 od_many_0 od_freedOne_0 od_freedMost_0 od_aheads_0 od_scores_0 od_most_0 od_followers_0 od_mostThen_0 => X1_freeOne_L4 od_bows od_came od_latest od_full od_kinds od_loves n v10 v20 od_many_0 od_freedOne_0 od_freedMost_0 od_aheads_0 od_scores_0 od_most_0 od_followers_0 od_mostThen_0) od_bows od_came od_latest od_full od_kinds od_loves FU v1 v2 0 od_many_ od_freedOne_ od_freedMost_ od_aheads_ od_scores_ od_most_ od_followers_ od_mostThen_
def X1_freeOne (od_many : Int32) (od_bows : Int32) (od_came : Int32) (od_latest : Int32) (od_full : Int32) (od_freedOne : Int32) (od_freedMost : Int32) (od_kinds : Nat → Int32) (od_loves : Nat → Int32) (od_aheads : Nat → Int32) (od_scores : Nat → Int32) (od_most : Nat → Int32) (od_followers : Nat → Int32) (od_mostThen : Nat → Int32) : Option (Bool × Int32 × Int32 × Int32 × (Nat → Int32) × (Nat → Int32) × (Nat → Int32) × (Nat → Int32) × (Nat → Int32)) :=
  X1_freeOne_L4 od_bows od_came od_latest od_full od_kinds od_loves FU 0 0 od_many od_freedOne od_freedMost od_aheads od_scores od_most od_followers od_mostThen
def X5_freed (x_found : Nat → Int32) (sc_bows : Int32) (sc_there : Int32) (sc_came : Int32) (sc_kinds : Nat → Int32) (sc_loves : Nat → Int32) (sc_aheads : Nat → Int32) (sc_stage : Nat → Int32) (od_many : Int32) (od_freedOne : Int32) (od_freedMost : Int32) (od_kinds : Nat → Int32) (od_loves : Nat → Int32) (od_aheads : Nat → Int32) (od_scores : Nat → Int32) (od_most : Nat → Int32) (od_followers : Nat → Int32) (od_mostThen : Nat → Int32) : Option (Int32 × (Nat → Int32) × Int32 × Int32 × Int32 × Int32 × Int32 × Int32 × Int32 × (Nat → Int32) × (Nat → Int32) × (Nat → Int32) × (Nat → Int32) × (Nat → Int32) × (Nat → Int32) × (Nat → Int32)) :=
  Option.bind (X1_startFrom sc_bows sc_there sc_came sc_kinds sc_loves sc_aheads sc_stage od_kinds od_loves od_aheads) fun r8 =>
  Option.bind (X1_freeOne od_many r8.1 r8.2.1 r8.2.2.1 r8.2.2.2.1 od_freedOne od_freedMost r8.2.2.2.2.1 r8.2.2.2.2.2.1 r8.2.2.2.2.2.2 od_scores od_most od_followers od_mostThen) fun r15 =>
  if (xb r15.1) = 0 then
    Option.bind (X5_finding x_found 3) fun r33 =>
    some (r33.1, r33.2, r15.2.1, r8.1, r8.2.1, r8.2.2.1, r8.2.2.2.1, r15.2.2.1, r15.2.2.2.1, r8.2.2.2.2.1, r8.2.2.2.2.2.1, r15.2.2.2.2.1, r15.2.2.2.2.2.1, r15.2.2.2.2.2.2.1, r15.2.2.2.2.2.2.2.1, r15.2.2.2.2.2.2.2.2)
  else
    some (r15.2.2.1, x_found, r15.2.1, r8.1, r8.2.1, r8.2.2.1, r8.2.2.2.1, r15.2.2.1, r15.2.2.2.1, r8.2.2.2.2.1, r8.2.2.2.2.2.1, r15.2.2.2.2.1, r15.2.2.2.2.2.1, r15.2.2.2.2.2.2.1, r15.2.2.2.2.2.2.2.1, r15.2.2.2.2.2.2.2.2)
def X6_findsFreed_L10 : Nat → Int32 → Int32 → Int32 → (Nat → Int32) → (Nat → Int32) → Option (Int32 × Int32 × (Nat → Int32) × (Nat → Int32))
  | 0, _, _, _, _, _ => none
  | n + 1, v1, v2, m_freedBy_, m_s_, m_behind_ =>
    if (10 * (m_s_ 3)) ≤ v2 then
      some (v1, m_freedBy_, m_s_, m_behind_)
    else
      Option.bind (X6_isBow m_s_ (xirem v2 10)) fun r37 =>
      if (xb r37) = 0 then
        X6_findsFreed_L10 n v1 (v2 + 1) m_freedBy_ m_s_ m_behind_
      else
        Option.bind (X6_get m_s_ (xirem v2 10) 3) fun r47 =>
        if (xb (X6_isIn r47 (v2 / 10))) = 0 then
          X6_findsFreed_L10 n v1 (v2 + 1) m_freedBy_ m_s_ m_behind_
        else
          Option.bind (X6_get m_s_ (xirem v2 10) 3) fun r61 =>
          Option.bind (X6_puts m_s_ (xirem v2 10) 3 (r61 &&& ((xshl 1 (v2 / 10)) ^^^ (-1)))) fun r78 =>
          Option.bind (X6_findsBest r78 m_behind_ 0) fun r83 =>
          Option.bind (X6_puts r78 (xirem v2 10) 3 r61) fun r94 =>
          if r83.1 ≤ m_freedBy_ then
            X6_findsFreed_L10 n v1 (v2 + 1) (X6_most m_freedBy_ r83.1) r94 r83.2
          else
            X6_findsFreed_L10 n v2 (v2 + 1) (X6_most m_freedBy_ r83.1) r94 r83.2
def X6_findsFreed (m_s : Nat → Int32) (m_behind : Nat → Int32) : Option (Int32 × Int32 × (Nat → Int32) × (Nat → Int32)) :=
  X6_findsFreed_L10 FU (-1) 0 (-99999999) m_s m_behind
def X6_freed (m_s : Nat → Int32) (m_found : Nat → Int32) (m_behind : Nat → Int32) : Option (Int32 × Int32 × (Nat → Int32) × (Nat → Int32) × (Nat → Int32)) :=
  Option.bind (X6_findsFreed m_s m_behind) fun r1 =>
  if 0 ≤ r1.1 then
    some (r1.1, r1.2.1, r1.2.2.1, m_found, r1.2.2.2)
  else
    Option.bind (X6_no m_found 3) fun r11 =>
    some (r11.1, r1.2.1, r1.2.2.1, r11.2, r1.2.2.2)
def X5_free (x_found : Nat → Int32) (sc_bows : Int32) (sc_there : Int32) (sc_came : Int32) (sc_kinds : Nat → Int32) (sc_loves : Nat → Int32) (sc_aheads : Nat → Int32) (sc_stage : Nat → Int32) (od_many : Int32) (od_freedOne : Int32) (od_freedMost : Int32) (od_kinds : Nat → Int32) (od_loves : Nat → Int32) (od_aheads : Nat → Int32) (od_scores : Nat → Int32) (od_most : Nat → Int32) (od_followers : Nat → Int32) (od_mostThen : Nat → Int32) : Option (Int32 × (Nat → Int32) × Int32 × Int32 × Int32 × Int32 × Int32 × Int32 × Int32 × (Nat → Int32) × (Nat → Int32) × (Nat → Int32) × (Nat → Int32) × (Nat → Int32) × (Nat → Int32) × (Nat → Int32)) :=
  Option.bind (X1_startFrom sc_bows sc_there sc_came sc_kinds sc_loves sc_aheads sc_stage od_kinds od_loves od_aheads) fun r8 =>
  Option.bind (X1_freeOne od_many r8.1 r8.2.1 r8.2.2.1 r8.2.2.2.1 od_freedOne od_freedMost r8.2.2.2.2.1 r8.2.2.2.2.2.1 r8.2.2.2.2.2.2 od_scores od_most od_followers od_mostThen) fun r15 =>
  if (xb r15.1) = 0 then
    Option.bind (X5_finding x_found 3) fun r33 =>
    some (r33.1, r33.2, r15.2.1, r8.1, r8.2.1, r8.2.2.1, r8.2.2.2.1, r15.2.2.1, r15.2.2.2.1, r8.2.2.2.2.1, r8.2.2.2.2.2.1, r15.2.2.2.2.1, r15.2.2.2.2.2.1, r15.2.2.2.2.2.2.1, r15.2.2.2.2.2.2.2.1, r15.2.2.2.2.2.2.2.2)
  else
    some (r15.2.2.2.1, x_found, r15.2.1, r8.1, r8.2.1, r8.2.2.1, r8.2.2.2.1, r15.2.2.1, r15.2.2.2.1, r8.2.2.2.2.1, r8.2.2.2.2.2.1, r15.2.2.2.2.1, r15.2.2.2.2.2.1, r15.2.2.2.2.2.2.1, r15.2.2.2.2.2.2.2.1, r15.2.2.2.2.2.2.2.2)
def X6_free (m_s : Nat → Int32) (m_found : Nat → Int32) (m_behind : Nat → Int32) : Option (Int32 × Int32 × (Nat → Int32) × (Nat → Int32) × (Nat → Int32)) :=
  Option.bind (X6_findsFreed m_s m_behind) fun r1 =>
  if 0 ≤ r1.1 then
    some (r1.2.1, r1.2.1, r1.2.2.1, m_found, r1.2.2.2)
  else
    Option.bind (X6_no m_found 3) fun r11 =>
    some (r11.1, r1.2.1, r1.2.2.1, r11.2, r1.2.2.2)
def X5_train_L47 (x_found : Nat → Int32) (sc_kinds : Nat → Int32) (sc_seconds : Nat → Int32) (sc_rules : Nat → Int32) : Nat → Int32 → Int32 → Int32 → Int32 → Int32 → Int32 → Int32 → Int32 → (Nat → Int32) → (Nat → Int32) → (Nat → Int32) → (Nat → Int32) → (Nat → Int32) → (Nat → Int32) → (Nat → Int32) → (Nat → Int32) → Option (Int32 × (Nat → Int32) × Int32 × Int32 × Int32 × Int32 × Int32 × (Nat → Int32) × (Nat → Int32) × (Nat → Int32) × (Nat → Int32) × (Nat → Int32) × (Nat → Int32) × (Nat → Int32) × (Nat → Int32))
  | 0, _, _, _, _, _, _, _, _, _, _, _, _, _, _, _, _ => none
  | n + 1, v1, v2, v3, od_many_, od_bows_, od_came_, od_latest_, od_full_, od_kinds_, od_loves_, od_aheads_, od_scores_, od_most_, od_followers_, od_mostThen_, od_first_ =>
    if (X1_rest od_came_ od_full_) ≤ v3 then
      some (v2, x_found, od_many_, od_bows_, od_came_, od_latest_, od_full_, od_kinds_, od_loves_, od_aheads_, od_scores_, od_most_, od_followers_, od_mostThen_, od_first_)
    else
      if inr v3 9 then
        Option.bind (X2_lastedBy sc_kinds sc_seconds (od_first_ v3.toNatClampNeg)) fun r72 =>
        if (sc_rules 4) < (v1 + r72) then
          X5_train_L47 x_found sc_kinds sc_seconds sc_rules n (v1 + r72) v2 (v3 + 1) od_many_ od_bows_ od_came_ od_latest_ od_full_ od_kinds_ od_loves_ od_aheads_ od_scores_ od_most_ od_followers_ od_mostThen_ od_first_
        else
          X5_train_L47 x_found sc_kinds sc_seconds sc_rules n (v1 + r72) (v2 + 1) (v3 + 1) od_many_ od_bows_ od_came_ od_latest_ od_full_ od_kinds_ od_loves_ od_aheads_ od_scores_ od_most_ od_followers_ od_mostThen_ od_first_
      else none
def X5_train (x_found : Nat → Int32) (sc_bows : Int32) (sc_there : Int32) (sc_came : Int32) (sc_clock : Int32) (sc_kinds : Nat → Int32) (sc_loves : Nat → Int32) (sc_seconds : Nat → Int32) (sc_aheads : Nat → Int32) (sc_rules : Nat → Int32) (sc_stage : Nat → Int32) (od_many : Int32) (od_kinds : Nat → Int32) (od_loves : Nat → Int32) (od_aheads : Nat → Int32) (od_scores : Nat → Int32) (od_most : Nat → Int32) (od_followers : Nat → Int32) (od_mostThen : Nat → Int32) (od_first : Nat → Int32) : Option (Int32 × (Nat → Int32) × Int32 × Int32 × Int32 × Int32 × Int32 × (Nat → Int32) × (Nat → Int32) × (Nat → Int32) × (Nat → Int32) × (Nat → Int32) × (Nat → Int32) × (Nat → Int32) × (Nat → Int32)) :=
  Option.bind (X1_startFrom sc_bows sc_there sc_came sc_kinds sc_loves sc_aheads sc_stage od_kinds od_loves od_aheads) fun r8 =>
  Option.bind (X1_haveWay r8.1 r8.2.1 r8.2.2.2.1 r8.2.2.2.2.2.2) fun r15 =>
  if (xb r15) = 0 then
    Option.bind (X5_finding x_found 3) fun r23 =>
    some (r23.1, r23.2, od_many, r8.1, r8.2.1, r8.2.2.1, r8.2.2.2.1, r8.2.2.2.2.1, r8.2.2.2.2.2.1, r8.2.2.2.2.2.2, od_scores, od_most, od_followers, od_mostThen, od_first)
  else
    Option.bind (X1_findFirst od_many r8.1 r8.2.1 r8.2.2.1 r8.2.2.2.1 r8.2.2.2.2.1 r8.2.2.2.2.2.1 r8.2.2.2.2.2.2 od_scores od_most od_followers od_mostThen od_first 0) fun r32 =>
    X5_train_L47 x_found sc_kinds sc_seconds sc_rules FU sc_clock 0 0 r32.1 r8.1 r8.2.1 r8.2.2.1 r8.2.2.2.1 r8.2.2.2.2.1 r8.2.2.2.2.2.1 r8.2.2.2.2.2.2 r32.2.1 r32.2.2.1 r32.2.2.2.1 r32.2.2.2.2.1 r32.2.2.2.2.2
def X6_train_L25 (m_s : Nat → Int32) (m_found : Nat → Int32) : Nat → Int32 → Int32 → Int32 → Int32 → (Nat → Int32) → (Nat → Int32) → Option (Int32 × Int32 × (Nat → Int32) × (Nat → Int32) × (Nat → Int32))
  | 0, _, _, _, _, _, _ => none
  | n + 1, v1, v2, v3, m_rowMany_, m_behind_, m_row_ =>
    if m_rowMany_ ≤ v3 then
      some (v2, m_rowMany_, m_found, m_behind_, m_row_)
    else
      if inr v3 9 then
        Option.bind (X6_secondsOf m_s (m_row_ v3.toNatClampNeg)) fun r41 =>
        if (m_s 9) < (v1 + r41) then
          X6_train_L25 m_s m_found n (v1 + r41) (v2 + 0) (v3 + 1) m_rowMany_ m_behind_ m_row_
        else
          X6_train_L25 m_s m_found n (v1 + r41) (v2 + 1) (v3 + 1) m_rowMany_ m_behind_ m_row_
      else none
def X6_train (m_s : Nat → Int32) (m_found : Nat → Int32) (m_behind : Nat → Int32) (m_row : Nat → Int32) : Option (Int32 × Int32 × (Nat → Int32) × (Nat → Int32) × (Nat → Int32)) :=
  Option.bind (X6_findsRow m_s m_behind m_row 0) fun r2 =>
  if (xb r2.1) = 0 then
    Option.bind (X6_no m_found 3) fun r10 =>
    some (r10.1, r2.2.1, r10.2, r2.2.2.1, r2.2.2.2)
  else
    X6_train_L25 m_s m_found FU (m_s 1) 0 0 r2.2.1 r2.2.2.1 r2.2.2.2
def X5_fits_L34 (x_found : Nat → Int32) (sc_kinds : Nat → Int32) : Nat → Int32 → Int32 → Int32 → Int32 → Int32 → Option (Int32 × (Nat → Int32))
  | 0, _, _, _, _, _ => none
  | n + 1, v1, v2, v3, v4, v5 =>
    if 99 < v5 then
      some (v4, x_found)
    else
      if inr v1 9 then
        if (X0_noiseOf (sc_kinds v1.toNatClampNeg) v5 v2) = v3 then
          X5_fits_L34 x_found sc_kinds n v1 v2 v3 (v4 + 1) (v5 + 1)
        else
          X5_fits_L34 x_found sc_kinds n v1 v2 v3 v4 (v5 + 1)
      else none
def X5_fits (x_found : Nat → Int32) (sc_bows : Int32) (sc_kinds : Nat → Int32) (v1 : Int32) (v2 : Int32) (v3 : Int32) : Option (Int32 × (Nat → Int32)) :=
  if (xb (X2_isBow sc_bows v1)) = 0 then
    Option.bind (X5_finding x_found 0) fun r24 =>
    some (r24.1, r24.2)
  else
    if (xb (X5_isIn v2 0 999)) = 0 then
      Option.bind (X5_finding x_found 0) fun r24_1 =>
      some (r24_1.1, r24_1.2)
    else
      X5_fits_L34 x_found sc_kinds FU v1 v2 v3 0 0
def X6_isAsked (m_s : Nat → Int32) (v1 : Int32) (v2 : Int32) : Option (Bool) :=
  Option.bind (X6_isBow m_s v1) fun r2 =>
  if (xb r2) = 0 then
    some false
  else
    if (xb (X6_in1 v2 0 999)) = 0 then
      some false
    else
      some true
def X6_fits_L21 (m_s : Nat → Int32) (m_found : Nat → Int32) : Nat → Int32 → Int32 → Int32 → Int32 → Int32 → Option (Int32 × (Nat → Int32))
  | 0, _, _, _, _, _ => none
  | n + 1, v1, v2, v3, v4, v5 =>
    if 100 ≤ v5 then
      some (v4, m_found)
    else
      Option.bind (X6_get m_s v1 0) fun r33 =>
      if (X6_noiseOf r33 v5 v2) = v3 then
        X6_fits_L21 m_s m_found n v1 v2 v3 (v4 + 1) (v5 + 1)
      else
        X6_fits_L21 m_s m_found n v1 v2 v3 (v4 + 0) (v5 + 1)
def X6_fits (m_s : Nat → Int32) (m_found : Nat → Int32) (v1 : Int32) (v2 : Int32) (v3 : Int32) : Option (Int32 × (Nat → Int32)) :=
  Option.bind (X6_isAsked m_s v1 v2) fun r3 =>
  if (xb r3) = 0 then
    Option.bind (X6_no m_found 0) fun r11 =>
    some (r11.1, r11.2)
  else
    X6_fits_L21 m_s m_found FU v1 v2 v3 0 0
def X5_love_L31 (x_found : Nat → Int32) (sc_kinds : Nat → Int32) : Nat → Int32 → Int32 → Int32 → Int32 → Option (Int32 × (Nat → Int32))
  | 0, _, _, _, _ => none
  | n + 1, v1, v2, v3, v4 =>
    if 99 < v4 then
      Option.bind (X5_finding x_found 3) fun r68 =>
      some (r68.1, r68.2)
    else
      if inr v1 9 then
        if (X0_noiseOf (sc_kinds v1.toNatClampNeg) v4 v2) = v3 then
          some (v4, x_found)
        else
          X5_love_L31 x_found sc_kinds n v1 v2 v3 (v4 + 1)
      else none
def X5_love (x_found : Nat → Int32) (sc_bows : Int32) (sc_kinds : Nat → Int32) (v1 : Int32) (v2 : Int32) (v3 : Int32) : Option (Int32 × (Nat → Int32)) :=
  if (xb (X2_isBow sc_bows v1)) = 0 then
    Option.bind (X5_finding x_found 0) fun r24 =>
    some (r24.1, r24.2)
  else
    if (xb (X5_isIn v2 0 999)) = 0 then
      Option.bind (X5_finding x_found 0) fun r24_1 =>
      some (r24_1.1, r24_1.2)
    else
      X5_love_L31 x_found sc_kinds FU v1 v2 v3 0
def X6_love_L22 (m_s : Nat → Int32) (m_found : Nat → Int32) : Nat → Int32 → Int32 → Int32 → Int32 → Int32 → Option (Int32 × (Nat → Int32))
  | 0, _, _, _, _, _ => none
  | n + 1, v1, v2, v3, v4, v5 =>
    if v5 < 0 then
      if 0 ≤ v4 then
        some (v4, m_found)
      else
        Option.bind (X6_no m_found 3) fun r65 =>
        some (r65.1, r65.2)
    else
      Option.bind (X6_get m_s v1 0) fun r30 =>
      if (X6_noiseOf r30 v5 v2) = v3 then
        X6_love_L22 m_s m_found n v1 v2 v3 v5 (v5 + (-1))
      else
        X6_love_L22 m_s m_found n v1 v2 v3 v4 (v5 + (-1))
def X6_love (m_s : Nat → Int32) (m_found : Nat → Int32) (v1 : Int32) (v2 : Int32) (v3 : Int32) : Option (Int32 × (Nat → Int32)) :=
  Option.bind (X6_isAsked m_s v1 v2) fun r3 =>
  if (xb r3) = 0 then
    Option.bind (X6_no m_found 0) fun r11 =>
    some (r11.1, r11.2)
  else
    X6_love_L22 m_s m_found FU v1 v2 v3 (-1) 99
def X5_gainAt (sc_rules : Nat → Int32) (v1 : Int32) : Option (Int32) :=
  some ((sc_rules 2) - (v1 * (sc_rules 0)))
def X5_worth_L9 (sc_rules : Nat → Int32) : Nat → Int32 → Int64 → Int64 → Int32 → Option (Int64)
  | 0, _, _, _, _ => none
  | n + 1, v1, v2, v4, v6 =>
    if v6 < v1 then
      some v2
    else
      Option.bind (X5_gainAt sc_rules v6) fun r37 =>
      X5_worth_L9 sc_rules n v1 (xmaxl 0 (((Int32.toInt64 (10 - (xmin ((sc_rules 1) * v6) 10))) * (((Int32.toInt64 r37) * v4) + v2)) - ((Int32.toInt64 (xmin ((sc_rules 1) * v6) 10)) * ((Int32.toInt64 (sc_rules 3)) * v4)))) (v4 * 10) (v6 + (-1))
def X5_worth (sc_rules : Nat → Int32) (v1 : Int32) : Option (Int64) :=
  X5_worth_L9 sc_rules FU v1 0 1 7
def X5_partsFrom_L4 : Nat → Int64 → Int32 → Option (Int64)
  | 0, _, _ => none
  | n + 1, v1, v3 =>
    if 8 ≤ v3 then
      some v1
    else
      X5_partsFrom_L4 n (v1 * 10) (v3 + 1)
def X5_partsFrom (v0 : Int32) : Option (Int64) :=
  X5_partsFrom_L4 FU 1 v0
def X5_curtain_L83 (k41 : Int32 → Int64 → Int64 → Int32 → Option (Int64 × (Nat → Int32))) (v2 : Int32) (v3 : Int64) (v5 : Int64) (v7 : Int32) : Option (Int64 × (Nat → Int32)) :=
  if (lg_cmp (xlrem v3 5) 0) = 0 then
    if (lg_cmp (xlrem v5 5) 0) = 0 then
      k41 v2 (v3 / 5) (v5 / 5) (v7 + 1)
    else
      k41 v2 v3 v5 (v7 + 1)
  else
    k41 v2 v3 v5 (v7 + 1)
def X5_curtain_L41 (x_found : Nat → Int32) : Nat → Int32 → Int64 → Int64 → Int32 → Option (Int64 × (Nat → Int32))
  | 0, _, _, _, _ => none
  | n + 1, v2, v3, v5, v7 =>
    if 8 ≤ v7 then
      if v2 = 0 then
        some (v3, x_found)
      else
        some (v5, x_found)
    else
      if (lg_cmp (xlrem v3 2) 0) = 0 then
        if (lg_cmp (xlrem v5 2) 0) = 0 then
          X5_curtain_L83 (fun v20 v30 v50 v70 => X5_curtain_L41 x_found n v20 v30 v50 v70) v2 (v3 / 2) (v5 / 2) v7
        else
          X5_curtain_L83 (fun v20 v30 v50 v70 => X5_curtain_L41 x_found n v20 v30 v50 v70) v2 v3 v5 v7
      else
        X5_curtain_L83 (fun v20 v30 v50 v70 => X5_curtain_L41 x_found n v20 v30 v50 v70) v2 v3 v5 v7
def X5_curtain (x_found : Nat → Int32) (sc_rules : Nat → Int32) (v1 : Int32) (v2 : Int32) : Option (Int64 × (Nat → Int32)) :=
  if (xb (X5_isIn v1 0 8)) = 0 then
    Option.bind (X5_finding x_found 0) fun r21 =>
    some ((Int32.toInt64 r21.1), r21.2)
  else
    if (xb (X5_isIn v2 0 1)) = 0 then
      Option.bind (X5_finding x_found 0) fun r21_1 =>
      some ((Int32.toInt64 r21_1.1), r21_1.2)
    else
      Option.bind (X5_worth sc_rules v1) fun r28 =>
      Option.bind (X5_partsFrom v1) fun r33 =>
      X5_curtain_L41 x_found FU v2 r28 r33 0
def X6_silentAt (m_s : Nat → Int32) (v1 : Int32) : Option (Int32) :=
  if ((m_s 6) * v1) ≤ 10 then
    some ((m_s 6) * v1)
  else
    some 10
def X6_tens_L4 : Nat → Int32 → Int64 → Int32 → Option (Int64)
  | 0, _, _, _ => none
  | n + 1, v0, v1, v3 =>
    if v0 ≤ v3 then
      some v1
    else
      X6_tens_L4 n v0 (v1 * 10) (v3 + 1)
def X6_tens (v0 : Int32) : Option (Int64) :=
  X6_tens_L4 FU v0 1 0
def X6_worthFrom_L6 (m_s : Nat → Int32) : Nat → Int32 → Int64 → Int32 → Option (Int64)
  | 0, _, _, _ => none
  | n + 1, v1, v2, v4 =>
    if v4 < v1 then
      some v2
    else
      Option.bind (X6_silentAt m_s v4) fun r18 =>
      Option.bind (X6_silentAt m_s v4) fun r45 =>
      Option.bind (X6_tens (7 - v4)) fun r68 =>
      Option.bind (X6_silentAt m_s v4) fun r78 =>
      if 0 ≤ (lg_cmp (((((10 - (Int32.toInt64 r18)) * (Int32.toInt64 ((m_s 7) - (v4 * (m_s 5))))) - ((Int32.toInt64 r45) * (Int32.toInt64 (m_s 8)))) * r68) + ((10 - (Int32.toInt64 r78)) * v2)) 0) then
        X6_worthFrom_L6 m_s n v1 (((((10 - (Int32.toInt64 r18)) * (Int32.toInt64 ((m_s 7) - (v4 * (m_s 5))))) - ((Int32.toInt64 r45) * (Int32.toInt64 (m_s 8)))) * r68) + ((10 - (Int32.toInt64 r78)) * v2)) (v4 + (-1))
      else
        X6_worthFrom_L6 m_s n v1 0 (v4 + (-1))
def X6_worthFrom (m_s : Nat → Int32) (v1 : Int32) : Option (Int64) :=
  X6_worthFrom_L6 m_s FU v1 0 7
def X6_curtain_L48 (m_found : Nat → Int32) : Nat → Int32 → Int64 → Int64 → Int64 → Int64 → Option (Int64 × (Nat → Int32))
  | 0, _, _, _, _, _ => none
  | n + 1, v2, v3, v5, v7, v9 =>
    if (lg_cmp v9 0) = 0 then
      if v2 = 0 then
        if v7 = 0 then none
        else
          some ((v3 / v7), m_found)
      else
        if v7 = 0 then none
        else
          some ((v5 / v7), m_found)
    else
      if v9 = 0 then none
      else
        X6_curtain_L48 m_found n v2 v3 v5 v9 (xlrem v7 v9)
def X6_curtain (m_s : Nat → Int32) (m_found : Nat → Int32) (v1 : Int32) (v2 : Int32) : Option (Int64 × (Nat → Int32)) :=
  if (xb (X6_in1 v1 0 8)) = 0 then
    Option.bind (X6_no m_found 0) fun r21 =>
    some ((Int32.toInt64 r21.1), r21.2)
  else
    if (xb (X6_in1 v2 0 1)) = 0 then
      Option.bind (X6_no m_found 0) fun r21_1 =>
      some ((Int32.toInt64 r21_1.1), r21_1.2)
    else
      Option.bind (X6_worthFrom m_s v1) fun r28 =>
      Option.bind (X6_tens (8 - v1)) fun r36 =>
      X6_curtain_L48 m_found FU v2 r28 r36 r28 r36
def X5_stop_L2 (sc_rules : Nat → Int32) : Nat → Int32 → Option (Int32)
  | 0, _ => none
  | n + 1, v1 =>
    if 8 ≤ v1 then
      some 8
    else
      Option.bind (X5_worth sc_rules v1) fun r10 =>
      if (lg_cmp r10 0) = 0 then
        some v1
      else
        X5_stop_L2 sc_rules n (v1 + 1)
def X5_stop (sc_rules : Nat → Int32) : Option (Int32) :=
  X5_stop_L2 sc_rules FU 0
def X6_stop_L3 (m_s : Nat → Int32) : Nat → Int32 → Option (Int32)
  | 0, _ => none
  | n + 1, v1 =>
    if v1 ≤ 0 then
      some v1
    else
      Option.bind (X6_worthFrom m_s (v1 - 1)) fun r11 =>
      if (lg_cmp r11 0) = 0 then
        X6_stop_L3 m_s n (v1 + (-1))
      else
        some v1
def X6_stop (m_s : Nat → Int32) : Option (Int32) :=
  X6_stop_L3 m_s FU 8
def X2_draw (sc_z : Int32) : Option (Int32 × Int32) :=
  some ((xush ((sc_z * 1103515245) + 12345) 8), ((sc_z * 1103515245) + 12345))
def X5_evening_L20 (x_found : Nat → Int32) (sc_rules : Nat → Int32) : Nat → Int32 → Int32 → Int32 → Int32 → Option (Int32 × (Nat → Int32) × Int32)
  | 0, _, _, _, _ => none
  | n + 1, v1, v2, v3, sc_z_ =>
    if v1 ≤ v3 then
      some (v2, x_found, sc_z_)
    else
      Option.bind (X2_draw sc_z_) fun r29 =>
      if ((sc_rules 1) * v3) ≤ (xirem r29.1 10) then
        Option.bind (X5_gainAt sc_rules v3) fun r64 =>
        X5_evening_L20 x_found sc_rules n v1 (v2 + r64) (v3 + 1) r29.2
      else
        some ((v2 - (sc_rules 3)), x_found, r29.2)
def X5_evening (x_found : Nat → Int32) (sc_z : Int32) (sc_rules : Nat → Int32) (v1 : Int32) : Option (Int32 × (Nat → Int32) × Int32) :=
  if (xb (X5_isIn v1 1 8)) = 0 then
    Option.bind (X5_finding x_found 0) fun r12 =>
    some (r12.1, r12.2, sc_z)
  else
    X5_evening_L20 x_found sc_rules FU v1 0 0 sc_z
def X6_draw (m_s : Nat → Int32) : Option (Int32 × (Nat → Int32)) :=
  some ((xush ((upd m_s 4 (((m_s 4) * 1103515245) + 12345)) 4) 8), (upd m_s 4 (((m_s 4) * 1103515245) + 12345)))
def X6_evening_L58 (k23 : Int32 → Int32 → Int32 → Int32 → (Nat → Int32) → Option (Int32 × (Nat → Int32) × (Nat → Int32))) (v1 : Int32) (v2 : Int32) (v4 : Int32) (t0 : Int32) (m_s_ : (Nat → Int32)) : Option (Int32 × (Nat → Int32) × (Nat → Int32)) :=
  if t0 = 0 then
    k23 v1 (v2 + (-(m_s_ 8))) t0 (v4 + 1) m_s_
  else
    k23 v1 (v2 + ((m_s_ 7) - (v4 * (m_s_ 5)))) t0 (v4 + 1) m_s_
def X6_evening_L23 (m_found : Nat → Int32) : Nat → Int32 → Int32 → Int32 → Int32 → (Nat → Int32) → Option (Int32 × (Nat → Int32) × (Nat → Int32))
  | 0, _, _, _, _, _ => none
  | n + 1, v1, v2, v3, v4, m_s_ =>
    if v1 ≤ v4 then
      some (v2, m_s_, m_found)
    else
      if v3 = 0 then
        some (v2, m_s_, m_found)
      else
        Option.bind (X6_draw m_s_) fun r34 =>
        if (xirem r34.1 10) < ((r34.2 6) * v4) then
          X6_evening_L58 (fun v10 v20 v30 v40 m_s_0 => X6_evening_L23 m_found n v10 v20 v30 v40 m_s_0) v1 v2 v4 0 r34.2
        else
          X6_evening_L58 (fun v10 v20 v30 v40 m_s_0 => X6_evening_L23 m_found n v10 v20 v30 v40 m_s_0) v1 v2 v4 1 r34.2
def X6_evening (m_s : Nat → Int32) (m_found : Nat → Int32) (v1 : Int32) : Option (Int32 × (Nat → Int32) × (Nat → Int32)) :=
  if (xb (X6_in1 v1 1 8)) = 0 then
    Option.bind (X6_no m_found 0) fun r12 =>
    some (r12.1, m_s, r12.2)
  else
    X6_evening_L23 m_found FU v1 0 1 0 m_s
def X5_memberOf_L7 : Nat → Int32 → Int32 → Int32 → Int32 → Int32 → Option (Int32)
  | 0, _, _, _, _, _ => none
  | n + 1, v0, v1, v2, v3, v4 =>
    if 9 ≤ v4 then
      some v2
    else
      if (v0 &&& (xshl 1 v4)) = 0 then
        X5_memberOf_L7 n v0 v1 v2 v3 (v4 + 1)
      else
        if v1 < v3 then
          X5_memberOf_L7 n v0 v1 v2 v3 (v4 + 1)
        else
          X5_memberOf_L7 n v0 v1 v4 (v3 + 1) (v4 + 1)
def X5_memberOf (v0 : Int32) (v1 : Int32) : Option (Int32) :=
  X5_memberOf_L7 FU v0 v1 0 0 0
def X5_lot_L4 (sc_bows : Int32) (sc_kinds : Nat → Int32) (sc_loves : Nat → Int32) (sc_seconds : Nat → Int32) (sc_aheads : Nat → Int32) : Nat → Int32 → Int32 → Int32 → Int32 → Int32 → Int32 → Int32 → (Nat → Int32) → (Nat → Int32) → (Nat → Int32) → Option (Int32 × Int32 × Int32 × Int32 × Int32 × Int32 × (Nat → Int32) × (Nat → Int32) × (Nat → Int32))
  | 0, _, _, _, _, _, _, _, _, _, _ => none
  | n + 1, v1, v2, sc_there_, sc_came_, sc_heard_, sc_clock_, sc_z_, sc_stage_, sc_noises_, sc_times_ =>
    if 9 ≤ v2 then
      some (v1, sc_there_, sc_came_, sc_heard_, sc_clock_, sc_z_, sc_stage_, sc_noises_, sc_times_)
    else
      Option.bind (X2_comers sc_bows sc_came_ sc_aheads) fun r14 =>
      if (J6_bitCount_0f7a4 r14) ≤ 0 then
        X5_lot_L4 sc_bows sc_kinds sc_loves sc_seconds sc_aheads n v1 (v2 + 1) sc_there_ sc_came_ sc_heard_ sc_clock_ sc_z_ sc_stage_ sc_noises_ sc_times_
      else
        Option.bind (X2_draw sc_z_) fun r38 =>
        if (J6_bitCount_0f7a4 r14) = 0 then none
        else
          Option.bind (X5_memberOf r14 (xirem r38.1 (J6_bitCount_0f7a4 r14))) fun r44 =>
          Option.bind (X2_enter sc_there_ sc_came_ sc_heard_ sc_clock_ sc_kinds sc_loves sc_seconds sc_stage_ sc_noises_ sc_times_ r44) fun r47 =>
          X5_lot_L4 sc_bows sc_kinds sc_loves sc_seconds sc_aheads n (v1 + 1) (v2 + 1) r47.2.1 r47.2.2.1 r47.2.2.2.1 r47.2.2.2.2.1 r38.2 r47.2.2.2.2.2.1 r47.2.2.2.2.2.2.1 r47.2.2.2.2.2.2.2
def X5_lot (sc_bows : Int32) (sc_there : Int32) (sc_came : Int32) (sc_heard : Int32) (sc_clock : Int32) (sc_z : Int32) (sc_kinds : Nat → Int32) (sc_loves : Nat → Int32) (sc_seconds : Nat → Int32) (sc_aheads : Nat → Int32) (sc_stage : Nat → Int32) (sc_noises : Nat → Int32) (sc_times : Nat → Int32) : Option (Int32 × Int32 × Int32 × Int32 × Int32 × Int32 × (Nat → Int32) × (Nat → Int32) × (Nat → Int32)) :=
  X5_lot_L4 sc_bows sc_kinds sc_loves sc_seconds sc_aheads FU 0 0 sc_there sc_came sc_heard sc_clock sc_z sc_stage sc_noises sc_times
def X6_lot_L41 (k11 : Int32 → Int32 → (Nat → Int32) → Option (Int32 × (Nat → Int32))) (k28 : Int32 → Int32 → Int32 → Int32 → (Nat → Int32) → Option (Int32 × (Nat → Int32))) (v1 : Int32) (v2 : Int32) (v3 : Int32) (v4 : Int32) (m_s_ : (Nat → Int32)) : Option (Int32 × (Nat → Int32)) :=
  if (xb (X6_isIn v2 v4)) = 0 then
    k28 v1 v2 (v3 - 0) (v4 + 1) m_s_
  else
    k28 v1 v2 (v3 - 1) (v4 + 1) m_s_
def X6_lot_L83 (k11 : Int32 → Int32 → (Nat → Int32) → Option (Int32 × (Nat → Int32))) (t0 : Int32) (t1 : Int32) (m_s_ : (Nat → Int32)) : Option (Int32 × (Nat → Int32)) :=
  Option.bind (X6_stageSet m_s_) fun r87 =>
  Option.bind (X6_canSet m_s_ r87) fun r90 =>
  k11 (t0 + t1) r90 m_s_
def X6_lot_L28 (k11 : Int32 → Int32 → (Nat → Int32) → Option (Int32 × (Nat → Int32))) : Nat → Int32 → Int32 → Int32 → Int32 → (Nat → Int32) → Option (Int32 × (Nat → Int32))
  | 0, _, _, _, _, _ => none
  | n + 1, v1, v2, v3, v4, m_s_ =>
    if (xb (X6_isIn v2 v4)) = 0 then
      X6_lot_L41 (fun v10 v20 m_s_0 => k11 v10 v20 m_s_0) (fun v10 v20 v30 v40 m_s_0 => X6_lot_L28 k11 n v10 v20 v30 v40 m_s_0) v1 v2 v3 v4 m_s_
    else
      if v3 ≤ 0 then
        Option.bind (X6_comes m_s_ v4) fun r67 =>
        if 0 ≤ r67.1 then
          X6_lot_L83 (fun v10 v20 m_s_0 => k11 v10 v20 m_s_0) v1 1 r67.2
        else
          X6_lot_L83 (fun v10 v20 m_s_0 => k11 v10 v20 m_s_0) v1 0 r67.2
      else
        X6_lot_L41 (fun v10 v20 m_s_0 => k11 v10 v20 m_s_0) (fun v10 v20 v30 v40 m_s_0 => X6_lot_L28 k11 n v10 v20 v30 v40 m_s_0) v1 v2 v3 v4 m_s_
def X6_lot_L11 : Nat → Int32 → Int32 → (Nat → Int32) → Option (Int32 × (Nat → Int32))
  | 0, _, _, _ => none
  | n + 1, v1, v2, m_s_ =>
    if v2 = 0 then
      some (v1, m_s_)
    else
      Option.bind (X6_draw m_s_) fun r16 =>
      Option.bind (X6_bits v2) fun r20 =>
      if r20 = 0 then none
      else
        X6_lot_L28 (fun v10 v20 m_s_0 => X6_lot_L11 n v10 v20 m_s_0) FU v1 v2 (xirem r16.1 r20) 0 r16.2
def X6_lot (m_s : Nat → Int32) : Option (Int32 × (Nat → Int32)) :=
  Option.bind (X6_stageSet m_s) fun r4 =>
  Option.bind (X6_canSet m_s r4) fun r7 =>
  X6_lot_L11 FU 0 r7 m_s
def X5_seed (sc_z : Int32) (v1 : Int32) : Option (Int32 × Int32) :=
  some (sc_z, v1)
def X6_seed (m_s : Nat → Int32) (v1 : Int32) : Option (Int32 × (Nat → Int32)) :=
  some ((m_s 4), (upd m_s 4 v1))
def X4_hasRoom (tp_size : Int32) (v1 : Int32) : Bool :=
  if 120 < (tp_size + v1) then
    false
  else
    true
def X4_append_L4 : Nat → Int32 → Int32 → Int32 → (Nat → Int32) → Option (Int32 × Int32 × (Nat → Int32))
  | 0, _, _, _, _ => none
  | n + 1, v1, v3, tp_size_, tp_bytes_ =>
    if v3 < 0 then
      some (tp_size_, tp_size_, tp_bytes_)
    else
      if inr tp_size_ 120 then
        X4_append_L4 n v1 (v3 + (-1)) (tp_size_ + 1) (upd tp_bytes_ tp_size_.toNatClampNeg ((xush v1 (8 * v3)) &&& 255))
      else none
def X4_append (tp_size : Int32) (tp_bytes : Nat → Int32) (v1 : Int32) (v2 : Int32) : Option (Int32 × Int32 × (Nat → Int32)) :=
  X4_append_L4 FU v1 (v2 - 1) tp_size tp_bytes
def X5_feed (x_found : Nat → Int32) (tp_size : Int32) (tp_bytes : Nat → Int32) (v1 : Int32) (v2 : Int32) : Option (Int32 × (Nat → Int32) × Int32 × (Nat → Int32)) :=
  if (xb (X5_isIn v2 1 4)) = 0 then
    Option.bind (X5_finding x_found 0) fun r11 =>
    some (r11.1, r11.2, tp_size, tp_bytes)
  else
    if (xb (X4_hasRoom tp_size v2)) = 0 then
      Option.bind (X5_finding x_found 1) fun r28 =>
      some (r28.1, r28.2, tp_size, tp_bytes)
    else
      Option.bind (X4_append tp_size tp_bytes v1 v2) fun r38 =>
      some (r38.1, x_found, r38.2.1, r38.2.2)
def X6_feed_L36 (m_found : Nat → Int32) : Nat → Int32 → Int32 → Int32 → (Nat → Int32) → Option (Int32 × Int32 × (Nat → Int32) × (Nat → Int32))
  | 0, _, _, _, _ => none
  | n + 1, v1, v3, m_taped_, m_tape_ =>
    if v3 < 0 then
      some (m_taped_, m_taped_, m_found, m_tape_)
    else
      if inr m_taped_ 120 then
        X6_feed_L36 m_found n v1 (v3 + (-1)) (m_taped_ + 1) (upd m_tape_ m_taped_.toNatClampNeg ((xshr v1 (8 * v3)) &&& 255))
      else none
def X6_feed (m_taped : Int32) (m_found : Nat → Int32) (m_tape : Nat → Int32) (v1 : Int32) (v2 : Int32) : Option (Int32 × Int32 × (Nat → Int32) × (Nat → Int32)) :=
  if (xb (X6_in1 v2 1 4)) = 0 then
    Option.bind (X6_no m_found 0) fun r11 =>
    some (r11.1, m_taped, r11.2, m_tape)
  else
    if (m_taped + v2) ≤ 120 then
      X6_feed_L36 m_found FU v1 (v2 - 1) m_taped m_tape
    else
      Option.bind (X6_no m_found 1) fun r28 =>
      some (r28.1, m_taped, r28.2, m_tape)
def X4_empty (tp_size : Int32) : Option (Int32 × Int32) :=
  some (tp_size, 0)
def X5_wipe (tp_size : Int32) : Option (Int32 × Int32) :=
  Option.bind (X4_empty tp_size) fun r4 =>
  some (r4.1, r4.2)
def X6_wipe (m_taped : Int32) : Option (Int32 × Int32) :=
  some (m_taped, 0)
def X2_become_dr_sc (sc_bows : Int32) (sc_there : Int32) (sc_came : Int32) (sc_heard : Int32) (sc_clock : Int32) (sc_z : Int32) (sc_kinds : Nat → Int32) (sc_loves : Nat → Int32) (sc_seconds : Nat → Int32) (sc_aheads : Nat → Int32) (sc_rules : Nat → Int32) (sc_stage : Nat → Int32) (sc_noises : Nat → Int32) (sc_times : Nat → Int32) (sc_spots : Nat → Int32) (dr_kinds : Nat → Int32) (dr_loves : Nat → Int32) (dr_seconds : Nat → Int32) (dr_aheads : Nat → Int32) (dr_rules : Nat → Int32) (dr_stage : Nat → Int32) (dr_noises : Nat → Int32) (dr_times : Nat → Int32) (dr_spots : Nat → Int32) : Option (Int32 × Int32 × Int32 × Int32 × Int32 × Int32 × (Nat → Int32) × (Nat → Int32) × (Nat → Int32) × (Nat → Int32) × (Nat → Int32) × (Nat → Int32) × (Nat → Int32) × (Nat → Int32) × (Nat → Int32)) :=
  some (sc_bows, sc_there, sc_came, sc_heard, sc_clock, sc_z, (va_cpy sc_kinds dr_kinds (Int32.toNatClampNeg 0) (Int32.toNatClampNeg 0) (Int32.toNatClampNeg 9)), (va_cpy sc_loves dr_loves (Int32.toNatClampNeg 0) (Int32.toNatClampNeg 0) (Int32.toNatClampNeg 9)), (va_cpy sc_seconds dr_seconds (Int32.toNatClampNeg 0) (Int32.toNatClampNeg 0) (Int32.toNatClampNeg 9)), (va_cpy sc_aheads dr_aheads (Int32.toNatClampNeg 0) (Int32.toNatClampNeg 0) (Int32.toNatClampNeg 9)), (va_cpy sc_rules dr_rules (Int32.toNatClampNeg 0) (Int32.toNatClampNeg 0) (Int32.toNatClampNeg 5)), (va_cpy sc_stage dr_stage (Int32.toNatClampNeg 0) (Int32.toNatClampNeg 0) (Int32.toNatClampNeg 9)), (va_cpy sc_noises dr_noises (Int32.toNatClampNeg 0) (Int32.toNatClampNeg 0) (Int32.toNatClampNeg 9)), (va_cpy sc_times dr_times (Int32.toNatClampNeg 0) (Int32.toNatClampNeg 0) (Int32.toNatClampNeg 9)), (va_cpy sc_spots dr_spots (Int32.toNatClampNeg 0) (Int32.toNatClampNeg 0) (Int32.toNatClampNeg 10)))
def X4_sortOf_L28 (v0 : Int32) : Int32 :=
  if v0 = 59 then
    3
  else
    if v0 = 32 then
      4
    else
      5
def X4_sortOf_L14 (v0 : Int32) : Int32 :=
  if v0 < 48 then
    X4_sortOf_L28 v0
  else
    if 57 < v0 then
      X4_sortOf_L28 v0
    else
      2
def X4_sortOf (v0 : Int32) : Int32 :=
  if v0 < 97 then
    X4_sortOf_L14 v0
  else
    if 122 < v0 then
      X4_sortOf_L14 v0
    else
      1
def X4_spelled (v0 : Int32) : Nat :=
  if v0 = 0 then
    0
  else
  if v0 = 1 then
    1
  else
  if v0 = 2 then
    2
  else
  if v0 = 3 then
    3
  else
  if v0 = 4 then
    4
  else
  if v0 = 5 then
    5
  else
  if v0 = 6 then
    6
  else
  if v0 = 7 then
    7
  else
  if v0 = 8 then
    8
  else
  if v0 = 9 then
    9
  else
  if v0 = 10 then
    10
  else
  if v0 = 11 then
    11
  else
  if v0 = 12 then
    12
  else
  if v0 = 13 then
    13
  else
  if v0 = 14 then
    14
  else
  15
def J0_coder_7d493 (v0 : Nat) : Int32 :=
  0
def J0_length_8abf5 (v0 : Nat) : Int32 :=
  (xshr (nI (xbl (UInt32.ofNat (v0 % 4096)))) 0)
def J0_isLatin1_aae02 (v0 : Nat) : Bool :=
  true
def J3_checkIndex_8e157 (v0 : Int32) (v1 : Int32) : Option (Int32) :=
  if v0 < 0 then
    none
  else
    if v0 < v1 then
      some v0
    else
      none
def J0_checkIndex_df160 (v0 : Int32) (v1 : Int32) : Option (Unit) :=
  Option.bind (J3_checkIndex_8e157 v0 v1) fun r5 =>
  some ()
def J1_charAt_3b067 (v0 : UInt32) (v1 : Int32) : Option (Int32) :=
  Option.bind (J0_checkIndex_df160 v1 (nI (xbl v0))) fun r3 =>
  if inr v1 (xbl v0) then
    if vp_nar .char (xi2c ((xbc v0 v1.toNatClampNeg) &&& 255)) = (xi2c ((xbc v0 v1.toNatClampNeg) &&& 255)) then some (xi2c ((xbc v0 v1.toNatClampNeg) &&& 255)) else none
  else none
def J0_charAt_5068e (v0 : Nat) (v1 : Int32) : Option (Int32) :=
  Option.bind (J1_charAt_3b067 (UInt32.ofNat (v0 % 4096)) v1) fun r12 =>
  if vp_nar .char r12 = r12 then some r12 else none
def X4_isWord_L13 (tp_bytes : Nat → Int32) : Nat → Nat → Int32 → Int32 → Int32 → Option (Bool)
  | 0, _, _, _, _ => none
  | n + 1, v1, v2, v3, v4 =>
    if v3 ≤ v4 then
      some true
    else
      Option.bind (J0_charAt_5068e v1 v4) fun r22 =>
      if inr (v2 + v4) 120 then
        if r22 = (tp_bytes (v2 + v4).toNatClampNeg) then
          X4_isWord_L13 tp_bytes n v1 v2 v3 (v4 + 1)
        else
          some false
      else none
def X4_isWord (tp_bytes : Nat → Int32) (v1 : Nat) (v2 : Int32) (v3 : Int32) : Option (Bool) :=
  if (J0_length_8abf5 v1) = v3 then
    X4_isWord_L13 tp_bytes FU v1 v2 v3 0
  else
    some false
def X4_wordAt_L2 (tp_bytes : Nat → Int32) : Nat → Int32 → Int32 → Int32 → Option (Int32)
  | 0, _, _, _ => none
  | n + 1, v1, v2, v3 =>
    if 16 ≤ v3 then
      some (-1)
    else
      Option.bind (X4_isWord tp_bytes (X4_spelled v3) v1 v2) fun r15 =>
      if (xb r15) = 0 then
        X4_wordAt_L2 tp_bytes n v1 v2 (v3 + 1)
      else
        some v3
def X4_wordAt (tp_bytes : Nat → Int32) (v1 : Int32) (v2 : Int32) : Option (Int32) :=
  X4_wordAt_L2 tp_bytes FU v1 v2 0
def X4_numberAt_L5 (tp_bytes : Nat → Int32) : Nat → Int32 → Int32 → Int32 → Int32 → Option (Int32)
  | 0, _, _, _, _ => none
  | n + 1, v1, v2, v3, v4 =>
    if (v1 + v2) ≤ v4 then
      some v3
    else
      if inr v4 120 then
        X4_numberAt_L5 tp_bytes n v1 v2 (xmin (((v3 * 10) + (tp_bytes v4.toNatClampNeg)) - 48) 1000) (v4 + 1)
      else none
def X4_numberAt (tp_bytes : Nat → Int32) (v1 : Int32) (v2 : Int32) : Option (Int32) :=
  X4_numberAt_L5 tp_bytes FU v1 v2 0 v1
def X4_valueOf (tp_bytes : Nat → Int32) (tp_sorts : Nat → Int32) (tp_starts : Nat → Int32) (tp_lengths : Nat → Int32) (v1 : Int32) : Option (Int32) :=
  if inr v1 121 then
    if (tp_sorts v1.toNatClampNeg) = 1 then
      if inr v1 121 then
        if inr v1 121 then
          Option.bind (X4_wordAt tp_bytes (tp_starts v1.toNatClampNeg) (tp_lengths v1.toNatClampNeg)) fun r23 =>
          some r23
        else none
      else none
    else
      if inr v1 121 then
        if (tp_sorts v1.toNatClampNeg) = 2 then
          if inr v1 121 then
            if inr v1 121 then
              Option.bind (X4_numberAt tp_bytes (tp_starts v1.toNatClampNeg) (tp_lengths v1.toNatClampNeg)) fun r50 =>
              some r50
            else none
          else none
        else
          some 0
      else none
  else none
def X4_cut_L79 (k9 : Int32 → Int32 → Int32 → (Nat → Int32) → (Nat → Int32) → (Nat → Int32) → Option (Int32 × (Nat → Int32) × (Nat → Int32) × (Nat → Int32) × (Nat → Int32))) (v2 : Int32) (v3 : Int32) (tp_tokens_ : Int32) (tp_sorts_ : (Nat → Int32)) (tp_starts_ : (Nat → Int32)) (tp_lengths_ : (Nat → Int32)) : Option (Int32 × (Nat → Int32) × (Nat → Int32) × (Nat → Int32) × (Nat → Int32)) :=
  if v3 = 4 then
    k9 v3 (v2 + 1) tp_tokens_ tp_sorts_ tp_starts_ tp_lengths_
  else
    if inr tp_tokens_ 121 then
      if inr tp_tokens_ 121 then
        if inr tp_tokens_ 121 then
          k9 v3 (v2 + 1) (tp_tokens_ + 1) (upd tp_sorts_ tp_tokens_.toNatClampNeg v3) (upd tp_starts_ tp_tokens_.toNatClampNeg v2) (upd tp_lengths_ tp_tokens_.toNatClampNeg 1)
        else none
      else none
    else none
def X4_cut_L47 (k9 : Int32 → Int32 → Int32 → (Nat → Int32) → (Nat → Int32) → (Nat → Int32) → Option (Int32 × (Nat → Int32) × (Nat → Int32) × (Nat → Int32) × (Nat → Int32))) (v2 : Int32) (v3 : Int32) (t0 : Int32) (tp_tokens_ : Int32) (tp_sorts_ : (Nat → Int32)) (tp_starts_ : (Nat → Int32)) (tp_lengths_ : (Nat → Int32)) : Option (Int32 × (Nat → Int32) × (Nat → Int32) × (Nat → Int32) × (Nat → Int32)) :=
  if t0 = 0 then
    X4_cut_L79 (fun v10 v20 tp_tokens_0 tp_sorts_0 tp_starts_0 tp_lengths_0 => k9 v10 v20 tp_tokens_0 tp_sorts_0 tp_starts_0 tp_lengths_0) v2 v3 tp_tokens_ tp_sorts_ tp_starts_ tp_lengths_
  else
    if tp_tokens_ ≤ 0 then
      X4_cut_L79 (fun v10 v20 tp_tokens_0 tp_sorts_0 tp_starts_0 tp_lengths_0 => k9 v10 v20 tp_tokens_0 tp_sorts_0 tp_starts_0 tp_lengths_0) v2 v3 tp_tokens_ tp_sorts_ tp_starts_ tp_lengths_
    else
      if inr (tp_tokens_ - 1) 121 then
        if inr (tp_tokens_ - 1) 121 then
          k9 v3 (v2 + 1) tp_tokens_ tp_sorts_ tp_starts_ (upd tp_lengths_ (tp_tokens_ - 1).toNatClampNeg ((tp_lengths_ (tp_tokens_ - 1).toNatClampNeg) + 1))
        else none
      else none
def X4_cut_L157 (tp_bytes : Nat → Int32) : Nat → Int32 → Int32 → (Nat → Int32) → (Nat → Int32) → (Nat → Int32) → (Nat → Int32) → Option (Int32 × (Nat → Int32) × (Nat → Int32) × (Nat → Int32) × (Nat → Int32))
  | 0, _, _, _, _, _, _ => none
  | n + 1, v2, tp_tokens_, tp_sorts_, tp_starts_, tp_lengths_, tp_values_ =>
    if tp_tokens_ < v2 then
      some (tp_tokens_, tp_sorts_, tp_starts_, tp_lengths_, tp_values_)
    else
      Option.bind (X4_valueOf tp_bytes tp_sorts_ tp_starts_ tp_lengths_ v2) fun r172 =>
      if inr v2 121 then
        X4_cut_L157 tp_bytes n (v2 + 1) tp_tokens_ tp_sorts_ tp_starts_ tp_lengths_ (upd tp_values_ v2.toNatClampNeg r172)
      else none
def X4_cut_L9 (tp_size : Int32) (tp_bytes : Nat → Int32) (tp_values : Nat → Int32) : Nat → Int32 → Int32 → Int32 → (Nat → Int32) → (Nat → Int32) → (Nat → Int32) → Option (Int32 × (Nat → Int32) × (Nat → Int32) × (Nat → Int32) × (Nat → Int32))
  | 0, _, _, _, _, _, _ => none
  | n + 1, v1, v2, tp_tokens_, tp_sorts_, tp_starts_, tp_lengths_ =>
    if tp_size ≤ v2 then
      if inr tp_tokens_ 121 then
        if inr tp_tokens_ 121 then
          X4_cut_L157 tp_bytes FU 0 tp_tokens_ (upd tp_sorts_ tp_tokens_.toNatClampNeg 0) (upd tp_starts_ tp_tokens_.toNatClampNeg tp_size) tp_lengths_ tp_values
        else none
      else none
    else
      if inr v2 120 then
        if (X4_sortOf (tp_bytes v2.toNatClampNeg)) = v1 then
          if (X4_sortOf (tp_bytes v2.toNatClampNeg)) = 1 then
            X4_cut_L47 (fun v10 v20 tp_tokens_0 tp_sorts_0 tp_starts_0 tp_lengths_0 => X4_cut_L9 tp_size tp_bytes tp_values n v10 v20 tp_tokens_0 tp_sorts_0 tp_starts_0 tp_lengths_0) v2 (X4_sortOf (tp_bytes v2.toNatClampNeg)) 1 tp_tokens_ tp_sorts_ tp_starts_ tp_lengths_
          else
            if (X4_sortOf (tp_bytes v2.toNatClampNeg)) = 2 then
              X4_cut_L47 (fun v10 v20 tp_tokens_0 tp_sorts_0 tp_starts_0 tp_lengths_0 => X4_cut_L9 tp_size tp_bytes tp_values n v10 v20 tp_tokens_0 tp_sorts_0 tp_starts_0 tp_lengths_0) v2 (X4_sortOf (tp_bytes v2.toNatClampNeg)) 1 tp_tokens_ tp_sorts_ tp_starts_ tp_lengths_
            else
              X4_cut_L47 (fun v10 v20 tp_tokens_0 tp_sorts_0 tp_starts_0 tp_lengths_0 => X4_cut_L9 tp_size tp_bytes tp_values n v10 v20 tp_tokens_0 tp_sorts_0 tp_starts_0 tp_lengths_0) v2 (X4_sortOf (tp_bytes v2.toNatClampNeg)) 0 tp_tokens_ tp_sorts_ tp_starts_ tp_lengths_
        else
          X4_cut_L47 (fun v10 v20 tp_tokens_0 tp_sorts_0 tp_starts_0 tp_lengths_0 => X4_cut_L9 tp_size tp_bytes tp_values n v10 v20 tp_tokens_0 tp_sorts_0 tp_starts_0 tp_lengths_0) v2 (X4_sortOf (tp_bytes v2.toNatClampNeg)) 0 tp_tokens_ tp_sorts_ tp_starts_ tp_lengths_
      else none
def X4_cut (tp_size : Int32) (tp_bytes : Nat → Int32) (tp_sorts : Nat → Int32) (tp_starts : Nat → Int32) (tp_lengths : Nat → Int32) (tp_values : Nat → Int32) : Option (Int32 × (Nat → Int32) × (Nat → Int32) × (Nat → Int32) × (Nat → Int32)) :=
  X4_cut_L9 tp_size tp_bytes tp_values FU 0 0 0 tp_sorts tp_starts tp_lengths
def X4_take (tp_tokens : Int32) (tp_sorts : Nat → Int32) (tp_values : Nat → Int32) (v1 : Int32) : Option (Int32 × Int32 × Int32) :=
  if inr (xmin v1 tp_tokens) 121 then
    if inr (xmin v1 tp_tokens) 121 then
      some ((xmin v1 tp_tokens), (tp_sorts (xmin v1 tp_tokens).toNatClampNeg), (tp_values (xmin v1 tp_tokens).toNatClampNeg))
    else none
  else none
def X2_addBow_dr (dr_bows : Int32) (dr_kinds : Nat → Int32) (dr_loves : Nat → Int32) (dr_seconds : Nat → Int32) (dr_aheads : Nat → Int32) (v1 : Int32) : Option (Int32 × Int32 × (Nat → Int32) × (Nat → Int32) × (Nat → Int32) × (Nat → Int32)) :=
  if inr dr_bows 9 then
    if inr dr_bows 9 then
      if inr dr_bows 9 then
        if inr dr_bows 9 then
          some (dr_bows, (dr_bows + 1), (upd dr_kinds dr_bows.toNatClampNeg v1), (upd dr_loves dr_bows.toNatClampNeg 10), (upd dr_seconds dr_bows.toNatClampNeg 5), (upd dr_aheads dr_bows.toNatClampNeg 0))
        else none
      else none
    else none
  else none
def X4_isNumber (tp_sort : Int32) (tp_value : Int32) (v1 : Int32) (v2 : Int32) : Bool :=
  if tp_sort = 2 then
    if (xb (X5_isIn tp_value v1 v2)) = 0 then
      false
    else
      true
  else
    false
def X4_readPart_tp_dr_loves (dr_loves : Nat → Int32) (tp_tokens : Int32) (tp_at : Int32) (tp_sort : Int32) (tp_value : Int32) (tp_sorts : Nat → Int32) (tp_values : Nat → Int32) (v1 : Int32) (v2 : Int32) (v3 : Int32) (v5 : Int32) : Option (Bool × (Nat → Int32) × Int32 × Int32 × Int32) :=
  if tp_sort = 1 then
    if tp_value = v1 then
      Option.bind (X4_take tp_tokens tp_sorts tp_values (tp_at + 1)) fun r25 =>
      if (xb (X4_isNumber r25.2.1 r25.2.2 v2 v3)) = 0 then
        some (false, dr_loves, r25.1, r25.2.1, r25.2.2)
      else
        if inr v5 9 then
          Option.bind (X4_take tp_tokens tp_sorts tp_values (r25.1 + 1)) fun r55 =>
          some (true, (upd dr_loves v5.toNatClampNeg r25.2.2), r55.1, r55.2.1, r55.2.2)
        else none
    else
      some (true, dr_loves, tp_at, tp_sort, tp_value)
  else
    some (true, dr_loves, tp_at, tp_sort, tp_value)
def X4_readPart_tp_dr_seconds (dr_seconds : Nat → Int32) (tp_tokens : Int32) (tp_at : Int32) (tp_sort : Int32) (tp_value : Int32) (tp_sorts : Nat → Int32) (tp_values : Nat → Int32) (v1 : Int32) (v2 : Int32) (v3 : Int32) (v5 : Int32) : Option (Bool × (Nat → Int32) × Int32 × Int32 × Int32) :=
  if tp_sort = 1 then
    if tp_value = v1 then
      Option.bind (X4_take tp_tokens tp_sorts tp_values (tp_at + 1)) fun r25 =>
      if (xb (X4_isNumber r25.2.1 r25.2.2 v2 v3)) = 0 then
        some (false, dr_seconds, r25.1, r25.2.1, r25.2.2)
      else
        if inr v5 9 then
          Option.bind (X4_take tp_tokens tp_sorts tp_values (r25.1 + 1)) fun r55 =>
          some (true, (upd dr_seconds v5.toNatClampNeg r25.2.2), r55.1, r55.2.1, r55.2.2)
        else none
    else
      some (true, dr_seconds, tp_at, tp_sort, tp_value)
  else
    some (true, dr_seconds, tp_at, tp_sort, tp_value)
def X4_readPart_tp_dr_aheads (dr_aheads : Nat → Int32) (tp_tokens : Int32) (tp_at : Int32) (tp_sort : Int32) (tp_value : Int32) (tp_sorts : Nat → Int32) (tp_values : Nat → Int32) (v1 : Int32) (v2 : Int32) (v3 : Int32) (v5 : Int32) : Option (Bool × (Nat → Int32) × Int32 × Int32 × Int32) :=
  if tp_sort = 1 then
    if tp_value = v1 then
      Option.bind (X4_take tp_tokens tp_sorts tp_values (tp_at + 1)) fun r25 =>
      if (xb (X4_isNumber r25.2.1 r25.2.2 v2 v3)) = 0 then
        some (false, dr_aheads, r25.1, r25.2.1, r25.2.2)
      else
        if inr v5 9 then
          Option.bind (X4_take tp_tokens tp_sorts tp_values (r25.1 + 1)) fun r55 =>
          some (true, (upd dr_aheads v5.toNatClampNeg r25.2.2), r55.1, r55.2.1, r55.2.2)
        else none
    else
      some (true, dr_aheads, tp_at, tp_sort, tp_value)
  else
    some (true, dr_aheads, tp_at, tp_sort, tp_value)
def X4_readBow (dr_bows : Int32) (dr_kinds : Nat → Int32) (dr_loves : Nat → Int32) (dr_seconds : Nat → Int32) (dr_aheads : Nat → Int32) (tp_tokens : Int32) (tp_at : Int32) (tp_sort : Int32) (tp_value : Int32) (tp_sorts : Nat → Int32) (tp_values : Nat → Int32) : Option (Bool × Int32 × (Nat → Int32) × (Nat → Int32) × (Nat → Int32) × (Nat → Int32) × Int32 × Int32 × Int32) :=
  if dr_bows < 9 then
    Option.bind (X2_addBow_dr dr_bows dr_kinds dr_loves dr_seconds dr_aheads tp_value) fun r16 =>
    Option.bind (X4_take tp_tokens tp_sorts tp_values (tp_at + 1)) fun r27 =>
    Option.bind (X4_readPart_tp_dr_loves r16.2.2.2.1 tp_tokens r27.1 r27.2.1 r27.2.2 tp_sorts tp_values 13 0 99 r16.1) fun r41 =>
    if (xb r41.1) = 0 then
      some (false, r16.2.1, r16.2.2.1, r41.2.1, r16.2.2.2.2.1, r16.2.2.2.2.2, r41.2.2.1, r41.2.2.2.1, r41.2.2.2.2)
    else
      Option.bind (X4_readPart_tp_dr_seconds r16.2.2.2.2.1 tp_tokens r41.2.2.1 r41.2.2.2.1 r41.2.2.2.2 tp_sorts tp_values 14 1 60 r16.1) fun r58 =>
      if (xb r58.1) = 0 then
        some (false, r16.2.1, r16.2.2.1, r41.2.1, r58.2.1, r16.2.2.2.2.2, r58.2.2.1, r58.2.2.2.1, r58.2.2.2.2)
      else
        Option.bind (X4_readPart_tp_dr_aheads r16.2.2.2.2.2 tp_tokens r58.2.2.1 r58.2.2.2.1 r58.2.2.2.2 tp_sorts tp_values 15 0 ((xshl 1 r16.1) - 1) r16.1) fun r78 =>
        if (xb r78.1) = 0 then
          some (false, r16.2.1, r16.2.2.1, r41.2.1, r58.2.1, r78.2.1, r78.2.2.1, r78.2.2.2.1, r78.2.2.2.2)
        else
          some (true, r16.2.1, r16.2.2.1, r41.2.1, r58.2.1, r78.2.1, r78.2.2.1, r78.2.2.2.1, r78.2.2.2.2)
  else
    some (false, dr_bows, dr_kinds, dr_loves, dr_seconds, dr_aheads, tp_at, tp_sort, tp_value)
def X4_readRule (dr_rules : Nat → Int32) (tp_tokens : Int32) (tp_at : Int32) (tp_value : Int32) (tp_sorts : Nat → Int32) (tp_values : Nat → Int32) : Option (Bool × (Nat → Int32) × Int32 × Int32 × Int32) :=
  Option.bind (X4_take tp_tokens tp_sorts tp_values (tp_at + 1)) fun r15 =>
  if inr (tp_value - 7) 5 then
    if (xb (X4_isNumber r15.2.1 r15.2.2 0 (xstat 0 (tp_value - 7).toNatClampNeg))) = 0 then
      some (false, dr_rules, r15.1, r15.2.1, r15.2.2)
    else
      if inr (tp_value - 7) 5 then
        Option.bind (X4_take tp_tokens tp_sorts tp_values (r15.1 + 1)) fun r50 =>
        some (true, (upd dr_rules (tp_value - 7).toNatClampNeg r15.2.2), r50.1, r50.2.1, r50.2.2)
      else none
  else none
def X4_readContract (dr_bows : Int32) (dr_aheads : Nat → Int32) (tp_tokens : Int32) (tp_at : Int32) (tp_sorts : Nat → Int32) (tp_values : Nat → Int32) : Option (Bool × (Nat → Int32) × Int32 × Int32 × Int32) :=
  Option.bind (X4_take tp_tokens tp_sorts tp_values (tp_at + 1)) fun r7 =>
  if (xb (X4_isNumber r7.2.1 r7.2.2 0 (dr_bows - 1))) = 0 then
    some (false, dr_aheads, r7.1, r7.2.1, r7.2.2)
  else
    Option.bind (X4_take tp_tokens tp_sorts tp_values (r7.1 + 1)) fun r38 =>
    if (xb (X4_isNumber r38.2.1 r38.2.2 0 (dr_bows - 1))) = 0 then
      some (false, dr_aheads, r38.1, r38.2.1, r38.2.2)
    else
      if r38.2.2 = r7.2.2 then
        some (false, dr_aheads, r38.1, r38.2.1, r38.2.2)
      else
        if inr r38.2.2 9 then
          if inr r38.2.2 9 then
            Option.bind (X4_take tp_tokens tp_sorts tp_values (r38.1 + 1)) fun r87 =>
            some (true, (upd dr_aheads r38.2.2.toNatClampNeg ((dr_aheads r38.2.2.toNatClampNeg) ||| (xshl 1 r7.2.2))), r87.1, r87.2.1, r87.2.2)
          else none
        else none
def X4_readItem (dr_bows : Int32) (dr_kinds : Nat → Int32) (dr_loves : Nat → Int32) (dr_seconds : Nat → Int32) (dr_aheads : Nat → Int32) (dr_rules : Nat → Int32) (tp_tokens : Int32) (tp_at : Int32) (tp_sort : Int32) (tp_value : Int32) (tp_sorts : Nat → Int32) (tp_values : Nat → Int32) : Option (Bool × Int32 × (Nat → Int32) × (Nat → Int32) × (Nat → Int32) × (Nat → Int32) × (Nat → Int32) × Int32 × Int32 × Int32) :=
  if tp_sort = 1 then
    if (xb (X5_isIn tp_value 0 6)) = 0 then
      if (xb (X5_isIn tp_value 7 11)) = 0 then
        if tp_value = 12 then
          Option.bind (X4_readContract dr_bows dr_aheads tp_tokens tp_at tp_sorts tp_values) fun r60 =>
          if (xb r60.1) = 0 then
            some (false, dr_bows, dr_kinds, dr_loves, dr_seconds, r60.2.1, dr_rules, r60.2.2.1, r60.2.2.2.1, r60.2.2.2.2)
          else
            some (true, dr_bows, dr_kinds, dr_loves, dr_seconds, r60.2.1, dr_rules, r60.2.2.1, r60.2.2.2.1, r60.2.2.2.2)
        else
          some (false, dr_bows, dr_kinds, dr_loves, dr_seconds, dr_aheads, dr_rules, tp_at, tp_sort, tp_value)
      else
        Option.bind (X4_readRule dr_rules tp_tokens tp_at tp_value tp_sorts tp_values) fun r45 =>
        some (r45.1, dr_bows, dr_kinds, dr_loves, dr_seconds, dr_aheads, r45.2.1, r45.2.2.1, r45.2.2.2.1, r45.2.2.2.2)
    else
      Option.bind (X4_readBow dr_bows dr_kinds dr_loves dr_seconds dr_aheads tp_tokens tp_at tp_sort tp_value tp_sorts tp_values) fun r25 =>
      some (r25.1, r25.2.1, r25.2.2.1, r25.2.2.2.1, r25.2.2.2.2.1, r25.2.2.2.2.2.1, dr_rules, r25.2.2.2.2.2.2.1, r25.2.2.2.2.2.2.2.1, r25.2.2.2.2.2.2.2.2)
  else
    some (false, dr_bows, dr_kinds, dr_loves, dr_seconds, dr_aheads, dr_rules, tp_at, tp_sort, tp_value)
def X4_readOnto_L11 : Nat → Int32 → Int32 → (Nat → Int32) → (Nat → Int32) → (Nat → Int32) → (Nat → Int32) → (Nat → Int32) → Int32 → Int32 → Int32 → Int32 → (Nat → Int32) → (Nat → Int32) → (Nat → Int32) → (Nat → Int32) → Option (Int32 × Int32 × (Nat → Int32) × (Nat → Int32) × (Nat → Int32) × (Nat → Int32) × (Nat → Int32) × Int32 × Int32 × Int32 × Int32 × (Nat → Int32) × (Nat → Int32) × (Nat → Int32) × (Nat → Int32))
  | 0, _, _, _, _, _, _, _, _, _, _, _, _, _, _, _ => none
  | n + 1, v2, dr_bows_, dr_kinds_, dr_loves_, dr_seconds_, dr_aheads_, dr_rules_, tp_tokens_, tp_at_, tp_sort_, tp_value_, tp_sorts_, tp_starts_, tp_lengths_, tp_values_ =>
    if 120 < v2 then
      if inr tp_at_ 121 then
        some (((-1) - (tp_starts_ tp_at_.toNatClampNeg)), dr_bows_, dr_kinds_, dr_loves_, dr_seconds_, dr_aheads_, dr_rules_, tp_tokens_, tp_at_, tp_sort_, tp_value_, tp_sorts_, tp_starts_, tp_lengths_, tp_values_)
      else none
    else
      Option.bind (X4_readItem dr_bows_ dr_kinds_ dr_loves_ dr_seconds_ dr_aheads_ dr_rules_ tp_tokens_ tp_at_ tp_sort_ tp_value_ tp_sorts_ tp_values_) fun r19 =>
      if (xb r19.1) = 0 then
        if inr r19.2.2.2.2.2.2.2.1 121 then
          some (((-1) - (tp_starts_ r19.2.2.2.2.2.2.2.1.toNatClampNeg)), r19.2.1, r19.2.2.1, r19.2.2.2.1, r19.2.2.2.2.1, r19.2.2.2.2.2.1, r19.2.2.2.2.2.2.1, tp_tokens_, r19.2.2.2.2.2.2.2.1, r19.2.2.2.2.2.2.2.2.1, r19.2.2.2.2.2.2.2.2.2, tp_sorts_, tp_starts_, tp_lengths_, tp_values_)
        else none
      else
        if r19.2.2.2.2.2.2.2.2.1 = 0 then
          some (v2, r19.2.1, r19.2.2.1, r19.2.2.2.1, r19.2.2.2.2.1, r19.2.2.2.2.2.1, r19.2.2.2.2.2.2.1, tp_tokens_, r19.2.2.2.2.2.2.2.1, r19.2.2.2.2.2.2.2.2.1, r19.2.2.2.2.2.2.2.2.2, tp_sorts_, tp_starts_, tp_lengths_, tp_values_)
        else
          if r19.2.2.2.2.2.2.2.2.1 = 3 then
            Option.bind (X4_take tp_tokens_ tp_sorts_ tp_values_ (r19.2.2.2.2.2.2.2.1 + 1)) fun r73 =>
            X4_readOnto_L11 n (v2 + 1) r19.2.1 r19.2.2.1 r19.2.2.2.1 r19.2.2.2.2.1 r19.2.2.2.2.2.1 r19.2.2.2.2.2.2.1 tp_tokens_ r73.1 r73.2.1 r73.2.2 tp_sorts_ tp_starts_ tp_lengths_ tp_values_
          else
            if inr r19.2.2.2.2.2.2.2.1 121 then
              some (((-1) - (tp_starts_ r19.2.2.2.2.2.2.2.1.toNatClampNeg)), r19.2.1, r19.2.2.1, r19.2.2.2.1, r19.2.2.2.2.1, r19.2.2.2.2.2.1, r19.2.2.2.2.2.2.1, tp_tokens_, r19.2.2.2.2.2.2.2.1, r19.2.2.2.2.2.2.2.2.1, r19.2.2.2.2.2.2.2.2.2, tp_sorts_, tp_starts_, tp_lengths_, tp_values_)
            else none
def X4_readOnto (dr_bows : Int32) (dr_kinds : Nat → Int32) (dr_loves : Nat → Int32) (dr_seconds : Nat → Int32) (dr_aheads : Nat → Int32) (dr_rules : Nat → Int32) (tp_size : Int32) (tp_bytes : Nat → Int32) (tp_sorts : Nat → Int32) (tp_starts : Nat → Int32) (tp_lengths : Nat → Int32) (tp_values : Nat → Int32) : Option (Int32 × Int32 × (Nat → Int32) × (Nat → Int32) × (Nat → Int32) × (Nat → Int32) × (Nat → Int32) × Int32 × Int32 × Int32 × Int32 × (Nat → Int32) × (Nat → Int32) × (Nat → Int32) × (Nat → Int32)) :=
  Option.bind (X4_cut tp_size tp_bytes tp_sorts tp_starts tp_lengths tp_values) fun r1 =>
  Option.bind (X4_take r1.1 r1.2.1 r1.2.2.2.2 0) fun r6 =>
  X4_readOnto_L11 FU 1 dr_bows dr_kinds dr_loves dr_seconds dr_aheads dr_rules r1.1 r6.1 r6.2.1 r6.2.2 r1.2.1 r1.2.2.1 r1.2.2.2.1 r1.2.2.2.2
def X2_become_sc_dr (sc_kinds : Nat → Int32) (sc_loves : Nat → Int32) (sc_seconds : Nat → Int32) (sc_aheads : Nat → Int32) (sc_rules : Nat → Int32) (sc_stage : Nat → Int32) (sc_noises : Nat → Int32) (sc_times : Nat → Int32) (sc_spots : Nat → Int32) (dr_bows : Int32) (dr_there : Int32) (dr_came : Int32) (dr_heard : Int32) (dr_clock : Int32) (dr_z : Int32) (dr_kinds : Nat → Int32) (dr_loves : Nat → Int32) (dr_seconds : Nat → Int32) (dr_aheads : Nat → Int32) (dr_rules : Nat → Int32) (dr_stage : Nat → Int32) (dr_noises : Nat → Int32) (dr_times : Nat → Int32) (dr_spots : Nat → Int32) : Option (Int32 × Int32 × Int32 × Int32 × Int32 × Int32 × (Nat → Int32) × (Nat → Int32) × (Nat → Int32) × (Nat → Int32) × (Nat → Int32) × (Nat → Int32) × (Nat → Int32) × (Nat → Int32) × (Nat → Int32)) :=
  some (dr_bows, dr_there, dr_came, dr_heard, dr_clock, dr_z, (va_cpy dr_kinds sc_kinds (Int32.toNatClampNeg 0) (Int32.toNatClampNeg 0) (Int32.toNatClampNeg 9)), (va_cpy dr_loves sc_loves (Int32.toNatClampNeg 0) (Int32.toNatClampNeg 0) (Int32.toNatClampNeg 9)), (va_cpy dr_seconds sc_seconds (Int32.toNatClampNeg 0) (Int32.toNatClampNeg 0) (Int32.toNatClampNeg 9)), (va_cpy dr_aheads sc_aheads (Int32.toNatClampNeg 0) (Int32.toNatClampNeg 0) (Int32.toNatClampNeg 9)), (va_cpy dr_rules sc_rules (Int32.toNatClampNeg 0) (Int32.toNatClampNeg 0) (Int32.toNatClampNeg 5)), (va_cpy dr_stage sc_stage (Int32.toNatClampNeg 0) (Int32.toNatClampNeg 0) (Int32.toNatClampNeg 9)), (va_cpy dr_noises sc_noises (Int32.toNatClampNeg 0) (Int32.toNatClampNeg 0) (Int32.toNatClampNeg 9)), (va_cpy dr_times sc_times (Int32.toNatClampNeg 0) (Int32.toNatClampNeg 0) (Int32.toNatClampNeg 9)), (va_cpy dr_spots sc_spots (Int32.toNatClampNeg 0) (Int32.toNatClampNeg 0) (Int32.toNatClampNeg 10)))
def X5_text (sc_bows : Int32) (sc_there : Int32) (sc_came : Int32) (sc_heard : Int32) (sc_clock : Int32) (sc_z : Int32) (sc_kinds : Nat → Int32) (sc_loves : Nat → Int32) (sc_seconds : Nat → Int32) (sc_aheads : Nat → Int32) (sc_rules : Nat → Int32) (sc_stage : Nat → Int32) (sc_noises : Nat → Int32) (sc_times : Nat → Int32) (sc_spots : Nat → Int32) (dr_kinds : Nat → Int32) (dr_loves : Nat → Int32) (dr_seconds : Nat → Int32) (dr_aheads : Nat → Int32) (dr_rules : Nat → Int32) (dr_stage : Nat → Int32) (dr_noises : Nat → Int32) (dr_times : Nat → Int32) (dr_spots : Nat → Int32) (tp_size : Int32) (tp_bytes : Nat → Int32) (tp_sorts : Nat → Int32) (tp_starts : Nat → Int32) (tp_lengths : Nat → Int32) (tp_values : Nat → Int32) : Option (Int32 × Int32 × Int32 × Int32 × Int32 × Int32 × Int32 × (Nat → Int32) × (Nat → Int32) × (Nat → Int32) × (Nat → Int32) × (Nat → Int32) × (Nat → Int32) × (Nat → Int32) × (Nat → Int32) × (Nat → Int32) × Int32 × Int32 × Int32 × Int32 × Int32 × Int32 × (Nat → Int32) × (Nat → Int32) × (Nat → Int32) × (Nat → Int32) × (Nat → Int32) × (Nat → Int32) × (Nat → Int32) × (Nat → Int32) × (Nat → Int32) × Int32 × Int32 × Int32 × Int32 × Int32 × (Nat → Int32) × (Nat → Int32) × (Nat → Int32) × (Nat → Int32)) :=
  Option.bind (X2_become_dr_sc sc_bows sc_there sc_came sc_heard sc_clock sc_z sc_kinds sc_loves sc_seconds sc_aheads sc_rules sc_stage sc_noises sc_times sc_spots dr_kinds dr_loves dr_seconds dr_aheads dr_rules dr_stage dr_noises dr_times dr_spots) fun r8 =>
  Option.bind (X4_readOnto r8.1 r8.2.2.2.2.2.2.1 r8.2.2.2.2.2.2.2.1 r8.2.2.2.2.2.2.2.2.1 r8.2.2.2.2.2.2.2.2.2.1 r8.2.2.2.2.2.2.2.2.2.2.1 tp_size tp_bytes tp_sorts tp_starts tp_lengths tp_values) fun r19 =>
  if r19.1 < 0 then
    Option.bind (X4_empty tp_size) fun r42 =>
    some (r19.1, sc_bows, sc_there, sc_came, sc_heard, sc_clock, sc_z, sc_kinds, sc_loves, sc_seconds, sc_aheads, sc_rules, sc_stage, sc_noises, sc_times, sc_spots, r19.2.1, r8.2.1, r8.2.2.1, r8.2.2.2.1, r8.2.2.2.2.1, r8.2.2.2.2.2.1, r19.2.2.1, r19.2.2.2.1, r19.2.2.2.2.1, r19.2.2.2.2.2.1, r19.2.2.2.2.2.2.1, r8.2.2.2.2.2.2.2.2.2.2.2.1, r8.2.2.2.2.2.2.2.2.2.2.2.2.1, r8.2.2.2.2.2.2.2.2.2.2.2.2.2.1, r8.2.2.2.2.2.2.2.2.2.2.2.2.2.2, r42.2, r19.2.2.2.2.2.2.2.1, r19.2.2.2.2.2.2.2.2.1, r19.2.2.2.2.2.2.2.2.2.1, r19.2.2.2.2.2.2.2.2.2.2.1, r19.2.2.2.2.2.2.2.2.2.2.2.1, r19.2.2.2.2.2.2.2.2.2.2.2.2.1, r19.2.2.2.2.2.2.2.2.2.2.2.2.2.1, r19.2.2.2.2.2.2.2.2.2.2.2.2.2.2)
  else
    Option.bind (X2_become_sc_dr sc_kinds sc_loves sc_seconds sc_aheads sc_rules sc_stage sc_noises sc_times sc_spots r19.2.1 r8.2.1 r8.2.2.1 r8.2.2.2.1 r8.2.2.2.2.1 r8.2.2.2.2.2.1 r19.2.2.1 r19.2.2.2.1 r19.2.2.2.2.1 r19.2.2.2.2.2.1 r19.2.2.2.2.2.2.1 r8.2.2.2.2.2.2.2.2.2.2.2.1 r8.2.2.2.2.2.2.2.2.2.2.2.2.1 r8.2.2.2.2.2.2.2.2.2.2.2.2.2.1 r8.2.2.2.2.2.2.2.2.2.2.2.2.2.2) fun r35 =>
    Option.bind (X4_empty tp_size) fun r42_1 =>
    some (r19.1, r35.1, r35.2.1, r35.2.2.1, r35.2.2.2.1, r35.2.2.2.2.1, r35.2.2.2.2.2.1, r35.2.2.2.2.2.2.1, r35.2.2.2.2.2.2.2.1, r35.2.2.2.2.2.2.2.2.1, r35.2.2.2.2.2.2.2.2.2.1, r35.2.2.2.2.2.2.2.2.2.2.1, r35.2.2.2.2.2.2.2.2.2.2.2.1, r35.2.2.2.2.2.2.2.2.2.2.2.2.1, r35.2.2.2.2.2.2.2.2.2.2.2.2.2.1, r35.2.2.2.2.2.2.2.2.2.2.2.2.2.2, r19.2.1, r8.2.1, r8.2.2.1, r8.2.2.2.1, r8.2.2.2.2.1, r8.2.2.2.2.2.1, r19.2.2.1, r19.2.2.2.1, r19.2.2.2.2.1, r19.2.2.2.2.2.1, r19.2.2.2.2.2.2.1, r8.2.2.2.2.2.2.2.2.2.2.2.1, r8.2.2.2.2.2.2.2.2.2.2.2.2.1, r8.2.2.2.2.2.2.2.2.2.2.2.2.2.1, r8.2.2.2.2.2.2.2.2.2.2.2.2.2.2, r42_1.2, r19.2.2.2.2.2.2.2.1, r19.2.2.2.2.2.2.2.2.1, r19.2.2.2.2.2.2.2.2.2.1, r19.2.2.2.2.2.2.2.2.2.2.1, r19.2.2.2.2.2.2.2.2.2.2.2.1, r19.2.2.2.2.2.2.2.2.2.2.2.2.1, r19.2.2.2.2.2.2.2.2.2.2.2.2.2.1, r19.2.2.2.2.2.2.2.2.2.2.2.2.2.2)
def X6_setsAside_L2 (m_s : Nat → Int32) : Nat → Int32 → (Nat → Int32) → Option ((Nat → Int32))
  | 0, _, _ => none
  | n + 1, v1, m_aside_ =>
    if 83 ≤ v1 then
      some m_aside_
    else
      if inr v1 83 then
        if inr v1 83 then
          X6_setsAside_L2 m_s n (v1 + 1) (upd m_aside_ v1.toNatClampNeg (m_s v1.toNatClampNeg))
        else none
      else none
def X6_setsAside (m_s : Nat → Int32) (m_aside : Nat → Int32) : Option ((Nat → Int32)) :=
  X6_setsAside_L2 m_s FU 0 m_aside
def X6_isLetter (v0 : Int32) : Bool :=
  (X6_in1 v0 97 122)
def X6_isDigit (v0 : Int32) : Bool :=
  (X6_in1 v0 48 57)
def X6_nextToken_L98 (m_taped : Int32) (m_tape : Nat → Int32) : Nat → Int32 → Int32 → Int32 → Int64 → Option (Int32 × Int32 × Int32 × Int64)
  | 0, _, _, _, _ => none
  | n + 1, m_token_, m_begun_, m_ended_, lg_ =>
    if m_taped ≤ m_ended_ then
      some (m_token_, m_begun_, m_ended_, lg_)
    else
      if inr m_ended_ 120 then
        if (xb (X6_isLetter (m_tape m_ended_.toNatClampNeg))) = 0 then
          some (m_token_, m_begun_, m_ended_, lg_)
        else
          if (lg_cmp lg_ 9999999999999) ≤ 0 then
            if inr m_ended_ 120 then
              X6_nextToken_L98 m_taped m_tape n m_token_ m_begun_ (m_ended_ + 1) (((lg_ * 27) + (Int32.toInt64 (m_tape m_ended_.toNatClampNeg))) - 96)
            else none
          else
            X6_nextToken_L98 m_taped m_tape n m_token_ m_begun_ (m_ended_ + 1) lg_
      else none
def X6_nextToken_L281 (m_begun_ : Int32) (m_ended_ : Int32) (lg_ : Int64) : Option (Int32 × Int32 × Int32 × Int64) :=
  if (lg_cmp lg_ 999) ≤ 0 then
    some (2, m_begun_, m_ended_, lg_)
  else
    some (4, m_begun_, m_ended_, lg_)
def X6_nextToken_L197 (m_taped : Int32) (m_tape : Nat → Int32) : Nat → Int32 → Int32 → Int64 → Option (Int32 × Int32 × Int32 × Int64)
  | 0, _, _, _ => none
  | n + 1, m_begun_, m_ended_, lg_ =>
    if m_taped ≤ m_ended_ then
      X6_nextToken_L281 m_begun_ m_ended_ lg_
    else
      if inr m_ended_ 120 then
        if (xb (X6_isDigit (m_tape m_ended_.toNatClampNeg))) = 0 then
          X6_nextToken_L281 m_begun_ m_ended_ lg_
        else
          if (lg_cmp lg_ 999) ≤ 0 then
            if inr m_ended_ 120 then
              X6_nextToken_L197 m_taped m_tape n m_begun_ (m_ended_ + 1) (((lg_ * 10) + (Int32.toInt64 (m_tape m_ended_.toNatClampNeg))) - 48)
            else none
          else
            X6_nextToken_L197 m_taped m_tape n m_begun_ (m_ended_ + 1) lg_
      else none
def X6_nextToken_L46 (m_taped : Int32) (m_tape : Nat → Int32) (m_begun_ : Int32) : Option (Int32 × Int32 × Int32 × Int64) :=
  if m_begun_ = m_taped then
    some (0, m_begun_, m_begun_, 0)
  else
    if inr m_begun_ 120 then
      if (xb (X6_isLetter (m_tape m_begun_.toNatClampNeg))) = 0 then
        if inr m_begun_ 120 then
          if (xb (X6_isDigit (m_tape m_begun_.toNatClampNeg))) = 0 then
            if inr m_begun_ 120 then
              if (m_tape m_begun_.toNatClampNeg) = 59 then
                some (3, m_begun_, (m_begun_ + 1), 0)
              else
                some (4, m_begun_, (m_begun_ + 1), 0)
            else none
          else
            X6_nextToken_L197 m_taped m_tape FU m_begun_ m_begun_ 0
        else none
      else
        X6_nextToken_L98 m_taped m_tape FU 1 m_begun_ m_begun_ 0
    else none
def X6_nextToken_L8 (m_taped : Int32) (m_tape : Nat → Int32) : Nat → Int32 → Option (Int32 × Int32 × Int32 × Int64)
  | 0, _ => none
  | n + 1, m_begun_ =>
    if m_taped ≤ m_begun_ then
      X6_nextToken_L46 m_taped m_tape m_begun_
    else
      if inr m_begun_ 120 then
        if (m_tape m_begun_.toNatClampNeg) = 32 then
          X6_nextToken_L8 m_taped m_tape n (m_begun_ + 1)
        else
          X6_nextToken_L46 m_taped m_tape m_begun_
      else none
def X6_nextToken (m_taped : Int32) (m_ended : Int32) (m_tape : Nat → Int32) : Option (Int32 × Int32 × Int32 × Int64) :=
  X6_nextToken_L8 m_taped m_tape FU m_ended
def X6_wordOf_m_m_letters_L27 (k4 : Int32 → Int32 → Option (Int32)) (m_letters : Nat → Int32) (lg : Int64) : Nat → Int32 → Int32 → Int64 → Int32 → Option (Int32)
  | 0, _, _, _, _ => none
  | n + 1, v2, v3, v4, v6 =>
    if 8 ≤ v6 then
      if (lg_cmp v4 lg) = 0 then
        k4 v3 (v3 + 1)
      else
        k4 v2 (v3 + 1)
    else
      if inr ((8 * v3) + v6) 56 then
        if (m_letters ((8 * v3) + v6).toNatClampNeg) = 32 then
          X6_wordOf_m_m_letters_L27 k4 m_letters lg n v2 v3 v4 (v6 + 1)
        else
          if inr ((8 * v3) + v6) 56 then
            X6_wordOf_m_m_letters_L27 k4 m_letters lg n v2 v3 (((v4 * 27) + (Int32.toInt64 (m_letters ((8 * v3) + v6).toNatClampNeg))) - 96) (v6 + 1)
          else none
      else none
def X6_wordOf_m_m_letters_L4 (m_token : Int32) (m_letters : Nat → Int32) (lg : Int64) : Nat → Int32 → Int32 → Option (Int32)
  | 0, _, _ => none
  | n + 1, v2, v3 =>
    if ((nI 56) / 8) ≤ v3 then
      some v2
    else
      if m_token = 1 then
        X6_wordOf_m_m_letters_L27 (fun v20 v30 => X6_wordOf_m_m_letters_L4 m_token m_letters lg n v20 v30) m_letters lg FU v2 v3 0 0
      else
        some v2
def X6_wordOf_m_m_letters (m_token : Int32) (m_letters : Nat → Int32) (lg : Int64) : Option (Int32) :=
  X6_wordOf_m_m_letters_L4 m_token m_letters lg FU (-1) 0
def X6_wordOf_m_m_more_L27 (k4 : Int32 → Int32 → Option (Int32)) (m_more : Nat → Int32) (lg : Int64) : Nat → Int32 → Int32 → Int64 → Int32 → Option (Int32)
  | 0, _, _, _, _ => none
  | n + 1, v2, v3, v4, v6 =>
    if 8 ≤ v6 then
      if (lg_cmp v4 lg) = 0 then
        k4 v3 (v3 + 1)
      else
        k4 v2 (v3 + 1)
    else
      if inr ((8 * v3) + v6) 24 then
        if (m_more ((8 * v3) + v6).toNatClampNeg) = 32 then
          X6_wordOf_m_m_more_L27 k4 m_more lg n v2 v3 v4 (v6 + 1)
        else
          if inr ((8 * v3) + v6) 24 then
            X6_wordOf_m_m_more_L27 k4 m_more lg n v2 v3 (((v4 * 27) + (Int32.toInt64 (m_more ((8 * v3) + v6).toNatClampNeg))) - 96) (v6 + 1)
          else none
      else none
def X6_wordOf_m_m_more_L4 (m_token : Int32) (m_more : Nat → Int32) (lg : Int64) : Nat → Int32 → Int32 → Option (Int32)
  | 0, _, _ => none
  | n + 1, v2, v3 =>
    if ((nI 24) / 8) ≤ v3 then
      some v2
    else
      if m_token = 1 then
        X6_wordOf_m_m_more_L27 (fun v20 v30 => X6_wordOf_m_m_more_L4 m_token m_more lg n v20 v30) m_more lg FU v2 v3 0 0
      else
        some v2
def X6_wordOf_m_m_more (m_token : Int32) (m_more : Nat → Int32) (lg : Int64) : Option (Int32) :=
  X6_wordOf_m_m_more_L4 m_token m_more lg FU (-1) 0
def X6_takesNumber_L30 (m_taped : Int32) (m_token : Int32) (m_begun : Int32) (m_ended : Int32) (m_tape : Nat → Int32) (lg : Int64) (t0 : Int32) : Option (Int32 × Int32 × Int32 × Int32 × Int64) :=
  if t0 < 0 then
    some (t0, m_token, m_begun, m_ended, lg)
  else
    Option.bind (X6_nextToken m_taped m_ended m_tape) fun r36 =>
    some (t0, r36.1, r36.2.1, r36.2.2.1, r36.2.2.2)
def X6_takesNumber (m_taped : Int32) (m_token : Int32) (m_begun : Int32) (m_ended : Int32) (m_tape : Nat → Int32) (lg : Int64) (v1 : Int32) (v2 : Int32) : Option (Int32 × Int32 × Int32 × Int32 × Int64) :=
  if m_token = 2 then
    if (xb (X6_in1 (Int64.toInt32 lg) v1 v2)) = 0 then
      X6_takesNumber_L30 m_taped m_token m_begun m_ended m_tape lg (-1)
    else
      X6_takesNumber_L30 m_taped m_token m_begun m_ended m_tape lg (Int64.toInt32 lg)
  else
    X6_takesNumber_L30 m_taped m_token m_begun m_ended m_tape lg (-1)
def X6_readsBow_L94 (k37 : Int32 → Int32 → Int32 → Int32 → Int32 → Int32 → Int64 → (Nat → Int32) → Option (Bool × Int32 × Int32 × Int32 × (Nat → Int32) × Int64)) (m_taped : Int32) (m_tape : Nat → Int32) (v2 : Int32) (v3 : Int32) (v4 : Int32) (t1 : Int32) (t2 : Int32) (m_token_ : Int32) (m_begun_ : Int32) (m_ended_ : Int32) (lg_ : Int64) (m_s_ : (Nat → Int32)) : Option (Bool × Int32 × Int32 × Int32 × (Nat → Int32) × Int64) :=
  Option.bind (X6_takesNumber m_taped m_token_ m_begun_ m_ended_ m_tape lg_ t1 t2) fun r94 =>
  if 0 ≤ r94.1 then
    Option.bind (X6_puts m_s_ v2 (1 + v4) r94.1) fun r114 =>
    k37 v2 v3 (v4 + 1) r94.2.1 r94.2.2.1 r94.2.2.2.1 r94.2.2.2.2 r114
  else
    some (false, r94.2.1, r94.2.2.1, r94.2.2.2.1, m_s_, r94.2.2.2.2)
def X6_readsBow_L72 (k37 : Int32 → Int32 → Int32 → Int32 → Int32 → Int32 → Int64 → (Nat → Int32) → Option (Bool × Int32 × Int32 × Int32 × (Nat → Int32) × Int64)) (m_taped : Int32) (m_tape : Nat → Int32) (v2 : Int32) (v3 : Int32) (v4 : Int32) (t1 : Int32) (m_token_ : Int32) (m_begun_ : Int32) (m_ended_ : Int32) (lg_ : Int64) (m_s_ : (Nat → Int32)) : Option (Bool × Int32 × Int32 × Int32 × (Nat → Int32) × Int64) :=
  if v4 = 0 then
    X6_readsBow_L94 (fun v20 v30 v40 m_token_0 m_begun_0 m_ended_0 lg_0 m_s_0 => k37 v20 v30 v40 m_token_0 m_begun_0 m_ended_0 lg_0 m_s_0) m_taped m_tape v2 v3 v4 t1 99 m_token_ m_begun_ m_ended_ lg_ m_s_
  else
    if v4 = 1 then
      X6_readsBow_L94 (fun v20 v30 v40 m_token_0 m_begun_0 m_ended_0 lg_0 m_s_0 => k37 v20 v30 v40 m_token_0 m_begun_0 m_ended_0 lg_0 m_s_0) m_taped m_tape v2 v3 v4 t1 60 m_token_ m_begun_ m_ended_ lg_ m_s_
    else
      X6_readsBow_L94 (fun v20 v30 v40 m_token_0 m_begun_0 m_ended_0 lg_0 m_s_0 => k37 v20 v30 v40 m_token_0 m_begun_0 m_ended_0 lg_0 m_s_0) m_taped m_tape v2 v3 v4 t1 v3 m_token_ m_begun_ m_ended_ lg_ m_s_
def X6_readsBow_L37 (m_taped : Int32) (m_tape : Nat → Int32) (m_more : Nat → Int32) : Nat → Int32 → Int32 → Int32 → Int32 → Int32 → Int32 → Int64 → (Nat → Int32) → Option (Bool × Int32 × Int32 × Int32 × (Nat → Int32) × Int64)
  | 0, _, _, _, _, _, _, _, _ => none
  | n + 1, v2, v3, v4, m_token_, m_begun_, m_ended_, lg_, m_s_ =>
    if 3 ≤ v4 then
      some (true, m_token_, m_begun_, m_ended_, m_s_, lg_)
    else
      Option.bind (X6_wordOf_m_m_more m_token_ m_more lg_) fun r48 =>
      if r48 = v4 then
        Option.bind (X6_nextToken m_taped m_ended_ m_tape) fun r57 =>
        if v4 = 1 then
          X6_readsBow_L72 (fun v20 v30 v40 m_token_0 m_begun_0 m_ended_0 lg_0 m_s_0 => X6_readsBow_L37 m_taped m_tape m_more n v20 v30 v40 m_token_0 m_begun_0 m_ended_0 lg_0 m_s_0) m_taped m_tape v2 v3 v4 1 r57.1 r57.2.1 r57.2.2.1 r57.2.2.2 m_s_
        else
          X6_readsBow_L72 (fun v20 v30 v40 m_token_0 m_begun_0 m_ended_0 lg_0 m_s_0 => X6_readsBow_L37 m_taped m_tape m_more n v20 v30 v40 m_token_0 m_begun_0 m_ended_0 lg_0 m_s_0) m_taped m_tape v2 v3 v4 0 r57.1 r57.2.1 r57.2.2.1 r57.2.2.2 m_s_
      else
        X6_readsBow_L37 m_taped m_tape m_more n v2 v3 (v4 + 1) m_token_ m_begun_ m_ended_ lg_ m_s_
def X6_readsBow (m_taped : Int32) (m_token : Int32) (m_begun : Int32) (m_ended : Int32) (m_s : Nat → Int32) (m_tape : Nat → Int32) (m_more : Nat → Int32) (lg : Int64) (v1 : Int32) : Option (Bool × Int32 × Int32 × Int32 × (Nat → Int32) × Int64) :=
  if (m_s 3) = 9 then
    some (false, m_token, m_begun, m_ended, m_s, lg)
  else
    Option.bind (X6_allBows m_s) fun r21 =>
    Option.bind (X6_addsBow m_s v1) fun r27 =>
    Option.bind (X6_nextToken m_taped m_ended m_tape) fun r31 =>
    X6_readsBow_L37 m_taped m_tape m_more FU (m_s 3) r21 0 r31.1 r31.2.1 r31.2.2.1 r31.2.2.2 r27
def X6_wordOf_m_m_others_L27 (k4 : Int32 → Int32 → Option (Int32)) (m_others : Nat → Int32) (lg : Int64) : Nat → Int32 → Int32 → Int64 → Int32 → Option (Int32)
  | 0, _, _, _, _ => none
  | n + 1, v2, v3, v4, v6 =>
    if 8 ≤ v6 then
      if (lg_cmp v4 lg) = 0 then
        k4 v3 (v3 + 1)
      else
        k4 v2 (v3 + 1)
    else
      if inr ((8 * v3) + v6) 48 then
        if (m_others ((8 * v3) + v6).toNatClampNeg) = 32 then
          X6_wordOf_m_m_others_L27 k4 m_others lg n v2 v3 v4 (v6 + 1)
        else
          if inr ((8 * v3) + v6) 48 then
            X6_wordOf_m_m_others_L27 k4 m_others lg n v2 v3 (((v4 * 27) + (Int32.toInt64 (m_others ((8 * v3) + v6).toNatClampNeg))) - 96) (v6 + 1)
          else none
      else none
def X6_wordOf_m_m_others_L4 (m_token : Int32) (m_others : Nat → Int32) (lg : Int64) : Nat → Int32 → Int32 → Option (Int32)
  | 0, _, _ => none
  | n + 1, v2, v3 =>
    if ((nI 48) / 8) ≤ v3 then
      some v2
    else
      if m_token = 1 then
        X6_wordOf_m_m_others_L27 (fun v20 v30 => X6_wordOf_m_m_others_L4 m_token m_others lg n v20 v30) m_others lg FU v2 v3 0 0
      else
        some v2
def X6_wordOf_m_m_others (m_token : Int32) (m_others : Nat → Int32) (lg : Int64) : Option (Int32) :=
  X6_wordOf_m_m_others_L4 m_token m_others lg FU (-1) 0
def X6_readsContract_L38 (m_taped : Int32) (m_s : Nat → Int32) (m_tape : Nat → Int32) (v1 : Int32) (m_token_ : Int32) (m_begun_ : Int32) (m_ended_ : Int32) (lg_ : Int64) : Option (Bool × Int32 × Int32 × Int32 × (Nat → Int32) × Int64) :=
  Option.bind (X6_takesNumber m_taped m_token_ m_begun_ m_ended_ m_tape lg_ 0 ((m_s 3) - 1)) fun r48 =>
  if 0 ≤ r48.1 then
    Option.bind (X6_get m_s r48.1 3) fun r64 =>
    Option.bind (X6_puts m_s r48.1 3 (r64 ||| (xshl 1 v1))) fun r71 =>
    some (true, r48.2.1, r48.2.2.1, r48.2.2.2.1, r71, r48.2.2.2.2)
  else
    some (false, r48.2.1, r48.2.2.1, r48.2.2.2.1, m_s, r48.2.2.2.2)
def X6_readsContract (m_taped : Int32) (m_token : Int32) (m_begun : Int32) (m_ended : Int32) (m_s : Nat → Int32) (m_tape : Nat → Int32) (lg : Int64) : Option (Bool × Int32 × Int32 × Int32 × (Nat → Int32) × Int64) :=
  Option.bind (X6_takesNumber m_taped m_token m_begun m_ended m_tape lg 0 ((m_s 3) - 1)) fun r10 =>
  if r10.1 < 0 then
    some (false, r10.2.1, r10.2.2.1, r10.2.2.2.1, m_s, r10.2.2.2.2)
  else
    if r10.2.1 = 2 then
      if (lg_cmp r10.2.2.2.2 (Int32.toInt64 r10.1)) = 0 then
        some (false, r10.2.1, r10.2.2.1, r10.2.2.2.1, m_s, r10.2.2.2.2)
      else
        X6_readsContract_L38 m_taped m_s m_tape r10.1 r10.2.1 r10.2.2.1 r10.2.2.2.1 r10.2.2.2.2
    else
      X6_readsContract_L38 m_taped m_s m_tape r10.1 r10.2.1 r10.2.2.1 r10.2.2.2.1 r10.2.2.2.2
def X6_readsItem_L81 (m_s : Nat → Int32) (v3 : Int32) (t1 : Int32) (t2 : Int32) (m_token_ : Int32) (m_begun_ : Int32) (m_ended_ : Int32) (lg_ : Int64) : Option (Bool × Int32 × Int32 × Int32 × (Nat → Int32) × Int64) :=
  if inr t1 83 then
    if v3 < 0 then
      some (false, m_token_, m_begun_, m_ended_, (upd m_s t1.toNatClampNeg t2), lg_)
    else
      some (true, m_token_, m_begun_, m_ended_, (upd m_s t1.toNatClampNeg t2), lg_)
  else none
def X6_readsItem (m_taped : Int32) (m_token : Int32) (m_begun : Int32) (m_ended : Int32) (m_s : Nat → Int32) (m_tape : Nat → Int32) (m_letters : Nat → Int32) (m_more : Nat → Int32) (m_others : Nat → Int32) (lg : Int64) : Option (Bool × Int32 × Int32 × Int32 × (Nat → Int32) × Int64) :=
  Option.bind (X6_wordOf_m_m_letters m_token m_letters lg) fun r5 =>
  if r5 < 0 then
    Option.bind (X6_wordOf_m_m_others m_token m_others lg) fun r24 =>
    if 0 ≤ r24 then
      Option.bind (X6_nextToken m_taped m_ended m_tape) fun r35 =>
      if r24 = 5 then
        Option.bind (X6_readsContract m_taped r35.1 r35.2.1 r35.2.2.1 m_s m_tape r35.2.2.2) fun r44 =>
        some (r44.1, r44.2.1, r44.2.2.1, r44.2.2.2.1, r44.2.2.2.2.1, r44.2.2.2.2.2)
      else
        Option.bind (X6_takesNumber m_taped r35.1 r35.2.1 r35.2.2.1 m_tape r35.2.2.2 0 (X6_greatestRule r24)) fun r54 =>
        if 0 ≤ r54.1 then
          X6_readsItem_L81 m_s r54.1 (5 + r24) r54.1 r54.2.1 r54.2.2.1 r54.2.2.2.1 r54.2.2.2.2
        else
          if inr (5 + r24) 83 then
            X6_readsItem_L81 m_s r54.1 (5 + r24) (m_s (5 + r24).toNatClampNeg) r54.2.1 r54.2.2.1 r54.2.2.2.1 r54.2.2.2.2
          else none
    else
      some (false, m_token, m_begun, m_ended, m_s, lg)
  else
    Option.bind (X6_readsBow m_taped m_token m_begun m_ended m_s m_tape m_more lg r5) fun r15 =>
    some (r15.1, r15.2.1, r15.2.2.1, r15.2.2.2.1, r15.2.2.2.2.1, r15.2.2.2.2.2)
def X6_laysBack_L2 (m_aside : Nat → Int32) : Nat → Int32 → (Nat → Int32) → Option ((Nat → Int32))
  | 0, _, _ => none
  | n + 1, v1, m_s_ =>
    if 83 ≤ v1 then
      some m_s_
    else
      if inr v1 83 then
        if inr v1 83 then
          X6_laysBack_L2 m_aside n (v1 + 1) (upd m_s_ v1.toNatClampNeg (m_aside v1.toNatClampNeg))
        else none
      else none
def X6_laysBack (m_s : Nat → Int32) (m_aside : Nat → Int32) : Option ((Nat → Int32)) :=
  X6_laysBack_L2 m_aside FU 0 m_s
def X6_text_L63 (v1 : Int32) (t0 : Int32) (m_token_ : Int32) (m_begun_ : Int32) (m_ended_ : Int32) (lg_ : Int64) (m_s_ : (Nat → Int32)) (m_aside_ : (Nat → Int32)) : Option (Int32 × Int32 × Int32 × Int32 × Int32 × (Nat → Int32) × (Nat → Int32) × Int64) :=
  if t0 = 0 then
    Option.bind (X6_laysBack m_s_ m_aside_) fun r74 =>
    some (((-1) - m_begun_), 0, m_token_, m_begun_, m_ended_, r74, m_aside_, lg_)
  else
    some (v1, 0, m_token_, m_begun_, m_ended_, m_s_, m_aside_, lg_)
def X6_text_L47 (v1 : Int32) (v2 : Int32) (m_token_ : Int32) (m_begun_ : Int32) (m_ended_ : Int32) (lg_ : Int64) (m_s_ : (Nat → Int32)) (m_aside_ : (Nat → Int32)) : Option (Int32 × Int32 × Int32 × Int32 × Int32 × (Nat → Int32) × (Nat → Int32) × Int64) :=
  if v2 = 0 then
    X6_text_L63 v1 0 m_token_ m_begun_ m_ended_ lg_ m_s_ m_aside_
  else
    if m_token_ = 0 then
      X6_text_L63 v1 1 m_token_ m_begun_ m_ended_ lg_ m_s_ m_aside_
    else
      X6_text_L63 v1 0 m_token_ m_begun_ m_ended_ lg_ m_s_ m_aside_
def X6_text_L20 (m_taped : Int32) (m_tape : Nat → Int32) (m_letters : Nat → Int32) (m_more : Nat → Int32) (m_others : Nat → Int32) : Nat → Int32 → Int32 → Int32 → Int32 → Int32 → Int64 → (Nat → Int32) → (Nat → Int32) → Option (Int32 × Int32 × Int32 × Int32 × Int32 × (Nat → Int32) × (Nat → Int32) × Int64)
  | 0, _, _, _, _, _, _, _, _ => none
  | n + 1, v1, v2, m_token_, m_begun_, m_ended_, lg_, m_s_, m_aside_ =>
    if v2 = 0 then
      X6_text_L47 v1 v2 m_token_ m_begun_ m_ended_ lg_ m_s_ m_aside_
    else
      if m_token_ = 3 then
        Option.bind (X6_nextToken m_taped m_ended_ m_tape) fun r33 =>
        Option.bind (X6_readsItem m_taped r33.1 r33.2.1 r33.2.2.1 m_s_ m_tape m_letters m_more m_others r33.2.2.2) fun r37 =>
        X6_text_L20 m_taped m_tape m_letters m_more m_others n (v1 + 1) (xb r37.1) r37.2.1 r37.2.2.1 r37.2.2.2.1 r37.2.2.2.2.2 r37.2.2.2.2.1 m_aside_
      else
        X6_text_L47 v1 v2 m_token_ m_begun_ m_ended_ lg_ m_s_ m_aside_
def X6_text (m_taped : Int32) (m_s : Nat → Int32) (m_aside : Nat → Int32) (m_tape : Nat → Int32) (m_letters : Nat → Int32) (m_more : Nat → Int32) (m_others : Nat → Int32) : Option (Int32 × Int32 × Int32 × Int32 × Int32 × (Nat → Int32) × (Nat → Int32) × Int64) :=
  Option.bind (X6_setsAside m_s m_aside) fun r1 =>
  Option.bind (X6_nextToken m_taped 0 m_tape) fun r10 =>
  Option.bind (X6_readsItem m_taped r10.1 r10.2.1 r10.2.2.1 m_s m_tape m_letters m_more m_others r10.2.2.2) fun r16 =>
  X6_text_L20 m_taped m_tape m_letters m_more m_others FU 1 (xb r16.1) r16.2.1 r16.2.2.1 r16.2.2.2.1 r16.2.2.2.2.2 r16.2.2.2.2.1 r1
def X5_hold (x_found : Nat → Int32) (sc_bows : Int32) (sc_spots : Nat → Int32) (v1 : Int32) (v2 : Int32) : Option (Int32 × (Nat → Int32) × (Nat → Int32)) :=
  if (xb (X5_isIn v1 0 9)) = 0 then
    Option.bind (X5_finding x_found 0) fun r28 =>
    some (r28.1, r28.2, sc_spots)
  else
    if v2 = (-1) then
      if inr v1 10 then
        some (1, x_found, (upd sc_spots v1.toNatClampNeg v2))
      else none
    else
      if (xb (X2_isBow sc_bows v2)) = 0 then
        Option.bind (X5_finding x_found 0) fun r28_1 =>
        some (r28_1.1, r28_1.2, sc_spots)
      else
        if inr v1 10 then
          some (1, x_found, (upd sc_spots v1.toNatClampNeg v2))
        else none
def X6_isSpot (v0 : Int32) : Bool :=
  (X6_in1 v0 0 9)
def X6_hold (m_s : Nat → Int32) (m_found : Nat → Int32) (v1 : Int32) (v2 : Int32) : Option (Int32 × (Nat → Int32) × (Nat → Int32)) :=
  if (xb (X6_isSpot v1)) = 0 then
    Option.bind (X6_no m_found 0) fun r22 =>
    some (r22.1, m_s, r22.2)
  else
    if v2 = (-1) then
      if inr (73 + v1) 83 then
        some (1, (upd m_s (73 + v1).toNatClampNeg v2), m_found)
      else none
    else
      Option.bind (X6_isBow m_s v2) fun r14 =>
      if (xb r14) = 0 then
        Option.bind (X6_no m_found 0) fun r22_1 =>
        some (r22_1.1, m_s, r22_1.2)
      else
        if inr (73 + v1) 83 then
          some (1, (upd m_s (73 + v1).toNatClampNeg v2), m_found)
        else none
def X0_isUnder_L4 : Nat → Int32 → Int32 → Int32 → Option (Bool)
  | 0, _, _, _ => none
  | n + 1, v1, v2, v3 =>
    if 7 ≤ v3 then
      some false
    else
      if v2 = v1 then
        some true
      else
        if inr v2 7 then
          X0_isUnder_L4 n v1 (xstat 1 v2.toNatClampNeg) (v3 + 1)
        else none
def X0_isUnder (v0 : Int32) (v1 : Int32) : Option (Bool) :=
  X0_isUnder_L4 FU v1 v0 0
def X5_as (x_found : Nat → Int32) (sc_bows : Int32) (sc_kinds : Nat → Int32) (sc_spots : Nat → Int32) (v1 : Int32) (v2 : Int32) : Option (Int32 × (Nat → Int32)) :=
  if (xb (X5_isIn v1 0 9)) = 0 then
    Option.bind (X5_finding x_found 0) fun r22 =>
    some (r22.1, r22.2)
  else
    if (xb (X5_isIn v2 0 6)) = 0 then
      Option.bind (X5_finding x_found 0) fun r22_1 =>
      some (r22_1.1, r22_1.2)
    else
      if inr v1 10 then
        if (xb (X2_isBow sc_bows (sc_spots v1.toNatClampNeg))) = 0 then
          Option.bind (X5_finding x_found 5) fun r49 =>
          some (r49.1, r49.2)
        else
          if inr (sc_spots v1.toNatClampNeg) 9 then
            Option.bind (X0_isUnder (sc_kinds (sc_spots v1.toNatClampNeg).toNatClampNeg) v2) fun r63 =>
            if (xb r63) = 0 then
              Option.bind (X5_finding x_found 2) fun r71 =>
              some (r71.1, r71.2)
            else
              some ((sc_spots v1.toNatClampNeg), x_found)
          else none
      else none
def X6_above (v0 : Int32) : Int32 :=
  if v0 = 6 then
    5
  else
    if v0 = 4 then
      3
    else
      if v0 = 3 then
        2
      else
        0
def X6_as_L72 (m_found : Nat → Int32) (v2 : Int32) (v3 : Int32) (v4 : Int32) : Option (Int32 × (Nat → Int32)) :=
  if v4 = v2 then
    some (v3, m_found)
  else
    Option.bind (X6_no m_found 2) fun r84 =>
    some (r84.1, r84.2)
def X6_as_L51 (m_found : Nat → Int32) : Nat → Int32 → Int32 → Int32 → Option (Int32 × (Nat → Int32))
  | 0, _, _, _ => none
  | n + 1, v2, v3, v4 =>
    if v4 = v2 then
      X6_as_L72 m_found v2 v3 v4
    else
      if v4 = 0 then
        X6_as_L72 m_found v2 v3 v4
      else
        X6_as_L51 m_found n v2 v3 (X6_above v4)
def X6_as (m_s : Nat → Int32) (m_found : Nat → Int32) (v1 : Int32) (v2 : Int32) : Option (Int32 × (Nat → Int32)) :=
  if (xb (X6_isSpot v1)) = 0 then
    Option.bind (X6_no m_found 0) fun r19 =>
    some (r19.1, r19.2)
  else
    if (xb (X6_in1 v2 0 6)) = 0 then
      Option.bind (X6_no m_found 0) fun r19_1 =>
      some (r19_1.1, r19_1.2)
    else
      if inr (73 + v1) 83 then
        if 0 ≤ (m_s (73 + v1).toNatClampNeg) then
          Option.bind (X6_get m_s (m_s (73 + v1).toNatClampNeg) 0) fun r46 =>
          X6_as_L51 m_found FU v2 (m_s (73 + v1).toNatClampNeg) r46
        else
          Option.bind (X6_no m_found 5) fun r39 =>
          some (r39.1, r39.2)
      else none
def X3_isSheet (v1 : Int32) : Bool :=
  (X5_isIn v1 0 3)
def X3_lay_L25 : Nat → Int32 → Int32 → (Nat → Int32) → (Nat → Int32) → (Nat → Int32) → Option (Int32 × (Nat → Int32) × (Nat → Int32) × (Nat → Int32))
  | 0, _, _, _, _, _ => none
  | n + 1, v1, v4, sh_bits_, sh_sizes_, sh_numbers_ =>
    if 40 ≤ v4 then
      if inr v1 4 then
        some ((sh_sizes_ v1.toNatClampNeg), sh_bits_, sh_sizes_, sh_numbers_)
      else none
    else
      if inr ((v1 * 40) + v4) 160 then
        X3_lay_L25 n v1 (v4 + 1) sh_bits_ sh_sizes_ (upd sh_numbers_ ((v1 * 40) + v4).toNatClampNeg 0)
      else none
def X3_lay (sh_bits : Nat → Int32) (sh_sizes : Nat → Int32) (sh_numbers : Nat → Int32) (v1 : Int32) (v2 : Int32) (v3 : Int32) : Option (Int32 × (Nat → Int32) × (Nat → Int32) × (Nat → Int32)) :=
  if inr v1 4 then
    if v2 = 0 then
      if inr v1 4 then
        X3_lay_L25 FU v1 0 (upd sh_bits v1.toNatClampNeg v2) (upd sh_sizes v1.toNatClampNeg 0) sh_numbers
      else none
    else
      if inr v1 4 then
        X3_lay_L25 FU v1 0 (upd sh_bits v1.toNatClampNeg v2) (upd sh_sizes v1.toNatClampNeg v3) sh_numbers
      else none
  else none
def X5_sheet_L39 (x_found : Nat → Int32) (sh_bits : Nat → Int32) (sh_sizes : Nat → Int32) (sh_numbers : Nat → Int32) (v1 : Int32) (v2 : Int32) (v3 : Int32) : Option (Int32 × (Nat → Int32) × (Nat → Int32) × (Nat → Int32) × (Nat → Int32)) :=
  if 0 ≤ v3 then
    if v3 ≤ 40 then
      Option.bind (X3_lay sh_bits sh_sizes sh_numbers v1 v2 v3) fun r69 =>
      some (r69.1, x_found, r69.2.1, r69.2.2.1, r69.2.2.2)
    else
      Option.bind (X5_finding x_found 0) fun r58 =>
      some (r58.1, r58.2, sh_bits, sh_sizes, sh_numbers)
  else
    Option.bind (X5_finding x_found 6) fun r46 =>
    some (r46.1, r46.2, sh_bits, sh_sizes, sh_numbers)
def X5_sheet (x_found : Nat → Int32) (sh_bits : Nat → Int32) (sh_sizes : Nat → Int32) (sh_numbers : Nat → Int32) (v1 : Int32) (v2 : Int32) (v3 : Int32) : Option (Int32 × (Nat → Int32) × (Nat → Int32) × (Nat → Int32) × (Nat → Int32)) :=
  if (xb (X3_isSheet v1)) = 0 then
    Option.bind (X5_finding x_found 0) fun r35 =>
    some (r35.1, r35.2, sh_bits, sh_sizes, sh_numbers)
  else
    if v2 = 0 then
      X5_sheet_L39 x_found sh_bits sh_sizes sh_numbers v1 v2 v3
    else
      if v2 = 8 then
        X5_sheet_L39 x_found sh_bits sh_sizes sh_numbers v1 v2 v3
      else
        if v2 = 16 then
          X5_sheet_L39 x_found sh_bits sh_sizes sh_numbers v1 v2 v3
        else
          if v2 = 32 then
            X5_sheet_L39 x_found sh_bits sh_sizes sh_numbers v1 v2 v3
          else
            Option.bind (X5_finding x_found 0) fun r35_1 =>
            some (r35_1.1, r35_1.2, sh_bits, sh_sizes, sh_numbers)
def X6_isSheet (v0 : Int32) : Bool :=
  (X6_in1 v0 0 3)
def X6_sheet_L83 (m_found : Nat → Int32) : Nat → Int32 → Int32 → (Nat → Int32) → (Nat → Int32) → (Nat → Int32) → Option (Int32 × (Nat → Int32) × (Nat → Int32) × (Nat → Int32) × (Nat → Int32))
  | 0, _, _, _, _, _ => none
  | n + 1, v1, v4, m_widths_, m_sizes_, m_cells_ =>
    if 40 ≤ v4 then
      if inr v1 4 then
        some ((m_sizes_ v1.toNatClampNeg), m_found, m_widths_, m_sizes_, m_cells_)
      else none
    else
      if inr ((40 * v1) + v4) 160 then
        X6_sheet_L83 m_found n v1 (v4 + 1) m_widths_ m_sizes_ (upd m_cells_ ((40 * v1) + v4).toNatClampNeg 0)
      else none
def X6_sheet_L35 (m_found : Nat → Int32) (m_widths : Nat → Int32) (m_sizes : Nat → Int32) (m_cells : Nat → Int32) (v1 : Int32) (v2 : Int32) (v3 : Int32) : Option (Int32 × (Nat → Int32) × (Nat → Int32) × (Nat → Int32) × (Nat → Int32)) :=
  if 0 ≤ v3 then
    if v3 ≤ 40 then
      if inr v1 4 then
        if v2 = 0 then
          if inr v1 4 then
            X6_sheet_L83 m_found FU v1 0 (upd m_widths v1.toNatClampNeg v2) (upd m_sizes v1.toNatClampNeg 0) m_cells
          else none
        else
          if inr v1 4 then
            X6_sheet_L83 m_found FU v1 0 (upd m_widths v1.toNatClampNeg v2) (upd m_sizes v1.toNatClampNeg v3) m_cells
          else none
      else none
    else
      Option.bind (X6_no m_found 0) fun r54 =>
      some (r54.1, r54.2, m_widths, m_sizes, m_cells)
  else
    Option.bind (X6_no m_found 6) fun r42 =>
    some (r42.1, r42.2, m_widths, m_sizes, m_cells)
def X6_sheet (m_found : Nat → Int32) (m_widths : Nat → Int32) (m_sizes : Nat → Int32) (m_cells : Nat → Int32) (v1 : Int32) (v2 : Int32) (v3 : Int32) : Option (Int32 × (Nat → Int32) × (Nat → Int32) × (Nat → Int32) × (Nat → Int32)) :=
  if (xb (X6_isSheet v1)) = 0 then
    Option.bind (X6_no m_found 0) fun r31 =>
    some (r31.1, r31.2, m_widths, m_sizes, m_cells)
  else
    if v2 = 0 then
      X6_sheet_L35 m_found m_widths m_sizes m_cells v1 v2 v3
    else
      if v2 = 8 then
        X6_sheet_L35 m_found m_widths m_sizes m_cells v1 v2 v3
      else
        if v2 = 16 then
          X6_sheet_L35 m_found m_widths m_sizes m_cells v1 v2 v3
        else
          if v2 = 32 then
            X6_sheet_L35 m_found m_widths m_sizes m_cells v1 v2 v3
          else
            Option.bind (X6_no m_found 0) fun r31_1 =>
            some (r31_1.1, r31_1.2, m_widths, m_sizes, m_cells)
def X3_wrongWith (sh_bits : Nat → Int32) (v1 : Int32) : Option (Int32) :=
  if (xb (X3_isSheet v1)) = 0 then
    some 0
  else
    if inr v1 4 then
      if (sh_bits v1.toNatClampNeg) = 0 then
        some 5
      else
        some (-1)
    else none
def X3_set (sh_bits : Nat → Int32) (sh_numbers : Nat → Int32) (v1 : Int32) (v2 : Int32) (v3 : Int32) : Option ((Nat → Int32)) :=
  if inr v1 4 then
    if inr ((v1 * 40) + v2) 160 then
      some (upd sh_numbers ((v1 * 40) + v2).toNatClampNeg (xshr (xshl v3 (32 - (sh_bits v1.toNatClampNeg))) (32 - (sh_bits v1.toNatClampNeg))))
    else none
  else none
def X5_write (x_found : Nat → Int32) (sh_bits : Nat → Int32) (sh_sizes : Nat → Int32) (sh_numbers : Nat → Int32) (v1 : Int32) (v2 : Int32) (v3 : Int32) : Option (Int32 × (Nat → Int32) × (Nat → Int32)) :=
  Option.bind (X3_wrongWith sh_bits v1) fun r5 =>
  if r5 = (-1) then
    if inr v1 4 then
      if (xb (X5_isIn v2 0 ((sh_sizes v1.toNatClampNeg) - 1))) = 0 then
        Option.bind (X5_finding x_found 0) fun r44 =>
        some (r44.1, r44.2, sh_numbers)
      else
        Option.bind (X3_set sh_bits sh_numbers v1 v2 v3) fun r55 =>
        some (1, x_found, r55)
    else none
  else
    Option.bind (X5_finding x_found r5) fun r19 =>
    some (r19.1, r19.2, sh_numbers)
def X6_wrongSheet (m_widths : Nat → Int32) (v1 : Int32) : Option (Int32) :=
  if (xb (X6_isSheet v1)) = 0 then
    some 0
  else
    if inr v1 4 then
      if (m_widths v1.toNatClampNeg) = 0 then
        some 5
      else
        some (-1)
    else none
def X6_write_L31 (m_found : Nat → Int32) (m_widths : Nat → Int32) (m_cells : Nat → Int32) (v1 : Int32) (v2 : Int32) (v3 : Int32) (v4 : Int32) : Option (Int32 × (Nat → Int32) × (Nat → Int32)) :=
  if v4 < 0 then
    if inr v1 4 then
      if (m_widths v1.toNatClampNeg) = 8 then
        if inr ((40 * v1) + v2) 160 then
          some (1, m_found, (upd m_cells ((40 * v1) + v2).toNatClampNeg (xi2b v3)))
        else none
      else
        if inr v1 4 then
          if (m_widths v1.toNatClampNeg) = 16 then
            if inr ((40 * v1) + v2) 160 then
              some (1, m_found, (upd m_cells ((40 * v1) + v2).toNatClampNeg (xi2s v3)))
            else none
          else
            if inr ((40 * v1) + v2) 160 then
              some (1, m_found, (upd m_cells ((40 * v1) + v2).toNatClampNeg v3))
            else none
        else none
    else none
  else
    Option.bind (X6_no m_found v4) fun r39 =>
    some (r39.1, r39.2, m_cells)
def X6_write (m_found : Nat → Int32) (m_widths : Nat → Int32) (m_sizes : Nat → Int32) (m_cells : Nat → Int32) (v1 : Int32) (v2 : Int32) (v3 : Int32) : Option (Int32 × (Nat → Int32) × (Nat → Int32)) :=
  Option.bind (X6_wrongSheet m_widths v1) fun r2 =>
  if 0 ≤ r2 then
    X6_write_L31 m_found m_widths m_cells v1 v2 v3 r2
  else
    if inr v1 4 then
      if (xb (X6_in1 v2 0 ((m_sizes v1.toNatClampNeg) - 1))) = 0 then
        X6_write_L31 m_found m_widths m_cells v1 v2 v3 0
      else
        X6_write_L31 m_found m_widths m_cells v1 v2 v3 r2
    else none
def X3_hasPart (sh_sizes : Nat → Int32) (v1 : Int32) (v2 : Int32) (v3 : Int32) : Option (Bool) :=
  if v3 < 0 then
    some false
  else
    if inr v1 4 then
      if (xb (X5_isIn v2 0 (sh_sizes v1.toNatClampNeg))) = 0 then
        some false
      else
        if inr v1 4 then
          if ((sh_sizes v1.toNatClampNeg) - v2) < v3 then
            some false
          else
            some true
        else none
    else none
def X3_move (sh_numbers : Nat → Int32) (v1 : Int32) (v2 : Int32) (v3 : Int32) (v4 : Int32) (v5 : Int32) : Option (Int32 × (Nat → Int32)) :=
  if 0 ≤ Int32.toInt ((v1 * 40) + v2) ∧ 0 ≤ Int32.toInt ((v3 * 40) + v4) ∧ 0 ≤ Int32.toInt v5 ∧ Int32.toInt ((v1 * 40) + v2) + Int32.toInt v5 ≤ ((160 : Nat) : Int) ∧ Int32.toInt ((v3 * 40) + v4) + Int32.toInt v5 ≤ ((160 : Nat) : Int) then
    some (v5, (va_cpy sh_numbers sh_numbers (Int32.toNatClampNeg ((v1 * 40) + v2)) (Int32.toNatClampNeg ((v3 * 40) + v4)) (Int32.toNatClampNeg v5)))
  else none
def X5_copy (x_found : Nat → Int32) (sh_bits : Nat → Int32) (sh_sizes : Nat → Int32) (sh_numbers : Nat → Int32) (v1 : Int32) (v2 : Int32) (v3 : Int32) (v4 : Int32) (v5 : Int32) : Option (Int32 × (Nat → Int32) × (Nat → Int32)) :=
  if (xb (X3_isSheet v1)) = 0 then
    Option.bind (X5_finding x_found 0) fun r24 =>
    some (r24.1, r24.2, sh_numbers)
  else
    if (xb (X3_isSheet v3)) = 0 then
      Option.bind (X5_finding x_found 0) fun r24_1 =>
      some (r24_1.1, r24_1.2, sh_numbers)
    else
      Option.bind (X3_wrongWith sh_bits v1) fun r33 =>
      if r33 = (-1) then
        Option.bind (X3_wrongWith sh_bits v3) fun r45 =>
        if r45 = (-1) then
          if inr v1 4 then
            if inr v3 4 then
              if (sh_bits v1.toNatClampNeg) = (sh_bits v3.toNatClampNeg) then
                Option.bind (X3_hasPart sh_sizes v1 v2 v5) fun r93 =>
                if (xb r93) = 0 then
                  Option.bind (X5_finding x_found 0) fun r116 =>
                  some (r116.1, r116.2, sh_numbers)
                else
                  Option.bind (X3_hasPart sh_sizes v3 v4 v5) fun r108 =>
                  if (xb r108) = 0 then
                    Option.bind (X5_finding x_found 0) fun r116_1 =>
                    some (r116_1.1, r116_1.2, sh_numbers)
                  else
                    Option.bind (X3_move sh_numbers v1 v2 v3 v4 v5) fun r131 =>
                    some (r131.1, x_found, r131.2)
              else
                Option.bind (X5_finding x_found 2) fun r81 =>
                some (r81.1, r81.2, sh_numbers)
            else none
          else none
        else
          Option.bind (X5_finding x_found 5) fun r54 =>
          some (r54.1, r54.2, sh_numbers)
      else
        Option.bind (X5_finding x_found 5) fun r54_1 =>
        some (r54_1.1, r54_1.2, sh_numbers)
def X6_copy_L152 (m_found : Nat → Int32) : Nat → Int32 → Int32 → Int32 → Int32 → (Nat → Int32) → (Nat → Int32) → Option (Int32 × (Nat → Int32) × (Nat → Int32) × (Nat → Int32))
  | 0, _, _, _, _, _, _ => none
  | n + 1, v3, v4, v5, v6, m_cells_, m_carried_ =>
    if v5 ≤ v6 then
      some (v5, m_found, m_cells_, m_carried_)
    else
      if inr v6 40 then
        if inr (((40 * v3) + v4) + v6) 160 then
          X6_copy_L152 m_found n v3 v4 v5 (v6 + 1) (upd m_cells_ (((40 * v3) + v4) + v6).toNatClampNeg (m_carried_ v6.toNatClampNeg)) m_carried_
        else none
      else none
def X6_copy_L115 (m_found : Nat → Int32) (m_cells : Nat → Int32) : Nat → Int32 → Int32 → Int32 → Int32 → Int32 → Int32 → (Nat → Int32) → Option (Int32 × (Nat → Int32) × (Nat → Int32) × (Nat → Int32))
  | 0, _, _, _, _, _, _, _ => none
  | n + 1, v1, v2, v3, v4, v5, v6, m_carried_ =>
    if v5 ≤ v6 then
      X6_copy_L152 m_found FU v3 v4 v5 0 m_cells m_carried_
    else
      if inr (((40 * v1) + v2) + v6) 160 then
        if inr v6 40 then
          X6_copy_L115 m_found m_cells n v1 v2 v3 v4 v5 (v6 + 1) (upd m_carried_ v6.toNatClampNeg (m_cells (((40 * v1) + v2) + v6).toNatClampNeg))
        else none
      else none
def X6_copy (m_found : Nat → Int32) (m_widths : Nat → Int32) (m_sizes : Nat → Int32) (m_cells : Nat → Int32) (m_carried : Nat → Int32) (v1 : Int32) (v2 : Int32) (v3 : Int32) (v4 : Int32) (v5 : Int32) : Option (Int32 × (Nat → Int32) × (Nat → Int32) × (Nat → Int32)) :=
  if (xb (X6_isSheet v1)) = 0 then
    Option.bind (X6_no m_found 0) fun r16 =>
    some (r16.1, r16.2, m_cells, m_carried)
  else
    if (xb (X6_isSheet v3)) = 0 then
      Option.bind (X6_no m_found 0) fun r16_1 =>
      some (r16_1.1, r16_1.2, m_cells, m_carried)
    else
      if inr v1 4 then
        if (m_widths v1.toNatClampNeg) = 0 then
          Option.bind (X6_no m_found 5) fun r40 =>
          some (r40.1, r40.2, m_cells, m_carried)
        else
          if inr v3 4 then
            if (m_widths v3.toNatClampNeg) = 0 then
              Option.bind (X6_no m_found 5) fun r40_1 =>
              some (r40_1.1, r40_1.2, m_cells, m_carried)
            else
              if inr v1 4 then
                if inr v3 4 then
                  if (m_widths v1.toNatClampNeg) = (m_widths v3.toNatClampNeg) then
                    if v5 < 0 then
                      Option.bind (X6_no m_found 0) fun r108 =>
                      some (r108.1, r108.2, m_cells, m_carried)
                    else
                      if v2 < 0 then
                        Option.bind (X6_no m_found 0) fun r108_1 =>
                        some (r108_1.1, r108_1.2, m_cells, m_carried)
                      else
                        if v4 < 0 then
                          Option.bind (X6_no m_found 0) fun r108_2 =>
                          some (r108_2.1, r108_2.2, m_cells, m_carried)
                        else
                          if inr v1 4 then
                            if ((m_sizes v1.toNatClampNeg) - v5) < v2 then
                              Option.bind (X6_no m_found 0) fun r108_3 =>
                              some (r108_3.1, r108_3.2, m_cells, m_carried)
                            else
                              if inr v3 4 then
                                if v4 ≤ ((m_sizes v3.toNatClampNeg) - v5) then
                                  X6_copy_L115 m_found m_cells FU v1 v2 v3 v4 v5 0 m_carried
                                else
                                  Option.bind (X6_no m_found 0) fun r108_4 =>
                                  some (r108_4.1, r108_4.2, m_cells, m_carried)
                              else none
                          else none
                  else
                    Option.bind (X6_no m_found 2) fun r61 =>
                    some (r61.1, r61.2, m_cells, m_carried)
                else none
              else none
          else none
      else none
def X3_numberAt (sh_numbers : Nat → Int32) (v1 : Int32) (v2 : Int32) : Option (Int32) :=
  if inr ((v1 * 40) + v2) 160 then
    some (sh_numbers ((v1 * 40) + v2).toNatClampNeg)
  else none
def X5_load_L43 (x_found : Nat → Int32) (sh_numbers : Nat → Int32) : Nat → Int32 → Int32 → Int32 → (Nat → Int32) → Option (Int32 × (Nat → Int32) × (Nat → Int32))
  | 0, _, _, _, _ => none
  | n + 1, v1, v3, v4, sc_loves_ =>
    if v4 ≤ v3 then
      some (v3, x_found, sc_loves_)
    else
      Option.bind (X3_numberAt sh_numbers v1 v3) fun r55 =>
      if (xb (X5_isIn r55 0 99)) = 0 then
        some (v3, x_found, sc_loves_)
      else
        Option.bind (X3_numberAt sh_numbers v1 v3) fun r81 =>
        if inr v3 9 then
          X5_load_L43 x_found sh_numbers n v1 (v3 + 1) v4 (upd sc_loves_ v3.toNatClampNeg r81)
        else none
def X5_load (x_found : Nat → Int32) (sc_bows : Int32) (sc_loves : Nat → Int32) (sh_bits : Nat → Int32) (sh_sizes : Nat → Int32) (sh_numbers : Nat → Int32) (v1 : Int32) : Option (Int32 × (Nat → Int32) × (Nat → Int32)) :=
  Option.bind (X3_wrongWith sh_bits v1) fun r5 =>
  if r5 = (-1) then
    if inr v1 4 then
      X5_load_L43 x_found sh_numbers FU v1 0 (xmin (sh_sizes v1.toNatClampNeg) sc_bows) sc_loves
    else none
  else
    Option.bind (X5_finding x_found r5) fun r16 =>
    some (r16.1, r16.2, sc_loves)
def X6_load_L18 (m_found : Nat → Int32) (m_sizes : Nat → Int32) (m_cells : Nat → Int32) : Nat → Int32 → Int32 → (Nat → Int32) → Option (Int32 × (Nat → Int32) × (Nat → Int32))
  | 0, _, _, _ => none
  | n + 1, v1, v3, m_s_ =>
    if inr v1 4 then
      if (m_sizes v1.toNatClampNeg) ≤ v3 then
        some (v3, m_s_, m_found)
      else
        Option.bind (X6_isBow m_s_ v3) fun r30 =>
        if (xb r30) = 0 then
          some (v3, m_s_, m_found)
        else
          if inr ((40 * v1) + v3) 160 then
            if (xb (X6_in1 (m_cells ((40 * v1) + v3).toNatClampNeg) 0 99)) = 0 then
              some (v3, m_s_, m_found)
            else
              if inr ((40 * v1) + v3) 160 then
                Option.bind (X6_puts m_s_ v3 1 (m_cells ((40 * v1) + v3).toNatClampNeg)) fun r70 =>
                X6_load_L18 m_found m_sizes m_cells n v1 (v3 + 1) r70
              else none
          else none
    else none
def X6_load (m_s : Nat → Int32) (m_found : Nat → Int32) (m_widths : Nat → Int32) (m_sizes : Nat → Int32) (m_cells : Nat → Int32) (v1 : Int32) : Option (Int32 × (Nat → Int32) × (Nat → Int32)) :=
  Option.bind (X6_wrongSheet m_widths v1) fun r2 =>
  if r2 < 0 then
    X6_load_L18 m_found m_sizes m_cells FU v1 0 m_s
  else
    Option.bind (X6_no m_found r2) fun r12 =>
    some (r12.1, m_s, r12.2)
def X5_firstThatCannot_L10 (sc_bows : Int32) (sc_aheads : Nat → Int32) (sh_sizes : Nat → Int32) (sh_numbers : Nat → Int32) : Nat → Int32 → Int32 → Int32 → Option (Int32)
  | 0, _, _, _ => none
  | n + 1, v1, v2, v3 =>
    if inr v1 4 then
      if (sh_sizes v1.toNatClampNeg) ≤ v3 then
        some 0
      else
        Option.bind (X3_numberAt sh_numbers v1 v3) fun r29 =>
        if (xb (X2_isBow sc_bows r29)) = 0 then
          some (1 + v3)
        else
          Option.bind (X2_couldCome sc_aheads r29 v2) fun r53 =>
          if (xb r53) = 0 then
            some (1 + v3)
          else
            X5_firstThatCannot_L10 sc_bows sc_aheads sh_sizes sh_numbers n v1 (v2 ||| (xshl 1 r29)) (v3 + 1)
    else none
def X5_firstThatCannot (sc_bows : Int32) (sc_came : Int32) (sc_aheads : Nat → Int32) (sh_sizes : Nat → Int32) (sh_numbers : Nat → Int32) (v1 : Int32) : Option (Int32) :=
  X5_firstThatCannot_L10 sc_bows sc_aheads sh_sizes sh_numbers FU v1 sc_came 0
def X5_judge (x_found : Nat → Int32) (sc_bows : Int32) (sc_came : Int32) (sc_aheads : Nat → Int32) (sh_bits : Nat → Int32) (sh_sizes : Nat → Int32) (sh_numbers : Nat → Int32) (v1 : Int32) : Option (Int32 × (Nat → Int32)) :=
  Option.bind (X3_wrongWith sh_bits v1) fun r5 =>
  if r5 = (-1) then
    Option.bind (X5_firstThatCannot sc_bows sc_came sc_aheads sh_sizes sh_numbers v1) fun r22 =>
    some (r22, x_found)
  else
    Option.bind (X5_finding x_found r5) fun r16 =>
    some (r16.1, r16.2)
def X6_comeOf_L18 (m_s : Nat → Int32) (m_sizes : Nat → Int32) (m_cells : Nat → Int32) : Nat → Int32 → Int32 → Int32 → Int32 → Int32 → Option (Int32 × Int32)
  | 0, _, _, _, _, _ => none
  | n + 1, v1, v2, v3, v4, m_loudBy_ =>
    if inr v1 4 then
      if (m_sizes v1.toNatClampNeg) ≤ v4 then
        some (v4, m_loudBy_)
      else
        if inr ((40 * v1) + v4) 160 then
          Option.bind (X6_isBow m_s (m_cells ((40 * v1) + v4).toNatClampNeg)) fun r42 =>
          if (xb r42) = 0 then
            some (v4, m_loudBy_)
          else
            if inr ((40 * v1) + v4) 160 then
              Option.bind (X6_canBehind m_s (m_cells ((40 * v1) + v4).toNatClampNeg) v2) fun r62 =>
              if (xb r62) = 0 then
                some (v4, m_loudBy_)
              else
                if inr ((40 * v1) + v4) 160 then
                  Option.bind (X6_leftBy m_s v3) fun r92 =>
                  Option.bind (X6_noiseBy m_s (m_cells ((40 * v1) + v4).toNatClampNeg) r92) fun r95 =>
                  X6_comeOf_L18 m_s m_sizes m_cells n v1 (v2 ||| (xshl 1 (m_cells ((40 * v1) + v4).toNatClampNeg))) (m_cells ((40 * v1) + v4).toNatClampNeg) (v4 + 1) (m_loudBy_ + r95)
                else none
            else none
        else none
    else none
def X6_comeOf (m_s : Nat → Int32) (m_sizes : Nat → Int32) (m_cells : Nat → Int32) (v1 : Int32) : Option (Int32 × Int32) :=
  Option.bind (X6_stageSet m_s) fun r1 =>
  Option.bind (X6_latest m_s) fun r6 =>
  X6_comeOf_L18 m_s m_sizes m_cells FU v1 r1 r6 0 0
def X6_judge (m_loudBy : Int32) (m_s : Nat → Int32) (m_found : Nat → Int32) (m_widths : Nat → Int32) (m_sizes : Nat → Int32) (m_cells : Nat → Int32) (v1 : Int32) : Option (Int32 × Int32 × (Nat → Int32)) :=
  Option.bind (X6_wrongSheet m_widths v1) fun r2 =>
  if r2 < 0 then
    Option.bind (X6_comeOf m_s m_sizes m_cells v1) fun r18 =>
    if inr v1 4 then
      if r18.1 = (m_sizes v1.toNatClampNeg) then
        some (0, r18.2, m_found)
      else
        some ((1 + r18.1), r18.2, m_found)
    else none
  else
    Option.bind (X6_no m_found r2) fun r12 =>
    some (r12.1, m_loudBy, r12.2)
def X5_loud_L54 (x_found : Nat → Int32) (sc_kinds : Nat → Int32) (sc_loves : Nat → Int32) (sh_sizes : Nat → Int32) (sh_numbers : Nat → Int32) : Nat → Int32 → Int32 → Int32 → Int32 → Option (Int32 × (Nat → Int32))
  | 0, _, _, _, _ => none
  | n + 1, v1, v3, v4, v5 =>
    if inr v1 4 then
      if (sh_sizes v1.toNatClampNeg) ≤ v5 then
        some (v3, x_found)
      else
        Option.bind (X3_numberAt sh_numbers v1 v5) fun r75 =>
        Option.bind (X2_noiseBy sc_kinds sc_loves r75 v4) fun r89 =>
        Option.bind (X2_leftBy sc_kinds sc_loves r75) fun r100 =>
        X5_loud_L54 x_found sc_kinds sc_loves sh_sizes sh_numbers n v1 (v3 + r89) r100 (v5 + 1)
    else none
def X5_loud (x_found : Nat → Int32) (sc_bows : Int32) (sc_there : Int32) (sc_came : Int32) (sc_heard : Int32) (sc_kinds : Nat → Int32) (sc_loves : Nat → Int32) (sc_aheads : Nat → Int32) (sc_stage : Nat → Int32) (sh_bits : Nat → Int32) (sh_sizes : Nat → Int32) (sh_numbers : Nat → Int32) (v1 : Int32) : Option (Int32 × (Nat → Int32)) :=
  Option.bind (X3_wrongWith sh_bits v1) fun r5 =>
  if r5 = (-1) then
    Option.bind (X5_firstThatCannot sc_bows sc_came sc_aheads sh_sizes sh_numbers v1) fun r22 =>
    if r22 = 0 then
      Option.bind (X2_leftByLatest sc_there sc_kinds sc_loves sc_stage) fun r46 =>
      X5_loud_L54 x_found sc_kinds sc_loves sh_sizes sh_numbers FU v1 sc_heard r46 0
    else
      Option.bind (X5_finding x_found 4) fun r30 =>
      some (r30.1, r30.2)
  else
    Option.bind (X5_finding x_found r5) fun r16 =>
    some (r16.1, r16.2)
def X6_loud (m_loudBy : Int32) (m_s : Nat → Int32) (m_found : Nat → Int32) (m_widths : Nat → Int32) (m_sizes : Nat → Int32) (m_cells : Nat → Int32) (v1 : Int32) : Option (Int32 × Int32 × (Nat → Int32)) :=
  Option.bind (X6_wrongSheet m_widths v1) fun r2 =>
  if r2 < 0 then
    Option.bind (X6_comeOf m_s m_sizes m_cells v1) fun r18 =>
    if inr v1 4 then
      if r18.1 = (m_sizes v1.toNatClampNeg) then
        some (((m_s 0) + r18.2), r18.2, m_found)
      else
        Option.bind (X6_no m_found 4) fun r48 =>
        some (r48.1, r18.2, r48.2)
    else none
  else
    Option.bind (X6_no m_found r2) fun r12 =>
    some (r12.1, m_loudBy, r12.2)
def X2_become_kp_sc (sc_bows : Int32) (sc_there : Int32) (sc_came : Int32) (sc_heard : Int32) (sc_clock : Int32) (sc_z : Int32) (sc_kinds : Nat → Int32) (sc_loves : Nat → Int32) (sc_seconds : Nat → Int32) (sc_aheads : Nat → Int32) (sc_rules : Nat → Int32) (sc_stage : Nat → Int32) (sc_noises : Nat → Int32) (sc_times : Nat → Int32) (sc_spots : Nat → Int32) (kp_kinds : Nat → Int32) (kp_loves : Nat → Int32) (kp_seconds : Nat → Int32) (kp_aheads : Nat → Int32) (kp_rules : Nat → Int32) (kp_stage : Nat → Int32) (kp_noises : Nat → Int32) (kp_times : Nat → Int32) (kp_spots : Nat → Int32) : Option (Int32 × Int32 × Int32 × Int32 × Int32 × Int32 × (Nat → Int32) × (Nat → Int32) × (Nat → Int32) × (Nat → Int32) × (Nat → Int32) × (Nat → Int32) × (Nat → Int32) × (Nat → Int32) × (Nat → Int32)) :=
  some (sc_bows, sc_there, sc_came, sc_heard, sc_clock, sc_z, (va_cpy sc_kinds kp_kinds (Int32.toNatClampNeg 0) (Int32.toNatClampNeg 0) (Int32.toNatClampNeg 9)), (va_cpy sc_loves kp_loves (Int32.toNatClampNeg 0) (Int32.toNatClampNeg 0) (Int32.toNatClampNeg 9)), (va_cpy sc_seconds kp_seconds (Int32.toNatClampNeg 0) (Int32.toNatClampNeg 0) (Int32.toNatClampNeg 9)), (va_cpy sc_aheads kp_aheads (Int32.toNatClampNeg 0) (Int32.toNatClampNeg 0) (Int32.toNatClampNeg 9)), (va_cpy sc_rules kp_rules (Int32.toNatClampNeg 0) (Int32.toNatClampNeg 0) (Int32.toNatClampNeg 5)), (va_cpy sc_stage kp_stage (Int32.toNatClampNeg 0) (Int32.toNatClampNeg 0) (Int32.toNatClampNeg 9)), (va_cpy sc_noises kp_noises (Int32.toNatClampNeg 0) (Int32.toNatClampNeg 0) (Int32.toNatClampNeg 9)), (va_cpy sc_times kp_times (Int32.toNatClampNeg 0) (Int32.toNatClampNeg 0) (Int32.toNatClampNeg 9)), (va_cpy sc_spots kp_spots (Int32.toNatClampNeg 0) (Int32.toNatClampNeg 0) (Int32.toNatClampNeg 10)))
def X5_image (sc_bows : Int32) (sc_there : Int32) (sc_came : Int32) (sc_heard : Int32) (sc_clock : Int32) (sc_z : Int32) (sc_kinds : Nat → Int32) (sc_loves : Nat → Int32) (sc_seconds : Nat → Int32) (sc_aheads : Nat → Int32) (sc_rules : Nat → Int32) (sc_stage : Nat → Int32) (sc_noises : Nat → Int32) (sc_times : Nat → Int32) (sc_spots : Nat → Int32) (kp_kinds : Nat → Int32) (kp_loves : Nat → Int32) (kp_seconds : Nat → Int32) (kp_aheads : Nat → Int32) (kp_rules : Nat → Int32) (kp_stage : Nat → Int32) (kp_noises : Nat → Int32) (kp_times : Nat → Int32) (kp_spots : Nat → Int32) : Option (Int32 × Int32 × Int32 × Int32 × Int32 × Int32 × Int32 × Int32 × (Nat → Int32) × (Nat → Int32) × (Nat → Int32) × (Nat → Int32) × (Nat → Int32) × (Nat → Int32) × (Nat → Int32) × (Nat → Int32) × (Nat → Int32)) :=
  Option.bind (X2_become_kp_sc sc_bows sc_there sc_came sc_heard sc_clock sc_z sc_kinds sc_loves sc_seconds sc_aheads sc_rules sc_stage sc_noises sc_times sc_spots kp_kinds kp_loves kp_seconds kp_aheads kp_rules kp_stage kp_noises kp_times kp_spots) fun r8 =>
  some (1, 1, r8.1, r8.2.1, r8.2.2.1, r8.2.2.2.1, r8.2.2.2.2.1, r8.2.2.2.2.2.1, r8.2.2.2.2.2.2.1, r8.2.2.2.2.2.2.2.1, r8.2.2.2.2.2.2.2.2.1, r8.2.2.2.2.2.2.2.2.2.1, r8.2.2.2.2.2.2.2.2.2.2.1, r8.2.2.2.2.2.2.2.2.2.2.2.1, r8.2.2.2.2.2.2.2.2.2.2.2.2.1, r8.2.2.2.2.2.2.2.2.2.2.2.2.2.1, r8.2.2.2.2.2.2.2.2.2.2.2.2.2.2)
def X6_image_L2 (m_s : Nat → Int32) : Nat → Int32 → (Nat → Int32) → Option (Int32 × Int32 × (Nat → Int32))
  | 0, _, _ => none
  | n + 1, v1, m_kept_ =>
    if 83 ≤ v1 then
      some (1, 1, m_kept_)
    else
      if inr v1 83 then
        if inr v1 83 then
          X6_image_L2 m_s n (v1 + 1) (upd m_kept_ v1.toNatClampNeg (m_s v1.toNatClampNeg))
        else none
      else none
def X6_image (m_s : Nat → Int32) (m_kept : Nat → Int32) : Option (Int32 × Int32 × (Nat → Int32)) :=
  X6_image_L2 m_s FU 0 m_kept
def X2_become_sc_kp (sc_kinds : Nat → Int32) (sc_loves : Nat → Int32) (sc_seconds : Nat → Int32) (sc_aheads : Nat → Int32) (sc_rules : Nat → Int32) (sc_stage : Nat → Int32) (sc_noises : Nat → Int32) (sc_times : Nat → Int32) (sc_spots : Nat → Int32) (kp_bows : Int32) (kp_there : Int32) (kp_came : Int32) (kp_heard : Int32) (kp_clock : Int32) (kp_z : Int32) (kp_kinds : Nat → Int32) (kp_loves : Nat → Int32) (kp_seconds : Nat → Int32) (kp_aheads : Nat → Int32) (kp_rules : Nat → Int32) (kp_stage : Nat → Int32) (kp_noises : Nat → Int32) (kp_times : Nat → Int32) (kp_spots : Nat → Int32) : Option (Int32 × Int32 × Int32 × Int32 × Int32 × Int32 × (Nat → Int32) × (Nat → Int32) × (Nat → Int32) × (Nat → Int32) × (Nat → Int32) × (Nat → Int32) × (Nat → Int32) × (Nat → Int32) × (Nat → Int32)) :=
  some (kp_bows, kp_there, kp_came, kp_heard, kp_clock, kp_z, (va_cpy kp_kinds sc_kinds (Int32.toNatClampNeg 0) (Int32.toNatClampNeg 0) (Int32.toNatClampNeg 9)), (va_cpy kp_loves sc_loves (Int32.toNatClampNeg 0) (Int32.toNatClampNeg 0) (Int32.toNatClampNeg 9)), (va_cpy kp_seconds sc_seconds (Int32.toNatClampNeg 0) (Int32.toNatClampNeg 0) (Int32.toNatClampNeg 9)), (va_cpy kp_aheads sc_aheads (Int32.toNatClampNeg 0) (Int32.toNatClampNeg 0) (Int32.toNatClampNeg 9)), (va_cpy kp_rules sc_rules (Int32.toNatClampNeg 0) (Int32.toNatClampNeg 0) (Int32.toNatClampNeg 5)), (va_cpy kp_stage sc_stage (Int32.toNatClampNeg 0) (Int32.toNatClampNeg 0) (Int32.toNatClampNeg 9)), (va_cpy kp_noises sc_noises (Int32.toNatClampNeg 0) (Int32.toNatClampNeg 0) (Int32.toNatClampNeg 9)), (va_cpy kp_times sc_times (Int32.toNatClampNeg 0) (Int32.toNatClampNeg 0) (Int32.toNatClampNeg 9)), (va_cpy kp_spots sc_spots (Int32.toNatClampNeg 0) (Int32.toNatClampNeg 0) (Int32.toNatClampNeg 10)))
def X5_undo (x_isKept : Int32) (x_found : Nat → Int32) (sc_bows : Int32) (sc_there : Int32) (sc_came : Int32) (sc_heard : Int32) (sc_clock : Int32) (sc_z : Int32) (sc_kinds : Nat → Int32) (sc_loves : Nat → Int32) (sc_seconds : Nat → Int32) (sc_aheads : Nat → Int32) (sc_rules : Nat → Int32) (sc_stage : Nat → Int32) (sc_noises : Nat → Int32) (sc_times : Nat → Int32) (sc_spots : Nat → Int32) (kp_bows : Int32) (kp_there : Int32) (kp_came : Int32) (kp_heard : Int32) (kp_clock : Int32) (kp_z : Int32) (kp_kinds : Nat → Int32) (kp_loves : Nat → Int32) (kp_seconds : Nat → Int32) (kp_aheads : Nat → Int32) (kp_rules : Nat → Int32) (kp_stage : Nat → Int32) (kp_noises : Nat → Int32) (kp_times : Nat → Int32) (kp_spots : Nat → Int32) : Option (Int32 × (Nat → Int32) × Int32 × Int32 × Int32 × Int32 × Int32 × Int32 × (Nat → Int32) × (Nat → Int32) × (Nat → Int32) × (Nat → Int32) × (Nat → Int32) × (Nat → Int32) × (Nat → Int32) × (Nat → Int32) × (Nat → Int32)) :=
  if x_isKept = 0 then
    Option.bind (X5_finding x_found 3) fun r9 =>
    some (r9.1, r9.2, sc_bows, sc_there, sc_came, sc_heard, sc_clock, sc_z, sc_kinds, sc_loves, sc_seconds, sc_aheads, sc_rules, sc_stage, sc_noises, sc_times, sc_spots)
  else
    Option.bind (X2_become_sc_kp sc_kinds sc_loves sc_seconds sc_aheads sc_rules sc_stage sc_noises sc_times sc_spots kp_bows kp_there kp_came kp_heard kp_clock kp_z kp_kinds kp_loves kp_seconds kp_aheads kp_rules kp_stage kp_noises kp_times kp_spots) fun r21 =>
    some (r21.2.1, x_found, r21.1, r21.2.1, r21.2.2.1, r21.2.2.2.1, r21.2.2.2.2.1, r21.2.2.2.2.2.1, r21.2.2.2.2.2.2.1, r21.2.2.2.2.2.2.2.1, r21.2.2.2.2.2.2.2.2.1, r21.2.2.2.2.2.2.2.2.2.1, r21.2.2.2.2.2.2.2.2.2.2.1, r21.2.2.2.2.2.2.2.2.2.2.2.1, r21.2.2.2.2.2.2.2.2.2.2.2.2.1, r21.2.2.2.2.2.2.2.2.2.2.2.2.2.1, r21.2.2.2.2.2.2.2.2.2.2.2.2.2.2)
def X6_undo_L15 (m_kept : Nat → Int32) (m_found : Nat → Int32) : Nat → Int32 → (Nat → Int32) → Option (Int32 × (Nat → Int32) × (Nat → Int32))
  | 0, _, _ => none
  | n + 1, v1, m_s_ =>
    if 83 ≤ v1 then
      some ((m_s_ 2), m_s_, m_found)
    else
      if inr v1 83 then
        if inr v1 83 then
          X6_undo_L15 m_kept m_found n (v1 + 1) (upd m_s_ v1.toNatClampNeg (m_kept v1.toNatClampNeg))
        else none
      else none
def X6_undo (m_isKept : Int32) (m_s : Nat → Int32) (m_kept : Nat → Int32) (m_found : Nat → Int32) : Option (Int32 × (Nat → Int32) × (Nat → Int32)) :=
  if m_isKept = 0 then
    Option.bind (X6_no m_found 3) fun r9 =>
    some (r9.1, m_s, r9.2)
  else
    X6_undo_L15 m_kept m_found FU 0 m_s
def X5_tear (x_isKept : Int32) : Option (Int32 × Int32) :=
  if x_isKept = 0 then
    some (0, 0)
  else
    some (1, 0)
def X6_tear (m_isKept : Int32) : Option (Int32 × Int32) :=
  if m_isKept = 0 then
    some (0, 0)
  else
    some (1, 0)
def X2_heldSpots_L4 (sc_spots : Nat → Int32) : Nat → Int32 → Int32 → Option (Int32)
  | 0, _, _ => none
  | n + 1, v1, v2 =>
    if 10 ≤ v2 then
      some v1
    else
      if inr v2 10 then
        if (sc_spots v2.toNatClampNeg) = (-1) then
          X2_heldSpots_L4 sc_spots n v1 (v2 + 1)
        else
          X2_heldSpots_L4 sc_spots n (v1 + 1) (v2 + 1)
      else none
def X2_heldSpots (sc_spots : Nat → Int32) : Option (Int32) :=
  X2_heldSpots_L4 sc_spots FU 0 0
def X2_lovesTogether_L4 (sc_bows : Int32) (sc_loves : Nat → Int32) : Nat → Int32 → Int32 → Option (Int32)
  | 0, _, _ => none
  | n + 1, v1, v2 =>
    if sc_bows ≤ v2 then
      some v1
    else
      if inr v2 9 then
        X2_lovesTogether_L4 sc_bows sc_loves n (v1 + (sc_loves v2.toNatClampNeg)) (v2 + 1)
      else none
def X2_lovesTogether (sc_bows : Int32) (sc_loves : Nat → Int32) : Option (Int32) :=
  X2_lovesTogether_L4 sc_bows sc_loves FU 0 0
def X2_contracts_L4 (sc_bows : Int32) (sc_aheads : Nat → Int32) : Nat → Int32 → Int32 → Option (Int32)
  | 0, _, _ => none
  | n + 1, v1, v2 =>
    if sc_bows ≤ v2 then
      some v1
    else
      if inr v2 9 then
        X2_contracts_L4 sc_bows sc_aheads n (v1 + (J6_bitCount_0f7a4 (sc_aheads v2.toNatClampNeg))) (v2 + 1)
      else none
def X2_contracts (sc_bows : Int32) (sc_aheads : Nat → Int32) : Option (Int32) :=
  X2_contracts_L4 sc_bows sc_aheads FU 0 0
def X5_count (x_found : Nat → Int32) (sc_bows : Int32) (sc_there : Int32) (sc_heard : Int32) (sc_z : Int32) (sc_loves : Nat → Int32) (sc_aheads : Nat → Int32) (sc_spots : Nat → Int32) (tp_size : Int32) (v1 : Int32) : Option (Int32 × (Nat → Int32)) :=
  if v1 = 0 then
    some (sc_there, x_found)
  else
  if v1 = 1 then
    some (sc_bows, x_found)
  else
  if v1 = 2 then
    Option.bind (X2_contracts sc_bows sc_aheads) fun r68 =>
    some (r68, x_found)
  else
  if v1 = 3 then
    some (sc_heard, x_found)
  else
  if v1 = 4 then
    Option.bind (X2_lovesTogether sc_bows sc_loves) fun r84 =>
    some (r84, x_found)
  else
  if v1 = 5 then
    some (tp_size, x_found)
  else
  if v1 = 6 then
    some (sc_z, x_found)
  else
  if v1 = 7 then
    Option.bind (X2_heldSpots sc_spots) fun r108 =>
    some (r108, x_found)
  else
  Option.bind (X5_finding x_found 0) fun r114 =>
  some (r114.1, r114.2)
def X6_count_L64 (m_s : Nat → Int32) (m_found : Nat → Int32) : Nat → Int32 → Int32 → Option (Int32 × (Nat → Int32))
  | 0, _, _ => none
  | n + 1, v2, v3 =>
    if (m_s 3) ≤ v3 then
      some (v2, m_found)
    else
      Option.bind (X6_get m_s v3 3) fun r78 =>
      Option.bind (X6_bits r78) fun r81 =>
      X6_count_L64 m_s m_found n (v2 + r81) (v3 + 1)
def X6_count_L103 (m_s : Nat → Int32) (m_found : Nat → Int32) : Nat → Int32 → Int32 → Option (Int32 × (Nat → Int32))
  | 0, _, _ => none
  | n + 1, v2, v3 =>
    if (m_s 3) ≤ v3 then
      some (v2, m_found)
    else
      Option.bind (X6_get m_s v3 1) fun r117 =>
      X6_count_L103 m_s m_found n (v2 + r117) (v3 + 1)
def X6_count_L144 (m_s : Nat → Int32) (m_found : Nat → Int32) : Nat → Int32 → Int32 → Option (Int32 × (Nat → Int32))
  | 0, _, _ => none
  | n + 1, v2, v3 =>
    if 10 ≤ v3 then
      some (v2, m_found)
    else
      if inr (73 + v3) 83 then
        if (m_s (73 + v3).toNatClampNeg) < 0 then
          X6_count_L144 m_s m_found n (v2 + 0) (v3 + 1)
        else
          X6_count_L144 m_s m_found n (v2 + 1) (v3 + 1)
      else none
def X6_count (m_taped : Int32) (m_s : Nat → Int32) (m_found : Nat → Int32) (v1 : Int32) : Option (Int32 × (Nat → Int32)) :=
  if v1 = 0 then
    some ((m_s 2), m_found)
  else
  if v1 = 1 then
    some ((m_s 3), m_found)
  else
  if v1 = 2 then
    X6_count_L64 m_s m_found FU 0 0
  else
  if v1 = 3 then
    some ((m_s 0), m_found)
  else
  if v1 = 4 then
    X6_count_L103 m_s m_found FU 0 0
  else
  if v1 = 5 then
    some (m_taped, m_found)
  else
  if v1 = 6 then
    some ((m_s 4), m_found)
  else
  if v1 = 7 then
    X6_count_L144 m_s m_found FU 0 0
  else
  Option.bind (X6_no m_found 0) fun r180 =>
  some (r180.1, r180.2)
def X5_status_L31 (x_found : Nat → Int32) : Nat → Int32 → Int32 → Option (Int32 × (Nat → Int32))
  | 0, _, _ => none
  | n + 1, v2, v3 =>
    if 7 ≤ v3 then
      some (v2, x_found)
    else
      if inr v3 7 then
        X5_status_L31 x_found n (v2 + (x_found v3.toNatClampNeg)) (v3 + 1)
      else none
def X5_status (x_found : Nat → Int32) (v1 : Int32) : Option (Int32 × (Nat → Int32)) :=
  if (xb (X5_isIn v1 (-1) 6)) = 0 then
    Option.bind (X5_finding x_found 0) fun r12 =>
    some (r12.1, r12.2)
  else
    if v1 < 0 then
      X5_status_L31 x_found FU 0 0
    else
      if inr v1 7 then
        some ((x_found v1.toNatClampNeg), x_found)
      else none
def X6_status_L20 (m_found : Nat → Int32) : Nat → Int32 → Int32 → Int32 → Option (Int32 × (Nat → Int32))
  | 0, _, _, _ => none
  | n + 1, v1, v2, v3 =>
    if 7 ≤ v3 then
      some (v2, m_found)
    else
      if v1 = (-1) then
        if inr v3 7 then
          X6_status_L20 m_found n v1 (v2 + (m_found v3.toNatClampNeg)) (v3 + 1)
        else none
      else
        if v1 = v3 then
          if inr v3 7 then
            X6_status_L20 m_found n v1 (v2 + (m_found v3.toNatClampNeg)) (v3 + 1)
          else none
        else
          X6_status_L20 m_found n v1 (v2 + 0) (v3 + 1)
def X6_status (m_found : Nat → Int32) (v1 : Int32) : Option (Int32 × (Nat → Int32)) :=
  if (xb (X6_in1 v1 (-1) 6)) = 0 then
    Option.bind (X6_no m_found 0) fun r12 =>
    some (r12.1, r12.2)
  else
    X6_status_L20 m_found FU v1 0 0
