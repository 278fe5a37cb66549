/-! what each method does, in plain functions: printed by wip/gen from the bytecode -/
def m_X0_nextOf (mo_nexts : (Nat → Int32)) (p0 : Int32) : Option Int32 :=
  if p0 < 0 then
    some (0 : Int32)
  else
    if (8 : Int32) ≤ p0 then
      some (0 : Int32)
    else
      if inI p0 8 then
      some (mo_nexts (p0).toNatClampNeg)
      else none

def m_X0_hasTask (mo_tasks : Int32) (p0 : Int32) : Option Int32 :=
  if p0 < 0 then
    some (0 : Int32)
  else
    if mo_tasks ≤ p0 then
      some (0 : Int32)
    else
      some (1 : Int32)

def lp_X0_canBeLaid_2 (mo_tasks : Int32) (mo_nexts : (Nat → Int32)) : Nat → Int32 → Option (Unit ⊕ Unit)
  | 0, _ => none
  | n + 1, v1 =>
    if mo_tasks ≤ v1 then
      some (Sum.inl ())
    else
      (m_X0_nextOf mo_nexts v1).bind fun r2 =>
      (m_X0_hasTask mo_tasks r2).bind fun r4 =>
      if r4 = 0 then
        some (Sum.inr ())
      else
        lp_X0_canBeLaid_2 mo_tasks mo_nexts n (v1 + 1)

def m_X0_canBeLaid (N : Nat) (mo_tasks : Int32) (mo_nexts : (Nat → Int32)) : Option Int32 :=
  (lp_X0_canBeLaid_2 mo_tasks mo_nexts N (0 : Int32)).bind
    (Sum.elim (fun u9 =>
      if mo_tasks ≤ 0 then
        some (0 : Int32)
      else
        some (1 : Int32))
    (fun u11 =>
      some (0 : Int32)))

def m_X5_setNumber (row_len : Nat) (row : (Nat → Int32)) (p1 : Int32) (p2 : Int32) : Option (Nat → Int32) :=
  if p1 < 0 then
    some row
  else
    if (Int32.ofNat row_len) ≤ p1 then
      some row
    else
      if inI p1 row_len then
      some (upd row (p1).toNatClampNeg p2)
      else none

def lp_X0_clear_29  : Nat → Int32 → (Nat → Int32) → Option (Nat → Int32)
  | 0, _, _ => none
  | n + 1, v1, mo_helpersOfKind =>
    if (5 : Int32) ≤ v1 then
      some mo_helpersOfKind
    else
      (m_X5_setNumber 5 mo_helpersOfKind v1 (0 : Int32)).bind fun r2 =>
      lp_X0_clear_29 n (v1 + 1) r2

def m_X0_clear (N : Nat) (mo_helpersOfKind : (Nat → Int32)) : Option (Int32 × Int32 × Int32 × Int32 × Int32 × (Nat → Int32)) :=
  (lp_X0_clear_29 N (0 : Int32) mo_helpersOfKind).bind fun r4 =>
  some ((0 : Int32), (0 : Int32), (0 : Int32), (20 : Int32), (30 : Int32), r4)

def m_X0_daysOf (mo_days : (Nat → Int32)) (p0 : Int32) : Option Int32 :=
  if p0 < 0 then
    some (0 : Int32)
  else
    if (8 : Int32) ≤ p0 then
      some (0 : Int32)
    else
      if inI p0 8 then
      some (mo_days (p0).toNatClampNeg)
      else none

def m_X0_letterAt (tx_len : Nat) (tx : (Nat → Int32)) (p1 : Int32) (p2 : Int32) : Option Int32 :=
  if p2 < 0 then
    some (-4 : Int32)
  else
    if p1 ≤ p2 then
      some (-4 : Int32)
    else
      if (Int32.ofNat tx_len) ≤ p2 then
        some (-4 : Int32)
      else
        if inI p2 tx_len then
        some (tx (p2).toNatClampNeg)
        else none

def m_X0_isFigure (p0 : Int32) : Option Int32 :=
  if p0 < (48 : Int32) then
    some (0 : Int32)
  else
    if (57 : Int32) < p0 then
      some (0 : Int32)
    else
      some (1 : Int32)

def m_X0_figuresAt (tx_len : Nat) (tx : (Nat → Int32)) (p1 : Int32) (p2 : Int32) : Option Int32 :=
  (m_X0_letterAt tx_len tx p1 p2).bind fun r1 =>
  (m_X0_isFigure r1).bind fun r3 =>
  if r3 = 0 then
    some (0 : Int32)
  else
    (m_X0_letterAt tx_len tx p1 (p2 + (1 : Int32))).bind fun r6 =>
    (m_X0_isFigure r6).bind fun r8 =>
    if r8 = 0 then
      some (1 : Int32)
    else
      some (2 : Int32)

def m_X0_hasHelper (mo_helpers : Int32) (p0 : Int32) : Option Int32 :=
  if p0 < 0 then
    some (0 : Int32)
  else
    if mo_helpers ≤ p0 then
      some (0 : Int32)
    else
      some (1 : Int32)

def m_X0_helpKindOf (mo_helpKinds : (Nat → Int32)) (p0 : Int32) : Option Int32 :=
  if p0 < 0 then
    some (0 : Int32)
  else
    if (8 : Int32) ≤ p0 then
      some (0 : Int32)
    else
      if inI p0 8 then
      some (mo_helpKinds (p0).toNatClampNeg)
      else none

def m_X5_bit (p0 : Int32) : Option Int32 :=
  some ((1 : Int32) <<< (p0 &&& 31))

def m_X0_kindOf (mo_kinds : (Nat → Int32)) (p0 : Int32) : Option Int32 :=
  if p0 < 0 then
    some (0 : Int32)
  else
    if (8 : Int32) ≤ p0 then
      some (0 : Int32)
    else
      if inI p0 8 then
      some (mo_kinds (p0).toNatClampNeg)
      else none

def lp_X0_helpOfAny_4 (v1 : Int32) (mo_tasks : Int32) (mo_kinds : (Nat → Int32)) : Nat → Int32 → Int32 → Option Int32
  | 0, _, _ => none
  | n + 1, v2, v3 =>
    if mo_tasks ≤ v3 then
      some v2
    else
      (m_X5_bit v3).bind fun r2 =>
      if (v1 &&& r2) = 0 then
        lp_X0_helpOfAny_4 v1 mo_tasks mo_kinds n (v2 + (0 : Int32)) (v3 + 1)
      else
        (m_X0_kindOf mo_kinds v3).bind fun r5 =>
        if r5 = (3 : Int32) then
          lp_X0_helpOfAny_4 v1 mo_tasks mo_kinds n (v2 + (1 : Int32)) (v3 + 1)
        else
          lp_X0_helpOfAny_4 v1 mo_tasks mo_kinds n (v2 + (0 : Int32)) (v3 + 1)

def m_X0_helpOfAny (N : Nat) (mo_tasks : Int32) (mo_kinds : (Nat → Int32)) (p0 : Int32) : Option Int32 :=
  (lp_X0_helpOfAny_4 p0 mo_tasks mo_kinds N (0 : Int32) (0 : Int32)).bind fun r8 =>
  some r8

def lp_X0_helpOfKind_5 (v1 : Int32) (v2 : Int32) (mo_tasks : Int32) (mo_kinds : (Nat → Int32)) (mo_helpKinds : (Nat → Int32)) : Nat → Int32 → Int32 → Option Int32
  | 0, _, _ => none
  | n + 1, v3, v4 =>
    if mo_tasks ≤ v4 then
      some v3
    else
      (m_X5_bit v4).bind fun r2 =>
      if (v1 &&& r2) = 0 then
        lp_X0_helpOfKind_5 v1 v2 mo_tasks mo_kinds mo_helpKinds n v3 (v4 + 1)
      else
        (m_X0_helpKindOf mo_helpKinds v4).bind fun r5 =>
        if r5 = v2 then
          (m_X0_kindOf mo_kinds v4).bind fun r8 =>
          if r8 = (2 : Int32) then
            lp_X0_helpOfKind_5 v1 v2 mo_tasks mo_kinds mo_helpKinds n v3 (v4 + 1)
          else
            (m_X0_kindOf mo_kinds v4).bind fun r11 =>
            if r11 = (1 : Int32) then
              lp_X0_helpOfKind_5 v1 v2 mo_tasks mo_kinds mo_helpKinds n (v3 + (2 : Int32)) (v4 + 1)
            else
              lp_X0_helpOfKind_5 v1 v2 mo_tasks mo_kinds mo_helpKinds n (v3 + (1 : Int32)) (v4 + 1)
        else
          lp_X0_helpOfKind_5 v1 v2 mo_tasks mo_kinds mo_helpKinds n v3 (v4 + 1)

def m_X0_helpOfKind (N : Nat) (mo_tasks : Int32) (mo_kinds : (Nat → Int32)) (mo_helpKinds : (Nat → Int32)) (p0 : Int32) (p1 : Int32) : Option Int32 :=
  (lp_X0_helpOfKind_5 p0 p1 mo_tasks mo_kinds mo_helpKinds N (0 : Int32) (0 : Int32)).bind fun r14 =>
  some r14

def m_X0_helperKindOf (mo_helperKinds : (Nat → Int32)) (p0 : Int32) : Option Int32 :=
  if p0 < 0 then
    some (0 : Int32)
  else
    if (7 : Int32) ≤ p0 then
      some (0 : Int32)
    else
      if inI p0 7 then
      some (mo_helperKinds (p0).toNatClampNeg)
      else none

def m_X0_helpersOf (mo_helpersOfKind : (Nat → Int32)) (p0 : Int32) : Option Int32 :=
  if p0 < 0 then
    some (0 : Int32)
  else
    if (5 : Int32) ≤ p0 then
      some (0 : Int32)
    else
      if inI p0 5 then
      some (mo_helpersOfKind (p0).toNatClampNeg)
      else none

def m_J6_bitCount_0f7a4 (p0 : Int32) : Option Int32 :=
  (some (p0 - ((((p0).toUInt32 >>> (((1 : Int32)).toUInt32 &&& Int32.toUInt32 31)).toInt32) &&& (1431655765 : Int32)))).bind fun y1 =>
  (some ((y1 &&& (858993459 : Int32)) + ((((y1).toUInt32 >>> (((2 : Int32)).toUInt32 &&& Int32.toUInt32 31)).toInt32) &&& (858993459 : Int32)))).bind fun y3 =>
  (some ((y3 + (((y3).toUInt32 >>> (((4 : Int32)).toUInt32 &&& Int32.toUInt32 31)).toInt32)) &&& (252645135 : Int32))).bind fun y5 =>
  (some (y5 + (((y5).toUInt32 >>> (((8 : Int32)).toUInt32 &&& Int32.toUInt32 31)).toInt32))).bind fun y7 =>
  (some (y7 + (((y7).toUInt32 >>> (((16 : Int32)).toUInt32 &&& Int32.toUInt32 31)).toInt32))).bind fun y9 =>
  some (y9 &&& (63 : Int32))

def lp_X0_isHelpEnough_14 (N : Nat) (v1 : Int32) (v2 : Int32) (mo_tasks : Int32) (mo_kinds : (Nat → Int32)) (mo_helpKinds : (Nat → Int32)) (mo_helpersOfKind : (Nat → Int32)) : Nat → Int32 → Int32 → Option (Int32 ⊕ Unit)
  | 0, _, _ => none
  | n + 1, v3, v4 =>
    if (5 : Int32) ≤ v4 then
      some (Sum.inl v3)
    else
      (m_X0_helpOfKind N mo_tasks mo_kinds mo_helpKinds v1 v4).bind fun r6 =>
      (m_X0_helpersOf mo_helpersOfKind v4).bind fun r8 =>
      (m_J6_bitCount_0f7a4 (v2 &&& r8)).bind fun r10 =>
      if r6 ≤ r10 then
        lp_X0_isHelpEnough_14 N v1 v2 mo_tasks mo_kinds mo_helpKinds mo_helpersOfKind n (v3 - r6) (v4 + 1)
      else
        some (Sum.inr ())

def m_X0_isHelpEnough (N : Nat) (mo_tasks : Int32) (mo_kinds : (Nat → Int32)) (mo_helpKinds : (Nat → Int32)) (mo_helpersOfKind : (Nat → Int32)) (p0 : Int32) (p1 : Int32) : Option Int32 :=
  (m_J6_bitCount_0f7a4 p1).bind fun r1 =>
  (m_X0_helpOfAny N mo_tasks mo_kinds p0).bind fun r3 =>
  (lp_X0_isHelpEnough_14 N p0 p1 mo_tasks mo_kinds mo_helpKinds mo_helpersOfKind N (r1 - r3) (0 : Int32)).bind
    (Sum.elim (fun u15 =>
      if u15 < 0 then
        some (0 : Int32)
      else
        some (1 : Int32))
    (fun u17 =>
      some (0 : Int32)))

def m_X0_numbersBehind (p0 : Int32) : Option Int32 :=
  if p0 = (97 : Int32) then
    some (1 : Int32)
  else
  if p0 = (99 : Int32) then
    some (1 : Int32)
  else
  if p0 = (104 : Int32) then
    some (2 : Int32)
  else
  if p0 = (108 : Int32) then
    some (1 : Int32)
  else
  if p0 = (116 : Int32) then
    some (4 : Int32)
  else
    some (0 : Int32)

def m_X0_priceOf (mo_prices : (Nat → Int32)) (p0 : Int32) : Option Int32 :=
  if p0 < 0 then
    some (0 : Int32)
  else
    if (7 : Int32) ≤ p0 then
      some (0 : Int32)
    else
      if inI p0 7 then
      some (mo_prices (p0).toNatClampNeg)
      else none

def lp_X0_priceOfSet_4 (v1 : Int32) (mo_helpers : Int32) (mo_prices : (Nat → Int32)) : Nat → Int32 → Int32 → Option Int32
  | 0, _, _ => none
  | n + 1, v2, v3 =>
    if mo_helpers ≤ v3 then
      some v2
    else
      (m_X5_bit v3).bind fun r2 =>
      if (v1 &&& r2) = 0 then
        lp_X0_priceOfSet_4 v1 mo_helpers mo_prices n v2 (v3 + 1)
      else
        (m_X0_priceOf mo_prices v3).bind fun r5 =>
        lp_X0_priceOfSet_4 v1 mo_helpers mo_prices n (v2 + r5) (v3 + 1)

def m_X0_priceOfSet (N : Nat) (mo_helpers : Int32) (mo_prices : (Nat → Int32)) (p0 : Int32) : Option Int32 :=
  (lp_X0_priceOfSet_4 p0 mo_helpers mo_prices N (0 : Int32) (0 : Int32)).bind fun r7 =>
  some r7

def m_X0_readNumber (tx_len : Nat) (tx : (Nat → Int32)) (p1 : Int32) (p2 : Int32) (p3 : Int32) : Option Int32 :=
  (m_X0_letterAt tx_len tx p1 p2).bind fun r1 =>
  if p3 = (1 : Int32) then
    some (r1 - (48 : Int32))
  else
    (m_X0_letterAt tx_len tx p1 (p2 + (1 : Int32))).bind fun r4 =>
    some ((((r1 - (48 : Int32)) * (10 : Int32)) + r4) - (48 : Int32))

def m_X5_numberAt (row_len : Nat) (row : (Nat → Int32)) (p1 : Int32) : Option Int32 :=
  if p1 < 0 then
    some (0 : Int32)
  else
    if (Int32.ofNat row_len) ≤ p1 then
      some (0 : Int32)
    else
      if inI p1 row_len then
      some (row (p1).toNatClampNeg)
      else none

def m_X0_takeHelper (mo_helpers : Int32) (mo_helperKinds : (Nat → Int32)) (mo_prices : (Nat → Int32)) (mo_helpersOfKind : (Nat → Int32)) (mo_numbers : (Nat → Int32)) : Option (Int32 × Int32 × (Nat → Int32) × (Nat → Int32) × (Nat → Int32)) :=
  (m_X5_numberAt 4 mo_numbers (0 : Int32)).bind fun r1 =>
  (m_X5_numberAt 4 mo_numbers (1 : Int32)).bind fun r3 =>
  if (7 : Int32) ≤ mo_helpers then
    some ((0 : Int32), mo_helpers, mo_helperKinds, mo_prices, mo_helpersOfKind)
  else
    if (5 : Int32) ≤ r1 then
      some ((0 : Int32), mo_helpers, mo_helperKinds, mo_prices, mo_helpersOfKind)
    else
      if r3 ≤ (20 : Int32) then
        (m_X5_setNumber 7 mo_helperKinds mo_helpers r1).bind fun r8 =>
        (m_X5_setNumber 7 mo_prices mo_helpers r3).bind fun r10 =>
        (m_X0_helpersOf mo_helpersOfKind r1).bind fun r12 =>
        (m_X5_bit mo_helpers).bind fun r14 =>
        (m_X5_setNumber 5 mo_helpersOfKind r1 (r12 ||| r14)).bind fun r16 =>
        some ((1 : Int32), (mo_helpers + (1 : Int32)), r8, r10, r16)
      else
        some ((0 : Int32), mo_helpers, mo_helperKinds, mo_prices, mo_helpersOfKind)

def m_X0_takeTask (mo_tasks : Int32) (mo_kinds : (Nat → Int32)) (mo_days : (Nat → Int32)) (mo_rideDays : (Nat → Int32)) (mo_helpKinds : (Nat → Int32)) (mo_nexts : (Nat → Int32)) (mo_numbers : (Nat → Int32)) : Option (Int32 × Int32 × (Nat → Int32) × (Nat → Int32) × (Nat → Int32) × (Nat → Int32) × (Nat → Int32)) :=
  (m_X5_numberAt 4 mo_numbers (0 : Int32)).bind fun r1 =>
  (m_X5_numberAt 4 mo_numbers (1 : Int32)).bind fun r3 =>
  (m_X5_numberAt 4 mo_numbers (2 : Int32)).bind fun r5 =>
  (m_X5_numberAt 4 mo_numbers (3 : Int32)).bind fun r7 =>
  if (8 : Int32) ≤ mo_tasks then
    some ((0 : Int32), mo_tasks, mo_kinds, mo_days, mo_rideDays, mo_helpKinds, mo_nexts)
  else
    if (4 : Int32) < r1 then
      some ((0 : Int32), mo_tasks, mo_kinds, mo_days, mo_rideDays, mo_helpKinds, mo_nexts)
    else
      if (9 : Int32) < r3 then
        some ((0 : Int32), mo_tasks, mo_kinds, mo_days, mo_rideDays, mo_helpKinds, mo_nexts)
      else
        if (5 : Int32) < r5 then
          some ((0 : Int32), mo_tasks, mo_kinds, mo_days, mo_rideDays, mo_helpKinds, mo_nexts)
        else
          if r7 ≤ (7 : Int32) then
            (m_X5_setNumber 8 mo_kinds mo_tasks r1).bind fun r14 =>
            (m_X5_setNumber 8 mo_days mo_tasks r3).bind fun r16 =>
            if r1 = (2 : Int32) then
              (m_X5_setNumber 8 mo_rideDays mo_tasks (0 : Int32)).bind fun r25 =>
              (m_X5_setNumber 8 mo_helpKinds mo_tasks r5).bind fun r27 =>
              (m_X5_setNumber 8 mo_nexts mo_tasks r7).bind fun r29 =>
              some ((1 : Int32), (mo_tasks + (1 : Int32)), r14, r16, r25, r27, r29)
            else
              (m_X5_setNumber 8 mo_rideDays mo_tasks r3).bind fun r19 =>
              (m_X5_setNumber 8 mo_helpKinds mo_tasks r5).bind fun r21 =>
              (m_X5_setNumber 8 mo_nexts mo_tasks r7).bind fun r23 =>
              some ((1 : Int32), (mo_tasks + (1 : Int32)), r14, r16, r19, r21, r23)
          else
            some ((0 : Int32), mo_tasks, mo_kinds, mo_days, mo_rideDays, mo_helpKinds, mo_nexts)

def m_X0_takeItem (mo_tasks : Int32) (mo_helpers : Int32) (mo_askedFirst : Int32) (mo_crumbsFirst : Int32) (mo_lastDay : Int32) (mo_kinds : (Nat → Int32)) (mo_days : (Nat → Int32)) (mo_rideDays : (Nat → Int32)) (mo_helpKinds : (Nat → Int32)) (mo_nexts : (Nat → Int32)) (mo_helperKinds : (Nat → Int32)) (mo_prices : (Nat → Int32)) (mo_helpersOfKind : (Nat → Int32)) (mo_numbers : (Nat → Int32)) (p0 : Int32) : Option (Int32 × Int32 × Int32 × Int32 × Int32 × Int32 × (Nat → Int32) × (Nat → Int32) × (Nat → Int32) × (Nat → Int32) × (Nat → Int32) × (Nat → Int32) × (Nat → Int32) × (Nat → Int32)) :=
  (m_X5_numberAt 4 mo_numbers (0 : Int32)).bind fun r1 =>
  if p0 = (97 : Int32) then
    (m_X0_hasTask mo_tasks r1).bind fun r4 =>
    if r4 = 0 then
      some ((0 : Int32), mo_tasks, mo_helpers, mo_askedFirst, mo_crumbsFirst, mo_lastDay, mo_kinds, mo_days, mo_rideDays, mo_helpKinds, mo_nexts, mo_helperKinds, mo_prices, mo_helpersOfKind)
    else
      (m_X5_bit r1).bind fun r7 =>
      some ((1 : Int32), mo_tasks, mo_helpers, (mo_askedFirst ||| r7), mo_crumbsFirst, mo_lastDay, mo_kinds, mo_days, mo_rideDays, mo_helpKinds, mo_nexts, mo_helperKinds, mo_prices, mo_helpersOfKind)
  else
  if p0 = (99 : Int32) then
    if (99 : Int32) < r1 then
      some ((0 : Int32), mo_tasks, mo_helpers, mo_askedFirst, r1, mo_lastDay, mo_kinds, mo_days, mo_rideDays, mo_helpKinds, mo_nexts, mo_helperKinds, mo_prices, mo_helpersOfKind)
    else
      some ((1 : Int32), mo_tasks, mo_helpers, mo_askedFirst, r1, mo_lastDay, mo_kinds, mo_days, mo_rideDays, mo_helpKinds, mo_nexts, mo_helperKinds, mo_prices, mo_helpersOfKind)
  else
  if p0 = (104 : Int32) then
    (m_X0_takeHelper mo_helpers mo_helperKinds mo_prices mo_helpersOfKind mo_numbers).bind fun r12 =>
    if isB r12.1 then some (r12.1, mo_tasks, r12.2.1, mo_askedFirst, mo_crumbsFirst, mo_lastDay, mo_kinds, mo_days, mo_rideDays, mo_helpKinds, mo_nexts, r12.2.2.1, r12.2.2.2.1, r12.2.2.2.2) else none
  else
  if p0 = (108 : Int32) then
    if r1 < (1 : Int32) then
      some ((0 : Int32), mo_tasks, mo_helpers, mo_askedFirst, mo_crumbsFirst, r1, mo_kinds, mo_days, mo_rideDays, mo_helpKinds, mo_nexts, mo_helperKinds, mo_prices, mo_helpersOfKind)
    else
      if (60 : Int32) < r1 then
        some ((0 : Int32), mo_tasks, mo_helpers, mo_askedFirst, mo_crumbsFirst, r1, mo_kinds, mo_days, mo_rideDays, mo_helpKinds, mo_nexts, mo_helperKinds, mo_prices, mo_helpersOfKind)
      else
        some ((1 : Int32), mo_tasks, mo_helpers, mo_askedFirst, mo_crumbsFirst, r1, mo_kinds, mo_days, mo_rideDays, mo_helpKinds, mo_nexts, mo_helperKinds, mo_prices, mo_helpersOfKind)
  else
  if p0 = (116 : Int32) then
    (m_X0_takeTask mo_tasks mo_kinds mo_days mo_rideDays mo_helpKinds mo_nexts mo_numbers).bind fun r18 =>
    if isB r18.1 then some (r18.1, r18.2.1, mo_helpers, mo_askedFirst, mo_crumbsFirst, mo_lastDay, r18.2.2.1, r18.2.2.2.1, r18.2.2.2.2.1, r18.2.2.2.2.2.1, r18.2.2.2.2.2.2, mo_helperKinds, mo_prices, mo_helpersOfKind) else none
  else
    some ((0 : Int32), mo_tasks, mo_helpers, mo_askedFirst, mo_crumbsFirst, mo_lastDay, mo_kinds, mo_days, mo_rideDays, mo_helpKinds, mo_nexts, mo_helperKinds, mo_prices, mo_helpersOfKind)

def lp_X0_readItem_23 (v2 : Int32) (v5 : Int32) (tx_len : Nat) (tx : (Nat → Int32)) : Nat → Int32 → Int32 → (Nat → Int32) → Option ((Int32 × (Nat → Int32)) ⊕ ((Nat → Int32) ⊕ (Nat → Int32)))
  | 0, _, _, _ => none
  | n + 1, v6, v7, mo_numbers =>
    if v5 ≤ v7 then
      some (Sum.inl (v6, mo_numbers))
    else
      (m_X0_figuresAt tx_len tx v2 v6).bind fun r6 =>
      if (1 : Int32) ≤ r6 then
        (m_X0_readNumber tx_len tx v2 v6 r6).bind fun r9 =>
        (m_X5_setNumber 4 mo_numbers v7 r9).bind fun r11 =>
        (m_X0_letterAt tx_len tx v2 (v6 + r6)).bind fun r13 =>
        if v5 ≤ (v7 + (1 : Int32)) then
          if r13 = (59 : Int32) then
            lp_X0_readItem_23 v2 v5 tx_len tx n ((v6 + r6) + 1) (v7 + 1) r11
          else
            some (Sum.inr (Sum.inl r11))
        else
          if r13 = (44 : Int32) then
            lp_X0_readItem_23 v2 v5 tx_len tx n ((v6 + r6) + 1) (v7 + 1) r11
          else
            some (Sum.inr (Sum.inl r11))
      else
        some (Sum.inr (Sum.inr mo_numbers))

def m_X0_readItem (N : Nat) (mo_tasks : Int32) (mo_helpers : Int32) (mo_askedFirst : Int32) (mo_crumbsFirst : Int32) (mo_lastDay : Int32) (mo_kinds : (Nat → Int32)) (mo_days : (Nat → Int32)) (mo_rideDays : (Nat → Int32)) (mo_helpKinds : (Nat → Int32)) (mo_nexts : (Nat → Int32)) (mo_helperKinds : (Nat → Int32)) (mo_prices : (Nat → Int32)) (mo_helpersOfKind : (Nat → Int32)) (mo_numbers : (Nat → Int32)) (tx_len : Nat) (tx : (Nat → Int32)) (p1 : Int32) (p2 : Int32) : Option (Int32 × Int32 × Int32 × Int32 × Int32 × Int32 × (Nat → Int32) × (Nat → Int32) × (Nat → Int32) × (Nat → Int32) × (Nat → Int32) × (Nat → Int32) × (Nat → Int32) × (Nat → Int32) × (Nat → Int32)) :=
  (m_X0_letterAt tx_len tx p1 p2).bind fun r1 =>
  (m_X0_numbersBehind r1).bind fun r3 =>
  (lp_X0_readItem_23 p1 r3 tx_len tx N (p2 + (1 : Int32)) (0 : Int32) mo_numbers).bind
    (Sum.elim (fun u20 =>
      (m_X0_takeItem mo_tasks mo_helpers mo_askedFirst mo_crumbsFirst mo_lastDay mo_kinds mo_days mo_rideDays mo_helpKinds mo_nexts mo_helperKinds mo_prices mo_helpersOfKind u20.2 r1).bind fun r21 =>
      if r21.1 = 0 then
        some ((-2 : Int32), r21.2.1, r21.2.2.1, r21.2.2.2.1, r21.2.2.2.2.1, r21.2.2.2.2.2.1, r21.2.2.2.2.2.2.1, r21.2.2.2.2.2.2.2.1, r21.2.2.2.2.2.2.2.2.1, r21.2.2.2.2.2.2.2.2.2.1, r21.2.2.2.2.2.2.2.2.2.2.1, r21.2.2.2.2.2.2.2.2.2.2.2.1, r21.2.2.2.2.2.2.2.2.2.2.2.2.1, r21.2.2.2.2.2.2.2.2.2.2.2.2.2, u20.2)
      else
        some (u20.1, r21.2.1, r21.2.2.1, r21.2.2.2.1, r21.2.2.2.2.1, r21.2.2.2.2.2.1, r21.2.2.2.2.2.2.1, r21.2.2.2.2.2.2.2.1, r21.2.2.2.2.2.2.2.2.1, r21.2.2.2.2.2.2.2.2.2.1, r21.2.2.2.2.2.2.2.2.2.2.1, r21.2.2.2.2.2.2.2.2.2.2.2.1, r21.2.2.2.2.2.2.2.2.2.2.2.2.1, r21.2.2.2.2.2.2.2.2.2.2.2.2.2, u20.2))
    (Sum.elim (fun u24 =>
      some ((-2 : Int32), mo_tasks, mo_helpers, mo_askedFirst, mo_crumbsFirst, mo_lastDay, mo_kinds, mo_days, mo_rideDays, mo_helpKinds, mo_nexts, mo_helperKinds, mo_prices, mo_helpersOfKind, u24))
    (fun u25 =>
      some ((-2 : Int32), mo_tasks, mo_helpers, mo_askedFirst, mo_crumbsFirst, mo_lastDay, mo_kinds, mo_days, mo_rideDays, mo_helpKinds, mo_nexts, mo_helperKinds, mo_prices, mo_helpersOfKind, u25))))

def lp_X0_readFrom_6 (N : Nat) (v2 : Int32) (tx_len : Nat) (tx : (Nat → Int32)) : Nat → Int32 → Int32 → Int32 → Int32 → Int32 → Int32 → (Nat → Int32) → (Nat → Int32) → (Nat → Int32) → (Nat → Int32) → (Nat → Int32) → (Nat → Int32) → (Nat → Int32) → (Nat → Int32) → (Nat → Int32) → Option ((Int32 × Int32 × Int32 × Int32 × Int32 × (Nat → Int32) × (Nat → Int32) × (Nat → Int32) × (Nat → Int32) × (Nat → Int32) × (Nat → Int32) × (Nat → Int32) × (Nat → Int32) × (Nat → Int32)) ⊕ (Int32 × Int32 × Int32 × Int32 × Int32 × Int32 × (Nat → Int32) × (Nat → Int32) × (Nat → Int32) × (Nat → Int32) × (Nat → Int32) × (Nat → Int32) × (Nat → Int32) × (Nat → Int32) × (Nat → Int32)))
  | 0, _, _, _, _, _, _, _, _, _, _, _, _, _, _, _ => none
  | n + 1, v3, mo_tasks, mo_helpers, mo_askedFirst, mo_crumbsFirst, mo_lastDay, mo_kinds, mo_days, mo_rideDays, mo_helpKinds, mo_nexts, mo_helperKinds, mo_prices, mo_helpersOfKind, mo_numbers =>
    if v2 ≤ v3 then
      some (Sum.inl (mo_tasks, mo_helpers, mo_askedFirst, mo_crumbsFirst, mo_lastDay, mo_kinds, mo_days, mo_rideDays, mo_helpKinds, mo_nexts, mo_helperKinds, mo_prices, mo_helpersOfKind, mo_numbers))
    else
      (m_X0_readItem N mo_tasks mo_helpers mo_askedFirst mo_crumbsFirst mo_lastDay mo_kinds mo_days mo_rideDays mo_helpKinds mo_nexts mo_helperKinds mo_prices mo_helpersOfKind mo_numbers tx_len tx v2 v3).bind fun r4 =>
      if v3 < r4.1 then
        lp_X0_readFrom_6 N v2 tx_len tx n r4.1 r4.2.1 r4.2.2.1 r4.2.2.2.1 r4.2.2.2.2.1 r4.2.2.2.2.2.1 r4.2.2.2.2.2.2.1 r4.2.2.2.2.2.2.2.1 r4.2.2.2.2.2.2.2.2.1 r4.2.2.2.2.2.2.2.2.2.1 r4.2.2.2.2.2.2.2.2.2.2.1 r4.2.2.2.2.2.2.2.2.2.2.2.1 r4.2.2.2.2.2.2.2.2.2.2.2.2.1 r4.2.2.2.2.2.2.2.2.2.2.2.2.2.1 r4.2.2.2.2.2.2.2.2.2.2.2.2.2.2
      else
        some (Sum.inr (v3, r4.2.1, r4.2.2.1, r4.2.2.2.1, r4.2.2.2.2.1, r4.2.2.2.2.2.1, r4.2.2.2.2.2.2.1, r4.2.2.2.2.2.2.2.1, r4.2.2.2.2.2.2.2.2.1, r4.2.2.2.2.2.2.2.2.2.1, r4.2.2.2.2.2.2.2.2.2.2.1, r4.2.2.2.2.2.2.2.2.2.2.2.1, r4.2.2.2.2.2.2.2.2.2.2.2.2.1, r4.2.2.2.2.2.2.2.2.2.2.2.2.2.1, r4.2.2.2.2.2.2.2.2.2.2.2.2.2.2))

def m_X0_readFrom (N : Nat) (mo_kinds : (Nat → Int32)) (mo_days : (Nat → Int32)) (mo_rideDays : (Nat → Int32)) (mo_helpKinds : (Nat → Int32)) (mo_nexts : (Nat → Int32)) (mo_helperKinds : (Nat → Int32)) (mo_prices : (Nat → Int32)) (mo_helpersOfKind : (Nat → Int32)) (mo_numbers : (Nat → Int32)) (tx_len : Nat) (tx : (Nat → Int32)) (p1 : Int32) : Option (Int32 × Int32 × Int32 × Int32 × Int32 × Int32 × (Nat → Int32) × (Nat → Int32) × (Nat → Int32) × (Nat → Int32) × (Nat → Int32) × (Nat → Int32) × (Nat → Int32) × (Nat → Int32) × (Nat → Int32)) :=
  (m_X0_clear N mo_helpersOfKind).bind fun r1 =>
  (lp_X0_readFrom_6 N p1 tx_len tx N (0 : Int32) r1.1 r1.2.1 r1.2.2.1 r1.2.2.2.1 r1.2.2.2.2.1 mo_kinds mo_days mo_rideDays mo_helpKinds mo_nexts mo_helperKinds mo_prices r1.2.2.2.2.2 mo_numbers).bind
    (Sum.elim (fun u9 =>
      some ((-4 : Int32), u9.1, u9.2.1, u9.2.2.1, u9.2.2.2.1, u9.2.2.2.2.1, u9.2.2.2.2.2.1, u9.2.2.2.2.2.2.1, u9.2.2.2.2.2.2.2.1, u9.2.2.2.2.2.2.2.2.1, u9.2.2.2.2.2.2.2.2.2.1, u9.2.2.2.2.2.2.2.2.2.2.1, u9.2.2.2.2.2.2.2.2.2.2.2.1, u9.2.2.2.2.2.2.2.2.2.2.2.2.1, u9.2.2.2.2.2.2.2.2.2.2.2.2.2))
    (fun u10 =>
      some (u10.1, u10.2.1, u10.2.2.1, u10.2.2.2.1, u10.2.2.2.2.1, u10.2.2.2.2.2.1, u10.2.2.2.2.2.2.1, u10.2.2.2.2.2.2.2.1, u10.2.2.2.2.2.2.2.2.1, u10.2.2.2.2.2.2.2.2.2.1, u10.2.2.2.2.2.2.2.2.2.2.1, u10.2.2.2.2.2.2.2.2.2.2.2.1, u10.2.2.2.2.2.2.2.2.2.2.2.2.1, u10.2.2.2.2.2.2.2.2.2.2.2.2.2.1, u10.2.2.2.2.2.2.2.2.2.2.2.2.2.2)))

def m_X0_rideDaysOf (mo_rideDays : (Nat → Int32)) (p0 : Int32) : Option Int32 :=
  if p0 < 0 then
    some (0 : Int32)
  else
    if (8 : Int32) ≤ p0 then
      some (0 : Int32)
    else
      if inI p0 8 then
      some (mo_rideDays (p0).toNatClampNeg)
      else none

def lp_X0_rideDaysOfSet_4 (v1 : Int32) (mo_tasks : Int32) (mo_rideDays : (Nat → Int32)) : Nat → Int32 → Int32 → Option Int32
  | 0, _, _ => none
  | n + 1, v2, v3 =>
    if mo_tasks ≤ v3 then
      some v2
    else
      (m_X5_bit v3).bind fun r2 =>
      if (v1 &&& r2) = 0 then
        lp_X0_rideDaysOfSet_4 v1 mo_tasks mo_rideDays n v2 (v3 + 1)
      else
        (m_X0_rideDaysOf mo_rideDays v3).bind fun r5 =>
        lp_X0_rideDaysOfSet_4 v1 mo_tasks mo_rideDays n (v2 + r5) (v3 + 1)

def m_X0_rideDaysOfSet (N : Nat) (mo_tasks : Int32) (mo_rideDays : (Nat → Int32)) (p0 : Int32) : Option Int32 :=
  (lp_X0_rideDaysOfSet_4 p0 mo_tasks mo_rideDays N (0 : Int32) (0 : Int32)).bind fun r7 =>
  some r7

def lp_X0_tasksThatAsk_4 (v1 : Int32) (mo_tasks : Int32) (mo_nexts : (Nat → Int32)) : Nat → Int32 → Int32 → Option Int32
  | 0, _, _ => none
  | n + 1, v2, v3 =>
    if mo_tasks ≤ v3 then
      some v2
    else
      if v3 = v1 then
        lp_X0_tasksThatAsk_4 v1 mo_tasks mo_nexts n v2 (v3 + 1)
      else
        (m_X0_nextOf mo_nexts v3).bind fun r3 =>
        if r3 = v1 then
          (m_X5_bit v3).bind fun r6 =>
          lp_X0_tasksThatAsk_4 v1 mo_tasks mo_nexts n (v2 ||| r6) (v3 + 1)
        else
          lp_X0_tasksThatAsk_4 v1 mo_tasks mo_nexts n v2 (v3 + 1)

def m_X0_tasksThatAsk (N : Nat) (mo_tasks : Int32) (mo_nexts : (Nat → Int32)) (p0 : Int32) : Option Int32 :=
  (lp_X0_tasksThatAsk_4 p0 mo_tasks mo_nexts N (0 : Int32) (0 : Int32)).bind fun r8 =>
  some r8

def m_X1_clear  : Option Int32 :=
  some (0 : Int32)

def lp_X1_dropLowest_2 (pi_len : Nat) : Nat → Int32 → (Nat → Int64) → Option (Nat → Int64)
  | 0, _, _ => none
  | n + 1, v1, pi_held =>
    if (Int32.ofNat pi_len) ≤ v1 then
      some pi_held
    else
      if inI v1 pi_len then
      if inI (v1 - (1 : Int32)) pi_len then
      lp_X1_dropLowest_2 pi_len n (v1 + 1) (vp_updL pi_held ((v1 - (1 : Int32))).toNatClampNeg (pi_held (v1).toNatClampNeg))
      else none
      else none

def m_X1_dropLowest (N : Nat) (pi_len : Nat) (pi_held : (Nat → Int64)) : Option (Int32 × (Nat → Int64)) :=
  (lp_X1_dropLowest_2 pi_len N (1 : Int32) pi_held).bind fun r4 =>
  (some ((Int32.ofNat pi_len) - (1 : Int32))).bind fun y6 =>
  some (y6, r4)

def m_X1_put (N : Nat) (pi_size : Int32) (pi_len : Nat) (pi_held : (Nat → Int64)) (p0 : Int64) : Option (Int32 × (Nat → Int64)) :=
  if pi_size < (Int32.ofNat pi_len) then
    if pi_size < 0 then
      some (pi_size, pi_held)
    else
      if (Int32.ofNat pi_len) ≤ pi_size then
        some (pi_size, pi_held)
      else
        if inI pi_size pi_len then
        some ((pi_size + (1 : Int32)), (vp_updL pi_held (pi_size).toNatClampNeg p0))
        else none
  else
    (m_X1_dropLowest N pi_len pi_held).bind fun r5 =>
    if r5.1 < 0 then
      some (r5.1, r5.2)
    else
      if (Int32.ofNat pi_len) ≤ r5.1 then
        some (r5.1, r5.2)
      else
        if inI r5.1 pi_len then
        some ((r5.1 + (1 : Int32)), (vp_updL r5.2 (r5.1).toNatClampNeg p0))
        else none

def m_X1_takeLatest (pi_size : Int32) (pi_len : Nat) (pi_held : (Nat → Int64)) : Option (Int64 × Int32) :=
  if pi_size < (1 : Int32) then
    some ((0 : Int64), pi_size)
  else
    if pi_size ≤ (Int32.ofNat pi_len) then
      if inI (pi_size - (1 : Int32)) pi_len then
      some ((pi_held ((pi_size - (1 : Int32))).toNatClampNeg), (pi_size - (1 : Int32)))
      else none
    else
      some ((0 : Int64), pi_size)

def m_X3_add (se_size : Int32) (se_lastPlace : Int32) (se_left : (Nat → Int32)) (p0 : Int32) (p1 : Int32) : Option (Int32 × Int32 × (Nat → Int32)) :=
  (m_X5_numberAt 8 se_left (p1 - (1 : Int32))).bind fun r1 =>
  (m_X5_bit p0).bind fun r3 =>
  (m_X5_setNumber 8 se_left (p1 - (1 : Int32)) (r1 &&& r3)).bind fun r5 =>
  (some (if se_lastPlace < p1 then p1 else se_lastPlace)).bind fun y7 =>
  some ((se_size + (1 : Int32)), y7, r5)

def lp_X3_clear_12  : Nat → Int32 → (Nat → Int32) → Option (Nat → Int32)
  | 0, _, _ => none
  | n + 1, v1, se_left =>
    if (8 : Int32) ≤ v1 then
      some se_left
    else
      (m_X5_setNumber 8 se_left v1 (255 : Int32)).bind fun r2 =>
      lp_X3_clear_12 n (v1 + 1) r2

def m_X3_clear (N : Nat) (se_left : (Nat → Int32)) : Option (Int32 × Int32 × (Nat → Int32)) :=
  (lp_X3_clear_12 N (0 : Int32) se_left).bind fun r4 =>
  some ((0 : Int32), (0 : Int32), r4)

def m_X3_isWithin (se_lastPlace : Int32) (p0 : Int32) : Option Int32 :=
  if p0 < se_lastPlace then
    some (0 : Int32)
  else
    some (1 : Int32)

def m_X3_leaves (se_left : (Nat → Int32)) (p0 : Int32) (p1 : Int32) : Option Int32 :=
  (m_X5_numberAt 8 se_left (p1 - (1 : Int32))).bind fun r1 =>
  (m_X5_bit p0).bind fun r3 =>
  if (r1 &&& r3) = 0 then
    some (0 : Int32)
  else
    some (1 : Int32)

def m_X4_packed (st_asked : Int32) (st_brought : Int32) (st_friends : Int32) (st_used : Int32) (st_crumbs : Int32) (st_day : Int32) : Option Int64 :=
  (some (((st_asked ||| (st_brought <<< ((8 : Int32) &&& 31)))).toInt64)).bind fun y1 =>
  (some (((st_friends ||| (st_used <<< ((7 : Int32) &&& 31)))).toInt64)).bind fun y3 =>
  some (((y1 ||| (y3 <<< (((16 : Int32)).toInt64 &&& 63))) ||| (((st_crumbs).toInt64) <<< (((30 : Int32)).toInt64 &&& 63))) ||| (((st_day).toInt64) <<< (((37 : Int32)).toInt64 &&& 63)))

def m_X4_unpack (p0 : Int64) : Option (Int32 × Int32 × Int32 × Int32 × Int32 × Int32) :=
  (some (((p0).toInt32) &&& (255 : Int32))).bind fun y1 =>
  (some ((((p0 >>> (((8 : Int32)).toInt64 &&& 63))).toInt32) &&& (255 : Int32))).bind fun y3 =>
  (some ((((p0 >>> (((16 : Int32)).toInt64 &&& 63))).toInt32) &&& (127 : Int32))).bind fun y5 =>
  (some ((((p0 >>> (((23 : Int32)).toInt64 &&& 63))).toInt32) &&& (127 : Int32))).bind fun y7 =>
  (some ((((p0 >>> (((30 : Int32)).toInt64 &&& 63))).toInt32) &&& (127 : Int32))).bind fun y9 =>
  (some ((((p0 >>> (((37 : Int32)).toInt64 &&& 63))).toInt32) &&& (127 : Int32))).bind fun y11 =>
  some (y1, y3, y5, y7, y9, y11)

def m_X4_openTasks (st_asked : Int32) (st_brought : Int32) : Option Int32 :=
  some (st_asked &&& (st_brought ^^^ (-1 : Int32)))

def lp_X4_tasksToCome_16 (st_brought : Int32) (mo_tasks : Int32) (mo_nexts : (Nat → Int32)) : Nat → Int32 → Int32 → Option Int32
  | 0, _, _ => none
  | n + 1, v2, v4 =>
    if mo_tasks ≤ v4 then
      some v2
    else
      (m_X5_bit v4).bind fun r5 =>
      if (v2 &&& r5) = 0 then
        lp_X4_tasksToCome_16 st_brought mo_tasks mo_nexts n v2 (v4 + 1)
      else
        (m_X0_nextOf mo_nexts v4).bind fun r8 =>
        (m_X5_bit r8).bind fun r10 =>
        (some (v2 ||| (r10 &&& (st_brought ^^^ (-1 : Int32))))).bind fun y12 =>
        lp_X4_tasksToCome_16 st_brought mo_tasks mo_nexts n y12 (v4 + 1)

def lp_X4_tasksToCome_7 (N : Nat) (st_brought : Int32) (mo_tasks : Int32) (mo_nexts : (Nat → Int32)) : Nat → Int32 → Int32 → Option Int32
  | 0, _, _ => none
  | n + 1, v2, v3 =>
    if (8 : Int32) ≤ v3 then
      some v2
    else
      (lp_X4_tasksToCome_16 st_brought mo_tasks mo_nexts N v2 (0 : Int32)).bind fun r14 =>
      lp_X4_tasksToCome_7 N st_brought mo_tasks mo_nexts n r14 (v3 + 1)

def m_X4_tasksToCome (N : Nat) (st_asked : Int32) (st_brought : Int32) (mo_tasks : Int32) (mo_nexts : (Nat → Int32)) : Option Int32 :=
  (m_X4_openTasks st_asked st_brought).bind fun r1 =>
  (lp_X4_tasksToCome_7 N st_brought mo_tasks mo_nexts N r1 (0 : Int32)).bind fun r16 =>
  some r16

def m_X4_freeFriends (st_friends : Int32) (st_used : Int32) : Option Int32 :=
  some (st_friends &&& (st_used ^^^ (-1 : Int32)))

def m_X2_begin (N : Nat) (sr_number : Int64) (mo_tasks : Int32) (mo_lastDay : Int32) (mo_kinds : (Nat → Int32)) (mo_rideDays : (Nat → Int32)) (mo_helpKinds : (Nat → Int32)) (mo_nexts : (Nat → Int32)) (mo_helpersOfKind : (Nat → Int32)) (fr_asked : Int32) (fr_brought : Int32) (fr_friends : Int32) (fr_used : Int32) (fr_crumbs : Int32) (fr_day : Int32) (p2 : Int32) (p4 : Int64) : Option (Int64 × Int64 × Int32 × Int32 × Int32 × Int32 × Int32 × Int32 × Int32) :=
  (m_X4_packed fr_asked fr_brought fr_friends fr_used fr_crumbs fr_day).bind fun r1 =>
  (m_X4_unpack r1).bind fun r3 =>
  (m_X4_tasksToCome N r3.1 r3.2.1 mo_tasks mo_nexts).bind fun r5 =>
  (m_X0_rideDaysOfSet N mo_tasks mo_rideDays r5).bind fun r7 =>
  if mo_lastDay < (r3.2.2.2.2.2 + r7) then
    some ((sr_number + (1 : Int64)), p4, (1 : Int32), r3.1, r3.2.1, (r3.2.2.1 ||| p2), r3.2.2.2.1, r3.2.2.2.2.1, r3.2.2.2.2.2)
  else
    (m_X4_freeFriends (r3.2.2.1 ||| p2) r3.2.2.2.1).bind fun r10 =>
    (m_X0_isHelpEnough N mo_tasks mo_kinds mo_helpKinds mo_helpersOfKind r5 r10).bind fun r12 =>
    if r12 = 0 then
      some ((sr_number + (1 : Int64)), p4, (1 : Int32), r3.1, r3.2.1, (r3.2.2.1 ||| p2), r3.2.2.2.1, r3.2.2.2.2.1, r3.2.2.2.2.2)
    else
      some ((sr_number + (1 : Int64)), p4, (0 : Int32), r3.1, r3.2.1, (r3.2.2.1 ||| p2), r3.2.2.2.1, r3.2.2.2.2.1, r3.2.2.2.2.2)

def m_X2_cellOf (p0 : Int32) : Option Int32 :=
  some (((p0 * (40503 : Int32)) >>> ((4 : Int32) &&& 31)) &&& (4095 : Int32))

def m_X2_recall (sr_number : Int64) (sr_known : (Nat → Int64)) (p0 : Int32) : Option Int64 :=
  (m_X2_cellOf p0).bind fun r1 =>
  if r1 < 0 then
    some (-4 : Int64)
  else
    if (4096 : Int32) ≤ r1 then
      some (-4 : Int64)
    else
      if inI r1 4096 then
      if (lg_cmp ((sr_known (r1).toNatClampNeg) >>> (((16 : Int32)).toInt64 &&& 63)) ((sr_number <<< (((15 : Int32)).toInt64 &&& 63)) ||| ((p0).toInt64))) = 0 then
        some ((sr_known (r1).toNatClampNeg) &&& (65535 : Int64))
      else
        some (-4 : Int64)
      else none

def m_X4_isLost (st_day : Int32) (mo_lastDay : Int32) : Option Int32 :=
  if st_day ≤ mo_lastDay then
    some (0 : Int32)
  else
    some (1 : Int32)

def m_X4_lowestOf (p0 : Int32) : Option Int32 :=
  if p0 = 0 then
    some (-2 : Int32)
  else
    some (p0 &&& (-p0))

def m_X4_withOneMore (p0 : Int32) (p1 : Int32) : Option Int32 :=
  if 0 ≤ p0 then
    if (p1 &&& (p0 ^^^ (-1 : Int32))) = 0 then
      some (-2 : Int32)
    else
      some (p0 ||| ((p1 &&& (p0 ^^^ (-1 : Int32))) &&& (-(p1 &&& (p0 ^^^ (-1 : Int32))))))
  else
    some (-2 : Int32)

def m_X4_helpersFor (st_asked : Int32) (st_brought : Int32) (st_friends : Int32) (st_used : Int32) (st_day : Int32) (mo_lastDay : Int32) (mo_kinds : (Nat → Int32)) (mo_helpKinds : (Nat → Int32)) (mo_helpersOfKind : (Nat → Int32)) (p1 : Int32) : Option Int32 :=
  (m_X4_isLost st_day mo_lastDay).bind fun r1 =>
  if r1 = 0 then
    (m_X4_openTasks st_asked st_brought).bind fun r4 =>
    (m_X5_bit p1).bind fun r6 =>
    if (r4 &&& r6) = 0 then
      some (-2 : Int32)
    else
      (m_X0_helpKindOf mo_helpKinds p1).bind fun r9 =>
      (m_X4_freeFriends st_friends st_used).bind fun r11 =>
      (m_X0_helpersOf mo_helpersOfKind r9).bind fun r13 =>
      if r9 = (5 : Int32) then
        (m_X0_kindOf mo_kinds p1).bind fun r31 =>
        if r31 = (0 : Int32) then
          some (0 : Int32)
        else
        if r31 = (1 : Int32) then
          some (0 : Int32)
        else
        if r31 = (2 : Int32) then
          some (0 : Int32)
        else
        if r31 = (3 : Int32) then
          (m_X4_withOneMore (0 : Int32) r11).bind fun r38 =>
          some r38
        else
        if r31 = (4 : Int32) then
          if st_day ≤ (10 : Int32) then
            some (0 : Int32)
          else
            some (-2 : Int32)
        else
          some (-2 : Int32)
      else
        (m_X4_lowestOf (r11 &&& r13)).bind fun r16 =>
        (m_X0_kindOf mo_kinds p1).bind fun r18 =>
        if r18 = (0 : Int32) then
          some r16
        else
        if r18 = (1 : Int32) then
          (m_X4_withOneMore r16 (r11 &&& r13)).bind fun r23 =>
          some r23
        else
        if r18 = (2 : Int32) then
          some (0 : Int32)
        else
        if r18 = (3 : Int32) then
          (m_X4_withOneMore r16 r11).bind fun r27 =>
          some r27
        else
        if r18 = (4 : Int32) then
          if st_day ≤ (10 : Int32) then
            some r16
          else
            some (-2 : Int32)
        else
          some (-2 : Int32)
  else
    some (-2 : Int32)

def m_X4_tryRide (st_asked : Int32) (st_brought : Int32) (st_friends : Int32) (st_used : Int32) (st_day : Int32) (mo_lastDay : Int32) (mo_kinds : (Nat → Int32)) (mo_rideDays : (Nat → Int32)) (mo_helpKinds : (Nat → Int32)) (mo_nexts : (Nat → Int32)) (mo_helpersOfKind : (Nat → Int32)) (p1 : Int32) : Option (Int32 × Int32 × Int32 × Int32 × Int32) :=
  (m_X4_helpersFor st_asked st_brought st_friends st_used st_day mo_lastDay mo_kinds mo_helpKinds mo_helpersOfKind p1).bind fun r1 =>
  if 0 ≤ r1 then
    (m_X0_rideDaysOf mo_rideDays p1).bind fun r4 =>
    (m_X5_bit p1).bind fun r6 =>
    (m_X0_nextOf mo_nexts p1).bind fun r8 =>
    (m_X5_bit r8).bind fun r10 =>
    some ((1 : Int32), (st_asked ||| r10), (st_brought ||| r6), (st_used ||| r1), (st_day + r4))
  else
    some ((0 : Int32), st_asked, st_brought, st_used, st_day)

def m_X2_remember (sr_number : Int64) (sr_known : (Nat → Int64)) (p0 : Int32) (p1 : Int64) : Option (Nat → Int64) :=
  (m_X2_cellOf p0).bind fun r1 =>
  if r1 < 0 then
    some sr_known
  else
    if (4096 : Int32) ≤ r1 then
      some sr_known
    else
      (some ((((sr_number <<< (((15 : Int32)).toInt64 &&& 63)) ||| ((p0).toInt64)) <<< (((16 : Int32)).toInt64 &&& 63)) ||| p1)).bind fun y6 =>
      if inI r1 4096 then
      some (vp_updL sr_known (r1).toNatClampNeg y6)
      else none

def lp_X2_waysOn_89 (self : Int64 → Int64 → Int32 → (Nat → Int64) → Int32 → Int32 → Int32 → Int32 → Int32 → Int32 → Int32 → (Nat → Int32) → (Nat → Int32) → (Nat → Int32) → (Nat → Int32) → (Nat → Int32) → Int32 → (Nat → Int32) → Int32 → Option (Int64 × (Nat → Int64) × Int32 × Int32 × Int32 × Int32 × Int32 × Int32)) (v1 : Int32) (v6 : Int64) (sr_number : Int64) (sr_enough : Int64) (sr_hopeless : Int32) (mo_lastDay : Int32) (mo_kinds : (Nat → Int32)) (mo_rideDays : (Nat → Int32)) (mo_helpKinds : (Nat → Int32)) (mo_nexts : (Nat → Int32)) (mo_helpersOfKind : (Nat → Int32)) (se_lastPlace : Int32) (se_left : (Nat → Int32)) : Nat → Int64 → Int32 → (Nat → Int64) → Int32 → Int32 → Int32 → Int32 → Int32 → Int32 → Option (Int64 × (Nat → Int64) × Int32 × Int32 × Int32 × Int32 × Int32 × Int32)
  | 0, _, _, _, _, _, _, _, _, _ => none
  | n + 1, v4, v8, sr_known, ro_asked, ro_brought, ro_friends, ro_used, ro_crumbs, ro_day =>
    if (8 : Int32) ≤ v8 then
      some (v4, sr_known, ro_asked, ro_brought, ro_friends, ro_used, ro_crumbs, ro_day)
    else
      if 0 ≤ (lg_cmp v4 sr_enough) then
        some (v4, sr_known, ro_asked, ro_brought, ro_friends, ro_used, ro_crumbs, ro_day)
      else
        (m_X3_leaves se_left v8 (v1 + (1 : Int32))).bind fun r15 =>
        if r15 = 0 then
          lp_X2_waysOn_89 self v1 v6 sr_number sr_enough sr_hopeless mo_lastDay mo_kinds mo_rideDays mo_helpKinds mo_nexts mo_helpersOfKind se_lastPlace se_left n v4 (v8 + 1) sr_known ro_asked ro_brought ro_friends ro_used ro_crumbs ro_day
        else
          (m_X4_tryRide ro_asked ro_brought ro_friends ro_used ro_day mo_lastDay mo_kinds mo_rideDays mo_helpKinds mo_nexts mo_helpersOfKind v8).bind fun r18 =>
          if r18.1 = 0 then
            lp_X2_waysOn_89 self v1 v6 sr_number sr_enough sr_hopeless mo_lastDay mo_kinds mo_rideDays mo_helpKinds mo_nexts mo_helpersOfKind se_lastPlace se_left n v4 (v8 + 1) sr_known r18.2.1 r18.2.2.1 ro_friends r18.2.2.2.1 ro_crumbs r18.2.2.2.2
          else
            (self sr_number sr_enough sr_hopeless sr_known r18.2.1 r18.2.2.1 ro_friends r18.2.2.2.1 ro_crumbs r18.2.2.2.2 mo_lastDay mo_kinds mo_rideDays mo_helpKinds mo_nexts mo_helpersOfKind se_lastPlace se_left (v1 + (1 : Int32))).bind fun r21 =>
            (m_X4_unpack v6).bind fun r23 =>
            lp_X2_waysOn_89 self v1 v6 sr_number sr_enough sr_hopeless mo_lastDay mo_kinds mo_rideDays mo_helpKinds mo_nexts mo_helpersOfKind se_lastPlace se_left n (v4 + r21.1) (v8 + 1) r21.2.1 r23.1 r23.2.1 r23.2.2.1 r23.2.2.2.1 r23.2.2.2.2.1 r23.2.2.2.2.2

def m_X2_waysOn (N : Nat) : Nat → Int64 → Int64 → Int32 → (Nat → Int64) → Int32 → Int32 → Int32 → Int32 → Int32 → Int32 → Int32 → (Nat → Int32) → (Nat → Int32) → (Nat → Int32) → (Nat → Int32) → (Nat → Int32) → Int32 → (Nat → Int32) → Int32 → Option (Int64 × (Nat → Int64) × Int32 × Int32 × Int32 × Int32 × Int32 × Int32)
  | 0, _, _, _, _, _, _, _, _, _, _, _, _, _, _, _, _, _, _, _ => none
  | n + 1, sr_number, sr_enough, sr_hopeless, sr_known, ro_asked, ro_brought, ro_friends, ro_used, ro_crumbs, ro_day, mo_lastDay, mo_kinds, mo_rideDays, mo_helpKinds, mo_nexts, mo_helpersOfKind, se_lastPlace, se_left, p1 =>
  if sr_hopeless = 0 then
    (m_X4_openTasks ro_asked ro_brought).bind fun r2 =>
    if r2 = 0 then
      (m_X3_isWithin se_lastPlace p1).bind fun r29 =>
      if r29 = 0 then
        some ((0 : Int64), sr_known, ro_asked, ro_brought, ro_friends, ro_used, ro_crumbs, ro_day)
      else
        some ((1 : Int64), sr_known, ro_asked, ro_brought, ro_friends, ro_used, ro_crumbs, ro_day)
    else
      if p1 < (8 : Int32) then
        (some ((ro_brought * (128 : Int32)) + ro_used)).bind fun y6 =>
        (m_X2_recall sr_number sr_known y6).bind fun r8 =>
        if (lg_cmp r8 (0 : Int64)) < 0 then
          (m_X4_packed ro_asked ro_brought ro_friends ro_used ro_crumbs ro_day).bind fun r11 =>
          (lp_X2_waysOn_89 (m_X2_waysOn N n) p1 r11 sr_number sr_enough sr_hopeless mo_lastDay mo_kinds mo_rideDays mo_helpKinds mo_nexts mo_helpersOfKind se_lastPlace se_left N (0 : Int64) (0 : Int32) sr_known ro_asked ro_brought ro_friends ro_used ro_crumbs ro_day).bind fun r25 =>
          (m_X2_remember sr_number r25.2.1 y6 r25.1).bind fun r27 =>
          some (r25.1, r27, r25.2.2.1, r25.2.2.2.1, r25.2.2.2.2.1, r25.2.2.2.2.2.1, r25.2.2.2.2.2.2.1, r25.2.2.2.2.2.2.2)
        else
          some (r8, sr_known, ro_asked, ro_brought, ro_friends, ro_used, ro_crumbs, ro_day)
      else
        some ((0 : Int64), sr_known, ro_asked, ro_brought, ro_friends, ro_used, ro_crumbs, ro_day)
  else
    some ((0 : Int64), sr_known, ro_asked, ro_brought, ro_friends, ro_used, ro_crumbs, ro_day)

def m_X2_endsWellWith (N : Nat) (sr_number : Int64) (sr_known : (Nat → Int64)) (us_lastPlace : Int32) (us_left : (Nat → Int32)) (mo_tasks : Int32) (mo_lastDay : Int32) (mo_kinds : (Nat → Int32)) (mo_rideDays : (Nat → Int32)) (mo_helpKinds : (Nat → Int32)) (mo_nexts : (Nat → Int32)) (mo_helpersOfKind : (Nat → Int32)) (fr_asked : Int32) (fr_brought : Int32) (fr_friends : Int32) (fr_used : Int32) (fr_crumbs : Int32) (fr_day : Int32) (p2 : Int32) : Option (Int32 × Int64 × Int64 × Int32 × (Nat → Int64) × Int32 × Int32 × Int32 × Int32 × Int32 × Int32) :=
  (m_X2_begin N sr_number mo_tasks mo_lastDay mo_kinds mo_rideDays mo_helpKinds mo_nexts mo_helpersOfKind fr_asked fr_brought fr_friends fr_used fr_crumbs fr_day p2 (1 : Int64)).bind fun r1 =>
  (m_X2_waysOn N 10 r1.1 r1.2.1 r1.2.2.1 sr_known r1.2.2.2.1 r1.2.2.2.2.1 r1.2.2.2.2.2.1 r1.2.2.2.2.2.2.1 r1.2.2.2.2.2.2.2.1 r1.2.2.2.2.2.2.2.2 mo_lastDay mo_kinds mo_rideDays mo_helpKinds mo_nexts mo_helpersOfKind us_lastPlace us_left (0 : Int32)).bind fun r3 =>
  if (lg_cmp r3.1 (0 : Int64)) ≤ 0 then
    some ((0 : Int32), r1.1, r1.2.1, r1.2.2.1, r3.2.1, r3.2.2.1, r3.2.2.2.1, r3.2.2.2.2.1, r3.2.2.2.2.2.1, r3.2.2.2.2.2.2.1, r3.2.2.2.2.2.2.2)
  else
    some ((1 : Int32), r1.1, r1.2.1, r1.2.2.1, r3.2.1, r3.2.2.1, r3.2.2.2.1, r3.2.2.2.2.1, r3.2.2.2.2.2.1, r3.2.2.2.2.2.2.1, r3.2.2.2.2.2.2.2)

def lp_X2_fewestSet_46 (N : Nat) (v5 : Int32) (us_lastPlace : Int32) (us_left : (Nat → Int32)) (mo_tasks : Int32) (mo_helpers : Int32) (mo_lastDay : Int32) (mo_kinds : (Nat → Int32)) (mo_rideDays : (Nat → Int32)) (mo_helpKinds : (Nat → Int32)) (mo_nexts : (Nat → Int32)) (mo_prices : (Nat → Int32)) (mo_helpersOfKind : (Nat → Int32)) (fr_asked : Int32) (fr_brought : Int32) (fr_friends : Int32) (fr_used : Int32) (fr_crumbs : Int32) (fr_day : Int32) : Nat → Int32 → Int32 → Int32 → Int64 → Int64 → Int32 → (Nat → Int64) → Int32 → Int32 → Int32 → Int32 → Int32 → Int32 → Option (Int32 × Int64 × Int64 × Int32 × (Nat → Int64) × Int32 × Int32 × Int32 × Int32 × Int32 × Int32)
  | 0, _, _, _, _, _, _, _, _, _, _, _, _, _ => none
  | n + 1, v3, v4, v6, sr_number, sr_enough, sr_hopeless, sr_known, ro_asked, ro_brought, ro_friends, ro_used, ro_crumbs, ro_day =>
    if (128 : Int32) ≤ v6 then
      some (v3, sr_number, sr_enough, sr_hopeless, sr_known, ro_asked, ro_brought, ro_friends, ro_used, ro_crumbs, ro_day)
    else
      (m_X0_priceOfSet N mo_helpers mo_prices v6).bind fun r9 =>
      if (v6 &&& (v5 ^^^ (-1 : Int32))) = 0 then
        if v4 ≤ r9 then
          lp_X2_fewestSet_46 N v5 us_lastPlace us_left mo_tasks mo_helpers mo_lastDay mo_kinds mo_rideDays mo_helpKinds mo_nexts mo_prices mo_helpersOfKind fr_asked fr_brought fr_friends fr_used fr_crumbs fr_day n v3 v4 (v6 + 1) sr_number sr_enough sr_hopeless sr_known ro_asked ro_brought ro_friends ro_used ro_crumbs ro_day
        else
          (m_X2_endsWellWith N sr_number sr_known us_lastPlace us_left mo_tasks mo_lastDay mo_kinds mo_rideDays mo_helpKinds mo_nexts mo_helpersOfKind fr_asked fr_brought fr_friends fr_used fr_crumbs fr_day v6).bind fun r13 =>
          if r13.1 = 0 then
            lp_X2_fewestSet_46 N v5 us_lastPlace us_left mo_tasks mo_helpers mo_lastDay mo_kinds mo_rideDays mo_helpKinds mo_nexts mo_prices mo_helpersOfKind fr_asked fr_brought fr_friends fr_used fr_crumbs fr_day n v3 v4 (v6 + 1) r13.2.1 r13.2.2.1 r13.2.2.2.1 r13.2.2.2.2.1 r13.2.2.2.2.2.1 r13.2.2.2.2.2.2.1 r13.2.2.2.2.2.2.2.1 r13.2.2.2.2.2.2.2.2.1 r13.2.2.2.2.2.2.2.2.2.1 r13.2.2.2.2.2.2.2.2.2.2
          else
            lp_X2_fewestSet_46 N v5 us_lastPlace us_left mo_tasks mo_helpers mo_lastDay mo_kinds mo_rideDays mo_helpKinds mo_nexts mo_prices mo_helpersOfKind fr_asked fr_brought fr_friends fr_used fr_crumbs fr_day n v6 r9 (v6 + 1) r13.2.1 r13.2.2.1 r13.2.2.2.1 r13.2.2.2.2.1 r13.2.2.2.2.2.1 r13.2.2.2.2.2.2.1 r13.2.2.2.2.2.2.2.1 r13.2.2.2.2.2.2.2.2.1 r13.2.2.2.2.2.2.2.2.2.1 r13.2.2.2.2.2.2.2.2.2.2
      else
        lp_X2_fewestSet_46 N v5 us_lastPlace us_left mo_tasks mo_helpers mo_lastDay mo_kinds mo_rideDays mo_helpKinds mo_nexts mo_prices mo_helpersOfKind fr_asked fr_brought fr_friends fr_used fr_crumbs fr_day n v3 v4 (v6 + 1) sr_number sr_enough sr_hopeless sr_known ro_asked ro_brought ro_friends ro_used ro_crumbs ro_day

def m_X2_fewestSet (N : Nat) (sr_number : Int64) (sr_known : (Nat → Int64)) (us_lastPlace : Int32) (us_left : (Nat → Int32)) (mo_tasks : Int32) (mo_helpers : Int32) (mo_lastDay : Int32) (mo_kinds : (Nat → Int32)) (mo_rideDays : (Nat → Int32)) (mo_helpKinds : (Nat → Int32)) (mo_nexts : (Nat → Int32)) (mo_prices : (Nat → Int32)) (mo_helpersOfKind : (Nat → Int32)) (fr_asked : Int32) (fr_brought : Int32) (fr_friends : Int32) (fr_used : Int32) (fr_crumbs : Int32) (fr_day : Int32) : Option (Int32 × Int64 × Int64 × Int32 × (Nat → Int64) × Int32 × Int32 × Int32 × Int32 × Int32 × Int32) :=
  (m_X5_bit mo_helpers).bind fun r1 =>
  (some ((r1 - (1 : Int32)) &&& (fr_friends ^^^ (-1 : Int32)))).bind fun y3 =>
  (m_X2_endsWellWith N sr_number sr_known us_lastPlace us_left mo_tasks mo_lastDay mo_kinds mo_rideDays mo_helpKinds mo_nexts mo_helpersOfKind fr_asked fr_brought fr_friends fr_used fr_crumbs fr_day y3).bind fun r5 =>
  if r5.1 = 0 then
    some ((-4 : Int32), r5.2.1, r5.2.2.1, r5.2.2.2.1, r5.2.2.2.2.1, r5.2.2.2.2.2.1, r5.2.2.2.2.2.2.1, r5.2.2.2.2.2.2.2.1, r5.2.2.2.2.2.2.2.2.1, r5.2.2.2.2.2.2.2.2.2.1, r5.2.2.2.2.2.2.2.2.2.2)
  else
    (lp_X2_fewestSet_46 N y3 us_lastPlace us_left mo_tasks mo_helpers mo_lastDay mo_kinds mo_rideDays mo_helpKinds mo_nexts mo_prices mo_helpersOfKind fr_asked fr_brought fr_friends fr_used fr_crumbs fr_day N (-4 : Int32) (fr_crumbs + (1 : Int32)) (0 : Int32) r5.2.1 r5.2.2.1 r5.2.2.2.1 r5.2.2.2.2.1 r5.2.2.2.2.2.1 r5.2.2.2.2.2.2.1 r5.2.2.2.2.2.2.2.1 r5.2.2.2.2.2.2.2.2.1 r5.2.2.2.2.2.2.2.2.2.1 r5.2.2.2.2.2.2.2.2.2.2).bind fun r16 =>
    some (r16.1, r16.2.1, r16.2.2.1, r16.2.2.2.1, r16.2.2.2.2.1, r16.2.2.2.2.2.1, r16.2.2.2.2.2.2.1, r16.2.2.2.2.2.2.2.1, r16.2.2.2.2.2.2.2.2.1, r16.2.2.2.2.2.2.2.2.2.1, r16.2.2.2.2.2.2.2.2.2.2)

def lp_X2_rideFirst_11 (N : Nat) (v1 : Int32) (v2 : Int64) (sr_number : Int64) (sr_enough : Int64) (sr_hopeless : Int32) (mo_lastDay : Int32) (mo_kinds : (Nat → Int32)) (mo_rideDays : (Nat → Int32)) (mo_helpKinds : (Nat → Int32)) (mo_nexts : (Nat → Int32)) (mo_helpersOfKind : (Nat → Int32)) (se_lastPlace : Int32) (se_left : (Nat → Int32)) : Nat → Int32 → (Nat → Int64) → Int32 → Int32 → Int32 → Int32 → Int32 → Int32 → Option (((Nat → Int64) × Int32 × Int32 × Int32 × Int32 × Int32 × Int32) ⊕ (Int32 × (Nat → Int64) × Int32 × Int32 × Int32 × Int32 × Int32 × Int32))
  | 0, _, _, _, _, _, _, _, _ => none
  | n + 1, v4, sr_known, ro_asked, ro_brought, ro_friends, ro_used, ro_crumbs, ro_day =>
    if (8 : Int32) ≤ v4 then
      some (Sum.inl (sr_known, ro_asked, ro_brought, ro_friends, ro_used, ro_crumbs, ro_day))
    else
      (m_X3_leaves se_left v4 (v1 + (1 : Int32))).bind fun r4 =>
      if r4 = 0 then
        lp_X2_rideFirst_11 N v1 v2 sr_number sr_enough sr_hopeless mo_lastDay mo_kinds mo_rideDays mo_helpKinds mo_nexts mo_helpersOfKind se_lastPlace se_left n (v4 + 1) sr_known ro_asked ro_brought ro_friends ro_used ro_crumbs ro_day
      else
        (m_X4_tryRide ro_asked ro_brought ro_friends ro_used ro_day mo_lastDay mo_kinds mo_rideDays mo_helpKinds mo_nexts mo_helpersOfKind v4).bind fun r7 =>
        if r7.1 = 0 then
          lp_X2_rideFirst_11 N v1 v2 sr_number sr_enough sr_hopeless mo_lastDay mo_kinds mo_rideDays mo_helpKinds mo_nexts mo_helpersOfKind se_lastPlace se_left n (v4 + 1) sr_known r7.2.1 r7.2.2.1 ro_friends r7.2.2.2.1 ro_crumbs r7.2.2.2.2
        else
          (m_X2_waysOn N 10 sr_number sr_enough sr_hopeless sr_known r7.2.1 r7.2.2.1 ro_friends r7.2.2.2.1 ro_crumbs r7.2.2.2.2 mo_lastDay mo_kinds mo_rideDays mo_helpKinds mo_nexts mo_helpersOfKind se_lastPlace se_left (v1 + (1 : Int32))).bind fun r10 =>
          if (lg_cmp r10.1 (0 : Int64)) ≤ 0 then
            (m_X4_unpack v2).bind fun r13 =>
            lp_X2_rideFirst_11 N v1 v2 sr_number sr_enough sr_hopeless mo_lastDay mo_kinds mo_rideDays mo_helpKinds mo_nexts mo_helpersOfKind se_lastPlace se_left n (v4 + 1) r10.2.1 r13.1 r13.2.1 r13.2.2.1 r13.2.2.2.1 r13.2.2.2.2.1 r13.2.2.2.2.2
          else
            some (Sum.inr (v4, r10.2.1, r10.2.2.1, r10.2.2.2.1, r10.2.2.2.2.1, r10.2.2.2.2.2.1, r10.2.2.2.2.2.2.1, r10.2.2.2.2.2.2.2))

def m_X2_rideFirst (N : Nat) (sr_number : Int64) (sr_enough : Int64) (sr_hopeless : Int32) (sr_known : (Nat → Int64)) (ro_asked : Int32) (ro_brought : Int32) (ro_friends : Int32) (ro_used : Int32) (ro_crumbs : Int32) (ro_day : Int32) (mo_lastDay : Int32) (mo_kinds : (Nat → Int32)) (mo_rideDays : (Nat → Int32)) (mo_helpKinds : (Nat → Int32)) (mo_nexts : (Nat → Int32)) (mo_helpersOfKind : (Nat → Int32)) (se_lastPlace : Int32) (se_left : (Nat → Int32)) (p0 : Int32) : Option (Int32 × (Nat → Int64) × Int32 × Int32 × Int32 × Int32 × Int32 × Int32) :=
  (m_X4_packed ro_asked ro_brought ro_friends ro_used ro_crumbs ro_day).bind fun r1 =>
  (lp_X2_rideFirst_11 N p0 r1 sr_number sr_enough sr_hopeless mo_lastDay mo_kinds mo_rideDays mo_helpKinds mo_nexts mo_helpersOfKind se_lastPlace se_left N (0 : Int32) sr_known ro_asked ro_brought ro_friends ro_used ro_crumbs ro_day).bind
    (Sum.elim (fun u17 =>
      some ((-4 : Int32), u17.1, u17.2.1, u17.2.2.1, u17.2.2.2.1, u17.2.2.2.2.1, u17.2.2.2.2.2.1, u17.2.2.2.2.2.2))
    (fun u18 =>
      some (u18.1, u18.2.1, u18.2.2.1, u18.2.2.2.1, u18.2.2.2.2.1, u18.2.2.2.2.2.1, u18.2.2.2.2.2.2.1, u18.2.2.2.2.2.2.2)))

def lp_X2_placeInFirst_16 (N : Nat) (v4 : Int32) (sr_number : Int64) (sr_enough : Int64) (sr_hopeless : Int32) (mo_lastDay : Int32) (mo_kinds : (Nat → Int32)) (mo_rideDays : (Nat → Int32)) (mo_helpKinds : (Nat → Int32)) (mo_nexts : (Nat → Int32)) (mo_helpersOfKind : (Nat → Int32)) (se_lastPlace : Int32) (se_left : (Nat → Int32)) : Nat → Int32 → Int32 → (Nat → Int64) → Int32 → Int32 → Int32 → Int32 → Int32 → Int32 → Option ((Int32 × (Nat → Int64) × Int32 × Int32 × Int32 × Int32 × Int32 × Int32) ⊕ ((Nat → Int64) × Int32 × Int32 × Int32 × Int32 × Int32 × Int32))
  | 0, _, _, _, _, _, _, _, _, _ => none
  | n + 1, v5, v6, sr_known, ro_asked, ro_brought, ro_friends, ro_used, ro_crumbs, ro_day =>
    if v4 ≤ v6 then
      some (Sum.inl (v5, sr_known, ro_asked, ro_brought, ro_friends, ro_used, ro_crumbs, ro_day))
    else
      (m_X2_rideFirst N sr_number sr_enough sr_hopeless sr_known ro_asked ro_brought ro_friends ro_used ro_crumbs ro_day mo_lastDay mo_kinds mo_rideDays mo_helpKinds mo_nexts mo_helpersOfKind se_lastPlace se_left v6).bind fun r4 =>
      if 0 ≤ r4.1 then
        lp_X2_placeInFirst_16 N v4 sr_number sr_enough sr_hopeless mo_lastDay mo_kinds mo_rideDays mo_helpKinds mo_nexts mo_helpersOfKind se_lastPlace se_left n r4.1 (v6 + 1) r4.2.1 r4.2.2.1 r4.2.2.2.1 r4.2.2.2.2.1 r4.2.2.2.2.2.1 r4.2.2.2.2.2.2.1 r4.2.2.2.2.2.2.2
      else
        some (Sum.inr (r4.2.1, r4.2.2.1, r4.2.2.2.1, r4.2.2.2.2.1, r4.2.2.2.2.2.1, r4.2.2.2.2.2.2.1, r4.2.2.2.2.2.2.2))

def m_X2_placeInFirst (N : Nat) (sr_number : Int64) (sr_known : (Nat → Int64)) (mo_tasks : Int32) (mo_lastDay : Int32) (mo_kinds : (Nat → Int32)) (mo_rideDays : (Nat → Int32)) (mo_helpKinds : (Nat → Int32)) (mo_nexts : (Nat → Int32)) (mo_helpersOfKind : (Nat → Int32)) (fr_asked : Int32) (fr_brought : Int32) (fr_friends : Int32) (fr_used : Int32) (fr_crumbs : Int32) (fr_day : Int32) (se_lastPlace : Int32) (se_left : (Nat → Int32)) (p3 : Int32) : Option (Int32 × Int64 × Int64 × Int32 × (Nat → Int64) × Int32 × Int32 × Int32 × Int32 × Int32 × Int32) :=
  (m_X2_begin N sr_number mo_tasks mo_lastDay mo_kinds mo_rideDays mo_helpKinds mo_nexts mo_helpersOfKind fr_asked fr_brought fr_friends fr_used fr_crumbs fr_day (0 : Int32) (1 : Int64)).bind fun r1 =>
  (lp_X2_placeInFirst_16 N p3 r1.1 r1.2.1 r1.2.2.1 mo_lastDay mo_kinds mo_rideDays mo_helpKinds mo_nexts mo_helpersOfKind se_lastPlace se_left N (-4 : Int32) (0 : Int32) sr_known r1.2.2.2.1 r1.2.2.2.2.1 r1.2.2.2.2.2.1 r1.2.2.2.2.2.2.1 r1.2.2.2.2.2.2.2.1 r1.2.2.2.2.2.2.2.2).bind
    (Sum.elim (fun u9 =>
      some (u9.1, r1.1, r1.2.1, r1.2.2.1, u9.2.1, u9.2.2.1, u9.2.2.2.1, u9.2.2.2.2.1, u9.2.2.2.2.2.1, u9.2.2.2.2.2.2.1, u9.2.2.2.2.2.2.2))
    (fun u10 =>
      some ((-4 : Int32), r1.1, r1.2.1, r1.2.2.1, u10.1, u10.2.1, u10.2.2.1, u10.2.2.2.1, u10.2.2.2.2.1, u10.2.2.2.2.2.1, u10.2.2.2.2.2.2)))

def m_X2_waysOf (N : Nat) (sr_number : Int64) (sr_known : (Nat → Int64)) (mo_tasks : Int32) (mo_lastDay : Int32) (mo_kinds : (Nat → Int32)) (mo_rideDays : (Nat → Int32)) (mo_helpKinds : (Nat → Int32)) (mo_nexts : (Nat → Int32)) (mo_helpersOfKind : (Nat → Int32)) (fr_asked : Int32) (fr_brought : Int32) (fr_friends : Int32) (fr_used : Int32) (fr_crumbs : Int32) (fr_day : Int32) (se_lastPlace : Int32) (se_left : (Nat → Int32)) : Option (Int32 × Int64 × Int64 × Int32 × (Nat → Int64) × Int32 × Int32 × Int32 × Int32 × Int32 × Int32) :=
  (m_X2_begin N sr_number mo_tasks mo_lastDay mo_kinds mo_rideDays mo_helpKinds mo_nexts mo_helpersOfKind fr_asked fr_brought fr_friends fr_used fr_crumbs fr_day (0 : Int32) (65536 : Int64)).bind fun r1 =>
  (m_X2_waysOn N 10 r1.1 r1.2.1 r1.2.2.1 sr_known r1.2.2.2.1 r1.2.2.2.2.1 r1.2.2.2.2.2.1 r1.2.2.2.2.2.2.1 r1.2.2.2.2.2.2.2.1 r1.2.2.2.2.2.2.2.2 mo_lastDay mo_kinds mo_rideDays mo_helpKinds mo_nexts mo_helpersOfKind se_lastPlace se_left (0 : Int32)).bind fun r3 =>
  some (((r3.1).toInt32), r1.1, r1.2.1, r1.2.2.1, r3.2.1, r3.2.2.1, r3.2.2.2.1, r3.2.2.2.2.1, r3.2.2.2.2.2.1, r3.2.2.2.2.2.2.1, r3.2.2.2.2.2.2.2)

def m_X4_begin (mo_askedFirst : Int32) (mo_crumbsFirst : Int32) : Option (Int32 × Int32 × Int32 × Int32 × Int32 × Int32) :=
  some (mo_askedFirst, (0 : Int32), (0 : Int32), (0 : Int32), mo_crumbsFirst, (0 : Int32))

def m_X4_tasksToSuggest (st_asked : Int32) (st_day : Int32) (mo_tasks : Int32) (mo_lastDay : Int32) : Option Int32 :=
  (m_X4_isLost st_day mo_lastDay).bind fun r1 =>
  if r1 = 0 then
    (m_X5_bit mo_tasks).bind fun r4 =>
    some ((r4 - (1 : Int32)) &&& (st_asked ^^^ (-1 : Int32)))
  else
    some (0 : Int32)

def m_X4_tryBefriend (st_friends : Int32) (st_crumbs : Int32) (mo_prices : (Nat → Int32)) (p1 : Int32) : Option (Int32 × Int32 × Int32) :=
  (m_X0_priceOf mo_prices p1).bind fun r1 =>
  (m_X5_bit p1).bind fun r3 =>
  if (st_friends &&& r3) = 0 then
    if r1 ≤ st_crumbs then
      (m_X5_bit p1).bind fun r7 =>
      some ((1 : Int32), (st_friends ||| r7), (st_crumbs - r1))
    else
      some ((0 : Int32), st_friends, st_crumbs)
  else
    some ((0 : Int32), st_friends, st_crumbs)

def m_X4_tryHandUp (st_asked : Int32) (st_brought : Int32) (st_day : Int32) (mo_lastDay : Int32) (mo_days : (Nat → Int32)) (p1 : Int32) : Option (Int32 × Int32 × Int32) :=
  (m_X4_isLost st_day mo_lastDay).bind fun r1 =>
  if r1 = 0 then
    (m_X4_openTasks st_asked st_brought).bind fun r4 =>
    (m_X5_bit p1).bind fun r6 =>
    if (r4 &&& r6) = 0 then
      some ((0 : Int32), st_brought, st_day)
    else
      (m_X0_daysOf mo_days p1).bind fun r9 =>
      (some (st_day + (((2 : Int32) * r9) + (1 : Int32)))).bind fun y11 =>
      (m_X5_bit p1).bind fun r13 =>
      some ((1 : Int32), (st_brought ||| r13), y11)
  else
    some ((0 : Int32), st_brought, st_day)

def m_X4_trySuggest (st_asked : Int32) (st_day : Int32) (mo_tasks : Int32) (mo_lastDay : Int32) (p1 : Int32) : Option (Int32 × Int32) :=
  (m_X4_tasksToSuggest st_asked st_day mo_tasks mo_lastDay).bind fun r1 =>
  (m_X5_bit p1).bind fun r3 =>
  if (r1 &&& r3) = 0 then
    some ((0 : Int32), st_asked)
  else
    (m_X5_bit p1).bind fun r6 =>
    some ((1 : Int32), (st_asked ||| r6))

def m_X5_back (no_asked : Int32) (no_brought : Int32) (no_friends : Int32) (no_used : Int32) (no_crumbs : Int32) (no_day : Int32) (un_size : Int32) (ke_size : Int32) (ke_held : (Nat → Int64)) : Option (Int32 × Int32 × Int32 × Int32 × Int32 × Int32 × Int32 × Int32 × Int32) :=
  if (1 : Int32) ≤ ke_size then
    (m_X1_takeLatest ke_size 2 ke_held).bind fun r2 =>
    (m_X4_unpack r2.1).bind fun r4 =>
    (m_X1_clear).bind fun r6 =>
    some (r2.2, r4.1, r4.2.1, r4.2.2.1, r4.2.2.2.1, r4.2.2.2.2.1, r4.2.2.2.2.2, r6, r2.2)
  else
    some ((-2 : Int32), no_asked, no_brought, no_friends, no_used, no_crumbs, no_day, un_size, ke_size)

def m_X5_befriend (N : Nat) (mo_helpers : Int32) (mo_prices : (Nat → Int32)) (no_asked : Int32) (no_brought : Int32) (no_friends : Int32) (no_used : Int32) (no_crumbs : Int32) (no_day : Int32) (un_size : Int32) (un_held : (Nat → Int64)) (p0 : Int32) : Option (Int32 × Int32 × Int32 × Int32 × (Nat → Int64)) :=
  (m_X0_hasHelper mo_helpers p0).bind fun r1 =>
  if r1 = 0 then
    some ((-1 : Int32), no_friends, no_crumbs, un_size, un_held)
  else
    (m_X4_packed no_asked no_brought no_friends no_used no_crumbs no_day).bind fun r4 =>
    (m_X4_tryBefriend no_friends no_crumbs mo_prices p0).bind fun r6 =>
    if r6.1 = 0 then
      some ((-2 : Int32), r6.2.1, r6.2.2, un_size, un_held)
    else
      (m_X1_put N un_size 8 un_held r4).bind fun r9 =>
      some (r6.2.2, r6.2.1, r6.2.2, r9.1, r9.2)

def lp_X5_power_4 (v0 : Int32) (v1 : Int32) : Nat → Int32 → Int32 → Option Int32
  | 0, _, _ => none
  | n + 1, v2, v3 =>
    if v1 ≤ v3 then
      some v2
    else
      lp_X5_power_4 v0 v1 n (v2 * v0) (v3 + 1)

def m_X5_power (N : Nat) (p0 : Int32) (p1 : Int32) : Option Int32 :=
  (lp_X5_power_4 p0 p1 N (1 : Int32) (0 : Int32)).bind fun r2 =>
  some r2

def m_X5_chancesOfSet (N : Nat) (p0 : Int32) (p1 : Int32) (p2 : Int32) : Option Int32 :=
  (m_J6_bitCount_0f7a4 p1).bind fun r1 =>
  (m_X5_power N p2 r1).bind fun r3 =>
  (m_J6_bitCount_0f7a4 p0).bind fun r5 =>
  (m_X5_power N ((10 : Int32) - p2) (r5 - r1)).bind fun r7 =>
  some (r3 * r7)

def lp_X5_chancesOfTen_5 (N : Nat) (v1 : Int32) (v2 : Int32) (mo_tasks : Int32) (mo_lastDay : Int32) (mo_kinds : (Nat → Int32)) (mo_rideDays : (Nat → Int32)) (mo_helpKinds : (Nat → Int32)) (mo_nexts : (Nat → Int32)) (mo_helpersOfKind : (Nat → Int32)) (no_asked : Int32) (no_brought : Int32) (no_friends : Int32) (no_used : Int32) (no_crumbs : Int32) (no_day : Int32) (us_lastPlace : Int32) (us_left : (Nat → Int32)) : Nat → Int32 → Int32 → Int32 → Int32 → Int32 → Int32 → Int32 → Int32 → Int64 → Int64 → Int32 → (Nat → Int64) → Int32 → Int32 → Int32 → Int32 → Int32 → Int32 → Option (Int32 × Int32 × Int32 × Int32 × Int32 × Int32 × Int32 × Int64 × Int64 × Int32 × (Nat → Int64) × Int32 × Int32 × Int32 × Int32 × Int32 × Int32)
  | 0, _, _, _, _, _, _, _, _, _, _, _, _, _, _, _, _, _, _ => none
  | n + 1, v3, v4, tr_asked, tr_brought, tr_friends, tr_used, tr_crumbs, tr_day, sr_number, sr_enough, sr_hopeless, sr_known, ro_asked, ro_brought, ro_friends, ro_used, ro_crumbs, ro_day =>
    if (256 : Int32) ≤ v4 then
      some (v3, tr_asked, tr_brought, tr_friends, tr_used, tr_crumbs, tr_day, sr_number, sr_enough, sr_hopeless, sr_known, ro_asked, ro_brought, ro_friends, ro_used, ro_crumbs, ro_day)
    else
      if (v4 &&& (v1 ^^^ (-1 : Int32))) = 0 then
        (m_X5_chancesOfSet N v1 v4 v2).bind fun r4 =>
        if r4 = 0 then
          lp_X5_chancesOfTen_5 N v1 v2 mo_tasks mo_lastDay mo_kinds mo_rideDays mo_helpKinds mo_nexts mo_helpersOfKind no_asked no_brought no_friends no_used no_crumbs no_day us_lastPlace us_left n v3 (v4 + 1) tr_asked tr_brought tr_friends tr_used tr_crumbs tr_day sr_number sr_enough sr_hopeless sr_known ro_asked ro_brought ro_friends ro_used ro_crumbs ro_day
        else
          (m_X4_packed no_asked no_brought no_friends no_used no_crumbs no_day).bind fun r7 =>
          (m_X4_unpack r7).bind fun r9 =>
          (m_X2_endsWellWith N sr_number sr_known us_lastPlace us_left mo_tasks mo_lastDay mo_kinds mo_rideDays mo_helpKinds mo_nexts mo_helpersOfKind (r9.1 ||| v4) r9.2.1 r9.2.2.1 r9.2.2.2.1 r9.2.2.2.2.1 r9.2.2.2.2.2 (0 : Int32)).bind fun r11 =>
          if r11.1 = 0 then
            lp_X5_chancesOfTen_5 N v1 v2 mo_tasks mo_lastDay mo_kinds mo_rideDays mo_helpKinds mo_nexts mo_helpersOfKind no_asked no_brought no_friends no_used no_crumbs no_day us_lastPlace us_left n v3 (v4 + 1) (r9.1 ||| v4) r9.2.1 r9.2.2.1 r9.2.2.2.1 r9.2.2.2.2.1 r9.2.2.2.2.2 r11.2.1 r11.2.2.1 r11.2.2.2.1 r11.2.2.2.2.1 r11.2.2.2.2.2.1 r11.2.2.2.2.2.2.1 r11.2.2.2.2.2.2.2.1 r11.2.2.2.2.2.2.2.2.1 r11.2.2.2.2.2.2.2.2.2.1 r11.2.2.2.2.2.2.2.2.2.2
          else
            lp_X5_chancesOfTen_5 N v1 v2 mo_tasks mo_lastDay mo_kinds mo_rideDays mo_helpKinds mo_nexts mo_helpersOfKind no_asked no_brought no_friends no_used no_crumbs no_day us_lastPlace us_left n (v3 + r4) (v4 + 1) (r9.1 ||| v4) r9.2.1 r9.2.2.1 r9.2.2.2.1 r9.2.2.2.2.1 r9.2.2.2.2.2 r11.2.1 r11.2.2.1 r11.2.2.2.1 r11.2.2.2.2.1 r11.2.2.2.2.2.1 r11.2.2.2.2.2.2.1 r11.2.2.2.2.2.2.2.1 r11.2.2.2.2.2.2.2.2.1 r11.2.2.2.2.2.2.2.2.2.1 r11.2.2.2.2.2.2.2.2.2.2
      else
        lp_X5_chancesOfTen_5 N v1 v2 mo_tasks mo_lastDay mo_kinds mo_rideDays mo_helpKinds mo_nexts mo_helpersOfKind no_asked no_brought no_friends no_used no_crumbs no_day us_lastPlace us_left n v3 (v4 + 1) tr_asked tr_brought tr_friends tr_used tr_crumbs tr_day sr_number sr_enough sr_hopeless sr_known ro_asked ro_brought ro_friends ro_used ro_crumbs ro_day

def m_X5_chancesOfTen (N : Nat) (mo_tasks : Int32) (mo_lastDay : Int32) (mo_kinds : (Nat → Int32)) (mo_rideDays : (Nat → Int32)) (mo_helpKinds : (Nat → Int32)) (mo_nexts : (Nat → Int32)) (mo_helpersOfKind : (Nat → Int32)) (no_asked : Int32) (no_brought : Int32) (no_friends : Int32) (no_used : Int32) (no_crumbs : Int32) (no_day : Int32) (tr_asked : Int32) (tr_brought : Int32) (tr_friends : Int32) (tr_used : Int32) (tr_crumbs : Int32) (tr_day : Int32) (us_lastPlace : Int32) (us_left : (Nat → Int32)) (sr_number : Int64) (sr_enough : Int64) (sr_hopeless : Int32) (sr_known : (Nat → Int64)) (ro_asked : Int32) (ro_brought : Int32) (ro_friends : Int32) (ro_used : Int32) (ro_crumbs : Int32) (ro_day : Int32) (p0 : Int32) (p1 : Int32) : Option (Int32 × Int32 × Int32 × Int32 × Int32 × Int32 × Int32 × Int64 × Int64 × Int32 × (Nat → Int64) × Int32 × Int32 × Int32 × Int32 × Int32 × Int32) :=
  (lp_X5_chancesOfTen_5 N p0 p1 mo_tasks mo_lastDay mo_kinds mo_rideDays mo_helpKinds mo_nexts mo_helpersOfKind no_asked no_brought no_friends no_used no_crumbs no_day us_lastPlace us_left N (0 : Int32) (0 : Int32) tr_asked tr_brought tr_friends tr_used tr_crumbs tr_day sr_number sr_enough sr_hopeless sr_known ro_asked ro_brought ro_friends ro_used ro_crumbs ro_day).bind fun r14 =>
  some (r14.1, r14.2.1, r14.2.2.1, r14.2.2.2.1, r14.2.2.2.2.1, r14.2.2.2.2.2.1, r14.2.2.2.2.2.2.1, r14.2.2.2.2.2.2.2.1, r14.2.2.2.2.2.2.2.2.1, r14.2.2.2.2.2.2.2.2.2.1, r14.2.2.2.2.2.2.2.2.2.2.1, r14.2.2.2.2.2.2.2.2.2.2.2.1, r14.2.2.2.2.2.2.2.2.2.2.2.2.1, r14.2.2.2.2.2.2.2.2.2.2.2.2.2.1, r14.2.2.2.2.2.2.2.2.2.2.2.2.2.2.1, r14.2.2.2.2.2.2.2.2.2.2.2.2.2.2.2.1, r14.2.2.2.2.2.2.2.2.2.2.2.2.2.2.2.2)

def lp_X5_commonDivisor_7  : Nat → Int32 → Int32 → Int32 → Option Int32
  | 0, _, _, _ => none
  | n + 1, v2, v3, v4 =>
    if (1000 : Int32) ≤ v4 then
      some v2
    else
      if v3 = 0 then
        some v2
      else
        lp_X5_commonDivisor_7 n v3 (v2 - v2 / v3 * v3) (v4 + 1)

def m_X5_commonDivisor (N : Nat) (p0 : Int32) (p1 : Int32) : Option Int32 :=
  (lp_X5_commonDivisor_7 N p0 p1 (0 : Int32)).bind fun r4 =>
  some r4

def m_X5_oneIf (p0 : Int32) : Option Int32 :=
  if p0 = 0 then
    some (0 : Int32)
  else
    some (1 : Int32)

def m_X5_count (x_letters : Int32) (mo_tasks : Int32) (mo_helpers : Int32) (mo_lastDay : Int32) (no_asked : Int32) (no_brought : Int32) (no_friends : Int32) (no_used : Int32) (no_crumbs : Int32) (no_day : Int32) (un_size : Int32) (ke_size : Int32) (se_size : Int32) (p0 : Int32) : Option Int32 :=
  if p0 = (0 : Int32) then
    some mo_tasks
  else
  if p0 = (1 : Int32) then
    some mo_helpers
  else
  if p0 = (2 : Int32) then
    (m_X4_openTasks no_asked no_brought).bind fun r4 =>
    (m_J6_bitCount_0f7a4 r4).bind fun r6 =>
    some r6
  else
  if p0 = (3 : Int32) then
    (m_J6_bitCount_0f7a4 no_brought).bind fun r9 =>
    some r9
  else
  if p0 = (4 : Int32) then
    (m_X4_freeFriends no_friends no_used).bind fun r12 =>
    (m_J6_bitCount_0f7a4 r12).bind fun r14 =>
    some r14
  else
  if p0 = (5 : Int32) then
    some no_crumbs
  else
  if p0 = (6 : Int32) then
    some no_day
  else
  if p0 = (7 : Int32) then
    (m_X4_isLost no_day mo_lastDay).bind fun r19 =>
    (m_X5_oneIf r19).bind fun r21 =>
    some r21
  else
  if p0 = (8 : Int32) then
    some se_size
  else
  if p0 = (9 : Int32) then
    some un_size
  else
  if p0 = (10 : Int32) then
    some ke_size
  else
  if p0 = (11 : Int32) then
    some x_letters
  else
    some (-1 : Int32)

def m_X5_drawOf (p0 : Int32) (p1 : Int32) : Option Int32 :=
  (some ((((7919 : Int64) * ((p0).toInt64)) + ((6151 : Int64) * ((p1).toInt64))) + (1 : Int64))).bind fun y1 =>
  some (((((y1 * y1) - (y1 * y1) / (65521 : Int64) * (65521 : Int64)) / (2 : Int64))).toInt32)

def m_X5_fault (N : Nat) (x_letters : Int32) (x_text : (Nat → Int32)) (sp_kinds : (Nat → Int32)) (sp_days : (Nat → Int32)) (sp_rideDays : (Nat → Int32)) (sp_helpKinds : (Nat → Int32)) (sp_nexts : (Nat → Int32)) (sp_helperKinds : (Nat → Int32)) (sp_prices : (Nat → Int32)) (sp_helpersOfKind : (Nat → Int32)) (sp_numbers : (Nat → Int32)) : Option (Int32 × Int32 × Int32 × Int32 × Int32 × Int32 × (Nat → Int32) × (Nat → Int32) × (Nat → Int32) × (Nat → Int32) × (Nat → Int32) × (Nat → Int32) × (Nat → Int32) × (Nat → Int32) × (Nat → Int32)) :=
  (m_X0_readFrom N sp_kinds sp_days sp_rideDays sp_helpKinds sp_nexts sp_helperKinds sp_prices sp_helpersOfKind sp_numbers 200 x_text x_letters).bind fun r1 =>
  some (r1.1, r1.2.1, r1.2.2.1, r1.2.2.2.1, r1.2.2.2.2.1, r1.2.2.2.2.2.1, r1.2.2.2.2.2.2.1, r1.2.2.2.2.2.2.2.1, r1.2.2.2.2.2.2.2.2.1, r1.2.2.2.2.2.2.2.2.2.1, r1.2.2.2.2.2.2.2.2.2.2.1, r1.2.2.2.2.2.2.2.2.2.2.2.1, r1.2.2.2.2.2.2.2.2.2.2.2.2.1, r1.2.2.2.2.2.2.2.2.2.2.2.2.2.1, r1.2.2.2.2.2.2.2.2.2.2.2.2.2.2)

def m_X5_fewest (N : Nat) (mo_tasks : Int32) (mo_helpers : Int32) (mo_lastDay : Int32) (mo_kinds : (Nat → Int32)) (mo_rideDays : (Nat → Int32)) (mo_helpKinds : (Nat → Int32)) (mo_nexts : (Nat → Int32)) (mo_prices : (Nat → Int32)) (mo_helpersOfKind : (Nat → Int32)) (no_asked : Int32) (no_brought : Int32) (no_friends : Int32) (no_used : Int32) (no_crumbs : Int32) (no_day : Int32) (us_lastPlace : Int32) (us_left : (Nat → Int32)) (sr_number : Int64) (sr_enough : Int64) (sr_hopeless : Int32) (sr_known : (Nat → Int64)) (ro_asked : Int32) (ro_brought : Int32) (ro_friends : Int32) (ro_used : Int32) (ro_crumbs : Int32) (ro_day : Int32) (p0 : Int32) : Option (Int32 × Int64 × Int64 × Int32 × (Nat → Int64) × Int32 × Int32 × Int32 × Int32 × Int32 × Int32) :=
  if p0 < 0 then
    some ((-1 : Int32), sr_number, sr_enough, sr_hopeless, sr_known, ro_asked, ro_brought, ro_friends, ro_used, ro_crumbs, ro_day)
  else
    if p0 ≤ (1 : Int32) then
      (m_X2_fewestSet N sr_number sr_known us_lastPlace us_left mo_tasks mo_helpers mo_lastDay mo_kinds mo_rideDays mo_helpKinds mo_nexts mo_prices mo_helpersOfKind no_asked no_brought no_friends no_used no_crumbs no_day).bind fun r3 =>
      if 0 ≤ r3.1 then
        if p0 = 0 then
          (m_X0_priceOfSet N mo_helpers mo_prices r3.1).bind fun r7 =>
          some (r7, r3.2.1, r3.2.2.1, r3.2.2.2.1, r3.2.2.2.2.1, r3.2.2.2.2.2.1, r3.2.2.2.2.2.2.1, r3.2.2.2.2.2.2.2.1, r3.2.2.2.2.2.2.2.2.1, r3.2.2.2.2.2.2.2.2.2.1, r3.2.2.2.2.2.2.2.2.2.2)
        else
          some (r3.1, r3.2.1, r3.2.2.1, r3.2.2.2.1, r3.2.2.2.2.1, r3.2.2.2.2.2.1, r3.2.2.2.2.2.2.1, r3.2.2.2.2.2.2.2.1, r3.2.2.2.2.2.2.2.2.1, r3.2.2.2.2.2.2.2.2.2.1, r3.2.2.2.2.2.2.2.2.2.2)
      else
        some ((-4 : Int32), r3.2.1, r3.2.2.1, r3.2.2.2.1, r3.2.2.2.2.1, r3.2.2.2.2.2.1, r3.2.2.2.2.2.2.1, r3.2.2.2.2.2.2.2.1, r3.2.2.2.2.2.2.2.2.1, r3.2.2.2.2.2.2.2.2.2.1, r3.2.2.2.2.2.2.2.2.2.2)
    else
      some ((-1 : Int32), sr_number, sr_enough, sr_hopeless, sr_known, ro_asked, ro_brought, ro_friends, ro_used, ro_crumbs, ro_day)

def m_X5_forWhat (N : Nat) (mo_tasks : Int32) (mo_nexts : (Nat → Int32)) (no_asked : Int32) (no_brought : Int32) (p0 : Int32) : Option Int32 :=
  (m_X0_hasTask mo_tasks p0).bind fun r1 =>
  if r1 = 0 then
    some (-1 : Int32)
  else
    (m_X5_bit p0).bind fun r4 =>
    if (no_brought &&& r4) = 0 then
      (m_X5_bit p0).bind fun r7 =>
      if (no_asked &&& r7) = 0 then
        (m_X0_tasksThatAsk N mo_tasks mo_nexts p0).bind fun r10 =>
        (m_X4_tasksToCome N no_asked no_brought mo_tasks mo_nexts).bind fun r12 =>
        some (r10 &&& r12)
      else
        (m_X5_bit p0).bind fun r14 =>
        some r14
    else
      some (-2 : Int32)

def m_X5_forget (N : Nat) (se_size : Int32) (se_left : (Nat → Int32)) : Option (Int32 × Int32 × Int32 × (Nat → Int32)) :=
  (m_X3_clear N se_left).bind fun r1 =>
  some (se_size, r1.1, r1.2.1, r1.2.2)

def m_X5_grooms (N : Nat) (mo_tasks : Int32) (mo_lastDay : Int32) (mo_kinds : (Nat → Int32)) (mo_rideDays : (Nat → Int32)) (mo_helpKinds : (Nat → Int32)) (mo_nexts : (Nat → Int32)) (mo_helpersOfKind : (Nat → Int32)) (no_asked : Int32) (no_brought : Int32) (no_friends : Int32) (no_used : Int32) (no_crumbs : Int32) (no_day : Int32) (tr_asked : Int32) (tr_brought : Int32) (tr_friends : Int32) (tr_used : Int32) (tr_crumbs : Int32) (tr_day : Int32) (us_lastPlace : Int32) (us_left : (Nat → Int32)) (sr_number : Int64) (sr_enough : Int64) (sr_hopeless : Int32) (sr_known : (Nat → Int64)) (ro_asked : Int32) (ro_brought : Int32) (ro_friends : Int32) (ro_used : Int32) (ro_crumbs : Int32) (ro_day : Int32) (p0 : Int32) (p1 : Int32) : Option (Int32 × Int32 × Int32 × Int32 × Int32 × Int32 × Int32 × Int64 × Int64 × Int32 × (Nat → Int64) × Int32 × Int32 × Int32 × Int32 × Int32 × Int32) :=
  if p0 < 0 then
    some ((-1 : Int32), tr_asked, tr_brought, tr_friends, tr_used, tr_crumbs, tr_day, sr_number, sr_enough, sr_hopeless, sr_known, ro_asked, ro_brought, ro_friends, ro_used, ro_crumbs, ro_day)
  else
    if (10 : Int32) < p0 then
      some ((-1 : Int32), tr_asked, tr_brought, tr_friends, tr_used, tr_crumbs, tr_day, sr_number, sr_enough, sr_hopeless, sr_known, ro_asked, ro_brought, ro_friends, ro_used, ro_crumbs, ro_day)
    else
      if p1 < 0 then
        some ((-1 : Int32), tr_asked, tr_brought, tr_friends, tr_used, tr_crumbs, tr_day, sr_number, sr_enough, sr_hopeless, sr_known, ro_asked, ro_brought, ro_friends, ro_used, ro_crumbs, ro_day)
      else
        if p1 ≤ (1 : Int32) then
          (m_X4_tasksToSuggest no_asked no_day mo_tasks mo_lastDay).bind fun r5 =>
          (m_X5_chancesOfTen N mo_tasks mo_lastDay mo_kinds mo_rideDays mo_helpKinds mo_nexts mo_helpersOfKind no_asked no_brought no_friends no_used no_crumbs no_day tr_asked tr_brought tr_friends tr_used tr_crumbs tr_day us_lastPlace us_left sr_number sr_enough sr_hopeless sr_known ro_asked ro_brought ro_friends ro_used ro_crumbs ro_day r5 p0).bind fun r7 =>
          (m_J6_bitCount_0f7a4 r5).bind fun r11 =>
          (m_X5_power N (10 : Int32) r11).bind fun r13 =>
          (m_X5_commonDivisor N r7.1 r13).bind fun r15 =>
          if (1 : Int32) ≤ r15 then
            if p1 = 0 then
              if ¬ r15 = 0 then
              some ((r7.1 / r15), r7.2.1, r7.2.2.1, r7.2.2.2.1, r7.2.2.2.2.1, r7.2.2.2.2.2.1, r7.2.2.2.2.2.2.1, r7.2.2.2.2.2.2.2.1, r7.2.2.2.2.2.2.2.2.1, r7.2.2.2.2.2.2.2.2.2.1, r7.2.2.2.2.2.2.2.2.2.2.1, r7.2.2.2.2.2.2.2.2.2.2.2.1, r7.2.2.2.2.2.2.2.2.2.2.2.2.1, r7.2.2.2.2.2.2.2.2.2.2.2.2.2.1, r7.2.2.2.2.2.2.2.2.2.2.2.2.2.2.1, r7.2.2.2.2.2.2.2.2.2.2.2.2.2.2.2.1, r7.2.2.2.2.2.2.2.2.2.2.2.2.2.2.2.2)
              else none
            else
              if ¬ r15 = 0 then
              some ((r13 / r15), r7.2.1, r7.2.2.1, r7.2.2.2.1, r7.2.2.2.2.1, r7.2.2.2.2.2.1, r7.2.2.2.2.2.2.1, r7.2.2.2.2.2.2.2.1, r7.2.2.2.2.2.2.2.2.1, r7.2.2.2.2.2.2.2.2.2.1, r7.2.2.2.2.2.2.2.2.2.2.1, r7.2.2.2.2.2.2.2.2.2.2.2.1, r7.2.2.2.2.2.2.2.2.2.2.2.2.1, r7.2.2.2.2.2.2.2.2.2.2.2.2.2.1, r7.2.2.2.2.2.2.2.2.2.2.2.2.2.2.1, r7.2.2.2.2.2.2.2.2.2.2.2.2.2.2.2.1, r7.2.2.2.2.2.2.2.2.2.2.2.2.2.2.2.2)
              else none
          else
            some (p1, r7.2.1, r7.2.2.1, r7.2.2.2.1, r7.2.2.2.2.1, r7.2.2.2.2.2.1, r7.2.2.2.2.2.2.1, r7.2.2.2.2.2.2.2.1, r7.2.2.2.2.2.2.2.2.1, r7.2.2.2.2.2.2.2.2.2.1, r7.2.2.2.2.2.2.2.2.2.2.1, r7.2.2.2.2.2.2.2.2.2.2.2.1, r7.2.2.2.2.2.2.2.2.2.2.2.2.1, r7.2.2.2.2.2.2.2.2.2.2.2.2.2.1, r7.2.2.2.2.2.2.2.2.2.2.2.2.2.2.1, r7.2.2.2.2.2.2.2.2.2.2.2.2.2.2.2.1, r7.2.2.2.2.2.2.2.2.2.2.2.2.2.2.2.2)
        else
          some ((-1 : Int32), tr_asked, tr_brought, tr_friends, tr_used, tr_crumbs, tr_day, sr_number, sr_enough, sr_hopeless, sr_known, ro_asked, ro_brought, ro_friends, ro_used, ro_crumbs, ro_day)

def m_X5_handUp (N : Nat) (mo_tasks : Int32) (mo_lastDay : Int32) (mo_days : (Nat → Int32)) (no_asked : Int32) (no_brought : Int32) (no_friends : Int32) (no_used : Int32) (no_crumbs : Int32) (no_day : Int32) (un_size : Int32) (un_held : (Nat → Int64)) (p0 : Int32) : Option (Int32 × Int32 × Int32 × Int32 × (Nat → Int64)) :=
  (m_X0_hasTask mo_tasks p0).bind fun r1 =>
  if r1 = 0 then
    some ((-1 : Int32), no_brought, no_day, un_size, un_held)
  else
    (m_X4_packed no_asked no_brought no_friends no_used no_crumbs no_day).bind fun r4 =>
    (m_X4_tryHandUp no_asked no_brought no_day mo_lastDay mo_days p0).bind fun r6 =>
    if r6.1 = 0 then
      some ((-2 : Int32), r6.2.1, r6.2.2, un_size, un_held)
    else
      (m_X1_put N un_size 8 un_held r4).bind fun r9 =>
      some (r6.2.2, r6.2.1, r6.2.2, r9.1, r9.2)

def m_X5_help (mo_tasks : Int32) (mo_lastDay : Int32) (mo_kinds : (Nat → Int32)) (mo_helpKinds : (Nat → Int32)) (mo_helpersOfKind : (Nat → Int32)) (no_asked : Int32) (no_brought : Int32) (no_friends : Int32) (no_used : Int32) (no_day : Int32) (p0 : Int32) : Option Int32 :=
  (m_X0_hasTask mo_tasks p0).bind fun r1 =>
  if r1 = 0 then
    some (-1 : Int32)
  else
    (m_X4_helpersFor no_asked no_brought no_friends no_used no_day mo_lastDay mo_kinds mo_helpKinds mo_helpersOfKind p0).bind fun r4 =>
    some r4

def m_X5_helper (mo_helpers : Int32) (mo_helperKinds : (Nat → Int32)) (mo_prices : (Nat → Int32)) (no_friends : Int32) (no_used : Int32) (p0 : Int32) (p1 : Int32) : Option Int32 :=
  (m_X0_hasHelper mo_helpers p0).bind fun r1 =>
  if r1 = 0 then
    some (-1 : Int32)
  else
    if p1 = (0 : Int32) then
      (m_X0_helperKindOf mo_helperKinds p0).bind fun r5 =>
      some r5
    else
    if p1 = (1 : Int32) then
      (m_X0_priceOf mo_prices p0).bind fun r8 =>
      some r8
    else
    if p1 = (2 : Int32) then
      (m_X5_bit p0).bind fun r11 =>
      if (no_friends &&& r11) = 0 then
        (m_X5_oneIf (0 : Int32)).bind fun r14 =>
        some r14
      else
        (m_X5_oneIf (1 : Int32)).bind fun r16 =>
        some r16
    else
    if p1 = (3 : Int32) then
      (m_X5_bit p0).bind fun r19 =>
      if (no_used &&& r19) = 0 then
        (m_X5_oneIf (0 : Int32)).bind fun r22 =>
        some r22
      else
        (m_X5_oneIf (1 : Int32)).bind fun r24 =>
        some r24
    else
      some (-1 : Int32)

def m_X5_keep (N : Nat) (no_asked : Int32) (no_brought : Int32) (no_friends : Int32) (no_used : Int32) (no_crumbs : Int32) (no_day : Int32) (ke_size : Int32) (ke_held : (Nat → Int64)) : Option (Int32 × Int32 × (Nat → Int64)) :=
  if ke_size < (2 : Int32) then
    (m_X4_packed no_asked no_brought no_friends no_used no_crumbs no_day).bind fun r2 =>
    (m_X1_put N ke_size 2 ke_held r2).bind fun r4 =>
    some (r4.1, r4.1, r4.2)
  else
    some ((-3 : Int32), ke_size, ke_held)

def m_X5_kingGoesOn (mo_tasks : Int32) (mo_helpers : Int32) (mo_lastDay : Int32) (mo_kinds : (Nat → Int32)) (mo_rideDays : (Nat → Int32)) (mo_helpKinds : (Nat → Int32)) (mo_nexts : (Nat → Int32)) (mo_prices : (Nat → Int32)) (mo_helpersOfKind : (Nat → Int32)) (st_asked : Int32) (st_brought : Int32) (st_friends : Int32) (st_used : Int32) (st_crumbs : Int32) (st_day : Int32) (p1 : Int32) : Option (Int32 × Int32 × Int32 × Int32 × Int32 × Int32) :=
  if (1 : Int32) ≤ mo_tasks then
    if ¬ mo_tasks = 0 then
    (some (p1 - p1 / mo_tasks * mo_tasks)).bind fun y3 =>
    (m_X4_tryRide st_asked st_brought st_friends st_used st_day mo_lastDay mo_kinds mo_rideDays mo_helpKinds mo_nexts mo_helpersOfKind y3).bind fun r5 =>
    if r5.1 = 0 then
      if mo_helpers ≤ 0 then
        (m_X4_trySuggest r5.2.1 r5.2.2.2.2 mo_tasks mo_lastDay y3).bind fun r9 =>
        some (r9.2, r5.2.2.1, st_friends, r5.2.2.2.1, st_crumbs, r5.2.2.2.2)
      else
        if ¬ mo_helpers = 0 then
        (m_X4_tryBefriend st_friends st_crumbs mo_prices ((p1 / (8 : Int32)) - (p1 / (8 : Int32)) / mo_helpers * mo_helpers)).bind fun r13 =>
        if r13.1 = 0 then
          (m_X4_trySuggest r5.2.1 r5.2.2.2.2 mo_tasks mo_lastDay y3).bind fun r16 =>
          some (r16.2, r5.2.2.1, r13.2.1, r5.2.2.2.1, r13.2.2, r5.2.2.2.2)
        else
          some (r5.2.1, r5.2.2.1, r13.2.1, r5.2.2.2.1, r13.2.2, r5.2.2.2.2)
        else none
    else
      some (r5.2.1, r5.2.2.1, st_friends, r5.2.2.2.1, st_crumbs, r5.2.2.2.2)
    else none
  else
    some (st_asked, st_brought, st_friends, st_used, st_crumbs, st_day)

def lp_X5_king_50 (v1 : Int32) (v2 : Int32) (mo_tasks : Int32) (mo_helpers : Int32) (mo_lastDay : Int32) (mo_kinds : (Nat → Int32)) (mo_rideDays : (Nat → Int32)) (mo_helpKinds : (Nat → Int32)) (mo_nexts : (Nat → Int32)) (mo_prices : (Nat → Int32)) (mo_helpersOfKind : (Nat → Int32)) : Nat → Int32 → Int32 → Int32 → Int32 → Int32 → Int32 → Int32 → Option (Int32 × Int32 × Int32 × Int32 × Int32 × Int32)
  | 0, _, _, _, _, _, _, _ => none
  | n + 1, v4, tr_asked, tr_brought, tr_friends, tr_used, tr_crumbs, tr_day =>
    if v2 ≤ v4 then
      some (tr_asked, tr_brought, tr_friends, tr_used, tr_crumbs, tr_day)
    else
      (m_X5_drawOf v1 v4).bind fun r12 =>
      (m_X5_kingGoesOn mo_tasks mo_helpers mo_lastDay mo_kinds mo_rideDays mo_helpKinds mo_nexts mo_prices mo_helpersOfKind tr_asked tr_brought tr_friends tr_used tr_crumbs tr_day r12).bind fun r14 =>
      lp_X5_king_50 v1 v2 mo_tasks mo_helpers mo_lastDay mo_kinds mo_rideDays mo_helpKinds mo_nexts mo_prices mo_helpersOfKind n (v4 + 1) r14.1 r14.2.1 r14.2.2.1 r14.2.2.2.1 r14.2.2.2.2.1 r14.2.2.2.2.2

def m_X5_king (N : Nat) (mo_tasks : Int32) (mo_helpers : Int32) (mo_lastDay : Int32) (mo_kinds : (Nat → Int32)) (mo_rideDays : (Nat → Int32)) (mo_helpKinds : (Nat → Int32)) (mo_nexts : (Nat → Int32)) (mo_prices : (Nat → Int32)) (mo_helpersOfKind : (Nat → Int32)) (no_asked : Int32) (no_brought : Int32) (no_friends : Int32) (no_used : Int32) (no_crumbs : Int32) (no_day : Int32) (tr_asked : Int32) (tr_brought : Int32) (tr_friends : Int32) (tr_used : Int32) (tr_crumbs : Int32) (tr_day : Int32) (p0 : Int32) (p1 : Int32) (p2 : Int32) : Option (Int32 × Int32 × Int32 × Int32 × Int32 × Int32 × Int32) :=
  if p0 < 0 then
    some ((-1 : Int32), tr_asked, tr_brought, tr_friends, tr_used, tr_crumbs, tr_day)
  else
    if (9999 : Int32) < p0 then
      some ((-1 : Int32), tr_asked, tr_brought, tr_friends, tr_used, tr_crumbs, tr_day)
    else
      if p1 < (1 : Int32) then
        some ((-1 : Int32), tr_asked, tr_brought, tr_friends, tr_used, tr_crumbs, tr_day)
      else
        if (40 : Int32) < p1 then
          some ((-1 : Int32), tr_asked, tr_brought, tr_friends, tr_used, tr_crumbs, tr_day)
        else
          if p2 < 0 then
            some ((-1 : Int32), tr_asked, tr_brought, tr_friends, tr_used, tr_crumbs, tr_day)
          else
            if p2 ≤ (2 : Int32) then
              (m_X4_packed no_asked no_brought no_friends no_used no_crumbs no_day).bind fun r7 =>
              (m_X4_unpack r7).bind fun r9 =>
              (lp_X5_king_50 p0 p1 mo_tasks mo_helpers mo_lastDay mo_kinds mo_rideDays mo_helpKinds mo_nexts mo_prices mo_helpersOfKind N (0 : Int32) r9.1 r9.2.1 r9.2.2.1 r9.2.2.2.1 r9.2.2.2.2.1 r9.2.2.2.2.2).bind fun r16 =>
              if p2 = 0 then
                (m_J6_bitCount_0f7a4 r16.2.1).bind fun r24 =>
                some (r24, r16.1, r16.2.1, r16.2.2.1, r16.2.2.2.1, r16.2.2.2.2.1, r16.2.2.2.2.2)
              else
                if p2 = (1 : Int32) then
                  some (r16.2.2.2.2.2, r16.1, r16.2.1, r16.2.2.1, r16.2.2.2.1, r16.2.2.2.2.1, r16.2.2.2.2.2)
                else
                  (m_X4_isLost r16.2.2.2.2.2 mo_lastDay).bind fun r20 =>
                  (m_X5_oneIf r20).bind fun r22 =>
                  some (r22, r16.1, r16.2.1, r16.2.2.1, r16.2.2.2.1, r16.2.2.2.2.1, r16.2.2.2.2.2)
            else
              some ((-1 : Int32), tr_asked, tr_brought, tr_friends, tr_used, tr_crumbs, tr_day)

def m_X5_lay (N : Nat) (x_letters : Int32) (x_text : (Nat → Int32)) (sp_kinds : (Nat → Int32)) (sp_days : (Nat → Int32)) (sp_rideDays : (Nat → Int32)) (sp_helpKinds : (Nat → Int32)) (sp_nexts : (Nat → Int32)) (sp_helperKinds : (Nat → Int32)) (sp_prices : (Nat → Int32)) (sp_helpersOfKind : (Nat → Int32)) (sp_numbers : (Nat → Int32)) (no_asked : Int32) (no_brought : Int32) (no_friends : Int32) (no_used : Int32) (no_crumbs : Int32) (no_day : Int32) (un_size : Int32) (ke_size : Int32) (se_size : Int32) (se_lastPlace : Int32) (se_left : (Nat → Int32)) : Option (Int32 × Int32 × Int32 × Int32 × Int32 × Int32 × (Nat → Int32) × (Nat → Int32) × (Nat → Int32) × (Nat → Int32) × (Nat → Int32) × (Nat → Int32) × (Nat → Int32) × (Nat → Int32) × (Nat → Int32) × Int32 × Int32 × Int32 × Int32 × Int32 × Int32 × Int32 × Int32 × Int32 × Int32 × (Nat → Int32)) :=
  (m_X0_readFrom N sp_kinds sp_days sp_rideDays sp_helpKinds sp_nexts sp_helperKinds sp_prices sp_helpersOfKind sp_numbers 200 x_text x_letters).bind fun r1 =>
  if r1.1 = (-4 : Int32) then
    (m_X0_canBeLaid N r1.2.1 r1.2.2.2.2.2.2.2.2.2.2.1).bind fun r4 =>
    if r4 = 0 then
      some ((-2 : Int32), r1.2.1, r1.2.2.1, r1.2.2.2.1, r1.2.2.2.2.1, r1.2.2.2.2.2.1, r1.2.2.2.2.2.2.1, r1.2.2.2.2.2.2.2.1, r1.2.2.2.2.2.2.2.2.1, r1.2.2.2.2.2.2.2.2.2.1, r1.2.2.2.2.2.2.2.2.2.2.1, r1.2.2.2.2.2.2.2.2.2.2.2.1, r1.2.2.2.2.2.2.2.2.2.2.2.2.1, r1.2.2.2.2.2.2.2.2.2.2.2.2.2.1, r1.2.2.2.2.2.2.2.2.2.2.2.2.2.2, no_asked, no_brought, no_friends, no_used, no_crumbs, no_day, un_size, ke_size, se_size, se_lastPlace, se_left)
    else
      (m_X4_begin r1.2.2.2.1 r1.2.2.2.2.1).bind fun r7 =>
      (m_X1_clear).bind fun r9 =>
      (m_X1_clear).bind fun r11 =>
      (m_X3_clear N se_left).bind fun r13 =>
      some (r1.2.1, r1.2.1, r1.2.2.1, r1.2.2.2.1, r1.2.2.2.2.1, r1.2.2.2.2.2.1, r1.2.2.2.2.2.2.1, r1.2.2.2.2.2.2.2.1, r1.2.2.2.2.2.2.2.2.1, r1.2.2.2.2.2.2.2.2.2.1, r1.2.2.2.2.2.2.2.2.2.2.1, r1.2.2.2.2.2.2.2.2.2.2.2.1, r1.2.2.2.2.2.2.2.2.2.2.2.2.1, r1.2.2.2.2.2.2.2.2.2.2.2.2.2.1, r1.2.2.2.2.2.2.2.2.2.2.2.2.2.2, r7.1, r7.2.1, r7.2.2.1, r7.2.2.2.1, r7.2.2.2.2.1, r7.2.2.2.2.2, r9, r11, r13.1, r13.2.1, r13.2.2)
  else
    some ((-2 : Int32), r1.2.1, r1.2.2.1, r1.2.2.2.1, r1.2.2.2.2.1, r1.2.2.2.2.2.1, r1.2.2.2.2.2.2.1, r1.2.2.2.2.2.2.2.1, r1.2.2.2.2.2.2.2.2.1, r1.2.2.2.2.2.2.2.2.2.1, r1.2.2.2.2.2.2.2.2.2.2.1, r1.2.2.2.2.2.2.2.2.2.2.2.1, r1.2.2.2.2.2.2.2.2.2.2.2.2.1, r1.2.2.2.2.2.2.2.2.2.2.2.2.2.1, r1.2.2.2.2.2.2.2.2.2.2.2.2.2.2, no_asked, no_brought, no_friends, no_used, no_crumbs, no_day, un_size, ke_size, se_size, se_lastPlace, se_left)

def m_X5_mayCome (N : Nat) (mo_tasks : Int32) (mo_nexts : (Nat → Int32)) (no_asked : Int32) (no_brought : Int32) : Option Int32 :=
  (m_X4_tasksToCome N no_asked no_brought mo_tasks mo_nexts).bind fun r1 =>
  some r1

def m_X5_ride (N : Nat) (mo_tasks : Int32) (mo_lastDay : Int32) (mo_kinds : (Nat → Int32)) (mo_rideDays : (Nat → Int32)) (mo_helpKinds : (Nat → Int32)) (mo_nexts : (Nat → Int32)) (mo_helpersOfKind : (Nat → Int32)) (no_asked : Int32) (no_brought : Int32) (no_friends : Int32) (no_used : Int32) (no_crumbs : Int32) (no_day : Int32) (un_size : Int32) (un_held : (Nat → Int64)) (p0 : Int32) : Option (Int32 × Int32 × Int32 × Int32 × Int32 × Int32 × (Nat → Int64)) :=
  (m_X0_hasTask mo_tasks p0).bind fun r1 =>
  if r1 = 0 then
    some ((-1 : Int32), no_asked, no_brought, no_used, no_day, un_size, un_held)
  else
    (m_X4_packed no_asked no_brought no_friends no_used no_crumbs no_day).bind fun r4 =>
    (m_X4_tryRide no_asked no_brought no_friends no_used no_day mo_lastDay mo_kinds mo_rideDays mo_helpKinds mo_nexts mo_helpersOfKind p0).bind fun r6 =>
    if r6.1 = 0 then
      some ((-2 : Int32), r6.2.1, r6.2.2.1, r6.2.2.2.1, r6.2.2.2.2, un_size, un_held)
    else
      (m_X1_put N un_size 8 un_held r4).bind fun r9 =>
      some (r6.2.2.2.2, r6.2.1, r6.2.2.1, r6.2.2.2.1, r6.2.2.2.2, r9.1, r9.2)

def m_X5_rows (N : Nat) (mo_tasks : Int32) (mo_lastDay : Int32) (mo_kinds : (Nat → Int32)) (mo_rideDays : (Nat → Int32)) (mo_helpKinds : (Nat → Int32)) (mo_nexts : (Nat → Int32)) (mo_helpersOfKind : (Nat → Int32)) (no_asked : Int32) (no_brought : Int32) (no_friends : Int32) (no_used : Int32) (no_crumbs : Int32) (no_day : Int32) (se_lastPlace : Int32) (se_left : (Nat → Int32)) (sr_number : Int64) (sr_enough : Int64) (sr_hopeless : Int32) (sr_known : (Nat → Int64)) (ro_asked : Int32) (ro_brought : Int32) (ro_friends : Int32) (ro_used : Int32) (ro_crumbs : Int32) (ro_day : Int32) (p0 : Int32) : Option (Int32 × Int64 × Int64 × Int32 × (Nat → Int64) × Int32 × Int32 × Int32 × Int32 × Int32 × Int32) :=
  if p0 < 0 then
    some ((-1 : Int32), sr_number, sr_enough, sr_hopeless, sr_known, ro_asked, ro_brought, ro_friends, ro_used, ro_crumbs, ro_day)
  else
    if p0 ≤ (8 : Int32) then
      if p0 = 0 then
        (m_X2_waysOf N sr_number sr_known mo_tasks mo_lastDay mo_kinds mo_rideDays mo_helpKinds mo_nexts mo_helpersOfKind no_asked no_brought no_friends no_used no_crumbs no_day se_lastPlace se_left).bind fun r6 =>
        some (r6.1, r6.2.1, r6.2.2.1, r6.2.2.2.1, r6.2.2.2.2.1, r6.2.2.2.2.2.1, r6.2.2.2.2.2.2.1, r6.2.2.2.2.2.2.2.1, r6.2.2.2.2.2.2.2.2.1, r6.2.2.2.2.2.2.2.2.2.1, r6.2.2.2.2.2.2.2.2.2.2)
      else
        (m_X2_placeInFirst N sr_number sr_known mo_tasks mo_lastDay mo_kinds mo_rideDays mo_helpKinds mo_nexts mo_helpersOfKind no_asked no_brought no_friends no_used no_crumbs no_day se_lastPlace se_left p0).bind fun r4 =>
        some (r4.1, r4.2.1, r4.2.2.1, r4.2.2.2.1, r4.2.2.2.2.1, r4.2.2.2.2.2.1, r4.2.2.2.2.2.2.1, r4.2.2.2.2.2.2.2.1, r4.2.2.2.2.2.2.2.2.1, r4.2.2.2.2.2.2.2.2.2.1, r4.2.2.2.2.2.2.2.2.2.2)
    else
      some ((-1 : Int32), sr_number, sr_enough, sr_hopeless, sr_known, ro_asked, ro_brought, ro_friends, ro_used, ro_crumbs, ro_day)

def m_X5_see (mo_tasks : Int32) (se_size : Int32) (se_lastPlace : Int32) (se_left : (Nat → Int32)) (p0 : Int32) (p1 : Int32) : Option (Int32 × Int32 × Int32 × (Nat → Int32)) :=
  (m_X0_hasTask mo_tasks p0).bind fun r1 =>
  if r1 = 0 then
    some ((-1 : Int32), se_size, se_lastPlace, se_left)
  else
    if p1 < (1 : Int32) then
      some ((-1 : Int32), se_size, se_lastPlace, se_left)
    else
      if p1 ≤ (8 : Int32) then
        if se_size < (6 : Int32) then
          (m_X3_add se_size se_lastPlace se_left p0 p1).bind fun r7 =>
          some (r7.1, r7.1, r7.2.1, r7.2.2)
        else
          some ((-3 : Int32), se_size, se_lastPlace, se_left)
      else
        some ((-1 : Int32), se_size, se_lastPlace, se_left)

def m_X5_step (N : Nat) (mo_tasks : Int32) (mo_lastDay : Int32) (mo_kinds : (Nat → Int32)) (mo_rideDays : (Nat → Int32)) (mo_helpKinds : (Nat → Int32)) (mo_nexts : (Nat → Int32)) (mo_helpersOfKind : (Nat → Int32)) (no_asked : Int32) (no_brought : Int32) (no_friends : Int32) (no_used : Int32) (no_crumbs : Int32) (no_day : Int32) (tr_asked : Int32) (tr_brought : Int32) (tr_friends : Int32) (tr_used : Int32) (tr_crumbs : Int32) (tr_day : Int32) (us_lastPlace : Int32) (us_left : (Nat → Int32)) (sr_number : Int64) (sr_enough : Int64) (sr_hopeless : Int32) (sr_known : (Nat → Int64)) (ro_asked : Int32) (ro_brought : Int32) (ro_friends : Int32) (ro_used : Int32) (ro_crumbs : Int32) (ro_day : Int32) (p0 : Int32) : Option (Int32 × Int32 × Int32 × Int32 × Int32 × Int32 × Int32 × Int64 × Int64 × Int32 × (Nat → Int64) × Int32 × Int32 × Int32 × Int32 × Int32 × Int32) :=
  (m_X0_hasTask mo_tasks p0).bind fun r1 =>
  if r1 = 0 then
    some ((-1 : Int32), tr_asked, tr_brought, tr_friends, tr_used, tr_crumbs, tr_day, sr_number, sr_enough, sr_hopeless, sr_known, ro_asked, ro_brought, ro_friends, ro_used, ro_crumbs, ro_day)
  else
    (m_X4_packed no_asked no_brought no_friends no_used no_crumbs no_day).bind fun r4 =>
    (m_X4_unpack r4).bind fun r6 =>
    (m_X4_tryRide r6.1 r6.2.1 r6.2.2.1 r6.2.2.2.1 r6.2.2.2.2.2 mo_lastDay mo_kinds mo_rideDays mo_helpKinds mo_nexts mo_helpersOfKind p0).bind fun r8 =>
    if r8.1 = 0 then
      some ((0 : Int32), r8.2.1, r8.2.2.1, r6.2.2.1, r8.2.2.2.1, r6.2.2.2.2.1, r8.2.2.2.2, sr_number, sr_enough, sr_hopeless, sr_known, ro_asked, ro_brought, ro_friends, ro_used, ro_crumbs, ro_day)
    else
      (m_X2_waysOf N sr_number sr_known mo_tasks mo_lastDay mo_kinds mo_rideDays mo_helpKinds mo_nexts mo_helpersOfKind r8.2.1 r8.2.2.1 r6.2.2.1 r8.2.2.2.1 r6.2.2.2.2.1 r8.2.2.2.2 us_lastPlace us_left).bind fun r11 =>
      some (r11.1, r8.2.1, r8.2.2.1, r6.2.2.1, r8.2.2.2.1, r6.2.2.2.2.1, r8.2.2.2.2, r11.2.1, r11.2.2.1, r11.2.2.2.1, r11.2.2.2.2.1, r11.2.2.2.2.2.1, r11.2.2.2.2.2.2.1, r11.2.2.2.2.2.2.2.1, r11.2.2.2.2.2.2.2.2.1, r11.2.2.2.2.2.2.2.2.2.1, r11.2.2.2.2.2.2.2.2.2.2)

def m_X5_suggest (N : Nat) (mo_tasks : Int32) (mo_lastDay : Int32) (no_asked : Int32) (no_brought : Int32) (no_friends : Int32) (no_used : Int32) (no_crumbs : Int32) (no_day : Int32) (un_size : Int32) (un_held : (Nat → Int64)) (p0 : Int32) : Option (Int32 × Int32 × Int32 × (Nat → Int64)) :=
  (m_X0_hasTask mo_tasks p0).bind fun r1 =>
  if r1 = 0 then
    some ((-1 : Int32), no_asked, un_size, un_held)
  else
    (m_X4_packed no_asked no_brought no_friends no_used no_crumbs no_day).bind fun r4 =>
    (m_X4_trySuggest no_asked no_day mo_tasks mo_lastDay p0).bind fun r6 =>
    if r6.1 = 0 then
      some ((-2 : Int32), r6.2, un_size, un_held)
    else
      (m_X1_put N un_size 8 un_held r4).bind fun r9 =>
      (m_X4_openTasks r6.2 no_brought).bind fun r11 =>
      (m_J6_bitCount_0f7a4 r11).bind fun r13 =>
      some (r13, r6.2, r9.1, r9.2)

def m_X5_task (mo_tasks : Int32) (mo_lastDay : Int32) (mo_kinds : (Nat → Int32)) (mo_days : (Nat → Int32)) (mo_helpKinds : (Nat → Int32)) (mo_nexts : (Nat → Int32)) (mo_helpersOfKind : (Nat → Int32)) (no_asked : Int32) (no_brought : Int32) (no_friends : Int32) (no_used : Int32) (no_day : Int32) (p0 : Int32) (p1 : Int32) : Option Int32 :=
  (m_X0_hasTask mo_tasks p0).bind fun r1 =>
  if r1 = 0 then
    some (-1 : Int32)
  else
    if p1 = (0 : Int32) then
      (m_X0_kindOf mo_kinds p0).bind fun r5 =>
      some r5
    else
    if p1 = (1 : Int32) then
      (m_X0_daysOf mo_days p0).bind fun r8 =>
      some r8
    else
    if p1 = (2 : Int32) then
      (m_X0_helpKindOf mo_helpKinds p0).bind fun r11 =>
      some r11
    else
    if p1 = (3 : Int32) then
      (m_X0_nextOf mo_nexts p0).bind fun r14 =>
      some r14
    else
    if p1 = (4 : Int32) then
      (m_X5_bit p0).bind fun r17 =>
      if (no_asked &&& r17) = 0 then
        (m_X5_oneIf (0 : Int32)).bind fun r20 =>
        some r20
      else
        (m_X5_oneIf (1 : Int32)).bind fun r22 =>
        some r22
    else
    if p1 = (5 : Int32) then
      (m_X5_bit p0).bind fun r25 =>
      if (no_brought &&& r25) = 0 then
        (m_X5_oneIf (0 : Int32)).bind fun r28 =>
        some r28
      else
        (m_X5_oneIf (1 : Int32)).bind fun r30 =>
        some r30
    else
    if p1 = (6 : Int32) then
      (m_X4_helpersFor no_asked no_brought no_friends no_used no_day mo_lastDay mo_kinds mo_helpKinds mo_helpersOfKind p0).bind fun r33 =>
      if r33 < 0 then
        (m_X5_oneIf (0 : Int32)).bind fun r36 =>
        some r36
      else
        (m_X5_oneIf (1 : Int32)).bind fun r38 =>
        some r38
    else
      some (-1 : Int32)

def m_X5_undo (no_asked : Int32) (no_brought : Int32) (no_friends : Int32) (no_used : Int32) (no_crumbs : Int32) (no_day : Int32) (un_size : Int32) (un_held : (Nat → Int64)) : Option (Int32 × Int32 × Int32 × Int32 × Int32 × Int32 × Int32 × Int32) :=
  if (1 : Int32) ≤ un_size then
    (m_X1_takeLatest un_size 8 un_held).bind fun r2 =>
    (m_X4_unpack r2.1).bind fun r4 =>
    some (r2.2, r4.1, r4.2.1, r4.2.2.1, r4.2.2.2.1, r4.2.2.2.2.1, r4.2.2.2.2.2, r2.2)
  else
    some ((-2 : Int32), no_asked, no_brought, no_friends, no_used, no_crumbs, no_day, un_size)

def m_X5_well (N : Nat) (mo_tasks : Int32) (mo_lastDay : Int32) (mo_kinds : (Nat → Int32)) (mo_rideDays : (Nat → Int32)) (mo_helpKinds : (Nat → Int32)) (mo_nexts : (Nat → Int32)) (mo_helpersOfKind : (Nat → Int32)) (no_asked : Int32) (no_brought : Int32) (no_friends : Int32) (no_used : Int32) (no_crumbs : Int32) (no_day : Int32) (us_lastPlace : Int32) (us_left : (Nat → Int32)) (sr_number : Int64) (sr_enough : Int64) (sr_hopeless : Int32) (sr_known : (Nat → Int64)) (ro_asked : Int32) (ro_brought : Int32) (ro_friends : Int32) (ro_used : Int32) (ro_crumbs : Int32) (ro_day : Int32) (p0 : Int32) : Option (Int32 × Int64 × Int64 × Int32 × (Nat → Int64) × Int32 × Int32 × Int32 × Int32 × Int32 × Int32) :=
  if p0 < 0 then
    some ((-1 : Int32), sr_number, sr_enough, sr_hopeless, sr_known, ro_asked, ro_brought, ro_friends, ro_used, ro_crumbs, ro_day)
  else
    if p0 ≤ (8 : Int32) then
      if p0 = 0 then
        (m_X2_waysOf N sr_number sr_known mo_tasks mo_lastDay mo_kinds mo_rideDays mo_helpKinds mo_nexts mo_helpersOfKind no_asked no_brought no_friends no_used no_crumbs no_day us_lastPlace us_left).bind fun r6 =>
        some (r6.1, r6.2.1, r6.2.2.1, r6.2.2.2.1, r6.2.2.2.2.1, r6.2.2.2.2.2.1, r6.2.2.2.2.2.2.1, r6.2.2.2.2.2.2.2.1, r6.2.2.2.2.2.2.2.2.1, r6.2.2.2.2.2.2.2.2.2.1, r6.2.2.2.2.2.2.2.2.2.2)
      else
        (m_X2_placeInFirst N sr_number sr_known mo_tasks mo_lastDay mo_kinds mo_rideDays mo_helpKinds mo_nexts mo_helpersOfKind no_asked no_brought no_friends no_used no_crumbs no_day us_lastPlace us_left p0).bind fun r4 =>
        some (r4.1, r4.2.1, r4.2.2.1, r4.2.2.2.1, r4.2.2.2.2.1, r4.2.2.2.2.2.1, r4.2.2.2.2.2.2.1, r4.2.2.2.2.2.2.2.1, r4.2.2.2.2.2.2.2.2.1, r4.2.2.2.2.2.2.2.2.2.1, r4.2.2.2.2.2.2.2.2.2.2)
    else
      some ((-1 : Int32), sr_number, sr_enough, sr_hopeless, sr_known, ro_asked, ro_brought, ro_friends, ro_used, ro_crumbs, ro_day)

def m_X5_wipe (x_letters : Int32) : Option (Int32 × Int32) :=
  some (x_letters, (0 : Int32))

def m_X5_worth (N : Nat) (mo_tasks : Int32) (mo_helpers : Int32) (mo_lastDay : Int32) (mo_kinds : (Nat → Int32)) (mo_rideDays : (Nat → Int32)) (mo_helpKinds : (Nat → Int32)) (mo_nexts : (Nat → Int32)) (mo_prices : (Nat → Int32)) (mo_helpersOfKind : (Nat → Int32)) (no_asked : Int32) (no_brought : Int32) (no_friends : Int32) (no_used : Int32) (no_crumbs : Int32) (no_day : Int32) (tr_asked : Int32) (tr_brought : Int32) (tr_friends : Int32) (tr_used : Int32) (tr_crumbs : Int32) (tr_day : Int32) (us_lastPlace : Int32) (us_left : (Nat → Int32)) (sr_number : Int64) (sr_enough : Int64) (sr_hopeless : Int32) (sr_known : (Nat → Int64)) (ro_asked : Int32) (ro_brought : Int32) (ro_friends : Int32) (ro_used : Int32) (ro_crumbs : Int32) (ro_day : Int32) (p0 : Int32) (p1 : Int32) : Option (Int32 × Int32 × Int32 × Int32 × Int32 × Int32 × Int32 × Int64 × Int64 × Int32 × (Nat → Int64) × Int32 × Int32 × Int32 × Int32 × Int32 × Int32) :=
  (m_X0_hasHelper mo_helpers p0).bind fun r1 =>
  if r1 = 0 then
    some ((-1 : Int32), tr_asked, tr_brought, tr_friends, tr_used, tr_crumbs, tr_day, sr_number, sr_enough, sr_hopeless, sr_known, ro_asked, ro_brought, ro_friends, ro_used, ro_crumbs, ro_day)
  else
    if p1 < 0 then
      some ((-1 : Int32), tr_asked, tr_brought, tr_friends, tr_used, tr_crumbs, tr_day, sr_number, sr_enough, sr_hopeless, sr_known, ro_asked, ro_brought, ro_friends, ro_used, ro_crumbs, ro_day)
    else
      if p1 ≤ (1 : Int32) then
        (m_X5_bit p0).bind fun r6 =>
        if (no_friends &&& r6) = 0 then
          (m_X4_packed no_asked no_brought no_friends no_used no_crumbs no_day).bind fun r9 =>
          (m_X4_unpack r9).bind fun r11 =>
          (m_X5_bit p0).bind fun r13 =>
          if p1 = 0 then
            (m_X2_waysOf N sr_number sr_known mo_tasks mo_lastDay mo_kinds mo_rideDays mo_helpKinds mo_nexts mo_helpersOfKind no_asked no_brought no_friends no_used no_crumbs no_day us_lastPlace us_left).bind fun r26 =>
            (m_X2_waysOf N r26.2.1 r26.2.2.2.2.1 mo_tasks mo_lastDay mo_kinds mo_rideDays mo_helpKinds mo_nexts mo_helpersOfKind r11.1 r11.2.1 (r11.2.2.1 ||| r13) r11.2.2.2.1 r11.2.2.2.2.1 r11.2.2.2.2.2 us_lastPlace us_left).bind fun r28 =>
            some ((if (0 : Int32) < (r28.1 - r26.1) then (r28.1 - r26.1) else (0 : Int32)), r11.1, r11.2.1, (r11.2.2.1 ||| r13), r11.2.2.2.1, r11.2.2.2.2.1, r11.2.2.2.2.2, r28.2.1, r28.2.2.1, r28.2.2.2.1, r28.2.2.2.2.1, r28.2.2.2.2.2.1, r28.2.2.2.2.2.2.1, r28.2.2.2.2.2.2.2.1, r28.2.2.2.2.2.2.2.2.1, r28.2.2.2.2.2.2.2.2.2.1, r28.2.2.2.2.2.2.2.2.2.2)
          else
            (m_X2_fewestSet N sr_number sr_known us_lastPlace us_left mo_tasks mo_helpers mo_lastDay mo_kinds mo_rideDays mo_helpKinds mo_nexts mo_prices mo_helpersOfKind no_asked no_brought no_friends no_used no_crumbs no_day).bind fun r16 =>
            (m_X2_fewestSet N r16.2.1 r16.2.2.2.2.1 us_lastPlace us_left mo_tasks mo_helpers mo_lastDay mo_kinds mo_rideDays mo_helpKinds mo_nexts mo_prices mo_helpersOfKind r11.1 r11.2.1 (r11.2.2.1 ||| r13) r11.2.2.2.1 r11.2.2.2.2.1 r11.2.2.2.2.2).bind fun r18 =>
            if r16.1 < 0 then
              some ((-4 : Int32), r11.1, r11.2.1, (r11.2.2.1 ||| r13), r11.2.2.2.1, r11.2.2.2.2.1, r11.2.2.2.2.2, r18.2.1, r18.2.2.1, r18.2.2.2.1, r18.2.2.2.2.1, r18.2.2.2.2.2.1, r18.2.2.2.2.2.2.1, r18.2.2.2.2.2.2.2.1, r18.2.2.2.2.2.2.2.2.1, r18.2.2.2.2.2.2.2.2.2.1, r18.2.2.2.2.2.2.2.2.2.2)
            else
              if 0 ≤ r18.1 then
                (m_X0_priceOfSet N mo_helpers mo_prices r16.1).bind fun r22 =>
                (m_X0_priceOfSet N mo_helpers mo_prices r18.1).bind fun r24 =>
                some ((r22 - r24), r11.1, r11.2.1, (r11.2.2.1 ||| r13), r11.2.2.2.1, r11.2.2.2.2.1, r11.2.2.2.2.2, r18.2.1, r18.2.2.1, r18.2.2.2.1, r18.2.2.2.2.1, r18.2.2.2.2.2.1, r18.2.2.2.2.2.2.1, r18.2.2.2.2.2.2.2.1, r18.2.2.2.2.2.2.2.2.1, r18.2.2.2.2.2.2.2.2.2.1, r18.2.2.2.2.2.2.2.2.2.2)
              else
                some ((-4 : Int32), r11.1, r11.2.1, (r11.2.2.1 ||| r13), r11.2.2.2.1, r11.2.2.2.2.1, r11.2.2.2.2.2, r18.2.1, r18.2.2.1, r18.2.2.2.1, r18.2.2.2.2.1, r18.2.2.2.2.2.1, r18.2.2.2.2.2.2.1, r18.2.2.2.2.2.2.2.1, r18.2.2.2.2.2.2.2.2.1, r18.2.2.2.2.2.2.2.2.2.1, r18.2.2.2.2.2.2.2.2.2.2)
        else
          some ((-2 : Int32), tr_asked, tr_brought, tr_friends, tr_used, tr_crumbs, tr_day, sr_number, sr_enough, sr_hopeless, sr_known, ro_asked, ro_brought, ro_friends, ro_used, ro_crumbs, ro_day)
      else
        some ((-1 : Int32), tr_asked, tr_brought, tr_friends, tr_used, tr_crumbs, tr_day, sr_number, sr_enough, sr_hopeless, sr_known, ro_asked, ro_brought, ro_friends, ro_used, ro_crumbs, ro_day)

def m_X5_write (x_letters : Int32) (x_text : (Nat → Int32)) (p0 : Int32) : Option (Int32 × Int32 × (Nat → Int32)) :=
  if p0 < (32 : Int32) then
    some ((-1 : Int32), x_letters, x_text)
  else
    if p0 ≤ (126 : Int32) then
      if x_letters < 0 then
        some ((-3 : Int32), x_letters, x_text)
      else
        if x_letters < (200 : Int32) then
          (some (((p0).toUInt32 % 65536).toInt32)).bind fun y6 =>
          if inI x_letters 200 then
          some ((x_letters + (1 : Int32)), (x_letters + (1 : Int32)), (upd x_text (x_letters).toNatClampNeg (vp_nar .char y6)))
          else none
        else
          some ((-3 : Int32), x_letters, x_text)
    else
      some ((-1 : Int32), x_letters, x_text)

def lp_X6_back_22 (md_kept : Int32) (md_images : (Nat → Int32)) : Nat → Int32 → (Nat → Int32) → Option (Nat → Int32)
  | 0, _, _ => none
  | n + 1, v1, md_s =>
    if (6 : Int32) ≤ v1 then
      some md_s
    else
      if inI (((6 : Int32) * md_kept) + v1) 12 then
      (some (md_images ((((6 : Int32) * md_kept) + v1)).toNatClampNeg)).bind fun y5 =>
      if inI v1 6 then
      lp_X6_back_22 md_kept md_images n (v1 + 1) (upd md_s (v1).toNatClampNeg y5)
      else none
      else none

def m_X6_back (N : Nat) (md_known : Int32) (md_kept : Int32) (md_s : (Nat → Int32)) (md_images : (Nat → Int32)) : Option (Int32 × Int32 × Int32 × (Nat → Int32)) :=
  if md_kept = 0 then
    some ((-2 : Int32), md_known, md_kept, md_s)
  else
    (lp_X6_back_22 (md_kept - (1 : Int32)) md_images N (0 : Int32) md_s).bind fun r7 =>
    some ((md_kept - (1 : Int32)), (0 : Int32), (md_kept - (1 : Int32)), r7)

def m_X6_in (p0 : Int32) (p1 : Int32) (p2 : Int32) : Option Int32 :=
  if p0 < p1 then
    some (0 : Int32)
  else
    if p2 < p0 then
      some (0 : Int32)
    else
      some (1 : Int32)

def m_X6_isHelper (md_told : (Nat → Int32)) (p0 : Int32) : Option Int32 :=
  (m_X6_in p0 (0 : Int32) ((md_told 1) - (1 : Int32))).bind fun r2 =>
  if isB r2 then some r2 else none

def m_X6_canBefriend (md_told : (Nat → Int32)) (md_s : (Nat → Int32)) (p0 : Int32) : Option Int32 :=
  if (((md_s 2) >>> (p0 &&& 31)) &&& (1 : Int32)) = 0 then
    if inI ((44 : Int32) + p0) 51 then
    if (md_s 4) < (md_told (((44 : Int32) + p0)).toNatClampNeg) then
      some (0 : Int32)
    else
      some (1 : Int32)
    else none
  else
    some (0 : Int32)

def lp_X6_keeps_50 (md_known : Int32) (md_s : (Nat → Int32)) : Nat → Int32 → (Nat → Int32) → Option (Nat → Int32)
  | 0, _, _ => none
  | n + 1, v1, md_past =>
    if (6 : Int32) ≤ v1 then
      some md_past
    else
      if inI v1 6 then
      if inI (((6 : Int32) * md_known) + v1) 48 then
      lp_X6_keeps_50 md_known md_s n (v1 + 1) (upd md_past ((((6 : Int32) * md_known) + v1)).toNatClampNeg (md_s (v1).toNatClampNeg))
      else none
      else none

def lp_X6_keeps_11  : Nat → Int32 → (Nat → Int32) → Option (Nat → Int32)
  | 0, _, _ => none
  | n + 1, v1, md_past =>
    if (42 : Int32) ≤ v1 then
      some md_past
    else
      if inI (v1 + (6 : Int32)) 48 then
      (some (md_past ((v1 + (6 : Int32))).toNatClampNeg)).bind fun y10 =>
      if inI v1 48 then
      lp_X6_keeps_11 n (v1 + 1) (upd md_past (v1).toNatClampNeg y10)
      else none
      else none

def m_X6_keeps (N : Nat) (md_known : Int32) (md_s : (Nat → Int32)) (md_past : (Nat → Int32)) : Option (Int32 × (Nat → Int32)) :=
  if md_known = (8 : Int32) then
    (lp_X6_keeps_11 N (0 : Int32) md_past).bind fun r12 =>
    (lp_X6_keeps_50 (md_known - (1 : Int32)) md_s N (0 : Int32) r12).bind fun r14 =>
    (some ((md_known - (1 : Int32)) + (1 : Int32))).bind fun y16 =>
    some (y16, r14)
  else
    (lp_X6_keeps_50 md_known md_s N (0 : Int32) md_past).bind fun r5 =>
    some ((md_known + (1 : Int32)), r5)

def m_X6_befriends (md_told : (Nat → Int32)) (md_s : (Nat → Int32)) (p0 : Int32) : Option (Nat → Int32) :=
  (some ((md_s 2) ||| ((1 : Int32) <<< (p0 &&& 31)))).bind fun y3 =>
  if inI ((44 : Int32) + p0) 51 then
  (some ((md_s 4) - (md_told (((44 : Int32) + p0)).toNatClampNeg))).bind fun y8 =>
  some (upd (upd md_s 2 y3) 4 y8)
  else none

def m_X6_befriend (N : Nat) (md_known : Int32) (md_told : (Nat → Int32)) (md_s : (Nat → Int32)) (md_past : (Nat → Int32)) (p0 : Int32) : Option (Int32 × Int32 × (Nat → Int32) × (Nat → Int32)) :=
  (m_X6_isHelper md_told p0).bind fun r1 =>
  if r1 = 0 then
    some ((-1 : Int32), md_known, md_s, md_past)
  else
    (m_X6_canBefriend md_told md_s p0).bind fun r4 =>
    if r4 = 0 then
      some ((-2 : Int32), md_known, md_s, md_past)
    else
      (m_X6_keeps N md_known md_s md_past).bind fun r7 =>
      (m_X6_befriends md_told md_s p0).bind fun r9 =>
      some ((r9 4), r7.1, r9, r7.2)

def lp_X6_begins_2  : Nat → Int32 → (Nat → Int32) → Option (Nat → Int32)
  | 0, _, _ => none
  | n + 1, v1, md_draft =>
    if (51 : Int32) ≤ v1 then
      some md_draft
    else
      if inI v1 51 then
      lp_X6_begins_2 n (v1 + 1) (upd md_draft (v1).toNatClampNeg (0 : Int32))
      else none

def m_X6_begins (N : Nat) (md_draft : (Nat → Int32)) : Option (Nat → Int32) :=
  (lp_X6_begins_2 N (0 : Int32) md_draft).bind fun r3 =>
  some (upd (upd r3 2 (20 : Int32)) 3 (30 : Int32))

def m_X6_open (md_s : (Nat → Int32)) : Option Int32 :=
  some ((md_s 0) &&& ((md_s 1) ^^^ (-1 : Int32)))

def lp_X6_comes_15 (md_told : (Nat → Int32)) (md_s : (Nat → Int32)) : Nat → Int32 → Int32 → Option Int32
  | 0, _, _ => none
  | n + 1, v1, v3 =>
    if (md_told 0) ≤ v3 then
      some v1
    else
      if ((v1 >>> (v3 &&& 31)) &&& (1 : Int32)) = (1 : Int32) then
        if inI ((29 : Int32) + v3) 51 then
        (some (v1 ||| (((1 : Int32) <<< ((md_told (((29 : Int32) + v3)).toNatClampNeg) &&& 31)) &&& ((md_s 1) ^^^ (-1 : Int32))))).bind fun y9 =>
        lp_X6_comes_15 md_told md_s n y9 (v3 + 1)
        else none
      else
        lp_X6_comes_15 md_told md_s n (v1 ||| (0 : Int32)) (v3 + 1)

def lp_X6_comes_7 (N : Nat) (md_told : (Nat → Int32)) (md_s : (Nat → Int32)) : Nat → Int32 → Int32 → Option Int32
  | 0, _, _ => none
  | n + 1, v1, v2 =>
    if (8 : Int32) ≤ v2 then
      some v1
    else
      (lp_X6_comes_15 md_told md_s N v1 (0 : Int32)).bind fun r11 =>
      lp_X6_comes_7 N md_told md_s n r11 (v2 + 1)

def m_X6_comes (N : Nat) (md_told : (Nat → Int32)) (md_s : (Nat → Int32)) : Option Int32 :=
  (m_X6_open md_s).bind fun r1 =>
  (lp_X6_comes_7 N md_told md_s N r1 (0 : Int32)).bind fun r13 =>
  some r13

def lp_X6_ones_4 (v0 : Int32) : Nat → Int32 → Int32 → Option Int32
  | 0, _, _ => none
  | n + 1, v1, v2 =>
    if (8 : Int32) ≤ v2 then
      some v1
    else
      (some (v1 + ((v0 >>> (v2 &&& 31)) &&& (1 : Int32)))).bind fun y2 =>
      lp_X6_ones_4 v0 n y2 (v2 + 1)

def m_X6_ones (N : Nat) (p0 : Int32) : Option Int32 :=
  (lp_X6_ones_4 p0 N (0 : Int32) (0 : Int32)).bind fun r4 =>
  some r4

def m_X6_isLost (md_told : (Nat → Int32)) (md_s : (Nat → Int32)) : Option Int32 :=
  if (md_s 5) ≤ (md_told 3) then
    some (0 : Int32)
  else
    some (1 : Int32)

def m_X6_count (N : Nat) (md_typed : Int32) (md_known : Int32) (md_kept : Int32) (md_sights : Int32) (md_told : (Nat → Int32)) (md_s : (Nat → Int32)) (p0 : Int32) : Option Int32 :=
  if p0 = (0 : Int32) then
    some (md_told 0)
  else
  if p0 = (1 : Int32) then
    some (md_told 1)
  else
  if p0 = (2 : Int32) then
    (m_X6_open md_s).bind fun r6 =>
    (m_X6_ones N r6).bind fun r8 =>
    some r8
  else
  if p0 = (3 : Int32) then
    (m_X6_ones N (md_s 1)).bind fun r12 =>
    some r12
  else
  if p0 = (4 : Int32) then
    (m_X6_ones N ((md_s 2) &&& ((md_s 3) ^^^ (-1 : Int32)))).bind fun r17 =>
    some r17
  else
  if p0 = (5 : Int32) then
    some (md_s 4)
  else
  if p0 = (6 : Int32) then
    some (md_s 5)
  else
  if p0 = (7 : Int32) then
    (m_X6_isLost md_told md_s).bind fun r24 =>
    if r24 = 0 then
      some (0 : Int32)
    else
      some (1 : Int32)
  else
  if p0 = (8 : Int32) then
    some md_sights
  else
  if p0 = (9 : Int32) then
    some md_known
  else
  if p0 = (10 : Int32) then
    some md_kept
  else
  if p0 = (11 : Int32) then
    some md_typed
  else
    some (-1 : Int32)

def lp_X6_isSeen_4 (v1 : Int32) (md_sights : Int32) (md_seen : (Nat → Int32)) (md_row : (Nat → Int32)) : Nat → Int32 → Int32 → Option Int32
  | 0, _, _ => none
  | n + 1, v2, v3 =>
    if md_sights ≤ v3 then
      some v2
    else
      if inI v3 6 then
      (some (((md_seen (v3).toNatClampNeg) - (md_seen (v3).toNatClampNeg) / (10 : Int32) * (10 : Int32)) - (1 : Int32))).bind fun y4 =>
      if v2 = 0 then
        lp_X6_isSeen_4 v1 md_sights md_seen md_row n (0 : Int32) (v3 + 1)
      else
        if v1 ≤ y4 then
          lp_X6_isSeen_4 v1 md_sights md_seen md_row n (0 : Int32) (v3 + 1)
        else
          if inI y4 8 then
          if (md_row (y4).toNatClampNeg) = ((md_seen (v3).toNatClampNeg) / (10 : Int32)) then
            lp_X6_isSeen_4 v1 md_sights md_seen md_row n (1 : Int32) (v3 + 1)
          else
            lp_X6_isSeen_4 v1 md_sights md_seen md_row n (0 : Int32) (v3 + 1)
          else none
      else none

def m_X6_isSeen (N : Nat) (md_sights : Int32) (md_seen : (Nat → Int32)) (md_row : (Nat → Int32)) (p0 : Int32) : Option Int32 :=
  (lp_X6_isSeen_4 p0 md_sights md_seen md_row N (1 : Int32) (0 : Int32)).bind fun r13 =>
  if isB r13 then some r13 else none

def lp_X6_counts_27 (v1 : Int32) (md_row : (Nat → Int32)) : Nat → Int32 → (Nat → Int32) → Option (Nat → Int32)
  | 0, _, _ => none
  | n + 1, v3, md_first =>
    if v1 ≤ v3 then
      some md_first
    else
      if inI v3 8 then
      lp_X6_counts_27 v1 md_row n (v3 + 1) (upd md_first (v3).toNatClampNeg (md_row (v3).toNatClampNeg))
      else none

def m_X6_counts (N : Nat) (md_sights : Int32) (md_many : Int32) (md_length : Int32) (md_seen : (Nat → Int32)) (md_row : (Nat → Int32)) (md_first : (Nat → Int32)) (p0 : Int32) (p1 : Int32) : Option (Int32 × Int32 × (Nat → Int32)) :=
  if p1 = 0 then
    if md_many = 0 then
      (lp_X6_counts_27 p0 md_row N (0 : Int32) md_first).bind fun r6 =>
      some ((md_many + (1 : Int32)), p0, r6)
    else
      some ((md_many + (1 : Int32)), md_length, md_first)
  else
    (m_X6_isSeen N md_sights md_seen md_row p0).bind fun r8 =>
    if r8 = 0 then
      some (md_many, md_length, md_first)
    else
      if md_many = 0 then
        (lp_X6_counts_27 p0 md_row N (0 : Int32) md_first).bind fun r12 =>
        some ((md_many + (1 : Int32)), p0, r12)
      else
        some ((md_many + (1 : Int32)), md_length, md_first)

def m_X6_daysOf (md_told : (Nat → Int32)) (p0 : Int32) : Option Int32 :=
  if inI ((5 : Int32) + p0) 51 then
  if (md_told (((5 : Int32) + p0)).toNatClampNeg) = (2 : Int32) then
    some (0 : Int32)
  else
    if inI ((13 : Int32) + p0) 51 then
    some (md_told (((13 : Int32) + p0)).toNatClampNeg)
    else none
  else none

def m_X6_letterAt (md_typed : Int32) (md_text : (Nat → Int32)) (p0 : Int32) : Option Int32 :=
  if md_typed ≤ p0 then
    some (-1 : Int32)
  else
    if inI p0 200 then
    some (md_text (p0).toNatClampNeg)
    else none

def m_X6_isFigure (p0 : Int32) : Option Int32 :=
  (m_X6_in p0 (48 : Int32) (57 : Int32)).bind fun r1 =>
  if isB r1 then some r1 else none

def m_X6_number (md_typed : Int32) (md_at : Int32) (md_text : (Nat → Int32)) (p0 : Int32) (p1 : Int32) (p2 : Int32) : Option (Int32 × Int32) :=
  (m_X6_letterAt md_typed md_text md_at).bind fun r1 =>
  (m_X6_isFigure r1).bind fun r3 =>
  if r3 = 0 then
    some ((-1 : Int32), md_at)
  else
    (m_X6_letterAt md_typed md_text md_at).bind fun r6 =>
    (m_X6_letterAt md_typed md_text (md_at + (1 : Int32))).bind fun r8 =>
    (m_X6_isFigure r8).bind fun r10 =>
    if r10 = 0 then
      (m_X6_letterAt md_typed md_text (md_at + (1 : Int32))).bind fun r13 =>
      if r13 = p2 then
        (m_X6_in (r6 - (48 : Int32)) p0 p1).bind fun r19 =>
        if r19 = 0 then
          (some ((md_at + (1 : Int32)) + (1 : Int32))).bind fun y22 =>
          some ((-1 : Int32), y22)
        else
          (some ((md_at + (1 : Int32)) + (1 : Int32))).bind fun y25 =>
          some ((r6 - (48 : Int32)), y25)
      else
        (some ((md_at + (1 : Int32)) + (1 : Int32))).bind fun y16 =>
        some ((-1 : Int32), y16)
    else
      (m_X6_letterAt md_typed md_text (md_at + (1 : Int32))).bind fun r28 =>
      (some ((((10 : Int32) * (r6 - (48 : Int32))) + r28) - (48 : Int32))).bind fun y30 =>
      (some ((md_at + (1 : Int32)) + (1 : Int32))).bind fun y32 =>
      (m_X6_letterAt md_typed md_text y32).bind fun r34 =>
      if r34 = p2 then
        (m_X6_in y30 p0 p1).bind fun r38 =>
        if r38 = 0 then
          some ((-1 : Int32), (y32 + (1 : Int32)))
        else
          some (y30, (y32 + (1 : Int32)))
      else
        some ((-1 : Int32), (y32 + (1 : Int32)))

def m_X6_helperOf (md_draft : (Nat → Int32)) (p0 : Int32) (p1 : Int32) : Option (Nat → Int32) :=
  if inI ((37 : Int32) + (md_draft 1)) 51 then
  if inI ((44 : Int32) + (md_draft 1)) 51 then
  (some (((upd (upd md_draft (((37 : Int32) + (md_draft 1))).toNatClampNeg p0) (((44 : Int32) + (md_draft 1))).toNatClampNeg p1) 1) + (1 : Int32))).bind fun y6 =>
  some (upd (upd (upd md_draft (((37 : Int32) + (md_draft 1))).toNatClampNeg p0) (((44 : Int32) + (md_draft 1))).toNatClampNeg p1) 1 y6)
  else none
  else none

def m_X6_taskOf (md_draft : (Nat → Int32)) (p0 : Int32) (p1 : Int32) (p2 : Int32) (p3 : Int32) : Option (Nat → Int32) :=
  if inI ((5 : Int32) + (md_draft 0)) 51 then
  if inI ((13 : Int32) + (md_draft 0)) 51 then
  if inI ((21 : Int32) + (md_draft 0)) 51 then
  if inI ((29 : Int32) + (md_draft 0)) 51 then
  (some (((upd (upd (upd (upd md_draft (((5 : Int32) + (md_draft 0))).toNatClampNeg p0) (((13 : Int32) + (md_draft 0))).toNatClampNeg p1) (((21 : Int32) + (md_draft 0))).toNatClampNeg p2) (((29 : Int32) + (md_draft 0))).toNatClampNeg p3) 0) + (1 : Int32))).bind fun y8 =>
  some (upd (upd (upd (upd (upd md_draft (((5 : Int32) + (md_draft 0))).toNatClampNeg p0) (((13 : Int32) + (md_draft 0))).toNatClampNeg p1) (((21 : Int32) + (md_draft 0))).toNatClampNeg p2) (((29 : Int32) + (md_draft 0))).toNatClampNeg p3) 0 y8)
  else none
  else none
  else none
  else none

def m_X6_readsItem (md_typed : Int32) (md_at : Int32) (md_text : (Nat → Int32)) (md_draft : (Nat → Int32)) (p0 : Int32) : Option (Int32 × Int32 × (Nat → Int32)) :=
  if p0 = (97 : Int32) then
    (m_X6_number md_typed md_at md_text (0 : Int32) ((md_draft 0) - (1 : Int32)) (59 : Int32)).bind fun r3 =>
    if 0 ≤ r3.1 then
      (some ((md_draft 4) ||| ((1 : Int32) <<< (r3.1 &&& 31)))).bind fun y8 =>
      if r3.1 < 0 then
        some ((0 : Int32), r3.2, (upd md_draft 4 y8))
      else
        some ((1 : Int32), r3.2, (upd md_draft 4 y8))
    else
      if r3.1 < 0 then
        some ((0 : Int32), r3.2, (upd md_draft 4 ((md_draft 4) ||| (0 : Int32))))
      else
        some ((1 : Int32), r3.2, (upd md_draft 4 ((md_draft 4) ||| (0 : Int32))))
  else
  if p0 = (99 : Int32) then
    (m_X6_number md_typed md_at md_text (0 : Int32) (99 : Int32) (59 : Int32)).bind fun r14 =>
    if r14.1 < 0 then
      some ((0 : Int32), r14.2, (upd md_draft 2 r14.1))
    else
      some ((1 : Int32), r14.2, (upd md_draft 2 r14.1))
  else
  if p0 = (104 : Int32) then
    (m_X6_number md_typed md_at md_text (0 : Int32) (4 : Int32) (44 : Int32)).bind fun r20 =>
    if 0 ≤ r20.1 then
      (m_X6_number md_typed r20.2 md_text (0 : Int32) (20 : Int32) (59 : Int32)).bind fun r23 =>
      if r23.1 < 0 then
        some ((0 : Int32), r23.2, md_draft)
      else
        if (md_draft 1) = (7 : Int32) then
          some ((0 : Int32), r23.2, md_draft)
        else
          (m_X6_helperOf md_draft r20.1 r23.1).bind fun r28 =>
          some ((1 : Int32), r23.2, r28)
    else
      some ((0 : Int32), r20.2, md_draft)
  else
  if p0 = (108 : Int32) then
    (m_X6_number md_typed md_at md_text (1 : Int32) (60 : Int32) (59 : Int32)).bind fun r32 =>
    if r32.1 ≤ 0 then
      some ((0 : Int32), r32.2, (upd md_draft 3 r32.1))
    else
      some ((1 : Int32), r32.2, (upd md_draft 3 r32.1))
  else
  if p0 = (116 : Int32) then
    (m_X6_number md_typed md_at md_text (0 : Int32) (4 : Int32) (44 : Int32)).bind fun r38 =>
    if 0 ≤ r38.1 then
      (m_X6_number md_typed r38.2 md_text (0 : Int32) (9 : Int32) (44 : Int32)).bind fun r41 =>
      if 0 ≤ r41.1 then
        (m_X6_number md_typed r41.2 md_text (0 : Int32) (5 : Int32) (44 : Int32)).bind fun r44 =>
        if 0 ≤ r44.1 then
          (m_X6_number md_typed r44.2 md_text (0 : Int32) (7 : Int32) (59 : Int32)).bind fun r47 =>
          if r47.1 < 0 then
            some ((0 : Int32), r47.2, md_draft)
          else
            if (md_draft 0) = (8 : Int32) then
              some ((0 : Int32), r47.2, md_draft)
            else
              (m_X6_taskOf md_draft r38.1 r41.1 r44.1 r47.1).bind fun r52 =>
              some ((1 : Int32), r47.2, r52)
        else
          some ((0 : Int32), r44.2, md_draft)
      else
        some ((0 : Int32), r41.2, md_draft)
    else
      some ((0 : Int32), r38.2, md_draft)
  else
    some ((0 : Int32), md_at, md_draft)

def lp_X6_readsAll_9 (md_typed : Int32) (md_text : (Nat → Int32)) : Nat → Int32 → (Nat → Int32) → Option ((Int32 × (Nat → Int32)) ⊕ (Int32 × Int32 × (Nat → Int32)))
  | 0, _, _ => none
  | n + 1, md_at, md_draft =>
    if md_typed ≤ md_at then
      some (Sum.inl (md_at, md_draft))
    else
      if inI md_at 200 then
      (m_X6_readsItem md_typed (md_at + (1 : Int32)) md_text md_draft (md_text (md_at).toNatClampNeg)).bind fun r5 =>
      if r5.1 = 0 then
        some (Sum.inr (md_at, r5.2.1, r5.2.2))
      else
        lp_X6_readsAll_9 md_typed md_text n r5.2.1 r5.2.2
      else none

def m_X6_readsAll (N : Nat) (md_typed : Int32) (md_text : (Nat → Int32)) (md_draft : (Nat → Int32)) : Option (Int32 × Int32 × (Nat → Int32)) :=
  (m_X6_begins N md_draft).bind fun r1 =>
  (lp_X6_readsAll_9 md_typed md_text N (0 : Int32) r1).bind
    (Sum.elim (fun u10 =>
      some ((-4 : Int32), u10.1, u10.2))
    (fun u11 =>
      some (u11.1, u11.2.1, u11.2.2)))

def m_X6_fault (N : Nat) (md_typed : Int32) (md_text : (Nat → Int32)) (md_draft : (Nat → Int32)) : Option (Int32 × Int32 × (Nat → Int32)) :=
  (m_X6_readsAll N md_typed md_text md_draft).bind fun r1 =>
  some (r1.1, r1.2.1, r1.2.2)

def lp_X6_lowest_12 (v1 : Int32) (v2 : Int32) (md_told : (Nat → Int32)) : Nat → Int32 → Int32 → Option Int32
  | 0, _, _ => none
  | n + 1, v3, v4 =>
    if v4 < 0 then
      some v3
    else
      if ((v1 >>> (v4 &&& 31)) &&& (1 : Int32)) = (1 : Int32) then
        if v2 < 0 then
          lp_X6_lowest_12 v1 v2 md_told n ((1 : Int32) <<< (v4 &&& 31)) (v4 + (-1))
        else
          if inI ((37 : Int32) + v4) 51 then
          if (md_told (((37 : Int32) + v4)).toNatClampNeg) = v2 then
            lp_X6_lowest_12 v1 v2 md_told n ((1 : Int32) <<< (v4 &&& 31)) (v4 + (-1))
          else
            lp_X6_lowest_12 v1 v2 md_told n v3 (v4 + (-1))
          else none
      else
        lp_X6_lowest_12 v1 v2 md_told n v3 (v4 + (-1))

def m_X6_lowest (N : Nat) (md_told : (Nat → Int32)) (p0 : Int32) (p1 : Int32) : Option Int32 :=
  (lp_X6_lowest_12 p0 p1 md_told N (0 : Int32) ((md_told 1) - (1 : Int32))).bind fun r7 =>
  some r7

def m_X6_helpFor (N : Nat) (md_told : (Nat → Int32)) (p0 : Int32) (p1 : Int32) (p2 : Int32) : Option Int32 :=
  if inI ((5 : Int32) + p0) 51 then
  (some (md_told (((5 : Int32) + p0)).toNatClampNeg)).bind fun y2 =>
  if inI ((21 : Int32) + p0) 51 then
  (some (md_told (((21 : Int32) + p0)).toNatClampNeg)).bind fun y5 =>
  if y2 = (2 : Int32) then
    some (0 : Int32)
  else
    if y2 = (4 : Int32) then
      if p2 ≤ (10 : Int32) then
        if y5 = (5 : Int32) then
          if y2 = (3 : Int32) then
            (m_X6_lowest N md_told (p1 &&& ((0 : Int32) ^^^ (-1 : Int32))) (-1 : Int32)).bind fun r53 =>
            if r53 = 0 then
              some (-1 : Int32)
            else
              some ((0 : Int32) ||| r53)
          else
            if y2 = (1 : Int32) then
              some (0 : Int32)
            else
              some (0 : Int32)
        else
          (m_X6_lowest N md_told p1 y5).bind fun r35 =>
          if r35 = 0 then
            some (-1 : Int32)
          else
            if y2 = (3 : Int32) then
              (m_X6_lowest N md_told (p1 &&& (r35 ^^^ (-1 : Int32))) (-1 : Int32)).bind fun r41 =>
              if r41 = 0 then
                some (-1 : Int32)
              else
                some (r35 ||| r41)
            else
              if y2 = (1 : Int32) then
                (m_X6_lowest N md_told (p1 &&& (r35 ^^^ (-1 : Int32))) y5).bind fun r47 =>
                if r47 = 0 then
                  some (-1 : Int32)
                else
                  some (r35 ||| r47)
              else
                some r35
      else
        some (-1 : Int32)
    else
      if y5 = (5 : Int32) then
        if y2 = (3 : Int32) then
          (m_X6_lowest N md_told (p1 &&& ((0 : Int32) ^^^ (-1 : Int32))) (-1 : Int32)).bind fun r28 =>
          if r28 = 0 then
            some (-1 : Int32)
          else
            some ((0 : Int32) ||| r28)
        else
          if y2 = (1 : Int32) then
            some (0 : Int32)
          else
            some (0 : Int32)
      else
        (m_X6_lowest N md_told p1 y5).bind fun r10 =>
        if r10 = 0 then
          some (-1 : Int32)
        else
          if y2 = (3 : Int32) then
            (m_X6_lowest N md_told (p1 &&& (r10 ^^^ (-1 : Int32))) (-1 : Int32)).bind fun r16 =>
            if r16 = 0 then
              some (-1 : Int32)
            else
              some (r10 ||| r16)
          else
            if y2 = (1 : Int32) then
              (m_X6_lowest N md_told (p1 &&& (r10 ^^^ (-1 : Int32))) y5).bind fun r22 =>
              if r22 = 0 then
                some (-1 : Int32)
              else
                some (r10 ||| r22)
            else
              some r10
  else none
  else none

def lp_X6_walks_89 (N : Nat) (v1 : Int32) (v2 : Int32) (md_sights : Int32) (md_told : (Nat → Int32)) (md_s : (Nat → Int32)) (md_seen : (Nat → Int32)) : Nat → Int32 → Int32 → Int32 → (Nat → Int32) → (Nat → Int32) → (Nat → Int32) → (Nat → Int32) → (Nat → Int32) → (Nat → Int32) → (Nat → Int32) → Option (Int32 × Int32 × (Nat → Int32) × (Nat → Int32) × (Nat → Int32) × (Nat → Int32) × (Nat → Int32) × (Nat → Int32) × (Nat → Int32))
  | 0, _, _, _, _, _, _, _, _, _, _ => none
  | n + 1, v3, md_many, md_length, md_asks, md_brings, md_uses, md_days, md_tries, md_row, md_first =>
    if v3 < 0 then
      some (md_many, md_length, md_asks, md_brings, md_uses, md_days, md_tries, md_row, md_first)
    else
      if inI v3 9 then
      (some ((md_tries (v3).toNatClampNeg) + (1 : Int32))).bind fun y20 =>
      if (md_told 0) ≤ (md_tries (v3).toNatClampNeg) then
        lp_X6_walks_89 N v1 v2 md_sights md_told md_s md_seen n (v3 + (-1)) md_many md_length md_asks md_brings md_uses md_days (upd md_tries (v3).toNatClampNeg y20) md_row md_first
      else
        if v2 = 0 then
          if ((((md_asks (v3).toNatClampNeg) &&& ((md_brings (v3).toNatClampNeg) ^^^ (-1 : Int32))) >>> ((md_tries (v3).toNatClampNeg) &&& 31)) &&& (1 : Int32)) = (1 : Int32) then
            (m_X6_helpFor N md_told (md_tries (v3).toNatClampNeg) ((md_s 2) &&& ((md_uses (v3).toNatClampNeg) ^^^ (-1 : Int32))) (md_days (v3).toNatClampNeg)).bind fun r31 =>
            (m_X6_daysOf md_told (md_tries (v3).toNatClampNeg)).bind fun r34 =>
            (some ((md_days (v3).toNatClampNeg) + r34)).bind fun y36 =>
            if r31 < 0 then
              lp_X6_walks_89 N v1 v2 md_sights md_told md_s md_seen n v3 md_many md_length md_asks md_brings md_uses md_days (upd md_tries (v3).toNatClampNeg y20) md_row md_first
            else
              if (md_told 3) < y36 then
                lp_X6_walks_89 N v1 v2 md_sights md_told md_s md_seen n v3 md_many md_length md_asks md_brings md_uses md_days (upd md_tries (v3).toNatClampNeg y20) md_row md_first
              else
                if inI v3 8 then
                if inI ((v3 + 1) - (1 : Int32)) 9 then
                if inI ((29 : Int32) + (md_tries (v3).toNatClampNeg)) 51 then
                (some ((md_asks (((v3 + 1) - (1 : Int32))).toNatClampNeg) ||| ((1 : Int32) <<< ((md_told (((29 : Int32) + (md_tries (v3).toNatClampNeg))).toNatClampNeg) &&& 31)))).bind fun y45 =>
                if inI (v3 + 1) 9 then
                (some ((md_brings (((v3 + 1) - (1 : Int32))).toNatClampNeg) ||| ((1 : Int32) <<< ((md_tries (v3).toNatClampNeg) &&& 31)))).bind fun y49 =>
                (some ((md_uses (((v3 + 1) - (1 : Int32))).toNatClampNeg) ||| r31)).bind fun y53 =>
                if (((upd md_asks ((v3 + 1)).toNatClampNeg y45) ((v3 + 1)).toNatClampNeg) &&& (((upd md_brings ((v3 + 1)).toNatClampNeg y49) ((v3 + 1)).toNatClampNeg) ^^^ (-1 : Int32))) = 0 then
                  (m_X6_counts N md_sights md_many md_length md_seen (upd md_row (v3).toNatClampNeg (md_tries (v3).toNatClampNeg)) md_first (v3 + 1) v1).bind fun r60 =>
                  lp_X6_walks_89 N v1 v2 md_sights md_told md_s md_seen n ((v3 + 1) + (-1)) r60.1 r60.2.1 (upd md_asks ((v3 + 1)).toNatClampNeg y45) (upd md_brings ((v3 + 1)).toNatClampNeg y49) (upd md_uses ((v3 + 1)).toNatClampNeg y53) (upd md_days ((v3 + 1)).toNatClampNeg y36) (upd (upd md_tries (v3).toNatClampNeg y20) ((v3 + 1)).toNatClampNeg (0 : Int32)) (upd md_row (v3).toNatClampNeg (md_tries (v3).toNatClampNeg)) r60.2.2
                else
                  lp_X6_walks_89 N v1 v2 md_sights md_told md_s md_seen n (v3 + 1) md_many md_length (upd md_asks ((v3 + 1)).toNatClampNeg y45) (upd md_brings ((v3 + 1)).toNatClampNeg y49) (upd md_uses ((v3 + 1)).toNatClampNeg y53) (upd md_days ((v3 + 1)).toNatClampNeg y36) (upd (upd md_tries (v3).toNatClampNeg y20) ((v3 + 1)).toNatClampNeg (0 : Int32)) (upd md_row (v3).toNatClampNeg (md_tries (v3).toNatClampNeg)) md_first
                else none
                else none
                else none
                else none
          else
            lp_X6_walks_89 N v1 v2 md_sights md_told md_s md_seen n v3 md_many md_length md_asks md_brings md_uses md_days (upd md_tries (v3).toNatClampNeg y20) md_row md_first
        else
          if md_many ≤ 0 then
            if ((((md_asks (v3).toNatClampNeg) &&& ((md_brings (v3).toNatClampNeg) ^^^ (-1 : Int32))) >>> ((md_tries (v3).toNatClampNeg) &&& 31)) &&& (1 : Int32)) = (1 : Int32) then
              (m_X6_helpFor N md_told (md_tries (v3).toNatClampNeg) ((md_s 2) &&& ((md_uses (v3).toNatClampNeg) ^^^ (-1 : Int32))) (md_days (v3).toNatClampNeg)).bind fun r69 =>
              (m_X6_daysOf md_told (md_tries (v3).toNatClampNeg)).bind fun r72 =>
              (some ((md_days (v3).toNatClampNeg) + r72)).bind fun y74 =>
              if r69 < 0 then
                lp_X6_walks_89 N v1 v2 md_sights md_told md_s md_seen n v3 md_many md_length md_asks md_brings md_uses md_days (upd md_tries (v3).toNatClampNeg y20) md_row md_first
              else
                if (md_told 3) < y74 then
                  lp_X6_walks_89 N v1 v2 md_sights md_told md_s md_seen n v3 md_many md_length md_asks md_brings md_uses md_days (upd md_tries (v3).toNatClampNeg y20) md_row md_first
                else
                  if inI v3 8 then
                  if inI ((v3 + 1) - (1 : Int32)) 9 then
                  if inI ((29 : Int32) + (md_tries (v3).toNatClampNeg)) 51 then
                  (some ((md_asks (((v3 + 1) - (1 : Int32))).toNatClampNeg) ||| ((1 : Int32) <<< ((md_told (((29 : Int32) + (md_tries (v3).toNatClampNeg))).toNatClampNeg) &&& 31)))).bind fun y83 =>
                  if inI (v3 + 1) 9 then
                  (some ((md_brings (((v3 + 1) - (1 : Int32))).toNatClampNeg) ||| ((1 : Int32) <<< ((md_tries (v3).toNatClampNeg) &&& 31)))).bind fun y87 =>
                  (some ((md_uses (((v3 + 1) - (1 : Int32))).toNatClampNeg) ||| r69)).bind fun y91 =>
                  if (((upd md_asks ((v3 + 1)).toNatClampNeg y83) ((v3 + 1)).toNatClampNeg) &&& (((upd md_brings ((v3 + 1)).toNatClampNeg y87) ((v3 + 1)).toNatClampNeg) ^^^ (-1 : Int32))) = 0 then
                    (m_X6_counts N md_sights md_many md_length md_seen (upd md_row (v3).toNatClampNeg (md_tries (v3).toNatClampNeg)) md_first (v3 + 1) v1).bind fun r98 =>
                    lp_X6_walks_89 N v1 v2 md_sights md_told md_s md_seen n ((v3 + 1) + (-1)) r98.1 r98.2.1 (upd md_asks ((v3 + 1)).toNatClampNeg y83) (upd md_brings ((v3 + 1)).toNatClampNeg y87) (upd md_uses ((v3 + 1)).toNatClampNeg y91) (upd md_days ((v3 + 1)).toNatClampNeg y74) (upd (upd md_tries (v3).toNatClampNeg y20) ((v3 + 1)).toNatClampNeg (0 : Int32)) (upd md_row (v3).toNatClampNeg (md_tries (v3).toNatClampNeg)) r98.2.2
                  else
                    lp_X6_walks_89 N v1 v2 md_sights md_told md_s md_seen n (v3 + 1) md_many md_length (upd md_asks ((v3 + 1)).toNatClampNeg y83) (upd md_brings ((v3 + 1)).toNatClampNeg y87) (upd md_uses ((v3 + 1)).toNatClampNeg y91) (upd md_days ((v3 + 1)).toNatClampNeg y74) (upd (upd md_tries (v3).toNatClampNeg y20) ((v3 + 1)).toNatClampNeg (0 : Int32)) (upd md_row (v3).toNatClampNeg (md_tries (v3).toNatClampNeg)) md_first
                  else none
                  else none
                  else none
                  else none
            else
              lp_X6_walks_89 N v1 v2 md_sights md_told md_s md_seen n v3 md_many md_length md_asks md_brings md_uses md_days (upd md_tries (v3).toNatClampNeg y20) md_row md_first
          else
            lp_X6_walks_89 N v1 v2 md_sights md_told md_s md_seen n (v3 + (-1)) md_many md_length md_asks md_brings md_uses md_days (upd md_tries (v3).toNatClampNeg y20) md_row md_first
      else none

def m_X6_walks (N : Nat) (md_sights : Int32) (md_told : (Nat → Int32)) (md_s : (Nat → Int32)) (md_seen : (Nat → Int32)) (md_asks : (Nat → Int32)) (md_brings : (Nat → Int32)) (md_uses : (Nat → Int32)) (md_days : (Nat → Int32)) (md_tries : (Nat → Int32)) (md_row : (Nat → Int32)) (md_first : (Nat → Int32)) (p0 : Int32) (p1 : Int32) : Option (Int32 × Int32 × (Nat → Int32) × (Nat → Int32) × (Nat → Int32) × (Nat → Int32) × (Nat → Int32) × (Nat → Int32) × (Nat → Int32)) :=
  (m_X6_isLost md_told md_s).bind fun r10 =>
  if r10 = 0 then
    (m_X6_open md_s).bind fun r13 =>
    if r13 = 0 then
      (m_X6_counts N md_sights (0 : Int32) (0 : Int32) md_seen md_row md_first (0 : Int32) p0).bind fun r102 =>
      some (r102.1, r102.2.1, (upd md_asks 0 (md_s 0)), (upd md_brings 0 (md_s 1)), (upd md_uses 0 (md_s 3)), (upd md_days 0 (md_s 5)), (upd md_tries 0 (0 : Int32)), md_row, r102.2.2)
    else
      (lp_X6_walks_89 N p0 p1 md_sights md_told md_s md_seen N (0 : Int32) (0 : Int32) (0 : Int32) (upd md_asks 0 (md_s 0)) (upd md_brings 0 (md_s 1)) (upd md_uses 0 (md_s 3)) (upd md_days 0 (md_s 5)) (upd md_tries 0 (0 : Int32)) md_row md_first).bind fun r100 =>
      some (r100.1, r100.2.1, r100.2.2.1, r100.2.2.2.1, r100.2.2.2.2.1, r100.2.2.2.2.2.1, r100.2.2.2.2.2.2.1, r100.2.2.2.2.2.2.2.1, r100.2.2.2.2.2.2.2.2)
  else
    some ((0 : Int32), (0 : Int32), (upd md_asks 0 (md_s 0)), (upd md_brings 0 (md_s 1)), (upd md_uses 0 (md_s 3)), (upd md_days 0 (md_s 5)), (upd md_tries 0 (0 : Int32)), md_row, md_first)

def lp_X6_few_36 (v3 : Int32) (md_told : (Nat → Int32)) : Nat → Int32 → Int32 → Option Int32
  | 0, _, _ => none
  | n + 1, v4, v5 =>
    if (md_told 1) ≤ v5 then
      some v4
    else
      if ((v3 >>> (v5 &&& 31)) &&& (1 : Int32)) = (1 : Int32) then
        if inI ((44 : Int32) + v5) 51 then
        (some (v4 + (md_told (((44 : Int32) + v5)).toNatClampNeg))).bind fun y8 =>
        lp_X6_few_36 v3 md_told n y8 (v5 + 1)
        else none
      else
        lp_X6_few_36 v3 md_told n (v4 + (0 : Int32)) (v5 + 1)

def lp_X6_few_18 (N : Nat) (v1 : Int32) (md_sights : Int32) (md_told : (Nat → Int32)) (md_seen : (Nat → Int32)) : Nat → Int32 → Int32 → Int32 → Int32 → Int32 → (Nat → Int32) → (Nat → Int32) → (Nat → Int32) → (Nat → Int32) → (Nat → Int32) → (Nat → Int32) → (Nat → Int32) → (Nat → Int32) → Option (Int32 × Int32 × Int32 × Int32 × (Nat → Int32) × (Nat → Int32) × (Nat → Int32) × (Nat → Int32) × (Nat → Int32) × (Nat → Int32) × (Nat → Int32) × (Nat → Int32))
  | 0, _, _, _, _, _, _, _, _, _, _, _, _, _ => none
  | n + 1, v2, v3, md_many, md_length, md_set, md_s, md_asks, md_brings, md_uses, md_days, md_tries, md_row, md_first =>
    if ((1 : Int32) <<< ((md_told 1) &&& 31)) ≤ v3 then
      some (v2, md_many, md_length, md_set, md_s, md_asks, md_brings, md_uses, md_days, md_tries, md_row, md_first)
    else
      (lp_X6_few_36 v3 md_told N (0 : Int32) (0 : Int32)).bind fun r10 =>
      if (v3 &&& v1) = 0 then
        if (md_s 4) < r10 then
          lp_X6_few_18 N v1 md_sights md_told md_seen n v2 (v3 + 1) md_many md_length md_set md_s md_asks md_brings md_uses md_days md_tries md_row md_first
        else
          if v2 = (-4 : Int32) then
            (m_X6_walks N md_sights md_told (upd md_s 2 (v1 ||| v3)) md_seen md_asks md_brings md_uses md_days md_tries md_row md_first (0 : Int32) (1 : Int32)).bind fun r17 =>
            if r17.1 ≤ 0 then
              lp_X6_few_18 N v1 md_sights md_told md_seen n v2 (v3 + 1) r17.1 r17.2.1 md_set (upd md_s 2 (v1 ||| v3)) r17.2.2.1 r17.2.2.2.1 r17.2.2.2.2.1 r17.2.2.2.2.2.1 r17.2.2.2.2.2.2.1 r17.2.2.2.2.2.2.2.1 r17.2.2.2.2.2.2.2.2
            else
              lp_X6_few_18 N v1 md_sights md_told md_seen n r10 (v3 + 1) r17.1 r17.2.1 v3 (upd md_s 2 (v1 ||| v3)) r17.2.2.1 r17.2.2.2.1 r17.2.2.2.2.1 r17.2.2.2.2.2.1 r17.2.2.2.2.2.2.1 r17.2.2.2.2.2.2.2.1 r17.2.2.2.2.2.2.2.2
          else
            if v2 ≤ r10 then
              lp_X6_few_18 N v1 md_sights md_told md_seen n v2 (v3 + 1) md_many md_length md_set md_s md_asks md_brings md_uses md_days md_tries md_row md_first
            else
              (m_X6_walks N md_sights md_told (upd md_s 2 (v1 ||| v3)) md_seen md_asks md_brings md_uses md_days md_tries md_row md_first (0 : Int32) (1 : Int32)).bind fun r24 =>
              if r24.1 ≤ 0 then
                lp_X6_few_18 N v1 md_sights md_told md_seen n v2 (v3 + 1) r24.1 r24.2.1 md_set (upd md_s 2 (v1 ||| v3)) r24.2.2.1 r24.2.2.2.1 r24.2.2.2.2.1 r24.2.2.2.2.2.1 r24.2.2.2.2.2.2.1 r24.2.2.2.2.2.2.2.1 r24.2.2.2.2.2.2.2.2
              else
                lp_X6_few_18 N v1 md_sights md_told md_seen n r10 (v3 + 1) r24.1 r24.2.1 v3 (upd md_s 2 (v1 ||| v3)) r24.2.2.1 r24.2.2.2.1 r24.2.2.2.2.1 r24.2.2.2.2.2.1 r24.2.2.2.2.2.2.1 r24.2.2.2.2.2.2.2.1 r24.2.2.2.2.2.2.2.2
      else
        lp_X6_few_18 N v1 md_sights md_told md_seen n v2 (v3 + 1) md_many md_length md_set md_s md_asks md_brings md_uses md_days md_tries md_row md_first

def m_X6_few (N : Nat) (md_sights : Int32) (md_many : Int32) (md_length : Int32) (md_told : (Nat → Int32)) (md_s : (Nat → Int32)) (md_seen : (Nat → Int32)) (md_asks : (Nat → Int32)) (md_brings : (Nat → Int32)) (md_uses : (Nat → Int32)) (md_days : (Nat → Int32)) (md_tries : (Nat → Int32)) (md_row : (Nat → Int32)) (md_first : (Nat → Int32)) : Option (Int32 × Int32 × Int32 × Int32 × (Nat → Int32) × (Nat → Int32) × (Nat → Int32) × (Nat → Int32) × (Nat → Int32) × (Nat → Int32) × (Nat → Int32) × (Nat → Int32)) :=
  (lp_X6_few_18 N (md_s 2) md_sights md_told md_seen N (-4 : Int32) (0 : Int32) md_many md_length (-4 : Int32) md_s md_asks md_brings md_uses md_days md_tries md_row md_first).bind fun r29 =>
  some (r29.1, r29.2.1, r29.2.2.1, r29.2.2.2.1, (upd r29.2.2.2.2.1 2 (md_s 2)), r29.2.2.2.2.2.1, r29.2.2.2.2.2.2.1, r29.2.2.2.2.2.2.2.1, r29.2.2.2.2.2.2.2.2.1, r29.2.2.2.2.2.2.2.2.2.1, r29.2.2.2.2.2.2.2.2.2.2.1, r29.2.2.2.2.2.2.2.2.2.2.2)

def m_X6_fewest (N : Nat) (md_sights : Int32) (md_many : Int32) (md_length : Int32) (md_set : Int32) (md_told : (Nat → Int32)) (md_s : (Nat → Int32)) (md_seen : (Nat → Int32)) (md_asks : (Nat → Int32)) (md_brings : (Nat → Int32)) (md_uses : (Nat → Int32)) (md_days : (Nat → Int32)) (md_tries : (Nat → Int32)) (md_row : (Nat → Int32)) (md_first : (Nat → Int32)) (p0 : Int32) : Option (Int32 × Int32 × Int32 × Int32 × (Nat → Int32) × (Nat → Int32) × (Nat → Int32) × (Nat → Int32) × (Nat → Int32) × (Nat → Int32) × (Nat → Int32) × (Nat → Int32)) :=
  (m_X6_in p0 (0 : Int32) (1 : Int32)).bind fun r1 =>
  if r1 = 0 then
    some ((-1 : Int32), md_many, md_length, md_set, md_s, md_asks, md_brings, md_uses, md_days, md_tries, md_row, md_first)
  else
    (m_X6_few N md_sights md_many md_length md_told md_s md_seen md_asks md_brings md_uses md_days md_tries md_row md_first).bind fun r4 =>
    if p0 = 0 then
      some (r4.1, r4.2.1, r4.2.2.1, r4.2.2.2.1, r4.2.2.2.2.1, r4.2.2.2.2.2.1, r4.2.2.2.2.2.2.1, r4.2.2.2.2.2.2.2.1, r4.2.2.2.2.2.2.2.2.1, r4.2.2.2.2.2.2.2.2.2.1, r4.2.2.2.2.2.2.2.2.2.2.1, r4.2.2.2.2.2.2.2.2.2.2.2)
    else
      some (r4.2.2.2.1, r4.2.1, r4.2.2.1, r4.2.2.2.1, r4.2.2.2.2.1, r4.2.2.2.2.2.1, r4.2.2.2.2.2.2.1, r4.2.2.2.2.2.2.2.1, r4.2.2.2.2.2.2.2.2.1, r4.2.2.2.2.2.2.2.2.2.1, r4.2.2.2.2.2.2.2.2.2.2.1, r4.2.2.2.2.2.2.2.2.2.2.2)

def m_X6_isTask (md_told : (Nat → Int32)) (p0 : Int32) : Option Int32 :=
  (m_X6_in p0 (0 : Int32) ((md_told 0) - (1 : Int32))).bind fun r2 =>
  if isB r2 then some r2 else none

def lp_X6_forWhat_49 (N : Nat) (v1 : Int32) (md_told : (Nat → Int32)) (md_s : (Nat → Int32)) : Nat → Int32 → Int32 → Option Int32
  | 0, _, _ => none
  | n + 1, v2, v3 =>
    if (md_told 0) ≤ v3 then
      some v2
    else
      if v3 = v1 then
        lp_X6_forWhat_49 N v1 md_told md_s n (v2 ||| (0 : Int32)) (v3 + 1)
      else
        (m_X6_comes N md_told md_s).bind fun r11 =>
        if ((r11 >>> (v3 &&& 31)) &&& (1 : Int32)) = (1 : Int32) then
          if inI ((29 : Int32) + v3) 51 then
          if (md_told (((29 : Int32) + v3)).toNatClampNeg) = v1 then
            (some (v2 ||| ((1 : Int32) <<< (v3 &&& 31)))).bind fun y16 =>
            lp_X6_forWhat_49 N v1 md_told md_s n y16 (v3 + 1)
          else
            lp_X6_forWhat_49 N v1 md_told md_s n (v2 ||| (0 : Int32)) (v3 + 1)
          else none
        else
          lp_X6_forWhat_49 N v1 md_told md_s n (v2 ||| (0 : Int32)) (v3 + 1)

def m_X6_forWhat (N : Nat) (md_told : (Nat → Int32)) (md_s : (Nat → Int32)) (p0 : Int32) : Option Int32 :=
  (m_X6_isTask md_told p0).bind fun r1 =>
  if r1 = 0 then
    some (-1 : Int32)
  else
    if (((md_s 1) >>> (p0 &&& 31)) &&& (1 : Int32)) = (1 : Int32) then
      some (-2 : Int32)
    else
      if (((md_s 0) >>> (p0 &&& 31)) &&& (1 : Int32)) = (1 : Int32) then
        some ((1 : Int32) <<< (p0 &&& 31))
      else
        (lp_X6_forWhat_49 N p0 md_told md_s N (0 : Int32) (0 : Int32)).bind fun r18 =>
        some r18

def m_X6_forget (md_sights : Int32) : Option (Int32 × Int32) :=
  some (md_sights, (0 : Int32))

def m_X6_silent (md_told : (Nat → Int32)) (md_s : (Nat → Int32)) : Option Int32 :=
  (m_X6_isLost md_told md_s).bind fun r1 =>
  if r1 = 0 then
    some (((((1 : Int32) <<< ((md_told 0) &&& 31)) - (1 : Int32)) &&& ((md_s 0) ^^^ (-1 : Int32))) &&& ((md_s 1) ^^^ (-1 : Int32)))
  else
    some (0 : Int32)

def lp_X6_grooms_43 (N : Nat) (v3 : Int32) : Nat → Int32 → Int32 → Option Int32
  | 0, _, _ => none
  | n + 1, v6, v7 =>
    (m_X6_ones N v3).bind fun r10 =>
    if r10 ≤ v7 then
      some v6
    else
      lp_X6_grooms_43 N v3 n (v6 * (10 : Int32)) (v7 + 1)

def lp_X6_grooms_96 (v1 : Int32) (v3 : Int32) (v7 : Int32) (md_told : (Nat → Int32)) : Nat → Int32 → Int32 → Option Int32
  | 0, _, _ => none
  | n + 1, v8, v9 =>
    if (md_told 0) ≤ v9 then
      some v8
    else
      if ((v3 >>> (v9 &&& 31)) &&& (1 : Int32)) = 0 then
        lp_X6_grooms_96 v1 v3 v7 md_told n (v8 * (1 : Int32)) (v9 + 1)
      else
        if ((v7 >>> (v9 &&& 31)) &&& (1 : Int32)) = (1 : Int32) then
          lp_X6_grooms_96 v1 v3 v7 md_told n (v8 * v1) (v9 + 1)
        else
          lp_X6_grooms_96 v1 v3 v7 md_told n (v8 * ((10 : Int32) - v1)) (v9 + 1)

def lp_X6_grooms_68 (N : Nat) (v1 : Int32) (v3 : Int32) (v4 : Int32) (md_sights : Int32) (md_told : (Nat → Int32)) (md_seen : (Nat → Int32)) : Nat → Int32 → Int32 → Int32 → Int32 → (Nat → Int32) → (Nat → Int32) → (Nat → Int32) → (Nat → Int32) → (Nat → Int32) → (Nat → Int32) → (Nat → Int32) → (Nat → Int32) → Option (Int32 × Int32 × Int32 × (Nat → Int32) × (Nat → Int32) × (Nat → Int32) × (Nat → Int32) × (Nat → Int32) × (Nat → Int32) × (Nat → Int32) × (Nat → Int32))
  | 0, _, _, _, _, _, _, _, _, _, _, _, _ => none
  | n + 1, v5, v7, md_many, md_length, md_s, md_asks, md_brings, md_uses, md_days, md_tries, md_row, md_first =>
    if ((1 : Int32) <<< ((md_told 0) &&& 31)) ≤ v7 then
      some (v5, md_many, md_length, md_s, md_asks, md_brings, md_uses, md_days, md_tries, md_row, md_first)
    else
      if (v7 &&& (v3 ^^^ (-1 : Int32))) = 0 then
        (lp_X6_grooms_96 v1 v3 v7 md_told N (1 : Int32) (0 : Int32)).bind fun r22 =>
        (m_X6_walks N md_sights md_told (upd md_s 0 (v4 ||| v7)) md_seen md_asks md_brings md_uses md_days md_tries md_row md_first (0 : Int32) (1 : Int32)).bind fun r25 =>
        if r25.1 ≤ 0 then
          lp_X6_grooms_68 N v1 v3 v4 md_sights md_told md_seen n (v5 + (0 : Int32)) (v7 + 1) r25.1 r25.2.1 (upd md_s 0 (v4 ||| v7)) r25.2.2.1 r25.2.2.2.1 r25.2.2.2.2.1 r25.2.2.2.2.2.1 r25.2.2.2.2.2.2.1 r25.2.2.2.2.2.2.2.1 r25.2.2.2.2.2.2.2.2
        else
          lp_X6_grooms_68 N v1 v3 v4 md_sights md_told md_seen n (v5 + r22) (v7 + 1) r25.1 r25.2.1 (upd md_s 0 (v4 ||| v7)) r25.2.2.1 r25.2.2.2.1 r25.2.2.2.2.1 r25.2.2.2.2.2.1 r25.2.2.2.2.2.2.1 r25.2.2.2.2.2.2.2.1 r25.2.2.2.2.2.2.2.2
      else
        lp_X6_grooms_68 N v1 v3 v4 md_sights md_told md_seen n v5 (v7 + 1) md_many md_length md_s md_asks md_brings md_uses md_days md_tries md_row md_first

def lp_X6_grooms_207  : Nat → Int32 → Int32 → Option Int32
  | 0, _, _ => none
  | n + 1, v7, v8 =>
    if v8 ≤ 0 then
      some v7
    else
      if ¬ v8 = 0 then
      lp_X6_grooms_207 n v8 (v7 - v7 / v8 * v8)
      else none

def m_X6_grooms (N : Nat) (md_sights : Int32) (md_many : Int32) (md_length : Int32) (md_told : (Nat → Int32)) (md_s : (Nat → Int32)) (md_seen : (Nat → Int32)) (md_asks : (Nat → Int32)) (md_brings : (Nat → Int32)) (md_uses : (Nat → Int32)) (md_days : (Nat → Int32)) (md_tries : (Nat → Int32)) (md_row : (Nat → Int32)) (md_first : (Nat → Int32)) (p0 : Int32) (p1 : Int32) : Option (Int32 × Int32 × Int32 × (Nat → Int32) × (Nat → Int32) × (Nat → Int32) × (Nat → Int32) × (Nat → Int32) × (Nat → Int32) × (Nat → Int32) × (Nat → Int32)) :=
  (m_X6_in p0 (0 : Int32) (10 : Int32)).bind fun r1 =>
  if r1 = 0 then
    some ((-1 : Int32), md_many, md_length, md_s, md_asks, md_brings, md_uses, md_days, md_tries, md_row, md_first)
  else
    (m_X6_in p1 (0 : Int32) (1 : Int32)).bind fun r4 =>
    if r4 = 0 then
      some ((-1 : Int32), md_many, md_length, md_s, md_asks, md_brings, md_uses, md_days, md_tries, md_row, md_first)
    else
      (m_X6_silent md_told md_s).bind fun r7 =>
      (lp_X6_grooms_43 N r7 N (1 : Int32) (0 : Int32)).bind fun r13 =>
      (lp_X6_grooms_68 N p0 r7 (md_s 0) md_sights md_told md_seen N (0 : Int32) (0 : Int32) md_many md_length md_s md_asks md_brings md_uses md_days md_tries md_row md_first).bind fun r28 =>
      (lp_X6_grooms_207 N r28.1 r13).bind fun r33 =>
      if p1 = 0 then
        if ¬ r33 = 0 then
        some ((r28.1 / r33), r28.2.1, r28.2.2.1, (upd r28.2.2.2.1 0 (md_s 0)), r28.2.2.2.2.1, r28.2.2.2.2.2.1, r28.2.2.2.2.2.2.1, r28.2.2.2.2.2.2.2.1, r28.2.2.2.2.2.2.2.2.1, r28.2.2.2.2.2.2.2.2.2.1, r28.2.2.2.2.2.2.2.2.2.2)
        else none
      else
        if ¬ r33 = 0 then
        some ((r13 / r33), r28.2.1, r28.2.2.1, (upd r28.2.2.2.1 0 (md_s 0)), r28.2.2.2.2.1, r28.2.2.2.2.2.1, r28.2.2.2.2.2.2.1, r28.2.2.2.2.2.2.2.1, r28.2.2.2.2.2.2.2.2.1, r28.2.2.2.2.2.2.2.2.2.1, r28.2.2.2.2.2.2.2.2.2.2)
        else none

def m_X6_handUp (N : Nat) (md_known : Int32) (md_told : (Nat → Int32)) (md_s : (Nat → Int32)) (md_past : (Nat → Int32)) (p0 : Int32) : Option (Int32 × Int32 × (Nat → Int32) × (Nat → Int32)) :=
  (m_X6_isTask md_told p0).bind fun r1 =>
  if r1 = 0 then
    some ((-1 : Int32), md_known, md_s, md_past)
  else
    (m_X6_isLost md_told md_s).bind fun r4 =>
    if r4 = 0 then
      (m_X6_open md_s).bind fun r7 =>
      if ((r7 >>> (p0 &&& 31)) &&& (1 : Int32)) = 0 then
        some ((-2 : Int32), md_known, md_s, md_past)
      else
        (m_X6_keeps N md_known md_s md_past).bind fun r10 =>
        if inI ((13 : Int32) + p0) 51 then
        (some ((md_s 5) + (((2 : Int32) * (md_told (((13 : Int32) + p0)).toNatClampNeg)) + (1 : Int32)))).bind fun y15 =>
        (some ((md_s 1) ||| ((1 : Int32) <<< (p0 &&& 31)))).bind fun y19 =>
        some (y15, r10.1, (upd (upd md_s 5 y15) 1 y19), r10.2)
        else none
    else
      some ((-2 : Int32), md_known, md_s, md_past)

def m_X6_helpNow (N : Nat) (md_told : (Nat → Int32)) (md_s : (Nat → Int32)) (p0 : Int32) : Option Int32 :=
  (m_X6_isLost md_told md_s).bind fun r1 =>
  if r1 = 0 then
    (m_X6_open md_s).bind fun r4 =>
    if ((r4 >>> (p0 &&& 31)) &&& (1 : Int32)) = 0 then
      some (-1 : Int32)
    else
      (m_X6_helpFor N md_told p0 ((md_s 2) &&& ((md_s 3) ^^^ (-1 : Int32))) (md_s 5)).bind fun r10 =>
      some r10
  else
    some (-1 : Int32)

def m_X6_help (N : Nat) (md_told : (Nat → Int32)) (md_s : (Nat → Int32)) (p0 : Int32) : Option Int32 :=
  (m_X6_isTask md_told p0).bind fun r1 =>
  if r1 = 0 then
    some (-1 : Int32)
  else
    (m_X6_helpNow N md_told md_s p0).bind fun r4 =>
    if 0 ≤ r4 then
      some r4
    else
      some (-2 : Int32)

def m_X6_helper (md_told : (Nat → Int32)) (md_s : (Nat → Int32)) (p0 : Int32) (p1 : Int32) : Option Int32 :=
  (m_X6_isHelper md_told p0).bind fun r1 =>
  if r1 = 0 then
    some (-1 : Int32)
  else
    if p1 = (0 : Int32) then
      if inI ((37 : Int32) + p0) 51 then
      some (md_told (((37 : Int32) + p0)).toNatClampNeg)
      else none
    else
    if p1 = (1 : Int32) then
      if inI ((44 : Int32) + p0) 51 then
      some (md_told (((44 : Int32) + p0)).toNatClampNeg)
      else none
    else
    if p1 = (2 : Int32) then
      some (((md_s 2) >>> (p0 &&& 31)) &&& (1 : Int32))
    else
    if p1 = (3 : Int32) then
      some (((md_s 3) >>> (p0 &&& 31)) &&& (1 : Int32))
    else
      some (-1 : Int32)

def lp_X6_keep_13 (md_kept : Int32) (md_s : (Nat → Int32)) : Nat → Int32 → (Nat → Int32) → Option (Nat → Int32)
  | 0, _, _ => none
  | n + 1, v1, md_images =>
    if (6 : Int32) ≤ v1 then
      some md_images
    else
      if inI v1 6 then
      if inI (((6 : Int32) * md_kept) + v1) 12 then
      lp_X6_keep_13 md_kept md_s n (v1 + 1) (upd md_images ((((6 : Int32) * md_kept) + v1)).toNatClampNeg (md_s (v1).toNatClampNeg))
      else none
      else none

def m_X6_keep (N : Nat) (md_kept : Int32) (md_s : (Nat → Int32)) (md_images : (Nat → Int32)) : Option (Int32 × Int32 × (Nat → Int32)) :=
  if md_kept = (2 : Int32) then
    some ((-3 : Int32), md_kept, md_images)
  else
    (lp_X6_keep_13 md_kept md_s N (0 : Int32) md_images).bind fun r5 =>
    some ((md_kept + (1 : Int32)), (md_kept + (1 : Int32)), r5)

def m_X6_rides (N : Nat) (md_told : (Nat → Int32)) (md_s : (Nat → Int32)) (p0 : Int32) : Option (Nat → Int32) :=
  (m_X6_helpNow N md_told md_s p0).bind fun r2 =>
  (m_X6_daysOf md_told p0).bind fun r6 =>
  (some ((md_s 1) ||| ((1 : Int32) <<< (p0 &&& 31)))).bind fun y11 =>
  if inI ((29 : Int32) + p0) 51 then
  (some ((md_s 0) ||| ((1 : Int32) <<< ((md_told (((29 : Int32) + p0)).toNatClampNeg) &&& 31)))).bind fun y16 =>
  some (upd (upd (upd (upd md_s 3 ((md_s 3) ||| r2)) 5 ((md_s 5) + r6)) 1 y11) 0 y16)
  else none

def m_X6_steps (N : Nat) (md_told : (Nat → Int32)) (md_s : (Nat → Int32)) (p0 : Int32) : Option (Nat → Int32) :=
  if ¬ (md_told 0) = 0 then
  (some (p0 - p0 / (md_told 0) * (md_told 0))).bind fun y3 =>
  if (md_told 1) = 0 then
    (m_X6_helpNow N md_told md_s y3).bind fun r38 =>
    if r38 < 0 then
      if (md_told 1) ≤ 0 then
        (m_X6_silent md_told md_s).bind fun r43 =>
        if ((r43 >>> (y3 &&& 31)) &&& (1 : Int32)) = (1 : Int32) then
          (some ((md_s 0) ||| ((1 : Int32) <<< (y3 &&& 31)))).bind fun y48 =>
          some (upd md_s 0 y48)
        else
          some md_s
      else
        (m_X6_canBefriend md_told md_s (0 : Int32)).bind fun r50 =>
        if r50 = 0 then
          (m_X6_silent md_told md_s).bind fun r53 =>
          if ((r53 >>> (y3 &&& 31)) &&& (1 : Int32)) = (1 : Int32) then
            (some ((md_s 0) ||| ((1 : Int32) <<< (y3 &&& 31)))).bind fun y58 =>
            some (upd md_s 0 y58)
          else
            some md_s
        else
          (m_X6_befriends md_told md_s (0 : Int32)).bind fun r60 =>
          some r60
    else
      (m_X6_rides N md_told md_s y3).bind fun r62 =>
      some r62
  else
    (some ((p0 / (8 : Int32)) - (p0 / (8 : Int32)) / (md_told 1) * (md_told 1))).bind fun y10 =>
    (m_X6_helpNow N md_told md_s y3).bind fun r12 =>
    if r12 < 0 then
      if (md_told 1) ≤ 0 then
        (m_X6_silent md_told md_s).bind fun r17 =>
        if ((r17 >>> (y3 &&& 31)) &&& (1 : Int32)) = (1 : Int32) then
          (some ((md_s 0) ||| ((1 : Int32) <<< (y3 &&& 31)))).bind fun y22 =>
          some (upd md_s 0 y22)
        else
          some md_s
      else
        (m_X6_canBefriend md_told md_s y10).bind fun r24 =>
        if r24 = 0 then
          (m_X6_silent md_told md_s).bind fun r27 =>
          if ((r27 >>> (y3 &&& 31)) &&& (1 : Int32)) = (1 : Int32) then
            (some ((md_s 0) ||| ((1 : Int32) <<< (y3 &&& 31)))).bind fun y32 =>
            some (upd md_s 0 y32)
          else
            some md_s
        else
          (m_X6_befriends md_told md_s y10).bind fun r34 =>
          some r34
    else
      (m_X6_rides N md_told md_s y3).bind fun r36 =>
      some r36
  else none

def lp_X6_king_35 (md_s : (Nat → Int32)) : Nat → Int32 → (Nat → Int32) → Option (Nat → Int32)
  | 0, _, _ => none
  | n + 1, v4, md_held =>
    if (6 : Int32) ≤ v4 then
      some md_held
    else
      if inI v4 6 then
      lp_X6_king_35 md_s n (v4 + 1) (upd md_held (v4).toNatClampNeg (md_s (v4).toNatClampNeg))
      else none

def lp_X6_king_65 (N : Nat) (v1 : Int32) (v2 : Int32) (md_told : (Nat → Int32)) : Nat → Int32 → (Nat → Int32) → Option (Nat → Int32)
  | 0, _, _ => none
  | n + 1, v4, md_s =>
    if v2 ≤ v4 then
      some md_s
    else
      (some ((((7919 : Int64) * ((v1).toInt64)) + ((6151 : Int64) * ((v4).toInt64))) + (1 : Int64))).bind fun y16 =>
      (m_X6_steps N md_told md_s (((((y16 * y16) - (y16 * y16) / (65521 : Int64) * (65521 : Int64))).toInt32) / (2 : Int32))).bind fun r20 =>
      lp_X6_king_65 N v1 v2 md_told n (v4 + 1) r20

def lp_X6_king_158 (md_held : (Nat → Int32)) : Nat → Int32 → (Nat → Int32) → Option (Nat → Int32)
  | 0, _, _ => none
  | n + 1, v5, md_s =>
    if (6 : Int32) ≤ v5 then
      some md_s
    else
      if inI v5 6 then
      lp_X6_king_158 md_held n (v5 + 1) (upd md_s (v5).toNatClampNeg (md_held (v5).toNatClampNeg))
      else none

def m_X6_king (N : Nat) (md_told : (Nat → Int32)) (md_s : (Nat → Int32)) (md_held : (Nat → Int32)) (p0 : Int32) (p1 : Int32) (p2 : Int32) : Option (Int32 × (Nat → Int32) × (Nat → Int32)) :=
  (m_X6_in p0 (0 : Int32) (9999 : Int32)).bind fun r1 =>
  if r1 = 0 then
    some ((-1 : Int32), md_s, md_held)
  else
    (m_X6_in p1 (1 : Int32) (40 : Int32)).bind fun r4 =>
    if r4 = 0 then
      some ((-1 : Int32), md_s, md_held)
    else
      (m_X6_in p2 (0 : Int32) (2 : Int32)).bind fun r7 =>
      if r7 = 0 then
        some ((-1 : Int32), md_s, md_held)
      else
        (lp_X6_king_35 md_s N (0 : Int32) md_held).bind fun r13 =>
        (lp_X6_king_65 N p0 p1 md_told N (0 : Int32) md_s).bind fun r22 =>
        if p2 = 0 then
          (m_X6_ones N (r22 1)).bind fun r40 =>
          (lp_X6_king_158 r13 N (0 : Int32) r22).bind fun r42 =>
          some (r40, r42, r13)
        else
          if p2 = (1 : Int32) then
            (lp_X6_king_158 r13 N (0 : Int32) r22).bind fun r37 =>
            some ((r22 5), r37, r13)
          else
            (m_X6_isLost md_told r22).bind fun r26 =>
            if r26 = 0 then
              (lp_X6_king_158 r13 N (0 : Int32) r22).bind fun r32 =>
              some ((0 : Int32), r32, r13)
            else
              (lp_X6_king_158 r13 N (0 : Int32) r22).bind fun r34 =>
              some ((1 : Int32), r34, r13)

def lp_X6_lays_2 (md_draft : (Nat → Int32)) : Nat → Int32 → (Nat → Int32) → Option (Nat → Int32)
  | 0, _, _ => none
  | n + 1, v1, md_told =>
    if (51 : Int32) ≤ v1 then
      some md_told
    else
      if inI v1 51 then
      lp_X6_lays_2 md_draft n (v1 + 1) (upd md_told (v1).toNatClampNeg (md_draft (v1).toNatClampNeg))
      else none

def lp_X6_lays_28  : Nat → Int32 → (Nat → Int32) → Option (Nat → Int32)
  | 0, _, _ => none
  | n + 1, v1, md_s =>
    if (6 : Int32) ≤ v1 then
      some md_s
    else
      if inI v1 6 then
      lp_X6_lays_28 n (v1 + 1) (upd md_s (v1).toNatClampNeg (0 : Int32))
      else none

def m_X6_lays (N : Nat) (md_told : (Nat → Int32)) (md_draft : (Nat → Int32)) (md_s : (Nat → Int32)) : Option (Int32 × Int32 × Int32 × (Nat → Int32) × (Nat → Int32)) :=
  (lp_X6_lays_2 md_draft N (0 : Int32) md_told).bind fun r4 =>
  (lp_X6_lays_28 N (0 : Int32) md_s).bind fun r8 =>
  some ((0 : Int32), (0 : Int32), (0 : Int32), r4, (upd (upd r8 0 (r4 4)) 4 (r4 2)))

def lp_X6_lay_26 (md_draft : (Nat → Int32)) : Nat → Int32 → Int32 → Option Int32
  | 0, _, _ => none
  | n + 1, v1, v2 =>
    if (md_draft 0) ≤ v2 then
      some v1
    else
      if v1 = 0 then
        some v1
      else
        if inI ((29 : Int32) + v2) 51 then
        if (md_draft 0) ≤ (md_draft (((29 : Int32) + v2)).toNatClampNeg) then
          lp_X6_lay_26 md_draft n (0 : Int32) (v2 + 1)
        else
          lp_X6_lay_26 md_draft n (1 : Int32) (v2 + 1)
        else none

def m_X6_lay (N : Nat) (md_typed : Int32) (md_known : Int32) (md_kept : Int32) (md_sights : Int32) (md_text : (Nat → Int32)) (md_told : (Nat → Int32)) (md_draft : (Nat → Int32)) (md_s : (Nat → Int32)) : Option (Int32 × Int32 × Int32 × Int32 × Int32 × (Nat → Int32) × (Nat → Int32) × (Nat → Int32)) :=
  (m_X6_readsAll N md_typed md_text md_draft).bind fun r1 =>
  if r1.1 = (-4 : Int32) then
    if (r1.2.2 0) ≤ 0 then
      (lp_X6_lay_26 r1.2.2 N (0 : Int32) (0 : Int32)).bind fun r18 =>
      if r18 = 0 then
        some ((-2 : Int32), md_known, md_kept, md_sights, r1.2.1, md_told, r1.2.2, md_s)
      else
        (m_X6_lays N md_told r1.2.2 md_s).bind fun r21 =>
        some ((r21.2.2.2.1 0), r21.1, r21.2.1, r21.2.2.1, r1.2.1, r21.2.2.2.1, r1.2.2, r21.2.2.2.2)
    else
      (lp_X6_lay_26 r1.2.2 N (1 : Int32) (0 : Int32)).bind fun r24 =>
      if r24 = 0 then
        some ((-2 : Int32), md_known, md_kept, md_sights, r1.2.1, md_told, r1.2.2, md_s)
      else
        (m_X6_lays N md_told r1.2.2 md_s).bind fun r27 =>
        some ((r27.2.2.2.1 0), r27.1, r27.2.1, r27.2.2.1, r1.2.1, r27.2.2.2.1, r1.2.2, r27.2.2.2.2)
  else
    (lp_X6_lay_26 r1.2.2 N (0 : Int32) (0 : Int32)).bind fun r10 =>
    if r10 = 0 then
      some ((-2 : Int32), md_known, md_kept, md_sights, r1.2.1, md_told, r1.2.2, md_s)
    else
      (m_X6_lays N md_told r1.2.2 md_s).bind fun r13 =>
      some ((r13.2.2.2.1 0), r13.1, r13.2.1, r13.2.2.1, r1.2.1, r13.2.2.2.1, r1.2.2, r13.2.2.2.2)

def m_X6_mayCome (N : Nat) (md_told : (Nat → Int32)) (md_s : (Nat → Int32)) : Option Int32 :=
  (m_X6_comes N md_told md_s).bind fun r1 =>
  some r1

def m_X6_ride (N : Nat) (md_known : Int32) (md_told : (Nat → Int32)) (md_s : (Nat → Int32)) (md_past : (Nat → Int32)) (p0 : Int32) : Option (Int32 × Int32 × (Nat → Int32) × (Nat → Int32)) :=
  (m_X6_isTask md_told p0).bind fun r1 =>
  if r1 = 0 then
    some ((-1 : Int32), md_known, md_s, md_past)
  else
    (m_X6_helpNow N md_told md_s p0).bind fun r4 =>
    if 0 ≤ r4 then
      (m_X6_keeps N md_known md_s md_past).bind fun r7 =>
      (m_X6_rides N md_told md_s p0).bind fun r9 =>
      some ((r9 5), r7.1, r9, r7.2)
    else
      some ((-2 : Int32), md_known, md_s, md_past)

def m_X6_rows (N : Nat) (md_sights : Int32) (md_many : Int32) (md_length : Int32) (md_told : (Nat → Int32)) (md_s : (Nat → Int32)) (md_seen : (Nat → Int32)) (md_asks : (Nat → Int32)) (md_brings : (Nat → Int32)) (md_uses : (Nat → Int32)) (md_days : (Nat → Int32)) (md_tries : (Nat → Int32)) (md_row : (Nat → Int32)) (md_first : (Nat → Int32)) (p0 : Int32) : Option (Int32 × Int32 × Int32 × (Nat → Int32) × (Nat → Int32) × (Nat → Int32) × (Nat → Int32) × (Nat → Int32) × (Nat → Int32) × (Nat → Int32)) :=
  (m_X6_in p0 (0 : Int32) (8 : Int32)).bind fun r1 =>
  if r1 = 0 then
    some ((-1 : Int32), md_many, md_length, md_asks, md_brings, md_uses, md_days, md_tries, md_row, md_first)
  else
    (m_X6_walks N md_sights md_told md_s md_seen md_asks md_brings md_uses md_days md_tries md_row md_first (1 : Int32) (0 : Int32)).bind fun r4 =>
    if p0 = 0 then
      some (r4.1, r4.1, r4.2.1, r4.2.2.1, r4.2.2.2.1, r4.2.2.2.2.1, r4.2.2.2.2.2.1, r4.2.2.2.2.2.2.1, r4.2.2.2.2.2.2.2.1, r4.2.2.2.2.2.2.2.2)
    else
      if p0 ≤ r4.2.1 then
        if inI (p0 - (1 : Int32)) 8 then
        some ((r4.2.2.2.2.2.2.2.2 ((p0 - (1 : Int32))).toNatClampNeg), r4.1, r4.2.1, r4.2.2.1, r4.2.2.2.1, r4.2.2.2.2.1, r4.2.2.2.2.2.1, r4.2.2.2.2.2.2.1, r4.2.2.2.2.2.2.2.1, r4.2.2.2.2.2.2.2.2)
        else none
      else
        some ((-4 : Int32), r4.1, r4.2.1, r4.2.2.1, r4.2.2.2.1, r4.2.2.2.2.1, r4.2.2.2.2.2.1, r4.2.2.2.2.2.2.1, r4.2.2.2.2.2.2.2.1, r4.2.2.2.2.2.2.2.2)

def m_X6_see (md_sights : Int32) (md_told : (Nat → Int32)) (md_seen : (Nat → Int32)) (p0 : Int32) (p1 : Int32) : Option (Int32 × Int32 × (Nat → Int32)) :=
  (m_X6_isTask md_told p0).bind fun r1 =>
  if r1 = 0 then
    some ((-1 : Int32), md_sights, md_seen)
  else
    (m_X6_in p1 (1 : Int32) (8 : Int32)).bind fun r4 =>
    if r4 = 0 then
      some ((-1 : Int32), md_sights, md_seen)
    else
      if md_sights = (6 : Int32) then
        some ((-3 : Int32), md_sights, md_seen)
      else
        if inI md_sights 6 then
        some ((md_sights + (1 : Int32)), (md_sights + (1 : Int32)), (upd md_seen (md_sights).toNatClampNeg (((10 : Int32) * p0) + p1)))
        else none

def m_X6_step (N : Nat) (md_sights : Int32) (md_many : Int32) (md_length : Int32) (md_told : (Nat → Int32)) (md_s : (Nat → Int32)) (md_seen : (Nat → Int32)) (md_asks : (Nat → Int32)) (md_brings : (Nat → Int32)) (md_uses : (Nat → Int32)) (md_days : (Nat → Int32)) (md_tries : (Nat → Int32)) (md_row : (Nat → Int32)) (md_first : (Nat → Int32)) (p0 : Int32) : Option (Int32 × Int32 × Int32 × (Nat → Int32) × (Nat → Int32) × (Nat → Int32) × (Nat → Int32) × (Nat → Int32) × (Nat → Int32) × (Nat → Int32) × (Nat → Int32)) :=
  (m_X6_isTask md_told p0).bind fun r1 =>
  if r1 = 0 then
    some ((-1 : Int32), md_many, md_length, md_s, md_asks, md_brings, md_uses, md_days, md_tries, md_row, md_first)
  else
    (m_X6_helpNow N md_told md_s p0).bind fun r4 =>
    if 0 ≤ r4 then
      (m_X6_rides N md_told md_s p0).bind fun r11 =>
      (m_X6_walks N md_sights md_told r11 md_seen md_asks md_brings md_uses md_days md_tries md_row md_first (0 : Int32) (0 : Int32)).bind fun r13 =>
      some (r13.1, r13.1, r13.2.1, (upd (upd (upd (upd r11 0 (md_s 0)) 1 (md_s 1)) 3 (md_s 3)) 5 (md_s 5)), r13.2.2.1, r13.2.2.2.1, r13.2.2.2.2.1, r13.2.2.2.2.2.1, r13.2.2.2.2.2.2.1, r13.2.2.2.2.2.2.2.1, r13.2.2.2.2.2.2.2.2)
    else
      some ((0 : Int32), md_many, md_length, md_s, md_asks, md_brings, md_uses, md_days, md_tries, md_row, md_first)

def m_X6_suggest (N : Nat) (md_known : Int32) (md_told : (Nat → Int32)) (md_s : (Nat → Int32)) (md_past : (Nat → Int32)) (p0 : Int32) : Option (Int32 × Int32 × (Nat → Int32) × (Nat → Int32)) :=
  (m_X6_isTask md_told p0).bind fun r1 =>
  if r1 = 0 then
    some ((-1 : Int32), md_known, md_s, md_past)
  else
    (m_X6_silent md_told md_s).bind fun r4 =>
    if ((r4 >>> (p0 &&& 31)) &&& (1 : Int32)) = 0 then
      some ((-2 : Int32), md_known, md_s, md_past)
    else
      (m_X6_keeps N md_known md_s md_past).bind fun r7 =>
      (some ((md_s 0) ||| ((1 : Int32) <<< (p0 &&& 31)))).bind fun y11 =>
      (m_X6_open (upd md_s 0 y11)).bind fun r13 =>
      (m_X6_ones N r13).bind fun r15 =>
      some (r15, r7.1, (upd md_s 0 y11), r7.2)

def m_X6_task (N : Nat) (md_told : (Nat → Int32)) (md_s : (Nat → Int32)) (p0 : Int32) (p1 : Int32) : Option Int32 :=
  (m_X6_isTask md_told p0).bind fun r1 =>
  if r1 = 0 then
    some (-1 : Int32)
  else
    if p1 = (0 : Int32) then
      if inI ((5 : Int32) + p0) 51 then
      some (md_told (((5 : Int32) + p0)).toNatClampNeg)
      else none
    else
    if p1 = (1 : Int32) then
      if inI ((13 : Int32) + p0) 51 then
      some (md_told (((13 : Int32) + p0)).toNatClampNeg)
      else none
    else
    if p1 = (2 : Int32) then
      if inI ((21 : Int32) + p0) 51 then
      some (md_told (((21 : Int32) + p0)).toNatClampNeg)
      else none
    else
    if p1 = (3 : Int32) then
      if inI ((29 : Int32) + p0) 51 then
      some (md_told (((29 : Int32) + p0)).toNatClampNeg)
      else none
    else
    if p1 = (4 : Int32) then
      some (((md_s 0) >>> (p0 &&& 31)) &&& (1 : Int32))
    else
    if p1 = (5 : Int32) then
      some (((md_s 1) >>> (p0 &&& 31)) &&& (1 : Int32))
    else
    if p1 = (6 : Int32) then
      (m_X6_helpNow N md_told md_s p0).bind fun r17 =>
      if 0 ≤ r17 then
        some (1 : Int32)
      else
        some (0 : Int32)
    else
      some (-1 : Int32)

def lp_X6_undo_22 (md_known : Int32) (md_past : (Nat → Int32)) : Nat → Int32 → (Nat → Int32) → Option (Nat → Int32)
  | 0, _, _ => none
  | n + 1, v1, md_s =>
    if (6 : Int32) ≤ v1 then
      some md_s
    else
      if inI (((6 : Int32) * md_known) + v1) 48 then
      (some (md_past ((((6 : Int32) * md_known) + v1)).toNatClampNeg)).bind fun y5 =>
      if inI v1 6 then
      lp_X6_undo_22 md_known md_past n (v1 + 1) (upd md_s (v1).toNatClampNeg y5)
      else none
      else none

def m_X6_undo (N : Nat) (md_known : Int32) (md_s : (Nat → Int32)) (md_past : (Nat → Int32)) : Option (Int32 × Int32 × (Nat → Int32)) :=
  if md_known = 0 then
    some ((-2 : Int32), md_known, md_s)
  else
    (lp_X6_undo_22 (md_known - (1 : Int32)) md_past N (0 : Int32) md_s).bind fun r7 =>
    some ((md_known - (1 : Int32)), (md_known - (1 : Int32)), r7)

def m_X6_well (N : Nat) (md_sights : Int32) (md_many : Int32) (md_length : Int32) (md_told : (Nat → Int32)) (md_s : (Nat → Int32)) (md_seen : (Nat → Int32)) (md_asks : (Nat → Int32)) (md_brings : (Nat → Int32)) (md_uses : (Nat → Int32)) (md_days : (Nat → Int32)) (md_tries : (Nat → Int32)) (md_row : (Nat → Int32)) (md_first : (Nat → Int32)) (p0 : Int32) : Option (Int32 × Int32 × Int32 × (Nat → Int32) × (Nat → Int32) × (Nat → Int32) × (Nat → Int32) × (Nat → Int32) × (Nat → Int32) × (Nat → Int32)) :=
  (m_X6_in p0 (0 : Int32) (8 : Int32)).bind fun r1 =>
  if r1 = 0 then
    some ((-1 : Int32), md_many, md_length, md_asks, md_brings, md_uses, md_days, md_tries, md_row, md_first)
  else
    (m_X6_walks N md_sights md_told md_s md_seen md_asks md_brings md_uses md_days md_tries md_row md_first (0 : Int32) (0 : Int32)).bind fun r4 =>
    if p0 = 0 then
      some (r4.1, r4.1, r4.2.1, r4.2.2.1, r4.2.2.2.1, r4.2.2.2.2.1, r4.2.2.2.2.2.1, r4.2.2.2.2.2.2.1, r4.2.2.2.2.2.2.2.1, r4.2.2.2.2.2.2.2.2)
    else
      if p0 ≤ r4.2.1 then
        if inI (p0 - (1 : Int32)) 8 then
        some ((r4.2.2.2.2.2.2.2.2 ((p0 - (1 : Int32))).toNatClampNeg), r4.1, r4.2.1, r4.2.2.1, r4.2.2.2.1, r4.2.2.2.2.1, r4.2.2.2.2.2.1, r4.2.2.2.2.2.2.1, r4.2.2.2.2.2.2.2.1, r4.2.2.2.2.2.2.2.2)
        else none
      else
        some ((-4 : Int32), r4.1, r4.2.1, r4.2.2.1, r4.2.2.2.1, r4.2.2.2.2.1, r4.2.2.2.2.2.1, r4.2.2.2.2.2.2.1, r4.2.2.2.2.2.2.2.1, r4.2.2.2.2.2.2.2.2)

def m_X6_wipe (md_typed : Int32) : Option (Int32 × Int32) :=
  some (md_typed, (0 : Int32))

def m_X6_worth (N : Nat) (md_sights : Int32) (md_many : Int32) (md_length : Int32) (md_set : Int32) (md_told : (Nat → Int32)) (md_s : (Nat → Int32)) (md_seen : (Nat → Int32)) (md_asks : (Nat → Int32)) (md_brings : (Nat → Int32)) (md_uses : (Nat → Int32)) (md_days : (Nat → Int32)) (md_tries : (Nat → Int32)) (md_row : (Nat → Int32)) (md_first : (Nat → Int32)) (p0 : Int32) (p1 : Int32) : Option (Int32 × Int32 × Int32 × Int32 × (Nat → Int32) × (Nat → Int32) × (Nat → Int32) × (Nat → Int32) × (Nat → Int32) × (Nat → Int32) × (Nat → Int32) × (Nat → Int32)) :=
  (m_X6_isHelper md_told p0).bind fun r1 =>
  if r1 = 0 then
    some ((-1 : Int32), md_many, md_length, md_set, md_s, md_asks, md_brings, md_uses, md_days, md_tries, md_row, md_first)
  else
    (m_X6_in p1 (0 : Int32) (1 : Int32)).bind fun r4 =>
    if r4 = 0 then
      some ((-1 : Int32), md_many, md_length, md_set, md_s, md_asks, md_brings, md_uses, md_days, md_tries, md_row, md_first)
    else
      if (((md_s 2) >>> (p0 &&& 31)) &&& (1 : Int32)) = (1 : Int32) then
        some ((-2 : Int32), md_many, md_length, md_set, md_s, md_asks, md_brings, md_uses, md_days, md_tries, md_row, md_first)
      else
        (m_X6_walks N md_sights md_told md_s md_seen md_asks md_brings md_uses md_days md_tries md_row md_first (0 : Int32) (0 : Int32)).bind fun r9 =>
        (m_X6_few N md_sights r9.1 r9.2.1 md_told md_s md_seen r9.2.2.1 r9.2.2.2.1 r9.2.2.2.2.1 r9.2.2.2.2.2.1 r9.2.2.2.2.2.2.1 r9.2.2.2.2.2.2.2.1 r9.2.2.2.2.2.2.2.2).bind fun r11 =>
        (some ((r11.2.2.2.2.1 2) ||| ((1 : Int32) <<< (p0 &&& 31)))).bind fun y15 =>
        (m_X6_walks N md_sights md_told (upd r11.2.2.2.2.1 2 y15) md_seen r11.2.2.2.2.2.1 r11.2.2.2.2.2.2.1 r11.2.2.2.2.2.2.2.1 r11.2.2.2.2.2.2.2.2.1 r11.2.2.2.2.2.2.2.2.2.1 r11.2.2.2.2.2.2.2.2.2.2.1 r11.2.2.2.2.2.2.2.2.2.2.2 (0 : Int32) (0 : Int32)).bind fun r17 =>
        (m_X6_few N md_sights r17.1 r17.2.1 md_told (upd r11.2.2.2.2.1 2 y15) md_seen r17.2.2.1 r17.2.2.2.1 r17.2.2.2.2.1 r17.2.2.2.2.2.1 r17.2.2.2.2.2.2.1 r17.2.2.2.2.2.2.2.1 r17.2.2.2.2.2.2.2.2).bind fun r19 =>
        (some ((r19.2.2.2.2.1 2) &&& (((1 : Int32) <<< (p0 &&& 31)) ^^^ (-1 : Int32)))).bind fun y23 =>
        if p1 = 0 then
          if 0 ≤ (r17.1 - r9.1) then
            some ((r17.1 - r9.1), r19.2.1, r19.2.2.1, r19.2.2.2.1, (upd r19.2.2.2.2.1 2 y23), r19.2.2.2.2.2.1, r19.2.2.2.2.2.2.1, r19.2.2.2.2.2.2.2.1, r19.2.2.2.2.2.2.2.2.1, r19.2.2.2.2.2.2.2.2.2.1, r19.2.2.2.2.2.2.2.2.2.2.1, r19.2.2.2.2.2.2.2.2.2.2.2)
          else
            some ((0 : Int32), r19.2.1, r19.2.2.1, r19.2.2.2.1, (upd r19.2.2.2.2.1 2 y23), r19.2.2.2.2.2.1, r19.2.2.2.2.2.2.1, r19.2.2.2.2.2.2.2.1, r19.2.2.2.2.2.2.2.2.1, r19.2.2.2.2.2.2.2.2.2.1, r19.2.2.2.2.2.2.2.2.2.2.1, r19.2.2.2.2.2.2.2.2.2.2.2)
        else
          if r11.1 = (-4 : Int32) then
            some ((-4 : Int32), r19.2.1, r19.2.2.1, r19.2.2.2.1, (upd r19.2.2.2.2.1 2 y23), r19.2.2.2.2.2.1, r19.2.2.2.2.2.2.1, r19.2.2.2.2.2.2.2.1, r19.2.2.2.2.2.2.2.2.1, r19.2.2.2.2.2.2.2.2.2.1, r19.2.2.2.2.2.2.2.2.2.2.1, r19.2.2.2.2.2.2.2.2.2.2.2)
          else
            if r19.1 = (-4 : Int32) then
              some ((-4 : Int32), r19.2.1, r19.2.2.1, r19.2.2.2.1, (upd r19.2.2.2.2.1 2 y23), r19.2.2.2.2.2.1, r19.2.2.2.2.2.2.1, r19.2.2.2.2.2.2.2.1, r19.2.2.2.2.2.2.2.2.1, r19.2.2.2.2.2.2.2.2.2.1, r19.2.2.2.2.2.2.2.2.2.2.1, r19.2.2.2.2.2.2.2.2.2.2.2)
            else
              some ((r11.1 - r19.1), r19.2.1, r19.2.2.1, r19.2.2.2.1, (upd r19.2.2.2.2.1 2 y23), r19.2.2.2.2.2.1, r19.2.2.2.2.2.2.1, r19.2.2.2.2.2.2.2.1, r19.2.2.2.2.2.2.2.2.1, r19.2.2.2.2.2.2.2.2.2.1, r19.2.2.2.2.2.2.2.2.2.2.1, r19.2.2.2.2.2.2.2.2.2.2.2)

def m_X6_write (md_typed : Int32) (md_text : (Nat → Int32)) (p0 : Int32) : Option (Int32 × Int32 × (Nat → Int32)) :=
  (m_X6_in p0 (32 : Int32) (126 : Int32)).bind fun r1 =>
  if r1 = 0 then
    some ((-1 : Int32), md_typed, md_text)
  else
    if md_typed = (200 : Int32) then
      some ((-3 : Int32), md_typed, md_text)
    else
      if inI md_typed 200 then
      some ((md_typed + (1 : Int32)), (md_typed + (1 : Int32)), (upd md_text (md_typed).toNatClampNeg p0))
      else none
