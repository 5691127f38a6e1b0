def m_X8_isIn_15 (s0 : Int32) : Option (Int32) :=
  if vp_nar .boolean s0 = s0 then some s0 else none
def m_X8_isIn_14 : Option (Int32) :=
  m_X8_isIn_15 0
def m_X8_isIn_e (l0 : Int32) (l1 : Int32) (l2 : Int32) : Option (Int32) :=
  if (l0 : Int32) < l1 then m_X8_isIn_14 else (if (l2 : Int32) < l0 then m_X8_isIn_14 else (m_X8_isIn_15 1))
abbrev m_X8_isIn := @m_X8_isIn_e
def m_X8_fail_e (I : po_I) (l0 : Nat) (l1 : Int32) : Option (Int32 × po_I) :=
  po_hlet (po_u I l0 0 l1) fun I1 => some ((0, I1))
abbrev m_X8_fail := @m_X8_fail_e
def m_X8_append_139 (r100 : po_I → Nat → Int32 → Int32 → Option (Int32 × po_I)) (I : po_I) (l0 : Nat) (l1 : Int32) (l3 : Int32) : Option (Int32 × po_I) :=
  r100 I l0 l1 (l3 + (-8))
def m_X8_append_100 (r100 : po_I → Nat → Int32 → Int32 → Option (Int32 × po_I)) (I : po_I) (l0 : Nat) (l1 : Int32) (l3 : Int32) : Option (Int32 × po_I) :=
  if (l3 : Int32) < 0 then (some (((I l0 12), I))) else (po_let (((Int32.toUInt32 l1 >>> (Int32.toUInt32 l3 &&& Int32.toUInt32 31)).toInt32) &&& 255) fun v1 => if (v1 : Int32) = 0 then (m_X8_append_139 r100 I l0 l1 l3) else (if po_in (I l0 12) 60 = true then po_hlet (po_u I (l0 + 5) (Int32.toNatClampNeg (I l0 12)) v1) fun I2 => po_hlet (po_u I2 l0 12 ((I2 l0 12) + 1)) fun I3 => m_X8_append_139 r100 I3 l0 l1 l3 else none))
def m_X8_append_100L : Nat → po_I → Nat → Int32 → Int32 → Option (Int32 × po_I)
  | 0 => fun _ _ _ _ => none
  | n + 1 => m_X8_append_100 (m_X8_append_100L n)
def m_X8_append_63 (r10 : po_I → Nat → Int32 → Int32 → Int32 → Option (Int32 × po_I)) (I : po_I) (l0 : Nat) (l1 : Int32) (l3 : Int32) (s0 : Int32) (s1 : Int32) : Option (Int32 × po_I) :=
  po_let (s0 + s1) fun v4 => r10 I l0 l1 v4 (l3 + (-8))
def m_X8_append_49 (r10 : po_I → Nat → Int32 → Int32 → Int32 → Option (Int32 × po_I)) (I : po_I) (l0 : Nat) (l1 : Int32) (l2 : Int32) (l3 : Int32) (l4 : Int32) (s0 : Nat) (s1 : Int32) : Option (Int32 × po_I) :=
  po_hlet (po_u I s0 0 s1) fun I5 => if (l4 : Int32) = 0 then (m_X8_append_63 r10 I5 l0 l1 l3 l2 0) else (m_X8_append_63 r10 I5 l0 l1 l3 l2 1)
def m_X8_append_45 (r10 : po_I → Nat → Int32 → Int32 → Int32 → Option (Int32 × po_I)) (I : po_I) (l0 : Nat) (l1 : Int32) (l2 : Int32) (l3 : Int32) (l4 : Int32) (s0 : Nat) : Option (Int32 × po_I) :=
  m_X8_append_49 r10 I l0 l1 l2 l3 l4 s0 (I l0 0)
def m_X8_append_10 (r10 : po_I → Nat → Int32 → Int32 → Int32 → Option (Int32 × po_I)) (I : po_I) (l0 : Nat) (l1 : Int32) (l2 : Int32) (l3 : Int32) : Option (Int32 × po_I) :=
  if (l3 : Int32) < 0 then (if ((I l0 0) : Int32) = 0 then (if (((I l0 12) + l2) : Int32) ≤ 60 then (m_X8_append_100L 5000 I l0 l1 24) else (Option.bind (m_X8_fail I l0 2) fun x6 => some (((x6.1), x6.2)))) else (some ((0, I)))) else (po_let (((Int32.toUInt32 l1 >>> (Int32.toUInt32 l3 &&& Int32.toUInt32 31)).toInt32) &&& 255) fun v7 => if (v7 : Int32) = 0 then (m_X8_append_45 r10 I l0 l1 l2 l3 v7 l0) else (Option.bind (m_X8_isIn v7 33 126) fun x8 => if (x8 : Int32) = 0 then (m_X8_append_49 r10 I l0 l1 l2 l3 v7 l0 1) else (m_X8_append_45 r10 I l0 l1 l2 l3 v7 l0)))
def m_X8_append_10L : Nat → po_I → Nat → Int32 → Int32 → Int32 → Option (Int32 × po_I)
  | 0 => fun _ _ _ _ _ => none
  | n + 1 => m_X8_append_10 (m_X8_append_10L n)
def m_X8_append_e (I : po_I) (l0 : Nat) (l1 : Int32) : Option (Int32 × po_I) :=
  po_hlet (po_u I l0 0 0) fun I9 => m_X8_append_10L 5000 I9 l0 l1 0 24
abbrev m_X8_append := @m_X8_append_e
def m_X8_copy_2 (r2 : po_I → Nat → Nat → Int32 → Option (po_I)) (I : po_I) (l0 : Nat) (l1 : Nat) (l2 : Int32) : Option (po_I) :=
  if (668 : Int32) ≤ l2 then (some I) else (if po_in l2 668 = true then if po_in l2 668 = true then po_hlet (po_u I l1 (Int32.toNatClampNeg l2) (I l0 (Int32.toNatClampNeg l2))) fun I1 => r2 I1 l0 l1 (l2 + 1) else none else none)
def m_X8_copy_2L : Nat → po_I → Nat → Nat → Int32 → Option (po_I)
  | 0 => fun _ _ _ _ => none
  | n + 1 => m_X8_copy_2 (m_X8_copy_2L n)
def m_X8_copy_e (I : po_I) (l0 : Nat) (l1 : Nat) : Option (po_I) :=
  m_X8_copy_2L 5000 I l0 l1 0
abbrev m_X8_copy := @m_X8_copy_e
def m_X8_sign_24 (I : po_I) (s0 : Int32) : Option (Int32) :=
  some s0
def m_X8_sign_e (I : po_I) (l0 : Nat) : Option (Int32) :=
  if ((I l0 13) : Int32) ≤ (I l0 14) then (m_X8_sign_24 I (-1)) else (if po_in (I l0 14) 60 = true then m_X8_sign_24 I (I (l0 + 5) (Int32.toNatClampNeg (I l0 14))) else none)
abbrev m_X8_sign := @m_X8_sign_e
def m_X8_faultAt_17 (I : po_I) (s0 : Nat) (s1 : Int32) : Option (po_I) :=
  po_hlet (po_u I s0 15 s1) fun I1 => some I1
def m_X8_faultAt_e (I : po_I) (l0 : Nat) (l1 : Int32) : Option (po_I) :=
  if ((I l0 15) : Int32) = (-1) then (m_X8_faultAt_17 I l0 l1) else (m_X8_faultAt_17 I l0 (I l0 15))
abbrev m_X8_faultAt := @m_X8_faultAt_e
def m_X8_sign__39 (I : po_I) (l0 : Nat) : Option (Int32 × po_I) :=
  Option.bind (m_X8_faultAt I l0 (I l0 14)) fun x1 => some ((0, x1))
def m_X8_sign__e (I : po_I) (l0 : Nat) (l1 : Int32) (l2 : Int32) : Option (Int32 × po_I) :=
  Option.bind (m_X8_sign I l0) fun x2 => po_let (x2 - l1) fun v3 => if ((I l0 15) : Int32) = (-1) then (Option.bind (m_X8_sign I l0) fun x4 => Option.bind (m_X8_isIn x4 l1 l2) fun x5 => if (x5 : Int32) = 0 then (m_X8_sign__39 I l0) else (po_hlet (po_u I l0 14 ((I l0 14) + 1)) fun I6 => some ((v3, I6)))) else (m_X8_sign__39 I l0)
abbrev m_X8_sign_ := @m_X8_sign__e
def m_X8_digit_e (I : po_I) (l0 : Nat) (l1 : Int32) (l2 : Int32) : Option (Int32 × po_I) :=
  Option.bind (m_X8_sign_ I l0 ((Int32.toUInt32 (48 + l1) % 65536).toInt32) ((Int32.toUInt32 (48 + l2) % 65536).toInt32)) fun x1 => some (((l1 + (x1.1)), x1.2))
abbrev m_X8_digit := @m_X8_digit_e
def m_X8_front_73 (I : po_I) (l2 : Int32) : Option (Int32 × po_I) :=
  some ((l2, I))
def m_X8_front_46 (I : po_I) (l0 : Nat) (s0 : Int32) : Option (Int32 × po_I) :=
  if (s0 : Int32) = (-1) then (Option.bind (m_X8_faultAt I l0 (I l0 14)) fun x2 => m_X8_front_73 x2 s0) else (po_hlet (po_u I l0 14 ((I l0 14) + 1)) fun I1 => m_X8_front_73 I1 s0)
def m_X8_front_e (I : po_I) (l0 : Nat) : Option (Int32 × po_I) :=
  Option.bind (m_X8_sign I l0) fun x3 => if (x3 : Int32) = 78 then (m_X8_front_46 I l0 0) else (if (x3 : Int32) = 69 then (m_X8_front_46 I l0 1) else (if (x3 : Int32) = 83 then (m_X8_front_46 I l0 2) else (if (x3 : Int32) = 87 then (m_X8_front_46 I l0 3) else (m_X8_front_46 I l0 (-1)))))
abbrev m_X8_front := @m_X8_front_e
def m_X8_isColumn_e (l0 : Int32) : Option (Int32) :=
  Option.bind (m_X8_isIn l0 97 116) fun x1 => if vp_nar .boolean x1 = x1 then some x1 else none
abbrev m_X8_isColumn := @m_X8_isColumn_e
def m_X8_readArea_184 (I : po_I) : Option (po_I) :=
  some I
def m_X8_readArea_171 (r5 : po_I → Nat → Option (po_I)) (I : po_I) (l0 : Nat) : Option (po_I) :=
  po_hlet (po_u I l0 17 ((I l0 17) + 1)) fun I1 => r5 I1 l0
def m_X8_readArea_166 (r5 : po_I → Nat → Option (po_I)) (I : po_I) (l0 : Nat) (l1 : Int32) : Option (po_I) :=
  Option.bind (m_X8_faultAt I l0 l1) fun x2 => m_X8_readArea_171 r5 x2 l0
def m_X8_readArea_30 (r5 : po_I → Nat → Option (po_I)) (I : po_I) (l0 : Nat) : Option (po_I) :=
  po_let (I l0 14) fun v3 => if ((I l0 17) : Int32) = 3 then (Option.bind (m_X8_faultAt I l0 v3) fun x13 => some x13) else (po_let (4 * (I l0 17)) fun v4 => Option.bind (m_X8_sign_ I l0 97 116) fun x5 => if po_in v4 12 = true then po_hlet (po_u (x5.2) (l0 + 6) (Int32.toNatClampNeg v4) (x5.1)) fun I6 => Option.bind (m_X8_sign_ I6 l0 97 110) fun x7 => if po_in (v4 + 1) 12 = true then po_hlet (po_u (x7.2) (l0 + 6) (Int32.toNatClampNeg (v4 + 1)) (x7.1)) fun I8 => Option.bind (m_X8_digit I8 l0 1 9) fun x9 => if po_in (v4 + 2) 12 = true then po_hlet (po_u (x9.2) (l0 + 6) (Int32.toNatClampNeg (v4 + 2)) (x9.1)) fun I10 => Option.bind (m_X8_digit I10 l0 1 9) fun x11 => if po_in (v4 + 3) 12 = true then po_hlet (po_u (x11.2) (l0 + 6) (Int32.toNatClampNeg (v4 + 3)) (x11.1)) fun I12 => if ((I12 l0 15) : Int32) = (-1) then (if po_in v4 12 = true then if po_in (v4 + 2) 12 = true then if (20 : Int32) < ((I12 (l0 + 6) (Int32.toNatClampNeg v4)) + (I12 (l0 + 6) (Int32.toNatClampNeg (v4 + 2)))) then (m_X8_readArea_166 r5 I12 l0 v3) else (if po_in (v4 + 1) 12 = true then if po_in (v4 + 3) 12 = true then if (((I12 (l0 + 6) (Int32.toNatClampNeg (v4 + 1))) + (I12 (l0 + 6) (Int32.toNatClampNeg (v4 + 3)))) : Int32) ≤ 14 then (m_X8_readArea_171 r5 I12 l0) else (m_X8_readArea_166 r5 I12 l0 v3) else none else none) else none else none) else (m_X8_readArea_171 r5 I12 l0) else none else none else none else none)
def m_X8_readArea_5 (r5 : po_I → Nat → Option (po_I)) (I : po_I) (l0 : Nat) : Option (po_I) :=
  if ((I l0 15) : Int32) = (-1) then (if ((I l0 17) : Int32) = 0 then (m_X8_readArea_30 r5 I l0) else (Option.bind (m_X8_sign I l0) fun x14 => Option.bind (m_X8_isColumn x14) fun x15 => if (x15 : Int32) = 0 then (m_X8_readArea_184 I) else (m_X8_readArea_30 r5 I l0))) else (m_X8_readArea_184 I)
def m_X8_readArea_5L : Nat → po_I → Nat → Option (po_I)
  | 0 => fun _ _ => none
  | n + 1 => m_X8_readArea_5 (m_X8_readArea_5L n)
def m_X8_readArea_e (I : po_I) (l0 : Nat) : Option (po_I) :=
  po_hlet (po_u I l0 17 0) fun I16 => m_X8_readArea_5L 5000 I16 l0
abbrev m_X8_readArea := @m_X8_readArea_e
def m_X8_must_37 (I : po_I) : Option (po_I) :=
  some I
def m_X8_must_29 (I : po_I) (l0 : Nat) : Option (po_I) :=
  Option.bind (m_X8_faultAt I l0 (I l0 14)) fun x1 => m_X8_must_37 x1
def m_X8_must_e (I : po_I) (l0 : Nat) (l1 : Int32) : Option (po_I) :=
  if ((I l0 15) : Int32) = (-1) then (Option.bind (m_X8_sign I l0) fun x2 => if (x2 : Int32) = l1 then (po_hlet (po_u I l0 14 ((I l0 14) + 1)) fun I3 => m_X8_must_37 I3) else (m_X8_must_29 I l0)) else (m_X8_must_29 I l0)
abbrev m_X8_must := @m_X8_must_e
def m_X8_putArea_49 (r14 : po_I → Nat → Int32 → Int32 → Option (po_I)) (I : po_I) (l0 : Nat) (l1 : Int32) (l2 : Int32) (s0 : Nat) (s1 : Int32) (s2 : Int32) : Option (po_I) :=
  if po_in s1 668 = true then po_hlet (po_u I s0 (Int32.toNatClampNeg s1) s2) fun I1 => r14 I1 l0 l1 (l2 + 1) else none
def m_X8_putArea_14 (r14 : po_I → Nat → Int32 → Int32 → Option (po_I)) (I : po_I) (l0 : Nat) (l1 : Int32) (l2 : Int32) : Option (po_I) :=
  if (12 : Int32) ≤ l2 then (some I) else (if ((4 * (I l0 17)) : Int32) ≤ l2 then (m_X8_putArea_49 r14 I l0 l1 l2 (l0 + 1) ((l1 + 3) + l2) 0) else (if po_in l2 12 = true then m_X8_putArea_49 r14 I l0 l1 l2 (l0 + 1) ((l1 + 3) + l2) (I (l0 + 6) (Int32.toNatClampNeg l2)) else none))
def m_X8_putArea_14L : Nat → po_I → Nat → Int32 → Int32 → Option (po_I)
  | 0 => fun _ _ _ _ => none
  | n + 1 => m_X8_putArea_14 (m_X8_putArea_14L n)
def m_X8_putArea_e (I : po_I) (l0 : Nat) (l1 : Int32) : Option (po_I) :=
  if po_in (l1 + 2) 668 = true then po_hlet (po_u I (l0 + 1) (Int32.toNatClampNeg (l1 + 2)) (I l0 17)) fun I2 => m_X8_putArea_14L 5000 I2 l0 l1 0 else none
abbrev m_X8_putArea := @m_X8_putArea_e
def m_X8_isInArea_109 (I : po_I) (r6 : Nat → Int32 → Int32 → Int32 → Int32 → Int32 → Option (Int32)) (l0 : Nat) (l1 : Int32) (l2 : Int32) (l3 : Int32) (l5 : Int32) (s0 : Int32) : Option (Int32) :=
  r6 l0 l1 l2 l3 s0 (l5 + 1)
def m_X8_isInArea_104 (I : po_I) (r6 : Nat → Int32 → Int32 → Int32 → Int32 → Int32 → Option (Int32)) (l0 : Nat) (l1 : Int32) (l2 : Int32) (l3 : Int32) (l5 : Int32) : Option (Int32) :=
  m_X8_isInArea_109 I r6 l0 l1 l2 l3 l5 1
def m_X8_isInArea_108 (I : po_I) (r6 : Nat → Int32 → Int32 → Int32 → Int32 → Int32 → Option (Int32)) (l0 : Nat) (l1 : Int32) (l2 : Int32) (l3 : Int32) (l5 : Int32) : Option (Int32) :=
  m_X8_isInArea_109 I r6 l0 l1 l2 l3 l5 0
def m_X8_isInArea_6 (I : po_I) (r6 : Nat → Int32 → Int32 → Int32 → Int32 → Int32 → Option (Int32)) (l0 : Nat) (l1 : Int32) (l2 : Int32) (l3 : Int32) (l4 : Int32) (l5 : Int32) : Option (Int32) :=
  if po_in (l1 + 2) 668 = true then if ((I (l0 + 1) (Int32.toNatClampNeg (l1 + 2))) : Int32) ≤ l5 then (if vp_nar .boolean l4 = l4 then some l4 else none) else (po_let ((l1 + 3) + (4 * l5)) fun v1 => if (l4 : Int32) = 0 then (if po_in v1 668 = true then if po_in v1 668 = true then if po_in (v1 + 2) 668 = true then Option.bind (m_X8_isIn l2 (I (l0 + 1) (Int32.toNatClampNeg v1)) (((I (l0 + 1) (Int32.toNatClampNeg v1)) + (I (l0 + 1) (Int32.toNatClampNeg (v1 + 2)))) - 1)) fun x2 => if (x2 : Int32) = 0 then (m_X8_isInArea_108 I r6 l0 l1 l2 l3 l5) else (if po_in (v1 + 1) 668 = true then if po_in (v1 + 1) 668 = true then if po_in (v1 + 3) 668 = true then Option.bind (m_X8_isIn l3 (I (l0 + 1) (Int32.toNatClampNeg (v1 + 1))) (((I (l0 + 1) (Int32.toNatClampNeg (v1 + 1))) + (I (l0 + 1) (Int32.toNatClampNeg (v1 + 3)))) - 1)) fun x3 => if (x3 : Int32) = 0 then (m_X8_isInArea_108 I r6 l0 l1 l2 l3 l5) else (m_X8_isInArea_104 I r6 l0 l1 l2 l3 l5) else none else none else none) else none else none else none) else (m_X8_isInArea_104 I r6 l0 l1 l2 l3 l5)) else none
def m_X8_isInArea_6L (I : po_I) : Nat → Nat → Int32 → Int32 → Int32 → Int32 → Int32 → Option (Int32)
  | 0 => fun _ _ _ _ _ _ => none
  | n + 1 => m_X8_isInArea_6 I (m_X8_isInArea_6L I n)
def m_X8_isInArea_e (I : po_I) (l0 : Nat) (l1 : Int32) (l2 : Int32) (l3 : Int32) : Option (Int32) :=
  m_X8_isInArea_6L I 5000 l0 l1 l2 l3 0 0
abbrev m_X8_isInArea := @m_X8_isInArea_e
def m_X8_isInLot_e (I : po_I) (l0 : Nat) (l1 : Int32) (l2 : Int32) (l3 : Int32) : Option (Int32) :=
  Option.bind (m_X8_isInArea I l0 (32 + (16 * l1)) l2 l3) fun x1 => if vp_nar .boolean x1 = x1 then some x1 else none
abbrev m_X8_isInLot := @m_X8_isInLot_e
def m_X8_lotAt_2 (I : po_I) (r2 : Nat → Int32 → Int32 → Int32 → Option (Int32)) (l0 : Nat) (l1 : Int32) (l2 : Int32) (l3 : Int32) : Option (Int32) :=
  if ((I (l0 + 1) 1) : Int32) ≤ l3 then (some (-1)) else (Option.bind (m_X8_isInLot I l0 l3 l1 l2) fun x1 => if (x1 : Int32) = 0 then (r2 l0 l1 l2 (l3 + 1)) else (some l3))
def m_X8_lotAt_2L (I : po_I) : Nat → Nat → Int32 → Int32 → Int32 → Option (Int32)
  | 0 => fun _ _ _ _ => none
  | n + 1 => m_X8_lotAt_2 I (m_X8_lotAt_2L I n)
def m_X8_lotAt_e (I : po_I) (l0 : Nat) (l1 : Int32) (l2 : Int32) : Option (Int32) :=
  m_X8_lotAt_2L I 5000 l0 l1 l2 0
abbrev m_X8_lotAt := @m_X8_lotAt_e
def m_X8_isShared_62 (I : po_I) (r4 : Nat → Int32 → Int32 → Int32 → Option (Int32)) (l0 : Nat) (l1 : Int32) (l3 : Int32) (s0 : Int32) : Option (Int32) :=
  r4 l0 l1 s0 (l3 + 1)
def m_X8_isShared_57 (I : po_I) (r4 : Nat → Int32 → Int32 → Int32 → Option (Int32)) (l0 : Nat) (l1 : Int32) (l3 : Int32) : Option (Int32) :=
  m_X8_isShared_62 I r4 l0 l1 l3 1
def m_X8_isShared_61 (I : po_I) (r4 : Nat → Int32 → Int32 → Int32 → Option (Int32)) (l0 : Nat) (l1 : Int32) (l3 : Int32) : Option (Int32) :=
  m_X8_isShared_62 I r4 l0 l1 l3 0
def m_X8_isShared_4 (I : po_I) (r4 : Nat → Int32 → Int32 → Int32 → Option (Int32)) (l0 : Nat) (l1 : Int32) (l2 : Int32) (l3 : Int32) : Option (Int32) :=
  if (280 : Int32) ≤ l3 then (if vp_nar .boolean l2 = l2 then some l2 else none) else (Option.bind (m_X8_lotAt I l0 (l3 - l3 / 20 * 20) (l3 / 20)) fun x1 => if (l2 : Int32) = 0 then (if (x1 : Int32) = (-1) then (m_X8_isShared_61 I r4 l0 l1 l3) else (if (x1 : Int32) = l1 then (m_X8_isShared_61 I r4 l0 l1 l3) else (Option.bind (m_X8_isInLot I l0 l1 (l3 - l3 / 20 * 20) (l3 / 20)) fun x2 => if (x2 : Int32) = 0 then (m_X8_isShared_61 I r4 l0 l1 l3) else (m_X8_isShared_57 I r4 l0 l1 l3)))) else (m_X8_isShared_57 I r4 l0 l1 l3))
def m_X8_isShared_4L (I : po_I) : Nat → Nat → Int32 → Int32 → Int32 → Option (Int32)
  | 0 => fun _ _ _ _ => none
  | n + 1 => m_X8_isShared_4 I (m_X8_isShared_4L I n)
def m_X8_isShared_e (I : po_I) (l0 : Nat) (l1 : Int32) : Option (Int32) :=
  m_X8_isShared_4L I 5000 l0 l1 0 0
abbrev m_X8_isShared := @m_X8_isShared_e
def m_X8_readLot_114 (I : po_I) : Option (po_I) :=
  some I
def m_X8_readLot_23 (I : po_I) (l0 : Nat) (l1 : Int32) (s0 : Int32) : Option (po_I) :=
  Option.bind (m_X8_readArea I l0) fun x1 => po_let (x1 l0 14) fun v2 => Option.bind (m_X8_must x1 l0 59) fun x3 => if ((x3 l0 15) : Int32) = (-1) then (po_let (x3 (l0 + 1) 1) fun v4 => po_let (32 + (16 * v4)) fun v5 => po_hlet (po_u x3 (l0 + 1) 1 ((x3 (l0 + 1) 1) + 1)) fun I6 => if po_in v5 668 = true then po_hlet (po_u I6 (l0 + 1) (Int32.toNatClampNeg v5) l1) fun I7 => if po_in (v5 + 1) 668 = true then po_hlet (po_u I7 (l0 + 1) (Int32.toNatClampNeg (v5 + 1)) s0) fun I8 => Option.bind (m_X8_putArea I8 l0 v5) fun x9 => Option.bind (m_X8_isShared x9 l0 v4) fun x10 => if (x10 : Int32) = 0 then (m_X8_readLot_114 x9) else (Option.bind (m_X8_faultAt x9 l0 v2) fun x11 => m_X8_readLot_114 x11) else none else none) else (some x3)
def m_X8_readLot_e (I : po_I) (l0 : Nat) : Option (po_I) :=
  Option.bind (m_X8_digit I l0 0 3) fun x12 => po_let (x12.1) fun v13 => if (((x12.2) l0 15) : Int32) = (-1) then (Option.bind (m_X8_front (x12.2) l0) fun x14 => m_X8_readLot_23 (x14.2) l0 v13 (x14.1)) else (m_X8_readLot_23 (x12.2) l0 v13 0)
abbrev m_X8_readLot := @m_X8_readLot_e
def m_X8_which_e (I : po_I) (l0 : Nat) (l1 : Int32) : Option (Int32 × po_I) :=
  if (l1 : Int32) = 0 then (Option.bind (m_X8_faultAt I l0 (I l0 14)) fun x2 => some ((0, x2))) else (Option.bind (m_X8_digit I l0 0 (if ((l1 - 1) : Int32) < 9 then (l1 - 1) else 9)) fun x1 => some (((x1.1), x1.2)))
abbrev m_X8_which := @m_X8_which_e
def m_X8_set_e (I : po_I) (l0 : Nat) (l1 : Int32) (l2 : Int32) (l3 : Int32) : Option (po_I) :=
  if po_in ((160 + (46 * l1)) + l2) 668 = true then po_hlet (po_u I (l0 + 1) (Int32.toNatClampNeg ((160 + (46 * l1)) + l2)) l3) fun I1 => some I1 else none
abbrev m_X8_set := @m_X8_set_e
def m_X8_cellsOf_33 (I : po_I) (r4 : Nat → Int32 → Int32 → Int32 → Option (Int32)) (l0 : Nat) (l1 : Int32) (l3 : Int32) (s0 : Int32) (s1 : Int32) : Option (Int32) :=
  po_let (s0 + s1) fun v1 => r4 l0 l1 v1 (l3 + 1)
def m_X8_cellsOf_4 (I : po_I) (r4 : Nat → Int32 → Int32 → Int32 → Option (Int32)) (l0 : Nat) (l1 : Int32) (l2 : Int32) (l3 : Int32) : Option (Int32) :=
  if (280 : Int32) ≤ l3 then (some l2) else (Option.bind (m_X8_isInArea I l0 l1 (l3 - l3 / 20 * 20) (l3 / 20)) fun x2 => if (x2 : Int32) = 0 then (m_X8_cellsOf_33 I r4 l0 l1 l3 l2 0) else (m_X8_cellsOf_33 I r4 l0 l1 l3 l2 1))
def m_X8_cellsOf_4L (I : po_I) : Nat → Nat → Int32 → Int32 → Int32 → Option (Int32)
  | 0 => fun _ _ _ _ => none
  | n + 1 => m_X8_cellsOf_4 I (m_X8_cellsOf_4L I n)
def m_X8_cellsOf_e (I : po_I) (l0 : Nat) (l1 : Int32) : Option (Int32) :=
  m_X8_cellsOf_4L I 5000 l0 l1 0 0
abbrev m_X8_cellsOf := @m_X8_cellsOf_e
def m_X8_buildingCells_e (I : po_I) (l0 : Nat) (l1 : Int32) : Option (Int32) :=
  Option.bind (m_X8_cellsOf I l0 (160 + (46 * l1))) fun x1 => some x1
abbrev m_X8_buildingCells := @m_X8_buildingCells_e
def m_X8_at_e (I : po_I) (l0 : Nat) (l1 : Int32) (l2 : Int32) : Option (Int32) :=
  if po_in ((160 + (46 * l1)) + l2) 668 = true then some (I (l0 + 1) (Int32.toNatClampNeg ((160 + (46 * l1)) + l2))) else none
abbrev m_X8_at := @m_X8_at_e
def m_X8_floorArea_e (I : po_I) (l0 : Nat) (l1 : Int32) : Option (Int32) :=
  Option.bind (m_X8_buildingCells I l0 l1) fun x1 => Option.bind (m_X8_at I l0 l1 17) fun x2 => some (x1 * x2)
abbrev m_X8_floorArea := @m_X8_floorArea_e
def m_X8_readPermit_75 (r75 : po_I → Nat → Int32 → Int32 → Int32 → Int32 → Int32 → Int32 → Option (po_I)) (I : po_I) (l0 : Nat) (l1 : Int32) (l2 : Int32) (l3 : Int32) (l4 : Int32) (l5 : Int32) (l6 : Int32) : Option (po_I) :=
  if (46 : Int32) ≤ l6 then (Option.bind (m_X8_set I l0 l5 0 l1) fun x1 => Option.bind (m_X8_set x1 l0 l5 1 l2) fun x2 => Option.bind (m_X8_set x2 l0 l5 17 l3) fun x3 => Option.bind (m_X8_set x3 l0 l5 18 l4) fun x4 => Option.bind (m_X8_set x4 l0 l5 22 (-1)) fun x5 => Option.bind (m_X8_set x5 l0 l5 27 (-1)) fun x6 => Option.bind (m_X8_putArea x6 l0 (160 + (46 * l5))) fun x7 => Option.bind (m_X8_floorArea x7 l0 l5) fun x8 => Option.bind (m_X8_set x7 l0 l5 25 (20 + x8)) fun x9 => some x9) else (Option.bind (m_X8_set I l0 l5 l6 0) fun x10 => r75 x10 l0 l1 l2 l3 l4 l5 (l6 + 1))
def m_X8_readPermit_75L : Nat → po_I → Nat → Int32 → Int32 → Int32 → Int32 → Int32 → Int32 → Option (po_I)
  | 0 => fun _ _ _ _ _ _ _ _ => none
  | n + 1 => m_X8_readPermit_75 (m_X8_readPermit_75L n)
def m_X8_readPermit_e (I : po_I) (l0 : Nat) : Option (po_I) :=
  Option.bind (m_X8_which I l0 (I (l0 + 1) 1)) fun x11 => po_let (x11.1) fun v12 => Option.bind (m_X8_digit (x11.2) l0 0 5) fun x13 => po_let (x13.1) fun v14 => Option.bind (m_X8_digit (x13.2) l0 1 9) fun x15 => po_let (x15.1) fun v16 => Option.bind (m_X8_digit (x15.2) l0 0 9) fun x17 => po_let (x17.1) fun v18 => Option.bind (m_X8_readArea (x17.2) l0) fun x19 => Option.bind (m_X8_must x19 l0 59) fun x20 => if ((x20 l0 15) : Int32) = (-1) then (po_let (x20 (l0 + 1) 2) fun v21 => po_hlet (po_u x20 (l0 + 1) 2 ((x20 (l0 + 1) 2) + 1)) fun I22 => m_X8_readPermit_75L 5000 I22 l0 v12 v14 v16 v18 v21 0) else (some x20)
abbrev m_X8_readPermit := @m_X8_readPermit_e
def m_X8_number_89 (I : po_I) (l4 : Int32) : Option (Int32 × po_I) :=
  some ((l4, I))
def m_X8_number_66 (I : po_I) (l0 : Nat) (l1 : Int32) (l2 : Int32) (l3 : Int32) (l4 : Int32) : Option (Int32 × po_I) :=
  if ((I l0 15) : Int32) = (-1) then (Option.bind (m_X8_isIn l4 l1 l2) fun x1 => if (x1 : Int32) = 0 then (Option.bind (m_X8_faultAt I l0 l3) fun x2 => m_X8_number_89 x2 l4) else (m_X8_number_89 I l4)) else (m_X8_number_89 I l4)
def m_X8_number_e (I : po_I) (l0 : Nat) (l1 : Int32) (l2 : Int32) : Option (Int32 × po_I) :=
  po_let (I l0 14) fun v3 => Option.bind (m_X8_digit I l0 0 9) fun x4 => po_let (x4.1) fun v5 => if (((x4.2) l0 15) : Int32) = (-1) then (if (v5 : Int32) ≤ 0 then (m_X8_number_66 (x4.2) l0 l1 l2 v3 v5) else (Option.bind (m_X8_sign (x4.2) l0) fun x6 => Option.bind (m_X8_isIn x6 48 57) fun x7 => if (x7 : Int32) = 0 then (m_X8_number_66 (x4.2) l0 l1 l2 v3 v5) else (Option.bind (m_X8_sign (x4.2) l0) fun x8 => po_let (((10 * v5) + x8) - 48) fun v9 => po_hlet (po_u (x4.2) l0 14 (((x4.2) l0 14) + 1)) fun I10 => m_X8_number_66 I10 l0 l1 l2 v3 v9))) else (m_X8_number_66 (x4.2) l0 l1 l2 v3 v5)
abbrev m_X8_number := @m_X8_number_e
def m_X8_readVariance_126 (I : po_I) : Option (po_I) :=
  some I
def m_X8_readVariance_e (I : po_I) (l0 : Nat) : Option (po_I) :=
  Option.bind (m_X8_which I l0 (I (l0 + 1) 1)) fun x1 => po_let (x1.1) fun v2 => Option.bind (m_X8_digit (x1.2) l0 2 8) fun x3 => po_let (x3.1) fun v4 => Option.bind (m_X8_number (x3.2) l0 1 99) fun x5 => po_let (x5.1) fun v6 => Option.bind (m_X8_must (x5.2) l0 44) fun x7 => Option.bind (m_X8_number x7 l0 0 99) fun x8 => po_let (x8.1) fun v9 => Option.bind (m_X8_must (x8.2) l0 59) fun x10 => if ((x10 l0 15) : Int32) = (-1) then (po_let (620 + (4 * (x10 (l0 + 1) 3))) fun v11 => po_hlet (po_u x10 (l0 + 1) 3 ((x10 (l0 + 1) 3) + 1)) fun I12 => if po_in v11 668 = true then po_hlet (po_u I12 (l0 + 1) (Int32.toNatClampNeg v11) v2) fun I13 => if po_in (v11 + 1) 668 = true then po_hlet (po_u I13 (l0 + 1) (Int32.toNatClampNeg (v11 + 1)) v4) fun I14 => if po_in (v11 + 2) 668 = true then po_hlet (po_u I14 (l0 + 1) (Int32.toNatClampNeg (v11 + 2)) v6) fun I15 => if po_in (v11 + 3) 668 = true then po_hlet (po_u I15 (l0 + 1) (Int32.toNatClampNeg (v11 + 3)) ((I15 (l0 + 1) 0) + v9)) fun I16 => m_X8_readVariance_126 I16 else none else none else none else none) else (m_X8_readVariance_126 x10)
abbrev m_X8_readVariance := @m_X8_readVariance_e
def m_X8_conditionMany_e (I : po_I) (l0 : Nat) (l1 : Int32) : Option (Int32) :=
  Option.bind (m_X8_at I l0 l1 45) fun x1 => some x1
abbrev m_X8_conditionMany := @m_X8_conditionMany_e
def m_X8_putCondition_26 (I : po_I) (s0 : Nat) (s1 : Int32) (s2 : Int32) (s3 : Int32) (s4 : Int32) : Option (po_I) :=
  Option.bind (m_X8_set I s0 s1 s2 (s3 + s4)) fun x1 => some x1
def m_X8_putCondition_e (I : po_I) (l0 : Nat) (l1 : Int32) (l2 : Int32) (l3 : Int32) (l4 : Int32) (l5 : Int32) : Option (po_I) :=
  if (l5 : Int32) = 0 then (m_X8_putCondition_26 I l0 l1 (29 + l2) ((1000 * l3) + (2 * l4)) 0) else (m_X8_putCondition_26 I l0 l1 (29 + l2) ((1000 * l3) + (2 * l4)) 1)
abbrev m_X8_putCondition := @m_X8_putCondition_e
def m_X8_readCondition_97 (I : po_I) : Option (po_I) :=
  some I
def m_X8_readCondition_44 (I : po_I) (l0 : Nat) (l1 : Int32) (l2 : Int32) : Option (po_I) :=
  Option.bind (m_X8_sign_ I l0 97 122) fun x1 => po_let (97 + (x1.1)) fun v2 => Option.bind (m_X8_must (x1.2) l0 59) fun x3 => if ((x3 l0 15) : Int32) = (-1) then (Option.bind (m_X8_conditionMany x3 l0 l1) fun x4 => Option.bind (m_X8_putCondition x3 l0 l1 x4 l2 v2 1) fun x5 => Option.bind (m_X8_conditionMany x5 l0 l1) fun x6 => Option.bind (m_X8_set x5 l0 l1 45 (x6 + 1)) fun x7 => m_X8_readCondition_97 x7) else (m_X8_readCondition_97 x3)
def m_X8_readCondition_e (I : po_I) (l0 : Nat) : Option (po_I) :=
  Option.bind (m_X8_which I l0 (I (l0 + 1) 2)) fun x8 => po_let (x8.1) fun v9 => Option.bind (m_X8_digit (x8.2) l0 0 3) fun x10 => po_let (x10.1) fun v11 => if (((x10.2) l0 15) : Int32) = (-1) then (Option.bind (m_X8_conditionMany (x10.2) l0 v9) fun x12 => if (x12 : Int32) = 6 then (Option.bind (m_X8_faultAt (x10.2) l0 ((x10.2) l0 14)) fun x13 => m_X8_readCondition_44 x13 l0 v9 v11) else (m_X8_readCondition_44 (x10.2) l0 v9 v11)) else (m_X8_readCondition_44 (x10.2) l0 v9 v11)
abbrev m_X8_readCondition := @m_X8_readCondition_e
def m_X8_leastOf_15 (s0 : Int32) : Option (Int32) :=
  some s0
def m_X8_leastOf_10 : Option (Int32) :=
  m_X8_leastOf_15 1
def m_X8_leastOf_e (l0 : Int32) : Option (Int32) :=
  if (l0 : Int32) = 3 then m_X8_leastOf_10 else (if (l0 : Int32) = 4 then m_X8_leastOf_10 else (m_X8_leastOf_15 0))
abbrev m_X8_leastOf := @m_X8_leastOf_e
def m_X8_mostOf_27 (s0 : Int32) : Option (Int32) :=
  some s0
def m_X8_mostOf_10 : Option (Int32) :=
  m_X8_mostOf_27 99
def m_X8_mostOf_e (l0 : Int32) : Option (Int32) :=
  if (l0 : Int32) = 2 then m_X8_mostOf_10 else (if (l0 : Int32) = 4 then m_X8_mostOf_10 else (if (l0 : Int32) = 5 then (m_X8_mostOf_27 63) else (m_X8_mostOf_27 9)))
abbrev m_X8_mostOf := @m_X8_mostOf_e
def m_X8_readRule_68 (I : po_I) : Option (po_I) :=
  some I
def m_X8_readRule_39 (I : po_I) (l0 : Nat) (l1 : Int32) (l2 : Int32) (s0 : Int32) : Option (po_I) :=
  Option.bind (m_X8_must I l0 59) fun x1 => if ((x1 l0 15) : Int32) = (-1) then (if po_in ((4 + (7 * l1)) + l2) 668 = true then po_hlet (po_u x1 (l0 + 1) (Int32.toNatClampNeg ((4 + (7 * l1)) + l2)) s0) fun I2 => m_X8_readRule_68 I2 else none) else (m_X8_readRule_68 x1)
def m_X8_readRule_e (I : po_I) (l0 : Nat) : Option (po_I) :=
  Option.bind (m_X8_digit I l0 0 3) fun x3 => po_let (x3.1) fun v4 => Option.bind (m_X8_digit (x3.2) l0 0 6) fun x5 => po_let (x5.1) fun v6 => if (((x5.2) l0 15) : Int32) = (-1) then (Option.bind (m_X8_leastOf v6) fun x7 => Option.bind (m_X8_mostOf v6) fun x8 => Option.bind (m_X8_number (x5.2) l0 x7 x8) fun x9 => m_X8_readRule_39 (x9.2) l0 v4 v6 (x9.1)) else (m_X8_readRule_39 (x5.2) l0 v4 v6 0)
abbrev m_X8_readRule := @m_X8_readRule_e
def m_X8_readCommand_106 (I : po_I) (l0 : Nat) : Option (po_I) :=
  Option.bind (m_X8_faultAt I l0 (I l0 14)) fun x1 => some x1
def m_X8_readCommand_200 (I : po_I) : Option (po_I) :=
  some I
def m_X8_readCommand_97 (I : po_I) (l0 : Nat) (l1 : Int32) (l2 : Int32) (s0 : Int32) : Option (po_I) :=
  if (s0 : Int32) = 0 then (m_X8_readCommand_106 I l0) else (if (l2 : Int32) = 0 then (po_hlet (po_u I l0 14 ((I l0 14) + 1)) fun I2 => if (l1 : Int32) = 67 then (Option.bind (m_X8_readCondition I2 l0) fun x3 => m_X8_readCommand_200 x3) else (if (l1 : Int32) = 76 then (Option.bind (m_X8_readLot I2 l0) fun x4 => m_X8_readCommand_200 x4) else (if (l1 : Int32) = 80 then (Option.bind (m_X8_readPermit I2 l0) fun x5 => m_X8_readCommand_200 x5) else (if (l1 : Int32) = 86 then (Option.bind (m_X8_readVariance I2 l0) fun x6 => m_X8_readCommand_200 x6) else (Option.bind (m_X8_readRule I2 l0) fun x7 => m_X8_readCommand_200 x7))))) else (m_X8_readCommand_106 I l0))
def m_X8_readCommand_92 (I : po_I) (l0 : Nat) (l1 : Int32) (l2 : Int32) : Option (po_I) :=
  m_X8_readCommand_97 I l0 l1 l2 1
def m_X8_readCommand_61 (I : po_I) (l0 : Nat) (l1 : Int32) (s0 : Int32) : Option (po_I) :=
  if (l1 : Int32) = 76 then (m_X8_readCommand_92 I l0 l1 s0) else (if (l1 : Int32) = 80 then (m_X8_readCommand_92 I l0 l1 s0) else (if (l1 : Int32) = 86 then (m_X8_readCommand_92 I l0 l1 s0) else (if (l1 : Int32) = 67 then (m_X8_readCommand_92 I l0 l1 s0) else (if (l1 : Int32) = 90 then (m_X8_readCommand_92 I l0 l1 s0) else (m_X8_readCommand_97 I l0 l1 s0 0)))))
def m_X8_readCommand_60 (I : po_I) (l0 : Nat) (l1 : Int32) : Option (po_I) :=
  m_X8_readCommand_61 I l0 l1 0
def m_X8_readCommand_56 (I : po_I) (l0 : Nat) (l1 : Int32) : Option (po_I) :=
  m_X8_readCommand_61 I l0 l1 1
def m_X8_readCommand_39 (I : po_I) (l0 : Nat) (l1 : Int32) : Option (po_I) :=
  if (l1 : Int32) = 86 then (if ((I (l0 + 1) 3) : Int32) = 12 then (m_X8_readCommand_56 I l0 l1) else (m_X8_readCommand_60 I l0 l1)) else (m_X8_readCommand_60 I l0 l1)
def m_X8_readCommand_22 (I : po_I) (l0 : Nat) (l1 : Int32) : Option (po_I) :=
  if (l1 : Int32) = 80 then (if ((I (l0 + 1) 2) : Int32) = 10 then (m_X8_readCommand_56 I l0 l1) else (m_X8_readCommand_39 I l0 l1)) else (m_X8_readCommand_39 I l0 l1)
def m_X8_readCommand_e (I : po_I) (l0 : Nat) : Option (po_I) :=
  Option.bind (m_X8_sign I l0) fun x8 => if (x8 : Int32) = 76 then (if ((I (l0 + 1) 1) : Int32) = 8 then (m_X8_readCommand_56 I l0 x8) else (m_X8_readCommand_22 I l0 x8)) else (m_X8_readCommand_22 I l0 x8)
abbrev m_X8_readCommand := @m_X8_readCommand_e
def m_X8_remember_52 (r52 : po_I → Nat → Int32 → Option (po_I)) (I : po_I) (l0 : Nat) (l1 : Int32) : Option (po_I) :=
  if (668 : Int32) ≤ l1 then (po_hlet (po_u I l0 3 ((I l0 3) + 1)) fun I1 => some I1) else (if po_in l1 668 = true then if po_in ((668 * (I l0 3)) + l1) 4008 = true then po_hlet (po_u I (l0 + 2) (Int32.toNatClampNeg ((668 * (I l0 3)) + l1)) (I (l0 + 3) (Int32.toNatClampNeg l1))) fun I2 => r52 I2 l0 (l1 + 1) else none else none)
def m_X8_remember_52L : Nat → po_I → Nat → Int32 → Option (po_I)
  | 0 => fun _ _ _ => none
  | n + 1 => m_X8_remember_52 (m_X8_remember_52L n)
def m_X8_remember_50 (I : po_I) (l0 : Nat) : Option (po_I) :=
  m_X8_remember_52L 5000 I l0 0
def m_X8_remember_11 (r11 : po_I → Nat → Int32 → Option (po_I)) (I : po_I) (l0 : Nat) (l1 : Int32) : Option (po_I) :=
  if (3340 : Int32) ≤ l1 then (po_hlet (po_u I l0 3 ((I l0 3) - 1)) fun I3 => m_X8_remember_50 I3 l0) else (if po_in (l1 + 668) 4008 = true then if po_in l1 4008 = true then po_hlet (po_u I (l0 + 2) (Int32.toNatClampNeg l1) (I (l0 + 2) (Int32.toNatClampNeg (l1 + 668)))) fun I4 => r11 I4 l0 (l1 + 1) else none else none)
def m_X8_remember_11L : Nat → po_I → Nat → Int32 → Option (po_I)
  | 0 => fun _ _ _ => none
  | n + 1 => m_X8_remember_11 (m_X8_remember_11L n)
def m_X8_remember_e (I : po_I) (l0 : Nat) : Option (po_I) :=
  if ((I l0 3) : Int32) = 6 then (m_X8_remember_11L 5000 I l0 0) else (m_X8_remember_50 I l0)
abbrev m_X8_remember := @m_X8_remember_e
def m_X8_execute_74 (I : po_I) (l0 : Nat) (l1 : Int32) : Option (Int32 × po_I) :=
  if ((I l0 15) : Int32) = (-1) then (Option.bind (m_X8_remember I l0) fun x1 => some ((l1, x1))) else (Option.bind (m_X8_copy I (l0 + 3) (l0 + 1)) fun x2 => Option.bind (m_X8_fail x2 l0 1) fun x3 => some (((x3.1), x3.2)))
def m_X8_execute_64 (r41 : po_I → Nat → Int32 → Option (Int32 × po_I)) (I : po_I) (l0 : Nat) (l1 : Int32) : Option (Int32 × po_I) :=
  Option.bind (m_X8_readCommand I l0) fun x4 => r41 x4 l0 (l1 + 1)
def m_X8_execute_41 (r41 : po_I → Nat → Int32 → Option (Int32 × po_I)) (I : po_I) (l0 : Nat) (l1 : Int32) : Option (Int32 × po_I) :=
  if ((I l0 15) : Int32) = (-1) then (if (l1 : Int32) = 0 then (m_X8_execute_64 r41 I l0 l1) else (if ((I l0 13) : Int32) ≤ (I l0 14) then (m_X8_execute_74 I l0 l1) else (m_X8_execute_64 r41 I l0 l1))) else (m_X8_execute_74 I l0 l1)
def m_X8_execute_41L : Nat → po_I → Nat → Int32 → Option (Int32 × po_I)
  | 0 => fun _ _ _ => none
  | n + 1 => m_X8_execute_41 (m_X8_execute_41L n)
def m_X8_execute_e (I : po_I) (l0 : Nat) : Option (Int32 × po_I) :=
  po_hlet (po_u I l0 0 0) fun I5 => po_hlet (po_u I5 l0 13 (I5 l0 12)) fun I6 => po_hlet (po_u I6 l0 12 0) fun I7 => po_hlet (po_u I7 l0 14 0) fun I8 => po_hlet (po_u I8 l0 15 (-1)) fun I9 => Option.bind (m_X8_copy I9 (l0 + 1) (l0 + 3)) fun x10 => m_X8_execute_41L 5000 x10 l0 0
abbrev m_X8_execute := @m_X8_execute_e
def m_X8_errorPosition_e (I : po_I) (l0 : Nat) : Option (Int32 × po_I) :=
  po_hlet (po_u I l0 0 0) fun I1 => some (((I1 l0 15), I1))
abbrev m_X8_errorPosition := @m_X8_errorPosition_e
def m_X8_rule_56 (I : po_I) (s0 : Int32) : Option (Int32 × po_I) :=
  some ((s0, I))
def m_X8_rule_29 (I : po_I) (l0 : Nat) (l1 : Int32) (l2 : Int32) (s0 : Nat) (s1 : Int32) : Option (Int32 × po_I) :=
  po_hlet (po_u I s0 0 s1) fun I1 => if ((I1 l0 0) : Int32) = 0 then (if po_in ((4 + (7 * l1)) + l2) 668 = true then m_X8_rule_56 I1 (I1 (l0 + 1) (Int32.toNatClampNeg ((4 + (7 * l1)) + l2))) else none) else (m_X8_rule_56 I1 0)
def m_X8_rule_e (I : po_I) (l0 : Nat) (l1 : Int32) (l2 : Int32) : Option (Int32 × po_I) :=
  Option.bind (m_X8_isIn l1 0 3) fun x2 => if (x2 : Int32) = 0 then (m_X8_rule_29 I l0 l1 l2 l0 1) else (Option.bind (m_X8_isIn l2 0 6) fun x3 => if (x3 : Int32) = 0 then (m_X8_rule_29 I l0 l1 l2 l0 2) else (m_X8_rule_29 I l0 l1 l2 l0 0))
abbrev m_X8_rule := @m_X8_rule_e
def m_X8_isLot_e (I : po_I) (l0 : Nat) (l1 : Int32) : Option (Int32) :=
  Option.bind (m_X8_isIn l1 0 ((I (l0 + 1) 1) - 1)) fun x1 => if vp_nar .boolean x1 = x1 then some x1 else none
abbrev m_X8_isLot := @m_X8_isLot_e
def m_X8_lotPart_e (I : po_I) (l0 : Nat) (l1 : Int32) (l2 : Int32) : Option (Int32) :=
  if po_in ((32 + (16 * l1)) + l2) 668 = true then some (I (l0 + 1) (Int32.toNatClampNeg ((32 + (16 * l1)) + l2))) else none
abbrev m_X8_lotPart := @m_X8_lotPart_e
def m_X8_lotCells_e (I : po_I) (l0 : Nat) (l1 : Int32) : Option (Int32) :=
  Option.bind (m_X8_cellsOf I l0 (32 + (16 * l1))) fun x1 => some x1
abbrev m_X8_lotCells := @m_X8_lotCells_e
def m_X8_stands_29 (I : po_I) (s0 : Int32) : Option (Int32) :=
  if vp_nar .boolean s0 = s0 then some s0 else none
def m_X8_stands_24 (I : po_I) : Option (Int32) :=
  m_X8_stands_29 I 1
def m_X8_stands_e (I : po_I) (l0 : Nat) (l1 : Int32) : Option (Int32) :=
  Option.bind (m_X8_at I l0 l1 19) fun x1 => if (x1 : Int32) = 2 then (m_X8_stands_24 I) else (if (x1 : Int32) = 3 then (m_X8_stands_24 I) else (if (x1 : Int32) = 6 then (m_X8_stands_24 I) else (m_X8_stands_29 I 0)))
abbrev m_X8_stands := @m_X8_stands_e
def m_X8_isInBuilding_e (I : po_I) (l0 : Nat) (l1 : Int32) (l2 : Int32) (l3 : Int32) : Option (Int32) :=
  Option.bind (m_X8_isInArea I l0 (160 + (46 * l1)) l2 l3) fun x1 => if vp_nar .boolean x1 = x1 then some x1 else none
abbrev m_X8_isInBuilding := @m_X8_isInBuilding_e
def m_X8_isBuilt_65 (I : po_I) (r6 : Nat → Int32 → Int32 → Int32 → Int32 → Int32 → Int32 → Option (Int32)) (l0 : Nat) (l1 : Int32) (l2 : Int32) (l3 : Int32) (l4 : Int32) (l6 : Int32) (s0 : Int32) : Option (Int32) :=
  r6 l0 l1 l2 l3 l4 s0 (l6 + 1)
def m_X8_isBuilt_60 (I : po_I) (r6 : Nat → Int32 → Int32 → Int32 → Int32 → Int32 → Int32 → Option (Int32)) (l0 : Nat) (l1 : Int32) (l2 : Int32) (l3 : Int32) (l4 : Int32) (l6 : Int32) : Option (Int32) :=
  m_X8_isBuilt_65 I r6 l0 l1 l2 l3 l4 l6 1
def m_X8_isBuilt_64 (I : po_I) (r6 : Nat → Int32 → Int32 → Int32 → Int32 → Int32 → Int32 → Option (Int32)) (l0 : Nat) (l1 : Int32) (l2 : Int32) (l3 : Int32) (l4 : Int32) (l6 : Int32) : Option (Int32) :=
  m_X8_isBuilt_65 I r6 l0 l1 l2 l3 l4 l6 0
def m_X8_isBuilt_6 (I : po_I) (r6 : Nat → Int32 → Int32 → Int32 → Int32 → Int32 → Int32 → Option (Int32)) (l0 : Nat) (l1 : Int32) (l2 : Int32) (l3 : Int32) (l4 : Int32) (l5 : Int32) (l6 : Int32) : Option (Int32) :=
  if ((I (l0 + 1) 2) : Int32) ≤ l6 then (if vp_nar .boolean l5 = l5 then some l5 else none) else (if (l5 : Int32) = 0 then (if (l6 : Int32) = l4 then (m_X8_isBuilt_64 I r6 l0 l1 l2 l3 l4 l6) else (Option.bind (m_X8_stands I l0 l6) fun x1 => if (x1 : Int32) = 0 then (m_X8_isBuilt_64 I r6 l0 l1 l2 l3 l4 l6) else (Option.bind (m_X8_at I l0 l6 0) fun x2 => if (x2 : Int32) = l1 then (Option.bind (m_X8_isInBuilding I l0 l6 l2 l3) fun x3 => if (x3 : Int32) = 0 then (m_X8_isBuilt_64 I r6 l0 l1 l2 l3 l4 l6) else (m_X8_isBuilt_60 I r6 l0 l1 l2 l3 l4 l6)) else (m_X8_isBuilt_64 I r6 l0 l1 l2 l3 l4 l6)))) else (m_X8_isBuilt_60 I r6 l0 l1 l2 l3 l4 l6))
def m_X8_isBuilt_6L (I : po_I) : Nat → Nat → Int32 → Int32 → Int32 → Int32 → Int32 → Int32 → Option (Int32)
  | 0 => fun _ _ _ _ _ _ _ => none
  | n + 1 => m_X8_isBuilt_6 I (m_X8_isBuilt_6L I n)
def m_X8_isBuilt_e (I : po_I) (l0 : Nat) (l1 : Int32) (l2 : Int32) (l3 : Int32) (l4 : Int32) : Option (Int32) :=
  m_X8_isBuilt_6L I 5000 l0 l1 l2 l3 l4 0 0
abbrev m_X8_isBuilt := @m_X8_isBuilt_e
def m_X8_builtCells_54 (I : po_I) (r4 : Nat → Int32 → Int32 → Int32 → Option (Int32)) (l0 : Nat) (l1 : Int32) (l3 : Int32) (s0 : Int32) (s1 : Int32) : Option (Int32) :=
  po_let (s0 + s1) fun v1 => r4 l0 l1 v1 (l3 + 1)
def m_X8_builtCells_53 (I : po_I) (r4 : Nat → Int32 → Int32 → Int32 → Option (Int32)) (l0 : Nat) (l1 : Int32) (l3 : Int32) (s0 : Int32) : Option (Int32) :=
  m_X8_builtCells_54 I r4 l0 l1 l3 s0 0
def m_X8_builtCells_4 (I : po_I) (r4 : Nat → Int32 → Int32 → Int32 → Option (Int32)) (l0 : Nat) (l1 : Int32) (l2 : Int32) (l3 : Int32) : Option (Int32) :=
  if (280 : Int32) ≤ l3 then (some l2) else (po_let (l3 - l3 / 20 * 20) fun v2 => po_let (l3 / 20) fun v3 => Option.bind (m_X8_isInLot I l0 l1 v2 v3) fun x4 => if (x4 : Int32) = 0 then (m_X8_builtCells_53 I r4 l0 l1 l3 l2) else (Option.bind (m_X8_isBuilt I l0 l1 v2 v3 (-1)) fun x5 => if (x5 : Int32) = 0 then (m_X8_builtCells_53 I r4 l0 l1 l3 l2) else (m_X8_builtCells_54 I r4 l0 l1 l3 l2 1)))
def m_X8_builtCells_4L (I : po_I) : Nat → Nat → Int32 → Int32 → Int32 → Option (Int32)
  | 0 => fun _ _ _ _ => none
  | n + 1 => m_X8_builtCells_4 I (m_X8_builtCells_4L I n)
def m_X8_builtCells_e (I : po_I) (l0 : Nat) (l1 : Int32) : Option (Int32) :=
  m_X8_builtCells_4L I 5000 l0 l1 0 0
abbrev m_X8_builtCells := @m_X8_builtCells_e
def m_X8_floorAreas_53 (I : po_I) (r5 : Nat → Int32 → Int32 → Int32 → Int32 → Option (Int32)) (l0 : Nat) (l1 : Int32) (l2 : Int32) (l4 : Int32) (s0 : Int32) (s1 : Int32) : Option (Int32) :=
  po_let (s0 + s1) fun v1 => r5 l0 l1 l2 v1 (l4 + 1)
def m_X8_floorAreas_52 (I : po_I) (r5 : Nat → Int32 → Int32 → Int32 → Int32 → Option (Int32)) (l0 : Nat) (l1 : Int32) (l2 : Int32) (l4 : Int32) (s0 : Int32) : Option (Int32) :=
  m_X8_floorAreas_53 I r5 l0 l1 l2 l4 s0 0
def m_X8_floorAreas_5 (I : po_I) (r5 : Nat → Int32 → Int32 → Int32 → Int32 → Option (Int32)) (l0 : Nat) (l1 : Int32) (l2 : Int32) (l3 : Int32) (l4 : Int32) : Option (Int32) :=
  if ((I (l0 + 1) 2) : Int32) ≤ l4 then (some l3) else (if (l4 : Int32) = l2 then (m_X8_floorAreas_52 I r5 l0 l1 l2 l4 l3) else (Option.bind (m_X8_stands I l0 l4) fun x2 => if (x2 : Int32) = 0 then (m_X8_floorAreas_52 I r5 l0 l1 l2 l4 l3) else (Option.bind (m_X8_at I l0 l4 0) fun x3 => if (x3 : Int32) = l1 then (Option.bind (m_X8_floorArea I l0 l4) fun x4 => m_X8_floorAreas_53 I r5 l0 l1 l2 l4 l3 x4) else (m_X8_floorAreas_52 I r5 l0 l1 l2 l4 l3))))
def m_X8_floorAreas_5L (I : po_I) : Nat → Nat → Int32 → Int32 → Int32 → Int32 → Option (Int32)
  | 0 => fun _ _ _ _ _ => none
  | n + 1 => m_X8_floorAreas_5 I (m_X8_floorAreas_5L I n)
def m_X8_floorAreas_e (I : po_I) (l0 : Nat) (l1 : Int32) (l2 : Int32) : Option (Int32) :=
  m_X8_floorAreas_5L I 5000 l0 l1 l2 0 0
abbrev m_X8_floorAreas := @m_X8_floorAreas_e
def m_X8_eastward_19 (s0 : Int32) : Option (Int32) :=
  some s0
def m_X8_eastward_e (l0 : Int32) : Option (Int32) :=
  if (l0 : Int32) = 1 then (m_X8_eastward_19 1) else (if (l0 : Int32) = 3 then (m_X8_eastward_19 (-1)) else (m_X8_eastward_19 0))
abbrev m_X8_eastward := @m_X8_eastward_e
def m_X8_southward_18 (s0 : Int32) : Option (Int32) :=
  some s0
def m_X8_southward_e (l0 : Int32) : Option (Int32) :=
  if (l0 : Int32) = 2 then (m_X8_southward_18 1) else (if (l0 : Int32) = 0 then (m_X8_southward_18 (-1)) else (m_X8_southward_18 0))
abbrev m_X8_southward := @m_X8_southward_e
def m_X8_sides_82 (I : po_I) (r4 : Nat → Int32 → Int32 → Int32 → Option (Int32)) (l0 : Nat) (l1 : Int32) (l2 : Int32) (l3 : Int32) : Option (Int32) :=
  r4 l0 l1 l2 (l3 + 1)
def m_X8_sides_74 (I : po_I) (r4 : Nat → Int32 → Int32 → Int32 → Option (Int32)) (r26 : Nat → Int32 → Int32 → Int32 → Int32 → Int32 → Int32 → Option (Int32)) (l0 : Nat) (l1 : Int32) (l3 : Int32) (l4 : Int32) (l5 : Int32) (l6 : Int32) (s0 : Int32) (s1 : Int32) : Option (Int32) :=
  po_let (s0 + s1) fun v1 => r26 l0 l1 v1 l3 l4 l5 (l6 + 1)
def m_X8_sides_26 (I : po_I) (r4 : Nat → Int32 → Int32 → Int32 → Option (Int32)) (r26 : Nat → Int32 → Int32 → Int32 → Int32 → Int32 → Int32 → Option (Int32)) (l0 : Nat) (l1 : Int32) (l2 : Int32) (l3 : Int32) (l4 : Int32) (l5 : Int32) (l6 : Int32) : Option (Int32) :=
  if (4 : Int32) ≤ l6 then (m_X8_sides_82 I r4 l0 l1 l2 l3) else (Option.bind (m_X8_isInLot I l0 l1 l4 l5) fun x2 => if (x2 : Int32) = 0 then (m_X8_sides_82 I r4 l0 l1 l2 l3) else (Option.bind (m_X8_eastward l6) fun x3 => Option.bind (m_X8_southward l6) fun x4 => Option.bind (m_X8_isInLot I l0 l1 (l4 + x3) (l5 + x4)) fun x5 => if (x5 : Int32) = 0 then (m_X8_sides_74 I r4 r26 l0 l1 l3 l4 l5 l6 l2 1) else (m_X8_sides_74 I r4 r26 l0 l1 l3 l4 l5 l6 l2 0)))
def m_X8_sides_26L (I : po_I) (r4 : Nat → Int32 → Int32 → Int32 → Option (Int32)) : Nat → Nat → Int32 → Int32 → Int32 → Int32 → Int32 → Int32 → Option (Int32)
  | 0 => fun _ _ _ _ _ _ _ => none
  | n + 1 => m_X8_sides_26 I r4 (m_X8_sides_26L I r4 n)
def m_X8_sides_4 (I : po_I) (r4 : Nat → Int32 → Int32 → Int32 → Option (Int32)) (l0 : Nat) (l1 : Int32) (l2 : Int32) (l3 : Int32) : Option (Int32) :=
  if (280 : Int32) ≤ l3 then (some l2) else (po_let (l3 - l3 / 20 * 20) fun v6 => po_let (l3 / 20) fun v7 => m_X8_sides_26L I r4 5000 l0 l1 l2 l3 v6 v7 0)
def m_X8_sides_4L (I : po_I) : Nat → Nat → Int32 → Int32 → Int32 → Option (Int32)
  | 0 => fun _ _ _ _ => none
  | n + 1 => m_X8_sides_4 I (m_X8_sides_4L I n)
def m_X8_sides_e (I : po_I) (l0 : Nat) (l1 : Int32) : Option (Int32) :=
  m_X8_sides_4L I 5000 l0 l1 0 0
abbrev m_X8_sides := @m_X8_sides_e
def m_X8_lot_98 (I : po_I) (s0 : Int32) : Option (Int32 × po_I) :=
  some ((s0, I))
def m_X8_lot_27 (I : po_I) (l0 : Nat) (l1 : Int32) (l2 : Int32) (s0 : Nat) (s1 : Int32) : Option (Int32 × po_I) :=
  po_hlet (po_u I s0 0 s1) fun I1 => if ((I1 l0 0) : Int32) = 0 then (if (2 : Int32) ≤ l2 then (if (l2 : Int32) = 2 then (Option.bind (m_X8_lotCells I1 l0 l1) fun x5 => m_X8_lot_98 I1 x5) else (if (l2 : Int32) = 3 then (Option.bind (m_X8_builtCells I1 l0 l1) fun x4 => m_X8_lot_98 I1 x4) else (if (l2 : Int32) = 4 then (Option.bind (m_X8_floorAreas I1 l0 l1 (-1)) fun x3 => m_X8_lot_98 I1 x3) else (Option.bind (m_X8_sides I1 l0 l1) fun x2 => m_X8_lot_98 I1 x2)))) else (Option.bind (m_X8_lotPart I1 l0 l1 l2) fun x6 => m_X8_lot_98 I1 x6)) else (some ((0, I1)))
def m_X8_lot_e (I : po_I) (l0 : Nat) (l1 : Int32) (l2 : Int32) : Option (Int32 × po_I) :=
  Option.bind (m_X8_isLot I l0 l1) fun x7 => if (x7 : Int32) = 0 then (m_X8_lot_27 I l0 l1 l2 l0 1) else (Option.bind (m_X8_isIn l2 0 5) fun x8 => if (x8 : Int32) = 0 then (m_X8_lot_27 I l0 l1 l2 l0 2) else (m_X8_lot_27 I l0 l1 l2 l0 0))
abbrev m_X8_lot := @m_X8_lot_e
def m_X8_call_e (I : po_I) (l0 : Nat) : Option (po_I) :=
  Option.bind (m_X8_copy I (l0 + 1) (l0 + 3)) fun x1 => Option.bind (m_X8_remember x1 l0) fun x2 => some x2
abbrev m_X8_call := @m_X8_call_e
def m_X8_rezone_27 (I : po_I) (l0 : Nat) (l1 : Int32) (l2 : Int32) (s0 : Nat) (s1 : Int32) : Option (Int32 × po_I) :=
  po_hlet (po_u I s0 0 s1) fun I1 => if ((I1 l0 0) : Int32) = 0 then (Option.bind (m_X8_call I1 l0) fun x2 => Option.bind (m_X8_lotPart x2 l0 l1 0) fun x3 => if po_in (32 + (16 * l1)) 668 = true then po_hlet (po_u x2 (l0 + 1) (Int32.toNatClampNeg (32 + (16 * l1))) l2) fun I4 => some ((x3, I4)) else none) else (some ((0, I1)))
def m_X8_rezone_e (I : po_I) (l0 : Nat) (l1 : Int32) (l2 : Int32) : Option (Int32 × po_I) :=
  Option.bind (m_X8_isLot I l0 l1) fun x5 => if (x5 : Int32) = 0 then (m_X8_rezone_27 I l0 l1 l2 l0 1) else (Option.bind (m_X8_isIn l2 0 3) fun x6 => if (x6 : Int32) = 0 then (m_X8_rezone_27 I l0 l1 l2 l0 2) else (m_X8_rezone_27 I l0 l1 l2 l0 0))
abbrev m_X8_rezone := @m_X8_rezone_e
def m_X8_permitAt_32 (I : po_I) (r2 : Nat → Int32 → Int32 → Int32 → Option (Int32)) (l0 : Nat) (l1 : Int32) (l2 : Int32) (l3 : Int32) : Option (Int32) :=
  r2 l0 l1 l2 (l3 + 1)
def m_X8_permitAt_2 (I : po_I) (r2 : Nat → Int32 → Int32 → Int32 → Option (Int32)) (l0 : Nat) (l1 : Int32) (l2 : Int32) (l3 : Int32) : Option (Int32) :=
  if ((I (l0 + 1) 2) : Int32) ≤ l3 then (some (-1)) else (Option.bind (m_X8_stands I l0 l3) fun x1 => if (x1 : Int32) = 0 then (m_X8_permitAt_32 I r2 l0 l1 l2 l3) else (Option.bind (m_X8_isInBuilding I l0 l3 l1 l2) fun x2 => if (x2 : Int32) = 0 then (m_X8_permitAt_32 I r2 l0 l1 l2 l3) else (some l3)))
def m_X8_permitAt_2L (I : po_I) : Nat → Nat → Int32 → Int32 → Int32 → Option (Int32)
  | 0 => fun _ _ _ _ => none
  | n + 1 => m_X8_permitAt_2 I (m_X8_permitAt_2L I n)
def m_X8_permitAt_e (I : po_I) (l0 : Nat) (l1 : Int32) (l2 : Int32) : Option (Int32) :=
  m_X8_permitAt_2L I 5000 l0 l1 l2 0
abbrev m_X8_permitAt := @m_X8_permitAt_e
def m_X8_distance_9 (I : po_I) (r9 : Nat → Int32 → Int32 → Int32 → Int32 → Int32 → Option (Int32)) (l0 : Nat) (l1 : Int32) (l4 : Int32) (l5 : Int32) (l6 : Int32) (l7 : Int32) : Option (Int32) :=
  Option.bind (m_X8_isInLot I l0 l1 l6 l7) fun x1 => if (x1 : Int32) = 0 then (some (if (0 : Int32) < (l5 - 1) then (l5 - 1) else 0)) else (Option.bind (m_X8_eastward l4) fun x2 => po_let (l6 + x2) fun v3 => Option.bind (m_X8_southward l4) fun x4 => po_let (l7 + x4) fun v5 => r9 l0 l1 l4 (l5 + 1) v3 v5)
def m_X8_distance_9L (I : po_I) : Nat → Nat → Int32 → Int32 → Int32 → Int32 → Int32 → Option (Int32)
  | 0 => fun _ _ _ _ _ _ => none
  | n + 1 => m_X8_distance_9 I (m_X8_distance_9L I n)
def m_X8_distance_e (I : po_I) (l0 : Nat) (l1 : Int32) (l2 : Int32) (l3 : Int32) (l4 : Int32) : Option (Int32) :=
  m_X8_distance_9L I 5000 l0 l1 l4 0 l2 l3
abbrev m_X8_distance := @m_X8_distance_e
def m_X8_cell_103 (I : po_I) (s0 : Int32) : Option (Int32 × po_I) :=
  some ((s0, I))
def m_X8_cell_39 (I : po_I) (l0 : Nat) (l1 : Int32) (l2 : Int32) (l3 : Int32) (s0 : Nat) (s1 : Int32) : Option (Int32 × po_I) :=
  po_hlet (po_u I s0 0 s1) fun I1 => if ((I1 l0 0) : Int32) = 0 then (Option.bind (m_X8_lotAt I1 l0 l1 l2) fun x2 => if (l3 : Int32) = 0 then (m_X8_cell_103 I1 x2) else (if (l3 : Int32) = 1 then (Option.bind (m_X8_permitAt I1 l0 l1 l2) fun x4 => m_X8_cell_103 I1 x4) else (if (x2 : Int32) = (-1) then (m_X8_cell_103 I1 0) else (Option.bind (m_X8_distance I1 l0 x2 l1 l2 (l3 - 2)) fun x3 => m_X8_cell_103 I1 x3)))) else (some ((0, I1)))
def m_X8_cell_21 (I : po_I) (l0 : Nat) (l1 : Int32) (l2 : Int32) (l3 : Int32) (s0 : Nat) : Option (Int32 × po_I) :=
  m_X8_cell_39 I l0 l1 l2 l3 s0 1
def m_X8_cell_e (I : po_I) (l0 : Nat) (l1 : Int32) (l2 : Int32) (l3 : Int32) : Option (Int32 × po_I) :=
  Option.bind (m_X8_isIn l1 0 19) fun x5 => if (x5 : Int32) = 0 then (m_X8_cell_21 I l0 l1 l2 l3 l0) else (Option.bind (m_X8_isIn l2 0 13) fun x6 => if (x6 : Int32) = 0 then (m_X8_cell_21 I l0 l1 l2 l3 l0) else (Option.bind (m_X8_isIn l3 0 5) fun x7 => if (x7 : Int32) = 0 then (m_X8_cell_39 I l0 l1 l2 l3 l0 2) else (m_X8_cell_39 I l0 l1 l2 l3 l0 0)))
abbrev m_X8_cell := @m_X8_cell_e
def m_X8_frontDistance_e (I : po_I) (l0 : Nat) (l1 : Int32) (l2 : Int32) (l3 : Int32) : Option (Int32) :=
  Option.bind (m_X8_lotPart I l0 l1 1) fun x1 => Option.bind (m_X8_distance I l0 l1 l2 l3 x1) fun x2 => some x2
abbrev m_X8_frontDistance := @m_X8_frontDistance_e
def m_X8_sideDistance_43 (I : po_I) (r7 : Nat → Int32 → Int32 → Int32 → Int32 → Int32 → Option (Int32)) (l0 : Nat) (l1 : Int32) (l2 : Int32) (l3 : Int32) (l5 : Int32) (s0 : Int32) : Option (Int32) :=
  r7 l0 l1 l2 l3 s0 (l5 + 1)
def m_X8_sideDistance_7 (I : po_I) (r7 : Nat → Int32 → Int32 → Int32 → Int32 → Int32 → Option (Int32)) (l0 : Nat) (l1 : Int32) (l2 : Int32) (l3 : Int32) (l4 : Int32) (l5 : Int32) : Option (Int32) :=
  if (4 : Int32) ≤ l5 then (some l4) else (Option.bind (m_X8_lotPart I l0 l1 1) fun x1 => if (l5 : Int32) = x1 then (m_X8_sideDistance_43 I r7 l0 l1 l2 l3 l5 l4) else (Option.bind (m_X8_distance I l0 l1 l2 l3 l5) fun x2 => m_X8_sideDistance_43 I r7 l0 l1 l2 l3 l5 (if (x2 : Int32) < l4 then x2 else l4)))
def m_X8_sideDistance_7L (I : po_I) : Nat → Nat → Int32 → Int32 → Int32 → Int32 → Int32 → Option (Int32)
  | 0 => fun _ _ _ _ _ _ => none
  | n + 1 => m_X8_sideDistance_7 I (m_X8_sideDistance_7L I n)
def m_X8_sideDistance_e (I : po_I) (l0 : Nat) (l1 : Int32) (l2 : Int32) (l3 : Int32) : Option (Int32) :=
  m_X8_sideDistance_7L I 5000 l0 l1 l2 l3 100 0
abbrev m_X8_sideDistance := @m_X8_sideDistance_e
def m_X8_largestFrom_81 (I : po_I) (l3 : Int32) : Option (Int32) :=
  some l3
def m_X8_largestFrom_57 (I : po_I) (r11 : Nat → Int32 → Int32 → Int32 → Int32 → Int32 → Option (Int32)) (l0 : Nat) (l1 : Int32) (l2 : Int32) (l3 : Int32) (l5 : Int32) (l6 : Int32) : Option (Int32) :=
  po_let (if (l3 : Int32) < (l6 * ((l5 - l2) + 1)) then (l6 * ((l5 - l2) + 1)) else l3) fun v1 => r11 l0 l1 l2 v1 l6 (l5 + 1)
def m_X8_largestFrom_26 (I : po_I) (r11 : Nat → Int32 → Int32 → Int32 → Int32 → Int32 → Option (Int32)) (r26 : Nat → Int32 → Int32 → Int32 → Int32 → Int32 → Int32 → Option (Int32)) (l0 : Nat) (l1 : Int32) (l2 : Int32) (l3 : Int32) (l4 : Int32) (l5 : Int32) (l6 : Int32) : Option (Int32) :=
  if (l4 : Int32) ≤ l6 then (m_X8_largestFrom_57 I r11 l0 l1 l2 l3 l5 l6) else (if po_in (((20 * l5) + l1) + l6) 280 = true then if ((vp_nar .boolean (I (l0 + 7) (Int32.toNatClampNeg (((20 * l5) + l1) + l6)))) : Int32) = 0 then (m_X8_largestFrom_57 I r11 l0 l1 l2 l3 l5 l6) else (r26 l0 l1 l2 l3 l4 l5 (l6 + 1)) else none)
def m_X8_largestFrom_26L (I : po_I) (r11 : Nat → Int32 → Int32 → Int32 → Int32 → Int32 → Option (Int32)) : Nat → Nat → Int32 → Int32 → Int32 → Int32 → Int32 → Int32 → Option (Int32)
  | 0 => fun _ _ _ _ _ _ _ => none
  | n + 1 => m_X8_largestFrom_26 I r11 (m_X8_largestFrom_26L I r11 n)
def m_X8_largestFrom_11 (I : po_I) (r11 : Nat → Int32 → Int32 → Int32 → Int32 → Int32 → Option (Int32)) (l0 : Nat) (l1 : Int32) (l2 : Int32) (l3 : Int32) (l4 : Int32) (l5 : Int32) : Option (Int32) :=
  if (14 : Int32) ≤ l5 then (m_X8_largestFrom_81 I l3) else (if (l4 : Int32) ≤ 0 then (m_X8_largestFrom_81 I l3) else (m_X8_largestFrom_26L I r11 5000 l0 l1 l2 l3 l4 l5 0))
def m_X8_largestFrom_11L (I : po_I) : Nat → Nat → Int32 → Int32 → Int32 → Int32 → Int32 → Option (Int32)
  | 0 => fun _ _ _ _ _ _ => none
  | n + 1 => m_X8_largestFrom_11 I (m_X8_largestFrom_11L I n)
def m_X8_largestFrom_e (I : po_I) (l0 : Nat) (l1 : Int32) (l2 : Int32) : Option (Int32) :=
  po_let (20 - l1) fun v2 => m_X8_largestFrom_11L I 5000 l0 l1 l2 0 v2 l2
abbrev m_X8_largestFrom := @m_X8_largestFrom_e
def m_X8_largest_155 (r155 : po_I → Nat → Int32 → Int32 → Option (Int32 × po_I)) (I : po_I) (l0 : Nat) (l4 : Int32) (l5 : Int32) : Option (Int32 × po_I) :=
  if (280 : Int32) ≤ l5 then (some ((l4, I))) else (Option.bind (m_X8_largestFrom I l0 (l5 - l5 / 20 * 20) (l5 / 20)) fun x1 => po_let (if (l4 : Int32) < x1 then x1 else l4) fun v2 => r155 I l0 v2 (l5 + 1))
def m_X8_largest_155L : Nat → po_I → Nat → Int32 → Int32 → Option (Int32 × po_I)
  | 0 => fun _ _ _ _ => none
  | n + 1 => m_X8_largest_155 (m_X8_largest_155L n)
def m_X8_largest_142 (r58 : po_I → Nat → Int32 → Int32 → Int32 → Int32 → Option (Int32 × po_I)) (I : po_I) (l0 : Nat) (l1 : Int32) (l2 : Int32) (l3 : Int32) (l4 : Int32) (s0 : Nat) (s1 : Int32) (s2 : Int32) : Option (Int32 × po_I) :=
  if po_in s1 280 = true then po_hlet (po_u I s0 (Int32.toNatClampNeg s1) s2) fun I3 => r58 I3 l0 l1 l2 l3 (l4 + 1) else none
def m_X8_largest_141 (r58 : po_I → Nat → Int32 → Int32 → Int32 → Int32 → Option (Int32 × po_I)) (I : po_I) (l0 : Nat) (l1 : Int32) (l2 : Int32) (l3 : Int32) (l4 : Int32) (s0 : Nat) (s1 : Int32) : Option (Int32 × po_I) :=
  m_X8_largest_142 r58 I l0 l1 l2 l3 l4 s0 s1 0
def m_X8_largest_58 (r58 : po_I → Nat → Int32 → Int32 → Int32 → Int32 → Option (Int32 × po_I)) (I : po_I) (l0 : Nat) (l1 : Int32) (l2 : Int32) (l3 : Int32) (l4 : Int32) : Option (Int32 × po_I) :=
  if (280 : Int32) ≤ l4 then (m_X8_largest_155L 5000 I l0 0 0) else (po_let (l4 - l4 / 20 * 20) fun v4 => po_let (l4 / 20) fun v5 => Option.bind (m_X8_isInLot I l0 l1 v4 v5) fun x6 => if (x6 : Int32) = 0 then (m_X8_largest_141 r58 I l0 l1 l2 l3 l4 (l0 + 7) l4) else (Option.bind (m_X8_isBuilt I l0 l1 v4 v5 (-1)) fun x7 => if (x7 : Int32) = 0 then (Option.bind (m_X8_frontDistance I l0 l1 v4 v5) fun x8 => if (x8 : Int32) < l2 then (m_X8_largest_141 r58 I l0 l1 l2 l3 l4 (l0 + 7) l4) else (Option.bind (m_X8_sideDistance I l0 l1 v4 v5) fun x9 => if (x9 : Int32) < l3 then (m_X8_largest_141 r58 I l0 l1 l2 l3 l4 (l0 + 7) l4) else (m_X8_largest_142 r58 I l0 l1 l2 l3 l4 (l0 + 7) l4 1))) else (m_X8_largest_141 r58 I l0 l1 l2 l3 l4 (l0 + 7) l4)))
def m_X8_largest_58L : Nat → po_I → Nat → Int32 → Int32 → Int32 → Int32 → Option (Int32 × po_I)
  | 0 => fun _ _ _ _ _ _ => none
  | n + 1 => m_X8_largest_58 (m_X8_largest_58L n)
def m_X8_largest_e (I : po_I) (l0 : Nat) (l1 : Int32) : Option (Int32 × po_I) :=
  po_hlet (po_u I l0 0 0) fun I10 => Option.bind (m_X8_isLot I10 l0 l1) fun x11 => if (x11 : Int32) = 0 then (Option.bind (m_X8_fail I10 l0 1) fun x16 => some (((x16.1), x16.2))) else (Option.bind (m_X8_lotPart I10 l0 l1 0) fun x12 => if po_in (4 + (7 * x12)) 668 = true then po_let (I10 (l0 + 1) (Int32.toNatClampNeg (4 + (7 * x12)))) fun v13 => Option.bind (m_X8_lotPart I10 l0 l1 0) fun x14 => if po_in ((4 + (7 * x14)) + 1) 668 = true then po_let (I10 (l0 + 1) (Int32.toNatClampNeg ((4 + (7 * x14)) + 1))) fun v15 => m_X8_largest_58L 5000 I10 l0 l1 v13 v15 0 else none else none)
abbrev m_X8_largest := @m_X8_largest_e
def m_X8_isPermit_e (I : po_I) (l0 : Nat) (l1 : Int32) : Option (Int32) :=
  Option.bind (m_X8_isIn l1 0 ((I (l0 + 1) 2) - 1)) fun x1 => if vp_nar .boolean x1 = x1 then some x1 else none
abbrev m_X8_isPermit := @m_X8_isPermit_e
def m_X8_conditionPart_44 (I : po_I) (s0 : Int32) : Option (Int32) :=
  some s0
def m_X8_conditionPart_e (I : po_I) (l0 : Nat) (l1 : Int32) (l2 : Int32) (l3 : Int32) : Option (Int32) :=
  Option.bind (m_X8_at I l0 l1 (29 + l2)) fun x1 => if (l3 : Int32) = 0 then (m_X8_conditionPart_44 I (x1 / 1000)) else (if (l3 : Int32) = 1 then (m_X8_conditionPart_44 I ((x1 / 2) - (x1 / 2) / 500 * 500)) else (m_X8_conditionPart_44 I (x1 - x1 / 2 * 2)))
abbrev m_X8_conditionPart := @m_X8_conditionPart_e
def m_X8_openConditions_4 (I : po_I) (r4 : Nat → Int32 → Int32 → Int32 → Option (Int32)) (l0 : Nat) (l1 : Int32) (l2 : Int32) (l3 : Int32) : Option (Int32) :=
  Option.bind (m_X8_conditionMany I l0 l1) fun x1 => if (x1 : Int32) ≤ l3 then (some l2) else (Option.bind (m_X8_conditionPart I l0 l1 l3 2) fun x2 => po_let (l2 + x2) fun v3 => r4 l0 l1 v3 (l3 + 1))
def m_X8_openConditions_4L (I : po_I) : Nat → Nat → Int32 → Int32 → Int32 → Option (Int32)
  | 0 => fun _ _ _ _ => none
  | n + 1 => m_X8_openConditions_4 I (m_X8_openConditions_4L I n)
def m_X8_openConditions_e (I : po_I) (l0 : Nat) (l1 : Int32) : Option (Int32) :=
  m_X8_openConditions_4L I 5000 l0 l1 0 0
abbrev m_X8_openConditions := @m_X8_openConditions_e
def m_X8_permit_192 (I : po_I) (s0 : Int32) : Option (Int32 × po_I) :=
  some ((s0, I))
def m_X8_permit_28 (I : po_I) (l0 : Nat) (l1 : Int32) (l2 : Int32) (s0 : Nat) (s1 : Int32) : Option (Int32 × po_I) :=
  po_hlet (po_u I s0 0 s1) fun I1 => if ((I1 l0 0) : Int32) = 0 then (if (l2 : Int32) = 0 then (Option.bind (m_X8_at I1 l0 l1 19) fun x2 => some ((x2, I1))) else (if (l2 : Int32) = 1 then (Option.bind (m_X8_at I1 l0 l1 0) fun x3 => some ((x3, I1))) else (if (l2 : Int32) = 2 then (Option.bind (m_X8_at I1 l0 l1 1) fun x4 => some ((x4, I1))) else (if (l2 : Int32) = 3 then (Option.bind (m_X8_at I1 l0 l1 17) fun x5 => some ((x5, I1))) else (if (l2 : Int32) = 4 then (Option.bind (m_X8_at I1 l0 l1 18) fun x6 => some ((x6, I1))) else (if (l2 : Int32) = 5 then (Option.bind (m_X8_buildingCells I1 l0 l1) fun x7 => some ((x7, I1))) else (if (l2 : Int32) = 6 then (Option.bind (m_X8_floorArea I1 l0 l1) fun x8 => some ((x8, I1))) else (if (l2 : Int32) = 7 then (Option.bind (m_X8_at I1 l0 l1 20) fun x9 => some ((x9, I1))) else (if (l2 : Int32) = 8 then (Option.bind (m_X8_at I1 l0 l1 21) fun x10 => some ((x10, I1))) else (if (l2 : Int32) = 9 then (Option.bind (m_X8_at I1 l0 l1 19) fun x11 => if (x11 : Int32) = 2 then (Option.bind (m_X8_at I1 l0 l1 22) fun x12 => m_X8_permit_192 I1 x12) else (m_X8_permit_192 I1 (-1))) else (if (l2 : Int32) = 10 then (Option.bind (m_X8_at I1 l0 l1 24) fun x13 => some ((x13, I1))) else (if (l2 : Int32) = 11 then (Option.bind (m_X8_openConditions I1 l0 l1) fun x14 => some ((x14, I1))) else (Option.bind (m_X8_conditionMany I1 l0 l1) fun x15 => some ((x15, I1))))))))))))))) else (some ((0, I1)))
def m_X8_permit_e (I : po_I) (l0 : Nat) (l1 : Int32) (l2 : Int32) : Option (Int32 × po_I) :=
  Option.bind (m_X8_isPermit I l0 l1) fun x16 => if (x16 : Int32) = 0 then (m_X8_permit_28 I l0 l1 l2 l0 1) else (Option.bind (m_X8_isIn l2 0 12) fun x17 => if (x17 : Int32) = 0 then (m_X8_permit_28 I l0 l1 l2 l0 2) else (m_X8_permit_28 I l0 l1 l2 l0 0))
abbrev m_X8_permit := @m_X8_permit_e
def m_X8_overCells_234 (I : po_I) (s0 : Int32) : Option (Int32) :=
  some s0
def m_X8_overCells_227 (I : po_I) (l5 : Int32) : Option (Int32) :=
  m_X8_overCells_234 I l5
def m_X8_overCells_211 (I : po_I) (r17 : Nat → Int32 → Int32 → Int32 → Int32 → Int32 → Int32 → Option (Int32)) (l0 : Nat) (l1 : Int32) (l2 : Int32) (l3 : Int32) (l4 : Int32) (l5 : Int32) (l6 : Int32) : Option (Int32) :=
  r17 l0 l1 l2 l3 l4 l5 (l6 + 1)
def m_X8_overCells_208 (I : po_I) (r17 : Nat → Int32 → Int32 → Int32 → Int32 → Int32 → Int32 → Option (Int32)) (l0 : Nat) (l1 : Int32) (l2 : Int32) (l3 : Int32) (l5 : Int32) (l6 : Int32) (s0 : Int32) (s1 : Int32) : Option (Int32) :=
  po_let (s0 + s1) fun v1 => m_X8_overCells_211 I r17 l0 l1 l2 l3 v1 l5 l6
def m_X8_overCells_203 (I : po_I) (r17 : Nat → Int32 → Int32 → Int32 → Int32 → Int32 → Int32 → Option (Int32)) (l0 : Nat) (l1 : Int32) (l2 : Int32) (l3 : Int32) (l5 : Int32) (l6 : Int32) (s0 : Int32) : Option (Int32) :=
  m_X8_overCells_208 I r17 l0 l1 l2 l3 l5 l6 s0 1
def m_X8_overCells_166 (I : po_I) (r17 : Nat → Int32 → Int32 → Int32 → Int32 → Int32 → Int32 → Option (Int32)) (l0 : Nat) (l1 : Int32) (l2 : Int32) (l3 : Int32) (l4 : Int32) (l5 : Int32) (l6 : Int32) (l7 : Int32) (l8 : Int32) (l9 : Int32) : Option (Int32) :=
  if (l2 : Int32) = 4 then (Option.bind (m_X8_isInLot I l0 l3 l7 l8) fun x2 => if (x2 : Int32) = 0 then (m_X8_overCells_211 I r17 l0 l1 l2 l3 l4 l5 l6) else (if (l9 : Int32) = 0 then (Option.bind (m_X8_isBuilt I l0 l3 l7 l8 l1) fun x3 => if (x3 : Int32) = 0 then (m_X8_overCells_208 I r17 l0 l1 l2 l3 l5 l6 l4 0) else (m_X8_overCells_203 I r17 l0 l1 l2 l3 l5 l6 l4)) else (m_X8_overCells_203 I r17 l0 l1 l2 l3 l5 l6 l4))) else (m_X8_overCells_211 I r17 l0 l1 l2 l3 l4 l5 l6)
def m_X8_overCells_158 (I : po_I) (r17 : Nat → Int32 → Int32 → Int32 → Int32 → Int32 → Int32 → Option (Int32)) (l0 : Nat) (l1 : Int32) (l2 : Int32) (l3 : Int32) (l4 : Int32) (l6 : Int32) (s0 : Int32) (s1 : Int32) : Option (Int32) :=
  po_let (if (s1 : Int32) < s0 then s1 else s0) fun v4 => m_X8_overCells_211 I r17 l0 l1 l2 l3 l4 v4 l6
def m_X8_overCells_120 (I : po_I) (r17 : Nat → Int32 → Int32 → Int32 → Int32 → Int32 → Int32 → Option (Int32)) (l0 : Nat) (l1 : Int32) (l2 : Int32) (l3 : Int32) (l4 : Int32) (l5 : Int32) (l6 : Int32) (l7 : Int32) (l8 : Int32) (l9 : Int32) : Option (Int32) :=
  if (l9 : Int32) = 0 then (m_X8_overCells_166 I r17 l0 l1 l2 l3 l4 l5 l6 l7 l8 l9) else (if (4 : Int32) ≤ l2 then (m_X8_overCells_166 I r17 l0 l1 l2 l3 l4 l5 l6 l7 l8 l9) else (if (l2 : Int32) = 2 then (Option.bind (m_X8_frontDistance I l0 l3 l7 l8) fun x6 => m_X8_overCells_158 I r17 l0 l1 l2 l3 l4 l6 l5 x6) else (Option.bind (m_X8_sideDistance I l0 l3 l7 l8) fun x5 => m_X8_overCells_158 I r17 l0 l1 l2 l3 l4 l6 l5 x5)))
def m_X8_overCells_114 (I : po_I) (r17 : Nat → Int32 → Int32 → Int32 → Int32 → Int32 → Int32 → Option (Int32)) (l0 : Nat) (l1 : Int32) (l2 : Int32) (l3 : Int32) (l5 : Int32) (l6 : Int32) (s0 : Int32) (s1 : Int32) : Option (Int32) :=
  po_let (s0 + s1) fun v7 => m_X8_overCells_211 I r17 l0 l1 l2 l3 v7 l5 l6
def m_X8_overCells_84 (I : po_I) (r17 : Nat → Int32 → Int32 → Int32 → Int32 → Int32 → Int32 → Option (Int32)) (l0 : Nat) (l1 : Int32) (l2 : Int32) (l3 : Int32) (l4 : Int32) (l5 : Int32) (l6 : Int32) (l7 : Int32) (l8 : Int32) (l9 : Int32) : Option (Int32) :=
  if (l9 : Int32) = 0 then (m_X8_overCells_120 I r17 l0 l1 l2 l3 l4 l5 l6 l7 l8 l9) else (if (l2 : Int32) = 1 then (Option.bind (m_X8_isBuilt I l0 l3 l7 l8 l1) fun x8 => if (x8 : Int32) = 0 then (m_X8_overCells_114 I r17 l0 l1 l2 l3 l5 l6 l4 0) else (m_X8_overCells_114 I r17 l0 l1 l2 l3 l5 l6 l4 1)) else (m_X8_overCells_120 I r17 l0 l1 l2 l3 l4 l5 l6 l7 l8 l9))
def m_X8_overCells_78 (I : po_I) (r17 : Nat → Int32 → Int32 → Int32 → Int32 → Int32 → Int32 → Option (Int32)) (l0 : Nat) (l1 : Int32) (l2 : Int32) (l3 : Int32) (l5 : Int32) (l6 : Int32) (s0 : Int32) (s1 : Int32) : Option (Int32) :=
  po_let (s0 + s1) fun v9 => m_X8_overCells_211 I r17 l0 l1 l2 l3 v9 l5 l6
def m_X8_overCells_17 (I : po_I) (r17 : Nat → Int32 → Int32 → Int32 → Int32 → Int32 → Int32 → Option (Int32)) (l0 : Nat) (l1 : Int32) (l2 : Int32) (l3 : Int32) (l4 : Int32) (l5 : Int32) (l6 : Int32) : Option (Int32) :=
  if (280 : Int32) ≤ l6 then (if (l2 : Int32) = 2 then (m_X8_overCells_227 I l5) else (if (l2 : Int32) = 3 then (m_X8_overCells_227 I l5) else (m_X8_overCells_234 I l4))) else (po_let (l6 - l6 / 20 * 20) fun v10 => po_let (l6 / 20) fun v11 => Option.bind (m_X8_isInBuilding I l0 l1 v10 v11) fun x12 => if (x12 : Int32) = 0 then (m_X8_overCells_84 I r17 l0 l1 l2 l3 l4 l5 l6 v10 v11 x12) else (if (l2 : Int32) = 0 then (Option.bind (m_X8_isInLot I l0 l3 v10 v11) fun x13 => if (x13 : Int32) = 0 then (m_X8_overCells_78 I r17 l0 l1 l2 l3 l5 l6 l4 1) else (m_X8_overCells_78 I r17 l0 l1 l2 l3 l5 l6 l4 0)) else (m_X8_overCells_84 I r17 l0 l1 l2 l3 l4 l5 l6 v10 v11 x12)))
def m_X8_overCells_17L (I : po_I) : Nat → Nat → Int32 → Int32 → Int32 → Int32 → Int32 → Int32 → Option (Int32)
  | 0 => fun _ _ _ _ _ _ _ => none
  | n + 1 => m_X8_overCells_17 I (m_X8_overCells_17L I n)
def m_X8_overCells_e (I : po_I) (l0 : Nat) (l1 : Int32) (l2 : Int32) : Option (Int32) :=
  Option.bind (m_X8_at I l0 l1 0) fun x14 => m_X8_overCells_17L I 5000 l0 l1 l2 x14 0 100 0
abbrev m_X8_overCells := @m_X8_overCells_e
def m_X8_up_e (l0 : Int32) (l1 : Int32) : Option (Int32) :=
  if l1 = 0 then none else some (((l0 + l1) - 1) / l1)
abbrev m_X8_up := @m_X8_up_e
def m_X8_measure_e (I : po_I) (l0 : Nat) (l1 : Int32) (l2 : Int32) : Option (Int32) :=
  Option.bind (m_X8_at I l0 l1 0) fun x1 => if (l2 : Int32) = 4 then (Option.bind (m_X8_overCells I l0 l1 4) fun x2 => Option.bind (m_X8_lotCells I l0 x1) fun x3 => Option.bind (m_X8_up (100 * x2) x3) fun x4 => some x4) else (if (l2 : Int32) = 5 then (Option.bind (m_X8_at I l0 l1 17) fun x5 => some x5) else (if (l2 : Int32) = 6 then (Option.bind (m_X8_floorArea I l0 l1) fun x6 => Option.bind (m_X8_floorAreas I l0 x1 l1) fun x7 => Option.bind (m_X8_lotCells I l0 x1) fun x8 => Option.bind (m_X8_up (10 * (x6 + x7)) x8) fun x9 => some x9) else (if (l2 : Int32) = 7 then (Option.bind (m_X8_at I l0 l1 1) fun x10 => some x10) else (if (l2 : Int32) = 8 then (Option.bind (m_X8_at I l0 l1 18) fun x11 => some x11) else (Option.bind (m_X8_overCells I l0 l1 l2) fun x12 => some x12)))))
abbrev m_X8_measure := @m_X8_measure_e
def m_X8_ruleOf_e (I : po_I) (l0 : Nat) (l1 : Int32) (l2 : Int32) : Option (Int32) :=
  Option.bind (m_X8_at I l0 l1 0) fun x1 => Option.bind (m_X8_lotPart I l0 x1 0) fun x2 => if po_in ((4 + (7 * x2)) + l2) 668 = true then some (I (l0 + 1) (Int32.toNatClampNeg ((4 + (7 * x2)) + l2))) else none
abbrev m_X8_ruleOf := @m_X8_ruleOf_e
def m_X8_limit_44 (I : po_I) (s0 : Int32) : Option (Int32) :=
  some s0
def m_X8_limit_e (I : po_I) (l0 : Nat) (l1 : Int32) (l2 : Int32) : Option (Int32) :=
  if (2 : Int32) ≤ l2 then (if (l2 : Int32) = 8 then (Option.bind (m_X8_ruleOf I l0 l1 6) fun x2 => Option.bind (m_X8_floorArea I l0 l1) fun x3 => Option.bind (m_X8_up (x2 * x3) 10) fun x4 => m_X8_limit_44 I x4) else (Option.bind (m_X8_ruleOf I l0 l1 (l2 - 2)) fun x1 => m_X8_limit_44 I x1)) else (m_X8_limit_44 I 0)
abbrev m_X8_limit := @m_X8_limit_e
def m_X8_isWrong_61 (s0 : Int32) : Option (Int32) :=
  if vp_nar .boolean s0 = s0 then some s0 else none
def m_X8_isWrong_38 (l1 : Int32) (l2 : Int32) : Option (Int32) :=
  if (l2 : Int32) ≤ l1 then (m_X8_isWrong_61 0) else (m_X8_isWrong_61 1)
def m_X8_isWrong_e (l0 : Int32) (l1 : Int32) (l2 : Int32) : Option (Int32) :=
  if (l0 : Int32) = 7 then (if (((l2 >>> (l1 &&& 31)) &&& 1) : Int32) = 0 then (m_X8_isWrong_61 1) else (m_X8_isWrong_61 0)) else (if (l0 : Int32) = 2 then (m_X8_isWrong_38 l1 l2) else (if (l0 : Int32) = 3 then (m_X8_isWrong_38 l1 l2) else (if (l0 : Int32) = 8 then (m_X8_isWrong_38 l1 l2) else (if (l1 : Int32) ≤ l2 then (m_X8_isWrong_61 0) else (m_X8_isWrong_61 1)))))
abbrev m_X8_isWrong := @m_X8_isWrong_e
def m_X8_variancePart_e (I : po_I) (l0 : Nat) (l1 : Int32) (l2 : Int32) : Option (Int32) :=
  if po_in ((620 + (4 * l1)) + l2) 668 = true then some (I (l0 + 1) (Int32.toNatClampNeg ((620 + (4 * l1)) + l2))) else none
abbrev m_X8_variancePart := @m_X8_variancePart_e
def m_X8_isInForce_20 (I : po_I) (s0 : Int32) : Option (Int32) :=
  if vp_nar .boolean s0 = s0 then some s0 else none
def m_X8_isInForce_e (I : po_I) (l0 : Nat) (l1 : Int32) : Option (Int32) :=
  Option.bind (m_X8_variancePart I l0 l1 3) fun x1 => if (x1 : Int32) < (I (l0 + 1) 0) then (m_X8_isInForce_20 I 0) else (m_X8_isInForce_20 I 1)
abbrev m_X8_isInForce := @m_X8_isInForce_e
def m_X8_helps_65 (s0 : Int32) : Option (Int32) :=
  if vp_nar .boolean s0 = s0 then some s0 else none
def m_X8_helps_60 : Option (Int32) :=
  m_X8_helps_65 1
def m_X8_helps_64 : Option (Int32) :=
  m_X8_helps_65 0
def m_X8_helps_54 (s0 : Int32) (s1 : Int32) (s2 : Int32) : Option (Int32) :=
  Option.bind (m_X8_isWrong s0 s1 s2) fun x1 => if (x1 : Int32) = 0 then m_X8_helps_60 else m_X8_helps_64
def m_X8_helps_21 (l0 : Int32) (l1 : Int32) (l2 : Int32) (l3 : Int32) (s0 : Int32) : Option (Int32) :=
  if (l0 : Int32) = 7 then m_X8_helps_60 else (if (l0 : Int32) ≤ 1 then m_X8_helps_64 else (if (s0 : Int32) = 0 then (m_X8_helps_54 l0 l1 (l2 + l3)) else (m_X8_helps_54 l0 l1 (if (0 : Int32) < (l2 - l3) then (l2 - l3) else 0))))
def m_X8_helps_16 (l0 : Int32) (l1 : Int32) (l2 : Int32) (l3 : Int32) : Option (Int32) :=
  m_X8_helps_21 l0 l1 l2 l3 1
def m_X8_helps_e (l0 : Int32) (l1 : Int32) (l2 : Int32) (l3 : Int32) : Option (Int32) :=
  if (l0 : Int32) = 2 then (m_X8_helps_16 l0 l1 l2 l3) else (if (l0 : Int32) = 3 then (m_X8_helps_16 l0 l1 l2 l3) else (if (l0 : Int32) = 8 then (m_X8_helps_16 l0 l1 l2 l3) else (m_X8_helps_21 l0 l1 l2 l3 0)))
abbrev m_X8_helps := @m_X8_helps_e
def m_X8_used_112 (I : po_I) (r6 : Nat → Int32 → Int32 → Int32 → Int32 → Int32 → Int32 → Option (Int32)) (l0 : Nat) (l1 : Int32) (l2 : Int32) (l3 : Int32) (l4 : Int32) (l6 : Int32) (s0 : Int32) : Option (Int32) :=
  r6 l0 l1 l2 l3 l4 s0 (l6 + 1)
def m_X8_used_110 (I : po_I) (r6 : Nat → Int32 → Int32 → Int32 → Int32 → Int32 → Int32 → Option (Int32)) (l0 : Nat) (l1 : Int32) (l2 : Int32) (l3 : Int32) (l4 : Int32) (l5 : Int32) (l6 : Int32) : Option (Int32) :=
  m_X8_used_112 I r6 l0 l1 l2 l3 l4 l6 l5
def m_X8_used_105 (I : po_I) (r6 : Nat → Int32 → Int32 → Int32 → Int32 → Int32 → Int32 → Option (Int32)) (l0 : Nat) (l1 : Int32) (l2 : Int32) (l3 : Int32) (l4 : Int32) (l6 : Int32) : Option (Int32) :=
  m_X8_used_112 I r6 l0 l1 l2 l3 l4 l6 l6
def m_X8_used_75 (I : po_I) (r6 : Nat → Int32 → Int32 → Int32 → Int32 → Int32 → Int32 → Option (Int32)) (l0 : Nat) (l1 : Int32) (l2 : Int32) (l3 : Int32) (l4 : Int32) (l5 : Int32) (l6 : Int32) (s0 : Int32) : Option (Int32) :=
  if (s0 : Int32) = 0 then (m_X8_used_110 I r6 l0 l1 l2 l3 l4 l5 l6) else (if (l5 : Int32) = (-1) then (m_X8_used_105 I r6 l0 l1 l2 l3 l4 l6) else (Option.bind (m_X8_variancePart I l0 l6 2) fun x1 => Option.bind (m_X8_variancePart I l0 l5 2) fun x2 => if (x2 : Int32) ≤ x1 then (m_X8_used_110 I r6 l0 l1 l2 l3 l4 l5 l6) else (m_X8_used_105 I r6 l0 l1 l2 l3 l4 l6)))
def m_X8_used_74 (I : po_I) (r6 : Nat → Int32 → Int32 → Int32 → Int32 → Int32 → Int32 → Option (Int32)) (l0 : Nat) (l1 : Int32) (l2 : Int32) (l3 : Int32) (l4 : Int32) (l5 : Int32) (l6 : Int32) : Option (Int32) :=
  m_X8_used_75 I r6 l0 l1 l2 l3 l4 l5 l6 0
def m_X8_used_6 (I : po_I) (r6 : Nat → Int32 → Int32 → Int32 → Int32 → Int32 → Int32 → Option (Int32)) (l0 : Nat) (l1 : Int32) (l2 : Int32) (l3 : Int32) (l4 : Int32) (l5 : Int32) (l6 : Int32) : Option (Int32) :=
  if ((I (l0 + 1) 3) : Int32) ≤ l6 then (some l5) else (Option.bind (m_X8_isInForce I l0 l6) fun x3 => if (x3 : Int32) = 0 then (m_X8_used_74 I r6 l0 l1 l2 l3 l4 l5 l6) else (Option.bind (m_X8_variancePart I l0 l6 0) fun x4 => Option.bind (m_X8_at I l0 l1 0) fun x5 => if (x4 : Int32) = x5 then (Option.bind (m_X8_variancePart I l0 l6 1) fun x6 => if (x6 : Int32) = l2 then (Option.bind (m_X8_variancePart I l0 l6 2) fun x7 => Option.bind (m_X8_helps l2 l3 l4 x7) fun x8 => if (x8 : Int32) = 0 then (m_X8_used_74 I r6 l0 l1 l2 l3 l4 l5 l6) else (m_X8_used_75 I r6 l0 l1 l2 l3 l4 l5 l6 1)) else (m_X8_used_74 I r6 l0 l1 l2 l3 l4 l5 l6)) else (m_X8_used_74 I r6 l0 l1 l2 l3 l4 l5 l6)))
def m_X8_used_6L (I : po_I) : Nat → Nat → Int32 → Int32 → Int32 → Int32 → Int32 → Int32 → Option (Int32)
  | 0 => fun _ _ _ _ _ _ _ => none
  | n + 1 => m_X8_used_6 I (m_X8_used_6L I n)
def m_X8_used_e (I : po_I) (l0 : Nat) (l1 : Int32) (l2 : Int32) (l3 : Int32) (l4 : Int32) : Option (Int32) :=
  m_X8_used_6L I 5000 l0 l1 l2 l3 l4 (-1) 0
abbrev m_X8_used := @m_X8_used_e
def m_X8_find_117 (r22 : po_I → Nat → Int32 → Int32 → Option (po_I)) (I : po_I) (l0 : Nat) (l1 : Int32) (l2 : Int32) : Option (po_I) :=
  r22 I l0 l1 (l2 + 1)
def m_X8_find_22 (r22 : po_I → Nat → Int32 → Int32 → Option (po_I)) (I : po_I) (l0 : Nat) (l1 : Int32) (l2 : Int32) : Option (po_I) :=
  if (9 : Int32) ≤ l2 then (some I) else (Option.bind (m_X8_measure I l0 l1 l2) fun x1 => Option.bind (m_X8_limit I l0 l1 l2) fun x2 => Option.bind (m_X8_isWrong l2 x1 x2) fun x3 => if (x3 : Int32) = 0 then (m_X8_find_117 r22 I l0 l1 l2) else (po_hlet (po_u I l0 7 ((I l0 7) ||| (1 <<< (l2 &&& 31)))) fun I4 => Option.bind (m_X8_used I4 l0 l1 l2 x1 x2) fun x5 => if (x5 : Int32) = (-1) then (m_X8_find_117 r22 I4 l0 l1 l2) else (po_hlet (po_u I4 l0 8 ((I4 l0 8) ||| (1 <<< (l2 &&& 31)))) fun I6 => po_hlet (po_u I6 l0 9 ((I6 l0 9) ||| (1 <<< (x5 &&& 31)))) fun I7 => po_hlet (po_u I7 l0 10 ((I7 l0 10) + 1)) fun I8 => m_X8_find_117 r22 I8 l0 l1 l2)))
def m_X8_find_22L : Nat → po_I → Nat → Int32 → Int32 → Option (po_I)
  | 0 => fun _ _ _ _ => none
  | n + 1 => m_X8_find_22 (m_X8_find_22L n)
def m_X8_find_e (I : po_I) (l0 : Nat) (l1 : Int32) : Option (po_I) :=
  po_hlet (po_u I l0 7 0) fun I9 => po_hlet (po_u I9 l0 8 0) fun I10 => po_hlet (po_u I10 l0 9 0) fun I11 => po_hlet (po_u I11 l0 10 0) fun I12 => m_X8_find_22L 5000 I12 l0 l1 0
abbrev m_X8_find := @m_X8_find_e
def m_X8_findings_39 (I : po_I) (s0 : Int32) : Option (Int32 × po_I) :=
  some ((s0, I))
def m_X8_findings_e (I : po_I) (l0 : Nat) (l1 : Int32) (l2 : Int32) : Option (Int32 × po_I) :=
  po_hlet (po_u I l0 0 0) fun I1 => Option.bind (m_X8_isPermit I1 l0 l1) fun x2 => if (x2 : Int32) = 0 then (Option.bind (m_X8_fail I1 l0 1) fun x4 => some (((x4.1), x4.2))) else (Option.bind (m_X8_find I1 l0 l1) fun x3 => if (l2 : Int32) = 0 then (m_X8_findings_39 x3 (x3 l0 7)) else (m_X8_findings_39 x3 (x3 l0 8)))
abbrev m_X8_findings := @m_X8_findings_e
def m_X8_finding_109 (I : po_I) (s0 : Int32) : Option (Int32 × po_I) :=
  some ((s0, I))
def m_X8_finding_37 (I : po_I) (l0 : Nat) (l1 : Int32) (l2 : Int32) (l3 : Int32) (s0 : Nat) (s1 : Int32) : Option (Int32 × po_I) :=
  po_hlet (po_u I s0 0 s1) fun I1 => if ((I1 l0 0) : Int32) = 0 then (Option.bind (m_X8_measure I1 l0 l1 l2) fun x2 => Option.bind (m_X8_limit I1 l0 l1 l2) fun x3 => if (l3 : Int32) = 0 then (m_X8_finding_109 I1 x2) else (if (l3 : Int32) = 1 then (m_X8_finding_109 I1 x3) else (Option.bind (m_X8_isWrong l2 x2 x3) fun x4 => if (x4 : Int32) = 0 then (m_X8_finding_109 I1 (-1)) else (Option.bind (m_X8_used I1 l0 l1 l2 x2 x3) fun x5 => m_X8_finding_109 I1 x5)))) else (some ((0, I1)))
def m_X8_finding_32 (I : po_I) (l0 : Nat) (l1 : Int32) (l2 : Int32) (l3 : Int32) (s0 : Nat) : Option (Int32 × po_I) :=
  m_X8_finding_37 I l0 l1 l2 l3 s0 2
def m_X8_finding_e (I : po_I) (l0 : Nat) (l1 : Int32) (l2 : Int32) (l3 : Int32) : Option (Int32 × po_I) :=
  Option.bind (m_X8_isPermit I l0 l1) fun x6 => if (x6 : Int32) = 0 then (m_X8_finding_37 I l0 l1 l2 l3 l0 1) else (Option.bind (m_X8_isIn l2 0 8) fun x7 => if (x7 : Int32) = 0 then (m_X8_finding_32 I l0 l1 l2 l3 l0) else (Option.bind (m_X8_isIn l3 0 2) fun x8 => if (x8 : Int32) = 0 then (m_X8_finding_32 I l0 l1 l2 l3 l0) else (m_X8_finding_37 I l0 l1 l2 l3 l0 0)))
abbrev m_X8_finding := @m_X8_finding_e
def m_X8_bits_4 (r4 : Int32 → Int32 → Option (Int32)) (l1 : Int32) (l2 : Int32) : Option (Int32) :=
  if (l2 : Int32) = 0 then (some l1) else (po_let (l2 &&& (l2 - 1)) fun v1 => r4 (l1 + 1) v1)
def m_X8_bits_4L : Nat → Int32 → Int32 → Option (Int32)
  | 0 => fun _ _ => none
  | n + 1 => m_X8_bits_4 (m_X8_bits_4L n)
def m_X8_bits_e (l0 : Int32) : Option (Int32) :=
  m_X8_bits_4L 5000 0 l0
abbrev m_X8_bits := @m_X8_bits_e
def m_X8_worst_89 (I : po_I) (s0 : Int32) : Option (Int32 × po_I) :=
  some ((s0, I))
def m_X8_worst_69 (r11 : po_I → Nat → Int32 → Int32 → Int32 → Option (Int32 × po_I)) (I : po_I) (l0 : Nat) (l1 : Int32) (l2 : Int32) (l3 : Int32) : Option (Int32 × po_I) :=
  r11 I l0 l1 l2 (l3 + 1)
def m_X8_worst_61 (r11 : po_I → Nat → Int32 → Int32 → Int32 → Option (Int32 × po_I)) (I : po_I) (l0 : Nat) (l2 : Int32) (l3 : Int32) (l4 : Int32) (s0 : Int32) : Option (Int32 × po_I) :=
  po_let (if (l2 : Int32) < l4 then l4 else l2) fun v1 => m_X8_worst_69 r11 I l0 s0 v1 l3
def m_X8_worst_11 (r11 : po_I → Nat → Int32 → Int32 → Int32 → Option (Int32 × po_I)) (I : po_I) (l0 : Nat) (l1 : Int32) (l2 : Int32) (l3 : Int32) : Option (Int32 × po_I) :=
  if ((I (l0 + 1) 2) : Int32) ≤ l3 then (if (l1 : Int32) = (-1) then (Option.bind (m_X8_fail I l0 1) fun x2 => m_X8_worst_89 (x2.2) (x2.1)) else (m_X8_worst_89 I l1)) else (Option.bind (m_X8_stands I l0 l3) fun x3 => if (x3 : Int32) = 0 then (m_X8_worst_69 r11 I l0 l1 l2 l3) else (Option.bind (m_X8_find I l0 l3) fun x4 => Option.bind (m_X8_bits ((x4 l0 7) &&& ((x4 l0 8) ^^^ (-1)))) fun x5 => if (x5 : Int32) ≤ l2 then (m_X8_worst_61 r11 x4 l0 l2 l3 x5 l1) else (m_X8_worst_61 r11 x4 l0 l2 l3 x5 l3)))
def m_X8_worst_11L : Nat → po_I → Nat → Int32 → Int32 → Int32 → Option (Int32 × po_I)
  | 0 => fun _ _ _ _ _ => none
  | n + 1 => m_X8_worst_11 (m_X8_worst_11L n)
def m_X8_worst_e (I : po_I) (l0 : Nat) : Option (Int32 × po_I) :=
  po_hlet (po_u I l0 0 0) fun I6 => m_X8_worst_11L 5000 I6 l0 (-1) 0 0
abbrev m_X8_worst := @m_X8_worst_e
def m_X8_pay_e (I : po_I) (l0 : Nat) (l1 : Int32) (l2 : Int32) : Option (po_I) :=
  Option.bind (m_X8_at I l0 l1 25) fun x1 => Option.bind (m_X8_set I l0 l1 25 (x1 + l2)) fun x2 => some x2
abbrev m_X8_pay := @m_X8_pay_e
def m_X8_lowest_2 (r2 : Int32 → Int32 → Option (Int32)) (l0 : Int32) (l1 : Int32) : Option (Int32) :=
  if (((l0 >>> (l1 &&& 31)) &&& 1) : Int32) = 0 then (r2 l0 (l1 + 1)) else (some l1)
def m_X8_lowest_2L : Nat → Int32 → Int32 → Option (Int32)
  | 0 => fun _ _ => none
  | n + 1 => m_X8_lowest_2 (m_X8_lowest_2L n)
def m_X8_lowest_e (l0 : Int32) : Option (Int32) :=
  m_X8_lowest_2L 5000 l0 0
abbrev m_X8_lowest := @m_X8_lowest_e
def m_X8_giveBack_e (I : po_I) (l0 : Nat) (l1 : Int32) (l2 : Int32) : Option (po_I) :=
  Option.bind (m_X8_at I l0 l1 26) fun x1 => Option.bind (m_X8_set I l0 l1 26 (x1 + l2)) fun x2 => some x2
abbrev m_X8_giveBack := @m_X8_giveBack_e
def m_X8_decide_149 (I : po_I) (l0 : Nat) (l1 : Int32) : Option (Int32 × po_I) :=
  Option.bind (m_X8_at I l0 l1 19) fun x1 => some ((x1, I))
def m_X8_decide_28 (I : po_I) (l0 : Nat) (l1 : Int32) (s0 : Nat) (s1 : Int32) : Option (Int32 × po_I) :=
  po_hlet (po_u I s0 0 s1) fun I2 => if ((I2 l0 0) : Int32) = 0 then (Option.bind (m_X8_call I2 l0) fun x3 => Option.bind (m_X8_find x3 l0 l1) fun x4 => po_let ((x4 l0 7) &&& ((x4 l0 8) ^^^ (-1))) fun v5 => if (v5 : Int32) = 0 then (Option.bind (m_X8_set x4 l0 l1 19 2) fun x11 => Option.bind (m_X8_set x11 l0 l1 24 (x11 l0 9)) fun x12 => Option.bind (m_X8_set x12 l0 l1 22 ((x12 (l0 + 1) 0) + 30)) fun x13 => Option.bind (m_X8_pay x13 l0 l1 (10 * (x13 l0 10))) fun x14 => m_X8_decide_149 x14 l0 l1) else (Option.bind (m_X8_set x4 l0 l1 19 1) fun x6 => Option.bind (m_X8_lowest v5) fun x7 => Option.bind (m_X8_set x6 l0 l1 27 x7) fun x8 => Option.bind (m_X8_floorArea x8 l0 l1) fun x9 => Option.bind (m_X8_giveBack x8 l0 l1 ((20 + x9) / 2)) fun x10 => m_X8_decide_149 x10 l0 l1)) else (some ((0, I2)))
def m_X8_decide_e (I : po_I) (l0 : Nat) (l1 : Int32) : Option (Int32 × po_I) :=
  Option.bind (m_X8_isPermit I l0 l1) fun x15 => if (x15 : Int32) = 0 then (m_X8_decide_28 I l0 l1 l0 1) else (Option.bind (m_X8_at I l0 l1 19) fun x16 => if (x16 : Int32) = 0 then (m_X8_decide_28 I l0 l1 l0 0) else (m_X8_decide_28 I l0 l1 l0 2))
abbrev m_X8_decide := @m_X8_decide_e
def m_X8_reason_50 (I : po_I) (s0 : Int32) : Option (Int32 × po_I) :=
  some ((s0, I))
def m_X8_reason_29 (I : po_I) (l0 : Nat) (l1 : Int32) (s0 : Nat) (s1 : Int32) : Option (Int32 × po_I) :=
  po_hlet (po_u I s0 0 s1) fun I1 => if ((I1 l0 0) : Int32) = 0 then (Option.bind (m_X8_at I1 l0 l1 27) fun x2 => m_X8_reason_50 I1 x2) else (m_X8_reason_50 I1 0)
def m_X8_reason_e (I : po_I) (l0 : Nat) (l1 : Int32) : Option (Int32 × po_I) :=
  Option.bind (m_X8_isPermit I l0 l1) fun x3 => if (x3 : Int32) = 0 then (m_X8_reason_29 I l0 l1 l0 1) else (Option.bind (m_X8_at I l0 l1 19) fun x4 => if (x4 : Int32) = 1 then (m_X8_reason_29 I l0 l1 l0 0) else (m_X8_reason_29 I l0 l1 l0 2))
abbrev m_X8_reason := @m_X8_reason_e
def m_X8_revoke_41 (I : po_I) (l0 : Nat) (l1 : Int32) (s0 : Nat) (s1 : Int32) : Option (Int32 × po_I) :=
  po_hlet (po_u I s0 0 s1) fun I1 => if ((I1 l0 0) : Int32) = 0 then (Option.bind (m_X8_call I1 l0) fun x2 => Option.bind (m_X8_at x2 l0 l1 20) fun x3 => po_let (2 * (4 - x3)) fun v4 => Option.bind (m_X8_set x2 l0 l1 19 5) fun x5 => Option.bind (m_X8_giveBack x5 l0 l1 v4) fun x6 => some ((v4, x6))) else (some ((0, I1)))
def m_X8_revoke_40 (I : po_I) (l0 : Nat) (l1 : Int32) (s0 : Nat) : Option (Int32 × po_I) :=
  m_X8_revoke_41 I l0 l1 s0 0
def m_X8_revoke_e (I : po_I) (l0 : Nat) (l1 : Int32) : Option (Int32 × po_I) :=
  Option.bind (m_X8_isPermit I l0 l1) fun x7 => if (x7 : Int32) = 0 then (m_X8_revoke_41 I l0 l1 l0 1) else (Option.bind (m_X8_at I l0 l1 19) fun x8 => if (x8 : Int32) = 2 then (m_X8_revoke_40 I l0 l1 l0) else (Option.bind (m_X8_at I l0 l1 19) fun x9 => if (x9 : Int32) = 6 then (m_X8_revoke_40 I l0 l1 l0) else (m_X8_revoke_41 I l0 l1 l0 2)))
abbrev m_X8_revoke := @m_X8_revoke_e
def m_X8_group_36 (I : po_I) (s0 : Int32) : Option (Int32) :=
  some s0
def m_X8_group_e (I : po_I) (l0 : Nat) (l1 : Int32) : Option (Int32) :=
  Option.bind (m_X8_at I l0 l1 19) fun x1 => if (x1 : Int32) = 2 then (m_X8_group_36 I 0) else (if (x1 : Int32) = 6 then (m_X8_group_36 I 1) else (if (x1 : Int32) = 0 then (m_X8_group_36 I 2) else (m_X8_group_36 I (-1))))
abbrev m_X8_group := @m_X8_group_e
def m_X8_isAhead_102 (I : po_I) (s0 : Int32) : Option (Int32) :=
  if vp_nar .boolean s0 = s0 then some s0 else none
def m_X8_isAhead_62 (I : po_I) (l0 : Nat) (l1 : Int32) (l2 : Int32) (s0 : Int32) : Option (Int32) :=
  if (s0 : Int32) = 0 then (if (l2 : Int32) ≤ l1 then (m_X8_isAhead_102 I 0) else (m_X8_isAhead_102 I 1)) else (Option.bind (m_X8_at I l0 l1 22) fun x1 => Option.bind (m_X8_at I l0 l2 22) fun x2 => if (x2 : Int32) ≤ x1 then (m_X8_isAhead_102 I 0) else (m_X8_isAhead_102 I 1))
def m_X8_isAhead_61 (I : po_I) (l0 : Nat) (l1 : Int32) (l2 : Int32) : Option (Int32) :=
  m_X8_isAhead_62 I l0 l1 l2 0
def m_X8_isAhead_31 (I : po_I) (s0 : Int32) : Option (Int32) :=
  if vp_nar .boolean s0 = s0 then some s0 else none
def m_X8_isAhead_e (I : po_I) (l0 : Nat) (l1 : Int32) (l2 : Int32) : Option (Int32) :=
  Option.bind (m_X8_group I l0 l1) fun x3 => Option.bind (m_X8_group I l0 l2) fun x4 => if (x3 : Int32) = x4 then (Option.bind (m_X8_group I l0 l1) fun x5 => if (x5 : Int32) = 0 then (Option.bind (m_X8_at I l0 l1 22) fun x6 => Option.bind (m_X8_at I l0 l2 22) fun x7 => if (x6 : Int32) = x7 then (m_X8_isAhead_61 I l0 l1 l2) else (m_X8_isAhead_62 I l0 l1 l2 1)) else (m_X8_isAhead_61 I l0 l1 l2)) else (Option.bind (m_X8_group I l0 l1) fun x8 => Option.bind (m_X8_group I l0 l2) fun x9 => if (x9 : Int32) ≤ x8 then (m_X8_isAhead_31 I 0) else (m_X8_isAhead_31 I 1))
abbrev m_X8_isAhead := @m_X8_isAhead_e
def m_X8_urgent_89 (r7 : po_I → Nat → Int32 → Int32 → Option (Int32 × po_I)) (I : po_I) (l0 : Nat) (l1 : Int32) (l2 : Int32) : Option (Int32 × po_I) :=
  r7 I l0 l1 (l2 + 1)
def m_X8_urgent_65 (r7 : po_I → Nat → Int32 → Int32 → Option (Int32 × po_I)) (r22 : po_I → Nat → Int32 → Int32 → Int32 → Int32 → Option (Int32 × po_I)) (I : po_I) (l0 : Nat) (l1 : Int32) (l2 : Int32) (l4 : Int32) (s0 : Int32) (s1 : Int32) : Option (Int32 × po_I) :=
  po_let (s0 + s1) fun v1 => r22 I l0 l1 l2 v1 (l4 + 1)
def m_X8_urgent_64 (r7 : po_I → Nat → Int32 → Int32 → Option (Int32 × po_I)) (r22 : po_I → Nat → Int32 → Int32 → Int32 → Int32 → Option (Int32 × po_I)) (I : po_I) (l0 : Nat) (l1 : Int32) (l2 : Int32) (l4 : Int32) (s0 : Int32) : Option (Int32 × po_I) :=
  m_X8_urgent_65 r7 r22 I l0 l1 l2 l4 s0 0
def m_X8_urgent_22 (r7 : po_I → Nat → Int32 → Int32 → Option (Int32 × po_I)) (r22 : po_I → Nat → Int32 → Int32 → Int32 → Int32 → Option (Int32 × po_I)) (I : po_I) (l0 : Nat) (l1 : Int32) (l2 : Int32) (l3 : Int32) (l4 : Int32) : Option (Int32 × po_I) :=
  if ((I (l0 + 1) 2) : Int32) ≤ l4 then (Option.bind (m_X8_group I l0 l2) fun x2 => if (x2 : Int32) = (-1) then (m_X8_urgent_89 r7 I l0 l1 l2) else (if (l3 : Int32) = l1 then (some ((l2, I))) else (m_X8_urgent_89 r7 I l0 l1 l2))) else (if (l4 : Int32) = l2 then (m_X8_urgent_64 r7 r22 I l0 l1 l2 l4 l3) else (Option.bind (m_X8_group I l0 l4) fun x3 => if (x3 : Int32) = (-1) then (m_X8_urgent_64 r7 r22 I l0 l1 l2 l4 l3) else (Option.bind (m_X8_isAhead I l0 l4 l2) fun x4 => if (x4 : Int32) = 0 then (m_X8_urgent_64 r7 r22 I l0 l1 l2 l4 l3) else (m_X8_urgent_65 r7 r22 I l0 l1 l2 l4 l3 1))))
def m_X8_urgent_22L (r7 : po_I → Nat → Int32 → Int32 → Option (Int32 × po_I)) : Nat → po_I → Nat → Int32 → Int32 → Int32 → Int32 → Option (Int32 × po_I)
  | 0 => fun _ _ _ _ _ _ => none
  | n + 1 => m_X8_urgent_22 r7 (m_X8_urgent_22L r7 n)
def m_X8_urgent_7 (r7 : po_I → Nat → Int32 → Int32 → Option (Int32 × po_I)) (I : po_I) (l0 : Nat) (l1 : Int32) (l2 : Int32) : Option (Int32 × po_I) :=
  if ((I (l0 + 1) 2) : Int32) ≤ l2 then (Option.bind (m_X8_fail I l0 1) fun x5 => some (((x5.1), x5.2))) else (m_X8_urgent_22L r7 5000 I l0 l1 l2 0 0)
def m_X8_urgent_7L : Nat → po_I → Nat → Int32 → Int32 → Option (Int32 × po_I)
  | 0 => fun _ _ _ _ => none
  | n + 1 => m_X8_urgent_7 (m_X8_urgent_7L n)
def m_X8_urgent_e (I : po_I) (l0 : Nat) (l1 : Int32) : Option (Int32 × po_I) :=
  po_hlet (po_u I l0 0 0) fun I6 => m_X8_urgent_7L 5000 I6 l0 l1 0
abbrev m_X8_urgent := @m_X8_urgent_e
def m_X8_namedBy_4 (I : po_I) (r4 : Nat → Int32 → Int32 → Int32 → Option (Int32)) (l0 : Nat) (l1 : Int32) (l2 : Int32) (l3 : Int32) : Option (Int32) :=
  if ((I (l0 + 1) 2) : Int32) ≤ l3 then (some l2) else (Option.bind (m_X8_at I l0 l3 24) fun x1 => po_let (l2 + ((x1 >>> (l1 &&& 31)) &&& 1)) fun v2 => r4 l0 l1 v2 (l3 + 1))
def m_X8_namedBy_4L (I : po_I) : Nat → Nat → Int32 → Int32 → Int32 → Option (Int32)
  | 0 => fun _ _ _ _ => none
  | n + 1 => m_X8_namedBy_4 I (m_X8_namedBy_4L I n)
def m_X8_namedBy_e (I : po_I) (l0 : Nat) (l1 : Int32) : Option (Int32) :=
  m_X8_namedBy_4L I 5000 l0 l1 0 0
abbrev m_X8_namedBy := @m_X8_namedBy_e
def m_X8_variance_89 (I : po_I) (s0 : Int32) : Option (Int32 × po_I) :=
  some ((s0, I))
def m_X8_variance_35 (I : po_I) (l0 : Nat) (l1 : Int32) (l2 : Int32) (s0 : Nat) (s1 : Int32) : Option (Int32 × po_I) :=
  po_hlet (po_u I s0 0 s1) fun I1 => if ((I1 l0 0) : Int32) = 0 then (if (4 : Int32) ≤ l2 then (if (l2 : Int32) = 4 then (Option.bind (m_X8_namedBy I1 l0 l1) fun x3 => m_X8_variance_89 I1 x3) else (Option.bind (m_X8_isInForce I1 l0 l1) fun x2 => if (x2 : Int32) = 0 then (m_X8_variance_89 I1 0) else (m_X8_variance_89 I1 1))) else (Option.bind (m_X8_variancePart I1 l0 l1 l2) fun x4 => m_X8_variance_89 I1 x4)) else (m_X8_variance_89 I1 0)
def m_X8_variance_e (I : po_I) (l0 : Nat) (l1 : Int32) (l2 : Int32) : Option (Int32 × po_I) :=
  Option.bind (m_X8_isIn l1 0 ((I (l0 + 1) 3) - 1)) fun x5 => if (x5 : Int32) = 0 then (m_X8_variance_35 I l0 l1 l2 l0 1) else (Option.bind (m_X8_isIn l2 0 5) fun x6 => if (x6 : Int32) = 0 then (m_X8_variance_35 I l0 l1 l2 l0 2) else (m_X8_variance_35 I l0 l1 l2 l0 0))
abbrev m_X8_variance := @m_X8_variance_e
def m_X8_needed_108 (I : po_I) (s0 : Int32) : Option (Int32 × po_I) :=
  some ((s0, I))
def m_X8_needed_95 (I : po_I) (l5 : Int32) : Option (Int32 × po_I) :=
  if (l5 : Int32) = 100 then (m_X8_needed_108 I (-1)) else (m_X8_needed_108 I l5)
def m_X8_needed_70 (r70 : po_I → Int32 → Int32 → Int32 → Int32 → Option (Int32 × po_I)) (I : po_I) (l2 : Int32) (l3 : Int32) (l4 : Int32) (l5 : Int32) : Option (Int32 × po_I) :=
  if (100 : Int32) ≤ l5 then (m_X8_needed_95 I l5) else (Option.bind (m_X8_helps l2 l3 l4 l5) fun x1 => if (x1 : Int32) = 0 then (r70 I l2 l3 l4 (l5 + 1)) else (m_X8_needed_95 I l5))
def m_X8_needed_70L : Nat → po_I → Int32 → Int32 → Int32 → Int32 → Option (Int32 × po_I)
  | 0 => fun _ _ _ _ _ => none
  | n + 1 => m_X8_needed_70 (m_X8_needed_70L n)
def m_X8_needed_28 (I : po_I) (l0 : Nat) (l1 : Int32) (l2 : Int32) (s0 : Nat) (s1 : Int32) : Option (Int32 × po_I) :=
  po_hlet (po_u I s0 0 s1) fun I2 => if ((I2 l0 0) : Int32) = 0 then (Option.bind (m_X8_measure I2 l0 l1 l2) fun x3 => Option.bind (m_X8_limit I2 l0 l1 l2) fun x4 => Option.bind (m_X8_isWrong l2 x3 x4) fun x5 => if (x5 : Int32) = 0 then (some ((0, I2))) else (m_X8_needed_70L 5000 I2 l2 x3 x4 1)) else (some ((0, I2)))
def m_X8_needed_e (I : po_I) (l0 : Nat) (l1 : Int32) (l2 : Int32) : Option (Int32 × po_I) :=
  Option.bind (m_X8_isPermit I l0 l1) fun x6 => if (x6 : Int32) = 0 then (m_X8_needed_28 I l0 l1 l2 l0 1) else (Option.bind (m_X8_isIn l2 2 8) fun x7 => if (x7 : Int32) = 0 then (m_X8_needed_28 I l0 l1 l2 l0 2) else (m_X8_needed_28 I l0 l1 l2 l0 0))
abbrev m_X8_needed := @m_X8_needed_e
def m_X8_condition_67 (I : po_I) (s0 : Int32) : Option (Int32 × po_I) :=
  some ((s0, I))
def m_X8_condition_46 (I : po_I) (l0 : Nat) (l1 : Int32) (l2 : Int32) (l3 : Int32) (s0 : Nat) (s1 : Int32) : Option (Int32 × po_I) :=
  po_hlet (po_u I s0 0 s1) fun I1 => if ((I1 l0 0) : Int32) = 0 then (Option.bind (m_X8_conditionPart I1 l0 l1 l2 l3) fun x2 => m_X8_condition_67 I1 x2) else (m_X8_condition_67 I1 0)
def m_X8_condition_e (I : po_I) (l0 : Nat) (l1 : Int32) (l2 : Int32) (l3 : Int32) : Option (Int32 × po_I) :=
  Option.bind (m_X8_isPermit I l0 l1) fun x3 => if (x3 : Int32) = 0 then (m_X8_condition_46 I l0 l1 l2 l3 l0 1) else (Option.bind (m_X8_conditionMany I l0 l1) fun x4 => Option.bind (m_X8_isIn l2 0 (x4 - 1)) fun x5 => if (x5 : Int32) = 0 then (m_X8_condition_46 I l0 l1 l2 l3 l0 1) else (Option.bind (m_X8_isIn l3 0 2) fun x6 => if (x6 : Int32) = 0 then (m_X8_condition_46 I l0 l1 l2 l3 l0 2) else (m_X8_condition_46 I l0 l1 l2 l3 l0 0)))
abbrev m_X8_condition := @m_X8_condition_e
def m_X8_hasOpen_50 (I : po_I) (r6 : Nat → Int32 → Int32 → Int32 → Int32 → Int32 → Option (Int32)) (l0 : Nat) (l1 : Int32) (l2 : Int32) (l3 : Int32) (l5 : Int32) (s0 : Int32) : Option (Int32) :=
  r6 l0 l1 l2 l3 s0 (l5 + 1)
def m_X8_hasOpen_45 (I : po_I) (r6 : Nat → Int32 → Int32 → Int32 → Int32 → Int32 → Option (Int32)) (l0 : Nat) (l1 : Int32) (l2 : Int32) (l3 : Int32) (l5 : Int32) : Option (Int32) :=
  m_X8_hasOpen_50 I r6 l0 l1 l2 l3 l5 1
def m_X8_hasOpen_49 (I : po_I) (r6 : Nat → Int32 → Int32 → Int32 → Int32 → Int32 → Option (Int32)) (l0 : Nat) (l1 : Int32) (l2 : Int32) (l3 : Int32) (l5 : Int32) : Option (Int32) :=
  m_X8_hasOpen_50 I r6 l0 l1 l2 l3 l5 0
def m_X8_hasOpen_6 (I : po_I) (r6 : Nat → Int32 → Int32 → Int32 → Int32 → Int32 → Option (Int32)) (l0 : Nat) (l1 : Int32) (l2 : Int32) (l3 : Int32) (l4 : Int32) (l5 : Int32) : Option (Int32) :=
  Option.bind (m_X8_conditionMany I l0 l1) fun x1 => if (x1 : Int32) ≤ l5 then (if vp_nar .boolean l4 = l4 then some l4 else none) else (if (l4 : Int32) = 0 then (Option.bind (m_X8_conditionPart I l0 l1 l5 2) fun x2 => if (x2 : Int32) = 1 then (Option.bind (m_X8_conditionPart I l0 l1 l5 l2) fun x3 => if (x3 : Int32) = l3 then (m_X8_hasOpen_45 I r6 l0 l1 l2 l3 l5) else (m_X8_hasOpen_49 I r6 l0 l1 l2 l3 l5)) else (m_X8_hasOpen_49 I r6 l0 l1 l2 l3 l5)) else (m_X8_hasOpen_45 I r6 l0 l1 l2 l3 l5))
def m_X8_hasOpen_6L (I : po_I) : Nat → Nat → Int32 → Int32 → Int32 → Int32 → Int32 → Option (Int32)
  | 0 => fun _ _ _ _ _ _ => none
  | n + 1 => m_X8_hasOpen_6 I (m_X8_hasOpen_6L I n)
def m_X8_hasOpen_e (I : po_I) (l0 : Nat) (l1 : Int32) (l2 : Int32) (l3 : Int32) : Option (Int32) :=
  m_X8_hasOpen_6L I 5000 l0 l1 l2 l3 0 0
abbrev m_X8_hasOpen := @m_X8_hasOpen_e
def m_X8_fulfil_81 (r46 : po_I → Nat → Int32 → Int32 → Int32 → Option (Int32 × po_I)) (I : po_I) (l0 : Nat) (l1 : Int32) (l2 : Int32) (l3 : Int32) : Option (Int32 × po_I) :=
  r46 I l0 l1 l2 (l3 + 1)
def m_X8_fulfil_46 (r46 : po_I → Nat → Int32 → Int32 → Int32 → Option (Int32 × po_I)) (I : po_I) (l0 : Nat) (l1 : Int32) (l2 : Int32) (l3 : Int32) : Option (Int32 × po_I) :=
  Option.bind (m_X8_conditionMany I l0 l1) fun x1 => if (x1 : Int32) ≤ l3 then (Option.bind (m_X8_openConditions I l0 l1) fun x2 => some ((x2, I))) else (Option.bind (m_X8_conditionPart I l0 l1 l3 1) fun x3 => if (x3 : Int32) = l2 then (Option.bind (m_X8_conditionPart I l0 l1 l3 0) fun x4 => Option.bind (m_X8_putCondition I l0 l1 l3 x4 l2 0) fun x5 => m_X8_fulfil_81 r46 x5 l0 l1 l2 l3) else (m_X8_fulfil_81 r46 I l0 l1 l2 l3))
def m_X8_fulfil_46L : Nat → po_I → Nat → Int32 → Int32 → Int32 → Option (Int32 × po_I)
  | 0 => fun _ _ _ _ _ => none
  | n + 1 => m_X8_fulfil_46 (m_X8_fulfil_46L n)
def m_X8_fulfil_28 (I : po_I) (l0 : Nat) (l1 : Int32) (l2 : Int32) (s0 : Nat) (s1 : Int32) : Option (Int32 × po_I) :=
  po_hlet (po_u I s0 0 s1) fun I6 => if ((I6 l0 0) : Int32) = 0 then (Option.bind (m_X8_call I6 l0) fun x7 => m_X8_fulfil_46L 5000 x7 l0 l1 l2 0) else (some ((0, I6)))
def m_X8_fulfil_e (I : po_I) (l0 : Nat) (l1 : Int32) (l2 : Int32) : Option (Int32 × po_I) :=
  Option.bind (m_X8_isPermit I l0 l1) fun x8 => if (x8 : Int32) = 0 then (m_X8_fulfil_28 I l0 l1 l2 l0 1) else (Option.bind (m_X8_hasOpen I l0 l1 1 l2) fun x9 => if (x9 : Int32) = 0 then (m_X8_fulfil_28 I l0 l1 l2 l0 2) else (m_X8_fulfil_28 I l0 l1 l2 l0 0))
abbrev m_X8_fulfil := @m_X8_fulfil_e
def m_X8_inspect_183 (I : po_I) (s0 : Nat) (s1 : Int32) (s2 : Int32) (s3 : Int32) : Option (Int32 × po_I) :=
  Option.bind (m_X8_set I s0 s1 s2 s3) fun x1 => some ((1, x1))
def m_X8_inspect_118 (I : po_I) (s0 : Nat) (s1 : Int32) (s2 : Int32) (s3 : Int32) : Option (Int32 × po_I) :=
  Option.bind (m_X8_set I s0 s1 s2 s3) fun x2 => some ((0, x2))
def m_X8_inspect_62 (I : po_I) (l0 : Nat) (l1 : Int32) (s0 : Nat) (s1 : Int32) (s2 : Int32) : Option (Int32 × po_I) :=
  Option.bind (m_X8_pay I s0 s1 s2) fun x3 => Option.bind (m_X8_at x3 l0 l1 20) fun x4 => Option.bind (m_X8_hasOpen x3 l0 l1 0 x4) fun x5 => if (x5 : Int32) = 0 then (Option.bind (m_X8_at x3 l0 l1 20) fun x6 => Option.bind (m_X8_set x3 l0 l1 20 (x6 + 1)) fun x7 => Option.bind (m_X8_set x7 l0 l1 21 0) fun x8 => Option.bind (m_X8_set x8 l0 l1 22 ((x8 (l0 + 1) 0) + 30)) fun x9 => Option.bind (m_X8_at x9 l0 l1 20) fun x10 => if (x10 : Int32) = 4 then (m_X8_inspect_183 x9 l0 l1 19 3) else (m_X8_inspect_183 x9 l0 l1 19 2)) else (Option.bind (m_X8_at x3 l0 l1 21) fun x11 => Option.bind (m_X8_set x3 l0 l1 21 (x11 + 1)) fun x12 => Option.bind (m_X8_at x12 l0 l1 21) fun x13 => if (x13 : Int32) = 3 then (m_X8_inspect_118 x12 l0 l1 19 6) else (m_X8_inspect_118 x12 l0 l1 19 2))
def m_X8_inspect_29 (I : po_I) (l0 : Nat) (l1 : Int32) (s0 : Nat) (s1 : Int32) : Option (Int32 × po_I) :=
  po_hlet (po_u I s0 0 s1) fun I14 => if ((I14 l0 0) : Int32) = 0 then (Option.bind (m_X8_call I14 l0) fun x15 => Option.bind (m_X8_at x15 l0 l1 21) fun x16 => if (x16 : Int32) ≤ 0 then (m_X8_inspect_62 x15 l0 l1 l0 l1 0) else (m_X8_inspect_62 x15 l0 l1 l0 l1 5)) else (some ((0, I14)))
def m_X8_inspect_e (I : po_I) (l0 : Nat) (l1 : Int32) : Option (Int32 × po_I) :=
  Option.bind (m_X8_isPermit I l0 l1) fun x17 => if (x17 : Int32) = 0 then (m_X8_inspect_29 I l0 l1 l0 1) else (Option.bind (m_X8_at I l0 l1 19) fun x18 => if (x18 : Int32) = 2 then (m_X8_inspect_29 I l0 l1 l0 0) else (m_X8_inspect_29 I l0 l1 l0 2))
abbrev m_X8_inspect := @m_X8_inspect_e
def m_X8_reinstate_30 (I : po_I) (l0 : Nat) (l1 : Int32) (s0 : Nat) (s1 : Int32) : Option (Int32 × po_I) :=
  po_hlet (po_u I s0 0 s1) fun I1 => if ((I1 l0 0) : Int32) = 0 then (Option.bind (m_X8_call I1 l0) fun x2 => Option.bind (m_X8_set x2 l0 l1 19 2) fun x3 => Option.bind (m_X8_set x3 l0 l1 21 0) fun x4 => Option.bind (m_X8_set x4 l0 l1 22 ((x4 (l0 + 1) 0) + 30)) fun x5 => Option.bind (m_X8_pay x5 l0 l1 25) fun x6 => Option.bind (m_X8_at x6 l0 l1 20) fun x7 => some ((x7, x6))) else (some ((0, I1)))
def m_X8_reinstate_e (I : po_I) (l0 : Nat) (l1 : Int32) : Option (Int32 × po_I) :=
  Option.bind (m_X8_isPermit I l0 l1) fun x8 => if (x8 : Int32) = 0 then (m_X8_reinstate_30 I l0 l1 l0 1) else (Option.bind (m_X8_at I l0 l1 19) fun x9 => if (x9 : Int32) = 6 then (m_X8_reinstate_30 I l0 l1 l0 0) else (m_X8_reinstate_30 I l0 l1 l0 2))
abbrev m_X8_reinstate := @m_X8_reinstate_e
def m_X8_extend_40 (I : po_I) (l0 : Nat) (l1 : Int32) (s0 : Nat) (s1 : Int32) : Option (Int32 × po_I) :=
  po_hlet (po_u I s0 0 s1) fun I1 => if ((I1 l0 0) : Int32) = 0 then (Option.bind (m_X8_call I1 l0) fun x2 => Option.bind (m_X8_set x2 l0 l1 23 1) fun x3 => Option.bind (m_X8_at x3 l0 l1 22) fun x4 => Option.bind (m_X8_set x3 l0 l1 22 (x4 + 15)) fun x5 => Option.bind (m_X8_pay x5 l0 l1 15) fun x6 => Option.bind (m_X8_at x6 l0 l1 22) fun x7 => some ((x7, x6))) else (some ((0, I1)))
def m_X8_extend_35 (I : po_I) (l0 : Nat) (l1 : Int32) (s0 : Nat) : Option (Int32 × po_I) :=
  m_X8_extend_40 I l0 l1 s0 2
def m_X8_extend_e (I : po_I) (l0 : Nat) (l1 : Int32) : Option (Int32 × po_I) :=
  Option.bind (m_X8_isPermit I l0 l1) fun x8 => if (x8 : Int32) = 0 then (m_X8_extend_40 I l0 l1 l0 1) else (Option.bind (m_X8_at I l0 l1 19) fun x9 => if (x9 : Int32) = 2 then (Option.bind (m_X8_at I l0 l1 23) fun x10 => if (x10 : Int32) = 1 then (m_X8_extend_35 I l0 l1 l0) else (m_X8_extend_40 I l0 l1 l0 0)) else (m_X8_extend_35 I l0 l1 l0))
abbrev m_X8_extend := @m_X8_extend_e
def m_X8_pass_87 (r39 : po_I → Nat → Int32 → Int32 → Option (Int32 × po_I)) (I : po_I) (l0 : Nat) (l2 : Int32) (l3 : Int32) : Option (Int32 × po_I) :=
  r39 I l0 l2 (l3 + 1)
def m_X8_pass_39 (r39 : po_I → Nat → Int32 → Int32 → Option (Int32 × po_I)) (I : po_I) (l0 : Nat) (l2 : Int32) (l3 : Int32) : Option (Int32 × po_I) :=
  if ((I (l0 + 1) 2) : Int32) ≤ l3 then (some ((l2, I))) else (Option.bind (m_X8_at I l0 l3 19) fun x1 => if (x1 : Int32) = 2 then (Option.bind (m_X8_at I l0 l3 22) fun x2 => if ((I (l0 + 1) 0) : Int32) ≤ x2 then (m_X8_pass_87 r39 I l0 l2 l3) else (Option.bind (m_X8_set I l0 l3 19 4) fun x3 => m_X8_pass_87 r39 x3 l0 (l2 + 1) l3)) else (m_X8_pass_87 r39 I l0 l2 l3))
def m_X8_pass_39L : Nat → po_I → Nat → Int32 → Int32 → Option (Int32 × po_I)
  | 0 => fun _ _ _ _ => none
  | n + 1 => m_X8_pass_39 (m_X8_pass_39L n)
def m_X8_pass_e (I : po_I) (l0 : Nat) (l1 : Int32) : Option (Int32 × po_I) :=
  po_hlet (po_u I l0 0 0) fun I4 => Option.bind (m_X8_isIn l1 1 50) fun x5 => if (x5 : Int32) = 0 then (Option.bind (m_X8_fail I4 l0 1) fun x8 => some (((x8.1), x8.2))) else (Option.bind (m_X8_call I4 l0) fun x6 => po_hlet (po_u x6 (l0 + 1) 0 ((x6 (l0 + 1) 0) + l1)) fun I7 => m_X8_pass_39L 5000 I7 l0 0 0)
abbrev m_X8_pass := @m_X8_pass_e
def m_X8_sumOf_39 (I : po_I) (r5 : Nat → Int32 → Int32 → Int32 → Int32 → Option (Int32)) (l0 : Nat) (l1 : Int32) (l2 : Int32) (l4 : Int32) (s0 : Int32) (s1 : Int32) : Option (Int32) :=
  po_let (s0 + s1) fun v1 => r5 l0 l1 l2 v1 (l4 + 1)
def m_X8_sumOf_28 (I : po_I) (r5 : Nat → Int32 → Int32 → Int32 → Int32 → Option (Int32)) (l0 : Nat) (l1 : Int32) (l2 : Int32) (l4 : Int32) (s0 : Int32) : Option (Int32) :=
  Option.bind (m_X8_at I l0 l4 l2) fun x2 => m_X8_sumOf_39 I r5 l0 l1 l2 l4 s0 x2
def m_X8_sumOf_5 (I : po_I) (r5 : Nat → Int32 → Int32 → Int32 → Int32 → Option (Int32)) (l0 : Nat) (l1 : Int32) (l2 : Int32) (l3 : Int32) (l4 : Int32) : Option (Int32) :=
  if ((I (l0 + 1) 2) : Int32) ≤ l4 then (some l3) else (if (l1 : Int32) = (-1) then (m_X8_sumOf_28 I r5 l0 l1 l2 l4 l3) else (if (l1 : Int32) = l4 then (m_X8_sumOf_28 I r5 l0 l1 l2 l4 l3) else (m_X8_sumOf_39 I r5 l0 l1 l2 l4 l3 0)))
def m_X8_sumOf_5L (I : po_I) : Nat → Nat → Int32 → Int32 → Int32 → Int32 → Option (Int32)
  | 0 => fun _ _ _ _ _ => none
  | n + 1 => m_X8_sumOf_5 I (m_X8_sumOf_5L I n)
def m_X8_sumOf_e (I : po_I) (l0 : Nat) (l1 : Int32) (l2 : Int32) : Option (Int32) :=
  m_X8_sumOf_5L I 5000 l0 l1 l2 0 0
abbrev m_X8_sumOf := @m_X8_sumOf_e
def m_X8_account_83 (I : po_I) (s0 : Int32) : Option (Int32 × po_I) :=
  some ((s0, I))
def m_X8_account_32 (I : po_I) (l0 : Nat) (l1 : Int32) (l2 : Int32) (s0 : Nat) (s1 : Int32) : Option (Int32 × po_I) :=
  po_hlet (po_u I s0 0 s1) fun I1 => if ((I1 l0 0) : Int32) = 0 then (Option.bind (m_X8_sumOf I1 l0 l1 25) fun x2 => Option.bind (m_X8_sumOf I1 l0 l1 26) fun x3 => if (l2 : Int32) = 0 then (m_X8_account_83 I1 x2) else (if (l2 : Int32) = 1 then (m_X8_account_83 I1 x3) else (m_X8_account_83 I1 (x2 - x3)))) else (some ((0, I1)))
def m_X8_account_18 (I : po_I) (l0 : Nat) (l1 : Int32) (l2 : Int32) (s0 : Nat) : Option (Int32 × po_I) :=
  Option.bind (m_X8_isIn l2 0 2) fun x4 => if (x4 : Int32) = 0 then (m_X8_account_32 I l0 l1 l2 s0 2) else (m_X8_account_32 I l0 l1 l2 s0 0)
def m_X8_account_e (I : po_I) (l0 : Nat) (l1 : Int32) (l2 : Int32) : Option (Int32 × po_I) :=
  if (l1 : Int32) = (-1) then (m_X8_account_18 I l0 l1 l2 l0) else (Option.bind (m_X8_isPermit I l0 l1) fun x5 => if (x5 : Int32) = 0 then (m_X8_account_32 I l0 l1 l2 l0 1) else (m_X8_account_18 I l0 l1 l2 l0))
abbrev m_X8_account := @m_X8_account_e
def m_X8_counted_52 (I : po_I) (r4 : Nat → Int32 → Int32 → Int32 → Option (Int32)) (l0 : Nat) (l1 : Int32) (l3 : Int32) (s0 : Int32) (s1 : Int32) : Option (Int32) :=
  po_let (s0 + s1) fun v1 => r4 l0 l1 v1 (l3 + 1)
def m_X8_counted_4 (I : po_I) (r4 : Nat → Int32 → Int32 → Int32 → Option (Int32)) (l0 : Nat) (l1 : Int32) (l2 : Int32) (l3 : Int32) : Option (Int32) :=
  if ((I (l0 + 1) 2) : Int32) ≤ l3 then (some l2) else (if (l1 : Int32) = (-1) then (Option.bind (m_X8_stands I l0 l3) fun x3 => if (x3 : Int32) = 0 then (m_X8_counted_52 I r4 l0 l1 l3 l2 0) else (m_X8_counted_52 I r4 l0 l1 l3 l2 1)) else (Option.bind (m_X8_at I l0 l3 19) fun x2 => if (x2 : Int32) = l1 then (m_X8_counted_52 I r4 l0 l1 l3 l2 1) else (m_X8_counted_52 I r4 l0 l1 l3 l2 0)))
def m_X8_counted_4L (I : po_I) : Nat → Nat → Int32 → Int32 → Int32 → Option (Int32)
  | 0 => fun _ _ _ _ => none
  | n + 1 => m_X8_counted_4 I (m_X8_counted_4L I n)
def m_X8_counted_e (I : po_I) (l0 : Nat) (l1 : Int32) : Option (Int32) :=
  m_X8_counted_4L I 5000 l0 l1 0 0
abbrev m_X8_counted := @m_X8_counted_e
noncomputable def m_X8_meanFloorArea_69 (I : po_I) (s0 : UInt32) : Option (UInt32 × po_I) :=
  some ((s0, I))
noncomputable def m_X8_meanFloorArea_43 (r15 : po_I → Nat → Int32 → Int32 → Int32 → Option (UInt32 × po_I)) (I : po_I) (l0 : Nat) (l1 : Int32) (l3 : Int32) (s0 : Int32) (s1 : Int32) : Option (UInt32 × po_I) :=
  po_let (s0 + s1) fun v1 => r15 I l0 l1 v1 (l3 + 1)
noncomputable def m_X8_meanFloorArea_15 (r15 : po_I → Nat → Int32 → Int32 → Int32 → Option (UInt32 × po_I)) (I : po_I) (l0 : Nat) (l1 : Int32) (l2 : Int32) (l3 : Int32) : Option (UInt32 × po_I) :=
  if ((I (l0 + 1) 2) : Int32) ≤ l3 then (if (l1 : Int32) = 0 then (Option.bind (m_X8_fail I l0 1) fun x2 => m_X8_meanFloorArea_69 (x2.2) (FP.i2f (x2.1))) else (po_gn (vf_n32 (FP.fdiv (FP.i2f l2) (FP.i2f l1))) (m_X8_meanFloorArea_69 I (FP.fdiv (FP.i2f l2) (FP.i2f l1))))) else (Option.bind (m_X8_stands I l0 l3) fun x3 => if (x3 : Int32) = 0 then (m_X8_meanFloorArea_43 r15 I l0 l1 l3 l2 0) else (Option.bind (m_X8_floorArea I l0 l3) fun x4 => m_X8_meanFloorArea_43 r15 I l0 l1 l3 l2 x4))
noncomputable def m_X8_meanFloorArea_15L : Nat → po_I → Nat → Int32 → Int32 → Int32 → Option (UInt32 × po_I)
  | 0 => fun _ _ _ _ _ => none
  | n + 1 => m_X8_meanFloorArea_15 (m_X8_meanFloorArea_15L n)
noncomputable def m_X8_meanFloorArea_e (I : po_I) (l0 : Nat) : Option (UInt32 × po_I) :=
  po_hlet (po_u I l0 0 0) fun I5 => Option.bind (m_X8_counted I5 l0 (-1)) fun x6 => m_X8_meanFloorArea_15L 5000 I5 l0 x6 0 0
noncomputable abbrev m_X8_meanFloorArea := @m_X8_meanFloorArea_e
def m_X8_cellsInLots_4 (I : po_I) (r4 : Nat → Int32 → Int32 → Option (Int32)) (l0 : Nat) (l1 : Int32) (l2 : Int32) : Option (Int32) :=
  if ((I (l0 + 1) 1) : Int32) ≤ l2 then (some l1) else (Option.bind (m_X8_lotCells I l0 l2) fun x1 => po_let (l1 + x1) fun v2 => r4 l0 v2 (l2 + 1))
def m_X8_cellsInLots_4L (I : po_I) : Nat → Nat → Int32 → Int32 → Option (Int32)
  | 0 => fun _ _ _ => none
  | n + 1 => m_X8_cellsInLots_4 I (m_X8_cellsInLots_4L I n)
def m_X8_cellsInLots_e (I : po_I) (l0 : Nat) : Option (Int32) :=
  m_X8_cellsInLots_4L I 5000 l0 0 0
abbrev m_X8_cellsInLots := @m_X8_cellsInLots_e
def m_X8_count_e (I : po_I) (l0 : Nat) (l1 : Int32) : Option (Int32 × po_I) :=
  po_hlet (po_u I l0 0 0) fun I1 => Option.bind (m_X8_isIn l1 10 16) fun x2 => if (x2 : Int32) = 0 then (if (l1 : Int32) = 0 then (some (((I1 (l0 + 1) 1), I1))) else (if (l1 : Int32) = 1 then (some (((I1 (l0 + 1) 2), I1))) else (if (l1 : Int32) = 2 then (some (((I1 (l0 + 1) 3), I1))) else (if (l1 : Int32) = 3 then (some (((I1 (l0 + 1) 0), I1))) else (if (l1 : Int32) = 4 then (Option.bind (m_X8_counted I1 l0 (-1)) fun x3 => some ((x3, I1))) else (if (l1 : Int32) = 5 then (Option.bind (m_X8_cellsInLots I1 l0) fun x4 => some ((x4, I1))) else (if (l1 : Int32) = 6 then (some (((I1 l0 3), I1))) else (if (l1 : Int32) = 7 then (some (((I1 l0 12), I1))) else (Option.bind (m_X8_fail I1 l0 1) fun x5 => some (((x5.1), x5.2))))))))))) else (Option.bind (m_X8_counted I1 l0 (l1 - 10)) fun x6 => some ((x6, I1)))
abbrev m_X8_count := @m_X8_count_e
def m_X8_undo_30 (r30 : po_I → Nat → Int32 → Option (Int32 × po_I)) (I : po_I) (l0 : Nat) (l1 : Int32) : Option (Int32 × po_I) :=
  if (668 : Int32) ≤ l1 then (some (((I l0 3), I))) else (if po_in ((668 * (I l0 3)) + l1) 4008 = true then if po_in l1 668 = true then po_hlet (po_u I (l0 + 1) (Int32.toNatClampNeg l1) (I (l0 + 2) (Int32.toNatClampNeg ((668 * (I l0 3)) + l1)))) fun I1 => r30 I1 l0 (l1 + 1) else none else none)
def m_X8_undo_30L : Nat → po_I → Nat → Int32 → Option (Int32 × po_I)
  | 0 => fun _ _ _ => none
  | n + 1 => m_X8_undo_30 (m_X8_undo_30L n)
def m_X8_undo_e (I : po_I) (l0 : Nat) : Option (Int32 × po_I) :=
  po_hlet (po_u I l0 0 0) fun I2 => if ((I2 l0 3) : Int32) = 0 then (Option.bind (m_X8_fail I2 l0 1) fun x4 => some (((x4.1), x4.2))) else (po_hlet (po_u I2 l0 3 ((I2 l0 3) - 1)) fun I3 => m_X8_undo_30L 5000 I3 l0 0)
abbrev m_X8_undo := @m_X8_undo_e
def m_X8_save_e (I : po_I) (l0 : Nat) : Option (Int32 × po_I) :=
  po_hlet (po_u I l0 0 0) fun I1 => po_hlet (po_u I1 l0 6 1) fun I2 => Option.bind (m_X8_copy I2 (l0 + 1) (l0 + 4)) fun x3 => some (((x3 (l0 + 1) 2), x3))
abbrev m_X8_save := @m_X8_save_e
def m_X8_restore_e (I : po_I) (l0 : Nat) : Option (Int32 × po_I) :=
  po_hlet (po_u I l0 0 0) fun I1 => if ((vp_nar .boolean (I1 l0 6)) : Int32) = 0 then (Option.bind (m_X8_fail I1 l0 1) fun x4 => some (((x4.1), x4.2))) else (po_hlet (po_u I1 l0 3 0) fun I2 => Option.bind (m_X8_copy I2 (l0 + 4) (l0 + 1)) fun x3 => some (((x3 (l0 + 1) 2), x3)))
abbrev m_X8_restore := @m_X8_restore_e
def m_X8_thrown_e (I : po_I) (l0 : Nat) : Option (Int32) :=
  some (I l0 0)
abbrev m_X8_thrown := @m_X8_thrown_e
section KR
variable {K : po_K} {R : po_R} {I : po_I} {st : Nat → Nat}
theorem kr_X5_lotAt (HL : po_Lay K R st) {l0 : Nat} {l1 : Int32} (kl0 : K l0 = (16, 8)) {x : Nat} (hx : m_X5_lotAt I l0 l1 = some x) : K x = (12, 4) := by
  have h0 : K (l0 + (5 + 3 * 0)) = (12, 4) := (le_5_2 HL kl0 (j := 0) (by decide)).2
  unfold m_X5_lotAt m_X5_lotAt_e m_X5_lotAt_21 m_X5_lotAt_27 at hx
  by_cases c1 : l1 < 0
  · rw [if_pos c1] at hx; cases hx; exact h0
  · rw [if_neg c1] at hx
    by_cases c2 : I l0 3 ≤ l1
    · rw [if_pos c2] at hx; cases hx; exact h0
    · rw [if_neg c2] at hx
      obtain ⟨hi, hx⟩ := po_if hx
      cases hx
      exact (le_5_2 HL kl0 (po_in_lt hi)).2
theorem kr_X7_lotOrThrow (HL : po_Lay K R st) {l0 : Nat} {l1 : Int32} (kl0 : K l0 = (18, 8)) {x : Nat} (hx : m_X7_lotOrThrow I l0 l1 = some (.inl x)) : K x = (12, 4) := by
  unfold m_X7_lotOrThrow m_X7_lotOrThrow_e m_X7_lotOrThrow_15 at hx
  by_cases c1 : l1 < 0
  · rw [if_pos c1] at hx; cases hx
  · rw [if_neg c1] at hx
    by_cases c2 : l1 < I (l0 + 8) 3
    · rw [if_pos c2] at hx
      obtain ⟨hi, hx⟩ := po_if hx
      cases hx
      exact (le_5_2 HL (ly_7_2 HL kl0).2 (po_in_lt hi)).2
    · rw [if_neg c2] at hx; cases hx
theorem kr_X7_permitOrThrow (HL : po_Lay K R st) {l0 : Nat} {l1 : Int32} (kl0 : K l0 = (18, 8)) {x : Nat} (hx : m_X7_permitOrThrow I l0 l1 = some (.inl x)) : K x = (13, 19) := by
  unfold m_X7_permitOrThrow m_X7_permitOrThrow_e m_X7_permitOrThrow_15 at hx
  by_cases c1 : l1 < 0
  · rw [if_pos c1] at hx; cases hx
  · rw [if_neg c1] at hx
    by_cases c2 : l1 < I (l0 + 8) 5
    · rw [if_pos c2] at hx
      obtain ⟨hi, hx⟩ := po_if hx
      cases hx
      exact (le_5_4 HL (ly_7_2 HL kl0).2 (po_in_lt hi)).2
    · rw [if_neg c2] at hx; cases hx
theorem lr_X7_remember_56 (HL : po_Lay K R st) {l0 : Nat} {x : po_I × po_R} (hx : m_X7_remember_56 I R l0 = some x) : po_Lay K x.2 st := by
  unfold m_X7_remember_56 at hx
  obtain ⟨-, hx⟩ := po_if hx
  obtain ⟨y, -, hx⟩ := po_bind hx
  unfold po_hlet at hx
  cases hx
  exact HL
theorem lr_X7_remember_18 : ∀ (n : Nat) (I : po_I) (R : po_R) (l0 l1 : Nat) (l2 : Int32) (x : po_I × po_R), m_X7_remember_18L n I R l0 l1 l2 = some x → po_Lay K R st → K l0 = (18, 8) → K l1 = (16, 8) → po_Lay K x.2 st := by
  intro n
  induction n with
  | zero => intro I R l0 l1 l2 x hx; cases hx
  | succ n ih =>
    intro I R l0 l1 l2 x hx HL kl0 kl1
    have hx : m_X7_remember_18 (m_X7_remember_18L n) I R l0 l1 l2 = some x := hx
    unfold m_X7_remember_18 at hx
    by_cases c : (6 : Int32) ≤ l2
    · rw [if_pos c] at hx
      exact lr_X7_remember_56 (ly_put HL kl0 kl1 (by decide)) hx
    · rw [if_neg c] at hx
      obtain ⟨h1, hx⟩ := po_if hx
      obtain ⟨h2, hx⟩ := po_if hx
      exact ih _ _ _ _ _ _ hx (ly_put HL kl0 (le_7_6 HL kl0 (po_in_lt h1)).2 (po_in_lt h2)) kl0 kl1
theorem lr_X7_remember (HL : po_Lay K R st) {l0 : Nat} (kl0 : K l0 = (18, 8)) {x : po_I × po_R} (hx : m_X7_remember I R l0 = some x) : po_Lay K x.2 st := by
  unfold m_X7_remember m_X7_remember_e at hx
  by_cases c : I l0 7 < 6
  · rw [if_pos c] at hx
    exact lr_X7_remember_56 HL hx
  · rw [if_neg c] at hx
    exact lr_X7_remember_18 _ _ _ _ _ _ _ hx HL kl0 (le_7_6 HL kl0 (j := 0) (by decide)).2
end KR
