def m_X3_addCharacter_36 (I : po_I) : Option (po_I) :=
  some I
def m_X3_addCharacter_e (I : po_I) (l0 : Nat) (l1 : Int32) : Option (po_I) :=
  if ((I l0 1) : Int32) < 0 then (m_X3_addCharacter_36 I) else (if (60 : Int32) ≤ (I l0 1) then (m_X3_addCharacter_36 I) else (if po_in (I l0 1) 60 = true then po_hlet (po_u I (l0 + 1) (Int32.toNatClampNeg (I l0 1)) l1) fun I1 => po_hlet (po_u I1 l0 1 ((I1 l0 1) + 1)) fun I2 => m_X3_addCharacter_36 I2 else none))
abbrev m_X3_addCharacter := @m_X3_addCharacter_e
def m_X7_append_116 (r88 : po_I → Nat → Int32 → Int32 → Option ((Int32 ⊕ String) × po_I)) (I : po_I) (l0 : Nat) (l1 : Int32) (l3 : Int32) : Option ((Int32 ⊕ String) × po_I) :=
  r88 I l0 l1 (l3 + (-8))
def m_X7_append_88 (r88 : po_I → Nat → Int32 → Int32 → Option ((Int32 ⊕ String) × po_I)) (I : po_I) (l0 : Nat) (l1 : Int32) (l3 : Int32) : Option ((Int32 ⊕ String) × po_I) :=
  if (l3 : Int32) < 0 then (some (((.inl (I (l0 + 1) 1)), I))) else (po_let (((Int32.toUInt32 l1 >>> (Int32.toUInt32 l3 &&& Int32.toUInt32 31)).toInt32) &&& 255) fun v1 => if (v1 : Int32) = 0 then (m_X7_append_116 r88 I l0 l1 l3) else (Option.bind (m_X3_addCharacter I (l0 + 1) ((Int32.toUInt32 v1 % 65536).toInt32)) fun x2 => m_X7_append_116 r88 x2 l0 l1 l3))
def m_X7_append_88L : Nat → po_I → Nat → Int32 → Int32 → Option ((Int32 ⊕ String) × po_I)
  | 0 => fun _ _ _ _ => none
  | n + 1 => m_X7_append_88 (m_X7_append_88L n)
def m_X7_append_55 (r5 : po_I → Nat → Int32 → Int32 → Int32 → Option ((Int32 ⊕ String) × po_I)) (I : po_I) (l0 : Nat) (l1 : Int32) (l2 : Int32) (l3 : Int32) : Option ((Int32 ⊕ String) × po_I) :=
  r5 I l0 l1 l2 (l3 + (-8))
def m_X7_append_47 (r5 : po_I → Nat → Int32 → Int32 → Int32 → Option ((Int32 ⊕ String) × po_I)) (I : po_I) (l0 : Nat) (l1 : Int32) (l2 : Int32) (l3 : Int32) (l4 : Int32) : Option ((Int32 ⊕ String) × po_I) :=
  if (l4 : Int32) = 0 then (m_X7_append_55 r5 I l0 l1 l2 l3) else (m_X7_append_55 r5 I l0 l1 (l2 + 1) l3)
def m_X7_append_37 (I : po_I) : Option ((Int32 ⊕ String) × po_I) :=
  some (((.inr "java/lang/IllegalArgumentException"), I))
def m_X7_append_5 (r5 : po_I → Nat → Int32 → Int32 → Int32 → Option ((Int32 ⊕ String) × po_I)) (I : po_I) (l0 : Nat) (l1 : Int32) (l2 : Int32) (l3 : Int32) : Option ((Int32 ⊕ String) × po_I) :=
  if (l3 : Int32) < 0 then (if (((I (l0 + 1) 1) + l2) : Int32) ≤ 60 then (m_X7_append_88L 5000 I l0 l1 24) else (some (((.inr "java/lang/IllegalStateException"), I)))) else (po_let (((Int32.toUInt32 l1 >>> (Int32.toUInt32 l3 &&& Int32.toUInt32 31)).toInt32) &&& 255) fun v3 => if (v3 : Int32) = 0 then (m_X7_append_47 r5 I l0 l1 l2 l3 v3) else (if (v3 : Int32) < 33 then (m_X7_append_37 I) else (if (v3 : Int32) ≤ 126 then (m_X7_append_47 r5 I l0 l1 l2 l3 v3) else (m_X7_append_37 I))))
def m_X7_append_5L : Nat → po_I → Nat → Int32 → Int32 → Int32 → Option ((Int32 ⊕ String) × po_I)
  | 0 => fun _ _ _ _ _ => none
  | n + 1 => m_X7_append_5 (m_X7_append_5L n)
def m_X7_append_e (I : po_I) (l0 : Nat) (l1 : Int32) : Option ((Int32 ⊕ String) × po_I) :=
  m_X7_append_5L 5000 I l0 l1 0 24
abbrev m_X7_append := @m_X7_append_e
def m_X0_copyFrom_e (I : po_I) (l0 : Nat) (l1 : Nat) : Option (po_I) :=
  po_hlet (po_cp I (l1 + 1) (l0 + 1) 14) fun I1 => some I1
abbrev m_X0_copyFrom := @m_X0_copyFrom_e
def m_X1_copyFrom_e (I : po_I) (l0 : Nat) (l1 : Nat) : Option (po_I) :=
  po_hlet (po_u I l0 0 (I l1 0)) fun I1 => po_hlet (po_u I1 l0 1 (I1 l1 1)) fun I2 => Option.bind (m_X0_copyFrom I2 (l0 + 1) (l1 + 1)) fun x3 => po_hlet (po_u x3 l0 3 (x3 l1 3)) fun I4 => some I4
abbrev m_X1_copyFrom := @m_X1_copyFrom_e
def m_X2_copyFrom_e (I : po_I) (l0 : Nat) (l1 : Nat) : Option (po_I) :=
  po_hlet (po_u I l0 0 (I l1 0)) fun I1 => po_hlet (po_u I1 l0 1 (I1 l1 1)) fun I2 => po_hlet (po_u I2 l0 2 (I2 l1 2)) fun I3 => po_hlet (po_u I3 l0 3 (I3 l1 3)) fun I4 => Option.bind (m_X0_copyFrom I4 (l0 + 1) (l1 + 1)) fun x5 => po_hlet (po_u x5 l0 5 (x5 l1 5)) fun I6 => po_hlet (po_u I6 l0 6 (I6 l1 6)) fun I7 => po_hlet (po_u I7 l0 7 (I7 l1 7)) fun I8 => po_hlet (po_u I8 l0 8 (I8 l1 8)) fun I9 => po_hlet (po_u I9 l0 9 (I9 l1 9)) fun I10 => po_hlet (po_u I10 l0 10 (I10 l1 10)) fun I11 => po_hlet (po_u I11 l0 11 (vp_nar .boolean (I11 l1 11))) fun I12 => po_hlet (po_u I12 l0 12 (I12 l1 12)) fun I13 => po_hlet (po_u I13 l0 13 (I13 l1 13)) fun I14 => po_hlet (po_u I14 l0 14 (I14 l1 14)) fun I15 => po_hlet (po_u I15 l0 15 (I15 l1 15)) fun I16 => po_hlet (po_u I16 l0 16 (I16 l1 16)) fun I17 => po_hlet (po_cp I17 (l1 + 3) (l0 + 3) 6) fun I18 => po_hlet (po_cp I18 (l1 + 4) (l0 + 4) 6) fun I19 => some I19
abbrev m_X2_copyFrom := @m_X2_copyFrom_e
def m_X6_copyFrom_e (I : po_I) (l0 : Nat) (l1 : Nat) : Option (po_I) :=
  po_hlet (po_u I l0 0 (I l1 0)) fun I1 => po_hlet (po_u I1 l0 1 (I1 l1 1)) fun I2 => po_hlet (po_u I2 l0 2 (I2 l1 2)) fun I3 => po_hlet (po_u I3 l0 3 (I3 l1 3)) fun I4 => some I4
abbrev m_X6_copyFrom := @m_X6_copyFrom_e
def m_X5_copyFrom_111 (r111 : po_I → Nat → Nat → Int32 → Option (po_I)) (I : po_I) (l0 : Nat) (l1 : Nat) (l2 : Int32) : Option (po_I) :=
  if ((I l0 7) : Int32) ≤ l2 then (some I) else (if po_in l2 12 = true then if po_in l2 12 = true then Option.bind (m_X6_copyFrom I (l0 + (79 + (Int32.toNatClampNeg l2))) (l1 + (79 + (Int32.toNatClampNeg l2)))) fun x3 => r111 x3 l0 l1 (l2 + 1) else none else none)
def m_X5_copyFrom_111L : Nat → po_I → Nat → Nat → Int32 → Option (po_I)
  | 0 => fun _ _ _ _ => none
  | n + 1 => m_X5_copyFrom_111 (m_X5_copyFrom_111L n)
def m_X5_copyFrom_72 (r72 : po_I → Nat → Nat → Int32 → Option (po_I)) (I : po_I) (l0 : Nat) (l1 : Nat) (l2 : Int32) : Option (po_I) :=
  if ((I l0 5) : Int32) ≤ l2 then (po_hlet (po_u I l0 7 (I l1 7)) fun I4 => m_X5_copyFrom_111L 5000 I4 l0 l1 0) else (if po_in l2 10 = true then if po_in l2 10 = true then Option.bind (m_X2_copyFrom I (l0 + (29 + 5 * (Int32.toNatClampNeg l2))) (l1 + (29 + 5 * (Int32.toNatClampNeg l2)))) fun x7 => r72 x7 l0 l1 (l2 + 1) else none else none)
def m_X5_copyFrom_72L : Nat → po_I → Nat → Nat → Int32 → Option (po_I)
  | 0 => fun _ _ _ _ => none
  | n + 1 => m_X5_copyFrom_72 (m_X5_copyFrom_72L n)
def m_X5_copyFrom_33 (r33 : po_I → Nat → Nat → Int32 → Option (po_I)) (I : po_I) (l0 : Nat) (l1 : Nat) (l2 : Int32) : Option (po_I) :=
  if ((I l0 3) : Int32) ≤ l2 then (po_hlet (po_u I l0 5 (I l1 5)) fun I8 => m_X5_copyFrom_72L 5000 I8 l0 l1 0) else (if po_in l2 8 = true then if po_in l2 8 = true then Option.bind (m_X1_copyFrom I (l0 + (5 + 3 * (Int32.toNatClampNeg l2))) (l1 + (5 + 3 * (Int32.toNatClampNeg l2)))) fun x11 => r33 x11 l0 l1 (l2 + 1) else none else none)
def m_X5_copyFrom_33L : Nat → po_I → Nat → Nat → Int32 → Option (po_I)
  | 0 => fun _ _ _ _ => none
  | n + 1 => m_X5_copyFrom_33 (m_X5_copyFrom_33L n)
def m_X5_copyFrom_e (I : po_I) (l0 : Nat) (l1 : Nat) : Option (po_I) :=
  po_hlet (po_u I l0 0 (I l1 0)) fun I12 => po_hlet (po_cp I12 (l1 + 1) (l0 + 1) 28) fun I13 => po_hlet (po_u I13 l0 3 (I13 l1 3)) fun I14 => m_X5_copyFrom_33L 5000 I14 l0 l1 0
abbrev m_X5_copyFrom := @m_X5_copyFrom_e
def m_X3_next_40 (I : po_I) (s0 : Int32) : Option (Int32) :=
  some s0
def m_X3_next_39 (I : po_I) : Option (Int32) :=
  m_X3_next_40 I 0
def m_X3_next_e (I : po_I) (l0 : Nat) : Option (Int32) :=
  if ((I l0 2) : Int32) < 0 then (m_X3_next_39 I) else (if ((I l0 1) : Int32) ≤ (I l0 2) then (m_X3_next_39 I) else (if (60 : Int32) ≤ (I l0 2) then (m_X3_next_39 I) else (if po_in (I l0 2) 60 = true then m_X3_next_40 I (vp_nar .char (I (l0 + 1) (Int32.toNatClampNeg (I l0 2)))) else none)))
abbrev m_X3_next := @m_X3_next_e
def m_X3_failAt_e (I : po_I) (l0 : Nat) (l1 : Int32) : Option (Int32 × po_I) :=
  po_hlet (po_u I l0 3 l1) fun I1 => some ((0, I1))
abbrev m_X3_failAt := @m_X3_failAt_e
def m_X3_readValue_20 (I : po_I) (l0 : Nat) : Option (Int32 × po_I) :=
  Option.bind (m_X3_failAt I l0 (I l0 2)) fun x1 => some (((-1), x1.2))
def m_X3_readValue_e (I : po_I) (l0 : Nat) (l1 : Int32) (l2 : Int32) (l3 : Int32) : Option (Int32 × po_I) :=
  Option.bind (m_X3_next I l0) fun x2 => po_let (x2 - l1) fun v3 => if (v3 : Int32) < l2 then (m_X3_readValue_20 I l0) else (if (v3 : Int32) ≤ l3 then (po_hlet (po_u I l0 2 ((I l0 2) + 1)) fun I4 => some ((v3, I4))) else (m_X3_readValue_20 I l0))
abbrev m_X3_readValue := @m_X3_readValue_e
def m_X3_readFront_e (I : po_I) (l0 : Nat) : Option (Int32 × po_I) :=
  Option.bind (m_X3_next I l0) fun x1 => po_hlet (po_u I l0 2 ((I l0 2) + 1)) fun I2 => if (x1 : Int32) = 69 then (some ((1, I2))) else (if (x1 : Int32) = 78 then (some ((0, I2))) else (if (x1 : Int32) = 83 then (some ((2, I2))) else (if (x1 : Int32) = 87 then (some ((3, I2))) else (Option.bind (m_X3_failAt I2 l0 ((I2 l0 2) - 1)) fun x3 => some (((-1), x3.2))))))
abbrev m_X3_readFront := @m_X3_readFront_e
def m_X0_clear_2 (r2 : po_I → Nat → Int32 → Option (po_I)) (I : po_I) (l0 : Nat) (l1 : Int32) : Option (po_I) :=
  if (14 : Int32) ≤ l1 then (some I) else (if po_in l1 14 = true then po_hlet (po_u I (l0 + 1) (Int32.toNatClampNeg l1) 0) fun I1 => r2 I1 l0 (l1 + 1) else none)
def m_X0_clear_2L : Nat → po_I → Nat → Int32 → Option (po_I)
  | 0 => fun _ _ _ => none
  | n + 1 => m_X0_clear_2 (m_X0_clear_2L n)
def m_X0_clear_e (I : po_I) (l0 : Nat) : Option (po_I) :=
  m_X0_clear_2L 5000 I l0 0
abbrev m_X0_clear := @m_X0_clear_e
def m_X0_addRectangle_46 (r12 : po_I → Nat → Int32 → Int32 → Int32 → Int32 → Option (po_I)) (I : po_I) (l0 : Nat) (l2 : Int32) (l4 : Int32) (l5 : Int32) (l6 : Int32) : Option (po_I) :=
  r12 I l0 l2 l4 l5 (l6 + 1)
def m_X0_addRectangle_12 (r12 : po_I → Nat → Int32 → Int32 → Int32 → Int32 → Option (po_I)) (I : po_I) (l0 : Nat) (l2 : Int32) (l4 : Int32) (l5 : Int32) (l6 : Int32) : Option (po_I) :=
  if (14 : Int32) ≤ l6 then (some I) else (if (l6 : Int32) < l2 then (m_X0_addRectangle_46 r12 I l0 l2 l4 l5 l6) else (if ((l2 + l4) : Int32) ≤ l6 then (m_X0_addRectangle_46 r12 I l0 l2 l4 l5 l6) else (if po_in l6 14 = true then if po_in l6 14 = true then po_hlet (po_u I (l0 + 1) (Int32.toNatClampNeg l6) ((I (l0 + 1) (Int32.toNatClampNeg l6)) ||| l5)) fun I1 => m_X0_addRectangle_46 r12 I1 l0 l2 l4 l5 l6 else none else none)))
def m_X0_addRectangle_12L : Nat → po_I → Nat → Int32 → Int32 → Int32 → Int32 → Option (po_I)
  | 0 => fun _ _ _ _ _ _ => none
  | n + 1 => m_X0_addRectangle_12 (m_X0_addRectangle_12L n)
def m_X0_addRectangle_e (I : po_I) (l0 : Nat) (l1 : Int32) (l2 : Int32) (l3 : Int32) (l4 : Int32) : Option (po_I) :=
  po_let (((1 <<< (l3 &&& 31)) - 1) <<< (l1 &&& 31)) fun v2 => m_X0_addRectangle_12L 5000 I l0 l2 l4 v2 0
abbrev m_X0_addRectangle := @m_X0_addRectangle_e
def m_X3_readRectangle_98 (I : po_I) (l0 : Nat) (l2 : Int32) : Option (Int32 × po_I) :=
  Option.bind (m_X3_failAt I l0 l2) fun x1 => if vp_nar .boolean (x1.1) = (x1.1) then some (((x1.1), x1.2)) else none
def m_X3_readRectangle_e (I : po_I) (l0 : Nat) (l1 : Nat) : Option (Int32 × po_I) :=
  po_let (I l0 2) fun v2 => Option.bind (m_X3_readValue I l0 97 0 19) fun x3 => po_let (x3.1) fun v4 => if (v4 : Int32) = (-1) then (some ((0, x3.2))) else (Option.bind (m_X3_readValue (x3.2) l0 97 0 13) fun x5 => po_let (x5.1) fun v6 => if (v6 : Int32) = (-1) then (some ((0, x5.2))) else (Option.bind (m_X3_readValue (x5.2) l0 48 1 9) fun x7 => po_let (x7.1) fun v8 => if (v8 : Int32) = (-1) then (some ((0, x7.2))) else (Option.bind (m_X3_readValue (x7.2) l0 48 1 9) fun x9 => po_let (x9.1) fun v10 => if (v10 : Int32) = (-1) then (some ((0, x9.2))) else (if (20 : Int32) < (v4 + v8) then (m_X3_readRectangle_98 (x9.2) l0 v2) else (if ((v6 + v10) : Int32) ≤ 14 then (Option.bind (m_X0_addRectangle (x9.2) l1 v4 v6 v8 v10) fun x11 => some ((1, x11))) else (m_X3_readRectangle_98 (x9.2) l0 v2))))))
abbrev m_X3_readRectangle := @m_X3_readRectangle_e
def m_X3_readArea_40 (I : po_I) : Option (Int32 × po_I) :=
  some ((1, I))
def m_X3_readArea_24 (r6 : po_I → Nat → Nat → Int32 → Option (Int32 × po_I)) (I : po_I) (l0 : Nat) (l1 : Nat) (l2 : Int32) : Option (Int32 × po_I) :=
  Option.bind (m_X3_readRectangle I l0 l1) fun x1 => if ((x1.1) : Int32) = 0 then (some ((0, x1.2))) else (r6 (x1.2) l0 l1 (l2 + 1))
def m_X3_readArea_6 (r6 : po_I → Nat → Nat → Int32 → Option (Int32 × po_I)) (I : po_I) (l0 : Nat) (l1 : Nat) (l2 : Int32) : Option (Int32 × po_I) :=
  if (3 : Int32) ≤ l2 then (m_X3_readArea_40 I) else (if (l2 : Int32) = 0 then (m_X3_readArea_24 r6 I l0 l1 l2) else (Option.bind (m_X3_next I l0) fun x2 => if (x2 : Int32) = 59 then (m_X3_readArea_40 I) else (m_X3_readArea_24 r6 I l0 l1 l2)))
def m_X3_readArea_6L : Nat → po_I → Nat → Nat → Int32 → Option (Int32 × po_I)
  | 0 => fun _ _ _ _ => none
  | n + 1 => m_X3_readArea_6 (m_X3_readArea_6L n)
def m_X3_readArea_e (I : po_I) (l0 : Nat) (l1 : Nat) : Option (Int32 × po_I) :=
  Option.bind (m_X0_clear I l1) fun x3 => m_X3_readArea_6L 5000 x3 l0 l1 0
abbrev m_X3_readArea := @m_X3_readArea_e
def m_J6_bitCount_0f7a4_e (l0 : Int32) : Option (Int32) :=
  po_let (l0 - (((Int32.toUInt32 l0 >>> (Int32.toUInt32 1 &&& Int32.toUInt32 31)).toInt32) &&& 1431655765)) fun v1 => po_let ((v1 &&& 858993459) + (((Int32.toUInt32 v1 >>> (Int32.toUInt32 2 &&& Int32.toUInt32 31)).toInt32) &&& 858993459)) fun v2 => po_let ((v2 + ((Int32.toUInt32 v2 >>> (Int32.toUInt32 4 &&& Int32.toUInt32 31)).toInt32)) &&& 252645135) fun v3 => po_let (v3 + ((Int32.toUInt32 v3 >>> (Int32.toUInt32 8 &&& Int32.toUInt32 31)).toInt32)) fun v4 => po_let (v4 + ((Int32.toUInt32 v4 >>> (Int32.toUInt32 16 &&& Int32.toUInt32 31)).toInt32)) fun v5 => some (v5 &&& 63)
abbrev m_J6_bitCount_0f7a4 := @m_J6_bitCount_0f7a4_e
def m_X0_cellsIn_4 (I : po_I) (r4 : Nat → Nat → Int32 → Int32 → Option (Int32)) (l0 : Nat) (l1 : Nat) (l2 : Int32) (l3 : Int32) : Option (Int32) :=
  if (14 : Int32) ≤ l3 then (some l2) else (if po_in l3 14 = true then if po_in l3 14 = true then Option.bind (m_J6_bitCount_0f7a4 ((I (l0 + 1) (Int32.toNatClampNeg l3)) &&& (I (l1 + 1) (Int32.toNatClampNeg l3)))) fun x1 => po_let (l2 + x1) fun v2 => r4 l0 l1 v2 (l3 + 1) else none else none)
def m_X0_cellsIn_4L (I : po_I) : Nat → Nat → Nat → Int32 → Int32 → Option (Int32)
  | 0 => fun _ _ _ _ => none
  | n + 1 => m_X0_cellsIn_4 I (m_X0_cellsIn_4L I n)
def m_X0_cellsIn_e (I : po_I) (l0 : Nat) (l1 : Nat) : Option (Int32) :=
  m_X0_cellsIn_4L I 5000 l0 l1 0 0
abbrev m_X0_cellsIn := @m_X0_cellsIn_e
def m_X5_hasLotCellIn_2 (I : po_I) (r2 : Nat → Nat → Int32 → Option (Int32)) (l0 : Nat) (l1 : Nat) (l2 : Int32) : Option (Int32) :=
  if ((I l0 3) : Int32) ≤ l2 then (some 0) else (if po_in l2 8 = true then Option.bind (m_X0_cellsIn I ((l0 + (5 + 3 * (Int32.toNatClampNeg l2))) + 1) l1) fun x2 => if (x2 : Int32) ≤ 0 then (r2 l0 l1 (l2 + 1)) else (some 1) else none)
def m_X5_hasLotCellIn_2L (I : po_I) : Nat → Nat → Nat → Int32 → Option (Int32)
  | 0 => fun _ _ _ => none
  | n + 1 => m_X5_hasLotCellIn_2 I (m_X5_hasLotCellIn_2L I n)
def m_X5_hasLotCellIn_e (I : po_I) (l0 : Nat) (l1 : Nat) : Option (Int32) :=
  m_X5_hasLotCellIn_2L I 5000 l0 l1 0
abbrev m_X5_hasLotCellIn := @m_X5_hasLotCellIn_e
def m_X0_size_e (I : po_I) (l0 : Nat) : Option (Int32) :=
  Option.bind (m_X0_cellsIn I l0 l0) fun x1 => some x1
abbrev m_X0_size := @m_X0_size_e
def m_X3_readSign_e (I : po_I) (l0 : Nat) (l1 : Int32) : Option (Int32 × po_I) :=
  Option.bind (m_X3_next I l0) fun x1 => if (x1 : Int32) = l1 then (po_hlet (po_u I l0 2 ((I l0 2) + 1)) fun I2 => some ((1, I2))) else (Option.bind (m_X3_failAt I l0 (I l0 2)) fun x3 => if vp_nar .boolean (x3.1) = (x3.1) then some (((x3.1), x3.2)) else none)
abbrev m_X3_readSign := @m_X3_readSign_e
def m_X3_readLot_87 (I : po_I) : Option (Int32 × po_I) :=
  some ((0, I))
def m_X3_readLot_118 (I : po_I) (l0 : Nat) (l1 : Nat) (l2 : Nat) : Option (Int32 × po_I) :=
  Option.bind (m_X0_size I (l2 + 1)) fun x1 => po_hlet (po_u I l2 3 x1) fun I2 => po_hlet (po_u I2 l1 3 ((I2 l1 3) + 1)) fun I3 => Option.bind (m_X3_readSign I3 l0 59) fun x4 => if vp_nar .boolean (x4.1) = (x4.1) then some (((x4.1), x4.2)) else none
def m_X3_readLot_e (I : po_I) (l0 : Nat) (l1 : Nat) : Option (Int32 × po_I) :=
  if ((I l1 3) : Int32) < 8 then (po_hlet (po_u I l0 2 ((I l0 2) + 1)) fun I5 => if po_in (I5 l1 3) 8 = true then Option.bind (m_X3_readValue I5 l0 48 0 3) fun x7 => po_hlet (po_u (x7.2) (l1 + (5 + 3 * (Int32.toNatClampNeg (I5 l1 3)))) 0 (x7.1)) fun I8 => if ((I8 (l1 + (5 + 3 * (Int32.toNatClampNeg (I5 l1 3)))) 0) : Int32) = (-1) then (some ((0, I8))) else (Option.bind (m_X3_readFront I8 l0) fun x9 => po_hlet (po_u (x9.2) (l1 + (5 + 3 * (Int32.toNatClampNeg (I5 l1 3)))) 1 (x9.1)) fun I10 => if ((I10 (l1 + (5 + 3 * (Int32.toNatClampNeg (I5 l1 3)))) 1) : Int32) = (-1) then (m_X3_readLot_87 I10) else (Option.bind (m_X3_readArea I10 l0 ((l1 + (5 + 3 * (Int32.toNatClampNeg (I5 l1 3)))) + 1)) fun x11 => if ((x11.1) : Int32) = 0 then (m_X3_readLot_87 (x11.2)) else (Option.bind (m_X3_next (x11.2) l0) fun x12 => if (x12 : Int32) = 59 then (Option.bind (m_X5_hasLotCellIn (x11.2) l1 ((l1 + (5 + 3 * (Int32.toNatClampNeg (I5 l1 3)))) + 1)) fun x13 => if (x13 : Int32) = 0 then (m_X3_readLot_118 (x11.2) l0 l1 (l1 + (5 + 3 * (Int32.toNatClampNeg (I5 l1 3))))) else (Option.bind (m_X3_failAt (x11.2) l0 ((x11.2) l0 2)) fun x14 => if vp_nar .boolean (x14.1) = (x14.1) then some (((x14.1), x14.2)) else none)) else (m_X3_readLot_118 (x11.2) l0 l1 (l1 + (5 + 3 * (Int32.toNatClampNeg (I5 l1 3)))))))) else none) else (Option.bind (m_X3_failAt I l0 (I l0 2)) fun x15 => if vp_nar .boolean (x15.1) = (x15.1) then some (((x15.1), x15.2)) else none)
abbrev m_X3_readLot := @m_X3_readLot_e
def m_X2_clear_e (I : po_I) (l0 : Nat) : Option (po_I) :=
  po_hlet (po_u I l0 0 0) fun I1 => po_hlet (po_u I1 l0 1 0) fun I2 => po_hlet (po_u I2 l0 2 0) fun I3 => po_hlet (po_u I3 l0 3 0) fun I4 => Option.bind (m_X0_clear I4 (l0 + 1)) fun x5 => po_hlet (po_u x5 l0 5 0) fun I6 => po_hlet (po_u I6 l0 6 0) fun I7 => po_hlet (po_u I7 l0 7 (-1)) fun I8 => po_hlet (po_u I8 l0 8 0) fun I9 => po_hlet (po_u I9 l0 9 0) fun I10 => po_hlet (po_u I10 l0 10 (-1)) fun I11 => po_hlet (po_u I11 l0 11 0) fun I12 => po_hlet (po_u I12 l0 12 0) fun I13 => po_hlet (po_u I13 l0 13 0) fun I14 => po_hlet (po_u I14 l0 14 0) fun I15 => po_hlet (po_u I15 l0 15 0) fun I16 => po_hlet (po_u I16 l0 16 0) fun I17 => some I17
abbrev m_X2_clear := @m_X2_clear_e
def m_X2_floorArea_e (I : po_I) (l0 : Nat) : Option (Int32) :=
  some ((I l0 5) * (I l0 2))
abbrev m_X2_floorArea := @m_X2_floorArea_e
def m_X2_applyFee_e (I : po_I) (l0 : Nat) : Option (Int32) :=
  Option.bind (m_X2_floorArea I l0) fun x1 => some (20 + x1)
abbrev m_X2_applyFee := @m_X2_applyFee_e
def m_X3_readPermit_146 (I : po_I) : Option (Int32 × po_I) :=
  some ((0, I))
def m_X3_readPermit_e (I : po_I) (l0 : Nat) (l1 : Nat) : Option (Int32 × po_I) :=
  if ((I l1 5) : Int32) < 10 then (po_hlet (po_u I l0 2 ((I l0 2) + 1)) fun I1 => if po_in (I1 l1 5) 10 = true then Option.bind (m_X2_clear I1 (l1 + (29 + 5 * (Int32.toNatClampNeg (I1 l1 5))))) fun x3 => Option.bind (m_X3_readValue x3 l0 48 0 ((x3 l1 3) - 1)) fun x4 => po_hlet (po_u (x4.2) (l1 + (29 + 5 * (Int32.toNatClampNeg (I1 l1 5)))) 0 (x4.1)) fun I5 => if ((I5 (l1 + (29 + 5 * (Int32.toNatClampNeg (I1 l1 5)))) 0) : Int32) = (-1) then (some ((0, I5))) else (Option.bind (m_X3_readValue I5 l0 48 0 5) fun x6 => po_hlet (po_u (x6.2) (l1 + (29 + 5 * (Int32.toNatClampNeg (I1 l1 5)))) 1 (x6.1)) fun I7 => if ((I7 (l1 + (29 + 5 * (Int32.toNatClampNeg (I1 l1 5)))) 1) : Int32) = (-1) then (some ((0, I7))) else (Option.bind (m_X3_readValue I7 l0 48 1 9) fun x8 => po_hlet (po_u (x8.2) (l1 + (29 + 5 * (Int32.toNatClampNeg (I1 l1 5)))) 2 (x8.1)) fun I9 => if ((I9 (l1 + (29 + 5 * (Int32.toNatClampNeg (I1 l1 5)))) 2) : Int32) = (-1) then (some ((0, I9))) else (Option.bind (m_X3_readValue I9 l0 48 0 9) fun x10 => po_hlet (po_u (x10.2) (l1 + (29 + 5 * (Int32.toNatClampNeg (I1 l1 5)))) 3 (x10.1)) fun I11 => if ((I11 (l1 + (29 + 5 * (Int32.toNatClampNeg (I1 l1 5)))) 3) : Int32) = (-1) then (m_X3_readPermit_146 I11) else (Option.bind (m_X3_readArea I11 l0 ((l1 + (29 + 5 * (Int32.toNatClampNeg (I1 l1 5)))) + 1)) fun x12 => if ((x12.1) : Int32) = 0 then (m_X3_readPermit_146 (x12.2)) else (Option.bind (m_X0_size (x12.2) ((l1 + (29 + 5 * (Int32.toNatClampNeg (I1 l1 5)))) + 1)) fun x13 => po_hlet (po_u (x12.2) (l1 + (29 + 5 * (Int32.toNatClampNeg (I1 l1 5)))) 5 x13) fun I14 => Option.bind (m_X2_applyFee I14 (l1 + (29 + 5 * (Int32.toNatClampNeg (I1 l1 5))))) fun x15 => po_hlet (po_u I14 (l1 + (29 + 5 * (Int32.toNatClampNeg (I1 l1 5)))) 13 x15) fun I16 => po_hlet (po_u I16 l1 5 ((I16 l1 5) + 1)) fun I17 => Option.bind (m_X3_readSign I17 l0 59) fun x18 => if vp_nar .boolean (x18.1) = (x18.1) then some (((x18.1), x18.2)) else none))))) else none) else (Option.bind (m_X3_failAt I l0 (I l0 2)) fun x19 => if vp_nar .boolean (x19.1) = (x19.1) then some (((x19.1), x19.2)) else none)
abbrev m_X3_readPermit := @m_X3_readPermit_e
def m_X3_readNumber_76 (I : po_I) (l0 : Nat) (l3 : Int32) : Option (Int32 × po_I) :=
  Option.bind (m_X3_failAt I l0 l3) fun x1 => some (((-1), x1.2))
def m_X3_readNumber_64 (I : po_I) (l0 : Nat) (l1 : Int32) (l2 : Int32) (l3 : Int32) (l4 : Int32) : Option (Int32 × po_I) :=
  if (l4 : Int32) < l1 then (m_X3_readNumber_76 I l0 l3) else (if (l4 : Int32) ≤ l2 then (some ((l4, I))) else (m_X3_readNumber_76 I l0 l3))
def m_X3_readNumber_e (I : po_I) (l0 : Nat) (l1 : Int32) (l2 : Int32) : Option (Int32 × po_I) :=
  po_let (I l0 2) fun v2 => Option.bind (m_X3_readValue I l0 48 0 9) fun x3 => po_let (x3.1) fun v4 => if (v4 : Int32) = (-1) then (some (((-1), x3.2))) else (if (v4 : Int32) ≤ 0 then (m_X3_readNumber_64 (x3.2) l0 l1 l2 v2 v4) else (Option.bind (m_X3_next (x3.2) l0) fun x5 => if (x5 : Int32) < 48 then (m_X3_readNumber_64 (x3.2) l0 l1 l2 v2 v4) else (Option.bind (m_X3_next (x3.2) l0) fun x6 => if (57 : Int32) < x6 then (m_X3_readNumber_64 (x3.2) l0 l1 l2 v2 v4) else (Option.bind (m_X3_readValue (x3.2) l0 48 0 9) fun x7 => po_let ((10 * v4) + (x7.1)) fun v8 => m_X3_readNumber_64 (x7.2) l0 l1 l2 v2 v8))))
abbrev m_X3_readNumber := @m_X3_readNumber_e
def m_X3_readVariance_116 (I : po_I) : Option (Int32 × po_I) :=
  some ((0, I))
def m_X3_readVariance_e (I : po_I) (l0 : Nat) (l1 : Nat) : Option (Int32 × po_I) :=
  if ((I l1 7) : Int32) < 12 then (po_hlet (po_u I l0 2 ((I l0 2) + 1)) fun I1 => if po_in (I1 l1 7) 12 = true then Option.bind (m_X3_readValue I1 l0 48 0 ((I1 l1 3) - 1)) fun x3 => po_hlet (po_u (x3.2) (l1 + (79 + (Int32.toNatClampNeg (I1 l1 7)))) 0 (x3.1)) fun I4 => if ((I4 (l1 + (79 + (Int32.toNatClampNeg (I1 l1 7)))) 0) : Int32) = (-1) then (some ((0, I4))) else (Option.bind (m_X3_readValue I4 l0 48 2 8) fun x5 => po_hlet (po_u (x5.2) (l1 + (79 + (Int32.toNatClampNeg (I1 l1 7)))) 1 (x5.1)) fun I6 => if ((I6 (l1 + (79 + (Int32.toNatClampNeg (I1 l1 7)))) 1) : Int32) = (-1) then (some ((0, I6))) else (Option.bind (m_X3_readNumber I6 l0 1 99) fun x7 => po_hlet (po_u (x7.2) (l1 + (79 + (Int32.toNatClampNeg (I1 l1 7)))) 2 (x7.1)) fun I8 => if ((I8 (l1 + (79 + (Int32.toNatClampNeg (I1 l1 7)))) 2) : Int32) = (-1) then (m_X3_readVariance_116 I8) else (Option.bind (m_X3_readSign I8 l0 44) fun x9 => if ((x9.1) : Int32) = 0 then (m_X3_readVariance_116 (x9.2)) else (Option.bind (m_X3_readNumber (x9.2) l0 0 99) fun x10 => po_let (x10.1) fun v11 => if (v11 : Int32) = (-1) then (some ((0, x10.2))) else (po_hlet (po_u (x10.2) (l1 + (79 + (Int32.toNatClampNeg (I1 l1 7)))) 3 (((x10.2) l1 0) + v11)) fun I12 => po_hlet (po_u I12 l1 7 ((I12 l1 7) + 1)) fun I13 => Option.bind (m_X3_readSign I13 l0 59) fun x14 => if vp_nar .boolean (x14.1) = (x14.1) then some (((x14.1), x14.2)) else none))))) else none) else (Option.bind (m_X3_failAt I l0 (I l0 2)) fun x15 => if vp_nar .boolean (x15.1) = (x15.1) then some (((x15.1), x15.2)) else none)
abbrev m_X3_readVariance := @m_X3_readVariance_e
def m_X2_addCondition_54 (I : po_I) : Option (po_I) :=
  some I
def m_X2_addCondition_e (I : po_I) (l0 : Nat) (l1 : Int32) (l2 : Int32) : Option (po_I) :=
  if (6 : Int32) ≤ (I l0 15) then (m_X2_addCondition_54 I) else (if po_in (I l0 15) 6 = true then po_hlet (po_u I (l0 + 3) (Int32.toNatClampNeg (I l0 15)) l1) fun I1 => if po_in (I1 l0 15) 6 = true then po_hlet (po_u I1 (l0 + 4) (Int32.toNatClampNeg (I1 l0 15)) l2) fun I2 => po_hlet (po_u I2 l0 16 ((I2 l0 16) ||| (1 <<< ((I2 l0 15) &&& 31)))) fun I3 => po_hlet (po_u I3 l0 15 ((I3 l0 15) + 1)) fun I4 => m_X2_addCondition_54 I4 else none else none)
abbrev m_X2_addCondition := @m_X2_addCondition_e
def m_X3_readCondition_85 (I : po_I) (l0 : Nat) : Option (Int32 × po_I) :=
  Option.bind (m_X3_failAt I l0 (I l0 2)) fun x1 => if vp_nar .boolean (x1.1) = (x1.1) then some (((x1.1), x1.2)) else none
def m_X3_readCondition_e (I : po_I) (l0 : Nat) (l1 : Nat) : Option (Int32 × po_I) :=
  po_hlet (po_u I l0 2 ((I l0 2) + 1)) fun I2 => Option.bind (m_X3_readValue I2 l0 48 0 ((I2 l1 5) - 1)) fun x3 => po_let (x3.1) fun v4 => if (v4 : Int32) = (-1) then (some ((0, x3.2))) else (Option.bind (m_X3_readValue (x3.2) l0 48 0 3) fun x5 => po_let (x5.1) fun v6 => if (v6 : Int32) = (-1) then (some ((0, x5.2))) else (if po_in v4 10 = true then Option.bind (m_X3_next (x5.2) l0) fun x8 => if (6 : Int32) ≤ ((x5.2) (l1 + (29 + 5 * (Int32.toNatClampNeg v4))) 15) then (m_X3_readCondition_85 (x5.2) l0) else (if (x8 : Int32) < 97 then (m_X3_readCondition_85 (x5.2) l0) else (if (x8 : Int32) ≤ 122 then (po_hlet (po_u (x5.2) l0 2 (((x5.2) l0 2) + 1)) fun I9 => Option.bind (m_X2_addCondition I9 (l1 + (29 + 5 * (Int32.toNatClampNeg v4))) v6 x8) fun x10 => Option.bind (m_X3_readSign x10 l0 59) fun x11 => if vp_nar .boolean (x11.1) = (x11.1) then some (((x11.1), x11.2)) else none) else (m_X3_readCondition_85 (x5.2) l0))) else none))
abbrev m_X3_readCondition := @m_X3_readCondition_e
def m_X5_setRule_28 (I : po_I) : Option (po_I) :=
  some I
def m_X5_setRule_e (I : po_I) (l0 : Nat) (l1 : Int32) (l2 : Int32) (l3 : Int32) : Option (po_I) :=
  po_let ((l1 * 7) + l2) fun v1 => if (v1 : Int32) < 0 then (m_X5_setRule_28 I) else (if (28 : Int32) ≤ v1 then (m_X5_setRule_28 I) else (if po_in v1 28 = true then po_hlet (po_u I (l0 + 1) (Int32.toNatClampNeg v1) l3) fun I2 => m_X5_setRule_28 I2 else none))
abbrev m_X5_setRule := @m_X5_setRule_e
def m_X3_readRule_e (st : Nat → Nat) (I : po_I) (l0 : Nat) (l1 : Nat) : Option (Int32 × po_I) :=
  po_hlet (po_u I l0 2 ((I l0 2) + 1)) fun I1 => Option.bind (m_X3_readValue I1 l0 48 0 3) fun x2 => po_let (x2.1) fun v3 => if (v3 : Int32) = (-1) then (some ((0, x2.2))) else (Option.bind (m_X3_readValue (x2.2) l0 48 0 6) fun x4 => po_let (x4.1) fun v5 => if (v5 : Int32) = (-1) then (some ((0, x4.2))) else (if po_in v5 7 = true then if po_in v5 7 = true then Option.bind (m_X3_readNumber (x4.2) l0 ((x4.2) (st 1) (Int32.toNatClampNeg v5)) ((x4.2) (st 2) (Int32.toNatClampNeg v5))) fun x6 => po_let (x6.1) fun v7 => if (v7 : Int32) = (-1) then (some ((0, x6.2))) else (Option.bind (m_X5_setRule (x6.2) l1 v3 v5 v7) fun x8 => Option.bind (m_X3_readSign x8 l0 59) fun x9 => if vp_nar .boolean (x9.1) = (x9.1) then some (((x9.1), x9.2)) else none) else none else none))
abbrev m_X3_readRule := @m_X3_readRule_e
def m_X3_readCommand_e (st : Nat → Nat) (I : po_I) (l0 : Nat) (l1 : Nat) : Option (Int32 × po_I) :=
  Option.bind (m_X3_next I l0) fun x1 => if (x1 : Int32) = 67 then (Option.bind (m_X3_readCondition I l0 l1) fun x2 => if vp_nar .boolean (x2.1) = (x2.1) then some (((x2.1), x2.2)) else none) else (if (x1 : Int32) = 76 then (Option.bind (m_X3_readLot I l0 l1) fun x3 => if vp_nar .boolean (x3.1) = (x3.1) then some (((x3.1), x3.2)) else none) else (if (x1 : Int32) = 80 then (Option.bind (m_X3_readPermit I l0 l1) fun x4 => if vp_nar .boolean (x4.1) = (x4.1) then some (((x4.1), x4.2)) else none) else (if (x1 : Int32) = 86 then (Option.bind (m_X3_readVariance I l0 l1) fun x5 => if vp_nar .boolean (x5.1) = (x5.1) then some (((x5.1), x5.2)) else none) else (if (x1 : Int32) = 90 then (Option.bind (m_X3_readRule st I l0 l1) fun x6 => if vp_nar .boolean (x6.1) = (x6.1) then some (((x6.1), x6.2)) else none) else (Option.bind (m_X3_failAt I l0 (I l0 2)) fun x7 => if vp_nar .boolean (x7.1) = (x7.1) then some (((x7.1), x7.2)) else none)))))
abbrev m_X3_readCommand := @m_X3_readCommand_e
def m_X3_readInto_56 (st : Nat → Nat) (I : po_I) (s0 : Int32) : Option (Int32 × po_I) :=
  some ((s0, I))
def m_X3_readInto_42 (st : Nat → Nat) (I : po_I) (l0 : Nat) (l2 : Int32) (l3 : Int32) : Option (Int32 × po_I) :=
  po_hlet (po_u I l0 1 0) fun I1 => if (l3 : Int32) = 0 then (m_X3_readInto_56 st I1 (-1)) else (m_X3_readInto_56 st I1 l2)
def m_X3_readInto_12 (st : Nat → Nat) (r12 : po_I → Nat → Nat → Int32 → Option (Int32 × po_I)) (I : po_I) (l0 : Nat) (l1 : Nat) (l2 : Int32) : Option (Int32 × po_I) :=
  Option.bind (m_X3_readCommand st I l0 l1) fun x2 => po_let (x2.1) fun v3 => if (v3 : Int32) = 0 then (m_X3_readInto_42 st (x2.2) l0 (l2 + 1) v3) else (if (((x2.2) l0 1) : Int32) ≤ ((x2.2) l0 2) then (m_X3_readInto_42 st (x2.2) l0 (l2 + 1) v3) else (if ((l2 + 1) : Int32) < 60 then (r12 (x2.2) l0 l1 (l2 + 1)) else (m_X3_readInto_42 st (x2.2) l0 (l2 + 1) v3)))
def m_X3_readInto_12L (st : Nat → Nat) : Nat → po_I → Nat → Nat → Int32 → Option (Int32 × po_I)
  | 0 => fun _ _ _ _ => none
  | n + 1 => m_X3_readInto_12 st (m_X3_readInto_12L st n)
def m_X3_readInto_e (st : Nat → Nat) (I : po_I) (l0 : Nat) (l1 : Nat) : Option (Int32 × po_I) :=
  po_hlet (po_u I l0 2 0) fun I4 => po_hlet (po_u I4 l0 3 (-1)) fun I5 => m_X3_readInto_12L st 5000 I5 l0 l1 0
abbrev m_X3_readInto := @m_X3_readInto_e
def m_X7_remember_56 (I : po_I) (R : po_R) (l0 : Nat) : Option (po_I × po_R) :=
  if po_in (I l0 7) 6 = true then Option.bind (m_X5_copyFrom I (po_rf (R (l0 + 281) (Int32.toNatClampNeg (I l0 7)))) (l0 + 8)) fun x2 => po_hlet (po_u x2 l0 7 ((x2 l0 7) + 1)) fun I3 => some ((I3, R)) else none
def m_X7_remember_18 (r18 : po_I → po_R → Nat → Nat → Int32 → Option (po_I × po_R)) (I : po_I) (R : po_R) (l0 : Nat) (l1 : Nat) (l2 : Int32) : Option (po_I × po_R) :=
  if (6 : Int32) ≤ l2 then (po_hlet (po_u I l0 7 5) fun I4 => m_X7_remember_56 I4 (po_u R (l0 + 281) 5 (.ref l1)) l0) else (if po_in l2 6 = true then if po_in (l2 - 1) 6 = true then r18 I (po_u R (l0 + 281) (Int32.toNatClampNeg (l2 - 1)) (.ref (po_rf (R (l0 + 281) (Int32.toNatClampNeg l2))))) l0 l1 (l2 + 1) else none else none)
def m_X7_remember_18L : Nat → po_I → po_R → Nat → Nat → Int32 → Option (po_I × po_R)
  | 0 => fun _ _ _ _ _ => none
  | n + 1 => m_X7_remember_18 (m_X7_remember_18L n)
def m_X7_remember_e (I : po_I) (R : po_R) (l0 : Nat) : Option (po_I × po_R) :=
  if ((I l0 7) : Int32) < 6 then (m_X7_remember_56 I R l0) else (m_X7_remember_18L 5000 I R l0 (po_rf (R (l0 + 281) 0)) 1)
abbrev m_X7_remember := @m_X7_remember_e
def m_X7_execute_e (st : Nat → Nat) (I : po_I) (R : po_R) (l0 : Nat) : Option ((Int32 ⊕ String) × po_I × po_R) :=
  Option.bind (m_X5_copyFrom I (l0 + 99) (l0 + 8)) fun x1 => Option.bind (m_X3_readInto st x1 (l0 + 1) (l0 + 99)) fun x2 => po_let (x2.1) fun v3 => if (v3 : Int32) = (-1) then (some (((.inr "java/lang/IllegalArgumentException"), x2.2, R))) else (Option.bind (m_X7_remember (x2.2) R l0) fun x4 => Option.bind (m_X5_copyFrom (x4.1) (l0 + 8) (l0 + 99)) fun x5 => some (((.inl v3), x5, x4.2)))
abbrev m_X7_execute := @m_X7_execute_e
def m_X7_errorPosition_e (I : po_I) (l0 : Nat) : Option (Int32) :=
  some (I (l0 + 1) 3)
abbrev m_X7_errorPosition := @m_X7_errorPosition_e
def m_X5_ruleOf_27 (I : po_I) (s0 : Int32) : Option (Int32) :=
  some s0
def m_X5_ruleOf_26 (I : po_I) : Option (Int32) :=
  m_X5_ruleOf_27 I 0
def m_X5_ruleOf_e (I : po_I) (l0 : Nat) (l1 : Int32) (l2 : Int32) : Option (Int32) :=
  po_let ((l1 * 7) + l2) fun v1 => if (v1 : Int32) < 0 then (m_X5_ruleOf_26 I) else (if (28 : Int32) ≤ v1 then (m_X5_ruleOf_26 I) else (if po_in v1 28 = true then m_X5_ruleOf_27 I (I (l0 + 1) (Int32.toNatClampNeg v1)) else none))
abbrev m_X5_ruleOf := @m_X5_ruleOf_e
def m_X7_rule_9 (I : po_I) : Option ((Int32 ⊕ String)) :=
  some (.inr "java/lang/IndexOutOfBoundsException")
def m_X7_rule_29 (I : po_I) : Option ((Int32 ⊕ String)) :=
  some (.inr "java/lang/IllegalArgumentException")
def m_X7_rule_e (I : po_I) (l0 : Nat) (l1 : Int32) (l2 : Int32) : Option ((Int32 ⊕ String)) :=
  if (l1 : Int32) < 0 then (m_X7_rule_9 I) else (if (l1 : Int32) < 4 then (if (l2 : Int32) < 0 then (m_X7_rule_29 I) else (if (l2 : Int32) < 7 then (Option.bind (m_X5_ruleOf I (l0 + 8) l1 l2) fun x1 => some (.inl x1)) else (m_X7_rule_29 I))) else (m_X7_rule_9 I))
abbrev m_X7_rule := @m_X7_rule_e
def m_X7_lotOrThrow_15 (I : po_I) : Option ((Nat ⊕ String)) :=
  some (.inr "java/lang/IndexOutOfBoundsException")
def m_X7_lotOrThrow_e (I : po_I) (l0 : Nat) (l1 : Int32) : Option ((Nat ⊕ String)) :=
  if (l1 : Int32) < 0 then (m_X7_lotOrThrow_15 I) else (if (l1 : Int32) < (I (l0 + 8) 3) then (if po_in l1 8 = true then some (.inl ((l0 + 8) + (5 + 3 * (Int32.toNatClampNeg l1)))) else none) else (m_X7_lotOrThrow_15 I))
abbrev m_X7_lotOrThrow := @m_X7_lotOrThrow_e
def m_X2_stands_30 (I : po_I) (s0 : Int32) : Option (Int32) :=
  if vp_nar .boolean s0 = s0 then some s0 else none
def m_X2_stands_25 (I : po_I) : Option (Int32) :=
  m_X2_stands_30 I 1
def m_X2_stands_e (I : po_I) (l0 : Nat) : Option (Int32) :=
  if ((I l0 6) : Int32) = 2 then (m_X2_stands_25 I) else (if ((I l0 6) : Int32) = 3 then (m_X2_stands_25 I) else (if ((I l0 6) : Int32) = 6 then (m_X2_stands_25 I) else (m_X2_stands_30 I 0)))
abbrev m_X2_stands := @m_X2_stands_e
def m_X5_countsFor_n_25 (I : po_I) (s0 : Int32) : Option (Int32) :=
  if vp_nar .boolean s0 = s0 then some s0 else none
def m_X5_countsFor_n_24 (I : po_I) : Option (Int32) :=
  m_X5_countsFor_n_25 I 0
def m_X5_countsFor_n_e (I : po_I) (l0 : Nat) (l1 : Int32) : Option (Int32) :=
  if ((I l0 0) : Int32) = l1 then (Option.bind (m_X2_stands I l0) fun x1 => if (x1 : Int32) = 0 then (m_X5_countsFor_n_24 I) else (m_X5_countsFor_n_25 I 1)) else (m_X5_countsFor_n_24 I)
abbrev m_X5_countsFor_n := @m_X5_countsFor_n_e
def m_X0_addAll_2 (r2 : po_I → Nat → Nat → Int32 → Option (po_I)) (I : po_I) (l0 : Nat) (l1 : Nat) (l2 : Int32) : Option (po_I) :=
  if (14 : Int32) ≤ l2 then (some I) else (if po_in l2 14 = true then if po_in l2 14 = true then if po_in l2 14 = true then po_hlet (po_u I (l0 + 1) (Int32.toNatClampNeg l2) ((I (l0 + 1) (Int32.toNatClampNeg l2)) ||| (I (l1 + 1) (Int32.toNatClampNeg l2)))) fun I1 => r2 I1 l0 l1 (l2 + 1) else none else none else none)
def m_X0_addAll_2L : Nat → po_I → Nat → Nat → Int32 → Option (po_I)
  | 0 => fun _ _ _ _ => none
  | n + 1 => m_X0_addAll_2 (m_X0_addAll_2L n)
def m_X0_addAll_e (I : po_I) (l0 : Nat) (l1 : Nat) : Option (po_I) :=
  m_X0_addAll_2L 5000 I l0 l1 0
abbrev m_X0_addAll := @m_X0_addAll_e
def m_X5_gatherBuildings_n_45 (r7 : po_I → Nat → Int32 → Nat → Int32 → Option (po_I)) (I : po_I) (l0 : Nat) (l1 : Int32) (l3 : Nat) (l4 : Int32) : Option (po_I) :=
  r7 I l0 l1 l3 (l4 + 1)
def m_X5_gatherBuildings_n_7 (r7 : po_I → Nat → Int32 → Nat → Int32 → Option (po_I)) (I : po_I) (l0 : Nat) (l1 : Int32) (l3 : Nat) (l4 : Int32) : Option (po_I) :=
  if ((I l0 5) : Int32) ≤ l4 then (some I) else (if po_in l4 10 = true then Option.bind (m_X5_countsFor_n I (l0 + (29 + 5 * (Int32.toNatClampNeg l4))) l1) fun x2 => if (x2 : Int32) = 0 then (m_X5_gatherBuildings_n_45 r7 I l0 l1 l3 l4) else (if po_in l4 10 = true then Option.bind (m_X0_addAll I l3 ((l0 + (29 + 5 * (Int32.toNatClampNeg l4))) + 1)) fun x4 => m_X5_gatherBuildings_n_45 r7 x4 l0 l1 l3 l4 else none) else none)
def m_X5_gatherBuildings_n_7L : Nat → po_I → Nat → Int32 → Nat → Int32 → Option (po_I)
  | 0 => fun _ _ _ _ _ => none
  | n + 1 => m_X5_gatherBuildings_n_7 (m_X5_gatherBuildings_n_7L n)
def m_X5_gatherBuildings_n_e (I : po_I) (l0 : Nat) (l1 : Int32) (l3 : Nat) : Option (po_I) :=
  Option.bind (m_X0_clear I l3) fun x5 => m_X5_gatherBuildings_n_7L 5000 x5 l0 l1 l3 0
abbrev m_X5_gatherBuildings_n := @m_X5_gatherBuildings_n_e
def m_X5_lotAt_27 (I : po_I) (s0 : Nat) : Option (Nat) :=
  some s0
def m_X5_lotAt_21 (I : po_I) (l0 : Nat) : Option (Nat) :=
  m_X5_lotAt_27 I (l0 + (5 + 3 * 0))
def m_X5_lotAt_e (I : po_I) (l0 : Nat) (l1 : Int32) : Option (Nat) :=
  if (l1 : Int32) < 0 then (m_X5_lotAt_21 I l0) else (if ((I l0 3) : Int32) ≤ l1 then (m_X5_lotAt_21 I l0) else (if po_in l1 8 = true then m_X5_lotAt_27 I (l0 + (5 + 3 * (Int32.toNatClampNeg l1))) else none))
abbrev m_X5_lotAt := @m_X5_lotAt_e
def m_X4_builtCells_e (I : po_I) (l0 : Nat) (l1 : Nat) (l2 : Int32) : Option (Int32 × po_I) :=
  Option.bind (m_X5_gatherBuildings_n I l1 l2 (l0 + 1)) fun x1 => Option.bind (m_X5_lotAt x1 l1 l2) fun x2 => Option.bind (m_X0_cellsIn x1 (l0 + 1) (x2 + 1)) fun x3 => some ((x3, x1))
abbrev m_X4_builtCells := @m_X4_builtCells_e
def m_X5_standingFloorArea_n_42 (I : po_I) (r5 : Nat → Int32 → Int32 → Int32 → Option (Int32)) (l0 : Nat) (l1 : Int32) (l3 : Int32) (l4 : Int32) : Option (Int32) :=
  r5 l0 l1 l3 (l4 + 1)
def m_X5_standingFloorArea_n_5 (I : po_I) (r5 : Nat → Int32 → Int32 → Int32 → Option (Int32)) (l0 : Nat) (l1 : Int32) (l3 : Int32) (l4 : Int32) : Option (Int32) :=
  if ((I l0 5) : Int32) ≤ l4 then (some l3) else (if po_in l4 10 = true then Option.bind (m_X5_countsFor_n I (l0 + (29 + 5 * (Int32.toNatClampNeg l4))) l1) fun x2 => if (x2 : Int32) = 0 then (m_X5_standingFloorArea_n_42 I r5 l0 l1 l3 l4) else (if po_in l4 10 = true then Option.bind (m_X2_floorArea I (l0 + (29 + 5 * (Int32.toNatClampNeg l4)))) fun x4 => po_let (l3 + x4) fun v5 => m_X5_standingFloorArea_n_42 I r5 l0 l1 v5 l4 else none) else none)
def m_X5_standingFloorArea_n_5L (I : po_I) : Nat → Nat → Int32 → Int32 → Int32 → Option (Int32)
  | 0 => fun _ _ _ _ => none
  | n + 1 => m_X5_standingFloorArea_n_5 I (m_X5_standingFloorArea_n_5L I n)
def m_X5_standingFloorArea_n_e (I : po_I) (l0 : Nat) (l1 : Int32) : Option (Int32) :=
  m_X5_standingFloorArea_n_5L I 5000 l0 l1 0 0
abbrev m_X5_standingFloorArea_n := @m_X5_standingFloorArea_n_e
def m_X0_rowOf_20 (I : po_I) (s0 : Int32) : Option (Int32) :=
  some s0
def m_X0_rowOf_19 (I : po_I) : Option (Int32) :=
  m_X0_rowOf_20 I 0
def m_X0_rowOf_e (I : po_I) (l0 : Nat) (l1 : Int32) : Option (Int32) :=
  if (l1 : Int32) < 0 then (m_X0_rowOf_19 I) else (if (14 : Int32) ≤ l1 then (m_X0_rowOf_19 I) else (if po_in l1 14 = true then m_X0_rowOf_20 I (I (l0 + 1) (Int32.toNatClampNeg l1)) else none))
abbrev m_X0_rowOf := @m_X0_rowOf_e
def m_X0_untouchedSides_4 (I : po_I) (r4 : Nat → Int32 → Int32 → Option (Int32)) (l0 : Nat) (l1 : Int32) (l2 : Int32) : Option (Int32) :=
  if (14 : Int32) ≤ l2 then (some l1) else (if po_in l2 14 = true then po_let (I (l0 + 1) (Int32.toNatClampNeg l2)) fun v1 => Option.bind (m_X0_rowOf I l0 (l2 - 1)) fun x2 => Option.bind (m_J6_bitCount_0f7a4 (v1 &&& (x2 ^^^ (-1)))) fun x3 => Option.bind (m_X0_rowOf I l0 (l2 + 1)) fun x4 => Option.bind (m_J6_bitCount_0f7a4 (v1 &&& (x4 ^^^ (-1)))) fun x5 => po_let (l1 + (x3 + x5)) fun v6 => Option.bind (m_J6_bitCount_0f7a4 (v1 &&& ((v1 <<< (1 &&& 31)) ^^^ (-1)))) fun x7 => Option.bind (m_J6_bitCount_0f7a4 (v1 &&& ((v1 >>> (1 &&& 31)) ^^^ (-1)))) fun x8 => po_let (v6 + (x7 + x8)) fun v9 => r4 l0 v9 (l2 + 1) else none)
def m_X0_untouchedSides_4L (I : po_I) : Nat → Nat → Int32 → Int32 → Option (Int32)
  | 0 => fun _ _ _ => none
  | n + 1 => m_X0_untouchedSides_4 I (m_X0_untouchedSides_4L I n)
def m_X0_untouchedSides_e (I : po_I) (l0 : Nat) : Option (Int32) :=
  m_X0_untouchedSides_4L I 5000 l0 0 0
abbrev m_X0_untouchedSides := @m_X0_untouchedSides_e
def m_X7_lot_e (I : po_I) (l0 : Nat) (l1 : Int32) (l2 : Int32) : Option ((Int32 ⊕ String) × po_I) :=
  Option.bind (m_X7_lotOrThrow I l0 l1) fun x1 => Sum.elim (fun y2 => if (l2 : Int32) = 0 then (some (((.inl (I y2 0)), I))) else (if (l2 : Int32) = 1 then (some (((.inl (I y2 1)), I))) else (if (l2 : Int32) = 2 then (some (((.inl (I y2 3)), I))) else (if (l2 : Int32) = 3 then (Option.bind (m_X4_builtCells I (l0 + 3) (l0 + 8) l1) fun x3 => some (((.inl (x3.1)), x3.2))) else (if (l2 : Int32) = 4 then (Option.bind (m_X5_standingFloorArea_n I (l0 + 8) l1) fun x4 => some (((.inl x4), I))) else (if (l2 : Int32) = 5 then (Option.bind (m_X0_untouchedSides I (y2 + 1)) fun x5 => some (((.inl x5), I))) else (some (((.inr "java/lang/IllegalArgumentException"), I))))))))) (fun E => some (((.inr E), I))) x1
abbrev m_X7_lot := @m_X7_lot_e
def m_X7_rezone_15 (I : po_I) (R : po_R) : Option ((Int32 ⊕ String) × po_I × po_R) :=
  some (((.inr "java/lang/IllegalArgumentException"), I, R))
def m_X7_rezone_e (I : po_I) (R : po_R) (l0 : Nat) (l1 : Int32) (l2 : Int32) : Option ((Int32 ⊕ String) × po_I × po_R) :=
  Option.bind (m_X7_lotOrThrow I l0 l1) fun x1 => Sum.elim (fun y2 => if (l2 : Int32) < 0 then (m_X7_rezone_15 I R) else (if (l2 : Int32) < 4 then (Option.bind (m_X7_remember I R l0) fun x3 => po_let ((x3.1) y2 0) fun v4 => po_hlet (po_u (x3.1) y2 0 l2) fun I5 => some (((.inl v4), I5, x3.2))) else (m_X7_rezone_15 I R))) (fun E => some (((.inr E), I, R))) x1
abbrev m_X7_rezone := @m_X7_rezone_e
def m_X0_hasCell_17 (I : po_I) (s0 : Int32) : Option (Int32) :=
  if vp_nar .boolean s0 = s0 then some s0 else none
def m_X0_hasCell_e (I : po_I) (l0 : Nat) (l1 : Int32) (l2 : Int32) : Option (Int32) :=
  Option.bind (m_X0_rowOf I l0 l2) fun x1 => if ((x1 &&& (1 <<< (l1 &&& 31))) : Int32) = 0 then (m_X0_hasCell_17 I 0) else (m_X0_hasCell_17 I 1)
abbrev m_X0_hasCell := @m_X0_hasCell_e
def m_X5_lotWith_2 (I : po_I) (r2 : Nat → Int32 → Int32 → Int32 → Option (Int32)) (l0 : Nat) (l1 : Int32) (l2 : Int32) (l3 : Int32) : Option (Int32) :=
  if ((I l0 3) : Int32) ≤ l3 then (some (-1)) else (if po_in l3 8 = true then Option.bind (m_X0_hasCell I ((l0 + (5 + 3 * (Int32.toNatClampNeg l3))) + 1) l1 l2) fun x2 => if (x2 : Int32) = 0 then (r2 l0 l1 l2 (l3 + 1)) else (some l3) else none)
def m_X5_lotWith_2L (I : po_I) : Nat → Nat → Int32 → Int32 → Int32 → Option (Int32)
  | 0 => fun _ _ _ _ => none
  | n + 1 => m_X5_lotWith_2 I (m_X5_lotWith_2L I n)
def m_X5_lotWith_e (I : po_I) (l0 : Nat) (l1 : Int32) (l2 : Int32) : Option (Int32) :=
  m_X5_lotWith_2L I 5000 l0 l1 l2 0
abbrev m_X5_lotWith := @m_X5_lotWith_e
def m_X5_standingPermitWith_41 (I : po_I) (r2 : Nat → Int32 → Int32 → Int32 → Option (Int32)) (l0 : Nat) (l1 : Int32) (l2 : Int32) (l3 : Int32) : Option (Int32) :=
  r2 l0 l1 l2 (l3 + 1)
def m_X5_standingPermitWith_2 (I : po_I) (r2 : Nat → Int32 → Int32 → Int32 → Option (Int32)) (l0 : Nat) (l1 : Int32) (l2 : Int32) (l3 : Int32) : Option (Int32) :=
  if ((I l0 5) : Int32) ≤ l3 then (some (-1)) else (if po_in l3 10 = true then Option.bind (m_X2_stands I (l0 + (29 + 5 * (Int32.toNatClampNeg l3)))) fun x2 => if (x2 : Int32) = 0 then (m_X5_standingPermitWith_41 I r2 l0 l1 l2 l3) else (if po_in l3 10 = true then Option.bind (m_X0_hasCell I ((l0 + (29 + 5 * (Int32.toNatClampNeg l3))) + 1) l1 l2) fun x4 => if (x4 : Int32) = 0 then (m_X5_standingPermitWith_41 I r2 l0 l1 l2 l3) else (some l3) else none) else none)
def m_X5_standingPermitWith_2L (I : po_I) : Nat → Nat → Int32 → Int32 → Int32 → Option (Int32)
  | 0 => fun _ _ _ _ => none
  | n + 1 => m_X5_standingPermitWith_2 I (m_X5_standingPermitWith_2L I n)
def m_X5_standingPermitWith_e (I : po_I) (l0 : Nat) (l1 : Int32) (l2 : Int32) : Option (Int32) :=
  m_X5_standingPermitWith_2L I 5000 l0 l1 l2 0
abbrev m_X5_standingPermitWith := @m_X5_standingPermitWith_e
def m_X0_hasAll_2 (I : po_I) (r2 : Nat → Nat → Int32 → Option (Int32)) (l0 : Nat) (l1 : Nat) (l2 : Int32) : Option (Int32) :=
  if (14 : Int32) ≤ l2 then (some 1) else (if po_in l2 14 = true then if po_in l2 14 = true then if (((I (l1 + 1) (Int32.toNatClampNeg l2)) &&& ((I (l0 + 1) (Int32.toNatClampNeg l2)) ^^^ (-1))) : Int32) = 0 then (r2 l0 l1 (l2 + 1)) else (some 0) else none else none)
def m_X0_hasAll_2L (I : po_I) : Nat → Nat → Nat → Int32 → Option (Int32)
  | 0 => fun _ _ _ => none
  | n + 1 => m_X0_hasAll_2 I (m_X0_hasAll_2L I n)
def m_X0_hasAll_e (I : po_I) (l0 : Nat) (l1 : Nat) : Option (Int32) :=
  m_X0_hasAll_2L I 5000 l0 l1 0
abbrev m_X0_hasAll := @m_X0_hasAll_e
def m_X0_takeEdgeOff_62 (r4 : po_I → Nat → Int32 → Int32 → Int32 → Option (po_I)) (I : po_I) (l0 : Nat) (l1 : Int32) (l3 : Int32) (l4 : Int32) (l5 : Int32) (l6 : Int32) : Option (po_I) :=
  if po_in l4 14 = true then po_hlet (po_u I (l0 + 1) (Int32.toNatClampNeg l4) (l5 &&& l6)) fun I1 => r4 I1 l0 l1 l5 (l3 + 1) else none
def m_X0_takeEdgeOff_23 (r4 : po_I → Nat → Int32 → Int32 → Int32 → Option (po_I)) (I : po_I) (l0 : Nat) (l1 : Int32) (l2 : Int32) (l3 : Int32) (s0 : Int32) : Option (po_I) :=
  if po_in s0 14 = true then po_let (I (l0 + 1) (Int32.toNatClampNeg s0)) fun v2 => if (l1 : Int32) = 1 then (po_let (v2 >>> (1 &&& 31)) fun v4 => m_X0_takeEdgeOff_62 r4 I l0 l1 l3 s0 v2 v4) else (if (l1 : Int32) = 3 then (po_let (v2 <<< (1 &&& 31)) fun v3 => m_X0_takeEdgeOff_62 r4 I l0 l1 l3 s0 v2 v3) else (m_X0_takeEdgeOff_62 r4 I l0 l1 l3 s0 v2 l2)) else none
def m_X0_takeEdgeOff_4 (r4 : po_I → Nat → Int32 → Int32 → Int32 → Option (po_I)) (I : po_I) (l0 : Nat) (l1 : Int32) (l2 : Int32) (l3 : Int32) : Option (po_I) :=
  if (14 : Int32) ≤ l3 then (some I) else (if (l1 : Int32) = 2 then (m_X0_takeEdgeOff_23 r4 I l0 l1 l2 l3 (13 - l3)) else (m_X0_takeEdgeOff_23 r4 I l0 l1 l2 l3 l3))
def m_X0_takeEdgeOff_4L : Nat → po_I → Nat → Int32 → Int32 → Int32 → Option (po_I)
  | 0 => fun _ _ _ _ _ => none
  | n + 1 => m_X0_takeEdgeOff_4 (m_X0_takeEdgeOff_4L n)
def m_X0_takeEdgeOff_e (I : po_I) (l0 : Nat) (l1 : Int32) : Option (po_I) :=
  m_X0_takeEdgeOff_4L 5000 I l0 l1 0 0
abbrev m_X0_takeEdgeOff := @m_X0_takeEdgeOff_e
def m_X4_leastDistance_21 (r21 : po_I → Nat → Nat → Int32 → Int32 → Option (Int32 × po_I)) (I : po_I) (l0 : Nat) (l1 : Nat) (l3 : Int32) (l4 : Int32) : Option (Int32 × po_I) :=
  if (20 : Int32) ≤ l4 then (some ((20, I))) else (Option.bind (m_X0_takeEdgeOff I (l0 + 3) l3) fun x1 => Option.bind (m_X0_hasAll x1 (l0 + 3) l1) fun x2 => if (x2 : Int32) = 0 then (some ((l4, x1))) else (r21 x1 l0 l1 l3 (l4 + 1)))
def m_X4_leastDistance_21L : Nat → po_I → Nat → Nat → Int32 → Int32 → Option (Int32 × po_I)
  | 0 => fun _ _ _ _ _ => none
  | n + 1 => m_X4_leastDistance_21 (m_X4_leastDistance_21L n)
def m_X4_leastDistance_e (I : po_I) (l0 : Nat) (l1 : Nat) (l2 : Nat) (l3 : Int32) : Option (Int32 × po_I) :=
  Option.bind (m_X0_hasAll I l2 l1) fun x3 => if (x3 : Int32) = 0 then (some ((0, I))) else (Option.bind (m_X0_copyFrom I (l0 + 3) l2) fun x4 => m_X4_leastDistance_21L 5000 x4 l0 l1 l3 0)
abbrev m_X4_leastDistance := @m_X4_leastDistance_e
def m_X4_distance_e (I : po_I) (l0 : Nat) (l1 : Nat) (l2 : Int32) (l3 : Int32) (l4 : Int32) : Option (Int32 × po_I) :=
  Option.bind (m_X5_lotWith I l1 l2 l3) fun x1 => if (x1 : Int32) = (-1) then (some ((0, I))) else (Option.bind (m_X0_clear I (l0 + 1)) fun x2 => Option.bind (m_X0_addRectangle x2 (l0 + 1) l2 l3 1 1) fun x3 => Option.bind (m_X5_lotAt x3 l1 x1) fun x4 => Option.bind (m_X4_leastDistance x3 l0 (l0 + 1) (x4 + 1) l4) fun x5 => some (((x5.1), x5.2)))
abbrev m_X4_distance := @m_X4_distance_e
def m_X7_cell_20 (I : po_I) : Option ((Int32 ⊕ String) × po_I) :=
  some (((.inr "java/lang/IndexOutOfBoundsException"), I))
def m_X7_cell_39 (I : po_I) : Option ((Int32 ⊕ String) × po_I) :=
  some (((.inr "java/lang/IllegalArgumentException"), I))
def m_X7_cell_e (I : po_I) (l0 : Nat) (l1 : Int32) (l2 : Int32) (l3 : Int32) : Option ((Int32 ⊕ String) × po_I) :=
  if (l1 : Int32) < 0 then (m_X7_cell_20 I) else (if (20 : Int32) ≤ l1 then (m_X7_cell_20 I) else (if (l2 : Int32) < 0 then (m_X7_cell_20 I) else (if (l2 : Int32) < 14 then (if (l3 : Int32) < 0 then (m_X7_cell_39 I) else (if (l3 : Int32) ≤ 5 then (if (l3 : Int32) = 0 then (Option.bind (m_X5_lotWith I (l0 + 8) l1 l2) fun x3 => some (((.inl x3), I))) else (if (l3 : Int32) = 1 then (Option.bind (m_X5_standingPermitWith I (l0 + 8) l1 l2) fun x2 => some (((.inl x2), I))) else (Option.bind (m_X4_distance I (l0 + 3) (l0 + 8) l1 l2 (l3 - 2)) fun x1 => some (((.inl (x1.1)), x1.2))))) else (m_X7_cell_39 I))) else (m_X7_cell_20 I))))
abbrev m_X7_cell := @m_X7_cell_e
def m_X0_removeAll_2 (r2 : po_I → Nat → Nat → Int32 → Option (po_I)) (I : po_I) (l0 : Nat) (l1 : Nat) (l2 : Int32) : Option (po_I) :=
  if (14 : Int32) ≤ l2 then (some I) else (if po_in l2 14 = true then if po_in l2 14 = true then if po_in l2 14 = true then po_hlet (po_u I (l0 + 1) (Int32.toNatClampNeg l2) ((I (l0 + 1) (Int32.toNatClampNeg l2)) &&& ((I (l1 + 1) (Int32.toNatClampNeg l2)) ^^^ (-1)))) fun I1 => r2 I1 l0 l1 (l2 + 1) else none else none else none)
def m_X0_removeAll_2L : Nat → po_I → Nat → Nat → Int32 → Option (po_I)
  | 0 => fun _ _ _ _ => none
  | n + 1 => m_X0_removeAll_2 (m_X0_removeAll_2L n)
def m_X0_removeAll_e (I : po_I) (l0 : Nat) (l1 : Nat) : Option (po_I) :=
  m_X0_removeAll_2L 5000 I l0 l1 0
abbrev m_X0_removeAll := @m_X0_removeAll_e
def m_X5_ruleFor_e (I : po_I) (l0 : Nat) (l1 : Int32) (l2 : Int32) : Option (Int32) :=
  Option.bind (m_X5_lotAt I l0 l1) fun x1 => Option.bind (m_X5_ruleOf I l0 (I x1 0) l2) fun x2 => some x2
abbrev m_X5_ruleFor := @m_X5_ruleFor_e
def m_X0_keepAll_2 (r2 : po_I → Nat → Nat → Int32 → Option (po_I)) (I : po_I) (l0 : Nat) (l1 : Nat) (l2 : Int32) : Option (po_I) :=
  if (14 : Int32) ≤ l2 then (some I) else (if po_in l2 14 = true then if po_in l2 14 = true then if po_in l2 14 = true then po_hlet (po_u I (l0 + 1) (Int32.toNatClampNeg l2) ((I (l0 + 1) (Int32.toNatClampNeg l2)) &&& (I (l1 + 1) (Int32.toNatClampNeg l2)))) fun I1 => r2 I1 l0 l1 (l2 + 1) else none else none else none)
def m_X0_keepAll_2L : Nat → po_I → Nat → Nat → Int32 → Option (po_I)
  | 0 => fun _ _ _ _ => none
  | n + 1 => m_X0_keepAll_2 (m_X0_keepAll_2L n)
def m_X0_keepAll_e (I : po_I) (l0 : Nat) (l1 : Nat) : Option (po_I) :=
  m_X0_keepAll_2L 5000 I l0 l1 0
abbrev m_X0_keepAll := @m_X0_keepAll_e
def m_X0_longestRun_26 (l2 : Int32) : Option (Int32) :=
  some l2
def m_X0_longestRun_4 (r4 : Int32 → Int32 → Option (Int32)) (l1 : Int32) (l2 : Int32) : Option (Int32) :=
  if (l1 : Int32) = 0 then (m_X0_longestRun_26 l2) else (if (20 : Int32) ≤ l2 then (m_X0_longestRun_26 l2) else (po_let (l1 &&& (l1 <<< (1 &&& 31))) fun v1 => r4 v1 (l2 + 1)))
def m_X0_longestRun_4L : Nat → Int32 → Int32 → Option (Int32)
  | 0 => fun _ _ => none
  | n + 1 => m_X0_longestRun_4 (m_X0_longestRun_4L n)
def m_X0_longestRun_e (l0 : Int32) : Option (Int32) :=
  m_X0_longestRun_4L 5000 l0 0
abbrev m_X0_longestRun := @m_X0_longestRun_e
def m_X0_largestRectangle_20 (I : po_I) (r4 : Nat → Int32 → Int32 → Option (Int32)) (r20 : Nat → Int32 → Int32 → Int32 → Int32 → Option (Int32)) (l0 : Nat) (l1 : Int32) (l2 : Int32) (l3 : Int32) (l4 : Int32) : Option (Int32) :=
  if (14 : Int32) ≤ l4 then (r4 l0 l1 (l2 + 1)) else (if po_in l4 14 = true then po_let (l3 &&& (I (l0 + 1) (Int32.toNatClampNeg l4))) fun v1 => Option.bind (m_X0_longestRun v1) fun x2 => po_let (if (l1 : Int32) < (((l4 - l2) + 1) * x2) then (((l4 - l2) + 1) * x2) else l1) fun v3 => r20 l0 v3 l2 v1 (l4 + 1) else none)
def m_X0_largestRectangle_20L (I : po_I) (r4 : Nat → Int32 → Int32 → Option (Int32)) : Nat → Nat → Int32 → Int32 → Int32 → Int32 → Option (Int32)
  | 0 => fun _ _ _ _ _ => none
  | n + 1 => m_X0_largestRectangle_20 I r4 (m_X0_largestRectangle_20L I r4 n)
def m_X0_largestRectangle_4 (I : po_I) (r4 : Nat → Int32 → Int32 → Option (Int32)) (l0 : Nat) (l1 : Int32) (l2 : Int32) : Option (Int32) :=
  if (14 : Int32) ≤ l2 then (some l1) else (if po_in l2 14 = true then po_let (I (l0 + 1) (Int32.toNatClampNeg l2)) fun v4 => m_X0_largestRectangle_20L I r4 5000 l0 l1 l2 v4 l2 else none)
def m_X0_largestRectangle_4L (I : po_I) : Nat → Nat → Int32 → Int32 → Option (Int32)
  | 0 => fun _ _ _ => none
  | n + 1 => m_X0_largestRectangle_4 I (m_X0_largestRectangle_4L I n)
def m_X0_largestRectangle_e (I : po_I) (l0 : Nat) : Option (Int32) :=
  m_X0_largestRectangle_4L I 5000 l0 0 0
abbrev m_X0_largestRectangle := @m_X0_largestRectangle_e
def m_X4_largestBuilding_82 (r41 : po_I → Nat → Nat → Int32 → Nat → Int32 → Option (Int32 × po_I)) (r82 : po_I → Nat → Nat → Int32 → Nat → Int32 → Int32 → Int32 → Option (Int32 × po_I)) (I : po_I) (l0 : Nat) (l1 : Nat) (l2 : Int32) (l3 : Nat) (l4 : Int32) (l5 : Int32) (l6 : Int32) : Option (Int32 × po_I) :=
  if (l5 : Int32) ≤ l6 then (Option.bind (m_X0_keepAll I (l0 + 1) (l0 + 3)) fun x1 => r41 x1 l0 l1 l2 l3 (l4 + 1)) else (Option.bind (m_X0_takeEdgeOff I (l0 + 3) l4) fun x2 => r82 x2 l0 l1 l2 l3 l4 l5 (l6 + 1))
def m_X4_largestBuilding_82L (r41 : po_I → Nat → Nat → Int32 → Nat → Int32 → Option (Int32 × po_I)) : Nat → po_I → Nat → Nat → Int32 → Nat → Int32 → Int32 → Int32 → Option (Int32 × po_I)
  | 0 => fun _ _ _ _ _ _ _ _ => none
  | n + 1 => m_X4_largestBuilding_82 r41 (m_X4_largestBuilding_82L r41 n)
def m_X4_largestBuilding_63 (r41 : po_I → Nat → Nat → Int32 → Nat → Int32 → Option (Int32 × po_I)) (I : po_I) (l0 : Nat) (l1 : Nat) (l2 : Int32) (l3 : Nat) (l4 : Int32) (s0 : Nat) (s1 : Int32) (s2 : Int32) : Option (Int32 × po_I) :=
  Option.bind (m_X5_ruleFor I s0 s1 s2) fun x3 => Option.bind (m_X0_copyFrom I (l0 + 3) (l3 + 1)) fun x4 => m_X4_largestBuilding_82L r41 5000 x4 l0 l1 l2 l3 l4 x3 0
def m_X4_largestBuilding_41 (r41 : po_I → Nat → Nat → Int32 → Nat → Int32 → Option (Int32 × po_I)) (I : po_I) (l0 : Nat) (l1 : Nat) (l2 : Int32) (l3 : Nat) (l4 : Int32) : Option (Int32 × po_I) :=
  if (4 : Int32) ≤ l4 then (Option.bind (m_X0_largestRectangle I (l0 + 1)) fun x5 => some ((x5, I))) else (if (l4 : Int32) = (I l3 1) then (m_X4_largestBuilding_63 r41 I l0 l1 l2 l3 l4 l1 l2 0) else (m_X4_largestBuilding_63 r41 I l0 l1 l2 l3 l4 l1 l2 1))
def m_X4_largestBuilding_41L : Nat → po_I → Nat → Nat → Int32 → Nat → Int32 → Option (Int32 × po_I)
  | 0 => fun _ _ _ _ _ _ => none
  | n + 1 => m_X4_largestBuilding_41 (m_X4_largestBuilding_41L n)
def m_X4_largestBuilding_e (I : po_I) (l0 : Nat) (l1 : Nat) (l2 : Int32) : Option (Int32 × po_I) :=
  Option.bind (m_X5_lotAt I l1 l2) fun x6 => Option.bind (m_X5_gatherBuildings_n I l1 l2 (l0 + 3)) fun x7 => Option.bind (m_X0_copyFrom x7 (l0 + 1) (x6 + 1)) fun x8 => Option.bind (m_X0_removeAll x8 (l0 + 1) (l0 + 3)) fun x9 => m_X4_largestBuilding_41L 5000 x9 l0 l1 l2 x6 0
abbrev m_X4_largestBuilding := @m_X4_largestBuilding_e
def m_X7_largest_e (I : po_I) (l0 : Nat) (l1 : Int32) : Option ((Int32 ⊕ String) × po_I) :=
  Option.bind (m_X7_lotOrThrow I l0 l1) fun x1 => Sum.elim (fun y2 => Option.bind (m_X4_largestBuilding I (l0 + 3) (l0 + 8) l1) fun x3 => some (((.inl (x3.1)), x3.2))) (fun E => some (((.inr E), I))) x1
abbrev m_X7_largest := @m_X7_largest_e
def m_X7_permitOrThrow_15 (I : po_I) : Option ((Nat ⊕ String)) :=
  some (.inr "java/lang/IndexOutOfBoundsException")
def m_X7_permitOrThrow_e (I : po_I) (l0 : Nat) (l1 : Int32) : Option ((Nat ⊕ String)) :=
  if (l1 : Int32) < 0 then (m_X7_permitOrThrow_15 I) else (if (l1 : Int32) < (I (l0 + 8) 5) then (if po_in l1 10 = true then some (.inl ((l0 + 8) + (29 + 5 * (Int32.toNatClampNeg l1)))) else none) else (m_X7_permitOrThrow_15 I))
abbrev m_X7_permitOrThrow := @m_X7_permitOrThrow_e
def m_X2_openConditions_e (I : po_I) (l0 : Nat) : Option (Int32) :=
  Option.bind (m_J6_bitCount_0f7a4 (I l0 16)) fun x1 => some x1
abbrev m_X2_openConditions := @m_X2_openConditions_e
def m_X7_permit_133 (I : po_I) (s0 : Int32) : Option ((Int32 ⊕ String)) :=
  some (.inl s0)
def m_X7_permit_e (I : po_I) (l0 : Nat) (l1 : Int32) (l2 : Int32) : Option ((Int32 ⊕ String)) :=
  Option.bind (m_X7_permitOrThrow I l0 l1) fun x1 => Sum.elim (fun y2 => if (l2 : Int32) = 0 then (some (.inl (I y2 6))) else (if (l2 : Int32) = 1 then (some (.inl (I y2 0))) else (if (l2 : Int32) = 2 then (some (.inl (I y2 1))) else (if (l2 : Int32) = 3 then (some (.inl (I y2 2))) else (if (l2 : Int32) = 4 then (some (.inl (I y2 3))) else (if (l2 : Int32) = 5 then (some (.inl (I y2 5))) else (if (l2 : Int32) = 6 then (Option.bind (m_X2_floorArea I y2) fun x3 => some (.inl x3)) else (if (l2 : Int32) = 7 then (some (.inl (I y2 8))) else (if (l2 : Int32) = 8 then (some (.inl (I y2 9))) else (if (l2 : Int32) = 9 then (if ((I y2 6) : Int32) = 2 then (m_X7_permit_133 I (I y2 10)) else (m_X7_permit_133 I (-1))) else (if (l2 : Int32) = 10 then (some (.inl (I y2 12))) else (if (l2 : Int32) = 11 then (Option.bind (m_X2_openConditions I y2) fun x4 => some (.inl x4)) else (if (l2 : Int32) = 12 then (some (.inl (I y2 15))) else (some (.inr "java/lang/IllegalArgumentException"))))))))))))))) (fun E => some (.inr E)) x1
abbrev m_X7_permit := @m_X7_permit_e
def m_X0_cellsOutside_e (I : po_I) (l0 : Nat) (l1 : Nat) : Option (Int32) :=
  Option.bind (m_X0_size I l0) fun x1 => Option.bind (m_X0_cellsIn I l0 l1) fun x2 => some (x1 - x2)
abbrev m_X0_cellsOutside := @m_X0_cellsOutside_e
def m_X5_countsFor_25 (I : po_I) (s0 : Int32) : Option (Int32) :=
  if vp_nar .boolean s0 = s0 then some s0 else none
def m_X5_countsFor_24 (I : po_I) : Option (Int32) :=
  m_X5_countsFor_25 I 0
def m_X5_countsFor_e (I : po_I) (l0 : Nat) (l1 : Int32) (l2 : Nat) : Option (Int32) :=
  if l0 = l2 then (m_X5_countsFor_24 I) else (if ((I l0 0) : Int32) = l1 then (Option.bind (m_X2_stands I l0) fun x1 => if (x1 : Int32) = 0 then (m_X5_countsFor_24 I) else (m_X5_countsFor_25 I 1)) else (m_X5_countsFor_24 I))
abbrev m_X5_countsFor := @m_X5_countsFor_e
def m_X5_gatherBuildings_45 (r7 : po_I → Nat → Int32 → Nat → Nat → Int32 → Option (po_I)) (I : po_I) (l0 : Nat) (l1 : Int32) (l2 : Nat) (l3 : Nat) (l4 : Int32) : Option (po_I) :=
  r7 I l0 l1 l2 l3 (l4 + 1)
def m_X5_gatherBuildings_7 (r7 : po_I → Nat → Int32 → Nat → Nat → Int32 → Option (po_I)) (I : po_I) (l0 : Nat) (l1 : Int32) (l2 : Nat) (l3 : Nat) (l4 : Int32) : Option (po_I) :=
  if ((I l0 5) : Int32) ≤ l4 then (some I) else (if po_in l4 10 = true then Option.bind (m_X5_countsFor I (l0 + (29 + 5 * (Int32.toNatClampNeg l4))) l1 l2) fun x2 => if (x2 : Int32) = 0 then (m_X5_gatherBuildings_45 r7 I l0 l1 l2 l3 l4) else (if po_in l4 10 = true then Option.bind (m_X0_addAll I l3 ((l0 + (29 + 5 * (Int32.toNatClampNeg l4))) + 1)) fun x4 => m_X5_gatherBuildings_45 r7 x4 l0 l1 l2 l3 l4 else none) else none)
def m_X5_gatherBuildings_7L : Nat → po_I → Nat → Int32 → Nat → Nat → Int32 → Option (po_I)
  | 0 => fun _ _ _ _ _ _ => none
  | n + 1 => m_X5_gatherBuildings_7 (m_X5_gatherBuildings_7L n)
def m_X5_gatherBuildings_e (I : po_I) (l0 : Nat) (l1 : Int32) (l2 : Nat) (l3 : Nat) : Option (po_I) :=
  Option.bind (m_X0_clear I l3) fun x5 => m_X5_gatherBuildings_7L 5000 x5 l0 l1 l2 l3 0
abbrev m_X5_gatherBuildings := @m_X5_gatherBuildings_e
def m_X4_overlap_e (I : po_I) (l0 : Nat) (l1 : Nat) (l2 : Nat) : Option (Int32 × po_I) :=
  Option.bind (m_X5_gatherBuildings I l1 (I l2 0) l2 (l0 + 1)) fun x1 => Option.bind (m_X0_cellsIn x1 (l2 + 1) (l0 + 1)) fun x2 => some ((x2, x1))
abbrev m_X4_overlap := @m_X4_overlap_e
def m_X4_leastSideDistance_37 (r6 : po_I → Nat → Nat → Nat → Int32 → Int32 → Option (Int32 × po_I)) (I : po_I) (l0 : Nat) (l1 : Nat) (l2 : Nat) (l3 : Int32) (l4 : Int32) : Option (Int32 × po_I) :=
  r6 I l0 l1 l2 l3 (l4 + 1)
def m_X4_leastSideDistance_6 (r6 : po_I → Nat → Nat → Nat → Int32 → Int32 → Option (Int32 × po_I)) (I : po_I) (l0 : Nat) (l1 : Nat) (l2 : Nat) (l3 : Int32) (l4 : Int32) : Option (Int32 × po_I) :=
  if (4 : Int32) ≤ l4 then (some ((l3, I))) else (if (l4 : Int32) = (I l2 1) then (m_X4_leastSideDistance_37 r6 I l0 l1 l2 l3 l4) else (Option.bind (m_X4_leastDistance I l0 l1 (l2 + 1) l4) fun x1 => po_let (if ((x1.1) : Int32) < l3 then (x1.1) else l3) fun v2 => m_X4_leastSideDistance_37 r6 (x1.2) l0 l1 l2 v2 l4))
def m_X4_leastSideDistance_6L : Nat → po_I → Nat → Nat → Nat → Int32 → Int32 → Option (Int32 × po_I)
  | 0 => fun _ _ _ _ _ _ => none
  | n + 1 => m_X4_leastSideDistance_6 (m_X4_leastSideDistance_6L n)
def m_X4_leastSideDistance_e (I : po_I) (l0 : Nat) (l1 : Nat) (l2 : Nat) : Option (Int32 × po_I) :=
  m_X4_leastSideDistance_6L 5000 I l0 l1 l2 20 0
abbrev m_X4_leastSideDistance := @m_X4_leastSideDistance_e
def m_X4_dividedUp_15 (s0 : Int32) : Option (Int32) :=
  some s0
def m_X4_dividedUp_e (l0 : Int32) (l1 : Int32) : Option (Int32) :=
  if (0 : Int32) < l1 then (if l1 = 0 then none else m_X4_dividedUp_15 (((l0 + l1) - 1) / l1)) else (m_X4_dividedUp_15 0)
abbrev m_X4_dividedUp := @m_X4_dividedUp_e
def m_X4_coverage_e (I : po_I) (l0 : Nat) (l1 : Nat) (l2 : Nat) (l3 : Nat) : Option (Int32 × po_I) :=
  Option.bind (m_X5_gatherBuildings I l1 (I l2 0) l2 (l0 + 1)) fun x1 => Option.bind (m_X0_addAll x1 (l0 + 1) (l2 + 1)) fun x2 => Option.bind (m_X0_cellsIn x2 (l0 + 1) (l3 + 1)) fun x3 => Option.bind (m_X4_dividedUp (100 * x3) (x2 l3 3)) fun x4 => some ((x4, x2))
abbrev m_X4_coverage := @m_X4_coverage_e
def m_X5_standingFloorArea_42 (I : po_I) (r5 : Nat → Int32 → Nat → Int32 → Int32 → Option (Int32)) (l0 : Nat) (l1 : Int32) (l2 : Nat) (l3 : Int32) (l4 : Int32) : Option (Int32) :=
  r5 l0 l1 l2 l3 (l4 + 1)
def m_X5_standingFloorArea_5 (I : po_I) (r5 : Nat → Int32 → Nat → Int32 → Int32 → Option (Int32)) (l0 : Nat) (l1 : Int32) (l2 : Nat) (l3 : Int32) (l4 : Int32) : Option (Int32) :=
  if ((I l0 5) : Int32) ≤ l4 then (some l3) else (if po_in l4 10 = true then Option.bind (m_X5_countsFor I (l0 + (29 + 5 * (Int32.toNatClampNeg l4))) l1 l2) fun x2 => if (x2 : Int32) = 0 then (m_X5_standingFloorArea_42 I r5 l0 l1 l2 l3 l4) else (if po_in l4 10 = true then Option.bind (m_X2_floorArea I (l0 + (29 + 5 * (Int32.toNatClampNeg l4)))) fun x4 => po_let (l3 + x4) fun v5 => m_X5_standingFloorArea_42 I r5 l0 l1 l2 v5 l4 else none) else none)
def m_X5_standingFloorArea_5L (I : po_I) : Nat → Nat → Int32 → Nat → Int32 → Int32 → Option (Int32)
  | 0 => fun _ _ _ _ _ => none
  | n + 1 => m_X5_standingFloorArea_5 I (m_X5_standingFloorArea_5L I n)
def m_X5_standingFloorArea_e (I : po_I) (l0 : Nat) (l1 : Int32) (l2 : Nat) : Option (Int32) :=
  m_X5_standingFloorArea_5L I 5000 l0 l1 l2 0 0
abbrev m_X5_standingFloorArea := @m_X5_standingFloorArea_e
def m_X4_floorAreaShare_e (I : po_I) (l0 : Nat) (l1 : Nat) (l2 : Nat) (l3 : Nat) : Option (Int32) :=
  Option.bind (m_X2_floorArea I l2) fun x1 => Option.bind (m_X5_standingFloorArea I l1 (I l2 0) l2) fun x2 => po_let (x1 + x2) fun v3 => Option.bind (m_X4_dividedUp (10 * v3) (I l3 3)) fun x4 => some x4
abbrev m_X4_floorAreaShare := @m_X4_floorAreaShare_e
def m_X4_measureOf_e (I : po_I) (l0 : Nat) (l1 : Nat) (l2 : Nat) (l3 : Int32) : Option (Int32 × po_I) :=
  Option.bind (m_X5_lotAt I l1 (I l2 0)) fun x1 => if (l3 : Int32) = 0 then (Option.bind (m_X0_cellsOutside I (l2 + 1) (x1 + 1)) fun x2 => some ((x2, I))) else (if (l3 : Int32) = 1 then (Option.bind (m_X4_overlap I l0 l1 l2) fun x3 => some (((x3.1), x3.2))) else (if (l3 : Int32) = 2 then (Option.bind (m_X4_leastDistance I l0 (l2 + 1) (x1 + 1) (I x1 1)) fun x4 => some (((x4.1), x4.2))) else (if (l3 : Int32) = 3 then (Option.bind (m_X4_leastSideDistance I l0 (l2 + 1) x1) fun x5 => some (((x5.1), x5.2))) else (if (l3 : Int32) = 4 then (Option.bind (m_X4_coverage I l0 l1 l2 x1) fun x6 => some (((x6.1), x6.2))) else (if (l3 : Int32) = 5 then (some (((I l2 2), I))) else (if (l3 : Int32) = 6 then (Option.bind (m_X4_floorAreaShare I l0 l1 l2 x1) fun x7 => some ((x7, I))) else (if (l3 : Int32) = 7 then (some (((I l2 1), I))) else (if (l3 : Int32) = 8 then (some (((I l2 3), I))) else (some ((0, I)))))))))))
abbrev m_X4_measureOf := @m_X4_measureOf_e
def m_X4_limitOf_e (I : po_I) (l0 : Nat) (l1 : Nat) (l2 : Nat) (l3 : Int32) : Option (Int32) :=
  if (l3 : Int32) = 2 then (Option.bind (m_X5_ruleFor I l1 (I l2 0) 0) fun x1 => some x1) else (if (l3 : Int32) = 3 then (Option.bind (m_X5_ruleFor I l1 (I l2 0) 1) fun x2 => some x2) else (if (l3 : Int32) = 4 then (Option.bind (m_X5_ruleFor I l1 (I l2 0) 2) fun x3 => some x3) else (if (l3 : Int32) = 5 then (Option.bind (m_X5_ruleFor I l1 (I l2 0) 3) fun x4 => some x4) else (if (l3 : Int32) = 6 then (Option.bind (m_X5_ruleFor I l1 (I l2 0) 4) fun x5 => some x5) else (if (l3 : Int32) = 7 then (Option.bind (m_X5_ruleFor I l1 (I l2 0) 5) fun x6 => some x6) else (if (l3 : Int32) = 8 then (Option.bind (m_X5_ruleFor I l1 (I l2 0) 6) fun x7 => Option.bind (m_X2_floorArea I l2) fun x8 => Option.bind (m_X4_dividedUp (x7 * x8) 10) fun x9 => some x9) else (some 0)))))))
abbrev m_X4_limitOf := @m_X4_limitOf_e
def m_X4_isFinding_54 (s0 : Int32) : Option (Int32) :=
  if vp_nar .boolean s0 = s0 then some s0 else none
def m_X4_isFinding_44 (l1 : Int32) (l2 : Int32) : Option (Int32) :=
  if (l2 : Int32) ≤ l1 then (m_X4_isFinding_54 0) else (m_X4_isFinding_54 1)
def m_X4_isFinding_68 (s0 : Int32) : Option (Int32) :=
  if vp_nar .boolean s0 = s0 then some s0 else none
def m_X4_isFinding_79 (s0 : Int32) : Option (Int32) :=
  if vp_nar .boolean s0 = s0 then some s0 else none
def m_X4_isFinding_69 (l1 : Int32) (l2 : Int32) : Option (Int32) :=
  if (l1 : Int32) ≤ l2 then (m_X4_isFinding_79 0) else (m_X4_isFinding_79 1)
def m_X4_isFinding_e (l0 : Int32) (l1 : Int32) (l2 : Int32) : Option (Int32) :=
  if (l0 : Int32) = 2 then (m_X4_isFinding_44 l1 l2) else (if (l0 : Int32) = 3 then (m_X4_isFinding_44 l1 l2) else (if (l0 : Int32) = 4 then (m_X4_isFinding_69 l1 l2) else (if (l0 : Int32) = 5 then (m_X4_isFinding_69 l1 l2) else (if (l0 : Int32) = 6 then (m_X4_isFinding_69 l1 l2) else (if (l0 : Int32) = 7 then (if ((l2 &&& (1 <<< (l1 &&& 31))) : Int32) = 0 then (m_X4_isFinding_68 1) else (m_X4_isFinding_68 0)) else (if (l0 : Int32) = 8 then (m_X4_isFinding_44 l1 l2) else (m_X4_isFinding_69 l1 l2)))))))
abbrev m_X4_isFinding := @m_X4_isFinding_e
def m_X6_isInForce_13 (I : po_I) (s0 : Int32) : Option (Int32) :=
  if vp_nar .boolean s0 = s0 then some s0 else none
def m_X6_isInForce_e (I : po_I) (l0 : Nat) (l1 : Int32) : Option (Int32) :=
  if ((I l0 3) : Int32) < l1 then (m_X6_isInForce_13 I 0) else (m_X6_isInForce_13 I 1)
abbrev m_X6_isInForce := @m_X6_isInForce_e
def m_X4_helps_64 (s0 : Int32) : Option (Int32) :=
  if vp_nar .boolean s0 = s0 then some s0 else none
def m_X4_helps_44 (l0 : Int32) (l1 : Int32) (l2 : Int32) (l3 : Int32) : Option (Int32) :=
  Option.bind (m_X4_isFinding l0 l2 (if (0 : Int32) < (l3 - l1) then (l3 - l1) else 0)) fun x1 => if (x1 : Int32) = 0 then (m_X4_helps_64 1) else (m_X4_helps_64 0)
def m_X4_helps_83 (s0 : Int32) : Option (Int32) :=
  if vp_nar .boolean s0 = s0 then some s0 else none
def m_X4_helps_67 (l0 : Int32) (l1 : Int32) (l2 : Int32) (l3 : Int32) : Option (Int32) :=
  Option.bind (m_X4_isFinding l0 l2 (l3 + l1)) fun x2 => if (x2 : Int32) = 0 then (m_X4_helps_83 1) else (m_X4_helps_83 0)
def m_X4_helps_e (l0 : Int32) (l1 : Int32) (l2 : Int32) (l3 : Int32) : Option (Int32) :=
  if (l0 : Int32) = 2 then (m_X4_helps_44 l0 l1 l2 l3) else (if (l0 : Int32) = 3 then (m_X4_helps_44 l0 l1 l2 l3) else (if (l0 : Int32) = 4 then (m_X4_helps_67 l0 l1 l2 l3) else (if (l0 : Int32) = 5 then (m_X4_helps_67 l0 l1 l2 l3) else (if (l0 : Int32) = 6 then (m_X4_helps_67 l0 l1 l2 l3) else (if (l0 : Int32) = 7 then (some 1) else (if (l0 : Int32) = 8 then (m_X4_helps_44 l0 l1 l2 l3) else (m_X4_helps_67 l0 l1 l2 l3)))))))
abbrev m_X4_helps := @m_X4_helps_e
def m_X4_usedVariance_141 (r41 : po_I → Nat → Nat → Int32 → Int32 → Int32 → Int32 → Int32 → Int32 → Option (Int32 × po_I)) (I : po_I) (l1 : Nat) (l2 : Nat) (l3 : Int32) (l4 : Int32) (l5 : Int32) (l6 : Int32) (l7 : Int32) (l8 : Int32) : Option (Int32 × po_I) :=
  r41 I l1 l2 l3 l4 l5 l6 l7 (l8 + 1)
def m_X4_usedVariance_97 (r41 : po_I → Nat → Nat → Int32 → Int32 → Int32 → Int32 → Int32 → Int32 → Option (Int32 × po_I)) (I : po_I) (l1 : Nat) (l2 : Nat) (l3 : Int32) (l4 : Int32) (l5 : Int32) (l6 : Int32) (l7 : Int32) (l8 : Int32) (l9 : Nat) (s0 : Int32) : Option (Int32 × po_I) :=
  if (s0 : Int32) = 0 then (m_X4_usedVariance_141 r41 I l1 l2 l3 l4 l5 l6 l7 l8) else (if (l7 : Int32) ≤ (I l9 2) then (m_X4_usedVariance_141 r41 I l1 l2 l3 l4 l5 l6 l7 l8) else (Option.bind (m_X4_helps l3 (I l9 2) l4 l5) fun x1 => if (x1 : Int32) = 0 then (m_X4_usedVariance_141 r41 I l1 l2 l3 l4 l5 l6 l7 l8) else (po_let (I l9 2) fun v2 => m_X4_usedVariance_141 r41 I l1 l2 l3 l4 l5 l8 v2 l8)))
def m_X4_usedVariance_96 (r41 : po_I → Nat → Nat → Int32 → Int32 → Int32 → Int32 → Int32 → Int32 → Option (Int32 × po_I)) (I : po_I) (l1 : Nat) (l2 : Nat) (l3 : Int32) (l4 : Int32) (l5 : Int32) (l6 : Int32) (l7 : Int32) (l8 : Int32) (l9 : Nat) : Option (Int32 × po_I) :=
  m_X4_usedVariance_97 r41 I l1 l2 l3 l4 l5 l6 l7 l8 l9 0
def m_X4_usedVariance_41 (r41 : po_I → Nat → Nat → Int32 → Int32 → Int32 → Int32 → Int32 → Int32 → Option (Int32 × po_I)) (I : po_I) (l1 : Nat) (l2 : Nat) (l3 : Int32) (l4 : Int32) (l5 : Int32) (l6 : Int32) (l7 : Int32) (l8 : Int32) : Option (Int32 × po_I) :=
  if ((I l1 7) : Int32) ≤ l8 then (some ((l6, I))) else (if po_in l8 12 = true then if ((I (l1 + (79 + (Int32.toNatClampNeg l8))) 0) : Int32) = (I l2 0) then (if ((I (l1 + (79 + (Int32.toNatClampNeg l8))) 1) : Int32) = l3 then (Option.bind (m_X6_isInForce I (l1 + (79 + (Int32.toNatClampNeg l8))) (I l1 0)) fun x4 => if (x4 : Int32) = 0 then (m_X4_usedVariance_96 r41 I l1 l2 l3 l4 l5 l6 l7 l8 (l1 + (79 + (Int32.toNatClampNeg l8)))) else (m_X4_usedVariance_97 r41 I l1 l2 l3 l4 l5 l6 l7 l8 (l1 + (79 + (Int32.toNatClampNeg l8))) 1)) else (m_X4_usedVariance_96 r41 I l1 l2 l3 l4 l5 l6 l7 l8 (l1 + (79 + (Int32.toNatClampNeg l8))))) else (m_X4_usedVariance_96 r41 I l1 l2 l3 l4 l5 l6 l7 l8 (l1 + (79 + (Int32.toNatClampNeg l8)))) else none)
def m_X4_usedVariance_41L : Nat → po_I → Nat → Nat → Int32 → Int32 → Int32 → Int32 → Int32 → Int32 → Option (Int32 × po_I)
  | 0 => fun _ _ _ _ _ _ _ _ _ => none
  | n + 1 => m_X4_usedVariance_41 (m_X4_usedVariance_41L n)
def m_X4_usedVariance_e (I : po_I) (l0 : Nat) (l1 : Nat) (l2 : Nat) (l3 : Int32) : Option (Int32 × po_I) :=
  Option.bind (m_X4_measureOf I l0 l1 l2 l3) fun x5 => po_let (x5.1) fun v6 => Option.bind (m_X4_limitOf (x5.2) l0 l1 l2 l3) fun x7 => Option.bind (m_X4_isFinding l3 v6 x7) fun x8 => if (x8 : Int32) = 0 then (some (((-1), x5.2))) else (m_X4_usedVariance_41L 5000 (x5.2) l1 l2 l3 v6 x7 (-1) 100 0)
abbrev m_X4_usedVariance := @m_X4_usedVariance_e
def m_X4_relievedSet_31 (r5 : po_I → Nat → Nat → Nat → Int32 → Int32 → Option (Int32 × po_I)) (I : po_I) (l0 : Nat) (l1 : Nat) (l2 : Nat) (l3 : Int32) (l4 : Int32) : Option (Int32 × po_I) :=
  r5 I l0 l1 l2 l3 (l4 + 1)
def m_X4_relievedSet_5 (r5 : po_I → Nat → Nat → Nat → Int32 → Int32 → Option (Int32 × po_I)) (I : po_I) (l0 : Nat) (l1 : Nat) (l2 : Nat) (l3 : Int32) (l4 : Int32) : Option (Int32 × po_I) :=
  if (9 : Int32) ≤ l4 then (some ((l3, I))) else (Option.bind (m_X4_usedVariance I l0 l1 l2 l4) fun x1 => if ((x1.1) : Int32) = (-1) then (m_X4_relievedSet_31 r5 (x1.2) l0 l1 l2 l3 l4) else (po_let (l3 ||| (1 <<< (l4 &&& 31))) fun v2 => m_X4_relievedSet_31 r5 (x1.2) l0 l1 l2 v2 l4))
def m_X4_relievedSet_5L : Nat → po_I → Nat → Nat → Nat → Int32 → Int32 → Option (Int32 × po_I)
  | 0 => fun _ _ _ _ _ _ => none
  | n + 1 => m_X4_relievedSet_5 (m_X4_relievedSet_5L n)
def m_X4_relievedSet_e (I : po_I) (l0 : Nat) (l1 : Nat) (l2 : Nat) : Option (Int32 × po_I) :=
  m_X4_relievedSet_5L 5000 I l0 l1 l2 0 0
abbrev m_X4_relievedSet := @m_X4_relievedSet_e
def m_X4_findingSet_43 (r5 : po_I → Nat → Nat → Nat → Int32 → Int32 → Option (Int32 × po_I)) (I : po_I) (l0 : Nat) (l1 : Nat) (l2 : Nat) (l3 : Int32) (l4 : Int32) : Option (Int32 × po_I) :=
  r5 I l0 l1 l2 l3 (l4 + 1)
def m_X4_findingSet_5 (r5 : po_I → Nat → Nat → Nat → Int32 → Int32 → Option (Int32 × po_I)) (I : po_I) (l0 : Nat) (l1 : Nat) (l2 : Nat) (l3 : Int32) (l4 : Int32) : Option (Int32 × po_I) :=
  if (9 : Int32) ≤ l4 then (some ((l3, I))) else (Option.bind (m_X4_measureOf I l0 l1 l2 l4) fun x1 => Option.bind (m_X4_limitOf (x1.2) l0 l1 l2 l4) fun x2 => Option.bind (m_X4_isFinding l4 (x1.1) x2) fun x3 => if (x3 : Int32) = 0 then (m_X4_findingSet_43 r5 (x1.2) l0 l1 l2 l3 l4) else (po_let (l3 ||| (1 <<< (l4 &&& 31))) fun v4 => m_X4_findingSet_43 r5 (x1.2) l0 l1 l2 v4 l4))
def m_X4_findingSet_5L : Nat → po_I → Nat → Nat → Nat → Int32 → Int32 → Option (Int32 × po_I)
  | 0 => fun _ _ _ _ _ _ => none
  | n + 1 => m_X4_findingSet_5 (m_X4_findingSet_5L n)
def m_X4_findingSet_e (I : po_I) (l0 : Nat) (l1 : Nat) (l2 : Nat) : Option (Int32 × po_I) :=
  m_X4_findingSet_5L 5000 I l0 l1 l2 0 0
abbrev m_X4_findingSet := @m_X4_findingSet_e
def m_X7_findings_37 (I : po_I) (s0 : Int32) : Option ((Int32 ⊕ String) × po_I) :=
  some (((.inl s0), I))
def m_X7_findings_e (I : po_I) (l0 : Nat) (l1 : Int32) (l2 : Int32) : Option ((Int32 ⊕ String) × po_I) :=
  Option.bind (m_X7_permitOrThrow I l0 l1) fun x1 => Sum.elim (fun y2 => if (l2 : Int32) = 0 then (Option.bind (m_X4_findingSet I (l0 + 3) (l0 + 8) y2) fun x3 => m_X7_findings_37 (x3.2) (x3.1)) else (Option.bind (m_X4_relievedSet I (l0 + 3) (l0 + 8) y2) fun x4 => m_X7_findings_37 (x4.2) (x4.1))) (fun E => some (((.inr E), I))) x1
abbrev m_X7_findings := @m_X7_findings_e
def m_X7_finding_17 (I : po_I) : Option ((Int32 ⊕ String) × po_I) :=
  some (((.inr "java/lang/IllegalArgumentException"), I))
def m_X7_finding_e (I : po_I) (l0 : Nat) (l1 : Int32) (l2 : Int32) (l3 : Int32) : Option ((Int32 ⊕ String) × po_I) :=
  Option.bind (m_X7_permitOrThrow I l0 l1) fun x1 => Sum.elim (fun y2 => if (l2 : Int32) < 0 then (m_X7_finding_17 I) else (if (l2 : Int32) < 9 then (if (l3 : Int32) = 0 then (Option.bind (m_X4_measureOf I (l0 + 3) (l0 + 8) y2 l2) fun x3 => some (((.inl (x3.1)), x3.2))) else (if (l3 : Int32) = 1 then (Option.bind (m_X4_limitOf I (l0 + 3) (l0 + 8) y2 l2) fun x4 => some (((.inl x4), I))) else (if (l3 : Int32) = 2 then (Option.bind (m_X4_usedVariance I (l0 + 3) (l0 + 8) y2 l2) fun x5 => some (((.inl (x5.1)), x5.2))) else (some (((.inr "java/lang/IllegalArgumentException"), I)))))) else (m_X7_finding_17 I))) (fun E => some (((.inr E), I))) x1
abbrev m_X7_finding := @m_X7_finding_e
def m_X4_unrelievedSet_38 (r10 : po_I → Nat → Nat → Nat → Int32 → Int32 → Option (Int32 × po_I)) (I : po_I) (l0 : Nat) (l1 : Nat) (l2 : Nat) (l3 : Int32) (l4 : Int32) : Option (Int32 × po_I) :=
  r10 I l0 l1 l2 l3 (l4 + 1)
def m_X4_unrelievedSet_10 (r10 : po_I → Nat → Nat → Nat → Int32 → Int32 → Option (Int32 × po_I)) (I : po_I) (l0 : Nat) (l1 : Nat) (l2 : Nat) (l3 : Int32) (l4 : Int32) : Option (Int32 × po_I) :=
  if (9 : Int32) ≤ l4 then (some ((l3, I))) else (Option.bind (m_X4_usedVariance I l0 l1 l2 l4) fun x1 => if ((x1.1) : Int32) = (-1) then (m_X4_unrelievedSet_38 r10 (x1.2) l0 l1 l2 l3 l4) else (po_let (l3 &&& ((1 <<< (l4 &&& 31)) ^^^ (-1))) fun v2 => m_X4_unrelievedSet_38 r10 (x1.2) l0 l1 l2 v2 l4))
def m_X4_unrelievedSet_10L : Nat → po_I → Nat → Nat → Nat → Int32 → Int32 → Option (Int32 × po_I)
  | 0 => fun _ _ _ _ _ _ => none
  | n + 1 => m_X4_unrelievedSet_10 (m_X4_unrelievedSet_10L n)
def m_X4_unrelievedSet_e (I : po_I) (l0 : Nat) (l1 : Nat) (l2 : Nat) : Option (Int32 × po_I) :=
  Option.bind (m_X4_findingSet I l0 l1 l2) fun x3 => po_let (x3.1) fun v4 => m_X4_unrelievedSet_10L 5000 (x3.2) l0 l1 l2 v4 0
abbrev m_X4_unrelievedSet := @m_X4_unrelievedSet_e
def m_X7_worst_69 (r6 : po_I → Nat → Int32 → Int32 → Int32 → Option ((Int32 ⊕ String) × po_I)) (I : po_I) (l0 : Nat) (l1 : Int32) (l2 : Int32) (l3 : Int32) : Option ((Int32 ⊕ String) × po_I) :=
  r6 I l0 l1 l2 (l3 + 1)
def m_X7_worst_56 (r6 : po_I → Nat → Int32 → Int32 → Int32 → Option ((Int32 ⊕ String) × po_I)) (I : po_I) (l0 : Nat) (l1 : Int32) (l2 : Int32) (l3 : Int32) (s0 : Int32) : Option ((Int32 ⊕ String) × po_I) :=
  if (s0 : Int32) ≤ l2 then (m_X7_worst_69 r6 I l0 l1 l2 l3) else (m_X7_worst_69 r6 I l0 l3 s0 l3)
def m_X7_worst_6 (r6 : po_I → Nat → Int32 → Int32 → Int32 → Option ((Int32 ⊕ String) × po_I)) (I : po_I) (l0 : Nat) (l1 : Int32) (l2 : Int32) (l3 : Int32) : Option ((Int32 ⊕ String) × po_I) :=
  if ((I (l0 + 8) 5) : Int32) ≤ l3 then (if (l1 : Int32) = (-1) then (some (((.inr "java/util/NoSuchElementException"), I))) else (some (((.inl l1), I)))) else (if po_in l3 10 = true then Option.bind (m_X2_stands I ((l0 + 8) + (29 + 5 * (Int32.toNatClampNeg l3)))) fun x2 => if (x2 : Int32) = 0 then (m_X7_worst_56 r6 I l0 l1 l2 l3 0) else (Option.bind (m_X4_unrelievedSet I (l0 + 3) (l0 + 8) ((l0 + 8) + (29 + 5 * (Int32.toNatClampNeg l3)))) fun x3 => Option.bind (m_J6_bitCount_0f7a4 (x3.1)) fun x4 => m_X7_worst_56 r6 (x3.2) l0 l1 l2 l3 x4) else none)
def m_X7_worst_6L : Nat → po_I → Nat → Int32 → Int32 → Int32 → Option ((Int32 ⊕ String) × po_I)
  | 0 => fun _ _ _ _ _ => none
  | n + 1 => m_X7_worst_6 (m_X7_worst_6L n)
def m_X7_worst_e (I : po_I) (l0 : Nat) : Option ((Int32 ⊕ String) × po_I) :=
  m_X7_worst_6L 5000 I l0 (-1) 0 0
abbrev m_X7_worst := @m_X7_worst_e
def m_X4_usedVariances_35 (r5 : po_I → Nat → Nat → Nat → Int32 → Int32 → Option (Int32 × po_I)) (I : po_I) (l0 : Nat) (l1 : Nat) (l2 : Nat) (l3 : Int32) (l4 : Int32) : Option (Int32 × po_I) :=
  r5 I l0 l1 l2 l3 (l4 + 1)
def m_X4_usedVariances_5 (r5 : po_I → Nat → Nat → Nat → Int32 → Int32 → Option (Int32 × po_I)) (I : po_I) (l0 : Nat) (l1 : Nat) (l2 : Nat) (l3 : Int32) (l4 : Int32) : Option (Int32 × po_I) :=
  if (9 : Int32) ≤ l4 then (some ((l3, I))) else (Option.bind (m_X4_usedVariance I l0 l1 l2 l4) fun x1 => po_let (x1.1) fun v2 => if (v2 : Int32) = (-1) then (m_X4_usedVariances_35 r5 (x1.2) l0 l1 l2 l3 l4) else (po_let (l3 ||| (1 <<< (v2 &&& 31))) fun v3 => m_X4_usedVariances_35 r5 (x1.2) l0 l1 l2 v3 l4))
def m_X4_usedVariances_5L : Nat → po_I → Nat → Nat → Nat → Int32 → Int32 → Option (Int32 × po_I)
  | 0 => fun _ _ _ _ _ _ => none
  | n + 1 => m_X4_usedVariances_5 (m_X4_usedVariances_5L n)
def m_X4_usedVariances_e (I : po_I) (l0 : Nat) (l1 : Nat) (l2 : Nat) : Option (Int32 × po_I) :=
  m_X4_usedVariances_5L 5000 I l0 l1 l2 0 0
abbrev m_X4_usedVariances := @m_X4_usedVariances_e
def m_X2_becomeIssued_e (I : po_I) (l0 : Nat) (l1 : Int32) (l2 : Int32) : Option (po_I) :=
  po_hlet (po_u I l0 6 2) fun I1 => po_hlet (po_u I1 l0 10 (l1 + 30)) fun I2 => po_hlet (po_u I2 l0 12 l2) fun I3 => Option.bind (m_J6_bitCount_0f7a4 l2) fun x4 => po_hlet (po_u I3 l0 13 ((I3 l0 13) + (10 * x4))) fun I5 => some I5
abbrev m_X2_becomeIssued := @m_X2_becomeIssued_e
def m_X7_lowestKind_2 (r2 : Int32 → Int32 → Option (Int32)) (l0 : Int32) (l1 : Int32) : Option (Int32) :=
  if (9 : Int32) ≤ l1 then (some (-1)) else (if ((l0 &&& (1 <<< (l1 &&& 31))) : Int32) = 0 then (r2 l0 (l1 + 1)) else (some l1))
def m_X7_lowestKind_2L : Nat → Int32 → Int32 → Option (Int32)
  | 0 => fun _ _ => none
  | n + 1 => m_X7_lowestKind_2 (m_X7_lowestKind_2L n)
def m_X7_lowestKind_e (l0 : Int32) : Option (Int32) :=
  m_X7_lowestKind_2L 5000 l0 0
abbrev m_X7_lowestKind := @m_X7_lowestKind_e
def m_X2_becomeRefused_e (I : po_I) (l0 : Nat) (l1 : Int32) : Option (po_I) :=
  po_hlet (po_u I l0 6 1) fun I1 => po_hlet (po_u I1 l0 7 l1) fun I2 => Option.bind (m_X2_applyFee I2 l0) fun x3 => po_hlet (po_u I2 l0 14 ((I2 l0 14) + (x3 / 2))) fun I4 => some I4
abbrev m_X2_becomeRefused := @m_X2_becomeRefused_e
def m_X7_decide_78 (I : po_I) (R : po_R) (l2 : Nat) : Option ((Int32 ⊕ String) × po_I × po_R) :=
  some (((.inl (I l2 6)), I, R))
def m_X7_decide_e (I : po_I) (R : po_R) (l0 : Nat) (l1 : Int32) : Option ((Int32 ⊕ String) × po_I × po_R) :=
  Option.bind (m_X7_permitOrThrow I l0 l1) fun x1 => Sum.elim (fun y2 => if ((I y2 6) : Int32) = 0 then (Option.bind (m_X7_remember I R l0) fun x3 => Option.bind (m_X4_unrelievedSet (x3.1) (l0 + 3) (l0 + 8) y2) fun x4 => po_let (x4.1) fun v5 => if (v5 : Int32) = 0 then (Option.bind (m_X4_usedVariances (x4.2) (l0 + 3) (l0 + 8) y2) fun x8 => Option.bind (m_X2_becomeIssued (x8.2) y2 ((x4.2) (l0 + 8) 0) (x8.1)) fun x9 => m_X7_decide_78 x9 (x3.2) y2) else (Option.bind (m_X7_lowestKind v5) fun x6 => Option.bind (m_X2_becomeRefused (x4.2) y2 x6) fun x7 => m_X7_decide_78 x7 (x3.2) y2)) else (some (((.inr "java/lang/IllegalStateException"), I, R)))) (fun E => some (((.inr E), I, R))) x1
abbrev m_X7_decide := @m_X7_decide_e
def m_X7_reason_e (I : po_I) (l0 : Nat) (l1 : Int32) : Option ((Int32 ⊕ String)) :=
  Option.bind (m_X7_permitOrThrow I l0 l1) fun x1 => Sum.elim (fun y2 => if ((I y2 6) : Int32) = 1 then (some (.inl (I y2 7))) else (some (.inr "java/util/NoSuchElementException"))) (fun E => some (.inr E)) x1
abbrev m_X7_reason := @m_X7_reason_e
def m_X7_revoke_34 (I : po_I) (R : po_R) (l0 : Nat) (l2 : Nat) : Option ((Int32 ⊕ String) × po_I × po_R) :=
  Option.bind (m_X7_remember I R l0) fun x1 => po_let (2 * (4 - ((x1.1) l2 8))) fun v2 => po_hlet (po_u (x1.1) l2 6 5) fun I3 => po_hlet (po_u I3 l2 14 ((I3 l2 14) + v2)) fun I4 => some (((.inl v2), I4, x1.2))
def m_X7_revoke_e (I : po_I) (R : po_R) (l0 : Nat) (l1 : Int32) : Option ((Int32 ⊕ String) × po_I × po_R) :=
  Option.bind (m_X7_permitOrThrow I l0 l1) fun x5 => Sum.elim (fun y6 => if ((I y6 6) : Int32) = 2 then (m_X7_revoke_34 I R l0 y6) else (if ((I y6 6) : Int32) = 6 then (m_X7_revoke_34 I R l0 y6) else (some (((.inr "java/lang/IllegalStateException"), I, R))))) (fun E => some (((.inr E), I, R))) x5
abbrev m_X7_revoke := @m_X7_revoke_e
def m_X2_urgency_e (I : po_I) (l0 : Nat) : Option (Int32) :=
  if ((I l0 6) : Int32) = 0 then (some 2000000) else (if ((I l0 6) : Int32) = 2 then (some (I l0 10)) else (if ((I l0 6) : Int32) = 6 then (some 1000000) else (some 3000000)))
abbrev m_X2_urgency := @m_X2_urgency_e
def m_X5_permitsBefore_72 (I : po_I) (r30 : Nat → Int32 → Int32 → Int32 → Int32 → Option (Int32)) (l0 : Nat) (l1 : Int32) (l2 : Int32) (l3 : Int32) (l4 : Int32) : Option (Int32) :=
  r30 l0 l1 l2 l3 (l4 + 1)
def m_X5_permitsBefore_69 (I : po_I) (r30 : Nat → Int32 → Int32 → Int32 → Int32 → Option (Int32)) (l0 : Nat) (l1 : Int32) (l2 : Int32) (l3 : Int32) (l4 : Int32) : Option (Int32) :=
  m_X5_permitsBefore_72 I r30 l0 l1 l2 (l3 + 1) l4
def m_X5_permitsBefore_30 (I : po_I) (r30 : Nat → Int32 → Int32 → Int32 → Int32 → Option (Int32)) (l0 : Nat) (l1 : Int32) (l2 : Int32) (l3 : Int32) (l4 : Int32) : Option (Int32) :=
  if ((I l0 5) : Int32) ≤ l4 then (some l3) else (if po_in l4 10 = true then Option.bind (m_X2_urgency I (l0 + (29 + 5 * (Int32.toNatClampNeg l4)))) fun x2 => if (x2 : Int32) < l2 then (m_X5_permitsBefore_69 I r30 l0 l1 l2 l3 l4) else (if (x2 : Int32) = l2 then (if (l1 : Int32) ≤ l4 then (m_X5_permitsBefore_72 I r30 l0 l1 l2 l3 l4) else (m_X5_permitsBefore_69 I r30 l0 l1 l2 l3 l4)) else (m_X5_permitsBefore_72 I r30 l0 l1 l2 l3 l4)) else none)
def m_X5_permitsBefore_30L (I : po_I) : Nat → Nat → Int32 → Int32 → Int32 → Int32 → Option (Int32)
  | 0 => fun _ _ _ _ _ => none
  | n + 1 => m_X5_permitsBefore_30 I (m_X5_permitsBefore_30L I n)
def m_X5_permitsBefore_24 (I : po_I) (l0 : Nat) (l1 : Int32) (s0 : Int32) : Option (Int32) :=
  m_X5_permitsBefore_30L I 5000 l0 l1 s0 0 0
def m_X5_permitsBefore_22 (I : po_I) (l0 : Nat) (l1 : Int32) : Option (Int32) :=
  m_X5_permitsBefore_24 I l0 l1 3000000
def m_X5_permitsBefore_e (I : po_I) (l0 : Nat) (l1 : Int32) : Option (Int32) :=
  if (l1 : Int32) < 0 then (m_X5_permitsBefore_22 I l0 l1) else (if (10 : Int32) ≤ l1 then (m_X5_permitsBefore_22 I l0 l1) else (if po_in l1 10 = true then Option.bind (m_X2_urgency I (l0 + (29 + 5 * (Int32.toNatClampNeg l1)))) fun x4 => m_X5_permitsBefore_24 I l0 l1 x4 else none))
abbrev m_X5_permitsBefore := @m_X5_permitsBefore_e
def m_X5_permitInUrgency_35 (I : po_I) (r2 : Nat → Int32 → Int32 → Option (Int32)) (l0 : Nat) (l1 : Int32) (l2 : Int32) : Option (Int32) :=
  r2 l0 l1 (l2 + 1)
def m_X5_permitInUrgency_2 (I : po_I) (r2 : Nat → Int32 → Int32 → Option (Int32)) (l0 : Nat) (l1 : Int32) (l2 : Int32) : Option (Int32) :=
  if ((I l0 5) : Int32) ≤ l2 then (some (-1)) else (if po_in l2 10 = true then Option.bind (m_X2_urgency I (l0 + (29 + 5 * (Int32.toNatClampNeg l2)))) fun x2 => if (x2 : Int32) = 3000000 then (m_X5_permitInUrgency_35 I r2 l0 l1 l2) else (Option.bind (m_X5_permitsBefore I l0 l2) fun x3 => if (x3 : Int32) = l1 then (some l2) else (m_X5_permitInUrgency_35 I r2 l0 l1 l2)) else none)
def m_X5_permitInUrgency_2L (I : po_I) : Nat → Nat → Int32 → Int32 → Option (Int32)
  | 0 => fun _ _ _ => none
  | n + 1 => m_X5_permitInUrgency_2 I (m_X5_permitInUrgency_2L I n)
def m_X5_permitInUrgency_e (I : po_I) (l0 : Nat) (l1 : Int32) : Option (Int32) :=
  m_X5_permitInUrgency_2L I 5000 l0 l1 0
abbrev m_X5_permitInUrgency := @m_X5_permitInUrgency_e
def m_X7_urgent_e (I : po_I) (l0 : Nat) (l1 : Int32) : Option ((Int32 ⊕ String)) :=
  Option.bind (m_X5_permitInUrgency I (l0 + 8) l1) fun x1 => if (x1 : Int32) = (-1) then (some (.inr "java/util/NoSuchElementException")) else (some (.inl x1))
abbrev m_X7_urgent := @m_X7_urgent_e
def m_X5_permitsNaming_31 (I : po_I) (r4 : Nat → Int32 → Int32 → Int32 → Option (Int32)) (l0 : Nat) (l1 : Int32) (l2 : Int32) (l3 : Int32) : Option (Int32) :=
  r4 l0 l1 l2 (l3 + 1)
def m_X5_permitsNaming_4 (I : po_I) (r4 : Nat → Int32 → Int32 → Int32 → Option (Int32)) (l0 : Nat) (l1 : Int32) (l2 : Int32) (l3 : Int32) : Option (Int32) :=
  if ((I l0 5) : Int32) ≤ l3 then (some l2) else (if po_in l3 10 = true then if (((I (l0 + (29 + 5 * (Int32.toNatClampNeg l3))) 12) &&& (1 <<< (l1 &&& 31))) : Int32) = 0 then (m_X5_permitsNaming_31 I r4 l0 l1 l2 l3) else (m_X5_permitsNaming_31 I r4 l0 l1 (l2 + 1) l3) else none)
def m_X5_permitsNaming_4L (I : po_I) : Nat → Nat → Int32 → Int32 → Int32 → Option (Int32)
  | 0 => fun _ _ _ _ => none
  | n + 1 => m_X5_permitsNaming_4 I (m_X5_permitsNaming_4L I n)
def m_X5_permitsNaming_e (I : po_I) (l0 : Nat) (l1 : Int32) : Option (Int32) :=
  m_X5_permitsNaming_4L I 5000 l0 l1 0 0
abbrev m_X5_permitsNaming := @m_X5_permitsNaming_e
def m_X7_variance_15 (I : po_I) : Option ((Int32 ⊕ String)) :=
  some (.inr "java/lang/IndexOutOfBoundsException")
def m_X7_variance_124 (I : po_I) (s0 : Int32) : Option ((Int32 ⊕ String)) :=
  some (.inl s0)
def m_X7_variance_e (I : po_I) (l0 : Nat) (l1 : Int32) (l2 : Int32) : Option ((Int32 ⊕ String)) :=
  if (l1 : Int32) < 0 then (m_X7_variance_15 I) else (if (l1 : Int32) < (I (l0 + 8) 7) then (if po_in l1 12 = true then if (l2 : Int32) = 0 then (some (.inl (I ((l0 + 8) + (79 + (Int32.toNatClampNeg l1))) 0))) else (if (l2 : Int32) = 1 then (some (.inl (I ((l0 + 8) + (79 + (Int32.toNatClampNeg l1))) 1))) else (if (l2 : Int32) = 2 then (some (.inl (I ((l0 + 8) + (79 + (Int32.toNatClampNeg l1))) 2))) else (if (l2 : Int32) = 3 then (some (.inl (I ((l0 + 8) + (79 + (Int32.toNatClampNeg l1))) 3))) else (if (l2 : Int32) = 4 then (Option.bind (m_X5_permitsNaming I (l0 + 8) l1) fun x2 => some (.inl x2)) else (if (l2 : Int32) = 5 then (Option.bind (m_X6_isInForce I ((l0 + 8) + (79 + (Int32.toNatClampNeg l1))) (I (l0 + 8) 0)) fun x3 => if (x3 : Int32) = 0 then (m_X7_variance_124 I 0) else (m_X7_variance_124 I 1)) else (some (.inr "java/lang/IllegalArgumentException"))))))) else none) else (m_X7_variance_15 I))
abbrev m_X7_variance := @m_X7_variance_e
def m_X4_neededAmount_64 (I : po_I) (s0 : Int32) : Option (Int32 × po_I) :=
  some ((s0, I))
def m_X4_neededAmount_49 (I : po_I) (s0 : Int32) : Option (Int32 × po_I) :=
  if (99 : Int32) < s0 then (m_X4_neededAmount_64 I (-1)) else (m_X4_neededAmount_64 I s0)
def m_X4_neededAmount_e (I : po_I) (l0 : Nat) (l1 : Nat) (l2 : Nat) (l3 : Int32) : Option (Int32 × po_I) :=
  Option.bind (m_X4_measureOf I l0 l1 l2 l3) fun x1 => po_let (x1.1) fun v2 => Option.bind (m_X4_limitOf (x1.2) l0 l1 l2 l3) fun x3 => Option.bind (m_X4_isFinding l3 v2 x3) fun x4 => if (x4 : Int32) = 0 then (some ((0, x1.2))) else (if (l3 : Int32) = 7 then (m_X4_neededAmount_49 (x1.2) 1) else (m_X4_neededAmount_49 (x1.2) (if (0 : Int32) ≤ (v2 - x3) then (v2 - x3) else 0 - (v2 - x3))))
abbrev m_X4_neededAmount := @m_X4_neededAmount_e
def m_X7_needed_17 (I : po_I) : Option ((Int32 ⊕ String) × po_I) :=
  some (((.inr "java/lang/IllegalArgumentException"), I))
def m_X7_needed_e (I : po_I) (l0 : Nat) (l1 : Int32) (l2 : Int32) : Option ((Int32 ⊕ String) × po_I) :=
  Option.bind (m_X7_permitOrThrow I l0 l1) fun x1 => Sum.elim (fun y2 => if (l2 : Int32) < 2 then (m_X7_needed_17 I) else (if (l2 : Int32) ≤ 8 then (Option.bind (m_X4_neededAmount I (l0 + 3) (l0 + 8) y2 l2) fun x3 => some (((.inl (x3.1)), x3.2))) else (m_X7_needed_17 I))) (fun E => some (((.inr E), I))) x1
abbrev m_X7_needed := @m_X7_needed_e
def m_X2_isOpen_16 (I : po_I) (s0 : Int32) : Option (Int32) :=
  if vp_nar .boolean s0 = s0 then some s0 else none
def m_X2_isOpen_e (I : po_I) (l0 : Nat) (l1 : Int32) : Option (Int32) :=
  if (((I l0 16) &&& (1 <<< (l1 &&& 31))) : Int32) = 0 then (m_X2_isOpen_16 I 0) else (m_X2_isOpen_16 I 1)
abbrev m_X2_isOpen := @m_X2_isOpen_e
def m_X7_condition_20 (I : po_I) : Option ((Int32 ⊕ String)) :=
  some (.inr "java/lang/IndexOutOfBoundsException")
def m_X7_condition_90 (I : po_I) (s0 : Int32) : Option ((Int32 ⊕ String)) :=
  some (.inl s0)
def m_X7_condition_e (I : po_I) (l0 : Nat) (l1 : Int32) (l2 : Int32) (l3 : Int32) : Option ((Int32 ⊕ String)) :=
  Option.bind (m_X7_permitOrThrow I l0 l1) fun x1 => Sum.elim (fun y2 => if (l2 : Int32) < 0 then (m_X7_condition_20 I) else (if (l2 : Int32) < (I y2 15) then (if (l3 : Int32) = 0 then (if po_in l2 6 = true then some (.inl (I (y2 + 3) (Int32.toNatClampNeg l2))) else none) else (if (l3 : Int32) = 1 then (if po_in l2 6 = true then some (.inl (I (y2 + 4) (Int32.toNatClampNeg l2))) else none) else (if (l3 : Int32) = 2 then (Option.bind (m_X2_isOpen I y2 l2) fun x3 => if (x3 : Int32) = 0 then (m_X7_condition_90 I 0) else (m_X7_condition_90 I 1)) else (some (.inr "java/lang/IllegalArgumentException"))))) else (m_X7_condition_20 I))) (fun E => some (.inr E)) x1
abbrev m_X7_condition := @m_X7_condition_e
def m_X2_openSetWithLetter_34 (I : po_I) (r4 : Nat → Int32 → Int32 → Int32 → Option (Int32)) (l0 : Nat) (l1 : Int32) (l2 : Int32) (l3 : Int32) : Option (Int32) :=
  r4 l0 l1 l2 (l3 + 1)
def m_X2_openSetWithLetter_4 (I : po_I) (r4 : Nat → Int32 → Int32 → Int32 → Option (Int32)) (l0 : Nat) (l1 : Int32) (l2 : Int32) (l3 : Int32) : Option (Int32) :=
  if (6 : Int32) ≤ l3 then (some l2) else (Option.bind (m_X2_isOpen I l0 l3) fun x1 => if (x1 : Int32) = 0 then (m_X2_openSetWithLetter_34 I r4 l0 l1 l2 l3) else (if po_in l3 6 = true then if ((I (l0 + 4) (Int32.toNatClampNeg l3)) : Int32) = l1 then (po_let (l2 ||| (1 <<< (l3 &&& 31))) fun v2 => m_X2_openSetWithLetter_34 I r4 l0 l1 v2 l3) else (m_X2_openSetWithLetter_34 I r4 l0 l1 l2 l3) else none))
def m_X2_openSetWithLetter_4L (I : po_I) : Nat → Nat → Int32 → Int32 → Int32 → Option (Int32)
  | 0 => fun _ _ _ _ => none
  | n + 1 => m_X2_openSetWithLetter_4 I (m_X2_openSetWithLetter_4L I n)
def m_X2_openSetWithLetter_e (I : po_I) (l0 : Nat) (l1 : Int32) : Option (Int32) :=
  m_X2_openSetWithLetter_4L I 5000 l0 l1 0 0
abbrev m_X2_openSetWithLetter := @m_X2_openSetWithLetter_e
def m_X7_fulfil_e (I : po_I) (R : po_R) (l0 : Nat) (l1 : Int32) (l2 : Int32) : Option ((Int32 ⊕ String) × po_I × po_R) :=
  Option.bind (m_X7_permitOrThrow I l0 l1) fun x1 => Sum.elim (fun y2 => Option.bind (m_X2_openSetWithLetter I y2 l2) fun x3 => if (x3 : Int32) = 0 then (some (((.inr "java/util/NoSuchElementException"), I, R))) else (Option.bind (m_X7_remember I R l0) fun x4 => po_hlet (po_u (x4.1) y2 16 (((x4.1) y2 16) &&& (x3 ^^^ (-1)))) fun I5 => Option.bind (m_X2_openConditions I5 y2) fun x6 => some (((.inl x6), I5, x4.2)))) (fun E => some (((.inr E), I, R))) x1
abbrev m_X7_fulfil := @m_X7_fulfil_e
def m_X2_hasOpenInPhase_31 (I : po_I) (r2 : Nat → Int32 → Option (Int32)) (l0 : Nat) (l1 : Int32) : Option (Int32) :=
  r2 l0 (l1 + 1)
def m_X2_hasOpenInPhase_2 (I : po_I) (r2 : Nat → Int32 → Option (Int32)) (l0 : Nat) (l1 : Int32) : Option (Int32) :=
  if (6 : Int32) ≤ l1 then (some 0) else (Option.bind (m_X2_isOpen I l0 l1) fun x1 => if (x1 : Int32) = 0 then (m_X2_hasOpenInPhase_31 I r2 l0 l1) else (if po_in l1 6 = true then if ((I (l0 + 3) (Int32.toNatClampNeg l1)) : Int32) = (I l0 8) then (some 1) else (m_X2_hasOpenInPhase_31 I r2 l0 l1) else none))
def m_X2_hasOpenInPhase_2L (I : po_I) : Nat → Nat → Int32 → Option (Int32)
  | 0 => fun _ _ => none
  | n + 1 => m_X2_hasOpenInPhase_2 I (m_X2_hasOpenInPhase_2L I n)
def m_X2_hasOpenInPhase_e (I : po_I) (l0 : Nat) : Option (Int32) :=
  m_X2_hasOpenInPhase_2L I 5000 l0 0
abbrev m_X2_hasOpenInPhase := @m_X2_hasOpenInPhase_e
def m_X2_passPhase_36 (I : po_I) : Option (po_I) :=
  some I
def m_X2_passPhase_e (I : po_I) (l0 : Nat) (l1 : Int32) : Option (po_I) :=
  po_hlet (po_u I l0 8 ((I l0 8) + 1)) fun I1 => po_hlet (po_u I1 l0 9 0) fun I2 => po_hlet (po_u I2 l0 10 (l1 + 30)) fun I3 => if ((I3 l0 8) : Int32) < 4 then (m_X2_passPhase_36 I3) else (po_hlet (po_u I3 l0 6 3) fun I4 => m_X2_passPhase_36 I4)
abbrev m_X2_passPhase := @m_X2_passPhase_e
def m_X2_failPhase_24 (I : po_I) : Option (po_I) :=
  some I
def m_X2_failPhase_e (I : po_I) (l0 : Nat) : Option (po_I) :=
  po_hlet (po_u I l0 9 ((I l0 9) + 1)) fun I1 => if ((I1 l0 9) : Int32) < 3 then (m_X2_failPhase_24 I1) else (po_hlet (po_u I1 l0 6 6) fun I2 => m_X2_failPhase_24 I2)
abbrev m_X2_failPhase := @m_X2_failPhase_e
def m_X7_inspect_81 (I : po_I) (R : po_R) (l3 : Int32) : Option ((Int32 ⊕ String) × po_I × po_R) :=
  if vp_nar .boolean l3 = l3 then some (((.inl l3), I, R)) else none
def m_X7_inspect_58 (I : po_I) (R : po_R) (l0 : Nat) (l2 : Nat) (s0 : Int32) : Option ((Int32 ⊕ String) × po_I × po_R) :=
  if (s0 : Int32) = 0 then (Option.bind (m_X2_failPhase I l2) fun x1 => m_X7_inspect_81 x1 R s0) else (Option.bind (m_X2_passPhase I l2 (I (l0 + 8) 0)) fun x2 => m_X7_inspect_81 x2 R s0)
def m_X7_inspect_46 (I : po_I) (R : po_R) (l0 : Nat) (l2 : Nat) : Option ((Int32 ⊕ String) × po_I × po_R) :=
  Option.bind (m_X2_hasOpenInPhase I l2) fun x3 => if (x3 : Int32) = 0 then (m_X7_inspect_58 I R l0 l2 1) else (m_X7_inspect_58 I R l0 l2 0)
def m_X7_inspect_e (I : po_I) (R : po_R) (l0 : Nat) (l1 : Int32) : Option ((Int32 ⊕ String) × po_I × po_R) :=
  Option.bind (m_X7_permitOrThrow I l0 l1) fun x4 => Sum.elim (fun y5 => if ((I y5 6) : Int32) = 2 then (Option.bind (m_X7_remember I R l0) fun x6 => if (((x6.1) y5 9) : Int32) ≤ 0 then (m_X7_inspect_46 (x6.1) (x6.2) l0 y5) else (po_hlet (po_u (x6.1) y5 13 (((x6.1) y5 13) + 5)) fun I7 => m_X7_inspect_46 I7 (x6.2) l0 y5)) else (some (((.inr "java/lang/IllegalStateException"), I, R)))) (fun E => some (((.inr E), I, R))) x4
abbrev m_X7_inspect := @m_X7_inspect_e
def m_X7_reinstate_e (I : po_I) (R : po_R) (l0 : Nat) (l1 : Int32) : Option ((Int32 ⊕ String) × po_I × po_R) :=
  Option.bind (m_X7_permitOrThrow I l0 l1) fun x1 => Sum.elim (fun y2 => if ((I y2 6) : Int32) = 6 then (Option.bind (m_X7_remember I R l0) fun x3 => po_hlet (po_u (x3.1) y2 6 2) fun I4 => po_hlet (po_u I4 y2 9 0) fun I5 => po_hlet (po_u I5 y2 10 ((I5 (l0 + 8) 0) + 30)) fun I6 => po_hlet (po_u I6 y2 13 ((I6 y2 13) + 25)) fun I7 => some (((.inl (I7 y2 8)), I7, x3.2))) else (some (((.inr "java/lang/IllegalStateException"), I, R)))) (fun E => some (((.inr E), I, R))) x1
abbrev m_X7_reinstate := @m_X7_reinstate_e
def m_X7_extend_21 (I : po_I) (R : po_R) : Option ((Int32 ⊕ String) × po_I × po_R) :=
  some (((.inr "java/lang/IllegalStateException"), I, R))
def m_X7_extend_e (I : po_I) (R : po_R) (l0 : Nat) (l1 : Int32) : Option ((Int32 ⊕ String) × po_I × po_R) :=
  Option.bind (m_X7_permitOrThrow I l0 l1) fun x1 => Sum.elim (fun y2 => if ((I y2 6) : Int32) = 2 then (if ((vp_nar .boolean (I y2 11)) : Int32) = 0 then (Option.bind (m_X7_remember I R l0) fun x3 => po_hlet (po_u (x3.1) y2 11 1) fun I4 => po_hlet (po_u I4 y2 10 ((I4 y2 10) + 15)) fun I5 => po_hlet (po_u I5 y2 13 ((I5 y2 13) + 15)) fun I6 => some (((.inl (I6 y2 10)), I6, x3.2))) else (m_X7_extend_21 I R)) else (m_X7_extend_21 I R)) (fun E => some (((.inr E), I, R))) x1
abbrev m_X7_extend := @m_X7_extend_e
def m_X7_pass_11 (I : po_I) (R : po_R) : Option ((Int32 ⊕ String) × po_I × po_R) :=
  some (((.inr "java/lang/IllegalArgumentException"), I, R))
def m_X7_pass_98 (r43 : po_I → po_R → Nat → Int32 → Int32 → Option ((Int32 ⊕ String) × po_I × po_R)) (I : po_I) (R : po_R) (l0 : Nat) (l2 : Int32) (l3 : Int32) : Option ((Int32 ⊕ String) × po_I × po_R) :=
  r43 I R l0 l2 (l3 + 1)
def m_X7_pass_43 (r43 : po_I → po_R → Nat → Int32 → Int32 → Option ((Int32 ⊕ String) × po_I × po_R)) (I : po_I) (R : po_R) (l0 : Nat) (l2 : Int32) (l3 : Int32) : Option ((Int32 ⊕ String) × po_I × po_R) :=
  if ((I (l0 + 8) 5) : Int32) ≤ l3 then (some (((.inl l2), I, R))) else (if po_in l3 10 = true then if ((I ((l0 + 8) + (29 + 5 * (Int32.toNatClampNeg l3))) 6) : Int32) = 2 then (if ((I (l0 + 8) 0) : Int32) ≤ (I ((l0 + 8) + (29 + 5 * (Int32.toNatClampNeg l3))) 10) then (m_X7_pass_98 r43 I R l0 l2 l3) else (po_hlet (po_u I ((l0 + 8) + (29 + 5 * (Int32.toNatClampNeg l3))) 6 4) fun I2 => m_X7_pass_98 r43 I2 R l0 (l2 + 1) l3)) else (m_X7_pass_98 r43 I R l0 l2 l3) else none)
def m_X7_pass_43L : Nat → po_I → po_R → Nat → Int32 → Int32 → Option ((Int32 ⊕ String) × po_I × po_R)
  | 0 => fun _ _ _ _ _ => none
  | n + 1 => m_X7_pass_43 (m_X7_pass_43L n)
def m_X7_pass_e (I : po_I) (R : po_R) (l0 : Nat) (l1 : Int32) : Option ((Int32 ⊕ String) × po_I × po_R) :=
  if (l1 : Int32) < 1 then (m_X7_pass_11 I R) else (if (l1 : Int32) ≤ 50 then (Option.bind (m_X7_remember I R l0) fun x3 => po_hlet (po_u (x3.1) (l0 + 8) 0 (((x3.1) (l0 + 8) 0) + l1)) fun I4 => m_X7_pass_43L 5000 I4 (x3.2) l0 0 0) else (m_X7_pass_11 I R))
abbrev m_X7_pass := @m_X7_pass_e
def m_X7_account_16 (I : po_I) : Option ((Int32 ⊕ String)) :=
  some (.inr "java/lang/IndexOutOfBoundsException")
def m_X7_account_36 (I : po_I) : Option ((Int32 ⊕ String)) :=
  some (.inr "java/lang/IllegalArgumentException")
def m_X7_account_140 (I : po_I) (s0 : Int32) : Option ((Int32 ⊕ String)) :=
  some (.inl s0)
def m_X7_account_112 (I : po_I) (r55 : Nat → Int32 → Int32 → Int32 → Int32 → Int32 → Option ((Int32 ⊕ String))) (l0 : Nat) (l1 : Int32) (l2 : Int32) (l3 : Int32) (l4 : Int32) (l5 : Int32) : Option ((Int32 ⊕ String)) :=
  r55 l0 l1 l2 l3 l4 (l5 + 1)
def m_X7_account_78 (I : po_I) (r55 : Nat → Int32 → Int32 → Int32 → Int32 → Int32 → Option ((Int32 ⊕ String))) (l0 : Nat) (l1 : Int32) (l2 : Int32) (l3 : Int32) (l4 : Int32) (l5 : Int32) : Option ((Int32 ⊕ String)) :=
  if po_in l5 10 = true then po_let (l3 + (I ((l0 + 8) + (29 + 5 * (Int32.toNatClampNeg l5))) 13)) fun v2 => if po_in l5 10 = true then po_let (l4 + (I ((l0 + 8) + (29 + 5 * (Int32.toNatClampNeg l5))) 14)) fun v4 => m_X7_account_112 I r55 l0 l1 l2 v2 v4 l5 else none else none
def m_X7_account_55 (I : po_I) (r55 : Nat → Int32 → Int32 → Int32 → Int32 → Int32 → Option ((Int32 ⊕ String))) (l0 : Nat) (l1 : Int32) (l2 : Int32) (l3 : Int32) (l4 : Int32) (l5 : Int32) : Option ((Int32 ⊕ String)) :=
  if ((I (l0 + 8) 5) : Int32) ≤ l5 then (if (l2 : Int32) = 0 then (m_X7_account_140 I l3) else (if (l2 : Int32) = 1 then (m_X7_account_140 I l4) else (m_X7_account_140 I (l3 - l4)))) else (if (l1 : Int32) = (-1) then (m_X7_account_78 I r55 l0 l1 l2 l3 l4 l5) else (if (l1 : Int32) = l5 then (m_X7_account_78 I r55 l0 l1 l2 l3 l4 l5) else (m_X7_account_112 I r55 l0 l1 l2 l3 l4 l5)))
def m_X7_account_55L (I : po_I) : Nat → Nat → Int32 → Int32 → Int32 → Int32 → Int32 → Option ((Int32 ⊕ String))
  | 0 => fun _ _ _ _ _ _ => none
  | n + 1 => m_X7_account_55 I (m_X7_account_55L I n)
def m_X7_account_e (I : po_I) (l0 : Nat) (l1 : Int32) (l2 : Int32) : Option ((Int32 ⊕ String)) :=
  if (l1 : Int32) < (-1) then (m_X7_account_16 I) else (if (l1 : Int32) < (I (l0 + 8) 5) then (if (l2 : Int32) < 0 then (m_X7_account_36 I) else (if (l2 : Int32) ≤ 2 then (m_X7_account_55L I 5000 l0 l1 l2 0 0 0) else (m_X7_account_36 I))) else (m_X7_account_16 I))
abbrev m_X7_account := @m_X7_account_e
noncomputable def m_X7_meanFloorArea_50 (I : po_I) (r6 : Nat → Int32 → Int32 → Int32 → Option ((UInt32 ⊕ String))) (l0 : Nat) (l1 : Int32) (l2 : Int32) (l3 : Int32) : Option ((UInt32 ⊕ String)) :=
  r6 l0 l1 l2 (l3 + 1)
noncomputable def m_X7_meanFloorArea_6 (I : po_I) (r6 : Nat → Int32 → Int32 → Int32 → Option ((UInt32 ⊕ String))) (l0 : Nat) (l1 : Int32) (l2 : Int32) (l3 : Int32) : Option ((UInt32 ⊕ String)) :=
  if ((I (l0 + 8) 5) : Int32) ≤ l3 then (if (l2 : Int32) = 0 then (some (.inr "java/lang/ArithmeticException")) else (po_gn (vf_n32 (FP.fdiv (FP.i2f l1) (FP.i2f l2))) (some (.inl (FP.fdiv (FP.i2f l1) (FP.i2f l2)))))) else (if po_in l3 10 = true then Option.bind (m_X2_stands I ((l0 + 8) + (29 + 5 * (Int32.toNatClampNeg l3)))) fun x2 => if (x2 : Int32) = 0 then (m_X7_meanFloorArea_50 I r6 l0 l1 l2 l3) else (if po_in l3 10 = true then Option.bind (m_X2_floorArea I ((l0 + 8) + (29 + 5 * (Int32.toNatClampNeg l3)))) fun x4 => po_let (l1 + x4) fun v5 => m_X7_meanFloorArea_50 I r6 l0 v5 (l2 + 1) l3 else none) else none)
noncomputable def m_X7_meanFloorArea_6L (I : po_I) : Nat → Nat → Int32 → Int32 → Int32 → Option ((UInt32 ⊕ String))
  | 0 => fun _ _ _ _ => none
  | n + 1 => m_X7_meanFloorArea_6 I (m_X7_meanFloorArea_6L I n)
noncomputable def m_X7_meanFloorArea_e (I : po_I) (l0 : Nat) : Option ((UInt32 ⊕ String)) :=
  m_X7_meanFloorArea_6L I 5000 l0 0 0 0
noncomputable abbrev m_X7_meanFloorArea := @m_X7_meanFloorArea_e
def m_X5_permitsWith_28 (I : po_I) (r4 : Nat → Int32 → Int32 → Int32 → Option (Int32)) (l0 : Nat) (l1 : Int32) (l2 : Int32) (l3 : Int32) : Option (Int32) :=
  r4 l0 l1 l2 (l3 + 1)
def m_X5_permitsWith_4 (I : po_I) (r4 : Nat → Int32 → Int32 → Int32 → Option (Int32)) (l0 : Nat) (l1 : Int32) (l2 : Int32) (l3 : Int32) : Option (Int32) :=
  if ((I l0 5) : Int32) ≤ l3 then (some l2) else (if po_in l3 10 = true then if ((I (l0 + (29 + 5 * (Int32.toNatClampNeg l3))) 6) : Int32) = l1 then (m_X5_permitsWith_28 I r4 l0 l1 (l2 + 1) l3) else (m_X5_permitsWith_28 I r4 l0 l1 l2 l3) else none)
def m_X5_permitsWith_4L (I : po_I) : Nat → Nat → Int32 → Int32 → Int32 → Option (Int32)
  | 0 => fun _ _ _ _ => none
  | n + 1 => m_X5_permitsWith_4 I (m_X5_permitsWith_4L I n)
def m_X5_permitsWith_e (I : po_I) (l0 : Nat) (l1 : Int32) : Option (Int32) :=
  m_X5_permitsWith_4L I 5000 l0 l1 0 0
abbrev m_X5_permitsWith := @m_X5_permitsWith_e
def m_X5_cellsInLots_4 (I : po_I) (r4 : Nat → Int32 → Int32 → Option (Int32)) (l0 : Nat) (l1 : Int32) (l2 : Int32) : Option (Int32) :=
  if ((I l0 3) : Int32) ≤ l2 then (some l1) else (if po_in l2 8 = true then po_let (l1 + (I (l0 + (5 + 3 * (Int32.toNatClampNeg l2))) 3)) fun v2 => r4 l0 v2 (l2 + 1) else none)
def m_X5_cellsInLots_4L (I : po_I) : Nat → Nat → Int32 → Int32 → Option (Int32)
  | 0 => fun _ _ _ => none
  | n + 1 => m_X5_cellsInLots_4 I (m_X5_cellsInLots_4L I n)
def m_X5_cellsInLots_e (I : po_I) (l0 : Nat) : Option (Int32) :=
  m_X5_cellsInLots_4L I 5000 l0 0 0
abbrev m_X5_cellsInLots := @m_X5_cellsInLots_e
def m_X7_count_141 (I : po_I) : Option ((Int32 ⊕ String)) :=
  some (.inr "java/lang/IllegalArgumentException")
def m_X7_count_e (I : po_I) (l0 : Nat) (l1 : Int32) : Option ((Int32 ⊕ String)) :=
  if (l1 : Int32) = 0 then (some (.inl (I (l0 + 8) 3))) else (if (l1 : Int32) = 1 then (some (.inl (I (l0 + 8) 5))) else (if (l1 : Int32) = 2 then (some (.inl (I (l0 + 8) 7))) else (if (l1 : Int32) = 3 then (some (.inl (I (l0 + 8) 0))) else (if (l1 : Int32) = 4 then (Option.bind (m_X5_permitsWith I (l0 + 8) 2) fun x1 => Option.bind (m_X5_permitsWith I (l0 + 8) 3) fun x2 => Option.bind (m_X5_permitsWith I (l0 + 8) 6) fun x3 => some (.inl ((x1 + x2) + x3))) else (if (l1 : Int32) = 5 then (Option.bind (m_X5_cellsInLots I (l0 + 8)) fun x4 => some (.inl x4)) else (if (l1 : Int32) = 6 then (some (.inl (I l0 7))) else (if (l1 : Int32) = 7 then (some (.inl (I (l0 + 1) 1))) else (if (l1 : Int32) < 10 then (m_X7_count_141 I) else (if (l1 : Int32) < 17 then (Option.bind (m_X5_permitsWith I (l0 + 8) (l1 - 10)) fun x5 => some (.inl x5)) else (m_X7_count_141 I))))))))))
abbrev m_X7_count := @m_X7_count_e
def m_X7_undo_16 (R : po_R) (I : po_I) : Option ((Int32 ⊕ String) × po_I) :=
  some (((.inr "java/lang/IllegalStateException"), I))
def m_X7_undo_e (R : po_R) (I : po_I) (l0 : Nat) : Option ((Int32 ⊕ String) × po_I) :=
  if ((I l0 7) : Int32) ≤ 0 then (m_X7_undo_16 R I) else (if ((I l0 7) : Int32) ≤ 6 then (po_hlet (po_u I l0 7 ((I l0 7) - 1)) fun I1 => if po_in (I1 l0 7) 6 = true then Option.bind (m_X5_copyFrom I1 (l0 + 8) (po_rf (R (l0 + 281) (Int32.toNatClampNeg (I1 l0 7))))) fun x3 => some (((.inl (x3 l0 7)), x3)) else none) else (m_X7_undo_16 R I))
abbrev m_X7_undo := @m_X7_undo_e
def m_X7_save_e (I : po_I) (l0 : Nat) : Option (Int32 × po_I) :=
  Option.bind (m_X5_copyFrom I (l0 + 190) (l0 + 8)) fun x1 => po_hlet (po_u x1 l0 5 1) fun I2 => some (((I2 (l0 + 8) 5), I2))
abbrev m_X7_save := @m_X7_save_e
def m_X7_restore_e (I : po_I) (l0 : Nat) : Option ((Int32 ⊕ String) × po_I) :=
  if ((vp_nar .boolean (I l0 5)) : Int32) = 0 then (some (((.inr "java/lang/IllegalStateException"), I))) else (Option.bind (m_X5_copyFrom I (l0 + 8) (l0 + 190)) fun x1 => po_hlet (po_u x1 l0 7 0) fun I2 => some (((.inl (I2 (l0 + 8) 5)), I2)))
abbrev m_X7_restore := @m_X7_restore_e
