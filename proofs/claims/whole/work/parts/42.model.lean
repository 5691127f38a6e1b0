section QM
variable {I : po_I} {M : Nat}
theorem q_at {p j : Nat} (h : 160 + 46 * p + j < 668) : m_X8_at I M (Int32.ofNat p) (Int32.ofNat j) = some (I (M + 1) (160 + 46 * p + j)) := by
  unfold m_X8_at m_X8_at_e
  simp only [-Int32.reduceOfNat, pk_0, pk_1, pk_2, pk_3, pk_4, pk_5, pk_6, pk_7, pk_8, pk_9, pk_10, pk_11, pk_12, pk_13, pk_14, pk_15, pk_16, pk_17, pk_18, pk_19, pk_20, pk_21, pk_22, pk_23, pk_24, pk_25, pk_26, pk_27, pk_28, pk_29, pk_30, pk_31, pk_32, pk_33, pk_44, pk_45, pk_46, pk_48, pk_50, pk_57, pk_59, pk_60, pk_63, pk_67, pk_69, pk_76, pk_78, pk_79, pk_80, pk_83, pk_86, pk_87, pk_90, pk_97, pk_99, pk_100, pk_110, pk_116, pk_122, pk_126, pk_160, pk_190, pk_255, pk_280, pk_281, pk_500, pk_620, pk_668, pk_1000, pk_3340, pk_4008, pk_5000, pk_65536, pk_1000000, pk_2000000, pk_3000000, pk_252645135, pk_858993459, pk_1431655765, pl_add, pl_mul, po_let, po_hlet, Option.bind_some, Option.bind_none, Option.some.injEq, if_true, if_false, eq_self, pb_if, pb_nar, Bool.false_eq_true, Bool.true_eq_false, Bool.or_true, Bool.true_or, Bool.or_false, Bool.false_or, Bool.and_true, Bool.true_and, Bool.and_false, Bool.false_and, Nat.add_zero, Nat.mul_zero, Nat.zero_add]
  repeat rw [pl_clamp (by omega)]
  (first | rw [if_pos (by first | exact pl_inl (by omega) (by omega) | exact (pl_le (by omega) (by omega)).mpr (by omega) | exact mt (pl_le (by omega) (by omega)).mp (by omega) | exact (pl_lt (by omega) (by omega)).mpr (by omega) | exact mt (pl_lt (by omega) (by omega)).mp (by omega) | exact (pl_eq (by omega) (by omega)).mpr (by omega) | exact mt (pl_eq (by omega) (by omega)).mp (by omega) | exact (pl_neg1 (by omega)).mp | exact (pl_neg1' (by omega)).mp | assumption | omega | rfl | decide)] | rw [if_neg (by first | exact pl_inl (by omega) (by omega) | exact (pl_le (by omega) (by omega)).mpr (by omega) | exact mt (pl_le (by omega) (by omega)).mp (by omega) | exact (pl_lt (by omega) (by omega)).mpr (by omega) | exact mt (pl_lt (by omega) (by omega)).mp (by omega) | exact (pl_eq (by omega) (by omega)).mpr (by omega) | exact mt (pl_eq (by omega) (by omega)).mp (by omega) | exact (pl_neg1 (by omega)).mp | exact (pl_neg1' (by omega)).mp | assumption | omega | rfl | decide)])
theorem q_lotPart {p j : Nat} (h : 32 + 16 * p + j < 668) : m_X8_lotPart I M (Int32.ofNat p) (Int32.ofNat j) = some (I (M + 1) (32 + 16 * p + j)) := by
  unfold m_X8_lotPart m_X8_lotPart_e
  simp only [-Int32.reduceOfNat, pk_0, pk_1, pk_2, pk_3, pk_4, pk_5, pk_6, pk_7, pk_8, pk_9, pk_10, pk_11, pk_12, pk_13, pk_14, pk_15, pk_16, pk_17, pk_18, pk_19, pk_20, pk_21, pk_22, pk_23, pk_24, pk_25, pk_26, pk_27, pk_28, pk_29, pk_30, pk_31, pk_32, pk_33, pk_44, pk_45, pk_46, pk_48, pk_50, pk_57, pk_59, pk_60, pk_63, pk_67, pk_69, pk_76, pk_78, pk_79, pk_80, pk_83, pk_86, pk_87, pk_90, pk_97, pk_99, pk_100, pk_110, pk_116, pk_122, pk_126, pk_160, pk_190, pk_255, pk_280, pk_281, pk_500, pk_620, pk_668, pk_1000, pk_3340, pk_4008, pk_5000, pk_65536, pk_1000000, pk_2000000, pk_3000000, pk_252645135, pk_858993459, pk_1431655765, pl_add, pl_mul, po_let, po_hlet, Option.bind_some, Option.bind_none, Option.some.injEq, if_true, if_false, eq_self, pb_if, pb_nar, Bool.false_eq_true, Bool.true_eq_false, Bool.or_true, Bool.true_or, Bool.or_false, Bool.false_or, Bool.and_true, Bool.true_and, Bool.and_false, Bool.false_and, Nat.add_zero, Nat.mul_zero, Nat.zero_add]
  repeat rw [pl_clamp (by omega)]
  (first | rw [if_pos (by first | exact pl_inl (by omega) (by omega) | exact (pl_le (by omega) (by omega)).mpr (by omega) | exact mt (pl_le (by omega) (by omega)).mp (by omega) | exact (pl_lt (by omega) (by omega)).mpr (by omega) | exact mt (pl_lt (by omega) (by omega)).mp (by omega) | exact (pl_eq (by omega) (by omega)).mpr (by omega) | exact mt (pl_eq (by omega) (by omega)).mp (by omega) | exact (pl_neg1 (by omega)).mp | exact (pl_neg1' (by omega)).mp | assumption | omega | rfl | decide)] | rw [if_neg (by first | exact pl_inl (by omega) (by omega) | exact (pl_le (by omega) (by omega)).mpr (by omega) | exact mt (pl_le (by omega) (by omega)).mp (by omega) | exact (pl_lt (by omega) (by omega)).mpr (by omega) | exact mt (pl_lt (by omega) (by omega)).mp (by omega) | exact (pl_eq (by omega) (by omega)).mpr (by omega) | exact mt (pl_eq (by omega) (by omega)).mp (by omega) | exact (pl_neg1 (by omega)).mp | exact (pl_neg1' (by omega)).mp | assumption | omega | rfl | decide)])
theorem q_variancePart {p j : Nat} (h : 620 + 4 * p + j < 668) : m_X8_variancePart I M (Int32.ofNat p) (Int32.ofNat j) = some (I (M + 1) (620 + 4 * p + j)) := by
  unfold m_X8_variancePart m_X8_variancePart_e
  simp only [-Int32.reduceOfNat, pk_0, pk_1, pk_2, pk_3, pk_4, pk_5, pk_6, pk_7, pk_8, pk_9, pk_10, pk_11, pk_12, pk_13, pk_14, pk_15, pk_16, pk_17, pk_18, pk_19, pk_20, pk_21, pk_22, pk_23, pk_24, pk_25, pk_26, pk_27, pk_28, pk_29, pk_30, pk_31, pk_32, pk_33, pk_44, pk_45, pk_46, pk_48, pk_50, pk_57, pk_59, pk_60, pk_63, pk_67, pk_69, pk_76, pk_78, pk_79, pk_80, pk_83, pk_86, pk_87, pk_90, pk_97, pk_99, pk_100, pk_110, pk_116, pk_122, pk_126, pk_160, pk_190, pk_255, pk_280, pk_281, pk_500, pk_620, pk_668, pk_1000, pk_3340, pk_4008, pk_5000, pk_65536, pk_1000000, pk_2000000, pk_3000000, pk_252645135, pk_858993459, pk_1431655765, pl_add, pl_mul, po_let, po_hlet, Option.bind_some, Option.bind_none, Option.some.injEq, if_true, if_false, eq_self, pb_if, pb_nar, Bool.false_eq_true, Bool.true_eq_false, Bool.or_true, Bool.true_or, Bool.or_false, Bool.false_or, Bool.and_true, Bool.true_and, Bool.and_false, Bool.false_and, Nat.add_zero, Nat.mul_zero, Nat.zero_add]
  repeat rw [pl_clamp (by omega)]
  (first | rw [if_pos (by first | exact pl_inl (by omega) (by omega) | exact (pl_le (by omega) (by omega)).mpr (by omega) | exact mt (pl_le (by omega) (by omega)).mp (by omega) | exact (pl_lt (by omega) (by omega)).mpr (by omega) | exact mt (pl_lt (by omega) (by omega)).mp (by omega) | exact (pl_eq (by omega) (by omega)).mpr (by omega) | exact mt (pl_eq (by omega) (by omega)).mp (by omega) | exact (pl_neg1 (by omega)).mp | exact (pl_neg1' (by omega)).mp | assumption | omega | rfl | decide)] | rw [if_neg (by first | exact pl_inl (by omega) (by omega) | exact (pl_le (by omega) (by omega)).mpr (by omega) | exact mt (pl_le (by omega) (by omega)).mp (by omega) | exact (pl_lt (by omega) (by omega)).mpr (by omega) | exact mt (pl_lt (by omega) (by omega)).mp (by omega) | exact (pl_eq (by omega) (by omega)).mpr (by omega) | exact mt (pl_eq (by omega) (by omega)).mp (by omega) | exact (pl_neg1 (by omega)).mp | exact (pl_neg1' (by omega)).mp | assumption | omega | rfl | decide)])
def ps_st (N : po_N) (p : Nat) : Bool := decide (N (160 + 46 * p + 19) = 2) || decide (N (160 + 46 * p + 19) = 3) || decide (N (160 + 46 * p + 19) = 6)
theorem q_stands {p : Nat} (h : p < 10) : m_X8_stands I M (Int32.ofNat p) = some (pb (ps_st (I (M + 1)) p)) := by
  unfold m_X8_stands m_X8_stands_e m_X8_stands_24 m_X8_stands_29 ps_st
  simp only [-Int32.reduceOfNat, pk_0, pk_1, pk_2, pk_3, pk_4, pk_5, pk_6, pk_7, pk_8, pk_9, pk_10, pk_11, pk_12, pk_13, pk_14, pk_15, pk_16, pk_17, pk_18, pk_19, pk_20, pk_21, pk_22, pk_23, pk_24, pk_25, pk_26, pk_27, pk_28, pk_29, pk_30, pk_31, pk_32, pk_33, pk_44, pk_45, pk_46, pk_48, pk_50, pk_57, pk_59, pk_60, pk_63, pk_67, pk_69, pk_76, pk_78, pk_79, pk_80, pk_83, pk_86, pk_87, pk_90, pk_97, pk_99, pk_100, pk_110, pk_116, pk_122, pk_126, pk_160, pk_190, pk_255, pk_280, pk_281, pk_500, pk_620, pk_668, pk_1000, pk_3340, pk_4008, pk_5000, pk_65536, pk_1000000, pk_2000000, pk_3000000, pk_252645135, pk_858993459, pk_1431655765, pl_add, pl_mul]
  rw [q_at (by omega), Option.bind_some]
  by_cases h1 : I (M + 1) (160 + 46 * p + 19) = Int32.ofNat 2
  · rw [if_pos h1, decide_eq_true h1]; rfl
  · rw [if_neg h1, decide_eq_false h1]
    by_cases h2 : I (M + 1) (160 + 46 * p + 19) = Int32.ofNat 3
    · rw [if_pos h2, decide_eq_true h2]; rfl
    · rw [if_neg h2, decide_eq_false h2]
      by_cases h3 : I (M + 1) (160 + 46 * p + 19) = Int32.ofNat 6
      · rw [if_pos h3, decide_eq_true h3]; rfl
      · rw [if_neg h3, decide_eq_false h3]; rfl
theorem q_isInLot {k : Nat} {c r : Int32} (hk : k < 8) (hm : pv_c (I (M + 1)) (32 + 16 * k + 2) 1 3) : m_X8_isInLot I M (Int32.ofNat k) c r = some (pb (pa_in (I (M + 1)) (32 + 16 * k) c r)) := by
  unfold m_X8_isInLot m_X8_isInLot_e
  simp only [-Int32.reduceOfNat, pk_0, pk_1, pk_2, pk_3, pk_4, pk_5, pk_6, pk_7, pk_8, pk_9, pk_10, pk_11, pk_12, pk_13, pk_14, pk_15, pk_16, pk_17, pk_18, pk_19, pk_20, pk_21, pk_22, pk_23, pk_24, pk_25, pk_26, pk_27, pk_28, pk_29, pk_30, pk_31, pk_32, pk_33, pk_44, pk_45, pk_46, pk_48, pk_50, pk_57, pk_59, pk_60, pk_63, pk_67, pk_69, pk_76, pk_78, pk_79, pk_80, pk_83, pk_86, pk_87, pk_90, pk_97, pk_99, pk_100, pk_110, pk_116, pk_122, pk_126, pk_160, pk_190, pk_255, pk_280, pk_281, pk_500, pk_620, pk_668, pk_1000, pk_3340, pk_4008, pk_5000, pk_65536, pk_1000000, pk_2000000, pk_3000000, pk_252645135, pk_858993459, pk_1431655765, pl_add, pl_mul]
  rw [q_inArea (by omega) hm]
  simp only [po_let, po_hlet, Option.bind_some, Option.bind_none, Option.some.injEq, if_true, if_false, eq_self, pb_if, pb_nar, Bool.false_eq_true, Bool.true_eq_false, Bool.or_true, Bool.true_or, Bool.or_false, Bool.false_or, Bool.and_true, Bool.true_and, Bool.and_false, Bool.false_and, Nat.add_zero, Nat.mul_zero, Nat.zero_add]
theorem q_isInBuilding {k : Nat} {c r : Int32} (hk : k < 10) (hm : pv_c (I (M + 1)) (160 + 46 * k + 2) 1 3) : m_X8_isInBuilding I M (Int32.ofNat k) c r = some (pb (pa_in (I (M + 1)) (160 + 46 * k) c r)) := by
  unfold m_X8_isInBuilding m_X8_isInBuilding_e
  simp only [-Int32.reduceOfNat, pk_0, pk_1, pk_2, pk_3, pk_4, pk_5, pk_6, pk_7, pk_8, pk_9, pk_10, pk_11, pk_12, pk_13, pk_14, pk_15, pk_16, pk_17, pk_18, pk_19, pk_20, pk_21, pk_22, pk_23, pk_24, pk_25, pk_26, pk_27, pk_28, pk_29, pk_30, pk_31, pk_32, pk_33, pk_44, pk_45, pk_46, pk_48, pk_50, pk_57, pk_59, pk_60, pk_63, pk_67, pk_69, pk_76, pk_78, pk_79, pk_80, pk_83, pk_86, pk_87, pk_90, pk_97, pk_99, pk_100, pk_110, pk_116, pk_122, pk_126, pk_160, pk_190, pk_255, pk_280, pk_281, pk_500, pk_620, pk_668, pk_1000, pk_3340, pk_4008, pk_5000, pk_65536, pk_1000000, pk_2000000, pk_3000000, pk_252645135, pk_858993459, pk_1431655765, pl_add, pl_mul]
  rw [q_inArea (by omega) hm]
  simp only [po_let, po_hlet, Option.bind_some, Option.bind_none, Option.some.injEq, if_true, if_false, eq_self, pb_if, pb_nar, Bool.false_eq_true, Bool.true_eq_false, Bool.or_true, Bool.true_or, Bool.or_false, Bool.false_or, Bool.and_true, Bool.true_and, Bool.and_false, Bool.false_and, Nat.add_zero, Nat.mul_zero, Nat.zero_add]
def ps_of (N : po_N) (p : Nat) (lot : Int32) : Bool := ps_st N p && decide (N (160 + 46 * p) = lot)
def ps_bk (N : po_N) (lot c r ex : Int32) (k : Nat) : Bool := !decide (Int32.ofNat k = ex) && (ps_of N k lot && pa_in N (160 + 46 * k) c r)
def ps_blt (N : po_N) (lot c r ex : Int32) : Bool := pany (ps_bk N lot c r ex) (pv N 2)
theorem q_isBuilt (hV : pV (I (M + 1))) (lot c r ex : Int32) : m_X8_isBuilt I M lot c r ex = some (pb (ps_blt (I (M + 1)) lot c r ex)) := by
  have h0 := hV.2.2.1
  have h0' := h0.2.2
  show m_X8_isBuilt_6L I 5000 M lot c r ex (pb false) (Int32.ofNat 0) = _
  refine (pl_fold (L := fun f x k => m_X8_isBuilt_6L I f M lot c r ex (pb x) (Int32.ofNat k)) (n := pv (I (M + 1)) 2) (g := fun k x => x || ps_bk (I (M + 1)) lot c r ex k) (E := fun x => some (pb x)) ?_ ?_ (by omega) false).trans ?_
  · intro f x k hk
    have hP := hV.2.2.2.2.2.2.1 k hk
    show m_X8_isBuilt_6 I _ _ _ _ _ _ _ _ = _
    unfold m_X8_isBuilt_6 m_X8_isBuilt_60 m_X8_isBuilt_64 m_X8_isBuilt_65
    simp only [-Int32.reduceOfNat, pk_0, pk_1, pk_2, pk_3, pk_4, pk_5, pk_6, pk_7, pk_8, pk_9, pk_10, pk_11, pk_12, pk_13, pk_14, pk_15, pk_16, pk_17, pk_18, pk_19, pk_20, pk_21, pk_22, pk_23, pk_24, pk_25, pk_26, pk_27, pk_28, pk_29, pk_30, pk_31, pk_32, pk_33, pk_44, pk_45, pk_46, pk_48, pk_50, pk_57, pk_59, pk_60, pk_63, pk_67, pk_69, pk_76, pk_78, pk_79, pk_80, pk_83, pk_86, pk_87, pk_90, pk_97, pk_99, pk_100, pk_110, pk_116, pk_122, pk_126, pk_160, pk_190, pk_255, pk_280, pk_281, pk_500, pk_620, pk_668, pk_1000, pk_3340, pk_4008, pk_5000, pk_65536, pk_1000000, pk_2000000, pk_3000000, pk_252645135, pk_858993459, pk_1431655765, pl_add, pl_mul]
    rw [h0.1]
    rw [if_neg (by first | exact pl_inl (by omega) (by omega) | exact (pl_le (by omega) (by omega)).mpr (by omega) | exact mt (pl_le (by omega) (by omega)).mp (by omega) | exact (pl_lt (by omega) (by omega)).mpr (by omega) | exact mt (pl_lt (by omega) (by omega)).mp (by omega) | exact (pl_eq (by omega) (by omega)).mpr (by omega) | exact mt (pl_eq (by omega) (by omega)).mp (by omega) | exact (pl_neg1 (by omega)).mp | exact (pl_neg1' (by omega)).mp | assumption | omega | rfl | decide), q_stands (by omega), q_at (by omega), q_isInBuilding (by omega) hP.2.2.2.1.1]
    simp only [po_let, po_hlet, Option.bind_some, Option.bind_none, Option.some.injEq, if_true, if_false, eq_self, pb_if, pb_nar, Bool.false_eq_true, Bool.true_eq_false, Bool.or_true, Bool.true_or, Bool.or_false, Bool.false_or, Bool.and_true, Bool.true_and, Bool.and_false, Bool.false_and, Nat.add_zero, Nat.mul_zero, Nat.zero_add]
    unfold ps_bk ps_of
    cases x <;> simp only [po_let, po_hlet, Option.bind_some, Option.bind_none, Option.some.injEq, if_true, if_false, eq_self, pb_if, pb_nar, Bool.false_eq_true, Bool.true_eq_false, Bool.or_true, Bool.true_or, Bool.or_false, Bool.false_or, Bool.and_true, Bool.true_and, Bool.and_false, Bool.false_and, Nat.add_zero, Nat.mul_zero, Nat.zero_add]
    case true => rfl
    by_cases h1 : Int32.ofNat k = ex
    · rw [if_pos h1, decide_eq_true h1]; rfl
    · rw [if_neg h1, decide_eq_false h1]
      cases ps_st (I (M + 1)) k <;> simp only [po_let, po_hlet, Option.bind_some, Option.bind_none, Option.some.injEq, if_true, if_false, eq_self, pb_if, pb_nar, Bool.false_eq_true, Bool.true_eq_false, Bool.or_true, Bool.true_or, Bool.or_false, Bool.false_or, Bool.and_true, Bool.true_and, Bool.and_false, Bool.false_and, Nat.add_zero, Nat.mul_zero, Nat.zero_add]
      · rfl
      · by_cases h2 : I (M + 1) (160 + 46 * k) = lot
        · rw [if_pos h2, decide_eq_true h2]
          cases pa_in (I (M + 1)) (160 + 46 * k) c r <;> rfl
        · rw [if_neg h2, decide_eq_false h2]; rfl
  · intro f x
    show m_X8_isBuilt_6 I _ _ _ _ _ _ _ _ = _
    unfold m_X8_isBuilt_6
    rw [h0.1]
    simp only [po_let, po_hlet, Option.bind_some, Option.bind_none, Option.some.injEq, if_true, if_false, eq_self, pb_if, pb_nar, Bool.false_eq_true, Bool.true_eq_false, Bool.or_true, Bool.true_or, Bool.or_false, Bool.false_or, Bool.and_true, Bool.true_and, Bool.and_false, Bool.false_and, Nat.add_zero, Nat.mul_zero, Nat.zero_add]
    (first | rw [if_pos (by first | exact pl_inl (by omega) (by omega) | exact (pl_le (by omega) (by omega)).mpr (by omega) | exact mt (pl_le (by omega) (by omega)).mp (by omega) | exact (pl_lt (by omega) (by omega)).mpr (by omega) | exact mt (pl_lt (by omega) (by omega)).mp (by omega) | exact (pl_eq (by omega) (by omega)).mpr (by omega) | exact mt (pl_eq (by omega) (by omega)).mp (by omega) | exact (pl_neg1 (by omega)).mp | exact (pl_neg1' (by omega)).mp | assumption | omega | rfl | decide)] | rw [if_neg (by first | exact pl_inl (by omega) (by omega) | exact (pl_le (by omega) (by omega)).mpr (by omega) | exact mt (pl_le (by omega) (by omega)).mp (by omega) | exact (pl_lt (by omega) (by omega)).mpr (by omega) | exact mt (pl_lt (by omega) (by omega)).mp (by omega) | exact (pl_eq (by omega) (by omega)).mpr (by omega) | exact mt (pl_eq (by omega) (by omega)).mp (by omega) | exact (pl_neg1 (by omega)).mp | exact (pl_neg1' (by omega)).mp | assumption | omega | rfl | decide)])
  · rw [pany_fold]; rfl
/-! the town's cells -/
def ps_n (f : Int32 → Int32 → Bool) : Nat := pc (fun k => f (Int32.ofNat (k % 20)) (Int32.ofNat (k / 20))) 280
theorem q_cellsOf {b : Nat} (hb : b + 15 ≤ 668) (hm : pv_c (I (M + 1)) (b + 2) 1 3) : m_X8_cellsOf I M (Int32.ofNat b) = some (Int32.ofNat (ps_n (pa_in (I (M + 1)) b))) := by
  show m_X8_cellsOf_4L I 5000 M (Int32.ofNat b) (Int32.ofNat 0) (Int32.ofNat 0) = _
  refine (pl_fold (L := fun f x k => m_X8_cellsOf_4L I f M (Int32.ofNat b) (Int32.ofNat x) (Int32.ofNat k)) (n := 280) (g := fun k x => x + (if pa_in (I (M + 1)) b (Int32.ofNat (k % 20)) (Int32.ofNat (k / 20)) = true then 1 else 0)) (E := fun x => some (Int32.ofNat x)) ?_ ?_ (by omega) 0).trans ?_
  · intro f x k hk
    show m_X8_cellsOf_4 I _ _ _ _ _ = _
    unfold m_X8_cellsOf_4 m_X8_cellsOf_33
    simp only [-Int32.reduceOfNat, pk_0, pk_1, pk_2, pk_3, pk_4, pk_5, pk_6, pk_7, pk_8, pk_9, pk_10, pk_11, pk_12, pk_13, pk_14, pk_15, pk_16, pk_17, pk_18, pk_19, pk_20, pk_21, pk_22, pk_23, pk_24, pk_25, pk_26, pk_27, pk_28, pk_29, pk_30, pk_31, pk_32, pk_33, pk_44, pk_45, pk_46, pk_48, pk_50, pk_57, pk_59, pk_60, pk_63, pk_67, pk_69, pk_76, pk_78, pk_79, pk_80, pk_83, pk_86, pk_87, pk_90, pk_97, pk_99, pk_100, pk_110, pk_116, pk_122, pk_126, pk_160, pk_190, pk_255, pk_280, pk_281, pk_500, pk_620, pk_668, pk_1000, pk_3340, pk_4008, pk_5000, pk_65536, pk_1000000, pk_2000000, pk_3000000, pk_252645135, pk_858993459, pk_1431655765, pl_add, pl_mul]
    rw [if_neg (by first | exact pl_inl (by omega) (by omega) | exact (pl_le (by omega) (by omega)).mpr (by omega) | exact mt (pl_le (by omega) (by omega)).mp (by omega) | exact (pl_lt (by omega) (by omega)).mpr (by omega) | exact mt (pl_lt (by omega) (by omega)).mp (by omega) | exact (pl_eq (by omega) (by omega)).mpr (by omega) | exact mt (pl_eq (by omega) (by omega)).mp (by omega) | exact (pl_neg1 (by omega)).mp | exact (pl_neg1' (by omega)).mp | assumption | omega | rfl | decide), pl_xy (by omega), pl_div (by omega) (by omega), q_inArea hb hm]
    simp only [po_let, po_hlet, Option.bind_some, Option.bind_none, Option.some.injEq, if_true, if_false, eq_self, pb_if, pb_nar, Bool.false_eq_true, Bool.true_eq_false, Bool.or_true, Bool.true_or, Bool.or_false, Bool.false_or, Bool.and_true, Bool.true_and, Bool.and_false, Bool.false_and, Nat.add_zero, Nat.mul_zero, Nat.zero_add]
    split <;> rfl
  · intro f x
    rfl
  · unfold ps_n
    have h := pc_fold (fun k => pa_in (I (M + 1)) b (Int32.ofNat (k % 20)) (Int32.ofNat (k / 20))) 0 280
    rw [h, Nat.zero_add]
theorem q_lotCells {k : Nat} (hk : k < 8) (hm : pv_c (I (M + 1)) (32 + 16 * k + 2) 1 3) : m_X8_lotCells I M (Int32.ofNat k) = some (Int32.ofNat (ps_n (pa_in (I (M + 1)) (32 + 16 * k)))) := by
  unfold m_X8_lotCells m_X8_lotCells_e
  simp only [-Int32.reduceOfNat, pk_0, pk_1, pk_2, pk_3, pk_4, pk_5, pk_6, pk_7, pk_8, pk_9, pk_10, pk_11, pk_12, pk_13, pk_14, pk_15, pk_16, pk_17, pk_18, pk_19, pk_20, pk_21, pk_22, pk_23, pk_24, pk_25, pk_26, pk_27, pk_28, pk_29, pk_30, pk_31, pk_32, pk_33, pk_44, pk_45, pk_46, pk_48, pk_50, pk_57, pk_59, pk_60, pk_63, pk_67, pk_69, pk_76, pk_78, pk_79, pk_80, pk_83, pk_86, pk_87, pk_90, pk_97, pk_99, pk_100, pk_110, pk_116, pk_122, pk_126, pk_160, pk_190, pk_255, pk_280, pk_281, pk_500, pk_620, pk_668, pk_1000, pk_3340, pk_4008, pk_5000, pk_65536, pk_1000000, pk_2000000, pk_3000000, pk_252645135, pk_858993459, pk_1431655765, pl_add, pl_mul]
  rw [q_cellsOf (by omega) hm]
  rfl
theorem q_buildingCells {k : Nat} (hk : k < 10) (hm : pv_c (I (M + 1)) (160 + 46 * k + 2) 1 3) : m_X8_buildingCells I M (Int32.ofNat k) = some (Int32.ofNat (ps_n (pa_in (I (M + 1)) (160 + 46 * k)))) := by
  unfold m_X8_buildingCells m_X8_buildingCells_e
  simp only [-Int32.reduceOfNat, pk_0, pk_1, pk_2, pk_3, pk_4, pk_5, pk_6, pk_7, pk_8, pk_9, pk_10, pk_11, pk_12, pk_13, pk_14, pk_15, pk_16, pk_17, pk_18, pk_19, pk_20, pk_21, pk_22, pk_23, pk_24, pk_25, pk_26, pk_27, pk_28, pk_29, pk_30, pk_31, pk_32, pk_33, pk_44, pk_45, pk_46, pk_48, pk_50, pk_57, pk_59, pk_60, pk_63, pk_67, pk_69, pk_76, pk_78, pk_79, pk_80, pk_83, pk_86, pk_87, pk_90, pk_97, pk_99, pk_100, pk_110, pk_116, pk_122, pk_126, pk_160, pk_190, pk_255, pk_280, pk_281, pk_500, pk_620, pk_668, pk_1000, pk_3340, pk_4008, pk_5000, pk_65536, pk_1000000, pk_2000000, pk_3000000, pk_252645135, pk_858993459, pk_1431655765, pl_add, pl_mul]
  rw [q_cellsOf (by omega) hm]
  rfl
/-- a building's cells; its floor area -/
def ps_bc (N : po_N) (k : Nat) : Int32 := Int32.ofNat (ps_n (pa_in N (160 + 46 * k)))
def ps_fa (N : po_N) (k : Nat) : Int32 := ps_bc N k * N (160 + 46 * k + 17)
theorem q_floorArea {k : Nat} (hk : k < 10) (hm : pv_c (I (M + 1)) (160 + 46 * k + 2) 1 3) : m_X8_floorArea I M (Int32.ofNat k) = some (ps_fa (I (M + 1)) k) := by
  unfold m_X8_floorArea m_X8_floorArea_e
  simp only [-Int32.reduceOfNat, pk_0, pk_1, pk_2, pk_3, pk_4, pk_5, pk_6, pk_7, pk_8, pk_9, pk_10, pk_11, pk_12, pk_13, pk_14, pk_15, pk_16, pk_17, pk_18, pk_19, pk_20, pk_21, pk_22, pk_23, pk_24, pk_25, pk_26, pk_27, pk_28, pk_29, pk_30, pk_31, pk_32, pk_33, pk_44, pk_45, pk_46, pk_48, pk_50, pk_57, pk_59, pk_60, pk_63, pk_67, pk_69, pk_76, pk_78, pk_79, pk_80, pk_83, pk_86, pk_87, pk_90, pk_97, pk_99, pk_100, pk_110, pk_116, pk_122, pk_126, pk_160, pk_190, pk_255, pk_280, pk_281, pk_500, pk_620, pk_668, pk_1000, pk_3340, pk_4008, pk_5000, pk_65536, pk_1000000, pk_2000000, pk_3000000, pk_252645135, pk_858993459, pk_1431655765, pl_add, pl_mul]
  rw [q_buildingCells hk hm, q_at (by omega)]
  rfl
end QM
