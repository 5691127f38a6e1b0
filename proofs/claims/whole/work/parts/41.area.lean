theorem q_inArea_step {I : po_I} {M b k : Nat} {r6 : Nat → Int32 → Int32 → Int32 → Int32 → Int32 → Option (Int32)} {c r : Int32} (x : Bool) (hb : b + 15 ≤ 668) (hm : pv_c (I (M + 1)) (b + 2) 1 3) (hk : k < pv (I (M + 1)) (b + 2)) :
    m_X8_isInArea_6 I r6 M (Int32.ofNat b) c r (pb x) (Int32.ofNat k) = r6 M (Int32.ofNat b) c r (pb (x || pa_r (I (M + 1)) b k c r)) (Int32.ofNat (k + 1)) := by
  have h1 := hm.1
  have h2 := hm.2.2
  unfold m_X8_isInArea_6
  simp only [-Int32.reduceOfNat, pk_0, pk_1, pk_2, pk_3, pk_4, pk_5, pk_6, pk_7, pk_8, pk_9, pk_10, pk_11, pk_12, pk_13, pk_14, pk_15, pk_16, pk_17, pk_18, pk_19, pk_20, pk_21, pk_22, pk_23, pk_24, pk_25, pk_26, pk_27, pk_28, pk_29, pk_30, pk_31, pk_32, pk_33, pk_44, pk_45, pk_46, pk_48, pk_50, pk_57, pk_59, pk_60, pk_63, pk_67, pk_69, pk_76, pk_78, pk_79, pk_80, pk_83, pk_86, pk_87, pk_90, pk_97, pk_99, pk_100, pk_110, pk_116, pk_122, pk_126, pk_160, pk_190, pk_255, pk_280, pk_281, pk_500, pk_620, pk_668, pk_1000, pk_3340, pk_4008, pk_5000, pk_65536, pk_1000000, pk_2000000, pk_3000000, pk_252645135, pk_858993459, pk_1431655765, pl_add, pl_mul, po_let, po_hlet, Option.bind_some, Option.bind_none, Option.some.injEq, if_true, if_false, eq_self, pb_if, pb_nar, Bool.false_eq_true, Bool.true_eq_false, Bool.or_true, Bool.true_or, Bool.or_false, Bool.false_or, Bool.and_true, Bool.true_and, Bool.and_false, Bool.false_and, Nat.add_zero, Nat.mul_zero, Nat.zero_add, m_X8_isInArea_108, m_X8_isInArea_104, m_X8_isInArea_109, q_isIn]
  repeat rw [pl_clamp (by omega)]
  rw [h1]
  repeat (first | rw [if_pos (by first | exact pl_inl (by omega) (by omega) | exact (pl_le (by omega) (by omega)).mpr (by omega) | exact mt (pl_le (by omega) (by omega)).mp (by omega) | exact (pl_lt (by omega) (by omega)).mpr (by omega) | exact mt (pl_lt (by omega) (by omega)).mp (by omega) | exact (pl_eq (by omega) (by omega)).mpr (by omega) | exact mt (pl_eq (by omega) (by omega)).mp (by omega) | exact (pl_neg1 (by omega)).mp | exact (pl_neg1' (by omega)).mp | assumption | omega | rfl | decide)] | rw [if_neg (by first | exact pl_inl (by omega) (by omega) | exact (pl_le (by omega) (by omega)).mpr (by omega) | exact mt (pl_le (by omega) (by omega)).mp (by omega) | exact (pl_lt (by omega) (by omega)).mpr (by omega) | exact mt (pl_lt (by omega) (by omega)).mp (by omega) | exact (pl_eq (by omega) (by omega)).mpr (by omega) | exact mt (pl_eq (by omega) (by omega)).mp (by omega) | exact (pl_neg1 (by omega)).mp | exact (pl_neg1' (by omega)).mp | assumption | omega | rfl | decide)])
  cases x
  · rw [if_neg (by decide)]
    repeat (first | rw [if_pos (by first | exact pl_inl (by omega) (by omega) | exact (pl_le (by omega) (by omega)).mpr (by omega) | exact mt (pl_le (by omega) (by omega)).mp (by omega) | exact (pl_lt (by omega) (by omega)).mpr (by omega) | exact mt (pl_lt (by omega) (by omega)).mp (by omega) | exact (pl_eq (by omega) (by omega)).mpr (by omega) | exact mt (pl_eq (by omega) (by omega)).mp (by omega) | exact (pl_neg1 (by omega)).mp | exact (pl_neg1' (by omega)).mp | assumption | omega | rfl | decide)] | rw [if_neg (by first | exact pl_inl (by omega) (by omega) | exact (pl_le (by omega) (by omega)).mpr (by omega) | exact mt (pl_le (by omega) (by omega)).mp (by omega) | exact (pl_lt (by omega) (by omega)).mpr (by omega) | exact mt (pl_lt (by omega) (by omega)).mp (by omega) | exact (pl_eq (by omega) (by omega)).mpr (by omega) | exact mt (pl_eq (by omega) (by omega)).mp (by omega) | exact (pl_neg1 (by omega)).mp | exact (pl_neg1' (by omega)).mp | assumption | omega | rfl | decide)])
    unfold pa_r
    simp only [pk_1, Bool.false_or, decide_eq_true_iff, ← pb_t', ← pb_f']
    by_cases hc : I (M + 1) (b + 3 + 4 * k) ≤ c ∧ c ≤ I (M + 1) (b + 3 + 4 * k) + I (M + 1) (b + 3 + 4 * k + 2) - Int32.ofNat 1
    · rw [if_pos hc]
      repeat (first | rw [if_pos (by first | exact pl_inl (by omega) (by omega) | exact (pl_le (by omega) (by omega)).mpr (by omega) | exact mt (pl_le (by omega) (by omega)).mp (by omega) | exact (pl_lt (by omega) (by omega)).mpr (by omega) | exact mt (pl_lt (by omega) (by omega)).mp (by omega) | exact (pl_eq (by omega) (by omega)).mpr (by omega) | exact mt (pl_eq (by omega) (by omega)).mp (by omega) | exact (pl_neg1 (by omega)).mp | exact (pl_neg1' (by omega)).mp | assumption | omega | rfl | decide)] | rw [if_neg (by first | exact pl_inl (by omega) (by omega) | exact (pl_le (by omega) (by omega)).mpr (by omega) | exact mt (pl_le (by omega) (by omega)).mp (by omega) | exact (pl_lt (by omega) (by omega)).mpr (by omega) | exact mt (pl_lt (by omega) (by omega)).mp (by omega) | exact (pl_eq (by omega) (by omega)).mpr (by omega) | exact mt (pl_eq (by omega) (by omega)).mp (by omega) | exact (pl_neg1 (by omega)).mp | exact (pl_neg1' (by omega)).mp | assumption | omega | rfl | decide)])
      simp only [hc, true_and, decide_eq_true_iff]
      by_cases hd : I (M + 1) (b + 3 + 4 * k + 1) ≤ r ∧ r ≤ I (M + 1) (b + 3 + 4 * k + 1) + I (M + 1) (b + 3 + 4 * k + 3) - Int32.ofNat 1
      · rw [if_pos hd, decide_eq_true hd]; rfl
      · rw [if_neg hd, decide_eq_false hd]; rfl
    · rw [if_neg hc]
      simp only [← and_assoc, hc, false_and, decide_false]
      rfl
  · rw [if_pos rfl]
    rfl
theorem q_inArea {I : po_I} {M b : Nat} {c r : Int32} (hb : b + 15 ≤ 668) (hm : pv_c (I (M + 1)) (b + 2) 1 3) : m_X8_isInArea I M (Int32.ofNat b) c r = some (pb (pa_in (I (M + 1)) b c r)) := by
  have h1 := hm.1
  have h2 := hm.2
  have hs : ∀ f x k, k = pv (I (M + 1)) (b + 2) → m_X8_isInArea_6L I (f + 1) M (Int32.ofNat b) c r (pb x) (Int32.ofNat k) = some (pb x) := by
    intro f x k hk
    subst hk
    show m_X8_isInArea_6 I _ _ _ _ _ _ _ = _
    unfold m_X8_isInArea_6
    simp only [-Int32.reduceOfNat, pk_0, pk_1, pk_2, pk_3, pk_4, pk_5, pk_6, pk_7, pk_8, pk_9, pk_10, pk_11, pk_12, pk_13, pk_14, pk_15, pk_16, pk_17, pk_18, pk_19, pk_20, pk_21, pk_22, pk_23, pk_24, pk_25, pk_26, pk_27, pk_28, pk_29, pk_30, pk_31, pk_32, pk_33, pk_44, pk_45, pk_46, pk_48, pk_50, pk_57, pk_59, pk_60, pk_63, pk_67, pk_69, pk_76, pk_78, pk_79, pk_80, pk_83, pk_86, pk_87, pk_90, pk_97, pk_99, pk_100, pk_110, pk_116, pk_122, pk_126, pk_160, pk_190, pk_255, pk_280, pk_281, pk_500, pk_620, pk_668, pk_1000, pk_3340, pk_4008, pk_5000, pk_65536, pk_1000000, pk_2000000, pk_3000000, pk_252645135, pk_858993459, pk_1431655765, pl_add, pl_mul, po_let, po_hlet, Option.bind_some, Option.bind_none, Option.some.injEq, if_true, if_false, eq_self, pb_if, pb_nar, Bool.false_eq_true, Bool.true_eq_false, Bool.or_true, Bool.true_or, Bool.or_false, Bool.false_or, Bool.and_true, Bool.true_and, Bool.and_false, Bool.false_and, Nat.add_zero, Nat.mul_zero, Nat.zero_add]
    repeat rw [pl_clamp (by omega)]
    rw [h1]
    repeat (first | rw [if_pos (by first | exact pl_inl (by omega) (by omega) | exact (pl_le (by omega) (by omega)).mpr (by omega) | exact mt (pl_le (by omega) (by omega)).mp (by omega) | exact (pl_lt (by omega) (by omega)).mpr (by omega) | exact mt (pl_lt (by omega) (by omega)).mp (by omega) | exact (pl_eq (by omega) (by omega)).mpr (by omega) | exact mt (pl_eq (by omega) (by omega)).mp (by omega) | exact (pl_neg1 (by omega)).mp | exact (pl_neg1' (by omega)).mp | assumption | omega | rfl | decide)] | rw [if_neg (by first | exact pl_inl (by omega) (by omega) | exact (pl_le (by omega) (by omega)).mpr (by omega) | exact mt (pl_le (by omega) (by omega)).mp (by omega) | exact (pl_lt (by omega) (by omega)).mpr (by omega) | exact mt (pl_lt (by omega) (by omega)).mp (by omega) | exact (pl_eq (by omega) (by omega)).mpr (by omega) | exact mt (pl_eq (by omega) (by omega)).mp (by omega) | exact (pl_neg1 (by omega)).mp | exact (pl_neg1' (by omega)).mp | assumption | omega | rfl | decide)])
  have hst : ∀ f x k, k < pv (I (M + 1)) (b + 2) → m_X8_isInArea_6L I (f + 1) M (Int32.ofNat b) c r (pb x) (Int32.ofNat k) = m_X8_isInArea_6L I f M (Int32.ofNat b) c r (pb (x || pa_r (I (M + 1)) b k c r)) (Int32.ofNat (k + 1)) := fun f x k hk => q_inArea_step x hb hm hk
  show m_X8_isInArea_6L I (4996 + 1 + 1 + 1 + 1) M (Int32.ofNat b) c r (pb false) (Int32.ofNat 0) = _
  unfold pa_in
  rw [hst _ _ _ (by omega), Bool.false_or]
  rcases (by omega : pv (I (M + 1)) (b + 2) = 1 ∨ pv (I (M + 1)) (b + 2) = 2 ∨ pv (I (M + 1)) (b + 2) = 3) with h | h | h
  · rw [hs _ _ _ (by omega), h]
    simp
  · rw [hst _ _ _ (by omega), hs _ _ _ (by omega), h]
    simp
  · rw [hst _ _ _ (by omega), hst _ _ _ (by omega), hs _ _ _ (by omega), h]
    simp
