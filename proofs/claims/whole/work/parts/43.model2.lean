section QN
variable {I : po_I} {M : Nat}
def po_op (x : Option Nat) : Int32 := match x with
  | some k => Int32.ofNat k
  | none => -1
theorem q_lotAt (hV : pV (I (M + 1))) (c r : Int32) : m_X8_lotAt I M c r = some (po_op (pfind (fun k => pa_in (I (M + 1)) (32 + 16 * k) c r) (pv (I (M + 1)) 1))) := by
  have h0 := hV.2.1
  have h0' := h0.2.2
  show m_X8_lotAt_2L I 5000 M c r (Int32.ofNat 0) = _
  refine (pl_find (L := fun f k => m_X8_lotAt_2L I f M c r (Int32.ofNat k)) (n := pv (I (M + 1)) 1) (p := fun k => pa_in (I (M + 1)) (32 + 16 * k) c r) (A := fun k => some (Int32.ofNat k)) (B := some (-1)) ?_ ?_ (by omega)).trans ?_
  · intro f k hk
    have hP := hV.2.2.2.2.2.1 k hk
    show m_X8_lotAt_2 I _ _ _ _ _ = _
    unfold m_X8_lotAt_2
    simp only [-Int32.reduceOfNat, pk_0, pk_1, pk_2, pk_3, pk_4, pk_5, pk_6, pk_7, pk_8, pk_9, pk_10, pk_11, pk_12, pk_13, pk_14, pk_15, pk_16, pk_17, pk_18, pk_19, pk_20, pk_21, pk_22, pk_23, pk_24, pk_25, pk_26, pk_27, pk_28, pk_29, pk_30, pk_31, pk_32, pk_33, pk_44, pk_45, pk_46, pk_48, pk_50, pk_57, pk_59, pk_60, pk_63, pk_67, pk_69, pk_76, pk_78, pk_79, pk_80, pk_83, pk_86, pk_87, pk_90, pk_97, pk_99, pk_100, pk_110, pk_116, pk_122, pk_126, pk_160, pk_190, pk_255, pk_280, pk_281, pk_500, pk_620, pk_668, pk_1000, pk_3340, pk_4008, pk_5000, pk_65536, pk_1000000, pk_2000000, pk_3000000, pk_252645135, pk_858993459, pk_1431655765, pl_add, pl_mul]
    rw [h0.1, if_neg (by first | exact pl_inl (by omega) (by omega) | exact (pl_le (by omega) (by omega)).mpr (by omega) | exact mt (pl_le (by omega) (by omega)).mp (by omega) | exact (pl_lt (by omega) (by omega)).mpr (by omega) | exact mt (pl_lt (by omega) (by omega)).mp (by omega) | exact (pl_eq (by omega) (by omega)).mpr (by omega) | exact mt (pl_eq (by omega) (by omega)).mp (by omega) | exact (pl_neg1 (by omega)).mp | exact (pl_neg1' (by omega)).mp | assumption | omega | rfl | decide), q_isInLot (by omega) hP.2.2.1]
    simp only [po_let, po_hlet, Option.bind_some, Option.bind_none, Option.some.injEq, if_true, if_false, eq_self, pb_if, pb_nar, Bool.false_eq_true, Bool.true_eq_false, Bool.or_true, Bool.true_or, Bool.or_false, Bool.false_or, Bool.and_true, Bool.true_and, Bool.and_false, Bool.false_and, Nat.add_zero, Nat.mul_zero, Nat.zero_add]
  · intro f
    show m_X8_lotAt_2 I _ _ _ _ _ = _
    unfold m_X8_lotAt_2
    rw [h0.1, if_pos (by first | exact pl_inl (by omega) (by omega) | exact (pl_le (by omega) (by omega)).mpr (by omega) | exact mt (pl_le (by omega) (by omega)).mp (by omega) | exact (pl_lt (by omega) (by omega)).mpr (by omega) | exact mt (pl_lt (by omega) (by omega)).mp (by omega) | exact (pl_eq (by omega) (by omega)).mpr (by omega) | exact mt (pl_eq (by omega) (by omega)).mp (by omega) | exact (pl_neg1 (by omega)).mp | exact (pl_neg1' (by omega)).mp | assumption | omega | rfl | decide)]
  · cases pfind (fun k => pa_in (I (M + 1)) (32 + 16 * k) c r) (pv (I (M + 1)) 1) <;> rfl
theorem q_permitAt (hV : pV (I (M + 1))) (c r : Int32) : m_X8_permitAt I M c r = some (po_op (pfind (fun k => ps_st (I (M + 1)) k && pa_in (I (M + 1)) (160 + 46 * k) c r) (pv (I (M + 1)) 2))) := by
  have h0 := hV.2.2.1
  have h0' := h0.2.2
  show m_X8_permitAt_2L I 5000 M c r (Int32.ofNat 0) = _
  refine (pl_find (L := fun f k => m_X8_permitAt_2L I f M c r (Int32.ofNat k)) (n := pv (I (M + 1)) 2) (p := fun k => ps_st (I (M + 1)) k && pa_in (I (M + 1)) (160 + 46 * k) c r) (A := fun k => some (Int32.ofNat k)) (B := some (-1)) ?_ ?_ (by omega)).trans ?_
  · intro f k hk
    have hP := hV.2.2.2.2.2.2.1 k hk
    show m_X8_permitAt_2 I _ _ _ _ _ = _
    unfold m_X8_permitAt_2 m_X8_permitAt_32
    simp only [-Int32.reduceOfNat, pk_0, pk_1, pk_2, pk_3, pk_4, pk_5, pk_6, pk_7, pk_8, pk_9, pk_10, pk_11, pk_12, pk_13, pk_14, pk_15, pk_16, pk_17, pk_18, pk_19, pk_20, pk_21, pk_22, pk_23, pk_24, pk_25, pk_26, pk_27, pk_28, pk_29, pk_30, pk_31, pk_32, pk_33, pk_44, pk_45, pk_46, pk_48, pk_50, pk_57, pk_59, pk_60, pk_63, pk_67, pk_69, pk_76, pk_78, pk_79, pk_80, pk_83, pk_86, pk_87, pk_90, pk_97, pk_99, pk_100, pk_110, pk_116, pk_122, pk_126, pk_160, pk_190, pk_255, pk_280, pk_281, pk_500, pk_620, pk_668, pk_1000, pk_3340, pk_4008, pk_5000, pk_65536, pk_1000000, pk_2000000, pk_3000000, pk_252645135, pk_858993459, pk_1431655765, pl_add, pl_mul]
    rw [h0.1, if_neg (by first | exact pl_inl (by omega) (by omega) | exact (pl_le (by omega) (by omega)).mpr (by omega) | exact mt (pl_le (by omega) (by omega)).mp (by omega) | exact (pl_lt (by omega) (by omega)).mpr (by omega) | exact mt (pl_lt (by omega) (by omega)).mp (by omega) | exact (pl_eq (by omega) (by omega)).mpr (by omega) | exact mt (pl_eq (by omega) (by omega)).mp (by omega) | exact (pl_neg1 (by omega)).mp | exact (pl_neg1' (by omega)).mp | assumption | omega | rfl | decide), q_stands (by omega), q_isInBuilding (by omega) hP.2.2.2.1.1]
    simp only [po_let, po_hlet, Option.bind_some, Option.bind_none, Option.some.injEq, if_true, if_false, eq_self, pb_if, pb_nar, Bool.false_eq_true, Bool.true_eq_false, Bool.or_true, Bool.true_or, Bool.or_false, Bool.false_or, Bool.and_true, Bool.true_and, Bool.and_false, Bool.false_and, Nat.add_zero, Nat.mul_zero, Nat.zero_add]
    cases ps_st (I (M + 1)) k <;> cases pa_in (I (M + 1)) (160 + 46 * k) c r <;> rfl
  · intro f
    show m_X8_permitAt_2 I _ _ _ _ _ = _
    unfold m_X8_permitAt_2
    rw [h0.1, if_pos (by first | exact pl_inl (by omega) (by omega) | exact (pl_le (by omega) (by omega)).mpr (by omega) | exact mt (pl_le (by omega) (by omega)).mp (by omega) | exact (pl_lt (by omega) (by omega)).mpr (by omega) | exact mt (pl_lt (by omega) (by omega)).mp (by omega) | exact (pl_eq (by omega) (by omega)).mpr (by omega) | exact mt (pl_eq (by omega) (by omega)).mp (by omega) | exact (pl_neg1 (by omega)).mp | exact (pl_neg1' (by omega)).mp | assumption | omega | rfl | decide)]
  · cases pfind (fun k => ps_st (I (M + 1)) k && pa_in (I (M + 1)) (160 + 46 * k) c r) (pv (I (M + 1)) 2) <;> rfl
theorem q_builtCells {k : Nat} (hV : pV (I (M + 1))) (hk : k < pv (I (M + 1)) 1) : m_X8_builtCells I M (Int32.ofNat k) = some (Int32.ofNat (ps_n (fun c r => pa_in (I (M + 1)) (32 + 16 * k) c r && ps_blt (I (M + 1)) (Int32.ofNat k) c r (-1)))) := by
  have h0 := hV.2.1
  have h0' := h0.2.2
  have hP := hV.2.2.2.2.2.1 k hk
  show m_X8_builtCells_4L I 5000 M (Int32.ofNat k) (Int32.ofNat 0) (Int32.ofNat 0) = _
  refine (pl_fold (L := fun f x j => m_X8_builtCells_4L I f M (Int32.ofNat k) (Int32.ofNat x) (Int32.ofNat j)) (n := 280) (g := fun j x => x + (if (pa_in (I (M + 1)) (32 + 16 * k) (Int32.ofNat (j % 20)) (Int32.ofNat (j / 20)) && ps_blt (I (M + 1)) (Int32.ofNat k) (Int32.ofNat (j % 20)) (Int32.ofNat (j / 20)) (-1)) = true then 1 else 0)) (E := fun x => some (Int32.ofNat x)) ?_ ?_ (by omega) 0).trans ?_
  · intro f x j hj
    show m_X8_builtCells_4 I _ _ _ _ _ = _
    unfold m_X8_builtCells_4 m_X8_builtCells_53 m_X8_builtCells_54
    simp only [-Int32.reduceOfNat, pk_0, pk_1, pk_2, pk_3, pk_4, pk_5, pk_6, pk_7, pk_8, pk_9, pk_10, pk_11, pk_12, pk_13, pk_14, pk_15, pk_16, pk_17, pk_18, pk_19, pk_20, pk_21, pk_22, pk_23, pk_24, pk_25, pk_26, pk_27, pk_28, pk_29, pk_30, pk_31, pk_32, pk_33, pk_44, pk_45, pk_46, pk_48, pk_50, pk_57, pk_59, pk_60, pk_63, pk_67, pk_69, pk_76, pk_78, pk_79, pk_80, pk_83, pk_86, pk_87, pk_90, pk_97, pk_99, pk_100, pk_110, pk_116, pk_122, pk_126, pk_160, pk_190, pk_255, pk_280, pk_281, pk_500, pk_620, pk_668, pk_1000, pk_3340, pk_4008, pk_5000, pk_65536, pk_1000000, pk_2000000, pk_3000000, pk_252645135, pk_858993459, pk_1431655765, pl_add, pl_mul, po_let, po_hlet, Option.bind_some, Option.bind_none, Option.some.injEq, if_true, if_false, eq_self, pb_if, pb_nar, Bool.false_eq_true, Bool.true_eq_false, Bool.or_true, Bool.true_or, Bool.or_false, Bool.false_or, Bool.and_true, Bool.true_and, Bool.and_false, Bool.false_and, Nat.add_zero, Nat.mul_zero, Nat.zero_add]
    rw [if_neg (by first | exact pl_inl (by omega) (by omega) | exact (pl_le (by omega) (by omega)).mpr (by omega) | exact mt (pl_le (by omega) (by omega)).mp (by omega) | exact (pl_lt (by omega) (by omega)).mpr (by omega) | exact mt (pl_lt (by omega) (by omega)).mp (by omega) | exact (pl_eq (by omega) (by omega)).mpr (by omega) | exact mt (pl_eq (by omega) (by omega)).mp (by omega) | exact (pl_neg1 (by omega)).mp | exact (pl_neg1' (by omega)).mp | assumption | omega | rfl | decide), pl_xy (by omega), pl_div (by omega) (by omega), q_isInLot (by omega) hP.2.2.1, q_isBuilt hV]
    simp only [po_let, po_hlet, Option.bind_some, Option.bind_none, Option.some.injEq, if_true, if_false, eq_self, pb_if, pb_nar, Bool.false_eq_true, Bool.true_eq_false, Bool.or_true, Bool.true_or, Bool.or_false, Bool.false_or, Bool.and_true, Bool.true_and, Bool.and_false, Bool.false_and, Nat.add_zero, Nat.mul_zero, Nat.zero_add]
    cases pa_in (I (M + 1)) (32 + 16 * k) (Int32.ofNat (j % 20)) (Int32.ofNat (j / 20)) <;> cases ps_blt (I (M + 1)) (Int32.ofNat k) (Int32.ofNat (j % 20)) (Int32.ofNat (j / 20)) (-1) <;> rfl
  · intro f x
    rfl
  · unfold ps_n
    have h := pc_fold (fun j => pa_in (I (M + 1)) (32 + 16 * k) (Int32.ofNat (j % 20)) (Int32.ofNat (j / 20)) && ps_blt (I (M + 1)) (Int32.ofNat k) (Int32.ofNat (j % 20)) (Int32.ofNat (j / 20)) (-1)) 0 280
    rw [h, Nat.zero_add]
/-- floor areas of what stands for a lot -/
def pz (g : Nat → Int32) : Nat → Int32
  | 0 => 0
  | n + 1 => pz g n + g n
theorem pz_congr {p q : Nat → Int32} : ∀ {n : Nat}, (∀ k, k < n → p k = q k) → pz p n = pz q n
  | 0, _ => rfl
  | n + 1, h => by rw [pz, pz, pz_congr (fun k hk => h k (by omega)), h n (by omega)]
theorem pz_fold (g : Nat → Int32) (s : Int32) : ∀ n, pfold (fun k (x : Int32) => x + g k) n s = s + pz g n
  | 0 => by rw [pfold, pz, Int32.add_zero]
  | n + 1 => by simp only [pfold, pz, pz_fold g s n, Int32.add_assoc]
def ps_fl (N : po_N) (lot ex : Int32) (k : Nat) : Int32 := if (!decide (Int32.ofNat k = ex) && ps_of N k lot) = true then ps_fa N k else 0
def ps_fas (N : po_N) (lot ex : Int32) : Int32 := pz (ps_fl N lot ex) (pv N 2)
theorem q_floorAreas (hV : pV (I (M + 1))) (lot ex : Int32) : m_X8_floorAreas I M lot ex = some (ps_fas (I (M + 1)) lot ex) := by
  have h0 := hV.2.2.1
  have h0' := h0.2.2
  show m_X8_floorAreas_5L I 5000 M lot ex 0 (Int32.ofNat 0) = _
  refine (pl_fold (L := fun f x k => m_X8_floorAreas_5L I f M lot ex x (Int32.ofNat k)) (n := pv (I (M + 1)) 2) (g := fun k x => x + ps_fl (I (M + 1)) lot ex k) (E := fun x => some x) ?_ ?_ (by omega) 0).trans ?_
  · intro f x k hk
    have hP := hV.2.2.2.2.2.2.1 k hk
    show m_X8_floorAreas_5 I _ _ _ _ _ _ = _
    unfold m_X8_floorAreas_5 m_X8_floorAreas_52 m_X8_floorAreas_53
    simp only [-Int32.reduceOfNat, pk_0, pk_1, pk_2, pk_3, pk_4, pk_5, pk_6, pk_7, pk_8, pk_9, pk_10, pk_11, pk_12, pk_13, pk_14, pk_15, pk_16, pk_17, pk_18, pk_19, pk_20, pk_21, pk_22, pk_23, pk_24, pk_25, pk_26, pk_27, pk_28, pk_29, pk_30, pk_31, pk_32, pk_33, pk_44, pk_45, pk_46, pk_48, pk_50, pk_57, pk_59, pk_60, pk_63, pk_67, pk_69, pk_76, pk_78, pk_79, pk_80, pk_83, pk_86, pk_87, pk_90, pk_97, pk_99, pk_100, pk_110, pk_116, pk_122, pk_126, pk_160, pk_190, pk_255, pk_280, pk_281, pk_500, pk_620, pk_668, pk_1000, pk_3340, pk_4008, pk_5000, pk_65536, pk_1000000, pk_2000000, pk_3000000, pk_252645135, pk_858993459, pk_1431655765, pl_add, pl_mul]
    rw [h0.1, if_neg (by first | exact pl_inl (by omega) (by omega) | exact (pl_le (by omega) (by omega)).mpr (by omega) | exact mt (pl_le (by omega) (by omega)).mp (by omega) | exact (pl_lt (by omega) (by omega)).mpr (by omega) | exact mt (pl_lt (by omega) (by omega)).mp (by omega) | exact (pl_eq (by omega) (by omega)).mpr (by omega) | exact mt (pl_eq (by omega) (by omega)).mp (by omega) | exact (pl_neg1 (by omega)).mp | exact (pl_neg1' (by omega)).mp | assumption | omega | rfl | decide), q_stands (by omega), q_at (by omega), q_floorArea (by omega) hP.2.2.2.1.1]
    simp only [po_let, po_hlet, Option.bind_some, Option.bind_none, Option.some.injEq, if_true, if_false, eq_self, pb_if, pb_nar, Bool.false_eq_true, Bool.true_eq_false, Bool.or_true, Bool.true_or, Bool.or_false, Bool.false_or, Bool.and_true, Bool.true_and, Bool.and_false, Bool.false_and, Nat.add_zero, Nat.mul_zero, Nat.zero_add, pl_add]
    unfold ps_fl ps_of
    by_cases h1 : Int32.ofNat k = ex
    · rw [if_pos h1, decide_eq_true h1]; rfl
    · rw [if_neg h1, decide_eq_false h1]
      cases ps_st (I (M + 1)) k <;> simp only [po_let, po_hlet, Option.bind_some, Option.bind_none, Option.some.injEq, if_true, if_false, eq_self, pb_if, pb_nar, Bool.false_eq_true, Bool.true_eq_false, Bool.or_true, Bool.true_or, Bool.or_false, Bool.false_or, Bool.and_true, Bool.true_and, Bool.and_false, Bool.false_and, Nat.add_zero, Nat.mul_zero, Nat.zero_add]
      · rfl
      · by_cases h2 : I (M + 1) (160 + 46 * k) = lot
        · rw [if_pos h2, decide_eq_true h2]; rfl
        · rw [if_neg h2, decide_eq_false h2]; rfl
  · intro f x
    show m_X8_floorAreas_5 I _ _ _ _ _ _ = _
    unfold m_X8_floorAreas_5
    rw [h0.1, if_pos (by first | exact pl_inl (by omega) (by omega) | exact (pl_le (by omega) (by omega)).mpr (by omega) | exact mt (pl_le (by omega) (by omega)).mp (by omega) | exact (pl_lt (by omega) (by omega)).mpr (by omega) | exact mt (pl_lt (by omega) (by omega)).mp (by omega) | exact (pl_eq (by omega) (by omega)).mpr (by omega) | exact mt (pl_eq (by omega) (by omega)).mp (by omega) | exact (pl_neg1 (by omega)).mp | exact (pl_neg1' (by omega)).mp | assumption | omega | rfl | decide)]
  · rw [pz_fold, Int32.zero_add]; rfl
/-! distances -/
def pdx (d : Nat) : Int32 := if d = 1 then 1 else if d = 3 then -1 else 0
def pdy (d : Nat) : Int32 := if d = 2 then 1 else if d = 0 then -1 else 0
theorem q_eastward {d : Nat} (hd : d < 4) : m_X8_eastward (Int32.ofNat d) = some (pdx d) := by
  rcases (by omega : d = 0 ∨ d = 1 ∨ d = 2 ∨ d = 3) with h | h | h | h <;> subst h <;> rfl
theorem q_southward {d : Nat} (hd : d < 4) : m_X8_southward (Int32.ofNat d) = some (pdy d) := by
  rcases (by omega : d = 0 ∨ d = 1 ∨ d = 2 ∨ d = 3) with h | h | h | h <;> subst h <;> rfl
/-- the cell some steps on -/
def pstep (S : Int32 → Int32 → Bool) (d : Nat) (c r : Int32) (i : Nat) : Bool := S (c + Int32.ofNat i * pdx d) (r + Int32.ofNat i * pdy d)
def pdist (S : Int32 → Int32 → Bool) (d : Nat) (c r : Int32) : Nat := (match pfind (fun i => !pstep S d c r i) 20 with
  | some i => i
  | none => 20) - 1
/-- a set that lies in the town -/
def pbnd (S : Int32 → Int32 → Bool) : Prop := ∀ c r, S c r = true → (0 ≤ c ∧ c < 20) ∧ (0 ≤ r ∧ r < 14)
theorem pa_bnd {N : po_N} {b : Nat} (h : pa_v N b) : pbnd (pa_in N b) := by
  intro c r hc
  have key : ∀ k, pa_rv N b k → pa_r N b k c r = true → (0 ≤ c ∧ c < 20) ∧ (0 ≤ r ∧ r < 14) := by
    intro k hk hr
    have h1 := of_decide_eq_true hr
    obtain ⟨⟨e1, _, b1⟩, ⟨e2, _, b2⟩, ⟨e3, c3, b3⟩, ⟨e4, c4, b4⟩, b5, b6⟩ := hk
    rw [e1, e2, e3, e4] at h1
    simp only [pl_add] at h1
    rw [pk_1, pl_sub (by omega), pl_sub (by omega)] at h1
    have g0 : (0 : Int32) ≤ Int32.ofNat (pv N (b + 3 + 4 * k)) := pl_nonneg (by omega)
    have g1 : (0 : Int32) ≤ Int32.ofNat (pv N (b + 3 + 4 * k + 1)) := pl_nonneg (by omega)
    have g2 : Int32.ofNat (pv N (b + 3 + 4 * k) + pv N (b + 3 + 4 * k + 2) - 1) < 20 := (pl_lt (b := 20) (by omega) (by omega)).mpr (by omega)
    have g3 : Int32.ofNat (pv N (b + 3 + 4 * k + 1) + pv N (b + 3 + 4 * k + 3) - 1) < 14 := (pl_lt (b := 14) (by omega) (by omega)).mpr (by omega)
    obtain ⟨a1, a2, a3, a4⟩ := h1
    exact ⟨⟨Int32.le_trans g0 a1, Int32.lt_of_le_of_lt a2 g2⟩, Int32.le_trans g1 a3, Int32.lt_of_le_of_lt a4 g3⟩
  unfold pa_in at hc
  rw [Bool.or_eq_true, Bool.or_eq_true, Bool.and_eq_true, Bool.and_eq_true] at hc
  rcases hc with (hc | hc) | hc
  · exact key 0 h.2.1 hc
  · exact key 1 (h.2.2.1 (of_decide_eq_true hc.1)) hc.2
  · exact key 2 (h.2.2.2 (of_decide_eq_true hc.1)) hc.2
theorem pstep_20 {S : Int32 → Int32 → Bool} {d : Nat} {c r : Int32} (hd : d < 4) (hS : pbnd S) (hc : 0 ≤ c ∧ c < 20) (hr : 0 ≤ r ∧ r < 14) : pstep S d c r 20 = false := by
  cases h : pstep S d c r 20 with
  | false => rfl
  | true =>
    exfalso
    have h1 := hS _ _ h
    rcases (by omega : d = 0 ∨ d = 1 ∨ d = 2 ∨ d = 3) with e | e | e | e <;> subst e <;> simp only [pdx, pdy] at h1 <;> grind
end QN
