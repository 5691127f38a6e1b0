section QJ
variable {I : po_I} {s t p k : Nat} {N : po_N}
theorem x_measureOf (hV : pV N) (hT : pTR I t N) (hs : s + 4 < t) (hp : p < pv N 2) (hk : k < 9) : ∃ I', m_X4_measureOf I s t (t + (29 + 5 * p)) (Int32.ofNat k) = some (ps_me N p k, I') ∧ psv I I' s := by
  have h0' := hV.2.2.1.2.2
  have hl' := hV.2.1.2.2
  have hPv := hV.2.2.2.2.2.2.1 p hp
  have hLv := hV.2.2.2.2.2.1 _ hPv.2.1
  have hlo := hPv.2.1
  have hP := hT.2.2.2.2.2.2.1 p hp
  have hL := hT.2.2.2.2.2.1 _ hPv.2.1
  have hne := pa_ne hPv.2.2.2.1
  have hbn := pa_bnd hLv.2.2
  have hfr := hLv.2.1.2.2
  have elot : I (t + (29 + 5 * p)) 0 = Int32.ofNat (ps_lo N p) := by rw [hP.lot]; exact hPv.1.1
  have elc : ps_lc N p = Int32.ofNat (ps_n (pa_in N (32 + 16 * pv N (160 + 46 * p)))) := rfl
  have hpos := ps_lc_pos hV hp
  unfold m_X4_measureOf m_X4_measureOf_e ps_me
  rw [elot, show ps_lo N p = pv N (160 + 46 * p) from rfl, x_lotAt hV hT hPv.2.1, Option.bind_some]
  rcases (by omega : k = 0 ∨ k = 1 ∨ k = 2 ∨ k = 3 ∨ k = 4 ∨ k = 5 ∨ k = 6 ∨ k = 7 ∨ k = 8) with h | h | h | h | h | h | h | h | h <;> subst h
  · rw [if_pos (by decide), x_cellsOutside hP.are hL.2.2.1]
    exact ⟨I, rfl, psv.rf⟩
  · rw [if_neg (by decide), if_pos (by decide)]
    obtain ⟨I1, g1, g2, g3⟩ := x_gather (I := I) (t := t) (p := p) (lot := Int32.ofNat (ps_lo N p)) (a := s + 1) hV hT (by omega) (by omega)
    unfold m_X4_overlap m_X4_overlap_e
    rw [elot, g1, Option.bind_some, x_cellsIn (hP.are.mv (g2 _ (by omega))) g3]
    exact ⟨I1, rfl, fun q q1 _ => g2 q q1⟩
  · rw [if_neg (by decide), if_neg (by decide), if_pos (by decide), hL.2.1, hLv.2.1.1]
    obtain ⟨I1, g1, g2⟩ := x_leastDistance (s := s) (d := pv N (32 + 16 * pv N (160 + 46 * p) + 1)) (by omega) hP.are hL.2.2.1 hbn hne (by omega) (by omega)
    rw [g1]
    exact ⟨I1, rfl, fun q _ q1 => g2 q q1⟩
  · rw [if_neg (by decide), if_neg (by decide), if_neg (by decide), if_pos (by decide)]
    obtain ⟨I1, g1, g2⟩ := x_leastSide (s := s) (L := t + (5 + 3 * pv N (160 + 46 * p))) (fr := pv N (32 + 16 * pv N (160 + 46 * p) + 1)) (hL.2.1.trans hLv.2.1.1) (by omega) hP.are hL.2.2.1 hbn hne (by omega) (by omega)
    rw [g1]
    exact ⟨I1, rfl, g2⟩
  · rw [if_neg (by decide), if_neg (by decide), if_neg (by decide), if_neg (by decide), if_pos (by decide)]
    obtain ⟨I1, g1, g2, g3⟩ := x_gather (I := I) (t := t) (p := p) (lot := Int32.ofNat (ps_lo N p)) (a := s + 1) hV hT (by omega) (by omega)
    obtain ⟨I2, f1, f2, f3⟩ := x_addAll (I := I1) (a := s + 1) (b := t + (29 + 5 * p) + 1) (by omega) g3 (hP.are.mv (g2 _ (by omega)))
    unfold m_X4_coverage m_X4_coverage_e
    have e2 : ∀ q, q ≠ s + 1 + 1 → I2 q = I q := fun q hq => by rw [f2 q hq, g2 q hq]
    have e3 : I2 (t + (5 + 3 * pv N (160 + 46 * p))) 3 = ps_lc N p := by rw [e2 _ (by omega)]; exact hL.2.2.2
    rw [elot, g1, Option.bind_some, f1, Option.bind_some, x_cellsIn f3 (hL.2.2.1.mv (e2 _ (by omega))), Option.bind_some, e3, x_dividedUp hpos]
    have e4 : ps_n (fun c r => (ps_blt N (Int32.ofNat (ps_lo N p)) c r (Int32.ofNat p) || pa_in N (160 + 46 * p) c r) && pa_in N (32 + 16 * pv N (160 + 46 * p)) c r) = ps_n (fun c r => ps_L N p c r && (ps_B N p c r || ps_blt N (Int32.ofNat (ps_lo N p)) c r (Int32.ofNat p))) := ps_n_congr (fun c r _ _ => by
      unfold ps_L ps_B
      rw [Bool.and_comm, Bool.or_comm]; rfl)
    rw [e4]
    exact ⟨I2, rfl, fun q q1 _ => e2 q q1⟩
  · rw [if_neg (by decide), if_neg (by decide), if_neg (by decide), if_neg (by decide), if_neg (by decide), if_pos (by decide), hP.flo]
    exact ⟨I, rfl, psv.rf⟩
  · rw [if_neg (by decide), if_neg (by decide), if_neg (by decide), if_neg (by decide), if_neg (by decide), if_neg (by decide), if_pos (by decide)]
    unfold m_X4_floorAreaShare m_X4_floorAreaShare_e po_let
    rw [x_floorArea hP, Option.bind_some, elot, x_sfa hV hT (by omega), Option.bind_some, hL.2.2.2, ← elc]
    dsimp only
    rw [x_dividedUp hpos]
    exact ⟨I, rfl, psv.rf⟩
  · rw [if_neg (by decide), if_neg (by decide), if_neg (by decide), if_neg (by decide), if_neg (by decide), if_neg (by decide), if_neg (by decide), if_pos (by decide), hP.use]
    exact ⟨I, rfl, psv.rf⟩
  · rw [if_neg (by decide), if_neg (by decide), if_neg (by decide), if_neg (by decide), if_neg (by decide), if_neg (by decide), if_neg (by decide), if_neg (by decide), if_pos (by decide), hP.par]
    exact ⟨I, rfl, psv.rf⟩
theorem x_ruleOf {z j : Nat} (hT : pTR I t N) (hz : z < 4) (hj : j < 7) : m_X5_ruleOf I t (Int32.ofNat z) (Int32.ofNat j) = some (N (4 + 7 * z + j)) := by
  unfold m_X5_ruleOf m_X5_ruleOf_e m_X5_ruleOf_26 m_X5_ruleOf_27
  simp only [-Int32.reduceOfNat, pk_0, pk_1, pk_2, pk_3, pk_4, pk_5, pk_6, pk_7, pk_8, pk_9, pk_10, pk_11, pk_12, pk_13, pk_14, pk_15, pk_16, pk_17, pk_18, pk_19, pk_20, pk_21, pk_22, pk_23, pk_24, pk_25, pk_26, pk_27, pk_28, pk_29, pk_30, pk_31, pk_32, pk_33, pk_44, pk_45, pk_46, pk_48, pk_50, pk_57, pk_59, pk_60, pk_63, pk_67, pk_69, pk_76, pk_78, pk_79, pk_80, pk_83, pk_86, pk_87, pk_90, pk_97, pk_99, pk_100, pk_110, pk_116, pk_122, pk_126, pk_160, pk_190, pk_255, pk_280, pk_281, pk_500, pk_620, pk_668, pk_1000, pk_3340, pk_4008, pk_5000, pk_65536, pk_1000000, pk_2000000, pk_3000000, pk_252645135, pk_858993459, pk_1431655765, pl_add, pl_mul, po_let, po_hlet, Option.bind_some, Option.bind_none, Option.some.injEq, if_true, if_false, eq_self, pb_if, pb_nar, Bool.false_eq_true, Bool.true_eq_false, Bool.or_true, Bool.true_or, Bool.or_false, Bool.false_or, Bool.and_true, Bool.true_and, Bool.and_false, Bool.false_and, Nat.add_zero, Nat.mul_zero, Nat.zero_add]
  repeat rw [pl_clamp (by omega)]
  rw [if_neg (by rw [← pk_0, pl_not0 (by omega)]; exact id), if_neg (by first | exact pl_inl (by omega) (by omega) | exact (pl_le (by omega) (by omega)).mpr (by omega) | exact mt (pl_le (by omega) (by omega)).mp (by omega) | exact (pl_lt (by omega) (by omega)).mpr (by omega) | exact mt (pl_lt (by omega) (by omega)).mp (by omega) | exact (pl_eq (by omega) (by omega)).mpr (by omega) | exact mt (pl_eq (by omega) (by omega)).mp (by omega) | exact (pl_neg1 (by omega)).mp | exact (pl_neg1' (by omega)).mp | assumption | omega | rfl | decide), if_pos (by first | exact pl_inl (by omega) (by omega) | exact (pl_le (by omega) (by omega)).mpr (by omega) | exact mt (pl_le (by omega) (by omega)).mp (by omega) | exact (pl_lt (by omega) (by omega)).mpr (by omega) | exact mt (pl_lt (by omega) (by omega)).mp (by omega) | exact (pl_eq (by omega) (by omega)).mpr (by omega) | exact mt (pl_eq (by omega) (by omega)).mp (by omega) | exact (pl_neg1 (by omega)).mp | exact (pl_neg1' (by omega)).mp | assumption | omega | rfl | decide), hT.2.2.2.2.1 _ (by omega), show 4 + (z * 7 + j) = 4 + 7 * z + j by omega]
theorem x_ruleFor {j : Nat} (hV : pV N) (hT : pTR I t N) (hp : p < pv N 2) (hj : j < 7) : m_X5_ruleFor I t (Int32.ofNat (ps_lo N p)) (Int32.ofNat j) = some (ps_rule N p j) := by
  have hPv := hV.2.2.2.2.2.2.1 p hp
  have hLv := hV.2.2.2.2.2.1 _ hPv.2.1
  have hL := hT.2.2.2.2.2.1 _ hPv.2.1
  have hz := hLv.1.2.2
  unfold m_X5_ruleFor m_X5_ruleFor_e
  rw [show ps_lo N p = pv N (160 + 46 * p) from rfl, x_lotAt hV hT hPv.2.1, Option.bind_some, hL.1, hLv.1.1, x_ruleOf hT (by omega) hj]
  rfl
theorem x_limitOf (hV : pV N) (hT : pTR I t N) (hp : p < pv N 2) (hk : k < 9) : m_X4_limitOf I s t (t + (29 + 5 * p)) (Int32.ofNat k) = some (ps_li N p k) := by
  have hPv := hV.2.2.2.2.2.2.1 p hp
  have hP := hT.2.2.2.2.2.2.1 p hp
  have elot : I (t + (29 + 5 * p)) 0 = Int32.ofNat (ps_lo N p) := by rw [hP.lot]; exact hPv.1.1
  have hr : ∀ j, j < 7 → m_X5_ruleFor I t (Int32.ofNat (ps_lo N p)) (Int32.ofNat j) = some (ps_rule N p j) := fun j hj => x_ruleFor hV hT hp hj
  unfold m_X4_limitOf m_X4_limitOf_e ps_li
  rw [elot]
  rcases (by omega : k = 0 ∨ k = 1 ∨ k = 2 ∨ k = 3 ∨ k = 4 ∨ k = 5 ∨ k = 6 ∨ k = 7 ∨ k = 8) with h | h | h | h | h | h | h | h | h <;> subst h
  · rfl
  · rfl
  · rw [if_pos (by decide), pk_0, hr 0 (by omega)]; rfl
  · rw [if_neg (by decide), if_pos (by decide), pk_1, hr 1 (by omega)]; rfl
  · rw [if_neg (by decide), if_neg (by decide), if_pos (by decide), pk_2, hr 2 (by omega)]; rfl
  · rw [if_neg (by decide), if_neg (by decide), if_neg (by decide), if_pos (by decide), pk_3, hr 3 (by omega)]; rfl
  · rw [if_neg (by decide), if_neg (by decide), if_neg (by decide), if_neg (by decide), if_pos (by decide), pk_4, hr 4 (by omega)]; rfl
  · rw [if_neg (by decide), if_neg (by decide), if_neg (by decide), if_neg (by decide), if_neg (by decide), if_pos (by decide), pk_5, hr 5 (by omega)]; rfl
  · rw [if_neg (by decide), if_neg (by decide), if_neg (by decide), if_neg (by decide), if_neg (by decide), if_neg (by decide), if_pos (by decide), pk_6, hr 6 (by omega), Option.bind_some, x_floorArea hP, Option.bind_some, x_dividedUp (by decide)]; rfl
end QJ
