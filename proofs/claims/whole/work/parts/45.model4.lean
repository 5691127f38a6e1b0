section QP
variable {I : po_I} {M : Nat}
def pw (k m l : Int32) : Bool := if k = 7 then decide ((l >>> (m &&& 31)) &&& 1 = 0) else if k = 2 ∨ k = 3 ∨ k = 8 then decide (m < l) else decide (l < m)
theorem q_isWrong38 (a b : Int32) : m_X8_isWrong_38 a b = some (pb (decide (a < b))) := by
  unfold m_X8_isWrong_38 m_X8_isWrong_61
  by_cases h : b ≤ a
  · rw [if_pos h, if_pos pn_0, decide_eq_false (by grind)]; rfl
  · rw [if_neg h, if_pos pn_1, decide_eq_true (by grind)]; rfl
theorem q_isWrong (k m l : Int32) : m_X8_isWrong k m l = some (pb (pw k m l)) := by
  unfold m_X8_isWrong m_X8_isWrong_e pw
  by_cases h7 : k = 7
  · rw [if_pos h7, if_pos h7]
    unfold m_X8_isWrong_61
    by_cases h : (l >>> (m &&& 31)) &&& 1 = 0
    · rw [if_pos h, if_pos pn_1, decide_eq_true h]; rfl
    · rw [if_neg h, if_pos pn_0, decide_eq_false h]; rfl
  · rw [if_neg h7, if_neg h7]
    by_cases h2 : k = 2
    · rw [if_pos h2, if_pos (Or.inl h2), q_isWrong38]
    · rw [if_neg h2]
      by_cases h3 : k = 3
      · rw [if_pos h3, if_pos (Or.inr (Or.inl h3)), q_isWrong38]
      · rw [if_neg h3]
        by_cases h8 : k = 8
        · rw [if_pos h8, if_pos (Or.inr (Or.inr h8)), q_isWrong38]
        · rw [if_neg h8, if_neg (show ¬ (k = 2 ∨ k = 3 ∨ k = 8) by simp [h2, h3, h8])]
          unfold m_X8_isWrong_61
          by_cases h : m ≤ l
          · rw [if_pos h, if_pos pn_0, decide_eq_false (by grind)]; rfl
          · rw [if_neg h, if_pos pn_1, decide_eq_true (by grind)]; rfl
/-- the limit with an amount's help -/
def pha (k l a : Int32) : Int32 := if k = 2 ∨ k = 3 ∨ k = 8 then (if 0 < l - a then l - a else 0) else l + a
def ph (k m l a : Int32) : Bool := decide (k = 7) || (decide (1 < k) && !pw k m (pha k l a))
theorem q_helps54 (a b c : Int32) : m_X8_helps_54 a b c = some (pb (!pw a b c)) := by
  unfold m_X8_helps_54
  rw [q_isWrong, Option.bind_some]
  cases pw a b c <;> rfl
theorem q_helps (k m l a : Int32) : m_X8_helps k m l a = some (pb (ph k m l a)) := by
  have h21 : ∀ s : Int32, m_X8_helps_21 k m l a s = some (pb (decide (k = 7) || (decide (1 < k) && !pw k m (if s = 0 then l + a else if 0 < l - a then l - a else 0)))) := by
    intro s
    unfold m_X8_helps_21
    by_cases h7 : k = 7
    · rw [if_pos h7, decide_eq_true h7]; rfl
    · rw [if_neg h7, decide_eq_false h7]
      by_cases h1 : k ≤ 1
      · rw [if_pos h1, decide_eq_false (by grind)]; rfl
      · rw [if_neg h1, decide_eq_true (by grind)]
        by_cases hs : s = 0
        · rw [if_pos hs, if_pos hs, q_helps54]; rfl
        · rw [if_neg hs, if_neg hs, q_helps54]; rfl
  unfold m_X8_helps m_X8_helps_e m_X8_helps_16 ph pha
  by_cases h2 : k = 2
  · rw [if_pos h2, if_pos (Or.inl h2), h21, if_neg (by decide)]
  · rw [if_neg h2]
    by_cases h3 : k = 3
    · rw [if_pos h3, if_pos (Or.inr (Or.inl h3)), h21, if_neg (by decide)]
    · rw [if_neg h3]
      by_cases h8 : k = 8
      · rw [if_pos h8, if_pos (Or.inr (Or.inr h8)), h21, if_neg (by decide)]
      · rw [if_neg h8, if_neg (show ¬ (k = 2 ∨ k = 3 ∨ k = 8) by simp [h2, h3, h8]), h21, if_pos rfl]
theorem ps_npos {N : po_N} {b : Nat} (h : pa_v N b) : 1 ≤ ps_n (pa_in N b) := by
  obtain ⟨⟨e1, _, b1⟩, ⟨e2, _, b2⟩, ⟨e3, c3, b3⟩, ⟨e4, c4, b4⟩, b5, b6⟩ := h.2.1
  refine pc_pos (20 * pv N (b + 3 + 4 * 0 + 1) + pv N (b + 3 + 4 * 0)) (by omega) ?_
  rw [show (20 * pv N (b + 3 + 4 * 0 + 1) + pv N (b + 3 + 4 * 0)) % 20 = pv N (b + 3 + 4 * 0) by omega, show (20 * pv N (b + 3 + 4 * 0 + 1) + pv N (b + 3 + 4 * 0)) / 20 = pv N (b + 3 + 4 * 0 + 1) by omega]
  unfold pa_in pa_r
  rw [Bool.or_eq_true, Bool.or_eq_true]
  refine Or.inl (Or.inl (decide_eq_true ?_))
  rw [e1, e2, e3, e4, pl_add, pl_add, pk_1, pl_sub (by omega), pl_sub (by omega)]
  refine ⟨Int32.le_refl _, (pl_le (by omega) (by omega)).mpr (by omega), Int32.le_refl _, (pl_le (by omega) (by omega)).mpr (by omega)⟩
theorem ps_nle (S : Int32 → Int32 → Bool) : ps_n S ≤ 280 := pc_le _ _
/-- how much rounded up -/
def pup (a b : Int32) : Int32 := (a + b - 1) / b
theorem q_up {a b : Int32} (h : ¬ b = 0) : m_X8_up a b = some (pup a b) := by
  unfold m_X8_up m_X8_up_e
  rw [if_neg h]
  rfl
/-- the lot of a permit; its rules -/
def ps_lo (N : po_N) (p : Nat) : Nat := pv N (160 + 46 * p)
def ps_rule (N : po_N) (p j : Nat) : Int32 := N (4 + 7 * pv N (32 + 16 * ps_lo N p) + j)
theorem q_ruleOf {p j : Nat} (hV : pV (I (M + 1))) (hp : p < pv (I (M + 1)) 2) (hj : j < 7) : m_X8_ruleOf I M (Int32.ofNat p) (Int32.ofNat j) = some (ps_rule (I (M + 1)) p j) := by
  have h0' := hV.2.2.1.2.2
  have hl' := hV.2.1.2.2
  have hP := hV.2.2.2.2.2.2.1 p hp
  have hP' := hP.2.1
  have hL := hV.2.2.2.2.2.1 _ hP.2.1
  have hL' := hL.1.2.2
  unfold m_X8_ruleOf m_X8_ruleOf_e
  simp only [-Int32.reduceOfNat, pk_0, pk_1, pk_2, pk_3, pk_4, pk_5, pk_6, pk_7, pk_8, pk_9, pk_10, pk_11, pk_12, pk_13, pk_14, pk_15, pk_16, pk_17, pk_18, pk_19, pk_20, pk_21, pk_22, pk_23, pk_24, pk_25, pk_26, pk_27, pk_28, pk_29, pk_30, pk_31, pk_32, pk_33, pk_44, pk_45, pk_46, pk_48, pk_50, pk_57, pk_59, pk_60, pk_63, pk_67, pk_69, pk_76, pk_78, pk_79, pk_80, pk_83, pk_86, pk_87, pk_90, pk_97, pk_99, pk_100, pk_110, pk_116, pk_122, pk_126, pk_160, pk_190, pk_255, pk_280, pk_281, pk_500, pk_620, pk_668, pk_1000, pk_3340, pk_4008, pk_5000, pk_65536, pk_1000000, pk_2000000, pk_3000000, pk_252645135, pk_858993459, pk_1431655765, pl_add, pl_mul]
  rw [q_at (by omega)]
  simp only [po_let, po_hlet, Option.bind_some, Option.bind_none, Option.some.injEq, if_true, if_false, eq_self, pb_if, pb_nar, Bool.false_eq_true, Bool.true_eq_false, Bool.or_true, Bool.true_or, Bool.or_false, Bool.false_or, Bool.and_true, Bool.true_and, Bool.and_false, Bool.false_and, Nat.add_zero, Nat.mul_zero, Nat.zero_add]
  rw [hP.1.1, q_lotPart (by omega)]
  simp only [po_let, po_hlet, Option.bind_some, Option.bind_none, Option.some.injEq, if_true, if_false, eq_self, pb_if, pb_nar, Bool.false_eq_true, Bool.true_eq_false, Bool.or_true, Bool.true_or, Bool.or_false, Bool.false_or, Bool.and_true, Bool.true_and, Bool.and_false, Bool.false_and, Nat.add_zero, Nat.mul_zero, Nat.zero_add]
  rw [hL.1.1]
  simp only [-Int32.reduceOfNat, pk_0, pk_1, pk_2, pk_3, pk_4, pk_5, pk_6, pk_7, pk_8, pk_9, pk_10, pk_11, pk_12, pk_13, pk_14, pk_15, pk_16, pk_17, pk_18, pk_19, pk_20, pk_21, pk_22, pk_23, pk_24, pk_25, pk_26, pk_27, pk_28, pk_29, pk_30, pk_31, pk_32, pk_33, pk_44, pk_45, pk_46, pk_48, pk_50, pk_57, pk_59, pk_60, pk_63, pk_67, pk_69, pk_76, pk_78, pk_79, pk_80, pk_83, pk_86, pk_87, pk_90, pk_97, pk_99, pk_100, pk_110, pk_116, pk_122, pk_126, pk_160, pk_190, pk_255, pk_280, pk_281, pk_500, pk_620, pk_668, pk_1000, pk_3340, pk_4008, pk_5000, pk_65536, pk_1000000, pk_2000000, pk_3000000, pk_252645135, pk_858993459, pk_1431655765, pl_add, pl_mul]
  repeat rw [pl_clamp (by omega)]
  (first | rw [if_pos (by first | exact pl_inl (by omega) (by omega) | exact (pl_le (by omega) (by omega)).mpr (by omega) | exact mt (pl_le (by omega) (by omega)).mp (by omega) | exact (pl_lt (by omega) (by omega)).mpr (by omega) | exact mt (pl_lt (by omega) (by omega)).mp (by omega) | exact (pl_eq (by omega) (by omega)).mpr (by omega) | exact mt (pl_eq (by omega) (by omega)).mp (by omega) | exact (pl_neg1 (by omega)).mp | exact (pl_neg1' (by omega)).mp | assumption | omega | rfl | decide)] | rw [if_neg (by first | exact pl_inl (by omega) (by omega) | exact (pl_le (by omega) (by omega)).mpr (by omega) | exact mt (pl_le (by omega) (by omega)).mp (by omega) | exact (pl_lt (by omega) (by omega)).mpr (by omega) | exact mt (pl_lt (by omega) (by omega)).mp (by omega) | exact (pl_eq (by omega) (by omega)).mpr (by omega) | exact mt (pl_eq (by omega) (by omega)).mp (by omega) | exact (pl_neg1 (by omega)).mp | exact (pl_neg1' (by omega)).mp | assumption | omega | rfl | decide)])
  rfl
def ps_lc (N : po_N) (p : Nat) : Int32 := Int32.ofNat (ps_n (pa_in N (32 + 16 * ps_lo N p)))
def ps_li (N : po_N) (p : Nat) (k : Nat) : Int32 := if k < 2 then 0 else if k = 8 then pup (ps_rule N p 6 * ps_fa N p) 10 else ps_rule N p (k - 2)
theorem q_limit {p k : Nat} (hV : pV (I (M + 1))) (hp : p < pv (I (M + 1)) 2) (hk : k < 9) : m_X8_limit I M (Int32.ofNat p) (Int32.ofNat k) = some (ps_li (I (M + 1)) p k) := by
  have h0' := hV.2.2.1.2.2
  have hP := hV.2.2.2.2.2.2.1 p hp
  unfold m_X8_limit m_X8_limit_e m_X8_limit_44 ps_li
  simp only [-Int32.reduceOfNat, pk_0, pk_1, pk_2, pk_3, pk_4, pk_5, pk_6, pk_7, pk_8, pk_9, pk_10, pk_11, pk_12, pk_13, pk_14, pk_15, pk_16, pk_17, pk_18, pk_19, pk_20, pk_21, pk_22, pk_23, pk_24, pk_25, pk_26, pk_27, pk_28, pk_29, pk_30, pk_31, pk_32, pk_33, pk_44, pk_45, pk_46, pk_48, pk_50, pk_57, pk_59, pk_60, pk_63, pk_67, pk_69, pk_76, pk_78, pk_79, pk_80, pk_83, pk_86, pk_87, pk_90, pk_97, pk_99, pk_100, pk_110, pk_116, pk_122, pk_126, pk_160, pk_190, pk_255, pk_280, pk_281, pk_500, pk_620, pk_668, pk_1000, pk_3340, pk_4008, pk_5000, pk_65536, pk_1000000, pk_2000000, pk_3000000, pk_252645135, pk_858993459, pk_1431655765, pl_add, pl_mul]
  by_cases h2 : k < 2
  · rw [if_neg (by first | exact pl_inl (by omega) (by omega) | exact (pl_le (by omega) (by omega)).mpr (by omega) | exact mt (pl_le (by omega) (by omega)).mp (by omega) | exact (pl_lt (by omega) (by omega)).mpr (by omega) | exact mt (pl_lt (by omega) (by omega)).mp (by omega) | exact (pl_eq (by omega) (by omega)).mpr (by omega) | exact mt (pl_eq (by omega) (by omega)).mp (by omega) | exact (pl_neg1 (by omega)).mp | exact (pl_neg1' (by omega)).mp | assumption | omega | rfl | decide), if_pos h2]
  · rw [if_pos (by first | exact pl_inl (by omega) (by omega) | exact (pl_le (by omega) (by omega)).mpr (by omega) | exact mt (pl_le (by omega) (by omega)).mp (by omega) | exact (pl_lt (by omega) (by omega)).mpr (by omega) | exact mt (pl_lt (by omega) (by omega)).mp (by omega) | exact (pl_eq (by omega) (by omega)).mpr (by omega) | exact mt (pl_eq (by omega) (by omega)).mp (by omega) | exact (pl_neg1 (by omega)).mp | exact (pl_neg1' (by omega)).mp | assumption | omega | rfl | decide), if_neg h2]
    by_cases h8 : k = 8
    · subst h8
      rw [if_pos rfl, if_pos rfl, q_ruleOf hV hp (by omega), Option.bind_some, q_floorArea (by omega) hP.2.2.2.1.1, Option.bind_some, q_up (by decide)]
      rfl
    · rw [if_neg (by first | exact pl_inl (by omega) (by omega) | exact (pl_le (by omega) (by omega)).mpr (by omega) | exact mt (pl_le (by omega) (by omega)).mp (by omega) | exact (pl_lt (by omega) (by omega)).mpr (by omega) | exact mt (pl_lt (by omega) (by omega)).mp (by omega) | exact (pl_eq (by omega) (by omega)).mpr (by omega) | exact mt (pl_eq (by omega) (by omega)).mp (by omega) | exact (pl_neg1 (by omega)).mp | exact (pl_neg1' (by omega)).mp | assumption | omega | rfl | decide), if_neg h8, pl_sub (by omega), q_ruleOf hV hp (by omega)]
      rfl
def ps_B (N : po_N) (p : Nat) : Int32 → Int32 → Bool := pa_in N (160 + 46 * p)
def ps_L (N : po_N) (p : Nat) : Int32 → Int32 → Bool := pa_in N (32 + 16 * ps_lo N p)
def ps_me (N : po_N) (p : Nat) (k : Nat) : Int32 :=
  if k = 0 then Int32.ofNat (ps_n (fun c r => ps_B N p c r && !ps_L N p c r))
  else if k = 1 then Int32.ofNat (ps_n (fun c r => ps_B N p c r && ps_blt N (Int32.ofNat (ps_lo N p)) c r (Int32.ofNat p)))
  else if k = 2 then Int32.ofNat (ps_m (ps_B N p) (pdist (ps_L N p) (pv N (32 + 16 * ps_lo N p + 1))))
  else if k = 3 then Int32.ofNat (ps_m (ps_B N p) (pside (ps_L N p) (pv N (32 + 16 * ps_lo N p + 1))))
  else if k = 4 then pup (100 * Int32.ofNat (ps_n (fun c r => ps_L N p c r && (ps_B N p c r || ps_blt N (Int32.ofNat (ps_lo N p)) c r (Int32.ofNat p))))) (ps_lc N p)
  else if k = 5 then N (160 + 46 * p + 17)
  else if k = 6 then pup (10 * (ps_fa N p + ps_fas N (Int32.ofNat (ps_lo N p)) (Int32.ofNat p))) (ps_lc N p)
  else if k = 7 then N (160 + 46 * p + 1)
  else N (160 + 46 * p + 18)
theorem q_measure {p k : Nat} (hV : pV (I (M + 1))) (hp : p < pv (I (M + 1)) 2) (hk : k < 9) : m_X8_measure I M (Int32.ofNat p) (Int32.ofNat k) = some (ps_me (I (M + 1)) p k) := by
  have h0' := hV.2.2.1.2.2
  have hl' := hV.2.1.2.2
  have hP := hV.2.2.2.2.2.2.1 p hp
  have hP' := hP.2.1
  have hL := hV.2.2.2.2.2.1 _ hP.2.1
  have hc := ps_npos hL.2.2
  have hc' := ps_nle (pa_in (I (M + 1)) (32 + 16 * pv (I (M + 1)) (160 + 46 * p)))
  have hn : ¬ ps_lc (I (M + 1)) p = 0 := by
    unfold ps_lc ps_lo
    rw [pk_0]
    exact mt (pl_eq (by omega) (by omega)).mp (by omega)
  have hlc : m_X8_lotCells I M (Int32.ofNat (pv (I (M + 1)) (160 + 46 * p))) = some (ps_lc (I (M + 1)) p) := q_lotCells (by omega) hL.2.2.1
  unfold m_X8_measure m_X8_measure_e ps_me
  rw [pk_0, q_at (by omega), Option.bind_some, show 160 + 46 * p + 0 = 160 + 46 * p from rfl, hP.1.1]
  rcases (by omega : k = 0 ∨ k = 1 ∨ k = 2 ∨ k = 3 ∨ k = 4 ∨ k = 5 ∨ k = 6 ∨ k = 7 ∨ k = 8) with h | h | h | h | h | h | h | h | h <;> subst h
  · rw [if_neg (by decide), if_neg (by decide), if_neg (by decide), if_neg (by decide), if_neg (by decide), q_over0 hV hp]; rfl
  · rw [if_neg (by decide), if_neg (by decide), if_neg (by decide), if_neg (by decide), if_neg (by decide), q_over1 hV hp]; rfl
  · rw [if_neg (by decide), if_neg (by decide), if_neg (by decide), if_neg (by decide), if_neg (by decide), q_over2 hV hp]; rfl
  · rw [if_neg (by decide), if_neg (by decide), if_neg (by decide), if_neg (by decide), if_neg (by decide), q_over3 hV hp]; rfl
  · rw [if_pos (by decide), pk_4, q_over4 hV hp, Option.bind_some, hlc, Option.bind_some, q_up hn]; rfl
  · rw [if_neg (by decide), if_pos (by decide), pk_17, q_at (by omega)]; rfl
  · rw [if_neg (by decide), if_neg (by decide), if_pos (by decide), q_floorArea (by omega) hP.2.2.2.1.1, Option.bind_some, q_floorAreas hV, Option.bind_some, hlc, Option.bind_some, q_up hn]; rfl
  · rw [if_neg (by decide), if_neg (by decide), if_neg (by decide), if_pos (by decide), pk_1, q_at (by omega)]; rfl
  · rw [if_neg (by decide), if_neg (by decide), if_neg (by decide), if_neg (by decide), if_pos (by decide), pk_18, q_at (by omega)]; rfl
/-! variances -/
def ps_can (N : po_N) (p k : Nat) (v : Nat) : Bool := decide (N 0 ≤ N (620 + 4 * v + 3)) && (decide (N (620 + 4 * v) = N (160 + 46 * p)) && (decide (N (620 + 4 * v + 1) = Int32.ofNat k) && ph (Int32.ofNat k) (ps_me N p k) (ps_li N p k) (N (620 + 4 * v + 2))))
def ps_bet (N : po_N) (p k : Nat) (v : Nat) (b : Option Nat) : Option Nat := if ps_can N p k v = true then (match b with
  | none => some v
  | some w => if N (620 + 4 * v + 2) < N (620 + 4 * w + 2) then some v else some w) else b
def ps_us (N : po_N) (p k : Nat) : Option Nat := pfold (ps_bet N p k) (pv N 3) none
theorem q_isInForce {v : Nat} (hv : v < 12) : m_X8_isInForce I M (Int32.ofNat v) = some (pb (decide (I (M + 1) 0 ≤ I (M + 1) (620 + 4 * v + 3)))) := by
  unfold m_X8_isInForce m_X8_isInForce_e m_X8_isInForce_20
  rw [pk_3, q_variancePart (by omega), Option.bind_some]
  by_cases h : I (M + 1) (620 + 4 * v + 3) < I (M + 1) 0
  · rw [if_pos h, if_pos pn_0, decide_eq_false (by grind)]; rfl
  · rw [if_neg h, if_pos pn_1, decide_eq_true (by grind)]; rfl
theorem q_used {p k : Nat} (hV : pV (I (M + 1))) (hp : p < pv (I (M + 1)) 2) (hk : k < 9) : m_X8_used I M (Int32.ofNat p) (Int32.ofNat k) (ps_me (I (M + 1)) p k) (ps_li (I (M + 1)) p k) = some (po_op (ps_us (I (M + 1)) p k)) := by
  have h0' := hV.2.2.1.2.2
  have hn := hV.2.2.2.1
  have hn' := hn.2.2
  show m_X8_used_6L I 5000 M _ _ _ _ (po_op none) (Int32.ofNat 0) = _
  refine po_inv (L := fun f b v => m_X8_used_6L I f M (Int32.ofNat p) (Int32.ofNat k) (ps_me (I (M + 1)) p k) (ps_li (I (M + 1)) p k) (po_op b) (Int32.ofNat v)) (n := pv (I (M + 1)) 3) (fun v b => b = pfold (ps_bet (I (M + 1)) p k) v none ∧ ∀ w, b = some w → w < v) (fun t => t = _) ?_ ?_ _ 5000 none 0 (Nat.zero_add _) (by omega) ⟨rfl, fun w h => by cases h⟩
  · intro f b v hv hb
    left
    refine ⟨ps_bet (I (M + 1)) p k v b, ⟨by rw [hb.1]; rfl, ?_⟩, ?_⟩
    · intro w hw
      unfold ps_bet at hw
      split at hw
      · split at hw
        · obtain rfl := Option.some.inj hw; omega
        · split at hw
          · obtain rfl := Option.some.inj hw; omega
          · obtain rfl := Option.some.inj hw
            have := hb.2 _ rfl
            omega
      · have := hb.2 _ hw
        omega
    · show m_X8_used_6 I _ _ _ _ _ _ _ _ = _
      unfold m_X8_used_6 m_X8_used_74 m_X8_used_75 m_X8_used_105 m_X8_used_110 m_X8_used_112 ps_bet ps_can
      simp only [-Int32.reduceOfNat, pk_0, pk_1, pk_2, pk_3, pk_4, pk_5, pk_6, pk_7, pk_8, pk_9, pk_10, pk_11, pk_12, pk_13, pk_14, pk_15, pk_16, pk_17, pk_18, pk_19, pk_20, pk_21, pk_22, pk_23, pk_24, pk_25, pk_26, pk_27, pk_28, pk_29, pk_30, pk_31, pk_32, pk_33, pk_44, pk_45, pk_46, pk_48, pk_50, pk_57, pk_59, pk_60, pk_63, pk_67, pk_69, pk_76, pk_78, pk_79, pk_80, pk_83, pk_86, pk_87, pk_90, pk_97, pk_99, pk_100, pk_110, pk_116, pk_122, pk_126, pk_160, pk_190, pk_255, pk_280, pk_281, pk_500, pk_620, pk_668, pk_1000, pk_3340, pk_4008, pk_5000, pk_65536, pk_1000000, pk_2000000, pk_3000000, pk_252645135, pk_858993459, pk_1431655765, pl_add, pl_mul]
      rw [hn.1, if_neg (by first | exact pl_inl (by omega) (by omega) | exact (pl_le (by omega) (by omega)).mpr (by omega) | exact mt (pl_le (by omega) (by omega)).mp (by omega) | exact (pl_lt (by omega) (by omega)).mpr (by omega) | exact mt (pl_lt (by omega) (by omega)).mp (by omega) | exact (pl_eq (by omega) (by omega)).mpr (by omega) | exact mt (pl_eq (by omega) (by omega)).mp (by omega) | exact (pl_neg1 (by omega)).mp | exact (pl_neg1' (by omega)).mp | assumption | omega | rfl | decide), q_isInForce (by omega), q_variancePart (by omega), q_variancePart (by omega), q_variancePart (by omega), q_at (by omega)]
      simp only [po_let, po_hlet, Option.bind_some, Option.bind_none, Option.some.injEq, if_true, if_false, eq_self, pb_if, pb_nar, Bool.false_eq_true, Bool.true_eq_false, Bool.or_true, Bool.true_or, Bool.or_false, Bool.false_or, Bool.and_true, Bool.true_and, Bool.and_false, Bool.false_and, Nat.add_zero, Nat.mul_zero, Nat.zero_add, q_helps]
      cases decide (I (M + 1) 0 ≤ I (M + 1) (620 + 4 * v + 3)) <;> simp only [po_let, po_hlet, Option.bind_some, Option.bind_none, Option.some.injEq, if_true, if_false, eq_self, pb_if, pb_nar, Bool.false_eq_true, Bool.true_eq_false, Bool.or_true, Bool.true_or, Bool.or_false, Bool.false_or, Bool.and_true, Bool.true_and, Bool.and_false, Bool.false_and, Nat.add_zero, Nat.mul_zero, Nat.zero_add]
      by_cases h1 : I (M + 1) (620 + 4 * v) = I (M + 1) (160 + 46 * p)
      · rw [if_pos h1, decide_eq_true h1]
        by_cases h2 : I (M + 1) (620 + 4 * v + 1) = Int32.ofNat k
        · rw [if_pos h2, decide_eq_true h2]
          simp only [po_let, po_hlet, Option.bind_some, Option.bind_none, Option.some.injEq, if_true, if_false, eq_self, pb_if, pb_nar, Bool.false_eq_true, Bool.true_eq_false, Bool.or_true, Bool.true_or, Bool.or_false, Bool.false_or, Bool.and_true, Bool.true_and, Bool.and_false, Bool.false_and, Nat.add_zero, Nat.mul_zero, Nat.zero_add]
          cases ph (Int32.ofNat k) (ps_me (I (M + 1)) p k) (ps_li (I (M + 1)) p k) (I (M + 1) (620 + 4 * v + 2)) <;> simp only [po_let, po_hlet, Option.bind_some, Option.bind_none, Option.some.injEq, if_true, if_false, eq_self, pb_if, pb_nar, Bool.false_eq_true, Bool.true_eq_false, Bool.or_true, Bool.true_or, Bool.or_false, Bool.false_or, Bool.and_true, Bool.true_and, Bool.and_false, Bool.false_and, Nat.add_zero, Nat.mul_zero, Nat.zero_add]
          cases b with
          | none => rfl
          | some w =>
            have hw := hb.2 w rfl
            show (if Int32.ofNat 1 = Int32.ofNat 0 then _ else if Int32.ofNat w = -Int32.ofNat 1 then _ else (m_X8_variancePart I M (Int32.ofNat w) (Int32.ofNat 2)).bind _) = _
            rw [if_neg (by decide), if_neg (by first | exact pl_inl (by omega) (by omega) | exact (pl_le (by omega) (by omega)).mpr (by omega) | exact mt (pl_le (by omega) (by omega)).mp (by omega) | exact (pl_lt (by omega) (by omega)).mpr (by omega) | exact mt (pl_lt (by omega) (by omega)).mp (by omega) | exact (pl_eq (by omega) (by omega)).mpr (by omega) | exact mt (pl_eq (by omega) (by omega)).mp (by omega) | exact (pl_neg1 (by omega)).mp | exact (pl_neg1' (by omega)).mp | assumption | omega | rfl | decide), q_variancePart (by omega)]
            simp only [po_let, po_hlet, Option.bind_some, Option.bind_none, Option.some.injEq, if_true, if_false, eq_self, pb_if, pb_nar, Bool.false_eq_true, Bool.true_eq_false, Bool.or_true, Bool.true_or, Bool.or_false, Bool.false_or, Bool.and_true, Bool.true_and, Bool.and_false, Bool.false_and, Nat.add_zero, Nat.mul_zero, Nat.zero_add]
            by_cases h3 : I (M + 1) (620 + 4 * w + 2) ≤ I (M + 1) (620 + 4 * v + 2)
            · rw [if_pos h3, if_neg (by grind)]
            · rw [if_neg h3, if_pos (by grind)]; rfl
        · rw [if_neg h2, decide_eq_false h2]; rfl
      · rw [if_neg h1, decide_eq_false h1]; rfl
  · intro f b hb
    show m_X8_used_6 I _ _ _ _ _ _ _ _ = _
    unfold m_X8_used_6
    simp only [-Int32.reduceOfNat, pk_0, pk_1, pk_2, pk_3, pk_4, pk_5, pk_6, pk_7, pk_8, pk_9, pk_10, pk_11, pk_12, pk_13, pk_14, pk_15, pk_16, pk_17, pk_18, pk_19, pk_20, pk_21, pk_22, pk_23, pk_24, pk_25, pk_26, pk_27, pk_28, pk_29, pk_30, pk_31, pk_32, pk_33, pk_44, pk_45, pk_46, pk_48, pk_50, pk_57, pk_59, pk_60, pk_63, pk_67, pk_69, pk_76, pk_78, pk_79, pk_80, pk_83, pk_86, pk_87, pk_90, pk_97, pk_99, pk_100, pk_110, pk_116, pk_122, pk_126, pk_160, pk_190, pk_255, pk_280, pk_281, pk_500, pk_620, pk_668, pk_1000, pk_3340, pk_4008, pk_5000, pk_65536, pk_1000000, pk_2000000, pk_3000000, pk_252645135, pk_858993459, pk_1431655765, pl_add, pl_mul]
    rw [hn.1, if_pos (by first | exact pl_inl (by omega) (by omega) | exact (pl_le (by omega) (by omega)).mpr (by omega) | exact mt (pl_le (by omega) (by omega)).mp (by omega) | exact (pl_lt (by omega) (by omega)).mpr (by omega) | exact mt (pl_lt (by omega) (by omega)).mp (by omega) | exact (pl_eq (by omega) (by omega)).mpr (by omega) | exact mt (pl_eq (by omega) (by omega)).mp (by omega) | exact (pl_neg1 (by omega)).mp | exact (pl_neg1' (by omega)).mp | assumption | omega | rfl | decide), hb.1]
    rfl
end QP
