section QB5
variable {I : po_I} {R : po_R} {o M u n t : Nat} {N : po_N} {st : Nat → Nat}
theorem po_uaa {α : Type} (f : Nat → Nat → α) (a j : Nat) (v : α) : po_u f a j v a j = v := by rw [po_uu, if_pos ⟨rfl, rfl⟩]
theorem po_letE {α : Type} (v : Int32) (f : Int32 → Option α) : po_let v f = f v := rfl
theorem po_hletE {α : Type} (v : po_I) (f : po_I → Option α) : po_hlet v f = f v := rfl
theorem plt_if1 {α : Type} {x : Int32} {m : Nat} (A E : α) : (if x < 0 then E else (if x < Int32.ofNat m then A else E)) = if plt x m = true then A else E := by
  unfold plt
  by_cases h : x < 0
  · rw [if_pos h, if_neg (fun h2 => Int32.not_lt.mpr (of_decide_eq_true h2).1 h)]
  · rw [if_neg h]
    by_cases h2 : x < Int32.ofNat m
    · rw [if_pos h2, if_pos (decide_eq_true ⟨Int32.not_lt.mp h, h2⟩)]
    · rw [if_neg h2, if_neg (fun h3 => h2 (of_decide_eq_true h3).2)]
theorem plt_if2 {α : Type} {x : Int32} {m : Nat} (A E : α) : (if x < 0 then E else (if Int32.ofNat m ≤ x then E else A)) = if plt x m = true then A else E := by
  unfold plt
  by_cases h : x < 0
  · rw [if_pos h, if_neg (fun h2 => Int32.not_lt.mpr (of_decide_eq_true h2).1 h)]
  · rw [if_neg h]
    by_cases h2 : Int32.ofNat m ≤ x
    · rw [if_pos h2, if_neg (fun h3 => Int32.not_lt.mpr h2 (of_decide_eq_true h3).2)]
    · rw [if_neg h2, if_pos (decide_eq_true ⟨Int32.not_lt.mp h, Int32.not_le.mp h2⟩)]
theorem plt_if3 {α : Type} {x : Int32} {m : Nat} (hm : m < 2147483647) (A E : α) : (if x < 0 then E else (if x ≤ Int32.ofNat m then A else E)) = if plt x (m + 1) = true then A else E := by
  rw [← plt_le (show m + 1 < 2147483648 by omega), show Int32.ofNat (m + 1) - 1 = Int32.ofNat m from pl_sub (a := m + 1) (b := 1) (by omega)]
  by_cases h : x < 0
  · rw [if_pos h, if_neg (fun h2 => Int32.not_lt.mpr (of_decide_eq_true h2).1 h)]
  · rw [if_neg h]
    by_cases h2 : x ≤ Int32.ofNat m
    · rw [if_pos h2, if_pos (decide_eq_true ⟨Int32.not_lt.mp h, h2⟩)]
    · rw [if_neg h2, if_neg (fun h3 => h2 (of_decide_eq_true h3).2)]
theorem q_isInk (x : Int32) {m : Nat} (hm : m < 2147483647) : m_X8_isIn x 0 (Int32.ofNat m) = some (pb (plt x (m + 1))) := by
  rw [q_isIn, ← plt_le (show m + 1 < 2147483648 by omega), show Int32.ofNat (m + 1) - 1 = Int32.ofNat m from pl_sub (a := m + 1) (b := 1) (by omega)]
theorem plt_ne {x : Int32} {m j : Nat} (hm : m < 2147483648) (h : ¬ plt x m = true) (hj : j < m) : ¬ x = Int32.ofNat j := by
  rintro rfl
  exact h (plt_k hm hj)
abbrev sIO : String := "java/lang/IndexOutOfBoundsException"
abbrev sIA : String := "java/lang/IllegalArgumentException"
abbrev sIS : String := "java/lang/IllegalStateException"
abbrev sNS : String := "java/util/NoSuchElementException"
abbrev sAE : String := "java/lang/ArithmeticException"
theorem L_rule (h : pInv I R o M st n) (a b : Int32) : ∃ w v I2, m_X7_rule I o a b = some w ∧ m_X8_rule I M a b = some (v, I2) ∧ pAg sIO sIA w (I2 M 0) v ∧ pScr I I2 o M := by
  have hV := h.1.1
  have hT := h.1.2.2
  have x1 : m_X7_rule I o a b = if plt a 4 = true then (if plt b 7 = true then Option.bind (m_X5_ruleOf I (o + 8) a b) fun x1 => some (.inl x1) else some (.inr sIA)) else some (.inr sIO) := by
    unfold m_X7_rule m_X7_rule_e m_X7_rule_9 m_X7_rule_29
    rw [pk_4, pk_7, plt_if1, plt_if1]
  have y1 : ∀ k J, J = po_u I M 0 k → m_X8_rule_29 I M a b M k = if k = 0 then (if po_in ((4 + (7 * a)) + b) 668 = true then some (I (M + 1) (Int32.toNatClampNeg ((4 + (7 * a)) + b)), J) else none) else some (0, J) := by
    rintro k J rfl
    unfold m_X8_rule_29 m_X8_rule_56 po_hlet
    dsimp only
    rw [po_uaa, po_u_ne (show M + 1 ≠ M by omega)]
  have y2 : m_X8_rule I M a b = if plt a 4 = true then (if plt b 7 = true then m_X8_rule_29 I M a b M 0 else m_X8_rule_29 I M a b M 2) else m_X8_rule_29 I M a b M 1 := by
    unfold m_X8_rule m_X8_rule_e
    rw [show m_X8_isIn a 0 3 = some (pb (plt a 4)) from q_isInk a (m := 3) (by omega), Option.bind_some, show m_X8_isIn b 0 6 = some (pb (plt b 7)) from q_isInk b (m := 6) (by omega), Option.bind_some]
    cases plt a 4 <;> cases plt b 7 <;> rfl
  rw [x1, y2]
  by_cases ha : plt a 4 = true
  · rw [if_pos ha, if_pos ha]
    by_cases hb : plt b 7 = true
    · obtain ⟨i, hi, rfl⟩ := plt_of (by omega) ha
      obtain ⟨j, hj, rfl⟩ := plt_of (by omega) hb
      obtain ⟨J, eJ, j0, j1, j2⟩ := po_uJ I M 0
      rw [if_pos hb, if_pos hb, x_ruleOf hT hi hj, y1 0 J eJ, if_pos rfl]
      refine ⟨_, _, J, rfl, ?_, ⟨j0, rfl⟩, j2 o⟩
      rw [pk_4, pk_7, pl_mul, pl_add, pl_add, if_pos (pl_inl (by omega) (by omega)), pl_clamp (by omega)]
    · obtain ⟨J, eJ, j0, j1, j2⟩ := po_uJ I M 2
      rw [if_neg hb, if_neg hb, y1 2 J eJ, if_neg (by decide)]
      exact ⟨_, _, J, rfl, rfl, Or.inr ⟨rfl, j0⟩, j2 o⟩
  · obtain ⟨J, eJ, j0, j1, j2⟩ := po_uJ I M 1
    rw [if_neg ha, if_neg ha, y1 1 J eJ, if_neg (by decide)]
    exact ⟨_, _, J, rfl, rfl, Or.inl ⟨rfl, j0⟩, j2 o⟩
theorem L_errorPosition (h : pInv I R o M st n) : ∃ v I2, m_X7_errorPosition I o = some v ∧ m_X8_errorPosition I M = some (v, I2) ∧ pScr I I2 o M := by
  obtain ⟨len, d1, d2, d3, d4, d5⟩ := h.2.2.2.1
  refine ⟨I M 15, po_u I M 0 0, ?_, ?_, pScr_u⟩
  · unfold m_X7_errorPosition m_X7_errorPosition_e
    rw [d5]
  · unfold m_X8_errorPosition m_X8_errorPosition_e po_hlet
    dsimp only
    rw [po_uu, if_neg (by omega)]
theorem L_reason (h : pInv I R o M st n) (a : Int32) : ∃ w v I2, m_X7_reason I o a = some w ∧ m_X8_reason I M a = some (v, I2) ∧ pAg sIO sNS w (I2 M 0) v ∧ pScr I I2 o M := by
  have hV := h.1.1
  have hT := h.1.2.2
  have h2' := hV.2.2.1.2.2
  have y1 : ∀ k J, J = po_u I M 0 k → m_X8_reason_29 I M a M k = if k = 0 then Option.bind (m_X8_at J M a 27) fun x2 => some (x2, J) else some (0, J) := by
    rintro k J rfl
    unfold m_X8_reason_29 m_X8_reason_50 po_hlet
    dsimp only
    rw [po_uaa]
  have y2 : m_X8_reason I M a = if plt a (pv (I (M + 1)) 2) = true then Option.bind (m_X8_at I M a 19) fun x4 => if (x4 : Int32) = 1 then m_X8_reason_29 I M a M 0 else m_X8_reason_29 I M a M 2 else m_X8_reason_29 I M a M 1 := by
    unfold m_X8_reason m_X8_reason_e
    rw [q_isPermit hV, Option.bind_some]
    cases plt a (pv (I (M + 1)) 2) <;> rfl
  unfold m_X7_reason m_X7_reason_e
  rw [x_permitOrThrow hV hT, y2, Option.bind_some]
  by_cases ha : plt a (pv (I (M + 1)) 2) = true
  · rw [if_pos ha, if_pos ha]
    obtain ⟨k, hk, rfl⟩ := plt_of (by omega) ha
    have hP := hT.per hk
    rw [pl_clamp (by omega), pk_19, q_at (by omega), Option.bind_some]
    show ∃ w v I2, (if I (o + 8 + (29 + 5 * k)) 6 = 1 then some (Sum.inl (I (o + 8 + (29 + 5 * k)) 7)) else some (Sum.inr sNS)) = some w ∧ _
    rw [hP.sta]
    by_cases e : I (M + 1) (160 + 46 * k + 19) = 1
    · obtain ⟨J, eJ, j0, j1, j2⟩ := po_uJ I M 0
      rw [if_pos e, if_pos e, y1 0 J eJ, if_pos rfl, hP.rea e, pk_27, q_at (by omega), j1]
      exact ⟨_, _, J, rfl, rfl, ⟨j0, rfl⟩, j2 o⟩
    · obtain ⟨J, eJ, j0, j1, j2⟩ := po_uJ I M 2
      rw [if_neg e, if_neg e, y1 2 J eJ, if_neg (by decide)]
      exact ⟨_, _, J, rfl, rfl, Or.inr ⟨rfl, j0⟩, j2 o⟩
  · obtain ⟨J, eJ, j0, j1, j2⟩ := po_uJ I M 1
    rw [if_neg ha, if_neg ha, y1 1 J eJ, if_neg (by decide)]
    exact ⟨_, _, J, rfl, rfl, Or.inl ⟨rfl, j0⟩, j2 o⟩
theorem L_urgent (h : pInv I R o M st n) (a : Int32) : ∃ w v I2, m_X7_urgent I o a = some w ∧ m_X8_urgent I M a = some (v, I2) ∧ pAg sNS "" w (I2 M 0) v ∧ pScr I I2 o M := by
  have hV := h.1.1
  have hT := h.1.2.2
  have h2' := hV.2.2.1.2.2
  obtain ⟨J, eJ, j0, j1, j2⟩ := po_uJ I M 0
  have hVJ : pV (J (M + 1)) := by rw [j1]; exact hV
  have y : m_X8_urgent I M a = m_X8_urgent_7L 5000 J M a (Int32.ofNat 0) := by
    rw [eJ]; rfl
  rw [y, q_urgent7 hVJ, j1]
  unfold m_X7_urgent m_X7_urgent_e
  rw [x_inUrgency hV hT, Option.bind_some]
  cases e : ps_ur (I (M + 1)) a with
  | some k =>
    have hk : k < pv (I (M + 1)) 2 := by unfold ps_ur at e; exact (pfind_some e).1
    rw [if_neg (show ¬ po_op (some k) = -1 from (pl_neg1 (a := k) (by omega)).mp)]
    exact ⟨_, _, J, rfl, rfl, ⟨j0, rfl⟩, j2 o⟩
  | none =>
    rw [if_pos (show po_op none = -1 from rfl)]
    exact ⟨_, _, _, rfl, rfl, Or.inl ⟨rfl, by rw [po_uaa]⟩, (j2 o).tr pScr_u⟩
theorem L_worst (h : pInv I R o M st n) : ∃ w I1 v I2, m_X7_worst I o = some (w, I1) ∧ m_X8_worst I1 M = some (v, I2) ∧ pAg sNS "" w (I2 M 0) v ∧ pScr I I2 o M := by
  have hV := h.1.1
  have hT := h.1.2.2
  have hM := h.2.2.2.2.2.1
  obtain ⟨I1, a1, a2⟩ := x_worst (o := o) hV hT
  have r1 : I1 (M + 1) = I (M + 1) := a2 _ (by omega) (by omega)
  obtain ⟨J, eJ, j0, j1, j2⟩ := po_uJ I1 M 0
  have hVJ : pV (J (M + 1)) := by rw [j1, r1]; exact hV
  obtain ⟨J2, b1, b2⟩ := q_worst hVJ
  have y : m_X8_worst I1 M = m_X8_worst_11L 5000 J M (-1) 0 (Int32.ofNat 0) := by
    rw [eJ]; rfl
  have b1' := y.trans b1
  rw [j1, r1] at b1'
  rw [a1]
  have s2 : pScr I J2 o M := ((pScr.sv a2 hM).tr (j2 o)).tr (pScr_o ⟨b2.1, fun j hj => b2.2 j (by simp at hj ⊢; omega)⟩)
  have z2 : J2 M 0 = 0 := (b2.2 0 (by simp)).trans j0
  cases hw : (ps_wr (I (M + 1))).1 with
  | some k =>
    rw [hw] at b1'
    exact ⟨_, I1, _, _, rfl, b1', ⟨z2, rfl⟩, s2⟩
  | none =>
    rw [hw] at b1'
    exact ⟨_, I1, _, _, rfl, b1', Or.inl ⟨rfl, by rw [po_uaa]⟩, s2.tr pScr_u⟩
theorem L_mean (h : pInv I R o M st n) : ∃ w v I2, m_X7_meanFloorArea I o = some w ∧ m_X8_meanFloorArea I M = some (v, I2) ∧ ((w = .inl v ∧ I2 M 0 = 0) ∨ (w = .inr sAE ∧ I2 M 0 = 1)) ∧ pScr I I2 o M := by
  have hV := h.1.1
  have hT := h.1.2.2
  obtain ⟨J, eJ, j0, j1, j2⟩ := po_uJ I M 0
  have hVJ : pV (J (M + 1)) := by rw [j1]; exact hV
  have y : m_X8_meanFloorArea I M = Option.bind (m_X8_counted J M (-1)) fun x6 => m_X8_meanFloorArea_15L 5000 J M x6 0 (Int32.ofNat 0) := by
    rw [eJ]; rfl
  have y2 := q_mean15 hVJ
  rw [y, q_countedN hVJ, Option.bind_some, x_mean hV hT]
  rw [show pc (ps_st (J (M + 1))) (pv (J (M + 1)) 2) = ps_mc (J (M + 1)) from rfl, y2, j1]
  by_cases e : ps_mc (I (M + 1)) = 0
  · rw [if_pos e, if_pos e]
    exact ⟨_, _, _, rfl, rfl, Or.inr ⟨rfl, by rw [po_uaa]⟩, (j2 o).tr pScr_u⟩
  · rw [if_neg e, if_neg e]
    exact ⟨_, _, _, rfl, rfl, Or.inl ⟨rfl, j0⟩, j2 o⟩
theorem L_largest (h : pInv I R o M st n) (a : Int32) : ∃ w I1 v I2, m_X7_largest I o a = some (w, I1) ∧ m_X8_largest I1 M a = some (v, I2) ∧ pAg sIO "" w (I2 M 0) v ∧ pScr I I2 o M := by
  have hV := h.1.1
  have hT := h.1.2.2
  have hM := h.2.2.2.2.2.1
  have h1' := hV.2.1.2.2
  unfold m_X7_largest m_X7_largest_e
  rw [x_lotOrThrow hV hT, Option.bind_some]
  by_cases ha : plt a (pv (I (M + 1)) 1) = true
  · rw [if_pos ha]
    obtain ⟨k, hk, rfl⟩ := plt_of (by omega) ha
    obtain ⟨Rr, I1, a1, a2, a3⟩ := x_largestB (s := o + 3) hV hT (by omega) hk
    have r1 : I1 (M + 1) = I (M + 1) := a2 _ (by omega) (by omega)
    obtain ⟨J, eJ, j0, j1, j2⟩ := po_uJ I1 M 0
    have j3 : J (M + 1) = I (M + 1) := j1.trans r1
    have hVJ : pV (J (M + 1)) := by rw [j3]; exact hV
    have hkJ : k < pv (J (M + 1)) 1 := by rw [j3]; exact hk
    obtain ⟨R2, J2, b1, b2, b3⟩ := q_largest58 hVJ hkJ
    rw [j3] at b1 b3
    have hL := hV.2.2.2.2.2.1 k hk
    have hz := hL.1.2.2
    have e : Rr = R2 := pmx_uq (pmx_congr (fun c r _ _ => ps_gd_eq hV hk) a3) b3
    subst e
    have y : m_X8_largest I1 M (Int32.ofNat k) = some (Int32.ofNat Rr, J2) := by
      unfold m_X8_largest m_X8_largest_e
      generalize m_X8_largest_58L 5000 = F at b1 ⊢
      rw [po_hletE, ← eJ, q_isLot hVJ, j3, ha, Option.bind_some, if_neg (show ¬ pb true = 0 by decide), pk_0, q_lotPart (by omega), Option.bind_some, j3, show 32 + 16 * k + 0 = 32 + 16 * k from rfl, hL.1.1, pk_4, pk_7, pl_mul, pl_add, if_pos (pl_inl (by omega) (by omega)), pl_clamp (by omega)]
      rw [po_letE, Option.bind_some, pl_mul, pl_add, pk_1, pl_add, if_pos (pl_inl (by omega) (by omega)), pl_clamp (by omega), po_letE]
      exact b1
    have s2 : pScr I J2 o M := ((pScr.sv a2 hM).tr (j2 o)).tr ⟨fun q _ _ _ _ _ q7 => b2 q q7, by rw [b2 M (by omega)], by rw [b2 M (by omega)], by rw [b2 M (by omega)], by rw [b2 M (by omega)]⟩
    rw [pl_clamp (by omega)]
    refine ⟨.inl (Int32.ofNat Rr), I1, Int32.ofNat Rr, J2, ?_, y, ⟨by rw [b2 M (by omega)]; exact j0, rfl⟩, s2⟩
    rw [Sum.elim_inl, a1, Option.bind_some]
  · rw [if_neg ha]
    obtain ⟨J, eJ, j0, j1, j2⟩ := po_uJ I M 0
    have hVJ : pV (J (M + 1)) := by rw [j1]; exact hV
    refine ⟨.inr sIO, I, 0, po_u J M 0 1, rfl, ?_, Or.inl ⟨rfl, by rw [po_uaa]⟩, (j2 o).tr pScr_u⟩
    unfold m_X8_largest m_X8_largest_e
    generalize m_X8_largest_58L 5000 = F
    unfold po_hlet
    dsimp only
    rw [← eJ, q_isLot hVJ, j1, Option.bind_some, if_pos (show pb (plt a (pv (I (M + 1)) 1)) = 0 by rw [pb_eq0]; simpa using ha)]
    rfl
end QB5
