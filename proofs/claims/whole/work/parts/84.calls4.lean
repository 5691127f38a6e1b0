section QB8
variable {I : po_I} {R : po_R} {o M u n t k p : Nat} {N : po_N} {st : Nat → Nat}
theorem L_condition (h : pInv I R o M st n) (a b c : Int32) : ∃ w v I2, m_X7_condition I o a b c = some w ∧ m_X8_condition I M a b c = some (v, I2) ∧ pAg sIO sIA w (I2 M 0) v ∧ pScr I I2 o M := by
  have hV := h.1.1
  have hT := h.1.2.2
  have h2' := hV.2.2.1.2.2
  have y1 : ∀ e J, J = po_u I M 0 e → m_X8_condition_46 I M a b c M e = if e = 0 then Option.bind (m_X8_conditionPart J M a b c) fun x2 => some (x2, J) else some (0, J) := by
    rintro e J rfl
    unfold m_X8_condition_46 m_X8_condition_67 po_hlet
    dsimp only
    rw [po_uaa]
  unfold m_X7_condition m_X7_condition_e m_X7_condition_20 m_X7_condition_90 m_X8_condition m_X8_condition_e
  rw [x_permitOrThrow hV hT, Option.bind_some, q_isPermit hV, Option.bind_some]
  by_cases ha : plt a (pv (I (M + 1)) 2) = true
  · obtain ⟨k, hk, rfl⟩ := plt_of (by omega) ha
    have hP := hT.per hk
    have hp := hV.per hk
    have hc := hp.2.2.2.2.2.2.2.2.2.2.2.1
    have hc6 := hc.2.2
    rw [if_pos ha, ha, if_neg (show ¬ pb true = 0 by decide), q_conditionMany hV hk, Option.bind_some, show ps_cm (I (M + 1)) k = pv (I (M + 1)) (160 + 46 * k + 45) from rfl, q_isIn, Option.bind_some, plt_le (by omega)]
    rw [Sum.elim_inl]
    rw [pl_clamp (by omega), hP.con, hc.1, plt_if1]
    by_cases hb : plt b (pv (I (M + 1)) (160 + 46 * k + 45)) = true
    · obtain ⟨i, hi, rfl⟩ := plt_of (by omega) hb
      rw [if_pos hb, hb, if_neg (show ¬ pb true = 0 by decide), show m_X8_isIn c 0 2 = some (pb (plt c 3)) from q_isInk c (m := 2) (by omega), Option.bind_some]
      by_cases hcc : plt c 3 = true
      · obtain ⟨j, hj, rfl⟩ := plt_of (by omega) hcc
        obtain ⟨J, eJ, j0, j1, j2⟩ := po_uJ I M 0
        have hVJ : pV (J (M + 1)) := by rw [j1]; exact hV
        have hkJ : k < pv (J (M + 1)) 2 := by rw [j1]; exact hk
        have hcn := (hP.cnd i (by omega)).1 hi
        rw [hcc, if_neg (show ¬ pb true = 0 by decide), y1 0 J eJ, if_pos rfl, q_conditionPart hVJ hkJ (by rw [j1]; exact hi) hj, Option.bind_some, j1]
        rcases (by omega : j = 0 ∨ j = 1 ∨ j = 2) with e | e | e <;> subst e
        · rw [if_pos (show Int32.ofNat 0 = 0 from rfl), if_pos (show po_in (Int32.ofNat i) 6 = true from pl_inl (by omega) (by omega)), pl_clamp (by omega), hcn.2.1]
          exact ⟨_, _, J, rfl, rfl, ⟨j0, rfl⟩, j2 o⟩
        · rw [if_neg (show ¬ Int32.ofNat 1 = 0 by decide), if_pos (show Int32.ofNat 1 = 1 from rfl), if_pos (show po_in (Int32.ofNat i) 6 = true from pl_inl (by omega) (by omega)), pl_clamp (by omega), hcn.2.2]
          exact ⟨_, _, J, rfl, rfl, ⟨j0, rfl⟩, j2 o⟩
        · rw [if_neg (show ¬ Int32.ofNat 2 = 0 by decide), if_neg (show ¬ Int32.ofNat 2 = 1 by decide), if_pos (show Int32.ofNat 2 = 2 from rfl), x_isOpen (by omega), Option.bind_some, hcn.1]
          have e2 : ps_cp (I (M + 1)) k i 2 = pv (I (M + 1)) (160 + 46 * k + 29 + i) % 2 := rfl
          rw [e2]
          by_cases e3 : pv (I (M + 1)) (160 + 46 * k + 29 + i) % 2 = 1
          · rw [decide_eq_true e3, if_neg (show ¬ pb true = 0 by decide), e3]
            exact ⟨_, _, J, rfl, rfl, ⟨j0, rfl⟩, j2 o⟩
          · rw [decide_eq_false e3, if_pos pb_f, show pv (I (M + 1)) (160 + 46 * k + 29 + i) % 2 = 0 by omega]
            exact ⟨_, _, J, rfl, rfl, ⟨j0, rfl⟩, j2 o⟩
      · obtain ⟨J, eJ, j0, j1, j2⟩ := po_uJ I M 2
        rw [if_neg (show ¬ c = 0 from plt_ne (j := 0) (by omega) hcc (by omega)), if_neg (show ¬ c = 1 from plt_ne (j := 1) (by omega) hcc (by omega)), if_neg (show ¬ c = 2 from plt_ne (j := 2) (by omega) hcc (by omega)), show plt c 3 = false by simpa using hcc, if_pos pb_f, y1 2 J eJ, if_neg (by decide)]
        exact ⟨_, _, J, rfl, rfl, Or.inr ⟨rfl, j0⟩, j2 o⟩
    · obtain ⟨J, eJ, j0, j1, j2⟩ := po_uJ I M 1
      rw [if_neg hb, show plt b (pv (I (M + 1)) (160 + 46 * k + 45)) = false by simpa using hb, if_pos pb_f, y1 1 J eJ, if_neg (by decide)]
      exact ⟨_, _, J, rfl, rfl, Or.inl ⟨rfl, j0⟩, j2 o⟩
  · obtain ⟨J, eJ, j0, j1, j2⟩ := po_uJ I M 1
    rw [if_neg ha, show plt a (pv (I (M + 1)) 2) = false by simpa using ha, if_pos pb_f, y1 1 J eJ, if_neg (by decide)]
    exact ⟨_, _, J, rfl, rfl, Or.inl ⟨rfl, j0⟩, j2 o⟩
theorem L_account (h : pInv I R o M st n) (a b : Int32) : ∃ w v I2, m_X7_account I o a b = some w ∧ m_X8_account I M a b = some (v, I2) ∧ pAg sIO sIA w (I2 M 0) v ∧ pScr I I2 o M := by
  have hV := h.1.1
  have hT := h.1.2.2
  have h2 := hV.2.2.1
  have h2' := h2.2.2
  have y1 : ∀ e J, J = po_u I M 0 e → m_X8_account_32 I M a b M e = if e = 0 then (Option.bind (m_X8_sumOf J M a 25) fun x2 => Option.bind (m_X8_sumOf J M a 26) fun x3 => if (b : Int32) = 0 then some (x2, J) else (if (b : Int32) = 1 then some (x3, J) else some (x2 - x3, J))) else some (0, J) := by
    rintro e J rfl
    unfold m_X8_account_32 m_X8_account_83 po_hlet
    dsimp only
    rw [po_uaa]
  have y2 : m_X8_account I M a b = if (a = -1 ∨ plt a (pv (I (M + 1)) 2) = true) then (if plt b 3 = true then m_X8_account_32 I M a b M 0 else m_X8_account_32 I M a b M 2) else m_X8_account_32 I M a b M 1 := by
    unfold m_X8_account m_X8_account_e m_X8_account_18
    rw [show m_X8_isIn b 0 2 = some (pb (plt b 3)) from q_isInk b (m := 2) (by omega), Option.bind_some, q_isPermit hV, Option.bind_some]
    by_cases e : a = -1
    · rw [if_pos e, if_pos (Or.inl e)]
      cases plt b 3 <;> rfl
    · rw [if_neg e]
      cases e2 : plt a (pv (I (M + 1)) 2) with
      | false => rw [if_neg (show ¬ (a = -1 ∨ false = true) from not_or.mpr ⟨e, by decide⟩)]; rfl
      | true =>
        rw [if_pos (show a = -1 ∨ true = true from Or.inr rfl), if_neg (show ¬ pb true = 0 by decide)]
        cases plt b 3 <;> rfl
  have x1 : m_X7_account I o a b = if (a = -1 ∨ plt a (pv (I (M + 1)) 2) = true) then (if plt b 3 = true then m_X7_account_55L I 5000 o a b 0 0 0 else some (.inr sIA)) else some (.inr sIO) := by
    unfold m_X7_account m_X7_account_e m_X7_account_16 m_X7_account_36
    rw [hT.2.2.1, h2.1, ← plt_if3 (m := 2) (by omega)]
    by_cases e : a = -1
    · rw [if_pos (Or.inl e), if_neg (by rw [e]; decide), if_pos (by rw [e]; exact Int32.lt_of_lt_of_le (show (-1 : Int32) < 0 by decide) (pl_nonneg (by omega)))]
      rfl
    · by_cases e2 : plt a (pv (I (M + 1)) 2) = true
      · obtain ⟨k, hk, rfl⟩ := plt_of (by omega) e2
        rw [if_pos (Or.inr e2), if_neg (Int32.not_lt.mpr (Int32.le_trans (show (-1 : Int32) ≤ 0 by decide) (pl_nonneg (by omega)))), if_pos ((pl_lt (by omega) (by omega)).mpr hk)]
        rfl
      · rw [if_neg (not_or.mpr ⟨e, e2⟩)]
        by_cases e3 : a < -1
        · rw [if_pos e3]
        · rw [if_neg e3, if_neg (fun e4 => e2 (decide_eq_true ⟨?_, e4⟩))]
          have h5 : (-1 : Int32) < a := Int32.lt_of_le_of_ne (Int32.not_lt.mp e3) (fun h => e h.symm)
          rw [Int32.lt_iff_toInt_lt] at h5
          rw [Int32.le_iff_toInt_le]
          have h6 : (-1 : Int32).toInt = -1 := by decide
          have h7 : (0 : Int32).toInt = 0 := by decide
          omega
  rw [x1, y2]
  by_cases ha : a = -1 ∨ plt a (pv (I (M + 1)) 2) = true
  · rw [if_pos ha, if_pos ha]
    by_cases hb : plt b 3 = true
    · obtain ⟨J, eJ, j0, j1, j2⟩ := po_uJ I M 0
      have hVJ : pV (J (M + 1)) := by rw [j1]; exact hV
      rw [if_pos hb, if_pos hb, show m_X7_account_55L I 5000 o a b 0 0 0 = _ from x_account hV hT, y1 0 J eJ, if_pos rfl, show m_X8_sumOf J M a 25 = _ from q_sumOf (j := 25) hVJ (by omega), Option.bind_some, show m_X8_sumOf J M a 26 = _ from q_sumOf (j := 26) hVJ (by omega), Option.bind_some, j1]
      by_cases e0 : b = 0
      · rw [if_pos e0, if_pos e0]
        exact ⟨_, _, J, rfl, rfl, ⟨j0, rfl⟩, j2 o⟩
      · rw [if_neg e0, if_neg e0]
        by_cases e1 : b = 1
        · rw [if_pos e1, if_pos e1]
          exact ⟨_, _, J, rfl, rfl, ⟨j0, rfl⟩, j2 o⟩
        · rw [if_neg e1, if_neg e1]
          exact ⟨_, _, J, rfl, rfl, ⟨j0, rfl⟩, j2 o⟩
    · obtain ⟨J, eJ, j0, j1, j2⟩ := po_uJ I M 2
      rw [if_neg hb, if_neg hb, y1 2 J eJ, if_neg (by decide)]
      exact ⟨_, _, J, rfl, rfl, Or.inr ⟨rfl, j0⟩, j2 o⟩
  · obtain ⟨J, eJ, j0, j1, j2⟩ := po_uJ I M 1
    rw [if_neg ha, if_neg ha, y1 1 J eJ, if_neg (by decide)]
    exact ⟨_, _, J, rfl, rfl, Or.inl ⟨rfl, j0⟩, j2 o⟩
theorem pc_or3 (f : Nat → Nat) : ∀ n, pc (fun k => decide (f k = 2) || decide (f k = 3) || decide (f k = 6)) n = pc (fun k => decide (f k = 2)) n + pc (fun k => decide (f k = 3)) n + pc (fun k => decide (f k = 6)) n
  | 0 => rfl
  | n + 1 => by
    rw [pc, pc, pc, pc, pc_or3 f n]
    by_cases h2 : f n = 2
    · simp [h2]; omega
    · by_cases h3 : f n = 3
      · simp [h3]; omega
      · by_cases h6 : f n = 6
        · simp [h6]; omega
        · simp [h2, h3, h6]
theorem ps_stand (hV : pV N) : pc (ps_st N) (pv N 2) = pc (fun k => decide (N (160 + 46 * k + 19) = Int32.ofNat 2)) (pv N 2) + pc (fun k => decide (N (160 + 46 * k + 19) = Int32.ofNat 3)) (pv N 2) + pc (fun k => decide (N (160 + 46 * k + 19) = Int32.ofNat 6)) (pv N 2) := by
  have key : ∀ c, c < 100 → ∀ k, k < pv N 2 → decide (N (160 + 46 * k + 19) = Int32.ofNat c) = decide (pv N (160 + 46 * k + 19) = c) := by
    intro c hc k hk
    have hs := (hV.per hk).sta
    have hs' := hs.2.2
    refine decide_eq_decide.mpr ?_
    rw [hs.1]
    exact pl_eq (by omega) (by omega)
  rw [pc_congr (fun k hk => key 2 (by omega) k hk), pc_congr (fun k hk => key 3 (by omega) k hk), pc_congr (fun k hk => key 6 (by omega) k hk), ← pc_or3 (fun k => pv N (160 + 46 * k + 19))]
  refine pc_congr fun k hk => ?_
  unfold ps_st
  rw [← key 2 (by omega) k hk, ← key 3 (by omega) k hk, ← key 6 (by omega) k hk]
  rfl
theorem L_count (h : pInv I R o M st n) (a : Int32) : ∃ w v I2, m_X7_count I o a = some w ∧ m_X8_count I M a = some (v, I2) ∧ pAg sIA "" w (I2 M 0) v ∧ pScr I I2 o M := by
  have hV := h.1.1
  have hT := h.1.2.2
  have h2' := hV.2.2.1.2.2
  obtain ⟨u, u1, u2, u3, u4, u5⟩ := h.2.1
  obtain ⟨len, d1, d2, d3, d4, d5⟩ := h.2.2.2.1
  obtain ⟨J, eJ, j0, j1, j2⟩ := po_uJ I M 0
  have hVJ : pV (J (M + 1)) := by rw [j1]; exact hV
  have j3 : J M 3 = I M 3 := (j2 0).2.1
  have j12 : J M 12 = I M 12 := (j2 0).2.2.2.1
  have y : m_X8_count I M a = if decide (10 ≤ a ∧ a ≤ 16) = true then (Option.bind (m_X8_counted J M (a - 10)) fun x6 => some (x6, J)) else (if (a : Int32) = 0 then (some (((J (M + 1) 1), J))) else (if (a : Int32) = 1 then (some (((J (M + 1) 2), J))) else (if (a : Int32) = 2 then (some (((J (M + 1) 3), J))) else (if (a : Int32) = 3 then (some (((J (M + 1) 0), J))) else (if (a : Int32) = 4 then (Option.bind (m_X8_counted J M (-1)) fun x3 => some ((x3, J))) else (if (a : Int32) = 5 then (Option.bind (m_X8_cellsInLots J M) fun x4 => some ((x4, J))) else (if (a : Int32) = 6 then (some (((J M 3), J))) else (if (a : Int32) = 7 then (some (((J M 12), J))) else some (0, po_u J M 0 1))))))))) := by
    unfold m_X8_count m_X8_count_e po_hlet
    dsimp only
    rw [← eJ, q_isIn, Option.bind_some]
    cases decide (10 ≤ a ∧ a ≤ 16) <;> rfl
  rw [y]
  unfold m_X7_count m_X7_count_e m_X7_count_141
  by_cases hs : plt a 8 = true
  · obtain ⟨j, hj, rfl⟩ := plt_of (by omega) hs
    rw [decide_eq_false (show ¬ ((10 : Int32) ≤ Int32.ofNat j ∧ Int32.ofNat j ≤ 16) from fun h => absurd ((pl_le (a := 10) (by omega) (by omega)).mp h.1) (by omega)), if_neg (show ¬ false = true by decide)]
    rcases (by omega : j = 0 ∨ j = 1 ∨ j = 2 ∨ j = 3 ∨ j = 4 ∨ j = 5 ∨ j = 6 ∨ j = 7) with e | e | e | e | e | e | e | e <;> subst e
    · rw [if_pos (show Int32.ofNat 0 = 0 from rfl), if_pos (show Int32.ofNat 0 = 0 from rfl), j1]
      exact ⟨_, _, J, rfl, rfl, ⟨j0, hT.2.1.symm⟩, j2 o⟩
    · rw [if_neg (show ¬ Int32.ofNat 1 = 0 by decide), if_neg (show ¬ Int32.ofNat 1 = 0 by decide), if_pos (show Int32.ofNat 1 = 1 from rfl), if_pos (show Int32.ofNat 1 = 1 from rfl), j1]
      exact ⟨_, _, J, rfl, rfl, ⟨j0, hT.2.2.1.symm⟩, j2 o⟩
    · rw [if_neg (show ¬ Int32.ofNat 2 = 0 by decide), if_neg (show ¬ Int32.ofNat 2 = 0 by decide), if_neg (show ¬ Int32.ofNat 2 = 1 by decide), if_neg (show ¬ Int32.ofNat 2 = 1 by decide), if_pos (show Int32.ofNat 2 = 2 from rfl), if_pos (show Int32.ofNat 2 = 2 from rfl), j1]
      exact ⟨_, _, J, rfl, rfl, ⟨j0, hT.2.2.2.1.symm⟩, j2 o⟩
    · exact ⟨_, _, J, rfl, by rw [j1]; rfl, ⟨j0, hT.1.symm⟩, j2 o⟩
    · have e1 : m_X5_permitsWith I (o + 8) 2 = _ := x_permitsWith (st := 2) hV hT
      have e2 : m_X5_permitsWith I (o + 8) 3 = _ := x_permitsWith (st := 3) hV hT
      have e3 : m_X5_permitsWith I (o + 8) 6 = _ := x_permitsWith (st := 6) hV hT
      rw [e1, e2, e3, q_countedN hVJ, j1, ps_stand hV]
      refine ⟨_, _, J, rfl, rfl, ⟨j0, ?_⟩, j2 o⟩
      rw [pl_add, pl_add]
    · rw [x_cellsInLots hV hT, q_cellsInLots hVJ, j1]
      exact ⟨_, _, J, rfl, rfl, ⟨j0, rfl⟩, j2 o⟩
    · exact ⟨_, _, J, rfl, rfl, ⟨j0, by rw [j3, u3, u2]⟩, j2 o⟩
    · exact ⟨_, _, J, rfl, rfl, ⟨j0, by rw [j12, d3, d2]⟩, j2 o⟩
  · rw [if_neg (show ¬ a = 0 from plt_ne (j := 0) (by omega) hs (by omega)), if_neg (show ¬ a = 1 from plt_ne (j := 1) (by omega) hs (by omega)), if_neg (show ¬ a = 2 from plt_ne (j := 2) (by omega) hs (by omega)), if_neg (show ¬ a = 3 from plt_ne (j := 3) (by omega) hs (by omega)), if_neg (show ¬ a = 4 from plt_ne (j := 4) (by omega) hs (by omega)), if_neg (show ¬ a = 5 from plt_ne (j := 5) (by omega) hs (by omega)), if_neg (show ¬ a = 6 from plt_ne (j := 6) (by omega) hs (by omega)), if_neg (show ¬ a = 7 from plt_ne (j := 7) (by omega) hs (by omega)), if_neg (show ¬ a = 0 from plt_ne (j := 0) (by omega) hs (by omega)), if_neg (show ¬ a = 1 from plt_ne (j := 1) (by omega) hs (by omega)), if_neg (show ¬ a = 2 from plt_ne (j := 2) (by omega) hs (by omega)), if_neg (show ¬ a = 3 from plt_ne (j := 3) (by omega) hs (by omega)), if_neg (show ¬ a = 4 from plt_ne (j := 4) (by omega) hs (by omega)), if_neg (show ¬ a = 5 from plt_ne (j := 5) (by omega) hs (by omega)), if_neg (show ¬ a = 6 from plt_ne (j := 6) (by omega) hs (by omega)), if_neg (show ¬ a = 7 from plt_ne (j := 7) (by omega) hs (by omega))]
    by_cases h10 : a < 10
    · rw [if_pos h10, if_neg (fun h => Int32.not_lt.mpr (of_decide_eq_true h).1 h10)]
      exact ⟨_, _, _, rfl, rfl, Or.inl ⟨rfl, by rw [po_uaa]⟩, (j2 o).tr pScr_u⟩
    · obtain ⟨j, hj, rfl⟩ := pl_of (Int32.le_trans (show (0 : Int32) ≤ 10 by decide) (Int32.not_lt.mp h10))
      have g10 : 10 ≤ j := (pl_le (a := 10) (by omega) hj).mp (Int32.not_lt.mp h10)
      rw [if_neg h10]
      by_cases h17 : j < 17
      · rw [if_pos (show Int32.ofNat j < 17 from (pl_lt (b := 17) hj (by omega)).mpr h17), if_pos (decide_eq_true ⟨(pl_le (a := 10) (by omega) hj).mpr g10, (pl_le (b := 16) hj (by omega)).mpr (by omega)⟩), show Int32.ofNat j - 10 = Int32.ofNat (j - 10) from pl_sub (b := 10) g10, x_permitsWith hV hT, q_counted hVJ (by omega), j1]
        exact ⟨_, _, J, rfl, rfl, ⟨j0, rfl⟩, j2 o⟩
      · rw [if_neg (show ¬ Int32.ofNat j < 17 from mt (pl_lt (b := 17) hj (by omega)).mp h17), if_neg (fun h => absurd ((pl_le (b := 16) hj (by omega)).mp (of_decide_eq_true h).2) (by omega))]
        exact ⟨_, _, _, rfl, rfl, Or.inl ⟨rfl, by rw [po_uaa]⟩, (j2 o).tr pScr_u⟩
end QB8
