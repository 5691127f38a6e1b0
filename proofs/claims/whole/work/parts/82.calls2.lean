section QB6
variable {I : po_I} {R : po_R} {o M u n t k : Nat} {N : po_N} {st : Nat → Nat}
def ps_lotv (N : po_N) (k j : Nat) : Int32 := match j with
  | 0 => N (32 + 16 * k)
  | 1 => N (32 + 16 * k + 1)
  | 2 => Int32.ofNat (ps_n (pa_in N (32 + 16 * k)))
  | 3 => Int32.ofNat (ps_n (fun c r => pa_in N (32 + 16 * k) c r && ps_blt N (Int32.ofNat k) c r (-1)))
  | 4 => ps_fas N (Int32.ofNat k) (-1)
  | _ => Int32.ofNat (ps_sd (pa_in N (32 + 16 * k)))
theorem six_cases {j : Nat} (hj : j < 6) : j = 0 ∨ j = 1 ∨ j = 2 ∨ j = 3 ∨ j = 4 ∨ j = 5 := by omega
theorem q_lot27 {j : Nat} (hV : pV (I (M + 1))) (hk : k < pv (I (M + 1)) 1) (hj : j < 6) : m_X8_lot_27 I M (Int32.ofNat k) (Int32.ofNat j) M 0 = some (ps_lotv (I (M + 1)) k j, po_u I M 0 0) := by
  have h1' := hV.2.1.2.2
  obtain ⟨J, eJ, j0, j1, j2⟩ := po_uJ I M 0
  have hVJ : pV (J (M + 1)) := by rw [j1]; exact hV
  have hkJ : k < pv (J (M + 1)) 1 := by rw [j1]; exact hk
  have hL := hVJ.2.2.2.2.2.1 k hkJ
  unfold m_X8_lot_27 m_X8_lot_98 po_hlet
  dsimp only
  rw [← eJ, j0, if_pos rfl]
  rcases six_cases hj with e | e | e | e | e | e <;> subst e
  · rw [if_neg (by decide), q_lotPart (by omega), Option.bind_some, j1]; rfl
  · rw [if_neg (by decide), q_lotPart (by omega), Option.bind_some, j1]; rfl
  · rw [if_pos (by decide), if_pos (by decide), q_lotCells (by omega) hL.2.2.1, Option.bind_some, j1]; rfl
  · rw [if_pos (by decide), if_neg (by decide), if_pos (by decide), q_builtCells hVJ hkJ, Option.bind_some, j1]; rfl
  · rw [if_pos (by decide), if_neg (by decide), if_neg (by decide), if_pos (by decide), q_floorAreas hVJ, Option.bind_some, j1]; rfl
  · rw [if_pos (by decide), if_neg (by decide), if_neg (by decide), if_neg (by decide), q_sides hVJ hkJ, Option.bind_some, j1]; rfl
theorem L_lot (h : pInv I R o M st n) (a b : Int32) : ∃ w I1 v I2, m_X7_lot I o a b = some (w, I1) ∧ m_X8_lot I1 M a b = some (v, I2) ∧ pAg sIO sIA w (I2 M 0) v ∧ pScr I I2 o M := by
  have hV := h.1.1
  have hT := h.1.2.2
  have hM := h.2.2.2.2.2.1
  have h1' := hV.2.1.2.2
  have y1 : ∀ (K : po_I) c J, J = po_u K M 0 c → c ≠ 0 → m_X8_lot_27 K M a b M c = some (0, J) := by
    rintro K c J rfl hc
    unfold m_X8_lot_27 po_hlet
    dsimp only
    rw [po_uaa, if_neg hc]
  have y2 : ∀ K : po_I, pV (K (M + 1)) → m_X8_lot K M a b = if plt a (pv (K (M + 1)) 1) = true then (if plt b 6 = true then m_X8_lot_27 K M a b M 0 else m_X8_lot_27 K M a b M 2) else m_X8_lot_27 K M a b M 1 := by
    intro K hK
    unfold m_X8_lot m_X8_lot_e
    rw [q_isLot hK, Option.bind_some, show m_X8_isIn b 0 5 = some (pb (plt b 6)) from q_isInk b (m := 5) (by omega), Option.bind_some]
    cases plt a (pv (K (M + 1)) 1) <;> cases plt b 6 <;> rfl
  by_cases ha : plt a (pv (I (M + 1)) 1) = true
  · by_cases hb : plt b 6 = true
    · obtain ⟨k, hk, rfl⟩ := plt_of (by omega) ha
      obtain ⟨j, hj, rfl⟩ := plt_of (by omega) hb
      have hL := hT.2.2.2.2.2.1 k hk
      have hLv := hV.2.2.2.2.2.1 k hk
      have key : ∃ I1, m_X7_lot I o (Int32.ofNat k) (Int32.ofNat j) = some (.inl (ps_lotv (I (M + 1)) k j), I1) ∧ psv I I1 (o + 3) := by
        obtain ⟨I1, b1, b2⟩ := x_builtCells (s := o + 3) hV hT (by omega) hk
        unfold m_X7_lot m_X7_lot_e
        rw [x_lotOrThrow hV hT, Option.bind_some, if_pos ha, pl_clamp (by omega), b1, x_sfa_n hV hT]
        rw [Sum.elim_inl]
        rw [x_sides hL.2.2.1 (pa_bnd hLv.2.2)]
        rcases six_cases hj with e | e | e | e | e | e <;> subst e
        · refine ⟨I, ?_, psv.rf⟩
          rw [if_pos (by decide), hL.1]; rfl
        · refine ⟨I, ?_, psv.rf⟩
          rw [if_neg (by decide), if_pos (by decide), hL.2.1]; rfl
        · refine ⟨I, ?_, psv.rf⟩
          rw [if_neg (by decide), if_neg (by decide), if_pos (by decide), hL.2.2.2]; rfl
        · refine ⟨I1, ?_, b2⟩
          rw [if_neg (by decide), if_neg (by decide), if_neg (by decide), if_pos (by decide), Option.bind_some]; rfl
        · refine ⟨I, ?_, psv.rf⟩
          rw [if_neg (by decide), if_neg (by decide), if_neg (by decide), if_neg (by decide), if_pos (by decide), Option.bind_some]; rfl
        · refine ⟨I, ?_, psv.rf⟩
          rw [if_neg (by decide), if_neg (by decide), if_neg (by decide), if_neg (by decide), if_neg (by decide), if_pos (by decide), Option.bind_some]; rfl
      obtain ⟨I1, k1, k2⟩ := key
      have r1 : I1 (M + 1) = I (M + 1) := k2 _ (by omega) (by omega)
      refine ⟨_, I1, _, _, k1, ?_, ⟨?_, rfl⟩, (pScr.sv k2 hM).tr (pScr_u (k := 0))⟩
      · rw [y2 I1 (by rw [r1]; exact hV), r1, if_pos ha, if_pos hb, q_lot27 (by rw [r1]; exact hV) (by rw [r1]; exact hk) hj, r1]
      · rw [po_uaa]
    · obtain ⟨J, eJ, j0, j1, j2⟩ := po_uJ I M 2
      refine ⟨.inr sIA, I, 0, J, ?_, ?_, Or.inr ⟨rfl, j0⟩, j2 o⟩
      · unfold m_X7_lot m_X7_lot_e
        rw [x_lotOrThrow hV hT, Option.bind_some, if_pos ha]
        rw [Sum.elim_inl]
        rw [if_neg (show ¬ b = 0 from plt_ne (j := 0) (by omega) hb (by omega)), if_neg (show ¬ b = 1 from plt_ne (j := 1) (by omega) hb (by omega)), if_neg (show ¬ b = 2 from plt_ne (j := 2) (by omega) hb (by omega)), if_neg (show ¬ b = 3 from plt_ne (j := 3) (by omega) hb (by omega)), if_neg (show ¬ b = 4 from plt_ne (j := 4) (by omega) hb (by omega)), if_neg (show ¬ b = 5 from plt_ne (j := 5) (by omega) hb (by omega))]
      · rw [y2 I hV, if_pos ha, if_neg hb, y1 I 2 J eJ (by decide)]
  · obtain ⟨J, eJ, j0, j1, j2⟩ := po_uJ I M 1
    refine ⟨.inr sIO, I, 0, J, ?_, ?_, Or.inl ⟨rfl, j0⟩, j2 o⟩
    · unfold m_X7_lot m_X7_lot_e
      rw [x_lotOrThrow hV hT, Option.bind_some, if_neg ha]
      rfl
    · rw [y2 I hV, if_neg ha, y1 I 1 J eJ (by decide)]
theorem L_cell (h : pInv I R o M st n) (a b c : Int32) : ∃ w I1 v I2, m_X7_cell I o a b c = some (w, I1) ∧ m_X8_cell I1 M a b c = some (v, I2) ∧ pAg sIO sIA w (I2 M 0) v ∧ pScr I I2 o M := by
  have hV := h.1.1
  have hT := h.1.2.2
  have hM := h.2.2.2.2.2.1
  have h1' := hV.2.1.2.2
  have y1 : ∀ (K : po_I) e J, J = po_u K M 0 e → e ≠ 0 → m_X8_cell_39 K M a b c M e = some (0, J) := by
    rintro K e J rfl hc
    unfold m_X8_cell_39 po_hlet
    dsimp only
    rw [po_uaa, if_neg hc]
  have y2 : ∀ K : po_I, m_X8_cell K M a b c = if plt a 20 = true then (if plt b 14 = true then (if plt c 6 = true then m_X8_cell_39 K M a b c M 0 else m_X8_cell_39 K M a b c M 2) else m_X8_cell_39 K M a b c M 1) else m_X8_cell_39 K M a b c M 1 := by
    intro K
    unfold m_X8_cell m_X8_cell_e m_X8_cell_21
    rw [show m_X8_isIn a 0 19 = some (pb (plt a 20)) from q_isInk a (m := 19) (by omega), Option.bind_some, show m_X8_isIn b 0 13 = some (pb (plt b 14)) from q_isInk b (m := 13) (by omega), Option.bind_some, show m_X8_isIn c 0 5 = some (pb (plt c 6)) from q_isInk c (m := 5) (by omega), Option.bind_some]
    cases plt a 20 <;> cases plt b 14 <;> cases plt c 6 <;> rfl
  have x1 : m_X7_cell I o a b c = if plt a 20 = true then (if plt b 14 = true then (if plt c 6 = true then (if (c : Int32) = 0 then (Option.bind (m_X5_lotWith I (o + 8) a b) fun x3 => some (((.inl x3), I))) else (if (c : Int32) = 1 then (Option.bind (m_X5_standingPermitWith I (o + 8) a b) fun x2 => some (((.inl x2), I))) else (Option.bind (m_X4_distance I (o + 3) (o + 8) a b (c - 2)) fun x1 => some (((.inl (x1.1)), x1.2))))) else some (.inr sIA, I)) else some (.inr sIO, I)) else some (.inr sIO, I) := by
    unfold m_X7_cell m_X7_cell_e m_X7_cell_20 m_X7_cell_39
    rw [← plt_if2, ← plt_if1, ← plt_if3 (m := 5) (by omega)]
    rfl
  rw [x1]
  by_cases ha : plt a 20 = true
  · by_cases hb : plt b 14 = true
    · by_cases hc : plt c 6 = true
      · obtain ⟨x, hx, rfl⟩ := plt_of (by omega) ha
        obtain ⟨y, hy, rfl⟩ := plt_of (by omega) hb
        obtain ⟨j, hj, rfl⟩ := plt_of (by omega) hc
        rw [if_pos ha, if_pos hb, if_pos hc, x_lotWith hV hT hx hy, Option.bind_some, x_permitWith hV hT hx hy, Option.bind_some]
        have z : ∀ K : po_I, K (M + 1) = I (M + 1) → m_X8_cell K M (Int32.ofNat x) (Int32.ofNat y) (Int32.ofNat j) = some (if j = 0 then po_op (pfind (fun k => pa_in (I (M + 1)) (32 + 16 * k) (Int32.ofNat x) (Int32.ofNat y)) (pv (I (M + 1)) 1)) else if j = 1 then po_op (pfind (fun k => ps_st (I (M + 1)) k && pa_in (I (M + 1)) (160 + 46 * k) (Int32.ofNat x) (Int32.ofNat y)) (pv (I (M + 1)) 2)) else ps_di (I (M + 1)) x y (j - 2), po_u K M 0 0) := by
          intro K hK
          obtain ⟨J, eJ, j0, j1, j2⟩ := po_uJ K M 0
          have j3 := j1.trans hK
          have hVJ : pV (J (M + 1)) := by rw [j3]; exact hV
          rw [y2 K, if_pos ha, if_pos hb, if_pos hc]
          unfold m_X8_cell_39 m_X8_cell_103 po_hlet
          dsimp only
          rw [← eJ, j0, if_pos rfl, q_lotAt hVJ, Option.bind_some, q_permitAt hVJ, Option.bind_some, j3]
          by_cases e0 : j = 0
          · subst e0; rfl
          · rw [if_neg e0, if_neg (show ¬ Int32.ofNat j = 0 from pk_ne (b := 0) (by omega) (by omega) e0)]
            by_cases e1 : j = 1
            · subst e1; rfl
            · rw [if_neg e1, if_neg (show ¬ Int32.ofNat j = 1 from pk_ne (b := 1) (by omega) (by omega) e1)]
              unfold ps_di
              cases e : pfind (fun k => pa_in (I (M + 1)) (32 + 16 * k) (Int32.ofNat x) (Int32.ofNat y)) (pv (I (M + 1)) 1) with
              | none => rfl
              | some k =>
                have hk := (pfind_some e).1
                rw [if_neg (show ¬ po_op (some k) = -1 from (pl_neg1 (a := k) (by omega)).mp), show Int32.ofNat j - 2 = Int32.ofNat (j - 2) from pl_sub (b := 2) (by omega), show po_op (some k) = Int32.ofNat k from rfl, q_distance hVJ (by rw [j3]; exact hk) (by omega) ⟨pl_nonneg (by omega), (pl_lt (b := 20) (by omega) (by omega)).mpr hx⟩ ⟨pl_nonneg (by omega), (pl_lt (b := 14) (by omega) (by omega)).mpr hy⟩, Option.bind_some, j3]
        by_cases e0 : j = 0
        · have ym := z I rfl
          rw [if_pos e0] at ym
          rw [if_pos (show Int32.ofNat j = 0 by rw [e0]; rfl)]
          exact ⟨_, I, _, _, rfl, ym, ⟨po_uaa _ _ _ _, rfl⟩, pScr_u (k := 0)⟩
        · rw [if_neg (show ¬ Int32.ofNat j = 0 from pk_ne (b := 0) (by omega) (by omega) e0)]
          by_cases e1 : j = 1
          · have ym := z I rfl
            rw [if_neg e0, if_pos e1] at ym
            rw [if_pos (show Int32.ofNat j = 1 by rw [e1]; rfl)]
            exact ⟨_, I, _, _, rfl, ym, ⟨po_uaa _ _ _ _, rfl⟩, pScr_u (k := 0)⟩
          · obtain ⟨I1, b1, b2⟩ := x_distance (s := o + 3) (d := j - 2) hV hT (by omega) hx hy (by omega)
            have r1 : I1 (M + 1) = I (M + 1) := b2 _ (by omega) (by omega)
            have ym := z I1 r1
            rw [if_neg e0, if_neg e1] at ym
            rw [if_neg (show ¬ Int32.ofNat j = 1 from pk_ne (b := 1) (by omega) (by omega) e1), show Int32.ofNat j - 2 = Int32.ofNat (j - 2) from pl_sub (b := 2) (by omega), b1, Option.bind_some]
            exact ⟨_, I1, _, _, rfl, ym, ⟨po_uaa _ _ _ _, rfl⟩, (pScr.sv b2 hM).tr (pScr_u (k := 0))⟩
      · obtain ⟨J, eJ, j0, j1, j2⟩ := po_uJ I M 2
        rw [if_pos ha, if_pos hb, if_neg hc]
        exact ⟨_, _, 0, J, rfl, by rw [y2 I, if_pos ha, if_pos hb, if_neg hc, y1 I 2 J eJ (by decide)], Or.inr ⟨rfl, j0⟩, j2 o⟩
    · obtain ⟨J, eJ, j0, j1, j2⟩ := po_uJ I M 1
      rw [if_pos ha, if_neg hb]
      exact ⟨_, _, 0, J, rfl, by rw [y2 I, if_pos ha, if_neg hb, y1 I 1 J eJ (by decide)], Or.inl ⟨rfl, j0⟩, j2 o⟩
  · obtain ⟨J, eJ, j0, j1, j2⟩ := po_uJ I M 1
    rw [if_neg ha]
    exact ⟨_, _, 0, J, rfl, by rw [y2 I, if_neg ha, y1 I 1 J eJ (by decide)], Or.inl ⟨rfl, j0⟩, j2 o⟩
end QB6
