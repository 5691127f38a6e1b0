section QB7
variable {I : po_I} {R : po_R} {o M u n t k p : Nat} {N : po_N} {st : Nat → Nat}
theorem L_permit (h : pInv I R o M st n) (a b : Int32) : ∃ w v I2, m_X7_permit I o a b = some w ∧ m_X8_permit I M a b = some (v, I2) ∧ pAg sIO sIA w (I2 M 0) v ∧ pScr I I2 o M := by
  have hV := h.1.1
  have hT := h.1.2.2
  have h2' := hV.2.2.1.2.2
  have y1 : ∀ c J, J = po_u I M 0 c → c ≠ 0 → m_X8_permit_28 I M a b M c = some (0, J) := by
    rintro c J rfl hc
    unfold m_X8_permit_28 po_hlet
    dsimp only
    rw [po_uaa, if_neg hc]
  have y2 : m_X8_permit I M a b = if plt a (pv (I (M + 1)) 2) = true then (if plt b 13 = true then m_X8_permit_28 I M a b M 0 else m_X8_permit_28 I M a b M 2) else m_X8_permit_28 I M a b M 1 := by
    unfold m_X8_permit m_X8_permit_e
    rw [q_isPermit hV, Option.bind_some, show m_X8_isIn b 0 12 = some (pb (plt b 13)) from q_isInk b (m := 12) (by omega), Option.bind_some]
    cases plt a (pv (I (M + 1)) 2) <;> cases plt b 13 <;> rfl
  rw [y2]
  unfold m_X7_permit m_X7_permit_e m_X7_permit_133
  rw [x_permitOrThrow hV hT, Option.bind_some]
  by_cases ha : plt a (pv (I (M + 1)) 2) = true
  · rw [if_pos ha, if_pos ha]
    rw [Sum.elim_inl]
    by_cases hb : plt b 13 = true
    · obtain ⟨k, hk, rfl⟩ := plt_of (by omega) ha
      obtain ⟨j, hj, rfl⟩ := plt_of (by omega) hb
      have hP := hT.per hk
      have hp := hV.per hk
      have hc6 := hp.2.2.2.2.2.2.2.2.2.2.2.1.2.2
      obtain ⟨J, eJ, j0, j1, j2⟩ := po_uJ I M 0
      have hVJ : pV (J (M + 1)) := by rw [j1]; exact hV
      have hkJ : k < pv (J (M + 1)) 2 := by rw [j1]; exact hk
      have hpJ := (hVJ.per hkJ).2.2.2.1.1
      have z : m_X8_permit_28 I M (Int32.ofNat k) (Int32.ofNat j) M 0 = (if (Int32.ofNat j : Int32) = 0 then (Option.bind (m_X8_at J M (Int32.ofNat k) 19) fun x2 => some ((x2, J))) else (if (Int32.ofNat j : Int32) = 1 then (Option.bind (m_X8_at J M (Int32.ofNat k) 0) fun x3 => some ((x3, J))) else (if (Int32.ofNat j : Int32) = 2 then (Option.bind (m_X8_at J M (Int32.ofNat k) 1) fun x4 => some ((x4, J))) else (if (Int32.ofNat j : Int32) = 3 then (Option.bind (m_X8_at J M (Int32.ofNat k) 17) fun x5 => some ((x5, J))) else (if (Int32.ofNat j : Int32) = 4 then (Option.bind (m_X8_at J M (Int32.ofNat k) 18) fun x6 => some ((x6, J))) else (if (Int32.ofNat j : Int32) = 5 then (Option.bind (m_X8_buildingCells J M (Int32.ofNat k)) fun x7 => some ((x7, J))) else (if (Int32.ofNat j : Int32) = 6 then (Option.bind (m_X8_floorArea J M (Int32.ofNat k)) fun x8 => some ((x8, J))) else (if (Int32.ofNat j : Int32) = 7 then (Option.bind (m_X8_at J M (Int32.ofNat k) 20) fun x9 => some ((x9, J))) else (if (Int32.ofNat j : Int32) = 8 then (Option.bind (m_X8_at J M (Int32.ofNat k) 21) fun x10 => some ((x10, J))) else (if (Int32.ofNat j : Int32) = 9 then (Option.bind (m_X8_at J M (Int32.ofNat k) 19) fun x11 => if (x11 : Int32) = 2 then (Option.bind (m_X8_at J M (Int32.ofNat k) 22) fun x12 => m_X8_permit_192 J x12) else (m_X8_permit_192 J (-1))) else (if (Int32.ofNat j : Int32) = 10 then (Option.bind (m_X8_at J M (Int32.ofNat k) 24) fun x13 => some ((x13, J))) else (if (Int32.ofNat j : Int32) = 11 then (Option.bind (m_X8_openConditions J M (Int32.ofNat k)) fun x14 => some ((x14, J))) else (Option.bind (m_X8_conditionMany J M (Int32.ofNat k)) fun x15 => some ((x15, J))))))))))))))) := by
        unfold m_X8_permit_28 po_hlet
        dsimp only
        rw [← eJ, j0, if_pos rfl]
      rw [if_pos hb, z, pl_clamp (by omega)]
      have at' : ∀ j, j < 46 → m_X8_at J M (Int32.ofNat k) (Int32.ofNat j) = some (I (M + 1) (160 + 46 * k + j)) := fun j hj => by rw [q_at (by omega), j1]
      rcases (by omega : j = 0 ∨ j = 1 ∨ j = 2 ∨ j = 3 ∨ j = 4 ∨ j = 5 ∨ j = 6 ∨ j = 7 ∨ j = 8 ∨ j = 9 ∨ j = 10 ∨ j = 11 ∨ j = 12) with e | e | e | e | e | e | e | e | e | e | e | e | e <;> subst e
      · rw [show m_X8_at J M (Int32.ofNat k) 19 = _ from at' 19 (by omega)]
        exact ⟨_, _, J, rfl, rfl, ⟨j0, hP.sta.symm⟩, j2 o⟩
      · rw [show m_X8_at J M (Int32.ofNat k) 0 = _ from at' 0 (by omega)]
        exact ⟨_, _, J, rfl, rfl, ⟨j0, hP.lot.symm⟩, j2 o⟩
      · rw [show m_X8_at J M (Int32.ofNat k) 1 = _ from at' 1 (by omega)]
        exact ⟨_, _, J, rfl, rfl, ⟨j0, hP.use.symm⟩, j2 o⟩
      · rw [show m_X8_at J M (Int32.ofNat k) 17 = _ from at' 17 (by omega)]
        exact ⟨_, _, J, rfl, rfl, ⟨j0, hP.flo.symm⟩, j2 o⟩
      · rw [show m_X8_at J M (Int32.ofNat k) 18 = _ from at' 18 (by omega)]
        exact ⟨_, _, J, rfl, rfl, ⟨j0, hP.par.symm⟩, j2 o⟩
      · rw [q_buildingCells (by omega) hpJ, j1]
        exact ⟨_, _, J, rfl, rfl, ⟨j0, hP.cel.symm⟩, j2 o⟩
      · rw [q_floorArea (by omega) hpJ, j1, x_floorArea hP]
        exact ⟨_, _, J, rfl, rfl, ⟨j0, rfl⟩, j2 o⟩
      · rw [show m_X8_at J M (Int32.ofNat k) 20 = _ from at' 20 (by omega)]
        exact ⟨_, _, J, rfl, rfl, ⟨j0, hP.pha.symm⟩, j2 o⟩
      · rw [show m_X8_at J M (Int32.ofNat k) 21 = _ from at' 21 (by omega)]
        exact ⟨_, _, J, rfl, rfl, ⟨j0, hP.fai.symm⟩, j2 o⟩
      · rw [show m_X8_at J M (Int32.ofNat k) 19 = _ from at' 19 (by omega), show m_X8_at J M (Int32.ofNat k) 22 = _ from at' 22 (by omega), hP.sta]
        by_cases e : I (M + 1) (160 + 46 * k + 19) = 2
        · refine ⟨.inl (I (o + 8 + (29 + 5 * k)) 10), I (M + 1) (160 + 46 * k + 22), J, ?_, ?_, ⟨j0, (hP.lim e).symm⟩, j2 o⟩
          · exact (if_pos e : (if I (M + 1) (160 + 46 * k + 19) = 2 then some (Sum.inl (I (o + 8 + (29 + 5 * k)) 10) : Int32 ⊕ String) else some (Sum.inl (-1))) = some (Sum.inl (I (o + 8 + (29 + 5 * k)) 10)))
          · exact (if_pos e : (if I (M + 1) (160 + 46 * k + 19) = 2 then some (I (M + 1) (160 + 46 * k + 22), J) else some (-1, J)) = some (I (M + 1) (160 + 46 * k + 22), J))
        · refine ⟨.inl (-1), -1, J, ?_, ?_, ⟨j0, rfl⟩, j2 o⟩
          · exact (if_neg e : (if I (M + 1) (160 + 46 * k + 19) = 2 then some (Sum.inl (I (o + 8 + (29 + 5 * k)) 10) : Int32 ⊕ String) else some (Sum.inl (-1))) = some (Sum.inl (-1)))
          · exact (if_neg e : (if I (M + 1) (160 + 46 * k + 19) = 2 then some (I (M + 1) (160 + 46 * k + 22), J) else some (-1, J)) = some (-1, J))
      · rw [show m_X8_at J M (Int32.ofNat k) 24 = _ from at' 24 (by omega)]
        exact ⟨_, _, J, rfl, rfl, ⟨j0, hP.nam.symm⟩, j2 o⟩
      · rw [q_openConditions hVJ hkJ, j1, x_openConditions hP hc6]
        exact ⟨_, _, J, rfl, rfl, ⟨j0, rfl⟩, j2 o⟩
      · rw [q_conditionMany hVJ hkJ, j1]
        exact ⟨_, _, J, rfl, rfl, ⟨j0, (hP.con.trans hp.2.2.2.2.2.2.2.2.2.2.2.1.1).symm⟩, j2 o⟩
    · obtain ⟨J, eJ, j0, j1, j2⟩ := po_uJ I M 2
      rw [if_neg hb, y1 2 J eJ (by decide)]
      refine ⟨.inr sIA, 0, J, ?_, rfl, Or.inr ⟨rfl, j0⟩, j2 o⟩
      rw [if_neg (show ¬ b = 0 from plt_ne (j := 0) (by omega) hb (by omega)), if_neg (show ¬ b = 1 from plt_ne (j := 1) (by omega) hb (by omega)), if_neg (show ¬ b = 2 from plt_ne (j := 2) (by omega) hb (by omega)), if_neg (show ¬ b = 3 from plt_ne (j := 3) (by omega) hb (by omega)), if_neg (show ¬ b = 4 from plt_ne (j := 4) (by omega) hb (by omega)), if_neg (show ¬ b = 5 from plt_ne (j := 5) (by omega) hb (by omega)), if_neg (show ¬ b = 6 from plt_ne (j := 6) (by omega) hb (by omega)), if_neg (show ¬ b = 7 from plt_ne (j := 7) (by omega) hb (by omega)), if_neg (show ¬ b = 8 from plt_ne (j := 8) (by omega) hb (by omega)), if_neg (show ¬ b = 9 from plt_ne (j := 9) (by omega) hb (by omega)), if_neg (show ¬ b = 10 from plt_ne (j := 10) (by omega) hb (by omega)), if_neg (show ¬ b = 11 from plt_ne (j := 11) (by omega) hb (by omega)), if_neg (show ¬ b = 12 from plt_ne (j := 12) (by omega) hb (by omega))]
  · obtain ⟨J, eJ, j0, j1, j2⟩ := po_uJ I M 1
    rw [if_neg ha, if_neg ha, y1 1 J eJ (by decide)]
    exact ⟨_, _, J, rfl, rfl, Or.inl ⟨rfl, j0⟩, j2 o⟩
theorem pScr_find {I' : po_I} (h : pm_o I I' M [7, 8, 9, 10]) : pScr I I' o M := pScr_o ⟨h.1, fun j hj => h.2 j (by simp at hj ⊢; omega)⟩
theorem L_findings (h : pInv I R o M st n) (a b : Int32) : ∃ w I1 v I2, m_X7_findings I o a b = some (w, I1) ∧ m_X8_findings I1 M a b = some (v, I2) ∧ pAg sIO "" w (I2 M 0) v ∧ pScr I I2 o M := by
  have hV := h.1.1
  have hT := h.1.2.2
  have hM := h.2.2.2.2.2.1
  have h2' := hV.2.2.1.2.2
  have y : ∀ (K J : po_I), J = po_u K M 0 0 → pV (K (M + 1)) → m_X8_findings K M a b = if plt a (pv (K (M + 1)) 2) = true then Option.bind (m_X8_find J M a) fun x3 => if (b : Int32) = 0 then some (x3 M 7, x3) else some (x3 M 8, x3) else some (0, po_u J M 0 1) := by
    rintro K J rfl hK
    unfold m_X8_findings m_X8_findings_e m_X8_findings_39 po_hlet
    dsimp only
    rw [q_isPermit (by rw [po_u_ne (by omega)]; exact hK), Option.bind_some, po_u_ne (show M + 1 ≠ M by omega)]
    cases plt a (pv (K (M + 1)) 2) <;> rfl
  unfold m_X7_findings m_X7_findings_e m_X7_findings_37
  rw [x_permitOrThrow hV hT, Option.bind_some]
  by_cases ha : plt a (pv (I (M + 1)) 2) = true
  · rw [if_pos ha]
    rw [Sum.elim_inl]
    obtain ⟨k, hk, rfl⟩ := plt_of (by omega) ha
    rw [pl_clamp (by omega)]
    have q : ∀ K : po_I, K (M + 1) = I (M + 1) → ∃ J2, m_X8_find (po_u K M 0 0) M (Int32.ofNat k) = some J2 ∧ pScr K J2 o M ∧ J2 M 0 = 0 ∧ J2 M 7 = pfold (ob (ps_pw (I (M + 1)) k)) 9 0 ∧ J2 M 8 = pfold (ob (ps_is (I (M + 1)) k)) 9 0 := by
      intro K hK
      have r : (po_u K M 0 0) (M + 1) = I (M + 1) := by rw [po_u_ne (by omega), hK]
      obtain ⟨J2, b1, b2, b3, b4, b5⟩ := q_find4 (I := po_u K M 0 0) (M := M) (p := k) (by rw [r]; exact hV) (by rw [r]; exact hk)
      rw [r] at b3 b4
      exact ⟨J2, b1, pScr_u.tr (pScr_find b2), by rw [b2.2 0 (by simp), po_uaa], b3, b4⟩
    by_cases hb : b = 0
    · obtain ⟨I1, a1, a2⟩ := x_findingSet (s := o + 3) hV hT (by omega) hk
      have r1 : I1 (M + 1) = I (M + 1) := a2 _ (by omega) (by omega)
      obtain ⟨J2, c1, c2, c3, c4, c5⟩ := q I1 r1
      have a1' : m_X4_findingSet I (o + 3) (o + 8) (o + 8 + (29 + 5 * k)) = some (pfold (ob (ps_pw (I (M + 1)) k)) 9 0, I1) := a1
      rw [if_pos hb, a1', Option.bind_some]
      have ym := y I1 _ rfl (by rw [r1]; exact hV)
      rw [r1, if_pos ha, c1, Option.bind_some, if_pos hb, c4] at ym
      exact ⟨_, I1, _, J2, rfl, ym, ⟨c3, rfl⟩, (pScr.sv a2 hM).tr c2⟩
    · obtain ⟨I1, a1, a2⟩ := x_relievedSet (s := o + 3) hV hT (by omega) hk
      have r1 : I1 (M + 1) = I (M + 1) := a2 _ (by omega) (by omega)
      obtain ⟨J2, c1, c2, c3, c4, c5⟩ := q I1 r1
      have a1' : m_X4_relievedSet I (o + 3) (o + 8) (o + 8 + (29 + 5 * k)) = some (pfold (ob (ps_is (I (M + 1)) k)) 9 0, I1) := a1
      rw [if_neg hb, a1', Option.bind_some]
      have ym := y I1 _ rfl (by rw [r1]; exact hV)
      rw [r1, if_pos ha, c1, Option.bind_some, if_neg hb, c5] at ym
      exact ⟨_, I1, _, J2, rfl, ym, ⟨c3, rfl⟩, (pScr.sv a2 hM).tr c2⟩
  · rw [if_neg ha]
    have ym := y I _ rfl hV
    rw [if_neg ha] at ym
    exact ⟨.inr sIO, I, 0, _, rfl, ym, Or.inl ⟨rfl, po_uaa _ _ _ _⟩, (pScr_u (k := 0)).tr pScr_u⟩
theorem L_finding (h : pInv I R o M st n) (a b c : Int32) : ∃ w I1 v I2, m_X7_finding I o a b c = some (w, I1) ∧ m_X8_finding I1 M a b c = some (v, I2) ∧ pAg sIO sIA w (I2 M 0) v ∧ pScr I I2 o M := by
  have hV := h.1.1
  have hT := h.1.2.2
  have hM := h.2.2.2.2.2.1
  have h2' := hV.2.2.1.2.2
  have y1 : ∀ (K : po_I) e J, J = po_u K M 0 e → e ≠ 0 → m_X8_finding_37 K M a b c M e = some (0, J) := by
    rintro K e J rfl hc
    unfold m_X8_finding_37 po_hlet
    dsimp only
    rw [po_uaa, if_neg hc]
  have y2 : ∀ K : po_I, pV (K (M + 1)) → m_X8_finding K M a b c = if plt a (pv (K (M + 1)) 2) = true then (if plt b 9 = true then (if plt c 3 = true then m_X8_finding_37 K M a b c M 0 else m_X8_finding_37 K M a b c M 2) else m_X8_finding_37 K M a b c M 2) else m_X8_finding_37 K M a b c M 1 := by
    intro K hK
    unfold m_X8_finding m_X8_finding_e m_X8_finding_32
    rw [q_isPermit hK, Option.bind_some, show m_X8_isIn b 0 8 = some (pb (plt b 9)) from q_isInk b (m := 8) (by omega), Option.bind_some, show m_X8_isIn c 0 2 = some (pb (plt c 3)) from q_isInk c (m := 2) (by omega), Option.bind_some]
    cases plt a (pv (K (M + 1)) 2) <;> cases plt b 9 <;> cases plt c 3 <;> rfl
  unfold m_X7_finding m_X7_finding_e m_X7_finding_17
  rw [x_permitOrThrow hV hT, Option.bind_some]
  by_cases ha : plt a (pv (I (M + 1)) 2) = true
  · rw [if_pos ha]
    rw [Sum.elim_inl]
    rw [pk_9, plt_if1]
    by_cases hb : plt b 9 = true
    · rw [if_pos hb]
      by_cases hc : plt c 3 = true
      · obtain ⟨k, hk, rfl⟩ := plt_of (by omega) ha
        obtain ⟨i, hi, rfl⟩ := plt_of (by omega) hb
        obtain ⟨j, hj, rfl⟩ := plt_of (by omega) hc
        rw [pl_clamp (by omega)]
        have z : ∀ K : po_I, K (M + 1) = I (M + 1) → m_X8_finding K M (Int32.ofNat k) (Int32.ofNat i) (Int32.ofNat j) = some (if j = 0 then ps_me (I (M + 1)) k i else if j = 1 then ps_li (I (M + 1)) k i else po_op (ps_uv (I (M + 1)) k i), po_u K M 0 0) := by
          intro K hK
          obtain ⟨J, eJ, j0, j1, j2⟩ := po_uJ K M 0
          have j3 := j1.trans hK
          have hVJ : pV (J (M + 1)) := by rw [j3]; exact hV
          have hkJ : k < pv (J (M + 1)) 2 := by rw [j3]; exact hk
          rw [y2 K (by rw [hK]; exact hV), hK, if_pos ha, if_pos hb, if_pos hc]
          unfold m_X8_finding_37 m_X8_finding_109 po_hlet
          dsimp only
          rw [← eJ, j0, if_pos rfl, q_measure hVJ hkJ hi, Option.bind_some, q_limit hVJ hkJ hi, Option.bind_some, q_isWrong, Option.bind_some, q_used hVJ hkJ hi, Option.bind_some, j3]
          by_cases e0 : j = 0
          · subst e0; rfl
          · rw [if_neg e0, if_neg (show ¬ Int32.ofNat j = 0 from pk_ne (b := 0) (by omega) (by omega) e0)]
            by_cases e1 : j = 1
            · subst e1; rfl
            · rw [if_neg e1, if_neg (show ¬ Int32.ofNat j = 1 from pk_ne (b := 1) (by omega) (by omega) e1)]
              unfold ps_uv
              cases pw (Int32.ofNat i) (ps_me (I (M + 1)) k i) (ps_li (I (M + 1)) k i) <;> rfl
        by_cases e0 : j = 0
        · obtain ⟨I1, a1, a2⟩ := x_measureOf (s := o + 3) hV hT (by omega) hk hi
          have r1 : I1 (M + 1) = I (M + 1) := a2 _ (by omega) (by omega)
          have ym := z I1 r1
          rw [if_pos e0] at ym
          rw [if_pos (show Int32.ofNat j = 0 by rw [e0]; rfl), a1, Option.bind_some]
          exact ⟨_, I1, _, _, rfl, ym, ⟨po_uaa _ _ _ _, rfl⟩, (pScr.sv a2 hM).tr (pScr_u (k := 0))⟩
        · rw [if_neg (show ¬ Int32.ofNat j = 0 from pk_ne (b := 0) (by omega) (by omega) e0)]
          by_cases e1 : j = 1
          · have ym := z I rfl
            rw [if_neg e0, if_pos e1] at ym
            rw [if_pos (show Int32.ofNat j = 1 by rw [e1]; rfl), x_limitOf hV hT hk hi, Option.bind_some]
            exact ⟨_, I, _, _, rfl, ym, ⟨po_uaa _ _ _ _, rfl⟩, pScr_u (k := 0)⟩
          · obtain ⟨I1, a1, a2⟩ := x_usedVariance (s := o + 3) hV hT (by omega) hk hi
            have r1 : I1 (M + 1) = I (M + 1) := a2 _ (by omega) (by omega)
            have ym := z I1 r1
            rw [if_neg e0, if_neg e1] at ym
            rw [if_neg (show ¬ Int32.ofNat j = 1 from pk_ne (b := 1) (by omega) (by omega) e1), if_pos (show Int32.ofNat j = 2 by rw [show j = 2 by omega]; rfl), a1, Option.bind_some]
            exact ⟨_, I1, _, _, rfl, ym, ⟨po_uaa _ _ _ _, rfl⟩, (pScr.sv a2 hM).tr (pScr_u (k := 0))⟩
      · obtain ⟨J, eJ, j0, j1, j2⟩ := po_uJ I M 2
        rw [if_neg (show ¬ c = 0 from plt_ne (j := 0) (by omega) hc (by omega)), if_neg (show ¬ c = 1 from plt_ne (j := 1) (by omega) hc (by omega)), if_neg (show ¬ c = 2 from plt_ne (j := 2) (by omega) hc (by omega))]
        exact ⟨_, _, 0, J, rfl, by rw [y2 I hV, if_pos ha, if_pos hb, if_neg hc, y1 I 2 J eJ (by decide)], Or.inr ⟨rfl, j0⟩, j2 o⟩
    · obtain ⟨J, eJ, j0, j1, j2⟩ := po_uJ I M 2
      rw [if_neg hb]
      exact ⟨_, _, 0, J, rfl, by rw [y2 I hV, if_pos ha, if_neg hb, y1 I 2 J eJ (by decide)], Or.inr ⟨rfl, j0⟩, j2 o⟩
  · obtain ⟨J, eJ, j0, j1, j2⟩ := po_uJ I M 1
    rw [if_neg ha]
    exact ⟨_, _, 0, J, rfl, by rw [y2 I hV, if_neg ha, y1 I 1 J eJ (by decide)], Or.inl ⟨rfl, j0⟩, j2 o⟩
theorem L_needed (h : pInv I R o M st n) (a b : Int32) : ∃ w I1 v I2, m_X7_needed I o a b = some (w, I1) ∧ m_X8_needed I1 M a b = some (v, I2) ∧ pAg sIO sIA w (I2 M 0) v ∧ pScr I I2 o M := by
  have hV := h.1.1
  have hT := h.1.2.2
  have hM := h.2.2.2.2.2.1
  have h2' := hV.2.2.1.2.2
  have y1 : ∀ (K : po_I) e J, J = po_u K M 0 e → e ≠ 0 → m_X8_needed_28 K M a b M e = some (0, J) := by
    rintro K e J rfl hc
    unfold m_X8_needed_28 po_hlet
    dsimp only
    rw [po_uaa, if_neg hc]
  have y2 : ∀ K : po_I, pV (K (M + 1)) → m_X8_needed K M a b = if plt a (pv (K (M + 1)) 2) = true then (if decide (2 ≤ b ∧ b ≤ 8) = true then m_X8_needed_28 K M a b M 0 else m_X8_needed_28 K M a b M 2) else m_X8_needed_28 K M a b M 1 := by
    intro K hK
    unfold m_X8_needed m_X8_needed_e
    rw [q_isPermit hK, Option.bind_some, q_isIn, Option.bind_some]
    cases plt a (pv (K (M + 1)) 2) <;> cases decide (2 ≤ b ∧ b ≤ 8) <;> rfl
  unfold m_X7_needed m_X7_needed_e m_X7_needed_17
  rw [x_permitOrThrow hV hT, Option.bind_some]
  by_cases ha : plt a (pv (I (M + 1)) 2) = true
  · rw [if_pos ha]
    rw [Sum.elim_inl]
    by_cases hb : 2 ≤ b ∧ b ≤ 8
    · rw [if_neg (Int32.not_lt.mpr hb.1), if_pos hb.2]
      have hb2 : decide (2 ≤ b ∧ b ≤ 8) = true := decide_eq_true hb
      obtain ⟨k, hk, rfl⟩ := plt_of (by omega) ha
      obtain ⟨i, hi, rfl⟩ := pl_of (Int32.le_trans (show (0 : Int32) ≤ 2 by decide) hb.1)
      have i2 : 2 ≤ i := (pl_le (a := 2) (by omega) hi).mp hb.1
      have i8 : i ≤ 8 := (pl_le (b := 8) hi (by omega)).mp hb.2
      rw [pl_clamp (by omega)]
      obtain ⟨I1, a1, a2⟩ := x_needed (s := o + 3) hV hT (by omega) hk i2 (by omega)
      have r1 : I1 (M + 1) = I (M + 1) := a2 _ (by omega) (by omega)
      obtain ⟨J, eJ, j0, j1, j2⟩ := po_uJ I1 M 0
      have j3 := j1.trans r1
      have hVJ : pV (J (M + 1)) := by rw [j3]; exact hV
      have hkJ : k < pv (J (M + 1)) 2 := by rw [j3]; exact hk
      rw [a1, Option.bind_some]
      refine ⟨_, I1, ps_nd (I (M + 1)) k i, J, rfl, ?_, ⟨j0, rfl⟩, (pScr.sv a2 hM).tr (j2 o)⟩
      · rw [y2 I1 (by rw [r1]; exact hV), r1, if_pos ha, if_pos hb2]
        unfold m_X8_needed_28 po_hlet
        dsimp only
        rw [← eJ, j0, if_pos rfl, q_neededT hVJ hkJ i2 (by omega), j3]
    · obtain ⟨J, eJ, j0, j1, j2⟩ := po_uJ I M 2
      refine ⟨.inr sIA, I, 0, J, ?_, by rw [y2 I hV, if_pos ha, if_neg (fun h => hb (of_decide_eq_true h)), y1 I 2 J eJ (by decide)], Or.inr ⟨rfl, j0⟩, j2 o⟩
      by_cases h1 : b < 2
      · rw [if_pos h1]
      · rw [if_neg h1, if_neg (fun h3 => hb ⟨Int32.not_lt.mp h1, h3⟩)]
  · obtain ⟨J, eJ, j0, j1, j2⟩ := po_uJ I M 1
    rw [if_neg ha]
    exact ⟨_, _, 0, J, rfl, by rw [y2 I hV, if_neg ha, y1 I 1 J eJ (by decide)], Or.inl ⟨rfl, j0⟩, j2 o⟩
theorem L_variance (h : pInv I R o M st n) (a b : Int32) : ∃ w v I2, m_X7_variance I o a b = some w ∧ m_X8_variance I M a b = some (v, I2) ∧ pAg sIO sIA w (I2 M 0) v ∧ pScr I I2 o M := by
  have hV := h.1.1
  have hT := h.1.2.2
  have h3' := hV.2.2.2.1.2.2
  have y1 : ∀ c J, J = po_u I M 0 c → c ≠ 0 → m_X8_variance_35 I M a b M c = some (0, J) := by
    rintro c J rfl hc
    unfold m_X8_variance_35 m_X8_variance_89 po_hlet
    dsimp only
    rw [po_uaa, if_neg hc]
  have y2 : m_X8_variance I M a b = if plt a (pv (I (M + 1)) 3) = true then (if plt b 6 = true then m_X8_variance_35 I M a b M 0 else m_X8_variance_35 I M a b M 2) else m_X8_variance_35 I M a b M 1 := by
    unfold m_X8_variance m_X8_variance_e
    rw [q_isIn, Option.bind_some, hV.2.2.2.1.1, plt_le (by omega), show m_X8_isIn b 0 5 = some (pb (plt b 6)) from q_isInk b (m := 5) (by omega), Option.bind_some]
    cases plt a (pv (I (M + 1)) 3) <;> cases plt b 6 <;> rfl
  rw [y2]
  unfold m_X7_variance m_X7_variance_e m_X7_variance_15 m_X7_variance_124
  rw [hT.2.2.2.1, hV.2.2.2.1.1, plt_if1]
  by_cases ha : plt a (pv (I (M + 1)) 3) = true
  · rw [if_pos ha, if_pos ha]
    obtain ⟨k, hk, rfl⟩ := plt_of (by omega) ha
    have hQ := hT.2.2.2.2.2.2.2 k hk
    rw [if_pos (show po_in (Int32.ofNat k) 12 = true from pl_inl (by omega) (by omega)), pl_clamp (by omega)]
    by_cases hb : plt b 6 = true
    · obtain ⟨j, hj, rfl⟩ := plt_of (by omega) hb
      obtain ⟨J, eJ, j0, j1, j2⟩ := po_uJ I M 0
      have hVJ : pV (J (M + 1)) := by rw [j1]; exact hV
      have z : m_X8_variance_35 I M (Int32.ofNat k) (Int32.ofNat j) M 0 = (if (4 : Int32) ≤ (Int32.ofNat j) then (if (Int32.ofNat j : Int32) = 4 then (Option.bind (m_X8_namedBy J M (Int32.ofNat k)) fun x3 => some (x3, J)) else (Option.bind (m_X8_isInForce J M (Int32.ofNat k)) fun x2 => if (x2 : Int32) = 0 then some (0, J) else some (1, J))) else (Option.bind (m_X8_variancePart J M (Int32.ofNat k) (Int32.ofNat j)) fun x4 => some (x4, J))) := by
        unfold m_X8_variance_35 m_X8_variance_89 po_hlet
        dsimp only
        rw [← eJ, j0, if_pos rfl]
      rw [if_pos hb, z]
      rcases six_cases hj with e | e | e | e | e | e <;> subst e
      · rw [if_neg (show ¬ (4 : Int32) ≤ Int32.ofNat 0 by decide), q_variancePart (by omega), j1]
        exact ⟨_, _, J, rfl, rfl, ⟨j0, (hQ 0 (by omega)).symm⟩, j2 o⟩
      · rw [if_neg (show ¬ (4 : Int32) ≤ Int32.ofNat 1 by decide), q_variancePart (by omega), j1]
        exact ⟨_, _, J, rfl, rfl, ⟨j0, (hQ 1 (by omega)).symm⟩, j2 o⟩
      · rw [if_neg (show ¬ (4 : Int32) ≤ Int32.ofNat 2 by decide), q_variancePart (by omega), j1]
        exact ⟨_, _, J, rfl, rfl, ⟨j0, (hQ 2 (by omega)).symm⟩, j2 o⟩
      · rw [if_neg (show ¬ (4 : Int32) ≤ Int32.ofNat 3 by decide), q_variancePart (by omega), j1]
        exact ⟨_, _, J, rfl, rfl, ⟨j0, (hQ 3 (by omega)).symm⟩, j2 o⟩
      · rw [if_pos (show (4 : Int32) ≤ Int32.ofNat 4 by decide), q_namedBy hVJ (by omega), j1, x_permitsNaming hV hT (by omega)]
        exact ⟨_, _, J, rfl, rfl, ⟨j0, rfl⟩, j2 o⟩
      · rw [if_pos (show (4 : Int32) ≤ Int32.ofNat 5 by decide), q_isInForce (by omega), j1, hT.1, x_isInForce hT hk]
        cases decide (I (M + 1) 0 ≤ I (M + 1) (620 + 4 * k + 3))
        · exact ⟨_, _, J, rfl, rfl, ⟨j0, rfl⟩, j2 o⟩
        · exact ⟨_, _, J, rfl, rfl, ⟨j0, rfl⟩, j2 o⟩
    · obtain ⟨J, eJ, j0, j1, j2⟩ := po_uJ I M 2
      rw [if_neg hb, y1 2 J eJ (by decide)]
      refine ⟨.inr sIA, 0, J, ?_, rfl, Or.inr ⟨rfl, j0⟩, j2 o⟩
      rw [if_neg (show ¬ b = 0 from plt_ne (j := 0) (by omega) hb (by omega)), if_neg (show ¬ b = 1 from plt_ne (j := 1) (by omega) hb (by omega)), if_neg (show ¬ b = 2 from plt_ne (j := 2) (by omega) hb (by omega)), if_neg (show ¬ b = 3 from plt_ne (j := 3) (by omega) hb (by omega)), if_neg (show ¬ b = 4 from plt_ne (j := 4) (by omega) hb (by omega)), if_neg (show ¬ b = 5 from plt_ne (j := 5) (by omega) hb (by omega))]
  · obtain ⟨J, eJ, j0, j1, j2⟩ := po_uJ I M 1
    rw [if_neg ha, if_neg ha, y1 1 J eJ (by decide)]
    exact ⟨_, _, J, rfl, rfl, Or.inl ⟨rfl, j0⟩, j2 o⟩
end QB7
