section QC6
variable {I J : po_I} {R : po_R} {o M n t k b P z : Nat} {N N' : po_N} {st : Nat → Nat}
theorem pzone (hz : z < 4) (hV : pV N) (hB : pB N n) (hT : pTR I t N) (hk : k < pv N 1) : pV (pup1 N (32 + 16 * k) (Int32.ofNat z)) ∧ pB (pup1 N (32 + 16 * k) (Int32.ofNat z)) n ∧ pTR (po_u I (t + (5 + 3 * k)) 0 (Int32.ofNat z)) t (pup1 N (32 + 16 * k) (Int32.ofNat z)) := by
  have n0 : (pup1 N (32 + 16 * k) (Int32.ofNat z)) (32 + 16 * k) = Int32.ofNat z := pup1_eq
  have nn : ∀ j, j ≠ 32 + 16 * k → (pup1 N (32 + 16 * k) (Int32.ofNat z)) j = N j := fun j hj => pup1_ne hj
  have h2' := hV.2.1.2.2
  have h3' := hV.2.2.1.2.2
  have h4' := hV.2.2.2.1.2.2
  obtain ⟨h1, h2, h3, h4, h5, h6, h7, h8⟩ := hV
  have ea : pa_in (pup1 N (32 + 16 * k) (Int32.ofNat z)) (32 + 16 * k) = pa_in N (32 + 16 * k) := by
    have e : ∀ j, j < 3 → ∀ c r, pa_r (pup1 N (32 + 16 * k) (Int32.ofNat z)) (32 + 16 * k) j c r = pa_r N (32 + 16 * k) j c r := by
      intro j hj c r
      unfold pa_r
      rw [nn _ (by omega), nn _ (by omega), nn _ (by omega), nn _ (by omega)]
    funext c r
    unfold pa_in
    rw [e 0 (by omega), e 1 (by omega), e 2 (by omega), pg_vv (nn (32 + 16 * k + 2) (by omega))]
  have er : ∀ j, j < 3 → pa_rv N (32 + 16 * k) j → pa_rv (pup1 N (32 + 16 * k) (Int32.ofNat z)) (32 + 16 * k) j := by
    rintro j hj ⟨g1, g2, g3, g4, g5, g6⟩
    refine ⟨pg_cc (nn _ (by omega)) g1, pg_cc (nn _ (by omega)) g2, pg_cc (nn _ (by omega)) g3, pg_cc (nn _ (by omega)) g4, ?_, ?_⟩
    · rw [pg_vv (nn _ (by omega)), pg_vv (nn _ (by omega))]; exact g5
    · rw [pg_vv (nn _ (by omega)), pg_vv (nn _ (by omega))]; exact g6
  have ev : pa_v N (32 + 16 * k) → pa_v (pup1 N (32 + 16 * k) (Int32.ofNat z)) (32 + 16 * k) := by
    rintro ⟨g1, g2, g3, g4⟩
    refine ⟨pg_cc (nn _ (by omega)) g1, er 0 (by omega) g2, ?_, ?_⟩
    · rw [pg_vv (nn (32 + 16 * k + 2) (by omega))]; exact fun e => er 1 (by omega) (g3 e)
    · rw [pg_vv (nn (32 + 16 * k + 2) (by omega))]; exact fun e => er 2 (by omega) (g4 e)
  refine ⟨⟨pg_cc (nn 0 (by omega)) h1, pg_cc (nn 1 (by omega)) h2, pg_cc (nn 2 (by omega)) h3, pg_cc (nn 3 (by omega)) h4, fun z hz => ?_, ?_, ?_, ?_⟩, ?_, ?_⟩
  · obtain ⟨g1, g2, g3, g4, g5, g6, g7⟩ := h5 z hz
    exact ⟨pg_cc (nn _ (by omega)) g1, pg_cc (nn _ (by omega)) g2, pg_cc (nn _ (by omega)) g3, pg_cc (nn _ (by omega)) g4, pg_cc (nn _ (by omega)) g5, pg_cc (nn _ (by omega)) g6, pg_cc (nn _ (by omega)) g7⟩
  · rw [pg_vv (nn 1 (by omega))]
    intro i hi
    obtain ⟨g1, g2, g3⟩ := h6 i hi
    by_cases e : i = k
    · rw [e]
      rw [e] at g2 g3
      exact ⟨pvc_of n0 (by omega) (by omega) (by omega), pg_cc (nn _ (by omega)) g2, ev g3⟩
    · exact ⟨pg_cc (nn _ (by omega)) g1, pg_cc (nn _ (by omega)) g2, pg_av (fun j hj => nn _ (by omega)) g3⟩
  · rw [pg_vv (nn 2 (by omega))]
    exact fun i hi => pg_pP (fun j hj => nn _ (by omega)) (by rw [pg_vv (nn 1 (by omega))]; exact Nat.le_refl _) (h7 i hi)
  · rw [pg_vv (nn 3 (by omega))]
    intro i hi
    obtain ⟨g1, g2, g3, g4⟩ := h8 i hi
    exact ⟨pg_cc (nn _ (by omega)) g1, pg_cc (nn _ (by omega)) g2, pg_cc (nn _ (by omega)) g3, pg_cc (nn _ (by omega)) g4⟩
  · unfold pB at *
    rw [pg_vv (nn 0 (by omega)), pg_vv (nn 2 (by omega)), pg_vv (nn 3 (by omega))]
    refine ⟨hB.1, fun i hi => ?_, fun i hi => ?_, fun i hi => ?_⟩
    · rw [pg_vv (nn _ (by omega)), pg_vv (nn _ (by omega))]; exact hB.2.1 i hi
    · rw [pg_vv (nn _ (by omega))]; exact hB.2.2.1 i hi
    · rw [pg_vv (nn _ (by omega)), pg_vv (nn _ (by omega)), pg_vv (nn _ (by omega))]; exact hB.2.2.2 i hi
  · obtain ⟨g1, g2, g3, g4, g5, g6, g7, g8⟩ := hT
    have et : (po_u I (t + (5 + 3 * k)) 0 (Int32.ofNat z)) t = I t := po_u_ne (by omega)
    refine ⟨by rw [et, nn 0 (by omega)]; exact g1, by rw [et, nn 1 (by omega)]; exact g2, by rw [et, nn 2 (by omega)]; exact g3, by rw [et, nn 3 (by omega)]; exact g4, fun j hj => by rw [po_u_ne (by omega), nn _ (by omega)]; exact g5 j hj, ?_, ?_, ?_⟩
    · rw [pg_vv (nn 1 (by omega))]
      intro i hi
      by_cases e : i = k
      · rw [e]
        obtain ⟨a1, a2, a3, a4⟩ := g6 k hk
        refine ⟨by rw [po_uaa, n0], by rw [po_uu, if_neg (by omega), nn _ (by omega)]; exact a2, ?_, by rw [po_uu, if_neg (by omega), ea]; exact a4⟩
        rw [ea]
        exact a3.mv (po_u_ne (by omega))
      · exact pg_TL (fun j hj => nn _ (by omega)) ((g6 i hi).mv (fun q q1 q2 => po_u_ne (by omega)))
    · rw [pg_vv (nn 2 (by omega))]
      exact fun i hi => pg_TP (fun j hj => nn _ (by omega)) (h7 i hi).2.2.2.2.2.2.2.2.2.2.2.1.2.2 ((g7 i hi).mv (fun q q1 q2 => po_u_ne (by omega)))
    · rw [pg_vv (nn 3 (by omega))]
      exact fun i hi j hj => by rw [po_u_ne (by omega), nn _ (by omega)]; exact g8 i hi j hj
theorem L_rezone (h : pInv I R o M st n) (a b : Int32) : ∃ w I1 R1 v I2, m_X7_rezone I R o a b = some (w, I1, R1) ∧ m_X8_rezone I1 M a b = some (v, I2) ∧ pAg sIO sIA w (I2 M 0) v ∧ pInv I2 R1 o M st (n + 1) := by
  have hV := h.1.1
  have hB := h.1.2.1
  have hT := h.1.2.2
  have hM := h.2.2.2.2.2.1
  have h1' := hV.2.1.2.2
  have y1 : ∀ (K : po_I) e, e ≠ 0 → m_X8_rezone_27 K M a b M e = some (0, po_u K M 0 e) := by
    intro K e he
    unfold m_X8_rezone_27
    rw [po_hletE, po_uaa, if_neg he]
  have y2 : ∀ K : po_I, pV (K (M + 1)) → m_X8_rezone K M a b = if plt a (pv (K (M + 1)) 1) = true then (if plt b 4 = true then m_X8_rezone_27 K M a b M 0 else m_X8_rezone_27 K M a b M 2) else m_X8_rezone_27 K M a b M 1 := by
    intro K hK
    unfold m_X8_rezone m_X8_rezone_e
    rw [q_isLot hK, Option.bind_some, show m_X8_isIn b 0 3 = some (pb (plt b 4)) from q_isInk b (m := 3) (by omega), Option.bind_some]
    cases plt a (pv (K (M + 1)) 1) <;> cases plt b 4 <;> rfl
  unfold m_X7_rezone m_X7_rezone_e m_X7_rezone_15
  rw [x_lotOrThrow hV hT, Option.bind_some]
  by_cases ha : plt a (pv (I (M + 1)) 1) = true
  · rw [if_pos ha, Sum.elim_inl, pk_4, plt_if1]
    by_cases hb : plt b 4 = true
    · obtain ⟨k, hk, rfl⟩ := plt_of (by omega) ha
      obtain ⟨z, hz, rfl⟩ := plt_of (by omega) hb
      obtain ⟨I', R', m1, m2, m3, m4⟩ := L_mut h
      have hT1 : pTR I' (o + 8) (I (M + 1)) := hT.mv hV (fun q q1 q2 => m2 q (by omega) (by omega))
      obtain ⟨d1, d2, d3⟩ := pzone hz hV hB hT1 hk
      rw [if_pos hb, m1, Option.bind_some, po_letE, po_hletE, pl_clamp (by omega)]
      obtain ⟨J, eJ⟩ : ∃ J, J = po_u I' (o + 8 + (5 + 3 * k)) 0 (Int32.ofNat z) := ⟨_, rfl⟩
      rw [← eJ] at d3
      have fJ : ∀ q, (q < o + 8 ∨ o + 99 ≤ q) → J q = I' q := fun q hq => by rw [eJ, po_u_ne (by omega)]
      have rJ : J (M + 1) = I (M + 1) := by rw [fJ _ (by omega)]; exact m2 _ (by omega) (by omega)
      obtain ⟨I2, p1, p2, p3, p4, p5⟩ := m4 J (fun q q1 q2 q3 => fJ q q1)
      have ym : m_X8_rezone J M (Int32.ofNat k) (Int32.ofNat z) = some (I (M + 1) (32 + 16 * k), po_u I2 (M + 1) (32 + 16 * k) (Int32.ofNat z)) := by
        rw [y2 J (by rw [rJ]; exact hV), rJ, if_pos ha, if_pos hb]
        unfold m_X8_rezone_27
        rw [po_hletE, po_uaa, if_pos rfl, p1, Option.bind_some, pk_0, q_lotPart (by omega), Option.bind_some, p2, show 32 + 16 * k + 0 = 32 + 16 * k from rfl, pk_32, pk_16, pl_mul, pl_add, if_pos (pl_inl (by omega) (by omega)), pl_clamp (by omega), po_hletE]
      have hl : I' (o + 8 + (5 + 3 * k)) 0 = I (M + 1) (32 + 16 * k) := (hT1.2.2.2.2.2.1 k hk).1
      have rK : (po_u I2 (M + 1) (32 + 16 * k) (Int32.ofNat z)) (M + 1) = pup1 (I (M + 1)) (32 + 16 * k) (Int32.ofNat z) := by rw [po_urow, p2]
      rw [← eJ]
      refine ⟨_, J, R', _, _, rfl, ym, ⟨by rw [po_u_ne (by omega)]; exact p3, hl.symm⟩, p5 _ (fun q q1 q2 => po_u_ne q2) ⟨by rw [po_u_ne (by omega)], by rw [po_u_ne (by omega)], by rw [po_u_ne (by omega)], by rw [po_u_ne (by omega)]⟩ ⟨by rw [rK]; exact d1, by rw [rK]; exact d2.up, ?_⟩⟩
      rw [rK]
      exact d3.mv d1 (fun q q1 q2 => by rw [po_u_ne (by omega)]; exact p4 q (by omega))
    · rw [if_neg hb]
      have ym := y2 I hV
      rw [if_pos ha, if_neg hb, y1 I 2 (by decide)] at ym
      exact ⟨_, I, R, _, _, rfl, ym, Or.inr ⟨rfl, po_uaa _ _ _ _⟩, (pScr_u.inv h).up⟩
  · rw [if_neg ha]
    have ym := y2 I hV
    rw [if_neg ha, y1 I 1 (by decide)] at ym
    exact ⟨_, I, R, _, _, rfl, ym, Or.inl ⟨rfl, po_uaa _ _ _ _⟩, (pScr_u.inv h).up⟩
/-! a condition is fulfilled -/
def pfl (N : po_N) (b : Nat) (l : Int32) (i : Nat) : po_N := fun j => if b + 29 ≤ j ∧ j < b + 29 + i ∧ Int32.ofNat (pv N j / 2 % 500) = l then Int32.ofNat (2 * (pv N j / 2)) else N j
theorem pfl_out {l : Int32} {i j : Nat} (h : j < b + 29 ∨ b + 29 + i ≤ j) : pfl N b l i j = N j := if_neg (fun h2 => by omega)
theorem pV_ful {l : Int32} {i : Nat} (hV : pV N) (hk : k < pv N 2) (hi : i ≤ pv N (160 + 46 * k + 45)) : pV (pfl N (160 + 46 * k) l i) := by
  have hp := hV.per hk
  have h15 := hp.cds
  obtain ⟨q1, q2, q3, q4, q5, q6, q7, q8, q9, q10, q11, q12, q13, q14, _⟩ := hp
  have q12' := q12.2.2
  have h3' := hV.2.2.1.2.2
  have nn : ∀ j, (j < 160 + 46 * k + 29 ∨ 160 + 46 * k + 29 + i ≤ j) → pfl N (160 + 46 * k) l i j = N j := fun j hj => pfl_out hj
  refine pV_per hV hk (fun j hj => nn j (by omega)) ⟨pg_cc (nn _ (by omega)) q1, ?_, pg_cc (nn _ (by omega)) q3, pg_av (fun i hi => nn _ (by omega)) q4, pg_cc (nn _ (by omega)) q5, pg_cc (nn _ (by omega)) q6, pg_cc (nn _ (by omega)) q7, pg_cc (nn _ (by omega)) q8, pg_cc (nn _ (by omega)) q9, pg_cc (nn _ (by omega)) q10, pg_cc (nn _ (by omega)) q11, pg_cc (nn _ (by omega)) q12, ?_, ?_, ?_⟩
  · rw [pg_vv (nn (160 + 46 * k) (by omega)), pg_vv (nn 1 (by omega))]; exact q2
  · rw [pg_vv (nn (160 + 46 * k + 19) (by omega)), pg_vv (nn (160 + 46 * k + 20) (by omega)), pg_vv (nn (160 + 46 * k + 21) (by omega))]
    exact fun e => ⟨pg_cc (nn _ (by omega)) (q13 e).1, (q13 e).2⟩
  · rw [pg_vv (nn (160 + 46 * k + 19) (by omega)), pg_vv (nn (160 + 46 * k + 20) (by omega))]; exact q14
  · rw [pg_vv (nn (160 + 46 * k + 45) (by omega))]
    intro x hx
    have hxx := h15 x hx
    have hx2 := hxx.2.2
    by_cases e : 160 + 46 * k + 29 ≤ 160 + 46 * k + 29 + x ∧ 160 + 46 * k + 29 + x < 160 + 46 * k + 29 + i ∧ Int32.ofNat (pv N (160 + 46 * k + 29 + x) / 2 % 500) = l
    · exact pvc_of (x := 2 * (pv N (160 + 46 * k + 29 + x) / 2)) (if_pos e) (by omega) (by omega) (by omega)
    · exact pg_cc (if_neg e) hxx
theorem q_ful46 {l : Int32} (hV : pV (I (M + 1))) (hk : k < pv (I (M + 1)) 2) : ∃ J, m_X8_fulfil_46L 5000 I M (Int32.ofNat k) l (Int32.ofNat 0) = some (Int32.ofNat (psum (fun i => ps_cp (pfl (I (M + 1)) (160 + 46 * k) l (ps_cm (I (M + 1)) k)) k i 2) (ps_cm (I (M + 1)) k)), J) ∧ (∀ q, q ≠ M + 1 → J q = I q) ∧ J (M + 1) = pfl (I (M + 1)) (160 + 46 * k) l (ps_cm (I (M + 1)) k) := by
  have h3' := hV.2.2.1.2.2
  have hp := hV.per hk
  have hc6 : ps_cm (I (M + 1)) k ≤ 6 := hp.2.2.2.2.2.2.2.2.2.2.2.1.2.2
  have h15 := hp.cds
  refine po_inv (L := fun f (J : po_I) i => m_X8_fulfil_46L f J M (Int32.ofNat k) l (Int32.ofNat i)) (n := ps_cm (I (M + 1)) k) (fun i J => i ≤ ps_cm (I (M + 1)) k ∧ (∀ p, p ≠ M + 1 → J p = I p) ∧ J (M + 1) = pfl (I (M + 1)) (160 + 46 * k) l i) (fun x => ∃ J, x = some (Int32.ofNat (psum (fun i => ps_cp (pfl (I (M + 1)) (160 + 46 * k) l (ps_cm (I (M + 1)) k)) k i 2) (ps_cm (I (M + 1)) k)), J) ∧ (∀ q, q ≠ M + 1 → J q = I q) ∧ J (M + 1) = pfl (I (M + 1)) (160 + 46 * k) l (ps_cm (I (M + 1)) k)) ?_ ?_ (ps_cm (I (M + 1)) k) 5000 I 0 (Nat.zero_add _) (by omega) ⟨by omega, fun _ _ => rfl, ?_⟩
  · rintro f J i hi ⟨g0, g1, g2⟩
    left
    have hVJ : pV (J (M + 1)) := by rw [g2]; exact pV_ful hV hk g0
    have hkJ : k < pv (J (M + 1)) 2 := by rw [g2, pg_vv (pfl_out (by omega))]; exact hk
    have hcm : ps_cm (J (M + 1)) k = ps_cm (I (M + 1)) k := by rw [g2]; exact pg_vv (pfl_out (by omega))
    have hrow : J (M + 1) (160 + 46 * k + 29 + i) = I (M + 1) (160 + 46 * k + 29 + i) := by rw [g2]; exact pfl_out (by omega)
    have hcp : ∀ j, ps_cp (J (M + 1)) k i j = ps_cp (I (M + 1)) k i j := fun j => by unfold ps_cp; rw [pg_vv hrow]
    have hx := (h15 i hi).2.2
    have hsucc : pfl (I (M + 1)) (160 + 46 * k) l (i + 1) = if Int32.ofNat (pv (I (M + 1)) (160 + 46 * k + 29 + i) / 2 % 500) = l then pup1 (pfl (I (M + 1)) (160 + 46 * k) l i) (160 + 46 * k + 29 + i) (Int32.ofNat (2 * (pv (I (M + 1)) (160 + 46 * k + 29 + i) / 2))) else pfl (I (M + 1)) (160 + 46 * k) l i := by
      funext j
      by_cases ej : j = 160 + 46 * k + 29 + i
      · subst ej
        by_cases el : Int32.ofNat (pv (I (M + 1)) (160 + 46 * k + 29 + i) / 2 % 500) = l
        · rw [if_pos el, pup1_eq]; exact if_pos ⟨by omega, by omega, el⟩
        · rw [if_neg el]; exact (if_neg (fun h => el h.2.2)).trans (if_neg (fun h => el h.2.2)).symm
      · have hh : (pfl (I (M + 1)) (160 + 46 * k) l (i + 1)) j = (pfl (I (M + 1)) (160 + 46 * k) l i) j := by
          unfold pfl
          by_cases e : 160 + 46 * k + 29 ≤ j ∧ j < 160 + 46 * k + 29 + i ∧ Int32.ofNat (pv (I (M + 1)) j / 2 % 500) = l
          · rw [if_pos ⟨e.1, by omega, e.2.2⟩, if_pos e]
          · rw [if_neg (fun h => e ⟨h.1, by omega, h.2.2⟩), if_neg e]
        rw [hh]
        split
        · rw [pup1_ne ej]
        · rfl
    have e : m_X8_fulfil_46L (f + 1) J M (Int32.ofNat k) l (Int32.ofNat i) = if Int32.ofNat (pv (I (M + 1)) (160 + 46 * k + 29 + i) / 2 % 500) = l then m_X8_fulfil_46L f (po_u J (M + 1) (160 + 46 * k + 29 + i) (Int32.ofNat (2 * (pv (I (M + 1)) (160 + 46 * k + 29 + i) / 2)))) M (Int32.ofNat k) l (Int32.ofNat (i + 1)) else m_X8_fulfil_46L f J M (Int32.ofNat k) l (Int32.ofNat (i + 1)) := by
      show m_X8_fulfil_46 _ _ _ _ _ _ = _
      unfold m_X8_fulfil_46 m_X8_fulfil_81 m_X8_putCondition m_X8_putCondition_e m_X8_putCondition_26
      rw [q_conditionMany hVJ hkJ, Option.bind_some, hcm, if_neg (mt (pl_le (by omega) (by omega)).mp (by omega)), show m_X8_conditionPart J M (Int32.ofNat k) (Int32.ofNat i) 1 = _ from q_conditionPart (j := 1) hVJ hkJ (by rw [hcm]; exact hi) (by omega), Option.bind_some, show m_X8_conditionPart J M (Int32.ofNat k) (Int32.ofNat i) 0 = _ from q_conditionPart (j := 0) hVJ hkJ (by rw [hcm]; exact hi) (by omega), Option.bind_some, hcp, hcp, show Int32.ofNat i + 1 = Int32.ofNat (i + 1) from pl_add i 1]
      have e1 : ps_cp (I (M + 1)) k i 1 = pv (I (M + 1)) (160 + 46 * k + 29 + i) / 2 % 500 := rfl
      have e0 : ps_cp (I (M + 1)) k i 0 = pv (I (M + 1)) (160 + 46 * k + 29 + i) / 1000 := rfl
      rw [e1, e0]
      by_cases el : Int32.ofNat (pv (I (M + 1)) (160 + 46 * k + 29 + i) / 2 % 500) = l
      · rw [if_pos el, if_pos el, ← el, if_pos rfl, pk_29, pl_add, pk_1000, pk_2, pl_mul, pl_mul, pl_add, pk_0, pl_add, q_set (by omega), Option.bind_some, Option.bind_some, show 160 + 46 * k + (29 + i) = 160 + 46 * k + 29 + i by omega, show 1000 * (pv (I (M + 1)) (160 + 46 * k + 29 + i) / 1000) + 2 * (pv (I (M + 1)) (160 + 46 * k + 29 + i) / 2 % 500) + 0 = 2 * (pv (I (M + 1)) (160 + 46 * k + 29 + i) / 2) by omega]
      · rw [if_neg el, if_neg el]
    show ∃ s', _ ∧ m_X8_fulfil_46L (f + 1) J M (Int32.ofNat k) l (Int32.ofNat i) = _
    rw [e]
    by_cases el : Int32.ofNat (pv (I (M + 1)) (160 + 46 * k + 29 + i) / 2 % 500) = l
    · rw [if_pos el] at hsucc ⊢
      refine ⟨_, ⟨by omega, fun p hp => (po_u_ne hp).trans (g1 p hp), ?_⟩, rfl⟩
      rw [po_urow, g2, hsucc]
    · rw [if_neg el] at hsucc ⊢
      exact ⟨J, ⟨by omega, g1, by rw [g2, hsucc]⟩, rfl⟩
  · rintro f J ⟨g0, g1, g2⟩
    have hVJ : pV (J (M + 1)) := by rw [g2]; exact pV_ful hV hk g0
    have hkJ : k < pv (J (M + 1)) 2 := by rw [g2, pg_vv (pfl_out (by omega))]; exact hk
    have hcm : ps_cm (J (M + 1)) k = ps_cm (I (M + 1)) k := by rw [g2]; exact pg_vv (pfl_out (by omega))
    refine ⟨J, ?_, g1, g2⟩
    show m_X8_fulfil_46 _ _ _ _ _ _ = _
    unfold m_X8_fulfil_46
    rw [q_conditionMany hVJ hkJ, Option.bind_some, hcm, if_pos ((pl_le (by omega) (by omega)).mpr (Nat.le_refl _)), q_openConditions hVJ hkJ, Option.bind_some, hcm, g2]
  · funext j
    exact (if_neg (fun h => by omega)).symm
end QC6
