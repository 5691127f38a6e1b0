/-! THE MODEL READS: variances and conditions -/
section QE6
variable {I J K : po_I} {M p p' k n e i f b : Nat} {w : pW} {N N' : po_N} {a : pA}
theorem ms_ws (h : mS K M w p N) {m v : Nat} (hm : m < 11) (hd : sD w 48 0 m p = some v) : m_X8_which K M (Int32.ofNat m) = some (Int32.ofNat v, po_u K M 14 (Int32.ofNat (p + 1))) ∧ mS (po_u K M 14 (Int32.ofNat (p + 1))) M w (p + 1) N := by
  have y := ms_which h hm
  have a1 := sD_some hd
  have hp := pch_in (w := w) (p := p) (by omega)
  rw [hd] at y
  exact ⟨y, h.to (by omega)⟩
theorem ms_wn (h : mS K M w p N) {m : Nat} (hm : m < 11) (hd : sD w 48 0 m p = none) : ∃ v, m_X8_which K M (Int32.ofNat m) = some (v, po_u K M 15 (Int32.ofNat p)) ∧ mF (po_u K M 15 (Int32.ofNat p)) M w p := by
  have y := ms_which h hm
  rw [hd] at y
  obtain ⟨v, hv⟩ := y
  exact ⟨v, hv, h.bad h.p60⟩
theorem ms_readVariance (h : mS K M w (p + 1) N) (hV : pV N) (hk12 : ¬ pv N 3 = 12) : mC K M w (m_X8_readVariance K M) (sVar w N p) := by
  have q0 := hV.1
  have q1 := hV.2.1
  have q3 := hV.2.2.2.1
  have q0' := q0.2.2
  have q1' := q1.2.2
  have q3' := q3.2.2
  unfold m_X8_readVariance m_X8_readVariance_e m_X8_readVariance_126 sVar
  rw [if_neg hk12, show K (M + 1) 1 = Int32.ofNat (pv N 1) from (h.row (by omega)).trans q1.1]
  cases hl : sD w 48 0 (pv N 1) (p + 1) with
  | none =>
    obtain ⟨v, y1, y2⟩ := ms_wn h (by omega) hl
    rw [y1, Option.bind_some, po_letE, mf_digit y2, Option.bind_some, po_letE, mf_number y2, Option.bind_some, po_letE, mf_must y2, Option.bind_some, mf_number y2, Option.bind_some, po_letE, mf_must y2, Option.bind_some, if_neg y2.ne]
    exact ⟨_, rfl, mO_u (by omega), y2⟩
  | some l =>
    have a1 := sD_some hl
    obtain ⟨y1, h1⟩ := ms_ws h (by omega) hl
    have o1 : mO K (po_u K M 14 (Int32.ofNat (p + 1 + 1))) M := mO_u (by omega)
    rw [y1, Option.bind_some, po_letE]
    dsimp only
    generalize po_u K M 14 (Int32.ofNat (p + 1 + 1)) = K1 at *
    have h1 : mS K1 M w (p + 2) N := h1
    refine mC.of ?_ o1
    cases hx : sD w 48 2 9 (p + 2) with
    | none =>
      obtain ⟨y1, y2⟩ := ms_dn h1 (lo := 2) (hi := 8) hx (by omega) (by omega)
      rw [show m_X8_digit K1 M 2 8 = _ from y1, Option.bind_some, po_letE, mf_number y2, Option.bind_some, po_letE, mf_must y2, Option.bind_some, mf_number y2, Option.bind_some, po_letE, mf_must y2, Option.bind_some, if_neg y2.ne]
      exact ⟨_, rfl, mO_u (by omega), y2⟩
    | some x =>
      have a2 := sD_some hx
      obtain ⟨y1, h2⟩ := ms_ds h1 (lo := 2) (hi := 8) hx (by omega) (by omega)
      have o2 : mO K1 (po_u K1 M 14 (Int32.ofNat (p + 2 + 1))) M := mO_u (by omega)
      rw [show m_X8_digit K1 M 2 8 = _ from y1, Option.bind_some, po_letE]
      dsimp only
      generalize po_u K1 M 14 (Int32.ofNat (p + 2 + 1)) = K2 at *
      have h2 : mS K2 M w (p + 3) N := h2
      refine mC.of ?_ o2
      have hn := ms_number h2 (lo := 1) (hi := 99) (by omega) (by omega)
      cases hv : sNum w 1 99 (p + 3) with
      | inl e =>
        rw [hv] at hn
        obtain ⟨v, K3, b1, b2, b3⟩ := hn
        rw [show m_X8_number K2 M 1 99 = _ from b1, Option.bind_some, po_letE, mf_must b3, Option.bind_some, mf_number b3, Option.bind_some, po_letE, mf_must b3, Option.bind_some, if_neg b3.ne]
        exact ⟨K3, rfl, b2, b3⟩
      | inr Q =>
        obtain ⟨am, q⟩ := Q
        rw [hv] at hn
        obtain ⟨b1, h3⟩ := hn
        have a3 := sNum_ok hv
        have o3 : mO K2 (po_u K2 M 14 (Int32.ofNat q)) M := mO_u (by omega)
        rw [show m_X8_number K2 M 1 99 = _ from b1, Option.bind_some, po_letE]
        dsimp only
        generalize po_u K2 M 14 (Int32.ofNat q) = K3 at *
        refine mC.of ?_ o3
        by_cases c44 : pch w q = 44
        · obtain ⟨d1, h4⟩ := ms_musts h3 (c := 44) (by omega) (by omega) c44
          have o4 : mO K3 (po_u K3 M 14 (Int32.ofNat (q + 1))) M := mO_u (by omega)
          rw [if_pos c44, show m_X8_must K3 M 44 = _ from d1, Option.bind_some]
          generalize po_u K3 M 14 (Int32.ofNat (q + 1)) = K4 at *
          refine mC.of ?_ o4
          have hn := ms_number h4 (lo := 0) (hi := 99) (by omega) (by omega)
          cases hd : sNum w 0 99 (q + 1) with
          | inl e =>
            rw [hd] at hn
            obtain ⟨v, K5, b1, b2, b3⟩ := hn
            rw [show m_X8_number K4 M 0 99 = _ from b1, Option.bind_some, po_letE, mf_must b3, Option.bind_some, if_neg b3.ne]
            exact ⟨K5, rfl, b2, b3⟩
          | inr Q =>
            obtain ⟨dd, q2⟩ := Q
            rw [hd] at hn
            obtain ⟨b1, h5⟩ := hn
            have a4 := sNum_ok hd
            have o5 : mO K4 (po_u K4 M 14 (Int32.ofNat q2)) M := mO_u (by omega)
            rw [show m_X8_number K4 M 0 99 = _ from b1, Option.bind_some, po_letE]
            dsimp only
            generalize po_u K4 M 14 (Int32.ofNat q2) = K5 at *
            refine mC.of ?_ o5
            by_cases c59 : pch w q2 = 59
            · obtain ⟨d1, h6⟩ := ms_musts h5 (c := 59) (by omega) (by omega) c59
              have o6 : mO K5 (po_u K5 M 14 (Int32.ofNat (q2 + 1))) M := mO_u (by omega)
              rw [if_pos c59, show m_X8_must K5 M 59 = _ from d1, Option.bind_some, if_pos h6.2.2.1]
              generalize po_u K5 M 14 (Int32.ofNat (q2 + 1)) = K6 at *
              refine mC.of ?_ o6
              have r3 : K6 (M + 1) 3 = Int32.ofNat (pv N 3) := (h6.row (by omega)).trans q3.1
              have r0 : K6 (M + 1) 0 = Int32.ofNat (pv N 0) := (h6.row (by omega)).trans q0.1
              rw [r3, show (4 : Int32) * Int32.ofNat (pv N 3) = Int32.ofNat (4 * pv N 3) from pl_mul 4 _, show (620 : Int32) + Int32.ofNat (4 * pv N 3) = Int32.ofNat (620 + 4 * pv N 3) from pl_add 620 _, po_letE, show Int32.ofNat (pv N 3) + 1 = Int32.ofNat (pv N 3 + 1) from pl_add _ 1, po_hletE, if_pos (pl_inl (by omega) (by omega)), pl_clamp (by omega), po_hletE, show Int32.ofNat (620 + 4 * pv N 3) + 1 = Int32.ofNat (620 + 4 * pv N 3 + 1) from pl_add _ 1, if_pos (pl_inl (by omega) (by omega)), pl_clamp (by omega), po_hletE, show Int32.ofNat (620 + 4 * pv N 3) + 2 = Int32.ofNat (620 + 4 * pv N 3 + 2) from pl_add _ 2, if_pos (pl_inl (by omega) (by omega)), pl_clamp (by omega), po_hletE, show Int32.ofNat (620 + 4 * pv N 3) + 3 = Int32.ofNat (620 + 4 * pv N 3 + 3) from pl_add _ 3, if_pos (pl_inl (by omega) (by omega)), pl_clamp (by omega)]
              have e0 : (po_u (po_u (po_u (po_u K6 (M + 1) 3 (Int32.ofNat (pv N 3 + 1))) (M + 1) (620 + 4 * pv N 3) (Int32.ofNat l)) (M + 1) (620 + 4 * pv N 3 + 1) (Int32.ofNat x)) (M + 1) (620 + 4 * pv N 3 + 2) (Int32.ofNat am)) (M + 1) 0 + Int32.ofNat dd = Int32.ofNat (pv N 0 + dd) := by rw [po_uu, if_neg (by omega), po_uu, if_neg (by omega), po_uu, if_neg (by omega), po_uu, if_neg (by omega), r0, pl_add]
              rw [e0, po_hletE]
              refine ⟨_, rfl, mO_r fun q hq => by rw [po_u_ne hq, po_u_ne hq, po_u_ne hq, po_u_ne hq, po_u_ne hq], h6.mvr (fun q hq => by rw [po_u_ne hq, po_u_ne hq, po_u_ne hq, po_u_ne hq, po_u_ne hq]) fun j hj => ?_⟩
              unfold pVarN
              by_cases c1 : j = 3
              · rw [if_pos c1, c1, po_uu, if_neg (by omega), po_uu, if_neg (by omega), po_uu, if_neg (by omega), po_uu, if_neg (by omega), po_uaa]
              by_cases c2 : j = 620 + 4 * pv N 3
              · rw [if_neg c1, if_pos c2, c2, po_uu, if_neg (by omega), po_uu, if_neg (by omega), po_uu, if_neg (by omega), po_uaa]
              by_cases c3 : j = 620 + 4 * pv N 3 + 1
              · rw [if_neg c1, if_neg c2, if_pos c3, c3, po_uu, if_neg (by omega), po_uu, if_neg (by omega), po_uaa]
              by_cases c4 : j = 620 + 4 * pv N 3 + 2
              · rw [if_neg c1, if_neg c2, if_neg c3, if_pos c4, c4, po_uu, if_neg (by omega), po_uaa]
              by_cases c5 : j = 620 + 4 * pv N 3 + 3
              · rw [if_neg c1, if_neg c2, if_neg c3, if_neg c4, if_pos c5, c5, po_uaa]
              rw [if_neg c1, if_neg c2, if_neg c3, if_neg c4, if_neg c5, po_uu, if_neg (by omega), po_uu, if_neg (by omega), po_uu, if_neg (by omega), po_uu, if_neg (by omega), po_uu, if_neg (by omega)]
              exact h6.row hj
            · obtain ⟨d1, hF⟩ := ms_mustn h5 (c := 59) (by omega) (by omega) c59
              rw [if_neg c59, show m_X8_must K5 M 59 = _ from d1, Option.bind_some, if_neg hF.ne]
              exact ⟨_, rfl, mO_u (by omega), hF⟩
        · obtain ⟨d1, hF⟩ := ms_mustn h3 (c := 44) (by omega) (by omega) c44
          rw [if_neg c44, show m_X8_must K3 M 44 = _ from d1, Option.bind_some, mf_number hF, Option.bind_some, po_letE, mf_must hF, Option.bind_some, if_neg hF.ne]
          exact ⟨_, rfl, mO_u (by omega), hF⟩
theorem mf_con44 (h : mF K M w e) (l s : Int32) : m_X8_readCondition_44 K M l s = some K := by
  unfold m_X8_readCondition_44 m_X8_readCondition_97
  rw [mf_sign_ h, Option.bind_some, po_letE, mf_must h, Option.bind_some, if_neg h.ne]
theorem q_cMany (hk : k < 10) : m_X8_conditionMany K M (Int32.ofNat k) = some (K (M + 1) (160 + 46 * k + 45)) := by
  unfold m_X8_conditionMany m_X8_conditionMany_e
  rw [show m_X8_at K M (Int32.ofNat k) 45 = _ from q_at (j := 45) (by omega), Option.bind_some]
theorem ms_readCondition (h : mS K M w (p + 1) N) (hV : pV N) : mC K M w (m_X8_readCondition K M) (sCon w N p) := by
  have q2 := hV.2.2.1
  have q2' := q2.2.2
  unfold m_X8_readCondition m_X8_readCondition_e sCon
  rw [show K (M + 1) 2 = Int32.ofNat (pv N 2) from (h.row (by omega)).trans q2.1]
  cases hl : sD w 48 0 (pv N 2) (p + 1) with
  | none =>
    obtain ⟨v, y1, y2⟩ := ms_wn h (by omega) hl
    rw [y1, Option.bind_some, po_letE, mf_digit y2, Option.bind_some, po_letE, if_neg y2.ne, mf_con44 y2]
    exact ⟨_, rfl, mO_u (by omega), y2⟩
  | some k =>
    have a1 := sD_some hl
    obtain ⟨y1, h1⟩ := ms_ws h (by omega) hl
    have o1 : mO K (po_u K M 14 (Int32.ofNat (p + 1 + 1))) M := mO_u (by omega)
    rw [y1, Option.bind_some, po_letE]
    dsimp only
    generalize po_u K M 14 (Int32.ofNat (p + 1 + 1)) = K1 at *
    have h1 : mS K1 M w (p + 2) N := h1
    refine mC.of ?_ o1
    cases hx : sD w 48 0 4 (p + 2) with
    | none =>
      obtain ⟨y1, y2⟩ := ms_dn h1 (lo := 0) (hi := 3) hx (by omega) (by omega)
      rw [show m_X8_digit K1 M 0 3 = _ from y1, Option.bind_some, po_letE, if_neg y2.ne, mf_con44 y2]
      exact ⟨_, rfl, mO_u (by omega), y2⟩
    | some ph =>
      have a2 := sD_some hx
      obtain ⟨y1, h2⟩ := ms_ds h1 (lo := 0) (hi := 3) hx (by omega) (by omega)
      have o2 : mO K1 (po_u K1 M 14 (Int32.ofNat (p + 2 + 1))) M := mO_u (by omega)
      rw [show m_X8_digit K1 M 0 3 = _ from y1, Option.bind_some, po_letE, if_pos h2.2.2.1]
      dsimp only
      generalize po_u K1 M 14 (Int32.ofNat (p + 2 + 1)) = K2 at *
      have h2 : mS K2 M w (p + 3) N := h2
      refine mC.of ?_ o2
      have hkk : k < pv N 2 := by omega
      have h45 := (hV.per hkk).2.2.2.2.2.2.2.2.2.2.2.1
      have h45' := h45.2.2
      have r45 : K2 (M + 1) (160 + 46 * k + 45) = Int32.ofNat (pv N (160 + 46 * k + 45)) := (h2.row (by omega)).trans h45.1
      rw [q_cMany (by omega), Option.bind_some, r45]
      have h60 := h2.p60
      by_cases c6 : pv N (160 + 46 * k + 45) = 6
      · have hF := h2.bad (x := p + 3) h60
        rw [if_pos c6, if_pos (show Int32.ofNat (pv N (160 + 46 * k + 45)) = 6 from congrArg Int32.ofNat c6), h2.2.1, ms_fault h2.2.2.1, Option.bind_some, mf_con44 hF]
        exact ⟨_, rfl, mO_u (by omega), hF⟩
      rw [if_neg c6, if_neg (show ¬ Int32.ofNat (pv N (160 + 46 * k + 45)) = 6 from pk_ne (b := 6) (by omega) (by omega) c6)]
      obtain ⟨cm, hcm⟩ : ∃ cm, pv N (160 + 46 * k + 45) = cm := ⟨_, rfl⟩
      rw [hcm] at r45 c6 h45'
      have s1 := ms_sign_ h2 (a := 97) (b := 122) (by omega) (by omega) (by omega)
      unfold m_X8_readCondition_44 m_X8_readCondition_97
      cases hlt : sD w 97 0 26 (p + 3) with
      | none =>
        have hF := h2.bad (x := p + 3) h60
        unfold sD at hlt
        rw [if_neg (fun hh => by rw [if_pos (by omega)] at hlt; cases hlt)] at s1
        rw [show m_X8_sign_ K2 M 97 122 = _ from s1, Option.bind_some, po_letE, mf_must hF, Option.bind_some, if_neg hF.ne]
        exact ⟨_, rfl, mO_u (by omega), hF⟩
      | some l =>
        have a3 := sD_some hlt
        have hp := pch_in (w := w) (p := p + 3) (by omega)
        have h3 : mS (po_u K2 M 14 (Int32.ofNat (p + 3 + 1))) M w (p + 4) N := h2.to (q := p + 4) (by omega)
        have o3 : mO K2 (po_u K2 M 14 (Int32.ofNat (p + 3 + 1))) M := mO_u (by omega)
        rw [if_pos (by omega), show pch w (p + 3) - 97 = l by omega] at s1
        rw [show m_X8_sign_ K2 M 97 122 = _ from s1, Option.bind_some, po_letE, show (97 : Int32) + Int32.ofNat l = Int32.ofNat (97 + l) from pl_add 97 l]
        dsimp only
        generalize po_u K2 M 14 (Int32.ofNat (p + 3 + 1)) = K3 at *
        refine mC.of ?_ o3
        by_cases c59 : pch w (p + 4) = 59
        · obtain ⟨d1, h4⟩ := ms_musts h3 (c := 59) (by omega) (by omega) c59
          have o4 : mO K3 (po_u K3 M 14 (Int32.ofNat (p + 4 + 1))) M := mO_u (by omega)
          rw [if_pos c59, show m_X8_must K3 M 59 = _ from d1, Option.bind_some, if_pos h4.2.2.1]
          generalize po_u K3 M 14 (Int32.ofNat (p + 4 + 1)) = K4 at *
          refine mC.of ?_ o4
          have r4 : K4 (M + 1) (160 + 46 * k + 45) = Int32.ofNat cm := by rw [h4.row (by omega), ← hcm]; exact h45.1
          unfold m_X8_putCondition m_X8_putCondition_e m_X8_putCondition_26
          rw [q_cMany (by omega), Option.bind_some, r4, if_neg (show ¬ (1 : Int32) = 0 by decide), show (29 : Int32) + Int32.ofNat cm = Int32.ofNat (29 + cm) from pl_add 29 cm, show (1000 : Int32) * Int32.ofNat ph = Int32.ofNat (1000 * ph) from pl_mul 1000 ph, show (2 : Int32) * Int32.ofNat (97 + l) = Int32.ofNat (2 * (97 + l)) from pl_mul 2 _, pl_add, show Int32.ofNat (1000 * ph + 2 * (97 + l)) + 1 = Int32.ofNat (1000 * ph + 2 * (97 + l) + 1) from pl_add _ 1, q_set (by omega), Option.bind_some, Option.bind_some, q_cMany (by omega), Option.bind_some, show (po_u K4 (M + 1) (160 + 46 * k + (29 + cm)) (Int32.ofNat (1000 * ph + 2 * (97 + l) + 1))) (M + 1) (160 + 46 * k + 45) = Int32.ofNat cm by rw [po_uu, if_neg (by omega)]; exact r4, show Int32.ofNat cm + 1 = Int32.ofNat (cm + 1) from pl_add cm 1, show m_X8_set (po_u K4 (M + 1) (160 + 46 * k + (29 + cm)) (Int32.ofNat (1000 * ph + 2 * (97 + l) + 1))) M (Int32.ofNat k) 45 (Int32.ofNat (cm + 1)) = _ from q_set (j := 45) (by omega), Option.bind_some]
          refine ⟨_, rfl, mO_r fun q hq => by rw [po_u_ne hq, po_u_ne hq], h4.mvr (fun q hq => by rw [po_u_ne hq, po_u_ne hq]) fun j hj => ?_⟩
          unfold pConN
          rw [hcm]
          by_cases c1 : j = 160 + 46 * k + 29 + cm
          · rw [if_pos c1, c1, po_uu, if_neg (by omega), show 160 + 46 * k + (29 + cm) = 160 + 46 * k + 29 + cm by omega, po_uaa]
          by_cases c2 : j = 160 + 46 * k + 45
          · rw [if_neg c1, if_pos c2, c2, po_uaa]
          rw [if_neg c1, if_neg c2, po_uu, if_neg (by omega), po_uu, if_neg (by omega)]
          exact h4.row hj
        · obtain ⟨d1, hF⟩ := ms_mustn h3 (c := 59) (by omega) (by omega) c59
          rw [if_neg c59, show m_X8_must K3 M 59 = _ from d1, Option.bind_some, if_neg hF.ne]
          exact ⟨_, rfl, mO_u (by omega), hF⟩
end QE6
