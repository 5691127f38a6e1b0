/-! THE READER: conditions, by the class -/
section QD7
variable {I J K : po_I} {r p p' t k b n C j P : Nat} {w : pW} {N N' : po_N} {st : Nat → Nat}
theorem x_addCondition {cm : Nat} {ph l : Int32} (h15 : K P 15 = Int32.ofNat cm) (hc : cm < 6) : ∃ J, m_X2_addCondition K P ph l = some J ∧ (∀ q, q ≠ P → q ≠ P + 3 → q ≠ P + 4 → J q = K q) ∧ (J (P + 3) cm = ph ∧ ∀ j, j ≠ cm → J (P + 3) j = K (P + 3) j) ∧ (J (P + 4) cm = l ∧ ∀ j, j ≠ cm → J (P + 4) j = K (P + 4) j) ∧ J P 16 = K P 16 ||| (1 <<< (Int32.ofNat cm &&& 31)) ∧ J P 15 = Int32.ofNat (cm + 1) ∧ ∀ j, j ≠ 15 → j ≠ 16 → J P j = K P j := by
  refine ⟨po_u (po_u (po_u (po_u K (P + 3) cm ph) (P + 4) cm l) P 16 (K P 16 ||| (1 <<< (Int32.ofNat cm &&& 31)))) P 15 (Int32.ofNat (cm + 1)), ?_, fun q h1 h2 h3 => ?_, ⟨?_, fun j hj => ?_⟩, ⟨?_, fun j hj => ?_⟩, ?_, po_uaa _ _ _ _, fun j h1 h2 => ?_⟩
  · unfold m_X2_addCondition m_X2_addCondition_e m_X2_addCondition_54
    rw [h15, if_neg (show ¬ (6 : Int32) ≤ Int32.ofNat cm from mt (pl_le (a := 6) (by omega) (by omega)).mp (by omega)), if_pos (pl_inl (by omega) (by omega)), pl_clamp (by omega), po_hletE, show (po_u K (P + 3) cm ph) P 15 = Int32.ofNat cm by rw [po_u_ne (by omega)]; exact h15, if_pos (pl_inl (by omega) (by omega)), pl_clamp (by omega), po_hletE, show (po_u (po_u K (P + 3) cm ph) (P + 4) cm l) P = K P by rw [po_u_ne (by omega), po_u_ne (by omega)], h15, po_hletE, show (po_u (po_u (po_u K (P + 3) cm ph) (P + 4) cm l) P 16 (K P 16 ||| (1 <<< (Int32.ofNat cm &&& 31)))) P 15 = Int32.ofNat cm by rw [po_uu, if_neg (by omega), po_u_ne (by omega), po_u_ne (by omega)]; exact h15, show Int32.ofNat cm + 1 = Int32.ofNat (cm + 1) from pl_add cm 1, po_hletE]
  · rw [po_u_ne h1, po_u_ne h1, po_u_ne h3, po_u_ne h2]
  · rw [po_u_ne (by omega), po_u_ne (by omega), po_u_ne (by omega), po_uaa]
  · rw [po_u_ne (by omega), po_u_ne (by omega), po_u_ne (by omega), po_uu, if_neg (by omega)]
  · rw [po_u_ne (by omega), po_u_ne (by omega), po_uaa]
  · rw [po_u_ne (by omega), po_u_ne (by omega), po_uu, if_neg (by omega), po_u_ne (by omega)]
  · rw [po_uu, if_neg (by omega), po_uaa]
  · rw [po_uu, if_neg (by omega), po_uu, if_neg (by omega), po_u_ne (by omega), po_u_ne (by omega)]
theorem pTR_con {ph l cm : Nat} (hV : pV N) (hT : pTR K t N) (hk : k < pv N 2) (hcm : pv N (160 + 46 * k + 45) = cm) (hc : cm < 6) (hph : ph < 4) (hl : l < 123) (hP : P = t + (29 + 5 * k)) (j1 : ∀ q, q ≠ P → q ≠ P + 3 → q ≠ P + 4 → J q = K q) (j2 : J (P + 3) cm = Int32.ofNat ph ∧ ∀ j, j ≠ cm → J (P + 3) j = K (P + 3) j) (j3 : J (P + 4) cm = Int32.ofNat l ∧ ∀ j, j ≠ cm → J (P + 4) j = K (P + 4) j) (j4 : J P 16 = K P 16 ||| (1 <<< (Int32.ofNat cm &&& 31))) (j5 : J P 15 = Int32.ofNat (cm + 1)) (j6 : ∀ j, j ≠ 15 → j ≠ 16 → J P j = K P j) : pTR J t (pConN N k ph l) := by
  obtain ⟨c1, c2, c3⟩ := pConN_at N k ph l (by omega)
  have hper := hT.per hk
  rw [hcm] at c1 c2 c3
  have h3' := hV.2.2.1.2.2
  generalize pConN N k ph l = N' at *
  refine pTR_per hV hT hk (fun j hj => c3 j (by omega) (by omega)) (fun q q1 q2 q3 => j1 q (by omega) (by omega) (by omega)) ?_
  rw [← hP] at hper ⊢
  have ea : pa_in N' (160 + 46 * k) = pa_in N (160 + 46 * k) := pg_ain (fun i hi => c3 _ (by omega) (by omega))
  obtain ⟨g0, g1, g2, g3, g4, g5, g6, g7, g8, g9, g10, g11, g12, g13, g14, g15, g16⟩ := hper
  unfold pTP
  rw [j6 0 (by omega) (by omega), j6 1 (by omega) (by omega), j6 2 (by omega) (by omega), j6 3 (by omega) (by omega), j6 5 (by omega) (by omega), j6 6 (by omega) (by omega), j6 7 (by omega) (by omega), j6 8 (by omega) (by omega), j6 9 (by omega) (by omega), j6 10 (by omega) (by omega), j6 11 (by omega) (by omega), j6 12 (by omega) (by omega), j6 13 (by omega) (by omega), j6 14 (by omega) (by omega), c3 (160 + 46 * k) (by omega) (by omega), c3 (160 + 46 * k + 1) (by omega) (by omega), c3 (160 + 46 * k + 17) (by omega) (by omega), c3 (160 + 46 * k + 18) (by omega) (by omega), c3 (160 + 46 * k + 19) (by omega) (by omega), c3 (160 + 46 * k + 27) (by omega) (by omega), c3 (160 + 46 * k + 20) (by omega) (by omega), c3 (160 + 46 * k + 21) (by omega) (by omega), c3 (160 + 46 * k + 22) (by omega) (by omega), c3 (160 + 46 * k + 23) (by omega) (by omega), c3 (160 + 46 * k + 24) (by omega) (by omega), c3 (160 + 46 * k + 25) (by omega) (by omega), c3 (160 + 46 * k + 26) (by omega) (by omega), ea]
  refine ⟨g0, g1, g2, g3, g4.mv (j1 _ (by omega) (by omega) (by omega)), g5, g6, g7, g8, g9, g10, g11, g12, g13, g14, by rw [j5, c2], fun i hi => ?_⟩
  have gi := g16 i hi
  rw [hcm] at gi
  rw [pvv_of c2 (by omega), j4, bt_or, bt_one (by omega) hi]
  refine ⟨fun hlt => ?_, fun hge => ?_⟩
  · by_cases e : i = cm
    · have ev : pv N' (160 + 46 * k + 29 + i) = 1000 * ph + 2 * l + 1 := by rw [e]; exact pvv_of c1 (by omega)
      rw [ev, e, j2.1, j3.1, decide_eq_true (p := cm = cm) rfl, Bool.or_true, decide_eq_true (p := (1000 * ph + 2 * l + 1) % 2 = 1) (by omega)]
      exact ⟨rfl, congrArg Int32.ofNat (by omega), congrArg Int32.ofNat (by omega)⟩
    · rw [decide_eq_false e, Bool.or_false, j2.2 i e, j3.2 i e, pg_vv (c3 (160 + 46 * k + 29 + i) (by omega) (by omega))]
      exact gi.1 (by omega)
  · rw [decide_eq_false (p := i = cm) (by omega), Bool.or_false]
    exact gi.2 (by omega)
theorem x_readCondition (h : rS I r w p) (hp : p < w.1) (hr : r + 1 < t) (hV : pV N) (hB : pB N n) (hT : pTR I t N) : xC I r t w (m_X3_readCondition I r t) (sCon w N p) := by
  have q2 := hV.2.2.1
  have q2' := q2.2.2
  have t5 : I t 5 = Int32.ofNat (pv N 2) := hT.2.2.1.trans q2.1
  unfold m_X3_readCondition m_X3_readCondition_e sCon
  have h0 : rS (po_u I r 2 (Int32.ofNat (p + 1))) r w (p + 1) := h.to hp
  have k0 : ∀ q, q ≠ r → (po_u I r 2 (Int32.ofNat (p + 1))) q = I q := fun q hq => po_u_ne hq
  rw [po_hletE, h.2.1, show Int32.ofNat p + 1 = Int32.ofNat (p + 1) from pl_add p 1]
  generalize po_u I r 2 (Int32.ofNat (p + 1)) = K0 at *
  rw [k0 t (by omega), t5]
  cases hk : sD w 48 0 (pv N 2) (p + 1) with
  | none =>
    refine xV_none h0 (z := 48) (lo := 0) hk (by omega) (by omega) (hm1 (by omega)) fun K1 k1 e1 => ?_
    exact ⟨K1, rfl, fun q d1 _ => (k1 q d1).trans (k0 q d1), e1⟩
  | some k =>
    refine xV_some h0 (z := 48) (lo := 0) hk (by omega) (by omega) (by omega) (hm1 (by omega)) fun K1 h1 k1 => ?_
    have a1 := sD_some hk
    dsimp only
    cases hy : sD w 48 0 4 (p + 2) with
    | none =>
      refine xV_none h1 (z := 48) (lo := 0) (m := 4) (most := 3) hy (by omega) (by omega) (hmc (hi := 3) (by omega)) fun K2 k2 e2 => ?_
      exact ⟨K2, rfl, fun q d1 _ => (k2 q d1).trans ((k1 q d1).trans (k0 q d1)), e2⟩
    | some ph =>
      refine xV_some h1 (z := 48) (lo := 0) (m := 4) (most := 3) hy (by omega) (by omega) (by omega) (hmc (hi := 3) (by omega)) fun K2 h2 k2 => ?_
      have a2 := sD_some hy
      have kk : ∀ q, q ≠ r → K2 q = I q := fun q d1 => (k2 q d1).trans ((k1 q d1).trans (k0 q d1))
      have hkk : k < pv N 2 := by omega
      have h45 := (hV.per hkk).2.2.2.2.2.2.2.2.2.2.2.1
      have h45' := h45.2.2
      have hT2 : pTR K2 t N := hT.mv hV fun q d1 d2 => kk q (by omega)
      have t15 : K2 (t + (29 + 5 * k)) 15 = Int32.ofNat (pv N (160 + 46 * k + 45)) := (hT2.per hkk).con.trans h45.1
      have hch := pch_le h.2.2.2.2.1 (p + 3)
      obtain ⟨cm, hcm⟩ : ∃ cm, pv N (160 + 46 * k + 45) = cm := ⟨_, rfl⟩
      rw [hcm] at t15 h45'
      have h2 : rS K2 r w (p + 3) := h2
      dsimp only
      rw [if_pos (pl_inl (by omega) (by omega)), pl_clamp (by omega), x_next h2, Option.bind_some, hcm]
      have f85 : ∀ s : Nat ⊕ (Nat × po_N), s = .inl (p + 3) → xC I r t w (m_X3_readCondition_85 K2 r) s := by
        rintro s rfl
        unfold m_X3_readCondition_85
        exact xC_full h2 fun q d1 _ => kk q d1
      by_cases h6 : cm = 6
      · rw [if_pos h6, if_pos (show (6 : Int32) ≤ K2 (t + (29 + 5 * k)) 15 by rw [t15]; exact (pl_le (a := 6) (by omega) (by omega)).mpr (by omega))]
        exact f85 _ rfl
      rw [if_neg h6, if_neg (show ¬ (6 : Int32) ≤ K2 (t + (29 + 5 * k)) 15 by rw [t15]; exact mt (pl_le (a := 6) (by omega) (by omega)).mp (by omega))]
      cases hl : sD w 97 0 26 (p + 3) with
      | none =>
        unfold sD at hl
        by_cases e1 : pch w (p + 3) < 97
        · rw [if_pos (show Int32.ofNat (pch w (p + 3)) < (97 : Int32) from (pl_lt (b := 97) (by omega) (by omega)).mpr e1)]
          exact f85 _ rfl
        · rw [if_neg (show ¬ Int32.ofNat (pch w (p + 3)) < (97 : Int32) from mt (pl_lt (b := 97) (by omega) (by omega)).mp e1)]
          by_cases e2 : pch w (p + 3) ≤ 122
          · rw [if_pos (by omega)] at hl; cases hl
          · rw [if_neg (show ¬ Int32.ofNat (pch w (p + 3)) ≤ (122 : Int32) from mt (pl_le (b := 122) (by omega) (by omega)).mp e2)]
            exact f85 _ rfl
      | some l =>
        have a3 := sD_some hl
        have hp3 := pch_in (w := w) (p := p + 3) (by omega)
        rw [if_neg (show ¬ Int32.ofNat (pch w (p + 3)) < (97 : Int32) from mt (pl_lt (b := 97) (by omega) (by omega)).mp (by omega)), if_pos (show Int32.ofNat (pch w (p + 3)) ≤ (122 : Int32) from (pl_le (b := 122) (by omega) (by omega)).mpr (by omega)), po_hletE, h2.2.1, show Int32.ofNat (p + 3) + 1 = Int32.ofNat (p + 4) from pl_add (p + 3) 1, a3.2.2]
        have h3 : rS (po_u K2 r 2 (Int32.ofNat (p + 4))) r w (p + 4) := h2.to (q := p + 4) (by omega)
        have k3 : ∀ q, q ≠ r → (po_u K2 r 2 (Int32.ofNat (p + 4))) q = K2 q := fun q d1 => po_u_ne d1
        generalize po_u K2 r 2 (Int32.ofNat (p + 4)) = K3 at *
        have hT3 : pTR K3 t N := hT2.mv hV fun q d1 d2 => k3 q (by omega)
        obtain ⟨P, hP⟩ : ∃ P, P = t + (29 + 5 * k) := ⟨_, rfl⟩
        rw [← hP] at t15 ⊢
        obtain ⟨J, y1, y2, y3, y4, y5, y6, y7⟩ := x_addCondition (K := K3) (P := P) (cm := cm) (ph := Int32.ofNat ph) (l := Int32.ofNat (97 + l)) (by rw [k3 P (by omega)]; exact t15) (by omega)
        rw [y1, Option.bind_some]
        exact xC_end (h3.mv (y2 _ (by omega) (by omega) (by omega)) (y2 _ (by omega) (by omega) (by omega))) (fun q d1 d2 => (y2 q (by omega) (by omega) (by omega)).trans ((k3 q d1).trans (kk q d1))) hr (fun _ => pTR_con hV hT3 hkk hcm (by omega) (by omega) (by omega) hP y2 y3 y4 y5 y6 y7) (pCon_ok hV hB hkk (by omega) (by omega) (by omega)).1
end QD7
