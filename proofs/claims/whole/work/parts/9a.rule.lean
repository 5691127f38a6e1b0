/-! THE READER: rules, variances and conditions, by the class -/
section QD6
variable {I J K : po_I} {r p p' t k b n C j : Nat} {w : pW} {N N' : po_N} {st : Nat → Nat}
theorem x_setRule {z y v : Nat} (hz : z < 4) (hy : y < 7) : m_X5_setRule K t (Int32.ofNat z) (Int32.ofNat y) (Int32.ofNat v) = some (po_u K (t + 1) (7 * z + y) (Int32.ofNat v)) := by
  unfold m_X5_setRule m_X5_setRule_e m_X5_setRule_28
  rw [pk_7, pl_mul, pl_add, po_letE, if_neg (mt (pl_not0 (by omega)).mp id), if_neg (show ¬ (28 : Int32) ≤ Int32.ofNat (z * 7 + y) from mt (pl_le (a := 28) (by omega) (by omega)).mp (by omega)), if_pos (pl_inl (by omega) (by omega)), pl_clamp (by omega), po_hletE, Nat.mul_comm]
theorem pTR_rul {z y : Nat} {v : Int32} (hz : z < 4) (hy : y < 7) (hV : pV N) (hT : pTR K t N) : pTR (po_u K (t + 1) (7 * z + y) v) t (pup1 N (4 + 7 * z + y) v) := by
  have nn : ∀ j, j ≠ 4 + 7 * z + y → pup1 N (4 + 7 * z + y) v j = N j := fun j hj => pup1_ne hj
  have h2' := hV.2.1.2.2
  have h3' := hV.2.2.1.2.2
  have h4' := hV.2.2.2.1.2.2
  have h7 := hV.2.2.2.2.2.2.1
  obtain ⟨g1, g2, g3, g4, g5, g6, g7, g8⟩ := hT
  have et : (po_u K (t + 1) (7 * z + y) v) t = K t := po_u_ne (by omega)
  refine ⟨by rw [et, nn 0 (by omega)]; exact g1, by rw [et, nn 1 (by omega)]; exact g2, by rw [et, nn 2 (by omega)]; exact g3, by rw [et, nn 3 (by omega)]; exact g4, fun j hj => ?_, ?_, ?_, ?_⟩
  · by_cases e : j = 7 * z + y
    · rw [e, po_uaa, show 4 + (7 * z + y) = 4 + 7 * z + y by omega]; exact pup1_eq.symm
    · rw [po_uu, if_neg (by omega), nn _ (by omega)]; exact g5 j hj
  · rw [pg_vv (nn 1 (by omega))]
    exact fun i hi => pg_TL (fun j hj => nn _ (by omega)) ((g6 i hi).mv (fun q q1 q2 => po_u_ne (by omega)))
  · rw [pg_vv (nn 2 (by omega))]
    exact fun i hi => pg_TP (fun j hj => nn _ (by omega)) (h7 i hi).2.2.2.2.2.2.2.2.2.2.2.1.2.2 ((g7 i hi).mv (fun q q1 q2 => po_u_ne (by omega)))
  · rw [pg_vv (nn 3 (by omega))]
    exact fun i hi j hj => by rw [po_u_ne (by omega), nn _ (by omega)]; exact g8 i hi j hj
theorem pGr_le (y : Nat) : pGr y ≤ 99 := by unfold pGr; split; omega; split <;> omega
theorem pLe_le (y : Nat) : pLe y ≤ 1 := by unfold pLe; split <;> omega
theorem x_readRule (h : rS I r w p) (hp : p < w.1) (hr : r + 1 < t) (hst : pSt I st) (hs1 : st 1 < r) (hs2 : st 2 < r) (hV : pV N) (hB : pB N n) (hT : pTR I t N) : xC I r t w (m_X3_readRule st I r t) (sRul w N p) := by
  unfold m_X3_readRule m_X3_readRule_e sRul
  have h0 : rS (po_u I r 2 (Int32.ofNat (p + 1))) r w (p + 1) := h.to hp
  have k0 : ∀ q, q ≠ r → (po_u I r 2 (Int32.ofNat (p + 1))) q = I q := fun q hq => po_u_ne hq
  rw [po_hletE, h.2.1, show Int32.ofNat p + 1 = Int32.ofNat (p + 1) from pl_add p 1]
  generalize po_u I r 2 (Int32.ofNat (p + 1)) = K0 at *
  cases hz : sD w 48 0 4 (p + 1) with
  | none =>
    refine xV_none h0 (z := 48) (lo := 0) (m := 4) (most := 3) hz (by omega) (by omega) (hmc (hi := 3) (by omega)) fun K1 k1 e1 => ?_
    exact ⟨K1, rfl, fun q q1 _ => (k1 q q1).trans (k0 q q1), e1⟩
  | some z =>
    refine xV_some h0 (z := 48) (lo := 0) (m := 4) (most := 3) hz (by omega) (by omega) (by omega) (hmc (hi := 3) (by omega)) fun K1 h1 k1 => ?_
    have a1 := sD_some hz
    dsimp only
    cases hy : sD w 48 0 7 (p + 2) with
    | none =>
      refine xV_none h1 (z := 48) (lo := 0) (m := 7) (most := 6) hy (by omega) (by omega) (hmc (hi := 6) (by omega)) fun K2 k2 e2 => ?_
      exact ⟨K2, rfl, fun q q1 _ => (k2 q q1).trans ((k1 q q1).trans (k0 q q1)), e2⟩
    | some y =>
      refine xV_some h1 (z := 48) (lo := 0) (m := 7) (most := 6) hy (by omega) (by omega) (by omega) (hmc (hi := 6) (by omega)) fun K2 h2 k2 => ?_
      have a2 := sD_some hy
      have kk : ∀ q, q ≠ r → K2 q = I q := fun q q1 => (k2 q q1).trans ((k1 q q1).trans (k0 q q1))
      have u1 : K2 (st 1) y = Int32.ofNat (pLe y) := by rw [kk _ (by omega)]; exact (hst y (by omega)).1
      have u2 : K2 (st 2) y = Int32.ofNat (pGr y) := by rw [kk _ (by omega)]; exact (hst y (by omega)).2
      have v1 := pLe_le y
      have v2 := pGr_le y
      dsimp only
      rw [if_pos (pl_inl (by omega) (by omega)), if_pos (pl_inl (by omega) (by omega)), pl_clamp (by omega), u1, u2]
      cases hv : sNum w (pLe y) (pGr y) (p + 3) with
      | inl e =>
        obtain ⟨K3, b1, b2, b3⟩ := x_rnn h2 hv (by omega) (by omega)
        rw [b1, Option.bind_some, po_letE, if_pos rfl]
        exact ⟨K3, rfl, fun q q1 _ => (b2 q q1).trans (kk q q1), b3⟩
      | inr Q =>
        obtain ⟨v, q⟩ := Q
        obtain ⟨b1, h3⟩ := x_rns h2 hv (by omega) (by omega)
        have a3 := sNum_ok hv
        rw [b1, Option.bind_some, po_letE, if_neg (show ¬ Int32.ofNat v = -1 from (pl_neg1 (by omega)).mp)]
        dsimp only
        have k3 : ∀ q', q' ≠ r → (po_u K2 r 2 (Int32.ofNat q)) q' = I q' := fun q' h' => (po_u_ne h').trans (kk q' h')
        generalize po_u K2 r 2 (Int32.ofNat q) = K3 at *
        rw [x_setRule (by omega) (by omega), Option.bind_some]
        exact xC_end (h3.mv (po_u_ne (by omega)) (po_u_ne (by omega))) (fun q' q1 q2 => (po_u_ne (by omega)).trans (k3 q' q1)) hr (fun _ => pTR_rul (by omega) (by omega) hV (hT.mv hV fun q' q1 q2 => k3 q' (by omega))) (pRul_ok hV hB (by omega) (by omega) (by omega) (by omega)).1
theorem x_readVariance (h : rS I r w p) (hp : p < w.1) (hr : r + 1 < t) (hV : pV N) (hB : pB N n) (hT : pTR I t N) : xC I r t w (m_X3_readVariance I r t) (sVar w N p) := by
  have q0 := hV.1
  have q1 := hV.2.1
  have q3 := hV.2.2.2.1
  have q0' := q0.2.2
  have q1' := q1.2.2
  have q3' := q3.2.2
  have t0 : I t 0 = Int32.ofNat (pv N 0) := hT.1.trans q0.1
  have t3 : I t 3 = Int32.ofNat (pv N 1) := hT.2.1.trans q1.1
  have t7 : I t 7 = Int32.ofNat (pv N 3) := hT.2.2.2.1.trans q3.1
  unfold m_X3_readVariance m_X3_readVariance_e sVar
  rw [t7]
  by_cases hk : pv N 3 = 12
  · rw [if_pos hk, if_neg (show ¬ Int32.ofNat (pv N 3) < 12 from mt (pl_lt (b := 12) (by omega) (by omega)).mp (by omega))]
    exact xC_full h fun _ _ _ => rfl
  rw [if_neg hk, if_pos (show Int32.ofNat (pv N 3) < 12 from (pl_lt (b := 12) (by omega) (by omega)).mpr (by omega))]
  have h0 : rS (po_u I r 2 (Int32.ofNat (p + 1))) r w (p + 1) := h.to hp
  have k0 : ∀ q, q ≠ r → (po_u I r 2 (Int32.ofNat (p + 1))) q = I q := fun q hq => po_u_ne hq
  rw [po_hletE, h.2.1, show Int32.ofNat p + 1 = Int32.ofNat (p + 1) from pl_add p 1]
  generalize po_u I r 2 (Int32.ofNat (p + 1)) = K0 at *
  rw [k0 t (by omega), t7, if_pos (pl_inl (by omega) (by omega)), pl_clamp (by omega), t3]
  obtain ⟨C, hC⟩ : ∃ C, C = t + (79 + pv N 3) := ⟨_, rfl⟩
  rw [← hC]
  cases hl : sD w 48 0 (pv N 1) (p + 1) with
  | none =>
    refine xC_none h0 (z := 48) (lo := 0) hl (by omega) (by omega) (hm1 (by omega)) (by omega) fun K1 k1 e1 => ?_
    exact ⟨K1, rfl, fun q d1 d2 => (k1 q d1 (by omega)).trans (k0 q d1), e1⟩
  | some l =>
    have a1 := sD_some hl
    refine xC_some h0 (z := 48) (lo := 0) hl (by omega) (by omega) (by omega) (hm1 (by omega)) (by omega) (by omega) fun K1 h1 k1 c1 _ => ?_
    dsimp only
    cases hx : sD w 48 2 9 (p + 2) with
    | none =>
      refine xC_none h1 (z := 48) (lo := 2) (m := 9) (most := 8) hx (by omega) (by omega) (hmc (hi := 8) (by omega)) (by omega) fun K2 k2 e2 => ?_
      exact ⟨K2, rfl, fun q d1 d2 => (k2 q d1 (by omega)).trans ((k1 q d1 (by omega)).trans (k0 q d1)), e2⟩
    | some x =>
      have a2 := sD_some hx
      refine xC_some h1 (z := 48) (lo := 2) (m := 9) (most := 8) hx (by omega) (by omega) (by omega) (hmc (hi := 8) (by omega)) (by omega) (by omega) fun K2 h2 k2 c2 o2 => ?_
      have kk : ∀ q, q ≠ r → q ≠ C → K2 q = I q := fun q d1 d2 => (k2 q d1 d2).trans ((k1 q d1 d2).trans (k0 q d1))
      have c1' : K2 C 0 = Int32.ofNat l := (o2 0 (by omega)).trans c1
      dsimp only
      cases hv : sNum w 1 99 (p + 3) with
      | inl e =>
        obtain ⟨K3, b1, b2, b3⟩ := x_rnn h2 hv (by omega) (by omega)
        rw [show m_X3_readNumber K2 r 1 99 = _ from b1, Option.bind_some, po_hletE, po_uaa, if_pos rfl]
        exact ⟨_, rfl, fun q d1 d2 => (po_u_ne (by omega)).trans ((b2 q d1).trans (kk q d1 (by omega))), by dsimp only; rw [po_u_ne (by omega)]; exact b3⟩
      | inr Q =>
        obtain ⟨am, q⟩ := Q
        obtain ⟨b1, h3⟩ := x_rns h2 hv (by omega) (by omega)
        have a3 := sNum_ok hv
        rw [show m_X3_readNumber K2 r 1 99 = _ from b1, Option.bind_some, po_hletE, po_uaa, if_neg (show ¬ Int32.ofNat am = -1 from (pl_neg1 (by omega)).mp)]
        dsimp only
        have k3 : ∀ q', q' ≠ r → q' ≠ C → (po_u (po_u K2 r 2 (Int32.ofNat q)) C 2 (Int32.ofNat am)) q' = I q' := fun q' d1 d2 => (po_u_ne d2).trans ((po_u_ne d1).trans (kk q' d1 d2))
        have h3' : rS (po_u (po_u K2 r 2 (Int32.ofNat q)) C 2 (Int32.ofNat am)) r w q := h3.mv (po_u_ne (by omega)) (po_u_ne (by omega))
        have d0 : (po_u (po_u K2 r 2 (Int32.ofNat q)) C 2 (Int32.ofNat am)) C 0 = Int32.ofNat l := by rw [po_uu, if_neg (by omega), po_u_ne (by omega)]; exact c1'
        have d1 : (po_u (po_u K2 r 2 (Int32.ofNat q)) C 2 (Int32.ofNat am)) C 1 = Int32.ofNat x := by rw [po_uu, if_neg (by omega), po_u_ne (by omega)]; exact c2
        have d2 : (po_u (po_u K2 r 2 (Int32.ofNat q)) C 2 (Int32.ofNat am)) C 2 = Int32.ofNat am := po_uaa _ _ _ _
        generalize po_u (po_u K2 r 2 (Int32.ofNat q)) C 2 (Int32.ofNat am) = K3 at *
        have b4 := x_readSign h3' (c := 44) (by omega) (by omega)
        by_cases e44 : pch w q = 44
        · have hq := pch_in (w := w) (p := q) (by omega)
          rw [if_pos e44] at b4
          rw [if_pos e44, show m_X3_readSign K3 r 44 = _ from b4, Option.bind_some, if_neg (show ¬ (1 : Int32) = 0 by decide)]
          dsimp only
          have h4 : rS (po_u K3 r 2 (Int32.ofNat (q + 1))) r w (q + 1) := h3'.to (by omega)
          have k4 : ∀ q', q' ≠ r → (po_u K3 r 2 (Int32.ofNat (q + 1))) q' = K3 q' := fun q' d1 => po_u_ne d1
          generalize po_u K3 r 2 (Int32.ofNat (q + 1)) = K4 at *
          cases hd : sNum w 0 99 (q + 1) with
          | inl e =>
            obtain ⟨K5, f1, f2, f3⟩ := x_rnn h4 hd (by omega) (by omega)
            rw [show m_X3_readNumber K4 r 0 99 = _ from f1, Option.bind_some, po_letE, if_pos rfl]
            exact ⟨_, rfl, fun q' d1 d2 => (f2 q' d1).trans ((k4 q' d1).trans (k3 q' d1 (by omega))), f3⟩
          | inr Q =>
            obtain ⟨dd, q2⟩ := Q
            obtain ⟨f1, h5⟩ := x_rns h4 hd (by omega) (by omega)
            have a4 := sNum_ok hd
            rw [show m_X3_readNumber K4 r 0 99 = _ from f1, Option.bind_some, po_letE, if_neg (show ¬ Int32.ofNat dd = -1 from (pl_neg1 (by omega)).mp)]
            dsimp only
            have k5 : ∀ q', q' ≠ r → (po_u K4 r 2 (Int32.ofNat q2)) q' = K3 q' := fun q' d1 => (po_u_ne d1).trans (k4 q' d1)
            generalize po_u K4 r 2 (Int32.ofNat q2) = K5 at *
            have e0 : K5 t 0 + Int32.ofNat dd = Int32.ofNat (pv N 0 + dd) := by rw [k5 t (by omega), k3 t (by omega) (by omega), t0, pl_add]
            have e7 : (po_u K5 C 3 (Int32.ofNat (pv N 0 + dd))) t 7 + 1 = Int32.ofNat (pv N 3 + 1) := by rw [po_u_ne (by omega), k5 t (by omega), k3 t (by omega) (by omega), t7]; exact pl_add _ 1
            rw [po_hletE, e0, po_hletE, e7]
            obtain ⟨g1, g2, g3, g4, g5, g6⟩ := pVarN_at N l x am dd
            have hVN : pV (pVarN N l x am dd) := pV_var hV rfl (by omega) g1 g2 ⟨pvc_of g3 (by omega) (by omega) (by omega), pvc_of g4 (by omega) (by omega) (by omega), pvc_of g5 (by omega) (by omega) (by omega), pvc_of g6 (by omega) (by omega) (by omega)⟩
            refine xC_end ((h5.mv (po_u_ne (by omega)) (po_u_ne (by omega))).mv (po_u_ne (by omega)) (po_u_ne (by omega))) (fun q' d1 d2 => (po_u_ne (by omega)).trans ((po_u_ne (by omega)).trans ((k5 q' d1).trans (k3 q' d1 (by omega))))) hr (fun _ => ?_) hVN
            have kt : ∀ q', q' ≠ r → q' ≠ C → K5 q' = I q' := fun q' d1 d2 => (k5 q' d1).trans (k3 q' d1 d2)
            refine pTR_var hV hT rfl (by omega) g1 g2 (fun q' d1 d2 d3 => by rw [po_u_ne (by omega), po_u_ne (by omega), kt q' (by omega) (by omega)]) ⟨by rw [po_uu, if_neg (by omega), po_u_ne (by omega), kt t (by omega) (by omega)], by rw [po_uu, if_neg (by omega), po_u_ne (by omega), kt t (by omega) (by omega)], by rw [po_uu, if_neg (by omega), po_u_ne (by omega), kt t (by omega) (by omega)], po_uaa _ _ _ _⟩ fun j hj => ?_
            rw [← hC, po_u_ne (by omega)]
            have hj4 : j = 0 ∨ j = 1 ∨ j = 2 ∨ j = 3 := by omega
            rcases hj4 with rfl | rfl | rfl | rfl
            · rw [po_uu, if_neg (by omega), k5 C (by omega), d0]; exact g3.symm
            · rw [po_uu, if_neg (by omega), k5 C (by omega), d1]; exact g4.symm
            · rw [po_uu, if_neg (by omega), k5 C (by omega), d2]; exact g5.symm
            · rw [po_uaa]; exact g6.symm
        · rw [if_neg e44] at b4
          rw [if_neg e44, show m_X3_readSign K3 r 44 = _ from b4, Option.bind_some, if_pos rfl]
          exact ⟨_, rfl, fun q' d1 d2 => (po_u_ne d1).trans (k3 q' d1 (by omega)), po_uaa _ _ _ _⟩
end QD6
