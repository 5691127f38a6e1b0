/-! THE READER: lots, by the class -/
section QD8
variable {I J K : po_I} {r p p' t k b n C j P : Nat} {w : pW} {N N' : po_N} {st : Nat → Nat}
/-- a town, whatever stands where its next lot comes -/
theorem pTR_exl (hV : pV N) (hT : pTR I t N) (hk : pv N 1 = k) (hk8 : k < 8) (e : ∀ q, t ≤ q → q < t + 91 → (q < t + (5 + 3 * k) ∨ t + (5 + 3 * k) + 3 ≤ q) → J q = I q) : pTR J t N := by
  obtain ⟨g1, g2, g3, g4, g5, g6, g7, g8⟩ := hT
  have h3' := hV.2.2.1.2.2
  have h4' := hV.2.2.2.1.2.2
  have et := e t (by omega) (by omega) (by omega)
  refine ⟨by rw [et]; exact g1, by rw [et]; exact g2, by rw [et]; exact g3, by rw [et]; exact g4, fun j hj => by rw [e (t + 1) (by omega) (by omega) (by omega)]; exact g5 j hj, fun i hi => (g6 i hi).mv fun q q1 q2 => e q (by omega) (by omega) (by omega), fun i hi => (g7 i hi).mv fun q q1 q2 => e q (by omega) (by omega) (by omega), fun i hi j hj => by rw [e _ (by omega) (by omega) (by omega)]; exact g8 i hi j hj⟩
theorem x_lot118 {z f : Nat} {a : pA} (h : rS K r w p) (hk : pv N 1 = k) (hk8 : k < 8) (hr : r + 1 < t) (hC : C = t + (5 + 3 * k)) (kk : ∀ q, q ≠ r → q ≠ C → q ≠ C + 2 → K q = I q) (hV : pV N) (hB : pB N n) (hT : pTR I t N) (hav : pAv a) (hz : z < 4) (hf : f < 4) (c0 : K C 0 = Int32.ofNat z) (c1 : K C 1 = Int32.ofNat f) (hS : pAR K (C + 1) (pAs a)) : xC I r t w (m_X3_readLot_118 K r t C) (if pch w p = 59 then .inr (p + 1, pLotN N z f a) else .inl p) := by
  unfold m_X3_readLot_118
  have t3 : I t 3 = Int32.ofNat k := by rw [← hk]; exact hT.2.1.trans hV.2.1.1
  rw [x_size hS, Option.bind_some, po_hletE, show (po_u K C 3 (Int32.ofNat (ps_n (pAs a)))) t 3 + 1 = Int32.ofNat (k + 1) by rw [po_u_ne (by omega), kk t (by omega) (by omega) (by omega), t3]; exact pl_add k 1, po_hletE]
  obtain ⟨g1, g2, g3, g4, g5⟩ := pLotN_at N z f a
  rw [hk] at g1 g2 g3 g4 g5
  obtain ⟨v1, v2⟩ := pAt_v g1 hav
  have hVN : pV (pLotN N z f a) := pV_lot hV hk hk8 g2 g5 ⟨pvc_of g3 (by omega) (by omega) (by omega), pvc_of g4 (by omega) (by omega) (by omega), v1⟩
  refine xC_end ((h.mv (po_u_ne (by omega)) (po_u_ne (by omega))).mv (po_u_ne (by omega)) (po_u_ne (by omega))) (fun q d1 d2 => (po_u_ne (by omega)).trans ((po_u_ne (by omega)).trans (kk q d1 (by omega) (by omega)))) hr (fun _ => ?_) hVN
  refine pTR_lot hV hT hk hk8 g2 g5 (fun q d1 d2 d3 => by rw [po_u_ne (by omega), po_u_ne (by omega), kk q (by omega) (by omega) (by omega)]) ⟨by rw [po_uu, if_neg (by omega), po_u_ne (by omega), kk t (by omega) (by omega) (by omega)], po_uaa _ _ _ _, by rw [po_uu, if_neg (by omega), po_u_ne (by omega), kk t (by omega) (by omega) (by omega)], by rw [po_uu, if_neg (by omega), po_u_ne (by omega), kk t (by omega) (by omega) (by omega)]⟩ ?_
  rw [← hC]
  refine ⟨by rw [po_u_ne (by omega), po_uu, if_neg (by omega), c0, g3], by rw [po_u_ne (by omega), po_uu, if_neg (by omega), c1, g4], ?_, by rw [po_u_ne (by omega), po_uaa, v2]⟩
  rw [v2]
  exact (hS.mv (po_u_ne (by omega))).mv (po_u_ne (by omega))
theorem x_readLot (h : rS I r w p) (hp : p < w.1) (hr : r + 1 < t) (hV : pV N) (hB : pB N n) (hT : pTR I t N) : xC I r t w (m_X3_readLot I r t) (sLot w N p) := by
  have q1 := hV.2.1
  have q1' := q1.2.2
  have t3 : I t 3 = Int32.ofNat (pv N 1) := hT.2.1.trans q1.1
  unfold m_X3_readLot m_X3_readLot_e sLot
  rw [t3]
  by_cases hk : pv N 1 = 8
  · rw [if_pos hk, if_neg (show ¬ Int32.ofNat (pv N 1) < 8 from mt (pl_lt (b := 8) (by omega) (by omega)).mp (by omega))]
    exact xC_full h fun _ _ _ => rfl
  rw [if_neg hk, if_pos (show Int32.ofNat (pv N 1) < 8 from (pl_lt (b := 8) (by omega) (by omega)).mpr (by omega))]
  have h0 : rS (po_u I r 2 (Int32.ofNat (p + 1))) r w (p + 1) := h.to hp
  have k0 : ∀ q, q ≠ r → (po_u I r 2 (Int32.ofNat (p + 1))) q = I q := fun q hq => po_u_ne hq
  rw [po_hletE, h.2.1, show Int32.ofNat p + 1 = Int32.ofNat (p + 1) from pl_add p 1]
  generalize po_u I r 2 (Int32.ofNat (p + 1)) = K0 at *
  rw [k0 t (by omega), t3, if_pos (pl_inl (by omega) (by omega)), pl_clamp (by omega)]
  obtain ⟨C, hC⟩ : ∃ C, C = t + (5 + 3 * pv N 1) := ⟨_, rfl⟩
  rw [← hC]
  cases hl : sD w 48 0 4 (p + 1) with
  | none =>
    refine xC_none h0 (z := 48) (lo := 0) (m := 4) (most := 3) hl (by omega) (by omega) (hmc (hi := 3) (by omega)) (by omega) fun K1 k1 e1 => ?_
    exact ⟨K1, rfl, fun q d1 d2 => (k1 q d1 (by omega)).trans (k0 q d1), e1⟩
  | some z =>
    have a1 := sD_some hl
    refine xC_some h0 (z := 48) (lo := 0) (m := 4) (most := 3) hl (by omega) (by omega) (by omega) (hmc (hi := 3) (by omega)) (by omega) (by omega) fun K1 h1 k1 c1 _ => ?_
    dsimp only
    have h1 : rS K1 r w (p + 2) := h1
    cases hf : sF w (p + 2) with
    | none =>
      obtain ⟨K2, b1, b2, b3⟩ := x_frn h1 hf
      rw [b1, Option.bind_some, po_hletE, po_uaa, if_pos rfl]
      exact ⟨_, rfl, fun q d1 d2 => (po_u_ne (by omega)).trans ((b2 q d1).trans ((k1 q d1 (by omega)).trans (k0 q d1))), by dsimp only; rw [po_u_ne (by omega)]; exact b3⟩
    | some f =>
      obtain ⟨f4, _, b1, h2⟩ := x_frs h1 hf
      rw [b1, Option.bind_some, po_hletE, po_uaa, if_neg (show ¬ Int32.ofNat f = -1 from (pl_neg1 (by omega)).mp)]
      dsimp only
      have h2' : rS (po_u (po_u K1 r 2 (Int32.ofNat (p + 2 + 1))) C 1 (Int32.ofNat f)) r w (p + 3) := h2.mv (po_u_ne (by omega)) (po_u_ne (by omega))
      have k2 : ∀ q, q ≠ r → q ≠ C → (po_u (po_u K1 r 2 (Int32.ofNat (p + 2 + 1))) C 1 (Int32.ofNat f)) q = I q := fun q d1 d2 => (po_u_ne d2).trans ((po_u_ne d1).trans ((k1 q d1 d2).trans (k0 q d1)))
      have d0 : (po_u (po_u K1 r 2 (Int32.ofNat (p + 2 + 1))) C 1 (Int32.ofNat f)) C 0 = Int32.ofNat z := by rw [po_uu, if_neg (by omega), po_u_ne (by omega)]; exact c1
      have d1 : (po_u (po_u K1 r 2 (Int32.ofNat (p + 2 + 1))) C 1 (Int32.ofNat f)) C 1 = Int32.ofNat f := po_uaa _ _ _ _
      generalize po_u (po_u K1 r 2 (Int32.ofNat (p + 2 + 1))) C 1 (Int32.ofNat f) = K2 at *
      have hA := x_readArea (a := C + 1) h2' (by omega) (by omega)
      unfold xA at hA
      cases ha : sA w (p + 3) with
      | inl e =>
        rw [ha] at hA
        obtain ⟨K3, y1, y2, y3⟩ := hA
        rw [y1, Option.bind_some, if_pos rfl]
        exact ⟨K3, rfl, fun q d1 d2 => (y2 q d1 (by omega)).trans (k2 q d1 (by omega)), y3⟩
      | inr Q =>
        obtain ⟨a, q⟩ := Q
        rw [ha] at hA
        obtain ⟨K3, y1, y2, y3, y4⟩ := hA
        have hav := sA_ok ha
        have hch := pch_le h.2.2.2.2.1 q
        rw [y1, Option.bind_some, if_neg (show ¬ (1 : Int32) = 0 by decide)]
        dsimp only
        rw [x_next y3, Option.bind_some]
        have kk : ∀ q', q' ≠ r → q' ≠ C → q' ≠ C + 2 → K3 q' = I q' := fun q' e1 e2 e3 => (y2 q' e1 (by omega)).trans (k2 q' e1 e2)
        have h118 := x_lot118 (I := I) (n := n) (z := z) (f := f) (a := a) y3 rfl (by omega) hr hC kk hV hB hT hav.1 (by omega) (by omega) (by rw [y2 C (by omega) (by omega)]; exact d0) (by rw [y2 C (by omega) (by omega)]; exact d1) y4
        by_cases e59 : pch w q = 59
        · have hT3 : pTR K3 t N := pTR_exl hV hT rfl (by omega) fun q' e1 e2 e3 => kk q' (by omega) (by omega) (by omega)
          rw [if_pos (show Int32.ofNat (pch w q) = 59 from congrArg Int32.ofNat e59), if_pos e59, x_hasLotCellIn hV hT3 y4, Option.bind_some]
          rw [if_pos e59] at h118
          cases es : psh N (pv N 1) (pAs a) with
          | false => exact h118
          | true => exact xC_full y3 fun q' e1 e2 => kk q' e1 (by omega) (by omega)
        · rw [if_neg (show ¬ Int32.ofNat (pch w q) = 59 from pk_ne (b := 59) (by omega) (by omega) e59), if_neg e59]
          rw [if_neg e59] at h118
          exact h118
end QD8
