/-! THE READER: permits, by the class -/
section QD9
variable {I J K : po_I} {r p p' t k b n C j P : Nat} {w : pW} {N N' : po_N} {st : Nat → Nat}
theorem x_permitClear (K : po_I) (P : Nat) : ∃ J, m_X2_clear K P = some J ∧ (∀ q, q ≠ P → q ≠ P + 2 → J q = K q) ∧ J P 6 = 0 ∧ J P 7 = -1 ∧ J P 8 = 0 ∧ J P 9 = 0 ∧ J P 11 = 0 ∧ J P 12 = 0 ∧ J P 14 = 0 ∧ J P 15 = 0 ∧ J P 16 = 0 := by
  obtain ⟨L, y1, y2, y3⟩ := x_clear (I := po_u (po_u (po_u (po_u K P 0 0) P 1 0) P 2 0) P 3 0) (a := P + 1)
  have e : m_X2_clear K P = some (po_u (po_u (po_u (po_u (po_u (po_u (po_u (po_u (po_u (po_u (po_u (po_u L P 5 0) P 6 0) P 7 (-1)) P 8 0) P 9 0) P 10 (-1)) P 11 0) P 12 0) P 13 0) P 14 0) P 15 0) P 16 0) := by
    unfold m_X2_clear m_X2_clear_e
    rw [po_hletE, po_hletE, po_hletE, po_hletE, y1, Option.bind_some, po_hletE, po_hletE, po_hletE, po_hletE, po_hletE, po_hletE, po_hletE, po_hletE, po_hletE, po_hletE, po_hletE, po_hletE]
  refine ⟨_, e, fun q h1 h2 => ?_, ?_, ?_, ?_, ?_, ?_, ?_, ?_, ?_, ?_⟩
  · rw [po_u_ne h1, po_u_ne h1, po_u_ne h1, po_u_ne h1, po_u_ne h1, po_u_ne h1, po_u_ne h1, po_u_ne h1, po_u_ne h1, po_u_ne h1, po_u_ne h1, po_u_ne h1, y2 q h2, po_u_ne h1, po_u_ne h1, po_u_ne h1, po_u_ne h1]
  all_goals (simp only [po_uu]; simp)
theorem pPrm_ok {l u f g : Nat} {a : pA} {c : Nat} (hV : pV N) (hk : pv N 2 < 10) (hl : l < pv N 1) (hu : u < 6) (hf : 1 ≤ f ∧ f < 10) (hg : g < 10) (ha : pAv a) : pV (pPrmN N l u f g a c) := by
  have h1' := hV.2.1.2.2
  obtain ⟨c1, c2, c3, c4, c5, c6, c7, c8, c9, c10, c11⟩ := pPrmN_at N l u f g a c
  generalize pPrmN N l u f g a c = N' at *
  have z0 : ∀ j, j < 46 → 15 ≤ j → j ≠ 17 → j ≠ 18 → j ≠ 22 → j ≠ 25 → j ≠ 27 → pv N' (160 + 46 * pv N 2 + j) = 0 := fun j e1 e2 e3 e4 e5 e6 e7 => pvv_of (x := 0) (c11 j e1 e2 e3 e4 e5 e6 e7) (by omega)
  have zc : ∀ j hi, j < 46 → 15 ≤ j → j ≠ 17 → j ≠ 18 → j ≠ 22 → j ≠ 25 → j ≠ 27 → pv_c N' (160 + 46 * pv N 2 + j) 0 hi := fun j hi e1 e2 e3 e4 e5 e6 e7 => pvc_of (x := 0) (c11 j e1 e2 e3 e4 e5 e6 e7) (by omega) (by omega) (by omega)
  refine pV_prm hV rfl (by omega) c2 c3 ?_
  refine ⟨pvc_of c4 (by omega) (by omega) (by omega), ?_, pvc_of c5 (by omega) (by omega) (by omega), (pAt_v c1 ha).1, pvc_of c6 (by omega) (by omega) (by omega), pvc_of c7 (by omega) (by omega) (by omega), zc 19 6 (by omega) (by omega) (by omega) (by omega) (by omega) (by omega) (by omega), zc 20 4 (by omega) (by omega) (by omega) (by omega) (by omega) (by omega) (by omega), zc 21 3 (by omega) (by omega) (by omega) (by omega) (by omega) (by omega) (by omega), zc 23 1 (by omega) (by omega) (by omega) (by omega) (by omega) (by omega) (by omega), zc 24 4095 (by omega) (by omega) (by omega) (by omega) (by omega) (by omega) (by omega), zc 45 6 (by omega) (by omega) (by omega) (by omega) (by omega) (by omega) (by omega), ?_, ?_, ?_⟩
  · rw [pvv_of c4 (by omega), pg_vv (c3 1 (by omega) (by omega))]; omega
  · rw [z0 19 (by omega) (by omega) (by omega) (by omega) (by omega) (by omega) (by omega)]; intro e; omega
  · rw [z0 19 (by omega) (by omega) (by omega) (by omega) (by omega) (by omega) (by omega)]; intro e; omega
  · rw [z0 45 (by omega) (by omega) (by omega) (by omega) (by omega) (by omega) (by omega)]; intro i e; omega
theorem x_readPermit (h : rS I r w p) (hp : p < w.1) (hr : r + 1 < t) (hV : pV N) (hB : pB N n) (hT : pTR I t N) : xC I r t w (m_X3_readPermit I r t) (sPrm w N p) := by
  have q1 := hV.2.1
  have q2 := hV.2.2.1
  have q1' := q1.2.2
  have q2' := q2.2.2
  have t3 : I t 3 = Int32.ofNat (pv N 1) := hT.2.1.trans q1.1
  have t5 : I t 5 = Int32.ofNat (pv N 2) := hT.2.2.1.trans q2.1
  unfold m_X3_readPermit m_X3_readPermit_e sPrm
  rw [t5]
  by_cases hk : pv N 2 = 10
  · rw [if_pos hk, if_neg (show ¬ Int32.ofNat (pv N 2) < 10 from mt (pl_lt (b := 10) (by omega) (by omega)).mp (by omega))]
    exact xC_full h fun _ _ _ => rfl
  rw [if_neg hk, if_pos (show Int32.ofNat (pv N 2) < 10 from (pl_lt (b := 10) (by omega) (by omega)).mpr (by omega))]
  have h0 : rS (po_u I r 2 (Int32.ofNat (p + 1))) r w (p + 1) := h.to hp
  have k0 : ∀ q, q ≠ r → (po_u I r 2 (Int32.ofNat (p + 1))) q = I q := fun q hq => po_u_ne hq
  rw [po_hletE, h.2.1, show Int32.ofNat p + 1 = Int32.ofNat (p + 1) from pl_add p 1]
  generalize po_u I r 2 (Int32.ofNat (p + 1)) = K0 at *
  rw [k0 t (by omega), t5, if_pos (pl_inl (by omega) (by omega)), pl_clamp (by omega)]
  obtain ⟨C, hC⟩ : ∃ C, C = t + (29 + 5 * pv N 2) := ⟨_, rfl⟩
  rw [← hC]
  obtain ⟨Kc, m1, m2, f6, f7, f8, f9, f11, f12, f14, f15, f16⟩ := x_permitClear K0 C
  have hc : rS Kc r w (p + 1) := h0.mv (m2 _ (by omega) (by omega)) (m2 _ (by omega) (by omega))
  have kc : ∀ q, q ≠ r → q ≠ C → q ≠ C + 2 → Kc q = I q := fun q d1 d2 d3 => (m2 q d2 d3).trans (k0 q d1)
  rw [m1, Option.bind_some, kc t (by omega) (by omega) (by omega), t3]
  cases hl : sD w 48 0 (pv N 1) (p + 1) with
  | none =>
    refine xC_none hc (z := 48) (lo := 0) hl (by omega) (by omega) (hm1 (by omega)) (by omega) fun K1 k1 e1 => ?_
    exact ⟨K1, rfl, fun q d1 d2 => (k1 q d1 (by omega)).trans (kc q d1 (by omega) (by omega)), e1⟩
  | some l =>
    have a1 := sD_some hl
    refine xC_some hc (z := 48) (lo := 0) hl (by omega) (by omega) (by omega) (hm1 (by omega)) (by omega) (by omega) fun K1 h1 k1 c1 o1 => ?_
    have kk1 : ∀ q, q ≠ r → q ≠ C → q ≠ C + 2 → K1 q = I q := fun q d1 d2 d3 => (k1 q d1 d2).trans (kc q d1 d2 d3)
    dsimp only
    cases hu : sD w 48 0 6 (p + 2) with
    | none =>
      refine xC_none h1 (z := 48) (lo := 0) (m := 6) (most := 5) hu (by omega) (by omega) (hmc (hi := 5) (by omega)) (by omega) fun K2 k2 e2 => ?_
      exact ⟨K2, rfl, fun q d1 d2 => (k2 q d1 (by omega)).trans (kk1 q d1 (by omega) (by omega)), e2⟩
    | some u =>
      have a2 := sD_some hu
      refine xC_some h1 (z := 48) (lo := 0) (m := 6) (most := 5) hu (by omega) (by omega) (by omega) (hmc (hi := 5) (by omega)) (by omega) (by omega) fun K2 h2 k2 c2 o2 => ?_
      have kk2 : ∀ q, q ≠ r → q ≠ C → q ≠ C + 2 → K2 q = I q := fun q d1 d2 d3 => (k2 q d1 d2).trans (kk1 q d1 d2 d3)
      dsimp only
      cases hf : sD w 48 1 10 (p + 3) with
      | none =>
        refine xC_none h2 (z := 48) (lo := 1) (m := 10) (most := 9) hf (by omega) (by omega) (hmc (hi := 9) (by omega)) (by omega) fun K3 k3 e3 => ?_
        exact ⟨K3, rfl, fun q d1 d2 => (k3 q d1 (by omega)).trans (kk2 q d1 (by omega) (by omega)), e3⟩
      | some f =>
        have a3 := sD_some hf
        refine xC_some h2 (z := 48) (lo := 1) (m := 10) (most := 9) hf (by omega) (by omega) (by omega) (hmc (hi := 9) (by omega)) (by omega) (by omega) fun K3 h3 k3 c3 o3 => ?_
        have kk3 : ∀ q, q ≠ r → q ≠ C → q ≠ C + 2 → K3 q = I q := fun q d1 d2 d3 => (k3 q d1 d2).trans (kk2 q d1 d2 d3)
        dsimp only
        cases hg : sD w 48 0 10 (p + 4) with
        | none =>
          refine xC_none h3 (z := 48) (lo := 0) (m := 10) (most := 9) hg (by omega) (by omega) (hmc (hi := 9) (by omega)) (by omega) fun K4 k4 e4 => ?_
          exact ⟨K4, rfl, fun q d1 d2 => (k4 q d1 (by omega)).trans (kk3 q d1 (by omega) (by omega)), e4⟩
        | some g =>
          have a4 := sD_some hg
          refine xC_some h3 (z := 48) (lo := 0) (m := 10) (most := 9) hg (by omega) (by omega) (by omega) (hmc (hi := 9) (by omega)) (by omega) (by omega) fun K4 h4 k4 c4 o4 => ?_
          have kk4 : ∀ q, q ≠ r → q ≠ C → q ≠ C + 2 → K4 q = I q := fun q d1 d2 d3 => (k4 q d1 d2).trans (kk3 q d1 d2 d3)
          have oo : ∀ j, j ≠ 0 → j ≠ 1 → j ≠ 2 → j ≠ 3 → K4 C j = Kc C j := fun j d0 d1 d2 d3 => (o4 j d3).trans ((o3 j d2).trans ((o2 j d1).trans (o1 j d0)))
          have e0 : K4 C 0 = Int32.ofNat l := (o4 0 (by omega)).trans ((o3 0 (by omega)).trans ((o2 0 (by omega)).trans c1))
          have e1 : K4 C 1 = Int32.ofNat u := (o4 1 (by omega)).trans ((o3 1 (by omega)).trans c2)
          have e2 : K4 C 2 = Int32.ofNat f := (o4 2 (by omega)).trans c3
          have h4 : rS K4 r w (p + 5) := h4
          dsimp only
          have hA := x_readArea (a := C + 1) h4 (by omega) (by omega)
          unfold xA at hA
          cases ha : sA w (p + 5) with
          | inl e =>
            rw [ha] at hA
            obtain ⟨K5, y1, y2, y3⟩ := hA
            rw [y1, Option.bind_some, if_pos rfl]
            exact ⟨K5, rfl, fun q d1 d2 => (y2 q d1 (by omega)).trans (kk4 q d1 (by omega) (by omega)), y3⟩
          | inr Q =>
            obtain ⟨a, q⟩ := Q
            rw [ha] at hA
            obtain ⟨K5, y1, y2, y3, y4⟩ := hA
            have hav := sA_ok ha
            have kk5 : ∀ q', q' ≠ r → q' ≠ C → q' ≠ C + 2 → K5 q' = I q' := fun q' d1 d2 d3 => (y2 q' d1 (by omega)).trans (kk4 q' d1 d2 d3)
            have y5 : K5 C = K4 C := y2 C (by omega) (by omega)
            have hn := ps_nle (pAs a)
            rw [y1, Option.bind_some, if_neg (show ¬ (1 : Int32) = 0 by decide)]
            dsimp only
            unfold m_X2_applyFee m_X2_applyFee_e m_X2_floorArea m_X2_floorArea_e
            rw [x_size y4, Option.bind_some, po_hletE, Option.bind_some, po_uaa, show (po_u K5 C 5 (Int32.ofNat (ps_n (pAs a)))) C 2 = Int32.ofNat f by rw [po_uu, if_neg (by omega), y5, e2], Option.bind_some, pl_mul, show (20 : Int32) + Int32.ofNat (ps_n (pAs a) * f) = Int32.ofNat (20 + ps_n (pAs a) * f) from pl_add 20 _, po_hletE, show (po_u (po_u K5 C 5 (Int32.ofNat (ps_n (pAs a)))) C 13 (Int32.ofNat (20 + ps_n (pAs a) * f))) t 5 + 1 = Int32.ofNat (pv N 2 + 1) by rw [po_u_ne (by omega), po_u_ne (by omega), kk5 t (by omega) (by omega) (by omega), t5]; exact pl_add _ 1, po_hletE]
            have hVB : pV (pPrmN N l u f g a (ps_n (pAs a))) := pPrm_ok hV (by omega) (by omega) (by omega) (by omega) (by omega) hav.1
            obtain ⟨g1, g2, g3, g4, g5, g6, g7, g8, g9, g10, g11⟩ := pPrmN_at N l u f g a (ps_n (pAs a))
            generalize pPrmN N l u f g a (ps_n (pAs a)) = N' at *
            obtain ⟨v1, v2⟩ := pAt_v g1 hav.1
            refine xC_end (((y3.mv (po_u_ne (by omega)) (po_u_ne (by omega))).mv (po_u_ne (by omega)) (po_u_ne (by omega))).mv (po_u_ne (by omega)) (po_u_ne (by omega))) (fun q d1 d2 => (po_u_ne (by omega)).trans ((po_u_ne (by omega)).trans ((po_u_ne (by omega)).trans (kk5 q d1 (by omega) (by omega))))) hr (fun _ => ?_) hVB
            refine pTR_prm hV hT rfl (by omega) g2 g3 (fun q d1 d2 d3 => by rw [po_u_ne (by omega), po_u_ne (by omega), po_u_ne (by omega), kk5 q (by omega) (by omega) (by omega)]) ⟨by rw [po_uu, if_neg (by omega), po_u_ne (by omega), po_u_ne (by omega), kk5 t (by omega) (by omega) (by omega)], by rw [po_uu, if_neg (by omega), po_u_ne (by omega), po_u_ne (by omega), kk5 t (by omega) (by omega) (by omega)], po_uaa _ _ _ _, by rw [po_uu, if_neg (by omega), po_u_ne (by omega), po_u_ne (by omega), kk5 t (by omega) (by omega) (by omega)]⟩ ?_
            rw [← hC]
            have cc : ∀ j, j ≠ 5 → j ≠ 13 → (po_u (po_u (po_u K5 C 5 (Int32.ofNat (ps_n (pAs a)))) C 13 (Int32.ofNat (20 + ps_n (pAs a) * f))) t 5 (Int32.ofNat (pv N 2 + 1))) C j = K4 C j := fun j d1 d2 => by rw [po_u_ne (by omega), po_uu, if_neg (by omega), po_uu, if_neg (by omega), y5]
            have z0 : ∀ j, j < 46 → 15 ≤ j → j ≠ 17 → j ≠ 18 → j ≠ 22 → j ≠ 25 → j ≠ 27 → pv N' (160 + 46 * pv N 2 + j) = 0 := fun j e1 e2 e3 e4 e5 e6 e7 => pvv_of (x := 0) (g11 j e1 e2 e3 e4 e5 e6 e7) (by omega)
            have n19 := g11 19 (by omega) (by omega) (by omega) (by omega) (by omega) (by omega) (by omega)
            refine ⟨by rw [cc 0 (by omega) (by omega), e0, g4], by rw [cc 1 (by omega) (by omega), e1, g5], by rw [cc 2 (by omega) (by omega), e2, g6], by rw [cc 3 (by omega) (by omega), c4, g7], ?_, by rw [po_u_ne (by omega), po_uu, if_neg (by omega), po_uaa, v2], by rw [cc 6 (by omega) (by omega), oo 6 (by omega) (by omega) (by omega) (by omega), f6, n19], fun hx => by rw [n19] at hx; exact absurd hx (by decide), by rw [cc 8 (by omega) (by omega), oo 8 (by omega) (by omega) (by omega) (by omega), f8, g11 20 (by omega) (by omega) (by omega) (by omega) (by omega) (by omega) (by omega)], by rw [cc 9 (by omega) (by omega), oo 9 (by omega) (by omega) (by omega) (by omega), f9, g11 21 (by omega) (by omega) (by omega) (by omega) (by omega) (by omega) (by omega)], fun hx => by rw [n19] at hx; exact absurd hx (by decide), by rw [cc 11 (by omega) (by omega), oo 11 (by omega) (by omega) (by omega) (by omega), f11, g11 23 (by omega) (by omega) (by omega) (by omega) (by omega) (by omega) (by omega)]; rfl, by rw [cc 12 (by omega) (by omega), oo 12 (by omega) (by omega) (by omega) (by omega), f12, g11 24 (by omega) (by omega) (by omega) (by omega) (by omega) (by omega) (by omega)], by rw [po_u_ne (by omega), po_uaa, g9], by rw [cc 14 (by omega) (by omega), oo 14 (by omega) (by omega) (by omega) (by omega), f14, g11 26 (by omega) (by omega) (by omega) (by omega) (by omega) (by omega) (by omega)], by rw [cc 15 (by omega) (by omega), oo 15 (by omega) (by omega) (by omega) (by omega), f15, g11 45 (by omega) (by omega) (by omega) (by omega) (by omega) (by omega) (by omega)], fun i hi => ?_⟩
            · rw [v2]
              exact ((y4.mv (po_u_ne (by omega))).mv (po_u_ne (by omega))).mv (po_u_ne (by omega))
            · rw [z0 45 (by omega) (by omega) (by omega) (by omega) (by omega) (by omega) (by omega), cc 16 (by omega) (by omega), oo 16 (by omega) (by omega) (by omega) (by omega), f16]
              exact ⟨fun hlt => by omega, fun _ => bt_zero i⟩
end QD9
