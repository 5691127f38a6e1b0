/-! THE MODEL READS: a permit, a command -/
section QE8
variable {I J K : po_I} {M p p' k n e i b : Nat} {w : pW} {N N' : po_N} {a : pA}
theorem ms_readPermit (h : mS K M w (p + 1) N) (hV : pV N) (hk10 : ¬ pv N 2 = 10) : mC K M w (m_X8_readPermit K M) (sPrm w N p) := by
  have q1 := hV.2.1
  have q2 := hV.2.2.1
  have q1' := q1.2.2
  have q2' := q2.2.2
  unfold m_X8_readPermit m_X8_readPermit_e sPrm
  rw [if_neg hk10, show K (M + 1) 1 = Int32.ofNat (pv N 1) from (h.row (by omega)).trans q1.1]
  have tail : ∀ (L : po_I) x1 x2 x3 x4 (e : Nat), mO K L M → mF L M w e → ∃ K', (Option.bind (m_X8_readArea L M) fun x19 => Option.bind (m_X8_must x19 M 59) fun x20 => if ((x20 M 15) : Int32) = (-1) then (po_let (x20 (M + 1) 2) fun v21 => po_hlet (po_u x20 (M + 1) 2 ((x20 (M + 1) 2) + 1)) fun I22 => m_X8_readPermit_75L 5000 I22 M x1 x2 x3 x4 v21 0) else (some x20)) = some K' ∧ mO K K' M ∧ mF K' M w e := by
    intro L x1 x2 x3 x4 e ho hF
    have hF' : mF (po_u L M 17 0) M w e := hF.u17
    rw [mf_area hF, Option.bind_some, mf_must hF', Option.bind_some, if_neg hF'.ne]
    exact ⟨_, rfl, ho.tr (mO_u (by omega)), hF'⟩
  cases hl : sD w 48 0 (pv N 1) (p + 1) with
  | none =>
    obtain ⟨v, y1, y2⟩ := ms_wn h (by omega) hl
    rw [y1, Option.bind_some, po_letE, mf_digit y2, Option.bind_some, po_letE, mf_digit y2, Option.bind_some, po_letE, mf_digit y2, Option.bind_some, po_letE]
    exact tail _ _ _ _ _ _ (mO_u (by omega)) y2
  | some l =>
    have a1 := sD_some hl
    obtain ⟨y1, h1⟩ := ms_ws h (by omega) hl
    have o1 : mO K (po_u K M 14 (Int32.ofNat (p + 1 + 1))) M := mO_u (by omega)
    rw [y1, Option.bind_some, po_letE]
    generalize po_u K M 14 (Int32.ofNat (p + 1 + 1)) = K1 at *
    have h1 : mS K1 M w (p + 2) N := h1
    cases hu : sD w 48 0 6 (p + 2) with
    | none =>
      obtain ⟨y1, y2⟩ := ms_dn h1 (lo := 0) (hi := 5) hu (by omega) (by omega)
      rw [show m_X8_digit K1 M 0 5 = _ from y1, Option.bind_some, po_letE, mf_digit y2, Option.bind_some, po_letE, mf_digit y2, Option.bind_some, po_letE]
      exact tail _ _ _ _ _ _ (o1.tr (mO_u (by omega))) y2
    | some u =>
      have a2 := sD_some hu
      obtain ⟨y1, h2⟩ := ms_ds h1 (lo := 0) (hi := 5) hu (by omega) (by omega)
      have o2 : mO K (po_u K1 M 14 (Int32.ofNat (p + 2 + 1))) M := o1.tr (mO_u (by omega))
      rw [show m_X8_digit K1 M 0 5 = _ from y1, Option.bind_some, po_letE]
      generalize po_u K1 M 14 (Int32.ofNat (p + 2 + 1)) = K2 at *
      have h2 : mS K2 M w (p + 3) N := h2
      cases hf : sD w 48 1 10 (p + 3) with
      | none =>
        obtain ⟨y1, y2⟩ := ms_dn h2 (lo := 1) (hi := 9) hf (by omega) (by omega)
        rw [show m_X8_digit K2 M 1 9 = _ from y1, Option.bind_some, po_letE, mf_digit y2, Option.bind_some, po_letE]
        exact tail _ _ _ _ _ _ (o2.tr (mO_u (by omega))) y2
      | some f =>
        have a3 := sD_some hf
        obtain ⟨y1, h3⟩ := ms_ds h2 (lo := 1) (hi := 9) hf (by omega) (by omega)
        have o3 : mO K (po_u K2 M 14 (Int32.ofNat (p + 3 + 1))) M := o2.tr (mO_u (by omega))
        rw [show m_X8_digit K2 M 1 9 = _ from y1, Option.bind_some, po_letE]
        generalize po_u K2 M 14 (Int32.ofNat (p + 3 + 1)) = K3 at *
        have h3 : mS K3 M w (p + 4) N := h3
        cases hg : sD w 48 0 10 (p + 4) with
        | none =>
          obtain ⟨y1, y2⟩ := ms_dn h3 (lo := 0) (hi := 9) hg (by omega) (by omega)
          rw [show m_X8_digit K3 M 0 9 = _ from y1, Option.bind_some, po_letE]
          exact tail _ _ _ _ _ _ (o3.tr (mO_u (by omega))) y2
        | some g =>
          have a4 := sD_some hg
          obtain ⟨y1, h4⟩ := ms_ds h3 (lo := 0) (hi := 9) hg (by omega) (by omega)
          have o4 : mO K (po_u K3 M 14 (Int32.ofNat (p + 4 + 1))) M := o3.tr (mO_u (by omega))
          rw [show m_X8_digit K3 M 0 9 = _ from y1, Option.bind_some, po_letE]
          generalize po_u K3 M 14 (Int32.ofNat (p + 4 + 1)) = K4 at *
          have h4 : mS K4 M w (p + 5) N := h4
          have hA := ms_area h4
          unfold mA at hA
          cases ha : sA w (p + 5) with
          | inl e =>
            rw [sAS_e ha] at hA
            obtain ⟨L1, L2, c1, c2, c3, c4⟩ := hA
            rw [show m_X8_readArea (Int32.ofNat g, K4).2 M = _ from c1, Option.bind_some, c2, Option.bind_some, if_neg c4.ne]
            exact ⟨L2, rfl, o4.tr c3, c4⟩
          | inr Q =>
            obtain ⟨a, q⟩ := Q
            by_cases c59 : pch w q = 59
            · rw [sAS_ok ha c59] at hA
              obtain ⟨L1, c1, c2, h5, _, c5, c6⟩ := hA
              have hav := (sA_ok ha).1
              obtain ⟨d1, h6⟩ := ms_musts h5 (c := 59) (by omega) (by omega) c59
              have o6 : mO K (po_u L1 M 14 (Int32.ofNat (q + 1))) M := (o4.tr c2).tr (mO_u (by omega))
              have g5 : (po_u L1 M 14 (Int32.ofNat (q + 1))) M 17 = Int32.ofNat a.1 := by rw [po_uu, if_neg (by omega)]; exact c5
              have g6 : ∀ j, j < 4 * a.1 → (po_u L1 M 14 (Int32.ofNat (q + 1))) (M + 6) j = Int32.ofNat (pAn a j) := fun j hj => by rw [po_u_ne (by omega)]; exact c6 j hj
              rw [show m_X8_readArea (Int32.ofNat g, K4).2 M = _ from c1, Option.bind_some, show m_X8_must L1 M 59 = _ from d1, Option.bind_some, if_pos h6.2.2.1]
              generalize po_u L1 M 14 (Int32.ofNat (q + 1)) = K6 at *
              have r2 : K6 (M + 1) 2 = Int32.ofNat (pv N 2) := (h6.row (by omega)).trans q2.1
              rw [r2, po_letE, show Int32.ofNat (pv N 2) + 1 = Int32.ofNat (pv N 2 + 1) from pl_add _ 1, po_hletE]
              have e7 : ∀ q, q ≠ M + 1 → (po_u K6 (M + 1) 2 (Int32.ofNat (pv N 2 + 1))) q = K6 q := fun q hq => po_u_ne hq
              obtain ⟨J, u1, u2, u3, u4, u5, u6, u7, u8, u9, u10, u11, u12⟩ := q_prm75 (K := po_u K6 (M + 1) 2 (Int32.ofNat (pv N 2 + 1))) (M := M) (k := pv N 2) (a := a) (l := l) (u := u) (f := f) (g := g) (by rw [e7 M (by omega)]; exact g5) hav (fun j hj => by rw [e7 (M + 6) (by omega)]; exact g6 j hj) (by omega) (by omega)
              have n2 : J (M + 1) 2 = Int32.ofNat (pv N 2 + 1) := by rw [u3 2 (by omega), po_uaa]
              have nj : ∀ j, j < 668 → j ≠ 2 → (j < 160 + 46 * pv N 2 ∨ 160 + 46 * pv N 2 + 46 ≤ j) → J (M + 1) j = N j := fun j w1 w2 w3 => by rw [u3 j w3, po_uu, if_neg (by omega)]; exact h6.row w1
              have hs : psame (pPrmN N l u f g a (ps_n (pAs a))) (J (M + 1)) := pPrmN_same rfl (by omega) u4 n2 u5 u6 u7 u8 u9 u10 u11 u12 nj
              have hJ : ∀ q, q ≠ M + 1 → J q = K6 q := fun q hq => (u2 q hq).trans (e7 q hq)
              have hfin : mC K M w (some J) (.inr (q + 1, pPrmN N l u f g a (ps_n (pAs a)))) := ⟨J, rfl, o6.tr (mO_r hJ), h6.mvr hJ hs⟩
              show mC K M w (m_X8_readPermit_75L 5000 (po_u K6 (M + 1) 2 (Int32.ofNat (pv N 2 + 1))) M (Int32.ofNat l) (Int32.ofNat u) (Int32.ofNat f) (Int32.ofNat g) (Int32.ofNat (pv N 2)) (Int32.ofNat 0)) _
              rw [u1]
              dsimp only
              rw [if_pos c59]
              exact hfin
            · rw [sAS_no ha c59] at hA
              obtain ⟨L1, L2, c1, c2, c3, c4⟩ := hA
              rw [show m_X8_readArea (Int32.ofNat g, K4).2 M = _ from c1, Option.bind_some, c2, Option.bind_some, if_neg c4.ne]
              dsimp only
              rw [if_neg c59]
              exact ⟨L2, rfl, o4.tr c3, c4⟩
theorem ms_106 (h : mS K M w p N) {s : Nat ⊕ (Nat × po_N)} (hs : s = .inl p) : mC K M w (m_X8_readCommand_106 K M) s := by
  rw [hs]
  unfold m_X8_readCommand_106
  rw [h.2.1, ms_fault h.2.2.1, Option.bind_some]
  exact ⟨_, rfl, mO_u (by omega), h.bad h.p60⟩
theorem mC_b {res : Option po_I} {s : Nat ⊕ (Nat × po_N)} (h : mC K M w res s) : mC K M w (Option.bind res fun x => m_X8_readCommand_200 x) s := by
  unfold m_X8_readCommand_200
  rw [Option.bind_fun_some]
  exact h
theorem ms_readCommand (h : mS K M w p N) (hV : pV N) : mC K M w (m_X8_readCommand K M) (sC w N p) := by
  have q1 := hV.2.1
  have q2 := hV.2.2.1
  have q3 := hV.2.2.2.1
  have q1' := q1.2.2
  have q2' := q2.2.2
  have q3' := q3.2.2
  have r1 : K (M + 1) 1 = Int32.ofNat (pv N 1) := (h.row (by omega)).trans q1.1
  have r2 : K (M + 1) 2 = Int32.ofNat (pv N 2) := (h.row (by omega)).trans q2.1
  have r3 : K (M + 1) 3 = Int32.ofNat (pv N 3) := (h.row (by omega)).trans q3.1
  have hch := pch_le h.2.2.2.2.1 p
  unfold m_X8_readCommand m_X8_readCommand_e
  rw [ms_sign h, Option.bind_some]
  by_cases hp : p < w.1
  · have es : sg w p = Int32.ofNat (pch w p) := if_pos hp
    have h1 := h.to (q := p + 1) (by omega)
    have o1 : mO K (po_u K M 14 (Int32.ofNat (p + 1))) M := mO_u (by omega)
    have m1 : ∀ {res s}, mC (po_u K M 14 (Int32.ofNat (p + 1))) M w res s → mC K M w (Option.bind res fun x => m_X8_readCommand_200 x) s := fun hh => mC_b (hh.of o1)
    rw [es]
    have f106 : ∀ x (s : Nat ⊕ (Nat × po_N)), s = .inl p → mC K M w (m_X8_readCommand_97 K M (Int32.ofNat (pch w p)) 1 x) s := by
      intro x s hs
      unfold m_X8_readCommand_97
      by_cases hx : x = 0
      · rw [if_pos hx]; exact ms_106 h hs
      · rw [if_neg hx, if_neg (show ¬ (1 : Int32) = 0 by decide)]; exact ms_106 h hs
    have f0 : ∀ s : Nat ⊕ (Nat × po_N), s = .inl p → mC K M w (m_X8_readCommand_97 K M (Int32.ofNat (pch w p)) 0 0) s := by
      intro s hs
      unfold m_X8_readCommand_97
      rw [if_pos rfl]
      exact ms_106 h hs
    by_cases c76 : pch w p = 76
    · rw [show sC w N p = sLot w N p by unfold sC; rw [c76]; rfl]
      rw [c76] at *
      rw [if_pos (show Int32.ofNat 76 = 76 from rfl), r1]
      by_cases c8 : pv N 1 = 8
      · rw [if_pos (show Int32.ofNat (pv N 1) = 8 from congrArg Int32.ofNat c8)]
        refine f106 1 _ ?_
        unfold sLot
        rw [if_pos c8]
      · rw [if_neg (show ¬ Int32.ofNat (pv N 1) = 8 from pk_ne (b := 8) (by omega) (by omega) c8)]
        show mC K M w (po_hlet (po_u K M 14 (K M 14 + 1)) fun I2 => Option.bind (m_X8_readLot I2 M) fun x4 => m_X8_readCommand_200 x4) _
        rw [po_hletE, h.2.1, show Int32.ofNat p + 1 = Int32.ofNat (p + 1) from pl_add p 1]
        exact m1 (ms_readLot h1 hV c8)
    by_cases c80 : pch w p = 80
    · rw [show sC w N p = sPrm w N p by unfold sC; rw [c80]; rfl]
      rw [c80] at *
      rw [if_neg (show ¬ Int32.ofNat 80 = 76 by decide)]
      unfold m_X8_readCommand_22
      rw [if_pos (show Int32.ofNat 80 = 80 from rfl), r2]
      by_cases c8 : pv N 2 = 10
      · rw [if_pos (show Int32.ofNat (pv N 2) = 10 from congrArg Int32.ofNat c8)]
        refine f106 1 _ ?_
        unfold sPrm
        rw [if_pos c8]
      · rw [if_neg (show ¬ Int32.ofNat (pv N 2) = 10 from pk_ne (b := 10) (by omega) (by omega) c8)]
        show mC K M w (po_hlet (po_u K M 14 (K M 14 + 1)) fun I2 => Option.bind (m_X8_readPermit I2 M) fun x4 => m_X8_readCommand_200 x4) _
        rw [po_hletE, h.2.1, show Int32.ofNat p + 1 = Int32.ofNat (p + 1) from pl_add p 1]
        exact m1 (ms_readPermit h1 hV c8)
    by_cases c86 : pch w p = 86
    · rw [show sC w N p = sVar w N p by unfold sC; rw [c86]; rfl]
      rw [c86] at *
      rw [if_neg (show ¬ Int32.ofNat 86 = 76 by decide)]
      unfold m_X8_readCommand_22 m_X8_readCommand_39
      rw [if_neg (show ¬ Int32.ofNat 86 = 80 by decide), if_pos (show Int32.ofNat 86 = 86 from rfl), r3]
      by_cases c8 : pv N 3 = 12
      · rw [if_pos (show Int32.ofNat (pv N 3) = 12 from congrArg Int32.ofNat c8)]
        refine f106 1 _ ?_
        unfold sVar
        rw [if_pos c8]
      · rw [if_neg (show ¬ Int32.ofNat (pv N 3) = 12 from pk_ne (b := 12) (by omega) (by omega) c8)]
        show mC K M w (po_hlet (po_u K M 14 (K M 14 + 1)) fun I2 => Option.bind (m_X8_readVariance I2 M) fun x4 => m_X8_readCommand_200 x4) _
        rw [po_hletE, h.2.1, show Int32.ofNat p + 1 = Int32.ofNat (p + 1) from pl_add p 1]
        exact m1 (ms_readVariance h1 hV c8)
    rw [if_neg (show ¬ Int32.ofNat (pch w p) = 76 from pk_ne (b := 76) (by omega) (by omega) c76)]
    unfold m_X8_readCommand_22 m_X8_readCommand_39 m_X8_readCommand_60 m_X8_readCommand_61
    rw [if_neg (show ¬ Int32.ofNat (pch w p) = 80 from pk_ne (b := 80) (by omega) (by omega) c80), if_neg (show ¬ Int32.ofNat (pch w p) = 86 from pk_ne (b := 86) (by omega) (by omega) c86), if_neg (show ¬ Int32.ofNat (pch w p) = 76 from pk_ne (b := 76) (by omega) (by omega) c76), if_neg (show ¬ Int32.ofNat (pch w p) = 80 from pk_ne (b := 80) (by omega) (by omega) c80), if_neg (show ¬ Int32.ofNat (pch w p) = 86 from pk_ne (b := 86) (by omega) (by omega) c86)]
    by_cases c67 : pch w p = 67
    · rw [show sC w N p = sCon w N p by unfold sC; rw [c67]; rfl]
      rw [c67] at *
      show mC K M w (po_hlet (po_u K M 14 (K M 14 + 1)) fun I2 => Option.bind (m_X8_readCondition I2 M) fun x4 => m_X8_readCommand_200 x4) _
      rw [po_hletE, h.2.1, show Int32.ofNat p + 1 = Int32.ofNat (p + 1) from pl_add p 1]
      exact m1 (ms_readCondition h1 hV)
    by_cases c90 : pch w p = 90
    · rw [show sC w N p = sRul w N p by unfold sC; rw [c90]; rfl]
      rw [c90] at *
      show mC K M w (po_hlet (po_u K M 14 (K M 14 + 1)) fun I2 => Option.bind (m_X8_readRule I2 M) fun x4 => m_X8_readCommand_200 x4) _
      rw [po_hletE, h.2.1, show Int32.ofNat p + 1 = Int32.ofNat (p + 1) from pl_add p 1]
      exact m1 (ms_readRule h1)
    rw [if_neg (show ¬ Int32.ofNat (pch w p) = 67 from pk_ne (b := 67) (by omega) (by omega) c67), if_neg (show ¬ Int32.ofNat (pch w p) = 90 from pk_ne (b := 90) (by omega) (by omega) c90)]
    refine f0 _ ?_
    unfold sC
    rw [if_neg c67, if_neg c76, if_neg c80, if_neg c86, if_neg c90]
  · have es : sg w p = -1 := if_neg hp
    have e0 : pch w p = 0 := if_neg hp
    have esc : sC w N p = .inl p := by
      unfold sC
      rw [e0]
      rfl
    rw [es, esc]
    show mC K M w (m_X8_readCommand_106 K M) _
    exact ms_106 h rfl
end QE8
