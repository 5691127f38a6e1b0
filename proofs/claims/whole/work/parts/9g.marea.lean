/-! THE MODEL READS: numbers, fronts, rectangles -/
section QE3
variable {I J K : po_I} {M p p' k n e i f : Nat} {w : pW} {N N' : po_N}
theorem mS.ub (h : mS K M w p N) {j : Nat} {v : Int32} : mS (po_u K (M + 6) j v) M w p N := by
  obtain ⟨h1, h2, h3, h4, h5, h6, h7⟩ := h
  exact ⟨by rw [po_u_ne (by omega)]; exact h1, by rw [po_u_ne (by omega)]; exact h2, by rw [po_u_ne (by omega)]; exact h3, fun j hj => by rw [po_u_ne (by omega)]; exact h4 j hj, h5, h6, by rw [po_u_ne (by omega)]; exact h7⟩
theorem mS.u17 (h : mS K M w p N) {v : Int32} : mS (po_u K M 17 v) M w p N := by
  obtain ⟨h1, h2, h3, h4, h5, h6, h7⟩ := h
  exact ⟨by rw [po_uu, if_neg (by omega)]; exact h1, by rw [po_uu, if_neg (by omega)]; exact h2, by rw [po_uu, if_neg (by omega)]; exact h3, fun j hj => by rw [po_u_ne (by omega)]; exact h4 j hj, h5, h6, by rw [po_u_ne (by omega)]; exact h7⟩
theorem mS.p60 (h : mS K M w p N) : p ≤ 60 := by
  have h5 := h.2.2.2.2.1.1
  have h6 := h.2.2.2.2.2.1
  omega
theorem ms_n66 (h : mS K M w p N) {lo hi v x : Nat} (hv : v < 1000) (hlo : lo < 1000) (hhi : hi < 1000) : m_X8_number_66 K M (Int32.ofNat lo) (Int32.ofNat hi) (Int32.ofNat x) (Int32.ofNat v) = if lo ≤ v ∧ v ≤ hi then some (Int32.ofNat v, K) else some (Int32.ofNat v, po_u K M 15 (Int32.ofNat x)) := by
  unfold m_X8_number_66 m_X8_number_89
  rw [if_pos h.2.2.1, q_isIn, Option.bind_some, ms_fault h.2.2.1, Option.bind_some]
  by_cases c : lo ≤ v ∧ v ≤ hi
  · rw [if_pos c, decide_eq_true (p := _ ∧ _) ⟨(pl_le (by omega) (by omega)).mpr c.1, (pl_le (by omega) (by omega)).mpr c.2⟩, if_neg (show ¬ pb true = 0 by decide)]
  · rw [if_neg c, decide_eq_false (p := _ ∧ _) (fun hh => c ⟨(pl_le (by omega) (by omega)).mp hh.1, (pl_le (by omega) (by omega)).mp hh.2⟩), if_pos (show pb false = 0 from rfl)]
theorem ms_number (h : mS K M w p N) {lo hi : Nat} (hlo : lo < 1000) (hhi : hi < 1000) : match sNum w lo hi p with
    | .inr (v, q) => m_X8_number K M (Int32.ofNat lo) (Int32.ofNat hi) = some (Int32.ofNat v, po_u K M 14 (Int32.ofNat q)) ∧ mS (po_u K M 14 (Int32.ofNat q)) M w q N
    | .inl e => ∃ v K', m_X8_number K M (Int32.ofNat lo) (Int32.ofNat hi) = some (v, K') ∧ mO K K' M ∧ mF K' M w e := by
  have hx : m_X8_number K M (Int32.ofNat lo) (Int32.ofNat hi) = m_X8_number_e K M (Int32.ofNat lo) (Int32.ofNat hi) := rfl
  have h60 := h.p60
  have hch := pch_le h.2.2.2.2.1 (p + 1)
  unfold sNum
  rw [hx]
  unfold m_X8_number_e
  rw [po_letE, h.2.1]
  cases hd : sD w 48 0 10 p with
  | none =>
    obtain ⟨y1, y2⟩ := ms_dn h (lo := 0) (hi := 9) hd (by omega) (by omega)
    rw [show m_X8_digit K M 0 9 = _ from y1, Option.bind_some, po_letE, if_neg y2.ne]
    unfold m_X8_number_66 m_X8_number_89
    rw [if_neg y2.ne]
    exact ⟨_, _, rfl, mO_u (by omega), y2⟩
  | some d =>
    have a1 := sD_some hd
    obtain ⟨y1, y2⟩ := ms_ds h (lo := 0) (hi := 9) hd (by omega) (by omega)
    dsimp only
    rw [show m_X8_digit K M 0 9 = _ from y1, Option.bind_some, po_letE, if_pos y2.2.2.1]
    by_cases d0 : 0 < d
    · rw [if_neg (show ¬ Int32.ofNat d ≤ 0 from mt (pl_le (b := 0) (by omega) (by omega)).mp (by omega)), if_pos d0, ms_sign y2, Option.bind_some, show m_X8_isIn (sg w (p + 1)) 48 57 = _ from ms_isIn y2.2.2.2.2.1 (a := 48) (b := 57) (by omega) (by omega) (by omega), Option.bind_some]
      cases hd2 : sD w 48 0 10 (p + 1) with
      | none =>
        have hnd : ¬ (48 ≤ pch w (p + 1) ∧ pch w (p + 1) ≤ 57) := by
          unfold sD at hd2
          split at hd2
          · cases hd2
          · omega
        rw [decide_eq_false hnd, if_pos (show pb false = 0 from rfl), ms_n66 y2 (by omega) hlo hhi]
        dsimp only
        by_cases hr : lo ≤ d ∧ d ≤ hi
        · rw [if_pos hr, if_pos hr]
          exact ⟨rfl, y2⟩
        · rw [if_neg hr, if_neg hr]
          exact ⟨_, _, rfl, (mO_u (by omega)).tr (mO_u (by omega)), y2.bad (by omega)⟩
      | some d2 =>
        have a2 := sD_some hd2
        have hp := pch_in (w := w) (p := p + 1) (by omega)
        have y3 : mS (po_u (po_u K M 14 (Int32.ofNat (p + 1))) M 14 (Int32.ofNat (p + 2))) M w (p + 2) N := y2.to (by omega)
        have e2 : po_u (po_u K M 14 (Int32.ofNat (p + 1))) M 14 (Int32.ofNat (p + 2)) = po_u K M 14 (Int32.ofNat (p + 2)) := by
          funext q j
          rw [po_uu, po_uu, po_uu]
          split <;> rfl
        rw [e2] at y3
        rw [decide_eq_true (p := _ ∧ _) (by omega), if_neg (show ¬ pb true = 0 by decide), Option.bind_some]
        dsimp only
        unfold sg
        rw [if_pos hp, po_letE, po_hletE, y2.2.1, show Int32.ofNat (p + 1) + 1 = Int32.ofNat (p + 2) from pl_add (p + 1) 1, e2, show (10 : Int32) * Int32.ofNat d = Int32.ofNat (10 * d) from pl_mul 10 d, pl_add, show Int32.ofNat (10 * d + pch w (p + 1)) - 48 = Int32.ofNat (10 * d + pch w (p + 1) - 48) from pl_sub (b := 48) (by omega), show 10 * d + pch w (p + 1) - 48 = 10 * d + d2 by omega, ms_n66 y3 (by omega) hlo hhi]
        try dsimp only
        by_cases hr : lo ≤ 10 * d + d2 ∧ 10 * d + d2 ≤ hi
        · rw [if_pos hr, if_pos hr]
          exact ⟨rfl, y3⟩
        · rw [if_neg hr, if_neg hr]
          exact ⟨_, _, rfl, (mO_u (by omega)).tr (mO_u (by omega)), y3.bad (by omega)⟩
    · rw [if_pos (show Int32.ofNat d ≤ 0 from (pl_le (b := 0) (by omega) (by omega)).mpr (by omega)), if_neg d0, ms_n66 y2 (by omega) hlo hhi]
      dsimp only
      by_cases hr : lo ≤ d ∧ d ≤ hi
      · rw [if_pos hr, if_pos hr]
        exact ⟨rfl, y2⟩
      · rw [if_neg hr, if_neg hr]
        exact ⟨_, _, rfl, (mO_u (by omega)).tr (mO_u (by omega)), y2.bad (by omega)⟩
theorem ms_front (h : mS K M w p N) : match sF w p with
    | some v => v < 4 ∧ m_X8_front K M = some (Int32.ofNat v, po_u K M 14 (Int32.ofNat (p + 1))) ∧ mS (po_u K M 14 (Int32.ofNat (p + 1))) M w (p + 1) N
    | none => m_X8_front K M = some (-1, po_u K M 15 (Int32.ofNat p)) ∧ mF (po_u K M 15 (Int32.ofNat p)) M w p := by
  have hc := pch_le h.2.2.2.2.1 p
  have h60 := h.p60
  have hf : ∀ v, v < 4 → m_X8_front_46 K M (Int32.ofNat v) = some (Int32.ofNat v, po_u K M 14 (Int32.ofNat (p + 1))) := by
    intro v hv
    unfold m_X8_front_46 m_X8_front_73
    rw [if_neg (show ¬ Int32.ofNat v = -1 from (pl_neg1 (by omega)).mp), h.2.1, show Int32.ofNat p + 1 = Int32.ofNat (p + 1) from pl_add p 1, po_hletE]
  have hn : m_X8_front_46 K M (-1) = some (-1, po_u K M 15 (Int32.ofNat p)) := by
    unfold m_X8_front_46 m_X8_front_73
    rw [if_pos rfl, h.2.1, ms_fault h.2.2.1, Option.bind_some]
  unfold m_X8_front m_X8_front_e sF
  rw [ms_sign h, Option.bind_some]
  unfold sg
  by_cases hp : p < w.1
  · have ht := h.to (q := p + 1) (by omega)
    rw [if_pos hp]
    by_cases e1 : pch w p = 78
    · rw [if_pos e1, if_pos (show Int32.ofNat (pch w p) = 78 from congrArg Int32.ofNat e1)]
      exact ⟨by omega, hf 0 (by omega), ht⟩
    rw [if_neg e1, if_neg (show ¬ Int32.ofNat (pch w p) = 78 from pk_ne (b := 78) (by omega) (by omega) e1)]
    by_cases e2 : pch w p = 69
    · rw [if_pos e2, if_pos (show Int32.ofNat (pch w p) = 69 from congrArg Int32.ofNat e2)]
      exact ⟨by omega, hf 1 (by omega), ht⟩
    rw [if_neg e2, if_neg (show ¬ Int32.ofNat (pch w p) = 69 from pk_ne (b := 69) (by omega) (by omega) e2)]
    by_cases e3 : pch w p = 83
    · rw [if_pos e3, if_pos (show Int32.ofNat (pch w p) = 83 from congrArg Int32.ofNat e3)]
      exact ⟨by omega, hf 2 (by omega), ht⟩
    rw [if_neg e3, if_neg (show ¬ Int32.ofNat (pch w p) = 83 from pk_ne (b := 83) (by omega) (by omega) e3)]
    by_cases e4 : pch w p = 87
    · rw [if_pos e4, if_pos (show Int32.ofNat (pch w p) = 87 from congrArg Int32.ofNat e4)]
      exact ⟨by omega, hf 3 (by omega), ht⟩
    rw [if_neg e4, if_neg (show ¬ Int32.ofNat (pch w p) = 87 from pk_ne (b := 87) (by omega) (by omega) e4)]
    exact ⟨hn, h.bad (by omega)⟩
  · have e0 : pch w p = 0 := if_neg hp
    rw [if_neg hp, e0]
    exact ⟨hn, h.bad (by omega)⟩
theorem mf_5L (h : mF K M w e) : m_X8_readArea_5L (f + 1) K M = some K := by
  show m_X8_readArea_5 (m_X8_readArea_5L f) K M = _
  unfold m_X8_readArea_5 m_X8_readArea_184
  rw [if_neg h.ne]
theorem mf_171 (h : mF K M w e) (ho : mO I K M) : ∃ K', m_X8_readArea_171 (m_X8_readArea_5L (f + 1)) K M = some K' ∧ mO I K' M ∧ mF K' M w e := by
  unfold m_X8_readArea_171
  rw [po_hletE, mf_5L h.u17]
  exact ⟨_, rfl, ho.tr (mO_u (by omega)), h.u17⟩
/-- one rectangle -/
def mR (K : po_I) (M : Nat) (w : pW) (N : po_N) (i : Nat) (r5 : po_I → Nat → Option po_I) (res : Option po_I) (s : Nat ⊕ (pQ × Nat)) : Prop := match s with
  | .inl e => ∃ K', res = some K' ∧ mO K K' M ∧ mF K' M w e
  | .inr (q, p') => ∃ K', res = r5 K' M ∧ mO K K' M ∧ mS K' M w p' N ∧ K' M 17 = Int32.ofNat (i + 1) ∧ (∀ j, j < 4 → K' (M + 6) (4 * i + j) = Int32.ofNat (pQn q j)) ∧ ∀ j, j < 4 * i → K' (M + 6) j = K (M + 6) j
theorem ms_rect (h : mS K M w p N) (h17 : K M 17 = Int32.ofNat i) (hi : i < 3) : mR K M w N i (m_X8_readArea_5L (f + 1)) (m_X8_readArea_30 (m_X8_readArea_5L (f + 1)) K M) (sR w p) := by
  have i0 : po_in (Int32.ofNat (4 * i)) 12 = true := pl_inl (by omega) (by omega)
  have i1 : po_in (Int32.ofNat (4 * i + 1)) 12 = true := pl_inl (by omega) (by omega)
  have i2 : po_in (Int32.ofNat (4 * i + 2)) 12 = true := pl_inl (by omega) (by omega)
  have i3 : po_in (Int32.ofNat (4 * i + 3)) 12 = true := pl_inl (by omega) (by omega)
  have h60 := h.p60
  unfold m_X8_readArea_30
  rw [po_letE, h17, if_neg (show ¬ Int32.ofNat i = 3 from pk_ne (b := 3) (by omega) (by omega) (by omega)), show (4 : Int32) * Int32.ofNat i = Int32.ofNat (4 * i) from pl_mul 4 i, po_letE, h.2.1, show Int32.ofNat (4 * i) + 1 = Int32.ofNat (4 * i + 1) from pl_add _ 1, show Int32.ofNat (4 * i) + 2 = Int32.ofNat (4 * i + 2) from pl_add _ 2, show Int32.ofNat (4 * i) + 3 = Int32.ofNat (4 * i + 3) from pl_add _ 3, pl_clamp (a := 4 * i) (by omega), pl_clamp (a := 4 * i + 1) (by omega), pl_clamp (a := 4 * i + 2) (by omega), pl_clamp (a := 4 * i + 3) (by omega)]
  simp only [i0, i1, i2, i3, if_true, eq_self]
  have s1 := ms_sign_ h (a := 97) (b := 116) (by omega) (by omega) (by omega)
  unfold sR
  cases hc : sD w 97 0 20 p with
  | none =>
    have hF := h.bad (x := p) (by omega)
    unfold sD at hc
    rw [if_neg (fun hh => by rw [if_pos (by omega)] at hc; cases hc)] at s1
    have o1 : mO K (po_u K M 15 (Int32.ofNat p)) M := mO_u (by omega)
    rw [show m_X8_sign_ K M 97 116 = _ from s1, Option.bind_some, po_hletE]
    dsimp only
    generalize po_u K M 15 (Int32.ofNat p) = L at *
    have hF1 : mF (po_u L (M + 6) (4 * i) 0) M w p := hF.ub (by omega)
    have o2 : mO K (po_u L (M + 6) (4 * i) 0) M := o1.tr (mO_b (by omega))
    generalize po_u L (M + 6) (4 * i) 0 = L1 at *
    rw [mf_sign_ hF1, Option.bind_some, po_hletE]
    dsimp only
    have hF2 : mF (po_u L1 (M + 6) (4 * i + 1) 0) M w p := hF1.ub (by omega)
    have o3 : mO K (po_u L1 (M + 6) (4 * i + 1) 0) M := o2.tr (mO_b (by omega))
    generalize po_u L1 (M + 6) (4 * i + 1) 0 = L2 at *
    rw [mf_digit hF2, Option.bind_some, po_hletE]
    dsimp only
    have hF3 : mF (po_u L2 (M + 6) (4 * i + 2) (1 + 0)) M w p := hF2.ub (by omega)
    have o4 : mO K (po_u L2 (M + 6) (4 * i + 2) (1 + 0)) M := o3.tr (mO_b (by omega))
    generalize po_u L2 (M + 6) (4 * i + 2) (1 + 0) = L3 at *
    rw [mf_digit hF3, Option.bind_some, po_hletE]
    dsimp only
    have hF4 : mF (po_u L3 (M + 6) (4 * i + 3) (1 + 0)) M w p := hF3.ub (by omega)
    have o5 : mO K (po_u L3 (M + 6) (4 * i + 3) (1 + 0)) M := o4.tr (mO_b (by omega))
    rw [if_neg hF4.ne]
    exact mf_171 hF4 o5
  | some c =>
    have a1 := sD_some hc
    have hp1 := pch_in (w := w) (p := p) (by omega)
    have h1 := h.to (q := p + 1) (by omega)
    have o1 : mO K (po_u K M 14 (Int32.ofNat (p + 1))) M := mO_u (by omega)
    have t1 : (po_u K M 14 (Int32.ofNat (p + 1))) M 17 = Int32.ofNat i := by rw [po_uu, if_neg (by omega)]; exact h17
    have b0 : ∀ j, (po_u K M 14 (Int32.ofNat (p + 1))) (M + 6) j = K (M + 6) j := fun j => by rw [po_u_ne (by omega)]
    rw [if_pos (by omega), show pch w p - 97 = c by omega] at s1
    rw [show m_X8_sign_ K M 97 116 = _ from s1, Option.bind_some, po_hletE]
    dsimp only
    generalize po_u K M 14 (Int32.ofNat (p + 1)) = L at *
    have h1' : mS (po_u L (M + 6) (4 * i) (Int32.ofNat c)) M w (p + 1) N := h1.ub
    have o1' : mO K (po_u L (M + 6) (4 * i) (Int32.ofNat c)) M := o1.tr (mO_b (by omega))
    have t1' : (po_u L (M + 6) (4 * i) (Int32.ofNat c)) M 17 = Int32.ofNat i := by rw [po_u_ne (by omega)]; exact t1
    have b1 : (∀ j, j < 4 * i → (po_u L (M + 6) (4 * i) (Int32.ofNat c)) (M + 6) j = K (M + 6) j) ∧ (po_u L (M + 6) (4 * i) (Int32.ofNat c)) (M + 6) (4 * i) = Int32.ofNat c := ⟨fun j hj => by rw [po_uu, if_neg (by omega)]; exact b0 j, po_uaa _ _ _ _⟩
    generalize po_u L (M + 6) (4 * i) (Int32.ofNat c) = L1 at *
    have s2 := ms_sign_ h1' (a := 97) (b := 110) (by omega) (by omega) (by omega)
    cases hd : sD w 97 0 14 (p + 1) with
    | none =>
      have hF := h1'.bad (x := p + 1) h1'.p60
      unfold sD at hd
      rw [if_neg (fun hh => by rw [if_pos (by omega)] at hd; cases hd)] at s2
      have o2 : mO K (po_u L1 M 15 (Int32.ofNat (p + 1))) M := o1'.tr (mO_u (by omega))
      rw [show m_X8_sign_ L1 M 97 110 = _ from s2, Option.bind_some, po_hletE]
      dsimp only
      generalize po_u L1 M 15 (Int32.ofNat (p + 1)) = L2 at *
      have hF2 : mF (po_u L2 (M + 6) (4 * i + 1) 0) M w (p + 1) := hF.ub (by omega)
      have o3 : mO K (po_u L2 (M + 6) (4 * i + 1) 0) M := o2.tr (mO_b (by omega))
      generalize po_u L2 (M + 6) (4 * i + 1) 0 = L2 at *
      rw [mf_digit hF2, Option.bind_some, po_hletE]
      dsimp only
      have hF3 : mF (po_u L2 (M + 6) (4 * i + 2) (1 + 0)) M w (p + 1) := hF2.ub (by omega)
      have o4 : mO K (po_u L2 (M + 6) (4 * i + 2) (1 + 0)) M := o3.tr (mO_b (by omega))
      generalize po_u L2 (M + 6) (4 * i + 2) (1 + 0) = L3 at *
      rw [mf_digit hF3, Option.bind_some, po_hletE]
      dsimp only
      have hF4 : mF (po_u L3 (M + 6) (4 * i + 3) (1 + 0)) M w (p + 1) := hF3.ub (by omega)
      have o5 : mO K (po_u L3 (M + 6) (4 * i + 3) (1 + 0)) M := o4.tr (mO_b (by omega))
      rw [if_neg hF4.ne]
      exact mf_171 hF4 o5
    | some d =>
      have a2 := sD_some hd
      have hp2 := pch_in (w := w) (p := p + 1) (by omega)
      have h2 := h1'.to (q := p + 2) (by omega)
      rw [if_pos (by omega), show pch w (p + 1) - 97 = d by omega] at s2
      have o2 : mO K (po_u L1 M 14 (Int32.ofNat (p + 2))) M := o1'.tr (mO_u (by omega))
      have t2 : (po_u L1 M 14 (Int32.ofNat (p + 2))) M 17 = Int32.ofNat i := by rw [po_uu, if_neg (by omega)]; exact t1'
      have b2 : ∀ j, (po_u L1 M 14 (Int32.ofNat (p + 2))) (M + 6) j = L1 (M + 6) j := fun j => by rw [po_u_ne (by omega)]
      rw [show m_X8_sign_ L1 M 97 110 = some (Int32.ofNat d, po_u L1 M 14 (Int32.ofNat (p + 2))) from s2, Option.bind_some, po_hletE]
      dsimp only
      generalize po_u L1 M 14 (Int32.ofNat (p + 2)) = L2 at *
      have h2' : mS (po_u L2 (M + 6) (4 * i + 1) (Int32.ofNat d)) M w (p + 2) N := h2.ub
      have o2' : mO K (po_u L2 (M + 6) (4 * i + 1) (Int32.ofNat d)) M := o2.tr (mO_b (by omega))
      have t2' : (po_u L2 (M + 6) (4 * i + 1) (Int32.ofNat d)) M 17 = Int32.ofNat i := by rw [po_u_ne (by omega)]; exact t2
      have b2' : (∀ j, j < 4 * i + 1 → (po_u L2 (M + 6) (4 * i + 1) (Int32.ofNat d)) (M + 6) j = L1 (M + 6) j) ∧ (po_u L2 (M + 6) (4 * i + 1) (Int32.ofNat d)) (M + 6) (4 * i + 1) = Int32.ofNat d := ⟨fun j hj => by rw [po_uu, if_neg (by omega)]; exact b2 j, po_uaa _ _ _ _⟩
      generalize po_u L2 (M + 6) (4 * i + 1) (Int32.ofNat d) = L3 at *
      cases hx : sD w 48 1 10 (p + 2) with
      | none =>
        obtain ⟨s3, hF⟩ := ms_dn h2' (lo := 1) (hi := 9) hx (by omega) (by omega)
        have o3 : mO K (po_u L3 M 15 (Int32.ofNat (p + 2))) M := o2'.tr (mO_u (by omega))
        rw [show m_X8_digit L3 M 1 9 = _ from s3, Option.bind_some, po_hletE]
        dsimp only
        generalize po_u L3 M 15 (Int32.ofNat (p + 2)) = L4 at *
        have hF3 : mF (po_u L4 (M + 6) (4 * i + 2) (Int32.ofNat 1)) M w (p + 2) := hF.ub (by omega)
        have o4 : mO K (po_u L4 (M + 6) (4 * i + 2) (Int32.ofNat 1)) M := o3.tr (mO_b (by omega))
        generalize po_u L4 (M + 6) (4 * i + 2) (Int32.ofNat 1) = L5 at *
        rw [mf_digit hF3, Option.bind_some, po_hletE]
        dsimp only
        have hF4 : mF (po_u L5 (M + 6) (4 * i + 3) (1 + 0)) M w (p + 2) := hF3.ub (by omega)
        have o5 : mO K (po_u L5 (M + 6) (4 * i + 3) (1 + 0)) M := o4.tr (mO_b (by omega))
        rw [if_neg hF4.ne]
        exact mf_171 hF4 o5
      | some x =>
        have a3 := sD_some hx
        have hp3 := pch_in (w := w) (p := p + 2) (by omega)
        obtain ⟨s3, h3⟩ := ms_ds h2' (lo := 1) (hi := 9) hx (by omega) (by omega)
        have o3 : mO K (po_u L3 M 14 (Int32.ofNat (p + 2 + 1))) M := o2'.tr (mO_u (by omega))
        have t3 : (po_u L3 M 14 (Int32.ofNat (p + 2 + 1))) M 17 = Int32.ofNat i := by rw [po_uu, if_neg (by omega)]; exact t2'
        have b3 : ∀ j, (po_u L3 M 14 (Int32.ofNat (p + 2 + 1))) (M + 6) j = L3 (M + 6) j := fun j => by rw [po_u_ne (by omega)]
        rw [show m_X8_digit L3 M 1 9 = _ from s3, Option.bind_some, po_hletE]
        dsimp only
        generalize po_u L3 M 14 (Int32.ofNat (p + 2 + 1)) = L4 at *
        have h3' : mS (po_u L4 (M + 6) (4 * i + 2) (Int32.ofNat x)) M w (p + 3) N := h3.ub
        have o3' : mO K (po_u L4 (M + 6) (4 * i + 2) (Int32.ofNat x)) M := o3.tr (mO_b (by omega))
        have t3' : (po_u L4 (M + 6) (4 * i + 2) (Int32.ofNat x)) M 17 = Int32.ofNat i := by rw [po_u_ne (by omega)]; exact t3
        have b3' : (∀ j, j < 4 * i + 2 → (po_u L4 (M + 6) (4 * i + 2) (Int32.ofNat x)) (M + 6) j = L3 (M + 6) j) ∧ (po_u L4 (M + 6) (4 * i + 2) (Int32.ofNat x)) (M + 6) (4 * i + 2) = Int32.ofNat x := ⟨fun j hj => by rw [po_uu, if_neg (by omega)]; exact b3 j, po_uaa _ _ _ _⟩
        generalize po_u L4 (M + 6) (4 * i + 2) (Int32.ofNat x) = L5 at *
        cases hy : sD w 48 1 10 (p + 3) with
        | none =>
          obtain ⟨s4, hF⟩ := ms_dn h3' (lo := 1) (hi := 9) hy (by omega) (by omega)
          have o4 : mO K (po_u L5 M 15 (Int32.ofNat (p + 3))) M := o3'.tr (mO_u (by omega))
          rw [show m_X8_digit L5 M 1 9 = _ from s4, Option.bind_some, po_hletE]
          dsimp only
          generalize po_u L5 M 15 (Int32.ofNat (p + 3)) = L6 at *
          have hF4 : mF (po_u L6 (M + 6) (4 * i + 3) (Int32.ofNat 1)) M w (p + 3) := hF.ub (by omega)
          have o5 : mO K (po_u L6 (M + 6) (4 * i + 3) (Int32.ofNat 1)) M := o4.tr (mO_b (by omega))
          rw [if_neg hF4.ne]
          exact mf_171 hF4 o5
        | some y =>
          have a4 := sD_some hy
          have hp4 := pch_in (w := w) (p := p + 3) (by omega)
          obtain ⟨s4, h4⟩ := ms_ds h3' (lo := 1) (hi := 9) hy (by omega) (by omega)
          have o4 : mO K (po_u L5 M 14 (Int32.ofNat (p + 3 + 1))) M := o3'.tr (mO_u (by omega))
          have t4 : (po_u L5 M 14 (Int32.ofNat (p + 3 + 1))) M 17 = Int32.ofNat i := by rw [po_uu, if_neg (by omega)]; exact t3'
          have b4 : ∀ j, (po_u L5 M 14 (Int32.ofNat (p + 3 + 1))) (M + 6) j = L5 (M + 6) j := fun j => by rw [po_u_ne (by omega)]
          rw [show m_X8_digit L5 M 1 9 = _ from s4, Option.bind_some, po_hletE]
          dsimp only
          generalize po_u L5 M 14 (Int32.ofNat (p + 3 + 1)) = L6 at *
          have h4' : mS (po_u L6 (M + 6) (4 * i + 3) (Int32.ofNat y)) M w (p + 4) N := h4.ub
          have o4' : mO K (po_u L6 (M + 6) (4 * i + 3) (Int32.ofNat y)) M := o4.tr (mO_b (by omega))
          have t4' : (po_u L6 (M + 6) (4 * i + 3) (Int32.ofNat y)) M 17 = Int32.ofNat i := by rw [po_u_ne (by omega)]; exact t4
          have b4' : (∀ j, j < 4 * i + 3 → (po_u L6 (M + 6) (4 * i + 3) (Int32.ofNat y)) (M + 6) j = L5 (M + 6) j) ∧ (po_u L6 (M + 6) (4 * i + 3) (Int32.ofNat y)) (M + 6) (4 * i + 3) = Int32.ofNat y := ⟨fun j hj => by rw [po_uu, if_neg (by omega)]; exact b4 j, po_uaa _ _ _ _⟩
          generalize po_u L6 (M + 6) (4 * i + 3) (Int32.ofNat y) = L7 at *
          have v0 : L7 (M + 6) (4 * i) = Int32.ofNat c := (b4'.1 _ (by omega)).trans ((b3'.1 _ (by omega)).trans ((b2'.1 _ (by omega)).trans b1.2))
          have v1 : L7 (M + 6) (4 * i + 1) = Int32.ofNat d := (b4'.1 _ (by omega)).trans ((b3'.1 _ (by omega)).trans b2'.2)
          have v2 : L7 (M + 6) (4 * i + 2) = Int32.ofNat x := (b4'.1 _ (by omega)).trans b3'.2
          have v3 : L7 (M + 6) (4 * i + 3) = Int32.ofNat y := b4'.2
          have vv : ∀ j, j < 4 * i → L7 (M + 6) j = K (M + 6) j := fun j hj => (b4'.1 _ (by omega)).trans ((b3'.1 _ (by omega)).trans ((b2'.1 _ (by omega)).trans (b1.1 j hj)))
          have h17' : L7 M 17 = Int32.ofNat i := t4'
          rw [if_pos h4'.2.2.1, v0, v1, v2, v3, pl_add, pl_add]
          have f166 : ∃ K', m_X8_readArea_166 (m_X8_readArea_5L (f + 1)) L7 M (Int32.ofNat p) = some K' ∧ mO K K' M ∧ mF K' M w p := by
            unfold m_X8_readArea_166
            rw [ms_fault h4'.2.2.1, Option.bind_some]
            exact mf_171 (h4'.bad (by omega)) (o4'.tr (mO_u (by omega)))
          by_cases c1 : 20 < c + x
          · rw [if_pos (show (20 : Int32) < Int32.ofNat (c + x) from (pl_lt (a := 20) (by omega) (by omega)).mpr c1), if_pos (Or.inl c1)]
            exact f166
          · rw [if_neg (show ¬ (20 : Int32) < Int32.ofNat (c + x) from mt (pl_lt (a := 20) (by omega) (by omega)).mp c1)]
            by_cases c2 : 14 < d + y
            · rw [if_neg (show ¬ Int32.ofNat (d + y) ≤ (14 : Int32) from mt (pl_le (b := 14) (by omega) (by omega)).mp (by omega)), if_pos (Or.inr c2)]
              exact f166
            · rw [if_pos (show Int32.ofNat (d + y) ≤ (14 : Int32) from (pl_le (b := 14) (by omega) (by omega)).mpr (by omega)), if_neg (by omega)]
              unfold m_X8_readArea_171
              rw [h17', show Int32.ofNat i + 1 = Int32.ofNat (i + 1) from pl_add i 1, po_hletE]
              refine ⟨_, rfl, o4'.tr (mO_u (by omega)), h4'.u17, po_uaa _ _ _ _, fun j hj => ?_, fun j hj => by rw [po_u_ne (by omega)]; exact vv j hj⟩
              rw [po_u_ne (by omega)]
              have hj4 : j = 0 ∨ j = 1 ∨ j = 2 ∨ j = 3 := by omega
              rcases hj4 with rfl | rfl | rfl | rfl
              · exact v0
              · exact v1
              · exact v2
              · exact v3
end QE3
