/-! THE MODEL READS: signs -/
section QE2
variable {I J K : po_I} {M p p' k n e : Nat} {w : pW} {N N' : po_N}
/-- the model reads the text w at p; its row is N -/
def mS (K : po_I) (M : Nat) (w : pW) (p : Nat) (N : po_N) : Prop := K M 13 = Int32.ofNat w.1 ∧ K M 14 = Int32.ofNat p ∧ K M 15 = -1 ∧ (∀ j, j < w.1 → K (M + 5) j = Int32.ofNat (w.2 j)) ∧ pwo w ∧ p ≤ w.1 ∧ psame N (K (M + 1))
/-- it has found an error at e -/
def mF (K : po_I) (M : Nat) (w : pW) (e : Nat) : Prop := K M 13 = Int32.ofNat w.1 ∧ w.1 ≤ 60 ∧ (∃ p, p ≤ 60 ∧ K M 14 = Int32.ofNat p) ∧ K M 15 = Int32.ofNat e ∧ e ≤ 60
def mO (K K' : po_I) (M : Nat) : Prop := (∀ q, q ≠ M → q ≠ M + 1 → q ≠ M + 6 → K' q = K q) ∧ ∀ j, j ≠ 14 → j ≠ 15 → j ≠ 17 → K' M j = K M j
theorem mO.rf : mO K K M := ⟨fun _ _ _ _ => rfl, fun _ _ _ _ => rfl⟩
theorem mO.tr (h : mO K J M) (h2 : mO J I M) : mO K I M := ⟨fun q a b c => (h2.1 q a b c).trans (h.1 q a b c), fun j a b c => (h2.2 j a b c).trans (h.2 j a b c)⟩
theorem mO_u {j : Nat} {v : Int32} (hj : j = 14 ∨ j = 15 ∨ j = 17) : mO K (po_u K M j v) M := ⟨fun q a _ _ => po_u_ne a, fun i a b c => by rw [po_uu, if_neg (by omega)]⟩
theorem mO_b {j q : Nat} {v : Int32} (hq : q = M + 1 ∨ q = M + 6) : mO K (po_u K q j v) M := ⟨fun q' a b c => po_u_ne (by omega), fun i a b c => by rw [po_u_ne (by omega)]⟩
theorem mS.to (h : mS K M w p N) {q : Nat} (hq : q ≤ w.1) : mS (po_u K M 14 (Int32.ofNat q)) M w q N := by
  obtain ⟨h1, h2, h3, h4, h5, h6, h7⟩ := h
  exact ⟨by rw [po_uu, if_neg (by omega)]; exact h1, po_uaa _ _ _ _, by rw [po_uu, if_neg (by omega)]; exact h3, fun j hj => by rw [po_u_ne (by omega)]; exact h4 j hj, h5, hq, by rw [po_u_ne (by omega)]; exact h7⟩
theorem mS.bad (h : mS K M w p N) {x : Nat} (hx : x ≤ 60) : mF (po_u K M 15 (Int32.ofNat x)) M w x := by
  obtain ⟨h1, h2, h3, h4, h5, h6, h7⟩ := h
  exact ⟨by rw [po_uu, if_neg (by omega)]; exact h1, h5.1, ⟨p, by have := h5.1; omega, by rw [po_uu, if_neg (by omega)]; exact h2⟩, po_uaa _ _ _ _, hx⟩
theorem mF.ne (h : mF K M w e) : ¬ K M 15 = -1 := by
  rw [h.2.2.2.1]
  exact (pl_neg1 (by have := h.2.2.2.2; omega)).mp
theorem mF.u17 (h : mF K M w e) {v : Int32} : mF (po_u K M 17 v) M w e := by
  obtain ⟨h1, h2, ⟨p, h3, h4⟩, h5, h6⟩ := h
  exact ⟨by rw [po_uu, if_neg (by omega)]; exact h1, h2, ⟨p, h3, by rw [po_uu, if_neg (by omega)]; exact h4⟩, by rw [po_uu, if_neg (by omega)]; exact h5, h6⟩
theorem mF.ub {q j : Nat} {v : Int32} (h : mF K M w e) (hq : q ≠ M) : mF (po_u K q j v) M w e := by
  obtain ⟨h1, h2, ⟨p, h3, h4⟩, h5, h6⟩ := h
  exact ⟨by rw [po_u_ne (by omega)]; exact h1, h2, ⟨p, h3, by rw [po_u_ne (by omega)]; exact h4⟩, by rw [po_u_ne (by omega)]; exact h5, h6⟩
theorem mf_fault (h : mF K M w e) (x : Int32) : m_X8_faultAt K M x = some K := by
  unfold m_X8_faultAt m_X8_faultAt_e m_X8_faultAt_17
  rw [if_neg h.ne, po_hletE, po_u_self]
theorem ms_fault (h : K M 15 = -1) (x : Int32) : m_X8_faultAt K M x = some (po_u K M 15 x) := by
  unfold m_X8_faultAt m_X8_faultAt_e m_X8_faultAt_17
  rw [if_pos h, po_hletE]
theorem mf_sign (h : mF K M w e) : ∃ v, m_X8_sign K M = some v := by
  obtain ⟨h1, h2, ⟨p, h3, h4⟩, h5, h6⟩ := h
  unfold m_X8_sign m_X8_sign_e m_X8_sign_24
  rw [h1, h4]
  by_cases c : w.1 ≤ p
  · rw [if_pos ((pl_le (by omega) (by omega)).mpr c)]
    exact ⟨_, rfl⟩
  · rw [if_neg (mt (pl_le (by omega) (by omega)).mp c), if_pos (pl_inl (by omega) (by omega))]
    exact ⟨_, rfl⟩
theorem mf_sign_ (h : mF K M w e) (a b : Int32) : m_X8_sign_ K M a b = some (0, K) := by
  obtain ⟨v, hv⟩ := mf_sign h
  unfold m_X8_sign_ m_X8_sign__e m_X8_sign__39
  rw [hv, Option.bind_some, po_letE, if_neg h.ne, mf_fault h, Option.bind_some]
theorem mf_digit (h : mF K M w e) (a b : Int32) : m_X8_digit K M a b = some (a + 0, K) := by
  unfold m_X8_digit m_X8_digit_e
  rw [mf_sign_ h, Option.bind_some]
theorem mf_must (h : mF K M w e) (c : Int32) : m_X8_must K M c = some K := by
  unfold m_X8_must m_X8_must_e m_X8_must_29 m_X8_must_37
  rw [if_neg h.ne, mf_fault h, Option.bind_some]
theorem mf_number (h : mF K M w e) (a b : Int32) : m_X8_number K M a b = some (0 + 0, K) := by
  unfold m_X8_number m_X8_number_e m_X8_number_66 m_X8_number_89
  rw [po_letE, mf_digit h, Option.bind_some, po_letE, if_neg h.ne, if_neg h.ne]
theorem mf_which (h : mF K M w e) (a : Int32) : ∃ v, m_X8_which K M a = some (v, K) := by
  unfold m_X8_which m_X8_which_e
  by_cases c : a = 0
  · rw [if_pos c, mf_fault h, Option.bind_some]
    exact ⟨_, rfl⟩
  · rw [if_neg c, mf_digit h, Option.bind_some]
    exact ⟨_, rfl⟩
theorem mf_area (h : mF K M w e) : m_X8_readArea K M = some (po_u K M 17 0) := by
  unfold m_X8_readArea m_X8_readArea_e
  rw [po_hletE]
  show m_X8_readArea_5 (m_X8_readArea_5L 4999) (po_u K M 17 0) M = _
  unfold m_X8_readArea_5 m_X8_readArea_184
  rw [if_neg (h.u17 (v := 0)).ne]
/-! the text goes on -/
def sg (w : pW) (p : Nat) : Int32 := if p < w.1 then Int32.ofNat (pch w p) else -1
theorem ms_sign (h : mS K M w p N) : m_X8_sign K M = some (sg w p) := by
  obtain ⟨h1, h2, h3, h4, h5, h6, h7⟩ := h
  have h60 := h5.1
  unfold m_X8_sign m_X8_sign_e m_X8_sign_24 sg pch
  rw [h1, h2]
  by_cases c : p < w.1
  · rw [if_neg (mt (pl_le (by omega) (by omega)).mp (by omega)), if_pos (pl_inl (by omega) (by omega)), pl_clamp (by omega), h4 p c, if_pos c, if_pos c]
  · rw [if_pos ((pl_le (by omega) (by omega)).mpr (by omega)), if_neg c]
theorem ms_isIn (h5 : pwo w) {a b : Nat} (ha : 0 < a) (ha2 : a < 1000) (hb : b < 1000) : m_X8_isIn (sg w p) (Int32.ofNat a) (Int32.ofNat b) = some (pb (decide (a ≤ pch w p ∧ pch w p ≤ b))) := by
  have hc := pch_le h5 p
  unfold m_X8_isIn m_X8_isIn_e m_X8_isIn_14 m_X8_isIn_15 sg
  by_cases c : p < w.1
  · rw [if_pos c]
    by_cases c1 : a ≤ pch w p
    · rw [if_neg (mt (pl_lt (by omega) (by omega)).mp (by omega))]
      by_cases c2 : pch w p ≤ b
      · rw [if_neg (mt (pl_lt (by omega) (by omega)).mp (by omega)), decide_eq_true ⟨c1, c2⟩]
        rfl
      · rw [if_pos ((pl_lt (by omega) (by omega)).mpr (by omega)), decide_eq_false (fun h => c2 h.2)]
        rfl
    · rw [if_pos ((pl_lt (by omega) (by omega)).mpr (by omega)), decide_eq_false (fun h => c1 h.1)]
      rfl
  · have e0 : pch w p = 0 := if_neg c
    rw [if_neg c, e0, if_pos (Int32.lt_of_lt_of_le (show (-1 : Int32) < 0 by decide) (pl_nonneg (by omega))), decide_eq_false (by omega)]
    rfl
theorem ms_sign_ (h : mS K M w p N) {a b : Nat} (ha : 0 < a) (ha2 : a < 1000) (hb : b < 1000) : m_X8_sign_ K M (Int32.ofNat a) (Int32.ofNat b) = if a ≤ pch w p ∧ pch w p ≤ b then some (Int32.ofNat (pch w p - a), po_u K M 14 (Int32.ofNat (p + 1))) else some (0, po_u K M 15 (Int32.ofNat p)) := by
  unfold m_X8_sign_ m_X8_sign__e m_X8_sign__39
  rw [ms_sign h, Option.bind_some, po_letE, if_pos h.2.2.1, Option.bind_some, ms_isIn h.2.2.2.2.1 ha ha2 hb, Option.bind_some, h.2.1, show Int32.ofNat p + 1 = Int32.ofNat (p + 1) from pl_add p 1, po_hletE]
  by_cases c : a ≤ pch w p ∧ pch w p ≤ b
  · have hp := pch_in (w := w) (p := p) (by omega)
    rw [if_pos c, decide_eq_true c, if_neg (show ¬ pb true = 0 by decide)]
    unfold sg
    rw [if_pos hp, pl_sub c.1]
  · rw [if_neg c, decide_eq_false c, if_pos (show pb false = 0 from rfl), ms_fault h.2.2.1, Option.bind_some]
theorem ms_c48 {k : Nat} (hk : k < 10) : (Int32.toUInt32 (48 + Int32.ofNat k) % 65536).toInt32 = Int32.ofNat (48 + k) := by
  have key : ∀ k, k < 10 → (Int32.toUInt32 (48 + Int32.ofNat k) % 65536).toInt32 = Int32.ofNat (48 + k) := by decide +kernel
  exact key k hk
theorem ms_digit (h : mS K M w p N) {lo hi : Nat} (hlo : lo < 10) (hhi : hi < 10) : m_X8_digit K M (Int32.ofNat lo) (Int32.ofNat hi) = match sD w 48 lo (hi + 1) p with
    | some v => some (Int32.ofNat v, po_u K M 14 (Int32.ofNat (p + 1)))
    | none => some (Int32.ofNat lo, po_u K M 15 (Int32.ofNat p)) := by
  unfold m_X8_digit m_X8_digit_e sD
  rw [ms_c48 hlo, ms_c48 hhi, ms_sign_ h (by omega) (by omega) (by omega)]
  by_cases c : 48 + lo ≤ pch w p ∧ pch w p ≤ 48 + hi
  · rw [if_pos c, if_pos (by omega), Option.bind_some, pl_add, show lo + (pch w p - (48 + lo)) = pch w p - 48 by omega]
  · rw [if_neg c, if_neg (by omega), Option.bind_some]
    exact congrArg some (Prod.ext (pl_add lo 0) rfl)
theorem ms_ds (h : mS K M w p N) {lo hi v : Nat} (hd : sD w 48 lo (hi + 1) p = some v) (hlo : lo < 10) (hhi : hi < 10) : m_X8_digit K M (Int32.ofNat lo) (Int32.ofNat hi) = some (Int32.ofNat v, po_u K M 14 (Int32.ofNat (p + 1))) ∧ mS (po_u K M 14 (Int32.ofNat (p + 1))) M w (p + 1) N := by
  have a1 := sD_some hd
  have hp := pch_in (w := w) (p := p) (by omega)
  have y := ms_digit h hlo hhi
  rw [hd] at y
  exact ⟨y, h.to (by omega)⟩
theorem ms_dn (h : mS K M w p N) {lo hi : Nat} (hd : sD w 48 lo (hi + 1) p = none) (hlo : lo < 10) (hhi : hi < 10) : m_X8_digit K M (Int32.ofNat lo) (Int32.ofNat hi) = some (Int32.ofNat lo, po_u K M 15 (Int32.ofNat p)) ∧ mF (po_u K M 15 (Int32.ofNat p)) M w p := by
  have y := ms_digit h hlo hhi
  have h5 := h.2.2.2.2.1.1
  have h6 := h.2.2.2.2.2.1
  rw [hd] at y
  exact ⟨y, h.bad (by omega)⟩
theorem ms_which (h : mS K M w p N) {m : Nat} (hm : m < 11) : match sD w 48 0 m p with
    | some v => m_X8_which K M (Int32.ofNat m) = some (Int32.ofNat v, po_u K M 14 (Int32.ofNat (p + 1)))
    | none => ∃ v, m_X8_which K M (Int32.ofNat m) = some (v, po_u K M 15 (Int32.ofNat p)) := by
  unfold m_X8_which m_X8_which_e
  by_cases c : m = 0
  · have e : sD w 48 0 m p = none := by
      unfold sD
      rw [if_neg (by omega)]
    rw [e]
    refine ⟨0, ?_⟩
    rw [c, if_pos (show Int32.ofNat 0 = 0 from rfl), ms_fault h.2.2.1, Option.bind_some, h.2.1]
  · rw [if_neg (show ¬ Int32.ofNat m = 0 from pk_ne (b := 0) (by omega) (by omega) c), show Int32.ofNat m - 1 = Int32.ofNat (m - 1) from pl_sub (a := m) (b := 1) (by omega)]
    have em : (if Int32.ofNat (m - 1) < 9 then Int32.ofNat (m - 1) else 9) = Int32.ofNat (m - 1) := by
      by_cases c9 : m - 1 < 9
      · rw [if_pos (show Int32.ofNat (m - 1) < 9 from (pl_lt (b := 9) (by omega) (by omega)).mpr c9)]
      · rw [if_neg (show ¬ Int32.ofNat (m - 1) < 9 from mt (pl_lt (b := 9) (by omega) (by omega)).mp c9), show m - 1 = 9 by omega]
        rfl
    have y := ms_digit h (lo := 0) (hi := m - 1) (by omega) (by omega)
    rw [em, show m_X8_digit K M 0 (Int32.ofNat (m - 1)) = _ from y, show m - 1 + 1 = m by omega]
    cases sD w 48 0 m p with
    | some v => rfl
    | none => exact ⟨_, rfl⟩
theorem ms_must (h : mS K M w p N) {c : Nat} (hc : 0 < c) (hc2 : c < 1000) : m_X8_must K M (Int32.ofNat c) = if pch w p = c then some (po_u K M 14 (Int32.ofNat (p + 1))) else some (po_u K M 15 (Int32.ofNat p)) := by
  have hch := pch_le h.2.2.2.2.1 p
  unfold m_X8_must m_X8_must_e m_X8_must_29 m_X8_must_37
  rw [if_pos h.2.2.1, ms_sign h, Option.bind_some, h.2.1, show Int32.ofNat p + 1 = Int32.ofNat (p + 1) from pl_add p 1, po_hletE, ms_fault h.2.2.1, Option.bind_some]
  unfold sg
  by_cases e : pch w p = c
  · have hp := pch_in (w := w) (p := p) (by omega)
    rw [if_pos hp, if_pos (congrArg Int32.ofNat e), if_pos e]
  · rw [if_neg e]
    by_cases hp : p < w.1
    · rw [if_pos hp, if_neg (pk_ne (by omega) (by omega) e)]
    · rw [if_neg hp, if_neg (fun h => (pl_neg1 (a := c) (by omega)).mp h.symm)]
end QE2
