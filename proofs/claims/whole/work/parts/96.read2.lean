/-! THE READER: fronts and areas, by the class -/
section QD2
variable {I J : po_I} {r p a t : Nat} {w : pW} {S T : Int32 → Int32 → Bool}
theorem x_rvs (h : rS I r w p) {z lo hi v : Nat} (hd : sD w z lo (hi + 1) p = some v) (hz : 0 < z) (hz2 : z < 1000) (hlo : lo < 1000) (hhi : hi < 1000) : m_X3_readValue I r (Int32.ofNat z) (Int32.ofNat lo) (Int32.ofNat hi) = some (Int32.ofNat v, po_u I r 2 (Int32.ofNat (p + 1))) ∧ rS (po_u I r 2 (Int32.ofNat (p + 1))) r w (p + 1) := by
  have a1 := sD_some hd
  have b1 := pch_in (w := w) (p := p) (by omega)
  have e := x_readVc h (z := z) (lo := lo) (hi := hi) hz2 hlo hhi
  rw [hd] at e
  exact ⟨e, h.to (by omega)⟩
theorem x_rvn (h : rS I r w p) {z lo hi : Nat} (hd : sD w z lo (hi + 1) p = none) (hz2 : z < 1000) (hlo : lo < 1000) (hhi : hi < 1000) : m_X3_readValue I r (Int32.ofNat z) (Int32.ofNat lo) (Int32.ofNat hi) = some (-1, po_u I r 3 (Int32.ofNat p)) := by
  have e := x_readVc h (z := z) (lo := lo) (hi := hi) hz2 hlo hhi
  rw [hd] at e
  exact e
def sF (w : pW) (p : Nat) : Option Nat := if pch w p = 78 then some 0 else if pch w p = 69 then some 1 else if pch w p = 83 then some 2 else if pch w p = 87 then some 3 else none
theorem x_frn (h : rS I r w p) (hd : sF w p = none) : ∃ I', m_X3_readFront I r = some (-1, I') ∧ (∀ q, q ≠ r → I' q = I q) ∧ I' r 3 = Int32.ofNat p := by
  have hc := pch_le h.2.2.2.2.1 p
  have hp := h.2.2.2.2.2
  have hw := h.2.2.2.2.1.1
  unfold sF at hd
  by_cases e1 : pch w p = 78
  · rw [if_pos e1] at hd; cases hd
  by_cases e2 : pch w p = 69
  · rw [if_neg e1, if_pos e2] at hd; cases hd
  by_cases e3 : pch w p = 83
  · rw [if_neg e1, if_neg e2, if_pos e3] at hd; cases hd
  by_cases e4 : pch w p = 87
  · rw [if_neg e1, if_neg e2, if_neg e3, if_pos e4] at hd; cases hd
  refine ⟨po_u (po_u I r 2 (Int32.ofNat (p + 1))) r 3 (Int32.ofNat p), ?_, fun q hq => by rw [po_u_ne hq, po_u_ne hq], po_uaa _ _ _ _⟩
  unfold m_X3_readFront m_X3_readFront_e m_X3_failAt m_X3_failAt_e
  rw [x_next h, Option.bind_some, h.2.1, show Int32.ofNat p + 1 = Int32.ofNat (p + 1) from pl_add p 1, po_hletE, if_neg (show ¬ Int32.ofNat (pch w p) = 69 from pk_ne (b := 69) (by omega) (by omega) e2), if_neg (show ¬ Int32.ofNat (pch w p) = 78 from pk_ne (b := 78) (by omega) (by omega) e1), if_neg (show ¬ Int32.ofNat (pch w p) = 83 from pk_ne (b := 83) (by omega) (by omega) e3), if_neg (show ¬ Int32.ofNat (pch w p) = 87 from pk_ne (b := 87) (by omega) (by omega) e4), po_hletE, Option.bind_some, po_uaa, show Int32.ofNat (p + 1) - 1 = Int32.ofNat p from pl_sub (a := p + 1) (b := 1) (by omega)]
theorem x_frs {v : Nat} (h : rS I r w p) (hd : sF w p = some v) : v < 4 ∧ p < w.1 ∧ m_X3_readFront I r = some (Int32.ofNat v, po_u I r 2 (Int32.ofNat (p + 1))) ∧ rS (po_u I r 2 (Int32.ofNat (p + 1))) r w (p + 1) := by
  have hc := pch_le h.2.2.2.2.1 p
  have hin : p < w.1 ∧ v < 4 := by
    unfold sF at hd
    by_cases e0 : p < w.1
    · refine ⟨e0, ?_⟩
      repeat (split at hd; (obtain rfl := Option.some.inj hd; omega))
      cases hd
    · have : pch w p = 0 := by unfold pch; rw [if_neg e0]
      rw [this] at hd
      cases hd
  refine ⟨hin.2, hin.1, ?_, h.to (by omega)⟩
  unfold sF at hd
  unfold m_X3_readFront m_X3_readFront_e
  rw [x_next h, Option.bind_some, h.2.1, show Int32.ofNat p + 1 = Int32.ofNat (p + 1) from pl_add p 1, po_hletE]
  by_cases e1 : pch w p = 78
  · rw [if_pos e1] at hd
    obtain rfl := Option.some.inj hd
    rw [e1]
    rfl
  by_cases e2 : pch w p = 69
  · rw [if_neg e1, if_pos e2] at hd
    obtain rfl := Option.some.inj hd
    rw [e2]
    rfl
  by_cases e3 : pch w p = 83
  · rw [if_neg e1, if_neg e2, if_pos e3] at hd
    obtain rfl := Option.some.inj hd
    rw [e3]
    rfl
  by_cases e4 : pch w p = 87
  · rw [if_neg e1, if_neg e2, if_neg e3, if_pos e4] at hd
    obtain rfl := Option.some.inj hd
    rw [e4]
    rfl
  rw [if_neg e1, if_neg e2, if_neg e3, if_neg e4] at hd
  cases hd
/-- what a reading of cells leaves -/
def xA (I : po_I) (r a : Nat) (w : pW) (res : Option (Int32 × po_I)) (s : Nat ⊕ ((Int32 → Int32 → Bool) × Nat)) : Prop := match s with
  | .inl e => ∃ I', res = some (0, I') ∧ (∀ q, q ≠ r → q ≠ a + 1 → I' q = I q) ∧ I' r 3 = Int32.ofNat e
  | .inr (S, q) => ∃ I', res = some (1, I') ∧ (∀ d, d ≠ r → d ≠ a + 1 → I' d = I d) ∧ rS I' r w q ∧ pAR I' a S
theorem xA.of {res : Option (Int32 × po_I)} {s : Nat ⊕ ((Int32 → Int32 → Bool) × Nat)} (h : xA J r a w res s) (e : ∀ q, q ≠ r → q ≠ a + 1 → J q = I q) : xA I r a w res s := by
  unfold xA at h ⊢
  match s with
  | .inl _ =>
    obtain ⟨I', h1, h2, h3⟩ := h
    exact ⟨I', h1, fun q a1 a2 => (h2 q a1 a2).trans (e q a1 a2), h3⟩
  | .inr (_, _) =>
    obtain ⟨I', h1, h2, h3⟩ := h
    exact ⟨I', h1, fun q a1 a2 => (h2 q a1 a2).trans (e q a1 a2), h3⟩
def sT (w : pW) (S : Int32 → Int32 → Bool) (p : Nat) : Nat ⊕ ((Int32 → Int32 → Bool) × Nat) := match sR w p with
  | .inl e => .inl e
  | .inr (q, p') => .inr (fun c r => S c r || pQr q c r, p')
theorem pAR_u {j : Nat} {v : Int32} (h : pAR I a S) (hr : r ≠ a + 1) : pAR (po_u I r j v) a S := h.mv (po_u_ne (by omega))
theorem x_readRectangle (h : rS I r w p) (hS : pAR I a S) (h1 : r ≠ a + 1) (h2 : r ≠ a) : xA I r a w (m_X3_readRectangle I r a) (sT w S p) := by
  have hfin : ∀ (K : po_I), (∀ q, q ≠ r → K q = I q) → ∀ e, xA I r a w (some (0, po_u K r 3 (Int32.ofNat e))) (.inl e) := fun K hK e => ⟨_, rfl, fun q a1 _ => by rw [po_u_ne a1, hK q a1], po_uaa _ _ _ _⟩
  unfold m_X3_readRectangle m_X3_readRectangle_e m_X3_readRectangle_98 m_X3_failAt m_X3_failAt_e
  rw [po_letE, h.2.1]
  cases hc : sD w 97 0 20 p with
  | none =>
    rw [show sT w S p = .inl p by unfold sT sR; rw [hc], show m_X3_readValue I r 97 0 19 = _ from x_rvn h (z := 97) (lo := 0) (hi := 19) hc (by omega) (by omega) (by omega), Option.bind_some, po_letE, if_pos rfl]
    exact hfin I (fun _ _ => rfl) p
  | some c =>
    obtain ⟨y1, h1'⟩ := x_rvs h (z := 97) (lo := 0) (hi := 19) hc (by omega) (by omega) (by omega) (by omega)
    have a1 := sD_some hc
    rw [show m_X3_readValue I r 97 0 19 = _ from y1, Option.bind_some, po_letE, if_neg (show ¬ Int32.ofNat c = -1 from (pl_neg1 (by omega)).mp)]
    have k1 : ∀ q, q ≠ r → (po_u I r 2 (Int32.ofNat (p + 1))) q = I q := fun q hq => po_u_ne hq
    generalize po_u I r 2 (Int32.ofNat (p + 1)) = I1 at *
    show xA I r a w (Option.bind (m_X3_readValue I1 r 97 0 13) _) _
    cases hd : sD w 97 0 14 (p + 1) with
    | none =>
      rw [show sT w S p = .inl (p + 1) by unfold sT sR; rw [hc]; dsimp only; rw [hd], show m_X3_readValue I1 r 97 0 13 = _ from x_rvn h1' (z := 97) (lo := 0) (hi := 13) hd (by omega) (by omega) (by omega), Option.bind_some, po_letE, if_pos rfl]
      exact hfin I1 k1 _
    | some d =>
      obtain ⟨y2, h2'⟩ := x_rvs h1' (z := 97) (lo := 0) (hi := 13) hd (by omega) (by omega) (by omega) (by omega)
      have a2 := sD_some hd
      rw [show m_X3_readValue I1 r 97 0 13 = _ from y2, Option.bind_some, po_letE, if_neg (show ¬ Int32.ofNat d = -1 from (pl_neg1 (by omega)).mp)]
      have k2 : ∀ q, q ≠ r → (po_u I1 r 2 (Int32.ofNat (p + 1 + 1))) q = I q := fun q hq => by rw [po_u_ne hq, k1 q hq]
      generalize po_u I1 r 2 (Int32.ofNat (p + 1 + 1)) = I2 at *
      show xA I r a w (Option.bind (m_X3_readValue I2 r 48 1 9) _) _
      cases hx : sD w 48 1 10 (p + 2) with
      | none =>
        rw [show sT w S p = .inl (p + 2) by unfold sT sR; rw [hc]; dsimp only; rw [hd]; dsimp only; rw [hx], show m_X3_readValue I2 r 48 1 9 = _ from x_rvn h2' (z := 48) (lo := 1) (hi := 9) hx (by omega) (by omega) (by omega), Option.bind_some, po_letE, if_pos rfl]
        exact hfin I2 k2 _
      | some x =>
        obtain ⟨y3, h3'⟩ := x_rvs h2' (z := 48) (lo := 1) (hi := 9) hx (by omega) (by omega) (by omega) (by omega)
        have a3 := sD_some hx
        rw [show m_X3_readValue I2 r 48 1 9 = _ from y3, Option.bind_some, po_letE, if_neg (show ¬ Int32.ofNat x = -1 from (pl_neg1 (by omega)).mp)]
        have k3 : ∀ q, q ≠ r → (po_u I2 r 2 (Int32.ofNat (p + 1 + 1 + 1))) q = I q := fun q hq => by rw [po_u_ne hq, k2 q hq]
        generalize po_u I2 r 2 (Int32.ofNat (p + 1 + 1 + 1)) = I3 at *
        show xA I r a w (Option.bind (m_X3_readValue I3 r 48 1 9) _) _
        cases hy : sD w 48 1 10 (p + 3) with
        | none =>
          rw [show sT w S p = .inl (p + 3) by unfold sT sR; rw [hc]; dsimp only; rw [hd]; dsimp only; rw [hx]; dsimp only; rw [hy], show m_X3_readValue I3 r 48 1 9 = _ from x_rvn h3' (z := 48) (lo := 1) (hi := 9) hy (by omega) (by omega) (by omega), Option.bind_some, po_letE, if_pos rfl]
          exact hfin I3 k3 _
        | some y =>
          obtain ⟨y4, h4'⟩ := x_rvs h3' (z := 48) (lo := 1) (hi := 9) hy (by omega) (by omega) (by omega) (by omega)
          have a4 := sD_some hy
          rw [show m_X3_readValue I3 r 48 1 9 = _ from y4, Option.bind_some, po_letE, if_neg (show ¬ Int32.ofNat y = -1 from (pl_neg1 (by omega)).mp)]
          have k4 : ∀ q, q ≠ r → (po_u I3 r 2 (Int32.ofNat (p + 1 + 1 + 1 + 1))) q = I q := fun q hq => by rw [po_u_ne hq, k3 q hq]
          generalize po_u I3 r 2 (Int32.ofNat (p + 1 + 1 + 1 + 1)) = I4 at *
          show xA I r a w (if (20 : Int32) < Int32.ofNat c + Int32.ofNat x then _ else if Int32.ofNat d + Int32.ofNat y ≤ (14 : Int32) then Option.bind (m_X0_addRectangle I4 a (Int32.ofNat c) (Int32.ofNat d) (Int32.ofNat x) (Int32.ofNat y)) _ else _) _
          rw [pl_add, pl_add]
          by_cases b1 : 20 < c + x
          · rw [show sT w S p = .inl p by unfold sT sR; rw [hc]; dsimp only; rw [hd]; dsimp only; rw [hx]; dsimp only; rw [hy]; dsimp only; rw [if_pos (Or.inl b1)], if_pos (show (20 : Int32) < Int32.ofNat (c + x) from (pl_lt (a := 20) (by omega) (by omega)).mpr b1), po_hletE, Option.bind_some, if_pos (show vp_nar .boolean 0 = 0 from rfl)]
            exact hfin I4 k4 _
          · rw [if_neg (show ¬ (20 : Int32) < Int32.ofNat (c + x) from mt (pl_lt (a := 20) (by omega) (by omega)).mp b1)]
            by_cases b2 : 14 < d + y
            · rw [show sT w S p = .inl p by unfold sT sR; rw [hc]; dsimp only; rw [hd]; dsimp only; rw [hx]; dsimp only; rw [hy]; dsimp only; rw [if_pos (Or.inr b2)], if_neg (show ¬ Int32.ofNat (d + y) ≤ (14 : Int32) from mt (pl_le (b := 14) (by omega) (by omega)).mp (by omega)), po_hletE, Option.bind_some, if_pos (show vp_nar .boolean 0 = 0 from rfl)]
              exact hfin I4 k4 _
            · have hS4 : pAR I4 a S := hS.mv (k4 _ (by omega))
              obtain ⟨I5, z1, z2, z3⟩ := x_addRectangle (I := I4) (a := a) (x := c) (y := d) (w := x) (h := y) (by omega) (by omega) (by omega) (by omega) (by omega) hS4
              rw [show sT w S p = .inr (fun e f => S e f || pQr (c, d, x, y) e f, p + 4) by unfold sT sR; rw [hc]; dsimp only; rw [hd]; dsimp only; rw [hx]; dsimp only; rw [hy]; dsimp only; rw [if_neg (by omega)], if_pos (show Int32.ofNat (d + y) ≤ (14 : Int32) from (pl_le (b := 14) (by omega) (by omega)).mpr (by omega)), z1, Option.bind_some]
              exact ⟨I5, rfl, fun q b1 b2 => by rw [z2 q b2, k4 q b1], h4'.mv (z2 r h1) (z2 (r + 1) (by omega)), z3⟩
theorem x_ra3 (f : Nat) : m_X3_readArea_6L (f + 1) I r a 3 = some (1, I) := by
  show m_X3_readArea_6 (m_X3_readArea_6L f) _ _ _ _ = _
  unfold m_X3_readArea_6 m_X3_readArea_40
  rw [if_pos (by decide)]
def sT2 (w : pW) (S : Int32 → Int32 → Bool) (p : Nat) : Nat ⊕ ((Int32 → Int32 → Bool) × Nat) := if pch w p = 59 then .inr (S, p) else match sT w S p with
  | .inl e => .inl e
  | .inr (S', p') => .inr (S', p')
def sT1 (w : pW) (S : Int32 → Int32 → Bool) (p : Nat) : Nat ⊕ ((Int32 → Int32 → Bool) × Nat) := if pch w p = 59 then .inr (S, p) else match sT w S p with
  | .inl e => .inl e
  | .inr (S', p') => sT2 w S' p'
def sT0 (w : pW) (S : Int32 → Int32 → Bool) (p : Nat) : Nat ⊕ ((Int32 → Int32 → Bool) × Nat) := match sT w S p with
  | .inl e => .inl e
  | .inr (S', p') => sT1 w S' p'
theorem x_ra_step (f : Nat) (i : Nat) (hi : i < 3) (U : (Int32 → Int32 → Bool) → Nat → Nat ⊕ ((Int32 → Int32 → Bool) × Nat)) (hU : ∀ {J : po_I} {p S}, rS J r w p → pAR J a S → xA J r a w (m_X3_readArea_6L f J r a (Int32.ofNat (i + 1))) (U S p)) (h : rS I r w p) (hS : pAR I a S) (h1 : r ≠ a + 1) (h2 : r ≠ a) : xA I r a w (m_X3_readArea_24 (m_X3_readArea_6L f) I r a (Int32.ofNat i)) (match sT w S p with
  | .inl e => .inl e
  | .inr (S', p') => U S' p') := by
  have hx := x_readRectangle h hS h1 h2
  unfold m_X3_readArea_24
  unfold xA at hx
  cases e : sT w S p with
  | inl e1 =>
    rw [e] at hx
    obtain ⟨I', y1, y2, y3⟩ := hx
    rw [y1, Option.bind_some, if_pos rfl]
    exact ⟨I', rfl, y2, y3⟩
  | inr Q =>
    obtain ⟨S', p'⟩ := Q
    rw [e] at hx
    obtain ⟨I', y1, y2, y3, y4⟩ := hx
    rw [y1, Option.bind_some, if_neg (show ¬ (1 : Int32) = 0 by decide), show Int32.ofNat i + 1 = Int32.ofNat (i + 1) from pl_add i 1]
    exact (hU y3 y4).of y2
theorem x_ra_stop (f : Nat) (i : Nat) (hi : i < 3) (h0 : 0 < i) (U : (Int32 → Int32 → Bool) → Nat → Nat ⊕ ((Int32 → Int32 → Bool) × Nat)) (hU : ∀ {J : po_I} {p S}, rS J r w p → pAR J a S → xA J r a w (m_X3_readArea_6L f J r a (Int32.ofNat (i + 1))) (U S p)) (h : rS I r w p) (hS : pAR I a S) (h1 : r ≠ a + 1) (h2 : r ≠ a) : xA I r a w (m_X3_readArea_6L (f + 1) I r a (Int32.ofNat i)) (if pch w p = 59 then .inr (S, p) else match sT w S p with
  | .inl e => .inl e
  | .inr (S', p') => U S' p') := by
  have hc := pch_le h.2.2.2.2.1 p
  have hs := x_ra_step f i hi U hU h hS h1 h2
  show xA I r a w (m_X3_readArea_6 (m_X3_readArea_6L f) _ _ _ _) _
  unfold m_X3_readArea_6 m_X3_readArea_40
  rw [if_neg (show ¬ (3 : Int32) ≤ Int32.ofNat i from mt (pl_le (a := 3) (by omega) (by omega)).mp (by omega)), if_neg (show ¬ Int32.ofNat i = 0 from pk_ne (b := 0) (by omega) (by omega) (by omega)), x_next h, Option.bind_some]
  by_cases e : pch w p = 59
  · rw [if_pos (show Int32.ofNat (pch w p) = 59 from congrArg Int32.ofNat e), if_pos e]
    exact ⟨I, rfl, fun _ _ _ => rfl, h, hS⟩
  · rw [if_neg (show ¬ Int32.ofNat (pch w p) = 59 from pk_ne (b := 59) (by omega) (by omega) e), if_neg e]
    exact hs
theorem sT0_eq (w : pW) (p : Nat) : sT0 w (fun _ _ => false) p = match sA w p with
  | .inl e => .inl e
  | .inr (a, q) => .inr (pAs a, q) := by
  unfold sT0 sT1 sT2 sT sA
  cases sR w p with
  | inl e => rfl
  | inr Q =>
    obtain ⟨q1, p1⟩ := Q
    dsimp only
    by_cases e1 : pch w p1 = 59
    · rw [if_pos e1, if_pos e1]
      dsimp only
      exact congrArg Sum.inr (Prod.ext (funext fun c => funext fun r => by unfold pAs; simp) rfl)
    · rw [if_neg e1, if_neg e1]
      cases sR w p1 with
      | inl e => rfl
      | inr Q =>
        obtain ⟨q2, p2⟩ := Q
        dsimp only
        by_cases e2 : pch w p2 = 59
        · rw [if_pos e2, if_pos e2]
          dsimp only
          exact congrArg Sum.inr (Prod.ext (funext fun c => funext fun r => by unfold pAs; simp) rfl)
        · rw [if_neg e2, if_neg e2]
          cases sR w p2 with
          | inl e => rfl
          | inr Q =>
            obtain ⟨q3, p3⟩ := Q
            dsimp only
            exact congrArg Sum.inr (Prod.ext (funext fun c => funext fun r => by unfold pAs; simp) rfl)
theorem x_readArea (h : rS I r w p) (h1 : r ≠ a + 1) (h2 : r ≠ a) : xA I r a w (m_X3_readArea I r a) (match sA w p with
  | .inl e => .inl e
  | .inr (b, q) => .inr (pAs b, q)) := by
  rw [← sT0_eq]
  obtain ⟨I1, y1, y2, y3⟩ := x_clear (I := I) (a := a)
  have h' : rS I1 r w p := h.mv (y2 r h1) (y2 (r + 1) (by omega))
  unfold m_X3_readArea m_X3_readArea_e
  rw [y1, Option.bind_some]
  refine xA.of (J := I1) ?_ (fun q _ b => y2 q b)
  show xA I1 r a w (m_X3_readArea_6 (m_X3_readArea_6L 4999) I1 r a 0) _
  unfold m_X3_readArea_6
  rw [if_neg (show ¬ (3 : Int32) ≤ 0 by decide), if_pos rfl]
  exact x_ra_step 4999 0 (by omega) (sT1 w) (fun hJ hS => x_ra_stop 4998 1 (by omega) (by omega) (sT2 w) (fun hJ hS => (x_ra_stop 4997 2 (by omega) (by omega) (fun S p => .inr (S, p)) (fun hJ hS => by
    rw [show m_X3_readArea_6L 4997 _ r a (Int32.ofNat 3) = _ from x_ra3 4996]
    exact ⟨_, rfl, fun _ _ _ => rfl, hJ, hS⟩) hJ hS h1 h2 :)) hJ hS h1 h2) h' y3 h1 h2
end QD2
