/-! THE READER: a whole text, by the class -/
section QE1
variable {I J K : po_I} {r p p' t k b n C j P : Nat} {w : pW} {N N' : po_N} {st : Nat → Nat}
theorem xC_nar {s : Nat ⊕ (Nat × po_N)} {res : Option (Int32 × po_I)} (h : xC I r t w res s) : xC I r t w (Option.bind res fun x => if vp_nar .boolean x.1 = x.1 then some (x.1, x.2) else none) s := by
  unfold xC at h ⊢
  match s with
  | .inl _ =>
    obtain ⟨I', h1, h2⟩ := h
    rw [h1, Option.bind_some, if_pos (show vp_nar .boolean 0 = 0 from rfl)]
    exact ⟨I', rfl, h2⟩
  | .inr (_, _) =>
    obtain ⟨I', h1, h2⟩ := h
    rw [h1, Option.bind_some, if_pos (show vp_nar .boolean 1 = 1 from rfl)]
    exact ⟨I', rfl, h2⟩
theorem x_readCommand (h : rS I r w p) (hr : r + 1 < t) (hst : pSt I st) (hs1 : st 1 < r) (hs2 : st 2 < r) (hV : pV N) (hB : pB N n) (hT : pTR I t N) : xC I r t w (m_X3_readCommand st I r t) (sC w N p) := by
  have hch := pch_le h.2.2.2.2.1 p
  have hin : ∀ c, 0 < c → pch w p = c → p < w.1 := fun c h1 h2 => pch_in (by omega)
  unfold m_X3_readCommand m_X3_readCommand_e sC
  rw [x_next h, Option.bind_some]
  by_cases e1 : pch w p = 67
  · rw [if_pos (show Int32.ofNat (pch w p) = 67 from congrArg Int32.ofNat e1), if_pos e1]
    exact xC_nar (x_readCondition h (hin _ (by omega) e1) hr hV hB hT)
  rw [if_neg (show ¬ Int32.ofNat (pch w p) = 67 from pk_ne (b := 67) (by omega) (by omega) e1), if_neg e1]
  by_cases e2 : pch w p = 76
  · rw [if_pos (show Int32.ofNat (pch w p) = 76 from congrArg Int32.ofNat e2), if_pos e2]
    exact xC_nar (x_readLot h (hin _ (by omega) e2) hr hV hB hT)
  rw [if_neg (show ¬ Int32.ofNat (pch w p) = 76 from pk_ne (b := 76) (by omega) (by omega) e2), if_neg e2]
  by_cases e3 : pch w p = 80
  · rw [if_pos (show Int32.ofNat (pch w p) = 80 from congrArg Int32.ofNat e3), if_pos e3]
    exact xC_nar (x_readPermit h (hin _ (by omega) e3) hr hV hB hT)
  rw [if_neg (show ¬ Int32.ofNat (pch w p) = 80 from pk_ne (b := 80) (by omega) (by omega) e3), if_neg e3]
  by_cases e4 : pch w p = 86
  · rw [if_pos (show Int32.ofNat (pch w p) = 86 from congrArg Int32.ofNat e4), if_pos e4]
    exact xC_nar (x_readVariance h (hin _ (by omega) e4) hr hV hB hT)
  rw [if_neg (show ¬ Int32.ofNat (pch w p) = 86 from pk_ne (b := 86) (by omega) (by omega) e4), if_neg e4]
  by_cases e5 : pch w p = 90
  · rw [if_pos (show Int32.ofNat (pch w p) = 90 from congrArg Int32.ofNat e5), if_pos e5]
    exact xC_nar (x_readRule h (hin _ (by omega) e5) hr hst hs1 hs2 hV hB hT)
  rw [if_neg (show ¬ Int32.ofNat (pch w p) = 90 from pk_ne (b := 90) (by omega) (by omega) e5), if_neg e5]
  exact xC_full h fun _ _ _ => rfl
/-- the commands of a text, one by one -/
def sRun (w : pW) : Nat → po_N → Nat → Nat → Nat ⊕ (Nat × po_N)
  | 0, _, _, _ => .inl 0
  | f + 1, N, p, c => match sC w N p with
    | .inl e => .inl e
    | .inr (p', N') => if w.1 ≤ p' then .inr (c + 1, N') else sRun w f N' p' (c + 1)
/-- what the class has when the text is read -/
def xE (I : po_I) (r t : Nat) (res : Option (Int32 × po_I)) (s : Nat ⊕ (Nat × po_N)) : Prop := match s with
  | .inl e => ∃ I', res = some (-1, I') ∧ (∀ q, q ≠ r → (q < t ∨ t + 91 ≤ q) → I' q = I q) ∧ I' r 3 = Int32.ofNat e ∧ I' r 1 = 0
  | .inr (c, N') => ∃ I', res = some (Int32.ofNat c, I') ∧ (∀ d, d ≠ r → (d < t ∨ t + 91 ≤ d) → I' d = I d) ∧ I' r 3 = -1 ∧ I' r 1 = 0 ∧ pTR I' t N'
theorem x_run (f : Nat) : ∀ {K : po_I} {p N c g}, rS K r w p → r + 1 < t → pSt K st → st 1 < r → st 2 < r → pV N → pB N n → pTR K t N → c ≤ p → w.1 + 1 ≤ p + f → f ≤ g → xE K r t (m_X3_readInto_12L st g K r t (Int32.ofNat c)) (sRun w f N p c) := by
  induction f with
  | zero =>
    intro K p N c g h _ _ _ _ _ _ _ _ hf _
    have := h.2.2.2.2.2
    omega
  | succ f ih =>
    intro K p N c g h hr hst hs1 hs2 hV hB hT hc hf hg
    obtain ⟨g, rfl⟩ : ∃ g', g = g' + 1 := ⟨g - 1, by omega⟩
    have hp := h.2.2.2.2.2
    have hw := h.2.2.2.2.1.1
    show xE K r t (m_X3_readInto_12 st (m_X3_readInto_12L st g) K r t (Int32.ofNat c)) _
    unfold m_X3_readInto_12 m_X3_readInto_42 m_X3_readInto_56
    have hC := x_readCommand h hr hst hs1 hs2 hV hB hT
    unfold xC at hC
    unfold sRun
    rw [show Int32.ofNat c + 1 = Int32.ofNat (c + 1) from pl_add c 1]
    cases e : sC w N p with
    | inl e1 =>
      rw [e] at hC
      obtain ⟨I', y1, y2, y3⟩ := hC
      rw [y1, Option.bind_some, po_letE, if_pos rfl, po_hletE, if_pos rfl]
      exact ⟨_, rfl, fun q d1 d2 => (po_u_ne d1).trans (y2 q d1 d2), by dsimp only; rw [po_uu, if_neg (by omega)]; exact y3, po_uaa _ _ _ _⟩
    | inr Q =>
      obtain ⟨p', N'⟩ := Q
      rw [e] at hC
      obtain ⟨I', y1, y2, y3, y4⟩ := hC
      obtain ⟨z1, z2, z3, z4⟩ := sC_ok e hV hB
      rw [y1, Option.bind_some, po_letE, if_neg (show ¬ (1 : Int32) = 0 by decide)]
      show xE K r t (if (I' r 1 : Int32) ≤ I' r 2 then _ else _) (if w.1 ≤ p' then _ else _)
      by_cases hw' : w.1 ≤ p'
      · rw [if_pos hw', if_pos (show I' r 1 ≤ I' r 2 by rw [y3.1, y3.2.1]; exact (pl_le (by omega) (by omega)).mpr hw'), po_hletE, if_neg (show ¬ (1 : Int32) = 0 by decide)]
        exact ⟨_, rfl, fun q d1 d2 => (po_u_ne d1).trans (y2 q d1 d2), by dsimp only; rw [po_uu, if_neg (by omega)]; exact y3.2.2.1, po_uaa _ _ _ _, y4.mv z1 fun q d1 d2 => po_u_ne (by omega)⟩
      · rw [if_neg hw', if_neg (show ¬ I' r 1 ≤ I' r 2 by rw [y3.1, y3.2.1]; exact mt (pl_le (by omega) (by omega)).mp hw'), if_pos (show Int32.ofNat (c + 1) < 60 from (pl_lt (b := 60) (by omega) (by omega)).mpr (by omega))]
        have hst' : pSt I' st := fun j hj => by rw [y2 (st 1) (by omega) (by omega), y2 (st 2) (by omega) (by omega)]; exact hst j hj
        have hi := ih (K := I') (p := p') (N := N') (c := c + 1) (g := g) y3 hr hst' hs1 hs2 z1 z2 y4 (by omega) (by omega) (by omega)
        unfold xE at hi ⊢
        cases e2 : sRun w f N' p' (c + 1) with
        | inl e1 =>
          rw [e2] at hi
          obtain ⟨I2, u1, u2, u3⟩ := hi
          exact ⟨I2, u1, fun q d1 d2 => (u2 q d1 d2).trans (y2 q d1 d2), u3⟩
        | inr Q =>
          obtain ⟨c2, N2⟩ := Q
          rw [e2] at hi
          obtain ⟨I2, u1, u2, u3⟩ := hi
          exact ⟨I2, u1, fun q d1 d2 => (u2 q d1 d2).trans (y2 q d1 d2), u3⟩
end QE1
