/-! THE READER: what a text says -/
section QD1
abbrev pW : Type := Nat × (Nat → Nat)
def pch (w : pW) (p : Nat) : Nat := if p < w.1 then w.2 p else 0
def pwo (w : pW) : Prop := w.1 ≤ 60 ∧ ∀ j, j < w.1 → 33 ≤ w.2 j ∧ w.2 j ≤ 126
theorem pch_le {w : pW} (h : pwo w) (p : Nat) : pch w p ≤ 126 := by
  unfold pch
  split
  · exact (h.2 p (by assumption)).2
  · omega
theorem pch_in {w : pW} {p : Nat} (h : 0 < pch w p) : p < w.1 := by
  unfold pch at h
  split at h
  · assumption
  · omega
abbrev pQ : Type := Nat × Nat × Nat × Nat
/-- one sign as a number -/
def sD (w : pW) (z lo m p : Nat) : Option Nat := if z + lo ≤ pch w p ∧ pch w p < z + m then some (pch w p - z) else none
theorem sD_some {w : pW} {z lo m p v : Nat} (h : sD w z lo m p = some v) : lo ≤ v ∧ v < m ∧ pch w p = z + v := by
  unfold sD at h
  split at h
  · obtain rfl := Option.some.inj h; omega
  · cases h
/-- a rectangle -/
def sR (w : pW) (p : Nat) : Nat ⊕ (pQ × Nat) := match sD w 97 0 20 p with
  | none => .inl p
  | some c => match sD w 97 0 14 (p + 1) with
    | none => .inl (p + 1)
    | some r => match sD w 48 1 10 (p + 2) with
      | none => .inl (p + 2)
      | some x => match sD w 48 1 10 (p + 3) with
        | none => .inl (p + 3)
        | some y => if 20 < c + x ∨ 14 < r + y then .inl p else .inr ((c, r, x, y), p + 4)
def pQv (q : pQ) : Prop := q.1 ≤ 19 ∧ q.2.1 ≤ 13 ∧ 1 ≤ q.2.2.1 ∧ q.2.2.1 ≤ 9 ∧ 1 ≤ q.2.2.2 ∧ q.2.2.2 ≤ 9 ∧ q.1 + q.2.2.1 ≤ 20 ∧ q.2.1 + q.2.2.2 ≤ 14
def pQr (q : pQ) : Int32 → Int32 → Bool := prect q.1 q.2.1 q.2.2.1 q.2.2.2
theorem sR_ok {w : pW} {p p' : Nat} {q : pQ} (h : sR w p = .inr (q, p')) : pQv q ∧ p' = p + 4 ∧ p + 4 ≤ w.1 := by
  unfold sR at h
  split at h
  · cases h
  · rename_i c hc
    split at h
    · cases h
    · rename_i r hr
      split at h
      · cases h
      · rename_i x hx
        split at h
        · cases h
        · rename_i y hy
          split at h
          · cases h
          · rename_i hn
            simp only [Sum.inr.injEq, Prod.mk.injEq] at h
            obtain ⟨rfl, rfl⟩ := h
            have a1 := sD_some hc
            have a2 := sD_some hr
            have a3 := sD_some hx
            have a4 := sD_some hy
            have := pch_in (w := w) (p := p + 3) (by omega)
            rw [not_or] at hn
            refine ⟨?_, rfl, by omega⟩
            show c ≤ 19 ∧ r ≤ 13 ∧ 1 ≤ x ∧ x ≤ 9 ∧ 1 ≤ y ∧ y ≤ 9 ∧ c + x ≤ 20 ∧ r + y ≤ 14
            omega
/-- the rectangles of an area -/
abbrev pA : Type := Nat × pQ × pQ × pQ
def pq0 : pQ := (0, 0, 0, 0)
def pAs (a : pA) : Int32 → Int32 → Bool := fun c r => pQr a.2.1 c r || (decide (2 ≤ a.1) && pQr a.2.2.1 c r) || (decide (3 ≤ a.1) && pQr a.2.2.2 c r)
def sA (w : pW) (p : Nat) : Nat ⊕ (pA × Nat) := match sR w p with
  | .inl e => .inl e
  | .inr (q1, p1) => if pch w p1 = 59 then .inr ((1, q1, pq0, pq0), p1) else match sR w p1 with
    | .inl e => .inl e
    | .inr (q2, p2) => if pch w p2 = 59 then .inr ((2, q1, q2, pq0), p2) else match sR w p2 with
      | .inl e => .inl e
      | .inr (q3, p3) => .inr ((3, q1, q2, q3), p3)
def pAv (a : pA) : Prop := 1 ≤ a.1 ∧ a.1 ≤ 3 ∧ pQv a.2.1 ∧ (2 ≤ a.1 → pQv a.2.2.1) ∧ (3 ≤ a.1 → pQv a.2.2.2)
theorem sA_ok {w : pW} {p p' : Nat} {a : pA} (h : sA w p = .inr (a, p')) : pAv a ∧ p + 4 ≤ p' ∧ p' ≤ w.1 := by
  unfold sA at h
  split at h
  · cases h
  · rename_i q1 p1 h1
    have a1 := sR_ok h1
    split at h
    · simp only [Sum.inr.injEq, Prod.mk.injEq] at h
      obtain ⟨rfl, rfl⟩ := h
      exact ⟨⟨Nat.le_refl 1, show 1 ≤ 3 by omega, a1.1, fun h => absurd (show 2 ≤ 1 from h) (by omega), fun h => absurd (show 3 ≤ 1 from h) (by omega)⟩, by omega, by omega⟩
    · split at h
      · cases h
      · rename_i q2 p2 h2
        have a2 := sR_ok h2
        split at h
        · simp only [Sum.inr.injEq, Prod.mk.injEq] at h
          obtain ⟨rfl, rfl⟩ := h
          exact ⟨⟨show 1 ≤ 2 by omega, show 2 ≤ 3 by omega, a1.1, fun _ => a2.1, fun h => absurd (show 3 ≤ 2 from h) (by omega)⟩, by omega, by omega⟩
        · split at h
          · cases h
          · rename_i q3 p3 h3
            have a3 := sR_ok h3
            simp only [Sum.inr.injEq, Prod.mk.injEq] at h
            obtain ⟨rfl, rfl⟩ := h
            exact ⟨⟨show 1 ≤ 3 by omega, Nat.le_refl 3, a1.1, fun _ => a2.1, fun _ => a3.1⟩, by omega, by omega⟩
/-- an area and the sign behind it -/
def sAS (w : pW) (p : Nat) : Nat ⊕ (pA × Nat) := match sA w p with
  | .inl e => .inl e
  | .inr (a, q) => if pch w q = 59 then .inr (a, q) else .inl q
def sNum (w : pW) (lo hi p : Nat) : Nat ⊕ (Nat × Nat) := match sD w 48 0 10 p with
  | none => .inl p
  | some d => match (if 0 < d then sD w 48 0 10 (p + 1) else none) with
    | none => if lo ≤ d ∧ d ≤ hi then .inr (d, p + 1) else .inl p
    | some d2 => if lo ≤ 10 * d + d2 ∧ 10 * d + d2 ≤ hi then .inr (10 * d + d2, p + 2) else .inl p
theorem sNum_ok {w : pW} {lo hi p v p' : Nat} (h : sNum w lo hi p = .inr (v, p')) : lo ≤ v ∧ v ≤ hi ∧ p + 1 ≤ p' ∧ p' ≤ w.1 := by
  unfold sNum at h
  split at h
  · cases h
  · rename_i d hd
    have a1 := sD_some hd
    have b1 := pch_in (w := w) (p := p) (by omega)
    split at h
    · split at h
      · rename_i hr
        simp only [Sum.inr.injEq, Prod.mk.injEq] at h
        omega
      · cases h
    · rename_i d2 hd2
      split at hd2
      · have a2 := sD_some hd2
        have b2 := pch_in (w := w) (p := p + 1) (by omega)
        split at h
        · rename_i hr
          simp only [Sum.inr.injEq, Prod.mk.injEq] at h
          omega
        · cases h
      · cases hd2
/-! the class reads -/
variable {I J : po_I} {r p a t : Nat} {w : pW} {N : po_N}
def rS (I : po_I) (r : Nat) (w : pW) (p : Nat) : Prop := I r 1 = Int32.ofNat w.1 ∧ I r 2 = Int32.ofNat p ∧ I r 3 = -1 ∧ (∀ j, j < w.1 → I (r + 1) j = Int32.ofNat (w.2 j)) ∧ pwo w ∧ p ≤ w.1
theorem rS.mv (h : rS I r w p) (e0 : J r = I r) (e1 : J (r + 1) = I (r + 1)) : rS J r w p := by
  obtain ⟨h1, h2, h3, h4, h5, h6⟩ := h
  exact ⟨by rw [e0]; exact h1, by rw [e0]; exact h2, by rw [e0]; exact h3, by rw [e1]; exact h4, h5, h6⟩
theorem rS.to (h : rS I r w p) {q : Nat} (hq : q ≤ w.1) : rS (po_u I r 2 (Int32.ofNat q)) r w q := by
  obtain ⟨h1, h2, h3, h4, h5, h6⟩ := h
  exact ⟨by rw [po_uu, if_neg (by omega)]; exact h1, po_uaa _ _ _ _, by rw [po_uu, if_neg (by omega)]; exact h3, fun j hj => by rw [po_u_ne (by omega)]; exact h4 j hj, h5, hq⟩
theorem pn_char {c : Nat} (hc : c < 256) : vp_nar .char (Int32.ofNat c) = Int32.ofNat c := by
  have key : ∀ c, c < 256 → vp_nar .char (Int32.ofNat c) = Int32.ofNat c := by decide +kernel
  exact key c hc
theorem x_next (h : rS I r w p) : m_X3_next I r = some (Int32.ofNat (pch w p)) := by
  obtain ⟨h1, h2, h3, h4, h5, h6⟩ := h
  have h60 := h5.1
  unfold m_X3_next m_X3_next_e m_X3_next_39 m_X3_next_40 pch
  rw [h1, h2, if_neg (mt (pl_not0 (by omega)).mp id)]
  by_cases e : p < w.1
  · have hc := h5.2 p e
    rw [if_neg (mt (pl_le (by omega) (by omega)).mp (by omega)), if_neg (show ¬ (60 : Int32) ≤ Int32.ofNat p from mt (pl_le (a := 60) (by omega) (by omega)).mp (by omega)), if_pos (show po_in (Int32.ofNat p) 60 = true from pl_inl (by omega) (by omega)), pl_clamp (by omega), h4 p e, pn_char (by omega), if_pos e]
  · rw [if_pos ((pl_le (by omega) (by omega)).mpr (by omega)), if_neg e]
    rfl
theorem pl_m1 {k m : Nat} (hk : k < 2147483648) (hm : m < 2147483648) : Int32.ofNat k ≤ Int32.ofNat m - 1 ↔ k < m := by
  have h := plt_le (x := Int32.ofNat k) hm
  rw [← decide_eq_true_iff (p := Int32.ofNat k ≤ Int32.ofNat m - 1)]
  have e : decide (Int32.ofNat k ≤ Int32.ofNat m - 1) = decide (0 ≤ Int32.ofNat k ∧ Int32.ofNat k ≤ Int32.ofNat m - 1) := decide_eq_decide.mpr ⟨fun h => ⟨pl_nonneg hk, h⟩, fun h => h.2⟩
  rw [e, h]
  unfold plt
  rw [decide_eq_true_iff]
  exact ⟨fun h => (pl_lt hk hm).mp h.2, fun h => ⟨pl_nonneg hk, (pl_lt hk hm).mpr h⟩⟩
/-- what a failure leaves -/
theorem x_readVal (h : rS I r w p) {z lo m : Nat} {most : Int32} (hz : z < 1000) (hlo : lo < 1000) (hm : ∀ k, k < 1000 → (Int32.ofNat k ≤ most ↔ k < m)) : m_X3_readValue I r (Int32.ofNat z) (Int32.ofNat lo) most = match sD w z lo m p with
    | some v => some (Int32.ofNat v, po_u I r 2 (Int32.ofNat (p + 1)))
    | none => some (-1, po_u I r 3 (Int32.ofNat p)) := by
  have hc := pch_le h.2.2.2.2.1 p
  unfold m_X3_readValue m_X3_readValue_e m_X3_readValue_20 m_X3_failAt m_X3_failAt_e
  rw [x_next h, Option.bind_some, po_letE, po_hletE, Option.bind_some, h.2.1, po_hletE, show Int32.ofNat p + 1 = Int32.ofNat (p + 1) from pl_add p 1]
  unfold sD
  generalize pch w p = c at *
  by_cases h1 : z ≤ c
  · rw [pl_sub h1]
    by_cases h2 : c - z < lo
    · rw [if_pos ((pl_lt (by omega) (by omega)).mpr h2), if_neg (by omega)]
    · rw [if_neg (mt (pl_lt (by omega) (by omega)).mp h2)]
      by_cases h3 : c - z < m
      · rw [if_pos ((hm _ (by omega)).mpr h3), if_pos (by omega)]
      · rw [if_neg (mt (hm _ (by omega)).mp h3), if_neg (by omega)]
  · rw [pl_subneg (by omega), if_pos (Int32.lt_of_lt_of_le (Int32.not_le.mp (pl_neglt (c := z - c) (by omega) (by omega))) (pl_nonneg (by omega))), if_neg (by omega)]
theorem x_readVc (h : rS I r w p) {z lo hi : Nat} (hz : z < 1000) (hlo : lo < 1000) (hhi : hi < 1000) : m_X3_readValue I r (Int32.ofNat z) (Int32.ofNat lo) (Int32.ofNat hi) = match sD w z lo (hi + 1) p with
    | some v => some (Int32.ofNat v, po_u I r 2 (Int32.ofNat (p + 1)))
    | none => some (-1, po_u I r 3 (Int32.ofNat p)) := x_readVal h hz hlo fun k hk => (pl_le (by omega) (by omega)).trans (by omega)
theorem x_readSign (h : rS I r w p) {c : Nat} (hc : 0 < c) (hc2 : c < 1000) : m_X3_readSign I r (Int32.ofNat c) = if pch w p = c then some (1, po_u I r 2 (Int32.ofNat (p + 1))) else some (0, po_u I r 3 (Int32.ofNat p)) := by
  have hc := pch_le h.2.2.2.2.1 p
  unfold m_X3_readSign m_X3_readSign_e m_X3_failAt m_X3_failAt_e
  rw [x_next h, Option.bind_some, po_hletE, po_hletE, Option.bind_some, h.2.1, show Int32.ofNat p + 1 = Int32.ofNat (p + 1) from pl_add p 1]
  by_cases e : pch w p = c
  · rw [if_pos (congrArg Int32.ofNat e), if_pos e]
  · rw [if_neg (pk_ne (by omega) (by omega) e), if_neg e, if_pos (show vp_nar .boolean 0 = 0 from rfl)]
theorem x_readNumber (h : rS I r w p) {lo hi : Nat} (hlo : lo < 1000) (hhi : hi < 1000) : match sNum w lo hi p with
    | .inr (v, q) => m_X3_readNumber I r (Int32.ofNat lo) (Int32.ofNat hi) = some (Int32.ofNat v, po_u I r 2 (Int32.ofNat q))
    | .inl e => ∃ I', m_X3_readNumber I r (Int32.ofNat lo) (Int32.ofNat hi) = some (-1, I') ∧ (∀ q, q ≠ r → I' q = I q) ∧ I' r 3 = Int32.ofNat e := by
  have n76 : ∀ (K : po_I), m_X3_readNumber_76 K r (Int32.ofNat p) = some (-1, po_u K r 3 (Int32.ofNat p)) := fun K => by
    unfold m_X3_readNumber_76 m_X3_failAt m_X3_failAt_e
    rw [po_hletE, Option.bind_some]
  have n64 : ∀ (K : po_I) v, v < 1000 → m_X3_readNumber_64 K r (Int32.ofNat lo) (Int32.ofNat hi) (Int32.ofNat p) (Int32.ofNat v) = if lo ≤ v ∧ v ≤ hi then some (Int32.ofNat v, K) else some (-1, po_u K r 3 (Int32.ofNat p)) := fun K v hv => by
    unfold m_X3_readNumber_64
    rw [n76]
    by_cases h1 : lo ≤ v
    · rw [if_neg (mt (pl_lt (by omega) (by omega)).mp (by omega))]
      by_cases h2 : v ≤ hi
      · rw [if_pos ((pl_le (by omega) (by omega)).mpr h2), if_pos ⟨h1, h2⟩]
      · rw [if_neg (mt (pl_le (by omega) (by omega)).mp h2), if_neg (fun h => h2 h.2)]
    · rw [if_pos ((pl_lt (by omega) (by omega)).mpr (by omega)), if_neg (fun h => h1 h.1)]
  have r1 := x_readVc h (z := 48) (lo := 0) (hi := 9) (by omega) (by omega) (by omega)
  have hx : m_X3_readNumber I r (Int32.ofNat lo) (Int32.ofNat hi) = m_X3_readNumber_e I r (Int32.ofNat lo) (Int32.ofNat hi) := rfl
  unfold sNum
  rw [hx]
  unfold m_X3_readNumber_e
  rw [po_letE, h.2.1, show m_X3_readValue I r 48 0 9 = _ from r1]
  cases hd : sD w 48 0 10 p with
  | none =>
    refine ⟨po_u I r 3 (Int32.ofNat p), ?_, fun q hq => po_u_ne hq, po_uaa _ _ _ _⟩
    rw [Option.bind_some, po_letE, if_pos rfl]
  | some d =>
    have a1 := sD_some hd
    have b1 := pch_in (w := w) (p := p) (by omega)
    have h2 := h.to (q := p + 1) (by omega)
    have r2 := x_readVc h2 (z := 48) (lo := 0) (hi := 9) (by omega) (by omega) (by omega)
    have hch := pch_le h.2.2.2.2.1 (p + 1)
    dsimp only
    rw [Option.bind_some, po_letE, if_neg (show ¬ Int32.ofNat d = -1 from (pl_neg1 (by omega)).mp)]
    by_cases d0 : 0 < d
    · rw [if_neg (show ¬ Int32.ofNat d ≤ 0 from mt (pl_le (b := 0) (by omega) (by omega)).mp (by omega)), if_pos d0, x_next h2, Option.bind_some, Option.bind_some]
      cases hd2 : sD w 48 0 10 (p + 1) with
      | none =>
        have hnd : pch w (p + 1) < 48 ∨ 57 < pch w (p + 1) := by
          unfold sD at hd2
          split at hd2
          · cases hd2
          · omega
        have e1 : (if Int32.ofNat (pch w (p + 1)) < 48 then m_X3_readNumber_64 (po_u I r 2 (Int32.ofNat (p + 1))) r (Int32.ofNat lo) (Int32.ofNat hi) (Int32.ofNat p) (Int32.ofNat d) else if (57 : Int32) < Int32.ofNat (pch w (p + 1)) then m_X3_readNumber_64 (po_u I r 2 (Int32.ofNat (p + 1))) r (Int32.ofNat lo) (Int32.ofNat hi) (Int32.ofNat p) (Int32.ofNat d) else (Option.bind (m_X3_readValue (po_u I r 2 (Int32.ofNat (p + 1))) r 48 0 9) fun x7 => po_let ((10 * Int32.ofNat d) + x7.1) fun v8 => m_X3_readNumber_64 x7.2 r (Int32.ofNat lo) (Int32.ofNat hi) (Int32.ofNat p) v8)) = m_X3_readNumber_64 (po_u I r 2 (Int32.ofNat (p + 1))) r (Int32.ofNat lo) (Int32.ofNat hi) (Int32.ofNat p) (Int32.ofNat d) := by
          by_cases c1 : pch w (p + 1) < 48
          · rw [if_pos (show Int32.ofNat (pch w (p + 1)) < 48 from (pl_lt (b := 48) (by omega) (by omega)).mpr c1)]
          · rw [if_neg (show ¬ Int32.ofNat (pch w (p + 1)) < 48 from mt (pl_lt (b := 48) (by omega) (by omega)).mp c1), if_pos (show (57 : Int32) < Int32.ofNat (pch w (p + 1)) from (pl_lt (a := 57) (by omega) (by omega)).mpr (by omega))]
        rw [e1, n64 _ d (by omega)]
        by_cases hr : lo ≤ d ∧ d ≤ hi
        · rw [if_pos hr, if_pos hr]
        · rw [if_neg hr, if_neg hr]
          exact ⟨_, rfl, fun q hq => by rw [po_u_ne hq, po_u_ne hq], po_uaa _ _ _ _⟩
      | some d2 =>
        have a2 := sD_some hd2
        rw [hd2] at r2
        rw [if_neg (show ¬ Int32.ofNat (pch w (p + 1)) < 48 from mt (pl_lt (b := 48) (by omega) (by omega)).mp (by omega)), if_neg (show ¬ (57 : Int32) < Int32.ofNat (pch w (p + 1)) from mt (pl_lt (a := 57) (by omega) (by omega)).mp (by omega)), show m_X3_readValue (po_u I r 2 (Int32.ofNat (p + 1))) r 48 0 9 = _ from r2, Option.bind_some, po_letE, pk_10, pl_mul, pl_add, n64 _ _ (by omega)]
        have e2 : po_u (po_u I r 2 (Int32.ofNat (p + 1))) r 2 (Int32.ofNat (p + 1 + 1)) = po_u I r 2 (Int32.ofNat (p + 2)) := by
          funext q j
          rw [po_uu, po_uu, po_uu]
          split <;> rfl
        dsimp only
        rw [e2]
        by_cases hr : lo ≤ 10 * d + d2 ∧ 10 * d + d2 ≤ hi
        · rw [if_pos hr, if_pos hr]
        · rw [if_neg hr, if_neg hr]
          exact ⟨_, rfl, fun q hq => by rw [po_u_ne hq, po_u_ne hq], po_uaa _ _ _ _⟩
    · rw [if_pos (show Int32.ofNat d ≤ 0 from (pl_le (b := 0) (by omega) (by omega)).mpr (by omega)), if_neg d0, n64 _ d (by omega)]
      dsimp only
      by_cases hr : lo ≤ d ∧ d ≤ hi
      · rw [if_pos hr, if_pos hr]
      · rw [if_neg hr, if_neg hr]
        exact ⟨_, rfl, fun q hq => by rw [po_u_ne hq, po_u_ne hq], po_uaa _ _ _ _⟩
end QD1
