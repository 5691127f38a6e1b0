/-! THE MODEL READS: areas and lots -/
section QE4
variable {I J K : po_I} {M p p' k n e i f b : Nat} {w : pW} {N N' : po_N} {a : pA}
def mA (K : po_I) (M : Nat) (w : pW) (N : po_N) (res : Option po_I) (s : Nat ⊕ (pA × Nat)) : Prop := match s with
  | .inl e => ∃ K1 K2, res = some K1 ∧ m_X8_must K1 M 59 = some K2 ∧ mO K K2 M ∧ mF K2 M w e
  | .inr (a, q) => ∃ K1, res = some K1 ∧ mO K K1 M ∧ mS K1 M w q N ∧ pch w q = 59 ∧ K1 M 17 = Int32.ofNat a.1 ∧ ∀ j, j < 4 * a.1 → K1 (M + 6) j = Int32.ofNat (pAn a j)
theorem mA.of {res : Option po_I} {s : Nat ⊕ (pA × Nat)} (h : mA J M w N res s) (ho : mO K J M) : mA K M w N res s := by
  unfold mA at h ⊢
  match s with
  | .inl _ =>
    obtain ⟨K1, K2, h1, h2, h3, h4⟩ := h
    exact ⟨K1, K2, h1, h2, ho.tr h3, h4⟩
  | .inr (_, _) =>
    obtain ⟨K1, h1, h2, h3⟩ := h
    exact ⟨K1, h1, ho.tr h2, h3⟩
theorem ms_isColumn (h : mS K M w p N) : m_X8_isColumn (sg w p) = some (pb (decide (97 ≤ pch w p ∧ pch w p ≤ 116))) := by
  unfold m_X8_isColumn m_X8_isColumn_e
  rw [show m_X8_isIn (sg w p) 97 116 = _ from ms_isIn h.2.2.2.2.1 (a := 97) (b := 116) (by omega) (by omega) (by omega), Option.bind_some]
  cases decide (97 ≤ pch w p ∧ pch w p ≤ 116) <;> rfl
theorem ms_badmust (h : mS K M w p N) (c : ¬ pch w p = 59) : ∃ K2, m_X8_must K M 59 = some K2 ∧ mO K K2 M ∧ mF K2 M w p := by
  have y := ms_must h (c := 59) (by omega) (by omega)
  rw [if_neg c] at y
  exact ⟨_, y, mO_u (by omega), h.bad h.p60⟩
theorem ms_st3 (h : mS K M w p N) (h17 : K M 17 = Int32.ofNat 3) (ha : a.1 = 3) (hb : ∀ j, j < 12 → K (M + 6) j = Int32.ofNat (pAn a j)) : mA K M w N (m_X8_readArea_5L (f + 1) K M) (if pch w p = 59 then .inr (a, p) else .inl p) := by
  show mA K M w N (m_X8_readArea_5 (m_X8_readArea_5L f) K M) _
  unfold m_X8_readArea_5 m_X8_readArea_184
  rw [if_pos h.2.2.1, h17, if_neg (show ¬ Int32.ofNat 3 = 0 by decide), ms_sign h, Option.bind_some, ms_isColumn h, Option.bind_some]
  by_cases c : pch w p = 59
  · rw [if_pos c, decide_eq_false (by omega), if_pos (show pb false = 0 from rfl)]
    exact ⟨K, rfl, mO.rf, h, c, by rw [h17, ha], fun j hj => hb j (by omega)⟩
  · rw [if_neg c]
    by_cases c2 : 97 ≤ pch w p ∧ pch w p ≤ 116
    · rw [decide_eq_true c2, if_neg (show ¬ pb true = 0 by decide)]
      unfold m_X8_readArea_30
      rw [po_letE, h17, if_pos (show Int32.ofNat 3 = 3 from rfl), h.2.1, ms_fault h.2.2.1, Option.bind_some]
      have hF := h.bad h.p60
      exact ⟨_, _, rfl, mf_must hF _, mO_u (by omega), hF⟩
    · rw [decide_eq_false c2, if_pos (show pb false = 0 from rfl)]
      obtain ⟨K2, y1, y2, y3⟩ := ms_badmust h c
      exact ⟨K, K2, rfl, y1, y2, y3⟩
theorem ms_st (h : mS K M w p N) (h0 : 0 < i) (hi : i < 3) (h17 : K M 17 = Int32.ofNat i) (ha : a.1 = i) (hb : ∀ j, j < 4 * i → K (M + 6) j = Int32.ofNat (pAn a j)) (U : pQ → Nat → Nat ⊕ (pA × Nat)) (hU : ∀ K' q p', mS K' M w p' N → K' M 17 = Int32.ofNat (i + 1) → (∀ j, j < 4 → K' (M + 6) (4 * i + j) = Int32.ofNat (pQn q j)) → (∀ j, j < 4 * i → K' (M + 6) j = Int32.ofNat (pAn a j)) → mA K' M w N (m_X8_readArea_5L (f + 1) K' M) (U q p')) : mA K M w N (m_X8_readArea_5L (f + 2) K M) (if pch w p = 59 then .inr (a, p) else match sR w p with
    | .inl e => .inl e
    | .inr (q, p') => U q p') := by
  show mA K M w N (m_X8_readArea_5 (m_X8_readArea_5L (f + 1)) K M) _
  unfold m_X8_readArea_5 m_X8_readArea_184
  rw [if_pos h.2.2.1, h17, if_neg (show ¬ Int32.ofNat i = 0 from pk_ne (b := 0) (by omega) (by omega) (by omega)), ms_sign h, Option.bind_some, ms_isColumn h, Option.bind_some]
  by_cases c : pch w p = 59
  · rw [if_pos c, decide_eq_false (by omega), if_pos (show pb false = 0 from rfl)]
    exact ⟨K, rfl, mO.rf, h, c, by rw [h17, ha], fun j hj => hb j (by omega)⟩
  · rw [if_neg c]
    by_cases c2 : 97 ≤ pch w p ∧ pch w p ≤ 116
    · rw [decide_eq_true c2, if_neg (show ¬ pb true = 0 by decide)]
      have hr := ms_rect (f := f) h h17 hi
      unfold mR at hr
      cases e : sR w p with
      | inl e1 =>
        rw [e] at hr
        obtain ⟨K', y1, y2, y3⟩ := hr
        exact ⟨K', K', y1, mf_must y3 _, y2, y3⟩
      | inr Q =>
        obtain ⟨q, p'⟩ := Q
        rw [e] at hr
        obtain ⟨K', y1, y2, y3, y4, y5, y6⟩ := hr
        rw [y1]
        exact (hU K' q p' y3 y4 y5 fun j hj => (y6 j hj).trans (hb j hj)).of y2
    · rw [decide_eq_false c2, if_pos (show pb false = 0 from rfl)]
      have e : sR w p = .inl p := by
        unfold sR sD
        rw [if_neg (by omega)]
      rw [e]
      obtain ⟨K2, y1, y2, y3⟩ := ms_badmust h c
      exact ⟨K, K2, rfl, y1, y2, y3⟩
def sS3 (w : pW) (a : pA) (p : Nat) : Nat ⊕ (pA × Nat) := if pch w p = 59 then .inr (a, p) else .inl p
def sS2 (w : pW) (q1 q2 : pQ) (p : Nat) : Nat ⊕ (pA × Nat) := if pch w p = 59 then .inr ((2, q1, q2, pq0), p) else match sR w p with
  | .inl e => .inl e
  | .inr (q, p') => sS3 w (3, q1, q2, q) p'
def sS1 (w : pW) (q1 : pQ) (p : Nat) : Nat ⊕ (pA × Nat) := if pch w p = 59 then .inr ((1, q1, pq0, pq0), p) else match sR w p with
  | .inl e => .inl e
  | .inr (q, p') => sS2 w q1 q p'
theorem sAS_eq (w : pW) (p : Nat) : sAS w p = match sR w p with
    | .inl e => .inl e
    | .inr (q, p') => sS1 w q p' := by
  unfold sAS sA
  cases sR w p with
  | inl e => rfl
  | inr Q =>
    obtain ⟨q1, p1⟩ := Q
    dsimp only
    unfold sS1
    by_cases e1 : pch w p1 = 59
    · rw [if_pos e1, if_pos e1]
      dsimp only
      rw [if_pos e1]
    · rw [if_neg e1, if_neg e1]
      cases sR w p1 with
      | inl e => rfl
      | inr Q =>
        obtain ⟨q2, p2⟩ := Q
        dsimp only
        unfold sS2
        by_cases e2 : pch w p2 = 59
        · rw [if_pos e2, if_pos e2]
          dsimp only
          rw [if_pos e2]
        · rw [if_neg e2, if_neg e2]
          cases sR w p2 with
          | inl e => rfl
          | inr Q =>
            obtain ⟨q3, p3⟩ := Q
            rfl
theorem ms_area (h : mS K M w p N) : mA K M w N (m_X8_readArea K M) (sAS w p) := by
  have h' : mS (po_u K M 17 0) M w p N := h.u17
  have ho : mO K (po_u K M 17 0) M := mO_u (by omega)
  have h17 : (po_u K M 17 0) M 17 = Int32.ofNat 0 := po_uaa _ _ _ _
  unfold m_X8_readArea m_X8_readArea_e
  rw [po_hletE, sAS_eq]
  generalize po_u K M 17 0 = K0 at *
  refine mA.of ?_ ho
  show mA K0 M w N (m_X8_readArea_5 (m_X8_readArea_5L 4999) K0 M) _
  unfold m_X8_readArea_5 m_X8_readArea_184
  rw [if_pos h'.2.2.1, h17, if_pos (show Int32.ofNat 0 = 0 from rfl)]
  have hr := ms_rect (f := 4998) h' h17 (by omega)
  unfold mR at hr
  cases e : sR w p with
  | inl e1 =>
    rw [e] at hr
    obtain ⟨K', y1, y2, y3⟩ := hr
    exact ⟨K', K', y1, mf_must y3 _, y2, y3⟩
  | inr Q =>
    obtain ⟨q1, p1⟩ := Q
    rw [e] at hr
    obtain ⟨K', y1, y2, y3, y4, y5, y6⟩ := hr
    refine mA.of ?_ y2
    rw [show m_X8_readArea_30 (m_X8_readArea_5L 4999) K0 M = _ from y1]
    refine ms_st (f := 4997) (a := (1, q1, pq0, pq0)) y3 (by omega) (by omega) y4 rfl (fun j hj => ?_) (fun q p' => sS2 w q1 q p') fun K2 q2 p2 z3 z4 z5 z6 => ?_
    · have := y5 j (by omega)
      rw [show 4 * 0 + j = j by omega] at this
      rw [this]
      unfold pAn
      rw [if_pos (by omega)]
    · refine ms_st (f := 4996) (a := (2, q1, q2, pq0)) z3 (by omega) (by omega) z4 rfl (fun j hj => ?_) (fun q p' => sS3 w (3, q1, q2, q) p') fun K3 q3 p3 u3 u4 u5 u6 => ?_
      · by_cases c : j < 4
        · rw [z6 j (by omega)]
          unfold pAn
          rw [if_pos c, if_pos c]
        · have := z5 (j - 4) (by omega)
          rw [show 4 * 1 + (j - 4) = j by omega] at this
          rw [this]
          unfold pAn
          rw [if_neg c, if_pos (by omega), if_pos (show 2 ≤ 2 by omega)]
      · refine ms_st3 (f := 4996) (a := (3, q1, q2, q3)) u3 u4 rfl fun j hj => ?_
        by_cases c : j < 8
        · rw [u6 j (by omega)]
          unfold pAn
          by_cases c4 : j < 4
          · rw [if_pos c4, if_pos c4]
          · rw [if_neg c4, if_neg c4, if_pos c, if_pos c, if_pos (show 2 ≤ 2 by omega), if_pos (show 2 ≤ 3 by omega)]
        · have := u5 (j - 8) (by omega)
          rw [show 4 * 2 + (j - 8) = j by omega] at this
          rw [this]
          unfold pAn
          rw [if_neg (by omega), if_neg c, if_pos (show 3 ≤ 3 by omega)]
theorem pAn_0 {j : Nat} (h1 : 1 ≤ a.1) (hj : 4 * a.1 ≤ j) (h12 : j < 12) : pAn a j = 0 := by
  unfold pAn
  rw [if_neg (by omega)]
  by_cases c : j < 8
  · rw [if_pos c, if_neg (by omega)]
  · rw [if_neg c, if_neg (by omega)]
theorem q_putArea (h17 : K M 17 = Int32.ofNat a.1) (h1 : 1 ≤ a.1) (h3 : a.1 ≤ 3) (hb : ∀ j, j < 4 * a.1 → K (M + 6) j = Int32.ofNat (pAn a j)) (hbb : b + 15 ≤ 668) : ∃ J, m_X8_putArea K M (Int32.ofNat b) = some J ∧ (∀ q, q ≠ M + 1 → J q = K q) ∧ pAt (J (M + 1)) b a ∧ ∀ j, (j < b + 2 ∨ b + 15 ≤ j) → J (M + 1) j = K (M + 1) j := by
  unfold m_X8_putArea m_X8_putArea_e
  rw [show Int32.ofNat b + 2 = Int32.ofNat (b + 2) from pl_add b 2, if_pos (pl_inl (by omega) (by omega)), pl_clamp (by omega), h17, po_hletE]
  have k1 : ∀ q, q ≠ M + 1 → (po_u K (M + 1) (b + 2) (Int32.ofNat a.1)) q = K q := fun q hq => po_u_ne hq
  have k2 : (po_u K (M + 1) (b + 2) (Int32.ofNat a.1)) (M + 1) (b + 2) = Int32.ofNat a.1 := po_uaa _ _ _ _
  have k3 : ∀ j, j ≠ b + 2 → (po_u K (M + 1) (b + 2) (Int32.ofNat a.1)) (M + 1) j = K (M + 1) j := fun j hj => by rw [po_uu, if_neg (by omega)]
  generalize po_u K (M + 1) (b + 2) (Int32.ofNat a.1) = K0 at *
  refine po_inv (L := fun f J r => m_X8_putArea_14L f J M (Int32.ofNat b) (Int32.ofNat r)) (n := 12) (fun r J => (∀ q, q ≠ M + 1 → J q = K q) ∧ (∀ j, (j < b + 3 ∨ b + 3 + r ≤ j) → J (M + 1) j = K0 (M + 1) j) ∧ ∀ j, j < r → J (M + 1) (b + 3 + j) = Int32.ofNat (pAn a j)) (fun x => ∃ J, x = some J ∧ (∀ q, q ≠ M + 1 → J q = K q) ∧ pAt (J (M + 1)) b a ∧ ∀ j, (j < b + 2 ∨ b + 15 ≤ j) → J (M + 1) j = K (M + 1) j) ?_ ?_ 12 5000 K0 0 (by omega) (by omega) ⟨k1, fun _ _ => rfl, fun j hj => by omega⟩
  · intro f J r hr h
    left
    refine ⟨po_u J (M + 1) (b + 3 + r) (Int32.ofNat (pAn a r)), ⟨fun q hq => by rw [po_u_ne hq]; exact h.1 q hq, fun j hj => by rw [po_uu, if_neg (by omega)]; exact h.2.1 j (by omega), fun j hj => ?_⟩, ?_⟩
    · by_cases e : j = r
      · rw [e, po_uaa]
      · rw [po_uu, if_neg (by omega)]; exact h.2.2 j (by omega)
    · show m_X8_putArea_14 _ _ _ _ _ = _
      unfold m_X8_putArea_14 m_X8_putArea_49
      rw [if_neg (show ¬ (12 : Int32) ≤ Int32.ofNat r from mt (pl_le (a := 12) (by omega) (by omega)).mp (by omega)), h.1 M (by omega), h17, show (4 : Int32) * Int32.ofNat a.1 = Int32.ofNat (4 * a.1) from pl_mul 4 _, show Int32.ofNat b + 3 = Int32.ofNat (b + 3) from pl_add b 3, pl_add, if_pos (show po_in (Int32.ofNat (b + 3 + r)) 668 = true from pl_inl (by omega) (by omega)), pl_clamp (a := b + 3 + r) (by omega), show Int32.ofNat r + 1 = Int32.ofNat (r + 1) from pl_add r 1, po_hletE]
      by_cases c : 4 * a.1 ≤ r
      · rw [if_pos ((pl_le (by omega) (by omega)).mpr c), pAn_0 h1 c hr]
        rfl
      · rw [if_neg (mt (pl_le (by omega) (by omega)).mp c), if_pos (pl_inl (by omega) (by omega)), pl_clamp (by omega), h.1 (M + 6) (by omega), hb r (by omega), if_pos (pl_inl (by omega) (by omega)), po_hletE]
  · intro f J h
    show ∃ _, m_X8_putArea_14 _ _ _ _ _ = _ ∧ _
    unfold m_X8_putArea_14
    rw [if_pos (show (12 : Int32) ≤ Int32.ofNat 12 by decide)]
    exact ⟨J, rfl, h.1, ⟨by rw [h.2.1 _ (by omega)]; exact k2, fun j hj => h.2.2 j hj⟩, fun j hj => by rw [h.2.1 j (by omega)]; exact k3 j (by omega)⟩
end QE4
