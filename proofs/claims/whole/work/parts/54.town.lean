/-! A TOWN OF THE CLASS HOLDS A ROW OF THE MODEL -/
def pTL (I : po_I) (L : Nat) (N : po_N) (b : Nat) : Prop := I L 0 = N b ∧ I L 1 = N (b + 1) ∧ pAR I (L + 1) (pa_in N b) ∧ I L 3 = Int32.ofNat (ps_n (pa_in N b))
def pTC (I : po_I) (P : Nat) (N : po_N) (b : Nat) : Prop := ∀ i, i < 32 → (i < pv N (b + 45) → bt (I P 16) i = decide (pv N (b + 29 + i) % 2 = 1) ∧ I (P + 3) i = Int32.ofNat (pv N (b + 29 + i) / 1000) ∧ I (P + 4) i = Int32.ofNat (pv N (b + 29 + i) / 2 % 500)) ∧ (pv N (b + 45) ≤ i → bt (I P 16) i = false)
def pTP (I : po_I) (P : Nat) (N : po_N) (b : Nat) : Prop := I P 0 = N b ∧ I P 1 = N (b + 1) ∧ I P 2 = N (b + 17) ∧ I P 3 = N (b + 18) ∧ pAR I (P + 1) (pa_in N b) ∧ I P 5 = Int32.ofNat (ps_n (pa_in N b)) ∧ I P 6 = N (b + 19) ∧ (N (b + 19) = 1 → I P 7 = N (b + 27)) ∧ I P 8 = N (b + 20) ∧ I P 9 = N (b + 21) ∧ (N (b + 19) = 2 → I P 10 = N (b + 22)) ∧ vp_nar .boolean (I P 11) = N (b + 23) ∧ I P 12 = N (b + 24) ∧ I P 13 = N (b + 25) ∧ I P 14 = N (b + 26) ∧ I P 15 = N (b + 45) ∧ pTC I P N b
def pTR (I : po_I) (t : Nat) (N : po_N) : Prop := I t 0 = N 0 ∧ I t 3 = N 1 ∧ I t 5 = N 2 ∧ I t 7 = N 3 ∧ (∀ j, j < 28 → I (t + 1) j = N (4 + j)) ∧
  (∀ k, k < pv N 1 → pTL I (t + (5 + 3 * k)) N (32 + 16 * k)) ∧ (∀ k, k < pv N 2 → pTP I (t + (29 + 5 * k)) N (160 + 46 * k)) ∧ (∀ k, k < pv N 3 → ∀ j, j < 4 → I (t + (79 + k)) j = N (620 + 4 * k + j))
section QH
variable {I I' : po_I} {t P L b : Nat} {N : po_N}
theorem pTP.lot (h : pTP I P N b) : I P 0 = N b := h.1
theorem pTP.use (h : pTP I P N b) : I P 1 = N (b + 1) := h.2.1
theorem pTP.flo (h : pTP I P N b) : I P 2 = N (b + 17) := h.2.2.1
theorem pTP.par (h : pTP I P N b) : I P 3 = N (b + 18) := h.2.2.2.1
theorem pTP.are (h : pTP I P N b) : pAR I (P + 1) (pa_in N b) := h.2.2.2.2.1
theorem pTP.cel (h : pTP I P N b) : I P 5 = Int32.ofNat (ps_n (pa_in N b)) := h.2.2.2.2.2.1
theorem pTP.sta (h : pTP I P N b) : I P 6 = N (b + 19) := h.2.2.2.2.2.2.1
theorem pTP.rea (h : pTP I P N b) : (N (b + 19) = 1 → I P 7 = N (b + 27)) := h.2.2.2.2.2.2.2.1
theorem pTP.pha (h : pTP I P N b) : I P 8 = N (b + 20) := h.2.2.2.2.2.2.2.2.1
theorem pTP.fai (h : pTP I P N b) : I P 9 = N (b + 21) := h.2.2.2.2.2.2.2.2.2.1
theorem pTP.lim (h : pTP I P N b) : (N (b + 19) = 2 → I P 10 = N (b + 22)) := h.2.2.2.2.2.2.2.2.2.2.1
theorem pTP.ext (h : pTP I P N b) : vp_nar .boolean (I P 11) = N (b + 23) := h.2.2.2.2.2.2.2.2.2.2.2.1
theorem pTP.nam (h : pTP I P N b) : I P 12 = N (b + 24) := h.2.2.2.2.2.2.2.2.2.2.2.2.1
theorem pTP.pai (h : pTP I P N b) : I P 13 = N (b + 25) := h.2.2.2.2.2.2.2.2.2.2.2.2.2.1
theorem pTP.bac (h : pTP I P N b) : I P 14 = N (b + 26) := h.2.2.2.2.2.2.2.2.2.2.2.2.2.2.1
theorem pTP.con (h : pTP I P N b) : I P 15 = N (b + 45) := h.2.2.2.2.2.2.2.2.2.2.2.2.2.2.2.1
theorem pTP.cnd (h : pTP I P N b) : pTC I P N b := h.2.2.2.2.2.2.2.2.2.2.2.2.2.2.2.2
theorem pTL.mv (h : pTL I L N b) (e : ∀ q, L ≤ q → q < L + 3 → I' q = I q) : pTL I' L N b := by
  obtain ⟨h1, h2, h3, h4⟩ := h
  have e0 := e L (by omega) (by omega)
  exact ⟨by rw [e0]; exact h1, by rw [e0]; exact h2, h3.mv (e (L + 1 + 1) (by omega) (by omega)), by rw [e0]; exact h4⟩
theorem pTP.mv (h : pTP I P N b) (e : ∀ q, P ≤ q → q < P + 5 → I' q = I q) : pTP I' P N b := by
  have e0 := e P (by omega) (by omega)
  have e3 := e (P + 3) (by omega) (by omega)
  have e4 := e (P + 4) (by omega) (by omega)
  have ec : pTC I' P N b := by
    intro i hi
    have := h.cnd i hi
    rw [e0, e3, e4]
    exact this
  obtain ⟨h0, h1, h2, h3, h4, h5, h6, h7, h8, h9, h10, h11, h12, h13, h14, h15, h16⟩ := h
  exact ⟨by rw [e0]; exact h0, by rw [e0]; exact h1, by rw [e0]; exact h2, by rw [e0]; exact h3, h4.mv (e (P + 1 + 1) (by omega) (by omega)), by rw [e0]; exact h5, by rw [e0]; exact h6, by rw [e0]; exact h7, by rw [e0]; exact h8, by rw [e0]; exact h9, by rw [e0]; exact h10, by rw [e0]; exact h11, by rw [e0]; exact h12, by rw [e0]; exact h13, by rw [e0]; exact h14, by rw [e0]; exact h15, ec⟩
theorem pTR.mv (hV : pV N) (h : pTR I t N) (e : ∀ q, t ≤ q → q < t + 91 → I' q = I q) : pTR I' t N := by
  obtain ⟨h0, h1, h2, h3, h4, h5, h6, h7⟩ := h
  have e0 := e t (by omega) (by omega)
  have e1 := e (t + 1) (by omega) (by omega)
  have c1 := hV.2.1.2.2
  have c2 := hV.2.2.1.2.2
  have c3 := hV.2.2.2.1.2.2
  refine ⟨by rw [e0]; exact h0, by rw [e0]; exact h1, by rw [e0]; exact h2, by rw [e0]; exact h3, by rw [e1]; exact h4, fun k hk => (h5 k hk).mv fun q q1 q2 => e q (by omega) (by omega), fun k hk => (h6 k hk).mv fun q q1 q2 => e q (by omega) (by omega), fun k hk j hj => ?_⟩
  rw [e (t + (79 + k)) (by omega) (by omega)]
  exact h7 k hk j hj
variable {k p : Nat}
theorem x_lotAt (hV : pV N) (hT : pTR I t N) (hk : k < pv N 1) : m_X5_lotAt I t (Int32.ofNat k) = some (t + (5 + 3 * k)) := by
  have h0 := hV.2.1
  have h0' := h0.2.2
  unfold m_X5_lotAt m_X5_lotAt_e m_X5_lotAt_21 m_X5_lotAt_27
  rw [hT.2.1, h0.1]
  simp only [-Int32.reduceOfNat, pk_0, pk_1, pk_2, pk_3, pk_4, pk_5, pk_6, pk_7, pk_8, pk_9, pk_10, pk_11, pk_12, pk_13, pk_14, pk_15, pk_16, pk_17, pk_18, pk_19, pk_20, pk_21, pk_22, pk_23, pk_24, pk_25, pk_26, pk_27, pk_28, pk_29, pk_30, pk_31, pk_32, pk_33, pk_44, pk_45, pk_46, pk_48, pk_50, pk_57, pk_59, pk_60, pk_63, pk_67, pk_69, pk_76, pk_78, pk_79, pk_80, pk_83, pk_86, pk_87, pk_90, pk_97, pk_99, pk_100, pk_110, pk_116, pk_122, pk_126, pk_160, pk_190, pk_255, pk_280, pk_281, pk_500, pk_620, pk_668, pk_1000, pk_3340, pk_4008, pk_5000, pk_65536, pk_1000000, pk_2000000, pk_3000000, pk_252645135, pk_858993459, pk_1431655765, pl_add, pl_mul]
  repeat rw [pl_clamp (by omega)]
  rw [if_neg (by rw [← pk_0, pl_not0 (by omega)]; exact id), if_neg (by first | exact pl_inl (by omega) (by omega) | exact (pl_le (by omega) (by omega)).mpr (by omega) | exact mt (pl_le (by omega) (by omega)).mp (by omega) | exact (pl_lt (by omega) (by omega)).mpr (by omega) | exact mt (pl_lt (by omega) (by omega)).mp (by omega) | exact (pl_eq (by omega) (by omega)).mpr (by omega) | exact mt (pl_eq (by omega) (by omega)).mp (by omega) | exact (pl_neg1 (by omega)).mp | exact (pl_neg1' (by omega)).mp | assumption | omega | rfl | decide), if_pos (by first | exact pl_inl (by omega) (by omega) | exact (pl_le (by omega) (by omega)).mpr (by omega) | exact mt (pl_le (by omega) (by omega)).mp (by omega) | exact (pl_lt (by omega) (by omega)).mpr (by omega) | exact mt (pl_lt (by omega) (by omega)).mp (by omega) | exact (pl_eq (by omega) (by omega)).mpr (by omega) | exact mt (pl_eq (by omega) (by omega)).mp (by omega) | exact (pl_neg1 (by omega)).mp | exact (pl_neg1' (by omega)).mp | assumption | omega | rfl | decide)]
theorem x_stands (hP : pTP I P N (160 + 46 * k)) : m_X2_stands I P = some (pb (ps_st N k)) := by
  unfold m_X2_stands m_X2_stands_e m_X2_stands_25 m_X2_stands_30 ps_st
  rw [hP.sta]
  by_cases h1 : N (160 + 46 * k + 19) = 2
  · rw [if_pos h1, decide_eq_true h1]; rfl
  · rw [if_neg h1, decide_eq_false h1]
    by_cases h2 : N (160 + 46 * k + 19) = 3
    · rw [if_pos h2, decide_eq_true h2]; rfl
    · rw [if_neg h2, decide_eq_false h2]
      by_cases h3 : N (160 + 46 * k + 19) = 6
      · rw [if_pos h3, decide_eq_true h3]; rfl
      · rw [if_neg h3, decide_eq_false h3]; rfl
theorem x_floorArea (hP : pTP I P N (160 + 46 * k)) : m_X2_floorArea I P = some (ps_fa N k) := by
  unfold m_X2_floorArea m_X2_floorArea_e ps_fa ps_bc
  rw [hP.cel, hP.flo]
theorem x_countsFor_n {lot : Int32} (hP : pTP I P N (160 + 46 * k)) : m_X5_countsFor_n I P lot = some (pb (ps_of N k lot)) := by
  unfold m_X5_countsFor_n m_X5_countsFor_n_e m_X5_countsFor_n_24 m_X5_countsFor_n_25 ps_of
  rw [hP.lot, x_stands hP]
  by_cases h : N (160 + 46 * k) = lot
  · rw [if_pos h, decide_eq_true h, Option.bind_some]
    cases ps_st N k <;> rfl
  · rw [if_neg h, decide_eq_false h, Bool.and_false]; rfl
theorem x_countsFor {lot : Int32} (hk : k < 10) (hp : p < 10) (hP : pTP I (t + (29 + 5 * k)) N (160 + 46 * k)) : m_X5_countsFor I (t + (29 + 5 * k)) lot (t + (29 + 5 * p)) = some (pb (!decide (Int32.ofNat k = Int32.ofNat p) && ps_of N k lot)) := by
  unfold m_X5_countsFor m_X5_countsFor_e m_X5_countsFor_24 m_X5_countsFor_25 ps_of
  rw [hP.lot, x_stands hP]
  by_cases e : k = p
  · subst e
    rw [if_pos rfl, decide_eq_true rfl]; rfl
  · rw [if_neg (by omega), decide_eq_false (mt (pl_eq (by omega) (by omega)).mp e)]
    by_cases h : N (160 + 46 * k) = lot
    · rw [if_pos h, decide_eq_true h, Option.bind_some]
      cases ps_st N k <;> rfl
    · rw [if_neg h, decide_eq_false h, Bool.and_false]; rfl
theorem x_gather {lot : Int32} {a : Nat} (hV : pV N) (hT : pTR I t N) (hp : p < 10) (ha : a + 1 < t) : ∃ I', m_X5_gatherBuildings I t lot (t + (29 + 5 * p)) a = some I' ∧ (∀ q, q ≠ a + 1 → I' q = I q) ∧ pAR I' a (fun c r => ps_blt N lot c r (Int32.ofNat p)) := by
  have h0 := hV.2.2.1
  have h0' := h0.2.2
  obtain ⟨I5, c1, c2, c3⟩ := x_clear (I := I) (a := a)
  unfold m_X5_gatherBuildings m_X5_gatherBuildings_e
  rw [c1, Option.bind_some]
  refine po_inv (L := fun f (J : po_I) k => m_X5_gatherBuildings_7L f J t lot (t + (29 + 5 * p)) a (Int32.ofNat k)) (n := pv N 2) (fun k J => (∀ q, q ≠ a + 1 → J q = I q) ∧ pAR J a (fun c r => pany (ps_bk N lot c r (Int32.ofNat p)) k)) (fun x => ∃ I', x = some I' ∧ (∀ q, q ≠ a + 1 → I' q = I q) ∧ pAR I' a (fun c r => ps_blt N lot c r (Int32.ofNat p))) ?_ ?_ (pv N 2) 5000 I5 0 (Nat.zero_add _) (by omega) ⟨c2, c3⟩
  · rintro f J k hk ⟨g1, g2⟩
    left
    have hTJ : pTR J t N := hT.mv hV (fun q q1 q2 => g1 q (by omega))
    have hP := hTJ.2.2.2.2.2.2.1 k hk
    have e : ∀ X, (m_X0_addAll J a (t + (29 + 5 * k) + 1) = some X) → m_X5_gatherBuildings_7L (f + 1) J t lot (t + (29 + 5 * p)) a (Int32.ofNat k) = if pb (!decide (Int32.ofNat k = Int32.ofNat p) && ps_of N k lot) = Int32.ofNat 0 then m_X5_gatherBuildings_7L f J t lot (t + (29 + 5 * p)) a (Int32.ofNat (k + 1)) else m_X5_gatherBuildings_7L f X t lot (t + (29 + 5 * p)) a (Int32.ofNat (k + 1)) := by
      intro X hX
      show m_X5_gatherBuildings_7 _ _ _ _ _ _ _ = _
      unfold m_X5_gatherBuildings_7 m_X5_gatherBuildings_45
      rw [hTJ.2.2.1, h0.1]
      simp only [-Int32.reduceOfNat, pk_0, pk_1, pk_2, pk_3, pk_4, pk_5, pk_6, pk_7, pk_8, pk_9, pk_10, pk_11, pk_12, pk_13, pk_14, pk_15, pk_16, pk_17, pk_18, pk_19, pk_20, pk_21, pk_22, pk_23, pk_24, pk_25, pk_26, pk_27, pk_28, pk_29, pk_30, pk_31, pk_32, pk_33, pk_44, pk_45, pk_46, pk_48, pk_50, pk_57, pk_59, pk_60, pk_63, pk_67, pk_69, pk_76, pk_78, pk_79, pk_80, pk_83, pk_86, pk_87, pk_90, pk_97, pk_99, pk_100, pk_110, pk_116, pk_122, pk_126, pk_160, pk_190, pk_255, pk_280, pk_281, pk_500, pk_620, pk_668, pk_1000, pk_3340, pk_4008, pk_5000, pk_65536, pk_1000000, pk_2000000, pk_3000000, pk_252645135, pk_858993459, pk_1431655765, pl_add, pl_mul]
      repeat rw [pl_clamp (by omega)]
      rw [if_neg (by first | exact pl_inl (by omega) (by omega) | exact (pl_le (by omega) (by omega)).mpr (by omega) | exact mt (pl_le (by omega) (by omega)).mp (by omega) | exact (pl_lt (by omega) (by omega)).mpr (by omega) | exact mt (pl_lt (by omega) (by omega)).mp (by omega) | exact (pl_eq (by omega) (by omega)).mpr (by omega) | exact mt (pl_eq (by omega) (by omega)).mp (by omega) | exact (pl_neg1 (by omega)).mp | exact (pl_neg1' (by omega)).mp | assumption | omega | rfl | decide), if_pos (by first | exact pl_inl (by omega) (by omega) | exact (pl_le (by omega) (by omega)).mpr (by omega) | exact mt (pl_le (by omega) (by omega)).mp (by omega) | exact (pl_lt (by omega) (by omega)).mpr (by omega) | exact mt (pl_lt (by omega) (by omega)).mp (by omega) | exact (pl_eq (by omega) (by omega)).mpr (by omega) | exact mt (pl_eq (by omega) (by omega)).mp (by omega) | exact (pl_neg1 (by omega)).mp | exact (pl_neg1' (by omega)).mp | assumption | omega | rfl | decide), x_countsFor (by omega) hp hP, Option.bind_some, if_pos (show po_in (Int32.ofNat k) 10 = true from pl_inl (by omega) (by omega)), hX, Option.bind_some]
    obtain ⟨X, y1, y2, y3⟩ := x_addAll (I := J) (a := a) (b := t + (29 + 5 * k) + 1) (by omega) g2 hP.are
    show ∃ s', _ ∧ m_X5_gatherBuildings_7L (f + 1) J t lot (t + (29 + 5 * p)) a (Int32.ofNat k) = _
    rw [e X y1]
    cases hc : (!decide (Int32.ofNat k = Int32.ofNat p) && ps_of N k lot) with
    | false =>
      refine ⟨J, ⟨g1, fun r hr c hc2 => ?_⟩, if_pos rfl⟩
      refine (g2 r hr c hc2).trans ?_
      show (decide (c < 20) && pany (ps_bk N lot (Int32.ofNat c) (Int32.ofNat r) (Int32.ofNat p)) k) = (decide (c < 20) && (pany (ps_bk N lot (Int32.ofNat c) (Int32.ofNat r) (Int32.ofNat p)) k || ps_bk N lot (Int32.ofNat c) (Int32.ofNat r) (Int32.ofNat p) k))
      unfold ps_bk
      rw [← Bool.and_assoc, hc, Bool.false_and, Bool.or_false]
    | true =>
      refine ⟨X, ⟨fun q hq => by rw [y2 q hq, g1 q hq], fun r hr c hc2 => ?_⟩, if_neg (by decide)⟩
      refine (y3 r hr c hc2).trans ?_
      show (decide (c < 20) && (pany (ps_bk N lot (Int32.ofNat c) (Int32.ofNat r) (Int32.ofNat p)) k || pa_in N (160 + 46 * k) (Int32.ofNat c) (Int32.ofNat r))) = (decide (c < 20) && (pany (ps_bk N lot (Int32.ofNat c) (Int32.ofNat r) (Int32.ofNat p)) k || ps_bk N lot (Int32.ofNat c) (Int32.ofNat r) (Int32.ofNat p) k))
      unfold ps_bk
      rw [← Bool.and_assoc, hc, Bool.true_and]
  · rintro f J ⟨g1, g2⟩
    refine ⟨J, ?_, g1, g2⟩
    have hTJ : pTR J t N := hT.mv hV (fun q q1 q2 => g1 q (by omega))
    show m_X5_gatherBuildings_7 _ _ _ _ _ _ _ = _
    unfold m_X5_gatherBuildings_7
    rw [hTJ.2.2.1, h0.1, if_pos (by first | exact pl_inl (by omega) (by omega) | exact (pl_le (by omega) (by omega)).mpr (by omega) | exact mt (pl_le (by omega) (by omega)).mp (by omega) | exact (pl_lt (by omega) (by omega)).mpr (by omega) | exact mt (pl_lt (by omega) (by omega)).mp (by omega) | exact (pl_eq (by omega) (by omega)).mpr (by omega) | exact mt (pl_eq (by omega) (by omega)).mp (by omega) | exact (pl_neg1 (by omega)).mp | exact (pl_neg1' (by omega)).mp | assumption | omega | rfl | decide)]
end QH
