section QB9
variable {I I3 : po_I} {R : po_R} {o M n t k b : Nat} {N N' : po_N} {st : Nat → Nat}
theorem pg_vv {j : Nat} (h : N' j = N j) : pv N' j = pv N j := by
  show (N' j).toNatClampNeg = (N j).toNatClampNeg
  rw [h]
theorem pg_cc {j lo hi : Nat} (h : N' j = N j) (hc : pv_c N j lo hi) : pv_c N' j lo hi := by
  unfold pv_c at *
  rw [pg_vv h, h]
  exact hc
theorem pg_rv {j : Nat} (h : ∀ i, i < 15 → N' (b + i) = N (b + i)) (hj : j < 3) (hr : pa_rv N b j) : pa_rv N' b j := by
  obtain ⟨h1, h2, h3, h4, h5, h6⟩ := hr
  have e0 : N' (b + 3 + 4 * j) = N (b + 3 + 4 * j) := by have := h (3 + 4 * j) (by omega); rwa [← Nat.add_assoc] at this
  have e1 : N' (b + 3 + 4 * j + 1) = N (b + 3 + 4 * j + 1) := by have := h (3 + 4 * j + 1) (by omega); rwa [show b + (3 + 4 * j + 1) = b + 3 + 4 * j + 1 by omega] at this
  have e2 : N' (b + 3 + 4 * j + 2) = N (b + 3 + 4 * j + 2) := by have := h (3 + 4 * j + 2) (by omega); rwa [show b + (3 + 4 * j + 2) = b + 3 + 4 * j + 2 by omega] at this
  have e3 : N' (b + 3 + 4 * j + 3) = N (b + 3 + 4 * j + 3) := by have := h (3 + 4 * j + 3) (by omega); rwa [show b + (3 + 4 * j + 3) = b + 3 + 4 * j + 3 by omega] at this
  refine ⟨pg_cc e0 h1, pg_cc e1 h2, pg_cc e2 h3, pg_cc e3 h4, ?_, ?_⟩
  · rw [pg_vv e0, pg_vv e2]; exact h5
  · rw [pg_vv e1, pg_vv e3]; exact h6
theorem pg_av (h : ∀ i, i < 15 → N' (b + i) = N (b + i)) (hr : pa_v N b) : pa_v N' b := by
  obtain ⟨h1, h2, h3, h4⟩ := hr
  have e2 := h 2 (by omega)
  refine ⟨pg_cc e2 h1, pg_rv h (by omega) h2, ?_, ?_⟩
  · rw [pg_vv e2]; exact fun e => pg_rv h (by omega) (h3 e)
  · rw [pg_vv e2]; exact fun e => pg_rv h (by omega) (h4 e)
theorem pg_ain (h : ∀ i, i < 15 → N' (b + i) = N (b + i)) : pa_in N' b = pa_in N b := by
  have e : ∀ j, j < 3 → ∀ c r, pa_r N' b j c r = pa_r N b j c r := by
    intro j hj c r
    have e0 : N' (b + 3 + 4 * j) = N (b + 3 + 4 * j) := by have := h (3 + 4 * j) (by omega); rwa [← Nat.add_assoc] at this
    have e1 : N' (b + 3 + 4 * j + 1) = N (b + 3 + 4 * j + 1) := by have := h (3 + 4 * j + 1) (by omega); rwa [show b + (3 + 4 * j + 1) = b + 3 + 4 * j + 1 by omega] at this
    have e2 : N' (b + 3 + 4 * j + 2) = N (b + 3 + 4 * j + 2) := by have := h (3 + 4 * j + 2) (by omega); rwa [show b + (3 + 4 * j + 2) = b + 3 + 4 * j + 2 by omega] at this
    have e3 : N' (b + 3 + 4 * j + 3) = N (b + 3 + 4 * j + 3) := by have := h (3 + 4 * j + 3) (by omega); rwa [show b + (3 + 4 * j + 3) = b + 3 + 4 * j + 3 by omega] at this
    unfold pa_r
    rw [e0, e1, e2, e3]
  funext c r
  unfold pa_in
  rw [e 0 (by omega), e 1 (by omega), e 2 (by omega), pg_vv (h 2 (by omega))]
theorem pg_pP (h : ∀ i, i < 46 → N' (b + i) = N (b + i)) (h1 : pv N 1 ≤ pv N' 1) (hp : pP N b) : pP N' b := by
  obtain ⟨g1, g2, g3, g4, g5, g6, g7, g8, g9, g10, g11, g12, g13, g14, g15⟩ := hp
  have g12' := g12.2.2
  have e0 := h 0 (by omega)
  rw [Nat.add_zero] at e0
  refine ⟨pg_cc e0 g1, by rw [pg_vv e0]; omega, pg_cc (h 1 (by omega)) g3, pg_av (fun i hi => h i (by omega)) g4, pg_cc (h 17 (by omega)) g5, pg_cc (h 18 (by omega)) g6, pg_cc (h 19 (by omega)) g7, pg_cc (h 20 (by omega)) g8, pg_cc (h 21 (by omega)) g9, pg_cc (h 23 (by omega)) g10, pg_cc (h 24 (by omega)) g11, pg_cc (h 45 (by omega)) g12, ?_, ?_, ?_⟩
  · rw [pg_vv (h 19 (by omega)), pg_vv (h 20 (by omega)), pg_vv (h 21 (by omega))]
    exact fun e => ⟨pg_cc (h 22 (by omega)) (g13 e).1, (g13 e).2⟩
  · rw [pg_vv (h 19 (by omega)), pg_vv (h 20 (by omega))]; exact g14
  · rw [pg_vv (h 45 (by omega))]
    exact fun i hi => pg_cc (by have := h (29 + i) (by omega); rwa [← Nat.add_assoc] at this) (g15 i hi)
theorem pg_TL {L : Nat} (h : ∀ i, i < 15 → N' (b + i) = N (b + i)) (hL : pTL I L N b) : pTL I L N' b := by
  obtain ⟨h1, h2, h3, h4⟩ := hL
  have e0 := h 0 (by omega)
  rw [Nat.add_zero] at e0
  unfold pTL
  rw [e0, h 1 (by omega), pg_ain h]
  exact ⟨h1, h2, h3, h4⟩
theorem pg_TP {P : Nat} (h : ∀ i, i < 46 → N' (b + i) = N (b + i)) (hc : pv N (b + 45) ≤ 6) (hP : pTP I P N b) : pTP I P N' b := by
  have e0 := h 0 (by omega)
  rw [Nat.add_zero] at e0
  have ec : pTC I P N' b := by
    intro i hi
    have hh := hP.cnd i hi
    rw [pg_vv (h 45 (by omega))]
    refine ⟨fun hlt => ?_, hh.2⟩
    rw [pg_vv (show N' (b + 29 + i) = N (b + 29 + i) by have := h (29 + i) (by omega); rwa [← Nat.add_assoc] at this)]
    exact hh.1 hlt
  obtain ⟨h0, h1, h2, h3, h4, h5, h6, h7, h8, h9, h10, h11, h12, h13, h14, h15, h16⟩ := hP
  unfold pTP
  rw [e0, h 1 (by omega), h 17 (by omega), h 18 (by omega), pg_ain (fun i hi => h i (by omega)), h 19 (by omega), h 27 (by omega), h 20 (by omega), h 21 (by omega), h 22 (by omega), h 23 (by omega), h 24 (by omega), h 25 (by omega), h 26 (by omega), h 45 (by omega)]
  exact ⟨h0, h1, h2, h3, h4, h5, h6, h7, h8, h9, h10, h11, h12, h13, h14, h15, ec⟩
/-- one permit of a row is another -/
theorem pV_per (hV : pV N) (hk : k < pv N 2) (hN : ∀ j, (j < 160 + 46 * k ∨ 160 + 46 * k + 46 ≤ j) → N' j = N j) (hp : pP N' (160 + 46 * k)) : pV N' := by
  obtain ⟨h1, h2, h3, h4, h5, h6, h7, h8⟩ := hV
  have h2' := h2.2.2
  have h3' := h3.2.2
  have h4' := h4.2.2
  refine ⟨pg_cc (hN 0 (by omega)) h1, pg_cc (hN 1 (by omega)) h2, pg_cc (hN 2 (by omega)) h3, pg_cc (hN 3 (by omega)) h4, fun z hz => ?_, ?_, ?_, ?_⟩
  · obtain ⟨g1, g2, g3, g4, g5, g6, g7⟩ := h5 z hz
    exact ⟨pg_cc (hN _ (by omega)) g1, pg_cc (hN _ (by omega)) g2, pg_cc (hN _ (by omega)) g3, pg_cc (hN _ (by omega)) g4, pg_cc (hN _ (by omega)) g5, pg_cc (hN _ (by omega)) g6, pg_cc (hN _ (by omega)) g7⟩
  · rw [pg_vv (hN 1 (by omega))]
    intro i hi
    obtain ⟨g1, g2, g3⟩ := h6 i hi
    exact ⟨pg_cc (hN _ (by omega)) g1, pg_cc (hN _ (by omega)) g2, pg_av (fun j hj => hN _ (by omega)) g3⟩
  · rw [pg_vv (hN 2 (by omega))]
    intro i hi
    by_cases e : i = k
    · rw [e]; exact hp
    · exact pg_pP (fun j hj => hN _ (by omega)) (by rw [pg_vv (hN 1 (by omega))]; exact Nat.le_refl _) (h7 i hi)
  · rw [pg_vv (hN 3 (by omega))]
    intro i hi
    obtain ⟨g1, g2, g3, g4⟩ := h8 i hi
    exact ⟨pg_cc (hN _ (by omega)) g1, pg_cc (hN _ (by omega)) g2, pg_cc (hN _ (by omega)) g3, pg_cc (hN _ (by omega)) g4⟩
theorem pTR_per (hV : pV N) (hT : pTR I t N) (hk : k < pv N 2) (hN : ∀ j, (j < 160 + 46 * k ∨ 160 + 46 * k + 46 ≤ j) → N' j = N j) (hI : ∀ q, t ≤ q → q < t + 91 → (q < t + (29 + 5 * k) ∨ t + (29 + 5 * k) + 5 ≤ q) → I3 q = I q) (hp : pTP I3 (t + (29 + 5 * k)) N' (160 + 46 * k)) : pTR I3 t N' := by
  have h2' := hV.2.1.2.2
  have h3' := hV.2.2.1.2.2
  have h4' := hV.2.2.2.1.2.2
  obtain ⟨g1, g2, g3, g4, g5, g6, g7, g8⟩ := hT
  have e0 := hI t (by omega) (by omega) (by omega)
  have e1 := hI (t + 1) (by omega) (by omega) (by omega)
  refine ⟨by rw [e0, hN 0 (by omega)]; exact g1, by rw [e0, hN 1 (by omega)]; exact g2, by rw [e0, hN 2 (by omega)]; exact g3, by rw [e0, hN 3 (by omega)]; exact g4, fun j hj => by rw [e1, hN (4 + j) (by omega)]; exact g5 j hj, ?_, ?_, ?_⟩
  · rw [pg_vv (hN 1 (by omega))]
    exact fun i hi => pg_TL (fun j hj => hN _ (by omega)) ((g6 i hi).mv (fun q q1 q2 => hI q (by omega) (by omega) (by omega)))
  · rw [pg_vv (hN 2 (by omega))]
    intro i hi
    by_cases e : i = k
    · rw [e]; exact hp
    · exact pg_TP (fun j hj => hN _ (by omega)) (hV.per hi).2.2.2.2.2.2.2.2.2.2.2.1.2.2 ((g7 i hi).mv (fun q q1 q2 => hI q (by omega) (by omega) (by omega)))
  · rw [pg_vv (hN 3 (by omega))]
    exact fun i hi j hj => by rw [hI _ (by omega) (by omega) (by omega), hN _ (by omega)]; exact g8 i hi j hj
theorem pB_per (hV : pV N) (hB : pB N n) (hk : k < pv N 2) (hN : ∀ j, (j < 160 + 46 * k ∨ 160 + 46 * k + 46 ≤ j) → N' j = N j) (hp : pv N' (160 + 46 * k + 19) = 2 → pv N' (160 + 46 * k + 22) ≤ 100 * (n + 1) + 200) (h0 : pv N' (160 + 46 * k + 19) = 0 → pv N' (160 + 46 * k + 20) = 0 ∧ pv N' (160 + 46 * k + 21) = 0) : pB N' (n + 1) := by
  have h3' := hV.2.2.1.2.2
  have h4' := hV.2.2.2.1.2.2
  have hU := hB.up
  unfold pB at *
  rw [pg_vv (hN 0 (by omega)), pg_vv (hN 2 (by omega)), pg_vv (hN 3 (by omega))]
  refine ⟨hU.1, fun i hi => ?_, fun i hi => ?_, fun i hi => ?_⟩
  · by_cases e : i = k
    · rw [e]; exact hp
    · rw [pg_vv (hN (160 + 46 * i + 19) (by omega)), pg_vv (hN (160 + 46 * i + 22) (by omega))]
      exact hU.2.1 i hi
  · rw [pg_vv (hN (620 + 4 * i + 3) (by omega))]
    exact hU.2.2.1 i hi
  · by_cases e : i = k
    · rw [e]; exact h0
    · rw [pg_vv (hN (160 + 46 * i + 19) (by omega)), pg_vv (hN (160 + 46 * i + 20) (by omega)), pg_vv (hN (160 + 46 * i + 21) (by omega))]
      exact hU.2.2.2 i hi
/-- the office's fields of one permit change -/
theorem pper (hV : pV N) (hB : pB N n) (hT : pTR I t N) (hk : k < pv N 2) (hN : ∀ j, (j < 160 + 46 * k + 19 ∨ 160 + 46 * k + 27 < j) → N' j = N j) (hI : ∀ q, t ≤ q → q < t + 91 → q ≠ t + (29 + 5 * k) → I3 q = I q) (hc : ∀ c, c = 0 ∨ c = 1 ∨ c = 2 ∨ c = 3 ∨ c = 5 ∨ c = 15 ∨ c = 16 → I3 (t + (29 + 5 * k)) c = I (t + (29 + 5 * k)) c)
    (f6 : I3 (t + (29 + 5 * k)) 6 = N' (160 + 46 * k + 19)) (f7 : N' (160 + 46 * k + 19) = 1 → I3 (t + (29 + 5 * k)) 7 = N' (160 + 46 * k + 27)) (f8 : I3 (t + (29 + 5 * k)) 8 = N' (160 + 46 * k + 20)) (f9 : I3 (t + (29 + 5 * k)) 9 = N' (160 + 46 * k + 21)) (f10 : N' (160 + 46 * k + 19) = 2 → I3 (t + (29 + 5 * k)) 10 = N' (160 + 46 * k + 22)) (f11 : vp_nar .boolean (I3 (t + (29 + 5 * k)) 11) = N' (160 + 46 * k + 23)) (f12 : I3 (t + (29 + 5 * k)) 12 = N' (160 + 46 * k + 24)) (f13 : I3 (t + (29 + 5 * k)) 13 = N' (160 + 46 * k + 25)) (f14 : I3 (t + (29 + 5 * k)) 14 = N' (160 + 46 * k + 26))
    (g19 : pv_c N' (160 + 46 * k + 19) 0 6) (g20 : pv_c N' (160 + 46 * k + 20) 0 4) (g21 : pv_c N' (160 + 46 * k + 21) 0 3) (g23 : pv_c N' (160 + 46 * k + 23) 0 1) (g24 : pv_c N' (160 + 46 * k + 24) 0 4095)
    (gi : pv N' (160 + 46 * k + 19) = 2 → pv_c N' (160 + 46 * k + 22) 0 200000 ∧ pv N' (160 + 46 * k + 22) ≤ 100 * (n + 1) + 200 ∧ pv N' (160 + 46 * k + 20) ≤ 3 ∧ pv N' (160 + 46 * k + 21) ≤ 2) (gs : pv N' (160 + 46 * k + 19) = 6 → pv N' (160 + 46 * k + 20) ≤ 3) (g0 : pv N' (160 + 46 * k + 19) = 0 → pv N' (160 + 46 * k + 20) = 0 ∧ pv N' (160 + 46 * k + 21) = 0) : pV N' ∧ pB N' (n + 1) ∧ pTR I3 t N' := by
  have hN2 : ∀ j, (j < 160 + 46 * k ∨ 160 + 46 * k + 46 ≤ j) → N' j = N j := fun j hj => hN j (by omega)
  have h3' := hV.2.2.1.2.2
  have hp := hV.per hk
  have hP := hT.per hk
  have h15 := hp.cds
  obtain ⟨q1, q2, q3, q4, q5, q6, q7, q8, q9, q10, q11, q12, _⟩ := hp
  have q12' := q12.2.2
  have ea : ∀ i, i < 15 → N' (160 + 46 * k + i) = N (160 + 46 * k + i) := fun i hi => hN _ (by omega)
  have hp' : pP N' (160 + 46 * k) := by
    refine ⟨pg_cc (hN _ (by omega)) q1, ?_, pg_cc (hN _ (by omega)) q3, pg_av ea q4, pg_cc (hN _ (by omega)) q5, pg_cc (hN _ (by omega)) q6, g19, g20, g21, g23, g24, pg_cc (hN _ (by omega)) q12, fun e => ⟨(gi e).1, (gi e).2.2.1, (gi e).2.2.2⟩, gs, ?_⟩
    · rw [pg_vv (hN (160 + 46 * k) (by omega)), pg_vv (hN 1 (by omega))]; exact q2
    · rw [pg_vv (hN (160 + 46 * k + 45) (by omega))]
      exact fun i hi => pg_cc (hN _ (by omega)) (h15 i hi)
  refine ⟨pV_per hV hk hN2 hp', pB_per hV hB hk hN2 (fun e => (gi e).2.1) g0, pTR_per hV hT hk hN2 (fun q a b c => hI q a b (by omega)) ?_⟩
  have ec : pTC I3 (t + (29 + 5 * k)) N' (160 + 46 * k) := by
    intro i hi
    have hh := hP.cnd i hi
    rw [pg_vv (hN (160 + 46 * k + 45) (by omega)), hc 16 (by simp), hI (t + (29 + 5 * k) + 3) (by omega) (by omega) (by omega), hI (t + (29 + 5 * k) + 4) (by omega) (by omega) (by omega)]
    refine ⟨fun hlt => ?_, hh.2⟩
    rw [pg_vv (hN (160 + 46 * k + 29 + i) (by omega))]
    exact hh.1 hlt
  refine ⟨?_, ?_, ?_, ?_, ?_, ?_, f6, f7, f8, f9, f10, f11, f12, f13, f14, ?_, ec⟩
  · rw [hc 0 (by simp), hN _ (by omega)]; exact hP.lot
  · rw [hc 1 (by simp), hN _ (by omega)]; exact hP.use
  · rw [hc 2 (by simp), hN _ (by omega)]; exact hP.flo
  · rw [hc 3 (by simp), hN _ (by omega)]; exact hP.par
  · rw [pg_ain ea]; exact hP.are.mv (hI _ (by omega) (by omega) (by omega))
  · rw [hc 5 (by simp), pg_ain ea]; exact hP.cel
  · rw [hc 15 (by simp), hN _ (by omega)]; exact hP.con
/-! A CALL THAT CAN BE UNDONE -/
theorem L_mut (h : pInv I R o M st n) : ∃ I' R', m_X7_remember I R o = some (I', R') ∧ (∀ q, (q < o + 282 ∨ o + 828 ≤ q) → q ≠ o → I' q = I q) ∧ (∀ j, j ≠ 7 → I' o j = I o j) ∧ ∀ I1, (∀ q, (q < o + 8 ∨ o + 99 ≤ q) → q ≠ o + 5 → q ≠ o + 7 → I1 q = I' q) → ∃ I2, m_X8_call (po_u I1 M 0 0) M = some I2 ∧ I2 (M + 1) = I (M + 1) ∧ I2 M 0 = 0 ∧ (∀ q, q < o + 828 → I2 q = I1 q) ∧ ∀ I3, (∀ q, q ≠ M → q ≠ M + 1 → I3 q = I2 q) → (I3 M 3 = I2 M 3 ∧ I3 M 6 = I2 M 6 ∧ I3 M 12 = I2 M 12 ∧ I3 M 15 = I2 M 15) → pV (I3 (M + 1)) ∧ pB (I3 (M + 1)) (n + 1) ∧ pTR I3 (o + 8) (I3 (M + 1)) → pInv I3 R' o M st (n + 1) := by
  obtain ⟨⟨a1, a2, a3⟩, ⟨u, b1, b2, b3, b4, b5⟩, ⟨b, c1, c2, c3⟩, ⟨len, d1, d2, d3, d4, d5⟩, e1, hM, s1, s2⟩ := h
  refine x_remember (Z := fun x => ∃ I' R', x = some (I', R') ∧ (∀ q, (q < o + 282 ∨ o + 828 ≤ q) → q ≠ o → I' q = I q) ∧ (∀ j, j ≠ 7 → I' o j = I o j) ∧ ∀ I1, (∀ q, (q < o + 8 ∨ o + 99 ≤ q) → q ≠ o + 5 → q ≠ o + 7 → I1 q = I' q) → ∃ I2, m_X8_call (po_u I1 M 0 0) M = some I2 ∧ I2 (M + 1) = I (M + 1) ∧ I2 M 0 = 0 ∧ (∀ q, q < o + 828 → I2 q = I1 q) ∧ ∀ I3, (∀ q, q ≠ M → q ≠ M + 1 → I3 q = I2 q) → (I3 M 3 = I2 M 3 ∧ I3 M 6 = I2 M 6 ∧ I3 M 12 = I2 M 12 ∧ I3 M 15 = I2 M 15) → pV (I3 (M + 1)) ∧ pB (I3 (M + 1)) (n + 1) ∧ pTR I3 (o + 8) (I3 (M + 1)) → pInv I3 R' o M st (n + 1)) a1 a3 b4 b1 b2 ?_
  intro I' R' g1 g2 g3 g4 g5 g6 g7
  have hv : (if u = 6 then 5 else u) < 6 := by split <;> omega
  have hvs : ∀ i, i < (if u = 6 then 5 else u) → i + (if u = 6 then 1 else 0) < u := by intro i hi; split at hi <;> split <;> omega
  generalize hvv : (if u = 6 then 5 else u) = v at *
  generalize hss : (if u = 6 then 1 else 0) = s at *
  obtain ⟨kv, kv1, kv2, kv3⟩ := g5.ad hv
  have f1 : ∀ q, (q < o + 282 ∨ o + 828 ≤ q) → q ≠ o → I' q = I q := fun q hq hn => g1 q hn (by omega)
  refine ⟨I', R', rfl, f1, g2, fun I1 hI1 => ?_⟩
  have m1 : I1 M = I M := by rw [hI1 M (by omega) (by omega) (by omega), f1 M (by omega) (by omega)]
  obtain ⟨I2, p1, p2, p3, p4, p5, p6⟩ := q_call (I := po_u I1 M 0 0) (M := M) b1 (by rw [po_uu, if_neg (by omega), m1]; exact b3)
  rw [hvv] at p4 p5 p6
  rw [hss] at p6
  have r : ∀ i, i < 6 → (po_u I1 M 0 0) (M + i) = if i = 0 then (po_u I1 M 0 0) M else I (M + i) := by
    intro i hi
    by_cases e : i = 0
    · rw [if_pos e, e, Nat.add_zero]
    · rw [if_neg e, po_u_ne (by omega), hI1 _ (by omega) (by omega) (by omega), f1 _ (by omega) (by omega)]
  refine ⟨I2, p1, by rw [p2 _ (by omega) (by omega) (by omega), r 1 (by omega), if_neg (by omega)], by rw [p3 0 (by omega), po_uaa], fun q hq => by rw [p2 q (by omega) (by omega) (by omega), po_u_ne (by omega)], fun I3 h1 h2 h3 => ?_⟩
  have lo : ∀ q, q < o + 828 → I3 q = I1 q := fun q hq => by rw [h1 q (by omega) (by omega), p2 q (by omega) (by omega) (by omega), po_u_ne (by omega)]
  have lo2 : ∀ q, q < o + 828 → (q < o + 8 ∨ o + 99 ≤ q) → q ≠ o + 5 → q ≠ o + 7 → I3 q = I' q := fun q hq a b c => by rw [lo q hq, hI1 q a b c]
  have pr : ∀ j, (po_u I1 M 0 0) (M + 2) j = I (M + 2) j := fun j => by rw [r 2 (by omega), if_neg (by omega)]
  refine ⟨h3, ⟨v + 1, by omega, ?_, ?_, g5, fun i hi => ?_⟩, ⟨b, ?_, ?_, fun hb => ?_⟩, ⟨len, d1, ?_, ?_, ?_, ?_⟩, ?_, hM, s1, s2⟩
  · rw [lo2 o (by omega) (by omega) (by omega) (by omega)]; exact g3
  · rw [h2.1]; exact p4
  · obtain ⟨ki, ki1, ki2, ki3⟩ := g5.ad (show i < 6 by omega)
    by_cases e : i = v
    · rw [e] at ki2 ⊢
      have sm : psame (I (M + 1)) (prw I3 M v) := by
        intro j hj
        show I3 (M + 2) (668 * v + j) = _
        rw [h1 _ (by omega) (by omega), p5 j hj, r 1 (by omega), if_neg (by omega)]
      refine ⟨sm.V a1, (sm.B a1 a2).up, sm.TR a1 (g4.mv a1 (fun q q1 q2 => lo2 q (by omega) (by omega) (by omega) (by omega)))⟩
    · obtain ⟨w1, w2, w3⟩ := b5 (i + s) (hvs i (by omega))
      have hpd := g6 i (by omega)
      have sm : psame (prw I M (i + s)) (prw I3 M i) := by
        intro j hj
        show I3 (M + 2) (668 * i + j) = I (M + 2) (668 * (i + s) + j)
        have : 668 * i + 668 ≤ 668 * v := by have := Nat.mul_le_mul_left 668 (show i + 1 ≤ v by omega); omega
        rw [h1 _ (by omega) (by omega), p6 _ (by omega), pr, show 668 * i + j + 668 * s = 668 * (i + s) + j by rw [Nat.mul_add]; omega]
      have hne := g5.ne (show i < 6 by omega) hv e
      refine ⟨sm.V w1, (sm.B w1 w2).up, sm.TR w1 ?_⟩
      rw [hpd]
      refine w3.mv w1 (fun q q1 q2 => ?_)
      rw [← hpd] at q1 q2
      rw [lo2 q (by omega) (by omega) (by omega) (by omega)]
      exact g1 q (by omega) (by omega)
  · rw [lo2 o (by omega) (by omega) (by omega) (by omega), g2 5 (by omega)]; exact c1
  · rw [h2.2.1, p3 6 (by omega), po_uu, if_neg (by omega), m1]; exact c2
  · obtain ⟨w1, w2, w3⟩ := c3 hb
    have e4 : I3 (M + 4) = I (M + 4) := by rw [h1 _ (by omega) (by omega), p2 _ (by omega) (by omega) (by omega), r 4 (by omega), if_neg (by omega)]
    rw [e4]
    exact ⟨w1, w2.up, w3.mv w1 (fun q q1 q2 => by rw [lo2 q (by omega) (by omega) (by omega) (by omega)]; exact f1 q (by omega) (by omega))⟩
  · rw [lo2 (o + 1) (by omega) (by omega) (by omega) (by omega), f1 _ (by omega) (by omega)]; exact d2
  · rw [h2.2.2.1, p3 12 (by omega), po_uu, if_neg (by omega), m1]; exact d3
  · have e5 : I3 (M + 5) = I (M + 5) := by rw [h1 _ (by omega) (by omega), p2 _ (by omega) (by omega) (by omega), r 5 (by omega), if_neg (by omega)]
    rw [lo2 (o + 2) (by omega) (by omega) (by omega) (by omega), f1 _ (by omega) (by omega), e5]; exact d4
  · rw [lo2 (o + 1) (by omega) (by omega) (by omega) (by omega), f1 _ (by omega) (by omega), h2.2.2.2, p3 15 (by omega), po_uu, if_neg (by omega), m1]; exact d5
  · intro j hj
    rw [lo2 (st 1) (by omega) (by omega) (by omega) (by omega), f1 _ (by omega) (by omega), lo2 (st 2) (by omega) (by omega) (by omega) (by omega), f1 _ (by omega) (by omega)]
    exact e1 j hj
end QB9
