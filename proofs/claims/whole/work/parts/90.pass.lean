section QC5
variable {I J : po_I} {R : po_R} {o M n t k b P : Nat} {N N' : po_N} {st : Nat → Nat}
def pup1 (N : po_N) (j : Nat) (v : Int32) : po_N := fun i => if i = j then v else N i
theorem po_urow (I : po_I) (q j : Nat) (v : Int32) : po_u I q j v q = pup1 (I q) j v := by
  funext i
  rw [po_uu]
  unfold pup1
  by_cases e : i = j
  · rw [if_pos ⟨rfl, e⟩, if_pos e]
  · rw [if_neg (by omega), if_neg e]
theorem pup1_ne {j i : Nat} {v : Int32} (h : i ≠ j) : pup1 N j v i = N i := if_neg h
theorem pup1_eq {j : Nat} {v : Int32} : pup1 N j v j = v := if_pos rfl
/-- a permit expires -/
def pps (k : Nat) (w : po_N × Int32) : po_N × Int32 := if w.1 (160 + 46 * k + 19) = 2 ∧ w.1 (160 + 46 * k + 22) < w.1 0 then (pup1 w.1 (160 + 46 * k + 19) 4, w.2 + 1) else w
def ppw (N : po_N) (i : Nat) : po_N × Int32 := pfold pps i (N, 0)
theorem ppw_lo (N : po_N) {j : Nat} (hj : j < 4) : ∀ i, (ppw N i).1 j = N j
  | 0 => rfl
  | i + 1 => by
    have ih := ppw_lo N hj i
    show (pps i (ppw N i)).1 j = N j
    unfold pps
    split
    · exact (pup1_ne (by omega)).trans ih
    · exact ih
theorem pB_exp (hV : pV N) (hB : pB N n) (hk : k < pv N 2) : pB (pup1 N (160 + 46 * k + 19) 4) n := by
  have h3' := hV.2.2.1.2.2
  have h4' := hV.2.2.2.1.2.2
  have e : ∀ j, j ≠ 160 + 46 * k + 19 → pv (pup1 N (160 + 46 * k + 19) 4) j = pv N j := fun j hj => pg_vv (pup1_ne hj)
  have e4 : pv (pup1 N (160 + 46 * k + 19) 4) (160 + 46 * k + 19) = 4 := pvv_of (x := 4) pup1_eq (by omega)
  unfold pB
  rw [e 0 (by omega), e 2 (by omega), e 3 (by omega)]
  refine ⟨hB.1, fun i hi => ?_, fun i hi => ?_, fun i hi => ?_⟩
  · by_cases ei : i = k
    · rw [ei, e4]; intro h; omega
    · rw [e _ (by omega), e _ (by omega)]; exact hB.2.1 i hi
  · rw [e _ (by omega)]; exact hB.2.2.1 i hi
  · by_cases ei : i = k
    · rw [ei, e4]; intro h; omega
    · rw [e _ (by omega), e _ (by omega), e _ (by omega)]; exact hB.2.2.2 i hi
theorem pexp (hV : pV N) (hB : pB N n) (hT : pTR I t N) (hk : k < pv N 2) : pV (pup1 N (160 + 46 * k + 19) 4) ∧ pTR (po_u I (t + (29 + 5 * k)) 6 4) t (pup1 N (160 + 46 * k + 19) 4) := by
  have hP := hT.per hk
  have hp := hV.per hk
  have n19 : (pup1 N (160 + 46 * k + 19) 4) (160 + 46 * k + 19) = Int32.ofNat 4 := pup1_eq
  have nn : ∀ j, j ≠ 160 + 46 * k + 19 → (pup1 N (160 + 46 * k + 19) 4) j = N j := fun j hj => pup1_ne hj
  have key := pper (N := N) (N' := pup1 N (160 + 46 * k + 19) 4) (I := I) (I3 := po_u I (t + (29 + 5 * k)) 6 4) (n := n) hV hB hT hk (fun j hj => nn j (by omega)) (fun q q1 q2 q3 => po_u_ne q3) (fun c hc => by rcases hc with e | e | e | e | e | e | e <;> subst e <;> simp [po_uu]) (by rw [n19]; simp [po_uu] <;> rfl) (by rw [n19]; intro e; exact absurd e (by decide)) (by rw [nn _ (by omega)]; simpa [po_uu] using hP.pha) (by rw [nn _ (by omega)]; simpa [po_uu] using hP.fai) (by rw [n19]; intro e; exact absurd e (by decide)) (by rw [nn _ (by omega)]; simpa [po_uu] using hP.ext) (by rw [nn _ (by omega)]; simpa [po_uu] using hP.nam) (by rw [nn _ (by omega)]; simpa [po_uu] using hP.pai) (by rw [nn _ (by omega)]; simpa [po_uu] using hP.bac) (pvc_of n19 (by omega) (by omega) (by omega)) (pg_cc (nn _ (by omega)) hp.2.2.2.2.2.2.2.1) (pg_cc (nn _ (by omega)) hp.2.2.2.2.2.2.2.2.1) (pg_cc (nn _ (by omega)) hp.2.2.2.2.2.2.2.2.2.1) (pg_cc (nn _ (by omega)) hp.2.2.2.2.2.2.2.2.2.2.1) (fun e => by rw [pvv_of n19 (by omega)] at e; omega) (fun e => by rw [pvv_of n19 (by omega)] at e; omega) (fun e => by rw [pvv_of n19 (by omega)] at e; omega)
  exact ⟨key.1, key.2.2⟩
theorem x_pass43 (hV : pV N) (hB : pB N n) (hT : pTR I (o + 8) N) : ∃ J, m_X7_pass_43L 5000 I R o 0 (Int32.ofNat 0) = some (.inl (ppw N (pv N 2)).2, J, R) ∧ (∀ q, (q < o + 8 ∨ o + 99 ≤ q) → J q = I q) ∧ pV (ppw N (pv N 2)).1 ∧ pB (ppw N (pv N 2)).1 n ∧ pTR J (o + 8) (ppw N (pv N 2)).1 := by
  have h2 := hV.2.2.1
  have h2' := h2.2.2
  refine po_inv (L := fun f (q : po_I × Int32) i => m_X7_pass_43L f q.1 R o q.2 (Int32.ofNat i)) (n := pv N 2) (fun i q => (∀ p, (p < o + 8 ∨ o + 99 ≤ p) → q.1 p = I p) ∧ pV (ppw N i).1 ∧ pB (ppw N i).1 n ∧ pTR q.1 (o + 8) (ppw N i).1 ∧ q.2 = (ppw N i).2) (fun x => ∃ J, x = some (.inl (ppw N (pv N 2)).2, J, R) ∧ (∀ q, (q < o + 8 ∨ o + 99 ≤ q) → J q = I q) ∧ pV (ppw N (pv N 2)).1 ∧ pB (ppw N (pv N 2)).1 n ∧ pTR J (o + 8) (ppw N (pv N 2)).1) ?_ ?_ (pv N 2) 5000 (I, 0) 0 (Nat.zero_add _) (by omega) ⟨fun _ _ => rfl, hV, hB, hT, rfl⟩
  · rintro f ⟨J, c⟩ i hi ⟨g1, g2, g3, g4, g5⟩
    left
    dsimp only at g1 g4 g5
    have r2 : (ppw N i).1 2 = N 2 := ppw_lo N (by omega) i
    have hi2 : i < pv (ppw N i).1 2 := by rw [pg_vv r2]; exact hi
    have hP := g4.per hi2
    have e : m_X7_pass_43L (f + 1) J R o c (Int32.ofNat i) = if (ppw N i).1 (160 + 46 * i + 19) = 2 ∧ (ppw N i).1 (160 + 46 * i + 22) < (ppw N i).1 0 then m_X7_pass_43L f (po_u J (o + 8 + (29 + 5 * i)) 6 4) R o (c + 1) (Int32.ofNat (i + 1)) else m_X7_pass_43L f J R o c (Int32.ofNat (i + 1)) := by
      show m_X7_pass_43 _ _ _ _ _ _ = _
      unfold m_X7_pass_43 m_X7_pass_98 po_hlet
      rw [g4.2.2.1, r2, h2.1, if_neg (mt (pl_le (by omega) (by omega)).mp (by omega)), if_pos (show po_in (Int32.ofNat i) 10 = true from pl_inl (by omega) (by omega)), pl_clamp (by omega), hP.sta, g4.1, show Int32.ofNat i + 1 = Int32.ofNat (i + 1) from pl_add i 1]
      by_cases e1 : (ppw N i).1 (160 + 46 * i + 19) = 2
      · rw [if_pos e1, hP.lim e1]
        by_cases e2 : (ppw N i).1 (160 + 46 * i + 22) < (ppw N i).1 0
        · rw [if_neg (Int32.not_le.mpr e2), if_pos ⟨e1, e2⟩]
        · rw [if_pos (Int32.not_lt.mp e2), if_neg (fun h => e2 h.2)]
      · rw [if_neg e1, if_neg (fun h => e1 h.1)]
    have hs : ppw N (i + 1) = pps i (ppw N i) := rfl
    show ∃ s', _ ∧ m_X7_pass_43L (f + 1) J R o c (Int32.ofNat i) = _
    rw [e]
    by_cases h : (ppw N i).1 (160 + 46 * i + 19) = 2 ∧ (ppw N i).1 (160 + 46 * i + 22) < (ppw N i).1 0
    · obtain ⟨k1, k2⟩ := pexp g2 g3 g4 hi2
      have hs2 : ppw N (i + 1) = (pup1 (ppw N i).1 (160 + 46 * i + 19) 4, (ppw N i).2 + 1) := by rw [hs, pps, if_pos h]
      refine ⟨(po_u J (o + 8 + (29 + 5 * i)) 6 4, c + 1), ?_, if_pos h⟩
      rw [hs2]
      exact ⟨fun p hp => (po_u_ne (by omega)).trans (g1 p hp), k1, pB_exp g2 g3 hi2, k2, congrArg (fun z => z + 1) g5⟩
    · have hs2 : ppw N (i + 1) = ppw N i := by rw [hs, pps, if_neg h]
      refine ⟨(J, c), ?_, if_neg h⟩
      rw [hs2]
      exact ⟨g1, g2, g3, g4, g5⟩
  · rintro f ⟨J, c⟩ ⟨g1, g2, g3, g4, g5⟩
    dsimp only at g1 g4 g5
    refine ⟨J, ?_, g1, g2, g3, g4⟩
    show m_X7_pass_43 (m_X7_pass_43L f) J R o c (Int32.ofNat (pv N 2)) = _
    unfold m_X7_pass_43
    rw [g4.2.2.1, ppw_lo N (by omega), h2.1, if_pos ((pl_le (by omega) (by omega)).mpr (Nat.le_refl _)), g5]
theorem q_pass39 (hV : pV (I (M + 1))) : ∃ J, m_X8_pass_39L 5000 I M 0 (Int32.ofNat 0) = some ((ppw (I (M + 1)) (pv (I (M + 1)) 2)).2, J) ∧ (∀ q, q ≠ M + 1 → J q = I q) ∧ J (M + 1) = (ppw (I (M + 1)) (pv (I (M + 1)) 2)).1 := by
  have h2 := hV.2.2.1
  have h2' := h2.2.2
  refine po_inv (L := fun f (q : po_I × Int32) i => m_X8_pass_39L f q.1 M q.2 (Int32.ofNat i)) (n := pv (I (M + 1)) 2) (fun i q => (∀ p, p ≠ M + 1 → q.1 p = I p) ∧ q.1 (M + 1) = (ppw (I (M + 1)) i).1 ∧ q.2 = (ppw (I (M + 1)) i).2) (fun x => ∃ J, x = some ((ppw (I (M + 1)) (pv (I (M + 1)) 2)).2, J) ∧ (∀ q, q ≠ M + 1 → J q = I q) ∧ J (M + 1) = (ppw (I (M + 1)) (pv (I (M + 1)) 2)).1) ?_ ?_ (pv (I (M + 1)) 2) 5000 (I, 0) 0 (Nat.zero_add _) (by omega) ⟨fun _ _ => rfl, rfl, rfl⟩
  · rintro f ⟨J, c⟩ i hi ⟨g1, g2, g3⟩
    left
    dsimp only at g1 g2 g3
    have r2 : (ppw (I (M + 1)) i).1 2 = I (M + 1) 2 := ppw_lo _ (by omega) i
    have e : m_X8_pass_39L (f + 1) J M c (Int32.ofNat i) = if (ppw (I (M + 1)) i).1 (160 + 46 * i + 19) = 2 ∧ (ppw (I (M + 1)) i).1 (160 + 46 * i + 22) < (ppw (I (M + 1)) i).1 0 then m_X8_pass_39L f (po_u J (M + 1) (160 + 46 * i + 19) 4) M (c + 1) (Int32.ofNat (i + 1)) else m_X8_pass_39L f J M c (Int32.ofNat (i + 1)) := by
      show m_X8_pass_39 _ _ _ _ _ = _
      unfold m_X8_pass_39 m_X8_pass_87
      rw [g2, r2, h2.1, if_neg (mt (pl_le (by omega) (by omega)).mp (by omega)), pk_19, q_at (by omega), Option.bind_some, pk_22, q_at (by omega), Option.bind_some, q_set (by omega), Option.bind_some, g2, show Int32.ofNat i + 1 = Int32.ofNat (i + 1) from pl_add i 1]
      by_cases e1 : (ppw (I (M + 1)) i).1 (160 + 46 * i + 19) = 2
      · rw [if_pos e1]
        by_cases e2 : (ppw (I (M + 1)) i).1 (160 + 46 * i + 22) < (ppw (I (M + 1)) i).1 0
        · rw [if_neg (Int32.not_le.mpr e2), if_pos ⟨e1, e2⟩]
        · rw [if_pos (Int32.not_lt.mp e2), if_neg (fun h => e2 h.2)]
      · rw [if_neg e1, if_neg (fun h => e1 h.1)]
    have hs : ppw (I (M + 1)) (i + 1) = pps i (ppw (I (M + 1)) i) := rfl
    show ∃ s', _ ∧ m_X8_pass_39L (f + 1) J M c (Int32.ofNat i) = _
    rw [e]
    by_cases h : (ppw (I (M + 1)) i).1 (160 + 46 * i + 19) = 2 ∧ (ppw (I (M + 1)) i).1 (160 + 46 * i + 22) < (ppw (I (M + 1)) i).1 0
    · have hs2 : ppw (I (M + 1)) (i + 1) = (pup1 (ppw (I (M + 1)) i).1 (160 + 46 * i + 19) 4, (ppw (I (M + 1)) i).2 + 1) := by rw [hs, pps, if_pos h]
      refine ⟨(po_u J (M + 1) (160 + 46 * i + 19) 4, c + 1), ?_, if_pos h⟩
      rw [hs2]
      exact ⟨fun p hp => (po_u_ne hp).trans (g1 p hp), (po_urow J (M + 1) (160 + 46 * i + 19) 4).trans (by rw [g2]), congrArg (fun z => z + 1) g3⟩
    · have hs2 : ppw (I (M + 1)) (i + 1) = ppw (I (M + 1)) i := by rw [hs, pps, if_neg h]
      refine ⟨(J, c), ?_, if_neg h⟩
      rw [hs2]
      exact ⟨g1, g2, g3⟩
  · rintro f ⟨J, c⟩ ⟨g1, g2, g3⟩
    dsimp only at g1 g2 g3
    refine ⟨J, ?_, g1, g2⟩
    show m_X8_pass_39 (m_X8_pass_39L f) J M c (Int32.ofNat (pv (I (M + 1)) 2)) = _
    unfold m_X8_pass_39
    rw [g2, ppw_lo _ (by omega), h2.1, if_pos ((pl_le (by omega) (by omega)).mpr (Nat.le_refl _)), g3]
/-- the day goes on -/
theorem pday {d : Nat} (hd : d ≤ 50) (hn : n < 600) (hV : pV N) (hB : pB N n) (hT : pTR I t N) : pV (pup1 N 0 (N 0 + Int32.ofNat d)) ∧ pB (pup1 N 0 (N 0 + Int32.ofNat d)) (n + 1) ∧ pTR (po_u I t 0 (I t 0 + Int32.ofNat d)) t (pup1 N 0 (N 0 + Int32.ofNat d)) := by
  have hd0 := hB.1
  have n0 : (pup1 N 0 (N 0 + Int32.ofNat d)) 0 = Int32.ofNat (pv N 0 + d) := by rw [pup1_eq, ← pl_add, ← hV.1.1]
  have nn : ∀ j, j ≠ 0 → (pup1 N 0 (N 0 + Int32.ofNat d)) j = N j := fun j hj => pup1_ne hj
  have h2' := hV.2.1.2.2
  have h3' := hV.2.2.1.2.2
  have h4' := hV.2.2.2.1.2.2
  obtain ⟨h1, h2, h3, h4, h5, h6, h7, h8⟩ := hV
  refine ⟨⟨pvc_of n0 (by omega) (by omega) (by omega), pg_cc (nn 1 (by omega)) h2, pg_cc (nn 2 (by omega)) h3, pg_cc (nn 3 (by omega)) h4, fun z hz => ?_, ?_, ?_, ?_⟩, ?_, ?_⟩
  · obtain ⟨g1, g2, g3, g4, g5, g6, g7⟩ := h5 z hz
    exact ⟨pg_cc (nn _ (by omega)) g1, pg_cc (nn _ (by omega)) g2, pg_cc (nn _ (by omega)) g3, pg_cc (nn _ (by omega)) g4, pg_cc (nn _ (by omega)) g5, pg_cc (nn _ (by omega)) g6, pg_cc (nn _ (by omega)) g7⟩
  · rw [pg_vv (nn 1 (by omega))]
    intro i hi
    obtain ⟨g1, g2, g3⟩ := h6 i hi
    exact ⟨pg_cc (nn _ (by omega)) g1, pg_cc (nn _ (by omega)) g2, pg_av (fun j hj => nn _ (by omega)) g3⟩
  · rw [pg_vv (nn 2 (by omega))]
    exact fun i hi => pg_pP (fun j hj => nn _ (by omega)) (by rw [pg_vv (nn 1 (by omega))]; exact Nat.le_refl _) (h7 i hi)
  · rw [pg_vv (nn 3 (by omega))]
    intro i hi
    obtain ⟨g1, g2, g3, g4⟩ := h8 i hi
    exact ⟨pg_cc (nn _ (by omega)) g1, pg_cc (nn _ (by omega)) g2, pg_cc (nn _ (by omega)) g3, pg_cc (nn _ (by omega)) g4⟩
  · have hU := hB.up
    unfold pB at *
    rw [pvv_of n0 (by omega), pg_vv (nn 2 (by omega)), pg_vv (nn 3 (by omega))]
    refine ⟨by omega, fun i hi => ?_, fun i hi => ?_, fun i hi => ?_⟩
    · rw [pg_vv (nn _ (by omega)), pg_vv (nn _ (by omega))]; exact hU.2.1 i hi
    · rw [pg_vv (nn _ (by omega))]; exact hU.2.2.1 i hi
    · rw [pg_vv (nn _ (by omega)), pg_vv (nn _ (by omega)), pg_vv (nn _ (by omega))]; exact hU.2.2.2 i hi
  · obtain ⟨g1, g2, g3, g4, g5, g6, g7, g8⟩ := hT
    refine ⟨by rw [po_uaa, pup1_eq, g1], by rw [nn 1 (by omega)]; simpa [po_uu] using g2, by rw [nn 2 (by omega)]; simpa [po_uu] using g3, by rw [nn 3 (by omega)]; simpa [po_uu] using g4, fun j hj => by rw [po_u_ne (by omega), nn _ (by omega)]; exact g5 j hj, ?_, ?_, ?_⟩
    · rw [pg_vv (nn 1 (by omega))]
      exact fun i hi => pg_TL (fun j hj => nn _ (by omega)) ((g6 i hi).mv (fun q q1 q2 => po_u_ne (by omega)))
    · rw [pg_vv (nn 2 (by omega))]
      exact fun i hi => pg_TP (fun j hj => nn _ (by omega)) (h7 i hi).2.2.2.2.2.2.2.2.2.2.2.1.2.2 ((g7 i hi).mv (fun q q1 q2 => po_u_ne (by omega)))
    · rw [pg_vv (nn 3 (by omega))]
      exact fun i hi j hj => by rw [po_u_ne (by omega), nn _ (by omega)]; exact g8 i hi j hj
theorem L_pass (h : pInv I R o M st n) (hn : n < 600) (a : Int32) : ∃ w I1 R1 v I2, m_X7_pass I R o a = some (w, I1, R1) ∧ m_X8_pass I1 M a = some (v, I2) ∧ pAg sIA "" w (I2 M 0) v ∧ pInv I2 R1 o M st (n + 1) := by
  have hV := h.1.1
  have hB := h.1.2.1
  have hT := h.1.2.2
  have hM := h.2.2.2.2.2.1
  have y : ∀ K : po_I, m_X8_pass K M a = if decide (1 ≤ a ∧ a ≤ 50) = true then (Option.bind (m_X8_call (po_u K M 0 0) M) fun x6 => po_hlet (po_u x6 (M + 1) 0 ((x6 (M + 1) 0) + a)) fun I7 => m_X8_pass_39L 5000 I7 M 0 0) else some (0, po_u (po_u K M 0 0) M 0 1) := by
    intro K
    unfold m_X8_pass m_X8_pass_e
    rw [po_hletE, q_isIn, Option.bind_some]
    cases decide (1 ≤ a ∧ a ≤ 50) <;> rfl
  unfold m_X7_pass m_X7_pass_e m_X7_pass_11
  by_cases ha : 1 ≤ a ∧ a ≤ 50
  · obtain ⟨d, hd, rfl⟩ := pl_of (Int32.le_trans (show (0 : Int32) ≤ 1 by decide) ha.1)
    have hd50 : d ≤ 50 := (pl_le (b := 50) hd (by omega)).mp ha.2
    obtain ⟨I', R', m1, m2, m3, m4⟩ := L_mut h
    have hT1 : pTR I' (o + 8) (I (M + 1)) := hT.mv hV (fun q q1 q2 => m2 q (by omega) (by omega))
    obtain ⟨d1, d2, d3⟩ := pday hd50 hn hV hB hT1
    rw [if_neg (Int32.not_lt.mpr ha.1), if_pos ha.2, m1, Option.bind_some, po_hletE]
    obtain ⟨J, c1, c2, c3, c4, c5⟩ := x_pass43 (R := R') d1 d2 d3
    have hpv2 : pv (pup1 (I (M + 1)) 0 (I (M + 1) 0 + Int32.ofNat d)) 2 = pv (I (M + 1)) 2 := pg_vv (pup1_ne (by omega))
    have i80 : I' (o + 8) 0 = I (M + 1) 0 := hT1.1
    have fJ : ∀ q, (q < o + 8 ∨ o + 99 ≤ q) → J q = I' q := fun q hq => by rw [c2 q hq, po_u_ne (by omega)]
    have rJ : J (M + 1) = I (M + 1) := by rw [fJ _ (by omega)]; exact m2 _ (by omega) (by omega)
    obtain ⟨I2, p1, p2, p3, p4, p5⟩ := m4 J (fun q q1 q2 q3 => fJ q q1)
    have r7 : (po_u I2 (M + 1) 0 (I2 (M + 1) 0 + Int32.ofNat d)) (M + 1) = pup1 (I (M + 1)) 0 (I (M + 1) 0 + Int32.ofNat d) := by rw [po_urow, p2]
    obtain ⟨K, k1, k2, k3⟩ := q_pass39 (I := po_u I2 (M + 1) 0 (I2 (M + 1) 0 + Int32.ofNat d)) (M := M) (by rw [r7]; exact d1)
    rw [r7] at k1 k3
    have ym : m_X8_pass J M (Int32.ofNat d) = some ((ppw (pup1 (I (M + 1)) 0 (I (M + 1) 0 + Int32.ofNat d)) (pv (pup1 (I (M + 1)) 0 (I (M + 1) 0 + Int32.ofNat d)) 2)).2, K) := by
      rw [y J, if_pos (decide_eq_true ha), p1, Option.bind_some, po_hletE]
      exact k1
    have fK : ∀ q, q ≠ M + 1 → K q = I2 q := fun q hq => by rw [k2 q hq, po_u_ne hq]
    refine ⟨_, J, R', _, K, c1, ym, ⟨by rw [fK M (by omega)]; exact p3, rfl⟩, p5 K (fun q q1 q2 => fK q q2) ⟨by rw [fK M (by omega)], by rw [fK M (by omega)], by rw [fK M (by omega)], by rw [fK M (by omega)]⟩ ⟨by rw [k3]; exact c3, by rw [k3]; exact c4, by rw [k3]; exact c5.mv c3 (fun q q1 q2 => by rw [fK q (by omega)]; exact p4 q (by omega))⟩⟩
  · have hx : (if a < 1 then some (Sum.inr "java/lang/IllegalArgumentException", I, R) else if a ≤ 50 then Option.bind (m_X7_remember I R o) fun x3 => po_hlet (po_u x3.fst (o + 8) 0 (x3.fst (o + 8) 0 + a)) fun I4 => m_X7_pass_43L 5000 I4 x3.snd o 0 0 else some (Sum.inr "java/lang/IllegalArgumentException", I, R)) = some ((Sum.inr "java/lang/IllegalArgumentException" : Int32 ⊕ String), I, R) := by
      by_cases h1 : a < 1
      · rw [if_pos h1]
      · rw [if_neg h1, if_neg (fun h2 => ha ⟨Int32.not_lt.mp h1, h2⟩)]
    rw [hx]
    have ym := y I
    rw [if_neg (fun h2 => ha (of_decide_eq_true h2))] at ym
    exact ⟨_, I, R, _, _, rfl, ym, Or.inl ⟨rfl, po_uaa _ _ _ _⟩, (((pScr_u (k := 0)).tr pScr_u).inv h).up⟩
end QC5
