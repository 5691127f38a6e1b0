/-! THE READER: the rows that a command leaves -/
section QD3
variable {I J : po_I} {r p t k b n : Nat} {w : pW} {N N' : po_N}
def pQn (q : pQ) (i : Nat) : Nat := if i = 0 then q.1 else if i = 1 then q.2.1 else if i = 2 then q.2.2.1 else q.2.2.2
def pAn (a : pA) (j : Nat) : Nat := if j < 4 then pQn a.2.1 j else if j < 8 then (if 2 ≤ a.1 then pQn a.2.2.1 (j - 4) else 0) else (if 3 ≤ a.1 then pQn a.2.2.2 (j - 8) else 0)
/-- the row has the area a at b -/
def pAt (N' : po_N) (b : Nat) (a : pA) : Prop := N' (b + 2) = Int32.ofNat a.1 ∧ ∀ j, j < 12 → N' (b + 3 + j) = Int32.ofNat (pAn a j)
theorem pAt_r {a : pA} (h : pAt N' b a) {q : pQ} {i : Nat} (hi : i < 3) (hq : ∀ j, j < 4 → pAn a (4 * i + j) = pQn q j) : N' (b + 3 + 4 * i) = Int32.ofNat q.1 ∧ N' (b + 3 + 4 * i + 1) = Int32.ofNat q.2.1 ∧ N' (b + 3 + 4 * i + 2) = Int32.ofNat q.2.2.1 ∧ N' (b + 3 + 4 * i + 3) = Int32.ofNat q.2.2.2 := by
  have e := fun j (hj : j < 4) => (h.2 (4 * i + j) (by omega)).trans (congrArg Int32.ofNat (hq j hj))
  exact ⟨e 0 (by omega), e 1 (by omega), e 2 (by omega), e 3 (by omega)⟩
theorem pAt_v {a : pA} (h : pAt N' b a) (hv : pAv a) : pa_v N' b ∧ pa_in N' b = pAs a := by
  obtain ⟨v1, v2, v3, v4, v5⟩ := hv
  have hm : pv N' (b + 2) = a.1 := pvv_of h.1 (by omega)
  have e0 := pAt_r h (q := a.2.1) (i := 0) (by omega) (fun j hj => by unfold pAn; rw [if_pos (by omega)]; exact congrArg _ (by omega))
  have e1 := fun (h2 : 2 ≤ a.1) => pAt_r h (q := a.2.2.1) (i := 1) (by omega) (fun j hj => by unfold pAn; rw [if_neg (by omega), if_pos (by omega), if_pos h2]; exact congrArg _ (by omega))
  have e2 := fun (h3 : 3 ≤ a.1) => pAt_r h (q := a.2.2.2) (i := 2) (by omega) (fun j hj => by unfold pAn; rw [if_neg (by omega), if_neg (by omega), if_pos h3]; exact congrArg _ (by omega))
  have rv : ∀ (q : pQ) i, pQv q → (N' (b + 3 + 4 * i) = Int32.ofNat q.1 ∧ N' (b + 3 + 4 * i + 1) = Int32.ofNat q.2.1 ∧ N' (b + 3 + 4 * i + 2) = Int32.ofNat q.2.2.1 ∧ N' (b + 3 + 4 * i + 3) = Int32.ofNat q.2.2.2) → pa_rv N' b i := by
    rintro q i ⟨q1, q2, q3, q4, q5, q6, q7, q8⟩ ⟨c1, c2, c3, c4⟩
    refine ⟨pvc_of c1 (by omega) (by omega) (by omega), pvc_of c2 (by omega) (by omega) (by omega), pvc_of c3 (by omega) (by omega) (by omega), pvc_of c4 (by omega) (by omega) (by omega), ?_, ?_⟩
    · rw [pvv_of c1 (by omega), pvv_of c3 (by omega)]; exact q7
    · rw [pvv_of c2 (by omega), pvv_of c4 (by omega)]; exact q8
  have rr : ∀ (q : pQ) i c r, (N' (b + 3 + 4 * i) = Int32.ofNat q.1 ∧ N' (b + 3 + 4 * i + 1) = Int32.ofNat q.2.1 ∧ N' (b + 3 + 4 * i + 2) = Int32.ofNat q.2.2.1 ∧ N' (b + 3 + 4 * i + 3) = Int32.ofNat q.2.2.2) → pa_r N' b i c r = pQr q c r := by
    rintro q i c r ⟨c1, c2, c3, c4⟩
    unfold pa_r pQr prect
    rw [c1, c2, c3, c4]
  refine ⟨⟨pvc_of h.1 (by omega) v1 v2, rv _ 0 v3 e0, ?_, ?_⟩, ?_⟩
  · rw [hm]; exact fun h2 => rv _ 1 (v4 h2) (e1 h2)
  · rw [hm]; exact fun h3 => rv _ 2 (v5 h3) (e2 h3)
  · funext c r
    unfold pa_in pAs
    rw [hm, rr _ 0 c r e0]
    by_cases h2 : 2 ≤ a.1
    · rw [rr _ 1 c r (e1 h2)]
      by_cases h3 : 3 ≤ a.1
      · rw [rr _ 2 c r (e2 h3)]
      · rw [decide_eq_false h3, Bool.false_and, Bool.false_and]
    · rw [decide_eq_false h2, decide_eq_false (p := 3 ≤ a.1) (by omega), Bool.false_and, Bool.false_and, Bool.false_and, Bool.false_and]
/-! one more lot -/
theorem pV_lot (hV : pV N) (hk : pv N 1 = k) (hk8 : k < 8) (n1 : N' 1 = Int32.ofNat (k + 1)) (hN : ∀ j, j ≠ 1 → (j < 32 + 16 * k ∨ 32 + 16 * k + 16 ≤ j) → N' j = N j) (hp : pv_c N' (32 + 16 * k) 0 3 ∧ pv_c N' (32 + 16 * k + 1) 0 3 ∧ pa_v N' (32 + 16 * k)) : pV N' := by
  obtain ⟨h1, h2, h3, h4, h5, h6, h7, h8⟩ := hV
  have h3' := h3.2.2
  have h4' := h4.2.2
  have m1 : pv N' 1 = k + 1 := pvv_of n1 (by omega)
  refine ⟨pg_cc (hN 0 (by omega) (by omega)) h1, pvc_of n1 (by omega) (by omega) (by omega), pg_cc (hN 2 (by omega) (by omega)) h3, pg_cc (hN 3 (by omega) (by omega)) h4, fun z hz => ?_, ?_, ?_, ?_⟩
  · obtain ⟨g1, g2, g3, g4, g5, g6, g7⟩ := h5 z hz
    exact ⟨pg_cc (hN _ (by omega) (by omega)) g1, pg_cc (hN _ (by omega) (by omega)) g2, pg_cc (hN _ (by omega) (by omega)) g3, pg_cc (hN _ (by omega) (by omega)) g4, pg_cc (hN _ (by omega) (by omega)) g5, pg_cc (hN _ (by omega) (by omega)) g6, pg_cc (hN _ (by omega) (by omega)) g7⟩
  · rw [m1]
    intro i hi
    by_cases e : i = k
    · rw [e]; exact hp
    · obtain ⟨g1, g2, g3⟩ := h6 i (by omega)
      exact ⟨pg_cc (hN _ (by omega) (by omega)) g1, pg_cc (hN _ (by omega) (by omega)) g2, pg_av (fun j hj => hN _ (by omega) (by omega)) g3⟩
  · rw [pg_vv (hN 2 (by omega) (by omega))]
    exact fun i hi => pg_pP (fun j hj => hN _ (by omega) (by omega)) (by omega) (h7 i hi)
  · rw [pg_vv (hN 3 (by omega) (by omega))]
    intro i hi
    obtain ⟨g1, g2, g3, g4⟩ := h8 i hi
    exact ⟨pg_cc (hN _ (by omega) (by omega)) g1, pg_cc (hN _ (by omega) (by omega)) g2, pg_cc (hN _ (by omega) (by omega)) g3, pg_cc (hN _ (by omega) (by omega)) g4⟩
theorem pB_lot (hV : pV N) (hB : pB N n) (hk8 : k < 8) (hN : ∀ j, j ≠ 1 → (j < 32 + 16 * k ∨ 32 + 16 * k + 16 ≤ j) → N' j = N j) : pB N' n := by
  have h3' := hV.2.2.1.2.2
  have h4' := hV.2.2.2.1.2.2
  unfold pB at *
  rw [pg_vv (hN 0 (by omega) (by omega)), pg_vv (hN 2 (by omega) (by omega)), pg_vv (hN 3 (by omega) (by omega))]
  refine ⟨hB.1, fun i hi => ?_, fun i hi => ?_, fun i hi => ?_⟩
  · rw [pg_vv (hN _ (by omega) (by omega)), pg_vv (hN _ (by omega) (by omega))]; exact hB.2.1 i hi
  · rw [pg_vv (hN _ (by omega) (by omega))]; exact hB.2.2.1 i hi
  · rw [pg_vv (hN _ (by omega) (by omega)), pg_vv (hN _ (by omega) (by omega)), pg_vv (hN _ (by omega) (by omega))]; exact hB.2.2.2 i hi
theorem pTR_lot (hV : pV N) (hT : pTR I t N) (hk : pv N 1 = k) (hk8 : k < 8) (n1 : N' 1 = Int32.ofNat (k + 1)) (hN : ∀ j, j ≠ 1 → (j < 32 + 16 * k ∨ 32 + 16 * k + 16 ≤ j) → N' j = N j) (hq : ∀ q, t < q → q < t + 91 → (q < t + (5 + 3 * k) ∨ t + (5 + 3 * k) + 3 ≤ q) → J q = I q) (h0 : J t 0 = I t 0 ∧ J t 3 = Int32.ofNat (k + 1) ∧ J t 5 = I t 5 ∧ J t 7 = I t 7) (hL : pTL J (t + (5 + 3 * k)) N' (32 + 16 * k)) : pTR J t N' := by
  obtain ⟨g1, g2, g3, g4, g5, g6, g7, g8⟩ := hT
  have h3' := hV.2.2.1.2.2
  have h4' := hV.2.2.2.1.2.2
  have h7 := hV.2.2.2.2.2.2.1
  have m1 : pv N' 1 = k + 1 := pvv_of n1 (by omega)
  refine ⟨by rw [h0.1, hN 0 (by omega) (by omega)]; exact g1, by rw [h0.2.1, n1], by rw [h0.2.2.1, hN 2 (by omega) (by omega)]; exact g3, by rw [h0.2.2.2, hN 3 (by omega) (by omega)]; exact g4, fun j hj => by rw [hq _ (by omega) (by omega) (by omega), hN _ (by omega) (by omega)]; exact g5 j hj, ?_, ?_, ?_⟩
  · rw [m1]
    intro i hi
    by_cases e : i = k
    · rw [e]; exact hL
    · exact pg_TL (fun j hj => hN _ (by omega) (by omega)) ((g6 i (by omega)).mv (fun q q1 q2 => hq q (by omega) (by omega) (by omega)))
  · rw [pg_vv (hN 2 (by omega) (by omega))]
    exact fun i hi => pg_TP (fun j hj => hN _ (by omega) (by omega)) (h7 i hi).2.2.2.2.2.2.2.2.2.2.2.1.2.2 ((g7 i hi).mv (fun q q1 q2 => hq q (by omega) (by omega) (by omega)))
  · rw [pg_vv (hN 3 (by omega) (by omega))]
    exact fun i hi j hj => by rw [hq _ (by omega) (by omega) (by omega), hN _ (by omega) (by omega)]; exact g8 i hi j hj
/-! one more permit -/
theorem pV_prm (hV : pV N) (hk : pv N 2 = k) (hk8 : k < 10) (n1 : N' 2 = Int32.ofNat (k + 1)) (hN : ∀ j, j ≠ 2 → (j < 160 + 46 * k ∨ 160 + 46 * k + 46 ≤ j) → N' j = N j) (hp : pP N' (160 + 46 * k)) : pV N' := by
  obtain ⟨h1, h2, h3, h4, h5, h6, h7, h8⟩ := hV
  have h2' := h2.2.2
  have h4' := h4.2.2
  have m1 : pv N' 2 = k + 1 := pvv_of n1 (by omega)
  refine ⟨pg_cc (hN 0 (by omega) (by omega)) h1, pg_cc (hN 1 (by omega) (by omega)) h2, pvc_of n1 (by omega) (by omega) (by omega), pg_cc (hN 3 (by omega) (by omega)) h4, fun z hz => ?_, ?_, ?_, ?_⟩
  · obtain ⟨g1, g2, g3, g4, g5, g6, g7⟩ := h5 z hz
    exact ⟨pg_cc (hN _ (by omega) (by omega)) g1, pg_cc (hN _ (by omega) (by omega)) g2, pg_cc (hN _ (by omega) (by omega)) g3, pg_cc (hN _ (by omega) (by omega)) g4, pg_cc (hN _ (by omega) (by omega)) g5, pg_cc (hN _ (by omega) (by omega)) g6, pg_cc (hN _ (by omega) (by omega)) g7⟩
  · rw [pg_vv (hN 1 (by omega) (by omega))]
    intro i hi
    obtain ⟨g1, g2, g3⟩ := h6 i (by omega)
    exact ⟨pg_cc (hN _ (by omega) (by omega)) g1, pg_cc (hN _ (by omega) (by omega)) g2, pg_av (fun j hj => hN _ (by omega) (by omega)) g3⟩
  · rw [m1]
    intro i hi
    by_cases e : i = k
    · rw [e]; exact hp
    · exact pg_pP (fun j hj => hN _ (by omega) (by omega)) (by rw [pg_vv (hN 1 (by omega) (by omega))]; exact Nat.le_refl _) (h7 i (by omega))
  · rw [pg_vv (hN 3 (by omega) (by omega))]
    intro i hi
    obtain ⟨g1, g2, g3, g4⟩ := h8 i hi
    exact ⟨pg_cc (hN _ (by omega) (by omega)) g1, pg_cc (hN _ (by omega) (by omega)) g2, pg_cc (hN _ (by omega) (by omega)) g3, pg_cc (hN _ (by omega) (by omega)) g4⟩
theorem pB_prm (hV : pV N) (hB : pB N n) (hk : pv N 2 = k) (hk8 : k < 10) (n1 : N' 2 = Int32.ofNat (k + 1)) (hN : ∀ j, j ≠ 2 → (j < 160 + 46 * k ∨ 160 + 46 * k + 46 ≤ j) → N' j = N j) (hp : pv N' (160 + 46 * k + 19) = 0 ∧ pv N' (160 + 46 * k + 20) = 0 ∧ pv N' (160 + 46 * k + 21) = 0) : pB N' n := by
  have h4' := hV.2.2.2.1.2.2
  have m1 : pv N' 2 = k + 1 := pvv_of n1 (by omega)
  unfold pB at *
  rw [pg_vv (hN 0 (by omega) (by omega)), m1, pg_vv (hN 3 (by omega) (by omega))]
  refine ⟨hB.1, fun i hi => ?_, fun i hi => ?_, fun i hi => ?_⟩
  · by_cases e : i = k
    · rw [e, hp.1]; intro h; omega
    · rw [pg_vv (hN _ (by omega) (by omega)), pg_vv (hN _ (by omega) (by omega))]; exact hB.2.1 i (by omega)
  · rw [pg_vv (hN _ (by omega) (by omega))]; exact hB.2.2.1 i hi
  · by_cases e : i = k
    · rw [e]; exact fun _ => hp.2
    · rw [pg_vv (hN _ (by omega) (by omega)), pg_vv (hN _ (by omega) (by omega)), pg_vv (hN _ (by omega) (by omega))]; exact hB.2.2.2 i (by omega)
theorem pTR_prm (hV : pV N) (hT : pTR I t N) (hk : pv N 2 = k) (hk8 : k < 10) (n1 : N' 2 = Int32.ofNat (k + 1)) (hN : ∀ j, j ≠ 2 → (j < 160 + 46 * k ∨ 160 + 46 * k + 46 ≤ j) → N' j = N j) (hq : ∀ q, t < q → q < t + 91 → (q < t + (29 + 5 * k) ∨ t + (29 + 5 * k) + 5 ≤ q) → J q = I q) (h0 : J t 0 = I t 0 ∧ J t 3 = I t 3 ∧ J t 5 = Int32.ofNat (k + 1) ∧ J t 7 = I t 7) (hP : pTP J (t + (29 + 5 * k)) N' (160 + 46 * k)) : pTR J t N' := by
  obtain ⟨g1, g2, g3, g4, g5, g6, g7, g8⟩ := hT
  have h2' := hV.2.1.2.2
  have h4' := hV.2.2.2.1.2.2
  have h7 := hV.2.2.2.2.2.2.1
  have m1 : pv N' 2 = k + 1 := pvv_of n1 (by omega)
  refine ⟨by rw [h0.1, hN 0 (by omega) (by omega)]; exact g1, by rw [h0.2.1, hN 1 (by omega) (by omega)]; exact g2, by rw [h0.2.2.1, n1], by rw [h0.2.2.2, hN 3 (by omega) (by omega)]; exact g4, fun j hj => by rw [hq _ (by omega) (by omega) (by omega), hN _ (by omega) (by omega)]; exact g5 j hj, ?_, ?_, ?_⟩
  · rw [pg_vv (hN 1 (by omega) (by omega))]
    intro i hi
    exact pg_TL (fun j hj => hN _ (by omega) (by omega)) ((g6 i (by omega)).mv (fun q q1 q2 => hq q (by omega) (by omega) (by omega)))
  · rw [m1]
    intro i hi
    by_cases e : i = k
    · rw [e]; exact hP
    · exact pg_TP (fun j hj => hN _ (by omega) (by omega)) (h7 i (by omega)).2.2.2.2.2.2.2.2.2.2.2.1.2.2 ((g7 i (by omega)).mv (fun q q1 q2 => hq q (by omega) (by omega) (by omega)))
  · rw [pg_vv (hN 3 (by omega) (by omega))]
    exact fun i hi j hj => by rw [hq _ (by omega) (by omega) (by omega), hN _ (by omega) (by omega)]; exact g8 i hi j hj
/-! one more variance -/
theorem pV_var (hV : pV N) (hk : pv N 3 = k) (hk8 : k < 12) (n1 : N' 3 = Int32.ofNat (k + 1)) (hN : ∀ j, j ≠ 3 → (j < 620 + 4 * k ∨ 620 + 4 * k + 4 ≤ j) → N' j = N j) (hp : pv_c N' (620 + 4 * k) 0 7 ∧ pv_c N' (620 + 4 * k + 1) 2 8 ∧ pv_c N' (620 + 4 * k + 2) 1 99 ∧ pv_c N' (620 + 4 * k + 3) 0 200000) : pV N' := by
  obtain ⟨h1, h2, h3, h4, h5, h6, h7, h8⟩ := hV
  have h2' := h2.2.2
  have h3' := h3.2.2
  have m1 : pv N' 3 = k + 1 := pvv_of n1 (by omega)
  refine ⟨pg_cc (hN 0 (by omega) (by omega)) h1, pg_cc (hN 1 (by omega) (by omega)) h2, pg_cc (hN 2 (by omega) (by omega)) h3, pvc_of n1 (by omega) (by omega) (by omega), fun z hz => ?_, ?_, ?_, ?_⟩
  · obtain ⟨g1, g2, g3, g4, g5, g6, g7⟩ := h5 z hz
    exact ⟨pg_cc (hN _ (by omega) (by omega)) g1, pg_cc (hN _ (by omega) (by omega)) g2, pg_cc (hN _ (by omega) (by omega)) g3, pg_cc (hN _ (by omega) (by omega)) g4, pg_cc (hN _ (by omega) (by omega)) g5, pg_cc (hN _ (by omega) (by omega)) g6, pg_cc (hN _ (by omega) (by omega)) g7⟩
  · rw [pg_vv (hN 1 (by omega) (by omega))]
    intro i hi
    obtain ⟨g1, g2, g3⟩ := h6 i (by omega)
    exact ⟨pg_cc (hN _ (by omega) (by omega)) g1, pg_cc (hN _ (by omega) (by omega)) g2, pg_av (fun j hj => hN _ (by omega) (by omega)) g3⟩
  · rw [pg_vv (hN 2 (by omega) (by omega))]
    intro i hi
    exact pg_pP (fun j hj => hN _ (by omega) (by omega)) (by rw [pg_vv (hN 1 (by omega) (by omega))]; exact Nat.le_refl _) (h7 i (by omega))
  · rw [m1]
    intro i hi
    by_cases e : i = k
    · rw [e]; exact hp
    · obtain ⟨g1, g2, g3, g4⟩ := h8 i (by omega)
      exact ⟨pg_cc (hN _ (by omega) (by omega)) g1, pg_cc (hN _ (by omega) (by omega)) g2, pg_cc (hN _ (by omega) (by omega)) g3, pg_cc (hN _ (by omega) (by omega)) g4⟩
theorem pB_var (hV : pV N) (hB : pB N n) (hk : pv N 3 = k) (hk8 : k < 12) (n1 : N' 3 = Int32.ofNat (k + 1)) (hN : ∀ j, j ≠ 3 → (j < 620 + 4 * k ∨ 620 + 4 * k + 4 ≤ j) → N' j = N j) (hp : pv N' (620 + 4 * k + 3) ≤ 100 * n + 200) : pB N' n := by
  have h3' := hV.2.2.1.2.2
  have m1 : pv N' 3 = k + 1 := pvv_of n1 (by omega)
  unfold pB at *
  rw [pg_vv (hN 0 (by omega) (by omega)), pg_vv (hN 2 (by omega) (by omega)), m1]
  refine ⟨hB.1, fun i hi => ?_, fun i hi => ?_, fun i hi => ?_⟩
  · rw [pg_vv (hN _ (by omega) (by omega)), pg_vv (hN _ (by omega) (by omega))]; exact hB.2.1 i (by omega)
  · by_cases e : i = k
    · rw [e]; exact hp
    · rw [pg_vv (hN _ (by omega) (by omega))]; exact hB.2.2.1 i (by omega)
  · rw [pg_vv (hN _ (by omega) (by omega)), pg_vv (hN _ (by omega) (by omega)), pg_vv (hN _ (by omega) (by omega))]; exact hB.2.2.2 i (by omega)
theorem pTR_var (hV : pV N) (hT : pTR I t N) (hk : pv N 3 = k) (hk8 : k < 12) (n1 : N' 3 = Int32.ofNat (k + 1)) (hN : ∀ j, j ≠ 3 → (j < 620 + 4 * k ∨ 620 + 4 * k + 4 ≤ j) → N' j = N j) (hq : ∀ q, t < q → q < t + 91 → q ≠ t + (79 + k) → J q = I q) (h0 : J t 0 = I t 0 ∧ J t 3 = I t 3 ∧ J t 5 = I t 5 ∧ J t 7 = Int32.ofNat (k + 1)) (hP : ∀ j, j < 4 → J (t + (79 + k)) j = N' (620 + 4 * k + j)) : pTR J t N' := by
  obtain ⟨g1, g2, g3, g4, g5, g6, g7, g8⟩ := hT
  have h2' := hV.2.1.2.2
  have h3' := hV.2.2.1.2.2
  have h7 := hV.2.2.2.2.2.2.1
  have m1 : pv N' 3 = k + 1 := pvv_of n1 (by omega)
  refine ⟨by rw [h0.1, hN 0 (by omega) (by omega)]; exact g1, by rw [h0.2.1, hN 1 (by omega) (by omega)]; exact g2, by rw [h0.2.2.1, hN 2 (by omega) (by omega)]; exact g3, by rw [h0.2.2.2, n1], fun j hj => by rw [hq _ (by omega) (by omega) (by omega), hN _ (by omega) (by omega)]; exact g5 j hj, ?_, ?_, ?_⟩
  · rw [pg_vv (hN 1 (by omega) (by omega))]
    intro i hi
    exact pg_TL (fun j hj => hN _ (by omega) (by omega)) ((g6 i (by omega)).mv (fun q q1 q2 => hq q (by omega) (by omega) (by omega)))
  · rw [pg_vv (hN 2 (by omega) (by omega))]
    intro i hi
    exact pg_TP (fun j hj => hN _ (by omega) (by omega)) (h7 i (by omega)).2.2.2.2.2.2.2.2.2.2.2.1.2.2 ((g7 i (by omega)).mv (fun q q1 q2 => hq q (by omega) (by omega) (by omega)))
  · rw [m1]
    intro i hi j hj
    by_cases e : i = k
    · rw [e]; exact hP j hj
    · rw [hq _ (by omega) (by omega) (by omega), hN _ (by omega) (by omega)]; exact g8 i (by omega) j hj
end QD3
