/-! THE SURVEY -/
section QI
variable {I : po_I} {s t p k : Nat} {N : po_N}
/-- only the survey's rows change -/
def psv (I I' : po_I) (s : Nat) : Prop := ∀ q, q ≠ s + 2 → q ≠ s + 4 → I' q = I q
theorem psv.rf : psv I I s := fun _ _ _ => rfl
theorem psv.tr {I1 I2 I3 : po_I} (h : psv I1 I2 s) (g : psv I2 I3 s) : psv I1 I3 s := fun q a b => by rw [g q a b, h q a b]
theorem psv.town {I' : po_I} (h : psv I I' s) (hV : pV N) (hT : pTR I t N) (hs : s + 4 < t) : pTR I' t N := hT.mv hV fun q q1 q2 => h q (by omega) (by omega)
theorem pa_ne {N : po_N} {b : Nat} (h : pa_v N b) : pne (pa_in N b) := by
  obtain ⟨⟨e1, _, b1⟩, ⟨e2, _, b2⟩, ⟨e3, c3, b3⟩, ⟨e4, c4, b4⟩, b5, b6⟩ := h.2.1
  refine ⟨pv N (b + 3 + 4 * 0), pv N (b + 3 + 4 * 0 + 1), by omega, by omega, ?_⟩
  unfold pa_in pa_r
  rw [Bool.or_eq_true, Bool.or_eq_true]
  refine Or.inl (Or.inl (decide_eq_true ?_))
  rw [e1, e2, e3, e4, pl_add, pl_add, pk_1, pl_sub (by omega), pl_sub (by omega)]
  refine ⟨Int32.le_refl _, (pl_le (by omega) (by omega)).mpr (by omega), Int32.le_refl _, (pl_le (by omega) (by omega)).mpr (by omega)⟩
theorem x_dividedUp {a b : Int32} (h : 0 < b) : m_X4_dividedUp a b = some (pup a b) := by
  unfold m_X4_dividedUp m_X4_dividedUp_e m_X4_dividedUp_15
  rw [if_pos h, if_neg (by rintro rfl; revert h; decide)]
  rfl
theorem ps_lc_pos (hV : pV N) (hp : p < pv N 2) : 0 < ps_lc N p := by
  have hP := hV.2.2.2.2.2.2.1 p hp
  have hL := hV.2.2.2.2.2.1 _ hP.2.1
  have h1 := ps_npos hL.2.2
  have h2 := ps_nle (pa_in N (32 + 16 * pv N (160 + 46 * p)))
  unfold ps_lc ps_lo
  rw [pk_0]
  exact (pl_lt (by omega) (by omega)).mpr (by omega)
theorem x_sfa {lot : Int32} (hV : pV N) (hT : pTR I t N) (hp : p < 10) : m_X5_standingFloorArea I t lot (t + (29 + 5 * p)) = some (ps_fas N lot (Int32.ofNat p)) := by
  have h0 := hV.2.2.1
  have h0' := h0.2.2
  show m_X5_standingFloorArea_5L I 5000 t lot (t + (29 + 5 * p)) 0 (Int32.ofNat 0) = _
  refine (pl_fold (L := fun f x k => m_X5_standingFloorArea_5L I f t lot (t + (29 + 5 * p)) x (Int32.ofNat k)) (n := pv N 2) (g := fun k x => x + ps_fl N lot (Int32.ofNat p) k) (E := fun x => some x) ?_ ?_ (by omega) 0).trans ?_
  · intro f x k hk
    have hP := hT.2.2.2.2.2.2.1 k hk
    show m_X5_standingFloorArea_5 I _ _ _ _ _ _ = _
    unfold m_X5_standingFloorArea_5 m_X5_standingFloorArea_42 ps_fl
    rw [hT.2.2.1, h0.1]
    simp only [-Int32.reduceOfNat, pk_0, pk_1, pk_2, pk_3, pk_4, pk_5, pk_6, pk_7, pk_8, pk_9, pk_10, pk_11, pk_12, pk_13, pk_14, pk_15, pk_16, pk_17, pk_18, pk_19, pk_20, pk_21, pk_22, pk_23, pk_24, pk_25, pk_26, pk_27, pk_28, pk_29, pk_30, pk_31, pk_32, pk_33, pk_44, pk_45, pk_46, pk_48, pk_50, pk_57, pk_59, pk_60, pk_63, pk_67, pk_69, pk_76, pk_78, pk_79, pk_80, pk_83, pk_86, pk_87, pk_90, pk_97, pk_99, pk_100, pk_110, pk_116, pk_122, pk_126, pk_160, pk_190, pk_255, pk_280, pk_281, pk_500, pk_620, pk_668, pk_1000, pk_3340, pk_4008, pk_5000, pk_65536, pk_1000000, pk_2000000, pk_3000000, pk_252645135, pk_858993459, pk_1431655765, pl_add, pl_mul]
    repeat rw [pl_clamp (by omega)]
    rw [if_neg (by first | exact pl_inl (by omega) (by omega) | exact (pl_le (by omega) (by omega)).mpr (by omega) | exact mt (pl_le (by omega) (by omega)).mp (by omega) | exact (pl_lt (by omega) (by omega)).mpr (by omega) | exact mt (pl_lt (by omega) (by omega)).mp (by omega) | exact (pl_eq (by omega) (by omega)).mpr (by omega) | exact mt (pl_eq (by omega) (by omega)).mp (by omega) | exact (pl_neg1 (by omega)).mp | exact (pl_neg1' (by omega)).mp | assumption | omega | rfl | decide), if_pos (by first | exact pl_inl (by omega) (by omega) | exact (pl_le (by omega) (by omega)).mpr (by omega) | exact mt (pl_le (by omega) (by omega)).mp (by omega) | exact (pl_lt (by omega) (by omega)).mpr (by omega) | exact mt (pl_lt (by omega) (by omega)).mp (by omega) | exact (pl_eq (by omega) (by omega)).mpr (by omega) | exact mt (pl_eq (by omega) (by omega)).mp (by omega) | exact (pl_neg1 (by omega)).mp | exact (pl_neg1' (by omega)).mp | assumption | omega | rfl | decide), x_countsFor (by omega) hp hP, Option.bind_some, if_pos (show po_in (Int32.ofNat k) 10 = true from pl_inl (by omega) (by omega)), x_floorArea hP, Option.bind_some]
    unfold po_let
    cases (!decide (Int32.ofNat k = Int32.ofNat p) && ps_of N k lot)
    · rw [if_pos (show pb false = Int32.ofNat 0 from rfl), if_neg (by decide), ← pk_0, Int32.add_zero]
    · rw [if_neg (show ¬ pb true = Int32.ofNat 0 by decide), if_pos rfl]
  · intro f x
    show m_X5_standingFloorArea_5 I _ _ _ _ _ _ = _
    unfold m_X5_standingFloorArea_5
    rw [hT.2.2.1, h0.1, if_pos (by first | exact pl_inl (by omega) (by omega) | exact (pl_le (by omega) (by omega)).mpr (by omega) | exact mt (pl_le (by omega) (by omega)).mp (by omega) | exact (pl_lt (by omega) (by omega)).mpr (by omega) | exact mt (pl_lt (by omega) (by omega)).mp (by omega) | exact (pl_eq (by omega) (by omega)).mpr (by omega) | exact mt (pl_eq (by omega) (by omega)).mp (by omega) | exact (pl_neg1 (by omega)).mp | exact (pl_neg1' (by omega)).mp | assumption | omega | rfl | decide)]
  · rw [pz_fold, Int32.zero_add]; rfl
theorem ps_m_le {B : Int32 → Int32 → Bool} {g : Int32 → Int32 → Nat} {c r : Nat} (hc : c < 20) (hr : r < 14) (hB : B (Int32.ofNat c) (Int32.ofNat r) = true) : ps_m B g ≤ g (Int32.ofNat c) (Int32.ofNat r) := by
  have h1 := (pm_spec (fun j => B (Int32.ofNat (j % 20)) (Int32.ofNat (j / 20))) (fun j => g (Int32.ofNat (j % 20)) (Int32.ofNat (j / 20))) 100 280).2.1 (20 * r + c) (by omega) (by
    show B (Int32.ofNat ((20 * r + c) % 20)) (Int32.ofNat ((20 * r + c) / 20)) = true
    rw [show (20 * r + c) % 20 = c by omega, show (20 * r + c) / 20 = r by omega]
    exact hB)
  rw [show (20 * r + c) % 20 = c by omega, show (20 * r + c) / 20 = r by omega] at h1
  exact h1
theorem ps_m_mem {B : Int32 → Int32 → Bool} {g : Int32 → Int32 → Nat} (h : ps_m B g < 100) : ∃ c r, c < 20 ∧ r < 14 ∧ B (Int32.ofNat c) (Int32.ofNat r) = true ∧ g (Int32.ofNat c) (Int32.ofNat r) = ps_m B g := by
  rcases (pm_spec (fun j => B (Int32.ofNat (j % 20)) (Int32.ofNat (j / 20))) (fun j => g (Int32.ofNat (j % 20)) (Int32.ofNat (j / 20))) 100 280).2.2 with h1 | ⟨j, h1, h2, h3⟩
  · have e : ps_m B g = 100 := h1
    omega
  · exact ⟨j % 20, j / 20, by omega, by omega, h2, h3.symm⟩
theorem pm_form (fr : Nat) (h : Nat → Nat) (s0 : Nat) : ∀ n, pfold (fun d v => if d = fr then v else if h d < v then h d else v) n s0 = pfold (pmst (fun d => decide (d ≠ fr)) h) n s0
  | 0 => rfl
  | n + 1 => by
    rw [pfold, pfold, pm_form fr h s0 n]
    generalize pfold (pmst (fun d => decide (d ≠ fr)) h) n s0 = X
    show _ = if decide (n ≠ fr) = true then (if h n < X then h n else X) else X
    by_cases e : n = fr
    · rw [if_pos e, if_neg (by simp [e])]
    · rw [if_neg e, if_pos (decide_eq_true e)]
theorem ps_side {B S : Int32 → Int32 → Bool} {fr : Nat} (hn : pne B) (hfr : fr < 4) : ps_m B (pside S fr) = pfold (fun d v => if d = fr then v else if ps_m B (pdist S d) < v then ps_m B (pdist S d) else v) 4 20 := by
  have hps : ∀ d, ps_m B (pdist S d) ≤ 19 := by
    intro d
    obtain ⟨c, r, hc, hr, hB2⟩ := hn
    exact Nat.le_trans (ps_m_le hc hr hB2) pdist_le
  rw [pm_form]
  obtain ⟨a1, a2, a3⟩ := pm_spec (fun d => decide (d ≠ fr)) (fun d => ps_m B (pdist S d)) 20 4
  generalize pfold (pmst (fun d => decide (d ≠ fr)) (fun d => ps_m B (pdist S d))) 4 20 = v at *
  have hv : v ≤ 19 := by
    by_cases e : fr = 0
    · exact Nat.le_trans (a2 1 (by omega) (decide_eq_true (by omega))) (hps 1)
    · exact Nat.le_trans (a2 0 (by omega) (decide_eq_true (by omega))) (hps 0)
  have hlo : ∀ c r, c < 20 → r < 14 → B (Int32.ofNat c) (Int32.ofNat r) = true → v ≤ pside S fr (Int32.ofNat c) (Int32.ofNat r) := by
    intro c r hc hr hB
    unfold pside
    rw [pm_form fr (fun d => pdist S d (Int32.ofNat c) (Int32.ofNat r))]
    rcases (pm_spec (fun d => decide (d ≠ fr)) (fun d => pdist S d (Int32.ofNat c) (Int32.ofNat r)) 100 4).2.2 with h | ⟨d, h1, h2, h3⟩
    · rw [h]; omega
    · rw [h3]
      exact Nat.le_trans (a2 d h1 h2) (ps_m_le hc hr hB)
  refine ps_m_eq hlo ?_ (by omega)
  rcases a3 with h | ⟨d, h1, h2, h3⟩
  · omega
  · have hd := hps d
    obtain ⟨c, r, hc, hr, hB, hg⟩ := ps_m_mem (B := B) (g := pdist S d) (by omega)
    refine ⟨c, r, hc, hr, hB, ?_⟩
    have h4 := hlo c r hc hr hB
    have h5 : pside S fr (Int32.ofNat c) (Int32.ofNat r) ≤ pdist S d (Int32.ofNat c) (Int32.ofNat r) := by
      unfold pside
      rw [pm_form fr (fun d => pdist S d (Int32.ofNat c) (Int32.ofNat r))]
      exact (pm_spec (fun d => decide (d ≠ fr)) (fun d => pdist S d (Int32.ofNat c) (Int32.ofNat r)) 100 4).2.1 d h1 h2
    omega
theorem x_leastSide {B S : Int32 → Int32 → Bool} {u L fr : Nat} (hfr : I L 1 = Int32.ofNat fr) (hfr2 : fr < 4) (hB : pAR I u B) (hL : pAR I (L + 1) S) (hb : pbnd S) (hn : pne B) (hu : s + 4 < u) (hv : s + 4 < L) : ∃ I', m_X4_leastSideDistance I s u L = some (Int32.ofNat (ps_m B (pside S fr)), I') ∧ psv I I' s := by
  show ∃ I', m_X4_leastSideDistance_6L 5000 I s u L (Int32.ofNat 20) (Int32.ofNat 0) = _ ∧ _
  have hps : ∀ d, d < 4 → ps_m B (pdist S d) ≤ 19 := by
    intro d hd
    obtain ⟨c, r, hc, hr, hB2⟩ := hn
    exact Nat.le_trans (ps_m_le hc hr hB2) pdist_le
  have key := po_inv (L := fun f (x : po_I × Nat) d => m_X4_leastSideDistance_6L f x.1 s u L (Int32.ofNat x.2) (Int32.ofNat d)) (n := 4) (fun d x => psv I x.1 s ∧ x.2 ≤ 20 ∧ x.2 = pfold (fun d v => if d = fr then v else if ps_m B (pdist S d) < v then ps_m B (pdist S d) else v) d 20) (fun y => ∃ I', y = some (Int32.ofNat (pfold (fun d v => if d = fr then v else if ps_m B (pdist S d) < v then ps_m B (pdist S d) else v) 4 20), I') ∧ psv I I' s) ?_ ?_ 4 5000 (I, 20) 0 (by omega) (by omega) ⟨psv.rf, by omega, rfl⟩
  · obtain ⟨I', e1, e2⟩ := key
    refine ⟨I', ?_, e2⟩
    rw [ps_side hn hfr2]
    exact e1
  · rintro f ⟨J, v⟩ d hd ⟨g1, g2, g3⟩
    left
    change v ≤ 20 at g2
    change v = _ at g3
    have g4 : J L = I L := g1 L (by omega) (by omega)
    obtain ⟨J', z1, z2⟩ := x_leastDistance (s := s) hd (hB.mv (g1 (u + 1) (by omega) (by omega))) (hL.mv (g1 (L + 1 + 1) (by omega) (by omega))) hb hn (by omega) (by omega)
    have hps' := hps d hd
    show ∃ s', _ ∧ m_X4_leastSideDistance_6 _ J s u L (Int32.ofNat v) (Int32.ofNat d) = _
    unfold m_X4_leastSideDistance_6 m_X4_leastSideDistance_37
    rw [g4, hfr, if_neg (show ¬ (4 : Int32) ≤ Int32.ofNat d from mt (pl_le (a := 4) (by omega) (by omega)).mp (by omega)), z1, Option.bind_some, pk_1, pl_add]
    unfold po_let
    by_cases h1 : d = fr
    · refine ⟨(J, v), ⟨g1, g2, ?_⟩, if_pos (by rw [h1])⟩
      show v = _
      rw [pfold, if_pos h1]; exact g3
    · by_cases h2 : ps_m B (pdist S d) < v
      · refine ⟨(J', ps_m B (pdist S d)), ⟨g1.tr (fun q _ q4 => z2 q q4), by show ps_m B (pdist S d) ≤ 20; omega, ?_⟩, ?_⟩
        · show ps_m B (pdist S d) = _
          rw [pfold, if_neg h1, ← g3, if_pos h2]
        · rw [if_neg (mt (pl_eq (by omega) (by omega)).mp h1), if_pos ((pl_lt (by omega) (by omega)).mpr h2)]
      · refine ⟨(J', v), ⟨g1.tr (fun q _ q4 => z2 q q4), g2, ?_⟩, ?_⟩
        · show v = _
          rw [pfold, if_neg h1, ← g3, if_neg h2]
        · rw [if_neg (mt (pl_eq (by omega) (by omega)).mp h1), if_neg (mt (pl_lt (by omega) (by omega)).mp h2)]
  · rintro f ⟨J, v⟩ ⟨g1, g2, g3⟩
    change v = _ at g3
    refine ⟨J, ?_, g1⟩
    rw [← g3]
    rfl
end QI
