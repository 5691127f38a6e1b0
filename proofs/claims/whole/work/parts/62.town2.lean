section QU
variable {I : po_I} {s t p k : Nat} {N : po_N}
theorem x_sfa_n {lot : Int32} (hV : pV N) (hT : pTR I t N) : m_X5_standingFloorArea_n I t lot = some (ps_fas N lot (-1)) := by
  have h0 := hV.2.2.1
  have h0' := h0.2.2
  show m_X5_standingFloorArea_n_5L I 5000 t lot 0 (Int32.ofNat 0) = _
  refine (pl_fold (L := fun f x k => m_X5_standingFloorArea_n_5L I f t lot x (Int32.ofNat k)) (n := pv N 2) (g := fun k x => x + ps_fl N lot (-1) k) (E := fun x => some x) ?_ ?_ (by omega) 0).trans ?_
  · intro f x k hk
    have hP := hT.2.2.2.2.2.2.1 k hk
    have hne : ¬ Int32.ofNat k = -1 := (pl_neg1 (a := k) (by omega)).mp
    show m_X5_standingFloorArea_n_5 I _ _ _ _ _ = _
    unfold m_X5_standingFloorArea_n_5 m_X5_standingFloorArea_n_42 ps_fl
    rw [hT.2.2.1, h0.1, decide_eq_false hne]
    simp only [po_let]
    rw [if_neg (by first | exact pl_inl (by omega) (by omega) | exact (pl_le (by omega) (by omega)).mpr (by omega) | exact mt (pl_le (by omega) (by omega)).mp (by omega) | exact (pl_lt (by omega) (by omega)).mpr (by omega) | exact mt (pl_lt (by omega) (by omega)).mp (by omega) | exact (pl_eq (by omega) (by omega)).mpr (by omega) | exact mt (pl_eq (by omega) (by omega)).mp (by omega) | exact (pl_neg1 (by omega)).mp | exact (pl_neg1' (by omega)).mp | assumption | omega | rfl | decide), if_pos (show po_in (Int32.ofNat k) 10 = true from pl_inl (by omega) (by omega)), pl_clamp (by omega), x_countsFor_n hP, Option.bind_some, if_pos (show po_in (Int32.ofNat k) 10 = true from pl_inl (by omega) (by omega)), x_floorArea hP, Option.bind_some, show Int32.ofNat k + 1 = Int32.ofNat (k + 1) from pl_add k 1]
    cases ps_of N k lot
    · rw [if_pos pb_f, if_neg (by decide), Int32.add_zero]
    · rw [if_neg (show ¬ pb true = 0 by decide), if_pos (show (!false && true) = true from rfl)]
  · intro f x
    show m_X5_standingFloorArea_n_5 I _ _ _ _ _ = _
    unfold m_X5_standingFloorArea_n_5
    rw [hT.2.2.1, h0.1, if_pos (by first | exact pl_inl (by omega) (by omega) | exact (pl_le (by omega) (by omega)).mpr (by omega) | exact mt (pl_le (by omega) (by omega)).mp (by omega) | exact (pl_lt (by omega) (by omega)).mpr (by omega) | exact mt (pl_lt (by omega) (by omega)).mp (by omega) | exact (pl_eq (by omega) (by omega)).mpr (by omega) | exact mt (pl_eq (by omega) (by omega)).mp (by omega) | exact (pl_neg1 (by omega)).mp | exact (pl_neg1' (by omega)).mp | assumption | omega | rfl | decide)]
  · rw [pz_fold, Int32.zero_add]; rfl
theorem x_gather_n {lot : Int32} {a : Nat} (hV : pV N) (hT : pTR I t N) (ha : a + 1 < t) : ∃ I', m_X5_gatherBuildings_n I t lot a = some I' ∧ (∀ q, q ≠ a + 1 → I' q = I q) ∧ pAR I' a (fun c r => ps_blt N lot c r (-1)) := by
  have h0 := hV.2.2.1
  have h0' := h0.2.2
  obtain ⟨I5, c1, c2, c3⟩ := x_clear (I := I) (a := a)
  unfold m_X5_gatherBuildings_n m_X5_gatherBuildings_n_e
  rw [c1, Option.bind_some]
  refine po_inv (L := fun f (J : po_I) k => m_X5_gatherBuildings_n_7L f J t lot a (Int32.ofNat k)) (n := pv N 2) (fun k J => (∀ q, q ≠ a + 1 → J q = I q) ∧ pAR J a (fun c r => pany (ps_bk N lot c r (-1)) k)) (fun x => ∃ I', x = some I' ∧ (∀ q, q ≠ a + 1 → I' q = I q) ∧ pAR I' a (fun c r => ps_blt N lot c r (-1))) ?_ ?_ (pv N 2) 5000 I5 0 (Nat.zero_add _) (by omega) ⟨c2, c3⟩
  · rintro f J k hk ⟨g1, g2⟩
    left
    have hTJ : pTR J t N := hT.mv hV (fun q q1 q2 => g1 q (by omega))
    have hP := hTJ.2.2.2.2.2.2.1 k hk
    have hne : ¬ Int32.ofNat k = -1 := (pl_neg1 (a := k) (by omega)).mp
    have e : ∀ X, (m_X0_addAll J a (t + (29 + 5 * k) + 1) = some X) → m_X5_gatherBuildings_n_7L (f + 1) J t lot a (Int32.ofNat k) = if pb (ps_of N k lot) = 0 then m_X5_gatherBuildings_n_7L f J t lot a (Int32.ofNat (k + 1)) else m_X5_gatherBuildings_n_7L f X t lot a (Int32.ofNat (k + 1)) := by
      intro X hX
      show m_X5_gatherBuildings_n_7 _ _ _ _ _ _ = _
      unfold m_X5_gatherBuildings_n_7 m_X5_gatherBuildings_n_45
      rw [hTJ.2.2.1, h0.1, if_neg (by first | exact pl_inl (by omega) (by omega) | exact (pl_le (by omega) (by omega)).mpr (by omega) | exact mt (pl_le (by omega) (by omega)).mp (by omega) | exact (pl_lt (by omega) (by omega)).mpr (by omega) | exact mt (pl_lt (by omega) (by omega)).mp (by omega) | exact (pl_eq (by omega) (by omega)).mpr (by omega) | exact mt (pl_eq (by omega) (by omega)).mp (by omega) | exact (pl_neg1 (by omega)).mp | exact (pl_neg1' (by omega)).mp | assumption | omega | rfl | decide), if_pos (show po_in (Int32.ofNat k) 10 = true from pl_inl (by omega) (by omega)), pl_clamp (by omega), x_countsFor_n hP, Option.bind_some, if_pos (show po_in (Int32.ofNat k) 10 = true from pl_inl (by omega) (by omega)), hX, Option.bind_some, show Int32.ofNat k + 1 = Int32.ofNat (k + 1) from pl_add k 1]
    obtain ⟨X, y1, y2, y3⟩ := x_addAll (I := J) (a := a) (b := t + (29 + 5 * k) + 1) (by omega) g2 hP.are
    show ∃ s', _ ∧ m_X5_gatherBuildings_n_7L (f + 1) J t lot a (Int32.ofNat k) = _
    rw [e X y1]
    cases hc : ps_of N k lot with
    | false =>
      refine ⟨J, ⟨g1, fun r hr c hc2 => ?_⟩, if_pos rfl⟩
      refine (g2 r hr c hc2).trans ?_
      show (decide (c < 20) && pany (ps_bk N lot (Int32.ofNat c) (Int32.ofNat r) (-1)) k) = (decide (c < 20) && (pany (ps_bk N lot (Int32.ofNat c) (Int32.ofNat r) (-1)) k || ps_bk N lot (Int32.ofNat c) (Int32.ofNat r) (-1) k))
      unfold ps_bk
      rw [hc, Bool.false_and, Bool.and_false, Bool.or_false]
    | true =>
      refine ⟨X, ⟨fun q hq => by rw [y2 q hq, g1 q hq], fun r hr c hc2 => ?_⟩, if_neg (by decide)⟩
      refine (y3 r hr c hc2).trans ?_
      show (decide (c < 20) && (pany (ps_bk N lot (Int32.ofNat c) (Int32.ofNat r) (-1)) k || pa_in N (160 + 46 * k) (Int32.ofNat c) (Int32.ofNat r))) = (decide (c < 20) && (pany (ps_bk N lot (Int32.ofNat c) (Int32.ofNat r) (-1)) k || ps_bk N lot (Int32.ofNat c) (Int32.ofNat r) (-1) k))
      unfold ps_bk
      rw [hc, decide_eq_false hne, Bool.true_and]; rfl
  · rintro f J ⟨g1, g2⟩
    refine ⟨J, ?_, g1, g2⟩
    have hTJ : pTR J t N := hT.mv hV (fun q q1 q2 => g1 q (by omega))
    show m_X5_gatherBuildings_n_7 _ _ _ _ _ _ = _
    unfold m_X5_gatherBuildings_n_7
    rw [hTJ.2.2.1, h0.1, if_pos (by first | exact pl_inl (by omega) (by omega) | exact (pl_le (by omega) (by omega)).mpr (by omega) | exact mt (pl_le (by omega) (by omega)).mp (by omega) | exact (pl_lt (by omega) (by omega)).mpr (by omega) | exact mt (pl_lt (by omega) (by omega)).mp (by omega) | exact (pl_eq (by omega) (by omega)).mpr (by omega) | exact mt (pl_eq (by omega) (by omega)).mp (by omega) | exact (pl_neg1 (by omega)).mp | exact (pl_neg1' (by omega)).mp | assumption | omega | rfl | decide)]
theorem x_builtCells (hV : pV N) (hT : pTR I t N) (hs : s + 4 < t) (hk : k < pv N 1) : ∃ I', m_X4_builtCells I s t (Int32.ofNat k) = some (Int32.ofNat (ps_n (fun c r => pa_in N (32 + 16 * k) c r && ps_blt N (Int32.ofNat k) c r (-1))), I') ∧ psv I I' s := by
  have hl' := hV.2.1.2.2
  obtain ⟨I1, g1, g2, g3⟩ := x_gather_n (I := I) (t := t) (lot := Int32.ofNat k) (a := s + 1) hV hT (by omega)
  have hT1 : pTR I1 t N := hT.mv hV (fun q q1 q2 => g2 q (by omega))
  have hL := hT1.2.2.2.2.2.1 k hk
  unfold m_X4_builtCells m_X4_builtCells_e
  rw [g1, Option.bind_some, x_lotAt hV hT1 hk, Option.bind_some, x_cellsIn g3 hL.2.2.1, Option.bind_some]
  refine ⟨I1, ?_, fun q q1 _ => g2 q q1⟩
  have e : ps_n (fun c r => ps_blt N (Int32.ofNat k) c r (-1) && pa_in N (32 + 16 * k) c r) = ps_n (fun c r => pa_in N (32 + 16 * k) c r && ps_blt N (Int32.ofNat k) c r (-1)) := ps_n_congr (fun c r _ _ => Bool.and_comm _ _)
  rw [e]
theorem x_lotWith {c r : Nat} (hV : pV N) (hT : pTR I t N) (hc : c < 20) (hr : r < 14) : m_X5_lotWith I t (Int32.ofNat c) (Int32.ofNat r) = some (po_op (pfind (fun k => pa_in N (32 + 16 * k) (Int32.ofNat c) (Int32.ofNat r)) (pv N 1))) := by
  have h0 := hV.2.1
  have h0' := h0.2.2
  show m_X5_lotWith_2L I 5000 t _ _ (Int32.ofNat 0) = _
  refine (pl_find (L := fun f k => m_X5_lotWith_2L I f t (Int32.ofNat c) (Int32.ofNat r) (Int32.ofNat k)) (n := pv N 1) (p := fun k => pa_in N (32 + 16 * k) (Int32.ofNat c) (Int32.ofNat r)) (A := fun k => some (Int32.ofNat k)) (B := some (-1)) ?_ ?_ (by omega)).trans ?_
  · intro f k hk
    have hL := hT.2.2.2.2.2.1 k hk
    show m_X5_lotWith_2 I _ _ _ _ _ = _
    unfold m_X5_lotWith_2
    rw [hT.2.1, h0.1, if_neg (by first | exact pl_inl (by omega) (by omega) | exact (pl_le (by omega) (by omega)).mpr (by omega) | exact mt (pl_le (by omega) (by omega)).mp (by omega) | exact (pl_lt (by omega) (by omega)).mpr (by omega) | exact mt (pl_lt (by omega) (by omega)).mp (by omega) | exact (pl_eq (by omega) (by omega)).mpr (by omega) | exact mt (pl_eq (by omega) (by omega)).mp (by omega) | exact (pl_neg1 (by omega)).mp | exact (pl_neg1' (by omega)).mp | assumption | omega | rfl | decide), if_pos (show po_in (Int32.ofNat k) 8 = true from pl_inl (by omega) (by omega)), pl_clamp (by omega), x_hasCell hc hr hL.2.2.1, Option.bind_some, show Int32.ofNat k + 1 = Int32.ofNat (k + 1) from pl_add k 1]
    cases pa_in N (32 + 16 * k) (Int32.ofNat c) (Int32.ofNat r) <;> rfl
  · intro f
    show m_X5_lotWith_2 I _ _ _ _ _ = _
    unfold m_X5_lotWith_2
    rw [hT.2.1, h0.1, if_pos (by first | exact pl_inl (by omega) (by omega) | exact (pl_le (by omega) (by omega)).mpr (by omega) | exact mt (pl_le (by omega) (by omega)).mp (by omega) | exact (pl_lt (by omega) (by omega)).mpr (by omega) | exact mt (pl_lt (by omega) (by omega)).mp (by omega) | exact (pl_eq (by omega) (by omega)).mpr (by omega) | exact mt (pl_eq (by omega) (by omega)).mp (by omega) | exact (pl_neg1 (by omega)).mp | exact (pl_neg1' (by omega)).mp | assumption | omega | rfl | decide)]
  · cases pfind (fun k => pa_in N (32 + 16 * k) (Int32.ofNat c) (Int32.ofNat r)) (pv N 1) <;> rfl
theorem x_permitWith {c r : Nat} (hV : pV N) (hT : pTR I t N) (hc : c < 20) (hr : r < 14) : m_X5_standingPermitWith I t (Int32.ofNat c) (Int32.ofNat r) = some (po_op (pfind (fun k => ps_st N k && pa_in N (160 + 46 * k) (Int32.ofNat c) (Int32.ofNat r)) (pv N 2))) := by
  have h0 := hV.2.2.1
  have h0' := h0.2.2
  show m_X5_standingPermitWith_2L I 5000 t _ _ (Int32.ofNat 0) = _
  refine (pl_find (L := fun f k => m_X5_standingPermitWith_2L I f t (Int32.ofNat c) (Int32.ofNat r) (Int32.ofNat k)) (n := pv N 2) (p := fun k => ps_st N k && pa_in N (160 + 46 * k) (Int32.ofNat c) (Int32.ofNat r)) (A := fun k => some (Int32.ofNat k)) (B := some (-1)) ?_ ?_ (by omega)).trans ?_
  · intro f k hk
    have hP := hT.2.2.2.2.2.2.1 k hk
    show m_X5_standingPermitWith_2 I _ _ _ _ _ = _
    unfold m_X5_standingPermitWith_2 m_X5_standingPermitWith_41
    rw [hT.2.2.1, h0.1, if_neg (by first | exact pl_inl (by omega) (by omega) | exact (pl_le (by omega) (by omega)).mpr (by omega) | exact mt (pl_le (by omega) (by omega)).mp (by omega) | exact (pl_lt (by omega) (by omega)).mpr (by omega) | exact mt (pl_lt (by omega) (by omega)).mp (by omega) | exact (pl_eq (by omega) (by omega)).mpr (by omega) | exact mt (pl_eq (by omega) (by omega)).mp (by omega) | exact (pl_neg1 (by omega)).mp | exact (pl_neg1' (by omega)).mp | assumption | omega | rfl | decide), if_pos (show po_in (Int32.ofNat k) 10 = true from pl_inl (by omega) (by omega)), pl_clamp (by omega), x_stands hP, Option.bind_some, if_pos (show po_in (Int32.ofNat k) 10 = true from pl_inl (by omega) (by omega)), x_hasCell hc hr hP.are, Option.bind_some, show Int32.ofNat k + 1 = Int32.ofNat (k + 1) from pl_add k 1]
    cases ps_st N k <;> cases pa_in N (160 + 46 * k) (Int32.ofNat c) (Int32.ofNat r) <;> rfl
  · intro f
    show m_X5_standingPermitWith_2 I _ _ _ _ _ = _
    unfold m_X5_standingPermitWith_2
    rw [hT.2.2.1, h0.1, if_pos (by first | exact pl_inl (by omega) (by omega) | exact (pl_le (by omega) (by omega)).mpr (by omega) | exact mt (pl_le (by omega) (by omega)).mp (by omega) | exact (pl_lt (by omega) (by omega)).mpr (by omega) | exact mt (pl_lt (by omega) (by omega)).mp (by omega) | exact (pl_eq (by omega) (by omega)).mpr (by omega) | exact mt (pl_eq (by omega) (by omega)).mp (by omega) | exact (pl_neg1 (by omega)).mp | exact (pl_neg1' (by omega)).mp | assumption | omega | rfl | decide)]
  · cases pfind (fun k => ps_st N k && pa_in N (160 + 46 * k) (Int32.ofNat c) (Int32.ofNat r)) (pv N 2) <;> rfl
end QU
