section QA9
variable {I : po_I} {M k t a : Nat} {N : po_N} {S : Int32 → Int32 → Bool}
theorem pc_pos' {p : Nat → Bool} : ∀ {n : Nat}, 0 < pc p n → ∃ k, k < n ∧ p k = true
  | n + 1, h => by
    rw [pc] at h
    by_cases e : p n = true
    · exact ⟨n, by omega, e⟩
    · rw [if_neg e] at h
      obtain ⟨k, h1, h2⟩ := pc_pos' (n := n) (by omega)
      exact ⟨k, by omega, h2⟩
/-- a set of cells meets one of the lots -/
def psh (N : po_N) (k : Nat) (S : Int32 → Int32 → Bool) : Bool := pany (fun j => pany (fun i => pa_in N (32 + 16 * i) (Int32.ofNat (j % 20)) (Int32.ofNat (j / 20))) k && S (Int32.ofNat (j % 20)) (Int32.ofNat (j / 20))) 280
theorem x_hasLotCellIn (hV : pV N) (hT : pTR I t N) (hS : pAR I a S) : m_X5_hasLotCellIn I t a = some (pb (psh N (pv N 1) S)) := by
  have h0 := hV.2.1
  have h0' := h0.2.2
  show m_X5_hasLotCellIn_2L I 5000 t a (Int32.ofNat 0) = _
  refine (pl_find (L := fun f k => m_X5_hasLotCellIn_2L I f t a (Int32.ofNat k)) (n := pv N 1) (p := fun k => decide (0 < ps_n (fun c r => pa_in N (32 + 16 * k) c r && S c r))) (A := fun _ => some (pb true)) (B := some (pb false)) ?_ ?_ (by omega)).trans ?_
  · intro f k hk
    have hL := hT.2.2.2.2.2.1 k hk
    have hn := ps_nle (fun c r => pa_in N (32 + 16 * k) c r && S c r)
    show m_X5_hasLotCellIn_2 I _ _ _ _ = _
    unfold m_X5_hasLotCellIn_2
    rw [hT.2.1, h0.1, if_neg (by first | exact pl_inl (by omega) (by omega) | exact (pl_le (by omega) (by omega)).mpr (by omega) | exact mt (pl_le (by omega) (by omega)).mp (by omega) | exact (pl_lt (by omega) (by omega)).mpr (by omega) | exact mt (pl_lt (by omega) (by omega)).mp (by omega) | exact (pl_eq (by omega) (by omega)).mpr (by omega) | exact mt (pl_eq (by omega) (by omega)).mp (by omega) | exact (pl_neg1 (by omega)).mp | exact (pl_neg1' (by omega)).mp | assumption | omega | rfl | decide), if_pos (show po_in (Int32.ofNat k) 8 = true from pl_inl (by omega) (by omega)), pl_clamp (by omega), x_cellsIn hL.2.2.1 hS, Option.bind_some, show Int32.ofNat k + 1 = Int32.ofNat (k + 1) from pl_add k 1]
    by_cases e : 0 < ps_n (fun c r => pa_in N (32 + 16 * k) c r && S c r)
    · rw [if_neg (show ¬ Int32.ofNat (ps_n (fun c r => pa_in N (32 + 16 * k) c r && S c r)) ≤ 0 from mt (pl_le (b := 0) (by omega) (by omega)).mp (by omega)), decide_eq_true e]; rfl
    · rw [if_pos (show Int32.ofNat (ps_n (fun c r => pa_in N (32 + 16 * k) c r && S c r)) ≤ 0 from (pl_le (b := 0) (by omega) (by omega)).mpr (by omega)), decide_eq_false e]; rfl
  · intro f
    show m_X5_hasLotCellIn_2 I _ _ _ _ = _
    unfold m_X5_hasLotCellIn_2
    rw [hT.2.1, h0.1, if_pos (by first | exact pl_inl (by omega) (by omega) | exact (pl_le (by omega) (by omega)).mpr (by omega) | exact mt (pl_le (by omega) (by omega)).mp (by omega) | exact (pl_lt (by omega) (by omega)).mpr (by omega) | exact mt (pl_lt (by omega) (by omega)).mp (by omega) | exact (pl_eq (by omega) (by omega)).mpr (by omega) | exact mt (pl_eq (by omega) (by omega)).mp (by omega) | exact (pl_neg1 (by omega)).mp | exact (pl_neg1' (by omega)).mp | assumption | omega | rfl | decide)]
    rfl
  · have key : psh N (pv N 1) S = true ↔ ∃ k, k < pv N 1 ∧ 0 < ps_n (fun c r => pa_in N (32 + 16 * k) c r && S c r) := by
      unfold psh
      rw [pany_iff]
      constructor
      · rintro ⟨j, hj, h⟩
        rw [Bool.and_eq_true, pany_iff] at h
        obtain ⟨⟨i, hi, h1⟩, h2⟩ := h
        exact ⟨i, hi, pc_pos j hj (by dsimp only; rw [h1, h2]; rfl)⟩
      · rintro ⟨i, hi, h⟩
        obtain ⟨j, hj, h1⟩ := pc_pos' h
        rw [Bool.and_eq_true] at h1
        exact ⟨j, hj, by rw [Bool.and_eq_true, pany_iff]; exact ⟨⟨i, hi, h1.1⟩, h1.2⟩⟩
    cases e : pfind (fun k => decide (0 < ps_n (fun c r => pa_in N (32 + 16 * k) c r && S c r))) (pv N 1) with
    | some k =>
      obtain ⟨a1, a2, _⟩ := pfind_some e
      rw [key.mpr ⟨k, a1, of_decide_eq_true a2⟩]
    | none =>
      have h := pfind_none e
      cases e2 : psh N (pv N 1) S with
      | false => rfl
      | true =>
        obtain ⟨k, a1, a2⟩ := key.mp e2
        have := h k a1
        rw [decide_eq_true a2] at this
        cases this
theorem q_isShared (hV : pV (I (M + 1))) (hk : pv (I (M + 1)) 1 = k + 1) : m_X8_isShared I M (Int32.ofNat k) = some (pb (psh (I (M + 1)) k (pa_in (I (M + 1)) (32 + 16 * k)))) := by
  have h0 := hV.2.1
  have h0' := h0.2.2
  have hL := hV.2.2.2.2.2.1 k (by omega)
  show m_X8_isShared_4L I 5000 M (Int32.ofNat k) (pb false) (Int32.ofNat 0) = _
  refine (pl_fold (L := fun f x j => m_X8_isShared_4L I f M (Int32.ofNat k) (pb x) (Int32.ofNat j)) (n := 280) (g := fun j x => x || (pany (fun i => pa_in (I (M + 1)) (32 + 16 * i) (Int32.ofNat (j % 20)) (Int32.ofNat (j / 20))) k && pa_in (I (M + 1)) (32 + 16 * k) (Int32.ofNat (j % 20)) (Int32.ofNat (j / 20)))) (E := fun x => some (pb x)) ?_ ?_ (by omega) false).trans ?_
  · intro f x j hj
    show m_X8_isShared_4 I _ _ _ _ _ = _
    unfold m_X8_isShared_4 m_X8_isShared_57 m_X8_isShared_61 m_X8_isShared_62
    rw [if_neg (show ¬ (280 : Int32) ≤ Int32.ofNat j from mt (pl_le (a := 280) (by omega) (by omega)).mp (by omega)), pk_20, pl_xy (by omega), pl_div (by omega) (by omega), q_lotAt hV, Option.bind_some, q_isInLot (by omega) hL.2.2.1, Option.bind_some, hk, show Int32.ofNat j + 1 = Int32.ofNat (j + 1) from pl_add j 1]
    cases x with
    | true => rfl
    | false =>
      rw [if_pos pb_f, Bool.false_or]
      have hp : ∀ i, pfind (fun k => pa_in (I (M + 1)) (32 + 16 * k) (Int32.ofNat (j % 20)) (Int32.ofNat (j / 20))) (k + 1) = some i → i < k + 1 := fun i h => (pfind_some h).1
      cases e : pfind (fun k => pa_in (I (M + 1)) (32 + 16 * k) (Int32.ofNat (j % 20)) (Int32.ofNat (j / 20))) (k + 1) with
      | none =>
        have h := pfind_none e
        rw [if_pos (show po_op none = -1 from rfl), show pa_in (I (M + 1)) (32 + 16 * k) (Int32.ofNat (j % 20)) (Int32.ofNat (j / 20)) = false from h k (by omega), Bool.and_false]; rfl
      | some i =>
        obtain ⟨a1, a2, a3⟩ := pfind_some e
        rw [if_neg (show ¬ po_op (some i) = -1 from (pl_neg1 (a := i) (by omega)).mp)]
        by_cases ei : i = k
        · subst ei
          rw [if_pos (show po_op (some i) = Int32.ofNat i from rfl)]
          have hn : pany (fun i => pa_in (I (M + 1)) (32 + 16 * i) (Int32.ofNat (j % 20)) (Int32.ofNat (j / 20))) i = false := by
            cases e3 : pany (fun i => pa_in (I (M + 1)) (32 + 16 * i) (Int32.ofNat (j % 20)) (Int32.ofNat (j / 20))) i with
            | false => rfl
            | true =>
              obtain ⟨v, v1, v2⟩ := (pany_iff _ _).mp e3
              have := a3 v v1
              rw [v2] at this
              cases this
          rw [hn, Bool.false_and]; rfl
        · rw [if_neg (show ¬ po_op (some i) = Int32.ofNat k from pk_ne (by omega) (by omega) ei), (pany_iff (fun i => pa_in (I (M + 1)) (32 + 16 * i) (Int32.ofNat (j % 20)) (Int32.ofNat (j / 20))) k).mpr ⟨i, by omega, a2⟩, Bool.true_and]
          cases pa_in (I (M + 1)) (32 + 16 * k) (Int32.ofNat (j % 20)) (Int32.ofNat (j / 20)) <;> rfl
  · intro f x
    show m_X8_isShared_4 I _ _ _ _ _ = _
    unfold m_X8_isShared_4
    rw [if_pos (show (280 : Int32) ≤ Int32.ofNat 280 from (pl_le (a := 280) (by omega) (by omega)).mpr (by omega)), pb_nar, if_pos rfl]
  · rw [pany_fold, Bool.false_or]; rfl
theorem psh_congr {N' : po_N} {k : Nat} {S S' : Int32 → Int32 → Bool} (h : ∀ i, i < k → pa_in N (32 + 16 * i) = pa_in N' (32 + 16 * i)) (hS : S = S') : psh N k S = psh N' k S' := by
  subst hS
  unfold psh
  refine pany_congr fun j _ => ?_
  rw [pany_congr fun i hi => congrFun (congrFun (h i hi) _) _]
end QA9
