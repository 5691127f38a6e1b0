theorem bt_sel (x : Int32) {v : Nat} (hv : v < 32) : (x >>> (Int32.ofNat v &&& 31)) &&& 1 = Int32.ofNat (if bt x v = true then 1 else 0) := by
  cases h : bt x v with
  | false => rw [(bt_test2 x hv).mpr h]; rfl
  | true =>
    rw [if_pos rfl]
    refine bt_ext (fun c hc => ?_)
    rw [bt_and, bt_1 hc]
    show _ = bt 1 c
    rw [bt_1 hc]
    by_cases e : c = 0
    · rw [e, bt_shrn x hv (by omega), Nat.zero_add, h]; rfl
    · rw [decide_eq_false e, Bool.and_false]
section QW
variable {I : po_I} {M t v : Nat} {N : po_N}
theorem q_namedBy (hV : pV (I (M + 1))) (hv : v < 32) : m_X8_namedBy I M (Int32.ofNat v) = some (Int32.ofNat (pc (fun k => bt (I (M + 1) (160 + 46 * k + 24)) v) (pv (I (M + 1)) 2))) := by
  have h0 := hV.2.2.1
  have h0' := h0.2.2
  show m_X8_namedBy_4L I 5000 M (Int32.ofNat v) (Int32.ofNat 0) (Int32.ofNat 0) = _
  refine (pl_fold (L := fun f x k => m_X8_namedBy_4L I f M (Int32.ofNat v) (Int32.ofNat x) (Int32.ofNat k)) (n := pv (I (M + 1)) 2) (g := fun k x => x + (if bt (I (M + 1) (160 + 46 * k + 24)) v = true then 1 else 0)) (E := fun x => some (Int32.ofNat x)) ?_ ?_ (by omega) 0).trans ?_
  · intro f x k hk
    show m_X8_namedBy_4 I _ _ _ _ _ = _
    unfold m_X8_namedBy_4
    rw [h0.1, if_neg (by first | exact pl_inl (by omega) (by omega) | exact (pl_le (by omega) (by omega)).mpr (by omega) | exact mt (pl_le (by omega) (by omega)).mp (by omega) | exact (pl_lt (by omega) (by omega)).mpr (by omega) | exact mt (pl_lt (by omega) (by omega)).mp (by omega) | exact (pl_eq (by omega) (by omega)).mpr (by omega) | exact mt (pl_eq (by omega) (by omega)).mp (by omega) | exact (pl_neg1 (by omega)).mp | exact (pl_neg1' (by omega)).mp | assumption | omega | rfl | decide), pk_24, q_at (by omega), Option.bind_some]
    simp only [po_let]
    rw [bt_sel _ hv, pl_add, show Int32.ofNat k + 1 = Int32.ofNat (k + 1) from pl_add k 1]
  · intro f x
    show m_X8_namedBy_4 I _ _ _ _ _ = _
    unfold m_X8_namedBy_4
    rw [h0.1, if_pos (by first | exact pl_inl (by omega) (by omega) | exact (pl_le (by omega) (by omega)).mpr (by omega) | exact mt (pl_le (by omega) (by omega)).mp (by omega) | exact (pl_lt (by omega) (by omega)).mpr (by omega) | exact mt (pl_lt (by omega) (by omega)).mp (by omega) | exact (pl_eq (by omega) (by omega)).mpr (by omega) | exact mt (pl_eq (by omega) (by omega)).mp (by omega) | exact (pl_neg1 (by omega)).mp | exact (pl_neg1' (by omega)).mp | assumption | omega | rfl | decide)]
  · rw [pc_fold, Nat.zero_add]
theorem x_permitsNaming (hV : pV N) (hT : pTR I t N) (hv : v < 32) : m_X5_permitsNaming I t (Int32.ofNat v) = some (Int32.ofNat (pc (fun k => bt (N (160 + 46 * k + 24)) v) (pv N 2))) := by
  have h0 := hV.2.2.1
  have h0' := h0.2.2
  show m_X5_permitsNaming_4L I 5000 t (Int32.ofNat v) (Int32.ofNat 0) (Int32.ofNat 0) = _
  refine (pl_fold (L := fun f x k => m_X5_permitsNaming_4L I f t (Int32.ofNat v) (Int32.ofNat x) (Int32.ofNat k)) (n := pv N 2) (g := fun k x => x + (if bt (N (160 + 46 * k + 24)) v = true then 1 else 0)) (E := fun x => some (Int32.ofNat x)) ?_ ?_ (by omega) 0).trans ?_
  · intro f x k hk
    have hP := hT.2.2.2.2.2.2.1 k hk
    show m_X5_permitsNaming_4 I _ _ _ _ _ = _
    unfold m_X5_permitsNaming_4 m_X5_permitsNaming_31
    rw [hT.2.2.1, h0.1, if_neg (by first | exact pl_inl (by omega) (by omega) | exact (pl_le (by omega) (by omega)).mpr (by omega) | exact mt (pl_le (by omega) (by omega)).mp (by omega) | exact (pl_lt (by omega) (by omega)).mpr (by omega) | exact mt (pl_lt (by omega) (by omega)).mp (by omega) | exact (pl_eq (by omega) (by omega)).mpr (by omega) | exact mt (pl_eq (by omega) (by omega)).mp (by omega) | exact (pl_neg1 (by omega)).mp | exact (pl_neg1' (by omega)).mp | assumption | omega | rfl | decide), if_pos (show po_in (Int32.ofNat k) 10 = true from pl_inl (by omega) (by omega)), pl_clamp (by omega), hP.nam, show Int32.ofNat k + 1 = Int32.ofNat (k + 1) from pl_add k 1, show Int32.ofNat x + 1 = Int32.ofNat (x + 1) from pl_add x 1]
    by_cases h : bt (N (160 + 46 * k + 24)) v = false
    · rw [if_pos ((bt_test _ hv).mpr h), h]; rfl
    · rw [if_neg (mt (bt_test _ hv).mp h), if_pos (by simpa using h)]
  · intro f x
    show m_X5_permitsNaming_4 I _ _ _ _ _ = _
    unfold m_X5_permitsNaming_4
    rw [hT.2.2.1, h0.1, if_pos (by first | exact pl_inl (by omega) (by omega) | exact (pl_le (by omega) (by omega)).mpr (by omega) | exact mt (pl_le (by omega) (by omega)).mp (by omega) | exact (pl_lt (by omega) (by omega)).mpr (by omega) | exact mt (pl_lt (by omega) (by omega)).mp (by omega) | exact (pl_eq (by omega) (by omega)).mpr (by omega) | exact mt (pl_eq (by omega) (by omega)).mp (by omega) | exact (pl_neg1 (by omega)).mp | exact (pl_neg1' (by omega)).mp | assumption | omega | rfl | decide)]
  · rw [pc_fold, Nat.zero_add]
end QW
