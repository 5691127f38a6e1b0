section QX
variable {I : po_I} {M p i : Nat}
/-- a part of a condition -/
def ps_cp (N : po_N) (p i j : Nat) : Nat := if j = 0 then pv N (160 + 46 * p + 29 + i) / 1000 else if j = 1 then pv N (160 + 46 * p + 29 + i) / 2 % 500 else pv N (160 + 46 * p + 29 + i) % 2
def ps_cm (N : po_N) (p : Nat) : Nat := pv N (160 + 46 * p + 45)
theorem q_conditionMany (hV : pV (I (M + 1))) (hp : p < pv (I (M + 1)) 2) : m_X8_conditionMany I M (Int32.ofNat p) = some (Int32.ofNat (ps_cm (I (M + 1)) p)) := by
  have h0' := hV.2.2.1.2.2
  have hP := hV.2.2.2.2.2.2.1 p hp
  unfold m_X8_conditionMany m_X8_conditionMany_e
  rw [pk_45, q_at (by omega), Option.bind_some, hP.2.2.2.2.2.2.2.2.2.2.2.1.1]
  rfl
theorem q_conditionPart {j : Nat} (hV : pV (I (M + 1))) (hp : p < pv (I (M + 1)) 2) (hi : i < ps_cm (I (M + 1)) p) (hj : j < 3) : m_X8_conditionPart I M (Int32.ofNat p) (Int32.ofNat i) (Int32.ofNat j) = some (Int32.ofNat (ps_cp (I (M + 1)) p i j)) := by
  have h0' := hV.2.2.1.2.2
  have hP := hV.2.2.2.2.2.2.1 p hp
  have hc := hP.2.2.2.2.2.2.2.2.2.2.2.1
  have hc' : ps_cm (I (M + 1)) p ≤ 6 := hc.2.2
  have hx := hP.2.2.2.2.2.2.2.2.2.2.2.2.2.2 i hi
  have hx2 := hx.2.2
  unfold m_X8_conditionPart m_X8_conditionPart_e m_X8_conditionPart_44 ps_cp
  rw [pk_29, pl_add, q_at (by omega), Option.bind_some, show 160 + 46 * p + (29 + i) = 160 + 46 * p + 29 + i by omega, hx.1]
  rcases (by omega : j = 0 ∨ j = 1 ∨ j = 2) with h | h | h <;> subst h
  · rw [if_pos (by decide), if_pos rfl, pk_1000, pl_div (by omega) (by omega)]
  · rw [if_neg (by decide), if_pos (by decide), if_neg (by decide), if_pos rfl, pk_2, pk_500, pl_div (by omega) (by omega), pl_div (by omega) (by omega), pl_mul, pl_sub (by omega), show pv (I (M + 1)) (160 + 46 * p + 29 + i) / 2 - pv (I (M + 1)) (160 + 46 * p + 29 + i) / 2 / 500 * 500 = pv (I (M + 1)) (160 + 46 * p + 29 + i) / 2 % 500 by omega]
  · rw [if_neg (by decide), if_neg (by decide), if_neg (by decide), if_neg (by decide), pk_2, pl_div (by omega) (by omega), pl_mul, pl_sub (by omega), show pv (I (M + 1)) (160 + 46 * p + 29 + i) - pv (I (M + 1)) (160 + 46 * p + 29 + i) / 2 * 2 = pv (I (M + 1)) (160 + 46 * p + 29 + i) % 2 by omega]
theorem q_openConditions (hV : pV (I (M + 1))) (hp : p < pv (I (M + 1)) 2) : m_X8_openConditions I M (Int32.ofNat p) = some (Int32.ofNat (psum (fun i => ps_cp (I (M + 1)) p i 2) (ps_cm (I (M + 1)) p))) := by
  have hP := hV.2.2.2.2.2.2.1 p hp
  have hc := hP.2.2.2.2.2.2.2.2.2.2.2.1
  have hc' : ps_cm (I (M + 1)) p ≤ 6 := hc.2.2
  show m_X8_openConditions_4L I 5000 M (Int32.ofNat p) (Int32.ofNat 0) (Int32.ofNat 0) = _
  refine (pl_fold (L := fun f x k => m_X8_openConditions_4L I f M (Int32.ofNat p) (Int32.ofNat x) (Int32.ofNat k)) (n := ps_cm (I (M + 1)) p) (g := fun k x => x + ps_cp (I (M + 1)) p k 2) (E := fun x => some (Int32.ofNat x)) ?_ ?_ (by omega) 0).trans ?_
  · intro f x k hk
    show m_X8_openConditions_4 I _ _ _ _ _ = _
    unfold m_X8_openConditions_4
    rw [q_conditionMany hV hp, Option.bind_some, if_neg (by first | exact pl_inl (by omega) (by omega) | exact (pl_le (by omega) (by omega)).mpr (by omega) | exact mt (pl_le (by omega) (by omega)).mp (by omega) | exact (pl_lt (by omega) (by omega)).mpr (by omega) | exact mt (pl_lt (by omega) (by omega)).mp (by omega) | exact (pl_eq (by omega) (by omega)).mpr (by omega) | exact mt (pl_eq (by omega) (by omega)).mp (by omega) | exact (pl_neg1 (by omega)).mp | exact (pl_neg1' (by omega)).mp | assumption | omega | rfl | decide), pk_2, q_conditionPart hV hp hk (by omega), Option.bind_some]
    simp only [po_let]
    rw [pl_add, show Int32.ofNat k + 1 = Int32.ofNat (k + 1) from pl_add k 1]
  · intro f x
    show m_X8_openConditions_4 I _ _ _ _ _ = _
    unfold m_X8_openConditions_4
    rw [q_conditionMany hV hp, Option.bind_some, if_pos (by first | exact pl_inl (by omega) (by omega) | exact (pl_le (by omega) (by omega)).mpr (by omega) | exact mt (pl_le (by omega) (by omega)).mp (by omega) | exact (pl_lt (by omega) (by omega)).mpr (by omega) | exact mt (pl_lt (by omega) (by omega)).mp (by omega) | exact (pl_eq (by omega) (by omega)).mpr (by omega) | exact mt (pl_eq (by omega) (by omega)).mp (by omega) | exact (pl_neg1 (by omega)).mp | exact (pl_neg1' (by omega)).mp | assumption | omega | rfl | decide)]
  · rw [psum_fold, Nat.zero_add]
end QX
