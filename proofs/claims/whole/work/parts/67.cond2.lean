section QY
variable {I : po_I} {M p i t P : Nat} {N : po_N}
def ps_ho (N : po_N) (p j : Nat) (v : Int32) (i : Nat) : Bool := decide (ps_cp N p i 2 = 1) && decide (Int32.ofNat (ps_cp N p i j) = v)
theorem q_hasOpen {j : Nat} {v : Int32} (hV : pV (I (M + 1))) (hp : p < pv (I (M + 1)) 2) (hj : j < 3) : m_X8_hasOpen I M (Int32.ofNat p) (Int32.ofNat j) v = some (pb (pany (ps_ho (I (M + 1)) p j v) (ps_cm (I (M + 1)) p))) := by
  have hP := hV.2.2.2.2.2.2.1 p hp
  have hc := hP.2.2.2.2.2.2.2.2.2.2.2.1
  have hc' : ps_cm (I (M + 1)) p ≤ 6 := hc.2.2
  show m_X8_hasOpen_6L I 5000 M (Int32.ofNat p) (Int32.ofNat j) v (pb false) (Int32.ofNat 0) = _
  refine (pl_fold (L := fun f x k => m_X8_hasOpen_6L I f M (Int32.ofNat p) (Int32.ofNat j) v (pb x) (Int32.ofNat k)) (n := ps_cm (I (M + 1)) p) (g := fun k x => x || ps_ho (I (M + 1)) p j v k) (E := fun x => some (pb x)) ?_ ?_ (by omega) false).trans ?_
  · intro f x k hk
    have h2 : ps_cp (I (M + 1)) p k 2 < 2 := by
      unfold ps_cp
      rw [if_neg (by omega), if_neg (by omega)]
      omega
    show m_X8_hasOpen_6 I _ _ _ _ _ _ _ = _
    unfold m_X8_hasOpen_6 m_X8_hasOpen_45 m_X8_hasOpen_49 m_X8_hasOpen_50
    rw [q_conditionMany hV hp, Option.bind_some, if_neg (by first | exact pl_inl (by omega) (by omega) | exact (pl_le (by omega) (by omega)).mpr (by omega) | exact mt (pl_le (by omega) (by omega)).mp (by omega) | exact (pl_lt (by omega) (by omega)).mpr (by omega) | exact mt (pl_lt (by omega) (by omega)).mp (by omega) | exact (pl_eq (by omega) (by omega)).mpr (by omega) | exact mt (pl_eq (by omega) (by omega)).mp (by omega) | exact (pl_neg1 (by omega)).mp | exact (pl_neg1' (by omega)).mp | assumption | omega | rfl | decide), pk_2, q_conditionPart hV hp hk (by omega), Option.bind_some, q_conditionPart hV hp hk hj, Option.bind_some, show Int32.ofNat k + 1 = Int32.ofNat (k + 1) from pl_add k 1]
    unfold ps_ho
    cases x with
    | true => rw [if_neg (show ¬ pb true = 0 by decide)]; rfl
    | false =>
      rw [if_pos pb_f]
      by_cases e : ps_cp (I (M + 1)) p k 2 = 1
      · rw [e, if_pos (show Int32.ofNat 1 = 1 from rfl)]
        by_cases e2 : Int32.ofNat (ps_cp (I (M + 1)) p k j) = v
        · rw [if_pos e2, decide_eq_true e2]; rfl
        · rw [if_neg e2, decide_eq_false e2]; rfl
      · rw [if_neg (show ¬ Int32.ofNat (ps_cp (I (M + 1)) p k 2) = 1 from mt (pl_eq (b := 1) (by omega) (by omega)).mp e), decide_eq_false e]; rfl
  · intro f x
    show m_X8_hasOpen_6 I _ _ _ _ _ _ _ = _
    unfold m_X8_hasOpen_6
    rw [q_conditionMany hV hp, Option.bind_some, if_pos (by first | exact pl_inl (by omega) (by omega) | exact (pl_le (by omega) (by omega)).mpr (by omega) | exact mt (pl_le (by omega) (by omega)).mp (by omega) | exact (pl_lt (by omega) (by omega)).mpr (by omega) | exact mt (pl_lt (by omega) (by omega)).mp (by omega) | exact (pl_eq (by omega) (by omega)).mpr (by omega) | exact mt (pl_eq (by omega) (by omega)).mp (by omega) | exact (pl_neg1 (by omega)).mp | exact (pl_neg1' (by omega)).mp | assumption | omega | rfl | decide), pb_nar, if_pos rfl]
  · rw [pany_fold]; rfl
theorem x_isOpen (hi : i < 32) : m_X2_isOpen I P (Int32.ofNat i) = some (pb (bt (I P 16) i)) := by
  unfold m_X2_isOpen m_X2_isOpen_e m_X2_isOpen_16
  cases h : bt (I P 16) i with
  | false => rw [if_pos ((bt_test _ hi).mpr h), if_pos pn_0]; rfl
  | true => rw [if_neg (mt (bt_test _ hi).mp (by rw [h]; decide)), if_pos pn_1]; rfl
theorem x_openConditions (hT : pTP I P N (160 + 46 * p)) (h6 : ps_cm N p ≤ 6) : m_X2_openConditions I P = some (Int32.ofNat (psum (fun i => ps_cp N p i 2) (ps_cm N p))) := by
  unfold m_X2_openConditions m_X2_openConditions_e
  rw [q_bitCount, Option.bind_some]
  have h1 : pc (bt (I P 16)) 32 = pc (bt (I P 16)) (ps_cm N p) := by
    rw [show (32 : Nat) = ps_cm N p + (32 - ps_cm N p) by omega, pc_add, pc_false (n := 32 - ps_cm N p) (fun k hk => (hT.cnd (ps_cm N p + k) (by omega)).2 (Nat.le_add_right _ _)), Nat.add_zero]
  have h2 : pc (bt (I P 16)) (ps_cm N p) = psum (fun i => ps_cp N p i 2) (ps_cm N p) := by
    rw [pc_psum]
    refine psum_congr (fun k hk => ?_)
    have h3 := ((hT.cnd k (by omega)).1 hk).1
    have h4 : ps_cp N p k 2 = pv N (160 + 46 * p + 29 + k) % 2 := by
      unfold ps_cp
      rw [if_neg (by omega), if_neg (by omega)]
    rw [h3, h4]
    by_cases e : pv N (160 + 46 * p + 29 + k) % 2 = 1
    · rw [decide_eq_true e, if_pos rfl, e]
    · rw [decide_eq_false e, if_neg (by decide)]; omega
  rw [h1, h2]
end QY
