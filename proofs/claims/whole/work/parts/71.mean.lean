section QA2
theorem pf_asm (s : Bool) (e t : Nat) (he : e ≤ 255) (ht : t < 8388608) (h : e = 255 → t = 0) : FP.Core.assemble FP.Core.b32 s e t < 4294967296 ∧ FP.Core.assemble FP.Core.b32 s e t % 2147483648 ≤ 2139095040 := by
  have e1 : FP.Core.assemble FP.Core.b32 s e t = (s.toNat * 256 + e) * 8388608 + t := rfl
  rw [e1]
  cases s
  · show (0 * 256 + e) * 8388608 + t < _ ∧ ((0 * 256 + e) * 8388608 + t) % _ ≤ _
    omega
  · show (1 * 256 + e) * 8388608 + t < _ ∧ ((1 * 256 + e) * 8388608 + t) % _ ≤ _
    omega
theorem pf_inf (s : Bool) : FP.Core.encode FP.Core.b32 (.inf s) < 4294967296 ∧ FP.Core.encode FP.Core.b32 (.inf s) % 2147483648 ≤ 2139095040 := pf_asm s 255 0 (by omega) (by omega) (fun _ => rfl)
theorem pf_fin (s : Bool) (c : Nat) (q : Int) (hc : c < 16777216) (h1 : -149 ≤ q) (h2 : q ≤ 104) : FP.Core.encode FP.Core.b32 (.fin s c q) < 4294967296 ∧ FP.Core.encode FP.Core.b32 (.fin s c q) % 2147483648 ≤ 2139095040 := by
  have e1 : FP.Core.encode FP.Core.b32 (.fin s c q) = if c < 8388608 then FP.Core.assemble FP.Core.b32 s 0 c else FP.Core.assemble FP.Core.b32 s ((q - (-149)).toNat + 1) (c - 8388608) := rfl
  rw [e1]
  by_cases h : c < 8388608
  · rw [if_pos h]
    exact pf_asm s 0 c (by omega) h (fun h => by omega)
  · rw [if_neg h]
    exact pf_asm s _ _ (by omega) (by omega) (fun h => by omega)
theorem pf_bound (s : Bool) (c : Nat) (q : Int) (hc : c < 16777216) (h1 : -149 ≤ q) : FP.Core.encode FP.Core.b32 (FP.Core.bound FP.Core.b32 s c q) < 4294967296 ∧ FP.Core.encode FP.Core.b32 (FP.Core.bound FP.Core.b32 s c q) % 2147483648 ≤ 2139095040 := by
  have e1 : FP.Core.bound FP.Core.b32 s c q = if q ≤ 104 then .fin s c q else .inf s := rfl
  rw [e1]
  by_cases h : q ≤ 104
  · rw [if_pos h]; exact pf_fin s c q hc h1 h
  · rw [if_neg h]; exact pf_inf s
theorem pf_rr (s : Bool) (a b : Nat) (e : Int) : FP.Core.encode FP.Core.b32 (FP.Core.roundRatio FP.Core.b32 s a b e) < 4294967296 ∧ FP.Core.encode FP.Core.b32 (FP.Core.roundRatio FP.Core.b32 s a b e) % 2147483648 ≤ 2139095040 := by
  unfold FP.Core.roundRatio
  by_cases h : a = 0
  · have e0 : FP.Core.Fmt.qmin FP.Core.b32 = -149 := rfl
    rw [if_pos h, e0]
    exact pf_fin s 0 (-149) (by omega) (by omega) (by omega)
  · rw [if_neg h]
    have hq : -149 ≤ FP.Core.quantum FP.Core.b32 a b e := by
      show -149 ≤ max (-149) _
      omega
    unfold FP.Core.roundAt FP.Core.settle
    split
    · rename_i h2
      exact pf_bound s _ _ h2 hq
    · exact pf_bound s 8388608 _ (by omega) (by omega)
theorem pf_dec {n : Nat} (h : n % 2147483648 ≤ 2139095040) : ¬ FP.Core.decode FP.Core.b32 n = .nan := by
  unfold FP.Core.decode
  have e1 : FP.Core.fieldE FP.Core.b32 n = n / 8388608 % 256 := rfl
  have e2 : FP.Core.fieldT FP.Core.b32 n = n % 8388608 := rfl
  have e3 : FP.Core.Fmt.exps FP.Core.b32 - 1 = 255 := rfl
  rw [e1, e2, e3]
  by_cases h1 : n / 8388608 % 256 = 255
  · rw [if_pos h1, if_pos (by omega)]
    exact FP.Core.Datum.noConfusion
  · rw [if_neg h1]
    split <;> exact FP.Core.Datum.noConfusion
theorem pf_i2f (x : Int32) : ¬ FP.Core.decode FP.Core.b32 (FP.i2f x).toNat = .nan := by
  have h := pf_rr (decide (x.toInt < 0)) x.toInt.natAbs 1 0
  have e1 : (FP.i2f x).toNat = FP.Core.encode FP.Core.b32 (FP.Core.roundRatio FP.Core.b32 (decide (x.toInt < 0)) x.toInt.natAbs 1 0) := by
    show (UInt32.ofNat (FP.Core.encode FP.Core.b32 (FP.Core.roundRatio FP.Core.b32 (decide (x.toInt < 0)) x.toInt.natAbs 1 0))).toNat = _
    rw [UInt32.toNat_ofNat']
    exact Nat.mod_eq_of_lt h.1
  rw [e1]
  exact pf_dec h.2
theorem pf_ten {k : Nat} (h1 : 0 < k) (h2 : k < 11) : ∃ t d r, FP.Core.decode FP.Core.b32 (FP.i2f (Int32.ofNat k)).toNat = .fin t d r ∧ ¬ d = 0 := by
  have h : ∀ k, k < 11 → 0 < k → (match FP.Core.decode FP.Core.b32 (FP.i2f (Int32.ofNat k)).toNat with
    | .fin _ d _ => !decide (d = 0)
    | _ => false) = true := by decide +kernel
  have h3 := h k h2 h1
  cases e : FP.Core.decode FP.Core.b32 (FP.i2f (Int32.ofNat k)).toNat with
  | nan => rw [e] at h3; cases h3
  | inf s => rw [e] at h3; cases h3
  | fin t d r =>
    rw [e] at h3
    exact ⟨t, d, r, rfl, by simpa using h3⟩
theorem pf_div (x : Int32) {k : Nat} (h1 : 0 < k) (h2 : k < 11) : vf_n32 (FP.fdiv (FP.i2f x) (FP.i2f (Int32.ofNat k))) := by
  obtain ⟨t, d, r, e1, e2⟩ := pf_ten h1 h2
  have e3 := pf_i2f x
  have key : FP.Core.encode FP.Core.b32 (FP.Core.quotient FP.Core.b32 (FP.Core.decode FP.Core.b32 (FP.i2f x).toNat) (.fin t d r)) < 4294967296 ∧ FP.Core.encode FP.Core.b32 (FP.Core.quotient FP.Core.b32 (FP.Core.decode FP.Core.b32 (FP.i2f x).toNat) (.fin t d r)) % 2147483648 ≤ 2139095040 := by
    cases e : FP.Core.decode FP.Core.b32 (FP.i2f x).toNat with
    | nan => exact absurd e e3
    | inf s => exact pf_inf _
    | fin s c q =>
      have e5 : FP.Core.quotient FP.Core.b32 (.fin s c q) (.fin t d r) = if d = 0 then (if c = 0 then .nan else .inf (s != t)) else FP.Core.roundRatio FP.Core.b32 (s != t) c d (q - r) := rfl
      rw [e5, if_neg e2]
      exact pf_rr _ _ _ _
  have e4 : (FP.fdiv (FP.i2f x) (FP.i2f (Int32.ofNat k))).toNat = FP.Core.encode FP.Core.b32 (FP.Core.quotient FP.Core.b32 (FP.Core.decode FP.Core.b32 (FP.i2f x).toNat) (.fin t d r)) := by
    rw [← e1]
    show (UInt32.ofNat (FP.Core.encode FP.Core.b32 (FP.Core.quotient FP.Core.b32 (FP.Core.decode FP.Core.b32 (FP.i2f x).toNat) (FP.Core.decode FP.Core.b32 (FP.i2f (Int32.ofNat k)).toNat)))).toNat = _
    rw [UInt32.toNat_ofNat']
    rw [e1]
    exact Nat.mod_eq_of_lt key.1
  unfold vf_n32
  rw [UInt32.le_iff_toNat_le, UInt32.toNat_and, e4]
  show _ &&& (2 ^ 31 - 1) ≤ 2139095040
  rw [Nat.and_two_pow_sub_one_eq_mod]
  exact key.2
variable {I : po_I} {M o : Nat} {N : po_N}
def ps_ms (N : po_N) : Int32 := pz (fun k => if ps_st N k = true then ps_fa N k else 0) (pv N 2)
def ps_mc (N : po_N) : Nat := pc (ps_st N) (pv N 2)
theorem x_mean (hV : pV N) (hT : pTR I (o + 8) N) : m_X7_meanFloorArea I o = some (if ps_mc N = 0 then .inr "java/lang/ArithmeticException" else .inl (FP.fdiv (FP.i2f (ps_ms N)) (FP.i2f (Int32.ofNat (ps_mc N))))) := by
  have h0 := hV.2.2.1
  have h0' := h0.2.2
  have hc : ps_mc N ≤ pv N 2 := pc_le _ _
  have hf : ∀ n, pfold (fun k (y : Int32 × Nat) => (y.1 + (if ps_st N k = true then ps_fa N k else 0), y.2 + (if ps_st N k = true then 1 else 0))) n ((0 : Int32), 0) = (pz (fun k => if ps_st N k = true then ps_fa N k else 0) n, pc (ps_st N) n) := by
    intro n
    induction n with
    | zero => rfl
    | succ n ih => rw [pfold, ih]; rfl
  show m_X7_meanFloorArea_6L I 5000 o 0 (Int32.ofNat 0) (Int32.ofNat 0) = _
  refine (pl_fold (L := fun f (y : Int32 × Nat) k => m_X7_meanFloorArea_6L I f o y.1 (Int32.ofNat y.2) (Int32.ofNat k)) (n := pv N 2) (g := fun k y => (y.1 + (if ps_st N k = true then ps_fa N k else 0), y.2 + (if ps_st N k = true then 1 else 0))) (E := fun y => if Int32.ofNat y.2 = 0 then some (.inr "java/lang/ArithmeticException") else po_gn (vf_n32 (FP.fdiv (FP.i2f y.1) (FP.i2f (Int32.ofNat y.2)))) (some (.inl (FP.fdiv (FP.i2f y.1) (FP.i2f (Int32.ofNat y.2)))))) ?_ ?_ (by omega) (0, 0)).trans ?_
  · intro f y k hk
    have hP := hT.per hk
    show m_X7_meanFloorArea_6 I _ _ _ _ _ = _
    unfold m_X7_meanFloorArea_6 m_X7_meanFloorArea_50
    simp only [po_let]
    rw [hT.2.2.1, h0.1, if_neg (by first | exact pl_inl (by omega) (by omega) | exact (pl_le (by omega) (by omega)).mpr (by omega) | exact mt (pl_le (by omega) (by omega)).mp (by omega) | exact (pl_lt (by omega) (by omega)).mpr (by omega) | exact mt (pl_lt (by omega) (by omega)).mp (by omega) | exact (pl_eq (by omega) (by omega)).mpr (by omega) | exact mt (pl_eq (by omega) (by omega)).mp (by omega) | exact (pl_neg1 (by omega)).mp | exact (pl_neg1' (by omega)).mp | assumption | omega | rfl | decide), if_pos (show po_in (Int32.ofNat k) 10 = true from pl_inl (by omega) (by omega)), if_pos (show po_in (Int32.ofNat k) 10 = true from pl_inl (by omega) (by omega)), pl_clamp (by omega), x_stands hP, Option.bind_some, x_floorArea hP, Option.bind_some, show Int32.ofNat k + 1 = Int32.ofNat (k + 1) from pl_add k 1, show Int32.ofNat y.2 + 1 = Int32.ofNat (y.2 + 1) from pl_add y.2 1]
    cases ps_st N k
    · rw [if_pos pb_f, if_neg (by decide), if_neg (by decide), Int32.add_zero]; rfl
    · rw [if_neg (show ¬ pb true = 0 by decide), if_pos rfl, if_pos rfl]
  · intro f y
    show m_X7_meanFloorArea_6 I _ _ _ _ _ = _
    unfold m_X7_meanFloorArea_6
    rw [hT.2.2.1, h0.1, if_pos (by first | exact pl_inl (by omega) (by omega) | exact (pl_le (by omega) (by omega)).mpr (by omega) | exact mt (pl_le (by omega) (by omega)).mp (by omega) | exact (pl_lt (by omega) (by omega)).mpr (by omega) | exact mt (pl_lt (by omega) (by omega)).mp (by omega) | exact (pl_eq (by omega) (by omega)).mpr (by omega) | exact mt (pl_eq (by omega) (by omega)).mp (by omega) | exact (pl_neg1 (by omega)).mp | exact (pl_neg1' (by omega)).mp | assumption | omega | rfl | decide)]
  · rw [hf]
    show (if Int32.ofNat (ps_mc N) = 0 then some (Sum.inr "java/lang/ArithmeticException") else po_gn (vf_n32 (FP.fdiv (FP.i2f (ps_ms N)) (FP.i2f (Int32.ofNat (ps_mc N))))) (some (Sum.inl (FP.fdiv (FP.i2f (ps_ms N)) (FP.i2f (Int32.ofNat (ps_mc N))))))) = _
    by_cases e : ps_mc N = 0
    · rw [if_pos e, if_pos (show Int32.ofNat (ps_mc N) = 0 by rw [e]; rfl)]
    · rw [if_neg e, if_neg (show ¬ Int32.ofNat (ps_mc N) = 0 from mt (pl_eq (b := 0) (by omega) (by omega)).mp e)]
      unfold po_gn
      rw [if_pos (pf_div _ (by omega) (by omega))]
theorem q_mean15 (hV : pV (I (M + 1))) : m_X8_meanFloorArea_15L 5000 I M (Int32.ofNat (ps_mc (I (M + 1)))) 0 (Int32.ofNat 0) = if ps_mc (I (M + 1)) = 0 then some (FP.i2f 0, po_u I M 0 1) else some (FP.fdiv (FP.i2f (ps_ms (I (M + 1)))) (FP.i2f (Int32.ofNat (ps_mc (I (M + 1))))), I) := by
  have h0 := hV.2.2.1
  have h0' := h0.2.2
  have hc : ps_mc (I (M + 1)) ≤ pv (I (M + 1)) 2 := pc_le _ _
  refine (pl_fold (L := fun f y k => m_X8_meanFloorArea_15L f I M (Int32.ofNat (ps_mc (I (M + 1)))) y (Int32.ofNat k)) (n := pv (I (M + 1)) 2) (g := fun k y => y + (if ps_st (I (M + 1)) k = true then ps_fa (I (M + 1)) k else 0)) (E := fun y => if Int32.ofNat (ps_mc (I (M + 1))) = 0 then some (FP.i2f 0, po_u I M 0 1) else po_gn (vf_n32 (FP.fdiv (FP.i2f y) (FP.i2f (Int32.ofNat (ps_mc (I (M + 1))))))) (some (FP.fdiv (FP.i2f y) (FP.i2f (Int32.ofNat (ps_mc (I (M + 1))))), I))) ?_ ?_ (by omega) 0).trans ?_
  · intro f y k hk
    have hP := hV.per hk
    show m_X8_meanFloorArea_15 _ _ _ _ _ _ = _
    unfold m_X8_meanFloorArea_15 m_X8_meanFloorArea_43
    simp only [po_let]
    rw [h0.1, if_neg (by first | exact pl_inl (by omega) (by omega) | exact (pl_le (by omega) (by omega)).mpr (by omega) | exact mt (pl_le (by omega) (by omega)).mp (by omega) | exact (pl_lt (by omega) (by omega)).mpr (by omega) | exact mt (pl_lt (by omega) (by omega)).mp (by omega) | exact (pl_eq (by omega) (by omega)).mpr (by omega) | exact mt (pl_eq (by omega) (by omega)).mp (by omega) | exact (pl_neg1 (by omega)).mp | exact (pl_neg1' (by omega)).mp | assumption | omega | rfl | decide), q_stands (by omega), Option.bind_some, q_floorArea (by omega) hP.2.2.2.1.1, Option.bind_some, show Int32.ofNat k + 1 = Int32.ofNat (k + 1) from pl_add k 1]
    cases ps_st (I (M + 1)) k <;> rfl
  · intro f y
    show m_X8_meanFloorArea_15 _ _ _ _ _ _ = _
    unfold m_X8_meanFloorArea_15 m_X8_meanFloorArea_69
    rw [h0.1, if_pos (by first | exact pl_inl (by omega) (by omega) | exact (pl_le (by omega) (by omega)).mpr (by omega) | exact mt (pl_le (by omega) (by omega)).mp (by omega) | exact (pl_lt (by omega) (by omega)).mpr (by omega) | exact mt (pl_lt (by omega) (by omega)).mp (by omega) | exact (pl_eq (by omega) (by omega)).mpr (by omega) | exact mt (pl_eq (by omega) (by omega)).mp (by omega) | exact (pl_neg1 (by omega)).mp | exact (pl_neg1' (by omega)).mp | assumption | omega | rfl | decide)]
    rfl
  · rw [pz_fold, Int32.zero_add]
    by_cases e : ps_mc (I (M + 1)) = 0
    · rw [if_pos e, if_pos (show Int32.ofNat (ps_mc (I (M + 1))) = 0 by rw [e]; rfl)]
    · rw [if_neg e, if_neg (show ¬ Int32.ofNat (ps_mc (I (M + 1))) = 0 from mt (pl_eq (b := 0) (by omega) (by omega)).mp e)]
      unfold po_gn
      rw [if_pos (pf_div _ (by omega) (by omega))]
      rfl
end QA2
