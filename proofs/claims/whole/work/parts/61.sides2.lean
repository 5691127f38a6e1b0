section QT
variable {I : po_I} {M k : Nat}
theorem psum_pc (p : Nat → Nat → Bool) (n : Nat) : ∀ m, psum (fun d => pc (p d) n) m = psum (fun k => psum (fun d => if p d k = true then 1 else 0) m) n
  | 0 => by
    rw [psum]
    induction n with
    | zero => rfl
    | succ n ih => rw [psum, ← ih]; rfl
  | m + 1 => by
    rw [psum, psum_pc p n m, pc_psum (p m) n, ← psum_add]
    rfl
theorem q_sides (hV : pV (I (M + 1))) (hk : k < pv (I (M + 1)) 1) : m_X8_sides I M (Int32.ofNat k) = some (Int32.ofNat (ps_sd (pa_in (I (M + 1)) (32 + 16 * k)))) := by
  have h0' := hV.2.1.2.2
  have hP := hV.2.2.2.2.2.1 k hk
  have hin : ∀ x y, m_X8_isInLot I M (Int32.ofNat k) x y = some (pb (pa_in (I (M + 1)) (32 + 16 * k) x y)) := fun x y => q_isInLot (by omega) hP.2.2.1
  generalize pa_in (I (M + 1)) (32 + 16 * k) = S at hin ⊢
  have inner : ∀ (r4 : Nat → Int32 → Int32 → Int32 → Option Int32) (j x : Nat) (c r : Int32), m_X8_sides_26L I r4 5000 M (Int32.ofNat k) (Int32.ofNat x) (Int32.ofNat j) c r (Int32.ofNat 0) = r4 M (Int32.ofNat k) (Int32.ofNat (x + psum (fun d => if (S c r && !pnb S d c r) = true then 1 else 0) 4)) (Int32.ofNat (j + 1)) := by
    intro r4 j x c r
    cases hs : S c r with
    | false =>
      show m_X8_sides_26 I r4 _ _ _ _ _ _ _ _ = _
      unfold m_X8_sides_26 m_X8_sides_82
      rw [if_neg (show ¬ (4 : Int32) ≤ Int32.ofNat 0 by decide), hin, hs, Option.bind_some, if_pos pb_f, show Int32.ofNat j + 1 = Int32.ofNat (j + 1) from pl_add j 1]
      rfl
    | true =>
      refine (pl_fold (L := fun f x d => m_X8_sides_26L I r4 f M (Int32.ofNat k) (Int32.ofNat x) (Int32.ofNat j) c r (Int32.ofNat d)) (n := 4) (g := fun d x => x + (if (true && !pnb S d c r) = true then 1 else 0)) (E := fun x => r4 M (Int32.ofNat k) (Int32.ofNat x) (Int32.ofNat (j + 1))) ?_ ?_ (by omega) x).trans ?_
      · intro f x d hd
        show m_X8_sides_26 I r4 _ _ _ _ _ _ _ _ = _
        unfold m_X8_sides_26 m_X8_sides_74
        rw [if_neg (show ¬ (4 : Int32) ≤ Int32.ofNat d from mt (pl_le (a := 4) (by omega) (by omega)).mp (by omega)), hin, hs, Option.bind_some, if_neg (show ¬ pb true = 0 by decide), q_eastward hd, Option.bind_some, q_southward hd, Option.bind_some, hin, Option.bind_some]
        unfold pnb
        simp only [-Int32.reduceOfNat, pk_0, pk_1, pk_2, pk_3, pk_4, pk_5, pk_6, pk_7, pk_8, pk_9, pk_10, pk_11, pk_12, pk_13, pk_14, pk_15, pk_16, pk_17, pk_18, pk_19, pk_20, pk_21, pk_22, pk_23, pk_24, pk_25, pk_26, pk_27, pk_28, pk_29, pk_30, pk_31, pk_32, pk_33, pk_44, pk_45, pk_46, pk_48, pk_50, pk_57, pk_59, pk_60, pk_63, pk_67, pk_69, pk_76, pk_78, pk_79, pk_80, pk_83, pk_86, pk_87, pk_90, pk_97, pk_99, pk_100, pk_110, pk_116, pk_122, pk_126, pk_160, pk_190, pk_255, pk_280, pk_281, pk_500, pk_620, pk_668, pk_1000, pk_3340, pk_4008, pk_5000, pk_65536, pk_1000000, pk_2000000, pk_3000000, pk_252645135, pk_858993459, pk_1431655765, pl_add, pl_mul, po_let, po_hlet, Option.bind_some, Option.bind_none, Option.some.injEq, if_true, if_false, eq_self, pb_if, pb_nar, Bool.false_eq_true, Bool.true_eq_false, Bool.or_true, Bool.true_or, Bool.or_false, Bool.false_or, Bool.and_true, Bool.true_and, Bool.and_false, Bool.false_and, Nat.add_zero, Nat.mul_zero, Nat.zero_add]
        cases S (c + pdx d) (r + pdy d) <;> rfl
      · intro f x
        show m_X8_sides_26 I r4 _ _ _ _ _ _ _ _ = _
        unfold m_X8_sides_26 m_X8_sides_82
        rw [if_pos (show (4 : Int32) ≤ Int32.ofNat 4 by decide), show Int32.ofNat j + 1 = Int32.ofNat (j + 1) from pl_add j 1]
      · rw [psum_fold (fun d => if (true && !pnb S d c r) = true then 1 else 0)]
  show m_X8_sides_4L I 5000 M (Int32.ofNat k) (Int32.ofNat 0) (Int32.ofNat 0) = _
  refine (pl_fold (L := fun f x j => m_X8_sides_4L I f M (Int32.ofNat k) (Int32.ofNat x) (Int32.ofNat j)) (n := 280) (g := fun j x => x + psum (fun d => if (S (Int32.ofNat (j % 20)) (Int32.ofNat (j / 20)) && !pnb S d (Int32.ofNat (j % 20)) (Int32.ofNat (j / 20))) = true then 1 else 0) 4) (E := fun x => some (Int32.ofNat x)) ?_ ?_ (by omega) 0).trans ?_
  · intro f x j hj
    show m_X8_sides_4 I _ _ _ _ _ = _
    unfold m_X8_sides_4 po_let
    rw [if_neg (show ¬ (280 : Int32) ≤ Int32.ofNat j from mt (pl_le (a := 280) (by omega) (by omega)).mp (by omega)), pk_20, pl_xy (by omega), pl_div (by omega) (by omega)]
    exact inner _ j x _ _
  · intro f x
    rfl
  · rw [psum_fold, Nat.zero_add]
    unfold ps_sd ps_n
    rw [psum_pc (fun d j => S (Int32.ofNat (j % 20)) (Int32.ofNat (j / 20)) && !pnb S d (Int32.ofNat (j % 20)) (Int32.ofNat (j / 20))) 280 4]
end QT
