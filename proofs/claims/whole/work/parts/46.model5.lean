section QF
variable {I : po_I} {M : Nat}
/-- what find keeps: found, relieved, usedSet, usedMany -/
def ps_fs (N : po_N) (p : Nat) (k : Nat) (q : Int32 × Int32 × Int32 × Int32) : Int32 × Int32 × Int32 × Int32 :=
  if pw (Int32.ofNat k) (ps_me N p k) (ps_li N p k) = true then (match ps_us N p k with
    | none => (q.1 ||| (1 <<< (Int32.ofNat k &&& 31)), q.2)
    | some v => (q.1 ||| (1 <<< (Int32.ofNat k &&& 31)), q.2.1 ||| (1 <<< (Int32.ofNat k &&& 31)), q.2.2.1 ||| (1 <<< (Int32.ofNat v &&& 31)), q.2.2.2 + 1)) else q
def ps_fi (N : po_N) (p : Nat) : Int32 × Int32 × Int32 × Int32 := pfold (ps_fs N p) 9 (0, 0, 0, 0)
theorem ps_us_lt {N : po_N} {p k v : Nat} (h : ps_us N p k = some v) : v < pv N 3 ∧ ps_can N p k v = true := by
  have h1 : ∀ n w, pfold (ps_bet N p k) n none = some w → w < n ∧ ps_can N p k w = true := by
    intro n
    induction n with
    | zero => intro w hw; cases hw
    | succ n ih =>
      intro w hw
      rw [pfold] at hw
      unfold ps_bet at hw
      split at hw
      · rename_i hc
        split at hw
        · obtain rfl := Option.some.inj hw; exact ⟨by omega, hc⟩
        · rename_i u hu
          split at hw
          · obtain rfl := Option.some.inj hw; exact ⟨by omega, hc⟩
          · obtain rfl := Option.some.inj hw; have := ih _ hu; exact ⟨by omega, this.2⟩
      · have := ih _ hw; exact ⟨by omega, this.2⟩
  exact h1 _ _ h
/-- the same but for some fields of M -/
def pm_o (I I' : po_I) (M : Nat) (js : List Nat) : Prop := (∀ b, b ≠ M → I' b = I b) ∧ ∀ j, j ∉ js → I' M j = I M j
theorem pm_o.row {I I' : po_I} {M : Nat} {js : List Nat} (h : pm_o I I' M js) : I' (M + 1) = I (M + 1) := h.1 _ (by omega)
theorem pm_o.rf {I : po_I} {M : Nat} {js : List Nat} : pm_o I I M js := ⟨fun _ _ => rfl, fun _ _ => rfl⟩
theorem pm_o.u {I I' : po_I} {M j : Nat} {js : List Nat} {v : Int32} (h : pm_o I I' M js) (hj : j ∈ js) : pm_o I (po_u I' M j v) M js := by
  refine ⟨fun b hb => by rw [po_u_ne hb]; exact h.1 b hb, fun i hi => ?_⟩
  rw [po_uu, if_neg (by rintro ⟨_, rfl⟩; exact hi hj)]
  exact h.2 i hi
theorem q_find {p : Nat} (hV : pV (I (M + 1))) (hp : p < pv (I (M + 1)) 2) : ∃ I', m_X8_find I M (Int32.ofNat p) = some I' ∧ pm_o I I' M [7, 8, 9, 10] ∧ (I' M 7, I' M 8, I' M 9, I' M 10) = ps_fi (I (M + 1)) p := by
  unfold m_X8_find m_X8_find_e po_hlet
  refine po_inv (L := fun f (J : po_I) k => m_X8_find_22L f J M (Int32.ofNat p) (Int32.ofNat k)) (n := 9) (fun k J => pm_o I J M [7, 8, 9, 10] ∧ (J M 7, J M 8, J M 9, J M 10) = pfold (ps_fs (I (M + 1)) p) k (0, 0, 0, 0)) (fun t => ∃ I', t = some I' ∧ pm_o I I' M [7, 8, 9, 10] ∧ (I' M 7, I' M 8, I' M 9, I' M 10) = ps_fi (I (M + 1)) p) ?_ ?_ 9 5000 _ 0 (by omega) (by omega) ⟨(((pm_o.rf.u (by simp)).u (by simp)).u (by simp)).u (by simp), ?_⟩
  · intro f J k hk hJ
    left
    have hr := hJ.1.row
    have hV' : pV (J (M + 1)) := by rw [hr]; exact hV
    have hp' : p < pv (J (M + 1)) 2 := by rw [hr]; exact hp
    have h2 : (J M 7, J M 8, J M 9, J M 10) = pfold (ps_fs (I (M + 1)) p) k (Int32.ofNat 0, Int32.ofNat 0, Int32.ofNat 0, Int32.ofNat 0) := hJ.2
    show ∃ s', _ ∧ m_X8_find_22 (m_X8_find_22L f) J M (Int32.ofNat p) (Int32.ofNat k) = _
    unfold m_X8_find_22 m_X8_find_117
    simp only [-Int32.reduceOfNat, pk_0, pk_1, pk_2, pk_3, pk_4, pk_5, pk_6, pk_7, pk_8, pk_9, pk_10, pk_11, pk_12, pk_13, pk_14, pk_15, pk_16, pk_17, pk_18, pk_19, pk_20, pk_21, pk_22, pk_23, pk_24, pk_25, pk_26, pk_27, pk_28, pk_29, pk_30, pk_31, pk_32, pk_33, pk_44, pk_45, pk_46, pk_48, pk_50, pk_57, pk_59, pk_60, pk_63, pk_67, pk_69, pk_76, pk_78, pk_79, pk_80, pk_83, pk_86, pk_87, pk_90, pk_97, pk_99, pk_100, pk_110, pk_116, pk_122, pk_126, pk_160, pk_190, pk_255, pk_280, pk_281, pk_500, pk_620, pk_668, pk_1000, pk_3340, pk_4008, pk_5000, pk_65536, pk_1000000, pk_2000000, pk_3000000, pk_252645135, pk_858993459, pk_1431655765, pl_add, pl_mul]
    rw [if_neg (by first | exact pl_inl (by omega) (by omega) | exact (pl_le (by omega) (by omega)).mpr (by omega) | exact mt (pl_le (by omega) (by omega)).mp (by omega) | exact (pl_lt (by omega) (by omega)).mpr (by omega) | exact mt (pl_lt (by omega) (by omega)).mp (by omega) | exact (pl_eq (by omega) (by omega)).mpr (by omega) | exact mt (pl_eq (by omega) (by omega)).mp (by omega) | exact (pl_neg1 (by omega)).mp | exact (pl_neg1' (by omega)).mp | assumption | omega | rfl | decide), q_measure hV' hp' hk, Option.bind_some, q_limit hV' hp' hk, Option.bind_some, q_isWrong, Option.bind_some, hr]
    by_cases hw : pw (Int32.ofNat k) (ps_me (I (M + 1)) p k) (ps_li (I (M + 1)) p k) = true
    · rw [hw, if_neg (by decide)]
      unfold po_hlet
      dsimp only
      have hr2 : (po_u J M 7 (J M 7 ||| (Int32.ofNat 1 <<< (Int32.ofNat k &&& Int32.ofNat 31)))) (M + 1) = I (M + 1) := by rw [po_u_ne (by omega), hr]
      have hu := q_used (I := po_u J M 7 (J M 7 ||| (Int32.ofNat 1 <<< (Int32.ofNat k &&& Int32.ofNat 31)))) (M := M) (p := p) (k := k) (by rw [hr2]; exact hV) (by rw [hr2]; exact hp) hk
      rw [hr2] at hu
      rw [hu, Option.bind_some]
      cases e : ps_us (I (M + 1)) p k with
      | none =>
        refine ⟨_, ⟨hJ.1.u (by simp), ?_⟩, if_pos rfl⟩
        rw [pfold, ps_fs, if_pos hw, e, ← h2]
        simp [po_uu, ← pk_1, ← pk_31]
      | some v =>
        have hv := (ps_us_lt e).1
        have hn' := hV.2.2.2.1.2.2
        show ∃ s', _ ∧ (if Int32.ofNat v = -Int32.ofNat 1 then _ else _) = _
        refine ⟨_, ⟨((( hJ.1.u (j := 7) (by simp)).u (j := 8) (by simp)).u (j := 9) (by simp)).u (j := 10) (by simp), ?_⟩, if_neg (by first | exact pl_inl (by omega) (by omega) | exact (pl_le (by omega) (by omega)).mpr (by omega) | exact mt (pl_le (by omega) (by omega)).mp (by omega) | exact (pl_lt (by omega) (by omega)).mpr (by omega) | exact mt (pl_lt (by omega) (by omega)).mp (by omega) | exact (pl_eq (by omega) (by omega)).mpr (by omega) | exact mt (pl_eq (by omega) (by omega)).mp (by omega) | exact (pl_neg1 (by omega)).mp | exact (pl_neg1' (by omega)).mp | assumption | omega | rfl | decide)⟩
        rw [pfold, ps_fs, if_pos hw, e, ← h2]
        simp [po_uu, po_op, ← pk_1, ← pk_31]
    · have hw' : pw (Int32.ofNat k) (ps_me (I (M + 1)) p k) (ps_li (I (M + 1)) p k) = false := by simpa using hw
      refine ⟨J, ⟨hJ.1, ?_⟩, by rw [hw']; exact if_pos rfl⟩
      rw [pfold, ps_fs, if_neg hw]
      exact h2
  · intro f J hJ
    exact ⟨J, rfl, hJ.1, hJ.2⟩
  · simp [po_uu, pfold]
theorem q_counted {st : Nat} (hV : pV (I (M + 1))) (hs : st < 100) : m_X8_counted I M (Int32.ofNat st) = some (Int32.ofNat (pc (fun k => decide (I (M + 1) (160 + 46 * k + 19) = Int32.ofNat st)) (pv (I (M + 1)) 2))) := by
  have h0 := hV.2.2.1
  have h0' := h0.2.2
  show m_X8_counted_4L I 5000 M (Int32.ofNat st) (Int32.ofNat 0) (Int32.ofNat 0) = _
  refine (pl_fold (L := fun f x k => m_X8_counted_4L I f M (Int32.ofNat st) (Int32.ofNat x) (Int32.ofNat k)) (n := pv (I (M + 1)) 2) (g := fun k x => x + (if decide (I (M + 1) (160 + 46 * k + 19) = Int32.ofNat st) = true then 1 else 0)) (E := fun x => some (Int32.ofNat x)) ?_ ?_ (by omega) 0).trans ?_
  · intro f x k hk
    show m_X8_counted_4 I _ _ _ _ _ = _
    unfold m_X8_counted_4 m_X8_counted_52
    simp only [-Int32.reduceOfNat, pk_0, pk_1, pk_2, pk_3, pk_4, pk_5, pk_6, pk_7, pk_8, pk_9, pk_10, pk_11, pk_12, pk_13, pk_14, pk_15, pk_16, pk_17, pk_18, pk_19, pk_20, pk_21, pk_22, pk_23, pk_24, pk_25, pk_26, pk_27, pk_28, pk_29, pk_30, pk_31, pk_32, pk_33, pk_44, pk_45, pk_46, pk_48, pk_50, pk_57, pk_59, pk_60, pk_63, pk_67, pk_69, pk_76, pk_78, pk_79, pk_80, pk_83, pk_86, pk_87, pk_90, pk_97, pk_99, pk_100, pk_110, pk_116, pk_122, pk_126, pk_160, pk_190, pk_255, pk_280, pk_281, pk_500, pk_620, pk_668, pk_1000, pk_3340, pk_4008, pk_5000, pk_65536, pk_1000000, pk_2000000, pk_3000000, pk_252645135, pk_858993459, pk_1431655765, pl_add, pl_mul]
    rw [h0.1, if_neg (by first | exact pl_inl (by omega) (by omega) | exact (pl_le (by omega) (by omega)).mpr (by omega) | exact mt (pl_le (by omega) (by omega)).mp (by omega) | exact (pl_lt (by omega) (by omega)).mpr (by omega) | exact mt (pl_lt (by omega) (by omega)).mp (by omega) | exact (pl_eq (by omega) (by omega)).mpr (by omega) | exact mt (pl_eq (by omega) (by omega)).mp (by omega) | exact (pl_neg1 (by omega)).mp | exact (pl_neg1' (by omega)).mp | assumption | omega | rfl | decide), if_neg (by first | exact pl_inl (by omega) (by omega) | exact (pl_le (by omega) (by omega)).mpr (by omega) | exact mt (pl_le (by omega) (by omega)).mp (by omega) | exact (pl_lt (by omega) (by omega)).mpr (by omega) | exact mt (pl_lt (by omega) (by omega)).mp (by omega) | exact (pl_eq (by omega) (by omega)).mpr (by omega) | exact mt (pl_eq (by omega) (by omega)).mp (by omega) | exact (pl_neg1 (by omega)).mp | exact (pl_neg1' (by omega)).mp | assumption | omega | rfl | decide), q_at (by omega)]
    simp only [po_let, po_hlet, Option.bind_some, Option.bind_none, Option.some.injEq, if_true, if_false, eq_self, pb_if, pb_nar, Bool.false_eq_true, Bool.true_eq_false, Bool.or_true, Bool.true_or, Bool.or_false, Bool.false_or, Bool.and_true, Bool.true_and, Bool.and_false, Bool.false_and, Nat.add_zero, Nat.mul_zero, Nat.zero_add]
    by_cases h : I (M + 1) (160 + 46 * k + 19) = Int32.ofNat st
    · rw [if_pos h, decide_eq_true h]; rfl
    · rw [if_neg h, decide_eq_false h]; rfl
  · intro f x
    show m_X8_counted_4 I _ _ _ _ _ = _
    unfold m_X8_counted_4
    rw [h0.1, if_pos (by first | exact pl_inl (by omega) (by omega) | exact (pl_le (by omega) (by omega)).mpr (by omega) | exact mt (pl_le (by omega) (by omega)).mp (by omega) | exact (pl_lt (by omega) (by omega)).mpr (by omega) | exact mt (pl_lt (by omega) (by omega)).mp (by omega) | exact (pl_eq (by omega) (by omega)).mpr (by omega) | exact mt (pl_eq (by omega) (by omega)).mp (by omega) | exact (pl_neg1 (by omega)).mp | exact (pl_neg1' (by omega)).mp | assumption | omega | rfl | decide)]
  · rw [pc_fold, Nat.zero_add]
theorem q_countedN (hV : pV (I (M + 1))) : m_X8_counted I M (-1) = some (Int32.ofNat (pc (ps_st (I (M + 1))) (pv (I (M + 1)) 2))) := by
  have h0 := hV.2.2.1
  have h0' := h0.2.2
  show m_X8_counted_4L I 5000 M (-1) (Int32.ofNat 0) (Int32.ofNat 0) = _
  refine (pl_fold (L := fun f x k => m_X8_counted_4L I f M (-1) (Int32.ofNat x) (Int32.ofNat k)) (n := pv (I (M + 1)) 2) (g := fun k x => x + (if ps_st (I (M + 1)) k = true then 1 else 0)) (E := fun x => some (Int32.ofNat x)) ?_ ?_ (by omega) 0).trans ?_
  · intro f x k hk
    show m_X8_counted_4 I _ _ _ _ _ = _
    unfold m_X8_counted_4 m_X8_counted_52
    simp only [-Int32.reduceOfNat, pk_0, pk_1, pk_2, pk_3, pk_4, pk_5, pk_6, pk_7, pk_8, pk_9, pk_10, pk_11, pk_12, pk_13, pk_14, pk_15, pk_16, pk_17, pk_18, pk_19, pk_20, pk_21, pk_22, pk_23, pk_24, pk_25, pk_26, pk_27, pk_28, pk_29, pk_30, pk_31, pk_32, pk_33, pk_44, pk_45, pk_46, pk_48, pk_50, pk_57, pk_59, pk_60, pk_63, pk_67, pk_69, pk_76, pk_78, pk_79, pk_80, pk_83, pk_86, pk_87, pk_90, pk_97, pk_99, pk_100, pk_110, pk_116, pk_122, pk_126, pk_160, pk_190, pk_255, pk_280, pk_281, pk_500, pk_620, pk_668, pk_1000, pk_3340, pk_4008, pk_5000, pk_65536, pk_1000000, pk_2000000, pk_3000000, pk_252645135, pk_858993459, pk_1431655765, pl_add, pl_mul]
    rw [h0.1, if_neg (by first | exact pl_inl (by omega) (by omega) | exact (pl_le (by omega) (by omega)).mpr (by omega) | exact mt (pl_le (by omega) (by omega)).mp (by omega) | exact (pl_lt (by omega) (by omega)).mpr (by omega) | exact mt (pl_lt (by omega) (by omega)).mp (by omega) | exact (pl_eq (by omega) (by omega)).mpr (by omega) | exact mt (pl_eq (by omega) (by omega)).mp (by omega) | exact (pl_neg1 (by omega)).mp | exact (pl_neg1' (by omega)).mp | assumption | omega | rfl | decide), if_pos trivial, q_stands (by omega)]
    simp only [po_let, po_hlet, Option.bind_some, Option.bind_none, Option.some.injEq, if_true, if_false, eq_self, pb_if, pb_nar, Bool.false_eq_true, Bool.true_eq_false, Bool.or_true, Bool.true_or, Bool.or_false, Bool.false_or, Bool.and_true, Bool.true_and, Bool.and_false, Bool.false_and, Nat.add_zero, Nat.mul_zero, Nat.zero_add]
    cases ps_st (I (M + 1)) k <;> rfl
  · intro f x
    show m_X8_counted_4 I _ _ _ _ _ = _
    unfold m_X8_counted_4
    rw [h0.1, if_pos (by first | exact pl_inl (by omega) (by omega) | exact (pl_le (by omega) (by omega)).mpr (by omega) | exact mt (pl_le (by omega) (by omega)).mp (by omega) | exact (pl_lt (by omega) (by omega)).mpr (by omega) | exact mt (pl_lt (by omega) (by omega)).mp (by omega) | exact (pl_eq (by omega) (by omega)).mpr (by omega) | exact mt (pl_eq (by omega) (by omega)).mp (by omega) | exact (pl_neg1 (by omega)).mp | exact (pl_neg1' (by omega)).mp | assumption | omega | rfl | decide)]
  · rw [pc_fold, Nat.zero_add]
theorem q_cellsInLots (hV : pV (I (M + 1))) : m_X8_cellsInLots I M = some (Int32.ofNat (psum (fun k => ps_n (pa_in (I (M + 1)) (32 + 16 * k))) (pv (I (M + 1)) 1))) := by
  have h0 := hV.2.1
  have h0' := h0.2.2
  show m_X8_cellsInLots_4L I 5000 M (Int32.ofNat 0) (Int32.ofNat 0) = _
  refine (pl_fold (L := fun f x k => m_X8_cellsInLots_4L I f M (Int32.ofNat x) (Int32.ofNat k)) (n := pv (I (M + 1)) 1) (g := fun k x => x + ps_n (pa_in (I (M + 1)) (32 + 16 * k))) (E := fun x => some (Int32.ofNat x)) ?_ ?_ (by omega) 0).trans ?_
  · intro f x k hk
    have hP := hV.2.2.2.2.2.1 k hk
    show m_X8_cellsInLots_4 I _ _ _ _ = _
    unfold m_X8_cellsInLots_4
    simp only [-Int32.reduceOfNat, pk_0, pk_1, pk_2, pk_3, pk_4, pk_5, pk_6, pk_7, pk_8, pk_9, pk_10, pk_11, pk_12, pk_13, pk_14, pk_15, pk_16, pk_17, pk_18, pk_19, pk_20, pk_21, pk_22, pk_23, pk_24, pk_25, pk_26, pk_27, pk_28, pk_29, pk_30, pk_31, pk_32, pk_33, pk_44, pk_45, pk_46, pk_48, pk_50, pk_57, pk_59, pk_60, pk_63, pk_67, pk_69, pk_76, pk_78, pk_79, pk_80, pk_83, pk_86, pk_87, pk_90, pk_97, pk_99, pk_100, pk_110, pk_116, pk_122, pk_126, pk_160, pk_190, pk_255, pk_280, pk_281, pk_500, pk_620, pk_668, pk_1000, pk_3340, pk_4008, pk_5000, pk_65536, pk_1000000, pk_2000000, pk_3000000, pk_252645135, pk_858993459, pk_1431655765, pl_add, pl_mul]
    rw [h0.1, if_neg (by first | exact pl_inl (by omega) (by omega) | exact (pl_le (by omega) (by omega)).mpr (by omega) | exact mt (pl_le (by omega) (by omega)).mp (by omega) | exact (pl_lt (by omega) (by omega)).mpr (by omega) | exact mt (pl_lt (by omega) (by omega)).mp (by omega) | exact (pl_eq (by omega) (by omega)).mpr (by omega) | exact mt (pl_eq (by omega) (by omega)).mp (by omega) | exact (pl_neg1 (by omega)).mp | exact (pl_neg1' (by omega)).mp | assumption | omega | rfl | decide), q_lotCells (by omega) hP.2.2.1]
    simp only [po_let, po_hlet, Option.bind_some, Option.bind_none, Option.some.injEq, if_true, if_false, eq_self, pb_if, pb_nar, Bool.false_eq_true, Bool.true_eq_false, Bool.or_true, Bool.true_or, Bool.or_false, Bool.false_or, Bool.and_true, Bool.true_and, Bool.and_false, Bool.false_and, Nat.add_zero, Nat.mul_zero, Nat.zero_add, pl_add]
  · intro f x
    show m_X8_cellsInLots_4 I _ _ _ _ = _
    unfold m_X8_cellsInLots_4
    rw [h0.1, if_pos (by first | exact pl_inl (by omega) (by omega) | exact (pl_le (by omega) (by omega)).mpr (by omega) | exact mt (pl_le (by omega) (by omega)).mp (by omega) | exact (pl_lt (by omega) (by omega)).mpr (by omega) | exact mt (pl_lt (by omega) (by omega)).mp (by omega) | exact (pl_eq (by omega) (by omega)).mpr (by omega) | exact mt (pl_eq (by omega) (by omega)).mp (by omega) | exact (pl_neg1 (by omega)).mp | exact (pl_neg1' (by omega)).mp | assumption | omega | rfl | decide)]
  · rw [psum_fold, Nat.zero_add]
end QF
