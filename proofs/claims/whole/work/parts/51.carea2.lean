section QD
variable {I : po_I} {a b : Nat} {S T : Int32 → Int32 → Bool}
theorem x_rowOf {r : Nat} (hr : r < 14) : m_X0_rowOf I a (Int32.ofNat r) = some (I (a + 1) r) := by
  unfold m_X0_rowOf m_X0_rowOf_e m_X0_rowOf_20
  simp only [-Int32.reduceOfNat, pk_0, pk_1, pk_2, pk_3, pk_4, pk_5, pk_6, pk_7, pk_8, pk_9, pk_10, pk_11, pk_12, pk_13, pk_14, pk_15, pk_16, pk_17, pk_18, pk_19, pk_20, pk_21, pk_22, pk_23, pk_24, pk_25, pk_26, pk_27, pk_28, pk_29, pk_30, pk_31, pk_32, pk_33, pk_44, pk_45, pk_46, pk_48, pk_50, pk_57, pk_59, pk_60, pk_63, pk_67, pk_69, pk_76, pk_78, pk_79, pk_80, pk_83, pk_86, pk_87, pk_90, pk_97, pk_99, pk_100, pk_110, pk_116, pk_122, pk_126, pk_160, pk_190, pk_255, pk_280, pk_281, pk_500, pk_620, pk_668, pk_1000, pk_3340, pk_4008, pk_5000, pk_65536, pk_1000000, pk_2000000, pk_3000000, pk_252645135, pk_858993459, pk_1431655765, pl_add, pl_mul]
  repeat rw [pl_clamp (by omega)]
  rw [if_neg (by rw [← pk_0, pl_not0 (by omega)]; exact id), if_neg (by first | exact pl_inl (by omega) (by omega) | exact (pl_le (by omega) (by omega)).mpr (by omega) | exact mt (pl_le (by omega) (by omega)).mp (by omega) | exact (pl_lt (by omega) (by omega)).mpr (by omega) | exact mt (pl_lt (by omega) (by omega)).mp (by omega) | exact (pl_eq (by omega) (by omega)).mpr (by omega) | exact mt (pl_eq (by omega) (by omega)).mp (by omega) | exact (pl_neg1 (by omega)).mp | exact (pl_neg1' (by omega)).mp | assumption | omega | rfl | decide), if_pos (by first | exact pl_inl (by omega) (by omega) | exact (pl_le (by omega) (by omega)).mpr (by omega) | exact mt (pl_le (by omega) (by omega)).mp (by omega) | exact (pl_lt (by omega) (by omega)).mpr (by omega) | exact mt (pl_lt (by omega) (by omega)).mp (by omega) | exact (pl_eq (by omega) (by omega)).mpr (by omega) | exact mt (pl_eq (by omega) (by omega)).mp (by omega) | exact (pl_neg1 (by omega)).mp | exact (pl_neg1' (by omega)).mp | assumption | omega | rfl | decide)]
theorem x_rowOf14 : m_X0_rowOf I a (Int32.ofNat 14) = some 0 := rfl
theorem x_rowOfm : m_X0_rowOf I a (Int32.ofNat 0 - Int32.ofNat 1) = some 0 := rfl
theorem x_hasCell {c r : Nat} (hc : c < 20) (hr : r < 14) (hS : pAR I a S) : m_X0_hasCell I a (Int32.ofNat c) (Int32.ofNat r) = some (pb (S (Int32.ofNat c) (Int32.ofNat r))) := by
  unfold m_X0_hasCell m_X0_hasCell_e m_X0_hasCell_17
  rw [x_rowOf hr, Option.bind_some]
  have h := hS r hr c (by omega)
  rw [decide_eq_true hc, Bool.true_and] at h
  by_cases h0 : I (a + 1) r &&& (1 <<< (Int32.ofNat c &&& 31)) = 0
  · have h1 := bt_eq0.mp h0 c (by omega)
    rw [bt_and, bt_one (by omega) (by omega), h] at h1
    rw [if_pos h0, if_pos pn_0]
    simp at h1
    rw [h1]
    rfl
  · obtain ⟨d, hd, e⟩ := bt_ne0.mp h0
    rw [bt_and, bt_one (by omega) hd, Bool.and_eq_true] at e
    have e2 := of_decide_eq_true e.2
    subst e2
    rw [h] at e
    rw [if_neg h0, if_pos pn_1, e.1]
    rfl
theorem pc_false {p : Nat → Bool} : ∀ {n : Nat}, (∀ k, k < n → p k = false) → pc p n = 0
  | 0, _ => rfl
  | n + 1, h => by rw [pc, pc_false (fun k hk => h k (by omega)), h n (by omega)]; rfl
theorem pc_grid (f : Nat → Nat → Bool) : ∀ m, pc (fun k => f (k % 20) (k / 20)) (20 * m) = psum (fun r => pc (fun c => f c r) 20) m
  | 0 => rfl
  | m + 1 => by
    rw [show 20 * (m + 1) = 20 * m + 20 by omega, pc_add, pc_grid f m, psum]
    congr 1
    refine pc_congr (fun k hk => ?_)
    rw [show (20 * m + k) % 20 = k by omega, show (20 * m + k) / 20 = m by omega]
theorem ps_n_rows (S : Int32 → Int32 → Bool) : ps_n S = psum (fun r => pc (fun c => S (Int32.ofNat c) (Int32.ofNat r)) 20) 14 := pc_grid (fun c r => S (Int32.ofNat c) (Int32.ofNat r)) 14
theorem pc_row {x : Int32} {p : Nat → Bool} (h : ∀ c, c < 32 → bt x c = (decide (c < 20) && p c)) : pc (bt x) 32 = pc p 20 := by
  rw [show (32 : Nat) = 20 + 12 by rfl, pc_add, pc_false (n := 12) (fun k hk => by rw [h _ (by omega), decide_eq_false (by omega)]; rfl), Nat.add_zero]
  exact pc_congr (fun k hk => by rw [h k (by omega), decide_eq_true hk]; rfl)
theorem x_cellsIn (hS : pAR I a S) (hT : pAR I b T) : m_X0_cellsIn I a b = some (Int32.ofNat (ps_n (fun c r => S c r && T c r))) := by
  show m_X0_cellsIn_4L I 5000 a b (Int32.ofNat 0) (Int32.ofNat 0) = _
  refine (pl_fold (L := fun f x k => m_X0_cellsIn_4L I f a b (Int32.ofNat x) (Int32.ofNat k)) (n := 14) (g := fun r x => x + pc (fun c => S (Int32.ofNat c) (Int32.ofNat r) && T (Int32.ofNat c) (Int32.ofNat r)) 20) (E := fun x => some (Int32.ofNat x)) ?_ ?_ (by omega) 0).trans ?_
  · intro f x r hr
    show m_X0_cellsIn_4 I _ _ _ _ _ = _
    unfold m_X0_cellsIn_4
    simp only [-Int32.reduceOfNat, pk_0, pk_1, pk_2, pk_3, pk_4, pk_5, pk_6, pk_7, pk_8, pk_9, pk_10, pk_11, pk_12, pk_13, pk_14, pk_15, pk_16, pk_17, pk_18, pk_19, pk_20, pk_21, pk_22, pk_23, pk_24, pk_25, pk_26, pk_27, pk_28, pk_29, pk_30, pk_31, pk_32, pk_33, pk_44, pk_45, pk_46, pk_48, pk_50, pk_57, pk_59, pk_60, pk_63, pk_67, pk_69, pk_76, pk_78, pk_79, pk_80, pk_83, pk_86, pk_87, pk_90, pk_97, pk_99, pk_100, pk_110, pk_116, pk_122, pk_126, pk_160, pk_190, pk_255, pk_280, pk_281, pk_500, pk_620, pk_668, pk_1000, pk_3340, pk_4008, pk_5000, pk_65536, pk_1000000, pk_2000000, pk_3000000, pk_252645135, pk_858993459, pk_1431655765, pl_add, pl_mul]
    repeat rw [pl_clamp (by omega)]
    rw [if_neg (by first | exact pl_inl (by omega) (by omega) | exact (pl_le (by omega) (by omega)).mpr (by omega) | exact mt (pl_le (by omega) (by omega)).mp (by omega) | exact (pl_lt (by omega) (by omega)).mpr (by omega) | exact mt (pl_lt (by omega) (by omega)).mp (by omega) | exact (pl_eq (by omega) (by omega)).mpr (by omega) | exact mt (pl_eq (by omega) (by omega)).mp (by omega) | exact (pl_neg1 (by omega)).mp | exact (pl_neg1' (by omega)).mp | assumption | omega | rfl | decide), if_pos (by first | exact pl_inl (by omega) (by omega) | exact (pl_le (by omega) (by omega)).mpr (by omega) | exact mt (pl_le (by omega) (by omega)).mp (by omega) | exact (pl_lt (by omega) (by omega)).mpr (by omega) | exact mt (pl_lt (by omega) (by omega)).mp (by omega) | exact (pl_eq (by omega) (by omega)).mpr (by omega) | exact mt (pl_eq (by omega) (by omega)).mp (by omega) | exact (pl_neg1 (by omega)).mp | exact (pl_neg1' (by omega)).mp | assumption | omega | rfl | decide), if_pos (by first | exact pl_inl (by omega) (by omega) | exact (pl_le (by omega) (by omega)).mpr (by omega) | exact mt (pl_le (by omega) (by omega)).mp (by omega) | exact (pl_lt (by omega) (by omega)).mpr (by omega) | exact mt (pl_lt (by omega) (by omega)).mp (by omega) | exact (pl_eq (by omega) (by omega)).mpr (by omega) | exact mt (pl_eq (by omega) (by omega)).mp (by omega) | exact (pl_neg1 (by omega)).mp | exact (pl_neg1' (by omega)).mp | assumption | omega | rfl | decide), q_bitCount]
    simp only [po_let, po_hlet, Option.bind_some, Option.bind_none, Option.some.injEq, if_true, if_false, eq_self, pb_if, pb_nar, Bool.false_eq_true, Bool.true_eq_false, Bool.or_true, Bool.true_or, Bool.or_false, Bool.false_or, Bool.and_true, Bool.true_and, Bool.and_false, Bool.false_and, Nat.add_zero, Nat.mul_zero, Nat.zero_add, pl_add]
    rw [pc_row (p := fun c => S (Int32.ofNat c) (Int32.ofNat r) && T (Int32.ofNat c) (Int32.ofNat r)) (fun c hc => by rw [bt_and, hS r hr c hc, hT r hr c hc]; cases decide (c < 20) <;> simp)]
  · intro f x
    rfl
  · rw [psum_fold (fun r => pc (fun c => S (Int32.ofNat c) (Int32.ofNat r) && T (Int32.ofNat c) (Int32.ofNat r)) 20), Nat.zero_add, ps_n_rows]
theorem ps_n_congr {S T : Int32 → Int32 → Bool} (h : ∀ c r, c < 20 → r < 14 → S (Int32.ofNat c) (Int32.ofNat r) = T (Int32.ofNat c) (Int32.ofNat r)) : ps_n S = ps_n T := by
  rw [ps_n_rows, ps_n_rows]
  exact psum_congr (fun r hr => pc_congr (fun c hc => h c r hc hr))
theorem x_size (hS : pAR I a S) : m_X0_size I a = some (Int32.ofNat (ps_n S)) := by
  unfold m_X0_size m_X0_size_e
  have e : ps_n (fun c r => S c r && S c r) = ps_n S := ps_n_congr (fun c r _ _ => Bool.and_self _)
  rw [x_cellsIn hS hS, Option.bind_some, e]
theorem pc_split (p q : Nat → Bool) : ∀ n, pc p n = pc (fun k => p k && q k) n + pc (fun k => p k && !q k) n
  | 0 => rfl
  | n + 1 => by
    rw [pc, pc, pc, pc_split p q n]
    cases p n <;> cases q n <;> simp <;> omega
theorem ps_n_split (S T : Int32 → Int32 → Bool) : ps_n S = ps_n (fun c r => S c r && T c r) + ps_n (fun c r => S c r && !T c r) := pc_split _ _ _
theorem x_cellsOutside (hS : pAR I a S) (hT : pAR I b T) : m_X0_cellsOutside I a b = some (Int32.ofNat (ps_n (fun c r => S c r && !T c r))) := by
  unfold m_X0_cellsOutside m_X0_cellsOutside_e
  have h := ps_n_split S T
  have e : ps_n S - ps_n (fun c r => S c r && T c r) = ps_n (fun c r => S c r && !T c r) := by omega
  rw [x_size hS, Option.bind_some, x_cellsIn hS hT, Option.bind_some, pl_sub (by omega), e]
theorem x_hasAll (hS : pAR I a S) (hT : pAR I b T) : ∃ w : Bool, m_X0_hasAll I a b = some (pb w) ∧ (w = true ↔ ∀ c r, c < 20 → r < 14 → T (Int32.ofNat c) (Int32.ofNat r) = true → S (Int32.ofNat c) (Int32.ofNat r) = true) := by
  refine po_inv (L := fun f (_ : Unit) r => m_X0_hasAll_2L I f a b (Int32.ofNat r)) (n := 14) (fun k _ => ∀ c r, c < 20 → r < k → T (Int32.ofNat c) (Int32.ofNat r) = true → S (Int32.ofNat c) (Int32.ofNat r) = true) (fun t => ∃ w : Bool, t = some (pb w) ∧ (w = true ↔ ∀ c r, c < 20 → r < 14 → T (Int32.ofNat c) (Int32.ofNat r) = true → S (Int32.ofNat c) (Int32.ofNat r) = true)) ?_ ?_ 14 5000 () 0 (by omega) (by omega) (fun c r _ hr => by omega)
  · intro f _ r hr h
    show (∃ s', _ ∧ m_X0_hasAll_2 I _ _ _ _ = _) ∨ ∃ w, m_X0_hasAll_2 I _ _ _ _ = _ ∧ _
    have key : ∀ c, c < 32 → bt (I (b + 1) r &&& (I (a + 1) r ^^^ (-1))) c = (decide (c < 20) && (T (Int32.ofNat c) (Int32.ofNat r) && !S (Int32.ofNat c) (Int32.ofNat r))) := by
      intro c hc
      rw [bt_and, bt_not _ hc, hS r hr c hc, hT r hr c hc]
      cases decide (c < 20) <;> simp
    have e : m_X0_hasAll_2 I (m_X0_hasAll_2L I f) a b (Int32.ofNat r) = if I (b + 1) r &&& (I (a + 1) r ^^^ (-1)) = 0 then m_X0_hasAll_2L I f a b (Int32.ofNat (r + 1)) else some 0 := by
      unfold m_X0_hasAll_2
      simp only [-Int32.reduceOfNat, pk_0, pk_1, pk_2, pk_3, pk_4, pk_5, pk_6, pk_7, pk_8, pk_9, pk_10, pk_11, pk_12, pk_13, pk_14, pk_15, pk_16, pk_17, pk_18, pk_19, pk_20, pk_21, pk_22, pk_23, pk_24, pk_25, pk_26, pk_27, pk_28, pk_29, pk_30, pk_31, pk_32, pk_33, pk_44, pk_45, pk_46, pk_48, pk_50, pk_57, pk_59, pk_60, pk_63, pk_67, pk_69, pk_76, pk_78, pk_79, pk_80, pk_83, pk_86, pk_87, pk_90, pk_97, pk_99, pk_100, pk_110, pk_116, pk_122, pk_126, pk_160, pk_190, pk_255, pk_280, pk_281, pk_500, pk_620, pk_668, pk_1000, pk_3340, pk_4008, pk_5000, pk_65536, pk_1000000, pk_2000000, pk_3000000, pk_252645135, pk_858993459, pk_1431655765, pl_add, pl_mul]
      repeat rw [pl_clamp (by omega)]
      rw [if_neg (by first | exact pl_inl (by omega) (by omega) | exact (pl_le (by omega) (by omega)).mpr (by omega) | exact mt (pl_le (by omega) (by omega)).mp (by omega) | exact (pl_lt (by omega) (by omega)).mpr (by omega) | exact mt (pl_lt (by omega) (by omega)).mp (by omega) | exact (pl_eq (by omega) (by omega)).mpr (by omega) | exact mt (pl_eq (by omega) (by omega)).mp (by omega) | exact (pl_neg1 (by omega)).mp | exact (pl_neg1' (by omega)).mp | assumption | omega | rfl | decide), if_pos (by first | exact pl_inl (by omega) (by omega) | exact (pl_le (by omega) (by omega)).mpr (by omega) | exact mt (pl_le (by omega) (by omega)).mp (by omega) | exact (pl_lt (by omega) (by omega)).mpr (by omega) | exact mt (pl_lt (by omega) (by omega)).mp (by omega) | exact (pl_eq (by omega) (by omega)).mpr (by omega) | exact mt (pl_eq (by omega) (by omega)).mp (by omega) | exact (pl_neg1 (by omega)).mp | exact (pl_neg1' (by omega)).mp | assumption | omega | rfl | decide), if_pos (by first | exact pl_inl (by omega) (by omega) | exact (pl_le (by omega) (by omega)).mpr (by omega) | exact mt (pl_le (by omega) (by omega)).mp (by omega) | exact (pl_lt (by omega) (by omega)).mpr (by omega) | exact mt (pl_lt (by omega) (by omega)).mp (by omega) | exact (pl_eq (by omega) (by omega)).mpr (by omega) | exact mt (pl_eq (by omega) (by omega)).mp (by omega) | exact (pl_neg1 (by omega)).mp | exact (pl_neg1' (by omega)).mp | assumption | omega | rfl | decide)]
    rw [e]
    by_cases h0 : I (b + 1) r &&& (I (a + 1) r ^^^ (-1)) = 0
    · left
      rw [if_pos h0]
      refine ⟨(), fun c j hc hj ht => ?_, rfl⟩
      by_cases ej : j = r
      · subst ej
        have h1 := bt_eq0.mp h0 c (by omega)
        rw [key c (by omega), decide_eq_true hc, ht] at h1
        simpa using h1
      · exact h c j hc (by omega) ht
    · right
      rw [if_neg h0]
      obtain ⟨c, hc, hb⟩ := bt_ne0.mp h0
      rw [key c hc] at hb
      simp only [Bool.and_eq_true, decide_eq_true_eq, Bool.not_eq_true'] at hb
      refine ⟨false, rfl, ⟨(fun h' => by cases h'), fun h' => ?_⟩⟩
      have := h' c r hb.1 hr hb.2.1
      rw [hb.2.2] at this
      cases this
  · intro f _ h
    exact ⟨true, rfl, ⟨fun _ => h, fun _ => rfl⟩⟩
theorem pn_of {x : Int32} {n : Nat} (hn : n < 2147483648) (h : 0 ≤ x ∧ x < Int32.ofNat n) : ∃ k, k < n ∧ x = Int32.ofNat k := by
  obtain ⟨k, hk, rfl⟩ := pl_of h.1
  exact ⟨k, (pl_lt hk hn).mp h.2, rfl⟩
/-- one step on in a direction -/
def pnb (S : Int32 → Int32 → Bool) (d : Nat) (c r : Int32) : Bool := S (c + pdx d) (r + pdy d)
theorem pS_neg (hS : pbnd S) {c r : Int32} (h : ¬ ((0 ≤ c ∧ c < 20) ∧ (0 ≤ r ∧ r < 14))) : S c r = false := by
  cases e : S c r with
  | false => rfl
  | true => exact absurd (hS c r e) h
theorem pnb_n (hS : pbnd S) {c r : Nat} (hc : c < 20) (hr : r < 14) : pnb S 0 (Int32.ofNat c) (Int32.ofNat r) = (decide (1 ≤ r) && S (Int32.ofNat c) (Int32.ofNat (r - 1))) := by
  show S (Int32.ofNat c + 0) (Int32.ofNat r + -1) = _
  rw [Int32.add_zero]
  by_cases h : 1 ≤ r
  · rw [decide_eq_true h, Int32.add_neg_eq_sub, pk_1, pl_sub h]; rfl
  · obtain rfl : r = 0 := by omega
    rw [pS_neg hS (by rintro ⟨_, h, _⟩; revert h; decide)]; rfl
theorem pnb_s (hS : pbnd S) {c r : Nat} (hc : c < 20) (hr : r < 14) : pnb S 2 (Int32.ofNat c) (Int32.ofNat r) = (decide (r < 13) && S (Int32.ofNat c) (Int32.ofNat (r + 1))) := by
  show S (Int32.ofNat c + 0) (Int32.ofNat r + 1) = _
  rw [Int32.add_zero, pk_1, pl_add]
  by_cases h : r < 13
  · rw [decide_eq_true h]; rfl
  · obtain rfl : r = 13 := by omega
    rw [pS_neg hS (by rintro ⟨_, _, h⟩; revert h; decide)]; rfl
theorem pnb_e (hS : pbnd S) {c r : Nat} (hc : c < 20) : pnb S 1 (Int32.ofNat c) (Int32.ofNat r) = (decide (c < 19) && S (Int32.ofNat (c + 1)) (Int32.ofNat r)) := by
  show S (Int32.ofNat c + 1) (Int32.ofNat r + 0) = _
  rw [Int32.add_zero, pk_1, pl_add]
  by_cases h : c < 19
  · rw [decide_eq_true h]; rfl
  · obtain rfl : c = 19 := by omega
    rw [pS_neg hS (by rintro ⟨⟨_, h⟩, _⟩; revert h; decide)]; rfl
theorem pnb_w (hS : pbnd S) {c r : Nat} (hc : c < 20) : pnb S 3 (Int32.ofNat c) (Int32.ofNat r) = (decide (1 ≤ c) && S (Int32.ofNat (c - 1)) (Int32.ofNat r)) := by
  show S (Int32.ofNat c + -1) (Int32.ofNat r + 0) = _
  rw [Int32.add_zero]
  by_cases h : 1 ≤ c
  · rw [decide_eq_true h, Int32.add_neg_eq_sub, pk_1, pl_sub h]; rfl
  · obtain rfl : c = 0 := by omega
    rw [pS_neg hS (by rintro ⟨⟨h, _⟩, _⟩; revert h; decide)]; rfl
end QD
