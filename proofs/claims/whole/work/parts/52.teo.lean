section QE
variable {I : po_I} {a b : Nat} {S T : Int32 → Int32 → Bool}
/-- the row that comes at a turn; what stands before it; what it becomes -/
def pe_r (d i : Nat) : Nat := if d = 2 then 13 - i else i
def pe_b (I : po_I) (q d : Nat) : Nat → Int32
  | 0 => 0
  | i + 1 => I q (pe_r d i)
def pe_g (I : po_I) (q d i : Nat) : Int32 := I q (pe_r d i) &&& (if d = 1 then I q (pe_r d i) >>> (1 &&& 31) else if d = 3 then I q (pe_r d i) <<< (1 &&& 31) else pe_b I q d i)
theorem x_teo0 {d : Nat} (hd : d < 4) : ∃ I', m_X0_takeEdgeOff I a (Int32.ofNat d) = some I' ∧ (∀ b, b ≠ a + 1 → I' b = I b) ∧ ∀ i, i < 14 → I' (a + 1) (pe_r d i) = pe_g I (a + 1) d i := by
  refine po_inv (L := fun f (x : po_I × Int32) i => m_X0_takeEdgeOff_4L f x.1 a (Int32.ofNat d) x.2 (Int32.ofNat i)) (n := 14) (fun i x => (∀ b, b ≠ a + 1 → x.1 b = I b) ∧ (∀ j, j < i → x.1 (a + 1) (pe_r d j) = pe_g I (a + 1) d j) ∧ (∀ j, i ≤ j → j < 14 → x.1 (a + 1) (pe_r d j) = I (a + 1) (pe_r d j)) ∧ x.2 = pe_b I (a + 1) d i) (fun t => ∃ I', t = some I' ∧ (∀ b, b ≠ a + 1 → I' b = I b) ∧ ∀ i, i < 14 → I' (a + 1) (pe_r d i) = pe_g I (a + 1) d i) ?_ ?_ 14 5000 (I, 0) 0 (by omega) (by omega) ⟨fun _ _ => rfl, fun j hj => by omega, fun _ _ _ => rfl, rfl⟩
  · rintro f ⟨J, bf⟩ i hi ⟨h1, h2, h3, h4⟩
    left
    have hre : pe_r d i < 14 := by unfold pe_r; split <;> omega
    have hinj : ∀ j, j < 14 → j ≠ i → pe_r d j ≠ pe_r d i := by
      intro j hj hne
      unfold pe_r
      split <;> omega
    refine ⟨(po_u J (a + 1) (pe_r d i) (pe_g I (a + 1) d i), I (a + 1) (pe_r d i)), ⟨fun b hb => ?_, fun j hj => ?_, fun j hj hj2 => ?_, rfl⟩, ?_⟩
    · show po_u J (a + 1) (pe_r d i) _ b = _
      rw [po_u_ne hb]; exact h1 b hb
    · show po_u J (a + 1) (pe_r d i) _ (a + 1) _ = _
      rw [po_uu]
      by_cases e : j = i
      · rw [e, if_pos ⟨rfl, rfl⟩]
      · rw [if_neg (fun h => hinj j (by omega) e h.2)]; exact h2 j (by omega)
    · show po_u J (a + 1) (pe_r d i) _ (a + 1) _ = _
      rw [po_uu, if_neg (fun h => hinj j hj2 (by omega) h.2)]
      exact h3 j (by omega) hj2
    · have h5 := h3 i (Nat.le_refl _) hi
      change bf = _ at h4
      change J (a + 1) _ = _ at h5
      show m_X0_takeEdgeOff_4 (m_X0_takeEdgeOff_4L f) J a (Int32.ofNat d) bf (Int32.ofNat i) = m_X0_takeEdgeOff_4L f (po_u J (a + 1) (pe_r d i) (pe_g I (a + 1) d i)) a (Int32.ofNat d) (I (a + 1) (pe_r d i)) (Int32.ofNat (i + 1))
      have h62 : ∀ nb, m_X0_takeEdgeOff_62 (m_X0_takeEdgeOff_4L f) J a (Int32.ofNat d) (Int32.ofNat i) (Int32.ofNat (pe_r d i)) (I (a + 1) (pe_r d i)) nb = m_X0_takeEdgeOff_4L f (po_u J (a + 1) (pe_r d i) (I (a + 1) (pe_r d i) &&& nb)) a (Int32.ofNat d) (I (a + 1) (pe_r d i)) (Int32.ofNat (i + 1)) := by
        intro nb
        unfold m_X0_takeEdgeOff_62
        simp only [-Int32.reduceOfNat, pk_0, pk_1, pk_2, pk_3, pk_4, pk_5, pk_6, pk_7, pk_8, pk_9, pk_10, pk_11, pk_12, pk_13, pk_14, pk_15, pk_16, pk_17, pk_18, pk_19, pk_20, pk_21, pk_22, pk_23, pk_24, pk_25, pk_26, pk_27, pk_28, pk_29, pk_30, pk_31, pk_32, pk_33, pk_44, pk_45, pk_46, pk_48, pk_50, pk_57, pk_59, pk_60, pk_63, pk_67, pk_69, pk_76, pk_78, pk_79, pk_80, pk_83, pk_86, pk_87, pk_90, pk_97, pk_99, pk_100, pk_110, pk_116, pk_122, pk_126, pk_160, pk_190, pk_255, pk_280, pk_281, pk_500, pk_620, pk_668, pk_1000, pk_3340, pk_4008, pk_5000, pk_65536, pk_1000000, pk_2000000, pk_3000000, pk_252645135, pk_858993459, pk_1431655765, pl_add, pl_mul, po_let, po_hlet, Option.bind_some, Option.bind_none, Option.some.injEq, if_true, if_false, eq_self, pb_if, pb_nar, Bool.false_eq_true, Bool.true_eq_false, Bool.or_true, Bool.true_or, Bool.or_false, Bool.false_or, Bool.and_true, Bool.true_and, Bool.and_false, Bool.false_and, Nat.add_zero, Nat.mul_zero, Nat.zero_add]
        repeat rw [pl_clamp (by omega)]
        rw [if_pos (by first | exact pl_inl (by omega) (by omega) | exact (pl_le (by omega) (by omega)).mpr (by omega) | exact mt (pl_le (by omega) (by omega)).mp (by omega) | exact (pl_lt (by omega) (by omega)).mpr (by omega) | exact mt (pl_lt (by omega) (by omega)).mp (by omega) | exact (pl_eq (by omega) (by omega)).mpr (by omega) | exact mt (pl_eq (by omega) (by omega)).mp (by omega) | exact (pl_neg1 (by omega)).mp | exact (pl_neg1' (by omega)).mp | assumption | omega | rfl | decide)]
      have h23 : m_X0_takeEdgeOff_23 (m_X0_takeEdgeOff_4L f) J a (Int32.ofNat d) bf (Int32.ofNat i) (Int32.ofNat (pe_r d i)) = m_X0_takeEdgeOff_4L f (po_u J (a + 1) (pe_r d i) (pe_g I (a + 1) d i)) a (Int32.ofNat d) (I (a + 1) (pe_r d i)) (Int32.ofNat (i + 1)) := by
        unfold m_X0_takeEdgeOff_23 pe_g
        rw [if_pos (pl_inl hre (by omega)), pl_clamp (by omega)]
        simp only [po_let]
        rw [h5]
        by_cases e1 : d = 1
        · subst e1
          rw [if_pos (show Int32.ofNat 1 = 1 from rfl), if_pos rfl, h62]
        · rw [if_neg (show ¬ Int32.ofNat d = 1 from mt (pl_eq (b := 1) (by omega) (by omega)).mp e1), if_neg e1]
          by_cases e3 : d = 3
          · subst e3
            rw [if_pos (show Int32.ofNat 3 = 3 from rfl), if_pos rfl, h62]
          · rw [if_neg (show ¬ Int32.ofNat d = 3 from mt (pl_eq (b := 3) (by omega) (by omega)).mp e3), if_neg e3, h62, h4]
      unfold m_X0_takeEdgeOff_4
      rw [if_neg (show ¬ (14 : Int32) ≤ Int32.ofNat i from mt (pl_le (a := 14) (by omega) (by omega)).mp (by omega))]
      by_cases e2 : d = 2
      · rw [if_pos (show Int32.ofNat d = 2 by rw [e2]; rfl), pk_13, pl_sub (by omega), show 13 - i = pe_r d i by unfold pe_r; rw [if_pos e2]]
        exact h23
      · rw [if_neg (show ¬ Int32.ofNat d = 2 from mt (pl_eq (b := 2) (by omega) (by omega)).mp e2)]
        have e : pe_r d i = i := if_neg e2
        rw [e] at h23 ⊢
        exact h23
  · rintro f ⟨J, bf⟩ ⟨h1, h2, h3, h4⟩
    exact ⟨J, rfl, h1, fun i hi => h2 i hi⟩
theorem x_takeEdgeOff {d : Nat} (hd : d < 4) (hS : pAR I a S) (hb : pbnd S) : ∃ I', m_X0_takeEdgeOff I a (Int32.ofNat d) = some I' ∧ (∀ b, b ≠ a + 1 → I' b = I b) ∧ pAR I' a (fun c r => S c r && pnb S d c r) := by
  obtain ⟨I', h1, h2, h3⟩ := x_teo0 (I := I) (a := a) hd
  refine ⟨I', h1, h2, fun r hr c hc => ?_⟩
  have hr' : pe_r d (pe_r d r) = r := by unfold pe_r; split <;> omega
  have hr2 : pe_r d r < 14 := by unfold pe_r; split <;> omega
  have h := h3 (pe_r d r) hr2
  rw [hr'] at h
  rw [h]
  unfold pe_g
  rw [hr', bt_and, hS r hr c hc]
  by_cases hc2 : c < 20
  · rw [decide_eq_true hc2, Bool.true_and, Bool.true_and]
    refine congrArg (fun z => S (Int32.ofNat c) (Int32.ofNat r) && z) ?_
    rcases (by omega : d = 0 ∨ d = 1 ∨ d = 2 ∨ d = 3) with e | e | e | e <;> subst e
    · rw [if_neg (by omega), if_neg (by omega), pnb_n hb hc2 hr]
      show bt (pe_b I (a + 1) 0 r) c = _
      cases r with
      | zero => exact bt_zero c
      | succ r =>
        show bt (I (a + 1) r) c = _
        rw [hS r (by omega) c hc, decide_eq_true hc2, decide_eq_true (by omega)]; rfl
    · rw [if_pos rfl, pnb_e hb hc2, bt_shr _ (by omega), hS r hr (c + 1) (by omega)]
      rw [show decide (c + 1 < 20) = decide (c < 19) from decide_eq_decide.mpr (by omega)]
    · rw [if_neg (by omega), if_neg (by omega), pnb_s hb hc2 hr]
      show bt (pe_b I (a + 1) 2 (13 - r)) c = _
      by_cases e : r = 13
      · subst e; exact bt_zero c
      · rw [show 13 - r = (12 - r) + 1 by omega]
        show bt (I (a + 1) (pe_r 2 (12 - r))) c = _
        rw [show pe_r 2 (12 - r) = r + 1 by show 13 - (12 - r) = _; omega, hS (r + 1) (by omega) c hc, decide_eq_true hc2, decide_eq_true (by omega)]
    · rw [if_neg (by omega), if_pos rfl, pnb_w hb hc2, bt_shl _ hc]
      by_cases e : 1 ≤ c
      · rw [hS r hr (c - 1) (by omega), decide_eq_true (p := c - 1 < 20) (by omega)]; rfl
      · rw [decide_eq_false e]; rfl
  · rw [decide_eq_false hc2]
    simp
end QE
