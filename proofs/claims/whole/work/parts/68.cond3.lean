section QZ
variable {I : po_I} {p P : Nat} {N : po_N}
theorem x_hasOpenInPhase (hT : pTP I P N (160 + 46 * p)) (h6 : ps_cm N p ≤ 6) : m_X2_hasOpenInPhase I P = some (pb (pany (ps_ho N p 0 (N (160 + 46 * p + 20))) (ps_cm N p))) := by
  have key : ∀ k, k < 32 → (bt (I P 16) k && decide (I (P + 3) k = I P 8)) = (decide (k < ps_cm N p) && ps_ho N p 0 (N (160 + 46 * p + 20)) k) := by
    intro k hk
    by_cases h : k < ps_cm N p
    · obtain ⟨a1, a2, a3⟩ := (hT.cnd k hk).1 h
      rw [a1, a2, hT.pha, decide_eq_true h, Bool.true_and]
      unfold ps_ho ps_cp
      rw [if_neg (by omega), if_neg (by omega), if_pos rfl]
    · rw [(hT.cnd k hk).2 (by unfold ps_cm at h; omega), decide_eq_false h]; rfl
  refine po_inv (L := fun f (_ : Unit) k => m_X2_hasOpenInPhase_2L I f P (Int32.ofNat k)) (n := 6) (fun k _ => ∀ j, j < k → (decide (j < ps_cm N p) && ps_ho N p 0 (N (160 + 46 * p + 20)) j) = false) (fun t => t = some (pb (pany (ps_ho N p 0 (N (160 + 46 * p + 20))) (ps_cm N p)))) ?_ ?_ 6 5000 () 0 (by omega) (by omega) (fun j hj => by omega)
  · intro f _ k hk h
    have hkk := key k (by omega)
    show (∃ s', _ ∧ m_X2_hasOpenInPhase_2 I _ P (Int32.ofNat k) = _) ∨ m_X2_hasOpenInPhase_2 I _ P (Int32.ofNat k) = _
    have e : m_X2_hasOpenInPhase_2 I (m_X2_hasOpenInPhase_2L I f) P (Int32.ofNat k) = if (bt (I P 16) k && decide (I (P + 3) k = I P 8)) = true then some 1 else m_X2_hasOpenInPhase_2L I f P (Int32.ofNat (k + 1)) := by
      unfold m_X2_hasOpenInPhase_2 m_X2_hasOpenInPhase_31
      rw [if_neg (show ¬ (6 : Int32) ≤ Int32.ofNat k from mt (pl_le (a := 6) (by omega) (by omega)).mp (by omega)), x_isOpen (by omega), Option.bind_some, if_pos (show po_in (Int32.ofNat k) 6 = true from pl_inl hk (by omega)), pl_clamp (by omega), show Int32.ofNat k + 1 = Int32.ofNat (k + 1) from pl_add k 1]
      cases bt (I P 16) k with
      | false => rfl
      | true =>
        rw [if_neg (show ¬ pb true = 0 by decide), Bool.true_and]
        by_cases e2 : I (P + 3) k = I P 8
        · rw [if_pos e2, decide_eq_true e2]; rfl
        · rw [if_neg e2, decide_eq_false e2]; rfl
    rw [e, hkk]
    cases hq : (decide (k < ps_cm N p) && ps_ho N p 0 (N (160 + 46 * p + 20)) k) with
    | true =>
      right
      rw [if_pos rfl]
      rw [Bool.and_eq_true] at hq
      rw [(pany_iff _ _).mpr ⟨k, of_decide_eq_true hq.1, hq.2⟩]
      rfl
    | false =>
      left
      refine ⟨(), fun j hj => ?_, if_neg (by decide)⟩
      by_cases e3 : j = k
      · rw [e3]; exact hq
      · exact h j (by omega)
  · intro f _ h
    have e : pany (ps_ho N p 0 (N (160 + 46 * p + 20))) (ps_cm N p) = false := by
      cases e : pany (ps_ho N p 0 (N (160 + 46 * p + 20))) (ps_cm N p) with
      | false => rfl
      | true =>
        obtain ⟨k, h1, h2⟩ := (pany_iff _ _).mp e
        have := h k (by omega)
        rw [decide_eq_true h1, h2] at this
        cases this
    rw [e]
    rfl
end QZ
