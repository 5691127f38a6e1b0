section QZ2
variable {I : po_I} {p P : Nat} {N : po_N}
def ps_ol (N : po_N) (p : Nat) (l : Int32) (k : Nat) : Bool := decide (k < ps_cm N p) && ps_ho N p 1 l k
theorem x_openSetWithLetter {l : Int32} (hT : pTP I P N (160 + 46 * p)) (h6 : ps_cm N p ≤ 6) : m_X2_openSetWithLetter I P l = some (pfold (ob (ps_ol N p l)) 6 0) := by
  have key : ∀ k, k < 32 → (bt (I P 16) k && decide (I (P + 4) k = l)) = ps_ol N p l k := by
    intro k hk
    unfold ps_ol
    by_cases h : k < ps_cm N p
    · obtain ⟨a1, a2, a3⟩ := (hT.cnd k hk).1 h
      rw [a1, a3, decide_eq_true h, Bool.true_and]
      unfold ps_ho ps_cp
      rw [if_neg (by omega), if_neg (by omega), if_neg (by omega), if_pos rfl]
    · rw [(hT.cnd k hk).2 (by unfold ps_cm at h; omega), decide_eq_false h]; rfl
  show m_X2_openSetWithLetter_4L I 5000 P l 0 (Int32.ofNat 0) = _
  refine (pl_fold (L := fun f x k => m_X2_openSetWithLetter_4L I f P l x (Int32.ofNat k)) (n := 6) (g := ob (ps_ol N p l)) (E := fun x => some x) ?_ ?_ (by omega) 0)
  · intro f x k hk
    show m_X2_openSetWithLetter_4 I _ _ _ _ _ = _
    unfold m_X2_openSetWithLetter_4 m_X2_openSetWithLetter_34 ob
    simp only [po_let]
    rw [← key k (by omega), if_neg (show ¬ (6 : Int32) ≤ Int32.ofNat k from mt (pl_le (a := 6) (by omega) (by omega)).mp (by omega)), x_isOpen (by omega), Option.bind_some, if_pos (show po_in (Int32.ofNat k) 6 = true from pl_inl hk (by omega)), pl_clamp (by omega), show Int32.ofNat k + 1 = Int32.ofNat (k + 1) from pl_add k 1]
    cases bt (I P 16) k with
    | false => rfl
    | true =>
      rw [if_neg (show ¬ pb true = 0 by decide), Bool.true_and]
      by_cases e2 : I (P + 4) k = l
      · rw [if_pos e2, decide_eq_true e2, if_pos rfl]
      · rw [if_neg e2, decide_eq_false e2, if_neg (by decide)]
  · intro f x
    rfl
end QZ2
