theorem bt_shrn (x : Int32) {u c : Nat} (hu : u < 32) (hc : c + u < 32) : bt (x >>> (Int32.ofNat u &&& 31)) c = bt x (c + u) := by
  have h : ∀ u, u < 32 → BitVec.smod (Int32.ofNat u &&& 31).toBitVec 32 = BitVec.ofNat 32 u := by decide +kernel
  have h2 : (BitVec.ofNat 32 u).toNat = u := by rw [BitVec.toNat_ofNat]; omega
  unfold bt
  rw [Int32.toBitVec_shiftRight, h u hu, BitVec.getLsbD_sshiftRight', decide_eq_false (by omega), h2, if_pos (by omega), Nat.add_comm]
  rfl
theorem bt_1 {c : Nat} (hc : c < 32) : bt 1 c = decide (c = 0) := by
  have h : ∀ c, c < 32 → bt 1 c = decide (c = 0) := by decide +kernel
  exact h c hc
theorem bt_test (l : Int32) {u : Nat} (hu : u < 32) : l &&& (1 <<< (Int32.ofNat u &&& 31)) = 0 ↔ bt l u = false := by
  rw [bt_eq0]
  constructor
  · intro h
    have := h u hu
    rw [bt_and, bt_one hu hu, decide_eq_true rfl, Bool.and_true] at this
    exact this
  · intro h c hc
    rw [bt_and, bt_one hu hc]
    by_cases e : c = u
    · rw [e, h]; rfl
    · rw [decide_eq_false e, Bool.and_false]
theorem bt_test2 (l : Int32) {u : Nat} (hu : u < 32) : (l >>> (Int32.ofNat u &&& 31)) &&& 1 = 0 ↔ bt l u = false := by
  rw [bt_eq0]
  constructor
  · intro h
    have := h 0 (by omega)
    rw [bt_and, bt_1 (by omega), bt_shrn l hu (by omega), decide_eq_true rfl, Bool.and_true, Nat.zero_add] at this
    exact this
  · intro h c hc
    rw [bt_and, bt_1 hc]
    by_cases e : c = 0
    · rw [e, bt_shrn l hu (by omega), Nat.zero_add, h]; rfl
    · rw [decide_eq_false e, Bool.and_false]
section QK
variable {I : po_I} {s t p k : Nat} {N : po_N}
theorem x_f44 (a b : Int32) : m_X4_isFinding_44 a b = some (pb (decide (a < b))) := by
  unfold m_X4_isFinding_44 m_X4_isFinding_54
  by_cases h : b ≤ a
  · rw [if_pos h, if_pos pn_0, decide_eq_false (by grind)]; rfl
  · rw [if_neg h, if_pos pn_1, decide_eq_true (by grind)]; rfl
theorem x_f69 (a b : Int32) : m_X4_isFinding_69 a b = some (pb (decide (b < a))) := by
  unfold m_X4_isFinding_69 m_X4_isFinding_79
  by_cases h : a ≤ b
  · rw [if_pos h, if_pos pn_0, decide_eq_false (by grind)]; rfl
  · rw [if_neg h, if_pos pn_1, decide_eq_true (by grind)]; rfl
theorem x_isFinding {m l : Int32} (hk : k < 9) (hm : k = 7 → ∃ u, u < 32 ∧ m = Int32.ofNat u) : m_X4_isFinding (Int32.ofNat k) m l = some (pb (pw (Int32.ofNat k) m l)) := by
  unfold m_X4_isFinding m_X4_isFinding_e pw
  rcases (by omega : k = 0 ∨ k = 1 ∨ k = 2 ∨ k = 3 ∨ k = 4 ∨ k = 5 ∨ k = 6 ∨ k = 7 ∨ k = 8) with h | h | h | h | h | h | h | h | h
  · subst h; exact x_f69 m l
  · subst h; exact x_f69 m l
  · subst h; exact x_f44 m l
  · subst h; exact x_f44 m l
  · subst h; exact x_f69 m l
  · subst h; exact x_f69 m l
  · subst h; exact x_f69 m l
  · obtain ⟨u, hu, rfl⟩ := hm h
    subst h
    rw [if_neg (by decide), if_neg (by decide), if_neg (by decide), if_neg (by decide), if_neg (by decide), if_pos (show Int32.ofNat 7 = 7 from rfl), if_pos (show Int32.ofNat 7 = 7 from rfl)]
    unfold m_X4_isFinding_68
    by_cases h : bt l u = false
    · rw [if_pos ((bt_test l hu).mpr h), if_pos pn_1, decide_eq_true ((bt_test2 l hu).mpr h)]; rfl
    · rw [if_neg (mt (bt_test l hu).mp h), if_pos pn_0, decide_eq_false (mt (bt_test2 l hu).mp h)]; rfl
  · subst h; exact x_f44 m l
theorem x_helps {a m l : Int32} (hk : 2 ≤ k) (hk9 : k < 9) : m_X4_helps (Int32.ofNat k) a m l = some (pb (ph (Int32.ofNat k) m l a)) := by
  have h44 : ∀ k : Nat, k < 9 → k ≠ 7 → m_X4_helps_44 (Int32.ofNat k) a m l = some (pb (!pw (Int32.ofNat k) m (if 0 < l - a then l - a else 0))) := by
    intro k hk h7
    unfold m_X4_helps_44 m_X4_helps_64
    rw [x_isFinding hk (fun e => absurd e h7), Option.bind_some]
    cases pw (Int32.ofNat k) m (if 0 < l - a then l - a else 0) <;> rfl
  have h67 : ∀ k : Nat, k < 9 → k ≠ 7 → m_X4_helps_67 (Int32.ofNat k) a m l = some (pb (!pw (Int32.ofNat k) m (l + a))) := by
    intro k hk h7
    unfold m_X4_helps_67 m_X4_helps_83
    rw [x_isFinding hk (fun e => absurd e h7), Option.bind_some]
    cases pw (Int32.ofNat k) m (l + a) <;> rfl
  unfold m_X4_helps m_X4_helps_e ph pha
  rcases (by omega : k = 2 ∨ k = 3 ∨ k = 4 ∨ k = 5 ∨ k = 6 ∨ k = 7 ∨ k = 8) with h | h | h | h | h | h | h <;> subst h
  · exact h44 2 (by omega) (by omega)
  · exact h44 3 (by omega) (by omega)
  · exact h67 4 (by omega) (by omega)
  · exact h67 5 (by omega) (by omega)
  · exact h67 6 (by omega) (by omega)
  · rfl
  · exact h44 8 (by omega) (by omega)
end QK
