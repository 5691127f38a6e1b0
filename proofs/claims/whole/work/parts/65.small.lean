theorem q_bits9 {n : Nat} (hn : n < 512) : m_X8_bits (Int32.ofNat n) = some (Int32.ofNat (pc (fun c => n.testBit c) 9)) := by
  have h : ∀ n, n < 512 → m_X8_bits (Int32.ofNat n) = some (Int32.ofNat (pc (fun c => n.testBit c) 9)) := by decide +kernel
  exact h n hn
theorem q_lowest9 {n : Nat} (hn : n < 512) (h0 : 0 < n) : m_X8_lowest (Int32.ofNat n) = m_X7_lowestKind (Int32.ofNat n) := by
  have h : ∀ n, n < 512 → 0 < n → m_X8_lowest (Int32.ofNat n) = m_X7_lowestKind (Int32.ofNat n) := by decide +kernel
  exact h n hn h0
theorem q_lowest9s {n : Nat} (hn : n < 512) (h0 : 0 < n) : (m_X8_lowest (Int32.ofNat n)).isSome = true := by
  have h : ∀ n, n < 512 → 0 < n → (m_X8_lowest (Int32.ofNat n)).isSome = true := by decide +kernel
  exact h n hn h0
