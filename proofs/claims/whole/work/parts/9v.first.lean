/-! WHAT STANDS AT THE BEGINNING -/
section QG9
variable {I : po_I} {st : Nat → Nat} {a q o b : Nat} {s : n3} {N : po_N}
def pFR (i : Nat) : Int32 := if i = 0 then 2 else if i = 1 then 1 else if i = 2 then 50 else if i = 3 then 3 else if i = 4 then 10 else if i = 5 then 63 else 1
theorem nRuls_row (hb : b ≠ a + 1) (I : po_I) : ∀ n j, j < n → nRuls a b I n (a + 1) j = I b (j % 7)
  | n + 1, j, h => by
    show (po_u (nRuls a b I n) (a + 1) n (nRuls a b I n b (n % 7))) (a + 1) j = _
    by_cases e : j = n
    · rw [e, po_uaa, nRuls_ne _ _ _ _ _ hb]
    · rw [po_uu, if_neg (by omega)]
      exact nRuls_row hb I n j (by omega)
theorem nT_I (b a : Nat) (s : n3) {q : Nat} (hq : q < a + 5) : (nT b a s).2.2 q = nRuls a b (nT0I s.2.2 a) 28 q := by
  have h1 := nVars_lo (a := a) (nPrms a (nLots a (nT0K s.1 a, nT0R s.2.1 a, nRuls a b (nT0I s.2.2 a) 28) 8) 10) 12 q (by omega)
  have h2 := nPrms_lo (a := a) (nLots a (nT0K s.1 a, nT0R s.2.1 a, nRuls a b (nT0I s.2.2 a) 28) 8) 10 q (by omega)
  have h3 := nLots_lo (a := a) (nT0K s.1 a, nT0R s.2.1 a, nRuls a b (nT0I s.2.2 a) 28) 8 q (by omega)
  exact h1.2.2.trans (h2.2.2.trans h3.2.2)
/-- the row of an empty town -/
def pN0 (N : po_N) : Prop := N 0 = 0 ∧ N 1 = 0 ∧ N 2 = 0 ∧ N 3 = 0 ∧ ∀ j, j < 28 → N (4 + j) = pFR (j % 7)
theorem nT_TR (hb : b < a) (hF : ∀ i, i < 7 → s.2.2 b i = pFR i) (hN : pN0 N) : pTR (nT b a s).2.2 a N := by
  obtain ⟨n0, n1, n2, n3', n4⟩ := hN
  have e0 : (nT b a s).2.2 a = nT0I s.2.2 a a := (nT_I b a s (by omega)).trans (nRuls_ne _ _ _ _ _ (by omega))
  have eb : nT0I s.2.2 a b = s.2.2 b := by
    unfold nT0I
    rw [po_u_ne (by omega), po_w_ne (by omega), po_u_ne (by omega), po_w_ne (by omega), po_u_ne (by omega), po_w_ne (by omega), po_w_ne (by omega), po_u_ne (by omega)]
  have z1 : pv N 1 = 0 := pvv_of (x := 0) n1 (by omega)
  have z2 : pv N 2 = 0 := pvv_of (x := 0) n2 (by omega)
  have z3 : pv N 3 = 0 := pvv_of (x := 0) n3' (by omega)
  have c0 : nT0I s.2.2 a a 0 = 0 := by
    unfold nT0I
    rw [po_uu, if_neg (by omega), po_w_ne (by omega), po_uu, if_neg (by omega), po_w_ne (by omega), po_uu, if_neg (by omega), po_w_ne (by omega), po_w_ne (by omega), po_uaa]
  have c3 : nT0I s.2.2 a a 3 = 0 := by
    unfold nT0I
    rw [po_uu, if_neg (by omega), po_w_ne (by omega), po_uu, if_neg (by omega), po_w_ne (by omega), po_uaa]
  have c5 : nT0I s.2.2 a a 5 = 0 := by
    unfold nT0I
    rw [po_uu, if_neg (by omega), po_w_ne (by omega), po_uaa]
  have c7 : nT0I s.2.2 a a 7 = 0 := by
    unfold nT0I
    rw [po_uaa]
  refine ⟨by rw [e0, c0, n0], by rw [e0, c3, n1], by rw [e0, c5, n2], by rw [e0, c7, n3'], fun j hj => ?_, fun i hi => by omega, fun i hi => by omega, fun i hi => by omega⟩
  rw [nT_I b a s (by omega), nRuls_row (by omega) _ 28 j hj, eb, hF _ (Nat.mod_lt _ (by omega)), n4 j hj]
theorem nMrls_row (o : Nat) (I : po_I) : ∀ n j, nMrls o I n (o + 1) j = if 4 ≤ j ∧ j < 4 + 7 * n then pFR ((j - 4) % 7) else I (o + 1) j
  | 0, j => by rw [if_neg (by omega)]; rfl
  | n + 1, j => by
    have ih := nMrls_row o I n j
    show (nMrl o (nMrls o I n) n) (o + 1) j = _
    unfold nMrl
    by_cases h : 4 + 7 * n ≤ j ∧ j < 4 + 7 * n + 7
    · rw [if_pos (by omega)]
      obtain ⟨i, hi, rfl⟩ : ∃ i, i < 7 ∧ j = 4 + 7 * n + i := ⟨j - (4 + 7 * n), by omega, by omega⟩
      rw [show (4 + 7 * n + i - 4) % 7 = i by omega]
      have hc : i = 0 ∨ i = 1 ∨ i = 2 ∨ i = 3 ∨ i = 4 ∨ i = 5 ∨ i = 6 := by omega
      rcases hc with rfl | rfl | rfl | rfl | rfl | rfl | rfl
      · rw [po_uu, if_neg (by omega), po_uu, if_neg (by omega), po_uu, if_neg (by omega), po_uu, if_neg (by omega), po_uu, if_neg (by omega), po_uu, if_neg (by omega)]
        exact po_uaa _ _ _ _
      · rw [po_uu, if_neg (by omega), po_uu, if_neg (by omega), po_uu, if_neg (by omega), po_uu, if_neg (by omega), po_uu, if_neg (by omega)]
        exact po_uaa _ _ _ _
      · rw [po_uu, if_neg (by omega), po_uu, if_neg (by omega), po_uu, if_neg (by omega), po_uu, if_neg (by omega)]
        exact po_uaa _ _ _ _
      · rw [po_uu, if_neg (by omega), po_uu, if_neg (by omega), po_uu, if_neg (by omega)]
        exact po_uaa _ _ _ _
      · rw [po_uu, if_neg (by omega), po_uu, if_neg (by omega)]
        exact po_uaa _ _ _ _
      · rw [po_uu, if_neg (by omega)]
        exact po_uaa _ _ _ _
      · exact po_uaa _ _ _ _
    · rw [po_uu, if_neg (by omega), po_uu, if_neg (by omega), po_uu, if_neg (by omega), po_uu, if_neg (by omega), po_uu, if_neg (by omega), po_uu, if_neg (by omega), po_uu, if_neg (by omega), ih]
      by_cases h2 : 4 ≤ j ∧ j < 4 + 7 * n
      · rw [if_pos h2, if_pos (by omega)]
      · rw [if_neg h2, if_neg (by omega)]
theorem nM_row (o : Nat) (s : n3) : pN0 ((nM o s).2.2 (o + 1)) := by
  have e : ∀ j, (nM0 o s).2.2 (o + 1) j = 0 := by
    intro j
    unfold nM0
    dsimp only
    rw [po_w_ne (by omega), po_w_ne (by omega), po_u_ne (by omega), po_w_ne (by omega), po_w_ne (by omega), po_w_ne (by omega), po_w_ne (by omega), po_w_at]
  have r : ∀ j, (nM o s).2.2 (o + 1) j = if 4 ≤ j ∧ j < 4 + 7 * 4 then pFR ((j - 4) % 7) else (nM0 o s).2.2 (o + 1) j := fun j => nMrls_row o _ 4 j
  refine ⟨by rw [r, if_neg (by omega), e], by rw [r, if_neg (by omega), e], by rw [r, if_neg (by omega), e], by rw [r, if_neg (by omega), e], fun j hj => ?_⟩
  rw [r, if_pos (by omega), Nat.add_sub_cancel_left]
theorem pN0_V {n : Nat} (hN : pN0 N) : pV N ∧ pB N n := by
  obtain ⟨n0, n1, n2, n3', n4⟩ := hN
  have z0 : pv N 0 = 0 := pvv_of (x := 0) n0 (by omega)
  have z1 : pv N 1 = 0 := pvv_of (x := 0) n1 (by omega)
  have z2 : pv N 2 = 0 := pvv_of (x := 0) n2 (by omega)
  have z3 : pv N 3 = 0 := pvv_of (x := 0) n3' (by omega)
  refine ⟨⟨pvc_of (x := 0) n0 (by omega) (by omega) (by omega), pvc_of (x := 0) n1 (by omega) (by omega) (by omega), pvc_of (x := 0) n2 (by omega) (by omega) (by omega), pvc_of (x := 0) n3' (by omega) (by omega) (by omega), fun z hz => ?_, fun i hi => by omega, fun i hi => by omega, fun i hi => by omega⟩, by rw [z0]; omega, fun i hi => by omega, fun i hi => by omega, fun i hi => by omega⟩
  have f : ∀ i, i < 7 → N (4 + 7 * z + i) = pFR i := fun i hi => by
    have := n4 (7 * z + i) (by omega)
    rw [show 4 + (7 * z + i) = 4 + 7 * z + i by omega, show (7 * z + i) % 7 = i by omega] at this
    exact this
  exact ⟨pvc_of (x := 2) (f 0 (by omega)) (by omega) (by omega) (by omega), pvc_of (x := 1) (f 1 (by omega)) (by omega) (by omega) (by omega), pvc_of (x := 50) (f 2 (by omega)) (by omega) (by omega) (by omega), pvc_of (x := 3) (f 3 (by omega)) (by omega) (by omega) (by omega), pvc_of (x := 10) (f 4 (by omega)) (by omega) (by omega) (by omega), pvc_of (x := 63) (f 5 (by omega)) (by omega) (by omega) (by omega), pvc_of (x := 1) (f 6 (by omega)) (by omega) (by omega) (by omega)⟩
end QG9
