/-! THE LAYOUT AT THE BEGINNING: the cells by their distance from the office -/
section QH1
variable {o N a b q M : Nat} {K K' : po_K} {R R' : po_R} {s s' : n3}
def rK (o N : Nat) (K K' : po_K) : Prop := (∀ i, K (o + i) = K' i) ∧ ∀ i, N ≤ i → K' i = (0, 0)
def rR (o : Nat) (R R' : po_R) : Prop := ∀ i j k, R' i j = .ref k → R (o + i) j = .ref (o + k)
theorem rK.up (h : rK o N K K') (hM : N ≤ M) : rK o M K K' := ⟨h.1, fun i hi => h.2 i (Nat.le_trans hM hi)⟩
theorem rK.w {v : Nat × Nat} (h : rK o N K K') (e : b = o + a) (ha : a < N) : rK o N (po_w K b v) (po_w K' a v) := by
  subst e
  refine ⟨fun i => ?_, fun i hi => ?_⟩
  · by_cases hia : i = a
    · subst hia
      rw [po_w_at, po_w_at]
    · rw [po_w_ne (show o + i ≠ o + a by omega), po_w_ne hia]
      exact h.1 i
  · rw [po_w_ne (show i ≠ a by omega)]
    exact h.2 i hi
theorem rR.w (h : rR o R R') (e : b = o + a) : rR o (po_w R b (nw .null)) (po_w R' a (nw .null)) := by
  subst e
  intro i j k hk
  by_cases hia : i = a
  · subst hia
    rw [po_w_at] at hk
    cases hk
  · rw [po_w_ne hia] at hk
    rw [po_w_ne (show o + i ≠ o + a by omega)]
    exact h i j k hk
theorem rR.u {j c k : Nat} (h : rR o R R') (e : b = o + a) (e2 : c = o + k) : rR o (po_u R b j (.ref c)) (po_u R' a j (.ref k)) := by
  subst e
  subst e2
  intro i j2 k2 hk
  rw [po_uu] at hk
  rw [po_uu]
  by_cases hia : i = a ∧ j2 = j
  · rw [if_pos hia] at hk
    rw [if_pos ⟨by rw [hia.1], hia.2⟩, Value.ref.inj hk]
  · rw [if_neg hia] at hk
    rw [if_neg (fun x => hia ⟨by omega, x.2⟩)]
    exact h i j2 k2 hk
theorem rLots (h : rK a 91 s.1 s'.1) (g : rR a s.2.1 s'.2.1) : ∀ n, n ≤ 8 → rK a 91 (nLots a s n).1 (nLots 0 s' n).1 ∧ rR a (nLots a s n).2.1 (nLots 0 s' n).2.1
  | 0, _ => ⟨h, g⟩
  | n + 1, hn => by
    obtain ⟨h1, h2⟩ := rLots h g n (by omega)
    show rK a 91 (nLot a (nLots a s n) n).1 (nLot 0 (nLots 0 s' n) n).1 ∧ rR a (nLot a (nLots a s n) n).2.1 (nLot 0 (nLots 0 s' n) n).2.1
    generalize nLots a s n = T at *
    generalize nLots 0 s' n = T' at *
    unfold nLot
    dsimp only
    exact ⟨((h1.w (by omega) (by omega)).w (by omega) (by omega)).w (by omega) (by omega), (((((h2.w (by omega)).w (by omega)).w (by omega)).u (by omega) (by omega)).u (by omega) (by omega)).u (by omega) (by omega)⟩
theorem rPrms (h : rK a 91 s.1 s'.1) (g : rR a s.2.1 s'.2.1) : ∀ n, n ≤ 10 → rK a 91 (nPrms a s n).1 (nPrms 0 s' n).1 ∧ rR a (nPrms a s n).2.1 (nPrms 0 s' n).2.1
  | 0, _ => ⟨h, g⟩
  | n + 1, hn => by
    obtain ⟨h1, h2⟩ := rPrms h g n (by omega)
    show rK a 91 (nPrm a (nPrms a s n) n).1 (nPrm 0 (nPrms 0 s' n) n).1 ∧ rR a (nPrm a (nPrms a s n) n).2.1 (nPrm 0 (nPrms 0 s' n) n).2.1
    generalize nPrms a s n = T at *
    generalize nPrms 0 s' n = T' at *
    unfold nPrm
    dsimp only
    exact ⟨((((h1.w (by omega) (by omega)).w (by omega) (by omega)).w (by omega) (by omega)).w (by omega) (by omega)).w (by omega) (by omega), (((((((((h2.w (by omega)).w (by omega)).w (by omega)).u (by omega) (by omega)).u (by omega) (by omega)).w (by omega)).u (by omega) (by omega)).w (by omega)).u (by omega) (by omega)).u (by omega) (by omega)⟩
theorem rVars (h : rK a 91 s.1 s'.1) (g : rR a s.2.1 s'.2.1) : ∀ n, n ≤ 12 → rK a 91 (nVars a s n).1 (nVars 0 s' n).1 ∧ rR a (nVars a s n).2.1 (nVars 0 s' n).2.1
  | 0, _ => ⟨h, g⟩
  | n + 1, hn => by
    obtain ⟨h1, h2⟩ := rVars h g n (by omega)
    show rK a 91 (nVar a (nVars a s n) n).1 (nVar 0 (nVars 0 s' n) n).1 ∧ rR a (nVar a (nVars a s n) n).2.1 (nVar 0 (nVars 0 s' n) n).2.1
    generalize nVars a s n = T at *
    generalize nVars 0 s' n = T' at *
    unfold nVar
    dsimp only
    exact ⟨h1.w (by omega) (by omega), (h2.w (by omega)).u (by omega) (by omega)⟩
theorem rT {c c' : Nat} (h : rK a 91 s.1 s'.1) (g : rR a s.2.1 s'.2.1) : rK a 91 (nT c a s).1 (nT c' 0 s').1 ∧ rR a (nT c a s).2.1 (nT c' 0 s').2.1 := by
  have hK : rK a 91 (nT0K s.1 a) (nT0K s'.1 0) := by
    unfold nT0K
    exact (((h.w (by omega) (by omega)).w (by omega) (by omega)).w (by omega) (by omega)).w (by omega) (by omega)
  have hR : rR a (nT0R s.2.1 a) (nT0R s'.2.1 0) := by
    unfold nT0R
    exact (((((((g.w (by omega)).u (by omega) (by omega)).w (by omega)).u (by omega) (by omega)).w (by omega)).u (by omega) (by omega)).w (by omega)).u (by omega) (by omega)
  obtain ⟨h1, g1⟩ := rLots (s := (nT0K s.1 a, nT0R s.2.1 a, nRuls a c (nT0I s.2.2 a) 28)) (s' := (nT0K s'.1 0, nT0R s'.2.1 0, nRuls 0 c' (nT0I s'.2.2 0) 28)) hK hR 8 (Nat.le_refl _)
  obtain ⟨h2, g2⟩ := rPrms h1 g1 10 (Nat.le_refl _)
  exact rVars h2 g2 12 (Nat.le_refl _)
end QH1
