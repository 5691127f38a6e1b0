/-! THE INVARIANT AT THE BEGINNING -/
section QH0
variable {I : po_I} {st : Nat → Nat} {a q o b : Nat} {s : n3} {N : po_N}
theorem nMrls_ne (o : Nat) (I : po_I) : ∀ n q, q ≠ o + 1 → nMrls o I n q = I q
  | 0, _, _ => rfl
  | n + 1, q, h => by
    show (nMrl o (nMrls o I n) n) q = _
    unfold nMrl
    rw [po_u_ne h, po_u_ne h, po_u_ne h, po_u_ne h, po_u_ne h, po_u_ne h, po_u_ne h]
    exact nMrls_ne o I n q h
theorem nM_lo (o : Nat) (s : n3) {q : Nat} (hq : q < o) : (nM o s).1 q = s.1 q ∧ (nM o s).2.1 q = s.2.1 q ∧ (nM o s).2.2 q = s.2.2 q := by
  refine ⟨?_, ?_, ?_⟩
  · show (nM0 o s).1 q = _
    unfold nM0
    dsimp only
    rw [po_w_ne (by omega), po_w_ne (by omega), po_w_ne (by omega), po_w_ne (by omega), po_w_ne (by omega), po_w_ne (by omega), po_w_ne (by omega)]
  · show (nM0 o s).2.1 q = _
    unfold nM0
    dsimp only
    rw [po_u_ne (by omega), po_w_ne (by omega), po_u_ne (by omega), po_w_ne (by omega), po_u_ne (by omega), po_w_ne (by omega), po_u_ne (by omega), po_w_ne (by omega), po_u_ne (by omega), po_w_ne (by omega), po_u_ne (by omega), po_w_ne (by omega), po_u_ne (by omega), po_w_ne (by omega)]
  · show nMrls o (nM0 o s).2.2 4 q = _
    rw [nMrls_ne _ _ _ _ (by omega)]
    unfold nM0
    dsimp only
    rw [po_w_ne (by omega), po_w_ne (by omega), po_u_ne (by omega), po_w_ne (by omega), po_w_ne (by omega), po_w_ne (by omega), po_w_ne (by omega), po_w_ne (by omega)]
theorem nM_at (o : Nat) (s : n3) (h : s.2.2 o = nw 0) : (nM o s).2.2 o 3 = 0 ∧ (nM o s).2.2 o 6 = 0 ∧ (nM o s).2.2 o 12 = 0 ∧ (nM o s).2.2 o 15 = -1 := by
  have e : ∀ j, (nM o s).2.2 o j = if j = 15 then -1 else 0 := by
    intro j
    show nMrls o (nM0 o s).2.2 4 o j = _
    rw [nMrls_ne _ _ _ _ (by omega)]
    unfold nM0
    dsimp only
    rw [po_w_ne (by omega), po_w_ne (by omega), po_uu]
    by_cases hj : j = 15
    · rw [if_pos ⟨rfl, hj⟩, if_pos hj]
    · rw [if_neg (by omega), if_neg hj, po_w_ne (by omega), po_w_ne (by omega), po_w_ne (by omega), po_w_ne (by omega), po_w_ne (by omega), h]
  exact ⟨e 3, e 6, e 12, e 15⟩
theorem nPasts_R (b o : Nat) (s : n3) : ∀ n i, i < n → (nPasts b o s n).2.1 (o + 281) i = .ref (o + 282 + 91 * i)
  | n + 1, i, h => by
    by_cases e : i = n
    · subst e
      exact po_uaa _ _ _ _
    · exact ((nTw_lo b (o + 282 + 91 * n) (o + 281) n (nPasts b o s n) (q := o + 281) (by omega)).2.2.1 i e).trans (nPasts_R b o s n i (by omega))
def nAll (b o : Nat) (s : n3) : n3 := nM (o + 828) (po_w (nOff b o s).1 (o + 828) (19, 19), po_w (nOff b o s).2.1 (o + 828) (nw .null), po_w (nOff b o s).2.2 (o + 828) (nw 0))
theorem nAll_lo (b o : Nat) (s : n3) {q : Nat} (hq : q < o + 828) : (nAll b o s).1 q = (nOff b o s).1 q ∧ (nAll b o s).2.1 q = (nOff b o s).2.1 q ∧ (nAll b o s).2.2 q = (nOff b o s).2.2 q := by
  obtain ⟨h1, h2, h3⟩ := nM_lo (o + 828) (po_w (nOff b o s).1 (o + 828) (19, 19), po_w (nOff b o s).2.1 (o + 828) (nw .null), po_w (nOff b o s).2.2 (o + 828) (nw 0)) hq
  dsimp only at h1 h2 h3
  rw [po_w_ne (by omega)] at h1 h2 h3
  exact ⟨h1, h2, h3⟩
theorem nM_at2 (o : Nat) (T : n3) : (nM o (po_w T.1 o (19, 19), po_w T.2.1 o (nw .null), po_w T.2.2 o (nw 0))).2.2 o 3 = 0 ∧ (nM o (po_w T.1 o (19, 19), po_w T.2.1 o (nw .null), po_w T.2.2 o (nw 0))).2.2 o 6 = 0 ∧ (nM o (po_w T.1 o (19, 19), po_w T.2.1 o (nw .null), po_w T.2.2 o (nw 0))).2.2 o 12 = 0 ∧ (nM o (po_w T.1 o (19, 19), po_w T.2.1 o (nw .null), po_w T.2.2 o (nw 0))).2.2 o 15 = -1 := nM_at o _ po_w_at
theorem nAll_at (b o : Nat) (s : n3) : (nAll b o s).2.2 (o + 828) 3 = 0 ∧ (nAll b o s).2.2 (o + 828) 6 = 0 ∧ (nAll b o s).2.2 (o + 828) 12 = 0 ∧ (nAll b o s).2.2 (o + 828) 15 = -1 := nM_at2 (o + 828) (nOff b o s)
/-- what the numbers of the office are -/
theorem nOff_I (b o : Nat) (s : n3) : (∀ q, q < o → (nOff b o s).2.2 q = s.2.2 q) ∧ (nOff b o s).2.2 o 5 = 0 ∧ (nOff b o s).2.2 o 7 = 0 ∧ (nOff b o s).2.2 (o + 1) 1 = 0 ∧ (nOff b o s).2.2 (o + 1) 3 = -1 ∧ ∀ q, o + 8 ≤ q → q < o + 99 → (nOff b o s).2.2 q = (nTw b (o + 8) o 2 (nSvy o (nRdr o s))).2.2 q := by
  have e1 : ∀ q, q < o + 282 → (nOff b o s).2.2 q = (nPst o (nTw b (o + 190) o 4 (nTw b (o + 99) o 3 (nTw b (o + 8) o 2 (nSvy o (nRdr o s)))))).2.2 q := fun q hq => (nPasts_lo b o _ 6 q hq).2.2
  have e2 : ∀ q, q < o + 190 → q ≠ o → (nOff b o s).2.2 q = (nTw b (o + 99) o 3 (nTw b (o + 8) o 2 (nSvy o (nRdr o s)))).2.2 q := by
    intro q hq hn
    rw [e1 q (by omega)]
    unfold nPst
    dsimp only
    rw [po_u_ne hn, po_w_ne (by omega), po_u_ne hn]
    exact (nTw_lo b (o + 190) o 4 _ (q := q) hq).2.2.2
  have e3 : ∀ q, q < o + 99 → q ≠ o → (nOff b o s).2.2 q = (nTw b (o + 8) o 2 (nSvy o (nRdr o s))).2.2 q := fun q hq hn => (e2 q (by omega) hn).trans (nTw_lo b (o + 99) o 3 _ (q := q) hq).2.2.2
  have e4 : ∀ q, q < o + 3 → q ≠ o → (nOff b o s).2.2 q = (nRdr o s).2.2 q := by
    intro q hq hn
    rw [e3 q (by omega) hn, (nTw_lo b (o + 8) o 2 _ (q := q) (by omega)).2.2.2]
    unfold nSvy nIA nI0
    dsimp only
    rw [po_w_ne (by omega), po_w_ne (by omega), po_w_ne (by omega), po_w_ne (by omega), po_w_ne (by omega)]
  refine ⟨fun q hq => ?_, ?_, ?_, ?_, ?_, fun q h1 h2 => e3 q h2 (by omega)⟩
  · rw [e4 q (by omega) (by omega)]
    unfold nRdr
    dsimp only
    rw [po_u_ne (by omega), po_u_ne (by omega), po_u_ne (by omega), po_w_ne (by omega), po_w_ne (by omega)]
  · rw [e1 o (by omega)]
    unfold nPst
    dsimp only
    rw [po_uu, if_neg (by omega), po_w_ne (by omega), po_uaa]
  · rw [e1 o (by omega)]
    unfold nPst
    exact po_uaa _ _ _ _
  · rw [e4 (o + 1) (by omega) (by omega)]
    unfold nRdr
    dsimp only
    rw [po_uu, if_neg (by omega), po_uu, if_neg (by omega), po_uaa]
  · rw [e4 (o + 1) (by omega) (by omega)]
    unfold nRdr
    dsimp only
    rw [po_uaa]
theorem nAll_inv (h0 : st 0 < o) (h1 : st 1 < o) (h2 : st 2 < o) (hF : ∀ i, i < 7 → s.2.2 (st 0) i = pFR i) (hS : pSt s.2.2 st) : pInv (nAll (st 0) o s).2.2 (nAll (st 0) o s).2.1 o (o + 828) st 0 := by
  obtain ⟨o1, o2, o3, o4, o5, o6⟩ := nOff_I (st 0) o s
  have lo := fun q (hq : q < o + 828) => (nAll_lo (st 0) o s hq).2.2
  have hrow : pN0 ((nAll (st 0) o s).2.2 (o + 828 + 1)) := nM_row _ _
  obtain ⟨m1, m2, m3, m4⟩ := nAll_at (st 0) o s
  obtain ⟨v1, v2⟩ := pN0_V (n := 0) hrow
  have hT : pTR (nTw (st 0) (o + 8) o 2 (nSvy o (nRdr o s))).2.2 (o + 8) ((nAll (st 0) o s).2.2 (o + 828 + 1)) := by
    refine nT_TR (by omega) (fun i hi => ?_) hrow
    dsimp only
    rw [po_w_ne (by omega)]
    unfold nSvy nIA nI0 nRdr
    dsimp only
    rw [po_w_ne (by omega), po_w_ne (by omega), po_w_ne (by omega), po_w_ne (by omega), po_w_ne (by omega), po_u_ne (by omega), po_u_ne (by omega), po_u_ne (by omega), po_w_ne (by omega), po_w_ne (by omega)]
    exact hF i hi
  have hR : ∀ i, i < 6 → (nAll (st 0) o s).2.1 (o + 281) i = .ref (o + 282 + 91 * i) := fun i hi => by
    rw [(nAll_lo (st 0) o s (q := o + 281) (by omega)).2.1]
    exact nPasts_R (st 0) o _ 6 i hi
  refine ⟨⟨v1, v2, hT.mv v1 fun q q1 q2 => (lo q (by omega)).trans (o6 q q1 (by omega))⟩, ⟨0, by omega, ?_, m1, ⟨fun i hi => ⟨i, hi, hR i hi⟩, fun i j hi hj hij => ?_⟩, fun i hi => by omega⟩, ⟨false, ?_, ?_, fun hb => by cases hb⟩, ⟨0, by omega, ?_, ?_, fun j hj => by omega, ?_⟩, fun j hj => ?_, ⟨Nat.le_refl _, h1, h2⟩⟩
  · rw [lo o (by omega), o3]; rfl
  · rw [hR i hi, hR j hj] at hij
    have h3 : o + 282 + 91 * i = o + 282 + 91 * j := Value.ref.inj hij
    omega
  · rw [lo o (by omega), o2]; rfl
  · rw [show (nAll (st 0) o s).2.2 (o + 828) 6 = 0 from m2]; rfl
  · rw [lo (o + 1) (by omega), o4]; rfl
  · exact m3
  · rw [lo (o + 1) (by omega), o5]; exact m4.symm
  · rw [lo (st 1) (by omega), lo (st 2) (by omega), o1 _ h1, o1 _ h2]; exact hS j hj
end QH0
