/-! THE READER: what a command does to a row -/
section QD4
variable {r p p' t k b n : Nat} {w : pW} {N N' : po_N}
def pLotN (N : po_N) (z f : Nat) (a : pA) : po_N := fun i => if i = 1 then Int32.ofNat (pv N 1 + 1) else if i = 32 + 16 * pv N 1 then Int32.ofNat z else if i = 32 + 16 * pv N 1 + 1 then Int32.ofNat f else if i = 32 + 16 * pv N 1 + 2 then Int32.ofNat a.1 else if 32 + 16 * pv N 1 + 3 ≤ i ∧ i < 32 + 16 * pv N 1 + 15 then Int32.ofNat (pAn a (i - (32 + 16 * pv N 1 + 3))) else N i
def sLot (w : pW) (N : po_N) (p : Nat) : Nat ⊕ (Nat × po_N) := if pv N 1 = 8 then .inl p else match sD w 48 0 4 (p + 1) with
  | none => .inl (p + 1)
  | some z => match sF w (p + 2) with
    | none => .inl (p + 2)
    | some f => match sA w (p + 3) with
      | .inl e => .inl e
      | .inr (a, q) => if pch w q = 59 then (if psh N (pv N 1) (pAs a) = true then .inl q else .inr (q + 1, pLotN N z f a)) else .inl q
def pPrmN (N : po_N) (l u f k : Nat) (a : pA) (c : Nat) : po_N := fun i => if i = 2 then Int32.ofNat (pv N 2 + 1) else if 160 + 46 * pv N 2 ≤ i ∧ i < 160 + 46 * pv N 2 + 46 then (if i = 160 + 46 * pv N 2 then Int32.ofNat l else if i = 160 + 46 * pv N 2 + 1 then Int32.ofNat u else if i = 160 + 46 * pv N 2 + 2 then Int32.ofNat a.1 else if i < 160 + 46 * pv N 2 + 15 then Int32.ofNat (pAn a (i - (160 + 46 * pv N 2 + 3))) else if i = 160 + 46 * pv N 2 + 17 then Int32.ofNat f else if i = 160 + 46 * pv N 2 + 18 then Int32.ofNat k else if i = 160 + 46 * pv N 2 + 22 then -1 else if i = 160 + 46 * pv N 2 + 25 then Int32.ofNat (20 + c * f) else if i = 160 + 46 * pv N 2 + 27 then -1 else 0) else N i
def sPrm (w : pW) (N : po_N) (p : Nat) : Nat ⊕ (Nat × po_N) := if pv N 2 = 10 then .inl p else match sD w 48 0 (pv N 1) (p + 1) with
  | none => .inl (p + 1)
  | some l => match sD w 48 0 6 (p + 2) with
    | none => .inl (p + 2)
    | some u => match sD w 48 1 10 (p + 3) with
      | none => .inl (p + 3)
      | some f => match sD w 48 0 10 (p + 4) with
        | none => .inl (p + 4)
        | some k => match sA w (p + 5) with
          | .inl e => .inl e
          | .inr (a, q) => if pch w q = 59 then .inr (q + 1, pPrmN N l u f k a (ps_n (pAs a))) else .inl q
def pVarN (N : po_N) (l k am d : Nat) : po_N := fun i => if i = 3 then Int32.ofNat (pv N 3 + 1) else if i = 620 + 4 * pv N 3 then Int32.ofNat l else if i = 620 + 4 * pv N 3 + 1 then Int32.ofNat k else if i = 620 + 4 * pv N 3 + 2 then Int32.ofNat am else if i = 620 + 4 * pv N 3 + 3 then Int32.ofNat (pv N 0 + d) else N i
def sVar (w : pW) (N : po_N) (p : Nat) : Nat ⊕ (Nat × po_N) := if pv N 3 = 12 then .inl p else match sD w 48 0 (pv N 1) (p + 1) with
  | none => .inl (p + 1)
  | some l => match sD w 48 2 9 (p + 2) with
    | none => .inl (p + 2)
    | some k => match sNum w 1 99 (p + 3) with
      | .inl e => .inl e
      | .inr (am, q) => if pch w q = 44 then (match sNum w 0 99 (q + 1) with
        | .inl e => .inl e
        | .inr (d, q2) => if pch w q2 = 59 then .inr (q2 + 1, pVarN N l k am d) else .inl q2) else .inl q
def pConN (N : po_N) (k ph l : Nat) : po_N := fun i => if i = 160 + 46 * k + 29 + pv N (160 + 46 * k + 45) then Int32.ofNat (1000 * ph + 2 * l + 1) else if i = 160 + 46 * k + 45 then Int32.ofNat (pv N (160 + 46 * k + 45) + 1) else N i
def sCon (w : pW) (N : po_N) (p : Nat) : Nat ⊕ (Nat × po_N) := match sD w 48 0 (pv N 2) (p + 1) with
  | none => .inl (p + 1)
  | some k => match sD w 48 0 4 (p + 2) with
    | none => .inl (p + 2)
    | some ph => if pv N (160 + 46 * k + 45) = 6 then .inl (p + 3) else match sD w 97 0 26 (p + 3) with
      | none => .inl (p + 3)
      | some l => if pch w (p + 4) = 59 then .inr (p + 5, pConN N k ph (97 + l)) else .inl (p + 4)
def sRul (w : pW) (N : po_N) (p : Nat) : Nat ⊕ (Nat × po_N) := match sD w 48 0 4 (p + 1) with
  | none => .inl (p + 1)
  | some z => match sD w 48 0 7 (p + 2) with
    | none => .inl (p + 2)
    | some r => match sNum w (pLe r) (pGr r) (p + 3) with
      | .inl e => .inl e
      | .inr (v, q) => if pch w q = 59 then .inr (q + 1, pup1 N (4 + 7 * z + r) (Int32.ofNat v)) else .inl q
def sC (w : pW) (N : po_N) (p : Nat) : Nat ⊕ (Nat × po_N) := if pch w p = 67 then sCon w N p else if pch w p = 76 then sLot w N p else if pch w p = 80 then sPrm w N p else if pch w p = 86 then sVar w N p else if pch w p = 90 then sRul w N p else .inl p
/-! what is left is a town -/
theorem pLotN_at (N : po_N) (z f : Nat) (a : pA) : pAt (pLotN N z f a) (32 + 16 * pv N 1) a ∧ pLotN N z f a 1 = Int32.ofNat (pv N 1 + 1) ∧ pLotN N z f a (32 + 16 * pv N 1) = Int32.ofNat z ∧ pLotN N z f a (32 + 16 * pv N 1 + 1) = Int32.ofNat f ∧ ∀ j, j ≠ 1 → (j < 32 + 16 * pv N 1 ∨ 32 + 16 * pv N 1 + 16 ≤ j) → pLotN N z f a j = N j := by
  refine ⟨⟨?_, fun j hj => ?_⟩, rfl, ?_, ?_, fun j h1 h2 => ?_⟩
  · unfold pLotN
    rw [if_neg (by omega), if_neg (by omega), if_neg (by omega), if_pos rfl]
  · unfold pLotN
    rw [if_neg (by omega), if_neg (by omega), if_neg (by omega), if_neg (by omega), if_pos (by omega), Nat.add_sub_cancel_left]
  · unfold pLotN
    rw [if_neg (by omega), if_pos rfl]
  · unfold pLotN
    rw [if_neg (by omega), if_neg (by omega), if_pos rfl]
  · unfold pLotN
    rw [if_neg (by omega), if_neg (by omega), if_neg (by omega), if_neg (by omega), if_neg (by omega)]
theorem sLot_ok (h : sLot w N p = .inr (p', N')) (hV : pV N) (hB : pB N n) : pV N' ∧ pB N' n ∧ p + 1 ≤ p' ∧ p' ≤ w.1 := by
  have h1' := hV.2.1.2.2
  unfold sLot at h
  split at h
  · cases h
  · rename_i hk
    split at h
    · cases h
    · rename_i z hz
      split at h
      · cases h
      · rename_i f hf
        split at h
        · cases h
        · rename_i a q ha
          split at h
          · rename_i h59
            split at h
            · cases h
            · simp only [Sum.inr.injEq, Prod.mk.injEq] at h
              obtain ⟨rfl, rfl⟩ := h
              have a1 := sD_some hz
              have a3 := sA_ok ha
              have hq := pch_in (w := w) (p := q) (by omega)
              have a2 : f < 4 := by
                unfold sF at hf
                repeat (split at hf; (obtain rfl := Option.some.inj hf; omega))
                cases hf
              obtain ⟨c1, c2, c3, c4, c5⟩ := pLotN_at N z f a
              exact ⟨pV_lot hV rfl (by omega) c2 c5 ⟨pvc_of c3 (by omega) (by omega) (by omega), pvc_of c4 (by omega) (by omega) (by omega), (pAt_v c1 a3.1).1⟩, pB_lot hV hB (by omega) c5, by omega, by omega⟩
          · cases h
theorem pPrmN_at (N : po_N) (l u f k : Nat) (a : pA) (c : Nat) : pAt (pPrmN N l u f k a c) (160 + 46 * pv N 2) a ∧ pPrmN N l u f k a c 2 = Int32.ofNat (pv N 2 + 1) ∧ (∀ j, j ≠ 2 → (j < 160 + 46 * pv N 2 ∨ 160 + 46 * pv N 2 + 46 ≤ j) → pPrmN N l u f k a c j = N j) ∧ pPrmN N l u f k a c (160 + 46 * pv N 2) = Int32.ofNat l ∧ pPrmN N l u f k a c (160 + 46 * pv N 2 + 1) = Int32.ofNat u ∧ pPrmN N l u f k a c (160 + 46 * pv N 2 + 17) = Int32.ofNat f ∧ pPrmN N l u f k a c (160 + 46 * pv N 2 + 18) = Int32.ofNat k ∧ pPrmN N l u f k a c (160 + 46 * pv N 2 + 22) = -1 ∧ pPrmN N l u f k a c (160 + 46 * pv N 2 + 25) = Int32.ofNat (20 + c * f) ∧ pPrmN N l u f k a c (160 + 46 * pv N 2 + 27) = -1 ∧ (∀ j, j < 46 → 15 ≤ j → j ≠ 17 → j ≠ 18 → j ≠ 22 → j ≠ 25 → j ≠ 27 → pPrmN N l u f k a c (160 + 46 * pv N 2 + j) = 0) := by
  refine ⟨⟨?_, fun j hj => ?_⟩, rfl, fun j h1 h2 => ?_, ?_, ?_, ?_, ?_, ?_, ?_, ?_, fun j h1 h2 h3 h4 h5 h6 h7 => ?_⟩
  · unfold pPrmN
    rw [if_neg (by omega), if_pos (by omega), if_neg (by omega), if_neg (by omega), if_pos rfl]
  · unfold pPrmN
    rw [if_neg (by omega), if_pos (by omega), if_neg (by omega), if_neg (by omega), if_neg (by omega), if_pos (by omega), Nat.add_sub_cancel_left]
  · unfold pPrmN
    rw [if_neg (by omega), if_neg (by omega)]
  · unfold pPrmN
    rw [if_neg (by omega), if_pos (by omega), if_pos rfl]
  · unfold pPrmN
    rw [if_neg (by omega), if_pos (by omega), if_neg (by omega), if_pos rfl]
  · unfold pPrmN
    rw [if_neg (by omega), if_pos (by omega), if_neg (by omega), if_neg (by omega), if_neg (by omega), if_neg (by omega), if_pos rfl]
  · unfold pPrmN
    rw [if_neg (by omega), if_pos (by omega), if_neg (by omega), if_neg (by omega), if_neg (by omega), if_neg (by omega), if_neg (by omega), if_pos rfl]
  · unfold pPrmN
    rw [if_neg (by omega), if_pos (by omega), if_neg (by omega), if_neg (by omega), if_neg (by omega), if_neg (by omega), if_neg (by omega), if_neg (by omega), if_pos rfl]
  · unfold pPrmN
    rw [if_neg (by omega), if_pos (by omega), if_neg (by omega), if_neg (by omega), if_neg (by omega), if_neg (by omega), if_neg (by omega), if_neg (by omega), if_neg (by omega), if_pos rfl]
  · unfold pPrmN
    rw [if_neg (by omega), if_pos (by omega), if_neg (by omega), if_neg (by omega), if_neg (by omega), if_neg (by omega), if_neg (by omega), if_neg (by omega), if_neg (by omega), if_neg (by omega), if_pos rfl]
  · unfold pPrmN
    rw [if_neg (by omega), if_pos (by omega), if_neg (by omega), if_neg (by omega), if_neg (by omega), if_neg (by omega), if_neg (by omega), if_neg (by omega), if_neg (by omega), if_neg (by omega), if_neg (by omega)]
theorem sPrm_ok (h : sPrm w N p = .inr (p', N')) (hV : pV N) (hB : pB N n) : pV N' ∧ pB N' n ∧ p + 1 ≤ p' ∧ p' ≤ w.1 := by
  have h1' := hV.2.1.2.2
  have h2' := hV.2.2.1.2.2
  unfold sPrm at h
  split at h
  · cases h
  · rename_i hk
    split at h
    · cases h
    · rename_i l hl
      split at h
      · cases h
      · rename_i u hu
        split at h
        · cases h
        · rename_i f hf
          split at h
          · cases h
          · rename_i k hk2
            split at h
            · cases h
            · rename_i a q ha
              split at h
              · rename_i h59
                simp only [Sum.inr.injEq, Prod.mk.injEq] at h
                obtain ⟨rfl, rfl⟩ := h
                have a1 := sD_some hl
                have a2 := sD_some hu
                have a4 := sD_some hf
                have a5 := sD_some hk2
                have a3 := sA_ok ha
                have hq := pch_in (w := w) (p := q) (by omega)
                obtain ⟨c1, c2, c3, c4, c5, c6, c7, c8, c9, c10, c11⟩ := pPrmN_at N l u f k a (ps_n (pAs a))
                generalize pPrmN N l u f k a (ps_n (pAs a)) = N' at *
                have z0 : ∀ j, j < 46 → 15 ≤ j → j ≠ 17 → j ≠ 18 → j ≠ 22 → j ≠ 25 → j ≠ 27 → pv N' (160 + 46 * pv N 2 + j) = 0 := fun j e1 e2 e3 e4 e5 e6 e7 => pvv_of (x := 0) (c11 j e1 e2 e3 e4 e5 e6 e7) (by omega)
                have zc : ∀ j hi, j < 46 → 15 ≤ j → j ≠ 17 → j ≠ 18 → j ≠ 22 → j ≠ 25 → j ≠ 27 → pv_c N' (160 + 46 * pv N 2 + j) 0 hi := fun j hi e1 e2 e3 e4 e5 e6 e7 => pvc_of (x := 0) (c11 j e1 e2 e3 e4 e5 e6 e7) (by omega) (by omega) (by omega)
                have hp : pP N' (160 + 46 * pv N 2) := by
                  refine ⟨pvc_of c4 (by omega) (by omega) (by omega), ?_, pvc_of c5 (by omega) (by omega) (by omega), (pAt_v c1 a3.1).1, pvc_of c6 (by omega) (by omega) (by omega), pvc_of c7 (by omega) (by omega) (by omega), zc 19 6 (by omega) (by omega) (by omega) (by omega) (by omega) (by omega) (by omega), zc 20 4 (by omega) (by omega) (by omega) (by omega) (by omega) (by omega) (by omega), zc 21 3 (by omega) (by omega) (by omega) (by omega) (by omega) (by omega) (by omega), zc 23 1 (by omega) (by omega) (by omega) (by omega) (by omega) (by omega) (by omega), zc 24 4095 (by omega) (by omega) (by omega) (by omega) (by omega) (by omega) (by omega), zc 45 6 (by omega) (by omega) (by omega) (by omega) (by omega) (by omega) (by omega), ?_, ?_, ?_⟩
                  · rw [pvv_of c4 (by omega), pg_vv (c3 1 (by omega) (by omega))]; omega
                  · rw [z0 19 (by omega) (by omega) (by omega) (by omega) (by omega) (by omega) (by omega)]; intro e; omega
                  · rw [z0 19 (by omega) (by omega) (by omega) (by omega) (by omega) (by omega) (by omega)]; intro e; omega
                  · rw [z0 45 (by omega) (by omega) (by omega) (by omega) (by omega) (by omega) (by omega)]; intro i e; omega
                exact ⟨pV_prm hV rfl (by omega) c2 c3 hp, pB_prm hV hB rfl (by omega) c2 c3 ⟨z0 19 (by omega) (by omega) (by omega) (by omega) (by omega) (by omega) (by omega), z0 20 (by omega) (by omega) (by omega) (by omega) (by omega) (by omega) (by omega), z0 21 (by omega) (by omega) (by omega) (by omega) (by omega) (by omega) (by omega)⟩, by omega, by omega⟩
              · cases h
theorem pVarN_at (N : po_N) (l k am d : Nat) : pVarN N l k am d 3 = Int32.ofNat (pv N 3 + 1) ∧ (∀ j, j ≠ 3 → (j < 620 + 4 * pv N 3 ∨ 620 + 4 * pv N 3 + 4 ≤ j) → pVarN N l k am d j = N j) ∧ pVarN N l k am d (620 + 4 * pv N 3) = Int32.ofNat l ∧ pVarN N l k am d (620 + 4 * pv N 3 + 1) = Int32.ofNat k ∧ pVarN N l k am d (620 + 4 * pv N 3 + 2) = Int32.ofNat am ∧ pVarN N l k am d (620 + 4 * pv N 3 + 3) = Int32.ofNat (pv N 0 + d) := by
  unfold pVarN
  refine ⟨rfl, fun j h1 h2 => ?_, ?_, ?_, ?_, ?_⟩
  · rw [if_neg (by omega), if_neg (by omega), if_neg (by omega), if_neg (by omega), if_neg (by omega)]
  · rw [if_neg (by omega), if_pos rfl]
  · rw [if_neg (by omega), if_neg (by omega), if_pos rfl]
  · rw [if_neg (by omega), if_neg (by omega), if_neg (by omega), if_pos rfl]
  · rw [if_neg (by omega), if_neg (by omega), if_neg (by omega), if_neg (by omega), if_pos rfl]
theorem sVar_ok (h : sVar w N p = .inr (p', N')) (hV : pV N) (hB : pB N n) : pV N' ∧ pB N' n ∧ p + 1 ≤ p' ∧ p' ≤ w.1 := by
  have h0' := hV.1.2.2
  have h1' := hV.2.1.2.2
  have h2' := hV.2.2.2.1.2.2
  unfold sVar at h
  split at h
  · cases h
  · rename_i hk
    split at h
    · cases h
    · rename_i l hl
      split at h
      · cases h
      · rename_i k hk2
        split at h
        · cases h
        · rename_i am q ha
          split at h
          · split at h
            · cases h
            · rename_i d q2 hd
              split at h
              · rename_i h59
                simp only [Sum.inr.injEq, Prod.mk.injEq] at h
                obtain ⟨rfl, rfl⟩ := h
                have a1 := sD_some hl
                have a2 := sD_some hk2
                have a3 := sNum_ok ha
                have a4 := sNum_ok hd
                have hq := pch_in (w := w) (p := q2) (by omega)
                have hB0 := hB.1
                obtain ⟨c1, c2, c3, c4, c5, c6⟩ := pVarN_at N l k am d
                exact ⟨pV_var hV rfl (by omega) c1 c2 ⟨pvc_of c3 (by omega) (by omega) (by omega), pvc_of c4 (by omega) (by omega) (by omega), pvc_of c5 (by omega) (by omega) (by omega), pvc_of c6 (by omega) (by omega) (by omega)⟩, pB_var hV hB rfl (by omega) c1 c2 (by rw [pvv_of c6 (by omega)]; omega), by omega, by omega⟩
              · cases h
          · cases h
end QD4
