/-! THE MODEL READS: permits -/
section QE7
variable {I J K : po_I} {M p p' k n e i b : Nat} {w : pW} {N N' : po_N} {a : pA}
theorem q_prm75 {l u f g : Nat} (h17 : K M 17 = Int32.ofNat a.1) (hav : pAv a) (hb : ∀ j, j < 4 * a.1 → K (M + 6) j = Int32.ofNat (pAn a j)) (hk : k < 10) (hf : f < 10) : ∃ J, m_X8_readPermit_75L 5000 K M (Int32.ofNat l) (Int32.ofNat u) (Int32.ofNat f) (Int32.ofNat g) (Int32.ofNat k) (Int32.ofNat 0) = some J ∧ (∀ q, q ≠ M + 1 → J q = K q) ∧ (∀ j, (j < 160 + 46 * k ∨ 160 + 46 * k + 46 ≤ j) → J (M + 1) j = K (M + 1) j) ∧ pAt (J (M + 1)) (160 + 46 * k) a ∧ J (M + 1) (160 + 46 * k) = Int32.ofNat l ∧ J (M + 1) (160 + 46 * k + 1) = Int32.ofNat u ∧ J (M + 1) (160 + 46 * k + 17) = Int32.ofNat f ∧ J (M + 1) (160 + 46 * k + 18) = Int32.ofNat g ∧ J (M + 1) (160 + 46 * k + 22) = -1 ∧ J (M + 1) (160 + 46 * k + 27) = -1 ∧ J (M + 1) (160 + 46 * k + 25) = Int32.ofNat (20 + ps_n (pAs a) * f) ∧ ∀ j, j < 46 → 15 ≤ j → j ≠ 17 → j ≠ 18 → j ≠ 22 → j ≠ 25 → j ≠ 27 → J (M + 1) (160 + 46 * k + j) = 0 := by
  have hav1 := hav.1
  have hav3 := hav.2.1
  refine po_inv (L := fun t J r => m_X8_readPermit_75L t J M (Int32.ofNat l) (Int32.ofNat u) (Int32.ofNat f) (Int32.ofNat g) (Int32.ofNat k) (Int32.ofNat r)) (n := 46) (fun r J => (∀ q, q ≠ M + 1 → J q = K q) ∧ (∀ j, (j < 160 + 46 * k ∨ 160 + 46 * k + r ≤ j) → J (M + 1) j = K (M + 1) j) ∧ ∀ j, j < r → J (M + 1) (160 + 46 * k + j) = 0) (fun x => ∃ J, x = some J ∧ (∀ q, q ≠ M + 1 → J q = K q) ∧ (∀ j, (j < 160 + 46 * k ∨ 160 + 46 * k + 46 ≤ j) → J (M + 1) j = K (M + 1) j) ∧ pAt (J (M + 1)) (160 + 46 * k) a ∧ J (M + 1) (160 + 46 * k) = Int32.ofNat l ∧ J (M + 1) (160 + 46 * k + 1) = Int32.ofNat u ∧ J (M + 1) (160 + 46 * k + 17) = Int32.ofNat f ∧ J (M + 1) (160 + 46 * k + 18) = Int32.ofNat g ∧ J (M + 1) (160 + 46 * k + 22) = -1 ∧ J (M + 1) (160 + 46 * k + 27) = -1 ∧ J (M + 1) (160 + 46 * k + 25) = Int32.ofNat (20 + ps_n (pAs a) * f) ∧ ∀ j, j < 46 → 15 ≤ j → j ≠ 17 → j ≠ 18 → j ≠ 22 → j ≠ 25 → j ≠ 27 → J (M + 1) (160 + 46 * k + j) = 0) ?_ ?_ 46 5000 K 0 (by omega) (by omega) ⟨fun _ _ => rfl, fun _ _ => rfl, fun j hj => by omega⟩
  · intro t J r hr h
    left
    refine ⟨po_u J (M + 1) (160 + 46 * k + r) 0, ⟨fun q hq => by rw [po_u_ne hq]; exact h.1 q hq, fun j hj => by rw [po_uu, if_neg (by omega)]; exact h.2.1 j (by omega), fun j hj => ?_⟩, ?_⟩
    · by_cases e : j = r
      · rw [e, po_uaa]
      · rw [po_uu, if_neg (by omega)]; exact h.2.2 j (by omega)
    · show m_X8_readPermit_75 _ _ _ _ _ _ _ _ _ = _
      unfold m_X8_readPermit_75
      rw [if_neg (show ¬ (46 : Int32) ≤ Int32.ofNat r from mt (pl_le (a := 46) (by omega) (by omega)).mp (by omega)), q_set (by omega), Option.bind_some, show Int32.ofNat r + 1 = Int32.ofNat (r + 1) from pl_add r 1]
  · intro t J h
    show ∃ _, m_X8_readPermit_75 _ _ _ _ _ _ _ _ _ = _ ∧ _
    unfold m_X8_readPermit_75
    obtain ⟨j1, j2, j3⟩ := h
    rw [if_pos (show (46 : Int32) ≤ Int32.ofNat 46 by decide), show m_X8_set J M (Int32.ofNat k) 0 (Int32.ofNat l) = _ from q_set (j := 0) (by omega), Option.bind_some]
    obtain ⟨X1, x1⟩ : ∃ X, X = po_u J (M + 1) (160 + 46 * k + 0) (Int32.ofNat l) := ⟨_, rfl⟩
    rw [← x1, show m_X8_set X1 M (Int32.ofNat k) 1 (Int32.ofNat u) = _ from q_set (j := 1) (by omega), Option.bind_some]
    obtain ⟨X2, x2⟩ : ∃ X, X = po_u X1 (M + 1) (160 + 46 * k + 1) (Int32.ofNat u) := ⟨_, rfl⟩
    rw [← x2, show m_X8_set X2 M (Int32.ofNat k) 17 (Int32.ofNat f) = _ from q_set (j := 17) (by omega), Option.bind_some]
    obtain ⟨X3, x3⟩ : ∃ X, X = po_u X2 (M + 1) (160 + 46 * k + 17) (Int32.ofNat f) := ⟨_, rfl⟩
    rw [← x3, show m_X8_set X3 M (Int32.ofNat k) 18 (Int32.ofNat g) = _ from q_set (j := 18) (by omega), Option.bind_some]
    obtain ⟨X4, x4⟩ : ∃ X, X = po_u X3 (M + 1) (160 + 46 * k + 18) (Int32.ofNat g) := ⟨_, rfl⟩
    rw [← x4, show m_X8_set X4 M (Int32.ofNat k) 22 (-1) = _ from q_set (j := 22) (by omega), Option.bind_some]
    obtain ⟨X5, x5⟩ : ∃ X, X = po_u X4 (M + 1) (160 + 46 * k + 22) (-1) := ⟨_, rfl⟩
    rw [← x5, show m_X8_set X5 M (Int32.ofNat k) 27 (-1) = _ from q_set (j := 27) (by omega), Option.bind_some]
    obtain ⟨X6, x6⟩ : ∃ X, X = po_u X5 (M + 1) (160 + 46 * k + 27) (-1) := ⟨_, rfl⟩
    have o6 : ∀ q, q ≠ M + 1 → X6 q = K q := fun q hq => by rw [x6, po_u_ne hq, x5, po_u_ne hq, x4, po_u_ne hq, x3, po_u_ne hq, x2, po_u_ne hq, x1, po_u_ne hq, j1 q hq]
    have r6 : ∀ j, j ≠ 160 + 46 * k → j ≠ 160 + 46 * k + 1 → j ≠ 160 + 46 * k + 17 → j ≠ 160 + 46 * k + 18 → j ≠ 160 + 46 * k + 22 → j ≠ 160 + 46 * k + 27 → X6 (M + 1) j = J (M + 1) j := fun j a1 a2 a3 a4 a5 a6 => by rw [x6, po_uu, if_neg (by omega), x5, po_uu, if_neg (by omega), x4, po_uu, if_neg (by omega), x3, po_uu, if_neg (by omega), x2, po_uu, if_neg (by omega), x1, po_uu, if_neg (by omega)]
    have v27 : X6 (M + 1) (160 + 46 * k + 27) = -1 := by rw [x6, po_uaa]
    have v22 : X6 (M + 1) (160 + 46 * k + 22) = -1 := by rw [x6, po_uu, if_neg (by omega), x5, po_uaa]
    have v18 : X6 (M + 1) (160 + 46 * k + 18) = Int32.ofNat g := by rw [x6, po_uu, if_neg (by omega), x5, po_uu, if_neg (by omega), x4, po_uaa]
    have v17 : X6 (M + 1) (160 + 46 * k + 17) = Int32.ofNat f := by rw [x6, po_uu, if_neg (by omega), x5, po_uu, if_neg (by omega), x4, po_uu, if_neg (by omega), x3, po_uaa]
    have v1 : X6 (M + 1) (160 + 46 * k + 1) = Int32.ofNat u := by rw [x6, po_uu, if_neg (by omega), x5, po_uu, if_neg (by omega), x4, po_uu, if_neg (by omega), x3, po_uu, if_neg (by omega), x2, po_uaa]
    have v0 : X6 (M + 1) (160 + 46 * k) = Int32.ofNat l := by rw [x6, po_uu, if_neg (by omega), x5, po_uu, if_neg (by omega), x4, po_uu, if_neg (by omega), x3, po_uu, if_neg (by omega), x2, po_uu, if_neg (by omega), x1]; exact po_uaa _ _ _ _
    rw [← x6, show (46 : Int32) * Int32.ofNat k = Int32.ofNat (46 * k) from pl_mul 46 k, show (160 : Int32) + Int32.ofNat (46 * k) = Int32.ofNat (160 + 46 * k) from pl_add 160 _]
    clear x1 x2 x3 x4 x5 x6
    obtain ⟨Y, y1, y2, y3, y4⟩ := q_putArea (K := X6) (M := M) (b := 160 + 46 * k) (a := a) (by rw [o6 M (by omega)]; exact h17) hav1 hav3 (fun j hj => by rw [o6 (M + 6) (by omega)]; exact hb j hj) (by omega)
    obtain ⟨w1, w2⟩ := pAt_v y3 hav
    have w17 : Y (M + 1) (160 + 46 * k + 17) = Int32.ofNat f := (y4 _ (by omega)).trans v17
    have efa : ps_fa (Y (M + 1)) k = Int32.ofNat (ps_n (pAs a) * f) := by
      unfold ps_fa ps_bc
      rw [w2, w17, pl_mul]
    rw [y1, Option.bind_some, q_floorArea hk w1.1, Option.bind_some, efa, show (20 : Int32) + Int32.ofNat (ps_n (pAs a) * f) = Int32.ofNat (20 + ps_n (pAs a) * f) from pl_add 20 _, show m_X8_set Y M (Int32.ofNat k) 25 (Int32.ofNat (20 + ps_n (pAs a) * f)) = _ from q_set (j := 25) (by omega), Option.bind_some]
    have z : ∀ j, j ≠ 160 + 46 * k + 25 → (po_u Y (M + 1) (160 + 46 * k + 25) (Int32.ofNat (20 + ps_n (pAs a) * f))) (M + 1) j = Y (M + 1) j := fun j hj => by rw [po_uu, if_neg (by omega)]
    refine ⟨_, rfl, fun q hq => by rw [po_u_ne hq, y2 q hq, o6 q hq], fun j hj => ?_, ⟨by rw [z _ (by omega)]; exact y3.1, fun j hj => by rw [z _ (by omega)]; exact y3.2 j hj⟩, ?_, ?_, ?_, ?_, ?_, ?_, po_uaa _ _ _ _, fun j c1 c2 c3 c4 c5 c6 c7 => ?_⟩
    · rw [z _ (by omega), y4 _ (by omega), r6 _ (by omega) (by omega) (by omega) (by omega) (by omega) (by omega), j2 _ (by omega)]
    · rw [z _ (by omega), y4 _ (by omega)]; exact v0
    · rw [z _ (by omega), y4 _ (by omega)]; exact v1
    · rw [z _ (by omega)]; exact w17
    · rw [z _ (by omega), y4 _ (by omega)]; exact v18
    · rw [z _ (by omega), y4 _ (by omega)]; exact v22
    · rw [z _ (by omega), y4 _ (by omega)]; exact v27
    · rw [z _ (by omega), y4 _ (by omega), r6 _ (by omega) (by omega) (by omega) (by omega) (by omega) (by omega)]; exact j3 j c1
theorem pPrmN_same {l u f g c : Nat} (hk : pv N 2 = k) (hk8 : k < 10) (hat : pAt N' (160 + 46 * k) a) (h2 : N' 2 = Int32.ofNat (k + 1)) (c0 : N' (160 + 46 * k) = Int32.ofNat l) (c1 : N' (160 + 46 * k + 1) = Int32.ofNat u) (c17 : N' (160 + 46 * k + 17) = Int32.ofNat f) (c18 : N' (160 + 46 * k + 18) = Int32.ofNat g) (c22 : N' (160 + 46 * k + 22) = -1) (c27 : N' (160 + 46 * k + 27) = -1) (c25 : N' (160 + 46 * k + 25) = Int32.ofNat (20 + c * f)) (cz : ∀ j, j < 46 → 15 ≤ j → j ≠ 17 → j ≠ 18 → j ≠ 22 → j ≠ 25 → j ≠ 27 → N' (160 + 46 * k + j) = 0) (hN : ∀ j, j < 668 → j ≠ 2 → (j < 160 + 46 * k ∨ 160 + 46 * k + 46 ≤ j) → N' j = N j) : psame (pPrmN N l u f g a c) N' := by
  intro j hj
  unfold pPrmN
  rw [hk]
  by_cases e2 : j = 2
  · rw [if_pos e2, e2]; exact h2
  rw [if_neg e2]
  by_cases er : 160 + 46 * k ≤ j ∧ j < 160 + 46 * k + 46
  · rw [if_pos er]
    by_cases e0 : j = 160 + 46 * k
    · rw [if_pos e0, e0]; exact c0
    by_cases e1 : j = 160 + 46 * k + 1
    · rw [if_neg e0, if_pos e1, e1]; exact c1
    by_cases e3 : j = 160 + 46 * k + 2
    · rw [if_neg e0, if_neg e1, if_pos e3, e3]; exact hat.1
    by_cases e15 : j < 160 + 46 * k + 15
    · rw [if_neg e0, if_neg e1, if_neg e3, if_pos e15]
      have := hat.2 (j - (160 + 46 * k + 3)) (by omega)
      rw [show 160 + 46 * k + 3 + (j - (160 + 46 * k + 3)) = j by omega] at this
      exact this
    by_cases e17 : j = 160 + 46 * k + 17
    · rw [if_neg e0, if_neg e1, if_neg e3, if_neg e15, if_pos e17, e17]; exact c17
    by_cases e18 : j = 160 + 46 * k + 18
    · rw [if_neg e0, if_neg e1, if_neg e3, if_neg e15, if_neg e17, if_pos e18, e18]; exact c18
    by_cases e22 : j = 160 + 46 * k + 22
    · rw [if_neg e0, if_neg e1, if_neg e3, if_neg e15, if_neg e17, if_neg e18, if_pos e22, e22]; exact c22
    by_cases e25 : j = 160 + 46 * k + 25
    · rw [if_neg e0, if_neg e1, if_neg e3, if_neg e15, if_neg e17, if_neg e18, if_neg e22, if_pos e25, e25]; exact c25
    by_cases e27 : j = 160 + 46 * k + 27
    · rw [if_neg e0, if_neg e1, if_neg e3, if_neg e15, if_neg e17, if_neg e18, if_neg e22, if_neg e25, if_pos e27, e27]; exact c27
    rw [if_neg e0, if_neg e1, if_neg e3, if_neg e15, if_neg e17, if_neg e18, if_neg e22, if_neg e25, if_neg e27]
    have := cz (j - (160 + 46 * k)) (by omega) (by omega) (by omega) (by omega) (by omega) (by omega) (by omega)
    rw [show 160 + 46 * k + (j - (160 + 46 * k)) = j by omega] at this
    exact this
  · rw [if_neg er]
    exact hN j hj e2 (by omega)
end QE7
