section QA6
variable {I : po_I} {M c r : Nat} {G : Nat → Nat → Bool}
theorem q_lf26 {r11 : Nat → Int32 → Int32 → Int32 → Int32 → Int32 → Option Int32} {best width y : Nat} (hG : ∀ x y, x < 20 → y < 14 → I (M + 7) (20 * y + x) = pb (G x y)) (hy : y < 14) (hw : c + width ≤ 20) : ∃ w, m_X8_largestFrom_26L I r11 5000 M (Int32.ofNat c) (Int32.ofNat r) (Int32.ofNat best) (Int32.ofNat width) (Int32.ofNat y) (Int32.ofNat 0) = m_X8_largestFrom_57 I r11 M (Int32.ofNat c) (Int32.ofNat r) (Int32.ofNat best) (Int32.ofNat y) (Int32.ofNat w) ∧ w ≤ width ∧ (∀ i, i < w → G (c + i) y = true) ∧ (w = width ∨ G (c + w) y = false) := by
  refine po_inv (L := fun f (_ : Unit) x => m_X8_largestFrom_26L I r11 f M (Int32.ofNat c) (Int32.ofNat r) (Int32.ofNat best) (Int32.ofNat width) (Int32.ofNat y) (Int32.ofNat x)) (n := width) (fun x _ => ∀ i, i < x → G (c + i) y = true) (fun t => ∃ w, t = m_X8_largestFrom_57 I r11 M (Int32.ofNat c) (Int32.ofNat r) (Int32.ofNat best) (Int32.ofNat y) (Int32.ofNat w) ∧ w ≤ width ∧ (∀ i, i < w → G (c + i) y = true) ∧ (w = width ∨ G (c + w) y = false)) ?_ ?_ width 5000 () 0 (by omega) (by omega) (fun i hi => by omega)
  · intro f _ x hx h
    have e : m_X8_largestFrom_26L I r11 (f + 1) M (Int32.ofNat c) (Int32.ofNat r) (Int32.ofNat best) (Int32.ofNat width) (Int32.ofNat y) (Int32.ofNat x) = if G (c + x) y = true then m_X8_largestFrom_26L I r11 f M (Int32.ofNat c) (Int32.ofNat r) (Int32.ofNat best) (Int32.ofNat width) (Int32.ofNat y) (Int32.ofNat (x + 1)) else m_X8_largestFrom_57 I r11 M (Int32.ofNat c) (Int32.ofNat r) (Int32.ofNat best) (Int32.ofNat y) (Int32.ofNat x) := by
      show m_X8_largestFrom_26 I r11 _ _ _ _ _ _ _ _ = _
      unfold m_X8_largestFrom_26
      rw [if_neg (mt (pl_le (by omega) (by omega)).mp (by omega)), pk_20, pl_mul, pl_add, pl_add, if_pos (show po_in (Int32.ofNat (20 * y + c + x)) 280 = true from pl_inl (by omega) (by omega)), pl_clamp (by omega), show 20 * y + c + x = 20 * y + (c + x) by omega, hG (c + x) y (by omega) hy, pb_nar, show Int32.ofNat x + 1 = Int32.ofNat (x + 1) from pl_add x 1]
      cases G (c + x) y <;> rfl
    show (∃ s' : Unit, _ ∧ m_X8_largestFrom_26L I r11 (f + 1) _ _ _ _ _ _ (Int32.ofNat x) = _) ∨ ∃ w, m_X8_largestFrom_26L I r11 (f + 1) _ _ _ _ _ _ (Int32.ofNat x) = _ ∧ _
    rw [e]
    by_cases hg : G (c + x) y = true
    · left
      rw [if_pos hg]
      refine ⟨(), fun i hi => ?_, rfl⟩
      by_cases e2 : i = x
      · rw [e2]; exact hg
      · exact h i (by omega)
    · right
      rw [if_neg hg]
      exact ⟨x, rfl, by omega, h, Or.inr (by simpa using hg)⟩
  · intro f _ h
    refine ⟨width, ?_, Nat.le_refl _, h, Or.inl rfl⟩
    show m_X8_largestFrom_26 I r11 _ _ _ _ _ _ _ _ = _
    unfold m_X8_largestFrom_26
    rw [if_pos ((pl_le (by omega) (by omega)).mpr (Nat.le_refl _))]
theorem q_largestFrom (hG : ∀ x y, x < 20 → y < 14 → I (M + 7) (20 * y + x) = pb (G x y)) (hc : c < 20) (hr : r < 14) : ∃ b, m_X8_largestFrom I M (Int32.ofNat c) (Int32.ofNat r) = some (Int32.ofNat b) ∧ b ≤ 280 ∧ (∀ w h, pgr G c r w h → w * h ≤ b) ∧ pgm G b := by
  unfold m_X8_largestFrom m_X8_largestFrom_e
  simp only [po_let]
  rw [pk_20, pl_sub (by omega)]
  refine po_inv (L := fun f (q : Nat × Nat) y => m_X8_largestFrom_11L I f M (Int32.ofNat c) (Int32.ofNat r) (Int32.ofNat q.1) (Int32.ofNat q.2) (Int32.ofNat y)) (n := 14) (fun y q => r ≤ y ∧ c + q.2 ≤ 20 ∧ q.1 ≤ 280 ∧ (∀ x y', x < q.2 → r ≤ y' → y' < y → G (c + x) y' = true) ∧ (∀ w, c + w ≤ 20 → (∀ x y', x < w → r ≤ y' → y' < y → G (c + x) y' = true) → w ≤ q.2) ∧ (∀ w h, pgr G c r w h → r + h ≤ y → w * h ≤ q.1) ∧ pgm G q.1) (fun t => ∃ b, t = some (Int32.ofNat b) ∧ b ≤ 280 ∧ (∀ w h, pgr G c r w h → w * h ≤ b) ∧ pgm G b) ?_ ?_ (14 - r) 5000 (0, 20 - c) r (by omega) (by omega) ⟨Nat.le_refl _, by dsimp only; omega, by dsimp only; omega, fun x y' _ h1 h2 => by omega, fun w hw _ => by dsimp only; omega, fun w h hg hh => by have := hg.2.2.2.1; omega, Or.inl rfl⟩
  · rintro f ⟨A, W⟩ y hy ⟨g1, g2, g3, g4, g5, g6, g7⟩
    dsimp only at g2 g3 g4 g5 g6 g7
    by_cases hW : W = 0
    · right
      show ∃ b, m_X8_largestFrom_11 I _ _ _ _ _ _ _ = _ ∧ _
      refine ⟨A, ?_, g3, fun w h hg => ?_, g7⟩
      · unfold m_X8_largestFrom_11 m_X8_largestFrom_81
        rw [if_neg (show ¬ (14 : Int32) ≤ Int32.ofNat y from mt (pl_le (a := 14) (by omega) (by omega)).mp (by omega)), if_pos (show Int32.ofNat W ≤ 0 from (pl_le (b := 0) (by omega) (by omega)).mpr (by omega))]
      · by_cases hh : r + h ≤ y
        · exact g6 w h hg hh
        · exfalso
          obtain ⟨q1, q2, q3, q4, q5⟩ := hg
          have := g5 w q1 (fun x y' hx h1 h2 => by
            have := q5 x (y' - r) hx (by omega)
            rwa [show r + (y' - r) = y' by omega] at this)
          omega
    · left
      obtain ⟨w, w1, w2, w3, w4⟩ := q_lf26 (r := r) (best := A) (r11 := m_X8_largestFrom_11L I f) hG hy g2
      have hle : w * (y - r + 1) ≤ 280 := by
        have := Nat.mul_le_mul (show w ≤ 20 by omega) (show y - r + 1 ≤ 14 by omega)
        omega
      have e : m_X8_largestFrom_11L I (f + 1) M (Int32.ofNat c) (Int32.ofNat r) (Int32.ofNat A) (Int32.ofNat W) (Int32.ofNat y) = m_X8_largestFrom_11L I f M (Int32.ofNat c) (Int32.ofNat r) (Int32.ofNat (if A < w * (y - r + 1) then w * (y - r + 1) else A)) (Int32.ofNat w) (Int32.ofNat (y + 1)) := by
        show m_X8_largestFrom_11 I _ _ _ _ _ _ _ = _
        unfold m_X8_largestFrom_11
        rw [if_neg (show ¬ (14 : Int32) ≤ Int32.ofNat y from mt (pl_le (a := 14) (by omega) (by omega)).mp (by omega)), if_neg (show ¬ Int32.ofNat W ≤ 0 from mt (pl_le (b := 0) (by omega) (by omega)).mp (by omega))]
        refine w1.trans ?_
        unfold m_X8_largestFrom_57
        simp only [po_let]
        rw [pl_sub g1, show Int32.ofNat (y - r) + 1 = Int32.ofNat (y - r + 1) from pl_add _ 1, pl_mul, show Int32.ofNat y + 1 = Int32.ofNat (y + 1) from pl_add y 1]
        by_cases h : A < w * (y - r + 1)
        · rw [if_pos ((pl_lt (by omega) (by omega)).mpr h), if_pos h]
        · rw [if_neg (mt (pl_lt (by omega) (by omega)).mp h), if_neg h]
      have hA : A ≤ (if A < w * (y - r + 1) then w * (y - r + 1) else A) := by split <;> omega
      have hB : w * (y - r + 1) ≤ (if A < w * (y - r + 1) then w * (y - r + 1) else A) := by split <;> omega
      have hmax : ∀ v, c + v ≤ 20 → (∀ x y', x < v → r ≤ y' → y' < y + 1 → G (c + x) y' = true) → v ≤ w := by
        intro v hv h
        have h1 := g5 v hv (fun x y' hx a b => h x y' hx a (by omega))
        refine Classical.byContradiction fun hn => ?_
        rcases w4 with e4 | e4
        · omega
        · have := h w y (by omega) g1 (by omega)
          rw [e4] at this
          cases this
      refine ⟨(if A < w * (y - r + 1) then w * (y - r + 1) else A, w), ⟨by omega, by dsimp only; omega, by dsimp only; split <;> omega, fun x y' hx h1 h2 => ?_, hmax, fun v h hg hh => ?_, ?_⟩, e⟩
      · dsimp only at hx
        by_cases e2 : y' = y
        · rw [e2]; exact w3 x hx
        · exact g4 x y' (by omega) h1 (by omega)
      · dsimp only
        by_cases h2 : r + h ≤ y
        · exact Nat.le_trans (g6 v h hg h2) hA
        · obtain ⟨q1, q2, q3, q4, q5⟩ := hg
          have h3 : h = y - r + 1 := by omega
          have h4 := hmax v q1 (fun x y' hx h1 h2 => by
            have := q5 x (y' - r) hx (by omega)
            rwa [show r + (y' - r) = y' by omega] at this)
          refine Nat.le_trans ?_ hB
          rw [h3]
          exact Nat.mul_le_mul_right _ h4
      · dsimp only
        by_cases h : A < w * (y - r + 1)
        · rw [if_pos h]
          right
          refine ⟨c, r, w, y - r + 1, ⟨by omega, by omega, ?_, by omega, fun x y' hx hy' => ?_⟩, rfl⟩
          · refine Classical.byContradiction fun hn => ?_
            rw [show w = 0 by omega, Nat.zero_mul] at h
            omega
          · by_cases e2 : r + y' = y
            · rw [e2]; exact w3 x hx
            · exact g4 x (r + y') (by omega) (by omega) (by omega)
        · rw [if_neg h]; exact g7
  · rintro f ⟨A, W⟩ ⟨g1, g2, g3, g4, g5, g6, g7⟩
    exact ⟨A, rfl, g3, fun w h hg => g6 w h hg hg.2.1, g7⟩
theorem q_largest155 (hG : ∀ x y, x < 20 → y < 14 → I (M + 7) (20 * y + x) = pb (G x y)) : ∃ R, m_X8_largest_155L 5000 I M (Int32.ofNat 0) (Int32.ofNat 0) = some (Int32.ofNat R, I) ∧ pmx G R := by
  refine po_inv (L := fun f (R : Nat) k => m_X8_largest_155L f I M (Int32.ofNat R) (Int32.ofNat k)) (n := 280) (fun k R => R ≤ 280 ∧ (∀ c r w h, pgr G c r w h → 20 * r + c < k → w * h ≤ R) ∧ pgm G R) (fun x => ∃ R, x = some (Int32.ofNat R, I) ∧ pmx G R) ?_ ?_ 280 5000 0 0 (by omega) (by omega) ⟨by omega, fun c r w h _ hr => by omega, Or.inl rfl⟩
  · rintro f R k hk ⟨g1, g2, g3⟩
    left
    obtain ⟨b, b1, b2, b3, b4⟩ := q_largestFrom (c := k % 20) (r := k / 20) hG (by omega) (by omega)
    refine ⟨if R < b then b else R, ⟨by split <;> omega, fun c r w h hg hr => ?_, ?_⟩, ?_⟩
    · by_cases e : 20 * r + c < k
      · have := g2 c r w h hg e
        split <;> omega
      · have hc : c < 20 := by have := hg.1; have := hg.2.2.1; omega
        have ec : c = k % 20 := by omega
        have er : r = k / 20 := by omega
        rw [ec, er] at hg
        have := b3 w h hg
        split <;> omega
    · split
      · exact b4
      · exact g3
    · show m_X8_largest_155 _ _ _ _ _ = _
      unfold m_X8_largest_155
      simp only [po_let]
      rw [if_neg (show ¬ (280 : Int32) ≤ Int32.ofNat k from mt (pl_le (a := 280) (by omega) (by omega)).mp (by omega)), pk_20, pl_xy (by omega), pl_div (by omega) (by omega), b1, Option.bind_some, show Int32.ofNat k + 1 = Int32.ofNat (k + 1) from pl_add k 1]
      by_cases h : R < b
      · rw [if_pos ((pl_lt (by omega) (by omega)).mpr h), if_pos h]
      · rw [if_neg (mt (pl_lt (by omega) (by omega)).mp h), if_neg h]
  · rintro f R ⟨g1, g2, g3⟩
    refine ⟨R, rfl, fun c r w h hg => g2 c r w h hg ?_, g3⟩
    have := hg.1
    have := hg.2.1
    have := hg.2.2.1
    have := hg.2.2.2.1
    omega
end QA6
section QA7
variable {I : po_I} {M k s t : Nat} {N : po_N}
/-- a cell that can be built on -/
def ps_gd (N : po_N) (k : Nat) (c r : Int32) : Bool := pa_in N (32 + 16 * k) c r && (!ps_blt N (Int32.ofNat k) c r (-1) && (decide (pv N (4 + 7 * pv N (32 + 16 * k)) ≤ pdist (pa_in N (32 + 16 * k)) (pv N (32 + 16 * k + 1)) c r) && decide (pv N (4 + 7 * pv N (32 + 16 * k) + 1) ≤ pside (pa_in N (32 + 16 * k)) (pv N (32 + 16 * k + 1)) c r)))
theorem pside_le (S : Int32 → Int32 → Bool) (fr : Nat) (c r : Int32) : pside S fr c r ≤ 100 := pfold_le (fun d s hs => by split <;> (try split) <;> omega) 4 100 (Nat.le_refl _)
theorem q_largest58 (hV : pV (I (M + 1))) (hk : k < pv (I (M + 1)) 1) : ∃ R J, m_X8_largest_58L 5000 I M (Int32.ofNat k) (I (M + 1) (4 + 7 * pv (I (M + 1)) (32 + 16 * k))) (I (M + 1) (4 + 7 * pv (I (M + 1)) (32 + 16 * k) + 1)) (Int32.ofNat 0) = some (Int32.ofNat R, J) ∧ (∀ q, q ≠ M + 7 → J q = I q) ∧ pmx (fun c r => ps_gd (I (M + 1)) k (Int32.ofNat c) (Int32.ofNat r)) R := by
  have h1' := hV.2.1.2.2
  have hL := hV.2.2.2.2.2.1 k hk
  have hz := hL.1.2.2
  have hr0 := hV.2.2.2.2.1 (pv (I (M + 1)) (32 + 16 * k)) (by omega)
  have hf := hr0.1
  have hs := hr0.2.1
  refine po_inv (L := fun f (J : po_I) j => m_X8_largest_58L f J M (Int32.ofNat k) (I (M + 1) (4 + 7 * pv (I (M + 1)) (32 + 16 * k))) (I (M + 1) (4 + 7 * pv (I (M + 1)) (32 + 16 * k) + 1)) (Int32.ofNat j)) (n := 280) (fun j J => (∀ q, q ≠ M + 7 → J q = I q) ∧ ∀ i, i < j → J (M + 7) i = pb (ps_gd (I (M + 1)) k (Int32.ofNat (i % 20)) (Int32.ofNat (i / 20)))) (fun x => ∃ R J, x = some (Int32.ofNat R, J) ∧ (∀ q, q ≠ M + 7 → J q = I q) ∧ pmx (fun c r => ps_gd (I (M + 1)) k (Int32.ofNat c) (Int32.ofNat r)) R) ?_ ?_ 280 5000 I 0 (by omega) (by omega) ⟨fun _ _ => rfl, fun i hi => by omega⟩
  · rintro f J j hj ⟨g1, g2⟩
    left
    have hr : J (M + 1) = I (M + 1) := g1 _ (by omega)
    have hVJ : pV (J (M + 1)) := by rw [hr]; exact hV
    have hkJ : k < pv (J (M + 1)) 1 := by rw [hr]; exact hk
    obtain ⟨c1, c2⟩ := pg_c hj
    have hd := pdist_le (S := pa_in (I (M + 1)) (32 + 16 * k)) (d := pv (I (M + 1)) (32 + 16 * k + 1)) (c := Int32.ofNat (j % 20)) (r := Int32.ofNat (j / 20))
    have hd2 := pside_le (pa_in (I (M + 1)) (32 + 16 * k)) (pv (I (M + 1)) (32 + 16 * k + 1)) (Int32.ofNat (j % 20)) (Int32.ofNat (j / 20))
    have hf2 := hf.2.2
    have hs2 := hs.2.2
    have e : m_X8_largest_58L (f + 1) J M (Int32.ofNat k) (I (M + 1) (4 + 7 * pv (I (M + 1)) (32 + 16 * k))) (I (M + 1) (4 + 7 * pv (I (M + 1)) (32 + 16 * k) + 1)) (Int32.ofNat j) = m_X8_largest_58L f (po_u J (M + 7) j (pb (ps_gd (I (M + 1)) k (Int32.ofNat (j % 20)) (Int32.ofNat (j / 20))))) M (Int32.ofNat k) (I (M + 1) (4 + 7 * pv (I (M + 1)) (32 + 16 * k))) (I (M + 1) (4 + 7 * pv (I (M + 1)) (32 + 16 * k) + 1)) (Int32.ofNat (j + 1)) := by
      show m_X8_largest_58 _ _ _ _ _ _ _ = _
      unfold m_X8_largest_58 m_X8_largest_141 m_X8_largest_142 po_hlet ps_gd
      simp only [po_let]
      rw [if_neg (show ¬ (280 : Int32) ≤ Int32.ofNat j from mt (pl_le (a := 280) (by omega) (by omega)).mp (by omega)), pk_20, pl_xy (by omega), pl_div (by omega) (by omega), q_isInLot (by omega) (by rw [hr]; exact hL.2.2.1), Option.bind_some, q_isBuilt hVJ, Option.bind_some, q_frontDistance hVJ hkJ c1 c2, Option.bind_some, q_sideDistance hVJ hkJ c1 c2, Option.bind_some, hr, if_pos (show po_in (Int32.ofNat j) 280 = true from pl_inl hj (by omega)), pl_clamp (by omega), show Int32.ofNat j + 1 = Int32.ofNat (j + 1) from pl_add j 1]
      cases pa_in (I (M + 1)) (32 + 16 * k) (Int32.ofNat (j % 20)) (Int32.ofNat (j / 20)) with
      | false => rfl
      | true =>
        rw [if_neg (show ¬ pb true = 0 by decide), Bool.true_and]
        cases ps_blt (I (M + 1)) (Int32.ofNat k) (Int32.ofNat (j % 20)) (Int32.ofNat (j / 20)) (-1) with
        | true => rfl
        | false =>
          rw [if_pos pb_f, Bool.not_false, Bool.true_and]
          rw [show I (M + 1) (4 + 7 * pv (I (M + 1)) (32 + 16 * k)) = Int32.ofNat (pv (I (M + 1)) (4 + 7 * pv (I (M + 1)) (32 + 16 * k))) from hf.1, show I (M + 1) (4 + 7 * pv (I (M + 1)) (32 + 16 * k) + 1) = Int32.ofNat (pv (I (M + 1)) (4 + 7 * pv (I (M + 1)) (32 + 16 * k) + 1)) from hs.1]
          by_cases h1 : pv (I (M + 1)) (4 + 7 * pv (I (M + 1)) (32 + 16 * k)) ≤ pdist (pa_in (I (M + 1)) (32 + 16 * k)) (pv (I (M + 1)) (32 + 16 * k + 1)) (Int32.ofNat (j % 20)) (Int32.ofNat (j / 20))
          · rw [if_neg (mt (pl_lt (by omega) (by omega)).mp (by omega)), decide_eq_true h1, Bool.true_and]
            by_cases h2 : pv (I (M + 1)) (4 + 7 * pv (I (M + 1)) (32 + 16 * k) + 1) ≤ pside (pa_in (I (M + 1)) (32 + 16 * k)) (pv (I (M + 1)) (32 + 16 * k + 1)) (Int32.ofNat (j % 20)) (Int32.ofNat (j / 20))
            · rw [if_neg (mt (pl_lt (by omega) (by omega)).mp (by omega)), decide_eq_true h2, if_pos (show po_in (Int32.ofNat j) 280 = true from pl_inl hj (by omega))]; rfl
            · rw [if_pos ((pl_lt (by omega) (by omega)).mpr (by omega)), decide_eq_false h2]; rfl
          · rw [if_pos ((pl_lt (by omega) (by omega)).mpr (by omega)), decide_eq_false h1]; rfl
    refine ⟨_, ⟨fun q hq => ?_, fun i hi => ?_⟩, e⟩
    · rw [po_u_ne hq]; exact g1 q hq
    · rw [po_uu]
      by_cases e2 : i = j
      · rw [if_pos ⟨rfl, e2⟩, e2]
      · rw [if_neg (by omega)]; exact g2 i (by omega)
  · rintro f J ⟨g1, g2⟩
    have hG : ∀ x y, x < 20 → y < 14 → J (M + 7) (20 * y + x) = pb ((fun c r => ps_gd (I (M + 1)) k (Int32.ofNat c) (Int32.ofNat r)) x y) := by
      intro x y hx hy
      rw [g2 (20 * y + x) (by omega), show (20 * y + x) % 20 = x by omega, show (20 * y + x) / 20 = y by omega]
    obtain ⟨R, r1, r2⟩ := q_largest155 hG
    exact ⟨R, J, r1, g1, r2⟩
end QA7
