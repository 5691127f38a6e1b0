section QA5
/-- a rectangle of good cells -/
def pgr (G : Nat → Nat → Bool) (c r w h : Nat) : Prop := c + w ≤ 20 ∧ r + h ≤ 14 ∧ 1 ≤ w ∧ 1 ≤ h ∧ ∀ x y, x < w → y < h → G (c + x) (r + y) = true
def pgm (G : Nat → Nat → Bool) (R : Nat) : Prop := R = 0 ∨ ∃ c r w h, pgr G c r w h ∧ w * h = R
def pmx (G : Nat → Nat → Bool) (R : Nat) : Prop := (∀ c r w h, pgr G c r w h → w * h ≤ R) ∧ pgm G R
theorem pmx_uq {G : Nat → Nat → Bool} {R R' : Nat} (h : pmx G R) (g : pmx G R') : R = R' := by
  have key : ∀ {A B : Nat}, pmx G A → pmx G B → A ≤ B := by
    intro A B hA hB
    rcases hA.2 with e | ⟨c, r, w, h, h1, h2⟩
    · omega
    · rw [← h2]; exact hB.1 c r w h h1
  exact Nat.le_antisymm (key h g) (key g h)
theorem pmx_congr {G G' : Nat → Nat → Bool} {R : Nat} (e : ∀ c r, c < 20 → r < 14 → G c r = G' c r) (g : pmx G R) : pmx G' R := by
  have key : ∀ c r w h, pgr G c r w h ↔ pgr G' c r w h := by
    intro c r w h
    unfold pgr
    constructor
    · rintro ⟨h1, h2, h3, h4, h5⟩
      exact ⟨h1, h2, h3, h4, fun x y hx hy => by rw [← e _ _ (by omega) (by omega)]; exact h5 x y hx hy⟩
    · rintro ⟨h1, h2, h3, h4, h5⟩
      exact ⟨h1, h2, h3, h4, fun x y hx hy => by rw [e _ _ (by omega) (by omega)]; exact h5 x y hx hy⟩
  refine ⟨fun c r w h h1 => g.1 c r w h ((key c r w h).mpr h1), ?_⟩
  rcases g.2 with e | ⟨c, r, w, h, h1, h2⟩
  · exact Or.inl e
  · exact Or.inr ⟨c, r, w, h, (key c r w h).mp h1, h2⟩
theorem pgr_le {G : Nat → Nat → Bool} {c r w h : Nat} (g : pgr G c r w h) : w * h ≤ 280 := by
  have := Nat.mul_le_mul (show w ≤ 20 by have := g.1; omega) (show h ≤ 14 by have := g.2.1; omega)
  omega
theorem x_longestRun {x : Int32} (hx : ∀ c, c < 32 → bt x c = true → c < 20) : ∃ w, w ≤ 20 ∧ m_X0_longestRun x = some (Int32.ofNat w) ∧ (w = 0 ∨ ∃ c, c + w ≤ 20 ∧ ∀ i, i < w → bt x (c + i) = true) ∧ ∀ c v, c + v ≤ 20 → (∀ i, i < v → bt x (c + i) = true) → v ≤ w := by
  refine po_inv (L := fun f (y : Int32) j => m_X0_longestRun_4L f y (Int32.ofNat j)) (n := 20) (fun j y => (∀ c, c < 32 → (bt y c = true ↔ j ≤ c ∧ ∀ i, i < j + 1 → bt x (c - j + i) = true)) ∧ (j = 0 ∨ ∃ c, c + j ≤ 20 ∧ ∀ i, i < j → bt x (c + i) = true)) (fun t => ∃ w, w ≤ 20 ∧ t = some (Int32.ofNat w) ∧ (w = 0 ∨ ∃ c, c + w ≤ 20 ∧ ∀ i, i < w → bt x (c + i) = true) ∧ ∀ c v, c + v ≤ 20 → (∀ i, i < v → bt x (c + i) = true) → v ≤ w) ?_ ?_ 20 5000 x 0 (by omega) (by omega) ⟨?_, Or.inl rfl⟩
  · rintro f y j hj ⟨h1, h2⟩
    show (∃ s', _ ∧ m_X0_longestRun_4 _ _ _ = _) ∨ _
    have e : m_X0_longestRun_4L (f + 1) y (Int32.ofNat j) = if y = 0 then some (Int32.ofNat j) else m_X0_longestRun_4L f (y &&& (y <<< (1 &&& 31))) (Int32.ofNat (j + 1)) := by
      show m_X0_longestRun_4 _ _ _ = _
      unfold m_X0_longestRun_4 m_X0_longestRun_26
      simp only [po_let]
      rw [if_neg (show ¬ (20 : Int32) ≤ Int32.ofNat j from mt (pl_le (a := 20) (by omega) (by omega)).mp (by omega)), show Int32.ofNat j + 1 = Int32.ofNat (j + 1) from pl_add j 1]
    by_cases hy : y = 0
    · right
      show ∃ w, w ≤ 20 ∧ m_X0_longestRun_4L (f + 1) y (Int32.ofNat j) = _ ∧ _
      rw [e, if_pos hy]
      refine ⟨j, by omega, rfl, h2, fun c v hc hv => ?_⟩
      refine Classical.byContradiction fun hn => ?_
      have h3 := (h1 (c + j) (by omega)).mpr ⟨by omega, fun i hi => by rw [show c + j - j + i = c + i by omega]; exact hv i (by omega)⟩
      rw [hy, bt_zero] at h3
      cases h3
    · left
      refine ⟨y &&& (y <<< (1 &&& 31)), ⟨fun c hc => ?_, ?_⟩, ?_⟩
      · rw [bt_and, bt_shl _ hc, Bool.and_eq_true, Bool.and_eq_true, h1 c hc, decide_eq_true_iff]
        constructor
        · rintro ⟨⟨a1, a2⟩, a3, a4⟩
          obtain ⟨b1, b2⟩ := (h1 (c - 1) (by omega)).mp a4
          refine ⟨by omega, fun i hi => ?_⟩
          by_cases hi0 : i = 0
          · have := b2 0 (by omega)
            rw [show c - (j + 1) + i = c - 1 - j + 0 by omega]; exact this
          · have := a2 (i - 1) (by omega)
            rw [show c - (j + 1) + i = c - j + (i - 1) by omega]; exact this
        · rintro ⟨a1, a2⟩
          refine ⟨⟨by omega, fun i hi => ?_⟩, by omega, (h1 (c - 1) (by omega)).mpr ⟨by omega, fun i hi => ?_⟩⟩
          · have := a2 (i + 1) (by omega)
            rw [show c - j + i = c - (j + 1) + (i + 1) by omega]; exact this
          · have := a2 i (by omega)
            rw [show c - 1 - j + i = c - (j + 1) + i by omega]; exact this
      · right
        obtain ⟨c, hc, hb⟩ := bt_ne0.mp hy
        obtain ⟨a1, a2⟩ := (h1 c hc).mp hb
        have a3 := hx c hc (by have := a2 j (by omega); rwa [show c - j + j = c by omega] at this)
        exact ⟨c - j, by omega, fun i hi => a2 i hi⟩
      · show m_X0_longestRun_4L (f + 1) y (Int32.ofNat j) = _
        rw [e, if_neg hy]
  · rintro f y ⟨h1, h2⟩
    refine ⟨20, by omega, ?_, h2, fun c v hc _ => by omega⟩
    show m_X0_longestRun_4 _ _ _ = _
    unfold m_X0_longestRun_4 m_X0_longestRun_26
    by_cases hy : y = 0
    · rw [if_pos hy]
    · rw [if_neg hy]; rfl
  · intro c hc
    constructor
    · intro h
      refine ⟨by omega, fun i hi => ?_⟩
      obtain rfl : i = 0 := by omega
      exact h
    · rintro ⟨_, h⟩
      exact h 0 (by omega)
variable {I : po_I} {a : Nat} {S : Int32 → Int32 → Bool}
def plr (G : Nat → Nat → Bool) (top R : Nat) : Prop := R ≤ 280 ∧ (∀ c r w h, pgr G c r w h → r < top → w * h ≤ R) ∧ pgm G R
theorem x_lr20 {r4 : Nat → Int32 → Int32 → Option Int32} {top R : Nat} (hS : pAR I a S) (ht : top < 14) (hR : plr (fun c r => S (Int32.ofNat c) (Int32.ofNat r)) top R) : ∃ R', m_X0_largestRectangle_20L I r4 5000 a (Int32.ofNat R) (Int32.ofNat top) (I (a + 1) top) (Int32.ofNat top) = r4 a (Int32.ofNat R') (Int32.ofNat (top + 1)) ∧ plr (fun c r => S (Int32.ofNat c) (Int32.ofNat r)) (top + 1) R' := by
  have hrow : ∀ y, y < 14 → ∀ c, c < 32 → (bt (I (a + 1) y) c = true ↔ c < 20 ∧ S (Int32.ofNat c) (Int32.ofNat y) = true) := by
    intro y hy c hc
    rw [hS y hy c hc, Bool.and_eq_true, decide_eq_true_iff]
  refine po_inv (L := fun f (q : Nat × Int32) b => m_X0_largestRectangle_20L I r4 f a (Int32.ofNat q.1) (Int32.ofNat top) q.2 (Int32.ofNat b)) (n := 14) (fun b q => top ≤ b ∧ q.1 ≤ 280 ∧ (∀ c r w h, pgr (fun c r => S (Int32.ofNat c) (Int32.ofNat r)) c r w h → (r < top ∨ (r = top ∧ r + h ≤ b)) → w * h ≤ q.1) ∧ pgm (fun c r => S (Int32.ofNat c) (Int32.ofNat r)) q.1 ∧ ∀ c, c < 32 → (bt q.2 c = true ↔ c < 20 ∧ S (Int32.ofNat c) (Int32.ofNat top) = true ∧ ∀ y, top ≤ y → y < b → S (Int32.ofNat c) (Int32.ofNat y) = true)) (fun x => ∃ R', x = r4 a (Int32.ofNat R') (Int32.ofNat (top + 1)) ∧ plr (fun c r => S (Int32.ofNat c) (Int32.ofNat r)) (top + 1) R') ?_ ?_ (14 - top) 5000 (R, I (a + 1) top) top (by omega) (by omega) ⟨Nat.le_refl _, hR.1, ?_, hR.2.2, ?_⟩
  · rintro f ⟨A, v⟩ b hb ⟨g1, g2, g3, g4, g5⟩
    left
    dsimp only at g2 g3 g4 g5
    have hv : ∀ c, c < 32 → (bt (v &&& I (a + 1) b) c = true ↔ c < 20 ∧ ∀ y, top ≤ y → y < b + 1 → S (Int32.ofNat c) (Int32.ofNat y) = true) := by
      intro c hc
      rw [bt_and, Bool.and_eq_true, g5 c hc, hrow b hb c hc]
      constructor
      · rintro ⟨⟨a1, a2, a3⟩, _, a4⟩
        refine ⟨a1, fun y h1 h2 => ?_⟩
        by_cases e : y = b
        · rw [e]; exact a4
        · exact a3 y h1 (by omega)
      · rintro ⟨a1, a2⟩
        exact ⟨⟨a1, a2 top (by omega) (by omega), fun y h1 h2 => a2 y h1 (by omega)⟩, a1, a2 b g1 (by omega)⟩
    obtain ⟨w, w1, w2, w3, w4⟩ := x_longestRun (x := v &&& I (a + 1) b) (fun c hc h => ((hv c hc).mp h).1)
    have hle : (b - top + 1) * w ≤ 280 := by
      have := Nat.mul_le_mul (show b - top + 1 ≤ 14 by omega) w1
      omega
    have e : m_X0_largestRectangle_20L I r4 (f + 1) a (Int32.ofNat A) (Int32.ofNat top) v (Int32.ofNat b) = m_X0_largestRectangle_20L I r4 f a (Int32.ofNat (if A < (b - top + 1) * w then (b - top + 1) * w else A)) (Int32.ofNat top) (v &&& I (a + 1) b) (Int32.ofNat (b + 1)) := by
      show m_X0_largestRectangle_20 I r4 _ _ _ _ _ _ = _
      unfold m_X0_largestRectangle_20
      simp only [po_let]
      rw [if_neg (show ¬ (14 : Int32) ≤ Int32.ofNat b from mt (pl_le (a := 14) (by omega) (by omega)).mp (by omega)), if_pos (show po_in (Int32.ofNat b) 14 = true from pl_inl hb (by omega)), pl_clamp (by omega), w2, Option.bind_some, pl_sub g1, show Int32.ofNat (b - top) + 1 = Int32.ofNat (b - top + 1) from pl_add _ 1, pl_mul, show Int32.ofNat b + 1 = Int32.ofNat (b + 1) from pl_add b 1]
      by_cases h : A < (b - top + 1) * w
      · rw [if_pos ((pl_lt (by omega) (by omega)).mpr h), if_pos h]
      · rw [if_neg (mt (pl_lt (by omega) (by omega)).mp h), if_neg h]
    refine ⟨(if A < (b - top + 1) * w then (b - top + 1) * w else A, v &&& I (a + 1) b), ⟨by omega, ?_, ?_, ?_, ?_⟩, e⟩
    · dsimp only
      split <;> omega
    · intro c r w' h hg hr
      have hA : A ≤ (if A < (b - top + 1) * w then (b - top + 1) * w else A) := by split <;> omega
      have hB : (b - top + 1) * w ≤ (if A < (b - top + 1) * w then (b - top + 1) * w else A) := by split <;> omega
      dsimp only
      rcases hr with hr | ⟨hr, hh⟩
      · exact Nat.le_trans (g3 c r w' h hg (Or.inl hr)) hA
      · by_cases h2 : r + h ≤ b
        · exact Nat.le_trans (g3 c r w' h hg (Or.inr ⟨hr, h2⟩)) hA
        · obtain ⟨q1, q2, q3, q4, q5⟩ := hg
          have h3 : h = b - top + 1 := by omega
          have h4 : w' ≤ w := w4 c w' q1 fun i hi => (hv (c + i) (by omega)).mpr ⟨by omega, fun y y1 y2 => by
            have := q5 i (y - r) hi (by omega)
            dsimp only at this
            rwa [show r + (y - r) = y by omega] at this⟩
          refine Nat.le_trans ?_ hB
          rw [h3, Nat.mul_comm]
          exact Nat.mul_le_mul_left _ h4
    · dsimp only
      by_cases h : A < (b - top + 1) * w
      · rw [if_pos h]
        right
        rcases w3 with e0 | ⟨c, c1, c2⟩
        · rw [e0, Nat.mul_zero] at h; omega
        · refine ⟨c, top, w, b - top + 1, ⟨c1, by omega, ?_, by omega, fun x y hx hy => ?_⟩, Nat.mul_comm _ _⟩
          · refine Classical.byContradiction fun hn => ?_
            rw [show w = 0 by omega, Nat.mul_zero] at h
            omega
          · exact ((hv (c + x) (by omega)).mp (c2 x hx)).2 (top + y) (by omega) (by omega)
      · rw [if_neg h]; exact g4
    · intro c hc
      dsimp only
      rw [hv c hc]
      exact ⟨fun h => ⟨h.1, h.2 top (by omega) (by omega), h.2⟩, fun h => ⟨h.1, h.2.2⟩⟩
  · rintro f ⟨A, v⟩ ⟨g1, g2, g3, g4, g5⟩
    refine ⟨A, ?_, g2, fun c r w h hg hr => g3 c r w h hg ?_, g4⟩
    · show m_X0_largestRectangle_20 I r4 _ _ _ _ _ _ = _
      unfold m_X0_largestRectangle_20
      rw [if_pos (show (14 : Int32) ≤ Int32.ofNat 14 from (pl_le (a := 14) (by omega) (by omega)).mpr (by omega)), show Int32.ofNat top + 1 = Int32.ofNat (top + 1) from pl_add top 1]
    · by_cases e : r < top
      · exact Or.inl e
      · exact Or.inr ⟨by omega, hg.2.1⟩
  · rintro c r w h hg (hr | ⟨hr, hh⟩)
    · exact hR.2.1 c r w h hg hr
    · have := hg.2.2.2.1
      omega
  · intro c hc
    dsimp only
    rw [hrow top ht c hc]
    exact ⟨fun h => ⟨h.1, h.2, fun y h1 h2 => by omega⟩, fun h => ⟨h.1, h.2.1⟩⟩
theorem x_largestRect (hS : pAR I a S) : ∃ R, m_X0_largestRectangle I a = some (Int32.ofNat R) ∧ R ≤ 280 ∧ pmx (fun c r => S (Int32.ofNat c) (Int32.ofNat r)) R := by
  refine po_inv (L := fun f (R : Nat) top => m_X0_largestRectangle_4L I f a (Int32.ofNat R) (Int32.ofNat top)) (n := 14) (fun top R => plr (fun c r => S (Int32.ofNat c) (Int32.ofNat r)) top R) (fun x => ∃ R, x = some (Int32.ofNat R) ∧ R ≤ 280 ∧ pmx (fun c r => S (Int32.ofNat c) (Int32.ofNat r)) R) ?_ ?_ 14 5000 0 0 (by omega) (by omega) ⟨by omega, fun c r w h _ hr => by omega, Or.inl rfl⟩
  · intro f R top ht hR
    left
    obtain ⟨R', h1, h2⟩ := x_lr20 (r4 := m_X0_largestRectangle_4L I f) hS ht hR
    refine ⟨R', h2, ?_⟩
    show m_X0_largestRectangle_4 I _ _ _ _ = _
    unfold m_X0_largestRectangle_4
    simp only [po_let]
    rw [if_neg (show ¬ (14 : Int32) ≤ Int32.ofNat top from mt (pl_le (a := 14) (by omega) (by omega)).mp (by omega)), if_pos (show po_in (Int32.ofNat top) 14 = true from pl_inl ht (by omega)), pl_clamp (by omega)]
    exact h1
  · intro f R hR
    exact ⟨R, rfl, hR.1, fun c r w h hg => hR.2.1 c r w h hg (by have := hg.2.1; have := hg.2.2.2.1; omega), hR.2.2⟩
end QA5
