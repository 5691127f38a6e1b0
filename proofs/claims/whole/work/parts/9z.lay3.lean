/-! THE LAYOUT AT THE BEGINNING -/
def kO : po_K := sO4.1
def rO : po_R := sO4.2.1
def rfo (v : Value) : Option Nat := match v with
  | .ref a => some a
  | _ => none
theorem rfo_ref {v : Value} {k : Nat} (h : rfo v = some k) : v = .ref k := by
  cases v with
  | ref a => rw [show a = k from Option.some.inj h]
  | _ => first | (simp [rfo] at h; done) | cases h
set_option maxRecDepth 20000 in
theorem ck0 : ∀ i, i < 836 → kO i = (11, 1) → rfo (rO i 0) = some (i + 1) ∧ kO (i + 1) = (1, 14) := by decide +kernel
set_option maxRecDepth 20000 in
theorem ck1 : ∀ i, i < 836 → kO i = (12, 4) → rfo (rO i 2) = some (i + 1) ∧ kO (i + 1) = (11, 1) := by decide +kernel
set_option maxRecDepth 20000 in
theorem ck2 : ∀ i, i < 836 → kO i = (13, 19) → (rfo (rO i 4) = some (i + 1) ∧ kO (i + 1) = (11, 1)) ∧ (rfo (rO i 17) = some (i + 3) ∧ kO (i + 3) = (1, 6)) ∧ (rfo (rO i 18) = some (i + 4) ∧ kO (i + 4) = (1, 6)) := by decide +kernel
set_option maxRecDepth 20000 in
theorem ck3 : ∀ i, i < 836 → kO i = (14, 4) → rfo (rO i 0) = some (i + 1) ∧ kO (i + 1) = (3, 60) := by decide +kernel
set_option maxRecDepth 20000 in
theorem ck4 : ∀ i, i < 836 → kO i = (15, 2) → (rfo (rO i 0) = some (i + 1) ∧ kO (i + 1) = (11, 1)) ∧ (rfo (rO i 1) = some (i + 3) ∧ kO (i + 3) = (11, 1)) := by decide +kernel
set_option maxRecDepth 20000 in
theorem ck5_0 : ∀ i, i < 836 → kO i = (16, 8) → rfo (rO i 1) = some (i + 1) ∧ kO (i + 1) = (1, 28) := by decide +kernel
set_option maxRecDepth 20000 in
theorem ck5_1 : ∀ i, i < 836 → kO i = (16, 8) → rfo (rO i 2) = some (i + 2) ∧ kO (i + 2) = (7, 8) := by decide +kernel
set_option maxRecDepth 20000 in
theorem ck5_2 : ∀ i, i < 836 → kO i = (16, 8) → ∀ j, j < 8 → rfo (rO (i + 2) j) = some (i + (5 + 3 * j)) ∧ kO (i + (5 + 3 * j)) = (12, 4) := by decide +kernel
set_option maxRecDepth 20000 in
theorem ck5_3 : ∀ i, i < 836 → kO i = (16, 8) → rfo (rO i 4) = some (i + 3) ∧ kO (i + 3) = (8, 10) := by decide +kernel
set_option maxRecDepth 20000 in
theorem ck5_4 : ∀ i, i < 836 → kO i = (16, 8) → ∀ j, j < 10 → rfo (rO (i + 3) j) = some (i + (29 + 5 * j)) ∧ kO (i + (29 + 5 * j)) = (13, 19) := by decide +kernel
set_option maxRecDepth 20000 in
theorem ck5_5 : ∀ i, i < 836 → kO i = (16, 8) → rfo (rO i 6) = some (i + 4) ∧ kO (i + 4) = (9, 12) := by decide +kernel
set_option maxRecDepth 20000 in
theorem ck5_6 : ∀ i, i < 836 → kO i = (16, 8) → ∀ j, j < 12 → rfo (rO (i + 4) j) = some (i + (79 + j)) ∧ kO (i + (79 + j)) = (17, 4) := by decide +kernel
theorem ck5 : ∀ i, i < 836 → kO i = (16, 8) → (rfo (rO i 1) = some (i + 1) ∧ kO (i + 1) = (1, 28)) ∧ (rfo (rO i 2) = some (i + 2) ∧ kO (i + 2) = (7, 8)) ∧ (∀ j, j < 8 → rfo (rO (i + 2) j) = some (i + (5 + 3 * j)) ∧ kO (i + (5 + 3 * j)) = (12, 4)) ∧ (rfo (rO i 4) = some (i + 3) ∧ kO (i + 3) = (8, 10)) ∧ (∀ j, j < 10 → rfo (rO (i + 3) j) = some (i + (29 + 5 * j)) ∧ kO (i + (29 + 5 * j)) = (13, 19)) ∧ (rfo (rO i 6) = some (i + 4) ∧ kO (i + 4) = (9, 12)) ∧ (∀ j, j < 12 → rfo (rO (i + 4) j) = some (i + (79 + j)) ∧ kO (i + (79 + j)) = (17, 4)) := fun i hi h => ⟨ck5_0 i hi h, ck5_1 i hi h, ck5_2 i hi h, ck5_3 i hi h, ck5_4 i hi h, ck5_5 i hi h, ck5_6 i hi h⟩
set_option maxRecDepth 20000 in
theorem ck7_0 : ∀ i, i < 836 → kO i = (18, 8) → rfo (rO i 0) = some (i + 1) ∧ kO (i + 1) = (14, 4) := by decide +kernel
set_option maxRecDepth 20000 in
theorem ck7_1 : ∀ i, i < 836 → kO i = (18, 8) → rfo (rO i 1) = some (i + 3) ∧ kO (i + 3) = (15, 2) := by decide +kernel
set_option maxRecDepth 20000 in
theorem ck7_2 : ∀ i, i < 836 → kO i = (18, 8) → rfo (rO i 2) = some (i + 8) ∧ kO (i + 8) = (16, 8) := by decide +kernel
set_option maxRecDepth 20000 in
theorem ck7_3 : ∀ i, i < 836 → kO i = (18, 8) → rfo (rO i 3) = some (i + 99) ∧ kO (i + 99) = (16, 8) := by decide +kernel
set_option maxRecDepth 20000 in
theorem ck7_4 : ∀ i, i < 836 → kO i = (18, 8) → rfo (rO i 4) = some (i + 190) ∧ kO (i + 190) = (16, 8) := by decide +kernel
set_option maxRecDepth 20000 in
theorem ck7_5 : ∀ i, i < 836 → kO i = (18, 8) → rfo (rO i 6) = some (i + 281) ∧ kO (i + 281) = (10, 6) := by decide +kernel
set_option maxRecDepth 20000 in
theorem ck7_6 : ∀ i, i < 836 → kO i = (18, 8) → ∀ j, j < 6 → rfo (rO (i + 281) j) = some (i + (282 + 91 * j)) ∧ kO (i + (282 + 91 * j)) = (16, 8) := by decide +kernel
theorem ck7 : ∀ i, i < 836 → kO i = (18, 8) → (rfo (rO i 0) = some (i + 1) ∧ kO (i + 1) = (14, 4)) ∧ (rfo (rO i 1) = some (i + 3) ∧ kO (i + 3) = (15, 2)) ∧ (rfo (rO i 2) = some (i + 8) ∧ kO (i + 8) = (16, 8)) ∧ (rfo (rO i 3) = some (i + 99) ∧ kO (i + 99) = (16, 8)) ∧ (rfo (rO i 4) = some (i + 190) ∧ kO (i + 190) = (16, 8)) ∧ (rfo (rO i 6) = some (i + 281) ∧ kO (i + 281) = (10, 6)) ∧ (∀ j, j < 6 → rfo (rO (i + 281) j) = some (i + (282 + 91 * j)) ∧ kO (i + (282 + 91 * j)) = (16, 8)) := fun i hi h => ⟨ck7_0 i hi h, ck7_1 i hi h, ck7_2 i hi h, ck7_3 i hi h, ck7_4 i hi h, ck7_5 i hi h, ck7_6 i hi h⟩
set_option maxRecDepth 20000 in
theorem ck8_0 : ∀ i, i < 836 → kO i = (19, 19) → rfo (rO i 1) = some (i + 1) ∧ kO (i + 1) = (1, 668) := by decide +kernel
set_option maxRecDepth 20000 in
theorem ck8_1 : ∀ i, i < 836 → kO i = (19, 19) → rfo (rO i 2) = some (i + 2) ∧ kO (i + 2) = (1, 4008) := by decide +kernel
set_option maxRecDepth 20000 in
theorem ck8_2 : ∀ i, i < 836 → kO i = (19, 19) → rfo (rO i 4) = some (i + 3) ∧ kO (i + 3) = (1, 668) := by decide +kernel
set_option maxRecDepth 20000 in
theorem ck8_3 : ∀ i, i < 836 → kO i = (19, 19) → rfo (rO i 5) = some (i + 4) ∧ kO (i + 4) = (1, 668) := by decide +kernel
set_option maxRecDepth 20000 in
theorem ck8_4 : ∀ i, i < 836 → kO i = (19, 19) → rfo (rO i 11) = some (i + 5) ∧ kO (i + 5) = (1, 60) := by decide +kernel
set_option maxRecDepth 20000 in
theorem ck8_5 : ∀ i, i < 836 → kO i = (19, 19) → rfo (rO i 16) = some (i + 6) ∧ kO (i + 6) = (1, 12) := by decide +kernel
set_option maxRecDepth 20000 in
theorem ck8_6 : ∀ i, i < 836 → kO i = (19, 19) → rfo (rO i 18) = some (i + 7) ∧ kO (i + 7) = (4, 280) := by decide +kernel
theorem ck8 : ∀ i, i < 836 → kO i = (19, 19) → (rfo (rO i 1) = some (i + 1) ∧ kO (i + 1) = (1, 668)) ∧ (rfo (rO i 2) = some (i + 2) ∧ kO (i + 2) = (1, 4008)) ∧ (rfo (rO i 4) = some (i + 3) ∧ kO (i + 3) = (1, 668)) ∧ (rfo (rO i 5) = some (i + 4) ∧ kO (i + 4) = (1, 668)) ∧ (rfo (rO i 11) = some (i + 5) ∧ kO (i + 5) = (1, 60)) ∧ (rfo (rO i 16) = some (i + 6) ∧ kO (i + 6) = (1, 12)) ∧ (rfo (rO i 18) = some (i + 7) ∧ kO (i + 7) = (4, 280)) := fun i hi h => ⟨ck8_0 i hi h, ck8_1 i hi h, ck8_2 i hi h, ck8_3 i hi h, ck8_4 i hi h, ck8_5 i hi h, ck8_6 i hi h⟩
theorem ckO : kO 0 = (18, 8) ∧ kO 828 = (19, 19) := by decide +kernel
section QH4
variable {o b : Nat} {K : po_K} {R : po_R} {st : Nat → Nat}
theorem tR (hR : rR o R rO) {i j k a c : Nat} (e : rfo (rO i j) = some k) (ha : a = o + i) (hc : c = o + k) : R a j = .ref c := by
  subst ha
  subst hc
  exact hR i j k (rfo_ref e)
theorem tK (hK : rK o 836 K kO) {i a : Nat} {c : Nat × Nat} (e : kO i = c) (ha : a = o + i) : K a = c := by
  subst ha
  exact (hK.1 i).trans e
theorem lay_ix (hK : rK o 836 K kO) (hlo : ∀ a, a < o → K a = (0, 0) ∨ K a = (2, 7)) {a : Nat} {c : Nat × Nat} (h : K a = c) (h0 : c ≠ (0, 0)) (h2 : c ≠ (2, 7)) : ∃ i, i < 836 ∧ a = o + i ∧ kO i = c := by
  by_cases ha : a < o
  · rcases hlo a ha with e | e
    · exact absurd (h.symm.trans e) h0
    · exact absurd (h.symm.trans e) h2
  · have e : a = o + (a - o) := by omega
    have e2 : kO (a - o) = c := by rw [← hK.1 (a - o), ← e]; exact h
    refine ⟨a - o, ?_, e, e2⟩
    by_cases hi : a - o < 836
    · exact hi
    · exact absurd (e2.symm.trans (hK.2 _ (by omega))) h0
theorem lay_all (hK : rK o 836 K kO) (hR : rR o R rO) (hlo : ∀ a, a < o → K a = (0, 0) ∨ K a = (2, 7)) (h0 : K (st 0) = (2, 7)) (h1 : K (st 1) = (2, 7)) (h2 : K (st 2) = (2, 7)) : po_Lay K R st := by
  refine ⟨fun a => ⟨fun h => ?_, fun h => ?_, fun h => ?_, fun h => ?_, fun h => ?_, fun h => ?_, fun h => ?_, fun h => ?_⟩, h0, h1, h2⟩
  · obtain ⟨i, hi, ha, hk⟩ := lay_ix hK hlo h (by decide) (by decide)
    obtain ⟨c1, c2⟩ := ck0 i hi hk
    exact ⟨tR hR c1 (by omega) (by omega), tK hK c2 (by omega)⟩
  · obtain ⟨i, hi, ha, hk⟩ := lay_ix hK hlo h (by decide) (by decide)
    obtain ⟨c1, c2⟩ := ck1 i hi hk
    exact ⟨tR hR c1 (by omega) (by omega), tK hK c2 (by omega)⟩
  · obtain ⟨i, hi, ha, hk⟩ := lay_ix hK hlo h (by decide) (by decide)
    obtain ⟨⟨c1, c2⟩, ⟨c3, c4⟩, c5, c6⟩ := ck2 i hi hk
    exact ⟨⟨tR hR c1 (by omega) (by omega), tK hK c2 (by omega)⟩, ⟨tR hR c3 (by omega) (by omega), tK hK c4 (by omega)⟩, tR hR c5 (by omega) (by omega), tK hK c6 (by omega)⟩
  · obtain ⟨i, hi, ha, hk⟩ := lay_ix hK hlo h (by decide) (by decide)
    obtain ⟨c1, c2⟩ := ck3 i hi hk
    exact ⟨tR hR c1 (by omega) (by omega), tK hK c2 (by omega)⟩
  · obtain ⟨i, hi, ha, hk⟩ := lay_ix hK hlo h (by decide) (by decide)
    obtain ⟨⟨c1, c2⟩, c3, c4⟩ := ck4 i hi hk
    exact ⟨⟨tR hR c1 (by omega) (by omega), tK hK c2 (by omega)⟩, tR hR c3 (by omega) (by omega), tK hK c4 (by omega)⟩
  · obtain ⟨i, hi, ha, hk⟩ := lay_ix hK hlo h (by decide) (by decide)
    obtain ⟨⟨c1, c2⟩, ⟨c3, c4⟩, d1, ⟨c5, c6⟩, d2, ⟨c7, c8⟩, d3⟩ := ck5 i hi hk
    refine ⟨⟨tR hR c1 (by omega) (by omega), tK hK c2 (by omega)⟩, ⟨tR hR c3 (by omega) (by omega), tK hK c4 (by omega)⟩, fun j hj => ?_, ⟨tR hR c5 (by omega) (by omega), tK hK c6 (by omega)⟩, fun j hj => ?_, ⟨tR hR c7 (by omega) (by omega), tK hK c8 (by omega)⟩, fun j hj => ?_⟩
    · exact ⟨tR hR (d1 j hj).1 (by omega) (by omega), tK hK (d1 j hj).2 (by omega)⟩
    · exact ⟨tR hR (d2 j hj).1 (by omega) (by omega), tK hK (d2 j hj).2 (by omega)⟩
    · exact ⟨tR hR (d3 j hj).1 (by omega) (by omega), tK hK (d3 j hj).2 (by omega)⟩
  · obtain ⟨i, hi, ha, hk⟩ := lay_ix hK hlo h (by decide) (by decide)
    obtain ⟨⟨c1, c2⟩, ⟨c3, c4⟩, ⟨c5, c6⟩, ⟨c7, c8⟩, ⟨e1, e2⟩, ⟨e3, e4⟩, d1⟩ := ck7 i hi hk
    refine ⟨⟨tR hR c1 (by omega) (by omega), tK hK c2 (by omega)⟩, ⟨tR hR c3 (by omega) (by omega), tK hK c4 (by omega)⟩, ⟨tR hR c5 (by omega) (by omega), tK hK c6 (by omega)⟩, ⟨tR hR c7 (by omega) (by omega), tK hK c8 (by omega)⟩, ⟨tR hR e1 (by omega) (by omega), tK hK e2 (by omega)⟩, ⟨tR hR e3 (by omega) (by omega), tK hK e4 (by omega)⟩, fun j hj => ?_⟩
    have e5 : R (a + 281) j = .ref (a + (282 + 91 * j)) := tR hR (d1 j hj).1 (by omega) (by omega)
    rw [e5]
    exact ⟨rfl, tK hK (d1 j hj).2 (show a + (282 + 91 * j) = o + (i + (282 + 91 * j)) by omega)⟩
  · obtain ⟨i, hi, ha, hk⟩ := lay_ix hK hlo h (by decide) (by decide)
    obtain ⟨⟨c1, c2⟩, ⟨c3, c4⟩, ⟨c5, c6⟩, ⟨c7, c8⟩, ⟨e1, e2⟩, ⟨e3, e4⟩, e5, e6⟩ := ck8 i hi hk
    exact ⟨⟨tR hR c1 (by omega) (by omega), tK hK c2 (by omega)⟩, ⟨tR hR c3 (by omega) (by omega), tK hK c4 (by omega)⟩, ⟨tR hR c5 (by omega) (by omega), tK hK c6 (by omega)⟩, ⟨tR hR c7 (by omega) (by omega), tK hK c8 (by omega)⟩, ⟨tR hR e1 (by omega) (by omega), tK hK e2 (by omega)⟩, ⟨tR hR e3 (by omega) (by omega), tK hK e4 (by omega)⟩, tR hR e5 (by omega) (by omega), tK hK e6 (by omega)⟩
end QH4
