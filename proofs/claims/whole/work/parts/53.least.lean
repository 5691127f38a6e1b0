section QG
variable {S T : Int32 → Int32 → Bool}
/-- a cell from which so many steps lead on in the set -/
def pdeep (S : Int32 → Int32 → Bool) (d k : Nat) (c r : Int32) : Bool := decide (∀ i, i < k + 1 → pstep S d c r i = true)
theorem pdeep_0 (d : Nat) (c r : Int32) : pdeep S d 0 c r = S c r := by
  unfold pdeep
  have e : pstep S d c r 0 = S c r := by unfold pstep; rw [pl_s0, pl_s0]
  cases h : S c r with
  | true =>
    refine decide_eq_true (fun i hi => ?_)
    obtain rfl : i = 0 := by omega
    rw [e, h]
  | false => exact decide_eq_false (fun h' => by have := h' 0 (by omega); rw [e, h] at this; cases this)
theorem pstep_nb (d : Nat) (c r : Int32) (i : Nat) : pstep S d (c + pdx d) (r + pdy d) i = pstep S d c r (i + 1) := by
  unfold pstep
  rw [← pl_ss, ← pl_ss]
  rw [Int32.add_assoc, Int32.add_comm (pdx d), ← Int32.add_assoc, Int32.add_assoc r, Int32.add_comm (pdy d), ← Int32.add_assoc r]
theorem pdeep_s (d k : Nat) (c r : Int32) : (pdeep S d k c r && pnb (pdeep S d k) d c r) = pdeep S d (k + 1) c r := by
  unfold pnb pdeep
  rw [← Bool.decide_and]
  refine decide_eq_decide.mpr ⟨fun h i hi => ?_, fun h => ⟨fun i hi => h i (by omega), fun i hi => ?_⟩⟩
  · cases i with
    | zero => exact h.1 0 (by omega)
    | succ i => rw [← pstep_nb]; exact h.2 i (by omega)
  · rw [pstep_nb]; exact h (i + 1) (by omega)
theorem pdeep_bnd (hb : pbnd S) (d k : Nat) : pbnd (pdeep S d k) := by
  intro c r h
  have h1 := of_decide_eq_true h 0 (by omega)
  unfold pstep at h1
  rw [pl_s0, pl_s0] at h1
  exact hb c r h1
theorem pd_iff {d k : Nat} {c r : Int32} (h : S c r = true) (hk : k ≤ 19) : k ≤ pdist S d c r ↔ pdeep S d k c r = true := by
  have e0 : pstep S d c r 0 = true := by unfold pstep; rw [pl_s0, pl_s0]; exact h
  unfold pdist pdeep
  rw [decide_eq_true_iff]
  cases e : pfind (fun i => !pstep S d c r i) 20 with
  | some i0 =>
    obtain ⟨a1, a2, a3⟩ := pfind_some e
    have a4 : i0 ≠ 0 := by
      rintro rfl
      rw [e0] at a2
      cases a2
    show k ≤ i0 - 1 ↔ _
    constructor
    · intro hk2 i hi
      have := a3 i (by omega)
      simpa using this
    · intro h2
      refine Classical.byContradiction fun hn => ?_
      rw [h2 i0 (by omega)] at a2
      cases a2
  | none =>
    have a1 := pfind_none e
    show k ≤ 20 - 1 ↔ _
    constructor
    · intro _ i hi
      have := a1 i (by omega)
      simpa using this
    · intro _
      omega
theorem pd_out {d : Nat} {c r : Int32} (h : S c r = false) : pdist S d c r = 0 := by
  have e0 : pstep S d c r 0 = false := by unfold pstep; rw [pl_s0, pl_s0]; exact h
  unfold pdist
  cases e : pfind (fun i => !pstep S d c r i) 20 with
  | some i0 =>
    obtain ⟨a1, a2, a3⟩ := pfind_some e
    have a4 : i0 = 0 := by
      refine Classical.byContradiction fun hn => ?_
      have := a3 0 (by omega)
      rw [e0] at this
      cases this
    rw [a4]; rfl
  | none =>
    have a1 := pfind_none e 0 (by omega)
    rw [e0] at a1
    cases a1
/-! the least of some -/
def pmst (p : Nat → Bool) (h : Nat → Nat) (j s : Nat) : Nat := if p j = true then (if h j < s then h j else s) else s
theorem pm_spec (p : Nat → Bool) (h : Nat → Nat) (s0 : Nat) : ∀ n, pfold (pmst p h) n s0 ≤ s0 ∧ (∀ j, j < n → p j = true → pfold (pmst p h) n s0 ≤ h j) ∧ (pfold (pmst p h) n s0 = s0 ∨ ∃ j, j < n ∧ p j = true ∧ pfold (pmst p h) n s0 = h j)
  | 0 => ⟨Nat.le_refl _, fun j hj => by omega, Or.inl rfl⟩
  | n + 1 => by
    obtain ⟨a1, a2, a3⟩ := pm_spec p h s0 n
    rw [pfold]
    generalize pfold (pmst p h) n s0 = x at *
    unfold pmst
    by_cases hp : p n = true
    · rw [if_pos hp]
      by_cases hx : h n < x
      · rw [if_pos hx]
        refine ⟨by omega, fun j hj hpj => ?_, Or.inr ⟨n, by omega, hp, rfl⟩⟩
        by_cases e : j = n
        · rw [e]; exact Nat.le_refl _
        · have := a2 j (by omega) hpj; omega
      · rw [if_neg hx]
        refine ⟨a1, fun j hj hpj => ?_, ?_⟩
        · by_cases e : j = n
          · rw [e]; omega
          · exact a2 j (by omega) hpj
        · rcases a3 with a3 | ⟨j, b1, b2, b3⟩
          · exact Or.inl a3
          · exact Or.inr ⟨j, by omega, b2, b3⟩
    · rw [if_neg hp]
      refine ⟨a1, fun j hj hpj => ?_, ?_⟩
      · by_cases e : j = n
        · rw [e] at hpj; exact absurd hpj hp
        · exact a2 j (by omega) hpj
      · rcases a3 with a3 | ⟨j, b1, b2, b3⟩
        · exact Or.inl a3
        · exact Or.inr ⟨j, by omega, b2, b3⟩
theorem ps_m_eq {B : Int32 → Int32 → Bool} {g : Int32 → Int32 → Nat} {v : Nat} (hlo : ∀ c r, c < 20 → r < 14 → B (Int32.ofNat c) (Int32.ofNat r) = true → v ≤ g (Int32.ofNat c) (Int32.ofNat r)) (hat : ∃ c r, c < 20 ∧ r < 14 ∧ B (Int32.ofNat c) (Int32.ofNat r) = true ∧ g (Int32.ofNat c) (Int32.ofNat r) = v) (hv : v < 100) : ps_m B g = v := by
  obtain ⟨a1, a2, a3⟩ := pm_spec (fun j => B (Int32.ofNat (j % 20)) (Int32.ofNat (j / 20))) (fun j => g (Int32.ofNat (j % 20)) (Int32.ofNat (j / 20))) 100 280
  obtain ⟨c, r, hc, hr, hB, hg⟩ := hat
  have e : ps_m B g = pfold (pmst (fun j => B (Int32.ofNat (j % 20)) (Int32.ofNat (j / 20))) (fun j => g (Int32.ofNat (j % 20)) (Int32.ofNat (j / 20)))) 280 100 := rfl
  rw [e]
  have h1 := a2 (20 * r + c) (by omega) (by
    show B (Int32.ofNat ((20 * r + c) % 20)) (Int32.ofNat ((20 * r + c) / 20)) = true
    rw [show (20 * r + c) % 20 = c by omega, show (20 * r + c) / 20 = r by omega]
    exact hB)
  rw [show (20 * r + c) % 20 = c by omega, show (20 * r + c) / 20 = r by omega, hg] at h1
  rcases a3 with a3 | ⟨j, b1, b2, b3⟩
  · omega
  · have := hlo (j % 20) (j / 20) (by omega) (by omega) b2
    omega
theorem pAR.mv {I I' : po_I} {a : Nat} (h : pAR I a S) (e : I' (a + 1) = I (a + 1)) : pAR I' a S := fun r hr c hc => by rw [e]; exact h r hr c hc
/-- a set has a cell of the town -/
def pne (B : Int32 → Int32 → Bool) : Prop := ∃ c r, c < 20 ∧ r < 14 ∧ B (Int32.ofNat c) (Int32.ofNat r) = true
theorem x_leastDistance {I : po_I} {s u v d : Nat} {B : Int32 → Int32 → Bool} (hd : d < 4) (hB : pAR I u B) (hL : pAR I v S) (hb : pbnd S) (hn : pne B) (hu : u ≠ s + 3) (hv : v ≠ s + 3) : ∃ I', m_X4_leastDistance I s u v (Int32.ofNat d) = some (Int32.ofNat (ps_m B (pdist S d)), I') ∧ ∀ b, b ≠ s + 4 → I' b = I b := by
  unfold m_X4_leastDistance m_X4_leastDistance_e
  obtain ⟨w, h1, h2⟩ := x_hasAll hL hB
  rw [h1, Option.bind_some]
  cases w with
  | false =>
    rw [if_pos pb_f]
    have hex : ∃ c r, c < 20 ∧ r < 14 ∧ B (Int32.ofNat c) (Int32.ofNat r) = true ∧ pdist S d (Int32.ofNat c) (Int32.ofNat r) = 0 := by
      refine Classical.byContradiction fun hn2 => ?_
      have h3 : false = true := h2.mpr (fun c r hc hr hB2 => by
        cases e : S (Int32.ofNat c) (Int32.ofNat r) with
        | true => rfl
        | false => exact absurd ⟨c, r, hc, hr, hB2, pd_out e⟩ hn2)
      cases h3
    refine ⟨I, ?_, fun _ _ => rfl⟩
    rw [ps_m_eq (v := 0) (fun _ _ _ _ _ => Nat.zero_le _) hex (by omega)]; rfl
  | true =>
    rw [if_neg (by decide)]
    have h3 := h2.mp rfl
    obtain ⟨I4, c1, c2, c3, c4⟩ := x_copyFrom (I := I) (a := s + 3) (b := v) (fun e => hv e.symm) hL
    rw [c1, Option.bind_some]
    refine po_inv (L := fun f (J : po_I) k => m_X4_leastDistance_21L f J s u (Int32.ofNat d) (Int32.ofNat k)) (n := 20) (fun k J => (∀ b, b ≠ s + 4 → J b = I b) ∧ pAR J (s + 3) (pdeep S d k) ∧ ∀ c r, c < 20 → r < 14 → B (Int32.ofNat c) (Int32.ofNat r) = true → pdeep S d k (Int32.ofNat c) (Int32.ofNat r) = true) (fun t => ∃ I', t = some (Int32.ofNat (ps_m B (pdist S d)), I') ∧ ∀ b, b ≠ s + 4 → I' b = I b) ?_ ?_ 20 5000 I4 0 (by omega) (by omega) ⟨c2, fun r hr c hc => by rw [pdeep_0]; exact c4 r hr c hc, fun c r hc hr hB2 => by rw [pdeep_0]; exact h3 c r hc hr hB2⟩
    · rintro f J k hk ⟨g1, g2, g3⟩
      obtain ⟨J1, t1, t2, t3⟩ := x_takeEdgeOff hd g2 (pdeep_bnd hb d k)
      have t4 : pAR J1 (s + 3) (pdeep S d (k + 1)) := fun r hr c hc => (t3 r hr c hc).trans (by dsimp only; rw [pdeep_s])
      have t5 : ∀ b, b ≠ s + 4 → J1 b = I b := fun b hb2 => by rw [t2 b hb2, g1 b hb2]
      have t6 : pAR J1 u B := hB.mv (t5 (u + 1) (by omega))
      obtain ⟨w', w1, w2⟩ := x_hasAll t4 t6
      have e : m_X4_leastDistance_21L (f + 1) J s u (Int32.ofNat d) (Int32.ofNat k) = if pb w' = 0 then some (Int32.ofNat k, J1) else m_X4_leastDistance_21L f J1 s u (Int32.ofNat d) (Int32.ofNat (k + 1)) := by
        show m_X4_leastDistance_21 _ _ _ _ _ _ = _
        unfold m_X4_leastDistance_21
        rw [t1, Option.bind_some, w1, Option.bind_some]
        simp only [-Int32.reduceOfNat, pk_0, pk_1, pk_2, pk_3, pk_4, pk_5, pk_6, pk_7, pk_8, pk_9, pk_10, pk_11, pk_12, pk_13, pk_14, pk_15, pk_16, pk_17, pk_18, pk_19, pk_20, pk_21, pk_22, pk_23, pk_24, pk_25, pk_26, pk_27, pk_28, pk_29, pk_30, pk_31, pk_32, pk_33, pk_44, pk_45, pk_46, pk_48, pk_50, pk_57, pk_59, pk_60, pk_63, pk_67, pk_69, pk_76, pk_78, pk_79, pk_80, pk_83, pk_86, pk_87, pk_90, pk_97, pk_99, pk_100, pk_110, pk_116, pk_122, pk_126, pk_160, pk_190, pk_255, pk_280, pk_281, pk_500, pk_620, pk_668, pk_1000, pk_3340, pk_4008, pk_5000, pk_65536, pk_1000000, pk_2000000, pk_3000000, pk_252645135, pk_858993459, pk_1431655765, pl_add, pl_mul]
        rw [if_neg (by first | exact pl_inl (by omega) (by omega) | exact (pl_le (by omega) (by omega)).mpr (by omega) | exact mt (pl_le (by omega) (by omega)).mp (by omega) | exact (pl_lt (by omega) (by omega)).mpr (by omega) | exact mt (pl_lt (by omega) (by omega)).mp (by omega) | exact (pl_eq (by omega) (by omega)).mpr (by omega) | exact mt (pl_eq (by omega) (by omega)).mp (by omega) | exact (pl_neg1 (by omega)).mp | exact (pl_neg1' (by omega)).mp | assumption | omega | rfl | decide)]
      show (∃ s', _ ∧ m_X4_leastDistance_21L (f + 1) J s u (Int32.ofNat d) (Int32.ofNat k) = _) ∨ ∃ I', m_X4_leastDistance_21L (f + 1) J s u (Int32.ofNat d) (Int32.ofNat k) = _ ∧ _
      rw [e]
      cases w' with
      | true =>
        left
        exact ⟨J1, ⟨t5, t4, w2.mp rfl⟩, if_neg (by decide)⟩
      | false =>
        right
        have hex : ∃ c r, c < 20 ∧ r < 14 ∧ B (Int32.ofNat c) (Int32.ofNat r) = true ∧ pdist S d (Int32.ofNat c) (Int32.ofNat r) = k := by
          refine Classical.byContradiction fun hn2 => ?_
          have h4 : false = true := w2.mpr (fun c r hc hr hB2 => by
            refine Classical.byContradiction fun hno => hn2 ⟨c, r, hc, hr, hB2, ?_⟩
            have hs := h3 c r hc hr hB2
            have q1 := (pd_iff (d := d) hs (by omega)).mpr (g3 c r hc hr hB2)
            by_cases q2 : k + 1 ≤ 19
            · have q3 := mt (pd_iff (d := d) hs q2).mp hno
              omega
            · have := pdist_le (S := S) (d := d) (c := Int32.ofNat c) (r := Int32.ofNat r)
              omega)
          cases h4
        refine ⟨J1, ?_, t5⟩
        rw [if_pos pb_f, ps_m_eq (v := k) (fun c r hc hr hB2 => (pd_iff (h3 c r hc hr hB2) (by omega)).mpr (g3 c r hc hr hB2)) hex (by omega)]
    · rintro f J ⟨g1, g2, g3⟩
      obtain ⟨c, r, hc, hr, hB2⟩ := hn
      have h5 := of_decide_eq_true (g3 c r hc hr hB2) 20 (by omega)
      rw [pstep_20 hd hb ⟨pl_nonneg (by omega), (pl_lt (b := 20) (by omega) (by omega)).mpr hc⟩ ⟨pl_nonneg (by omega), (pl_lt (b := 14) (by omega) (by omega)).mpr hr⟩] at h5
      cases h5
end QG
