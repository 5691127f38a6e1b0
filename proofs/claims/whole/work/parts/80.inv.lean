section QB4
variable {I : po_I} {R : po_R} {o M u n t : Nat} {N : po_N}
def pad (R : po_R) (o i : Nat) : Nat := po_rf (R (o + 281) i)
def pPA (R : po_R) (o : Nat) : Prop := (∀ i, i < 6 → ∃ k, k < 6 ∧ R (o + 281) i = .ref (o + 282 + 91 * k)) ∧ ∀ i j, i < 6 → j < 6 → R (o + 281) i = R (o + 281) j → i = j
theorem pPA.ad (h : pPA R o) {i : Nat} (hi : i < 6) : ∃ k, k < 6 ∧ pad R o i = o + 282 + 91 * k ∧ R (o + 281) i = .ref (pad R o i) := by
  obtain ⟨k, h1, h2⟩ := h.1 i hi
  have e : pad R o i = o + 282 + 91 * k := by unfold pad; rw [h2]; rfl
  exact ⟨k, h1, e, by rw [e]; exact h2⟩
theorem pPA.ne (h : pPA R o) {i j : Nat} (hi : i < 6) (hj : j < 6) (hn : i ≠ j) : pad R o i + 91 ≤ pad R o j ∨ pad R o j + 91 ≤ pad R o i := by
  obtain ⟨a, a1, a2, a3⟩ := h.ad hi
  obtain ⟨b, b1, b2, b3⟩ := h.ad hj
  by_cases e : a = b
  · exact absurd (h.2 i j hi hj (by rw [a3, b3, a2, b2, e])) hn
  · omega
theorem x_rem56 {Z : Option (po_I × po_R) → Prop} (hV : pV N) (hT : pTR I (o + 8) N) (hA : pPA R o) (hu : u < 6) (h7 : I o 7 = Int32.ofNat u) (k : ∀ I', (∀ q, q ≠ o → (q < pad R o u ∨ pad R o u + 91 ≤ q) → I' q = I q) → (∀ j, j ≠ 7 → I' o j = I o j) → I' o 7 = Int32.ofNat (u + 1) → pTR I' (pad R o u) N → Z (some (I', R))) : Z (m_X7_remember_56 I R o) := by
  obtain ⟨a, a1, a2, a3⟩ := hA.ad hu
  unfold m_X7_remember_56
  rw [h7, if_pos (show po_in (Int32.ofNat u) 6 = true from pl_inl hu (by omega)), pl_clamp (by omega)]
  obtain ⟨J, b1, b2, b3⟩ := x_townCopy (Z := fun x => ∃ I', x = some I' ∧ (∀ q, (q < pad R o u ∨ pad R o u + 91 ≤ q) → I' q = I q) ∧ pTR I' (pad R o u) N) (t := pad R o u) hV hT (by omega) (fun I' a b => ⟨I', rfl, a, b⟩)
  rw [show m_X5_copyFrom I (po_rf (R (o + 281) u)) (o + 8) = some J from b1, Option.bind_some]
  refine po_hlz fun J2 e2 => k J2 (fun q q1 q2 => by rw [e2, po_u_ne q1]; exact b2 q q2) (fun j hj => by rw [e2, po_uu, if_neg (by omega), b2 o (by omega)]) ?_ ?_
  · rw [e2, po_uu, if_pos ⟨rfl, rfl⟩, b2 o (by omega), h7]; exact pl_add u 1
  · exact b3.mv hV (fun q q1 q2 => by rw [e2, po_u_ne (by omega)])
theorem x_remember {Z : Option (po_I × po_R) → Prop} (hV : pV N) (hT : pTR I (o + 8) N) (hA : pPA R o) (hu : u ≤ 6) (h7 : I o 7 = Int32.ofNat u) (k : ∀ I' R', (∀ q, q ≠ o → (q < pad R' o (if u = 6 then 5 else u) ∨ pad R' o (if u = 6 then 5 else u) + 91 ≤ q) → I' q = I q) → (∀ j, j ≠ 7 → I' o j = I o j) → I' o 7 = Int32.ofNat ((if u = 6 then 5 else u) + 1) → pTR I' (pad R' o (if u = 6 then 5 else u)) N → pPA R' o → (∀ i, i < (if u = 6 then 5 else u) → pad R' o i = pad R o (i + (if u = 6 then 1 else 0))) → (∀ q, q ≠ o + 281 → R' q = R q) → Z (some (I', R'))) : Z (m_X7_remember I R o) := by
  unfold m_X7_remember m_X7_remember_e
  rw [h7]
  by_cases e : u = 6
  · subst e
    simp only [if_true] at k
    rw [if_neg (show ¬ Int32.ofNat 6 < 6 by decide)]
    obtain ⟨a0, z1, z2, z3⟩ := hA.ad (show 0 < 6 by omega)
    show Z (m_X7_remember_18L 5000 I R o (pad R o 0) (Int32.ofNat 1))
    refine po_inv (L := fun f (R' : po_R) i => m_X7_remember_18L f I R' o (pad R o 0) (Int32.ofNat i)) (n := 6) (fun i R' => 1 ≤ i ∧ (∀ q, q ≠ o + 281 → R' q = R q) ∧ (∀ j, j < i - 1 → R' (o + 281) j = R (o + 281) (j + 1)) ∧ ∀ j, i - 1 ≤ j → R' (o + 281) j = R (o + 281) j) Z ?_ ?_ 5 5000 R 1 (by omega) (by omega) ⟨Nat.le_refl _, fun _ _ => rfl, fun j hj => by omega, fun _ _ => rfl⟩
    · rintro f R' i hi ⟨g0, g1, g2, g3⟩
      left
      obtain ⟨a, a1, a2, a3⟩ := hA.ad hi
      refine ⟨po_u R' (o + 281) (i - 1) (.ref (po_rf (R' (o + 281) i))), ⟨by omega, fun q hq => by rw [po_u_ne hq]; exact g1 q hq, fun j hj => ?_, fun j hj => ?_⟩, ?_⟩
      · rw [po_uu]
        by_cases e2 : j = i - 1
        · rw [if_pos ⟨rfl, e2⟩, g3 i (by omega), e2, show i - 1 + 1 = i by omega, a3]; rfl
        · rw [if_neg (by omega)]; exact g2 j (by omega)
      · rw [po_uu, if_neg (by omega)]; exact g3 j (by omega)
      · show m_X7_remember_18 _ _ _ _ _ _ = _
        unfold m_X7_remember_18
        rw [if_neg (show ¬ (6 : Int32) ≤ Int32.ofNat i from mt (pl_le (a := 6) (by omega) (by omega)).mp (by omega)), if_pos (show po_in (Int32.ofNat i) 6 = true from pl_inl hi (by omega)), pl_clamp (by omega), show Int32.ofNat i - 1 = Int32.ofNat (i - 1) from pl_sub (b := 1) (by omega), if_pos (show po_in (Int32.ofNat (i - 1)) 6 = true from pl_inl (by omega) (by omega)), pl_clamp (by omega), show Int32.ofNat i + 1 = Int32.ofNat (i + 1) from pl_add i 1]
    · rintro f R' ⟨g0, g1, g2, g3⟩
      show Z (m_X7_remember_18 _ _ _ _ _ _)
      unfold m_X7_remember_18
      rw [if_pos (show (6 : Int32) ≤ Int32.ofNat 6 by decide)]
      refine po_hlz fun J eJ => ?_
      have hR5 : ∀ j, j < 5 → po_u R' (o + 281) 5 (.ref (pad R o 0)) (o + 281) j = R (o + 281) (j + 1) := fun j hj => by rw [po_uu, if_neg (by omega)]; exact g2 j (by omega)
      have hR6 : po_u R' (o + 281) 5 (.ref (pad R o 0)) (o + 281) 5 = R (o + 281) 0 := by rw [po_uu, if_pos ⟨rfl, rfl⟩, z3]
      have hA' : pPA (po_u R' (o + 281) 5 (.ref (pad R o 0))) o := by
        constructor
        · intro i hi
          by_cases e2 : i = 5
          · rw [e2, hR6]; exact hA.1 0 (by omega)
          · rw [hR5 i (by omega)]; exact hA.1 (i + 1) (by omega)
        · intro i j hi hj hij
          by_cases e2 : i = 5
          · by_cases e3 : j = 5
            · omega
            · rw [e2, hR6, hR5 j (by omega)] at hij
              have := hA.2 0 (j + 1) (by omega) (by omega) hij
              omega
          · by_cases e3 : j = 5
            · rw [e3, hR6, hR5 i (by omega)] at hij
              have := hA.2 (i + 1) 0 (by omega) (by omega) hij
              omega
            · rw [hR5 i (by omega), hR5 j (by omega)] at hij
              have := hA.2 (i + 1) (j + 1) (by omega) (by omega) hij
              omega
      have hTJ : pTR J (o + 8) N := hT.mv hV (fun q q1 q2 => by rw [eJ, po_u_ne (by omega)])
      refine x_rem56 (u := 5) hV hTJ hA' (by omega) (by rw [eJ, po_uu, if_pos ⟨rfl, rfl⟩]; rfl) fun I' b1 b2 b3 b4 => k I' _ (fun q q1 q2 => by rw [b1 q q1 q2, eJ, po_u_ne q1]) (fun j hj => by rw [b2 j hj, eJ, po_uu, if_neg (by omega)]) b3 b4 hA' (fun i hi => ?_) (fun q hq => by rw [po_u_ne hq]; exact g1 q hq)
      show po_rf (po_u R' (o + 281) 5 (.ref (pad R o 0)) (o + 281) i) = po_rf (R (o + 281) (i + 1))
      rw [hR5 i hi]
  · simp only [if_neg e] at k
    rw [if_pos (show Int32.ofNat u < 6 from (pl_lt (b := 6) (by omega) (by omega)).mpr (by omega))]
    exact x_rem56 hV hT hA (by omega) h7 fun I' b1 b2 b3 b4 => k I' R b1 b2 b3 b4 hA (fun i hi => rfl) (fun _ _ => rfl)
/-! THE INVARIANT OF THE RUN -/
def prw (I : po_I) (M i : Nat) : po_N := fun j => I (M + 2) (668 * i + j)
def pPast (I : po_I) (R : po_R) (o M u n : Nat) : Prop := u ≤ 6 ∧ I o 7 = Int32.ofNat u ∧ I M 3 = Int32.ofNat u ∧ pPA R o ∧ ∀ i, i < u → pV (prw I M i) ∧ pB (prw I M i) n ∧ pTR I (pad R o i) (prw I M i)
def pSnap (I : po_I) (o M n : Nat) : Prop := ∃ b : Bool, vp_nar .boolean (I o 5) = pb b ∧ vp_nar .boolean (I M 6) = pb b ∧ (b = true → pV (I (M + 4)) ∧ pB (I (M + 4)) n ∧ pTR I (o + 190) (I (M + 4)))
def pRd (I : po_I) (o M : Nat) : Prop := ∃ len, len ≤ 60 ∧ I (o + 1) 1 = Int32.ofNat len ∧ I M 12 = Int32.ofNat len ∧ (∀ j, j < len → ∃ c, 33 ≤ c ∧ c ≤ 126 ∧ I (o + 2) j = Int32.ofNat c ∧ I (M + 5) j = Int32.ofNat c) ∧ I (o + 1) 3 = I M 15
def pLe (j : Nat) : Nat := if j = 3 ∨ j = 4 then 1 else 0
def pGr (j : Nat) : Nat := if j = 2 ∨ j = 4 then 99 else if j = 5 then 63 else 9
def pSt (I : po_I) (st : Nat → Nat) : Prop := ∀ j, j < 7 → I (st 1) j = Int32.ofNat (pLe j) ∧ I (st 2) j = Int32.ofNat (pGr j)
def pNow (I : po_I) (o M n : Nat) : Prop := pV (I (M + 1)) ∧ pB (I (M + 1)) n ∧ pTR I (o + 8) (I (M + 1))
def pInv (I : po_I) (R : po_R) (o M : Nat) (st : Nat → Nat) (n : Nat) : Prop := pNow I o M n ∧ (∃ u, pPast I R o M u n) ∧ pSnap I o M n ∧ pRd I o M ∧ pSt I st ∧ (o + 828 ≤ M ∧ st 1 < o ∧ st 2 < o)
theorem prw_same {I' : po_I} {i : Nat} (h : I' (M + 2) = I (M + 2)) : prw I' M i = prw I M i := by unfold prw; rw [h]
theorem pInv.mv {I' : po_I} {st : Nat → Nat} (h : pInv I R o M st n) (f : ∀ q, q ≠ o + 5 → q ≠ o + 7 → q ≠ M → q ≠ M + 3 → q ≠ M + 6 → q ≠ M + 7 → I' q = I q) (f3 : I' M 3 = I M 3) (f6 : I' M 6 = I M 6) (f12 : I' M 12 = I M 12) (f15 : I' M 15 = I M 15) : pInv I' R o M st n := by
  obtain ⟨⟨a1, a2, a3⟩, ⟨u, b1, b2, b3, b4, b5⟩, ⟨b, c1, c2, c3⟩, ⟨len, d1, d2, d3, d4, d5⟩, e1, hM, s1, s2⟩ := h
  have r1 : I' (M + 1) = I (M + 1) := f _ (by omega) (by omega) (by omega) (by omega) (by omega) (by omega)
  have r2 : I' (M + 2) = I (M + 2) := f _ (by omega) (by omega) (by omega) (by omega) (by omega) (by omega)
  have r4 : I' (M + 4) = I (M + 4) := f _ (by omega) (by omega) (by omega) (by omega) (by omega) (by omega)
  have r5 : I' (M + 5) = I (M + 5) := f _ (by omega) (by omega) (by omega) (by omega) (by omega) (by omega)
  have fo : ∀ q, q < o + 828 → q ≠ o + 5 → q ≠ o + 7 → I' q = I q := fun q hq q5 q7 => f q q5 q7 (by omega) (by omega) (by omega) (by omega)
  refine ⟨⟨by rw [r1]; exact a1, by rw [r1]; exact a2, by rw [r1]; exact a3.mv a1 (fun q q1 q2 => fo q (by omega) (by omega) (by omega))⟩, ⟨u, b1, by rw [fo o (by omega) (by omega) (by omega)]; exact b2, by rw [f3]; exact b3, b4, fun i hi => ?_⟩, ⟨b, by rw [fo o (by omega) (by omega) (by omega)]; exact c1, by rw [f6]; exact c2, fun hb => ?_⟩, ⟨len, d1, by rw [fo (o + 1) (by omega) (by omega) (by omega)]; exact d2, by rw [f12]; exact d3, by rw [fo (o + 2) (by omega) (by omega) (by omega), r5]; exact d4, by rw [fo (o + 1) (by omega) (by omega) (by omega), f15]; exact d5⟩, ?_, hM, s1, s2⟩
  · obtain ⟨g1, g2, g3⟩ := b5 i hi
    obtain ⟨k, k1, k2, k3⟩ := b4.ad (show i < 6 by omega)
    rw [prw_same r2]
    exact ⟨g1, g2, g3.mv g1 (fun q q1 q2 => fo q (by omega) (by omega) (by omega))⟩
  · obtain ⟨g1, g2, g3⟩ := c3 hb
    rw [r4]
    exact ⟨g1, g2, g3.mv g1 (fun q q1 q2 => fo q (by omega) (by omega) (by omega))⟩
  · intro j hj
    rw [fo (st 1) (by omega) (by omega) (by omega), fo (st 2) (by omega) (by omega) (by omega)]
    exact e1 j hj
theorem pInv.up {st : Nat → Nat} (h : pInv I R o M st n) : pInv I R o M st (n + 1) := by
  obtain ⟨⟨a1, a2, a3⟩, ⟨u, b1, b2, b3, b4, b5⟩, ⟨b, c1, c2, c3⟩, d, e, g⟩ := h
  exact ⟨⟨a1, a2.up, a3⟩, ⟨u, b1, b2, b3, b4, fun i hi => ⟨(b5 i hi).1, (b5 i hi).2.1.up, (b5 i hi).2.2⟩⟩, ⟨b, c1, c2, fun hb => ⟨(c3 hb).1, (c3 hb).2.1.up, (c3 hb).2.2⟩⟩, d, e, g⟩
/-- only the survey of the class and scratch of the model changed -/
def pScr (I I' : po_I) (o M : Nat) : Prop := (∀ q, q ≠ o + 5 → q ≠ o + 7 → q ≠ M → q ≠ M + 3 → q ≠ M + 6 → q ≠ M + 7 → I' q = I q) ∧ I' M 3 = I M 3 ∧ I' M 6 = I M 6 ∧ I' M 12 = I M 12 ∧ I' M 15 = I M 15
theorem pScr.inv {I' : po_I} {st : Nat → Nat} (h : pScr I I' o M) (g : pInv I R o M st n) : pInv I' R o M st n := g.mv h.1 h.2.1 h.2.2.1 h.2.2.2.1 h.2.2.2.2
theorem pScr.rf : pScr I I o M := ⟨fun _ _ _ _ _ _ _ => rfl, rfl, rfl, rfl, rfl⟩
theorem pScr.tr {I' I'' : po_I} (h : pScr I I' o M) (g : pScr I' I'' o M) : pScr I I'' o M := ⟨fun q a b c d e f => by rw [g.1 q a b c d e f, h.1 q a b c d e f], by rw [g.2.1, h.2.1], by rw [g.2.2.1, h.2.2.1], by rw [g.2.2.2.1, h.2.2.2.1], by rw [g.2.2.2.2, h.2.2.2.2]⟩
theorem pScr.sv {I' : po_I} (h : psv I I' (o + 3)) (hM : o + 828 ≤ M) : pScr I I' o M := by
  have e : I' M = I M := h M (by omega) (by omega)
  exact ⟨fun q a b _ _ _ _ => h q a b, by rw [e], by rw [e], by rw [e], by rw [e]⟩
theorem pScr_o {I' : po_I} (h : pm_o I I' M [0, 7, 8, 9, 10]) : pScr I I' o M := ⟨fun q _ _ c _ _ _ => h.1 q c, h.2 3 (by simp), h.2 6 (by simp), h.2 12 (by simp), h.2 15 (by simp)⟩
theorem pScr_u {k : Int32} : pScr I (po_u I M 0 k) o M := pScr_o (pm_o.rf.u (by simp))
/-- how an answer of the class and one of the model agree -/
def pAg (e1 e2 : String) (w : Int32 ⊕ String) (k v : Int32) : Prop := match w with
  | .inl x => k = 0 ∧ v = x
  | .inr e => (e = e1 ∧ k = 1) ∨ (e = e2 ∧ k = 2)
/-! which numbers a thing has -/
def plt (x : Int32) (n : Nat) : Bool := decide (0 ≤ x ∧ x < Int32.ofNat n)
theorem plt_of {x : Int32} {m : Nat} (hm : m < 2147483648) (h : plt x m = true) : ∃ k, k < m ∧ x = Int32.ofNat k := pn_of hm (of_decide_eq_true h)
theorem plt_k {k m : Nat} (hm : m < 2147483648) (h : k < m) : plt (Int32.ofNat k) m = true := decide_eq_true ⟨pl_nonneg (by omega), (pl_lt (by omega) hm).mpr h⟩
theorem plt_le {x : Int32} {m : Nat} (hm : m < 2147483648) : decide (0 ≤ x ∧ x ≤ Int32.ofNat m - 1) = plt x m := by
  unfold plt
  refine decide_eq_decide.mpr ⟨fun h => ⟨h.1, ?_⟩, fun h => ⟨h.1, ?_⟩⟩
  · obtain ⟨k, hk, e⟩ := pl_of h.1
    subst e
    by_cases e0 : m = 0
    · subst e0
      exact absurd (Int32.le_trans h.1 h.2) (by decide)
    · have h2 := h.2
      rw [show Int32.ofNat m - 1 = Int32.ofNat (m - 1) from pl_sub (b := 1) (by omega)] at h2
      have := (pl_le hk (by omega)).mp h2
      exact (pl_lt hk hm).mpr (by omega)
  · obtain ⟨k, hk, e⟩ := pl_of h.1
    subst e
    have := (pl_lt hk hm).mp h.2
    rw [show Int32.ofNat m - 1 = Int32.ofNat (m - 1) from pl_sub (b := 1) (by omega)]
    exact (pl_le hk (by omega)).mpr (by omega)
theorem q_isLot {x : Int32} (hV : pV (I (M + 1))) : m_X8_isLot I M x = some (pb (plt x (pv (I (M + 1)) 1))) := by
  have h0' := hV.2.1.2.2
  unfold m_X8_isLot m_X8_isLot_e
  rw [q_isIn, Option.bind_some, hV.2.1.1, plt_le (by omega), pb_nar, if_pos rfl]
theorem q_isPermit {x : Int32} (hV : pV (I (M + 1))) : m_X8_isPermit I M x = some (pb (plt x (pv (I (M + 1)) 2))) := by
  have h0' := hV.2.2.1.2.2
  unfold m_X8_isPermit m_X8_isPermit_e
  rw [q_isIn, Option.bind_some, hV.2.2.1.1, plt_le (by omega), pb_nar, if_pos rfl]
theorem x_lotOrThrow {x : Int32} (hV : pV N) (hT : pTR I (o + 8) N) : m_X7_lotOrThrow I o x = some (if plt x (pv N 1) = true then .inl (o + 8 + (5 + 3 * x.toNatClampNeg)) else .inr "java/lang/IndexOutOfBoundsException") := by
  have h0' := hV.2.1.2.2
  unfold m_X7_lotOrThrow m_X7_lotOrThrow_e m_X7_lotOrThrow_15
  rw [hT.2.1, hV.2.1.1]
  by_cases h : plt x (pv N 1) = true
  · obtain ⟨k, hk, e⟩ := plt_of (by omega) h
    rw [if_pos h, e, if_neg (mt (pl_not0 (by omega)).mp id), if_pos ((pl_lt (by omega) (by omega)).mpr hk), if_pos (pl_inl (by omega) (by omega))]
  · rw [if_neg h]
    by_cases h1 : x < 0
    · rw [if_pos h1]
    · rw [if_neg h1, if_neg (fun h2 => h (decide_eq_true ⟨Int32.not_lt.mp h1, h2⟩))]
theorem x_permitOrThrow {x : Int32} (hV : pV N) (hT : pTR I (o + 8) N) : m_X7_permitOrThrow I o x = some (if plt x (pv N 2) = true then .inl (o + 8 + (29 + 5 * x.toNatClampNeg)) else .inr "java/lang/IndexOutOfBoundsException") := by
  have h0' := hV.2.2.1.2.2
  unfold m_X7_permitOrThrow m_X7_permitOrThrow_e m_X7_permitOrThrow_15
  rw [hT.2.2.1, hV.2.2.1.1]
  by_cases h : plt x (pv N 2) = true
  · obtain ⟨k, hk, e⟩ := plt_of (by omega) h
    rw [if_pos h, e, if_neg (mt (pl_not0 (by omega)).mp id), if_pos ((pl_lt (by omega) (by omega)).mpr hk), if_pos (pl_inl (by omega) (by omega))]
  · rw [if_neg h]
    by_cases h1 : x < 0
    · rw [if_pos h1]
    · rw [if_neg h1, if_neg (fun h2 => h (decide_eq_true ⟨Int32.not_lt.mp h1, h2⟩))]
/-- a call begins for the model: what it threw is set -/
theorem po_uJ (I : po_I) (M : Nat) (k : Int32) : ∃ J, J = po_u I M 0 k ∧ J M 0 = k ∧ J (M + 1) = I (M + 1) ∧ ∀ o, pScr I J o M := ⟨_, rfl, by rw [po_uu, if_pos ⟨rfl, rfl⟩], po_u_ne (by omega), fun _ => pScr_u⟩
end QB4
