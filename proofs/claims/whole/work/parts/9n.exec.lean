/-! A TEXT IS CARRIED OUT, OR IT IS NOT -/
section QF1
variable {I J : po_I} {R : po_R} {o M n : Nat} {st : Nat → Nat}
theorem L_execute (h : pInv I R o M st n) : ∃ w I1 R1 v I2, m_X7_execute st I R o = some (w, I1, R1) ∧ m_X8_execute I1 M = some (v, I2) ∧ pAg sIA "" w (I2 M 0) v ∧ pInv I2 R1 o M st (n + 1) := by
  obtain ⟨⟨a1, a2, a3⟩, ⟨u, b1, b2, b3, b4, b5⟩, ⟨b, c1, c2, c3⟩, ⟨len, d1, d2, d3, d4, d5⟩, e1, hM, s1, s2⟩ := h
  obtain ⟨w, ew⟩ : ∃ w : pW, w = (len, fun j => (I (o + 2) j).toNatClampNeg) := ⟨_, rfl⟩
  have w1 : w.1 = len := by rw [ew]
  have w2 : ∀ j, j < len → I (o + 2) j = Int32.ofNat (w.2 j) ∧ I (M + 5) j = Int32.ofNat (w.2 j) ∧ 33 ≤ w.2 j ∧ w.2 j ≤ 126 := by
    intro j hj
    obtain ⟨c, q1, q2, q3, q4⟩ := d4 j hj
    have ec : w.2 j = c := by
      rw [ew]
      show (I (o + 2) j).toNatClampNeg = c
      rw [q3, pl_clamp (by omega)]
    rw [ec]
    exact ⟨q3, q4, q1, q2⟩
  have hw : pwo w := ⟨by omega, fun j hj => (w2 j (by omega)).2.2⟩
  clear ew
  obtain ⟨Ic, i1, i2, i3⟩ := x_townCopy (Z := fun x => ∃ I', x = some I' ∧ (∀ q, (q < o + 99 ∨ o + 99 + 91 ≤ q) → I' q = I q) ∧ pTR I' (o + 99) (I (M + 1))) (t := o + 99) a1 a3 (by omega) (fun I' a b => ⟨I', rfl, a, b⟩)
  obtain ⟨I5, e5⟩ : ∃ I5, I5 = po_u (po_u Ic (o + 1) 2 0) (o + 1) 3 (-1) := ⟨_, rfl⟩
  have f5 : ∀ q, q ≠ o + 1 → I5 q = Ic q := fun q hq => by rw [e5, po_u_ne hq, po_u_ne hq]
  have r5 : rS I5 (o + 1) w 0 := by
    refine ⟨?_, ?_, ?_, fun j hj => ?_, hw, Nat.zero_le _⟩
    · rw [e5, po_uu, if_neg (by omega), po_uu, if_neg (by omega), i2 _ (by omega), d2, w1]
    · rw [e5, po_uu, if_neg (by omega), po_uaa]; rfl
    · rw [e5, po_uaa]
    · rw [f5 _ (by omega), i2 _ (by omega)]; exact (w2 j (by omega)).1
  have hw60 := hw.1
  have st5 : pSt I5 st := fun j hj => by rw [f5 (st 1) (by omega), f5 (st 2) (by omega), i2 _ (by omega), i2 _ (by omega)]; exact e1 j hj
  have hrun := x_run (n := n) (st := st) 61 (g := 5000) (t := o + 99) r5 (by omega) st5 (by omega) (by omega) a1 a2 (i3.mv a1 fun q q1 q2 => f5 q (by omega)) (Nat.le_refl 0) (by omega) (by omega)
  have hread : m_X3_readInto st Ic (o + 1) (o + 99) = m_X3_readInto_12L st 5000 I5 (o + 1) (o + 99) (Int32.ofNat 0) := by
    unfold m_X3_readInto m_X3_readInto_e
    rw [po_hletE, po_hletE, ← e5]
    rfl
  rw [← hread] at hrun
  have hx : m_X7_execute st I R o = Option.bind (m_X3_readInto st Ic (o + 1) (o + 99)) fun x2 => po_let (x2.1) fun v3 => if (v3 : Int32) = (-1) then (some (((.inr "java/lang/IllegalArgumentException"), x2.2, R))) else (Option.bind (m_X7_remember (x2.2) R o) fun x4 => Option.bind (m_X5_copyFrom (x4.1) (o + 8) (o + 99)) fun x5 => some (((.inl v3), x5, x4.2))) := by
    unfold m_X7_execute m_X7_execute_e
    rw [show m_X5_copyFrom I (o + 99) (o + 8) = some Ic from i1, Option.bind_some]
  rw [hx]
  clear hx hread
  unfold xE at hrun
  have hq : ∀ J : po_I, (∀ q, q ≠ o + 1 → (q < o + 8 ∨ o + 828 ≤ q) → q ≠ o → J q = I q) → _ := fun J hJ => q_exec (J := J) (M := M) (w := w) (N := I (M + 1)) (n := n) (hJ (M + 1) (by omega) (by omega) (by omega)) (by rw [hJ M (by omega) (by omega) (by omega), d3, w1]) (fun j hj => by rw [hJ (M + 5) (by omega) (by omega) (by omega)]; exact (w2 j (by omega)).2.1) hw a1 a2
  cases e : sRun w 61 (I (M + 1)) 0 0 with
  | inl ep =>
    rw [e] at hrun
    obtain ⟨J, y1, y2, y3, y4⟩ := hrun
    have fJ : ∀ q, q ≠ o + 1 → (q < o + 99 ∨ o + 190 ≤ q) → J q = I q := fun q q1 q2 => by rw [y2 q q1 (by omega), f5 q q1, i2 q (by omega)]
    have hq2 := hq J (fun q q1 q2 q3 => fJ q q1 (by omega))
    rw [e] at hq2
    obtain ⟨K, k1, k2, k3, k4, k5, k6, k7, k8⟩ := hq2
    have lo : ∀ q, q < o + 828 → K q = J q := fun q hq => k7 q (by omega) (by omega) (by omega) (by omega)
    have lo2 : ∀ q, q < o + 828 → q ≠ o + 1 → (q < o + 99 ∨ o + 190 ≤ q) → K q = I q := fun q hq q1 q2 => (lo q hq).trans (fJ q q1 q2)
    have JM : J M = I M := fJ M (by omega) (by omega)
    rw [y1, Option.bind_some, po_letE, if_pos rfl]
    refine ⟨_, J, R, _, K, rfl, k1, Or.inl ⟨rfl, k2⟩, ⟨k8.V a1, (k8.B a1 a2).up, k8.TR a1 (a3.mv a1 fun q q1 q2 => lo2 q (by omega) (by omega) (by omega))⟩, ⟨u, b1, ?_, ?_, b4, fun i hi => ?_⟩, ⟨b, ?_, ?_, fun hb => ?_⟩, ⟨0, by omega, ?_, ?_, fun j hj => by omega, ?_⟩, ?_, hM, s1, s2⟩
    · rw [lo2 o (by omega) (by omega) (by omega)]; exact b2
    · rw [k5, JM]; exact b3
    · obtain ⟨g1, g2, g3⟩ := b5 i hi
      obtain ⟨k, x1, x2, x3⟩ := b4.ad (show i < 6 by omega)
      have er : prw K M i = prw I M i := prw_same (by rw [k7 (M + 2) (by omega) (by omega) (by omega) (by omega), fJ (M + 2) (by omega) (by omega)])
      rw [er]
      exact ⟨g1, g2.up, g3.mv g1 fun q q1 q2 => lo2 q (by omega) (by omega) (by omega)⟩
    · rw [lo2 o (by omega) (by omega) (by omega)]; exact c1
    · rw [k6, JM]; exact c2
    · obtain ⟨g1, g2, g3⟩ := c3 hb
      have e4 : K (M + 4) = I (M + 4) := by rw [k7 (M + 4) (by omega) (by omega) (by omega) (by omega), fJ (M + 4) (by omega) (by omega)]
      rw [e4]
      exact ⟨g1, g2.up, g3.mv g1 fun q q1 q2 => lo2 q (by omega) (by omega) (by omega)⟩
    · rw [lo (o + 1) (by omega), y4]; rfl
    · rw [k4]; rfl
    · rw [lo (o + 1) (by omega), y3, k3]
    · intro j hj
      rw [lo2 (st 1) (by omega) (by omega) (by omega), lo2 (st 2) (by omega) (by omega) (by omega)]
      exact e1 j hj
  | inr Q =>
    obtain ⟨c, N'⟩ := Q
    rw [e] at hrun
    obtain ⟨J, y1, y2, y3, y4, y5⟩ := hrun
    have fJ : ∀ q, q ≠ o + 1 → (q < o + 99 ∨ o + 190 ≤ q) → J q = I q := fun q q1 q2 => by rw [y2 q q1 (by omega), f5 q q1, i2 q (by omega)]
    have hc60 : c ≤ 60 := by
      have hq2 := hq J (fun q q1 q2 q3 => fJ q q1 (by omega))
      rw [e] at hq2
      exact hq2.1
    have hVN : pV N' ∧ pB N' n := by
      have hq2 := hq J (fun q q1 q2 q3 => fJ q q1 (by omega))
      rw [e] at hq2
      exact ⟨hq2.2.1, hq2.2.2.1⟩
    rw [y1, Option.bind_some, po_letE, if_neg (show ¬ Int32.ofNat c = -1 from (pl_neg1 (by omega)).mp)]
    have hTJ : pTR J (o + 8) (I (M + 1)) := a3.mv a1 fun q q1 q2 => fJ q (by omega) (by omega)
    obtain ⟨J1, R', z0, g1, g2, g3, g4, g5, g6, g7⟩ := x_remember (Z := fun x => ∃ I' R', x = some (I', R') ∧ (∀ q, q ≠ o → (q < pad R' o (if u = 6 then 5 else u) ∨ pad R' o (if u = 6 then 5 else u) + 91 ≤ q) → I' q = J q) ∧ (∀ j, j ≠ 7 → I' o j = J o j) ∧ I' o 7 = Int32.ofNat ((if u = 6 then 5 else u) + 1) ∧ pTR I' (pad R' o (if u = 6 then 5 else u)) (I (M + 1)) ∧ pPA R' o ∧ (∀ i, i < (if u = 6 then 5 else u) → pad R' o i = pad R o (i + (if u = 6 then 1 else 0))) ∧ (∀ q, q ≠ o + 281 → R' q = R q)) a1 hTJ b4 b1 (by rw [fJ o (by omega) (by omega)]; exact b2) (fun I' R' q1 q2 q3 q4 q5 q6 q7 => ⟨I', R', rfl, q1, q2, q3, q4, q5, q6, q7⟩)
    have hv : (if u = 6 then 5 else u) < 6 := by split <;> omega
    have hvs : ∀ i, i < (if u = 6 then 5 else u) → i + (if u = 6 then 1 else 0) < u := by intro i hi; split at hi <;> split <;> omega
    obtain ⟨kv, kv1, kv2, kv3⟩ := g5.ad hv
    have f1 : ∀ q, (q < o + 282 ∨ o + 828 ≤ q) → q ≠ o → J1 q = J q := fun q hq hn => g1 q hn (by omega)
    have hT1 : pTR J1 (o + 99) N' := y5.mv hVN.1 fun q q1 q2 => f1 q (by omega) (by omega)
    obtain ⟨J2, j1, j2, j3⟩ := x_townCopy (Z := fun x => ∃ I', x = some I' ∧ (∀ q, (q < o + 8 ∨ o + 8 + 91 ≤ q) → I' q = J1 q) ∧ pTR I' (o + 8) N') (t := o + 8) hVN.1 hT1 (by omega) (fun I' a b => ⟨I', rfl, a, b⟩)
    rw [z0, Option.bind_some, show m_X5_copyFrom J1 (o + 8) (o + 99) = some J2 from j1, Option.bind_some]
    have fJ2 : ∀ q, q ≠ o + 1 → (q < o + 8 ∨ o + 828 ≤ q) → q ≠ o → J2 q = I q := fun q q1 q2 q3 => by rw [j2 q (by omega), f1 q (by omega) q3, fJ q q1 (by omega)]
    have hq2 := hq J2 fJ2
    rw [e] at hq2
    have JM : J2 M = I M := fJ2 M (by omega) (by omega) (by omega)
    obtain ⟨_, _, _, hq3⟩ := hq2
    obtain ⟨K, k1, k2, k3, k4, k5, k6, k7, k8, k9, k10⟩ := hq3 u b1 (by rw [JM]; exact b3)
    generalize hvv : (if u = 6 then 5 else u) = v at *
    generalize hss : (if u = 6 then 1 else 0) = s at *
    have lo : ∀ q, q < o + 828 → K q = J2 q := fun q hq => k6 q (by omega) (by omega) (by omega) (by omega) (by omega)
    have lo2 : ∀ q, q < o + 828 → (q < o + 8 ∨ o + 99 ≤ q) → K q = J1 q := fun q hq q2 => (lo q hq).trans (j2 q (by omega))
    refine ⟨_, J2, R', _, K, rfl, k1, ⟨k2, rfl⟩, ⟨k7.V hVN.1, (k7.B hVN.1 hVN.2).up, k7.TR hVN.1 (j3.mv hVN.1 fun q q1 q2 => lo q (by omega))⟩, ⟨v + 1, by omega, ?_, k8, g5, fun i hi => ?_⟩, ⟨b, ?_, ?_, fun hb => ?_⟩, ⟨0, by omega, ?_, ?_, fun j hj => by omega, ?_⟩, ?_, hM, s1, s2⟩
    · rw [lo2 o (by omega) (by omega)]; exact g3
    · obtain ⟨ki, ki1, ki2, ki3⟩ := g5.ad (show i < 6 by omega)
      by_cases ei : i = v
      · rw [ei] at ki2 ⊢
        have sm : psame (I (M + 1)) (prw K M v) := fun j hj => k9 j hj
        exact ⟨sm.V a1, (sm.B a1 a2).up, sm.TR a1 (g4.mv a1 fun q q1 q2 => lo2 q (by omega) (by omega))⟩
      · obtain ⟨w1, w2, w3⟩ := b5 (i + s) (hvs i (by omega))
        have hpd := g6 i (by omega)
        have sm : psame (prw I M (i + s)) (prw K M i) := by
          intro j hj
          show K (M + 2) (668 * i + j) = I (M + 2) (668 * (i + s) + j)
          have : 668 * i + 668 ≤ 668 * v := by have := Nat.mul_le_mul_left 668 (show i + 1 ≤ v by omega); omega
          rw [k10 _ (by omega), fJ2 (M + 2) (by omega) (by omega) (by omega), show 668 * i + j + 668 * s = 668 * (i + s) + j by rw [Nat.mul_add]; omega]
        have hne := g5.ne (show i < 6 by omega) hv ei
        refine ⟨sm.V w1, (sm.B w1 w2).up, sm.TR w1 ?_⟩
        rw [hpd]
        refine w3.mv w1 (fun q q1 q2 => ?_)
        rw [← hpd] at q1 q2
        rw [lo2 q (by omega) (by omega), g1 q (by omega) (by omega), fJ q (by omega) (by omega)]
    · rw [lo2 o (by omega) (by omega), g2 5 (by omega), fJ o (by omega) (by omega)]; exact c1
    · rw [k5, JM]; exact c2
    · obtain ⟨w1, w2, w3⟩ := c3 hb
      have e4 : K (M + 4) = I (M + 4) := by rw [k6 (M + 4) (by omega) (by omega) (by omega) (by omega) (by omega), fJ2 (M + 4) (by omega) (by omega) (by omega)]
      rw [e4]
      exact ⟨w1, w2.up, w3.mv w1 fun q q1 q2 => by rw [lo2 q (by omega) (by omega), f1 q (by omega) (by omega), fJ q (by omega) (by omega)]⟩
    · rw [lo2 (o + 1) (by omega) (by omega), f1 (o + 1) (by omega) (by omega), y4]; rfl
    · rw [k4]; rfl
    · rw [lo2 (o + 1) (by omega) (by omega), f1 (o + 1) (by omega) (by omega), y3, k3]
    · intro j hj
      rw [lo2 (st 1) (by omega) (by omega), lo2 (st 2) (by omega) (by omega), f1 (st 1) (by omega) (by omega), f1 (st 2) (by omega) (by omega), fJ (st 1) (by omega) (by omega), fJ (st 2) (by omega) (by omega)]
      exact e1 j hj
end QF1
