section QC8
variable {I J : po_I} {R : po_R} {o M n t k b P z u : Nat} {N N' : po_N} {st : Nat → Nat}
theorem pl_rowt {τ : Type} {L : Nat → po_I → Nat → τ} {I : po_I} {q n : Nat} {G : Nat → Int32} {Z : τ → Prop} (st : ∀ f (J : po_I) r, r < n → (∀ b, b ≠ q → J b = I b) → (∀ j, r ≤ j → J q j = I q j) → L (f + 1) J r = L f (po_u J q r (G r)) (r + 1)) (en : ∀ f J, (∀ b, b ≠ q → J b = I b) → (∀ j, j < n → J q j = G j) → Z (L (f + 1) J n)) {f : Nat} (hf : n < f) : Z (L f I 0) := by
  refine po_inv (L := L) (n := n) (fun r J => (∀ b, b ≠ q → J b = I b) ∧ (∀ j, r ≤ j → J q j = I q j) ∧ ∀ j, j < r → J q j = G j) Z ?_ ?_ n f I 0 (by omega) hf ⟨fun _ _ => rfl, fun _ _ => rfl, fun j hj => by omega⟩
  · intro f J r hr h
    left
    refine ⟨_, ⟨fun b hb => ?_, fun j hj => ?_, fun j hj => ?_⟩, st f J r hr h.1 h.2.1⟩
    · rw [po_u_ne hb]; exact h.1 b hb
    · rw [po_uu, if_neg (by omega)]; exact h.2.1 j (by omega)
    · rw [po_uu]
      by_cases e : j = r
      · rw [if_pos ⟨rfl, e⟩, e]
      · rw [if_neg (by omega)]; exact h.2.2 j (by omega)
  · intro f J h
    exact en f J h.1 h.2.2
theorem q_undo30 (hu : u < 6) (h3 : I M 3 = Int32.ofNat u) : ∃ K, m_X8_undo_30L 5000 I M (Int32.ofNat 0) = some (Int32.ofNat u, K) ∧ (∀ q, q ≠ M + 1 → K q = I q) ∧ ∀ j, j < 668 → K (M + 1) j = I (M + 2) (668 * u + j) := by
  refine pl_rowt (L := fun f J r => m_X8_undo_30L f J M (Int32.ofNat r)) (I := I) (q := M + 1) (n := 668) (G := fun r => I (M + 2) (668 * u + r)) (Z := fun x => ∃ K, x = some (Int32.ofNat u, K) ∧ (∀ q, q ≠ M + 1 → K q = I q) ∧ ∀ j, j < 668 → K (M + 1) j = I (M + 2) (668 * u + j)) ?_ ?_ (by omega)
  · intro f J r hr h1 h2
    show m_X8_undo_30 _ _ _ _ = _
    unfold m_X8_undo_30
    rw [if_neg (show ¬ (668 : Int32) ≤ Int32.ofNat r from mt (pl_le (a := 668) (by omega) (by omega)).mp (by omega)), if_pos (show po_in (Int32.ofNat r) 668 = true from pl_inl hr (by omega)), h1 M (by omega), h3, pk_668, pl_mul, pl_add, if_pos (show po_in (Int32.ofNat (668 * u + r)) 4008 = true from pl_inl (by omega) (by omega)), pl_clamp (by omega), pl_clamp (by omega), h1 (M + 2) (by omega), po_hletE, show Int32.ofNat r + 1 = Int32.ofNat (r + 1) from pl_add r 1]
  · intro f J h1 h2
    refine ⟨J, ?_, h1, h2⟩
    show m_X8_undo_30 _ _ _ _ = _
    unfold m_X8_undo_30
    rw [if_pos (show (668 : Int32) ≤ Int32.ofNat 668 from (pl_le (a := 668) (by omega) (by omega)).mpr (by omega)), h1 M (by omega), h3]
theorem L_undo (h : pInv I R o M st n) : ∃ w I1 v I2, m_X7_undo R I o = some (w, I1) ∧ m_X8_undo I1 M = some (v, I2) ∧ pAg sIS "" w (I2 M 0) v ∧ pInv I2 R o M st (n + 1) := by
  have hcopy := h
  obtain ⟨⟨a1, a2, a3⟩, ⟨u, b1, b2, b3, b4, b5⟩, ⟨b, c1, c2, c3⟩, ⟨len, d1, d2, d3, d4, d5⟩, e1, hM, s1, s2⟩ := h
  unfold m_X7_undo m_X7_undo_e m_X7_undo_16
  rw [b2]
  by_cases hu : u = 0
  · subst hu
    rw [if_pos (show Int32.ofNat 0 ≤ 0 by decide)]
    have ym : m_X8_undo I M = some (0, po_u (po_u I M 0 0) M 0 1) := by
      unfold m_X8_undo m_X8_undo_e
      rw [po_hletE, show (po_u I M 0 0) M 3 = I M 3 by rw [po_uu, if_neg (by omega)], b3, if_pos (show Int32.ofNat 0 = 0 from rfl)]
      rfl
    exact ⟨_, I, _, _, rfl, ym, Or.inl ⟨rfl, po_uaa _ _ _ _⟩, (((pScr_u (k := 0)).tr pScr_u).inv hcopy).up⟩
  · obtain ⟨kv, k1, k2, k3⟩ := b4.ad (show u - 1 < 6 by omega)
    obtain ⟨g1, g2, g3⟩ := b5 (u - 1) (by omega)
    rw [if_neg (show ¬ Int32.ofNat u ≤ 0 from mt (pl_le (b := 0) (by omega) (by omega)).mp (by omega)), if_pos (show Int32.ofNat u ≤ 6 from (pl_le (b := 6) (by omega) (by omega)).mpr b1), show Int32.ofNat u - 1 = Int32.ofNat (u - 1) from pl_sub (b := 1) (by omega), po_hletE, po_uaa, if_pos (show po_in (Int32.ofNat (u - 1)) 6 = true from pl_inl (by omega) (by omega)), pl_clamp (by omega)]
    obtain ⟨I0, e0⟩ : ∃ I0, I0 = po_u I o 7 (Int32.ofNat (u - 1)) := ⟨_, rfl⟩
    rw [← e0]
    have f0 : ∀ q, q ≠ o → I0 q = I q := fun q hq => by rw [e0, po_u_ne hq]
    have hT0 : pTR I0 (pad R o (u - 1)) (prw I M (u - 1)) := g3.mv g1 (fun q q1 q2 => f0 q (by omega))
    obtain ⟨J, j1, j2, j3⟩ := x_townCopy (Z := fun x => ∃ I', x = some I' ∧ (∀ q, (q < o + 8 ∨ o + 8 + 91 ≤ q) → I' q = I0 q) ∧ pTR I' (o + 8) (prw I M (u - 1))) (t := o + 8) g1 hT0 (by omega) (fun I' a b => ⟨I', rfl, a, b⟩)
    rw [show m_X5_copyFrom I0 (o + 8) (po_rf (R (o + 281) (u - 1))) = some J from j1, Option.bind_some]
    have fJ : ∀ q, q ≠ o → (q < o + 8 ∨ o + 99 ≤ q) → J q = I q := fun q hq hq2 => by rw [j2 q (by omega), f0 q hq]
    have Jo : J o = I0 o := j2 o (by omega)
    have JM : J M = I M := fJ M (by omega) (by omega)
    obtain ⟨K0, ek⟩ : ∃ K0, K0 = po_u (po_u J M 0 0) M 3 (Int32.ofNat (u - 1)) := ⟨_, rfl⟩
    obtain ⟨K, m1, m2, m3⟩ := q_undo30 (I := K0) (M := M) (u := u - 1) (by omega) (by rw [ek, po_uaa])
    have fK0 : ∀ q, q ≠ M → K0 q = J q := fun q hq => by rw [ek, po_u_ne hq, po_u_ne hq]
    have fK : ∀ q, q ≠ M → q ≠ M + 1 → K q = J q := fun q q1 q2 => by rw [m2 q q2, fK0 q q1]
    have KM : K M = K0 M := m2 M (by omega)
    have ym : m_X8_undo J M = some (Int32.ofNat (u - 1), K) := by
      unfold m_X8_undo m_X8_undo_e
      rw [po_hletE, show (po_u J M 0 0) M 3 = Int32.ofNat u by rw [po_uu, if_neg (by omega), JM, b3], if_neg (show ¬ Int32.ofNat u = 0 from pk_ne (b := 0) (by omega) (by omega) hu), show Int32.ofNat u - 1 = Int32.ofNat (u - 1) from pl_sub (b := 1) (by omega), po_hletE, ← ek]
      exact m1
    have sm : psame (prw I M (u - 1)) (K (M + 1)) := by
      intro j hj
      rw [m3 j hj, fK0 _ (by omega), fJ _ (by omega) (by omega)]; rfl
    have lo : ∀ q, q < o + 828 → K q = J q := fun q hq => fK q (by omega) (by omega)
    have lo2 : ∀ q, q < o + 828 → q ≠ o → (q < o + 8 ∨ o + 99 ≤ q) → K q = I q := fun q hq h1 h2 => by rw [lo q hq, fJ q h1 h2]
    refine ⟨_, J, _, K, rfl, ym, ⟨?_, ?_⟩, ⟨sm.V g1, (sm.B g1 g2).up, sm.TR g1 (j3.mv g1 (fun q q1 q2 => lo q (by omega)))⟩, ⟨u - 1, by omega, ?_, ?_, b4, fun i hi => ?_⟩, ⟨b, ?_, ?_, fun hb => ?_⟩, ⟨len, d1, ?_, ?_, ?_, ?_⟩, ?_, hM, s1, s2⟩
    · rw [KM, ek, po_uu, if_neg (by omega), po_uaa]
    · rw [Jo, e0, po_uaa]
    · rw [lo o (by omega), Jo, e0, po_uaa]
    · rw [KM, ek, po_uaa]
    · obtain ⟨w1, w2, w3⟩ := b5 i (by omega)
      obtain ⟨ki, i1, i2, i3⟩ := b4.ad (show i < 6 by omega)
      have er : prw K M i = prw I M i := prw_same (by rw [fK _ (by omega) (by omega), fJ _ (by omega) (by omega)])
      rw [er]
      exact ⟨w1, w2.up, w3.mv w1 (fun q q1 q2 => lo2 q (by omega) (by omega) (by omega))⟩
    · rw [lo o (by omega), Jo, e0, po_uu, if_neg (by omega)]; exact c1
    · rw [KM, ek, po_uu, if_neg (by omega), po_uu, if_neg (by omega), JM]; exact c2
    · obtain ⟨w1, w2, w3⟩ := c3 hb
      have e4 : K (M + 4) = I (M + 4) := by rw [fK _ (by omega) (by omega), fJ _ (by omega) (by omega)]
      rw [e4]
      exact ⟨w1, w2.up, w3.mv w1 (fun q q1 q2 => lo2 q (by omega) (by omega) (by omega))⟩
    · rw [lo2 (o + 1) (by omega) (by omega) (by omega)]; exact d2
    · rw [KM, ek, po_uu, if_neg (by omega), po_uu, if_neg (by omega), JM]; exact d3
    · rw [lo2 (o + 2) (by omega) (by omega) (by omega), show K (M + 5) = I (M + 5) by rw [fK _ (by omega) (by omega), fJ _ (by omega) (by omega)]]; exact d4
    · rw [lo2 (o + 1) (by omega) (by omega) (by omega), KM, ek, po_uu, if_neg (by omega), po_uu, if_neg (by omega), JM]; exact d5
    · intro j hj
      rw [lo2 (st 1) (by omega) (by omega) (by omega), lo2 (st 2) (by omega) (by omega) (by omega)]
      exact e1 j hj
theorem L_save (h : pInv I R o M st n) : ∃ v I1 I2, m_X7_save I o = some (v, I1) ∧ m_X8_save I1 M = some (v, I2) ∧ pInv I2 R o M st (n + 1) := by
  obtain ⟨⟨a1, a2, a3⟩, ⟨u, b1, b2, b3, b4, b5⟩, ⟨b, c1, c2, c3⟩, ⟨len, d1, d2, d3, d4, d5⟩, e1, hM, s1, s2⟩ := h
  obtain ⟨J0, j1, j2, j3⟩ := x_townCopy (Z := fun x => ∃ I', x = some I' ∧ (∀ q, (q < o + 190 ∨ o + 190 + 91 ≤ q) → I' q = I q) ∧ pTR I' (o + 190) (I (M + 1))) (t := o + 190) a1 a3 (by omega) (fun I' a b => ⟨I', rfl, a, b⟩)
  obtain ⟨J, e0⟩ : ∃ J, J = po_u J0 o 5 1 := ⟨_, rfl⟩
  have fJ : ∀ q, q ≠ o → (q < o + 190 ∨ o + 281 ≤ q) → J q = I q := fun q hq hq2 => by rw [e0, po_u_ne hq, j2 q (by omega)]
  have JM : J M = I M := fJ M (by omega) (by omega)
  obtain ⟨K0, ek⟩ : ∃ K0, K0 = po_u (po_u J M 0 0) M 6 1 := ⟨_, rfl⟩
  have fK0 : ∀ q, q ≠ M → K0 q = J q := fun q hq => by rw [ek, po_u_ne hq, po_u_ne hq]
  obtain ⟨K, m1, m2, m3⟩ := q_copy (I := K0) (a := M + 1) (b := M + 4) (by omega)
  have fK : ∀ q, q ≠ M → q ≠ M + 4 → K q = J q := fun q q1 q2 => by rw [m2 q q2, fK0 q q1]
  have KM : K M = K0 M := m2 M (by omega)
  have K1 : K (M + 1) = I (M + 1) := by rw [fK _ (by omega) (by omega), fJ _ (by omega) (by omega)]
  have x1 : m_X7_save I o = some (I (M + 1) 2, J) := by
    unfold m_X7_save m_X7_save_e
    rw [j1, Option.bind_some, po_hletE, ← e0, show J (o + 8) 5 = I (M + 1) 2 by rw [fJ _ (by omega) (by omega)]; exact a3.2.2.1]
  have y1 : m_X8_save J M = some (I (M + 1) 2, K) := by
    unfold m_X8_save m_X8_save_e
    rw [po_hletE, po_hletE, ← ek, m1, Option.bind_some, K1]
  have sm : psame (I (M + 1)) (K (M + 4)) := by
    intro j hj
    rw [m3 j hj, fK0 _ (by omega), fJ _ (by omega) (by omega)]
  have lo : ∀ q, q < o + 828 → K q = J q := fun q hq => fK q (by omega) (by omega)
  have lo2 : ∀ q, q < o + 828 → q ≠ o → (q < o + 190 ∨ o + 281 ≤ q) → K q = I q := fun q hq h1 h2 => by rw [lo q hq, fJ q h1 h2]
  have Ko : ∀ j, j ≠ 5 → K o j = I o j := fun j hj => by rw [lo o (by omega), e0, po_uu, if_neg (by omega), j2 o (by omega)]
  have KMj : ∀ j, j ≠ 0 → j ≠ 6 → K M j = I M j := fun j h0 h6 => by rw [KM, ek, po_uu, if_neg (by omega), po_uu, if_neg (by omega), JM]
  refine ⟨_, J, K, x1, y1, ⟨by rw [K1]; exact a1, by rw [K1]; exact a2.up, by rw [K1]; exact a3.mv a1 (fun q q1 q2 => lo2 q (by omega) (by omega) (by omega))⟩, ⟨u, b1, ?_, ?_, b4, fun i hi => ?_⟩, ⟨true, ?_, ?_, fun _ => ?_⟩, ⟨len, d1, ?_, ?_, ?_, ?_⟩, ?_, hM, s1, s2⟩
  · rw [Ko 7 (by omega)]; exact b2
  · rw [KMj 3 (by omega) (by omega)]; exact b3
  · obtain ⟨w1, w2, w3⟩ := b5 i (by omega)
    obtain ⟨ki, i1, i2, i3⟩ := b4.ad (show i < 6 by omega)
    have er : prw K M i = prw I M i := prw_same (by rw [fK _ (by omega) (by omega), fJ _ (by omega) (by omega)])
    rw [er]
    exact ⟨w1, w2.up, w3.mv w1 (fun q q1 q2 => lo2 q (by omega) (by omega) (by omega))⟩
  · rw [lo o (by omega), e0, po_uaa]; rfl
  · rw [KM, ek, po_uaa]; rfl
  · exact ⟨sm.V a1, (sm.B a1 a2).up, sm.TR a1 (j3.mv a1 (fun q q1 q2 => by rw [lo q (by omega), e0, po_u_ne (by omega)]))⟩
  · rw [lo2 (o + 1) (by omega) (by omega) (by omega)]; exact d2
  · rw [KMj 12 (by omega) (by omega)]; exact d3
  · rw [lo2 (o + 2) (by omega) (by omega) (by omega), show K (M + 5) = I (M + 5) by rw [fK _ (by omega) (by omega), fJ _ (by omega) (by omega)]]; exact d4
  · rw [lo2 (o + 1) (by omega) (by omega) (by omega), KMj 15 (by omega) (by omega)]; exact d5
  · intro j hj
    rw [lo2 (st 1) (by omega) (by omega) (by omega), lo2 (st 2) (by omega) (by omega) (by omega)]
    exact e1 j hj
theorem L_restore (h : pInv I R o M st n) : ∃ w I1 v I2, m_X7_restore I o = some (w, I1) ∧ m_X8_restore I1 M = some (v, I2) ∧ pAg sIS "" w (I2 M 0) v ∧ pInv I2 R o M st (n + 1) := by
  have hcopy := h
  obtain ⟨⟨a1, a2, a3⟩, ⟨u, b1, b2, b3, b4, b5⟩, ⟨b, c1, c2, c3⟩, ⟨len, d1, d2, d3, d4, d5⟩, e1, hM, s1, s2⟩ := h
  unfold m_X7_restore m_X7_restore_e
  rw [c1]
  cases b with
  | false =>
    rw [if_pos pb_f]
    have ym : m_X8_restore I M = some (0, po_u (po_u I M 0 0) M 0 1) := by
      unfold m_X8_restore m_X8_restore_e
      rw [po_hletE, show (po_u I M 0 0) M 6 = I M 6 by rw [po_uu, if_neg (by omega)], c2, if_pos pb_f]
      rfl
    exact ⟨_, I, _, _, rfl, ym, Or.inl ⟨rfl, po_uaa _ _ _ _⟩, (((pScr_u (k := 0)).tr pScr_u).inv hcopy).up⟩
  | true =>
    obtain ⟨g1, g2, g3⟩ := c3 rfl
    rw [if_neg (show ¬ pb true = 0 by decide)]
    obtain ⟨J0, j1, j2, j3⟩ := x_townCopy (Z := fun x => ∃ I', x = some I' ∧ (∀ q, (q < o + 8 ∨ o + 8 + 91 ≤ q) → I' q = I q) ∧ pTR I' (o + 8) (I (M + 4))) (t := o + 8) g1 g3 (by omega) (fun I' a b => ⟨I', rfl, a, b⟩)
    obtain ⟨J, e0⟩ : ∃ J, J = po_u J0 o 7 0 := ⟨_, rfl⟩
    have fJ : ∀ q, q ≠ o → (q < o + 8 ∨ o + 99 ≤ q) → J q = I q := fun q hq hq2 => by rw [e0, po_u_ne hq, j2 q (by omega)]
    have JM : J M = I M := fJ M (by omega) (by omega)
    obtain ⟨K0, ek⟩ : ∃ K0, K0 = po_u (po_u J M 0 0) M 3 0 := ⟨_, rfl⟩
    have fK0 : ∀ q, q ≠ M → K0 q = J q := fun q hq => by rw [ek, po_u_ne hq, po_u_ne hq]
    obtain ⟨K, m1, m2, m3⟩ := q_copy (I := K0) (a := M + 4) (b := M + 1) (by omega)
    have fK : ∀ q, q ≠ M → q ≠ M + 1 → K q = J q := fun q q1 q2 => by rw [m2 q q2, fK0 q q1]
    have KM : K M = K0 M := m2 M (by omega)
    have K1 : ∀ j, j < 668 → K (M + 1) j = I (M + 4) j := fun j hj => by rw [m3 j hj, fK0 _ (by omega), fJ _ (by omega) (by omega)]
    have J8 : J (o + 8) = J0 (o + 8) := by rw [e0, po_u_ne (by omega)]
    rw [j1, Option.bind_some, po_hletE, ← e0]
    have y1 : m_X8_restore J M = some (I (M + 4) 2, K) := by
      unfold m_X8_restore m_X8_restore_e
      rw [po_hletE, show (po_u J M 0 0) M 6 = I M 6 by rw [po_uu, if_neg (by omega), JM], c2, if_neg (show ¬ pb true = 0 by decide), po_hletE, ← ek, m1, Option.bind_some, K1 2 (by omega)]
    have sm : psame (I (M + 4)) (K (M + 1)) := fun j hj => K1 j hj
    have lo : ∀ q, q < o + 828 → K q = J q := fun q hq => fK q (by omega) (by omega)
    have lo2 : ∀ q, q < o + 828 → q ≠ o → (q < o + 8 ∨ o + 99 ≤ q) → K q = I q := fun q hq h1 h2 => by rw [lo q hq, fJ q h1 h2]
    have Ko : ∀ j, j ≠ 7 → K o j = I o j := fun j hj => by rw [lo o (by omega), e0, po_uu, if_neg (by omega), j2 o (by omega)]
    have KMj : ∀ j, j ≠ 0 → j ≠ 3 → K M j = I M j := fun j h0 h6 => by rw [KM, ek, po_uu, if_neg (by omega), po_uu, if_neg (by omega), JM]
    have e4 : K (M + 4) = I (M + 4) := by rw [fK _ (by omega) (by omega), fJ _ (by omega) (by omega)]
    refine ⟨_, J, _, K, rfl, y1, ⟨?_, ?_⟩, ⟨sm.V g1, (sm.B g1 g2).up, sm.TR g1 (j3.mv g1 (fun q q1 q2 => by rw [lo q (by omega), e0, po_u_ne (by omega)]))⟩, ⟨0, by omega, ?_, ?_, b4, fun i hi => by omega⟩, ⟨true, ?_, ?_, fun _ => ?_⟩, ⟨len, d1, ?_, ?_, ?_, ?_⟩, ?_, hM, s1, s2⟩
    · rw [KM, ek, po_uu, if_neg (by omega), po_uaa]
    · rw [J8]; exact j3.2.2.1.symm
    · rw [lo o (by omega), e0, po_uaa]; rfl
    · rw [KM, ek, po_uaa]; rfl
    · rw [Ko 5 (by omega)]; exact c1
    · rw [KMj 6 (by omega) (by omega)]; exact c2
    · rw [e4]
      exact ⟨g1, g2.up, g3.mv g1 (fun q q1 q2 => lo2 q (by omega) (by omega) (by omega))⟩
    · rw [lo2 (o + 1) (by omega) (by omega) (by omega)]; exact d2
    · rw [KMj 12 (by omega) (by omega)]; exact d3
    · rw [lo2 (o + 2) (by omega) (by omega) (by omega), show K (M + 5) = I (M + 5) by rw [fK _ (by omega) (by omega), fJ _ (by omega) (by omega)]]; exact d4
    · rw [lo2 (o + 1) (by omega) (by omega) (by omega), KMj 15 (by omega) (by omega)]; exact d5
    · intro j hj
      rw [lo2 (st 1) (by omega) (by omega) (by omega), lo2 (st 2) (by omega) (by omega) (by omega)]
      exact e1 j hj
end QC8
