section QV
variable {I : po_I} {s t p k : Nat} {N : po_N}
def ps_di (N : po_N) (c r d : Nat) : Int32 := match pfind (fun k => pa_in N (32 + 16 * k) (Int32.ofNat c) (Int32.ofNat r)) (pv N 1) with
  | some k => Int32.ofNat (pdist (pa_in N (32 + 16 * k)) d (Int32.ofNat c) (Int32.ofNat r))
  | none => 0
theorem prect_1 {c r x y : Nat} (hc : c < 20) (hr : r < 14) (hx : x < 20) (hy : y < 14) : prect c r 1 1 (Int32.ofNat x) (Int32.ofNat y) = decide (x = c ∧ y = r) := by
  unfold prect
  rw [pl_add, pl_add, pk_1, pl_sub (by omega), pl_sub (by omega)]
  refine decide_eq_decide.mpr ⟨fun h => ?_, ?_⟩
  · have h1 := (pl_le (by omega) (by omega)).mp h.1
    have h2 := (pl_le (by omega) (by omega)).mp h.2.1
    have h3 := (pl_le (by omega) (by omega)).mp h.2.2.1
    have h4 := (pl_le (by omega) (by omega)).mp h.2.2.2
    omega
  · rintro ⟨rfl, rfl⟩
    exact ⟨Int32.le_refl _, Int32.le_refl _, Int32.le_refl _, Int32.le_refl _⟩
theorem x_distance {c r d : Nat} (hV : pV N) (hT : pTR I t N) (hs : s + 4 < t) (hc : c < 20) (hr : r < 14) (hd : d < 4) : ∃ I', m_X4_distance I s t (Int32.ofNat c) (Int32.ofNat r) (Int32.ofNat d) = some (ps_di N c r d, I') ∧ psv I I' s := by
  have hl' := hV.2.1.2.2
  unfold m_X4_distance m_X4_distance_e ps_di
  rw [x_lotWith hV hT hc hr, Option.bind_some]
  cases e : pfind (fun k => pa_in N (32 + 16 * k) (Int32.ofNat c) (Int32.ofNat r)) (pv N 1) with
  | none => exact ⟨I, rfl, psv.rf⟩
  | some k =>
    have hk := (pfind_some e).1
    have hLv := hV.2.2.2.2.2.1 k hk
    rw [if_neg (show ¬ po_op (some k) = -1 from (pl_neg1 (a := k) (by omega)).mp)]
    obtain ⟨I1, a1, a2, a3⟩ := x_clear (I := I) (a := s + 1)
    obtain ⟨I2, b1, b2, b3⟩ := x_addRectangle (I := I1) (a := s + 1) (x := c) (y := r) (w := 1) (h := 1) hc (by omega) hr (by omega) (by omega) a3
    have e2 : ∀ q, q ≠ s + 1 + 1 → I2 q = I q := fun q hq => by rw [b2 q hq, a2 q hq]
    have hT2 : pTR I2 t N := hT.mv hV (fun q q1 q2 => e2 q (by omega))
    have hL := hT2.2.2.2.2.2.1 k hk
    have b4 : ∀ x y, x < 20 → y < 14 → (false || prect c r 1 1 (Int32.ofNat x) (Int32.ofNat y)) = decide (x = c ∧ y = r) := fun x y hx hy => by rw [Bool.false_or, prect_1 hc hr hx hy]
    obtain ⟨I3, c1, c2⟩ := x_leastDistance (I := I2) (s := s) (u := s + 1) (v := t + (5 + 3 * k) + 1) hd b3 hL.2.2.1 (pa_bnd hLv.2.2) ⟨c, r, hc, hr, (b4 c r hc hr).trans (by simp)⟩ (by omega) (by omega)
    have e3 : ps_m (fun c_1 r_1 => false || prect c r 1 1 c_1 r_1) (pdist (pa_in N (32 + 16 * k)) d) = pdist (pa_in N (32 + 16 * k)) d (Int32.ofNat c) (Int32.ofNat r) := by
      refine ps_m_eq (fun x y hx hy h => ?_) ⟨c, r, hc, hr, (b4 c r hc hr).trans (by simp), rfl⟩ (by have := pdist_le (S := pa_in N (32 + 16 * k)) (d := d) (c := Int32.ofNat c) (r := Int32.ofNat r); omega)
      obtain ⟨rfl, rfl⟩ := of_decide_eq_true ((b4 x y hx hy).symm.trans h)
      exact Nat.le_refl _
    rw [e3] at c1
    have c0 : m_X0_addRectangle I1 (s + 1) (Int32.ofNat c) (Int32.ofNat r) 1 1 = some I2 := b1
    have e4 : m_X5_lotAt I2 t (po_op (some k)) = some (t + (5 + 3 * k)) := x_lotAt hV hT2 hk
    rw [a1, Option.bind_some, c0, Option.bind_some, e4, Option.bind_some, c1, Option.bind_some]
    exact ⟨I3, rfl, fun q q1 q2 => by rw [c2 q q2, e2 q q1]⟩
theorem x_permitsWith {st : Nat} (hV : pV N) (hT : pTR I t N) : m_X5_permitsWith I t (Int32.ofNat st) = some (Int32.ofNat (pc (fun k => decide (N (160 + 46 * k + 19) = Int32.ofNat st)) (pv N 2))) := by
  have h0 := hV.2.2.1
  have h0' := h0.2.2
  show m_X5_permitsWith_4L I 5000 t (Int32.ofNat st) (Int32.ofNat 0) (Int32.ofNat 0) = _
  refine (pl_fold (L := fun f x k => m_X5_permitsWith_4L I f t (Int32.ofNat st) (Int32.ofNat x) (Int32.ofNat k)) (n := pv N 2) (g := fun k x => x + (if decide (N (160 + 46 * k + 19) = Int32.ofNat st) = true then 1 else 0)) (E := fun x => some (Int32.ofNat x)) ?_ ?_ (by omega) 0).trans ?_
  · intro f x k hk
    have hP := hT.2.2.2.2.2.2.1 k hk
    show m_X5_permitsWith_4 I _ _ _ _ _ = _
    unfold m_X5_permitsWith_4 m_X5_permitsWith_28
    rw [hT.2.2.1, h0.1, if_neg (by first | exact pl_inl (by omega) (by omega) | exact (pl_le (by omega) (by omega)).mpr (by omega) | exact mt (pl_le (by omega) (by omega)).mp (by omega) | exact (pl_lt (by omega) (by omega)).mpr (by omega) | exact mt (pl_lt (by omega) (by omega)).mp (by omega) | exact (pl_eq (by omega) (by omega)).mpr (by omega) | exact mt (pl_eq (by omega) (by omega)).mp (by omega) | exact (pl_neg1 (by omega)).mp | exact (pl_neg1' (by omega)).mp | assumption | omega | rfl | decide), if_pos (show po_in (Int32.ofNat k) 10 = true from pl_inl (by omega) (by omega)), pl_clamp (by omega), hP.sta, show Int32.ofNat k + 1 = Int32.ofNat (k + 1) from pl_add k 1, show Int32.ofNat x + 1 = Int32.ofNat (x + 1) from pl_add x 1]
    by_cases h : N (160 + 46 * k + 19) = Int32.ofNat st
    · rw [if_pos h, decide_eq_true h]; rfl
    · rw [if_neg h, decide_eq_false h]; rfl
  · intro f x
    show m_X5_permitsWith_4 I _ _ _ _ _ = _
    unfold m_X5_permitsWith_4
    rw [hT.2.2.1, h0.1, if_pos (by first | exact pl_inl (by omega) (by omega) | exact (pl_le (by omega) (by omega)).mpr (by omega) | exact mt (pl_le (by omega) (by omega)).mp (by omega) | exact (pl_lt (by omega) (by omega)).mpr (by omega) | exact mt (pl_lt (by omega) (by omega)).mp (by omega) | exact (pl_eq (by omega) (by omega)).mpr (by omega) | exact mt (pl_eq (by omega) (by omega)).mp (by omega) | exact (pl_neg1 (by omega)).mp | exact (pl_neg1' (by omega)).mp | assumption | omega | rfl | decide)]
  · rw [pc_fold, Nat.zero_add]
theorem x_cellsInLots (hV : pV N) (hT : pTR I t N) : m_X5_cellsInLots I t = some (Int32.ofNat (psum (fun k => ps_n (pa_in N (32 + 16 * k))) (pv N 1))) := by
  have h0 := hV.2.1
  have h0' := h0.2.2
  show m_X5_cellsInLots_4L I 5000 t (Int32.ofNat 0) (Int32.ofNat 0) = _
  refine (pl_fold (L := fun f x k => m_X5_cellsInLots_4L I f t (Int32.ofNat x) (Int32.ofNat k)) (n := pv N 1) (g := fun k x => x + ps_n (pa_in N (32 + 16 * k))) (E := fun x => some (Int32.ofNat x)) ?_ ?_ (by omega) 0).trans ?_
  · intro f x k hk
    have hL := hT.2.2.2.2.2.1 k hk
    show m_X5_cellsInLots_4 I _ _ _ _ = _
    unfold m_X5_cellsInLots_4
    simp only [po_let]
    rw [hT.2.1, h0.1, if_neg (by first | exact pl_inl (by omega) (by omega) | exact (pl_le (by omega) (by omega)).mpr (by omega) | exact mt (pl_le (by omega) (by omega)).mp (by omega) | exact (pl_lt (by omega) (by omega)).mpr (by omega) | exact mt (pl_lt (by omega) (by omega)).mp (by omega) | exact (pl_eq (by omega) (by omega)).mpr (by omega) | exact mt (pl_eq (by omega) (by omega)).mp (by omega) | exact (pl_neg1 (by omega)).mp | exact (pl_neg1' (by omega)).mp | assumption | omega | rfl | decide), if_pos (show po_in (Int32.ofNat k) 8 = true from pl_inl (by omega) (by omega)), pl_clamp (by omega), hL.2.2.2, show Int32.ofNat k + 1 = Int32.ofNat (k + 1) from pl_add k 1, pl_add]
  · intro f x
    show m_X5_cellsInLots_4 I _ _ _ _ = _
    unfold m_X5_cellsInLots_4
    rw [hT.2.1, h0.1, if_pos (by first | exact pl_inl (by omega) (by omega) | exact (pl_le (by omega) (by omega)).mpr (by omega) | exact mt (pl_le (by omega) (by omega)).mp (by omega) | exact (pl_lt (by omega) (by omega)).mpr (by omega) | exact mt (pl_lt (by omega) (by omega)).mp (by omega) | exact (pl_eq (by omega) (by omega)).mpr (by omega) | exact mt (pl_eq (by omega) (by omega)).mp (by omega) | exact (pl_neg1 (by omega)).mp | exact (pl_neg1' (by omega)).mp | assumption | omega | rfl | decide)]
  · rw [psum_fold, Nat.zero_add]
end QV
