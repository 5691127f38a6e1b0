section QB2
variable {I : po_I} {N N' : po_N} {b t n : Nat}
/-- two rows are the same where a row is -/
def psame (N N' : po_N) : Prop := ∀ j, j < 668 → N' j = N j
theorem psame.rf : psame N N := fun _ _ => rfl
theorem psame.sy (h : psame N N') : psame N' N := fun j hj => (h j hj).symm
theorem psame.vv (h : psame N N') {j : Nat} (hj : j < 668) : pv N' j = pv N j := by
  show (N' j).toNatClampNeg = (N j).toNatClampNeg
  rw [h j hj]
theorem psame.cc (h : psame N N') {j lo hi : Nat} (hj : j < 668) (hc : pv_c N j lo hi) : pv_c N' j lo hi := by
  unfold pv_c at *
  rw [h.vv hj, h j hj]
  exact hc
theorem psame.rv (h : psame N N') {k : Nat} (hb : b + 15 ≤ 668) (hk : k < 3) (hr : pa_rv N b k) : pa_rv N' b k := by
  obtain ⟨h1, h2, h3, h4, h5, h6⟩ := hr
  refine ⟨h.cc (by omega) h1, h.cc (by omega) h2, h.cc (by omega) h3, h.cc (by omega) h4, ?_, ?_⟩
  · rw [h.vv (by omega), h.vv (by omega)]; exact h5
  · rw [h.vv (by omega), h.vv (by omega)]; exact h6
theorem psame.av (h : psame N N') (hb : b + 15 ≤ 668) (hr : pa_v N b) : pa_v N' b := by
  obtain ⟨h1, h2, h3, h4⟩ := hr
  refine ⟨h.cc (by omega) h1, h.rv hb (by omega) h2, ?_, ?_⟩
  · rw [h.vv (by omega)]; exact fun e => h.rv hb (by omega) (h3 e)
  · rw [h.vv (by omega)]; exact fun e => h.rv hb (by omega) (h4 e)
theorem psame.ain (h : psame N N') (hb : b + 15 ≤ 668) : pa_in N' b = pa_in N b := by
  have e : ∀ k, k < 3 → ∀ c r, pa_r N' b k c r = pa_r N b k c r := by
    intro k hk c r
    unfold pa_r
    rw [h (b + 3 + 4 * k) (by omega), h (b + 3 + 4 * k + 1) (by omega), h (b + 3 + 4 * k + 2) (by omega), h (b + 3 + 4 * k + 3) (by omega)]
  funext c r
  unfold pa_in
  rw [e 0 (by omega), e 1 (by omega), e 2 (by omega), h.vv (by omega)]
theorem psame.PP (h : psame N N') (hb : b + 46 ≤ 668) (hp : pP N b) : pP N' b := by
  obtain ⟨h1, h2, h3, h4, h5, h6, h7, h8, h9, h10, h11, h12, h13, h14, h15⟩ := hp
  have h12' := h12.2.2
  refine ⟨h.cc (by omega) h1, ?_, h.cc (by omega) h3, h.av (by omega) h4, h.cc (by omega) h5, h.cc (by omega) h6, h.cc (by omega) h7, h.cc (by omega) h8, h.cc (by omega) h9, h.cc (by omega) h10, h.cc (by omega) h11, h.cc (by omega) h12, ?_, ?_, ?_⟩
  · rw [h.vv (by omega), h.vv (by omega)]; exact h2
  · rw [h.vv (by omega), h.vv (by omega), h.vv (by omega)]
    exact fun e => ⟨h.cc (by omega) (h13 e).1, (h13 e).2⟩
  · rw [h.vv (by omega), h.vv (by omega)]; exact h14
  · rw [h.vv (by omega)]
    exact fun i hi => h.cc (by omega) (h15 i hi)
theorem psame.V (h : psame N N') (hV : pV N) : pV N' := by
  obtain ⟨h1, h2, h3, h4, h5, h6, h7, h8⟩ := hV
  have h2' := h2.2.2
  have h3' := h3.2.2
  have h4' := h4.2.2
  refine ⟨h.cc (by omega) h1, h.cc (by omega) h2, h.cc (by omega) h3, h.cc (by omega) h4, fun z hz => ?_, ?_, ?_, ?_⟩
  · obtain ⟨g1, g2, g3, g4, g5, g6, g7⟩ := h5 z hz
    exact ⟨h.cc (by omega) g1, h.cc (by omega) g2, h.cc (by omega) g3, h.cc (by omega) g4, h.cc (by omega) g5, h.cc (by omega) g6, h.cc (by omega) g7⟩
  · rw [h.vv (by omega)]
    intro k hk
    obtain ⟨g1, g2, g3⟩ := h6 k hk
    exact ⟨h.cc (by omega) g1, h.cc (by omega) g2, h.av (by omega) g3⟩
  · rw [h.vv (by omega)]
    exact fun k hk => h.PP (by omega) (h7 k hk)
  · rw [h.vv (by omega)]
    intro k hk
    obtain ⟨g1, g2, g3, g4⟩ := h8 k hk
    exact ⟨h.cc (by omega) g1, h.cc (by omega) g2, h.cc (by omega) g3, h.cc (by omega) g4⟩
theorem psame.TL {L : Nat} (h : psame N N') (hb : b + 15 ≤ 668) (hL : pTL I L N b) : pTL I L N' b := by
  obtain ⟨h1, h2, h3, h4⟩ := hL
  unfold pTL
  rw [h b (by omega), h (b + 1) (by omega), h.ain hb]
  exact ⟨h1, h2, h3, h4⟩
theorem psame.TP {P : Nat} (h : psame N N') (hb : b + 46 ≤ 668) (hc : pv N (b + 45) ≤ 6) (hP : pTP I P N b) : pTP I P N' b := by
  have ec : pTC I P N' b := by
    intro i hi
    have hh := hP.cnd i hi
    rw [h.vv (show b + 45 < 668 by omega)]
    refine ⟨fun hlt => ?_, hh.2⟩
    rw [h.vv (show b + 29 + i < 668 by omega)]
    exact hh.1 hlt
  obtain ⟨h0, h1, h2, h3, h4, h5, h6, h7, h8, h9, h10, h11, h12, h13, h14, h15, h16⟩ := hP
  unfold pTP
  rw [h b (by omega), h (b + 1) (by omega), h (b + 17) (by omega), h (b + 18) (by omega), h.ain (by omega), h (b + 19) (by omega), h (b + 27) (by omega), h (b + 20) (by omega), h (b + 21) (by omega), h (b + 22) (by omega), h (b + 23) (by omega), h (b + 24) (by omega), h (b + 25) (by omega), h (b + 26) (by omega), h (b + 45) (by omega)]
  exact ⟨h0, h1, h2, h3, h4, h5, h6, h7, h8, h9, h10, h11, h12, h13, h14, h15, ec⟩
theorem psame.TR (h : psame N N') (hV : pV N) (hT : pTR I t N) : pTR I t N' := by
  have h2' := hV.2.1.2.2
  have h3' := hV.2.2.1.2.2
  have h4' := hV.2.2.2.1.2.2
  obtain ⟨g1, g2, g3, g4, g5, g6, g7, g8⟩ := hT
  refine ⟨by rw [h 0 (by omega)]; exact g1, by rw [h 1 (by omega)]; exact g2, by rw [h 2 (by omega)]; exact g3, by rw [h 3 (by omega)]; exact g4, fun j hj => by rw [h (4 + j) (by omega)]; exact g5 j hj, ?_, ?_, ?_⟩
  · rw [h.vv (by omega)]
    exact fun k hk => h.TL (by omega) (g6 k hk)
  · rw [h.vv (by omega)]
    exact fun k hk => h.TP (by omega) (hV.per hk).2.2.2.2.2.2.2.2.2.2.2.1.2.2 (g7 k hk)
  · rw [h.vv (by omega)]
    exact fun k hk j hj => by rw [h (620 + 4 * k + j) (by omega)]; exact g8 k hk j hj
/-- days stay small -/
def pB (N : po_N) (n : Nat) : Prop := pv N 0 ≤ 100 * n ∧ (∀ k, k < pv N 2 → pv N (160 + 46 * k + 19) = 2 → pv N (160 + 46 * k + 22) ≤ 100 * n + 200) ∧ (∀ k, k < pv N 3 → pv N (620 + 4 * k + 3) ≤ 100 * n + 200) ∧ ∀ k, k < pv N 2 → pv N (160 + 46 * k + 19) = 0 → pv N (160 + 46 * k + 20) = 0 ∧ pv N (160 + 46 * k + 21) = 0
theorem pB.up (h : pB N n) : pB N (n + 1) := ⟨by have := h.1; omega, fun k hk e => by have := h.2.1 k hk e; omega, fun k hk => by have := h.2.2.1 k hk; omega, h.2.2.2⟩
theorem psame.B (h : psame N N') (hV : pV N) (hB : pB N n) : pB N' n := by
  have h3' := hV.2.2.1.2.2
  have h4' := hV.2.2.2.1.2.2
  unfold pB
  rw [h.vv (show 0 < 668 by omega), h.vv (show 2 < 668 by omega), h.vv (show 3 < 668 by omega)]
  refine ⟨hB.1, fun k hk => ?_, fun k hk => ?_, fun k hk => ?_⟩
  · rw [h.vv (show 160 + 46 * k + 19 < 668 by omega), h.vv (show 160 + 46 * k + 22 < 668 by omega)]
    exact hB.2.1 k hk
  · rw [h.vv (show 620 + 4 * k + 3 < 668 by omega)]
    exact hB.2.2.1 k hk
  · rw [h.vv (show 160 + 46 * k + 19 < 668 by omega), h.vv (show 160 + 46 * k + 20 < 668 by omega), h.vv (show 160 + 46 * k + 21 < 668 by omega)]
    exact hB.2.2.2 k hk
end QB2
section QB3
variable {I : po_I} {M a b u : Nat}
theorem pl_rown {L : Nat → po_I → Nat → Option po_I} {I : po_I} {q n : Nat} {G : Nat → Int32} {Z : Option po_I → Prop} (st : ∀ f (J : po_I) r, r < n → (∀ b, b ≠ q → J b = I b) → (∀ j, r ≤ j → J q j = I q j) → L (f + 1) J r = L f (po_u J q r (G r)) (r + 1)) (en : ∀ f J, (∀ b, b ≠ q → J b = I b) → (∀ j, j < n → J q j = G j) → (∀ j, n ≤ j → J q j = I q j) → Z (L (f + 1) J n)) {f : Nat} (hf : n < f) : Z (L f I 0) := by
  refine po_inv (L := L) (n := n) (fun r J => (∀ b, b ≠ q → J b = I b) ∧ (∀ j, r ≤ j → J q j = I q j) ∧ ∀ j, j < r → J q j = G j) Z ?_ ?_ n f I 0 (by omega) hf ⟨fun _ _ => rfl, fun _ _ => rfl, fun j hj => by omega⟩
  · intro f J r hr h
    left
    refine ⟨_, ⟨fun b hb => ?_, fun j hj => ?_, fun j hj => ?_⟩, st f J r hr h.1 h.2.1⟩
    · rw [po_u_ne hb]; exact h.1 b hb
    · rw [po_uu, if_neg (by omega)]; exact h.2.1 j (by omega)
    · rw [po_uu]
      by_cases e : j = r
      · rw [if_pos ⟨rfl, e⟩, e]
      · rw [if_neg (by omega)]; exact h.2.2 j (by omega)
  · intro f J h
    exact en f J h.1 h.2.2 h.2.1
theorem q_copy (hab : a ≠ b) : ∃ I', m_X8_copy I a b = some I' ∧ (∀ q, q ≠ b → I' q = I q) ∧ ∀ j, j < 668 → I' b j = I a j := by
  show ∃ I', m_X8_copy_2L 5000 I a b (Int32.ofNat 0) = _ ∧ _
  refine pl_rown (L := fun f J r => m_X8_copy_2L f J a b (Int32.ofNat r)) (I := I) (q := b) (n := 668) (G := fun r => I a r) (Z := fun x => ∃ I', x = some I' ∧ (∀ q, q ≠ b → I' q = I q) ∧ ∀ j, j < 668 → I' b j = I a j) ?_ ?_ (by omega)
  · intro f J r hr h1 h2
    show m_X8_copy_2 _ _ _ _ _ = _
    unfold m_X8_copy_2 po_hlet
    rw [if_neg (show ¬ (668 : Int32) ≤ Int32.ofNat r from mt (pl_le (a := 668) (by omega) (by omega)).mp (by omega)), if_pos (show po_in (Int32.ofNat r) 668 = true from pl_inl hr (by omega)), if_pos (show po_in (Int32.ofNat r) 668 = true from pl_inl hr (by omega)), pl_clamp (by omega), h1 a hab, show Int32.ofNat r + 1 = Int32.ofNat (r + 1) from pl_add r 1]
  · intro f J h1 h2 h3
    exact ⟨J, rfl, h1, h2⟩
theorem q_rem50 (hu : u < 6) (h3 : I M 3 = Int32.ofNat u) : ∃ I', m_X8_remember_50 I M = some I' ∧ (∀ q, q ≠ M → q ≠ M + 2 → I' q = I q) ∧ (∀ j, j ≠ 3 → I' M j = I M j) ∧ I' M 3 = Int32.ofNat (u + 1) ∧ (∀ j, j < 668 → I' (M + 2) (668 * u + j) = I (M + 3) j) ∧ ∀ j, j < 668 * u → I' (M + 2) j = I (M + 2) j := by
  unfold m_X8_remember_50
  refine po_inv (L := fun f (J : po_I) r => m_X8_remember_52L f J M (Int32.ofNat r)) (n := 668) (fun r J => (∀ q, q ≠ M + 2 → J q = I q) ∧ (∀ j, j < r → J (M + 2) (668 * u + j) = I (M + 3) j) ∧ ∀ j, j < 668 * u → J (M + 2) j = I (M + 2) j) (fun x => ∃ I', x = some I' ∧ (∀ q, q ≠ M → q ≠ M + 2 → I' q = I q) ∧ (∀ j, j ≠ 3 → I' M j = I M j) ∧ I' M 3 = Int32.ofNat (u + 1) ∧ (∀ j, j < 668 → I' (M + 2) (668 * u + j) = I (M + 3) j) ∧ ∀ j, j < 668 * u → I' (M + 2) j = I (M + 2) j) ?_ ?_ 668 5000 I 0 (by omega) (by omega) ⟨fun _ _ => rfl, fun j hj => by omega, fun _ _ => rfl⟩
  · rintro f J r hr ⟨g1, g2, g3⟩
    left
    refine ⟨po_u J (M + 2) (668 * u + r) (J (M + 3) r), ⟨fun q hq => by rw [po_u_ne hq]; exact g1 q hq, fun j hj => ?_, fun j hj => ?_⟩, ?_⟩
    · rw [po_uu]
      by_cases e : j = r
      · rw [if_pos ⟨rfl, by omega⟩, e, g1 (M + 3) (by omega)]
      · rw [if_neg (by omega)]; exact g2 j (by omega)
    · rw [po_uu, if_neg (by omega)]; exact g3 j hj
    · show m_X8_remember_52 _ _ _ _ = _
      unfold m_X8_remember_52 po_hlet
      rw [if_neg (show ¬ (668 : Int32) ≤ Int32.ofNat r from mt (pl_le (a := 668) (by omega) (by omega)).mp (by omega)), if_pos (show po_in (Int32.ofNat r) 668 = true from pl_inl hr (by omega)), g1 M (by omega), h3, pk_668, pl_mul, pl_add, if_pos (show po_in (Int32.ofNat (668 * u + r)) 4008 = true from pl_inl (by omega) (by omega)), pl_clamp (by omega), pl_clamp (by omega), show Int32.ofNat r + 1 = Int32.ofNat (r + 1) from pl_add r 1]
  · rintro f J ⟨g1, g2, g3⟩
    refine ⟨po_u J M 3 (J M 3 + 1), ?_, fun q q1 q2 => by rw [po_u_ne q1]; exact g1 q q2, fun j hj => by rw [po_uu, if_neg (by omega), g1 M (by omega)], ?_, fun j hj => by rw [po_u_ne (by omega)]; exact g2 j hj, fun j hj => by rw [po_u_ne (by omega)]; exact g3 j hj⟩
    · rfl
    · rw [po_uu, if_pos ⟨rfl, rfl⟩, g1 M (by omega), h3]
      exact pl_add u 1
theorem q_remember (hu : u ≤ 6) (h3 : I M 3 = Int32.ofNat u) : ∃ I', m_X8_remember I M = some I' ∧ (∀ q, q ≠ M → q ≠ M + 2 → I' q = I q) ∧ (∀ j, j ≠ 3 → I' M j = I M j) ∧ I' M 3 = Int32.ofNat ((if u = 6 then 5 else u) + 1) ∧ (∀ j, j < 668 → I' (M + 2) (668 * (if u = 6 then 5 else u) + j) = I (M + 3) j) ∧ ∀ j, j < 668 * (if u = 6 then 5 else u) → I' (M + 2) j = I (M + 2) (j + 668 * (if u = 6 then 1 else 0)) := by
  unfold m_X8_remember m_X8_remember_e
  rw [h3]
  by_cases e : u = 6
  · subst e
    rw [if_pos (show Int32.ofNat 6 = 6 from rfl)]
    show ∃ I', m_X8_remember_11L 5000 I M (Int32.ofNat 0) = _ ∧ _
    refine pl_rown (L := fun f J r => m_X8_remember_11L f J M (Int32.ofNat r)) (I := I) (q := M + 2) (n := 3340) (G := fun r => I (M + 2) (r + 668)) (Z := fun x => ∃ I', x = some I' ∧ (∀ q, q ≠ M → q ≠ M + 2 → I' q = I q) ∧ (∀ j, j ≠ 3 → I' M j = I M j) ∧ I' M 3 = Int32.ofNat ((if 6 = 6 then 5 else 6) + 1) ∧ (∀ j, j < 668 → I' (M + 2) (668 * (if 6 = 6 then 5 else 6) + j) = I (M + 3) j) ∧ ∀ j, j < 668 * (if 6 = 6 then 5 else 6) → I' (M + 2) j = I (M + 2) (j + 668 * (if 6 = 6 then 1 else 0))) ?_ ?_ (by omega)
    · intro f J r hr h1 h2
      show m_X8_remember_11 _ _ _ _ = _
      unfold m_X8_remember_11 po_hlet
      rw [if_neg (show ¬ (3340 : Int32) ≤ Int32.ofNat r from mt (pl_le (a := 3340) (by omega) (by omega)).mp (by omega)), pk_668, pl_add, if_pos (show po_in (Int32.ofNat (r + 668)) 4008 = true from pl_inl (by omega) (by omega)), if_pos (show po_in (Int32.ofNat r) 4008 = true from pl_inl (by omega) (by omega)), pl_clamp (by omega), pl_clamp (by omega), h2 (r + 668) (by omega), show Int32.ofNat r + 1 = Int32.ofNat (r + 1) from pl_add r 1]
    · intro f J g1 g2 g3
      show ∃ I', m_X8_remember_11 _ _ _ _ = _ ∧ _
      unfold m_X8_remember_11 po_hlet
      rw [if_pos (show (3340 : Int32) ≤ Int32.ofNat 3340 from (pl_le (a := 3340) (by omega) (by omega)).mpr (by omega))]
      dsimp only
      have e5 : (po_u J M 3 (J M 3 - 1)) M 3 = Int32.ofNat 5 := by
        rw [po_uu, if_pos ⟨rfl, rfl⟩, g1 M (by omega), h3]
        exact pl_sub (a := 6) (b := 1) (by omega)
      obtain ⟨I', a1, a2, a3, a4, a5, a6⟩ := q_rem50 (I := po_u J M 3 (J M 3 - 1)) (M := M) (u := 5) (by omega) e5
      refine ⟨I', a1, fun q q1 q2 => by rw [a2 q q1 q2, po_u_ne q1, g1 q q2], fun j hj => by rw [a3 j hj, po_uu, if_neg (by omega), g1 M (by omega)], a4, fun j hj => ?_, fun j hj => ?_⟩
      · exact (a5 j hj).trans (by rw [po_u_ne (by omega), g1 (M + 3) (by omega)])
      · exact (a6 j hj).trans (by rw [po_u_ne (by omega)]; exact g2 j hj)
  · rw [if_neg (show ¬ Int32.ofNat u = 6 from pk_ne (b := 6) (by omega) (by omega) e), if_neg e, if_neg e]
    obtain ⟨I', a1, a2, a3, a4, a5, a6⟩ := q_rem50 (I := I) (M := M) (u := u) (by omega) h3
    exact ⟨I', a1, a2, a3, a4, a5, a6⟩
theorem q_call (hu : u ≤ 6) (h3 : I M 3 = Int32.ofNat u) : ∃ I', m_X8_call I M = some I' ∧ (∀ q, q ≠ M → q ≠ M + 2 → q ≠ M + 3 → I' q = I q) ∧ (∀ j, j ≠ 3 → I' M j = I M j) ∧ I' M 3 = Int32.ofNat ((if u = 6 then 5 else u) + 1) ∧ (∀ j, j < 668 → I' (M + 2) (668 * (if u = 6 then 5 else u) + j) = I (M + 1) j) ∧ ∀ j, j < 668 * (if u = 6 then 5 else u) → I' (M + 2) j = I (M + 2) (j + 668 * (if u = 6 then 1 else 0)) := by
  obtain ⟨I1, a1, a2, a3⟩ := q_copy (I := I) (a := M + 1) (b := M + 3) (by omega)
  obtain ⟨I2, b1, b2, b3, b4, b5, b6⟩ := q_remember (I := I1) (M := M) hu (by rw [a2 M (by omega)]; exact h3)
  unfold m_X8_call m_X8_call_e
  rw [a1, Option.bind_some, b1, Option.bind_some]
  refine ⟨I2, rfl, fun q q1 q2 q3 => by rw [b2 q q1 q2, a2 q q3], fun j hj => by rw [b3 j hj, a2 M (by omega)], b4, fun j hj => by rw [b5 j hj, a3 j hj], fun j hj => by rw [b6 j hj, a2 (M + 2) (by omega)]⟩
end QB3
