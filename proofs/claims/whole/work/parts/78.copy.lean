section QB1
variable {I J : po_I} {P Q L t u b : Nat} {N : po_N}
theorem pn_nn (x : Int32) : vp_nar .boolean (vp_nar .boolean x) = vp_nar .boolean x := by
  show x &&& 1 &&& 1 = x &&& 1
  rw [Int32.and_assoc, Int32.and_self]
theorem po_cpa (I : po_I) (a b m q j : Nat) : po_cp I a b m q j = if q = b then (if j < m then I a j else I b j) else I q j := by
  unfold po_cp
  by_cases h : q = b
  · rw [if_pos h, if_pos h]
  · rw [if_neg h, if_neg h]
theorem po_cpn (I : po_I) {a b m q : Nat} (h : q ≠ b) : po_cp I a b m q = I q := by
  unfold po_cp
  rw [if_neg h]
theorem po_hlz {α : Type} {Z : Option α → Prop} {v : po_I} {f : po_I → Option α} (k : ∀ J, J = v → Z (f J)) : Z (po_hlet v f) := k v rfl
/-- fields of one cell, one after another -/
def pcy (I J : po_I) (P : Nat) (g : Nat → Int32) (js : List Nat) : Prop := (∀ q, (q < P ∨ P + 5 ≤ q) → J q = I q) ∧ ∀ j, j ∈ js → J P j = g j
theorem pcy_let {α : Type} {Z : Option α → Prop} {g : Nat → Int32} {js : List Nat} {v : Int32} {f : po_I → Option α} (c : pcy I J P g js) (j : Nat) (hv : v = g j) (k : ∀ J', pcy I J' P g (j :: js) → (∀ q, q ≠ P → J' q = J q) → Z (f J')) : Z (po_hlet (po_u J P j v) f) := by
  refine k _ ⟨fun q hq => by rw [po_u_ne (by omega)]; exact c.1 q hq, fun i hi => ?_⟩ (fun q hq => po_u_ne hq)
  rw [po_uu]
  by_cases e : i = j
  · rw [if_pos ⟨rfl, e⟩, hv, e]
  · rw [if_neg (by omega)]
    rcases List.mem_cons.mp hi with h2 | h2
    · exact absurd h2 e
    · exact c.2 i h2
theorem pcy.q {g : Nat → Int32} {js : List Nat} (c : pcy I J P g js) (hd : P + 5 ≤ Q ∨ Q + 5 ≤ P) : J Q = I Q := c.1 Q (by omega)
theorem x_lotCopy {Z : Option po_I → Prop} (hd : L + 3 ≤ Q ∨ Q + 3 ≤ L) (h : pTL I Q N b) (k : ∀ I', (∀ q, q ≠ L → q ≠ L + 2 → I' q = I q) → pTL I' L N b → Z (some I')) : Z (m_X1_copyFrom I L Q) := by
  obtain ⟨h1, h2, h3, h4⟩ := h
  unfold m_X1_copyFrom m_X1_copyFrom_e
  refine po_hlz fun J1 e1 => po_hlz fun J2 e2 => ?_
  have f2 : ∀ q, q ≠ L → J2 q = I q := fun q hq => by rw [e2, po_u_ne hq, e1, po_u_ne hq]
  obtain ⟨I3, a1, a2, a3, a4⟩ := x_copyFrom (I := J2) (a := L + 1) (b := Q + 1) (T := pa_in N b) (by omega) (h3.mv (f2 _ (by omega)))
  rw [a1, Option.bind_some]
  refine po_hlz fun J4 e4 => k J4 (fun q q1 q2 => by rw [e4, po_u_ne q1, a2 q (by omega), f2 q q1]) ⟨?_, ?_, ?_, ?_⟩
  · rw [e4, po_uu, if_neg (by omega), a2 L (by omega), e2, po_uu, if_neg (by omega), e1, po_uu, if_pos ⟨rfl, rfl⟩, h1]
  · rw [e4, po_uu, if_neg (by omega), a2 L (by omega), e2, po_uu, if_pos ⟨rfl, rfl⟩, e1, po_u_ne (by omega), h2]
  · exact a4.mv (by rw [e4, po_u_ne (by omega)])
  · rw [e4, po_uu, if_pos ⟨rfl, rfl⟩, a2 Q (by omega), f2 Q (by omega), h4]
theorem x_varCopy {Z : Option po_I → Prop} (hd : L ≠ Q) (h : ∀ j, j < 4 → I Q j = N (b + j)) (k : ∀ I', (∀ q, q ≠ L → I' q = I q) → (∀ j, j < 4 → I' L j = N (b + j)) → Z (some I')) : Z (m_X6_copyFrom I L Q) := by
  unfold m_X6_copyFrom m_X6_copyFrom_e
  refine po_hlz fun J1 e1 => po_hlz fun J2 e2 => po_hlz fun J3 e3 => po_hlz fun J4 e4 => k J4 (fun q hq => by rw [e4, po_u_ne hq, e3, po_u_ne hq, e2, po_u_ne hq, e1, po_u_ne hq]) fun j hj => ?_
  have q1 : J1 Q = I Q := by rw [e1, po_u_ne (by omega)]
  have q2 : J2 Q = I Q := by rw [e2, po_u_ne (by omega), q1]
  have q3 : J3 Q = I Q := by rw [e3, po_u_ne (by omega), q2]
  rw [e4, q3, e3, q2, e2, q1, e1]
  simp only [po_uu]
  rcases (by omega : j = 0 ∨ j = 1 ∨ j = 2 ∨ j = 3) with e | e | e | e <;> subst e
  · simpa using h 0 (by omega)
  · simpa using h 1 (by omega)
  · simpa using h 2 (by omega)
  · simpa using h 3 (by omega)
theorem x_permitCopy {Z : Option po_I → Prop} (hd : P + 5 ≤ Q ∨ Q + 5 ≤ P) (h : pTP I Q N b) (hc : pv N (b + 45) ≤ 6) (k : ∀ I', (∀ q, (q < P ∨ P + 5 ≤ q) → I' q = I q) → pTP I' P N b → Z (some I')) : Z (m_X2_copyFrom I P Q) := by
  have c0 : pcy I I P (fun j => if j = 11 then vp_nar .boolean (I Q 11) else I Q j) [] := ⟨fun _ _ => rfl, fun j hj => by cases hj⟩
  unfold m_X2_copyFrom m_X2_copyFrom_e
  refine pcy_let c0 0 (by rw [c0.q hd]; rfl) fun J1 c1 r1 => pcy_let c1 1 (by rw [c1.q hd]; rfl) fun J2 c2 r2 => pcy_let c2 2 (by rw [c2.q hd]; rfl) fun J3 c3 r3 => pcy_let c3 3 (by rw [c3.q hd]; rfl) fun J4 c4 r4 => ?_
  obtain ⟨J5, a1, a2, a3, a4⟩ := x_copyFrom (I := J4) (a := P + 1) (b := Q + 1) (T := pa_in N b) (by omega) (h.are.mv (c4.1 _ (by omega)))
  rw [a1, Option.bind_some]
  have c5 : pcy I J5 P (fun j => if j = 11 then vp_nar .boolean (I Q 11) else I Q j) [3, 2, 1, 0] := ⟨fun q hq => by rw [a2 q (by omega)]; exact c4.1 q hq, fun j hj => by rw [a2 P (by omega)]; exact c4.2 j hj⟩
  refine pcy_let c5 5 (by rw [c5.q hd]; rfl) fun J6 c6 r6 => pcy_let c6 6 (by rw [c6.q hd]; rfl) fun J7 c7 r7 => pcy_let c7 7 (by rw [c7.q hd]; rfl) fun J8 c8 r8 => pcy_let c8 8 (by rw [c8.q hd]; rfl) fun J9 c9 r9 => pcy_let c9 9 (by rw [c9.q hd]; rfl) fun J10 c10 r10 => pcy_let c10 10 (by rw [c10.q hd]; rfl) fun J11 c11 r11 => pcy_let c11 11 (by rw [c11.q hd]; rfl) fun J12 c12 r12 => pcy_let c12 12 (by rw [c12.q hd]; rfl) fun J13 c13 r13 => pcy_let c13 13 (by rw [c13.q hd]; rfl) fun J14 c14 r14 => pcy_let c14 14 (by rw [c14.q hd]; rfl) fun J15 c15 r15 => pcy_let c15 15 (by rw [c15.q hd]; rfl) fun J16 c16 r16 => pcy_let c16 16 (by rw [c16.q hd]; rfl) fun J17 c17 r17 => po_hlz fun J18 e18 => po_hlz fun J19 e19 => ?_
  have r5 : ∀ q, q ≠ P → J17 q = J5 q := fun q hq => by rw [r17 q hq, r16 q hq, r15 q hq, r14 q hq, r13 q hq, r12 q hq, r11 q hq, r10 q hq, r9 q hq, r8 q hq, r7 q hq, r6 q hq]
  have f19 : ∀ q, q ≠ P + 3 → q ≠ P + 4 → J19 q = J17 q := fun q q1 q2 => by rw [e19, po_cpn _ (by omega), e18, po_cpn _ (by omega)]
  have fP : J19 P = J17 P := f19 P (by omega) (by omega)
  have g := c17.2
  have g3 : ∀ j, j < 6 → J19 (P + 3) j = I (Q + 3) j := fun j hj => by
    rw [e19, po_cpn _ (by omega), e18, po_cpa, if_pos rfl, if_pos hj, c17.1 (Q + 3) (by omega)]
  have g4 : ∀ j, j < 6 → J19 (P + 4) j = I (Q + 4) j := fun j hj => by
    rw [e19, po_cpa, if_pos rfl, if_pos hj, e18, po_cpn _ (by omega), c17.1 (Q + 4) (by omega)]
  have ec : pTC J19 P N b := by
    intro i hi
    have hh := h.cnd i hi
    have g16 : J19 P 16 = I Q 16 := by rw [fP]; exact g 16 (by simp)
    rw [g16]
    refine ⟨fun hlt => ?_, hh.2⟩
    rw [g3 i (by omega), g4 i (by omega)]
    exact hh.1 hlt
  refine k J19 (fun q hq => by rw [f19 q (by omega) (by omega)]; exact c17.1 q hq) ⟨?_, ?_, ?_, ?_, ?_, ?_, ?_, ?_, ?_, ?_, ?_, ?_, ?_, ?_, ?_, ?_, ec⟩
  · rw [fP, g 0 (by simp)]; exact h.lot
  · rw [fP, g 1 (by simp)]; exact h.use
  · rw [fP, g 2 (by simp)]; exact h.flo
  · rw [fP, g 3 (by simp)]; exact h.par
  · exact a4.mv (by rw [f19 _ (by omega) (by omega), r5 _ (by omega)])
  · rw [fP, g 5 (by simp)]; exact h.cel
  · rw [fP, g 6 (by simp)]; exact h.sta
  · rw [fP, g 7 (by simp)]; exact h.rea
  · rw [fP, g 8 (by simp)]; exact h.pha
  · rw [fP, g 9 (by simp)]; exact h.fai
  · rw [fP, g 10 (by simp)]; exact h.lim
  · rw [fP, g 11 (by simp)]
    show vp_nar .boolean (vp_nar .boolean (I Q 11)) = _
    rw [pn_nn]; exact h.ext
  · rw [fP, g 12 (by simp)]; exact h.nam
  · rw [fP, g 13 (by simp)]; exact h.pai
  · rw [fP, g 14 (by simp)]; exact h.bac
  · rw [fP, g 15 (by simp)]; exact h.con
/-- a town onto another -/
def pTQ (I : po_I) (t : Nat) (N : po_N) (a b c : Nat) : Prop := I t 0 = N 0 ∧ I t 3 = N 1 ∧ (∀ j, j < 28 → I (t + 1) j = N (4 + j)) ∧ (∀ k, k < a → pTL I (t + (5 + 3 * k)) N (32 + 16 * k)) ∧ (∀ k, k < b → pTP I (t + (29 + 5 * k)) N (160 + 46 * k)) ∧ (∀ k, k < c → ∀ j, j < 4 → I (t + (79 + k)) j = N (620 + 4 * k + j))
theorem pTQ.lot {J' : po_I} {i : Nat} (h : pTQ J t N i 0 0) (hi : i < 8) (f : ∀ q, q ≠ t + (5 + 3 * i) → q ≠ t + (5 + 3 * i) + 2 → J' q = J q) (hl : pTL J' (t + (5 + 3 * i)) N (32 + 16 * i)) : pTQ J' t N (i + 1) 0 0 := by
  obtain ⟨h1, h2, h3, h4, h5, h6⟩ := h
  have e0 := f t (by omega) (by omega)
  have e1 := f (t + 1) (by omega) (by omega)
  refine ⟨by rw [e0]; exact h1, by rw [e0]; exact h2, by rw [e1]; exact h3, fun k hk => ?_, fun k hk => by omega, fun k hk => by omega⟩
  by_cases e : k = i
  · rw [e]; exact hl
  · exact (h4 k (by omega)).mv (fun q q1 q2 => f q (by omega) (by omega))
theorem pTQ.per {J' : po_I} {i a : Nat} (h : pTQ J t N a i 0) (ha : a ≤ 8) (hi : i < 10) (f : ∀ q, (q < t + (29 + 5 * i) ∨ t + (29 + 5 * i) + 5 ≤ q) → J' q = J q) (hl : pTP J' (t + (29 + 5 * i)) N (160 + 46 * i)) : pTQ J' t N a (i + 1) 0 := by
  obtain ⟨h1, h2, h3, h4, h5, h6⟩ := h
  have e0 := f t (by omega)
  have e1 := f (t + 1) (by omega)
  refine ⟨by rw [e0]; exact h1, by rw [e0]; exact h2, by rw [e1]; exact h3, fun k hk => (h4 k hk).mv (fun q q1 q2 => f q (by omega)), fun k hk => ?_, fun k hk => by omega⟩
  by_cases e : k = i
  · rw [e]; exact hl
  · exact (h5 k (by omega)).mv (fun q q1 q2 => f q (by omega))
theorem pTQ.var {J' : po_I} {i a b : Nat} (h : pTQ J t N a b i) (ha : a ≤ 8) (hb : b ≤ 10) (f : ∀ q, q ≠ t + (79 + i) → J' q = J q) (hl : ∀ j, j < 4 → J' (t + (79 + i)) j = N (620 + 4 * i + j)) : pTQ J' t N a b (i + 1) := by
  obtain ⟨h1, h2, h3, h4, h5, h6⟩ := h
  have e0 := f t (by omega)
  have e1 := f (t + 1) (by omega)
  refine ⟨by rw [e0]; exact h1, by rw [e0]; exact h2, by rw [e1]; exact h3, fun k hk => (h4 k hk).mv (fun q q1 q2 => f q (by omega)), fun k hk => (h5 k hk).mv (fun q q1 q2 => f q (by omega)), fun k hk => ?_⟩
  by_cases e : k = i
  · rw [e]; exact hl
  · rw [f _ (by omega)]; exact h6 k (by omega)
theorem pTQ.top {J' : po_I} {a b c : Nat} (h : pTQ J t N a b c) (ha : a ≤ 8) (hb : b ≤ 10) (f : ∀ q, q ≠ t → J' q = J q) (f0 : J' t 0 = J t 0) (f3 : J' t 3 = J t 3) : pTQ J' t N a b c := by
  obtain ⟨h1, h2, h3, h4, h5, h6⟩ := h
  have e1 := f (t + 1) (by omega)
  exact ⟨by rw [f0]; exact h1, by rw [f3]; exact h2, by rw [e1]; exact h3, fun k hk => (h4 k hk).mv (fun q q1 q2 => f q (by omega)), fun k hk => (h5 k hk).mv (fun q q1 q2 => f q (by omega)), fun k hk j hj => by rw [f _ (by omega)]; exact h6 k hk j hj⟩
theorem x_townCopy {Z : Option po_I → Prop} (hV : pV N) (hT : pTR I u N) (hd : t + 91 ≤ u ∨ u + 91 ≤ t) (k : ∀ I', (∀ q, (q < t ∨ t + 91 ≤ q) → I' q = I q) → pTR I' t N → Z (some I')) : Z (m_X5_copyFrom I t u) := by
  have n1 := hV.2.1
  have n2 := hV.2.2.1
  have n3 := hV.2.2.2.1
  have m1 := n1.2.2
  have m2 := n2.2.2
  have m3 := n3.2.2
  unfold m_X5_copyFrom m_X5_copyFrom_e
  refine po_hlz fun J1 e1 => po_hlz fun J2 e2 => po_hlz fun J3 e3 => ?_
  have f3 : ∀ q, q ≠ t → q ≠ t + 1 → J3 q = I q := fun q q1 q2 => by rw [e3, po_u_ne q1, e2, po_cpn _ q2, e1, po_u_ne q1]
  have s3 : pTQ J3 t N 0 0 0 := by
    refine ⟨?_, ?_, fun j hj => ?_, fun k hk => by omega, fun k hk => by omega, fun k hk => by omega⟩
    · rw [e3, po_uu, if_neg (by omega), e2, po_cpn _ (by omega), e1, po_uu, if_pos ⟨rfl, rfl⟩, hT.1]
    · rw [e3, po_uu, if_pos ⟨rfl, rfl⟩, e2, po_cpn _ (by omega), e1, po_u_ne (by omega), hT.2.1]
    · rw [e3, po_u_ne (by omega), e2, po_cpa, if_pos rfl, if_pos hj, e1, po_u_ne (by omega), hT.2.2.2.2.1 j hj]
  have fr3 : ∀ q, (q < t ∨ t + 91 ≤ q) → J3 q = I q := fun q hq => f3 q (by omega) (by omega)
  show Z (m_X5_copyFrom_33L 5000 J3 t u (Int32.ofNat 0))
  refine po_inv (L := fun f (J : po_I) i => m_X5_copyFrom_33L f J t u (Int32.ofNat i)) (n := pv N 1) (fun i J => (∀ q, (q < t ∨ t + 91 ≤ q) → J q = I q) ∧ pTQ J t N i 0 0) Z ?_ ?_ (pv N 1) 5000 J3 0 (by omega) (by omega) ⟨fr3, s3⟩
  · rintro f J i hi ⟨g1, g2⟩
    left
    have hTJ : pTR J u N := hT.mv hV (fun q q1 q2 => g1 q (by omega))
    obtain ⟨J', a1, a2, a3⟩ := x_lotCopy (Z := fun x => ∃ I', x = some I' ∧ (∀ q, q ≠ t + (5 + 3 * i) → q ≠ t + (5 + 3 * i) + 2 → I' q = J q) ∧ pTL I' (t + (5 + 3 * i)) N (32 + 16 * i)) (L := t + (5 + 3 * i)) (Q := u + (5 + 3 * i)) (by omega) (hTJ.2.2.2.2.2.1 i hi) (fun I' a b => ⟨I', rfl, a, b⟩)
    refine ⟨J', ⟨fun q hq => by rw [a2 q (by omega) (by omega)]; exact g1 q hq, g2.lot (by omega) a2 a3⟩, ?_⟩
    show m_X5_copyFrom_33 _ _ _ _ _ = _
    unfold m_X5_copyFrom_33
    rw [g2.2.1, n1.1, if_neg (by first | exact pl_inl (by omega) (by omega) | exact (pl_le (by omega) (by omega)).mpr (by omega) | exact mt (pl_le (by omega) (by omega)).mp (by omega) | exact (pl_lt (by omega) (by omega)).mpr (by omega) | exact mt (pl_lt (by omega) (by omega)).mp (by omega) | exact (pl_eq (by omega) (by omega)).mpr (by omega) | exact mt (pl_eq (by omega) (by omega)).mp (by omega) | exact (pl_neg1 (by omega)).mp | exact (pl_neg1' (by omega)).mp | assumption | omega | rfl | decide), if_pos (show po_in (Int32.ofNat i) 8 = true from pl_inl (by omega) (by omega)), if_pos (show po_in (Int32.ofNat i) 8 = true from pl_inl (by omega) (by omega)), pl_clamp (by omega), a1, Option.bind_some, show Int32.ofNat i + 1 = Int32.ofNat (i + 1) from pl_add i 1]
  rintro f J ⟨g1, g2⟩
  have hTJ : pTR J u N := hT.mv hV (fun q q1 q2 => g1 q (by omega))
  show Z (m_X5_copyFrom_33 _ _ _ _ _)
  unfold m_X5_copyFrom_33
  rw [g2.2.1, n1.1, if_pos (by first | exact pl_inl (by omega) (by omega) | exact (pl_le (by omega) (by omega)).mpr (by omega) | exact mt (pl_le (by omega) (by omega)).mp (by omega) | exact (pl_lt (by omega) (by omega)).mpr (by omega) | exact mt (pl_lt (by omega) (by omega)).mp (by omega) | exact (pl_eq (by omega) (by omega)).mpr (by omega) | exact mt (pl_eq (by omega) (by omega)).mp (by omega) | exact (pl_neg1 (by omega)).mp | exact (pl_neg1' (by omega)).mp | assumption | omega | rfl | decide)]
  refine po_hlz fun J8 e8 => ?_
  have s8 : pTQ J8 t N (pv N 1) 0 0 := g2.top m1 (by omega) (fun q hq => by rw [e8, po_u_ne hq]) (by rw [e8, po_uu, if_neg (by omega)]) (by rw [e8, po_uu, if_neg (by omega)])
  have z8 : J8 t 5 = N 2 := by rw [e8, po_uu, if_pos ⟨rfl, rfl⟩]; exact hTJ.2.2.1
  have fr8 : ∀ q, (q < t ∨ t + 91 ≤ q) → J8 q = I q := fun q hq => by rw [e8, po_u_ne (by omega)]; exact g1 q hq
  clear g1 g2 hTJ e8 s3 fr3 f3 e1 e2 e3
  clear J J1 J2 J3
  show Z (m_X5_copyFrom_72L 5000 J8 t u (Int32.ofNat 0))
  refine po_inv (L := fun f (J : po_I) i => m_X5_copyFrom_72L f J t u (Int32.ofNat i)) (n := pv N 2) (fun i J => (∀ q, (q < t ∨ t + 91 ≤ q) → J q = I q) ∧ pTQ J t N (pv N 1) i 0 ∧ J t 5 = N 2) Z ?_ ?_ (pv N 2) 5000 J8 0 (by omega) (by omega) ⟨fr8, s8, z8⟩
  · rintro f J i hi ⟨g1, g2, g3⟩
    left
    have hTJ : pTR J u N := hT.mv hV (fun q q1 q2 => g1 q (by omega))
    have hc := (hV.per hi).2.2.2.2.2.2.2.2.2.2.2.1.2.2
    obtain ⟨J', a1, a2, a3⟩ := x_permitCopy (Z := fun x => ∃ I', x = some I' ∧ (∀ q, (q < t + (29 + 5 * i) ∨ t + (29 + 5 * i) + 5 ≤ q) → I' q = J q) ∧ pTP I' (t + (29 + 5 * i)) N (160 + 46 * i)) (P := t + (29 + 5 * i)) (Q := u + (29 + 5 * i)) (by omega) (hTJ.per hi) hc (fun I' a b => ⟨I', rfl, a, b⟩)
    refine ⟨J', ⟨fun q hq => by rw [a2 q (by omega)]; exact g1 q hq, g2.per m1 (by omega) a2 a3, by rw [a2 t (by omega)]; exact g3⟩, ?_⟩
    show m_X5_copyFrom_72 _ _ _ _ _ = _
    unfold m_X5_copyFrom_72
    rw [g3, n2.1, if_neg (by first | exact pl_inl (by omega) (by omega) | exact (pl_le (by omega) (by omega)).mpr (by omega) | exact mt (pl_le (by omega) (by omega)).mp (by omega) | exact (pl_lt (by omega) (by omega)).mpr (by omega) | exact mt (pl_lt (by omega) (by omega)).mp (by omega) | exact (pl_eq (by omega) (by omega)).mpr (by omega) | exact mt (pl_eq (by omega) (by omega)).mp (by omega) | exact (pl_neg1 (by omega)).mp | exact (pl_neg1' (by omega)).mp | assumption | omega | rfl | decide), if_pos (show po_in (Int32.ofNat i) 10 = true from pl_inl (by omega) (by omega)), if_pos (show po_in (Int32.ofNat i) 10 = true from pl_inl (by omega) (by omega)), pl_clamp (by omega), a1, Option.bind_some, show Int32.ofNat i + 1 = Int32.ofNat (i + 1) from pl_add i 1]
  rintro f J ⟨g1, g2, g3⟩
  have hTJ : pTR J u N := hT.mv hV (fun q q1 q2 => g1 q (by omega))
  show Z (m_X5_copyFrom_72 _ _ _ _ _)
  unfold m_X5_copyFrom_72
  rw [g3, n2.1, if_pos (by first | exact pl_inl (by omega) (by omega) | exact (pl_le (by omega) (by omega)).mpr (by omega) | exact mt (pl_le (by omega) (by omega)).mp (by omega) | exact (pl_lt (by omega) (by omega)).mpr (by omega) | exact mt (pl_lt (by omega) (by omega)).mp (by omega) | exact (pl_eq (by omega) (by omega)).mpr (by omega) | exact mt (pl_eq (by omega) (by omega)).mp (by omega) | exact (pl_neg1 (by omega)).mp | exact (pl_neg1' (by omega)).mp | assumption | omega | rfl | decide)]
  refine po_hlz fun J9 e9 => ?_
  have s9 : pTQ J9 t N (pv N 1) (pv N 2) 0 := g2.top m1 m2 (fun q hq => by rw [e9, po_u_ne hq]) (by rw [e9, po_uu, if_neg (by omega)]) (by rw [e9, po_uu, if_neg (by omega)])
  have z9 : J9 t 7 = N 3 := by rw [e9, po_uu, if_pos ⟨rfl, rfl⟩]; exact hTJ.2.2.2.1
  have y9 : J9 t 5 = N 2 := by rw [e9, po_uu, if_neg (by omega)]; exact g3
  have fr9 : ∀ q, (q < t ∨ t + 91 ≤ q) → J9 q = I q := fun q hq => by rw [e9, po_u_ne (by omega)]; exact g1 q hq
  clear g1 g2 g3 hTJ e9
  clear J
  show Z (m_X5_copyFrom_111L 5000 J9 t u (Int32.ofNat 0))
  refine po_inv (L := fun f (J : po_I) i => m_X5_copyFrom_111L f J t u (Int32.ofNat i)) (n := pv N 3) (fun i J => (∀ q, (q < t ∨ t + 91 ≤ q) → J q = I q) ∧ pTQ J t N (pv N 1) (pv N 2) i ∧ J t 5 = N 2 ∧ J t 7 = N 3) Z ?_ ?_ (pv N 3) 5000 J9 0 (by omega) (by omega) ⟨fr9, s9, y9, z9⟩
  · rintro f J i hi ⟨g1, g2, g3, g4⟩
    left
    have hTJ : pTR J u N := hT.mv hV (fun q q1 q2 => g1 q (by omega))
    obtain ⟨J', a1, a2, a3⟩ := x_varCopy (Z := fun x => ∃ I', x = some I' ∧ (∀ q, q ≠ t + (79 + i) → I' q = J q) ∧ ∀ j, j < 4 → I' (t + (79 + i)) j = N (620 + 4 * i + j)) (L := t + (79 + i)) (Q := u + (79 + i)) (by omega) (hTJ.2.2.2.2.2.2.2 i hi) (fun I' a b => ⟨I', rfl, a, b⟩)
    refine ⟨J', ⟨fun q hq => by rw [a2 q (by omega)]; exact g1 q hq, g2.var m1 m2 a2 a3, by rw [a2 t (by omega)]; exact g3, by rw [a2 t (by omega)]; exact g4⟩, ?_⟩
    show m_X5_copyFrom_111 _ _ _ _ _ = _
    unfold m_X5_copyFrom_111
    rw [g4, n3.1, if_neg (by first | exact pl_inl (by omega) (by omega) | exact (pl_le (by omega) (by omega)).mpr (by omega) | exact mt (pl_le (by omega) (by omega)).mp (by omega) | exact (pl_lt (by omega) (by omega)).mpr (by omega) | exact mt (pl_lt (by omega) (by omega)).mp (by omega) | exact (pl_eq (by omega) (by omega)).mpr (by omega) | exact mt (pl_eq (by omega) (by omega)).mp (by omega) | exact (pl_neg1 (by omega)).mp | exact (pl_neg1' (by omega)).mp | assumption | omega | rfl | decide), if_pos (show po_in (Int32.ofNat i) 12 = true from pl_inl (by omega) (by omega)), if_pos (show po_in (Int32.ofNat i) 12 = true from pl_inl (by omega) (by omega)), pl_clamp (by omega), a1, Option.bind_some, show Int32.ofNat i + 1 = Int32.ofNat (i + 1) from pl_add i 1]
  rintro f J ⟨g1, g2, g3, g4⟩
  show Z (m_X5_copyFrom_111 _ _ _ _ _)
  unfold m_X5_copyFrom_111
  rw [g4, n3.1, if_pos (by first | exact pl_inl (by omega) (by omega) | exact (pl_le (by omega) (by omega)).mpr (by omega) | exact mt (pl_le (by omega) (by omega)).mp (by omega) | exact (pl_lt (by omega) (by omega)).mpr (by omega) | exact mt (pl_lt (by omega) (by omega)).mp (by omega) | exact (pl_eq (by omega) (by omega)).mpr (by omega) | exact mt (pl_eq (by omega) (by omega)).mp (by omega) | exact (pl_neg1 (by omega)).mp | exact (pl_neg1' (by omega)).mp | assumption | omega | rfl | decide)]
  exact k J g1 ⟨g2.1, g2.2.1, g3, g4, g2.2.2.1, g2.2.2.2.1, g2.2.2.2.2.1, g2.2.2.2.2.2⟩
end QB1
