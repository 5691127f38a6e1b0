section QC2
variable {I I3 : po_I} {R : po_R} {o M n t k b P : Nat} {N N' : po_N} {st : Nat → Nat}
theorem po_bz {α β : Type} {Z : Option β → Prop} {v : α} {f : α → Option β} (k : ∀ J, J = v → Z (f J)) : Z (Option.bind (some v) f) := k v rfl
theorem L_reinstate (h : pInv I R o M st n) (hn : n < 600) (a : Int32) : ∃ w I1 R1 v I2, m_X7_reinstate I R o a = some (w, I1, R1) ∧ m_X8_reinstate I1 M a = some (v, I2) ∧ pAg sIO sIS w (I2 M 0) v ∧ pInv I2 R1 o M st (n + 1) := by
  have hV := h.1.1
  have hB := h.1.2.1
  have hT := h.1.2.2
  have hM := h.2.2.2.2.2.1
  have h2' := hV.2.2.1.2.2
  have hday := hB.1
  have hday2 := hV.1.1
  have y1 : ∀ (K : po_I) e, e ≠ 0 → m_X8_reinstate_30 K M a M e = some (0, po_u K M 0 e) := by
    intro K e he
    unfold m_X8_reinstate_30 po_hlet
    dsimp only
    rw [po_uaa, if_neg he]
  have y2 : ∀ K : po_I, pV (K (M + 1)) → m_X8_reinstate K M a = if plt a (pv (K (M + 1)) 2) = true then (Option.bind (m_X8_at K M a 19) fun x9 => if (x9 : Int32) = 6 then (m_X8_reinstate_30 K M a M 0) else (m_X8_reinstate_30 K M a M 2)) else m_X8_reinstate_30 K M a M 1 := by
    intro K hK
    unfold m_X8_reinstate m_X8_reinstate_e
    rw [q_isPermit hK, Option.bind_some]
    cases plt a (pv (K (M + 1)) 2) <;> rfl
  unfold m_X7_reinstate m_X7_reinstate_e
  rw [x_permitOrThrow hV hT, Option.bind_some]
  by_cases ha : plt a (pv (I (M + 1)) 2) = true
  · rw [if_pos ha]
    rw [Sum.elim_inl]
    obtain ⟨k, hk, rfl⟩ := plt_of (by omega) ha
    have hP := hT.per hk
    have hp := hV.per hk
    rw [pl_clamp (by omega)]
    obtain ⟨P, hPe⟩ : ∃ P, P = o + 8 + (29 + 5 * k) := ⟨_, rfl⟩
    obtain ⟨b, hbe⟩ : ∃ b, b = 160 + 46 * k := ⟨_, rfl⟩
    rw [← hPe, ← hbe] at hP
    rw [← hbe] at hp
    rw [← hPe]
    have at' : ∀ (K : po_I) j, j < 46 → m_X8_at K M (Int32.ofNat k) (Int32.ofNat j) = some (K (M + 1) (b + j)) := fun K j hj => by rw [hbe, q_at (by omega)]
    have qs : ∀ (K : po_I) j v, j < 46 → m_X8_set K M (Int32.ofNat k) (Int32.ofNat j) v = some (po_u K (M + 1) (b + j) v) := fun K j v hj => by rw [hbe, q_set (by omega)]
    have qp : ∀ (K : po_I) v, m_X8_pay K M (Int32.ofNat k) v = some (po_u K (M + 1) (b + 25) (K (M + 1) (b + 25) + v)) := fun K v => by rw [hbe, q_pay (by omega)]
    have qg : ∀ (K : po_I) v, m_X8_giveBack K M (Int32.ofNat k) v = some (po_u K (M + 1) (b + 26) (K (M + 1) (b + 26) + v)) := fun K v => by rw [hbe, q_giveBack (by omega)]
    rw [hP.sta]
    by_cases hs : I (M + 1) (b + 19) = 6
    · obtain ⟨I', R', m1, m2, m3, m4⟩ := L_mut h
      have iP : I' P = I P := m2 P (by omega) (by omega)
      have i8 : I' (o + 8) = I (o + 8) := m2 _ (by omega) (by omega)
      rw [if_pos hs, m1, Option.bind_some]
      dsimp only
      refine po_hlz (Z := fun x => ∃ w I1 R1 v I2, x = some (w, I1, R1) ∧ m_X8_reinstate I1 M (Int32.ofNat k) = some (v, I2) ∧ pAg sIO sIS w (I2 M 0) v ∧ pInv I2 R1 o M st (n + 1)) fun J1 e1 => ?_
      refine po_hlz (Z := fun x => ∃ w I1 R1 v I2, x = some (w, I1, R1) ∧ m_X8_reinstate I1 M (Int32.ofNat k) = some (v, I2) ∧ pAg sIO sIS w (I2 M 0) v ∧ pInv I2 R1 o M st (n + 1)) fun J2 e2 => ?_
      refine po_hlz (Z := fun x => ∃ w I1 R1 v I2, x = some (w, I1, R1) ∧ m_X8_reinstate I1 M (Int32.ofNat k) = some (v, I2) ∧ pAg sIO sIS w (I2 M 0) v ∧ pInv I2 R1 o M st (n + 1)) fun J3 e3 => ?_
      refine po_hlz (Z := fun x => ∃ w I1 R1 v I2, x = some (w, I1, R1) ∧ m_X8_reinstate I1 M (Int32.ofNat k) = some (v, I2) ∧ pAg sIO sIS w (I2 M 0) v ∧ pInv I2 R1 o M st (n + 1)) fun J4 e4 => ?_
      have fJ : ∀ q, q ≠ P → J4 q = I' q := fun q hq => by rw [e4, po_u_ne hq, e3, po_u_ne hq, e2, po_u_ne hq, e1, po_u_ne hq]
      have rJ : J4 (M + 1) = I (M + 1) := by rw [fJ _ (by omega)]; exact m2 _ (by omega) (by omega)
      obtain ⟨I2, p1, p2, p3, p4, p5⟩ := m4 J4 (fun q q1 q2 q3 => fJ q (by omega))
      have hVJ : pV (J4 (M + 1)) := by rw [rJ]; exact hV
      have hst : pv (I (M + 1)) (b + 19) = 6 := pvv_of hs (by omega)
      suffices hh : ∃ v I2, m_X8_reinstate J4 M (Int32.ofNat k) = some (v, I2) ∧ pAg sIO sIS (.inl (J4 P 8)) (I2 M 0) v ∧ pInv I2 R' o M st (n + 1) by
        obtain ⟨v, I3, g1, g2, g3⟩ := hh
        exact ⟨_, J4, R', v, I3, rfl, g1, g2, g3⟩
      rw [y2 J4 hVJ, rJ, if_pos ha, pk_19, at' J4 19 (by omega), Option.bind_some, rJ, if_pos hs]
      unfold m_X8_reinstate_30 po_hlet
      dsimp only
      rw [po_uaa, if_pos rfl, p1, Option.bind_some, pk_19, qs _ 19 _ (by omega)]
      refine po_bz (Z := fun x => ∃ v I2, x = some (v, I2) ∧ pAg sIO sIS (.inl (J4 P 8)) (I2 M 0) v ∧ pInv I2 R' o M st (n + 1)) fun K1 k1 => ?_
      rw [pk_21, qs _ 21 _ (by omega)]
      refine po_bz (Z := fun x => ∃ v I2, x = some (v, I2) ∧ pAg sIO sIS (.inl (J4 P 8)) (I2 M 0) v ∧ pInv I2 R' o M st (n + 1)) fun K2 k2 => ?_
      rw [pk_22, qs _ 22 _ (by omega)]
      refine po_bz (Z := fun x => ∃ v I2, x = some (v, I2) ∧ pAg sIO sIS (.inl (J4 P 8)) (I2 M 0) v ∧ pInv I2 R' o M st (n + 1)) fun K3 k3 => ?_
      rw [qp]
      refine po_bz (Z := fun x => ∃ v I2, x = some (v, I2) ∧ pAg sIO sIS (.inl (J4 P 8)) (I2 M 0) v ∧ pInv I2 R' o M st (n + 1)) fun K4 k4 => ?_
      rw [pk_20, at' K4 20 (by omega), Option.bind_some]
      refine ⟨_, K4, rfl, ⟨?_, ?_⟩, p5 K4 (fun q q1 q2 => by rw [k4, po_u_ne q2, k3, po_u_ne q2, k2, po_u_ne q2, k1, po_u_ne q2]) ⟨?_, ?_, ?_, ?_⟩ ?_⟩
      · rw [k4, po_u_ne (by omega), k3, po_u_ne (by omega), k2, po_u_ne (by omega), k1, po_u_ne (by omega), p3]
      · simp [k4, k3, k2, k1, e4, e3, e2, e1, po_uu, p2, iP, hP.pha]
      · rw [k4, po_u_ne (by omega), k3, po_u_ne (by omega), k2, po_u_ne (by omega), k1, po_u_ne (by omega)]
      · rw [k4, po_u_ne (by omega), k3, po_u_ne (by omega), k2, po_u_ne (by omega), k1, po_u_ne (by omega)]
      · rw [k4, po_u_ne (by omega), k3, po_u_ne (by omega), k2, po_u_ne (by omega), k1, po_u_ne (by omega)]
      · rw [k4, po_u_ne (by omega), k3, po_u_ne (by omega), k2, po_u_ne (by omega), k1, po_u_ne (by omega)]
      · have hd22 : K4 (M + 1) (b + 22) = Int32.ofNat (pv (I (M + 1)) 0 + 30) := by
          have hb0 : ¬ 0 = b + 21 := by omega
          have hb1 : ¬ 0 = b + 19 := by omega
          rw [← pl_add, ← hday2]
          simp [k4, k3, k2, k1, po_uu, p2, hb0, hb1] <;> rfl
        have lo : ∀ q, q < o + 828 → K4 q = J4 q := fun q hq => by
              rw [k4, po_u_ne (by omega), k3, po_u_ne (by omega), k2, po_u_ne (by omega), k1, po_u_ne (by omega)]; exact p4 q hq
        have KP : K4 P = J4 P := lo P (by omega)
        have nn : ∀ j, j ≠ b + 19 ∧ j ≠ b + 21 ∧ j ≠ b + 22 ∧ j ≠ b + 25 → K4 (M + 1) j = I (M + 1) j := fun j hj => by
              simp [k4, k3, k2, k1, po_uu, p2, hj]
        have n19 : K4 (M + 1) (b + 19) = Int32.ofNat 2 := by
              simp [k4, k3, k2, k1, po_uu] <;> rfl
        have n21 : K4 (M + 1) (b + 21) = Int32.ofNat 0 := by
              simp [k4, k3, k2, k1, po_uu] <;> rfl
        refine pper' hPe hbe hV hB hT hk (fun j hj => nn j (by omega)) (fun q q1 q2 q3 => by rw [lo q (by omega), fJ q q3]; exact m2 q (by omega) (by omega)) (fun c hc => ?_) ?_ ?_ ?_ ?_ ?_ ?_ ?_ ?_ ?_ ?_ ?_ ?_ ?_ ?_ ?_ ?_ ?_
        · rw [KP]; rcases hc with e | e | e | e | e | e | e <;> subst e <;> simp [e4, e3, e2, e1, po_uu, iP]
        · rw [KP, n19]; simp [e4, e3, e2, e1, po_uu, iP] <;> rfl
        · intro e; rw [n19] at e; exact absurd e (by decide)
        · rw [KP, nn _ (by omega)]; simpa [e4, e3, e2, e1, po_uu, iP] using hP.pha
        · rw [KP, n21]; simp [e4, e3, e2, e1, po_uu, iP] <;> rfl
        · intro e; rw [KP, hd22, ← pl_add, ← hday2]; have hPo : ¬ o + 8 = P := (by omega); simp [e4, e3, e2, e1, po_uu, hPo, i8, hT.1] <;> rfl
        · rw [KP, nn _ (by omega)]; simpa [e4, e3, e2, e1, po_uu, iP] using hP.ext
        · rw [KP, nn _ (by omega)]; simpa [e4, e3, e2, e1, po_uu, iP] using hP.nam
        · rw [KP]; simp [e4, e3, e2, e1, k4, k3, k2, k1, po_uu, iP, p2, hP.pai]
        · rw [KP, nn _ (by omega)]; simpa [e4, e3, e2, e1, po_uu, iP] using hP.bac
        · exact pvc_of n19 (by omega) (by omega) (by omega)
        · exact pg_cc (nn _ (by omega)) hp.2.2.2.2.2.2.2.1
        · exact pvc_of n21 (by omega) (by omega) (by omega)
        · exact pg_cc (nn _ (by omega)) hp.2.2.2.2.2.2.2.2.2.1
        · exact pg_cc (nn _ (by omega)) hp.2.2.2.2.2.2.2.2.2.2.1
        · intro _; exact ⟨pvc_of hd22 (by omega) (by omega) (by omega), by rw [pvv_of hd22 (by omega)]; omega, by rw [pg_vv (nn (b + 20) (by omega))]; exact hp.sus hst, by rw [pvv_of n21 (by omega)]; omega⟩
        · intro e; rw [pvv_of n19 (by omega)] at e; omega
        · intro e; rw [pvv_of n19 (by omega)] at e; omega
    · rw [if_neg hs]
      refine ⟨_, I, R, 0, po_u I M 0 2, rfl, ?_, Or.inr ⟨rfl, by rw [po_uaa]⟩, (pScr_u.inv h).up⟩
      rw [y2 I hV, if_pos ha, pk_19, at' I 19 (by omega), Option.bind_some, if_neg hs, y1 I 2 (by decide)]
  · rw [if_neg ha]
    exact ⟨_, I, R, 0, po_u I M 0 1, rfl, by rw [y2 I hV, if_neg ha, y1 I 1 (by decide)], Or.inl ⟨rfl, by rw [po_uaa]⟩, (pScr_u.inv h).up⟩
theorem L_extend (h : pInv I R o M st n) (hn : n < 600) (a : Int32) : ∃ w I1 R1 v I2, m_X7_extend I R o a = some (w, I1, R1) ∧ m_X8_extend I1 M a = some (v, I2) ∧ pAg sIO sIS w (I2 M 0) v ∧ pInv I2 R1 o M st (n + 1) := by
  have hV := h.1.1
  have hB := h.1.2.1
  have hT := h.1.2.2
  have hM := h.2.2.2.2.2.1
  have h2' := hV.2.2.1.2.2
  have hday := hB.1
  have hday2 := hV.1.1
  have y1 : ∀ (K : po_I) e, e ≠ 0 → m_X8_extend_40 K M a M e = some (0, po_u K M 0 e) := by
    intro K e he
    unfold m_X8_extend_40 po_hlet
    dsimp only
    rw [po_uaa, if_neg he]
  have y2 : ∀ K : po_I, pV (K (M + 1)) → m_X8_extend K M a = if plt a (pv (K (M + 1)) 2) = true then (Option.bind (m_X8_at K M a 19) fun x9 => if (x9 : Int32) = 2 then (Option.bind (m_X8_at K M a 23) fun x10 => if (x10 : Int32) = 1 then (m_X8_extend_35 K M a M) else (m_X8_extend_40 K M a M 0)) else (m_X8_extend_35 K M a M)) else m_X8_extend_40 K M a M 1 := by
    intro K hK
    unfold m_X8_extend m_X8_extend_e
    rw [q_isPermit hK, Option.bind_some]
    cases plt a (pv (K (M + 1)) 2) <;> rfl
  unfold m_X7_extend m_X7_extend_e m_X7_extend_21
  rw [x_permitOrThrow hV hT, Option.bind_some]
  by_cases ha : plt a (pv (I (M + 1)) 2) = true
  · rw [if_pos ha]
    rw [Sum.elim_inl]
    obtain ⟨k, hk, rfl⟩ := plt_of (by omega) ha
    have hP := hT.per hk
    have hp := hV.per hk
    rw [pl_clamp (by omega)]
    obtain ⟨P, hPe⟩ : ∃ P, P = o + 8 + (29 + 5 * k) := ⟨_, rfl⟩
    obtain ⟨b, hbe⟩ : ∃ b, b = 160 + 46 * k := ⟨_, rfl⟩
    rw [← hPe, ← hbe] at hP
    rw [← hbe] at hp
    rw [← hPe]
    have at' : ∀ (K : po_I) j, j < 46 → m_X8_at K M (Int32.ofNat k) (Int32.ofNat j) = some (K (M + 1) (b + j)) := fun K j hj => by rw [hbe, q_at (by omega)]
    have qs : ∀ (K : po_I) j v, j < 46 → m_X8_set K M (Int32.ofNat k) (Int32.ofNat j) v = some (po_u K (M + 1) (b + j) v) := fun K j v hj => by rw [hbe, q_set (by omega)]
    have qp : ∀ (K : po_I) v, m_X8_pay K M (Int32.ofNat k) v = some (po_u K (M + 1) (b + 25) (K (M + 1) (b + 25) + v)) := fun K v => by rw [hbe, q_pay (by omega)]
    have qg : ∀ (K : po_I) v, m_X8_giveBack K M (Int32.ofNat k) v = some (po_u K (M + 1) (b + 26) (K (M + 1) (b + 26) + v)) := fun K v => by rw [hbe, q_giveBack (by omega)]
    rw [hP.sta]
    have hex := hp.2.2.2.2.2.2.2.2.2.1
    have hex2 := hex.2.2
    have h35 : ∀ K : po_I, m_X8_extend_35 K M (Int32.ofNat k) M = some (0, po_u K M 0 2) := fun K => y1 K 2 (by decide)
    by_cases hs : I (M + 1) (b + 19) = 2
    · have hlim := (hp.iss (pvv_of hs (by omega))).1
      have hlim2 : pv (I (M + 1)) (b + 22) ≤ 100 * n + 200 := by
        have := hB.2.1 k hk
        rw [← hbe] at this
        exact this (pvv_of hs (by omega))
      have hiss := hp.iss (pvv_of hs (by omega))
      rw [if_pos hs, hP.ext]
      by_cases hx : pv (I (M + 1)) (b + 23) = 1
      · have hx1 : I (M + 1) (b + 23) = 1 := by rw [hex.1, hx]; rfl
        rw [if_neg (by rw [hx1]; decide)]
        refine ⟨_, I, R, 0, po_u I M 0 2, rfl, ?_, Or.inr ⟨rfl, by rw [po_uaa]⟩, (pScr_u.inv h).up⟩
        rw [y2 I hV, if_pos ha, pk_19, at' I 19 (by omega), Option.bind_some, if_pos hs, pk_23, at' I 23 (by omega), Option.bind_some, if_pos hx1, h35]
      · have hx0 : I (M + 1) (b + 23) = 0 := by rw [hex.1, show pv (I (M + 1)) (b + 23) = 0 by omega]; rfl
        obtain ⟨I', R', m1, m2, m3, m4⟩ := L_mut h
        have iP : I' P = I P := m2 P (by omega) (by omega)
        rw [if_pos hx0, m1, Option.bind_some]
        dsimp only
        refine po_hlz (Z := fun x => ∃ w I1 R1 v I2, x = some (w, I1, R1) ∧ m_X8_extend I1 M (Int32.ofNat k) = some (v, I2) ∧ pAg sIO sIS w (I2 M 0) v ∧ pInv I2 R1 o M st (n + 1)) fun J1 e1 => ?_
        refine po_hlz (Z := fun x => ∃ w I1 R1 v I2, x = some (w, I1, R1) ∧ m_X8_extend I1 M (Int32.ofNat k) = some (v, I2) ∧ pAg sIO sIS w (I2 M 0) v ∧ pInv I2 R1 o M st (n + 1)) fun J2 e2 => ?_
        refine po_hlz (Z := fun x => ∃ w I1 R1 v I2, x = some (w, I1, R1) ∧ m_X8_extend I1 M (Int32.ofNat k) = some (v, I2) ∧ pAg sIO sIS w (I2 M 0) v ∧ pInv I2 R1 o M st (n + 1)) fun J3 e3 => ?_
        have fJ : ∀ q, q ≠ P → J3 q = I' q := fun q hq => by rw [e3, po_u_ne hq, e2, po_u_ne hq, e1, po_u_ne hq]
        have rJ : J3 (M + 1) = I (M + 1) := by rw [fJ _ (by omega)]; exact m2 _ (by omega) (by omega)
        obtain ⟨I2, p1, p2, p3, p4, p5⟩ := m4 J3 (fun q q1 q2 q3 => fJ q (by omega))
        have hVJ : pV (J3 (M + 1)) := by rw [rJ]; exact hV
        suffices hh : ∃ v I2, m_X8_extend J3 M (Int32.ofNat k) = some (v, I2) ∧ pAg sIO sIS (.inl (J3 P 10)) (I2 M 0) v ∧ pInv I2 R' o M st (n + 1) by
          obtain ⟨v, I3, g1, g2, g3⟩ := hh
          exact ⟨_, J3, R', v, I3, rfl, g1, g2, g3⟩
        rw [y2 J3 hVJ, rJ, if_pos ha, pk_19, at' J3 19 (by omega), Option.bind_some, rJ, if_pos hs, pk_23, at' J3 23 (by omega), Option.bind_some, rJ, if_neg (by rw [hx0]; decide)]
        unfold m_X8_extend_40 po_hlet
        dsimp only
        rw [po_uaa, if_pos rfl, p1, Option.bind_some, pk_23, qs _ 23 _ (by omega)]
        refine po_bz (Z := fun x => ∃ v I2, x = some (v, I2) ∧ pAg sIO sIS (.inl (J3 P 10)) (I2 M 0) v ∧ pInv I2 R' o M st (n + 1)) fun K1 k1 => ?_
        rw [pk_22, at' K1 22 (by omega), Option.bind_some, qs _ 22 _ (by omega)]
        refine po_bz (Z := fun x => ∃ v I2, x = some (v, I2) ∧ pAg sIO sIS (.inl (J3 P 10)) (I2 M 0) v ∧ pInv I2 R' o M st (n + 1)) fun K2 k2 => ?_
        rw [qp]
        refine po_bz (Z := fun x => ∃ v I2, x = some (v, I2) ∧ pAg sIO sIS (.inl (J3 P 10)) (I2 M 0) v ∧ pInv I2 R' o M st (n + 1)) fun K3 k3 => ?_
        rw [at' K3 22 (by omega), Option.bind_some]
        have hd22 : K3 (M + 1) (b + 22) = Int32.ofNat (pv (I (M + 1)) (b + 22) + 15) := by
          rw [← pl_add, ← hlim.1]
          simp [k3, k2, k1, po_uu, p2] <;> rfl
        have hJ10 : J3 P 10 = K3 (M + 1) (b + 22) := by
          rw [hd22, ← pl_add, ← hlim.1, ← hP.lim hs]
          simp [e3, e2, e1, po_uu, iP] <;> rfl
        refine ⟨_, K3, rfl, ⟨?_, hJ10.symm⟩, p5 K3 (fun q q1 q2 => by rw [k3, po_u_ne q2, k2, po_u_ne q2, k1, po_u_ne q2]) ⟨?_, ?_, ?_, ?_⟩ ?_⟩
        · rw [k3, po_u_ne (by omega), k2, po_u_ne (by omega), k1, po_u_ne (by omega), p3]
        · rw [k3, po_u_ne (by omega), k2, po_u_ne (by omega), k1, po_u_ne (by omega)]
        · rw [k3, po_u_ne (by omega), k2, po_u_ne (by omega), k1, po_u_ne (by omega)]
        · rw [k3, po_u_ne (by omega), k2, po_u_ne (by omega), k1, po_u_ne (by omega)]
        · rw [k3, po_u_ne (by omega), k2, po_u_ne (by omega), k1, po_u_ne (by omega)]
        · have n23 : K3 (M + 1) (b + 23) = Int32.ofNat 1 := by
            simp [k3, k2, k1, po_uu] <;> rfl
          have lo : ∀ q, q < o + 828 → K3 q = J3 q := fun q hq => by
                rw [k3, po_u_ne (by omega), k2, po_u_ne (by omega), k1, po_u_ne (by omega)]; exact p4 q hq
          have KP : K3 P = J3 P := lo P (by omega)
          have nn : ∀ j, j ≠ b + 22 ∧ j ≠ b + 23 ∧ j ≠ b + 25 → K3 (M + 1) j = I (M + 1) j := fun j hj => by
                simp [k3, k2, k1, po_uu, p2, hj]
          refine pper' hPe hbe hV hB hT hk (fun j hj => nn j (by omega)) (fun q q1 q2 q3 => by rw [lo q (by omega), fJ q q3]; exact m2 q (by omega) (by omega)) (fun c hc => ?_) ?_ ?_ ?_ ?_ ?_ ?_ ?_ ?_ ?_ ?_ ?_ ?_ ?_ ?_ ?_ ?_ ?_
          · rw [KP]; rcases hc with e | e | e | e | e | e | e <;> subst e <;> simp [e3, e2, e1, po_uu, iP]
          · rw [KP, nn _ (by omega)]; simpa [e3, e2, e1, po_uu, iP] using hP.sta
          · rw [nn (b + 19) (by omega)]; intro e; rw [hs] at e; exact absurd e (by decide)
          · rw [KP, nn _ (by omega)]; simpa [e3, e2, e1, po_uu, iP] using hP.pha
          · rw [KP, nn _ (by omega)]; simpa [e3, e2, e1, po_uu, iP] using hP.fai
          · intro _; rw [KP]; exact hJ10
          · rw [KP, n23]; simp [e3, e2, e1, po_uu] <;> rfl
          · rw [KP, nn _ (by omega)]; simpa [e3, e2, e1, po_uu, iP] using hP.nam
          · rw [KP]; simp [e3, e2, e1, k3, k2, k1, po_uu, iP, p2, hP.pai]
          · rw [KP, nn _ (by omega)]; simpa [e3, e2, e1, po_uu, iP] using hP.bac
          · exact pg_cc (nn _ (by omega)) hp.sta
          · exact pg_cc (nn _ (by omega)) hp.2.2.2.2.2.2.2.1
          · exact pg_cc (nn _ (by omega)) hp.2.2.2.2.2.2.2.2.1
          · exact pvc_of n23 (by omega) (by omega) (by omega)
          · exact pg_cc (nn _ (by omega)) hp.2.2.2.2.2.2.2.2.2.2.1
          · intro _; exact ⟨pvc_of hd22 (by omega) (by omega) (by omega), by rw [pvv_of hd22 (by omega)]; omega, by rw [pg_vv (nn (b + 20) (by omega))]; exact hiss.2.1, by rw [pg_vv (nn (b + 21) (by omega))]; exact hiss.2.2⟩
          · rw [pg_vv (nn (b + 19) (by omega)), pg_vv (nn (b + 20) (by omega))]; exact hp.sus
          · rw [pg_vv (nn (b + 19) (by omega)), pvv_of (show I (M + 1) (b + 19) = Int32.ofNat 2 from hs) (by omega)]; intro e; omega
    · rw [if_neg hs]
      refine ⟨_, I, R, 0, po_u I M 0 2, rfl, ?_, Or.inr ⟨rfl, by rw [po_uaa]⟩, (pScr_u.inv h).up⟩
      rw [y2 I hV, if_pos ha, pk_19, at' I 19 (by omega), Option.bind_some, if_neg hs, h35]
  · rw [if_neg ha]
    exact ⟨_, I, R, 0, po_u I M 0 1, rfl, by rw [y2 I hV, if_neg ha, y1 I 1 (by decide)], Or.inl ⟨rfl, by rw [po_uaa]⟩, (pScr_u.inv h).up⟩
end QC2
