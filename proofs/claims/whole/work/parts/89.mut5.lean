section QC4
variable {I I3 : po_I} {R : po_R} {o M n t k b P p : Nat} {N N' : po_N} {st : Nat → Nat}
theorem x_usedV (hV : pV N) (hT : pTR I t N) {s : Nat} (hs : s + 4 < t) (hp : p < pv N 2) : ∃ I', m_X4_usedVariances I s t (t + (29 + 5 * p)) = some (pfold (ps_ub N p) 9 0, I') ∧ psv I I' s := by
  obtain ⟨I1, a1, a2⟩ := x_usedVariances hV hT hs hp
  exact ⟨I1, a1, a2⟩
theorem L_decide (h : pInv I R o M st n) (hn : n < 600) (a : Int32) : ∃ w I1 R1 v I2, m_X7_decide I R o a = some (w, I1, R1) ∧ m_X8_decide I1 M a = some (v, I2) ∧ pAg sIO sIS w (I2 M 0) v ∧ pInv I2 R1 o M st (n + 1) := by
  have hV := h.1.1
  have hB := h.1.2.1
  have hT := h.1.2.2
  have hM := h.2.2.2.2.2.1
  have h2' := hV.2.2.1.2.2
  have hday := hB.1
  have hday2 := hV.1.1
  have y1 : ∀ (K : po_I) e, e ≠ 0 → m_X8_decide_28 K M a M e = some (0, po_u K M 0 e) := by
    intro K e he
    unfold m_X8_decide_28 po_hlet
    dsimp only
    rw [po_uaa, if_neg he]
  have y2 : ∀ K : po_I, pV (K (M + 1)) → m_X8_decide K M a = if plt a (pv (K (M + 1)) 2) = true then (Option.bind (m_X8_at K M a 19) fun x16 => if (x16 : Int32) = 0 then (m_X8_decide_28 K M a M 0) else (m_X8_decide_28 K M a M 2)) else m_X8_decide_28 K M a M 1 := by
    intro K hK
    unfold m_X8_decide m_X8_decide_e
    rw [q_isPermit hK, Option.bind_some]
    cases plt a (pv (K (M + 1)) 2) <;> rfl
  unfold m_X7_decide m_X7_decide_e m_X7_decide_78
  rw [x_permitOrThrow hV hT, Option.bind_some]
  by_cases ha : plt a (pv (I (M + 1)) 2) = true
  · rw [if_pos ha]
    rw [Sum.elim_inl]
    obtain ⟨k, hk, rfl⟩ := plt_of (by omega) ha
    have hP := hT.per hk
    have hp := hV.per hk
    rw [pl_clamp (by omega)]
    obtain ⟨P, hPe⟩ : ∃ P, P = o + 8 + (29 + 5 * k) := ⟨_, rfl⟩
    obtain ⟨b, hbe⟩ : ∃ b, b = 160 + 46 * k := ⟨_, rfl⟩
    rw [← hPe, ← hbe] at hP
    rw [← hbe] at hp
    rw [← hPe]
    have at' : ∀ (K : po_I) j, j < 46 → m_X8_at K M (Int32.ofNat k) (Int32.ofNat j) = some (K (M + 1) (b + j)) := fun K j hj => by rw [hbe, q_at (by omega)]
    have qs : ∀ (K : po_I) j v, j < 46 → m_X8_set K M (Int32.ofNat k) (Int32.ofNat j) v = some (po_u K (M + 1) (b + j) v) := fun K j v hj => by rw [hbe, q_set (by omega)]
    have qp : ∀ (K : po_I) v, m_X8_pay K M (Int32.ofNat k) v = some (po_u K (M + 1) (b + 25) (K (M + 1) (b + 25) + v)) := fun K v => by rw [hbe, q_pay (by omega)]
    have qg : ∀ (K : po_I) v, m_X8_giveBack K M (Int32.ofNat k) v = some (po_u K (M + 1) (b + 26) (K (M + 1) (b + 26) + v)) := fun K v => by rw [hbe, q_giveBack (by omega)]
    rw [hP.sta]
    have hp17 := hp.2.2.2.2.1
    by_cases hs : I (M + 1) (b + 19) = 0
    · have hz := hB.2.2.2 k hk
      rw [← hbe] at hz
      obtain ⟨hz20, hz21⟩ := hz (pvv_of hs (by omega))
      have hz20 : pv (I (M + 1)) (b + 20) ≤ 3 := by omega
      have hz21 : pv (I (M + 1)) (b + 21) ≤ 2 := by omega
      obtain ⟨I', R', m1, m2, m3, m4⟩ := L_mut h
      have hT1 : pTR I' (o + 8) (I (M + 1)) := hT.mv hV (fun q q1 q2 => m2 q (by omega) (by omega))
      obtain ⟨I4, u1, u2⟩ := x_unrel (s := o + 3) hV hT1 (by omega) hk
      have hT4 : pTR I4 (o + 8) (I (M + 1)) := psv.town u2 hV hT1 (by omega)
      rw [← hPe] at u1
      rw [if_pos hs, m1, Option.bind_some]
      dsimp only
      rw [u1, Option.bind_some]
      dsimp only [po_let]
      have hM0 : ∀ J : po_I, (∀ q, (q ≠ P ∧ q ≠ o + 5 ∧ q ≠ o + 7) → J q = I' q) → ∃ F, (F (M + 1) = I (M + 1) ∧ F M 0 = 0 ∧ (∀ q, q < o + 828 → F q = J q) ∧ F M 9 = pfold (ps_ub (I (M + 1)) k) 9 0 ∧ F M 10 = pfold (ps_mb (I (M + 1)) k) 9 0 ∧ ∀ I3, (∀ q, q ≠ M → q ≠ M + 1 → I3 q = F q) → (I3 M 3 = F M 3 ∧ I3 M 6 = F M 6 ∧ I3 M 12 = F M 12 ∧ I3 M 15 = F M 15) → pV (I3 (M + 1)) ∧ pB (I3 (M + 1)) (n + 1) ∧ pTR I3 (o + 8) (I3 (M + 1)) → pInv I3 R' o M st (n + 1)) ∧ m_X8_decide J M (Int32.ofNat k) = (if ps_op (I (M + 1)) k = 0 then (Option.bind (m_X8_set F M (Int32.ofNat k) 19 2) fun x11 => Option.bind (m_X8_set x11 M (Int32.ofNat k) 24 (x11 M 9)) fun x12 => Option.bind (m_X8_set x12 M (Int32.ofNat k) 22 ((x12 (M + 1) 0) + 30)) fun x13 => Option.bind (m_X8_pay x13 M (Int32.ofNat k) (10 * (x13 M 10))) fun x14 => m_X8_decide_149 x14 M (Int32.ofNat k)) else (Option.bind (m_X8_set F M (Int32.ofNat k) 19 1) fun x6 => Option.bind (m_X8_lowest (ps_op (I (M + 1)) k)) fun x7 => Option.bind (m_X8_set x6 M (Int32.ofNat k) 27 x7) fun x8 => Option.bind (m_X8_floorArea x8 M (Int32.ofNat k)) fun x9 => Option.bind (m_X8_giveBack x8 M (Int32.ofNat k) ((20 + x9) / 2)) fun x10 => m_X8_decide_149 x10 M (Int32.ofNat k))) := by
        intro J fJ
        have rJ : J (M + 1) = I (M + 1) := by rw [fJ _ (by omega)]; exact m2 _ (by omega) (by omega)
        obtain ⟨I2, p1, p2, p3, p4, p5⟩ := m4 J (fun q q1 q2 q3 => fJ q (by omega))
        have hVJ : pV (J (M + 1)) := by rw [rJ]; exact hV
        obtain ⟨F, g1, g2, g3, g4, g5, g6⟩ := q_find4 (I := I2) (M := M) (p := k) (by rw [p2]; exact hV) (by rw [p2]; exact hk)
        rw [p2] at g3 g4 g5 g6
        refine ⟨F, ⟨by rw [g2.row, p2], by rw [g2.2 0 (by simp), p3], fun q hq => by rw [g2.1 q (by omega)]; exact p4 q hq, g5, g6, fun I3 h1 h2 h3 => p5 I3 (fun q q1 q2 => by rw [h1 q q1 q2, g2.1 q q1]) ⟨by rw [h2.1, g2.2 3 (by simp)], by rw [h2.2.1, g2.2 6 (by simp)], by rw [h2.2.2.1, g2.2 12 (by simp)], by rw [h2.2.2.2, g2.2 15 (by simp)]⟩ h3⟩, ?_⟩
        rw [y2 J hVJ, rJ, if_pos ha, pk_19, at' J 19 (by omega), Option.bind_some, rJ, if_pos hs]
        unfold m_X8_decide_28 po_hlet
        dsimp only
        rw [po_uaa, if_pos rfl, p1, Option.bind_some, g1, Option.bind_some, g3, g4, ps_op_eq]
        rfl
      by_cases hop : ps_op (I (M + 1)) k = 0
      · obtain ⟨I5, v1, v2⟩ := x_usedV (s := o + 3) hV hT4 (by omega) hk
        rw [← hPe] at v1
        rw [if_pos hop, v1, Option.bind_some]
        dsimp only
        have iP : I5 P = I P := by rw [v2 P (by omega) (by omega), u2 P (by omega) (by omega)]; exact m2 P (by omega) (by omega)
        have i48 : I4 (o + 8) 0 = Int32.ofNat (pv (I (M + 1)) 0) := by rw [hT4.1]; exact hday2
        unfold m_X2_becomeIssued m_X2_becomeIssued_e po_hlet
        dsimp only
        rw [q_used9 hV k, Option.bind_some]
        obtain ⟨B1, e1⟩ : ∃ B1, B1 = po_u I5 P 6 2 := ⟨_, rfl⟩
        rw [← e1]
        obtain ⟨B2, e2⟩ : ∃ B2, B2 = po_u B1 P 10 (I4 (o + 8) 0 + 30) := ⟨_, rfl⟩
        rw [← e2]
        obtain ⟨B3, e3⟩ : ∃ B3, B3 = po_u B2 P 12 (pfold (ps_ub (I (M + 1)) k) 9 0) := ⟨_, rfl⟩
        rw [← e3]
        obtain ⟨J, e4⟩ : ∃ J, J = po_u B3 P 13 (B3 P 13 + 10 * pfold (ps_mb (I (M + 1)) k) 9 0) := ⟨_, rfl⟩
        rw [← e4, Option.bind_some]
        have fJ : ∀ q, (q ≠ P ∧ q ≠ o + 5 ∧ q ≠ o + 7) → J q = I' q := fun q hq => by rw [e4, po_u_ne hq.1, e3, po_u_ne hq.1, e2, po_u_ne hq.1, e1, po_u_ne hq.1, v2 q (by omega) (by omega), u2 q (by omega) (by omega)]
        obtain ⟨F, ⟨p2, p3, p4, p9, p10, p5⟩, pe⟩ := hM0 J fJ
        suffices hh : ∃ v I2, m_X8_decide J M (Int32.ofNat k) = some (v, I2) ∧ pAg sIO sIS (.inl (J P 6)) (I2 M 0) v ∧ pInv I2 R' o M st (n + 1) by
          obtain ⟨v, I3, g1, g2, g3⟩ := hh
          exact ⟨_, J, R', v, I3, rfl, g1, g2, g3⟩
        rw [pe, if_pos hop, pk_19, qs _ 19 _ (by omega)]
        refine po_bz (Z := fun x => ∃ v I2, x = some (v, I2) ∧ pAg sIO sIS (.inl (J P 6)) (I2 M 0) v ∧ pInv I2 R' o M st (n + 1)) fun K1 k1 => ?_
        rw [pk_24, qs _ 24 _ (by omega)]
        refine po_bz (Z := fun x => ∃ v I2, x = some (v, I2) ∧ pAg sIO sIS (.inl (J P 6)) (I2 M 0) v ∧ pInv I2 R' o M st (n + 1)) fun K2 k2 => ?_
        rw [pk_22, qs _ 22 _ (by omega)]
        refine po_bz (Z := fun x => ∃ v I2, x = some (v, I2) ∧ pAg sIO sIS (.inl (J P 6)) (I2 M 0) v ∧ pInv I2 R' o M st (n + 1)) fun K3 k3 => ?_
        rw [qp]
        refine po_bz (Z := fun x => ∃ v I2, x = some (v, I2) ∧ pAg sIO sIS (.inl (J P 6)) (I2 M 0) v ∧ pInv I2 R' o M st (n + 1)) fun K4 k4 => ?_
        have z9 : K1 M 9 = pfold (ps_ub (I (M + 1)) k) 9 0 := by rw [k1, po_u_ne (by omega)]; exact p9
        have z10 : K3 M 10 = pfold (ps_mb (I (M + 1)) k) 9 0 := by rw [k3, po_u_ne (by omega), k2, po_u_ne (by omega), k1, po_u_ne (by omega)]; exact p10
        rw [z9] at k2
        rw [z10] at k4
        have n19 : K4 (M + 1) (b + 19) = Int32.ofNat 2 := by
          simp [k4, k3, k2, k1, po_uu] <;> rfl
        unfold m_X8_decide_149
        rw [pk_19, at' K4 19 (by omega), Option.bind_some]
        refine ⟨_, K4, rfl, ⟨?_, ?_⟩, p5 K4 (fun q q1 q2 => by rw [k4, po_u_ne q2, k3, po_u_ne q2, k2, po_u_ne q2, k1, po_u_ne q2]) ⟨?_, ?_, ?_, ?_⟩ ?_⟩
        · rw [k4, po_u_ne (by omega), k3, po_u_ne (by omega), k2, po_u_ne (by omega), k1, po_u_ne (by omega), p3]
        · rw [n19]
          simp [e4, e3, e2, e1, po_uu] <;> rfl
        · rw [k4, po_u_ne (by omega), k3, po_u_ne (by omega), k2, po_u_ne (by omega), k1, po_u_ne (by omega)]
        · rw [k4, po_u_ne (by omega), k3, po_u_ne (by omega), k2, po_u_ne (by omega), k1, po_u_ne (by omega)]
        · rw [k4, po_u_ne (by omega), k3, po_u_ne (by omega), k2, po_u_ne (by omega), k1, po_u_ne (by omega)]
        · rw [k4, po_u_ne (by omega), k3, po_u_ne (by omega), k2, po_u_ne (by omega), k1, po_u_ne (by omega)]
        · obtain ⟨nm, nm1, nm2⟩ := ps_ub_small hV k
          have hd22 : K4 (M + 1) (b + 22) = Int32.ofNat (pv (I (M + 1)) 0 + 30) := by
            have hb0 : ¬ 0 = b + 24 := by omega
            have hb1 : ¬ 0 = b + 19 := by omega
            rw [← pl_add, ← hday2]
            simp [k4, k3, k2, k1, po_uu, p2, hb0, hb1] <;> rfl
          have n24 : K4 (M + 1) (b + 24) = Int32.ofNat nm := by
            rw [← nm2]
            simp [k4, k3, k2, po_uu]
          have lo : ∀ q, q < o + 828 → K4 q = J q := fun q hq => by
                rw [k4, po_u_ne (by omega), k3, po_u_ne (by omega), k2, po_u_ne (by omega), k1, po_u_ne (by omega)]; exact p4 q hq
          have KP : K4 P = J P := lo P (by omega)
          have nn : ∀ j, j ≠ b + 19 ∧ j ≠ b + 22 ∧ j ≠ b + 24 ∧ j ≠ b + 25 → K4 (M + 1) j = I (M + 1) j := fun j hj => by
                simp [k4, k3, k2, k1, po_uu, p2, hj]
          refine pper' hPe hbe hV hB hT hk (fun j hj => nn j (by omega)) (fun q q1 q2 q3 => by rw [lo q (by omega), fJ q (by omega)]; exact m2 q (by omega) (by omega)) (fun c hc => ?_) ?_ ?_ ?_ ?_ ?_ ?_ ?_ ?_ ?_ ?_ ?_ ?_ ?_ ?_ ?_ ?_ ?_
          · rw [KP]; rcases hc with e | e | e | e | e | e | e <;> subst e <;> simp [e4, e3, e2, e1, po_uu, iP]
          · rw [KP, n19]; simp [e4, e3, e2, e1, po_uu, iP] <;> rfl
          · intro e; rw [n19] at e; exact absurd e (by decide)
          · rw [KP, nn _ (by omega)]; simpa [e4, e3, e2, e1, po_uu, iP] using hP.pha
          · rw [KP, nn _ (by omega)]; simpa [e4, e3, e2, e1, po_uu, iP] using hP.fai
          · intro _; rw [KP, hd22, ← pl_add, ← i48]; simp [e4, e3, e2, e1, po_uu, iP] <;> rfl
          · rw [KP, nn _ (by omega)]; simpa [e4, e3, e2, e1, po_uu, iP] using hP.ext
          · rw [KP, n24, ← nm2]; simp [e4, e3, e2, e1, po_uu, iP]
          · rw [KP]; simp [e4, e3, e2, e1, k4, k3, k2, k1, po_uu, iP, p2, hP.pai]
          · rw [KP, nn _ (by omega)]; simpa [e4, e3, e2, e1, po_uu, iP] using hP.bac
          · exact pvc_of n19 (by omega) (by omega) (by omega)
          · exact pg_cc (nn _ (by omega)) hp.2.2.2.2.2.2.2.1
          · exact pg_cc (nn _ (by omega)) hp.2.2.2.2.2.2.2.2.1
          · exact pg_cc (nn _ (by omega)) hp.2.2.2.2.2.2.2.2.2.1
          · exact pvc_of n24 (by omega) (by omega) (by omega)
          · intro _; exact ⟨pvc_of hd22 (by omega) (by omega) (by omega), by rw [pvv_of hd22 (by omega)]; omega, by rw [pg_vv (nn (b + 20) (by omega))]; exact hz20, by rw [pg_vv (nn (b + 21) (by omega))]; exact hz21⟩
          · intro e; rw [pvv_of n19 (by omega)] at e; omega
          · intro e; rw [pvv_of n19 (by omega)] at e; omega
      · rw [if_neg hop]
        obtain ⟨w1, w2⟩ := ps_op_small (I (M + 1)) k
        have w3 : 0 < un (ps_op (I (M + 1)) k) := by
          refine Nat.pos_of_ne_zero fun e => hop ?_
          rw [w2, e]; rfl
        have w4 := q_lowest9 w1 w3
        have w5 := q_lowest9s w1 w3
        rw [← w2] at w4 w5
        obtain ⟨lw, hlw⟩ := Option.isSome_iff_exists.mp w5
        rw [hlw] at w4
        rw [← w4, Option.bind_some]
        have iP : I4 P = I P := by rw [u2 P (by omega) (by omega)]; exact m2 P (by omega) (by omega)
        unfold m_X2_becomeRefused m_X2_becomeRefused_e m_X2_applyFee m_X2_applyFee_e m_X2_floorArea m_X2_floorArea_e po_hlet
        dsimp only
        rw [Option.bind_some, Option.bind_some]
        obtain ⟨B1, e1⟩ : ∃ B1, B1 = po_u I4 P 6 1 := ⟨_, rfl⟩
        rw [← e1]
        obtain ⟨B2, e2⟩ : ∃ B2, B2 = po_u B1 P 7 lw := ⟨_, rfl⟩
        rw [← e2]
        have hfa : B2 P 5 * B2 P 2 = ps_fa (I (M + 1)) k := by
          unfold ps_fa ps_bc
          rw [← hbe, ← hP.cel, ← hP.flo]
          simp [e2, e1, po_uu, iP]
        rw [hfa]
        obtain ⟨J, e3⟩ : ∃ J, J = po_u B2 P 14 (B2 P 14 + (20 + ps_fa (I (M + 1)) k) / 2) := ⟨_, rfl⟩
        rw [← e3, Option.bind_some]
        have fJ : ∀ q, (q ≠ P ∧ q ≠ o + 5 ∧ q ≠ o + 7) → J q = I' q := fun q hq => by rw [e3, po_u_ne hq.1, e2, po_u_ne hq.1, e1, po_u_ne hq.1, u2 q (by omega) (by omega)]
        obtain ⟨F, ⟨p2, p3, p4, p9, p10, p5⟩, pe⟩ := hM0 J fJ
        suffices hh : ∃ v I2, m_X8_decide J M (Int32.ofNat k) = some (v, I2) ∧ pAg sIO sIS (.inl (J P 6)) (I2 M 0) v ∧ pInv I2 R' o M st (n + 1) by
          obtain ⟨v, I3, g1, g2, g3⟩ := hh
          exact ⟨_, J, R', v, I3, rfl, g1, g2, g3⟩
        rw [pe, if_neg hop, pk_19, qs _ 19 _ (by omega)]
        refine po_bz (Z := fun x => ∃ v I2, x = some (v, I2) ∧ pAg sIO sIS (.inl (J P 6)) (I2 M 0) v ∧ pInv I2 R' o M st (n + 1)) fun K1 k1 => ?_
        rw [hlw, Option.bind_some, pk_27, qs _ 27 _ (by omega)]
        refine po_bz (Z := fun x => ∃ v I2, x = some (v, I2) ∧ pAg sIO sIS (.inl (J P 6)) (I2 M 0) v ∧ pInv I2 R' o M st (n + 1)) fun K2 k2 => ?_
        have rK2 : ∀ i, i < 19 → K2 (M + 1) (b + i) = I (M + 1) (b + i) := fun i hi => by
          have h1 : ¬ i = 27 := by omega
          have h2 : ¬ i = 19 := by omega
          simp [k2, k1, po_uu, p2, h1, h2]
        have hfl : m_X8_floorArea K2 M (Int32.ofNat k) = some (ps_fa (I (M + 1)) k) := by
          rw [q_floorArea (by omega) (by rw [← hbe]; exact pg_cc (rK2 2 (by omega)) hp.2.2.2.1.1)]
          unfold ps_fa ps_bc
          rw [← hbe, pg_ain (fun i hi => rK2 i (by omega)), rK2 17 (by omega)]
        rw [hfl, Option.bind_some, qg]
        refine po_bz (Z := fun x => ∃ v I2, x = some (v, I2) ∧ pAg sIO sIS (.inl (J P 6)) (I2 M 0) v ∧ pInv I2 R' o M st (n + 1)) fun K3 k3 => ?_
        have n19 : K3 (M + 1) (b + 19) = Int32.ofNat 1 := by
          simp [k3, k2, k1, po_uu] <;> rfl
        unfold m_X8_decide_149
        rw [pk_19, at' K3 19 (by omega), Option.bind_some]
        refine ⟨_, K3, rfl, ⟨?_, ?_⟩, p5 K3 (fun q q1 q2 => by rw [k3, po_u_ne q2, k2, po_u_ne q2, k1, po_u_ne q2]) ⟨?_, ?_, ?_, ?_⟩ ?_⟩
        · rw [k3, po_u_ne (by omega), k2, po_u_ne (by omega), k1, po_u_ne (by omega), p3]
        · rw [n19]
          simp [e3, e2, e1, po_uu] <;> rfl
        · rw [k3, po_u_ne (by omega), k2, po_u_ne (by omega), k1, po_u_ne (by omega)]
        · rw [k3, po_u_ne (by omega), k2, po_u_ne (by omega), k1, po_u_ne (by omega)]
        · rw [k3, po_u_ne (by omega), k2, po_u_ne (by omega), k1, po_u_ne (by omega)]
        · rw [k3, po_u_ne (by omega), k2, po_u_ne (by omega), k1, po_u_ne (by omega)]
        · have lo : ∀ q, q < o + 828 → K3 q = J q := fun q hq => by
                rw [k3, po_u_ne (by omega), k2, po_u_ne (by omega), k1, po_u_ne (by omega)]; exact p4 q hq
          have KP : K3 P = J P := lo P (by omega)
          have nn : ∀ j, j ≠ b + 19 ∧ j ≠ b + 26 ∧ j ≠ b + 27 → K3 (M + 1) j = I (M + 1) j := fun j hj => by
                simp [k3, k2, k1, po_uu, p2, hj]
          refine pper' hPe hbe hV hB hT hk (fun j hj => nn j (by omega)) (fun q q1 q2 q3 => by rw [lo q (by omega), fJ q (by omega)]; exact m2 q (by omega) (by omega)) (fun c hc => ?_) ?_ ?_ ?_ ?_ ?_ ?_ ?_ ?_ ?_ ?_ ?_ ?_ ?_ ?_ ?_ ?_ ?_
          · rw [KP]; rcases hc with e | e | e | e | e | e | e <;> subst e <;> simp [e3, e2, e1, po_uu, iP]
          · rw [KP, n19]; simp [e3, e2, e1, po_uu, iP] <;> rfl
          · intro _; rw [KP]; simp [e3, e2, k3, k2, po_uu]
          · rw [KP, nn _ (by omega)]; simpa [e3, e2, e1, po_uu, iP] using hP.pha
          · rw [KP, nn _ (by omega)]; simpa [e3, e2, e1, po_uu, iP] using hP.fai
          · intro e; rw [n19] at e; exact absurd e (by decide)
          · rw [KP, nn _ (by omega)]; simpa [e3, e2, e1, po_uu, iP] using hP.ext
          · rw [KP, nn _ (by omega)]; simpa [e3, e2, e1, po_uu, iP] using hP.nam
          · rw [KP, nn _ (by omega)]; simpa [e3, e2, e1, po_uu, iP] using hP.pai
          · rw [KP]; simp [e3, e2, e1, k3, k2, k1, po_uu, iP, p2, hP.bac]
          · exact pvc_of n19 (by omega) (by omega) (by omega)
          · exact pg_cc (nn _ (by omega)) hp.2.2.2.2.2.2.2.1
          · exact pg_cc (nn _ (by omega)) hp.2.2.2.2.2.2.2.2.1
          · exact pg_cc (nn _ (by omega)) hp.2.2.2.2.2.2.2.2.2.1
          · exact pg_cc (nn _ (by omega)) hp.2.2.2.2.2.2.2.2.2.2.1
          · intro e; rw [pvv_of n19 (by omega)] at e; omega
          · intro e; rw [pvv_of n19 (by omega)] at e; omega
          · intro e; rw [pvv_of n19 (by omega)] at e; omega
    · rw [if_neg hs]
      refine ⟨_, I, R, 0, po_u I M 0 2, rfl, ?_, Or.inr ⟨rfl, by rw [po_uaa]⟩, (pScr_u.inv h).up⟩
      rw [y2 I hV, if_pos ha, pk_19, at' I 19 (by omega), Option.bind_some, if_neg hs, y1 I 2 (by decide)]
  · rw [if_neg ha]
    exact ⟨_, I, R, 0, po_u I M 0 1, rfl, by rw [y2 I hV, if_neg ha, y1 I 1 (by decide)], Or.inl ⟨rfl, by rw [po_uaa]⟩, (pScr_u.inv h).up⟩
end QC4
