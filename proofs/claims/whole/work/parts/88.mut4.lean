section QC3
variable {I I3 : po_I} {R : po_R} {o M n t k b P p : Nat} {N N' : po_N} {st : Nat → Nat}
theorem x_hasOpenP {v : Int32} (hc : pTC I P N (160 + 46 * p)) (h8 : I P 8 = v) (h6 : ps_cm N p ≤ 6) : m_X2_hasOpenInPhase I P = some (pb (pany (ps_ho N p 0 v) (ps_cm N p))) := by
  have key : ∀ k, k < 32 → (bt (I P 16) k && decide (I (P + 3) k = I P 8)) = (decide (k < ps_cm N p) && ps_ho N p 0 v k) := by
    intro k hk
    by_cases h : k < ps_cm N p
    · obtain ⟨a1, a2, a3⟩ := (hc k hk).1 h
      rw [a1, a2, h8, decide_eq_true h, Bool.true_and]
      unfold ps_ho ps_cp
      rw [if_neg (by omega), if_neg (by omega), if_pos rfl]
    · rw [(hc k hk).2 (by unfold ps_cm at h; omega), decide_eq_false h]; rfl
  refine po_inv (L := fun f (_ : Unit) k => m_X2_hasOpenInPhase_2L I f P (Int32.ofNat k)) (n := 6) (fun k _ => ∀ j, j < k → (decide (j < ps_cm N p) && ps_ho N p 0 v j) = false) (fun t => t = some (pb (pany (ps_ho N p 0 v) (ps_cm N p)))) ?_ ?_ 6 5000 () 0 (by omega) (by omega) (fun j hj => by omega)
  · intro f _ k hk h
    have hkk := key k (by omega)
    show (∃ s', _ ∧ m_X2_hasOpenInPhase_2 I _ P (Int32.ofNat k) = _) ∨ m_X2_hasOpenInPhase_2 I _ P (Int32.ofNat k) = _
    have e : m_X2_hasOpenInPhase_2 I (m_X2_hasOpenInPhase_2L I f) P (Int32.ofNat k) = if (bt (I P 16) k && decide (I (P + 3) k = I P 8)) = true then some 1 else m_X2_hasOpenInPhase_2L I f P (Int32.ofNat (k + 1)) := by
      unfold m_X2_hasOpenInPhase_2 m_X2_hasOpenInPhase_31
      rw [if_neg (show ¬ (6 : Int32) ≤ Int32.ofNat k from mt (pl_le (a := 6) (by omega) (by omega)).mp (by omega)), x_isOpen (by omega), Option.bind_some, if_pos (show po_in (Int32.ofNat k) 6 = true from pl_inl hk (by omega)), pl_clamp (by omega), show Int32.ofNat k + 1 = Int32.ofNat (k + 1) from pl_add k 1]
      cases bt (I P 16) k with
      | false => rfl
      | true =>
        rw [if_neg (show ¬ pb true = 0 by decide), Bool.true_and]
        by_cases e2 : I (P + 3) k = I P 8
        · rw [if_pos e2, decide_eq_true e2]; rfl
        · rw [if_neg e2, decide_eq_false e2]; rfl
    rw [e, hkk]
    cases hq : (decide (k < ps_cm N p) && ps_ho N p 0 v k) with
    | true =>
      right
      rw [if_pos rfl]
      rw [Bool.and_eq_true] at hq
      rw [(pany_iff _ _).mpr ⟨k, of_decide_eq_true hq.1, hq.2⟩]
      rfl
    | false =>
      left
      refine ⟨(), fun j hj => ?_, if_neg (by decide)⟩
      by_cases e3 : j = k
      · rw [e3]; exact hq
      · exact h j (by omega)
  · intro f _ h
    have e : pany (ps_ho N p 0 v) (ps_cm N p) = false := by
      cases e : pany (ps_ho N p 0 v) (ps_cm N p) with
      | false => rfl
      | true =>
        obtain ⟨k, h1, h2⟩ := (pany_iff _ _).mp e
        have := h k (by omega)
        rw [decide_eq_true h1, h2] at this
        cases this
    rw [e]
    rfl
/-- a permit's money is in no rule of a row -/
theorem pV_paid (hV : pV N) (hk : k < pv N 2) (hN : ∀ j, j ≠ 160 + 46 * k + 25 → N' j = N j) : pV N' := by
  have hp := hV.per hk
  have h15 := hp.cds
  obtain ⟨q1, q2, q3, q4, q5, q6, q7, q8, q9, q10, q11, q12, q13, q14, _⟩ := hp
  have q12' := q12.2.2
  refine pV_per hV hk (fun j hj => hN j (by omega)) ⟨pg_cc (hN _ (by omega)) q1, ?_, pg_cc (hN _ (by omega)) q3, pg_av (fun i hi => hN _ (by omega)) q4, pg_cc (hN _ (by omega)) q5, pg_cc (hN _ (by omega)) q6, pg_cc (hN _ (by omega)) q7, pg_cc (hN _ (by omega)) q8, pg_cc (hN _ (by omega)) q9, pg_cc (hN _ (by omega)) q10, pg_cc (hN _ (by omega)) q11, pg_cc (hN _ (by omega)) q12, ?_, ?_, ?_⟩
  · rw [pg_vv (hN (160 + 46 * k) (by omega)), pg_vv (hN 1 (by omega))]; exact q2
  · rw [pg_vv (hN (160 + 46 * k + 19) (by omega)), pg_vv (hN (160 + 46 * k + 20) (by omega)), pg_vv (hN (160 + 46 * k + 21) (by omega))]
    exact fun e => ⟨pg_cc (hN _ (by omega)) (q13 e).1, (q13 e).2⟩
  · rw [pg_vv (hN (160 + 46 * k + 19) (by omega)), pg_vv (hN (160 + 46 * k + 20) (by omega))]; exact q14
  · rw [pg_vv (hN (160 + 46 * k + 45) (by omega))]
    exact fun i hi => pg_cc (hN _ (by omega)) (h15 i hi)
theorem ps_ho_congr {j : Nat} {v : Int32} (hN : ∀ i, i < pv N (160 + 46 * k + 45) → N' (160 + 46 * k + 29 + i) = N (160 + 46 * k + 29 + i)) (h45 : N' (160 + 46 * k + 45) = N (160 + 46 * k + 45)) : pany (ps_ho N' k j v) (ps_cm N' k) = pany (ps_ho N k j v) (ps_cm N k) := by
  have e : ps_cm N' k = ps_cm N k := pg_vv h45
  rw [e]
  refine pany_congr fun i hi => ?_
  unfold ps_ho ps_cp
  rw [pg_vv (hN i hi)]
theorem L_inspect (h : pInv I R o M st n) (hn : n < 600) (a : Int32) : ∃ w I1 R1 v I2, m_X7_inspect I R o a = some (w, I1, R1) ∧ m_X8_inspect I1 M a = some (v, I2) ∧ pAg sIO sIS w (I2 M 0) v ∧ pInv I2 R1 o M st (n + 1) := by
  have hV := h.1.1
  have hB := h.1.2.1
  have hT := h.1.2.2
  have hM := h.2.2.2.2.2.1
  have h2' := hV.2.2.1.2.2
  have hday := hB.1
  have hday2 := hV.1.1
  have y1 : ∀ (K : po_I) e, e ≠ 0 → m_X8_inspect_29 K M a M e = some (0, po_u K M 0 e) := by
    intro K e he
    unfold m_X8_inspect_29 po_hlet
    dsimp only
    rw [po_uaa, if_neg he]
  have y2 : ∀ K : po_I, pV (K (M + 1)) → m_X8_inspect K M a = if plt a (pv (K (M + 1)) 2) = true then (Option.bind (m_X8_at K M a 19) fun x18 => if (x18 : Int32) = 2 then (m_X8_inspect_29 K M a M 0) else (m_X8_inspect_29 K M a M 2)) else m_X8_inspect_29 K M a M 1 := by
    intro K hK
    unfold m_X8_inspect m_X8_inspect_e
    rw [q_isPermit hK, Option.bind_some]
    cases plt a (pv (K (M + 1)) 2) <;> rfl
  unfold m_X7_inspect m_X7_inspect_e
  rw [x_permitOrThrow hV hT, Option.bind_some]
  by_cases ha : plt a (pv (I (M + 1)) 2) = true
  · rw [if_pos ha]
    rw [Sum.elim_inl]
    obtain ⟨k, hk, rfl⟩ := plt_of (by omega) ha
    have hP := hT.per hk
    have hp := hV.per hk
    rw [pl_clamp (by omega)]
    obtain ⟨P, hPe⟩ : ∃ P, P = o + 8 + (29 + 5 * k) := ⟨_, rfl⟩
    obtain ⟨b, hbe⟩ : ∃ b, b = 160 + 46 * k := ⟨_, rfl⟩
    rw [← hPe, ← hbe] at hP
    rw [← hbe] at hp
    rw [← hPe]
    have at' : ∀ (K : po_I) j, j < 46 → m_X8_at K M (Int32.ofNat k) (Int32.ofNat j) = some (K (M + 1) (b + j)) := fun K j hj => by rw [hbe, q_at (by omega)]
    have qs : ∀ (K : po_I) j v, j < 46 → m_X8_set K M (Int32.ofNat k) (Int32.ofNat j) v = some (po_u K (M + 1) (b + j) v) := fun K j v hj => by rw [hbe, q_set (by omega)]
    have qp : ∀ (K : po_I) v, m_X8_pay K M (Int32.ofNat k) v = some (po_u K (M + 1) (b + 25) (K (M + 1) (b + 25) + v)) := fun K v => by rw [hbe, q_pay (by omega)]
    have qg : ∀ (K : po_I) v, m_X8_giveBack K M (Int32.ofNat k) v = some (po_u K (M + 1) (b + 26) (K (M + 1) (b + 26) + v)) := fun K v => by rw [hbe, q_giveBack (by omega)]
    rw [hP.sta]
    by_cases hs : I (M + 1) (b + 19) = 2
    · have hiss := hp.iss (pvv_of hs (by omega))
      have h20 := hp.2.2.2.2.2.2.2.1
      have h21 := hp.2.2.2.2.2.2.2.2.1
      have hc6 := hp.2.2.2.2.2.2.2.2.2.2.2.1.2.2
      obtain ⟨I', R', m1, m2, m3, m4⟩ := L_mut h
      have iP : I' P = I P := m2 P (by omega) (by omega)
      have i8 : I' (o + 8) = I (o + 8) := m2 _ (by omega) (by omega)
      rw [if_pos hs, m1, Option.bind_some]
      dsimp only
      obtain ⟨amt, hamt⟩ : ∃ amt : Int32, amt = if I (M + 1) (b + 21) ≤ 0 then 0 else 5 := ⟨_, rfl⟩
      have xA : (if I' P 9 ≤ 0 then m_X7_inspect_46 I' R' o P else po_hlet (po_u I' P 13 (I' P 13 + 5)) fun I7 => m_X7_inspect_46 I7 R' o P) = m_X7_inspect_46 (po_u I' P 13 (I' P 13 + amt)) R' o P := by
        rw [iP, hP.fai, ← iP, hamt]
        by_cases e : I (M + 1) (b + 21) ≤ 0
        · rw [if_pos e, if_pos e, Int32.add_zero, po_u_self]
        · rw [if_neg e, if_neg e]; rfl
      rw [xA]
      obtain ⟨A, e1⟩ : ∃ A, A = po_u I' P 13 (I' P 13 + amt) := ⟨_, rfl⟩
      rw [← e1]
      have fA : ∀ q, q ≠ P → A q = I' q := fun q hq => by rw [e1, po_u_ne hq]
      have hcA : pTC A P (I (M + 1)) b := by
        intro i hi
        rw [show A P 16 = I P 16 by simp [e1, po_uu, iP], fA (P + 3) (by omega), fA (P + 4) (by omega), m2 (P + 3) (by omega) (by omega), m2 (P + 4) (by omega) (by omega)]
        exact hP.cnd i hi
      have hA8 : A P 8 = I (M + 1) (b + 20) := by simpa [e1, po_uu, iP] using hP.pha
      have hho : m_X2_hasOpenInPhase A P = some (pb (pany (ps_ho (I (M + 1)) k 0 (I (M + 1) (b + 20))) (ps_cm (I (M + 1)) k))) := x_hasOpenP (by rw [← hbe]; exact hcA) hA8 (by rw [show ps_cm (I (M + 1)) k = pv (I (M + 1)) (b + 45) by rw [hbe]; rfl]; exact hc6)
      unfold m_X7_inspect_46 m_X7_inspect_58 m_X7_inspect_81
      rw [hho, Option.bind_some]
      have hmod : ∀ J : po_I, (∀ q, q ≠ P → J q = I' q) → ∃ I2, (I2 (M + 1) = I (M + 1) ∧ I2 M 0 = 0 ∧ (∀ q, q < o + 828 → I2 q = J q) ∧ ∀ I3, (∀ q, q ≠ M → q ≠ M + 1 → I3 q = I2 q) → (I3 M 3 = I2 M 3 ∧ I3 M 6 = I2 M 6 ∧ I3 M 12 = I2 M 12 ∧ I3 M 15 = I2 M 15) → pV (I3 (M + 1)) ∧ pB (I3 (M + 1)) (n + 1) ∧ pTR I3 (o + 8) (I3 (M + 1)) → pInv I3 R' o M st (n + 1)) ∧ m_X8_inspect J M (Int32.ofNat k) = m_X8_inspect_62 I2 M (Int32.ofNat k) M (Int32.ofNat k) amt := by
        intro J fJ
        have rJ : J (M + 1) = I (M + 1) := by rw [fJ _ (by omega)]; exact m2 _ (by omega) (by omega)
        obtain ⟨I2, p1, p2, p3, p4, p5⟩ := m4 J (fun q q1 q2 q3 => fJ q (by omega))
        have hVJ : pV (J (M + 1)) := by rw [rJ]; exact hV
        refine ⟨I2, ⟨p2, p3, p4, p5⟩, ?_⟩
        rw [y2 J hVJ, rJ, if_pos ha, pk_19, at' J 19 (by omega), Option.bind_some, rJ, if_pos hs]
        unfold m_X8_inspect_29 po_hlet
        dsimp only
        rw [po_uaa, if_pos rfl, p1, Option.bind_some, pk_21, at' I2 21 (by omega), Option.bind_some, p2, hamt]
        by_cases e : I (M + 1) (b + 21) ≤ 0
        · rw [if_pos e, if_pos e]
        · rw [if_neg e, if_neg e]
      have hK1 : ∀ K : po_I, K (M + 1) = I (M + 1) → m_X8_hasOpen (po_u K (M + 1) (b + 25) (K (M + 1) (b + 25) + amt)) M (Int32.ofNat k) 0 (I (M + 1) (b + 20)) = some (pb (pany (ps_ho (I (M + 1)) k 0 (I (M + 1) (b + 20))) (ps_cm (I (M + 1)) k))) := by
        intro K hK
        have hrow : ∀ j, j ≠ b + 25 → (po_u K (M + 1) (b + 25) (K (M + 1) (b + 25) + amt)) (M + 1) j = I (M + 1) j := fun j hj => by simp [po_uu, hj, hK]
        have hV2 : pV ((po_u K (M + 1) (b + 25) (K (M + 1) (b + 25) + amt)) (M + 1)) := pV_paid hV hk (fun j hj => hrow j (by omega))
        have hk2 : k < pv ((po_u K (M + 1) (b + 25) (K (M + 1) (b + 25) + amt)) (M + 1)) 2 := by rw [pg_vv (hrow 2 (by omega))]; exact hk
        rw [show (0 : Int32) = Int32.ofNat 0 from rfl, q_hasOpen (j := 0) hV2 hk2 (by omega)]
        rw [ps_ho_congr (fun i hi => hrow _ (by omega)) (hrow _ (by omega))]
      cases hopen : pany (ps_ho (I (M + 1)) k 0 (I (M + 1) (b + 20))) (ps_cm (I (M + 1)) k) with
      | false =>
        rw [if_pos pb_f, if_neg (show ¬ (1 : Int32) = 0 by decide)]
        unfold m_X2_passPhase m_X2_passPhase_e m_X2_passPhase_36
        have a80 : A (o + 8) 0 = Int32.ofNat (pv (I (M + 1)) 0) := by rw [fA _ (by omega), i8, hT.1]; exact hday2
        obtain ⟨ph, hph⟩ : ∃ ph, ph = pv (I (M + 1)) (b + 20) := ⟨_, rfl⟩
        have hph3 : ph ≤ 3 := by rw [hph]; exact hiss.2.1
        have n20o : I (M + 1) (b + 20) = Int32.ofNat ph := by rw [hph]; exact h20.1
        obtain ⟨sn, hsn⟩ : ∃ sn, sn = if ph + 1 = 4 then 3 else 2 := ⟨_, rfl⟩
        have hsn2 : (sn = 3 ∧ ph + 1 = 4) ∨ (sn = 2 ∧ ph + 1 ≤ 3) := by
          rw [hsn]; split
          · left; exact ⟨rfl, by assumption⟩
          · right; exact ⟨rfl, by omega⟩
        obtain ⟨B1, e2⟩ : ∃ B1, B1 = po_u A P 8 (A P 8 + 1) := ⟨_, rfl⟩
        obtain ⟨B2, e3⟩ : ∃ B2, B2 = po_u B1 P 9 0 := ⟨_, rfl⟩
        obtain ⟨B3, e4⟩ : ∃ B3, B3 = po_u B2 P 10 (A (o + 8) 0 + 30) := ⟨_, rfl⟩
        obtain ⟨J, e5⟩ : ∃ J, J = po_u B3 P 6 (Int32.ofNat sn) := ⟨_, rfl⟩
        have b8 : B3 P 8 = Int32.ofNat (ph + 1) := by
          rw [← pl_add, ← n20o, ← hA8]
          simp [e4, e3, e2, po_uu] <;> rfl
        have b6 : B3 P 6 = 2 := by
          rw [← hs, ← hP.sta]
          simp [e4, e3, e2, e1, po_uu, iP]
        have fJ : ∀ q, q ≠ P → J q = I' q := fun q hq => by rw [e5, po_u_ne hq, e4, po_u_ne hq, e3, po_u_ne hq, e2, po_u_ne hq, e1, po_u_ne hq]
        have xJ : (if B3 P 8 < 4 then some B3 else some (po_u B3 P 6 3)) = some J := by
          rw [b8, e5]
          rcases hsn2 with ⟨s1, s2⟩ | ⟨s1, s2⟩
          · rw [if_neg (show ¬ Int32.ofNat (ph + 1) < 4 from mt (pl_lt (b := 4) (by omega) (by omega)).mp (by omega)), s1]; rfl
          · rw [if_pos (show Int32.ofNat (ph + 1) < 4 from (pl_lt (b := 4) (by omega) (by omega)).mpr (by omega)), s1, show Int32.ofNat 2 = B3 P 6 from b6.symm, po_u_self]
        unfold po_hlet
        dsimp only
        rw [← e2, ← e3, ← e4, xJ, Option.bind_some, if_pos (show vp_nar .boolean 1 = 1 from rfl)]
        obtain ⟨I2, ⟨p2, p3, p4, p5⟩, pe⟩ := hmod J fJ
        suffices hh : ∃ v I2, m_X8_inspect J M (Int32.ofNat k) = some (v, I2) ∧ pAg sIO sIS (.inl 1) (I2 M 0) v ∧ pInv I2 R' o M st (n + 1) by
          obtain ⟨v, I3, g1, g2, g3⟩ := hh
          exact ⟨_, J, R', v, I3, rfl, g1, g2, g3⟩
        rw [pe]
        unfold m_X8_inspect_62 m_X8_inspect_118 m_X8_inspect_183
        rw [qp]
        refine po_bz (Z := fun x => ∃ v I2, x = some (v, I2) ∧ pAg sIO sIS (.inl 1) (I2 M 0) v ∧ pInv I2 R' o M st (n + 1)) fun K1 k1 => ?_
        have r1 : K1 (M + 1) (b + 20) = I (M + 1) (b + 20) := by simp [k1, po_uu, p2]
        have ho1 : m_X8_hasOpen K1 M (Int32.ofNat k) 0 (I (M + 1) (b + 20)) = some (pb (pany (ps_ho (I (M + 1)) k 0 (I (M + 1) (b + 20))) (ps_cm (I (M + 1)) k))) := by rw [k1]; exact hK1 I2 p2
        rw [pk_20, at' K1 20 (by omega), Option.bind_some, r1, ho1, hopen, Option.bind_some, if_pos pb_f, Option.bind_some, qs _ 20 _ (by omega)]
        refine po_bz (Z := fun x => ∃ v I2, x = some (v, I2) ∧ pAg sIO sIS (.inl 1) (I2 M 0) v ∧ pInv I2 R' o M st (n + 1)) fun K2 k2 => ?_
        rw [pk_21, qs _ 21 _ (by omega)]
        refine po_bz (Z := fun x => ∃ v I2, x = some (v, I2) ∧ pAg sIO sIS (.inl 1) (I2 M 0) v ∧ pInv I2 R' o M st (n + 1)) fun K3 k3 => ?_
        rw [pk_22, qs _ 22 _ (by omega)]
        refine po_bz (Z := fun x => ∃ v I2, x = some (v, I2) ∧ pAg sIO sIS (.inl 1) (I2 M 0) v ∧ pInv I2 R' o M st (n + 1)) fun K4 k4 => ?_
        have r4 : K4 (M + 1) (b + 20) = Int32.ofNat (ph + 1) := by
          rw [← pl_add, ← n20o]
          simp [k4, k3, k2, k1, po_uu, p2] <;> rfl
        have xK : (if K4 (M + 1) (b + 20) = 4 then (Option.bind (m_X8_set K4 M (Int32.ofNat k) 19 3) fun x1 => some ((1, x1) : Int32 × po_I)) else (Option.bind (m_X8_set K4 M (Int32.ofNat k) 19 2) fun x1 => some (1, x1))) = some (1, po_u K4 (M + 1) (b + 19) (Int32.ofNat sn)) := by
          rw [r4, pk_19, qs _ 19 _ (by omega), qs _ 19 _ (by omega), Option.bind_some, Option.bind_some]
          rcases hsn2 with ⟨s1, s2⟩ | ⟨s1, s2⟩
          · rw [if_pos (show Int32.ofNat (ph + 1) = 4 by rw [s2]; rfl), s1]; rfl
          · rw [if_neg (show ¬ Int32.ofNat (ph + 1) = 4 from pk_ne (b := 4) (by omega) (by omega) (by omega)), s1]; rfl
        rw [at' K4 20 (by omega), Option.bind_some]
        refine (show ∃ v I2, (if K4 (M + 1) (b + 20) = 4 then (Option.bind (m_X8_set K4 M (Int32.ofNat k) 19 3) fun x1 => some ((1, x1) : Int32 × po_I)) else (Option.bind (m_X8_set K4 M (Int32.ofNat k) 19 2) fun x1 => some (1, x1))) = some (v, I2) ∧ pAg sIO sIS (.inl 1) (I2 M 0) v ∧ pInv I2 R' o M st (n + 1) from ?_)
        rw [xK]
        obtain ⟨K5, k5⟩ : ∃ K5, K5 = po_u K4 (M + 1) (b + 19) (Int32.ofNat sn) := ⟨_, rfl⟩
        rw [← k5]
        refine ⟨_, K5, rfl, ⟨?_, rfl⟩, p5 K5 (fun q q1 q2 => by rw [k5, po_u_ne q2, k4, po_u_ne q2, k3, po_u_ne q2, k2, po_u_ne q2, k1, po_u_ne q2]) ⟨?_, ?_, ?_, ?_⟩ ?_⟩
        · rw [k5, po_u_ne (by omega), k4, po_u_ne (by omega), k3, po_u_ne (by omega), k2, po_u_ne (by omega), k1, po_u_ne (by omega), p3]
        · rw [k5, po_u_ne (by omega), k4, po_u_ne (by omega), k3, po_u_ne (by omega), k2, po_u_ne (by omega), k1, po_u_ne (by omega)]
        · rw [k5, po_u_ne (by omega), k4, po_u_ne (by omega), k3, po_u_ne (by omega), k2, po_u_ne (by omega), k1, po_u_ne (by omega)]
        · rw [k5, po_u_ne (by omega), k4, po_u_ne (by omega), k3, po_u_ne (by omega), k2, po_u_ne (by omega), k1, po_u_ne (by omega)]
        · rw [k5, po_u_ne (by omega), k4, po_u_ne (by omega), k3, po_u_ne (by omega), k2, po_u_ne (by omega), k1, po_u_ne (by omega)]
        · have hd22 : K5 (M + 1) (b + 22) = Int32.ofNat (pv (I (M + 1)) 0 + 30) := by
            have hb0 : ¬ 0 = b + 21 := by omega
            have hb1 : ¬ 0 = b + 20 := by omega
            have hb2 : ¬ 0 = b + 25 := by omega
            rw [← pl_add, ← hday2]
            simp [k5, k4, k3, k2, k1, po_uu, p2, hb0, hb1, hb2] <;> rfl
          have n20 : K5 (M + 1) (b + 20) = Int32.ofNat (ph + 1) := by
            rw [← r4]
            simp [k5, po_uu]
          have lo : ∀ q, q < o + 828 → K5 q = J q := fun q hq => by
                rw [k5, po_u_ne (by omega), k4, po_u_ne (by omega), k3, po_u_ne (by omega), k2, po_u_ne (by omega), k1, po_u_ne (by omega)]; exact p4 q hq
          have KP : K5 P = J P := lo P (by omega)
          have nn : ∀ j, j ≠ b + 19 ∧ j ≠ b + 20 ∧ j ≠ b + 21 ∧ j ≠ b + 22 ∧ j ≠ b + 25 → K5 (M + 1) j = I (M + 1) j := fun j hj => by
                simp [k5, k4, k3, k2, k1, po_uu, p2, hj]
          have n19 : K5 (M + 1) (b + 19) = Int32.ofNat sn := by
                simp [k5, po_uu]
          have n21 : K5 (M + 1) (b + 21) = Int32.ofNat 0 := by
                simp [k5, k4, k3, po_uu] <;> rfl
          refine pper' hPe hbe hV hB hT hk (fun j hj => nn j (by omega)) (fun q q1 q2 q3 => by rw [lo q (by omega), fJ q q3]; exact m2 q (by omega) (by omega)) (fun c hc => ?_) ?_ ?_ ?_ ?_ ?_ ?_ ?_ ?_ ?_ ?_ ?_ ?_ ?_ ?_ ?_ ?_ ?_
          · rw [KP]; rcases hc with e | e | e | e | e | e | e <;> subst e <;> simp [e5, e4, e3, e2, e1, po_uu, iP]
          · rw [KP, n19]; simp [e5, po_uu]
          · intro e; rw [n19] at e; exact absurd ((pl_eq (b := 1) (by omega) (by omega)).mp e) (by omega)
          · rw [KP, n20, ← b8]; simp [e5, po_uu]
          · rw [KP, n21]; simp [e5, e4, e3, po_uu] <;> rfl
          · intro _; rw [KP, hd22, ← pl_add, ← a80]; simp [e5, e4, po_uu] <;> rfl
          · rw [KP, nn _ (by omega)]; simpa [e5, e4, e3, e2, e1, po_uu, iP] using hP.ext
          · rw [KP, nn _ (by omega)]; simpa [e5, e4, e3, e2, e1, po_uu, iP] using hP.nam
          · rw [KP]; simp [e5, e4, e3, e2, e1, k5, k4, k3, k2, k1, po_uu, iP, p2, hP.pai]
          · rw [KP, nn _ (by omega)]; simpa [e5, e4, e3, e2, e1, po_uu, iP] using hP.bac
          · exact pvc_of n19 (by omega) (by omega) (by omega)
          · exact pvc_of n20 (by omega) (by omega) (by omega)
          · exact pvc_of n21 (by omega) (by omega) (by omega)
          · exact pg_cc (nn _ (by omega)) hp.2.2.2.2.2.2.2.2.2.1
          · exact pg_cc (nn _ (by omega)) hp.2.2.2.2.2.2.2.2.2.2.1
          · rw [pvv_of n19 (by omega)]; intro e; exact ⟨pvc_of hd22 (by omega) (by omega) (by omega), by rw [pvv_of hd22 (by omega)]; omega, by rw [pvv_of n20 (by omega)]; omega, by rw [pvv_of n21 (by omega)]; omega⟩
          · intro e; rw [pvv_of n19 (by omega)] at e; omega
          · intro e; rw [pvv_of n19 (by omega)] at e; omega
      | true =>
        rw [if_neg (show ¬ pb true = 0 by decide), if_pos (show (0 : Int32) = 0 from rfl)]
        unfold m_X2_failPhase m_X2_failPhase_e m_X2_failPhase_24
        obtain ⟨fl, hfl⟩ : ∃ fl, fl = pv (I (M + 1)) (b + 21) := ⟨_, rfl⟩
        have hfl2 : fl ≤ 2 := by rw [hfl]; exact hiss.2.2
        have n21o : I (M + 1) (b + 21) = Int32.ofNat fl := by rw [hfl]; exact h21.1
        have hlim2 : pv (I (M + 1)) (b + 22) ≤ 100 * n + 200 := by
          have := hB.2.1 k hk
          rw [← hbe] at this
          exact this (pvv_of hs (by omega))
        obtain ⟨sn, hsn⟩ : ∃ sn, sn = if fl + 1 = 3 then 6 else 2 := ⟨_, rfl⟩
        have hsn2 : (sn = 6 ∧ fl + 1 = 3) ∨ (sn = 2 ∧ fl + 1 ≤ 2) := by
          rw [hsn]; split
          · left; exact ⟨rfl, by assumption⟩
          · right; exact ⟨rfl, by omega⟩
        obtain ⟨B1, e2⟩ : ∃ B1, B1 = po_u A P 9 (A P 9 + 1) := ⟨_, rfl⟩
        obtain ⟨J, e3⟩ : ∃ J, J = po_u B1 P 6 (Int32.ofNat sn) := ⟨_, rfl⟩
        have b9 : B1 P 9 = Int32.ofNat (fl + 1) := by
          rw [← pl_add, ← n21o, ← hP.fai]
          simp [e2, e1, po_uu, iP] <;> rfl
        have b6 : B1 P 6 = 2 := by
          rw [← hs, ← hP.sta]
          simp [e2, e1, po_uu, iP]
        have fJ : ∀ q, q ≠ P → J q = I' q := fun q hq => by rw [e3, po_u_ne hq, e2, po_u_ne hq, e1, po_u_ne hq]
        have xJ : (if B1 P 9 < 3 then some B1 else some (po_u B1 P 6 6)) = some J := by
          rw [b9, e3]
          rcases hsn2 with ⟨s1, s2⟩ | ⟨s1, s2⟩
          · rw [if_neg (show ¬ Int32.ofNat (fl + 1) < 3 from mt (pl_lt (b := 3) (by omega) (by omega)).mp (by omega)), s1]; rfl
          · rw [if_pos (show Int32.ofNat (fl + 1) < 3 from (pl_lt (b := 3) (by omega) (by omega)).mpr (by omega)), s1, show Int32.ofNat 2 = B1 P 6 from b6.symm, po_u_self]
        unfold po_hlet
        dsimp only
        rw [← e2, xJ, Option.bind_some, if_pos (show vp_nar .boolean 0 = 0 from rfl)]
        obtain ⟨I2, ⟨p2, p3, p4, p5⟩, pe⟩ := hmod J fJ
        suffices hh : ∃ v I2, m_X8_inspect J M (Int32.ofNat k) = some (v, I2) ∧ pAg sIO sIS (.inl 0) (I2 M 0) v ∧ pInv I2 R' o M st (n + 1) by
          obtain ⟨v, I3, g1, g2, g3⟩ := hh
          exact ⟨_, J, R', v, I3, rfl, g1, g2, g3⟩
        rw [pe]
        unfold m_X8_inspect_62 m_X8_inspect_118 m_X8_inspect_183
        rw [qp]
        refine po_bz (Z := fun x => ∃ v I2, x = some (v, I2) ∧ pAg sIO sIS (.inl 0) (I2 M 0) v ∧ pInv I2 R' o M st (n + 1)) fun K1 k1 => ?_
        have r1 : K1 (M + 1) (b + 20) = I (M + 1) (b + 20) := by simp [k1, po_uu, p2]
        have ho1 : m_X8_hasOpen K1 M (Int32.ofNat k) 0 (I (M + 1) (b + 20)) = some (pb (pany (ps_ho (I (M + 1)) k 0 (I (M + 1) (b + 20))) (ps_cm (I (M + 1)) k))) := by rw [k1]; exact hK1 I2 p2
        rw [pk_20, at' K1 20 (by omega), Option.bind_some, r1, ho1, hopen, Option.bind_some, if_neg (show ¬ pb true = 0 by decide), pk_21, at' K1 21 (by omega), Option.bind_some, qs _ 21 _ (by omega)]
        refine po_bz (Z := fun x => ∃ v I2, x = some (v, I2) ∧ pAg sIO sIS (.inl 0) (I2 M 0) v ∧ pInv I2 R' o M st (n + 1)) fun K2 k2 => ?_
        have r2 : K2 (M + 1) (b + 21) = Int32.ofNat (fl + 1) := by
          rw [← pl_add, ← n21o]
          simp [k2, k1, po_uu, p2] <;> rfl
        have xK : (if K2 (M + 1) (b + 21) = 3 then (Option.bind (m_X8_set K2 M (Int32.ofNat k) 19 6) fun x1 => some ((0, x1) : Int32 × po_I)) else (Option.bind (m_X8_set K2 M (Int32.ofNat k) 19 2) fun x1 => some (0, x1))) = some (0, po_u K2 (M + 1) (b + 19) (Int32.ofNat sn)) := by
          rw [r2, pk_19, qs _ 19 _ (by omega), qs _ 19 _ (by omega), Option.bind_some, Option.bind_some]
          rcases hsn2 with ⟨s1, s2⟩ | ⟨s1, s2⟩
          · rw [if_pos (show Int32.ofNat (fl + 1) = 3 by rw [s2]; rfl), s1]; rfl
          · rw [if_neg (show ¬ Int32.ofNat (fl + 1) = 3 from pk_ne (b := 3) (by omega) (by omega) (by omega)), s1]; rfl
        rw [at' K2 21 (by omega), Option.bind_some]
        refine (show ∃ v I2, (if K2 (M + 1) (b + 21) = 3 then (Option.bind (m_X8_set K2 M (Int32.ofNat k) 19 6) fun x1 => some ((0, x1) : Int32 × po_I)) else (Option.bind (m_X8_set K2 M (Int32.ofNat k) 19 2) fun x1 => some (0, x1))) = some (v, I2) ∧ pAg sIO sIS (.inl 0) (I2 M 0) v ∧ pInv I2 R' o M st (n + 1) from ?_)
        rw [xK]
        obtain ⟨K3, k3⟩ : ∃ K3, K3 = po_u K2 (M + 1) (b + 19) (Int32.ofNat sn) := ⟨_, rfl⟩
        rw [← k3]
        refine ⟨_, K3, rfl, ⟨?_, rfl⟩, p5 K3 (fun q q1 q2 => by rw [k3, po_u_ne q2, k2, po_u_ne q2, k1, po_u_ne q2]) ⟨?_, ?_, ?_, ?_⟩ ?_⟩
        · rw [k3, po_u_ne (by omega), k2, po_u_ne (by omega), k1, po_u_ne (by omega), p3]
        · rw [k3, po_u_ne (by omega), k2, po_u_ne (by omega), k1, po_u_ne (by omega)]
        · rw [k3, po_u_ne (by omega), k2, po_u_ne (by omega), k1, po_u_ne (by omega)]
        · rw [k3, po_u_ne (by omega), k2, po_u_ne (by omega), k1, po_u_ne (by omega)]
        · rw [k3, po_u_ne (by omega), k2, po_u_ne (by omega), k1, po_u_ne (by omega)]
        · have n21 : K3 (M + 1) (b + 21) = Int32.ofNat (fl + 1) := by
            rw [← r2]
            simp [k3, po_uu]
          have lo : ∀ q, q < o + 828 → K3 q = J q := fun q hq => by
                rw [k3, po_u_ne (by omega), k2, po_u_ne (by omega), k1, po_u_ne (by omega)]; exact p4 q hq
          have KP : K3 P = J P := lo P (by omega)
          have nn : ∀ j, j ≠ b + 19 ∧ j ≠ b + 21 ∧ j ≠ b + 25 → K3 (M + 1) j = I (M + 1) j := fun j hj => by
                simp [k3, k2, k1, po_uu, p2, hj]
          have n19 : K3 (M + 1) (b + 19) = Int32.ofNat sn := by
                simp [k3, po_uu]
          refine pper' hPe hbe hV hB hT hk (fun j hj => nn j (by omega)) (fun q q1 q2 q3 => by rw [lo q (by omega), fJ q q3]; exact m2 q (by omega) (by omega)) (fun c hc => ?_) ?_ ?_ ?_ ?_ ?_ ?_ ?_ ?_ ?_ ?_ ?_ ?_ ?_ ?_ ?_ ?_ ?_
          · rw [KP]; rcases hc with e | e | e | e | e | e | e <;> subst e <;> simp [e3, e2, e1, po_uu, iP]
          · rw [KP, n19]; simp [e3, po_uu]
          · intro e; rw [n19] at e; exact absurd ((pl_eq (b := 1) (by omega) (by omega)).mp e) (by omega)
          · rw [KP, nn _ (by omega)]; simpa [e3, e2, e1, po_uu, iP] using hP.pha
          · rw [KP, n21, ← b9]; simp [e3, po_uu]
          · intro _; rw [KP, nn _ (by omega)]; simpa [e3, e2, e1, po_uu, iP] using hP.lim hs
          · rw [KP, nn _ (by omega)]; simpa [e3, e2, e1, po_uu, iP] using hP.ext
          · rw [KP, nn _ (by omega)]; simpa [e3, e2, e1, po_uu, iP] using hP.nam
          · rw [KP]; simp [e3, e2, e1, k3, k2, k1, po_uu, iP, p2, hP.pai]
          · rw [KP, nn _ (by omega)]; simpa [e3, e2, e1, po_uu, iP] using hP.bac
          · exact pvc_of n19 (by omega) (by omega) (by omega)
          · exact pg_cc (nn _ (by omega)) hp.2.2.2.2.2.2.2.1
          · exact pvc_of n21 (by omega) (by omega) (by omega)
          · exact pg_cc (nn _ (by omega)) hp.2.2.2.2.2.2.2.2.2.1
          · exact pg_cc (nn _ (by omega)) hp.2.2.2.2.2.2.2.2.2.2.1
          · rw [pvv_of n19 (by omega)]; intro e; exact ⟨pg_cc (nn (b + 22) (by omega)) hiss.1, by rw [pg_vv (nn (b + 22) (by omega))]; omega, by rw [pg_vv (nn (b + 20) (by omega))]; exact hiss.2.1, by rw [pvv_of n21 (by omega)]; omega⟩
          · intro _; rw [pg_vv (nn (b + 20) (by omega))]; exact hiss.2.1
          · intro e; rw [pvv_of n19 (by omega)] at e; omega
    · rw [if_neg hs]
      refine ⟨_, I, R, 0, po_u I M 0 2, rfl, ?_, Or.inr ⟨rfl, by rw [po_uaa]⟩, (pScr_u.inv h).up⟩
      rw [y2 I hV, if_pos ha, pk_19, at' I 19 (by omega), Option.bind_some, if_neg hs, y1 I 2 (by decide)]
  · rw [if_neg ha]
    exact ⟨_, I, R, 0, po_u I M 0 1, rfl, by rw [y2 I hV, if_neg ha, y1 I 1 (by decide)], Or.inl ⟨rfl, by rw [po_uaa]⟩, (pScr_u.inv h).up⟩
end QC3
