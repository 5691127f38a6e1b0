section QC7
variable {I J : po_I} {R : po_R} {o M n t k b P z : Nat} {N N' : po_N} {st : Nat → Nat}
theorem pB_cond (hV : pV N) (hB : pB N n) (hk : k < pv N 2) (hN : ∀ j, (j < 160 + 46 * k + 29 ∨ 160 + 46 * k + 45 ≤ j) → N' j = N j) : pB N' n := by
  have h3' := hV.2.2.1.2.2
  have h4' := hV.2.2.2.1.2.2
  unfold pB at *
  rw [pg_vv (hN 0 (by omega)), pg_vv (hN 2 (by omega)), pg_vv (hN 3 (by omega))]
  refine ⟨hB.1, fun i hi => ?_, fun i hi => ?_, fun i hi => ?_⟩
  · rw [pg_vv (hN _ (by omega)), pg_vv (hN _ (by omega))]; exact hB.2.1 i hi
  · rw [pg_vv (hN _ (by omega))]; exact hB.2.2.1 i hi
  · rw [pg_vv (hN _ (by omega)), pg_vv (hN _ (by omega)), pg_vv (hN _ (by omega))]; exact hB.2.2.2 i hi
theorem bt_S {l : Int32} {c : Nat} (hc : c < 32) (h6 : ps_cm N k ≤ 6) : bt (pfold (ob (ps_ol N k l)) 6 0) c = (decide (c < ps_cm N k) && ps_ho N k 1 l c) := by
  rw [bt_ob _ hc 6 (by omega)]
  unfold ps_ol
  by_cases h : c < ps_cm N k
  · rw [decide_eq_true h, decide_eq_true (show c < 6 by omega)]; rfl
  · rw [decide_eq_false h]; simp
theorem pS_zero {l : Int32} (h6 : ps_cm N k ≤ 6) : pfold (ob (ps_ol N k l)) 6 0 = 0 ↔ pany (ps_ho N k 1 l) (ps_cm N k) = false := by
  rw [bt_eq0]
  constructor
  · intro h
    cases e : pany (ps_ho N k 1 l) (ps_cm N k) with
    | false => rfl
    | true =>
      obtain ⟨i, i1, i2⟩ := (pany_iff _ _).mp e
      have := h i (by omega)
      rw [bt_S (by omega) h6, decide_eq_true i1, i2] at this
      cases this
  · intro h c hc
    rw [bt_S hc h6]
    by_cases hcc : c < ps_cm N k
    · cases e : ps_ho N k 1 l c with
      | false => rw [Bool.and_false]
      | true => rw [(pany_iff _ _).mpr ⟨c, hcc, e⟩] at h; cases h
    · rw [decide_eq_false hcc]; rfl
theorem pTP_ful {l : Int32} (hP : pTP I P N (160 + 46 * k)) (h6 : ps_cm N k ≤ 6) : pTP (po_u I P 16 (I P 16 &&& (pfold (ob (ps_ol N k l)) 6 0 ^^^ (-1)))) P (pfl N (160 + 46 * k) l (ps_cm N k)) (160 + 46 * k) := by
  have nn : ∀ j, (j < 160 + 46 * k + 29 ∨ 160 + 46 * k + 29 + ps_cm N k ≤ j) → pfl N (160 + 46 * k) l (ps_cm N k) j = N j := fun j hj => pfl_out hj
  have jc : ∀ c, c ≠ 16 → (po_u I P 16 (I P 16 &&& (pfold (ob (ps_ol N k l)) 6 0 ^^^ (-1)))) P c = I P c := fun c hc => by rw [po_uu, if_neg (by omega)]
  have ea : pa_in (pfl N (160 + 46 * k) l (ps_cm N k)) (160 + 46 * k) = pa_in N (160 + 46 * k) := pg_ain (fun i hi => nn _ (by omega))
  have hcm : ps_cm N k = pv N (160 + 46 * k + 45) := rfl
  refine ⟨?_, ?_, ?_, ?_, ?_, ?_, ?_, ?_, ?_, ?_, ?_, ?_, ?_, ?_, ?_, ?_, ?_⟩
  · rw [jc 0 (by omega), nn _ (by omega)]; exact hP.lot
  · rw [jc 1 (by omega), nn _ (by omega)]; exact hP.use
  · rw [jc 2 (by omega), nn _ (by omega)]; exact hP.flo
  · rw [jc 3 (by omega), nn _ (by omega)]; exact hP.par
  · rw [ea]; exact hP.are.mv (po_u_ne (by omega))
  · rw [jc 5 (by omega), ea]; exact hP.cel
  · rw [jc 6 (by omega), nn _ (by omega)]; exact hP.sta
  · rw [jc 7 (by omega), nn _ (by omega), nn _ (by omega)]; exact hP.rea
  · rw [jc 8 (by omega), nn _ (by omega)]; exact hP.pha
  · rw [jc 9 (by omega), nn _ (by omega)]; exact hP.fai
  · rw [jc 10 (by omega), nn _ (by omega), nn _ (by omega)]; exact hP.lim
  · rw [jc 11 (by omega), nn _ (by omega)]; exact hP.ext
  · rw [jc 12 (by omega), nn _ (by omega)]; exact hP.nam
  · rw [jc 13 (by omega), nn _ (by omega)]; exact hP.pai
  · rw [jc 14 (by omega), nn _ (by omega)]; exact hP.bac
  · rw [jc 15 (by omega), nn _ (by omega)]; exact hP.con
  · intro i hi
    have hh := hP.cnd i hi
    have e3 : (po_u I P 16 (I P 16 &&& (pfold (ob (ps_ol N k l)) 6 0 ^^^ (-1)))) (P + 3) = I (P + 3) := po_u_ne (by omega)
    have e4 : (po_u I P 16 (I P 16 &&& (pfold (ob (ps_ol N k l)) 6 0 ^^^ (-1)))) (P + 4) = I (P + 4) := po_u_ne (by omega)
    rw [pg_vv (nn (160 + 46 * k + 45) (by omega)), ← hcm, e3, e4, po_uaa, bt_and, bt_not _ hi, bt_S hi h6]
    rw [← hcm] at hh
    constructor
    · intro hlt
      obtain ⟨a1, a2, a3⟩ := hh.1 hlt
      rw [a1, a2, a3, decide_eq_true hlt, Bool.true_and]
      have e2 : ps_ho N k 1 l i = (decide (pv N (160 + 46 * k + 29 + i) % 2 = 1) && decide (Int32.ofNat (pv N (160 + 46 * k + 29 + i) / 2 % 500) = l)) := rfl
      rw [e2]
      by_cases el : Int32.ofNat (pv N (160 + 46 * k + 29 + i) / 2 % 500) = l
      · have e3 : (pfl N (160 + 46 * k) l (ps_cm N k)) (160 + 46 * k + 29 + i) = Int32.ofNat (2 * (pv N (160 + 46 * k + 29 + i) / 2)) := if_pos ⟨by omega, by omega, el⟩
        have hb : pv N (160 + 46 * k + 29 + i) < 2147483648 := Int32.toNatClampNeg_lt _
        rw [pvv_of e3 (by omega), decide_eq_true el, Bool.and_true]
        refine ⟨?_, ?_, ?_⟩
        · rw [decide_eq_false (show ¬ 2 * (pv N (160 + 46 * k + 29 + i) / 2) % 2 = 1 by omega)]
          cases decide (pv N (160 + 46 * k + 29 + i) % 2 = 1) <;> rfl
        · exact congrArg Int32.ofNat (by omega)
        · exact congrArg Int32.ofNat (by omega)
      · have e3 : (pfl N (160 + 46 * k) l (ps_cm N k)) (160 + 46 * k + 29 + i) = N (160 + 46 * k + 29 + i) := if_neg (fun h => el h.2.2)
        rw [pg_vv e3, decide_eq_false el, Bool.and_false, Bool.not_false, Bool.and_true]
        exact ⟨rfl, rfl, rfl⟩
    · intro hge
      rw [hh.2 hge, Bool.false_and]
theorem L_fulfil (h : pInv I R o M st n) (a l : Int32) : ∃ w I1 R1 v I2, m_X7_fulfil I R o a l = some (w, I1, R1) ∧ m_X8_fulfil I1 M a l = some (v, I2) ∧ pAg sIO sNS w (I2 M 0) v ∧ pInv I2 R1 o M st (n + 1) := by
  have hV := h.1.1
  have hB := h.1.2.1
  have hT := h.1.2.2
  have hM := h.2.2.2.2.2.1
  have h2' := hV.2.2.1.2.2
  have y1 : ∀ (K : po_I) e, e ≠ 0 → m_X8_fulfil_28 K M a l M e = some (0, po_u K M 0 e) := by
    intro K e he
    unfold m_X8_fulfil_28
    rw [po_hletE, po_uaa, if_neg he]
  unfold m_X7_fulfil m_X7_fulfil_e
  rw [x_permitOrThrow hV hT, Option.bind_some]
  by_cases ha : plt a (pv (I (M + 1)) 2) = true
  · rw [if_pos ha, Sum.elim_inl]
    obtain ⟨k, hk, rfl⟩ := plt_of (by omega) ha
    have hP := hT.per hk
    have h6 : ps_cm (I (M + 1)) k ≤ 6 := (hV.per hk).2.2.2.2.2.2.2.2.2.2.2.1.2.2
    have y2 : ∀ K : po_I, K (M + 1) = I (M + 1) → m_X8_fulfil K M (Int32.ofNat k) l = if pany (ps_ho (I (M + 1)) k 1 l) (ps_cm (I (M + 1)) k) = true then m_X8_fulfil_28 K M (Int32.ofNat k) l M 0 else m_X8_fulfil_28 K M (Int32.ofNat k) l M 2 := by
      intro K hK
      unfold m_X8_fulfil m_X8_fulfil_e
      rw [q_isPermit (by rw [hK]; exact hV), hK, ha, Option.bind_some, if_neg (show ¬ pb true = 0 by decide), show m_X8_hasOpen K M (Int32.ofNat k) 1 l = _ from q_hasOpen (j := 1) (by rw [hK]; exact hV) (by rw [hK]; exact hk) (by omega), Option.bind_some, hK]
      cases pany (ps_ho (I (M + 1)) k 1 l) (ps_cm (I (M + 1)) k) <;> rfl
    rw [pl_clamp (by omega), x_openSetWithLetter hP h6, Option.bind_some]
    by_cases hs : pany (ps_ho (I (M + 1)) k 1 l) (ps_cm (I (M + 1)) k) = true
    · obtain ⟨I', R', m1, m2, m3, m4⟩ := L_mut h
      have hT1 : pTR I' (o + 8) (I (M + 1)) := hT.mv hV (fun q q1 q2 => m2 q (by omega) (by omega))
      have hpf := pTP_ful (l := l) (hT1.per hk) h6
      rw [if_neg (fun e => by rw [pS_zero h6, hs] at e; cases e), m1, Option.bind_some, po_hletE, x_openConditions hpf (by rw [show ps_cm (pfl (I (M + 1)) (160 + 46 * k) l (ps_cm (I (M + 1)) k)) k = ps_cm (I (M + 1)) k from pg_vv (pfl_out (by omega))]; exact h6), Option.bind_some]
      obtain ⟨J, eJ⟩ : ∃ J, J = po_u I' (o + 8 + (29 + 5 * k)) 16 (I' (o + 8 + (29 + 5 * k)) 16 &&& (pfold (ob (ps_ol (I (M + 1)) k l)) 6 0 ^^^ (-1))) := ⟨_, rfl⟩
      rw [← eJ] at hpf ⊢
      have fJ : ∀ q, q ≠ o + 8 + (29 + 5 * k) → J q = I' q := fun q hq => by rw [eJ, po_u_ne hq]
      have rJ : J (M + 1) = I (M + 1) := by rw [fJ _ (by omega)]; exact m2 _ (by omega) (by omega)
      obtain ⟨I2, p1, p2, p3, p4, p5⟩ := m4 J (fun q q1 q2 q3 => fJ q (by omega))
      obtain ⟨K, k1, k2, k3⟩ := q_ful46 (I := I2) (M := M) (k := k) (l := l) (by rw [p2]; exact hV) (by rw [p2]; exact hk)
      rw [p2] at k1 k3
      have ym : m_X8_fulfil J M (Int32.ofNat k) l = _ := (y2 J rJ).trans ((if_pos hs).trans (show m_X8_fulfil_28 J M (Int32.ofNat k) l M 0 = some (Int32.ofNat (psum (fun i => ps_cp (pfl (I (M + 1)) (160 + 46 * k) l (ps_cm (I (M + 1)) k)) k i 2) (ps_cm (I (M + 1)) k)), K) by
        unfold m_X8_fulfil_28
        rw [po_hletE, po_uaa, if_pos rfl, p1, Option.bind_some]
        exact k1))
      have nn : ∀ j, (j < 160 + 46 * k + 29 ∨ 160 + 46 * k + 45 ≤ j) → pfl (I (M + 1)) (160 + 46 * k) l (ps_cm (I (M + 1)) k) j = I (M + 1) j := fun j hj => pfl_out (by omega)
      have hV3 : pV (K (M + 1)) := by rw [k3]; exact pV_ful hV hk (Nat.le_refl _)
      have hcm3 : ps_cm (pfl (I (M + 1)) (160 + 46 * k) l (ps_cm (I (M + 1)) k)) k = ps_cm (I (M + 1)) k := pg_vv (pfl_out (by omega))
      refine ⟨_, J, R', _, K, rfl, ym, ⟨by rw [k2 M (by omega)]; exact p3, by rw [hcm3]⟩, p5 K (fun q q1 q2 => k2 q q2) ⟨by rw [k2 M (by omega)], by rw [k2 M (by omega)], by rw [k2 M (by omega)], by rw [k2 M (by omega)]⟩ ⟨hV3, by rw [k3]; exact (pB_cond hV hB hk nn).up, ?_⟩⟩
      rw [k3]
      have hTJ : pTR J (o + 8) (pfl (I (M + 1)) (160 + 46 * k) l (ps_cm (I (M + 1)) k)) := pTR_per hV hT1 hk (fun j hj => nn j (by omega)) (fun q q1 q2 q3 => fJ q (by omega)) hpf
      exact hTJ.mv (by rw [← k3]; exact hV3) (fun q q1 q2 => by rw [k2 q (by omega)]; exact p4 q (by omega))
    · have hs0 : pany (ps_ho (I (M + 1)) k 1 l) (ps_cm (I (M + 1)) k) = false := by simpa using hs
      rw [if_pos ((pS_zero h6).mpr hs0)]
      have ym := y2 I rfl
      rw [if_neg hs, y1 I 2 (by decide)] at ym
      exact ⟨_, I, R, _, _, rfl, ym, Or.inr ⟨rfl, po_uaa _ _ _ _⟩, (pScr_u.inv h).up⟩
  · rw [if_neg ha]
    have ym : m_X8_fulfil I M a l = some (0, po_u I M 0 1) := by
      unfold m_X8_fulfil m_X8_fulfil_e
      rw [q_isPermit hV, show plt a (pv (I (M + 1)) 2) = false by simpa using ha, Option.bind_some, if_pos pb_f, y1 I 1 (by decide)]
    exact ⟨_, I, R, _, _, rfl, ym, Or.inl ⟨rfl, po_uaa _ _ _ _⟩, (pScr_u.inv h).up⟩
end QC7
