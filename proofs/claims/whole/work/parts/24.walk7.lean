set_option maxRecDepth 20000 in
set_option maxHeartbeats 2000000 in
theorem w_X2_openSetWithLetter_34 {X : po_X} {G : po_G} {st : Nat → Nat} {K : po_K} {I : po_I} {R : po_R} {ρ : Int32} {r4 : Nat → Int32 → Int32 → Int32 → Option (Int32)} (hF : po_F X G cX2_openSetWithLetter RX2 4 st) (hL : po_L X (some .int) 1 0 0 "openSetWithLetter") (HL : po_Lay K R st) (h4 : ∀ (l0 : Nat) (l1 : Int32) (l2 : Int32) (l3 : Int32), r4 l0 l1 l2 l3 = some ρ → K l0 = (13, 19) → po_V X G 4 (po_Q X G (.inl (some (.int ρ))) K R I none 0 0) 0 0 4 [(0, .ref l0), (1, .int l1), (2, .int l2), (3, .int l3)] [] K R I none) (l0 : Nat) (l1 : Int32) (l2 : Int32) (l3 : Int32) (kl0 : K l0 = (13, 19)) (hm : m_X2_openSetWithLetter_34 I r4 l0 l1 l2 l3 = some ρ) : po_V X G 4 (po_Q X G (.inl (some (.int ρ))) K R I none 0 0) 0 0 34 [(0, .ref l0), (1, .int l1), (2, .int l2), (3, .int l3)] [] K R I none := by
  unfold m_X2_openSetWithLetter_34 at hm
  refine po_iinc (v := l3 + 1) (L' := [(3, .int (l3 + 1)), (0, .ref l0), (1, .int l1), (2, .int l2)]) hF dX2_openSetWithLetter_34 rfl rfl (by decide) rfl ?_
  refine po_goto (tgt := 4) hF dX2_openSetWithLetter_37 (by decide) ?_
  refine po_sub (L' := [(0, .ref l0), (1, .int l1), (2, .int l2), (3, .int (l3 + 1))]) rfl ?_
  exact h4 l0 l1 l2 (l3 + 1) hm kl0
set_option maxRecDepth 20000 in
set_option maxHeartbeats 2000000 in
theorem w_X2_openSetWithLetter_4 {X : po_X} {G : po_G} {st : Nat → Nat} {K : po_K} {I : po_I} {R : po_R} {ρ : Int32} {r4 : Nat → Int32 → Int32 → Int32 → Option (Int32)} (hF : po_F X G cX2_openSetWithLetter RX2 4 st) (hL : po_L X (some .int) 1 0 0 "openSetWithLetter") (HL : po_Lay K R st) (h4 : ∀ (l0 : Nat) (l1 : Int32) (l2 : Int32) (l3 : Int32), r4 l0 l1 l2 l3 = some ρ → K l0 = (13, 19) → po_V X G 4 (po_Q X G (.inl (some (.int ρ))) K R I none 0 0) 0 0 4 [(0, .ref l0), (1, .int l1), (2, .int l2), (3, .int l3)] [] K R I none) (l0 : Nat) (l1 : Int32) (l2 : Int32) (l3 : Int32) (kl0 : K l0 = (13, 19)) (hm : m_X2_openSetWithLetter_4 I r4 l0 l1 l2 l3 = some ρ) : po_V X G 4 (po_Q X G (.inl (some (.int ρ))) K R I none 0 0) 0 0 4 [(0, .ref l0), (1, .int l1), (2, .int l2), (3, .int l3)] [] K R I none := by
  unfold m_X2_openSetWithLetter_4 at hm
  refine po_iload_n hF dX2_openSetWithLetter_4 rfl rfl ?_
  refine po_bipush (v := 6) hF dX2_openSetWithLetter_5 (by decide) ?_
  refine po_icmp_ge (tgt := 40) hF dX2_openSetWithLetter_7 (by decide) hm (fun hm => ?_) (fun hm => ?_)
  · refine po_iload_n hF dX2_openSetWithLetter_40 rfl rfl ?_
    cases hm
    exact po_iret hF hL dX2_openSetWithLetter_41 (by decide) (by decide) rfl rfl rfl (Or.inl rfl)
  · refine po_aload_n hF dX2_openSetWithLetter_10 rfl rfl ?_
    refine po_iload_n hF dX2_openSetWithLetter_11 rfl rfl ?_
    obtain ⟨x1, hx1, hm⟩ := po_bind hm
    refine po_callV (As := [.int l3]) hF dX2_openSetWithLetter_12 wq_1099 mv_X2_isOpen ws_X2_isOpen (show po_cl[2]? = some _ from rfl) rfl kl0 (c_X2_isOpen HL kl0 hx1) rfl (po_rtL hL rfl) (Nat.le_of_ble_eq_true rfl) rfl ?_
    refine po_if_eq (tgt := 34) hF dX2_openSetWithLetter_15 (by decide) hm (fun hm => ?_) (fun hm => ?_)
    · exact w_X2_openSetWithLetter_34 hF hL HL h4 l0 l1 l2 l3 kl0 hm
    · refine po_aload_n hF dX2_openSetWithLetter_18 rfl rfl ?_
      refine po_getf (v := .ref (l0 + 4)) hF dX2_openSetWithLetter_19 fl_X2_22 kl0 (ly_2_18 HL kl0).1 ?_
      refine po_iload_n hF dX2_openSetWithLetter_22 rfl rfl ?_
      refine po_iald hF dX2_openSetWithLetter_23 ((ly_2_18 HL kl0).2) (Or.inl rfl) hm (fun hm => ?_)
      refine po_iload_n hF dX2_openSetWithLetter_24 rfl rfl ?_
      refine po_icmp_ne (tgt := 34) hF dX2_openSetWithLetter_25 (by decide) hm (fun hm => ?_) (fun hm => ?_)
      · exact w_X2_openSetWithLetter_34 hF hL HL h4 l0 l1 l2 l3 kl0 hm
      · refine po_iload_n hF dX2_openSetWithLetter_28 rfl rfl ?_
        refine po_iconst (v := 1) hF dX2_openSetWithLetter_29 (by decide) ?_
        refine po_iload_n hF dX2_openSetWithLetter_30 rfl rfl ?_
        refine po_ishl hF dX2_openSetWithLetter_31 ?_
        refine po_ior hF dX2_openSetWithLetter_32 ?_
        refine po_top hm (fun v2 hm => ?_)
        refine po_istore_n (L' := [(2, .int v2), (0, .ref l0), (1, .int l1), (3, .int l3)]) hF dX2_openSetWithLetter_33 rfl (by decide) rfl ?_
        refine po_sub (L' := [(0, .ref l0), (1, .int l1), (2, .int v2), (3, .int l3)]) rfl ?_
        exact w_X2_openSetWithLetter_34 hF hL HL h4 l0 l1 v2 l3 kl0 hm
theorem w_X2_openSetWithLetter_4L {X : po_X} {G : po_G} {st : Nat → Nat} {K : po_K} {I : po_I} {R : po_R} {ρ : Int32} (hF : po_F X G cX2_openSetWithLetter RX2 4 st) (hL : po_L X (some .int) 1 0 0 "openSetWithLetter") (HL : po_Lay K R st) : ∀ (n : Nat) (l0 : Nat) (l1 : Int32) (l2 : Int32) (l3 : Int32), m_X2_openSetWithLetter_4L I n l0 l1 l2 l3 = some ρ → K l0 = (13, 19) → po_V X G 4 (po_Q X G (.inl (some (.int ρ))) K R I none 0 0) 0 0 4 [(0, .ref l0), (1, .int l1), (2, .int l2), (3, .int l3)] [] K R I none := by
  intro n
  induction n with
  | zero => intro l0 l1 l2 l3 hm; cases hm
  | succ n ih => intro l0 l1 l2 l3 hm kl0; exact w_X2_openSetWithLetter_4 hF hL HL (ih) l0 l1 l2 l3 kl0 hm
set_option maxRecDepth 20000 in
set_option maxHeartbeats 2000000 in
theorem w_X2_openSetWithLetter_e {X : po_X} {G : po_G} {st : Nat → Nat} {K : po_K} {I : po_I} {R : po_R} {ρ : Int32} (hF : po_F X G cX2_openSetWithLetter RX2 4 st) (hL : po_L X (some .int) 1 0 0 "openSetWithLetter") (HL : po_Lay K R st) (l0 : Nat) (l1 : Int32) (kl0 : K l0 = (13, 19)) (hm : m_X2_openSetWithLetter_e I l0 l1 = some ρ) : po_V X G 4 (po_Q X G (.inl (some (.int ρ))) K R I none 0 0) 0 0 0 [(0, .ref l0), (1, .int l1)] [] K R I none := by
  unfold m_X2_openSetWithLetter_e at hm
  refine po_iconst (v := 0) hF dX2_openSetWithLetter_0 (by decide) ?_
  refine po_istore_n (L' := [(2, .int 0), (0, .ref l0), (1, .int l1)]) hF dX2_openSetWithLetter_1 rfl (by decide) rfl ?_
  refine po_iconst (v := 0) hF dX2_openSetWithLetter_2 (by decide) ?_
  refine po_istore_n (L' := [(3, .int 0), (2, .int 0), (0, .ref l0), (1, .int l1)]) hF dX2_openSetWithLetter_3 rfl (by decide) rfl ?_
  refine po_sub (L' := [(0, .ref l0), (1, .int l1), (2, .int 0), (3, .int 0)]) rfl ?_
  exact w_X2_openSetWithLetter_4L hF hL HL 5000 l0 l1 0 0 hm kl0
theorem c_X2_openSetWithLetter {K : po_K} {R : po_R} {I : po_I} {st : Nat → Nat} {ρ : Int32} (HL : po_Lay K R st) {l0 : Nat} {l1 : Int32} (kl0 : K l0 = (13, 19)) (hm : m_X2_openSetWithLetter I l0 l1 = some ρ) : po_C st yX2_openSetWithLetter cX2_openSetWithLetter 4 (some .int) 1 0 0 [.ref l0, .int l1] K R I none (.inl (some (.int ρ))) K R I none := by
  refine po_ofC (by decide +kernel) (Nat.le_of_ble_eq_true rfl) (fun X G hF hL => ?_)
  exact w_X2_openSetWithLetter_e hF hL HL l0 l1 kl0 hm
set_option maxRecDepth 20000 in
set_option maxHeartbeats 2000000 in
theorem w_X7_fulfil_e {X : po_X} {G : po_G} {st : Nat → Nat} {K : po_K} {ρ : (Int32 ⊕ String) × po_I × po_R} (hF : po_F X G cX7_fulfil RX7 5 st) (hL : po_L X (some .int) 7 2 12 "fulfil") (I : po_I) (R : po_R) (l0 : Nat) (l1 : Int32) (l2 : Int32) (HL : po_Lay K R st) (kl0 : K l0 = (18, 8)) (hm : m_X7_fulfil_e I R l0 l1 l2 = some ρ) : po_V X G 5 (po_Q X G (po_oi (ρ.1)) K (ρ.2.2) (ρ.2.1) none 2 12) 0 0 0 [(0, .ref l0), (1, .int l1), (2, .int l2)] [] K R I none := by
  unfold m_X7_fulfil_e at hm
  refine po_aload_n hF dX7_fulfil_0 rfl rfl ?_
  refine po_iload_n hF dX7_fulfil_1 rfl rfl ?_
  obtain ⟨x1, hx1, hm⟩ := po_bind hm
  cases x1 with
  | inr y2 =>
    cases hm
    exact po_callVx (As := [.int l1]) hF hL dX7_fulfil_2 wq_859 mv_X7_permitOrThrow ws_X7_permitOrThrow (show po_cl[7]? = some _ from rfl) rfl kl0 (c_X7_permitOrThrow HL kl0 hx1) rfl (po_rtL hL rfl) (Nat.le_of_ble_eq_true rfl) rfl
  | inl y2 =>
    dsimp only [Sum.elim_inl] at hm
    refine po_callV (As := [.int l1]) hF dX7_fulfil_2 wq_859 mv_X7_permitOrThrow ws_X7_permitOrThrow (show po_cl[7]? = some _ from rfl) rfl kl0 (c_X7_permitOrThrow HL kl0 hx1) rfl (po_rtL hL rfl) (Nat.le_of_ble_eq_true rfl) rfl ?_
    refine po_astore_n (L' := [(3, .ref y2), (0, .ref l0), (1, .int l1), (2, .int l2)]) hF dX7_fulfil_5 rfl (by decide) rfl ?_
    refine po_aload_n hF dX7_fulfil_6 rfl rfl ?_
    refine po_iload_n hF dX7_fulfil_7 rfl rfl ?_
    obtain ⟨x3, hx3, hm⟩ := po_bind hm
    refine po_callV (As := [.int l2]) hF dX7_fulfil_8 wq_1095 mv_X2_openSetWithLetter ws_X2_openSetWithLetter (show po_cl[2]? = some _ from rfl) rfl (kr_X7_permitOrThrow HL kl0 hx1) (c_X2_openSetWithLetter HL (kr_X7_permitOrThrow HL kl0 hx1) hx3) rfl (po_rtL hL rfl) (Nat.le_of_ble_eq_true rfl) rfl ?_
    refine po_istore (L' := [(4, .int x3), (3, .ref y2), (0, .ref l0), (1, .int l1), (2, .int l2)]) hF dX7_fulfil_11 (by decide) rfl ?_
    refine po_iload hF dX7_fulfil_13 rfl ?_
    refine po_if_ne (tgt := 29) hF dX7_fulfil_15 (by decide) hm (fun hm => ?_) (fun hm => ?_)
    · refine po_aload_n hF dX7_fulfil_29 rfl rfl ?_
      obtain ⟨x4, hx4, hm⟩ := po_bind hm
      refine po_callV (As := []) hF dX7_fulfil_30 wq_665 mv_X7_remember ws_X7_remember (show po_cl[7]? = some _ from rfl) rfl kl0 (c_X7_remember HL kl0 hx4) rfl (po_rtL hL rfl) (Nat.le_of_ble_eq_true rfl) rfl ?_
      refine po_aload_n hF dX7_fulfil_33 rfl rfl ?_
      refine po_dup hF dX7_fulfil_34 rfl ?_
      refine po_getf (v := .int ((x4.1) y2 16)) hF dX7_fulfil_35 fl_X7_325 (kr_X7_permitOrThrow HL kl0 hx1) rfl ?_
      refine po_iload hF dX7_fulfil_38 rfl ?_
      refine po_iconst (v := (-1)) hF dX7_fulfil_40 (by decide) ?_
      refine po_ixor hF dX7_fulfil_41 ?_
      refine po_iand hF dX7_fulfil_42 ?_
      refine po_puti hF dX7_fulfil_43 fl_X7_325 (kr_X7_permitOrThrow HL kl0 hx1) (by intro r h; cases h; rfl) rfl rfl (fun _ => rfl) rfl ?_
      refine po_hname hm (fun I5 hm => ?_)
      refine po_aload_n hF dX7_fulfil_46 rfl rfl ?_
      obtain ⟨x6, hx6, hm⟩ := po_bind hm
      refine po_callV (As := []) hF dX7_fulfil_47 wq_865 mv_X2_openConditions ws_X2_openConditions (show po_cl[2]? = some _ from rfl) rfl (kr_X7_permitOrThrow HL kl0 hx1) (c_X2_openConditions (lr_X7_remember HL kl0 hx4) (kr_X7_permitOrThrow HL kl0 hx1) hx6) rfl (po_rtL hL rfl) (Nat.le_of_ble_eq_true rfl) rfl ?_
      cases hm
      exact po_iret hF hL dX7_fulfil_50 (by decide) (by decide) rfl rfl rfl (Or.inl rfl)
    · cases hm
      exact po_throwXW hF hL tw_X7_323_236 dX7_fulfil_18 dX7_fulfil_21 dX7_fulfil_22 dX7_fulfil_25 dX7_fulfil_28 (by decide) (Nat.le_of_ble_eq_true rfl) (by decide) (by decide) rfl rfl rfl
theorem c_X7_fulfil {K : po_K} {R : po_R} {I : po_I} {st : Nat → Nat} {ρ : (Int32 ⊕ String) × po_I × po_R} (HL : po_Lay K R st) {l0 : Nat} {l1 : Int32} {l2 : Int32} (kl0 : K l0 = (18, 8)) (hm : m_X7_fulfil I R l0 l1 l2 = some ρ) : po_C st yX7_fulfil cX7_fulfil 5 (some .int) 7 2 12 [.ref l0, .int l1, .int l2] K R I none (po_oi (ρ.1)) K (ρ.2.2) (ρ.2.1) none := by
  refine po_ofC (by decide +kernel) (Nat.le_of_ble_eq_true rfl) (fun X G hF hL => ?_)
  exact w_X7_fulfil_e hF hL I R l0 l1 l2 HL kl0 hm
set_option maxRecDepth 20000 in
set_option maxHeartbeats 2000000 in
theorem w_X2_hasOpenInPhase_31 {X : po_X} {G : po_G} {st : Nat → Nat} {K : po_K} {I : po_I} {R : po_R} {ρ : Int32} {r2 : Nat → Int32 → Option (Int32)} (hF : po_F X G cX2_hasOpenInPhase RX2 2 st) (hL : po_L X (some .boolean) 1 0 0 "hasOpenInPhase") (HL : po_Lay K R st) (h2 : ∀ (l0 : Nat) (l1 : Int32), r2 l0 l1 = some ρ → K l0 = (13, 19) → po_V X G 2 (po_Q X G (.inl (some (.int ρ))) K R I none 0 0) 0 0 2 [(0, .ref l0), (1, .int l1)] [] K R I none) (l0 : Nat) (l1 : Int32) (kl0 : K l0 = (13, 19)) (hm : m_X2_hasOpenInPhase_31 I r2 l0 l1 = some ρ) : po_V X G 2 (po_Q X G (.inl (some (.int ρ))) K R I none 0 0) 0 0 31 [(0, .ref l0), (1, .int l1)] [] K R I none := by
  unfold m_X2_hasOpenInPhase_31 at hm
  refine po_iinc (v := l1 + 1) (L' := [(1, .int (l1 + 1)), (0, .ref l0)]) hF dX2_hasOpenInPhase_31 rfl rfl (by decide) rfl ?_
  refine po_goto (tgt := 2) hF dX2_hasOpenInPhase_34 (by decide) ?_
  refine po_sub (L' := [(0, .ref l0), (1, .int (l1 + 1))]) rfl ?_
  exact h2 l0 (l1 + 1) hm kl0
set_option maxRecDepth 20000 in
set_option maxHeartbeats 2000000 in
theorem w_X2_hasOpenInPhase_2 {X : po_X} {G : po_G} {st : Nat → Nat} {K : po_K} {I : po_I} {R : po_R} {ρ : Int32} {r2 : Nat → Int32 → Option (Int32)} (hF : po_F X G cX2_hasOpenInPhase RX2 2 st) (hL : po_L X (some .boolean) 1 0 0 "hasOpenInPhase") (HL : po_Lay K R st) (h2 : ∀ (l0 : Nat) (l1 : Int32), r2 l0 l1 = some ρ → K l0 = (13, 19) → po_V X G 2 (po_Q X G (.inl (some (.int ρ))) K R I none 0 0) 0 0 2 [(0, .ref l0), (1, .int l1)] [] K R I none) (l0 : Nat) (l1 : Int32) (kl0 : K l0 = (13, 19)) (hm : m_X2_hasOpenInPhase_2 I r2 l0 l1 = some ρ) : po_V X G 2 (po_Q X G (.inl (some (.int ρ))) K R I none 0 0) 0 0 2 [(0, .ref l0), (1, .int l1)] [] K R I none := by
  unfold m_X2_hasOpenInPhase_2 at hm
  refine po_iload_n hF dX2_hasOpenInPhase_2 rfl rfl ?_
  refine po_bipush (v := 6) hF dX2_hasOpenInPhase_3 (by decide) ?_
  refine po_icmp_ge (tgt := 37) hF dX2_hasOpenInPhase_5 (by decide) hm (fun hm => ?_) (fun hm => ?_)
  · refine po_iconst (v := 0) hF dX2_hasOpenInPhase_37 (by decide) ?_
    cases hm
    exact po_zret hF hL dX2_hasOpenInPhase_38 (by decide) (by decide) (by decide) rfl rfl rfl (Or.inl rfl)
  · refine po_aload_n hF dX2_hasOpenInPhase_8 rfl rfl ?_
    refine po_iload_n hF dX2_hasOpenInPhase_9 rfl rfl ?_
    obtain ⟨x1, hx1, hm⟩ := po_bind hm
    refine po_callV (As := [.int l1]) hF dX2_hasOpenInPhase_10 wq_1099 mv_X2_isOpen ws_X2_isOpen (show po_cl[2]? = some _ from rfl) rfl kl0 (c_X2_isOpen HL kl0 hx1) rfl (po_rtL hL rfl) (Nat.le_of_ble_eq_true rfl) rfl ?_
    refine po_if_eq (tgt := 31) hF dX2_hasOpenInPhase_13 (by decide) hm (fun hm => ?_) (fun hm => ?_)
    · exact w_X2_hasOpenInPhase_31 hF hL HL h2 l0 l1 kl0 hm
    · refine po_aload_n hF dX2_hasOpenInPhase_16 rfl rfl ?_
      refine po_getf (v := .ref (l0 + 3)) hF dX2_hasOpenInPhase_17 fl_X2_18 kl0 (ly_2_17 HL kl0).1 ?_
      refine po_iload_n hF dX2_hasOpenInPhase_20 rfl rfl ?_
      refine po_iald hF dX2_hasOpenInPhase_21 ((ly_2_17 HL kl0).2) (Or.inl rfl) hm (fun hm => ?_)
      refine po_aload_n hF dX2_hasOpenInPhase_22 rfl rfl ?_
      refine po_getf (v := .int (I l0 8)) hF dX2_hasOpenInPhase_23 fl_X2_50 kl0 rfl ?_
      refine po_icmp_ne (tgt := 31) hF dX2_hasOpenInPhase_26 (by decide) hm (fun hm => ?_) (fun hm => ?_)
      · exact w_X2_hasOpenInPhase_31 hF hL HL h2 l0 l1 kl0 hm
      · refine po_iconst (v := 1) hF dX2_hasOpenInPhase_29 (by decide) ?_
        cases hm
        exact po_zret hF hL dX2_hasOpenInPhase_30 (by decide) (by decide) (by decide) rfl rfl rfl (Or.inl rfl)
theorem w_X2_hasOpenInPhase_2L {X : po_X} {G : po_G} {st : Nat → Nat} {K : po_K} {I : po_I} {R : po_R} {ρ : Int32} (hF : po_F X G cX2_hasOpenInPhase RX2 2 st) (hL : po_L X (some .boolean) 1 0 0 "hasOpenInPhase") (HL : po_Lay K R st) : ∀ (n : Nat) (l0 : Nat) (l1 : Int32), m_X2_hasOpenInPhase_2L I n l0 l1 = some ρ → K l0 = (13, 19) → po_V X G 2 (po_Q X G (.inl (some (.int ρ))) K R I none 0 0) 0 0 2 [(0, .ref l0), (1, .int l1)] [] K R I none := by
  intro n
  induction n with
  | zero => intro l0 l1 hm; cases hm
  | succ n ih => intro l0 l1 hm kl0; exact w_X2_hasOpenInPhase_2 hF hL HL (ih) l0 l1 kl0 hm
set_option maxRecDepth 20000 in
set_option maxHeartbeats 2000000 in
theorem w_X2_hasOpenInPhase_e {X : po_X} {G : po_G} {st : Nat → Nat} {K : po_K} {I : po_I} {R : po_R} {ρ : Int32} (hF : po_F X G cX2_hasOpenInPhase RX2 2 st) (hL : po_L X (some .boolean) 1 0 0 "hasOpenInPhase") (HL : po_Lay K R st) (l0 : Nat) (kl0 : K l0 = (13, 19)) (hm : m_X2_hasOpenInPhase_e I l0 = some ρ) : po_V X G 2 (po_Q X G (.inl (some (.int ρ))) K R I none 0 0) 0 0 0 [(0, .ref l0)] [] K R I none := by
  unfold m_X2_hasOpenInPhase_e at hm
  refine po_iconst (v := 0) hF dX2_hasOpenInPhase_0 (by decide) ?_
  refine po_istore_n (L' := [(1, .int 0), (0, .ref l0)]) hF dX2_hasOpenInPhase_1 rfl (by decide) rfl ?_
  refine po_sub (L' := [(0, .ref l0), (1, .int 0)]) rfl ?_
  exact w_X2_hasOpenInPhase_2L hF hL HL 5000 l0 0 hm kl0
theorem c_X2_hasOpenInPhase {K : po_K} {R : po_R} {I : po_I} {st : Nat → Nat} {ρ : Int32} (HL : po_Lay K R st) {l0 : Nat} (kl0 : K l0 = (13, 19)) (hm : m_X2_hasOpenInPhase I l0 = some ρ) : po_C st yX2_hasOpenInPhase cX2_hasOpenInPhase 2 (some .boolean) 1 0 0 [.ref l0] K R I none (.inl (some (.int ρ))) K R I none := by
  refine po_ofC (by decide +kernel) (Nat.le_of_ble_eq_true rfl) (fun X G hF hL => ?_)
  exact w_X2_hasOpenInPhase_e hF hL HL l0 kl0 hm
set_option maxRecDepth 20000 in
set_option maxHeartbeats 2000000 in
theorem w_X2_passPhase_36 {X : po_X} {G : po_G} {st : Nat → Nat} {K : po_K} {R : po_R} {ρ : po_I} (hF : po_F X G cX2_passPhase RX2 2 st) (hL : po_L X none 0 0 0 "passPhase") (HL : po_Lay K R st) (I : po_I) (hm : m_X2_passPhase_36 I = some ρ) : po_V X G 2 (po_Q X G (.inl (none)) K R (ρ) none 0 0) 0 0 36 [] [] K R I none := by
  unfold m_X2_passPhase_36 at hm
  cases hm
  exact po_vret hF hL dX2_passPhase_36 (by decide) (by decide) rfl rfl rfl (Or.inl rfl)
set_option maxRecDepth 20000 in
set_option maxHeartbeats 2000000 in
theorem w_X2_passPhase_e {X : po_X} {G : po_G} {st : Nat → Nat} {K : po_K} {R : po_R} {ρ : po_I} (hF : po_F X G cX2_passPhase RX2 2 st) (hL : po_L X none 0 0 0 "passPhase") (HL : po_Lay K R st) (I : po_I) (l0 : Nat) (l1 : Int32) (kl0 : K l0 = (13, 19)) (hm : m_X2_passPhase_e I l0 l1 = some ρ) : po_V X G 2 (po_Q X G (.inl (none)) K R (ρ) none 0 0) 0 0 0 [(0, .ref l0), (1, .int l1)] [] K R I none := by
  unfold m_X2_passPhase_e at hm
  refine po_aload_n hF dX2_passPhase_0 rfl rfl ?_
  refine po_dup hF dX2_passPhase_1 rfl ?_
  refine po_getf (v := .int (I l0 8)) hF dX2_passPhase_2 fl_X2_50 kl0 rfl ?_
  refine po_iconst (v := 1) hF dX2_passPhase_5 (by decide) ?_
  refine po_iadd hF dX2_passPhase_6 ?_
  refine po_puti hF dX2_passPhase_7 fl_X2_50 kl0 (by intro r h; cases h; rfl) rfl rfl (fun _ => rfl) rfl ?_
  refine po_hname hm (fun I1 hm => ?_)
  refine po_aload_n hF dX2_passPhase_10 rfl rfl ?_
  refine po_iconst (v := 0) hF dX2_passPhase_11 (by decide) ?_
  refine po_puti hF dX2_passPhase_12 fl_X2_53 kl0 (by intro r h; cases h; rfl) rfl rfl (fun _ => rfl) rfl ?_
  refine po_hname hm (fun I2 hm => ?_)
  refine po_aload_n hF dX2_passPhase_15 rfl rfl ?_
  refine po_iload_n hF dX2_passPhase_16 rfl rfl ?_
  refine po_bipush (v := 30) hF dX2_passPhase_17 (by decide) ?_
  refine po_iadd hF dX2_passPhase_19 ?_
  refine po_puti hF dX2_passPhase_20 fl_X2_56 kl0 (by intro r h; cases h; rfl) rfl rfl (fun _ => rfl) rfl ?_
  refine po_hname hm (fun I3 hm => ?_)
  refine po_aload_n hF dX2_passPhase_23 rfl rfl ?_
  refine po_getf (v := .int (I3 l0 8)) hF dX2_passPhase_24 fl_X2_50 kl0 rfl ?_
  refine po_iconst (v := 4) hF dX2_passPhase_27 (by decide) ?_
  refine po_icmp_lt (tgt := 36) hF dX2_passPhase_28 (by decide) hm (fun hm => ?_) (fun hm => ?_)
  · refine po_sub (L' := []) rfl ?_
    exact w_X2_passPhase_36 hF hL HL I3 hm
  · refine po_aload_n hF dX2_passPhase_31 rfl rfl ?_
    refine po_iconst (v := 3) hF dX2_passPhase_32 (by decide) ?_
    refine po_puti hF dX2_passPhase_33 fl_X2_44 kl0 (by intro r h; cases h; rfl) rfl rfl (fun _ => rfl) rfl ?_
    refine po_hname hm (fun I4 hm => ?_)
    refine po_sub (L' := []) rfl ?_
    exact w_X2_passPhase_36 hF hL HL I4 hm
theorem c_X2_passPhase {K : po_K} {R : po_R} {I : po_I} {st : Nat → Nat} {ρ : po_I} (HL : po_Lay K R st) {l0 : Nat} {l1 : Int32} (kl0 : K l0 = (13, 19)) (hm : m_X2_passPhase I l0 l1 = some ρ) : po_C st yX2_passPhase cX2_passPhase 2 none 0 0 0 [.ref l0, .int l1] K R I none (.inl (none)) K R (ρ) none := by
  refine po_ofC (by decide +kernel) (Nat.le_of_ble_eq_true rfl) (fun X G hF hL => ?_)
  exact w_X2_passPhase_e hF hL HL I l0 l1 kl0 hm
set_option maxRecDepth 20000 in
set_option maxHeartbeats 2000000 in
theorem w_X2_failPhase_24 {X : po_X} {G : po_G} {st : Nat → Nat} {K : po_K} {R : po_R} {ρ : po_I} (hF : po_F X G cX2_failPhase RX2 1 st) (hL : po_L X none 0 0 0 "failPhase") (HL : po_Lay K R st) (I : po_I) (hm : m_X2_failPhase_24 I = some ρ) : po_V X G 1 (po_Q X G (.inl (none)) K R (ρ) none 0 0) 0 0 24 [] [] K R I none := by
  unfold m_X2_failPhase_24 at hm
  cases hm
  exact po_vret hF hL dX2_failPhase_24 (by decide) (by decide) rfl rfl rfl (Or.inl rfl)
set_option maxRecDepth 20000 in
set_option maxHeartbeats 2000000 in
theorem w_X2_failPhase_e {X : po_X} {G : po_G} {st : Nat → Nat} {K : po_K} {R : po_R} {ρ : po_I} (hF : po_F X G cX2_failPhase RX2 1 st) (hL : po_L X none 0 0 0 "failPhase") (HL : po_Lay K R st) (I : po_I) (l0 : Nat) (kl0 : K l0 = (13, 19)) (hm : m_X2_failPhase_e I l0 = some ρ) : po_V X G 1 (po_Q X G (.inl (none)) K R (ρ) none 0 0) 0 0 0 [(0, .ref l0)] [] K R I none := by
  unfold m_X2_failPhase_e at hm
  refine po_aload_n hF dX2_failPhase_0 rfl rfl ?_
  refine po_dup hF dX2_failPhase_1 rfl ?_
  refine po_getf (v := .int (I l0 9)) hF dX2_failPhase_2 fl_X2_53 kl0 rfl ?_
  refine po_iconst (v := 1) hF dX2_failPhase_5 (by decide) ?_
  refine po_iadd hF dX2_failPhase_6 ?_
  refine po_puti hF dX2_failPhase_7 fl_X2_53 kl0 (by intro r h; cases h; rfl) rfl rfl (fun _ => rfl) rfl ?_
  refine po_hname hm (fun I1 hm => ?_)
  refine po_aload_n hF dX2_failPhase_10 rfl rfl ?_
  refine po_getf (v := .int (I1 l0 9)) hF dX2_failPhase_11 fl_X2_53 kl0 rfl ?_
  refine po_iconst (v := 3) hF dX2_failPhase_14 (by decide) ?_
  refine po_icmp_lt (tgt := 24) hF dX2_failPhase_15 (by decide) hm (fun hm => ?_) (fun hm => ?_)
  · refine po_sub (L' := []) rfl ?_
    exact w_X2_failPhase_24 hF hL HL I1 hm
  · refine po_aload_n hF dX2_failPhase_18 rfl rfl ?_
    refine po_bipush (v := 6) hF dX2_failPhase_19 (by decide) ?_
    refine po_puti hF dX2_failPhase_21 fl_X2_44 kl0 (by intro r h; cases h; rfl) rfl rfl (fun _ => rfl) rfl ?_
    refine po_hname hm (fun I2 hm => ?_)
    refine po_sub (L' := []) rfl ?_
    exact w_X2_failPhase_24 hF hL HL I2 hm
theorem c_X2_failPhase {K : po_K} {R : po_R} {I : po_I} {st : Nat → Nat} {ρ : po_I} (HL : po_Lay K R st) {l0 : Nat} (kl0 : K l0 = (13, 19)) (hm : m_X2_failPhase I l0 = some ρ) : po_C st yX2_failPhase cX2_failPhase 1 none 0 0 0 [.ref l0] K R I none (.inl (none)) K R (ρ) none := by
  refine po_ofC (by decide +kernel) (Nat.le_of_ble_eq_true rfl) (fun X G hF hL => ?_)
  exact w_X2_failPhase_e hF hL HL I l0 kl0 hm
set_option maxRecDepth 20000 in
set_option maxHeartbeats 2000000 in
theorem w_X7_inspect_81 {X : po_X} {G : po_G} {st : Nat → Nat} {K : po_K} {ρ : (Int32 ⊕ String) × po_I × po_R} (hF : po_F X G cX7_inspect RX7 4 st) (hL : po_L X (some .boolean) 7 2 12 "inspect") (I : po_I) (R : po_R) (l3 : Int32) (HL : po_Lay K R st) (hm : m_X7_inspect_81 I R l3 = some ρ) : po_V X G 4 (po_Q X G (po_oi (ρ.1)) K (ρ.2.2) (ρ.2.1) none 2 12) 1 6 81 [(3, .int l3)] [] K R I none := by
  unfold m_X7_inspect_81 at hm
  refine po_iload_n hF dX7_inspect_81 rfl rfl ?_
  obtain ⟨hz, hm⟩ := po_zif hm
  cases hm
  exact po_zret hF hL dX7_inspect_82 (po_nz hz) (by decide) (by decide) rfl rfl rfl (Or.inl rfl)
set_option maxRecDepth 20000 in
set_option maxHeartbeats 2000000 in
theorem w_X7_inspect_58 {X : po_X} {G : po_G} {st : Nat → Nat} {K : po_K} {ρ : (Int32 ⊕ String) × po_I × po_R} (hF : po_F X G cX7_inspect RX7 4 st) (hL : po_L X (some .boolean) 7 2 12 "inspect") (I : po_I) (R : po_R) (l0 : Nat) (l2 : Nat) (s0 : Int32) (HL : po_Lay K R st) (kl0 : K l0 = (18, 8)) (kl2 : K l2 = (13, 19)) (hm : m_X7_inspect_58 I R l0 l2 s0 = some ρ) : po_V X G 4 (po_Q X G (po_oi (ρ.1)) K (ρ.2.2) (ρ.2.1) none 2 12) 1 6 58 [(0, .ref l0), (2, .ref l2)] [.int s0] K R I none := by
  unfold m_X7_inspect_58 at hm
  refine po_istore_n (L' := [(3, .int s0), (0, .ref l0), (2, .ref l2)]) hF dX7_inspect_58 rfl (by decide) rfl ?_
  refine po_iload_n hF dX7_inspect_59 rfl rfl ?_
  refine po_if_eq (tgt := 77) hF dX7_inspect_60 (by decide) hm (fun hm => ?_) (fun hm => ?_)
  · refine po_aload_n hF dX7_inspect_77 rfl rfl ?_
    obtain ⟨x1, hx1, hm⟩ := po_bind hm
    refine po_callV (As := []) hF dX7_inspect_78 wq_1117 mv_X2_failPhase ws_X2_failPhase (show po_cl[2]? = some _ from rfl) rfl kl2 (c_X2_failPhase HL kl2 hx1) rfl (po_rtL hL rfl) (Nat.le_of_ble_eq_true rfl) rfl ?_
    refine po_sub (L' := [(3, .int s0)]) rfl ?_
    exact w_X7_inspect_81 hF hL x1 R s0 HL hm
  · refine po_aload_n hF dX7_inspect_63 rfl rfl ?_
    refine po_aload_n hF dX7_inspect_64 rfl rfl ?_
    refine po_getf (v := .ref (l0 + 8)) hF dX7_inspect_65 fl_X7_26 kl0 (ly_7_2 HL kl0).1 ?_
    refine po_getf (v := .int (I (l0 + 8) 0)) hF dX7_inspect_68 fl_X7_239 ((ly_7_2 HL kl0).2) rfl ?_
    obtain ⟨x2, hx2, hm⟩ := po_bind hm
    refine po_callV (As := [.int (I (l0 + 8) 0)]) hF dX7_inspect_71 wq_1113 mv_X2_passPhase ws_X2_passPhase (show po_cl[2]? = some _ from rfl) rfl kl2 (c_X2_passPhase HL kl2 hx2) rfl (po_rtL hL rfl) (Nat.le_of_ble_eq_true rfl) rfl ?_
    refine po_goto (tgt := 81) hF dX7_inspect_74 (by decide) ?_
    refine po_sub (L' := [(3, .int s0)]) rfl ?_
    exact w_X7_inspect_81 hF hL x2 R s0 HL hm
set_option maxRecDepth 20000 in
set_option maxHeartbeats 2000000 in
theorem w_X7_inspect_46 {X : po_X} {G : po_G} {st : Nat → Nat} {K : po_K} {ρ : (Int32 ⊕ String) × po_I × po_R} (hF : po_F X G cX7_inspect RX7 4 st) (hL : po_L X (some .boolean) 7 2 12 "inspect") (I : po_I) (R : po_R) (l0 : Nat) (l2 : Nat) (HL : po_Lay K R st) (kl0 : K l0 = (18, 8)) (kl2 : K l2 = (13, 19)) (hm : m_X7_inspect_46 I R l0 l2 = some ρ) : po_V X G 4 (po_Q X G (po_oi (ρ.1)) K (ρ.2.2) (ρ.2.1) none 2 12) 1 6 46 [(0, .ref l0), (2, .ref l2)] [] K R I none := by
  unfold m_X7_inspect_46 at hm
  refine po_aload_n hF dX7_inspect_46 rfl rfl ?_
  obtain ⟨x3, hx3, hm⟩ := po_bind hm
  refine po_callV (As := []) hF dX7_inspect_47 wq_1109 mv_X2_hasOpenInPhase ws_X2_hasOpenInPhase (show po_cl[2]? = some _ from rfl) rfl kl2 (c_X2_hasOpenInPhase HL kl2 hx3) rfl (po_rtL hL rfl) (Nat.le_of_ble_eq_true rfl) rfl ?_
  refine po_if_ne (tgt := 57) hF dX7_inspect_50 (by decide) hm (fun hm => ?_) (fun hm => ?_)
  · refine po_iconst (v := 0) hF dX7_inspect_57 (by decide) ?_
    exact w_X7_inspect_58 hF hL I R l0 l2 0 HL kl0 kl2 hm
  · refine po_iconst (v := 1) hF dX7_inspect_53 (by decide) ?_
    refine po_goto (tgt := 58) hF dX7_inspect_54 (by decide) ?_
    exact w_X7_inspect_58 hF hL I R l0 l2 1 HL kl0 kl2 hm
set_option maxRecDepth 20000 in
set_option maxHeartbeats 2000000 in
theorem w_X7_inspect_e {X : po_X} {G : po_G} {st : Nat → Nat} {K : po_K} {ρ : (Int32 ⊕ String) × po_I × po_R} (hF : po_F X G cX7_inspect RX7 4 st) (hL : po_L X (some .boolean) 7 2 12 "inspect") (I : po_I) (R : po_R) (l0 : Nat) (l1 : Int32) (HL : po_Lay K R st) (kl0 : K l0 = (18, 8)) (hm : m_X7_inspect_e I R l0 l1 = some ρ) : po_V X G 4 (po_Q X G (po_oi (ρ.1)) K (ρ.2.2) (ρ.2.1) none 2 12) 0 0 0 [(0, .ref l0), (1, .int l1)] [] K R I none := by
  unfold m_X7_inspect_e at hm
  refine po_aload_n hF dX7_inspect_0 rfl rfl ?_
  refine po_iload_n hF dX7_inspect_1 rfl rfl ?_
  obtain ⟨x4, hx4, hm⟩ := po_bind hm
  cases x4 with
  | inr y5 =>
    cases hm
    exact po_callVx (As := [.int l1]) hF hL dX7_inspect_2 wq_859 mv_X7_permitOrThrow ws_X7_permitOrThrow (show po_cl[7]? = some _ from rfl) rfl kl0 (c_X7_permitOrThrow HL kl0 hx4) rfl (po_rtL hL rfl) (Nat.le_of_ble_eq_true rfl) rfl
  | inl y5 =>
    dsimp only [Sum.elim_inl] at hm
    refine po_callV (As := [.int l1]) hF dX7_inspect_2 wq_859 mv_X7_permitOrThrow ws_X7_permitOrThrow (show po_cl[7]? = some _ from rfl) rfl kl0 (c_X7_permitOrThrow HL kl0 hx4) rfl (po_rtL hL rfl) (Nat.le_of_ble_eq_true rfl) rfl ?_
    refine po_astore_n (L' := [(2, .ref y5), (0, .ref l0), (1, .int l1)]) hF dX7_inspect_5 rfl (by decide) rfl ?_
    refine po_aload_n hF dX7_inspect_6 rfl rfl ?_
    refine po_getf (v := .int (I y5 6)) hF dX7_inspect_7 fl_X7_150 (kr_X7_permitOrThrow HL kl0 hx4) rfl ?_
    refine po_iconst (v := 2) hF dX7_inspect_10 (by decide) ?_
    refine po_icmp_eq (tgt := 25) hF dX7_inspect_11 (by decide) hm (fun hm => ?_) (fun hm => ?_)
    · refine po_aload_n hF dX7_inspect_25 rfl rfl ?_
      obtain ⟨x6, hx6, hm⟩ := po_bind hm
      refine po_callV (As := []) hF dX7_inspect_26 wq_665 mv_X7_remember ws_X7_remember (show po_cl[7]? = some _ from rfl) rfl kl0 (c_X7_remember HL kl0 hx6) rfl (po_rtL hL rfl) (Nat.le_of_ble_eq_true rfl) rfl ?_
      refine po_aload_n hF dX7_inspect_29 rfl rfl ?_
      refine po_getf (v := .int ((x6.1) y5 9)) hF dX7_inspect_30 fl_X7_174 (kr_X7_permitOrThrow HL kl0 hx4) rfl ?_
      refine po_if_le (tgt := 46) hF dX7_inspect_33 (by decide) hm (fun hm => ?_) (fun hm => ?_)
      · refine po_sub (L' := [(0, .ref l0), (2, .ref y5)]) rfl ?_
        exact w_X7_inspect_46 hF hL (x6.1) (x6.2) l0 y5 (lr_X7_remember HL kl0 hx6) kl0 (kr_X7_permitOrThrow HL kl0 hx4) hm
      · refine po_aload_n hF dX7_inspect_36 rfl rfl ?_
        refine po_dup hF dX7_inspect_37 rfl ?_
        refine po_getf (v := .int ((x6.1) y5 13)) hF dX7_inspect_38 fl_X7_330 (kr_X7_permitOrThrow HL kl0 hx4) rfl ?_
        refine po_iconst (v := 5) hF dX7_inspect_41 (by decide) ?_
        refine po_iadd hF dX7_inspect_42 ?_
        refine po_puti hF dX7_inspect_43 fl_X7_330 (kr_X7_permitOrThrow HL kl0 hx4) (by intro r h; cases h; rfl) rfl rfl (fun _ => rfl) rfl ?_
        refine po_hname hm (fun I7 hm => ?_)
        refine po_sub (L' := [(0, .ref l0), (2, .ref y5)]) rfl ?_
        exact w_X7_inspect_46 hF hL I7 (x6.2) l0 y5 (lr_X7_remember HL kl0 hx6) kl0 (kr_X7_permitOrThrow HL kl0 hx4) hm
    · cases hm
      exact po_throwW hF hL tw_X7_328_62 dX7_inspect_14 dX7_inspect_17 dX7_inspect_18 dX7_inspect_21 dX7_inspect_24 (by decide) (Nat.le_of_ble_eq_true rfl) (by decide) (by decide) rfl rfl rfl
theorem c_X7_inspect {K : po_K} {R : po_R} {I : po_I} {st : Nat → Nat} {ρ : (Int32 ⊕ String) × po_I × po_R} (HL : po_Lay K R st) {l0 : Nat} {l1 : Int32} (kl0 : K l0 = (18, 8)) (hm : m_X7_inspect I R l0 l1 = some ρ) : po_C st yX7_inspect cX7_inspect 4 (some .boolean) 7 2 12 [.ref l0, .int l1] K R I none (po_oi (ρ.1)) K (ρ.2.2) (ρ.2.1) none := by
  refine po_ofC (by decide +kernel) (Nat.le_of_ble_eq_true rfl) (fun X G hF hL => ?_)
  exact w_X7_inspect_e hF hL I R l0 l1 HL kl0 hm
set_option maxRecDepth 20000 in
set_option maxHeartbeats 2000000 in
theorem w_X7_reinstate_e {X : po_X} {G : po_G} {st : Nat → Nat} {K : po_K} {ρ : (Int32 ⊕ String) × po_I × po_R} (hF : po_F X G cX7_reinstate RX7 3 st) (hL : po_L X (some .int) 7 2 12 "reinstate") (I : po_I) (R : po_R) (l0 : Nat) (l1 : Int32) (HL : po_Lay K R st) (kl0 : K l0 = (18, 8)) (hm : m_X7_reinstate_e I R l0 l1 = some ρ) : po_V X G 3 (po_Q X G (po_oi (ρ.1)) K (ρ.2.2) (ρ.2.1) none 2 12) 0 0 0 [(0, .ref l0), (1, .int l1)] [] K R I none := by
  unfold m_X7_reinstate_e at hm
  refine po_aload_n hF dX7_reinstate_0 rfl rfl ?_
  refine po_iload_n hF dX7_reinstate_1 rfl rfl ?_
  obtain ⟨x1, hx1, hm⟩ := po_bind hm
  cases x1 with
  | inr y2 =>
    cases hm
    exact po_callVx (As := [.int l1]) hF hL dX7_reinstate_2 wq_859 mv_X7_permitOrThrow ws_X7_permitOrThrow (show po_cl[7]? = some _ from rfl) rfl kl0 (c_X7_permitOrThrow HL kl0 hx1) rfl (po_rtL hL rfl) (Nat.le_of_ble_eq_true rfl) rfl
  | inl y2 =>
    dsimp only [Sum.elim_inl] at hm
    refine po_callV (As := [.int l1]) hF dX7_reinstate_2 wq_859 mv_X7_permitOrThrow ws_X7_permitOrThrow (show po_cl[7]? = some _ from rfl) rfl kl0 (c_X7_permitOrThrow HL kl0 hx1) rfl (po_rtL hL rfl) (Nat.le_of_ble_eq_true rfl) rfl ?_
    refine po_astore_n (L' := [(2, .ref y2), (0, .ref l0), (1, .int l1)]) hF dX7_reinstate_5 rfl (by decide) rfl ?_
    refine po_aload_n hF dX7_reinstate_6 rfl rfl ?_
    refine po_getf (v := .int (I y2 6)) hF dX7_reinstate_7 fl_X7_150 (kr_X7_permitOrThrow HL kl0 hx1) rfl ?_
    refine po_bipush (v := 6) hF dX7_reinstate_10 (by decide) ?_
    refine po_icmp_eq (tgt := 26) hF dX7_reinstate_12 (by decide) hm (fun hm => ?_) (fun hm => ?_)
    · refine po_aload_n hF dX7_reinstate_26 rfl rfl ?_
      obtain ⟨x3, hx3, hm⟩ := po_bind hm
      refine po_callV (As := []) hF dX7_reinstate_27 wq_665 mv_X7_remember ws_X7_remember (show po_cl[7]? = some _ from rfl) rfl kl0 (c_X7_remember HL kl0 hx3) rfl (po_rtL hL rfl) (Nat.le_of_ble_eq_true rfl) rfl ?_
      refine po_aload_n hF dX7_reinstate_30 rfl rfl ?_
      refine po_iconst (v := 2) hF dX7_reinstate_31 (by decide) ?_
      refine po_puti hF dX7_reinstate_32 fl_X7_150 (kr_X7_permitOrThrow HL kl0 hx1) (by intro r h; cases h; rfl) rfl rfl (fun _ => rfl) rfl ?_
      refine po_hname hm (fun I4 hm => ?_)
      refine po_aload_n hF dX7_reinstate_35 rfl rfl ?_
      refine po_iconst (v := 0) hF dX7_reinstate_36 (by decide) ?_
      refine po_puti hF dX7_reinstate_37 fl_X7_174 (kr_X7_permitOrThrow HL kl0 hx1) (by intro r h; cases h; rfl) rfl rfl (fun _ => rfl) rfl ?_
      refine po_hname hm (fun I5 hm => ?_)
      refine po_aload_n hF dX7_reinstate_40 rfl rfl ?_
      refine po_aload_n hF dX7_reinstate_41 rfl rfl ?_
      refine po_getf (v := .ref (l0 + 8)) hF dX7_reinstate_42 fl_X7_26 kl0 (ly_7_2 (lr_X7_remember HL kl0 hx3) kl0).1 ?_
      refine po_getf (v := .int (I5 (l0 + 8) 0)) hF dX7_reinstate_45 fl_X7_239 ((ly_7_2 (lr_X7_remember HL kl0 hx3) kl0).2) rfl ?_
      refine po_bipush (v := 30) hF dX7_reinstate_48 (by decide) ?_
      refine po_iadd hF dX7_reinstate_50 ?_
      refine po_puti hF dX7_reinstate_51 fl_X7_177 (kr_X7_permitOrThrow HL kl0 hx1) (by intro r h; cases h; rfl) rfl rfl (fun _ => rfl) rfl ?_
      refine po_hname hm (fun I6 hm => ?_)
      refine po_aload_n hF dX7_reinstate_54 rfl rfl ?_
      refine po_dup hF dX7_reinstate_55 rfl ?_
      refine po_getf (v := .int (I6 y2 13)) hF dX7_reinstate_56 fl_X7_330 (kr_X7_permitOrThrow HL kl0 hx1) rfl ?_
      refine po_bipush (v := 25) hF dX7_reinstate_59 (by decide) ?_
      refine po_iadd hF dX7_reinstate_61 ?_
      refine po_puti hF dX7_reinstate_62 fl_X7_330 (kr_X7_permitOrThrow HL kl0 hx1) (by intro r h; cases h; rfl) rfl rfl (fun _ => rfl) rfl ?_
      refine po_hname hm (fun I7 hm => ?_)
      refine po_aload_n hF dX7_reinstate_65 rfl rfl ?_
      refine po_getf (v := .int (I7 y2 8)) hF dX7_reinstate_66 fl_X7_171 (kr_X7_permitOrThrow HL kl0 hx1) rfl ?_
      cases hm
      exact po_iret hF hL dX7_reinstate_69 (by decide) (by decide) rfl rfl rfl (Or.inl rfl)
    · cases hm
      exact po_throwW hF hL tw_X7_342_62 dX7_reinstate_15 dX7_reinstate_18 dX7_reinstate_19 dX7_reinstate_22 dX7_reinstate_25 (by decide) (Nat.le_of_ble_eq_true rfl) (by decide) (by decide) rfl rfl rfl
theorem c_X7_reinstate {K : po_K} {R : po_R} {I : po_I} {st : Nat → Nat} {ρ : (Int32 ⊕ String) × po_I × po_R} (HL : po_Lay K R st) {l0 : Nat} {l1 : Int32} (kl0 : K l0 = (18, 8)) (hm : m_X7_reinstate I R l0 l1 = some ρ) : po_C st yX7_reinstate cX7_reinstate 3 (some .int) 7 2 12 [.ref l0, .int l1] K R I none (po_oi (ρ.1)) K (ρ.2.2) (ρ.2.1) none := by
  refine po_ofC (by decide +kernel) (Nat.le_of_ble_eq_true rfl) (fun X G hF hL => ?_)
  exact w_X7_reinstate_e hF hL I R l0 l1 HL kl0 hm
set_option maxRecDepth 20000 in
set_option maxHeartbeats 2000000 in
theorem w_X7_extend_21 {X : po_X} {G : po_G} {st : Nat → Nat} {K : po_K} {ρ : (Int32 ⊕ String) × po_I × po_R} (hF : po_F X G cX7_extend RX7 3 st) (hL : po_L X (some .int) 7 2 12 "extend") (I : po_I) (R : po_R) (HL : po_Lay K R st) (hm : m_X7_extend_21 I R = some ρ) : po_V X G 3 (po_Q X G (po_oi (ρ.1)) K (ρ.2.2) (ρ.2.1) none 2 12) 1 6 21 [] [] K R I none := by
  unfold m_X7_extend_21 at hm
  cases hm
  exact po_throwW hF hL tw_X7_347_62 dX7_extend_21 dX7_extend_24 dX7_extend_25 dX7_extend_28 dX7_extend_31 (by decide) (Nat.le_of_ble_eq_true rfl) (by decide) (by decide) rfl rfl rfl
set_option maxRecDepth 20000 in
set_option maxHeartbeats 2000000 in
theorem w_X7_extend_e {X : po_X} {G : po_G} {st : Nat → Nat} {K : po_K} {ρ : (Int32 ⊕ String) × po_I × po_R} (hF : po_F X G cX7_extend RX7 3 st) (hL : po_L X (some .int) 7 2 12 "extend") (I : po_I) (R : po_R) (l0 : Nat) (l1 : Int32) (HL : po_Lay K R st) (kl0 : K l0 = (18, 8)) (hm : m_X7_extend_e I R l0 l1 = some ρ) : po_V X G 3 (po_Q X G (po_oi (ρ.1)) K (ρ.2.2) (ρ.2.1) none 2 12) 0 0 0 [(0, .ref l0), (1, .int l1)] [] K R I none := by
  unfold m_X7_extend_e at hm
  refine po_aload_n hF dX7_extend_0 rfl rfl ?_
  refine po_iload_n hF dX7_extend_1 rfl rfl ?_
  obtain ⟨x1, hx1, hm⟩ := po_bind hm
  cases x1 with
  | inr y2 =>
    cases hm
    exact po_callVx (As := [.int l1]) hF hL dX7_extend_2 wq_859 mv_X7_permitOrThrow ws_X7_permitOrThrow (show po_cl[7]? = some _ from rfl) rfl kl0 (c_X7_permitOrThrow HL kl0 hx1) rfl (po_rtL hL rfl) (Nat.le_of_ble_eq_true rfl) rfl
  | inl y2 =>
    dsimp only [Sum.elim_inl] at hm
    refine po_callV (As := [.int l1]) hF dX7_extend_2 wq_859 mv_X7_permitOrThrow ws_X7_permitOrThrow (show po_cl[7]? = some _ from rfl) rfl kl0 (c_X7_permitOrThrow HL kl0 hx1) rfl (po_rtL hL rfl) (Nat.le_of_ble_eq_true rfl) rfl ?_
    refine po_astore_n (L' := [(2, .ref y2), (0, .ref l0), (1, .int l1)]) hF dX7_extend_5 rfl (by decide) rfl ?_
    refine po_aload_n hF dX7_extend_6 rfl rfl ?_
    refine po_getf (v := .int (I y2 6)) hF dX7_extend_7 fl_X7_150 (kr_X7_permitOrThrow HL kl0 hx1) rfl ?_
    refine po_iconst (v := 2) hF dX7_extend_10 (by decide) ?_
    refine po_icmp_ne (tgt := 21) hF dX7_extend_11 (by decide) hm (fun hm => ?_) (fun hm => ?_)
    · refine po_sub (L' := []) rfl ?_
      exact w_X7_extend_21 hF hL I R HL hm
    · refine po_aload_n hF dX7_extend_14 rfl rfl ?_
      refine po_getf (v := .int (vp_nar .boolean (I y2 11))) hF dX7_extend_15 fl_X7_344 (kr_X7_permitOrThrow HL kl0 hx1) rfl ?_
      refine po_if_eq (tgt := 32) hF dX7_extend_18 (by decide) hm (fun hm => ?_) (fun hm => ?_)
      · refine po_aload_n hF dX7_extend_32 rfl rfl ?_
        obtain ⟨x3, hx3, hm⟩ := po_bind hm
        refine po_callV (As := []) hF dX7_extend_33 wq_665 mv_X7_remember ws_X7_remember (show po_cl[7]? = some _ from rfl) rfl kl0 (c_X7_remember HL kl0 hx3) rfl (po_rtL hL rfl) (Nat.le_of_ble_eq_true rfl) rfl ?_
        refine po_aload_n hF dX7_extend_36 rfl rfl ?_
        refine po_iconst (v := 1) hF dX7_extend_37 (by decide) ?_
        refine po_putz hF dX7_extend_38 fl_X7_344 (kr_X7_permitOrThrow HL kl0 hx1) (by intro r h; cases h; rfl) rfl (by decide) rfl ?_
        refine po_hname hm (fun I4 hm => ?_)
        refine po_aload_n hF dX7_extend_41 rfl rfl ?_
        refine po_dup hF dX7_extend_42 rfl ?_
        refine po_getf (v := .int (I4 y2 10)) hF dX7_extend_43 fl_X7_177 (kr_X7_permitOrThrow HL kl0 hx1) rfl ?_
        refine po_bipush (v := 15) hF dX7_extend_46 (by decide) ?_
        refine po_iadd hF dX7_extend_48 ?_
        refine po_puti hF dX7_extend_49 fl_X7_177 (kr_X7_permitOrThrow HL kl0 hx1) (by intro r h; cases h; rfl) rfl rfl (fun _ => rfl) rfl ?_
        refine po_hname hm (fun I5 hm => ?_)
        refine po_aload_n hF dX7_extend_52 rfl rfl ?_
        refine po_dup hF dX7_extend_53 rfl ?_
        refine po_getf (v := .int (I5 y2 13)) hF dX7_extend_54 fl_X7_330 (kr_X7_permitOrThrow HL kl0 hx1) rfl ?_
        refine po_bipush (v := 15) hF dX7_extend_57 (by decide) ?_
        refine po_iadd hF dX7_extend_59 ?_
        refine po_puti hF dX7_extend_60 fl_X7_330 (kr_X7_permitOrThrow HL kl0 hx1) (by intro r h; cases h; rfl) rfl rfl (fun _ => rfl) rfl ?_
        refine po_hname hm (fun I6 hm => ?_)
        refine po_aload_n hF dX7_extend_63 rfl rfl ?_
        refine po_getf (v := .int (I6 y2 10)) hF dX7_extend_64 fl_X7_177 (kr_X7_permitOrThrow HL kl0 hx1) rfl ?_
        cases hm
        exact po_iret hF hL dX7_extend_67 (by decide) (by decide) rfl rfl rfl (Or.inl rfl)
      · refine po_sub (L' := []) rfl ?_
        exact w_X7_extend_21 hF hL I R HL hm
theorem c_X7_extend {K : po_K} {R : po_R} {I : po_I} {st : Nat → Nat} {ρ : (Int32 ⊕ String) × po_I × po_R} (HL : po_Lay K R st) {l0 : Nat} {l1 : Int32} (kl0 : K l0 = (18, 8)) (hm : m_X7_extend I R l0 l1 = some ρ) : po_C st yX7_extend cX7_extend 3 (some .int) 7 2 12 [.ref l0, .int l1] K R I none (po_oi (ρ.1)) K (ρ.2.2) (ρ.2.1) none := by
  refine po_ofC (by decide +kernel) (Nat.le_of_ble_eq_true rfl) (fun X G hF hL => ?_)
  exact w_X7_extend_e hF hL I R l0 l1 HL kl0 hm
set_option maxRecDepth 20000 in
set_option maxHeartbeats 2000000 in
theorem w_X7_pass_11 {X : po_X} {G : po_G} {st : Nat → Nat} {K : po_K} {ρ : (Int32 ⊕ String) × po_I × po_R} (hF : po_F X G cX7_pass RX7 5 st) (hL : po_L X (some .int) 6 1 6 "pass") (I : po_I) (R : po_R) (HL : po_Lay K R st) (hm : m_X7_pass_11 I R = some ρ) : po_V X G 5 (po_Q X G (po_oi (ρ.1)) K (ρ.2.2) (ρ.2.1) none 1 6) 0 0 11 [] [] K R I none := by
  unfold m_X7_pass_11 at hm
  cases hm
  exact po_throwW hF hL tw_X7_349_52 dX7_pass_11 dX7_pass_14 dX7_pass_15 dX7_pass_18 dX7_pass_21 (by decide) (Nat.le_of_ble_eq_true rfl) (by decide) (by decide) rfl rfl rfl
set_option maxRecDepth 20000 in
set_option maxHeartbeats 2000000 in
theorem w_X7_pass_98 {X : po_X} {G : po_G} {st : Nat → Nat} {K : po_K} {ρ : (Int32 ⊕ String) × po_I × po_R} {r43 : po_I → po_R → Nat → Int32 → Int32 → Option ((Int32 ⊕ String) × po_I × po_R)} (hF : po_F X G cX7_pass RX7 5 st) (hL : po_L X (some .int) 6 1 6 "pass") (h43 : ∀ (I : po_I) (R : po_R) (l0 : Nat) (l2 : Int32) (l3 : Int32), r43 I R l0 l2 l3 = some ρ → po_Lay K R st → K l0 = (18, 8) → po_V X G 5 (po_Q X G (po_oi (ρ.1)) K (ρ.2.2) (ρ.2.1) none 1 6) 0 0 43 [(0, .ref l0), (2, .int l2), (3, .int l3)] [] K R I none) (I : po_I) (R : po_R) (l0 : Nat) (l2 : Int32) (l3 : Int32) (HL : po_Lay K R st) (kl0 : K l0 = (18, 8)) (hm : m_X7_pass_98 r43 I R l0 l2 l3 = some ρ) : po_V X G 5 (po_Q X G (po_oi (ρ.1)) K (ρ.2.2) (ρ.2.1) none 1 6) 0 0 98 [(0, .ref l0), (2, .int l2), (3, .int l3)] [] K R I none := by
  unfold m_X7_pass_98 at hm
  refine po_iinc (v := l3 + 1) (L' := [(3, .int (l3 + 1)), (0, .ref l0), (2, .int l2)]) hF dX7_pass_98 rfl rfl (by decide) rfl ?_
  refine po_goto (tgt := 43) hF dX7_pass_101 (by decide) ?_
  refine po_sub (L' := [(0, .ref l0), (2, .int l2), (3, .int (l3 + 1))]) rfl ?_
  exact h43 I R l0 l2 (l3 + 1) hm HL kl0
set_option maxRecDepth 20000 in
set_option maxHeartbeats 2000000 in
theorem w_X7_pass_43 {X : po_X} {G : po_G} {st : Nat → Nat} {K : po_K} {ρ : (Int32 ⊕ String) × po_I × po_R} {r43 : po_I → po_R → Nat → Int32 → Int32 → Option ((Int32 ⊕ String) × po_I × po_R)} (hF : po_F X G cX7_pass RX7 5 st) (hL : po_L X (some .int) 6 1 6 "pass") (h43 : ∀ (I : po_I) (R : po_R) (l0 : Nat) (l2 : Int32) (l3 : Int32), r43 I R l0 l2 l3 = some ρ → po_Lay K R st → K l0 = (18, 8) → po_V X G 5 (po_Q X G (po_oi (ρ.1)) K (ρ.2.2) (ρ.2.1) none 1 6) 0 0 43 [(0, .ref l0), (2, .int l2), (3, .int l3)] [] K R I none) (I : po_I) (R : po_R) (l0 : Nat) (l2 : Int32) (l3 : Int32) (HL : po_Lay K R st) (kl0 : K l0 = (18, 8)) (hm : m_X7_pass_43 r43 I R l0 l2 l3 = some ρ) : po_V X G 5 (po_Q X G (po_oi (ρ.1)) K (ρ.2.2) (ρ.2.1) none 1 6) 0 0 43 [(0, .ref l0), (2, .int l2), (3, .int l3)] [] K R I none := by
  unfold m_X7_pass_43 at hm
  refine po_iload_n hF dX7_pass_43 rfl rfl ?_
  refine po_aload_n hF dX7_pass_44 rfl rfl ?_
  refine po_getf (v := .ref (l0 + 8)) hF dX7_pass_45 fl_X7_26 kl0 (ly_7_2 HL kl0).1 ?_
  refine po_getf (v := .int (I (l0 + 8) 5)) hF dX7_pass_48 fl_X7_212 ((ly_7_2 HL kl0).2) rfl ?_
  refine po_icmp_ge (tgt := 104) hF dX7_pass_51 (by decide) hm (fun hm => ?_) (fun hm => ?_)
  · refine po_iload_n hF dX7_pass_104 rfl rfl ?_
    cases hm
    exact po_iret hF hL dX7_pass_105 (by decide) (by decide) rfl rfl rfl (Or.inl rfl)
  · refine po_aload_n hF dX7_pass_54 rfl rfl ?_
    refine po_getf (v := .ref (l0 + 8)) hF dX7_pass_55 fl_X7_26 kl0 (ly_7_2 HL kl0).1 ?_
    refine po_getf (v := .ref ((l0 + 8) + 3)) hF dX7_pass_58 fl_X7_215 ((ly_7_2 HL kl0).2) (ly_5_4 HL ((ly_7_2 HL kl0).2)).1 ?_
    refine po_iload_n hF dX7_pass_61 rfl rfl ?_
    refine po_aald hF dX7_pass_62 ((ly_5_4 HL ((ly_7_2 HL kl0).2)).2) (Or.inr (Or.inl rfl)) hm (fun hi1 => (le_5_4 HL ((ly_7_2 HL kl0).2) (po_in_lt hi1)).1) (fun hi1 hm => ?_)
    refine po_astore (L' := [(4, .ref ((l0 + 8) + (29 + 5 * (Int32.toNatClampNeg l3)))), (0, .ref l0), (2, .int l2), (3, .int l3)]) hF dX7_pass_63 (by decide) rfl ?_
    refine po_aload hF dX7_pass_65 rfl ?_
    refine po_getf (v := .int (I ((l0 + 8) + (29 + 5 * (Int32.toNatClampNeg l3))) 6)) hF dX7_pass_67 fl_X7_150 ((le_5_4 HL ((ly_7_2 HL kl0).2) (po_in_lt hi1)).2) rfl ?_
    refine po_iconst (v := 2) hF dX7_pass_70 (by decide) ?_
    refine po_icmp_ne (tgt := 98) hF dX7_pass_71 (by decide) hm (fun hm => ?_) (fun hm => ?_)
    · refine po_sub (L' := [(0, .ref l0), (2, .int l2), (3, .int l3)]) rfl ?_
      exact w_X7_pass_98 hF hL h43 I R l0 l2 l3 HL kl0 hm
    · refine po_aload_n hF dX7_pass_74 rfl rfl ?_
      refine po_getf (v := .ref (l0 + 8)) hF dX7_pass_75 fl_X7_26 kl0 (ly_7_2 HL kl0).1 ?_
      refine po_getf (v := .int (I (l0 + 8) 0)) hF dX7_pass_78 fl_X7_239 ((ly_7_2 HL kl0).2) rfl ?_
      refine po_aload hF dX7_pass_81 rfl ?_
      refine po_getf (v := .int (I ((l0 + 8) + (29 + 5 * (Int32.toNatClampNeg l3))) 10)) hF dX7_pass_83 fl_X7_177 ((le_5_4 HL ((ly_7_2 HL kl0).2) (po_in_lt hi1)).2) rfl ?_
      refine po_icmp_le (tgt := 98) hF dX7_pass_86 (by decide) hm (fun hm => ?_) (fun hm => ?_)
      · refine po_sub (L' := [(0, .ref l0), (2, .int l2), (3, .int l3)]) rfl ?_
        exact w_X7_pass_98 hF hL h43 I R l0 l2 l3 HL kl0 hm
      · refine po_aload hF dX7_pass_89 rfl ?_
        refine po_iconst (v := 4) hF dX7_pass_91 (by decide) ?_
        refine po_puti hF dX7_pass_92 fl_X7_150 ((le_5_4 HL ((ly_7_2 HL kl0).2) (po_in_lt hi1)).2) (by intro r h; cases h; rfl) rfl rfl (fun _ => rfl) rfl ?_
        refine po_hname hm (fun I2 hm => ?_)
        refine po_iinc (v := l2 + 1) (L' := [(2, .int (l2 + 1)), (4, .ref ((l0 + 8) + (29 + 5 * (Int32.toNatClampNeg l3)))), (0, .ref l0), (3, .int l3)]) hF dX7_pass_95 rfl rfl (by decide) rfl ?_
        refine po_sub (L' := [(0, .ref l0), (2, .int (l2 + 1)), (3, .int l3)]) rfl ?_
        exact w_X7_pass_98 hF hL h43 I2 R l0 (l2 + 1) l3 HL kl0 hm
theorem w_X7_pass_43L {X : po_X} {G : po_G} {st : Nat → Nat} {K : po_K} {ρ : (Int32 ⊕ String) × po_I × po_R} (hF : po_F X G cX7_pass RX7 5 st) (hL : po_L X (some .int) 6 1 6 "pass") : ∀ (n : Nat) (I : po_I) (R : po_R) (l0 : Nat) (l2 : Int32) (l3 : Int32), m_X7_pass_43L n I R l0 l2 l3 = some ρ → po_Lay K R st → K l0 = (18, 8) → po_V X G 5 (po_Q X G (po_oi (ρ.1)) K (ρ.2.2) (ρ.2.1) none 1 6) 0 0 43 [(0, .ref l0), (2, .int l2), (3, .int l3)] [] K R I none := by
  intro n
  induction n with
  | zero => intro I R l0 l2 l3 hm; cases hm
  | succ n ih => intro I R l0 l2 l3 hm HL kl0; exact w_X7_pass_43 hF hL (ih) I R l0 l2 l3 HL kl0 hm
set_option maxRecDepth 20000 in
set_option maxHeartbeats 2000000 in
theorem w_X7_pass_e {X : po_X} {G : po_G} {st : Nat → Nat} {K : po_K} {ρ : (Int32 ⊕ String) × po_I × po_R} (hF : po_F X G cX7_pass RX7 5 st) (hL : po_L X (some .int) 6 1 6 "pass") (I : po_I) (R : po_R) (l0 : Nat) (l1 : Int32) (HL : po_Lay K R st) (kl0 : K l0 = (18, 8)) (hm : m_X7_pass_e I R l0 l1 = some ρ) : po_V X G 5 (po_Q X G (po_oi (ρ.1)) K (ρ.2.2) (ρ.2.1) none 1 6) 0 0 0 [(0, .ref l0), (1, .int l1)] [] K R I none := by
  unfold m_X7_pass_e at hm
  refine po_iload_n hF dX7_pass_0 rfl rfl ?_
  refine po_iconst (v := 1) hF dX7_pass_1 (by decide) ?_
  refine po_icmp_lt (tgt := 11) hF dX7_pass_2 (by decide) hm (fun hm => ?_) (fun hm => ?_)
  · refine po_sub (L' := []) rfl ?_
    exact w_X7_pass_11 hF hL I R HL hm
  · refine po_iload_n hF dX7_pass_5 rfl rfl ?_
    refine po_bipush (v := 50) hF dX7_pass_6 (by decide) ?_
    refine po_icmp_le (tgt := 22) hF dX7_pass_8 (by decide) hm (fun hm => ?_) (fun hm => ?_)
    · refine po_aload_n hF dX7_pass_22 rfl rfl ?_
      obtain ⟨x3, hx3, hm⟩ := po_bind hm
      refine po_callV (As := []) hF dX7_pass_23 wq_665 mv_X7_remember ws_X7_remember (show po_cl[7]? = some _ from rfl) rfl kl0 (c_X7_remember HL kl0 hx3) rfl (po_rtL hL rfl) (Nat.le_of_ble_eq_true rfl) rfl ?_
      refine po_aload_n hF dX7_pass_26 rfl rfl ?_
      refine po_getf (v := .ref (l0 + 8)) hF dX7_pass_27 fl_X7_26 kl0 (ly_7_2 (lr_X7_remember HL kl0 hx3) kl0).1 ?_
      refine po_dup hF dX7_pass_30 rfl ?_
      refine po_getf (v := .int ((x3.1) (l0 + 8) 0)) hF dX7_pass_31 fl_X7_239 ((ly_7_2 (lr_X7_remember HL kl0 hx3) kl0).2) rfl ?_
      refine po_iload_n hF dX7_pass_34 rfl rfl ?_
      refine po_iadd hF dX7_pass_35 ?_
      refine po_puti hF dX7_pass_36 fl_X7_239 ((ly_7_2 (lr_X7_remember HL kl0 hx3) kl0).2) (by intro r h; cases h; rfl) rfl rfl (fun _ => rfl) rfl ?_
      refine po_hname hm (fun I4 hm => ?_)
      refine po_iconst (v := 0) hF dX7_pass_39 (by decide) ?_
      refine po_istore_n (L' := [(2, .int 0), (0, .ref l0), (1, .int l1)]) hF dX7_pass_40 rfl (by decide) rfl ?_
      refine po_iconst (v := 0) hF dX7_pass_41 (by decide) ?_
      refine po_istore_n (L' := [(3, .int 0), (2, .int 0), (0, .ref l0), (1, .int l1)]) hF dX7_pass_42 rfl (by decide) rfl ?_
      refine po_sub (L' := [(0, .ref l0), (2, .int 0), (3, .int 0)]) rfl ?_
      exact w_X7_pass_43L hF hL 5000 I4 (x3.2) l0 0 0 hm (lr_X7_remember HL kl0 hx3) kl0
    · refine po_sub (L' := []) rfl ?_
      exact w_X7_pass_11 hF hL I R HL hm
theorem c_X7_pass {K : po_K} {R : po_R} {I : po_I} {st : Nat → Nat} {ρ : (Int32 ⊕ String) × po_I × po_R} (HL : po_Lay K R st) {l0 : Nat} {l1 : Int32} (kl0 : K l0 = (18, 8)) (hm : m_X7_pass I R l0 l1 = some ρ) : po_C st yX7_pass cX7_pass 5 (some .int) 6 1 6 [.ref l0, .int l1] K R I none (po_oi (ρ.1)) K (ρ.2.2) (ρ.2.1) none := by
  refine po_ofC (by decide +kernel) (Nat.le_of_ble_eq_true rfl) (fun X G hF hL => ?_)
  exact w_X7_pass_e hF hL I R l0 l1 HL kl0 hm
set_option maxRecDepth 20000 in
set_option maxHeartbeats 2000000 in
theorem w_X7_account_16 {X : po_X} {G : po_G} {st : Nat → Nat} {K : po_K} {I : po_I} {R : po_R} {ρ : (Int32 ⊕ String)} (hF : po_F X G cX7_account RX7 6 st) (hL : po_L X (some .int) 6 1 6 "account") (HL : po_Lay K R st) (hm : m_X7_account_16 I = some ρ) : po_V X G 6 (po_Q X G (po_oi (ρ)) K R I none 1 6) 0 0 16 [] [] K R I none := by
  unfold m_X7_account_16 at hm
  cases hm
  exact po_throwW hF hL tw_X7_351_87 dX7_account_16 dX7_account_19 dX7_account_20 dX7_account_23 dX7_account_26 (by decide) (Nat.le_of_ble_eq_true rfl) (by decide) (by decide) rfl rfl rfl
set_option maxRecDepth 20000 in
set_option maxHeartbeats 2000000 in
theorem w_X7_account_36 {X : po_X} {G : po_G} {st : Nat → Nat} {K : po_K} {I : po_I} {R : po_R} {ρ : (Int32 ⊕ String)} (hF : po_F X G cX7_account RX7 6 st) (hL : po_L X (some .int) 6 1 6 "account") (HL : po_Lay K R st) (hm : m_X7_account_36 I = some ρ) : po_V X G 6 (po_Q X G (po_oi (ρ)) K R I none 1 6) 0 0 36 [] [] K R I none := by
  unfold m_X7_account_36 at hm
  cases hm
  exact po_throwW hF hL tw_X7_353_52 dX7_account_36 dX7_account_39 dX7_account_40 dX7_account_43 dX7_account_46 (by decide) (Nat.le_of_ble_eq_true rfl) (by decide) (by decide) rfl rfl rfl
set_option maxRecDepth 20000 in
set_option maxHeartbeats 2000000 in
theorem w_X7_account_140 {X : po_X} {G : po_G} {st : Nat → Nat} {K : po_K} {I : po_I} {R : po_R} {ρ : (Int32 ⊕ String)} (hF : po_F X G cX7_account RX7 6 st) (hL : po_L X (some .int) 6 1 6 "account") (HL : po_Lay K R st) (s0 : Int32) (hm : m_X7_account_140 I s0 = some ρ) : po_V X G 6 (po_Q X G (po_oi (ρ)) K R I none 1 6) 0 0 140 [] [.int s0] K R I none := by
  unfold m_X7_account_140 at hm
  cases hm
  exact po_iret hF hL dX7_account_140 (by decide) (by decide) rfl rfl rfl (Or.inl rfl)
set_option maxRecDepth 20000 in
set_option maxHeartbeats 2000000 in
theorem w_X7_account_112 {X : po_X} {G : po_G} {st : Nat → Nat} {K : po_K} {I : po_I} {R : po_R} {ρ : (Int32 ⊕ String)} {r55 : Nat → Int32 → Int32 → Int32 → Int32 → Int32 → Option ((Int32 ⊕ String))} (hF : po_F X G cX7_account RX7 6 st) (hL : po_L X (some .int) 6 1 6 "account") (HL : po_Lay K R st) (h55 : ∀ (l0 : Nat) (l1 : Int32) (l2 : Int32) (l3 : Int32) (l4 : Int32) (l5 : Int32), r55 l0 l1 l2 l3 l4 l5 = some ρ → K l0 = (18, 8) → po_V X G 6 (po_Q X G (po_oi (ρ)) K R I none 1 6) 0 0 55 [(0, .ref l0), (1, .int l1), (2, .int l2), (3, .int l3), (4, .int l4), (5, .int l5)] [] K R I none) (l0 : Nat) (l1 : Int32) (l2 : Int32) (l3 : Int32) (l4 : Int32) (l5 : Int32) (kl0 : K l0 = (18, 8)) (hm : m_X7_account_112 I r55 l0 l1 l2 l3 l4 l5 = some ρ) : po_V X G 6 (po_Q X G (po_oi (ρ)) K R I none 1 6) 0 0 112 [(0, .ref l0), (1, .int l1), (2, .int l2), (3, .int l3), (4, .int l4), (5, .int l5)] [] K R I none := by
  unfold m_X7_account_112 at hm
  refine po_iinc (v := l5 + 1) (L' := [(5, .int (l5 + 1)), (0, .ref l0), (1, .int l1), (2, .int l2), (3, .int l3), (4, .int l4)]) hF dX7_account_112 rfl rfl (by decide) rfl ?_
  refine po_goto (tgt := 55) hF dX7_account_115 (by decide) ?_
  refine po_sub (L' := [(0, .ref l0), (1, .int l1), (2, .int l2), (3, .int l3), (4, .int l4), (5, .int (l5 + 1))]) rfl ?_
  exact h55 l0 l1 l2 l3 l4 (l5 + 1) hm kl0
set_option maxRecDepth 20000 in
set_option maxHeartbeats 2000000 in
theorem w_X7_account_78 {X : po_X} {G : po_G} {st : Nat → Nat} {K : po_K} {I : po_I} {R : po_R} {ρ : (Int32 ⊕ String)} {r55 : Nat → Int32 → Int32 → Int32 → Int32 → Int32 → Option ((Int32 ⊕ String))} (hF : po_F X G cX7_account RX7 6 st) (hL : po_L X (some .int) 6 1 6 "account") (HL : po_Lay K R st) (h55 : ∀ (l0 : Nat) (l1 : Int32) (l2 : Int32) (l3 : Int32) (l4 : Int32) (l5 : Int32), r55 l0 l1 l2 l3 l4 l5 = some ρ → K l0 = (18, 8) → po_V X G 6 (po_Q X G (po_oi (ρ)) K R I none 1 6) 0 0 55 [(0, .ref l0), (1, .int l1), (2, .int l2), (3, .int l3), (4, .int l4), (5, .int l5)] [] K R I none) (l0 : Nat) (l1 : Int32) (l2 : Int32) (l3 : Int32) (l4 : Int32) (l5 : Int32) (kl0 : K l0 = (18, 8)) (hm : m_X7_account_78 I r55 l0 l1 l2 l3 l4 l5 = some ρ) : po_V X G 6 (po_Q X G (po_oi (ρ)) K R I none 1 6) 0 0 78 [(0, .ref l0), (1, .int l1), (2, .int l2), (3, .int l3), (4, .int l4), (5, .int l5)] [] K R I none := by
  unfold m_X7_account_78 at hm
  refine po_iload_n hF dX7_account_78 rfl rfl ?_
  refine po_aload_n hF dX7_account_79 rfl rfl ?_
  refine po_getf (v := .ref (l0 + 8)) hF dX7_account_80 fl_X7_26 kl0 (ly_7_2 HL kl0).1 ?_
  refine po_getf (v := .ref ((l0 + 8) + 3)) hF dX7_account_83 fl_X7_215 ((ly_7_2 HL kl0).2) (ly_5_4 HL ((ly_7_2 HL kl0).2)).1 ?_
  refine po_iload hF dX7_account_86 rfl ?_
  refine po_aald hF dX7_account_88 ((ly_5_4 HL ((ly_7_2 HL kl0).2)).2) (Or.inr (Or.inl rfl)) hm (fun hi1 => (le_5_4 HL ((ly_7_2 HL kl0).2) (po_in_lt hi1)).1) (fun hi1 hm => ?_)
  refine po_getf (v := .int (I ((l0 + 8) + (29 + 5 * (Int32.toNatClampNeg l5))) 13)) hF dX7_account_89 fl_X7_330 ((le_5_4 HL ((ly_7_2 HL kl0).2) (po_in_lt hi1)).2) rfl ?_
  refine po_iadd hF dX7_account_92 ?_
  refine po_top hm (fun v2 hm => ?_)
  refine po_istore_n (L' := [(3, .int v2), (0, .ref l0), (1, .int l1), (2, .int l2), (4, .int l4), (5, .int l5)]) hF dX7_account_93 rfl (by decide) rfl ?_
  refine po_iload hF dX7_account_94 rfl ?_
  refine po_aload_n hF dX7_account_96 rfl rfl ?_
  refine po_getf (v := .ref (l0 + 8)) hF dX7_account_97 fl_X7_26 kl0 (ly_7_2 HL kl0).1 ?_
  refine po_getf (v := .ref ((l0 + 8) + 3)) hF dX7_account_100 fl_X7_215 ((ly_7_2 HL kl0).2) (ly_5_4 HL ((ly_7_2 HL kl0).2)).1 ?_
  refine po_iload hF dX7_account_103 rfl ?_
  refine po_aald hF dX7_account_105 ((ly_5_4 HL ((ly_7_2 HL kl0).2)).2) (Or.inr (Or.inl rfl)) hm (fun hi3 => (le_5_4 HL ((ly_7_2 HL kl0).2) (po_in_lt hi3)).1) (fun hi3 hm => ?_)
  refine po_getf (v := .int (I ((l0 + 8) + (29 + 5 * (Int32.toNatClampNeg l5))) 14)) hF dX7_account_106 fl_X7_263 ((le_5_4 HL ((ly_7_2 HL kl0).2) (po_in_lt hi3)).2) rfl ?_
  refine po_iadd hF dX7_account_109 ?_
  refine po_top hm (fun v4 hm => ?_)
  refine po_istore (L' := [(4, .int v4), (3, .int v2), (0, .ref l0), (1, .int l1), (2, .int l2), (5, .int l5)]) hF dX7_account_110 (by decide) rfl ?_
  refine po_sub (L' := [(0, .ref l0), (1, .int l1), (2, .int l2), (3, .int v2), (4, .int v4), (5, .int l5)]) rfl ?_
  exact w_X7_account_112 hF hL HL h55 l0 l1 l2 v2 v4 l5 kl0 hm
set_option maxRecDepth 20000 in
set_option maxHeartbeats 2000000 in
theorem w_X7_account_55 {X : po_X} {G : po_G} {st : Nat → Nat} {K : po_K} {I : po_I} {R : po_R} {ρ : (Int32 ⊕ String)} {r55 : Nat → Int32 → Int32 → Int32 → Int32 → Int32 → Option ((Int32 ⊕ String))} (hF : po_F X G cX7_account RX7 6 st) (hL : po_L X (some .int) 6 1 6 "account") (HL : po_Lay K R st) (h55 : ∀ (l0 : Nat) (l1 : Int32) (l2 : Int32) (l3 : Int32) (l4 : Int32) (l5 : Int32), r55 l0 l1 l2 l3 l4 l5 = some ρ → K l0 = (18, 8) → po_V X G 6 (po_Q X G (po_oi (ρ)) K R I none 1 6) 0 0 55 [(0, .ref l0), (1, .int l1), (2, .int l2), (3, .int l3), (4, .int l4), (5, .int l5)] [] K R I none) (l0 : Nat) (l1 : Int32) (l2 : Int32) (l3 : Int32) (l4 : Int32) (l5 : Int32) (kl0 : K l0 = (18, 8)) (hm : m_X7_account_55 I r55 l0 l1 l2 l3 l4 l5 = some ρ) : po_V X G 6 (po_Q X G (po_oi (ρ)) K R I none 1 6) 0 0 55 [(0, .ref l0), (1, .int l1), (2, .int l2), (3, .int l3), (4, .int l4), (5, .int l5)] [] K R I none := by
  unfold m_X7_account_55 at hm
  refine po_iload hF dX7_account_55 rfl ?_
  refine po_aload_n hF dX7_account_57 rfl rfl ?_
  refine po_getf (v := .ref (l0 + 8)) hF dX7_account_58 fl_X7_26 kl0 (ly_7_2 HL kl0).1 ?_
  refine po_getf (v := .int (I (l0 + 8) 5)) hF dX7_account_61 fl_X7_212 ((ly_7_2 HL kl0).2) rfl ?_
  refine po_icmp_ge (tgt := 118) hF dX7_account_64 (by decide) hm (fun hm => ?_) (fun hm => ?_)
  · refine po_iload_n hF dX7_account_118 rfl rfl ?_
    refine po_if_ne (tgt := 126) hF dX7_account_119 (by decide) hm (fun hm => ?_) (fun hm => ?_)
    · refine po_iload_n hF dX7_account_126 rfl rfl ?_
      refine po_iconst (v := 1) hF dX7_account_127 (by decide) ?_
      refine po_icmp_ne (tgt := 136) hF dX7_account_128 (by decide) hm (fun hm => ?_) (fun hm => ?_)
      · refine po_iload_n hF dX7_account_136 rfl rfl ?_
        refine po_iload hF dX7_account_137 rfl ?_
        refine po_isub hF dX7_account_139 ?_
        refine po_sub (L' := []) rfl ?_
        exact w_X7_account_140 hF hL HL (l3 - l4) hm
      · refine po_iload hF dX7_account_131 rfl ?_
        refine po_goto (tgt := 140) hF dX7_account_133 (by decide) ?_
        refine po_sub (L' := []) rfl ?_
        exact w_X7_account_140 hF hL HL l4 hm
    · refine po_iload_n hF dX7_account_122 rfl rfl ?_
      refine po_goto (tgt := 140) hF dX7_account_123 (by decide) ?_
      refine po_sub (L' := []) rfl ?_
      exact w_X7_account_140 hF hL HL l3 hm
  · refine po_iload_n hF dX7_account_67 rfl rfl ?_
    refine po_iconst (v := (-1)) hF dX7_account_68 (by decide) ?_
    refine po_icmp_eq (tgt := 78) hF dX7_account_69 (by decide) hm (fun hm => ?_) (fun hm => ?_)
    · exact w_X7_account_78 hF hL HL h55 l0 l1 l2 l3 l4 l5 kl0 hm
    · refine po_iload_n hF dX7_account_72 rfl rfl ?_
      refine po_iload hF dX7_account_73 rfl ?_
      refine po_icmp_ne (tgt := 112) hF dX7_account_75 (by decide) hm (fun hm => ?_) (fun hm => ?_)
      · exact w_X7_account_112 hF hL HL h55 l0 l1 l2 l3 l4 l5 kl0 hm
      · exact w_X7_account_78 hF hL HL h55 l0 l1 l2 l3 l4 l5 kl0 hm
theorem w_X7_account_55L {X : po_X} {G : po_G} {st : Nat → Nat} {K : po_K} {I : po_I} {R : po_R} {ρ : (Int32 ⊕ String)} (hF : po_F X G cX7_account RX7 6 st) (hL : po_L X (some .int) 6 1 6 "account") (HL : po_Lay K R st) : ∀ (n : Nat) (l0 : Nat) (l1 : Int32) (l2 : Int32) (l3 : Int32) (l4 : Int32) (l5 : Int32), m_X7_account_55L I n l0 l1 l2 l3 l4 l5 = some ρ → K l0 = (18, 8) → po_V X G 6 (po_Q X G (po_oi (ρ)) K R I none 1 6) 0 0 55 [(0, .ref l0), (1, .int l1), (2, .int l2), (3, .int l3), (4, .int l4), (5, .int l5)] [] K R I none := by
  intro n
  induction n with
  | zero => intro l0 l1 l2 l3 l4 l5 hm; cases hm
  | succ n ih => intro l0 l1 l2 l3 l4 l5 hm kl0; exact w_X7_account_55 hF hL HL (ih) l0 l1 l2 l3 l4 l5 kl0 hm
set_option maxRecDepth 20000 in
set_option maxHeartbeats 2000000 in
theorem w_X7_account_e {X : po_X} {G : po_G} {st : Nat → Nat} {K : po_K} {I : po_I} {R : po_R} {ρ : (Int32 ⊕ String)} (hF : po_F X G cX7_account RX7 6 st) (hL : po_L X (some .int) 6 1 6 "account") (HL : po_Lay K R st) (l0 : Nat) (l1 : Int32) (l2 : Int32) (kl0 : K l0 = (18, 8)) (hm : m_X7_account_e I l0 l1 l2 = some ρ) : po_V X G 6 (po_Q X G (po_oi (ρ)) K R I none 1 6) 0 0 0 [(0, .ref l0), (1, .int l1), (2, .int l2)] [] K R I none := by
  unfold m_X7_account_e at hm
  refine po_iload_n hF dX7_account_0 rfl rfl ?_
  refine po_iconst (v := (-1)) hF dX7_account_1 (by decide) ?_
  refine po_icmp_lt (tgt := 16) hF dX7_account_2 (by decide) hm (fun hm => ?_) (fun hm => ?_)
  · refine po_sub (L' := []) rfl ?_
    exact w_X7_account_16 hF hL HL hm
  · refine po_iload_n hF dX7_account_5 rfl rfl ?_
    refine po_aload_n hF dX7_account_6 rfl rfl ?_
    refine po_getf (v := .ref (l0 + 8)) hF dX7_account_7 fl_X7_26 kl0 (ly_7_2 HL kl0).1 ?_
    refine po_getf (v := .int (I (l0 + 8) 5)) hF dX7_account_10 fl_X7_212 ((ly_7_2 HL kl0).2) rfl ?_
    refine po_icmp_lt (tgt := 27) hF dX7_account_13 (by decide) hm (fun hm => ?_) (fun hm => ?_)
    · refine po_iload_n hF dX7_account_27 rfl rfl ?_
      refine po_if_lt (tgt := 36) hF dX7_account_28 (by decide) hm (fun hm => ?_) (fun hm => ?_)
      · refine po_sub (L' := []) rfl ?_
        exact w_X7_account_36 hF hL HL hm
      · refine po_iload_n hF dX7_account_31 rfl rfl ?_
        refine po_iconst (v := 2) hF dX7_account_32 (by decide) ?_
        refine po_icmp_le (tgt := 47) hF dX7_account_33 (by decide) hm (fun hm => ?_) (fun hm => ?_)
        · refine po_iconst (v := 0) hF dX7_account_47 (by decide) ?_
          refine po_istore_n (L' := [(3, .int 0), (0, .ref l0), (1, .int l1), (2, .int l2)]) hF dX7_account_48 rfl (by decide) rfl ?_
          refine po_iconst (v := 0) hF dX7_account_49 (by decide) ?_
          refine po_istore (L' := [(4, .int 0), (3, .int 0), (0, .ref l0), (1, .int l1), (2, .int l2)]) hF dX7_account_50 (by decide) rfl ?_
          refine po_iconst (v := 0) hF dX7_account_52 (by decide) ?_
          refine po_istore (L' := [(5, .int 0), (4, .int 0), (3, .int 0), (0, .ref l0), (1, .int l1), (2, .int l2)]) hF dX7_account_53 (by decide) rfl ?_
          refine po_sub (L' := [(0, .ref l0), (1, .int l1), (2, .int l2), (3, .int 0), (4, .int 0), (5, .int 0)]) rfl ?_
          exact w_X7_account_55L hF hL HL 5000 l0 l1 l2 0 0 0 hm kl0
        · refine po_sub (L' := []) rfl ?_
          exact w_X7_account_36 hF hL HL hm
    · refine po_sub (L' := []) rfl ?_
      exact w_X7_account_16 hF hL HL hm
theorem c_X7_account {K : po_K} {R : po_R} {I : po_I} {st : Nat → Nat} {ρ : (Int32 ⊕ String)} (HL : po_Lay K R st) {l0 : Nat} {l1 : Int32} {l2 : Int32} (kl0 : K l0 = (18, 8)) (hm : m_X7_account I l0 l1 l2 = some ρ) : po_C st yX7_account cX7_account 6 (some .int) 6 1 6 [.ref l0, .int l1, .int l2] K R I none (po_oi (ρ)) K R I none := by
  refine po_ofC (by decide +kernel) (Nat.le_of_ble_eq_true rfl) (fun X G hF hL => ?_)
  exact w_X7_account_e hF hL HL l0 l1 l2 kl0 hm
set_option maxRecDepth 20000 in
set_option maxHeartbeats 2000000 in
theorem w_X7_meanFloorArea_50 {X : po_X} {G : po_G} {st : Nat → Nat} {K : po_K} {I : po_I} {R : po_R} {ρ : (UInt32 ⊕ String)} {r6 : Nat → Int32 → Int32 → Int32 → Option ((UInt32 ⊕ String))} (hF : po_F X G cX7_meanFloorArea RX7 4 st) (hL : po_L X (some .float) 6 1 6 "meanFloorArea") (HL : po_Lay K R st) (h6 : ∀ (l0 : Nat) (l1 : Int32) (l2 : Int32) (l3 : Int32), r6 l0 l1 l2 l3 = some ρ → K l0 = (18, 8) → po_V X G 4 (po_Q X G (po_of (ρ)) K R I none 1 6) 0 0 6 [(0, .ref l0), (1, .int l1), (2, .int l2), (3, .int l3)] [] K R I none) (l0 : Nat) (l1 : Int32) (l2 : Int32) (l3 : Int32) (kl0 : K l0 = (18, 8)) (hm : m_X7_meanFloorArea_50 I r6 l0 l1 l2 l3 = some ρ) : po_V X G 4 (po_Q X G (po_of (ρ)) K R I none 1 6) 0 0 50 [(0, .ref l0), (1, .int l1), (2, .int l2), (3, .int l3)] [] K R I none := by
  unfold m_X7_meanFloorArea_50 at hm
  refine po_iinc (v := l3 + 1) (L' := [(3, .int (l3 + 1)), (0, .ref l0), (1, .int l1), (2, .int l2)]) hF dX7_meanFloorArea_50 rfl rfl (by decide) rfl ?_
  refine po_goto (tgt := 6) hF dX7_meanFloorArea_53 (by decide) ?_
  refine po_sub (L' := [(0, .ref l0), (1, .int l1), (2, .int l2), (3, .int (l3 + 1))]) rfl ?_
  exact h6 l0 l1 l2 (l3 + 1) hm kl0
set_option maxRecDepth 20000 in
set_option maxHeartbeats 2000000 in
theorem w_X7_meanFloorArea_6 {X : po_X} {G : po_G} {st : Nat → Nat} {K : po_K} {I : po_I} {R : po_R} {ρ : (UInt32 ⊕ String)} {r6 : Nat → Int32 → Int32 → Int32 → Option ((UInt32 ⊕ String))} (hF : po_F X G cX7_meanFloorArea RX7 4 st) (hL : po_L X (some .float) 6 1 6 "meanFloorArea") (HL : po_Lay K R st) (h6 : ∀ (l0 : Nat) (l1 : Int32) (l2 : Int32) (l3 : Int32), r6 l0 l1 l2 l3 = some ρ → K l0 = (18, 8) → po_V X G 4 (po_Q X G (po_of (ρ)) K R I none 1 6) 0 0 6 [(0, .ref l0), (1, .int l1), (2, .int l2), (3, .int l3)] [] K R I none) (l0 : Nat) (l1 : Int32) (l2 : Int32) (l3 : Int32) (kl0 : K l0 = (18, 8)) (hm : m_X7_meanFloorArea_6 I r6 l0 l1 l2 l3 = some ρ) : po_V X G 4 (po_Q X G (po_of (ρ)) K R I none 1 6) 0 0 6 [(0, .ref l0), (1, .int l1), (2, .int l2), (3, .int l3)] [] K R I none := by
  unfold m_X7_meanFloorArea_6 at hm
  refine po_iload_n hF dX7_meanFloorArea_6 rfl rfl ?_
  refine po_aload_n hF dX7_meanFloorArea_7 rfl rfl ?_
  refine po_getf (v := .ref (l0 + 8)) hF dX7_meanFloorArea_8 fl_X7_26 kl0 (ly_7_2 HL kl0).1 ?_
  refine po_getf (v := .int (I (l0 + 8) 5)) hF dX7_meanFloorArea_11 fl_X7_212 ((ly_7_2 HL kl0).2) rfl ?_
  refine po_icmp_ge (tgt := 56) hF dX7_meanFloorArea_14 (by decide) hm (fun hm => ?_) (fun hm => ?_)
  · refine po_iload_n hF dX7_meanFloorArea_56 rfl rfl ?_
    refine po_if_ne (tgt := 71) hF dX7_meanFloorArea_57 (by decide) hm (fun hm => ?_) (fun hm => ?_)
    · refine po_iload_n hF dX7_meanFloorArea_71 rfl rfl ?_
      refine po_i2f hF dX7_meanFloorArea_72 ?_
      refine po_iload_n hF dX7_meanFloorArea_73 rfl rfl ?_
      refine po_i2f hF dX7_meanFloorArea_74 ?_
      obtain ⟨hn, hm⟩ := po_gnE hm
      refine po_fdiv hF dX7_meanFloorArea_75 hn ?_
      cases hm
      exact po_fret hF hL dX7_meanFloorArea_76 (by decide) (by decide) rfl rfl rfl (Or.inl rfl)
    · cases hm
      exact po_throwW hF hL tw_X7_357_359 dX7_meanFloorArea_60 dX7_meanFloorArea_63 dX7_meanFloorArea_64 dX7_meanFloorArea_67 dX7_meanFloorArea_70 (by decide) (Nat.le_of_ble_eq_true rfl) (by decide) (by decide) rfl rfl rfl
  · refine po_aload_n hF dX7_meanFloorArea_17 rfl rfl ?_
    refine po_getf (v := .ref (l0 + 8)) hF dX7_meanFloorArea_18 fl_X7_26 kl0 (ly_7_2 HL kl0).1 ?_
    refine po_getf (v := .ref ((l0 + 8) + 3)) hF dX7_meanFloorArea_21 fl_X7_215 ((ly_7_2 HL kl0).2) (ly_5_4 HL ((ly_7_2 HL kl0).2)).1 ?_
    refine po_iload_n hF dX7_meanFloorArea_24 rfl rfl ?_
    refine po_aald hF dX7_meanFloorArea_25 ((ly_5_4 HL ((ly_7_2 HL kl0).2)).2) (Or.inr (Or.inl rfl)) hm (fun hi1 => (le_5_4 HL ((ly_7_2 HL kl0).2) (po_in_lt hi1)).1) (fun hi1 hm => ?_)
    obtain ⟨x2, hx2, hm⟩ := po_bind hm
    refine po_callV (As := []) hF dX7_meanFloorArea_26 wq_959 mv_X2_stands ws_X2_stands (show po_cl[2]? = some _ from rfl) rfl ((le_5_4 HL ((ly_7_2 HL kl0).2) (po_in_lt hi1)).2) (c_X2_stands HL ((le_5_4 HL ((ly_7_2 HL kl0).2) (po_in_lt hi1)).2) hx2) rfl (po_rtL hL rfl) (Nat.le_of_ble_eq_true rfl) rfl ?_
    refine po_if_eq (tgt := 50) hF dX7_meanFloorArea_29 (by decide) hm (fun hm => ?_) (fun hm => ?_)
    · exact w_X7_meanFloorArea_50 hF hL HL h6 l0 l1 l2 l3 kl0 hm
    · refine po_iload_n hF dX7_meanFloorArea_32 rfl rfl ?_
      refine po_aload_n hF dX7_meanFloorArea_33 rfl rfl ?_
      refine po_getf (v := .ref (l0 + 8)) hF dX7_meanFloorArea_34 fl_X7_26 kl0 (ly_7_2 HL kl0).1 ?_
      refine po_getf (v := .ref ((l0 + 8) + 3)) hF dX7_meanFloorArea_37 fl_X7_215 ((ly_7_2 HL kl0).2) (ly_5_4 HL ((ly_7_2 HL kl0).2)).1 ?_
      refine po_iload_n hF dX7_meanFloorArea_40 rfl rfl ?_
      refine po_aald hF dX7_meanFloorArea_41 ((ly_5_4 HL ((ly_7_2 HL kl0).2)).2) (Or.inr (Or.inl rfl)) hm (fun hi3 => (le_5_4 HL ((ly_7_2 HL kl0).2) (po_in_lt hi3)).1) (fun hi3 hm => ?_)
      obtain ⟨x4, hx4, hm⟩ := po_bind hm
      refine po_callV (As := []) hF dX7_meanFloorArea_42 wq_864 mv_X2_floorArea ws_X2_floorArea (show po_cl[2]? = some _ from rfl) rfl ((le_5_4 HL ((ly_7_2 HL kl0).2) (po_in_lt hi3)).2) (c_X2_floorArea HL ((le_5_4 HL ((ly_7_2 HL kl0).2) (po_in_lt hi3)).2) hx4) rfl (po_rtL hL rfl) (Nat.le_of_ble_eq_true rfl) rfl ?_
      refine po_iadd hF dX7_meanFloorArea_45 ?_
      refine po_top hm (fun v5 hm => ?_)
      refine po_istore_n (L' := [(1, .int v5), (0, .ref l0), (2, .int l2), (3, .int l3)]) hF dX7_meanFloorArea_46 rfl (by decide) rfl ?_
      refine po_iinc (v := l2 + 1) (L' := [(2, .int (l2 + 1)), (1, .int v5), (0, .ref l0), (3, .int l3)]) hF dX7_meanFloorArea_47 rfl rfl (by decide) rfl ?_
      refine po_sub (L' := [(0, .ref l0), (1, .int v5), (2, .int (l2 + 1)), (3, .int l3)]) rfl ?_
      exact w_X7_meanFloorArea_50 hF hL HL h6 l0 v5 (l2 + 1) l3 kl0 hm
theorem w_X7_meanFloorArea_6L {X : po_X} {G : po_G} {st : Nat → Nat} {K : po_K} {I : po_I} {R : po_R} {ρ : (UInt32 ⊕ String)} (hF : po_F X G cX7_meanFloorArea RX7 4 st) (hL : po_L X (some .float) 6 1 6 "meanFloorArea") (HL : po_Lay K R st) : ∀ (n : Nat) (l0 : Nat) (l1 : Int32) (l2 : Int32) (l3 : Int32), m_X7_meanFloorArea_6L I n l0 l1 l2 l3 = some ρ → K l0 = (18, 8) → po_V X G 4 (po_Q X G (po_of (ρ)) K R I none 1 6) 0 0 6 [(0, .ref l0), (1, .int l1), (2, .int l2), (3, .int l3)] [] K R I none := by
  intro n
  induction n with
  | zero => intro l0 l1 l2 l3 hm; cases hm
  | succ n ih => intro l0 l1 l2 l3 hm kl0; exact w_X7_meanFloorArea_6 hF hL HL (ih) l0 l1 l2 l3 kl0 hm
set_option maxRecDepth 20000 in
set_option maxHeartbeats 2000000 in
theorem w_X7_meanFloorArea_e {X : po_X} {G : po_G} {st : Nat → Nat} {K : po_K} {I : po_I} {R : po_R} {ρ : (UInt32 ⊕ String)} (hF : po_F X G cX7_meanFloorArea RX7 4 st) (hL : po_L X (some .float) 6 1 6 "meanFloorArea") (HL : po_Lay K R st) (l0 : Nat) (kl0 : K l0 = (18, 8)) (hm : m_X7_meanFloorArea_e I l0 = some ρ) : po_V X G 4 (po_Q X G (po_of (ρ)) K R I none 1 6) 0 0 0 [(0, .ref l0)] [] K R I none := by
  unfold m_X7_meanFloorArea_e at hm
  refine po_iconst (v := 0) hF dX7_meanFloorArea_0 (by decide) ?_
  refine po_istore_n (L' := [(1, .int 0), (0, .ref l0)]) hF dX7_meanFloorArea_1 rfl (by decide) rfl ?_
  refine po_iconst (v := 0) hF dX7_meanFloorArea_2 (by decide) ?_
  refine po_istore_n (L' := [(2, .int 0), (1, .int 0), (0, .ref l0)]) hF dX7_meanFloorArea_3 rfl (by decide) rfl ?_
  refine po_iconst (v := 0) hF dX7_meanFloorArea_4 (by decide) ?_
  refine po_istore_n (L' := [(3, .int 0), (2, .int 0), (1, .int 0), (0, .ref l0)]) hF dX7_meanFloorArea_5 rfl (by decide) rfl ?_
  refine po_sub (L' := [(0, .ref l0), (1, .int 0), (2, .int 0), (3, .int 0)]) rfl ?_
  exact w_X7_meanFloorArea_6L hF hL HL 5000 l0 0 0 0 hm kl0
theorem c_X7_meanFloorArea {K : po_K} {R : po_R} {I : po_I} {st : Nat → Nat} {ρ : (UInt32 ⊕ String)} (HL : po_Lay K R st) {l0 : Nat} (kl0 : K l0 = (18, 8)) (hm : m_X7_meanFloorArea I l0 = some ρ) : po_C st yX7_meanFloorArea cX7_meanFloorArea 4 (some .float) 6 1 6 [.ref l0] K R I none (po_of (ρ)) K R I none := by
  refine po_ofC (by decide +kernel) (Nat.le_of_ble_eq_true rfl) (fun X G hF hL => ?_)
  exact w_X7_meanFloorArea_e hF hL HL l0 kl0 hm
set_option maxRecDepth 20000 in
set_option maxHeartbeats 2000000 in
theorem w_X5_permitsWith_28 {X : po_X} {G : po_G} {st : Nat → Nat} {K : po_K} {I : po_I} {R : po_R} {ρ : Int32} {r4 : Nat → Int32 → Int32 → Int32 → Option (Int32)} (hF : po_F X G cX5_permitsWith RX5 4 st) (hL : po_L X (some .int) 0 0 0 "permitsWith") (HL : po_Lay K R st) (h4 : ∀ (l0 : Nat) (l1 : Int32) (l2 : Int32) (l3 : Int32), r4 l0 l1 l2 l3 = some ρ → K l0 = (16, 8) → po_V X G 4 (po_Q X G (.inl (some (.int ρ))) K R I none 0 0) 0 0 4 [(0, .ref l0), (1, .int l1), (2, .int l2), (3, .int l3)] [] K R I none) (l0 : Nat) (l1 : Int32) (l2 : Int32) (l3 : Int32) (kl0 : K l0 = (16, 8)) (hm : m_X5_permitsWith_28 I r4 l0 l1 l2 l3 = some ρ) : po_V X G 4 (po_Q X G (.inl (some (.int ρ))) K R I none 0 0) 0 0 28 [(0, .ref l0), (1, .int l1), (2, .int l2), (3, .int l3)] [] K R I none := by
  unfold m_X5_permitsWith_28 at hm
  refine po_iinc (v := l3 + 1) (L' := [(3, .int (l3 + 1)), (0, .ref l0), (1, .int l1), (2, .int l2)]) hF dX5_permitsWith_28 rfl rfl (by decide) rfl ?_
  refine po_goto (tgt := 4) hF dX5_permitsWith_31 (by decide) ?_
  refine po_sub (L' := [(0, .ref l0), (1, .int l1), (2, .int l2), (3, .int (l3 + 1))]) rfl ?_
  exact h4 l0 l1 l2 (l3 + 1) hm kl0
set_option maxRecDepth 20000 in
set_option maxHeartbeats 2000000 in
theorem w_X5_permitsWith_4 {X : po_X} {G : po_G} {st : Nat → Nat} {K : po_K} {I : po_I} {R : po_R} {ρ : Int32} {r4 : Nat → Int32 → Int32 → Int32 → Option (Int32)} (hF : po_F X G cX5_permitsWith RX5 4 st) (hL : po_L X (some .int) 0 0 0 "permitsWith") (HL : po_Lay K R st) (h4 : ∀ (l0 : Nat) (l1 : Int32) (l2 : Int32) (l3 : Int32), r4 l0 l1 l2 l3 = some ρ → K l0 = (16, 8) → po_V X G 4 (po_Q X G (.inl (some (.int ρ))) K R I none 0 0) 0 0 4 [(0, .ref l0), (1, .int l1), (2, .int l2), (3, .int l3)] [] K R I none) (l0 : Nat) (l1 : Int32) (l2 : Int32) (l3 : Int32) (kl0 : K l0 = (16, 8)) (hm : m_X5_permitsWith_4 I r4 l0 l1 l2 l3 = some ρ) : po_V X G 4 (po_Q X G (.inl (some (.int ρ))) K R I none 0 0) 0 0 4 [(0, .ref l0), (1, .int l1), (2, .int l2), (3, .int l3)] [] K R I none := by
  unfold m_X5_permitsWith_4 at hm
  refine po_iload_n hF dX5_permitsWith_4 rfl rfl ?_
  refine po_aload_n hF dX5_permitsWith_5 rfl rfl ?_
  refine po_getf (v := .int (I l0 5)) hF dX5_permitsWith_6 fl_X5_34 kl0 rfl ?_
  refine po_icmp_ge (tgt := 34) hF dX5_permitsWith_9 (by decide) hm (fun hm => ?_) (fun hm => ?_)
  · refine po_iload_n hF dX5_permitsWith_34 rfl rfl ?_
    cases hm
    exact po_iret hF hL dX5_permitsWith_35 (by decide) (by decide) rfl rfl rfl (Or.inl rfl)
  · refine po_aload_n hF dX5_permitsWith_12 rfl rfl ?_
    refine po_getf (v := .ref (l0 + 3)) hF dX5_permitsWith_13 fl_X5_30 kl0 (ly_5_4 HL kl0).1 ?_
    refine po_iload_n hF dX5_permitsWith_16 rfl rfl ?_
    refine po_aald hF dX5_permitsWith_17 ((ly_5_4 HL kl0).2) (Or.inr (Or.inl rfl)) hm (fun hi1 => (le_5_4 HL kl0 (po_in_lt hi1)).1) (fun hi1 hm => ?_)
    refine po_getf (v := .int (I (l0 + (29 + 5 * (Int32.toNatClampNeg l3))) 6)) hF dX5_permitsWith_18 fl_X5_121 ((le_5_4 HL kl0 (po_in_lt hi1)).2) rfl ?_
    refine po_iload_n hF dX5_permitsWith_21 rfl rfl ?_
    refine po_icmp_ne (tgt := 28) hF dX5_permitsWith_22 (by decide) hm (fun hm => ?_) (fun hm => ?_)
    · exact w_X5_permitsWith_28 hF hL HL h4 l0 l1 l2 l3 kl0 hm
    · refine po_iinc (v := l2 + 1) (L' := [(2, .int (l2 + 1)), (0, .ref l0), (1, .int l1), (3, .int l3)]) hF dX5_permitsWith_25 rfl rfl (by decide) rfl ?_
      refine po_sub (L' := [(0, .ref l0), (1, .int l1), (2, .int (l2 + 1)), (3, .int l3)]) rfl ?_
      exact w_X5_permitsWith_28 hF hL HL h4 l0 l1 (l2 + 1) l3 kl0 hm
theorem w_X5_permitsWith_4L {X : po_X} {G : po_G} {st : Nat → Nat} {K : po_K} {I : po_I} {R : po_R} {ρ : Int32} (hF : po_F X G cX5_permitsWith RX5 4 st) (hL : po_L X (some .int) 0 0 0 "permitsWith") (HL : po_Lay K R st) : ∀ (n : Nat) (l0 : Nat) (l1 : Int32) (l2 : Int32) (l3 : Int32), m_X5_permitsWith_4L I n l0 l1 l2 l3 = some ρ → K l0 = (16, 8) → po_V X G 4 (po_Q X G (.inl (some (.int ρ))) K R I none 0 0) 0 0 4 [(0, .ref l0), (1, .int l1), (2, .int l2), (3, .int l3)] [] K R I none := by
  intro n
  induction n with
  | zero => intro l0 l1 l2 l3 hm; cases hm
  | succ n ih => intro l0 l1 l2 l3 hm kl0; exact w_X5_permitsWith_4 hF hL HL (ih) l0 l1 l2 l3 kl0 hm
set_option maxRecDepth 20000 in
set_option maxHeartbeats 2000000 in
theorem w_X5_permitsWith_e {X : po_X} {G : po_G} {st : Nat → Nat} {K : po_K} {I : po_I} {R : po_R} {ρ : Int32} (hF : po_F X G cX5_permitsWith RX5 4 st) (hL : po_L X (some .int) 0 0 0 "permitsWith") (HL : po_Lay K R st) (l0 : Nat) (l1 : Int32) (kl0 : K l0 = (16, 8)) (hm : m_X5_permitsWith_e I l0 l1 = some ρ) : po_V X G 4 (po_Q X G (.inl (some (.int ρ))) K R I none 0 0) 0 0 0 [(0, .ref l0), (1, .int l1)] [] K R I none := by
  unfold m_X5_permitsWith_e at hm
  refine po_iconst (v := 0) hF dX5_permitsWith_0 (by decide) ?_
  refine po_istore_n (L' := [(2, .int 0), (0, .ref l0), (1, .int l1)]) hF dX5_permitsWith_1 rfl (by decide) rfl ?_
  refine po_iconst (v := 0) hF dX5_permitsWith_2 (by decide) ?_
  refine po_istore_n (L' := [(3, .int 0), (2, .int 0), (0, .ref l0), (1, .int l1)]) hF dX5_permitsWith_3 rfl (by decide) rfl ?_
  refine po_sub (L' := [(0, .ref l0), (1, .int l1), (2, .int 0), (3, .int 0)]) rfl ?_
  exact w_X5_permitsWith_4L hF hL HL 5000 l0 l1 0 0 hm kl0
theorem c_X5_permitsWith {K : po_K} {R : po_R} {I : po_I} {st : Nat → Nat} {ρ : Int32} (HL : po_Lay K R st) {l0 : Nat} {l1 : Int32} (kl0 : K l0 = (16, 8)) (hm : m_X5_permitsWith I l0 l1 = some ρ) : po_C st yX5_permitsWith cX5_permitsWith 4 (some .int) 0 0 0 [.ref l0, .int l1] K R I none (.inl (some (.int ρ))) K R I none := by
  refine po_ofC (by decide +kernel) (Nat.le_of_ble_eq_true rfl) (fun X G hF hL => ?_)
  exact w_X5_permitsWith_e hF hL HL l0 l1 kl0 hm
set_option maxRecDepth 20000 in
set_option maxHeartbeats 2000000 in
theorem w_X5_cellsInLots_4 {X : po_X} {G : po_G} {st : Nat → Nat} {K : po_K} {I : po_I} {R : po_R} {ρ : Int32} {r4 : Nat → Int32 → Int32 → Option (Int32)} (hF : po_F X G cX5_cellsInLots RX5 3 st) (hL : po_L X (some .int) 0 0 0 "cellsInLots") (HL : po_Lay K R st) (h4 : ∀ (l0 : Nat) (l1 : Int32) (l2 : Int32), r4 l0 l1 l2 = some ρ → K l0 = (16, 8) → po_V X G 3 (po_Q X G (.inl (some (.int ρ))) K R I none 0 0) 0 0 4 [(0, .ref l0), (1, .int l1), (2, .int l2)] [] K R I none) (l0 : Nat) (l1 : Int32) (l2 : Int32) (kl0 : K l0 = (16, 8)) (hm : m_X5_cellsInLots_4 I r4 l0 l1 l2 = some ρ) : po_V X G 3 (po_Q X G (.inl (some (.int ρ))) K R I none 0 0) 0 0 4 [(0, .ref l0), (1, .int l1), (2, .int l2)] [] K R I none := by
  unfold m_X5_cellsInLots_4 at hm
  refine po_iload_n hF dX5_cellsInLots_4 rfl rfl ?_
  refine po_aload_n hF dX5_cellsInLots_5 rfl rfl ?_
  refine po_getf (v := .int (I l0 3)) hF dX5_cellsInLots_6 fl_X5_25 kl0 rfl ?_
  refine po_icmp_ge (tgt := 30) hF dX5_cellsInLots_9 (by decide) hm (fun hm => ?_) (fun hm => ?_)
  · refine po_iload_n hF dX5_cellsInLots_30 rfl rfl ?_
    cases hm
    exact po_iret hF hL dX5_cellsInLots_31 (by decide) (by decide) rfl rfl rfl (Or.inl rfl)
  · refine po_iload_n hF dX5_cellsInLots_12 rfl rfl ?_
    refine po_aload_n hF dX5_cellsInLots_13 rfl rfl ?_
    refine po_getf (v := .ref (l0 + 2)) hF dX5_cellsInLots_14 fl_X5_21 kl0 (ly_5_2 HL kl0).1 ?_
    refine po_iload_n hF dX5_cellsInLots_17 rfl rfl ?_
    refine po_aald hF dX5_cellsInLots_18 ((ly_5_2 HL kl0).2) (Or.inl rfl) hm (fun hi1 => (le_5_2 HL kl0 (po_in_lt hi1)).1) (fun hi1 hm => ?_)
    refine po_getf (v := .int (I (l0 + (5 + 3 * (Int32.toNatClampNeg l2))) 3)) hF dX5_cellsInLots_19 fl_X5_100 ((le_5_2 HL kl0 (po_in_lt hi1)).2) rfl ?_
    refine po_iadd hF dX5_cellsInLots_22 ?_
    refine po_top hm (fun v2 hm => ?_)
    refine po_istore_n (L' := [(1, .int v2), (0, .ref l0), (2, .int l2)]) hF dX5_cellsInLots_23 rfl (by decide) rfl ?_
    refine po_iinc (v := l2 + 1) (L' := [(2, .int (l2 + 1)), (1, .int v2), (0, .ref l0)]) hF dX5_cellsInLots_24 rfl rfl (by decide) rfl ?_
    refine po_goto (tgt := 4) hF dX5_cellsInLots_27 (by decide) ?_
    refine po_sub (L' := [(0, .ref l0), (1, .int v2), (2, .int (l2 + 1))]) rfl ?_
    exact h4 l0 v2 (l2 + 1) hm kl0
theorem w_X5_cellsInLots_4L {X : po_X} {G : po_G} {st : Nat → Nat} {K : po_K} {I : po_I} {R : po_R} {ρ : Int32} (hF : po_F X G cX5_cellsInLots RX5 3 st) (hL : po_L X (some .int) 0 0 0 "cellsInLots") (HL : po_Lay K R st) : ∀ (n : Nat) (l0 : Nat) (l1 : Int32) (l2 : Int32), m_X5_cellsInLots_4L I n l0 l1 l2 = some ρ → K l0 = (16, 8) → po_V X G 3 (po_Q X G (.inl (some (.int ρ))) K R I none 0 0) 0 0 4 [(0, .ref l0), (1, .int l1), (2, .int l2)] [] K R I none := by
  intro n
  induction n with
  | zero => intro l0 l1 l2 hm; cases hm
  | succ n ih => intro l0 l1 l2 hm kl0; exact w_X5_cellsInLots_4 hF hL HL (ih) l0 l1 l2 kl0 hm
set_option maxRecDepth 20000 in
set_option maxHeartbeats 2000000 in
theorem w_X5_cellsInLots_e {X : po_X} {G : po_G} {st : Nat → Nat} {K : po_K} {I : po_I} {R : po_R} {ρ : Int32} (hF : po_F X G cX5_cellsInLots RX5 3 st) (hL : po_L X (some .int) 0 0 0 "cellsInLots") (HL : po_Lay K R st) (l0 : Nat) (kl0 : K l0 = (16, 8)) (hm : m_X5_cellsInLots_e I l0 = some ρ) : po_V X G 3 (po_Q X G (.inl (some (.int ρ))) K R I none 0 0) 0 0 0 [(0, .ref l0)] [] K R I none := by
  unfold m_X5_cellsInLots_e at hm
  refine po_iconst (v := 0) hF dX5_cellsInLots_0 (by decide) ?_
  refine po_istore_n (L' := [(1, .int 0), (0, .ref l0)]) hF dX5_cellsInLots_1 rfl (by decide) rfl ?_
  refine po_iconst (v := 0) hF dX5_cellsInLots_2 (by decide) ?_
  refine po_istore_n (L' := [(2, .int 0), (1, .int 0), (0, .ref l0)]) hF dX5_cellsInLots_3 rfl (by decide) rfl ?_
  refine po_sub (L' := [(0, .ref l0), (1, .int 0), (2, .int 0)]) rfl ?_
  exact w_X5_cellsInLots_4L hF hL HL 5000 l0 0 0 hm kl0
theorem c_X5_cellsInLots {K : po_K} {R : po_R} {I : po_I} {st : Nat → Nat} {ρ : Int32} (HL : po_Lay K R st) {l0 : Nat} (kl0 : K l0 = (16, 8)) (hm : m_X5_cellsInLots I l0 = some ρ) : po_C st yX5_cellsInLots cX5_cellsInLots 3 (some .int) 0 0 0 [.ref l0] K R I none (.inl (some (.int ρ))) K R I none := by
  refine po_ofC (by decide +kernel) (Nat.le_of_ble_eq_true rfl) (fun X G hF hL => ?_)
  exact w_X5_cellsInLots_e hF hL HL l0 kl0 hm
set_option maxRecDepth 20000 in
set_option maxHeartbeats 2000000 in
theorem w_X7_count_141 {X : po_X} {G : po_G} {st : Nat → Nat} {K : po_K} {I : po_I} {R : po_R} {ρ : (Int32 ⊕ String)} (hF : po_F X G cX7_count RX7 2 st) (hL : po_L X (some .int) 6 1 6 "count") (HL : po_Lay K R st) (hm : m_X7_count_141 I = some ρ) : po_V X G 2 (po_Q X G (po_oi (ρ)) K R I none 1 6) 0 0 141 [] [] K R I none := by
  unfold m_X7_count_141 at hm
  cases hm
  exact po_throwW hF hL tw_X7_369_52 dX7_count_141 dX7_count_144 dX7_count_145 dX7_count_148 dX7_count_151 (by decide) (Nat.le_of_ble_eq_true rfl) (by decide) (by decide) rfl rfl rfl
set_option maxRecDepth 20000 in
set_option maxHeartbeats 2000000 in
theorem w_X7_count_e {X : po_X} {G : po_G} {st : Nat → Nat} {K : po_K} {I : po_I} {R : po_R} {ρ : (Int32 ⊕ String)} (hF : po_F X G cX7_count RX7 2 st) (hL : po_L X (some .int) 6 1 6 "count") (HL : po_Lay K R st) (l0 : Nat) (l1 : Int32) (kl0 : K l0 = (18, 8)) (hm : m_X7_count_e I l0 l1 = some ρ) : po_V X G 2 (po_Q X G (po_oi (ρ)) K R I none 1 6) 0 0 0 [(0, .ref l0), (1, .int l1)] [] K R I none := by
  unfold m_X7_count_e at hm
  refine po_iload_n hF dX7_count_0 rfl rfl ?_
  by_cases hs0 : l1 = 0
  · rw [if_pos hs0] at hm
    refine po_tin (c := 0) (tgt := 48) (off := 47) hF dX7_count_1 hs0 (by decide) (by decide) (by decide) (by decide) ?_
    refine po_aload_n hF dX7_count_48 rfl rfl ?_
    refine po_getf (v := .ref (l0 + 8)) hF dX7_count_49 fl_X7_26 kl0 (ly_7_2 HL kl0).1 ?_
    refine po_getf (v := .int (I (l0 + 8) 3)) hF dX7_count_52 fl_X7_360 ((ly_7_2 HL kl0).2) rfl ?_
    cases hm
    exact po_iret hF hL dX7_count_55 (by decide) (by decide) rfl rfl rfl (Or.inl rfl)
  rw [if_neg hs0] at hm
  by_cases hs1 : l1 = 1
  · rw [if_pos hs1] at hm
    refine po_tin (c := 1) (tgt := 56) (off := 55) hF dX7_count_1 hs1 (by decide) (by decide) (by decide) (by decide) ?_
    refine po_aload_n hF dX7_count_56 rfl rfl ?_
    refine po_getf (v := .ref (l0 + 8)) hF dX7_count_57 fl_X7_26 kl0 (ly_7_2 HL kl0).1 ?_
    refine po_getf (v := .int (I (l0 + 8) 5)) hF dX7_count_60 fl_X7_212 ((ly_7_2 HL kl0).2) rfl ?_
    cases hm
    exact po_iret hF hL dX7_count_63 (by decide) (by decide) rfl rfl rfl (Or.inl rfl)
  rw [if_neg hs1] at hm
  by_cases hs2 : l1 = 2
  · rw [if_pos hs2] at hm
    refine po_tin (c := 2) (tgt := 64) (off := 63) hF dX7_count_1 hs2 (by decide) (by decide) (by decide) (by decide) ?_
    refine po_aload_n hF dX7_count_64 rfl rfl ?_
    refine po_getf (v := .ref (l0 + 8)) hF dX7_count_65 fl_X7_26 kl0 (ly_7_2 HL kl0).1 ?_
    refine po_getf (v := .int (I (l0 + 8) 7)) hF dX7_count_68 fl_X7_271 ((ly_7_2 HL kl0).2) rfl ?_
    cases hm
    exact po_iret hF hL dX7_count_71 (by decide) (by decide) rfl rfl rfl (Or.inl rfl)
  rw [if_neg hs2] at hm
  by_cases hs3 : l1 = 3
  · rw [if_pos hs3] at hm
    refine po_tin (c := 3) (tgt := 72) (off := 71) hF dX7_count_1 hs3 (by decide) (by decide) (by decide) (by decide) ?_
    refine po_aload_n hF dX7_count_72 rfl rfl ?_
    refine po_getf (v := .ref (l0 + 8)) hF dX7_count_73 fl_X7_26 kl0 (ly_7_2 HL kl0).1 ?_
    refine po_getf (v := .int (I (l0 + 8) 0)) hF dX7_count_76 fl_X7_239 ((ly_7_2 HL kl0).2) rfl ?_
    cases hm
    exact po_iret hF hL dX7_count_79 (by decide) (by decide) rfl rfl rfl (Or.inl rfl)
  rw [if_neg hs3] at hm
  by_cases hs4 : l1 = 4
  · rw [if_pos hs4] at hm
    refine po_tin (c := 4) (tgt := 80) (off := 79) hF dX7_count_1 hs4 (by decide) (by decide) (by decide) (by decide) ?_
    refine po_aload_n hF dX7_count_80 rfl rfl ?_
    refine po_getf (v := .ref (l0 + 8)) hF dX7_count_81 fl_X7_26 kl0 (ly_7_2 HL kl0).1 ?_
    refine po_iconst (v := 2) hF dX7_count_84 (by decide) ?_
    obtain ⟨x1, hx1, hm⟩ := po_bind hm
    refine po_callV (As := [.int 2]) hF dX7_count_85 wq_1184 mv_X5_permitsWith ws_X5_permitsWith (show po_cl[5]? = some _ from rfl) rfl ((ly_7_2 HL kl0).2) (c_X5_permitsWith HL ((ly_7_2 HL kl0).2) hx1) rfl (po_rtL hL rfl) (Nat.le_of_ble_eq_true rfl) rfl ?_
    refine po_aload_n hF dX7_count_88 rfl rfl ?_
    refine po_getf (v := .ref (l0 + 8)) hF dX7_count_89 fl_X7_26 kl0 (ly_7_2 HL kl0).1 ?_
    refine po_iconst (v := 3) hF dX7_count_92 (by decide) ?_
    obtain ⟨x2, hx2, hm⟩ := po_bind hm
    refine po_callV (As := [.int 3]) hF dX7_count_93 wq_1184 mv_X5_permitsWith ws_X5_permitsWith (show po_cl[5]? = some _ from rfl) rfl ((ly_7_2 HL kl0).2) (c_X5_permitsWith HL ((ly_7_2 HL kl0).2) hx2) rfl (po_rtL hL rfl) (Nat.le_of_ble_eq_true rfl) rfl ?_
    refine po_iadd hF dX7_count_96 ?_
    refine po_aload_n hF dX7_count_97 rfl rfl ?_
    refine po_getf (v := .ref (l0 + 8)) hF dX7_count_98 fl_X7_26 kl0 (ly_7_2 HL kl0).1 ?_
    refine po_bipush (v := 6) hF dX7_count_101 (by decide) ?_
    obtain ⟨x3, hx3, hm⟩ := po_bind hm
    refine po_callV (As := [.int 6]) hF dX7_count_103 wq_1184 mv_X5_permitsWith ws_X5_permitsWith (show po_cl[5]? = some _ from rfl) rfl ((ly_7_2 HL kl0).2) (c_X5_permitsWith HL ((ly_7_2 HL kl0).2) hx3) rfl (po_rtL hL rfl) (Nat.le_of_ble_eq_true rfl) rfl ?_
    refine po_iadd hF dX7_count_106 ?_
    cases hm
    exact po_iret hF hL dX7_count_107 (by decide) (by decide) rfl rfl rfl (Or.inl rfl)
  rw [if_neg hs4] at hm
  by_cases hs5 : l1 = 5
  · rw [if_pos hs5] at hm
    refine po_tin (c := 5) (tgt := 108) (off := 107) hF dX7_count_1 hs5 (by decide) (by decide) (by decide) (by decide) ?_
    refine po_aload_n hF dX7_count_108 rfl rfl ?_
    refine po_getf (v := .ref (l0 + 8)) hF dX7_count_109 fl_X7_26 kl0 (ly_7_2 HL kl0).1 ?_
    obtain ⟨x4, hx4, hm⟩ := po_bind hm
    refine po_callV (As := []) hF dX7_count_112 wq_1188 mv_X5_cellsInLots ws_X5_cellsInLots (show po_cl[5]? = some _ from rfl) rfl ((ly_7_2 HL kl0).2) (c_X5_cellsInLots HL ((ly_7_2 HL kl0).2) hx4) rfl (po_rtL hL rfl) (Nat.le_of_ble_eq_true rfl) rfl ?_
    cases hm
    exact po_iret hF hL dX7_count_115 (by decide) (by decide) rfl rfl rfl (Or.inl rfl)
  rw [if_neg hs5] at hm
  by_cases hs6 : l1 = 6
  · rw [if_pos hs6] at hm
    refine po_tin (c := 6) (tgt := 116) (off := 115) hF dX7_count_1 hs6 (by decide) (by decide) (by decide) (by decide) ?_
    refine po_aload_n hF dX7_count_116 rfl rfl ?_
    refine po_getf (v := .int (I l0 7)) hF dX7_count_117 fl_X7_44 kl0 rfl ?_
    cases hm
    exact po_iret hF hL dX7_count_120 (by decide) (by decide) rfl rfl rfl (Or.inl rfl)
  rw [if_neg hs6] at hm
  by_cases hs7 : l1 = 7
  · rw [if_pos hs7] at hm
    refine po_tin (c := 7) (tgt := 121) (off := 120) hF dX7_count_1 hs7 (by decide) (by decide) (by decide) (by decide) ?_
    refine po_aload_n hF dX7_count_121 rfl rfl ?_
    refine po_getf (v := .ref (l0 + 1)) hF dX7_count_122 fl_X7_10 kl0 (ly_7_0 HL kl0).1 ?_
    refine po_getf (v := .int (I (l0 + 1) 1)) hF dX7_count_125 fl_X7_55 ((ly_7_0 HL kl0).2) rfl ?_
    cases hm
    exact po_iret hF hL dX7_count_128 (by decide) (by decide) rfl rfl rfl (Or.inl rfl)
  rw [if_neg hs7] at hm
  refine po_tout (tgt := 129) hF dX7_count_1 (po_tdef (lo := 0) (m := 8) (fun j hj => by
    rcases (show j = 0 ∨ j = 1 ∨ j = 2 ∨ j = 3 ∨ j = 4 ∨ j = 5 ∨ j = 6 ∨ j = 7 by omega) with rfl | rfl | rfl | rfl | rfl | rfl | rfl | rfl
    · exact po_neI (c := 0) hs0 (by decide)
    · exact po_neI (c := 1) hs1 (by decide)
    · exact po_neI (c := 2) hs2 (by decide)
    · exact po_neI (c := 3) hs3 (by decide)
    · exact po_neI (c := 4) hs4 (by decide)
    · exact po_neI (c := 5) hs5 (by decide)
    · exact po_neI (c := 6) hs6 (by decide)
    · exact po_neI (c := 7) hs7 (by decide)
    )) (by decide) ?_
  refine po_iload_n hF dX7_count_129 rfl rfl ?_
  refine po_bipush (v := 10) hF dX7_count_130 (by decide) ?_
  refine po_icmp_lt (tgt := 141) hF dX7_count_132 (by decide) hm (fun hm => ?_) (fun hm => ?_)
  · refine po_sub (L' := []) rfl ?_
    exact w_X7_count_141 hF hL HL hm
  · refine po_iload_n hF dX7_count_135 rfl rfl ?_
    refine po_bipush (v := 17) hF dX7_count_136 (by decide) ?_
    refine po_icmp_lt (tgt := 152) hF dX7_count_138 (by decide) hm (fun hm => ?_) (fun hm => ?_)
    · refine po_aload_n hF dX7_count_152 rfl rfl ?_
      refine po_getf (v := .ref (l0 + 8)) hF dX7_count_153 fl_X7_26 kl0 (ly_7_2 HL kl0).1 ?_
      refine po_iload_n hF dX7_count_156 rfl rfl ?_
      refine po_bipush (v := 10) hF dX7_count_157 (by decide) ?_
      refine po_isub hF dX7_count_159 ?_
      obtain ⟨x5, hx5, hm⟩ := po_bind hm
      refine po_callV (As := [.int (l1 - 10)]) hF dX7_count_160 wq_1184 mv_X5_permitsWith ws_X5_permitsWith (show po_cl[5]? = some _ from rfl) rfl ((ly_7_2 HL kl0).2) (c_X5_permitsWith HL ((ly_7_2 HL kl0).2) hx5) rfl (po_rtL hL rfl) (Nat.le_of_ble_eq_true rfl) rfl ?_
      cases hm
      exact po_iret hF hL dX7_count_163 (by decide) (by decide) rfl rfl rfl (Or.inl rfl)
    · refine po_sub (L' := []) rfl ?_
      exact w_X7_count_141 hF hL HL hm
theorem c_X7_count {K : po_K} {R : po_R} {I : po_I} {st : Nat → Nat} {ρ : (Int32 ⊕ String)} (HL : po_Lay K R st) {l0 : Nat} {l1 : Int32} (kl0 : K l0 = (18, 8)) (hm : m_X7_count I l0 l1 = some ρ) : po_C st yX7_count cX7_count 2 (some .int) 6 1 6 [.ref l0, .int l1] K R I none (po_oi (ρ)) K R I none := by
  refine po_ofC (by decide +kernel) (Nat.le_of_ble_eq_true rfl) (fun X G hF hL => ?_)
  exact w_X7_count_e hF hL HL l0 l1 kl0 hm
set_option maxRecDepth 20000 in
set_option maxHeartbeats 2000000 in
theorem w_X7_undo_16 {X : po_X} {G : po_G} {st : Nat → Nat} {K : po_K} {R : po_R} {ρ : (Int32 ⊕ String) × po_I} (hF : po_F X G cX7_undo RX7 1 st) (hL : po_L X (some .int) 6 1 6 "undo") (HL : po_Lay K R st) (I : po_I) (hm : m_X7_undo_16 R I = some ρ) : po_V X G 1 (po_Q X G (po_oi (ρ.1)) K R (ρ.2) none 1 6) 0 0 16 [] [] K R I none := by
  unfold m_X7_undo_16 at hm
  cases hm
  exact po_throwW hF hL tw_X7_371_62 dX7_undo_16 dX7_undo_19 dX7_undo_20 dX7_undo_23 dX7_undo_26 (by decide) (Nat.le_of_ble_eq_true rfl) (by decide) (by decide) rfl rfl rfl
set_option maxRecDepth 20000 in
set_option maxHeartbeats 2000000 in
theorem w_X7_undo_e {X : po_X} {G : po_G} {st : Nat → Nat} {K : po_K} {R : po_R} {ρ : (Int32 ⊕ String) × po_I} (hF : po_F X G cX7_undo RX7 1 st) (hL : po_L X (some .int) 6 1 6 "undo") (HL : po_Lay K R st) (I : po_I) (l0 : Nat) (kl0 : K l0 = (18, 8)) (hm : m_X7_undo_e R I l0 = some ρ) : po_V X G 1 (po_Q X G (po_oi (ρ.1)) K R (ρ.2) none 1 6) 0 0 0 [(0, .ref l0)] [] K R I none := by
  unfold m_X7_undo_e at hm
  refine po_aload_n hF dX7_undo_0 rfl rfl ?_
  refine po_getf (v := .int (I l0 7)) hF dX7_undo_1 fl_X7_44 kl0 rfl ?_
  refine po_if_le (tgt := 16) hF dX7_undo_4 (by decide) hm (fun hm => ?_) (fun hm => ?_)
  · refine po_sub (L' := []) rfl ?_
    exact w_X7_undo_16 hF hL HL I hm
  · refine po_aload_n hF dX7_undo_7 rfl rfl ?_
    refine po_getf (v := .int (I l0 7)) hF dX7_undo_8 fl_X7_44 kl0 rfl ?_
    refine po_bipush (v := 6) hF dX7_undo_11 (by decide) ?_
    refine po_icmp_le (tgt := 27) hF dX7_undo_13 (by decide) hm (fun hm => ?_) (fun hm => ?_)
    · refine po_aload_n hF dX7_undo_27 rfl rfl ?_
      refine po_dup hF dX7_undo_28 rfl ?_
      refine po_getf (v := .int (I l0 7)) hF dX7_undo_29 fl_X7_44 kl0 rfl ?_
      refine po_iconst (v := 1) hF dX7_undo_32 (by decide) ?_
      refine po_isub hF dX7_undo_33 ?_
      refine po_puti hF dX7_undo_34 fl_X7_44 kl0 (by intro r h; cases h; rfl) rfl rfl (fun _ => rfl) rfl ?_
      refine po_hname hm (fun I1 hm => ?_)
      refine po_aload_n hF dX7_undo_37 rfl rfl ?_
      refine po_getf (v := .ref (l0 + 8)) hF dX7_undo_38 fl_X7_26 kl0 (ly_7_2 HL kl0).1 ?_
      refine po_aload_n hF dX7_undo_41 rfl rfl ?_
      refine po_getf (v := .ref (l0 + 281)) hF dX7_undo_42 fl_X7_40 kl0 (ly_7_6 HL kl0).1 ?_
      refine po_aload_n hF dX7_undo_45 rfl rfl ?_
      refine po_getf (v := .int (I1 l0 7)) hF dX7_undo_46 fl_X7_44 kl0 rfl ?_
      refine po_aald hF dX7_undo_49 ((ly_7_6 HL kl0).2) (Or.inr (Or.inr (Or.inr rfl))) hm (fun hi2 => (le_7_6 HL kl0 (po_in_lt hi2)).1) (fun hi2 hm => ?_)
      obtain ⟨x3, hx3, hm⟩ := po_bind hm
      refine po_callV (As := [.ref (po_rf (R (l0 + 281) (Int32.toNatClampNeg (I1 l0 7))))]) hF dX7_undo_50 wq_419 mv_X5_copyFrom ws_X5_copyFrom (show po_cl[5]? = some _ from rfl) rfl ((ly_7_2 HL kl0).2) (c_X5_copyFrom HL ((ly_7_2 HL kl0).2) ((le_7_6 HL kl0 (po_in_lt hi2)).2) hx3) rfl (po_rtL hL rfl) (Nat.le_of_ble_eq_true rfl) rfl ?_
      refine po_aload_n hF dX7_undo_53 rfl rfl ?_
      refine po_getf (v := .int (x3 l0 7)) hF dX7_undo_54 fl_X7_44 kl0 rfl ?_
      cases hm
      exact po_iret hF hL dX7_undo_57 (by decide) (by decide) rfl rfl rfl (Or.inl rfl)
    · refine po_sub (L' := []) rfl ?_
      exact w_X7_undo_16 hF hL HL I hm
theorem c_X7_undo {K : po_K} {R : po_R} {I : po_I} {st : Nat → Nat} {ρ : (Int32 ⊕ String) × po_I} (HL : po_Lay K R st) {l0 : Nat} (kl0 : K l0 = (18, 8)) (hm : m_X7_undo R I l0 = some ρ) : po_C st yX7_undo cX7_undo 1 (some .int) 6 1 6 [.ref l0] K R I none (po_oi (ρ.1)) K R (ρ.2) none := by
  refine po_ofC (by decide +kernel) (Nat.le_of_ble_eq_true rfl) (fun X G hF hL => ?_)
  exact w_X7_undo_e hF hL HL I l0 kl0 hm
set_option maxRecDepth 20000 in
set_option maxHeartbeats 2000000 in
theorem w_X7_save_e {X : po_X} {G : po_G} {st : Nat → Nat} {K : po_K} {R : po_R} {ρ : Int32 × po_I} (hF : po_F X G cX7_save RX7 1 st) (hL : po_L X (some .int) 4 0 0 "save") (HL : po_Lay K R st) (I : po_I) (l0 : Nat) (kl0 : K l0 = (18, 8)) (hm : m_X7_save_e I l0 = some ρ) : po_V X G 1 (po_Q X G (.inl (some (.int ρ.1))) K R (ρ.2) none 0 0) 0 0 0 [(0, .ref l0)] [] K R I none := by
  unfold m_X7_save_e at hm
  refine po_aload_n hF dX7_save_0 rfl rfl ?_
  refine po_getf (v := .ref (l0 + 190)) hF dX7_save_1 fl_X7_33 kl0 (ly_7_4 HL kl0).1 ?_
  refine po_aload_n hF dX7_save_4 rfl rfl ?_
  refine po_getf (v := .ref (l0 + 8)) hF dX7_save_5 fl_X7_26 kl0 (ly_7_2 HL kl0).1 ?_
  obtain ⟨x1, hx1, hm⟩ := po_bind hm
  refine po_callV (As := [.ref (l0 + 8)]) hF dX7_save_8 wq_419 mv_X5_copyFrom ws_X5_copyFrom (show po_cl[5]? = some _ from rfl) rfl ((ly_7_4 HL kl0).2) (c_X5_copyFrom HL ((ly_7_4 HL kl0).2) ((ly_7_2 HL kl0).2) hx1) rfl (po_rtL hL rfl) (Nat.le_of_ble_eq_true rfl) rfl ?_
  refine po_aload_n hF dX7_save_11 rfl rfl ?_
  refine po_iconst (v := 1) hF dX7_save_12 (by decide) ?_
  refine po_putz hF dX7_save_13 fl_X7_36 kl0 (by intro r h; cases h; rfl) rfl (by decide) rfl ?_
  refine po_hname hm (fun I2 hm => ?_)
  refine po_aload_n hF dX7_save_16 rfl rfl ?_
  refine po_getf (v := .ref (l0 + 8)) hF dX7_save_17 fl_X7_26 kl0 (ly_7_2 HL kl0).1 ?_
  refine po_getf (v := .int (I2 (l0 + 8) 5)) hF dX7_save_20 fl_X7_212 ((ly_7_2 HL kl0).2) rfl ?_
  cases hm
  exact po_iret hF hL dX7_save_23 (by decide) (by decide) rfl rfl rfl (Or.inl rfl)
theorem c_X7_save {K : po_K} {R : po_R} {I : po_I} {st : Nat → Nat} {ρ : Int32 × po_I} (HL : po_Lay K R st) {l0 : Nat} (kl0 : K l0 = (18, 8)) (hm : m_X7_save I l0 = some ρ) : po_C st yX7_save cX7_save 1 (some .int) 4 0 0 [.ref l0] K R I none (.inl (some (.int ρ.1))) K R (ρ.2) none := by
  refine po_ofC (by decide +kernel) (Nat.le_of_ble_eq_true rfl) (fun X G hF hL => ?_)
  exact w_X7_save_e hF hL HL I l0 kl0 hm
set_option maxRecDepth 20000 in
set_option maxHeartbeats 2000000 in
theorem w_X7_restore_e {X : po_X} {G : po_G} {st : Nat → Nat} {K : po_K} {R : po_R} {ρ : (Int32 ⊕ String) × po_I} (hF : po_F X G cX7_restore RX7 1 st) (hL : po_L X (some .int) 6 1 6 "restore") (HL : po_Lay K R st) (I : po_I) (l0 : Nat) (kl0 : K l0 = (18, 8)) (hm : m_X7_restore_e I l0 = some ρ) : po_V X G 1 (po_Q X G (po_oi (ρ.1)) K R (ρ.2) none 1 6) 0 0 0 [(0, .ref l0)] [] K R I none := by
  unfold m_X7_restore_e at hm
  refine po_aload_n hF dX7_restore_0 rfl rfl ?_
  refine po_getf (v := .int (vp_nar .boolean (I l0 5))) hF dX7_restore_1 fl_X7_36 kl0 rfl ?_
  refine po_if_ne (tgt := 18) hF dX7_restore_4 (by decide) hm (fun hm => ?_) (fun hm => ?_)
  · refine po_aload_n hF dX7_restore_18 rfl rfl ?_
    refine po_getf (v := .ref (l0 + 8)) hF dX7_restore_19 fl_X7_26 kl0 (ly_7_2 HL kl0).1 ?_
    refine po_aload_n hF dX7_restore_22 rfl rfl ?_
    refine po_getf (v := .ref (l0 + 190)) hF dX7_restore_23 fl_X7_33 kl0 (ly_7_4 HL kl0).1 ?_
    obtain ⟨x1, hx1, hm⟩ := po_bind hm
    refine po_callV (As := [.ref (l0 + 190)]) hF dX7_restore_26 wq_419 mv_X5_copyFrom ws_X5_copyFrom (show po_cl[5]? = some _ from rfl) rfl ((ly_7_2 HL kl0).2) (c_X5_copyFrom HL ((ly_7_2 HL kl0).2) ((ly_7_4 HL kl0).2) hx1) rfl (po_rtL hL rfl) (Nat.le_of_ble_eq_true rfl) rfl ?_
    refine po_aload_n hF dX7_restore_29 rfl rfl ?_
    refine po_iconst (v := 0) hF dX7_restore_30 (by decide) ?_
    refine po_puti hF dX7_restore_31 fl_X7_44 kl0 (by intro r h; cases h; rfl) rfl rfl (fun _ => rfl) rfl ?_
    refine po_hname hm (fun I2 hm => ?_)
    refine po_aload_n hF dX7_restore_34 rfl rfl ?_
    refine po_getf (v := .ref (l0 + 8)) hF dX7_restore_35 fl_X7_26 kl0 (ly_7_2 HL kl0).1 ?_
    refine po_getf (v := .int (I2 (l0 + 8) 5)) hF dX7_restore_38 fl_X7_212 ((ly_7_2 HL kl0).2) rfl ?_
    cases hm
    exact po_iret hF hL dX7_restore_41 (by decide) (by decide) rfl rfl rfl (Or.inl rfl)
  · cases hm
    exact po_throwW hF hL tw_X7_373_62 dX7_restore_7 dX7_restore_10 dX7_restore_11 dX7_restore_14 dX7_restore_17 (by decide) (Nat.le_of_ble_eq_true rfl) (by decide) (by decide) rfl rfl rfl
theorem c_X7_restore {K : po_K} {R : po_R} {I : po_I} {st : Nat → Nat} {ρ : (Int32 ⊕ String) × po_I} (HL : po_Lay K R st) {l0 : Nat} (kl0 : K l0 = (18, 8)) (hm : m_X7_restore I l0 = some ρ) : po_C st yX7_restore cX7_restore 1 (some .int) 6 1 6 [.ref l0] K R I none (po_oi (ρ.1)) K R (ρ.2) none := by
  refine po_ofC (by decide +kernel) (Nat.le_of_ble_eq_true rfl) (fun X G hF hL => ?_)
  exact w_X7_restore_e hF hL HL I l0 kl0 hm
