set_option maxRecDepth 20000 in
set_option maxHeartbeats 2000000 in
theorem w_X8_readVariance_126 {X : po_X} {G : po_G} {st : Nat → Nat} {K : po_K} {R : po_R} {ρ : po_I} (hF : po_F X G cX8_readVariance RX8 6 st) (hL : po_L X none 4 0 0 "readVariance") (HL : po_Lay K R st) (I : po_I) (hm : m_X8_readVariance_126 I = some ρ) : po_V X G 6 (po_Q X G (.inl (none)) K R (ρ) none 0 0) 0 0 126 [] [] K R I none := by
  unfold m_X8_readVariance_126 at hm
  cases hm
  exact po_vret hF hL dX8_readVariance_126 (by decide) (by decide) rfl rfl rfl (Or.inl rfl)
set_option maxRecDepth 20000 in
set_option maxHeartbeats 2000000 in
theorem w_X8_readVariance_e {X : po_X} {G : po_G} {st : Nat → Nat} {K : po_K} {R : po_R} {ρ : po_I} (hF : po_F X G cX8_readVariance RX8 6 st) (hL : po_L X none 4 0 0 "readVariance") (HL : po_Lay K R st) (I : po_I) (l0 : Nat) (kl0 : K l0 = (19, 19)) (hm : m_X8_readVariance_e I l0 = some ρ) : po_V X G 6 (po_Q X G (.inl (none)) K R (ρ) none 0 0) 0 0 0 [(0, .ref l0)] [] K R I none := by
  unfold m_X8_readVariance_e at hm
  refine po_aload_n hF dX8_readVariance_0 rfl rfl ?_
  refine po_aload_n hF dX8_readVariance_1 rfl rfl ?_
  refine po_getf (v := .ref (l0 + 1)) hF dX8_readVariance_2 fl_X8_13 kl0 (ly_8_1 HL kl0).1 ?_
  refine po_iconst (v := 1) hF dX8_readVariance_5 (by decide) ?_
  refine po_ialdC (j := 1) hF dX8_readVariance_6 ((ly_8_1 HL kl0).2) (Or.inl rfl) (by decide) (by decide) (by decide) ?_
  obtain ⟨x1, hx1, hm⟩ := po_bind hm
  refine po_callV (As := [.int (I (l0 + 1) 1)]) hF dX8_readVariance_7 wq_1359 mv_X8_which ws_X8_which (show po_cl[8]? = some _ from rfl) rfl kl0 (c_X8_which HL kl0 hx1) rfl (po_rtL hL rfl) (Nat.le_of_ble_eq_true rfl) rfl ?_
  refine po_top hm (fun v2 hm => ?_)
  refine po_istore_n (L' := [(1, .int v2), (0, .ref l0)]) hF dX8_readVariance_10 rfl (by decide) rfl ?_
  refine po_aload_n hF dX8_readVariance_11 rfl rfl ?_
  refine po_iconst (v := 2) hF dX8_readVariance_12 (by decide) ?_
  refine po_bipush (v := 8) hF dX8_readVariance_13 (by decide) ?_
  obtain ⟨x3, hx3, hm⟩ := po_bind hm
  refine po_callV (As := [.int 2, .int 8]) hF dX8_readVariance_15 wq_1312 mv_X8_digit ws_X8_digit (show po_cl[8]? = some _ from rfl) rfl kl0 (c_X8_digit HL kl0 hx3) rfl (po_rtL hL rfl) (Nat.le_of_ble_eq_true rfl) rfl ?_
  refine po_top hm (fun v4 hm => ?_)
  refine po_istore_n (L' := [(2, .int v4), (1, .int v2), (0, .ref l0)]) hF dX8_readVariance_18 rfl (by decide) rfl ?_
  refine po_aload_n hF dX8_readVariance_19 rfl rfl ?_
  refine po_iconst (v := 1) hF dX8_readVariance_20 (by decide) ?_
  refine po_bipush (v := 99) hF dX8_readVariance_21 (by decide) ?_
  obtain ⟨x5, hx5, hm⟩ := po_bind hm
  refine po_callV (As := [.int 1, .int 99]) hF dX8_readVariance_23 wq_1388 mv_X8_number ws_X8_number (show po_cl[8]? = some _ from rfl) rfl kl0 (c_X8_number HL kl0 hx5) rfl (po_rtL hL rfl) (Nat.le_of_ble_eq_true rfl) rfl ?_
  refine po_top hm (fun v6 hm => ?_)
  refine po_istore_n (L' := [(3, .int v6), (2, .int v4), (1, .int v2), (0, .ref l0)]) hF dX8_readVariance_26 rfl (by decide) rfl ?_
  refine po_aload_n hF dX8_readVariance_27 rfl rfl ?_
  refine po_bipush (v := 44) hF dX8_readVariance_28 (by decide) ?_
  obtain ⟨x7, hx7, hm⟩ := po_bind hm
  refine po_callV (As := [.int 44]) hF dX8_readVariance_30 wq_1331 mv_X8_must ws_X8_must (show po_cl[8]? = some _ from rfl) rfl kl0 (c_X8_must HL kl0 hx7) rfl (po_rtL hL rfl) (Nat.le_of_ble_eq_true rfl) rfl ?_
  refine po_aload_n hF dX8_readVariance_33 rfl rfl ?_
  refine po_iconst (v := 0) hF dX8_readVariance_34 (by decide) ?_
  refine po_bipush (v := 99) hF dX8_readVariance_35 (by decide) ?_
  obtain ⟨x8, hx8, hm⟩ := po_bind hm
  refine po_callV (As := [.int 0, .int 99]) hF dX8_readVariance_37 wq_1388 mv_X8_number ws_X8_number (show po_cl[8]? = some _ from rfl) rfl kl0 (c_X8_number HL kl0 hx8) rfl (po_rtL hL rfl) (Nat.le_of_ble_eq_true rfl) rfl ?_
  refine po_top hm (fun v9 hm => ?_)
  refine po_istore (L' := [(4, .int v9), (3, .int v6), (2, .int v4), (1, .int v2), (0, .ref l0)]) hF dX8_readVariance_40 (by decide) rfl ?_
  refine po_aload_n hF dX8_readVariance_42 rfl rfl ?_
  refine po_bipush (v := 59) hF dX8_readVariance_43 (by decide) ?_
  obtain ⟨x10, hx10, hm⟩ := po_bind hm
  refine po_callV (As := [.int 59]) hF dX8_readVariance_45 wq_1331 mv_X8_must ws_X8_must (show po_cl[8]? = some _ from rfl) rfl kl0 (c_X8_must HL kl0 hx10) rfl (po_rtL hL rfl) (Nat.le_of_ble_eq_true rfl) rfl ?_
  refine po_aload_n hF dX8_readVariance_48 rfl rfl ?_
  refine po_getf (v := .int (x10 l0 15)) hF dX8_readVariance_49 fl_X8_29 kl0 rfl ?_
  refine po_iconst (v := (-1)) hF dX8_readVariance_52 (by decide) ?_
  refine po_icmp_ne (tgt := 126) hF dX8_readVariance_53 (by decide) hm (fun hm => ?_) (fun hm => ?_)
  · refine po_sub (L' := []) rfl ?_
    exact w_X8_readVariance_126 hF hL HL x10 hm
  · refine po_sipush (v := 620) hF dX8_readVariance_56 (by decide) ?_
    refine po_iconst (v := 4) hF dX8_readVariance_59 (by decide) ?_
    refine po_aload_n hF dX8_readVariance_60 rfl rfl ?_
    refine po_getf (v := .ref (l0 + 1)) hF dX8_readVariance_61 fl_X8_13 kl0 (ly_8_1 HL kl0).1 ?_
    refine po_iconst (v := 3) hF dX8_readVariance_64 (by decide) ?_
    refine po_ialdC (j := 3) hF dX8_readVariance_65 ((ly_8_1 HL kl0).2) (Or.inl rfl) (by decide) (by decide) (by decide) ?_
    refine po_imul hF dX8_readVariance_66 ?_
    refine po_iadd hF dX8_readVariance_67 ?_
    refine po_top hm (fun v11 hm => ?_)
    refine po_istore (L' := [(5, .int v11), (4, .int v9), (3, .int v6), (2, .int v4), (1, .int v2), (0, .ref l0)]) hF dX8_readVariance_68 (by decide) rfl ?_
    refine po_aload_n hF dX8_readVariance_70 rfl rfl ?_
    refine po_getf (v := .ref (l0 + 1)) hF dX8_readVariance_71 fl_X8_13 kl0 (ly_8_1 HL kl0).1 ?_
    refine po_iconst (v := 3) hF dX8_readVariance_74 (by decide) ?_
    refine po_dup2 hF dX8_readVariance_75 rfl rfl ?_
    refine po_ialdC (j := 3) hF dX8_readVariance_76 ((ly_8_1 HL kl0).2) (Or.inl rfl) (by decide) (by decide) (by decide) ?_
    refine po_iconst (v := 1) hF dX8_readVariance_77 (by decide) ?_
    refine po_iadd hF dX8_readVariance_78 ?_
    refine po_iastC (j := 3) hF dX8_readVariance_79 ((ly_8_1 HL kl0).2) (by decide) (by decide) (by decide) rfl ?_
    refine po_hname hm (fun I12 hm => ?_)
    refine po_aload_n hF dX8_readVariance_80 rfl rfl ?_
    refine po_getf (v := .ref (l0 + 1)) hF dX8_readVariance_81 fl_X8_13 kl0 (ly_8_1 HL kl0).1 ?_
    refine po_iload hF dX8_readVariance_84 rfl ?_
    refine po_iload_n hF dX8_readVariance_86 rfl rfl ?_
    refine po_iast hF dX8_readVariance_87 ((ly_8_1 HL kl0).2) hm rfl (fun hm => ?_)
    refine po_hname hm (fun I13 hm => ?_)
    refine po_aload_n hF dX8_readVariance_88 rfl rfl ?_
    refine po_getf (v := .ref (l0 + 1)) hF dX8_readVariance_89 fl_X8_13 kl0 (ly_8_1 HL kl0).1 ?_
    refine po_iload hF dX8_readVariance_92 rfl ?_
    refine po_iconst (v := 1) hF dX8_readVariance_94 (by decide) ?_
    refine po_iadd hF dX8_readVariance_95 ?_
    refine po_iload_n hF dX8_readVariance_96 rfl rfl ?_
    refine po_iast hF dX8_readVariance_97 ((ly_8_1 HL kl0).2) hm rfl (fun hm => ?_)
    refine po_hname hm (fun I14 hm => ?_)
    refine po_aload_n hF dX8_readVariance_98 rfl rfl ?_
    refine po_getf (v := .ref (l0 + 1)) hF dX8_readVariance_99 fl_X8_13 kl0 (ly_8_1 HL kl0).1 ?_
    refine po_iload hF dX8_readVariance_102 rfl ?_
    refine po_iconst (v := 2) hF dX8_readVariance_104 (by decide) ?_
    refine po_iadd hF dX8_readVariance_105 ?_
    refine po_iload_n hF dX8_readVariance_106 rfl rfl ?_
    refine po_iast hF dX8_readVariance_107 ((ly_8_1 HL kl0).2) hm rfl (fun hm => ?_)
    refine po_hname hm (fun I15 hm => ?_)
    refine po_aload_n hF dX8_readVariance_108 rfl rfl ?_
    refine po_getf (v := .ref (l0 + 1)) hF dX8_readVariance_109 fl_X8_13 kl0 (ly_8_1 HL kl0).1 ?_
    refine po_iload hF dX8_readVariance_112 rfl ?_
    refine po_iconst (v := 3) hF dX8_readVariance_114 (by decide) ?_
    refine po_iadd hF dX8_readVariance_115 ?_
    refine po_aload_n hF dX8_readVariance_116 rfl rfl ?_
    refine po_getf (v := .ref (l0 + 1)) hF dX8_readVariance_117 fl_X8_13 kl0 (ly_8_1 HL kl0).1 ?_
    refine po_iconst (v := 0) hF dX8_readVariance_120 (by decide) ?_
    refine po_ialdC (j := 0) hF dX8_readVariance_121 ((ly_8_1 HL kl0).2) (Or.inl rfl) (by decide) (by decide) (by decide) ?_
    refine po_iload hF dX8_readVariance_122 rfl ?_
    refine po_iadd hF dX8_readVariance_124 ?_
    refine po_iast hF dX8_readVariance_125 ((ly_8_1 HL kl0).2) hm rfl (fun hm => ?_)
    refine po_hname hm (fun I16 hm => ?_)
    refine po_sub (L' := []) rfl ?_
    exact w_X8_readVariance_126 hF hL HL I16 hm
theorem c_X8_readVariance {K : po_K} {R : po_R} {I : po_I} {st : Nat → Nat} {ρ : po_I} (HL : po_Lay K R st) {l0 : Nat} (kl0 : K l0 = (19, 19)) (hm : m_X8_readVariance I l0 = some ρ) : po_C st yX8_readVariance cX8_readVariance 6 none 4 0 0 [.ref l0] K R I none (.inl (none)) K R (ρ) none := by
  refine po_ofC (by decide +kernel) (Nat.le_of_ble_eq_true rfl) (fun X G hF hL => ?_)
  exact w_X8_readVariance_e hF hL HL I l0 kl0 hm
set_option maxRecDepth 20000 in
set_option maxHeartbeats 2000000 in
theorem w_X8_conditionMany_e {X : po_X} {G : po_G} {st : Nat → Nat} {K : po_K} {I : po_I} {R : po_R} {ρ : Int32} (hF : po_F X G cX8_conditionMany RX8 2 st) (hL : po_L X (some .int) 1 0 0 "conditionMany") (HL : po_Lay K R st) (l0 : Nat) (l1 : Int32) (kl0 : K l0 = (19, 19)) (hm : m_X8_conditionMany_e I l0 l1 = some ρ) : po_V X G 2 (po_Q X G (.inl (some (.int ρ))) K R I none 0 0) 0 0 0 [(0, .ref l0), (1, .int l1)] [] K R I none := by
  unfold m_X8_conditionMany_e at hm
  refine po_aload_n hF dX8_conditionMany_0 rfl rfl ?_
  refine po_iload_n hF dX8_conditionMany_1 rfl rfl ?_
  refine po_bipush (v := 45) hF dX8_conditionMany_2 (by decide) ?_
  obtain ⟨x1, hx1, hm⟩ := po_bind hm
  refine po_callV (As := [.int l1, .int 45]) hF dX8_conditionMany_4 wq_1380 mv_X8_at ws_X8_at (show po_cl[8]? = some _ from rfl) rfl kl0 (c_X8_at HL kl0 hx1) rfl (po_rtL hL rfl) (Nat.le_of_ble_eq_true rfl) rfl ?_
  cases hm
  exact po_iret hF hL dX8_conditionMany_7 (by decide) (by decide) rfl rfl rfl (Or.inl rfl)
theorem c_X8_conditionMany {K : po_K} {R : po_R} {I : po_I} {st : Nat → Nat} {ρ : Int32} (HL : po_Lay K R st) {l0 : Nat} {l1 : Int32} (kl0 : K l0 = (19, 19)) (hm : m_X8_conditionMany I l0 l1 = some ρ) : po_C st yX8_conditionMany cX8_conditionMany 2 (some .int) 1 0 0 [.ref l0, .int l1] K R I none (.inl (some (.int ρ))) K R I none := by
  refine po_ofC (by decide +kernel) (Nat.le_of_ble_eq_true rfl) (fun X G hF hL => ?_)
  exact w_X8_conditionMany_e hF hL HL l0 l1 kl0 hm
set_option maxRecDepth 20000 in
set_option maxHeartbeats 2000000 in
theorem w_X8_putCondition_26 {X : po_X} {G : po_G} {st : Nat → Nat} {K : po_K} {R : po_R} {ρ : po_I} (hF : po_F X G cX8_putCondition RX8 6 st) (hL : po_L X none 1 0 0 "putCondition") (HL : po_Lay K R st) (I : po_I) (s0 : Nat) (s1 : Int32) (s2 : Int32) (s3 : Int32) (s4 : Int32) (ks0 : K s0 = (19, 19)) (hm : m_X8_putCondition_26 I s0 s1 s2 s3 s4 = some ρ) : po_V X G 6 (po_Q X G (.inl (none)) K R (ρ) none 0 0) 0 0 26 [] [.int s4, .int s3, .int s2, .int s1, .ref s0] K R I none := by
  unfold m_X8_putCondition_26 at hm
  refine po_iadd hF dX8_putCondition_26 ?_
  obtain ⟨x1, hx1, hm⟩ := po_bind hm
  refine po_callV (As := [.int s1, .int s2, .int (s3 + s4)]) hF dX8_putCondition_27 wq_1364 mv_X8_set ws_X8_set (show po_cl[8]? = some _ from rfl) rfl ks0 (c_X8_set HL ks0 hx1) rfl (po_rtL hL rfl) (Nat.le_of_ble_eq_true rfl) rfl ?_
  cases hm
  exact po_vret hF hL dX8_putCondition_30 (by decide) (by decide) rfl rfl rfl (Or.inl rfl)
set_option maxRecDepth 20000 in
set_option maxHeartbeats 2000000 in
theorem w_X8_putCondition_e {X : po_X} {G : po_G} {st : Nat → Nat} {K : po_K} {R : po_R} {ρ : po_I} (hF : po_F X G cX8_putCondition RX8 6 st) (hL : po_L X none 1 0 0 "putCondition") (HL : po_Lay K R st) (I : po_I) (l0 : Nat) (l1 : Int32) (l2 : Int32) (l3 : Int32) (l4 : Int32) (l5 : Int32) (kl0 : K l0 = (19, 19)) (hm : m_X8_putCondition_e I l0 l1 l2 l3 l4 l5 = some ρ) : po_V X G 6 (po_Q X G (.inl (none)) K R (ρ) none 0 0) 0 0 0 [(0, .ref l0), (1, .int l1), (2, .int l2), (3, .int l3), (4, .int l4), (5, .int l5)] [] K R I none := by
  unfold m_X8_putCondition_e at hm
  refine po_aload_n hF dX8_putCondition_0 rfl rfl ?_
  refine po_iload_n hF dX8_putCondition_1 rfl rfl ?_
  refine po_bipush (v := 29) hF dX8_putCondition_2 (by decide) ?_
  refine po_iload_n hF dX8_putCondition_4 rfl rfl ?_
  refine po_iadd hF dX8_putCondition_5 ?_
  refine po_sipush (v := 1000) hF dX8_putCondition_6 (by decide) ?_
  refine po_iload_n hF dX8_putCondition_9 rfl rfl ?_
  refine po_imul hF dX8_putCondition_10 ?_
  refine po_iconst (v := 2) hF dX8_putCondition_11 (by decide) ?_
  refine po_iload hF dX8_putCondition_12 rfl ?_
  refine po_imul hF dX8_putCondition_14 ?_
  refine po_iadd hF dX8_putCondition_15 ?_
  refine po_iload hF dX8_putCondition_16 rfl ?_
  refine po_if_eq (tgt := 25) hF dX8_putCondition_18 (by decide) hm (fun hm => ?_) (fun hm => ?_)
  · refine po_iconst (v := 0) hF dX8_putCondition_25 (by decide) ?_
    refine po_sub (L' := []) rfl ?_
    exact w_X8_putCondition_26 hF hL HL I l0 l1 (29 + l2) ((1000 * l3) + (2 * l4)) 0 kl0 hm
  · refine po_iconst (v := 1) hF dX8_putCondition_21 (by decide) ?_
    refine po_goto (tgt := 26) hF dX8_putCondition_22 (by decide) ?_
    refine po_sub (L' := []) rfl ?_
    exact w_X8_putCondition_26 hF hL HL I l0 l1 (29 + l2) ((1000 * l3) + (2 * l4)) 1 kl0 hm
theorem c_X8_putCondition {K : po_K} {R : po_R} {I : po_I} {st : Nat → Nat} {ρ : po_I} (HL : po_Lay K R st) {l0 : Nat} {l1 : Int32} {l2 : Int32} {l3 : Int32} {l4 : Int32} {l5 : Int32} (kl0 : K l0 = (19, 19)) (hm : m_X8_putCondition I l0 l1 l2 l3 l4 l5 = some ρ) : po_C st yX8_putCondition cX8_putCondition 6 none 1 0 0 [.ref l0, .int l1, .int l2, .int l3, .int l4, .int l5] K R I none (.inl (none)) K R (ρ) none := by
  refine po_ofC (by decide +kernel) (Nat.le_of_ble_eq_true rfl) (fun X G hF hL => ?_)
  exact w_X8_putCondition_e hF hL HL I l0 l1 l2 l3 l4 l5 kl0 hm
set_option maxRecDepth 20000 in
set_option maxHeartbeats 2000000 in
theorem w_X8_readCondition_97 {X : po_X} {G : po_G} {st : Nat → Nat} {K : po_K} {R : po_R} {ρ : po_I} (hF : po_F X G cX8_readCondition RX8 4 st) (hL : po_L X none 4 0 0 "readCondition") (HL : po_Lay K R st) (I : po_I) (hm : m_X8_readCondition_97 I = some ρ) : po_V X G 4 (po_Q X G (.inl (none)) K R (ρ) none 0 0) 0 0 97 [] [] K R I none := by
  unfold m_X8_readCondition_97 at hm
  cases hm
  exact po_vret hF hL dX8_readCondition_97 (by decide) (by decide) rfl rfl rfl (Or.inl rfl)
set_option maxRecDepth 20000 in
set_option maxHeartbeats 2000000 in
theorem w_X8_readCondition_44 {X : po_X} {G : po_G} {st : Nat → Nat} {K : po_K} {R : po_R} {ρ : po_I} (hF : po_F X G cX8_readCondition RX8 4 st) (hL : po_L X none 4 0 0 "readCondition") (HL : po_Lay K R st) (I : po_I) (l0 : Nat) (l1 : Int32) (l2 : Int32) (kl0 : K l0 = (19, 19)) (hm : m_X8_readCondition_44 I l0 l1 l2 = some ρ) : po_V X G 4 (po_Q X G (.inl (none)) K R (ρ) none 0 0) 0 0 44 [(0, .ref l0), (1, .int l1), (2, .int l2)] [] K R I none := by
  unfold m_X8_readCondition_44 at hm
  refine po_bipush (v := 97) hF dX8_readCondition_44 (by decide) ?_
  refine po_aload_n hF dX8_readCondition_46 rfl rfl ?_
  refine po_bipush (v := 97) hF dX8_readCondition_47 (by decide) ?_
  refine po_bipush (v := 122) hF dX8_readCondition_49 (by decide) ?_
  obtain ⟨x1, hx1, hm⟩ := po_bind hm
  refine po_callV (As := [.int 97, .int 122]) hF dX8_readCondition_51 wq_1316 mv_X8_sign_ ws_X8_sign_ (show po_cl[8]? = some _ from rfl) rfl kl0 (c_X8_sign_ HL kl0 hx1) rfl (po_rtL hL rfl) (Nat.le_of_ble_eq_true rfl) rfl ?_
  refine po_iadd hF dX8_readCondition_54 ?_
  refine po_top hm (fun v2 hm => ?_)
  refine po_istore_n (L' := [(3, .int v2), (0, .ref l0), (1, .int l1), (2, .int l2)]) hF dX8_readCondition_55 rfl (by decide) rfl ?_
  refine po_aload_n hF dX8_readCondition_56 rfl rfl ?_
  refine po_bipush (v := 59) hF dX8_readCondition_57 (by decide) ?_
  obtain ⟨x3, hx3, hm⟩ := po_bind hm
  refine po_callV (As := [.int 59]) hF dX8_readCondition_59 wq_1331 mv_X8_must ws_X8_must (show po_cl[8]? = some _ from rfl) rfl kl0 (c_X8_must HL kl0 hx3) rfl (po_rtL hL rfl) (Nat.le_of_ble_eq_true rfl) rfl ?_
  refine po_aload_n hF dX8_readCondition_62 rfl rfl ?_
  refine po_getf (v := .int (x3 l0 15)) hF dX8_readCondition_63 fl_X8_29 kl0 rfl ?_
  refine po_iconst (v := (-1)) hF dX8_readCondition_66 (by decide) ?_
  refine po_icmp_ne (tgt := 97) hF dX8_readCondition_67 (by decide) hm (fun hm => ?_) (fun hm => ?_)
  · refine po_sub (L' := []) rfl ?_
    exact w_X8_readCondition_97 hF hL HL x3 hm
  · refine po_aload_n hF dX8_readCondition_70 rfl rfl ?_
    refine po_iload_n hF dX8_readCondition_71 rfl rfl ?_
    refine po_aload_n hF dX8_readCondition_72 rfl rfl ?_
    refine po_iload_n hF dX8_readCondition_73 rfl rfl ?_
    obtain ⟨x4, hx4, hm⟩ := po_bind hm
    refine po_callV (As := [.int l1]) hF dX8_readCondition_74 wq_1396 mv_X8_conditionMany ws_X8_conditionMany (show po_cl[8]? = some _ from rfl) rfl kl0 (c_X8_conditionMany HL kl0 hx4) rfl (po_rtL hL rfl) (Nat.le_of_ble_eq_true rfl) rfl ?_
    refine po_iload_n hF dX8_readCondition_77 rfl rfl ?_
    refine po_iload_n hF dX8_readCondition_78 rfl rfl ?_
    refine po_iconst (v := 1) hF dX8_readCondition_79 (by decide) ?_
    obtain ⟨x5, hx5, hm⟩ := po_bind hm
    refine po_callV (As := [.int l1, .int x4, .int l2, .int v2, .int 1]) hF dX8_readCondition_80 wq_1400 mv_X8_putCondition ws_X8_putCondition (show po_cl[8]? = some _ from rfl) rfl kl0 (c_X8_putCondition HL kl0 hx5) rfl (po_rtL hL rfl) (Nat.le_of_ble_eq_true rfl) rfl ?_
    refine po_aload_n hF dX8_readCondition_83 rfl rfl ?_
    refine po_iload_n hF dX8_readCondition_84 rfl rfl ?_
    refine po_bipush (v := 45) hF dX8_readCondition_85 (by decide) ?_
    refine po_aload_n hF dX8_readCondition_87 rfl rfl ?_
    refine po_iload_n hF dX8_readCondition_88 rfl rfl ?_
    obtain ⟨x6, hx6, hm⟩ := po_bind hm
    refine po_callV (As := [.int l1]) hF dX8_readCondition_89 wq_1396 mv_X8_conditionMany ws_X8_conditionMany (show po_cl[8]? = some _ from rfl) rfl kl0 (c_X8_conditionMany HL kl0 hx6) rfl (po_rtL hL rfl) (Nat.le_of_ble_eq_true rfl) rfl ?_
    refine po_iconst (v := 1) hF dX8_readCondition_92 (by decide) ?_
    refine po_iadd hF dX8_readCondition_93 ?_
    obtain ⟨x7, hx7, hm⟩ := po_bind hm
    refine po_callV (As := [.int l1, .int 45, .int (x6 + 1)]) hF dX8_readCondition_94 wq_1364 mv_X8_set ws_X8_set (show po_cl[8]? = some _ from rfl) rfl kl0 (c_X8_set HL kl0 hx7) rfl (po_rtL hL rfl) (Nat.le_of_ble_eq_true rfl) rfl ?_
    refine po_sub (L' := []) rfl ?_
    exact w_X8_readCondition_97 hF hL HL x7 hm
set_option maxRecDepth 20000 in
set_option maxHeartbeats 2000000 in
theorem w_X8_readCondition_e {X : po_X} {G : po_G} {st : Nat → Nat} {K : po_K} {R : po_R} {ρ : po_I} (hF : po_F X G cX8_readCondition RX8 4 st) (hL : po_L X none 4 0 0 "readCondition") (HL : po_Lay K R st) (I : po_I) (l0 : Nat) (kl0 : K l0 = (19, 19)) (hm : m_X8_readCondition_e I l0 = some ρ) : po_V X G 4 (po_Q X G (.inl (none)) K R (ρ) none 0 0) 0 0 0 [(0, .ref l0)] [] K R I none := by
  unfold m_X8_readCondition_e at hm
  refine po_aload_n hF dX8_readCondition_0 rfl rfl ?_
  refine po_aload_n hF dX8_readCondition_1 rfl rfl ?_
  refine po_getf (v := .ref (l0 + 1)) hF dX8_readCondition_2 fl_X8_13 kl0 (ly_8_1 HL kl0).1 ?_
  refine po_iconst (v := 2) hF dX8_readCondition_5 (by decide) ?_
  refine po_ialdC (j := 2) hF dX8_readCondition_6 ((ly_8_1 HL kl0).2) (Or.inl rfl) (by decide) (by decide) (by decide) ?_
  obtain ⟨x8, hx8, hm⟩ := po_bind hm
  refine po_callV (As := [.int (I (l0 + 1) 2)]) hF dX8_readCondition_7 wq_1359 mv_X8_which ws_X8_which (show po_cl[8]? = some _ from rfl) rfl kl0 (c_X8_which HL kl0 hx8) rfl (po_rtL hL rfl) (Nat.le_of_ble_eq_true rfl) rfl ?_
  refine po_top hm (fun v9 hm => ?_)
  refine po_istore_n (L' := [(1, .int v9), (0, .ref l0)]) hF dX8_readCondition_10 rfl (by decide) rfl ?_
  refine po_aload_n hF dX8_readCondition_11 rfl rfl ?_
  refine po_iconst (v := 0) hF dX8_readCondition_12 (by decide) ?_
  refine po_iconst (v := 3) hF dX8_readCondition_13 (by decide) ?_
  obtain ⟨x10, hx10, hm⟩ := po_bind hm
  refine po_callV (As := [.int 0, .int 3]) hF dX8_readCondition_14 wq_1312 mv_X8_digit ws_X8_digit (show po_cl[8]? = some _ from rfl) rfl kl0 (c_X8_digit HL kl0 hx10) rfl (po_rtL hL rfl) (Nat.le_of_ble_eq_true rfl) rfl ?_
  refine po_top hm (fun v11 hm => ?_)
  refine po_istore_n (L' := [(2, .int v11), (1, .int v9), (0, .ref l0)]) hF dX8_readCondition_17 rfl (by decide) rfl ?_
  refine po_aload_n hF dX8_readCondition_18 rfl rfl ?_
  refine po_getf (v := .int ((x10.2) l0 15)) hF dX8_readCondition_19 fl_X8_29 kl0 rfl ?_
  refine po_iconst (v := (-1)) hF dX8_readCondition_22 (by decide) ?_
  refine po_icmp_ne (tgt := 44) hF dX8_readCondition_23 (by decide) hm (fun hm => ?_) (fun hm => ?_)
  · refine po_sub (L' := [(0, .ref l0), (1, .int v9), (2, .int v11)]) rfl ?_
    exact w_X8_readCondition_44 hF hL HL (x10.2) l0 v9 v11 kl0 hm
  · refine po_aload_n hF dX8_readCondition_26 rfl rfl ?_
    refine po_iload_n hF dX8_readCondition_27 rfl rfl ?_
    obtain ⟨x12, hx12, hm⟩ := po_bind hm
    refine po_callV (As := [.int v9]) hF dX8_readCondition_28 wq_1396 mv_X8_conditionMany ws_X8_conditionMany (show po_cl[8]? = some _ from rfl) rfl kl0 (c_X8_conditionMany HL kl0 hx12) rfl (po_rtL hL rfl) (Nat.le_of_ble_eq_true rfl) rfl ?_
    refine po_bipush (v := 6) hF dX8_readCondition_31 (by decide) ?_
    refine po_icmp_ne (tgt := 44) hF dX8_readCondition_33 (by decide) hm (fun hm => ?_) (fun hm => ?_)
    · refine po_sub (L' := [(0, .ref l0), (1, .int v9), (2, .int v11)]) rfl ?_
      exact w_X8_readCondition_44 hF hL HL (x10.2) l0 v9 v11 kl0 hm
    · refine po_aload_n hF dX8_readCondition_36 rfl rfl ?_
      refine po_aload_n hF dX8_readCondition_37 rfl rfl ?_
      refine po_getf (v := .int ((x10.2) l0 14)) hF dX8_readCondition_38 fl_X8_166 kl0 rfl ?_
      obtain ⟨x13, hx13, hm⟩ := po_bind hm
      refine po_callV (As := [.int ((x10.2) l0 14)]) hF dX8_readCondition_41 wq_1304 mv_X8_faultAt ws_X8_faultAt (show po_cl[8]? = some _ from rfl) rfl kl0 (c_X8_faultAt HL kl0 hx13) rfl (po_rtL hL rfl) (Nat.le_of_ble_eq_true rfl) rfl ?_
      refine po_sub (L' := [(0, .ref l0), (1, .int v9), (2, .int v11)]) rfl ?_
      exact w_X8_readCondition_44 hF hL HL x13 l0 v9 v11 kl0 hm
theorem c_X8_readCondition {K : po_K} {R : po_R} {I : po_I} {st : Nat → Nat} {ρ : po_I} (HL : po_Lay K R st) {l0 : Nat} (kl0 : K l0 = (19, 19)) (hm : m_X8_readCondition I l0 = some ρ) : po_C st yX8_readCondition cX8_readCondition 4 none 4 0 0 [.ref l0] K R I none (.inl (none)) K R (ρ) none := by
  refine po_ofC (by decide +kernel) (Nat.le_of_ble_eq_true rfl) (fun X G hF hL => ?_)
  exact w_X8_readCondition_e hF hL HL I l0 kl0 hm
set_option maxRecDepth 20000 in
set_option maxHeartbeats 2000000 in
theorem w_X8_leastOf_15 {X : po_X} {G : po_G} {st : Nat → Nat} {K : po_K} {I : po_I} {R : po_R} {ρ : Int32} (hF : po_F X G cX8_leastOf RX8 1 st) (hL : po_L X (some .int) 0 0 0 "leastOf") (HL : po_Lay K R st) (s0 : Int32) (hm : m_X8_leastOf_15 s0 = some ρ) : po_V X G 1 (po_Q X G (.inl (some (.int ρ))) K R I none 0 0) 0 0 15 [] [.int s0] K R I none := by
  unfold m_X8_leastOf_15 at hm
  cases hm
  exact po_iret hF hL dX8_leastOf_15 (by decide) (by decide) rfl rfl rfl (Or.inl rfl)
set_option maxRecDepth 20000 in
set_option maxHeartbeats 2000000 in
theorem w_X8_leastOf_10 {X : po_X} {G : po_G} {st : Nat → Nat} {K : po_K} {I : po_I} {R : po_R} {ρ : Int32} (hF : po_F X G cX8_leastOf RX8 1 st) (hL : po_L X (some .int) 0 0 0 "leastOf") (HL : po_Lay K R st) (hm : m_X8_leastOf_10 = some ρ) : po_V X G 1 (po_Q X G (.inl (some (.int ρ))) K R I none 0 0) 0 0 10 [] [] K R I none := by
  unfold m_X8_leastOf_10 at hm
  refine po_iconst (v := 1) hF dX8_leastOf_10 (by decide) ?_
  refine po_goto (tgt := 15) hF dX8_leastOf_11 (by decide) ?_
  exact w_X8_leastOf_15 hF hL HL 1 hm
set_option maxRecDepth 20000 in
set_option maxHeartbeats 2000000 in
theorem w_X8_leastOf_e {X : po_X} {G : po_G} {st : Nat → Nat} {K : po_K} {I : po_I} {R : po_R} {ρ : Int32} (hF : po_F X G cX8_leastOf RX8 1 st) (hL : po_L X (some .int) 0 0 0 "leastOf") (HL : po_Lay K R st) (l0 : Int32) (hm : m_X8_leastOf_e l0 = some ρ) : po_V X G 1 (po_Q X G (.inl (some (.int ρ))) K R I none 0 0) 0 0 0 [(0, .int l0)] [] K R I none := by
  unfold m_X8_leastOf_e at hm
  refine po_iload_n hF dX8_leastOf_0 rfl rfl ?_
  refine po_iconst (v := 3) hF dX8_leastOf_1 (by decide) ?_
  refine po_icmp_eq (tgt := 10) hF dX8_leastOf_2 (by decide) hm (fun hm => ?_) (fun hm => ?_)
  · refine po_sub (L' := []) rfl ?_
    exact w_X8_leastOf_10 hF hL HL hm
  · refine po_iload_n hF dX8_leastOf_5 rfl rfl ?_
    refine po_iconst (v := 4) hF dX8_leastOf_6 (by decide) ?_
    refine po_icmp_ne (tgt := 14) hF dX8_leastOf_7 (by decide) hm (fun hm => ?_) (fun hm => ?_)
    · refine po_iconst (v := 0) hF dX8_leastOf_14 (by decide) ?_
      refine po_sub (L' := []) rfl ?_
      exact w_X8_leastOf_15 hF hL HL 0 hm
    · refine po_sub (L' := []) rfl ?_
      exact w_X8_leastOf_10 hF hL HL hm
theorem c_X8_leastOf {K : po_K} {R : po_R} {I : po_I} {st : Nat → Nat} {ρ : Int32} (HL : po_Lay K R st) {l0 : Int32} (hm : m_X8_leastOf l0 = some ρ) : po_C st yX8_leastOf cX8_leastOf 1 (some .int) 0 0 0 [.int l0] K R I none (.inl (some (.int ρ))) K R I none := by
  refine po_ofC (by decide +kernel) (Nat.le_of_ble_eq_true rfl) (fun X G hF hL => ?_)
  exact w_X8_leastOf_e hF hL HL l0 hm
set_option maxRecDepth 20000 in
set_option maxHeartbeats 2000000 in
theorem w_X8_mostOf_27 {X : po_X} {G : po_G} {st : Nat → Nat} {K : po_K} {I : po_I} {R : po_R} {ρ : Int32} (hF : po_F X G cX8_mostOf RX8 1 st) (hL : po_L X (some .int) 0 0 0 "mostOf") (HL : po_Lay K R st) (s0 : Int32) (hm : m_X8_mostOf_27 s0 = some ρ) : po_V X G 1 (po_Q X G (.inl (some (.int ρ))) K R I none 0 0) 0 0 27 [] [.int s0] K R I none := by
  unfold m_X8_mostOf_27 at hm
  cases hm
  exact po_iret hF hL dX8_mostOf_27 (by decide) (by decide) rfl rfl rfl (Or.inl rfl)
set_option maxRecDepth 20000 in
set_option maxHeartbeats 2000000 in
theorem w_X8_mostOf_10 {X : po_X} {G : po_G} {st : Nat → Nat} {K : po_K} {I : po_I} {R : po_R} {ρ : Int32} (hF : po_F X G cX8_mostOf RX8 1 st) (hL : po_L X (some .int) 0 0 0 "mostOf") (HL : po_Lay K R st) (hm : m_X8_mostOf_10 = some ρ) : po_V X G 1 (po_Q X G (.inl (some (.int ρ))) K R I none 0 0) 0 0 10 [] [] K R I none := by
  unfold m_X8_mostOf_10 at hm
  refine po_bipush (v := 99) hF dX8_mostOf_10 (by decide) ?_
  refine po_goto (tgt := 27) hF dX8_mostOf_12 (by decide) ?_
  exact w_X8_mostOf_27 hF hL HL 99 hm
set_option maxRecDepth 20000 in
set_option maxHeartbeats 2000000 in
theorem w_X8_mostOf_e {X : po_X} {G : po_G} {st : Nat → Nat} {K : po_K} {I : po_I} {R : po_R} {ρ : Int32} (hF : po_F X G cX8_mostOf RX8 1 st) (hL : po_L X (some .int) 0 0 0 "mostOf") (HL : po_Lay K R st) (l0 : Int32) (hm : m_X8_mostOf_e l0 = some ρ) : po_V X G 1 (po_Q X G (.inl (some (.int ρ))) K R I none 0 0) 0 0 0 [(0, .int l0)] [] K R I none := by
  unfold m_X8_mostOf_e at hm
  refine po_iload_n hF dX8_mostOf_0 rfl rfl ?_
  refine po_iconst (v := 2) hF dX8_mostOf_1 (by decide) ?_
  refine po_icmp_eq (tgt := 10) hF dX8_mostOf_2 (by decide) hm (fun hm => ?_) (fun hm => ?_)
  · refine po_sub (L' := []) rfl ?_
    exact w_X8_mostOf_10 hF hL HL hm
  · refine po_iload_n hF dX8_mostOf_5 rfl rfl ?_
    refine po_iconst (v := 4) hF dX8_mostOf_6 (by decide) ?_
    refine po_icmp_ne (tgt := 15) hF dX8_mostOf_7 (by decide) hm (fun hm => ?_) (fun hm => ?_)
    · refine po_iload_n hF dX8_mostOf_15 rfl rfl ?_
      refine po_iconst (v := 5) hF dX8_mostOf_16 (by decide) ?_
      refine po_icmp_ne (tgt := 25) hF dX8_mostOf_17 (by decide) hm (fun hm => ?_) (fun hm => ?_)
      · refine po_bipush (v := 9) hF dX8_mostOf_25 (by decide) ?_
        refine po_sub (L' := []) rfl ?_
        exact w_X8_mostOf_27 hF hL HL 9 hm
      · refine po_bipush (v := 63) hF dX8_mostOf_20 (by decide) ?_
        refine po_goto (tgt := 27) hF dX8_mostOf_22 (by decide) ?_
        refine po_sub (L' := []) rfl ?_
        exact w_X8_mostOf_27 hF hL HL 63 hm
    · refine po_sub (L' := []) rfl ?_
      exact w_X8_mostOf_10 hF hL HL hm
theorem c_X8_mostOf {K : po_K} {R : po_R} {I : po_I} {st : Nat → Nat} {ρ : Int32} (HL : po_Lay K R st) {l0 : Int32} (hm : m_X8_mostOf l0 = some ρ) : po_C st yX8_mostOf cX8_mostOf 1 (some .int) 0 0 0 [.int l0] K R I none (.inl (some (.int ρ))) K R I none := by
  refine po_ofC (by decide +kernel) (Nat.le_of_ble_eq_true rfl) (fun X G hF hL => ?_)
  exact w_X8_mostOf_e hF hL HL l0 hm
set_option maxRecDepth 20000 in
set_option maxHeartbeats 2000000 in
theorem w_X8_readRule_68 {X : po_X} {G : po_G} {st : Nat → Nat} {K : po_K} {R : po_R} {ρ : po_I} (hF : po_F X G cX8_readRule RX8 4 st) (hL : po_L X none 4 0 0 "readRule") (HL : po_Lay K R st) (I : po_I) (hm : m_X8_readRule_68 I = some ρ) : po_V X G 4 (po_Q X G (.inl (none)) K R (ρ) none 0 0) 0 0 68 [] [] K R I none := by
  unfold m_X8_readRule_68 at hm
  cases hm
  exact po_vret hF hL dX8_readRule_68 (by decide) (by decide) rfl rfl rfl (Or.inl rfl)
set_option maxRecDepth 20000 in
set_option maxHeartbeats 2000000 in
theorem w_X8_readRule_39 {X : po_X} {G : po_G} {st : Nat → Nat} {K : po_K} {R : po_R} {ρ : po_I} (hF : po_F X G cX8_readRule RX8 4 st) (hL : po_L X none 4 0 0 "readRule") (HL : po_Lay K R st) (I : po_I) (l0 : Nat) (l1 : Int32) (l2 : Int32) (s0 : Int32) (kl0 : K l0 = (19, 19)) (hm : m_X8_readRule_39 I l0 l1 l2 s0 = some ρ) : po_V X G 4 (po_Q X G (.inl (none)) K R (ρ) none 0 0) 0 0 39 [(0, .ref l0), (1, .int l1), (2, .int l2)] [.int s0] K R I none := by
  unfold m_X8_readRule_39 at hm
  refine po_istore_n (L' := [(3, .int s0), (0, .ref l0), (1, .int l1), (2, .int l2)]) hF dX8_readRule_39 rfl (by decide) rfl ?_
  refine po_aload_n hF dX8_readRule_40 rfl rfl ?_
  refine po_bipush (v := 59) hF dX8_readRule_41 (by decide) ?_
  obtain ⟨x1, hx1, hm⟩ := po_bind hm
  refine po_callV (As := [.int 59]) hF dX8_readRule_43 wq_1331 mv_X8_must ws_X8_must (show po_cl[8]? = some _ from rfl) rfl kl0 (c_X8_must HL kl0 hx1) rfl (po_rtL hL rfl) (Nat.le_of_ble_eq_true rfl) rfl ?_
  refine po_aload_n hF dX8_readRule_46 rfl rfl ?_
  refine po_getf (v := .int (x1 l0 15)) hF dX8_readRule_47 fl_X8_29 kl0 rfl ?_
  refine po_iconst (v := (-1)) hF dX8_readRule_50 (by decide) ?_
  refine po_icmp_ne (tgt := 68) hF dX8_readRule_51 (by decide) hm (fun hm => ?_) (fun hm => ?_)
  · refine po_sub (L' := []) rfl ?_
    exact w_X8_readRule_68 hF hL HL x1 hm
  · refine po_aload_n hF dX8_readRule_54 rfl rfl ?_
    refine po_getf (v := .ref (l0 + 1)) hF dX8_readRule_55 fl_X8_13 kl0 (ly_8_1 HL kl0).1 ?_
    refine po_iconst (v := 4) hF dX8_readRule_58 (by decide) ?_
    refine po_bipush (v := 7) hF dX8_readRule_59 (by decide) ?_
    refine po_iload_n hF dX8_readRule_61 rfl rfl ?_
    refine po_imul hF dX8_readRule_62 ?_
    refine po_iadd hF dX8_readRule_63 ?_
    refine po_iload_n hF dX8_readRule_64 rfl rfl ?_
    refine po_iadd hF dX8_readRule_65 ?_
    refine po_iload_n hF dX8_readRule_66 rfl rfl ?_
    refine po_iast hF dX8_readRule_67 ((ly_8_1 HL kl0).2) hm rfl (fun hm => ?_)
    refine po_hname hm (fun I2 hm => ?_)
    refine po_sub (L' := []) rfl ?_
    exact w_X8_readRule_68 hF hL HL I2 hm
set_option maxRecDepth 20000 in
set_option maxHeartbeats 2000000 in
theorem w_X8_readRule_e {X : po_X} {G : po_G} {st : Nat → Nat} {K : po_K} {R : po_R} {ρ : po_I} (hF : po_F X G cX8_readRule RX8 4 st) (hL : po_L X none 4 0 0 "readRule") (HL : po_Lay K R st) (I : po_I) (l0 : Nat) (kl0 : K l0 = (19, 19)) (hm : m_X8_readRule_e I l0 = some ρ) : po_V X G 4 (po_Q X G (.inl (none)) K R (ρ) none 0 0) 0 0 0 [(0, .ref l0)] [] K R I none := by
  unfold m_X8_readRule_e at hm
  refine po_aload_n hF dX8_readRule_0 rfl rfl ?_
  refine po_iconst (v := 0) hF dX8_readRule_1 (by decide) ?_
  refine po_iconst (v := 3) hF dX8_readRule_2 (by decide) ?_
  obtain ⟨x3, hx3, hm⟩ := po_bind hm
  refine po_callV (As := [.int 0, .int 3]) hF dX8_readRule_3 wq_1312 mv_X8_digit ws_X8_digit (show po_cl[8]? = some _ from rfl) rfl kl0 (c_X8_digit HL kl0 hx3) rfl (po_rtL hL rfl) (Nat.le_of_ble_eq_true rfl) rfl ?_
  refine po_top hm (fun v4 hm => ?_)
  refine po_istore_n (L' := [(1, .int v4), (0, .ref l0)]) hF dX8_readRule_6 rfl (by decide) rfl ?_
  refine po_aload_n hF dX8_readRule_7 rfl rfl ?_
  refine po_iconst (v := 0) hF dX8_readRule_8 (by decide) ?_
  refine po_bipush (v := 6) hF dX8_readRule_9 (by decide) ?_
  obtain ⟨x5, hx5, hm⟩ := po_bind hm
  refine po_callV (As := [.int 0, .int 6]) hF dX8_readRule_11 wq_1312 mv_X8_digit ws_X8_digit (show po_cl[8]? = some _ from rfl) rfl kl0 (c_X8_digit HL kl0 hx5) rfl (po_rtL hL rfl) (Nat.le_of_ble_eq_true rfl) rfl ?_
  refine po_top hm (fun v6 hm => ?_)
  refine po_istore_n (L' := [(2, .int v6), (1, .int v4), (0, .ref l0)]) hF dX8_readRule_14 rfl (by decide) rfl ?_
  refine po_aload_n hF dX8_readRule_15 rfl rfl ?_
  refine po_getf (v := .int ((x5.2) l0 15)) hF dX8_readRule_16 fl_X8_29 kl0 rfl ?_
  refine po_iconst (v := (-1)) hF dX8_readRule_19 (by decide) ?_
  refine po_icmp_ne (tgt := 38) hF dX8_readRule_20 (by decide) hm (fun hm => ?_) (fun hm => ?_)
  · refine po_iconst (v := 0) hF dX8_readRule_38 (by decide) ?_
    refine po_sub (L' := [(0, .ref l0), (1, .int v4), (2, .int v6)]) rfl ?_
    exact w_X8_readRule_39 hF hL HL (x5.2) l0 v4 v6 0 kl0 hm
  · refine po_aload_n hF dX8_readRule_23 rfl rfl ?_
    refine po_iload_n hF dX8_readRule_24 rfl rfl ?_
    obtain ⟨x7, hx7, hm⟩ := po_bind hm
    refine po_callS (As := [.int v6]) hF dX8_readRule_25 wq_1408 mv_X8_leastOf (c_X8_leastOf HL hx7) rfl (po_rtL hL rfl) (Nat.le_of_ble_eq_true rfl) rfl ?_
    refine po_iload_n hF dX8_readRule_28 rfl rfl ?_
    obtain ⟨x8, hx8, hm⟩ := po_bind hm
    refine po_callS (As := [.int v6]) hF dX8_readRule_29 wq_1411 mv_X8_mostOf (c_X8_mostOf HL hx8) rfl (po_rtL hL rfl) (Nat.le_of_ble_eq_true rfl) rfl ?_
    obtain ⟨x9, hx9, hm⟩ := po_bind hm
    refine po_callV (As := [.int x7, .int x8]) hF dX8_readRule_32 wq_1388 mv_X8_number ws_X8_number (show po_cl[8]? = some _ from rfl) rfl kl0 (c_X8_number HL kl0 hx9) rfl (po_rtL hL rfl) (Nat.le_of_ble_eq_true rfl) rfl ?_
    refine po_goto (tgt := 39) hF dX8_readRule_35 (by decide) ?_
    refine po_sub (L' := [(0, .ref l0), (1, .int v4), (2, .int v6)]) rfl ?_
    exact w_X8_readRule_39 hF hL HL (x9.2) l0 v4 v6 (x9.1) kl0 hm
theorem c_X8_readRule {K : po_K} {R : po_R} {I : po_I} {st : Nat → Nat} {ρ : po_I} (HL : po_Lay K R st) {l0 : Nat} (kl0 : K l0 = (19, 19)) (hm : m_X8_readRule I l0 = some ρ) : po_C st yX8_readRule cX8_readRule 4 none 4 0 0 [.ref l0] K R I none (.inl (none)) K R (ρ) none := by
  refine po_ofC (by decide +kernel) (Nat.le_of_ble_eq_true rfl) (fun X G hF hL => ?_)
  exact w_X8_readRule_e hF hL HL I l0 kl0 hm
set_option maxRecDepth 20000 in
set_option maxHeartbeats 2000000 in
theorem w_X8_readCommand_106 {X : po_X} {G : po_G} {st : Nat → Nat} {K : po_K} {R : po_R} {ρ : po_I} (hF : po_F X G cX8_readCommand RX8 4 st) (hL : po_L X none 6 0 0 "readCommand") (HL : po_Lay K R st) (I : po_I) (l0 : Nat) (kl0 : K l0 = (19, 19)) (hm : m_X8_readCommand_106 I l0 = some ρ) : po_V X G 4 (po_Q X G (.inl (none)) K R (ρ) none 0 0) 0 0 106 [(0, .ref l0)] [] K R I none := by
  unfold m_X8_readCommand_106 at hm
  refine po_aload_n hF dX8_readCommand_106 rfl rfl ?_
  refine po_aload_n hF dX8_readCommand_107 rfl rfl ?_
  refine po_getf (v := .int (I l0 14)) hF dX8_readCommand_108 fl_X8_166 kl0 rfl ?_
  obtain ⟨x1, hx1, hm⟩ := po_bind hm
  refine po_callV (As := [.int (I l0 14)]) hF dX8_readCommand_111 wq_1304 mv_X8_faultAt ws_X8_faultAt (show po_cl[8]? = some _ from rfl) rfl kl0 (c_X8_faultAt HL kl0 hx1) rfl (po_rtL hL rfl) (Nat.le_of_ble_eq_true rfl) rfl ?_
  cases hm
  exact po_vret hF hL dX8_readCommand_114 (by decide) (by decide) rfl rfl rfl (Or.inl rfl)
set_option maxRecDepth 20000 in
set_option maxHeartbeats 2000000 in
theorem w_X8_readCommand_200 {X : po_X} {G : po_G} {st : Nat → Nat} {K : po_K} {R : po_R} {ρ : po_I} (hF : po_F X G cX8_readCommand RX8 4 st) (hL : po_L X none 6 0 0 "readCommand") (HL : po_Lay K R st) (I : po_I) (hm : m_X8_readCommand_200 I = some ρ) : po_V X G 4 (po_Q X G (.inl (none)) K R (ρ) none 0 0) 0 0 200 [] [] K R I none := by
  unfold m_X8_readCommand_200 at hm
  cases hm
  exact po_vret hF hL dX8_readCommand_200 (by decide) (by decide) rfl rfl rfl (Or.inl rfl)
set_option maxRecDepth 20000 in
set_option maxHeartbeats 2000000 in
theorem w_X8_readCommand_97 {X : po_X} {G : po_G} {st : Nat → Nat} {K : po_K} {R : po_R} {ρ : po_I} (hF : po_F X G cX8_readCommand RX8 4 st) (hL : po_L X none 6 0 0 "readCommand") (HL : po_Lay K R st) (I : po_I) (l0 : Nat) (l1 : Int32) (l2 : Int32) (s0 : Int32) (kl0 : K l0 = (19, 19)) (hm : m_X8_readCommand_97 I l0 l1 l2 s0 = some ρ) : po_V X G 4 (po_Q X G (.inl (none)) K R (ρ) none 0 0) 0 0 97 [(0, .ref l0), (1, .int l1), (2, .int l2)] [.int s0] K R I none := by
  unfold m_X8_readCommand_97 at hm
  refine po_istore_n (L' := [(3, .int s0), (0, .ref l0), (1, .int l1), (2, .int l2)]) hF dX8_readCommand_97 rfl (by decide) rfl ?_
  refine po_iload_n hF dX8_readCommand_98 rfl rfl ?_
  refine po_if_eq (tgt := 106) hF dX8_readCommand_99 (by decide) hm (fun hm => ?_) (fun hm => ?_)
  · refine po_sub (L' := [(0, .ref l0)]) rfl ?_
    exact w_X8_readCommand_106 hF hL HL I l0 kl0 hm
  · refine po_iload_n hF dX8_readCommand_102 rfl rfl ?_
    refine po_if_eq (tgt := 115) hF dX8_readCommand_103 (by decide) hm (fun hm => ?_) (fun hm => ?_)
    · refine po_aload_n hF dX8_readCommand_115 rfl rfl ?_
      refine po_dup hF dX8_readCommand_116 rfl ?_
      refine po_getf (v := .int (I l0 14)) hF dX8_readCommand_117 fl_X8_166 kl0 rfl ?_
      refine po_iconst (v := 1) hF dX8_readCommand_120 (by decide) ?_
      refine po_iadd hF dX8_readCommand_121 ?_
      refine po_puti hF dX8_readCommand_122 fl_X8_166 kl0 (by intro r h; cases h; rfl) rfl rfl (fun _ => rfl) rfl ?_
      refine po_hname hm (fun I2 hm => ?_)
      refine po_iload_n hF dX8_readCommand_125 rfl rfl ?_
      by_cases hs0 : l1 = 67
      · rw [if_pos hs0] at hm
        refine po_lsw (tgt := 189) (off := 63) hF dX8_readCommand_126 (by decide) (by rw [hs0]; decide) (by decide) ?_
        refine po_aload_n hF dX8_readCommand_189 rfl rfl ?_
        obtain ⟨x3, hx3, hm⟩ := po_bind hm
        refine po_callV (As := []) hF dX8_readCommand_190 wq_1392 mv_X8_readCondition ws_X8_readCondition (show po_cl[8]? = some _ from rfl) rfl kl0 (c_X8_readCondition HL kl0 hx3) rfl (po_rtL hL rfl) (Nat.le_of_ble_eq_true rfl) rfl ?_
        refine po_goto (tgt := 200) hF dX8_readCommand_193 (by decide) ?_
        refine po_sub (L' := []) rfl ?_
        exact w_X8_readCommand_200 hF hL HL x3 hm
      rw [if_neg hs0] at hm
      by_cases hs1 : l1 = 76
      · rw [if_pos hs1] at hm
        refine po_lsw (tgt := 168) (off := 42) hF dX8_readCommand_126 (by decide) (by rw [hs1]; decide) (by decide) ?_
        refine po_aload_n hF dX8_readCommand_168 rfl rfl ?_
        obtain ⟨x4, hx4, hm⟩ := po_bind hm
        refine po_callV (As := []) hF dX8_readCommand_169 wq_1308 mv_X8_readLot ws_X8_readLot (show po_cl[8]? = some _ from rfl) rfl kl0 (c_X8_readLot HL kl0 hx4) rfl (po_rtL hL rfl) (Nat.le_of_ble_eq_true rfl) rfl ?_
        refine po_goto (tgt := 200) hF dX8_readCommand_172 (by decide) ?_
        refine po_sub (L' := []) rfl ?_
        exact w_X8_readCommand_200 hF hL HL x4 hm
      rw [if_neg hs1] at hm
      by_cases hs2 : l1 = 80
      · rw [if_pos hs2] at hm
        refine po_lsw (tgt := 175) (off := 49) hF dX8_readCommand_126 (by decide) (by rw [hs2]; decide) (by decide) ?_
        refine po_aload_n hF dX8_readCommand_175 rfl rfl ?_
        obtain ⟨x5, hx5, hm⟩ := po_bind hm
        refine po_callV (As := []) hF dX8_readCommand_176 wq_1355 mv_X8_readPermit ws_X8_readPermit (show po_cl[8]? = some _ from rfl) rfl kl0 (c_X8_readPermit HL kl0 hx5) rfl (po_rtL hL rfl) (Nat.le_of_ble_eq_true rfl) rfl ?_
        refine po_goto (tgt := 200) hF dX8_readCommand_179 (by decide) ?_
        refine po_sub (L' := []) rfl ?_
        exact w_X8_readCommand_200 hF hL HL x5 hm
      rw [if_neg hs2] at hm
      by_cases hs3 : l1 = 86
      · rw [if_pos hs3] at hm
        refine po_lsw (tgt := 182) (off := 56) hF dX8_readCommand_126 (by decide) (by rw [hs3]; decide) (by decide) ?_
        refine po_aload_n hF dX8_readCommand_182 rfl rfl ?_
        obtain ⟨x6, hx6, hm⟩ := po_bind hm
        refine po_callV (As := []) hF dX8_readCommand_183 wq_1384 mv_X8_readVariance ws_X8_readVariance (show po_cl[8]? = some _ from rfl) rfl kl0 (c_X8_readVariance HL kl0 hx6) rfl (po_rtL hL rfl) (Nat.le_of_ble_eq_true rfl) rfl ?_
        refine po_goto (tgt := 200) hF dX8_readCommand_186 (by decide) ?_
        refine po_sub (L' := []) rfl ?_
        exact w_X8_readCommand_200 hF hL HL x6 hm
      rw [if_neg hs3] at hm
      refine po_lsw (tgt := 196) (off := 70) hF dX8_readCommand_126 (by decide) (by
        refine (lv_osw (k := 67) hs0 (by decide)).trans ?_
        refine (lv_osw (k := 76) hs1 (by decide)).trans ?_
        refine (lv_osw (k := 80) hs2 (by decide)).trans ?_
        refine (lv_osw (k := 86) hs3 (by decide)).trans ?_
        rfl) (by decide) ?_
      refine po_aload_n hF dX8_readCommand_196 rfl rfl ?_
      obtain ⟨x7, hx7, hm⟩ := po_bind hm
      refine po_callV (As := []) hF dX8_readCommand_197 wq_1404 mv_X8_readRule ws_X8_readRule (show po_cl[8]? = some _ from rfl) rfl kl0 (c_X8_readRule HL kl0 hx7) rfl (po_rtL hL rfl) (Nat.le_of_ble_eq_true rfl) rfl ?_
      refine po_sub (L' := []) rfl ?_
      exact w_X8_readCommand_200 hF hL HL x7 hm
    · refine po_sub (L' := [(0, .ref l0)]) rfl ?_
      exact w_X8_readCommand_106 hF hL HL I l0 kl0 hm
set_option maxRecDepth 20000 in
set_option maxHeartbeats 2000000 in
theorem w_X8_readCommand_92 {X : po_X} {G : po_G} {st : Nat → Nat} {K : po_K} {R : po_R} {ρ : po_I} (hF : po_F X G cX8_readCommand RX8 4 st) (hL : po_L X none 6 0 0 "readCommand") (HL : po_Lay K R st) (I : po_I) (l0 : Nat) (l1 : Int32) (l2 : Int32) (kl0 : K l0 = (19, 19)) (hm : m_X8_readCommand_92 I l0 l1 l2 = some ρ) : po_V X G 4 (po_Q X G (.inl (none)) K R (ρ) none 0 0) 0 0 92 [(0, .ref l0), (1, .int l1), (2, .int l2)] [] K R I none := by
  unfold m_X8_readCommand_92 at hm
  refine po_iconst (v := 1) hF dX8_readCommand_92 (by decide) ?_
  refine po_goto (tgt := 97) hF dX8_readCommand_93 (by decide) ?_
  exact w_X8_readCommand_97 hF hL HL I l0 l1 l2 1 kl0 hm
set_option maxRecDepth 20000 in
set_option maxHeartbeats 2000000 in
theorem w_X8_readCommand_61 {X : po_X} {G : po_G} {st : Nat → Nat} {K : po_K} {R : po_R} {ρ : po_I} (hF : po_F X G cX8_readCommand RX8 4 st) (hL : po_L X none 6 0 0 "readCommand") (HL : po_Lay K R st) (I : po_I) (l0 : Nat) (l1 : Int32) (s0 : Int32) (kl0 : K l0 = (19, 19)) (hm : m_X8_readCommand_61 I l0 l1 s0 = some ρ) : po_V X G 4 (po_Q X G (.inl (none)) K R (ρ) none 0 0) 0 0 61 [(0, .ref l0), (1, .int l1)] [.int s0] K R I none := by
  unfold m_X8_readCommand_61 at hm
  refine po_istore_n (L' := [(2, .int s0), (0, .ref l0), (1, .int l1)]) hF dX8_readCommand_61 rfl (by decide) rfl ?_
  refine po_iload_n hF dX8_readCommand_62 rfl rfl ?_
  refine po_bipush (v := 76) hF dX8_readCommand_63 (by decide) ?_
  refine po_icmp_eq (tgt := 92) hF dX8_readCommand_65 (by decide) hm (fun hm => ?_) (fun hm => ?_)
  · refine po_sub (L' := [(0, .ref l0), (1, .int l1), (2, .int s0)]) rfl ?_
    exact w_X8_readCommand_92 hF hL HL I l0 l1 s0 kl0 hm
  · refine po_iload_n hF dX8_readCommand_68 rfl rfl ?_
    refine po_bipush (v := 80) hF dX8_readCommand_69 (by decide) ?_
    refine po_icmp_eq (tgt := 92) hF dX8_readCommand_71 (by decide) hm (fun hm => ?_) (fun hm => ?_)
    · refine po_sub (L' := [(0, .ref l0), (1, .int l1), (2, .int s0)]) rfl ?_
      exact w_X8_readCommand_92 hF hL HL I l0 l1 s0 kl0 hm
    · refine po_iload_n hF dX8_readCommand_74 rfl rfl ?_
      refine po_bipush (v := 86) hF dX8_readCommand_75 (by decide) ?_
      refine po_icmp_eq (tgt := 92) hF dX8_readCommand_77 (by decide) hm (fun hm => ?_) (fun hm => ?_)
      · refine po_sub (L' := [(0, .ref l0), (1, .int l1), (2, .int s0)]) rfl ?_
        exact w_X8_readCommand_92 hF hL HL I l0 l1 s0 kl0 hm
      · refine po_iload_n hF dX8_readCommand_80 rfl rfl ?_
        refine po_bipush (v := 67) hF dX8_readCommand_81 (by decide) ?_
        refine po_icmp_eq (tgt := 92) hF dX8_readCommand_83 (by decide) hm (fun hm => ?_) (fun hm => ?_)
        · refine po_sub (L' := [(0, .ref l0), (1, .int l1), (2, .int s0)]) rfl ?_
          exact w_X8_readCommand_92 hF hL HL I l0 l1 s0 kl0 hm
        · refine po_iload_n hF dX8_readCommand_86 rfl rfl ?_
          refine po_bipush (v := 90) hF dX8_readCommand_87 (by decide) ?_
          refine po_icmp_ne (tgt := 96) hF dX8_readCommand_89 (by decide) hm (fun hm => ?_) (fun hm => ?_)
          · refine po_iconst (v := 0) hF dX8_readCommand_96 (by decide) ?_
            refine po_sub (L' := [(0, .ref l0), (1, .int l1), (2, .int s0)]) rfl ?_
            exact w_X8_readCommand_97 hF hL HL I l0 l1 s0 0 kl0 hm
          · refine po_sub (L' := [(0, .ref l0), (1, .int l1), (2, .int s0)]) rfl ?_
            exact w_X8_readCommand_92 hF hL HL I l0 l1 s0 kl0 hm
set_option maxRecDepth 20000 in
set_option maxHeartbeats 2000000 in
theorem w_X8_readCommand_60 {X : po_X} {G : po_G} {st : Nat → Nat} {K : po_K} {R : po_R} {ρ : po_I} (hF : po_F X G cX8_readCommand RX8 4 st) (hL : po_L X none 6 0 0 "readCommand") (HL : po_Lay K R st) (I : po_I) (l0 : Nat) (l1 : Int32) (kl0 : K l0 = (19, 19)) (hm : m_X8_readCommand_60 I l0 l1 = some ρ) : po_V X G 4 (po_Q X G (.inl (none)) K R (ρ) none 0 0) 0 0 60 [(0, .ref l0), (1, .int l1)] [] K R I none := by
  unfold m_X8_readCommand_60 at hm
  refine po_iconst (v := 0) hF dX8_readCommand_60 (by decide) ?_
  exact w_X8_readCommand_61 hF hL HL I l0 l1 0 kl0 hm
set_option maxRecDepth 20000 in
set_option maxHeartbeats 2000000 in
theorem w_X8_readCommand_56 {X : po_X} {G : po_G} {st : Nat → Nat} {K : po_K} {R : po_R} {ρ : po_I} (hF : po_F X G cX8_readCommand RX8 4 st) (hL : po_L X none 6 0 0 "readCommand") (HL : po_Lay K R st) (I : po_I) (l0 : Nat) (l1 : Int32) (kl0 : K l0 = (19, 19)) (hm : m_X8_readCommand_56 I l0 l1 = some ρ) : po_V X G 4 (po_Q X G (.inl (none)) K R (ρ) none 0 0) 0 0 56 [(0, .ref l0), (1, .int l1)] [] K R I none := by
  unfold m_X8_readCommand_56 at hm
  refine po_iconst (v := 1) hF dX8_readCommand_56 (by decide) ?_
  refine po_goto (tgt := 61) hF dX8_readCommand_57 (by decide) ?_
  exact w_X8_readCommand_61 hF hL HL I l0 l1 1 kl0 hm
set_option maxRecDepth 20000 in
set_option maxHeartbeats 2000000 in
theorem w_X8_readCommand_39 {X : po_X} {G : po_G} {st : Nat → Nat} {K : po_K} {R : po_R} {ρ : po_I} (hF : po_F X G cX8_readCommand RX8 4 st) (hL : po_L X none 6 0 0 "readCommand") (HL : po_Lay K R st) (I : po_I) (l0 : Nat) (l1 : Int32) (kl0 : K l0 = (19, 19)) (hm : m_X8_readCommand_39 I l0 l1 = some ρ) : po_V X G 4 (po_Q X G (.inl (none)) K R (ρ) none 0 0) 0 0 39 [(0, .ref l0), (1, .int l1)] [] K R I none := by
  unfold m_X8_readCommand_39 at hm
  refine po_iload_n hF dX8_readCommand_39 rfl rfl ?_
  refine po_bipush (v := 86) hF dX8_readCommand_40 (by decide) ?_
  refine po_icmp_ne (tgt := 60) hF dX8_readCommand_42 (by decide) hm (fun hm => ?_) (fun hm => ?_)
  · exact w_X8_readCommand_60 hF hL HL I l0 l1 kl0 hm
  · refine po_aload_n hF dX8_readCommand_45 rfl rfl ?_
    refine po_getf (v := .ref (l0 + 1)) hF dX8_readCommand_46 fl_X8_13 kl0 (ly_8_1 HL kl0).1 ?_
    refine po_iconst (v := 3) hF dX8_readCommand_49 (by decide) ?_
    refine po_ialdC (j := 3) hF dX8_readCommand_50 ((ly_8_1 HL kl0).2) (Or.inl rfl) (by decide) (by decide) (by decide) ?_
    refine po_bipush (v := 12) hF dX8_readCommand_51 (by decide) ?_
    refine po_icmp_ne (tgt := 60) hF dX8_readCommand_53 (by decide) hm (fun hm => ?_) (fun hm => ?_)
    · exact w_X8_readCommand_60 hF hL HL I l0 l1 kl0 hm
    · exact w_X8_readCommand_56 hF hL HL I l0 l1 kl0 hm
set_option maxRecDepth 20000 in
set_option maxHeartbeats 2000000 in
theorem w_X8_readCommand_22 {X : po_X} {G : po_G} {st : Nat → Nat} {K : po_K} {R : po_R} {ρ : po_I} (hF : po_F X G cX8_readCommand RX8 4 st) (hL : po_L X none 6 0 0 "readCommand") (HL : po_Lay K R st) (I : po_I) (l0 : Nat) (l1 : Int32) (kl0 : K l0 = (19, 19)) (hm : m_X8_readCommand_22 I l0 l1 = some ρ) : po_V X G 4 (po_Q X G (.inl (none)) K R (ρ) none 0 0) 0 0 22 [(0, .ref l0), (1, .int l1)] [] K R I none := by
  unfold m_X8_readCommand_22 at hm
  refine po_iload_n hF dX8_readCommand_22 rfl rfl ?_
  refine po_bipush (v := 80) hF dX8_readCommand_23 (by decide) ?_
  refine po_icmp_ne (tgt := 39) hF dX8_readCommand_25 (by decide) hm (fun hm => ?_) (fun hm => ?_)
  · exact w_X8_readCommand_39 hF hL HL I l0 l1 kl0 hm
  · refine po_aload_n hF dX8_readCommand_28 rfl rfl ?_
    refine po_getf (v := .ref (l0 + 1)) hF dX8_readCommand_29 fl_X8_13 kl0 (ly_8_1 HL kl0).1 ?_
    refine po_iconst (v := 2) hF dX8_readCommand_32 (by decide) ?_
    refine po_ialdC (j := 2) hF dX8_readCommand_33 ((ly_8_1 HL kl0).2) (Or.inl rfl) (by decide) (by decide) (by decide) ?_
    refine po_bipush (v := 10) hF dX8_readCommand_34 (by decide) ?_
    refine po_icmp_eq (tgt := 56) hF dX8_readCommand_36 (by decide) hm (fun hm => ?_) (fun hm => ?_)
    · exact w_X8_readCommand_56 hF hL HL I l0 l1 kl0 hm
    · exact w_X8_readCommand_39 hF hL HL I l0 l1 kl0 hm
set_option maxRecDepth 20000 in
set_option maxHeartbeats 2000000 in
theorem w_X8_readCommand_e {X : po_X} {G : po_G} {st : Nat → Nat} {K : po_K} {R : po_R} {ρ : po_I} (hF : po_F X G cX8_readCommand RX8 4 st) (hL : po_L X none 6 0 0 "readCommand") (HL : po_Lay K R st) (I : po_I) (l0 : Nat) (kl0 : K l0 = (19, 19)) (hm : m_X8_readCommand_e I l0 = some ρ) : po_V X G 4 (po_Q X G (.inl (none)) K R (ρ) none 0 0) 0 0 0 [(0, .ref l0)] [] K R I none := by
  unfold m_X8_readCommand_e at hm
  refine po_aload_n hF dX8_readCommand_0 rfl rfl ?_
  obtain ⟨x8, hx8, hm⟩ := po_bind hm
  refine po_callV (As := []) hF dX8_readCommand_1 wq_1300 mv_X8_sign ws_X8_sign (show po_cl[8]? = some _ from rfl) rfl kl0 (c_X8_sign HL kl0 hx8) rfl (po_rtL hL rfl) (Nat.le_of_ble_eq_true rfl) rfl ?_
  refine po_istore_n (L' := [(1, .int x8), (0, .ref l0)]) hF dX8_readCommand_4 rfl (by decide) rfl ?_
  refine po_iload_n hF dX8_readCommand_5 rfl rfl ?_
  refine po_bipush (v := 76) hF dX8_readCommand_6 (by decide) ?_
  refine po_icmp_ne (tgt := 22) hF dX8_readCommand_8 (by decide) hm (fun hm => ?_) (fun hm => ?_)
  · refine po_sub (L' := [(0, .ref l0), (1, .int x8)]) rfl ?_
    exact w_X8_readCommand_22 hF hL HL I l0 x8 kl0 hm
  · refine po_aload_n hF dX8_readCommand_11 rfl rfl ?_
    refine po_getf (v := .ref (l0 + 1)) hF dX8_readCommand_12 fl_X8_13 kl0 (ly_8_1 HL kl0).1 ?_
    refine po_iconst (v := 1) hF dX8_readCommand_15 (by decide) ?_
    refine po_ialdC (j := 1) hF dX8_readCommand_16 ((ly_8_1 HL kl0).2) (Or.inl rfl) (by decide) (by decide) (by decide) ?_
    refine po_bipush (v := 8) hF dX8_readCommand_17 (by decide) ?_
    refine po_icmp_eq (tgt := 56) hF dX8_readCommand_19 (by decide) hm (fun hm => ?_) (fun hm => ?_)
    · refine po_sub (L' := [(0, .ref l0), (1, .int x8)]) rfl ?_
      exact w_X8_readCommand_56 hF hL HL I l0 x8 kl0 hm
    · refine po_sub (L' := [(0, .ref l0), (1, .int x8)]) rfl ?_
      exact w_X8_readCommand_22 hF hL HL I l0 x8 kl0 hm
theorem c_X8_readCommand {K : po_K} {R : po_R} {I : po_I} {st : Nat → Nat} {ρ : po_I} (HL : po_Lay K R st) {l0 : Nat} (kl0 : K l0 = (19, 19)) (hm : m_X8_readCommand I l0 = some ρ) : po_C st yX8_readCommand cX8_readCommand 4 none 6 0 0 [.ref l0] K R I none (.inl (none)) K R (ρ) none := by
  refine po_ofC (by decide +kernel) (Nat.le_of_ble_eq_true rfl) (fun X G hF hL => ?_)
  exact w_X8_readCommand_e hF hL HL I l0 kl0 hm
set_option maxRecDepth 20000 in
set_option maxHeartbeats 2000000 in
theorem w_X8_remember_52 {X : po_X} {G : po_G} {st : Nat → Nat} {K : po_K} {R : po_R} {ρ : po_I} {r52 : po_I → Nat → Int32 → Option (po_I)} (hF : po_F X G cX8_remember RX8 2 st) (hL : po_L X none 0 0 0 "remember") (HL : po_Lay K R st) (h52 : ∀ (I : po_I) (l0 : Nat) (l1 : Int32), r52 I l0 l1 = some ρ → K l0 = (19, 19) → po_V X G 2 (po_Q X G (.inl (none)) K R (ρ) none 0 0) 0 0 52 [(0, .ref l0), (1, .int l1)] [] K R I none) (I : po_I) (l0 : Nat) (l1 : Int32) (kl0 : K l0 = (19, 19)) (hm : m_X8_remember_52 r52 I l0 l1 = some ρ) : po_V X G 2 (po_Q X G (.inl (none)) K R (ρ) none 0 0) 0 0 52 [(0, .ref l0), (1, .int l1)] [] K R I none := by
  unfold m_X8_remember_52 at hm
  refine po_iload_n hF dX8_remember_52 rfl rfl ?_
  refine po_sipush (v := 668) hF dX8_remember_53 (by decide) ?_
  refine po_icmp_ge (tgt := 86) hF dX8_remember_56 (by decide) hm (fun hm => ?_) (fun hm => ?_)
  · refine po_aload_n hF dX8_remember_86 rfl rfl ?_
    refine po_dup hF dX8_remember_87 rfl ?_
    refine po_getf (v := .int (I l0 3)) hF dX8_remember_88 fl_X8_39 kl0 rfl ?_
    refine po_iconst (v := 1) hF dX8_remember_91 (by decide) ?_
    refine po_iadd hF dX8_remember_92 ?_
    refine po_puti hF dX8_remember_93 fl_X8_39 kl0 (by intro r h; cases h; rfl) rfl rfl (fun _ => rfl) rfl ?_
    refine po_hname hm (fun I1 hm => ?_)
    cases hm
    exact po_vret hF hL dX8_remember_96 (by decide) (by decide) rfl rfl rfl (Or.inl rfl)
  · refine po_aload_n hF dX8_remember_59 rfl rfl ?_
    refine po_getf (v := .ref (l0 + 2)) hF dX8_remember_60 fl_X8_17 kl0 (ly_8_2 HL kl0).1 ?_
    refine po_sipush (v := 668) hF dX8_remember_63 (by decide) ?_
    refine po_aload_n hF dX8_remember_66 rfl rfl ?_
    refine po_getf (v := .int (I l0 3)) hF dX8_remember_67 fl_X8_39 kl0 rfl ?_
    refine po_imul hF dX8_remember_70 ?_
    refine po_iload_n hF dX8_remember_71 rfl rfl ?_
    refine po_iadd hF dX8_remember_72 ?_
    refine po_aload_n hF dX8_remember_73 rfl rfl ?_
    refine po_getf (v := .ref (l0 + 3)) hF dX8_remember_74 fl_X8_20 kl0 (ly_8_4 HL kl0).1 ?_
    refine po_iload_n hF dX8_remember_77 rfl rfl ?_
    refine po_iald hF dX8_remember_78 ((ly_8_4 HL kl0).2) (Or.inl rfl) hm (fun hm => ?_)
    refine po_iast hF dX8_remember_79 ((ly_8_2 HL kl0).2) hm rfl (fun hm => ?_)
    refine po_hname hm (fun I2 hm => ?_)
    refine po_iinc (v := l1 + 1) (L' := [(1, .int (l1 + 1)), (0, .ref l0)]) hF dX8_remember_80 rfl rfl (by decide) rfl ?_
    refine po_goto (tgt := 52) hF dX8_remember_83 (by decide) ?_
    refine po_sub (L' := [(0, .ref l0), (1, .int (l1 + 1))]) rfl ?_
    exact h52 I2 l0 (l1 + 1) hm kl0
theorem w_X8_remember_52L {X : po_X} {G : po_G} {st : Nat → Nat} {K : po_K} {R : po_R} {ρ : po_I} (hF : po_F X G cX8_remember RX8 2 st) (hL : po_L X none 0 0 0 "remember") (HL : po_Lay K R st) : ∀ (n : Nat) (I : po_I) (l0 : Nat) (l1 : Int32), m_X8_remember_52L n I l0 l1 = some ρ → K l0 = (19, 19) → po_V X G 2 (po_Q X G (.inl (none)) K R (ρ) none 0 0) 0 0 52 [(0, .ref l0), (1, .int l1)] [] K R I none := by
  intro n
  induction n with
  | zero => intro I l0 l1 hm; cases hm
  | succ n ih => intro I l0 l1 hm kl0; exact w_X8_remember_52 hF hL HL (ih) I l0 l1 kl0 hm
set_option maxRecDepth 20000 in
set_option maxHeartbeats 2000000 in
theorem w_X8_remember_50 {X : po_X} {G : po_G} {st : Nat → Nat} {K : po_K} {R : po_R} {ρ : po_I} (hF : po_F X G cX8_remember RX8 2 st) (hL : po_L X none 0 0 0 "remember") (HL : po_Lay K R st) (I : po_I) (l0 : Nat) (kl0 : K l0 = (19, 19)) (hm : m_X8_remember_50 I l0 = some ρ) : po_V X G 2 (po_Q X G (.inl (none)) K R (ρ) none 0 0) 0 0 50 [(0, .ref l0)] [] K R I none := by
  unfold m_X8_remember_50 at hm
  refine po_iconst (v := 0) hF dX8_remember_50 (by decide) ?_
  refine po_istore_n (L' := [(1, .int 0), (0, .ref l0)]) hF dX8_remember_51 rfl (by decide) rfl ?_
  refine po_sub (L' := [(0, .ref l0), (1, .int 0)]) rfl ?_
  exact w_X8_remember_52L hF hL HL 5000 I l0 0 hm kl0
set_option maxRecDepth 20000 in
set_option maxHeartbeats 2000000 in
theorem w_X8_remember_11 {X : po_X} {G : po_G} {st : Nat → Nat} {K : po_K} {R : po_R} {ρ : po_I} {r11 : po_I → Nat → Int32 → Option (po_I)} (hF : po_F X G cX8_remember RX8 2 st) (hL : po_L X none 0 0 0 "remember") (HL : po_Lay K R st) (h11 : ∀ (I : po_I) (l0 : Nat) (l1 : Int32), r11 I l0 l1 = some ρ → K l0 = (19, 19) → po_V X G 2 (po_Q X G (.inl (none)) K R (ρ) none 0 0) 0 0 11 [(0, .ref l0), (1, .int l1)] [] K R I none) (I : po_I) (l0 : Nat) (l1 : Int32) (kl0 : K l0 = (19, 19)) (hm : m_X8_remember_11 r11 I l0 l1 = some ρ) : po_V X G 2 (po_Q X G (.inl (none)) K R (ρ) none 0 0) 0 0 11 [(0, .ref l0), (1, .int l1)] [] K R I none := by
  unfold m_X8_remember_11 at hm
  refine po_iload_n hF dX8_remember_11 rfl rfl ?_
  refine po_sipush (v := 3340) hF dX8_remember_12 (by decide) ?_
  refine po_icmp_ge (tgt := 40) hF dX8_remember_15 (by decide) hm (fun hm => ?_) (fun hm => ?_)
  · refine po_aload_n hF dX8_remember_40 rfl rfl ?_
    refine po_dup hF dX8_remember_41 rfl ?_
    refine po_getf (v := .int (I l0 3)) hF dX8_remember_42 fl_X8_39 kl0 rfl ?_
    refine po_iconst (v := 1) hF dX8_remember_45 (by decide) ?_
    refine po_isub hF dX8_remember_46 ?_
    refine po_puti hF dX8_remember_47 fl_X8_39 kl0 (by intro r h; cases h; rfl) rfl rfl (fun _ => rfl) rfl ?_
    refine po_hname hm (fun I3 hm => ?_)
    refine po_sub (L' := [(0, .ref l0)]) rfl ?_
    exact w_X8_remember_50 hF hL HL I3 l0 kl0 hm
  · refine po_aload_n hF dX8_remember_18 rfl rfl ?_
    refine po_getf (v := .ref (l0 + 2)) hF dX8_remember_19 fl_X8_17 kl0 (ly_8_2 HL kl0).1 ?_
    refine po_iload_n hF dX8_remember_22 rfl rfl ?_
    refine po_aload_n hF dX8_remember_23 rfl rfl ?_
    refine po_getf (v := .ref (l0 + 2)) hF dX8_remember_24 fl_X8_17 kl0 (ly_8_2 HL kl0).1 ?_
    refine po_iload_n hF dX8_remember_27 rfl rfl ?_
    refine po_sipush (v := 668) hF dX8_remember_28 (by decide) ?_
    refine po_iadd hF dX8_remember_31 ?_
    refine po_iald hF dX8_remember_32 ((ly_8_2 HL kl0).2) (Or.inl rfl) hm (fun hm => ?_)
    refine po_iast hF dX8_remember_33 ((ly_8_2 HL kl0).2) hm rfl (fun hm => ?_)
    refine po_hname hm (fun I4 hm => ?_)
    refine po_iinc (v := l1 + 1) (L' := [(1, .int (l1 + 1)), (0, .ref l0)]) hF dX8_remember_34 rfl rfl (by decide) rfl ?_
    refine po_goto (tgt := 11) hF dX8_remember_37 (by decide) ?_
    refine po_sub (L' := [(0, .ref l0), (1, .int (l1 + 1))]) rfl ?_
    exact h11 I4 l0 (l1 + 1) hm kl0
theorem w_X8_remember_11L {X : po_X} {G : po_G} {st : Nat → Nat} {K : po_K} {R : po_R} {ρ : po_I} (hF : po_F X G cX8_remember RX8 2 st) (hL : po_L X none 0 0 0 "remember") (HL : po_Lay K R st) : ∀ (n : Nat) (I : po_I) (l0 : Nat) (l1 : Int32), m_X8_remember_11L n I l0 l1 = some ρ → K l0 = (19, 19) → po_V X G 2 (po_Q X G (.inl (none)) K R (ρ) none 0 0) 0 0 11 [(0, .ref l0), (1, .int l1)] [] K R I none := by
  intro n
  induction n with
  | zero => intro I l0 l1 hm; cases hm
  | succ n ih => intro I l0 l1 hm kl0; exact w_X8_remember_11 hF hL HL (ih) I l0 l1 kl0 hm
set_option maxRecDepth 20000 in
set_option maxHeartbeats 2000000 in
theorem w_X8_remember_e {X : po_X} {G : po_G} {st : Nat → Nat} {K : po_K} {R : po_R} {ρ : po_I} (hF : po_F X G cX8_remember RX8 2 st) (hL : po_L X none 0 0 0 "remember") (HL : po_Lay K R st) (I : po_I) (l0 : Nat) (kl0 : K l0 = (19, 19)) (hm : m_X8_remember_e I l0 = some ρ) : po_V X G 2 (po_Q X G (.inl (none)) K R (ρ) none 0 0) 0 0 0 [(0, .ref l0)] [] K R I none := by
  unfold m_X8_remember_e at hm
  refine po_aload_n hF dX8_remember_0 rfl rfl ?_
  refine po_getf (v := .int (I l0 3)) hF dX8_remember_1 fl_X8_39 kl0 rfl ?_
  refine po_bipush (v := 6) hF dX8_remember_4 (by decide) ?_
  refine po_icmp_ne (tgt := 50) hF dX8_remember_6 (by decide) hm (fun hm => ?_) (fun hm => ?_)
  · exact w_X8_remember_50 hF hL HL I l0 kl0 hm
  · refine po_iconst (v := 0) hF dX8_remember_9 (by decide) ?_
    refine po_istore_n (L' := [(1, .int 0), (0, .ref l0)]) hF dX8_remember_10 rfl (by decide) rfl ?_
    refine po_sub (L' := [(0, .ref l0), (1, .int 0)]) rfl ?_
    exact w_X8_remember_11L hF hL HL 5000 I l0 0 hm kl0
theorem c_X8_remember {K : po_K} {R : po_R} {I : po_I} {st : Nat → Nat} {ρ : po_I} (HL : po_Lay K R st) {l0 : Nat} (kl0 : K l0 = (19, 19)) (hm : m_X8_remember I l0 = some ρ) : po_C st yX8_remember cX8_remember 2 none 0 0 0 [.ref l0] K R I none (.inl (none)) K R (ρ) none := by
  refine po_ofC (by decide +kernel) (Nat.le_of_ble_eq_true rfl) (fun X G hF hL => ?_)
  exact w_X8_remember_e hF hL HL I l0 kl0 hm
set_option maxRecDepth 20000 in
set_option maxHeartbeats 2000000 in
theorem w_X8_execute_74 {X : po_X} {G : po_G} {st : Nat → Nat} {K : po_K} {R : po_R} {ρ : Int32 × po_I} (hF : po_F X G cX8_execute RX8 2 st) (hL : po_L X (some .int) 7 0 0 "execute") (HL : po_Lay K R st) (I : po_I) (l0 : Nat) (l1 : Int32) (kl0 : K l0 = (19, 19)) (hm : m_X8_execute_74 I l0 l1 = some ρ) : po_V X G 2 (po_Q X G (.inl (some (.int ρ.1))) K R (ρ.2) none 0 0) 0 0 74 [(0, .ref l0), (1, .int l1)] [] K R I none := by
  unfold m_X8_execute_74 at hm
  refine po_aload_n hF dX8_execute_74 rfl rfl ?_
  refine po_getf (v := .int (I l0 15)) hF dX8_execute_75 fl_X8_29 kl0 rfl ?_
  refine po_iconst (v := (-1)) hF dX8_execute_78 (by decide) ?_
  refine po_icmp_eq (tgt := 99) hF dX8_execute_79 (by decide) hm (fun hm => ?_) (fun hm => ?_)
  · refine po_aload_n hF dX8_execute_99 rfl rfl ?_
    obtain ⟨x1, hx1, hm⟩ := po_bind hm
    refine po_callV (As := []) hF dX8_execute_100 wq_1414 mv_X8_remember ws_X8_remember (show po_cl[8]? = some _ from rfl) rfl kl0 (c_X8_remember HL kl0 hx1) rfl (po_rtL hL rfl) (Nat.le_of_ble_eq_true rfl) rfl ?_
    refine po_iload_n hF dX8_execute_103 rfl rfl ?_
    cases hm
    exact po_iret hF hL dX8_execute_104 (by decide) (by decide) rfl rfl rfl (Or.inl rfl)
  · refine po_aload_n hF dX8_execute_82 rfl rfl ?_
    refine po_getf (v := .ref (l0 + 3)) hF dX8_execute_83 fl_X8_20 kl0 (ly_8_4 HL kl0).1 ?_
    refine po_aload_n hF dX8_execute_86 rfl rfl ?_
    refine po_getf (v := .ref (l0 + 1)) hF dX8_execute_87 fl_X8_13 kl0 (ly_8_1 HL kl0).1 ?_
    obtain ⟨x2, hx2, hm⟩ := po_bind hm
    refine po_callS (As := [.ref (l0 + 3), .ref (l0 + 1)]) hF dX8_execute_90 wq_1293 mv_X8_copy (c_X8_copy HL ((ly_8_4 HL kl0).2) ((ly_8_1 HL kl0).2) hx2) rfl (po_rtL hL rfl) (Nat.le_of_ble_eq_true rfl) rfl ?_
    refine po_aload_n hF dX8_execute_93 rfl rfl ?_
    refine po_iconst (v := 1) hF dX8_execute_94 (by decide) ?_
    obtain ⟨x3, hx3, hm⟩ := po_bind hm
    refine po_callV (As := [.int 1]) hF dX8_execute_95 wq_1285 mv_X8_fail ws_X8_fail (show po_cl[8]? = some _ from rfl) rfl kl0 (c_X8_fail HL kl0 hx3) rfl (po_rtL hL rfl) (Nat.le_of_ble_eq_true rfl) rfl ?_
    cases hm
    exact po_iret hF hL dX8_execute_98 (by decide) (by decide) rfl rfl rfl (Or.inl rfl)
set_option maxRecDepth 20000 in
set_option maxHeartbeats 2000000 in
theorem w_X8_execute_64 {X : po_X} {G : po_G} {st : Nat → Nat} {K : po_K} {R : po_R} {ρ : Int32 × po_I} {r41 : po_I → Nat → Int32 → Option (Int32 × po_I)} (hF : po_F X G cX8_execute RX8 2 st) (hL : po_L X (some .int) 7 0 0 "execute") (HL : po_Lay K R st) (h41 : ∀ (I : po_I) (l0 : Nat) (l1 : Int32), r41 I l0 l1 = some ρ → K l0 = (19, 19) → po_V X G 2 (po_Q X G (.inl (some (.int ρ.1))) K R (ρ.2) none 0 0) 0 0 41 [(0, .ref l0), (1, .int l1)] [] K R I none) (I : po_I) (l0 : Nat) (l1 : Int32) (kl0 : K l0 = (19, 19)) (hm : m_X8_execute_64 r41 I l0 l1 = some ρ) : po_V X G 2 (po_Q X G (.inl (some (.int ρ.1))) K R (ρ.2) none 0 0) 0 0 64 [(0, .ref l0), (1, .int l1)] [] K R I none := by
  unfold m_X8_execute_64 at hm
  refine po_aload_n hF dX8_execute_64 rfl rfl ?_
  obtain ⟨x4, hx4, hm⟩ := po_bind hm
  refine po_callV (As := []) hF dX8_execute_65 wq_1296 mv_X8_readCommand ws_X8_readCommand (show po_cl[8]? = some _ from rfl) rfl kl0 (c_X8_readCommand HL kl0 hx4) rfl (po_rtL hL rfl) (Nat.le_of_ble_eq_true rfl) rfl ?_
  refine po_iinc (v := l1 + 1) (L' := [(1, .int (l1 + 1)), (0, .ref l0)]) hF dX8_execute_68 rfl rfl (by decide) rfl ?_
  refine po_goto (tgt := 41) hF dX8_execute_71 (by decide) ?_
  refine po_sub (L' := [(0, .ref l0), (1, .int (l1 + 1))]) rfl ?_
  exact h41 x4 l0 (l1 + 1) hm kl0
set_option maxRecDepth 20000 in
set_option maxHeartbeats 2000000 in
theorem w_X8_execute_41 {X : po_X} {G : po_G} {st : Nat → Nat} {K : po_K} {R : po_R} {ρ : Int32 × po_I} {r41 : po_I → Nat → Int32 → Option (Int32 × po_I)} (hF : po_F X G cX8_execute RX8 2 st) (hL : po_L X (some .int) 7 0 0 "execute") (HL : po_Lay K R st) (h41 : ∀ (I : po_I) (l0 : Nat) (l1 : Int32), r41 I l0 l1 = some ρ → K l0 = (19, 19) → po_V X G 2 (po_Q X G (.inl (some (.int ρ.1))) K R (ρ.2) none 0 0) 0 0 41 [(0, .ref l0), (1, .int l1)] [] K R I none) (I : po_I) (l0 : Nat) (l1 : Int32) (kl0 : K l0 = (19, 19)) (hm : m_X8_execute_41 r41 I l0 l1 = some ρ) : po_V X G 2 (po_Q X G (.inl (some (.int ρ.1))) K R (ρ.2) none 0 0) 0 0 41 [(0, .ref l0), (1, .int l1)] [] K R I none := by
  unfold m_X8_execute_41 at hm
  refine po_aload_n hF dX8_execute_41 rfl rfl ?_
  refine po_getf (v := .int (I l0 15)) hF dX8_execute_42 fl_X8_29 kl0 rfl ?_
  refine po_iconst (v := (-1)) hF dX8_execute_45 (by decide) ?_
  refine po_icmp_ne (tgt := 74) hF dX8_execute_46 (by decide) hm (fun hm => ?_) (fun hm => ?_)
  · exact w_X8_execute_74 hF hL HL I l0 l1 kl0 hm
  · refine po_iload_n hF dX8_execute_49 rfl rfl ?_
    refine po_if_eq (tgt := 64) hF dX8_execute_50 (by decide) hm (fun hm => ?_) (fun hm => ?_)
    · exact w_X8_execute_64 hF hL HL h41 I l0 l1 kl0 hm
    · refine po_aload_n hF dX8_execute_53 rfl rfl ?_
      refine po_getf (v := .int (I l0 14)) hF dX8_execute_54 fl_X8_166 kl0 rfl ?_
      refine po_aload_n hF dX8_execute_57 rfl rfl ?_
      refine po_getf (v := .int (I l0 13)) hF dX8_execute_58 fl_X8_169 kl0 rfl ?_
      refine po_icmp_ge (tgt := 74) hF dX8_execute_61 (by decide) hm (fun hm => ?_) (fun hm => ?_)
      · exact w_X8_execute_74 hF hL HL I l0 l1 kl0 hm
      · exact w_X8_execute_64 hF hL HL h41 I l0 l1 kl0 hm
theorem w_X8_execute_41L {X : po_X} {G : po_G} {st : Nat → Nat} {K : po_K} {R : po_R} {ρ : Int32 × po_I} (hF : po_F X G cX8_execute RX8 2 st) (hL : po_L X (some .int) 7 0 0 "execute") (HL : po_Lay K R st) : ∀ (n : Nat) (I : po_I) (l0 : Nat) (l1 : Int32), m_X8_execute_41L n I l0 l1 = some ρ → K l0 = (19, 19) → po_V X G 2 (po_Q X G (.inl (some (.int ρ.1))) K R (ρ.2) none 0 0) 0 0 41 [(0, .ref l0), (1, .int l1)] [] K R I none := by
  intro n
  induction n with
  | zero => intro I l0 l1 hm; cases hm
  | succ n ih => intro I l0 l1 hm kl0; exact w_X8_execute_41 hF hL HL (ih) I l0 l1 kl0 hm
set_option maxRecDepth 20000 in
set_option maxHeartbeats 2000000 in
theorem w_X8_execute_e {X : po_X} {G : po_G} {st : Nat → Nat} {K : po_K} {R : po_R} {ρ : Int32 × po_I} (hF : po_F X G cX8_execute RX8 2 st) (hL : po_L X (some .int) 7 0 0 "execute") (HL : po_Lay K R st) (I : po_I) (l0 : Nat) (kl0 : K l0 = (19, 19)) (hm : m_X8_execute_e I l0 = some ρ) : po_V X G 2 (po_Q X G (.inl (some (.int ρ.1))) K R (ρ.2) none 0 0) 0 0 0 [(0, .ref l0)] [] K R I none := by
  unfold m_X8_execute_e at hm
  refine po_aload_n hF dX8_execute_0 rfl rfl ?_
  refine po_iconst (v := 0) hF dX8_execute_1 (by decide) ?_
  refine po_puti hF dX8_execute_2 fl_X8_1 kl0 (by intro r h; cases h; rfl) rfl rfl (fun _ => rfl) rfl ?_
  refine po_hname hm (fun I5 hm => ?_)
  refine po_aload_n hF dX8_execute_5 rfl rfl ?_
  refine po_aload_n hF dX8_execute_6 rfl rfl ?_
  refine po_getf (v := .int (I5 l0 12)) hF dX8_execute_7 fl_X8_160 kl0 rfl ?_
  refine po_puti hF dX8_execute_10 fl_X8_169 kl0 (by intro r h; cases h; rfl) rfl rfl (fun _ => rfl) rfl ?_
  refine po_hname hm (fun I6 hm => ?_)
  refine po_aload_n hF dX8_execute_13 rfl rfl ?_
  refine po_iconst (v := 0) hF dX8_execute_14 (by decide) ?_
  refine po_puti hF dX8_execute_15 fl_X8_160 kl0 (by intro r h; cases h; rfl) rfl rfl (fun _ => rfl) rfl ?_
  refine po_hname hm (fun I7 hm => ?_)
  refine po_aload_n hF dX8_execute_18 rfl rfl ?_
  refine po_iconst (v := 0) hF dX8_execute_19 (by decide) ?_
  refine po_puti hF dX8_execute_20 fl_X8_166 kl0 (by intro r h; cases h; rfl) rfl rfl (fun _ => rfl) rfl ?_
  refine po_hname hm (fun I8 hm => ?_)
  refine po_aload_n hF dX8_execute_23 rfl rfl ?_
  refine po_iconst (v := (-1)) hF dX8_execute_24 (by decide) ?_
  refine po_puti hF dX8_execute_25 fl_X8_29 kl0 (by intro r h; cases h; rfl) rfl rfl (fun _ => rfl) rfl ?_
  refine po_hname hm (fun I9 hm => ?_)
  refine po_aload_n hF dX8_execute_28 rfl rfl ?_
  refine po_getf (v := .ref (l0 + 1)) hF dX8_execute_29 fl_X8_13 kl0 (ly_8_1 HL kl0).1 ?_
  refine po_aload_n hF dX8_execute_32 rfl rfl ?_
  refine po_getf (v := .ref (l0 + 3)) hF dX8_execute_33 fl_X8_20 kl0 (ly_8_4 HL kl0).1 ?_
  obtain ⟨x10, hx10, hm⟩ := po_bind hm
  refine po_callS (As := [.ref (l0 + 1), .ref (l0 + 3)]) hF dX8_execute_36 wq_1293 mv_X8_copy (c_X8_copy HL ((ly_8_1 HL kl0).2) ((ly_8_4 HL kl0).2) hx10) rfl (po_rtL hL rfl) (Nat.le_of_ble_eq_true rfl) rfl ?_
  refine po_iconst (v := 0) hF dX8_execute_39 (by decide) ?_
  refine po_istore_n (L' := [(1, .int 0), (0, .ref l0)]) hF dX8_execute_40 rfl (by decide) rfl ?_
  refine po_sub (L' := [(0, .ref l0), (1, .int 0)]) rfl ?_
  exact w_X8_execute_41L hF hL HL 5000 x10 l0 0 hm kl0
theorem c_X8_execute {K : po_K} {R : po_R} {I : po_I} {st : Nat → Nat} {ρ : Int32 × po_I} (HL : po_Lay K R st) {l0 : Nat} (kl0 : K l0 = (19, 19)) (hm : m_X8_execute I l0 = some ρ) : po_C st yX8_execute cX8_execute 2 (some .int) 7 0 0 [.ref l0] K R I none (.inl (some (.int ρ.1))) K R (ρ.2) none := by
  refine po_ofC (by decide +kernel) (Nat.le_of_ble_eq_true rfl) (fun X G hF hL => ?_)
  exact w_X8_execute_e hF hL HL I l0 kl0 hm
set_option maxRecDepth 20000 in
set_option maxHeartbeats 2000000 in
theorem w_X8_errorPosition_e {X : po_X} {G : po_G} {st : Nat → Nat} {K : po_K} {R : po_R} {ρ : Int32 × po_I} (hF : po_F X G cX8_errorPosition RX8 1 st) (hL : po_L X (some .int) 0 0 0 "errorPosition") (HL : po_Lay K R st) (I : po_I) (l0 : Nat) (kl0 : K l0 = (19, 19)) (hm : m_X8_errorPosition_e I l0 = some ρ) : po_V X G 1 (po_Q X G (.inl (some (.int ρ.1))) K R (ρ.2) none 0 0) 0 0 0 [(0, .ref l0)] [] K R I none := by
  unfold m_X8_errorPosition_e at hm
  refine po_aload_n hF dX8_errorPosition_0 rfl rfl ?_
  refine po_iconst (v := 0) hF dX8_errorPosition_1 (by decide) ?_
  refine po_puti hF dX8_errorPosition_2 fl_X8_1 kl0 (by intro r h; cases h; rfl) rfl rfl (fun _ => rfl) rfl ?_
  refine po_hname hm (fun I1 hm => ?_)
  refine po_aload_n hF dX8_errorPosition_5 rfl rfl ?_
  refine po_getf (v := .int (I1 l0 15)) hF dX8_errorPosition_6 fl_X8_29 kl0 rfl ?_
  cases hm
  exact po_iret hF hL dX8_errorPosition_9 (by decide) (by decide) rfl rfl rfl (Or.inl rfl)
theorem c_X8_errorPosition {K : po_K} {R : po_R} {I : po_I} {st : Nat → Nat} {ρ : Int32 × po_I} (HL : po_Lay K R st) {l0 : Nat} (kl0 : K l0 = (19, 19)) (hm : m_X8_errorPosition I l0 = some ρ) : po_C st yX8_errorPosition cX8_errorPosition 1 (some .int) 0 0 0 [.ref l0] K R I none (.inl (some (.int ρ.1))) K R (ρ.2) none := by
  refine po_ofC (by decide +kernel) (Nat.le_of_ble_eq_true rfl) (fun X G hF hL => ?_)
  exact w_X8_errorPosition_e hF hL HL I l0 kl0 hm
set_option maxRecDepth 20000 in
set_option maxHeartbeats 2000000 in
theorem w_X8_rule_56 {X : po_X} {G : po_G} {st : Nat → Nat} {K : po_K} {R : po_R} {ρ : Int32 × po_I} (hF : po_F X G cX8_rule RX8 3 st) (hL : po_L X (some .int) 1 0 0 "rule") (HL : po_Lay K R st) (I : po_I) (s0 : Int32) (hm : m_X8_rule_56 I s0 = some ρ) : po_V X G 3 (po_Q X G (.inl (some (.int ρ.1))) K R (ρ.2) none 0 0) 0 0 56 [] [.int s0] K R I none := by
  unfold m_X8_rule_56 at hm
  cases hm
  exact po_iret hF hL dX8_rule_56 (by decide) (by decide) rfl rfl rfl (Or.inl rfl)
set_option maxRecDepth 20000 in
set_option maxHeartbeats 2000000 in
theorem w_X8_rule_29 {X : po_X} {G : po_G} {st : Nat → Nat} {K : po_K} {R : po_R} {ρ : Int32 × po_I} (hF : po_F X G cX8_rule RX8 3 st) (hL : po_L X (some .int) 1 0 0 "rule") (HL : po_Lay K R st) (I : po_I) (l0 : Nat) (l1 : Int32) (l2 : Int32) (s0 : Nat) (s1 : Int32) (kl0 : K l0 = (19, 19)) (ks0 : K s0 = (19, 19)) (hm : m_X8_rule_29 I l0 l1 l2 s0 s1 = some ρ) : po_V X G 3 (po_Q X G (.inl (some (.int ρ.1))) K R (ρ.2) none 0 0) 0 0 29 [(0, .ref l0), (1, .int l1), (2, .int l2)] [.int s1, .ref s0] K R I none := by
  unfold m_X8_rule_29 at hm
  refine po_puti hF dX8_rule_29 fl_X8_1 ks0 (by intro r h; cases h; rfl) rfl rfl (fun _ => rfl) rfl ?_
  refine po_hname hm (fun I1 hm => ?_)
  refine po_aload_n hF dX8_rule_32 rfl rfl ?_
  refine po_getf (v := .int (I1 l0 0)) hF dX8_rule_33 fl_X8_1 kl0 rfl ?_
  refine po_if_ne (tgt := 55) hF dX8_rule_36 (by decide) hm (fun hm => ?_) (fun hm => ?_)
  · refine po_iconst (v := 0) hF dX8_rule_55 (by decide) ?_
    refine po_sub (L' := []) rfl ?_
    exact w_X8_rule_56 hF hL HL I1 0 hm
  · refine po_aload_n hF dX8_rule_39 rfl rfl ?_
    refine po_getf (v := .ref (l0 + 1)) hF dX8_rule_40 fl_X8_13 kl0 (ly_8_1 HL kl0).1 ?_
    refine po_iconst (v := 4) hF dX8_rule_43 (by decide) ?_
    refine po_bipush (v := 7) hF dX8_rule_44 (by decide) ?_
    refine po_iload_n hF dX8_rule_46 rfl rfl ?_
    refine po_imul hF dX8_rule_47 ?_
    refine po_iadd hF dX8_rule_48 ?_
    refine po_iload_n hF dX8_rule_49 rfl rfl ?_
    refine po_iadd hF dX8_rule_50 ?_
    refine po_iald hF dX8_rule_51 ((ly_8_1 HL kl0).2) (Or.inl rfl) hm (fun hm => ?_)
    refine po_goto (tgt := 56) hF dX8_rule_52 (by decide) ?_
    refine po_sub (L' := []) rfl ?_
    exact w_X8_rule_56 hF hL HL I1 (I1 (l0 + 1) (Int32.toNatClampNeg ((4 + (7 * l1)) + l2))) hm
set_option maxRecDepth 20000 in
set_option maxHeartbeats 2000000 in
theorem w_X8_rule_e {X : po_X} {G : po_G} {st : Nat → Nat} {K : po_K} {R : po_R} {ρ : Int32 × po_I} (hF : po_F X G cX8_rule RX8 3 st) (hL : po_L X (some .int) 1 0 0 "rule") (HL : po_Lay K R st) (I : po_I) (l0 : Nat) (l1 : Int32) (l2 : Int32) (kl0 : K l0 = (19, 19)) (hm : m_X8_rule_e I l0 l1 l2 = some ρ) : po_V X G 3 (po_Q X G (.inl (some (.int ρ.1))) K R (ρ.2) none 0 0) 0 0 0 [(0, .ref l0), (1, .int l1), (2, .int l2)] [] K R I none := by
  unfold m_X8_rule_e at hm
  refine po_aload_n hF dX8_rule_0 rfl rfl ?_
  refine po_iload_n hF dX8_rule_1 rfl rfl ?_
  refine po_iconst (v := 0) hF dX8_rule_2 (by decide) ?_
  refine po_iconst (v := 3) hF dX8_rule_3 (by decide) ?_
  obtain ⟨x2, hx2, hm⟩ := po_bind hm
  refine po_callS (As := [.int l1, .int 0, .int 3]) hF dX8_rule_4 wq_1282 mv_X8_isIn (c_X8_isIn HL hx2) rfl (po_rtL hL rfl) (Nat.le_of_ble_eq_true rfl) rfl ?_
  refine po_if_ne (tgt := 14) hF dX8_rule_7 (by decide) hm (fun hm => ?_) (fun hm => ?_)
  · refine po_iload_n hF dX8_rule_14 rfl rfl ?_
    refine po_iconst (v := 0) hF dX8_rule_15 (by decide) ?_
    refine po_bipush (v := 6) hF dX8_rule_16 (by decide) ?_
    obtain ⟨x3, hx3, hm⟩ := po_bind hm
    refine po_callS (As := [.int l2, .int 0, .int 6]) hF dX8_rule_18 wq_1282 mv_X8_isIn (c_X8_isIn HL hx3) rfl (po_rtL hL rfl) (Nat.le_of_ble_eq_true rfl) rfl ?_
    refine po_if_ne (tgt := 28) hF dX8_rule_21 (by decide) hm (fun hm => ?_) (fun hm => ?_)
    · refine po_iconst (v := 0) hF dX8_rule_28 (by decide) ?_
      exact w_X8_rule_29 hF hL HL I l0 l1 l2 l0 0 kl0 kl0 hm
    · refine po_iconst (v := 2) hF dX8_rule_24 (by decide) ?_
      refine po_goto (tgt := 29) hF dX8_rule_25 (by decide) ?_
      exact w_X8_rule_29 hF hL HL I l0 l1 l2 l0 2 kl0 kl0 hm
  · refine po_iconst (v := 1) hF dX8_rule_10 (by decide) ?_
    refine po_goto (tgt := 29) hF dX8_rule_11 (by decide) ?_
    exact w_X8_rule_29 hF hL HL I l0 l1 l2 l0 1 kl0 kl0 hm
theorem c_X8_rule {K : po_K} {R : po_R} {I : po_I} {st : Nat → Nat} {ρ : Int32 × po_I} (HL : po_Lay K R st) {l0 : Nat} {l1 : Int32} {l2 : Int32} (kl0 : K l0 = (19, 19)) (hm : m_X8_rule I l0 l1 l2 = some ρ) : po_C st yX8_rule cX8_rule 3 (some .int) 1 0 0 [.ref l0, .int l1, .int l2] K R I none (.inl (some (.int ρ.1))) K R (ρ.2) none := by
  refine po_ofC (by decide +kernel) (Nat.le_of_ble_eq_true rfl) (fun X G hF hL => ?_)
  exact w_X8_rule_e hF hL HL I l0 l1 l2 kl0 hm
set_option maxRecDepth 20000 in
set_option maxHeartbeats 2000000 in
theorem w_X8_isLot_e {X : po_X} {G : po_G} {st : Nat → Nat} {K : po_K} {I : po_I} {R : po_R} {ρ : Int32} (hF : po_F X G cX8_isLot RX8 2 st) (hL : po_L X (some .boolean) 1 0 0 "isLot") (HL : po_Lay K R st) (l0 : Nat) (l1 : Int32) (kl0 : K l0 = (19, 19)) (hm : m_X8_isLot_e I l0 l1 = some ρ) : po_V X G 2 (po_Q X G (.inl (some (.int ρ))) K R I none 0 0) 0 0 0 [(0, .ref l0), (1, .int l1)] [] K R I none := by
  unfold m_X8_isLot_e at hm
  refine po_iload_n hF dX8_isLot_0 rfl rfl ?_
  refine po_iconst (v := 0) hF dX8_isLot_1 (by decide) ?_
  refine po_aload_n hF dX8_isLot_2 rfl rfl ?_
  refine po_getf (v := .ref (l0 + 1)) hF dX8_isLot_3 fl_X8_13 kl0 (ly_8_1 HL kl0).1 ?_
  refine po_iconst (v := 1) hF dX8_isLot_6 (by decide) ?_
  refine po_ialdC (j := 1) hF dX8_isLot_7 ((ly_8_1 HL kl0).2) (Or.inl rfl) (by decide) (by decide) (by decide) ?_
  refine po_iconst (v := 1) hF dX8_isLot_8 (by decide) ?_
  refine po_isub hF dX8_isLot_9 ?_
  obtain ⟨x1, hx1, hm⟩ := po_bind hm
  refine po_callS (As := [.int l1, .int 0, .int ((I (l0 + 1) 1) - 1)]) hF dX8_isLot_10 wq_1282 mv_X8_isIn (c_X8_isIn HL hx1) rfl (po_rtL hL rfl) (Nat.le_of_ble_eq_true rfl) rfl ?_
  obtain ⟨hz, hm⟩ := po_zif hm
  cases hm
  exact po_zret hF hL dX8_isLot_13 (po_nz hz) (by decide) (by decide) rfl rfl rfl (Or.inl rfl)
theorem c_X8_isLot {K : po_K} {R : po_R} {I : po_I} {st : Nat → Nat} {ρ : Int32} (HL : po_Lay K R st) {l0 : Nat} {l1 : Int32} (kl0 : K l0 = (19, 19)) (hm : m_X8_isLot I l0 l1 = some ρ) : po_C st yX8_isLot cX8_isLot 2 (some .boolean) 1 0 0 [.ref l0, .int l1] K R I none (.inl (some (.int ρ))) K R I none := by
  refine po_ofC (by decide +kernel) (Nat.le_of_ble_eq_true rfl) (fun X G hF hL => ?_)
  exact w_X8_isLot_e hF hL HL l0 l1 kl0 hm
set_option maxRecDepth 20000 in
set_option maxHeartbeats 2000000 in
theorem w_X8_lotPart_e {X : po_X} {G : po_G} {st : Nat → Nat} {K : po_K} {I : po_I} {R : po_R} {ρ : Int32} (hF : po_F X G cX8_lotPart RX8 3 st) (hL : po_L X (some .int) 0 0 0 "lotPart") (HL : po_Lay K R st) (l0 : Nat) (l1 : Int32) (l2 : Int32) (kl0 : K l0 = (19, 19)) (hm : m_X8_lotPart_e I l0 l1 l2 = some ρ) : po_V X G 3 (po_Q X G (.inl (some (.int ρ))) K R I none 0 0) 0 0 0 [(0, .ref l0), (1, .int l1), (2, .int l2)] [] K R I none := by
  unfold m_X8_lotPart_e at hm
  refine po_aload_n hF dX8_lotPart_0 rfl rfl ?_
  refine po_getf (v := .ref (l0 + 1)) hF dX8_lotPart_1 fl_X8_13 kl0 (ly_8_1 HL kl0).1 ?_
  refine po_bipush (v := 32) hF dX8_lotPart_4 (by decide) ?_
  refine po_bipush (v := 16) hF dX8_lotPart_6 (by decide) ?_
  refine po_iload_n hF dX8_lotPart_8 rfl rfl ?_
  refine po_imul hF dX8_lotPart_9 ?_
  refine po_iadd hF dX8_lotPart_10 ?_
  refine po_iload_n hF dX8_lotPart_11 rfl rfl ?_
  refine po_iadd hF dX8_lotPart_12 ?_
  refine po_iald hF dX8_lotPart_13 ((ly_8_1 HL kl0).2) (Or.inl rfl) hm (fun hm => ?_)
  cases hm
  exact po_iret hF hL dX8_lotPart_14 (by decide) (by decide) rfl rfl rfl (Or.inl rfl)
theorem c_X8_lotPart {K : po_K} {R : po_R} {I : po_I} {st : Nat → Nat} {ρ : Int32} (HL : po_Lay K R st) {l0 : Nat} {l1 : Int32} {l2 : Int32} (kl0 : K l0 = (19, 19)) (hm : m_X8_lotPart I l0 l1 l2 = some ρ) : po_C st yX8_lotPart cX8_lotPart 3 (some .int) 0 0 0 [.ref l0, .int l1, .int l2] K R I none (.inl (some (.int ρ))) K R I none := by
  refine po_ofC (by decide +kernel) (Nat.le_of_ble_eq_true rfl) (fun X G hF hL => ?_)
  exact w_X8_lotPart_e hF hL HL l0 l1 l2 kl0 hm
set_option maxRecDepth 20000 in
set_option maxHeartbeats 2000000 in
theorem w_X8_lotCells_e {X : po_X} {G : po_G} {st : Nat → Nat} {K : po_K} {I : po_I} {R : po_R} {ρ : Int32} (hF : po_F X G cX8_lotCells RX8 2 st) (hL : po_L X (some .int) 3 0 0 "lotCells") (HL : po_Lay K R st) (l0 : Nat) (l1 : Int32) (kl0 : K l0 = (19, 19)) (hm : m_X8_lotCells_e I l0 l1 = some ρ) : po_V X G 2 (po_Q X G (.inl (some (.int ρ))) K R I none 0 0) 0 0 0 [(0, .ref l0), (1, .int l1)] [] K R I none := by
  unfold m_X8_lotCells_e at hm
  refine po_aload_n hF dX8_lotCells_0 rfl rfl ?_
  refine po_bipush (v := 32) hF dX8_lotCells_1 (by decide) ?_
  refine po_bipush (v := 16) hF dX8_lotCells_3 (by decide) ?_
  refine po_iload_n hF dX8_lotCells_5 rfl rfl ?_
  refine po_imul hF dX8_lotCells_6 ?_
  refine po_iadd hF dX8_lotCells_7 ?_
  obtain ⟨x1, hx1, hm⟩ := po_bind hm
  refine po_callV (As := [.int (32 + (16 * l1))]) hF dX8_lotCells_8 wq_1376 mv_X8_cellsOf ws_X8_cellsOf (show po_cl[8]? = some _ from rfl) rfl kl0 (c_X8_cellsOf HL kl0 hx1) rfl (po_rtL hL rfl) (Nat.le_of_ble_eq_true rfl) rfl ?_
  cases hm
  exact po_iret hF hL dX8_lotCells_11 (by decide) (by decide) rfl rfl rfl (Or.inl rfl)
theorem c_X8_lotCells {K : po_K} {R : po_R} {I : po_I} {st : Nat → Nat} {ρ : Int32} (HL : po_Lay K R st) {l0 : Nat} {l1 : Int32} (kl0 : K l0 = (19, 19)) (hm : m_X8_lotCells I l0 l1 = some ρ) : po_C st yX8_lotCells cX8_lotCells 2 (some .int) 3 0 0 [.ref l0, .int l1] K R I none (.inl (some (.int ρ))) K R I none := by
  refine po_ofC (by decide +kernel) (Nat.le_of_ble_eq_true rfl) (fun X G hF hL => ?_)
  exact w_X8_lotCells_e hF hL HL l0 l1 kl0 hm
set_option maxRecDepth 20000 in
set_option maxHeartbeats 2000000 in
theorem w_X8_stands_29 {X : po_X} {G : po_G} {st : Nat → Nat} {K : po_K} {I : po_I} {R : po_R} {ρ : Int32} (hF : po_F X G cX8_stands RX8 3 st) (hL : po_L X (some .boolean) 1 0 0 "stands") (HL : po_Lay K R st) (s0 : Int32) (hm : m_X8_stands_29 I s0 = some ρ) : po_V X G 3 (po_Q X G (.inl (some (.int ρ))) K R I none 0 0) 0 0 29 [] [.int s0] K R I none := by
  unfold m_X8_stands_29 at hm
  obtain ⟨hz, hm⟩ := po_zif hm
  cases hm
  exact po_zret hF hL dX8_stands_29 (po_nz hz) (by decide) (by decide) rfl rfl rfl (Or.inl rfl)
set_option maxRecDepth 20000 in
set_option maxHeartbeats 2000000 in
theorem w_X8_stands_24 {X : po_X} {G : po_G} {st : Nat → Nat} {K : po_K} {I : po_I} {R : po_R} {ρ : Int32} (hF : po_F X G cX8_stands RX8 3 st) (hL : po_L X (some .boolean) 1 0 0 "stands") (HL : po_Lay K R st) (hm : m_X8_stands_24 I = some ρ) : po_V X G 3 (po_Q X G (.inl (some (.int ρ))) K R I none 0 0) 0 0 24 [] [] K R I none := by
  unfold m_X8_stands_24 at hm
  refine po_iconst (v := 1) hF dX8_stands_24 (by decide) ?_
  refine po_goto (tgt := 29) hF dX8_stands_25 (by decide) ?_
  exact w_X8_stands_29 hF hL HL 1 hm
set_option maxRecDepth 20000 in
set_option maxHeartbeats 2000000 in
theorem w_X8_stands_e {X : po_X} {G : po_G} {st : Nat → Nat} {K : po_K} {I : po_I} {R : po_R} {ρ : Int32} (hF : po_F X G cX8_stands RX8 3 st) (hL : po_L X (some .boolean) 1 0 0 "stands") (HL : po_Lay K R st) (l0 : Nat) (l1 : Int32) (kl0 : K l0 = (19, 19)) (hm : m_X8_stands_e I l0 l1 = some ρ) : po_V X G 3 (po_Q X G (.inl (some (.int ρ))) K R I none 0 0) 0 0 0 [(0, .ref l0), (1, .int l1)] [] K R I none := by
  unfold m_X8_stands_e at hm
  refine po_aload_n hF dX8_stands_0 rfl rfl ?_
  refine po_iload_n hF dX8_stands_1 rfl rfl ?_
  refine po_bipush (v := 19) hF dX8_stands_2 (by decide) ?_
  obtain ⟨x1, hx1, hm⟩ := po_bind hm
  refine po_callV (As := [.int l1, .int 19]) hF dX8_stands_4 wq_1380 mv_X8_at ws_X8_at (show po_cl[8]? = some _ from rfl) rfl kl0 (c_X8_at HL kl0 hx1) rfl (po_rtL hL rfl) (Nat.le_of_ble_eq_true rfl) rfl ?_
  refine po_istore_n (L' := [(2, .int x1), (0, .ref l0), (1, .int l1)]) hF dX8_stands_7 rfl (by decide) rfl ?_
  refine po_iload_n hF dX8_stands_8 rfl rfl ?_
  refine po_iconst (v := 2) hF dX8_stands_9 (by decide) ?_
  refine po_icmp_eq (tgt := 24) hF dX8_stands_10 (by decide) hm (fun hm => ?_) (fun hm => ?_)
  · refine po_sub (L' := []) rfl ?_
    exact w_X8_stands_24 hF hL HL hm
  · refine po_iload_n hF dX8_stands_13 rfl rfl ?_
    refine po_iconst (v := 3) hF dX8_stands_14 (by decide) ?_
    refine po_icmp_eq (tgt := 24) hF dX8_stands_15 (by decide) hm (fun hm => ?_) (fun hm => ?_)
    · refine po_sub (L' := []) rfl ?_
      exact w_X8_stands_24 hF hL HL hm
    · refine po_iload_n hF dX8_stands_18 rfl rfl ?_
      refine po_bipush (v := 6) hF dX8_stands_19 (by decide) ?_
      refine po_icmp_ne (tgt := 28) hF dX8_stands_21 (by decide) hm (fun hm => ?_) (fun hm => ?_)
      · refine po_iconst (v := 0) hF dX8_stands_28 (by decide) ?_
        refine po_sub (L' := []) rfl ?_
        exact w_X8_stands_29 hF hL HL 0 hm
      · refine po_sub (L' := []) rfl ?_
        exact w_X8_stands_24 hF hL HL hm
theorem c_X8_stands {K : po_K} {R : po_R} {I : po_I} {st : Nat → Nat} {ρ : Int32} (HL : po_Lay K R st) {l0 : Nat} {l1 : Int32} (kl0 : K l0 = (19, 19)) (hm : m_X8_stands I l0 l1 = some ρ) : po_C st yX8_stands cX8_stands 3 (some .boolean) 1 0 0 [.ref l0, .int l1] K R I none (.inl (some (.int ρ))) K R I none := by
  refine po_ofC (by decide +kernel) (Nat.le_of_ble_eq_true rfl) (fun X G hF hL => ?_)
  exact w_X8_stands_e hF hL HL l0 l1 kl0 hm
set_option maxRecDepth 20000 in
set_option maxHeartbeats 2000000 in
theorem w_X8_isInBuilding_e {X : po_X} {G : po_G} {st : Nat → Nat} {K : po_K} {I : po_I} {R : po_R} {ρ : Int32} (hF : po_F X G cX8_isInBuilding RX8 4 st) (hL : po_L X (some .boolean) 2 0 0 "isInBuilding") (HL : po_Lay K R st) (l0 : Nat) (l1 : Int32) (l2 : Int32) (l3 : Int32) (kl0 : K l0 = (19, 19)) (hm : m_X8_isInBuilding_e I l0 l1 l2 l3 = some ρ) : po_V X G 4 (po_Q X G (.inl (some (.int ρ))) K R I none 0 0) 0 0 0 [(0, .ref l0), (1, .int l1), (2, .int l2), (3, .int l3)] [] K R I none := by
  unfold m_X8_isInBuilding_e at hm
  refine po_aload_n hF dX8_isInBuilding_0 rfl rfl ?_
  refine po_sipush (v := 160) hF dX8_isInBuilding_1 (by decide) ?_
  refine po_bipush (v := 46) hF dX8_isInBuilding_4 (by decide) ?_
  refine po_iload_n hF dX8_isInBuilding_6 rfl rfl ?_
  refine po_imul hF dX8_isInBuilding_7 ?_
  refine po_iadd hF dX8_isInBuilding_8 ?_
  refine po_iload_n hF dX8_isInBuilding_9 rfl rfl ?_
  refine po_iload_n hF dX8_isInBuilding_10 rfl rfl ?_
  obtain ⟨x1, hx1, hm⟩ := po_bind hm
  refine po_callV (As := [.int (160 + (46 * l1)), .int l2, .int l3]) hF dX8_isInBuilding_11 wq_1351 mv_X8_isInArea ws_X8_isInArea (show po_cl[8]? = some _ from rfl) rfl kl0 (c_X8_isInArea HL kl0 hx1) rfl (po_rtL hL rfl) (Nat.le_of_ble_eq_true rfl) rfl ?_
  obtain ⟨hz, hm⟩ := po_zif hm
  cases hm
  exact po_zret hF hL dX8_isInBuilding_14 (po_nz hz) (by decide) (by decide) rfl rfl rfl (Or.inl rfl)
theorem c_X8_isInBuilding {K : po_K} {R : po_R} {I : po_I} {st : Nat → Nat} {ρ : Int32} (HL : po_Lay K R st) {l0 : Nat} {l1 : Int32} {l2 : Int32} {l3 : Int32} (kl0 : K l0 = (19, 19)) (hm : m_X8_isInBuilding I l0 l1 l2 l3 = some ρ) : po_C st yX8_isInBuilding cX8_isInBuilding 4 (some .boolean) 2 0 0 [.ref l0, .int l1, .int l2, .int l3] K R I none (.inl (some (.int ρ))) K R I none := by
  refine po_ofC (by decide +kernel) (Nat.le_of_ble_eq_true rfl) (fun X G hF hL => ?_)
  exact w_X8_isInBuilding_e hF hL HL l0 l1 l2 l3 kl0 hm
set_option maxRecDepth 20000 in
set_option maxHeartbeats 2000000 in
theorem w_X8_isBuilt_65 {X : po_X} {G : po_G} {st : Nat → Nat} {K : po_K} {I : po_I} {R : po_R} {ρ : Int32} {r6 : Nat → Int32 → Int32 → Int32 → Int32 → Int32 → Int32 → Option (Int32)} (hF : po_F X G cX8_isBuilt RX8 7 st) (hL : po_L X (some .boolean) 3 0 0 "isBuilt") (HL : po_Lay K R st) (h6 : ∀ (l0 : Nat) (l1 : Int32) (l2 : Int32) (l3 : Int32) (l4 : Int32) (l5 : Int32) (l6 : Int32), r6 l0 l1 l2 l3 l4 l5 l6 = some ρ → K l0 = (19, 19) → po_V X G 7 (po_Q X G (.inl (some (.int ρ))) K R I none 0 0) 0 0 6 [(0, .ref l0), (1, .int l1), (2, .int l2), (3, .int l3), (4, .int l4), (5, .int l5), (6, .int l6)] [] K R I none) (l0 : Nat) (l1 : Int32) (l2 : Int32) (l3 : Int32) (l4 : Int32) (l6 : Int32) (s0 : Int32) (kl0 : K l0 = (19, 19)) (hm : m_X8_isBuilt_65 I r6 l0 l1 l2 l3 l4 l6 s0 = some ρ) : po_V X G 7 (po_Q X G (.inl (some (.int ρ))) K R I none 0 0) 0 0 65 [(0, .ref l0), (1, .int l1), (2, .int l2), (3, .int l3), (4, .int l4), (6, .int l6)] [.int s0] K R I none := by
  unfold m_X8_isBuilt_65 at hm
  refine po_istore (L' := [(5, .int s0), (0, .ref l0), (1, .int l1), (2, .int l2), (3, .int l3), (4, .int l4), (6, .int l6)]) hF dX8_isBuilt_65 (by decide) rfl ?_
  refine po_iinc (v := l6 + 1) (L' := [(6, .int (l6 + 1)), (5, .int s0), (0, .ref l0), (1, .int l1), (2, .int l2), (3, .int l3), (4, .int l4)]) hF dX8_isBuilt_67 rfl rfl (by decide) rfl ?_
  refine po_goto (tgt := 6) hF dX8_isBuilt_70 (by decide) ?_
  refine po_sub (L' := [(0, .ref l0), (1, .int l1), (2, .int l2), (3, .int l3), (4, .int l4), (5, .int s0), (6, .int (l6 + 1))]) rfl ?_
  exact h6 l0 l1 l2 l3 l4 s0 (l6 + 1) hm kl0
set_option maxRecDepth 20000 in
set_option maxHeartbeats 2000000 in
theorem w_X8_isBuilt_60 {X : po_X} {G : po_G} {st : Nat → Nat} {K : po_K} {I : po_I} {R : po_R} {ρ : Int32} {r6 : Nat → Int32 → Int32 → Int32 → Int32 → Int32 → Int32 → Option (Int32)} (hF : po_F X G cX8_isBuilt RX8 7 st) (hL : po_L X (some .boolean) 3 0 0 "isBuilt") (HL : po_Lay K R st) (h6 : ∀ (l0 : Nat) (l1 : Int32) (l2 : Int32) (l3 : Int32) (l4 : Int32) (l5 : Int32) (l6 : Int32), r6 l0 l1 l2 l3 l4 l5 l6 = some ρ → K l0 = (19, 19) → po_V X G 7 (po_Q X G (.inl (some (.int ρ))) K R I none 0 0) 0 0 6 [(0, .ref l0), (1, .int l1), (2, .int l2), (3, .int l3), (4, .int l4), (5, .int l5), (6, .int l6)] [] K R I none) (l0 : Nat) (l1 : Int32) (l2 : Int32) (l3 : Int32) (l4 : Int32) (l6 : Int32) (kl0 : K l0 = (19, 19)) (hm : m_X8_isBuilt_60 I r6 l0 l1 l2 l3 l4 l6 = some ρ) : po_V X G 7 (po_Q X G (.inl (some (.int ρ))) K R I none 0 0) 0 0 60 [(0, .ref l0), (1, .int l1), (2, .int l2), (3, .int l3), (4, .int l4), (6, .int l6)] [] K R I none := by
  unfold m_X8_isBuilt_60 at hm
  refine po_iconst (v := 1) hF dX8_isBuilt_60 (by decide) ?_
  refine po_goto (tgt := 65) hF dX8_isBuilt_61 (by decide) ?_
  exact w_X8_isBuilt_65 hF hL HL h6 l0 l1 l2 l3 l4 l6 1 kl0 hm
set_option maxRecDepth 20000 in
set_option maxHeartbeats 2000000 in
theorem w_X8_isBuilt_64 {X : po_X} {G : po_G} {st : Nat → Nat} {K : po_K} {I : po_I} {R : po_R} {ρ : Int32} {r6 : Nat → Int32 → Int32 → Int32 → Int32 → Int32 → Int32 → Option (Int32)} (hF : po_F X G cX8_isBuilt RX8 7 st) (hL : po_L X (some .boolean) 3 0 0 "isBuilt") (HL : po_Lay K R st) (h6 : ∀ (l0 : Nat) (l1 : Int32) (l2 : Int32) (l3 : Int32) (l4 : Int32) (l5 : Int32) (l6 : Int32), r6 l0 l1 l2 l3 l4 l5 l6 = some ρ → K l0 = (19, 19) → po_V X G 7 (po_Q X G (.inl (some (.int ρ))) K R I none 0 0) 0 0 6 [(0, .ref l0), (1, .int l1), (2, .int l2), (3, .int l3), (4, .int l4), (5, .int l5), (6, .int l6)] [] K R I none) (l0 : Nat) (l1 : Int32) (l2 : Int32) (l3 : Int32) (l4 : Int32) (l6 : Int32) (kl0 : K l0 = (19, 19)) (hm : m_X8_isBuilt_64 I r6 l0 l1 l2 l3 l4 l6 = some ρ) : po_V X G 7 (po_Q X G (.inl (some (.int ρ))) K R I none 0 0) 0 0 64 [(0, .ref l0), (1, .int l1), (2, .int l2), (3, .int l3), (4, .int l4), (6, .int l6)] [] K R I none := by
  unfold m_X8_isBuilt_64 at hm
  refine po_iconst (v := 0) hF dX8_isBuilt_64 (by decide) ?_
  exact w_X8_isBuilt_65 hF hL HL h6 l0 l1 l2 l3 l4 l6 0 kl0 hm
set_option maxRecDepth 20000 in
set_option maxHeartbeats 2000000 in
theorem w_X8_isBuilt_6 {X : po_X} {G : po_G} {st : Nat → Nat} {K : po_K} {I : po_I} {R : po_R} {ρ : Int32} {r6 : Nat → Int32 → Int32 → Int32 → Int32 → Int32 → Int32 → Option (Int32)} (hF : po_F X G cX8_isBuilt RX8 7 st) (hL : po_L X (some .boolean) 3 0 0 "isBuilt") (HL : po_Lay K R st) (h6 : ∀ (l0 : Nat) (l1 : Int32) (l2 : Int32) (l3 : Int32) (l4 : Int32) (l5 : Int32) (l6 : Int32), r6 l0 l1 l2 l3 l4 l5 l6 = some ρ → K l0 = (19, 19) → po_V X G 7 (po_Q X G (.inl (some (.int ρ))) K R I none 0 0) 0 0 6 [(0, .ref l0), (1, .int l1), (2, .int l2), (3, .int l3), (4, .int l4), (5, .int l5), (6, .int l6)] [] K R I none) (l0 : Nat) (l1 : Int32) (l2 : Int32) (l3 : Int32) (l4 : Int32) (l5 : Int32) (l6 : Int32) (kl0 : K l0 = (19, 19)) (hm : m_X8_isBuilt_6 I r6 l0 l1 l2 l3 l4 l5 l6 = some ρ) : po_V X G 7 (po_Q X G (.inl (some (.int ρ))) K R I none 0 0) 0 0 6 [(0, .ref l0), (1, .int l1), (2, .int l2), (3, .int l3), (4, .int l4), (5, .int l5), (6, .int l6)] [] K R I none := by
  unfold m_X8_isBuilt_6 at hm
  refine po_iload hF dX8_isBuilt_6 rfl ?_
  refine po_aload_n hF dX8_isBuilt_8 rfl rfl ?_
  refine po_getf (v := .ref (l0 + 1)) hF dX8_isBuilt_9 fl_X8_13 kl0 (ly_8_1 HL kl0).1 ?_
  refine po_iconst (v := 2) hF dX8_isBuilt_12 (by decide) ?_
  refine po_ialdC (j := 2) hF dX8_isBuilt_13 ((ly_8_1 HL kl0).2) (Or.inl rfl) (by decide) (by decide) (by decide) ?_
  refine po_icmp_ge (tgt := 73) hF dX8_isBuilt_14 (by decide) hm (fun hm => ?_) (fun hm => ?_)
  · refine po_iload hF dX8_isBuilt_73 rfl ?_
    obtain ⟨hz, hm⟩ := po_zif hm
    cases hm
    exact po_zret hF hL dX8_isBuilt_75 (po_nz hz) (by decide) (by decide) rfl rfl rfl (Or.inl rfl)
  · refine po_iload hF dX8_isBuilt_17 rfl ?_
    refine po_if_ne (tgt := 60) hF dX8_isBuilt_19 (by decide) hm (fun hm => ?_) (fun hm => ?_)
    · refine po_sub (L' := [(0, .ref l0), (1, .int l1), (2, .int l2), (3, .int l3), (4, .int l4), (6, .int l6)]) rfl ?_
      exact w_X8_isBuilt_60 hF hL HL h6 l0 l1 l2 l3 l4 l6 kl0 hm
    · refine po_iload hF dX8_isBuilt_22 rfl ?_
      refine po_iload hF dX8_isBuilt_24 rfl ?_
      refine po_icmp_eq (tgt := 64) hF dX8_isBuilt_26 (by decide) hm (fun hm => ?_) (fun hm => ?_)
      · refine po_sub (L' := [(0, .ref l0), (1, .int l1), (2, .int l2), (3, .int l3), (4, .int l4), (6, .int l6)]) rfl ?_
        exact w_X8_isBuilt_64 hF hL HL h6 l0 l1 l2 l3 l4 l6 kl0 hm
      · refine po_aload_n hF dX8_isBuilt_29 rfl rfl ?_
        refine po_iload hF dX8_isBuilt_30 rfl ?_
        obtain ⟨x1, hx1, hm⟩ := po_bind hm
        refine po_callV (As := [.int l6]) hF dX8_isBuilt_32 wq_1450 mv_X8_stands ws_X8_stands (show po_cl[8]? = some _ from rfl) rfl kl0 (c_X8_stands HL kl0 hx1) rfl (po_rtL hL rfl) (Nat.le_of_ble_eq_true rfl) rfl ?_
        refine po_if_eq (tgt := 64) hF dX8_isBuilt_35 (by decide) hm (fun hm => ?_) (fun hm => ?_)
        · refine po_sub (L' := [(0, .ref l0), (1, .int l1), (2, .int l2), (3, .int l3), (4, .int l4), (6, .int l6)]) rfl ?_
          exact w_X8_isBuilt_64 hF hL HL h6 l0 l1 l2 l3 l4 l6 kl0 hm
        · refine po_aload_n hF dX8_isBuilt_38 rfl rfl ?_
          refine po_iload hF dX8_isBuilt_39 rfl ?_
          refine po_iconst (v := 0) hF dX8_isBuilt_41 (by decide) ?_
          obtain ⟨x2, hx2, hm⟩ := po_bind hm
          refine po_callV (As := [.int l6, .int 0]) hF dX8_isBuilt_42 wq_1380 mv_X8_at ws_X8_at (show po_cl[8]? = some _ from rfl) rfl kl0 (c_X8_at HL kl0 hx2) rfl (po_rtL hL rfl) (Nat.le_of_ble_eq_true rfl) rfl ?_
          refine po_iload_n hF dX8_isBuilt_45 rfl rfl ?_
          refine po_icmp_ne (tgt := 64) hF dX8_isBuilt_46 (by decide) hm (fun hm => ?_) (fun hm => ?_)
          · refine po_sub (L' := [(0, .ref l0), (1, .int l1), (2, .int l2), (3, .int l3), (4, .int l4), (6, .int l6)]) rfl ?_
            exact w_X8_isBuilt_64 hF hL HL h6 l0 l1 l2 l3 l4 l6 kl0 hm
          · refine po_aload_n hF dX8_isBuilt_49 rfl rfl ?_
            refine po_iload hF dX8_isBuilt_50 rfl ?_
            refine po_iload_n hF dX8_isBuilt_52 rfl rfl ?_
            refine po_iload_n hF dX8_isBuilt_53 rfl rfl ?_
            obtain ⟨x3, hx3, hm⟩ := po_bind hm
            refine po_callV (As := [.int l6, .int l2, .int l3]) hF dX8_isBuilt_54 wq_1454 mv_X8_isInBuilding ws_X8_isInBuilding (show po_cl[8]? = some _ from rfl) rfl kl0 (c_X8_isInBuilding HL kl0 hx3) rfl (po_rtL hL rfl) (Nat.le_of_ble_eq_true rfl) rfl ?_
            refine po_if_eq (tgt := 64) hF dX8_isBuilt_57 (by decide) hm (fun hm => ?_) (fun hm => ?_)
            · refine po_sub (L' := [(0, .ref l0), (1, .int l1), (2, .int l2), (3, .int l3), (4, .int l4), (6, .int l6)]) rfl ?_
              exact w_X8_isBuilt_64 hF hL HL h6 l0 l1 l2 l3 l4 l6 kl0 hm
            · refine po_sub (L' := [(0, .ref l0), (1, .int l1), (2, .int l2), (3, .int l3), (4, .int l4), (6, .int l6)]) rfl ?_
              exact w_X8_isBuilt_60 hF hL HL h6 l0 l1 l2 l3 l4 l6 kl0 hm
theorem w_X8_isBuilt_6L {X : po_X} {G : po_G} {st : Nat → Nat} {K : po_K} {I : po_I} {R : po_R} {ρ : Int32} (hF : po_F X G cX8_isBuilt RX8 7 st) (hL : po_L X (some .boolean) 3 0 0 "isBuilt") (HL : po_Lay K R st) : ∀ (n : Nat) (l0 : Nat) (l1 : Int32) (l2 : Int32) (l3 : Int32) (l4 : Int32) (l5 : Int32) (l6 : Int32), m_X8_isBuilt_6L I n l0 l1 l2 l3 l4 l5 l6 = some ρ → K l0 = (19, 19) → po_V X G 7 (po_Q X G (.inl (some (.int ρ))) K R I none 0 0) 0 0 6 [(0, .ref l0), (1, .int l1), (2, .int l2), (3, .int l3), (4, .int l4), (5, .int l5), (6, .int l6)] [] K R I none := by
  intro n
  induction n with
  | zero => intro l0 l1 l2 l3 l4 l5 l6 hm; cases hm
  | succ n ih => intro l0 l1 l2 l3 l4 l5 l6 hm kl0; exact w_X8_isBuilt_6 hF hL HL (ih) l0 l1 l2 l3 l4 l5 l6 kl0 hm
set_option maxRecDepth 20000 in
set_option maxHeartbeats 2000000 in
theorem w_X8_isBuilt_e {X : po_X} {G : po_G} {st : Nat → Nat} {K : po_K} {I : po_I} {R : po_R} {ρ : Int32} (hF : po_F X G cX8_isBuilt RX8 7 st) (hL : po_L X (some .boolean) 3 0 0 "isBuilt") (HL : po_Lay K R st) (l0 : Nat) (l1 : Int32) (l2 : Int32) (l3 : Int32) (l4 : Int32) (kl0 : K l0 = (19, 19)) (hm : m_X8_isBuilt_e I l0 l1 l2 l3 l4 = some ρ) : po_V X G 7 (po_Q X G (.inl (some (.int ρ))) K R I none 0 0) 0 0 0 [(0, .ref l0), (1, .int l1), (2, .int l2), (3, .int l3), (4, .int l4)] [] K R I none := by
  unfold m_X8_isBuilt_e at hm
  refine po_iconst (v := 0) hF dX8_isBuilt_0 (by decide) ?_
  refine po_istore (L' := [(5, .int 0), (0, .ref l0), (1, .int l1), (2, .int l2), (3, .int l3), (4, .int l4)]) hF dX8_isBuilt_1 (by decide) rfl ?_
  refine po_iconst (v := 0) hF dX8_isBuilt_3 (by decide) ?_
  refine po_istore (L' := [(6, .int 0), (5, .int 0), (0, .ref l0), (1, .int l1), (2, .int l2), (3, .int l3), (4, .int l4)]) hF dX8_isBuilt_4 (by decide) rfl ?_
  refine po_sub (L' := [(0, .ref l0), (1, .int l1), (2, .int l2), (3, .int l3), (4, .int l4), (5, .int 0), (6, .int 0)]) rfl ?_
  exact w_X8_isBuilt_6L hF hL HL 5000 l0 l1 l2 l3 l4 0 0 hm kl0
theorem c_X8_isBuilt {K : po_K} {R : po_R} {I : po_I} {st : Nat → Nat} {ρ : Int32} (HL : po_Lay K R st) {l0 : Nat} {l1 : Int32} {l2 : Int32} {l3 : Int32} {l4 : Int32} (kl0 : K l0 = (19, 19)) (hm : m_X8_isBuilt I l0 l1 l2 l3 l4 = some ρ) : po_C st yX8_isBuilt cX8_isBuilt 7 (some .boolean) 3 0 0 [.ref l0, .int l1, .int l2, .int l3, .int l4] K R I none (.inl (some (.int ρ))) K R I none := by
  refine po_ofC (by decide +kernel) (Nat.le_of_ble_eq_true rfl) (fun X G hF hL => ?_)
  exact w_X8_isBuilt_e hF hL HL l0 l1 l2 l3 l4 kl0 hm
set_option maxRecDepth 20000 in
set_option maxHeartbeats 2000000 in
theorem w_X8_builtCells_54 {X : po_X} {G : po_G} {st : Nat → Nat} {K : po_K} {I : po_I} {R : po_R} {ρ : Int32} {r4 : Nat → Int32 → Int32 → Int32 → Option (Int32)} (hF : po_F X G cX8_builtCells RX8 6 st) (hL : po_L X (some .int) 4 0 0 "builtCells") (HL : po_Lay K R st) (h4 : ∀ (l0 : Nat) (l1 : Int32) (l2 : Int32) (l3 : Int32), r4 l0 l1 l2 l3 = some ρ → K l0 = (19, 19) → po_V X G 6 (po_Q X G (.inl (some (.int ρ))) K R I none 0 0) 0 0 4 [(0, .ref l0), (1, .int l1), (2, .int l2), (3, .int l3)] [] K R I none) (l0 : Nat) (l1 : Int32) (l3 : Int32) (s0 : Int32) (s1 : Int32) (kl0 : K l0 = (19, 19)) (hm : m_X8_builtCells_54 I r4 l0 l1 l3 s0 s1 = some ρ) : po_V X G 6 (po_Q X G (.inl (some (.int ρ))) K R I none 0 0) 0 0 54 [(0, .ref l0), (1, .int l1), (3, .int l3)] [.int s1, .int s0] K R I none := by
  unfold m_X8_builtCells_54 at hm
  refine po_iadd hF dX8_builtCells_54 ?_
  refine po_top hm (fun v1 hm => ?_)
  refine po_istore_n (L' := [(2, .int v1), (0, .ref l0), (1, .int l1), (3, .int l3)]) hF dX8_builtCells_55 rfl (by decide) rfl ?_
  refine po_iinc (v := l3 + 1) (L' := [(3, .int (l3 + 1)), (2, .int v1), (0, .ref l0), (1, .int l1)]) hF dX8_builtCells_56 rfl rfl (by decide) rfl ?_
  refine po_goto (tgt := 4) hF dX8_builtCells_59 (by decide) ?_
  refine po_sub (L' := [(0, .ref l0), (1, .int l1), (2, .int v1), (3, .int (l3 + 1))]) rfl ?_
  exact h4 l0 l1 v1 (l3 + 1) hm kl0
set_option maxRecDepth 20000 in
set_option maxHeartbeats 2000000 in
theorem w_X8_builtCells_53 {X : po_X} {G : po_G} {st : Nat → Nat} {K : po_K} {I : po_I} {R : po_R} {ρ : Int32} {r4 : Nat → Int32 → Int32 → Int32 → Option (Int32)} (hF : po_F X G cX8_builtCells RX8 6 st) (hL : po_L X (some .int) 4 0 0 "builtCells") (HL : po_Lay K R st) (h4 : ∀ (l0 : Nat) (l1 : Int32) (l2 : Int32) (l3 : Int32), r4 l0 l1 l2 l3 = some ρ → K l0 = (19, 19) → po_V X G 6 (po_Q X G (.inl (some (.int ρ))) K R I none 0 0) 0 0 4 [(0, .ref l0), (1, .int l1), (2, .int l2), (3, .int l3)] [] K R I none) (l0 : Nat) (l1 : Int32) (l3 : Int32) (s0 : Int32) (kl0 : K l0 = (19, 19)) (hm : m_X8_builtCells_53 I r4 l0 l1 l3 s0 = some ρ) : po_V X G 6 (po_Q X G (.inl (some (.int ρ))) K R I none 0 0) 0 0 53 [(0, .ref l0), (1, .int l1), (3, .int l3)] [.int s0] K R I none := by
  unfold m_X8_builtCells_53 at hm
  refine po_iconst (v := 0) hF dX8_builtCells_53 (by decide) ?_
  exact w_X8_builtCells_54 hF hL HL h4 l0 l1 l3 s0 0 kl0 hm
set_option maxRecDepth 20000 in
set_option maxHeartbeats 2000000 in
theorem w_X8_builtCells_4 {X : po_X} {G : po_G} {st : Nat → Nat} {K : po_K} {I : po_I} {R : po_R} {ρ : Int32} {r4 : Nat → Int32 → Int32 → Int32 → Option (Int32)} (hF : po_F X G cX8_builtCells RX8 6 st) (hL : po_L X (some .int) 4 0 0 "builtCells") (HL : po_Lay K R st) (h4 : ∀ (l0 : Nat) (l1 : Int32) (l2 : Int32) (l3 : Int32), r4 l0 l1 l2 l3 = some ρ → K l0 = (19, 19) → po_V X G 6 (po_Q X G (.inl (some (.int ρ))) K R I none 0 0) 0 0 4 [(0, .ref l0), (1, .int l1), (2, .int l2), (3, .int l3)] [] K R I none) (l0 : Nat) (l1 : Int32) (l2 : Int32) (l3 : Int32) (kl0 : K l0 = (19, 19)) (hm : m_X8_builtCells_4 I r4 l0 l1 l2 l3 = some ρ) : po_V X G 6 (po_Q X G (.inl (some (.int ρ))) K R I none 0 0) 0 0 4 [(0, .ref l0), (1, .int l1), (2, .int l2), (3, .int l3)] [] K R I none := by
  unfold m_X8_builtCells_4 at hm
  refine po_iload_n hF dX8_builtCells_4 rfl rfl ?_
  refine po_sipush (v := 280) hF dX8_builtCells_5 (by decide) ?_
  refine po_icmp_ge (tgt := 62) hF dX8_builtCells_8 (by decide) hm (fun hm => ?_) (fun hm => ?_)
  · refine po_iload_n hF dX8_builtCells_62 rfl rfl ?_
    cases hm
    exact po_iret hF hL dX8_builtCells_63 (by decide) (by decide) rfl rfl rfl (Or.inl rfl)
  · refine po_iload_n hF dX8_builtCells_11 rfl rfl ?_
    refine po_bipush (v := 20) hF dX8_builtCells_12 (by decide) ?_
    refine po_iremK hF dX8_builtCells_14 (by decide) ?_
    refine po_top hm (fun v2 hm => ?_)
    refine po_istore (L' := [(4, .int v2), (0, .ref l0), (1, .int l1), (2, .int l2), (3, .int l3)]) hF dX8_builtCells_15 (by decide) rfl ?_
    refine po_iload_n hF dX8_builtCells_17 rfl rfl ?_
    refine po_bipush (v := 20) hF dX8_builtCells_18 (by decide) ?_
    refine po_idivK hF dX8_builtCells_20 (by decide) ?_
    refine po_top hm (fun v3 hm => ?_)
    refine po_istore (L' := [(5, .int v3), (4, .int v2), (0, .ref l0), (1, .int l1), (2, .int l2), (3, .int l3)]) hF dX8_builtCells_21 (by decide) rfl ?_
    refine po_iload_n hF dX8_builtCells_23 rfl rfl ?_
    refine po_aload_n hF dX8_builtCells_24 rfl rfl ?_
    refine po_iload_n hF dX8_builtCells_25 rfl rfl ?_
    refine po_iload hF dX8_builtCells_26 rfl ?_
    refine po_iload hF dX8_builtCells_28 rfl ?_
    obtain ⟨x4, hx4, hm⟩ := po_bind hm
    refine po_callV (As := [.int l1, .int v2, .int v3]) hF dX8_builtCells_30 wq_1347 mv_X8_isInLot ws_X8_isInLot (show po_cl[8]? = some _ from rfl) rfl kl0 (c_X8_isInLot HL kl0 hx4) rfl (po_rtL hL rfl) (Nat.le_of_ble_eq_true rfl) rfl ?_
    refine po_if_eq (tgt := 53) hF dX8_builtCells_33 (by decide) hm (fun hm => ?_) (fun hm => ?_)
    · refine po_sub (L' := [(0, .ref l0), (1, .int l1), (3, .int l3)]) rfl ?_
      exact w_X8_builtCells_53 hF hL HL h4 l0 l1 l3 l2 kl0 hm
    · refine po_aload_n hF dX8_builtCells_36 rfl rfl ?_
      refine po_iload_n hF dX8_builtCells_37 rfl rfl ?_
      refine po_iload hF dX8_builtCells_38 rfl ?_
      refine po_iload hF dX8_builtCells_40 rfl ?_
      refine po_iconst (v := (-1)) hF dX8_builtCells_42 (by decide) ?_
      obtain ⟨x5, hx5, hm⟩ := po_bind hm
      refine po_callV (As := [.int l1, .int v2, .int v3, .int (-1)]) hF dX8_builtCells_43 wq_1446 mv_X8_isBuilt ws_X8_isBuilt (show po_cl[8]? = some _ from rfl) rfl kl0 (c_X8_isBuilt HL kl0 hx5) rfl (po_rtL hL rfl) (Nat.le_of_ble_eq_true rfl) rfl ?_
      refine po_if_eq (tgt := 53) hF dX8_builtCells_46 (by decide) hm (fun hm => ?_) (fun hm => ?_)
      · refine po_sub (L' := [(0, .ref l0), (1, .int l1), (3, .int l3)]) rfl ?_
        exact w_X8_builtCells_53 hF hL HL h4 l0 l1 l3 l2 kl0 hm
      · refine po_iconst (v := 1) hF dX8_builtCells_49 (by decide) ?_
        refine po_goto (tgt := 54) hF dX8_builtCells_50 (by decide) ?_
        refine po_sub (L' := [(0, .ref l0), (1, .int l1), (3, .int l3)]) rfl ?_
        exact w_X8_builtCells_54 hF hL HL h4 l0 l1 l3 l2 1 kl0 hm
theorem w_X8_builtCells_4L {X : po_X} {G : po_G} {st : Nat → Nat} {K : po_K} {I : po_I} {R : po_R} {ρ : Int32} (hF : po_F X G cX8_builtCells RX8 6 st) (hL : po_L X (some .int) 4 0 0 "builtCells") (HL : po_Lay K R st) : ∀ (n : Nat) (l0 : Nat) (l1 : Int32) (l2 : Int32) (l3 : Int32), m_X8_builtCells_4L I n l0 l1 l2 l3 = some ρ → K l0 = (19, 19) → po_V X G 6 (po_Q X G (.inl (some (.int ρ))) K R I none 0 0) 0 0 4 [(0, .ref l0), (1, .int l1), (2, .int l2), (3, .int l3)] [] K R I none := by
  intro n
  induction n with
  | zero => intro l0 l1 l2 l3 hm; cases hm
  | succ n ih => intro l0 l1 l2 l3 hm kl0; exact w_X8_builtCells_4 hF hL HL (ih) l0 l1 l2 l3 kl0 hm
set_option maxRecDepth 20000 in
set_option maxHeartbeats 2000000 in
theorem w_X8_builtCells_e {X : po_X} {G : po_G} {st : Nat → Nat} {K : po_K} {I : po_I} {R : po_R} {ρ : Int32} (hF : po_F X G cX8_builtCells RX8 6 st) (hL : po_L X (some .int) 4 0 0 "builtCells") (HL : po_Lay K R st) (l0 : Nat) (l1 : Int32) (kl0 : K l0 = (19, 19)) (hm : m_X8_builtCells_e I l0 l1 = some ρ) : po_V X G 6 (po_Q X G (.inl (some (.int ρ))) K R I none 0 0) 0 0 0 [(0, .ref l0), (1, .int l1)] [] K R I none := by
  unfold m_X8_builtCells_e at hm
  refine po_iconst (v := 0) hF dX8_builtCells_0 (by decide) ?_
  refine po_istore_n (L' := [(2, .int 0), (0, .ref l0), (1, .int l1)]) hF dX8_builtCells_1 rfl (by decide) rfl ?_
  refine po_iconst (v := 0) hF dX8_builtCells_2 (by decide) ?_
  refine po_istore_n (L' := [(3, .int 0), (2, .int 0), (0, .ref l0), (1, .int l1)]) hF dX8_builtCells_3 rfl (by decide) rfl ?_
  refine po_sub (L' := [(0, .ref l0), (1, .int l1), (2, .int 0), (3, .int 0)]) rfl ?_
  exact w_X8_builtCells_4L hF hL HL 5000 l0 l1 0 0 hm kl0
theorem c_X8_builtCells {K : po_K} {R : po_R} {I : po_I} {st : Nat → Nat} {ρ : Int32} (HL : po_Lay K R st) {l0 : Nat} {l1 : Int32} (kl0 : K l0 = (19, 19)) (hm : m_X8_builtCells I l0 l1 = some ρ) : po_C st yX8_builtCells cX8_builtCells 6 (some .int) 4 0 0 [.ref l0, .int l1] K R I none (.inl (some (.int ρ))) K R I none := by
  refine po_ofC (by decide +kernel) (Nat.le_of_ble_eq_true rfl) (fun X G hF hL => ?_)
  exact w_X8_builtCells_e hF hL HL l0 l1 kl0 hm
set_option maxRecDepth 20000 in
set_option maxHeartbeats 2000000 in
theorem w_X8_floorAreas_53 {X : po_X} {G : po_G} {st : Nat → Nat} {K : po_K} {I : po_I} {R : po_R} {ρ : Int32} {r5 : Nat → Int32 → Int32 → Int32 → Int32 → Option (Int32)} (hF : po_F X G cX8_floorAreas RX8 5 st) (hL : po_L X (some .int) 5 0 0 "floorAreas") (HL : po_Lay K R st) (h5 : ∀ (l0 : Nat) (l1 : Int32) (l2 : Int32) (l3 : Int32) (l4 : Int32), r5 l0 l1 l2 l3 l4 = some ρ → K l0 = (19, 19) → po_V X G 5 (po_Q X G (.inl (some (.int ρ))) K R I none 0 0) 0 0 5 [(0, .ref l0), (1, .int l1), (2, .int l2), (3, .int l3), (4, .int l4)] [] K R I none) (l0 : Nat) (l1 : Int32) (l2 : Int32) (l4 : Int32) (s0 : Int32) (s1 : Int32) (kl0 : K l0 = (19, 19)) (hm : m_X8_floorAreas_53 I r5 l0 l1 l2 l4 s0 s1 = some ρ) : po_V X G 5 (po_Q X G (.inl (some (.int ρ))) K R I none 0 0) 0 0 53 [(0, .ref l0), (1, .int l1), (2, .int l2), (4, .int l4)] [.int s1, .int s0] K R I none := by
  unfold m_X8_floorAreas_53 at hm
  refine po_iadd hF dX8_floorAreas_53 ?_
  refine po_top hm (fun v1 hm => ?_)
  refine po_istore_n (L' := [(3, .int v1), (0, .ref l0), (1, .int l1), (2, .int l2), (4, .int l4)]) hF dX8_floorAreas_54 rfl (by decide) rfl ?_
  refine po_iinc (v := l4 + 1) (L' := [(4, .int (l4 + 1)), (3, .int v1), (0, .ref l0), (1, .int l1), (2, .int l2)]) hF dX8_floorAreas_55 rfl rfl (by decide) rfl ?_
  refine po_goto (tgt := 5) hF dX8_floorAreas_58 (by decide) ?_
  refine po_sub (L' := [(0, .ref l0), (1, .int l1), (2, .int l2), (3, .int v1), (4, .int (l4 + 1))]) rfl ?_
  exact h5 l0 l1 l2 v1 (l4 + 1) hm kl0
set_option maxRecDepth 20000 in
set_option maxHeartbeats 2000000 in
theorem w_X8_floorAreas_52 {X : po_X} {G : po_G} {st : Nat → Nat} {K : po_K} {I : po_I} {R : po_R} {ρ : Int32} {r5 : Nat → Int32 → Int32 → Int32 → Int32 → Option (Int32)} (hF : po_F X G cX8_floorAreas RX8 5 st) (hL : po_L X (some .int) 5 0 0 "floorAreas") (HL : po_Lay K R st) (h5 : ∀ (l0 : Nat) (l1 : Int32) (l2 : Int32) (l3 : Int32) (l4 : Int32), r5 l0 l1 l2 l3 l4 = some ρ → K l0 = (19, 19) → po_V X G 5 (po_Q X G (.inl (some (.int ρ))) K R I none 0 0) 0 0 5 [(0, .ref l0), (1, .int l1), (2, .int l2), (3, .int l3), (4, .int l4)] [] K R I none) (l0 : Nat) (l1 : Int32) (l2 : Int32) (l4 : Int32) (s0 : Int32) (kl0 : K l0 = (19, 19)) (hm : m_X8_floorAreas_52 I r5 l0 l1 l2 l4 s0 = some ρ) : po_V X G 5 (po_Q X G (.inl (some (.int ρ))) K R I none 0 0) 0 0 52 [(0, .ref l0), (1, .int l1), (2, .int l2), (4, .int l4)] [.int s0] K R I none := by
  unfold m_X8_floorAreas_52 at hm
  refine po_iconst (v := 0) hF dX8_floorAreas_52 (by decide) ?_
  exact w_X8_floorAreas_53 hF hL HL h5 l0 l1 l2 l4 s0 0 kl0 hm
set_option maxRecDepth 20000 in
set_option maxHeartbeats 2000000 in
theorem w_X8_floorAreas_5 {X : po_X} {G : po_G} {st : Nat → Nat} {K : po_K} {I : po_I} {R : po_R} {ρ : Int32} {r5 : Nat → Int32 → Int32 → Int32 → Int32 → Option (Int32)} (hF : po_F X G cX8_floorAreas RX8 5 st) (hL : po_L X (some .int) 5 0 0 "floorAreas") (HL : po_Lay K R st) (h5 : ∀ (l0 : Nat) (l1 : Int32) (l2 : Int32) (l3 : Int32) (l4 : Int32), r5 l0 l1 l2 l3 l4 = some ρ → K l0 = (19, 19) → po_V X G 5 (po_Q X G (.inl (some (.int ρ))) K R I none 0 0) 0 0 5 [(0, .ref l0), (1, .int l1), (2, .int l2), (3, .int l3), (4, .int l4)] [] K R I none) (l0 : Nat) (l1 : Int32) (l2 : Int32) (l3 : Int32) (l4 : Int32) (kl0 : K l0 = (19, 19)) (hm : m_X8_floorAreas_5 I r5 l0 l1 l2 l3 l4 = some ρ) : po_V X G 5 (po_Q X G (.inl (some (.int ρ))) K R I none 0 0) 0 0 5 [(0, .ref l0), (1, .int l1), (2, .int l2), (3, .int l3), (4, .int l4)] [] K R I none := by
  unfold m_X8_floorAreas_5 at hm
  refine po_iload hF dX8_floorAreas_5 rfl ?_
  refine po_aload_n hF dX8_floorAreas_7 rfl rfl ?_
  refine po_getf (v := .ref (l0 + 1)) hF dX8_floorAreas_8 fl_X8_13 kl0 (ly_8_1 HL kl0).1 ?_
  refine po_iconst (v := 2) hF dX8_floorAreas_11 (by decide) ?_
  refine po_ialdC (j := 2) hF dX8_floorAreas_12 ((ly_8_1 HL kl0).2) (Or.inl rfl) (by decide) (by decide) (by decide) ?_
  refine po_icmp_ge (tgt := 61) hF dX8_floorAreas_13 (by decide) hm (fun hm => ?_) (fun hm => ?_)
  · refine po_iload_n hF dX8_floorAreas_61 rfl rfl ?_
    cases hm
    exact po_iret hF hL dX8_floorAreas_62 (by decide) (by decide) rfl rfl rfl (Or.inl rfl)
  · refine po_iload_n hF dX8_floorAreas_16 rfl rfl ?_
    refine po_iload hF dX8_floorAreas_17 rfl ?_
    refine po_iload_n hF dX8_floorAreas_19 rfl rfl ?_
    refine po_icmp_eq (tgt := 52) hF dX8_floorAreas_20 (by decide) hm (fun hm => ?_) (fun hm => ?_)
    · refine po_sub (L' := [(0, .ref l0), (1, .int l1), (2, .int l2), (4, .int l4)]) rfl ?_
      exact w_X8_floorAreas_52 hF hL HL h5 l0 l1 l2 l4 l3 kl0 hm
    · refine po_aload_n hF dX8_floorAreas_23 rfl rfl ?_
      refine po_iload hF dX8_floorAreas_24 rfl ?_
      obtain ⟨x2, hx2, hm⟩ := po_bind hm
      refine po_callV (As := [.int l4]) hF dX8_floorAreas_26 wq_1450 mv_X8_stands ws_X8_stands (show po_cl[8]? = some _ from rfl) rfl kl0 (c_X8_stands HL kl0 hx2) rfl (po_rtL hL rfl) (Nat.le_of_ble_eq_true rfl) rfl ?_
      refine po_if_eq (tgt := 52) hF dX8_floorAreas_29 (by decide) hm (fun hm => ?_) (fun hm => ?_)
      · refine po_sub (L' := [(0, .ref l0), (1, .int l1), (2, .int l2), (4, .int l4)]) rfl ?_
        exact w_X8_floorAreas_52 hF hL HL h5 l0 l1 l2 l4 l3 kl0 hm
      · refine po_aload_n hF dX8_floorAreas_32 rfl rfl ?_
        refine po_iload hF dX8_floorAreas_33 rfl ?_
        refine po_iconst (v := 0) hF dX8_floorAreas_35 (by decide) ?_
        obtain ⟨x3, hx3, hm⟩ := po_bind hm
        refine po_callV (As := [.int l4, .int 0]) hF dX8_floorAreas_36 wq_1380 mv_X8_at ws_X8_at (show po_cl[8]? = some _ from rfl) rfl kl0 (c_X8_at HL kl0 hx3) rfl (po_rtL hL rfl) (Nat.le_of_ble_eq_true rfl) rfl ?_
        refine po_iload_n hF dX8_floorAreas_39 rfl rfl ?_
        refine po_icmp_ne (tgt := 52) hF dX8_floorAreas_40 (by decide) hm (fun hm => ?_) (fun hm => ?_)
        · refine po_sub (L' := [(0, .ref l0), (1, .int l1), (2, .int l2), (4, .int l4)]) rfl ?_
          exact w_X8_floorAreas_52 hF hL HL h5 l0 l1 l2 l4 l3 kl0 hm
        · refine po_aload_n hF dX8_floorAreas_43 rfl rfl ?_
          refine po_iload hF dX8_floorAreas_44 rfl ?_
          obtain ⟨x4, hx4, hm⟩ := po_bind hm
          refine po_callV (As := [.int l4]) hF dX8_floorAreas_46 wq_1368 mv_X8_floorArea ws_X8_floorArea (show po_cl[8]? = some _ from rfl) rfl kl0 (c_X8_floorArea HL kl0 hx4) rfl (po_rtL hL rfl) (Nat.le_of_ble_eq_true rfl) rfl ?_
          refine po_goto (tgt := 53) hF dX8_floorAreas_49 (by decide) ?_
          refine po_sub (L' := [(0, .ref l0), (1, .int l1), (2, .int l2), (4, .int l4)]) rfl ?_
          exact w_X8_floorAreas_53 hF hL HL h5 l0 l1 l2 l4 l3 x4 kl0 hm
theorem w_X8_floorAreas_5L {X : po_X} {G : po_G} {st : Nat → Nat} {K : po_K} {I : po_I} {R : po_R} {ρ : Int32} (hF : po_F X G cX8_floorAreas RX8 5 st) (hL : po_L X (some .int) 5 0 0 "floorAreas") (HL : po_Lay K R st) : ∀ (n : Nat) (l0 : Nat) (l1 : Int32) (l2 : Int32) (l3 : Int32) (l4 : Int32), m_X8_floorAreas_5L I n l0 l1 l2 l3 l4 = some ρ → K l0 = (19, 19) → po_V X G 5 (po_Q X G (.inl (some (.int ρ))) K R I none 0 0) 0 0 5 [(0, .ref l0), (1, .int l1), (2, .int l2), (3, .int l3), (4, .int l4)] [] K R I none := by
  intro n
  induction n with
  | zero => intro l0 l1 l2 l3 l4 hm; cases hm
  | succ n ih => intro l0 l1 l2 l3 l4 hm kl0; exact w_X8_floorAreas_5 hF hL HL (ih) l0 l1 l2 l3 l4 kl0 hm
set_option maxRecDepth 20000 in
set_option maxHeartbeats 2000000 in
theorem w_X8_floorAreas_e {X : po_X} {G : po_G} {st : Nat → Nat} {K : po_K} {I : po_I} {R : po_R} {ρ : Int32} (hF : po_F X G cX8_floorAreas RX8 5 st) (hL : po_L X (some .int) 5 0 0 "floorAreas") (HL : po_Lay K R st) (l0 : Nat) (l1 : Int32) (l2 : Int32) (kl0 : K l0 = (19, 19)) (hm : m_X8_floorAreas_e I l0 l1 l2 = some ρ) : po_V X G 5 (po_Q X G (.inl (some (.int ρ))) K R I none 0 0) 0 0 0 [(0, .ref l0), (1, .int l1), (2, .int l2)] [] K R I none := by
  unfold m_X8_floorAreas_e at hm
  refine po_iconst (v := 0) hF dX8_floorAreas_0 (by decide) ?_
  refine po_istore_n (L' := [(3, .int 0), (0, .ref l0), (1, .int l1), (2, .int l2)]) hF dX8_floorAreas_1 rfl (by decide) rfl ?_
  refine po_iconst (v := 0) hF dX8_floorAreas_2 (by decide) ?_
  refine po_istore (L' := [(4, .int 0), (3, .int 0), (0, .ref l0), (1, .int l1), (2, .int l2)]) hF dX8_floorAreas_3 (by decide) rfl ?_
  refine po_sub (L' := [(0, .ref l0), (1, .int l1), (2, .int l2), (3, .int 0), (4, .int 0)]) rfl ?_
  exact w_X8_floorAreas_5L hF hL HL 5000 l0 l1 l2 0 0 hm kl0
theorem c_X8_floorAreas {K : po_K} {R : po_R} {I : po_I} {st : Nat → Nat} {ρ : Int32} (HL : po_Lay K R st) {l0 : Nat} {l1 : Int32} {l2 : Int32} (kl0 : K l0 = (19, 19)) (hm : m_X8_floorAreas I l0 l1 l2 = some ρ) : po_C st yX8_floorAreas cX8_floorAreas 5 (some .int) 5 0 0 [.ref l0, .int l1, .int l2] K R I none (.inl (some (.int ρ))) K R I none := by
  refine po_ofC (by decide +kernel) (Nat.le_of_ble_eq_true rfl) (fun X G hF hL => ?_)
  exact w_X8_floorAreas_e hF hL HL l0 l1 l2 kl0 hm
set_option maxRecDepth 20000 in
set_option maxHeartbeats 2000000 in
theorem w_X8_eastward_19 {X : po_X} {G : po_G} {st : Nat → Nat} {K : po_K} {I : po_I} {R : po_R} {ρ : Int32} (hF : po_F X G cX8_eastward RX8 1 st) (hL : po_L X (some .int) 0 0 0 "eastward") (HL : po_Lay K R st) (s0 : Int32) (hm : m_X8_eastward_19 s0 = some ρ) : po_V X G 1 (po_Q X G (.inl (some (.int ρ))) K R I none 0 0) 0 0 19 [] [.int s0] K R I none := by
  unfold m_X8_eastward_19 at hm
  cases hm
  exact po_iret hF hL dX8_eastward_19 (by decide) (by decide) rfl rfl rfl (Or.inl rfl)
set_option maxRecDepth 20000 in
set_option maxHeartbeats 2000000 in
theorem w_X8_eastward_e {X : po_X} {G : po_G} {st : Nat → Nat} {K : po_K} {I : po_I} {R : po_R} {ρ : Int32} (hF : po_F X G cX8_eastward RX8 1 st) (hL : po_L X (some .int) 0 0 0 "eastward") (HL : po_Lay K R st) (l0 : Int32) (hm : m_X8_eastward_e l0 = some ρ) : po_V X G 1 (po_Q X G (.inl (some (.int ρ))) K R I none 0 0) 0 0 0 [(0, .int l0)] [] K R I none := by
  unfold m_X8_eastward_e at hm
  refine po_iload_n hF dX8_eastward_0 rfl rfl ?_
  refine po_iconst (v := 1) hF dX8_eastward_1 (by decide) ?_
  refine po_icmp_ne (tgt := 9) hF dX8_eastward_2 (by decide) hm (fun hm => ?_) (fun hm => ?_)
  · refine po_iload_n hF dX8_eastward_9 rfl rfl ?_
    refine po_iconst (v := 3) hF dX8_eastward_10 (by decide) ?_
    refine po_icmp_ne (tgt := 18) hF dX8_eastward_11 (by decide) hm (fun hm => ?_) (fun hm => ?_)
    · refine po_iconst (v := 0) hF dX8_eastward_18 (by decide) ?_
      refine po_sub (L' := []) rfl ?_
      exact w_X8_eastward_19 hF hL HL 0 hm
    · refine po_iconst (v := (-1)) hF dX8_eastward_14 (by decide) ?_
      refine po_goto (tgt := 19) hF dX8_eastward_15 (by decide) ?_
      refine po_sub (L' := []) rfl ?_
      exact w_X8_eastward_19 hF hL HL (-1) hm
  · refine po_iconst (v := 1) hF dX8_eastward_5 (by decide) ?_
    refine po_goto (tgt := 19) hF dX8_eastward_6 (by decide) ?_
    refine po_sub (L' := []) rfl ?_
    exact w_X8_eastward_19 hF hL HL 1 hm
theorem c_X8_eastward {K : po_K} {R : po_R} {I : po_I} {st : Nat → Nat} {ρ : Int32} (HL : po_Lay K R st) {l0 : Int32} (hm : m_X8_eastward l0 = some ρ) : po_C st yX8_eastward cX8_eastward 1 (some .int) 0 0 0 [.int l0] K R I none (.inl (some (.int ρ))) K R I none := by
  refine po_ofC (by decide +kernel) (Nat.le_of_ble_eq_true rfl) (fun X G hF hL => ?_)
  exact w_X8_eastward_e hF hL HL l0 hm
set_option maxRecDepth 20000 in
set_option maxHeartbeats 2000000 in
theorem w_X8_southward_18 {X : po_X} {G : po_G} {st : Nat → Nat} {K : po_K} {I : po_I} {R : po_R} {ρ : Int32} (hF : po_F X G cX8_southward RX8 1 st) (hL : po_L X (some .int) 0 0 0 "southward") (HL : po_Lay K R st) (s0 : Int32) (hm : m_X8_southward_18 s0 = some ρ) : po_V X G 1 (po_Q X G (.inl (some (.int ρ))) K R I none 0 0) 0 0 18 [] [.int s0] K R I none := by
  unfold m_X8_southward_18 at hm
  cases hm
  exact po_iret hF hL dX8_southward_18 (by decide) (by decide) rfl rfl rfl (Or.inl rfl)
set_option maxRecDepth 20000 in
set_option maxHeartbeats 2000000 in
theorem w_X8_southward_e {X : po_X} {G : po_G} {st : Nat → Nat} {K : po_K} {I : po_I} {R : po_R} {ρ : Int32} (hF : po_F X G cX8_southward RX8 1 st) (hL : po_L X (some .int) 0 0 0 "southward") (HL : po_Lay K R st) (l0 : Int32) (hm : m_X8_southward_e l0 = some ρ) : po_V X G 1 (po_Q X G (.inl (some (.int ρ))) K R I none 0 0) 0 0 0 [(0, .int l0)] [] K R I none := by
  unfold m_X8_southward_e at hm
  refine po_iload_n hF dX8_southward_0 rfl rfl ?_
  refine po_iconst (v := 2) hF dX8_southward_1 (by decide) ?_
  refine po_icmp_ne (tgt := 9) hF dX8_southward_2 (by decide) hm (fun hm => ?_) (fun hm => ?_)
  · refine po_iload_n hF dX8_southward_9 rfl rfl ?_
    refine po_if_ne (tgt := 17) hF dX8_southward_10 (by decide) hm (fun hm => ?_) (fun hm => ?_)
    · refine po_iconst (v := 0) hF dX8_southward_17 (by decide) ?_
      refine po_sub (L' := []) rfl ?_
      exact w_X8_southward_18 hF hL HL 0 hm
    · refine po_iconst (v := (-1)) hF dX8_southward_13 (by decide) ?_
      refine po_goto (tgt := 18) hF dX8_southward_14 (by decide) ?_
      refine po_sub (L' := []) rfl ?_
      exact w_X8_southward_18 hF hL HL (-1) hm
  · refine po_iconst (v := 1) hF dX8_southward_5 (by decide) ?_
    refine po_goto (tgt := 18) hF dX8_southward_6 (by decide) ?_
    refine po_sub (L' := []) rfl ?_
    exact w_X8_southward_18 hF hL HL 1 hm
theorem c_X8_southward {K : po_K} {R : po_R} {I : po_I} {st : Nat → Nat} {ρ : Int32} (HL : po_Lay K R st) {l0 : Int32} (hm : m_X8_southward l0 = some ρ) : po_C st yX8_southward cX8_southward 1 (some .int) 0 0 0 [.int l0] K R I none (.inl (some (.int ρ))) K R I none := by
  refine po_ofC (by decide +kernel) (Nat.le_of_ble_eq_true rfl) (fun X G hF hL => ?_)
  exact w_X8_southward_e hF hL HL l0 hm
set_option maxRecDepth 20000 in
set_option maxHeartbeats 2000000 in
theorem w_X8_sides_82 {X : po_X} {G : po_G} {st : Nat → Nat} {K : po_K} {I : po_I} {R : po_R} {ρ : Int32} {r4 : Nat → Int32 → Int32 → Int32 → Option (Int32)} (hF : po_F X G cX8_sides RX8 7 st) (hL : po_L X (some .int) 3 0 0 "sides") (HL : po_Lay K R st) (h4 : ∀ (l0 : Nat) (l1 : Int32) (l2 : Int32) (l3 : Int32), r4 l0 l1 l2 l3 = some ρ → K l0 = (19, 19) → po_V X G 7 (po_Q X G (.inl (some (.int ρ))) K R I none 0 0) 0 0 4 [(0, .ref l0), (1, .int l1), (2, .int l2), (3, .int l3)] [] K R I none) (l0 : Nat) (l1 : Int32) (l2 : Int32) (l3 : Int32) (kl0 : K l0 = (19, 19)) (hm : m_X8_sides_82 I r4 l0 l1 l2 l3 = some ρ) : po_V X G 7 (po_Q X G (.inl (some (.int ρ))) K R I none 0 0) 0 0 82 [(0, .ref l0), (1, .int l1), (2, .int l2), (3, .int l3)] [] K R I none := by
  unfold m_X8_sides_82 at hm
  refine po_iinc (v := l3 + 1) (L' := [(3, .int (l3 + 1)), (0, .ref l0), (1, .int l1), (2, .int l2)]) hF dX8_sides_82 rfl rfl (by decide) rfl ?_
  refine po_goto (tgt := 4) hF dX8_sides_85 (by decide) ?_
  refine po_sub (L' := [(0, .ref l0), (1, .int l1), (2, .int l2), (3, .int (l3 + 1))]) rfl ?_
  exact h4 l0 l1 l2 (l3 + 1) hm kl0
set_option maxRecDepth 20000 in
set_option maxHeartbeats 2000000 in
theorem w_X8_sides_74 {X : po_X} {G : po_G} {st : Nat → Nat} {K : po_K} {I : po_I} {R : po_R} {ρ : Int32} {r4 : Nat → Int32 → Int32 → Int32 → Option (Int32)} {r26 : Nat → Int32 → Int32 → Int32 → Int32 → Int32 → Int32 → Option (Int32)} (hF : po_F X G cX8_sides RX8 7 st) (hL : po_L X (some .int) 3 0 0 "sides") (HL : po_Lay K R st) (h4 : ∀ (l0 : Nat) (l1 : Int32) (l2 : Int32) (l3 : Int32), r4 l0 l1 l2 l3 = some ρ → K l0 = (19, 19) → po_V X G 7 (po_Q X G (.inl (some (.int ρ))) K R I none 0 0) 0 0 4 [(0, .ref l0), (1, .int l1), (2, .int l2), (3, .int l3)] [] K R I none) (h26 : ∀ (l0 : Nat) (l1 : Int32) (l2 : Int32) (l3 : Int32) (l4 : Int32) (l5 : Int32) (l6 : Int32), r26 l0 l1 l2 l3 l4 l5 l6 = some ρ → K l0 = (19, 19) → po_V X G 7 (po_Q X G (.inl (some (.int ρ))) K R I none 0 0) 0 0 26 [(0, .ref l0), (1, .int l1), (2, .int l2), (3, .int l3), (4, .int l4), (5, .int l5), (6, .int l6)] [] K R I none) (l0 : Nat) (l1 : Int32) (l3 : Int32) (l4 : Int32) (l5 : Int32) (l6 : Int32) (s0 : Int32) (s1 : Int32) (kl0 : K l0 = (19, 19)) (hm : m_X8_sides_74 I r4 r26 l0 l1 l3 l4 l5 l6 s0 s1 = some ρ) : po_V X G 7 (po_Q X G (.inl (some (.int ρ))) K R I none 0 0) 0 0 74 [(0, .ref l0), (1, .int l1), (3, .int l3), (4, .int l4), (5, .int l5), (6, .int l6)] [.int s1, .int s0] K R I none := by
  unfold m_X8_sides_74 at hm
  refine po_iadd hF dX8_sides_74 ?_
  refine po_top hm (fun v1 hm => ?_)
  refine po_istore_n (L' := [(2, .int v1), (0, .ref l0), (1, .int l1), (3, .int l3), (4, .int l4), (5, .int l5), (6, .int l6)]) hF dX8_sides_75 rfl (by decide) rfl ?_
  refine po_iinc (v := l6 + 1) (L' := [(6, .int (l6 + 1)), (2, .int v1), (0, .ref l0), (1, .int l1), (3, .int l3), (4, .int l4), (5, .int l5)]) hF dX8_sides_76 rfl rfl (by decide) rfl ?_
  refine po_goto (tgt := 26) hF dX8_sides_79 (by decide) ?_
  refine po_sub (L' := [(0, .ref l0), (1, .int l1), (2, .int v1), (3, .int l3), (4, .int l4), (5, .int l5), (6, .int (l6 + 1))]) rfl ?_
  exact h26 l0 l1 v1 l3 l4 l5 (l6 + 1) hm kl0
set_option maxRecDepth 20000 in
set_option maxHeartbeats 2000000 in
theorem w_X8_sides_26 {X : po_X} {G : po_G} {st : Nat → Nat} {K : po_K} {I : po_I} {R : po_R} {ρ : Int32} {r4 : Nat → Int32 → Int32 → Int32 → Option (Int32)} {r26 : Nat → Int32 → Int32 → Int32 → Int32 → Int32 → Int32 → Option (Int32)} (hF : po_F X G cX8_sides RX8 7 st) (hL : po_L X (some .int) 3 0 0 "sides") (HL : po_Lay K R st) (h4 : ∀ (l0 : Nat) (l1 : Int32) (l2 : Int32) (l3 : Int32), r4 l0 l1 l2 l3 = some ρ → K l0 = (19, 19) → po_V X G 7 (po_Q X G (.inl (some (.int ρ))) K R I none 0 0) 0 0 4 [(0, .ref l0), (1, .int l1), (2, .int l2), (3, .int l3)] [] K R I none) (h26 : ∀ (l0 : Nat) (l1 : Int32) (l2 : Int32) (l3 : Int32) (l4 : Int32) (l5 : Int32) (l6 : Int32), r26 l0 l1 l2 l3 l4 l5 l6 = some ρ → K l0 = (19, 19) → po_V X G 7 (po_Q X G (.inl (some (.int ρ))) K R I none 0 0) 0 0 26 [(0, .ref l0), (1, .int l1), (2, .int l2), (3, .int l3), (4, .int l4), (5, .int l5), (6, .int l6)] [] K R I none) (l0 : Nat) (l1 : Int32) (l2 : Int32) (l3 : Int32) (l4 : Int32) (l5 : Int32) (l6 : Int32) (kl0 : K l0 = (19, 19)) (hm : m_X8_sides_26 I r4 r26 l0 l1 l2 l3 l4 l5 l6 = some ρ) : po_V X G 7 (po_Q X G (.inl (some (.int ρ))) K R I none 0 0) 0 0 26 [(0, .ref l0), (1, .int l1), (2, .int l2), (3, .int l3), (4, .int l4), (5, .int l5), (6, .int l6)] [] K R I none := by
  unfold m_X8_sides_26 at hm
  refine po_iload hF dX8_sides_26 rfl ?_
  refine po_iconst (v := 4) hF dX8_sides_28 (by decide) ?_
  refine po_icmp_ge (tgt := 82) hF dX8_sides_29 (by decide) hm (fun hm => ?_) (fun hm => ?_)
  · refine po_sub (L' := [(0, .ref l0), (1, .int l1), (2, .int l2), (3, .int l3)]) rfl ?_
    exact w_X8_sides_82 hF hL HL h4 l0 l1 l2 l3 kl0 hm
  · refine po_aload_n hF dX8_sides_32 rfl rfl ?_
    refine po_iload_n hF dX8_sides_33 rfl rfl ?_
    refine po_iload hF dX8_sides_34 rfl ?_
    refine po_iload hF dX8_sides_36 rfl ?_
    obtain ⟨x2, hx2, hm⟩ := po_bind hm
    refine po_callV (As := [.int l1, .int l4, .int l5]) hF dX8_sides_38 wq_1347 mv_X8_isInLot ws_X8_isInLot (show po_cl[8]? = some _ from rfl) rfl kl0 (c_X8_isInLot HL kl0 hx2) rfl (po_rtL hL rfl) (Nat.le_of_ble_eq_true rfl) rfl ?_
    refine po_if_eq (tgt := 82) hF dX8_sides_41 (by decide) hm (fun hm => ?_) (fun hm => ?_)
    · refine po_sub (L' := [(0, .ref l0), (1, .int l1), (2, .int l2), (3, .int l3)]) rfl ?_
      exact w_X8_sides_82 hF hL HL h4 l0 l1 l2 l3 kl0 hm
    · refine po_iload_n hF dX8_sides_44 rfl rfl ?_
      refine po_aload_n hF dX8_sides_45 rfl rfl ?_
      refine po_iload_n hF dX8_sides_46 rfl rfl ?_
      refine po_iload hF dX8_sides_47 rfl ?_
      refine po_iload hF dX8_sides_49 rfl ?_
      obtain ⟨x3, hx3, hm⟩ := po_bind hm
      refine po_callS (As := [.int l6]) hF dX8_sides_51 wq_1466 mv_X8_eastward (c_X8_eastward HL hx3) rfl (po_rtL hL rfl) (Nat.le_of_ble_eq_true rfl) rfl ?_
      refine po_iadd hF dX8_sides_54 ?_
      refine po_iload hF dX8_sides_55 rfl ?_
      refine po_iload hF dX8_sides_57 rfl ?_
      obtain ⟨x4, hx4, hm⟩ := po_bind hm
      refine po_callS (As := [.int l6]) hF dX8_sides_59 wq_1469 mv_X8_southward (c_X8_southward HL hx4) rfl (po_rtL hL rfl) (Nat.le_of_ble_eq_true rfl) rfl ?_
      refine po_iadd hF dX8_sides_62 ?_
      obtain ⟨x5, hx5, hm⟩ := po_bind hm
      refine po_callV (As := [.int l1, .int (l4 + x3), .int (l5 + x4)]) hF dX8_sides_63 wq_1347 mv_X8_isInLot ws_X8_isInLot (show po_cl[8]? = some _ from rfl) rfl kl0 (c_X8_isInLot HL kl0 hx5) rfl (po_rtL hL rfl) (Nat.le_of_ble_eq_true rfl) rfl ?_
      refine po_if_eq (tgt := 73) hF dX8_sides_66 (by decide) hm (fun hm => ?_) (fun hm => ?_)
      · refine po_iconst (v := 1) hF dX8_sides_73 (by decide) ?_
        refine po_sub (L' := [(0, .ref l0), (1, .int l1), (3, .int l3), (4, .int l4), (5, .int l5), (6, .int l6)]) rfl ?_
        exact w_X8_sides_74 hF hL HL h4 h26 l0 l1 l3 l4 l5 l6 l2 1 kl0 hm
      · refine po_iconst (v := 0) hF dX8_sides_69 (by decide) ?_
        refine po_goto (tgt := 74) hF dX8_sides_70 (by decide) ?_
        refine po_sub (L' := [(0, .ref l0), (1, .int l1), (3, .int l3), (4, .int l4), (5, .int l5), (6, .int l6)]) rfl ?_
        exact w_X8_sides_74 hF hL HL h4 h26 l0 l1 l3 l4 l5 l6 l2 0 kl0 hm
theorem w_X8_sides_26L {X : po_X} {G : po_G} {st : Nat → Nat} {K : po_K} {I : po_I} {R : po_R} {ρ : Int32} {r4 : Nat → Int32 → Int32 → Int32 → Option (Int32)} (hF : po_F X G cX8_sides RX8 7 st) (hL : po_L X (some .int) 3 0 0 "sides") (HL : po_Lay K R st) (h4 : ∀ (l0 : Nat) (l1 : Int32) (l2 : Int32) (l3 : Int32), r4 l0 l1 l2 l3 = some ρ → K l0 = (19, 19) → po_V X G 7 (po_Q X G (.inl (some (.int ρ))) K R I none 0 0) 0 0 4 [(0, .ref l0), (1, .int l1), (2, .int l2), (3, .int l3)] [] K R I none) : ∀ (n : Nat) (l0 : Nat) (l1 : Int32) (l2 : Int32) (l3 : Int32) (l4 : Int32) (l5 : Int32) (l6 : Int32), m_X8_sides_26L I r4 n l0 l1 l2 l3 l4 l5 l6 = some ρ → K l0 = (19, 19) → po_V X G 7 (po_Q X G (.inl (some (.int ρ))) K R I none 0 0) 0 0 26 [(0, .ref l0), (1, .int l1), (2, .int l2), (3, .int l3), (4, .int l4), (5, .int l5), (6, .int l6)] [] K R I none := by
  intro n
  induction n with
  | zero => intro l0 l1 l2 l3 l4 l5 l6 hm; cases hm
  | succ n ih => intro l0 l1 l2 l3 l4 l5 l6 hm kl0; exact w_X8_sides_26 hF hL HL h4 (ih) l0 l1 l2 l3 l4 l5 l6 kl0 hm
set_option maxRecDepth 20000 in
set_option maxHeartbeats 2000000 in
theorem w_X8_sides_4 {X : po_X} {G : po_G} {st : Nat → Nat} {K : po_K} {I : po_I} {R : po_R} {ρ : Int32} {r4 : Nat → Int32 → Int32 → Int32 → Option (Int32)} (hF : po_F X G cX8_sides RX8 7 st) (hL : po_L X (some .int) 3 0 0 "sides") (HL : po_Lay K R st) (h4 : ∀ (l0 : Nat) (l1 : Int32) (l2 : Int32) (l3 : Int32), r4 l0 l1 l2 l3 = some ρ → K l0 = (19, 19) → po_V X G 7 (po_Q X G (.inl (some (.int ρ))) K R I none 0 0) 0 0 4 [(0, .ref l0), (1, .int l1), (2, .int l2), (3, .int l3)] [] K R I none) (l0 : Nat) (l1 : Int32) (l2 : Int32) (l3 : Int32) (kl0 : K l0 = (19, 19)) (hm : m_X8_sides_4 I r4 l0 l1 l2 l3 = some ρ) : po_V X G 7 (po_Q X G (.inl (some (.int ρ))) K R I none 0 0) 0 0 4 [(0, .ref l0), (1, .int l1), (2, .int l2), (3, .int l3)] [] K R I none := by
  unfold m_X8_sides_4 at hm
  refine po_iload_n hF dX8_sides_4 rfl rfl ?_
  refine po_sipush (v := 280) hF dX8_sides_5 (by decide) ?_
  refine po_icmp_ge (tgt := 88) hF dX8_sides_8 (by decide) hm (fun hm => ?_) (fun hm => ?_)
  · refine po_iload_n hF dX8_sides_88 rfl rfl ?_
    cases hm
    exact po_iret hF hL dX8_sides_89 (by decide) (by decide) rfl rfl rfl (Or.inl rfl)
  · refine po_iload_n hF dX8_sides_11 rfl rfl ?_
    refine po_bipush (v := 20) hF dX8_sides_12 (by decide) ?_
    refine po_iremK hF dX8_sides_14 (by decide) ?_
    refine po_top hm (fun v6 hm => ?_)
    refine po_istore (L' := [(4, .int v6), (0, .ref l0), (1, .int l1), (2, .int l2), (3, .int l3)]) hF dX8_sides_15 (by decide) rfl ?_
    refine po_iload_n hF dX8_sides_17 rfl rfl ?_
    refine po_bipush (v := 20) hF dX8_sides_18 (by decide) ?_
    refine po_idivK hF dX8_sides_20 (by decide) ?_
    refine po_top hm (fun v7 hm => ?_)
    refine po_istore (L' := [(5, .int v7), (4, .int v6), (0, .ref l0), (1, .int l1), (2, .int l2), (3, .int l3)]) hF dX8_sides_21 (by decide) rfl ?_
    refine po_iconst (v := 0) hF dX8_sides_23 (by decide) ?_
    refine po_istore (L' := [(6, .int 0), (5, .int v7), (4, .int v6), (0, .ref l0), (1, .int l1), (2, .int l2), (3, .int l3)]) hF dX8_sides_24 (by decide) rfl ?_
    refine po_sub (L' := [(0, .ref l0), (1, .int l1), (2, .int l2), (3, .int l3), (4, .int v6), (5, .int v7), (6, .int 0)]) rfl ?_
    exact w_X8_sides_26L hF hL HL h4 5000 l0 l1 l2 l3 v6 v7 0 hm kl0
theorem w_X8_sides_4L {X : po_X} {G : po_G} {st : Nat → Nat} {K : po_K} {I : po_I} {R : po_R} {ρ : Int32} (hF : po_F X G cX8_sides RX8 7 st) (hL : po_L X (some .int) 3 0 0 "sides") (HL : po_Lay K R st) : ∀ (n : Nat) (l0 : Nat) (l1 : Int32) (l2 : Int32) (l3 : Int32), m_X8_sides_4L I n l0 l1 l2 l3 = some ρ → K l0 = (19, 19) → po_V X G 7 (po_Q X G (.inl (some (.int ρ))) K R I none 0 0) 0 0 4 [(0, .ref l0), (1, .int l1), (2, .int l2), (3, .int l3)] [] K R I none := by
  intro n
  induction n with
  | zero => intro l0 l1 l2 l3 hm; cases hm
  | succ n ih => intro l0 l1 l2 l3 hm kl0; exact w_X8_sides_4 hF hL HL (ih) l0 l1 l2 l3 kl0 hm
set_option maxRecDepth 20000 in
set_option maxHeartbeats 2000000 in
theorem w_X8_sides_e {X : po_X} {G : po_G} {st : Nat → Nat} {K : po_K} {I : po_I} {R : po_R} {ρ : Int32} (hF : po_F X G cX8_sides RX8 7 st) (hL : po_L X (some .int) 3 0 0 "sides") (HL : po_Lay K R st) (l0 : Nat) (l1 : Int32) (kl0 : K l0 = (19, 19)) (hm : m_X8_sides_e I l0 l1 = some ρ) : po_V X G 7 (po_Q X G (.inl (some (.int ρ))) K R I none 0 0) 0 0 0 [(0, .ref l0), (1, .int l1)] [] K R I none := by
  unfold m_X8_sides_e at hm
  refine po_iconst (v := 0) hF dX8_sides_0 (by decide) ?_
  refine po_istore_n (L' := [(2, .int 0), (0, .ref l0), (1, .int l1)]) hF dX8_sides_1 rfl (by decide) rfl ?_
  refine po_iconst (v := 0) hF dX8_sides_2 (by decide) ?_
  refine po_istore_n (L' := [(3, .int 0), (2, .int 0), (0, .ref l0), (1, .int l1)]) hF dX8_sides_3 rfl (by decide) rfl ?_
  refine po_sub (L' := [(0, .ref l0), (1, .int l1), (2, .int 0), (3, .int 0)]) rfl ?_
  exact w_X8_sides_4L hF hL HL 5000 l0 l1 0 0 hm kl0
theorem c_X8_sides {K : po_K} {R : po_R} {I : po_I} {st : Nat → Nat} {ρ : Int32} (HL : po_Lay K R st) {l0 : Nat} {l1 : Int32} (kl0 : K l0 = (19, 19)) (hm : m_X8_sides I l0 l1 = some ρ) : po_C st yX8_sides cX8_sides 7 (some .int) 3 0 0 [.ref l0, .int l1] K R I none (.inl (some (.int ρ))) K R I none := by
  refine po_ofC (by decide +kernel) (Nat.le_of_ble_eq_true rfl) (fun X G hF hL => ?_)
  exact w_X8_sides_e hF hL HL l0 l1 kl0 hm
set_option maxRecDepth 20000 in
set_option maxHeartbeats 2000000 in
theorem w_X8_lot_98 {X : po_X} {G : po_G} {st : Nat → Nat} {K : po_K} {R : po_R} {ρ : Int32 × po_I} (hF : po_F X G cX8_lot RX8 3 st) (hL : po_L X (some .int) 6 0 0 "lot") (HL : po_Lay K R st) (I : po_I) (s0 : Int32) (hm : m_X8_lot_98 I s0 = some ρ) : po_V X G 3 (po_Q X G (.inl (some (.int ρ.1))) K R (ρ.2) none 0 0) 0 0 98 [] [.int s0] K R I none := by
  unfold m_X8_lot_98 at hm
  cases hm
  exact po_iret hF hL dX8_lot_98 (by decide) (by decide) rfl rfl rfl (Or.inl rfl)
set_option maxRecDepth 20000 in
set_option maxHeartbeats 2000000 in
theorem w_X8_lot_27 {X : po_X} {G : po_G} {st : Nat → Nat} {K : po_K} {R : po_R} {ρ : Int32 × po_I} (hF : po_F X G cX8_lot RX8 3 st) (hL : po_L X (some .int) 6 0 0 "lot") (HL : po_Lay K R st) (I : po_I) (l0 : Nat) (l1 : Int32) (l2 : Int32) (s0 : Nat) (s1 : Int32) (kl0 : K l0 = (19, 19)) (ks0 : K s0 = (19, 19)) (hm : m_X8_lot_27 I l0 l1 l2 s0 s1 = some ρ) : po_V X G 3 (po_Q X G (.inl (some (.int ρ.1))) K R (ρ.2) none 0 0) 0 0 27 [(0, .ref l0), (1, .int l1), (2, .int l2)] [.int s1, .ref s0] K R I none := by
  unfold m_X8_lot_27 at hm
  refine po_puti hF dX8_lot_27 fl_X8_1 ks0 (by intro r h; cases h; rfl) rfl rfl (fun _ => rfl) rfl ?_
  refine po_hname hm (fun I1 hm => ?_)
  refine po_aload_n hF dX8_lot_30 rfl rfl ?_
  refine po_getf (v := .int (I1 l0 0)) hF dX8_lot_31 fl_X8_1 kl0 rfl ?_
  refine po_if_eq (tgt := 39) hF dX8_lot_34 (by decide) hm (fun hm => ?_) (fun hm => ?_)
  · refine po_iload_n hF dX8_lot_39 rfl rfl ?_
    refine po_iconst (v := 2) hF dX8_lot_40 (by decide) ?_
    refine po_icmp_ge (tgt := 53) hF dX8_lot_41 (by decide) hm (fun hm => ?_) (fun hm => ?_)
    · refine po_iload_n hF dX8_lot_53 rfl rfl ?_
      refine po_iconst (v := 2) hF dX8_lot_54 (by decide) ?_
      refine po_icmp_ne (tgt := 66) hF dX8_lot_55 (by decide) hm (fun hm => ?_) (fun hm => ?_)
      · refine po_iload_n hF dX8_lot_66 rfl rfl ?_
        refine po_iconst (v := 3) hF dX8_lot_67 (by decide) ?_
        refine po_icmp_ne (tgt := 79) hF dX8_lot_68 (by decide) hm (fun hm => ?_) (fun hm => ?_)
        · refine po_iload_n hF dX8_lot_79 rfl rfl ?_
          refine po_iconst (v := 4) hF dX8_lot_80 (by decide) ?_
          refine po_icmp_ne (tgt := 93) hF dX8_lot_81 (by decide) hm (fun hm => ?_) (fun hm => ?_)
          · refine po_aload_n hF dX8_lot_93 rfl rfl ?_
            refine po_iload_n hF dX8_lot_94 rfl rfl ?_
            obtain ⟨x2, hx2, hm⟩ := po_bind hm
            refine po_callV (As := [.int l1]) hF dX8_lot_95 wq_1462 mv_X8_sides ws_X8_sides (show po_cl[8]? = some _ from rfl) rfl kl0 (c_X8_sides HL kl0 hx2) rfl (po_rtL hL rfl) (Nat.le_of_ble_eq_true rfl) rfl ?_
            refine po_sub (L' := []) rfl ?_
            exact w_X8_lot_98 hF hL HL I1 x2 hm
          · refine po_aload_n hF dX8_lot_84 rfl rfl ?_
            refine po_iload_n hF dX8_lot_85 rfl rfl ?_
            refine po_iconst (v := (-1)) hF dX8_lot_86 (by decide) ?_
            obtain ⟨x3, hx3, hm⟩ := po_bind hm
            refine po_callV (As := [.int l1, .int (-1)]) hF dX8_lot_87 wq_1458 mv_X8_floorAreas ws_X8_floorAreas (show po_cl[8]? = some _ from rfl) rfl kl0 (c_X8_floorAreas HL kl0 hx3) rfl (po_rtL hL rfl) (Nat.le_of_ble_eq_true rfl) rfl ?_
            refine po_goto (tgt := 98) hF dX8_lot_90 (by decide) ?_
            refine po_sub (L' := []) rfl ?_
            exact w_X8_lot_98 hF hL HL I1 x3 hm
        · refine po_aload_n hF dX8_lot_71 rfl rfl ?_
          refine po_iload_n hF dX8_lot_72 rfl rfl ?_
          obtain ⟨x4, hx4, hm⟩ := po_bind hm
          refine po_callV (As := [.int l1]) hF dX8_lot_73 wq_1442 mv_X8_builtCells ws_X8_builtCells (show po_cl[8]? = some _ from rfl) rfl kl0 (c_X8_builtCells HL kl0 hx4) rfl (po_rtL hL rfl) (Nat.le_of_ble_eq_true rfl) rfl ?_
          refine po_goto (tgt := 98) hF dX8_lot_76 (by decide) ?_
          refine po_sub (L' := []) rfl ?_
          exact w_X8_lot_98 hF hL HL I1 x4 hm
      · refine po_aload_n hF dX8_lot_58 rfl rfl ?_
        refine po_iload_n hF dX8_lot_59 rfl rfl ?_
        obtain ⟨x5, hx5, hm⟩ := po_bind hm
        refine po_callV (As := [.int l1]) hF dX8_lot_60 wq_1438 mv_X8_lotCells ws_X8_lotCells (show po_cl[8]? = some _ from rfl) rfl kl0 (c_X8_lotCells HL kl0 hx5) rfl (po_rtL hL rfl) (Nat.le_of_ble_eq_true rfl) rfl ?_
        refine po_goto (tgt := 98) hF dX8_lot_63 (by decide) ?_
        refine po_sub (L' := []) rfl ?_
        exact w_X8_lot_98 hF hL HL I1 x5 hm
    · refine po_aload_n hF dX8_lot_44 rfl rfl ?_
      refine po_iload_n hF dX8_lot_45 rfl rfl ?_
      refine po_iload_n hF dX8_lot_46 rfl rfl ?_
      obtain ⟨x6, hx6, hm⟩ := po_bind hm
      refine po_callV (As := [.int l1, .int l2]) hF dX8_lot_47 wq_1434 mv_X8_lotPart ws_X8_lotPart (show po_cl[8]? = some _ from rfl) rfl kl0 (c_X8_lotPart HL kl0 hx6) rfl (po_rtL hL rfl) (Nat.le_of_ble_eq_true rfl) rfl ?_
      refine po_goto (tgt := 98) hF dX8_lot_50 (by decide) ?_
      refine po_sub (L' := []) rfl ?_
      exact w_X8_lot_98 hF hL HL I1 x6 hm
  · refine po_iconst (v := 0) hF dX8_lot_37 (by decide) ?_
    cases hm
    exact po_iret hF hL dX8_lot_38 (by decide) (by decide) rfl rfl rfl (Or.inl rfl)
set_option maxRecDepth 20000 in
set_option maxHeartbeats 2000000 in
theorem w_X8_lot_e {X : po_X} {G : po_G} {st : Nat → Nat} {K : po_K} {R : po_R} {ρ : Int32 × po_I} (hF : po_F X G cX8_lot RX8 3 st) (hL : po_L X (some .int) 6 0 0 "lot") (HL : po_Lay K R st) (I : po_I) (l0 : Nat) (l1 : Int32) (l2 : Int32) (kl0 : K l0 = (19, 19)) (hm : m_X8_lot_e I l0 l1 l2 = some ρ) : po_V X G 3 (po_Q X G (.inl (some (.int ρ.1))) K R (ρ.2) none 0 0) 0 0 0 [(0, .ref l0), (1, .int l1), (2, .int l2)] [] K R I none := by
  unfold m_X8_lot_e at hm
  refine po_aload_n hF dX8_lot_0 rfl rfl ?_
  refine po_aload_n hF dX8_lot_1 rfl rfl ?_
  refine po_iload_n hF dX8_lot_2 rfl rfl ?_
  obtain ⟨x7, hx7, hm⟩ := po_bind hm
  refine po_callV (As := [.int l1]) hF dX8_lot_3 wq_1430 mv_X8_isLot ws_X8_isLot (show po_cl[8]? = some _ from rfl) rfl kl0 (c_X8_isLot HL kl0 hx7) rfl (po_rtL hL rfl) (Nat.le_of_ble_eq_true rfl) rfl ?_
  refine po_if_ne (tgt := 13) hF dX8_lot_6 (by decide) hm (fun hm => ?_) (fun hm => ?_)
  · refine po_iload_n hF dX8_lot_13 rfl rfl ?_
    refine po_iconst (v := 0) hF dX8_lot_14 (by decide) ?_
    refine po_iconst (v := 5) hF dX8_lot_15 (by decide) ?_
    obtain ⟨x8, hx8, hm⟩ := po_bind hm
    refine po_callS (As := [.int l2, .int 0, .int 5]) hF dX8_lot_16 wq_1282 mv_X8_isIn (c_X8_isIn HL hx8) rfl (po_rtL hL rfl) (Nat.le_of_ble_eq_true rfl) rfl ?_
    refine po_if_ne (tgt := 26) hF dX8_lot_19 (by decide) hm (fun hm => ?_) (fun hm => ?_)
    · refine po_iconst (v := 0) hF dX8_lot_26 (by decide) ?_
      exact w_X8_lot_27 hF hL HL I l0 l1 l2 l0 0 kl0 kl0 hm
    · refine po_iconst (v := 2) hF dX8_lot_22 (by decide) ?_
      refine po_goto (tgt := 27) hF dX8_lot_23 (by decide) ?_
      exact w_X8_lot_27 hF hL HL I l0 l1 l2 l0 2 kl0 kl0 hm
  · refine po_iconst (v := 1) hF dX8_lot_9 (by decide) ?_
    refine po_goto (tgt := 27) hF dX8_lot_10 (by decide) ?_
    exact w_X8_lot_27 hF hL HL I l0 l1 l2 l0 1 kl0 kl0 hm
theorem c_X8_lot {K : po_K} {R : po_R} {I : po_I} {st : Nat → Nat} {ρ : Int32 × po_I} (HL : po_Lay K R st) {l0 : Nat} {l1 : Int32} {l2 : Int32} (kl0 : K l0 = (19, 19)) (hm : m_X8_lot I l0 l1 l2 = some ρ) : po_C st yX8_lot cX8_lot 3 (some .int) 6 0 0 [.ref l0, .int l1, .int l2] K R I none (.inl (some (.int ρ.1))) K R (ρ.2) none := by
  refine po_ofC (by decide +kernel) (Nat.le_of_ble_eq_true rfl) (fun X G hF hL => ?_)
  exact w_X8_lot_e hF hL HL I l0 l1 l2 kl0 hm
set_option maxRecDepth 20000 in
set_option maxHeartbeats 2000000 in
theorem w_X8_call_e {X : po_X} {G : po_G} {st : Nat → Nat} {K : po_K} {R : po_R} {ρ : po_I} (hF : po_F X G cX8_call RX8 1 st) (hL : po_L X none 1 0 0 "call") (HL : po_Lay K R st) (I : po_I) (l0 : Nat) (kl0 : K l0 = (19, 19)) (hm : m_X8_call_e I l0 = some ρ) : po_V X G 1 (po_Q X G (.inl (none)) K R (ρ) none 0 0) 0 0 0 [(0, .ref l0)] [] K R I none := by
  unfold m_X8_call_e at hm
  refine po_aload_n hF dX8_call_0 rfl rfl ?_
  refine po_getf (v := .ref (l0 + 1)) hF dX8_call_1 fl_X8_13 kl0 (ly_8_1 HL kl0).1 ?_
  refine po_aload_n hF dX8_call_4 rfl rfl ?_
  refine po_getf (v := .ref (l0 + 3)) hF dX8_call_5 fl_X8_20 kl0 (ly_8_4 HL kl0).1 ?_
  obtain ⟨x1, hx1, hm⟩ := po_bind hm
  refine po_callS (As := [.ref (l0 + 1), .ref (l0 + 3)]) hF dX8_call_8 wq_1293 mv_X8_copy (c_X8_copy HL ((ly_8_1 HL kl0).2) ((ly_8_4 HL kl0).2) hx1) rfl (po_rtL hL rfl) (Nat.le_of_ble_eq_true rfl) rfl ?_
  refine po_aload_n hF dX8_call_11 rfl rfl ?_
  obtain ⟨x2, hx2, hm⟩ := po_bind hm
  refine po_callV (As := []) hF dX8_call_12 wq_1414 mv_X8_remember ws_X8_remember (show po_cl[8]? = some _ from rfl) rfl kl0 (c_X8_remember HL kl0 hx2) rfl (po_rtL hL rfl) (Nat.le_of_ble_eq_true rfl) rfl ?_
  cases hm
  exact po_vret hF hL dX8_call_15 (by decide) (by decide) rfl rfl rfl (Or.inl rfl)
theorem c_X8_call {K : po_K} {R : po_R} {I : po_I} {st : Nat → Nat} {ρ : po_I} (HL : po_Lay K R st) {l0 : Nat} (kl0 : K l0 = (19, 19)) (hm : m_X8_call I l0 = some ρ) : po_C st yX8_call cX8_call 1 none 1 0 0 [.ref l0] K R I none (.inl (none)) K R (ρ) none := by
  refine po_ofC (by decide +kernel) (Nat.le_of_ble_eq_true rfl) (fun X G hF hL => ?_)
  exact w_X8_call_e hF hL HL I l0 kl0 hm
set_option maxRecDepth 20000 in
set_option maxHeartbeats 2000000 in
theorem w_X8_rezone_27 {X : po_X} {G : po_G} {st : Nat → Nat} {K : po_K} {R : po_R} {ρ : Int32 × po_I} (hF : po_F X G cX8_rezone RX8 4 st) (hL : po_L X (some .int) 2 0 0 "rezone") (HL : po_Lay K R st) (I : po_I) (l0 : Nat) (l1 : Int32) (l2 : Int32) (s0 : Nat) (s1 : Int32) (kl0 : K l0 = (19, 19)) (ks0 : K s0 = (19, 19)) (hm : m_X8_rezone_27 I l0 l1 l2 s0 s1 = some ρ) : po_V X G 4 (po_Q X G (.inl (some (.int ρ.1))) K R (ρ.2) none 0 0) 0 0 27 [(0, .ref l0), (1, .int l1), (2, .int l2)] [.int s1, .ref s0] K R I none := by
  unfold m_X8_rezone_27 at hm
  refine po_puti hF dX8_rezone_27 fl_X8_1 ks0 (by intro r h; cases h; rfl) rfl rfl (fun _ => rfl) rfl ?_
  refine po_hname hm (fun I1 hm => ?_)
  refine po_aload_n hF dX8_rezone_30 rfl rfl ?_
  refine po_getf (v := .int (I1 l0 0)) hF dX8_rezone_31 fl_X8_1 kl0 rfl ?_
  refine po_if_eq (tgt := 39) hF dX8_rezone_34 (by decide) hm (fun hm => ?_) (fun hm => ?_)
  · refine po_aload_n hF dX8_rezone_39 rfl rfl ?_
    obtain ⟨x2, hx2, hm⟩ := po_bind hm
    refine po_callV (As := []) hF dX8_rezone_40 wq_1476 mv_X8_call ws_X8_call (show po_cl[8]? = some _ from rfl) rfl kl0 (c_X8_call HL kl0 hx2) rfl (po_rtL hL rfl) (Nat.le_of_ble_eq_true rfl) rfl ?_
    refine po_aload_n hF dX8_rezone_43 rfl rfl ?_
    refine po_iload_n hF dX8_rezone_44 rfl rfl ?_
    refine po_iconst (v := 0) hF dX8_rezone_45 (by decide) ?_
    obtain ⟨x3, hx3, hm⟩ := po_bind hm
    refine po_callV (As := [.int l1, .int 0]) hF dX8_rezone_46 wq_1434 mv_X8_lotPart ws_X8_lotPart (show po_cl[8]? = some _ from rfl) rfl kl0 (c_X8_lotPart HL kl0 hx3) rfl (po_rtL hL rfl) (Nat.le_of_ble_eq_true rfl) rfl ?_
    refine po_istore_n (L' := [(3, .int x3), (0, .ref l0), (1, .int l1), (2, .int l2)]) hF dX8_rezone_49 rfl (by decide) rfl ?_
    refine po_aload_n hF dX8_rezone_50 rfl rfl ?_
    refine po_getf (v := .ref (l0 + 1)) hF dX8_rezone_51 fl_X8_13 kl0 (ly_8_1 HL kl0).1 ?_
    refine po_bipush (v := 32) hF dX8_rezone_54 (by decide) ?_
    refine po_bipush (v := 16) hF dX8_rezone_56 (by decide) ?_
    refine po_iload_n hF dX8_rezone_58 rfl rfl ?_
    refine po_imul hF dX8_rezone_59 ?_
    refine po_iadd hF dX8_rezone_60 ?_
    refine po_iload_n hF dX8_rezone_61 rfl rfl ?_
    refine po_iast hF dX8_rezone_62 ((ly_8_1 HL kl0).2) hm rfl (fun hm => ?_)
    refine po_hname hm (fun I4 hm => ?_)
    refine po_iload_n hF dX8_rezone_63 rfl rfl ?_
    cases hm
    exact po_iret hF hL dX8_rezone_64 (by decide) (by decide) rfl rfl rfl (Or.inl rfl)
  · refine po_iconst (v := 0) hF dX8_rezone_37 (by decide) ?_
    cases hm
    exact po_iret hF hL dX8_rezone_38 (by decide) (by decide) rfl rfl rfl (Or.inl rfl)
set_option maxRecDepth 20000 in
set_option maxHeartbeats 2000000 in
theorem w_X8_rezone_e {X : po_X} {G : po_G} {st : Nat → Nat} {K : po_K} {R : po_R} {ρ : Int32 × po_I} (hF : po_F X G cX8_rezone RX8 4 st) (hL : po_L X (some .int) 2 0 0 "rezone") (HL : po_Lay K R st) (I : po_I) (l0 : Nat) (l1 : Int32) (l2 : Int32) (kl0 : K l0 = (19, 19)) (hm : m_X8_rezone_e I l0 l1 l2 = some ρ) : po_V X G 4 (po_Q X G (.inl (some (.int ρ.1))) K R (ρ.2) none 0 0) 0 0 0 [(0, .ref l0), (1, .int l1), (2, .int l2)] [] K R I none := by
  unfold m_X8_rezone_e at hm
  refine po_aload_n hF dX8_rezone_0 rfl rfl ?_
  refine po_aload_n hF dX8_rezone_1 rfl rfl ?_
  refine po_iload_n hF dX8_rezone_2 rfl rfl ?_
  obtain ⟨x5, hx5, hm⟩ := po_bind hm
  refine po_callV (As := [.int l1]) hF dX8_rezone_3 wq_1430 mv_X8_isLot ws_X8_isLot (show po_cl[8]? = some _ from rfl) rfl kl0 (c_X8_isLot HL kl0 hx5) rfl (po_rtL hL rfl) (Nat.le_of_ble_eq_true rfl) rfl ?_
  refine po_if_ne (tgt := 13) hF dX8_rezone_6 (by decide) hm (fun hm => ?_) (fun hm => ?_)
  · refine po_iload_n hF dX8_rezone_13 rfl rfl ?_
    refine po_iconst (v := 0) hF dX8_rezone_14 (by decide) ?_
    refine po_iconst (v := 3) hF dX8_rezone_15 (by decide) ?_
    obtain ⟨x6, hx6, hm⟩ := po_bind hm
    refine po_callS (As := [.int l2, .int 0, .int 3]) hF dX8_rezone_16 wq_1282 mv_X8_isIn (c_X8_isIn HL hx6) rfl (po_rtL hL rfl) (Nat.le_of_ble_eq_true rfl) rfl ?_
    refine po_if_ne (tgt := 26) hF dX8_rezone_19 (by decide) hm (fun hm => ?_) (fun hm => ?_)
    · refine po_iconst (v := 0) hF dX8_rezone_26 (by decide) ?_
      exact w_X8_rezone_27 hF hL HL I l0 l1 l2 l0 0 kl0 kl0 hm
    · refine po_iconst (v := 2) hF dX8_rezone_22 (by decide) ?_
      refine po_goto (tgt := 27) hF dX8_rezone_23 (by decide) ?_
      exact w_X8_rezone_27 hF hL HL I l0 l1 l2 l0 2 kl0 kl0 hm
  · refine po_iconst (v := 1) hF dX8_rezone_9 (by decide) ?_
    refine po_goto (tgt := 27) hF dX8_rezone_10 (by decide) ?_
    exact w_X8_rezone_27 hF hL HL I l0 l1 l2 l0 1 kl0 kl0 hm
theorem c_X8_rezone {K : po_K} {R : po_R} {I : po_I} {st : Nat → Nat} {ρ : Int32 × po_I} (HL : po_Lay K R st) {l0 : Nat} {l1 : Int32} {l2 : Int32} (kl0 : K l0 = (19, 19)) (hm : m_X8_rezone I l0 l1 l2 = some ρ) : po_C st yX8_rezone cX8_rezone 4 (some .int) 2 0 0 [.ref l0, .int l1, .int l2] K R I none (.inl (some (.int ρ.1))) K R (ρ.2) none := by
  refine po_ofC (by decide +kernel) (Nat.le_of_ble_eq_true rfl) (fun X G hF hL => ?_)
  exact w_X8_rezone_e hF hL HL I l0 l1 l2 kl0 hm
