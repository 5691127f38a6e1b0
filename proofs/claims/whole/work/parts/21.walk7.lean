set_option maxRecDepth 20000 in
set_option maxHeartbeats 2000000 in
theorem w_X3_readVariance_116 {X : po_X} {G : po_G} {st : Nat → Nat} {K : po_K} {R : po_R} {ρ : Int32 × po_I} (hF : po_F X G cX3_readVariance RX3 4 st) (hL : po_L X (some .boolean) 3 0 0 "readVariance") (HL : po_Lay K R st) (I : po_I) (hm : m_X3_readVariance_116 I = some ρ) : po_V X G 4 (po_Q X G (.inl (some (.int ρ.1))) K R (ρ.2) none 0 0) 0 0 116 [] [] K R I none := by
  unfold m_X3_readVariance_116 at hm
  refine po_iconst (v := 0) hF dX3_readVariance_116 (by decide) ?_
  cases hm
  exact po_zret hF hL dX3_readVariance_117 (by decide) (by decide) (by decide) rfl rfl rfl (Or.inl rfl)
set_option maxRecDepth 20000 in
set_option maxHeartbeats 2000000 in
theorem w_X3_readVariance_e {X : po_X} {G : po_G} {st : Nat → Nat} {K : po_K} {R : po_R} {ρ : Int32 × po_I} (hF : po_F X G cX3_readVariance RX3 4 st) (hL : po_L X (some .boolean) 3 0 0 "readVariance") (HL : po_Lay K R st) (I : po_I) (l0 : Nat) (l1 : Nat) (kl0 : K l0 = (14, 4)) (kl1 : K l1 = (16, 8)) (hm : m_X3_readVariance_e I l0 l1 = some ρ) : po_V X G 4 (po_Q X G (.inl (some (.int ρ.1))) K R (ρ.2) none 0 0) 0 0 0 [(0, .ref l0), (1, .ref l1)] [] K R I none := by
  unfold m_X3_readVariance_e at hm
  refine po_aload_n hF dX3_readVariance_0 rfl rfl ?_
  refine po_getf (v := .int (I l1 7)) hF dX3_readVariance_1 fl_X3_133 kl1 rfl ?_
  refine po_bipush (v := 12) hF dX3_readVariance_4 (by decide) ?_
  refine po_icmp_lt (tgt := 18) hF dX3_readVariance_6 (by decide) hm (fun hm => ?_) (fun hm => ?_)
  · refine po_aload_n hF dX3_readVariance_18 rfl rfl ?_
    refine po_dup hF dX3_readVariance_19 rfl ?_
    refine po_getf (v := .int (I l0 2)) hF dX3_readVariance_20 fl_X3_19 kl0 rfl ?_
    refine po_iconst (v := 1) hF dX3_readVariance_23 (by decide) ?_
    refine po_iadd hF dX3_readVariance_24 ?_
    refine po_puti hF dX3_readVariance_25 fl_X3_19 kl0 (by intro r h; cases h; rfl) rfl rfl (fun _ => rfl) rfl ?_
    refine po_hname hm (fun I1 hm => ?_)
    refine po_aload_n hF dX3_readVariance_28 rfl rfl ?_
    refine po_getf (v := .ref (l1 + 4)) hF dX3_readVariance_29 fl_X3_136 kl1 (ly_5_6 HL kl1).1 ?_
    refine po_aload_n hF dX3_readVariance_32 rfl rfl ?_
    refine po_getf (v := .int (I1 l1 7)) hF dX3_readVariance_33 fl_X3_133 kl1 rfl ?_
    refine po_aald hF dX3_readVariance_36 ((ly_5_6 HL kl1).2) (Or.inr (Or.inr (Or.inl rfl))) hm (fun hi2 => (le_5_6 HL kl1 (po_in_lt hi2)).1) (fun hi2 hm => ?_)
    refine po_astore_n (L' := [(2, .ref (l1 + (79 + (Int32.toNatClampNeg (I1 l1 7))))), (0, .ref l0), (1, .ref l1)]) hF dX3_readVariance_37 rfl (by decide) rfl ?_
    refine po_aload_n hF dX3_readVariance_38 rfl rfl ?_
    refine po_aload_n hF dX3_readVariance_39 rfl rfl ?_
    refine po_bipush (v := 48) hF dX3_readVariance_40 (by decide) ?_
    refine po_iconst (v := 0) hF dX3_readVariance_42 (by decide) ?_
    refine po_aload_n hF dX3_readVariance_43 rfl rfl ?_
    refine po_getf (v := .int (I1 l1 3)) hF dX3_readVariance_44 fl_X3_52 kl1 rfl ?_
    refine po_iconst (v := 1) hF dX3_readVariance_47 (by decide) ?_
    refine po_isub hF dX3_readVariance_48 ?_
    obtain ⟨x3, hx3, hm⟩ := po_bind hm
    refine po_callV (As := [.int 48, .int 0, .int ((I1 l1 3) - 1)]) hF dX3_readVariance_49 wq_572 mv_X3_readValue ws_X3_readValue (show po_cl[3]? = some _ from rfl) rfl kl0 (c_X3_readValue HL kl0 hx3) rfl (po_rtL hL rfl) (Nat.le_of_ble_eq_true rfl) rfl ?_
    refine po_puti hF dX3_readVariance_52 fl_X3_140 ((le_5_6 HL kl1 (po_in_lt hi2)).2) (by intro r h; cases h; rfl) rfl rfl (fun _ => rfl) rfl ?_
    refine po_hname hm (fun I4 hm => ?_)
    refine po_aload_n hF dX3_readVariance_55 rfl rfl ?_
    refine po_getf (v := .int (I4 (l1 + (79 + (Int32.toNatClampNeg (I1 l1 7)))) 0)) hF dX3_readVariance_56 fl_X3_140 ((le_5_6 HL kl1 (po_in_lt hi2)).2) rfl ?_
    refine po_iconst (v := (-1)) hF dX3_readVariance_59 (by decide) ?_
    refine po_icmp_ne (tgt := 65) hF dX3_readVariance_60 (by decide) hm (fun hm => ?_) (fun hm => ?_)
    · refine po_aload_n hF dX3_readVariance_65 rfl rfl ?_
      refine po_aload_n hF dX3_readVariance_66 rfl rfl ?_
      refine po_bipush (v := 48) hF dX3_readVariance_67 (by decide) ?_
      refine po_iconst (v := 2) hF dX3_readVariance_69 (by decide) ?_
      refine po_bipush (v := 8) hF dX3_readVariance_70 (by decide) ?_
      obtain ⟨x5, hx5, hm⟩ := po_bind hm
      refine po_callV (As := [.int 48, .int 2, .int 8]) hF dX3_readVariance_72 wq_572 mv_X3_readValue ws_X3_readValue (show po_cl[3]? = some _ from rfl) rfl kl0 (c_X3_readValue HL kl0 hx5) rfl (po_rtL hL rfl) (Nat.le_of_ble_eq_true rfl) rfl ?_
      refine po_puti hF dX3_readVariance_75 fl_X3_143 ((le_5_6 HL kl1 (po_in_lt hi2)).2) (by intro r h; cases h; rfl) rfl rfl (fun _ => rfl) rfl ?_
      refine po_hname hm (fun I6 hm => ?_)
      refine po_aload_n hF dX3_readVariance_78 rfl rfl ?_
      refine po_getf (v := .int (I6 (l1 + (79 + (Int32.toNatClampNeg (I1 l1 7)))) 1)) hF dX3_readVariance_79 fl_X3_143 ((le_5_6 HL kl1 (po_in_lt hi2)).2) rfl ?_
      refine po_iconst (v := (-1)) hF dX3_readVariance_82 (by decide) ?_
      refine po_icmp_ne (tgt := 88) hF dX3_readVariance_83 (by decide) hm (fun hm => ?_) (fun hm => ?_)
      · refine po_aload_n hF dX3_readVariance_88 rfl rfl ?_
        refine po_aload_n hF dX3_readVariance_89 rfl rfl ?_
        refine po_iconst (v := 1) hF dX3_readVariance_90 (by decide) ?_
        refine po_bipush (v := 99) hF dX3_readVariance_91 (by decide) ?_
        obtain ⟨x7, hx7, hm⟩ := po_bind hm
        refine po_callV (As := [.int 1, .int 99]) hF dX3_readVariance_93 wq_640 mv_X3_readNumber ws_X3_readNumber (show po_cl[3]? = some _ from rfl) rfl kl0 (c_X3_readNumber HL kl0 hx7) rfl (po_rtL hL rfl) (Nat.le_of_ble_eq_true rfl) rfl ?_
        refine po_puti hF dX3_readVariance_96 fl_X3_150 ((le_5_6 HL kl1 (po_in_lt hi2)).2) (by intro r h; cases h; rfl) rfl rfl (fun _ => rfl) rfl ?_
        refine po_hname hm (fun I8 hm => ?_)
        refine po_aload_n hF dX3_readVariance_99 rfl rfl ?_
        refine po_getf (v := .int (I8 (l1 + (79 + (Int32.toNatClampNeg (I1 l1 7)))) 2)) hF dX3_readVariance_100 fl_X3_150 ((le_5_6 HL kl1 (po_in_lt hi2)).2) rfl ?_
        refine po_iconst (v := (-1)) hF dX3_readVariance_103 (by decide) ?_
        refine po_icmp_eq (tgt := 116) hF dX3_readVariance_104 (by decide) hm (fun hm => ?_) (fun hm => ?_)
        · refine po_sub (L' := []) rfl ?_
          exact w_X3_readVariance_116 hF hL HL I8 hm
        · refine po_aload_n hF dX3_readVariance_107 rfl rfl ?_
          refine po_bipush (v := 44) hF dX3_readVariance_108 (by decide) ?_
          obtain ⟨x9, hx9, hm⟩ := po_bind hm
          refine po_callV (As := [.int 44]) hF dX3_readVariance_110 wq_615 mv_X3_readSign ws_X3_readSign (show po_cl[3]? = some _ from rfl) rfl kl0 (c_X3_readSign HL kl0 hx9) rfl (po_rtL hL rfl) (Nat.le_of_ble_eq_true rfl) rfl ?_
          refine po_if_ne (tgt := 118) hF dX3_readVariance_113 (by decide) hm (fun hm => ?_) (fun hm => ?_)
          · refine po_aload_n hF dX3_readVariance_118 rfl rfl ?_
            refine po_iconst (v := 0) hF dX3_readVariance_119 (by decide) ?_
            refine po_bipush (v := 99) hF dX3_readVariance_120 (by decide) ?_
            obtain ⟨x10, hx10, hm⟩ := po_bind hm
            refine po_callV (As := [.int 0, .int 99]) hF dX3_readVariance_122 wq_640 mv_X3_readNumber ws_X3_readNumber (show po_cl[3]? = some _ from rfl) rfl kl0 (c_X3_readNumber HL kl0 hx10) rfl (po_rtL hL rfl) (Nat.le_of_ble_eq_true rfl) rfl ?_
            refine po_top hm (fun v11 hm => ?_)
            refine po_istore_n (L' := [(3, .int v11), (2, .ref (l1 + (79 + (Int32.toNatClampNeg (I1 l1 7))))), (0, .ref l0), (1, .ref l1)]) hF dX3_readVariance_125 rfl (by decide) rfl ?_
            refine po_iload_n hF dX3_readVariance_126 rfl rfl ?_
            refine po_iconst (v := (-1)) hF dX3_readVariance_127 (by decide) ?_
            refine po_icmp_ne (tgt := 133) hF dX3_readVariance_128 (by decide) hm (fun hm => ?_) (fun hm => ?_)
            · refine po_aload_n hF dX3_readVariance_133 rfl rfl ?_
              refine po_aload_n hF dX3_readVariance_134 rfl rfl ?_
              refine po_getf (v := .int ((x10.2) l1 0)) hF dX3_readVariance_135 fl_X3_153 kl1 rfl ?_
              refine po_iload_n hF dX3_readVariance_138 rfl rfl ?_
              refine po_iadd hF dX3_readVariance_139 ?_
              refine po_puti hF dX3_readVariance_140 fl_X3_156 ((le_5_6 HL kl1 (po_in_lt hi2)).2) (by intro r h; cases h; rfl) rfl rfl (fun _ => rfl) rfl ?_
              refine po_hname hm (fun I12 hm => ?_)
              refine po_aload_n hF dX3_readVariance_143 rfl rfl ?_
              refine po_dup hF dX3_readVariance_144 rfl ?_
              refine po_getf (v := .int (I12 l1 7)) hF dX3_readVariance_145 fl_X3_133 kl1 rfl ?_
              refine po_iconst (v := 1) hF dX3_readVariance_148 (by decide) ?_
              refine po_iadd hF dX3_readVariance_149 ?_
              refine po_puti hF dX3_readVariance_150 fl_X3_133 kl1 (by intro r h; cases h; rfl) rfl rfl (fun _ => rfl) rfl ?_
              refine po_hname hm (fun I13 hm => ?_)
              refine po_aload_n hF dX3_readVariance_153 rfl rfl ?_
              refine po_bipush (v := 59) hF dX3_readVariance_154 (by decide) ?_
              obtain ⟨x14, hx14, hm⟩ := po_bind hm
              refine po_callV (As := [.int 59]) hF dX3_readVariance_156 wq_615 mv_X3_readSign ws_X3_readSign (show po_cl[3]? = some _ from rfl) rfl kl0 (c_X3_readSign HL kl0 hx14) rfl (po_rtL hL rfl) (Nat.le_of_ble_eq_true rfl) rfl ?_
              obtain ⟨hz, hm⟩ := po_zif hm
              cases hm
              exact po_zret hF hL dX3_readVariance_159 (po_nz hz) (by decide) (by decide) rfl rfl rfl (Or.inl rfl)
            · refine po_iconst (v := 0) hF dX3_readVariance_131 (by decide) ?_
              cases hm
              exact po_zret hF hL dX3_readVariance_132 (by decide) (by decide) (by decide) rfl rfl rfl (Or.inl rfl)
          · refine po_sub (L' := []) rfl ?_
            exact w_X3_readVariance_116 hF hL HL (x9.2) hm
      · refine po_iconst (v := 0) hF dX3_readVariance_86 (by decide) ?_
        cases hm
        exact po_zret hF hL dX3_readVariance_87 (by decide) (by decide) (by decide) rfl rfl rfl (Or.inl rfl)
    · refine po_iconst (v := 0) hF dX3_readVariance_63 (by decide) ?_
      cases hm
      exact po_zret hF hL dX3_readVariance_64 (by decide) (by decide) (by decide) rfl rfl rfl (Or.inl rfl)
  · refine po_aload_n hF dX3_readVariance_9 rfl rfl ?_
    refine po_aload_n hF dX3_readVariance_10 rfl rfl ?_
    refine po_getf (v := .int (I l0 2)) hF dX3_readVariance_11 fl_X3_19 kl0 rfl ?_
    obtain ⟨x15, hx15, hm⟩ := po_bind hm
    refine po_callV (As := [.int (I l0 2)]) hF dX3_readVariance_14 wq_568 mv_X3_failAt ws_X3_failAt (show po_cl[3]? = some _ from rfl) rfl kl0 (c_X3_failAt HL kl0 hx15) rfl (po_rtL hL rfl) (Nat.le_of_ble_eq_true rfl) rfl ?_
    obtain ⟨hz, hm⟩ := po_zif hm
    cases hm
    exact po_zret hF hL dX3_readVariance_17 (po_nz hz) (by decide) (by decide) rfl rfl rfl (Or.inl rfl)
theorem c_X3_readVariance {K : po_K} {R : po_R} {I : po_I} {st : Nat → Nat} {ρ : Int32 × po_I} (HL : po_Lay K R st) {l0 : Nat} {l1 : Nat} (kl0 : K l0 = (14, 4)) (kl1 : K l1 = (16, 8)) (hm : m_X3_readVariance I l0 l1 = some ρ) : po_C st yX3_readVariance cX3_readVariance 4 (some .boolean) 3 0 0 [.ref l0, .ref l1] K R I none (.inl (some (.int ρ.1))) K R (ρ.2) none := by
  refine po_ofC (by decide +kernel) (Nat.le_of_ble_eq_true rfl) (fun X G hF hL => ?_)
  exact w_X3_readVariance_e hF hL HL I l0 l1 kl0 kl1 hm
set_option maxRecDepth 20000 in
set_option maxHeartbeats 2000000 in
theorem w_X2_addCondition_54 {X : po_X} {G : po_G} {st : Nat → Nat} {K : po_K} {R : po_R} {ρ : po_I} (hF : po_F X G cX2_addCondition RX2 3 st) (hL : po_L X none 0 0 0 "addCondition") (HL : po_Lay K R st) (I : po_I) (hm : m_X2_addCondition_54 I = some ρ) : po_V X G 3 (po_Q X G (.inl (none)) K R (ρ) none 0 0) 0 0 54 [] [] K R I none := by
  unfold m_X2_addCondition_54 at hm
  cases hm
  exact po_vret hF hL dX2_addCondition_54 (by decide) (by decide) rfl rfl rfl (Or.inl rfl)
set_option maxRecDepth 20000 in
set_option maxHeartbeats 2000000 in
theorem w_X2_addCondition_e {X : po_X} {G : po_G} {st : Nat → Nat} {K : po_K} {R : po_R} {ρ : po_I} (hF : po_F X G cX2_addCondition RX2 3 st) (hL : po_L X none 0 0 0 "addCondition") (HL : po_Lay K R st) (I : po_I) (l0 : Nat) (l1 : Int32) (l2 : Int32) (kl0 : K l0 = (13, 19)) (hm : m_X2_addCondition_e I l0 l1 l2 = some ρ) : po_V X G 3 (po_Q X G (.inl (none)) K R (ρ) none 0 0) 0 0 0 [(0, .ref l0), (1, .int l1), (2, .int l2)] [] K R I none := by
  unfold m_X2_addCondition_e at hm
  refine po_aload_n hF dX2_addCondition_0 rfl rfl ?_
  refine po_getf (v := .int (I l0 15)) hF dX2_addCondition_1 fl_X2_72 kl0 rfl ?_
  refine po_bipush (v := 6) hF dX2_addCondition_4 (by decide) ?_
  refine po_icmp_ge (tgt := 54) hF dX2_addCondition_6 (by decide) hm (fun hm => ?_) (fun hm => ?_)
  · refine po_sub (L' := []) rfl ?_
    exact w_X2_addCondition_54 hF hL HL I hm
  · refine po_aload_n hF dX2_addCondition_9 rfl rfl ?_
    refine po_getf (v := .ref (l0 + 3)) hF dX2_addCondition_10 fl_X2_18 kl0 (ly_2_17 HL kl0).1 ?_
    refine po_aload_n hF dX2_addCondition_13 rfl rfl ?_
    refine po_getf (v := .int (I l0 15)) hF dX2_addCondition_14 fl_X2_72 kl0 rfl ?_
    refine po_iload_n hF dX2_addCondition_17 rfl rfl ?_
    refine po_iast hF dX2_addCondition_18 ((ly_2_17 HL kl0).2) hm rfl (fun hm => ?_)
    refine po_hname hm (fun I1 hm => ?_)
    refine po_aload_n hF dX2_addCondition_19 rfl rfl ?_
    refine po_getf (v := .ref (l0 + 4)) hF dX2_addCondition_20 fl_X2_22 kl0 (ly_2_18 HL kl0).1 ?_
    refine po_aload_n hF dX2_addCondition_23 rfl rfl ?_
    refine po_getf (v := .int (I1 l0 15)) hF dX2_addCondition_24 fl_X2_72 kl0 rfl ?_
    refine po_iload_n hF dX2_addCondition_27 rfl rfl ?_
    refine po_iast hF dX2_addCondition_28 ((ly_2_18 HL kl0).2) hm rfl (fun hm => ?_)
    refine po_hname hm (fun I2 hm => ?_)
    refine po_aload_n hF dX2_addCondition_29 rfl rfl ?_
    refine po_dup hF dX2_addCondition_30 rfl ?_
    refine po_getf (v := .int (I2 l0 16)) hF dX2_addCondition_31 fl_X2_75 kl0 rfl ?_
    refine po_iconst (v := 1) hF dX2_addCondition_34 (by decide) ?_
    refine po_aload_n hF dX2_addCondition_35 rfl rfl ?_
    refine po_getf (v := .int (I2 l0 15)) hF dX2_addCondition_36 fl_X2_72 kl0 rfl ?_
    refine po_ishl hF dX2_addCondition_39 ?_
    refine po_ior hF dX2_addCondition_40 ?_
    refine po_puti hF dX2_addCondition_41 fl_X2_75 kl0 (by intro r h; cases h; rfl) rfl rfl (fun _ => rfl) rfl ?_
    refine po_hname hm (fun I3 hm => ?_)
    refine po_aload_n hF dX2_addCondition_44 rfl rfl ?_
    refine po_dup hF dX2_addCondition_45 rfl ?_
    refine po_getf (v := .int (I3 l0 15)) hF dX2_addCondition_46 fl_X2_72 kl0 rfl ?_
    refine po_iconst (v := 1) hF dX2_addCondition_49 (by decide) ?_
    refine po_iadd hF dX2_addCondition_50 ?_
    refine po_puti hF dX2_addCondition_51 fl_X2_72 kl0 (by intro r h; cases h; rfl) rfl rfl (fun _ => rfl) rfl ?_
    refine po_hname hm (fun I4 hm => ?_)
    refine po_sub (L' := []) rfl ?_
    exact w_X2_addCondition_54 hF hL HL I4 hm
theorem c_X2_addCondition {K : po_K} {R : po_R} {I : po_I} {st : Nat → Nat} {ρ : po_I} (HL : po_Lay K R st) {l0 : Nat} {l1 : Int32} {l2 : Int32} (kl0 : K l0 = (13, 19)) (hm : m_X2_addCondition I l0 l1 l2 = some ρ) : po_C st yX2_addCondition cX2_addCondition 3 none 0 0 0 [.ref l0, .int l1, .int l2] K R I none (.inl (none)) K R (ρ) none := by
  refine po_ofC (by decide +kernel) (Nat.le_of_ble_eq_true rfl) (fun X G hF hL => ?_)
  exact w_X2_addCondition_e hF hL HL I l0 l1 l2 kl0 hm
set_option maxRecDepth 20000 in
set_option maxHeartbeats 2000000 in
theorem w_X3_readCondition_85 {X : po_X} {G : po_G} {st : Nat → Nat} {K : po_K} {R : po_R} {ρ : Int32 × po_I} (hF : po_F X G cX3_readCondition RX3 6 st) (hL : po_L X (some .boolean) 2 0 0 "readCondition") (HL : po_Lay K R st) (I : po_I) (l0 : Nat) (kl0 : K l0 = (14, 4)) (hm : m_X3_readCondition_85 I l0 = some ρ) : po_V X G 6 (po_Q X G (.inl (some (.int ρ.1))) K R (ρ.2) none 0 0) 0 0 85 [(0, .ref l0)] [] K R I none := by
  unfold m_X3_readCondition_85 at hm
  refine po_aload_n hF dX3_readCondition_85 rfl rfl ?_
  refine po_aload_n hF dX3_readCondition_86 rfl rfl ?_
  refine po_getf (v := .int (I l0 2)) hF dX3_readCondition_87 fl_X3_19 kl0 rfl ?_
  obtain ⟨x1, hx1, hm⟩ := po_bind hm
  refine po_callV (As := [.int (I l0 2)]) hF dX3_readCondition_90 wq_568 mv_X3_failAt ws_X3_failAt (show po_cl[3]? = some _ from rfl) rfl kl0 (c_X3_failAt HL kl0 hx1) rfl (po_rtL hL rfl) (Nat.le_of_ble_eq_true rfl) rfl ?_
  obtain ⟨hz, hm⟩ := po_zif hm
  cases hm
  exact po_zret hF hL dX3_readCondition_93 (po_nz hz) (by decide) (by decide) rfl rfl rfl (Or.inl rfl)
set_option maxRecDepth 20000 in
set_option maxHeartbeats 2000000 in
theorem w_X3_readCondition_e {X : po_X} {G : po_G} {st : Nat → Nat} {K : po_K} {R : po_R} {ρ : Int32 × po_I} (hF : po_F X G cX3_readCondition RX3 6 st) (hL : po_L X (some .boolean) 2 0 0 "readCondition") (HL : po_Lay K R st) (I : po_I) (l0 : Nat) (l1 : Nat) (kl0 : K l0 = (14, 4)) (kl1 : K l1 = (16, 8)) (hm : m_X3_readCondition_e I l0 l1 = some ρ) : po_V X G 6 (po_Q X G (.inl (some (.int ρ.1))) K R (ρ.2) none 0 0) 0 0 0 [(0, .ref l0), (1, .ref l1)] [] K R I none := by
  unfold m_X3_readCondition_e at hm
  refine po_aload_n hF dX3_readCondition_0 rfl rfl ?_
  refine po_dup hF dX3_readCondition_1 rfl ?_
  refine po_getf (v := .int (I l0 2)) hF dX3_readCondition_2 fl_X3_19 kl0 rfl ?_
  refine po_iconst (v := 1) hF dX3_readCondition_5 (by decide) ?_
  refine po_iadd hF dX3_readCondition_6 ?_
  refine po_puti hF dX3_readCondition_7 fl_X3_19 kl0 (by intro r h; cases h; rfl) rfl rfl (fun _ => rfl) rfl ?_
  refine po_hname hm (fun I2 hm => ?_)
  refine po_aload_n hF dX3_readCondition_10 rfl rfl ?_
  refine po_bipush (v := 48) hF dX3_readCondition_11 (by decide) ?_
  refine po_iconst (v := 0) hF dX3_readCondition_13 (by decide) ?_
  refine po_aload_n hF dX3_readCondition_14 rfl rfl ?_
  refine po_getf (v := .int (I2 l1 5)) hF dX3_readCondition_15 fl_X3_99 kl1 rfl ?_
  refine po_iconst (v := 1) hF dX3_readCondition_18 (by decide) ?_
  refine po_isub hF dX3_readCondition_19 ?_
  obtain ⟨x3, hx3, hm⟩ := po_bind hm
  refine po_callV (As := [.int 48, .int 0, .int ((I2 l1 5) - 1)]) hF dX3_readCondition_20 wq_572 mv_X3_readValue ws_X3_readValue (show po_cl[3]? = some _ from rfl) rfl kl0 (c_X3_readValue HL kl0 hx3) rfl (po_rtL hL rfl) (Nat.le_of_ble_eq_true rfl) rfl ?_
  refine po_top hm (fun v4 hm => ?_)
  refine po_istore_n (L' := [(2, .int v4), (0, .ref l0), (1, .ref l1)]) hF dX3_readCondition_23 rfl (by decide) rfl ?_
  refine po_iload_n hF dX3_readCondition_24 rfl rfl ?_
  refine po_iconst (v := (-1)) hF dX3_readCondition_25 (by decide) ?_
  refine po_icmp_ne (tgt := 31) hF dX3_readCondition_26 (by decide) hm (fun hm => ?_) (fun hm => ?_)
  · refine po_aload_n hF dX3_readCondition_31 rfl rfl ?_
    refine po_bipush (v := 48) hF dX3_readCondition_32 (by decide) ?_
    refine po_iconst (v := 0) hF dX3_readCondition_34 (by decide) ?_
    refine po_iconst (v := 3) hF dX3_readCondition_35 (by decide) ?_
    obtain ⟨x5, hx5, hm⟩ := po_bind hm
    refine po_callV (As := [.int 48, .int 0, .int 3]) hF dX3_readCondition_36 wq_572 mv_X3_readValue ws_X3_readValue (show po_cl[3]? = some _ from rfl) rfl kl0 (c_X3_readValue HL kl0 hx5) rfl (po_rtL hL rfl) (Nat.le_of_ble_eq_true rfl) rfl ?_
    refine po_top hm (fun v6 hm => ?_)
    refine po_istore_n (L' := [(3, .int v6), (2, .int v4), (0, .ref l0), (1, .ref l1)]) hF dX3_readCondition_39 rfl (by decide) rfl ?_
    refine po_iload_n hF dX3_readCondition_40 rfl rfl ?_
    refine po_iconst (v := (-1)) hF dX3_readCondition_41 (by decide) ?_
    refine po_icmp_ne (tgt := 47) hF dX3_readCondition_42 (by decide) hm (fun hm => ?_) (fun hm => ?_)
    · refine po_aload_n hF dX3_readCondition_47 rfl rfl ?_
      refine po_getf (v := .ref (l1 + 3)) hF dX3_readCondition_48 fl_X3_102 kl1 (ly_5_4 HL kl1).1 ?_
      refine po_iload_n hF dX3_readCondition_51 rfl rfl ?_
      refine po_aald hF dX3_readCondition_52 ((ly_5_4 HL kl1).2) (Or.inr (Or.inl rfl)) hm (fun hi7 => (le_5_4 HL kl1 (po_in_lt hi7)).1) (fun hi7 hm => ?_)
      refine po_astore (L' := [(4, .ref (l1 + (29 + 5 * (Int32.toNatClampNeg v4)))), (3, .int v6), (2, .int v4), (0, .ref l0), (1, .ref l1)]) hF dX3_readCondition_53 (by decide) rfl ?_
      refine po_aload_n hF dX3_readCondition_55 rfl rfl ?_
      obtain ⟨x8, hx8, hm⟩ := po_bind hm
      refine po_callV (As := []) hF dX3_readCondition_56 wq_560 mv_X3_next ws_X3_next (show po_cl[3]? = some _ from rfl) rfl kl0 (c_X3_next HL kl0 hx8) rfl (po_rtL hL rfl) (Nat.le_of_ble_eq_true rfl) rfl ?_
      refine po_istore (L' := [(5, .int x8), (4, .ref (l1 + (29 + 5 * (Int32.toNatClampNeg v4)))), (3, .int v6), (2, .int v4), (0, .ref l0), (1, .ref l1)]) hF dX3_readCondition_59 (by decide) rfl ?_
      refine po_aload hF dX3_readCondition_61 rfl ?_
      refine po_getf (v := .int ((x5.2) (l1 + (29 + 5 * (Int32.toNatClampNeg v4))) 15)) hF dX3_readCondition_63 fl_X3_159 ((le_5_4 HL kl1 (po_in_lt hi7)).2) rfl ?_
      refine po_bipush (v := 6) hF dX3_readCondition_66 (by decide) ?_
      refine po_icmp_ge (tgt := 85) hF dX3_readCondition_68 (by decide) hm (fun hm => ?_) (fun hm => ?_)
      · refine po_sub (L' := [(0, .ref l0)]) rfl ?_
        exact w_X3_readCondition_85 hF hL HL (x5.2) l0 kl0 hm
      · refine po_iload hF dX3_readCondition_71 rfl ?_
        refine po_bipush (v := 97) hF dX3_readCondition_73 (by decide) ?_
        refine po_icmp_lt (tgt := 85) hF dX3_readCondition_75 (by decide) hm (fun hm => ?_) (fun hm => ?_)
        · refine po_sub (L' := [(0, .ref l0)]) rfl ?_
          exact w_X3_readCondition_85 hF hL HL (x5.2) l0 kl0 hm
        · refine po_iload hF dX3_readCondition_78 rfl ?_
          refine po_bipush (v := 122) hF dX3_readCondition_80 (by decide) ?_
          refine po_icmp_le (tgt := 94) hF dX3_readCondition_82 (by decide) hm (fun hm => ?_) (fun hm => ?_)
          · refine po_aload_n hF dX3_readCondition_94 rfl rfl ?_
            refine po_dup hF dX3_readCondition_95 rfl ?_
            refine po_getf (v := .int ((x5.2) l0 2)) hF dX3_readCondition_96 fl_X3_19 kl0 rfl ?_
            refine po_iconst (v := 1) hF dX3_readCondition_99 (by decide) ?_
            refine po_iadd hF dX3_readCondition_100 ?_
            refine po_puti hF dX3_readCondition_101 fl_X3_19 kl0 (by intro r h; cases h; rfl) rfl rfl (fun _ => rfl) rfl ?_
            refine po_hname hm (fun I9 hm => ?_)
            refine po_aload hF dX3_readCondition_104 rfl ?_
            refine po_iload_n hF dX3_readCondition_106 rfl rfl ?_
            refine po_iload hF dX3_readCondition_107 rfl ?_
            obtain ⟨x10, hx10, hm⟩ := po_bind hm
            refine po_callV (As := [.int v6, .int x8]) hF dX3_readCondition_109 wq_648 mv_X2_addCondition ws_X2_addCondition (show po_cl[2]? = some _ from rfl) rfl ((le_5_4 HL kl1 (po_in_lt hi7)).2) (c_X2_addCondition HL ((le_5_4 HL kl1 (po_in_lt hi7)).2) hx10) rfl (po_rtL hL rfl) (Nat.le_of_ble_eq_true rfl) rfl ?_
            refine po_aload_n hF dX3_readCondition_112 rfl rfl ?_
            refine po_bipush (v := 59) hF dX3_readCondition_113 (by decide) ?_
            obtain ⟨x11, hx11, hm⟩ := po_bind hm
            refine po_callV (As := [.int 59]) hF dX3_readCondition_115 wq_615 mv_X3_readSign ws_X3_readSign (show po_cl[3]? = some _ from rfl) rfl kl0 (c_X3_readSign HL kl0 hx11) rfl (po_rtL hL rfl) (Nat.le_of_ble_eq_true rfl) rfl ?_
            obtain ⟨hz, hm⟩ := po_zif hm
            cases hm
            exact po_zret hF hL dX3_readCondition_118 (po_nz hz) (by decide) (by decide) rfl rfl rfl (Or.inl rfl)
          · refine po_sub (L' := [(0, .ref l0)]) rfl ?_
            exact w_X3_readCondition_85 hF hL HL (x5.2) l0 kl0 hm
    · refine po_iconst (v := 0) hF dX3_readCondition_45 (by decide) ?_
      cases hm
      exact po_zret hF hL dX3_readCondition_46 (by decide) (by decide) (by decide) rfl rfl rfl (Or.inl rfl)
  · refine po_iconst (v := 0) hF dX3_readCondition_29 (by decide) ?_
    cases hm
    exact po_zret hF hL dX3_readCondition_30 (by decide) (by decide) (by decide) rfl rfl rfl (Or.inl rfl)
theorem c_X3_readCondition {K : po_K} {R : po_R} {I : po_I} {st : Nat → Nat} {ρ : Int32 × po_I} (HL : po_Lay K R st) {l0 : Nat} {l1 : Nat} (kl0 : K l0 = (14, 4)) (kl1 : K l1 = (16, 8)) (hm : m_X3_readCondition I l0 l1 = some ρ) : po_C st yX3_readCondition cX3_readCondition 6 (some .boolean) 2 0 0 [.ref l0, .ref l1] K R I none (.inl (some (.int ρ.1))) K R (ρ.2) none := by
  refine po_ofC (by decide +kernel) (Nat.le_of_ble_eq_true rfl) (fun X G hF hL => ?_)
  exact w_X3_readCondition_e hF hL HL I l0 l1 kl0 kl1 hm
set_option maxRecDepth 20000 in
set_option maxHeartbeats 2000000 in
theorem w_X5_setRule_28 {X : po_X} {G : po_G} {st : Nat → Nat} {K : po_K} {R : po_R} {ρ : po_I} (hF : po_F X G cX5_setRule RX5 5 st) (hL : po_L X none 0 0 0 "setRule") (HL : po_Lay K R st) (I : po_I) (hm : m_X5_setRule_28 I = some ρ) : po_V X G 5 (po_Q X G (.inl (none)) K R (ρ) none 0 0) 0 0 28 [] [] K R I none := by
  unfold m_X5_setRule_28 at hm
  cases hm
  exact po_vret hF hL dX5_setRule_28 (by decide) (by decide) rfl rfl rfl (Or.inl rfl)
set_option maxRecDepth 20000 in
set_option maxHeartbeats 2000000 in
theorem w_X5_setRule_e {X : po_X} {G : po_G} {st : Nat → Nat} {K : po_K} {R : po_R} {ρ : po_I} (hF : po_F X G cX5_setRule RX5 5 st) (hL : po_L X none 0 0 0 "setRule") (HL : po_Lay K R st) (I : po_I) (l0 : Nat) (l1 : Int32) (l2 : Int32) (l3 : Int32) (kl0 : K l0 = (16, 8)) (hm : m_X5_setRule_e I l0 l1 l2 l3 = some ρ) : po_V X G 5 (po_Q X G (.inl (none)) K R (ρ) none 0 0) 0 0 0 [(0, .ref l0), (1, .int l1), (2, .int l2), (3, .int l3)] [] K R I none := by
  unfold m_X5_setRule_e at hm
  refine po_iload_n hF dX5_setRule_0 rfl rfl ?_
  refine po_bipush (v := 7) hF dX5_setRule_1 (by decide) ?_
  refine po_imul hF dX5_setRule_3 ?_
  refine po_iload_n hF dX5_setRule_4 rfl rfl ?_
  refine po_iadd hF dX5_setRule_5 ?_
  refine po_top hm (fun v1 hm => ?_)
  refine po_istore (L' := [(4, .int v1), (0, .ref l0), (1, .int l1), (2, .int l2), (3, .int l3)]) hF dX5_setRule_6 (by decide) rfl ?_
  refine po_iload hF dX5_setRule_8 rfl ?_
  refine po_if_lt (tgt := 28) hF dX5_setRule_10 (by decide) hm (fun hm => ?_) (fun hm => ?_)
  · refine po_sub (L' := []) rfl ?_
    exact w_X5_setRule_28 hF hL HL I hm
  · refine po_iload hF dX5_setRule_13 rfl ?_
    refine po_bipush (v := 28) hF dX5_setRule_15 (by decide) ?_
    refine po_icmp_ge (tgt := 28) hF dX5_setRule_17 (by decide) hm (fun hm => ?_) (fun hm => ?_)
    · refine po_sub (L' := []) rfl ?_
      exact w_X5_setRule_28 hF hL HL I hm
    · refine po_aload_n hF dX5_setRule_20 rfl rfl ?_
      refine po_getf (v := .ref (l0 + 1)) hF dX5_setRule_21 fl_X5_15 kl0 (ly_5_1 HL kl0).1 ?_
      refine po_iload hF dX5_setRule_24 rfl ?_
      refine po_iload_n hF dX5_setRule_26 rfl rfl ?_
      refine po_iast hF dX5_setRule_27 ((ly_5_1 HL kl0).2) hm rfl (fun hm => ?_)
      refine po_hname hm (fun I2 hm => ?_)
      refine po_sub (L' := []) rfl ?_
      exact w_X5_setRule_28 hF hL HL I2 hm
theorem c_X5_setRule {K : po_K} {R : po_R} {I : po_I} {st : Nat → Nat} {ρ : po_I} (HL : po_Lay K R st) {l0 : Nat} {l1 : Int32} {l2 : Int32} {l3 : Int32} (kl0 : K l0 = (16, 8)) (hm : m_X5_setRule I l0 l1 l2 l3 = some ρ) : po_C st yX5_setRule cX5_setRule 5 none 0 0 0 [.ref l0, .int l1, .int l2, .int l3] K R I none (.inl (none)) K R (ρ) none := by
  refine po_ofC (by decide +kernel) (Nat.le_of_ble_eq_true rfl) (fun X G hF hL => ?_)
  exact w_X5_setRule_e hF hL HL I l0 l1 l2 l3 kl0 hm
set_option maxRecDepth 20000 in
set_option maxHeartbeats 2000000 in
theorem w_X3_readRule_e {X : po_X} {G : po_G} {st : Nat → Nat} {K : po_K} {R : po_R} {ρ : Int32 × po_I} (hF : po_F X G cX3_readRule RX3 5 st) (hL : po_L X (some .boolean) 3 0 0 "readRule") (HL : po_Lay K R st) (I : po_I) (l0 : Nat) (l1 : Nat) (kl0 : K l0 = (14, 4)) (kl1 : K l1 = (16, 8)) (hm : m_X3_readRule_e st I l0 l1 = some ρ) : po_V X G 5 (po_Q X G (.inl (some (.int ρ.1))) K R (ρ.2) none 0 0) 0 0 0 [(0, .ref l0), (1, .ref l1)] [] K R I none := by
  unfold m_X3_readRule_e at hm
  refine po_aload_n hF dX3_readRule_0 rfl rfl ?_
  refine po_dup hF dX3_readRule_1 rfl ?_
  refine po_getf (v := .int (I l0 2)) hF dX3_readRule_2 fl_X3_19 kl0 rfl ?_
  refine po_iconst (v := 1) hF dX3_readRule_5 (by decide) ?_
  refine po_iadd hF dX3_readRule_6 ?_
  refine po_puti hF dX3_readRule_7 fl_X3_19 kl0 (by intro r h; cases h; rfl) rfl rfl (fun _ => rfl) rfl ?_
  refine po_hname hm (fun I1 hm => ?_)
  refine po_aload_n hF dX3_readRule_10 rfl rfl ?_
  refine po_bipush (v := 48) hF dX3_readRule_11 (by decide) ?_
  refine po_iconst (v := 0) hF dX3_readRule_13 (by decide) ?_
  refine po_iconst (v := 3) hF dX3_readRule_14 (by decide) ?_
  obtain ⟨x2, hx2, hm⟩ := po_bind hm
  refine po_callV (As := [.int 48, .int 0, .int 3]) hF dX3_readRule_15 wq_572 mv_X3_readValue ws_X3_readValue (show po_cl[3]? = some _ from rfl) rfl kl0 (c_X3_readValue HL kl0 hx2) rfl (po_rtL hL rfl) (Nat.le_of_ble_eq_true rfl) rfl ?_
  refine po_top hm (fun v3 hm => ?_)
  refine po_istore_n (L' := [(2, .int v3), (0, .ref l0), (1, .ref l1)]) hF dX3_readRule_18 rfl (by decide) rfl ?_
  refine po_iload_n hF dX3_readRule_19 rfl rfl ?_
  refine po_iconst (v := (-1)) hF dX3_readRule_20 (by decide) ?_
  refine po_icmp_ne (tgt := 26) hF dX3_readRule_21 (by decide) hm (fun hm => ?_) (fun hm => ?_)
  · refine po_aload_n hF dX3_readRule_26 rfl rfl ?_
    refine po_bipush (v := 48) hF dX3_readRule_27 (by decide) ?_
    refine po_iconst (v := 0) hF dX3_readRule_29 (by decide) ?_
    refine po_bipush (v := 6) hF dX3_readRule_30 (by decide) ?_
    obtain ⟨x4, hx4, hm⟩ := po_bind hm
    refine po_callV (As := [.int 48, .int 0, .int 6]) hF dX3_readRule_32 wq_572 mv_X3_readValue ws_X3_readValue (show po_cl[3]? = some _ from rfl) rfl kl0 (c_X3_readValue HL kl0 hx4) rfl (po_rtL hL rfl) (Nat.le_of_ble_eq_true rfl) rfl ?_
    refine po_top hm (fun v5 hm => ?_)
    refine po_istore_n (L' := [(3, .int v5), (2, .int v3), (0, .ref l0), (1, .ref l1)]) hF dX3_readRule_35 rfl (by decide) rfl ?_
    refine po_iload_n hF dX3_readRule_36 rfl rfl ?_
    refine po_iconst (v := (-1)) hF dX3_readRule_37 (by decide) ?_
    refine po_icmp_ne (tgt := 43) hF dX3_readRule_38 (by decide) hm (fun hm => ?_) (fun hm => ?_)
    · refine po_aload_n hF dX3_readRule_43 rfl rfl ?_
      refine po_gets (b := st 1) hF dX3_readRule_44 (Or.inr ⟨_, wn_567⟩) (Or.inr (Or.inl ⟨rfl, rfl⟩)) ?_
      refine po_iload_n hF dX3_readRule_47 rfl rfl ?_
      refine po_iald hF dX3_readRule_48 HL.2.2.1 (Or.inr rfl) hm (fun hm => ?_)
      refine po_gets (b := st 2) hF dX3_readRule_49 (Or.inr ⟨_, wn_569⟩) (Or.inr (Or.inr ⟨rfl, rfl⟩)) ?_
      refine po_iload_n hF dX3_readRule_52 rfl rfl ?_
      refine po_iald hF dX3_readRule_53 HL.2.2.2 (Or.inr rfl) hm (fun hm => ?_)
      obtain ⟨x6, hx6, hm⟩ := po_bind hm
      refine po_callV (As := [.int ((x4.2) (st 1) (Int32.toNatClampNeg v5)), .int ((x4.2) (st 2) (Int32.toNatClampNeg v5))]) hF dX3_readRule_54 wq_640 mv_X3_readNumber ws_X3_readNumber (show po_cl[3]? = some _ from rfl) rfl kl0 (c_X3_readNumber HL kl0 hx6) rfl (po_rtL hL rfl) (Nat.le_of_ble_eq_true rfl) rfl ?_
      refine po_top hm (fun v7 hm => ?_)
      refine po_istore (L' := [(4, .int v7), (3, .int v5), (2, .int v3), (0, .ref l0), (1, .ref l1)]) hF dX3_readRule_57 (by decide) rfl ?_
      refine po_iload hF dX3_readRule_59 rfl ?_
      refine po_iconst (v := (-1)) hF dX3_readRule_61 (by decide) ?_
      refine po_icmp_ne (tgt := 67) hF dX3_readRule_62 (by decide) hm (fun hm => ?_) (fun hm => ?_)
      · refine po_aload_n hF dX3_readRule_67 rfl rfl ?_
        refine po_iload_n hF dX3_readRule_68 rfl rfl ?_
        refine po_iload_n hF dX3_readRule_69 rfl rfl ?_
        refine po_iload hF dX3_readRule_70 rfl ?_
        obtain ⟨x8, hx8, hm⟩ := po_bind hm
        refine po_callV (As := [.int v3, .int v5, .int v7]) hF dX3_readRule_72 wq_660 mv_X5_setRule ws_X5_setRule (show po_cl[5]? = some _ from rfl) rfl kl1 (c_X5_setRule HL kl1 hx8) rfl (po_rtL hL rfl) (Nat.le_of_ble_eq_true rfl) rfl ?_
        refine po_aload_n hF dX3_readRule_75 rfl rfl ?_
        refine po_bipush (v := 59) hF dX3_readRule_76 (by decide) ?_
        obtain ⟨x9, hx9, hm⟩ := po_bind hm
        refine po_callV (As := [.int 59]) hF dX3_readRule_78 wq_615 mv_X3_readSign ws_X3_readSign (show po_cl[3]? = some _ from rfl) rfl kl0 (c_X3_readSign HL kl0 hx9) rfl (po_rtL hL rfl) (Nat.le_of_ble_eq_true rfl) rfl ?_
        obtain ⟨hz, hm⟩ := po_zif hm
        cases hm
        exact po_zret hF hL dX3_readRule_81 (po_nz hz) (by decide) (by decide) rfl rfl rfl (Or.inl rfl)
      · refine po_iconst (v := 0) hF dX3_readRule_65 (by decide) ?_
        cases hm
        exact po_zret hF hL dX3_readRule_66 (by decide) (by decide) (by decide) rfl rfl rfl (Or.inl rfl)
    · refine po_iconst (v := 0) hF dX3_readRule_41 (by decide) ?_
      cases hm
      exact po_zret hF hL dX3_readRule_42 (by decide) (by decide) (by decide) rfl rfl rfl (Or.inl rfl)
  · refine po_iconst (v := 0) hF dX3_readRule_24 (by decide) ?_
    cases hm
    exact po_zret hF hL dX3_readRule_25 (by decide) (by decide) (by decide) rfl rfl rfl (Or.inl rfl)
theorem c_X3_readRule {K : po_K} {R : po_R} {I : po_I} {st : Nat → Nat} {ρ : Int32 × po_I} (HL : po_Lay K R st) {l0 : Nat} {l1 : Nat} (kl0 : K l0 = (14, 4)) (kl1 : K l1 = (16, 8)) (hm : m_X3_readRule st I l0 l1 = some ρ) : po_C st yX3_readRule cX3_readRule 5 (some .boolean) 3 0 0 [.ref l0, .ref l1] K R I none (.inl (some (.int ρ.1))) K R (ρ.2) none := by
  refine po_ofC (by decide +kernel) (Nat.le_of_ble_eq_true rfl) (fun X G hF hL => ?_)
  exact w_X3_readRule_e hF hL HL I l0 l1 kl0 kl1 hm
set_option maxRecDepth 20000 in
set_option maxHeartbeats 2000000 in
theorem w_X3_readCommand_e {X : po_X} {G : po_G} {st : Nat → Nat} {K : po_K} {R : po_R} {ρ : Int32 × po_I} (hF : po_F X G cX3_readCommand RX3 2 st) (hL : po_L X (some .boolean) 5 0 0 "readCommand") (HL : po_Lay K R st) (I : po_I) (l0 : Nat) (l1 : Nat) (kl0 : K l0 = (14, 4)) (kl1 : K l1 = (16, 8)) (hm : m_X3_readCommand_e st I l0 l1 = some ρ) : po_V X G 2 (po_Q X G (.inl (some (.int ρ.1))) K R (ρ.2) none 0 0) 0 0 0 [(0, .ref l0), (1, .ref l1)] [] K R I none := by
  unfold m_X3_readCommand_e at hm
  refine po_aload_n hF dX3_readCommand_0 rfl rfl ?_
  obtain ⟨x1, hx1, hm⟩ := po_bind hm
  refine po_callV (As := []) hF dX3_readCommand_1 wq_560 mv_X3_next ws_X3_next (show po_cl[3]? = some _ from rfl) rfl kl0 (c_X3_next HL kl0 hx1) rfl (po_rtL hL rfl) (Nat.le_of_ble_eq_true rfl) rfl ?_
  by_cases hs0 : x1 = 67
  · rw [if_pos hs0] at hm
    refine po_lsw (tgt := 74) (off := 70) hF dX3_readCommand_4 (by decide) (by rw [hs0]; decide) (by decide) ?_
    refine po_aload_n hF dX3_readCommand_74 rfl rfl ?_
    refine po_aload_n hF dX3_readCommand_75 rfl rfl ?_
    obtain ⟨x2, hx2, hm⟩ := po_bind hm
    refine po_callV (As := [.ref l1]) hF dX3_readCommand_76 wq_644 mv_X3_readCondition ws_X3_readCondition (show po_cl[3]? = some _ from rfl) rfl kl0 (c_X3_readCondition HL kl0 kl1 hx2) rfl (po_rtL hL rfl) (Nat.le_of_ble_eq_true rfl) rfl ?_
    obtain ⟨hz, hm⟩ := po_zif hm
    cases hm
    exact po_zret hF hL dX3_readCommand_79 (po_nz hz) (by decide) (by decide) rfl rfl rfl (Or.inl rfl)
  rw [if_neg hs0] at hm
  by_cases hs1 : x1 = 76
  · rw [if_pos hs1] at hm
    refine po_lsw (tgt := 56) (off := 52) hF dX3_readCommand_4 (by decide) (by rw [hs1]; decide) (by decide) ?_
    refine po_aload_n hF dX3_readCommand_56 rfl rfl ?_
    refine po_aload_n hF dX3_readCommand_57 rfl rfl ?_
    obtain ⟨x3, hx3, hm⟩ := po_bind hm
    refine po_callV (As := [.ref l1]) hF dX3_readCommand_58 wq_564 mv_X3_readLot ws_X3_readLot (show po_cl[3]? = some _ from rfl) rfl kl0 (c_X3_readLot HL kl0 kl1 hx3) rfl (po_rtL hL rfl) (Nat.le_of_ble_eq_true rfl) rfl ?_
    obtain ⟨hz, hm⟩ := po_zif hm
    cases hm
    exact po_zret hF hL dX3_readCommand_61 (po_nz hz) (by decide) (by decide) rfl rfl rfl (Or.inl rfl)
  rw [if_neg hs1] at hm
  by_cases hs2 : x1 = 80
  · rw [if_pos hs2] at hm
    refine po_lsw (tgt := 62) (off := 58) hF dX3_readCommand_4 (by decide) (by rw [hs2]; decide) (by decide) ?_
    refine po_aload_n hF dX3_readCommand_62 rfl rfl ?_
    refine po_aload_n hF dX3_readCommand_63 rfl rfl ?_
    obtain ⟨x4, hx4, hm⟩ := po_bind hm
    refine po_callV (As := [.ref l1]) hF dX3_readCommand_64 wq_619 mv_X3_readPermit ws_X3_readPermit (show po_cl[3]? = some _ from rfl) rfl kl0 (c_X3_readPermit HL kl0 kl1 hx4) rfl (po_rtL hL rfl) (Nat.le_of_ble_eq_true rfl) rfl ?_
    obtain ⟨hz, hm⟩ := po_zif hm
    cases hm
    exact po_zret hF hL dX3_readCommand_67 (po_nz hz) (by decide) (by decide) rfl rfl rfl (Or.inl rfl)
  rw [if_neg hs2] at hm
  by_cases hs3 : x1 = 86
  · rw [if_pos hs3] at hm
    refine po_lsw (tgt := 68) (off := 64) hF dX3_readCommand_4 (by decide) (by rw [hs3]; decide) (by decide) ?_
    refine po_aload_n hF dX3_readCommand_68 rfl rfl ?_
    refine po_aload_n hF dX3_readCommand_69 rfl rfl ?_
    obtain ⟨x5, hx5, hm⟩ := po_bind hm
    refine po_callV (As := [.ref l1]) hF dX3_readCommand_70 wq_636 mv_X3_readVariance ws_X3_readVariance (show po_cl[3]? = some _ from rfl) rfl kl0 (c_X3_readVariance HL kl0 kl1 hx5) rfl (po_rtL hL rfl) (Nat.le_of_ble_eq_true rfl) rfl ?_
    obtain ⟨hz, hm⟩ := po_zif hm
    cases hm
    exact po_zret hF hL dX3_readCommand_73 (po_nz hz) (by decide) (by decide) rfl rfl rfl (Or.inl rfl)
  rw [if_neg hs3] at hm
  by_cases hs4 : x1 = 90
  · rw [if_pos hs4] at hm
    refine po_lsw (tgt := 80) (off := 76) hF dX3_readCommand_4 (by decide) (by rw [hs4]; decide) (by decide) ?_
    refine po_aload_n hF dX3_readCommand_80 rfl rfl ?_
    refine po_aload_n hF dX3_readCommand_81 rfl rfl ?_
    obtain ⟨x6, hx6, hm⟩ := po_bind hm
    refine po_callV (As := [.ref l1]) hF dX3_readCommand_82 wq_652 mv_X3_readRule ws_X3_readRule (show po_cl[3]? = some _ from rfl) rfl kl0 (c_X3_readRule HL kl0 kl1 hx6) rfl (po_rtL hL rfl) (Nat.le_of_ble_eq_true rfl) rfl ?_
    obtain ⟨hz, hm⟩ := po_zif hm
    cases hm
    exact po_zret hF hL dX3_readCommand_85 (po_nz hz) (by decide) (by decide) rfl rfl rfl (Or.inl rfl)
  rw [if_neg hs4] at hm
  refine po_lsw (tgt := 86) (off := 82) hF dX3_readCommand_4 (by decide) (by
    refine (lv_osw (k := 67) hs0 (by decide)).trans ?_
    refine (lv_osw (k := 76) hs1 (by decide)).trans ?_
    refine (lv_osw (k := 80) hs2 (by decide)).trans ?_
    refine (lv_osw (k := 86) hs3 (by decide)).trans ?_
    refine (lv_osw (k := 90) hs4 (by decide)).trans ?_
    rfl) (by decide) ?_
  refine po_aload_n hF dX3_readCommand_86 rfl rfl ?_
  refine po_aload_n hF dX3_readCommand_87 rfl rfl ?_
  refine po_getf (v := .int (I l0 2)) hF dX3_readCommand_88 fl_X3_19 kl0 rfl ?_
  obtain ⟨x7, hx7, hm⟩ := po_bind hm
  refine po_callV (As := [.int (I l0 2)]) hF dX3_readCommand_91 wq_568 mv_X3_failAt ws_X3_failAt (show po_cl[3]? = some _ from rfl) rfl kl0 (c_X3_failAt HL kl0 hx7) rfl (po_rtL hL rfl) (Nat.le_of_ble_eq_true rfl) rfl ?_
  obtain ⟨hz, hm⟩ := po_zif hm
  cases hm
  exact po_zret hF hL dX3_readCommand_94 (po_nz hz) (by decide) (by decide) rfl rfl rfl (Or.inl rfl)
theorem c_X3_readCommand {K : po_K} {R : po_R} {I : po_I} {st : Nat → Nat} {ρ : Int32 × po_I} (HL : po_Lay K R st) {l0 : Nat} {l1 : Nat} (kl0 : K l0 = (14, 4)) (kl1 : K l1 = (16, 8)) (hm : m_X3_readCommand st I l0 l1 = some ρ) : po_C st yX3_readCommand cX3_readCommand 2 (some .boolean) 5 0 0 [.ref l0, .ref l1] K R I none (.inl (some (.int ρ.1))) K R (ρ.2) none := by
  refine po_ofC (by decide +kernel) (Nat.le_of_ble_eq_true rfl) (fun X G hF hL => ?_)
  exact w_X3_readCommand_e hF hL HL I l0 l1 kl0 kl1 hm
set_option maxRecDepth 20000 in
set_option maxHeartbeats 2000000 in
theorem w_X3_readInto_56 {X : po_X} {G : po_G} {st : Nat → Nat} {K : po_K} {R : po_R} {ρ : Int32 × po_I} (hF : po_F X G cX3_readInto RX3 4 st) (hL : po_L X (some .int) 6 0 0 "readInto") (HL : po_Lay K R st) (I : po_I) (s0 : Int32) (hm : m_X3_readInto_56 st I s0 = some ρ) : po_V X G 4 (po_Q X G (.inl (some (.int ρ.1))) K R (ρ.2) none 0 0) 0 0 56 [] [.int s0] K R I none := by
  unfold m_X3_readInto_56 at hm
  cases hm
  exact po_iret hF hL dX3_readInto_56 (by decide) (by decide) rfl rfl rfl (Or.inl rfl)
set_option maxRecDepth 20000 in
set_option maxHeartbeats 2000000 in
theorem w_X3_readInto_42 {X : po_X} {G : po_G} {st : Nat → Nat} {K : po_K} {R : po_R} {ρ : Int32 × po_I} (hF : po_F X G cX3_readInto RX3 4 st) (hL : po_L X (some .int) 6 0 0 "readInto") (HL : po_Lay K R st) (I : po_I) (l0 : Nat) (l2 : Int32) (l3 : Int32) (kl0 : K l0 = (14, 4)) (hm : m_X3_readInto_42 st I l0 l2 l3 = some ρ) : po_V X G 4 (po_Q X G (.inl (some (.int ρ.1))) K R (ρ.2) none 0 0) 0 0 42 [(0, .ref l0), (2, .int l2), (3, .int l3)] [] K R I none := by
  unfold m_X3_readInto_42 at hm
  refine po_aload_n hF dX3_readInto_42 rfl rfl ?_
  refine po_iconst (v := 0) hF dX3_readInto_43 (by decide) ?_
  refine po_puti hF dX3_readInto_44 fl_X3_15 kl0 (by intro r h; cases h; rfl) rfl rfl (fun _ => rfl) rfl ?_
  refine po_hname hm (fun I1 hm => ?_)
  refine po_iload_n hF dX3_readInto_47 rfl rfl ?_
  refine po_if_eq (tgt := 55) hF dX3_readInto_48 (by decide) hm (fun hm => ?_) (fun hm => ?_)
  · refine po_iconst (v := (-1)) hF dX3_readInto_55 (by decide) ?_
    refine po_sub (L' := []) rfl ?_
    exact w_X3_readInto_56 hF hL HL I1 (-1) hm
  · refine po_iload_n hF dX3_readInto_51 rfl rfl ?_
    refine po_goto (tgt := 56) hF dX3_readInto_52 (by decide) ?_
    refine po_sub (L' := []) rfl ?_
    exact w_X3_readInto_56 hF hL HL I1 l2 hm
set_option maxRecDepth 20000 in
set_option maxHeartbeats 2000000 in
theorem w_X3_readInto_12 {X : po_X} {G : po_G} {st : Nat → Nat} {K : po_K} {R : po_R} {ρ : Int32 × po_I} {r12 : po_I → Nat → Nat → Int32 → Option (Int32 × po_I)} (hF : po_F X G cX3_readInto RX3 4 st) (hL : po_L X (some .int) 6 0 0 "readInto") (HL : po_Lay K R st) (h12 : ∀ (I : po_I) (l0 : Nat) (l1 : Nat) (l2 : Int32), r12 I l0 l1 l2 = some ρ → K l0 = (14, 4) → K l1 = (16, 8) → po_V X G 4 (po_Q X G (.inl (some (.int ρ.1))) K R (ρ.2) none 0 0) 0 0 12 [(0, .ref l0), (1, .ref l1), (2, .int l2)] [] K R I none) (I : po_I) (l0 : Nat) (l1 : Nat) (l2 : Int32) (kl0 : K l0 = (14, 4)) (kl1 : K l1 = (16, 8)) (hm : m_X3_readInto_12 st r12 I l0 l1 l2 = some ρ) : po_V X G 4 (po_Q X G (.inl (some (.int ρ.1))) K R (ρ.2) none 0 0) 0 0 12 [(0, .ref l0), (1, .ref l1), (2, .int l2)] [] K R I none := by
  unfold m_X3_readInto_12 at hm
  refine po_aload_n hF dX3_readInto_12 rfl rfl ?_
  refine po_aload_n hF dX3_readInto_13 rfl rfl ?_
  obtain ⟨x2, hx2, hm⟩ := po_bind hm
  refine po_callV (As := [.ref l1]) hF dX3_readInto_14 wq_556 mv_X3_readCommand ws_X3_readCommand (show po_cl[3]? = some _ from rfl) rfl kl0 (c_X3_readCommand HL kl0 kl1 hx2) rfl (po_rtL hL rfl) (Nat.le_of_ble_eq_true rfl) rfl ?_
  refine po_top hm (fun v3 hm => ?_)
  refine po_istore_n (L' := [(3, .int v3), (0, .ref l0), (1, .ref l1), (2, .int l2)]) hF dX3_readInto_17 rfl (by decide) rfl ?_
  refine po_iinc (v := l2 + 1) (L' := [(2, .int (l2 + 1)), (3, .int v3), (0, .ref l0), (1, .ref l1)]) hF dX3_readInto_18 rfl rfl (by decide) rfl ?_
  refine po_iload_n hF dX3_readInto_21 rfl rfl ?_
  refine po_if_eq (tgt := 42) hF dX3_readInto_22 (by decide) hm (fun hm => ?_) (fun hm => ?_)
  · refine po_sub (L' := [(0, .ref l0), (2, .int (l2 + 1)), (3, .int v3)]) rfl ?_
    exact w_X3_readInto_42 hF hL HL (x2.2) l0 (l2 + 1) v3 kl0 hm
  · refine po_aload_n hF dX3_readInto_25 rfl rfl ?_
    refine po_getf (v := .int ((x2.2) l0 2)) hF dX3_readInto_26 fl_X3_19 kl0 rfl ?_
    refine po_aload_n hF dX3_readInto_29 rfl rfl ?_
    refine po_getf (v := .int ((x2.2) l0 1)) hF dX3_readInto_30 fl_X3_15 kl0 rfl ?_
    refine po_icmp_ge (tgt := 42) hF dX3_readInto_33 (by decide) hm (fun hm => ?_) (fun hm => ?_)
    · refine po_sub (L' := [(0, .ref l0), (2, .int (l2 + 1)), (3, .int v3)]) rfl ?_
      exact w_X3_readInto_42 hF hL HL (x2.2) l0 (l2 + 1) v3 kl0 hm
    · refine po_iload_n hF dX3_readInto_36 rfl rfl ?_
      refine po_bipush (v := 60) hF dX3_readInto_37 (by decide) ?_
      refine po_icmp_lt (tgt := 12) hF dX3_readInto_39 (by decide) hm (fun hm => ?_) (fun hm => ?_)
      · refine po_sub (L' := [(0, .ref l0), (1, .ref l1), (2, .int (l2 + 1))]) rfl ?_
        exact h12 (x2.2) l0 l1 (l2 + 1) hm kl0 kl1
      · refine po_sub (L' := [(0, .ref l0), (2, .int (l2 + 1)), (3, .int v3)]) rfl ?_
        exact w_X3_readInto_42 hF hL HL (x2.2) l0 (l2 + 1) v3 kl0 hm
theorem w_X3_readInto_12L {X : po_X} {G : po_G} {st : Nat → Nat} {K : po_K} {R : po_R} {ρ : Int32 × po_I} (hF : po_F X G cX3_readInto RX3 4 st) (hL : po_L X (some .int) 6 0 0 "readInto") (HL : po_Lay K R st) : ∀ (n : Nat) (I : po_I) (l0 : Nat) (l1 : Nat) (l2 : Int32), m_X3_readInto_12L st n I l0 l1 l2 = some ρ → K l0 = (14, 4) → K l1 = (16, 8) → po_V X G 4 (po_Q X G (.inl (some (.int ρ.1))) K R (ρ.2) none 0 0) 0 0 12 [(0, .ref l0), (1, .ref l1), (2, .int l2)] [] K R I none := by
  intro n
  induction n with
  | zero => intro I l0 l1 l2 hm; cases hm
  | succ n ih => intro I l0 l1 l2 hm kl0 kl1; exact w_X3_readInto_12 hF hL HL (ih) I l0 l1 l2 kl0 kl1 hm
set_option maxRecDepth 20000 in
set_option maxHeartbeats 2000000 in
theorem w_X3_readInto_e {X : po_X} {G : po_G} {st : Nat → Nat} {K : po_K} {R : po_R} {ρ : Int32 × po_I} (hF : po_F X G cX3_readInto RX3 4 st) (hL : po_L X (some .int) 6 0 0 "readInto") (HL : po_Lay K R st) (I : po_I) (l0 : Nat) (l1 : Nat) (kl0 : K l0 = (14, 4)) (kl1 : K l1 = (16, 8)) (hm : m_X3_readInto_e st I l0 l1 = some ρ) : po_V X G 4 (po_Q X G (.inl (some (.int ρ.1))) K R (ρ.2) none 0 0) 0 0 0 [(0, .ref l0), (1, .ref l1)] [] K R I none := by
  unfold m_X3_readInto_e at hm
  refine po_aload_n hF dX3_readInto_0 rfl rfl ?_
  refine po_iconst (v := 0) hF dX3_readInto_1 (by decide) ?_
  refine po_puti hF dX3_readInto_2 fl_X3_19 kl0 (by intro r h; cases h; rfl) rfl rfl (fun _ => rfl) rfl ?_
  refine po_hname hm (fun I4 hm => ?_)
  refine po_aload_n hF dX3_readInto_5 rfl rfl ?_
  refine po_iconst (v := (-1)) hF dX3_readInto_6 (by decide) ?_
  refine po_puti hF dX3_readInto_7 fl_X3_22 kl0 (by intro r h; cases h; rfl) rfl rfl (fun _ => rfl) rfl ?_
  refine po_hname hm (fun I5 hm => ?_)
  refine po_iconst (v := 0) hF dX3_readInto_10 (by decide) ?_
  refine po_istore_n (L' := [(2, .int 0), (0, .ref l0), (1, .ref l1)]) hF dX3_readInto_11 rfl (by decide) rfl ?_
  refine po_sub (L' := [(0, .ref l0), (1, .ref l1), (2, .int 0)]) rfl ?_
  exact w_X3_readInto_12L hF hL HL 5000 I5 l0 l1 0 hm kl0 kl1
theorem c_X3_readInto {K : po_K} {R : po_R} {I : po_I} {st : Nat → Nat} {ρ : Int32 × po_I} (HL : po_Lay K R st) {l0 : Nat} {l1 : Nat} (kl0 : K l0 = (14, 4)) (kl1 : K l1 = (16, 8)) (hm : m_X3_readInto st I l0 l1 = some ρ) : po_C st yX3_readInto cX3_readInto 4 (some .int) 6 0 0 [.ref l0, .ref l1] K R I none (.inl (some (.int ρ.1))) K R (ρ.2) none := by
  refine po_ofC (by decide +kernel) (Nat.le_of_ble_eq_true rfl) (fun X G hF hL => ?_)
  exact w_X3_readInto_e hF hL HL I l0 l1 kl0 kl1 hm
set_option maxRecDepth 20000 in
set_option maxHeartbeats 2000000 in
theorem w_X7_remember_56 {X : po_X} {G : po_G} {st : Nat → Nat} {K : po_K} {ρ : po_I × po_R} (hF : po_F X G cX7_remember RX7 3 st) (hL : po_L X none 4 0 0 "remember") (I : po_I) (R : po_R) (l0 : Nat) (HL : po_Lay K R st) (kl0 : K l0 = (18, 8)) (hm : m_X7_remember_56 I R l0 = some ρ) : po_V X G 3 (po_Q X G (.inl (none)) K (ρ.2) (ρ.1) none 0 0) 0 0 56 [(0, .ref l0)] [] K R I none := by
  unfold m_X7_remember_56 at hm
  refine po_aload_n hF dX7_remember_56 rfl rfl ?_
  refine po_getf (v := .ref (l0 + 281)) hF dX7_remember_57 fl_X7_40 kl0 (ly_7_6 HL kl0).1 ?_
  refine po_aload_n hF dX7_remember_60 rfl rfl ?_
  refine po_getf (v := .int (I l0 7)) hF dX7_remember_61 fl_X7_44 kl0 rfl ?_
  refine po_aald hF dX7_remember_64 ((ly_7_6 HL kl0).2) (Or.inr (Or.inr (Or.inr rfl))) hm (fun hi1 => (le_7_6 HL kl0 (po_in_lt hi1)).1) (fun hi1 hm => ?_)
  refine po_aload_n hF dX7_remember_65 rfl rfl ?_
  refine po_getf (v := .ref (l0 + 8)) hF dX7_remember_66 fl_X7_26 kl0 (ly_7_2 HL kl0).1 ?_
  obtain ⟨x2, hx2, hm⟩ := po_bind hm
  refine po_callV (As := [.ref (l0 + 8)]) hF dX7_remember_69 wq_419 mv_X5_copyFrom ws_X5_copyFrom (show po_cl[5]? = some _ from rfl) rfl ((le_7_6 HL kl0 (po_in_lt hi1)).2) (c_X5_copyFrom HL ((le_7_6 HL kl0 (po_in_lt hi1)).2) ((ly_7_2 HL kl0).2) hx2) rfl (po_rtL hL rfl) (Nat.le_of_ble_eq_true rfl) rfl ?_
  refine po_aload_n hF dX7_remember_72 rfl rfl ?_
  refine po_dup hF dX7_remember_73 rfl ?_
  refine po_getf (v := .int (x2 l0 7)) hF dX7_remember_74 fl_X7_44 kl0 rfl ?_
  refine po_iconst (v := 1) hF dX7_remember_77 (by decide) ?_
  refine po_iadd hF dX7_remember_78 ?_
  refine po_puti hF dX7_remember_79 fl_X7_44 kl0 (by intro r h; cases h; rfl) rfl rfl (fun _ => rfl) rfl ?_
  refine po_hname hm (fun I3 hm => ?_)
  cases hm
  exact po_vret hF hL dX7_remember_82 (by decide) (by decide) rfl rfl rfl (Or.inl rfl)
set_option maxRecDepth 20000 in
set_option maxHeartbeats 2000000 in
theorem w_X7_remember_18 {X : po_X} {G : po_G} {st : Nat → Nat} {K : po_K} {ρ : po_I × po_R} {r18 : po_I → po_R → Nat → Nat → Int32 → Option (po_I × po_R)} (hF : po_F X G cX7_remember RX7 3 st) (hL : po_L X none 4 0 0 "remember") (h18 : ∀ (I : po_I) (R : po_R) (l0 : Nat) (l1 : Nat) (l2 : Int32), r18 I R l0 l1 l2 = some ρ → po_Lay K R st → K l0 = (18, 8) → K l1 = (16, 8) → po_V X G 3 (po_Q X G (.inl (none)) K (ρ.2) (ρ.1) none 0 0) 0 0 18 [(0, .ref l0), (1, .ref l1), (2, .int l2)] [] K R I none) (I : po_I) (R : po_R) (l0 : Nat) (l1 : Nat) (l2 : Int32) (HL : po_Lay K R st) (kl0 : K l0 = (18, 8)) (kl1 : K l1 = (16, 8)) (hm : m_X7_remember_18 r18 I R l0 l1 l2 = some ρ) : po_V X G 3 (po_Q X G (.inl (none)) K (ρ.2) (ρ.1) none 0 0) 0 0 18 [(0, .ref l0), (1, .ref l1), (2, .int l2)] [] K R I none := by
  unfold m_X7_remember_18 at hm
  refine po_iload_n hF dX7_remember_18 rfl rfl ?_
  refine po_bipush (v := 6) hF dX7_remember_19 (by decide) ?_
  refine po_icmp_ge (tgt := 44) hF dX7_remember_21 (by decide) hm (fun hm => ?_) (fun hm => ?_)
  · refine po_aload_n hF dX7_remember_44 rfl rfl ?_
    refine po_getf (v := .ref (l0 + 281)) hF dX7_remember_45 fl_X7_40 kl0 (ly_7_6 HL kl0).1 ?_
    refine po_iconst (v := 5) hF dX7_remember_48 (by decide) ?_
    refine po_aload_n hF dX7_remember_49 rfl rfl ?_
    refine po_aastC (j := 5) hF dX7_remember_50 ((ly_7_6 HL kl0).2) (by decide) (by decide) (show po_cl[5]? = some _ from rfl) rfl kl1 (by decide) (by decide) (by decide) rfl ?_
    refine po_aload_n hF dX7_remember_51 rfl rfl ?_
    refine po_iconst (v := 5) hF dX7_remember_52 (by decide) ?_
    refine po_puti hF dX7_remember_53 fl_X7_44 kl0 (by intro r h; cases h; rfl) rfl rfl (fun _ => rfl) rfl ?_
    refine po_hname hm (fun I4 hm => ?_)
    refine po_sub (L' := [(0, .ref l0)]) rfl ?_
    exact w_X7_remember_56 hF hL I4 (po_u R (l0 + 281) 5 (.ref l1)) l0 (ly_put HL kl0 kl1 (by decide)) kl0 hm
  · refine po_aload_n hF dX7_remember_24 rfl rfl ?_
    refine po_getf (v := .ref (l0 + 281)) hF dX7_remember_25 fl_X7_40 kl0 (ly_7_6 HL kl0).1 ?_
    refine po_iload_n hF dX7_remember_28 rfl rfl ?_
    refine po_iconst (v := 1) hF dX7_remember_29 (by decide) ?_
    refine po_isub hF dX7_remember_30 ?_
    refine po_aload_n hF dX7_remember_31 rfl rfl ?_
    refine po_getf (v := .ref (l0 + 281)) hF dX7_remember_32 fl_X7_40 kl0 (ly_7_6 HL kl0).1 ?_
    refine po_iload_n hF dX7_remember_35 rfl rfl ?_
    refine po_aald hF dX7_remember_36 ((ly_7_6 HL kl0).2) (Or.inr (Or.inr (Or.inr rfl))) hm (fun hi5 => (le_7_6 HL kl0 (po_in_lt hi5)).1) (fun hi5 hm => ?_)
    have hi6 := (po_if hm).1
    refine po_aast hF dX7_remember_37 ((ly_7_6 HL kl0).2) (by decide) (by decide) (show po_cl[5]? = some _ from rfl) rfl ((le_7_6 HL kl0 (po_in_lt hi5)).2) hm rfl (fun hm => ?_)
    refine po_iinc (v := l2 + 1) (L' := [(2, .int (l2 + 1)), (0, .ref l0), (1, .ref l1)]) hF dX7_remember_38 rfl rfl (by decide) rfl ?_
    refine po_goto (tgt := 18) hF dX7_remember_41 (by decide) ?_
    refine po_sub (L' := [(0, .ref l0), (1, .ref l1), (2, .int (l2 + 1))]) rfl ?_
    exact h18 I (po_u R (l0 + 281) (Int32.toNatClampNeg (l2 - 1)) (.ref (po_rf (R (l0 + 281) (Int32.toNatClampNeg l2))))) l0 l1 (l2 + 1) hm (ly_put HL kl0 ((le_7_6 HL kl0 (po_in_lt hi5)).2) (po_in_lt hi6)) kl0 kl1
theorem w_X7_remember_18L {X : po_X} {G : po_G} {st : Nat → Nat} {K : po_K} {ρ : po_I × po_R} (hF : po_F X G cX7_remember RX7 3 st) (hL : po_L X none 4 0 0 "remember") : ∀ (n : Nat) (I : po_I) (R : po_R) (l0 : Nat) (l1 : Nat) (l2 : Int32), m_X7_remember_18L n I R l0 l1 l2 = some ρ → po_Lay K R st → K l0 = (18, 8) → K l1 = (16, 8) → po_V X G 3 (po_Q X G (.inl (none)) K (ρ.2) (ρ.1) none 0 0) 0 0 18 [(0, .ref l0), (1, .ref l1), (2, .int l2)] [] K R I none := by
  intro n
  induction n with
  | zero => intro I R l0 l1 l2 hm; cases hm
  | succ n ih => intro I R l0 l1 l2 hm HL kl0 kl1; exact w_X7_remember_18 hF hL (ih) I R l0 l1 l2 HL kl0 kl1 hm
set_option maxRecDepth 20000 in
set_option maxHeartbeats 2000000 in
theorem w_X7_remember_e {X : po_X} {G : po_G} {st : Nat → Nat} {K : po_K} {ρ : po_I × po_R} (hF : po_F X G cX7_remember RX7 3 st) (hL : po_L X none 4 0 0 "remember") (I : po_I) (R : po_R) (l0 : Nat) (HL : po_Lay K R st) (kl0 : K l0 = (18, 8)) (hm : m_X7_remember_e I R l0 = some ρ) : po_V X G 3 (po_Q X G (.inl (none)) K (ρ.2) (ρ.1) none 0 0) 0 0 0 [(0, .ref l0)] [] K R I none := by
  unfold m_X7_remember_e at hm
  refine po_aload_n hF dX7_remember_0 rfl rfl ?_
  refine po_getf (v := .int (I l0 7)) hF dX7_remember_1 fl_X7_44 kl0 rfl ?_
  refine po_bipush (v := 6) hF dX7_remember_4 (by decide) ?_
  refine po_icmp_lt (tgt := 56) hF dX7_remember_6 (by decide) hm (fun hm => ?_) (fun hm => ?_)
  · exact w_X7_remember_56 hF hL I R l0 HL kl0 hm
  · refine po_aload_n hF dX7_remember_9 rfl rfl ?_
    refine po_getf (v := .ref (l0 + 281)) hF dX7_remember_10 fl_X7_40 kl0 (ly_7_6 HL kl0).1 ?_
    refine po_iconst (v := 0) hF dX7_remember_13 (by decide) ?_
    refine po_aaldC (j := 0) hF dX7_remember_14 ((ly_7_6 HL kl0).2) (Or.inr (Or.inr (Or.inr rfl))) (by decide) (by decide) (by decide) (le_7_6 HL kl0 (j := 0) (by decide)).1 ?_
    refine po_astore_n (L' := [(1, .ref (po_rf (R (l0 + 281) 0))), (0, .ref l0)]) hF dX7_remember_15 rfl (by decide) rfl ?_
    refine po_iconst (v := 1) hF dX7_remember_16 (by decide) ?_
    refine po_istore_n (L' := [(2, .int 1), (1, .ref (po_rf (R (l0 + 281) 0))), (0, .ref l0)]) hF dX7_remember_17 rfl (by decide) rfl ?_
    refine po_sub (L' := [(0, .ref l0), (1, .ref (po_rf (R (l0 + 281) 0))), (2, .int 1)]) rfl ?_
    exact w_X7_remember_18L hF hL 5000 I R l0 (po_rf (R (l0 + 281) 0)) 1 hm HL kl0 ((le_7_6 HL kl0 (j := 0) (by decide)).2)
theorem c_X7_remember {K : po_K} {R : po_R} {I : po_I} {st : Nat → Nat} {ρ : po_I × po_R} (HL : po_Lay K R st) {l0 : Nat} (kl0 : K l0 = (18, 8)) (hm : m_X7_remember I R l0 = some ρ) : po_C st yX7_remember cX7_remember 3 none 4 0 0 [.ref l0] K R I none (.inl (none)) K (ρ.2) (ρ.1) none := by
  refine po_ofC (by decide +kernel) (Nat.le_of_ble_eq_true rfl) (fun X G hF hL => ?_)
  exact w_X7_remember_e hF hL I R l0 HL kl0 hm
set_option maxRecDepth 20000 in
set_option maxHeartbeats 2000000 in
theorem w_X7_execute_e {X : po_X} {G : po_G} {st : Nat → Nat} {K : po_K} {ρ : (Int32 ⊕ String) × po_I × po_R} (hF : po_F X G cX7_execute RX7 2 st) (hL : po_L X (some .int) 7 1 6 "execute") (I : po_I) (R : po_R) (l0 : Nat) (HL : po_Lay K R st) (kl0 : K l0 = (18, 8)) (hm : m_X7_execute_e st I R l0 = some ρ) : po_V X G 2 (po_Q X G (po_oi (ρ.1)) K (ρ.2.2) (ρ.2.1) none 1 6) 0 0 0 [(0, .ref l0)] [] K R I none := by
  unfold m_X7_execute_e at hm
  refine po_aload_n hF dX7_execute_0 rfl rfl ?_
  refine po_getf (v := .ref (l0 + 99)) hF dX7_execute_1 fl_X7_30 kl0 (ly_7_3 HL kl0).1 ?_
  refine po_aload_n hF dX7_execute_4 rfl rfl ?_
  refine po_getf (v := .ref (l0 + 8)) hF dX7_execute_5 fl_X7_26 kl0 (ly_7_2 HL kl0).1 ?_
  obtain ⟨x1, hx1, hm⟩ := po_bind hm
  refine po_callV (As := [.ref (l0 + 8)]) hF dX7_execute_8 wq_419 mv_X5_copyFrom ws_X5_copyFrom (show po_cl[5]? = some _ from rfl) rfl ((ly_7_3 HL kl0).2) (c_X5_copyFrom HL ((ly_7_3 HL kl0).2) ((ly_7_2 HL kl0).2) hx1) rfl (po_rtL hL rfl) (Nat.le_of_ble_eq_true rfl) rfl ?_
  refine po_aload_n hF dX7_execute_11 rfl rfl ?_
  refine po_getf (v := .ref (l0 + 1)) hF dX7_execute_12 fl_X7_10 kl0 (ly_7_0 HL kl0).1 ?_
  refine po_aload_n hF dX7_execute_15 rfl rfl ?_
  refine po_getf (v := .ref (l0 + 99)) hF dX7_execute_16 fl_X7_30 kl0 (ly_7_3 HL kl0).1 ?_
  obtain ⟨x2, hx2, hm⟩ := po_bind hm
  refine po_callV (As := [.ref (l0 + 99)]) hF dX7_execute_19 wq_552 mv_X3_readInto ws_X3_readInto (show po_cl[3]? = some _ from rfl) rfl ((ly_7_0 HL kl0).2) (c_X3_readInto HL ((ly_7_0 HL kl0).2) ((ly_7_3 HL kl0).2) hx2) rfl (po_rtL hL rfl) (Nat.le_of_ble_eq_true rfl) rfl ?_
  refine po_top hm (fun v3 hm => ?_)
  refine po_istore_n (L' := [(1, .int v3), (0, .ref l0)]) hF dX7_execute_22 rfl (by decide) rfl ?_
  refine po_iload_n hF dX7_execute_23 rfl rfl ?_
  refine po_iconst (v := (-1)) hF dX7_execute_24 (by decide) ?_
  refine po_icmp_ne (tgt := 38) hF dX7_execute_25 (by decide) hm (fun hm => ?_) (fun hm => ?_)
  · refine po_aload_n hF dX7_execute_38 rfl rfl ?_
    obtain ⟨x4, hx4, hm⟩ := po_bind hm
    refine po_callV (As := []) hF dX7_execute_39 wq_665 mv_X7_remember ws_X7_remember (show po_cl[7]? = some _ from rfl) rfl kl0 (c_X7_remember HL kl0 hx4) rfl (po_rtL hL rfl) (Nat.le_of_ble_eq_true rfl) rfl ?_
    refine po_aload_n hF dX7_execute_42 rfl rfl ?_
    refine po_getf (v := .ref (l0 + 8)) hF dX7_execute_43 fl_X7_26 kl0 (ly_7_2 (lr_X7_remember HL kl0 hx4) kl0).1 ?_
    refine po_aload_n hF dX7_execute_46 rfl rfl ?_
    refine po_getf (v := .ref (l0 + 99)) hF dX7_execute_47 fl_X7_30 kl0 (ly_7_3 (lr_X7_remember HL kl0 hx4) kl0).1 ?_
    obtain ⟨x5, hx5, hm⟩ := po_bind hm
    refine po_callV (As := [.ref (l0 + 99)]) hF dX7_execute_50 wq_419 mv_X5_copyFrom ws_X5_copyFrom (show po_cl[5]? = some _ from rfl) rfl ((ly_7_2 (lr_X7_remember HL kl0 hx4) kl0).2) (c_X5_copyFrom (lr_X7_remember HL kl0 hx4) ((ly_7_2 (lr_X7_remember HL kl0 hx4) kl0).2) ((ly_7_3 (lr_X7_remember HL kl0 hx4) kl0).2) hx5) rfl (po_rtL hL rfl) (Nat.le_of_ble_eq_true rfl) rfl ?_
    refine po_iload_n hF dX7_execute_53 rfl rfl ?_
    cases hm
    exact po_iret hF hL dX7_execute_54 (by decide) (by decide) rfl rfl rfl (Or.inl rfl)
  · cases hm
    exact po_throw hF hL tw_X7_75_52 dX7_execute_28 dX7_execute_31 dX7_execute_32 dX7_execute_34 dX7_execute_37 (by decide) (Nat.le_of_ble_eq_true rfl) (by decide) (by decide) rfl rfl rfl
theorem c_X7_execute {K : po_K} {R : po_R} {I : po_I} {st : Nat → Nat} {ρ : (Int32 ⊕ String) × po_I × po_R} (HL : po_Lay K R st) {l0 : Nat} (kl0 : K l0 = (18, 8)) (hm : m_X7_execute st I R l0 = some ρ) : po_C st yX7_execute cX7_execute 2 (some .int) 7 1 6 [.ref l0] K R I none (po_oi (ρ.1)) K (ρ.2.2) (ρ.2.1) none := by
  refine po_ofC (by decide +kernel) (Nat.le_of_ble_eq_true rfl) (fun X G hF hL => ?_)
  exact w_X7_execute_e hF hL I R l0 HL kl0 hm
set_option maxRecDepth 20000 in
set_option maxHeartbeats 2000000 in
theorem w_X7_errorPosition_e {X : po_X} {G : po_G} {st : Nat → Nat} {K : po_K} {I : po_I} {R : po_R} {ρ : Int32} (hF : po_F X G cX7_errorPosition RX7 1 st) (hL : po_L X (some .int) 0 0 0 "errorPosition") (HL : po_Lay K R st) (l0 : Nat) (kl0 : K l0 = (18, 8)) (hm : m_X7_errorPosition_e I l0 = some ρ) : po_V X G 1 (po_Q X G (.inl (some (.int ρ))) K R I none 0 0) 0 0 0 [(0, .ref l0)] [] K R I none := by
  unfold m_X7_errorPosition_e at hm
  refine po_aload_n hF dX7_errorPosition_0 rfl rfl ?_
  refine po_getf (v := .ref (l0 + 1)) hF dX7_errorPosition_1 fl_X7_10 kl0 (ly_7_0 HL kl0).1 ?_
  refine po_getf (v := .int (I (l0 + 1) 3)) hF dX7_errorPosition_4 fl_X7_80 ((ly_7_0 HL kl0).2) rfl ?_
  cases hm
  exact po_iret hF hL dX7_errorPosition_7 (by decide) (by decide) rfl rfl rfl (Or.inl rfl)
theorem c_X7_errorPosition {K : po_K} {R : po_R} {I : po_I} {st : Nat → Nat} {ρ : Int32} (HL : po_Lay K R st) {l0 : Nat} (kl0 : K l0 = (18, 8)) (hm : m_X7_errorPosition I l0 = some ρ) : po_C st yX7_errorPosition cX7_errorPosition 1 (some .int) 0 0 0 [.ref l0] K R I none (.inl (some (.int ρ))) K R I none := by
  refine po_ofC (by decide +kernel) (Nat.le_of_ble_eq_true rfl) (fun X G hF hL => ?_)
  exact w_X7_errorPosition_e hF hL HL l0 kl0 hm
set_option maxRecDepth 20000 in
set_option maxHeartbeats 2000000 in
theorem w_X5_ruleOf_27 {X : po_X} {G : po_G} {st : Nat → Nat} {K : po_K} {I : po_I} {R : po_R} {ρ : Int32} (hF : po_F X G cX5_ruleOf RX5 4 st) (hL : po_L X (some .int) 0 0 0 "ruleOf") (HL : po_Lay K R st) (s0 : Int32) (hm : m_X5_ruleOf_27 I s0 = some ρ) : po_V X G 4 (po_Q X G (.inl (some (.int ρ))) K R I none 0 0) 0 0 27 [] [.int s0] K R I none := by
  unfold m_X5_ruleOf_27 at hm
  cases hm
  exact po_iret hF hL dX5_ruleOf_27 (by decide) (by decide) rfl rfl rfl (Or.inl rfl)
set_option maxRecDepth 20000 in
set_option maxHeartbeats 2000000 in
theorem w_X5_ruleOf_26 {X : po_X} {G : po_G} {st : Nat → Nat} {K : po_K} {I : po_I} {R : po_R} {ρ : Int32} (hF : po_F X G cX5_ruleOf RX5 4 st) (hL : po_L X (some .int) 0 0 0 "ruleOf") (HL : po_Lay K R st) (hm : m_X5_ruleOf_26 I = some ρ) : po_V X G 4 (po_Q X G (.inl (some (.int ρ))) K R I none 0 0) 0 0 26 [] [] K R I none := by
  unfold m_X5_ruleOf_26 at hm
  refine po_iconst (v := 0) hF dX5_ruleOf_26 (by decide) ?_
  exact w_X5_ruleOf_27 hF hL HL 0 hm
set_option maxRecDepth 20000 in
set_option maxHeartbeats 2000000 in
theorem w_X5_ruleOf_e {X : po_X} {G : po_G} {st : Nat → Nat} {K : po_K} {I : po_I} {R : po_R} {ρ : Int32} (hF : po_F X G cX5_ruleOf RX5 4 st) (hL : po_L X (some .int) 0 0 0 "ruleOf") (HL : po_Lay K R st) (l0 : Nat) (l1 : Int32) (l2 : Int32) (kl0 : K l0 = (16, 8)) (hm : m_X5_ruleOf_e I l0 l1 l2 = some ρ) : po_V X G 4 (po_Q X G (.inl (some (.int ρ))) K R I none 0 0) 0 0 0 [(0, .ref l0), (1, .int l1), (2, .int l2)] [] K R I none := by
  unfold m_X5_ruleOf_e at hm
  refine po_iload_n hF dX5_ruleOf_0 rfl rfl ?_
  refine po_bipush (v := 7) hF dX5_ruleOf_1 (by decide) ?_
  refine po_imul hF dX5_ruleOf_3 ?_
  refine po_iload_n hF dX5_ruleOf_4 rfl rfl ?_
  refine po_iadd hF dX5_ruleOf_5 ?_
  refine po_top hm (fun v1 hm => ?_)
  refine po_istore_n (L' := [(3, .int v1), (0, .ref l0), (1, .int l1), (2, .int l2)]) hF dX5_ruleOf_6 rfl (by decide) rfl ?_
  refine po_iload_n hF dX5_ruleOf_7 rfl rfl ?_
  refine po_if_lt (tgt := 26) hF dX5_ruleOf_8 (by decide) hm (fun hm => ?_) (fun hm => ?_)
  · refine po_sub (L' := []) rfl ?_
    exact w_X5_ruleOf_26 hF hL HL hm
  · refine po_iload_n hF dX5_ruleOf_11 rfl rfl ?_
    refine po_bipush (v := 28) hF dX5_ruleOf_12 (by decide) ?_
    refine po_icmp_ge (tgt := 26) hF dX5_ruleOf_14 (by decide) hm (fun hm => ?_) (fun hm => ?_)
    · refine po_sub (L' := []) rfl ?_
      exact w_X5_ruleOf_26 hF hL HL hm
    · refine po_aload_n hF dX5_ruleOf_17 rfl rfl ?_
      refine po_getf (v := .ref (l0 + 1)) hF dX5_ruleOf_18 fl_X5_15 kl0 (ly_5_1 HL kl0).1 ?_
      refine po_iload_n hF dX5_ruleOf_21 rfl rfl ?_
      refine po_iald hF dX5_ruleOf_22 ((ly_5_1 HL kl0).2) (Or.inl rfl) hm (fun hm => ?_)
      refine po_goto (tgt := 27) hF dX5_ruleOf_23 (by decide) ?_
      refine po_sub (L' := []) rfl ?_
      exact w_X5_ruleOf_27 hF hL HL (I (l0 + 1) (Int32.toNatClampNeg v1)) hm
theorem c_X5_ruleOf {K : po_K} {R : po_R} {I : po_I} {st : Nat → Nat} {ρ : Int32} (HL : po_Lay K R st) {l0 : Nat} {l1 : Int32} {l2 : Int32} (kl0 : K l0 = (16, 8)) (hm : m_X5_ruleOf I l0 l1 l2 = some ρ) : po_C st yX5_ruleOf cX5_ruleOf 4 (some .int) 0 0 0 [.ref l0, .int l1, .int l2] K R I none (.inl (some (.int ρ))) K R I none := by
  refine po_ofC (by decide +kernel) (Nat.le_of_ble_eq_true rfl) (fun X G hF hL => ?_)
  exact w_X5_ruleOf_e hF hL HL l0 l1 l2 kl0 hm
set_option maxRecDepth 20000 in
set_option maxHeartbeats 2000000 in
theorem w_X7_rule_9 {X : po_X} {G : po_G} {st : Nat → Nat} {K : po_K} {I : po_I} {R : po_R} {ρ : (Int32 ⊕ String)} (hF : po_F X G cX7_rule RX7 3 st) (hL : po_L X (some .int) 6 1 6 "rule") (HL : po_Lay K R st) (hm : m_X7_rule_9 I = some ρ) : po_V X G 3 (po_Q X G (po_oi (ρ)) K R I none 1 6) 0 0 9 [] [] K R I none := by
  unfold m_X7_rule_9 at hm
  cases hm
  exact po_throw hF hL tw_X7_85_87 dX7_rule_9 dX7_rule_12 dX7_rule_13 dX7_rule_15 dX7_rule_18 (by decide) (Nat.le_of_ble_eq_true rfl) (by decide) (by decide) rfl rfl rfl
set_option maxRecDepth 20000 in
set_option maxHeartbeats 2000000 in
theorem w_X7_rule_29 {X : po_X} {G : po_G} {st : Nat → Nat} {K : po_K} {I : po_I} {R : po_R} {ρ : (Int32 ⊕ String)} (hF : po_F X G cX7_rule RX7 3 st) (hL : po_L X (some .int) 6 1 6 "rule") (HL : po_Lay K R st) (hm : m_X7_rule_29 I = some ρ) : po_V X G 3 (po_Q X G (po_oi (ρ)) K R I none 1 6) 0 0 29 [] [] K R I none := by
  unfold m_X7_rule_29 at hm
  cases hm
  exact po_throw hF hL tw_X7_88_52 dX7_rule_29 dX7_rule_32 dX7_rule_33 dX7_rule_35 dX7_rule_38 (by decide) (Nat.le_of_ble_eq_true rfl) (by decide) (by decide) rfl rfl rfl
set_option maxRecDepth 20000 in
set_option maxHeartbeats 2000000 in
theorem w_X7_rule_e {X : po_X} {G : po_G} {st : Nat → Nat} {K : po_K} {I : po_I} {R : po_R} {ρ : (Int32 ⊕ String)} (hF : po_F X G cX7_rule RX7 3 st) (hL : po_L X (some .int) 6 1 6 "rule") (HL : po_Lay K R st) (l0 : Nat) (l1 : Int32) (l2 : Int32) (kl0 : K l0 = (18, 8)) (hm : m_X7_rule_e I l0 l1 l2 = some ρ) : po_V X G 3 (po_Q X G (po_oi (ρ)) K R I none 1 6) 0 0 0 [(0, .ref l0), (1, .int l1), (2, .int l2)] [] K R I none := by
  unfold m_X7_rule_e at hm
  refine po_iload_n hF dX7_rule_0 rfl rfl ?_
  refine po_if_lt (tgt := 9) hF dX7_rule_1 (by decide) hm (fun hm => ?_) (fun hm => ?_)
  · refine po_sub (L' := []) rfl ?_
    exact w_X7_rule_9 hF hL HL hm
  · refine po_iload_n hF dX7_rule_4 rfl rfl ?_
    refine po_iconst (v := 4) hF dX7_rule_5 (by decide) ?_
    refine po_icmp_lt (tgt := 19) hF dX7_rule_6 (by decide) hm (fun hm => ?_) (fun hm => ?_)
    · refine po_iload_n hF dX7_rule_19 rfl rfl ?_
      refine po_if_lt (tgt := 29) hF dX7_rule_20 (by decide) hm (fun hm => ?_) (fun hm => ?_)
      · refine po_sub (L' := []) rfl ?_
        exact w_X7_rule_29 hF hL HL hm
      · refine po_iload_n hF dX7_rule_23 rfl rfl ?_
        refine po_bipush (v := 7) hF dX7_rule_24 (by decide) ?_
        refine po_icmp_lt (tgt := 39) hF dX7_rule_26 (by decide) hm (fun hm => ?_) (fun hm => ?_)
        · refine po_aload_n hF dX7_rule_39 rfl rfl ?_
          refine po_getf (v := .ref (l0 + 8)) hF dX7_rule_40 fl_X7_26 kl0 (ly_7_2 HL kl0).1 ?_
          refine po_iload_n hF dX7_rule_43 rfl rfl ?_
          refine po_iload_n hF dX7_rule_44 rfl rfl ?_
          obtain ⟨x1, hx1, hm⟩ := po_bind hm
          refine po_callV (As := [.int l1, .int l2]) hF dX7_rule_45 wq_714 mv_X5_ruleOf ws_X5_ruleOf (show po_cl[5]? = some _ from rfl) rfl ((ly_7_2 HL kl0).2) (c_X5_ruleOf HL ((ly_7_2 HL kl0).2) hx1) rfl (po_rtL hL rfl) (Nat.le_of_ble_eq_true rfl) rfl ?_
          cases hm
          exact po_iret hF hL dX7_rule_48 (by decide) (by decide) rfl rfl rfl (Or.inl rfl)
        · refine po_sub (L' := []) rfl ?_
          exact w_X7_rule_29 hF hL HL hm
    · refine po_sub (L' := []) rfl ?_
      exact w_X7_rule_9 hF hL HL hm
theorem c_X7_rule {K : po_K} {R : po_R} {I : po_I} {st : Nat → Nat} {ρ : (Int32 ⊕ String)} (HL : po_Lay K R st) {l0 : Nat} {l1 : Int32} {l2 : Int32} (kl0 : K l0 = (18, 8)) (hm : m_X7_rule I l0 l1 l2 = some ρ) : po_C st yX7_rule cX7_rule 3 (some .int) 6 1 6 [.ref l0, .int l1, .int l2] K R I none (po_oi (ρ)) K R I none := by
  refine po_ofC (by decide +kernel) (Nat.le_of_ble_eq_true rfl) (fun X G hF hL => ?_)
  exact w_X7_rule_e hF hL HL l0 l1 l2 kl0 hm
set_option maxRecDepth 20000 in
set_option maxHeartbeats 2000000 in
theorem w_X7_lotOrThrow_15 {X : po_X} {G : po_G} {st : Nat → Nat} {K : po_K} {I : po_I} {R : po_R} {ρ : (Nat ⊕ String)} (hF : po_F X G cX7_lotOrThrow RX7 2 st) (hL : po_L X (some (.object "PermitOffice$Lot")) 6 1 6 "lotOrThrow") (HL : po_Lay K R st) (hm : m_X7_lotOrThrow_15 I = some ρ) : po_V X G 2 (po_Q X G (po_or (ρ)) K R I none 1 6) 0 0 15 [] [] K R I none := by
  unfold m_X7_lotOrThrow_15 at hm
  cases hm
  exact po_throwW hF hL tw_X7_375_87 dX7_lotOrThrow_15 dX7_lotOrThrow_18 dX7_lotOrThrow_19 dX7_lotOrThrow_22 dX7_lotOrThrow_25 (by decide) (Nat.le_of_ble_eq_true rfl) (by decide) (by decide) rfl rfl rfl
set_option maxRecDepth 20000 in
set_option maxHeartbeats 2000000 in
theorem w_X7_lotOrThrow_e {X : po_X} {G : po_G} {st : Nat → Nat} {K : po_K} {I : po_I} {R : po_R} {ρ : (Nat ⊕ String)} (hF : po_F X G cX7_lotOrThrow RX7 2 st) (hL : po_L X (some (.object "PermitOffice$Lot")) 6 1 6 "lotOrThrow") (HL : po_Lay K R st) (l0 : Nat) (l1 : Int32) (kl0 : K l0 = (18, 8)) (hm : m_X7_lotOrThrow_e I l0 l1 = some ρ) : po_V X G 2 (po_Q X G (po_or (ρ)) K R I none 1 6) 0 0 0 [(0, .ref l0), (1, .int l1)] [] K R I none := by
  unfold m_X7_lotOrThrow_e at hm
  refine po_iload_n hF dX7_lotOrThrow_0 rfl rfl ?_
  refine po_if_lt (tgt := 15) hF dX7_lotOrThrow_1 (by decide) hm (fun hm => ?_) (fun hm => ?_)
  · refine po_sub (L' := []) rfl ?_
    exact w_X7_lotOrThrow_15 hF hL HL hm
  · refine po_iload_n hF dX7_lotOrThrow_4 rfl rfl ?_
    refine po_aload_n hF dX7_lotOrThrow_5 rfl rfl ?_
    refine po_getf (v := .ref (l0 + 8)) hF dX7_lotOrThrow_6 fl_X7_26 kl0 (ly_7_2 HL kl0).1 ?_
    refine po_getf (v := .int (I (l0 + 8) 3)) hF dX7_lotOrThrow_9 fl_X7_360 ((ly_7_2 HL kl0).2) rfl ?_
    refine po_icmp_lt (tgt := 26) hF dX7_lotOrThrow_12 (by decide) hm (fun hm => ?_) (fun hm => ?_)
    · refine po_aload_n hF dX7_lotOrThrow_26 rfl rfl ?_
      refine po_getf (v := .ref (l0 + 8)) hF dX7_lotOrThrow_27 fl_X7_26 kl0 (ly_7_2 HL kl0).1 ?_
      refine po_getf (v := .ref ((l0 + 8) + 2)) hF dX7_lotOrThrow_30 fl_X7_377 ((ly_7_2 HL kl0).2) (ly_5_2 HL ((ly_7_2 HL kl0).2)).1 ?_
      refine po_iload_n hF dX7_lotOrThrow_33 rfl rfl ?_
      refine po_aald hF dX7_lotOrThrow_34 ((ly_5_2 HL ((ly_7_2 HL kl0).2)).2) (Or.inl rfl) hm (fun hi1 => (le_5_2 HL ((ly_7_2 HL kl0).2) (po_in_lt hi1)).1) (fun hi1 hm => ?_)
      cases hm
      exact po_aret hF hL dX7_lotOrThrow_35 (by decide) (by decide) rfl rfl rfl (Or.inl rfl)
    · refine po_sub (L' := []) rfl ?_
      exact w_X7_lotOrThrow_15 hF hL HL hm
theorem c_X7_lotOrThrow {K : po_K} {R : po_R} {I : po_I} {st : Nat → Nat} {ρ : (Nat ⊕ String)} (HL : po_Lay K R st) {l0 : Nat} {l1 : Int32} (kl0 : K l0 = (18, 8)) (hm : m_X7_lotOrThrow I l0 l1 = some ρ) : po_C st yX7_lotOrThrow cX7_lotOrThrow 2 (some (.object "PermitOffice$Lot")) 6 1 6 [.ref l0, .int l1] K R I none (po_or (ρ)) K R I none := by
  refine po_ofC (by decide +kernel) (Nat.le_of_ble_eq_true rfl) (fun X G hF hL => ?_)
  exact w_X7_lotOrThrow_e hF hL HL l0 l1 kl0 hm
set_option maxRecDepth 20000 in
set_option maxHeartbeats 2000000 in
theorem w_X2_stands_30 {X : po_X} {G : po_G} {st : Nat → Nat} {K : po_K} {I : po_I} {R : po_R} {ρ : Int32} (hF : po_F X G cX2_stands RX2 1 st) (hL : po_L X (some .boolean) 0 0 0 "stands") (HL : po_Lay K R st) (s0 : Int32) (hm : m_X2_stands_30 I s0 = some ρ) : po_V X G 1 (po_Q X G (.inl (some (.int ρ))) K R I none 0 0) 0 0 30 [] [.int s0] K R I none := by
  unfold m_X2_stands_30 at hm
  obtain ⟨hz, hm⟩ := po_zif hm
  cases hm
  exact po_zret hF hL dX2_stands_30 (po_nz hz) (by decide) (by decide) rfl rfl rfl (Or.inl rfl)
set_option maxRecDepth 20000 in
set_option maxHeartbeats 2000000 in
theorem w_X2_stands_25 {X : po_X} {G : po_G} {st : Nat → Nat} {K : po_K} {I : po_I} {R : po_R} {ρ : Int32} (hF : po_F X G cX2_stands RX2 1 st) (hL : po_L X (some .boolean) 0 0 0 "stands") (HL : po_Lay K R st) (hm : m_X2_stands_25 I = some ρ) : po_V X G 1 (po_Q X G (.inl (some (.int ρ))) K R I none 0 0) 0 0 25 [] [] K R I none := by
  unfold m_X2_stands_25 at hm
  refine po_iconst (v := 1) hF dX2_stands_25 (by decide) ?_
  refine po_goto (tgt := 30) hF dX2_stands_26 (by decide) ?_
  exact w_X2_stands_30 hF hL HL 1 hm
set_option maxRecDepth 20000 in
set_option maxHeartbeats 2000000 in
theorem w_X2_stands_e {X : po_X} {G : po_G} {st : Nat → Nat} {K : po_K} {I : po_I} {R : po_R} {ρ : Int32} (hF : po_F X G cX2_stands RX2 1 st) (hL : po_L X (some .boolean) 0 0 0 "stands") (HL : po_Lay K R st) (l0 : Nat) (kl0 : K l0 = (13, 19)) (hm : m_X2_stands_e I l0 = some ρ) : po_V X G 1 (po_Q X G (.inl (some (.int ρ))) K R I none 0 0) 0 0 0 [(0, .ref l0)] [] K R I none := by
  unfold m_X2_stands_e at hm
  refine po_aload_n hF dX2_stands_0 rfl rfl ?_
  refine po_getf (v := .int (I l0 6)) hF dX2_stands_1 fl_X2_44 kl0 rfl ?_
  refine po_iconst (v := 2) hF dX2_stands_4 (by decide) ?_
  refine po_icmp_eq (tgt := 25) hF dX2_stands_5 (by decide) hm (fun hm => ?_) (fun hm => ?_)
  · refine po_sub (L' := []) rfl ?_
    exact w_X2_stands_25 hF hL HL hm
  · refine po_aload_n hF dX2_stands_8 rfl rfl ?_
    refine po_getf (v := .int (I l0 6)) hF dX2_stands_9 fl_X2_44 kl0 rfl ?_
    refine po_iconst (v := 3) hF dX2_stands_12 (by decide) ?_
    refine po_icmp_eq (tgt := 25) hF dX2_stands_13 (by decide) hm (fun hm => ?_) (fun hm => ?_)
    · refine po_sub (L' := []) rfl ?_
      exact w_X2_stands_25 hF hL HL hm
    · refine po_aload_n hF dX2_stands_16 rfl rfl ?_
      refine po_getf (v := .int (I l0 6)) hF dX2_stands_17 fl_X2_44 kl0 rfl ?_
      refine po_bipush (v := 6) hF dX2_stands_20 (by decide) ?_
      refine po_icmp_ne (tgt := 29) hF dX2_stands_22 (by decide) hm (fun hm => ?_) (fun hm => ?_)
      · refine po_iconst (v := 0) hF dX2_stands_29 (by decide) ?_
        refine po_sub (L' := []) rfl ?_
        exact w_X2_stands_30 hF hL HL 0 hm
      · refine po_sub (L' := []) rfl ?_
        exact w_X2_stands_25 hF hL HL hm
theorem c_X2_stands {K : po_K} {R : po_R} {I : po_I} {st : Nat → Nat} {ρ : Int32} (HL : po_Lay K R st) {l0 : Nat} (kl0 : K l0 = (13, 19)) (hm : m_X2_stands I l0 = some ρ) : po_C st yX2_stands cX2_stands 1 (some .boolean) 0 0 0 [.ref l0] K R I none (.inl (some (.int ρ))) K R I none := by
  refine po_ofC (by decide +kernel) (Nat.le_of_ble_eq_true rfl) (fun X G hF hL => ?_)
  exact w_X2_stands_e hF hL HL l0 kl0 hm
set_option maxRecDepth 20000 in
set_option maxHeartbeats 2000000 in
theorem w_X5_countsFor_n_25 {X : po_X} {G : po_G} {st : Nat → Nat} {K : po_K} {I : po_I} {R : po_R} {ρ : Int32} (hF : po_F X G cX5_countsFor RX5 3 st) (hL : po_L X (some .boolean) 1 0 0 "countsFor") (HL : po_Lay K R st) (s0 : Int32) (hm : m_X5_countsFor_n_25 I s0 = some ρ) : po_V X G 3 (po_Q X G (.inl (some (.int ρ))) K R I none 0 0) 0 0 25 [] [.int s0] K R I none := by
  unfold m_X5_countsFor_n_25 at hm
  obtain ⟨hz, hm⟩ := po_zif hm
  cases hm
  exact po_zret hF hL dX5_countsFor_25 (po_nz hz) (by decide) (by decide) rfl rfl rfl (Or.inl rfl)
set_option maxRecDepth 20000 in
set_option maxHeartbeats 2000000 in
theorem w_X5_countsFor_n_24 {X : po_X} {G : po_G} {st : Nat → Nat} {K : po_K} {I : po_I} {R : po_R} {ρ : Int32} (hF : po_F X G cX5_countsFor RX5 3 st) (hL : po_L X (some .boolean) 1 0 0 "countsFor") (HL : po_Lay K R st) (hm : m_X5_countsFor_n_24 I = some ρ) : po_V X G 3 (po_Q X G (.inl (some (.int ρ))) K R I none 0 0) 0 0 24 [] [] K R I none := by
  unfold m_X5_countsFor_n_24 at hm
  refine po_iconst (v := 0) hF dX5_countsFor_24 (by decide) ?_
  exact w_X5_countsFor_n_25 hF hL HL 0 hm
set_option maxRecDepth 20000 in
set_option maxHeartbeats 2000000 in
theorem w_X5_countsFor_n_e {X : po_X} {G : po_G} {st : Nat → Nat} {K : po_K} {I : po_I} {R : po_R} {ρ : Int32} (hF : po_F X G cX5_countsFor RX5 3 st) (hL : po_L X (some .boolean) 1 0 0 "countsFor") (HL : po_Lay K R st) (l0 : Nat) (l1 : Int32) (kl0 : K l0 = (13, 19)) (hm : m_X5_countsFor_n_e I l0 l1 = some ρ) : po_V X G 3 (po_Q X G (.inl (some (.int ρ))) K R I none 0 0) 0 0 0 [(0, .ref l0), (1, .int l1), (2, .null)] [] K R I none := by
  unfold m_X5_countsFor_n_e at hm
  refine po_aload_n hF dX5_countsFor_0 rfl rfl ?_
  refine po_aloadN_n hF dX5_countsFor_1 rfl rfl ?_
  refine po_acmp_eqN (tgt := 24) hF dX5_countsFor_2 (by decide) ?_
  refine po_aload_n hF dX5_countsFor_5 rfl rfl ?_
  refine po_getf (v := .int (I l0 0)) hF dX5_countsFor_6 fl_X5_103 kl0 rfl ?_
  refine po_iload_n hF dX5_countsFor_9 rfl rfl ?_
  refine po_icmp_ne (tgt := 24) hF dX5_countsFor_10 (by decide) hm (fun hm => ?_) (fun hm => ?_)
  · refine po_sub (L' := []) rfl ?_
    exact w_X5_countsFor_n_24 hF hL HL hm
  · refine po_aload_n hF dX5_countsFor_13 rfl rfl ?_
    obtain ⟨x1, hx1, hm⟩ := po_bind hm
    refine po_callV (As := []) hF dX5_countsFor_14 wq_742 mv_X2_stands ws_X2_stands (show po_cl[2]? = some _ from rfl) rfl kl0 (c_X2_stands HL kl0 hx1) rfl (po_rtL hL rfl) (Nat.le_of_ble_eq_true rfl) rfl ?_
    refine po_if_eq (tgt := 24) hF dX5_countsFor_17 (by decide) hm (fun hm => ?_) (fun hm => ?_)
    · refine po_sub (L' := []) rfl ?_
      exact w_X5_countsFor_n_24 hF hL HL hm
    · refine po_iconst (v := 1) hF dX5_countsFor_20 (by decide) ?_
      refine po_goto (tgt := 25) hF dX5_countsFor_21 (by decide) ?_
      refine po_sub (L' := []) rfl ?_
      exact w_X5_countsFor_n_25 hF hL HL 1 hm
theorem c_X5_countsFor_n {K : po_K} {R : po_R} {I : po_I} {st : Nat → Nat} {ρ : Int32} (HL : po_Lay K R st) {l0 : Nat} {l1 : Int32} (kl0 : K l0 = (13, 19)) (hm : m_X5_countsFor_n I l0 l1 = some ρ) : po_C st yX5_countsFor cX5_countsFor 3 (some .boolean) 1 0 0 [.ref l0, .int l1, .null] K R I none (.inl (some (.int ρ))) K R I none := by
  refine po_ofC (by decide +kernel) (Nat.le_of_ble_eq_true rfl) (fun X G hF hL => ?_)
  exact w_X5_countsFor_n_e hF hL HL l0 l1 kl0 hm
set_option maxRecDepth 20000 in
set_option maxHeartbeats 2000000 in
theorem w_X0_addAll_2 {X : po_X} {G : po_G} {st : Nat → Nat} {K : po_K} {R : po_R} {ρ : po_I} {r2 : po_I → Nat → Nat → Int32 → Option (po_I)} (hF : po_F X G cX0_addAll RX0 3 st) (hL : po_L X none 0 0 0 "addAll") (HL : po_Lay K R st) (h2 : ∀ (I : po_I) (l0 : Nat) (l1 : Nat) (l2 : Int32), r2 I l0 l1 l2 = some ρ → K l0 = (11, 1) → K l1 = (11, 1) → po_V X G 3 (po_Q X G (.inl (none)) K R (ρ) none 0 0) 0 0 2 [(0, .ref l0), (1, .ref l1), (2, .int l2)] [] K R I none) (I : po_I) (l0 : Nat) (l1 : Nat) (l2 : Int32) (kl0 : K l0 = (11, 1)) (kl1 : K l1 = (11, 1)) (hm : m_X0_addAll_2 r2 I l0 l1 l2 = some ρ) : po_V X G 3 (po_Q X G (.inl (none)) K R (ρ) none 0 0) 0 0 2 [(0, .ref l0), (1, .ref l1), (2, .int l2)] [] K R I none := by
  unfold m_X0_addAll_2 at hm
  refine po_iload_n hF dX0_addAll_2 rfl rfl ?_
  refine po_bipush (v := 14) hF dX0_addAll_3 (by decide) ?_
  refine po_icmp_ge (tgt := 29) hF dX0_addAll_5 (by decide) hm (fun hm => ?_) (fun hm => ?_)
  · cases hm
    exact po_vret hF hL dX0_addAll_29 (by decide) (by decide) rfl rfl rfl (Or.inl rfl)
  · refine po_aload_n hF dX0_addAll_8 rfl rfl ?_
    refine po_getf (v := .ref (l0 + 1)) hF dX0_addAll_9 fl_X0_9 kl0 (ly_0_0 HL kl0).1 ?_
    refine po_iload_n hF dX0_addAll_12 rfl rfl ?_
    refine po_dup2 hF dX0_addAll_13 rfl rfl ?_
    refine po_iald hF dX0_addAll_14 ((ly_0_0 HL kl0).2) (Or.inl rfl) hm (fun hm => ?_)
    refine po_aload_n hF dX0_addAll_15 rfl rfl ?_
    refine po_getf (v := .ref (l1 + 1)) hF dX0_addAll_16 fl_X0_9 kl1 (ly_0_0 HL kl1).1 ?_
    refine po_iload_n hF dX0_addAll_19 rfl rfl ?_
    refine po_iald hF dX0_addAll_20 ((ly_0_0 HL kl1).2) (Or.inl rfl) hm (fun hm => ?_)
    refine po_ior hF dX0_addAll_21 ?_
    refine po_iast hF dX0_addAll_22 ((ly_0_0 HL kl0).2) hm rfl (fun hm => ?_)
    refine po_hname hm (fun I1 hm => ?_)
    refine po_iinc (v := l2 + 1) (L' := [(2, .int (l2 + 1)), (0, .ref l0), (1, .ref l1)]) hF dX0_addAll_23 rfl rfl (by decide) rfl ?_
    refine po_goto (tgt := 2) hF dX0_addAll_26 (by decide) ?_
    refine po_sub (L' := [(0, .ref l0), (1, .ref l1), (2, .int (l2 + 1))]) rfl ?_
    exact h2 I1 l0 l1 (l2 + 1) hm kl0 kl1
theorem w_X0_addAll_2L {X : po_X} {G : po_G} {st : Nat → Nat} {K : po_K} {R : po_R} {ρ : po_I} (hF : po_F X G cX0_addAll RX0 3 st) (hL : po_L X none 0 0 0 "addAll") (HL : po_Lay K R st) : ∀ (n : Nat) (I : po_I) (l0 : Nat) (l1 : Nat) (l2 : Int32), m_X0_addAll_2L n I l0 l1 l2 = some ρ → K l0 = (11, 1) → K l1 = (11, 1) → po_V X G 3 (po_Q X G (.inl (none)) K R (ρ) none 0 0) 0 0 2 [(0, .ref l0), (1, .ref l1), (2, .int l2)] [] K R I none := by
  intro n
  induction n with
  | zero => intro I l0 l1 l2 hm; cases hm
  | succ n ih => intro I l0 l1 l2 hm kl0 kl1; exact w_X0_addAll_2 hF hL HL (ih) I l0 l1 l2 kl0 kl1 hm
set_option maxRecDepth 20000 in
set_option maxHeartbeats 2000000 in
theorem w_X0_addAll_e {X : po_X} {G : po_G} {st : Nat → Nat} {K : po_K} {R : po_R} {ρ : po_I} (hF : po_F X G cX0_addAll RX0 3 st) (hL : po_L X none 0 0 0 "addAll") (HL : po_Lay K R st) (I : po_I) (l0 : Nat) (l1 : Nat) (kl0 : K l0 = (11, 1)) (kl1 : K l1 = (11, 1)) (hm : m_X0_addAll_e I l0 l1 = some ρ) : po_V X G 3 (po_Q X G (.inl (none)) K R (ρ) none 0 0) 0 0 0 [(0, .ref l0), (1, .ref l1)] [] K R I none := by
  unfold m_X0_addAll_e at hm
  refine po_iconst (v := 0) hF dX0_addAll_0 (by decide) ?_
  refine po_istore_n (L' := [(2, .int 0), (0, .ref l0), (1, .ref l1)]) hF dX0_addAll_1 rfl (by decide) rfl ?_
  refine po_sub (L' := [(0, .ref l0), (1, .ref l1), (2, .int 0)]) rfl ?_
  exact w_X0_addAll_2L hF hL HL 5000 I l0 l1 0 hm kl0 kl1
theorem c_X0_addAll {K : po_K} {R : po_R} {I : po_I} {st : Nat → Nat} {ρ : po_I} (HL : po_Lay K R st) {l0 : Nat} {l1 : Nat} (kl0 : K l0 = (11, 1)) (kl1 : K l1 = (11, 1)) (hm : m_X0_addAll I l0 l1 = some ρ) : po_C st yX0_addAll cX0_addAll 3 none 0 0 0 [.ref l0, .ref l1] K R I none (.inl (none)) K R (ρ) none := by
  refine po_ofC (by decide +kernel) (Nat.le_of_ble_eq_true rfl) (fun X G hF hL => ?_)
  exact w_X0_addAll_e hF hL HL I l0 l1 kl0 kl1 hm
set_option maxRecDepth 20000 in
set_option maxHeartbeats 2000000 in
theorem w_X5_gatherBuildings_n_45 {X : po_X} {G : po_G} {st : Nat → Nat} {K : po_K} {R : po_R} {ρ : po_I} {r7 : po_I → Nat → Int32 → Nat → Int32 → Option (po_I)} (hF : po_F X G cX5_gatherBuildings RX5 5 st) (hL : po_L X none 2 0 0 "gatherBuildings") (HL : po_Lay K R st) (h7 : ∀ (I : po_I) (l0 : Nat) (l1 : Int32) (l3 : Nat) (l4 : Int32), r7 I l0 l1 l3 l4 = some ρ → K l0 = (16, 8) → K l3 = (11, 1) → po_V X G 5 (po_Q X G (.inl (none)) K R (ρ) none 0 0) 0 0 7 [(0, .ref l0), (1, .int l1), (2, .null), (3, .ref l3), (4, .int l4)] [] K R I none) (I : po_I) (l0 : Nat) (l1 : Int32) (l3 : Nat) (l4 : Int32) (kl0 : K l0 = (16, 8)) (kl3 : K l3 = (11, 1)) (hm : m_X5_gatherBuildings_n_45 r7 I l0 l1 l3 l4 = some ρ) : po_V X G 5 (po_Q X G (.inl (none)) K R (ρ) none 0 0) 0 0 45 [(0, .ref l0), (1, .int l1), (2, .null), (3, .ref l3), (4, .int l4)] [] K R I none := by
  unfold m_X5_gatherBuildings_n_45 at hm
  refine po_iinc (v := l4 + 1) (L' := [(4, .int (l4 + 1)), (0, .ref l0), (1, .int l1), (2, .null), (3, .ref l3)]) hF dX5_gatherBuildings_45 rfl rfl (by decide) rfl ?_
  refine po_goto (tgt := 7) hF dX5_gatherBuildings_48 (by decide) ?_
  refine po_sub (L' := [(0, .ref l0), (1, .int l1), (2, .null), (3, .ref l3), (4, .int (l4 + 1))]) rfl ?_
  exact h7 I l0 l1 l3 (l4 + 1) hm kl0 kl3
set_option maxRecDepth 20000 in
set_option maxHeartbeats 2000000 in
theorem w_X5_gatherBuildings_n_7 {X : po_X} {G : po_G} {st : Nat → Nat} {K : po_K} {R : po_R} {ρ : po_I} {r7 : po_I → Nat → Int32 → Nat → Int32 → Option (po_I)} (hF : po_F X G cX5_gatherBuildings RX5 5 st) (hL : po_L X none 2 0 0 "gatherBuildings") (HL : po_Lay K R st) (h7 : ∀ (I : po_I) (l0 : Nat) (l1 : Int32) (l3 : Nat) (l4 : Int32), r7 I l0 l1 l3 l4 = some ρ → K l0 = (16, 8) → K l3 = (11, 1) → po_V X G 5 (po_Q X G (.inl (none)) K R (ρ) none 0 0) 0 0 7 [(0, .ref l0), (1, .int l1), (2, .null), (3, .ref l3), (4, .int l4)] [] K R I none) (I : po_I) (l0 : Nat) (l1 : Int32) (l3 : Nat) (l4 : Int32) (kl0 : K l0 = (16, 8)) (kl3 : K l3 = (11, 1)) (hm : m_X5_gatherBuildings_n_7 r7 I l0 l1 l3 l4 = some ρ) : po_V X G 5 (po_Q X G (.inl (none)) K R (ρ) none 0 0) 0 0 7 [(0, .ref l0), (1, .int l1), (2, .null), (3, .ref l3), (4, .int l4)] [] K R I none := by
  unfold m_X5_gatherBuildings_n_7 at hm
  refine po_iload hF dX5_gatherBuildings_7 rfl ?_
  refine po_aload_n hF dX5_gatherBuildings_9 rfl rfl ?_
  refine po_getf (v := .int (I l0 5)) hF dX5_gatherBuildings_10 fl_X5_34 kl0 rfl ?_
  refine po_icmp_ge (tgt := 51) hF dX5_gatherBuildings_13 (by decide) hm (fun hm => ?_) (fun hm => ?_)
  · cases hm
    exact po_vret hF hL dX5_gatherBuildings_51 (by decide) (by decide) rfl rfl rfl (Or.inl rfl)
  · refine po_aload_n hF dX5_gatherBuildings_16 rfl rfl ?_
    refine po_getf (v := .ref (l0 + 3)) hF dX5_gatherBuildings_17 fl_X5_30 kl0 (ly_5_4 HL kl0).1 ?_
    refine po_iload hF dX5_gatherBuildings_20 rfl ?_
    refine po_aald hF dX5_gatherBuildings_22 ((ly_5_4 HL kl0).2) (Or.inr (Or.inl rfl)) hm (fun hi1 => (le_5_4 HL kl0 (po_in_lt hi1)).1) (fun hi1 hm => ?_)
    refine po_iload_n hF dX5_gatherBuildings_23 rfl rfl ?_
    refine po_aloadN_n hF dX5_gatherBuildings_24 rfl rfl ?_
    obtain ⟨x2, hx2, hm⟩ := po_bind hm
    refine po_callS (As := [.ref (l0 + (29 + 5 * (Int32.toNatClampNeg l4))), .int l1, .null]) hF dX5_gatherBuildings_25 wq_739 mv_X5_countsFor (c_X5_countsFor_n HL ((le_5_4 HL kl0 (po_in_lt hi1)).2) hx2) rfl (po_rtL hL rfl) (Nat.le_of_ble_eq_true rfl) rfl ?_
    refine po_if_eq (tgt := 45) hF dX5_gatherBuildings_28 (by decide) hm (fun hm => ?_) (fun hm => ?_)
    · exact w_X5_gatherBuildings_n_45 hF hL HL h7 I l0 l1 l3 l4 kl0 kl3 hm
    · refine po_aload_n hF dX5_gatherBuildings_31 rfl rfl ?_
      refine po_aload_n hF dX5_gatherBuildings_32 rfl rfl ?_
      refine po_getf (v := .ref (l0 + 3)) hF dX5_gatherBuildings_33 fl_X5_30 kl0 (ly_5_4 HL kl0).1 ?_
      refine po_iload hF dX5_gatherBuildings_36 rfl ?_
      refine po_aald hF dX5_gatherBuildings_38 ((ly_5_4 HL kl0).2) (Or.inr (Or.inl rfl)) hm (fun hi3 => (le_5_4 HL kl0 (po_in_lt hi3)).1) (fun hi3 hm => ?_)
      refine po_getf (v := .ref ((l0 + (29 + 5 * (Int32.toNatClampNeg l4))) + 1)) hF dX5_gatherBuildings_39 fl_X5_93 ((le_5_4 HL kl0 (po_in_lt hi3)).2) (ly_2_4 HL ((le_5_4 HL kl0 (po_in_lt hi3)).2)).1 ?_
      obtain ⟨x4, hx4, hm⟩ := po_bind hm
      refine po_callV (As := [.ref ((l0 + (29 + 5 * (Int32.toNatClampNeg l4))) + 1)]) hF dX5_gatherBuildings_42 wq_746 mv_X0_addAll ws_X0_addAll (show po_cl[0]? = some _ from rfl) rfl kl3 (c_X0_addAll HL kl3 ((ly_2_4 HL ((le_5_4 HL kl0 (po_in_lt hi3)).2)).2) hx4) rfl (po_rtL hL rfl) (Nat.le_of_ble_eq_true rfl) rfl ?_
      exact w_X5_gatherBuildings_n_45 hF hL HL h7 x4 l0 l1 l3 l4 kl0 kl3 hm
theorem w_X5_gatherBuildings_n_7L {X : po_X} {G : po_G} {st : Nat → Nat} {K : po_K} {R : po_R} {ρ : po_I} (hF : po_F X G cX5_gatherBuildings RX5 5 st) (hL : po_L X none 2 0 0 "gatherBuildings") (HL : po_Lay K R st) : ∀ (n : Nat) (I : po_I) (l0 : Nat) (l1 : Int32) (l3 : Nat) (l4 : Int32), m_X5_gatherBuildings_n_7L n I l0 l1 l3 l4 = some ρ → K l0 = (16, 8) → K l3 = (11, 1) → po_V X G 5 (po_Q X G (.inl (none)) K R (ρ) none 0 0) 0 0 7 [(0, .ref l0), (1, .int l1), (2, .null), (3, .ref l3), (4, .int l4)] [] K R I none := by
  intro n
  induction n with
  | zero => intro I l0 l1 l3 l4 hm; cases hm
  | succ n ih => intro I l0 l1 l3 l4 hm kl0 kl3; exact w_X5_gatherBuildings_n_7 hF hL HL (ih) I l0 l1 l3 l4 kl0 kl3 hm
set_option maxRecDepth 20000 in
set_option maxHeartbeats 2000000 in
theorem w_X5_gatherBuildings_n_e {X : po_X} {G : po_G} {st : Nat → Nat} {K : po_K} {R : po_R} {ρ : po_I} (hF : po_F X G cX5_gatherBuildings RX5 5 st) (hL : po_L X none 2 0 0 "gatherBuildings") (HL : po_Lay K R st) (I : po_I) (l0 : Nat) (l1 : Int32) (l3 : Nat) (kl0 : K l0 = (16, 8)) (kl3 : K l3 = (11, 1)) (hm : m_X5_gatherBuildings_n_e I l0 l1 l3 = some ρ) : po_V X G 5 (po_Q X G (.inl (none)) K R (ρ) none 0 0) 0 0 0 [(0, .ref l0), (1, .int l1), (2, .null), (3, .ref l3)] [] K R I none := by
  unfold m_X5_gatherBuildings_n_e at hm
  refine po_aload_n hF dX5_gatherBuildings_0 rfl rfl ?_
  obtain ⟨x5, hx5, hm⟩ := po_bind hm
  refine po_callV (As := []) hF dX5_gatherBuildings_1 wq_738 mv_X0_clear ws_X0_clear (show po_cl[0]? = some _ from rfl) rfl kl3 (c_X0_clear HL kl3 hx5) rfl (po_rtL hL rfl) (Nat.le_of_ble_eq_true rfl) rfl ?_
  refine po_iconst (v := 0) hF dX5_gatherBuildings_4 (by decide) ?_
  refine po_istore (L' := [(4, .int 0), (0, .ref l0), (1, .int l1), (2, .null), (3, .ref l3)]) hF dX5_gatherBuildings_5 (by decide) rfl ?_
  refine po_sub (L' := [(0, .ref l0), (1, .int l1), (2, .null), (3, .ref l3), (4, .int 0)]) rfl ?_
  exact w_X5_gatherBuildings_n_7L hF hL HL 5000 x5 l0 l1 l3 0 hm kl0 kl3
theorem c_X5_gatherBuildings_n {K : po_K} {R : po_R} {I : po_I} {st : Nat → Nat} {ρ : po_I} (HL : po_Lay K R st) {l0 : Nat} {l1 : Int32} {l3 : Nat} (kl0 : K l0 = (16, 8)) (kl3 : K l3 = (11, 1)) (hm : m_X5_gatherBuildings_n I l0 l1 l3 = some ρ) : po_C st yX5_gatherBuildings cX5_gatherBuildings 5 none 2 0 0 [.ref l0, .int l1, .null, .ref l3] K R I none (.inl (none)) K R (ρ) none := by
  refine po_ofC (by decide +kernel) (Nat.le_of_ble_eq_true rfl) (fun X G hF hL => ?_)
  exact w_X5_gatherBuildings_n_e hF hL HL I l0 l1 l3 kl0 kl3 hm
set_option maxRecDepth 20000 in
set_option maxHeartbeats 2000000 in
theorem w_X5_lotAt_27 {X : po_X} {G : po_G} {st : Nat → Nat} {K : po_K} {I : po_I} {R : po_R} {ρ : Nat} (hF : po_F X G cX5_lotAt RX5 2 st) (hL : po_L X (some (.object "PermitOffice$Lot")) 0 0 0 "lotAt") (HL : po_Lay K R st) (s0 : Nat) (ks0 : K s0 = (12, 4)) (hm : m_X5_lotAt_27 I s0 = some ρ) : po_V X G 2 (po_Q X G (.inl (some (.ref ρ))) K R I none 0 0) 0 0 27 [] [.ref s0] K R I none := by
  unfold m_X5_lotAt_27 at hm
  cases hm
  exact po_aret hF hL dX5_lotAt_27 (by decide) (by decide) rfl rfl rfl (Or.inl rfl)
set_option maxRecDepth 20000 in
set_option maxHeartbeats 2000000 in
theorem w_X5_lotAt_21 {X : po_X} {G : po_G} {st : Nat → Nat} {K : po_K} {I : po_I} {R : po_R} {ρ : Nat} (hF : po_F X G cX5_lotAt RX5 2 st) (hL : po_L X (some (.object "PermitOffice$Lot")) 0 0 0 "lotAt") (HL : po_Lay K R st) (l0 : Nat) (kl0 : K l0 = (16, 8)) (hm : m_X5_lotAt_21 I l0 = some ρ) : po_V X G 2 (po_Q X G (.inl (some (.ref ρ))) K R I none 0 0) 0 0 21 [(0, .ref l0)] [] K R I none := by
  unfold m_X5_lotAt_21 at hm
  refine po_aload_n hF dX5_lotAt_21 rfl rfl ?_
  refine po_getf (v := .ref (l0 + 2)) hF dX5_lotAt_22 fl_X5_21 kl0 (ly_5_2 HL kl0).1 ?_
  refine po_iconst (v := 0) hF dX5_lotAt_25 (by decide) ?_
  refine po_aaldC (j := 0) hF dX5_lotAt_26 ((ly_5_2 HL kl0).2) (Or.inl rfl) (by decide) (by decide) (by decide) (le_5_2 HL kl0 (j := 0) (by decide)).1 ?_
  refine po_sub (L' := []) rfl ?_
  exact w_X5_lotAt_27 hF hL HL (l0 + (5 + 3 * 0)) ((le_5_2 HL kl0 (j := 0) (by decide)).2) hm
set_option maxRecDepth 20000 in
set_option maxHeartbeats 2000000 in
theorem w_X5_lotAt_e {X : po_X} {G : po_G} {st : Nat → Nat} {K : po_K} {I : po_I} {R : po_R} {ρ : Nat} (hF : po_F X G cX5_lotAt RX5 2 st) (hL : po_L X (some (.object "PermitOffice$Lot")) 0 0 0 "lotAt") (HL : po_Lay K R st) (l0 : Nat) (l1 : Int32) (kl0 : K l0 = (16, 8)) (hm : m_X5_lotAt_e I l0 l1 = some ρ) : po_V X G 2 (po_Q X G (.inl (some (.ref ρ))) K R I none 0 0) 0 0 0 [(0, .ref l0), (1, .int l1)] [] K R I none := by
  unfold m_X5_lotAt_e at hm
  refine po_iload_n hF dX5_lotAt_0 rfl rfl ?_
  refine po_if_lt (tgt := 21) hF dX5_lotAt_1 (by decide) hm (fun hm => ?_) (fun hm => ?_)
  · refine po_sub (L' := [(0, .ref l0)]) rfl ?_
    exact w_X5_lotAt_21 hF hL HL l0 kl0 hm
  · refine po_iload_n hF dX5_lotAt_4 rfl rfl ?_
    refine po_aload_n hF dX5_lotAt_5 rfl rfl ?_
    refine po_getf (v := .int (I l0 3)) hF dX5_lotAt_6 fl_X5_25 kl0 rfl ?_
    refine po_icmp_ge (tgt := 21) hF dX5_lotAt_9 (by decide) hm (fun hm => ?_) (fun hm => ?_)
    · refine po_sub (L' := [(0, .ref l0)]) rfl ?_
      exact w_X5_lotAt_21 hF hL HL l0 kl0 hm
    · refine po_aload_n hF dX5_lotAt_12 rfl rfl ?_
      refine po_getf (v := .ref (l0 + 2)) hF dX5_lotAt_13 fl_X5_21 kl0 (ly_5_2 HL kl0).1 ?_
      refine po_iload_n hF dX5_lotAt_16 rfl rfl ?_
      refine po_aald hF dX5_lotAt_17 ((ly_5_2 HL kl0).2) (Or.inl rfl) hm (fun hi1 => (le_5_2 HL kl0 (po_in_lt hi1)).1) (fun hi1 hm => ?_)
      refine po_goto (tgt := 27) hF dX5_lotAt_18 (by decide) ?_
      refine po_sub (L' := []) rfl ?_
      exact w_X5_lotAt_27 hF hL HL (l0 + (5 + 3 * (Int32.toNatClampNeg l1))) ((le_5_2 HL kl0 (po_in_lt hi1)).2) hm
theorem c_X5_lotAt {K : po_K} {R : po_R} {I : po_I} {st : Nat → Nat} {ρ : Nat} (HL : po_Lay K R st) {l0 : Nat} {l1 : Int32} (kl0 : K l0 = (16, 8)) (hm : m_X5_lotAt I l0 l1 = some ρ) : po_C st yX5_lotAt cX5_lotAt 2 (some (.object "PermitOffice$Lot")) 0 0 0 [.ref l0, .int l1] K R I none (.inl (some (.ref ρ))) K R I none := by
  refine po_ofC (by decide +kernel) (Nat.le_of_ble_eq_true rfl) (fun X G hF hL => ?_)
  exact w_X5_lotAt_e hF hL HL l0 l1 kl0 hm
set_option maxRecDepth 20000 in
set_option maxHeartbeats 2000000 in
theorem w_X4_builtCells_e {X : po_X} {G : po_G} {st : Nat → Nat} {K : po_K} {R : po_R} {ρ : Int32 × po_I} (hF : po_F X G cX4_builtCells RX4 3 st) (hL : po_L X (some .int) 3 0 0 "builtCells") (HL : po_Lay K R st) (I : po_I) (l0 : Nat) (l1 : Nat) (l2 : Int32) (kl0 : K l0 = (15, 2)) (kl1 : K l1 = (16, 8)) (hm : m_X4_builtCells_e I l0 l1 l2 = some ρ) : po_V X G 3 (po_Q X G (.inl (some (.int ρ.1))) K R (ρ.2) none 0 0) 0 0 0 [(0, .ref l0), (1, .ref l1), (2, .int l2)] [] K R I none := by
  unfold m_X4_builtCells_e at hm
  refine po_aload_n hF dX4_builtCells_0 rfl rfl ?_
  refine po_iload_n hF dX4_builtCells_1 rfl rfl ?_
  refine po_null hF dX4_builtCells_2 ?_
  refine po_aload_n hF dX4_builtCells_3 rfl rfl ?_
  refine po_getf (v := .ref (l0 + 1)) hF dX4_builtCells_4 fl_X4_12 kl0 (ly_4_0 HL kl0).1 ?_
  obtain ⟨x1, hx1, hm⟩ := po_bind hm
  refine po_callV (As := [.int l2, .null, .ref (l0 + 1)]) hF dX4_builtCells_7 wq_734 mv_X5_gatherBuildings ws_X5_gatherBuildings (show po_cl[5]? = some _ from rfl) rfl kl1 (c_X5_gatherBuildings_n HL kl1 ((ly_4_0 HL kl0).2) hx1) rfl (po_rtL hL rfl) (Nat.le_of_ble_eq_true rfl) rfl ?_
  refine po_aload_n hF dX4_builtCells_10 rfl rfl ?_
  refine po_getf (v := .ref (l0 + 1)) hF dX4_builtCells_11 fl_X4_12 kl0 (ly_4_0 HL kl0).1 ?_
  refine po_aload_n hF dX4_builtCells_14 rfl rfl ?_
  refine po_iload_n hF dX4_builtCells_15 rfl rfl ?_
  obtain ⟨x2, hx2, hm⟩ := po_bind hm
  refine po_callV (As := [.int l2]) hF dX4_builtCells_16 wq_750 mv_X5_lotAt ws_X5_lotAt (show po_cl[5]? = some _ from rfl) rfl kl1 (c_X5_lotAt HL kl1 hx2) rfl (po_rtL hL rfl) (Nat.le_of_ble_eq_true rfl) rfl ?_
  refine po_getf (v := .ref (x2 + 1)) hF dX4_builtCells_19 fl_X4_36 (kr_X5_lotAt HL kl1 hx2) (ly_1_2 HL (kr_X5_lotAt HL kl1 hx2)).1 ?_
  obtain ⟨x3, hx3, hm⟩ := po_bind hm
  refine po_callV (As := [.ref (x2 + 1)]) hF dX4_builtCells_22 wq_754 mv_X0_cellsIn ws_X0_cellsIn (show po_cl[0]? = some _ from rfl) rfl ((ly_4_0 HL kl0).2) (c_X0_cellsIn HL ((ly_4_0 HL kl0).2) ((ly_1_2 HL (kr_X5_lotAt HL kl1 hx2)).2) hx3) rfl (po_rtL hL rfl) (Nat.le_of_ble_eq_true rfl) rfl ?_
  cases hm
  exact po_iret hF hL dX4_builtCells_25 (by decide) (by decide) rfl rfl rfl (Or.inl rfl)
theorem c_X4_builtCells {K : po_K} {R : po_R} {I : po_I} {st : Nat → Nat} {ρ : Int32 × po_I} (HL : po_Lay K R st) {l0 : Nat} {l1 : Nat} {l2 : Int32} (kl0 : K l0 = (15, 2)) (kl1 : K l1 = (16, 8)) (hm : m_X4_builtCells I l0 l1 l2 = some ρ) : po_C st yX4_builtCells cX4_builtCells 3 (some .int) 3 0 0 [.ref l0, .ref l1, .int l2] K R I none (.inl (some (.int ρ.1))) K R (ρ.2) none := by
  refine po_ofC (by decide +kernel) (Nat.le_of_ble_eq_true rfl) (fun X G hF hL => ?_)
  exact w_X4_builtCells_e hF hL HL I l0 l1 l2 kl0 kl1 hm
set_option maxRecDepth 20000 in
set_option maxHeartbeats 2000000 in
theorem w_X5_standingFloorArea_n_42 {X : po_X} {G : po_G} {st : Nat → Nat} {K : po_K} {I : po_I} {R : po_R} {ρ : Int32} {r5 : Nat → Int32 → Int32 → Int32 → Option (Int32)} (hF : po_F X G cX5_standingFloorArea RX5 5 st) (hL : po_L X (some .int) 2 0 0 "standingFloorArea") (HL : po_Lay K R st) (h5 : ∀ (l0 : Nat) (l1 : Int32) (l3 : Int32) (l4 : Int32), r5 l0 l1 l3 l4 = some ρ → K l0 = (16, 8) → po_V X G 5 (po_Q X G (.inl (some (.int ρ))) K R I none 0 0) 0 0 5 [(0, .ref l0), (1, .int l1), (2, .null), (3, .int l3), (4, .int l4)] [] K R I none) (l0 : Nat) (l1 : Int32) (l3 : Int32) (l4 : Int32) (kl0 : K l0 = (16, 8)) (hm : m_X5_standingFloorArea_n_42 I r5 l0 l1 l3 l4 = some ρ) : po_V X G 5 (po_Q X G (.inl (some (.int ρ))) K R I none 0 0) 0 0 42 [(0, .ref l0), (1, .int l1), (2, .null), (3, .int l3), (4, .int l4)] [] K R I none := by
  unfold m_X5_standingFloorArea_n_42 at hm
  refine po_iinc (v := l4 + 1) (L' := [(4, .int (l4 + 1)), (0, .ref l0), (1, .int l1), (2, .null), (3, .int l3)]) hF dX5_standingFloorArea_42 rfl rfl (by decide) rfl ?_
  refine po_goto (tgt := 5) hF dX5_standingFloorArea_45 (by decide) ?_
  refine po_sub (L' := [(0, .ref l0), (1, .int l1), (2, .null), (3, .int l3), (4, .int (l4 + 1))]) rfl ?_
  exact h5 l0 l1 l3 (l4 + 1) hm kl0
set_option maxRecDepth 20000 in
set_option maxHeartbeats 2000000 in
theorem w_X5_standingFloorArea_n_5 {X : po_X} {G : po_G} {st : Nat → Nat} {K : po_K} {I : po_I} {R : po_R} {ρ : Int32} {r5 : Nat → Int32 → Int32 → Int32 → Option (Int32)} (hF : po_F X G cX5_standingFloorArea RX5 5 st) (hL : po_L X (some .int) 2 0 0 "standingFloorArea") (HL : po_Lay K R st) (h5 : ∀ (l0 : Nat) (l1 : Int32) (l3 : Int32) (l4 : Int32), r5 l0 l1 l3 l4 = some ρ → K l0 = (16, 8) → po_V X G 5 (po_Q X G (.inl (some (.int ρ))) K R I none 0 0) 0 0 5 [(0, .ref l0), (1, .int l1), (2, .null), (3, .int l3), (4, .int l4)] [] K R I none) (l0 : Nat) (l1 : Int32) (l3 : Int32) (l4 : Int32) (kl0 : K l0 = (16, 8)) (hm : m_X5_standingFloorArea_n_5 I r5 l0 l1 l3 l4 = some ρ) : po_V X G 5 (po_Q X G (.inl (some (.int ρ))) K R I none 0 0) 0 0 5 [(0, .ref l0), (1, .int l1), (2, .null), (3, .int l3), (4, .int l4)] [] K R I none := by
  unfold m_X5_standingFloorArea_n_5 at hm
  refine po_iload hF dX5_standingFloorArea_5 rfl ?_
  refine po_aload_n hF dX5_standingFloorArea_7 rfl rfl ?_
  refine po_getf (v := .int (I l0 5)) hF dX5_standingFloorArea_8 fl_X5_34 kl0 rfl ?_
  refine po_icmp_ge (tgt := 48) hF dX5_standingFloorArea_11 (by decide) hm (fun hm => ?_) (fun hm => ?_)
  · refine po_iload_n hF dX5_standingFloorArea_48 rfl rfl ?_
    cases hm
    exact po_iret hF hL dX5_standingFloorArea_49 (by decide) (by decide) rfl rfl rfl (Or.inl rfl)
  · refine po_aload_n hF dX5_standingFloorArea_14 rfl rfl ?_
    refine po_getf (v := .ref (l0 + 3)) hF dX5_standingFloorArea_15 fl_X5_30 kl0 (ly_5_4 HL kl0).1 ?_
    refine po_iload hF dX5_standingFloorArea_18 rfl ?_
    refine po_aald hF dX5_standingFloorArea_20 ((ly_5_4 HL kl0).2) (Or.inr (Or.inl rfl)) hm (fun hi1 => (le_5_4 HL kl0 (po_in_lt hi1)).1) (fun hi1 hm => ?_)
    refine po_iload_n hF dX5_standingFloorArea_21 rfl rfl ?_
    refine po_aloadN_n hF dX5_standingFloorArea_22 rfl rfl ?_
    obtain ⟨x2, hx2, hm⟩ := po_bind hm
    refine po_callS (As := [.ref (l0 + (29 + 5 * (Int32.toNatClampNeg l4))), .int l1, .null]) hF dX5_standingFloorArea_23 wq_739 mv_X5_countsFor (c_X5_countsFor_n HL ((le_5_4 HL kl0 (po_in_lt hi1)).2) hx2) rfl (po_rtL hL rfl) (Nat.le_of_ble_eq_true rfl) rfl ?_
    refine po_if_eq (tgt := 42) hF dX5_standingFloorArea_26 (by decide) hm (fun hm => ?_) (fun hm => ?_)
    · exact w_X5_standingFloorArea_n_42 hF hL HL h5 l0 l1 l3 l4 kl0 hm
    · refine po_iload_n hF dX5_standingFloorArea_29 rfl rfl ?_
      refine po_aload_n hF dX5_standingFloorArea_30 rfl rfl ?_
      refine po_getf (v := .ref (l0 + 3)) hF dX5_standingFloorArea_31 fl_X5_30 kl0 (ly_5_4 HL kl0).1 ?_
      refine po_iload hF dX5_standingFloorArea_34 rfl ?_
      refine po_aald hF dX5_standingFloorArea_36 ((ly_5_4 HL kl0).2) (Or.inr (Or.inl rfl)) hm (fun hi3 => (le_5_4 HL kl0 (po_in_lt hi3)).1) (fun hi3 hm => ?_)
      obtain ⟨x4, hx4, hm⟩ := po_bind hm
      refine po_callV (As := []) hF dX5_standingFloorArea_37 wq_759 mv_X2_floorArea ws_X2_floorArea (show po_cl[2]? = some _ from rfl) rfl ((le_5_4 HL kl0 (po_in_lt hi3)).2) (c_X2_floorArea HL ((le_5_4 HL kl0 (po_in_lt hi3)).2) hx4) rfl (po_rtL hL rfl) (Nat.le_of_ble_eq_true rfl) rfl ?_
      refine po_iadd hF dX5_standingFloorArea_40 ?_
      refine po_top hm (fun v5 hm => ?_)
      refine po_istore_n (L' := [(3, .int v5), (0, .ref l0), (1, .int l1), (2, .null), (4, .int l4)]) hF dX5_standingFloorArea_41 rfl (by decide) rfl ?_
      refine po_sub (L' := [(0, .ref l0), (1, .int l1), (2, .null), (3, .int v5), (4, .int l4)]) rfl ?_
      exact w_X5_standingFloorArea_n_42 hF hL HL h5 l0 l1 v5 l4 kl0 hm
theorem w_X5_standingFloorArea_n_5L {X : po_X} {G : po_G} {st : Nat → Nat} {K : po_K} {I : po_I} {R : po_R} {ρ : Int32} (hF : po_F X G cX5_standingFloorArea RX5 5 st) (hL : po_L X (some .int) 2 0 0 "standingFloorArea") (HL : po_Lay K R st) : ∀ (n : Nat) (l0 : Nat) (l1 : Int32) (l3 : Int32) (l4 : Int32), m_X5_standingFloorArea_n_5L I n l0 l1 l3 l4 = some ρ → K l0 = (16, 8) → po_V X G 5 (po_Q X G (.inl (some (.int ρ))) K R I none 0 0) 0 0 5 [(0, .ref l0), (1, .int l1), (2, .null), (3, .int l3), (4, .int l4)] [] K R I none := by
  intro n
  induction n with
  | zero => intro l0 l1 l3 l4 hm; cases hm
  | succ n ih => intro l0 l1 l3 l4 hm kl0; exact w_X5_standingFloorArea_n_5 hF hL HL (ih) l0 l1 l3 l4 kl0 hm
set_option maxRecDepth 20000 in
set_option maxHeartbeats 2000000 in
theorem w_X5_standingFloorArea_n_e {X : po_X} {G : po_G} {st : Nat → Nat} {K : po_K} {I : po_I} {R : po_R} {ρ : Int32} (hF : po_F X G cX5_standingFloorArea RX5 5 st) (hL : po_L X (some .int) 2 0 0 "standingFloorArea") (HL : po_Lay K R st) (l0 : Nat) (l1 : Int32) (kl0 : K l0 = (16, 8)) (hm : m_X5_standingFloorArea_n_e I l0 l1 = some ρ) : po_V X G 5 (po_Q X G (.inl (some (.int ρ))) K R I none 0 0) 0 0 0 [(0, .ref l0), (1, .int l1), (2, .null)] [] K R I none := by
  unfold m_X5_standingFloorArea_n_e at hm
  refine po_iconst (v := 0) hF dX5_standingFloorArea_0 (by decide) ?_
  refine po_istore_n (L' := [(3, .int 0), (0, .ref l0), (1, .int l1), (2, .null)]) hF dX5_standingFloorArea_1 rfl (by decide) rfl ?_
  refine po_iconst (v := 0) hF dX5_standingFloorArea_2 (by decide) ?_
  refine po_istore (L' := [(4, .int 0), (3, .int 0), (0, .ref l0), (1, .int l1), (2, .null)]) hF dX5_standingFloorArea_3 (by decide) rfl ?_
  refine po_sub (L' := [(0, .ref l0), (1, .int l1), (2, .null), (3, .int 0), (4, .int 0)]) rfl ?_
  exact w_X5_standingFloorArea_n_5L hF hL HL 5000 l0 l1 0 0 hm kl0
theorem c_X5_standingFloorArea_n {K : po_K} {R : po_R} {I : po_I} {st : Nat → Nat} {ρ : Int32} (HL : po_Lay K R st) {l0 : Nat} {l1 : Int32} (kl0 : K l0 = (16, 8)) (hm : m_X5_standingFloorArea_n I l0 l1 = some ρ) : po_C st yX5_standingFloorArea cX5_standingFloorArea 5 (some .int) 2 0 0 [.ref l0, .int l1, .null] K R I none (.inl (some (.int ρ))) K R I none := by
  refine po_ofC (by decide +kernel) (Nat.le_of_ble_eq_true rfl) (fun X G hF hL => ?_)
  exact w_X5_standingFloorArea_n_e hF hL HL l0 l1 kl0 hm
set_option maxRecDepth 20000 in
set_option maxHeartbeats 2000000 in
theorem w_X0_rowOf_20 {X : po_X} {G : po_G} {st : Nat → Nat} {K : po_K} {I : po_I} {R : po_R} {ρ : Int32} (hF : po_F X G cX0_rowOf RX0 2 st) (hL : po_L X (some .int) 0 0 0 "rowOf") (HL : po_Lay K R st) (s0 : Int32) (hm : m_X0_rowOf_20 I s0 = some ρ) : po_V X G 2 (po_Q X G (.inl (some (.int ρ))) K R I none 0 0) 0 0 20 [] [.int s0] K R I none := by
  unfold m_X0_rowOf_20 at hm
  cases hm
  exact po_iret hF hL dX0_rowOf_20 (by decide) (by decide) rfl rfl rfl (Or.inl rfl)
set_option maxRecDepth 20000 in
set_option maxHeartbeats 2000000 in
theorem w_X0_rowOf_19 {X : po_X} {G : po_G} {st : Nat → Nat} {K : po_K} {I : po_I} {R : po_R} {ρ : Int32} (hF : po_F X G cX0_rowOf RX0 2 st) (hL : po_L X (some .int) 0 0 0 "rowOf") (HL : po_Lay K R st) (hm : m_X0_rowOf_19 I = some ρ) : po_V X G 2 (po_Q X G (.inl (some (.int ρ))) K R I none 0 0) 0 0 19 [] [] K R I none := by
  unfold m_X0_rowOf_19 at hm
  refine po_iconst (v := 0) hF dX0_rowOf_19 (by decide) ?_
  exact w_X0_rowOf_20 hF hL HL 0 hm
set_option maxRecDepth 20000 in
set_option maxHeartbeats 2000000 in
theorem w_X0_rowOf_e {X : po_X} {G : po_G} {st : Nat → Nat} {K : po_K} {I : po_I} {R : po_R} {ρ : Int32} (hF : po_F X G cX0_rowOf RX0 2 st) (hL : po_L X (some .int) 0 0 0 "rowOf") (HL : po_Lay K R st) (l0 : Nat) (l1 : Int32) (kl0 : K l0 = (11, 1)) (hm : m_X0_rowOf_e I l0 l1 = some ρ) : po_V X G 2 (po_Q X G (.inl (some (.int ρ))) K R I none 0 0) 0 0 0 [(0, .ref l0), (1, .int l1)] [] K R I none := by
  unfold m_X0_rowOf_e at hm
  refine po_iload_n hF dX0_rowOf_0 rfl rfl ?_
  refine po_if_lt (tgt := 19) hF dX0_rowOf_1 (by decide) hm (fun hm => ?_) (fun hm => ?_)
  · refine po_sub (L' := []) rfl ?_
    exact w_X0_rowOf_19 hF hL HL hm
  · refine po_iload_n hF dX0_rowOf_4 rfl rfl ?_
    refine po_bipush (v := 14) hF dX0_rowOf_5 (by decide) ?_
    refine po_icmp_ge (tgt := 19) hF dX0_rowOf_7 (by decide) hm (fun hm => ?_) (fun hm => ?_)
    · refine po_sub (L' := []) rfl ?_
      exact w_X0_rowOf_19 hF hL HL hm
    · refine po_aload_n hF dX0_rowOf_10 rfl rfl ?_
      refine po_getf (v := .ref (l0 + 1)) hF dX0_rowOf_11 fl_X0_9 kl0 (ly_0_0 HL kl0).1 ?_
      refine po_iload_n hF dX0_rowOf_14 rfl rfl ?_
      refine po_iald hF dX0_rowOf_15 ((ly_0_0 HL kl0).2) (Or.inl rfl) hm (fun hm => ?_)
      refine po_goto (tgt := 20) hF dX0_rowOf_16 (by decide) ?_
      refine po_sub (L' := []) rfl ?_
      exact w_X0_rowOf_20 hF hL HL (I (l0 + 1) (Int32.toNatClampNeg l1)) hm
theorem c_X0_rowOf {K : po_K} {R : po_R} {I : po_I} {st : Nat → Nat} {ρ : Int32} (HL : po_Lay K R st) {l0 : Nat} {l1 : Int32} (kl0 : K l0 = (11, 1)) (hm : m_X0_rowOf I l0 l1 = some ρ) : po_C st yX0_rowOf cX0_rowOf 2 (some .int) 0 0 0 [.ref l0, .int l1] K R I none (.inl (some (.int ρ))) K R I none := by
  refine po_ofC (by decide +kernel) (Nat.le_of_ble_eq_true rfl) (fun X G hF hL => ?_)
  exact w_X0_rowOf_e hF hL HL l0 l1 kl0 hm
set_option maxRecDepth 20000 in
set_option maxHeartbeats 2000000 in
theorem w_X0_untouchedSides_4 {X : po_X} {G : po_G} {st : Nat → Nat} {K : po_K} {I : po_I} {R : po_R} {ρ : Int32} {r4 : Nat → Int32 → Int32 → Option (Int32)} (hF : po_F X G cX0_untouchedSides RX0 4 st) (hL : po_L X (some .int) 1 0 0 "untouchedSides") (HL : po_Lay K R st) (h4 : ∀ (l0 : Nat) (l1 : Int32) (l2 : Int32), r4 l0 l1 l2 = some ρ → K l0 = (11, 1) → po_V X G 4 (po_Q X G (.inl (some (.int ρ))) K R I none 0 0) 0 0 4 [(0, .ref l0), (1, .int l1), (2, .int l2)] [] K R I none) (l0 : Nat) (l1 : Int32) (l2 : Int32) (kl0 : K l0 = (11, 1)) (hm : m_X0_untouchedSides_4 I r4 l0 l1 l2 = some ρ) : po_V X G 4 (po_Q X G (.inl (some (.int ρ))) K R I none 0 0) 0 0 4 [(0, .ref l0), (1, .int l1), (2, .int l2)] [] K R I none := by
  unfold m_X0_untouchedSides_4 at hm
  refine po_iload_n hF dX0_untouchedSides_4 rfl rfl ?_
  refine po_bipush (v := 14) hF dX0_untouchedSides_5 (by decide) ?_
  refine po_icmp_ge (tgt := 79) hF dX0_untouchedSides_7 (by decide) hm (fun hm => ?_) (fun hm => ?_)
  · refine po_iload_n hF dX0_untouchedSides_79 rfl rfl ?_
    cases hm
    exact po_iret hF hL dX0_untouchedSides_80 (by decide) (by decide) rfl rfl rfl (Or.inl rfl)
  · refine po_aload_n hF dX0_untouchedSides_10 rfl rfl ?_
    refine po_getf (v := .ref (l0 + 1)) hF dX0_untouchedSides_11 fl_X0_9 kl0 (ly_0_0 HL kl0).1 ?_
    refine po_iload_n hF dX0_untouchedSides_14 rfl rfl ?_
    refine po_iald hF dX0_untouchedSides_15 ((ly_0_0 HL kl0).2) (Or.inl rfl) hm (fun hm => ?_)
    refine po_top hm (fun v1 hm => ?_)
    refine po_istore_n (L' := [(3, .int v1), (0, .ref l0), (1, .int l1), (2, .int l2)]) hF dX0_untouchedSides_16 rfl (by decide) rfl ?_
    refine po_iload_n hF dX0_untouchedSides_17 rfl rfl ?_
    refine po_iload_n hF dX0_untouchedSides_18 rfl rfl ?_
    refine po_aload_n hF dX0_untouchedSides_19 rfl rfl ?_
    refine po_iload_n hF dX0_untouchedSides_20 rfl rfl ?_
    refine po_iconst (v := 1) hF dX0_untouchedSides_21 (by decide) ?_
    refine po_isub hF dX0_untouchedSides_22 ?_
    obtain ⟨x2, hx2, hm⟩ := po_bind hm
    refine po_callV (As := [.int (l2 - 1)]) hF dX0_untouchedSides_23 wq_764 mv_X0_rowOf ws_X0_rowOf (show po_cl[0]? = some _ from rfl) rfl kl0 (c_X0_rowOf HL kl0 hx2) rfl (po_rtL hL rfl) (Nat.le_of_ble_eq_true rfl) rfl ?_
    refine po_iconst (v := (-1)) hF dX0_untouchedSides_26 (by decide) ?_
    refine po_ixor hF dX0_untouchedSides_27 ?_
    refine po_iand hF dX0_untouchedSides_28 ?_
    obtain ⟨x3, hx3, hm⟩ := po_bind hm
    refine po_callS (As := [.int (v1 &&& (x2 ^^^ (-1)))]) hF dX0_untouchedSides_29 wq_604 mv_J6_bitCount_0f7a4 (c_J6_bitCount_0f7a4 HL hx3) rfl (po_rtL hL rfl) (Nat.le_of_ble_eq_true rfl) rfl ?_
    refine po_iload_n hF dX0_untouchedSides_32 rfl rfl ?_
    refine po_aload_n hF dX0_untouchedSides_33 rfl rfl ?_
    refine po_iload_n hF dX0_untouchedSides_34 rfl rfl ?_
    refine po_iconst (v := 1) hF dX0_untouchedSides_35 (by decide) ?_
    refine po_iadd hF dX0_untouchedSides_36 ?_
    obtain ⟨x4, hx4, hm⟩ := po_bind hm
    refine po_callV (As := [.int (l2 + 1)]) hF dX0_untouchedSides_37 wq_764 mv_X0_rowOf ws_X0_rowOf (show po_cl[0]? = some _ from rfl) rfl kl0 (c_X0_rowOf HL kl0 hx4) rfl (po_rtL hL rfl) (Nat.le_of_ble_eq_true rfl) rfl ?_
    refine po_iconst (v := (-1)) hF dX0_untouchedSides_40 (by decide) ?_
    refine po_ixor hF dX0_untouchedSides_41 ?_
    refine po_iand hF dX0_untouchedSides_42 ?_
    obtain ⟨x5, hx5, hm⟩ := po_bind hm
    refine po_callS (As := [.int (v1 &&& (x4 ^^^ (-1)))]) hF dX0_untouchedSides_43 wq_604 mv_J6_bitCount_0f7a4 (c_J6_bitCount_0f7a4 HL hx5) rfl (po_rtL hL rfl) (Nat.le_of_ble_eq_true rfl) rfl ?_
    refine po_iadd hF dX0_untouchedSides_46 ?_
    refine po_iadd hF dX0_untouchedSides_47 ?_
    refine po_top hm (fun v6 hm => ?_)
    refine po_istore_n (L' := [(1, .int v6), (3, .int v1), (0, .ref l0), (2, .int l2)]) hF dX0_untouchedSides_48 rfl (by decide) rfl ?_
    refine po_iload_n hF dX0_untouchedSides_49 rfl rfl ?_
    refine po_iload_n hF dX0_untouchedSides_50 rfl rfl ?_
    refine po_iload_n hF dX0_untouchedSides_51 rfl rfl ?_
    refine po_iconst (v := 1) hF dX0_untouchedSides_52 (by decide) ?_
    refine po_ishl hF dX0_untouchedSides_53 ?_
    refine po_iconst (v := (-1)) hF dX0_untouchedSides_54 (by decide) ?_
    refine po_ixor hF dX0_untouchedSides_55 ?_
    refine po_iand hF dX0_untouchedSides_56 ?_
    obtain ⟨x7, hx7, hm⟩ := po_bind hm
    refine po_callS (As := [.int (v1 &&& ((v1 <<< (1 &&& 31)) ^^^ (-1)))]) hF dX0_untouchedSides_57 wq_604 mv_J6_bitCount_0f7a4 (c_J6_bitCount_0f7a4 HL hx7) rfl (po_rtL hL rfl) (Nat.le_of_ble_eq_true rfl) rfl ?_
    refine po_iload_n hF dX0_untouchedSides_60 rfl rfl ?_
    refine po_iload_n hF dX0_untouchedSides_61 rfl rfl ?_
    refine po_iconst (v := 1) hF dX0_untouchedSides_62 (by decide) ?_
    refine po_ishr hF dX0_untouchedSides_63 ?_
    refine po_iconst (v := (-1)) hF dX0_untouchedSides_64 (by decide) ?_
    refine po_ixor hF dX0_untouchedSides_65 ?_
    refine po_iand hF dX0_untouchedSides_66 ?_
    obtain ⟨x8, hx8, hm⟩ := po_bind hm
    refine po_callS (As := [.int (v1 &&& ((v1 >>> (1 &&& 31)) ^^^ (-1)))]) hF dX0_untouchedSides_67 wq_604 mv_J6_bitCount_0f7a4 (c_J6_bitCount_0f7a4 HL hx8) rfl (po_rtL hL rfl) (Nat.le_of_ble_eq_true rfl) rfl ?_
    refine po_iadd hF dX0_untouchedSides_70 ?_
    refine po_iadd hF dX0_untouchedSides_71 ?_
    refine po_top hm (fun v9 hm => ?_)
    refine po_istore_n (L' := [(1, .int v9), (3, .int v1), (0, .ref l0), (2, .int l2)]) hF dX0_untouchedSides_72 rfl (by decide) rfl ?_
    refine po_iinc (v := l2 + 1) (L' := [(2, .int (l2 + 1)), (1, .int v9), (3, .int v1), (0, .ref l0)]) hF dX0_untouchedSides_73 rfl rfl (by decide) rfl ?_
    refine po_goto (tgt := 4) hF dX0_untouchedSides_76 (by decide) ?_
    refine po_sub (L' := [(0, .ref l0), (1, .int v9), (2, .int (l2 + 1))]) rfl ?_
    exact h4 l0 v9 (l2 + 1) hm kl0
theorem w_X0_untouchedSides_4L {X : po_X} {G : po_G} {st : Nat → Nat} {K : po_K} {I : po_I} {R : po_R} {ρ : Int32} (hF : po_F X G cX0_untouchedSides RX0 4 st) (hL : po_L X (some .int) 1 0 0 "untouchedSides") (HL : po_Lay K R st) : ∀ (n : Nat) (l0 : Nat) (l1 : Int32) (l2 : Int32), m_X0_untouchedSides_4L I n l0 l1 l2 = some ρ → K l0 = (11, 1) → po_V X G 4 (po_Q X G (.inl (some (.int ρ))) K R I none 0 0) 0 0 4 [(0, .ref l0), (1, .int l1), (2, .int l2)] [] K R I none := by
  intro n
  induction n with
  | zero => intro l0 l1 l2 hm; cases hm
  | succ n ih => intro l0 l1 l2 hm kl0; exact w_X0_untouchedSides_4 hF hL HL (ih) l0 l1 l2 kl0 hm
set_option maxRecDepth 20000 in
set_option maxHeartbeats 2000000 in
theorem w_X0_untouchedSides_e {X : po_X} {G : po_G} {st : Nat → Nat} {K : po_K} {I : po_I} {R : po_R} {ρ : Int32} (hF : po_F X G cX0_untouchedSides RX0 4 st) (hL : po_L X (some .int) 1 0 0 "untouchedSides") (HL : po_Lay K R st) (l0 : Nat) (kl0 : K l0 = (11, 1)) (hm : m_X0_untouchedSides_e I l0 = some ρ) : po_V X G 4 (po_Q X G (.inl (some (.int ρ))) K R I none 0 0) 0 0 0 [(0, .ref l0)] [] K R I none := by
  unfold m_X0_untouchedSides_e at hm
  refine po_iconst (v := 0) hF dX0_untouchedSides_0 (by decide) ?_
  refine po_istore_n (L' := [(1, .int 0), (0, .ref l0)]) hF dX0_untouchedSides_1 rfl (by decide) rfl ?_
  refine po_iconst (v := 0) hF dX0_untouchedSides_2 (by decide) ?_
  refine po_istore_n (L' := [(2, .int 0), (1, .int 0), (0, .ref l0)]) hF dX0_untouchedSides_3 rfl (by decide) rfl ?_
  refine po_sub (L' := [(0, .ref l0), (1, .int 0), (2, .int 0)]) rfl ?_
  exact w_X0_untouchedSides_4L hF hL HL 5000 l0 0 0 hm kl0
theorem c_X0_untouchedSides {K : po_K} {R : po_R} {I : po_I} {st : Nat → Nat} {ρ : Int32} (HL : po_Lay K R st) {l0 : Nat} (kl0 : K l0 = (11, 1)) (hm : m_X0_untouchedSides I l0 = some ρ) : po_C st yX0_untouchedSides cX0_untouchedSides 4 (some .int) 1 0 0 [.ref l0] K R I none (.inl (some (.int ρ))) K R I none := by
  refine po_ofC (by decide +kernel) (Nat.le_of_ble_eq_true rfl) (fun X G hF hL => ?_)
  exact w_X0_untouchedSides_e hF hL HL l0 kl0 hm
set_option maxRecDepth 20000 in
set_option maxHeartbeats 2000000 in
theorem w_X7_lot_e {X : po_X} {G : po_G} {st : Nat → Nat} {K : po_K} {R : po_R} {ρ : (Int32 ⊕ String) × po_I} (hF : po_F X G cX7_lot RX7 4 st) (hL : po_L X (some .int) 7 2 12 "lot") (HL : po_Lay K R st) (I : po_I) (l0 : Nat) (l1 : Int32) (l2 : Int32) (kl0 : K l0 = (18, 8)) (hm : m_X7_lot_e I l0 l1 l2 = some ρ) : po_V X G 4 (po_Q X G (po_oi (ρ.1)) K R (ρ.2) none 2 12) 0 0 0 [(0, .ref l0), (1, .int l1), (2, .int l2)] [] K R I none := by
  unfold m_X7_lot_e at hm
  refine po_aload_n hF dX7_lot_0 rfl rfl ?_
  refine po_iload_n hF dX7_lot_1 rfl rfl ?_
  obtain ⟨x1, hx1, hm⟩ := po_bind hm
  cases x1 with
  | inr y2 =>
    cases hm
    exact po_callVx (As := [.int l1]) hF hL dX7_lot_2 wq_725 mv_X7_lotOrThrow ws_X7_lotOrThrow (show po_cl[7]? = some _ from rfl) rfl kl0 (c_X7_lotOrThrow HL kl0 hx1) rfl (po_rtL hL rfl) (Nat.le_of_ble_eq_true rfl) rfl
  | inl y2 =>
    dsimp only [Sum.elim_inl] at hm
    refine po_callV (As := [.int l1]) hF dX7_lot_2 wq_725 mv_X7_lotOrThrow ws_X7_lotOrThrow (show po_cl[7]? = some _ from rfl) rfl kl0 (c_X7_lotOrThrow HL kl0 hx1) rfl (po_rtL hL rfl) (Nat.le_of_ble_eq_true rfl) rfl ?_
    refine po_astore_n (L' := [(3, .ref y2), (0, .ref l0), (1, .int l1), (2, .int l2)]) hF dX7_lot_5 rfl (by decide) rfl ?_
    refine po_iload_n hF dX7_lot_6 rfl rfl ?_
    by_cases hs0 : l2 = 0
    · rw [if_pos hs0] at hm
      refine po_tin (c := 0) (tgt := 44) (off := 37) hF dX7_lot_7 hs0 (by decide) (by decide) (by decide) (by decide) ?_
      refine po_aload_n hF dX7_lot_44 rfl rfl ?_
      refine po_getf (v := .int (I y2 0)) hF dX7_lot_45 fl_X7_98 (kr_X7_lotOrThrow HL kl0 hx1) rfl ?_
      cases hm
      exact po_iret hF hL dX7_lot_48 (by decide) (by decide) rfl rfl rfl (Or.inl rfl)
    rw [if_neg hs0] at hm
    by_cases hs1 : l2 = 1
    · rw [if_pos hs1] at hm
      refine po_tin (c := 1) (tgt := 49) (off := 42) hF dX7_lot_7 hs1 (by decide) (by decide) (by decide) (by decide) ?_
      refine po_aload_n hF dX7_lot_49 rfl rfl ?_
      refine po_getf (v := .int (I y2 1)) hF dX7_lot_50 fl_X7_103 (kr_X7_lotOrThrow HL kl0 hx1) rfl ?_
      cases hm
      exact po_iret hF hL dX7_lot_53 (by decide) (by decide) rfl rfl rfl (Or.inl rfl)
    rw [if_neg hs1] at hm
    by_cases hs2 : l2 = 2
    · rw [if_pos hs2] at hm
      refine po_tin (c := 2) (tgt := 54) (off := 47) hF dX7_lot_7 hs2 (by decide) (by decide) (by decide) (by decide) ?_
      refine po_aload_n hF dX7_lot_54 rfl rfl ?_
      refine po_getf (v := .int (I y2 3)) hF dX7_lot_55 fl_X7_106 (kr_X7_lotOrThrow HL kl0 hx1) rfl ?_
      cases hm
      exact po_iret hF hL dX7_lot_58 (by decide) (by decide) rfl rfl rfl (Or.inl rfl)
    rw [if_neg hs2] at hm
    by_cases hs3 : l2 = 3
    · rw [if_pos hs3] at hm
      refine po_tin (c := 3) (tgt := 59) (off := 52) hF dX7_lot_7 hs3 (by decide) (by decide) (by decide) (by decide) ?_
      refine po_aload_n hF dX7_lot_59 rfl rfl ?_
      refine po_getf (v := .ref (l0 + 3)) hF dX7_lot_60 fl_X7_19 kl0 (ly_7_1 HL kl0).1 ?_
      refine po_aload_n hF dX7_lot_63 rfl rfl ?_
      refine po_getf (v := .ref (l0 + 8)) hF dX7_lot_64 fl_X7_26 kl0 (ly_7_2 HL kl0).1 ?_
      refine po_iload_n hF dX7_lot_67 rfl rfl ?_
      obtain ⟨x3, hx3, hm⟩ := po_bind hm
      refine po_callV (As := [.ref (l0 + 8), .int l1]) hF dX7_lot_68 wq_730 mv_X4_builtCells ws_X4_builtCells (show po_cl[4]? = some _ from rfl) rfl ((ly_7_1 HL kl0).2) (c_X4_builtCells HL ((ly_7_1 HL kl0).2) ((ly_7_2 HL kl0).2) hx3) rfl (po_rtL hL rfl) (Nat.le_of_ble_eq_true rfl) rfl ?_
      cases hm
      exact po_iret hF hL dX7_lot_71 (by decide) (by decide) rfl rfl rfl (Or.inl rfl)
    rw [if_neg hs3] at hm
    by_cases hs4 : l2 = 4
    · rw [if_pos hs4] at hm
      refine po_tin (c := 4) (tgt := 72) (off := 65) hF dX7_lot_7 hs4 (by decide) (by decide) (by decide) (by decide) ?_
      refine po_aload_n hF dX7_lot_72 rfl rfl ?_
      refine po_getf (v := .ref (l0 + 8)) hF dX7_lot_73 fl_X7_26 kl0 (ly_7_2 HL kl0).1 ?_
      refine po_iload_n hF dX7_lot_76 rfl rfl ?_
      refine po_null hF dX7_lot_77 ?_
      obtain ⟨x4, hx4, hm⟩ := po_bind hm
      refine po_callV (As := [.int l1, .null]) hF dX7_lot_78 wq_755 mv_X5_standingFloorArea ws_X5_standingFloorArea (show po_cl[5]? = some _ from rfl) rfl ((ly_7_2 HL kl0).2) (c_X5_standingFloorArea_n HL ((ly_7_2 HL kl0).2) hx4) rfl (po_rtL hL rfl) (Nat.le_of_ble_eq_true rfl) rfl ?_
      cases hm
      exact po_iret hF hL dX7_lot_81 (by decide) (by decide) rfl rfl rfl (Or.inl rfl)
    rw [if_neg hs4] at hm
    by_cases hs5 : l2 = 5
    · rw [if_pos hs5] at hm
      refine po_tin (c := 5) (tgt := 82) (off := 75) hF dX7_lot_7 hs5 (by decide) (by decide) (by decide) (by decide) ?_
      refine po_aload_n hF dX7_lot_82 rfl rfl ?_
      refine po_getf (v := .ref (y2 + 1)) hF dX7_lot_83 fl_X7_117 (kr_X7_lotOrThrow HL kl0 hx1) (ly_1_2 HL (kr_X7_lotOrThrow HL kl0 hx1)).1 ?_
      obtain ⟨x5, hx5, hm⟩ := po_bind hm
      refine po_callV (As := []) hF dX7_lot_86 wq_760 mv_X0_untouchedSides ws_X0_untouchedSides (show po_cl[0]? = some _ from rfl) rfl ((ly_1_2 HL (kr_X7_lotOrThrow HL kl0 hx1)).2) (c_X0_untouchedSides HL ((ly_1_2 HL (kr_X7_lotOrThrow HL kl0 hx1)).2) hx5) rfl (po_rtL hL rfl) (Nat.le_of_ble_eq_true rfl) rfl ?_
      cases hm
      exact po_iret hF hL dX7_lot_89 (by decide) (by decide) rfl rfl rfl (Or.inl rfl)
    rw [if_neg hs5] at hm
    refine po_tout (tgt := 90) hF dX7_lot_7 (po_tdef (lo := 0) (m := 6) (fun j hj => by
      rcases (show j = 0 ∨ j = 1 ∨ j = 2 ∨ j = 3 ∨ j = 4 ∨ j = 5 by omega) with rfl | rfl | rfl | rfl | rfl | rfl
      · exact po_neI (c := 0) hs0 (by decide)
      · exact po_neI (c := 1) hs1 (by decide)
      · exact po_neI (c := 2) hs2 (by decide)
      · exact po_neI (c := 3) hs3 (by decide)
      · exact po_neI (c := 4) hs4 (by decide)
      · exact po_neI (c := 5) hs5 (by decide)
      )) (by decide) ?_
    cases hm
    exact po_throw hF hL tw_X7_127_52 dX7_lot_90 dX7_lot_93 dX7_lot_94 dX7_lot_96 dX7_lot_99 (by decide) (Nat.le_of_ble_eq_true rfl) (by decide) (by decide) rfl rfl rfl
theorem c_X7_lot {K : po_K} {R : po_R} {I : po_I} {st : Nat → Nat} {ρ : (Int32 ⊕ String) × po_I} (HL : po_Lay K R st) {l0 : Nat} {l1 : Int32} {l2 : Int32} (kl0 : K l0 = (18, 8)) (hm : m_X7_lot I l0 l1 l2 = some ρ) : po_C st yX7_lot cX7_lot 4 (some .int) 7 2 12 [.ref l0, .int l1, .int l2] K R I none (po_oi (ρ.1)) K R (ρ.2) none := by
  refine po_ofC (by decide +kernel) (Nat.le_of_ble_eq_true rfl) (fun X G hF hL => ?_)
  exact w_X7_lot_e hF hL HL I l0 l1 l2 kl0 hm
set_option maxRecDepth 20000 in
set_option maxHeartbeats 2000000 in
theorem w_X7_rezone_15 {X : po_X} {G : po_G} {st : Nat → Nat} {K : po_K} {ρ : (Int32 ⊕ String) × po_I × po_R} (hF : po_F X G cX7_rezone RX7 5 st) (hL : po_L X (some .int) 7 2 12 "rezone") (I : po_I) (R : po_R) (HL : po_Lay K R st) (hm : m_X7_rezone_15 I R = some ρ) : po_V X G 5 (po_Q X G (po_oi (ρ.1)) K (ρ.2.2) (ρ.2.1) none 2 12) 1 6 15 [] [] K R I none := by
  unfold m_X7_rezone_15 at hm
  cases hm
  exact po_throw hF hL tw_X7_85_52 dX7_rezone_15 dX7_rezone_18 dX7_rezone_19 dX7_rezone_21 dX7_rezone_24 (by decide) (Nat.le_of_ble_eq_true rfl) (by decide) (by decide) rfl rfl rfl
set_option maxRecDepth 20000 in
set_option maxHeartbeats 2000000 in
theorem w_X7_rezone_e {X : po_X} {G : po_G} {st : Nat → Nat} {K : po_K} {ρ : (Int32 ⊕ String) × po_I × po_R} (hF : po_F X G cX7_rezone RX7 5 st) (hL : po_L X (some .int) 7 2 12 "rezone") (I : po_I) (R : po_R) (l0 : Nat) (l1 : Int32) (l2 : Int32) (HL : po_Lay K R st) (kl0 : K l0 = (18, 8)) (hm : m_X7_rezone_e I R l0 l1 l2 = some ρ) : po_V X G 5 (po_Q X G (po_oi (ρ.1)) K (ρ.2.2) (ρ.2.1) none 2 12) 0 0 0 [(0, .ref l0), (1, .int l1), (2, .int l2)] [] K R I none := by
  unfold m_X7_rezone_e at hm
  refine po_aload_n hF dX7_rezone_0 rfl rfl ?_
  refine po_iload_n hF dX7_rezone_1 rfl rfl ?_
  obtain ⟨x1, hx1, hm⟩ := po_bind hm
  cases x1 with
  | inr y2 =>
    cases hm
    exact po_callVx (As := [.int l1]) hF hL dX7_rezone_2 wq_725 mv_X7_lotOrThrow ws_X7_lotOrThrow (show po_cl[7]? = some _ from rfl) rfl kl0 (c_X7_lotOrThrow HL kl0 hx1) rfl (po_rtL hL rfl) (Nat.le_of_ble_eq_true rfl) rfl
  | inl y2 =>
    dsimp only [Sum.elim_inl] at hm
    refine po_callV (As := [.int l1]) hF dX7_rezone_2 wq_725 mv_X7_lotOrThrow ws_X7_lotOrThrow (show po_cl[7]? = some _ from rfl) rfl kl0 (c_X7_lotOrThrow HL kl0 hx1) rfl (po_rtL hL rfl) (Nat.le_of_ble_eq_true rfl) rfl ?_
    refine po_astore_n (L' := [(3, .ref y2), (0, .ref l0), (1, .int l1), (2, .int l2)]) hF dX7_rezone_5 rfl (by decide) rfl ?_
    refine po_iload_n hF dX7_rezone_6 rfl rfl ?_
    refine po_if_lt (tgt := 15) hF dX7_rezone_7 (by decide) hm (fun hm => ?_) (fun hm => ?_)
    · refine po_sub (L' := []) rfl ?_
      exact w_X7_rezone_15 hF hL I R HL hm
    · refine po_iload_n hF dX7_rezone_10 rfl rfl ?_
      refine po_iconst (v := 4) hF dX7_rezone_11 (by decide) ?_
      refine po_icmp_lt (tgt := 25) hF dX7_rezone_12 (by decide) hm (fun hm => ?_) (fun hm => ?_)
      · refine po_aload_n hF dX7_rezone_25 rfl rfl ?_
        obtain ⟨x3, hx3, hm⟩ := po_bind hm
        refine po_callV (As := []) hF dX7_rezone_26 wq_665 mv_X7_remember ws_X7_remember (show po_cl[7]? = some _ from rfl) rfl kl0 (c_X7_remember HL kl0 hx3) rfl (po_rtL hL rfl) (Nat.le_of_ble_eq_true rfl) rfl ?_
        refine po_aload_n hF dX7_rezone_29 rfl rfl ?_
        refine po_getf (v := .int ((x3.1) y2 0)) hF dX7_rezone_30 fl_X7_98 (kr_X7_lotOrThrow HL kl0 hx1) rfl ?_
        refine po_top hm (fun v4 hm => ?_)
        refine po_istore (L' := [(4, .int v4), (3, .ref y2), (0, .ref l0), (1, .int l1), (2, .int l2)]) hF dX7_rezone_33 (by decide) rfl ?_
        refine po_aload_n hF dX7_rezone_35 rfl rfl ?_
        refine po_iload_n hF dX7_rezone_36 rfl rfl ?_
        refine po_puti hF dX7_rezone_37 fl_X7_98 (kr_X7_lotOrThrow HL kl0 hx1) (by intro r h; cases h; rfl) rfl rfl (fun _ => rfl) rfl ?_
        refine po_hname hm (fun I5 hm => ?_)
        refine po_iload hF dX7_rezone_40 rfl ?_
        cases hm
        exact po_iret hF hL dX7_rezone_42 (by decide) (by decide) rfl rfl rfl (Or.inl rfl)
      · refine po_sub (L' := []) rfl ?_
        exact w_X7_rezone_15 hF hL I R HL hm
theorem c_X7_rezone {K : po_K} {R : po_R} {I : po_I} {st : Nat → Nat} {ρ : (Int32 ⊕ String) × po_I × po_R} (HL : po_Lay K R st) {l0 : Nat} {l1 : Int32} {l2 : Int32} (kl0 : K l0 = (18, 8)) (hm : m_X7_rezone I R l0 l1 l2 = some ρ) : po_C st yX7_rezone cX7_rezone 5 (some .int) 7 2 12 [.ref l0, .int l1, .int l2] K R I none (po_oi (ρ.1)) K (ρ.2.2) (ρ.2.1) none := by
  refine po_ofC (by decide +kernel) (Nat.le_of_ble_eq_true rfl) (fun X G hF hL => ?_)
  exact w_X7_rezone_e hF hL I R l0 l1 l2 HL kl0 hm
set_option maxRecDepth 20000 in
set_option maxHeartbeats 2000000 in
theorem w_X0_hasCell_17 {X : po_X} {G : po_G} {st : Nat → Nat} {K : po_K} {I : po_I} {R : po_R} {ρ : Int32} (hF : po_F X G cX0_hasCell RX0 3 st) (hL : po_L X (some .boolean) 1 0 0 "hasCell") (HL : po_Lay K R st) (s0 : Int32) (hm : m_X0_hasCell_17 I s0 = some ρ) : po_V X G 3 (po_Q X G (.inl (some (.int ρ))) K R I none 0 0) 0 0 17 [] [.int s0] K R I none := by
  unfold m_X0_hasCell_17 at hm
  obtain ⟨hz, hm⟩ := po_zif hm
  cases hm
  exact po_zret hF hL dX0_hasCell_17 (po_nz hz) (by decide) (by decide) rfl rfl rfl (Or.inl rfl)
set_option maxRecDepth 20000 in
set_option maxHeartbeats 2000000 in
theorem w_X0_hasCell_e {X : po_X} {G : po_G} {st : Nat → Nat} {K : po_K} {I : po_I} {R : po_R} {ρ : Int32} (hF : po_F X G cX0_hasCell RX0 3 st) (hL : po_L X (some .boolean) 1 0 0 "hasCell") (HL : po_Lay K R st) (l0 : Nat) (l1 : Int32) (l2 : Int32) (kl0 : K l0 = (11, 1)) (hm : m_X0_hasCell_e I l0 l1 l2 = some ρ) : po_V X G 3 (po_Q X G (.inl (some (.int ρ))) K R I none 0 0) 0 0 0 [(0, .ref l0), (1, .int l1), (2, .int l2)] [] K R I none := by
  unfold m_X0_hasCell_e at hm
  refine po_aload_n hF dX0_hasCell_0 rfl rfl ?_
  refine po_iload_n hF dX0_hasCell_1 rfl rfl ?_
  obtain ⟨x1, hx1, hm⟩ := po_bind hm
  refine po_callV (As := [.int l2]) hF dX0_hasCell_2 wq_764 mv_X0_rowOf ws_X0_rowOf (show po_cl[0]? = some _ from rfl) rfl kl0 (c_X0_rowOf HL kl0 hx1) rfl (po_rtL hL rfl) (Nat.le_of_ble_eq_true rfl) rfl ?_
  refine po_iconst (v := 1) hF dX0_hasCell_5 (by decide) ?_
  refine po_iload_n hF dX0_hasCell_6 rfl rfl ?_
  refine po_ishl hF dX0_hasCell_7 ?_
  refine po_iand hF dX0_hasCell_8 ?_
  refine po_if_eq (tgt := 16) hF dX0_hasCell_9 (by decide) hm (fun hm => ?_) (fun hm => ?_)
  · refine po_iconst (v := 0) hF dX0_hasCell_16 (by decide) ?_
    refine po_sub (L' := []) rfl ?_
    exact w_X0_hasCell_17 hF hL HL 0 hm
  · refine po_iconst (v := 1) hF dX0_hasCell_12 (by decide) ?_
    refine po_goto (tgt := 17) hF dX0_hasCell_13 (by decide) ?_
    refine po_sub (L' := []) rfl ?_
    exact w_X0_hasCell_17 hF hL HL 1 hm
theorem c_X0_hasCell {K : po_K} {R : po_R} {I : po_I} {st : Nat → Nat} {ρ : Int32} (HL : po_Lay K R st) {l0 : Nat} {l1 : Int32} {l2 : Int32} (kl0 : K l0 = (11, 1)) (hm : m_X0_hasCell I l0 l1 l2 = some ρ) : po_C st yX0_hasCell cX0_hasCell 3 (some .boolean) 1 0 0 [.ref l0, .int l1, .int l2] K R I none (.inl (some (.int ρ))) K R I none := by
  refine po_ofC (by decide +kernel) (Nat.le_of_ble_eq_true rfl) (fun X G hF hL => ?_)
  exact w_X0_hasCell_e hF hL HL l0 l1 l2 kl0 hm
set_option maxRecDepth 20000 in
set_option maxHeartbeats 2000000 in
theorem w_X5_lotWith_2 {X : po_X} {G : po_G} {st : Nat → Nat} {K : po_K} {I : po_I} {R : po_R} {ρ : Int32} {r2 : Nat → Int32 → Int32 → Int32 → Option (Int32)} (hF : po_F X G cX5_lotWith RX5 4 st) (hL : po_L X (some .int) 2 0 0 "lotWith") (HL : po_Lay K R st) (h2 : ∀ (l0 : Nat) (l1 : Int32) (l2 : Int32) (l3 : Int32), r2 l0 l1 l2 l3 = some ρ → K l0 = (16, 8) → po_V X G 4 (po_Q X G (.inl (some (.int ρ))) K R I none 0 0) 0 0 2 [(0, .ref l0), (1, .int l1), (2, .int l2), (3, .int l3)] [] K R I none) (l0 : Nat) (l1 : Int32) (l2 : Int32) (l3 : Int32) (kl0 : K l0 = (16, 8)) (hm : m_X5_lotWith_2 I r2 l0 l1 l2 l3 = some ρ) : po_V X G 4 (po_Q X G (.inl (some (.int ρ))) K R I none 0 0) 0 0 2 [(0, .ref l0), (1, .int l1), (2, .int l2), (3, .int l3)] [] K R I none := by
  unfold m_X5_lotWith_2 at hm
  refine po_iload_n hF dX5_lotWith_2 rfl rfl ?_
  refine po_aload_n hF dX5_lotWith_3 rfl rfl ?_
  refine po_getf (v := .int (I l0 3)) hF dX5_lotWith_4 fl_X5_25 kl0 rfl ?_
  refine po_icmp_ge (tgt := 35) hF dX5_lotWith_7 (by decide) hm (fun hm => ?_) (fun hm => ?_)
  · refine po_iconst (v := (-1)) hF dX5_lotWith_35 (by decide) ?_
    cases hm
    exact po_iret hF hL dX5_lotWith_36 (by decide) (by decide) rfl rfl rfl (Or.inl rfl)
  · refine po_aload_n hF dX5_lotWith_10 rfl rfl ?_
    refine po_getf (v := .ref (l0 + 2)) hF dX5_lotWith_11 fl_X5_21 kl0 (ly_5_2 HL kl0).1 ?_
    refine po_iload_n hF dX5_lotWith_14 rfl rfl ?_
    refine po_aald hF dX5_lotWith_15 ((ly_5_2 HL kl0).2) (Or.inl rfl) hm (fun hi1 => (le_5_2 HL kl0 (po_in_lt hi1)).1) (fun hi1 hm => ?_)
    refine po_getf (v := .ref ((l0 + (5 + 3 * (Int32.toNatClampNeg l3))) + 1)) hF dX5_lotWith_16 fl_X5_79 ((le_5_2 HL kl0 (po_in_lt hi1)).2) (ly_1_2 HL ((le_5_2 HL kl0 (po_in_lt hi1)).2)).1 ?_
    refine po_iload_n hF dX5_lotWith_19 rfl rfl ?_
    refine po_iload_n hF dX5_lotWith_20 rfl rfl ?_
    obtain ⟨x2, hx2, hm⟩ := po_bind hm
    refine po_callV (As := [.int l1, .int l2]) hF dX5_lotWith_21 wq_789 mv_X0_hasCell ws_X0_hasCell (show po_cl[0]? = some _ from rfl) rfl ((ly_1_2 HL ((le_5_2 HL kl0 (po_in_lt hi1)).2)).2) (c_X0_hasCell HL ((ly_1_2 HL ((le_5_2 HL kl0 (po_in_lt hi1)).2)).2) hx2) rfl (po_rtL hL rfl) (Nat.le_of_ble_eq_true rfl) rfl ?_
    refine po_if_eq (tgt := 29) hF dX5_lotWith_24 (by decide) hm (fun hm => ?_) (fun hm => ?_)
    · refine po_iinc (v := l3 + 1) (L' := [(3, .int (l3 + 1)), (0, .ref l0), (1, .int l1), (2, .int l2)]) hF dX5_lotWith_29 rfl rfl (by decide) rfl ?_
      refine po_goto (tgt := 2) hF dX5_lotWith_32 (by decide) ?_
      refine po_sub (L' := [(0, .ref l0), (1, .int l1), (2, .int l2), (3, .int (l3 + 1))]) rfl ?_
      exact h2 l0 l1 l2 (l3 + 1) hm kl0
    · refine po_iload_n hF dX5_lotWith_27 rfl rfl ?_
      cases hm
      exact po_iret hF hL dX5_lotWith_28 (by decide) (by decide) rfl rfl rfl (Or.inl rfl)
theorem w_X5_lotWith_2L {X : po_X} {G : po_G} {st : Nat → Nat} {K : po_K} {I : po_I} {R : po_R} {ρ : Int32} (hF : po_F X G cX5_lotWith RX5 4 st) (hL : po_L X (some .int) 2 0 0 "lotWith") (HL : po_Lay K R st) : ∀ (n : Nat) (l0 : Nat) (l1 : Int32) (l2 : Int32) (l3 : Int32), m_X5_lotWith_2L I n l0 l1 l2 l3 = some ρ → K l0 = (16, 8) → po_V X G 4 (po_Q X G (.inl (some (.int ρ))) K R I none 0 0) 0 0 2 [(0, .ref l0), (1, .int l1), (2, .int l2), (3, .int l3)] [] K R I none := by
  intro n
  induction n with
  | zero => intro l0 l1 l2 l3 hm; cases hm
  | succ n ih => intro l0 l1 l2 l3 hm kl0; exact w_X5_lotWith_2 hF hL HL (ih) l0 l1 l2 l3 kl0 hm
set_option maxRecDepth 20000 in
set_option maxHeartbeats 2000000 in
theorem w_X5_lotWith_e {X : po_X} {G : po_G} {st : Nat → Nat} {K : po_K} {I : po_I} {R : po_R} {ρ : Int32} (hF : po_F X G cX5_lotWith RX5 4 st) (hL : po_L X (some .int) 2 0 0 "lotWith") (HL : po_Lay K R st) (l0 : Nat) (l1 : Int32) (l2 : Int32) (kl0 : K l0 = (16, 8)) (hm : m_X5_lotWith_e I l0 l1 l2 = some ρ) : po_V X G 4 (po_Q X G (.inl (some (.int ρ))) K R I none 0 0) 0 0 0 [(0, .ref l0), (1, .int l1), (2, .int l2)] [] K R I none := by
  unfold m_X5_lotWith_e at hm
  refine po_iconst (v := 0) hF dX5_lotWith_0 (by decide) ?_
  refine po_istore_n (L' := [(3, .int 0), (0, .ref l0), (1, .int l1), (2, .int l2)]) hF dX5_lotWith_1 rfl (by decide) rfl ?_
  refine po_sub (L' := [(0, .ref l0), (1, .int l1), (2, .int l2), (3, .int 0)]) rfl ?_
  exact w_X5_lotWith_2L hF hL HL 5000 l0 l1 l2 0 hm kl0
theorem c_X5_lotWith {K : po_K} {R : po_R} {I : po_I} {st : Nat → Nat} {ρ : Int32} (HL : po_Lay K R st) {l0 : Nat} {l1 : Int32} {l2 : Int32} (kl0 : K l0 = (16, 8)) (hm : m_X5_lotWith I l0 l1 l2 = some ρ) : po_C st yX5_lotWith cX5_lotWith 4 (some .int) 2 0 0 [.ref l0, .int l1, .int l2] K R I none (.inl (some (.int ρ))) K R I none := by
  refine po_ofC (by decide +kernel) (Nat.le_of_ble_eq_true rfl) (fun X G hF hL => ?_)
  exact w_X5_lotWith_e hF hL HL l0 l1 l2 kl0 hm
set_option maxRecDepth 20000 in
set_option maxHeartbeats 2000000 in
theorem w_X5_standingPermitWith_41 {X : po_X} {G : po_G} {st : Nat → Nat} {K : po_K} {I : po_I} {R : po_R} {ρ : Int32} {r2 : Nat → Int32 → Int32 → Int32 → Option (Int32)} (hF : po_F X G cX5_standingPermitWith RX5 4 st) (hL : po_L X (some .int) 2 0 0 "standingPermitWith") (HL : po_Lay K R st) (h2 : ∀ (l0 : Nat) (l1 : Int32) (l2 : Int32) (l3 : Int32), r2 l0 l1 l2 l3 = some ρ → K l0 = (16, 8) → po_V X G 4 (po_Q X G (.inl (some (.int ρ))) K R I none 0 0) 0 0 2 [(0, .ref l0), (1, .int l1), (2, .int l2), (3, .int l3)] [] K R I none) (l0 : Nat) (l1 : Int32) (l2 : Int32) (l3 : Int32) (kl0 : K l0 = (16, 8)) (hm : m_X5_standingPermitWith_41 I r2 l0 l1 l2 l3 = some ρ) : po_V X G 4 (po_Q X G (.inl (some (.int ρ))) K R I none 0 0) 0 0 41 [(0, .ref l0), (1, .int l1), (2, .int l2), (3, .int l3)] [] K R I none := by
  unfold m_X5_standingPermitWith_41 at hm
  refine po_iinc (v := l3 + 1) (L' := [(3, .int (l3 + 1)), (0, .ref l0), (1, .int l1), (2, .int l2)]) hF dX5_standingPermitWith_41 rfl rfl (by decide) rfl ?_
  refine po_goto (tgt := 2) hF dX5_standingPermitWith_44 (by decide) ?_
  refine po_sub (L' := [(0, .ref l0), (1, .int l1), (2, .int l2), (3, .int (l3 + 1))]) rfl ?_
  exact h2 l0 l1 l2 (l3 + 1) hm kl0
set_option maxRecDepth 20000 in
set_option maxHeartbeats 2000000 in
theorem w_X5_standingPermitWith_2 {X : po_X} {G : po_G} {st : Nat → Nat} {K : po_K} {I : po_I} {R : po_R} {ρ : Int32} {r2 : Nat → Int32 → Int32 → Int32 → Option (Int32)} (hF : po_F X G cX5_standingPermitWith RX5 4 st) (hL : po_L X (some .int) 2 0 0 "standingPermitWith") (HL : po_Lay K R st) (h2 : ∀ (l0 : Nat) (l1 : Int32) (l2 : Int32) (l3 : Int32), r2 l0 l1 l2 l3 = some ρ → K l0 = (16, 8) → po_V X G 4 (po_Q X G (.inl (some (.int ρ))) K R I none 0 0) 0 0 2 [(0, .ref l0), (1, .int l1), (2, .int l2), (3, .int l3)] [] K R I none) (l0 : Nat) (l1 : Int32) (l2 : Int32) (l3 : Int32) (kl0 : K l0 = (16, 8)) (hm : m_X5_standingPermitWith_2 I r2 l0 l1 l2 l3 = some ρ) : po_V X G 4 (po_Q X G (.inl (some (.int ρ))) K R I none 0 0) 0 0 2 [(0, .ref l0), (1, .int l1), (2, .int l2), (3, .int l3)] [] K R I none := by
  unfold m_X5_standingPermitWith_2 at hm
  refine po_iload_n hF dX5_standingPermitWith_2 rfl rfl ?_
  refine po_aload_n hF dX5_standingPermitWith_3 rfl rfl ?_
  refine po_getf (v := .int (I l0 5)) hF dX5_standingPermitWith_4 fl_X5_34 kl0 rfl ?_
  refine po_icmp_ge (tgt := 47) hF dX5_standingPermitWith_7 (by decide) hm (fun hm => ?_) (fun hm => ?_)
  · refine po_iconst (v := (-1)) hF dX5_standingPermitWith_47 (by decide) ?_
    cases hm
    exact po_iret hF hL dX5_standingPermitWith_48 (by decide) (by decide) rfl rfl rfl (Or.inl rfl)
  · refine po_aload_n hF dX5_standingPermitWith_10 rfl rfl ?_
    refine po_getf (v := .ref (l0 + 3)) hF dX5_standingPermitWith_11 fl_X5_30 kl0 (ly_5_4 HL kl0).1 ?_
    refine po_iload_n hF dX5_standingPermitWith_14 rfl rfl ?_
    refine po_aald hF dX5_standingPermitWith_15 ((ly_5_4 HL kl0).2) (Or.inr (Or.inl rfl)) hm (fun hi1 => (le_5_4 HL kl0 (po_in_lt hi1)).1) (fun hi1 hm => ?_)
    obtain ⟨x2, hx2, hm⟩ := po_bind hm
    refine po_callV (As := []) hF dX5_standingPermitWith_16 wq_742 mv_X2_stands ws_X2_stands (show po_cl[2]? = some _ from rfl) rfl ((le_5_4 HL kl0 (po_in_lt hi1)).2) (c_X2_stands HL ((le_5_4 HL kl0 (po_in_lt hi1)).2) hx2) rfl (po_rtL hL rfl) (Nat.le_of_ble_eq_true rfl) rfl ?_
    refine po_if_eq (tgt := 41) hF dX5_standingPermitWith_19 (by decide) hm (fun hm => ?_) (fun hm => ?_)
    · exact w_X5_standingPermitWith_41 hF hL HL h2 l0 l1 l2 l3 kl0 hm
    · refine po_aload_n hF dX5_standingPermitWith_22 rfl rfl ?_
      refine po_getf (v := .ref (l0 + 3)) hF dX5_standingPermitWith_23 fl_X5_30 kl0 (ly_5_4 HL kl0).1 ?_
      refine po_iload_n hF dX5_standingPermitWith_26 rfl rfl ?_
      refine po_aald hF dX5_standingPermitWith_27 ((ly_5_4 HL kl0).2) (Or.inr (Or.inl rfl)) hm (fun hi3 => (le_5_4 HL kl0 (po_in_lt hi3)).1) (fun hi3 hm => ?_)
      refine po_getf (v := .ref ((l0 + (29 + 5 * (Int32.toNatClampNeg l3))) + 1)) hF dX5_standingPermitWith_28 fl_X5_93 ((le_5_4 HL kl0 (po_in_lt hi3)).2) (ly_2_4 HL ((le_5_4 HL kl0 (po_in_lt hi3)).2)).1 ?_
      refine po_iload_n hF dX5_standingPermitWith_31 rfl rfl ?_
      refine po_iload_n hF dX5_standingPermitWith_32 rfl rfl ?_
      obtain ⟨x4, hx4, hm⟩ := po_bind hm
      refine po_callV (As := [.int l1, .int l2]) hF dX5_standingPermitWith_33 wq_789 mv_X0_hasCell ws_X0_hasCell (show po_cl[0]? = some _ from rfl) rfl ((ly_2_4 HL ((le_5_4 HL kl0 (po_in_lt hi3)).2)).2) (c_X0_hasCell HL ((ly_2_4 HL ((le_5_4 HL kl0 (po_in_lt hi3)).2)).2) hx4) rfl (po_rtL hL rfl) (Nat.le_of_ble_eq_true rfl) rfl ?_
      refine po_if_eq (tgt := 41) hF dX5_standingPermitWith_36 (by decide) hm (fun hm => ?_) (fun hm => ?_)
      · exact w_X5_standingPermitWith_41 hF hL HL h2 l0 l1 l2 l3 kl0 hm
      · refine po_iload_n hF dX5_standingPermitWith_39 rfl rfl ?_
        cases hm
        exact po_iret hF hL dX5_standingPermitWith_40 (by decide) (by decide) rfl rfl rfl (Or.inl rfl)
theorem w_X5_standingPermitWith_2L {X : po_X} {G : po_G} {st : Nat → Nat} {K : po_K} {I : po_I} {R : po_R} {ρ : Int32} (hF : po_F X G cX5_standingPermitWith RX5 4 st) (hL : po_L X (some .int) 2 0 0 "standingPermitWith") (HL : po_Lay K R st) : ∀ (n : Nat) (l0 : Nat) (l1 : Int32) (l2 : Int32) (l3 : Int32), m_X5_standingPermitWith_2L I n l0 l1 l2 l3 = some ρ → K l0 = (16, 8) → po_V X G 4 (po_Q X G (.inl (some (.int ρ))) K R I none 0 0) 0 0 2 [(0, .ref l0), (1, .int l1), (2, .int l2), (3, .int l3)] [] K R I none := by
  intro n
  induction n with
  | zero => intro l0 l1 l2 l3 hm; cases hm
  | succ n ih => intro l0 l1 l2 l3 hm kl0; exact w_X5_standingPermitWith_2 hF hL HL (ih) l0 l1 l2 l3 kl0 hm
set_option maxRecDepth 20000 in
set_option maxHeartbeats 2000000 in
theorem w_X5_standingPermitWith_e {X : po_X} {G : po_G} {st : Nat → Nat} {K : po_K} {I : po_I} {R : po_R} {ρ : Int32} (hF : po_F X G cX5_standingPermitWith RX5 4 st) (hL : po_L X (some .int) 2 0 0 "standingPermitWith") (HL : po_Lay K R st) (l0 : Nat) (l1 : Int32) (l2 : Int32) (kl0 : K l0 = (16, 8)) (hm : m_X5_standingPermitWith_e I l0 l1 l2 = some ρ) : po_V X G 4 (po_Q X G (.inl (some (.int ρ))) K R I none 0 0) 0 0 0 [(0, .ref l0), (1, .int l1), (2, .int l2)] [] K R I none := by
  unfold m_X5_standingPermitWith_e at hm
  refine po_iconst (v := 0) hF dX5_standingPermitWith_0 (by decide) ?_
  refine po_istore_n (L' := [(3, .int 0), (0, .ref l0), (1, .int l1), (2, .int l2)]) hF dX5_standingPermitWith_1 rfl (by decide) rfl ?_
  refine po_sub (L' := [(0, .ref l0), (1, .int l1), (2, .int l2), (3, .int 0)]) rfl ?_
  exact w_X5_standingPermitWith_2L hF hL HL 5000 l0 l1 l2 0 hm kl0
theorem c_X5_standingPermitWith {K : po_K} {R : po_R} {I : po_I} {st : Nat → Nat} {ρ : Int32} (HL : po_Lay K R st) {l0 : Nat} {l1 : Int32} {l2 : Int32} (kl0 : K l0 = (16, 8)) (hm : m_X5_standingPermitWith I l0 l1 l2 = some ρ) : po_C st yX5_standingPermitWith cX5_standingPermitWith 4 (some .int) 2 0 0 [.ref l0, .int l1, .int l2] K R I none (.inl (some (.int ρ))) K R I none := by
  refine po_ofC (by decide +kernel) (Nat.le_of_ble_eq_true rfl) (fun X G hF hL => ?_)
  exact w_X5_standingPermitWith_e hF hL HL l0 l1 l2 kl0 hm
set_option maxRecDepth 20000 in
set_option maxHeartbeats 2000000 in
theorem w_X0_hasAll_2 {X : po_X} {G : po_G} {st : Nat → Nat} {K : po_K} {I : po_I} {R : po_R} {ρ : Int32} {r2 : Nat → Nat → Int32 → Option (Int32)} (hF : po_F X G cX0_hasAll RX0 3 st) (hL : po_L X (some .boolean) 0 0 0 "hasAll") (HL : po_Lay K R st) (h2 : ∀ (l0 : Nat) (l1 : Nat) (l2 : Int32), r2 l0 l1 l2 = some ρ → K l0 = (11, 1) → K l1 = (11, 1) → po_V X G 3 (po_Q X G (.inl (some (.int ρ))) K R I none 0 0) 0 0 2 [(0, .ref l0), (1, .ref l1), (2, .int l2)] [] K R I none) (l0 : Nat) (l1 : Nat) (l2 : Int32) (kl0 : K l0 = (11, 1)) (kl1 : K l1 = (11, 1)) (hm : m_X0_hasAll_2 I r2 l0 l1 l2 = some ρ) : po_V X G 3 (po_Q X G (.inl (some (.int ρ))) K R I none 0 0) 0 0 2 [(0, .ref l0), (1, .ref l1), (2, .int l2)] [] K R I none := by
  unfold m_X0_hasAll_2 at hm
  refine po_iload_n hF dX0_hasAll_2 rfl rfl ?_
  refine po_bipush (v := 14) hF dX0_hasAll_3 (by decide) ?_
  refine po_icmp_ge (tgt := 34) hF dX0_hasAll_5 (by decide) hm (fun hm => ?_) (fun hm => ?_)
  · refine po_iconst (v := 1) hF dX0_hasAll_34 (by decide) ?_
    cases hm
    exact po_zret hF hL dX0_hasAll_35 (by decide) (by decide) (by decide) rfl rfl rfl (Or.inl rfl)
  · refine po_aload_n hF dX0_hasAll_8 rfl rfl ?_
    refine po_getf (v := .ref (l1 + 1)) hF dX0_hasAll_9 fl_X0_9 kl1 (ly_0_0 HL kl1).1 ?_
    refine po_iload_n hF dX0_hasAll_12 rfl rfl ?_
    refine po_iald hF dX0_hasAll_13 ((ly_0_0 HL kl1).2) (Or.inl rfl) hm (fun hm => ?_)
    refine po_aload_n hF dX0_hasAll_14 rfl rfl ?_
    refine po_getf (v := .ref (l0 + 1)) hF dX0_hasAll_15 fl_X0_9 kl0 (ly_0_0 HL kl0).1 ?_
    refine po_iload_n hF dX0_hasAll_18 rfl rfl ?_
    refine po_iald hF dX0_hasAll_19 ((ly_0_0 HL kl0).2) (Or.inl rfl) hm (fun hm => ?_)
    refine po_iconst (v := (-1)) hF dX0_hasAll_20 (by decide) ?_
    refine po_ixor hF dX0_hasAll_21 ?_
    refine po_iand hF dX0_hasAll_22 ?_
    refine po_if_eq (tgt := 28) hF dX0_hasAll_23 (by decide) hm (fun hm => ?_) (fun hm => ?_)
    · refine po_iinc (v := l2 + 1) (L' := [(2, .int (l2 + 1)), (0, .ref l0), (1, .ref l1)]) hF dX0_hasAll_28 rfl rfl (by decide) rfl ?_
      refine po_goto (tgt := 2) hF dX0_hasAll_31 (by decide) ?_
      refine po_sub (L' := [(0, .ref l0), (1, .ref l1), (2, .int (l2 + 1))]) rfl ?_
      exact h2 l0 l1 (l2 + 1) hm kl0 kl1
    · refine po_iconst (v := 0) hF dX0_hasAll_26 (by decide) ?_
      cases hm
      exact po_zret hF hL dX0_hasAll_27 (by decide) (by decide) (by decide) rfl rfl rfl (Or.inl rfl)
theorem w_X0_hasAll_2L {X : po_X} {G : po_G} {st : Nat → Nat} {K : po_K} {I : po_I} {R : po_R} {ρ : Int32} (hF : po_F X G cX0_hasAll RX0 3 st) (hL : po_L X (some .boolean) 0 0 0 "hasAll") (HL : po_Lay K R st) : ∀ (n : Nat) (l0 : Nat) (l1 : Nat) (l2 : Int32), m_X0_hasAll_2L I n l0 l1 l2 = some ρ → K l0 = (11, 1) → K l1 = (11, 1) → po_V X G 3 (po_Q X G (.inl (some (.int ρ))) K R I none 0 0) 0 0 2 [(0, .ref l0), (1, .ref l1), (2, .int l2)] [] K R I none := by
  intro n
  induction n with
  | zero => intro l0 l1 l2 hm; cases hm
  | succ n ih => intro l0 l1 l2 hm kl0 kl1; exact w_X0_hasAll_2 hF hL HL (ih) l0 l1 l2 kl0 kl1 hm
set_option maxRecDepth 20000 in
set_option maxHeartbeats 2000000 in
theorem w_X0_hasAll_e {X : po_X} {G : po_G} {st : Nat → Nat} {K : po_K} {I : po_I} {R : po_R} {ρ : Int32} (hF : po_F X G cX0_hasAll RX0 3 st) (hL : po_L X (some .boolean) 0 0 0 "hasAll") (HL : po_Lay K R st) (l0 : Nat) (l1 : Nat) (kl0 : K l0 = (11, 1)) (kl1 : K l1 = (11, 1)) (hm : m_X0_hasAll_e I l0 l1 = some ρ) : po_V X G 3 (po_Q X G (.inl (some (.int ρ))) K R I none 0 0) 0 0 0 [(0, .ref l0), (1, .ref l1)] [] K R I none := by
  unfold m_X0_hasAll_e at hm
  refine po_iconst (v := 0) hF dX0_hasAll_0 (by decide) ?_
  refine po_istore_n (L' := [(2, .int 0), (0, .ref l0), (1, .ref l1)]) hF dX0_hasAll_1 rfl (by decide) rfl ?_
  refine po_sub (L' := [(0, .ref l0), (1, .ref l1), (2, .int 0)]) rfl ?_
  exact w_X0_hasAll_2L hF hL HL 5000 l0 l1 0 hm kl0 kl1
theorem c_X0_hasAll {K : po_K} {R : po_R} {I : po_I} {st : Nat → Nat} {ρ : Int32} (HL : po_Lay K R st) {l0 : Nat} {l1 : Nat} (kl0 : K l0 = (11, 1)) (kl1 : K l1 = (11, 1)) (hm : m_X0_hasAll I l0 l1 = some ρ) : po_C st yX0_hasAll cX0_hasAll 3 (some .boolean) 0 0 0 [.ref l0, .ref l1] K R I none (.inl (some (.int ρ))) K R I none := by
  refine po_ofC (by decide +kernel) (Nat.le_of_ble_eq_true rfl) (fun X G hF hL => ?_)
  exact w_X0_hasAll_e hF hL HL l0 l1 kl0 kl1 hm
