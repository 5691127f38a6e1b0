set_option maxRecDepth 20000 in
set_option maxHeartbeats 2000000 in
theorem w_X8_fulfil_81 {X : po_X} {G : po_G} {st : Nat → Nat} {K : po_K} {R : po_R} {ρ : Int32 × po_I} {r46 : po_I → Nat → Int32 → Int32 → Int32 → Option (Int32 × po_I)} (hF : po_F X G cX8_fulfil RX8 4 st) (hL : po_L X (some .int) 3 0 0 "fulfil") (HL : po_Lay K R st) (h46 : ∀ (I : po_I) (l0 : Nat) (l1 : Int32) (l2 : Int32) (l3 : Int32), r46 I l0 l1 l2 l3 = some ρ → K l0 = (19, 19) → po_V X G 4 (po_Q X G (.inl (some (.int ρ.1))) K R (ρ.2) none 0 0) 0 0 46 [(0, .ref l0), (1, .int l1), (2, .int l2), (3, .int l3)] [] K R I none) (I : po_I) (l0 : Nat) (l1 : Int32) (l2 : Int32) (l3 : Int32) (kl0 : K l0 = (19, 19)) (hm : m_X8_fulfil_81 r46 I l0 l1 l2 l3 = some ρ) : po_V X G 4 (po_Q X G (.inl (some (.int ρ.1))) K R (ρ.2) none 0 0) 0 0 81 [(0, .ref l0), (1, .int l1), (2, .int l2), (3, .int l3)] [] K R I none := by
  unfold m_X8_fulfil_81 at hm
  refine po_iinc (v := l3 + 1) (L' := [(3, .int (l3 + 1)), (0, .ref l0), (1, .int l1), (2, .int l2)]) hF dX8_fulfil_81 rfl rfl (by decide) rfl ?_
  refine po_goto (tgt := 46) hF dX8_fulfil_84 (by decide) ?_
  refine po_sub (L' := [(0, .ref l0), (1, .int l1), (2, .int l2), (3, .int (l3 + 1))]) rfl ?_
  exact h46 I l0 l1 l2 (l3 + 1) hm kl0
set_option maxRecDepth 20000 in
set_option maxHeartbeats 2000000 in
theorem w_X8_fulfil_46 {X : po_X} {G : po_G} {st : Nat → Nat} {K : po_K} {R : po_R} {ρ : Int32 × po_I} {r46 : po_I → Nat → Int32 → Int32 → Int32 → Option (Int32 × po_I)} (hF : po_F X G cX8_fulfil RX8 4 st) (hL : po_L X (some .int) 3 0 0 "fulfil") (HL : po_Lay K R st) (h46 : ∀ (I : po_I) (l0 : Nat) (l1 : Int32) (l2 : Int32) (l3 : Int32), r46 I l0 l1 l2 l3 = some ρ → K l0 = (19, 19) → po_V X G 4 (po_Q X G (.inl (some (.int ρ.1))) K R (ρ.2) none 0 0) 0 0 46 [(0, .ref l0), (1, .int l1), (2, .int l2), (3, .int l3)] [] K R I none) (I : po_I) (l0 : Nat) (l1 : Int32) (l2 : Int32) (l3 : Int32) (kl0 : K l0 = (19, 19)) (hm : m_X8_fulfil_46 r46 I l0 l1 l2 l3 = some ρ) : po_V X G 4 (po_Q X G (.inl (some (.int ρ.1))) K R (ρ.2) none 0 0) 0 0 46 [(0, .ref l0), (1, .int l1), (2, .int l2), (3, .int l3)] [] K R I none := by
  unfold m_X8_fulfil_46 at hm
  refine po_iload_n hF dX8_fulfil_46 rfl rfl ?_
  refine po_aload_n hF dX8_fulfil_47 rfl rfl ?_
  refine po_iload_n hF dX8_fulfil_48 rfl rfl ?_
  obtain ⟨x1, hx1, hm⟩ := po_bind hm
  refine po_callV (As := [.int l1]) hF dX8_fulfil_49 wq_1396 mv_X8_conditionMany ws_X8_conditionMany (show po_cl[8]? = some _ from rfl) rfl kl0 (c_X8_conditionMany HL kl0 hx1) rfl (po_rtL hL rfl) (Nat.le_of_ble_eq_true rfl) rfl ?_
  refine po_icmp_ge (tgt := 87) hF dX8_fulfil_52 (by decide) hm (fun hm => ?_) (fun hm => ?_)
  · refine po_aload_n hF dX8_fulfil_87 rfl rfl ?_
    refine po_iload_n hF dX8_fulfil_88 rfl rfl ?_
    obtain ⟨x2, hx2, hm⟩ := po_bind hm
    refine po_callV (As := [.int l1]) hF dX8_fulfil_89 wq_1517 mv_X8_openConditions ws_X8_openConditions (show po_cl[8]? = some _ from rfl) rfl kl0 (c_X8_openConditions HL kl0 hx2) rfl (po_rtL hL rfl) (Nat.le_of_ble_eq_true rfl) rfl ?_
    cases hm
    exact po_iret hF hL dX8_fulfil_92 (by decide) (by decide) rfl rfl rfl (Or.inl rfl)
  · refine po_aload_n hF dX8_fulfil_55 rfl rfl ?_
    refine po_iload_n hF dX8_fulfil_56 rfl rfl ?_
    refine po_iload_n hF dX8_fulfil_57 rfl rfl ?_
    refine po_iconst (v := 1) hF dX8_fulfil_58 (by decide) ?_
    obtain ⟨x3, hx3, hm⟩ := po_bind hm
    refine po_callV (As := [.int l1, .int l3, .int 1]) hF dX8_fulfil_59 wq_1521 mv_X8_conditionPart ws_X8_conditionPart (show po_cl[8]? = some _ from rfl) rfl kl0 (c_X8_conditionPart HL kl0 hx3) rfl (po_rtL hL rfl) (Nat.le_of_ble_eq_true rfl) rfl ?_
    refine po_iload_n hF dX8_fulfil_62 rfl rfl ?_
    refine po_icmp_ne (tgt := 81) hF dX8_fulfil_63 (by decide) hm (fun hm => ?_) (fun hm => ?_)
    · exact w_X8_fulfil_81 hF hL HL h46 I l0 l1 l2 l3 kl0 hm
    · refine po_aload_n hF dX8_fulfil_66 rfl rfl ?_
      refine po_iload_n hF dX8_fulfil_67 rfl rfl ?_
      refine po_iload_n hF dX8_fulfil_68 rfl rfl ?_
      refine po_aload_n hF dX8_fulfil_69 rfl rfl ?_
      refine po_iload_n hF dX8_fulfil_70 rfl rfl ?_
      refine po_iload_n hF dX8_fulfil_71 rfl rfl ?_
      refine po_iconst (v := 0) hF dX8_fulfil_72 (by decide) ?_
      obtain ⟨x4, hx4, hm⟩ := po_bind hm
      refine po_callV (As := [.int l1, .int l3, .int 0]) hF dX8_fulfil_73 wq_1521 mv_X8_conditionPart ws_X8_conditionPart (show po_cl[8]? = some _ from rfl) rfl kl0 (c_X8_conditionPart HL kl0 hx4) rfl (po_rtL hL rfl) (Nat.le_of_ble_eq_true rfl) rfl ?_
      refine po_iload_n hF dX8_fulfil_76 rfl rfl ?_
      refine po_iconst (v := 0) hF dX8_fulfil_77 (by decide) ?_
      obtain ⟨x5, hx5, hm⟩ := po_bind hm
      refine po_callV (As := [.int l1, .int l3, .int x4, .int l2, .int 0]) hF dX8_fulfil_78 wq_1400 mv_X8_putCondition ws_X8_putCondition (show po_cl[8]? = some _ from rfl) rfl kl0 (c_X8_putCondition HL kl0 hx5) rfl (po_rtL hL rfl) (Nat.le_of_ble_eq_true rfl) rfl ?_
      exact w_X8_fulfil_81 hF hL HL h46 x5 l0 l1 l2 l3 kl0 hm
theorem w_X8_fulfil_46L {X : po_X} {G : po_G} {st : Nat → Nat} {K : po_K} {R : po_R} {ρ : Int32 × po_I} (hF : po_F X G cX8_fulfil RX8 4 st) (hL : po_L X (some .int) 3 0 0 "fulfil") (HL : po_Lay K R st) : ∀ (n : Nat) (I : po_I) (l0 : Nat) (l1 : Int32) (l2 : Int32) (l3 : Int32), m_X8_fulfil_46L n I l0 l1 l2 l3 = some ρ → K l0 = (19, 19) → po_V X G 4 (po_Q X G (.inl (some (.int ρ.1))) K R (ρ.2) none 0 0) 0 0 46 [(0, .ref l0), (1, .int l1), (2, .int l2), (3, .int l3)] [] K R I none := by
  intro n
  induction n with
  | zero => intro I l0 l1 l2 l3 hm; cases hm
  | succ n ih => intro I l0 l1 l2 l3 hm kl0; exact w_X8_fulfil_46 hF hL HL (ih) I l0 l1 l2 l3 kl0 hm
set_option maxRecDepth 20000 in
set_option maxHeartbeats 2000000 in
theorem w_X8_fulfil_28 {X : po_X} {G : po_G} {st : Nat → Nat} {K : po_K} {R : po_R} {ρ : Int32 × po_I} (hF : po_F X G cX8_fulfil RX8 4 st) (hL : po_L X (some .int) 3 0 0 "fulfil") (HL : po_Lay K R st) (I : po_I) (l0 : Nat) (l1 : Int32) (l2 : Int32) (s0 : Nat) (s1 : Int32) (kl0 : K l0 = (19, 19)) (ks0 : K s0 = (19, 19)) (hm : m_X8_fulfil_28 I l0 l1 l2 s0 s1 = some ρ) : po_V X G 4 (po_Q X G (.inl (some (.int ρ.1))) K R (ρ.2) none 0 0) 0 0 28 [(0, .ref l0), (1, .int l1), (2, .int l2)] [.int s1, .ref s0] K R I none := by
  unfold m_X8_fulfil_28 at hm
  refine po_puti hF dX8_fulfil_28 fl_X8_1 ks0 (by intro r h; cases h; rfl) rfl rfl (fun _ => rfl) rfl ?_
  refine po_hname hm (fun I6 hm => ?_)
  refine po_aload_n hF dX8_fulfil_31 rfl rfl ?_
  refine po_getf (v := .int (I6 l0 0)) hF dX8_fulfil_32 fl_X8_1 kl0 rfl ?_
  refine po_if_eq (tgt := 40) hF dX8_fulfil_35 (by decide) hm (fun hm => ?_) (fun hm => ?_)
  · refine po_aload_n hF dX8_fulfil_40 rfl rfl ?_
    obtain ⟨x7, hx7, hm⟩ := po_bind hm
    refine po_callV (As := []) hF dX8_fulfil_41 wq_1476 mv_X8_call ws_X8_call (show po_cl[8]? = some _ from rfl) rfl kl0 (c_X8_call HL kl0 hx7) rfl (po_rtL hL rfl) (Nat.le_of_ble_eq_true rfl) rfl ?_
    refine po_iconst (v := 0) hF dX8_fulfil_44 (by decide) ?_
    refine po_istore_n (L' := [(3, .int 0), (0, .ref l0), (1, .int l1), (2, .int l2)]) hF dX8_fulfil_45 rfl (by decide) rfl ?_
    refine po_sub (L' := [(0, .ref l0), (1, .int l1), (2, .int l2), (3, .int 0)]) rfl ?_
    exact w_X8_fulfil_46L hF hL HL 5000 x7 l0 l1 l2 0 hm kl0
  · refine po_iconst (v := 0) hF dX8_fulfil_38 (by decide) ?_
    cases hm
    exact po_iret hF hL dX8_fulfil_39 (by decide) (by decide) rfl rfl rfl (Or.inl rfl)
set_option maxRecDepth 20000 in
set_option maxHeartbeats 2000000 in
theorem w_X8_fulfil_e {X : po_X} {G : po_G} {st : Nat → Nat} {K : po_K} {R : po_R} {ρ : Int32 × po_I} (hF : po_F X G cX8_fulfil RX8 4 st) (hL : po_L X (some .int) 3 0 0 "fulfil") (HL : po_Lay K R st) (I : po_I) (l0 : Nat) (l1 : Int32) (l2 : Int32) (kl0 : K l0 = (19, 19)) (hm : m_X8_fulfil_e I l0 l1 l2 = some ρ) : po_V X G 4 (po_Q X G (.inl (some (.int ρ.1))) K R (ρ.2) none 0 0) 0 0 0 [(0, .ref l0), (1, .int l1), (2, .int l2)] [] K R I none := by
  unfold m_X8_fulfil_e at hm
  refine po_aload_n hF dX8_fulfil_0 rfl rfl ?_
  refine po_aload_n hF dX8_fulfil_1 rfl rfl ?_
  refine po_iload_n hF dX8_fulfil_2 rfl rfl ?_
  obtain ⟨x8, hx8, hm⟩ := po_bind hm
  refine po_callV (As := [.int l1]) hF dX8_fulfil_3 wq_1513 mv_X8_isPermit ws_X8_isPermit (show po_cl[8]? = some _ from rfl) rfl kl0 (c_X8_isPermit HL kl0 hx8) rfl (po_rtL hL rfl) (Nat.le_of_ble_eq_true rfl) rfl ?_
  refine po_if_ne (tgt := 13) hF dX8_fulfil_6 (by decide) hm (fun hm => ?_) (fun hm => ?_)
  · refine po_aload_n hF dX8_fulfil_13 rfl rfl ?_
    refine po_iload_n hF dX8_fulfil_14 rfl rfl ?_
    refine po_iconst (v := 1) hF dX8_fulfil_15 (by decide) ?_
    refine po_iload_n hF dX8_fulfil_16 rfl rfl ?_
    obtain ⟨x9, hx9, hm⟩ := po_bind hm
    refine po_callV (As := [.int l1, .int 1, .int l2]) hF dX8_fulfil_17 wq_1636 mv_X8_hasOpen ws_X8_hasOpen (show po_cl[8]? = some _ from rfl) rfl kl0 (c_X8_hasOpen HL kl0 hx9) rfl (po_rtL hL rfl) (Nat.le_of_ble_eq_true rfl) rfl ?_
    refine po_if_ne (tgt := 27) hF dX8_fulfil_20 (by decide) hm (fun hm => ?_) (fun hm => ?_)
    · refine po_iconst (v := 0) hF dX8_fulfil_27 (by decide) ?_
      exact w_X8_fulfil_28 hF hL HL I l0 l1 l2 l0 0 kl0 kl0 hm
    · refine po_iconst (v := 2) hF dX8_fulfil_23 (by decide) ?_
      refine po_goto (tgt := 28) hF dX8_fulfil_24 (by decide) ?_
      exact w_X8_fulfil_28 hF hL HL I l0 l1 l2 l0 2 kl0 kl0 hm
  · refine po_iconst (v := 1) hF dX8_fulfil_9 (by decide) ?_
    refine po_goto (tgt := 28) hF dX8_fulfil_10 (by decide) ?_
    exact w_X8_fulfil_28 hF hL HL I l0 l1 l2 l0 1 kl0 kl0 hm
theorem c_X8_fulfil {K : po_K} {R : po_R} {I : po_I} {st : Nat → Nat} {ρ : Int32 × po_I} (HL : po_Lay K R st) {l0 : Nat} {l1 : Int32} {l2 : Int32} (kl0 : K l0 = (19, 19)) (hm : m_X8_fulfil I l0 l1 l2 = some ρ) : po_C st yX8_fulfil cX8_fulfil 4 (some .int) 3 0 0 [.ref l0, .int l1, .int l2] K R I none (.inl (some (.int ρ.1))) K R (ρ.2) none := by
  refine po_ofC (by decide +kernel) (Nat.le_of_ble_eq_true rfl) (fun X G hF hL => ?_)
  exact w_X8_fulfil_e hF hL HL I l0 l1 l2 kl0 hm
set_option maxRecDepth 20000 in
set_option maxHeartbeats 2000000 in
theorem w_X8_inspect_183 {X : po_X} {G : po_G} {st : Nat → Nat} {K : po_K} {R : po_R} {ρ : Int32 × po_I} (hF : po_F X G cX8_inspect RX8 2 st) (hL : po_L X (some .boolean) 3 0 0 "inspect") (HL : po_Lay K R st) (I : po_I) (s0 : Nat) (s1 : Int32) (s2 : Int32) (s3 : Int32) (ks0 : K s0 = (19, 19)) (hm : m_X8_inspect_183 I s0 s1 s2 s3 = some ρ) : po_V X G 2 (po_Q X G (.inl (some (.int ρ.1))) K R (ρ.2) none 0 0) 0 0 183 [] [.int s3, .int s2, .int s1, .ref s0] K R I none := by
  unfold m_X8_inspect_183 at hm
  obtain ⟨x1, hx1, hm⟩ := po_bind hm
  refine po_callV (As := [.int s1, .int s2, .int s3]) hF dX8_inspect_183 wq_1364 mv_X8_set ws_X8_set (show po_cl[8]? = some _ from rfl) rfl ks0 (c_X8_set HL ks0 hx1) rfl (po_rtL hL rfl) (Nat.le_of_ble_eq_true rfl) rfl ?_
  refine po_iconst (v := 1) hF dX8_inspect_186 (by decide) ?_
  cases hm
  exact po_zret hF hL dX8_inspect_187 (by decide) (by decide) (by decide) rfl rfl rfl (Or.inl rfl)
set_option maxRecDepth 20000 in
set_option maxHeartbeats 2000000 in
theorem w_X8_inspect_118 {X : po_X} {G : po_G} {st : Nat → Nat} {K : po_K} {R : po_R} {ρ : Int32 × po_I} (hF : po_F X G cX8_inspect RX8 2 st) (hL : po_L X (some .boolean) 3 0 0 "inspect") (HL : po_Lay K R st) (I : po_I) (s0 : Nat) (s1 : Int32) (s2 : Int32) (s3 : Int32) (ks0 : K s0 = (19, 19)) (hm : m_X8_inspect_118 I s0 s1 s2 s3 = some ρ) : po_V X G 2 (po_Q X G (.inl (some (.int ρ.1))) K R (ρ.2) none 0 0) 0 0 118 [] [.int s3, .int s2, .int s1, .ref s0] K R I none := by
  unfold m_X8_inspect_118 at hm
  obtain ⟨x2, hx2, hm⟩ := po_bind hm
  refine po_callV (As := [.int s1, .int s2, .int s3]) hF dX8_inspect_118 wq_1364 mv_X8_set ws_X8_set (show po_cl[8]? = some _ from rfl) rfl ks0 (c_X8_set HL ks0 hx2) rfl (po_rtL hL rfl) (Nat.le_of_ble_eq_true rfl) rfl ?_
  refine po_iconst (v := 0) hF dX8_inspect_121 (by decide) ?_
  cases hm
  exact po_zret hF hL dX8_inspect_122 (by decide) (by decide) (by decide) rfl rfl rfl (Or.inl rfl)
set_option maxRecDepth 20000 in
set_option maxHeartbeats 2000000 in
theorem w_X8_inspect_62 {X : po_X} {G : po_G} {st : Nat → Nat} {K : po_K} {R : po_R} {ρ : Int32 × po_I} (hF : po_F X G cX8_inspect RX8 2 st) (hL : po_L X (some .boolean) 3 0 0 "inspect") (HL : po_Lay K R st) (I : po_I) (l0 : Nat) (l1 : Int32) (s0 : Nat) (s1 : Int32) (s2 : Int32) (kl0 : K l0 = (19, 19)) (ks0 : K s0 = (19, 19)) (hm : m_X8_inspect_62 I l0 l1 s0 s1 s2 = some ρ) : po_V X G 2 (po_Q X G (.inl (some (.int ρ.1))) K R (ρ.2) none 0 0) 0 0 62 [(0, .ref l0), (1, .int l1)] [.int s2, .int s1, .ref s0] K R I none := by
  unfold m_X8_inspect_62 at hm
  obtain ⟨x3, hx3, hm⟩ := po_bind hm
  refine po_callV (As := [.int s1, .int s2]) hF dX8_inspect_62 wq_1585 mv_X8_pay ws_X8_pay (show po_cl[8]? = some _ from rfl) rfl ks0 (c_X8_pay HL ks0 hx3) rfl (po_rtL hL rfl) (Nat.le_of_ble_eq_true rfl) rfl ?_
  refine po_aload_n hF dX8_inspect_65 rfl rfl ?_
  refine po_iload_n hF dX8_inspect_66 rfl rfl ?_
  refine po_iconst (v := 0) hF dX8_inspect_67 (by decide) ?_
  refine po_aload_n hF dX8_inspect_68 rfl rfl ?_
  refine po_iload_n hF dX8_inspect_69 rfl rfl ?_
  refine po_bipush (v := 20) hF dX8_inspect_70 (by decide) ?_
  obtain ⟨x4, hx4, hm⟩ := po_bind hm
  refine po_callV (As := [.int l1, .int 20]) hF dX8_inspect_72 wq_1380 mv_X8_at ws_X8_at (show po_cl[8]? = some _ from rfl) rfl kl0 (c_X8_at HL kl0 hx4) rfl (po_rtL hL rfl) (Nat.le_of_ble_eq_true rfl) rfl ?_
  obtain ⟨x5, hx5, hm⟩ := po_bind hm
  refine po_callV (As := [.int l1, .int 0, .int x4]) hF dX8_inspect_75 wq_1636 mv_X8_hasOpen ws_X8_hasOpen (show po_cl[8]? = some _ from rfl) rfl kl0 (c_X8_hasOpen HL kl0 hx5) rfl (po_rtL hL rfl) (Nat.le_of_ble_eq_true rfl) rfl ?_
  refine po_if_eq (tgt := 123) hF dX8_inspect_78 (by decide) hm (fun hm => ?_) (fun hm => ?_)
  · refine po_aload_n hF dX8_inspect_123 rfl rfl ?_
    refine po_iload_n hF dX8_inspect_124 rfl rfl ?_
    refine po_bipush (v := 20) hF dX8_inspect_125 (by decide) ?_
    refine po_aload_n hF dX8_inspect_127 rfl rfl ?_
    refine po_iload_n hF dX8_inspect_128 rfl rfl ?_
    refine po_bipush (v := 20) hF dX8_inspect_129 (by decide) ?_
    obtain ⟨x6, hx6, hm⟩ := po_bind hm
    refine po_callV (As := [.int l1, .int 20]) hF dX8_inspect_131 wq_1380 mv_X8_at ws_X8_at (show po_cl[8]? = some _ from rfl) rfl kl0 (c_X8_at HL kl0 hx6) rfl (po_rtL hL rfl) (Nat.le_of_ble_eq_true rfl) rfl ?_
    refine po_iconst (v := 1) hF dX8_inspect_134 (by decide) ?_
    refine po_iadd hF dX8_inspect_135 ?_
    obtain ⟨x7, hx7, hm⟩ := po_bind hm
    refine po_callV (As := [.int l1, .int 20, .int (x6 + 1)]) hF dX8_inspect_136 wq_1364 mv_X8_set ws_X8_set (show po_cl[8]? = some _ from rfl) rfl kl0 (c_X8_set HL kl0 hx7) rfl (po_rtL hL rfl) (Nat.le_of_ble_eq_true rfl) rfl ?_
    refine po_aload_n hF dX8_inspect_139 rfl rfl ?_
    refine po_iload_n hF dX8_inspect_140 rfl rfl ?_
    refine po_bipush (v := 21) hF dX8_inspect_141 (by decide) ?_
    refine po_iconst (v := 0) hF dX8_inspect_143 (by decide) ?_
    obtain ⟨x8, hx8, hm⟩ := po_bind hm
    refine po_callV (As := [.int l1, .int 21, .int 0]) hF dX8_inspect_144 wq_1364 mv_X8_set ws_X8_set (show po_cl[8]? = some _ from rfl) rfl kl0 (c_X8_set HL kl0 hx8) rfl (po_rtL hL rfl) (Nat.le_of_ble_eq_true rfl) rfl ?_
    refine po_aload_n hF dX8_inspect_147 rfl rfl ?_
    refine po_iload_n hF dX8_inspect_148 rfl rfl ?_
    refine po_bipush (v := 22) hF dX8_inspect_149 (by decide) ?_
    refine po_aload_n hF dX8_inspect_151 rfl rfl ?_
    refine po_getf (v := .ref (l0 + 1)) hF dX8_inspect_152 fl_X8_13 kl0 (ly_8_1 HL kl0).1 ?_
    refine po_iconst (v := 0) hF dX8_inspect_155 (by decide) ?_
    refine po_ialdC (j := 0) hF dX8_inspect_156 ((ly_8_1 HL kl0).2) (Or.inl rfl) (by decide) (by decide) (by decide) ?_
    refine po_bipush (v := 30) hF dX8_inspect_157 (by decide) ?_
    refine po_iadd hF dX8_inspect_159 ?_
    obtain ⟨x9, hx9, hm⟩ := po_bind hm
    refine po_callV (As := [.int l1, .int 22, .int ((x8 (l0 + 1) 0) + 30)]) hF dX8_inspect_160 wq_1364 mv_X8_set ws_X8_set (show po_cl[8]? = some _ from rfl) rfl kl0 (c_X8_set HL kl0 hx9) rfl (po_rtL hL rfl) (Nat.le_of_ble_eq_true rfl) rfl ?_
    refine po_aload_n hF dX8_inspect_163 rfl rfl ?_
    refine po_iload_n hF dX8_inspect_164 rfl rfl ?_
    refine po_bipush (v := 19) hF dX8_inspect_165 (by decide) ?_
    refine po_aload_n hF dX8_inspect_167 rfl rfl ?_
    refine po_iload_n hF dX8_inspect_168 rfl rfl ?_
    refine po_bipush (v := 20) hF dX8_inspect_169 (by decide) ?_
    obtain ⟨x10, hx10, hm⟩ := po_bind hm
    refine po_callV (As := [.int l1, .int 20]) hF dX8_inspect_171 wq_1380 mv_X8_at ws_X8_at (show po_cl[8]? = some _ from rfl) rfl kl0 (c_X8_at HL kl0 hx10) rfl (po_rtL hL rfl) (Nat.le_of_ble_eq_true rfl) rfl ?_
    refine po_iconst (v := 4) hF dX8_inspect_174 (by decide) ?_
    refine po_icmp_ne (tgt := 182) hF dX8_inspect_175 (by decide) hm (fun hm => ?_) (fun hm => ?_)
    · refine po_iconst (v := 2) hF dX8_inspect_182 (by decide) ?_
      refine po_sub (L' := []) rfl ?_
      exact w_X8_inspect_183 hF hL HL x9 l0 l1 19 2 kl0 hm
    · refine po_iconst (v := 3) hF dX8_inspect_178 (by decide) ?_
      refine po_goto (tgt := 183) hF dX8_inspect_179 (by decide) ?_
      refine po_sub (L' := []) rfl ?_
      exact w_X8_inspect_183 hF hL HL x9 l0 l1 19 3 kl0 hm
  · refine po_aload_n hF dX8_inspect_81 rfl rfl ?_
    refine po_iload_n hF dX8_inspect_82 rfl rfl ?_
    refine po_bipush (v := 21) hF dX8_inspect_83 (by decide) ?_
    refine po_aload_n hF dX8_inspect_85 rfl rfl ?_
    refine po_iload_n hF dX8_inspect_86 rfl rfl ?_
    refine po_bipush (v := 21) hF dX8_inspect_87 (by decide) ?_
    obtain ⟨x11, hx11, hm⟩ := po_bind hm
    refine po_callV (As := [.int l1, .int 21]) hF dX8_inspect_89 wq_1380 mv_X8_at ws_X8_at (show po_cl[8]? = some _ from rfl) rfl kl0 (c_X8_at HL kl0 hx11) rfl (po_rtL hL rfl) (Nat.le_of_ble_eq_true rfl) rfl ?_
    refine po_iconst (v := 1) hF dX8_inspect_92 (by decide) ?_
    refine po_iadd hF dX8_inspect_93 ?_
    obtain ⟨x12, hx12, hm⟩ := po_bind hm
    refine po_callV (As := [.int l1, .int 21, .int (x11 + 1)]) hF dX8_inspect_94 wq_1364 mv_X8_set ws_X8_set (show po_cl[8]? = some _ from rfl) rfl kl0 (c_X8_set HL kl0 hx12) rfl (po_rtL hL rfl) (Nat.le_of_ble_eq_true rfl) rfl ?_
    refine po_aload_n hF dX8_inspect_97 rfl rfl ?_
    refine po_iload_n hF dX8_inspect_98 rfl rfl ?_
    refine po_bipush (v := 19) hF dX8_inspect_99 (by decide) ?_
    refine po_aload_n hF dX8_inspect_101 rfl rfl ?_
    refine po_iload_n hF dX8_inspect_102 rfl rfl ?_
    refine po_bipush (v := 21) hF dX8_inspect_103 (by decide) ?_
    obtain ⟨x13, hx13, hm⟩ := po_bind hm
    refine po_callV (As := [.int l1, .int 21]) hF dX8_inspect_105 wq_1380 mv_X8_at ws_X8_at (show po_cl[8]? = some _ from rfl) rfl kl0 (c_X8_at HL kl0 hx13) rfl (po_rtL hL rfl) (Nat.le_of_ble_eq_true rfl) rfl ?_
    refine po_iconst (v := 3) hF dX8_inspect_108 (by decide) ?_
    refine po_icmp_ne (tgt := 117) hF dX8_inspect_109 (by decide) hm (fun hm => ?_) (fun hm => ?_)
    · refine po_iconst (v := 2) hF dX8_inspect_117 (by decide) ?_
      refine po_sub (L' := []) rfl ?_
      exact w_X8_inspect_118 hF hL HL x12 l0 l1 19 2 kl0 hm
    · refine po_bipush (v := 6) hF dX8_inspect_112 (by decide) ?_
      refine po_goto (tgt := 118) hF dX8_inspect_114 (by decide) ?_
      refine po_sub (L' := []) rfl ?_
      exact w_X8_inspect_118 hF hL HL x12 l0 l1 19 6 kl0 hm
set_option maxRecDepth 20000 in
set_option maxHeartbeats 2000000 in
theorem w_X8_inspect_29 {X : po_X} {G : po_G} {st : Nat → Nat} {K : po_K} {R : po_R} {ρ : Int32 × po_I} (hF : po_F X G cX8_inspect RX8 2 st) (hL : po_L X (some .boolean) 3 0 0 "inspect") (HL : po_Lay K R st) (I : po_I) (l0 : Nat) (l1 : Int32) (s0 : Nat) (s1 : Int32) (kl0 : K l0 = (19, 19)) (ks0 : K s0 = (19, 19)) (hm : m_X8_inspect_29 I l0 l1 s0 s1 = some ρ) : po_V X G 2 (po_Q X G (.inl (some (.int ρ.1))) K R (ρ.2) none 0 0) 0 0 29 [(0, .ref l0), (1, .int l1)] [.int s1, .ref s0] K R I none := by
  unfold m_X8_inspect_29 at hm
  refine po_puti hF dX8_inspect_29 fl_X8_1 ks0 (by intro r h; cases h; rfl) rfl rfl (fun _ => rfl) rfl ?_
  refine po_hname hm (fun I14 hm => ?_)
  refine po_aload_n hF dX8_inspect_32 rfl rfl ?_
  refine po_getf (v := .int (I14 l0 0)) hF dX8_inspect_33 fl_X8_1 kl0 rfl ?_
  refine po_if_eq (tgt := 41) hF dX8_inspect_36 (by decide) hm (fun hm => ?_) (fun hm => ?_)
  · refine po_aload_n hF dX8_inspect_41 rfl rfl ?_
    obtain ⟨x15, hx15, hm⟩ := po_bind hm
    refine po_callV (As := []) hF dX8_inspect_42 wq_1476 mv_X8_call ws_X8_call (show po_cl[8]? = some _ from rfl) rfl kl0 (c_X8_call HL kl0 hx15) rfl (po_rtL hL rfl) (Nat.le_of_ble_eq_true rfl) rfl ?_
    refine po_aload_n hF dX8_inspect_45 rfl rfl ?_
    refine po_iload_n hF dX8_inspect_46 rfl rfl ?_
    refine po_aload_n hF dX8_inspect_47 rfl rfl ?_
    refine po_iload_n hF dX8_inspect_48 rfl rfl ?_
    refine po_bipush (v := 21) hF dX8_inspect_49 (by decide) ?_
    obtain ⟨x16, hx16, hm⟩ := po_bind hm
    refine po_callV (As := [.int l1, .int 21]) hF dX8_inspect_51 wq_1380 mv_X8_at ws_X8_at (show po_cl[8]? = some _ from rfl) rfl kl0 (c_X8_at HL kl0 hx16) rfl (po_rtL hL rfl) (Nat.le_of_ble_eq_true rfl) rfl ?_
    refine po_if_le (tgt := 61) hF dX8_inspect_54 (by decide) hm (fun hm => ?_) (fun hm => ?_)
    · refine po_iconst (v := 0) hF dX8_inspect_61 (by decide) ?_
      exact w_X8_inspect_62 hF hL HL x15 l0 l1 l0 l1 0 kl0 kl0 hm
    · refine po_iconst (v := 5) hF dX8_inspect_57 (by decide) ?_
      refine po_goto (tgt := 62) hF dX8_inspect_58 (by decide) ?_
      exact w_X8_inspect_62 hF hL HL x15 l0 l1 l0 l1 5 kl0 kl0 hm
  · refine po_iconst (v := 0) hF dX8_inspect_39 (by decide) ?_
    cases hm
    exact po_zret hF hL dX8_inspect_40 (by decide) (by decide) (by decide) rfl rfl rfl (Or.inl rfl)
set_option maxRecDepth 20000 in
set_option maxHeartbeats 2000000 in
theorem w_X8_inspect_e {X : po_X} {G : po_G} {st : Nat → Nat} {K : po_K} {R : po_R} {ρ : Int32 × po_I} (hF : po_F X G cX8_inspect RX8 2 st) (hL : po_L X (some .boolean) 3 0 0 "inspect") (HL : po_Lay K R st) (I : po_I) (l0 : Nat) (l1 : Int32) (kl0 : K l0 = (19, 19)) (hm : m_X8_inspect_e I l0 l1 = some ρ) : po_V X G 2 (po_Q X G (.inl (some (.int ρ.1))) K R (ρ.2) none 0 0) 0 0 0 [(0, .ref l0), (1, .int l1)] [] K R I none := by
  unfold m_X8_inspect_e at hm
  refine po_aload_n hF dX8_inspect_0 rfl rfl ?_
  refine po_aload_n hF dX8_inspect_1 rfl rfl ?_
  refine po_iload_n hF dX8_inspect_2 rfl rfl ?_
  obtain ⟨x17, hx17, hm⟩ := po_bind hm
  refine po_callV (As := [.int l1]) hF dX8_inspect_3 wq_1513 mv_X8_isPermit ws_X8_isPermit (show po_cl[8]? = some _ from rfl) rfl kl0 (c_X8_isPermit HL kl0 hx17) rfl (po_rtL hL rfl) (Nat.le_of_ble_eq_true rfl) rfl ?_
  refine po_if_ne (tgt := 13) hF dX8_inspect_6 (by decide) hm (fun hm => ?_) (fun hm => ?_)
  · refine po_aload_n hF dX8_inspect_13 rfl rfl ?_
    refine po_iload_n hF dX8_inspect_14 rfl rfl ?_
    refine po_bipush (v := 19) hF dX8_inspect_15 (by decide) ?_
    obtain ⟨x18, hx18, hm⟩ := po_bind hm
    refine po_callV (As := [.int l1, .int 19]) hF dX8_inspect_17 wq_1380 mv_X8_at ws_X8_at (show po_cl[8]? = some _ from rfl) rfl kl0 (c_X8_at HL kl0 hx18) rfl (po_rtL hL rfl) (Nat.le_of_ble_eq_true rfl) rfl ?_
    refine po_iconst (v := 2) hF dX8_inspect_20 (by decide) ?_
    refine po_icmp_eq (tgt := 28) hF dX8_inspect_21 (by decide) hm (fun hm => ?_) (fun hm => ?_)
    · refine po_iconst (v := 0) hF dX8_inspect_28 (by decide) ?_
      exact w_X8_inspect_29 hF hL HL I l0 l1 l0 0 kl0 kl0 hm
    · refine po_iconst (v := 2) hF dX8_inspect_24 (by decide) ?_
      refine po_goto (tgt := 29) hF dX8_inspect_25 (by decide) ?_
      exact w_X8_inspect_29 hF hL HL I l0 l1 l0 2 kl0 kl0 hm
  · refine po_iconst (v := 1) hF dX8_inspect_9 (by decide) ?_
    refine po_goto (tgt := 29) hF dX8_inspect_10 (by decide) ?_
    exact w_X8_inspect_29 hF hL HL I l0 l1 l0 1 kl0 kl0 hm
theorem c_X8_inspect {K : po_K} {R : po_R} {I : po_I} {st : Nat → Nat} {ρ : Int32 × po_I} (HL : po_Lay K R st) {l0 : Nat} {l1 : Int32} (kl0 : K l0 = (19, 19)) (hm : m_X8_inspect I l0 l1 = some ρ) : po_C st yX8_inspect cX8_inspect 2 (some .boolean) 3 0 0 [.ref l0, .int l1] K R I none (.inl (some (.int ρ.1))) K R (ρ.2) none := by
  refine po_ofC (by decide +kernel) (Nat.le_of_ble_eq_true rfl) (fun X G hF hL => ?_)
  exact w_X8_inspect_e hF hL HL I l0 l1 kl0 hm
set_option maxRecDepth 20000 in
set_option maxHeartbeats 2000000 in
theorem w_X8_reinstate_30 {X : po_X} {G : po_G} {st : Nat → Nat} {K : po_K} {R : po_R} {ρ : Int32 × po_I} (hF : po_F X G cX8_reinstate RX8 2 st) (hL : po_L X (some .int) 2 0 0 "reinstate") (HL : po_Lay K R st) (I : po_I) (l0 : Nat) (l1 : Int32) (s0 : Nat) (s1 : Int32) (kl0 : K l0 = (19, 19)) (ks0 : K s0 = (19, 19)) (hm : m_X8_reinstate_30 I l0 l1 s0 s1 = some ρ) : po_V X G 2 (po_Q X G (.inl (some (.int ρ.1))) K R (ρ.2) none 0 0) 0 0 30 [(0, .ref l0), (1, .int l1)] [.int s1, .ref s0] K R I none := by
  unfold m_X8_reinstate_30 at hm
  refine po_puti hF dX8_reinstate_30 fl_X8_1 ks0 (by intro r h; cases h; rfl) rfl rfl (fun _ => rfl) rfl ?_
  refine po_hname hm (fun I1 hm => ?_)
  refine po_aload_n hF dX8_reinstate_33 rfl rfl ?_
  refine po_getf (v := .int (I1 l0 0)) hF dX8_reinstate_34 fl_X8_1 kl0 rfl ?_
  refine po_if_eq (tgt := 42) hF dX8_reinstate_37 (by decide) hm (fun hm => ?_) (fun hm => ?_)
  · refine po_aload_n hF dX8_reinstate_42 rfl rfl ?_
    obtain ⟨x2, hx2, hm⟩ := po_bind hm
    refine po_callV (As := []) hF dX8_reinstate_43 wq_1476 mv_X8_call ws_X8_call (show po_cl[8]? = some _ from rfl) rfl kl0 (c_X8_call HL kl0 hx2) rfl (po_rtL hL rfl) (Nat.le_of_ble_eq_true rfl) rfl ?_
    refine po_aload_n hF dX8_reinstate_46 rfl rfl ?_
    refine po_iload_n hF dX8_reinstate_47 rfl rfl ?_
    refine po_bipush (v := 19) hF dX8_reinstate_48 (by decide) ?_
    refine po_iconst (v := 2) hF dX8_reinstate_50 (by decide) ?_
    obtain ⟨x3, hx3, hm⟩ := po_bind hm
    refine po_callV (As := [.int l1, .int 19, .int 2]) hF dX8_reinstate_51 wq_1364 mv_X8_set ws_X8_set (show po_cl[8]? = some _ from rfl) rfl kl0 (c_X8_set HL kl0 hx3) rfl (po_rtL hL rfl) (Nat.le_of_ble_eq_true rfl) rfl ?_
    refine po_aload_n hF dX8_reinstate_54 rfl rfl ?_
    refine po_iload_n hF dX8_reinstate_55 rfl rfl ?_
    refine po_bipush (v := 21) hF dX8_reinstate_56 (by decide) ?_
    refine po_iconst (v := 0) hF dX8_reinstate_58 (by decide) ?_
    obtain ⟨x4, hx4, hm⟩ := po_bind hm
    refine po_callV (As := [.int l1, .int 21, .int 0]) hF dX8_reinstate_59 wq_1364 mv_X8_set ws_X8_set (show po_cl[8]? = some _ from rfl) rfl kl0 (c_X8_set HL kl0 hx4) rfl (po_rtL hL rfl) (Nat.le_of_ble_eq_true rfl) rfl ?_
    refine po_aload_n hF dX8_reinstate_62 rfl rfl ?_
    refine po_iload_n hF dX8_reinstate_63 rfl rfl ?_
    refine po_bipush (v := 22) hF dX8_reinstate_64 (by decide) ?_
    refine po_aload_n hF dX8_reinstate_66 rfl rfl ?_
    refine po_getf (v := .ref (l0 + 1)) hF dX8_reinstate_67 fl_X8_13 kl0 (ly_8_1 HL kl0).1 ?_
    refine po_iconst (v := 0) hF dX8_reinstate_70 (by decide) ?_
    refine po_ialdC (j := 0) hF dX8_reinstate_71 ((ly_8_1 HL kl0).2) (Or.inl rfl) (by decide) (by decide) (by decide) ?_
    refine po_bipush (v := 30) hF dX8_reinstate_72 (by decide) ?_
    refine po_iadd hF dX8_reinstate_74 ?_
    obtain ⟨x5, hx5, hm⟩ := po_bind hm
    refine po_callV (As := [.int l1, .int 22, .int ((x4 (l0 + 1) 0) + 30)]) hF dX8_reinstate_75 wq_1364 mv_X8_set ws_X8_set (show po_cl[8]? = some _ from rfl) rfl kl0 (c_X8_set HL kl0 hx5) rfl (po_rtL hL rfl) (Nat.le_of_ble_eq_true rfl) rfl ?_
    refine po_aload_n hF dX8_reinstate_78 rfl rfl ?_
    refine po_iload_n hF dX8_reinstate_79 rfl rfl ?_
    refine po_bipush (v := 25) hF dX8_reinstate_80 (by decide) ?_
    obtain ⟨x6, hx6, hm⟩ := po_bind hm
    refine po_callV (As := [.int l1, .int 25]) hF dX8_reinstate_82 wq_1585 mv_X8_pay ws_X8_pay (show po_cl[8]? = some _ from rfl) rfl kl0 (c_X8_pay HL kl0 hx6) rfl (po_rtL hL rfl) (Nat.le_of_ble_eq_true rfl) rfl ?_
    refine po_aload_n hF dX8_reinstate_85 rfl rfl ?_
    refine po_iload_n hF dX8_reinstate_86 rfl rfl ?_
    refine po_bipush (v := 20) hF dX8_reinstate_87 (by decide) ?_
    obtain ⟨x7, hx7, hm⟩ := po_bind hm
    refine po_callV (As := [.int l1, .int 20]) hF dX8_reinstate_89 wq_1380 mv_X8_at ws_X8_at (show po_cl[8]? = some _ from rfl) rfl kl0 (c_X8_at HL kl0 hx7) rfl (po_rtL hL rfl) (Nat.le_of_ble_eq_true rfl) rfl ?_
    cases hm
    exact po_iret hF hL dX8_reinstate_92 (by decide) (by decide) rfl rfl rfl (Or.inl rfl)
  · refine po_iconst (v := 0) hF dX8_reinstate_40 (by decide) ?_
    cases hm
    exact po_iret hF hL dX8_reinstate_41 (by decide) (by decide) rfl rfl rfl (Or.inl rfl)
set_option maxRecDepth 20000 in
set_option maxHeartbeats 2000000 in
theorem w_X8_reinstate_e {X : po_X} {G : po_G} {st : Nat → Nat} {K : po_K} {R : po_R} {ρ : Int32 × po_I} (hF : po_F X G cX8_reinstate RX8 2 st) (hL : po_L X (some .int) 2 0 0 "reinstate") (HL : po_Lay K R st) (I : po_I) (l0 : Nat) (l1 : Int32) (kl0 : K l0 = (19, 19)) (hm : m_X8_reinstate_e I l0 l1 = some ρ) : po_V X G 2 (po_Q X G (.inl (some (.int ρ.1))) K R (ρ.2) none 0 0) 0 0 0 [(0, .ref l0), (1, .int l1)] [] K R I none := by
  unfold m_X8_reinstate_e at hm
  refine po_aload_n hF dX8_reinstate_0 rfl rfl ?_
  refine po_aload_n hF dX8_reinstate_1 rfl rfl ?_
  refine po_iload_n hF dX8_reinstate_2 rfl rfl ?_
  obtain ⟨x8, hx8, hm⟩ := po_bind hm
  refine po_callV (As := [.int l1]) hF dX8_reinstate_3 wq_1513 mv_X8_isPermit ws_X8_isPermit (show po_cl[8]? = some _ from rfl) rfl kl0 (c_X8_isPermit HL kl0 hx8) rfl (po_rtL hL rfl) (Nat.le_of_ble_eq_true rfl) rfl ?_
  refine po_if_ne (tgt := 13) hF dX8_reinstate_6 (by decide) hm (fun hm => ?_) (fun hm => ?_)
  · refine po_aload_n hF dX8_reinstate_13 rfl rfl ?_
    refine po_iload_n hF dX8_reinstate_14 rfl rfl ?_
    refine po_bipush (v := 19) hF dX8_reinstate_15 (by decide) ?_
    obtain ⟨x9, hx9, hm⟩ := po_bind hm
    refine po_callV (As := [.int l1, .int 19]) hF dX8_reinstate_17 wq_1380 mv_X8_at ws_X8_at (show po_cl[8]? = some _ from rfl) rfl kl0 (c_X8_at HL kl0 hx9) rfl (po_rtL hL rfl) (Nat.le_of_ble_eq_true rfl) rfl ?_
    refine po_bipush (v := 6) hF dX8_reinstate_20 (by decide) ?_
    refine po_icmp_eq (tgt := 29) hF dX8_reinstate_22 (by decide) hm (fun hm => ?_) (fun hm => ?_)
    · refine po_iconst (v := 0) hF dX8_reinstate_29 (by decide) ?_
      exact w_X8_reinstate_30 hF hL HL I l0 l1 l0 0 kl0 kl0 hm
    · refine po_iconst (v := 2) hF dX8_reinstate_25 (by decide) ?_
      refine po_goto (tgt := 30) hF dX8_reinstate_26 (by decide) ?_
      exact w_X8_reinstate_30 hF hL HL I l0 l1 l0 2 kl0 kl0 hm
  · refine po_iconst (v := 1) hF dX8_reinstate_9 (by decide) ?_
    refine po_goto (tgt := 30) hF dX8_reinstate_10 (by decide) ?_
    exact w_X8_reinstate_30 hF hL HL I l0 l1 l0 1 kl0 kl0 hm
theorem c_X8_reinstate {K : po_K} {R : po_R} {I : po_I} {st : Nat → Nat} {ρ : Int32 × po_I} (HL : po_Lay K R st) {l0 : Nat} {l1 : Int32} (kl0 : K l0 = (19, 19)) (hm : m_X8_reinstate I l0 l1 = some ρ) : po_C st yX8_reinstate cX8_reinstate 2 (some .int) 2 0 0 [.ref l0, .int l1] K R I none (.inl (some (.int ρ.1))) K R (ρ.2) none := by
  refine po_ofC (by decide +kernel) (Nat.le_of_ble_eq_true rfl) (fun X G hF hL => ?_)
  exact w_X8_reinstate_e hF hL HL I l0 l1 kl0 hm
set_option maxRecDepth 20000 in
set_option maxHeartbeats 2000000 in
theorem w_X8_extend_40 {X : po_X} {G : po_G} {st : Nat → Nat} {K : po_K} {R : po_R} {ρ : Int32 × po_I} (hF : po_F X G cX8_extend RX8 2 st) (hL : po_L X (some .int) 2 0 0 "extend") (HL : po_Lay K R st) (I : po_I) (l0 : Nat) (l1 : Int32) (s0 : Nat) (s1 : Int32) (kl0 : K l0 = (19, 19)) (ks0 : K s0 = (19, 19)) (hm : m_X8_extend_40 I l0 l1 s0 s1 = some ρ) : po_V X G 2 (po_Q X G (.inl (some (.int ρ.1))) K R (ρ.2) none 0 0) 0 0 40 [(0, .ref l0), (1, .int l1)] [.int s1, .ref s0] K R I none := by
  unfold m_X8_extend_40 at hm
  refine po_puti hF dX8_extend_40 fl_X8_1 ks0 (by intro r h; cases h; rfl) rfl rfl (fun _ => rfl) rfl ?_
  refine po_hname hm (fun I1 hm => ?_)
  refine po_aload_n hF dX8_extend_43 rfl rfl ?_
  refine po_getf (v := .int (I1 l0 0)) hF dX8_extend_44 fl_X8_1 kl0 rfl ?_
  refine po_if_eq (tgt := 52) hF dX8_extend_47 (by decide) hm (fun hm => ?_) (fun hm => ?_)
  · refine po_aload_n hF dX8_extend_52 rfl rfl ?_
    obtain ⟨x2, hx2, hm⟩ := po_bind hm
    refine po_callV (As := []) hF dX8_extend_53 wq_1476 mv_X8_call ws_X8_call (show po_cl[8]? = some _ from rfl) rfl kl0 (c_X8_call HL kl0 hx2) rfl (po_rtL hL rfl) (Nat.le_of_ble_eq_true rfl) rfl ?_
    refine po_aload_n hF dX8_extend_56 rfl rfl ?_
    refine po_iload_n hF dX8_extend_57 rfl rfl ?_
    refine po_bipush (v := 23) hF dX8_extend_58 (by decide) ?_
    refine po_iconst (v := 1) hF dX8_extend_60 (by decide) ?_
    obtain ⟨x3, hx3, hm⟩ := po_bind hm
    refine po_callV (As := [.int l1, .int 23, .int 1]) hF dX8_extend_61 wq_1364 mv_X8_set ws_X8_set (show po_cl[8]? = some _ from rfl) rfl kl0 (c_X8_set HL kl0 hx3) rfl (po_rtL hL rfl) (Nat.le_of_ble_eq_true rfl) rfl ?_
    refine po_aload_n hF dX8_extend_64 rfl rfl ?_
    refine po_iload_n hF dX8_extend_65 rfl rfl ?_
    refine po_bipush (v := 22) hF dX8_extend_66 (by decide) ?_
    refine po_aload_n hF dX8_extend_68 rfl rfl ?_
    refine po_iload_n hF dX8_extend_69 rfl rfl ?_
    refine po_bipush (v := 22) hF dX8_extend_70 (by decide) ?_
    obtain ⟨x4, hx4, hm⟩ := po_bind hm
    refine po_callV (As := [.int l1, .int 22]) hF dX8_extend_72 wq_1380 mv_X8_at ws_X8_at (show po_cl[8]? = some _ from rfl) rfl kl0 (c_X8_at HL kl0 hx4) rfl (po_rtL hL rfl) (Nat.le_of_ble_eq_true rfl) rfl ?_
    refine po_bipush (v := 15) hF dX8_extend_75 (by decide) ?_
    refine po_iadd hF dX8_extend_77 ?_
    obtain ⟨x5, hx5, hm⟩ := po_bind hm
    refine po_callV (As := [.int l1, .int 22, .int (x4 + 15)]) hF dX8_extend_78 wq_1364 mv_X8_set ws_X8_set (show po_cl[8]? = some _ from rfl) rfl kl0 (c_X8_set HL kl0 hx5) rfl (po_rtL hL rfl) (Nat.le_of_ble_eq_true rfl) rfl ?_
    refine po_aload_n hF dX8_extend_81 rfl rfl ?_
    refine po_iload_n hF dX8_extend_82 rfl rfl ?_
    refine po_bipush (v := 15) hF dX8_extend_83 (by decide) ?_
    obtain ⟨x6, hx6, hm⟩ := po_bind hm
    refine po_callV (As := [.int l1, .int 15]) hF dX8_extend_85 wq_1585 mv_X8_pay ws_X8_pay (show po_cl[8]? = some _ from rfl) rfl kl0 (c_X8_pay HL kl0 hx6) rfl (po_rtL hL rfl) (Nat.le_of_ble_eq_true rfl) rfl ?_
    refine po_aload_n hF dX8_extend_88 rfl rfl ?_
    refine po_iload_n hF dX8_extend_89 rfl rfl ?_
    refine po_bipush (v := 22) hF dX8_extend_90 (by decide) ?_
    obtain ⟨x7, hx7, hm⟩ := po_bind hm
    refine po_callV (As := [.int l1, .int 22]) hF dX8_extend_92 wq_1380 mv_X8_at ws_X8_at (show po_cl[8]? = some _ from rfl) rfl kl0 (c_X8_at HL kl0 hx7) rfl (po_rtL hL rfl) (Nat.le_of_ble_eq_true rfl) rfl ?_
    cases hm
    exact po_iret hF hL dX8_extend_95 (by decide) (by decide) rfl rfl rfl (Or.inl rfl)
  · refine po_iconst (v := 0) hF dX8_extend_50 (by decide) ?_
    cases hm
    exact po_iret hF hL dX8_extend_51 (by decide) (by decide) rfl rfl rfl (Or.inl rfl)
set_option maxRecDepth 20000 in
set_option maxHeartbeats 2000000 in
theorem w_X8_extend_35 {X : po_X} {G : po_G} {st : Nat → Nat} {K : po_K} {R : po_R} {ρ : Int32 × po_I} (hF : po_F X G cX8_extend RX8 2 st) (hL : po_L X (some .int) 2 0 0 "extend") (HL : po_Lay K R st) (I : po_I) (l0 : Nat) (l1 : Int32) (s0 : Nat) (kl0 : K l0 = (19, 19)) (ks0 : K s0 = (19, 19)) (hm : m_X8_extend_35 I l0 l1 s0 = some ρ) : po_V X G 2 (po_Q X G (.inl (some (.int ρ.1))) K R (ρ.2) none 0 0) 0 0 35 [(0, .ref l0), (1, .int l1)] [.ref s0] K R I none := by
  unfold m_X8_extend_35 at hm
  refine po_iconst (v := 2) hF dX8_extend_35 (by decide) ?_
  refine po_goto (tgt := 40) hF dX8_extend_36 (by decide) ?_
  exact w_X8_extend_40 hF hL HL I l0 l1 s0 2 kl0 ks0 hm
set_option maxRecDepth 20000 in
set_option maxHeartbeats 2000000 in
theorem w_X8_extend_e {X : po_X} {G : po_G} {st : Nat → Nat} {K : po_K} {R : po_R} {ρ : Int32 × po_I} (hF : po_F X G cX8_extend RX8 2 st) (hL : po_L X (some .int) 2 0 0 "extend") (HL : po_Lay K R st) (I : po_I) (l0 : Nat) (l1 : Int32) (kl0 : K l0 = (19, 19)) (hm : m_X8_extend_e I l0 l1 = some ρ) : po_V X G 2 (po_Q X G (.inl (some (.int ρ.1))) K R (ρ.2) none 0 0) 0 0 0 [(0, .ref l0), (1, .int l1)] [] K R I none := by
  unfold m_X8_extend_e at hm
  refine po_aload_n hF dX8_extend_0 rfl rfl ?_
  refine po_aload_n hF dX8_extend_1 rfl rfl ?_
  refine po_iload_n hF dX8_extend_2 rfl rfl ?_
  obtain ⟨x8, hx8, hm⟩ := po_bind hm
  refine po_callV (As := [.int l1]) hF dX8_extend_3 wq_1513 mv_X8_isPermit ws_X8_isPermit (show po_cl[8]? = some _ from rfl) rfl kl0 (c_X8_isPermit HL kl0 hx8) rfl (po_rtL hL rfl) (Nat.le_of_ble_eq_true rfl) rfl ?_
  refine po_if_ne (tgt := 13) hF dX8_extend_6 (by decide) hm (fun hm => ?_) (fun hm => ?_)
  · refine po_aload_n hF dX8_extend_13 rfl rfl ?_
    refine po_iload_n hF dX8_extend_14 rfl rfl ?_
    refine po_bipush (v := 19) hF dX8_extend_15 (by decide) ?_
    obtain ⟨x9, hx9, hm⟩ := po_bind hm
    refine po_callV (As := [.int l1, .int 19]) hF dX8_extend_17 wq_1380 mv_X8_at ws_X8_at (show po_cl[8]? = some _ from rfl) rfl kl0 (c_X8_at HL kl0 hx9) rfl (po_rtL hL rfl) (Nat.le_of_ble_eq_true rfl) rfl ?_
    refine po_iconst (v := 2) hF dX8_extend_20 (by decide) ?_
    refine po_icmp_ne (tgt := 35) hF dX8_extend_21 (by decide) hm (fun hm => ?_) (fun hm => ?_)
    · exact w_X8_extend_35 hF hL HL I l0 l1 l0 kl0 kl0 hm
    · refine po_aload_n hF dX8_extend_24 rfl rfl ?_
      refine po_iload_n hF dX8_extend_25 rfl rfl ?_
      refine po_bipush (v := 23) hF dX8_extend_26 (by decide) ?_
      obtain ⟨x10, hx10, hm⟩ := po_bind hm
      refine po_callV (As := [.int l1, .int 23]) hF dX8_extend_28 wq_1380 mv_X8_at ws_X8_at (show po_cl[8]? = some _ from rfl) rfl kl0 (c_X8_at HL kl0 hx10) rfl (po_rtL hL rfl) (Nat.le_of_ble_eq_true rfl) rfl ?_
      refine po_iconst (v := 1) hF dX8_extend_31 (by decide) ?_
      refine po_icmp_ne (tgt := 39) hF dX8_extend_32 (by decide) hm (fun hm => ?_) (fun hm => ?_)
      · refine po_iconst (v := 0) hF dX8_extend_39 (by decide) ?_
        exact w_X8_extend_40 hF hL HL I l0 l1 l0 0 kl0 kl0 hm
      · exact w_X8_extend_35 hF hL HL I l0 l1 l0 kl0 kl0 hm
  · refine po_iconst (v := 1) hF dX8_extend_9 (by decide) ?_
    refine po_goto (tgt := 40) hF dX8_extend_10 (by decide) ?_
    exact w_X8_extend_40 hF hL HL I l0 l1 l0 1 kl0 kl0 hm
theorem c_X8_extend {K : po_K} {R : po_R} {I : po_I} {st : Nat → Nat} {ρ : Int32 × po_I} (HL : po_Lay K R st) {l0 : Nat} {l1 : Int32} (kl0 : K l0 = (19, 19)) (hm : m_X8_extend I l0 l1 = some ρ) : po_C st yX8_extend cX8_extend 2 (some .int) 2 0 0 [.ref l0, .int l1] K R I none (.inl (some (.int ρ.1))) K R (ρ.2) none := by
  refine po_ofC (by decide +kernel) (Nat.le_of_ble_eq_true rfl) (fun X G hF hL => ?_)
  exact w_X8_extend_e hF hL HL I l0 l1 kl0 hm
set_option maxRecDepth 20000 in
set_option maxHeartbeats 2000000 in
theorem w_X8_pass_87 {X : po_X} {G : po_G} {st : Nat → Nat} {K : po_K} {R : po_R} {ρ : Int32 × po_I} {r39 : po_I → Nat → Int32 → Int32 → Option (Int32 × po_I)} (hF : po_F X G cX8_pass RX8 4 st) (hL : po_L X (some .int) 2 0 0 "pass") (HL : po_Lay K R st) (h39 : ∀ (I : po_I) (l0 : Nat) (l2 : Int32) (l3 : Int32), r39 I l0 l2 l3 = some ρ → K l0 = (19, 19) → po_V X G 4 (po_Q X G (.inl (some (.int ρ.1))) K R (ρ.2) none 0 0) 0 0 39 [(0, .ref l0), (2, .int l2), (3, .int l3)] [] K R I none) (I : po_I) (l0 : Nat) (l2 : Int32) (l3 : Int32) (kl0 : K l0 = (19, 19)) (hm : m_X8_pass_87 r39 I l0 l2 l3 = some ρ) : po_V X G 4 (po_Q X G (.inl (some (.int ρ.1))) K R (ρ.2) none 0 0) 0 0 87 [(0, .ref l0), (2, .int l2), (3, .int l3)] [] K R I none := by
  unfold m_X8_pass_87 at hm
  refine po_iinc (v := l3 + 1) (L' := [(3, .int (l3 + 1)), (0, .ref l0), (2, .int l2)]) hF dX8_pass_87 rfl rfl (by decide) rfl ?_
  refine po_goto (tgt := 39) hF dX8_pass_90 (by decide) ?_
  refine po_sub (L' := [(0, .ref l0), (2, .int l2), (3, .int (l3 + 1))]) rfl ?_
  exact h39 I l0 l2 (l3 + 1) hm kl0
set_option maxRecDepth 20000 in
set_option maxHeartbeats 2000000 in
theorem w_X8_pass_39 {X : po_X} {G : po_G} {st : Nat → Nat} {K : po_K} {R : po_R} {ρ : Int32 × po_I} {r39 : po_I → Nat → Int32 → Int32 → Option (Int32 × po_I)} (hF : po_F X G cX8_pass RX8 4 st) (hL : po_L X (some .int) 2 0 0 "pass") (HL : po_Lay K R st) (h39 : ∀ (I : po_I) (l0 : Nat) (l2 : Int32) (l3 : Int32), r39 I l0 l2 l3 = some ρ → K l0 = (19, 19) → po_V X G 4 (po_Q X G (.inl (some (.int ρ.1))) K R (ρ.2) none 0 0) 0 0 39 [(0, .ref l0), (2, .int l2), (3, .int l3)] [] K R I none) (I : po_I) (l0 : Nat) (l2 : Int32) (l3 : Int32) (kl0 : K l0 = (19, 19)) (hm : m_X8_pass_39 r39 I l0 l2 l3 = some ρ) : po_V X G 4 (po_Q X G (.inl (some (.int ρ.1))) K R (ρ.2) none 0 0) 0 0 39 [(0, .ref l0), (2, .int l2), (3, .int l3)] [] K R I none := by
  unfold m_X8_pass_39 at hm
  refine po_iload_n hF dX8_pass_39 rfl rfl ?_
  refine po_aload_n hF dX8_pass_40 rfl rfl ?_
  refine po_getf (v := .ref (l0 + 1)) hF dX8_pass_41 fl_X8_13 kl0 (ly_8_1 HL kl0).1 ?_
  refine po_iconst (v := 2) hF dX8_pass_44 (by decide) ?_
  refine po_ialdC (j := 2) hF dX8_pass_45 ((ly_8_1 HL kl0).2) (Or.inl rfl) (by decide) (by decide) (by decide) ?_
  refine po_icmp_ge (tgt := 93) hF dX8_pass_46 (by decide) hm (fun hm => ?_) (fun hm => ?_)
  · refine po_iload_n hF dX8_pass_93 rfl rfl ?_
    cases hm
    exact po_iret hF hL dX8_pass_94 (by decide) (by decide) rfl rfl rfl (Or.inl rfl)
  · refine po_aload_n hF dX8_pass_49 rfl rfl ?_
    refine po_iload_n hF dX8_pass_50 rfl rfl ?_
    refine po_bipush (v := 19) hF dX8_pass_51 (by decide) ?_
    obtain ⟨x1, hx1, hm⟩ := po_bind hm
    refine po_callV (As := [.int l3, .int 19]) hF dX8_pass_53 wq_1380 mv_X8_at ws_X8_at (show po_cl[8]? = some _ from rfl) rfl kl0 (c_X8_at HL kl0 hx1) rfl (po_rtL hL rfl) (Nat.le_of_ble_eq_true rfl) rfl ?_
    refine po_iconst (v := 2) hF dX8_pass_56 (by decide) ?_
    refine po_icmp_ne (tgt := 87) hF dX8_pass_57 (by decide) hm (fun hm => ?_) (fun hm => ?_)
    · exact w_X8_pass_87 hF hL HL h39 I l0 l2 l3 kl0 hm
    · refine po_aload_n hF dX8_pass_60 rfl rfl ?_
      refine po_getf (v := .ref (l0 + 1)) hF dX8_pass_61 fl_X8_13 kl0 (ly_8_1 HL kl0).1 ?_
      refine po_iconst (v := 0) hF dX8_pass_64 (by decide) ?_
      refine po_ialdC (j := 0) hF dX8_pass_65 ((ly_8_1 HL kl0).2) (Or.inl rfl) (by decide) (by decide) (by decide) ?_
      refine po_aload_n hF dX8_pass_66 rfl rfl ?_
      refine po_iload_n hF dX8_pass_67 rfl rfl ?_
      refine po_bipush (v := 22) hF dX8_pass_68 (by decide) ?_
      obtain ⟨x2, hx2, hm⟩ := po_bind hm
      refine po_callV (As := [.int l3, .int 22]) hF dX8_pass_70 wq_1380 mv_X8_at ws_X8_at (show po_cl[8]? = some _ from rfl) rfl kl0 (c_X8_at HL kl0 hx2) rfl (po_rtL hL rfl) (Nat.le_of_ble_eq_true rfl) rfl ?_
      refine po_icmp_le (tgt := 87) hF dX8_pass_73 (by decide) hm (fun hm => ?_) (fun hm => ?_)
      · exact w_X8_pass_87 hF hL HL h39 I l0 l2 l3 kl0 hm
      · refine po_aload_n hF dX8_pass_76 rfl rfl ?_
        refine po_iload_n hF dX8_pass_77 rfl rfl ?_
        refine po_bipush (v := 19) hF dX8_pass_78 (by decide) ?_
        refine po_iconst (v := 4) hF dX8_pass_80 (by decide) ?_
        obtain ⟨x3, hx3, hm⟩ := po_bind hm
        refine po_callV (As := [.int l3, .int 19, .int 4]) hF dX8_pass_81 wq_1364 mv_X8_set ws_X8_set (show po_cl[8]? = some _ from rfl) rfl kl0 (c_X8_set HL kl0 hx3) rfl (po_rtL hL rfl) (Nat.le_of_ble_eq_true rfl) rfl ?_
        refine po_iinc (v := l2 + 1) (L' := [(2, .int (l2 + 1)), (0, .ref l0), (3, .int l3)]) hF dX8_pass_84 rfl rfl (by decide) rfl ?_
        refine po_sub (L' := [(0, .ref l0), (2, .int (l2 + 1)), (3, .int l3)]) rfl ?_
        exact w_X8_pass_87 hF hL HL h39 x3 l0 (l2 + 1) l3 kl0 hm
theorem w_X8_pass_39L {X : po_X} {G : po_G} {st : Nat → Nat} {K : po_K} {R : po_R} {ρ : Int32 × po_I} (hF : po_F X G cX8_pass RX8 4 st) (hL : po_L X (some .int) 2 0 0 "pass") (HL : po_Lay K R st) : ∀ (n : Nat) (I : po_I) (l0 : Nat) (l2 : Int32) (l3 : Int32), m_X8_pass_39L n I l0 l2 l3 = some ρ → K l0 = (19, 19) → po_V X G 4 (po_Q X G (.inl (some (.int ρ.1))) K R (ρ.2) none 0 0) 0 0 39 [(0, .ref l0), (2, .int l2), (3, .int l3)] [] K R I none := by
  intro n
  induction n with
  | zero => intro I l0 l2 l3 hm; cases hm
  | succ n ih => intro I l0 l2 l3 hm kl0; exact w_X8_pass_39 hF hL HL (ih) I l0 l2 l3 kl0 hm
set_option maxRecDepth 20000 in
set_option maxHeartbeats 2000000 in
theorem w_X8_pass_e {X : po_X} {G : po_G} {st : Nat → Nat} {K : po_K} {R : po_R} {ρ : Int32 × po_I} (hF : po_F X G cX8_pass RX8 4 st) (hL : po_L X (some .int) 2 0 0 "pass") (HL : po_Lay K R st) (I : po_I) (l0 : Nat) (l1 : Int32) (kl0 : K l0 = (19, 19)) (hm : m_X8_pass_e I l0 l1 = some ρ) : po_V X G 4 (po_Q X G (.inl (some (.int ρ.1))) K R (ρ.2) none 0 0) 0 0 0 [(0, .ref l0), (1, .int l1)] [] K R I none := by
  unfold m_X8_pass_e at hm
  refine po_aload_n hF dX8_pass_0 rfl rfl ?_
  refine po_iconst (v := 0) hF dX8_pass_1 (by decide) ?_
  refine po_puti hF dX8_pass_2 fl_X8_1 kl0 (by intro r h; cases h; rfl) rfl rfl (fun _ => rfl) rfl ?_
  refine po_hname hm (fun I4 hm => ?_)
  refine po_iload_n hF dX8_pass_5 rfl rfl ?_
  refine po_iconst (v := 1) hF dX8_pass_6 (by decide) ?_
  refine po_bipush (v := 50) hF dX8_pass_7 (by decide) ?_
  obtain ⟨x5, hx5, hm⟩ := po_bind hm
  refine po_callS (As := [.int l1, .int 1, .int 50]) hF dX8_pass_9 wq_1282 mv_X8_isIn (c_X8_isIn HL hx5) rfl (po_rtL hL rfl) (Nat.le_of_ble_eq_true rfl) rfl ?_
  refine po_if_ne (tgt := 21) hF dX8_pass_12 (by decide) hm (fun hm => ?_) (fun hm => ?_)
  · refine po_aload_n hF dX8_pass_21 rfl rfl ?_
    obtain ⟨x6, hx6, hm⟩ := po_bind hm
    refine po_callV (As := []) hF dX8_pass_22 wq_1476 mv_X8_call ws_X8_call (show po_cl[8]? = some _ from rfl) rfl kl0 (c_X8_call HL kl0 hx6) rfl (po_rtL hL rfl) (Nat.le_of_ble_eq_true rfl) rfl ?_
    refine po_aload_n hF dX8_pass_25 rfl rfl ?_
    refine po_getf (v := .ref (l0 + 1)) hF dX8_pass_26 fl_X8_13 kl0 (ly_8_1 HL kl0).1 ?_
    refine po_iconst (v := 0) hF dX8_pass_29 (by decide) ?_
    refine po_dup2 hF dX8_pass_30 rfl rfl ?_
    refine po_ialdC (j := 0) hF dX8_pass_31 ((ly_8_1 HL kl0).2) (Or.inl rfl) (by decide) (by decide) (by decide) ?_
    refine po_iload_n hF dX8_pass_32 rfl rfl ?_
    refine po_iadd hF dX8_pass_33 ?_
    refine po_iastC (j := 0) hF dX8_pass_34 ((ly_8_1 HL kl0).2) (by decide) (by decide) (by decide) rfl ?_
    refine po_hname hm (fun I7 hm => ?_)
    refine po_iconst (v := 0) hF dX8_pass_35 (by decide) ?_
    refine po_istore_n (L' := [(2, .int 0), (0, .ref l0), (1, .int l1)]) hF dX8_pass_36 rfl (by decide) rfl ?_
    refine po_iconst (v := 0) hF dX8_pass_37 (by decide) ?_
    refine po_istore_n (L' := [(3, .int 0), (2, .int 0), (0, .ref l0), (1, .int l1)]) hF dX8_pass_38 rfl (by decide) rfl ?_
    refine po_sub (L' := [(0, .ref l0), (2, .int 0), (3, .int 0)]) rfl ?_
    exact w_X8_pass_39L hF hL HL 5000 I7 l0 0 0 hm kl0
  · refine po_aload_n hF dX8_pass_15 rfl rfl ?_
    refine po_iconst (v := 1) hF dX8_pass_16 (by decide) ?_
    obtain ⟨x8, hx8, hm⟩ := po_bind hm
    refine po_callV (As := [.int 1]) hF dX8_pass_17 wq_1285 mv_X8_fail ws_X8_fail (show po_cl[8]? = some _ from rfl) rfl kl0 (c_X8_fail HL kl0 hx8) rfl (po_rtL hL rfl) (Nat.le_of_ble_eq_true rfl) rfl ?_
    cases hm
    exact po_iret hF hL dX8_pass_20 (by decide) (by decide) rfl rfl rfl (Or.inl rfl)
theorem c_X8_pass {K : po_K} {R : po_R} {I : po_I} {st : Nat → Nat} {ρ : Int32 × po_I} (HL : po_Lay K R st) {l0 : Nat} {l1 : Int32} (kl0 : K l0 = (19, 19)) (hm : m_X8_pass I l0 l1 = some ρ) : po_C st yX8_pass cX8_pass 4 (some .int) 2 0 0 [.ref l0, .int l1] K R I none (.inl (some (.int ρ.1))) K R (ρ.2) none := by
  refine po_ofC (by decide +kernel) (Nat.le_of_ble_eq_true rfl) (fun X G hF hL => ?_)
  exact w_X8_pass_e hF hL HL I l0 l1 kl0 hm
set_option maxRecDepth 20000 in
set_option maxHeartbeats 2000000 in
theorem w_X8_sumOf_39 {X : po_X} {G : po_G} {st : Nat → Nat} {K : po_K} {I : po_I} {R : po_R} {ρ : Int32} {r5 : Nat → Int32 → Int32 → Int32 → Int32 → Option (Int32)} (hF : po_F X G cX8_sumOf RX8 5 st) (hL : po_L X (some .int) 1 0 0 "sumOf") (HL : po_Lay K R st) (h5 : ∀ (l0 : Nat) (l1 : Int32) (l2 : Int32) (l3 : Int32) (l4 : Int32), r5 l0 l1 l2 l3 l4 = some ρ → K l0 = (19, 19) → po_V X G 5 (po_Q X G (.inl (some (.int ρ))) K R I none 0 0) 0 0 5 [(0, .ref l0), (1, .int l1), (2, .int l2), (3, .int l3), (4, .int l4)] [] K R I none) (l0 : Nat) (l1 : Int32) (l2 : Int32) (l4 : Int32) (s0 : Int32) (s1 : Int32) (kl0 : K l0 = (19, 19)) (hm : m_X8_sumOf_39 I r5 l0 l1 l2 l4 s0 s1 = some ρ) : po_V X G 5 (po_Q X G (.inl (some (.int ρ))) K R I none 0 0) 0 0 39 [(0, .ref l0), (1, .int l1), (2, .int l2), (4, .int l4)] [.int s1, .int s0] K R I none := by
  unfold m_X8_sumOf_39 at hm
  refine po_iadd hF dX8_sumOf_39 ?_
  refine po_top hm (fun v1 hm => ?_)
  refine po_istore_n (L' := [(3, .int v1), (0, .ref l0), (1, .int l1), (2, .int l2), (4, .int l4)]) hF dX8_sumOf_40 rfl (by decide) rfl ?_
  refine po_iinc (v := l4 + 1) (L' := [(4, .int (l4 + 1)), (3, .int v1), (0, .ref l0), (1, .int l1), (2, .int l2)]) hF dX8_sumOf_41 rfl rfl (by decide) rfl ?_
  refine po_goto (tgt := 5) hF dX8_sumOf_44 (by decide) ?_
  refine po_sub (L' := [(0, .ref l0), (1, .int l1), (2, .int l2), (3, .int v1), (4, .int (l4 + 1))]) rfl ?_
  exact h5 l0 l1 l2 v1 (l4 + 1) hm kl0
set_option maxRecDepth 20000 in
set_option maxHeartbeats 2000000 in
theorem w_X8_sumOf_28 {X : po_X} {G : po_G} {st : Nat → Nat} {K : po_K} {I : po_I} {R : po_R} {ρ : Int32} {r5 : Nat → Int32 → Int32 → Int32 → Int32 → Option (Int32)} (hF : po_F X G cX8_sumOf RX8 5 st) (hL : po_L X (some .int) 1 0 0 "sumOf") (HL : po_Lay K R st) (h5 : ∀ (l0 : Nat) (l1 : Int32) (l2 : Int32) (l3 : Int32) (l4 : Int32), r5 l0 l1 l2 l3 l4 = some ρ → K l0 = (19, 19) → po_V X G 5 (po_Q X G (.inl (some (.int ρ))) K R I none 0 0) 0 0 5 [(0, .ref l0), (1, .int l1), (2, .int l2), (3, .int l3), (4, .int l4)] [] K R I none) (l0 : Nat) (l1 : Int32) (l2 : Int32) (l4 : Int32) (s0 : Int32) (kl0 : K l0 = (19, 19)) (hm : m_X8_sumOf_28 I r5 l0 l1 l2 l4 s0 = some ρ) : po_V X G 5 (po_Q X G (.inl (some (.int ρ))) K R I none 0 0) 0 0 28 [(0, .ref l0), (1, .int l1), (2, .int l2), (4, .int l4)] [.int s0] K R I none := by
  unfold m_X8_sumOf_28 at hm
  refine po_aload_n hF dX8_sumOf_28 rfl rfl ?_
  refine po_iload hF dX8_sumOf_29 rfl ?_
  refine po_iload_n hF dX8_sumOf_31 rfl rfl ?_
  obtain ⟨x2, hx2, hm⟩ := po_bind hm
  refine po_callV (As := [.int l4, .int l2]) hF dX8_sumOf_32 wq_1380 mv_X8_at ws_X8_at (show po_cl[8]? = some _ from rfl) rfl kl0 (c_X8_at HL kl0 hx2) rfl (po_rtL hL rfl) (Nat.le_of_ble_eq_true rfl) rfl ?_
  refine po_goto (tgt := 39) hF dX8_sumOf_35 (by decide) ?_
  exact w_X8_sumOf_39 hF hL HL h5 l0 l1 l2 l4 s0 x2 kl0 hm
set_option maxRecDepth 20000 in
set_option maxHeartbeats 2000000 in
theorem w_X8_sumOf_5 {X : po_X} {G : po_G} {st : Nat → Nat} {K : po_K} {I : po_I} {R : po_R} {ρ : Int32} {r5 : Nat → Int32 → Int32 → Int32 → Int32 → Option (Int32)} (hF : po_F X G cX8_sumOf RX8 5 st) (hL : po_L X (some .int) 1 0 0 "sumOf") (HL : po_Lay K R st) (h5 : ∀ (l0 : Nat) (l1 : Int32) (l2 : Int32) (l3 : Int32) (l4 : Int32), r5 l0 l1 l2 l3 l4 = some ρ → K l0 = (19, 19) → po_V X G 5 (po_Q X G (.inl (some (.int ρ))) K R I none 0 0) 0 0 5 [(0, .ref l0), (1, .int l1), (2, .int l2), (3, .int l3), (4, .int l4)] [] K R I none) (l0 : Nat) (l1 : Int32) (l2 : Int32) (l3 : Int32) (l4 : Int32) (kl0 : K l0 = (19, 19)) (hm : m_X8_sumOf_5 I r5 l0 l1 l2 l3 l4 = some ρ) : po_V X G 5 (po_Q X G (.inl (some (.int ρ))) K R I none 0 0) 0 0 5 [(0, .ref l0), (1, .int l1), (2, .int l2), (3, .int l3), (4, .int l4)] [] K R I none := by
  unfold m_X8_sumOf_5 at hm
  refine po_iload hF dX8_sumOf_5 rfl ?_
  refine po_aload_n hF dX8_sumOf_7 rfl rfl ?_
  refine po_getf (v := .ref (l0 + 1)) hF dX8_sumOf_8 fl_X8_13 kl0 (ly_8_1 HL kl0).1 ?_
  refine po_iconst (v := 2) hF dX8_sumOf_11 (by decide) ?_
  refine po_ialdC (j := 2) hF dX8_sumOf_12 ((ly_8_1 HL kl0).2) (Or.inl rfl) (by decide) (by decide) (by decide) ?_
  refine po_icmp_ge (tgt := 47) hF dX8_sumOf_13 (by decide) hm (fun hm => ?_) (fun hm => ?_)
  · refine po_iload_n hF dX8_sumOf_47 rfl rfl ?_
    cases hm
    exact po_iret hF hL dX8_sumOf_48 (by decide) (by decide) rfl rfl rfl (Or.inl rfl)
  · refine po_iload_n hF dX8_sumOf_16 rfl rfl ?_
    refine po_iload_n hF dX8_sumOf_17 rfl rfl ?_
    refine po_iconst (v := (-1)) hF dX8_sumOf_18 (by decide) ?_
    refine po_icmp_eq (tgt := 28) hF dX8_sumOf_19 (by decide) hm (fun hm => ?_) (fun hm => ?_)
    · refine po_sub (L' := [(0, .ref l0), (1, .int l1), (2, .int l2), (4, .int l4)]) rfl ?_
      exact w_X8_sumOf_28 hF hL HL h5 l0 l1 l2 l4 l3 kl0 hm
    · refine po_iload_n hF dX8_sumOf_22 rfl rfl ?_
      refine po_iload hF dX8_sumOf_23 rfl ?_
      refine po_icmp_ne (tgt := 38) hF dX8_sumOf_25 (by decide) hm (fun hm => ?_) (fun hm => ?_)
      · refine po_iconst (v := 0) hF dX8_sumOf_38 (by decide) ?_
        refine po_sub (L' := [(0, .ref l0), (1, .int l1), (2, .int l2), (4, .int l4)]) rfl ?_
        exact w_X8_sumOf_39 hF hL HL h5 l0 l1 l2 l4 l3 0 kl0 hm
      · refine po_sub (L' := [(0, .ref l0), (1, .int l1), (2, .int l2), (4, .int l4)]) rfl ?_
        exact w_X8_sumOf_28 hF hL HL h5 l0 l1 l2 l4 l3 kl0 hm
theorem w_X8_sumOf_5L {X : po_X} {G : po_G} {st : Nat → Nat} {K : po_K} {I : po_I} {R : po_R} {ρ : Int32} (hF : po_F X G cX8_sumOf RX8 5 st) (hL : po_L X (some .int) 1 0 0 "sumOf") (HL : po_Lay K R st) : ∀ (n : Nat) (l0 : Nat) (l1 : Int32) (l2 : Int32) (l3 : Int32) (l4 : Int32), m_X8_sumOf_5L I n l0 l1 l2 l3 l4 = some ρ → K l0 = (19, 19) → po_V X G 5 (po_Q X G (.inl (some (.int ρ))) K R I none 0 0) 0 0 5 [(0, .ref l0), (1, .int l1), (2, .int l2), (3, .int l3), (4, .int l4)] [] K R I none := by
  intro n
  induction n with
  | zero => intro l0 l1 l2 l3 l4 hm; cases hm
  | succ n ih => intro l0 l1 l2 l3 l4 hm kl0; exact w_X8_sumOf_5 hF hL HL (ih) l0 l1 l2 l3 l4 kl0 hm
set_option maxRecDepth 20000 in
set_option maxHeartbeats 2000000 in
theorem w_X8_sumOf_e {X : po_X} {G : po_G} {st : Nat → Nat} {K : po_K} {I : po_I} {R : po_R} {ρ : Int32} (hF : po_F X G cX8_sumOf RX8 5 st) (hL : po_L X (some .int) 1 0 0 "sumOf") (HL : po_Lay K R st) (l0 : Nat) (l1 : Int32) (l2 : Int32) (kl0 : K l0 = (19, 19)) (hm : m_X8_sumOf_e I l0 l1 l2 = some ρ) : po_V X G 5 (po_Q X G (.inl (some (.int ρ))) K R I none 0 0) 0 0 0 [(0, .ref l0), (1, .int l1), (2, .int l2)] [] K R I none := by
  unfold m_X8_sumOf_e at hm
  refine po_iconst (v := 0) hF dX8_sumOf_0 (by decide) ?_
  refine po_istore_n (L' := [(3, .int 0), (0, .ref l0), (1, .int l1), (2, .int l2)]) hF dX8_sumOf_1 rfl (by decide) rfl ?_
  refine po_iconst (v := 0) hF dX8_sumOf_2 (by decide) ?_
  refine po_istore (L' := [(4, .int 0), (3, .int 0), (0, .ref l0), (1, .int l1), (2, .int l2)]) hF dX8_sumOf_3 (by decide) rfl ?_
  refine po_sub (L' := [(0, .ref l0), (1, .int l1), (2, .int l2), (3, .int 0), (4, .int 0)]) rfl ?_
  exact w_X8_sumOf_5L hF hL HL 5000 l0 l1 l2 0 0 hm kl0
theorem c_X8_sumOf {K : po_K} {R : po_R} {I : po_I} {st : Nat → Nat} {ρ : Int32} (HL : po_Lay K R st) {l0 : Nat} {l1 : Int32} {l2 : Int32} (kl0 : K l0 = (19, 19)) (hm : m_X8_sumOf I l0 l1 l2 = some ρ) : po_C st yX8_sumOf cX8_sumOf 5 (some .int) 1 0 0 [.ref l0, .int l1, .int l2] K R I none (.inl (some (.int ρ))) K R I none := by
  refine po_ofC (by decide +kernel) (Nat.le_of_ble_eq_true rfl) (fun X G hF hL => ?_)
  exact w_X8_sumOf_e hF hL HL l0 l1 l2 kl0 hm
set_option maxRecDepth 20000 in
set_option maxHeartbeats 2000000 in
theorem w_X8_account_83 {X : po_X} {G : po_G} {st : Nat → Nat} {K : po_K} {R : po_R} {ρ : Int32 × po_I} (hF : po_F X G cX8_account RX8 5 st) (hL : po_L X (some .int) 2 0 0 "account") (HL : po_Lay K R st) (I : po_I) (s0 : Int32) (hm : m_X8_account_83 I s0 = some ρ) : po_V X G 5 (po_Q X G (.inl (some (.int ρ.1))) K R (ρ.2) none 0 0) 0 0 83 [] [.int s0] K R I none := by
  unfold m_X8_account_83 at hm
  cases hm
  exact po_iret hF hL dX8_account_83 (by decide) (by decide) rfl rfl rfl (Or.inl rfl)
set_option maxRecDepth 20000 in
set_option maxHeartbeats 2000000 in
theorem w_X8_account_32 {X : po_X} {G : po_G} {st : Nat → Nat} {K : po_K} {R : po_R} {ρ : Int32 × po_I} (hF : po_F X G cX8_account RX8 5 st) (hL : po_L X (some .int) 2 0 0 "account") (HL : po_Lay K R st) (I : po_I) (l0 : Nat) (l1 : Int32) (l2 : Int32) (s0 : Nat) (s1 : Int32) (kl0 : K l0 = (19, 19)) (ks0 : K s0 = (19, 19)) (hm : m_X8_account_32 I l0 l1 l2 s0 s1 = some ρ) : po_V X G 5 (po_Q X G (.inl (some (.int ρ.1))) K R (ρ.2) none 0 0) 0 0 32 [(0, .ref l0), (1, .int l1), (2, .int l2)] [.int s1, .ref s0] K R I none := by
  unfold m_X8_account_32 at hm
  refine po_puti hF dX8_account_32 fl_X8_1 ks0 (by intro r h; cases h; rfl) rfl rfl (fun _ => rfl) rfl ?_
  refine po_hname hm (fun I1 hm => ?_)
  refine po_aload_n hF dX8_account_35 rfl rfl ?_
  refine po_getf (v := .int (I1 l0 0)) hF dX8_account_36 fl_X8_1 kl0 rfl ?_
  refine po_if_eq (tgt := 44) hF dX8_account_39 (by decide) hm (fun hm => ?_) (fun hm => ?_)
  · refine po_aload_n hF dX8_account_44 rfl rfl ?_
    refine po_iload_n hF dX8_account_45 rfl rfl ?_
    refine po_bipush (v := 25) hF dX8_account_46 (by decide) ?_
    obtain ⟨x2, hx2, hm⟩ := po_bind hm
    refine po_callV (As := [.int l1, .int 25]) hF dX8_account_48 wq_1660 mv_X8_sumOf ws_X8_sumOf (show po_cl[8]? = some _ from rfl) rfl kl0 (c_X8_sumOf HL kl0 hx2) rfl (po_rtL hL rfl) (Nat.le_of_ble_eq_true rfl) rfl ?_
    refine po_istore_n (L' := [(3, .int x2), (0, .ref l0), (1, .int l1), (2, .int l2)]) hF dX8_account_51 rfl (by decide) rfl ?_
    refine po_aload_n hF dX8_account_52 rfl rfl ?_
    refine po_iload_n hF dX8_account_53 rfl rfl ?_
    refine po_bipush (v := 26) hF dX8_account_54 (by decide) ?_
    obtain ⟨x3, hx3, hm⟩ := po_bind hm
    refine po_callV (As := [.int l1, .int 26]) hF dX8_account_56 wq_1660 mv_X8_sumOf ws_X8_sumOf (show po_cl[8]? = some _ from rfl) rfl kl0 (c_X8_sumOf HL kl0 hx3) rfl (po_rtL hL rfl) (Nat.le_of_ble_eq_true rfl) rfl ?_
    refine po_istore (L' := [(4, .int x3), (3, .int x2), (0, .ref l0), (1, .int l1), (2, .int l2)]) hF dX8_account_59 (by decide) rfl ?_
    refine po_iload_n hF dX8_account_61 rfl rfl ?_
    refine po_if_ne (tgt := 69) hF dX8_account_62 (by decide) hm (fun hm => ?_) (fun hm => ?_)
    · refine po_iload_n hF dX8_account_69 rfl rfl ?_
      refine po_iconst (v := 1) hF dX8_account_70 (by decide) ?_
      refine po_icmp_ne (tgt := 79) hF dX8_account_71 (by decide) hm (fun hm => ?_) (fun hm => ?_)
      · refine po_iload_n hF dX8_account_79 rfl rfl ?_
        refine po_iload hF dX8_account_80 rfl ?_
        refine po_isub hF dX8_account_82 ?_
        refine po_sub (L' := []) rfl ?_
        exact w_X8_account_83 hF hL HL I1 (x2 - x3) hm
      · refine po_iload hF dX8_account_74 rfl ?_
        refine po_goto (tgt := 83) hF dX8_account_76 (by decide) ?_
        refine po_sub (L' := []) rfl ?_
        exact w_X8_account_83 hF hL HL I1 x3 hm
    · refine po_iload_n hF dX8_account_65 rfl rfl ?_
      refine po_goto (tgt := 83) hF dX8_account_66 (by decide) ?_
      refine po_sub (L' := []) rfl ?_
      exact w_X8_account_83 hF hL HL I1 x2 hm
  · refine po_iconst (v := 0) hF dX8_account_42 (by decide) ?_
    cases hm
    exact po_iret hF hL dX8_account_43 (by decide) (by decide) rfl rfl rfl (Or.inl rfl)
set_option maxRecDepth 20000 in
set_option maxHeartbeats 2000000 in
theorem w_X8_account_18 {X : po_X} {G : po_G} {st : Nat → Nat} {K : po_K} {R : po_R} {ρ : Int32 × po_I} (hF : po_F X G cX8_account RX8 5 st) (hL : po_L X (some .int) 2 0 0 "account") (HL : po_Lay K R st) (I : po_I) (l0 : Nat) (l1 : Int32) (l2 : Int32) (s0 : Nat) (kl0 : K l0 = (19, 19)) (ks0 : K s0 = (19, 19)) (hm : m_X8_account_18 I l0 l1 l2 s0 = some ρ) : po_V X G 5 (po_Q X G (.inl (some (.int ρ.1))) K R (ρ.2) none 0 0) 0 0 18 [(0, .ref l0), (1, .int l1), (2, .int l2)] [.ref s0] K R I none := by
  unfold m_X8_account_18 at hm
  refine po_iload_n hF dX8_account_18 rfl rfl ?_
  refine po_iconst (v := 0) hF dX8_account_19 (by decide) ?_
  refine po_iconst (v := 2) hF dX8_account_20 (by decide) ?_
  obtain ⟨x4, hx4, hm⟩ := po_bind hm
  refine po_callS (As := [.int l2, .int 0, .int 2]) hF dX8_account_21 wq_1282 mv_X8_isIn (c_X8_isIn HL hx4) rfl (po_rtL hL rfl) (Nat.le_of_ble_eq_true rfl) rfl ?_
  refine po_if_ne (tgt := 31) hF dX8_account_24 (by decide) hm (fun hm => ?_) (fun hm => ?_)
  · refine po_iconst (v := 0) hF dX8_account_31 (by decide) ?_
    exact w_X8_account_32 hF hL HL I l0 l1 l2 s0 0 kl0 ks0 hm
  · refine po_iconst (v := 2) hF dX8_account_27 (by decide) ?_
    refine po_goto (tgt := 32) hF dX8_account_28 (by decide) ?_
    exact w_X8_account_32 hF hL HL I l0 l1 l2 s0 2 kl0 ks0 hm
set_option maxRecDepth 20000 in
set_option maxHeartbeats 2000000 in
theorem w_X8_account_e {X : po_X} {G : po_G} {st : Nat → Nat} {K : po_K} {R : po_R} {ρ : Int32 × po_I} (hF : po_F X G cX8_account RX8 5 st) (hL : po_L X (some .int) 2 0 0 "account") (HL : po_Lay K R st) (I : po_I) (l0 : Nat) (l1 : Int32) (l2 : Int32) (kl0 : K l0 = (19, 19)) (hm : m_X8_account_e I l0 l1 l2 = some ρ) : po_V X G 5 (po_Q X G (.inl (some (.int ρ.1))) K R (ρ.2) none 0 0) 0 0 0 [(0, .ref l0), (1, .int l1), (2, .int l2)] [] K R I none := by
  unfold m_X8_account_e at hm
  refine po_aload_n hF dX8_account_0 rfl rfl ?_
  refine po_iload_n hF dX8_account_1 rfl rfl ?_
  refine po_iconst (v := (-1)) hF dX8_account_2 (by decide) ?_
  refine po_icmp_eq (tgt := 18) hF dX8_account_3 (by decide) hm (fun hm => ?_) (fun hm => ?_)
  · exact w_X8_account_18 hF hL HL I l0 l1 l2 l0 kl0 kl0 hm
  · refine po_aload_n hF dX8_account_6 rfl rfl ?_
    refine po_iload_n hF dX8_account_7 rfl rfl ?_
    obtain ⟨x5, hx5, hm⟩ := po_bind hm
    refine po_callV (As := [.int l1]) hF dX8_account_8 wq_1513 mv_X8_isPermit ws_X8_isPermit (show po_cl[8]? = some _ from rfl) rfl kl0 (c_X8_isPermit HL kl0 hx5) rfl (po_rtL hL rfl) (Nat.le_of_ble_eq_true rfl) rfl ?_
    refine po_if_ne (tgt := 18) hF dX8_account_11 (by decide) hm (fun hm => ?_) (fun hm => ?_)
    · exact w_X8_account_18 hF hL HL I l0 l1 l2 l0 kl0 kl0 hm
    · refine po_iconst (v := 1) hF dX8_account_14 (by decide) ?_
      refine po_goto (tgt := 32) hF dX8_account_15 (by decide) ?_
      exact w_X8_account_32 hF hL HL I l0 l1 l2 l0 1 kl0 kl0 hm
theorem c_X8_account {K : po_K} {R : po_R} {I : po_I} {st : Nat → Nat} {ρ : Int32 × po_I} (HL : po_Lay K R st) {l0 : Nat} {l1 : Int32} {l2 : Int32} (kl0 : K l0 = (19, 19)) (hm : m_X8_account I l0 l1 l2 = some ρ) : po_C st yX8_account cX8_account 5 (some .int) 2 0 0 [.ref l0, .int l1, .int l2] K R I none (.inl (some (.int ρ.1))) K R (ρ.2) none := by
  refine po_ofC (by decide +kernel) (Nat.le_of_ble_eq_true rfl) (fun X G hF hL => ?_)
  exact w_X8_account_e hF hL HL I l0 l1 l2 kl0 hm
set_option maxRecDepth 20000 in
set_option maxHeartbeats 2000000 in
theorem w_X8_counted_52 {X : po_X} {G : po_G} {st : Nat → Nat} {K : po_K} {I : po_I} {R : po_R} {ρ : Int32} {r4 : Nat → Int32 → Int32 → Int32 → Option (Int32)} (hF : po_F X G cX8_counted RX8 4 st) (hL : po_L X (some .int) 2 0 0 "counted") (HL : po_Lay K R st) (h4 : ∀ (l0 : Nat) (l1 : Int32) (l2 : Int32) (l3 : Int32), r4 l0 l1 l2 l3 = some ρ → K l0 = (19, 19) → po_V X G 4 (po_Q X G (.inl (some (.int ρ))) K R I none 0 0) 0 0 4 [(0, .ref l0), (1, .int l1), (2, .int l2), (3, .int l3)] [] K R I none) (l0 : Nat) (l1 : Int32) (l3 : Int32) (s0 : Int32) (s1 : Int32) (kl0 : K l0 = (19, 19)) (hm : m_X8_counted_52 I r4 l0 l1 l3 s0 s1 = some ρ) : po_V X G 4 (po_Q X G (.inl (some (.int ρ))) K R I none 0 0) 0 0 52 [(0, .ref l0), (1, .int l1), (3, .int l3)] [.int s1, .int s0] K R I none := by
  unfold m_X8_counted_52 at hm
  refine po_iadd hF dX8_counted_52 ?_
  refine po_top hm (fun v1 hm => ?_)
  refine po_istore_n (L' := [(2, .int v1), (0, .ref l0), (1, .int l1), (3, .int l3)]) hF dX8_counted_53 rfl (by decide) rfl ?_
  refine po_iinc (v := l3 + 1) (L' := [(3, .int (l3 + 1)), (2, .int v1), (0, .ref l0), (1, .int l1)]) hF dX8_counted_54 rfl rfl (by decide) rfl ?_
  refine po_goto (tgt := 4) hF dX8_counted_57 (by decide) ?_
  refine po_sub (L' := [(0, .ref l0), (1, .int l1), (2, .int v1), (3, .int (l3 + 1))]) rfl ?_
  exact h4 l0 l1 v1 (l3 + 1) hm kl0
set_option maxRecDepth 20000 in
set_option maxHeartbeats 2000000 in
theorem w_X8_counted_4 {X : po_X} {G : po_G} {st : Nat → Nat} {K : po_K} {I : po_I} {R : po_R} {ρ : Int32} {r4 : Nat → Int32 → Int32 → Int32 → Option (Int32)} (hF : po_F X G cX8_counted RX8 4 st) (hL : po_L X (some .int) 2 0 0 "counted") (HL : po_Lay K R st) (h4 : ∀ (l0 : Nat) (l1 : Int32) (l2 : Int32) (l3 : Int32), r4 l0 l1 l2 l3 = some ρ → K l0 = (19, 19) → po_V X G 4 (po_Q X G (.inl (some (.int ρ))) K R I none 0 0) 0 0 4 [(0, .ref l0), (1, .int l1), (2, .int l2), (3, .int l3)] [] K R I none) (l0 : Nat) (l1 : Int32) (l2 : Int32) (l3 : Int32) (kl0 : K l0 = (19, 19)) (hm : m_X8_counted_4 I r4 l0 l1 l2 l3 = some ρ) : po_V X G 4 (po_Q X G (.inl (some (.int ρ))) K R I none 0 0) 0 0 4 [(0, .ref l0), (1, .int l1), (2, .int l2), (3, .int l3)] [] K R I none := by
  unfold m_X8_counted_4 at hm
  refine po_iload_n hF dX8_counted_4 rfl rfl ?_
  refine po_aload_n hF dX8_counted_5 rfl rfl ?_
  refine po_getf (v := .ref (l0 + 1)) hF dX8_counted_6 fl_X8_13 kl0 (ly_8_1 HL kl0).1 ?_
  refine po_iconst (v := 2) hF dX8_counted_9 (by decide) ?_
  refine po_ialdC (j := 2) hF dX8_counted_10 ((ly_8_1 HL kl0).2) (Or.inl rfl) (by decide) (by decide) (by decide) ?_
  refine po_icmp_ge (tgt := 60) hF dX8_counted_11 (by decide) hm (fun hm => ?_) (fun hm => ?_)
  · refine po_iload_n hF dX8_counted_60 rfl rfl ?_
    cases hm
    exact po_iret hF hL dX8_counted_61 (by decide) (by decide) rfl rfl rfl (Or.inl rfl)
  · refine po_iload_n hF dX8_counted_14 rfl rfl ?_
    refine po_iload_n hF dX8_counted_15 rfl rfl ?_
    refine po_iconst (v := (-1)) hF dX8_counted_16 (by decide) ?_
    refine po_icmp_ne (tgt := 36) hF dX8_counted_17 (by decide) hm (fun hm => ?_) (fun hm => ?_)
    · refine po_aload_n hF dX8_counted_36 rfl rfl ?_
      refine po_iload_n hF dX8_counted_37 rfl rfl ?_
      refine po_bipush (v := 19) hF dX8_counted_38 (by decide) ?_
      obtain ⟨x2, hx2, hm⟩ := po_bind hm
      refine po_callV (As := [.int l3, .int 19]) hF dX8_counted_40 wq_1380 mv_X8_at ws_X8_at (show po_cl[8]? = some _ from rfl) rfl kl0 (c_X8_at HL kl0 hx2) rfl (po_rtL hL rfl) (Nat.le_of_ble_eq_true rfl) rfl ?_
      refine po_iload_n hF dX8_counted_43 rfl rfl ?_
      refine po_icmp_ne (tgt := 51) hF dX8_counted_44 (by decide) hm (fun hm => ?_) (fun hm => ?_)
      · refine po_iconst (v := 0) hF dX8_counted_51 (by decide) ?_
        refine po_sub (L' := [(0, .ref l0), (1, .int l1), (3, .int l3)]) rfl ?_
        exact w_X8_counted_52 hF hL HL h4 l0 l1 l3 l2 0 kl0 hm
      · refine po_iconst (v := 1) hF dX8_counted_47 (by decide) ?_
        refine po_goto (tgt := 52) hF dX8_counted_48 (by decide) ?_
        refine po_sub (L' := [(0, .ref l0), (1, .int l1), (3, .int l3)]) rfl ?_
        exact w_X8_counted_52 hF hL HL h4 l0 l1 l3 l2 1 kl0 hm
    · refine po_aload_n hF dX8_counted_20 rfl rfl ?_
      refine po_iload_n hF dX8_counted_21 rfl rfl ?_
      obtain ⟨x3, hx3, hm⟩ := po_bind hm
      refine po_callV (As := [.int l3]) hF dX8_counted_22 wq_1450 mv_X8_stands ws_X8_stands (show po_cl[8]? = some _ from rfl) rfl kl0 (c_X8_stands HL kl0 hx3) rfl (po_rtL hL rfl) (Nat.le_of_ble_eq_true rfl) rfl ?_
      refine po_if_eq (tgt := 32) hF dX8_counted_25 (by decide) hm (fun hm => ?_) (fun hm => ?_)
      · refine po_iconst (v := 0) hF dX8_counted_32 (by decide) ?_
        refine po_goto (tgt := 52) hF dX8_counted_33 (by decide) ?_
        refine po_sub (L' := [(0, .ref l0), (1, .int l1), (3, .int l3)]) rfl ?_
        exact w_X8_counted_52 hF hL HL h4 l0 l1 l3 l2 0 kl0 hm
      · refine po_iconst (v := 1) hF dX8_counted_28 (by decide) ?_
        refine po_goto (tgt := 52) hF dX8_counted_29 (by decide) ?_
        refine po_sub (L' := [(0, .ref l0), (1, .int l1), (3, .int l3)]) rfl ?_
        exact w_X8_counted_52 hF hL HL h4 l0 l1 l3 l2 1 kl0 hm
theorem w_X8_counted_4L {X : po_X} {G : po_G} {st : Nat → Nat} {K : po_K} {I : po_I} {R : po_R} {ρ : Int32} (hF : po_F X G cX8_counted RX8 4 st) (hL : po_L X (some .int) 2 0 0 "counted") (HL : po_Lay K R st) : ∀ (n : Nat) (l0 : Nat) (l1 : Int32) (l2 : Int32) (l3 : Int32), m_X8_counted_4L I n l0 l1 l2 l3 = some ρ → K l0 = (19, 19) → po_V X G 4 (po_Q X G (.inl (some (.int ρ))) K R I none 0 0) 0 0 4 [(0, .ref l0), (1, .int l1), (2, .int l2), (3, .int l3)] [] K R I none := by
  intro n
  induction n with
  | zero => intro l0 l1 l2 l3 hm; cases hm
  | succ n ih => intro l0 l1 l2 l3 hm kl0; exact w_X8_counted_4 hF hL HL (ih) l0 l1 l2 l3 kl0 hm
set_option maxRecDepth 20000 in
set_option maxHeartbeats 2000000 in
theorem w_X8_counted_e {X : po_X} {G : po_G} {st : Nat → Nat} {K : po_K} {I : po_I} {R : po_R} {ρ : Int32} (hF : po_F X G cX8_counted RX8 4 st) (hL : po_L X (some .int) 2 0 0 "counted") (HL : po_Lay K R st) (l0 : Nat) (l1 : Int32) (kl0 : K l0 = (19, 19)) (hm : m_X8_counted_e I l0 l1 = some ρ) : po_V X G 4 (po_Q X G (.inl (some (.int ρ))) K R I none 0 0) 0 0 0 [(0, .ref l0), (1, .int l1)] [] K R I none := by
  unfold m_X8_counted_e at hm
  refine po_iconst (v := 0) hF dX8_counted_0 (by decide) ?_
  refine po_istore_n (L' := [(2, .int 0), (0, .ref l0), (1, .int l1)]) hF dX8_counted_1 rfl (by decide) rfl ?_
  refine po_iconst (v := 0) hF dX8_counted_2 (by decide) ?_
  refine po_istore_n (L' := [(3, .int 0), (2, .int 0), (0, .ref l0), (1, .int l1)]) hF dX8_counted_3 rfl (by decide) rfl ?_
  refine po_sub (L' := [(0, .ref l0), (1, .int l1), (2, .int 0), (3, .int 0)]) rfl ?_
  exact w_X8_counted_4L hF hL HL 5000 l0 l1 0 0 hm kl0
theorem c_X8_counted {K : po_K} {R : po_R} {I : po_I} {st : Nat → Nat} {ρ : Int32} (HL : po_Lay K R st) {l0 : Nat} {l1 : Int32} (kl0 : K l0 = (19, 19)) (hm : m_X8_counted I l0 l1 = some ρ) : po_C st yX8_counted cX8_counted 4 (some .int) 2 0 0 [.ref l0, .int l1] K R I none (.inl (some (.int ρ))) K R I none := by
  refine po_ofC (by decide +kernel) (Nat.le_of_ble_eq_true rfl) (fun X G hF hL => ?_)
  exact w_X8_counted_e hF hL HL l0 l1 kl0 hm
set_option maxRecDepth 20000 in
set_option maxHeartbeats 2000000 in
theorem w_X8_meanFloorArea_69 {X : po_X} {G : po_G} {st : Nat → Nat} {K : po_K} {R : po_R} {ρ : UInt32 × po_I} (hF : po_F X G cX8_meanFloorArea RX8 4 st) (hL : po_L X (some .float) 5 0 0 "meanFloorArea") (HL : po_Lay K R st) (I : po_I) (s0 : UInt32) (hm : m_X8_meanFloorArea_69 I s0 = some ρ) : po_V X G 4 (po_Q X G (.inl (some (.float ρ.1))) K R (ρ.2) none 0 0) 0 0 69 [] [.float s0] K R I none := by
  unfold m_X8_meanFloorArea_69 at hm
  cases hm
  exact po_fret hF hL dX8_meanFloorArea_69 (by decide) (by decide) rfl rfl rfl (Or.inl rfl)
set_option maxRecDepth 20000 in
set_option maxHeartbeats 2000000 in
theorem w_X8_meanFloorArea_43 {X : po_X} {G : po_G} {st : Nat → Nat} {K : po_K} {R : po_R} {ρ : UInt32 × po_I} {r15 : po_I → Nat → Int32 → Int32 → Int32 → Option (UInt32 × po_I)} (hF : po_F X G cX8_meanFloorArea RX8 4 st) (hL : po_L X (some .float) 5 0 0 "meanFloorArea") (HL : po_Lay K R st) (h15 : ∀ (I : po_I) (l0 : Nat) (l1 : Int32) (l2 : Int32) (l3 : Int32), r15 I l0 l1 l2 l3 = some ρ → K l0 = (19, 19) → po_V X G 4 (po_Q X G (.inl (some (.float ρ.1))) K R (ρ.2) none 0 0) 0 0 15 [(0, .ref l0), (1, .int l1), (2, .int l2), (3, .int l3)] [] K R I none) (I : po_I) (l0 : Nat) (l1 : Int32) (l3 : Int32) (s0 : Int32) (s1 : Int32) (kl0 : K l0 = (19, 19)) (hm : m_X8_meanFloorArea_43 r15 I l0 l1 l3 s0 s1 = some ρ) : po_V X G 4 (po_Q X G (.inl (some (.float ρ.1))) K R (ρ.2) none 0 0) 0 0 43 [(0, .ref l0), (1, .int l1), (3, .int l3)] [.int s1, .int s0] K R I none := by
  unfold m_X8_meanFloorArea_43 at hm
  refine po_iadd hF dX8_meanFloorArea_43 ?_
  refine po_top hm (fun v1 hm => ?_)
  refine po_istore_n (L' := [(2, .int v1), (0, .ref l0), (1, .int l1), (3, .int l3)]) hF dX8_meanFloorArea_44 rfl (by decide) rfl ?_
  refine po_iinc (v := l3 + 1) (L' := [(3, .int (l3 + 1)), (2, .int v1), (0, .ref l0), (1, .int l1)]) hF dX8_meanFloorArea_45 rfl rfl (by decide) rfl ?_
  refine po_goto (tgt := 15) hF dX8_meanFloorArea_48 (by decide) ?_
  refine po_sub (L' := [(0, .ref l0), (1, .int l1), (2, .int v1), (3, .int (l3 + 1))]) rfl ?_
  exact h15 I l0 l1 v1 (l3 + 1) hm kl0
set_option maxRecDepth 20000 in
set_option maxHeartbeats 2000000 in
theorem w_X8_meanFloorArea_15 {X : po_X} {G : po_G} {st : Nat → Nat} {K : po_K} {R : po_R} {ρ : UInt32 × po_I} {r15 : po_I → Nat → Int32 → Int32 → Int32 → Option (UInt32 × po_I)} (hF : po_F X G cX8_meanFloorArea RX8 4 st) (hL : po_L X (some .float) 5 0 0 "meanFloorArea") (HL : po_Lay K R st) (h15 : ∀ (I : po_I) (l0 : Nat) (l1 : Int32) (l2 : Int32) (l3 : Int32), r15 I l0 l1 l2 l3 = some ρ → K l0 = (19, 19) → po_V X G 4 (po_Q X G (.inl (some (.float ρ.1))) K R (ρ.2) none 0 0) 0 0 15 [(0, .ref l0), (1, .int l1), (2, .int l2), (3, .int l3)] [] K R I none) (I : po_I) (l0 : Nat) (l1 : Int32) (l2 : Int32) (l3 : Int32) (kl0 : K l0 = (19, 19)) (hm : m_X8_meanFloorArea_15 r15 I l0 l1 l2 l3 = some ρ) : po_V X G 4 (po_Q X G (.inl (some (.float ρ.1))) K R (ρ.2) none 0 0) 0 0 15 [(0, .ref l0), (1, .int l1), (2, .int l2), (3, .int l3)] [] K R I none := by
  unfold m_X8_meanFloorArea_15 at hm
  refine po_iload_n hF dX8_meanFloorArea_15 rfl rfl ?_
  refine po_aload_n hF dX8_meanFloorArea_16 rfl rfl ?_
  refine po_getf (v := .ref (l0 + 1)) hF dX8_meanFloorArea_17 fl_X8_13 kl0 (ly_8_1 HL kl0).1 ?_
  refine po_iconst (v := 2) hF dX8_meanFloorArea_20 (by decide) ?_
  refine po_ialdC (j := 2) hF dX8_meanFloorArea_21 ((ly_8_1 HL kl0).2) (Or.inl rfl) (by decide) (by decide) (by decide) ?_
  refine po_icmp_ge (tgt := 51) hF dX8_meanFloorArea_22 (by decide) hm (fun hm => ?_) (fun hm => ?_)
  · refine po_iload_n hF dX8_meanFloorArea_51 rfl rfl ?_
    refine po_if_ne (tgt := 64) hF dX8_meanFloorArea_52 (by decide) hm (fun hm => ?_) (fun hm => ?_)
    · refine po_iload_n hF dX8_meanFloorArea_64 rfl rfl ?_
      refine po_i2f hF dX8_meanFloorArea_65 ?_
      refine po_iload_n hF dX8_meanFloorArea_66 rfl rfl ?_
      refine po_i2f hF dX8_meanFloorArea_67 ?_
      obtain ⟨hn, hm⟩ := po_gnE hm
      refine po_fdiv hF dX8_meanFloorArea_68 hn ?_
      refine po_sub (L' := []) rfl ?_
      exact w_X8_meanFloorArea_69 hF hL HL I (FP.fdiv (FP.i2f l2) (FP.i2f l1)) hm
    · refine po_aload_n hF dX8_meanFloorArea_55 rfl rfl ?_
      refine po_iconst (v := 1) hF dX8_meanFloorArea_56 (by decide) ?_
      obtain ⟨x2, hx2, hm⟩ := po_bind hm
      refine po_callV (As := [.int 1]) hF dX8_meanFloorArea_57 wq_1285 mv_X8_fail ws_X8_fail (show po_cl[8]? = some _ from rfl) rfl kl0 (c_X8_fail HL kl0 hx2) rfl (po_rtL hL rfl) (Nat.le_of_ble_eq_true rfl) rfl ?_
      refine po_i2f hF dX8_meanFloorArea_60 ?_
      refine po_goto (tgt := 69) hF dX8_meanFloorArea_61 (by decide) ?_
      refine po_sub (L' := []) rfl ?_
      exact w_X8_meanFloorArea_69 hF hL HL (x2.2) (FP.i2f (x2.1)) hm
  · refine po_iload_n hF dX8_meanFloorArea_25 rfl rfl ?_
    refine po_aload_n hF dX8_meanFloorArea_26 rfl rfl ?_
    refine po_iload_n hF dX8_meanFloorArea_27 rfl rfl ?_
    obtain ⟨x3, hx3, hm⟩ := po_bind hm
    refine po_callV (As := [.int l3]) hF dX8_meanFloorArea_28 wq_1450 mv_X8_stands ws_X8_stands (show po_cl[8]? = some _ from rfl) rfl kl0 (c_X8_stands HL kl0 hx3) rfl (po_rtL hL rfl) (Nat.le_of_ble_eq_true rfl) rfl ?_
    refine po_if_eq (tgt := 42) hF dX8_meanFloorArea_31 (by decide) hm (fun hm => ?_) (fun hm => ?_)
    · refine po_iconst (v := 0) hF dX8_meanFloorArea_42 (by decide) ?_
      refine po_sub (L' := [(0, .ref l0), (1, .int l1), (3, .int l3)]) rfl ?_
      exact w_X8_meanFloorArea_43 hF hL HL h15 I l0 l1 l3 l2 0 kl0 hm
    · refine po_aload_n hF dX8_meanFloorArea_34 rfl rfl ?_
      refine po_iload_n hF dX8_meanFloorArea_35 rfl rfl ?_
      obtain ⟨x4, hx4, hm⟩ := po_bind hm
      refine po_callV (As := [.int l3]) hF dX8_meanFloorArea_36 wq_1368 mv_X8_floorArea ws_X8_floorArea (show po_cl[8]? = some _ from rfl) rfl kl0 (c_X8_floorArea HL kl0 hx4) rfl (po_rtL hL rfl) (Nat.le_of_ble_eq_true rfl) rfl ?_
      refine po_goto (tgt := 43) hF dX8_meanFloorArea_39 (by decide) ?_
      refine po_sub (L' := [(0, .ref l0), (1, .int l1), (3, .int l3)]) rfl ?_
      exact w_X8_meanFloorArea_43 hF hL HL h15 I l0 l1 l3 l2 x4 kl0 hm
theorem w_X8_meanFloorArea_15L {X : po_X} {G : po_G} {st : Nat → Nat} {K : po_K} {R : po_R} {ρ : UInt32 × po_I} (hF : po_F X G cX8_meanFloorArea RX8 4 st) (hL : po_L X (some .float) 5 0 0 "meanFloorArea") (HL : po_Lay K R st) : ∀ (n : Nat) (I : po_I) (l0 : Nat) (l1 : Int32) (l2 : Int32) (l3 : Int32), m_X8_meanFloorArea_15L n I l0 l1 l2 l3 = some ρ → K l0 = (19, 19) → po_V X G 4 (po_Q X G (.inl (some (.float ρ.1))) K R (ρ.2) none 0 0) 0 0 15 [(0, .ref l0), (1, .int l1), (2, .int l2), (3, .int l3)] [] K R I none := by
  intro n
  induction n with
  | zero => intro I l0 l1 l2 l3 hm; cases hm
  | succ n ih => intro I l0 l1 l2 l3 hm kl0; exact w_X8_meanFloorArea_15 hF hL HL (ih) I l0 l1 l2 l3 kl0 hm
set_option maxRecDepth 20000 in
set_option maxHeartbeats 2000000 in
theorem w_X8_meanFloorArea_e {X : po_X} {G : po_G} {st : Nat → Nat} {K : po_K} {R : po_R} {ρ : UInt32 × po_I} (hF : po_F X G cX8_meanFloorArea RX8 4 st) (hL : po_L X (some .float) 5 0 0 "meanFloorArea") (HL : po_Lay K R st) (I : po_I) (l0 : Nat) (kl0 : K l0 = (19, 19)) (hm : m_X8_meanFloorArea_e I l0 = some ρ) : po_V X G 4 (po_Q X G (.inl (some (.float ρ.1))) K R (ρ.2) none 0 0) 0 0 0 [(0, .ref l0)] [] K R I none := by
  unfold m_X8_meanFloorArea_e at hm
  refine po_aload_n hF dX8_meanFloorArea_0 rfl rfl ?_
  refine po_iconst (v := 0) hF dX8_meanFloorArea_1 (by decide) ?_
  refine po_puti hF dX8_meanFloorArea_2 fl_X8_1 kl0 (by intro r h; cases h; rfl) rfl rfl (fun _ => rfl) rfl ?_
  refine po_hname hm (fun I5 hm => ?_)
  refine po_aload_n hF dX8_meanFloorArea_5 rfl rfl ?_
  refine po_iconst (v := (-1)) hF dX8_meanFloorArea_6 (by decide) ?_
  obtain ⟨x6, hx6, hm⟩ := po_bind hm
  refine po_callV (As := [.int (-1)]) hF dX8_meanFloorArea_7 wq_1668 mv_X8_counted ws_X8_counted (show po_cl[8]? = some _ from rfl) rfl kl0 (c_X8_counted HL kl0 hx6) rfl (po_rtL hL rfl) (Nat.le_of_ble_eq_true rfl) rfl ?_
  refine po_istore_n (L' := [(1, .int x6), (0, .ref l0)]) hF dX8_meanFloorArea_10 rfl (by decide) rfl ?_
  refine po_iconst (v := 0) hF dX8_meanFloorArea_11 (by decide) ?_
  refine po_istore_n (L' := [(2, .int 0), (1, .int x6), (0, .ref l0)]) hF dX8_meanFloorArea_12 rfl (by decide) rfl ?_
  refine po_iconst (v := 0) hF dX8_meanFloorArea_13 (by decide) ?_
  refine po_istore_n (L' := [(3, .int 0), (2, .int 0), (1, .int x6), (0, .ref l0)]) hF dX8_meanFloorArea_14 rfl (by decide) rfl ?_
  refine po_sub (L' := [(0, .ref l0), (1, .int x6), (2, .int 0), (3, .int 0)]) rfl ?_
  exact w_X8_meanFloorArea_15L hF hL HL 5000 I5 l0 x6 0 0 hm kl0
theorem c_X8_meanFloorArea {K : po_K} {R : po_R} {I : po_I} {st : Nat → Nat} {ρ : UInt32 × po_I} (HL : po_Lay K R st) {l0 : Nat} (kl0 : K l0 = (19, 19)) (hm : m_X8_meanFloorArea I l0 = some ρ) : po_C st yX8_meanFloorArea cX8_meanFloorArea 4 (some .float) 5 0 0 [.ref l0] K R I none (.inl (some (.float ρ.1))) K R (ρ.2) none := by
  refine po_ofC (by decide +kernel) (Nat.le_of_ble_eq_true rfl) (fun X G hF hL => ?_)
  exact w_X8_meanFloorArea_e hF hL HL I l0 kl0 hm
set_option maxRecDepth 20000 in
set_option maxHeartbeats 2000000 in
theorem w_X8_cellsInLots_4 {X : po_X} {G : po_G} {st : Nat → Nat} {K : po_K} {I : po_I} {R : po_R} {ρ : Int32} {r4 : Nat → Int32 → Int32 → Option (Int32)} (hF : po_F X G cX8_cellsInLots RX8 3 st) (hL : po_L X (some .int) 4 0 0 "cellsInLots") (HL : po_Lay K R st) (h4 : ∀ (l0 : Nat) (l1 : Int32) (l2 : Int32), r4 l0 l1 l2 = some ρ → K l0 = (19, 19) → po_V X G 3 (po_Q X G (.inl (some (.int ρ))) K R I none 0 0) 0 0 4 [(0, .ref l0), (1, .int l1), (2, .int l2)] [] K R I none) (l0 : Nat) (l1 : Int32) (l2 : Int32) (kl0 : K l0 = (19, 19)) (hm : m_X8_cellsInLots_4 I r4 l0 l1 l2 = some ρ) : po_V X G 3 (po_Q X G (.inl (some (.int ρ))) K R I none 0 0) 0 0 4 [(0, .ref l0), (1, .int l1), (2, .int l2)] [] K R I none := by
  unfold m_X8_cellsInLots_4 at hm
  refine po_iload_n hF dX8_cellsInLots_4 rfl rfl ?_
  refine po_aload_n hF dX8_cellsInLots_5 rfl rfl ?_
  refine po_getf (v := .ref (l0 + 1)) hF dX8_cellsInLots_6 fl_X8_13 kl0 (ly_8_1 HL kl0).1 ?_
  refine po_iconst (v := 1) hF dX8_cellsInLots_9 (by decide) ?_
  refine po_ialdC (j := 1) hF dX8_cellsInLots_10 ((ly_8_1 HL kl0).2) (Or.inl rfl) (by decide) (by decide) (by decide) ?_
  refine po_icmp_ge (tgt := 28) hF dX8_cellsInLots_11 (by decide) hm (fun hm => ?_) (fun hm => ?_)
  · refine po_iload_n hF dX8_cellsInLots_28 rfl rfl ?_
    cases hm
    exact po_iret hF hL dX8_cellsInLots_29 (by decide) (by decide) rfl rfl rfl (Or.inl rfl)
  · refine po_iload_n hF dX8_cellsInLots_14 rfl rfl ?_
    refine po_aload_n hF dX8_cellsInLots_15 rfl rfl ?_
    refine po_iload_n hF dX8_cellsInLots_16 rfl rfl ?_
    obtain ⟨x1, hx1, hm⟩ := po_bind hm
    refine po_callV (As := [.int l2]) hF dX8_cellsInLots_17 wq_1438 mv_X8_lotCells ws_X8_lotCells (show po_cl[8]? = some _ from rfl) rfl kl0 (c_X8_lotCells HL kl0 hx1) rfl (po_rtL hL rfl) (Nat.le_of_ble_eq_true rfl) rfl ?_
    refine po_iadd hF dX8_cellsInLots_20 ?_
    refine po_top hm (fun v2 hm => ?_)
    refine po_istore_n (L' := [(1, .int v2), (0, .ref l0), (2, .int l2)]) hF dX8_cellsInLots_21 rfl (by decide) rfl ?_
    refine po_iinc (v := l2 + 1) (L' := [(2, .int (l2 + 1)), (1, .int v2), (0, .ref l0)]) hF dX8_cellsInLots_22 rfl rfl (by decide) rfl ?_
    refine po_goto (tgt := 4) hF dX8_cellsInLots_25 (by decide) ?_
    refine po_sub (L' := [(0, .ref l0), (1, .int v2), (2, .int (l2 + 1))]) rfl ?_
    exact h4 l0 v2 (l2 + 1) hm kl0
theorem w_X8_cellsInLots_4L {X : po_X} {G : po_G} {st : Nat → Nat} {K : po_K} {I : po_I} {R : po_R} {ρ : Int32} (hF : po_F X G cX8_cellsInLots RX8 3 st) (hL : po_L X (some .int) 4 0 0 "cellsInLots") (HL : po_Lay K R st) : ∀ (n : Nat) (l0 : Nat) (l1 : Int32) (l2 : Int32), m_X8_cellsInLots_4L I n l0 l1 l2 = some ρ → K l0 = (19, 19) → po_V X G 3 (po_Q X G (.inl (some (.int ρ))) K R I none 0 0) 0 0 4 [(0, .ref l0), (1, .int l1), (2, .int l2)] [] K R I none := by
  intro n
  induction n with
  | zero => intro l0 l1 l2 hm; cases hm
  | succ n ih => intro l0 l1 l2 hm kl0; exact w_X8_cellsInLots_4 hF hL HL (ih) l0 l1 l2 kl0 hm
set_option maxRecDepth 20000 in
set_option maxHeartbeats 2000000 in
theorem w_X8_cellsInLots_e {X : po_X} {G : po_G} {st : Nat → Nat} {K : po_K} {I : po_I} {R : po_R} {ρ : Int32} (hF : po_F X G cX8_cellsInLots RX8 3 st) (hL : po_L X (some .int) 4 0 0 "cellsInLots") (HL : po_Lay K R st) (l0 : Nat) (kl0 : K l0 = (19, 19)) (hm : m_X8_cellsInLots_e I l0 = some ρ) : po_V X G 3 (po_Q X G (.inl (some (.int ρ))) K R I none 0 0) 0 0 0 [(0, .ref l0)] [] K R I none := by
  unfold m_X8_cellsInLots_e at hm
  refine po_iconst (v := 0) hF dX8_cellsInLots_0 (by decide) ?_
  refine po_istore_n (L' := [(1, .int 0), (0, .ref l0)]) hF dX8_cellsInLots_1 rfl (by decide) rfl ?_
  refine po_iconst (v := 0) hF dX8_cellsInLots_2 (by decide) ?_
  refine po_istore_n (L' := [(2, .int 0), (1, .int 0), (0, .ref l0)]) hF dX8_cellsInLots_3 rfl (by decide) rfl ?_
  refine po_sub (L' := [(0, .ref l0), (1, .int 0), (2, .int 0)]) rfl ?_
  exact w_X8_cellsInLots_4L hF hL HL 5000 l0 0 0 hm kl0
theorem c_X8_cellsInLots {K : po_K} {R : po_R} {I : po_I} {st : Nat → Nat} {ρ : Int32} (HL : po_Lay K R st) {l0 : Nat} (kl0 : K l0 = (19, 19)) (hm : m_X8_cellsInLots I l0 = some ρ) : po_C st yX8_cellsInLots cX8_cellsInLots 3 (some .int) 4 0 0 [.ref l0] K R I none (.inl (some (.int ρ))) K R I none := by
  refine po_ofC (by decide +kernel) (Nat.le_of_ble_eq_true rfl) (fun X G hF hL => ?_)
  exact w_X8_cellsInLots_e hF hL HL l0 kl0 hm
set_option maxRecDepth 20000 in
set_option maxHeartbeats 2000000 in
theorem w_X8_count_e {X : po_X} {G : po_G} {st : Nat → Nat} {K : po_K} {R : po_R} {ρ : Int32 × po_I} (hF : po_F X G cX8_count RX8 2 st) (hL : po_L X (some .int) 5 0 0 "count") (HL : po_Lay K R st) (I : po_I) (l0 : Nat) (l1 : Int32) (kl0 : K l0 = (19, 19)) (hm : m_X8_count_e I l0 l1 = some ρ) : po_V X G 2 (po_Q X G (.inl (some (.int ρ.1))) K R (ρ.2) none 0 0) 0 0 0 [(0, .ref l0), (1, .int l1)] [] K R I none := by
  unfold m_X8_count_e at hm
  refine po_aload_n hF dX8_count_0 rfl rfl ?_
  refine po_iconst (v := 0) hF dX8_count_1 (by decide) ?_
  refine po_puti hF dX8_count_2 fl_X8_1 kl0 (by intro r h; cases h; rfl) rfl rfl (fun _ => rfl) rfl ?_
  refine po_hname hm (fun I1 hm => ?_)
  refine po_iload_n hF dX8_count_5 rfl rfl ?_
  refine po_bipush (v := 10) hF dX8_count_6 (by decide) ?_
  refine po_bipush (v := 16) hF dX8_count_8 (by decide) ?_
  obtain ⟨x2, hx2, hm⟩ := po_bind hm
  refine po_callS (As := [.int l1, .int 10, .int 16]) hF dX8_count_10 wq_1282 mv_X8_isIn (c_X8_isIn HL hx2) rfl (po_rtL hL rfl) (Nat.le_of_ble_eq_true rfl) rfl ?_
  refine po_if_eq (tgt := 25) hF dX8_count_13 (by decide) hm (fun hm => ?_) (fun hm => ?_)
  · refine po_iload_n hF dX8_count_25 rfl rfl ?_
    by_cases hs0 : l1 = 0
    · rw [if_pos hs0] at hm
      refine po_tin (c := 0) (tgt := 72) (off := 46) hF dX8_count_26 hs0 (by decide) (by decide) (by decide) (by decide) ?_
      refine po_aload_n hF dX8_count_72 rfl rfl ?_
      refine po_getf (v := .ref (l0 + 1)) hF dX8_count_73 fl_X8_13 kl0 (ly_8_1 HL kl0).1 ?_
      refine po_iconst (v := 1) hF dX8_count_76 (by decide) ?_
      refine po_ialdC (j := 1) hF dX8_count_77 ((ly_8_1 HL kl0).2) (Or.inl rfl) (by decide) (by decide) (by decide) ?_
      cases hm
      exact po_iret hF hL dX8_count_78 (by decide) (by decide) rfl rfl rfl (Or.inl rfl)
    rw [if_neg hs0] at hm
    by_cases hs1 : l1 = 1
    · rw [if_pos hs1] at hm
      refine po_tin (c := 1) (tgt := 79) (off := 53) hF dX8_count_26 hs1 (by decide) (by decide) (by decide) (by decide) ?_
      refine po_aload_n hF dX8_count_79 rfl rfl ?_
      refine po_getf (v := .ref (l0 + 1)) hF dX8_count_80 fl_X8_13 kl0 (ly_8_1 HL kl0).1 ?_
      refine po_iconst (v := 2) hF dX8_count_83 (by decide) ?_
      refine po_ialdC (j := 2) hF dX8_count_84 ((ly_8_1 HL kl0).2) (Or.inl rfl) (by decide) (by decide) (by decide) ?_
      cases hm
      exact po_iret hF hL dX8_count_85 (by decide) (by decide) rfl rfl rfl (Or.inl rfl)
    rw [if_neg hs1] at hm
    by_cases hs2 : l1 = 2
    · rw [if_pos hs2] at hm
      refine po_tin (c := 2) (tgt := 86) (off := 60) hF dX8_count_26 hs2 (by decide) (by decide) (by decide) (by decide) ?_
      refine po_aload_n hF dX8_count_86 rfl rfl ?_
      refine po_getf (v := .ref (l0 + 1)) hF dX8_count_87 fl_X8_13 kl0 (ly_8_1 HL kl0).1 ?_
      refine po_iconst (v := 3) hF dX8_count_90 (by decide) ?_
      refine po_ialdC (j := 3) hF dX8_count_91 ((ly_8_1 HL kl0).2) (Or.inl rfl) (by decide) (by decide) (by decide) ?_
      cases hm
      exact po_iret hF hL dX8_count_92 (by decide) (by decide) rfl rfl rfl (Or.inl rfl)
    rw [if_neg hs2] at hm
    by_cases hs3 : l1 = 3
    · rw [if_pos hs3] at hm
      refine po_tin (c := 3) (tgt := 93) (off := 67) hF dX8_count_26 hs3 (by decide) (by decide) (by decide) (by decide) ?_
      refine po_aload_n hF dX8_count_93 rfl rfl ?_
      refine po_getf (v := .ref (l0 + 1)) hF dX8_count_94 fl_X8_13 kl0 (ly_8_1 HL kl0).1 ?_
      refine po_iconst (v := 0) hF dX8_count_97 (by decide) ?_
      refine po_ialdC (j := 0) hF dX8_count_98 ((ly_8_1 HL kl0).2) (Or.inl rfl) (by decide) (by decide) (by decide) ?_
      cases hm
      exact po_iret hF hL dX8_count_99 (by decide) (by decide) rfl rfl rfl (Or.inl rfl)
    rw [if_neg hs3] at hm
    by_cases hs4 : l1 = 4
    · rw [if_pos hs4] at hm
      refine po_tin (c := 4) (tgt := 100) (off := 74) hF dX8_count_26 hs4 (by decide) (by decide) (by decide) (by decide) ?_
      refine po_aload_n hF dX8_count_100 rfl rfl ?_
      refine po_iconst (v := (-1)) hF dX8_count_101 (by decide) ?_
      obtain ⟨x3, hx3, hm⟩ := po_bind hm
      refine po_callV (As := [.int (-1)]) hF dX8_count_102 wq_1668 mv_X8_counted ws_X8_counted (show po_cl[8]? = some _ from rfl) rfl kl0 (c_X8_counted HL kl0 hx3) rfl (po_rtL hL rfl) (Nat.le_of_ble_eq_true rfl) rfl ?_
      cases hm
      exact po_iret hF hL dX8_count_105 (by decide) (by decide) rfl rfl rfl (Or.inl rfl)
    rw [if_neg hs4] at hm
    by_cases hs5 : l1 = 5
    · rw [if_pos hs5] at hm
      refine po_tin (c := 5) (tgt := 106) (off := 80) hF dX8_count_26 hs5 (by decide) (by decide) (by decide) (by decide) ?_
      refine po_aload_n hF dX8_count_106 rfl rfl ?_
      obtain ⟨x4, hx4, hm⟩ := po_bind hm
      refine po_callV (As := []) hF dX8_count_107 wq_1676 mv_X8_cellsInLots ws_X8_cellsInLots (show po_cl[8]? = some _ from rfl) rfl kl0 (c_X8_cellsInLots HL kl0 hx4) rfl (po_rtL hL rfl) (Nat.le_of_ble_eq_true rfl) rfl ?_
      cases hm
      exact po_iret hF hL dX8_count_110 (by decide) (by decide) rfl rfl rfl (Or.inl rfl)
    rw [if_neg hs5] at hm
    by_cases hs6 : l1 = 6
    · rw [if_pos hs6] at hm
      refine po_tin (c := 6) (tgt := 111) (off := 85) hF dX8_count_26 hs6 (by decide) (by decide) (by decide) (by decide) ?_
      refine po_aload_n hF dX8_count_111 rfl rfl ?_
      refine po_getf (v := .int (I1 l0 3)) hF dX8_count_112 fl_X8_39 kl0 rfl ?_
      cases hm
      exact po_iret hF hL dX8_count_115 (by decide) (by decide) rfl rfl rfl (Or.inl rfl)
    rw [if_neg hs6] at hm
    by_cases hs7 : l1 = 7
    · rw [if_pos hs7] at hm
      refine po_tin (c := 7) (tgt := 116) (off := 90) hF dX8_count_26 hs7 (by decide) (by decide) (by decide) (by decide) ?_
      refine po_aload_n hF dX8_count_116 rfl rfl ?_
      refine po_getf (v := .int (I1 l0 12)) hF dX8_count_117 fl_X8_160 kl0 rfl ?_
      cases hm
      exact po_iret hF hL dX8_count_120 (by decide) (by decide) rfl rfl rfl (Or.inl rfl)
    rw [if_neg hs7] at hm
    refine po_tout (tgt := 121) hF dX8_count_26 (po_tdef (lo := 0) (m := 8) (fun j hj => by
      rcases (show j = 0 ∨ j = 1 ∨ j = 2 ∨ j = 3 ∨ j = 4 ∨ j = 5 ∨ j = 6 ∨ j = 7 by omega) with rfl | rfl | rfl | rfl | rfl | rfl | rfl | rfl
      · exact po_neI (c := 0) hs0 (by decide)
      · exact po_neI (c := 1) hs1 (by decide)
      · exact po_neI (c := 2) hs2 (by decide)
      · exact po_neI (c := 3) hs3 (by decide)
      · exact po_neI (c := 4) hs4 (by decide)
      · exact po_neI (c := 5) hs5 (by decide)
      · exact po_neI (c := 6) hs6 (by decide)
      · exact po_neI (c := 7) hs7 (by decide)
      )) (by decide) ?_
    refine po_aload_n hF dX8_count_121 rfl rfl ?_
    refine po_iconst (v := 1) hF dX8_count_122 (by decide) ?_
    obtain ⟨x5, hx5, hm⟩ := po_bind hm
    refine po_callV (As := [.int 1]) hF dX8_count_123 wq_1285 mv_X8_fail ws_X8_fail (show po_cl[8]? = some _ from rfl) rfl kl0 (c_X8_fail HL kl0 hx5) rfl (po_rtL hL rfl) (Nat.le_of_ble_eq_true rfl) rfl ?_
    cases hm
    exact po_iret hF hL dX8_count_126 (by decide) (by decide) rfl rfl rfl (Or.inl rfl)
  · refine po_aload_n hF dX8_count_16 rfl rfl ?_
    refine po_iload_n hF dX8_count_17 rfl rfl ?_
    refine po_bipush (v := 10) hF dX8_count_18 (by decide) ?_
    refine po_isub hF dX8_count_20 ?_
    obtain ⟨x6, hx6, hm⟩ := po_bind hm
    refine po_callV (As := [.int (l1 - 10)]) hF dX8_count_21 wq_1668 mv_X8_counted ws_X8_counted (show po_cl[8]? = some _ from rfl) rfl kl0 (c_X8_counted HL kl0 hx6) rfl (po_rtL hL rfl) (Nat.le_of_ble_eq_true rfl) rfl ?_
    cases hm
    exact po_iret hF hL dX8_count_24 (by decide) (by decide) rfl rfl rfl (Or.inl rfl)
theorem c_X8_count {K : po_K} {R : po_R} {I : po_I} {st : Nat → Nat} {ρ : Int32 × po_I} (HL : po_Lay K R st) {l0 : Nat} {l1 : Int32} (kl0 : K l0 = (19, 19)) (hm : m_X8_count I l0 l1 = some ρ) : po_C st yX8_count cX8_count 2 (some .int) 5 0 0 [.ref l0, .int l1] K R I none (.inl (some (.int ρ.1))) K R (ρ.2) none := by
  refine po_ofC (by decide +kernel) (Nat.le_of_ble_eq_true rfl) (fun X G hF hL => ?_)
  exact w_X8_count_e hF hL HL I l0 l1 kl0 hm
set_option maxRecDepth 20000 in
set_option maxHeartbeats 2000000 in
theorem w_X8_undo_30 {X : po_X} {G : po_G} {st : Nat → Nat} {K : po_K} {R : po_R} {ρ : Int32 × po_I} {r30 : po_I → Nat → Int32 → Option (Int32 × po_I)} (hF : po_F X G cX8_undo RX8 2 st) (hL : po_L X (some .int) 1 0 0 "undo") (HL : po_Lay K R st) (h30 : ∀ (I : po_I) (l0 : Nat) (l1 : Int32), r30 I l0 l1 = some ρ → K l0 = (19, 19) → po_V X G 2 (po_Q X G (.inl (some (.int ρ.1))) K R (ρ.2) none 0 0) 0 0 30 [(0, .ref l0), (1, .int l1)] [] K R I none) (I : po_I) (l0 : Nat) (l1 : Int32) (kl0 : K l0 = (19, 19)) (hm : m_X8_undo_30 r30 I l0 l1 = some ρ) : po_V X G 2 (po_Q X G (.inl (some (.int ρ.1))) K R (ρ.2) none 0 0) 0 0 30 [(0, .ref l0), (1, .int l1)] [] K R I none := by
  unfold m_X8_undo_30 at hm
  refine po_iload_n hF dX8_undo_30 rfl rfl ?_
  refine po_sipush (v := 668) hF dX8_undo_31 (by decide) ?_
  refine po_icmp_ge (tgt := 64) hF dX8_undo_34 (by decide) hm (fun hm => ?_) (fun hm => ?_)
  · refine po_aload_n hF dX8_undo_64 rfl rfl ?_
    refine po_getf (v := .int (I l0 3)) hF dX8_undo_65 fl_X8_39 kl0 rfl ?_
    cases hm
    exact po_iret hF hL dX8_undo_68 (by decide) (by decide) rfl rfl rfl (Or.inl rfl)
  · refine po_aload_n hF dX8_undo_37 rfl rfl ?_
    refine po_getf (v := .ref (l0 + 1)) hF dX8_undo_38 fl_X8_13 kl0 (ly_8_1 HL kl0).1 ?_
    refine po_iload_n hF dX8_undo_41 rfl rfl ?_
    refine po_aload_n hF dX8_undo_42 rfl rfl ?_
    refine po_getf (v := .ref (l0 + 2)) hF dX8_undo_43 fl_X8_17 kl0 (ly_8_2 HL kl0).1 ?_
    refine po_sipush (v := 668) hF dX8_undo_46 (by decide) ?_
    refine po_aload_n hF dX8_undo_49 rfl rfl ?_
    refine po_getf (v := .int (I l0 3)) hF dX8_undo_50 fl_X8_39 kl0 rfl ?_
    refine po_imul hF dX8_undo_53 ?_
    refine po_iload_n hF dX8_undo_54 rfl rfl ?_
    refine po_iadd hF dX8_undo_55 ?_
    refine po_iald hF dX8_undo_56 ((ly_8_2 HL kl0).2) (Or.inl rfl) hm (fun hm => ?_)
    refine po_iast hF dX8_undo_57 ((ly_8_1 HL kl0).2) hm rfl (fun hm => ?_)
    refine po_hname hm (fun I1 hm => ?_)
    refine po_iinc (v := l1 + 1) (L' := [(1, .int (l1 + 1)), (0, .ref l0)]) hF dX8_undo_58 rfl rfl (by decide) rfl ?_
    refine po_goto (tgt := 30) hF dX8_undo_61 (by decide) ?_
    refine po_sub (L' := [(0, .ref l0), (1, .int (l1 + 1))]) rfl ?_
    exact h30 I1 l0 (l1 + 1) hm kl0
theorem w_X8_undo_30L {X : po_X} {G : po_G} {st : Nat → Nat} {K : po_K} {R : po_R} {ρ : Int32 × po_I} (hF : po_F X G cX8_undo RX8 2 st) (hL : po_L X (some .int) 1 0 0 "undo") (HL : po_Lay K R st) : ∀ (n : Nat) (I : po_I) (l0 : Nat) (l1 : Int32), m_X8_undo_30L n I l0 l1 = some ρ → K l0 = (19, 19) → po_V X G 2 (po_Q X G (.inl (some (.int ρ.1))) K R (ρ.2) none 0 0) 0 0 30 [(0, .ref l0), (1, .int l1)] [] K R I none := by
  intro n
  induction n with
  | zero => intro I l0 l1 hm; cases hm
  | succ n ih => intro I l0 l1 hm kl0; exact w_X8_undo_30 hF hL HL (ih) I l0 l1 kl0 hm
set_option maxRecDepth 20000 in
set_option maxHeartbeats 2000000 in
theorem w_X8_undo_e {X : po_X} {G : po_G} {st : Nat → Nat} {K : po_K} {R : po_R} {ρ : Int32 × po_I} (hF : po_F X G cX8_undo RX8 2 st) (hL : po_L X (some .int) 1 0 0 "undo") (HL : po_Lay K R st) (I : po_I) (l0 : Nat) (kl0 : K l0 = (19, 19)) (hm : m_X8_undo_e I l0 = some ρ) : po_V X G 2 (po_Q X G (.inl (some (.int ρ.1))) K R (ρ.2) none 0 0) 0 0 0 [(0, .ref l0)] [] K R I none := by
  unfold m_X8_undo_e at hm
  refine po_aload_n hF dX8_undo_0 rfl rfl ?_
  refine po_iconst (v := 0) hF dX8_undo_1 (by decide) ?_
  refine po_puti hF dX8_undo_2 fl_X8_1 kl0 (by intro r h; cases h; rfl) rfl rfl (fun _ => rfl) rfl ?_
  refine po_hname hm (fun I2 hm => ?_)
  refine po_aload_n hF dX8_undo_5 rfl rfl ?_
  refine po_getf (v := .int (I2 l0 3)) hF dX8_undo_6 fl_X8_39 kl0 rfl ?_
  refine po_if_ne (tgt := 18) hF dX8_undo_9 (by decide) hm (fun hm => ?_) (fun hm => ?_)
  · refine po_aload_n hF dX8_undo_18 rfl rfl ?_
    refine po_dup hF dX8_undo_19 rfl ?_
    refine po_getf (v := .int (I2 l0 3)) hF dX8_undo_20 fl_X8_39 kl0 rfl ?_
    refine po_iconst (v := 1) hF dX8_undo_23 (by decide) ?_
    refine po_isub hF dX8_undo_24 ?_
    refine po_puti hF dX8_undo_25 fl_X8_39 kl0 (by intro r h; cases h; rfl) rfl rfl (fun _ => rfl) rfl ?_
    refine po_hname hm (fun I3 hm => ?_)
    refine po_iconst (v := 0) hF dX8_undo_28 (by decide) ?_
    refine po_istore_n (L' := [(1, .int 0), (0, .ref l0)]) hF dX8_undo_29 rfl (by decide) rfl ?_
    refine po_sub (L' := [(0, .ref l0), (1, .int 0)]) rfl ?_
    exact w_X8_undo_30L hF hL HL 5000 I3 l0 0 hm kl0
  · refine po_aload_n hF dX8_undo_12 rfl rfl ?_
    refine po_iconst (v := 1) hF dX8_undo_13 (by decide) ?_
    obtain ⟨x4, hx4, hm⟩ := po_bind hm
    refine po_callV (As := [.int 1]) hF dX8_undo_14 wq_1285 mv_X8_fail ws_X8_fail (show po_cl[8]? = some _ from rfl) rfl kl0 (c_X8_fail HL kl0 hx4) rfl (po_rtL hL rfl) (Nat.le_of_ble_eq_true rfl) rfl ?_
    cases hm
    exact po_iret hF hL dX8_undo_17 (by decide) (by decide) rfl rfl rfl (Or.inl rfl)
theorem c_X8_undo {K : po_K} {R : po_R} {I : po_I} {st : Nat → Nat} {ρ : Int32 × po_I} (HL : po_Lay K R st) {l0 : Nat} (kl0 : K l0 = (19, 19)) (hm : m_X8_undo I l0 = some ρ) : po_C st yX8_undo cX8_undo 2 (some .int) 1 0 0 [.ref l0] K R I none (.inl (some (.int ρ.1))) K R (ρ.2) none := by
  refine po_ofC (by decide +kernel) (Nat.le_of_ble_eq_true rfl) (fun X G hF hL => ?_)
  exact w_X8_undo_e hF hL HL I l0 kl0 hm
set_option maxRecDepth 20000 in
set_option maxHeartbeats 2000000 in
theorem w_X8_save_e {X : po_X} {G : po_G} {st : Nat → Nat} {K : po_K} {R : po_R} {ρ : Int32 × po_I} (hF : po_F X G cX8_save RX8 1 st) (hL : po_L X (some .int) 1 0 0 "save") (HL : po_Lay K R st) (I : po_I) (l0 : Nat) (kl0 : K l0 = (19, 19)) (hm : m_X8_save_e I l0 = some ρ) : po_V X G 1 (po_Q X G (.inl (some (.int ρ.1))) K R (ρ.2) none 0 0) 0 0 0 [(0, .ref l0)] [] K R I none := by
  unfold m_X8_save_e at hm
  refine po_aload_n hF dX8_save_0 rfl rfl ?_
  refine po_iconst (v := 0) hF dX8_save_1 (by decide) ?_
  refine po_puti hF dX8_save_2 fl_X8_1 kl0 (by intro r h; cases h; rfl) rfl rfl (fun _ => rfl) rfl ?_
  refine po_hname hm (fun I1 hm => ?_)
  refine po_aload_n hF dX8_save_5 rfl rfl ?_
  refine po_iconst (v := 1) hF dX8_save_6 (by decide) ?_
  refine po_putz hF dX8_save_7 fl_X8_317 kl0 (by intro r h; cases h; rfl) rfl (by decide) rfl ?_
  refine po_hname hm (fun I2 hm => ?_)
  refine po_aload_n hF dX8_save_10 rfl rfl ?_
  refine po_getf (v := .ref (l0 + 1)) hF dX8_save_11 fl_X8_13 kl0 (ly_8_1 HL kl0).1 ?_
  refine po_aload_n hF dX8_save_14 rfl rfl ?_
  refine po_getf (v := .ref (l0 + 4)) hF dX8_save_15 fl_X8_23 kl0 (ly_8_5 HL kl0).1 ?_
  obtain ⟨x3, hx3, hm⟩ := po_bind hm
  refine po_callS (As := [.ref (l0 + 1), .ref (l0 + 4)]) hF dX8_save_18 wq_1293 mv_X8_copy (c_X8_copy HL ((ly_8_1 HL kl0).2) ((ly_8_5 HL kl0).2) hx3) rfl (po_rtL hL rfl) (Nat.le_of_ble_eq_true rfl) rfl ?_
  refine po_aload_n hF dX8_save_21 rfl rfl ?_
  refine po_getf (v := .ref (l0 + 1)) hF dX8_save_22 fl_X8_13 kl0 (ly_8_1 HL kl0).1 ?_
  refine po_iconst (v := 2) hF dX8_save_25 (by decide) ?_
  refine po_ialdC (j := 2) hF dX8_save_26 ((ly_8_1 HL kl0).2) (Or.inl rfl) (by decide) (by decide) (by decide) ?_
  cases hm
  exact po_iret hF hL dX8_save_27 (by decide) (by decide) rfl rfl rfl (Or.inl rfl)
theorem c_X8_save {K : po_K} {R : po_R} {I : po_I} {st : Nat → Nat} {ρ : Int32 × po_I} (HL : po_Lay K R st) {l0 : Nat} (kl0 : K l0 = (19, 19)) (hm : m_X8_save I l0 = some ρ) : po_C st yX8_save cX8_save 1 (some .int) 1 0 0 [.ref l0] K R I none (.inl (some (.int ρ.1))) K R (ρ.2) none := by
  refine po_ofC (by decide +kernel) (Nat.le_of_ble_eq_true rfl) (fun X G hF hL => ?_)
  exact w_X8_save_e hF hL HL I l0 kl0 hm
set_option maxRecDepth 20000 in
set_option maxHeartbeats 2000000 in
theorem w_X8_restore_e {X : po_X} {G : po_G} {st : Nat → Nat} {K : po_K} {R : po_R} {ρ : Int32 × po_I} (hF : po_F X G cX8_restore RX8 1 st) (hL : po_L X (some .int) 1 0 0 "restore") (HL : po_Lay K R st) (I : po_I) (l0 : Nat) (kl0 : K l0 = (19, 19)) (hm : m_X8_restore_e I l0 = some ρ) : po_V X G 1 (po_Q X G (.inl (some (.int ρ.1))) K R (ρ.2) none 0 0) 0 0 0 [(0, .ref l0)] [] K R I none := by
  unfold m_X8_restore_e at hm
  refine po_aload_n hF dX8_restore_0 rfl rfl ?_
  refine po_iconst (v := 0) hF dX8_restore_1 (by decide) ?_
  refine po_puti hF dX8_restore_2 fl_X8_1 kl0 (by intro r h; cases h; rfl) rfl rfl (fun _ => rfl) rfl ?_
  refine po_hname hm (fun I1 hm => ?_)
  refine po_aload_n hF dX8_restore_5 rfl rfl ?_
  refine po_getf (v := .int (vp_nar .boolean (I1 l0 6))) hF dX8_restore_6 fl_X8_317 kl0 rfl ?_
  refine po_if_ne (tgt := 18) hF dX8_restore_9 (by decide) hm (fun hm => ?_) (fun hm => ?_)
  · refine po_aload_n hF dX8_restore_18 rfl rfl ?_
    refine po_iconst (v := 0) hF dX8_restore_19 (by decide) ?_
    refine po_puti hF dX8_restore_20 fl_X8_39 kl0 (by intro r h; cases h; rfl) rfl rfl (fun _ => rfl) rfl ?_
    refine po_hname hm (fun I2 hm => ?_)
    refine po_aload_n hF dX8_restore_23 rfl rfl ?_
    refine po_getf (v := .ref (l0 + 4)) hF dX8_restore_24 fl_X8_23 kl0 (ly_8_5 HL kl0).1 ?_
    refine po_aload_n hF dX8_restore_27 rfl rfl ?_
    refine po_getf (v := .ref (l0 + 1)) hF dX8_restore_28 fl_X8_13 kl0 (ly_8_1 HL kl0).1 ?_
    obtain ⟨x3, hx3, hm⟩ := po_bind hm
    refine po_callS (As := [.ref (l0 + 4), .ref (l0 + 1)]) hF dX8_restore_31 wq_1293 mv_X8_copy (c_X8_copy HL ((ly_8_5 HL kl0).2) ((ly_8_1 HL kl0).2) hx3) rfl (po_rtL hL rfl) (Nat.le_of_ble_eq_true rfl) rfl ?_
    refine po_aload_n hF dX8_restore_34 rfl rfl ?_
    refine po_getf (v := .ref (l0 + 1)) hF dX8_restore_35 fl_X8_13 kl0 (ly_8_1 HL kl0).1 ?_
    refine po_iconst (v := 2) hF dX8_restore_38 (by decide) ?_
    refine po_ialdC (j := 2) hF dX8_restore_39 ((ly_8_1 HL kl0).2) (Or.inl rfl) (by decide) (by decide) (by decide) ?_
    cases hm
    exact po_iret hF hL dX8_restore_40 (by decide) (by decide) rfl rfl rfl (Or.inl rfl)
  · refine po_aload_n hF dX8_restore_12 rfl rfl ?_
    refine po_iconst (v := 1) hF dX8_restore_13 (by decide) ?_
    obtain ⟨x4, hx4, hm⟩ := po_bind hm
    refine po_callV (As := [.int 1]) hF dX8_restore_14 wq_1285 mv_X8_fail ws_X8_fail (show po_cl[8]? = some _ from rfl) rfl kl0 (c_X8_fail HL kl0 hx4) rfl (po_rtL hL rfl) (Nat.le_of_ble_eq_true rfl) rfl ?_
    cases hm
    exact po_iret hF hL dX8_restore_17 (by decide) (by decide) rfl rfl rfl (Or.inl rfl)
theorem c_X8_restore {K : po_K} {R : po_R} {I : po_I} {st : Nat → Nat} {ρ : Int32 × po_I} (HL : po_Lay K R st) {l0 : Nat} (kl0 : K l0 = (19, 19)) (hm : m_X8_restore I l0 = some ρ) : po_C st yX8_restore cX8_restore 1 (some .int) 1 0 0 [.ref l0] K R I none (.inl (some (.int ρ.1))) K R (ρ.2) none := by
  refine po_ofC (by decide +kernel) (Nat.le_of_ble_eq_true rfl) (fun X G hF hL => ?_)
  exact w_X8_restore_e hF hL HL I l0 kl0 hm
set_option maxRecDepth 20000 in
set_option maxHeartbeats 2000000 in
theorem w_X8_thrown_e {X : po_X} {G : po_G} {st : Nat → Nat} {K : po_K} {I : po_I} {R : po_R} {ρ : Int32} (hF : po_F X G cX8_thrown RX8 1 st) (hL : po_L X (some .int) 0 0 0 "thrown") (HL : po_Lay K R st) (l0 : Nat) (kl0 : K l0 = (19, 19)) (hm : m_X8_thrown_e I l0 = some ρ) : po_V X G 1 (po_Q X G (.inl (some (.int ρ))) K R I none 0 0) 0 0 0 [(0, .ref l0)] [] K R I none := by
  unfold m_X8_thrown_e at hm
  refine po_aload_n hF dX8_thrown_0 rfl rfl ?_
  refine po_getf (v := .int (I l0 0)) hF dX8_thrown_1 fl_X8_1 kl0 rfl ?_
  cases hm
  exact po_iret hF hL dX8_thrown_4 (by decide) (by decide) rfl rfl rfl (Or.inl rfl)
theorem c_X8_thrown {K : po_K} {R : po_R} {I : po_I} {st : Nat → Nat} {ρ : Int32} (HL : po_Lay K R st) {l0 : Nat} (kl0 : K l0 = (19, 19)) (hm : m_X8_thrown I l0 = some ρ) : po_C st yX8_thrown cX8_thrown 1 (some .int) 0 0 0 [.ref l0] K R I none (.inl (some (.int ρ))) K R I none := by
  refine po_ofC (by decide +kernel) (Nat.le_of_ble_eq_true rfl) (fun X G hF hL => ?_)
  exact w_X8_thrown_e hF hL HL l0 kl0 hm
