set_option maxRecDepth 20000 in
set_option maxHeartbeats 2000000 in
theorem w_X8_used_112 {X : po_X} {G : po_G} {st : Nat → Nat} {K : po_K} {I : po_I} {R : po_R} {ρ : Int32} {r6 : Nat → Int32 → Int32 → Int32 → Int32 → Int32 → Int32 → Option (Int32)} (hF : po_F X G cX8_used RX8 8 st) (hL : po_L X (some .int) 2 0 0 "used") (HL : po_Lay K R st) (h6 : ∀ (l0 : Nat) (l1 : Int32) (l2 : Int32) (l3 : Int32) (l4 : Int32) (l5 : Int32) (l6 : Int32), r6 l0 l1 l2 l3 l4 l5 l6 = some ρ → K l0 = (19, 19) → po_V X G 8 (po_Q X G (.inl (some (.int ρ))) K R I none 0 0) 0 0 6 [(0, .ref l0), (1, .int l1), (2, .int l2), (3, .int l3), (4, .int l4), (5, .int l5), (6, .int l6)] [] K R I none) (l0 : Nat) (l1 : Int32) (l2 : Int32) (l3 : Int32) (l4 : Int32) (l6 : Int32) (s0 : Int32) (kl0 : K l0 = (19, 19)) (hm : m_X8_used_112 I r6 l0 l1 l2 l3 l4 l6 s0 = some ρ) : po_V X G 8 (po_Q X G (.inl (some (.int ρ))) K R I none 0 0) 0 0 112 [(0, .ref l0), (1, .int l1), (2, .int l2), (3, .int l3), (4, .int l4), (6, .int l6)] [.int s0] K R I none := by
  unfold m_X8_used_112 at hm
  refine po_istore (L' := [(5, .int s0), (0, .ref l0), (1, .int l1), (2, .int l2), (3, .int l3), (4, .int l4), (6, .int l6)]) hF dX8_used_112 (by decide) rfl ?_
  refine po_iinc (v := l6 + 1) (L' := [(6, .int (l6 + 1)), (5, .int s0), (0, .ref l0), (1, .int l1), (2, .int l2), (3, .int l3), (4, .int l4)]) hF dX8_used_114 rfl rfl (by decide) rfl ?_
  refine po_goto (tgt := 6) hF dX8_used_117 (by decide) ?_
  refine po_sub (L' := [(0, .ref l0), (1, .int l1), (2, .int l2), (3, .int l3), (4, .int l4), (5, .int s0), (6, .int (l6 + 1))]) rfl ?_
  exact h6 l0 l1 l2 l3 l4 s0 (l6 + 1) hm kl0
set_option maxRecDepth 20000 in
set_option maxHeartbeats 2000000 in
theorem w_X8_used_110 {X : po_X} {G : po_G} {st : Nat → Nat} {K : po_K} {I : po_I} {R : po_R} {ρ : Int32} {r6 : Nat → Int32 → Int32 → Int32 → Int32 → Int32 → Int32 → Option (Int32)} (hF : po_F X G cX8_used RX8 8 st) (hL : po_L X (some .int) 2 0 0 "used") (HL : po_Lay K R st) (h6 : ∀ (l0 : Nat) (l1 : Int32) (l2 : Int32) (l3 : Int32) (l4 : Int32) (l5 : Int32) (l6 : Int32), r6 l0 l1 l2 l3 l4 l5 l6 = some ρ → K l0 = (19, 19) → po_V X G 8 (po_Q X G (.inl (some (.int ρ))) K R I none 0 0) 0 0 6 [(0, .ref l0), (1, .int l1), (2, .int l2), (3, .int l3), (4, .int l4), (5, .int l5), (6, .int l6)] [] K R I none) (l0 : Nat) (l1 : Int32) (l2 : Int32) (l3 : Int32) (l4 : Int32) (l5 : Int32) (l6 : Int32) (kl0 : K l0 = (19, 19)) (hm : m_X8_used_110 I r6 l0 l1 l2 l3 l4 l5 l6 = some ρ) : po_V X G 8 (po_Q X G (.inl (some (.int ρ))) K R I none 0 0) 0 0 110 [(0, .ref l0), (1, .int l1), (2, .int l2), (3, .int l3), (4, .int l4), (5, .int l5), (6, .int l6)] [] K R I none := by
  unfold m_X8_used_110 at hm
  refine po_iload hF dX8_used_110 rfl ?_
  refine po_sub (L' := [(0, .ref l0), (1, .int l1), (2, .int l2), (3, .int l3), (4, .int l4), (6, .int l6)]) rfl ?_
  exact w_X8_used_112 hF hL HL h6 l0 l1 l2 l3 l4 l6 l5 kl0 hm
set_option maxRecDepth 20000 in
set_option maxHeartbeats 2000000 in
theorem w_X8_used_105 {X : po_X} {G : po_G} {st : Nat → Nat} {K : po_K} {I : po_I} {R : po_R} {ρ : Int32} {r6 : Nat → Int32 → Int32 → Int32 → Int32 → Int32 → Int32 → Option (Int32)} (hF : po_F X G cX8_used RX8 8 st) (hL : po_L X (some .int) 2 0 0 "used") (HL : po_Lay K R st) (h6 : ∀ (l0 : Nat) (l1 : Int32) (l2 : Int32) (l3 : Int32) (l4 : Int32) (l5 : Int32) (l6 : Int32), r6 l0 l1 l2 l3 l4 l5 l6 = some ρ → K l0 = (19, 19) → po_V X G 8 (po_Q X G (.inl (some (.int ρ))) K R I none 0 0) 0 0 6 [(0, .ref l0), (1, .int l1), (2, .int l2), (3, .int l3), (4, .int l4), (5, .int l5), (6, .int l6)] [] K R I none) (l0 : Nat) (l1 : Int32) (l2 : Int32) (l3 : Int32) (l4 : Int32) (l6 : Int32) (kl0 : K l0 = (19, 19)) (hm : m_X8_used_105 I r6 l0 l1 l2 l3 l4 l6 = some ρ) : po_V X G 8 (po_Q X G (.inl (some (.int ρ))) K R I none 0 0) 0 0 105 [(0, .ref l0), (1, .int l1), (2, .int l2), (3, .int l3), (4, .int l4), (6, .int l6)] [] K R I none := by
  unfold m_X8_used_105 at hm
  refine po_iload hF dX8_used_105 rfl ?_
  refine po_goto (tgt := 112) hF dX8_used_107 (by decide) ?_
  exact w_X8_used_112 hF hL HL h6 l0 l1 l2 l3 l4 l6 l6 kl0 hm
set_option maxRecDepth 20000 in
set_option maxHeartbeats 2000000 in
theorem w_X8_used_75 {X : po_X} {G : po_G} {st : Nat → Nat} {K : po_K} {I : po_I} {R : po_R} {ρ : Int32} {r6 : Nat → Int32 → Int32 → Int32 → Int32 → Int32 → Int32 → Option (Int32)} (hF : po_F X G cX8_used RX8 8 st) (hL : po_L X (some .int) 2 0 0 "used") (HL : po_Lay K R st) (h6 : ∀ (l0 : Nat) (l1 : Int32) (l2 : Int32) (l3 : Int32) (l4 : Int32) (l5 : Int32) (l6 : Int32), r6 l0 l1 l2 l3 l4 l5 l6 = some ρ → K l0 = (19, 19) → po_V X G 8 (po_Q X G (.inl (some (.int ρ))) K R I none 0 0) 0 0 6 [(0, .ref l0), (1, .int l1), (2, .int l2), (3, .int l3), (4, .int l4), (5, .int l5), (6, .int l6)] [] K R I none) (l0 : Nat) (l1 : Int32) (l2 : Int32) (l3 : Int32) (l4 : Int32) (l5 : Int32) (l6 : Int32) (s0 : Int32) (kl0 : K l0 = (19, 19)) (hm : m_X8_used_75 I r6 l0 l1 l2 l3 l4 l5 l6 s0 = some ρ) : po_V X G 8 (po_Q X G (.inl (some (.int ρ))) K R I none 0 0) 0 0 75 [(0, .ref l0), (1, .int l1), (2, .int l2), (3, .int l3), (4, .int l4), (5, .int l5), (6, .int l6)] [.int s0] K R I none := by
  unfold m_X8_used_75 at hm
  refine po_istore (L' := [(7, .int s0), (0, .ref l0), (1, .int l1), (2, .int l2), (3, .int l3), (4, .int l4), (5, .int l5), (6, .int l6)]) hF dX8_used_75 (by decide) rfl ?_
  refine po_iload hF dX8_used_77 rfl ?_
  refine po_if_eq (tgt := 110) hF dX8_used_79 (by decide) hm (fun hm => ?_) (fun hm => ?_)
  · refine po_sub (L' := [(0, .ref l0), (1, .int l1), (2, .int l2), (3, .int l3), (4, .int l4), (5, .int l5), (6, .int l6)]) rfl ?_
    exact w_X8_used_110 hF hL HL h6 l0 l1 l2 l3 l4 l5 l6 kl0 hm
  · refine po_iload hF dX8_used_82 rfl ?_
    refine po_iconst (v := (-1)) hF dX8_used_84 (by decide) ?_
    refine po_icmp_eq (tgt := 105) hF dX8_used_85 (by decide) hm (fun hm => ?_) (fun hm => ?_)
    · refine po_sub (L' := [(0, .ref l0), (1, .int l1), (2, .int l2), (3, .int l3), (4, .int l4), (6, .int l6)]) rfl ?_
      exact w_X8_used_105 hF hL HL h6 l0 l1 l2 l3 l4 l6 kl0 hm
    · refine po_aload_n hF dX8_used_88 rfl rfl ?_
      refine po_iload hF dX8_used_89 rfl ?_
      refine po_iconst (v := 2) hF dX8_used_91 (by decide) ?_
      obtain ⟨x1, hx1, hm⟩ := po_bind hm
      refine po_callV (As := [.int l6, .int 2]) hF dX8_used_92 wq_1563 mv_X8_variancePart ws_X8_variancePart (show po_cl[8]? = some _ from rfl) rfl kl0 (c_X8_variancePart HL kl0 hx1) rfl (po_rtL hL rfl) (Nat.le_of_ble_eq_true rfl) rfl ?_
      refine po_aload_n hF dX8_used_95 rfl rfl ?_
      refine po_iload hF dX8_used_96 rfl ?_
      refine po_iconst (v := 2) hF dX8_used_98 (by decide) ?_
      obtain ⟨x2, hx2, hm⟩ := po_bind hm
      refine po_callV (As := [.int l5, .int 2]) hF dX8_used_99 wq_1563 mv_X8_variancePart ws_X8_variancePart (show po_cl[8]? = some _ from rfl) rfl kl0 (c_X8_variancePart HL kl0 hx2) rfl (po_rtL hL rfl) (Nat.le_of_ble_eq_true rfl) rfl ?_
      refine po_icmp_ge (tgt := 110) hF dX8_used_102 (by decide) hm (fun hm => ?_) (fun hm => ?_)
      · refine po_sub (L' := [(0, .ref l0), (1, .int l1), (2, .int l2), (3, .int l3), (4, .int l4), (5, .int l5), (6, .int l6)]) rfl ?_
        exact w_X8_used_110 hF hL HL h6 l0 l1 l2 l3 l4 l5 l6 kl0 hm
      · refine po_sub (L' := [(0, .ref l0), (1, .int l1), (2, .int l2), (3, .int l3), (4, .int l4), (6, .int l6)]) rfl ?_
        exact w_X8_used_105 hF hL HL h6 l0 l1 l2 l3 l4 l6 kl0 hm
set_option maxRecDepth 20000 in
set_option maxHeartbeats 2000000 in
theorem w_X8_used_74 {X : po_X} {G : po_G} {st : Nat → Nat} {K : po_K} {I : po_I} {R : po_R} {ρ : Int32} {r6 : Nat → Int32 → Int32 → Int32 → Int32 → Int32 → Int32 → Option (Int32)} (hF : po_F X G cX8_used RX8 8 st) (hL : po_L X (some .int) 2 0 0 "used") (HL : po_Lay K R st) (h6 : ∀ (l0 : Nat) (l1 : Int32) (l2 : Int32) (l3 : Int32) (l4 : Int32) (l5 : Int32) (l6 : Int32), r6 l0 l1 l2 l3 l4 l5 l6 = some ρ → K l0 = (19, 19) → po_V X G 8 (po_Q X G (.inl (some (.int ρ))) K R I none 0 0) 0 0 6 [(0, .ref l0), (1, .int l1), (2, .int l2), (3, .int l3), (4, .int l4), (5, .int l5), (6, .int l6)] [] K R I none) (l0 : Nat) (l1 : Int32) (l2 : Int32) (l3 : Int32) (l4 : Int32) (l5 : Int32) (l6 : Int32) (kl0 : K l0 = (19, 19)) (hm : m_X8_used_74 I r6 l0 l1 l2 l3 l4 l5 l6 = some ρ) : po_V X G 8 (po_Q X G (.inl (some (.int ρ))) K R I none 0 0) 0 0 74 [(0, .ref l0), (1, .int l1), (2, .int l2), (3, .int l3), (4, .int l4), (5, .int l5), (6, .int l6)] [] K R I none := by
  unfold m_X8_used_74 at hm
  refine po_iconst (v := 0) hF dX8_used_74 (by decide) ?_
  exact w_X8_used_75 hF hL HL h6 l0 l1 l2 l3 l4 l5 l6 0 kl0 hm
set_option maxRecDepth 20000 in
set_option maxHeartbeats 2000000 in
theorem w_X8_used_6 {X : po_X} {G : po_G} {st : Nat → Nat} {K : po_K} {I : po_I} {R : po_R} {ρ : Int32} {r6 : Nat → Int32 → Int32 → Int32 → Int32 → Int32 → Int32 → Option (Int32)} (hF : po_F X G cX8_used RX8 8 st) (hL : po_L X (some .int) 2 0 0 "used") (HL : po_Lay K R st) (h6 : ∀ (l0 : Nat) (l1 : Int32) (l2 : Int32) (l3 : Int32) (l4 : Int32) (l5 : Int32) (l6 : Int32), r6 l0 l1 l2 l3 l4 l5 l6 = some ρ → K l0 = (19, 19) → po_V X G 8 (po_Q X G (.inl (some (.int ρ))) K R I none 0 0) 0 0 6 [(0, .ref l0), (1, .int l1), (2, .int l2), (3, .int l3), (4, .int l4), (5, .int l5), (6, .int l6)] [] K R I none) (l0 : Nat) (l1 : Int32) (l2 : Int32) (l3 : Int32) (l4 : Int32) (l5 : Int32) (l6 : Int32) (kl0 : K l0 = (19, 19)) (hm : m_X8_used_6 I r6 l0 l1 l2 l3 l4 l5 l6 = some ρ) : po_V X G 8 (po_Q X G (.inl (some (.int ρ))) K R I none 0 0) 0 0 6 [(0, .ref l0), (1, .int l1), (2, .int l2), (3, .int l3), (4, .int l4), (5, .int l5), (6, .int l6)] [] K R I none := by
  unfold m_X8_used_6 at hm
  refine po_iload hF dX8_used_6 rfl ?_
  refine po_aload_n hF dX8_used_8 rfl rfl ?_
  refine po_getf (v := .ref (l0 + 1)) hF dX8_used_9 fl_X8_13 kl0 (ly_8_1 HL kl0).1 ?_
  refine po_iconst (v := 3) hF dX8_used_12 (by decide) ?_
  refine po_ialdC (j := 3) hF dX8_used_13 ((ly_8_1 HL kl0).2) (Or.inl rfl) (by decide) (by decide) (by decide) ?_
  refine po_icmp_ge (tgt := 120) hF dX8_used_14 (by decide) hm (fun hm => ?_) (fun hm => ?_)
  · refine po_iload hF dX8_used_120 rfl ?_
    cases hm
    exact po_iret hF hL dX8_used_122 (by decide) (by decide) rfl rfl rfl (Or.inl rfl)
  · refine po_aload_n hF dX8_used_17 rfl rfl ?_
    refine po_iload hF dX8_used_18 rfl ?_
    obtain ⟨x3, hx3, hm⟩ := po_bind hm
    refine po_callV (As := [.int l6]) hF dX8_used_20 wq_1559 mv_X8_isInForce ws_X8_isInForce (show po_cl[8]? = some _ from rfl) rfl kl0 (c_X8_isInForce HL kl0 hx3) rfl (po_rtL hL rfl) (Nat.le_of_ble_eq_true rfl) rfl ?_
    refine po_if_eq (tgt := 74) hF dX8_used_23 (by decide) hm (fun hm => ?_) (fun hm => ?_)
    · exact w_X8_used_74 hF hL HL h6 l0 l1 l2 l3 l4 l5 l6 kl0 hm
    · refine po_aload_n hF dX8_used_26 rfl rfl ?_
      refine po_iload hF dX8_used_27 rfl ?_
      refine po_iconst (v := 0) hF dX8_used_29 (by decide) ?_
      obtain ⟨x4, hx4, hm⟩ := po_bind hm
      refine po_callV (As := [.int l6, .int 0]) hF dX8_used_30 wq_1563 mv_X8_variancePart ws_X8_variancePart (show po_cl[8]? = some _ from rfl) rfl kl0 (c_X8_variancePart HL kl0 hx4) rfl (po_rtL hL rfl) (Nat.le_of_ble_eq_true rfl) rfl ?_
      refine po_aload_n hF dX8_used_33 rfl rfl ?_
      refine po_iload_n hF dX8_used_34 rfl rfl ?_
      refine po_iconst (v := 0) hF dX8_used_35 (by decide) ?_
      obtain ⟨x5, hx5, hm⟩ := po_bind hm
      refine po_callV (As := [.int l1, .int 0]) hF dX8_used_36 wq_1380 mv_X8_at ws_X8_at (show po_cl[8]? = some _ from rfl) rfl kl0 (c_X8_at HL kl0 hx5) rfl (po_rtL hL rfl) (Nat.le_of_ble_eq_true rfl) rfl ?_
      refine po_icmp_ne (tgt := 74) hF dX8_used_39 (by decide) hm (fun hm => ?_) (fun hm => ?_)
      · exact w_X8_used_74 hF hL HL h6 l0 l1 l2 l3 l4 l5 l6 kl0 hm
      · refine po_aload_n hF dX8_used_42 rfl rfl ?_
        refine po_iload hF dX8_used_43 rfl ?_
        refine po_iconst (v := 1) hF dX8_used_45 (by decide) ?_
        obtain ⟨x6, hx6, hm⟩ := po_bind hm
        refine po_callV (As := [.int l6, .int 1]) hF dX8_used_46 wq_1563 mv_X8_variancePart ws_X8_variancePart (show po_cl[8]? = some _ from rfl) rfl kl0 (c_X8_variancePart HL kl0 hx6) rfl (po_rtL hL rfl) (Nat.le_of_ble_eq_true rfl) rfl ?_
        refine po_iload_n hF dX8_used_49 rfl rfl ?_
        refine po_icmp_ne (tgt := 74) hF dX8_used_50 (by decide) hm (fun hm => ?_) (fun hm => ?_)
        · exact w_X8_used_74 hF hL HL h6 l0 l1 l2 l3 l4 l5 l6 kl0 hm
        · refine po_iload_n hF dX8_used_53 rfl rfl ?_
          refine po_iload_n hF dX8_used_54 rfl rfl ?_
          refine po_iload hF dX8_used_55 rfl ?_
          refine po_aload_n hF dX8_used_57 rfl rfl ?_
          refine po_iload hF dX8_used_58 rfl ?_
          refine po_iconst (v := 2) hF dX8_used_60 (by decide) ?_
          obtain ⟨x7, hx7, hm⟩ := po_bind hm
          refine po_callV (As := [.int l6, .int 2]) hF dX8_used_61 wq_1563 mv_X8_variancePart ws_X8_variancePart (show po_cl[8]? = some _ from rfl) rfl kl0 (c_X8_variancePart HL kl0 hx7) rfl (po_rtL hL rfl) (Nat.le_of_ble_eq_true rfl) rfl ?_
          obtain ⟨x8, hx8, hm⟩ := po_bind hm
          refine po_callS (As := [.int l2, .int l3, .int l4, .int x7]) hF dX8_used_64 wq_1567 mv_X8_helps (c_X8_helps HL hx8) rfl (po_rtL hL rfl) (Nat.le_of_ble_eq_true rfl) rfl ?_
          refine po_if_eq (tgt := 74) hF dX8_used_67 (by decide) hm (fun hm => ?_) (fun hm => ?_)
          · exact w_X8_used_74 hF hL HL h6 l0 l1 l2 l3 l4 l5 l6 kl0 hm
          · refine po_iconst (v := 1) hF dX8_used_70 (by decide) ?_
            refine po_goto (tgt := 75) hF dX8_used_71 (by decide) ?_
            exact w_X8_used_75 hF hL HL h6 l0 l1 l2 l3 l4 l5 l6 1 kl0 hm
theorem w_X8_used_6L {X : po_X} {G : po_G} {st : Nat → Nat} {K : po_K} {I : po_I} {R : po_R} {ρ : Int32} (hF : po_F X G cX8_used RX8 8 st) (hL : po_L X (some .int) 2 0 0 "used") (HL : po_Lay K R st) : ∀ (n : Nat) (l0 : Nat) (l1 : Int32) (l2 : Int32) (l3 : Int32) (l4 : Int32) (l5 : Int32) (l6 : Int32), m_X8_used_6L I n l0 l1 l2 l3 l4 l5 l6 = some ρ → K l0 = (19, 19) → po_V X G 8 (po_Q X G (.inl (some (.int ρ))) K R I none 0 0) 0 0 6 [(0, .ref l0), (1, .int l1), (2, .int l2), (3, .int l3), (4, .int l4), (5, .int l5), (6, .int l6)] [] K R I none := by
  intro n
  induction n with
  | zero => intro l0 l1 l2 l3 l4 l5 l6 hm; cases hm
  | succ n ih => intro l0 l1 l2 l3 l4 l5 l6 hm kl0; exact w_X8_used_6 hF hL HL (ih) l0 l1 l2 l3 l4 l5 l6 kl0 hm
set_option maxRecDepth 20000 in
set_option maxHeartbeats 2000000 in
theorem w_X8_used_e {X : po_X} {G : po_G} {st : Nat → Nat} {K : po_K} {I : po_I} {R : po_R} {ρ : Int32} (hF : po_F X G cX8_used RX8 8 st) (hL : po_L X (some .int) 2 0 0 "used") (HL : po_Lay K R st) (l0 : Nat) (l1 : Int32) (l2 : Int32) (l3 : Int32) (l4 : Int32) (kl0 : K l0 = (19, 19)) (hm : m_X8_used_e I l0 l1 l2 l3 l4 = some ρ) : po_V X G 8 (po_Q X G (.inl (some (.int ρ))) K R I none 0 0) 0 0 0 [(0, .ref l0), (1, .int l1), (2, .int l2), (3, .int l3), (4, .int l4)] [] K R I none := by
  unfold m_X8_used_e at hm
  refine po_iconst (v := (-1)) hF dX8_used_0 (by decide) ?_
  refine po_istore (L' := [(5, .int (-1)), (0, .ref l0), (1, .int l1), (2, .int l2), (3, .int l3), (4, .int l4)]) hF dX8_used_1 (by decide) rfl ?_
  refine po_iconst (v := 0) hF dX8_used_3 (by decide) ?_
  refine po_istore (L' := [(6, .int 0), (5, .int (-1)), (0, .ref l0), (1, .int l1), (2, .int l2), (3, .int l3), (4, .int l4)]) hF dX8_used_4 (by decide) rfl ?_
  refine po_sub (L' := [(0, .ref l0), (1, .int l1), (2, .int l2), (3, .int l3), (4, .int l4), (5, .int (-1)), (6, .int 0)]) rfl ?_
  exact w_X8_used_6L hF hL HL 5000 l0 l1 l2 l3 l4 (-1) 0 hm kl0
theorem c_X8_used {K : po_K} {R : po_R} {I : po_I} {st : Nat → Nat} {ρ : Int32} (HL : po_Lay K R st) {l0 : Nat} {l1 : Int32} {l2 : Int32} {l3 : Int32} {l4 : Int32} (kl0 : K l0 = (19, 19)) (hm : m_X8_used I l0 l1 l2 l3 l4 = some ρ) : po_C st yX8_used cX8_used 8 (some .int) 2 0 0 [.ref l0, .int l1, .int l2, .int l3, .int l4] K R I none (.inl (some (.int ρ))) K R I none := by
  refine po_ofC (by decide +kernel) (Nat.le_of_ble_eq_true rfl) (fun X G hF hL => ?_)
  exact w_X8_used_e hF hL HL l0 l1 l2 l3 l4 kl0 hm
set_option maxRecDepth 20000 in
set_option maxHeartbeats 2000000 in
theorem w_X8_find_117 {X : po_X} {G : po_G} {st : Nat → Nat} {K : po_K} {R : po_R} {ρ : po_I} {r22 : po_I → Nat → Int32 → Int32 → Option (po_I)} (hF : po_F X G cX8_find RX8 6 st) (hL : po_L X none 7 0 0 "find") (HL : po_Lay K R st) (h22 : ∀ (I : po_I) (l0 : Nat) (l1 : Int32) (l2 : Int32), r22 I l0 l1 l2 = some ρ → K l0 = (19, 19) → po_V X G 6 (po_Q X G (.inl (none)) K R (ρ) none 0 0) 0 0 22 [(0, .ref l0), (1, .int l1), (2, .int l2)] [] K R I none) (I : po_I) (l0 : Nat) (l1 : Int32) (l2 : Int32) (kl0 : K l0 = (19, 19)) (hm : m_X8_find_117 r22 I l0 l1 l2 = some ρ) : po_V X G 6 (po_Q X G (.inl (none)) K R (ρ) none 0 0) 0 0 117 [(0, .ref l0), (1, .int l1), (2, .int l2)] [] K R I none := by
  unfold m_X8_find_117 at hm
  refine po_iinc (v := l2 + 1) (L' := [(2, .int (l2 + 1)), (0, .ref l0), (1, .int l1)]) hF dX8_find_117 rfl rfl (by decide) rfl ?_
  refine po_goto (tgt := 22) hF dX8_find_120 (by decide) ?_
  refine po_sub (L' := [(0, .ref l0), (1, .int l1), (2, .int (l2 + 1))]) rfl ?_
  exact h22 I l0 l1 (l2 + 1) hm kl0
set_option maxRecDepth 20000 in
set_option maxHeartbeats 2000000 in
theorem w_X8_find_22 {X : po_X} {G : po_G} {st : Nat → Nat} {K : po_K} {R : po_R} {ρ : po_I} {r22 : po_I → Nat → Int32 → Int32 → Option (po_I)} (hF : po_F X G cX8_find RX8 6 st) (hL : po_L X none 7 0 0 "find") (HL : po_Lay K R st) (h22 : ∀ (I : po_I) (l0 : Nat) (l1 : Int32) (l2 : Int32), r22 I l0 l1 l2 = some ρ → K l0 = (19, 19) → po_V X G 6 (po_Q X G (.inl (none)) K R (ρ) none 0 0) 0 0 22 [(0, .ref l0), (1, .int l1), (2, .int l2)] [] K R I none) (I : po_I) (l0 : Nat) (l1 : Int32) (l2 : Int32) (kl0 : K l0 = (19, 19)) (hm : m_X8_find_22 r22 I l0 l1 l2 = some ρ) : po_V X G 6 (po_Q X G (.inl (none)) K R (ρ) none 0 0) 0 0 22 [(0, .ref l0), (1, .int l1), (2, .int l2)] [] K R I none := by
  unfold m_X8_find_22 at hm
  refine po_iload_n hF dX8_find_22 rfl rfl ?_
  refine po_bipush (v := 9) hF dX8_find_23 (by decide) ?_
  refine po_icmp_ge (tgt := 123) hF dX8_find_25 (by decide) hm (fun hm => ?_) (fun hm => ?_)
  · cases hm
    exact po_vret hF hL dX8_find_123 (by decide) (by decide) rfl rfl rfl (Or.inl rfl)
  · refine po_aload_n hF dX8_find_28 rfl rfl ?_
    refine po_iload_n hF dX8_find_29 rfl rfl ?_
    refine po_iload_n hF dX8_find_30 rfl rfl ?_
    obtain ⟨x1, hx1, hm⟩ := po_bind hm
    refine po_callV (As := [.int l1, .int l2]) hF dX8_find_31 wq_1533 mv_X8_measure ws_X8_measure (show po_cl[8]? = some _ from rfl) rfl kl0 (c_X8_measure HL kl0 hx1) rfl (po_rtL hL rfl) (Nat.le_of_ble_eq_true rfl) rfl ?_
    refine po_istore_n (L' := [(3, .int x1), (0, .ref l0), (1, .int l1), (2, .int l2)]) hF dX8_find_34 rfl (by decide) rfl ?_
    refine po_aload_n hF dX8_find_35 rfl rfl ?_
    refine po_iload_n hF dX8_find_36 rfl rfl ?_
    refine po_iload_n hF dX8_find_37 rfl rfl ?_
    obtain ⟨x2, hx2, hm⟩ := po_bind hm
    refine po_callV (As := [.int l1, .int l2]) hF dX8_find_38 wq_1544 mv_X8_limit ws_X8_limit (show po_cl[8]? = some _ from rfl) rfl kl0 (c_X8_limit HL kl0 hx2) rfl (po_rtL hL rfl) (Nat.le_of_ble_eq_true rfl) rfl ?_
    refine po_istore (L' := [(4, .int x2), (3, .int x1), (0, .ref l0), (1, .int l1), (2, .int l2)]) hF dX8_find_41 (by decide) rfl ?_
    refine po_iload_n hF dX8_find_43 rfl rfl ?_
    refine po_iload_n hF dX8_find_44 rfl rfl ?_
    refine po_iload hF dX8_find_45 rfl ?_
    obtain ⟨x3, hx3, hm⟩ := po_bind hm
    refine po_callS (As := [.int l2, .int x1, .int x2]) hF dX8_find_47 wq_1552 mv_X8_isWrong (c_X8_isWrong HL hx3) rfl (po_rtL hL rfl) (Nat.le_of_ble_eq_true rfl) rfl ?_
    refine po_if_eq (tgt := 117) hF dX8_find_50 (by decide) hm (fun hm => ?_) (fun hm => ?_)
    · refine po_sub (L' := [(0, .ref l0), (1, .int l1), (2, .int l2)]) rfl ?_
      exact w_X8_find_117 hF hL HL h22 I l0 l1 l2 kl0 hm
    · refine po_aload_n hF dX8_find_53 rfl rfl ?_
      refine po_dup hF dX8_find_54 rfl ?_
      refine po_getf (v := .int (I l0 7)) hF dX8_find_55 fl_X8_139 kl0 rfl ?_
      refine po_iconst (v := 1) hF dX8_find_58 (by decide) ?_
      refine po_iload_n hF dX8_find_59 rfl rfl ?_
      refine po_ishl hF dX8_find_60 ?_
      refine po_ior hF dX8_find_61 ?_
      refine po_puti hF dX8_find_62 fl_X8_139 kl0 (by intro r h; cases h; rfl) rfl rfl (fun _ => rfl) rfl ?_
      refine po_hname hm (fun I4 hm => ?_)
      refine po_aload_n hF dX8_find_65 rfl rfl ?_
      refine po_iload_n hF dX8_find_66 rfl rfl ?_
      refine po_iload_n hF dX8_find_67 rfl rfl ?_
      refine po_iload_n hF dX8_find_68 rfl rfl ?_
      refine po_iload hF dX8_find_69 rfl ?_
      obtain ⟨x5, hx5, hm⟩ := po_bind hm
      refine po_callV (As := [.int l1, .int l2, .int x1, .int x2]) hF dX8_find_71 wq_1555 mv_X8_used ws_X8_used (show po_cl[8]? = some _ from rfl) rfl kl0 (c_X8_used HL kl0 hx5) rfl (po_rtL hL rfl) (Nat.le_of_ble_eq_true rfl) rfl ?_
      refine po_istore (L' := [(5, .int x5), (4, .int x2), (3, .int x1), (0, .ref l0), (1, .int l1), (2, .int l2)]) hF dX8_find_74 (by decide) rfl ?_
      refine po_iload hF dX8_find_76 rfl ?_
      refine po_iconst (v := (-1)) hF dX8_find_78 (by decide) ?_
      refine po_icmp_eq (tgt := 117) hF dX8_find_79 (by decide) hm (fun hm => ?_) (fun hm => ?_)
      · refine po_sub (L' := [(0, .ref l0), (1, .int l1), (2, .int l2)]) rfl ?_
        exact w_X8_find_117 hF hL HL h22 I4 l0 l1 l2 kl0 hm
      · refine po_aload_n hF dX8_find_82 rfl rfl ?_
        refine po_dup hF dX8_find_83 rfl ?_
        refine po_getf (v := .int (I4 l0 8)) hF dX8_find_84 fl_X8_142 kl0 rfl ?_
        refine po_iconst (v := 1) hF dX8_find_87 (by decide) ?_
        refine po_iload_n hF dX8_find_88 rfl rfl ?_
        refine po_ishl hF dX8_find_89 ?_
        refine po_ior hF dX8_find_90 ?_
        refine po_puti hF dX8_find_91 fl_X8_142 kl0 (by intro r h; cases h; rfl) rfl rfl (fun _ => rfl) rfl ?_
        refine po_hname hm (fun I6 hm => ?_)
        refine po_aload_n hF dX8_find_94 rfl rfl ?_
        refine po_dup hF dX8_find_95 rfl ?_
        refine po_getf (v := .int (I6 l0 9)) hF dX8_find_96 fl_X8_145 kl0 rfl ?_
        refine po_iconst (v := 1) hF dX8_find_99 (by decide) ?_
        refine po_iload hF dX8_find_100 rfl ?_
        refine po_ishl hF dX8_find_102 ?_
        refine po_ior hF dX8_find_103 ?_
        refine po_puti hF dX8_find_104 fl_X8_145 kl0 (by intro r h; cases h; rfl) rfl rfl (fun _ => rfl) rfl ?_
        refine po_hname hm (fun I7 hm => ?_)
        refine po_aload_n hF dX8_find_107 rfl rfl ?_
        refine po_dup hF dX8_find_108 rfl ?_
        refine po_getf (v := .int (I7 l0 10)) hF dX8_find_109 fl_X8_148 kl0 rfl ?_
        refine po_iconst (v := 1) hF dX8_find_112 (by decide) ?_
        refine po_iadd hF dX8_find_113 ?_
        refine po_puti hF dX8_find_114 fl_X8_148 kl0 (by intro r h; cases h; rfl) rfl rfl (fun _ => rfl) rfl ?_
        refine po_hname hm (fun I8 hm => ?_)
        refine po_sub (L' := [(0, .ref l0), (1, .int l1), (2, .int l2)]) rfl ?_
        exact w_X8_find_117 hF hL HL h22 I8 l0 l1 l2 kl0 hm
theorem w_X8_find_22L {X : po_X} {G : po_G} {st : Nat → Nat} {K : po_K} {R : po_R} {ρ : po_I} (hF : po_F X G cX8_find RX8 6 st) (hL : po_L X none 7 0 0 "find") (HL : po_Lay K R st) : ∀ (n : Nat) (I : po_I) (l0 : Nat) (l1 : Int32) (l2 : Int32), m_X8_find_22L n I l0 l1 l2 = some ρ → K l0 = (19, 19) → po_V X G 6 (po_Q X G (.inl (none)) K R (ρ) none 0 0) 0 0 22 [(0, .ref l0), (1, .int l1), (2, .int l2)] [] K R I none := by
  intro n
  induction n with
  | zero => intro I l0 l1 l2 hm; cases hm
  | succ n ih => intro I l0 l1 l2 hm kl0; exact w_X8_find_22 hF hL HL (ih) I l0 l1 l2 kl0 hm
set_option maxRecDepth 20000 in
set_option maxHeartbeats 2000000 in
theorem w_X8_find_e {X : po_X} {G : po_G} {st : Nat → Nat} {K : po_K} {R : po_R} {ρ : po_I} (hF : po_F X G cX8_find RX8 6 st) (hL : po_L X none 7 0 0 "find") (HL : po_Lay K R st) (I : po_I) (l0 : Nat) (l1 : Int32) (kl0 : K l0 = (19, 19)) (hm : m_X8_find_e I l0 l1 = some ρ) : po_V X G 6 (po_Q X G (.inl (none)) K R (ρ) none 0 0) 0 0 0 [(0, .ref l0), (1, .int l1)] [] K R I none := by
  unfold m_X8_find_e at hm
  refine po_aload_n hF dX8_find_0 rfl rfl ?_
  refine po_iconst (v := 0) hF dX8_find_1 (by decide) ?_
  refine po_puti hF dX8_find_2 fl_X8_139 kl0 (by intro r h; cases h; rfl) rfl rfl (fun _ => rfl) rfl ?_
  refine po_hname hm (fun I9 hm => ?_)
  refine po_aload_n hF dX8_find_5 rfl rfl ?_
  refine po_iconst (v := 0) hF dX8_find_6 (by decide) ?_
  refine po_puti hF dX8_find_7 fl_X8_142 kl0 (by intro r h; cases h; rfl) rfl rfl (fun _ => rfl) rfl ?_
  refine po_hname hm (fun I10 hm => ?_)
  refine po_aload_n hF dX8_find_10 rfl rfl ?_
  refine po_iconst (v := 0) hF dX8_find_11 (by decide) ?_
  refine po_puti hF dX8_find_12 fl_X8_145 kl0 (by intro r h; cases h; rfl) rfl rfl (fun _ => rfl) rfl ?_
  refine po_hname hm (fun I11 hm => ?_)
  refine po_aload_n hF dX8_find_15 rfl rfl ?_
  refine po_iconst (v := 0) hF dX8_find_16 (by decide) ?_
  refine po_puti hF dX8_find_17 fl_X8_148 kl0 (by intro r h; cases h; rfl) rfl rfl (fun _ => rfl) rfl ?_
  refine po_hname hm (fun I12 hm => ?_)
  refine po_iconst (v := 0) hF dX8_find_20 (by decide) ?_
  refine po_istore_n (L' := [(2, .int 0), (0, .ref l0), (1, .int l1)]) hF dX8_find_21 rfl (by decide) rfl ?_
  refine po_sub (L' := [(0, .ref l0), (1, .int l1), (2, .int 0)]) rfl ?_
  exact w_X8_find_22L hF hL HL 5000 I12 l0 l1 0 hm kl0
theorem c_X8_find {K : po_K} {R : po_R} {I : po_I} {st : Nat → Nat} {ρ : po_I} (HL : po_Lay K R st) {l0 : Nat} {l1 : Int32} (kl0 : K l0 = (19, 19)) (hm : m_X8_find I l0 l1 = some ρ) : po_C st yX8_find cX8_find 6 none 7 0 0 [.ref l0, .int l1] K R I none (.inl (none)) K R (ρ) none := by
  refine po_ofC (by decide +kernel) (Nat.le_of_ble_eq_true rfl) (fun X G hF hL => ?_)
  exact w_X8_find_e hF hL HL I l0 l1 kl0 hm
set_option maxRecDepth 20000 in
set_option maxHeartbeats 2000000 in
theorem w_X8_findings_39 {X : po_X} {G : po_G} {st : Nat → Nat} {K : po_K} {R : po_R} {ρ : Int32 × po_I} (hF : po_F X G cX8_findings RX8 3 st) (hL : po_L X (some .int) 8 0 0 "findings") (HL : po_Lay K R st) (I : po_I) (s0 : Int32) (hm : m_X8_findings_39 I s0 = some ρ) : po_V X G 3 (po_Q X G (.inl (some (.int ρ.1))) K R (ρ.2) none 0 0) 0 0 39 [] [.int s0] K R I none := by
  unfold m_X8_findings_39 at hm
  cases hm
  exact po_iret hF hL dX8_findings_39 (by decide) (by decide) rfl rfl rfl (Or.inl rfl)
set_option maxRecDepth 20000 in
set_option maxHeartbeats 2000000 in
theorem w_X8_findings_e {X : po_X} {G : po_G} {st : Nat → Nat} {K : po_K} {R : po_R} {ρ : Int32 × po_I} (hF : po_F X G cX8_findings RX8 3 st) (hL : po_L X (some .int) 8 0 0 "findings") (HL : po_Lay K R st) (I : po_I) (l0 : Nat) (l1 : Int32) (l2 : Int32) (kl0 : K l0 = (19, 19)) (hm : m_X8_findings_e I l0 l1 l2 = some ρ) : po_V X G 3 (po_Q X G (.inl (some (.int ρ.1))) K R (ρ.2) none 0 0) 0 0 0 [(0, .ref l0), (1, .int l1), (2, .int l2)] [] K R I none := by
  unfold m_X8_findings_e at hm
  refine po_aload_n hF dX8_findings_0 rfl rfl ?_
  refine po_iconst (v := 0) hF dX8_findings_1 (by decide) ?_
  refine po_puti hF dX8_findings_2 fl_X8_1 kl0 (by intro r h; cases h; rfl) rfl rfl (fun _ => rfl) rfl ?_
  refine po_hname hm (fun I1 hm => ?_)
  refine po_aload_n hF dX8_findings_5 rfl rfl ?_
  refine po_iload_n hF dX8_findings_6 rfl rfl ?_
  obtain ⟨x2, hx2, hm⟩ := po_bind hm
  refine po_callV (As := [.int l1]) hF dX8_findings_7 wq_1513 mv_X8_isPermit ws_X8_isPermit (show po_cl[8]? = some _ from rfl) rfl kl0 (c_X8_isPermit HL kl0 hx2) rfl (po_rtL hL rfl) (Nat.le_of_ble_eq_true rfl) rfl ?_
  refine po_if_ne (tgt := 19) hF dX8_findings_10 (by decide) hm (fun hm => ?_) (fun hm => ?_)
  · refine po_aload_n hF dX8_findings_19 rfl rfl ?_
    refine po_iload_n hF dX8_findings_20 rfl rfl ?_
    obtain ⟨x3, hx3, hm⟩ := po_bind hm
    refine po_callV (As := [.int l1]) hF dX8_findings_21 wq_1529 mv_X8_find ws_X8_find (show po_cl[8]? = some _ from rfl) rfl kl0 (c_X8_find HL kl0 hx3) rfl (po_rtL hL rfl) (Nat.le_of_ble_eq_true rfl) rfl ?_
    refine po_iload_n hF dX8_findings_24 rfl rfl ?_
    refine po_if_eq (tgt := 35) hF dX8_findings_25 (by decide) hm (fun hm => ?_) (fun hm => ?_)
    · refine po_aload_n hF dX8_findings_35 rfl rfl ?_
      refine po_getf (v := .int (x3 l0 7)) hF dX8_findings_36 fl_X8_139 kl0 rfl ?_
      refine po_sub (L' := []) rfl ?_
      exact w_X8_findings_39 hF hL HL x3 (x3 l0 7) hm
    · refine po_aload_n hF dX8_findings_28 rfl rfl ?_
      refine po_getf (v := .int (x3 l0 8)) hF dX8_findings_29 fl_X8_142 kl0 rfl ?_
      refine po_goto (tgt := 39) hF dX8_findings_32 (by decide) ?_
      refine po_sub (L' := []) rfl ?_
      exact w_X8_findings_39 hF hL HL x3 (x3 l0 8) hm
  · refine po_aload_n hF dX8_findings_13 rfl rfl ?_
    refine po_iconst (v := 1) hF dX8_findings_14 (by decide) ?_
    obtain ⟨x4, hx4, hm⟩ := po_bind hm
    refine po_callV (As := [.int 1]) hF dX8_findings_15 wq_1285 mv_X8_fail ws_X8_fail (show po_cl[8]? = some _ from rfl) rfl kl0 (c_X8_fail HL kl0 hx4) rfl (po_rtL hL rfl) (Nat.le_of_ble_eq_true rfl) rfl ?_
    cases hm
    exact po_iret hF hL dX8_findings_18 (by decide) (by decide) rfl rfl rfl (Or.inl rfl)
theorem c_X8_findings {K : po_K} {R : po_R} {I : po_I} {st : Nat → Nat} {ρ : Int32 × po_I} (HL : po_Lay K R st) {l0 : Nat} {l1 : Int32} {l2 : Int32} (kl0 : K l0 = (19, 19)) (hm : m_X8_findings I l0 l1 l2 = some ρ) : po_C st yX8_findings cX8_findings 3 (some .int) 8 0 0 [.ref l0, .int l1, .int l2] K R I none (.inl (some (.int ρ.1))) K R (ρ.2) none := by
  refine po_ofC (by decide +kernel) (Nat.le_of_ble_eq_true rfl) (fun X G hF hL => ?_)
  exact w_X8_findings_e hF hL HL I l0 l1 l2 kl0 hm
set_option maxRecDepth 20000 in
set_option maxHeartbeats 2000000 in
theorem w_X8_finding_109 {X : po_X} {G : po_G} {st : Nat → Nat} {K : po_K} {R : po_R} {ρ : Int32 × po_I} (hF : po_F X G cX8_finding RX8 6 st) (hL : po_L X (some .int) 7 0 0 "finding") (HL : po_Lay K R st) (I : po_I) (s0 : Int32) (hm : m_X8_finding_109 I s0 = some ρ) : po_V X G 6 (po_Q X G (.inl (some (.int ρ.1))) K R (ρ.2) none 0 0) 0 0 109 [] [.int s0] K R I none := by
  unfold m_X8_finding_109 at hm
  cases hm
  exact po_iret hF hL dX8_finding_109 (by decide) (by decide) rfl rfl rfl (Or.inl rfl)
set_option maxRecDepth 20000 in
set_option maxHeartbeats 2000000 in
theorem w_X8_finding_37 {X : po_X} {G : po_G} {st : Nat → Nat} {K : po_K} {R : po_R} {ρ : Int32 × po_I} (hF : po_F X G cX8_finding RX8 6 st) (hL : po_L X (some .int) 7 0 0 "finding") (HL : po_Lay K R st) (I : po_I) (l0 : Nat) (l1 : Int32) (l2 : Int32) (l3 : Int32) (s0 : Nat) (s1 : Int32) (kl0 : K l0 = (19, 19)) (ks0 : K s0 = (19, 19)) (hm : m_X8_finding_37 I l0 l1 l2 l3 s0 s1 = some ρ) : po_V X G 6 (po_Q X G (.inl (some (.int ρ.1))) K R (ρ.2) none 0 0) 0 0 37 [(0, .ref l0), (1, .int l1), (2, .int l2), (3, .int l3)] [.int s1, .ref s0] K R I none := by
  unfold m_X8_finding_37 at hm
  refine po_puti hF dX8_finding_37 fl_X8_1 ks0 (by intro r h; cases h; rfl) rfl rfl (fun _ => rfl) rfl ?_
  refine po_hname hm (fun I1 hm => ?_)
  refine po_aload_n hF dX8_finding_40 rfl rfl ?_
  refine po_getf (v := .int (I1 l0 0)) hF dX8_finding_41 fl_X8_1 kl0 rfl ?_
  refine po_if_eq (tgt := 49) hF dX8_finding_44 (by decide) hm (fun hm => ?_) (fun hm => ?_)
  · refine po_aload_n hF dX8_finding_49 rfl rfl ?_
    refine po_iload_n hF dX8_finding_50 rfl rfl ?_
    refine po_iload_n hF dX8_finding_51 rfl rfl ?_
    obtain ⟨x2, hx2, hm⟩ := po_bind hm
    refine po_callV (As := [.int l1, .int l2]) hF dX8_finding_52 wq_1533 mv_X8_measure ws_X8_measure (show po_cl[8]? = some _ from rfl) rfl kl0 (c_X8_measure HL kl0 hx2) rfl (po_rtL hL rfl) (Nat.le_of_ble_eq_true rfl) rfl ?_
    refine po_istore (L' := [(4, .int x2), (0, .ref l0), (1, .int l1), (2, .int l2), (3, .int l3)]) hF dX8_finding_55 (by decide) rfl ?_
    refine po_aload_n hF dX8_finding_57 rfl rfl ?_
    refine po_iload_n hF dX8_finding_58 rfl rfl ?_
    refine po_iload_n hF dX8_finding_59 rfl rfl ?_
    obtain ⟨x3, hx3, hm⟩ := po_bind hm
    refine po_callV (As := [.int l1, .int l2]) hF dX8_finding_60 wq_1544 mv_X8_limit ws_X8_limit (show po_cl[8]? = some _ from rfl) rfl kl0 (c_X8_limit HL kl0 hx3) rfl (po_rtL hL rfl) (Nat.le_of_ble_eq_true rfl) rfl ?_
    refine po_istore (L' := [(5, .int x3), (4, .int x2), (0, .ref l0), (1, .int l1), (2, .int l2), (3, .int l3)]) hF dX8_finding_63 (by decide) rfl ?_
    refine po_iload_n hF dX8_finding_65 rfl rfl ?_
    refine po_if_ne (tgt := 74) hF dX8_finding_66 (by decide) hm (fun hm => ?_) (fun hm => ?_)
    · refine po_iload_n hF dX8_finding_74 rfl rfl ?_
      refine po_iconst (v := 1) hF dX8_finding_75 (by decide) ?_
      refine po_icmp_ne (tgt := 84) hF dX8_finding_76 (by decide) hm (fun hm => ?_) (fun hm => ?_)
      · refine po_iload_n hF dX8_finding_84 rfl rfl ?_
        refine po_iload hF dX8_finding_85 rfl ?_
        refine po_iload hF dX8_finding_87 rfl ?_
        obtain ⟨x4, hx4, hm⟩ := po_bind hm
        refine po_callS (As := [.int l2, .int x2, .int x3]) hF dX8_finding_89 wq_1552 mv_X8_isWrong (c_X8_isWrong HL hx4) rfl (po_rtL hL rfl) (Nat.le_of_ble_eq_true rfl) rfl ?_
        refine po_if_eq (tgt := 108) hF dX8_finding_92 (by decide) hm (fun hm => ?_) (fun hm => ?_)
        · refine po_iconst (v := (-1)) hF dX8_finding_108 (by decide) ?_
          refine po_sub (L' := []) rfl ?_
          exact w_X8_finding_109 hF hL HL I1 (-1) hm
        · refine po_aload_n hF dX8_finding_95 rfl rfl ?_
          refine po_iload_n hF dX8_finding_96 rfl rfl ?_
          refine po_iload_n hF dX8_finding_97 rfl rfl ?_
          refine po_iload hF dX8_finding_98 rfl ?_
          refine po_iload hF dX8_finding_100 rfl ?_
          obtain ⟨x5, hx5, hm⟩ := po_bind hm
          refine po_callV (As := [.int l1, .int l2, .int x2, .int x3]) hF dX8_finding_102 wq_1555 mv_X8_used ws_X8_used (show po_cl[8]? = some _ from rfl) rfl kl0 (c_X8_used HL kl0 hx5) rfl (po_rtL hL rfl) (Nat.le_of_ble_eq_true rfl) rfl ?_
          refine po_goto (tgt := 109) hF dX8_finding_105 (by decide) ?_
          refine po_sub (L' := []) rfl ?_
          exact w_X8_finding_109 hF hL HL I1 x5 hm
      · refine po_iload hF dX8_finding_79 rfl ?_
        refine po_goto (tgt := 109) hF dX8_finding_81 (by decide) ?_
        refine po_sub (L' := []) rfl ?_
        exact w_X8_finding_109 hF hL HL I1 x3 hm
    · refine po_iload hF dX8_finding_69 rfl ?_
      refine po_goto (tgt := 109) hF dX8_finding_71 (by decide) ?_
      refine po_sub (L' := []) rfl ?_
      exact w_X8_finding_109 hF hL HL I1 x2 hm
  · refine po_iconst (v := 0) hF dX8_finding_47 (by decide) ?_
    cases hm
    exact po_iret hF hL dX8_finding_48 (by decide) (by decide) rfl rfl rfl (Or.inl rfl)
set_option maxRecDepth 20000 in
set_option maxHeartbeats 2000000 in
theorem w_X8_finding_32 {X : po_X} {G : po_G} {st : Nat → Nat} {K : po_K} {R : po_R} {ρ : Int32 × po_I} (hF : po_F X G cX8_finding RX8 6 st) (hL : po_L X (some .int) 7 0 0 "finding") (HL : po_Lay K R st) (I : po_I) (l0 : Nat) (l1 : Int32) (l2 : Int32) (l3 : Int32) (s0 : Nat) (kl0 : K l0 = (19, 19)) (ks0 : K s0 = (19, 19)) (hm : m_X8_finding_32 I l0 l1 l2 l3 s0 = some ρ) : po_V X G 6 (po_Q X G (.inl (some (.int ρ.1))) K R (ρ.2) none 0 0) 0 0 32 [(0, .ref l0), (1, .int l1), (2, .int l2), (3, .int l3)] [.ref s0] K R I none := by
  unfold m_X8_finding_32 at hm
  refine po_iconst (v := 2) hF dX8_finding_32 (by decide) ?_
  refine po_goto (tgt := 37) hF dX8_finding_33 (by decide) ?_
  exact w_X8_finding_37 hF hL HL I l0 l1 l2 l3 s0 2 kl0 ks0 hm
set_option maxRecDepth 20000 in
set_option maxHeartbeats 2000000 in
theorem w_X8_finding_e {X : po_X} {G : po_G} {st : Nat → Nat} {K : po_K} {R : po_R} {ρ : Int32 × po_I} (hF : po_F X G cX8_finding RX8 6 st) (hL : po_L X (some .int) 7 0 0 "finding") (HL : po_Lay K R st) (I : po_I) (l0 : Nat) (l1 : Int32) (l2 : Int32) (l3 : Int32) (kl0 : K l0 = (19, 19)) (hm : m_X8_finding_e I l0 l1 l2 l3 = some ρ) : po_V X G 6 (po_Q X G (.inl (some (.int ρ.1))) K R (ρ.2) none 0 0) 0 0 0 [(0, .ref l0), (1, .int l1), (2, .int l2), (3, .int l3)] [] K R I none := by
  unfold m_X8_finding_e at hm
  refine po_aload_n hF dX8_finding_0 rfl rfl ?_
  refine po_aload_n hF dX8_finding_1 rfl rfl ?_
  refine po_iload_n hF dX8_finding_2 rfl rfl ?_
  obtain ⟨x6, hx6, hm⟩ := po_bind hm
  refine po_callV (As := [.int l1]) hF dX8_finding_3 wq_1513 mv_X8_isPermit ws_X8_isPermit (show po_cl[8]? = some _ from rfl) rfl kl0 (c_X8_isPermit HL kl0 hx6) rfl (po_rtL hL rfl) (Nat.le_of_ble_eq_true rfl) rfl ?_
  refine po_if_ne (tgt := 13) hF dX8_finding_6 (by decide) hm (fun hm => ?_) (fun hm => ?_)
  · refine po_iload_n hF dX8_finding_13 rfl rfl ?_
    refine po_iconst (v := 0) hF dX8_finding_14 (by decide) ?_
    refine po_bipush (v := 8) hF dX8_finding_15 (by decide) ?_
    obtain ⟨x7, hx7, hm⟩ := po_bind hm
    refine po_callS (As := [.int l2, .int 0, .int 8]) hF dX8_finding_17 wq_1282 mv_X8_isIn (c_X8_isIn HL hx7) rfl (po_rtL hL rfl) (Nat.le_of_ble_eq_true rfl) rfl ?_
    refine po_if_eq (tgt := 32) hF dX8_finding_20 (by decide) hm (fun hm => ?_) (fun hm => ?_)
    · exact w_X8_finding_32 hF hL HL I l0 l1 l2 l3 l0 kl0 kl0 hm
    · refine po_iload_n hF dX8_finding_23 rfl rfl ?_
      refine po_iconst (v := 0) hF dX8_finding_24 (by decide) ?_
      refine po_iconst (v := 2) hF dX8_finding_25 (by decide) ?_
      obtain ⟨x8, hx8, hm⟩ := po_bind hm
      refine po_callS (As := [.int l3, .int 0, .int 2]) hF dX8_finding_26 wq_1282 mv_X8_isIn (c_X8_isIn HL hx8) rfl (po_rtL hL rfl) (Nat.le_of_ble_eq_true rfl) rfl ?_
      refine po_if_ne (tgt := 36) hF dX8_finding_29 (by decide) hm (fun hm => ?_) (fun hm => ?_)
      · refine po_iconst (v := 0) hF dX8_finding_36 (by decide) ?_
        exact w_X8_finding_37 hF hL HL I l0 l1 l2 l3 l0 0 kl0 kl0 hm
      · exact w_X8_finding_32 hF hL HL I l0 l1 l2 l3 l0 kl0 kl0 hm
  · refine po_iconst (v := 1) hF dX8_finding_9 (by decide) ?_
    refine po_goto (tgt := 37) hF dX8_finding_10 (by decide) ?_
    exact w_X8_finding_37 hF hL HL I l0 l1 l2 l3 l0 1 kl0 kl0 hm
theorem c_X8_finding {K : po_K} {R : po_R} {I : po_I} {st : Nat → Nat} {ρ : Int32 × po_I} (HL : po_Lay K R st) {l0 : Nat} {l1 : Int32} {l2 : Int32} {l3 : Int32} (kl0 : K l0 = (19, 19)) (hm : m_X8_finding I l0 l1 l2 l3 = some ρ) : po_C st yX8_finding cX8_finding 6 (some .int) 7 0 0 [.ref l0, .int l1, .int l2, .int l3] K R I none (.inl (some (.int ρ.1))) K R (ρ.2) none := by
  refine po_ofC (by decide +kernel) (Nat.le_of_ble_eq_true rfl) (fun X G hF hL => ?_)
  exact w_X8_finding_e hF hL HL I l0 l1 l2 l3 kl0 hm
set_option maxRecDepth 20000 in
set_option maxHeartbeats 2000000 in
theorem w_X8_bits_4 {X : po_X} {G : po_G} {st : Nat → Nat} {K : po_K} {I : po_I} {R : po_R} {ρ : Int32} {r4 : Int32 → Int32 → Option (Int32)} (hF : po_F X G cX8_bits RX8 3 st) (hL : po_L X (some .int) 0 0 0 "bits") (HL : po_Lay K R st) (h4 : ∀ (l1 : Int32) (l2 : Int32), r4 l1 l2 = some ρ → po_V X G 3 (po_Q X G (.inl (some (.int ρ))) K R I none 0 0) 0 0 4 [(1, .int l1), (2, .int l2)] [] K R I none) (l1 : Int32) (l2 : Int32) (hm : m_X8_bits_4 r4 l1 l2 = some ρ) : po_V X G 3 (po_Q X G (.inl (some (.int ρ))) K R I none 0 0) 0 0 4 [(1, .int l1), (2, .int l2)] [] K R I none := by
  unfold m_X8_bits_4 at hm
  refine po_iload_n hF dX8_bits_4 rfl rfl ?_
  refine po_if_eq (tgt := 20) hF dX8_bits_5 (by decide) hm (fun hm => ?_) (fun hm => ?_)
  · refine po_iload_n hF dX8_bits_20 rfl rfl ?_
    cases hm
    exact po_iret hF hL dX8_bits_21 (by decide) (by decide) rfl rfl rfl (Or.inl rfl)
  · refine po_iinc (v := l1 + 1) (L' := [(1, .int (l1 + 1)), (2, .int l2)]) hF dX8_bits_8 rfl rfl (by decide) rfl ?_
    refine po_iload_n hF dX8_bits_11 rfl rfl ?_
    refine po_iload_n hF dX8_bits_12 rfl rfl ?_
    refine po_iconst (v := 1) hF dX8_bits_13 (by decide) ?_
    refine po_isub hF dX8_bits_14 ?_
    refine po_iand hF dX8_bits_15 ?_
    refine po_top hm (fun v1 hm => ?_)
    refine po_istore_n (L' := [(2, .int v1), (1, .int (l1 + 1))]) hF dX8_bits_16 rfl (by decide) rfl ?_
    refine po_goto (tgt := 4) hF dX8_bits_17 (by decide) ?_
    refine po_sub (L' := [(1, .int (l1 + 1)), (2, .int v1)]) rfl ?_
    exact h4 (l1 + 1) v1 hm
theorem w_X8_bits_4L {X : po_X} {G : po_G} {st : Nat → Nat} {K : po_K} {I : po_I} {R : po_R} {ρ : Int32} (hF : po_F X G cX8_bits RX8 3 st) (hL : po_L X (some .int) 0 0 0 "bits") (HL : po_Lay K R st) : ∀ (n : Nat) (l1 : Int32) (l2 : Int32), m_X8_bits_4L n l1 l2 = some ρ → po_V X G 3 (po_Q X G (.inl (some (.int ρ))) K R I none 0 0) 0 0 4 [(1, .int l1), (2, .int l2)] [] K R I none := by
  intro n
  induction n with
  | zero => intro l1 l2 hm; cases hm
  | succ n ih => intro l1 l2 hm; exact w_X8_bits_4 hF hL HL (ih) l1 l2 hm
set_option maxRecDepth 20000 in
set_option maxHeartbeats 2000000 in
theorem w_X8_bits_e {X : po_X} {G : po_G} {st : Nat → Nat} {K : po_K} {I : po_I} {R : po_R} {ρ : Int32} (hF : po_F X G cX8_bits RX8 3 st) (hL : po_L X (some .int) 0 0 0 "bits") (HL : po_Lay K R st) (l0 : Int32) (hm : m_X8_bits_e l0 = some ρ) : po_V X G 3 (po_Q X G (.inl (some (.int ρ))) K R I none 0 0) 0 0 0 [(0, .int l0)] [] K R I none := by
  unfold m_X8_bits_e at hm
  refine po_iconst (v := 0) hF dX8_bits_0 (by decide) ?_
  refine po_istore_n (L' := [(1, .int 0), (0, .int l0)]) hF dX8_bits_1 rfl (by decide) rfl ?_
  refine po_iload_n hF dX8_bits_2 rfl rfl ?_
  refine po_istore_n (L' := [(2, .int l0), (1, .int 0), (0, .int l0)]) hF dX8_bits_3 rfl (by decide) rfl ?_
  refine po_sub (L' := [(1, .int 0), (2, .int l0)]) rfl ?_
  exact w_X8_bits_4L hF hL HL 5000 0 l0 hm
theorem c_X8_bits {K : po_K} {R : po_R} {I : po_I} {st : Nat → Nat} {ρ : Int32} (HL : po_Lay K R st) {l0 : Int32} (hm : m_X8_bits l0 = some ρ) : po_C st yX8_bits cX8_bits 3 (some .int) 0 0 0 [.int l0] K R I none (.inl (some (.int ρ))) K R I none := by
  refine po_ofC (by decide +kernel) (Nat.le_of_ble_eq_true rfl) (fun X G hF hL => ?_)
  exact w_X8_bits_e hF hL HL l0 hm
set_option maxRecDepth 20000 in
set_option maxHeartbeats 2000000 in
theorem w_X8_worst_89 {X : po_X} {G : po_G} {st : Nat → Nat} {K : po_K} {R : po_R} {ρ : Int32 × po_I} (hF : po_F X G cX8_worst RX8 5 st) (hL : po_L X (some .int) 8 0 0 "worst") (HL : po_Lay K R st) (I : po_I) (s0 : Int32) (hm : m_X8_worst_89 I s0 = some ρ) : po_V X G 5 (po_Q X G (.inl (some (.int ρ.1))) K R (ρ.2) none 0 0) 0 0 89 [] [.int s0] K R I none := by
  unfold m_X8_worst_89 at hm
  cases hm
  exact po_iret hF hL dX8_worst_89 (by decide) (by decide) rfl rfl rfl (Or.inl rfl)
set_option maxRecDepth 20000 in
set_option maxHeartbeats 2000000 in
theorem w_X8_worst_69 {X : po_X} {G : po_G} {st : Nat → Nat} {K : po_K} {R : po_R} {ρ : Int32 × po_I} {r11 : po_I → Nat → Int32 → Int32 → Int32 → Option (Int32 × po_I)} (hF : po_F X G cX8_worst RX8 5 st) (hL : po_L X (some .int) 8 0 0 "worst") (HL : po_Lay K R st) (h11 : ∀ (I : po_I) (l0 : Nat) (l1 : Int32) (l2 : Int32) (l3 : Int32), r11 I l0 l1 l2 l3 = some ρ → K l0 = (19, 19) → po_V X G 5 (po_Q X G (.inl (some (.int ρ.1))) K R (ρ.2) none 0 0) 0 0 11 [(0, .ref l0), (1, .int l1), (2, .int l2), (3, .int l3)] [] K R I none) (I : po_I) (l0 : Nat) (l1 : Int32) (l2 : Int32) (l3 : Int32) (kl0 : K l0 = (19, 19)) (hm : m_X8_worst_69 r11 I l0 l1 l2 l3 = some ρ) : po_V X G 5 (po_Q X G (.inl (some (.int ρ.1))) K R (ρ.2) none 0 0) 0 0 69 [(0, .ref l0), (1, .int l1), (2, .int l2), (3, .int l3)] [] K R I none := by
  unfold m_X8_worst_69 at hm
  refine po_iinc (v := l3 + 1) (L' := [(3, .int (l3 + 1)), (0, .ref l0), (1, .int l1), (2, .int l2)]) hF dX8_worst_69 rfl rfl (by decide) rfl ?_
  refine po_goto (tgt := 11) hF dX8_worst_72 (by decide) ?_
  refine po_sub (L' := [(0, .ref l0), (1, .int l1), (2, .int l2), (3, .int (l3 + 1))]) rfl ?_
  exact h11 I l0 l1 l2 (l3 + 1) hm kl0
set_option maxRecDepth 20000 in
set_option maxHeartbeats 2000000 in
theorem w_X8_worst_61 {X : po_X} {G : po_G} {st : Nat → Nat} {K : po_K} {R : po_R} {ρ : Int32 × po_I} {r11 : po_I → Nat → Int32 → Int32 → Int32 → Option (Int32 × po_I)} (hF : po_F X G cX8_worst RX8 5 st) (hL : po_L X (some .int) 8 0 0 "worst") (HL : po_Lay K R st) (h11 : ∀ (I : po_I) (l0 : Nat) (l1 : Int32) (l2 : Int32) (l3 : Int32), r11 I l0 l1 l2 l3 = some ρ → K l0 = (19, 19) → po_V X G 5 (po_Q X G (.inl (some (.int ρ.1))) K R (ρ.2) none 0 0) 0 0 11 [(0, .ref l0), (1, .int l1), (2, .int l2), (3, .int l3)] [] K R I none) (I : po_I) (l0 : Nat) (l2 : Int32) (l3 : Int32) (l4 : Int32) (s0 : Int32) (kl0 : K l0 = (19, 19)) (hm : m_X8_worst_61 r11 I l0 l2 l3 l4 s0 = some ρ) : po_V X G 5 (po_Q X G (.inl (some (.int ρ.1))) K R (ρ.2) none 0 0) 0 0 61 [(0, .ref l0), (2, .int l2), (3, .int l3), (4, .int l4)] [.int s0] K R I none := by
  unfold m_X8_worst_61 at hm
  refine po_istore_n (L' := [(1, .int s0), (0, .ref l0), (2, .int l2), (3, .int l3), (4, .int l4)]) hF dX8_worst_61 rfl (by decide) rfl ?_
  refine po_iload_n hF dX8_worst_62 rfl rfl ?_
  refine po_iload hF dX8_worst_63 rfl ?_
  refine po_max hF hL dX8_worst_65 wq_1492 ⟨wq_850, wq_106, wq_851⟩ (Nat.le_of_ble_eq_true rfl) (by decide) (by decide) (by decide) ?_
  refine po_top hm (fun v1 hm => ?_)
  refine po_istore_n (L' := [(2, .int v1), (1, .int s0), (0, .ref l0), (3, .int l3), (4, .int l4)]) hF dX8_worst_68 rfl (by decide) rfl ?_
  refine po_sub (L' := [(0, .ref l0), (1, .int s0), (2, .int v1), (3, .int l3)]) rfl ?_
  exact w_X8_worst_69 hF hL HL h11 I l0 s0 v1 l3 kl0 hm
set_option maxRecDepth 20000 in
set_option maxHeartbeats 2000000 in
theorem w_X8_worst_11 {X : po_X} {G : po_G} {st : Nat → Nat} {K : po_K} {R : po_R} {ρ : Int32 × po_I} {r11 : po_I → Nat → Int32 → Int32 → Int32 → Option (Int32 × po_I)} (hF : po_F X G cX8_worst RX8 5 st) (hL : po_L X (some .int) 8 0 0 "worst") (HL : po_Lay K R st) (h11 : ∀ (I : po_I) (l0 : Nat) (l1 : Int32) (l2 : Int32) (l3 : Int32), r11 I l0 l1 l2 l3 = some ρ → K l0 = (19, 19) → po_V X G 5 (po_Q X G (.inl (some (.int ρ.1))) K R (ρ.2) none 0 0) 0 0 11 [(0, .ref l0), (1, .int l1), (2, .int l2), (3, .int l3)] [] K R I none) (I : po_I) (l0 : Nat) (l1 : Int32) (l2 : Int32) (l3 : Int32) (kl0 : K l0 = (19, 19)) (hm : m_X8_worst_11 r11 I l0 l1 l2 l3 = some ρ) : po_V X G 5 (po_Q X G (.inl (some (.int ρ.1))) K R (ρ.2) none 0 0) 0 0 11 [(0, .ref l0), (1, .int l1), (2, .int l2), (3, .int l3)] [] K R I none := by
  unfold m_X8_worst_11 at hm
  refine po_iload_n hF dX8_worst_11 rfl rfl ?_
  refine po_aload_n hF dX8_worst_12 rfl rfl ?_
  refine po_getf (v := .ref (l0 + 1)) hF dX8_worst_13 fl_X8_13 kl0 (ly_8_1 HL kl0).1 ?_
  refine po_iconst (v := 2) hF dX8_worst_16 (by decide) ?_
  refine po_ialdC (j := 2) hF dX8_worst_17 ((ly_8_1 HL kl0).2) (Or.inl rfl) (by decide) (by decide) (by decide) ?_
  refine po_icmp_ge (tgt := 75) hF dX8_worst_18 (by decide) hm (fun hm => ?_) (fun hm => ?_)
  · refine po_iload_n hF dX8_worst_75 rfl rfl ?_
    refine po_iconst (v := (-1)) hF dX8_worst_76 (by decide) ?_
    refine po_icmp_ne (tgt := 88) hF dX8_worst_77 (by decide) hm (fun hm => ?_) (fun hm => ?_)
    · refine po_iload_n hF dX8_worst_88 rfl rfl ?_
      refine po_sub (L' := []) rfl ?_
      exact w_X8_worst_89 hF hL HL I l1 hm
    · refine po_aload_n hF dX8_worst_80 rfl rfl ?_
      refine po_iconst (v := 1) hF dX8_worst_81 (by decide) ?_
      obtain ⟨x2, hx2, hm⟩ := po_bind hm
      refine po_callV (As := [.int 1]) hF dX8_worst_82 wq_1285 mv_X8_fail ws_X8_fail (show po_cl[8]? = some _ from rfl) rfl kl0 (c_X8_fail HL kl0 hx2) rfl (po_rtL hL rfl) (Nat.le_of_ble_eq_true rfl) rfl ?_
      refine po_goto (tgt := 89) hF dX8_worst_85 (by decide) ?_
      refine po_sub (L' := []) rfl ?_
      exact w_X8_worst_89 hF hL HL (x2.2) (x2.1) hm
  · refine po_aload_n hF dX8_worst_21 rfl rfl ?_
    refine po_iload_n hF dX8_worst_22 rfl rfl ?_
    obtain ⟨x3, hx3, hm⟩ := po_bind hm
    refine po_callV (As := [.int l3]) hF dX8_worst_23 wq_1450 mv_X8_stands ws_X8_stands (show po_cl[8]? = some _ from rfl) rfl kl0 (c_X8_stands HL kl0 hx3) rfl (po_rtL hL rfl) (Nat.le_of_ble_eq_true rfl) rfl ?_
    refine po_if_eq (tgt := 69) hF dX8_worst_26 (by decide) hm (fun hm => ?_) (fun hm => ?_)
    · exact w_X8_worst_69 hF hL HL h11 I l0 l1 l2 l3 kl0 hm
    · refine po_aload_n hF dX8_worst_29 rfl rfl ?_
      refine po_iload_n hF dX8_worst_30 rfl rfl ?_
      obtain ⟨x4, hx4, hm⟩ := po_bind hm
      refine po_callV (As := [.int l3]) hF dX8_worst_31 wq_1529 mv_X8_find ws_X8_find (show po_cl[8]? = some _ from rfl) rfl kl0 (c_X8_find HL kl0 hx4) rfl (po_rtL hL rfl) (Nat.le_of_ble_eq_true rfl) rfl ?_
      refine po_aload_n hF dX8_worst_34 rfl rfl ?_
      refine po_getf (v := .int (x4 l0 7)) hF dX8_worst_35 fl_X8_139 kl0 rfl ?_
      refine po_aload_n hF dX8_worst_38 rfl rfl ?_
      refine po_getf (v := .int (x4 l0 8)) hF dX8_worst_39 fl_X8_142 kl0 rfl ?_
      refine po_iconst (v := (-1)) hF dX8_worst_42 (by decide) ?_
      refine po_ixor hF dX8_worst_43 ?_
      refine po_iand hF dX8_worst_44 ?_
      obtain ⟨x5, hx5, hm⟩ := po_bind hm
      refine po_callS (As := [.int ((x4 l0 7) &&& ((x4 l0 8) ^^^ (-1)))]) hF dX8_worst_45 wq_1578 mv_X8_bits (c_X8_bits HL hx5) rfl (po_rtL hL rfl) (Nat.le_of_ble_eq_true rfl) rfl ?_
      refine po_istore (L' := [(4, .int x5), (0, .ref l0), (1, .int l1), (2, .int l2), (3, .int l3)]) hF dX8_worst_48 (by decide) rfl ?_
      refine po_iload hF dX8_worst_50 rfl ?_
      refine po_iload_n hF dX8_worst_52 rfl rfl ?_
      refine po_icmp_le (tgt := 60) hF dX8_worst_53 (by decide) hm (fun hm => ?_) (fun hm => ?_)
      · refine po_iload_n hF dX8_worst_60 rfl rfl ?_
        refine po_sub (L' := [(0, .ref l0), (2, .int l2), (3, .int l3), (4, .int x5)]) rfl ?_
        exact w_X8_worst_61 hF hL HL h11 x4 l0 l2 l3 x5 l1 kl0 hm
      · refine po_iload_n hF dX8_worst_56 rfl rfl ?_
        refine po_goto (tgt := 61) hF dX8_worst_57 (by decide) ?_
        refine po_sub (L' := [(0, .ref l0), (2, .int l2), (3, .int l3), (4, .int x5)]) rfl ?_
        exact w_X8_worst_61 hF hL HL h11 x4 l0 l2 l3 x5 l3 kl0 hm
theorem w_X8_worst_11L {X : po_X} {G : po_G} {st : Nat → Nat} {K : po_K} {R : po_R} {ρ : Int32 × po_I} (hF : po_F X G cX8_worst RX8 5 st) (hL : po_L X (some .int) 8 0 0 "worst") (HL : po_Lay K R st) : ∀ (n : Nat) (I : po_I) (l0 : Nat) (l1 : Int32) (l2 : Int32) (l3 : Int32), m_X8_worst_11L n I l0 l1 l2 l3 = some ρ → K l0 = (19, 19) → po_V X G 5 (po_Q X G (.inl (some (.int ρ.1))) K R (ρ.2) none 0 0) 0 0 11 [(0, .ref l0), (1, .int l1), (2, .int l2), (3, .int l3)] [] K R I none := by
  intro n
  induction n with
  | zero => intro I l0 l1 l2 l3 hm; cases hm
  | succ n ih => intro I l0 l1 l2 l3 hm kl0; exact w_X8_worst_11 hF hL HL (ih) I l0 l1 l2 l3 kl0 hm
set_option maxRecDepth 20000 in
set_option maxHeartbeats 2000000 in
theorem w_X8_worst_e {X : po_X} {G : po_G} {st : Nat → Nat} {K : po_K} {R : po_R} {ρ : Int32 × po_I} (hF : po_F X G cX8_worst RX8 5 st) (hL : po_L X (some .int) 8 0 0 "worst") (HL : po_Lay K R st) (I : po_I) (l0 : Nat) (kl0 : K l0 = (19, 19)) (hm : m_X8_worst_e I l0 = some ρ) : po_V X G 5 (po_Q X G (.inl (some (.int ρ.1))) K R (ρ.2) none 0 0) 0 0 0 [(0, .ref l0)] [] K R I none := by
  unfold m_X8_worst_e at hm
  refine po_aload_n hF dX8_worst_0 rfl rfl ?_
  refine po_iconst (v := 0) hF dX8_worst_1 (by decide) ?_
  refine po_puti hF dX8_worst_2 fl_X8_1 kl0 (by intro r h; cases h; rfl) rfl rfl (fun _ => rfl) rfl ?_
  refine po_hname hm (fun I6 hm => ?_)
  refine po_iconst (v := (-1)) hF dX8_worst_5 (by decide) ?_
  refine po_istore_n (L' := [(1, .int (-1)), (0, .ref l0)]) hF dX8_worst_6 rfl (by decide) rfl ?_
  refine po_iconst (v := 0) hF dX8_worst_7 (by decide) ?_
  refine po_istore_n (L' := [(2, .int 0), (1, .int (-1)), (0, .ref l0)]) hF dX8_worst_8 rfl (by decide) rfl ?_
  refine po_iconst (v := 0) hF dX8_worst_9 (by decide) ?_
  refine po_istore_n (L' := [(3, .int 0), (2, .int 0), (1, .int (-1)), (0, .ref l0)]) hF dX8_worst_10 rfl (by decide) rfl ?_
  refine po_sub (L' := [(0, .ref l0), (1, .int (-1)), (2, .int 0), (3, .int 0)]) rfl ?_
  exact w_X8_worst_11L hF hL HL 5000 I6 l0 (-1) 0 0 hm kl0
theorem c_X8_worst {K : po_K} {R : po_R} {I : po_I} {st : Nat → Nat} {ρ : Int32 × po_I} (HL : po_Lay K R st) {l0 : Nat} (kl0 : K l0 = (19, 19)) (hm : m_X8_worst I l0 = some ρ) : po_C st yX8_worst cX8_worst 5 (some .int) 8 0 0 [.ref l0] K R I none (.inl (some (.int ρ.1))) K R (ρ.2) none := by
  refine po_ofC (by decide +kernel) (Nat.le_of_ble_eq_true rfl) (fun X G hF hL => ?_)
  exact w_X8_worst_e hF hL HL I l0 kl0 hm
set_option maxRecDepth 20000 in
set_option maxHeartbeats 2000000 in
theorem w_X8_pay_e {X : po_X} {G : po_G} {st : Nat → Nat} {K : po_K} {R : po_R} {ρ : po_I} (hF : po_F X G cX8_pay RX8 3 st) (hL : po_L X none 1 0 0 "pay") (HL : po_Lay K R st) (I : po_I) (l0 : Nat) (l1 : Int32) (l2 : Int32) (kl0 : K l0 = (19, 19)) (hm : m_X8_pay_e I l0 l1 l2 = some ρ) : po_V X G 3 (po_Q X G (.inl (none)) K R (ρ) none 0 0) 0 0 0 [(0, .ref l0), (1, .int l1), (2, .int l2)] [] K R I none := by
  unfold m_X8_pay_e at hm
  refine po_aload_n hF dX8_pay_0 rfl rfl ?_
  refine po_iload_n hF dX8_pay_1 rfl rfl ?_
  refine po_bipush (v := 25) hF dX8_pay_2 (by decide) ?_
  refine po_aload_n hF dX8_pay_4 rfl rfl ?_
  refine po_iload_n hF dX8_pay_5 rfl rfl ?_
  refine po_bipush (v := 25) hF dX8_pay_6 (by decide) ?_
  obtain ⟨x1, hx1, hm⟩ := po_bind hm
  refine po_callV (As := [.int l1, .int 25]) hF dX8_pay_8 wq_1380 mv_X8_at ws_X8_at (show po_cl[8]? = some _ from rfl) rfl kl0 (c_X8_at HL kl0 hx1) rfl (po_rtL hL rfl) (Nat.le_of_ble_eq_true rfl) rfl ?_
  refine po_iload_n hF dX8_pay_11 rfl rfl ?_
  refine po_iadd hF dX8_pay_12 ?_
  obtain ⟨x2, hx2, hm⟩ := po_bind hm
  refine po_callV (As := [.int l1, .int 25, .int (x1 + l2)]) hF dX8_pay_13 wq_1364 mv_X8_set ws_X8_set (show po_cl[8]? = some _ from rfl) rfl kl0 (c_X8_set HL kl0 hx2) rfl (po_rtL hL rfl) (Nat.le_of_ble_eq_true rfl) rfl ?_
  cases hm
  exact po_vret hF hL dX8_pay_16 (by decide) (by decide) rfl rfl rfl (Or.inl rfl)
theorem c_X8_pay {K : po_K} {R : po_R} {I : po_I} {st : Nat → Nat} {ρ : po_I} (HL : po_Lay K R st) {l0 : Nat} {l1 : Int32} {l2 : Int32} (kl0 : K l0 = (19, 19)) (hm : m_X8_pay I l0 l1 l2 = some ρ) : po_C st yX8_pay cX8_pay 3 none 1 0 0 [.ref l0, .int l1, .int l2] K R I none (.inl (none)) K R (ρ) none := by
  refine po_ofC (by decide +kernel) (Nat.le_of_ble_eq_true rfl) (fun X G hF hL => ?_)
  exact w_X8_pay_e hF hL HL I l0 l1 l2 kl0 hm
set_option maxRecDepth 20000 in
set_option maxHeartbeats 2000000 in
theorem w_X8_lowest_2 {X : po_X} {G : po_G} {st : Nat → Nat} {K : po_K} {I : po_I} {R : po_R} {ρ : Int32} {r2 : Int32 → Int32 → Option (Int32)} (hF : po_F X G cX8_lowest RX8 2 st) (hL : po_L X (some .int) 0 0 0 "lowest") (HL : po_Lay K R st) (h2 : ∀ (l0 : Int32) (l1 : Int32), r2 l0 l1 = some ρ → po_V X G 2 (po_Q X G (.inl (some (.int ρ))) K R I none 0 0) 0 0 2 [(0, .int l0), (1, .int l1)] [] K R I none) (l0 : Int32) (l1 : Int32) (hm : m_X8_lowest_2 r2 l0 l1 = some ρ) : po_V X G 2 (po_Q X G (.inl (some (.int ρ))) K R I none 0 0) 0 0 2 [(0, .int l0), (1, .int l1)] [] K R I none := by
  unfold m_X8_lowest_2 at hm
  refine po_iload_n hF dX8_lowest_2 rfl rfl ?_
  refine po_iload_n hF dX8_lowest_3 rfl rfl ?_
  refine po_ishr hF dX8_lowest_4 ?_
  refine po_iconst (v := 1) hF dX8_lowest_5 (by decide) ?_
  refine po_iand hF dX8_lowest_6 ?_
  refine po_if_ne (tgt := 16) hF dX8_lowest_7 (by decide) hm (fun hm => ?_) (fun hm => ?_)
  · refine po_iload_n hF dX8_lowest_16 rfl rfl ?_
    cases hm
    exact po_iret hF hL dX8_lowest_17 (by decide) (by decide) rfl rfl rfl (Or.inl rfl)
  · refine po_iinc (v := l1 + 1) (L' := [(1, .int (l1 + 1)), (0, .int l0)]) hF dX8_lowest_10 rfl rfl (by decide) rfl ?_
    refine po_goto (tgt := 2) hF dX8_lowest_13 (by decide) ?_
    refine po_sub (L' := [(0, .int l0), (1, .int (l1 + 1))]) rfl ?_
    exact h2 l0 (l1 + 1) hm
theorem w_X8_lowest_2L {X : po_X} {G : po_G} {st : Nat → Nat} {K : po_K} {I : po_I} {R : po_R} {ρ : Int32} (hF : po_F X G cX8_lowest RX8 2 st) (hL : po_L X (some .int) 0 0 0 "lowest") (HL : po_Lay K R st) : ∀ (n : Nat) (l0 : Int32) (l1 : Int32), m_X8_lowest_2L n l0 l1 = some ρ → po_V X G 2 (po_Q X G (.inl (some (.int ρ))) K R I none 0 0) 0 0 2 [(0, .int l0), (1, .int l1)] [] K R I none := by
  intro n
  induction n with
  | zero => intro l0 l1 hm; cases hm
  | succ n ih => intro l0 l1 hm; exact w_X8_lowest_2 hF hL HL (ih) l0 l1 hm
set_option maxRecDepth 20000 in
set_option maxHeartbeats 2000000 in
theorem w_X8_lowest_e {X : po_X} {G : po_G} {st : Nat → Nat} {K : po_K} {I : po_I} {R : po_R} {ρ : Int32} (hF : po_F X G cX8_lowest RX8 2 st) (hL : po_L X (some .int) 0 0 0 "lowest") (HL : po_Lay K R st) (l0 : Int32) (hm : m_X8_lowest_e l0 = some ρ) : po_V X G 2 (po_Q X G (.inl (some (.int ρ))) K R I none 0 0) 0 0 0 [(0, .int l0)] [] K R I none := by
  unfold m_X8_lowest_e at hm
  refine po_iconst (v := 0) hF dX8_lowest_0 (by decide) ?_
  refine po_istore_n (L' := [(1, .int 0), (0, .int l0)]) hF dX8_lowest_1 rfl (by decide) rfl ?_
  refine po_sub (L' := [(0, .int l0), (1, .int 0)]) rfl ?_
  exact w_X8_lowest_2L hF hL HL 5000 l0 0 hm
theorem c_X8_lowest {K : po_K} {R : po_R} {I : po_I} {st : Nat → Nat} {ρ : Int32} (HL : po_Lay K R st) {l0 : Int32} (hm : m_X8_lowest l0 = some ρ) : po_C st yX8_lowest cX8_lowest 2 (some .int) 0 0 0 [.int l0] K R I none (.inl (some (.int ρ))) K R I none := by
  refine po_ofC (by decide +kernel) (Nat.le_of_ble_eq_true rfl) (fun X G hF hL => ?_)
  exact w_X8_lowest_e hF hL HL l0 hm
set_option maxRecDepth 20000 in
set_option maxHeartbeats 2000000 in
theorem w_X8_giveBack_e {X : po_X} {G : po_G} {st : Nat → Nat} {K : po_K} {R : po_R} {ρ : po_I} (hF : po_F X G cX8_giveBack RX8 3 st) (hL : po_L X none 1 0 0 "giveBack") (HL : po_Lay K R st) (I : po_I) (l0 : Nat) (l1 : Int32) (l2 : Int32) (kl0 : K l0 = (19, 19)) (hm : m_X8_giveBack_e I l0 l1 l2 = some ρ) : po_V X G 3 (po_Q X G (.inl (none)) K R (ρ) none 0 0) 0 0 0 [(0, .ref l0), (1, .int l1), (2, .int l2)] [] K R I none := by
  unfold m_X8_giveBack_e at hm
  refine po_aload_n hF dX8_giveBack_0 rfl rfl ?_
  refine po_iload_n hF dX8_giveBack_1 rfl rfl ?_
  refine po_bipush (v := 26) hF dX8_giveBack_2 (by decide) ?_
  refine po_aload_n hF dX8_giveBack_4 rfl rfl ?_
  refine po_iload_n hF dX8_giveBack_5 rfl rfl ?_
  refine po_bipush (v := 26) hF dX8_giveBack_6 (by decide) ?_
  obtain ⟨x1, hx1, hm⟩ := po_bind hm
  refine po_callV (As := [.int l1, .int 26]) hF dX8_giveBack_8 wq_1380 mv_X8_at ws_X8_at (show po_cl[8]? = some _ from rfl) rfl kl0 (c_X8_at HL kl0 hx1) rfl (po_rtL hL rfl) (Nat.le_of_ble_eq_true rfl) rfl ?_
  refine po_iload_n hF dX8_giveBack_11 rfl rfl ?_
  refine po_iadd hF dX8_giveBack_12 ?_
  obtain ⟨x2, hx2, hm⟩ := po_bind hm
  refine po_callV (As := [.int l1, .int 26, .int (x1 + l2)]) hF dX8_giveBack_13 wq_1364 mv_X8_set ws_X8_set (show po_cl[8]? = some _ from rfl) rfl kl0 (c_X8_set HL kl0 hx2) rfl (po_rtL hL rfl) (Nat.le_of_ble_eq_true rfl) rfl ?_
  cases hm
  exact po_vret hF hL dX8_giveBack_16 (by decide) (by decide) rfl rfl rfl (Or.inl rfl)
theorem c_X8_giveBack {K : po_K} {R : po_R} {I : po_I} {st : Nat → Nat} {ρ : po_I} (HL : po_Lay K R st) {l0 : Nat} {l1 : Int32} {l2 : Int32} (kl0 : K l0 = (19, 19)) (hm : m_X8_giveBack I l0 l1 l2 = some ρ) : po_C st yX8_giveBack cX8_giveBack 3 none 1 0 0 [.ref l0, .int l1, .int l2] K R I none (.inl (none)) K R (ρ) none := by
  refine po_ofC (by decide +kernel) (Nat.le_of_ble_eq_true rfl) (fun X G hF hL => ?_)
  exact w_X8_giveBack_e hF hL HL I l0 l1 l2 kl0 hm
set_option maxRecDepth 20000 in
set_option maxHeartbeats 2000000 in
theorem w_X8_decide_149 {X : po_X} {G : po_G} {st : Nat → Nat} {K : po_K} {R : po_R} {ρ : Int32 × po_I} (hF : po_F X G cX8_decide RX8 3 st) (hL : po_L X (some .int) 8 0 0 "decide") (HL : po_Lay K R st) (I : po_I) (l0 : Nat) (l1 : Int32) (kl0 : K l0 = (19, 19)) (hm : m_X8_decide_149 I l0 l1 = some ρ) : po_V X G 3 (po_Q X G (.inl (some (.int ρ.1))) K R (ρ.2) none 0 0) 0 0 149 [(0, .ref l0), (1, .int l1)] [] K R I none := by
  unfold m_X8_decide_149 at hm
  refine po_aload_n hF dX8_decide_149 rfl rfl ?_
  refine po_iload_n hF dX8_decide_150 rfl rfl ?_
  refine po_bipush (v := 19) hF dX8_decide_151 (by decide) ?_
  obtain ⟨x1, hx1, hm⟩ := po_bind hm
  refine po_callV (As := [.int l1, .int 19]) hF dX8_decide_153 wq_1380 mv_X8_at ws_X8_at (show po_cl[8]? = some _ from rfl) rfl kl0 (c_X8_at HL kl0 hx1) rfl (po_rtL hL rfl) (Nat.le_of_ble_eq_true rfl) rfl ?_
  cases hm
  exact po_iret hF hL dX8_decide_156 (by decide) (by decide) rfl rfl rfl (Or.inl rfl)
set_option maxRecDepth 20000 in
set_option maxHeartbeats 2000000 in
theorem w_X8_decide_28 {X : po_X} {G : po_G} {st : Nat → Nat} {K : po_K} {R : po_R} {ρ : Int32 × po_I} (hF : po_F X G cX8_decide RX8 3 st) (hL : po_L X (some .int) 8 0 0 "decide") (HL : po_Lay K R st) (I : po_I) (l0 : Nat) (l1 : Int32) (s0 : Nat) (s1 : Int32) (kl0 : K l0 = (19, 19)) (ks0 : K s0 = (19, 19)) (hm : m_X8_decide_28 I l0 l1 s0 s1 = some ρ) : po_V X G 3 (po_Q X G (.inl (some (.int ρ.1))) K R (ρ.2) none 0 0) 0 0 28 [(0, .ref l0), (1, .int l1)] [.int s1, .ref s0] K R I none := by
  unfold m_X8_decide_28 at hm
  refine po_puti hF dX8_decide_28 fl_X8_1 ks0 (by intro r h; cases h; rfl) rfl rfl (fun _ => rfl) rfl ?_
  refine po_hname hm (fun I2 hm => ?_)
  refine po_aload_n hF dX8_decide_31 rfl rfl ?_
  refine po_getf (v := .int (I2 l0 0)) hF dX8_decide_32 fl_X8_1 kl0 rfl ?_
  refine po_if_eq (tgt := 40) hF dX8_decide_35 (by decide) hm (fun hm => ?_) (fun hm => ?_)
  · refine po_aload_n hF dX8_decide_40 rfl rfl ?_
    obtain ⟨x3, hx3, hm⟩ := po_bind hm
    refine po_callV (As := []) hF dX8_decide_41 wq_1476 mv_X8_call ws_X8_call (show po_cl[8]? = some _ from rfl) rfl kl0 (c_X8_call HL kl0 hx3) rfl (po_rtL hL rfl) (Nat.le_of_ble_eq_true rfl) rfl ?_
    refine po_aload_n hF dX8_decide_44 rfl rfl ?_
    refine po_iload_n hF dX8_decide_45 rfl rfl ?_
    obtain ⟨x4, hx4, hm⟩ := po_bind hm
    refine po_callV (As := [.int l1]) hF dX8_decide_46 wq_1529 mv_X8_find ws_X8_find (show po_cl[8]? = some _ from rfl) rfl kl0 (c_X8_find HL kl0 hx4) rfl (po_rtL hL rfl) (Nat.le_of_ble_eq_true rfl) rfl ?_
    refine po_aload_n hF dX8_decide_49 rfl rfl ?_
    refine po_getf (v := .int (x4 l0 7)) hF dX8_decide_50 fl_X8_139 kl0 rfl ?_
    refine po_aload_n hF dX8_decide_53 rfl rfl ?_
    refine po_getf (v := .int (x4 l0 8)) hF dX8_decide_54 fl_X8_142 kl0 rfl ?_
    refine po_iconst (v := (-1)) hF dX8_decide_57 (by decide) ?_
    refine po_ixor hF dX8_decide_58 ?_
    refine po_iand hF dX8_decide_59 ?_
    refine po_top hm (fun v5 hm => ?_)
    refine po_istore_n (L' := [(2, .int v5), (0, .ref l0), (1, .int l1)]) hF dX8_decide_60 rfl (by decide) rfl ?_
    refine po_iload_n hF dX8_decide_61 rfl rfl ?_
    refine po_if_ne (tgt := 115) hF dX8_decide_62 (by decide) hm (fun hm => ?_) (fun hm => ?_)
    · refine po_aload_n hF dX8_decide_115 rfl rfl ?_
      refine po_iload_n hF dX8_decide_116 rfl rfl ?_
      refine po_bipush (v := 19) hF dX8_decide_117 (by decide) ?_
      refine po_iconst (v := 1) hF dX8_decide_119 (by decide) ?_
      obtain ⟨x6, hx6, hm⟩ := po_bind hm
      refine po_callV (As := [.int l1, .int 19, .int 1]) hF dX8_decide_120 wq_1364 mv_X8_set ws_X8_set (show po_cl[8]? = some _ from rfl) rfl kl0 (c_X8_set HL kl0 hx6) rfl (po_rtL hL rfl) (Nat.le_of_ble_eq_true rfl) rfl ?_
      refine po_aload_n hF dX8_decide_123 rfl rfl ?_
      refine po_iload_n hF dX8_decide_124 rfl rfl ?_
      refine po_bipush (v := 27) hF dX8_decide_125 (by decide) ?_
      refine po_iload_n hF dX8_decide_127 rfl rfl ?_
      obtain ⟨x7, hx7, hm⟩ := po_bind hm
      refine po_callS (As := [.int v5]) hF dX8_decide_128 wq_1589 mv_X8_lowest (c_X8_lowest HL hx7) rfl (po_rtL hL rfl) (Nat.le_of_ble_eq_true rfl) rfl ?_
      obtain ⟨x8, hx8, hm⟩ := po_bind hm
      refine po_callV (As := [.int l1, .int 27, .int x7]) hF dX8_decide_131 wq_1364 mv_X8_set ws_X8_set (show po_cl[8]? = some _ from rfl) rfl kl0 (c_X8_set HL kl0 hx8) rfl (po_rtL hL rfl) (Nat.le_of_ble_eq_true rfl) rfl ?_
      refine po_aload_n hF dX8_decide_134 rfl rfl ?_
      refine po_iload_n hF dX8_decide_135 rfl rfl ?_
      refine po_bipush (v := 20) hF dX8_decide_136 (by decide) ?_
      refine po_aload_n hF dX8_decide_138 rfl rfl ?_
      refine po_iload_n hF dX8_decide_139 rfl rfl ?_
      obtain ⟨x9, hx9, hm⟩ := po_bind hm
      refine po_callV (As := [.int l1]) hF dX8_decide_140 wq_1368 mv_X8_floorArea ws_X8_floorArea (show po_cl[8]? = some _ from rfl) rfl kl0 (c_X8_floorArea HL kl0 hx9) rfl (po_rtL hL rfl) (Nat.le_of_ble_eq_true rfl) rfl ?_
      refine po_iadd hF dX8_decide_143 ?_
      refine po_iconst (v := 2) hF dX8_decide_144 (by decide) ?_
      refine po_idivK hF dX8_decide_145 (by decide) ?_
      obtain ⟨x10, hx10, hm⟩ := po_bind hm
      refine po_callV (As := [.int l1, .int ((20 + x9) / 2)]) hF dX8_decide_146 wq_1592 mv_X8_giveBack ws_X8_giveBack (show po_cl[8]? = some _ from rfl) rfl kl0 (c_X8_giveBack HL kl0 hx10) rfl (po_rtL hL rfl) (Nat.le_of_ble_eq_true rfl) rfl ?_
      refine po_sub (L' := [(0, .ref l0), (1, .int l1)]) rfl ?_
      exact w_X8_decide_149 hF hL HL x10 l0 l1 kl0 hm
    · refine po_aload_n hF dX8_decide_65 rfl rfl ?_
      refine po_iload_n hF dX8_decide_66 rfl rfl ?_
      refine po_bipush (v := 19) hF dX8_decide_67 (by decide) ?_
      refine po_iconst (v := 2) hF dX8_decide_69 (by decide) ?_
      obtain ⟨x11, hx11, hm⟩ := po_bind hm
      refine po_callV (As := [.int l1, .int 19, .int 2]) hF dX8_decide_70 wq_1364 mv_X8_set ws_X8_set (show po_cl[8]? = some _ from rfl) rfl kl0 (c_X8_set HL kl0 hx11) rfl (po_rtL hL rfl) (Nat.le_of_ble_eq_true rfl) rfl ?_
      refine po_aload_n hF dX8_decide_73 rfl rfl ?_
      refine po_iload_n hF dX8_decide_74 rfl rfl ?_
      refine po_bipush (v := 24) hF dX8_decide_75 (by decide) ?_
      refine po_aload_n hF dX8_decide_77 rfl rfl ?_
      refine po_getf (v := .int (x11 l0 9)) hF dX8_decide_78 fl_X8_145 kl0 rfl ?_
      obtain ⟨x12, hx12, hm⟩ := po_bind hm
      refine po_callV (As := [.int l1, .int 24, .int (x11 l0 9)]) hF dX8_decide_81 wq_1364 mv_X8_set ws_X8_set (show po_cl[8]? = some _ from rfl) rfl kl0 (c_X8_set HL kl0 hx12) rfl (po_rtL hL rfl) (Nat.le_of_ble_eq_true rfl) rfl ?_
      refine po_aload_n hF dX8_decide_84 rfl rfl ?_
      refine po_iload_n hF dX8_decide_85 rfl rfl ?_
      refine po_bipush (v := 22) hF dX8_decide_86 (by decide) ?_
      refine po_aload_n hF dX8_decide_88 rfl rfl ?_
      refine po_getf (v := .ref (l0 + 1)) hF dX8_decide_89 fl_X8_13 kl0 (ly_8_1 HL kl0).1 ?_
      refine po_iconst (v := 0) hF dX8_decide_92 (by decide) ?_
      refine po_ialdC (j := 0) hF dX8_decide_93 ((ly_8_1 HL kl0).2) (Or.inl rfl) (by decide) (by decide) (by decide) ?_
      refine po_bipush (v := 30) hF dX8_decide_94 (by decide) ?_
      refine po_iadd hF dX8_decide_96 ?_
      obtain ⟨x13, hx13, hm⟩ := po_bind hm
      refine po_callV (As := [.int l1, .int 22, .int ((x12 (l0 + 1) 0) + 30)]) hF dX8_decide_97 wq_1364 mv_X8_set ws_X8_set (show po_cl[8]? = some _ from rfl) rfl kl0 (c_X8_set HL kl0 hx13) rfl (po_rtL hL rfl) (Nat.le_of_ble_eq_true rfl) rfl ?_
      refine po_aload_n hF dX8_decide_100 rfl rfl ?_
      refine po_iload_n hF dX8_decide_101 rfl rfl ?_
      refine po_bipush (v := 10) hF dX8_decide_102 (by decide) ?_
      refine po_aload_n hF dX8_decide_104 rfl rfl ?_
      refine po_getf (v := .int (x13 l0 10)) hF dX8_decide_105 fl_X8_148 kl0 rfl ?_
      refine po_imul hF dX8_decide_108 ?_
      obtain ⟨x14, hx14, hm⟩ := po_bind hm
      refine po_callV (As := [.int l1, .int (10 * (x13 l0 10))]) hF dX8_decide_109 wq_1585 mv_X8_pay ws_X8_pay (show po_cl[8]? = some _ from rfl) rfl kl0 (c_X8_pay HL kl0 hx14) rfl (po_rtL hL rfl) (Nat.le_of_ble_eq_true rfl) rfl ?_
      refine po_goto (tgt := 149) hF dX8_decide_112 (by decide) ?_
      refine po_sub (L' := [(0, .ref l0), (1, .int l1)]) rfl ?_
      exact w_X8_decide_149 hF hL HL x14 l0 l1 kl0 hm
  · refine po_iconst (v := 0) hF dX8_decide_38 (by decide) ?_
    cases hm
    exact po_iret hF hL dX8_decide_39 (by decide) (by decide) rfl rfl rfl (Or.inl rfl)
set_option maxRecDepth 20000 in
set_option maxHeartbeats 2000000 in
theorem w_X8_decide_e {X : po_X} {G : po_G} {st : Nat → Nat} {K : po_K} {R : po_R} {ρ : Int32 × po_I} (hF : po_F X G cX8_decide RX8 3 st) (hL : po_L X (some .int) 8 0 0 "decide") (HL : po_Lay K R st) (I : po_I) (l0 : Nat) (l1 : Int32) (kl0 : K l0 = (19, 19)) (hm : m_X8_decide_e I l0 l1 = some ρ) : po_V X G 3 (po_Q X G (.inl (some (.int ρ.1))) K R (ρ.2) none 0 0) 0 0 0 [(0, .ref l0), (1, .int l1)] [] K R I none := by
  unfold m_X8_decide_e at hm
  refine po_aload_n hF dX8_decide_0 rfl rfl ?_
  refine po_aload_n hF dX8_decide_1 rfl rfl ?_
  refine po_iload_n hF dX8_decide_2 rfl rfl ?_
  obtain ⟨x15, hx15, hm⟩ := po_bind hm
  refine po_callV (As := [.int l1]) hF dX8_decide_3 wq_1513 mv_X8_isPermit ws_X8_isPermit (show po_cl[8]? = some _ from rfl) rfl kl0 (c_X8_isPermit HL kl0 hx15) rfl (po_rtL hL rfl) (Nat.le_of_ble_eq_true rfl) rfl ?_
  refine po_if_ne (tgt := 13) hF dX8_decide_6 (by decide) hm (fun hm => ?_) (fun hm => ?_)
  · refine po_aload_n hF dX8_decide_13 rfl rfl ?_
    refine po_iload_n hF dX8_decide_14 rfl rfl ?_
    refine po_bipush (v := 19) hF dX8_decide_15 (by decide) ?_
    obtain ⟨x16, hx16, hm⟩ := po_bind hm
    refine po_callV (As := [.int l1, .int 19]) hF dX8_decide_17 wq_1380 mv_X8_at ws_X8_at (show po_cl[8]? = some _ from rfl) rfl kl0 (c_X8_at HL kl0 hx16) rfl (po_rtL hL rfl) (Nat.le_of_ble_eq_true rfl) rfl ?_
    refine po_if_eq (tgt := 27) hF dX8_decide_20 (by decide) hm (fun hm => ?_) (fun hm => ?_)
    · refine po_iconst (v := 0) hF dX8_decide_27 (by decide) ?_
      exact w_X8_decide_28 hF hL HL I l0 l1 l0 0 kl0 kl0 hm
    · refine po_iconst (v := 2) hF dX8_decide_23 (by decide) ?_
      refine po_goto (tgt := 28) hF dX8_decide_24 (by decide) ?_
      exact w_X8_decide_28 hF hL HL I l0 l1 l0 2 kl0 kl0 hm
  · refine po_iconst (v := 1) hF dX8_decide_9 (by decide) ?_
    refine po_goto (tgt := 28) hF dX8_decide_10 (by decide) ?_
    exact w_X8_decide_28 hF hL HL I l0 l1 l0 1 kl0 kl0 hm
theorem c_X8_decide {K : po_K} {R : po_R} {I : po_I} {st : Nat → Nat} {ρ : Int32 × po_I} (HL : po_Lay K R st) {l0 : Nat} {l1 : Int32} (kl0 : K l0 = (19, 19)) (hm : m_X8_decide I l0 l1 = some ρ) : po_C st yX8_decide cX8_decide 3 (some .int) 8 0 0 [.ref l0, .int l1] K R I none (.inl (some (.int ρ.1))) K R (ρ.2) none := by
  refine po_ofC (by decide +kernel) (Nat.le_of_ble_eq_true rfl) (fun X G hF hL => ?_)
  exact w_X8_decide_e hF hL HL I l0 l1 kl0 hm
set_option maxRecDepth 20000 in
set_option maxHeartbeats 2000000 in
theorem w_X8_reason_50 {X : po_X} {G : po_G} {st : Nat → Nat} {K : po_K} {R : po_R} {ρ : Int32 × po_I} (hF : po_F X G cX8_reason RX8 2 st) (hL : po_L X (some .int) 2 0 0 "reason") (HL : po_Lay K R st) (I : po_I) (s0 : Int32) (hm : m_X8_reason_50 I s0 = some ρ) : po_V X G 2 (po_Q X G (.inl (some (.int ρ.1))) K R (ρ.2) none 0 0) 0 0 50 [] [.int s0] K R I none := by
  unfold m_X8_reason_50 at hm
  cases hm
  exact po_iret hF hL dX8_reason_50 (by decide) (by decide) rfl rfl rfl (Or.inl rfl)
set_option maxRecDepth 20000 in
set_option maxHeartbeats 2000000 in
theorem w_X8_reason_29 {X : po_X} {G : po_G} {st : Nat → Nat} {K : po_K} {R : po_R} {ρ : Int32 × po_I} (hF : po_F X G cX8_reason RX8 2 st) (hL : po_L X (some .int) 2 0 0 "reason") (HL : po_Lay K R st) (I : po_I) (l0 : Nat) (l1 : Int32) (s0 : Nat) (s1 : Int32) (kl0 : K l0 = (19, 19)) (ks0 : K s0 = (19, 19)) (hm : m_X8_reason_29 I l0 l1 s0 s1 = some ρ) : po_V X G 2 (po_Q X G (.inl (some (.int ρ.1))) K R (ρ.2) none 0 0) 0 0 29 [(0, .ref l0), (1, .int l1)] [.int s1, .ref s0] K R I none := by
  unfold m_X8_reason_29 at hm
  refine po_puti hF dX8_reason_29 fl_X8_1 ks0 (by intro r h; cases h; rfl) rfl rfl (fun _ => rfl) rfl ?_
  refine po_hname hm (fun I1 hm => ?_)
  refine po_aload_n hF dX8_reason_32 rfl rfl ?_
  refine po_getf (v := .int (I1 l0 0)) hF dX8_reason_33 fl_X8_1 kl0 rfl ?_
  refine po_if_ne (tgt := 49) hF dX8_reason_36 (by decide) hm (fun hm => ?_) (fun hm => ?_)
  · refine po_iconst (v := 0) hF dX8_reason_49 (by decide) ?_
    refine po_sub (L' := []) rfl ?_
    exact w_X8_reason_50 hF hL HL I1 0 hm
  · refine po_aload_n hF dX8_reason_39 rfl rfl ?_
    refine po_iload_n hF dX8_reason_40 rfl rfl ?_
    refine po_bipush (v := 27) hF dX8_reason_41 (by decide) ?_
    obtain ⟨x2, hx2, hm⟩ := po_bind hm
    refine po_callV (As := [.int l1, .int 27]) hF dX8_reason_43 wq_1380 mv_X8_at ws_X8_at (show po_cl[8]? = some _ from rfl) rfl kl0 (c_X8_at HL kl0 hx2) rfl (po_rtL hL rfl) (Nat.le_of_ble_eq_true rfl) rfl ?_
    refine po_goto (tgt := 50) hF dX8_reason_46 (by decide) ?_
    refine po_sub (L' := []) rfl ?_
    exact w_X8_reason_50 hF hL HL I1 x2 hm
set_option maxRecDepth 20000 in
set_option maxHeartbeats 2000000 in
theorem w_X8_reason_e {X : po_X} {G : po_G} {st : Nat → Nat} {K : po_K} {R : po_R} {ρ : Int32 × po_I} (hF : po_F X G cX8_reason RX8 2 st) (hL : po_L X (some .int) 2 0 0 "reason") (HL : po_Lay K R st) (I : po_I) (l0 : Nat) (l1 : Int32) (kl0 : K l0 = (19, 19)) (hm : m_X8_reason_e I l0 l1 = some ρ) : po_V X G 2 (po_Q X G (.inl (some (.int ρ.1))) K R (ρ.2) none 0 0) 0 0 0 [(0, .ref l0), (1, .int l1)] [] K R I none := by
  unfold m_X8_reason_e at hm
  refine po_aload_n hF dX8_reason_0 rfl rfl ?_
  refine po_aload_n hF dX8_reason_1 rfl rfl ?_
  refine po_iload_n hF dX8_reason_2 rfl rfl ?_
  obtain ⟨x3, hx3, hm⟩ := po_bind hm
  refine po_callV (As := [.int l1]) hF dX8_reason_3 wq_1513 mv_X8_isPermit ws_X8_isPermit (show po_cl[8]? = some _ from rfl) rfl kl0 (c_X8_isPermit HL kl0 hx3) rfl (po_rtL hL rfl) (Nat.le_of_ble_eq_true rfl) rfl ?_
  refine po_if_ne (tgt := 13) hF dX8_reason_6 (by decide) hm (fun hm => ?_) (fun hm => ?_)
  · refine po_aload_n hF dX8_reason_13 rfl rfl ?_
    refine po_iload_n hF dX8_reason_14 rfl rfl ?_
    refine po_bipush (v := 19) hF dX8_reason_15 (by decide) ?_
    obtain ⟨x4, hx4, hm⟩ := po_bind hm
    refine po_callV (As := [.int l1, .int 19]) hF dX8_reason_17 wq_1380 mv_X8_at ws_X8_at (show po_cl[8]? = some _ from rfl) rfl kl0 (c_X8_at HL kl0 hx4) rfl (po_rtL hL rfl) (Nat.le_of_ble_eq_true rfl) rfl ?_
    refine po_iconst (v := 1) hF dX8_reason_20 (by decide) ?_
    refine po_icmp_eq (tgt := 28) hF dX8_reason_21 (by decide) hm (fun hm => ?_) (fun hm => ?_)
    · refine po_iconst (v := 0) hF dX8_reason_28 (by decide) ?_
      exact w_X8_reason_29 hF hL HL I l0 l1 l0 0 kl0 kl0 hm
    · refine po_iconst (v := 2) hF dX8_reason_24 (by decide) ?_
      refine po_goto (tgt := 29) hF dX8_reason_25 (by decide) ?_
      exact w_X8_reason_29 hF hL HL I l0 l1 l0 2 kl0 kl0 hm
  · refine po_iconst (v := 1) hF dX8_reason_9 (by decide) ?_
    refine po_goto (tgt := 29) hF dX8_reason_10 (by decide) ?_
    exact w_X8_reason_29 hF hL HL I l0 l1 l0 1 kl0 kl0 hm
theorem c_X8_reason {K : po_K} {R : po_R} {I : po_I} {st : Nat → Nat} {ρ : Int32 × po_I} (HL : po_Lay K R st) {l0 : Nat} {l1 : Int32} (kl0 : K l0 = (19, 19)) (hm : m_X8_reason I l0 l1 = some ρ) : po_C st yX8_reason cX8_reason 2 (some .int) 2 0 0 [.ref l0, .int l1] K R I none (.inl (some (.int ρ.1))) K R (ρ.2) none := by
  refine po_ofC (by decide +kernel) (Nat.le_of_ble_eq_true rfl) (fun X G hF hL => ?_)
  exact w_X8_reason_e hF hL HL I l0 l1 kl0 hm
set_option maxRecDepth 20000 in
set_option maxHeartbeats 2000000 in
theorem w_X8_revoke_41 {X : po_X} {G : po_G} {st : Nat → Nat} {K : po_K} {R : po_R} {ρ : Int32 × po_I} (hF : po_F X G cX8_revoke RX8 3 st) (hL : po_L X (some .int) 2 0 0 "revoke") (HL : po_Lay K R st) (I : po_I) (l0 : Nat) (l1 : Int32) (s0 : Nat) (s1 : Int32) (kl0 : K l0 = (19, 19)) (ks0 : K s0 = (19, 19)) (hm : m_X8_revoke_41 I l0 l1 s0 s1 = some ρ) : po_V X G 3 (po_Q X G (.inl (some (.int ρ.1))) K R (ρ.2) none 0 0) 0 0 41 [(0, .ref l0), (1, .int l1)] [.int s1, .ref s0] K R I none := by
  unfold m_X8_revoke_41 at hm
  refine po_puti hF dX8_revoke_41 fl_X8_1 ks0 (by intro r h; cases h; rfl) rfl rfl (fun _ => rfl) rfl ?_
  refine po_hname hm (fun I1 hm => ?_)
  refine po_aload_n hF dX8_revoke_44 rfl rfl ?_
  refine po_getf (v := .int (I1 l0 0)) hF dX8_revoke_45 fl_X8_1 kl0 rfl ?_
  refine po_if_eq (tgt := 53) hF dX8_revoke_48 (by decide) hm (fun hm => ?_) (fun hm => ?_)
  · refine po_aload_n hF dX8_revoke_53 rfl rfl ?_
    obtain ⟨x2, hx2, hm⟩ := po_bind hm
    refine po_callV (As := []) hF dX8_revoke_54 wq_1476 mv_X8_call ws_X8_call (show po_cl[8]? = some _ from rfl) rfl kl0 (c_X8_call HL kl0 hx2) rfl (po_rtL hL rfl) (Nat.le_of_ble_eq_true rfl) rfl ?_
    refine po_iconst (v := 2) hF dX8_revoke_57 (by decide) ?_
    refine po_iconst (v := 4) hF dX8_revoke_58 (by decide) ?_
    refine po_aload_n hF dX8_revoke_59 rfl rfl ?_
    refine po_iload_n hF dX8_revoke_60 rfl rfl ?_
    refine po_bipush (v := 20) hF dX8_revoke_61 (by decide) ?_
    obtain ⟨x3, hx3, hm⟩ := po_bind hm
    refine po_callV (As := [.int l1, .int 20]) hF dX8_revoke_63 wq_1380 mv_X8_at ws_X8_at (show po_cl[8]? = some _ from rfl) rfl kl0 (c_X8_at HL kl0 hx3) rfl (po_rtL hL rfl) (Nat.le_of_ble_eq_true rfl) rfl ?_
    refine po_isub hF dX8_revoke_66 ?_
    refine po_imul hF dX8_revoke_67 ?_
    refine po_top hm (fun v4 hm => ?_)
    refine po_istore_n (L' := [(2, .int v4), (0, .ref l0), (1, .int l1)]) hF dX8_revoke_68 rfl (by decide) rfl ?_
    refine po_aload_n hF dX8_revoke_69 rfl rfl ?_
    refine po_iload_n hF dX8_revoke_70 rfl rfl ?_
    refine po_bipush (v := 19) hF dX8_revoke_71 (by decide) ?_
    refine po_iconst (v := 5) hF dX8_revoke_73 (by decide) ?_
    obtain ⟨x5, hx5, hm⟩ := po_bind hm
    refine po_callV (As := [.int l1, .int 19, .int 5]) hF dX8_revoke_74 wq_1364 mv_X8_set ws_X8_set (show po_cl[8]? = some _ from rfl) rfl kl0 (c_X8_set HL kl0 hx5) rfl (po_rtL hL rfl) (Nat.le_of_ble_eq_true rfl) rfl ?_
    refine po_aload_n hF dX8_revoke_77 rfl rfl ?_
    refine po_iload_n hF dX8_revoke_78 rfl rfl ?_
    refine po_iload_n hF dX8_revoke_79 rfl rfl ?_
    obtain ⟨x6, hx6, hm⟩ := po_bind hm
    refine po_callV (As := [.int l1, .int v4]) hF dX8_revoke_80 wq_1592 mv_X8_giveBack ws_X8_giveBack (show po_cl[8]? = some _ from rfl) rfl kl0 (c_X8_giveBack HL kl0 hx6) rfl (po_rtL hL rfl) (Nat.le_of_ble_eq_true rfl) rfl ?_
    refine po_iload_n hF dX8_revoke_83 rfl rfl ?_
    cases hm
    exact po_iret hF hL dX8_revoke_84 (by decide) (by decide) rfl rfl rfl (Or.inl rfl)
  · refine po_iconst (v := 0) hF dX8_revoke_51 (by decide) ?_
    cases hm
    exact po_iret hF hL dX8_revoke_52 (by decide) (by decide) rfl rfl rfl (Or.inl rfl)
set_option maxRecDepth 20000 in
set_option maxHeartbeats 2000000 in
theorem w_X8_revoke_40 {X : po_X} {G : po_G} {st : Nat → Nat} {K : po_K} {R : po_R} {ρ : Int32 × po_I} (hF : po_F X G cX8_revoke RX8 3 st) (hL : po_L X (some .int) 2 0 0 "revoke") (HL : po_Lay K R st) (I : po_I) (l0 : Nat) (l1 : Int32) (s0 : Nat) (kl0 : K l0 = (19, 19)) (ks0 : K s0 = (19, 19)) (hm : m_X8_revoke_40 I l0 l1 s0 = some ρ) : po_V X G 3 (po_Q X G (.inl (some (.int ρ.1))) K R (ρ.2) none 0 0) 0 0 40 [(0, .ref l0), (1, .int l1)] [.ref s0] K R I none := by
  unfold m_X8_revoke_40 at hm
  refine po_iconst (v := 0) hF dX8_revoke_40 (by decide) ?_
  exact w_X8_revoke_41 hF hL HL I l0 l1 s0 0 kl0 ks0 hm
set_option maxRecDepth 20000 in
set_option maxHeartbeats 2000000 in
theorem w_X8_revoke_e {X : po_X} {G : po_G} {st : Nat → Nat} {K : po_K} {R : po_R} {ρ : Int32 × po_I} (hF : po_F X G cX8_revoke RX8 3 st) (hL : po_L X (some .int) 2 0 0 "revoke") (HL : po_Lay K R st) (I : po_I) (l0 : Nat) (l1 : Int32) (kl0 : K l0 = (19, 19)) (hm : m_X8_revoke_e I l0 l1 = some ρ) : po_V X G 3 (po_Q X G (.inl (some (.int ρ.1))) K R (ρ.2) none 0 0) 0 0 0 [(0, .ref l0), (1, .int l1)] [] K R I none := by
  unfold m_X8_revoke_e at hm
  refine po_aload_n hF dX8_revoke_0 rfl rfl ?_
  refine po_aload_n hF dX8_revoke_1 rfl rfl ?_
  refine po_iload_n hF dX8_revoke_2 rfl rfl ?_
  obtain ⟨x7, hx7, hm⟩ := po_bind hm
  refine po_callV (As := [.int l1]) hF dX8_revoke_3 wq_1513 mv_X8_isPermit ws_X8_isPermit (show po_cl[8]? = some _ from rfl) rfl kl0 (c_X8_isPermit HL kl0 hx7) rfl (po_rtL hL rfl) (Nat.le_of_ble_eq_true rfl) rfl ?_
  refine po_if_ne (tgt := 13) hF dX8_revoke_6 (by decide) hm (fun hm => ?_) (fun hm => ?_)
  · refine po_aload_n hF dX8_revoke_13 rfl rfl ?_
    refine po_iload_n hF dX8_revoke_14 rfl rfl ?_
    refine po_bipush (v := 19) hF dX8_revoke_15 (by decide) ?_
    obtain ⟨x8, hx8, hm⟩ := po_bind hm
    refine po_callV (As := [.int l1, .int 19]) hF dX8_revoke_17 wq_1380 mv_X8_at ws_X8_at (show po_cl[8]? = some _ from rfl) rfl kl0 (c_X8_at HL kl0 hx8) rfl (po_rtL hL rfl) (Nat.le_of_ble_eq_true rfl) rfl ?_
    refine po_iconst (v := 2) hF dX8_revoke_20 (by decide) ?_
    refine po_icmp_eq (tgt := 40) hF dX8_revoke_21 (by decide) hm (fun hm => ?_) (fun hm => ?_)
    · exact w_X8_revoke_40 hF hL HL I l0 l1 l0 kl0 kl0 hm
    · refine po_aload_n hF dX8_revoke_24 rfl rfl ?_
      refine po_iload_n hF dX8_revoke_25 rfl rfl ?_
      refine po_bipush (v := 19) hF dX8_revoke_26 (by decide) ?_
      obtain ⟨x9, hx9, hm⟩ := po_bind hm
      refine po_callV (As := [.int l1, .int 19]) hF dX8_revoke_28 wq_1380 mv_X8_at ws_X8_at (show po_cl[8]? = some _ from rfl) rfl kl0 (c_X8_at HL kl0 hx9) rfl (po_rtL hL rfl) (Nat.le_of_ble_eq_true rfl) rfl ?_
      refine po_bipush (v := 6) hF dX8_revoke_31 (by decide) ?_
      refine po_icmp_eq (tgt := 40) hF dX8_revoke_33 (by decide) hm (fun hm => ?_) (fun hm => ?_)
      · exact w_X8_revoke_40 hF hL HL I l0 l1 l0 kl0 kl0 hm
      · refine po_iconst (v := 2) hF dX8_revoke_36 (by decide) ?_
        refine po_goto (tgt := 41) hF dX8_revoke_37 (by decide) ?_
        exact w_X8_revoke_41 hF hL HL I l0 l1 l0 2 kl0 kl0 hm
  · refine po_iconst (v := 1) hF dX8_revoke_9 (by decide) ?_
    refine po_goto (tgt := 41) hF dX8_revoke_10 (by decide) ?_
    exact w_X8_revoke_41 hF hL HL I l0 l1 l0 1 kl0 kl0 hm
theorem c_X8_revoke {K : po_K} {R : po_R} {I : po_I} {st : Nat → Nat} {ρ : Int32 × po_I} (HL : po_Lay K R st) {l0 : Nat} {l1 : Int32} (kl0 : K l0 = (19, 19)) (hm : m_X8_revoke I l0 l1 = some ρ) : po_C st yX8_revoke cX8_revoke 3 (some .int) 2 0 0 [.ref l0, .int l1] K R I none (.inl (some (.int ρ.1))) K R (ρ.2) none := by
  refine po_ofC (by decide +kernel) (Nat.le_of_ble_eq_true rfl) (fun X G hF hL => ?_)
  exact w_X8_revoke_e hF hL HL I l0 l1 kl0 hm
set_option maxRecDepth 20000 in
set_option maxHeartbeats 2000000 in
theorem w_X8_group_36 {X : po_X} {G : po_G} {st : Nat → Nat} {K : po_K} {I : po_I} {R : po_R} {ρ : Int32} (hF : po_F X G cX8_group RX8 3 st) (hL : po_L X (some .int) 1 0 0 "group") (HL : po_Lay K R st) (s0 : Int32) (hm : m_X8_group_36 I s0 = some ρ) : po_V X G 3 (po_Q X G (.inl (some (.int ρ))) K R I none 0 0) 0 0 36 [] [.int s0] K R I none := by
  unfold m_X8_group_36 at hm
  cases hm
  exact po_iret hF hL dX8_group_36 (by decide) (by decide) rfl rfl rfl (Or.inl rfl)
set_option maxRecDepth 20000 in
set_option maxHeartbeats 2000000 in
theorem w_X8_group_e {X : po_X} {G : po_G} {st : Nat → Nat} {K : po_K} {I : po_I} {R : po_R} {ρ : Int32} (hF : po_F X G cX8_group RX8 3 st) (hL : po_L X (some .int) 1 0 0 "group") (HL : po_Lay K R st) (l0 : Nat) (l1 : Int32) (kl0 : K l0 = (19, 19)) (hm : m_X8_group_e I l0 l1 = some ρ) : po_V X G 3 (po_Q X G (.inl (some (.int ρ))) K R I none 0 0) 0 0 0 [(0, .ref l0), (1, .int l1)] [] K R I none := by
  unfold m_X8_group_e at hm
  refine po_aload_n hF dX8_group_0 rfl rfl ?_
  refine po_iload_n hF dX8_group_1 rfl rfl ?_
  refine po_bipush (v := 19) hF dX8_group_2 (by decide) ?_
  obtain ⟨x1, hx1, hm⟩ := po_bind hm
  refine po_callV (As := [.int l1, .int 19]) hF dX8_group_4 wq_1380 mv_X8_at ws_X8_at (show po_cl[8]? = some _ from rfl) rfl kl0 (c_X8_at HL kl0 hx1) rfl (po_rtL hL rfl) (Nat.le_of_ble_eq_true rfl) rfl ?_
  refine po_istore_n (L' := [(2, .int x1), (0, .ref l0), (1, .int l1)]) hF dX8_group_7 rfl (by decide) rfl ?_
  refine po_iload_n hF dX8_group_8 rfl rfl ?_
  refine po_iconst (v := 2) hF dX8_group_9 (by decide) ?_
  refine po_icmp_ne (tgt := 17) hF dX8_group_10 (by decide) hm (fun hm => ?_) (fun hm => ?_)
  · refine po_iload_n hF dX8_group_17 rfl rfl ?_
    refine po_bipush (v := 6) hF dX8_group_18 (by decide) ?_
    refine po_icmp_ne (tgt := 27) hF dX8_group_20 (by decide) hm (fun hm => ?_) (fun hm => ?_)
    · refine po_iload_n hF dX8_group_27 rfl rfl ?_
      refine po_if_ne (tgt := 35) hF dX8_group_28 (by decide) hm (fun hm => ?_) (fun hm => ?_)
      · refine po_iconst (v := (-1)) hF dX8_group_35 (by decide) ?_
        refine po_sub (L' := []) rfl ?_
        exact w_X8_group_36 hF hL HL (-1) hm
      · refine po_iconst (v := 2) hF dX8_group_31 (by decide) ?_
        refine po_goto (tgt := 36) hF dX8_group_32 (by decide) ?_
        refine po_sub (L' := []) rfl ?_
        exact w_X8_group_36 hF hL HL 2 hm
    · refine po_iconst (v := 1) hF dX8_group_23 (by decide) ?_
      refine po_goto (tgt := 36) hF dX8_group_24 (by decide) ?_
      refine po_sub (L' := []) rfl ?_
      exact w_X8_group_36 hF hL HL 1 hm
  · refine po_iconst (v := 0) hF dX8_group_13 (by decide) ?_
    refine po_goto (tgt := 36) hF dX8_group_14 (by decide) ?_
    refine po_sub (L' := []) rfl ?_
    exact w_X8_group_36 hF hL HL 0 hm
theorem c_X8_group {K : po_K} {R : po_R} {I : po_I} {st : Nat → Nat} {ρ : Int32} (HL : po_Lay K R st) {l0 : Nat} {l1 : Int32} (kl0 : K l0 = (19, 19)) (hm : m_X8_group I l0 l1 = some ρ) : po_C st yX8_group cX8_group 3 (some .int) 1 0 0 [.ref l0, .int l1] K R I none (.inl (some (.int ρ))) K R I none := by
  refine po_ofC (by decide +kernel) (Nat.le_of_ble_eq_true rfl) (fun X G hF hL => ?_)
  exact w_X8_group_e hF hL HL l0 l1 kl0 hm
set_option maxRecDepth 20000 in
set_option maxHeartbeats 2000000 in
theorem w_X8_isAhead_102 {X : po_X} {G : po_G} {st : Nat → Nat} {K : po_K} {I : po_I} {R : po_R} {ρ : Int32} (hF : po_F X G cX8_isAhead RX8 4 st) (hL : po_L X (some .boolean) 2 0 0 "isAhead") (HL : po_Lay K R st) (s0 : Int32) (hm : m_X8_isAhead_102 I s0 = some ρ) : po_V X G 4 (po_Q X G (.inl (some (.int ρ))) K R I none 0 0) 0 0 102 [] [.int s0] K R I none := by
  unfold m_X8_isAhead_102 at hm
  obtain ⟨hz, hm⟩ := po_zif hm
  cases hm
  exact po_zret hF hL dX8_isAhead_102 (po_nz hz) (by decide) (by decide) rfl rfl rfl (Or.inl rfl)
set_option maxRecDepth 20000 in
set_option maxHeartbeats 2000000 in
theorem w_X8_isAhead_62 {X : po_X} {G : po_G} {st : Nat → Nat} {K : po_K} {I : po_I} {R : po_R} {ρ : Int32} (hF : po_F X G cX8_isAhead RX8 4 st) (hL : po_L X (some .boolean) 2 0 0 "isAhead") (HL : po_Lay K R st) (l0 : Nat) (l1 : Int32) (l2 : Int32) (s0 : Int32) (kl0 : K l0 = (19, 19)) (hm : m_X8_isAhead_62 I l0 l1 l2 s0 = some ρ) : po_V X G 4 (po_Q X G (.inl (some (.int ρ))) K R I none 0 0) 0 0 62 [(0, .ref l0), (1, .int l1), (2, .int l2)] [.int s0] K R I none := by
  unfold m_X8_isAhead_62 at hm
  refine po_istore_n (L' := [(3, .int s0), (0, .ref l0), (1, .int l1), (2, .int l2)]) hF dX8_isAhead_62 rfl (by decide) rfl ?_
  refine po_iload_n hF dX8_isAhead_63 rfl rfl ?_
  refine po_if_eq (tgt := 92) hF dX8_isAhead_64 (by decide) hm (fun hm => ?_) (fun hm => ?_)
  · refine po_iload_n hF dX8_isAhead_92 rfl rfl ?_
    refine po_iload_n hF dX8_isAhead_93 rfl rfl ?_
    refine po_icmp_ge (tgt := 101) hF dX8_isAhead_94 (by decide) hm (fun hm => ?_) (fun hm => ?_)
    · refine po_iconst (v := 0) hF dX8_isAhead_101 (by decide) ?_
      refine po_sub (L' := []) rfl ?_
      exact w_X8_isAhead_102 hF hL HL 0 hm
    · refine po_iconst (v := 1) hF dX8_isAhead_97 (by decide) ?_
      refine po_goto (tgt := 102) hF dX8_isAhead_98 (by decide) ?_
      refine po_sub (L' := []) rfl ?_
      exact w_X8_isAhead_102 hF hL HL 1 hm
  · refine po_aload_n hF dX8_isAhead_67 rfl rfl ?_
    refine po_iload_n hF dX8_isAhead_68 rfl rfl ?_
    refine po_bipush (v := 22) hF dX8_isAhead_69 (by decide) ?_
    obtain ⟨x1, hx1, hm⟩ := po_bind hm
    refine po_callV (As := [.int l1, .int 22]) hF dX8_isAhead_71 wq_1380 mv_X8_at ws_X8_at (show po_cl[8]? = some _ from rfl) rfl kl0 (c_X8_at HL kl0 hx1) rfl (po_rtL hL rfl) (Nat.le_of_ble_eq_true rfl) rfl ?_
    refine po_aload_n hF dX8_isAhead_74 rfl rfl ?_
    refine po_iload_n hF dX8_isAhead_75 rfl rfl ?_
    refine po_bipush (v := 22) hF dX8_isAhead_76 (by decide) ?_
    obtain ⟨x2, hx2, hm⟩ := po_bind hm
    refine po_callV (As := [.int l2, .int 22]) hF dX8_isAhead_78 wq_1380 mv_X8_at ws_X8_at (show po_cl[8]? = some _ from rfl) rfl kl0 (c_X8_at HL kl0 hx2) rfl (po_rtL hL rfl) (Nat.le_of_ble_eq_true rfl) rfl ?_
    refine po_icmp_ge (tgt := 88) hF dX8_isAhead_81 (by decide) hm (fun hm => ?_) (fun hm => ?_)
    · refine po_iconst (v := 0) hF dX8_isAhead_88 (by decide) ?_
      refine po_goto (tgt := 102) hF dX8_isAhead_89 (by decide) ?_
      refine po_sub (L' := []) rfl ?_
      exact w_X8_isAhead_102 hF hL HL 0 hm
    · refine po_iconst (v := 1) hF dX8_isAhead_84 (by decide) ?_
      refine po_goto (tgt := 102) hF dX8_isAhead_85 (by decide) ?_
      refine po_sub (L' := []) rfl ?_
      exact w_X8_isAhead_102 hF hL HL 1 hm
set_option maxRecDepth 20000 in
set_option maxHeartbeats 2000000 in
theorem w_X8_isAhead_61 {X : po_X} {G : po_G} {st : Nat → Nat} {K : po_K} {I : po_I} {R : po_R} {ρ : Int32} (hF : po_F X G cX8_isAhead RX8 4 st) (hL : po_L X (some .boolean) 2 0 0 "isAhead") (HL : po_Lay K R st) (l0 : Nat) (l1 : Int32) (l2 : Int32) (kl0 : K l0 = (19, 19)) (hm : m_X8_isAhead_61 I l0 l1 l2 = some ρ) : po_V X G 4 (po_Q X G (.inl (some (.int ρ))) K R I none 0 0) 0 0 61 [(0, .ref l0), (1, .int l1), (2, .int l2)] [] K R I none := by
  unfold m_X8_isAhead_61 at hm
  refine po_iconst (v := 0) hF dX8_isAhead_61 (by decide) ?_
  exact w_X8_isAhead_62 hF hL HL l0 l1 l2 0 kl0 hm
set_option maxRecDepth 20000 in
set_option maxHeartbeats 2000000 in
theorem w_X8_isAhead_31 {X : po_X} {G : po_G} {st : Nat → Nat} {K : po_K} {I : po_I} {R : po_R} {ρ : Int32} (hF : po_F X G cX8_isAhead RX8 4 st) (hL : po_L X (some .boolean) 2 0 0 "isAhead") (HL : po_Lay K R st) (s0 : Int32) (hm : m_X8_isAhead_31 I s0 = some ρ) : po_V X G 4 (po_Q X G (.inl (some (.int ρ))) K R I none 0 0) 0 0 31 [] [.int s0] K R I none := by
  unfold m_X8_isAhead_31 at hm
  obtain ⟨hz, hm⟩ := po_zif hm
  cases hm
  exact po_zret hF hL dX8_isAhead_31 (po_nz hz) (by decide) (by decide) rfl rfl rfl (Or.inl rfl)
set_option maxRecDepth 20000 in
set_option maxHeartbeats 2000000 in
theorem w_X8_isAhead_e {X : po_X} {G : po_G} {st : Nat → Nat} {K : po_K} {I : po_I} {R : po_R} {ρ : Int32} (hF : po_F X G cX8_isAhead RX8 4 st) (hL : po_L X (some .boolean) 2 0 0 "isAhead") (HL : po_Lay K R st) (l0 : Nat) (l1 : Int32) (l2 : Int32) (kl0 : K l0 = (19, 19)) (hm : m_X8_isAhead_e I l0 l1 l2 = some ρ) : po_V X G 4 (po_Q X G (.inl (some (.int ρ))) K R I none 0 0) 0 0 0 [(0, .ref l0), (1, .int l1), (2, .int l2)] [] K R I none := by
  unfold m_X8_isAhead_e at hm
  refine po_aload_n hF dX8_isAhead_0 rfl rfl ?_
  refine po_iload_n hF dX8_isAhead_1 rfl rfl ?_
  obtain ⟨x3, hx3, hm⟩ := po_bind hm
  refine po_callV (As := [.int l1]) hF dX8_isAhead_2 wq_1608 mv_X8_group ws_X8_group (show po_cl[8]? = some _ from rfl) rfl kl0 (c_X8_group HL kl0 hx3) rfl (po_rtL hL rfl) (Nat.le_of_ble_eq_true rfl) rfl ?_
  refine po_aload_n hF dX8_isAhead_5 rfl rfl ?_
  refine po_iload_n hF dX8_isAhead_6 rfl rfl ?_
  obtain ⟨x4, hx4, hm⟩ := po_bind hm
  refine po_callV (As := [.int l2]) hF dX8_isAhead_7 wq_1608 mv_X8_group ws_X8_group (show po_cl[8]? = some _ from rfl) rfl kl0 (c_X8_group HL kl0 hx4) rfl (po_rtL hL rfl) (Nat.le_of_ble_eq_true rfl) rfl ?_
  refine po_icmp_eq (tgt := 32) hF dX8_isAhead_10 (by decide) hm (fun hm => ?_) (fun hm => ?_)
  · refine po_aload_n hF dX8_isAhead_32 rfl rfl ?_
    refine po_iload_n hF dX8_isAhead_33 rfl rfl ?_
    obtain ⟨x5, hx5, hm⟩ := po_bind hm
    refine po_callV (As := [.int l1]) hF dX8_isAhead_34 wq_1608 mv_X8_group ws_X8_group (show po_cl[8]? = some _ from rfl) rfl kl0 (c_X8_group HL kl0 hx5) rfl (po_rtL hL rfl) (Nat.le_of_ble_eq_true rfl) rfl ?_
    refine po_if_ne (tgt := 61) hF dX8_isAhead_37 (by decide) hm (fun hm => ?_) (fun hm => ?_)
    · exact w_X8_isAhead_61 hF hL HL l0 l1 l2 kl0 hm
    · refine po_aload_n hF dX8_isAhead_40 rfl rfl ?_
      refine po_iload_n hF dX8_isAhead_41 rfl rfl ?_
      refine po_bipush (v := 22) hF dX8_isAhead_42 (by decide) ?_
      obtain ⟨x6, hx6, hm⟩ := po_bind hm
      refine po_callV (As := [.int l1, .int 22]) hF dX8_isAhead_44 wq_1380 mv_X8_at ws_X8_at (show po_cl[8]? = some _ from rfl) rfl kl0 (c_X8_at HL kl0 hx6) rfl (po_rtL hL rfl) (Nat.le_of_ble_eq_true rfl) rfl ?_
      refine po_aload_n hF dX8_isAhead_47 rfl rfl ?_
      refine po_iload_n hF dX8_isAhead_48 rfl rfl ?_
      refine po_bipush (v := 22) hF dX8_isAhead_49 (by decide) ?_
      obtain ⟨x7, hx7, hm⟩ := po_bind hm
      refine po_callV (As := [.int l2, .int 22]) hF dX8_isAhead_51 wq_1380 mv_X8_at ws_X8_at (show po_cl[8]? = some _ from rfl) rfl kl0 (c_X8_at HL kl0 hx7) rfl (po_rtL hL rfl) (Nat.le_of_ble_eq_true rfl) rfl ?_
      refine po_icmp_eq (tgt := 61) hF dX8_isAhead_54 (by decide) hm (fun hm => ?_) (fun hm => ?_)
      · exact w_X8_isAhead_61 hF hL HL l0 l1 l2 kl0 hm
      · refine po_iconst (v := 1) hF dX8_isAhead_57 (by decide) ?_
        refine po_goto (tgt := 62) hF dX8_isAhead_58 (by decide) ?_
        exact w_X8_isAhead_62 hF hL HL l0 l1 l2 1 kl0 hm
  · refine po_aload_n hF dX8_isAhead_13 rfl rfl ?_
    refine po_iload_n hF dX8_isAhead_14 rfl rfl ?_
    obtain ⟨x8, hx8, hm⟩ := po_bind hm
    refine po_callV (As := [.int l1]) hF dX8_isAhead_15 wq_1608 mv_X8_group ws_X8_group (show po_cl[8]? = some _ from rfl) rfl kl0 (c_X8_group HL kl0 hx8) rfl (po_rtL hL rfl) (Nat.le_of_ble_eq_true rfl) rfl ?_
    refine po_aload_n hF dX8_isAhead_18 rfl rfl ?_
    refine po_iload_n hF dX8_isAhead_19 rfl rfl ?_
    obtain ⟨x9, hx9, hm⟩ := po_bind hm
    refine po_callV (As := [.int l2]) hF dX8_isAhead_20 wq_1608 mv_X8_group ws_X8_group (show po_cl[8]? = some _ from rfl) rfl kl0 (c_X8_group HL kl0 hx9) rfl (po_rtL hL rfl) (Nat.le_of_ble_eq_true rfl) rfl ?_
    refine po_icmp_ge (tgt := 30) hF dX8_isAhead_23 (by decide) hm (fun hm => ?_) (fun hm => ?_)
    · refine po_iconst (v := 0) hF dX8_isAhead_30 (by decide) ?_
      refine po_sub (L' := []) rfl ?_
      exact w_X8_isAhead_31 hF hL HL 0 hm
    · refine po_iconst (v := 1) hF dX8_isAhead_26 (by decide) ?_
      refine po_goto (tgt := 31) hF dX8_isAhead_27 (by decide) ?_
      refine po_sub (L' := []) rfl ?_
      exact w_X8_isAhead_31 hF hL HL 1 hm
theorem c_X8_isAhead {K : po_K} {R : po_R} {I : po_I} {st : Nat → Nat} {ρ : Int32} (HL : po_Lay K R st) {l0 : Nat} {l1 : Int32} {l2 : Int32} (kl0 : K l0 = (19, 19)) (hm : m_X8_isAhead I l0 l1 l2 = some ρ) : po_C st yX8_isAhead cX8_isAhead 4 (some .boolean) 2 0 0 [.ref l0, .int l1, .int l2] K R I none (.inl (some (.int ρ))) K R I none := by
  refine po_ofC (by decide +kernel) (Nat.le_of_ble_eq_true rfl) (fun X G hF hL => ?_)
  exact w_X8_isAhead_e hF hL HL l0 l1 l2 kl0 hm
set_option maxRecDepth 20000 in
set_option maxHeartbeats 2000000 in
theorem w_X8_urgent_89 {X : po_X} {G : po_G} {st : Nat → Nat} {K : po_K} {R : po_R} {ρ : Int32 × po_I} {r7 : po_I → Nat → Int32 → Int32 → Option (Int32 × po_I)} (hF : po_F X G cX8_urgent RX8 5 st) (hL : po_L X (some .int) 3 0 0 "urgent") (HL : po_Lay K R st) (h7 : ∀ (I : po_I) (l0 : Nat) (l1 : Int32) (l2 : Int32), r7 I l0 l1 l2 = some ρ → K l0 = (19, 19) → po_V X G 5 (po_Q X G (.inl (some (.int ρ.1))) K R (ρ.2) none 0 0) 0 0 7 [(0, .ref l0), (1, .int l1), (2, .int l2)] [] K R I none) (I : po_I) (l0 : Nat) (l1 : Int32) (l2 : Int32) (kl0 : K l0 = (19, 19)) (hm : m_X8_urgent_89 r7 I l0 l1 l2 = some ρ) : po_V X G 5 (po_Q X G (.inl (some (.int ρ.1))) K R (ρ.2) none 0 0) 0 0 89 [(0, .ref l0), (1, .int l1), (2, .int l2)] [] K R I none := by
  unfold m_X8_urgent_89 at hm
  refine po_iinc (v := l2 + 1) (L' := [(2, .int (l2 + 1)), (0, .ref l0), (1, .int l1)]) hF dX8_urgent_89 rfl rfl (by decide) rfl ?_
  refine po_goto (tgt := 7) hF dX8_urgent_92 (by decide) ?_
  refine po_sub (L' := [(0, .ref l0), (1, .int l1), (2, .int (l2 + 1))]) rfl ?_
  exact h7 I l0 l1 (l2 + 1) hm kl0
set_option maxRecDepth 20000 in
set_option maxHeartbeats 2000000 in
theorem w_X8_urgent_65 {X : po_X} {G : po_G} {st : Nat → Nat} {K : po_K} {R : po_R} {ρ : Int32 × po_I} {r7 : po_I → Nat → Int32 → Int32 → Option (Int32 × po_I)} {r22 : po_I → Nat → Int32 → Int32 → Int32 → Int32 → Option (Int32 × po_I)} (hF : po_F X G cX8_urgent RX8 5 st) (hL : po_L X (some .int) 3 0 0 "urgent") (HL : po_Lay K R st) (h7 : ∀ (I : po_I) (l0 : Nat) (l1 : Int32) (l2 : Int32), r7 I l0 l1 l2 = some ρ → K l0 = (19, 19) → po_V X G 5 (po_Q X G (.inl (some (.int ρ.1))) K R (ρ.2) none 0 0) 0 0 7 [(0, .ref l0), (1, .int l1), (2, .int l2)] [] K R I none) (h22 : ∀ (I : po_I) (l0 : Nat) (l1 : Int32) (l2 : Int32) (l3 : Int32) (l4 : Int32), r22 I l0 l1 l2 l3 l4 = some ρ → K l0 = (19, 19) → po_V X G 5 (po_Q X G (.inl (some (.int ρ.1))) K R (ρ.2) none 0 0) 0 0 22 [(0, .ref l0), (1, .int l1), (2, .int l2), (3, .int l3), (4, .int l4)] [] K R I none) (I : po_I) (l0 : Nat) (l1 : Int32) (l2 : Int32) (l4 : Int32) (s0 : Int32) (s1 : Int32) (kl0 : K l0 = (19, 19)) (hm : m_X8_urgent_65 r7 r22 I l0 l1 l2 l4 s0 s1 = some ρ) : po_V X G 5 (po_Q X G (.inl (some (.int ρ.1))) K R (ρ.2) none 0 0) 0 0 65 [(0, .ref l0), (1, .int l1), (2, .int l2), (4, .int l4)] [.int s1, .int s0] K R I none := by
  unfold m_X8_urgent_65 at hm
  refine po_iadd hF dX8_urgent_65 ?_
  refine po_top hm (fun v1 hm => ?_)
  refine po_istore_n (L' := [(3, .int v1), (0, .ref l0), (1, .int l1), (2, .int l2), (4, .int l4)]) hF dX8_urgent_66 rfl (by decide) rfl ?_
  refine po_iinc (v := l4 + 1) (L' := [(4, .int (l4 + 1)), (3, .int v1), (0, .ref l0), (1, .int l1), (2, .int l2)]) hF dX8_urgent_67 rfl rfl (by decide) rfl ?_
  refine po_goto (tgt := 22) hF dX8_urgent_70 (by decide) ?_
  refine po_sub (L' := [(0, .ref l0), (1, .int l1), (2, .int l2), (3, .int v1), (4, .int (l4 + 1))]) rfl ?_
  exact h22 I l0 l1 l2 v1 (l4 + 1) hm kl0
set_option maxRecDepth 20000 in
set_option maxHeartbeats 2000000 in
theorem w_X8_urgent_64 {X : po_X} {G : po_G} {st : Nat → Nat} {K : po_K} {R : po_R} {ρ : Int32 × po_I} {r7 : po_I → Nat → Int32 → Int32 → Option (Int32 × po_I)} {r22 : po_I → Nat → Int32 → Int32 → Int32 → Int32 → Option (Int32 × po_I)} (hF : po_F X G cX8_urgent RX8 5 st) (hL : po_L X (some .int) 3 0 0 "urgent") (HL : po_Lay K R st) (h7 : ∀ (I : po_I) (l0 : Nat) (l1 : Int32) (l2 : Int32), r7 I l0 l1 l2 = some ρ → K l0 = (19, 19) → po_V X G 5 (po_Q X G (.inl (some (.int ρ.1))) K R (ρ.2) none 0 0) 0 0 7 [(0, .ref l0), (1, .int l1), (2, .int l2)] [] K R I none) (h22 : ∀ (I : po_I) (l0 : Nat) (l1 : Int32) (l2 : Int32) (l3 : Int32) (l4 : Int32), r22 I l0 l1 l2 l3 l4 = some ρ → K l0 = (19, 19) → po_V X G 5 (po_Q X G (.inl (some (.int ρ.1))) K R (ρ.2) none 0 0) 0 0 22 [(0, .ref l0), (1, .int l1), (2, .int l2), (3, .int l3), (4, .int l4)] [] K R I none) (I : po_I) (l0 : Nat) (l1 : Int32) (l2 : Int32) (l4 : Int32) (s0 : Int32) (kl0 : K l0 = (19, 19)) (hm : m_X8_urgent_64 r7 r22 I l0 l1 l2 l4 s0 = some ρ) : po_V X G 5 (po_Q X G (.inl (some (.int ρ.1))) K R (ρ.2) none 0 0) 0 0 64 [(0, .ref l0), (1, .int l1), (2, .int l2), (4, .int l4)] [.int s0] K R I none := by
  unfold m_X8_urgent_64 at hm
  refine po_iconst (v := 0) hF dX8_urgent_64 (by decide) ?_
  exact w_X8_urgent_65 hF hL HL h7 h22 I l0 l1 l2 l4 s0 0 kl0 hm
set_option maxRecDepth 20000 in
set_option maxHeartbeats 2000000 in
theorem w_X8_urgent_22 {X : po_X} {G : po_G} {st : Nat → Nat} {K : po_K} {R : po_R} {ρ : Int32 × po_I} {r7 : po_I → Nat → Int32 → Int32 → Option (Int32 × po_I)} {r22 : po_I → Nat → Int32 → Int32 → Int32 → Int32 → Option (Int32 × po_I)} (hF : po_F X G cX8_urgent RX8 5 st) (hL : po_L X (some .int) 3 0 0 "urgent") (HL : po_Lay K R st) (h7 : ∀ (I : po_I) (l0 : Nat) (l1 : Int32) (l2 : Int32), r7 I l0 l1 l2 = some ρ → K l0 = (19, 19) → po_V X G 5 (po_Q X G (.inl (some (.int ρ.1))) K R (ρ.2) none 0 0) 0 0 7 [(0, .ref l0), (1, .int l1), (2, .int l2)] [] K R I none) (h22 : ∀ (I : po_I) (l0 : Nat) (l1 : Int32) (l2 : Int32) (l3 : Int32) (l4 : Int32), r22 I l0 l1 l2 l3 l4 = some ρ → K l0 = (19, 19) → po_V X G 5 (po_Q X G (.inl (some (.int ρ.1))) K R (ρ.2) none 0 0) 0 0 22 [(0, .ref l0), (1, .int l1), (2, .int l2), (3, .int l3), (4, .int l4)] [] K R I none) (I : po_I) (l0 : Nat) (l1 : Int32) (l2 : Int32) (l3 : Int32) (l4 : Int32) (kl0 : K l0 = (19, 19)) (hm : m_X8_urgent_22 r7 r22 I l0 l1 l2 l3 l4 = some ρ) : po_V X G 5 (po_Q X G (.inl (some (.int ρ.1))) K R (ρ.2) none 0 0) 0 0 22 [(0, .ref l0), (1, .int l1), (2, .int l2), (3, .int l3), (4, .int l4)] [] K R I none := by
  unfold m_X8_urgent_22 at hm
  refine po_iload hF dX8_urgent_22 rfl ?_
  refine po_aload_n hF dX8_urgent_24 rfl rfl ?_
  refine po_getf (v := .ref (l0 + 1)) hF dX8_urgent_25 fl_X8_13 kl0 (ly_8_1 HL kl0).1 ?_
  refine po_iconst (v := 2) hF dX8_urgent_28 (by decide) ?_
  refine po_ialdC (j := 2) hF dX8_urgent_29 ((ly_8_1 HL kl0).2) (Or.inl rfl) (by decide) (by decide) (by decide) ?_
  refine po_icmp_ge (tgt := 73) hF dX8_urgent_30 (by decide) hm (fun hm => ?_) (fun hm => ?_)
  · refine po_aload_n hF dX8_urgent_73 rfl rfl ?_
    refine po_iload_n hF dX8_urgent_74 rfl rfl ?_
    obtain ⟨x2, hx2, hm⟩ := po_bind hm
    refine po_callV (As := [.int l2]) hF dX8_urgent_75 wq_1608 mv_X8_group ws_X8_group (show po_cl[8]? = some _ from rfl) rfl kl0 (c_X8_group HL kl0 hx2) rfl (po_rtL hL rfl) (Nat.le_of_ble_eq_true rfl) rfl ?_
    refine po_iconst (v := (-1)) hF dX8_urgent_78 (by decide) ?_
    refine po_icmp_eq (tgt := 89) hF dX8_urgent_79 (by decide) hm (fun hm => ?_) (fun hm => ?_)
    · refine po_sub (L' := [(0, .ref l0), (1, .int l1), (2, .int l2)]) rfl ?_
      exact w_X8_urgent_89 hF hL HL h7 I l0 l1 l2 kl0 hm
    · refine po_iload_n hF dX8_urgent_82 rfl rfl ?_
      refine po_iload_n hF dX8_urgent_83 rfl rfl ?_
      refine po_icmp_ne (tgt := 89) hF dX8_urgent_84 (by decide) hm (fun hm => ?_) (fun hm => ?_)
      · refine po_sub (L' := [(0, .ref l0), (1, .int l1), (2, .int l2)]) rfl ?_
        exact w_X8_urgent_89 hF hL HL h7 I l0 l1 l2 kl0 hm
      · refine po_iload_n hF dX8_urgent_87 rfl rfl ?_
        cases hm
        exact po_iret hF hL dX8_urgent_88 (by decide) (by decide) rfl rfl rfl (Or.inl rfl)
  · refine po_iload_n hF dX8_urgent_33 rfl rfl ?_
    refine po_iload hF dX8_urgent_34 rfl ?_
    refine po_iload_n hF dX8_urgent_36 rfl rfl ?_
    refine po_icmp_eq (tgt := 64) hF dX8_urgent_37 (by decide) hm (fun hm => ?_) (fun hm => ?_)
    · refine po_sub (L' := [(0, .ref l0), (1, .int l1), (2, .int l2), (4, .int l4)]) rfl ?_
      exact w_X8_urgent_64 hF hL HL h7 h22 I l0 l1 l2 l4 l3 kl0 hm
    · refine po_aload_n hF dX8_urgent_40 rfl rfl ?_
      refine po_iload hF dX8_urgent_41 rfl ?_
      obtain ⟨x3, hx3, hm⟩ := po_bind hm
      refine po_callV (As := [.int l4]) hF dX8_urgent_43 wq_1608 mv_X8_group ws_X8_group (show po_cl[8]? = some _ from rfl) rfl kl0 (c_X8_group HL kl0 hx3) rfl (po_rtL hL rfl) (Nat.le_of_ble_eq_true rfl) rfl ?_
      refine po_iconst (v := (-1)) hF dX8_urgent_46 (by decide) ?_
      refine po_icmp_eq (tgt := 64) hF dX8_urgent_47 (by decide) hm (fun hm => ?_) (fun hm => ?_)
      · refine po_sub (L' := [(0, .ref l0), (1, .int l1), (2, .int l2), (4, .int l4)]) rfl ?_
        exact w_X8_urgent_64 hF hL HL h7 h22 I l0 l1 l2 l4 l3 kl0 hm
      · refine po_aload_n hF dX8_urgent_50 rfl rfl ?_
        refine po_iload hF dX8_urgent_51 rfl ?_
        refine po_iload_n hF dX8_urgent_53 rfl rfl ?_
        obtain ⟨x4, hx4, hm⟩ := po_bind hm
        refine po_callV (As := [.int l4, .int l2]) hF dX8_urgent_54 wq_1612 mv_X8_isAhead ws_X8_isAhead (show po_cl[8]? = some _ from rfl) rfl kl0 (c_X8_isAhead HL kl0 hx4) rfl (po_rtL hL rfl) (Nat.le_of_ble_eq_true rfl) rfl ?_
        refine po_if_eq (tgt := 64) hF dX8_urgent_57 (by decide) hm (fun hm => ?_) (fun hm => ?_)
        · refine po_sub (L' := [(0, .ref l0), (1, .int l1), (2, .int l2), (4, .int l4)]) rfl ?_
          exact w_X8_urgent_64 hF hL HL h7 h22 I l0 l1 l2 l4 l3 kl0 hm
        · refine po_iconst (v := 1) hF dX8_urgent_60 (by decide) ?_
          refine po_goto (tgt := 65) hF dX8_urgent_61 (by decide) ?_
          refine po_sub (L' := [(0, .ref l0), (1, .int l1), (2, .int l2), (4, .int l4)]) rfl ?_
          exact w_X8_urgent_65 hF hL HL h7 h22 I l0 l1 l2 l4 l3 1 kl0 hm
theorem w_X8_urgent_22L {X : po_X} {G : po_G} {st : Nat → Nat} {K : po_K} {R : po_R} {ρ : Int32 × po_I} {r7 : po_I → Nat → Int32 → Int32 → Option (Int32 × po_I)} (hF : po_F X G cX8_urgent RX8 5 st) (hL : po_L X (some .int) 3 0 0 "urgent") (HL : po_Lay K R st) (h7 : ∀ (I : po_I) (l0 : Nat) (l1 : Int32) (l2 : Int32), r7 I l0 l1 l2 = some ρ → K l0 = (19, 19) → po_V X G 5 (po_Q X G (.inl (some (.int ρ.1))) K R (ρ.2) none 0 0) 0 0 7 [(0, .ref l0), (1, .int l1), (2, .int l2)] [] K R I none) : ∀ (n : Nat) (I : po_I) (l0 : Nat) (l1 : Int32) (l2 : Int32) (l3 : Int32) (l4 : Int32), m_X8_urgent_22L r7 n I l0 l1 l2 l3 l4 = some ρ → K l0 = (19, 19) → po_V X G 5 (po_Q X G (.inl (some (.int ρ.1))) K R (ρ.2) none 0 0) 0 0 22 [(0, .ref l0), (1, .int l1), (2, .int l2), (3, .int l3), (4, .int l4)] [] K R I none := by
  intro n
  induction n with
  | zero => intro I l0 l1 l2 l3 l4 hm; cases hm
  | succ n ih => intro I l0 l1 l2 l3 l4 hm kl0; exact w_X8_urgent_22 hF hL HL h7 (ih) I l0 l1 l2 l3 l4 kl0 hm
set_option maxRecDepth 20000 in
set_option maxHeartbeats 2000000 in
theorem w_X8_urgent_7 {X : po_X} {G : po_G} {st : Nat → Nat} {K : po_K} {R : po_R} {ρ : Int32 × po_I} {r7 : po_I → Nat → Int32 → Int32 → Option (Int32 × po_I)} (hF : po_F X G cX8_urgent RX8 5 st) (hL : po_L X (some .int) 3 0 0 "urgent") (HL : po_Lay K R st) (h7 : ∀ (I : po_I) (l0 : Nat) (l1 : Int32) (l2 : Int32), r7 I l0 l1 l2 = some ρ → K l0 = (19, 19) → po_V X G 5 (po_Q X G (.inl (some (.int ρ.1))) K R (ρ.2) none 0 0) 0 0 7 [(0, .ref l0), (1, .int l1), (2, .int l2)] [] K R I none) (I : po_I) (l0 : Nat) (l1 : Int32) (l2 : Int32) (kl0 : K l0 = (19, 19)) (hm : m_X8_urgent_7 r7 I l0 l1 l2 = some ρ) : po_V X G 5 (po_Q X G (.inl (some (.int ρ.1))) K R (ρ.2) none 0 0) 0 0 7 [(0, .ref l0), (1, .int l1), (2, .int l2)] [] K R I none := by
  unfold m_X8_urgent_7 at hm
  refine po_iload_n hF dX8_urgent_7 rfl rfl ?_
  refine po_aload_n hF dX8_urgent_8 rfl rfl ?_
  refine po_getf (v := .ref (l0 + 1)) hF dX8_urgent_9 fl_X8_13 kl0 (ly_8_1 HL kl0).1 ?_
  refine po_iconst (v := 2) hF dX8_urgent_12 (by decide) ?_
  refine po_ialdC (j := 2) hF dX8_urgent_13 ((ly_8_1 HL kl0).2) (Or.inl rfl) (by decide) (by decide) (by decide) ?_
  refine po_icmp_ge (tgt := 95) hF dX8_urgent_14 (by decide) hm (fun hm => ?_) (fun hm => ?_)
  · refine po_aload_n hF dX8_urgent_95 rfl rfl ?_
    refine po_iconst (v := 1) hF dX8_urgent_96 (by decide) ?_
    obtain ⟨x5, hx5, hm⟩ := po_bind hm
    refine po_callV (As := [.int 1]) hF dX8_urgent_97 wq_1285 mv_X8_fail ws_X8_fail (show po_cl[8]? = some _ from rfl) rfl kl0 (c_X8_fail HL kl0 hx5) rfl (po_rtL hL rfl) (Nat.le_of_ble_eq_true rfl) rfl ?_
    cases hm
    exact po_iret hF hL dX8_urgent_100 (by decide) (by decide) rfl rfl rfl (Or.inl rfl)
  · refine po_iconst (v := 0) hF dX8_urgent_17 (by decide) ?_
    refine po_istore_n (L' := [(3, .int 0), (0, .ref l0), (1, .int l1), (2, .int l2)]) hF dX8_urgent_18 rfl (by decide) rfl ?_
    refine po_iconst (v := 0) hF dX8_urgent_19 (by decide) ?_
    refine po_istore (L' := [(4, .int 0), (3, .int 0), (0, .ref l0), (1, .int l1), (2, .int l2)]) hF dX8_urgent_20 (by decide) rfl ?_
    refine po_sub (L' := [(0, .ref l0), (1, .int l1), (2, .int l2), (3, .int 0), (4, .int 0)]) rfl ?_
    exact w_X8_urgent_22L hF hL HL h7 5000 I l0 l1 l2 0 0 hm kl0
theorem w_X8_urgent_7L {X : po_X} {G : po_G} {st : Nat → Nat} {K : po_K} {R : po_R} {ρ : Int32 × po_I} (hF : po_F X G cX8_urgent RX8 5 st) (hL : po_L X (some .int) 3 0 0 "urgent") (HL : po_Lay K R st) : ∀ (n : Nat) (I : po_I) (l0 : Nat) (l1 : Int32) (l2 : Int32), m_X8_urgent_7L n I l0 l1 l2 = some ρ → K l0 = (19, 19) → po_V X G 5 (po_Q X G (.inl (some (.int ρ.1))) K R (ρ.2) none 0 0) 0 0 7 [(0, .ref l0), (1, .int l1), (2, .int l2)] [] K R I none := by
  intro n
  induction n with
  | zero => intro I l0 l1 l2 hm; cases hm
  | succ n ih => intro I l0 l1 l2 hm kl0; exact w_X8_urgent_7 hF hL HL (ih) I l0 l1 l2 kl0 hm
set_option maxRecDepth 20000 in
set_option maxHeartbeats 2000000 in
theorem w_X8_urgent_e {X : po_X} {G : po_G} {st : Nat → Nat} {K : po_K} {R : po_R} {ρ : Int32 × po_I} (hF : po_F X G cX8_urgent RX8 5 st) (hL : po_L X (some .int) 3 0 0 "urgent") (HL : po_Lay K R st) (I : po_I) (l0 : Nat) (l1 : Int32) (kl0 : K l0 = (19, 19)) (hm : m_X8_urgent_e I l0 l1 = some ρ) : po_V X G 5 (po_Q X G (.inl (some (.int ρ.1))) K R (ρ.2) none 0 0) 0 0 0 [(0, .ref l0), (1, .int l1)] [] K R I none := by
  unfold m_X8_urgent_e at hm
  refine po_aload_n hF dX8_urgent_0 rfl rfl ?_
  refine po_iconst (v := 0) hF dX8_urgent_1 (by decide) ?_
  refine po_puti hF dX8_urgent_2 fl_X8_1 kl0 (by intro r h; cases h; rfl) rfl rfl (fun _ => rfl) rfl ?_
  refine po_hname hm (fun I6 hm => ?_)
  refine po_iconst (v := 0) hF dX8_urgent_5 (by decide) ?_
  refine po_istore_n (L' := [(2, .int 0), (0, .ref l0), (1, .int l1)]) hF dX8_urgent_6 rfl (by decide) rfl ?_
  refine po_sub (L' := [(0, .ref l0), (1, .int l1), (2, .int 0)]) rfl ?_
  exact w_X8_urgent_7L hF hL HL 5000 I6 l0 l1 0 hm kl0
theorem c_X8_urgent {K : po_K} {R : po_R} {I : po_I} {st : Nat → Nat} {ρ : Int32 × po_I} (HL : po_Lay K R st) {l0 : Nat} {l1 : Int32} (kl0 : K l0 = (19, 19)) (hm : m_X8_urgent I l0 l1 = some ρ) : po_C st yX8_urgent cX8_urgent 5 (some .int) 3 0 0 [.ref l0, .int l1] K R I none (.inl (some (.int ρ.1))) K R (ρ.2) none := by
  refine po_ofC (by decide +kernel) (Nat.le_of_ble_eq_true rfl) (fun X G hF hL => ?_)
  exact w_X8_urgent_e hF hL HL I l0 l1 kl0 hm
set_option maxRecDepth 20000 in
set_option maxHeartbeats 2000000 in
theorem w_X8_namedBy_4 {X : po_X} {G : po_G} {st : Nat → Nat} {K : po_K} {I : po_I} {R : po_R} {ρ : Int32} {r4 : Nat → Int32 → Int32 → Int32 → Option (Int32)} (hF : po_F X G cX8_namedBy RX8 4 st) (hL : po_L X (some .int) 1 0 0 "namedBy") (HL : po_Lay K R st) (h4 : ∀ (l0 : Nat) (l1 : Int32) (l2 : Int32) (l3 : Int32), r4 l0 l1 l2 l3 = some ρ → K l0 = (19, 19) → po_V X G 4 (po_Q X G (.inl (some (.int ρ))) K R I none 0 0) 0 0 4 [(0, .ref l0), (1, .int l1), (2, .int l2), (3, .int l3)] [] K R I none) (l0 : Nat) (l1 : Int32) (l2 : Int32) (l3 : Int32) (kl0 : K l0 = (19, 19)) (hm : m_X8_namedBy_4 I r4 l0 l1 l2 l3 = some ρ) : po_V X G 4 (po_Q X G (.inl (some (.int ρ))) K R I none 0 0) 0 0 4 [(0, .ref l0), (1, .int l1), (2, .int l2), (3, .int l3)] [] K R I none := by
  unfold m_X8_namedBy_4 at hm
  refine po_iload_n hF dX8_namedBy_4 rfl rfl ?_
  refine po_aload_n hF dX8_namedBy_5 rfl rfl ?_
  refine po_getf (v := .ref (l0 + 1)) hF dX8_namedBy_6 fl_X8_13 kl0 (ly_8_1 HL kl0).1 ?_
  refine po_iconst (v := 2) hF dX8_namedBy_9 (by decide) ?_
  refine po_ialdC (j := 2) hF dX8_namedBy_10 ((ly_8_1 HL kl0).2) (Or.inl rfl) (by decide) (by decide) (by decide) ?_
  refine po_icmp_ge (tgt := 34) hF dX8_namedBy_11 (by decide) hm (fun hm => ?_) (fun hm => ?_)
  · refine po_iload_n hF dX8_namedBy_34 rfl rfl ?_
    cases hm
    exact po_iret hF hL dX8_namedBy_35 (by decide) (by decide) rfl rfl rfl (Or.inl rfl)
  · refine po_iload_n hF dX8_namedBy_14 rfl rfl ?_
    refine po_aload_n hF dX8_namedBy_15 rfl rfl ?_
    refine po_iload_n hF dX8_namedBy_16 rfl rfl ?_
    refine po_bipush (v := 24) hF dX8_namedBy_17 (by decide) ?_
    obtain ⟨x1, hx1, hm⟩ := po_bind hm
    refine po_callV (As := [.int l3, .int 24]) hF dX8_namedBy_19 wq_1380 mv_X8_at ws_X8_at (show po_cl[8]? = some _ from rfl) rfl kl0 (c_X8_at HL kl0 hx1) rfl (po_rtL hL rfl) (Nat.le_of_ble_eq_true rfl) rfl ?_
    refine po_iload_n hF dX8_namedBy_22 rfl rfl ?_
    refine po_ishr hF dX8_namedBy_23 ?_
    refine po_iconst (v := 1) hF dX8_namedBy_24 (by decide) ?_
    refine po_iand hF dX8_namedBy_25 ?_
    refine po_iadd hF dX8_namedBy_26 ?_
    refine po_top hm (fun v2 hm => ?_)
    refine po_istore_n (L' := [(2, .int v2), (0, .ref l0), (1, .int l1), (3, .int l3)]) hF dX8_namedBy_27 rfl (by decide) rfl ?_
    refine po_iinc (v := l3 + 1) (L' := [(3, .int (l3 + 1)), (2, .int v2), (0, .ref l0), (1, .int l1)]) hF dX8_namedBy_28 rfl rfl (by decide) rfl ?_
    refine po_goto (tgt := 4) hF dX8_namedBy_31 (by decide) ?_
    refine po_sub (L' := [(0, .ref l0), (1, .int l1), (2, .int v2), (3, .int (l3 + 1))]) rfl ?_
    exact h4 l0 l1 v2 (l3 + 1) hm kl0
theorem w_X8_namedBy_4L {X : po_X} {G : po_G} {st : Nat → Nat} {K : po_K} {I : po_I} {R : po_R} {ρ : Int32} (hF : po_F X G cX8_namedBy RX8 4 st) (hL : po_L X (some .int) 1 0 0 "namedBy") (HL : po_Lay K R st) : ∀ (n : Nat) (l0 : Nat) (l1 : Int32) (l2 : Int32) (l3 : Int32), m_X8_namedBy_4L I n l0 l1 l2 l3 = some ρ → K l0 = (19, 19) → po_V X G 4 (po_Q X G (.inl (some (.int ρ))) K R I none 0 0) 0 0 4 [(0, .ref l0), (1, .int l1), (2, .int l2), (3, .int l3)] [] K R I none := by
  intro n
  induction n with
  | zero => intro l0 l1 l2 l3 hm; cases hm
  | succ n ih => intro l0 l1 l2 l3 hm kl0; exact w_X8_namedBy_4 hF hL HL (ih) l0 l1 l2 l3 kl0 hm
set_option maxRecDepth 20000 in
set_option maxHeartbeats 2000000 in
theorem w_X8_namedBy_e {X : po_X} {G : po_G} {st : Nat → Nat} {K : po_K} {I : po_I} {R : po_R} {ρ : Int32} (hF : po_F X G cX8_namedBy RX8 4 st) (hL : po_L X (some .int) 1 0 0 "namedBy") (HL : po_Lay K R st) (l0 : Nat) (l1 : Int32) (kl0 : K l0 = (19, 19)) (hm : m_X8_namedBy_e I l0 l1 = some ρ) : po_V X G 4 (po_Q X G (.inl (some (.int ρ))) K R I none 0 0) 0 0 0 [(0, .ref l0), (1, .int l1)] [] K R I none := by
  unfold m_X8_namedBy_e at hm
  refine po_iconst (v := 0) hF dX8_namedBy_0 (by decide) ?_
  refine po_istore_n (L' := [(2, .int 0), (0, .ref l0), (1, .int l1)]) hF dX8_namedBy_1 rfl (by decide) rfl ?_
  refine po_iconst (v := 0) hF dX8_namedBy_2 (by decide) ?_
  refine po_istore_n (L' := [(3, .int 0), (2, .int 0), (0, .ref l0), (1, .int l1)]) hF dX8_namedBy_3 rfl (by decide) rfl ?_
  refine po_sub (L' := [(0, .ref l0), (1, .int l1), (2, .int 0), (3, .int 0)]) rfl ?_
  exact w_X8_namedBy_4L hF hL HL 5000 l0 l1 0 0 hm kl0
theorem c_X8_namedBy {K : po_K} {R : po_R} {I : po_I} {st : Nat → Nat} {ρ : Int32} (HL : po_Lay K R st) {l0 : Nat} {l1 : Int32} (kl0 : K l0 = (19, 19)) (hm : m_X8_namedBy I l0 l1 = some ρ) : po_C st yX8_namedBy cX8_namedBy 4 (some .int) 1 0 0 [.ref l0, .int l1] K R I none (.inl (some (.int ρ))) K R I none := by
  refine po_ofC (by decide +kernel) (Nat.le_of_ble_eq_true rfl) (fun X G hF hL => ?_)
  exact w_X8_namedBy_e hF hL HL l0 l1 kl0 hm
set_option maxRecDepth 20000 in
set_option maxHeartbeats 2000000 in
theorem w_X8_variance_89 {X : po_X} {G : po_G} {st : Nat → Nat} {K : po_K} {R : po_R} {ρ : Int32 × po_I} (hF : po_F X G cX8_variance RX8 3 st) (hL : po_L X (some .int) 2 0 0 "variance") (HL : po_Lay K R st) (I : po_I) (s0 : Int32) (hm : m_X8_variance_89 I s0 = some ρ) : po_V X G 3 (po_Q X G (.inl (some (.int ρ.1))) K R (ρ.2) none 0 0) 0 0 89 [] [.int s0] K R I none := by
  unfold m_X8_variance_89 at hm
  cases hm
  exact po_iret hF hL dX8_variance_89 (by decide) (by decide) rfl rfl rfl (Or.inl rfl)
set_option maxRecDepth 20000 in
set_option maxHeartbeats 2000000 in
theorem w_X8_variance_35 {X : po_X} {G : po_G} {st : Nat → Nat} {K : po_K} {R : po_R} {ρ : Int32 × po_I} (hF : po_F X G cX8_variance RX8 3 st) (hL : po_L X (some .int) 2 0 0 "variance") (HL : po_Lay K R st) (I : po_I) (l0 : Nat) (l1 : Int32) (l2 : Int32) (s0 : Nat) (s1 : Int32) (kl0 : K l0 = (19, 19)) (ks0 : K s0 = (19, 19)) (hm : m_X8_variance_35 I l0 l1 l2 s0 s1 = some ρ) : po_V X G 3 (po_Q X G (.inl (some (.int ρ.1))) K R (ρ.2) none 0 0) 0 0 35 [(0, .ref l0), (1, .int l1), (2, .int l2)] [.int s1, .ref s0] K R I none := by
  unfold m_X8_variance_35 at hm
  refine po_puti hF dX8_variance_35 fl_X8_1 ks0 (by intro r h; cases h; rfl) rfl rfl (fun _ => rfl) rfl ?_
  refine po_hname hm (fun I1 hm => ?_)
  refine po_aload_n hF dX8_variance_38 rfl rfl ?_
  refine po_getf (v := .int (I1 l0 0)) hF dX8_variance_39 fl_X8_1 kl0 rfl ?_
  refine po_if_eq (tgt := 49) hF dX8_variance_42 (by decide) hm (fun hm => ?_) (fun hm => ?_)
  · refine po_iload_n hF dX8_variance_49 rfl rfl ?_
    refine po_iconst (v := 4) hF dX8_variance_50 (by decide) ?_
    refine po_icmp_ge (tgt := 63) hF dX8_variance_51 (by decide) hm (fun hm => ?_) (fun hm => ?_)
    · refine po_iload_n hF dX8_variance_63 rfl rfl ?_
      refine po_iconst (v := 4) hF dX8_variance_64 (by decide) ?_
      refine po_icmp_ne (tgt := 76) hF dX8_variance_65 (by decide) hm (fun hm => ?_) (fun hm => ?_)
      · refine po_aload_n hF dX8_variance_76 rfl rfl ?_
        refine po_iload_n hF dX8_variance_77 rfl rfl ?_
        obtain ⟨x2, hx2, hm⟩ := po_bind hm
        refine po_callV (As := [.int l1]) hF dX8_variance_78 wq_1559 mv_X8_isInForce ws_X8_isInForce (show po_cl[8]? = some _ from rfl) rfl kl0 (c_X8_isInForce HL kl0 hx2) rfl (po_rtL hL rfl) (Nat.le_of_ble_eq_true rfl) rfl ?_
        refine po_if_eq (tgt := 88) hF dX8_variance_81 (by decide) hm (fun hm => ?_) (fun hm => ?_)
        · refine po_iconst (v := 0) hF dX8_variance_88 (by decide) ?_
          refine po_sub (L' := []) rfl ?_
          exact w_X8_variance_89 hF hL HL I1 0 hm
        · refine po_iconst (v := 1) hF dX8_variance_84 (by decide) ?_
          refine po_goto (tgt := 89) hF dX8_variance_85 (by decide) ?_
          refine po_sub (L' := []) rfl ?_
          exact w_X8_variance_89 hF hL HL I1 1 hm
      · refine po_aload_n hF dX8_variance_68 rfl rfl ?_
        refine po_iload_n hF dX8_variance_69 rfl rfl ?_
        obtain ⟨x3, hx3, hm⟩ := po_bind hm
        refine po_callV (As := [.int l1]) hF dX8_variance_70 wq_1620 mv_X8_namedBy ws_X8_namedBy (show po_cl[8]? = some _ from rfl) rfl kl0 (c_X8_namedBy HL kl0 hx3) rfl (po_rtL hL rfl) (Nat.le_of_ble_eq_true rfl) rfl ?_
        refine po_goto (tgt := 89) hF dX8_variance_73 (by decide) ?_
        refine po_sub (L' := []) rfl ?_
        exact w_X8_variance_89 hF hL HL I1 x3 hm
    · refine po_aload_n hF dX8_variance_54 rfl rfl ?_
      refine po_iload_n hF dX8_variance_55 rfl rfl ?_
      refine po_iload_n hF dX8_variance_56 rfl rfl ?_
      obtain ⟨x4, hx4, hm⟩ := po_bind hm
      refine po_callV (As := [.int l1, .int l2]) hF dX8_variance_57 wq_1563 mv_X8_variancePart ws_X8_variancePart (show po_cl[8]? = some _ from rfl) rfl kl0 (c_X8_variancePart HL kl0 hx4) rfl (po_rtL hL rfl) (Nat.le_of_ble_eq_true rfl) rfl ?_
      refine po_goto (tgt := 89) hF dX8_variance_60 (by decide) ?_
      refine po_sub (L' := []) rfl ?_
      exact w_X8_variance_89 hF hL HL I1 x4 hm
  · refine po_iconst (v := 0) hF dX8_variance_45 (by decide) ?_
    refine po_goto (tgt := 89) hF dX8_variance_46 (by decide) ?_
    refine po_sub (L' := []) rfl ?_
    exact w_X8_variance_89 hF hL HL I1 0 hm
set_option maxRecDepth 20000 in
set_option maxHeartbeats 2000000 in
theorem w_X8_variance_e {X : po_X} {G : po_G} {st : Nat → Nat} {K : po_K} {R : po_R} {ρ : Int32 × po_I} (hF : po_F X G cX8_variance RX8 3 st) (hL : po_L X (some .int) 2 0 0 "variance") (HL : po_Lay K R st) (I : po_I) (l0 : Nat) (l1 : Int32) (l2 : Int32) (kl0 : K l0 = (19, 19)) (hm : m_X8_variance_e I l0 l1 l2 = some ρ) : po_V X G 3 (po_Q X G (.inl (some (.int ρ.1))) K R (ρ.2) none 0 0) 0 0 0 [(0, .ref l0), (1, .int l1), (2, .int l2)] [] K R I none := by
  unfold m_X8_variance_e at hm
  refine po_aload_n hF dX8_variance_0 rfl rfl ?_
  refine po_iload_n hF dX8_variance_1 rfl rfl ?_
  refine po_iconst (v := 0) hF dX8_variance_2 (by decide) ?_
  refine po_aload_n hF dX8_variance_3 rfl rfl ?_
  refine po_getf (v := .ref (l0 + 1)) hF dX8_variance_4 fl_X8_13 kl0 (ly_8_1 HL kl0).1 ?_
  refine po_iconst (v := 3) hF dX8_variance_7 (by decide) ?_
  refine po_ialdC (j := 3) hF dX8_variance_8 ((ly_8_1 HL kl0).2) (Or.inl rfl) (by decide) (by decide) (by decide) ?_
  refine po_iconst (v := 1) hF dX8_variance_9 (by decide) ?_
  refine po_isub hF dX8_variance_10 ?_
  obtain ⟨x5, hx5, hm⟩ := po_bind hm
  refine po_callS (As := [.int l1, .int 0, .int ((I (l0 + 1) 3) - 1)]) hF dX8_variance_11 wq_1282 mv_X8_isIn (c_X8_isIn HL hx5) rfl (po_rtL hL rfl) (Nat.le_of_ble_eq_true rfl) rfl ?_
  refine po_if_ne (tgt := 21) hF dX8_variance_14 (by decide) hm (fun hm => ?_) (fun hm => ?_)
  · refine po_iload_n hF dX8_variance_21 rfl rfl ?_
    refine po_iconst (v := 0) hF dX8_variance_22 (by decide) ?_
    refine po_iconst (v := 5) hF dX8_variance_23 (by decide) ?_
    obtain ⟨x6, hx6, hm⟩ := po_bind hm
    refine po_callS (As := [.int l2, .int 0, .int 5]) hF dX8_variance_24 wq_1282 mv_X8_isIn (c_X8_isIn HL hx6) rfl (po_rtL hL rfl) (Nat.le_of_ble_eq_true rfl) rfl ?_
    refine po_if_ne (tgt := 34) hF dX8_variance_27 (by decide) hm (fun hm => ?_) (fun hm => ?_)
    · refine po_iconst (v := 0) hF dX8_variance_34 (by decide) ?_
      exact w_X8_variance_35 hF hL HL I l0 l1 l2 l0 0 kl0 kl0 hm
    · refine po_iconst (v := 2) hF dX8_variance_30 (by decide) ?_
      refine po_goto (tgt := 35) hF dX8_variance_31 (by decide) ?_
      exact w_X8_variance_35 hF hL HL I l0 l1 l2 l0 2 kl0 kl0 hm
  · refine po_iconst (v := 1) hF dX8_variance_17 (by decide) ?_
    refine po_goto (tgt := 35) hF dX8_variance_18 (by decide) ?_
    exact w_X8_variance_35 hF hL HL I l0 l1 l2 l0 1 kl0 kl0 hm
theorem c_X8_variance {K : po_K} {R : po_R} {I : po_I} {st : Nat → Nat} {ρ : Int32 × po_I} (HL : po_Lay K R st) {l0 : Nat} {l1 : Int32} {l2 : Int32} (kl0 : K l0 = (19, 19)) (hm : m_X8_variance I l0 l1 l2 = some ρ) : po_C st yX8_variance cX8_variance 3 (some .int) 2 0 0 [.ref l0, .int l1, .int l2] K R I none (.inl (some (.int ρ.1))) K R (ρ.2) none := by
  refine po_ofC (by decide +kernel) (Nat.le_of_ble_eq_true rfl) (fun X G hF hL => ?_)
  exact w_X8_variance_e hF hL HL I l0 l1 l2 kl0 hm
set_option maxRecDepth 20000 in
set_option maxHeartbeats 2000000 in
theorem w_X8_needed_108 {X : po_X} {G : po_G} {st : Nat → Nat} {K : po_K} {R : po_R} {ρ : Int32 × po_I} (hF : po_F X G cX8_needed RX8 6 st) (hL : po_L X (some .int) 7 0 0 "needed") (HL : po_Lay K R st) (I : po_I) (s0 : Int32) (hm : m_X8_needed_108 I s0 = some ρ) : po_V X G 6 (po_Q X G (.inl (some (.int ρ.1))) K R (ρ.2) none 0 0) 0 0 108 [] [.int s0] K R I none := by
  unfold m_X8_needed_108 at hm
  cases hm
  exact po_iret hF hL dX8_needed_108 (by decide) (by decide) rfl rfl rfl (Or.inl rfl)
set_option maxRecDepth 20000 in
set_option maxHeartbeats 2000000 in
theorem w_X8_needed_95 {X : po_X} {G : po_G} {st : Nat → Nat} {K : po_K} {R : po_R} {ρ : Int32 × po_I} (hF : po_F X G cX8_needed RX8 6 st) (hL : po_L X (some .int) 7 0 0 "needed") (HL : po_Lay K R st) (I : po_I) (l5 : Int32) (hm : m_X8_needed_95 I l5 = some ρ) : po_V X G 6 (po_Q X G (.inl (some (.int ρ.1))) K R (ρ.2) none 0 0) 0 0 95 [(5, .int l5)] [] K R I none := by
  unfold m_X8_needed_95 at hm
  refine po_iload hF dX8_needed_95 rfl ?_
  refine po_bipush (v := 100) hF dX8_needed_97 (by decide) ?_
  refine po_icmp_ne (tgt := 106) hF dX8_needed_99 (by decide) hm (fun hm => ?_) (fun hm => ?_)
  · refine po_iload hF dX8_needed_106 rfl ?_
    refine po_sub (L' := []) rfl ?_
    exact w_X8_needed_108 hF hL HL I l5 hm
  · refine po_iconst (v := (-1)) hF dX8_needed_102 (by decide) ?_
    refine po_goto (tgt := 108) hF dX8_needed_103 (by decide) ?_
    refine po_sub (L' := []) rfl ?_
    exact w_X8_needed_108 hF hL HL I (-1) hm
set_option maxRecDepth 20000 in
set_option maxHeartbeats 2000000 in
theorem w_X8_needed_70 {X : po_X} {G : po_G} {st : Nat → Nat} {K : po_K} {R : po_R} {ρ : Int32 × po_I} {r70 : po_I → Int32 → Int32 → Int32 → Int32 → Option (Int32 × po_I)} (hF : po_F X G cX8_needed RX8 6 st) (hL : po_L X (some .int) 7 0 0 "needed") (HL : po_Lay K R st) (h70 : ∀ (I : po_I) (l2 : Int32) (l3 : Int32) (l4 : Int32) (l5 : Int32), r70 I l2 l3 l4 l5 = some ρ → po_V X G 6 (po_Q X G (.inl (some (.int ρ.1))) K R (ρ.2) none 0 0) 0 0 70 [(2, .int l2), (3, .int l3), (4, .int l4), (5, .int l5)] [] K R I none) (I : po_I) (l2 : Int32) (l3 : Int32) (l4 : Int32) (l5 : Int32) (hm : m_X8_needed_70 r70 I l2 l3 l4 l5 = some ρ) : po_V X G 6 (po_Q X G (.inl (some (.int ρ.1))) K R (ρ.2) none 0 0) 0 0 70 [(2, .int l2), (3, .int l3), (4, .int l4), (5, .int l5)] [] K R I none := by
  unfold m_X8_needed_70 at hm
  refine po_iload hF dX8_needed_70 rfl ?_
  refine po_bipush (v := 100) hF dX8_needed_72 (by decide) ?_
  refine po_icmp_ge (tgt := 95) hF dX8_needed_74 (by decide) hm (fun hm => ?_) (fun hm => ?_)
  · refine po_sub (L' := [(5, .int l5)]) rfl ?_
    exact w_X8_needed_95 hF hL HL I l5 hm
  · refine po_iload_n hF dX8_needed_77 rfl rfl ?_
    refine po_iload_n hF dX8_needed_78 rfl rfl ?_
    refine po_iload hF dX8_needed_79 rfl ?_
    refine po_iload hF dX8_needed_81 rfl ?_
    obtain ⟨x1, hx1, hm⟩ := po_bind hm
    refine po_callS (As := [.int l2, .int l3, .int l4, .int l5]) hF dX8_needed_83 wq_1567 mv_X8_helps (c_X8_helps HL hx1) rfl (po_rtL hL rfl) (Nat.le_of_ble_eq_true rfl) rfl ?_
    refine po_if_ne (tgt := 95) hF dX8_needed_86 (by decide) hm (fun hm => ?_) (fun hm => ?_)
    · refine po_sub (L' := [(5, .int l5)]) rfl ?_
      exact w_X8_needed_95 hF hL HL I l5 hm
    · refine po_iinc (v := l5 + 1) (L' := [(5, .int (l5 + 1)), (2, .int l2), (3, .int l3), (4, .int l4)]) hF dX8_needed_89 rfl rfl (by decide) rfl ?_
      refine po_goto (tgt := 70) hF dX8_needed_92 (by decide) ?_
      refine po_sub (L' := [(2, .int l2), (3, .int l3), (4, .int l4), (5, .int (l5 + 1))]) rfl ?_
      exact h70 I l2 l3 l4 (l5 + 1) hm
theorem w_X8_needed_70L {X : po_X} {G : po_G} {st : Nat → Nat} {K : po_K} {R : po_R} {ρ : Int32 × po_I} (hF : po_F X G cX8_needed RX8 6 st) (hL : po_L X (some .int) 7 0 0 "needed") (HL : po_Lay K R st) : ∀ (n : Nat) (I : po_I) (l2 : Int32) (l3 : Int32) (l4 : Int32) (l5 : Int32), m_X8_needed_70L n I l2 l3 l4 l5 = some ρ → po_V X G 6 (po_Q X G (.inl (some (.int ρ.1))) K R (ρ.2) none 0 0) 0 0 70 [(2, .int l2), (3, .int l3), (4, .int l4), (5, .int l5)] [] K R I none := by
  intro n
  induction n with
  | zero => intro I l2 l3 l4 l5 hm; cases hm
  | succ n ih => intro I l2 l3 l4 l5 hm; exact w_X8_needed_70 hF hL HL (ih) I l2 l3 l4 l5 hm
set_option maxRecDepth 20000 in
set_option maxHeartbeats 2000000 in
theorem w_X8_needed_28 {X : po_X} {G : po_G} {st : Nat → Nat} {K : po_K} {R : po_R} {ρ : Int32 × po_I} (hF : po_F X G cX8_needed RX8 6 st) (hL : po_L X (some .int) 7 0 0 "needed") (HL : po_Lay K R st) (I : po_I) (l0 : Nat) (l1 : Int32) (l2 : Int32) (s0 : Nat) (s1 : Int32) (kl0 : K l0 = (19, 19)) (ks0 : K s0 = (19, 19)) (hm : m_X8_needed_28 I l0 l1 l2 s0 s1 = some ρ) : po_V X G 6 (po_Q X G (.inl (some (.int ρ.1))) K R (ρ.2) none 0 0) 0 0 28 [(0, .ref l0), (1, .int l1), (2, .int l2)] [.int s1, .ref s0] K R I none := by
  unfold m_X8_needed_28 at hm
  refine po_puti hF dX8_needed_28 fl_X8_1 ks0 (by intro r h; cases h; rfl) rfl rfl (fun _ => rfl) rfl ?_
  refine po_hname hm (fun I2 hm => ?_)
  refine po_aload_n hF dX8_needed_31 rfl rfl ?_
  refine po_getf (v := .int (I2 l0 0)) hF dX8_needed_32 fl_X8_1 kl0 rfl ?_
  refine po_if_eq (tgt := 40) hF dX8_needed_35 (by decide) hm (fun hm => ?_) (fun hm => ?_)
  · refine po_aload_n hF dX8_needed_40 rfl rfl ?_
    refine po_iload_n hF dX8_needed_41 rfl rfl ?_
    refine po_iload_n hF dX8_needed_42 rfl rfl ?_
    obtain ⟨x3, hx3, hm⟩ := po_bind hm
    refine po_callV (As := [.int l1, .int l2]) hF dX8_needed_43 wq_1533 mv_X8_measure ws_X8_measure (show po_cl[8]? = some _ from rfl) rfl kl0 (c_X8_measure HL kl0 hx3) rfl (po_rtL hL rfl) (Nat.le_of_ble_eq_true rfl) rfl ?_
    refine po_istore_n (L' := [(3, .int x3), (0, .ref l0), (1, .int l1), (2, .int l2)]) hF dX8_needed_46 rfl (by decide) rfl ?_
    refine po_aload_n hF dX8_needed_47 rfl rfl ?_
    refine po_iload_n hF dX8_needed_48 rfl rfl ?_
    refine po_iload_n hF dX8_needed_49 rfl rfl ?_
    obtain ⟨x4, hx4, hm⟩ := po_bind hm
    refine po_callV (As := [.int l1, .int l2]) hF dX8_needed_50 wq_1544 mv_X8_limit ws_X8_limit (show po_cl[8]? = some _ from rfl) rfl kl0 (c_X8_limit HL kl0 hx4) rfl (po_rtL hL rfl) (Nat.le_of_ble_eq_true rfl) rfl ?_
    refine po_istore (L' := [(4, .int x4), (3, .int x3), (0, .ref l0), (1, .int l1), (2, .int l2)]) hF dX8_needed_53 (by decide) rfl ?_
    refine po_iload_n hF dX8_needed_55 rfl rfl ?_
    refine po_iload_n hF dX8_needed_56 rfl rfl ?_
    refine po_iload hF dX8_needed_57 rfl ?_
    obtain ⟨x5, hx5, hm⟩ := po_bind hm
    refine po_callS (As := [.int l2, .int x3, .int x4]) hF dX8_needed_59 wq_1552 mv_X8_isWrong (c_X8_isWrong HL hx5) rfl (po_rtL hL rfl) (Nat.le_of_ble_eq_true rfl) rfl ?_
    refine po_if_ne (tgt := 67) hF dX8_needed_62 (by decide) hm (fun hm => ?_) (fun hm => ?_)
    · refine po_iconst (v := 1) hF dX8_needed_67 (by decide) ?_
      refine po_istore (L' := [(5, .int 1), (4, .int x4), (3, .int x3), (0, .ref l0), (1, .int l1), (2, .int l2)]) hF dX8_needed_68 (by decide) rfl ?_
      refine po_sub (L' := [(2, .int l2), (3, .int x3), (4, .int x4), (5, .int 1)]) rfl ?_
      exact w_X8_needed_70L hF hL HL 5000 I2 l2 x3 x4 1 hm
    · refine po_iconst (v := 0) hF dX8_needed_65 (by decide) ?_
      cases hm
      exact po_iret hF hL dX8_needed_66 (by decide) (by decide) rfl rfl rfl (Or.inl rfl)
  · refine po_iconst (v := 0) hF dX8_needed_38 (by decide) ?_
    cases hm
    exact po_iret hF hL dX8_needed_39 (by decide) (by decide) rfl rfl rfl (Or.inl rfl)
set_option maxRecDepth 20000 in
set_option maxHeartbeats 2000000 in
theorem w_X8_needed_e {X : po_X} {G : po_G} {st : Nat → Nat} {K : po_K} {R : po_R} {ρ : Int32 × po_I} (hF : po_F X G cX8_needed RX8 6 st) (hL : po_L X (some .int) 7 0 0 "needed") (HL : po_Lay K R st) (I : po_I) (l0 : Nat) (l1 : Int32) (l2 : Int32) (kl0 : K l0 = (19, 19)) (hm : m_X8_needed_e I l0 l1 l2 = some ρ) : po_V X G 6 (po_Q X G (.inl (some (.int ρ.1))) K R (ρ.2) none 0 0) 0 0 0 [(0, .ref l0), (1, .int l1), (2, .int l2)] [] K R I none := by
  unfold m_X8_needed_e at hm
  refine po_aload_n hF dX8_needed_0 rfl rfl ?_
  refine po_aload_n hF dX8_needed_1 rfl rfl ?_
  refine po_iload_n hF dX8_needed_2 rfl rfl ?_
  obtain ⟨x6, hx6, hm⟩ := po_bind hm
  refine po_callV (As := [.int l1]) hF dX8_needed_3 wq_1513 mv_X8_isPermit ws_X8_isPermit (show po_cl[8]? = some _ from rfl) rfl kl0 (c_X8_isPermit HL kl0 hx6) rfl (po_rtL hL rfl) (Nat.le_of_ble_eq_true rfl) rfl ?_
  refine po_if_ne (tgt := 13) hF dX8_needed_6 (by decide) hm (fun hm => ?_) (fun hm => ?_)
  · refine po_iload_n hF dX8_needed_13 rfl rfl ?_
    refine po_iconst (v := 2) hF dX8_needed_14 (by decide) ?_
    refine po_bipush (v := 8) hF dX8_needed_15 (by decide) ?_
    obtain ⟨x7, hx7, hm⟩ := po_bind hm
    refine po_callS (As := [.int l2, .int 2, .int 8]) hF dX8_needed_17 wq_1282 mv_X8_isIn (c_X8_isIn HL hx7) rfl (po_rtL hL rfl) (Nat.le_of_ble_eq_true rfl) rfl ?_
    refine po_if_ne (tgt := 27) hF dX8_needed_20 (by decide) hm (fun hm => ?_) (fun hm => ?_)
    · refine po_iconst (v := 0) hF dX8_needed_27 (by decide) ?_
      exact w_X8_needed_28 hF hL HL I l0 l1 l2 l0 0 kl0 kl0 hm
    · refine po_iconst (v := 2) hF dX8_needed_23 (by decide) ?_
      refine po_goto (tgt := 28) hF dX8_needed_24 (by decide) ?_
      exact w_X8_needed_28 hF hL HL I l0 l1 l2 l0 2 kl0 kl0 hm
  · refine po_iconst (v := 1) hF dX8_needed_9 (by decide) ?_
    refine po_goto (tgt := 28) hF dX8_needed_10 (by decide) ?_
    exact w_X8_needed_28 hF hL HL I l0 l1 l2 l0 1 kl0 kl0 hm
theorem c_X8_needed {K : po_K} {R : po_R} {I : po_I} {st : Nat → Nat} {ρ : Int32 × po_I} (HL : po_Lay K R st) {l0 : Nat} {l1 : Int32} {l2 : Int32} (kl0 : K l0 = (19, 19)) (hm : m_X8_needed I l0 l1 l2 = some ρ) : po_C st yX8_needed cX8_needed 6 (some .int) 7 0 0 [.ref l0, .int l1, .int l2] K R I none (.inl (some (.int ρ.1))) K R (ρ.2) none := by
  refine po_ofC (by decide +kernel) (Nat.le_of_ble_eq_true rfl) (fun X G hF hL => ?_)
  exact w_X8_needed_e hF hL HL I l0 l1 l2 kl0 hm
set_option maxRecDepth 20000 in
set_option maxHeartbeats 2000000 in
theorem w_X8_condition_67 {X : po_X} {G : po_G} {st : Nat → Nat} {K : po_K} {R : po_R} {ρ : Int32 × po_I} (hF : po_F X G cX8_condition RX8 4 st) (hL : po_L X (some .int) 2 0 0 "condition") (HL : po_Lay K R st) (I : po_I) (s0 : Int32) (hm : m_X8_condition_67 I s0 = some ρ) : po_V X G 4 (po_Q X G (.inl (some (.int ρ.1))) K R (ρ.2) none 0 0) 0 0 67 [] [.int s0] K R I none := by
  unfold m_X8_condition_67 at hm
  cases hm
  exact po_iret hF hL dX8_condition_67 (by decide) (by decide) rfl rfl rfl (Or.inl rfl)
set_option maxRecDepth 20000 in
set_option maxHeartbeats 2000000 in
theorem w_X8_condition_46 {X : po_X} {G : po_G} {st : Nat → Nat} {K : po_K} {R : po_R} {ρ : Int32 × po_I} (hF : po_F X G cX8_condition RX8 4 st) (hL : po_L X (some .int) 2 0 0 "condition") (HL : po_Lay K R st) (I : po_I) (l0 : Nat) (l1 : Int32) (l2 : Int32) (l3 : Int32) (s0 : Nat) (s1 : Int32) (kl0 : K l0 = (19, 19)) (ks0 : K s0 = (19, 19)) (hm : m_X8_condition_46 I l0 l1 l2 l3 s0 s1 = some ρ) : po_V X G 4 (po_Q X G (.inl (some (.int ρ.1))) K R (ρ.2) none 0 0) 0 0 46 [(0, .ref l0), (1, .int l1), (2, .int l2), (3, .int l3)] [.int s1, .ref s0] K R I none := by
  unfold m_X8_condition_46 at hm
  refine po_puti hF dX8_condition_46 fl_X8_1 ks0 (by intro r h; cases h; rfl) rfl rfl (fun _ => rfl) rfl ?_
  refine po_hname hm (fun I1 hm => ?_)
  refine po_aload_n hF dX8_condition_49 rfl rfl ?_
  refine po_getf (v := .int (I1 l0 0)) hF dX8_condition_50 fl_X8_1 kl0 rfl ?_
  refine po_if_ne (tgt := 66) hF dX8_condition_53 (by decide) hm (fun hm => ?_) (fun hm => ?_)
  · refine po_iconst (v := 0) hF dX8_condition_66 (by decide) ?_
    refine po_sub (L' := []) rfl ?_
    exact w_X8_condition_67 hF hL HL I1 0 hm
  · refine po_aload_n hF dX8_condition_56 rfl rfl ?_
    refine po_iload_n hF dX8_condition_57 rfl rfl ?_
    refine po_iload_n hF dX8_condition_58 rfl rfl ?_
    refine po_iload_n hF dX8_condition_59 rfl rfl ?_
    obtain ⟨x2, hx2, hm⟩ := po_bind hm
    refine po_callV (As := [.int l1, .int l2, .int l3]) hF dX8_condition_60 wq_1521 mv_X8_conditionPart ws_X8_conditionPart (show po_cl[8]? = some _ from rfl) rfl kl0 (c_X8_conditionPart HL kl0 hx2) rfl (po_rtL hL rfl) (Nat.le_of_ble_eq_true rfl) rfl ?_
    refine po_goto (tgt := 67) hF dX8_condition_63 (by decide) ?_
    refine po_sub (L' := []) rfl ?_
    exact w_X8_condition_67 hF hL HL I1 x2 hm
set_option maxRecDepth 20000 in
set_option maxHeartbeats 2000000 in
theorem w_X8_condition_e {X : po_X} {G : po_G} {st : Nat → Nat} {K : po_K} {R : po_R} {ρ : Int32 × po_I} (hF : po_F X G cX8_condition RX8 4 st) (hL : po_L X (some .int) 2 0 0 "condition") (HL : po_Lay K R st) (I : po_I) (l0 : Nat) (l1 : Int32) (l2 : Int32) (l3 : Int32) (kl0 : K l0 = (19, 19)) (hm : m_X8_condition_e I l0 l1 l2 l3 = some ρ) : po_V X G 4 (po_Q X G (.inl (some (.int ρ.1))) K R (ρ.2) none 0 0) 0 0 0 [(0, .ref l0), (1, .int l1), (2, .int l2), (3, .int l3)] [] K R I none := by
  unfold m_X8_condition_e at hm
  refine po_aload_n hF dX8_condition_0 rfl rfl ?_
  refine po_aload_n hF dX8_condition_1 rfl rfl ?_
  refine po_iload_n hF dX8_condition_2 rfl rfl ?_
  obtain ⟨x3, hx3, hm⟩ := po_bind hm
  refine po_callV (As := [.int l1]) hF dX8_condition_3 wq_1513 mv_X8_isPermit ws_X8_isPermit (show po_cl[8]? = some _ from rfl) rfl kl0 (c_X8_isPermit HL kl0 hx3) rfl (po_rtL hL rfl) (Nat.le_of_ble_eq_true rfl) rfl ?_
  refine po_if_ne (tgt := 13) hF dX8_condition_6 (by decide) hm (fun hm => ?_) (fun hm => ?_)
  · refine po_iload_n hF dX8_condition_13 rfl rfl ?_
    refine po_iconst (v := 0) hF dX8_condition_14 (by decide) ?_
    refine po_aload_n hF dX8_condition_15 rfl rfl ?_
    refine po_iload_n hF dX8_condition_16 rfl rfl ?_
    obtain ⟨x4, hx4, hm⟩ := po_bind hm
    refine po_callV (As := [.int l1]) hF dX8_condition_17 wq_1396 mv_X8_conditionMany ws_X8_conditionMany (show po_cl[8]? = some _ from rfl) rfl kl0 (c_X8_conditionMany HL kl0 hx4) rfl (po_rtL hL rfl) (Nat.le_of_ble_eq_true rfl) rfl ?_
    refine po_iconst (v := 1) hF dX8_condition_20 (by decide) ?_
    refine po_isub hF dX8_condition_21 ?_
    obtain ⟨x5, hx5, hm⟩ := po_bind hm
    refine po_callS (As := [.int l2, .int 0, .int (x4 - 1)]) hF dX8_condition_22 wq_1282 mv_X8_isIn (c_X8_isIn HL hx5) rfl (po_rtL hL rfl) (Nat.le_of_ble_eq_true rfl) rfl ?_
    refine po_if_ne (tgt := 32) hF dX8_condition_25 (by decide) hm (fun hm => ?_) (fun hm => ?_)
    · refine po_iload_n hF dX8_condition_32 rfl rfl ?_
      refine po_iconst (v := 0) hF dX8_condition_33 (by decide) ?_
      refine po_iconst (v := 2) hF dX8_condition_34 (by decide) ?_
      obtain ⟨x6, hx6, hm⟩ := po_bind hm
      refine po_callS (As := [.int l3, .int 0, .int 2]) hF dX8_condition_35 wq_1282 mv_X8_isIn (c_X8_isIn HL hx6) rfl (po_rtL hL rfl) (Nat.le_of_ble_eq_true rfl) rfl ?_
      refine po_if_ne (tgt := 45) hF dX8_condition_38 (by decide) hm (fun hm => ?_) (fun hm => ?_)
      · refine po_iconst (v := 0) hF dX8_condition_45 (by decide) ?_
        exact w_X8_condition_46 hF hL HL I l0 l1 l2 l3 l0 0 kl0 kl0 hm
      · refine po_iconst (v := 2) hF dX8_condition_41 (by decide) ?_
        refine po_goto (tgt := 46) hF dX8_condition_42 (by decide) ?_
        exact w_X8_condition_46 hF hL HL I l0 l1 l2 l3 l0 2 kl0 kl0 hm
    · refine po_iconst (v := 1) hF dX8_condition_28 (by decide) ?_
      refine po_goto (tgt := 46) hF dX8_condition_29 (by decide) ?_
      exact w_X8_condition_46 hF hL HL I l0 l1 l2 l3 l0 1 kl0 kl0 hm
  · refine po_iconst (v := 1) hF dX8_condition_9 (by decide) ?_
    refine po_goto (tgt := 46) hF dX8_condition_10 (by decide) ?_
    exact w_X8_condition_46 hF hL HL I l0 l1 l2 l3 l0 1 kl0 kl0 hm
theorem c_X8_condition {K : po_K} {R : po_R} {I : po_I} {st : Nat → Nat} {ρ : Int32 × po_I} (HL : po_Lay K R st) {l0 : Nat} {l1 : Int32} {l2 : Int32} {l3 : Int32} (kl0 : K l0 = (19, 19)) (hm : m_X8_condition I l0 l1 l2 l3 = some ρ) : po_C st yX8_condition cX8_condition 4 (some .int) 2 0 0 [.ref l0, .int l1, .int l2, .int l3] K R I none (.inl (some (.int ρ.1))) K R (ρ.2) none := by
  refine po_ofC (by decide +kernel) (Nat.le_of_ble_eq_true rfl) (fun X G hF hL => ?_)
  exact w_X8_condition_e hF hL HL I l0 l1 l2 l3 kl0 hm
set_option maxRecDepth 20000 in
set_option maxHeartbeats 2000000 in
theorem w_X8_hasOpen_50 {X : po_X} {G : po_G} {st : Nat → Nat} {K : po_K} {I : po_I} {R : po_R} {ρ : Int32} {r6 : Nat → Int32 → Int32 → Int32 → Int32 → Int32 → Option (Int32)} (hF : po_F X G cX8_hasOpen RX8 6 st) (hL : po_L X (some .boolean) 2 0 0 "hasOpen") (HL : po_Lay K R st) (h6 : ∀ (l0 : Nat) (l1 : Int32) (l2 : Int32) (l3 : Int32) (l4 : Int32) (l5 : Int32), r6 l0 l1 l2 l3 l4 l5 = some ρ → K l0 = (19, 19) → po_V X G 6 (po_Q X G (.inl (some (.int ρ))) K R I none 0 0) 0 0 6 [(0, .ref l0), (1, .int l1), (2, .int l2), (3, .int l3), (4, .int l4), (5, .int l5)] [] K R I none) (l0 : Nat) (l1 : Int32) (l2 : Int32) (l3 : Int32) (l5 : Int32) (s0 : Int32) (kl0 : K l0 = (19, 19)) (hm : m_X8_hasOpen_50 I r6 l0 l1 l2 l3 l5 s0 = some ρ) : po_V X G 6 (po_Q X G (.inl (some (.int ρ))) K R I none 0 0) 0 0 50 [(0, .ref l0), (1, .int l1), (2, .int l2), (3, .int l3), (5, .int l5)] [.int s0] K R I none := by
  unfold m_X8_hasOpen_50 at hm
  refine po_istore (L' := [(4, .int s0), (0, .ref l0), (1, .int l1), (2, .int l2), (3, .int l3), (5, .int l5)]) hF dX8_hasOpen_50 (by decide) rfl ?_
  refine po_iinc (v := l5 + 1) (L' := [(5, .int (l5 + 1)), (4, .int s0), (0, .ref l0), (1, .int l1), (2, .int l2), (3, .int l3)]) hF dX8_hasOpen_52 rfl rfl (by decide) rfl ?_
  refine po_goto (tgt := 6) hF dX8_hasOpen_55 (by decide) ?_
  refine po_sub (L' := [(0, .ref l0), (1, .int l1), (2, .int l2), (3, .int l3), (4, .int s0), (5, .int (l5 + 1))]) rfl ?_
  exact h6 l0 l1 l2 l3 s0 (l5 + 1) hm kl0
set_option maxRecDepth 20000 in
set_option maxHeartbeats 2000000 in
theorem w_X8_hasOpen_45 {X : po_X} {G : po_G} {st : Nat → Nat} {K : po_K} {I : po_I} {R : po_R} {ρ : Int32} {r6 : Nat → Int32 → Int32 → Int32 → Int32 → Int32 → Option (Int32)} (hF : po_F X G cX8_hasOpen RX8 6 st) (hL : po_L X (some .boolean) 2 0 0 "hasOpen") (HL : po_Lay K R st) (h6 : ∀ (l0 : Nat) (l1 : Int32) (l2 : Int32) (l3 : Int32) (l4 : Int32) (l5 : Int32), r6 l0 l1 l2 l3 l4 l5 = some ρ → K l0 = (19, 19) → po_V X G 6 (po_Q X G (.inl (some (.int ρ))) K R I none 0 0) 0 0 6 [(0, .ref l0), (1, .int l1), (2, .int l2), (3, .int l3), (4, .int l4), (5, .int l5)] [] K R I none) (l0 : Nat) (l1 : Int32) (l2 : Int32) (l3 : Int32) (l5 : Int32) (kl0 : K l0 = (19, 19)) (hm : m_X8_hasOpen_45 I r6 l0 l1 l2 l3 l5 = some ρ) : po_V X G 6 (po_Q X G (.inl (some (.int ρ))) K R I none 0 0) 0 0 45 [(0, .ref l0), (1, .int l1), (2, .int l2), (3, .int l3), (5, .int l5)] [] K R I none := by
  unfold m_X8_hasOpen_45 at hm
  refine po_iconst (v := 1) hF dX8_hasOpen_45 (by decide) ?_
  refine po_goto (tgt := 50) hF dX8_hasOpen_46 (by decide) ?_
  exact w_X8_hasOpen_50 hF hL HL h6 l0 l1 l2 l3 l5 1 kl0 hm
set_option maxRecDepth 20000 in
set_option maxHeartbeats 2000000 in
theorem w_X8_hasOpen_49 {X : po_X} {G : po_G} {st : Nat → Nat} {K : po_K} {I : po_I} {R : po_R} {ρ : Int32} {r6 : Nat → Int32 → Int32 → Int32 → Int32 → Int32 → Option (Int32)} (hF : po_F X G cX8_hasOpen RX8 6 st) (hL : po_L X (some .boolean) 2 0 0 "hasOpen") (HL : po_Lay K R st) (h6 : ∀ (l0 : Nat) (l1 : Int32) (l2 : Int32) (l3 : Int32) (l4 : Int32) (l5 : Int32), r6 l0 l1 l2 l3 l4 l5 = some ρ → K l0 = (19, 19) → po_V X G 6 (po_Q X G (.inl (some (.int ρ))) K R I none 0 0) 0 0 6 [(0, .ref l0), (1, .int l1), (2, .int l2), (3, .int l3), (4, .int l4), (5, .int l5)] [] K R I none) (l0 : Nat) (l1 : Int32) (l2 : Int32) (l3 : Int32) (l5 : Int32) (kl0 : K l0 = (19, 19)) (hm : m_X8_hasOpen_49 I r6 l0 l1 l2 l3 l5 = some ρ) : po_V X G 6 (po_Q X G (.inl (some (.int ρ))) K R I none 0 0) 0 0 49 [(0, .ref l0), (1, .int l1), (2, .int l2), (3, .int l3), (5, .int l5)] [] K R I none := by
  unfold m_X8_hasOpen_49 at hm
  refine po_iconst (v := 0) hF dX8_hasOpen_49 (by decide) ?_
  exact w_X8_hasOpen_50 hF hL HL h6 l0 l1 l2 l3 l5 0 kl0 hm
set_option maxRecDepth 20000 in
set_option maxHeartbeats 2000000 in
theorem w_X8_hasOpen_6 {X : po_X} {G : po_G} {st : Nat → Nat} {K : po_K} {I : po_I} {R : po_R} {ρ : Int32} {r6 : Nat → Int32 → Int32 → Int32 → Int32 → Int32 → Option (Int32)} (hF : po_F X G cX8_hasOpen RX8 6 st) (hL : po_L X (some .boolean) 2 0 0 "hasOpen") (HL : po_Lay K R st) (h6 : ∀ (l0 : Nat) (l1 : Int32) (l2 : Int32) (l3 : Int32) (l4 : Int32) (l5 : Int32), r6 l0 l1 l2 l3 l4 l5 = some ρ → K l0 = (19, 19) → po_V X G 6 (po_Q X G (.inl (some (.int ρ))) K R I none 0 0) 0 0 6 [(0, .ref l0), (1, .int l1), (2, .int l2), (3, .int l3), (4, .int l4), (5, .int l5)] [] K R I none) (l0 : Nat) (l1 : Int32) (l2 : Int32) (l3 : Int32) (l4 : Int32) (l5 : Int32) (kl0 : K l0 = (19, 19)) (hm : m_X8_hasOpen_6 I r6 l0 l1 l2 l3 l4 l5 = some ρ) : po_V X G 6 (po_Q X G (.inl (some (.int ρ))) K R I none 0 0) 0 0 6 [(0, .ref l0), (1, .int l1), (2, .int l2), (3, .int l3), (4, .int l4), (5, .int l5)] [] K R I none := by
  unfold m_X8_hasOpen_6 at hm
  refine po_iload hF dX8_hasOpen_6 rfl ?_
  refine po_aload_n hF dX8_hasOpen_8 rfl rfl ?_
  refine po_iload_n hF dX8_hasOpen_9 rfl rfl ?_
  obtain ⟨x1, hx1, hm⟩ := po_bind hm
  refine po_callV (As := [.int l1]) hF dX8_hasOpen_10 wq_1396 mv_X8_conditionMany ws_X8_conditionMany (show po_cl[8]? = some _ from rfl) rfl kl0 (c_X8_conditionMany HL kl0 hx1) rfl (po_rtL hL rfl) (Nat.le_of_ble_eq_true rfl) rfl ?_
  refine po_icmp_ge (tgt := 58) hF dX8_hasOpen_13 (by decide) hm (fun hm => ?_) (fun hm => ?_)
  · refine po_iload hF dX8_hasOpen_58 rfl ?_
    obtain ⟨hz, hm⟩ := po_zif hm
    cases hm
    exact po_zret hF hL dX8_hasOpen_60 (po_nz hz) (by decide) (by decide) rfl rfl rfl (Or.inl rfl)
  · refine po_iload hF dX8_hasOpen_16 rfl ?_
    refine po_if_ne (tgt := 45) hF dX8_hasOpen_18 (by decide) hm (fun hm => ?_) (fun hm => ?_)
    · refine po_sub (L' := [(0, .ref l0), (1, .int l1), (2, .int l2), (3, .int l3), (5, .int l5)]) rfl ?_
      exact w_X8_hasOpen_45 hF hL HL h6 l0 l1 l2 l3 l5 kl0 hm
    · refine po_aload_n hF dX8_hasOpen_21 rfl rfl ?_
      refine po_iload_n hF dX8_hasOpen_22 rfl rfl ?_
      refine po_iload hF dX8_hasOpen_23 rfl ?_
      refine po_iconst (v := 2) hF dX8_hasOpen_25 (by decide) ?_
      obtain ⟨x2, hx2, hm⟩ := po_bind hm
      refine po_callV (As := [.int l1, .int l5, .int 2]) hF dX8_hasOpen_26 wq_1521 mv_X8_conditionPart ws_X8_conditionPart (show po_cl[8]? = some _ from rfl) rfl kl0 (c_X8_conditionPart HL kl0 hx2) rfl (po_rtL hL rfl) (Nat.le_of_ble_eq_true rfl) rfl ?_
      refine po_iconst (v := 1) hF dX8_hasOpen_29 (by decide) ?_
      refine po_icmp_ne (tgt := 49) hF dX8_hasOpen_30 (by decide) hm (fun hm => ?_) (fun hm => ?_)
      · refine po_sub (L' := [(0, .ref l0), (1, .int l1), (2, .int l2), (3, .int l3), (5, .int l5)]) rfl ?_
        exact w_X8_hasOpen_49 hF hL HL h6 l0 l1 l2 l3 l5 kl0 hm
      · refine po_aload_n hF dX8_hasOpen_33 rfl rfl ?_
        refine po_iload_n hF dX8_hasOpen_34 rfl rfl ?_
        refine po_iload hF dX8_hasOpen_35 rfl ?_
        refine po_iload_n hF dX8_hasOpen_37 rfl rfl ?_
        obtain ⟨x3, hx3, hm⟩ := po_bind hm
        refine po_callV (As := [.int l1, .int l5, .int l2]) hF dX8_hasOpen_38 wq_1521 mv_X8_conditionPart ws_X8_conditionPart (show po_cl[8]? = some _ from rfl) rfl kl0 (c_X8_conditionPart HL kl0 hx3) rfl (po_rtL hL rfl) (Nat.le_of_ble_eq_true rfl) rfl ?_
        refine po_iload_n hF dX8_hasOpen_41 rfl rfl ?_
        refine po_icmp_ne (tgt := 49) hF dX8_hasOpen_42 (by decide) hm (fun hm => ?_) (fun hm => ?_)
        · refine po_sub (L' := [(0, .ref l0), (1, .int l1), (2, .int l2), (3, .int l3), (5, .int l5)]) rfl ?_
          exact w_X8_hasOpen_49 hF hL HL h6 l0 l1 l2 l3 l5 kl0 hm
        · refine po_sub (L' := [(0, .ref l0), (1, .int l1), (2, .int l2), (3, .int l3), (5, .int l5)]) rfl ?_
          exact w_X8_hasOpen_45 hF hL HL h6 l0 l1 l2 l3 l5 kl0 hm
theorem w_X8_hasOpen_6L {X : po_X} {G : po_G} {st : Nat → Nat} {K : po_K} {I : po_I} {R : po_R} {ρ : Int32} (hF : po_F X G cX8_hasOpen RX8 6 st) (hL : po_L X (some .boolean) 2 0 0 "hasOpen") (HL : po_Lay K R st) : ∀ (n : Nat) (l0 : Nat) (l1 : Int32) (l2 : Int32) (l3 : Int32) (l4 : Int32) (l5 : Int32), m_X8_hasOpen_6L I n l0 l1 l2 l3 l4 l5 = some ρ → K l0 = (19, 19) → po_V X G 6 (po_Q X G (.inl (some (.int ρ))) K R I none 0 0) 0 0 6 [(0, .ref l0), (1, .int l1), (2, .int l2), (3, .int l3), (4, .int l4), (5, .int l5)] [] K R I none := by
  intro n
  induction n with
  | zero => intro l0 l1 l2 l3 l4 l5 hm; cases hm
  | succ n ih => intro l0 l1 l2 l3 l4 l5 hm kl0; exact w_X8_hasOpen_6 hF hL HL (ih) l0 l1 l2 l3 l4 l5 kl0 hm
set_option maxRecDepth 20000 in
set_option maxHeartbeats 2000000 in
theorem w_X8_hasOpen_e {X : po_X} {G : po_G} {st : Nat → Nat} {K : po_K} {I : po_I} {R : po_R} {ρ : Int32} (hF : po_F X G cX8_hasOpen RX8 6 st) (hL : po_L X (some .boolean) 2 0 0 "hasOpen") (HL : po_Lay K R st) (l0 : Nat) (l1 : Int32) (l2 : Int32) (l3 : Int32) (kl0 : K l0 = (19, 19)) (hm : m_X8_hasOpen_e I l0 l1 l2 l3 = some ρ) : po_V X G 6 (po_Q X G (.inl (some (.int ρ))) K R I none 0 0) 0 0 0 [(0, .ref l0), (1, .int l1), (2, .int l2), (3, .int l3)] [] K R I none := by
  unfold m_X8_hasOpen_e at hm
  refine po_iconst (v := 0) hF dX8_hasOpen_0 (by decide) ?_
  refine po_istore (L' := [(4, .int 0), (0, .ref l0), (1, .int l1), (2, .int l2), (3, .int l3)]) hF dX8_hasOpen_1 (by decide) rfl ?_
  refine po_iconst (v := 0) hF dX8_hasOpen_3 (by decide) ?_
  refine po_istore (L' := [(5, .int 0), (4, .int 0), (0, .ref l0), (1, .int l1), (2, .int l2), (3, .int l3)]) hF dX8_hasOpen_4 (by decide) rfl ?_
  refine po_sub (L' := [(0, .ref l0), (1, .int l1), (2, .int l2), (3, .int l3), (4, .int 0), (5, .int 0)]) rfl ?_
  exact w_X8_hasOpen_6L hF hL HL 5000 l0 l1 l2 l3 0 0 hm kl0
theorem c_X8_hasOpen {K : po_K} {R : po_R} {I : po_I} {st : Nat → Nat} {ρ : Int32} (HL : po_Lay K R st) {l0 : Nat} {l1 : Int32} {l2 : Int32} {l3 : Int32} (kl0 : K l0 = (19, 19)) (hm : m_X8_hasOpen I l0 l1 l2 l3 = some ρ) : po_C st yX8_hasOpen cX8_hasOpen 6 (some .boolean) 2 0 0 [.ref l0, .int l1, .int l2, .int l3] K R I none (.inl (some (.int ρ))) K R I none := by
  refine po_ofC (by decide +kernel) (Nat.le_of_ble_eq_true rfl) (fun X G hF hL => ?_)
  exact w_X8_hasOpen_e hF hL HL l0 l1 l2 l3 kl0 hm
