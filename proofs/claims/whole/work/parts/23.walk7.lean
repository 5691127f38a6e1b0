set_option maxRecDepth 20000 in
set_option maxHeartbeats 2000000 in
theorem w_X6_isInForce_13 {X : po_X} {G : po_G} {st : Nat → Nat} {K : po_K} {I : po_I} {R : po_R} {ρ : Int32} (hF : po_F X G cX6_isInForce RX6 2 st) (hL : po_L X (some .boolean) 0 0 0 "isInForce") (HL : po_Lay K R st) (s0 : Int32) (hm : m_X6_isInForce_13 I s0 = some ρ) : po_V X G 2 (po_Q X G (.inl (some (.int ρ))) K R I none 0 0) 0 0 13 [] [.int s0] K R I none := by
  unfold m_X6_isInForce_13 at hm
  obtain ⟨hz, hm⟩ := po_zif hm
  cases hm
  exact po_zret hF hL dX6_isInForce_13 (po_nz hz) (by decide) (by decide) rfl rfl rfl (Or.inl rfl)
set_option maxRecDepth 20000 in
set_option maxHeartbeats 2000000 in
theorem w_X6_isInForce_e {X : po_X} {G : po_G} {st : Nat → Nat} {K : po_K} {I : po_I} {R : po_R} {ρ : Int32} (hF : po_F X G cX6_isInForce RX6 2 st) (hL : po_L X (some .boolean) 0 0 0 "isInForce") (HL : po_Lay K R st) (l0 : Nat) (l1 : Int32) (kl0 : K l0 = (17, 4)) (hm : m_X6_isInForce_e I l0 l1 = some ρ) : po_V X G 2 (po_Q X G (.inl (some (.int ρ))) K R I none 0 0) 0 0 0 [(0, .ref l0), (1, .int l1)] [] K R I none := by
  unfold m_X6_isInForce_e at hm
  refine po_iload_n hF dX6_isInForce_0 rfl rfl ?_
  refine po_aload_n hF dX6_isInForce_1 rfl rfl ?_
  refine po_getf (v := .int (I l0 3)) hF dX6_isInForce_2 fl_X6_19 kl0 rfl ?_
  refine po_icmp_gt (tgt := 12) hF dX6_isInForce_5 (by decide) hm (fun hm => ?_) (fun hm => ?_)
  · refine po_iconst (v := 0) hF dX6_isInForce_12 (by decide) ?_
    refine po_sub (L' := []) rfl ?_
    exact w_X6_isInForce_13 hF hL HL 0 hm
  · refine po_iconst (v := 1) hF dX6_isInForce_8 (by decide) ?_
    refine po_goto (tgt := 13) hF dX6_isInForce_9 (by decide) ?_
    refine po_sub (L' := []) rfl ?_
    exact w_X6_isInForce_13 hF hL HL 1 hm
theorem c_X6_isInForce {K : po_K} {R : po_R} {I : po_I} {st : Nat → Nat} {ρ : Int32} (HL : po_Lay K R st) {l0 : Nat} {l1 : Int32} (kl0 : K l0 = (17, 4)) (hm : m_X6_isInForce I l0 l1 = some ρ) : po_C st yX6_isInForce cX6_isInForce 2 (some .boolean) 0 0 0 [.ref l0, .int l1] K R I none (.inl (some (.int ρ))) K R I none := by
  refine po_ofC (by decide +kernel) (Nat.le_of_ble_eq_true rfl) (fun X G hF hL => ?_)
  exact w_X6_isInForce_e hF hL HL l0 l1 kl0 hm
set_option maxRecDepth 20000 in
set_option maxHeartbeats 2000000 in
theorem w_X4_helps_64 {X : po_X} {G : po_G} {st : Nat → Nat} {K : po_K} {I : po_I} {R : po_R} {ρ : Int32} (hF : po_F X G cX4_helps RX4 4 st) (hL : po_L X (some .boolean) 1 0 0 "helps") (HL : po_Lay K R st) (s0 : Int32) (hm : m_X4_helps_64 s0 = some ρ) : po_V X G 4 (po_Q X G (.inl (some (.int ρ))) K R I none 0 0) 0 0 64 [] [.int s0] K R I none := by
  unfold m_X4_helps_64 at hm
  obtain ⟨hz, hm⟩ := po_zif hm
  cases hm
  exact po_zret hF hL dX4_helps_64 (po_nz hz) (by decide) (by decide) rfl rfl rfl (Or.inl rfl)
set_option maxRecDepth 20000 in
set_option maxHeartbeats 2000000 in
theorem w_X4_helps_44 {X : po_X} {G : po_G} {st : Nat → Nat} {K : po_K} {I : po_I} {R : po_R} {ρ : Int32} (hF : po_F X G cX4_helps RX4 4 st) (hL : po_L X (some .boolean) 1 0 0 "helps") (HL : po_Lay K R st) (l0 : Int32) (l1 : Int32) (l2 : Int32) (l3 : Int32) (hm : m_X4_helps_44 l0 l1 l2 l3 = some ρ) : po_V X G 4 (po_Q X G (.inl (some (.int ρ))) K R I none 0 0) 0 0 44 [(0, .int l0), (1, .int l1), (2, .int l2), (3, .int l3)] [] K R I none := by
  unfold m_X4_helps_44 at hm
  refine po_iload_n hF dX4_helps_44 rfl rfl ?_
  refine po_iload_n hF dX4_helps_45 rfl rfl ?_
  refine po_iconst (v := 0) hF dX4_helps_46 (by decide) ?_
  refine po_iload_n hF dX4_helps_47 rfl rfl ?_
  refine po_iload_n hF dX4_helps_48 rfl rfl ?_
  refine po_isub hF dX4_helps_49 ?_
  refine po_max hF hL dX4_helps_50 wq_934 ⟨wq_850, wq_106, wq_851⟩ (Nat.le_of_ble_eq_true rfl) (by decide) (by decide) (by decide) ?_
  obtain ⟨x1, hx1, hm⟩ := po_bind hm
  refine po_callS (As := [.int l0, .int l2, .int (if (0 : Int32) < (l3 - l1) then (l3 - l1) else 0)]) hF dX4_helps_53 wq_924 mv_X4_isFinding (c_X4_isFinding HL hx1) rfl (po_rtL hL rfl) (Nat.le_of_ble_eq_true rfl) rfl ?_
  refine po_if_ne (tgt := 63) hF dX4_helps_56 (by decide) hm (fun hm => ?_) (fun hm => ?_)
  · refine po_iconst (v := 0) hF dX4_helps_63 (by decide) ?_
    refine po_sub (L' := []) rfl ?_
    exact w_X4_helps_64 hF hL HL 0 hm
  · refine po_iconst (v := 1) hF dX4_helps_59 (by decide) ?_
    refine po_goto (tgt := 64) hF dX4_helps_60 (by decide) ?_
    refine po_sub (L' := []) rfl ?_
    exact w_X4_helps_64 hF hL HL 1 hm
set_option maxRecDepth 20000 in
set_option maxHeartbeats 2000000 in
theorem w_X4_helps_83 {X : po_X} {G : po_G} {st : Nat → Nat} {K : po_K} {I : po_I} {R : po_R} {ρ : Int32} (hF : po_F X G cX4_helps RX4 4 st) (hL : po_L X (some .boolean) 1 0 0 "helps") (HL : po_Lay K R st) (s0 : Int32) (hm : m_X4_helps_83 s0 = some ρ) : po_V X G 4 (po_Q X G (.inl (some (.int ρ))) K R I none 0 0) 0 0 83 [] [.int s0] K R I none := by
  unfold m_X4_helps_83 at hm
  obtain ⟨hz, hm⟩ := po_zif hm
  cases hm
  exact po_zret hF hL dX4_helps_83 (po_nz hz) (by decide) (by decide) rfl rfl rfl (Or.inl rfl)
set_option maxRecDepth 20000 in
set_option maxHeartbeats 2000000 in
theorem w_X4_helps_67 {X : po_X} {G : po_G} {st : Nat → Nat} {K : po_K} {I : po_I} {R : po_R} {ρ : Int32} (hF : po_F X G cX4_helps RX4 4 st) (hL : po_L X (some .boolean) 1 0 0 "helps") (HL : po_Lay K R st) (l0 : Int32) (l1 : Int32) (l2 : Int32) (l3 : Int32) (hm : m_X4_helps_67 l0 l1 l2 l3 = some ρ) : po_V X G 4 (po_Q X G (.inl (some (.int ρ))) K R I none 0 0) 0 0 67 [(0, .int l0), (1, .int l1), (2, .int l2), (3, .int l3)] [] K R I none := by
  unfold m_X4_helps_67 at hm
  refine po_iload_n hF dX4_helps_67 rfl rfl ?_
  refine po_iload_n hF dX4_helps_68 rfl rfl ?_
  refine po_iload_n hF dX4_helps_69 rfl rfl ?_
  refine po_iload_n hF dX4_helps_70 rfl rfl ?_
  refine po_iadd hF dX4_helps_71 ?_
  obtain ⟨x2, hx2, hm⟩ := po_bind hm
  refine po_callS (As := [.int l0, .int l2, .int (l3 + l1)]) hF dX4_helps_72 wq_924 mv_X4_isFinding (c_X4_isFinding HL hx2) rfl (po_rtL hL rfl) (Nat.le_of_ble_eq_true rfl) rfl ?_
  refine po_if_ne (tgt := 82) hF dX4_helps_75 (by decide) hm (fun hm => ?_) (fun hm => ?_)
  · refine po_iconst (v := 0) hF dX4_helps_82 (by decide) ?_
    refine po_sub (L' := []) rfl ?_
    exact w_X4_helps_83 hF hL HL 0 hm
  · refine po_iconst (v := 1) hF dX4_helps_78 (by decide) ?_
    refine po_goto (tgt := 83) hF dX4_helps_79 (by decide) ?_
    refine po_sub (L' := []) rfl ?_
    exact w_X4_helps_83 hF hL HL 1 hm
set_option maxRecDepth 20000 in
set_option maxHeartbeats 2000000 in
theorem w_X4_helps_e {X : po_X} {G : po_G} {st : Nat → Nat} {K : po_K} {I : po_I} {R : po_R} {ρ : Int32} (hF : po_F X G cX4_helps RX4 4 st) (hL : po_L X (some .boolean) 1 0 0 "helps") (HL : po_Lay K R st) (l0 : Int32) (l1 : Int32) (l2 : Int32) (l3 : Int32) (hm : m_X4_helps_e l0 l1 l2 l3 = some ρ) : po_V X G 4 (po_Q X G (.inl (some (.int ρ))) K R I none 0 0) 0 0 0 [(0, .int l0), (1, .int l1), (2, .int l2), (3, .int l3)] [] K R I none := by
  unfold m_X4_helps_e at hm
  refine po_iload_n hF dX4_helps_0 rfl rfl ?_
  by_cases hs0 : l0 = 2
  · rw [if_pos hs0] at hm
    refine po_tin (c := 2) (tgt := 44) (off := 43) hF dX4_helps_1 hs0 (by decide) (by decide) (by decide) (by decide) ?_
    exact w_X4_helps_44 hF hL HL l0 l1 l2 l3 hm
  rw [if_neg hs0] at hm
  by_cases hs1 : l0 = 3
  · rw [if_pos hs1] at hm
    refine po_tin (c := 3) (tgt := 44) (off := 43) hF dX4_helps_1 hs1 (by decide) (by decide) (by decide) (by decide) ?_
    exact w_X4_helps_44 hF hL HL l0 l1 l2 l3 hm
  rw [if_neg hs1] at hm
  by_cases hs2 : l0 = 4
  · rw [if_pos hs2] at hm
    refine po_tin (c := 4) (tgt := 67) (off := 66) hF dX4_helps_1 hs2 (by decide) (by decide) (by decide) (by decide) ?_
    exact w_X4_helps_67 hF hL HL l0 l1 l2 l3 hm
  rw [if_neg hs2] at hm
  by_cases hs3 : l0 = 5
  · rw [if_pos hs3] at hm
    refine po_tin (c := 5) (tgt := 67) (off := 66) hF dX4_helps_1 hs3 (by decide) (by decide) (by decide) (by decide) ?_
    exact w_X4_helps_67 hF hL HL l0 l1 l2 l3 hm
  rw [if_neg hs3] at hm
  by_cases hs4 : l0 = 6
  · rw [if_pos hs4] at hm
    refine po_tin (c := 6) (tgt := 67) (off := 66) hF dX4_helps_1 hs4 (by decide) (by decide) (by decide) (by decide) ?_
    exact w_X4_helps_67 hF hL HL l0 l1 l2 l3 hm
  rw [if_neg hs4] at hm
  by_cases hs5 : l0 = 7
  · rw [if_pos hs5] at hm
    refine po_tin (c := 7) (tgt := 65) (off := 64) hF dX4_helps_1 hs5 (by decide) (by decide) (by decide) (by decide) ?_
    refine po_iconst (v := 1) hF dX4_helps_65 (by decide) ?_
    cases hm
    exact po_zret hF hL dX4_helps_66 (by decide) (by decide) (by decide) rfl rfl rfl (Or.inl rfl)
  rw [if_neg hs5] at hm
  by_cases hs6 : l0 = 8
  · rw [if_pos hs6] at hm
    refine po_tin (c := 8) (tgt := 44) (off := 43) hF dX4_helps_1 hs6 (by decide) (by decide) (by decide) (by decide) ?_
    exact w_X4_helps_44 hF hL HL l0 l1 l2 l3 hm
  rw [if_neg hs6] at hm
  refine po_tout (tgt := 67) hF dX4_helps_1 (po_tdef (lo := 2) (m := 7) (fun j hj => by
    rcases (show j = 0 ∨ j = 1 ∨ j = 2 ∨ j = 3 ∨ j = 4 ∨ j = 5 ∨ j = 6 by omega) with rfl | rfl | rfl | rfl | rfl | rfl | rfl
    · exact po_neI (c := 2) hs0 (by decide)
    · exact po_neI (c := 3) hs1 (by decide)
    · exact po_neI (c := 4) hs2 (by decide)
    · exact po_neI (c := 5) hs3 (by decide)
    · exact po_neI (c := 6) hs4 (by decide)
    · exact po_neI (c := 7) hs5 (by decide)
    · exact po_neI (c := 8) hs6 (by decide)
    )) (by decide) ?_
  exact w_X4_helps_67 hF hL HL l0 l1 l2 l3 hm
theorem c_X4_helps {K : po_K} {R : po_R} {I : po_I} {st : Nat → Nat} {ρ : Int32} (HL : po_Lay K R st) {l0 : Int32} {l1 : Int32} {l2 : Int32} {l3 : Int32} (hm : m_X4_helps l0 l1 l2 l3 = some ρ) : po_C st yX4_helps cX4_helps 4 (some .boolean) 1 0 0 [.int l0, .int l1, .int l2, .int l3] K R I none (.inl (some (.int ρ))) K R I none := by
  refine po_ofC (by decide +kernel) (Nat.le_of_ble_eq_true rfl) (fun X G hF hL => ?_)
  exact w_X4_helps_e hF hL HL l0 l1 l2 l3 hm
set_option maxRecDepth 20000 in
set_option maxHeartbeats 2000000 in
theorem w_X4_usedVariance_141 {X : po_X} {G : po_G} {st : Nat → Nat} {K : po_K} {R : po_R} {ρ : Int32 × po_I} {r41 : po_I → Nat → Nat → Int32 → Int32 → Int32 → Int32 → Int32 → Int32 → Option (Int32 × po_I)} (hF : po_F X G cX4_usedVariance RX4 11 st) (hL : po_L X (some .int) 5 0 0 "usedVariance") (HL : po_Lay K R st) (h41 : ∀ (I : po_I) (l1 : Nat) (l2 : Nat) (l3 : Int32) (l4 : Int32) (l5 : Int32) (l6 : Int32) (l7 : Int32) (l8 : Int32), r41 I l1 l2 l3 l4 l5 l6 l7 l8 = some ρ → K l1 = (16, 8) → K l2 = (13, 19) → po_V X G 11 (po_Q X G (.inl (some (.int ρ.1))) K R (ρ.2) none 0 0) 0 0 41 [(1, .ref l1), (2, .ref l2), (3, .int l3), (4, .int l4), (5, .int l5), (6, .int l6), (7, .int l7), (8, .int l8)] [] K R I none) (I : po_I) (l1 : Nat) (l2 : Nat) (l3 : Int32) (l4 : Int32) (l5 : Int32) (l6 : Int32) (l7 : Int32) (l8 : Int32) (kl1 : K l1 = (16, 8)) (kl2 : K l2 = (13, 19)) (hm : m_X4_usedVariance_141 r41 I l1 l2 l3 l4 l5 l6 l7 l8 = some ρ) : po_V X G 11 (po_Q X G (.inl (some (.int ρ.1))) K R (ρ.2) none 0 0) 0 0 141 [(1, .ref l1), (2, .ref l2), (3, .int l3), (4, .int l4), (5, .int l5), (6, .int l6), (7, .int l7), (8, .int l8)] [] K R I none := by
  unfold m_X4_usedVariance_141 at hm
  refine po_iinc (v := l8 + 1) (L' := [(8, .int (l8 + 1)), (1, .ref l1), (2, .ref l2), (3, .int l3), (4, .int l4), (5, .int l5), (6, .int l6), (7, .int l7)]) hF dX4_usedVariance_141 rfl rfl (by decide) rfl ?_
  refine po_goto (tgt := 41) hF dX4_usedVariance_144 (by decide) ?_
  refine po_sub (L' := [(1, .ref l1), (2, .ref l2), (3, .int l3), (4, .int l4), (5, .int l5), (6, .int l6), (7, .int l7), (8, .int (l8 + 1))]) rfl ?_
  exact h41 I l1 l2 l3 l4 l5 l6 l7 (l8 + 1) hm kl1 kl2
set_option maxRecDepth 20000 in
set_option maxHeartbeats 2000000 in
theorem w_X4_usedVariance_97 {X : po_X} {G : po_G} {st : Nat → Nat} {K : po_K} {R : po_R} {ρ : Int32 × po_I} {r41 : po_I → Nat → Nat → Int32 → Int32 → Int32 → Int32 → Int32 → Int32 → Option (Int32 × po_I)} (hF : po_F X G cX4_usedVariance RX4 11 st) (hL : po_L X (some .int) 5 0 0 "usedVariance") (HL : po_Lay K R st) (h41 : ∀ (I : po_I) (l1 : Nat) (l2 : Nat) (l3 : Int32) (l4 : Int32) (l5 : Int32) (l6 : Int32) (l7 : Int32) (l8 : Int32), r41 I l1 l2 l3 l4 l5 l6 l7 l8 = some ρ → K l1 = (16, 8) → K l2 = (13, 19) → po_V X G 11 (po_Q X G (.inl (some (.int ρ.1))) K R (ρ.2) none 0 0) 0 0 41 [(1, .ref l1), (2, .ref l2), (3, .int l3), (4, .int l4), (5, .int l5), (6, .int l6), (7, .int l7), (8, .int l8)] [] K R I none) (I : po_I) (l1 : Nat) (l2 : Nat) (l3 : Int32) (l4 : Int32) (l5 : Int32) (l6 : Int32) (l7 : Int32) (l8 : Int32) (l9 : Nat) (s0 : Int32) (kl1 : K l1 = (16, 8)) (kl2 : K l2 = (13, 19)) (kl9 : K l9 = (17, 4)) (hm : m_X4_usedVariance_97 r41 I l1 l2 l3 l4 l5 l6 l7 l8 l9 s0 = some ρ) : po_V X G 11 (po_Q X G (.inl (some (.int ρ.1))) K R (ρ.2) none 0 0) 0 0 97 [(1, .ref l1), (2, .ref l2), (3, .int l3), (4, .int l4), (5, .int l5), (6, .int l6), (7, .int l7), (8, .int l8), (9, .ref l9)] [.int s0] K R I none := by
  unfold m_X4_usedVariance_97 at hm
  refine po_istore (L' := [(10, .int s0), (1, .ref l1), (2, .ref l2), (3, .int l3), (4, .int l4), (5, .int l5), (6, .int l6), (7, .int l7), (8, .int l8), (9, .ref l9)]) hF dX4_usedVariance_97 (by decide) rfl ?_
  refine po_iload hF dX4_usedVariance_99 rfl ?_
  refine po_if_eq (tgt := 141) hF dX4_usedVariance_101 (by decide) hm (fun hm => ?_) (fun hm => ?_)
  · refine po_sub (L' := [(1, .ref l1), (2, .ref l2), (3, .int l3), (4, .int l4), (5, .int l5), (6, .int l6), (7, .int l7), (8, .int l8)]) rfl ?_
    exact w_X4_usedVariance_141 hF hL HL h41 I l1 l2 l3 l4 l5 l6 l7 l8 kl1 kl2 hm
  · refine po_aload hF dX4_usedVariance_104 rfl ?_
    refine po_getf (v := .int (I l9 2)) hF dX4_usedVariance_106 fl_X4_124 kl9 rfl ?_
    refine po_iload hF dX4_usedVariance_109 rfl ?_
    refine po_icmp_ge (tgt := 141) hF dX4_usedVariance_111 (by decide) hm (fun hm => ?_) (fun hm => ?_)
    · refine po_sub (L' := [(1, .ref l1), (2, .ref l2), (3, .int l3), (4, .int l4), (5, .int l5), (6, .int l6), (7, .int l7), (8, .int l8)]) rfl ?_
      exact w_X4_usedVariance_141 hF hL HL h41 I l1 l2 l3 l4 l5 l6 l7 l8 kl1 kl2 hm
    · refine po_iload_n hF dX4_usedVariance_114 rfl rfl ?_
      refine po_aload hF dX4_usedVariance_115 rfl ?_
      refine po_getf (v := .int (I l9 2)) hF dX4_usedVariance_117 fl_X4_124 kl9 rfl ?_
      refine po_iload hF dX4_usedVariance_120 rfl ?_
      refine po_iload hF dX4_usedVariance_122 rfl ?_
      obtain ⟨x1, hx1, hm⟩ := po_bind hm
      refine po_callS (As := [.int l3, .int (I l9 2), .int l4, .int l5]) hF dX4_usedVariance_124 wq_931 mv_X4_helps (c_X4_helps HL hx1) rfl (po_rtL hL rfl) (Nat.le_of_ble_eq_true rfl) rfl ?_
      refine po_if_eq (tgt := 141) hF dX4_usedVariance_127 (by decide) hm (fun hm => ?_) (fun hm => ?_)
      · refine po_sub (L' := [(1, .ref l1), (2, .ref l2), (3, .int l3), (4, .int l4), (5, .int l5), (6, .int l6), (7, .int l7), (8, .int l8)]) rfl ?_
        exact w_X4_usedVariance_141 hF hL HL h41 I l1 l2 l3 l4 l5 l6 l7 l8 kl1 kl2 hm
      · refine po_iload hF dX4_usedVariance_130 rfl ?_
        refine po_istore (L' := [(6, .int l8), (10, .int s0), (1, .ref l1), (2, .ref l2), (3, .int l3), (4, .int l4), (5, .int l5), (7, .int l7), (8, .int l8), (9, .ref l9)]) hF dX4_usedVariance_132 (by decide) rfl ?_
        refine po_aload hF dX4_usedVariance_134 rfl ?_
        refine po_getf (v := .int (I l9 2)) hF dX4_usedVariance_136 fl_X4_124 kl9 rfl ?_
        refine po_top hm (fun v2 hm => ?_)
        refine po_istore (L' := [(7, .int v2), (6, .int l8), (10, .int s0), (1, .ref l1), (2, .ref l2), (3, .int l3), (4, .int l4), (5, .int l5), (8, .int l8), (9, .ref l9)]) hF dX4_usedVariance_139 (by decide) rfl ?_
        refine po_sub (L' := [(1, .ref l1), (2, .ref l2), (3, .int l3), (4, .int l4), (5, .int l5), (6, .int l8), (7, .int v2), (8, .int l8)]) rfl ?_
        exact w_X4_usedVariance_141 hF hL HL h41 I l1 l2 l3 l4 l5 l8 v2 l8 kl1 kl2 hm
set_option maxRecDepth 20000 in
set_option maxHeartbeats 2000000 in
theorem w_X4_usedVariance_96 {X : po_X} {G : po_G} {st : Nat → Nat} {K : po_K} {R : po_R} {ρ : Int32 × po_I} {r41 : po_I → Nat → Nat → Int32 → Int32 → Int32 → Int32 → Int32 → Int32 → Option (Int32 × po_I)} (hF : po_F X G cX4_usedVariance RX4 11 st) (hL : po_L X (some .int) 5 0 0 "usedVariance") (HL : po_Lay K R st) (h41 : ∀ (I : po_I) (l1 : Nat) (l2 : Nat) (l3 : Int32) (l4 : Int32) (l5 : Int32) (l6 : Int32) (l7 : Int32) (l8 : Int32), r41 I l1 l2 l3 l4 l5 l6 l7 l8 = some ρ → K l1 = (16, 8) → K l2 = (13, 19) → po_V X G 11 (po_Q X G (.inl (some (.int ρ.1))) K R (ρ.2) none 0 0) 0 0 41 [(1, .ref l1), (2, .ref l2), (3, .int l3), (4, .int l4), (5, .int l5), (6, .int l6), (7, .int l7), (8, .int l8)] [] K R I none) (I : po_I) (l1 : Nat) (l2 : Nat) (l3 : Int32) (l4 : Int32) (l5 : Int32) (l6 : Int32) (l7 : Int32) (l8 : Int32) (l9 : Nat) (kl1 : K l1 = (16, 8)) (kl2 : K l2 = (13, 19)) (kl9 : K l9 = (17, 4)) (hm : m_X4_usedVariance_96 r41 I l1 l2 l3 l4 l5 l6 l7 l8 l9 = some ρ) : po_V X G 11 (po_Q X G (.inl (some (.int ρ.1))) K R (ρ.2) none 0 0) 0 0 96 [(1, .ref l1), (2, .ref l2), (3, .int l3), (4, .int l4), (5, .int l5), (6, .int l6), (7, .int l7), (8, .int l8), (9, .ref l9)] [] K R I none := by
  unfold m_X4_usedVariance_96 at hm
  refine po_iconst (v := 0) hF dX4_usedVariance_96 (by decide) ?_
  exact w_X4_usedVariance_97 hF hL HL h41 I l1 l2 l3 l4 l5 l6 l7 l8 l9 0 kl1 kl2 kl9 hm
set_option maxRecDepth 20000 in
set_option maxHeartbeats 2000000 in
theorem w_X4_usedVariance_41 {X : po_X} {G : po_G} {st : Nat → Nat} {K : po_K} {R : po_R} {ρ : Int32 × po_I} {r41 : po_I → Nat → Nat → Int32 → Int32 → Int32 → Int32 → Int32 → Int32 → Option (Int32 × po_I)} (hF : po_F X G cX4_usedVariance RX4 11 st) (hL : po_L X (some .int) 5 0 0 "usedVariance") (HL : po_Lay K R st) (h41 : ∀ (I : po_I) (l1 : Nat) (l2 : Nat) (l3 : Int32) (l4 : Int32) (l5 : Int32) (l6 : Int32) (l7 : Int32) (l8 : Int32), r41 I l1 l2 l3 l4 l5 l6 l7 l8 = some ρ → K l1 = (16, 8) → K l2 = (13, 19) → po_V X G 11 (po_Q X G (.inl (some (.int ρ.1))) K R (ρ.2) none 0 0) 0 0 41 [(1, .ref l1), (2, .ref l2), (3, .int l3), (4, .int l4), (5, .int l5), (6, .int l6), (7, .int l7), (8, .int l8)] [] K R I none) (I : po_I) (l1 : Nat) (l2 : Nat) (l3 : Int32) (l4 : Int32) (l5 : Int32) (l6 : Int32) (l7 : Int32) (l8 : Int32) (kl1 : K l1 = (16, 8)) (kl2 : K l2 = (13, 19)) (hm : m_X4_usedVariance_41 r41 I l1 l2 l3 l4 l5 l6 l7 l8 = some ρ) : po_V X G 11 (po_Q X G (.inl (some (.int ρ.1))) K R (ρ.2) none 0 0) 0 0 41 [(1, .ref l1), (2, .ref l2), (3, .int l3), (4, .int l4), (5, .int l5), (6, .int l6), (7, .int l7), (8, .int l8)] [] K R I none := by
  unfold m_X4_usedVariance_41 at hm
  refine po_iload hF dX4_usedVariance_41 rfl ?_
  refine po_aload_n hF dX4_usedVariance_43 rfl rfl ?_
  refine po_getf (v := .int (I l1 7)) hF dX4_usedVariance_44 fl_X4_104 kl1 rfl ?_
  refine po_icmp_ge (tgt := 147) hF dX4_usedVariance_47 (by decide) hm (fun hm => ?_) (fun hm => ?_)
  · refine po_iload hF dX4_usedVariance_147 rfl ?_
    cases hm
    exact po_iret hF hL dX4_usedVariance_149 (by decide) (by decide) rfl rfl rfl (Or.inl rfl)
  · refine po_aload_n hF dX4_usedVariance_50 rfl rfl ?_
    refine po_getf (v := .ref (l1 + 4)) hF dX4_usedVariance_51 fl_X4_107 kl1 (ly_5_6 HL kl1).1 ?_
    refine po_iload hF dX4_usedVariance_54 rfl ?_
    refine po_aald hF dX4_usedVariance_56 ((ly_5_6 HL kl1).2) (Or.inr (Or.inr (Or.inl rfl))) hm (fun hi3 => (le_5_6 HL kl1 (po_in_lt hi3)).1) (fun hi3 hm => ?_)
    refine po_astore (L' := [(9, .ref (l1 + (79 + (Int32.toNatClampNeg l8)))), (1, .ref l1), (2, .ref l2), (3, .int l3), (4, .int l4), (5, .int l5), (6, .int l6), (7, .int l7), (8, .int l8)]) hF dX4_usedVariance_57 (by decide) rfl ?_
    refine po_aload hF dX4_usedVariance_59 rfl ?_
    refine po_getf (v := .int (I (l1 + (79 + (Int32.toNatClampNeg l8))) 0)) hF dX4_usedVariance_61 fl_X4_111 ((le_5_6 HL kl1 (po_in_lt hi3)).2) rfl ?_
    refine po_aload_n hF dX4_usedVariance_64 rfl rfl ?_
    refine po_getf (v := .int (I l2 0)) hF dX4_usedVariance_65 fl_X4_21 kl2 rfl ?_
    refine po_icmp_ne (tgt := 96) hF dX4_usedVariance_68 (by decide) hm (fun hm => ?_) (fun hm => ?_)
    · refine po_sub (L' := [(1, .ref l1), (2, .ref l2), (3, .int l3), (4, .int l4), (5, .int l5), (6, .int l6), (7, .int l7), (8, .int l8), (9, .ref (l1 + (79 + (Int32.toNatClampNeg l8))))]) rfl ?_
      exact w_X4_usedVariance_96 hF hL HL h41 I l1 l2 l3 l4 l5 l6 l7 l8 (l1 + (79 + (Int32.toNatClampNeg l8))) kl1 kl2 ((le_5_6 HL kl1 (po_in_lt hi3)).2) hm
    · refine po_aload hF dX4_usedVariance_71 rfl ?_
      refine po_getf (v := .int (I (l1 + (79 + (Int32.toNatClampNeg l8))) 1)) hF dX4_usedVariance_73 fl_X4_114 ((le_5_6 HL kl1 (po_in_lt hi3)).2) rfl ?_
      refine po_iload_n hF dX4_usedVariance_76 rfl rfl ?_
      refine po_icmp_ne (tgt := 96) hF dX4_usedVariance_77 (by decide) hm (fun hm => ?_) (fun hm => ?_)
      · refine po_sub (L' := [(1, .ref l1), (2, .ref l2), (3, .int l3), (4, .int l4), (5, .int l5), (6, .int l6), (7, .int l7), (8, .int l8), (9, .ref (l1 + (79 + (Int32.toNatClampNeg l8))))]) rfl ?_
        exact w_X4_usedVariance_96 hF hL HL h41 I l1 l2 l3 l4 l5 l6 l7 l8 (l1 + (79 + (Int32.toNatClampNeg l8))) kl1 kl2 ((le_5_6 HL kl1 (po_in_lt hi3)).2) hm
      · refine po_aload hF dX4_usedVariance_80 rfl ?_
        refine po_aload_n hF dX4_usedVariance_82 rfl rfl ?_
        refine po_getf (v := .int (I l1 0)) hF dX4_usedVariance_83 fl_X4_117 kl1 rfl ?_
        obtain ⟨x4, hx4, hm⟩ := po_bind hm
        refine po_callV (As := [.int (I l1 0)]) hF dX4_usedVariance_86 wq_927 mv_X6_isInForce ws_X6_isInForce (show po_cl[6]? = some _ from rfl) rfl ((le_5_6 HL kl1 (po_in_lt hi3)).2) (c_X6_isInForce HL ((le_5_6 HL kl1 (po_in_lt hi3)).2) hx4) rfl (po_rtL hL rfl) (Nat.le_of_ble_eq_true rfl) rfl ?_
        refine po_if_eq (tgt := 96) hF dX4_usedVariance_89 (by decide) hm (fun hm => ?_) (fun hm => ?_)
        · refine po_sub (L' := [(1, .ref l1), (2, .ref l2), (3, .int l3), (4, .int l4), (5, .int l5), (6, .int l6), (7, .int l7), (8, .int l8), (9, .ref (l1 + (79 + (Int32.toNatClampNeg l8))))]) rfl ?_
          exact w_X4_usedVariance_96 hF hL HL h41 I l1 l2 l3 l4 l5 l6 l7 l8 (l1 + (79 + (Int32.toNatClampNeg l8))) kl1 kl2 ((le_5_6 HL kl1 (po_in_lt hi3)).2) hm
        · refine po_iconst (v := 1) hF dX4_usedVariance_92 (by decide) ?_
          refine po_goto (tgt := 97) hF dX4_usedVariance_93 (by decide) ?_
          refine po_sub (L' := [(1, .ref l1), (2, .ref l2), (3, .int l3), (4, .int l4), (5, .int l5), (6, .int l6), (7, .int l7), (8, .int l8), (9, .ref (l1 + (79 + (Int32.toNatClampNeg l8))))]) rfl ?_
          exact w_X4_usedVariance_97 hF hL HL h41 I l1 l2 l3 l4 l5 l6 l7 l8 (l1 + (79 + (Int32.toNatClampNeg l8))) 1 kl1 kl2 ((le_5_6 HL kl1 (po_in_lt hi3)).2) hm
theorem w_X4_usedVariance_41L {X : po_X} {G : po_G} {st : Nat → Nat} {K : po_K} {R : po_R} {ρ : Int32 × po_I} (hF : po_F X G cX4_usedVariance RX4 11 st) (hL : po_L X (some .int) 5 0 0 "usedVariance") (HL : po_Lay K R st) : ∀ (n : Nat) (I : po_I) (l1 : Nat) (l2 : Nat) (l3 : Int32) (l4 : Int32) (l5 : Int32) (l6 : Int32) (l7 : Int32) (l8 : Int32), m_X4_usedVariance_41L n I l1 l2 l3 l4 l5 l6 l7 l8 = some ρ → K l1 = (16, 8) → K l2 = (13, 19) → po_V X G 11 (po_Q X G (.inl (some (.int ρ.1))) K R (ρ.2) none 0 0) 0 0 41 [(1, .ref l1), (2, .ref l2), (3, .int l3), (4, .int l4), (5, .int l5), (6, .int l6), (7, .int l7), (8, .int l8)] [] K R I none := by
  intro n
  induction n with
  | zero => intro I l1 l2 l3 l4 l5 l6 l7 l8 hm; cases hm
  | succ n ih => intro I l1 l2 l3 l4 l5 l6 l7 l8 hm kl1 kl2; exact w_X4_usedVariance_41 hF hL HL (ih) I l1 l2 l3 l4 l5 l6 l7 l8 kl1 kl2 hm
set_option maxRecDepth 20000 in
set_option maxHeartbeats 2000000 in
theorem w_X4_usedVariance_e {X : po_X} {G : po_G} {st : Nat → Nat} {K : po_K} {R : po_R} {ρ : Int32 × po_I} (hF : po_F X G cX4_usedVariance RX4 11 st) (hL : po_L X (some .int) 5 0 0 "usedVariance") (HL : po_Lay K R st) (I : po_I) (l0 : Nat) (l1 : Nat) (l2 : Nat) (l3 : Int32) (kl0 : K l0 = (15, 2)) (kl1 : K l1 = (16, 8)) (kl2 : K l2 = (13, 19)) (hm : m_X4_usedVariance_e I l0 l1 l2 l3 = some ρ) : po_V X G 11 (po_Q X G (.inl (some (.int ρ.1))) K R (ρ.2) none 0 0) 0 0 0 [(0, .ref l0), (1, .ref l1), (2, .ref l2), (3, .int l3)] [] K R I none := by
  unfold m_X4_usedVariance_e at hm
  refine po_aload_n hF dX4_usedVariance_0 rfl rfl ?_
  refine po_aload_n hF dX4_usedVariance_1 rfl rfl ?_
  refine po_aload_n hF dX4_usedVariance_2 rfl rfl ?_
  refine po_iload_n hF dX4_usedVariance_3 rfl rfl ?_
  obtain ⟨x5, hx5, hm⟩ := po_bind hm
  refine po_callV (As := [.ref l1, .ref l2, .int l3]) hF dX4_usedVariance_4 wq_886 mv_X4_measureOf ws_X4_measureOf (show po_cl[4]? = some _ from rfl) rfl kl0 (c_X4_measureOf HL kl0 kl1 kl2 hx5) rfl (po_rtL hL rfl) (Nat.le_of_ble_eq_true rfl) rfl ?_
  refine po_top hm (fun v6 hm => ?_)
  refine po_istore (L' := [(4, .int v6), (0, .ref l0), (1, .ref l1), (2, .ref l2), (3, .int l3)]) hF dX4_usedVariance_7 (by decide) rfl ?_
  refine po_aload_n hF dX4_usedVariance_9 rfl rfl ?_
  refine po_aload_n hF dX4_usedVariance_10 rfl rfl ?_
  refine po_aload_n hF dX4_usedVariance_11 rfl rfl ?_
  refine po_iload_n hF dX4_usedVariance_12 rfl rfl ?_
  obtain ⟨x7, hx7, hm⟩ := po_bind hm
  refine po_callV (As := [.ref l1, .ref l2, .int l3]) hF dX4_usedVariance_13 wq_920 mv_X4_limitOf ws_X4_limitOf (show po_cl[4]? = some _ from rfl) rfl kl0 (c_X4_limitOf HL kl0 kl1 kl2 hx7) rfl (po_rtL hL rfl) (Nat.le_of_ble_eq_true rfl) rfl ?_
  refine po_istore (L' := [(5, .int x7), (4, .int v6), (0, .ref l0), (1, .ref l1), (2, .ref l2), (3, .int l3)]) hF dX4_usedVariance_16 (by decide) rfl ?_
  refine po_iconst (v := (-1)) hF dX4_usedVariance_18 (by decide) ?_
  refine po_istore (L' := [(6, .int (-1)), (5, .int x7), (4, .int v6), (0, .ref l0), (1, .ref l1), (2, .ref l2), (3, .int l3)]) hF dX4_usedVariance_19 (by decide) rfl ?_
  refine po_bipush (v := 100) hF dX4_usedVariance_21 (by decide) ?_
  refine po_istore (L' := [(7, .int 100), (6, .int (-1)), (5, .int x7), (4, .int v6), (0, .ref l0), (1, .ref l1), (2, .ref l2), (3, .int l3)]) hF dX4_usedVariance_23 (by decide) rfl ?_
  refine po_iload_n hF dX4_usedVariance_25 rfl rfl ?_
  refine po_iload hF dX4_usedVariance_26 rfl ?_
  refine po_iload hF dX4_usedVariance_28 rfl ?_
  obtain ⟨x8, hx8, hm⟩ := po_bind hm
  refine po_callS (As := [.int l3, .int v6, .int x7]) hF dX4_usedVariance_30 wq_924 mv_X4_isFinding (c_X4_isFinding HL hx8) rfl (po_rtL hL rfl) (Nat.le_of_ble_eq_true rfl) rfl ?_
  refine po_if_ne (tgt := 38) hF dX4_usedVariance_33 (by decide) hm (fun hm => ?_) (fun hm => ?_)
  · refine po_iconst (v := 0) hF dX4_usedVariance_38 (by decide) ?_
    refine po_istore (L' := [(8, .int 0), (7, .int 100), (6, .int (-1)), (5, .int x7), (4, .int v6), (0, .ref l0), (1, .ref l1), (2, .ref l2), (3, .int l3)]) hF dX4_usedVariance_39 (by decide) rfl ?_
    refine po_sub (L' := [(1, .ref l1), (2, .ref l2), (3, .int l3), (4, .int v6), (5, .int x7), (6, .int (-1)), (7, .int 100), (8, .int 0)]) rfl ?_
    exact w_X4_usedVariance_41L hF hL HL 5000 (x5.2) l1 l2 l3 v6 x7 (-1) 100 0 hm kl1 kl2
  · refine po_iconst (v := (-1)) hF dX4_usedVariance_36 (by decide) ?_
    cases hm
    exact po_iret hF hL dX4_usedVariance_37 (by decide) (by decide) rfl rfl rfl (Or.inl rfl)
theorem c_X4_usedVariance {K : po_K} {R : po_R} {I : po_I} {st : Nat → Nat} {ρ : Int32 × po_I} (HL : po_Lay K R st) {l0 : Nat} {l1 : Nat} {l2 : Nat} {l3 : Int32} (kl0 : K l0 = (15, 2)) (kl1 : K l1 = (16, 8)) (kl2 : K l2 = (13, 19)) (hm : m_X4_usedVariance I l0 l1 l2 l3 = some ρ) : po_C st yX4_usedVariance cX4_usedVariance 11 (some .int) 5 0 0 [.ref l0, .ref l1, .ref l2, .int l3] K R I none (.inl (some (.int ρ.1))) K R (ρ.2) none := by
  refine po_ofC (by decide +kernel) (Nat.le_of_ble_eq_true rfl) (fun X G hF hL => ?_)
  exact w_X4_usedVariance_e hF hL HL I l0 l1 l2 l3 kl0 kl1 kl2 hm
set_option maxRecDepth 20000 in
set_option maxHeartbeats 2000000 in
theorem w_X4_relievedSet_31 {X : po_X} {G : po_G} {st : Nat → Nat} {K : po_K} {R : po_R} {ρ : Int32 × po_I} {r5 : po_I → Nat → Nat → Nat → Int32 → Int32 → Option (Int32 × po_I)} (hF : po_F X G cX4_relievedSet RX4 5 st) (hL : po_L X (some .int) 6 0 0 "relievedSet") (HL : po_Lay K R st) (h5 : ∀ (I : po_I) (l0 : Nat) (l1 : Nat) (l2 : Nat) (l3 : Int32) (l4 : Int32), r5 I l0 l1 l2 l3 l4 = some ρ → K l0 = (15, 2) → K l1 = (16, 8) → K l2 = (13, 19) → po_V X G 5 (po_Q X G (.inl (some (.int ρ.1))) K R (ρ.2) none 0 0) 0 0 5 [(0, .ref l0), (1, .ref l1), (2, .ref l2), (3, .int l3), (4, .int l4)] [] K R I none) (I : po_I) (l0 : Nat) (l1 : Nat) (l2 : Nat) (l3 : Int32) (l4 : Int32) (kl0 : K l0 = (15, 2)) (kl1 : K l1 = (16, 8)) (kl2 : K l2 = (13, 19)) (hm : m_X4_relievedSet_31 r5 I l0 l1 l2 l3 l4 = some ρ) : po_V X G 5 (po_Q X G (.inl (some (.int ρ.1))) K R (ρ.2) none 0 0) 0 0 31 [(0, .ref l0), (1, .ref l1), (2, .ref l2), (3, .int l3), (4, .int l4)] [] K R I none := by
  unfold m_X4_relievedSet_31 at hm
  refine po_iinc (v := l4 + 1) (L' := [(4, .int (l4 + 1)), (0, .ref l0), (1, .ref l1), (2, .ref l2), (3, .int l3)]) hF dX4_relievedSet_31 rfl rfl (by decide) rfl ?_
  refine po_goto (tgt := 5) hF dX4_relievedSet_34 (by decide) ?_
  refine po_sub (L' := [(0, .ref l0), (1, .ref l1), (2, .ref l2), (3, .int l3), (4, .int (l4 + 1))]) rfl ?_
  exact h5 I l0 l1 l2 l3 (l4 + 1) hm kl0 kl1 kl2
set_option maxRecDepth 20000 in
set_option maxHeartbeats 2000000 in
theorem w_X4_relievedSet_5 {X : po_X} {G : po_G} {st : Nat → Nat} {K : po_K} {R : po_R} {ρ : Int32 × po_I} {r5 : po_I → Nat → Nat → Nat → Int32 → Int32 → Option (Int32 × po_I)} (hF : po_F X G cX4_relievedSet RX4 5 st) (hL : po_L X (some .int) 6 0 0 "relievedSet") (HL : po_Lay K R st) (h5 : ∀ (I : po_I) (l0 : Nat) (l1 : Nat) (l2 : Nat) (l3 : Int32) (l4 : Int32), r5 I l0 l1 l2 l3 l4 = some ρ → K l0 = (15, 2) → K l1 = (16, 8) → K l2 = (13, 19) → po_V X G 5 (po_Q X G (.inl (some (.int ρ.1))) K R (ρ.2) none 0 0) 0 0 5 [(0, .ref l0), (1, .ref l1), (2, .ref l2), (3, .int l3), (4, .int l4)] [] K R I none) (I : po_I) (l0 : Nat) (l1 : Nat) (l2 : Nat) (l3 : Int32) (l4 : Int32) (kl0 : K l0 = (15, 2)) (kl1 : K l1 = (16, 8)) (kl2 : K l2 = (13, 19)) (hm : m_X4_relievedSet_5 r5 I l0 l1 l2 l3 l4 = some ρ) : po_V X G 5 (po_Q X G (.inl (some (.int ρ.1))) K R (ρ.2) none 0 0) 0 0 5 [(0, .ref l0), (1, .ref l1), (2, .ref l2), (3, .int l3), (4, .int l4)] [] K R I none := by
  unfold m_X4_relievedSet_5 at hm
  refine po_iload hF dX4_relievedSet_5 rfl ?_
  refine po_bipush (v := 9) hF dX4_relievedSet_7 (by decide) ?_
  refine po_icmp_ge (tgt := 37) hF dX4_relievedSet_9 (by decide) hm (fun hm => ?_) (fun hm => ?_)
  · refine po_iload_n hF dX4_relievedSet_37 rfl rfl ?_
    cases hm
    exact po_iret hF hL dX4_relievedSet_38 (by decide) (by decide) rfl rfl rfl (Or.inl rfl)
  · refine po_aload_n hF dX4_relievedSet_12 rfl rfl ?_
    refine po_aload_n hF dX4_relievedSet_13 rfl rfl ?_
    refine po_aload_n hF dX4_relievedSet_14 rfl rfl ?_
    refine po_iload hF dX4_relievedSet_15 rfl ?_
    obtain ⟨x1, hx1, hm⟩ := po_bind hm
    refine po_callV (As := [.ref l1, .ref l2, .int l4]) hF dX4_relievedSet_17 wq_882 mv_X4_usedVariance ws_X4_usedVariance (show po_cl[4]? = some _ from rfl) rfl kl0 (c_X4_usedVariance HL kl0 kl1 kl2 hx1) rfl (po_rtL hL rfl) (Nat.le_of_ble_eq_true rfl) rfl ?_
    refine po_iconst (v := (-1)) hF dX4_relievedSet_20 (by decide) ?_
    refine po_icmp_eq (tgt := 31) hF dX4_relievedSet_21 (by decide) hm (fun hm => ?_) (fun hm => ?_)
    · exact w_X4_relievedSet_31 hF hL HL h5 (x1.2) l0 l1 l2 l3 l4 kl0 kl1 kl2 hm
    · refine po_iload_n hF dX4_relievedSet_24 rfl rfl ?_
      refine po_iconst (v := 1) hF dX4_relievedSet_25 (by decide) ?_
      refine po_iload hF dX4_relievedSet_26 rfl ?_
      refine po_ishl hF dX4_relievedSet_28 ?_
      refine po_ior hF dX4_relievedSet_29 ?_
      refine po_top hm (fun v2 hm => ?_)
      refine po_istore_n (L' := [(3, .int v2), (0, .ref l0), (1, .ref l1), (2, .ref l2), (4, .int l4)]) hF dX4_relievedSet_30 rfl (by decide) rfl ?_
      refine po_sub (L' := [(0, .ref l0), (1, .ref l1), (2, .ref l2), (3, .int v2), (4, .int l4)]) rfl ?_
      exact w_X4_relievedSet_31 hF hL HL h5 (x1.2) l0 l1 l2 v2 l4 kl0 kl1 kl2 hm
theorem w_X4_relievedSet_5L {X : po_X} {G : po_G} {st : Nat → Nat} {K : po_K} {R : po_R} {ρ : Int32 × po_I} (hF : po_F X G cX4_relievedSet RX4 5 st) (hL : po_L X (some .int) 6 0 0 "relievedSet") (HL : po_Lay K R st) : ∀ (n : Nat) (I : po_I) (l0 : Nat) (l1 : Nat) (l2 : Nat) (l3 : Int32) (l4 : Int32), m_X4_relievedSet_5L n I l0 l1 l2 l3 l4 = some ρ → K l0 = (15, 2) → K l1 = (16, 8) → K l2 = (13, 19) → po_V X G 5 (po_Q X G (.inl (some (.int ρ.1))) K R (ρ.2) none 0 0) 0 0 5 [(0, .ref l0), (1, .ref l1), (2, .ref l2), (3, .int l3), (4, .int l4)] [] K R I none := by
  intro n
  induction n with
  | zero => intro I l0 l1 l2 l3 l4 hm; cases hm
  | succ n ih => intro I l0 l1 l2 l3 l4 hm kl0 kl1 kl2; exact w_X4_relievedSet_5 hF hL HL (ih) I l0 l1 l2 l3 l4 kl0 kl1 kl2 hm
set_option maxRecDepth 20000 in
set_option maxHeartbeats 2000000 in
theorem w_X4_relievedSet_e {X : po_X} {G : po_G} {st : Nat → Nat} {K : po_K} {R : po_R} {ρ : Int32 × po_I} (hF : po_F X G cX4_relievedSet RX4 5 st) (hL : po_L X (some .int) 6 0 0 "relievedSet") (HL : po_Lay K R st) (I : po_I) (l0 : Nat) (l1 : Nat) (l2 : Nat) (kl0 : K l0 = (15, 2)) (kl1 : K l1 = (16, 8)) (kl2 : K l2 = (13, 19)) (hm : m_X4_relievedSet_e I l0 l1 l2 = some ρ) : po_V X G 5 (po_Q X G (.inl (some (.int ρ.1))) K R (ρ.2) none 0 0) 0 0 0 [(0, .ref l0), (1, .ref l1), (2, .ref l2)] [] K R I none := by
  unfold m_X4_relievedSet_e at hm
  refine po_iconst (v := 0) hF dX4_relievedSet_0 (by decide) ?_
  refine po_istore_n (L' := [(3, .int 0), (0, .ref l0), (1, .ref l1), (2, .ref l2)]) hF dX4_relievedSet_1 rfl (by decide) rfl ?_
  refine po_iconst (v := 0) hF dX4_relievedSet_2 (by decide) ?_
  refine po_istore (L' := [(4, .int 0), (3, .int 0), (0, .ref l0), (1, .ref l1), (2, .ref l2)]) hF dX4_relievedSet_3 (by decide) rfl ?_
  refine po_sub (L' := [(0, .ref l0), (1, .ref l1), (2, .ref l2), (3, .int 0), (4, .int 0)]) rfl ?_
  exact w_X4_relievedSet_5L hF hL HL 5000 I l0 l1 l2 0 0 hm kl0 kl1 kl2
theorem c_X4_relievedSet {K : po_K} {R : po_R} {I : po_I} {st : Nat → Nat} {ρ : Int32 × po_I} (HL : po_Lay K R st) {l0 : Nat} {l1 : Nat} {l2 : Nat} (kl0 : K l0 = (15, 2)) (kl1 : K l1 = (16, 8)) (kl2 : K l2 = (13, 19)) (hm : m_X4_relievedSet I l0 l1 l2 = some ρ) : po_C st yX4_relievedSet cX4_relievedSet 5 (some .int) 6 0 0 [.ref l0, .ref l1, .ref l2] K R I none (.inl (some (.int ρ.1))) K R (ρ.2) none := by
  refine po_ofC (by decide +kernel) (Nat.le_of_ble_eq_true rfl) (fun X G hF hL => ?_)
  exact w_X4_relievedSet_e hF hL HL I l0 l1 l2 kl0 kl1 kl2 hm
set_option maxRecDepth 20000 in
set_option maxHeartbeats 2000000 in
theorem w_X4_findingSet_43 {X : po_X} {G : po_G} {st : Nat → Nat} {K : po_K} {R : po_R} {ρ : Int32 × po_I} {r5 : po_I → Nat → Nat → Nat → Int32 → Int32 → Option (Int32 × po_I)} (hF : po_F X G cX4_findingSet RX4 5 st) (hL : po_L X (some .int) 5 0 0 "findingSet") (HL : po_Lay K R st) (h5 : ∀ (I : po_I) (l0 : Nat) (l1 : Nat) (l2 : Nat) (l3 : Int32) (l4 : Int32), r5 I l0 l1 l2 l3 l4 = some ρ → K l0 = (15, 2) → K l1 = (16, 8) → K l2 = (13, 19) → po_V X G 5 (po_Q X G (.inl (some (.int ρ.1))) K R (ρ.2) none 0 0) 0 0 5 [(0, .ref l0), (1, .ref l1), (2, .ref l2), (3, .int l3), (4, .int l4)] [] K R I none) (I : po_I) (l0 : Nat) (l1 : Nat) (l2 : Nat) (l3 : Int32) (l4 : Int32) (kl0 : K l0 = (15, 2)) (kl1 : K l1 = (16, 8)) (kl2 : K l2 = (13, 19)) (hm : m_X4_findingSet_43 r5 I l0 l1 l2 l3 l4 = some ρ) : po_V X G 5 (po_Q X G (.inl (some (.int ρ.1))) K R (ρ.2) none 0 0) 0 0 43 [(0, .ref l0), (1, .ref l1), (2, .ref l2), (3, .int l3), (4, .int l4)] [] K R I none := by
  unfold m_X4_findingSet_43 at hm
  refine po_iinc (v := l4 + 1) (L' := [(4, .int (l4 + 1)), (0, .ref l0), (1, .ref l1), (2, .ref l2), (3, .int l3)]) hF dX4_findingSet_43 rfl rfl (by decide) rfl ?_
  refine po_goto (tgt := 5) hF dX4_findingSet_46 (by decide) ?_
  refine po_sub (L' := [(0, .ref l0), (1, .ref l1), (2, .ref l2), (3, .int l3), (4, .int (l4 + 1))]) rfl ?_
  exact h5 I l0 l1 l2 l3 (l4 + 1) hm kl0 kl1 kl2
set_option maxRecDepth 20000 in
set_option maxHeartbeats 2000000 in
theorem w_X4_findingSet_5 {X : po_X} {G : po_G} {st : Nat → Nat} {K : po_K} {R : po_R} {ρ : Int32 × po_I} {r5 : po_I → Nat → Nat → Nat → Int32 → Int32 → Option (Int32 × po_I)} (hF : po_F X G cX4_findingSet RX4 5 st) (hL : po_L X (some .int) 5 0 0 "findingSet") (HL : po_Lay K R st) (h5 : ∀ (I : po_I) (l0 : Nat) (l1 : Nat) (l2 : Nat) (l3 : Int32) (l4 : Int32), r5 I l0 l1 l2 l3 l4 = some ρ → K l0 = (15, 2) → K l1 = (16, 8) → K l2 = (13, 19) → po_V X G 5 (po_Q X G (.inl (some (.int ρ.1))) K R (ρ.2) none 0 0) 0 0 5 [(0, .ref l0), (1, .ref l1), (2, .ref l2), (3, .int l3), (4, .int l4)] [] K R I none) (I : po_I) (l0 : Nat) (l1 : Nat) (l2 : Nat) (l3 : Int32) (l4 : Int32) (kl0 : K l0 = (15, 2)) (kl1 : K l1 = (16, 8)) (kl2 : K l2 = (13, 19)) (hm : m_X4_findingSet_5 r5 I l0 l1 l2 l3 l4 = some ρ) : po_V X G 5 (po_Q X G (.inl (some (.int ρ.1))) K R (ρ.2) none 0 0) 0 0 5 [(0, .ref l0), (1, .ref l1), (2, .ref l2), (3, .int l3), (4, .int l4)] [] K R I none := by
  unfold m_X4_findingSet_5 at hm
  refine po_iload hF dX4_findingSet_5 rfl ?_
  refine po_bipush (v := 9) hF dX4_findingSet_7 (by decide) ?_
  refine po_icmp_ge (tgt := 49) hF dX4_findingSet_9 (by decide) hm (fun hm => ?_) (fun hm => ?_)
  · refine po_iload_n hF dX4_findingSet_49 rfl rfl ?_
    cases hm
    exact po_iret hF hL dX4_findingSet_50 (by decide) (by decide) rfl rfl rfl (Or.inl rfl)
  · refine po_iload hF dX4_findingSet_12 rfl ?_
    refine po_aload_n hF dX4_findingSet_14 rfl rfl ?_
    refine po_aload_n hF dX4_findingSet_15 rfl rfl ?_
    refine po_aload_n hF dX4_findingSet_16 rfl rfl ?_
    refine po_iload hF dX4_findingSet_17 rfl ?_
    obtain ⟨x1, hx1, hm⟩ := po_bind hm
    refine po_callV (As := [.ref l1, .ref l2, .int l4]) hF dX4_findingSet_19 wq_886 mv_X4_measureOf ws_X4_measureOf (show po_cl[4]? = some _ from rfl) rfl kl0 (c_X4_measureOf HL kl0 kl1 kl2 hx1) rfl (po_rtL hL rfl) (Nat.le_of_ble_eq_true rfl) rfl ?_
    refine po_aload_n hF dX4_findingSet_22 rfl rfl ?_
    refine po_aload_n hF dX4_findingSet_23 rfl rfl ?_
    refine po_aload_n hF dX4_findingSet_24 rfl rfl ?_
    refine po_iload hF dX4_findingSet_25 rfl ?_
    obtain ⟨x2, hx2, hm⟩ := po_bind hm
    refine po_callV (As := [.ref l1, .ref l2, .int l4]) hF dX4_findingSet_27 wq_920 mv_X4_limitOf ws_X4_limitOf (show po_cl[4]? = some _ from rfl) rfl kl0 (c_X4_limitOf HL kl0 kl1 kl2 hx2) rfl (po_rtL hL rfl) (Nat.le_of_ble_eq_true rfl) rfl ?_
    obtain ⟨x3, hx3, hm⟩ := po_bind hm
    refine po_callS (As := [.int l4, .int (x1.1), .int x2]) hF dX4_findingSet_30 wq_924 mv_X4_isFinding (c_X4_isFinding HL hx3) rfl (po_rtL hL rfl) (Nat.le_of_ble_eq_true rfl) rfl ?_
    refine po_if_eq (tgt := 43) hF dX4_findingSet_33 (by decide) hm (fun hm => ?_) (fun hm => ?_)
    · exact w_X4_findingSet_43 hF hL HL h5 (x1.2) l0 l1 l2 l3 l4 kl0 kl1 kl2 hm
    · refine po_iload_n hF dX4_findingSet_36 rfl rfl ?_
      refine po_iconst (v := 1) hF dX4_findingSet_37 (by decide) ?_
      refine po_iload hF dX4_findingSet_38 rfl ?_
      refine po_ishl hF dX4_findingSet_40 ?_
      refine po_ior hF dX4_findingSet_41 ?_
      refine po_top hm (fun v4 hm => ?_)
      refine po_istore_n (L' := [(3, .int v4), (0, .ref l0), (1, .ref l1), (2, .ref l2), (4, .int l4)]) hF dX4_findingSet_42 rfl (by decide) rfl ?_
      refine po_sub (L' := [(0, .ref l0), (1, .ref l1), (2, .ref l2), (3, .int v4), (4, .int l4)]) rfl ?_
      exact w_X4_findingSet_43 hF hL HL h5 (x1.2) l0 l1 l2 v4 l4 kl0 kl1 kl2 hm
theorem w_X4_findingSet_5L {X : po_X} {G : po_G} {st : Nat → Nat} {K : po_K} {R : po_R} {ρ : Int32 × po_I} (hF : po_F X G cX4_findingSet RX4 5 st) (hL : po_L X (some .int) 5 0 0 "findingSet") (HL : po_Lay K R st) : ∀ (n : Nat) (I : po_I) (l0 : Nat) (l1 : Nat) (l2 : Nat) (l3 : Int32) (l4 : Int32), m_X4_findingSet_5L n I l0 l1 l2 l3 l4 = some ρ → K l0 = (15, 2) → K l1 = (16, 8) → K l2 = (13, 19) → po_V X G 5 (po_Q X G (.inl (some (.int ρ.1))) K R (ρ.2) none 0 0) 0 0 5 [(0, .ref l0), (1, .ref l1), (2, .ref l2), (3, .int l3), (4, .int l4)] [] K R I none := by
  intro n
  induction n with
  | zero => intro I l0 l1 l2 l3 l4 hm; cases hm
  | succ n ih => intro I l0 l1 l2 l3 l4 hm kl0 kl1 kl2; exact w_X4_findingSet_5 hF hL HL (ih) I l0 l1 l2 l3 l4 kl0 kl1 kl2 hm
set_option maxRecDepth 20000 in
set_option maxHeartbeats 2000000 in
theorem w_X4_findingSet_e {X : po_X} {G : po_G} {st : Nat → Nat} {K : po_K} {R : po_R} {ρ : Int32 × po_I} (hF : po_F X G cX4_findingSet RX4 5 st) (hL : po_L X (some .int) 5 0 0 "findingSet") (HL : po_Lay K R st) (I : po_I) (l0 : Nat) (l1 : Nat) (l2 : Nat) (kl0 : K l0 = (15, 2)) (kl1 : K l1 = (16, 8)) (kl2 : K l2 = (13, 19)) (hm : m_X4_findingSet_e I l0 l1 l2 = some ρ) : po_V X G 5 (po_Q X G (.inl (some (.int ρ.1))) K R (ρ.2) none 0 0) 0 0 0 [(0, .ref l0), (1, .ref l1), (2, .ref l2)] [] K R I none := by
  unfold m_X4_findingSet_e at hm
  refine po_iconst (v := 0) hF dX4_findingSet_0 (by decide) ?_
  refine po_istore_n (L' := [(3, .int 0), (0, .ref l0), (1, .ref l1), (2, .ref l2)]) hF dX4_findingSet_1 rfl (by decide) rfl ?_
  refine po_iconst (v := 0) hF dX4_findingSet_2 (by decide) ?_
  refine po_istore (L' := [(4, .int 0), (3, .int 0), (0, .ref l0), (1, .ref l1), (2, .ref l2)]) hF dX4_findingSet_3 (by decide) rfl ?_
  refine po_sub (L' := [(0, .ref l0), (1, .ref l1), (2, .ref l2), (3, .int 0), (4, .int 0)]) rfl ?_
  exact w_X4_findingSet_5L hF hL HL 5000 I l0 l1 l2 0 0 hm kl0 kl1 kl2
theorem c_X4_findingSet {K : po_K} {R : po_R} {I : po_I} {st : Nat → Nat} {ρ : Int32 × po_I} (HL : po_Lay K R st) {l0 : Nat} {l1 : Nat} {l2 : Nat} (kl0 : K l0 = (15, 2)) (kl1 : K l1 = (16, 8)) (kl2 : K l2 = (13, 19)) (hm : m_X4_findingSet I l0 l1 l2 = some ρ) : po_C st yX4_findingSet cX4_findingSet 5 (some .int) 5 0 0 [.ref l0, .ref l1, .ref l2] K R I none (.inl (some (.int ρ.1))) K R (ρ.2) none := by
  refine po_ofC (by decide +kernel) (Nat.le_of_ble_eq_true rfl) (fun X G hF hL => ?_)
  exact w_X4_findingSet_e hF hL HL I l0 l1 l2 kl0 kl1 kl2 hm
set_option maxRecDepth 20000 in
set_option maxHeartbeats 2000000 in
theorem w_X7_findings_37 {X : po_X} {G : po_G} {st : Nat → Nat} {K : po_K} {R : po_R} {ρ : (Int32 ⊕ String) × po_I} (hF : po_F X G cX7_findings RX7 4 st) (hL : po_L X (some .int) 7 1 6 "findings") (HL : po_Lay K R st) (I : po_I) (s0 : Int32) (hm : m_X7_findings_37 I s0 = some ρ) : po_V X G 4 (po_Q X G (po_oi (ρ.1)) K R (ρ.2) none 1 6) 1 6 37 [] [.int s0] K R I none := by
  unfold m_X7_findings_37 at hm
  cases hm
  exact po_iret hF hL dX7_findings_37 (by decide) (by decide) rfl rfl rfl (Or.inl rfl)
set_option maxRecDepth 20000 in
set_option maxHeartbeats 2000000 in
theorem w_X7_findings_e {X : po_X} {G : po_G} {st : Nat → Nat} {K : po_K} {R : po_R} {ρ : (Int32 ⊕ String) × po_I} (hF : po_F X G cX7_findings RX7 4 st) (hL : po_L X (some .int) 7 1 6 "findings") (HL : po_Lay K R st) (I : po_I) (l0 : Nat) (l1 : Int32) (l2 : Int32) (kl0 : K l0 = (18, 8)) (hm : m_X7_findings_e I l0 l1 l2 = some ρ) : po_V X G 4 (po_Q X G (po_oi (ρ.1)) K R (ρ.2) none 1 6) 0 0 0 [(0, .ref l0), (1, .int l1), (2, .int l2)] [] K R I none := by
  unfold m_X7_findings_e at hm
  refine po_aload_n hF dX7_findings_0 rfl rfl ?_
  refine po_iload_n hF dX7_findings_1 rfl rfl ?_
  obtain ⟨x1, hx1, hm⟩ := po_bind hm
  cases x1 with
  | inr y2 =>
    cases hm
    exact po_callVx (As := [.int l1]) hF hL dX7_findings_2 wq_859 mv_X7_permitOrThrow ws_X7_permitOrThrow (show po_cl[7]? = some _ from rfl) rfl kl0 (c_X7_permitOrThrow HL kl0 hx1) rfl (po_rtL hL rfl) (Nat.le_of_ble_eq_true rfl) rfl
  | inl y2 =>
    dsimp only [Sum.elim_inl] at hm
    refine po_callV (As := [.int l1]) hF dX7_findings_2 wq_859 mv_X7_permitOrThrow ws_X7_permitOrThrow (show po_cl[7]? = some _ from rfl) rfl kl0 (c_X7_permitOrThrow HL kl0 hx1) rfl (po_rtL hL rfl) (Nat.le_of_ble_eq_true rfl) rfl ?_
    refine po_astore_n (L' := [(3, .ref y2), (0, .ref l0), (1, .int l1), (2, .int l2)]) hF dX7_findings_5 rfl (by decide) rfl ?_
    refine po_iload_n hF dX7_findings_6 rfl rfl ?_
    refine po_if_eq (tgt := 25) hF dX7_findings_7 (by decide) hm (fun hm => ?_) (fun hm => ?_)
    · refine po_aload_n hF dX7_findings_25 rfl rfl ?_
      refine po_getf (v := .ref (l0 + 3)) hF dX7_findings_26 fl_X7_19 kl0 (ly_7_1 HL kl0).1 ?_
      refine po_aload_n hF dX7_findings_29 rfl rfl ?_
      refine po_getf (v := .ref (l0 + 8)) hF dX7_findings_30 fl_X7_26 kl0 (ly_7_2 HL kl0).1 ?_
      refine po_aload_n hF dX7_findings_33 rfl rfl ?_
      obtain ⟨x3, hx3, hm⟩ := po_bind hm
      refine po_callV (As := [.ref (l0 + 8), .ref y2]) hF dX7_findings_34 wq_935 mv_X4_findingSet ws_X4_findingSet (show po_cl[4]? = some _ from rfl) rfl ((ly_7_1 HL kl0).2) (c_X4_findingSet HL ((ly_7_1 HL kl0).2) ((ly_7_2 HL kl0).2) (kr_X7_permitOrThrow HL kl0 hx1) hx3) rfl (po_rtL hL rfl) (Nat.le_of_ble_eq_true rfl) rfl ?_
      refine po_sub (L' := []) rfl ?_
      exact w_X7_findings_37 hF hL HL (x3.2) (x3.1) hm
    · refine po_aload_n hF dX7_findings_10 rfl rfl ?_
      refine po_getf (v := .ref (l0 + 3)) hF dX7_findings_11 fl_X7_19 kl0 (ly_7_1 HL kl0).1 ?_
      refine po_aload_n hF dX7_findings_14 rfl rfl ?_
      refine po_getf (v := .ref (l0 + 8)) hF dX7_findings_15 fl_X7_26 kl0 (ly_7_2 HL kl0).1 ?_
      refine po_aload_n hF dX7_findings_18 rfl rfl ?_
      obtain ⟨x4, hx4, hm⟩ := po_bind hm
      refine po_callV (As := [.ref (l0 + 8), .ref y2]) hF dX7_findings_19 wq_878 mv_X4_relievedSet ws_X4_relievedSet (show po_cl[4]? = some _ from rfl) rfl ((ly_7_1 HL kl0).2) (c_X4_relievedSet HL ((ly_7_1 HL kl0).2) ((ly_7_2 HL kl0).2) (kr_X7_permitOrThrow HL kl0 hx1) hx4) rfl (po_rtL hL rfl) (Nat.le_of_ble_eq_true rfl) rfl ?_
      refine po_goto (tgt := 37) hF dX7_findings_22 (by decide) ?_
      refine po_sub (L' := []) rfl ?_
      exact w_X7_findings_37 hF hL HL (x4.2) (x4.1) hm
theorem c_X7_findings {K : po_K} {R : po_R} {I : po_I} {st : Nat → Nat} {ρ : (Int32 ⊕ String) × po_I} (HL : po_Lay K R st) {l0 : Nat} {l1 : Int32} {l2 : Int32} (kl0 : K l0 = (18, 8)) (hm : m_X7_findings I l0 l1 l2 = some ρ) : po_C st yX7_findings cX7_findings 4 (some .int) 7 1 6 [.ref l0, .int l1, .int l2] K R I none (po_oi (ρ.1)) K R (ρ.2) none := by
  refine po_ofC (by decide +kernel) (Nat.le_of_ble_eq_true rfl) (fun X G hF hL => ?_)
  exact w_X7_findings_e hF hL HL I l0 l1 l2 kl0 hm
set_option maxRecDepth 20000 in
set_option maxHeartbeats 2000000 in
theorem w_X7_finding_17 {X : po_X} {G : po_G} {st : Nat → Nat} {K : po_K} {R : po_R} {ρ : (Int32 ⊕ String) × po_I} (hF : po_F X G cX7_finding RX7 5 st) (hL : po_L X (some .int) 7 2 12 "finding") (HL : po_Lay K R st) (I : po_I) (hm : m_X7_finding_17 I = some ρ) : po_V X G 5 (po_Q X G (po_oi (ρ.1)) K R (ρ.2) none 2 12) 1 6 17 [] [] K R I none := by
  unfold m_X7_finding_17 at hm
  cases hm
  exact po_throw hF hL tw_X7_198_52 dX7_finding_17 dX7_finding_20 dX7_finding_21 dX7_finding_23 dX7_finding_26 (by decide) (Nat.le_of_ble_eq_true rfl) (by decide) (by decide) rfl rfl rfl
set_option maxRecDepth 20000 in
set_option maxHeartbeats 2000000 in
theorem w_X7_finding_e {X : po_X} {G : po_G} {st : Nat → Nat} {K : po_K} {R : po_R} {ρ : (Int32 ⊕ String) × po_I} (hF : po_F X G cX7_finding RX7 5 st) (hL : po_L X (some .int) 7 2 12 "finding") (HL : po_Lay K R st) (I : po_I) (l0 : Nat) (l1 : Int32) (l2 : Int32) (l3 : Int32) (kl0 : K l0 = (18, 8)) (hm : m_X7_finding_e I l0 l1 l2 l3 = some ρ) : po_V X G 5 (po_Q X G (po_oi (ρ.1)) K R (ρ.2) none 2 12) 0 0 0 [(0, .ref l0), (1, .int l1), (2, .int l2), (3, .int l3)] [] K R I none := by
  unfold m_X7_finding_e at hm
  refine po_aload_n hF dX7_finding_0 rfl rfl ?_
  refine po_iload_n hF dX7_finding_1 rfl rfl ?_
  obtain ⟨x1, hx1, hm⟩ := po_bind hm
  cases x1 with
  | inr y2 =>
    cases hm
    exact po_callVx (As := [.int l1]) hF hL dX7_finding_2 wq_859 mv_X7_permitOrThrow ws_X7_permitOrThrow (show po_cl[7]? = some _ from rfl) rfl kl0 (c_X7_permitOrThrow HL kl0 hx1) rfl (po_rtL hL rfl) (Nat.le_of_ble_eq_true rfl) rfl
  | inl y2 =>
    dsimp only [Sum.elim_inl] at hm
    refine po_callV (As := [.int l1]) hF dX7_finding_2 wq_859 mv_X7_permitOrThrow ws_X7_permitOrThrow (show po_cl[7]? = some _ from rfl) rfl kl0 (c_X7_permitOrThrow HL kl0 hx1) rfl (po_rtL hL rfl) (Nat.le_of_ble_eq_true rfl) rfl ?_
    refine po_astore (L' := [(4, .ref y2), (0, .ref l0), (1, .int l1), (2, .int l2), (3, .int l3)]) hF dX7_finding_5 (by decide) rfl ?_
    refine po_iload_n hF dX7_finding_7 rfl rfl ?_
    refine po_if_lt (tgt := 17) hF dX7_finding_8 (by decide) hm (fun hm => ?_) (fun hm => ?_)
    · refine po_sub (L' := []) rfl ?_
      exact w_X7_finding_17 hF hL HL I hm
    · refine po_iload_n hF dX7_finding_11 rfl rfl ?_
      refine po_bipush (v := 9) hF dX7_finding_12 (by decide) ?_
      refine po_icmp_lt (tgt := 27) hF dX7_finding_14 (by decide) hm (fun hm => ?_) (fun hm => ?_)
      · refine po_iload_n hF dX7_finding_27 rfl rfl ?_
        by_cases hs0 : l3 = 0
        · rw [if_pos hs0] at hm
          refine po_tin (c := 0) (tgt := 56) (off := 28) hF dX7_finding_28 hs0 (by decide) (by decide) (by decide) (by decide) ?_
          refine po_aload_n hF dX7_finding_56 rfl rfl ?_
          refine po_getf (v := .ref (l0 + 3)) hF dX7_finding_57 fl_X7_19 kl0 (ly_7_1 HL kl0).1 ?_
          refine po_aload_n hF dX7_finding_60 rfl rfl ?_
          refine po_getf (v := .ref (l0 + 8)) hF dX7_finding_61 fl_X7_26 kl0 (ly_7_2 HL kl0).1 ?_
          refine po_aload hF dX7_finding_64 rfl ?_
          refine po_iload_n hF dX7_finding_66 rfl rfl ?_
          obtain ⟨x3, hx3, hm⟩ := po_bind hm
          refine po_callV (As := [.ref (l0 + 8), .ref y2, .int l2]) hF dX7_finding_67 wq_947 mv_X4_measureOf ws_X4_measureOf (show po_cl[4]? = some _ from rfl) rfl ((ly_7_1 HL kl0).2) (c_X4_measureOf HL ((ly_7_1 HL kl0).2) ((ly_7_2 HL kl0).2) (kr_X7_permitOrThrow HL kl0 hx1) hx3) rfl (po_rtL hL rfl) (Nat.le_of_ble_eq_true rfl) rfl ?_
          cases hm
          exact po_iret hF hL dX7_finding_70 (by decide) (by decide) rfl rfl rfl (Or.inl rfl)
        rw [if_neg hs0] at hm
        by_cases hs1 : l3 = 1
        · rw [if_pos hs1] at hm
          refine po_tin (c := 1) (tgt := 71) (off := 43) hF dX7_finding_28 hs1 (by decide) (by decide) (by decide) (by decide) ?_
          refine po_aload_n hF dX7_finding_71 rfl rfl ?_
          refine po_getf (v := .ref (l0 + 3)) hF dX7_finding_72 fl_X7_19 kl0 (ly_7_1 HL kl0).1 ?_
          refine po_aload_n hF dX7_finding_75 rfl rfl ?_
          refine po_getf (v := .ref (l0 + 8)) hF dX7_finding_76 fl_X7_26 kl0 (ly_7_2 HL kl0).1 ?_
          refine po_aload hF dX7_finding_79 rfl ?_
          refine po_iload_n hF dX7_finding_81 rfl rfl ?_
          obtain ⟨x4, hx4, hm⟩ := po_bind hm
          refine po_callV (As := [.ref (l0 + 8), .ref y2, .int l2]) hF dX7_finding_82 wq_948 mv_X4_limitOf ws_X4_limitOf (show po_cl[4]? = some _ from rfl) rfl ((ly_7_1 HL kl0).2) (c_X4_limitOf HL ((ly_7_1 HL kl0).2) ((ly_7_2 HL kl0).2) (kr_X7_permitOrThrow HL kl0 hx1) hx4) rfl (po_rtL hL rfl) (Nat.le_of_ble_eq_true rfl) rfl ?_
          cases hm
          exact po_iret hF hL dX7_finding_85 (by decide) (by decide) rfl rfl rfl (Or.inl rfl)
        rw [if_neg hs1] at hm
        by_cases hs2 : l3 = 2
        · rw [if_pos hs2] at hm
          refine po_tin (c := 2) (tgt := 86) (off := 58) hF dX7_finding_28 hs2 (by decide) (by decide) (by decide) (by decide) ?_
          refine po_aload_n hF dX7_finding_86 rfl rfl ?_
          refine po_getf (v := .ref (l0 + 3)) hF dX7_finding_87 fl_X7_19 kl0 (ly_7_1 HL kl0).1 ?_
          refine po_aload_n hF dX7_finding_90 rfl rfl ?_
          refine po_getf (v := .ref (l0 + 8)) hF dX7_finding_91 fl_X7_26 kl0 (ly_7_2 HL kl0).1 ?_
          refine po_aload hF dX7_finding_94 rfl ?_
          refine po_iload_n hF dX7_finding_96 rfl rfl ?_
          obtain ⟨x5, hx5, hm⟩ := po_bind hm
          refine po_callV (As := [.ref (l0 + 8), .ref y2, .int l2]) hF dX7_finding_97 wq_949 mv_X4_usedVariance ws_X4_usedVariance (show po_cl[4]? = some _ from rfl) rfl ((ly_7_1 HL kl0).2) (c_X4_usedVariance HL ((ly_7_1 HL kl0).2) ((ly_7_2 HL kl0).2) (kr_X7_permitOrThrow HL kl0 hx1) hx5) rfl (po_rtL hL rfl) (Nat.le_of_ble_eq_true rfl) rfl ?_
          cases hm
          exact po_iret hF hL dX7_finding_100 (by decide) (by decide) rfl rfl rfl (Or.inl rfl)
        rw [if_neg hs2] at hm
        refine po_tout (tgt := 101) hF dX7_finding_28 (po_tdef (lo := 0) (m := 3) (fun j hj => by
          rcases (show j = 0 ∨ j = 1 ∨ j = 2 by omega) with rfl | rfl | rfl
          · exact po_neI (c := 0) hs0 (by decide)
          · exact po_neI (c := 1) hs1 (by decide)
          · exact po_neI (c := 2) hs2 (by decide)
          )) (by decide) ?_
        cases hm
        exact po_throw hF hL tw_X7_210_52 dX7_finding_101 dX7_finding_104 dX7_finding_105 dX7_finding_107 dX7_finding_110 (by decide) (Nat.le_of_ble_eq_true rfl) (by decide) (by decide) rfl rfl rfl
      · refine po_sub (L' := []) rfl ?_
        exact w_X7_finding_17 hF hL HL I hm
theorem c_X7_finding {K : po_K} {R : po_R} {I : po_I} {st : Nat → Nat} {ρ : (Int32 ⊕ String) × po_I} (HL : po_Lay K R st) {l0 : Nat} {l1 : Int32} {l2 : Int32} {l3 : Int32} (kl0 : K l0 = (18, 8)) (hm : m_X7_finding I l0 l1 l2 l3 = some ρ) : po_C st yX7_finding cX7_finding 5 (some .int) 7 2 12 [.ref l0, .int l1, .int l2, .int l3] K R I none (po_oi (ρ.1)) K R (ρ.2) none := by
  refine po_ofC (by decide +kernel) (Nat.le_of_ble_eq_true rfl) (fun X G hF hL => ?_)
  exact w_X7_finding_e hF hL HL I l0 l1 l2 l3 kl0 hm
set_option maxRecDepth 20000 in
set_option maxHeartbeats 2000000 in
theorem w_X4_unrelievedSet_38 {X : po_X} {G : po_G} {st : Nat → Nat} {K : po_K} {R : po_R} {ρ : Int32 × po_I} {r10 : po_I → Nat → Nat → Nat → Int32 → Int32 → Option (Int32 × po_I)} (hF : po_F X G cX4_unrelievedSet RX4 5 st) (hL : po_L X (some .int) 6 0 0 "unrelievedSet") (HL : po_Lay K R st) (h10 : ∀ (I : po_I) (l0 : Nat) (l1 : Nat) (l2 : Nat) (l3 : Int32) (l4 : Int32), r10 I l0 l1 l2 l3 l4 = some ρ → K l0 = (15, 2) → K l1 = (16, 8) → K l2 = (13, 19) → po_V X G 5 (po_Q X G (.inl (some (.int ρ.1))) K R (ρ.2) none 0 0) 0 0 10 [(0, .ref l0), (1, .ref l1), (2, .ref l2), (3, .int l3), (4, .int l4)] [] K R I none) (I : po_I) (l0 : Nat) (l1 : Nat) (l2 : Nat) (l3 : Int32) (l4 : Int32) (kl0 : K l0 = (15, 2)) (kl1 : K l1 = (16, 8)) (kl2 : K l2 = (13, 19)) (hm : m_X4_unrelievedSet_38 r10 I l0 l1 l2 l3 l4 = some ρ) : po_V X G 5 (po_Q X G (.inl (some (.int ρ.1))) K R (ρ.2) none 0 0) 0 0 38 [(0, .ref l0), (1, .ref l1), (2, .ref l2), (3, .int l3), (4, .int l4)] [] K R I none := by
  unfold m_X4_unrelievedSet_38 at hm
  refine po_iinc (v := l4 + 1) (L' := [(4, .int (l4 + 1)), (0, .ref l0), (1, .ref l1), (2, .ref l2), (3, .int l3)]) hF dX4_unrelievedSet_38 rfl rfl (by decide) rfl ?_
  refine po_goto (tgt := 10) hF dX4_unrelievedSet_41 (by decide) ?_
  refine po_sub (L' := [(0, .ref l0), (1, .ref l1), (2, .ref l2), (3, .int l3), (4, .int (l4 + 1))]) rfl ?_
  exact h10 I l0 l1 l2 l3 (l4 + 1) hm kl0 kl1 kl2
set_option maxRecDepth 20000 in
set_option maxHeartbeats 2000000 in
theorem w_X4_unrelievedSet_10 {X : po_X} {G : po_G} {st : Nat → Nat} {K : po_K} {R : po_R} {ρ : Int32 × po_I} {r10 : po_I → Nat → Nat → Nat → Int32 → Int32 → Option (Int32 × po_I)} (hF : po_F X G cX4_unrelievedSet RX4 5 st) (hL : po_L X (some .int) 6 0 0 "unrelievedSet") (HL : po_Lay K R st) (h10 : ∀ (I : po_I) (l0 : Nat) (l1 : Nat) (l2 : Nat) (l3 : Int32) (l4 : Int32), r10 I l0 l1 l2 l3 l4 = some ρ → K l0 = (15, 2) → K l1 = (16, 8) → K l2 = (13, 19) → po_V X G 5 (po_Q X G (.inl (some (.int ρ.1))) K R (ρ.2) none 0 0) 0 0 10 [(0, .ref l0), (1, .ref l1), (2, .ref l2), (3, .int l3), (4, .int l4)] [] K R I none) (I : po_I) (l0 : Nat) (l1 : Nat) (l2 : Nat) (l3 : Int32) (l4 : Int32) (kl0 : K l0 = (15, 2)) (kl1 : K l1 = (16, 8)) (kl2 : K l2 = (13, 19)) (hm : m_X4_unrelievedSet_10 r10 I l0 l1 l2 l3 l4 = some ρ) : po_V X G 5 (po_Q X G (.inl (some (.int ρ.1))) K R (ρ.2) none 0 0) 0 0 10 [(0, .ref l0), (1, .ref l1), (2, .ref l2), (3, .int l3), (4, .int l4)] [] K R I none := by
  unfold m_X4_unrelievedSet_10 at hm
  refine po_iload hF dX4_unrelievedSet_10 rfl ?_
  refine po_bipush (v := 9) hF dX4_unrelievedSet_12 (by decide) ?_
  refine po_icmp_ge (tgt := 44) hF dX4_unrelievedSet_14 (by decide) hm (fun hm => ?_) (fun hm => ?_)
  · refine po_iload_n hF dX4_unrelievedSet_44 rfl rfl ?_
    cases hm
    exact po_iret hF hL dX4_unrelievedSet_45 (by decide) (by decide) rfl rfl rfl (Or.inl rfl)
  · refine po_aload_n hF dX4_unrelievedSet_17 rfl rfl ?_
    refine po_aload_n hF dX4_unrelievedSet_18 rfl rfl ?_
    refine po_aload_n hF dX4_unrelievedSet_19 rfl rfl ?_
    refine po_iload hF dX4_unrelievedSet_20 rfl ?_
    obtain ⟨x1, hx1, hm⟩ := po_bind hm
    refine po_callV (As := [.ref l1, .ref l2, .int l4]) hF dX4_unrelievedSet_22 wq_882 mv_X4_usedVariance ws_X4_usedVariance (show po_cl[4]? = some _ from rfl) rfl kl0 (c_X4_usedVariance HL kl0 kl1 kl2 hx1) rfl (po_rtL hL rfl) (Nat.le_of_ble_eq_true rfl) rfl ?_
    refine po_iconst (v := (-1)) hF dX4_unrelievedSet_25 (by decide) ?_
    refine po_icmp_eq (tgt := 38) hF dX4_unrelievedSet_26 (by decide) hm (fun hm => ?_) (fun hm => ?_)
    · exact w_X4_unrelievedSet_38 hF hL HL h10 (x1.2) l0 l1 l2 l3 l4 kl0 kl1 kl2 hm
    · refine po_iload_n hF dX4_unrelievedSet_29 rfl rfl ?_
      refine po_iconst (v := 1) hF dX4_unrelievedSet_30 (by decide) ?_
      refine po_iload hF dX4_unrelievedSet_31 rfl ?_
      refine po_ishl hF dX4_unrelievedSet_33 ?_
      refine po_iconst (v := (-1)) hF dX4_unrelievedSet_34 (by decide) ?_
      refine po_ixor hF dX4_unrelievedSet_35 ?_
      refine po_iand hF dX4_unrelievedSet_36 ?_
      refine po_top hm (fun v2 hm => ?_)
      refine po_istore_n (L' := [(3, .int v2), (0, .ref l0), (1, .ref l1), (2, .ref l2), (4, .int l4)]) hF dX4_unrelievedSet_37 rfl (by decide) rfl ?_
      refine po_sub (L' := [(0, .ref l0), (1, .ref l1), (2, .ref l2), (3, .int v2), (4, .int l4)]) rfl ?_
      exact w_X4_unrelievedSet_38 hF hL HL h10 (x1.2) l0 l1 l2 v2 l4 kl0 kl1 kl2 hm
theorem w_X4_unrelievedSet_10L {X : po_X} {G : po_G} {st : Nat → Nat} {K : po_K} {R : po_R} {ρ : Int32 × po_I} (hF : po_F X G cX4_unrelievedSet RX4 5 st) (hL : po_L X (some .int) 6 0 0 "unrelievedSet") (HL : po_Lay K R st) : ∀ (n : Nat) (I : po_I) (l0 : Nat) (l1 : Nat) (l2 : Nat) (l3 : Int32) (l4 : Int32), m_X4_unrelievedSet_10L n I l0 l1 l2 l3 l4 = some ρ → K l0 = (15, 2) → K l1 = (16, 8) → K l2 = (13, 19) → po_V X G 5 (po_Q X G (.inl (some (.int ρ.1))) K R (ρ.2) none 0 0) 0 0 10 [(0, .ref l0), (1, .ref l1), (2, .ref l2), (3, .int l3), (4, .int l4)] [] K R I none := by
  intro n
  induction n with
  | zero => intro I l0 l1 l2 l3 l4 hm; cases hm
  | succ n ih => intro I l0 l1 l2 l3 l4 hm kl0 kl1 kl2; exact w_X4_unrelievedSet_10 hF hL HL (ih) I l0 l1 l2 l3 l4 kl0 kl1 kl2 hm
set_option maxRecDepth 20000 in
set_option maxHeartbeats 2000000 in
theorem w_X4_unrelievedSet_e {X : po_X} {G : po_G} {st : Nat → Nat} {K : po_K} {R : po_R} {ρ : Int32 × po_I} (hF : po_F X G cX4_unrelievedSet RX4 5 st) (hL : po_L X (some .int) 6 0 0 "unrelievedSet") (HL : po_Lay K R st) (I : po_I) (l0 : Nat) (l1 : Nat) (l2 : Nat) (kl0 : K l0 = (15, 2)) (kl1 : K l1 = (16, 8)) (kl2 : K l2 = (13, 19)) (hm : m_X4_unrelievedSet_e I l0 l1 l2 = some ρ) : po_V X G 5 (po_Q X G (.inl (some (.int ρ.1))) K R (ρ.2) none 0 0) 0 0 0 [(0, .ref l0), (1, .ref l1), (2, .ref l2)] [] K R I none := by
  unfold m_X4_unrelievedSet_e at hm
  refine po_aload_n hF dX4_unrelievedSet_0 rfl rfl ?_
  refine po_aload_n hF dX4_unrelievedSet_1 rfl rfl ?_
  refine po_aload_n hF dX4_unrelievedSet_2 rfl rfl ?_
  obtain ⟨x3, hx3, hm⟩ := po_bind hm
  refine po_callV (As := [.ref l1, .ref l2]) hF dX4_unrelievedSet_3 wq_964 mv_X4_findingSet ws_X4_findingSet (show po_cl[4]? = some _ from rfl) rfl kl0 (c_X4_findingSet HL kl0 kl1 kl2 hx3) rfl (po_rtL hL rfl) (Nat.le_of_ble_eq_true rfl) rfl ?_
  refine po_top hm (fun v4 hm => ?_)
  refine po_istore_n (L' := [(3, .int v4), (0, .ref l0), (1, .ref l1), (2, .ref l2)]) hF dX4_unrelievedSet_6 rfl (by decide) rfl ?_
  refine po_iconst (v := 0) hF dX4_unrelievedSet_7 (by decide) ?_
  refine po_istore (L' := [(4, .int 0), (3, .int v4), (0, .ref l0), (1, .ref l1), (2, .ref l2)]) hF dX4_unrelievedSet_8 (by decide) rfl ?_
  refine po_sub (L' := [(0, .ref l0), (1, .ref l1), (2, .ref l2), (3, .int v4), (4, .int 0)]) rfl ?_
  exact w_X4_unrelievedSet_10L hF hL HL 5000 (x3.2) l0 l1 l2 v4 0 hm kl0 kl1 kl2
theorem c_X4_unrelievedSet {K : po_K} {R : po_R} {I : po_I} {st : Nat → Nat} {ρ : Int32 × po_I} (HL : po_Lay K R st) {l0 : Nat} {l1 : Nat} {l2 : Nat} (kl0 : K l0 = (15, 2)) (kl1 : K l1 = (16, 8)) (kl2 : K l2 = (13, 19)) (hm : m_X4_unrelievedSet I l0 l1 l2 = some ρ) : po_C st yX4_unrelievedSet cX4_unrelievedSet 5 (some .int) 6 0 0 [.ref l0, .ref l1, .ref l2] K R I none (.inl (some (.int ρ.1))) K R (ρ.2) none := by
  refine po_ofC (by decide +kernel) (Nat.le_of_ble_eq_true rfl) (fun X G hF hL => ?_)
  exact w_X4_unrelievedSet_e hF hL HL I l0 l1 l2 kl0 kl1 kl2 hm
set_option maxRecDepth 20000 in
set_option maxHeartbeats 2000000 in
theorem w_X7_worst_69 {X : po_X} {G : po_G} {st : Nat → Nat} {K : po_K} {R : po_R} {ρ : (Int32 ⊕ String) × po_I} {r6 : po_I → Nat → Int32 → Int32 → Int32 → Option ((Int32 ⊕ String) × po_I)} (hF : po_F X G cX7_worst RX7 6 st) (hL : po_L X (some .int) 7 1 6 "worst") (HL : po_Lay K R st) (h6 : ∀ (I : po_I) (l0 : Nat) (l1 : Int32) (l2 : Int32) (l3 : Int32), r6 I l0 l1 l2 l3 = some ρ → K l0 = (18, 8) → po_V X G 6 (po_Q X G (po_oi (ρ.1)) K R (ρ.2) none 1 6) 0 0 6 [(0, .ref l0), (1, .int l1), (2, .int l2), (3, .int l3)] [] K R I none) (I : po_I) (l0 : Nat) (l1 : Int32) (l2 : Int32) (l3 : Int32) (kl0 : K l0 = (18, 8)) (hm : m_X7_worst_69 r6 I l0 l1 l2 l3 = some ρ) : po_V X G 6 (po_Q X G (po_oi (ρ.1)) K R (ρ.2) none 1 6) 0 0 69 [(0, .ref l0), (1, .int l1), (2, .int l2), (3, .int l3)] [] K R I none := by
  unfold m_X7_worst_69 at hm
  refine po_iinc (v := l3 + 1) (L' := [(3, .int (l3 + 1)), (0, .ref l0), (1, .int l1), (2, .int l2)]) hF dX7_worst_69 rfl rfl (by decide) rfl ?_
  refine po_goto (tgt := 6) hF dX7_worst_72 (by decide) ?_
  refine po_sub (L' := [(0, .ref l0), (1, .int l1), (2, .int l2), (3, .int (l3 + 1))]) rfl ?_
  exact h6 I l0 l1 l2 (l3 + 1) hm kl0
set_option maxRecDepth 20000 in
set_option maxHeartbeats 2000000 in
theorem w_X7_worst_56 {X : po_X} {G : po_G} {st : Nat → Nat} {K : po_K} {R : po_R} {ρ : (Int32 ⊕ String) × po_I} {r6 : po_I → Nat → Int32 → Int32 → Int32 → Option ((Int32 ⊕ String) × po_I)} (hF : po_F X G cX7_worst RX7 6 st) (hL : po_L X (some .int) 7 1 6 "worst") (HL : po_Lay K R st) (h6 : ∀ (I : po_I) (l0 : Nat) (l1 : Int32) (l2 : Int32) (l3 : Int32), r6 I l0 l1 l2 l3 = some ρ → K l0 = (18, 8) → po_V X G 6 (po_Q X G (po_oi (ρ.1)) K R (ρ.2) none 1 6) 0 0 6 [(0, .ref l0), (1, .int l1), (2, .int l2), (3, .int l3)] [] K R I none) (I : po_I) (l0 : Nat) (l1 : Int32) (l2 : Int32) (l3 : Int32) (s0 : Int32) (kl0 : K l0 = (18, 8)) (hm : m_X7_worst_56 r6 I l0 l1 l2 l3 s0 = some ρ) : po_V X G 6 (po_Q X G (po_oi (ρ.1)) K R (ρ.2) none 1 6) 0 0 56 [(0, .ref l0), (1, .int l1), (2, .int l2), (3, .int l3)] [.int s0] K R I none := by
  unfold m_X7_worst_56 at hm
  refine po_istore (L' := [(5, .int s0), (0, .ref l0), (1, .int l1), (2, .int l2), (3, .int l3)]) hF dX7_worst_56 (by decide) rfl ?_
  refine po_iload hF dX7_worst_58 rfl ?_
  refine po_iload_n hF dX7_worst_60 rfl rfl ?_
  refine po_icmp_le (tgt := 69) hF dX7_worst_61 (by decide) hm (fun hm => ?_) (fun hm => ?_)
  · refine po_sub (L' := [(0, .ref l0), (1, .int l1), (2, .int l2), (3, .int l3)]) rfl ?_
    exact w_X7_worst_69 hF hL HL h6 I l0 l1 l2 l3 kl0 hm
  · refine po_iload_n hF dX7_worst_64 rfl rfl ?_
    refine po_istore_n (L' := [(1, .int l3), (5, .int s0), (0, .ref l0), (2, .int l2), (3, .int l3)]) hF dX7_worst_65 rfl (by decide) rfl ?_
    refine po_iload hF dX7_worst_66 rfl ?_
    refine po_istore_n (L' := [(2, .int s0), (1, .int l3), (5, .int s0), (0, .ref l0), (3, .int l3)]) hF dX7_worst_68 rfl (by decide) rfl ?_
    refine po_sub (L' := [(0, .ref l0), (1, .int l3), (2, .int s0), (3, .int l3)]) rfl ?_
    exact w_X7_worst_69 hF hL HL h6 I l0 l3 s0 l3 kl0 hm
set_option maxRecDepth 20000 in
set_option maxHeartbeats 2000000 in
theorem w_X7_worst_6 {X : po_X} {G : po_G} {st : Nat → Nat} {K : po_K} {R : po_R} {ρ : (Int32 ⊕ String) × po_I} {r6 : po_I → Nat → Int32 → Int32 → Int32 → Option ((Int32 ⊕ String) × po_I)} (hF : po_F X G cX7_worst RX7 6 st) (hL : po_L X (some .int) 7 1 6 "worst") (HL : po_Lay K R st) (h6 : ∀ (I : po_I) (l0 : Nat) (l1 : Int32) (l2 : Int32) (l3 : Int32), r6 I l0 l1 l2 l3 = some ρ → K l0 = (18, 8) → po_V X G 6 (po_Q X G (po_oi (ρ.1)) K R (ρ.2) none 1 6) 0 0 6 [(0, .ref l0), (1, .int l1), (2, .int l2), (3, .int l3)] [] K R I none) (I : po_I) (l0 : Nat) (l1 : Int32) (l2 : Int32) (l3 : Int32) (kl0 : K l0 = (18, 8)) (hm : m_X7_worst_6 r6 I l0 l1 l2 l3 = some ρ) : po_V X G 6 (po_Q X G (po_oi (ρ.1)) K R (ρ.2) none 1 6) 0 0 6 [(0, .ref l0), (1, .int l1), (2, .int l2), (3, .int l3)] [] K R I none := by
  unfold m_X7_worst_6 at hm
  refine po_iload_n hF dX7_worst_6 rfl rfl ?_
  refine po_aload_n hF dX7_worst_7 rfl rfl ?_
  refine po_getf (v := .ref (l0 + 8)) hF dX7_worst_8 fl_X7_26 kl0 (ly_7_2 HL kl0).1 ?_
  refine po_getf (v := .int (I (l0 + 8) 5)) hF dX7_worst_11 fl_X7_212 ((ly_7_2 HL kl0).2) rfl ?_
  refine po_icmp_ge (tgt := 75) hF dX7_worst_14 (by decide) hm (fun hm => ?_) (fun hm => ?_)
  · refine po_iload_n hF dX7_worst_75 rfl rfl ?_
    refine po_iconst (v := (-1)) hF dX7_worst_76 (by decide) ?_
    refine po_icmp_ne (tgt := 90) hF dX7_worst_77 (by decide) hm (fun hm => ?_) (fun hm => ?_)
    · refine po_iload_n hF dX7_worst_90 rfl rfl ?_
      cases hm
      exact po_iret hF hL dX7_worst_91 (by decide) (by decide) rfl rfl rfl (Or.inl rfl)
    · cases hm
      exact po_throwX hF hL tw_X7_234_236 dX7_worst_80 dX7_worst_83 dX7_worst_84 dX7_worst_86 dX7_worst_89 (by decide) (Nat.le_of_ble_eq_true rfl) (by decide) (by decide) rfl rfl rfl
  · refine po_aload_n hF dX7_worst_17 rfl rfl ?_
    refine po_getf (v := .ref (l0 + 8)) hF dX7_worst_18 fl_X7_26 kl0 (ly_7_2 HL kl0).1 ?_
    refine po_getf (v := .ref ((l0 + 8) + 3)) hF dX7_worst_21 fl_X7_215 ((ly_7_2 HL kl0).2) (ly_5_4 HL ((ly_7_2 HL kl0).2)).1 ?_
    refine po_iload_n hF dX7_worst_24 rfl rfl ?_
    refine po_aald hF dX7_worst_25 ((ly_5_4 HL ((ly_7_2 HL kl0).2)).2) (Or.inr (Or.inl rfl)) hm (fun hi1 => (le_5_4 HL ((ly_7_2 HL kl0).2) (po_in_lt hi1)).1) (fun hi1 hm => ?_)
    refine po_astore (L' := [(4, .ref ((l0 + 8) + (29 + 5 * (Int32.toNatClampNeg l3)))), (0, .ref l0), (1, .int l1), (2, .int l2), (3, .int l3)]) hF dX7_worst_26 (by decide) rfl ?_
    refine po_aload hF dX7_worst_28 rfl ?_
    obtain ⟨x2, hx2, hm⟩ := po_bind hm
    refine po_callV (As := []) hF dX7_worst_30 wq_959 mv_X2_stands ws_X2_stands (show po_cl[2]? = some _ from rfl) rfl ((le_5_4 HL ((ly_7_2 HL kl0).2) (po_in_lt hi1)).2) (c_X2_stands HL ((le_5_4 HL ((ly_7_2 HL kl0).2) (po_in_lt hi1)).2) hx2) rfl (po_rtL hL rfl) (Nat.le_of_ble_eq_true rfl) rfl ?_
    refine po_if_eq (tgt := 55) hF dX7_worst_33 (by decide) hm (fun hm => ?_) (fun hm => ?_)
    · refine po_iconst (v := 0) hF dX7_worst_55 (by decide) ?_
      refine po_sub (L' := [(0, .ref l0), (1, .int l1), (2, .int l2), (3, .int l3)]) rfl ?_
      exact w_X7_worst_56 hF hL HL h6 I l0 l1 l2 l3 0 kl0 hm
    · refine po_aload_n hF dX7_worst_36 rfl rfl ?_
      refine po_getf (v := .ref (l0 + 3)) hF dX7_worst_37 fl_X7_19 kl0 (ly_7_1 HL kl0).1 ?_
      refine po_aload_n hF dX7_worst_40 rfl rfl ?_
      refine po_getf (v := .ref (l0 + 8)) hF dX7_worst_41 fl_X7_26 kl0 (ly_7_2 HL kl0).1 ?_
      refine po_aload hF dX7_worst_44 rfl ?_
      obtain ⟨x3, hx3, hm⟩ := po_bind hm
      refine po_callV (As := [.ref (l0 + 8), .ref ((l0 + 8) + (29 + 5 * (Int32.toNatClampNeg l3)))]) hF dX7_worst_46 wq_960 mv_X4_unrelievedSet ws_X4_unrelievedSet (show po_cl[4]? = some _ from rfl) rfl ((ly_7_1 HL kl0).2) (c_X4_unrelievedSet HL ((ly_7_1 HL kl0).2) ((ly_7_2 HL kl0).2) ((le_5_4 HL ((ly_7_2 HL kl0).2) (po_in_lt hi1)).2) hx3) rfl (po_rtL hL rfl) (Nat.le_of_ble_eq_true rfl) rfl ?_
      obtain ⟨x4, hx4, hm⟩ := po_bind hm
      refine po_callS (As := [.int (x3.1)]) hF dX7_worst_49 wq_965 mv_J6_bitCount_0f7a4 (c_J6_bitCount_0f7a4 HL hx4) rfl (po_rtL hL rfl) (Nat.le_of_ble_eq_true rfl) rfl ?_
      refine po_goto (tgt := 56) hF dX7_worst_52 (by decide) ?_
      refine po_sub (L' := [(0, .ref l0), (1, .int l1), (2, .int l2), (3, .int l3)]) rfl ?_
      exact w_X7_worst_56 hF hL HL h6 (x3.2) l0 l1 l2 l3 x4 kl0 hm
theorem w_X7_worst_6L {X : po_X} {G : po_G} {st : Nat → Nat} {K : po_K} {R : po_R} {ρ : (Int32 ⊕ String) × po_I} (hF : po_F X G cX7_worst RX7 6 st) (hL : po_L X (some .int) 7 1 6 "worst") (HL : po_Lay K R st) : ∀ (n : Nat) (I : po_I) (l0 : Nat) (l1 : Int32) (l2 : Int32) (l3 : Int32), m_X7_worst_6L n I l0 l1 l2 l3 = some ρ → K l0 = (18, 8) → po_V X G 6 (po_Q X G (po_oi (ρ.1)) K R (ρ.2) none 1 6) 0 0 6 [(0, .ref l0), (1, .int l1), (2, .int l2), (3, .int l3)] [] K R I none := by
  intro n
  induction n with
  | zero => intro I l0 l1 l2 l3 hm; cases hm
  | succ n ih => intro I l0 l1 l2 l3 hm kl0; exact w_X7_worst_6 hF hL HL (ih) I l0 l1 l2 l3 kl0 hm
set_option maxRecDepth 20000 in
set_option maxHeartbeats 2000000 in
theorem w_X7_worst_e {X : po_X} {G : po_G} {st : Nat → Nat} {K : po_K} {R : po_R} {ρ : (Int32 ⊕ String) × po_I} (hF : po_F X G cX7_worst RX7 6 st) (hL : po_L X (some .int) 7 1 6 "worst") (HL : po_Lay K R st) (I : po_I) (l0 : Nat) (kl0 : K l0 = (18, 8)) (hm : m_X7_worst_e I l0 = some ρ) : po_V X G 6 (po_Q X G (po_oi (ρ.1)) K R (ρ.2) none 1 6) 0 0 0 [(0, .ref l0)] [] K R I none := by
  unfold m_X7_worst_e at hm
  refine po_iconst (v := (-1)) hF dX7_worst_0 (by decide) ?_
  refine po_istore_n (L' := [(1, .int (-1)), (0, .ref l0)]) hF dX7_worst_1 rfl (by decide) rfl ?_
  refine po_iconst (v := 0) hF dX7_worst_2 (by decide) ?_
  refine po_istore_n (L' := [(2, .int 0), (1, .int (-1)), (0, .ref l0)]) hF dX7_worst_3 rfl (by decide) rfl ?_
  refine po_iconst (v := 0) hF dX7_worst_4 (by decide) ?_
  refine po_istore_n (L' := [(3, .int 0), (2, .int 0), (1, .int (-1)), (0, .ref l0)]) hF dX7_worst_5 rfl (by decide) rfl ?_
  refine po_sub (L' := [(0, .ref l0), (1, .int (-1)), (2, .int 0), (3, .int 0)]) rfl ?_
  exact w_X7_worst_6L hF hL HL 5000 I l0 (-1) 0 0 hm kl0
theorem c_X7_worst {K : po_K} {R : po_R} {I : po_I} {st : Nat → Nat} {ρ : (Int32 ⊕ String) × po_I} (HL : po_Lay K R st) {l0 : Nat} (kl0 : K l0 = (18, 8)) (hm : m_X7_worst I l0 = some ρ) : po_C st yX7_worst cX7_worst 6 (some .int) 7 1 6 [.ref l0] K R I none (po_oi (ρ.1)) K R (ρ.2) none := by
  refine po_ofC (by decide +kernel) (Nat.le_of_ble_eq_true rfl) (fun X G hF hL => ?_)
  exact w_X7_worst_e hF hL HL I l0 kl0 hm
set_option maxRecDepth 20000 in
set_option maxHeartbeats 2000000 in
theorem w_X4_usedVariances_35 {X : po_X} {G : po_G} {st : Nat → Nat} {K : po_K} {R : po_R} {ρ : Int32 × po_I} {r5 : po_I → Nat → Nat → Nat → Int32 → Int32 → Option (Int32 × po_I)} (hF : po_F X G cX4_usedVariances RX4 6 st) (hL : po_L X (some .int) 6 0 0 "usedVariances") (HL : po_Lay K R st) (h5 : ∀ (I : po_I) (l0 : Nat) (l1 : Nat) (l2 : Nat) (l3 : Int32) (l4 : Int32), r5 I l0 l1 l2 l3 l4 = some ρ → K l0 = (15, 2) → K l1 = (16, 8) → K l2 = (13, 19) → po_V X G 6 (po_Q X G (.inl (some (.int ρ.1))) K R (ρ.2) none 0 0) 0 0 5 [(0, .ref l0), (1, .ref l1), (2, .ref l2), (3, .int l3), (4, .int l4)] [] K R I none) (I : po_I) (l0 : Nat) (l1 : Nat) (l2 : Nat) (l3 : Int32) (l4 : Int32) (kl0 : K l0 = (15, 2)) (kl1 : K l1 = (16, 8)) (kl2 : K l2 = (13, 19)) (hm : m_X4_usedVariances_35 r5 I l0 l1 l2 l3 l4 = some ρ) : po_V X G 6 (po_Q X G (.inl (some (.int ρ.1))) K R (ρ.2) none 0 0) 0 0 35 [(0, .ref l0), (1, .ref l1), (2, .ref l2), (3, .int l3), (4, .int l4)] [] K R I none := by
  unfold m_X4_usedVariances_35 at hm
  refine po_iinc (v := l4 + 1) (L' := [(4, .int (l4 + 1)), (0, .ref l0), (1, .ref l1), (2, .ref l2), (3, .int l3)]) hF dX4_usedVariances_35 rfl rfl (by decide) rfl ?_
  refine po_goto (tgt := 5) hF dX4_usedVariances_38 (by decide) ?_
  refine po_sub (L' := [(0, .ref l0), (1, .ref l1), (2, .ref l2), (3, .int l3), (4, .int (l4 + 1))]) rfl ?_
  exact h5 I l0 l1 l2 l3 (l4 + 1) hm kl0 kl1 kl2
set_option maxRecDepth 20000 in
set_option maxHeartbeats 2000000 in
theorem w_X4_usedVariances_5 {X : po_X} {G : po_G} {st : Nat → Nat} {K : po_K} {R : po_R} {ρ : Int32 × po_I} {r5 : po_I → Nat → Nat → Nat → Int32 → Int32 → Option (Int32 × po_I)} (hF : po_F X G cX4_usedVariances RX4 6 st) (hL : po_L X (some .int) 6 0 0 "usedVariances") (HL : po_Lay K R st) (h5 : ∀ (I : po_I) (l0 : Nat) (l1 : Nat) (l2 : Nat) (l3 : Int32) (l4 : Int32), r5 I l0 l1 l2 l3 l4 = some ρ → K l0 = (15, 2) → K l1 = (16, 8) → K l2 = (13, 19) → po_V X G 6 (po_Q X G (.inl (some (.int ρ.1))) K R (ρ.2) none 0 0) 0 0 5 [(0, .ref l0), (1, .ref l1), (2, .ref l2), (3, .int l3), (4, .int l4)] [] K R I none) (I : po_I) (l0 : Nat) (l1 : Nat) (l2 : Nat) (l3 : Int32) (l4 : Int32) (kl0 : K l0 = (15, 2)) (kl1 : K l1 = (16, 8)) (kl2 : K l2 = (13, 19)) (hm : m_X4_usedVariances_5 r5 I l0 l1 l2 l3 l4 = some ρ) : po_V X G 6 (po_Q X G (.inl (some (.int ρ.1))) K R (ρ.2) none 0 0) 0 0 5 [(0, .ref l0), (1, .ref l1), (2, .ref l2), (3, .int l3), (4, .int l4)] [] K R I none := by
  unfold m_X4_usedVariances_5 at hm
  refine po_iload hF dX4_usedVariances_5 rfl ?_
  refine po_bipush (v := 9) hF dX4_usedVariances_7 (by decide) ?_
  refine po_icmp_ge (tgt := 41) hF dX4_usedVariances_9 (by decide) hm (fun hm => ?_) (fun hm => ?_)
  · refine po_iload_n hF dX4_usedVariances_41 rfl rfl ?_
    cases hm
    exact po_iret hF hL dX4_usedVariances_42 (by decide) (by decide) rfl rfl rfl (Or.inl rfl)
  · refine po_aload_n hF dX4_usedVariances_12 rfl rfl ?_
    refine po_aload_n hF dX4_usedVariances_13 rfl rfl ?_
    refine po_aload_n hF dX4_usedVariances_14 rfl rfl ?_
    refine po_iload hF dX4_usedVariances_15 rfl ?_
    obtain ⟨x1, hx1, hm⟩ := po_bind hm
    refine po_callV (As := [.ref l1, .ref l2, .int l4]) hF dX4_usedVariances_17 wq_882 mv_X4_usedVariance ws_X4_usedVariance (show po_cl[4]? = some _ from rfl) rfl kl0 (c_X4_usedVariance HL kl0 kl1 kl2 hx1) rfl (po_rtL hL rfl) (Nat.le_of_ble_eq_true rfl) rfl ?_
    refine po_top hm (fun v2 hm => ?_)
    refine po_istore (L' := [(5, .int v2), (0, .ref l0), (1, .ref l1), (2, .ref l2), (3, .int l3), (4, .int l4)]) hF dX4_usedVariances_20 (by decide) rfl ?_
    refine po_iload hF dX4_usedVariances_22 rfl ?_
    refine po_iconst (v := (-1)) hF dX4_usedVariances_24 (by decide) ?_
    refine po_icmp_eq (tgt := 35) hF dX4_usedVariances_25 (by decide) hm (fun hm => ?_) (fun hm => ?_)
    · refine po_sub (L' := [(0, .ref l0), (1, .ref l1), (2, .ref l2), (3, .int l3), (4, .int l4)]) rfl ?_
      exact w_X4_usedVariances_35 hF hL HL h5 (x1.2) l0 l1 l2 l3 l4 kl0 kl1 kl2 hm
    · refine po_iload_n hF dX4_usedVariances_28 rfl rfl ?_
      refine po_iconst (v := 1) hF dX4_usedVariances_29 (by decide) ?_
      refine po_iload hF dX4_usedVariances_30 rfl ?_
      refine po_ishl hF dX4_usedVariances_32 ?_
      refine po_ior hF dX4_usedVariances_33 ?_
      refine po_top hm (fun v3 hm => ?_)
      refine po_istore_n (L' := [(3, .int v3), (5, .int v2), (0, .ref l0), (1, .ref l1), (2, .ref l2), (4, .int l4)]) hF dX4_usedVariances_34 rfl (by decide) rfl ?_
      refine po_sub (L' := [(0, .ref l0), (1, .ref l1), (2, .ref l2), (3, .int v3), (4, .int l4)]) rfl ?_
      exact w_X4_usedVariances_35 hF hL HL h5 (x1.2) l0 l1 l2 v3 l4 kl0 kl1 kl2 hm
theorem w_X4_usedVariances_5L {X : po_X} {G : po_G} {st : Nat → Nat} {K : po_K} {R : po_R} {ρ : Int32 × po_I} (hF : po_F X G cX4_usedVariances RX4 6 st) (hL : po_L X (some .int) 6 0 0 "usedVariances") (HL : po_Lay K R st) : ∀ (n : Nat) (I : po_I) (l0 : Nat) (l1 : Nat) (l2 : Nat) (l3 : Int32) (l4 : Int32), m_X4_usedVariances_5L n I l0 l1 l2 l3 l4 = some ρ → K l0 = (15, 2) → K l1 = (16, 8) → K l2 = (13, 19) → po_V X G 6 (po_Q X G (.inl (some (.int ρ.1))) K R (ρ.2) none 0 0) 0 0 5 [(0, .ref l0), (1, .ref l1), (2, .ref l2), (3, .int l3), (4, .int l4)] [] K R I none := by
  intro n
  induction n with
  | zero => intro I l0 l1 l2 l3 l4 hm; cases hm
  | succ n ih => intro I l0 l1 l2 l3 l4 hm kl0 kl1 kl2; exact w_X4_usedVariances_5 hF hL HL (ih) I l0 l1 l2 l3 l4 kl0 kl1 kl2 hm
set_option maxRecDepth 20000 in
set_option maxHeartbeats 2000000 in
theorem w_X4_usedVariances_e {X : po_X} {G : po_G} {st : Nat → Nat} {K : po_K} {R : po_R} {ρ : Int32 × po_I} (hF : po_F X G cX4_usedVariances RX4 6 st) (hL : po_L X (some .int) 6 0 0 "usedVariances") (HL : po_Lay K R st) (I : po_I) (l0 : Nat) (l1 : Nat) (l2 : Nat) (kl0 : K l0 = (15, 2)) (kl1 : K l1 = (16, 8)) (kl2 : K l2 = (13, 19)) (hm : m_X4_usedVariances_e I l0 l1 l2 = some ρ) : po_V X G 6 (po_Q X G (.inl (some (.int ρ.1))) K R (ρ.2) none 0 0) 0 0 0 [(0, .ref l0), (1, .ref l1), (2, .ref l2)] [] K R I none := by
  unfold m_X4_usedVariances_e at hm
  refine po_iconst (v := 0) hF dX4_usedVariances_0 (by decide) ?_
  refine po_istore_n (L' := [(3, .int 0), (0, .ref l0), (1, .ref l1), (2, .ref l2)]) hF dX4_usedVariances_1 rfl (by decide) rfl ?_
  refine po_iconst (v := 0) hF dX4_usedVariances_2 (by decide) ?_
  refine po_istore (L' := [(4, .int 0), (3, .int 0), (0, .ref l0), (1, .ref l1), (2, .ref l2)]) hF dX4_usedVariances_3 (by decide) rfl ?_
  refine po_sub (L' := [(0, .ref l0), (1, .ref l1), (2, .ref l2), (3, .int 0), (4, .int 0)]) rfl ?_
  exact w_X4_usedVariances_5L hF hL HL 5000 I l0 l1 l2 0 0 hm kl0 kl1 kl2
theorem c_X4_usedVariances {K : po_K} {R : po_R} {I : po_I} {st : Nat → Nat} {ρ : Int32 × po_I} (HL : po_Lay K R st) {l0 : Nat} {l1 : Nat} {l2 : Nat} (kl0 : K l0 = (15, 2)) (kl1 : K l1 = (16, 8)) (kl2 : K l2 = (13, 19)) (hm : m_X4_usedVariances I l0 l1 l2 = some ρ) : po_C st yX4_usedVariances cX4_usedVariances 6 (some .int) 6 0 0 [.ref l0, .ref l1, .ref l2] K R I none (.inl (some (.int ρ.1))) K R (ρ.2) none := by
  refine po_ofC (by decide +kernel) (Nat.le_of_ble_eq_true rfl) (fun X G hF hL => ?_)
  exact w_X4_usedVariances_e hF hL HL I l0 l1 l2 kl0 kl1 kl2 hm
set_option maxRecDepth 20000 in
set_option maxHeartbeats 2000000 in
theorem w_X2_becomeIssued_e {X : po_X} {G : po_G} {st : Nat → Nat} {K : po_K} {R : po_R} {ρ : po_I} (hF : po_F X G cX2_becomeIssued RX2 3 st) (hL : po_L X none 1 0 0 "becomeIssued") (HL : po_Lay K R st) (I : po_I) (l0 : Nat) (l1 : Int32) (l2 : Int32) (kl0 : K l0 = (13, 19)) (hm : m_X2_becomeIssued_e I l0 l1 l2 = some ρ) : po_V X G 3 (po_Q X G (.inl (none)) K R (ρ) none 0 0) 0 0 0 [(0, .ref l0), (1, .int l1), (2, .int l2)] [] K R I none := by
  unfold m_X2_becomeIssued_e at hm
  refine po_aload_n hF dX2_becomeIssued_0 rfl rfl ?_
  refine po_iconst (v := 2) hF dX2_becomeIssued_1 (by decide) ?_
  refine po_puti hF dX2_becomeIssued_2 fl_X2_44 kl0 (by intro r h; cases h; rfl) rfl rfl (fun _ => rfl) rfl ?_
  refine po_hname hm (fun I1 hm => ?_)
  refine po_aload_n hF dX2_becomeIssued_5 rfl rfl ?_
  refine po_iload_n hF dX2_becomeIssued_6 rfl rfl ?_
  refine po_bipush (v := 30) hF dX2_becomeIssued_7 (by decide) ?_
  refine po_iadd hF dX2_becomeIssued_9 ?_
  refine po_puti hF dX2_becomeIssued_10 fl_X2_56 kl0 (by intro r h; cases h; rfl) rfl rfl (fun _ => rfl) rfl ?_
  refine po_hname hm (fun I2 hm => ?_)
  refine po_aload_n hF dX2_becomeIssued_13 rfl rfl ?_
  refine po_iload_n hF dX2_becomeIssued_14 rfl rfl ?_
  refine po_puti hF dX2_becomeIssued_15 fl_X2_63 kl0 (by intro r h; cases h; rfl) rfl rfl (fun _ => rfl) rfl ?_
  refine po_hname hm (fun I3 hm => ?_)
  refine po_aload_n hF dX2_becomeIssued_18 rfl rfl ?_
  refine po_dup hF dX2_becomeIssued_19 rfl ?_
  refine po_getf (v := .int (I3 l0 13)) hF dX2_becomeIssued_20 fl_X2_66 kl0 rfl ?_
  refine po_bipush (v := 10) hF dX2_becomeIssued_23 (by decide) ?_
  refine po_iload_n hF dX2_becomeIssued_25 rfl rfl ?_
  obtain ⟨x4, hx4, hm⟩ := po_bind hm
  refine po_callS (As := [.int l2]) hF dX2_becomeIssued_26 wq_869 mv_J6_bitCount_0f7a4 (c_J6_bitCount_0f7a4 HL hx4) rfl (po_rtL hL rfl) (Nat.le_of_ble_eq_true rfl) rfl ?_
  refine po_imul hF dX2_becomeIssued_29 ?_
  refine po_iadd hF dX2_becomeIssued_30 ?_
  refine po_puti hF dX2_becomeIssued_31 fl_X2_66 kl0 (by intro r h; cases h; rfl) rfl rfl (fun _ => rfl) rfl ?_
  refine po_hname hm (fun I5 hm => ?_)
  cases hm
  exact po_vret hF hL dX2_becomeIssued_34 (by decide) (by decide) rfl rfl rfl (Or.inl rfl)
theorem c_X2_becomeIssued {K : po_K} {R : po_R} {I : po_I} {st : Nat → Nat} {ρ : po_I} (HL : po_Lay K R st) {l0 : Nat} {l1 : Int32} {l2 : Int32} (kl0 : K l0 = (13, 19)) (hm : m_X2_becomeIssued I l0 l1 l2 = some ρ) : po_C st yX2_becomeIssued cX2_becomeIssued 3 none 1 0 0 [.ref l0, .int l1, .int l2] K R I none (.inl (none)) K R (ρ) none := by
  refine po_ofC (by decide +kernel) (Nat.le_of_ble_eq_true rfl) (fun X G hF hL => ?_)
  exact w_X2_becomeIssued_e hF hL HL I l0 l1 l2 kl0 hm
set_option maxRecDepth 20000 in
set_option maxHeartbeats 2000000 in
theorem w_X7_lowestKind_2 {X : po_X} {G : po_G} {st : Nat → Nat} {K : po_K} {I : po_I} {R : po_R} {ρ : Int32} {r2 : Int32 → Int32 → Option (Int32)} (hF : po_F X G cX7_lowestKind RX7 2 st) (hL : po_L X (some .int) 0 0 0 "lowestKind") (HL : po_Lay K R st) (h2 : ∀ (l0 : Int32) (l1 : Int32), r2 l0 l1 = some ρ → po_V X G 2 (po_Q X G (.inl (some (.int ρ))) K R I none 0 0) 0 0 2 [(0, .int l0), (1, .int l1)] [] K R I none) (l0 : Int32) (l1 : Int32) (hm : m_X7_lowestKind_2 r2 l0 l1 = some ρ) : po_V X G 2 (po_Q X G (.inl (some (.int ρ))) K R I none 0 0) 0 0 2 [(0, .int l0), (1, .int l1)] [] K R I none := by
  unfold m_X7_lowestKind_2 at hm
  refine po_iload_n hF dX7_lowestKind_2 rfl rfl ?_
  refine po_bipush (v := 9) hF dX7_lowestKind_3 (by decide) ?_
  refine po_icmp_ge (tgt := 24) hF dX7_lowestKind_5 (by decide) hm (fun hm => ?_) (fun hm => ?_)
  · refine po_iconst (v := (-1)) hF dX7_lowestKind_24 (by decide) ?_
    cases hm
    exact po_iret hF hL dX7_lowestKind_25 (by decide) (by decide) rfl rfl rfl (Or.inl rfl)
  · refine po_iload_n hF dX7_lowestKind_8 rfl rfl ?_
    refine po_iconst (v := 1) hF dX7_lowestKind_9 (by decide) ?_
    refine po_iload_n hF dX7_lowestKind_10 rfl rfl ?_
    refine po_ishl hF dX7_lowestKind_11 ?_
    refine po_iand hF dX7_lowestKind_12 ?_
    refine po_if_eq (tgt := 18) hF dX7_lowestKind_13 (by decide) hm (fun hm => ?_) (fun hm => ?_)
    · refine po_iinc (v := l1 + 1) (L' := [(1, .int (l1 + 1)), (0, .int l0)]) hF dX7_lowestKind_18 rfl rfl (by decide) rfl ?_
      refine po_goto (tgt := 2) hF dX7_lowestKind_21 (by decide) ?_
      refine po_sub (L' := [(0, .int l0), (1, .int (l1 + 1))]) rfl ?_
      exact h2 l0 (l1 + 1) hm
    · refine po_iload_n hF dX7_lowestKind_16 rfl rfl ?_
      cases hm
      exact po_iret hF hL dX7_lowestKind_17 (by decide) (by decide) rfl rfl rfl (Or.inl rfl)
theorem w_X7_lowestKind_2L {X : po_X} {G : po_G} {st : Nat → Nat} {K : po_K} {I : po_I} {R : po_R} {ρ : Int32} (hF : po_F X G cX7_lowestKind RX7 2 st) (hL : po_L X (some .int) 0 0 0 "lowestKind") (HL : po_Lay K R st) : ∀ (n : Nat) (l0 : Int32) (l1 : Int32), m_X7_lowestKind_2L n l0 l1 = some ρ → po_V X G 2 (po_Q X G (.inl (some (.int ρ))) K R I none 0 0) 0 0 2 [(0, .int l0), (1, .int l1)] [] K R I none := by
  intro n
  induction n with
  | zero => intro l0 l1 hm; cases hm
  | succ n ih => intro l0 l1 hm; exact w_X7_lowestKind_2 hF hL HL (ih) l0 l1 hm
set_option maxRecDepth 20000 in
set_option maxHeartbeats 2000000 in
theorem w_X7_lowestKind_e {X : po_X} {G : po_G} {st : Nat → Nat} {K : po_K} {I : po_I} {R : po_R} {ρ : Int32} (hF : po_F X G cX7_lowestKind RX7 2 st) (hL : po_L X (some .int) 0 0 0 "lowestKind") (HL : po_Lay K R st) (l0 : Int32) (hm : m_X7_lowestKind_e l0 = some ρ) : po_V X G 2 (po_Q X G (.inl (some (.int ρ))) K R I none 0 0) 0 0 0 [(0, .int l0)] [] K R I none := by
  unfold m_X7_lowestKind_e at hm
  refine po_iconst (v := 0) hF dX7_lowestKind_0 (by decide) ?_
  refine po_istore_n (L' := [(1, .int 0), (0, .int l0)]) hF dX7_lowestKind_1 rfl (by decide) rfl ?_
  refine po_sub (L' := [(0, .int l0), (1, .int 0)]) rfl ?_
  exact w_X7_lowestKind_2L hF hL HL 5000 l0 0 hm
theorem c_X7_lowestKind {K : po_K} {R : po_R} {I : po_I} {st : Nat → Nat} {ρ : Int32} (HL : po_Lay K R st) {l0 : Int32} (hm : m_X7_lowestKind l0 = some ρ) : po_C st yX7_lowestKind cX7_lowestKind 2 (some .int) 0 0 0 [.int l0] K R I none (.inl (some (.int ρ))) K R I none := by
  refine po_ofC (by decide +kernel) (Nat.le_of_ble_eq_true rfl) (fun X G hF hL => ?_)
  exact w_X7_lowestKind_e hF hL HL l0 hm
set_option maxRecDepth 20000 in
set_option maxHeartbeats 2000000 in
theorem w_X2_becomeRefused_e {X : po_X} {G : po_G} {st : Nat → Nat} {K : po_K} {R : po_R} {ρ : po_I} (hF : po_F X G cX2_becomeRefused RX2 2 st) (hL : po_L X none 2 0 0 "becomeRefused") (HL : po_Lay K R st) (I : po_I) (l0 : Nat) (l1 : Int32) (kl0 : K l0 = (13, 19)) (hm : m_X2_becomeRefused_e I l0 l1 = some ρ) : po_V X G 2 (po_Q X G (.inl (none)) K R (ρ) none 0 0) 0 0 0 [(0, .ref l0), (1, .int l1)] [] K R I none := by
  unfold m_X2_becomeRefused_e at hm
  refine po_aload_n hF dX2_becomeRefused_0 rfl rfl ?_
  refine po_iconst (v := 1) hF dX2_becomeRefused_1 (by decide) ?_
  refine po_puti hF dX2_becomeRefused_2 fl_X2_44 kl0 (by intro r h; cases h; rfl) rfl rfl (fun _ => rfl) rfl ?_
  refine po_hname hm (fun I1 hm => ?_)
  refine po_aload_n hF dX2_becomeRefused_5 rfl rfl ?_
  refine po_iload_n hF dX2_becomeRefused_6 rfl rfl ?_
  refine po_puti hF dX2_becomeRefused_7 fl_X2_47 kl0 (by intro r h; cases h; rfl) rfl rfl (fun _ => rfl) rfl ?_
  refine po_hname hm (fun I2 hm => ?_)
  refine po_aload_n hF dX2_becomeRefused_10 rfl rfl ?_
  refine po_dup hF dX2_becomeRefused_11 rfl ?_
  refine po_getf (v := .int (I2 l0 14)) hF dX2_becomeRefused_12 fl_X2_69 kl0 rfl ?_
  refine po_aload_n hF dX2_becomeRefused_15 rfl rfl ?_
  obtain ⟨x3, hx3, hm⟩ := po_bind hm
  refine po_callV (As := []) hF dX2_becomeRefused_16 wq_1005 mv_X2_applyFee ws_X2_applyFee (show po_cl[2]? = some _ from rfl) rfl kl0 (c_X2_applyFee HL kl0 hx3) rfl (po_rtL hL rfl) (Nat.le_of_ble_eq_true rfl) rfl ?_
  refine po_iconst (v := 2) hF dX2_becomeRefused_19 (by decide) ?_
  refine po_idivK hF dX2_becomeRefused_20 (by decide) ?_
  refine po_iadd hF dX2_becomeRefused_21 ?_
  refine po_puti hF dX2_becomeRefused_22 fl_X2_69 kl0 (by intro r h; cases h; rfl) rfl rfl (fun _ => rfl) rfl ?_
  refine po_hname hm (fun I4 hm => ?_)
  cases hm
  exact po_vret hF hL dX2_becomeRefused_25 (by decide) (by decide) rfl rfl rfl (Or.inl rfl)
theorem c_X2_becomeRefused {K : po_K} {R : po_R} {I : po_I} {st : Nat → Nat} {ρ : po_I} (HL : po_Lay K R st) {l0 : Nat} {l1 : Int32} (kl0 : K l0 = (13, 19)) (hm : m_X2_becomeRefused I l0 l1 = some ρ) : po_C st yX2_becomeRefused cX2_becomeRefused 2 none 2 0 0 [.ref l0, .int l1] K R I none (.inl (none)) K R (ρ) none := by
  refine po_ofC (by decide +kernel) (Nat.le_of_ble_eq_true rfl) (fun X G hF hL => ?_)
  exact w_X2_becomeRefused_e hF hL HL I l0 l1 kl0 hm
set_option maxRecDepth 20000 in
set_option maxHeartbeats 2000000 in
theorem w_X7_decide_78 {X : po_X} {G : po_G} {st : Nat → Nat} {K : po_K} {ρ : (Int32 ⊕ String) × po_I × po_R} (hF : po_F X G cX7_decide RX7 4 st) (hL : po_L X (some .int) 7 2 12 "decide") (I : po_I) (R : po_R) (l2 : Nat) (HL : po_Lay K R st) (kl2 : K l2 = (13, 19)) (hm : m_X7_decide_78 I R l2 = some ρ) : po_V X G 4 (po_Q X G (po_oi (ρ.1)) K (ρ.2.2) (ρ.2.1) none 2 12) 1 6 78 [(2, .ref l2)] [] K R I none := by
  unfold m_X7_decide_78 at hm
  refine po_aload_n hF dX7_decide_78 rfl rfl ?_
  refine po_getf (v := .int (I l2 6)) hF dX7_decide_79 fl_X7_150 kl2 rfl ?_
  cases hm
  exact po_iret hF hL dX7_decide_82 (by decide) (by decide) rfl rfl rfl (Or.inl rfl)
set_option maxRecDepth 20000 in
set_option maxHeartbeats 2000000 in
theorem w_X7_decide_e {X : po_X} {G : po_G} {st : Nat → Nat} {K : po_K} {ρ : (Int32 ⊕ String) × po_I × po_R} (hF : po_F X G cX7_decide RX7 4 st) (hL : po_L X (some .int) 7 2 12 "decide") (I : po_I) (R : po_R) (l0 : Nat) (l1 : Int32) (HL : po_Lay K R st) (kl0 : K l0 = (18, 8)) (hm : m_X7_decide_e I R l0 l1 = some ρ) : po_V X G 4 (po_Q X G (po_oi (ρ.1)) K (ρ.2.2) (ρ.2.1) none 2 12) 0 0 0 [(0, .ref l0), (1, .int l1)] [] K R I none := by
  unfold m_X7_decide_e at hm
  refine po_aload_n hF dX7_decide_0 rfl rfl ?_
  refine po_iload_n hF dX7_decide_1 rfl rfl ?_
  obtain ⟨x1, hx1, hm⟩ := po_bind hm
  cases x1 with
  | inr y2 =>
    cases hm
    exact po_callVx (As := [.int l1]) hF hL dX7_decide_2 wq_859 mv_X7_permitOrThrow ws_X7_permitOrThrow (show po_cl[7]? = some _ from rfl) rfl kl0 (c_X7_permitOrThrow HL kl0 hx1) rfl (po_rtL hL rfl) (Nat.le_of_ble_eq_true rfl) rfl
  | inl y2 =>
    dsimp only [Sum.elim_inl] at hm
    refine po_callV (As := [.int l1]) hF dX7_decide_2 wq_859 mv_X7_permitOrThrow ws_X7_permitOrThrow (show po_cl[7]? = some _ from rfl) rfl kl0 (c_X7_permitOrThrow HL kl0 hx1) rfl (po_rtL hL rfl) (Nat.le_of_ble_eq_true rfl) rfl ?_
    refine po_astore_n (L' := [(2, .ref y2), (0, .ref l0), (1, .int l1)]) hF dX7_decide_5 rfl (by decide) rfl ?_
    refine po_aload_n hF dX7_decide_6 rfl rfl ?_
    refine po_getf (v := .int (I y2 6)) hF dX7_decide_7 fl_X7_150 (kr_X7_permitOrThrow HL kl0 hx1) rfl ?_
    refine po_if_eq (tgt := 23) hF dX7_decide_10 (by decide) hm (fun hm => ?_) (fun hm => ?_)
    · refine po_aload_n hF dX7_decide_23 rfl rfl ?_
      obtain ⟨x3, hx3, hm⟩ := po_bind hm
      refine po_callV (As := []) hF dX7_decide_24 wq_665 mv_X7_remember ws_X7_remember (show po_cl[7]? = some _ from rfl) rfl kl0 (c_X7_remember HL kl0 hx3) rfl (po_rtL hL rfl) (Nat.le_of_ble_eq_true rfl) rfl ?_
      refine po_aload_n hF dX7_decide_27 rfl rfl ?_
      refine po_getf (v := .ref (l0 + 3)) hF dX7_decide_28 fl_X7_19 kl0 (ly_7_1 (lr_X7_remember HL kl0 hx3) kl0).1 ?_
      refine po_aload_n hF dX7_decide_31 rfl rfl ?_
      refine po_getf (v := .ref (l0 + 8)) hF dX7_decide_32 fl_X7_26 kl0 (ly_7_2 (lr_X7_remember HL kl0 hx3) kl0).1 ?_
      refine po_aload_n hF dX7_decide_35 rfl rfl ?_
      obtain ⟨x4, hx4, hm⟩ := po_bind hm
      refine po_callV (As := [.ref (l0 + 8), .ref y2]) hF dX7_decide_36 wq_960 mv_X4_unrelievedSet ws_X4_unrelievedSet (show po_cl[4]? = some _ from rfl) rfl ((ly_7_1 (lr_X7_remember HL kl0 hx3) kl0).2) (c_X4_unrelievedSet (lr_X7_remember HL kl0 hx3) ((ly_7_1 (lr_X7_remember HL kl0 hx3) kl0).2) ((ly_7_2 (lr_X7_remember HL kl0 hx3) kl0).2) (kr_X7_permitOrThrow HL kl0 hx1) hx4) rfl (po_rtL hL rfl) (Nat.le_of_ble_eq_true rfl) rfl ?_
      refine po_top hm (fun v5 hm => ?_)
      refine po_istore_n (L' := [(3, .int v5), (2, .ref y2), (0, .ref l0), (1, .int l1)]) hF dX7_decide_39 rfl (by decide) rfl ?_
      refine po_iload_n hF dX7_decide_40 rfl rfl ?_
      refine po_if_ne (tgt := 70) hF dX7_decide_41 (by decide) hm (fun hm => ?_) (fun hm => ?_)
      · refine po_aload_n hF dX7_decide_70 rfl rfl ?_
        refine po_iload_n hF dX7_decide_71 rfl rfl ?_
        obtain ⟨x6, hx6, hm⟩ := po_bind hm
        refine po_callS (As := [.int v5]) hF dX7_decide_72 wq_998 mv_X7_lowestKind (c_X7_lowestKind (lr_X7_remember HL kl0 hx3) hx6) rfl (po_rtL hL rfl) (Nat.le_of_ble_eq_true rfl) rfl ?_
        obtain ⟨x7, hx7, hm⟩ := po_bind hm
        refine po_callV (As := [.int x6]) hF dX7_decide_75 wq_1001 mv_X2_becomeRefused ws_X2_becomeRefused (show po_cl[2]? = some _ from rfl) rfl (kr_X7_permitOrThrow HL kl0 hx1) (c_X2_becomeRefused (lr_X7_remember HL kl0 hx3) (kr_X7_permitOrThrow HL kl0 hx1) hx7) rfl (po_rtL hL rfl) (Nat.le_of_ble_eq_true rfl) rfl ?_
        refine po_sub (L' := [(2, .ref y2)]) rfl ?_
        exact w_X7_decide_78 hF hL x7 (x3.2) y2 (lr_X7_remember HL kl0 hx3) (kr_X7_permitOrThrow HL kl0 hx1) hm
      · refine po_aload_n hF dX7_decide_44 rfl rfl ?_
        refine po_aload_n hF dX7_decide_45 rfl rfl ?_
        refine po_getf (v := .ref (l0 + 8)) hF dX7_decide_46 fl_X7_26 kl0 (ly_7_2 (lr_X7_remember HL kl0 hx3) kl0).1 ?_
        refine po_getf (v := .int ((x4.2) (l0 + 8) 0)) hF dX7_decide_49 fl_X7_239 ((ly_7_2 (lr_X7_remember HL kl0 hx3) kl0).2) rfl ?_
        refine po_aload_n hF dX7_decide_52 rfl rfl ?_
        refine po_getf (v := .ref (l0 + 3)) hF dX7_decide_53 fl_X7_19 kl0 (ly_7_1 (lr_X7_remember HL kl0 hx3) kl0).1 ?_
        refine po_aload_n hF dX7_decide_56 rfl rfl ?_
        refine po_getf (v := .ref (l0 + 8)) hF dX7_decide_57 fl_X7_26 kl0 (ly_7_2 (lr_X7_remember HL kl0 hx3) kl0).1 ?_
        refine po_aload_n hF dX7_decide_60 rfl rfl ?_
        obtain ⟨x8, hx8, hm⟩ := po_bind hm
        refine po_callV (As := [.ref (l0 + 8), .ref y2]) hF dX7_decide_61 wq_990 mv_X4_usedVariances ws_X4_usedVariances (show po_cl[4]? = some _ from rfl) rfl ((ly_7_1 (lr_X7_remember HL kl0 hx3) kl0).2) (c_X4_usedVariances (lr_X7_remember HL kl0 hx3) ((ly_7_1 (lr_X7_remember HL kl0 hx3) kl0).2) ((ly_7_2 (lr_X7_remember HL kl0 hx3) kl0).2) (kr_X7_permitOrThrow HL kl0 hx1) hx8) rfl (po_rtL hL rfl) (Nat.le_of_ble_eq_true rfl) rfl ?_
        obtain ⟨x9, hx9, hm⟩ := po_bind hm
        refine po_callV (As := [.int ((x4.2) (l0 + 8) 0), .int (x8.1)]) hF dX7_decide_64 wq_994 mv_X2_becomeIssued ws_X2_becomeIssued (show po_cl[2]? = some _ from rfl) rfl (kr_X7_permitOrThrow HL kl0 hx1) (c_X2_becomeIssued (lr_X7_remember HL kl0 hx3) (kr_X7_permitOrThrow HL kl0 hx1) hx9) rfl (po_rtL hL rfl) (Nat.le_of_ble_eq_true rfl) rfl ?_
        refine po_goto (tgt := 78) hF dX7_decide_67 (by decide) ?_
        refine po_sub (L' := [(2, .ref y2)]) rfl ?_
        exact w_X7_decide_78 hF hL x9 (x3.2) y2 (lr_X7_remember HL kl0 hx3) (kr_X7_permitOrThrow HL kl0 hx1) hm
    · cases hm
      exact po_throw hF hL tw_X7_237_62 dX7_decide_13 dX7_decide_16 dX7_decide_17 dX7_decide_19 dX7_decide_22 (by decide) (Nat.le_of_ble_eq_true rfl) (by decide) (by decide) rfl rfl rfl
theorem c_X7_decide {K : po_K} {R : po_R} {I : po_I} {st : Nat → Nat} {ρ : (Int32 ⊕ String) × po_I × po_R} (HL : po_Lay K R st) {l0 : Nat} {l1 : Int32} (kl0 : K l0 = (18, 8)) (hm : m_X7_decide I R l0 l1 = some ρ) : po_C st yX7_decide cX7_decide 4 (some .int) 7 2 12 [.ref l0, .int l1] K R I none (po_oi (ρ.1)) K (ρ.2.2) (ρ.2.1) none := by
  refine po_ofC (by decide +kernel) (Nat.le_of_ble_eq_true rfl) (fun X G hF hL => ?_)
  exact w_X7_decide_e hF hL I R l0 l1 HL kl0 hm
set_option maxRecDepth 20000 in
set_option maxHeartbeats 2000000 in
theorem w_X7_reason_e {X : po_X} {G : po_G} {st : Nat → Nat} {K : po_K} {I : po_I} {R : po_R} {ρ : (Int32 ⊕ String)} (hF : po_F X G cX7_reason RX7 3 st) (hL : po_L X (some .int) 7 2 12 "reason") (HL : po_Lay K R st) (l0 : Nat) (l1 : Int32) (kl0 : K l0 = (18, 8)) (hm : m_X7_reason_e I l0 l1 = some ρ) : po_V X G 3 (po_Q X G (po_oi (ρ)) K R I none 2 12) 0 0 0 [(0, .ref l0), (1, .int l1)] [] K R I none := by
  unfold m_X7_reason_e at hm
  refine po_aload_n hF dX7_reason_0 rfl rfl ?_
  refine po_iload_n hF dX7_reason_1 rfl rfl ?_
  obtain ⟨x1, hx1, hm⟩ := po_bind hm
  cases x1 with
  | inr y2 =>
    cases hm
    exact po_callVx (As := [.int l1]) hF hL dX7_reason_2 wq_859 mv_X7_permitOrThrow ws_X7_permitOrThrow (show po_cl[7]? = some _ from rfl) rfl kl0 (c_X7_permitOrThrow HL kl0 hx1) rfl (po_rtL hL rfl) (Nat.le_of_ble_eq_true rfl) rfl
  | inl y2 =>
    dsimp only [Sum.elim_inl] at hm
    refine po_callV (As := [.int l1]) hF dX7_reason_2 wq_859 mv_X7_permitOrThrow ws_X7_permitOrThrow (show po_cl[7]? = some _ from rfl) rfl kl0 (c_X7_permitOrThrow HL kl0 hx1) rfl (po_rtL hL rfl) (Nat.le_of_ble_eq_true rfl) rfl ?_
    refine po_astore_n (L' := [(2, .ref y2), (0, .ref l0), (1, .int l1)]) hF dX7_reason_5 rfl (by decide) rfl ?_
    refine po_aload_n hF dX7_reason_6 rfl rfl ?_
    refine po_getf (v := .int (I y2 6)) hF dX7_reason_7 fl_X7_150 (kr_X7_permitOrThrow HL kl0 hx1) rfl ?_
    refine po_iconst (v := 1) hF dX7_reason_10 (by decide) ?_
    refine po_icmp_eq (tgt := 25) hF dX7_reason_11 (by decide) hm (fun hm => ?_) (fun hm => ?_)
    · refine po_aload_n hF dX7_reason_25 rfl rfl ?_
      refine po_getf (v := .int (I y2 7)) hF dX7_reason_26 fl_X7_258 (kr_X7_permitOrThrow HL kl0 hx1) rfl ?_
      cases hm
      exact po_iret hF hL dX7_reason_29 (by decide) (by decide) rfl rfl rfl (Or.inl rfl)
    · cases hm
      exact po_throwXW hF hL tw_X7_256_236 dX7_reason_14 dX7_reason_17 dX7_reason_18 dX7_reason_21 dX7_reason_24 (by decide) (Nat.le_of_ble_eq_true rfl) (by decide) (by decide) rfl rfl rfl
theorem c_X7_reason {K : po_K} {R : po_R} {I : po_I} {st : Nat → Nat} {ρ : (Int32 ⊕ String)} (HL : po_Lay K R st) {l0 : Nat} {l1 : Int32} (kl0 : K l0 = (18, 8)) (hm : m_X7_reason I l0 l1 = some ρ) : po_C st yX7_reason cX7_reason 3 (some .int) 7 2 12 [.ref l0, .int l1] K R I none (po_oi (ρ)) K R I none := by
  refine po_ofC (by decide +kernel) (Nat.le_of_ble_eq_true rfl) (fun X G hF hL => ?_)
  exact w_X7_reason_e hF hL HL l0 l1 kl0 hm
set_option maxRecDepth 20000 in
set_option maxHeartbeats 2000000 in
theorem w_X7_revoke_34 {X : po_X} {G : po_G} {st : Nat → Nat} {K : po_K} {ρ : (Int32 ⊕ String) × po_I × po_R} (hF : po_F X G cX7_revoke RX7 4 st) (hL : po_L X (some .int) 7 2 12 "revoke") (I : po_I) (R : po_R) (l0 : Nat) (l2 : Nat) (HL : po_Lay K R st) (kl0 : K l0 = (18, 8)) (kl2 : K l2 = (13, 19)) (hm : m_X7_revoke_34 I R l0 l2 = some ρ) : po_V X G 4 (po_Q X G (po_oi (ρ.1)) K (ρ.2.2) (ρ.2.1) none 2 12) 1 6 34 [(0, .ref l0), (2, .ref l2)] [] K R I none := by
  unfold m_X7_revoke_34 at hm
  refine po_aload_n hF dX7_revoke_34 rfl rfl ?_
  obtain ⟨x1, hx1, hm⟩ := po_bind hm
  refine po_callV (As := []) hF dX7_revoke_35 wq_665 mv_X7_remember ws_X7_remember (show po_cl[7]? = some _ from rfl) rfl kl0 (c_X7_remember HL kl0 hx1) rfl (po_rtL hL rfl) (Nat.le_of_ble_eq_true rfl) rfl ?_
  refine po_iconst (v := 2) hF dX7_revoke_38 (by decide) ?_
  refine po_iconst (v := 4) hF dX7_revoke_39 (by decide) ?_
  refine po_aload_n hF dX7_revoke_40 rfl rfl ?_
  refine po_getf (v := .int ((x1.1) l2 8)) hF dX7_revoke_41 fl_X7_171 kl2 rfl ?_
  refine po_isub hF dX7_revoke_44 ?_
  refine po_imul hF dX7_revoke_45 ?_
  refine po_top hm (fun v2 hm => ?_)
  refine po_istore_n (L' := [(3, .int v2), (0, .ref l0), (2, .ref l2)]) hF dX7_revoke_46 rfl (by decide) rfl ?_
  refine po_aload_n hF dX7_revoke_47 rfl rfl ?_
  refine po_iconst (v := 5) hF dX7_revoke_48 (by decide) ?_
  refine po_puti hF dX7_revoke_49 fl_X7_150 kl2 (by intro r h; cases h; rfl) rfl rfl (fun _ => rfl) rfl ?_
  refine po_hname hm (fun I3 hm => ?_)
  refine po_aload_n hF dX7_revoke_52 rfl rfl ?_
  refine po_dup hF dX7_revoke_53 rfl ?_
  refine po_getf (v := .int (I3 l2 14)) hF dX7_revoke_54 fl_X7_263 kl2 rfl ?_
  refine po_iload_n hF dX7_revoke_57 rfl rfl ?_
  refine po_iadd hF dX7_revoke_58 ?_
  refine po_puti hF dX7_revoke_59 fl_X7_263 kl2 (by intro r h; cases h; rfl) rfl rfl (fun _ => rfl) rfl ?_
  refine po_hname hm (fun I4 hm => ?_)
  refine po_iload_n hF dX7_revoke_62 rfl rfl ?_
  cases hm
  exact po_iret hF hL dX7_revoke_63 (by decide) (by decide) rfl rfl rfl (Or.inl rfl)
set_option maxRecDepth 20000 in
set_option maxHeartbeats 2000000 in
theorem w_X7_revoke_e {X : po_X} {G : po_G} {st : Nat → Nat} {K : po_K} {ρ : (Int32 ⊕ String) × po_I × po_R} (hF : po_F X G cX7_revoke RX7 4 st) (hL : po_L X (some .int) 7 2 12 "revoke") (I : po_I) (R : po_R) (l0 : Nat) (l1 : Int32) (HL : po_Lay K R st) (kl0 : K l0 = (18, 8)) (hm : m_X7_revoke_e I R l0 l1 = some ρ) : po_V X G 4 (po_Q X G (po_oi (ρ.1)) K (ρ.2.2) (ρ.2.1) none 2 12) 0 0 0 [(0, .ref l0), (1, .int l1)] [] K R I none := by
  unfold m_X7_revoke_e at hm
  refine po_aload_n hF dX7_revoke_0 rfl rfl ?_
  refine po_iload_n hF dX7_revoke_1 rfl rfl ?_
  obtain ⟨x5, hx5, hm⟩ := po_bind hm
  cases x5 with
  | inr y6 =>
    cases hm
    exact po_callVx (As := [.int l1]) hF hL dX7_revoke_2 wq_859 mv_X7_permitOrThrow ws_X7_permitOrThrow (show po_cl[7]? = some _ from rfl) rfl kl0 (c_X7_permitOrThrow HL kl0 hx5) rfl (po_rtL hL rfl) (Nat.le_of_ble_eq_true rfl) rfl
  | inl y6 =>
    dsimp only [Sum.elim_inl] at hm
    refine po_callV (As := [.int l1]) hF dX7_revoke_2 wq_859 mv_X7_permitOrThrow ws_X7_permitOrThrow (show po_cl[7]? = some _ from rfl) rfl kl0 (c_X7_permitOrThrow HL kl0 hx5) rfl (po_rtL hL rfl) (Nat.le_of_ble_eq_true rfl) rfl ?_
    refine po_astore_n (L' := [(2, .ref y6), (0, .ref l0), (1, .int l1)]) hF dX7_revoke_5 rfl (by decide) rfl ?_
    refine po_aload_n hF dX7_revoke_6 rfl rfl ?_
    refine po_getf (v := .int (I y6 6)) hF dX7_revoke_7 fl_X7_150 (kr_X7_permitOrThrow HL kl0 hx5) rfl ?_
    refine po_iconst (v := 2) hF dX7_revoke_10 (by decide) ?_
    refine po_icmp_eq (tgt := 34) hF dX7_revoke_11 (by decide) hm (fun hm => ?_) (fun hm => ?_)
    · refine po_sub (L' := [(0, .ref l0), (2, .ref y6)]) rfl ?_
      exact w_X7_revoke_34 hF hL I R l0 y6 HL kl0 (kr_X7_permitOrThrow HL kl0 hx5) hm
    · refine po_aload_n hF dX7_revoke_14 rfl rfl ?_
      refine po_getf (v := .int (I y6 6)) hF dX7_revoke_15 fl_X7_150 (kr_X7_permitOrThrow HL kl0 hx5) rfl ?_
      refine po_bipush (v := 6) hF dX7_revoke_18 (by decide) ?_
      refine po_icmp_eq (tgt := 34) hF dX7_revoke_20 (by decide) hm (fun hm => ?_) (fun hm => ?_)
      · refine po_sub (L' := [(0, .ref l0), (2, .ref y6)]) rfl ?_
        exact w_X7_revoke_34 hF hL I R l0 y6 HL kl0 (kr_X7_permitOrThrow HL kl0 hx5) hm
      · cases hm
        exact po_throwW hF hL tw_X7_261_62 dX7_revoke_23 dX7_revoke_26 dX7_revoke_27 dX7_revoke_30 dX7_revoke_33 (by decide) (Nat.le_of_ble_eq_true rfl) (by decide) (by decide) rfl rfl rfl
theorem c_X7_revoke {K : po_K} {R : po_R} {I : po_I} {st : Nat → Nat} {ρ : (Int32 ⊕ String) × po_I × po_R} (HL : po_Lay K R st) {l0 : Nat} {l1 : Int32} (kl0 : K l0 = (18, 8)) (hm : m_X7_revoke I R l0 l1 = some ρ) : po_C st yX7_revoke cX7_revoke 4 (some .int) 7 2 12 [.ref l0, .int l1] K R I none (po_oi (ρ.1)) K (ρ.2.2) (ρ.2.1) none := by
  refine po_ofC (by decide +kernel) (Nat.le_of_ble_eq_true rfl) (fun X G hF hL => ?_)
  exact w_X7_revoke_e hF hL I R l0 l1 HL kl0 hm
set_option maxRecDepth 20000 in
set_option maxHeartbeats 2000000 in
theorem w_X2_urgency_e {X : po_X} {G : po_G} {st : Nat → Nat} {K : po_K} {I : po_I} {R : po_R} {ρ : Int32} (hF : po_F X G cX2_urgency RX2 1 st) (hL : po_L X (some .int) 0 0 0 "urgency") (HL : po_Lay K R st) (l0 : Nat) (kl0 : K l0 = (13, 19)) (hm : m_X2_urgency_e I l0 = some ρ) : po_V X G 1 (po_Q X G (.inl (some (.int ρ))) K R I none 0 0) 0 0 0 [(0, .ref l0)] [] K R I none := by
  unfold m_X2_urgency_e at hm
  refine po_aload_n hF dX2_urgency_0 rfl rfl ?_
  refine po_getf (v := .int (I l0 6)) hF dX2_urgency_1 fl_X2_44 kl0 rfl ?_
  by_cases hs0 : (I l0 6) = 0
  · rw [if_pos hs0] at hm
    refine po_lsw (tgt := 48) (off := 44) hF dX2_urgency_4 (by decide) (by rw [hs0]; decide) (by decide) ?_
    refine po_ldc hF wq_1038 dX2_urgency_48 ?_
    cases hm
    exact po_iret hF hL dX2_urgency_50 (by decide) (by decide) rfl rfl rfl (Or.inl rfl)
  rw [if_neg hs0] at hm
  by_cases hs1 : (I l0 6) = 2
  · rw [if_pos hs1] at hm
    refine po_lsw (tgt := 40) (off := 36) hF dX2_urgency_4 (by decide) (by rw [hs1]; decide) (by decide) ?_
    refine po_aload_n hF dX2_urgency_40 rfl rfl ?_
    refine po_getf (v := .int (I l0 10)) hF dX2_urgency_41 fl_X2_56 kl0 rfl ?_
    cases hm
    exact po_iret hF hL dX2_urgency_44 (by decide) (by decide) rfl rfl rfl (Or.inl rfl)
  rw [if_neg hs1] at hm
  by_cases hs2 : (I l0 6) = 6
  · rw [if_pos hs2] at hm
    refine po_lsw (tgt := 45) (off := 41) hF dX2_urgency_4 (by decide) (by rw [hs2]; decide) (by decide) ?_
    refine po_ldc hF wq_1037 dX2_urgency_45 ?_
    cases hm
    exact po_iret hF hL dX2_urgency_47 (by decide) (by decide) rfl rfl rfl (Or.inl rfl)
  rw [if_neg hs2] at hm
  refine po_lsw (tgt := 51) (off := 47) hF dX2_urgency_4 (by decide) (by
    refine (lv_osw (k := 0) hs0 (by decide)).trans ?_
    refine (lv_osw (k := 2) hs1 (by decide)).trans ?_
    refine (lv_osw (k := 6) hs2 (by decide)).trans ?_
    rfl) (by decide) ?_
  refine po_ldc hF wq_1039 dX2_urgency_51 ?_
  cases hm
  exact po_iret hF hL dX2_urgency_53 (by decide) (by decide) rfl rfl rfl (Or.inl rfl)
theorem c_X2_urgency {K : po_K} {R : po_R} {I : po_I} {st : Nat → Nat} {ρ : Int32} (HL : po_Lay K R st) {l0 : Nat} (kl0 : K l0 = (13, 19)) (hm : m_X2_urgency I l0 = some ρ) : po_C st yX2_urgency cX2_urgency 1 (some .int) 0 0 0 [.ref l0] K R I none (.inl (some (.int ρ))) K R I none := by
  refine po_ofC (by decide +kernel) (Nat.le_of_ble_eq_true rfl) (fun X G hF hL => ?_)
  exact w_X2_urgency_e hF hL HL l0 kl0 hm
set_option maxRecDepth 20000 in
set_option maxHeartbeats 2000000 in
theorem w_X5_permitsBefore_72 {X : po_X} {G : po_G} {st : Nat → Nat} {K : po_K} {I : po_I} {R : po_R} {ρ : Int32} {r30 : Nat → Int32 → Int32 → Int32 → Int32 → Option (Int32)} (hF : po_F X G cX5_permitsBefore RX5 6 st) (hL : po_L X (some .int) 1 0 0 "permitsBefore") (HL : po_Lay K R st) (h30 : ∀ (l0 : Nat) (l1 : Int32) (l2 : Int32) (l3 : Int32) (l4 : Int32), r30 l0 l1 l2 l3 l4 = some ρ → K l0 = (16, 8) → po_V X G 6 (po_Q X G (.inl (some (.int ρ))) K R I none 0 0) 0 0 30 [(0, .ref l0), (1, .int l1), (2, .int l2), (3, .int l3), (4, .int l4)] [] K R I none) (l0 : Nat) (l1 : Int32) (l2 : Int32) (l3 : Int32) (l4 : Int32) (kl0 : K l0 = (16, 8)) (hm : m_X5_permitsBefore_72 I r30 l0 l1 l2 l3 l4 = some ρ) : po_V X G 6 (po_Q X G (.inl (some (.int ρ))) K R I none 0 0) 0 0 72 [(0, .ref l0), (1, .int l1), (2, .int l2), (3, .int l3), (4, .int l4)] [] K R I none := by
  unfold m_X5_permitsBefore_72 at hm
  refine po_iinc (v := l4 + 1) (L' := [(4, .int (l4 + 1)), (0, .ref l0), (1, .int l1), (2, .int l2), (3, .int l3)]) hF dX5_permitsBefore_72 rfl rfl (by decide) rfl ?_
  refine po_goto (tgt := 30) hF dX5_permitsBefore_75 (by decide) ?_
  refine po_sub (L' := [(0, .ref l0), (1, .int l1), (2, .int l2), (3, .int l3), (4, .int (l4 + 1))]) rfl ?_
  exact h30 l0 l1 l2 l3 (l4 + 1) hm kl0
set_option maxRecDepth 20000 in
set_option maxHeartbeats 2000000 in
theorem w_X5_permitsBefore_69 {X : po_X} {G : po_G} {st : Nat → Nat} {K : po_K} {I : po_I} {R : po_R} {ρ : Int32} {r30 : Nat → Int32 → Int32 → Int32 → Int32 → Option (Int32)} (hF : po_F X G cX5_permitsBefore RX5 6 st) (hL : po_L X (some .int) 1 0 0 "permitsBefore") (HL : po_Lay K R st) (h30 : ∀ (l0 : Nat) (l1 : Int32) (l2 : Int32) (l3 : Int32) (l4 : Int32), r30 l0 l1 l2 l3 l4 = some ρ → K l0 = (16, 8) → po_V X G 6 (po_Q X G (.inl (some (.int ρ))) K R I none 0 0) 0 0 30 [(0, .ref l0), (1, .int l1), (2, .int l2), (3, .int l3), (4, .int l4)] [] K R I none) (l0 : Nat) (l1 : Int32) (l2 : Int32) (l3 : Int32) (l4 : Int32) (kl0 : K l0 = (16, 8)) (hm : m_X5_permitsBefore_69 I r30 l0 l1 l2 l3 l4 = some ρ) : po_V X G 6 (po_Q X G (.inl (some (.int ρ))) K R I none 0 0) 0 0 69 [(0, .ref l0), (1, .int l1), (2, .int l2), (3, .int l3), (4, .int l4)] [] K R I none := by
  unfold m_X5_permitsBefore_69 at hm
  refine po_iinc (v := l3 + 1) (L' := [(3, .int (l3 + 1)), (0, .ref l0), (1, .int l1), (2, .int l2), (4, .int l4)]) hF dX5_permitsBefore_69 rfl rfl (by decide) rfl ?_
  refine po_sub (L' := [(0, .ref l0), (1, .int l1), (2, .int l2), (3, .int (l3 + 1)), (4, .int l4)]) rfl ?_
  exact w_X5_permitsBefore_72 hF hL HL h30 l0 l1 l2 (l3 + 1) l4 kl0 hm
set_option maxRecDepth 20000 in
set_option maxHeartbeats 2000000 in
theorem w_X5_permitsBefore_30 {X : po_X} {G : po_G} {st : Nat → Nat} {K : po_K} {I : po_I} {R : po_R} {ρ : Int32} {r30 : Nat → Int32 → Int32 → Int32 → Int32 → Option (Int32)} (hF : po_F X G cX5_permitsBefore RX5 6 st) (hL : po_L X (some .int) 1 0 0 "permitsBefore") (HL : po_Lay K R st) (h30 : ∀ (l0 : Nat) (l1 : Int32) (l2 : Int32) (l3 : Int32) (l4 : Int32), r30 l0 l1 l2 l3 l4 = some ρ → K l0 = (16, 8) → po_V X G 6 (po_Q X G (.inl (some (.int ρ))) K R I none 0 0) 0 0 30 [(0, .ref l0), (1, .int l1), (2, .int l2), (3, .int l3), (4, .int l4)] [] K R I none) (l0 : Nat) (l1 : Int32) (l2 : Int32) (l3 : Int32) (l4 : Int32) (kl0 : K l0 = (16, 8)) (hm : m_X5_permitsBefore_30 I r30 l0 l1 l2 l3 l4 = some ρ) : po_V X G 6 (po_Q X G (.inl (some (.int ρ))) K R I none 0 0) 0 0 30 [(0, .ref l0), (1, .int l1), (2, .int l2), (3, .int l3), (4, .int l4)] [] K R I none := by
  unfold m_X5_permitsBefore_30 at hm
  refine po_iload hF dX5_permitsBefore_30 rfl ?_
  refine po_aload_n hF dX5_permitsBefore_32 rfl rfl ?_
  refine po_getf (v := .int (I l0 5)) hF dX5_permitsBefore_33 fl_X5_34 kl0 rfl ?_
  refine po_icmp_ge (tgt := 78) hF dX5_permitsBefore_36 (by decide) hm (fun hm => ?_) (fun hm => ?_)
  · refine po_iload_n hF dX5_permitsBefore_78 rfl rfl ?_
    cases hm
    exact po_iret hF hL dX5_permitsBefore_79 (by decide) (by decide) rfl rfl rfl (Or.inl rfl)
  · refine po_aload_n hF dX5_permitsBefore_39 rfl rfl ?_
    refine po_getf (v := .ref (l0 + 3)) hF dX5_permitsBefore_40 fl_X5_30 kl0 (ly_5_4 HL kl0).1 ?_
    refine po_iload hF dX5_permitsBefore_43 rfl ?_
    refine po_aald hF dX5_permitsBefore_45 ((ly_5_4 HL kl0).2) (Or.inr (Or.inl rfl)) hm (fun hi1 => (le_5_4 HL kl0 (po_in_lt hi1)).1) (fun hi1 hm => ?_)
    obtain ⟨x2, hx2, hm⟩ := po_bind hm
    refine po_callV (As := []) hF dX5_permitsBefore_46 wq_1033 mv_X2_urgency ws_X2_urgency (show po_cl[2]? = some _ from rfl) rfl ((le_5_4 HL kl0 (po_in_lt hi1)).2) (c_X2_urgency HL ((le_5_4 HL kl0 (po_in_lt hi1)).2) hx2) rfl (po_rtL hL rfl) (Nat.le_of_ble_eq_true rfl) rfl ?_
    refine po_istore (L' := [(5, .int x2), (0, .ref l0), (1, .int l1), (2, .int l2), (3, .int l3), (4, .int l4)]) hF dX5_permitsBefore_49 (by decide) rfl ?_
    refine po_iload hF dX5_permitsBefore_51 rfl ?_
    refine po_iload_n hF dX5_permitsBefore_53 rfl rfl ?_
    refine po_icmp_lt (tgt := 69) hF dX5_permitsBefore_54 (by decide) hm (fun hm => ?_) (fun hm => ?_)
    · refine po_sub (L' := [(0, .ref l0), (1, .int l1), (2, .int l2), (3, .int l3), (4, .int l4)]) rfl ?_
      exact w_X5_permitsBefore_69 hF hL HL h30 l0 l1 l2 l3 l4 kl0 hm
    · refine po_iload hF dX5_permitsBefore_57 rfl ?_
      refine po_iload_n hF dX5_permitsBefore_59 rfl rfl ?_
      refine po_icmp_ne (tgt := 72) hF dX5_permitsBefore_60 (by decide) hm (fun hm => ?_) (fun hm => ?_)
      · refine po_sub (L' := [(0, .ref l0), (1, .int l1), (2, .int l2), (3, .int l3), (4, .int l4)]) rfl ?_
        exact w_X5_permitsBefore_72 hF hL HL h30 l0 l1 l2 l3 l4 kl0 hm
      · refine po_iload hF dX5_permitsBefore_63 rfl ?_
        refine po_iload_n hF dX5_permitsBefore_65 rfl rfl ?_
        refine po_icmp_ge (tgt := 72) hF dX5_permitsBefore_66 (by decide) hm (fun hm => ?_) (fun hm => ?_)
        · refine po_sub (L' := [(0, .ref l0), (1, .int l1), (2, .int l2), (3, .int l3), (4, .int l4)]) rfl ?_
          exact w_X5_permitsBefore_72 hF hL HL h30 l0 l1 l2 l3 l4 kl0 hm
        · refine po_sub (L' := [(0, .ref l0), (1, .int l1), (2, .int l2), (3, .int l3), (4, .int l4)]) rfl ?_
          exact w_X5_permitsBefore_69 hF hL HL h30 l0 l1 l2 l3 l4 kl0 hm
theorem w_X5_permitsBefore_30L {X : po_X} {G : po_G} {st : Nat → Nat} {K : po_K} {I : po_I} {R : po_R} {ρ : Int32} (hF : po_F X G cX5_permitsBefore RX5 6 st) (hL : po_L X (some .int) 1 0 0 "permitsBefore") (HL : po_Lay K R st) : ∀ (n : Nat) (l0 : Nat) (l1 : Int32) (l2 : Int32) (l3 : Int32) (l4 : Int32), m_X5_permitsBefore_30L I n l0 l1 l2 l3 l4 = some ρ → K l0 = (16, 8) → po_V X G 6 (po_Q X G (.inl (some (.int ρ))) K R I none 0 0) 0 0 30 [(0, .ref l0), (1, .int l1), (2, .int l2), (3, .int l3), (4, .int l4)] [] K R I none := by
  intro n
  induction n with
  | zero => intro l0 l1 l2 l3 l4 hm; cases hm
  | succ n ih => intro l0 l1 l2 l3 l4 hm kl0; exact w_X5_permitsBefore_30 hF hL HL (ih) l0 l1 l2 l3 l4 kl0 hm
set_option maxRecDepth 20000 in
set_option maxHeartbeats 2000000 in
theorem w_X5_permitsBefore_24 {X : po_X} {G : po_G} {st : Nat → Nat} {K : po_K} {I : po_I} {R : po_R} {ρ : Int32} (hF : po_F X G cX5_permitsBefore RX5 6 st) (hL : po_L X (some .int) 1 0 0 "permitsBefore") (HL : po_Lay K R st) (l0 : Nat) (l1 : Int32) (s0 : Int32) (kl0 : K l0 = (16, 8)) (hm : m_X5_permitsBefore_24 I l0 l1 s0 = some ρ) : po_V X G 6 (po_Q X G (.inl (some (.int ρ))) K R I none 0 0) 0 0 24 [(0, .ref l0), (1, .int l1)] [.int s0] K R I none := by
  unfold m_X5_permitsBefore_24 at hm
  refine po_istore_n (L' := [(2, .int s0), (0, .ref l0), (1, .int l1)]) hF dX5_permitsBefore_24 rfl (by decide) rfl ?_
  refine po_iconst (v := 0) hF dX5_permitsBefore_25 (by decide) ?_
  refine po_istore_n (L' := [(3, .int 0), (2, .int s0), (0, .ref l0), (1, .int l1)]) hF dX5_permitsBefore_26 rfl (by decide) rfl ?_
  refine po_iconst (v := 0) hF dX5_permitsBefore_27 (by decide) ?_
  refine po_istore (L' := [(4, .int 0), (3, .int 0), (2, .int s0), (0, .ref l0), (1, .int l1)]) hF dX5_permitsBefore_28 (by decide) rfl ?_
  refine po_sub (L' := [(0, .ref l0), (1, .int l1), (2, .int s0), (3, .int 0), (4, .int 0)]) rfl ?_
  exact w_X5_permitsBefore_30L hF hL HL 5000 l0 l1 s0 0 0 hm kl0
set_option maxRecDepth 20000 in
set_option maxHeartbeats 2000000 in
theorem w_X5_permitsBefore_22 {X : po_X} {G : po_G} {st : Nat → Nat} {K : po_K} {I : po_I} {R : po_R} {ρ : Int32} (hF : po_F X G cX5_permitsBefore RX5 6 st) (hL : po_L X (some .int) 1 0 0 "permitsBefore") (HL : po_Lay K R st) (l0 : Nat) (l1 : Int32) (kl0 : K l0 = (16, 8)) (hm : m_X5_permitsBefore_22 I l0 l1 = some ρ) : po_V X G 6 (po_Q X G (.inl (some (.int ρ))) K R I none 0 0) 0 0 22 [(0, .ref l0), (1, .int l1)] [] K R I none := by
  unfold m_X5_permitsBefore_22 at hm
  refine po_ldc hF wq_1040 dX5_permitsBefore_22 ?_
  exact w_X5_permitsBefore_24 hF hL HL l0 l1 3000000 kl0 hm
set_option maxRecDepth 20000 in
set_option maxHeartbeats 2000000 in
theorem w_X5_permitsBefore_e {X : po_X} {G : po_G} {st : Nat → Nat} {K : po_K} {I : po_I} {R : po_R} {ρ : Int32} (hF : po_F X G cX5_permitsBefore RX5 6 st) (hL : po_L X (some .int) 1 0 0 "permitsBefore") (HL : po_Lay K R st) (l0 : Nat) (l1 : Int32) (kl0 : K l0 = (16, 8)) (hm : m_X5_permitsBefore_e I l0 l1 = some ρ) : po_V X G 6 (po_Q X G (.inl (some (.int ρ))) K R I none 0 0) 0 0 0 [(0, .ref l0), (1, .int l1)] [] K R I none := by
  unfold m_X5_permitsBefore_e at hm
  refine po_iload_n hF dX5_permitsBefore_0 rfl rfl ?_
  refine po_if_lt (tgt := 22) hF dX5_permitsBefore_1 (by decide) hm (fun hm => ?_) (fun hm => ?_)
  · exact w_X5_permitsBefore_22 hF hL HL l0 l1 kl0 hm
  · refine po_iload_n hF dX5_permitsBefore_4 rfl rfl ?_
    refine po_bipush (v := 10) hF dX5_permitsBefore_5 (by decide) ?_
    refine po_icmp_ge (tgt := 22) hF dX5_permitsBefore_7 (by decide) hm (fun hm => ?_) (fun hm => ?_)
    · exact w_X5_permitsBefore_22 hF hL HL l0 l1 kl0 hm
    · refine po_aload_n hF dX5_permitsBefore_10 rfl rfl ?_
      refine po_getf (v := .ref (l0 + 3)) hF dX5_permitsBefore_11 fl_X5_30 kl0 (ly_5_4 HL kl0).1 ?_
      refine po_iload_n hF dX5_permitsBefore_14 rfl rfl ?_
      refine po_aald hF dX5_permitsBefore_15 ((ly_5_4 HL kl0).2) (Or.inr (Or.inl rfl)) hm (fun hi3 => (le_5_4 HL kl0 (po_in_lt hi3)).1) (fun hi3 hm => ?_)
      obtain ⟨x4, hx4, hm⟩ := po_bind hm
      refine po_callV (As := []) hF dX5_permitsBefore_16 wq_1033 mv_X2_urgency ws_X2_urgency (show po_cl[2]? = some _ from rfl) rfl ((le_5_4 HL kl0 (po_in_lt hi3)).2) (c_X2_urgency HL ((le_5_4 HL kl0 (po_in_lt hi3)).2) hx4) rfl (po_rtL hL rfl) (Nat.le_of_ble_eq_true rfl) rfl ?_
      refine po_goto (tgt := 24) hF dX5_permitsBefore_19 (by decide) ?_
      exact w_X5_permitsBefore_24 hF hL HL l0 l1 x4 kl0 hm
theorem c_X5_permitsBefore {K : po_K} {R : po_R} {I : po_I} {st : Nat → Nat} {ρ : Int32} (HL : po_Lay K R st) {l0 : Nat} {l1 : Int32} (kl0 : K l0 = (16, 8)) (hm : m_X5_permitsBefore I l0 l1 = some ρ) : po_C st yX5_permitsBefore cX5_permitsBefore 6 (some .int) 1 0 0 [.ref l0, .int l1] K R I none (.inl (some (.int ρ))) K R I none := by
  refine po_ofC (by decide +kernel) (Nat.le_of_ble_eq_true rfl) (fun X G hF hL => ?_)
  exact w_X5_permitsBefore_e hF hL HL l0 l1 kl0 hm
set_option maxRecDepth 20000 in
set_option maxHeartbeats 2000000 in
theorem w_X5_permitInUrgency_35 {X : po_X} {G : po_G} {st : Nat → Nat} {K : po_K} {I : po_I} {R : po_R} {ρ : Int32} {r2 : Nat → Int32 → Int32 → Option (Int32)} (hF : po_F X G cX5_permitInUrgency RX5 3 st) (hL : po_L X (some .int) 2 0 0 "permitInUrgency") (HL : po_Lay K R st) (h2 : ∀ (l0 : Nat) (l1 : Int32) (l2 : Int32), r2 l0 l1 l2 = some ρ → K l0 = (16, 8) → po_V X G 3 (po_Q X G (.inl (some (.int ρ))) K R I none 0 0) 0 0 2 [(0, .ref l0), (1, .int l1), (2, .int l2)] [] K R I none) (l0 : Nat) (l1 : Int32) (l2 : Int32) (kl0 : K l0 = (16, 8)) (hm : m_X5_permitInUrgency_35 I r2 l0 l1 l2 = some ρ) : po_V X G 3 (po_Q X G (.inl (some (.int ρ))) K R I none 0 0) 0 0 35 [(0, .ref l0), (1, .int l1), (2, .int l2)] [] K R I none := by
  unfold m_X5_permitInUrgency_35 at hm
  refine po_iinc (v := l2 + 1) (L' := [(2, .int (l2 + 1)), (0, .ref l0), (1, .int l1)]) hF dX5_permitInUrgency_35 rfl rfl (by decide) rfl ?_
  refine po_goto (tgt := 2) hF dX5_permitInUrgency_38 (by decide) ?_
  refine po_sub (L' := [(0, .ref l0), (1, .int l1), (2, .int (l2 + 1))]) rfl ?_
  exact h2 l0 l1 (l2 + 1) hm kl0
set_option maxRecDepth 20000 in
set_option maxHeartbeats 2000000 in
theorem w_X5_permitInUrgency_2 {X : po_X} {G : po_G} {st : Nat → Nat} {K : po_K} {I : po_I} {R : po_R} {ρ : Int32} {r2 : Nat → Int32 → Int32 → Option (Int32)} (hF : po_F X G cX5_permitInUrgency RX5 3 st) (hL : po_L X (some .int) 2 0 0 "permitInUrgency") (HL : po_Lay K R st) (h2 : ∀ (l0 : Nat) (l1 : Int32) (l2 : Int32), r2 l0 l1 l2 = some ρ → K l0 = (16, 8) → po_V X G 3 (po_Q X G (.inl (some (.int ρ))) K R I none 0 0) 0 0 2 [(0, .ref l0), (1, .int l1), (2, .int l2)] [] K R I none) (l0 : Nat) (l1 : Int32) (l2 : Int32) (kl0 : K l0 = (16, 8)) (hm : m_X5_permitInUrgency_2 I r2 l0 l1 l2 = some ρ) : po_V X G 3 (po_Q X G (.inl (some (.int ρ))) K R I none 0 0) 0 0 2 [(0, .ref l0), (1, .int l1), (2, .int l2)] [] K R I none := by
  unfold m_X5_permitInUrgency_2 at hm
  refine po_iload_n hF dX5_permitInUrgency_2 rfl rfl ?_
  refine po_aload_n hF dX5_permitInUrgency_3 rfl rfl ?_
  refine po_getf (v := .int (I l0 5)) hF dX5_permitInUrgency_4 fl_X5_34 kl0 rfl ?_
  refine po_icmp_ge (tgt := 41) hF dX5_permitInUrgency_7 (by decide) hm (fun hm => ?_) (fun hm => ?_)
  · refine po_iconst (v := (-1)) hF dX5_permitInUrgency_41 (by decide) ?_
    cases hm
    exact po_iret hF hL dX5_permitInUrgency_42 (by decide) (by decide) rfl rfl rfl (Or.inl rfl)
  · refine po_aload_n hF dX5_permitInUrgency_10 rfl rfl ?_
    refine po_getf (v := .ref (l0 + 3)) hF dX5_permitInUrgency_11 fl_X5_30 kl0 (ly_5_4 HL kl0).1 ?_
    refine po_iload_n hF dX5_permitInUrgency_14 rfl rfl ?_
    refine po_aald hF dX5_permitInUrgency_15 ((ly_5_4 HL kl0).2) (Or.inr (Or.inl rfl)) hm (fun hi1 => (le_5_4 HL kl0 (po_in_lt hi1)).1) (fun hi1 hm => ?_)
    obtain ⟨x2, hx2, hm⟩ := po_bind hm
    refine po_callV (As := []) hF dX5_permitInUrgency_16 wq_1033 mv_X2_urgency ws_X2_urgency (show po_cl[2]? = some _ from rfl) rfl ((le_5_4 HL kl0 (po_in_lt hi1)).2) (c_X2_urgency HL ((le_5_4 HL kl0 (po_in_lt hi1)).2) hx2) rfl (po_rtL hL rfl) (Nat.le_of_ble_eq_true rfl) rfl ?_
    refine po_ldc hF wq_1040 dX5_permitInUrgency_19 ?_
    refine po_icmp_eq (tgt := 35) hF dX5_permitInUrgency_21 (by decide) hm (fun hm => ?_) (fun hm => ?_)
    · exact w_X5_permitInUrgency_35 hF hL HL h2 l0 l1 l2 kl0 hm
    · refine po_aload_n hF dX5_permitInUrgency_24 rfl rfl ?_
      refine po_iload_n hF dX5_permitInUrgency_25 rfl rfl ?_
      obtain ⟨x3, hx3, hm⟩ := po_bind hm
      refine po_callV (As := [.int l2]) hF dX5_permitInUrgency_26 wq_1041 mv_X5_permitsBefore ws_X5_permitsBefore (show po_cl[5]? = some _ from rfl) rfl kl0 (c_X5_permitsBefore HL kl0 hx3) rfl (po_rtL hL rfl) (Nat.le_of_ble_eq_true rfl) rfl ?_
      refine po_iload_n hF dX5_permitInUrgency_29 rfl rfl ?_
      refine po_icmp_ne (tgt := 35) hF dX5_permitInUrgency_30 (by decide) hm (fun hm => ?_) (fun hm => ?_)
      · exact w_X5_permitInUrgency_35 hF hL HL h2 l0 l1 l2 kl0 hm
      · refine po_iload_n hF dX5_permitInUrgency_33 rfl rfl ?_
        cases hm
        exact po_iret hF hL dX5_permitInUrgency_34 (by decide) (by decide) rfl rfl rfl (Or.inl rfl)
theorem w_X5_permitInUrgency_2L {X : po_X} {G : po_G} {st : Nat → Nat} {K : po_K} {I : po_I} {R : po_R} {ρ : Int32} (hF : po_F X G cX5_permitInUrgency RX5 3 st) (hL : po_L X (some .int) 2 0 0 "permitInUrgency") (HL : po_Lay K R st) : ∀ (n : Nat) (l0 : Nat) (l1 : Int32) (l2 : Int32), m_X5_permitInUrgency_2L I n l0 l1 l2 = some ρ → K l0 = (16, 8) → po_V X G 3 (po_Q X G (.inl (some (.int ρ))) K R I none 0 0) 0 0 2 [(0, .ref l0), (1, .int l1), (2, .int l2)] [] K R I none := by
  intro n
  induction n with
  | zero => intro l0 l1 l2 hm; cases hm
  | succ n ih => intro l0 l1 l2 hm kl0; exact w_X5_permitInUrgency_2 hF hL HL (ih) l0 l1 l2 kl0 hm
set_option maxRecDepth 20000 in
set_option maxHeartbeats 2000000 in
theorem w_X5_permitInUrgency_e {X : po_X} {G : po_G} {st : Nat → Nat} {K : po_K} {I : po_I} {R : po_R} {ρ : Int32} (hF : po_F X G cX5_permitInUrgency RX5 3 st) (hL : po_L X (some .int) 2 0 0 "permitInUrgency") (HL : po_Lay K R st) (l0 : Nat) (l1 : Int32) (kl0 : K l0 = (16, 8)) (hm : m_X5_permitInUrgency_e I l0 l1 = some ρ) : po_V X G 3 (po_Q X G (.inl (some (.int ρ))) K R I none 0 0) 0 0 0 [(0, .ref l0), (1, .int l1)] [] K R I none := by
  unfold m_X5_permitInUrgency_e at hm
  refine po_iconst (v := 0) hF dX5_permitInUrgency_0 (by decide) ?_
  refine po_istore_n (L' := [(2, .int 0), (0, .ref l0), (1, .int l1)]) hF dX5_permitInUrgency_1 rfl (by decide) rfl ?_
  refine po_sub (L' := [(0, .ref l0), (1, .int l1), (2, .int 0)]) rfl ?_
  exact w_X5_permitInUrgency_2L hF hL HL 5000 l0 l1 0 hm kl0
theorem c_X5_permitInUrgency {K : po_K} {R : po_R} {I : po_I} {st : Nat → Nat} {ρ : Int32} (HL : po_Lay K R st) {l0 : Nat} {l1 : Int32} (kl0 : K l0 = (16, 8)) (hm : m_X5_permitInUrgency I l0 l1 = some ρ) : po_C st yX5_permitInUrgency cX5_permitInUrgency 3 (some .int) 2 0 0 [.ref l0, .int l1] K R I none (.inl (some (.int ρ))) K R I none := by
  refine po_ofC (by decide +kernel) (Nat.le_of_ble_eq_true rfl) (fun X G hF hL => ?_)
  exact w_X5_permitInUrgency_e hF hL HL l0 l1 kl0 hm
set_option maxRecDepth 20000 in
set_option maxHeartbeats 2000000 in
theorem w_X7_urgent_e {X : po_X} {G : po_G} {st : Nat → Nat} {K : po_K} {I : po_I} {R : po_R} {ρ : (Int32 ⊕ String)} (hF : po_F X G cX7_urgent RX7 3 st) (hL : po_L X (some .int) 6 1 6 "urgent") (HL : po_Lay K R st) (l0 : Nat) (l1 : Int32) (kl0 : K l0 = (18, 8)) (hm : m_X7_urgent_e I l0 l1 = some ρ) : po_V X G 3 (po_Q X G (po_oi (ρ)) K R I none 1 6) 0 0 0 [(0, .ref l0), (1, .int l1)] [] K R I none := by
  unfold m_X7_urgent_e at hm
  refine po_aload_n hF dX7_urgent_0 rfl rfl ?_
  refine po_getf (v := .ref (l0 + 8)) hF dX7_urgent_1 fl_X7_26 kl0 (ly_7_2 HL kl0).1 ?_
  refine po_iload_n hF dX7_urgent_4 rfl rfl ?_
  obtain ⟨x1, hx1, hm⟩ := po_bind hm
  refine po_callV (As := [.int l1]) hF dX7_urgent_5 wq_1029 mv_X5_permitInUrgency ws_X5_permitInUrgency (show po_cl[5]? = some _ from rfl) rfl ((ly_7_2 HL kl0).2) (c_X5_permitInUrgency HL ((ly_7_2 HL kl0).2) hx1) rfl (po_rtL hL rfl) (Nat.le_of_ble_eq_true rfl) rfl ?_
  refine po_istore_n (L' := [(2, .int x1), (0, .ref l0), (1, .int l1)]) hF dX7_urgent_8 rfl (by decide) rfl ?_
  refine po_iload_n hF dX7_urgent_9 rfl rfl ?_
  refine po_iconst (v := (-1)) hF dX7_urgent_10 (by decide) ?_
  refine po_icmp_ne (tgt := 25) hF dX7_urgent_11 (by decide) hm (fun hm => ?_) (fun hm => ?_)
  · refine po_iload_n hF dX7_urgent_25 rfl rfl ?_
    cases hm
    exact po_iret hF hL dX7_urgent_26 (by decide) (by decide) rfl rfl rfl (Or.inl rfl)
  · cases hm
    exact po_throwXW hF hL tw_X7_269_236 dX7_urgent_14 dX7_urgent_17 dX7_urgent_18 dX7_urgent_21 dX7_urgent_24 (by decide) (Nat.le_of_ble_eq_true rfl) (by decide) (by decide) rfl rfl rfl
theorem c_X7_urgent {K : po_K} {R : po_R} {I : po_I} {st : Nat → Nat} {ρ : (Int32 ⊕ String)} (HL : po_Lay K R st) {l0 : Nat} {l1 : Int32} (kl0 : K l0 = (18, 8)) (hm : m_X7_urgent I l0 l1 = some ρ) : po_C st yX7_urgent cX7_urgent 3 (some .int) 6 1 6 [.ref l0, .int l1] K R I none (po_oi (ρ)) K R I none := by
  refine po_ofC (by decide +kernel) (Nat.le_of_ble_eq_true rfl) (fun X G hF hL => ?_)
  exact w_X7_urgent_e hF hL HL l0 l1 kl0 hm
set_option maxRecDepth 20000 in
set_option maxHeartbeats 2000000 in
theorem w_X5_permitsNaming_31 {X : po_X} {G : po_G} {st : Nat → Nat} {K : po_K} {I : po_I} {R : po_R} {ρ : Int32} {r4 : Nat → Int32 → Int32 → Int32 → Option (Int32)} (hF : po_F X G cX5_permitsNaming RX5 4 st) (hL : po_L X (some .int) 0 0 0 "permitsNaming") (HL : po_Lay K R st) (h4 : ∀ (l0 : Nat) (l1 : Int32) (l2 : Int32) (l3 : Int32), r4 l0 l1 l2 l3 = some ρ → K l0 = (16, 8) → po_V X G 4 (po_Q X G (.inl (some (.int ρ))) K R I none 0 0) 0 0 4 [(0, .ref l0), (1, .int l1), (2, .int l2), (3, .int l3)] [] K R I none) (l0 : Nat) (l1 : Int32) (l2 : Int32) (l3 : Int32) (kl0 : K l0 = (16, 8)) (hm : m_X5_permitsNaming_31 I r4 l0 l1 l2 l3 = some ρ) : po_V X G 4 (po_Q X G (.inl (some (.int ρ))) K R I none 0 0) 0 0 31 [(0, .ref l0), (1, .int l1), (2, .int l2), (3, .int l3)] [] K R I none := by
  unfold m_X5_permitsNaming_31 at hm
  refine po_iinc (v := l3 + 1) (L' := [(3, .int (l3 + 1)), (0, .ref l0), (1, .int l1), (2, .int l2)]) hF dX5_permitsNaming_31 rfl rfl (by decide) rfl ?_
  refine po_goto (tgt := 4) hF dX5_permitsNaming_34 (by decide) ?_
  refine po_sub (L' := [(0, .ref l0), (1, .int l1), (2, .int l2), (3, .int (l3 + 1))]) rfl ?_
  exact h4 l0 l1 l2 (l3 + 1) hm kl0
set_option maxRecDepth 20000 in
set_option maxHeartbeats 2000000 in
theorem w_X5_permitsNaming_4 {X : po_X} {G : po_G} {st : Nat → Nat} {K : po_K} {I : po_I} {R : po_R} {ρ : Int32} {r4 : Nat → Int32 → Int32 → Int32 → Option (Int32)} (hF : po_F X G cX5_permitsNaming RX5 4 st) (hL : po_L X (some .int) 0 0 0 "permitsNaming") (HL : po_Lay K R st) (h4 : ∀ (l0 : Nat) (l1 : Int32) (l2 : Int32) (l3 : Int32), r4 l0 l1 l2 l3 = some ρ → K l0 = (16, 8) → po_V X G 4 (po_Q X G (.inl (some (.int ρ))) K R I none 0 0) 0 0 4 [(0, .ref l0), (1, .int l1), (2, .int l2), (3, .int l3)] [] K R I none) (l0 : Nat) (l1 : Int32) (l2 : Int32) (l3 : Int32) (kl0 : K l0 = (16, 8)) (hm : m_X5_permitsNaming_4 I r4 l0 l1 l2 l3 = some ρ) : po_V X G 4 (po_Q X G (.inl (some (.int ρ))) K R I none 0 0) 0 0 4 [(0, .ref l0), (1, .int l1), (2, .int l2), (3, .int l3)] [] K R I none := by
  unfold m_X5_permitsNaming_4 at hm
  refine po_iload_n hF dX5_permitsNaming_4 rfl rfl ?_
  refine po_aload_n hF dX5_permitsNaming_5 rfl rfl ?_
  refine po_getf (v := .int (I l0 5)) hF dX5_permitsNaming_6 fl_X5_34 kl0 rfl ?_
  refine po_icmp_ge (tgt := 37) hF dX5_permitsNaming_9 (by decide) hm (fun hm => ?_) (fun hm => ?_)
  · refine po_iload_n hF dX5_permitsNaming_37 rfl rfl ?_
    cases hm
    exact po_iret hF hL dX5_permitsNaming_38 (by decide) (by decide) rfl rfl rfl (Or.inl rfl)
  · refine po_aload_n hF dX5_permitsNaming_12 rfl rfl ?_
    refine po_getf (v := .ref (l0 + 3)) hF dX5_permitsNaming_13 fl_X5_30 kl0 (ly_5_4 HL kl0).1 ?_
    refine po_iload_n hF dX5_permitsNaming_16 rfl rfl ?_
    refine po_aald hF dX5_permitsNaming_17 ((ly_5_4 HL kl0).2) (Or.inr (Or.inl rfl)) hm (fun hi1 => (le_5_4 HL kl0 (po_in_lt hi1)).1) (fun hi1 hm => ?_)
    refine po_getf (v := .int (I (l0 + (29 + 5 * (Int32.toNatClampNeg l3))) 12)) hF dX5_permitsNaming_18 fl_X5_124 ((le_5_4 HL kl0 (po_in_lt hi1)).2) rfl ?_
    refine po_iconst (v := 1) hF dX5_permitsNaming_21 (by decide) ?_
    refine po_iload_n hF dX5_permitsNaming_22 rfl rfl ?_
    refine po_ishl hF dX5_permitsNaming_23 ?_
    refine po_iand hF dX5_permitsNaming_24 ?_
    refine po_if_eq (tgt := 31) hF dX5_permitsNaming_25 (by decide) hm (fun hm => ?_) (fun hm => ?_)
    · exact w_X5_permitsNaming_31 hF hL HL h4 l0 l1 l2 l3 kl0 hm
    · refine po_iinc (v := l2 + 1) (L' := [(2, .int (l2 + 1)), (0, .ref l0), (1, .int l1), (3, .int l3)]) hF dX5_permitsNaming_28 rfl rfl (by decide) rfl ?_
      refine po_sub (L' := [(0, .ref l0), (1, .int l1), (2, .int (l2 + 1)), (3, .int l3)]) rfl ?_
      exact w_X5_permitsNaming_31 hF hL HL h4 l0 l1 (l2 + 1) l3 kl0 hm
theorem w_X5_permitsNaming_4L {X : po_X} {G : po_G} {st : Nat → Nat} {K : po_K} {I : po_I} {R : po_R} {ρ : Int32} (hF : po_F X G cX5_permitsNaming RX5 4 st) (hL : po_L X (some .int) 0 0 0 "permitsNaming") (HL : po_Lay K R st) : ∀ (n : Nat) (l0 : Nat) (l1 : Int32) (l2 : Int32) (l3 : Int32), m_X5_permitsNaming_4L I n l0 l1 l2 l3 = some ρ → K l0 = (16, 8) → po_V X G 4 (po_Q X G (.inl (some (.int ρ))) K R I none 0 0) 0 0 4 [(0, .ref l0), (1, .int l1), (2, .int l2), (3, .int l3)] [] K R I none := by
  intro n
  induction n with
  | zero => intro l0 l1 l2 l3 hm; cases hm
  | succ n ih => intro l0 l1 l2 l3 hm kl0; exact w_X5_permitsNaming_4 hF hL HL (ih) l0 l1 l2 l3 kl0 hm
set_option maxRecDepth 20000 in
set_option maxHeartbeats 2000000 in
theorem w_X5_permitsNaming_e {X : po_X} {G : po_G} {st : Nat → Nat} {K : po_K} {I : po_I} {R : po_R} {ρ : Int32} (hF : po_F X G cX5_permitsNaming RX5 4 st) (hL : po_L X (some .int) 0 0 0 "permitsNaming") (HL : po_Lay K R st) (l0 : Nat) (l1 : Int32) (kl0 : K l0 = (16, 8)) (hm : m_X5_permitsNaming_e I l0 l1 = some ρ) : po_V X G 4 (po_Q X G (.inl (some (.int ρ))) K R I none 0 0) 0 0 0 [(0, .ref l0), (1, .int l1)] [] K R I none := by
  unfold m_X5_permitsNaming_e at hm
  refine po_iconst (v := 0) hF dX5_permitsNaming_0 (by decide) ?_
  refine po_istore_n (L' := [(2, .int 0), (0, .ref l0), (1, .int l1)]) hF dX5_permitsNaming_1 rfl (by decide) rfl ?_
  refine po_iconst (v := 0) hF dX5_permitsNaming_2 (by decide) ?_
  refine po_istore_n (L' := [(3, .int 0), (2, .int 0), (0, .ref l0), (1, .int l1)]) hF dX5_permitsNaming_3 rfl (by decide) rfl ?_
  refine po_sub (L' := [(0, .ref l0), (1, .int l1), (2, .int 0), (3, .int 0)]) rfl ?_
  exact w_X5_permitsNaming_4L hF hL HL 5000 l0 l1 0 0 hm kl0
theorem c_X5_permitsNaming {K : po_K} {R : po_R} {I : po_I} {st : Nat → Nat} {ρ : Int32} (HL : po_Lay K R st) {l0 : Nat} {l1 : Int32} (kl0 : K l0 = (16, 8)) (hm : m_X5_permitsNaming I l0 l1 = some ρ) : po_C st yX5_permitsNaming cX5_permitsNaming 4 (some .int) 0 0 0 [.ref l0, .int l1] K R I none (.inl (some (.int ρ))) K R I none := by
  refine po_ofC (by decide +kernel) (Nat.le_of_ble_eq_true rfl) (fun X G hF hL => ?_)
  exact w_X5_permitsNaming_e hF hL HL l0 l1 kl0 hm
set_option maxRecDepth 20000 in
set_option maxHeartbeats 2000000 in
theorem w_X7_variance_15 {X : po_X} {G : po_G} {st : Nat → Nat} {K : po_K} {I : po_I} {R : po_R} {ρ : (Int32 ⊕ String)} (hF : po_F X G cX7_variance RX7 4 st) (hL : po_L X (some .int) 6 1 6 "variance") (HL : po_Lay K R st) (hm : m_X7_variance_15 I = some ρ) : po_V X G 4 (po_Q X G (po_oi (ρ)) K R I none 1 6) 0 0 15 [] [] K R I none := by
  unfold m_X7_variance_15 at hm
  cases hm
  exact po_throwW hF hL tw_X7_274_87 dX7_variance_15 dX7_variance_18 dX7_variance_19 dX7_variance_22 dX7_variance_25 (by decide) (Nat.le_of_ble_eq_true rfl) (by decide) (by decide) rfl rfl rfl
set_option maxRecDepth 20000 in
set_option maxHeartbeats 2000000 in
theorem w_X7_variance_124 {X : po_X} {G : po_G} {st : Nat → Nat} {K : po_K} {I : po_I} {R : po_R} {ρ : (Int32 ⊕ String)} (hF : po_F X G cX7_variance RX7 4 st) (hL : po_L X (some .int) 6 1 6 "variance") (HL : po_Lay K R st) (s0 : Int32) (hm : m_X7_variance_124 I s0 = some ρ) : po_V X G 4 (po_Q X G (po_oi (ρ)) K R I none 1 6) 0 0 124 [] [.int s0] K R I none := by
  unfold m_X7_variance_124 at hm
  cases hm
  exact po_iret hF hL dX7_variance_124 (by decide) (by decide) rfl rfl rfl (Or.inl rfl)
set_option maxRecDepth 20000 in
set_option maxHeartbeats 2000000 in
theorem w_X7_variance_e {X : po_X} {G : po_G} {st : Nat → Nat} {K : po_K} {I : po_I} {R : po_R} {ρ : (Int32 ⊕ String)} (hF : po_F X G cX7_variance RX7 4 st) (hL : po_L X (some .int) 6 1 6 "variance") (HL : po_Lay K R st) (l0 : Nat) (l1 : Int32) (l2 : Int32) (kl0 : K l0 = (18, 8)) (hm : m_X7_variance_e I l0 l1 l2 = some ρ) : po_V X G 4 (po_Q X G (po_oi (ρ)) K R I none 1 6) 0 0 0 [(0, .ref l0), (1, .int l1), (2, .int l2)] [] K R I none := by
  unfold m_X7_variance_e at hm
  refine po_iload_n hF dX7_variance_0 rfl rfl ?_
  refine po_if_lt (tgt := 15) hF dX7_variance_1 (by decide) hm (fun hm => ?_) (fun hm => ?_)
  · refine po_sub (L' := []) rfl ?_
    exact w_X7_variance_15 hF hL HL hm
  · refine po_iload_n hF dX7_variance_4 rfl rfl ?_
    refine po_aload_n hF dX7_variance_5 rfl rfl ?_
    refine po_getf (v := .ref (l0 + 8)) hF dX7_variance_6 fl_X7_26 kl0 (ly_7_2 HL kl0).1 ?_
    refine po_getf (v := .int (I (l0 + 8) 7)) hF dX7_variance_9 fl_X7_271 ((ly_7_2 HL kl0).2) rfl ?_
    refine po_icmp_lt (tgt := 26) hF dX7_variance_12 (by decide) hm (fun hm => ?_) (fun hm => ?_)
    · refine po_aload_n hF dX7_variance_26 rfl rfl ?_
      refine po_getf (v := .ref (l0 + 8)) hF dX7_variance_27 fl_X7_26 kl0 (ly_7_2 HL kl0).1 ?_
      refine po_getf (v := .ref ((l0 + 8) + 4)) hF dX7_variance_30 fl_X7_276 ((ly_7_2 HL kl0).2) (ly_5_6 HL ((ly_7_2 HL kl0).2)).1 ?_
      refine po_iload_n hF dX7_variance_33 rfl rfl ?_
      refine po_aald hF dX7_variance_34 ((ly_5_6 HL ((ly_7_2 HL kl0).2)).2) (Or.inr (Or.inr (Or.inl rfl))) hm (fun hi1 => (le_5_6 HL ((ly_7_2 HL kl0).2) (po_in_lt hi1)).1) (fun hi1 hm => ?_)
      refine po_astore_n (L' := [(3, .ref ((l0 + 8) + (79 + (Int32.toNatClampNeg l1)))), (0, .ref l0), (1, .int l1), (2, .int l2)]) hF dX7_variance_35 rfl (by decide) rfl ?_
      refine po_iload_n hF dX7_variance_36 rfl rfl ?_
      by_cases hs0 : l2 = 0
      · rw [if_pos hs0] at hm
        refine po_tin (c := 0) (tgt := 76) (off := 39) hF dX7_variance_37 hs0 (by decide) (by decide) (by decide) (by decide) ?_
        refine po_aload_n hF dX7_variance_76 rfl rfl ?_
        refine po_getf (v := .int (I ((l0 + 8) + (79 + (Int32.toNatClampNeg l1))) 0)) hF dX7_variance_77 fl_X7_280 ((le_5_6 HL ((ly_7_2 HL kl0).2) (po_in_lt hi1)).2) rfl ?_
        cases hm
        exact po_iret hF hL dX7_variance_80 (by decide) (by decide) rfl rfl rfl (Or.inl rfl)
      rw [if_neg hs0] at hm
      by_cases hs1 : l2 = 1
      · rw [if_pos hs1] at hm
        refine po_tin (c := 1) (tgt := 81) (off := 44) hF dX7_variance_37 hs1 (by decide) (by decide) (by decide) (by decide) ?_
        refine po_aload_n hF dX7_variance_81 rfl rfl ?_
        refine po_getf (v := .int (I ((l0 + 8) + (79 + (Int32.toNatClampNeg l1))) 1)) hF dX7_variance_82 fl_X7_283 ((le_5_6 HL ((ly_7_2 HL kl0).2) (po_in_lt hi1)).2) rfl ?_
        cases hm
        exact po_iret hF hL dX7_variance_85 (by decide) (by decide) rfl rfl rfl (Or.inl rfl)
      rw [if_neg hs1] at hm
      by_cases hs2 : l2 = 2
      · rw [if_pos hs2] at hm
        refine po_tin (c := 2) (tgt := 86) (off := 49) hF dX7_variance_37 hs2 (by decide) (by decide) (by decide) (by decide) ?_
        refine po_aload_n hF dX7_variance_86 rfl rfl ?_
        refine po_getf (v := .int (I ((l0 + 8) + (79 + (Int32.toNatClampNeg l1))) 2)) hF dX7_variance_87 fl_X7_286 ((le_5_6 HL ((ly_7_2 HL kl0).2) (po_in_lt hi1)).2) rfl ?_
        cases hm
        exact po_iret hF hL dX7_variance_90 (by decide) (by decide) rfl rfl rfl (Or.inl rfl)
      rw [if_neg hs2] at hm
      by_cases hs3 : l2 = 3
      · rw [if_pos hs3] at hm
        refine po_tin (c := 3) (tgt := 91) (off := 54) hF dX7_variance_37 hs3 (by decide) (by decide) (by decide) (by decide) ?_
        refine po_aload_n hF dX7_variance_91 rfl rfl ?_
        refine po_getf (v := .int (I ((l0 + 8) + (79 + (Int32.toNatClampNeg l1))) 3)) hF dX7_variance_92 fl_X7_289 ((le_5_6 HL ((ly_7_2 HL kl0).2) (po_in_lt hi1)).2) rfl ?_
        cases hm
        exact po_iret hF hL dX7_variance_95 (by decide) (by decide) rfl rfl rfl (Or.inl rfl)
      rw [if_neg hs3] at hm
      by_cases hs4 : l2 = 4
      · rw [if_pos hs4] at hm
        refine po_tin (c := 4) (tgt := 96) (off := 59) hF dX7_variance_37 hs4 (by decide) (by decide) (by decide) (by decide) ?_
        refine po_aload_n hF dX7_variance_96 rfl rfl ?_
        refine po_getf (v := .ref (l0 + 8)) hF dX7_variance_97 fl_X7_26 kl0 (ly_7_2 HL kl0).1 ?_
        refine po_iload_n hF dX7_variance_100 rfl rfl ?_
        obtain ⟨x2, hx2, hm⟩ := po_bind hm
        refine po_callV (As := [.int l1]) hF dX7_variance_101 wq_1054 mv_X5_permitsNaming ws_X5_permitsNaming (show po_cl[5]? = some _ from rfl) rfl ((ly_7_2 HL kl0).2) (c_X5_permitsNaming HL ((ly_7_2 HL kl0).2) hx2) rfl (po_rtL hL rfl) (Nat.le_of_ble_eq_true rfl) rfl ?_
        cases hm
        exact po_iret hF hL dX7_variance_104 (by decide) (by decide) rfl rfl rfl (Or.inl rfl)
      rw [if_neg hs4] at hm
      by_cases hs5 : l2 = 5
      · rw [if_pos hs5] at hm
        refine po_tin (c := 5) (tgt := 105) (off := 68) hF dX7_variance_37 hs5 (by decide) (by decide) (by decide) (by decide) ?_
        refine po_aload_n hF dX7_variance_105 rfl rfl ?_
        refine po_aload_n hF dX7_variance_106 rfl rfl ?_
        refine po_getf (v := .ref (l0 + 8)) hF dX7_variance_107 fl_X7_26 kl0 (ly_7_2 HL kl0).1 ?_
        refine po_getf (v := .int (I (l0 + 8) 0)) hF dX7_variance_110 fl_X7_239 ((ly_7_2 HL kl0).2) rfl ?_
        obtain ⟨x3, hx3, hm⟩ := po_bind hm
        refine po_callV (As := [.int (I (l0 + 8) 0)]) hF dX7_variance_113 wq_1058 mv_X6_isInForce ws_X6_isInForce (show po_cl[6]? = some _ from rfl) rfl ((le_5_6 HL ((ly_7_2 HL kl0).2) (po_in_lt hi1)).2) (c_X6_isInForce HL ((le_5_6 HL ((ly_7_2 HL kl0).2) (po_in_lt hi1)).2) hx3) rfl (po_rtL hL rfl) (Nat.le_of_ble_eq_true rfl) rfl ?_
        refine po_if_eq (tgt := 123) hF dX7_variance_116 (by decide) hm (fun hm => ?_) (fun hm => ?_)
        · refine po_iconst (v := 0) hF dX7_variance_123 (by decide) ?_
          refine po_sub (L' := []) rfl ?_
          exact w_X7_variance_124 hF hL HL 0 hm
        · refine po_iconst (v := 1) hF dX7_variance_119 (by decide) ?_
          refine po_goto (tgt := 124) hF dX7_variance_120 (by decide) ?_
          refine po_sub (L' := []) rfl ?_
          exact w_X7_variance_124 hF hL HL 1 hm
      rw [if_neg hs5] at hm
      refine po_tout (tgt := 125) hF dX7_variance_37 (po_tdef (lo := 0) (m := 6) (fun j hj => by
        rcases (show j = 0 ∨ j = 1 ∨ j = 2 ∨ j = 3 ∨ j = 4 ∨ j = 5 by omega) with rfl | rfl | rfl | rfl | rfl | rfl
        · exact po_neI (c := 0) hs0 (by decide)
        · exact po_neI (c := 1) hs1 (by decide)
        · exact po_neI (c := 2) hs2 (by decide)
        · exact po_neI (c := 3) hs3 (by decide)
        · exact po_neI (c := 4) hs4 (by decide)
        · exact po_neI (c := 5) hs5 (by decide)
        )) (by decide) ?_
      cases hm
      exact po_throwW hF hL tw_X7_299_52 dX7_variance_125 dX7_variance_128 dX7_variance_129 dX7_variance_132 dX7_variance_135 (by decide) (Nat.le_of_ble_eq_true rfl) (by decide) (by decide) rfl rfl rfl
    · refine po_sub (L' := []) rfl ?_
      exact w_X7_variance_15 hF hL HL hm
theorem c_X7_variance {K : po_K} {R : po_R} {I : po_I} {st : Nat → Nat} {ρ : (Int32 ⊕ String)} (HL : po_Lay K R st) {l0 : Nat} {l1 : Int32} {l2 : Int32} (kl0 : K l0 = (18, 8)) (hm : m_X7_variance I l0 l1 l2 = some ρ) : po_C st yX7_variance cX7_variance 4 (some .int) 6 1 6 [.ref l0, .int l1, .int l2] K R I none (po_oi (ρ)) K R I none := by
  refine po_ofC (by decide +kernel) (Nat.le_of_ble_eq_true rfl) (fun X G hF hL => ?_)
  exact w_X7_variance_e hF hL HL l0 l1 l2 kl0 hm
set_option maxRecDepth 20000 in
set_option maxHeartbeats 2000000 in
theorem w_X4_neededAmount_64 {X : po_X} {G : po_G} {st : Nat → Nat} {K : po_K} {R : po_R} {ρ : Int32 × po_I} (hF : po_F X G cX4_neededAmount RX4 7 st) (hL : po_L X (some .int) 5 0 0 "neededAmount") (HL : po_Lay K R st) (I : po_I) (s0 : Int32) (hm : m_X4_neededAmount_64 I s0 = some ρ) : po_V X G 7 (po_Q X G (.inl (some (.int ρ.1))) K R (ρ.2) none 0 0) 0 0 64 [] [.int s0] K R I none := by
  unfold m_X4_neededAmount_64 at hm
  cases hm
  exact po_iret hF hL dX4_neededAmount_64 (by decide) (by decide) rfl rfl rfl (Or.inl rfl)
set_option maxRecDepth 20000 in
set_option maxHeartbeats 2000000 in
theorem w_X4_neededAmount_49 {X : po_X} {G : po_G} {st : Nat → Nat} {K : po_K} {R : po_R} {ρ : Int32 × po_I} (hF : po_F X G cX4_neededAmount RX4 7 st) (hL : po_L X (some .int) 5 0 0 "neededAmount") (HL : po_Lay K R st) (I : po_I) (s0 : Int32) (hm : m_X4_neededAmount_49 I s0 = some ρ) : po_V X G 7 (po_Q X G (.inl (some (.int ρ.1))) K R (ρ.2) none 0 0) 0 0 49 [] [.int s0] K R I none := by
  unfold m_X4_neededAmount_49 at hm
  refine po_istore (L' := [(6, .int s0)]) hF dX4_neededAmount_49 (by decide) rfl ?_
  refine po_iload hF dX4_neededAmount_51 rfl ?_
  refine po_bipush (v := 99) hF dX4_neededAmount_53 (by decide) ?_
  refine po_icmp_gt (tgt := 63) hF dX4_neededAmount_55 (by decide) hm (fun hm => ?_) (fun hm => ?_)
  · refine po_iconst (v := (-1)) hF dX4_neededAmount_63 (by decide) ?_
    refine po_sub (L' := []) rfl ?_
    exact w_X4_neededAmount_64 hF hL HL I (-1) hm
  · refine po_iload hF dX4_neededAmount_58 rfl ?_
    refine po_goto (tgt := 64) hF dX4_neededAmount_60 (by decide) ?_
    refine po_sub (L' := []) rfl ?_
    exact w_X4_neededAmount_64 hF hL HL I s0 hm
set_option maxRecDepth 20000 in
set_option maxHeartbeats 2000000 in
theorem w_X4_neededAmount_e {X : po_X} {G : po_G} {st : Nat → Nat} {K : po_K} {R : po_R} {ρ : Int32 × po_I} (hF : po_F X G cX4_neededAmount RX4 7 st) (hL : po_L X (some .int) 5 0 0 "neededAmount") (HL : po_Lay K R st) (I : po_I) (l0 : Nat) (l1 : Nat) (l2 : Nat) (l3 : Int32) (kl0 : K l0 = (15, 2)) (kl1 : K l1 = (16, 8)) (kl2 : K l2 = (13, 19)) (hm : m_X4_neededAmount_e I l0 l1 l2 l3 = some ρ) : po_V X G 7 (po_Q X G (.inl (some (.int ρ.1))) K R (ρ.2) none 0 0) 0 0 0 [(0, .ref l0), (1, .ref l1), (2, .ref l2), (3, .int l3)] [] K R I none := by
  unfold m_X4_neededAmount_e at hm
  refine po_aload_n hF dX4_neededAmount_0 rfl rfl ?_
  refine po_aload_n hF dX4_neededAmount_1 rfl rfl ?_
  refine po_aload_n hF dX4_neededAmount_2 rfl rfl ?_
  refine po_iload_n hF dX4_neededAmount_3 rfl rfl ?_
  obtain ⟨x1, hx1, hm⟩ := po_bind hm
  refine po_callV (As := [.ref l1, .ref l2, .int l3]) hF dX4_neededAmount_4 wq_886 mv_X4_measureOf ws_X4_measureOf (show po_cl[4]? = some _ from rfl) rfl kl0 (c_X4_measureOf HL kl0 kl1 kl2 hx1) rfl (po_rtL hL rfl) (Nat.le_of_ble_eq_true rfl) rfl ?_
  refine po_top hm (fun v2 hm => ?_)
  refine po_istore (L' := [(4, .int v2), (0, .ref l0), (1, .ref l1), (2, .ref l2), (3, .int l3)]) hF dX4_neededAmount_7 (by decide) rfl ?_
  refine po_aload_n hF dX4_neededAmount_9 rfl rfl ?_
  refine po_aload_n hF dX4_neededAmount_10 rfl rfl ?_
  refine po_aload_n hF dX4_neededAmount_11 rfl rfl ?_
  refine po_iload_n hF dX4_neededAmount_12 rfl rfl ?_
  obtain ⟨x3, hx3, hm⟩ := po_bind hm
  refine po_callV (As := [.ref l1, .ref l2, .int l3]) hF dX4_neededAmount_13 wq_920 mv_X4_limitOf ws_X4_limitOf (show po_cl[4]? = some _ from rfl) rfl kl0 (c_X4_limitOf HL kl0 kl1 kl2 hx3) rfl (po_rtL hL rfl) (Nat.le_of_ble_eq_true rfl) rfl ?_
  refine po_istore (L' := [(5, .int x3), (4, .int v2), (0, .ref l0), (1, .ref l1), (2, .ref l2), (3, .int l3)]) hF dX4_neededAmount_16 (by decide) rfl ?_
  refine po_iload_n hF dX4_neededAmount_18 rfl rfl ?_
  refine po_iload hF dX4_neededAmount_19 rfl ?_
  refine po_iload hF dX4_neededAmount_21 rfl ?_
  obtain ⟨x4, hx4, hm⟩ := po_bind hm
  refine po_callS (As := [.int l3, .int v2, .int x3]) hF dX4_neededAmount_23 wq_924 mv_X4_isFinding (c_X4_isFinding HL hx4) rfl (po_rtL hL rfl) (Nat.le_of_ble_eq_true rfl) rfl ?_
  refine po_if_ne (tgt := 31) hF dX4_neededAmount_26 (by decide) hm (fun hm => ?_) (fun hm => ?_)
  · refine po_iload_n hF dX4_neededAmount_31 rfl rfl ?_
    refine po_bipush (v := 7) hF dX4_neededAmount_32 (by decide) ?_
    refine po_icmp_ne (tgt := 41) hF dX4_neededAmount_34 (by decide) hm (fun hm => ?_) (fun hm => ?_)
    · refine po_iload hF dX4_neededAmount_41 rfl ?_
      refine po_iload hF dX4_neededAmount_43 rfl ?_
      refine po_isub hF dX4_neededAmount_45 ?_
      refine po_abs hF hL dX4_neededAmount_46 wq_1072 ⟨wq_1073, wq_106, wq_1074⟩ (Nat.le_of_ble_eq_true rfl) (by decide) (by decide) (by decide) ?_
      refine po_sub (L' := []) rfl ?_
      exact w_X4_neededAmount_49 hF hL HL (x1.2) (if (0 : Int32) ≤ (v2 - x3) then (v2 - x3) else 0 - (v2 - x3)) hm
    · refine po_iconst (v := 1) hF dX4_neededAmount_37 (by decide) ?_
      refine po_goto (tgt := 49) hF dX4_neededAmount_38 (by decide) ?_
      refine po_sub (L' := []) rfl ?_
      exact w_X4_neededAmount_49 hF hL HL (x1.2) 1 hm
  · refine po_iconst (v := 0) hF dX4_neededAmount_29 (by decide) ?_
    cases hm
    exact po_iret hF hL dX4_neededAmount_30 (by decide) (by decide) rfl rfl rfl (Or.inl rfl)
theorem c_X4_neededAmount {K : po_K} {R : po_R} {I : po_I} {st : Nat → Nat} {ρ : Int32 × po_I} (HL : po_Lay K R st) {l0 : Nat} {l1 : Nat} {l2 : Nat} {l3 : Int32} (kl0 : K l0 = (15, 2)) (kl1 : K l1 = (16, 8)) (kl2 : K l2 = (13, 19)) (hm : m_X4_neededAmount I l0 l1 l2 l3 = some ρ) : po_C st yX4_neededAmount cX4_neededAmount 7 (some .int) 5 0 0 [.ref l0, .ref l1, .ref l2, .int l3] K R I none (.inl (some (.int ρ.1))) K R (ρ.2) none := by
  refine po_ofC (by decide +kernel) (Nat.le_of_ble_eq_true rfl) (fun X G hF hL => ?_)
  exact w_X4_neededAmount_e hF hL HL I l0 l1 l2 l3 kl0 kl1 kl2 hm
set_option maxRecDepth 20000 in
set_option maxHeartbeats 2000000 in
theorem w_X7_needed_17 {X : po_X} {G : po_G} {st : Nat → Nat} {K : po_K} {R : po_R} {ρ : (Int32 ⊕ String) × po_I} (hF : po_F X G cX7_needed RX7 4 st) (hL : po_L X (some .int) 7 2 12 "needed") (HL : po_Lay K R st) (I : po_I) (hm : m_X7_needed_17 I = some ρ) : po_V X G 4 (po_Q X G (po_oi (ρ.1)) K R (ρ.2) none 2 12) 1 6 17 [] [] K R I none := by
  unfold m_X7_needed_17 at hm
  cases hm
  exact po_throwW hF hL tw_X7_301_52 dX7_needed_17 dX7_needed_20 dX7_needed_21 dX7_needed_24 dX7_needed_27 (by decide) (Nat.le_of_ble_eq_true rfl) (by decide) (by decide) rfl rfl rfl
set_option maxRecDepth 20000 in
set_option maxHeartbeats 2000000 in
theorem w_X7_needed_e {X : po_X} {G : po_G} {st : Nat → Nat} {K : po_K} {R : po_R} {ρ : (Int32 ⊕ String) × po_I} (hF : po_F X G cX7_needed RX7 4 st) (hL : po_L X (some .int) 7 2 12 "needed") (HL : po_Lay K R st) (I : po_I) (l0 : Nat) (l1 : Int32) (l2 : Int32) (kl0 : K l0 = (18, 8)) (hm : m_X7_needed_e I l0 l1 l2 = some ρ) : po_V X G 4 (po_Q X G (po_oi (ρ.1)) K R (ρ.2) none 2 12) 0 0 0 [(0, .ref l0), (1, .int l1), (2, .int l2)] [] K R I none := by
  unfold m_X7_needed_e at hm
  refine po_aload_n hF dX7_needed_0 rfl rfl ?_
  refine po_iload_n hF dX7_needed_1 rfl rfl ?_
  obtain ⟨x1, hx1, hm⟩ := po_bind hm
  cases x1 with
  | inr y2 =>
    cases hm
    exact po_callVx (As := [.int l1]) hF hL dX7_needed_2 wq_859 mv_X7_permitOrThrow ws_X7_permitOrThrow (show po_cl[7]? = some _ from rfl) rfl kl0 (c_X7_permitOrThrow HL kl0 hx1) rfl (po_rtL hL rfl) (Nat.le_of_ble_eq_true rfl) rfl
  | inl y2 =>
    dsimp only [Sum.elim_inl] at hm
    refine po_callV (As := [.int l1]) hF dX7_needed_2 wq_859 mv_X7_permitOrThrow ws_X7_permitOrThrow (show po_cl[7]? = some _ from rfl) rfl kl0 (c_X7_permitOrThrow HL kl0 hx1) rfl (po_rtL hL rfl) (Nat.le_of_ble_eq_true rfl) rfl ?_
    refine po_astore_n (L' := [(3, .ref y2), (0, .ref l0), (1, .int l1), (2, .int l2)]) hF dX7_needed_5 rfl (by decide) rfl ?_
    refine po_iload_n hF dX7_needed_6 rfl rfl ?_
    refine po_iconst (v := 2) hF dX7_needed_7 (by decide) ?_
    refine po_icmp_lt (tgt := 17) hF dX7_needed_8 (by decide) hm (fun hm => ?_) (fun hm => ?_)
    · refine po_sub (L' := []) rfl ?_
      exact w_X7_needed_17 hF hL HL I hm
    · refine po_iload_n hF dX7_needed_11 rfl rfl ?_
      refine po_bipush (v := 8) hF dX7_needed_12 (by decide) ?_
      refine po_icmp_le (tgt := 28) hF dX7_needed_14 (by decide) hm (fun hm => ?_) (fun hm => ?_)
      · refine po_aload_n hF dX7_needed_28 rfl rfl ?_
        refine po_getf (v := .ref (l0 + 3)) hF dX7_needed_29 fl_X7_19 kl0 (ly_7_1 HL kl0).1 ?_
        refine po_aload_n hF dX7_needed_32 rfl rfl ?_
        refine po_getf (v := .ref (l0 + 8)) hF dX7_needed_33 fl_X7_26 kl0 (ly_7_2 HL kl0).1 ?_
        refine po_aload_n hF dX7_needed_36 rfl rfl ?_
        refine po_iload_n hF dX7_needed_37 rfl rfl ?_
        obtain ⟨x3, hx3, hm⟩ := po_bind hm
        refine po_callV (As := [.ref (l0 + 8), .ref y2, .int l2]) hF dX7_needed_38 wq_1068 mv_X4_neededAmount ws_X4_neededAmount (show po_cl[4]? = some _ from rfl) rfl ((ly_7_1 HL kl0).2) (c_X4_neededAmount HL ((ly_7_1 HL kl0).2) ((ly_7_2 HL kl0).2) (kr_X7_permitOrThrow HL kl0 hx1) hx3) rfl (po_rtL hL rfl) (Nat.le_of_ble_eq_true rfl) rfl ?_
        cases hm
        exact po_iret hF hL dX7_needed_41 (by decide) (by decide) rfl rfl rfl (Or.inl rfl)
      · refine po_sub (L' := []) rfl ?_
        exact w_X7_needed_17 hF hL HL I hm
theorem c_X7_needed {K : po_K} {R : po_R} {I : po_I} {st : Nat → Nat} {ρ : (Int32 ⊕ String) × po_I} (HL : po_Lay K R st) {l0 : Nat} {l1 : Int32} {l2 : Int32} (kl0 : K l0 = (18, 8)) (hm : m_X7_needed I l0 l1 l2 = some ρ) : po_C st yX7_needed cX7_needed 4 (some .int) 7 2 12 [.ref l0, .int l1, .int l2] K R I none (po_oi (ρ.1)) K R (ρ.2) none := by
  refine po_ofC (by decide +kernel) (Nat.le_of_ble_eq_true rfl) (fun X G hF hL => ?_)
  exact w_X7_needed_e hF hL HL I l0 l1 l2 kl0 hm
set_option maxRecDepth 20000 in
set_option maxHeartbeats 2000000 in
theorem w_X2_isOpen_16 {X : po_X} {G : po_G} {st : Nat → Nat} {K : po_K} {I : po_I} {R : po_R} {ρ : Int32} (hF : po_F X G cX2_isOpen RX2 2 st) (hL : po_L X (some .boolean) 0 0 0 "isOpen") (HL : po_Lay K R st) (s0 : Int32) (hm : m_X2_isOpen_16 I s0 = some ρ) : po_V X G 2 (po_Q X G (.inl (some (.int ρ))) K R I none 0 0) 0 0 16 [] [.int s0] K R I none := by
  unfold m_X2_isOpen_16 at hm
  obtain ⟨hz, hm⟩ := po_zif hm
  cases hm
  exact po_zret hF hL dX2_isOpen_16 (po_nz hz) (by decide) (by decide) rfl rfl rfl (Or.inl rfl)
set_option maxRecDepth 20000 in
set_option maxHeartbeats 2000000 in
theorem w_X2_isOpen_e {X : po_X} {G : po_G} {st : Nat → Nat} {K : po_K} {I : po_I} {R : po_R} {ρ : Int32} (hF : po_F X G cX2_isOpen RX2 2 st) (hL : po_L X (some .boolean) 0 0 0 "isOpen") (HL : po_Lay K R st) (l0 : Nat) (l1 : Int32) (kl0 : K l0 = (13, 19)) (hm : m_X2_isOpen_e I l0 l1 = some ρ) : po_V X G 2 (po_Q X G (.inl (some (.int ρ))) K R I none 0 0) 0 0 0 [(0, .ref l0), (1, .int l1)] [] K R I none := by
  unfold m_X2_isOpen_e at hm
  refine po_aload_n hF dX2_isOpen_0 rfl rfl ?_
  refine po_getf (v := .int (I l0 16)) hF dX2_isOpen_1 fl_X2_75 kl0 rfl ?_
  refine po_iconst (v := 1) hF dX2_isOpen_4 (by decide) ?_
  refine po_iload_n hF dX2_isOpen_5 rfl rfl ?_
  refine po_ishl hF dX2_isOpen_6 ?_
  refine po_iand hF dX2_isOpen_7 ?_
  refine po_if_eq (tgt := 15) hF dX2_isOpen_8 (by decide) hm (fun hm => ?_) (fun hm => ?_)
  · refine po_iconst (v := 0) hF dX2_isOpen_15 (by decide) ?_
    refine po_sub (L' := []) rfl ?_
    exact w_X2_isOpen_16 hF hL HL 0 hm
  · refine po_iconst (v := 1) hF dX2_isOpen_11 (by decide) ?_
    refine po_goto (tgt := 16) hF dX2_isOpen_12 (by decide) ?_
    refine po_sub (L' := []) rfl ?_
    exact w_X2_isOpen_16 hF hL HL 1 hm
theorem c_X2_isOpen {K : po_K} {R : po_R} {I : po_I} {st : Nat → Nat} {ρ : Int32} (HL : po_Lay K R st) {l0 : Nat} {l1 : Int32} (kl0 : K l0 = (13, 19)) (hm : m_X2_isOpen I l0 l1 = some ρ) : po_C st yX2_isOpen cX2_isOpen 2 (some .boolean) 0 0 0 [.ref l0, .int l1] K R I none (.inl (some (.int ρ))) K R I none := by
  refine po_ofC (by decide +kernel) (Nat.le_of_ble_eq_true rfl) (fun X G hF hL => ?_)
  exact w_X2_isOpen_e hF hL HL l0 l1 kl0 hm
set_option maxRecDepth 20000 in
set_option maxHeartbeats 2000000 in
theorem w_X7_condition_20 {X : po_X} {G : po_G} {st : Nat → Nat} {K : po_K} {I : po_I} {R : po_R} {ρ : (Int32 ⊕ String)} (hF : po_F X G cX7_condition RX7 5 st) (hL : po_L X (some .int) 7 2 12 "condition") (HL : po_Lay K R st) (hm : m_X7_condition_20 I = some ρ) : po_V X G 5 (po_Q X G (po_oi (ρ)) K R I none 2 12) 1 6 20 [] [] K R I none := by
  unfold m_X7_condition_20 at hm
  cases hm
  exact po_throwW hF hL tw_X7_306_87 dX7_condition_20 dX7_condition_23 dX7_condition_24 dX7_condition_27 dX7_condition_30 (by decide) (Nat.le_of_ble_eq_true rfl) (by decide) (by decide) rfl rfl rfl
set_option maxRecDepth 20000 in
set_option maxHeartbeats 2000000 in
theorem w_X7_condition_90 {X : po_X} {G : po_G} {st : Nat → Nat} {K : po_K} {I : po_I} {R : po_R} {ρ : (Int32 ⊕ String)} (hF : po_F X G cX7_condition RX7 5 st) (hL : po_L X (some .int) 7 2 12 "condition") (HL : po_Lay K R st) (s0 : Int32) (hm : m_X7_condition_90 I s0 = some ρ) : po_V X G 5 (po_Q X G (po_oi (ρ)) K R I none 2 12) 1 6 90 [] [.int s0] K R I none := by
  unfold m_X7_condition_90 at hm
  cases hm
  exact po_iret hF hL dX7_condition_90 (by decide) (by decide) rfl rfl rfl (Or.inl rfl)
set_option maxRecDepth 20000 in
set_option maxHeartbeats 2000000 in
theorem w_X7_condition_e {X : po_X} {G : po_G} {st : Nat → Nat} {K : po_K} {I : po_I} {R : po_R} {ρ : (Int32 ⊕ String)} (hF : po_F X G cX7_condition RX7 5 st) (hL : po_L X (some .int) 7 2 12 "condition") (HL : po_Lay K R st) (l0 : Nat) (l1 : Int32) (l2 : Int32) (l3 : Int32) (kl0 : K l0 = (18, 8)) (hm : m_X7_condition_e I l0 l1 l2 l3 = some ρ) : po_V X G 5 (po_Q X G (po_oi (ρ)) K R I none 2 12) 0 0 0 [(0, .ref l0), (1, .int l1), (2, .int l2), (3, .int l3)] [] K R I none := by
  unfold m_X7_condition_e at hm
  refine po_aload_n hF dX7_condition_0 rfl rfl ?_
  refine po_iload_n hF dX7_condition_1 rfl rfl ?_
  obtain ⟨x1, hx1, hm⟩ := po_bind hm
  cases x1 with
  | inr y2 =>
    cases hm
    exact po_callVx (As := [.int l1]) hF hL dX7_condition_2 wq_859 mv_X7_permitOrThrow ws_X7_permitOrThrow (show po_cl[7]? = some _ from rfl) rfl kl0 (c_X7_permitOrThrow HL kl0 hx1) rfl (po_rtL hL rfl) (Nat.le_of_ble_eq_true rfl) rfl
  | inl y2 =>
    dsimp only [Sum.elim_inl] at hm
    refine po_callV (As := [.int l1]) hF dX7_condition_2 wq_859 mv_X7_permitOrThrow ws_X7_permitOrThrow (show po_cl[7]? = some _ from rfl) rfl kl0 (c_X7_permitOrThrow HL kl0 hx1) rfl (po_rtL hL rfl) (Nat.le_of_ble_eq_true rfl) rfl ?_
    refine po_astore (L' := [(4, .ref y2), (0, .ref l0), (1, .int l1), (2, .int l2), (3, .int l3)]) hF dX7_condition_5 (by decide) rfl ?_
    refine po_iload_n hF dX7_condition_7 rfl rfl ?_
    refine po_if_lt (tgt := 20) hF dX7_condition_8 (by decide) hm (fun hm => ?_) (fun hm => ?_)
    · refine po_sub (L' := []) rfl ?_
      exact w_X7_condition_20 hF hL HL hm
    · refine po_iload_n hF dX7_condition_11 rfl rfl ?_
      refine po_aload hF dX7_condition_12 rfl ?_
      refine po_getf (v := .int (I y2 15)) hF dX7_condition_14 fl_X7_186 (kr_X7_permitOrThrow HL kl0 hx1) rfl ?_
      refine po_icmp_lt (tgt := 31) hF dX7_condition_17 (by decide) hm (fun hm => ?_) (fun hm => ?_)
      · refine po_iload_n hF dX7_condition_31 rfl rfl ?_
        by_cases hs0 : l3 = 0
        · rw [if_pos hs0] at hm
          refine po_tin (c := 0) (tgt := 60) (off := 28) hF dX7_condition_32 hs0 (by decide) (by decide) (by decide) (by decide) ?_
          refine po_aload hF dX7_condition_60 rfl ?_
          refine po_getf (v := .ref (y2 + 3)) hF dX7_condition_62 fl_X7_308 (kr_X7_permitOrThrow HL kl0 hx1) (ly_2_17 HL (kr_X7_permitOrThrow HL kl0 hx1)).1 ?_
          refine po_iload_n hF dX7_condition_65 rfl rfl ?_
          refine po_iald hF dX7_condition_66 ((ly_2_17 HL (kr_X7_permitOrThrow HL kl0 hx1)).2) (Or.inl rfl) hm (fun hm => ?_)
          cases hm
          exact po_iret hF hL dX7_condition_67 (by decide) (by decide) rfl rfl rfl (Or.inl rfl)
        rw [if_neg hs0] at hm
        by_cases hs1 : l3 = 1
        · rw [if_pos hs1] at hm
          refine po_tin (c := 1) (tgt := 68) (off := 36) hF dX7_condition_32 hs1 (by decide) (by decide) (by decide) (by decide) ?_
          refine po_aload hF dX7_condition_68 rfl ?_
          refine po_getf (v := .ref (y2 + 4)) hF dX7_condition_70 fl_X7_312 (kr_X7_permitOrThrow HL kl0 hx1) (ly_2_18 HL (kr_X7_permitOrThrow HL kl0 hx1)).1 ?_
          refine po_iload_n hF dX7_condition_73 rfl rfl ?_
          refine po_iald hF dX7_condition_74 ((ly_2_18 HL (kr_X7_permitOrThrow HL kl0 hx1)).2) (Or.inl rfl) hm (fun hm => ?_)
          cases hm
          exact po_iret hF hL dX7_condition_75 (by decide) (by decide) rfl rfl rfl (Or.inl rfl)
        rw [if_neg hs1] at hm
        by_cases hs2 : l3 = 2
        · rw [if_pos hs2] at hm
          refine po_tin (c := 2) (tgt := 76) (off := 44) hF dX7_condition_32 hs2 (by decide) (by decide) (by decide) (by decide) ?_
          refine po_aload hF dX7_condition_76 rfl ?_
          refine po_iload_n hF dX7_condition_78 rfl rfl ?_
          obtain ⟨x3, hx3, hm⟩ := po_bind hm
          refine po_callV (As := [.int l2]) hF dX7_condition_79 wq_1083 mv_X2_isOpen ws_X2_isOpen (show po_cl[2]? = some _ from rfl) rfl (kr_X7_permitOrThrow HL kl0 hx1) (c_X2_isOpen HL (kr_X7_permitOrThrow HL kl0 hx1) hx3) rfl (po_rtL hL rfl) (Nat.le_of_ble_eq_true rfl) rfl ?_
          refine po_if_eq (tgt := 89) hF dX7_condition_82 (by decide) hm (fun hm => ?_) (fun hm => ?_)
          · refine po_iconst (v := 0) hF dX7_condition_89 (by decide) ?_
            refine po_sub (L' := []) rfl ?_
            exact w_X7_condition_90 hF hL HL 0 hm
          · refine po_iconst (v := 1) hF dX7_condition_85 (by decide) ?_
            refine po_goto (tgt := 90) hF dX7_condition_86 (by decide) ?_
            refine po_sub (L' := []) rfl ?_
            exact w_X7_condition_90 hF hL HL 1 hm
        rw [if_neg hs2] at hm
        refine po_tout (tgt := 91) hF dX7_condition_32 (po_tdef (lo := 0) (m := 3) (fun j hj => by
          rcases (show j = 0 ∨ j = 1 ∨ j = 2 by omega) with rfl | rfl | rfl
          · exact po_neI (c := 0) hs0 (by decide)
          · exact po_neI (c := 1) hs1 (by decide)
          · exact po_neI (c := 2) hs2 (by decide)
          )) (by decide) ?_
        cases hm
        exact po_throwW hF hL tw_X7_318_52 dX7_condition_91 dX7_condition_94 dX7_condition_95 dX7_condition_98 dX7_condition_101 (by decide) (Nat.le_of_ble_eq_true rfl) (by decide) (by decide) rfl rfl rfl
      · refine po_sub (L' := []) rfl ?_
        exact w_X7_condition_20 hF hL HL hm
theorem c_X7_condition {K : po_K} {R : po_R} {I : po_I} {st : Nat → Nat} {ρ : (Int32 ⊕ String)} (HL : po_Lay K R st) {l0 : Nat} {l1 : Int32} {l2 : Int32} {l3 : Int32} (kl0 : K l0 = (18, 8)) (hm : m_X7_condition I l0 l1 l2 l3 = some ρ) : po_C st yX7_condition cX7_condition 5 (some .int) 7 2 12 [.ref l0, .int l1, .int l2, .int l3] K R I none (po_oi (ρ)) K R I none := by
  refine po_ofC (by decide +kernel) (Nat.le_of_ble_eq_true rfl) (fun X G hF hL => ?_)
  exact w_X7_condition_e hF hL HL l0 l1 l2 l3 kl0 hm
