set_option maxRecDepth 20000 in
set_option maxHeartbeats 2000000 in
theorem w_X8_permitAt_32 {X : po_X} {G : po_G} {st : Nat → Nat} {K : po_K} {I : po_I} {R : po_R} {ρ : Int32} {r2 : Nat → Int32 → Int32 → Int32 → Option (Int32)} (hF : po_F X G cX8_permitAt RX8 4 st) (hL : po_L X (some .int) 3 0 0 "permitAt") (HL : po_Lay K R st) (h2 : ∀ (l0 : Nat) (l1 : Int32) (l2 : Int32) (l3 : Int32), r2 l0 l1 l2 l3 = some ρ → K l0 = (19, 19) → po_V X G 4 (po_Q X G (.inl (some (.int ρ))) K R I none 0 0) 0 0 2 [(0, .ref l0), (1, .int l1), (2, .int l2), (3, .int l3)] [] K R I none) (l0 : Nat) (l1 : Int32) (l2 : Int32) (l3 : Int32) (kl0 : K l0 = (19, 19)) (hm : m_X8_permitAt_32 I r2 l0 l1 l2 l3 = some ρ) : po_V X G 4 (po_Q X G (.inl (some (.int ρ))) K R I none 0 0) 0 0 32 [(0, .ref l0), (1, .int l1), (2, .int l2), (3, .int l3)] [] K R I none := by
  unfold m_X8_permitAt_32 at hm
  refine po_iinc (v := l3 + 1) (L' := [(3, .int (l3 + 1)), (0, .ref l0), (1, .int l1), (2, .int l2)]) hF dX8_permitAt_32 rfl rfl (by decide) rfl ?_
  refine po_goto (tgt := 2) hF dX8_permitAt_35 (by decide) ?_
  refine po_sub (L' := [(0, .ref l0), (1, .int l1), (2, .int l2), (3, .int (l3 + 1))]) rfl ?_
  exact h2 l0 l1 l2 (l3 + 1) hm kl0
set_option maxRecDepth 20000 in
set_option maxHeartbeats 2000000 in
theorem w_X8_permitAt_2 {X : po_X} {G : po_G} {st : Nat → Nat} {K : po_K} {I : po_I} {R : po_R} {ρ : Int32} {r2 : Nat → Int32 → Int32 → Int32 → Option (Int32)} (hF : po_F X G cX8_permitAt RX8 4 st) (hL : po_L X (some .int) 3 0 0 "permitAt") (HL : po_Lay K R st) (h2 : ∀ (l0 : Nat) (l1 : Int32) (l2 : Int32) (l3 : Int32), r2 l0 l1 l2 l3 = some ρ → K l0 = (19, 19) → po_V X G 4 (po_Q X G (.inl (some (.int ρ))) K R I none 0 0) 0 0 2 [(0, .ref l0), (1, .int l1), (2, .int l2), (3, .int l3)] [] K R I none) (l0 : Nat) (l1 : Int32) (l2 : Int32) (l3 : Int32) (kl0 : K l0 = (19, 19)) (hm : m_X8_permitAt_2 I r2 l0 l1 l2 l3 = some ρ) : po_V X G 4 (po_Q X G (.inl (some (.int ρ))) K R I none 0 0) 0 0 2 [(0, .ref l0), (1, .int l1), (2, .int l2), (3, .int l3)] [] K R I none := by
  unfold m_X8_permitAt_2 at hm
  refine po_iload_n hF dX8_permitAt_2 rfl rfl ?_
  refine po_aload_n hF dX8_permitAt_3 rfl rfl ?_
  refine po_getf (v := .ref (l0 + 1)) hF dX8_permitAt_4 fl_X8_13 kl0 (ly_8_1 HL kl0).1 ?_
  refine po_iconst (v := 2) hF dX8_permitAt_7 (by decide) ?_
  refine po_ialdC (j := 2) hF dX8_permitAt_8 ((ly_8_1 HL kl0).2) (Or.inl rfl) (by decide) (by decide) (by decide) ?_
  refine po_icmp_ge (tgt := 38) hF dX8_permitAt_9 (by decide) hm (fun hm => ?_) (fun hm => ?_)
  · refine po_iconst (v := (-1)) hF dX8_permitAt_38 (by decide) ?_
    cases hm
    exact po_iret hF hL dX8_permitAt_39 (by decide) (by decide) rfl rfl rfl (Or.inl rfl)
  · refine po_aload_n hF dX8_permitAt_12 rfl rfl ?_
    refine po_iload_n hF dX8_permitAt_13 rfl rfl ?_
    obtain ⟨x1, hx1, hm⟩ := po_bind hm
    refine po_callV (As := [.int l3]) hF dX8_permitAt_14 wq_1450 mv_X8_stands ws_X8_stands (show po_cl[8]? = some _ from rfl) rfl kl0 (c_X8_stands HL kl0 hx1) rfl (po_rtL hL rfl) (Nat.le_of_ble_eq_true rfl) rfl ?_
    refine po_if_eq (tgt := 32) hF dX8_permitAt_17 (by decide) hm (fun hm => ?_) (fun hm => ?_)
    · exact w_X8_permitAt_32 hF hL HL h2 l0 l1 l2 l3 kl0 hm
    · refine po_aload_n hF dX8_permitAt_20 rfl rfl ?_
      refine po_iload_n hF dX8_permitAt_21 rfl rfl ?_
      refine po_iload_n hF dX8_permitAt_22 rfl rfl ?_
      refine po_iload_n hF dX8_permitAt_23 rfl rfl ?_
      obtain ⟨x2, hx2, hm⟩ := po_bind hm
      refine po_callV (As := [.int l3, .int l1, .int l2]) hF dX8_permitAt_24 wq_1454 mv_X8_isInBuilding ws_X8_isInBuilding (show po_cl[8]? = some _ from rfl) rfl kl0 (c_X8_isInBuilding HL kl0 hx2) rfl (po_rtL hL rfl) (Nat.le_of_ble_eq_true rfl) rfl ?_
      refine po_if_eq (tgt := 32) hF dX8_permitAt_27 (by decide) hm (fun hm => ?_) (fun hm => ?_)
      · exact w_X8_permitAt_32 hF hL HL h2 l0 l1 l2 l3 kl0 hm
      · refine po_iload_n hF dX8_permitAt_30 rfl rfl ?_
        cases hm
        exact po_iret hF hL dX8_permitAt_31 (by decide) (by decide) rfl rfl rfl (Or.inl rfl)
theorem w_X8_permitAt_2L {X : po_X} {G : po_G} {st : Nat → Nat} {K : po_K} {I : po_I} {R : po_R} {ρ : Int32} (hF : po_F X G cX8_permitAt RX8 4 st) (hL : po_L X (some .int) 3 0 0 "permitAt") (HL : po_Lay K R st) : ∀ (n : Nat) (l0 : Nat) (l1 : Int32) (l2 : Int32) (l3 : Int32), m_X8_permitAt_2L I n l0 l1 l2 l3 = some ρ → K l0 = (19, 19) → po_V X G 4 (po_Q X G (.inl (some (.int ρ))) K R I none 0 0) 0 0 2 [(0, .ref l0), (1, .int l1), (2, .int l2), (3, .int l3)] [] K R I none := by
  intro n
  induction n with
  | zero => intro l0 l1 l2 l3 hm; cases hm
  | succ n ih => intro l0 l1 l2 l3 hm kl0; exact w_X8_permitAt_2 hF hL HL (ih) l0 l1 l2 l3 kl0 hm
set_option maxRecDepth 20000 in
set_option maxHeartbeats 2000000 in
theorem w_X8_permitAt_e {X : po_X} {G : po_G} {st : Nat → Nat} {K : po_K} {I : po_I} {R : po_R} {ρ : Int32} (hF : po_F X G cX8_permitAt RX8 4 st) (hL : po_L X (some .int) 3 0 0 "permitAt") (HL : po_Lay K R st) (l0 : Nat) (l1 : Int32) (l2 : Int32) (kl0 : K l0 = (19, 19)) (hm : m_X8_permitAt_e I l0 l1 l2 = some ρ) : po_V X G 4 (po_Q X G (.inl (some (.int ρ))) K R I none 0 0) 0 0 0 [(0, .ref l0), (1, .int l1), (2, .int l2)] [] K R I none := by
  unfold m_X8_permitAt_e at hm
  refine po_iconst (v := 0) hF dX8_permitAt_0 (by decide) ?_
  refine po_istore_n (L' := [(3, .int 0), (0, .ref l0), (1, .int l1), (2, .int l2)]) hF dX8_permitAt_1 rfl (by decide) rfl ?_
  refine po_sub (L' := [(0, .ref l0), (1, .int l1), (2, .int l2), (3, .int 0)]) rfl ?_
  exact w_X8_permitAt_2L hF hL HL 5000 l0 l1 l2 0 hm kl0
theorem c_X8_permitAt {K : po_K} {R : po_R} {I : po_I} {st : Nat → Nat} {ρ : Int32} (HL : po_Lay K R st) {l0 : Nat} {l1 : Int32} {l2 : Int32} (kl0 : K l0 = (19, 19)) (hm : m_X8_permitAt I l0 l1 l2 = some ρ) : po_C st yX8_permitAt cX8_permitAt 4 (some .int) 3 0 0 [.ref l0, .int l1, .int l2] K R I none (.inl (some (.int ρ))) K R I none := by
  refine po_ofC (by decide +kernel) (Nat.le_of_ble_eq_true rfl) (fun X G hF hL => ?_)
  exact w_X8_permitAt_e hF hL HL l0 l1 l2 kl0 hm
set_option maxRecDepth 20000 in
set_option maxHeartbeats 2000000 in
theorem w_X8_distance_9 {X : po_X} {G : po_G} {st : Nat → Nat} {K : po_K} {I : po_I} {R : po_R} {ρ : Int32} {r9 : Nat → Int32 → Int32 → Int32 → Int32 → Int32 → Option (Int32)} (hF : po_F X G cX8_distance RX8 8 st) (hL : po_L X (some .int) 3 0 0 "distance") (HL : po_Lay K R st) (h9 : ∀ (l0 : Nat) (l1 : Int32) (l4 : Int32) (l5 : Int32) (l6 : Int32) (l7 : Int32), r9 l0 l1 l4 l5 l6 l7 = some ρ → K l0 = (19, 19) → po_V X G 8 (po_Q X G (.inl (some (.int ρ))) K R I none 0 0) 0 0 9 [(0, .ref l0), (1, .int l1), (4, .int l4), (5, .int l5), (6, .int l6), (7, .int l7)] [] K R I none) (l0 : Nat) (l1 : Int32) (l4 : Int32) (l5 : Int32) (l6 : Int32) (l7 : Int32) (kl0 : K l0 = (19, 19)) (hm : m_X8_distance_9 I r9 l0 l1 l4 l5 l6 l7 = some ρ) : po_V X G 8 (po_Q X G (.inl (some (.int ρ))) K R I none 0 0) 0 0 9 [(0, .ref l0), (1, .int l1), (4, .int l4), (5, .int l5), (6, .int l6), (7, .int l7)] [] K R I none := by
  unfold m_X8_distance_9 at hm
  refine po_aload_n hF dX8_distance_9 rfl rfl ?_
  refine po_iload_n hF dX8_distance_10 rfl rfl ?_
  refine po_iload hF dX8_distance_11 rfl ?_
  refine po_iload hF dX8_distance_13 rfl ?_
  obtain ⟨x1, hx1, hm⟩ := po_bind hm
  refine po_callV (As := [.int l1, .int l6, .int l7]) hF dX8_distance_15 wq_1347 mv_X8_isInLot ws_X8_isInLot (show po_cl[8]? = some _ from rfl) rfl kl0 (c_X8_isInLot HL kl0 hx1) rfl (po_rtL hL rfl) (Nat.le_of_ble_eq_true rfl) rfl ?_
  refine po_if_eq (tgt := 47) hF dX8_distance_18 (by decide) hm (fun hm => ?_) (fun hm => ?_)
  · refine po_iconst (v := 0) hF dX8_distance_47 (by decide) ?_
    refine po_iload hF dX8_distance_48 rfl ?_
    refine po_iconst (v := 1) hF dX8_distance_50 (by decide) ?_
    refine po_isub hF dX8_distance_51 ?_
    refine po_max hF hL dX8_distance_52 wq_1492 ⟨wq_850, wq_106, wq_851⟩ (Nat.le_of_ble_eq_true rfl) (by decide) (by decide) (by decide) ?_
    cases hm
    exact po_iret hF hL dX8_distance_55 (by decide) (by decide) rfl rfl rfl (Or.inl rfl)
  · refine po_iload hF dX8_distance_21 rfl ?_
    refine po_iload hF dX8_distance_23 rfl ?_
    obtain ⟨x2, hx2, hm⟩ := po_bind hm
    refine po_callS (As := [.int l4]) hF dX8_distance_25 wq_1466 mv_X8_eastward (c_X8_eastward HL hx2) rfl (po_rtL hL rfl) (Nat.le_of_ble_eq_true rfl) rfl ?_
    refine po_iadd hF dX8_distance_28 ?_
    refine po_top hm (fun v3 hm => ?_)
    refine po_istore (L' := [(6, .int v3), (0, .ref l0), (1, .int l1), (4, .int l4), (5, .int l5), (7, .int l7)]) hF dX8_distance_29 (by decide) rfl ?_
    refine po_iload hF dX8_distance_31 rfl ?_
    refine po_iload hF dX8_distance_33 rfl ?_
    obtain ⟨x4, hx4, hm⟩ := po_bind hm
    refine po_callS (As := [.int l4]) hF dX8_distance_35 wq_1469 mv_X8_southward (c_X8_southward HL hx4) rfl (po_rtL hL rfl) (Nat.le_of_ble_eq_true rfl) rfl ?_
    refine po_iadd hF dX8_distance_38 ?_
    refine po_top hm (fun v5 hm => ?_)
    refine po_istore (L' := [(7, .int v5), (6, .int v3), (0, .ref l0), (1, .int l1), (4, .int l4), (5, .int l5)]) hF dX8_distance_39 (by decide) rfl ?_
    refine po_iinc (v := l5 + 1) (L' := [(5, .int (l5 + 1)), (7, .int v5), (6, .int v3), (0, .ref l0), (1, .int l1), (4, .int l4)]) hF dX8_distance_41 rfl rfl (by decide) rfl ?_
    refine po_goto (tgt := 9) hF dX8_distance_44 (by decide) ?_
    refine po_sub (L' := [(0, .ref l0), (1, .int l1), (4, .int l4), (5, .int (l5 + 1)), (6, .int v3), (7, .int v5)]) rfl ?_
    exact h9 l0 l1 l4 (l5 + 1) v3 v5 hm kl0
theorem w_X8_distance_9L {X : po_X} {G : po_G} {st : Nat → Nat} {K : po_K} {I : po_I} {R : po_R} {ρ : Int32} (hF : po_F X G cX8_distance RX8 8 st) (hL : po_L X (some .int) 3 0 0 "distance") (HL : po_Lay K R st) : ∀ (n : Nat) (l0 : Nat) (l1 : Int32) (l4 : Int32) (l5 : Int32) (l6 : Int32) (l7 : Int32), m_X8_distance_9L I n l0 l1 l4 l5 l6 l7 = some ρ → K l0 = (19, 19) → po_V X G 8 (po_Q X G (.inl (some (.int ρ))) K R I none 0 0) 0 0 9 [(0, .ref l0), (1, .int l1), (4, .int l4), (5, .int l5), (6, .int l6), (7, .int l7)] [] K R I none := by
  intro n
  induction n with
  | zero => intro l0 l1 l4 l5 l6 l7 hm; cases hm
  | succ n ih => intro l0 l1 l4 l5 l6 l7 hm kl0; exact w_X8_distance_9 hF hL HL (ih) l0 l1 l4 l5 l6 l7 kl0 hm
set_option maxRecDepth 20000 in
set_option maxHeartbeats 2000000 in
theorem w_X8_distance_e {X : po_X} {G : po_G} {st : Nat → Nat} {K : po_K} {I : po_I} {R : po_R} {ρ : Int32} (hF : po_F X G cX8_distance RX8 8 st) (hL : po_L X (some .int) 3 0 0 "distance") (HL : po_Lay K R st) (l0 : Nat) (l1 : Int32) (l2 : Int32) (l3 : Int32) (l4 : Int32) (kl0 : K l0 = (19, 19)) (hm : m_X8_distance_e I l0 l1 l2 l3 l4 = some ρ) : po_V X G 8 (po_Q X G (.inl (some (.int ρ))) K R I none 0 0) 0 0 0 [(0, .ref l0), (1, .int l1), (2, .int l2), (3, .int l3), (4, .int l4)] [] K R I none := by
  unfold m_X8_distance_e at hm
  refine po_iconst (v := 0) hF dX8_distance_0 (by decide) ?_
  refine po_istore (L' := [(5, .int 0), (0, .ref l0), (1, .int l1), (2, .int l2), (3, .int l3), (4, .int l4)]) hF dX8_distance_1 (by decide) rfl ?_
  refine po_iload_n hF dX8_distance_3 rfl rfl ?_
  refine po_istore (L' := [(6, .int l2), (5, .int 0), (0, .ref l0), (1, .int l1), (2, .int l2), (3, .int l3), (4, .int l4)]) hF dX8_distance_4 (by decide) rfl ?_
  refine po_iload_n hF dX8_distance_6 rfl rfl ?_
  refine po_istore (L' := [(7, .int l3), (6, .int l2), (5, .int 0), (0, .ref l0), (1, .int l1), (2, .int l2), (3, .int l3), (4, .int l4)]) hF dX8_distance_7 (by decide) rfl ?_
  refine po_sub (L' := [(0, .ref l0), (1, .int l1), (4, .int l4), (5, .int 0), (6, .int l2), (7, .int l3)]) rfl ?_
  exact w_X8_distance_9L hF hL HL 5000 l0 l1 l4 0 l2 l3 hm kl0
theorem c_X8_distance {K : po_K} {R : po_R} {I : po_I} {st : Nat → Nat} {ρ : Int32} (HL : po_Lay K R st) {l0 : Nat} {l1 : Int32} {l2 : Int32} {l3 : Int32} {l4 : Int32} (kl0 : K l0 = (19, 19)) (hm : m_X8_distance I l0 l1 l2 l3 l4 = some ρ) : po_C st yX8_distance cX8_distance 8 (some .int) 3 0 0 [.ref l0, .int l1, .int l2, .int l3, .int l4] K R I none (.inl (some (.int ρ))) K R I none := by
  refine po_ofC (by decide +kernel) (Nat.le_of_ble_eq_true rfl) (fun X G hF hL => ?_)
  exact w_X8_distance_e hF hL HL l0 l1 l2 l3 l4 kl0 hm
set_option maxRecDepth 20000 in
set_option maxHeartbeats 2000000 in
theorem w_X8_cell_103 {X : po_X} {G : po_G} {st : Nat → Nat} {K : po_K} {R : po_R} {ρ : Int32 × po_I} (hF : po_F X G cX8_cell RX8 5 st) (hL : po_L X (some .int) 4 0 0 "cell") (HL : po_Lay K R st) (I : po_I) (s0 : Int32) (hm : m_X8_cell_103 I s0 = some ρ) : po_V X G 5 (po_Q X G (.inl (some (.int ρ.1))) K R (ρ.2) none 0 0) 0 0 103 [] [.int s0] K R I none := by
  unfold m_X8_cell_103 at hm
  cases hm
  exact po_iret hF hL dX8_cell_103 (by decide) (by decide) rfl rfl rfl (Or.inl rfl)
set_option maxRecDepth 20000 in
set_option maxHeartbeats 2000000 in
theorem w_X8_cell_39 {X : po_X} {G : po_G} {st : Nat → Nat} {K : po_K} {R : po_R} {ρ : Int32 × po_I} (hF : po_F X G cX8_cell RX8 5 st) (hL : po_L X (some .int) 4 0 0 "cell") (HL : po_Lay K R st) (I : po_I) (l0 : Nat) (l1 : Int32) (l2 : Int32) (l3 : Int32) (s0 : Nat) (s1 : Int32) (kl0 : K l0 = (19, 19)) (ks0 : K s0 = (19, 19)) (hm : m_X8_cell_39 I l0 l1 l2 l3 s0 s1 = some ρ) : po_V X G 5 (po_Q X G (.inl (some (.int ρ.1))) K R (ρ.2) none 0 0) 0 0 39 [(0, .ref l0), (1, .int l1), (2, .int l2), (3, .int l3)] [.int s1, .ref s0] K R I none := by
  unfold m_X8_cell_39 at hm
  refine po_puti hF dX8_cell_39 fl_X8_1 ks0 (by intro r h; cases h; rfl) rfl rfl (fun _ => rfl) rfl ?_
  refine po_hname hm (fun I1 hm => ?_)
  refine po_aload_n hF dX8_cell_42 rfl rfl ?_
  refine po_getf (v := .int (I1 l0 0)) hF dX8_cell_43 fl_X8_1 kl0 rfl ?_
  refine po_if_eq (tgt := 51) hF dX8_cell_46 (by decide) hm (fun hm => ?_) (fun hm => ?_)
  · refine po_aload_n hF dX8_cell_51 rfl rfl ?_
    refine po_iload_n hF dX8_cell_52 rfl rfl ?_
    refine po_iload_n hF dX8_cell_53 rfl rfl ?_
    obtain ⟨x2, hx2, hm⟩ := po_bind hm
    refine po_callV (As := [.int l1, .int l2]) hF dX8_cell_54 wq_1343 mv_X8_lotAt ws_X8_lotAt (show po_cl[8]? = some _ from rfl) rfl kl0 (c_X8_lotAt HL kl0 hx2) rfl (po_rtL hL rfl) (Nat.le_of_ble_eq_true rfl) rfl ?_
    refine po_istore (L' := [(4, .int x2), (0, .ref l0), (1, .int l1), (2, .int l2), (3, .int l3)]) hF dX8_cell_57 (by decide) rfl ?_
    refine po_iload_n hF dX8_cell_59 rfl rfl ?_
    refine po_if_ne (tgt := 68) hF dX8_cell_60 (by decide) hm (fun hm => ?_) (fun hm => ?_)
    · refine po_iload_n hF dX8_cell_68 rfl rfl ?_
      refine po_iconst (v := 1) hF dX8_cell_69 (by decide) ?_
      refine po_icmp_ne (tgt := 82) hF dX8_cell_70 (by decide) hm (fun hm => ?_) (fun hm => ?_)
      · refine po_iload hF dX8_cell_82 rfl ?_
        refine po_iconst (v := (-1)) hF dX8_cell_84 (by decide) ?_
        refine po_icmp_ne (tgt := 92) hF dX8_cell_85 (by decide) hm (fun hm => ?_) (fun hm => ?_)
        · refine po_aload_n hF dX8_cell_92 rfl rfl ?_
          refine po_iload hF dX8_cell_93 rfl ?_
          refine po_iload_n hF dX8_cell_95 rfl rfl ?_
          refine po_iload_n hF dX8_cell_96 rfl rfl ?_
          refine po_iload_n hF dX8_cell_97 rfl rfl ?_
          refine po_iconst (v := 2) hF dX8_cell_98 (by decide) ?_
          refine po_isub hF dX8_cell_99 ?_
          obtain ⟨x3, hx3, hm⟩ := po_bind hm
          refine po_callV (As := [.int x2, .int l1, .int l2, .int (l3 - 2)]) hF dX8_cell_100 wq_1488 mv_X8_distance ws_X8_distance (show po_cl[8]? = some _ from rfl) rfl kl0 (c_X8_distance HL kl0 hx3) rfl (po_rtL hL rfl) (Nat.le_of_ble_eq_true rfl) rfl ?_
          refine po_sub (L' := []) rfl ?_
          exact w_X8_cell_103 hF hL HL I1 x3 hm
        · refine po_iconst (v := 0) hF dX8_cell_88 (by decide) ?_
          refine po_goto (tgt := 103) hF dX8_cell_89 (by decide) ?_
          refine po_sub (L' := []) rfl ?_
          exact w_X8_cell_103 hF hL HL I1 0 hm
      · refine po_aload_n hF dX8_cell_73 rfl rfl ?_
        refine po_iload_n hF dX8_cell_74 rfl rfl ?_
        refine po_iload_n hF dX8_cell_75 rfl rfl ?_
        obtain ⟨x4, hx4, hm⟩ := po_bind hm
        refine po_callV (As := [.int l1, .int l2]) hF dX8_cell_76 wq_1484 mv_X8_permitAt ws_X8_permitAt (show po_cl[8]? = some _ from rfl) rfl kl0 (c_X8_permitAt HL kl0 hx4) rfl (po_rtL hL rfl) (Nat.le_of_ble_eq_true rfl) rfl ?_
        refine po_goto (tgt := 103) hF dX8_cell_79 (by decide) ?_
        refine po_sub (L' := []) rfl ?_
        exact w_X8_cell_103 hF hL HL I1 x4 hm
    · refine po_iload hF dX8_cell_63 rfl ?_
      refine po_goto (tgt := 103) hF dX8_cell_65 (by decide) ?_
      refine po_sub (L' := []) rfl ?_
      exact w_X8_cell_103 hF hL HL I1 x2 hm
  · refine po_iconst (v := 0) hF dX8_cell_49 (by decide) ?_
    cases hm
    exact po_iret hF hL dX8_cell_50 (by decide) (by decide) rfl rfl rfl (Or.inl rfl)
set_option maxRecDepth 20000 in
set_option maxHeartbeats 2000000 in
theorem w_X8_cell_21 {X : po_X} {G : po_G} {st : Nat → Nat} {K : po_K} {R : po_R} {ρ : Int32 × po_I} (hF : po_F X G cX8_cell RX8 5 st) (hL : po_L X (some .int) 4 0 0 "cell") (HL : po_Lay K R st) (I : po_I) (l0 : Nat) (l1 : Int32) (l2 : Int32) (l3 : Int32) (s0 : Nat) (kl0 : K l0 = (19, 19)) (ks0 : K s0 = (19, 19)) (hm : m_X8_cell_21 I l0 l1 l2 l3 s0 = some ρ) : po_V X G 5 (po_Q X G (.inl (some (.int ρ.1))) K R (ρ.2) none 0 0) 0 0 21 [(0, .ref l0), (1, .int l1), (2, .int l2), (3, .int l3)] [.ref s0] K R I none := by
  unfold m_X8_cell_21 at hm
  refine po_iconst (v := 1) hF dX8_cell_21 (by decide) ?_
  refine po_goto (tgt := 39) hF dX8_cell_22 (by decide) ?_
  exact w_X8_cell_39 hF hL HL I l0 l1 l2 l3 s0 1 kl0 ks0 hm
set_option maxRecDepth 20000 in
set_option maxHeartbeats 2000000 in
theorem w_X8_cell_e {X : po_X} {G : po_G} {st : Nat → Nat} {K : po_K} {R : po_R} {ρ : Int32 × po_I} (hF : po_F X G cX8_cell RX8 5 st) (hL : po_L X (some .int) 4 0 0 "cell") (HL : po_Lay K R st) (I : po_I) (l0 : Nat) (l1 : Int32) (l2 : Int32) (l3 : Int32) (kl0 : K l0 = (19, 19)) (hm : m_X8_cell_e I l0 l1 l2 l3 = some ρ) : po_V X G 5 (po_Q X G (.inl (some (.int ρ.1))) K R (ρ.2) none 0 0) 0 0 0 [(0, .ref l0), (1, .int l1), (2, .int l2), (3, .int l3)] [] K R I none := by
  unfold m_X8_cell_e at hm
  refine po_aload_n hF dX8_cell_0 rfl rfl ?_
  refine po_iload_n hF dX8_cell_1 rfl rfl ?_
  refine po_iconst (v := 0) hF dX8_cell_2 (by decide) ?_
  refine po_bipush (v := 19) hF dX8_cell_3 (by decide) ?_
  obtain ⟨x5, hx5, hm⟩ := po_bind hm
  refine po_callS (As := [.int l1, .int 0, .int 19]) hF dX8_cell_5 wq_1282 mv_X8_isIn (c_X8_isIn HL hx5) rfl (po_rtL hL rfl) (Nat.le_of_ble_eq_true rfl) rfl ?_
  refine po_if_eq (tgt := 21) hF dX8_cell_8 (by decide) hm (fun hm => ?_) (fun hm => ?_)
  · exact w_X8_cell_21 hF hL HL I l0 l1 l2 l3 l0 kl0 kl0 hm
  · refine po_iload_n hF dX8_cell_11 rfl rfl ?_
    refine po_iconst (v := 0) hF dX8_cell_12 (by decide) ?_
    refine po_bipush (v := 13) hF dX8_cell_13 (by decide) ?_
    obtain ⟨x6, hx6, hm⟩ := po_bind hm
    refine po_callS (As := [.int l2, .int 0, .int 13]) hF dX8_cell_15 wq_1282 mv_X8_isIn (c_X8_isIn HL hx6) rfl (po_rtL hL rfl) (Nat.le_of_ble_eq_true rfl) rfl ?_
    refine po_if_ne (tgt := 25) hF dX8_cell_18 (by decide) hm (fun hm => ?_) (fun hm => ?_)
    · refine po_iload_n hF dX8_cell_25 rfl rfl ?_
      refine po_iconst (v := 0) hF dX8_cell_26 (by decide) ?_
      refine po_iconst (v := 5) hF dX8_cell_27 (by decide) ?_
      obtain ⟨x7, hx7, hm⟩ := po_bind hm
      refine po_callS (As := [.int l3, .int 0, .int 5]) hF dX8_cell_28 wq_1282 mv_X8_isIn (c_X8_isIn HL hx7) rfl (po_rtL hL rfl) (Nat.le_of_ble_eq_true rfl) rfl ?_
      refine po_if_ne (tgt := 38) hF dX8_cell_31 (by decide) hm (fun hm => ?_) (fun hm => ?_)
      · refine po_iconst (v := 0) hF dX8_cell_38 (by decide) ?_
        exact w_X8_cell_39 hF hL HL I l0 l1 l2 l3 l0 0 kl0 kl0 hm
      · refine po_iconst (v := 2) hF dX8_cell_34 (by decide) ?_
        refine po_goto (tgt := 39) hF dX8_cell_35 (by decide) ?_
        exact w_X8_cell_39 hF hL HL I l0 l1 l2 l3 l0 2 kl0 kl0 hm
    · exact w_X8_cell_21 hF hL HL I l0 l1 l2 l3 l0 kl0 kl0 hm
theorem c_X8_cell {K : po_K} {R : po_R} {I : po_I} {st : Nat → Nat} {ρ : Int32 × po_I} (HL : po_Lay K R st) {l0 : Nat} {l1 : Int32} {l2 : Int32} {l3 : Int32} (kl0 : K l0 = (19, 19)) (hm : m_X8_cell I l0 l1 l2 l3 = some ρ) : po_C st yX8_cell cX8_cell 5 (some .int) 4 0 0 [.ref l0, .int l1, .int l2, .int l3] K R I none (.inl (some (.int ρ.1))) K R (ρ.2) none := by
  refine po_ofC (by decide +kernel) (Nat.le_of_ble_eq_true rfl) (fun X G hF hL => ?_)
  exact w_X8_cell_e hF hL HL I l0 l1 l2 l3 kl0 hm
set_option maxRecDepth 20000 in
set_option maxHeartbeats 2000000 in
theorem w_X8_frontDistance_e {X : po_X} {G : po_G} {st : Nat → Nat} {K : po_K} {I : po_I} {R : po_R} {ρ : Int32} (hF : po_F X G cX8_frontDistance RX8 4 st) (hL : po_L X (some .int) 4 0 0 "frontDistance") (HL : po_Lay K R st) (l0 : Nat) (l1 : Int32) (l2 : Int32) (l3 : Int32) (kl0 : K l0 = (19, 19)) (hm : m_X8_frontDistance_e I l0 l1 l2 l3 = some ρ) : po_V X G 4 (po_Q X G (.inl (some (.int ρ))) K R I none 0 0) 0 0 0 [(0, .ref l0), (1, .int l1), (2, .int l2), (3, .int l3)] [] K R I none := by
  unfold m_X8_frontDistance_e at hm
  refine po_aload_n hF dX8_frontDistance_0 rfl rfl ?_
  refine po_iload_n hF dX8_frontDistance_1 rfl rfl ?_
  refine po_iload_n hF dX8_frontDistance_2 rfl rfl ?_
  refine po_iload_n hF dX8_frontDistance_3 rfl rfl ?_
  refine po_aload_n hF dX8_frontDistance_4 rfl rfl ?_
  refine po_iload_n hF dX8_frontDistance_5 rfl rfl ?_
  refine po_iconst (v := 1) hF dX8_frontDistance_6 (by decide) ?_
  obtain ⟨x1, hx1, hm⟩ := po_bind hm
  refine po_callV (As := [.int l1, .int 1]) hF dX8_frontDistance_7 wq_1434 mv_X8_lotPart ws_X8_lotPart (show po_cl[8]? = some _ from rfl) rfl kl0 (c_X8_lotPart HL kl0 hx1) rfl (po_rtL hL rfl) (Nat.le_of_ble_eq_true rfl) rfl ?_
  obtain ⟨x2, hx2, hm⟩ := po_bind hm
  refine po_callV (As := [.int l1, .int l2, .int l3, .int x1]) hF dX8_frontDistance_10 wq_1488 mv_X8_distance ws_X8_distance (show po_cl[8]? = some _ from rfl) rfl kl0 (c_X8_distance HL kl0 hx2) rfl (po_rtL hL rfl) (Nat.le_of_ble_eq_true rfl) rfl ?_
  cases hm
  exact po_iret hF hL dX8_frontDistance_13 (by decide) (by decide) rfl rfl rfl (Or.inl rfl)
theorem c_X8_frontDistance {K : po_K} {R : po_R} {I : po_I} {st : Nat → Nat} {ρ : Int32} (HL : po_Lay K R st) {l0 : Nat} {l1 : Int32} {l2 : Int32} {l3 : Int32} (kl0 : K l0 = (19, 19)) (hm : m_X8_frontDistance I l0 l1 l2 l3 = some ρ) : po_C st yX8_frontDistance cX8_frontDistance 4 (some .int) 4 0 0 [.ref l0, .int l1, .int l2, .int l3] K R I none (.inl (some (.int ρ))) K R I none := by
  refine po_ofC (by decide +kernel) (Nat.le_of_ble_eq_true rfl) (fun X G hF hL => ?_)
  exact w_X8_frontDistance_e hF hL HL l0 l1 l2 l3 kl0 hm
set_option maxRecDepth 20000 in
set_option maxHeartbeats 2000000 in
theorem w_X8_sideDistance_43 {X : po_X} {G : po_G} {st : Nat → Nat} {K : po_K} {I : po_I} {R : po_R} {ρ : Int32} {r7 : Nat → Int32 → Int32 → Int32 → Int32 → Int32 → Option (Int32)} (hF : po_F X G cX8_sideDistance RX8 6 st) (hL : po_L X (some .int) 4 0 0 "sideDistance") (HL : po_Lay K R st) (h7 : ∀ (l0 : Nat) (l1 : Int32) (l2 : Int32) (l3 : Int32) (l4 : Int32) (l5 : Int32), r7 l0 l1 l2 l3 l4 l5 = some ρ → K l0 = (19, 19) → po_V X G 6 (po_Q X G (.inl (some (.int ρ))) K R I none 0 0) 0 0 7 [(0, .ref l0), (1, .int l1), (2, .int l2), (3, .int l3), (4, .int l4), (5, .int l5)] [] K R I none) (l0 : Nat) (l1 : Int32) (l2 : Int32) (l3 : Int32) (l5 : Int32) (s0 : Int32) (kl0 : K l0 = (19, 19)) (hm : m_X8_sideDistance_43 I r7 l0 l1 l2 l3 l5 s0 = some ρ) : po_V X G 6 (po_Q X G (.inl (some (.int ρ))) K R I none 0 0) 0 0 43 [(0, .ref l0), (1, .int l1), (2, .int l2), (3, .int l3), (5, .int l5)] [.int s0] K R I none := by
  unfold m_X8_sideDistance_43 at hm
  refine po_istore (L' := [(4, .int s0), (0, .ref l0), (1, .int l1), (2, .int l2), (3, .int l3), (5, .int l5)]) hF dX8_sideDistance_43 (by decide) rfl ?_
  refine po_iinc (v := l5 + 1) (L' := [(5, .int (l5 + 1)), (4, .int s0), (0, .ref l0), (1, .int l1), (2, .int l2), (3, .int l3)]) hF dX8_sideDistance_45 rfl rfl (by decide) rfl ?_
  refine po_goto (tgt := 7) hF dX8_sideDistance_48 (by decide) ?_
  refine po_sub (L' := [(0, .ref l0), (1, .int l1), (2, .int l2), (3, .int l3), (4, .int s0), (5, .int (l5 + 1))]) rfl ?_
  exact h7 l0 l1 l2 l3 s0 (l5 + 1) hm kl0
set_option maxRecDepth 20000 in
set_option maxHeartbeats 2000000 in
theorem w_X8_sideDistance_7 {X : po_X} {G : po_G} {st : Nat → Nat} {K : po_K} {I : po_I} {R : po_R} {ρ : Int32} {r7 : Nat → Int32 → Int32 → Int32 → Int32 → Int32 → Option (Int32)} (hF : po_F X G cX8_sideDistance RX8 6 st) (hL : po_L X (some .int) 4 0 0 "sideDistance") (HL : po_Lay K R st) (h7 : ∀ (l0 : Nat) (l1 : Int32) (l2 : Int32) (l3 : Int32) (l4 : Int32) (l5 : Int32), r7 l0 l1 l2 l3 l4 l5 = some ρ → K l0 = (19, 19) → po_V X G 6 (po_Q X G (.inl (some (.int ρ))) K R I none 0 0) 0 0 7 [(0, .ref l0), (1, .int l1), (2, .int l2), (3, .int l3), (4, .int l4), (5, .int l5)] [] K R I none) (l0 : Nat) (l1 : Int32) (l2 : Int32) (l3 : Int32) (l4 : Int32) (l5 : Int32) (kl0 : K l0 = (19, 19)) (hm : m_X8_sideDistance_7 I r7 l0 l1 l2 l3 l4 l5 = some ρ) : po_V X G 6 (po_Q X G (.inl (some (.int ρ))) K R I none 0 0) 0 0 7 [(0, .ref l0), (1, .int l1), (2, .int l2), (3, .int l3), (4, .int l4), (5, .int l5)] [] K R I none := by
  unfold m_X8_sideDistance_7 at hm
  refine po_iload hF dX8_sideDistance_7 rfl ?_
  refine po_iconst (v := 4) hF dX8_sideDistance_9 (by decide) ?_
  refine po_icmp_ge (tgt := 51) hF dX8_sideDistance_10 (by decide) hm (fun hm => ?_) (fun hm => ?_)
  · refine po_iload hF dX8_sideDistance_51 rfl ?_
    cases hm
    exact po_iret hF hL dX8_sideDistance_53 (by decide) (by decide) rfl rfl rfl (Or.inl rfl)
  · refine po_iload hF dX8_sideDistance_13 rfl ?_
    refine po_aload_n hF dX8_sideDistance_15 rfl rfl ?_
    refine po_iload_n hF dX8_sideDistance_16 rfl rfl ?_
    refine po_iconst (v := 1) hF dX8_sideDistance_17 (by decide) ?_
    obtain ⟨x1, hx1, hm⟩ := po_bind hm
    refine po_callV (As := [.int l1, .int 1]) hF dX8_sideDistance_18 wq_1434 mv_X8_lotPart ws_X8_lotPart (show po_cl[8]? = some _ from rfl) rfl kl0 (c_X8_lotPart HL kl0 hx1) rfl (po_rtL hL rfl) (Nat.le_of_ble_eq_true rfl) rfl ?_
    refine po_icmp_ne (tgt := 29) hF dX8_sideDistance_21 (by decide) hm (fun hm => ?_) (fun hm => ?_)
    · refine po_iload hF dX8_sideDistance_29 rfl ?_
      refine po_aload_n hF dX8_sideDistance_31 rfl rfl ?_
      refine po_iload_n hF dX8_sideDistance_32 rfl rfl ?_
      refine po_iload_n hF dX8_sideDistance_33 rfl rfl ?_
      refine po_iload_n hF dX8_sideDistance_34 rfl rfl ?_
      refine po_iload hF dX8_sideDistance_35 rfl ?_
      obtain ⟨x2, hx2, hm⟩ := po_bind hm
      refine po_callV (As := [.int l1, .int l2, .int l3, .int l5]) hF dX8_sideDistance_37 wq_1488 mv_X8_distance ws_X8_distance (show po_cl[8]? = some _ from rfl) rfl kl0 (c_X8_distance HL kl0 hx2) rfl (po_rtL hL rfl) (Nat.le_of_ble_eq_true rfl) rfl ?_
      refine po_min hF hL dX8_sideDistance_40 wq_1363 ⟨wq_904, wq_106, wq_905⟩ (Nat.le_of_ble_eq_true rfl) (by decide) (by decide) (by decide) ?_
      refine po_sub (L' := [(0, .ref l0), (1, .int l1), (2, .int l2), (3, .int l3), (5, .int l5)]) rfl ?_
      exact w_X8_sideDistance_43 hF hL HL h7 l0 l1 l2 l3 l5 (if (x2 : Int32) < l4 then x2 else l4) kl0 hm
    · refine po_iload hF dX8_sideDistance_24 rfl ?_
      refine po_goto (tgt := 43) hF dX8_sideDistance_26 (by decide) ?_
      refine po_sub (L' := [(0, .ref l0), (1, .int l1), (2, .int l2), (3, .int l3), (5, .int l5)]) rfl ?_
      exact w_X8_sideDistance_43 hF hL HL h7 l0 l1 l2 l3 l5 l4 kl0 hm
theorem w_X8_sideDistance_7L {X : po_X} {G : po_G} {st : Nat → Nat} {K : po_K} {I : po_I} {R : po_R} {ρ : Int32} (hF : po_F X G cX8_sideDistance RX8 6 st) (hL : po_L X (some .int) 4 0 0 "sideDistance") (HL : po_Lay K R st) : ∀ (n : Nat) (l0 : Nat) (l1 : Int32) (l2 : Int32) (l3 : Int32) (l4 : Int32) (l5 : Int32), m_X8_sideDistance_7L I n l0 l1 l2 l3 l4 l5 = some ρ → K l0 = (19, 19) → po_V X G 6 (po_Q X G (.inl (some (.int ρ))) K R I none 0 0) 0 0 7 [(0, .ref l0), (1, .int l1), (2, .int l2), (3, .int l3), (4, .int l4), (5, .int l5)] [] K R I none := by
  intro n
  induction n with
  | zero => intro l0 l1 l2 l3 l4 l5 hm; cases hm
  | succ n ih => intro l0 l1 l2 l3 l4 l5 hm kl0; exact w_X8_sideDistance_7 hF hL HL (ih) l0 l1 l2 l3 l4 l5 kl0 hm
set_option maxRecDepth 20000 in
set_option maxHeartbeats 2000000 in
theorem w_X8_sideDistance_e {X : po_X} {G : po_G} {st : Nat → Nat} {K : po_K} {I : po_I} {R : po_R} {ρ : Int32} (hF : po_F X G cX8_sideDistance RX8 6 st) (hL : po_L X (some .int) 4 0 0 "sideDistance") (HL : po_Lay K R st) (l0 : Nat) (l1 : Int32) (l2 : Int32) (l3 : Int32) (kl0 : K l0 = (19, 19)) (hm : m_X8_sideDistance_e I l0 l1 l2 l3 = some ρ) : po_V X G 6 (po_Q X G (.inl (some (.int ρ))) K R I none 0 0) 0 0 0 [(0, .ref l0), (1, .int l1), (2, .int l2), (3, .int l3)] [] K R I none := by
  unfold m_X8_sideDistance_e at hm
  refine po_bipush (v := 100) hF dX8_sideDistance_0 (by decide) ?_
  refine po_istore (L' := [(4, .int 100), (0, .ref l0), (1, .int l1), (2, .int l2), (3, .int l3)]) hF dX8_sideDistance_2 (by decide) rfl ?_
  refine po_iconst (v := 0) hF dX8_sideDistance_4 (by decide) ?_
  refine po_istore (L' := [(5, .int 0), (4, .int 100), (0, .ref l0), (1, .int l1), (2, .int l2), (3, .int l3)]) hF dX8_sideDistance_5 (by decide) rfl ?_
  refine po_sub (L' := [(0, .ref l0), (1, .int l1), (2, .int l2), (3, .int l3), (4, .int 100), (5, .int 0)]) rfl ?_
  exact w_X8_sideDistance_7L hF hL HL 5000 l0 l1 l2 l3 100 0 hm kl0
theorem c_X8_sideDistance {K : po_K} {R : po_R} {I : po_I} {st : Nat → Nat} {ρ : Int32} (HL : po_Lay K R st) {l0 : Nat} {l1 : Int32} {l2 : Int32} {l3 : Int32} (kl0 : K l0 = (19, 19)) (hm : m_X8_sideDistance I l0 l1 l2 l3 = some ρ) : po_C st yX8_sideDistance cX8_sideDistance 6 (some .int) 4 0 0 [.ref l0, .int l1, .int l2, .int l3] K R I none (.inl (some (.int ρ))) K R I none := by
  refine po_ofC (by decide +kernel) (Nat.le_of_ble_eq_true rfl) (fun X G hF hL => ?_)
  exact w_X8_sideDistance_e hF hL HL l0 l1 l2 l3 kl0 hm
set_option maxRecDepth 20000 in
set_option maxHeartbeats 2000000 in
theorem w_X8_largestFrom_81 {X : po_X} {G : po_G} {st : Nat → Nat} {K : po_K} {I : po_I} {R : po_R} {ρ : Int32} (hF : po_F X G cX8_largestFrom RX8 7 st) (hL : po_L X (some .int) 1 0 0 "largestFrom") (HL : po_Lay K R st) (l3 : Int32) (hm : m_X8_largestFrom_81 I l3 = some ρ) : po_V X G 7 (po_Q X G (.inl (some (.int ρ))) K R I none 0 0) 0 0 81 [(3, .int l3)] [] K R I none := by
  unfold m_X8_largestFrom_81 at hm
  refine po_iload_n hF dX8_largestFrom_81 rfl rfl ?_
  cases hm
  exact po_iret hF hL dX8_largestFrom_82 (by decide) (by decide) rfl rfl rfl (Or.inl rfl)
set_option maxRecDepth 20000 in
set_option maxHeartbeats 2000000 in
theorem w_X8_largestFrom_57 {X : po_X} {G : po_G} {st : Nat → Nat} {K : po_K} {I : po_I} {R : po_R} {ρ : Int32} {r11 : Nat → Int32 → Int32 → Int32 → Int32 → Int32 → Option (Int32)} (hF : po_F X G cX8_largestFrom RX8 7 st) (hL : po_L X (some .int) 1 0 0 "largestFrom") (HL : po_Lay K R st) (h11 : ∀ (l0 : Nat) (l1 : Int32) (l2 : Int32) (l3 : Int32) (l4 : Int32) (l5 : Int32), r11 l0 l1 l2 l3 l4 l5 = some ρ → K l0 = (19, 19) → po_V X G 7 (po_Q X G (.inl (some (.int ρ))) K R I none 0 0) 0 0 11 [(0, .ref l0), (1, .int l1), (2, .int l2), (3, .int l3), (4, .int l4), (5, .int l5)] [] K R I none) (l0 : Nat) (l1 : Int32) (l2 : Int32) (l3 : Int32) (l5 : Int32) (l6 : Int32) (kl0 : K l0 = (19, 19)) (hm : m_X8_largestFrom_57 I r11 l0 l1 l2 l3 l5 l6 = some ρ) : po_V X G 7 (po_Q X G (.inl (some (.int ρ))) K R I none 0 0) 0 0 57 [(0, .ref l0), (1, .int l1), (2, .int l2), (3, .int l3), (5, .int l5), (6, .int l6)] [] K R I none := by
  unfold m_X8_largestFrom_57 at hm
  refine po_iload hF dX8_largestFrom_57 rfl ?_
  refine po_istore (L' := [(4, .int l6), (0, .ref l0), (1, .int l1), (2, .int l2), (3, .int l3), (5, .int l5), (6, .int l6)]) hF dX8_largestFrom_59 (by decide) rfl ?_
  refine po_iload_n hF dX8_largestFrom_61 rfl rfl ?_
  refine po_iload hF dX8_largestFrom_62 rfl ?_
  refine po_iload hF dX8_largestFrom_64 rfl ?_
  refine po_iload_n hF dX8_largestFrom_66 rfl rfl ?_
  refine po_isub hF dX8_largestFrom_67 ?_
  refine po_iconst (v := 1) hF dX8_largestFrom_68 (by decide) ?_
  refine po_iadd hF dX8_largestFrom_69 ?_
  refine po_imul hF dX8_largestFrom_70 ?_
  refine po_max hF hL dX8_largestFrom_71 wq_1492 ⟨wq_850, wq_106, wq_851⟩ (Nat.le_of_ble_eq_true rfl) (by decide) (by decide) (by decide) ?_
  refine po_top hm (fun v1 hm => ?_)
  refine po_istore_n (L' := [(3, .int v1), (4, .int l6), (0, .ref l0), (1, .int l1), (2, .int l2), (5, .int l5), (6, .int l6)]) hF dX8_largestFrom_74 rfl (by decide) rfl ?_
  refine po_iinc (v := l5 + 1) (L' := [(5, .int (l5 + 1)), (3, .int v1), (4, .int l6), (0, .ref l0), (1, .int l1), (2, .int l2), (6, .int l6)]) hF dX8_largestFrom_75 rfl rfl (by decide) rfl ?_
  refine po_goto (tgt := 11) hF dX8_largestFrom_78 (by decide) ?_
  refine po_sub (L' := [(0, .ref l0), (1, .int l1), (2, .int l2), (3, .int v1), (4, .int l6), (5, .int (l5 + 1))]) rfl ?_
  exact h11 l0 l1 l2 v1 l6 (l5 + 1) hm kl0
set_option maxRecDepth 20000 in
set_option maxHeartbeats 2000000 in
theorem w_X8_largestFrom_26 {X : po_X} {G : po_G} {st : Nat → Nat} {K : po_K} {I : po_I} {R : po_R} {ρ : Int32} {r11 : Nat → Int32 → Int32 → Int32 → Int32 → Int32 → Option (Int32)} {r26 : Nat → Int32 → Int32 → Int32 → Int32 → Int32 → Int32 → Option (Int32)} (hF : po_F X G cX8_largestFrom RX8 7 st) (hL : po_L X (some .int) 1 0 0 "largestFrom") (HL : po_Lay K R st) (h11 : ∀ (l0 : Nat) (l1 : Int32) (l2 : Int32) (l3 : Int32) (l4 : Int32) (l5 : Int32), r11 l0 l1 l2 l3 l4 l5 = some ρ → K l0 = (19, 19) → po_V X G 7 (po_Q X G (.inl (some (.int ρ))) K R I none 0 0) 0 0 11 [(0, .ref l0), (1, .int l1), (2, .int l2), (3, .int l3), (4, .int l4), (5, .int l5)] [] K R I none) (h26 : ∀ (l0 : Nat) (l1 : Int32) (l2 : Int32) (l3 : Int32) (l4 : Int32) (l5 : Int32) (l6 : Int32), r26 l0 l1 l2 l3 l4 l5 l6 = some ρ → K l0 = (19, 19) → po_V X G 7 (po_Q X G (.inl (some (.int ρ))) K R I none 0 0) 0 0 26 [(0, .ref l0), (1, .int l1), (2, .int l2), (3, .int l3), (4, .int l4), (5, .int l5), (6, .int l6)] [] K R I none) (l0 : Nat) (l1 : Int32) (l2 : Int32) (l3 : Int32) (l4 : Int32) (l5 : Int32) (l6 : Int32) (kl0 : K l0 = (19, 19)) (hm : m_X8_largestFrom_26 I r11 r26 l0 l1 l2 l3 l4 l5 l6 = some ρ) : po_V X G 7 (po_Q X G (.inl (some (.int ρ))) K R I none 0 0) 0 0 26 [(0, .ref l0), (1, .int l1), (2, .int l2), (3, .int l3), (4, .int l4), (5, .int l5), (6, .int l6)] [] K R I none := by
  unfold m_X8_largestFrom_26 at hm
  refine po_iload hF dX8_largestFrom_26 rfl ?_
  refine po_iload hF dX8_largestFrom_28 rfl ?_
  refine po_icmp_ge (tgt := 57) hF dX8_largestFrom_30 (by decide) hm (fun hm => ?_) (fun hm => ?_)
  · refine po_sub (L' := [(0, .ref l0), (1, .int l1), (2, .int l2), (3, .int l3), (5, .int l5), (6, .int l6)]) rfl ?_
    exact w_X8_largestFrom_57 hF hL HL h11 l0 l1 l2 l3 l5 l6 kl0 hm
  · refine po_aload_n hF dX8_largestFrom_33 rfl rfl ?_
    refine po_getf (v := .ref (l0 + 7)) hF dX8_largestFrom_34 fl_X8_35 kl0 (ly_8_18 HL kl0).1 ?_
    refine po_bipush (v := 20) hF dX8_largestFrom_37 (by decide) ?_
    refine po_iload hF dX8_largestFrom_39 rfl ?_
    refine po_imul hF dX8_largestFrom_41 ?_
    refine po_iload_n hF dX8_largestFrom_42 rfl rfl ?_
    refine po_iadd hF dX8_largestFrom_43 ?_
    refine po_iload hF dX8_largestFrom_44 rfl ?_
    refine po_iadd hF dX8_largestFrom_46 ?_
    refine po_zald hF dX8_largestFrom_47 ((ly_8_18 HL kl0).2) hm (fun hm => ?_)
    refine po_if_eq (tgt := 57) hF dX8_largestFrom_48 (by decide) hm (fun hm => ?_) (fun hm => ?_)
    · refine po_sub (L' := [(0, .ref l0), (1, .int l1), (2, .int l2), (3, .int l3), (5, .int l5), (6, .int l6)]) rfl ?_
      exact w_X8_largestFrom_57 hF hL HL h11 l0 l1 l2 l3 l5 l6 kl0 hm
    · refine po_iinc (v := l6 + 1) (L' := [(6, .int (l6 + 1)), (0, .ref l0), (1, .int l1), (2, .int l2), (3, .int l3), (4, .int l4), (5, .int l5)]) hF dX8_largestFrom_51 rfl rfl (by decide) rfl ?_
      refine po_goto (tgt := 26) hF dX8_largestFrom_54 (by decide) ?_
      refine po_sub (L' := [(0, .ref l0), (1, .int l1), (2, .int l2), (3, .int l3), (4, .int l4), (5, .int l5), (6, .int (l6 + 1))]) rfl ?_
      exact h26 l0 l1 l2 l3 l4 l5 (l6 + 1) hm kl0
theorem w_X8_largestFrom_26L {X : po_X} {G : po_G} {st : Nat → Nat} {K : po_K} {I : po_I} {R : po_R} {ρ : Int32} {r11 : Nat → Int32 → Int32 → Int32 → Int32 → Int32 → Option (Int32)} (hF : po_F X G cX8_largestFrom RX8 7 st) (hL : po_L X (some .int) 1 0 0 "largestFrom") (HL : po_Lay K R st) (h11 : ∀ (l0 : Nat) (l1 : Int32) (l2 : Int32) (l3 : Int32) (l4 : Int32) (l5 : Int32), r11 l0 l1 l2 l3 l4 l5 = some ρ → K l0 = (19, 19) → po_V X G 7 (po_Q X G (.inl (some (.int ρ))) K R I none 0 0) 0 0 11 [(0, .ref l0), (1, .int l1), (2, .int l2), (3, .int l3), (4, .int l4), (5, .int l5)] [] K R I none) : ∀ (n : Nat) (l0 : Nat) (l1 : Int32) (l2 : Int32) (l3 : Int32) (l4 : Int32) (l5 : Int32) (l6 : Int32), m_X8_largestFrom_26L I r11 n l0 l1 l2 l3 l4 l5 l6 = some ρ → K l0 = (19, 19) → po_V X G 7 (po_Q X G (.inl (some (.int ρ))) K R I none 0 0) 0 0 26 [(0, .ref l0), (1, .int l1), (2, .int l2), (3, .int l3), (4, .int l4), (5, .int l5), (6, .int l6)] [] K R I none := by
  intro n
  induction n with
  | zero => intro l0 l1 l2 l3 l4 l5 l6 hm; cases hm
  | succ n ih => intro l0 l1 l2 l3 l4 l5 l6 hm kl0; exact w_X8_largestFrom_26 hF hL HL h11 (ih) l0 l1 l2 l3 l4 l5 l6 kl0 hm
set_option maxRecDepth 20000 in
set_option maxHeartbeats 2000000 in
theorem w_X8_largestFrom_11 {X : po_X} {G : po_G} {st : Nat → Nat} {K : po_K} {I : po_I} {R : po_R} {ρ : Int32} {r11 : Nat → Int32 → Int32 → Int32 → Int32 → Int32 → Option (Int32)} (hF : po_F X G cX8_largestFrom RX8 7 st) (hL : po_L X (some .int) 1 0 0 "largestFrom") (HL : po_Lay K R st) (h11 : ∀ (l0 : Nat) (l1 : Int32) (l2 : Int32) (l3 : Int32) (l4 : Int32) (l5 : Int32), r11 l0 l1 l2 l3 l4 l5 = some ρ → K l0 = (19, 19) → po_V X G 7 (po_Q X G (.inl (some (.int ρ))) K R I none 0 0) 0 0 11 [(0, .ref l0), (1, .int l1), (2, .int l2), (3, .int l3), (4, .int l4), (5, .int l5)] [] K R I none) (l0 : Nat) (l1 : Int32) (l2 : Int32) (l3 : Int32) (l4 : Int32) (l5 : Int32) (kl0 : K l0 = (19, 19)) (hm : m_X8_largestFrom_11 I r11 l0 l1 l2 l3 l4 l5 = some ρ) : po_V X G 7 (po_Q X G (.inl (some (.int ρ))) K R I none 0 0) 0 0 11 [(0, .ref l0), (1, .int l1), (2, .int l2), (3, .int l3), (4, .int l4), (5, .int l5)] [] K R I none := by
  unfold m_X8_largestFrom_11 at hm
  refine po_iload hF dX8_largestFrom_11 rfl ?_
  refine po_bipush (v := 14) hF dX8_largestFrom_13 (by decide) ?_
  refine po_icmp_ge (tgt := 81) hF dX8_largestFrom_15 (by decide) hm (fun hm => ?_) (fun hm => ?_)
  · refine po_sub (L' := [(3, .int l3)]) rfl ?_
    exact w_X8_largestFrom_81 hF hL HL l3 hm
  · refine po_iload hF dX8_largestFrom_18 rfl ?_
    refine po_if_le (tgt := 81) hF dX8_largestFrom_20 (by decide) hm (fun hm => ?_) (fun hm => ?_)
    · refine po_sub (L' := [(3, .int l3)]) rfl ?_
      exact w_X8_largestFrom_81 hF hL HL l3 hm
    · refine po_iconst (v := 0) hF dX8_largestFrom_23 (by decide) ?_
      refine po_istore (L' := [(6, .int 0), (0, .ref l0), (1, .int l1), (2, .int l2), (3, .int l3), (4, .int l4), (5, .int l5)]) hF dX8_largestFrom_24 (by decide) rfl ?_
      refine po_sub (L' := [(0, .ref l0), (1, .int l1), (2, .int l2), (3, .int l3), (4, .int l4), (5, .int l5), (6, .int 0)]) rfl ?_
      exact w_X8_largestFrom_26L hF hL HL h11 5000 l0 l1 l2 l3 l4 l5 0 hm kl0
theorem w_X8_largestFrom_11L {X : po_X} {G : po_G} {st : Nat → Nat} {K : po_K} {I : po_I} {R : po_R} {ρ : Int32} (hF : po_F X G cX8_largestFrom RX8 7 st) (hL : po_L X (some .int) 1 0 0 "largestFrom") (HL : po_Lay K R st) : ∀ (n : Nat) (l0 : Nat) (l1 : Int32) (l2 : Int32) (l3 : Int32) (l4 : Int32) (l5 : Int32), m_X8_largestFrom_11L I n l0 l1 l2 l3 l4 l5 = some ρ → K l0 = (19, 19) → po_V X G 7 (po_Q X G (.inl (some (.int ρ))) K R I none 0 0) 0 0 11 [(0, .ref l0), (1, .int l1), (2, .int l2), (3, .int l3), (4, .int l4), (5, .int l5)] [] K R I none := by
  intro n
  induction n with
  | zero => intro l0 l1 l2 l3 l4 l5 hm; cases hm
  | succ n ih => intro l0 l1 l2 l3 l4 l5 hm kl0; exact w_X8_largestFrom_11 hF hL HL (ih) l0 l1 l2 l3 l4 l5 kl0 hm
set_option maxRecDepth 20000 in
set_option maxHeartbeats 2000000 in
theorem w_X8_largestFrom_e {X : po_X} {G : po_G} {st : Nat → Nat} {K : po_K} {I : po_I} {R : po_R} {ρ : Int32} (hF : po_F X G cX8_largestFrom RX8 7 st) (hL : po_L X (some .int) 1 0 0 "largestFrom") (HL : po_Lay K R st) (l0 : Nat) (l1 : Int32) (l2 : Int32) (kl0 : K l0 = (19, 19)) (hm : m_X8_largestFrom_e I l0 l1 l2 = some ρ) : po_V X G 7 (po_Q X G (.inl (some (.int ρ))) K R I none 0 0) 0 0 0 [(0, .ref l0), (1, .int l1), (2, .int l2)] [] K R I none := by
  unfold m_X8_largestFrom_e at hm
  refine po_iconst (v := 0) hF dX8_largestFrom_0 (by decide) ?_
  refine po_istore_n (L' := [(3, .int 0), (0, .ref l0), (1, .int l1), (2, .int l2)]) hF dX8_largestFrom_1 rfl (by decide) rfl ?_
  refine po_bipush (v := 20) hF dX8_largestFrom_2 (by decide) ?_
  refine po_iload_n hF dX8_largestFrom_4 rfl rfl ?_
  refine po_isub hF dX8_largestFrom_5 ?_
  refine po_top hm (fun v2 hm => ?_)
  refine po_istore (L' := [(4, .int v2), (3, .int 0), (0, .ref l0), (1, .int l1), (2, .int l2)]) hF dX8_largestFrom_6 (by decide) rfl ?_
  refine po_iload_n hF dX8_largestFrom_8 rfl rfl ?_
  refine po_istore (L' := [(5, .int l2), (4, .int v2), (3, .int 0), (0, .ref l0), (1, .int l1), (2, .int l2)]) hF dX8_largestFrom_9 (by decide) rfl ?_
  refine po_sub (L' := [(0, .ref l0), (1, .int l1), (2, .int l2), (3, .int 0), (4, .int v2), (5, .int l2)]) rfl ?_
  exact w_X8_largestFrom_11L hF hL HL 5000 l0 l1 l2 0 v2 l2 hm kl0
theorem c_X8_largestFrom {K : po_K} {R : po_R} {I : po_I} {st : Nat → Nat} {ρ : Int32} (HL : po_Lay K R st) {l0 : Nat} {l1 : Int32} {l2 : Int32} (kl0 : K l0 = (19, 19)) (hm : m_X8_largestFrom I l0 l1 l2 = some ρ) : po_C st yX8_largestFrom cX8_largestFrom 7 (some .int) 1 0 0 [.ref l0, .int l1, .int l2] K R I none (.inl (some (.int ρ))) K R I none := by
  refine po_ofC (by decide +kernel) (Nat.le_of_ble_eq_true rfl) (fun X G hF hL => ?_)
  exact w_X8_largestFrom_e hF hL HL l0 l1 l2 kl0 hm
set_option maxRecDepth 20000 in
set_option maxHeartbeats 2000000 in
theorem w_X8_largest_155 {X : po_X} {G : po_G} {st : Nat → Nat} {K : po_K} {R : po_R} {ρ : Int32 × po_I} {r155 : po_I → Nat → Int32 → Int32 → Option (Int32 × po_I)} (hF : po_F X G cX8_largest RX8 7 st) (hL : po_L X (some .int) 5 0 0 "largest") (HL : po_Lay K R st) (h155 : ∀ (I : po_I) (l0 : Nat) (l4 : Int32) (l5 : Int32), r155 I l0 l4 l5 = some ρ → K l0 = (19, 19) → po_V X G 7 (po_Q X G (.inl (some (.int ρ.1))) K R (ρ.2) none 0 0) 0 0 155 [(0, .ref l0), (4, .int l4), (5, .int l5)] [] K R I none) (I : po_I) (l0 : Nat) (l4 : Int32) (l5 : Int32) (kl0 : K l0 = (19, 19)) (hm : m_X8_largest_155 r155 I l0 l4 l5 = some ρ) : po_V X G 7 (po_Q X G (.inl (some (.int ρ.1))) K R (ρ.2) none 0 0) 0 0 155 [(0, .ref l0), (4, .int l4), (5, .int l5)] [] K R I none := by
  unfold m_X8_largest_155 at hm
  refine po_iload hF dX8_largest_155 rfl ?_
  refine po_sipush (v := 280) hF dX8_largest_157 (by decide) ?_
  refine po_icmp_ge (tgt := 190) hF dX8_largest_160 (by decide) hm (fun hm => ?_) (fun hm => ?_)
  · refine po_iload hF dX8_largest_190 rfl ?_
    cases hm
    exact po_iret hF hL dX8_largest_192 (by decide) (by decide) rfl rfl rfl (Or.inl rfl)
  · refine po_iload hF dX8_largest_163 rfl ?_
    refine po_aload_n hF dX8_largest_165 rfl rfl ?_
    refine po_iload hF dX8_largest_166 rfl ?_
    refine po_bipush (v := 20) hF dX8_largest_168 (by decide) ?_
    refine po_iremK hF dX8_largest_170 (by decide) ?_
    refine po_iload hF dX8_largest_171 rfl ?_
    refine po_bipush (v := 20) hF dX8_largest_173 (by decide) ?_
    refine po_idivK hF dX8_largest_175 (by decide) ?_
    obtain ⟨x1, hx1, hm⟩ := po_bind hm
    refine po_callV (As := [.int (l5 - l5 / 20 * 20), .int (l5 / 20)]) hF dX8_largest_176 wq_1505 mv_X8_largestFrom ws_X8_largestFrom (show po_cl[8]? = some _ from rfl) rfl kl0 (c_X8_largestFrom HL kl0 hx1) rfl (po_rtL hL rfl) (Nat.le_of_ble_eq_true rfl) rfl ?_
    refine po_max hF hL dX8_largest_179 wq_1492 ⟨wq_850, wq_106, wq_851⟩ (Nat.le_of_ble_eq_true rfl) (by decide) (by decide) (by decide) ?_
    refine po_top hm (fun v2 hm => ?_)
    refine po_istore (L' := [(4, .int v2), (0, .ref l0), (5, .int l5)]) hF dX8_largest_182 (by decide) rfl ?_
    refine po_iinc (v := l5 + 1) (L' := [(5, .int (l5 + 1)), (4, .int v2), (0, .ref l0)]) hF dX8_largest_184 rfl rfl (by decide) rfl ?_
    refine po_goto (tgt := 155) hF dX8_largest_187 (by decide) ?_
    refine po_sub (L' := [(0, .ref l0), (4, .int v2), (5, .int (l5 + 1))]) rfl ?_
    exact h155 I l0 v2 (l5 + 1) hm kl0
theorem w_X8_largest_155L {X : po_X} {G : po_G} {st : Nat → Nat} {K : po_K} {R : po_R} {ρ : Int32 × po_I} (hF : po_F X G cX8_largest RX8 7 st) (hL : po_L X (some .int) 5 0 0 "largest") (HL : po_Lay K R st) : ∀ (n : Nat) (I : po_I) (l0 : Nat) (l4 : Int32) (l5 : Int32), m_X8_largest_155L n I l0 l4 l5 = some ρ → K l0 = (19, 19) → po_V X G 7 (po_Q X G (.inl (some (.int ρ.1))) K R (ρ.2) none 0 0) 0 0 155 [(0, .ref l0), (4, .int l4), (5, .int l5)] [] K R I none := by
  intro n
  induction n with
  | zero => intro I l0 l4 l5 hm; cases hm
  | succ n ih => intro I l0 l4 l5 hm kl0; exact w_X8_largest_155 hF hL HL (ih) I l0 l4 l5 kl0 hm
set_option maxRecDepth 20000 in
set_option maxHeartbeats 2000000 in
theorem w_X8_largest_142 {X : po_X} {G : po_G} {st : Nat → Nat} {K : po_K} {R : po_R} {ρ : Int32 × po_I} {r58 : po_I → Nat → Int32 → Int32 → Int32 → Int32 → Option (Int32 × po_I)} (hF : po_F X G cX8_largest RX8 7 st) (hL : po_L X (some .int) 5 0 0 "largest") (HL : po_Lay K R st) (h58 : ∀ (I : po_I) (l0 : Nat) (l1 : Int32) (l2 : Int32) (l3 : Int32) (l4 : Int32), r58 I l0 l1 l2 l3 l4 = some ρ → K l0 = (19, 19) → po_V X G 7 (po_Q X G (.inl (some (.int ρ.1))) K R (ρ.2) none 0 0) 0 0 58 [(0, .ref l0), (1, .int l1), (2, .int l2), (3, .int l3), (4, .int l4)] [] K R I none) (I : po_I) (l0 : Nat) (l1 : Int32) (l2 : Int32) (l3 : Int32) (l4 : Int32) (s0 : Nat) (s1 : Int32) (s2 : Int32) (kl0 : K l0 = (19, 19)) (ks0 : K s0 = (4, 280)) (hm : m_X8_largest_142 r58 I l0 l1 l2 l3 l4 s0 s1 s2 = some ρ) : po_V X G 7 (po_Q X G (.inl (some (.int ρ.1))) K R (ρ.2) none 0 0) 0 0 142 [(0, .ref l0), (1, .int l1), (2, .int l2), (3, .int l3), (4, .int l4)] [.int s2, .int s1, .ref s0] K R I none := by
  unfold m_X8_largest_142 at hm
  refine po_zast hF dX8_largest_142 ks0 hm rfl (fun hm => ?_)
  refine po_hname hm (fun I3 hm => ?_)
  refine po_iinc (v := l4 + 1) (L' := [(4, .int (l4 + 1)), (0, .ref l0), (1, .int l1), (2, .int l2), (3, .int l3)]) hF dX8_largest_143 rfl rfl (by decide) rfl ?_
  refine po_goto (tgt := 58) hF dX8_largest_146 (by decide) ?_
  refine po_sub (L' := [(0, .ref l0), (1, .int l1), (2, .int l2), (3, .int l3), (4, .int (l4 + 1))]) rfl ?_
  exact h58 I3 l0 l1 l2 l3 (l4 + 1) hm kl0
set_option maxRecDepth 20000 in
set_option maxHeartbeats 2000000 in
theorem w_X8_largest_141 {X : po_X} {G : po_G} {st : Nat → Nat} {K : po_K} {R : po_R} {ρ : Int32 × po_I} {r58 : po_I → Nat → Int32 → Int32 → Int32 → Int32 → Option (Int32 × po_I)} (hF : po_F X G cX8_largest RX8 7 st) (hL : po_L X (some .int) 5 0 0 "largest") (HL : po_Lay K R st) (h58 : ∀ (I : po_I) (l0 : Nat) (l1 : Int32) (l2 : Int32) (l3 : Int32) (l4 : Int32), r58 I l0 l1 l2 l3 l4 = some ρ → K l0 = (19, 19) → po_V X G 7 (po_Q X G (.inl (some (.int ρ.1))) K R (ρ.2) none 0 0) 0 0 58 [(0, .ref l0), (1, .int l1), (2, .int l2), (3, .int l3), (4, .int l4)] [] K R I none) (I : po_I) (l0 : Nat) (l1 : Int32) (l2 : Int32) (l3 : Int32) (l4 : Int32) (s0 : Nat) (s1 : Int32) (kl0 : K l0 = (19, 19)) (ks0 : K s0 = (4, 280)) (hm : m_X8_largest_141 r58 I l0 l1 l2 l3 l4 s0 s1 = some ρ) : po_V X G 7 (po_Q X G (.inl (some (.int ρ.1))) K R (ρ.2) none 0 0) 0 0 141 [(0, .ref l0), (1, .int l1), (2, .int l2), (3, .int l3), (4, .int l4)] [.int s1, .ref s0] K R I none := by
  unfold m_X8_largest_141 at hm
  refine po_iconst (v := 0) hF dX8_largest_141 (by decide) ?_
  exact w_X8_largest_142 hF hL HL h58 I l0 l1 l2 l3 l4 s0 s1 0 kl0 ks0 hm
set_option maxRecDepth 20000 in
set_option maxHeartbeats 2000000 in
theorem w_X8_largest_58 {X : po_X} {G : po_G} {st : Nat → Nat} {K : po_K} {R : po_R} {ρ : Int32 × po_I} {r58 : po_I → Nat → Int32 → Int32 → Int32 → Int32 → Option (Int32 × po_I)} (hF : po_F X G cX8_largest RX8 7 st) (hL : po_L X (some .int) 5 0 0 "largest") (HL : po_Lay K R st) (h58 : ∀ (I : po_I) (l0 : Nat) (l1 : Int32) (l2 : Int32) (l3 : Int32) (l4 : Int32), r58 I l0 l1 l2 l3 l4 = some ρ → K l0 = (19, 19) → po_V X G 7 (po_Q X G (.inl (some (.int ρ.1))) K R (ρ.2) none 0 0) 0 0 58 [(0, .ref l0), (1, .int l1), (2, .int l2), (3, .int l3), (4, .int l4)] [] K R I none) (I : po_I) (l0 : Nat) (l1 : Int32) (l2 : Int32) (l3 : Int32) (l4 : Int32) (kl0 : K l0 = (19, 19)) (hm : m_X8_largest_58 r58 I l0 l1 l2 l3 l4 = some ρ) : po_V X G 7 (po_Q X G (.inl (some (.int ρ.1))) K R (ρ.2) none 0 0) 0 0 58 [(0, .ref l0), (1, .int l1), (2, .int l2), (3, .int l3), (4, .int l4)] [] K R I none := by
  unfold m_X8_largest_58 at hm
  refine po_iload hF dX8_largest_58 rfl ?_
  refine po_sipush (v := 280) hF dX8_largest_60 (by decide) ?_
  refine po_icmp_ge (tgt := 149) hF dX8_largest_63 (by decide) hm (fun hm => ?_) (fun hm => ?_)
  · refine po_iconst (v := 0) hF dX8_largest_149 (by decide) ?_
    refine po_istore (L' := [(4, .int 0), (0, .ref l0), (1, .int l1), (2, .int l2), (3, .int l3)]) hF dX8_largest_150 (by decide) rfl ?_
    refine po_iconst (v := 0) hF dX8_largest_152 (by decide) ?_
    refine po_istore (L' := [(5, .int 0), (4, .int 0), (0, .ref l0), (1, .int l1), (2, .int l2), (3, .int l3)]) hF dX8_largest_153 (by decide) rfl ?_
    refine po_sub (L' := [(0, .ref l0), (4, .int 0), (5, .int 0)]) rfl ?_
    exact w_X8_largest_155L hF hL HL 5000 I l0 0 0 hm kl0
  · refine po_iload hF dX8_largest_66 rfl ?_
    refine po_bipush (v := 20) hF dX8_largest_68 (by decide) ?_
    refine po_iremK hF dX8_largest_70 (by decide) ?_
    refine po_top hm (fun v4 hm => ?_)
    refine po_istore (L' := [(5, .int v4), (0, .ref l0), (1, .int l1), (2, .int l2), (3, .int l3), (4, .int l4)]) hF dX8_largest_71 (by decide) rfl ?_
    refine po_iload hF dX8_largest_73 rfl ?_
    refine po_bipush (v := 20) hF dX8_largest_75 (by decide) ?_
    refine po_idivK hF dX8_largest_77 (by decide) ?_
    refine po_top hm (fun v5 hm => ?_)
    refine po_istore (L' := [(6, .int v5), (5, .int v4), (0, .ref l0), (1, .int l1), (2, .int l2), (3, .int l3), (4, .int l4)]) hF dX8_largest_78 (by decide) rfl ?_
    refine po_aload_n hF dX8_largest_80 rfl rfl ?_
    refine po_getf (v := .ref (l0 + 7)) hF dX8_largest_81 fl_X8_35 kl0 (ly_8_18 HL kl0).1 ?_
    refine po_iload hF dX8_largest_84 rfl ?_
    refine po_aload_n hF dX8_largest_86 rfl rfl ?_
    refine po_iload_n hF dX8_largest_87 rfl rfl ?_
    refine po_iload hF dX8_largest_88 rfl ?_
    refine po_iload hF dX8_largest_90 rfl ?_
    obtain ⟨x6, hx6, hm⟩ := po_bind hm
    refine po_callV (As := [.int l1, .int v4, .int v5]) hF dX8_largest_92 wq_1347 mv_X8_isInLot ws_X8_isInLot (show po_cl[8]? = some _ from rfl) rfl kl0 (c_X8_isInLot HL kl0 hx6) rfl (po_rtL hL rfl) (Nat.le_of_ble_eq_true rfl) rfl ?_
    refine po_if_eq (tgt := 141) hF dX8_largest_95 (by decide) hm (fun hm => ?_) (fun hm => ?_)
    · refine po_sub (L' := [(0, .ref l0), (1, .int l1), (2, .int l2), (3, .int l3), (4, .int l4)]) rfl ?_
      exact w_X8_largest_141 hF hL HL h58 I l0 l1 l2 l3 l4 (l0 + 7) l4 kl0 ((ly_8_18 HL kl0).2) hm
    · refine po_aload_n hF dX8_largest_98 rfl rfl ?_
      refine po_iload_n hF dX8_largest_99 rfl rfl ?_
      refine po_iload hF dX8_largest_100 rfl ?_
      refine po_iload hF dX8_largest_102 rfl ?_
      refine po_iconst (v := (-1)) hF dX8_largest_104 (by decide) ?_
      obtain ⟨x7, hx7, hm⟩ := po_bind hm
      refine po_callV (As := [.int l1, .int v4, .int v5, .int (-1)]) hF dX8_largest_105 wq_1446 mv_X8_isBuilt ws_X8_isBuilt (show po_cl[8]? = some _ from rfl) rfl kl0 (c_X8_isBuilt HL kl0 hx7) rfl (po_rtL hL rfl) (Nat.le_of_ble_eq_true rfl) rfl ?_
      refine po_if_ne (tgt := 141) hF dX8_largest_108 (by decide) hm (fun hm => ?_) (fun hm => ?_)
      · refine po_sub (L' := [(0, .ref l0), (1, .int l1), (2, .int l2), (3, .int l3), (4, .int l4)]) rfl ?_
        exact w_X8_largest_141 hF hL HL h58 I l0 l1 l2 l3 l4 (l0 + 7) l4 kl0 ((ly_8_18 HL kl0).2) hm
      · refine po_aload_n hF dX8_largest_111 rfl rfl ?_
        refine po_iload_n hF dX8_largest_112 rfl rfl ?_
        refine po_iload hF dX8_largest_113 rfl ?_
        refine po_iload hF dX8_largest_115 rfl ?_
        obtain ⟨x8, hx8, hm⟩ := po_bind hm
        refine po_callV (As := [.int l1, .int v4, .int v5]) hF dX8_largest_117 wq_1497 mv_X8_frontDistance ws_X8_frontDistance (show po_cl[8]? = some _ from rfl) rfl kl0 (c_X8_frontDistance HL kl0 hx8) rfl (po_rtL hL rfl) (Nat.le_of_ble_eq_true rfl) rfl ?_
        refine po_iload_n hF dX8_largest_120 rfl rfl ?_
        refine po_icmp_lt (tgt := 141) hF dX8_largest_121 (by decide) hm (fun hm => ?_) (fun hm => ?_)
        · refine po_sub (L' := [(0, .ref l0), (1, .int l1), (2, .int l2), (3, .int l3), (4, .int l4)]) rfl ?_
          exact w_X8_largest_141 hF hL HL h58 I l0 l1 l2 l3 l4 (l0 + 7) l4 kl0 ((ly_8_18 HL kl0).2) hm
        · refine po_aload_n hF dX8_largest_124 rfl rfl ?_
          refine po_iload_n hF dX8_largest_125 rfl rfl ?_
          refine po_iload hF dX8_largest_126 rfl ?_
          refine po_iload hF dX8_largest_128 rfl ?_
          obtain ⟨x9, hx9, hm⟩ := po_bind hm
          refine po_callV (As := [.int l1, .int v4, .int v5]) hF dX8_largest_130 wq_1501 mv_X8_sideDistance ws_X8_sideDistance (show po_cl[8]? = some _ from rfl) rfl kl0 (c_X8_sideDistance HL kl0 hx9) rfl (po_rtL hL rfl) (Nat.le_of_ble_eq_true rfl) rfl ?_
          refine po_iload_n hF dX8_largest_133 rfl rfl ?_
          refine po_icmp_lt (tgt := 141) hF dX8_largest_134 (by decide) hm (fun hm => ?_) (fun hm => ?_)
          · refine po_sub (L' := [(0, .ref l0), (1, .int l1), (2, .int l2), (3, .int l3), (4, .int l4)]) rfl ?_
            exact w_X8_largest_141 hF hL HL h58 I l0 l1 l2 l3 l4 (l0 + 7) l4 kl0 ((ly_8_18 HL kl0).2) hm
          · refine po_iconst (v := 1) hF dX8_largest_137 (by decide) ?_
            refine po_goto (tgt := 142) hF dX8_largest_138 (by decide) ?_
            refine po_sub (L' := [(0, .ref l0), (1, .int l1), (2, .int l2), (3, .int l3), (4, .int l4)]) rfl ?_
            exact w_X8_largest_142 hF hL HL h58 I l0 l1 l2 l3 l4 (l0 + 7) l4 1 kl0 ((ly_8_18 HL kl0).2) hm
theorem w_X8_largest_58L {X : po_X} {G : po_G} {st : Nat → Nat} {K : po_K} {R : po_R} {ρ : Int32 × po_I} (hF : po_F X G cX8_largest RX8 7 st) (hL : po_L X (some .int) 5 0 0 "largest") (HL : po_Lay K R st) : ∀ (n : Nat) (I : po_I) (l0 : Nat) (l1 : Int32) (l2 : Int32) (l3 : Int32) (l4 : Int32), m_X8_largest_58L n I l0 l1 l2 l3 l4 = some ρ → K l0 = (19, 19) → po_V X G 7 (po_Q X G (.inl (some (.int ρ.1))) K R (ρ.2) none 0 0) 0 0 58 [(0, .ref l0), (1, .int l1), (2, .int l2), (3, .int l3), (4, .int l4)] [] K R I none := by
  intro n
  induction n with
  | zero => intro I l0 l1 l2 l3 l4 hm; cases hm
  | succ n ih => intro I l0 l1 l2 l3 l4 hm kl0; exact w_X8_largest_58 hF hL HL (ih) I l0 l1 l2 l3 l4 kl0 hm
set_option maxRecDepth 20000 in
set_option maxHeartbeats 2000000 in
theorem w_X8_largest_e {X : po_X} {G : po_G} {st : Nat → Nat} {K : po_K} {R : po_R} {ρ : Int32 × po_I} (hF : po_F X G cX8_largest RX8 7 st) (hL : po_L X (some .int) 5 0 0 "largest") (HL : po_Lay K R st) (I : po_I) (l0 : Nat) (l1 : Int32) (kl0 : K l0 = (19, 19)) (hm : m_X8_largest_e I l0 l1 = some ρ) : po_V X G 7 (po_Q X G (.inl (some (.int ρ.1))) K R (ρ.2) none 0 0) 0 0 0 [(0, .ref l0), (1, .int l1)] [] K R I none := by
  unfold m_X8_largest_e at hm
  refine po_aload_n hF dX8_largest_0 rfl rfl ?_
  refine po_iconst (v := 0) hF dX8_largest_1 (by decide) ?_
  refine po_puti hF dX8_largest_2 fl_X8_1 kl0 (by intro r h; cases h; rfl) rfl rfl (fun _ => rfl) rfl ?_
  refine po_hname hm (fun I10 hm => ?_)
  refine po_aload_n hF dX8_largest_5 rfl rfl ?_
  refine po_iload_n hF dX8_largest_6 rfl rfl ?_
  obtain ⟨x11, hx11, hm⟩ := po_bind hm
  refine po_callV (As := [.int l1]) hF dX8_largest_7 wq_1430 mv_X8_isLot ws_X8_isLot (show po_cl[8]? = some _ from rfl) rfl kl0 (c_X8_isLot HL kl0 hx11) rfl (po_rtL hL rfl) (Nat.le_of_ble_eq_true rfl) rfl ?_
  refine po_if_ne (tgt := 19) hF dX8_largest_10 (by decide) hm (fun hm => ?_) (fun hm => ?_)
  · refine po_aload_n hF dX8_largest_19 rfl rfl ?_
    refine po_getf (v := .ref (l0 + 1)) hF dX8_largest_20 fl_X8_13 kl0 (ly_8_1 HL kl0).1 ?_
    refine po_iconst (v := 4) hF dX8_largest_23 (by decide) ?_
    refine po_bipush (v := 7) hF dX8_largest_24 (by decide) ?_
    refine po_aload_n hF dX8_largest_26 rfl rfl ?_
    refine po_iload_n hF dX8_largest_27 rfl rfl ?_
    refine po_iconst (v := 0) hF dX8_largest_28 (by decide) ?_
    obtain ⟨x12, hx12, hm⟩ := po_bind hm
    refine po_callV (As := [.int l1, .int 0]) hF dX8_largest_29 wq_1434 mv_X8_lotPart ws_X8_lotPart (show po_cl[8]? = some _ from rfl) rfl kl0 (c_X8_lotPart HL kl0 hx12) rfl (po_rtL hL rfl) (Nat.le_of_ble_eq_true rfl) rfl ?_
    refine po_imul hF dX8_largest_32 ?_
    refine po_iadd hF dX8_largest_33 ?_
    refine po_iald hF dX8_largest_34 ((ly_8_1 HL kl0).2) (Or.inl rfl) hm (fun hm => ?_)
    refine po_top hm (fun v13 hm => ?_)
    refine po_istore_n (L' := [(2, .int v13), (0, .ref l0), (1, .int l1)]) hF dX8_largest_35 rfl (by decide) rfl ?_
    refine po_aload_n hF dX8_largest_36 rfl rfl ?_
    refine po_getf (v := .ref (l0 + 1)) hF dX8_largest_37 fl_X8_13 kl0 (ly_8_1 HL kl0).1 ?_
    refine po_iconst (v := 4) hF dX8_largest_40 (by decide) ?_
    refine po_bipush (v := 7) hF dX8_largest_41 (by decide) ?_
    refine po_aload_n hF dX8_largest_43 rfl rfl ?_
    refine po_iload_n hF dX8_largest_44 rfl rfl ?_
    refine po_iconst (v := 0) hF dX8_largest_45 (by decide) ?_
    obtain ⟨x14, hx14, hm⟩ := po_bind hm
    refine po_callV (As := [.int l1, .int 0]) hF dX8_largest_46 wq_1434 mv_X8_lotPart ws_X8_lotPart (show po_cl[8]? = some _ from rfl) rfl kl0 (c_X8_lotPart HL kl0 hx14) rfl (po_rtL hL rfl) (Nat.le_of_ble_eq_true rfl) rfl ?_
    refine po_imul hF dX8_largest_49 ?_
    refine po_iadd hF dX8_largest_50 ?_
    refine po_iconst (v := 1) hF dX8_largest_51 (by decide) ?_
    refine po_iadd hF dX8_largest_52 ?_
    refine po_iald hF dX8_largest_53 ((ly_8_1 HL kl0).2) (Or.inl rfl) hm (fun hm => ?_)
    refine po_top hm (fun v15 hm => ?_)
    refine po_istore_n (L' := [(3, .int v15), (2, .int v13), (0, .ref l0), (1, .int l1)]) hF dX8_largest_54 rfl (by decide) rfl ?_
    refine po_iconst (v := 0) hF dX8_largest_55 (by decide) ?_
    refine po_istore (L' := [(4, .int 0), (3, .int v15), (2, .int v13), (0, .ref l0), (1, .int l1)]) hF dX8_largest_56 (by decide) rfl ?_
    refine po_sub (L' := [(0, .ref l0), (1, .int l1), (2, .int v13), (3, .int v15), (4, .int 0)]) rfl ?_
    exact w_X8_largest_58L hF hL HL 5000 I10 l0 l1 v13 v15 0 hm kl0
  · refine po_aload_n hF dX8_largest_13 rfl rfl ?_
    refine po_iconst (v := 1) hF dX8_largest_14 (by decide) ?_
    obtain ⟨x16, hx16, hm⟩ := po_bind hm
    refine po_callV (As := [.int 1]) hF dX8_largest_15 wq_1285 mv_X8_fail ws_X8_fail (show po_cl[8]? = some _ from rfl) rfl kl0 (c_X8_fail HL kl0 hx16) rfl (po_rtL hL rfl) (Nat.le_of_ble_eq_true rfl) rfl ?_
    cases hm
    exact po_iret hF hL dX8_largest_18 (by decide) (by decide) rfl rfl rfl (Or.inl rfl)
theorem c_X8_largest {K : po_K} {R : po_R} {I : po_I} {st : Nat → Nat} {ρ : Int32 × po_I} (HL : po_Lay K R st) {l0 : Nat} {l1 : Int32} (kl0 : K l0 = (19, 19)) (hm : m_X8_largest I l0 l1 = some ρ) : po_C st yX8_largest cX8_largest 7 (some .int) 5 0 0 [.ref l0, .int l1] K R I none (.inl (some (.int ρ.1))) K R (ρ.2) none := by
  refine po_ofC (by decide +kernel) (Nat.le_of_ble_eq_true rfl) (fun X G hF hL => ?_)
  exact w_X8_largest_e hF hL HL I l0 l1 kl0 hm
set_option maxRecDepth 20000 in
set_option maxHeartbeats 2000000 in
theorem w_X8_isPermit_e {X : po_X} {G : po_G} {st : Nat → Nat} {K : po_K} {I : po_I} {R : po_R} {ρ : Int32} (hF : po_F X G cX8_isPermit RX8 2 st) (hL : po_L X (some .boolean) 1 0 0 "isPermit") (HL : po_Lay K R st) (l0 : Nat) (l1 : Int32) (kl0 : K l0 = (19, 19)) (hm : m_X8_isPermit_e I l0 l1 = some ρ) : po_V X G 2 (po_Q X G (.inl (some (.int ρ))) K R I none 0 0) 0 0 0 [(0, .ref l0), (1, .int l1)] [] K R I none := by
  unfold m_X8_isPermit_e at hm
  refine po_iload_n hF dX8_isPermit_0 rfl rfl ?_
  refine po_iconst (v := 0) hF dX8_isPermit_1 (by decide) ?_
  refine po_aload_n hF dX8_isPermit_2 rfl rfl ?_
  refine po_getf (v := .ref (l0 + 1)) hF dX8_isPermit_3 fl_X8_13 kl0 (ly_8_1 HL kl0).1 ?_
  refine po_iconst (v := 2) hF dX8_isPermit_6 (by decide) ?_
  refine po_ialdC (j := 2) hF dX8_isPermit_7 ((ly_8_1 HL kl0).2) (Or.inl rfl) (by decide) (by decide) (by decide) ?_
  refine po_iconst (v := 1) hF dX8_isPermit_8 (by decide) ?_
  refine po_isub hF dX8_isPermit_9 ?_
  obtain ⟨x1, hx1, hm⟩ := po_bind hm
  refine po_callS (As := [.int l1, .int 0, .int ((I (l0 + 1) 2) - 1)]) hF dX8_isPermit_10 wq_1282 mv_X8_isIn (c_X8_isIn HL hx1) rfl (po_rtL hL rfl) (Nat.le_of_ble_eq_true rfl) rfl ?_
  obtain ⟨hz, hm⟩ := po_zif hm
  cases hm
  exact po_zret hF hL dX8_isPermit_13 (po_nz hz) (by decide) (by decide) rfl rfl rfl (Or.inl rfl)
theorem c_X8_isPermit {K : po_K} {R : po_R} {I : po_I} {st : Nat → Nat} {ρ : Int32} (HL : po_Lay K R st) {l0 : Nat} {l1 : Int32} (kl0 : K l0 = (19, 19)) (hm : m_X8_isPermit I l0 l1 = some ρ) : po_C st yX8_isPermit cX8_isPermit 2 (some .boolean) 1 0 0 [.ref l0, .int l1] K R I none (.inl (some (.int ρ))) K R I none := by
  refine po_ofC (by decide +kernel) (Nat.le_of_ble_eq_true rfl) (fun X G hF hL => ?_)
  exact w_X8_isPermit_e hF hL HL l0 l1 kl0 hm
set_option maxRecDepth 20000 in
set_option maxHeartbeats 2000000 in
theorem w_X8_conditionPart_44 {X : po_X} {G : po_G} {st : Nat → Nat} {K : po_K} {I : po_I} {R : po_R} {ρ : Int32} (hF : po_F X G cX8_conditionPart RX8 5 st) (hL : po_L X (some .int) 1 0 0 "conditionPart") (HL : po_Lay K R st) (s0 : Int32) (hm : m_X8_conditionPart_44 I s0 = some ρ) : po_V X G 5 (po_Q X G (.inl (some (.int ρ))) K R I none 0 0) 0 0 44 [] [.int s0] K R I none := by
  unfold m_X8_conditionPart_44 at hm
  cases hm
  exact po_iret hF hL dX8_conditionPart_44 (by decide) (by decide) rfl rfl rfl (Or.inl rfl)
set_option maxRecDepth 20000 in
set_option maxHeartbeats 2000000 in
theorem w_X8_conditionPart_e {X : po_X} {G : po_G} {st : Nat → Nat} {K : po_K} {I : po_I} {R : po_R} {ρ : Int32} (hF : po_F X G cX8_conditionPart RX8 5 st) (hL : po_L X (some .int) 1 0 0 "conditionPart") (HL : po_Lay K R st) (l0 : Nat) (l1 : Int32) (l2 : Int32) (l3 : Int32) (kl0 : K l0 = (19, 19)) (hm : m_X8_conditionPart_e I l0 l1 l2 l3 = some ρ) : po_V X G 5 (po_Q X G (.inl (some (.int ρ))) K R I none 0 0) 0 0 0 [(0, .ref l0), (1, .int l1), (2, .int l2), (3, .int l3)] [] K R I none := by
  unfold m_X8_conditionPart_e at hm
  refine po_aload_n hF dX8_conditionPart_0 rfl rfl ?_
  refine po_iload_n hF dX8_conditionPart_1 rfl rfl ?_
  refine po_bipush (v := 29) hF dX8_conditionPart_2 (by decide) ?_
  refine po_iload_n hF dX8_conditionPart_4 rfl rfl ?_
  refine po_iadd hF dX8_conditionPart_5 ?_
  obtain ⟨x1, hx1, hm⟩ := po_bind hm
  refine po_callV (As := [.int l1, .int (29 + l2)]) hF dX8_conditionPart_6 wq_1380 mv_X8_at ws_X8_at (show po_cl[8]? = some _ from rfl) rfl kl0 (c_X8_at HL kl0 hx1) rfl (po_rtL hL rfl) (Nat.le_of_ble_eq_true rfl) rfl ?_
  refine po_istore (L' := [(4, .int x1), (0, .ref l0), (1, .int l1), (2, .int l2), (3, .int l3)]) hF dX8_conditionPart_9 (by decide) rfl ?_
  refine po_iload_n hF dX8_conditionPart_11 rfl rfl ?_
  refine po_if_ne (tgt := 24) hF dX8_conditionPart_12 (by decide) hm (fun hm => ?_) (fun hm => ?_)
  · refine po_iload_n hF dX8_conditionPart_24 rfl rfl ?_
    refine po_iconst (v := 1) hF dX8_conditionPart_25 (by decide) ?_
    refine po_icmp_ne (tgt := 40) hF dX8_conditionPart_26 (by decide) hm (fun hm => ?_) (fun hm => ?_)
    · refine po_iload hF dX8_conditionPart_40 rfl ?_
      refine po_iconst (v := 2) hF dX8_conditionPart_42 (by decide) ?_
      refine po_iremK hF dX8_conditionPart_43 (by decide) ?_
      refine po_sub (L' := []) rfl ?_
      exact w_X8_conditionPart_44 hF hL HL (x1 - x1 / 2 * 2) hm
    · refine po_iload hF dX8_conditionPart_29 rfl ?_
      refine po_iconst (v := 2) hF dX8_conditionPart_31 (by decide) ?_
      refine po_idivK hF dX8_conditionPart_32 (by decide) ?_
      refine po_sipush (v := 500) hF dX8_conditionPart_33 (by decide) ?_
      refine po_iremK hF dX8_conditionPart_36 (by decide) ?_
      refine po_goto (tgt := 44) hF dX8_conditionPart_37 (by decide) ?_
      refine po_sub (L' := []) rfl ?_
      exact w_X8_conditionPart_44 hF hL HL ((x1 / 2) - (x1 / 2) / 500 * 500) hm
  · refine po_iload hF dX8_conditionPart_15 rfl ?_
    refine po_sipush (v := 1000) hF dX8_conditionPart_17 (by decide) ?_
    refine po_idivK hF dX8_conditionPart_20 (by decide) ?_
    refine po_goto (tgt := 44) hF dX8_conditionPart_21 (by decide) ?_
    refine po_sub (L' := []) rfl ?_
    exact w_X8_conditionPart_44 hF hL HL (x1 / 1000) hm
theorem c_X8_conditionPart {K : po_K} {R : po_R} {I : po_I} {st : Nat → Nat} {ρ : Int32} (HL : po_Lay K R st) {l0 : Nat} {l1 : Int32} {l2 : Int32} {l3 : Int32} (kl0 : K l0 = (19, 19)) (hm : m_X8_conditionPart I l0 l1 l2 l3 = some ρ) : po_C st yX8_conditionPart cX8_conditionPart 5 (some .int) 1 0 0 [.ref l0, .int l1, .int l2, .int l3] K R I none (.inl (some (.int ρ))) K R I none := by
  refine po_ofC (by decide +kernel) (Nat.le_of_ble_eq_true rfl) (fun X G hF hL => ?_)
  exact w_X8_conditionPart_e hF hL HL l0 l1 l2 l3 kl0 hm
set_option maxRecDepth 20000 in
set_option maxHeartbeats 2000000 in
theorem w_X8_openConditions_4 {X : po_X} {G : po_G} {st : Nat → Nat} {K : po_K} {I : po_I} {R : po_R} {ρ : Int32} {r4 : Nat → Int32 → Int32 → Int32 → Option (Int32)} (hF : po_F X G cX8_openConditions RX8 4 st) (hL : po_L X (some .int) 2 0 0 "openConditions") (HL : po_Lay K R st) (h4 : ∀ (l0 : Nat) (l1 : Int32) (l2 : Int32) (l3 : Int32), r4 l0 l1 l2 l3 = some ρ → K l0 = (19, 19) → po_V X G 4 (po_Q X G (.inl (some (.int ρ))) K R I none 0 0) 0 0 4 [(0, .ref l0), (1, .int l1), (2, .int l2), (3, .int l3)] [] K R I none) (l0 : Nat) (l1 : Int32) (l2 : Int32) (l3 : Int32) (kl0 : K l0 = (19, 19)) (hm : m_X8_openConditions_4 I r4 l0 l1 l2 l3 = some ρ) : po_V X G 4 (po_Q X G (.inl (some (.int ρ))) K R I none 0 0) 0 0 4 [(0, .ref l0), (1, .int l1), (2, .int l2), (3, .int l3)] [] K R I none := by
  unfold m_X8_openConditions_4 at hm
  refine po_iload_n hF dX8_openConditions_4 rfl rfl ?_
  refine po_aload_n hF dX8_openConditions_5 rfl rfl ?_
  refine po_iload_n hF dX8_openConditions_6 rfl rfl ?_
  obtain ⟨x1, hx1, hm⟩ := po_bind hm
  refine po_callV (As := [.int l1]) hF dX8_openConditions_7 wq_1396 mv_X8_conditionMany ws_X8_conditionMany (show po_cl[8]? = some _ from rfl) rfl kl0 (c_X8_conditionMany HL kl0 hx1) rfl (po_rtL hL rfl) (Nat.le_of_ble_eq_true rfl) rfl ?_
  refine po_icmp_ge (tgt := 29) hF dX8_openConditions_10 (by decide) hm (fun hm => ?_) (fun hm => ?_)
  · refine po_iload_n hF dX8_openConditions_29 rfl rfl ?_
    cases hm
    exact po_iret hF hL dX8_openConditions_30 (by decide) (by decide) rfl rfl rfl (Or.inl rfl)
  · refine po_iload_n hF dX8_openConditions_13 rfl rfl ?_
    refine po_aload_n hF dX8_openConditions_14 rfl rfl ?_
    refine po_iload_n hF dX8_openConditions_15 rfl rfl ?_
    refine po_iload_n hF dX8_openConditions_16 rfl rfl ?_
    refine po_iconst (v := 2) hF dX8_openConditions_17 (by decide) ?_
    obtain ⟨x2, hx2, hm⟩ := po_bind hm
    refine po_callV (As := [.int l1, .int l3, .int 2]) hF dX8_openConditions_18 wq_1521 mv_X8_conditionPart ws_X8_conditionPart (show po_cl[8]? = some _ from rfl) rfl kl0 (c_X8_conditionPart HL kl0 hx2) rfl (po_rtL hL rfl) (Nat.le_of_ble_eq_true rfl) rfl ?_
    refine po_iadd hF dX8_openConditions_21 ?_
    refine po_top hm (fun v3 hm => ?_)
    refine po_istore_n (L' := [(2, .int v3), (0, .ref l0), (1, .int l1), (3, .int l3)]) hF dX8_openConditions_22 rfl (by decide) rfl ?_
    refine po_iinc (v := l3 + 1) (L' := [(3, .int (l3 + 1)), (2, .int v3), (0, .ref l0), (1, .int l1)]) hF dX8_openConditions_23 rfl rfl (by decide) rfl ?_
    refine po_goto (tgt := 4) hF dX8_openConditions_26 (by decide) ?_
    refine po_sub (L' := [(0, .ref l0), (1, .int l1), (2, .int v3), (3, .int (l3 + 1))]) rfl ?_
    exact h4 l0 l1 v3 (l3 + 1) hm kl0
theorem w_X8_openConditions_4L {X : po_X} {G : po_G} {st : Nat → Nat} {K : po_K} {I : po_I} {R : po_R} {ρ : Int32} (hF : po_F X G cX8_openConditions RX8 4 st) (hL : po_L X (some .int) 2 0 0 "openConditions") (HL : po_Lay K R st) : ∀ (n : Nat) (l0 : Nat) (l1 : Int32) (l2 : Int32) (l3 : Int32), m_X8_openConditions_4L I n l0 l1 l2 l3 = some ρ → K l0 = (19, 19) → po_V X G 4 (po_Q X G (.inl (some (.int ρ))) K R I none 0 0) 0 0 4 [(0, .ref l0), (1, .int l1), (2, .int l2), (3, .int l3)] [] K R I none := by
  intro n
  induction n with
  | zero => intro l0 l1 l2 l3 hm; cases hm
  | succ n ih => intro l0 l1 l2 l3 hm kl0; exact w_X8_openConditions_4 hF hL HL (ih) l0 l1 l2 l3 kl0 hm
set_option maxRecDepth 20000 in
set_option maxHeartbeats 2000000 in
theorem w_X8_openConditions_e {X : po_X} {G : po_G} {st : Nat → Nat} {K : po_K} {I : po_I} {R : po_R} {ρ : Int32} (hF : po_F X G cX8_openConditions RX8 4 st) (hL : po_L X (some .int) 2 0 0 "openConditions") (HL : po_Lay K R st) (l0 : Nat) (l1 : Int32) (kl0 : K l0 = (19, 19)) (hm : m_X8_openConditions_e I l0 l1 = some ρ) : po_V X G 4 (po_Q X G (.inl (some (.int ρ))) K R I none 0 0) 0 0 0 [(0, .ref l0), (1, .int l1)] [] K R I none := by
  unfold m_X8_openConditions_e at hm
  refine po_iconst (v := 0) hF dX8_openConditions_0 (by decide) ?_
  refine po_istore_n (L' := [(2, .int 0), (0, .ref l0), (1, .int l1)]) hF dX8_openConditions_1 rfl (by decide) rfl ?_
  refine po_iconst (v := 0) hF dX8_openConditions_2 (by decide) ?_
  refine po_istore_n (L' := [(3, .int 0), (2, .int 0), (0, .ref l0), (1, .int l1)]) hF dX8_openConditions_3 rfl (by decide) rfl ?_
  refine po_sub (L' := [(0, .ref l0), (1, .int l1), (2, .int 0), (3, .int 0)]) rfl ?_
  exact w_X8_openConditions_4L hF hL HL 5000 l0 l1 0 0 hm kl0
theorem c_X8_openConditions {K : po_K} {R : po_R} {I : po_I} {st : Nat → Nat} {ρ : Int32} (HL : po_Lay K R st) {l0 : Nat} {l1 : Int32} (kl0 : K l0 = (19, 19)) (hm : m_X8_openConditions I l0 l1 = some ρ) : po_C st yX8_openConditions cX8_openConditions 4 (some .int) 2 0 0 [.ref l0, .int l1] K R I none (.inl (some (.int ρ))) K R I none := by
  refine po_ofC (by decide +kernel) (Nat.le_of_ble_eq_true rfl) (fun X G hF hL => ?_)
  exact w_X8_openConditions_e hF hL HL l0 l1 kl0 hm
set_option maxRecDepth 20000 in
set_option maxHeartbeats 2000000 in
theorem w_X8_permit_192 {X : po_X} {G : po_G} {st : Nat → Nat} {K : po_K} {R : po_R} {ρ : Int32 × po_I} (hF : po_F X G cX8_permit RX8 3 st) (hL : po_L X (some .int) 5 0 0 "permit") (HL : po_Lay K R st) (I : po_I) (s0 : Int32) (hm : m_X8_permit_192 I s0 = some ρ) : po_V X G 3 (po_Q X G (.inl (some (.int ρ.1))) K R (ρ.2) none 0 0) 0 0 192 [] [.int s0] K R I none := by
  unfold m_X8_permit_192 at hm
  cases hm
  exact po_iret hF hL dX8_permit_192 (by decide) (by decide) rfl rfl rfl (Or.inl rfl)
set_option maxRecDepth 20000 in
set_option maxHeartbeats 2000000 in
theorem w_X8_permit_28 {X : po_X} {G : po_G} {st : Nat → Nat} {K : po_K} {R : po_R} {ρ : Int32 × po_I} (hF : po_F X G cX8_permit RX8 3 st) (hL : po_L X (some .int) 5 0 0 "permit") (HL : po_Lay K R st) (I : po_I) (l0 : Nat) (l1 : Int32) (l2 : Int32) (s0 : Nat) (s1 : Int32) (kl0 : K l0 = (19, 19)) (ks0 : K s0 = (19, 19)) (hm : m_X8_permit_28 I l0 l1 l2 s0 s1 = some ρ) : po_V X G 3 (po_Q X G (.inl (some (.int ρ.1))) K R (ρ.2) none 0 0) 0 0 28 [(0, .ref l0), (1, .int l1), (2, .int l2)] [.int s1, .ref s0] K R I none := by
  unfold m_X8_permit_28 at hm
  refine po_puti hF dX8_permit_28 fl_X8_1 ks0 (by intro r h; cases h; rfl) rfl rfl (fun _ => rfl) rfl ?_
  refine po_hname hm (fun I1 hm => ?_)
  refine po_aload_n hF dX8_permit_31 rfl rfl ?_
  refine po_getf (v := .int (I1 l0 0)) hF dX8_permit_32 fl_X8_1 kl0 rfl ?_
  refine po_if_eq (tgt := 40) hF dX8_permit_35 (by decide) hm (fun hm => ?_) (fun hm => ?_)
  · refine po_iload_n hF dX8_permit_40 rfl rfl ?_
    by_cases hs0 : l2 = 0
    · rw [if_pos hs0] at hm
      refine po_tin (c := 0) (tgt := 104) (off := 63) hF dX8_permit_41 hs0 (by decide) (by decide) (by decide) (by decide) ?_
      refine po_aload_n hF dX8_permit_104 rfl rfl ?_
      refine po_iload_n hF dX8_permit_105 rfl rfl ?_
      refine po_bipush (v := 19) hF dX8_permit_106 (by decide) ?_
      obtain ⟨x2, hx2, hm⟩ := po_bind hm
      refine po_callV (As := [.int l1, .int 19]) hF dX8_permit_108 wq_1380 mv_X8_at ws_X8_at (show po_cl[8]? = some _ from rfl) rfl kl0 (c_X8_at HL kl0 hx2) rfl (po_rtL hL rfl) (Nat.le_of_ble_eq_true rfl) rfl ?_
      cases hm
      exact po_iret hF hL dX8_permit_111 (by decide) (by decide) rfl rfl rfl (Or.inl rfl)
    rw [if_neg hs0] at hm
    by_cases hs1 : l2 = 1
    · rw [if_pos hs1] at hm
      refine po_tin (c := 1) (tgt := 112) (off := 71) hF dX8_permit_41 hs1 (by decide) (by decide) (by decide) (by decide) ?_
      refine po_aload_n hF dX8_permit_112 rfl rfl ?_
      refine po_iload_n hF dX8_permit_113 rfl rfl ?_
      refine po_iconst (v := 0) hF dX8_permit_114 (by decide) ?_
      obtain ⟨x3, hx3, hm⟩ := po_bind hm
      refine po_callV (As := [.int l1, .int 0]) hF dX8_permit_115 wq_1380 mv_X8_at ws_X8_at (show po_cl[8]? = some _ from rfl) rfl kl0 (c_X8_at HL kl0 hx3) rfl (po_rtL hL rfl) (Nat.le_of_ble_eq_true rfl) rfl ?_
      cases hm
      exact po_iret hF hL dX8_permit_118 (by decide) (by decide) rfl rfl rfl (Or.inl rfl)
    rw [if_neg hs1] at hm
    by_cases hs2 : l2 = 2
    · rw [if_pos hs2] at hm
      refine po_tin (c := 2) (tgt := 119) (off := 78) hF dX8_permit_41 hs2 (by decide) (by decide) (by decide) (by decide) ?_
      refine po_aload_n hF dX8_permit_119 rfl rfl ?_
      refine po_iload_n hF dX8_permit_120 rfl rfl ?_
      refine po_iconst (v := 1) hF dX8_permit_121 (by decide) ?_
      obtain ⟨x4, hx4, hm⟩ := po_bind hm
      refine po_callV (As := [.int l1, .int 1]) hF dX8_permit_122 wq_1380 mv_X8_at ws_X8_at (show po_cl[8]? = some _ from rfl) rfl kl0 (c_X8_at HL kl0 hx4) rfl (po_rtL hL rfl) (Nat.le_of_ble_eq_true rfl) rfl ?_
      cases hm
      exact po_iret hF hL dX8_permit_125 (by decide) (by decide) rfl rfl rfl (Or.inl rfl)
    rw [if_neg hs2] at hm
    by_cases hs3 : l2 = 3
    · rw [if_pos hs3] at hm
      refine po_tin (c := 3) (tgt := 126) (off := 85) hF dX8_permit_41 hs3 (by decide) (by decide) (by decide) (by decide) ?_
      refine po_aload_n hF dX8_permit_126 rfl rfl ?_
      refine po_iload_n hF dX8_permit_127 rfl rfl ?_
      refine po_bipush (v := 17) hF dX8_permit_128 (by decide) ?_
      obtain ⟨x5, hx5, hm⟩ := po_bind hm
      refine po_callV (As := [.int l1, .int 17]) hF dX8_permit_130 wq_1380 mv_X8_at ws_X8_at (show po_cl[8]? = some _ from rfl) rfl kl0 (c_X8_at HL kl0 hx5) rfl (po_rtL hL rfl) (Nat.le_of_ble_eq_true rfl) rfl ?_
      cases hm
      exact po_iret hF hL dX8_permit_133 (by decide) (by decide) rfl rfl rfl (Or.inl rfl)
    rw [if_neg hs3] at hm
    by_cases hs4 : l2 = 4
    · rw [if_pos hs4] at hm
      refine po_tin (c := 4) (tgt := 134) (off := 93) hF dX8_permit_41 hs4 (by decide) (by decide) (by decide) (by decide) ?_
      refine po_aload_n hF dX8_permit_134 rfl rfl ?_
      refine po_iload_n hF dX8_permit_135 rfl rfl ?_
      refine po_bipush (v := 18) hF dX8_permit_136 (by decide) ?_
      obtain ⟨x6, hx6, hm⟩ := po_bind hm
      refine po_callV (As := [.int l1, .int 18]) hF dX8_permit_138 wq_1380 mv_X8_at ws_X8_at (show po_cl[8]? = some _ from rfl) rfl kl0 (c_X8_at HL kl0 hx6) rfl (po_rtL hL rfl) (Nat.le_of_ble_eq_true rfl) rfl ?_
      cases hm
      exact po_iret hF hL dX8_permit_141 (by decide) (by decide) rfl rfl rfl (Or.inl rfl)
    rw [if_neg hs4] at hm
    by_cases hs5 : l2 = 5
    · rw [if_pos hs5] at hm
      refine po_tin (c := 5) (tgt := 142) (off := 101) hF dX8_permit_41 hs5 (by decide) (by decide) (by decide) (by decide) ?_
      refine po_aload_n hF dX8_permit_142 rfl rfl ?_
      refine po_iload_n hF dX8_permit_143 rfl rfl ?_
      obtain ⟨x7, hx7, hm⟩ := po_bind hm
      refine po_callV (As := [.int l1]) hF dX8_permit_144 wq_1372 mv_X8_buildingCells ws_X8_buildingCells (show po_cl[8]? = some _ from rfl) rfl kl0 (c_X8_buildingCells HL kl0 hx7) rfl (po_rtL hL rfl) (Nat.le_of_ble_eq_true rfl) rfl ?_
      cases hm
      exact po_iret hF hL dX8_permit_147 (by decide) (by decide) rfl rfl rfl (Or.inl rfl)
    rw [if_neg hs5] at hm
    by_cases hs6 : l2 = 6
    · rw [if_pos hs6] at hm
      refine po_tin (c := 6) (tgt := 148) (off := 107) hF dX8_permit_41 hs6 (by decide) (by decide) (by decide) (by decide) ?_
      refine po_aload_n hF dX8_permit_148 rfl rfl ?_
      refine po_iload_n hF dX8_permit_149 rfl rfl ?_
      obtain ⟨x8, hx8, hm⟩ := po_bind hm
      refine po_callV (As := [.int l1]) hF dX8_permit_150 wq_1368 mv_X8_floorArea ws_X8_floorArea (show po_cl[8]? = some _ from rfl) rfl kl0 (c_X8_floorArea HL kl0 hx8) rfl (po_rtL hL rfl) (Nat.le_of_ble_eq_true rfl) rfl ?_
      cases hm
      exact po_iret hF hL dX8_permit_153 (by decide) (by decide) rfl rfl rfl (Or.inl rfl)
    rw [if_neg hs6] at hm
    by_cases hs7 : l2 = 7
    · rw [if_pos hs7] at hm
      refine po_tin (c := 7) (tgt := 154) (off := 113) hF dX8_permit_41 hs7 (by decide) (by decide) (by decide) (by decide) ?_
      refine po_aload_n hF dX8_permit_154 rfl rfl ?_
      refine po_iload_n hF dX8_permit_155 rfl rfl ?_
      refine po_bipush (v := 20) hF dX8_permit_156 (by decide) ?_
      obtain ⟨x9, hx9, hm⟩ := po_bind hm
      refine po_callV (As := [.int l1, .int 20]) hF dX8_permit_158 wq_1380 mv_X8_at ws_X8_at (show po_cl[8]? = some _ from rfl) rfl kl0 (c_X8_at HL kl0 hx9) rfl (po_rtL hL rfl) (Nat.le_of_ble_eq_true rfl) rfl ?_
      cases hm
      exact po_iret hF hL dX8_permit_161 (by decide) (by decide) rfl rfl rfl (Or.inl rfl)
    rw [if_neg hs7] at hm
    by_cases hs8 : l2 = 8
    · rw [if_pos hs8] at hm
      refine po_tin (c := 8) (tgt := 162) (off := 121) hF dX8_permit_41 hs8 (by decide) (by decide) (by decide) (by decide) ?_
      refine po_aload_n hF dX8_permit_162 rfl rfl ?_
      refine po_iload_n hF dX8_permit_163 rfl rfl ?_
      refine po_bipush (v := 21) hF dX8_permit_164 (by decide) ?_
      obtain ⟨x10, hx10, hm⟩ := po_bind hm
      refine po_callV (As := [.int l1, .int 21]) hF dX8_permit_166 wq_1380 mv_X8_at ws_X8_at (show po_cl[8]? = some _ from rfl) rfl kl0 (c_X8_at HL kl0 hx10) rfl (po_rtL hL rfl) (Nat.le_of_ble_eq_true rfl) rfl ?_
      cases hm
      exact po_iret hF hL dX8_permit_169 (by decide) (by decide) rfl rfl rfl (Or.inl rfl)
    rw [if_neg hs8] at hm
    by_cases hs9 : l2 = 9
    · rw [if_pos hs9] at hm
      refine po_tin (c := 9) (tgt := 170) (off := 129) hF dX8_permit_41 hs9 (by decide) (by decide) (by decide) (by decide) ?_
      refine po_aload_n hF dX8_permit_170 rfl rfl ?_
      refine po_iload_n hF dX8_permit_171 rfl rfl ?_
      refine po_bipush (v := 19) hF dX8_permit_172 (by decide) ?_
      obtain ⟨x11, hx11, hm⟩ := po_bind hm
      refine po_callV (As := [.int l1, .int 19]) hF dX8_permit_174 wq_1380 mv_X8_at ws_X8_at (show po_cl[8]? = some _ from rfl) rfl kl0 (c_X8_at HL kl0 hx11) rfl (po_rtL hL rfl) (Nat.le_of_ble_eq_true rfl) rfl ?_
      refine po_iconst (v := 2) hF dX8_permit_177 (by decide) ?_
      refine po_icmp_ne (tgt := 191) hF dX8_permit_178 (by decide) hm (fun hm => ?_) (fun hm => ?_)
      · refine po_iconst (v := (-1)) hF dX8_permit_191 (by decide) ?_
        refine po_sub (L' := []) rfl ?_
        exact w_X8_permit_192 hF hL HL I1 (-1) hm
      · refine po_aload_n hF dX8_permit_181 rfl rfl ?_
        refine po_iload_n hF dX8_permit_182 rfl rfl ?_
        refine po_bipush (v := 22) hF dX8_permit_183 (by decide) ?_
        obtain ⟨x12, hx12, hm⟩ := po_bind hm
        refine po_callV (As := [.int l1, .int 22]) hF dX8_permit_185 wq_1380 mv_X8_at ws_X8_at (show po_cl[8]? = some _ from rfl) rfl kl0 (c_X8_at HL kl0 hx12) rfl (po_rtL hL rfl) (Nat.le_of_ble_eq_true rfl) rfl ?_
        refine po_goto (tgt := 192) hF dX8_permit_188 (by decide) ?_
        refine po_sub (L' := []) rfl ?_
        exact w_X8_permit_192 hF hL HL I1 x12 hm
    rw [if_neg hs9] at hm
    by_cases hs10 : l2 = 10
    · rw [if_pos hs10] at hm
      refine po_tin (c := 10) (tgt := 193) (off := 152) hF dX8_permit_41 hs10 (by decide) (by decide) (by decide) (by decide) ?_
      refine po_aload_n hF dX8_permit_193 rfl rfl ?_
      refine po_iload_n hF dX8_permit_194 rfl rfl ?_
      refine po_bipush (v := 24) hF dX8_permit_195 (by decide) ?_
      obtain ⟨x13, hx13, hm⟩ := po_bind hm
      refine po_callV (As := [.int l1, .int 24]) hF dX8_permit_197 wq_1380 mv_X8_at ws_X8_at (show po_cl[8]? = some _ from rfl) rfl kl0 (c_X8_at HL kl0 hx13) rfl (po_rtL hL rfl) (Nat.le_of_ble_eq_true rfl) rfl ?_
      cases hm
      exact po_iret hF hL dX8_permit_200 (by decide) (by decide) rfl rfl rfl (Or.inl rfl)
    rw [if_neg hs10] at hm
    by_cases hs11 : l2 = 11
    · rw [if_pos hs11] at hm
      refine po_tin (c := 11) (tgt := 201) (off := 160) hF dX8_permit_41 hs11 (by decide) (by decide) (by decide) (by decide) ?_
      refine po_aload_n hF dX8_permit_201 rfl rfl ?_
      refine po_iload_n hF dX8_permit_202 rfl rfl ?_
      obtain ⟨x14, hx14, hm⟩ := po_bind hm
      refine po_callV (As := [.int l1]) hF dX8_permit_203 wq_1517 mv_X8_openConditions ws_X8_openConditions (show po_cl[8]? = some _ from rfl) rfl kl0 (c_X8_openConditions HL kl0 hx14) rfl (po_rtL hL rfl) (Nat.le_of_ble_eq_true rfl) rfl ?_
      cases hm
      exact po_iret hF hL dX8_permit_206 (by decide) (by decide) rfl rfl rfl (Or.inl rfl)
    rw [if_neg hs11] at hm
    refine po_tout (tgt := 207) hF dX8_permit_41 (po_tdef (lo := 0) (m := 12) (fun j hj => by
      rcases (show j = 0 ∨ j = 1 ∨ j = 2 ∨ j = 3 ∨ j = 4 ∨ j = 5 ∨ j = 6 ∨ j = 7 ∨ j = 8 ∨ j = 9 ∨ j = 10 ∨ j = 11 by omega) with rfl | rfl | rfl | rfl | rfl | rfl | rfl | rfl | rfl | rfl | rfl | rfl
      · exact po_neI (c := 0) hs0 (by decide)
      · exact po_neI (c := 1) hs1 (by decide)
      · exact po_neI (c := 2) hs2 (by decide)
      · exact po_neI (c := 3) hs3 (by decide)
      · exact po_neI (c := 4) hs4 (by decide)
      · exact po_neI (c := 5) hs5 (by decide)
      · exact po_neI (c := 6) hs6 (by decide)
      · exact po_neI (c := 7) hs7 (by decide)
      · exact po_neI (c := 8) hs8 (by decide)
      · exact po_neI (c := 9) hs9 (by decide)
      · exact po_neI (c := 10) hs10 (by decide)
      · exact po_neI (c := 11) hs11 (by decide)
      )) (by decide) ?_
    refine po_aload_n hF dX8_permit_207 rfl rfl ?_
    refine po_iload_n hF dX8_permit_208 rfl rfl ?_
    obtain ⟨x15, hx15, hm⟩ := po_bind hm
    refine po_callV (As := [.int l1]) hF dX8_permit_209 wq_1396 mv_X8_conditionMany ws_X8_conditionMany (show po_cl[8]? = some _ from rfl) rfl kl0 (c_X8_conditionMany HL kl0 hx15) rfl (po_rtL hL rfl) (Nat.le_of_ble_eq_true rfl) rfl ?_
    cases hm
    exact po_iret hF hL dX8_permit_212 (by decide) (by decide) rfl rfl rfl (Or.inl rfl)
  · refine po_iconst (v := 0) hF dX8_permit_38 (by decide) ?_
    cases hm
    exact po_iret hF hL dX8_permit_39 (by decide) (by decide) rfl rfl rfl (Or.inl rfl)
set_option maxRecDepth 20000 in
set_option maxHeartbeats 2000000 in
theorem w_X8_permit_e {X : po_X} {G : po_G} {st : Nat → Nat} {K : po_K} {R : po_R} {ρ : Int32 × po_I} (hF : po_F X G cX8_permit RX8 3 st) (hL : po_L X (some .int) 5 0 0 "permit") (HL : po_Lay K R st) (I : po_I) (l0 : Nat) (l1 : Int32) (l2 : Int32) (kl0 : K l0 = (19, 19)) (hm : m_X8_permit_e I l0 l1 l2 = some ρ) : po_V X G 3 (po_Q X G (.inl (some (.int ρ.1))) K R (ρ.2) none 0 0) 0 0 0 [(0, .ref l0), (1, .int l1), (2, .int l2)] [] K R I none := by
  unfold m_X8_permit_e at hm
  refine po_aload_n hF dX8_permit_0 rfl rfl ?_
  refine po_aload_n hF dX8_permit_1 rfl rfl ?_
  refine po_iload_n hF dX8_permit_2 rfl rfl ?_
  obtain ⟨x16, hx16, hm⟩ := po_bind hm
  refine po_callV (As := [.int l1]) hF dX8_permit_3 wq_1513 mv_X8_isPermit ws_X8_isPermit (show po_cl[8]? = some _ from rfl) rfl kl0 (c_X8_isPermit HL kl0 hx16) rfl (po_rtL hL rfl) (Nat.le_of_ble_eq_true rfl) rfl ?_
  refine po_if_ne (tgt := 13) hF dX8_permit_6 (by decide) hm (fun hm => ?_) (fun hm => ?_)
  · refine po_iload_n hF dX8_permit_13 rfl rfl ?_
    refine po_iconst (v := 0) hF dX8_permit_14 (by decide) ?_
    refine po_bipush (v := 12) hF dX8_permit_15 (by decide) ?_
    obtain ⟨x17, hx17, hm⟩ := po_bind hm
    refine po_callS (As := [.int l2, .int 0, .int 12]) hF dX8_permit_17 wq_1282 mv_X8_isIn (c_X8_isIn HL hx17) rfl (po_rtL hL rfl) (Nat.le_of_ble_eq_true rfl) rfl ?_
    refine po_if_ne (tgt := 27) hF dX8_permit_20 (by decide) hm (fun hm => ?_) (fun hm => ?_)
    · refine po_iconst (v := 0) hF dX8_permit_27 (by decide) ?_
      exact w_X8_permit_28 hF hL HL I l0 l1 l2 l0 0 kl0 kl0 hm
    · refine po_iconst (v := 2) hF dX8_permit_23 (by decide) ?_
      refine po_goto (tgt := 28) hF dX8_permit_24 (by decide) ?_
      exact w_X8_permit_28 hF hL HL I l0 l1 l2 l0 2 kl0 kl0 hm
  · refine po_iconst (v := 1) hF dX8_permit_9 (by decide) ?_
    refine po_goto (tgt := 28) hF dX8_permit_10 (by decide) ?_
    exact w_X8_permit_28 hF hL HL I l0 l1 l2 l0 1 kl0 kl0 hm
theorem c_X8_permit {K : po_K} {R : po_R} {I : po_I} {st : Nat → Nat} {ρ : Int32 × po_I} (HL : po_Lay K R st) {l0 : Nat} {l1 : Int32} {l2 : Int32} (kl0 : K l0 = (19, 19)) (hm : m_X8_permit I l0 l1 l2 = some ρ) : po_C st yX8_permit cX8_permit 3 (some .int) 5 0 0 [.ref l0, .int l1, .int l2] K R I none (.inl (some (.int ρ.1))) K R (ρ.2) none := by
  refine po_ofC (by decide +kernel) (Nat.le_of_ble_eq_true rfl) (fun X G hF hL => ?_)
  exact w_X8_permit_e hF hL HL I l0 l1 l2 kl0 hm
set_option maxRecDepth 20000 in
set_option maxHeartbeats 2000000 in
theorem w_X8_overCells_234 {X : po_X} {G : po_G} {st : Nat → Nat} {K : po_K} {I : po_I} {R : po_R} {ρ : Int32} (hF : po_F X G cX8_overCells RX8 10 st) (hL : po_L X (some .int) 5 0 0 "overCells") (HL : po_Lay K R st) (s0 : Int32) (hm : m_X8_overCells_234 I s0 = some ρ) : po_V X G 10 (po_Q X G (.inl (some (.int ρ))) K R I none 0 0) 0 0 234 [] [.int s0] K R I none := by
  unfold m_X8_overCells_234 at hm
  cases hm
  exact po_iret hF hL dX8_overCells_234 (by decide) (by decide) rfl rfl rfl (Or.inl rfl)
set_option maxRecDepth 20000 in
set_option maxHeartbeats 2000000 in
theorem w_X8_overCells_227 {X : po_X} {G : po_G} {st : Nat → Nat} {K : po_K} {I : po_I} {R : po_R} {ρ : Int32} (hF : po_F X G cX8_overCells RX8 10 st) (hL : po_L X (some .int) 5 0 0 "overCells") (HL : po_Lay K R st) (l5 : Int32) (hm : m_X8_overCells_227 I l5 = some ρ) : po_V X G 10 (po_Q X G (.inl (some (.int ρ))) K R I none 0 0) 0 0 227 [(5, .int l5)] [] K R I none := by
  unfold m_X8_overCells_227 at hm
  refine po_iload hF dX8_overCells_227 rfl ?_
  refine po_goto (tgt := 234) hF dX8_overCells_229 (by decide) ?_
  refine po_sub (L' := []) rfl ?_
  exact w_X8_overCells_234 hF hL HL l5 hm
set_option maxRecDepth 20000 in
set_option maxHeartbeats 2000000 in
theorem w_X8_overCells_211 {X : po_X} {G : po_G} {st : Nat → Nat} {K : po_K} {I : po_I} {R : po_R} {ρ : Int32} {r17 : Nat → Int32 → Int32 → Int32 → Int32 → Int32 → Int32 → Option (Int32)} (hF : po_F X G cX8_overCells RX8 10 st) (hL : po_L X (some .int) 5 0 0 "overCells") (HL : po_Lay K R st) (h17 : ∀ (l0 : Nat) (l1 : Int32) (l2 : Int32) (l3 : Int32) (l4 : Int32) (l5 : Int32) (l6 : Int32), r17 l0 l1 l2 l3 l4 l5 l6 = some ρ → K l0 = (19, 19) → po_V X G 10 (po_Q X G (.inl (some (.int ρ))) K R I none 0 0) 0 0 17 [(0, .ref l0), (1, .int l1), (2, .int l2), (3, .int l3), (4, .int l4), (5, .int l5), (6, .int l6)] [] K R I none) (l0 : Nat) (l1 : Int32) (l2 : Int32) (l3 : Int32) (l4 : Int32) (l5 : Int32) (l6 : Int32) (kl0 : K l0 = (19, 19)) (hm : m_X8_overCells_211 I r17 l0 l1 l2 l3 l4 l5 l6 = some ρ) : po_V X G 10 (po_Q X G (.inl (some (.int ρ))) K R I none 0 0) 0 0 211 [(0, .ref l0), (1, .int l1), (2, .int l2), (3, .int l3), (4, .int l4), (5, .int l5), (6, .int l6)] [] K R I none := by
  unfold m_X8_overCells_211 at hm
  refine po_iinc (v := l6 + 1) (L' := [(6, .int (l6 + 1)), (0, .ref l0), (1, .int l1), (2, .int l2), (3, .int l3), (4, .int l4), (5, .int l5)]) hF dX8_overCells_211 rfl rfl (by decide) rfl ?_
  refine po_goto (tgt := 17) hF dX8_overCells_214 (by decide) ?_
  refine po_sub (L' := [(0, .ref l0), (1, .int l1), (2, .int l2), (3, .int l3), (4, .int l4), (5, .int l5), (6, .int (l6 + 1))]) rfl ?_
  exact h17 l0 l1 l2 l3 l4 l5 (l6 + 1) hm kl0
set_option maxRecDepth 20000 in
set_option maxHeartbeats 2000000 in
theorem w_X8_overCells_208 {X : po_X} {G : po_G} {st : Nat → Nat} {K : po_K} {I : po_I} {R : po_R} {ρ : Int32} {r17 : Nat → Int32 → Int32 → Int32 → Int32 → Int32 → Int32 → Option (Int32)} (hF : po_F X G cX8_overCells RX8 10 st) (hL : po_L X (some .int) 5 0 0 "overCells") (HL : po_Lay K R st) (h17 : ∀ (l0 : Nat) (l1 : Int32) (l2 : Int32) (l3 : Int32) (l4 : Int32) (l5 : Int32) (l6 : Int32), r17 l0 l1 l2 l3 l4 l5 l6 = some ρ → K l0 = (19, 19) → po_V X G 10 (po_Q X G (.inl (some (.int ρ))) K R I none 0 0) 0 0 17 [(0, .ref l0), (1, .int l1), (2, .int l2), (3, .int l3), (4, .int l4), (5, .int l5), (6, .int l6)] [] K R I none) (l0 : Nat) (l1 : Int32) (l2 : Int32) (l3 : Int32) (l5 : Int32) (l6 : Int32) (s0 : Int32) (s1 : Int32) (kl0 : K l0 = (19, 19)) (hm : m_X8_overCells_208 I r17 l0 l1 l2 l3 l5 l6 s0 s1 = some ρ) : po_V X G 10 (po_Q X G (.inl (some (.int ρ))) K R I none 0 0) 0 0 208 [(0, .ref l0), (1, .int l1), (2, .int l2), (3, .int l3), (5, .int l5), (6, .int l6)] [.int s1, .int s0] K R I none := by
  unfold m_X8_overCells_208 at hm
  refine po_iadd hF dX8_overCells_208 ?_
  refine po_top hm (fun v1 hm => ?_)
  refine po_istore (L' := [(4, .int v1), (0, .ref l0), (1, .int l1), (2, .int l2), (3, .int l3), (5, .int l5), (6, .int l6)]) hF dX8_overCells_209 (by decide) rfl ?_
  refine po_sub (L' := [(0, .ref l0), (1, .int l1), (2, .int l2), (3, .int l3), (4, .int v1), (5, .int l5), (6, .int l6)]) rfl ?_
  exact w_X8_overCells_211 hF hL HL h17 l0 l1 l2 l3 v1 l5 l6 kl0 hm
set_option maxRecDepth 20000 in
set_option maxHeartbeats 2000000 in
theorem w_X8_overCells_203 {X : po_X} {G : po_G} {st : Nat → Nat} {K : po_K} {I : po_I} {R : po_R} {ρ : Int32} {r17 : Nat → Int32 → Int32 → Int32 → Int32 → Int32 → Int32 → Option (Int32)} (hF : po_F X G cX8_overCells RX8 10 st) (hL : po_L X (some .int) 5 0 0 "overCells") (HL : po_Lay K R st) (h17 : ∀ (l0 : Nat) (l1 : Int32) (l2 : Int32) (l3 : Int32) (l4 : Int32) (l5 : Int32) (l6 : Int32), r17 l0 l1 l2 l3 l4 l5 l6 = some ρ → K l0 = (19, 19) → po_V X G 10 (po_Q X G (.inl (some (.int ρ))) K R I none 0 0) 0 0 17 [(0, .ref l0), (1, .int l1), (2, .int l2), (3, .int l3), (4, .int l4), (5, .int l5), (6, .int l6)] [] K R I none) (l0 : Nat) (l1 : Int32) (l2 : Int32) (l3 : Int32) (l5 : Int32) (l6 : Int32) (s0 : Int32) (kl0 : K l0 = (19, 19)) (hm : m_X8_overCells_203 I r17 l0 l1 l2 l3 l5 l6 s0 = some ρ) : po_V X G 10 (po_Q X G (.inl (some (.int ρ))) K R I none 0 0) 0 0 203 [(0, .ref l0), (1, .int l1), (2, .int l2), (3, .int l3), (5, .int l5), (6, .int l6)] [.int s0] K R I none := by
  unfold m_X8_overCells_203 at hm
  refine po_iconst (v := 1) hF dX8_overCells_203 (by decide) ?_
  refine po_goto (tgt := 208) hF dX8_overCells_204 (by decide) ?_
  exact w_X8_overCells_208 hF hL HL h17 l0 l1 l2 l3 l5 l6 s0 1 kl0 hm
set_option maxRecDepth 20000 in
set_option maxHeartbeats 2000000 in
theorem w_X8_overCells_166 {X : po_X} {G : po_G} {st : Nat → Nat} {K : po_K} {I : po_I} {R : po_R} {ρ : Int32} {r17 : Nat → Int32 → Int32 → Int32 → Int32 → Int32 → Int32 → Option (Int32)} (hF : po_F X G cX8_overCells RX8 10 st) (hL : po_L X (some .int) 5 0 0 "overCells") (HL : po_Lay K R st) (h17 : ∀ (l0 : Nat) (l1 : Int32) (l2 : Int32) (l3 : Int32) (l4 : Int32) (l5 : Int32) (l6 : Int32), r17 l0 l1 l2 l3 l4 l5 l6 = some ρ → K l0 = (19, 19) → po_V X G 10 (po_Q X G (.inl (some (.int ρ))) K R I none 0 0) 0 0 17 [(0, .ref l0), (1, .int l1), (2, .int l2), (3, .int l3), (4, .int l4), (5, .int l5), (6, .int l6)] [] K R I none) (l0 : Nat) (l1 : Int32) (l2 : Int32) (l3 : Int32) (l4 : Int32) (l5 : Int32) (l6 : Int32) (l7 : Int32) (l8 : Int32) (l9 : Int32) (kl0 : K l0 = (19, 19)) (hm : m_X8_overCells_166 I r17 l0 l1 l2 l3 l4 l5 l6 l7 l8 l9 = some ρ) : po_V X G 10 (po_Q X G (.inl (some (.int ρ))) K R I none 0 0) 0 0 166 [(0, .ref l0), (1, .int l1), (2, .int l2), (3, .int l3), (4, .int l4), (5, .int l5), (6, .int l6), (7, .int l7), (8, .int l8), (9, .int l9)] [] K R I none := by
  unfold m_X8_overCells_166 at hm
  refine po_iload_n hF dX8_overCells_166 rfl rfl ?_
  refine po_iconst (v := 4) hF dX8_overCells_167 (by decide) ?_
  refine po_icmp_ne (tgt := 211) hF dX8_overCells_168 (by decide) hm (fun hm => ?_) (fun hm => ?_)
  · refine po_sub (L' := [(0, .ref l0), (1, .int l1), (2, .int l2), (3, .int l3), (4, .int l4), (5, .int l5), (6, .int l6)]) rfl ?_
    exact w_X8_overCells_211 hF hL HL h17 l0 l1 l2 l3 l4 l5 l6 kl0 hm
  · refine po_aload_n hF dX8_overCells_171 rfl rfl ?_
    refine po_iload_n hF dX8_overCells_172 rfl rfl ?_
    refine po_iload hF dX8_overCells_173 rfl ?_
    refine po_iload hF dX8_overCells_175 rfl ?_
    obtain ⟨x2, hx2, hm⟩ := po_bind hm
    refine po_callV (As := [.int l3, .int l7, .int l8]) hF dX8_overCells_177 wq_1347 mv_X8_isInLot ws_X8_isInLot (show po_cl[8]? = some _ from rfl) rfl kl0 (c_X8_isInLot HL kl0 hx2) rfl (po_rtL hL rfl) (Nat.le_of_ble_eq_true rfl) rfl ?_
    refine po_if_eq (tgt := 211) hF dX8_overCells_180 (by decide) hm (fun hm => ?_) (fun hm => ?_)
    · refine po_sub (L' := [(0, .ref l0), (1, .int l1), (2, .int l2), (3, .int l3), (4, .int l4), (5, .int l5), (6, .int l6)]) rfl ?_
      exact w_X8_overCells_211 hF hL HL h17 l0 l1 l2 l3 l4 l5 l6 kl0 hm
    · refine po_iload hF dX8_overCells_183 rfl ?_
      refine po_iload hF dX8_overCells_185 rfl ?_
      refine po_if_ne (tgt := 203) hF dX8_overCells_187 (by decide) hm (fun hm => ?_) (fun hm => ?_)
      · refine po_sub (L' := [(0, .ref l0), (1, .int l1), (2, .int l2), (3, .int l3), (5, .int l5), (6, .int l6)]) rfl ?_
        exact w_X8_overCells_203 hF hL HL h17 l0 l1 l2 l3 l5 l6 l4 kl0 hm
      · refine po_aload_n hF dX8_overCells_190 rfl rfl ?_
        refine po_iload_n hF dX8_overCells_191 rfl rfl ?_
        refine po_iload hF dX8_overCells_192 rfl ?_
        refine po_iload hF dX8_overCells_194 rfl ?_
        refine po_iload_n hF dX8_overCells_196 rfl rfl ?_
        obtain ⟨x3, hx3, hm⟩ := po_bind hm
        refine po_callV (As := [.int l3, .int l7, .int l8, .int l1]) hF dX8_overCells_197 wq_1446 mv_X8_isBuilt ws_X8_isBuilt (show po_cl[8]? = some _ from rfl) rfl kl0 (c_X8_isBuilt HL kl0 hx3) rfl (po_rtL hL rfl) (Nat.le_of_ble_eq_true rfl) rfl ?_
        refine po_if_eq (tgt := 207) hF dX8_overCells_200 (by decide) hm (fun hm => ?_) (fun hm => ?_)
        · refine po_iconst (v := 0) hF dX8_overCells_207 (by decide) ?_
          refine po_sub (L' := [(0, .ref l0), (1, .int l1), (2, .int l2), (3, .int l3), (5, .int l5), (6, .int l6)]) rfl ?_
          exact w_X8_overCells_208 hF hL HL h17 l0 l1 l2 l3 l5 l6 l4 0 kl0 hm
        · refine po_sub (L' := [(0, .ref l0), (1, .int l1), (2, .int l2), (3, .int l3), (5, .int l5), (6, .int l6)]) rfl ?_
          exact w_X8_overCells_203 hF hL HL h17 l0 l1 l2 l3 l5 l6 l4 kl0 hm
set_option maxRecDepth 20000 in
set_option maxHeartbeats 2000000 in
theorem w_X8_overCells_158 {X : po_X} {G : po_G} {st : Nat → Nat} {K : po_K} {I : po_I} {R : po_R} {ρ : Int32} {r17 : Nat → Int32 → Int32 → Int32 → Int32 → Int32 → Int32 → Option (Int32)} (hF : po_F X G cX8_overCells RX8 10 st) (hL : po_L X (some .int) 5 0 0 "overCells") (HL : po_Lay K R st) (h17 : ∀ (l0 : Nat) (l1 : Int32) (l2 : Int32) (l3 : Int32) (l4 : Int32) (l5 : Int32) (l6 : Int32), r17 l0 l1 l2 l3 l4 l5 l6 = some ρ → K l0 = (19, 19) → po_V X G 10 (po_Q X G (.inl (some (.int ρ))) K R I none 0 0) 0 0 17 [(0, .ref l0), (1, .int l1), (2, .int l2), (3, .int l3), (4, .int l4), (5, .int l5), (6, .int l6)] [] K R I none) (l0 : Nat) (l1 : Int32) (l2 : Int32) (l3 : Int32) (l4 : Int32) (l6 : Int32) (s0 : Int32) (s1 : Int32) (kl0 : K l0 = (19, 19)) (hm : m_X8_overCells_158 I r17 l0 l1 l2 l3 l4 l6 s0 s1 = some ρ) : po_V X G 10 (po_Q X G (.inl (some (.int ρ))) K R I none 0 0) 0 0 158 [(0, .ref l0), (1, .int l1), (2, .int l2), (3, .int l3), (4, .int l4), (6, .int l6)] [.int s1, .int s0] K R I none := by
  unfold m_X8_overCells_158 at hm
  refine po_min hF hL dX8_overCells_158 wq_1363 ⟨wq_904, wq_106, wq_905⟩ (Nat.le_of_ble_eq_true rfl) (by decide) (by decide) (by decide) ?_
  refine po_top hm (fun v4 hm => ?_)
  refine po_istore (L' := [(5, .int v4), (0, .ref l0), (1, .int l1), (2, .int l2), (3, .int l3), (4, .int l4), (6, .int l6)]) hF dX8_overCells_161 (by decide) rfl ?_
  refine po_goto (tgt := 211) hF dX8_overCells_163 (by decide) ?_
  refine po_sub (L' := [(0, .ref l0), (1, .int l1), (2, .int l2), (3, .int l3), (4, .int l4), (5, .int v4), (6, .int l6)]) rfl ?_
  exact w_X8_overCells_211 hF hL HL h17 l0 l1 l2 l3 l4 v4 l6 kl0 hm
set_option maxRecDepth 20000 in
set_option maxHeartbeats 2000000 in
theorem w_X8_overCells_120 {X : po_X} {G : po_G} {st : Nat → Nat} {K : po_K} {I : po_I} {R : po_R} {ρ : Int32} {r17 : Nat → Int32 → Int32 → Int32 → Int32 → Int32 → Int32 → Option (Int32)} (hF : po_F X G cX8_overCells RX8 10 st) (hL : po_L X (some .int) 5 0 0 "overCells") (HL : po_Lay K R st) (h17 : ∀ (l0 : Nat) (l1 : Int32) (l2 : Int32) (l3 : Int32) (l4 : Int32) (l5 : Int32) (l6 : Int32), r17 l0 l1 l2 l3 l4 l5 l6 = some ρ → K l0 = (19, 19) → po_V X G 10 (po_Q X G (.inl (some (.int ρ))) K R I none 0 0) 0 0 17 [(0, .ref l0), (1, .int l1), (2, .int l2), (3, .int l3), (4, .int l4), (5, .int l5), (6, .int l6)] [] K R I none) (l0 : Nat) (l1 : Int32) (l2 : Int32) (l3 : Int32) (l4 : Int32) (l5 : Int32) (l6 : Int32) (l7 : Int32) (l8 : Int32) (l9 : Int32) (kl0 : K l0 = (19, 19)) (hm : m_X8_overCells_120 I r17 l0 l1 l2 l3 l4 l5 l6 l7 l8 l9 = some ρ) : po_V X G 10 (po_Q X G (.inl (some (.int ρ))) K R I none 0 0) 0 0 120 [(0, .ref l0), (1, .int l1), (2, .int l2), (3, .int l3), (4, .int l4), (5, .int l5), (6, .int l6), (7, .int l7), (8, .int l8), (9, .int l9)] [] K R I none := by
  unfold m_X8_overCells_120 at hm
  refine po_iload hF dX8_overCells_120 rfl ?_
  refine po_if_eq (tgt := 166) hF dX8_overCells_122 (by decide) hm (fun hm => ?_) (fun hm => ?_)
  · exact w_X8_overCells_166 hF hL HL h17 l0 l1 l2 l3 l4 l5 l6 l7 l8 l9 kl0 hm
  · refine po_iload_n hF dX8_overCells_125 rfl rfl ?_
    refine po_iconst (v := 4) hF dX8_overCells_126 (by decide) ?_
    refine po_icmp_ge (tgt := 166) hF dX8_overCells_127 (by decide) hm (fun hm => ?_) (fun hm => ?_)
    · exact w_X8_overCells_166 hF hL HL h17 l0 l1 l2 l3 l4 l5 l6 l7 l8 l9 kl0 hm
    · refine po_iload hF dX8_overCells_130 rfl ?_
      refine po_iload_n hF dX8_overCells_132 rfl rfl ?_
      refine po_iconst (v := 2) hF dX8_overCells_133 (by decide) ?_
      refine po_icmp_ne (tgt := 149) hF dX8_overCells_134 (by decide) hm (fun hm => ?_) (fun hm => ?_)
      · refine po_aload_n hF dX8_overCells_149 rfl rfl ?_
        refine po_iload_n hF dX8_overCells_150 rfl rfl ?_
        refine po_iload hF dX8_overCells_151 rfl ?_
        refine po_iload hF dX8_overCells_153 rfl ?_
        obtain ⟨x5, hx5, hm⟩ := po_bind hm
        refine po_callV (As := [.int l3, .int l7, .int l8]) hF dX8_overCells_155 wq_1501 mv_X8_sideDistance ws_X8_sideDistance (show po_cl[8]? = some _ from rfl) rfl kl0 (c_X8_sideDistance HL kl0 hx5) rfl (po_rtL hL rfl) (Nat.le_of_ble_eq_true rfl) rfl ?_
        refine po_sub (L' := [(0, .ref l0), (1, .int l1), (2, .int l2), (3, .int l3), (4, .int l4), (6, .int l6)]) rfl ?_
        exact w_X8_overCells_158 hF hL HL h17 l0 l1 l2 l3 l4 l6 l5 x5 kl0 hm
      · refine po_aload_n hF dX8_overCells_137 rfl rfl ?_
        refine po_iload_n hF dX8_overCells_138 rfl rfl ?_
        refine po_iload hF dX8_overCells_139 rfl ?_
        refine po_iload hF dX8_overCells_141 rfl ?_
        obtain ⟨x6, hx6, hm⟩ := po_bind hm
        refine po_callV (As := [.int l3, .int l7, .int l8]) hF dX8_overCells_143 wq_1497 mv_X8_frontDistance ws_X8_frontDistance (show po_cl[8]? = some _ from rfl) rfl kl0 (c_X8_frontDistance HL kl0 hx6) rfl (po_rtL hL rfl) (Nat.le_of_ble_eq_true rfl) rfl ?_
        refine po_goto (tgt := 158) hF dX8_overCells_146 (by decide) ?_
        refine po_sub (L' := [(0, .ref l0), (1, .int l1), (2, .int l2), (3, .int l3), (4, .int l4), (6, .int l6)]) rfl ?_
        exact w_X8_overCells_158 hF hL HL h17 l0 l1 l2 l3 l4 l6 l5 x6 kl0 hm
set_option maxRecDepth 20000 in
set_option maxHeartbeats 2000000 in
theorem w_X8_overCells_114 {X : po_X} {G : po_G} {st : Nat → Nat} {K : po_K} {I : po_I} {R : po_R} {ρ : Int32} {r17 : Nat → Int32 → Int32 → Int32 → Int32 → Int32 → Int32 → Option (Int32)} (hF : po_F X G cX8_overCells RX8 10 st) (hL : po_L X (some .int) 5 0 0 "overCells") (HL : po_Lay K R st) (h17 : ∀ (l0 : Nat) (l1 : Int32) (l2 : Int32) (l3 : Int32) (l4 : Int32) (l5 : Int32) (l6 : Int32), r17 l0 l1 l2 l3 l4 l5 l6 = some ρ → K l0 = (19, 19) → po_V X G 10 (po_Q X G (.inl (some (.int ρ))) K R I none 0 0) 0 0 17 [(0, .ref l0), (1, .int l1), (2, .int l2), (3, .int l3), (4, .int l4), (5, .int l5), (6, .int l6)] [] K R I none) (l0 : Nat) (l1 : Int32) (l2 : Int32) (l3 : Int32) (l5 : Int32) (l6 : Int32) (s0 : Int32) (s1 : Int32) (kl0 : K l0 = (19, 19)) (hm : m_X8_overCells_114 I r17 l0 l1 l2 l3 l5 l6 s0 s1 = some ρ) : po_V X G 10 (po_Q X G (.inl (some (.int ρ))) K R I none 0 0) 0 0 114 [(0, .ref l0), (1, .int l1), (2, .int l2), (3, .int l3), (5, .int l5), (6, .int l6)] [.int s1, .int s0] K R I none := by
  unfold m_X8_overCells_114 at hm
  refine po_iadd hF dX8_overCells_114 ?_
  refine po_top hm (fun v7 hm => ?_)
  refine po_istore (L' := [(4, .int v7), (0, .ref l0), (1, .int l1), (2, .int l2), (3, .int l3), (5, .int l5), (6, .int l6)]) hF dX8_overCells_115 (by decide) rfl ?_
  refine po_goto (tgt := 211) hF dX8_overCells_117 (by decide) ?_
  refine po_sub (L' := [(0, .ref l0), (1, .int l1), (2, .int l2), (3, .int l3), (4, .int v7), (5, .int l5), (6, .int l6)]) rfl ?_
  exact w_X8_overCells_211 hF hL HL h17 l0 l1 l2 l3 v7 l5 l6 kl0 hm
set_option maxRecDepth 20000 in
set_option maxHeartbeats 2000000 in
theorem w_X8_overCells_84 {X : po_X} {G : po_G} {st : Nat → Nat} {K : po_K} {I : po_I} {R : po_R} {ρ : Int32} {r17 : Nat → Int32 → Int32 → Int32 → Int32 → Int32 → Int32 → Option (Int32)} (hF : po_F X G cX8_overCells RX8 10 st) (hL : po_L X (some .int) 5 0 0 "overCells") (HL : po_Lay K R st) (h17 : ∀ (l0 : Nat) (l1 : Int32) (l2 : Int32) (l3 : Int32) (l4 : Int32) (l5 : Int32) (l6 : Int32), r17 l0 l1 l2 l3 l4 l5 l6 = some ρ → K l0 = (19, 19) → po_V X G 10 (po_Q X G (.inl (some (.int ρ))) K R I none 0 0) 0 0 17 [(0, .ref l0), (1, .int l1), (2, .int l2), (3, .int l3), (4, .int l4), (5, .int l5), (6, .int l6)] [] K R I none) (l0 : Nat) (l1 : Int32) (l2 : Int32) (l3 : Int32) (l4 : Int32) (l5 : Int32) (l6 : Int32) (l7 : Int32) (l8 : Int32) (l9 : Int32) (kl0 : K l0 = (19, 19)) (hm : m_X8_overCells_84 I r17 l0 l1 l2 l3 l4 l5 l6 l7 l8 l9 = some ρ) : po_V X G 10 (po_Q X G (.inl (some (.int ρ))) K R I none 0 0) 0 0 84 [(0, .ref l0), (1, .int l1), (2, .int l2), (3, .int l3), (4, .int l4), (5, .int l5), (6, .int l6), (7, .int l7), (8, .int l8), (9, .int l9)] [] K R I none := by
  unfold m_X8_overCells_84 at hm
  refine po_iload hF dX8_overCells_84 rfl ?_
  refine po_if_eq (tgt := 120) hF dX8_overCells_86 (by decide) hm (fun hm => ?_) (fun hm => ?_)
  · exact w_X8_overCells_120 hF hL HL h17 l0 l1 l2 l3 l4 l5 l6 l7 l8 l9 kl0 hm
  · refine po_iload_n hF dX8_overCells_89 rfl rfl ?_
    refine po_iconst (v := 1) hF dX8_overCells_90 (by decide) ?_
    refine po_icmp_ne (tgt := 120) hF dX8_overCells_91 (by decide) hm (fun hm => ?_) (fun hm => ?_)
    · exact w_X8_overCells_120 hF hL HL h17 l0 l1 l2 l3 l4 l5 l6 l7 l8 l9 kl0 hm
    · refine po_iload hF dX8_overCells_94 rfl ?_
      refine po_aload_n hF dX8_overCells_96 rfl rfl ?_
      refine po_iload_n hF dX8_overCells_97 rfl rfl ?_
      refine po_iload hF dX8_overCells_98 rfl ?_
      refine po_iload hF dX8_overCells_100 rfl ?_
      refine po_iload_n hF dX8_overCells_102 rfl rfl ?_
      obtain ⟨x8, hx8, hm⟩ := po_bind hm
      refine po_callV (As := [.int l3, .int l7, .int l8, .int l1]) hF dX8_overCells_103 wq_1446 mv_X8_isBuilt ws_X8_isBuilt (show po_cl[8]? = some _ from rfl) rfl kl0 (c_X8_isBuilt HL kl0 hx8) rfl (po_rtL hL rfl) (Nat.le_of_ble_eq_true rfl) rfl ?_
      refine po_if_eq (tgt := 113) hF dX8_overCells_106 (by decide) hm (fun hm => ?_) (fun hm => ?_)
      · refine po_iconst (v := 0) hF dX8_overCells_113 (by decide) ?_
        refine po_sub (L' := [(0, .ref l0), (1, .int l1), (2, .int l2), (3, .int l3), (5, .int l5), (6, .int l6)]) rfl ?_
        exact w_X8_overCells_114 hF hL HL h17 l0 l1 l2 l3 l5 l6 l4 0 kl0 hm
      · refine po_iconst (v := 1) hF dX8_overCells_109 (by decide) ?_
        refine po_goto (tgt := 114) hF dX8_overCells_110 (by decide) ?_
        refine po_sub (L' := [(0, .ref l0), (1, .int l1), (2, .int l2), (3, .int l3), (5, .int l5), (6, .int l6)]) rfl ?_
        exact w_X8_overCells_114 hF hL HL h17 l0 l1 l2 l3 l5 l6 l4 1 kl0 hm
set_option maxRecDepth 20000 in
set_option maxHeartbeats 2000000 in
theorem w_X8_overCells_78 {X : po_X} {G : po_G} {st : Nat → Nat} {K : po_K} {I : po_I} {R : po_R} {ρ : Int32} {r17 : Nat → Int32 → Int32 → Int32 → Int32 → Int32 → Int32 → Option (Int32)} (hF : po_F X G cX8_overCells RX8 10 st) (hL : po_L X (some .int) 5 0 0 "overCells") (HL : po_Lay K R st) (h17 : ∀ (l0 : Nat) (l1 : Int32) (l2 : Int32) (l3 : Int32) (l4 : Int32) (l5 : Int32) (l6 : Int32), r17 l0 l1 l2 l3 l4 l5 l6 = some ρ → K l0 = (19, 19) → po_V X G 10 (po_Q X G (.inl (some (.int ρ))) K R I none 0 0) 0 0 17 [(0, .ref l0), (1, .int l1), (2, .int l2), (3, .int l3), (4, .int l4), (5, .int l5), (6, .int l6)] [] K R I none) (l0 : Nat) (l1 : Int32) (l2 : Int32) (l3 : Int32) (l5 : Int32) (l6 : Int32) (s0 : Int32) (s1 : Int32) (kl0 : K l0 = (19, 19)) (hm : m_X8_overCells_78 I r17 l0 l1 l2 l3 l5 l6 s0 s1 = some ρ) : po_V X G 10 (po_Q X G (.inl (some (.int ρ))) K R I none 0 0) 0 0 78 [(0, .ref l0), (1, .int l1), (2, .int l2), (3, .int l3), (5, .int l5), (6, .int l6)] [.int s1, .int s0] K R I none := by
  unfold m_X8_overCells_78 at hm
  refine po_iadd hF dX8_overCells_78 ?_
  refine po_top hm (fun v9 hm => ?_)
  refine po_istore (L' := [(4, .int v9), (0, .ref l0), (1, .int l1), (2, .int l2), (3, .int l3), (5, .int l5), (6, .int l6)]) hF dX8_overCells_79 (by decide) rfl ?_
  refine po_goto (tgt := 211) hF dX8_overCells_81 (by decide) ?_
  refine po_sub (L' := [(0, .ref l0), (1, .int l1), (2, .int l2), (3, .int l3), (4, .int v9), (5, .int l5), (6, .int l6)]) rfl ?_
  exact w_X8_overCells_211 hF hL HL h17 l0 l1 l2 l3 v9 l5 l6 kl0 hm
set_option maxRecDepth 20000 in
set_option maxHeartbeats 2000000 in
theorem w_X8_overCells_17 {X : po_X} {G : po_G} {st : Nat → Nat} {K : po_K} {I : po_I} {R : po_R} {ρ : Int32} {r17 : Nat → Int32 → Int32 → Int32 → Int32 → Int32 → Int32 → Option (Int32)} (hF : po_F X G cX8_overCells RX8 10 st) (hL : po_L X (some .int) 5 0 0 "overCells") (HL : po_Lay K R st) (h17 : ∀ (l0 : Nat) (l1 : Int32) (l2 : Int32) (l3 : Int32) (l4 : Int32) (l5 : Int32) (l6 : Int32), r17 l0 l1 l2 l3 l4 l5 l6 = some ρ → K l0 = (19, 19) → po_V X G 10 (po_Q X G (.inl (some (.int ρ))) K R I none 0 0) 0 0 17 [(0, .ref l0), (1, .int l1), (2, .int l2), (3, .int l3), (4, .int l4), (5, .int l5), (6, .int l6)] [] K R I none) (l0 : Nat) (l1 : Int32) (l2 : Int32) (l3 : Int32) (l4 : Int32) (l5 : Int32) (l6 : Int32) (kl0 : K l0 = (19, 19)) (hm : m_X8_overCells_17 I r17 l0 l1 l2 l3 l4 l5 l6 = some ρ) : po_V X G 10 (po_Q X G (.inl (some (.int ρ))) K R I none 0 0) 0 0 17 [(0, .ref l0), (1, .int l1), (2, .int l2), (3, .int l3), (4, .int l4), (5, .int l5), (6, .int l6)] [] K R I none := by
  unfold m_X8_overCells_17 at hm
  refine po_iload hF dX8_overCells_17 rfl ?_
  refine po_sipush (v := 280) hF dX8_overCells_19 (by decide) ?_
  refine po_icmp_ge (tgt := 217) hF dX8_overCells_22 (by decide) hm (fun hm => ?_) (fun hm => ?_)
  · refine po_iload_n hF dX8_overCells_217 rfl rfl ?_
    refine po_iconst (v := 2) hF dX8_overCells_218 (by decide) ?_
    refine po_icmp_eq (tgt := 227) hF dX8_overCells_219 (by decide) hm (fun hm => ?_) (fun hm => ?_)
    · refine po_sub (L' := [(5, .int l5)]) rfl ?_
      exact w_X8_overCells_227 hF hL HL l5 hm
    · refine po_iload_n hF dX8_overCells_222 rfl rfl ?_
      refine po_iconst (v := 3) hF dX8_overCells_223 (by decide) ?_
      refine po_icmp_ne (tgt := 232) hF dX8_overCells_224 (by decide) hm (fun hm => ?_) (fun hm => ?_)
      · refine po_iload hF dX8_overCells_232 rfl ?_
        refine po_sub (L' := []) rfl ?_
        exact w_X8_overCells_234 hF hL HL l4 hm
      · refine po_sub (L' := [(5, .int l5)]) rfl ?_
        exact w_X8_overCells_227 hF hL HL l5 hm
  · refine po_iload hF dX8_overCells_25 rfl ?_
    refine po_bipush (v := 20) hF dX8_overCells_27 (by decide) ?_
    refine po_iremK hF dX8_overCells_29 (by decide) ?_
    refine po_top hm (fun v10 hm => ?_)
    refine po_istore (L' := [(7, .int v10), (0, .ref l0), (1, .int l1), (2, .int l2), (3, .int l3), (4, .int l4), (5, .int l5), (6, .int l6)]) hF dX8_overCells_30 (by decide) rfl ?_
    refine po_iload hF dX8_overCells_32 rfl ?_
    refine po_bipush (v := 20) hF dX8_overCells_34 (by decide) ?_
    refine po_idivK hF dX8_overCells_36 (by decide) ?_
    refine po_top hm (fun v11 hm => ?_)
    refine po_istore (L' := [(8, .int v11), (7, .int v10), (0, .ref l0), (1, .int l1), (2, .int l2), (3, .int l3), (4, .int l4), (5, .int l5), (6, .int l6)]) hF dX8_overCells_37 (by decide) rfl ?_
    refine po_aload_n hF dX8_overCells_39 rfl rfl ?_
    refine po_iload_n hF dX8_overCells_40 rfl rfl ?_
    refine po_iload hF dX8_overCells_41 rfl ?_
    refine po_iload hF dX8_overCells_43 rfl ?_
    obtain ⟨x12, hx12, hm⟩ := po_bind hm
    refine po_callV (As := [.int l1, .int v10, .int v11]) hF dX8_overCells_45 wq_1454 mv_X8_isInBuilding ws_X8_isInBuilding (show po_cl[8]? = some _ from rfl) rfl kl0 (c_X8_isInBuilding HL kl0 hx12) rfl (po_rtL hL rfl) (Nat.le_of_ble_eq_true rfl) rfl ?_
    refine po_istore (L' := [(9, .int x12), (8, .int v11), (7, .int v10), (0, .ref l0), (1, .int l1), (2, .int l2), (3, .int l3), (4, .int l4), (5, .int l5), (6, .int l6)]) hF dX8_overCells_48 (by decide) rfl ?_
    refine po_iload hF dX8_overCells_50 rfl ?_
    refine po_if_eq (tgt := 84) hF dX8_overCells_52 (by decide) hm (fun hm => ?_) (fun hm => ?_)
    · refine po_sub (L' := [(0, .ref l0), (1, .int l1), (2, .int l2), (3, .int l3), (4, .int l4), (5, .int l5), (6, .int l6), (7, .int v10), (8, .int v11), (9, .int x12)]) rfl ?_
      exact w_X8_overCells_84 hF hL HL h17 l0 l1 l2 l3 l4 l5 l6 v10 v11 x12 kl0 hm
    · refine po_iload_n hF dX8_overCells_55 rfl rfl ?_
      refine po_if_ne (tgt := 84) hF dX8_overCells_56 (by decide) hm (fun hm => ?_) (fun hm => ?_)
      · refine po_sub (L' := [(0, .ref l0), (1, .int l1), (2, .int l2), (3, .int l3), (4, .int l4), (5, .int l5), (6, .int l6), (7, .int v10), (8, .int v11), (9, .int x12)]) rfl ?_
        exact w_X8_overCells_84 hF hL HL h17 l0 l1 l2 l3 l4 l5 l6 v10 v11 x12 kl0 hm
      · refine po_iload hF dX8_overCells_59 rfl ?_
        refine po_aload_n hF dX8_overCells_61 rfl rfl ?_
        refine po_iload_n hF dX8_overCells_62 rfl rfl ?_
        refine po_iload hF dX8_overCells_63 rfl ?_
        refine po_iload hF dX8_overCells_65 rfl ?_
        obtain ⟨x13, hx13, hm⟩ := po_bind hm
        refine po_callV (As := [.int l3, .int v10, .int v11]) hF dX8_overCells_67 wq_1347 mv_X8_isInLot ws_X8_isInLot (show po_cl[8]? = some _ from rfl) rfl kl0 (c_X8_isInLot HL kl0 hx13) rfl (po_rtL hL rfl) (Nat.le_of_ble_eq_true rfl) rfl ?_
        refine po_if_eq (tgt := 77) hF dX8_overCells_70 (by decide) hm (fun hm => ?_) (fun hm => ?_)
        · refine po_iconst (v := 1) hF dX8_overCells_77 (by decide) ?_
          refine po_sub (L' := [(0, .ref l0), (1, .int l1), (2, .int l2), (3, .int l3), (5, .int l5), (6, .int l6)]) rfl ?_
          exact w_X8_overCells_78 hF hL HL h17 l0 l1 l2 l3 l5 l6 l4 1 kl0 hm
        · refine po_iconst (v := 0) hF dX8_overCells_73 (by decide) ?_
          refine po_goto (tgt := 78) hF dX8_overCells_74 (by decide) ?_
          refine po_sub (L' := [(0, .ref l0), (1, .int l1), (2, .int l2), (3, .int l3), (5, .int l5), (6, .int l6)]) rfl ?_
          exact w_X8_overCells_78 hF hL HL h17 l0 l1 l2 l3 l5 l6 l4 0 kl0 hm
theorem w_X8_overCells_17L {X : po_X} {G : po_G} {st : Nat → Nat} {K : po_K} {I : po_I} {R : po_R} {ρ : Int32} (hF : po_F X G cX8_overCells RX8 10 st) (hL : po_L X (some .int) 5 0 0 "overCells") (HL : po_Lay K R st) : ∀ (n : Nat) (l0 : Nat) (l1 : Int32) (l2 : Int32) (l3 : Int32) (l4 : Int32) (l5 : Int32) (l6 : Int32), m_X8_overCells_17L I n l0 l1 l2 l3 l4 l5 l6 = some ρ → K l0 = (19, 19) → po_V X G 10 (po_Q X G (.inl (some (.int ρ))) K R I none 0 0) 0 0 17 [(0, .ref l0), (1, .int l1), (2, .int l2), (3, .int l3), (4, .int l4), (5, .int l5), (6, .int l6)] [] K R I none := by
  intro n
  induction n with
  | zero => intro l0 l1 l2 l3 l4 l5 l6 hm; cases hm
  | succ n ih => intro l0 l1 l2 l3 l4 l5 l6 hm kl0; exact w_X8_overCells_17 hF hL HL (ih) l0 l1 l2 l3 l4 l5 l6 kl0 hm
set_option maxRecDepth 20000 in
set_option maxHeartbeats 2000000 in
theorem w_X8_overCells_e {X : po_X} {G : po_G} {st : Nat → Nat} {K : po_K} {I : po_I} {R : po_R} {ρ : Int32} (hF : po_F X G cX8_overCells RX8 10 st) (hL : po_L X (some .int) 5 0 0 "overCells") (HL : po_Lay K R st) (l0 : Nat) (l1 : Int32) (l2 : Int32) (kl0 : K l0 = (19, 19)) (hm : m_X8_overCells_e I l0 l1 l2 = some ρ) : po_V X G 10 (po_Q X G (.inl (some (.int ρ))) K R I none 0 0) 0 0 0 [(0, .ref l0), (1, .int l1), (2, .int l2)] [] K R I none := by
  unfold m_X8_overCells_e at hm
  refine po_aload_n hF dX8_overCells_0 rfl rfl ?_
  refine po_iload_n hF dX8_overCells_1 rfl rfl ?_
  refine po_iconst (v := 0) hF dX8_overCells_2 (by decide) ?_
  obtain ⟨x14, hx14, hm⟩ := po_bind hm
  refine po_callV (As := [.int l1, .int 0]) hF dX8_overCells_3 wq_1380 mv_X8_at ws_X8_at (show po_cl[8]? = some _ from rfl) rfl kl0 (c_X8_at HL kl0 hx14) rfl (po_rtL hL rfl) (Nat.le_of_ble_eq_true rfl) rfl ?_
  refine po_istore_n (L' := [(3, .int x14), (0, .ref l0), (1, .int l1), (2, .int l2)]) hF dX8_overCells_6 rfl (by decide) rfl ?_
  refine po_iconst (v := 0) hF dX8_overCells_7 (by decide) ?_
  refine po_istore (L' := [(4, .int 0), (3, .int x14), (0, .ref l0), (1, .int l1), (2, .int l2)]) hF dX8_overCells_8 (by decide) rfl ?_
  refine po_bipush (v := 100) hF dX8_overCells_10 (by decide) ?_
  refine po_istore (L' := [(5, .int 100), (4, .int 0), (3, .int x14), (0, .ref l0), (1, .int l1), (2, .int l2)]) hF dX8_overCells_12 (by decide) rfl ?_
  refine po_iconst (v := 0) hF dX8_overCells_14 (by decide) ?_
  refine po_istore (L' := [(6, .int 0), (5, .int 100), (4, .int 0), (3, .int x14), (0, .ref l0), (1, .int l1), (2, .int l2)]) hF dX8_overCells_15 (by decide) rfl ?_
  refine po_sub (L' := [(0, .ref l0), (1, .int l1), (2, .int l2), (3, .int x14), (4, .int 0), (5, .int 100), (6, .int 0)]) rfl ?_
  exact w_X8_overCells_17L hF hL HL 5000 l0 l1 l2 x14 0 100 0 hm kl0
theorem c_X8_overCells {K : po_K} {R : po_R} {I : po_I} {st : Nat → Nat} {ρ : Int32} (HL : po_Lay K R st) {l0 : Nat} {l1 : Int32} {l2 : Int32} (kl0 : K l0 = (19, 19)) (hm : m_X8_overCells I l0 l1 l2 = some ρ) : po_C st yX8_overCells cX8_overCells 10 (some .int) 5 0 0 [.ref l0, .int l1, .int l2] K R I none (.inl (some (.int ρ))) K R I none := by
  refine po_ofC (by decide +kernel) (Nat.le_of_ble_eq_true rfl) (fun X G hF hL => ?_)
  exact w_X8_overCells_e hF hL HL l0 l1 l2 kl0 hm
set_option maxRecDepth 20000 in
set_option maxHeartbeats 2000000 in
theorem w_X8_up_e {X : po_X} {G : po_G} {st : Nat → Nat} {K : po_K} {I : po_I} {R : po_R} {ρ : Int32} (hF : po_F X G cX8_up RX8 2 st) (hL : po_L X (some .int) 0 0 0 "up") (HL : po_Lay K R st) (l0 : Int32) (l1 : Int32) (hm : m_X8_up_e l0 l1 = some ρ) : po_V X G 2 (po_Q X G (.inl (some (.int ρ))) K R I none 0 0) 0 0 0 [(0, .int l0), (1, .int l1)] [] K R I none := by
  unfold m_X8_up_e at hm
  refine po_iload_n hF dX8_up_0 rfl rfl ?_
  refine po_iload_n hF dX8_up_1 rfl rfl ?_
  refine po_iadd hF dX8_up_2 ?_
  refine po_iconst (v := 1) hF dX8_up_3 (by decide) ?_
  refine po_isub hF dX8_up_4 ?_
  refine po_iload_n hF dX8_up_5 rfl rfl ?_
  refine po_idiv hF dX8_up_6 hm (fun hm => ?_)
  cases hm
  exact po_iret hF hL dX8_up_7 (by decide) (by decide) rfl rfl rfl (Or.inl rfl)
theorem c_X8_up {K : po_K} {R : po_R} {I : po_I} {st : Nat → Nat} {ρ : Int32} (HL : po_Lay K R st) {l0 : Int32} {l1 : Int32} (hm : m_X8_up l0 l1 = some ρ) : po_C st yX8_up cX8_up 2 (some .int) 0 0 0 [.int l0, .int l1] K R I none (.inl (some (.int ρ))) K R I none := by
  refine po_ofC (by decide +kernel) (Nat.le_of_ble_eq_true rfl) (fun X G hF hL => ?_)
  exact w_X8_up_e hF hL HL l0 l1 hm
set_option maxRecDepth 20000 in
set_option maxHeartbeats 2000000 in
theorem w_X8_measure_e {X : po_X} {G : po_G} {st : Nat → Nat} {K : po_K} {I : po_I} {R : po_R} {ρ : Int32} (hF : po_F X G cX8_measure RX8 4 st) (hL : po_L X (some .int) 6 0 0 "measure") (HL : po_Lay K R st) (l0 : Nat) (l1 : Int32) (l2 : Int32) (kl0 : K l0 = (19, 19)) (hm : m_X8_measure_e I l0 l1 l2 = some ρ) : po_V X G 4 (po_Q X G (.inl (some (.int ρ))) K R I none 0 0) 0 0 0 [(0, .ref l0), (1, .int l1), (2, .int l2)] [] K R I none := by
  unfold m_X8_measure_e at hm
  refine po_aload_n hF dX8_measure_0 rfl rfl ?_
  refine po_iload_n hF dX8_measure_1 rfl rfl ?_
  refine po_iconst (v := 0) hF dX8_measure_2 (by decide) ?_
  obtain ⟨x1, hx1, hm⟩ := po_bind hm
  refine po_callV (As := [.int l1, .int 0]) hF dX8_measure_3 wq_1380 mv_X8_at ws_X8_at (show po_cl[8]? = some _ from rfl) rfl kl0 (c_X8_at HL kl0 hx1) rfl (po_rtL hL rfl) (Nat.le_of_ble_eq_true rfl) rfl ?_
  refine po_istore_n (L' := [(3, .int x1), (0, .ref l0), (1, .int l1), (2, .int l2)]) hF dX8_measure_6 rfl (by decide) rfl ?_
  refine po_iload_n hF dX8_measure_7 rfl rfl ?_
  by_cases hs0 : l2 = 4
  · rw [if_pos hs0] at hm
    refine po_tin (c := 4) (tgt := 44) (off := 36) hF dX8_measure_8 hs0 (by decide) (by decide) (by decide) (by decide) ?_
    refine po_bipush (v := 100) hF dX8_measure_44 (by decide) ?_
    refine po_aload_n hF dX8_measure_46 rfl rfl ?_
    refine po_iload_n hF dX8_measure_47 rfl rfl ?_
    refine po_iconst (v := 4) hF dX8_measure_48 (by decide) ?_
    obtain ⟨x2, hx2, hm⟩ := po_bind hm
    refine po_callV (As := [.int l1, .int 4]) hF dX8_measure_49 wq_1537 mv_X8_overCells ws_X8_overCells (show po_cl[8]? = some _ from rfl) rfl kl0 (c_X8_overCells HL kl0 hx2) rfl (po_rtL hL rfl) (Nat.le_of_ble_eq_true rfl) rfl ?_
    refine po_imul hF dX8_measure_52 ?_
    refine po_aload_n hF dX8_measure_53 rfl rfl ?_
    refine po_iload_n hF dX8_measure_54 rfl rfl ?_
    obtain ⟨x3, hx3, hm⟩ := po_bind hm
    refine po_callV (As := [.int x1]) hF dX8_measure_55 wq_1438 mv_X8_lotCells ws_X8_lotCells (show po_cl[8]? = some _ from rfl) rfl kl0 (c_X8_lotCells HL kl0 hx3) rfl (po_rtL hL rfl) (Nat.le_of_ble_eq_true rfl) rfl ?_
    obtain ⟨x4, hx4, hm⟩ := po_bind hm
    refine po_callS (As := [.int (100 * x2), .int x3]) hF dX8_measure_58 wq_1541 mv_X8_up (c_X8_up HL hx4) rfl (po_rtL hL rfl) (Nat.le_of_ble_eq_true rfl) rfl ?_
    cases hm
    exact po_iret hF hL dX8_measure_61 (by decide) (by decide) rfl rfl rfl (Or.inl rfl)
  rw [if_neg hs0] at hm
  by_cases hs1 : l2 = 5
  · rw [if_pos hs1] at hm
    refine po_tin (c := 5) (tgt := 62) (off := 54) hF dX8_measure_8 hs1 (by decide) (by decide) (by decide) (by decide) ?_
    refine po_aload_n hF dX8_measure_62 rfl rfl ?_
    refine po_iload_n hF dX8_measure_63 rfl rfl ?_
    refine po_bipush (v := 17) hF dX8_measure_64 (by decide) ?_
    obtain ⟨x5, hx5, hm⟩ := po_bind hm
    refine po_callV (As := [.int l1, .int 17]) hF dX8_measure_66 wq_1380 mv_X8_at ws_X8_at (show po_cl[8]? = some _ from rfl) rfl kl0 (c_X8_at HL kl0 hx5) rfl (po_rtL hL rfl) (Nat.le_of_ble_eq_true rfl) rfl ?_
    cases hm
    exact po_iret hF hL dX8_measure_69 (by decide) (by decide) rfl rfl rfl (Or.inl rfl)
  rw [if_neg hs1] at hm
  by_cases hs2 : l2 = 6
  · rw [if_pos hs2] at hm
    refine po_tin (c := 6) (tgt := 70) (off := 62) hF dX8_measure_8 hs2 (by decide) (by decide) (by decide) (by decide) ?_
    refine po_bipush (v := 10) hF dX8_measure_70 (by decide) ?_
    refine po_aload_n hF dX8_measure_72 rfl rfl ?_
    refine po_iload_n hF dX8_measure_73 rfl rfl ?_
    obtain ⟨x6, hx6, hm⟩ := po_bind hm
    refine po_callV (As := [.int l1]) hF dX8_measure_74 wq_1368 mv_X8_floorArea ws_X8_floorArea (show po_cl[8]? = some _ from rfl) rfl kl0 (c_X8_floorArea HL kl0 hx6) rfl (po_rtL hL rfl) (Nat.le_of_ble_eq_true rfl) rfl ?_
    refine po_aload_n hF dX8_measure_77 rfl rfl ?_
    refine po_iload_n hF dX8_measure_78 rfl rfl ?_
    refine po_iload_n hF dX8_measure_79 rfl rfl ?_
    obtain ⟨x7, hx7, hm⟩ := po_bind hm
    refine po_callV (As := [.int x1, .int l1]) hF dX8_measure_80 wq_1458 mv_X8_floorAreas ws_X8_floorAreas (show po_cl[8]? = some _ from rfl) rfl kl0 (c_X8_floorAreas HL kl0 hx7) rfl (po_rtL hL rfl) (Nat.le_of_ble_eq_true rfl) rfl ?_
    refine po_iadd hF dX8_measure_83 ?_
    refine po_imul hF dX8_measure_84 ?_
    refine po_aload_n hF dX8_measure_85 rfl rfl ?_
    refine po_iload_n hF dX8_measure_86 rfl rfl ?_
    obtain ⟨x8, hx8, hm⟩ := po_bind hm
    refine po_callV (As := [.int x1]) hF dX8_measure_87 wq_1438 mv_X8_lotCells ws_X8_lotCells (show po_cl[8]? = some _ from rfl) rfl kl0 (c_X8_lotCells HL kl0 hx8) rfl (po_rtL hL rfl) (Nat.le_of_ble_eq_true rfl) rfl ?_
    obtain ⟨x9, hx9, hm⟩ := po_bind hm
    refine po_callS (As := [.int (10 * (x6 + x7)), .int x8]) hF dX8_measure_90 wq_1541 mv_X8_up (c_X8_up HL hx9) rfl (po_rtL hL rfl) (Nat.le_of_ble_eq_true rfl) rfl ?_
    cases hm
    exact po_iret hF hL dX8_measure_93 (by decide) (by decide) rfl rfl rfl (Or.inl rfl)
  rw [if_neg hs2] at hm
  by_cases hs3 : l2 = 7
  · rw [if_pos hs3] at hm
    refine po_tin (c := 7) (tgt := 94) (off := 86) hF dX8_measure_8 hs3 (by decide) (by decide) (by decide) (by decide) ?_
    refine po_aload_n hF dX8_measure_94 rfl rfl ?_
    refine po_iload_n hF dX8_measure_95 rfl rfl ?_
    refine po_iconst (v := 1) hF dX8_measure_96 (by decide) ?_
    obtain ⟨x10, hx10, hm⟩ := po_bind hm
    refine po_callV (As := [.int l1, .int 1]) hF dX8_measure_97 wq_1380 mv_X8_at ws_X8_at (show po_cl[8]? = some _ from rfl) rfl kl0 (c_X8_at HL kl0 hx10) rfl (po_rtL hL rfl) (Nat.le_of_ble_eq_true rfl) rfl ?_
    cases hm
    exact po_iret hF hL dX8_measure_100 (by decide) (by decide) rfl rfl rfl (Or.inl rfl)
  rw [if_neg hs3] at hm
  by_cases hs4 : l2 = 8
  · rw [if_pos hs4] at hm
    refine po_tin (c := 8) (tgt := 101) (off := 93) hF dX8_measure_8 hs4 (by decide) (by decide) (by decide) (by decide) ?_
    refine po_aload_n hF dX8_measure_101 rfl rfl ?_
    refine po_iload_n hF dX8_measure_102 rfl rfl ?_
    refine po_bipush (v := 18) hF dX8_measure_103 (by decide) ?_
    obtain ⟨x11, hx11, hm⟩ := po_bind hm
    refine po_callV (As := [.int l1, .int 18]) hF dX8_measure_105 wq_1380 mv_X8_at ws_X8_at (show po_cl[8]? = some _ from rfl) rfl kl0 (c_X8_at HL kl0 hx11) rfl (po_rtL hL rfl) (Nat.le_of_ble_eq_true rfl) rfl ?_
    cases hm
    exact po_iret hF hL dX8_measure_108 (by decide) (by decide) rfl rfl rfl (Or.inl rfl)
  rw [if_neg hs4] at hm
  refine po_tout (tgt := 109) hF dX8_measure_8 (po_tdef (lo := 4) (m := 5) (fun j hj => by
    rcases (show j = 0 ∨ j = 1 ∨ j = 2 ∨ j = 3 ∨ j = 4 by omega) with rfl | rfl | rfl | rfl | rfl
    · exact po_neI (c := 4) hs0 (by decide)
    · exact po_neI (c := 5) hs1 (by decide)
    · exact po_neI (c := 6) hs2 (by decide)
    · exact po_neI (c := 7) hs3 (by decide)
    · exact po_neI (c := 8) hs4 (by decide)
    )) (by decide) ?_
  refine po_aload_n hF dX8_measure_109 rfl rfl ?_
  refine po_iload_n hF dX8_measure_110 rfl rfl ?_
  refine po_iload_n hF dX8_measure_111 rfl rfl ?_
  obtain ⟨x12, hx12, hm⟩ := po_bind hm
  refine po_callV (As := [.int l1, .int l2]) hF dX8_measure_112 wq_1537 mv_X8_overCells ws_X8_overCells (show po_cl[8]? = some _ from rfl) rfl kl0 (c_X8_overCells HL kl0 hx12) rfl (po_rtL hL rfl) (Nat.le_of_ble_eq_true rfl) rfl ?_
  cases hm
  exact po_iret hF hL dX8_measure_115 (by decide) (by decide) rfl rfl rfl (Or.inl rfl)
theorem c_X8_measure {K : po_K} {R : po_R} {I : po_I} {st : Nat → Nat} {ρ : Int32} (HL : po_Lay K R st) {l0 : Nat} {l1 : Int32} {l2 : Int32} (kl0 : K l0 = (19, 19)) (hm : m_X8_measure I l0 l1 l2 = some ρ) : po_C st yX8_measure cX8_measure 4 (some .int) 6 0 0 [.ref l0, .int l1, .int l2] K R I none (.inl (some (.int ρ))) K R I none := by
  refine po_ofC (by decide +kernel) (Nat.le_of_ble_eq_true rfl) (fun X G hF hL => ?_)
  exact w_X8_measure_e hF hL HL l0 l1 l2 kl0 hm
set_option maxRecDepth 20000 in
set_option maxHeartbeats 2000000 in
theorem w_X8_ruleOf_e {X : po_X} {G : po_G} {st : Nat → Nat} {K : po_K} {I : po_I} {R : po_R} {ρ : Int32} (hF : po_F X G cX8_ruleOf RX8 3 st) (hL : po_L X (some .int) 1 0 0 "ruleOf") (HL : po_Lay K R st) (l0 : Nat) (l1 : Int32) (l2 : Int32) (kl0 : K l0 = (19, 19)) (hm : m_X8_ruleOf_e I l0 l1 l2 = some ρ) : po_V X G 3 (po_Q X G (.inl (some (.int ρ))) K R I none 0 0) 0 0 0 [(0, .ref l0), (1, .int l1), (2, .int l2)] [] K R I none := by
  unfold m_X8_ruleOf_e at hm
  refine po_aload_n hF dX8_ruleOf_0 rfl rfl ?_
  refine po_getf (v := .ref (l0 + 1)) hF dX8_ruleOf_1 fl_X8_13 kl0 (ly_8_1 HL kl0).1 ?_
  refine po_iconst (v := 4) hF dX8_ruleOf_4 (by decide) ?_
  refine po_bipush (v := 7) hF dX8_ruleOf_5 (by decide) ?_
  refine po_aload_n hF dX8_ruleOf_7 rfl rfl ?_
  refine po_aload_n hF dX8_ruleOf_8 rfl rfl ?_
  refine po_iload_n hF dX8_ruleOf_9 rfl rfl ?_
  refine po_iconst (v := 0) hF dX8_ruleOf_10 (by decide) ?_
  obtain ⟨x1, hx1, hm⟩ := po_bind hm
  refine po_callV (As := [.int l1, .int 0]) hF dX8_ruleOf_11 wq_1380 mv_X8_at ws_X8_at (show po_cl[8]? = some _ from rfl) rfl kl0 (c_X8_at HL kl0 hx1) rfl (po_rtL hL rfl) (Nat.le_of_ble_eq_true rfl) rfl ?_
  refine po_iconst (v := 0) hF dX8_ruleOf_14 (by decide) ?_
  obtain ⟨x2, hx2, hm⟩ := po_bind hm
  refine po_callV (As := [.int x1, .int 0]) hF dX8_ruleOf_15 wq_1434 mv_X8_lotPart ws_X8_lotPart (show po_cl[8]? = some _ from rfl) rfl kl0 (c_X8_lotPart HL kl0 hx2) rfl (po_rtL hL rfl) (Nat.le_of_ble_eq_true rfl) rfl ?_
  refine po_imul hF dX8_ruleOf_18 ?_
  refine po_iadd hF dX8_ruleOf_19 ?_
  refine po_iload_n hF dX8_ruleOf_20 rfl rfl ?_
  refine po_iadd hF dX8_ruleOf_21 ?_
  refine po_iald hF dX8_ruleOf_22 ((ly_8_1 HL kl0).2) (Or.inl rfl) hm (fun hm => ?_)
  cases hm
  exact po_iret hF hL dX8_ruleOf_23 (by decide) (by decide) rfl rfl rfl (Or.inl rfl)
theorem c_X8_ruleOf {K : po_K} {R : po_R} {I : po_I} {st : Nat → Nat} {ρ : Int32} (HL : po_Lay K R st) {l0 : Nat} {l1 : Int32} {l2 : Int32} (kl0 : K l0 = (19, 19)) (hm : m_X8_ruleOf I l0 l1 l2 = some ρ) : po_C st yX8_ruleOf cX8_ruleOf 3 (some .int) 1 0 0 [.ref l0, .int l1, .int l2] K R I none (.inl (some (.int ρ))) K R I none := by
  refine po_ofC (by decide +kernel) (Nat.le_of_ble_eq_true rfl) (fun X G hF hL => ?_)
  exact w_X8_ruleOf_e hF hL HL l0 l1 l2 kl0 hm
set_option maxRecDepth 20000 in
set_option maxHeartbeats 2000000 in
theorem w_X8_limit_44 {X : po_X} {G : po_G} {st : Nat → Nat} {K : po_K} {I : po_I} {R : po_R} {ρ : Int32} (hF : po_F X G cX8_limit RX8 3 st) (hL : po_L X (some .int) 5 0 0 "limit") (HL : po_Lay K R st) (s0 : Int32) (hm : m_X8_limit_44 I s0 = some ρ) : po_V X G 3 (po_Q X G (.inl (some (.int ρ))) K R I none 0 0) 0 0 44 [] [.int s0] K R I none := by
  unfold m_X8_limit_44 at hm
  cases hm
  exact po_iret hF hL dX8_limit_44 (by decide) (by decide) rfl rfl rfl (Or.inl rfl)
set_option maxRecDepth 20000 in
set_option maxHeartbeats 2000000 in
theorem w_X8_limit_e {X : po_X} {G : po_G} {st : Nat → Nat} {K : po_K} {I : po_I} {R : po_R} {ρ : Int32} (hF : po_F X G cX8_limit RX8 3 st) (hL : po_L X (some .int) 5 0 0 "limit") (HL : po_Lay K R st) (l0 : Nat) (l1 : Int32) (l2 : Int32) (kl0 : K l0 = (19, 19)) (hm : m_X8_limit_e I l0 l1 l2 = some ρ) : po_V X G 3 (po_Q X G (.inl (some (.int ρ))) K R I none 0 0) 0 0 0 [(0, .ref l0), (1, .int l1), (2, .int l2)] [] K R I none := by
  unfold m_X8_limit_e at hm
  refine po_iload_n hF dX8_limit_0 rfl rfl ?_
  refine po_iconst (v := 2) hF dX8_limit_1 (by decide) ?_
  refine po_icmp_ge (tgt := 9) hF dX8_limit_2 (by decide) hm (fun hm => ?_) (fun hm => ?_)
  · refine po_iload_n hF dX8_limit_9 rfl rfl ?_
    refine po_bipush (v := 8) hF dX8_limit_10 (by decide) ?_
    refine po_icmp_ne (tgt := 36) hF dX8_limit_12 (by decide) hm (fun hm => ?_) (fun hm => ?_)
    · refine po_aload_n hF dX8_limit_36 rfl rfl ?_
      refine po_iload_n hF dX8_limit_37 rfl rfl ?_
      refine po_iload_n hF dX8_limit_38 rfl rfl ?_
      refine po_iconst (v := 2) hF dX8_limit_39 (by decide) ?_
      refine po_isub hF dX8_limit_40 ?_
      obtain ⟨x1, hx1, hm⟩ := po_bind hm
      refine po_callV (As := [.int l1, .int (l2 - 2)]) hF dX8_limit_41 wq_1548 mv_X8_ruleOf ws_X8_ruleOf (show po_cl[8]? = some _ from rfl) rfl kl0 (c_X8_ruleOf HL kl0 hx1) rfl (po_rtL hL rfl) (Nat.le_of_ble_eq_true rfl) rfl ?_
      refine po_sub (L' := []) rfl ?_
      exact w_X8_limit_44 hF hL HL x1 hm
    · refine po_aload_n hF dX8_limit_15 rfl rfl ?_
      refine po_iload_n hF dX8_limit_16 rfl rfl ?_
      refine po_bipush (v := 6) hF dX8_limit_17 (by decide) ?_
      obtain ⟨x2, hx2, hm⟩ := po_bind hm
      refine po_callV (As := [.int l1, .int 6]) hF dX8_limit_19 wq_1548 mv_X8_ruleOf ws_X8_ruleOf (show po_cl[8]? = some _ from rfl) rfl kl0 (c_X8_ruleOf HL kl0 hx2) rfl (po_rtL hL rfl) (Nat.le_of_ble_eq_true rfl) rfl ?_
      refine po_aload_n hF dX8_limit_22 rfl rfl ?_
      refine po_iload_n hF dX8_limit_23 rfl rfl ?_
      obtain ⟨x3, hx3, hm⟩ := po_bind hm
      refine po_callV (As := [.int l1]) hF dX8_limit_24 wq_1368 mv_X8_floorArea ws_X8_floorArea (show po_cl[8]? = some _ from rfl) rfl kl0 (c_X8_floorArea HL kl0 hx3) rfl (po_rtL hL rfl) (Nat.le_of_ble_eq_true rfl) rfl ?_
      refine po_imul hF dX8_limit_27 ?_
      refine po_bipush (v := 10) hF dX8_limit_28 (by decide) ?_
      obtain ⟨x4, hx4, hm⟩ := po_bind hm
      refine po_callS (As := [.int (x2 * x3), .int 10]) hF dX8_limit_30 wq_1541 mv_X8_up (c_X8_up HL hx4) rfl (po_rtL hL rfl) (Nat.le_of_ble_eq_true rfl) rfl ?_
      refine po_goto (tgt := 44) hF dX8_limit_33 (by decide) ?_
      refine po_sub (L' := []) rfl ?_
      exact w_X8_limit_44 hF hL HL x4 hm
  · refine po_iconst (v := 0) hF dX8_limit_5 (by decide) ?_
    refine po_goto (tgt := 44) hF dX8_limit_6 (by decide) ?_
    refine po_sub (L' := []) rfl ?_
    exact w_X8_limit_44 hF hL HL 0 hm
theorem c_X8_limit {K : po_K} {R : po_R} {I : po_I} {st : Nat → Nat} {ρ : Int32} (HL : po_Lay K R st) {l0 : Nat} {l1 : Int32} {l2 : Int32} (kl0 : K l0 = (19, 19)) (hm : m_X8_limit I l0 l1 l2 = some ρ) : po_C st yX8_limit cX8_limit 3 (some .int) 5 0 0 [.ref l0, .int l1, .int l2] K R I none (.inl (some (.int ρ))) K R I none := by
  refine po_ofC (by decide +kernel) (Nat.le_of_ble_eq_true rfl) (fun X G hF hL => ?_)
  exact w_X8_limit_e hF hL HL l0 l1 l2 kl0 hm
set_option maxRecDepth 20000 in
set_option maxHeartbeats 2000000 in
theorem w_X8_isWrong_61 {X : po_X} {G : po_G} {st : Nat → Nat} {K : po_K} {I : po_I} {R : po_R} {ρ : Int32} (hF : po_F X G cX8_isWrong RX8 3 st) (hL : po_L X (some .boolean) 0 0 0 "isWrong") (HL : po_Lay K R st) (s0 : Int32) (hm : m_X8_isWrong_61 s0 = some ρ) : po_V X G 3 (po_Q X G (.inl (some (.int ρ))) K R I none 0 0) 0 0 61 [] [.int s0] K R I none := by
  unfold m_X8_isWrong_61 at hm
  obtain ⟨hz, hm⟩ := po_zif hm
  cases hm
  exact po_zret hF hL dX8_isWrong_61 (po_nz hz) (by decide) (by decide) rfl rfl rfl (Or.inl rfl)
set_option maxRecDepth 20000 in
set_option maxHeartbeats 2000000 in
theorem w_X8_isWrong_38 {X : po_X} {G : po_G} {st : Nat → Nat} {K : po_K} {I : po_I} {R : po_R} {ρ : Int32} (hF : po_F X G cX8_isWrong RX8 3 st) (hL : po_L X (some .boolean) 0 0 0 "isWrong") (HL : po_Lay K R st) (l1 : Int32) (l2 : Int32) (hm : m_X8_isWrong_38 l1 l2 = some ρ) : po_V X G 3 (po_Q X G (.inl (some (.int ρ))) K R I none 0 0) 0 0 38 [(1, .int l1), (2, .int l2)] [] K R I none := by
  unfold m_X8_isWrong_38 at hm
  refine po_iload_n hF dX8_isWrong_38 rfl rfl ?_
  refine po_iload_n hF dX8_isWrong_39 rfl rfl ?_
  refine po_icmp_ge (tgt := 47) hF dX8_isWrong_40 (by decide) hm (fun hm => ?_) (fun hm => ?_)
  · refine po_iconst (v := 0) hF dX8_isWrong_47 (by decide) ?_
    refine po_goto (tgt := 61) hF dX8_isWrong_48 (by decide) ?_
    refine po_sub (L' := []) rfl ?_
    exact w_X8_isWrong_61 hF hL HL 0 hm
  · refine po_iconst (v := 1) hF dX8_isWrong_43 (by decide) ?_
    refine po_goto (tgt := 61) hF dX8_isWrong_44 (by decide) ?_
    refine po_sub (L' := []) rfl ?_
    exact w_X8_isWrong_61 hF hL HL 1 hm
set_option maxRecDepth 20000 in
set_option maxHeartbeats 2000000 in
theorem w_X8_isWrong_e {X : po_X} {G : po_G} {st : Nat → Nat} {K : po_K} {I : po_I} {R : po_R} {ρ : Int32} (hF : po_F X G cX8_isWrong RX8 3 st) (hL : po_L X (some .boolean) 0 0 0 "isWrong") (HL : po_Lay K R st) (l0 : Int32) (l1 : Int32) (l2 : Int32) (hm : m_X8_isWrong_e l0 l1 l2 = some ρ) : po_V X G 3 (po_Q X G (.inl (some (.int ρ))) K R I none 0 0) 0 0 0 [(0, .int l0), (1, .int l1), (2, .int l2)] [] K R I none := by
  unfold m_X8_isWrong_e at hm
  refine po_iload_n hF dX8_isWrong_0 rfl rfl ?_
  refine po_bipush (v := 7) hF dX8_isWrong_1 (by decide) ?_
  refine po_icmp_ne (tgt := 22) hF dX8_isWrong_3 (by decide) hm (fun hm => ?_) (fun hm => ?_)
  · refine po_iload_n hF dX8_isWrong_22 rfl rfl ?_
    refine po_iconst (v := 2) hF dX8_isWrong_23 (by decide) ?_
    refine po_icmp_eq (tgt := 38) hF dX8_isWrong_24 (by decide) hm (fun hm => ?_) (fun hm => ?_)
    · refine po_sub (L' := [(1, .int l1), (2, .int l2)]) rfl ?_
      exact w_X8_isWrong_38 hF hL HL l1 l2 hm
    · refine po_iload_n hF dX8_isWrong_27 rfl rfl ?_
      refine po_iconst (v := 3) hF dX8_isWrong_28 (by decide) ?_
      refine po_icmp_eq (tgt := 38) hF dX8_isWrong_29 (by decide) hm (fun hm => ?_) (fun hm => ?_)
      · refine po_sub (L' := [(1, .int l1), (2, .int l2)]) rfl ?_
        exact w_X8_isWrong_38 hF hL HL l1 l2 hm
      · refine po_iload_n hF dX8_isWrong_32 rfl rfl ?_
        refine po_bipush (v := 8) hF dX8_isWrong_33 (by decide) ?_
        refine po_icmp_ne (tgt := 51) hF dX8_isWrong_35 (by decide) hm (fun hm => ?_) (fun hm => ?_)
        · refine po_iload_n hF dX8_isWrong_51 rfl rfl ?_
          refine po_iload_n hF dX8_isWrong_52 rfl rfl ?_
          refine po_icmp_le (tgt := 60) hF dX8_isWrong_53 (by decide) hm (fun hm => ?_) (fun hm => ?_)
          · refine po_iconst (v := 0) hF dX8_isWrong_60 (by decide) ?_
            refine po_sub (L' := []) rfl ?_
            exact w_X8_isWrong_61 hF hL HL 0 hm
          · refine po_iconst (v := 1) hF dX8_isWrong_56 (by decide) ?_
            refine po_goto (tgt := 61) hF dX8_isWrong_57 (by decide) ?_
            refine po_sub (L' := []) rfl ?_
            exact w_X8_isWrong_61 hF hL HL 1 hm
        · refine po_sub (L' := [(1, .int l1), (2, .int l2)]) rfl ?_
          exact w_X8_isWrong_38 hF hL HL l1 l2 hm
  · refine po_iload_n hF dX8_isWrong_6 rfl rfl ?_
    refine po_iload_n hF dX8_isWrong_7 rfl rfl ?_
    refine po_ishr hF dX8_isWrong_8 ?_
    refine po_iconst (v := 1) hF dX8_isWrong_9 (by decide) ?_
    refine po_iand hF dX8_isWrong_10 ?_
    refine po_if_ne (tgt := 18) hF dX8_isWrong_11 (by decide) hm (fun hm => ?_) (fun hm => ?_)
    · refine po_iconst (v := 0) hF dX8_isWrong_18 (by decide) ?_
      refine po_goto (tgt := 61) hF dX8_isWrong_19 (by decide) ?_
      refine po_sub (L' := []) rfl ?_
      exact w_X8_isWrong_61 hF hL HL 0 hm
    · refine po_iconst (v := 1) hF dX8_isWrong_14 (by decide) ?_
      refine po_goto (tgt := 61) hF dX8_isWrong_15 (by decide) ?_
      refine po_sub (L' := []) rfl ?_
      exact w_X8_isWrong_61 hF hL HL 1 hm
theorem c_X8_isWrong {K : po_K} {R : po_R} {I : po_I} {st : Nat → Nat} {ρ : Int32} (HL : po_Lay K R st) {l0 : Int32} {l1 : Int32} {l2 : Int32} (hm : m_X8_isWrong l0 l1 l2 = some ρ) : po_C st yX8_isWrong cX8_isWrong 3 (some .boolean) 0 0 0 [.int l0, .int l1, .int l2] K R I none (.inl (some (.int ρ))) K R I none := by
  refine po_ofC (by decide +kernel) (Nat.le_of_ble_eq_true rfl) (fun X G hF hL => ?_)
  exact w_X8_isWrong_e hF hL HL l0 l1 l2 hm
set_option maxRecDepth 20000 in
set_option maxHeartbeats 2000000 in
theorem w_X8_variancePart_e {X : po_X} {G : po_G} {st : Nat → Nat} {K : po_K} {I : po_I} {R : po_R} {ρ : Int32} (hF : po_F X G cX8_variancePart RX8 3 st) (hL : po_L X (some .int) 0 0 0 "variancePart") (HL : po_Lay K R st) (l0 : Nat) (l1 : Int32) (l2 : Int32) (kl0 : K l0 = (19, 19)) (hm : m_X8_variancePart_e I l0 l1 l2 = some ρ) : po_V X G 3 (po_Q X G (.inl (some (.int ρ))) K R I none 0 0) 0 0 0 [(0, .ref l0), (1, .int l1), (2, .int l2)] [] K R I none := by
  unfold m_X8_variancePart_e at hm
  refine po_aload_n hF dX8_variancePart_0 rfl rfl ?_
  refine po_getf (v := .ref (l0 + 1)) hF dX8_variancePart_1 fl_X8_13 kl0 (ly_8_1 HL kl0).1 ?_
  refine po_sipush (v := 620) hF dX8_variancePart_4 (by decide) ?_
  refine po_iconst (v := 4) hF dX8_variancePart_7 (by decide) ?_
  refine po_iload_n hF dX8_variancePart_8 rfl rfl ?_
  refine po_imul hF dX8_variancePart_9 ?_
  refine po_iadd hF dX8_variancePart_10 ?_
  refine po_iload_n hF dX8_variancePart_11 rfl rfl ?_
  refine po_iadd hF dX8_variancePart_12 ?_
  refine po_iald hF dX8_variancePart_13 ((ly_8_1 HL kl0).2) (Or.inl rfl) hm (fun hm => ?_)
  cases hm
  exact po_iret hF hL dX8_variancePart_14 (by decide) (by decide) rfl rfl rfl (Or.inl rfl)
theorem c_X8_variancePart {K : po_K} {R : po_R} {I : po_I} {st : Nat → Nat} {ρ : Int32} (HL : po_Lay K R st) {l0 : Nat} {l1 : Int32} {l2 : Int32} (kl0 : K l0 = (19, 19)) (hm : m_X8_variancePart I l0 l1 l2 = some ρ) : po_C st yX8_variancePart cX8_variancePart 3 (some .int) 0 0 0 [.ref l0, .int l1, .int l2] K R I none (.inl (some (.int ρ))) K R I none := by
  refine po_ofC (by decide +kernel) (Nat.le_of_ble_eq_true rfl) (fun X G hF hL => ?_)
  exact w_X8_variancePart_e hF hL HL l0 l1 l2 kl0 hm
set_option maxRecDepth 20000 in
set_option maxHeartbeats 2000000 in
theorem w_X8_isInForce_20 {X : po_X} {G : po_G} {st : Nat → Nat} {K : po_K} {I : po_I} {R : po_R} {ρ : Int32} (hF : po_F X G cX8_isInForce RX8 2 st) (hL : po_L X (some .boolean) 1 0 0 "isInForce") (HL : po_Lay K R st) (s0 : Int32) (hm : m_X8_isInForce_20 I s0 = some ρ) : po_V X G 2 (po_Q X G (.inl (some (.int ρ))) K R I none 0 0) 0 0 20 [] [.int s0] K R I none := by
  unfold m_X8_isInForce_20 at hm
  obtain ⟨hz, hm⟩ := po_zif hm
  cases hm
  exact po_zret hF hL dX8_isInForce_20 (po_nz hz) (by decide) (by decide) rfl rfl rfl (Or.inl rfl)
set_option maxRecDepth 20000 in
set_option maxHeartbeats 2000000 in
theorem w_X8_isInForce_e {X : po_X} {G : po_G} {st : Nat → Nat} {K : po_K} {I : po_I} {R : po_R} {ρ : Int32} (hF : po_F X G cX8_isInForce RX8 2 st) (hL : po_L X (some .boolean) 1 0 0 "isInForce") (HL : po_Lay K R st) (l0 : Nat) (l1 : Int32) (kl0 : K l0 = (19, 19)) (hm : m_X8_isInForce_e I l0 l1 = some ρ) : po_V X G 2 (po_Q X G (.inl (some (.int ρ))) K R I none 0 0) 0 0 0 [(0, .ref l0), (1, .int l1)] [] K R I none := by
  unfold m_X8_isInForce_e at hm
  refine po_aload_n hF dX8_isInForce_0 rfl rfl ?_
  refine po_getf (v := .ref (l0 + 1)) hF dX8_isInForce_1 fl_X8_13 kl0 (ly_8_1 HL kl0).1 ?_
  refine po_iconst (v := 0) hF dX8_isInForce_4 (by decide) ?_
  refine po_ialdC (j := 0) hF dX8_isInForce_5 ((ly_8_1 HL kl0).2) (Or.inl rfl) (by decide) (by decide) (by decide) ?_
  refine po_aload_n hF dX8_isInForce_6 rfl rfl ?_
  refine po_iload_n hF dX8_isInForce_7 rfl rfl ?_
  refine po_iconst (v := 3) hF dX8_isInForce_8 (by decide) ?_
  obtain ⟨x1, hx1, hm⟩ := po_bind hm
  refine po_callV (As := [.int l1, .int 3]) hF dX8_isInForce_9 wq_1563 mv_X8_variancePart ws_X8_variancePart (show po_cl[8]? = some _ from rfl) rfl kl0 (c_X8_variancePart HL kl0 hx1) rfl (po_rtL hL rfl) (Nat.le_of_ble_eq_true rfl) rfl ?_
  refine po_icmp_gt (tgt := 19) hF dX8_isInForce_12 (by decide) hm (fun hm => ?_) (fun hm => ?_)
  · refine po_iconst (v := 0) hF dX8_isInForce_19 (by decide) ?_
    refine po_sub (L' := []) rfl ?_
    exact w_X8_isInForce_20 hF hL HL 0 hm
  · refine po_iconst (v := 1) hF dX8_isInForce_15 (by decide) ?_
    refine po_goto (tgt := 20) hF dX8_isInForce_16 (by decide) ?_
    refine po_sub (L' := []) rfl ?_
    exact w_X8_isInForce_20 hF hL HL 1 hm
theorem c_X8_isInForce {K : po_K} {R : po_R} {I : po_I} {st : Nat → Nat} {ρ : Int32} (HL : po_Lay K R st) {l0 : Nat} {l1 : Int32} (kl0 : K l0 = (19, 19)) (hm : m_X8_isInForce I l0 l1 = some ρ) : po_C st yX8_isInForce cX8_isInForce 2 (some .boolean) 1 0 0 [.ref l0, .int l1] K R I none (.inl (some (.int ρ))) K R I none := by
  refine po_ofC (by decide +kernel) (Nat.le_of_ble_eq_true rfl) (fun X G hF hL => ?_)
  exact w_X8_isInForce_e hF hL HL l0 l1 kl0 hm
set_option maxRecDepth 20000 in
set_option maxHeartbeats 2000000 in
theorem w_X8_helps_65 {X : po_X} {G : po_G} {st : Nat → Nat} {K : po_K} {I : po_I} {R : po_R} {ρ : Int32} (hF : po_F X G cX8_helps RX8 5 st) (hL : po_L X (some .boolean) 1 0 0 "helps") (HL : po_Lay K R st) (s0 : Int32) (hm : m_X8_helps_65 s0 = some ρ) : po_V X G 5 (po_Q X G (.inl (some (.int ρ))) K R I none 0 0) 0 0 65 [] [.int s0] K R I none := by
  unfold m_X8_helps_65 at hm
  obtain ⟨hz, hm⟩ := po_zif hm
  cases hm
  exact po_zret hF hL dX8_helps_65 (po_nz hz) (by decide) (by decide) rfl rfl rfl (Or.inl rfl)
set_option maxRecDepth 20000 in
set_option maxHeartbeats 2000000 in
theorem w_X8_helps_60 {X : po_X} {G : po_G} {st : Nat → Nat} {K : po_K} {I : po_I} {R : po_R} {ρ : Int32} (hF : po_F X G cX8_helps RX8 5 st) (hL : po_L X (some .boolean) 1 0 0 "helps") (HL : po_Lay K R st) (hm : m_X8_helps_60 = some ρ) : po_V X G 5 (po_Q X G (.inl (some (.int ρ))) K R I none 0 0) 0 0 60 [] [] K R I none := by
  unfold m_X8_helps_60 at hm
  refine po_iconst (v := 1) hF dX8_helps_60 (by decide) ?_
  refine po_goto (tgt := 65) hF dX8_helps_61 (by decide) ?_
  exact w_X8_helps_65 hF hL HL 1 hm
set_option maxRecDepth 20000 in
set_option maxHeartbeats 2000000 in
theorem w_X8_helps_64 {X : po_X} {G : po_G} {st : Nat → Nat} {K : po_K} {I : po_I} {R : po_R} {ρ : Int32} (hF : po_F X G cX8_helps RX8 5 st) (hL : po_L X (some .boolean) 1 0 0 "helps") (HL : po_Lay K R st) (hm : m_X8_helps_64 = some ρ) : po_V X G 5 (po_Q X G (.inl (some (.int ρ))) K R I none 0 0) 0 0 64 [] [] K R I none := by
  unfold m_X8_helps_64 at hm
  refine po_iconst (v := 0) hF dX8_helps_64 (by decide) ?_
  exact w_X8_helps_65 hF hL HL 0 hm
set_option maxRecDepth 20000 in
set_option maxHeartbeats 2000000 in
theorem w_X8_helps_54 {X : po_X} {G : po_G} {st : Nat → Nat} {K : po_K} {I : po_I} {R : po_R} {ρ : Int32} (hF : po_F X G cX8_helps RX8 5 st) (hL : po_L X (some .boolean) 1 0 0 "helps") (HL : po_Lay K R st) (s0 : Int32) (s1 : Int32) (s2 : Int32) (hm : m_X8_helps_54 s0 s1 s2 = some ρ) : po_V X G 5 (po_Q X G (.inl (some (.int ρ))) K R I none 0 0) 0 0 54 [] [.int s2, .int s1, .int s0] K R I none := by
  unfold m_X8_helps_54 at hm
  obtain ⟨x1, hx1, hm⟩ := po_bind hm
  refine po_callS (As := [.int s0, .int s1, .int s2]) hF dX8_helps_54 wq_1552 mv_X8_isWrong (c_X8_isWrong HL hx1) rfl (po_rtL hL rfl) (Nat.le_of_ble_eq_true rfl) rfl ?_
  refine po_if_ne (tgt := 64) hF dX8_helps_57 (by decide) hm (fun hm => ?_) (fun hm => ?_)
  · exact w_X8_helps_64 hF hL HL hm
  · exact w_X8_helps_60 hF hL HL hm
set_option maxRecDepth 20000 in
set_option maxHeartbeats 2000000 in
theorem w_X8_helps_21 {X : po_X} {G : po_G} {st : Nat → Nat} {K : po_K} {I : po_I} {R : po_R} {ρ : Int32} (hF : po_F X G cX8_helps RX8 5 st) (hL : po_L X (some .boolean) 1 0 0 "helps") (HL : po_Lay K R st) (l0 : Int32) (l1 : Int32) (l2 : Int32) (l3 : Int32) (s0 : Int32) (hm : m_X8_helps_21 l0 l1 l2 l3 s0 = some ρ) : po_V X G 5 (po_Q X G (.inl (some (.int ρ))) K R I none 0 0) 0 0 21 [(0, .int l0), (1, .int l1), (2, .int l2), (3, .int l3)] [.int s0] K R I none := by
  unfold m_X8_helps_21 at hm
  refine po_istore (L' := [(4, .int s0), (0, .int l0), (1, .int l1), (2, .int l2), (3, .int l3)]) hF dX8_helps_21 (by decide) rfl ?_
  refine po_iload_n hF dX8_helps_23 rfl rfl ?_
  refine po_bipush (v := 7) hF dX8_helps_24 (by decide) ?_
  refine po_icmp_eq (tgt := 60) hF dX8_helps_26 (by decide) hm (fun hm => ?_) (fun hm => ?_)
  · refine po_sub (L' := []) rfl ?_
    exact w_X8_helps_60 hF hL HL hm
  · refine po_iload_n hF dX8_helps_29 rfl rfl ?_
    refine po_iconst (v := 1) hF dX8_helps_30 (by decide) ?_
    refine po_icmp_le (tgt := 64) hF dX8_helps_31 (by decide) hm (fun hm => ?_) (fun hm => ?_)
    · refine po_sub (L' := []) rfl ?_
      exact w_X8_helps_64 hF hL HL hm
    · refine po_iload_n hF dX8_helps_34 rfl rfl ?_
      refine po_iload_n hF dX8_helps_35 rfl rfl ?_
      refine po_iload hF dX8_helps_36 rfl ?_
      refine po_if_eq (tgt := 51) hF dX8_helps_38 (by decide) hm (fun hm => ?_) (fun hm => ?_)
      · refine po_iload_n hF dX8_helps_51 rfl rfl ?_
        refine po_iload_n hF dX8_helps_52 rfl rfl ?_
        refine po_iadd hF dX8_helps_53 ?_
        refine po_sub (L' := []) rfl ?_
        exact w_X8_helps_54 hF hL HL l0 l1 (l2 + l3) hm
      · refine po_iconst (v := 0) hF dX8_helps_41 (by decide) ?_
        refine po_iload_n hF dX8_helps_42 rfl rfl ?_
        refine po_iload_n hF dX8_helps_43 rfl rfl ?_
        refine po_isub hF dX8_helps_44 ?_
        refine po_max hF hL dX8_helps_45 wq_1492 ⟨wq_850, wq_106, wq_851⟩ (Nat.le_of_ble_eq_true rfl) (by decide) (by decide) (by decide) ?_
        refine po_goto (tgt := 54) hF dX8_helps_48 (by decide) ?_
        refine po_sub (L' := []) rfl ?_
        exact w_X8_helps_54 hF hL HL l0 l1 (if (0 : Int32) < (l2 - l3) then (l2 - l3) else 0) hm
set_option maxRecDepth 20000 in
set_option maxHeartbeats 2000000 in
theorem w_X8_helps_16 {X : po_X} {G : po_G} {st : Nat → Nat} {K : po_K} {I : po_I} {R : po_R} {ρ : Int32} (hF : po_F X G cX8_helps RX8 5 st) (hL : po_L X (some .boolean) 1 0 0 "helps") (HL : po_Lay K R st) (l0 : Int32) (l1 : Int32) (l2 : Int32) (l3 : Int32) (hm : m_X8_helps_16 l0 l1 l2 l3 = some ρ) : po_V X G 5 (po_Q X G (.inl (some (.int ρ))) K R I none 0 0) 0 0 16 [(0, .int l0), (1, .int l1), (2, .int l2), (3, .int l3)] [] K R I none := by
  unfold m_X8_helps_16 at hm
  refine po_iconst (v := 1) hF dX8_helps_16 (by decide) ?_
  refine po_goto (tgt := 21) hF dX8_helps_17 (by decide) ?_
  exact w_X8_helps_21 hF hL HL l0 l1 l2 l3 1 hm
set_option maxRecDepth 20000 in
set_option maxHeartbeats 2000000 in
theorem w_X8_helps_e {X : po_X} {G : po_G} {st : Nat → Nat} {K : po_K} {I : po_I} {R : po_R} {ρ : Int32} (hF : po_F X G cX8_helps RX8 5 st) (hL : po_L X (some .boolean) 1 0 0 "helps") (HL : po_Lay K R st) (l0 : Int32) (l1 : Int32) (l2 : Int32) (l3 : Int32) (hm : m_X8_helps_e l0 l1 l2 l3 = some ρ) : po_V X G 5 (po_Q X G (.inl (some (.int ρ))) K R I none 0 0) 0 0 0 [(0, .int l0), (1, .int l1), (2, .int l2), (3, .int l3)] [] K R I none := by
  unfold m_X8_helps_e at hm
  refine po_iload_n hF dX8_helps_0 rfl rfl ?_
  refine po_iconst (v := 2) hF dX8_helps_1 (by decide) ?_
  refine po_icmp_eq (tgt := 16) hF dX8_helps_2 (by decide) hm (fun hm => ?_) (fun hm => ?_)
  · exact w_X8_helps_16 hF hL HL l0 l1 l2 l3 hm
  · refine po_iload_n hF dX8_helps_5 rfl rfl ?_
    refine po_iconst (v := 3) hF dX8_helps_6 (by decide) ?_
    refine po_icmp_eq (tgt := 16) hF dX8_helps_7 (by decide) hm (fun hm => ?_) (fun hm => ?_)
    · exact w_X8_helps_16 hF hL HL l0 l1 l2 l3 hm
    · refine po_iload_n hF dX8_helps_10 rfl rfl ?_
      refine po_bipush (v := 8) hF dX8_helps_11 (by decide) ?_
      refine po_icmp_ne (tgt := 20) hF dX8_helps_13 (by decide) hm (fun hm => ?_) (fun hm => ?_)
      · refine po_iconst (v := 0) hF dX8_helps_20 (by decide) ?_
        exact w_X8_helps_21 hF hL HL l0 l1 l2 l3 0 hm
      · exact w_X8_helps_16 hF hL HL l0 l1 l2 l3 hm
theorem c_X8_helps {K : po_K} {R : po_R} {I : po_I} {st : Nat → Nat} {ρ : Int32} (HL : po_Lay K R st) {l0 : Int32} {l1 : Int32} {l2 : Int32} {l3 : Int32} (hm : m_X8_helps l0 l1 l2 l3 = some ρ) : po_C st yX8_helps cX8_helps 5 (some .boolean) 1 0 0 [.int l0, .int l1, .int l2, .int l3] K R I none (.inl (some (.int ρ))) K R I none := by
  refine po_ofC (by decide +kernel) (Nat.le_of_ble_eq_true rfl) (fun X G hF hL => ?_)
  exact w_X8_helps_e hF hL HL l0 l1 l2 l3 hm
