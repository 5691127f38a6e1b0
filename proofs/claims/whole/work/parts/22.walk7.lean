set_option maxRecDepth 20000 in
set_option maxHeartbeats 2000000 in
theorem w_X0_takeEdgeOff_62 {X : po_X} {G : po_G} {st : Nat → Nat} {K : po_K} {R : po_R} {ρ : po_I} {r4 : po_I → Nat → Int32 → Int32 → Int32 → Option (po_I)} (hF : po_F X G cX0_takeEdgeOff RX0 7 st) (hL : po_L X none 0 0 0 "takeEdgeOff") (HL : po_Lay K R st) (h4 : ∀ (I : po_I) (l0 : Nat) (l1 : Int32) (l2 : Int32) (l3 : Int32), r4 I l0 l1 l2 l3 = some ρ → K l0 = (11, 1) → po_V X G 7 (po_Q X G (.inl (none)) K R (ρ) none 0 0) 0 0 4 [(0, .ref l0), (1, .int l1), (2, .int l2), (3, .int l3)] [] K R I none) (I : po_I) (l0 : Nat) (l1 : Int32) (l3 : Int32) (l4 : Int32) (l5 : Int32) (l6 : Int32) (kl0 : K l0 = (11, 1)) (hm : m_X0_takeEdgeOff_62 r4 I l0 l1 l3 l4 l5 l6 = some ρ) : po_V X G 7 (po_Q X G (.inl (none)) K R (ρ) none 0 0) 0 0 62 [(0, .ref l0), (1, .int l1), (3, .int l3), (4, .int l4), (5, .int l5), (6, .int l6)] [] K R I none := by
  unfold m_X0_takeEdgeOff_62 at hm
  refine po_aload_n hF dX0_takeEdgeOff_62 rfl rfl ?_
  refine po_getf (v := .ref (l0 + 1)) hF dX0_takeEdgeOff_63 fl_X0_9 kl0 (ly_0_0 HL kl0).1 ?_
  refine po_iload hF dX0_takeEdgeOff_66 rfl ?_
  refine po_iload hF dX0_takeEdgeOff_68 rfl ?_
  refine po_iload hF dX0_takeEdgeOff_70 rfl ?_
  refine po_iand hF dX0_takeEdgeOff_72 ?_
  refine po_iast hF dX0_takeEdgeOff_73 ((ly_0_0 HL kl0).2) hm rfl (fun hm => ?_)
  refine po_hname hm (fun I1 hm => ?_)
  refine po_iload hF dX0_takeEdgeOff_74 rfl ?_
  refine po_istore_n (L' := [(2, .int l5), (0, .ref l0), (1, .int l1), (3, .int l3), (4, .int l4), (5, .int l5), (6, .int l6)]) hF dX0_takeEdgeOff_76 rfl (by decide) rfl ?_
  refine po_iinc (v := l3 + 1) (L' := [(3, .int (l3 + 1)), (2, .int l5), (0, .ref l0), (1, .int l1), (4, .int l4), (5, .int l5), (6, .int l6)]) hF dX0_takeEdgeOff_77 rfl rfl (by decide) rfl ?_
  refine po_goto (tgt := 4) hF dX0_takeEdgeOff_80 (by decide) ?_
  refine po_sub (L' := [(0, .ref l0), (1, .int l1), (2, .int l5), (3, .int (l3 + 1))]) rfl ?_
  exact h4 I1 l0 l1 l5 (l3 + 1) hm kl0
set_option maxRecDepth 20000 in
set_option maxHeartbeats 2000000 in
theorem w_X0_takeEdgeOff_23 {X : po_X} {G : po_G} {st : Nat → Nat} {K : po_K} {R : po_R} {ρ : po_I} {r4 : po_I → Nat → Int32 → Int32 → Int32 → Option (po_I)} (hF : po_F X G cX0_takeEdgeOff RX0 7 st) (hL : po_L X none 0 0 0 "takeEdgeOff") (HL : po_Lay K R st) (h4 : ∀ (I : po_I) (l0 : Nat) (l1 : Int32) (l2 : Int32) (l3 : Int32), r4 I l0 l1 l2 l3 = some ρ → K l0 = (11, 1) → po_V X G 7 (po_Q X G (.inl (none)) K R (ρ) none 0 0) 0 0 4 [(0, .ref l0), (1, .int l1), (2, .int l2), (3, .int l3)] [] K R I none) (I : po_I) (l0 : Nat) (l1 : Int32) (l2 : Int32) (l3 : Int32) (s0 : Int32) (kl0 : K l0 = (11, 1)) (hm : m_X0_takeEdgeOff_23 r4 I l0 l1 l2 l3 s0 = some ρ) : po_V X G 7 (po_Q X G (.inl (none)) K R (ρ) none 0 0) 0 0 23 [(0, .ref l0), (1, .int l1), (2, .int l2), (3, .int l3)] [.int s0] K R I none := by
  unfold m_X0_takeEdgeOff_23 at hm
  refine po_istore (L' := [(4, .int s0), (0, .ref l0), (1, .int l1), (2, .int l2), (3, .int l3)]) hF dX0_takeEdgeOff_23 (by decide) rfl ?_
  refine po_aload_n hF dX0_takeEdgeOff_25 rfl rfl ?_
  refine po_getf (v := .ref (l0 + 1)) hF dX0_takeEdgeOff_26 fl_X0_9 kl0 (ly_0_0 HL kl0).1 ?_
  refine po_iload hF dX0_takeEdgeOff_29 rfl ?_
  refine po_iald hF dX0_takeEdgeOff_31 ((ly_0_0 HL kl0).2) (Or.inl rfl) hm (fun hm => ?_)
  refine po_top hm (fun v2 hm => ?_)
  refine po_istore (L' := [(5, .int v2), (4, .int s0), (0, .ref l0), (1, .int l1), (2, .int l2), (3, .int l3)]) hF dX0_takeEdgeOff_32 (by decide) rfl ?_
  refine po_iload_n hF dX0_takeEdgeOff_34 rfl rfl ?_
  refine po_istore (L' := [(6, .int l2), (5, .int v2), (4, .int s0), (0, .ref l0), (1, .int l1), (2, .int l2), (3, .int l3)]) hF dX0_takeEdgeOff_35 (by decide) rfl ?_
  refine po_iload_n hF dX0_takeEdgeOff_37 rfl rfl ?_
  refine po_iconst (v := 1) hF dX0_takeEdgeOff_38 (by decide) ?_
  refine po_icmp_ne (tgt := 51) hF dX0_takeEdgeOff_39 (by decide) hm (fun hm => ?_) (fun hm => ?_)
  · refine po_iload_n hF dX0_takeEdgeOff_51 rfl rfl ?_
    refine po_iconst (v := 3) hF dX0_takeEdgeOff_52 (by decide) ?_
    refine po_icmp_ne (tgt := 62) hF dX0_takeEdgeOff_53 (by decide) hm (fun hm => ?_) (fun hm => ?_)
    · refine po_sub (L' := [(0, .ref l0), (1, .int l1), (3, .int l3), (4, .int s0), (5, .int v2), (6, .int l2)]) rfl ?_
      exact w_X0_takeEdgeOff_62 hF hL HL h4 I l0 l1 l3 s0 v2 l2 kl0 hm
    · refine po_iload hF dX0_takeEdgeOff_56 rfl ?_
      refine po_iconst (v := 1) hF dX0_takeEdgeOff_58 (by decide) ?_
      refine po_ishl hF dX0_takeEdgeOff_59 ?_
      refine po_top hm (fun v3 hm => ?_)
      refine po_istore (L' := [(6, .int v3), (5, .int v2), (4, .int s0), (0, .ref l0), (1, .int l1), (2, .int l2), (3, .int l3)]) hF dX0_takeEdgeOff_60 (by decide) rfl ?_
      refine po_sub (L' := [(0, .ref l0), (1, .int l1), (3, .int l3), (4, .int s0), (5, .int v2), (6, .int v3)]) rfl ?_
      exact w_X0_takeEdgeOff_62 hF hL HL h4 I l0 l1 l3 s0 v2 v3 kl0 hm
  · refine po_iload hF dX0_takeEdgeOff_42 rfl ?_
    refine po_iconst (v := 1) hF dX0_takeEdgeOff_44 (by decide) ?_
    refine po_ishr hF dX0_takeEdgeOff_45 ?_
    refine po_top hm (fun v4 hm => ?_)
    refine po_istore (L' := [(6, .int v4), (5, .int v2), (4, .int s0), (0, .ref l0), (1, .int l1), (2, .int l2), (3, .int l3)]) hF dX0_takeEdgeOff_46 (by decide) rfl ?_
    refine po_goto (tgt := 62) hF dX0_takeEdgeOff_48 (by decide) ?_
    refine po_sub (L' := [(0, .ref l0), (1, .int l1), (3, .int l3), (4, .int s0), (5, .int v2), (6, .int v4)]) rfl ?_
    exact w_X0_takeEdgeOff_62 hF hL HL h4 I l0 l1 l3 s0 v2 v4 kl0 hm
set_option maxRecDepth 20000 in
set_option maxHeartbeats 2000000 in
theorem w_X0_takeEdgeOff_4 {X : po_X} {G : po_G} {st : Nat → Nat} {K : po_K} {R : po_R} {ρ : po_I} {r4 : po_I → Nat → Int32 → Int32 → Int32 → Option (po_I)} (hF : po_F X G cX0_takeEdgeOff RX0 7 st) (hL : po_L X none 0 0 0 "takeEdgeOff") (HL : po_Lay K R st) (h4 : ∀ (I : po_I) (l0 : Nat) (l1 : Int32) (l2 : Int32) (l3 : Int32), r4 I l0 l1 l2 l3 = some ρ → K l0 = (11, 1) → po_V X G 7 (po_Q X G (.inl (none)) K R (ρ) none 0 0) 0 0 4 [(0, .ref l0), (1, .int l1), (2, .int l2), (3, .int l3)] [] K R I none) (I : po_I) (l0 : Nat) (l1 : Int32) (l2 : Int32) (l3 : Int32) (kl0 : K l0 = (11, 1)) (hm : m_X0_takeEdgeOff_4 r4 I l0 l1 l2 l3 = some ρ) : po_V X G 7 (po_Q X G (.inl (none)) K R (ρ) none 0 0) 0 0 4 [(0, .ref l0), (1, .int l1), (2, .int l2), (3, .int l3)] [] K R I none := by
  unfold m_X0_takeEdgeOff_4 at hm
  refine po_iload_n hF dX0_takeEdgeOff_4 rfl rfl ?_
  refine po_bipush (v := 14) hF dX0_takeEdgeOff_5 (by decide) ?_
  refine po_icmp_ge (tgt := 83) hF dX0_takeEdgeOff_7 (by decide) hm (fun hm => ?_) (fun hm => ?_)
  · cases hm
    exact po_vret hF hL dX0_takeEdgeOff_83 (by decide) (by decide) rfl rfl rfl (Or.inl rfl)
  · refine po_iload_n hF dX0_takeEdgeOff_10 rfl rfl ?_
    refine po_iconst (v := 2) hF dX0_takeEdgeOff_11 (by decide) ?_
    refine po_icmp_ne (tgt := 22) hF dX0_takeEdgeOff_12 (by decide) hm (fun hm => ?_) (fun hm => ?_)
    · refine po_iload_n hF dX0_takeEdgeOff_22 rfl rfl ?_
      exact w_X0_takeEdgeOff_23 hF hL HL h4 I l0 l1 l2 l3 l3 kl0 hm
    · refine po_bipush (v := 13) hF dX0_takeEdgeOff_15 (by decide) ?_
      refine po_iload_n hF dX0_takeEdgeOff_17 rfl rfl ?_
      refine po_isub hF dX0_takeEdgeOff_18 ?_
      refine po_goto (tgt := 23) hF dX0_takeEdgeOff_19 (by decide) ?_
      exact w_X0_takeEdgeOff_23 hF hL HL h4 I l0 l1 l2 l3 (13 - l3) kl0 hm
theorem w_X0_takeEdgeOff_4L {X : po_X} {G : po_G} {st : Nat → Nat} {K : po_K} {R : po_R} {ρ : po_I} (hF : po_F X G cX0_takeEdgeOff RX0 7 st) (hL : po_L X none 0 0 0 "takeEdgeOff") (HL : po_Lay K R st) : ∀ (n : Nat) (I : po_I) (l0 : Nat) (l1 : Int32) (l2 : Int32) (l3 : Int32), m_X0_takeEdgeOff_4L n I l0 l1 l2 l3 = some ρ → K l0 = (11, 1) → po_V X G 7 (po_Q X G (.inl (none)) K R (ρ) none 0 0) 0 0 4 [(0, .ref l0), (1, .int l1), (2, .int l2), (3, .int l3)] [] K R I none := by
  intro n
  induction n with
  | zero => intro I l0 l1 l2 l3 hm; cases hm
  | succ n ih => intro I l0 l1 l2 l3 hm kl0; exact w_X0_takeEdgeOff_4 hF hL HL (ih) I l0 l1 l2 l3 kl0 hm
set_option maxRecDepth 20000 in
set_option maxHeartbeats 2000000 in
theorem w_X0_takeEdgeOff_e {X : po_X} {G : po_G} {st : Nat → Nat} {K : po_K} {R : po_R} {ρ : po_I} (hF : po_F X G cX0_takeEdgeOff RX0 7 st) (hL : po_L X none 0 0 0 "takeEdgeOff") (HL : po_Lay K R st) (I : po_I) (l0 : Nat) (l1 : Int32) (kl0 : K l0 = (11, 1)) (hm : m_X0_takeEdgeOff_e I l0 l1 = some ρ) : po_V X G 7 (po_Q X G (.inl (none)) K R (ρ) none 0 0) 0 0 0 [(0, .ref l0), (1, .int l1)] [] K R I none := by
  unfold m_X0_takeEdgeOff_e at hm
  refine po_iconst (v := 0) hF dX0_takeEdgeOff_0 (by decide) ?_
  refine po_istore_n (L' := [(2, .int 0), (0, .ref l0), (1, .int l1)]) hF dX0_takeEdgeOff_1 rfl (by decide) rfl ?_
  refine po_iconst (v := 0) hF dX0_takeEdgeOff_2 (by decide) ?_
  refine po_istore_n (L' := [(3, .int 0), (2, .int 0), (0, .ref l0), (1, .int l1)]) hF dX0_takeEdgeOff_3 rfl (by decide) rfl ?_
  refine po_sub (L' := [(0, .ref l0), (1, .int l1), (2, .int 0), (3, .int 0)]) rfl ?_
  exact w_X0_takeEdgeOff_4L hF hL HL 5000 I l0 l1 0 0 hm kl0
theorem c_X0_takeEdgeOff {K : po_K} {R : po_R} {I : po_I} {st : Nat → Nat} {ρ : po_I} (HL : po_Lay K R st) {l0 : Nat} {l1 : Int32} (kl0 : K l0 = (11, 1)) (hm : m_X0_takeEdgeOff I l0 l1 = some ρ) : po_C st yX0_takeEdgeOff cX0_takeEdgeOff 7 none 0 0 0 [.ref l0, .int l1] K R I none (.inl (none)) K R (ρ) none := by
  refine po_ofC (by decide +kernel) (Nat.le_of_ble_eq_true rfl) (fun X G hF hL => ?_)
  exact w_X0_takeEdgeOff_e hF hL HL I l0 l1 kl0 hm
set_option maxRecDepth 20000 in
set_option maxHeartbeats 2000000 in
theorem w_X4_leastDistance_21 {X : po_X} {G : po_G} {st : Nat → Nat} {K : po_K} {R : po_R} {ρ : Int32 × po_I} {r21 : po_I → Nat → Nat → Int32 → Int32 → Option (Int32 × po_I)} (hF : po_F X G cX4_leastDistance RX4 5 st) (hL : po_L X (some .int) 2 0 0 "leastDistance") (HL : po_Lay K R st) (h21 : ∀ (I : po_I) (l0 : Nat) (l1 : Nat) (l3 : Int32) (l4 : Int32), r21 I l0 l1 l3 l4 = some ρ → K l0 = (15, 2) → K l1 = (11, 1) → po_V X G 5 (po_Q X G (.inl (some (.int ρ.1))) K R (ρ.2) none 0 0) 0 0 21 [(0, .ref l0), (1, .ref l1), (3, .int l3), (4, .int l4)] [] K R I none) (I : po_I) (l0 : Nat) (l1 : Nat) (l3 : Int32) (l4 : Int32) (kl0 : K l0 = (15, 2)) (kl1 : K l1 = (11, 1)) (hm : m_X4_leastDistance_21 r21 I l0 l1 l3 l4 = some ρ) : po_V X G 5 (po_Q X G (.inl (some (.int ρ.1))) K R (ρ.2) none 0 0) 0 0 21 [(0, .ref l0), (1, .ref l1), (3, .int l3), (4, .int l4)] [] K R I none := by
  unfold m_X4_leastDistance_21 at hm
  refine po_iload hF dX4_leastDistance_21 rfl ?_
  refine po_bipush (v := 20) hF dX4_leastDistance_23 (by decide) ?_
  refine po_icmp_ge (tgt := 56) hF dX4_leastDistance_25 (by decide) hm (fun hm => ?_) (fun hm => ?_)
  · refine po_bipush (v := 20) hF dX4_leastDistance_56 (by decide) ?_
    cases hm
    exact po_iret hF hL dX4_leastDistance_58 (by decide) (by decide) rfl rfl rfl (Or.inl rfl)
  · refine po_aload_n hF dX4_leastDistance_28 rfl rfl ?_
    refine po_getf (v := .ref (l0 + 3)) hF dX4_leastDistance_29 fl_X4_18 kl0 (ly_4_1 HL kl0).1 ?_
    refine po_iload_n hF dX4_leastDistance_32 rfl rfl ?_
    obtain ⟨x1, hx1, hm⟩ := po_bind hm
    refine po_callV (As := [.int l3]) hF dX4_leastDistance_33 wq_813 mv_X0_takeEdgeOff ws_X0_takeEdgeOff (show po_cl[0]? = some _ from rfl) rfl ((ly_4_1 HL kl0).2) (c_X0_takeEdgeOff HL ((ly_4_1 HL kl0).2) hx1) rfl (po_rtL hL rfl) (Nat.le_of_ble_eq_true rfl) rfl ?_
    refine po_aload_n hF dX4_leastDistance_36 rfl rfl ?_
    refine po_getf (v := .ref (l0 + 3)) hF dX4_leastDistance_37 fl_X4_18 kl0 (ly_4_1 HL kl0).1 ?_
    refine po_aload_n hF dX4_leastDistance_40 rfl rfl ?_
    obtain ⟨x2, hx2, hm⟩ := po_bind hm
    refine po_callV (As := [.ref l1]) hF dX4_leastDistance_41 wq_808 mv_X0_hasAll ws_X0_hasAll (show po_cl[0]? = some _ from rfl) rfl ((ly_4_1 HL kl0).2) (c_X0_hasAll HL ((ly_4_1 HL kl0).2) kl1 hx2) rfl (po_rtL hL rfl) (Nat.le_of_ble_eq_true rfl) rfl ?_
    refine po_if_ne (tgt := 50) hF dX4_leastDistance_44 (by decide) hm (fun hm => ?_) (fun hm => ?_)
    · refine po_iinc (v := l4 + 1) (L' := [(4, .int (l4 + 1)), (0, .ref l0), (1, .ref l1), (3, .int l3)]) hF dX4_leastDistance_50 rfl rfl (by decide) rfl ?_
      refine po_goto (tgt := 21) hF dX4_leastDistance_53 (by decide) ?_
      refine po_sub (L' := [(0, .ref l0), (1, .ref l1), (3, .int l3), (4, .int (l4 + 1))]) rfl ?_
      exact h21 x1 l0 l1 l3 (l4 + 1) hm kl0 kl1
    · refine po_iload hF dX4_leastDistance_47 rfl ?_
      cases hm
      exact po_iret hF hL dX4_leastDistance_49 (by decide) (by decide) rfl rfl rfl (Or.inl rfl)
theorem w_X4_leastDistance_21L {X : po_X} {G : po_G} {st : Nat → Nat} {K : po_K} {R : po_R} {ρ : Int32 × po_I} (hF : po_F X G cX4_leastDistance RX4 5 st) (hL : po_L X (some .int) 2 0 0 "leastDistance") (HL : po_Lay K R st) : ∀ (n : Nat) (I : po_I) (l0 : Nat) (l1 : Nat) (l3 : Int32) (l4 : Int32), m_X4_leastDistance_21L n I l0 l1 l3 l4 = some ρ → K l0 = (15, 2) → K l1 = (11, 1) → po_V X G 5 (po_Q X G (.inl (some (.int ρ.1))) K R (ρ.2) none 0 0) 0 0 21 [(0, .ref l0), (1, .ref l1), (3, .int l3), (4, .int l4)] [] K R I none := by
  intro n
  induction n with
  | zero => intro I l0 l1 l3 l4 hm; cases hm
  | succ n ih => intro I l0 l1 l3 l4 hm kl0 kl1; exact w_X4_leastDistance_21 hF hL HL (ih) I l0 l1 l3 l4 kl0 kl1 hm
set_option maxRecDepth 20000 in
set_option maxHeartbeats 2000000 in
theorem w_X4_leastDistance_e {X : po_X} {G : po_G} {st : Nat → Nat} {K : po_K} {R : po_R} {ρ : Int32 × po_I} (hF : po_F X G cX4_leastDistance RX4 5 st) (hL : po_L X (some .int) 2 0 0 "leastDistance") (HL : po_Lay K R st) (I : po_I) (l0 : Nat) (l1 : Nat) (l2 : Nat) (l3 : Int32) (kl0 : K l0 = (15, 2)) (kl1 : K l1 = (11, 1)) (kl2 : K l2 = (11, 1)) (hm : m_X4_leastDistance_e I l0 l1 l2 l3 = some ρ) : po_V X G 5 (po_Q X G (.inl (some (.int ρ.1))) K R (ρ.2) none 0 0) 0 0 0 [(0, .ref l0), (1, .ref l1), (2, .ref l2), (3, .int l3)] [] K R I none := by
  unfold m_X4_leastDistance_e at hm
  refine po_aload_n hF dX4_leastDistance_0 rfl rfl ?_
  refine po_aload_n hF dX4_leastDistance_1 rfl rfl ?_
  obtain ⟨x3, hx3, hm⟩ := po_bind hm
  refine po_callV (As := [.ref l1]) hF dX4_leastDistance_2 wq_808 mv_X0_hasAll ws_X0_hasAll (show po_cl[0]? = some _ from rfl) rfl kl2 (c_X0_hasAll HL kl2 kl1 hx3) rfl (po_rtL hL rfl) (Nat.le_of_ble_eq_true rfl) rfl ?_
  refine po_if_ne (tgt := 10) hF dX4_leastDistance_5 (by decide) hm (fun hm => ?_) (fun hm => ?_)
  · refine po_aload_n hF dX4_leastDistance_10 rfl rfl ?_
    refine po_getf (v := .ref (l0 + 3)) hF dX4_leastDistance_11 fl_X4_18 kl0 (ly_4_1 HL kl0).1 ?_
    refine po_aload_n hF dX4_leastDistance_14 rfl rfl ?_
    obtain ⟨x4, hx4, hm⟩ := po_bind hm
    refine po_callV (As := [.ref l2]) hF dX4_leastDistance_15 wq_812 mv_X0_copyFrom ws_X0_copyFrom (show po_cl[0]? = some _ from rfl) rfl ((ly_4_1 HL kl0).2) (c_X0_copyFrom HL ((ly_4_1 HL kl0).2) kl2 hx4) rfl (po_rtL hL rfl) (Nat.le_of_ble_eq_true rfl) rfl ?_
    refine po_iconst (v := 0) hF dX4_leastDistance_18 (by decide) ?_
    refine po_istore (L' := [(4, .int 0), (0, .ref l0), (1, .ref l1), (2, .ref l2), (3, .int l3)]) hF dX4_leastDistance_19 (by decide) rfl ?_
    refine po_sub (L' := [(0, .ref l0), (1, .ref l1), (3, .int l3), (4, .int 0)]) rfl ?_
    exact w_X4_leastDistance_21L hF hL HL 5000 x4 l0 l1 l3 0 hm kl0 kl1
  · refine po_iconst (v := 0) hF dX4_leastDistance_8 (by decide) ?_
    cases hm
    exact po_iret hF hL dX4_leastDistance_9 (by decide) (by decide) rfl rfl rfl (Or.inl rfl)
theorem c_X4_leastDistance {K : po_K} {R : po_R} {I : po_I} {st : Nat → Nat} {ρ : Int32 × po_I} (HL : po_Lay K R st) {l0 : Nat} {l1 : Nat} {l2 : Nat} {l3 : Int32} (kl0 : K l0 = (15, 2)) (kl1 : K l1 = (11, 1)) (kl2 : K l2 = (11, 1)) (hm : m_X4_leastDistance I l0 l1 l2 l3 = some ρ) : po_C st yX4_leastDistance cX4_leastDistance 5 (some .int) 2 0 0 [.ref l0, .ref l1, .ref l2, .int l3] K R I none (.inl (some (.int ρ.1))) K R (ρ.2) none := by
  refine po_ofC (by decide +kernel) (Nat.le_of_ble_eq_true rfl) (fun X G hF hL => ?_)
  exact w_X4_leastDistance_e hF hL HL I l0 l1 l2 l3 kl0 kl1 kl2 hm
set_option maxRecDepth 20000 in
set_option maxHeartbeats 2000000 in
theorem w_X4_distance_e {X : po_X} {G : po_G} {st : Nat → Nat} {K : po_K} {R : po_R} {ρ : Int32 × po_I} (hF : po_F X G cX4_distance RX4 6 st) (hL : po_L X (some .int) 3 0 0 "distance") (HL : po_Lay K R st) (I : po_I) (l0 : Nat) (l1 : Nat) (l2 : Int32) (l3 : Int32) (l4 : Int32) (kl0 : K l0 = (15, 2)) (kl1 : K l1 = (16, 8)) (hm : m_X4_distance_e I l0 l1 l2 l3 l4 = some ρ) : po_V X G 6 (po_Q X G (.inl (some (.int ρ.1))) K R (ρ.2) none 0 0) 0 0 0 [(0, .ref l0), (1, .ref l1), (2, .int l2), (3, .int l3), (4, .int l4)] [] K R I none := by
  unfold m_X4_distance_e at hm
  refine po_aload_n hF dX4_distance_0 rfl rfl ?_
  refine po_iload_n hF dX4_distance_1 rfl rfl ?_
  refine po_iload_n hF dX4_distance_2 rfl rfl ?_
  obtain ⟨x1, hx1, hm⟩ := po_bind hm
  refine po_callV (As := [.int l2, .int l3]) hF dX4_distance_3 wq_801 mv_X5_lotWith ws_X5_lotWith (show po_cl[5]? = some _ from rfl) rfl kl1 (c_X5_lotWith HL kl1 hx1) rfl (po_rtL hL rfl) (Nat.le_of_ble_eq_true rfl) rfl ?_
  refine po_istore (L' := [(5, .int x1), (0, .ref l0), (1, .ref l1), (2, .int l2), (3, .int l3), (4, .int l4)]) hF dX4_distance_6 (by decide) rfl ?_
  refine po_iload hF dX4_distance_8 rfl ?_
  refine po_iconst (v := (-1)) hF dX4_distance_10 (by decide) ?_
  refine po_icmp_ne (tgt := 16) hF dX4_distance_11 (by decide) hm (fun hm => ?_) (fun hm => ?_)
  · refine po_aload_n hF dX4_distance_16 rfl rfl ?_
    refine po_getf (v := .ref (l0 + 1)) hF dX4_distance_17 fl_X4_12 kl0 (ly_4_0 HL kl0).1 ?_
    obtain ⟨x2, hx2, hm⟩ := po_bind hm
    refine po_callV (As := []) hF dX4_distance_20 wq_802 mv_X0_clear ws_X0_clear (show po_cl[0]? = some _ from rfl) rfl ((ly_4_0 HL kl0).2) (c_X0_clear HL ((ly_4_0 HL kl0).2) hx2) rfl (po_rtL hL rfl) (Nat.le_of_ble_eq_true rfl) rfl ?_
    refine po_aload_n hF dX4_distance_23 rfl rfl ?_
    refine po_getf (v := .ref (l0 + 1)) hF dX4_distance_24 fl_X4_12 kl0 (ly_4_0 HL kl0).1 ?_
    refine po_iload_n hF dX4_distance_27 rfl rfl ?_
    refine po_iload_n hF dX4_distance_28 rfl rfl ?_
    refine po_iconst (v := 1) hF dX4_distance_29 (by decide) ?_
    refine po_iconst (v := 1) hF dX4_distance_30 (by decide) ?_
    obtain ⟨x3, hx3, hm⟩ := po_bind hm
    refine po_callV (As := [.int l2, .int l3, .int 1, .int 1]) hF dX4_distance_31 wq_803 mv_X0_addRectangle ws_X0_addRectangle (show po_cl[0]? = some _ from rfl) rfl ((ly_4_0 HL kl0).2) (c_X0_addRectangle HL ((ly_4_0 HL kl0).2) hx3) rfl (po_rtL hL rfl) (Nat.le_of_ble_eq_true rfl) rfl ?_
    refine po_aload_n hF dX4_distance_34 rfl rfl ?_
    refine po_aload_n hF dX4_distance_35 rfl rfl ?_
    refine po_getf (v := .ref (l0 + 1)) hF dX4_distance_36 fl_X4_12 kl0 (ly_4_0 HL kl0).1 ?_
    refine po_aload_n hF dX4_distance_39 rfl rfl ?_
    refine po_iload hF dX4_distance_40 rfl ?_
    obtain ⟨x4, hx4, hm⟩ := po_bind hm
    refine po_callV (As := [.int x1]) hF dX4_distance_42 wq_750 mv_X5_lotAt ws_X5_lotAt (show po_cl[5]? = some _ from rfl) rfl kl1 (c_X5_lotAt HL kl1 hx4) rfl (po_rtL hL rfl) (Nat.le_of_ble_eq_true rfl) rfl ?_
    refine po_getf (v := .ref (x4 + 1)) hF dX4_distance_45 fl_X4_36 (kr_X5_lotAt HL kl1 hx4) (ly_1_2 HL (kr_X5_lotAt HL kl1 hx4)).1 ?_
    refine po_iload hF dX4_distance_48 rfl ?_
    obtain ⟨x5, hx5, hm⟩ := po_bind hm
    refine po_callV (As := [.ref (l0 + 1), .ref (x4 + 1), .int l4]) hF dX4_distance_50 wq_804 mv_X4_leastDistance ws_X4_leastDistance (show po_cl[4]? = some _ from rfl) rfl kl0 (c_X4_leastDistance HL kl0 ((ly_4_0 HL kl0).2) ((ly_1_2 HL (kr_X5_lotAt HL kl1 hx4)).2) hx5) rfl (po_rtL hL rfl) (Nat.le_of_ble_eq_true rfl) rfl ?_
    cases hm
    exact po_iret hF hL dX4_distance_53 (by decide) (by decide) rfl rfl rfl (Or.inl rfl)
  · refine po_iconst (v := 0) hF dX4_distance_14 (by decide) ?_
    cases hm
    exact po_iret hF hL dX4_distance_15 (by decide) (by decide) rfl rfl rfl (Or.inl rfl)
theorem c_X4_distance {K : po_K} {R : po_R} {I : po_I} {st : Nat → Nat} {ρ : Int32 × po_I} (HL : po_Lay K R st) {l0 : Nat} {l1 : Nat} {l2 : Int32} {l3 : Int32} {l4 : Int32} (kl0 : K l0 = (15, 2)) (kl1 : K l1 = (16, 8)) (hm : m_X4_distance I l0 l1 l2 l3 l4 = some ρ) : po_C st yX4_distance cX4_distance 6 (some .int) 3 0 0 [.ref l0, .ref l1, .int l2, .int l3, .int l4] K R I none (.inl (some (.int ρ.1))) K R (ρ.2) none := by
  refine po_ofC (by decide +kernel) (Nat.le_of_ble_eq_true rfl) (fun X G hF hL => ?_)
  exact w_X4_distance_e hF hL HL I l0 l1 l2 l3 l4 kl0 kl1 hm
set_option maxRecDepth 20000 in
set_option maxHeartbeats 2000000 in
theorem w_X7_cell_20 {X : po_X} {G : po_G} {st : Nat → Nat} {K : po_K} {R : po_R} {ρ : (Int32 ⊕ String) × po_I} (hF : po_F X G cX7_cell RX7 4 st) (hL : po_L X (some .int) 6 1 6 "cell") (HL : po_Lay K R st) (I : po_I) (hm : m_X7_cell_20 I = some ρ) : po_V X G 4 (po_Q X G (po_oi (ρ.1)) K R (ρ.2) none 1 6) 0 0 20 [] [] K R I none := by
  unfold m_X7_cell_20 at hm
  cases hm
  exact po_throw hF hL tw_X7_129_87 dX7_cell_20 dX7_cell_23 dX7_cell_24 dX7_cell_26 dX7_cell_29 (by decide) (Nat.le_of_ble_eq_true rfl) (by decide) (by decide) rfl rfl rfl
set_option maxRecDepth 20000 in
set_option maxHeartbeats 2000000 in
theorem w_X7_cell_39 {X : po_X} {G : po_G} {st : Nat → Nat} {K : po_K} {R : po_R} {ρ : (Int32 ⊕ String) × po_I} (hF : po_F X G cX7_cell RX7 4 st) (hL : po_L X (some .int) 6 1 6 "cell") (HL : po_Lay K R st) (I : po_I) (hm : m_X7_cell_39 I = some ρ) : po_V X G 4 (po_Q X G (po_oi (ρ.1)) K R (ρ.2) none 1 6) 0 0 39 [] [] K R I none := by
  unfold m_X7_cell_39 at hm
  cases hm
  exact po_throw hF hL tw_X7_131_52 dX7_cell_39 dX7_cell_42 dX7_cell_43 dX7_cell_45 dX7_cell_48 (by decide) (Nat.le_of_ble_eq_true rfl) (by decide) (by decide) rfl rfl rfl
set_option maxRecDepth 20000 in
set_option maxHeartbeats 2000000 in
theorem w_X7_cell_e {X : po_X} {G : po_G} {st : Nat → Nat} {K : po_K} {R : po_R} {ρ : (Int32 ⊕ String) × po_I} (hF : po_F X G cX7_cell RX7 4 st) (hL : po_L X (some .int) 6 1 6 "cell") (HL : po_Lay K R st) (I : po_I) (l0 : Nat) (l1 : Int32) (l2 : Int32) (l3 : Int32) (kl0 : K l0 = (18, 8)) (hm : m_X7_cell_e I l0 l1 l2 l3 = some ρ) : po_V X G 4 (po_Q X G (po_oi (ρ.1)) K R (ρ.2) none 1 6) 0 0 0 [(0, .ref l0), (1, .int l1), (2, .int l2), (3, .int l3)] [] K R I none := by
  unfold m_X7_cell_e at hm
  refine po_iload_n hF dX7_cell_0 rfl rfl ?_
  refine po_if_lt (tgt := 20) hF dX7_cell_1 (by decide) hm (fun hm => ?_) (fun hm => ?_)
  · refine po_sub (L' := []) rfl ?_
    exact w_X7_cell_20 hF hL HL I hm
  · refine po_iload_n hF dX7_cell_4 rfl rfl ?_
    refine po_bipush (v := 20) hF dX7_cell_5 (by decide) ?_
    refine po_icmp_ge (tgt := 20) hF dX7_cell_7 (by decide) hm (fun hm => ?_) (fun hm => ?_)
    · refine po_sub (L' := []) rfl ?_
      exact w_X7_cell_20 hF hL HL I hm
    · refine po_iload_n hF dX7_cell_10 rfl rfl ?_
      refine po_if_lt (tgt := 20) hF dX7_cell_11 (by decide) hm (fun hm => ?_) (fun hm => ?_)
      · refine po_sub (L' := []) rfl ?_
        exact w_X7_cell_20 hF hL HL I hm
      · refine po_iload_n hF dX7_cell_14 rfl rfl ?_
        refine po_bipush (v := 14) hF dX7_cell_15 (by decide) ?_
        refine po_icmp_lt (tgt := 30) hF dX7_cell_17 (by decide) hm (fun hm => ?_) (fun hm => ?_)
        · refine po_iload_n hF dX7_cell_30 rfl rfl ?_
          refine po_if_lt (tgt := 39) hF dX7_cell_31 (by decide) hm (fun hm => ?_) (fun hm => ?_)
          · refine po_sub (L' := []) rfl ?_
            exact w_X7_cell_39 hF hL HL I hm
          · refine po_iload_n hF dX7_cell_34 rfl rfl ?_
            refine po_iconst (v := 5) hF dX7_cell_35 (by decide) ?_
            refine po_icmp_le (tgt := 49) hF dX7_cell_36 (by decide) hm (fun hm => ?_) (fun hm => ?_)
            · refine po_iload_n hF dX7_cell_49 rfl rfl ?_
              refine po_if_ne (tgt := 63) hF dX7_cell_50 (by decide) hm (fun hm => ?_) (fun hm => ?_)
              · refine po_iload_n hF dX7_cell_63 rfl rfl ?_
                refine po_iconst (v := 1) hF dX7_cell_64 (by decide) ?_
                refine po_icmp_ne (tgt := 78) hF dX7_cell_65 (by decide) hm (fun hm => ?_) (fun hm => ?_)
                · refine po_aload_n hF dX7_cell_78 rfl rfl ?_
                  refine po_getf (v := .ref (l0 + 3)) hF dX7_cell_79 fl_X7_19 kl0 (ly_7_1 HL kl0).1 ?_
                  refine po_aload_n hF dX7_cell_82 rfl rfl ?_
                  refine po_getf (v := .ref (l0 + 8)) hF dX7_cell_83 fl_X7_26 kl0 (ly_7_2 HL kl0).1 ?_
                  refine po_iload_n hF dX7_cell_86 rfl rfl ?_
                  refine po_iload_n hF dX7_cell_87 rfl rfl ?_
                  refine po_iload_n hF dX7_cell_88 rfl rfl ?_
                  refine po_iconst (v := 2) hF dX7_cell_89 (by decide) ?_
                  refine po_isub hF dX7_cell_90 ?_
                  obtain ⟨x1, hx1, hm⟩ := po_bind hm
                  refine po_callV (As := [.ref (l0 + 8), .int l1, .int l2, .int (l3 - 2)]) hF dX7_cell_91 wq_797 mv_X4_distance ws_X4_distance (show po_cl[4]? = some _ from rfl) rfl ((ly_7_1 HL kl0).2) (c_X4_distance HL ((ly_7_1 HL kl0).2) ((ly_7_2 HL kl0).2) hx1) rfl (po_rtL hL rfl) (Nat.le_of_ble_eq_true rfl) rfl ?_
                  cases hm
                  exact po_iret hF hL dX7_cell_94 (by decide) (by decide) rfl rfl rfl (Or.inl rfl)
                · refine po_aload_n hF dX7_cell_68 rfl rfl ?_
                  refine po_getf (v := .ref (l0 + 8)) hF dX7_cell_69 fl_X7_26 kl0 (ly_7_2 HL kl0).1 ?_
                  refine po_iload_n hF dX7_cell_72 rfl rfl ?_
                  refine po_iload_n hF dX7_cell_73 rfl rfl ?_
                  obtain ⟨x2, hx2, hm⟩ := po_bind hm
                  refine po_callV (As := [.int l1, .int l2]) hF dX7_cell_74 wq_793 mv_X5_standingPermitWith ws_X5_standingPermitWith (show po_cl[5]? = some _ from rfl) rfl ((ly_7_2 HL kl0).2) (c_X5_standingPermitWith HL ((ly_7_2 HL kl0).2) hx2) rfl (po_rtL hL rfl) (Nat.le_of_ble_eq_true rfl) rfl ?_
                  cases hm
                  exact po_iret hF hL dX7_cell_77 (by decide) (by decide) rfl rfl rfl (Or.inl rfl)
              · refine po_aload_n hF dX7_cell_53 rfl rfl ?_
                refine po_getf (v := .ref (l0 + 8)) hF dX7_cell_54 fl_X7_26 kl0 (ly_7_2 HL kl0).1 ?_
                refine po_iload_n hF dX7_cell_57 rfl rfl ?_
                refine po_iload_n hF dX7_cell_58 rfl rfl ?_
                obtain ⟨x3, hx3, hm⟩ := po_bind hm
                refine po_callV (As := [.int l1, .int l2]) hF dX7_cell_59 wq_785 mv_X5_lotWith ws_X5_lotWith (show po_cl[5]? = some _ from rfl) rfl ((ly_7_2 HL kl0).2) (c_X5_lotWith HL ((ly_7_2 HL kl0).2) hx3) rfl (po_rtL hL rfl) (Nat.le_of_ble_eq_true rfl) rfl ?_
                cases hm
                exact po_iret hF hL dX7_cell_62 (by decide) (by decide) rfl rfl rfl (Or.inl rfl)
            · refine po_sub (L' := []) rfl ?_
              exact w_X7_cell_39 hF hL HL I hm
        · refine po_sub (L' := []) rfl ?_
          exact w_X7_cell_20 hF hL HL I hm
theorem c_X7_cell {K : po_K} {R : po_R} {I : po_I} {st : Nat → Nat} {ρ : (Int32 ⊕ String) × po_I} (HL : po_Lay K R st) {l0 : Nat} {l1 : Int32} {l2 : Int32} {l3 : Int32} (kl0 : K l0 = (18, 8)) (hm : m_X7_cell I l0 l1 l2 l3 = some ρ) : po_C st yX7_cell cX7_cell 4 (some .int) 6 1 6 [.ref l0, .int l1, .int l2, .int l3] K R I none (po_oi (ρ.1)) K R (ρ.2) none := by
  refine po_ofC (by decide +kernel) (Nat.le_of_ble_eq_true rfl) (fun X G hF hL => ?_)
  exact w_X7_cell_e hF hL HL I l0 l1 l2 l3 kl0 hm
set_option maxRecDepth 20000 in
set_option maxHeartbeats 2000000 in
theorem w_X0_removeAll_2 {X : po_X} {G : po_G} {st : Nat → Nat} {K : po_K} {R : po_R} {ρ : po_I} {r2 : po_I → Nat → Nat → Int32 → Option (po_I)} (hF : po_F X G cX0_removeAll RX0 3 st) (hL : po_L X none 0 0 0 "removeAll") (HL : po_Lay K R st) (h2 : ∀ (I : po_I) (l0 : Nat) (l1 : Nat) (l2 : Int32), r2 I l0 l1 l2 = some ρ → K l0 = (11, 1) → K l1 = (11, 1) → po_V X G 3 (po_Q X G (.inl (none)) K R (ρ) none 0 0) 0 0 2 [(0, .ref l0), (1, .ref l1), (2, .int l2)] [] K R I none) (I : po_I) (l0 : Nat) (l1 : Nat) (l2 : Int32) (kl0 : K l0 = (11, 1)) (kl1 : K l1 = (11, 1)) (hm : m_X0_removeAll_2 r2 I l0 l1 l2 = some ρ) : po_V X G 3 (po_Q X G (.inl (none)) K R (ρ) none 0 0) 0 0 2 [(0, .ref l0), (1, .ref l1), (2, .int l2)] [] K R I none := by
  unfold m_X0_removeAll_2 at hm
  refine po_iload_n hF dX0_removeAll_2 rfl rfl ?_
  refine po_bipush (v := 14) hF dX0_removeAll_3 (by decide) ?_
  refine po_icmp_ge (tgt := 31) hF dX0_removeAll_5 (by decide) hm (fun hm => ?_) (fun hm => ?_)
  · cases hm
    exact po_vret hF hL dX0_removeAll_31 (by decide) (by decide) rfl rfl rfl (Or.inl rfl)
  · refine po_aload_n hF dX0_removeAll_8 rfl rfl ?_
    refine po_getf (v := .ref (l0 + 1)) hF dX0_removeAll_9 fl_X0_9 kl0 (ly_0_0 HL kl0).1 ?_
    refine po_iload_n hF dX0_removeAll_12 rfl rfl ?_
    refine po_dup2 hF dX0_removeAll_13 rfl rfl ?_
    refine po_iald hF dX0_removeAll_14 ((ly_0_0 HL kl0).2) (Or.inl rfl) hm (fun hm => ?_)
    refine po_aload_n hF dX0_removeAll_15 rfl rfl ?_
    refine po_getf (v := .ref (l1 + 1)) hF dX0_removeAll_16 fl_X0_9 kl1 (ly_0_0 HL kl1).1 ?_
    refine po_iload_n hF dX0_removeAll_19 rfl rfl ?_
    refine po_iald hF dX0_removeAll_20 ((ly_0_0 HL kl1).2) (Or.inl rfl) hm (fun hm => ?_)
    refine po_iconst (v := (-1)) hF dX0_removeAll_21 (by decide) ?_
    refine po_ixor hF dX0_removeAll_22 ?_
    refine po_iand hF dX0_removeAll_23 ?_
    refine po_iast hF dX0_removeAll_24 ((ly_0_0 HL kl0).2) hm rfl (fun hm => ?_)
    refine po_hname hm (fun I1 hm => ?_)
    refine po_iinc (v := l2 + 1) (L' := [(2, .int (l2 + 1)), (0, .ref l0), (1, .ref l1)]) hF dX0_removeAll_25 rfl rfl (by decide) rfl ?_
    refine po_goto (tgt := 2) hF dX0_removeAll_28 (by decide) ?_
    refine po_sub (L' := [(0, .ref l0), (1, .ref l1), (2, .int (l2 + 1))]) rfl ?_
    exact h2 I1 l0 l1 (l2 + 1) hm kl0 kl1
theorem w_X0_removeAll_2L {X : po_X} {G : po_G} {st : Nat → Nat} {K : po_K} {R : po_R} {ρ : po_I} (hF : po_F X G cX0_removeAll RX0 3 st) (hL : po_L X none 0 0 0 "removeAll") (HL : po_Lay K R st) : ∀ (n : Nat) (I : po_I) (l0 : Nat) (l1 : Nat) (l2 : Int32), m_X0_removeAll_2L n I l0 l1 l2 = some ρ → K l0 = (11, 1) → K l1 = (11, 1) → po_V X G 3 (po_Q X G (.inl (none)) K R (ρ) none 0 0) 0 0 2 [(0, .ref l0), (1, .ref l1), (2, .int l2)] [] K R I none := by
  intro n
  induction n with
  | zero => intro I l0 l1 l2 hm; cases hm
  | succ n ih => intro I l0 l1 l2 hm kl0 kl1; exact w_X0_removeAll_2 hF hL HL (ih) I l0 l1 l2 kl0 kl1 hm
set_option maxRecDepth 20000 in
set_option maxHeartbeats 2000000 in
theorem w_X0_removeAll_e {X : po_X} {G : po_G} {st : Nat → Nat} {K : po_K} {R : po_R} {ρ : po_I} (hF : po_F X G cX0_removeAll RX0 3 st) (hL : po_L X none 0 0 0 "removeAll") (HL : po_Lay K R st) (I : po_I) (l0 : Nat) (l1 : Nat) (kl0 : K l0 = (11, 1)) (kl1 : K l1 = (11, 1)) (hm : m_X0_removeAll_e I l0 l1 = some ρ) : po_V X G 3 (po_Q X G (.inl (none)) K R (ρ) none 0 0) 0 0 0 [(0, .ref l0), (1, .ref l1)] [] K R I none := by
  unfold m_X0_removeAll_e at hm
  refine po_iconst (v := 0) hF dX0_removeAll_0 (by decide) ?_
  refine po_istore_n (L' := [(2, .int 0), (0, .ref l0), (1, .ref l1)]) hF dX0_removeAll_1 rfl (by decide) rfl ?_
  refine po_sub (L' := [(0, .ref l0), (1, .ref l1), (2, .int 0)]) rfl ?_
  exact w_X0_removeAll_2L hF hL HL 5000 I l0 l1 0 hm kl0 kl1
theorem c_X0_removeAll {K : po_K} {R : po_R} {I : po_I} {st : Nat → Nat} {ρ : po_I} (HL : po_Lay K R st) {l0 : Nat} {l1 : Nat} (kl0 : K l0 = (11, 1)) (kl1 : K l1 = (11, 1)) (hm : m_X0_removeAll I l0 l1 = some ρ) : po_C st yX0_removeAll cX0_removeAll 3 none 0 0 0 [.ref l0, .ref l1] K R I none (.inl (none)) K R (ρ) none := by
  refine po_ofC (by decide +kernel) (Nat.le_of_ble_eq_true rfl) (fun X G hF hL => ?_)
  exact w_X0_removeAll_e hF hL HL I l0 l1 kl0 kl1 hm
set_option maxRecDepth 20000 in
set_option maxHeartbeats 2000000 in
theorem w_X5_ruleFor_e {X : po_X} {G : po_G} {st : Nat → Nat} {K : po_K} {I : po_I} {R : po_R} {ρ : Int32} (hF : po_F X G cX5_ruleFor RX5 3 st) (hL : po_L X (some .int) 1 0 0 "ruleFor") (HL : po_Lay K R st) (l0 : Nat) (l1 : Int32) (l2 : Int32) (kl0 : K l0 = (16, 8)) (hm : m_X5_ruleFor_e I l0 l1 l2 = some ρ) : po_V X G 3 (po_Q X G (.inl (some (.int ρ))) K R I none 0 0) 0 0 0 [(0, .ref l0), (1, .int l1), (2, .int l2)] [] K R I none := by
  unfold m_X5_ruleFor_e at hm
  refine po_aload_n hF dX5_ruleFor_0 rfl rfl ?_
  refine po_aload_n hF dX5_ruleFor_1 rfl rfl ?_
  refine po_iload_n hF dX5_ruleFor_2 rfl rfl ?_
  obtain ⟨x1, hx1, hm⟩ := po_bind hm
  refine po_callV (As := [.int l1]) hF dX5_ruleFor_3 wq_836 mv_X5_lotAt ws_X5_lotAt (show po_cl[5]? = some _ from rfl) rfl kl0 (c_X5_lotAt HL kl0 hx1) rfl (po_rtL hL rfl) (Nat.le_of_ble_eq_true rfl) rfl ?_
  refine po_getf (v := .int (I x1 0)) hF dX5_ruleFor_6 fl_X5_72 (kr_X5_lotAt HL kl0 hx1) rfl ?_
  refine po_iload_n hF dX5_ruleFor_9 rfl rfl ?_
  obtain ⟨x2, hx2, hm⟩ := po_bind hm
  refine po_callV (As := [.int (I x1 0), .int l2]) hF dX5_ruleFor_10 wq_837 mv_X5_ruleOf ws_X5_ruleOf (show po_cl[5]? = some _ from rfl) rfl kl0 (c_X5_ruleOf HL kl0 hx2) rfl (po_rtL hL rfl) (Nat.le_of_ble_eq_true rfl) rfl ?_
  cases hm
  exact po_iret hF hL dX5_ruleFor_13 (by decide) (by decide) rfl rfl rfl (Or.inl rfl)
theorem c_X5_ruleFor {K : po_K} {R : po_R} {I : po_I} {st : Nat → Nat} {ρ : Int32} (HL : po_Lay K R st) {l0 : Nat} {l1 : Int32} {l2 : Int32} (kl0 : K l0 = (16, 8)) (hm : m_X5_ruleFor I l0 l1 l2 = some ρ) : po_C st yX5_ruleFor cX5_ruleFor 3 (some .int) 1 0 0 [.ref l0, .int l1, .int l2] K R I none (.inl (some (.int ρ))) K R I none := by
  refine po_ofC (by decide +kernel) (Nat.le_of_ble_eq_true rfl) (fun X G hF hL => ?_)
  exact w_X5_ruleFor_e hF hL HL l0 l1 l2 kl0 hm
set_option maxRecDepth 20000 in
set_option maxHeartbeats 2000000 in
theorem w_X0_keepAll_2 {X : po_X} {G : po_G} {st : Nat → Nat} {K : po_K} {R : po_R} {ρ : po_I} {r2 : po_I → Nat → Nat → Int32 → Option (po_I)} (hF : po_F X G cX0_keepAll RX0 3 st) (hL : po_L X none 0 0 0 "keepAll") (HL : po_Lay K R st) (h2 : ∀ (I : po_I) (l0 : Nat) (l1 : Nat) (l2 : Int32), r2 I l0 l1 l2 = some ρ → K l0 = (11, 1) → K l1 = (11, 1) → po_V X G 3 (po_Q X G (.inl (none)) K R (ρ) none 0 0) 0 0 2 [(0, .ref l0), (1, .ref l1), (2, .int l2)] [] K R I none) (I : po_I) (l0 : Nat) (l1 : Nat) (l2 : Int32) (kl0 : K l0 = (11, 1)) (kl1 : K l1 = (11, 1)) (hm : m_X0_keepAll_2 r2 I l0 l1 l2 = some ρ) : po_V X G 3 (po_Q X G (.inl (none)) K R (ρ) none 0 0) 0 0 2 [(0, .ref l0), (1, .ref l1), (2, .int l2)] [] K R I none := by
  unfold m_X0_keepAll_2 at hm
  refine po_iload_n hF dX0_keepAll_2 rfl rfl ?_
  refine po_bipush (v := 14) hF dX0_keepAll_3 (by decide) ?_
  refine po_icmp_ge (tgt := 29) hF dX0_keepAll_5 (by decide) hm (fun hm => ?_) (fun hm => ?_)
  · cases hm
    exact po_vret hF hL dX0_keepAll_29 (by decide) (by decide) rfl rfl rfl (Or.inl rfl)
  · refine po_aload_n hF dX0_keepAll_8 rfl rfl ?_
    refine po_getf (v := .ref (l0 + 1)) hF dX0_keepAll_9 fl_X0_9 kl0 (ly_0_0 HL kl0).1 ?_
    refine po_iload_n hF dX0_keepAll_12 rfl rfl ?_
    refine po_dup2 hF dX0_keepAll_13 rfl rfl ?_
    refine po_iald hF dX0_keepAll_14 ((ly_0_0 HL kl0).2) (Or.inl rfl) hm (fun hm => ?_)
    refine po_aload_n hF dX0_keepAll_15 rfl rfl ?_
    refine po_getf (v := .ref (l1 + 1)) hF dX0_keepAll_16 fl_X0_9 kl1 (ly_0_0 HL kl1).1 ?_
    refine po_iload_n hF dX0_keepAll_19 rfl rfl ?_
    refine po_iald hF dX0_keepAll_20 ((ly_0_0 HL kl1).2) (Or.inl rfl) hm (fun hm => ?_)
    refine po_iand hF dX0_keepAll_21 ?_
    refine po_iast hF dX0_keepAll_22 ((ly_0_0 HL kl0).2) hm rfl (fun hm => ?_)
    refine po_hname hm (fun I1 hm => ?_)
    refine po_iinc (v := l2 + 1) (L' := [(2, .int (l2 + 1)), (0, .ref l0), (1, .ref l1)]) hF dX0_keepAll_23 rfl rfl (by decide) rfl ?_
    refine po_goto (tgt := 2) hF dX0_keepAll_26 (by decide) ?_
    refine po_sub (L' := [(0, .ref l0), (1, .ref l1), (2, .int (l2 + 1))]) rfl ?_
    exact h2 I1 l0 l1 (l2 + 1) hm kl0 kl1
theorem w_X0_keepAll_2L {X : po_X} {G : po_G} {st : Nat → Nat} {K : po_K} {R : po_R} {ρ : po_I} (hF : po_F X G cX0_keepAll RX0 3 st) (hL : po_L X none 0 0 0 "keepAll") (HL : po_Lay K R st) : ∀ (n : Nat) (I : po_I) (l0 : Nat) (l1 : Nat) (l2 : Int32), m_X0_keepAll_2L n I l0 l1 l2 = some ρ → K l0 = (11, 1) → K l1 = (11, 1) → po_V X G 3 (po_Q X G (.inl (none)) K R (ρ) none 0 0) 0 0 2 [(0, .ref l0), (1, .ref l1), (2, .int l2)] [] K R I none := by
  intro n
  induction n with
  | zero => intro I l0 l1 l2 hm; cases hm
  | succ n ih => intro I l0 l1 l2 hm kl0 kl1; exact w_X0_keepAll_2 hF hL HL (ih) I l0 l1 l2 kl0 kl1 hm
set_option maxRecDepth 20000 in
set_option maxHeartbeats 2000000 in
theorem w_X0_keepAll_e {X : po_X} {G : po_G} {st : Nat → Nat} {K : po_K} {R : po_R} {ρ : po_I} (hF : po_F X G cX0_keepAll RX0 3 st) (hL : po_L X none 0 0 0 "keepAll") (HL : po_Lay K R st) (I : po_I) (l0 : Nat) (l1 : Nat) (kl0 : K l0 = (11, 1)) (kl1 : K l1 = (11, 1)) (hm : m_X0_keepAll_e I l0 l1 = some ρ) : po_V X G 3 (po_Q X G (.inl (none)) K R (ρ) none 0 0) 0 0 0 [(0, .ref l0), (1, .ref l1)] [] K R I none := by
  unfold m_X0_keepAll_e at hm
  refine po_iconst (v := 0) hF dX0_keepAll_0 (by decide) ?_
  refine po_istore_n (L' := [(2, .int 0), (0, .ref l0), (1, .ref l1)]) hF dX0_keepAll_1 rfl (by decide) rfl ?_
  refine po_sub (L' := [(0, .ref l0), (1, .ref l1), (2, .int 0)]) rfl ?_
  exact w_X0_keepAll_2L hF hL HL 5000 I l0 l1 0 hm kl0 kl1
theorem c_X0_keepAll {K : po_K} {R : po_R} {I : po_I} {st : Nat → Nat} {ρ : po_I} (HL : po_Lay K R st) {l0 : Nat} {l1 : Nat} (kl0 : K l0 = (11, 1)) (kl1 : K l1 = (11, 1)) (hm : m_X0_keepAll I l0 l1 = some ρ) : po_C st yX0_keepAll cX0_keepAll 3 none 0 0 0 [.ref l0, .ref l1] K R I none (.inl (none)) K R (ρ) none := by
  refine po_ofC (by decide +kernel) (Nat.le_of_ble_eq_true rfl) (fun X G hF hL => ?_)
  exact w_X0_keepAll_e hF hL HL I l0 l1 kl0 kl1 hm
set_option maxRecDepth 20000 in
set_option maxHeartbeats 2000000 in
theorem w_X0_longestRun_26 {X : po_X} {G : po_G} {st : Nat → Nat} {K : po_K} {I : po_I} {R : po_R} {ρ : Int32} (hF : po_F X G cX0_longestRun RX0 3 st) (hL : po_L X (some .int) 0 0 0 "longestRun") (HL : po_Lay K R st) (l2 : Int32) (hm : m_X0_longestRun_26 l2 = some ρ) : po_V X G 3 (po_Q X G (.inl (some (.int ρ))) K R I none 0 0) 0 0 26 [(2, .int l2)] [] K R I none := by
  unfold m_X0_longestRun_26 at hm
  refine po_iload_n hF dX0_longestRun_26 rfl rfl ?_
  cases hm
  exact po_iret hF hL dX0_longestRun_27 (by decide) (by decide) rfl rfl rfl (Or.inl rfl)
set_option maxRecDepth 20000 in
set_option maxHeartbeats 2000000 in
theorem w_X0_longestRun_4 {X : po_X} {G : po_G} {st : Nat → Nat} {K : po_K} {I : po_I} {R : po_R} {ρ : Int32} {r4 : Int32 → Int32 → Option (Int32)} (hF : po_F X G cX0_longestRun RX0 3 st) (hL : po_L X (some .int) 0 0 0 "longestRun") (HL : po_Lay K R st) (h4 : ∀ (l1 : Int32) (l2 : Int32), r4 l1 l2 = some ρ → po_V X G 3 (po_Q X G (.inl (some (.int ρ))) K R I none 0 0) 0 0 4 [(1, .int l1), (2, .int l2)] [] K R I none) (l1 : Int32) (l2 : Int32) (hm : m_X0_longestRun_4 r4 l1 l2 = some ρ) : po_V X G 3 (po_Q X G (.inl (some (.int ρ))) K R I none 0 0) 0 0 4 [(1, .int l1), (2, .int l2)] [] K R I none := by
  unfold m_X0_longestRun_4 at hm
  refine po_iload_n hF dX0_longestRun_4 rfl rfl ?_
  refine po_if_eq (tgt := 26) hF dX0_longestRun_5 (by decide) hm (fun hm => ?_) (fun hm => ?_)
  · refine po_sub (L' := [(2, .int l2)]) rfl ?_
    exact w_X0_longestRun_26 hF hL HL l2 hm
  · refine po_iload_n hF dX0_longestRun_8 rfl rfl ?_
    refine po_bipush (v := 20) hF dX0_longestRun_9 (by decide) ?_
    refine po_icmp_ge (tgt := 26) hF dX0_longestRun_11 (by decide) hm (fun hm => ?_) (fun hm => ?_)
    · refine po_sub (L' := [(2, .int l2)]) rfl ?_
      exact w_X0_longestRun_26 hF hL HL l2 hm
    · refine po_iload_n hF dX0_longestRun_14 rfl rfl ?_
      refine po_iload_n hF dX0_longestRun_15 rfl rfl ?_
      refine po_iconst (v := 1) hF dX0_longestRun_16 (by decide) ?_
      refine po_ishl hF dX0_longestRun_17 ?_
      refine po_iand hF dX0_longestRun_18 ?_
      refine po_top hm (fun v1 hm => ?_)
      refine po_istore_n (L' := [(1, .int v1), (2, .int l2)]) hF dX0_longestRun_19 rfl (by decide) rfl ?_
      refine po_iinc (v := l2 + 1) (L' := [(2, .int (l2 + 1)), (1, .int v1)]) hF dX0_longestRun_20 rfl rfl (by decide) rfl ?_
      refine po_goto (tgt := 4) hF dX0_longestRun_23 (by decide) ?_
      refine po_sub (L' := [(1, .int v1), (2, .int (l2 + 1))]) rfl ?_
      exact h4 v1 (l2 + 1) hm
theorem w_X0_longestRun_4L {X : po_X} {G : po_G} {st : Nat → Nat} {K : po_K} {I : po_I} {R : po_R} {ρ : Int32} (hF : po_F X G cX0_longestRun RX0 3 st) (hL : po_L X (some .int) 0 0 0 "longestRun") (HL : po_Lay K R st) : ∀ (n : Nat) (l1 : Int32) (l2 : Int32), m_X0_longestRun_4L n l1 l2 = some ρ → po_V X G 3 (po_Q X G (.inl (some (.int ρ))) K R I none 0 0) 0 0 4 [(1, .int l1), (2, .int l2)] [] K R I none := by
  intro n
  induction n with
  | zero => intro l1 l2 hm; cases hm
  | succ n ih => intro l1 l2 hm; exact w_X0_longestRun_4 hF hL HL (ih) l1 l2 hm
set_option maxRecDepth 20000 in
set_option maxHeartbeats 2000000 in
theorem w_X0_longestRun_e {X : po_X} {G : po_G} {st : Nat → Nat} {K : po_K} {I : po_I} {R : po_R} {ρ : Int32} (hF : po_F X G cX0_longestRun RX0 3 st) (hL : po_L X (some .int) 0 0 0 "longestRun") (HL : po_Lay K R st) (l0 : Int32) (hm : m_X0_longestRun_e l0 = some ρ) : po_V X G 3 (po_Q X G (.inl (some (.int ρ))) K R I none 0 0) 0 0 0 [(0, .int l0)] [] K R I none := by
  unfold m_X0_longestRun_e at hm
  refine po_iload_n hF dX0_longestRun_0 rfl rfl ?_
  refine po_istore_n (L' := [(1, .int l0), (0, .int l0)]) hF dX0_longestRun_1 rfl (by decide) rfl ?_
  refine po_iconst (v := 0) hF dX0_longestRun_2 (by decide) ?_
  refine po_istore_n (L' := [(2, .int 0), (1, .int l0), (0, .int l0)]) hF dX0_longestRun_3 rfl (by decide) rfl ?_
  refine po_sub (L' := [(1, .int l0), (2, .int 0)]) rfl ?_
  exact w_X0_longestRun_4L hF hL HL 5000 l0 0 hm
theorem c_X0_longestRun {K : po_K} {R : po_R} {I : po_I} {st : Nat → Nat} {ρ : Int32} (HL : po_Lay K R st) {l0 : Int32} (hm : m_X0_longestRun l0 = some ρ) : po_C st yX0_longestRun cX0_longestRun 3 (some .int) 0 0 0 [.int l0] K R I none (.inl (some (.int ρ))) K R I none := by
  refine po_ofC (by decide +kernel) (Nat.le_of_ble_eq_true rfl) (fun X G hF hL => ?_)
  exact w_X0_longestRun_e hF hL HL l0 hm
set_option maxRecDepth 20000 in
set_option maxHeartbeats 2000000 in
theorem w_X0_largestRectangle_20 {X : po_X} {G : po_G} {st : Nat → Nat} {K : po_K} {I : po_I} {R : po_R} {ρ : Int32} {r4 : Nat → Int32 → Int32 → Option (Int32)} {r20 : Nat → Int32 → Int32 → Int32 → Int32 → Option (Int32)} (hF : po_F X G cX0_largestRectangle RX0 5 st) (hL : po_L X (some .int) 1 0 0 "largestRectangle") (HL : po_Lay K R st) (h4 : ∀ (l0 : Nat) (l1 : Int32) (l2 : Int32), r4 l0 l1 l2 = some ρ → K l0 = (11, 1) → po_V X G 5 (po_Q X G (.inl (some (.int ρ))) K R I none 0 0) 0 0 4 [(0, .ref l0), (1, .int l1), (2, .int l2)] [] K R I none) (h20 : ∀ (l0 : Nat) (l1 : Int32) (l2 : Int32) (l3 : Int32) (l4 : Int32), r20 l0 l1 l2 l3 l4 = some ρ → K l0 = (11, 1) → po_V X G 5 (po_Q X G (.inl (some (.int ρ))) K R I none 0 0) 0 0 20 [(0, .ref l0), (1, .int l1), (2, .int l2), (3, .int l3), (4, .int l4)] [] K R I none) (l0 : Nat) (l1 : Int32) (l2 : Int32) (l3 : Int32) (l4 : Int32) (kl0 : K l0 = (11, 1)) (hm : m_X0_largestRectangle_20 I r4 r20 l0 l1 l2 l3 l4 = some ρ) : po_V X G 5 (po_Q X G (.inl (some (.int ρ))) K R I none 0 0) 0 0 20 [(0, .ref l0), (1, .int l1), (2, .int l2), (3, .int l3), (4, .int l4)] [] K R I none := by
  unfold m_X0_largestRectangle_20 at hm
  refine po_iload hF dX0_largestRectangle_20 rfl ?_
  refine po_bipush (v := 14) hF dX0_largestRectangle_22 (by decide) ?_
  refine po_icmp_ge (tgt := 59) hF dX0_largestRectangle_24 (by decide) hm (fun hm => ?_) (fun hm => ?_)
  · refine po_iinc (v := l2 + 1) (L' := [(2, .int (l2 + 1)), (0, .ref l0), (1, .int l1), (3, .int l3), (4, .int l4)]) hF dX0_largestRectangle_59 rfl rfl (by decide) rfl ?_
    refine po_goto (tgt := 4) hF dX0_largestRectangle_62 (by decide) ?_
    refine po_sub (L' := [(0, .ref l0), (1, .int l1), (2, .int (l2 + 1))]) rfl ?_
    exact h4 l0 l1 (l2 + 1) hm kl0
  · refine po_iload_n hF dX0_largestRectangle_27 rfl rfl ?_
    refine po_aload_n hF dX0_largestRectangle_28 rfl rfl ?_
    refine po_getf (v := .ref (l0 + 1)) hF dX0_largestRectangle_29 fl_X0_9 kl0 (ly_0_0 HL kl0).1 ?_
    refine po_iload hF dX0_largestRectangle_32 rfl ?_
    refine po_iald hF dX0_largestRectangle_34 ((ly_0_0 HL kl0).2) (Or.inl rfl) hm (fun hm => ?_)
    refine po_iand hF dX0_largestRectangle_35 ?_
    refine po_top hm (fun v1 hm => ?_)
    refine po_istore_n (L' := [(3, .int v1), (0, .ref l0), (1, .int l1), (2, .int l2), (4, .int l4)]) hF dX0_largestRectangle_36 rfl (by decide) rfl ?_
    refine po_iload_n hF dX0_largestRectangle_37 rfl rfl ?_
    refine po_iload hF dX0_largestRectangle_38 rfl ?_
    refine po_iload_n hF dX0_largestRectangle_40 rfl rfl ?_
    refine po_isub hF dX0_largestRectangle_41 ?_
    refine po_iconst (v := 1) hF dX0_largestRectangle_42 (by decide) ?_
    refine po_iadd hF dX0_largestRectangle_43 ?_
    refine po_iload_n hF dX0_largestRectangle_44 rfl rfl ?_
    obtain ⟨x2, hx2, hm⟩ := po_bind hm
    refine po_callS (As := [.int v1]) hF dX0_largestRectangle_45 wq_846 mv_X0_longestRun (c_X0_longestRun HL hx2) rfl (po_rtL hL rfl) (Nat.le_of_ble_eq_true rfl) rfl ?_
    refine po_imul hF dX0_largestRectangle_48 ?_
    refine po_max hF hL dX0_largestRectangle_49 wq_849 ⟨wq_850, wq_106, wq_851⟩ (Nat.le_of_ble_eq_true rfl) (by decide) (by decide) (by decide) ?_
    refine po_top hm (fun v3 hm => ?_)
    refine po_istore_n (L' := [(1, .int v3), (3, .int v1), (0, .ref l0), (2, .int l2), (4, .int l4)]) hF dX0_largestRectangle_52 rfl (by decide) rfl ?_
    refine po_iinc (v := l4 + 1) (L' := [(4, .int (l4 + 1)), (1, .int v3), (3, .int v1), (0, .ref l0), (2, .int l2)]) hF dX0_largestRectangle_53 rfl rfl (by decide) rfl ?_
    refine po_goto (tgt := 20) hF dX0_largestRectangle_56 (by decide) ?_
    refine po_sub (L' := [(0, .ref l0), (1, .int v3), (2, .int l2), (3, .int v1), (4, .int (l4 + 1))]) rfl ?_
    exact h20 l0 v3 l2 v1 (l4 + 1) hm kl0
theorem w_X0_largestRectangle_20L {X : po_X} {G : po_G} {st : Nat → Nat} {K : po_K} {I : po_I} {R : po_R} {ρ : Int32} {r4 : Nat → Int32 → Int32 → Option (Int32)} (hF : po_F X G cX0_largestRectangle RX0 5 st) (hL : po_L X (some .int) 1 0 0 "largestRectangle") (HL : po_Lay K R st) (h4 : ∀ (l0 : Nat) (l1 : Int32) (l2 : Int32), r4 l0 l1 l2 = some ρ → K l0 = (11, 1) → po_V X G 5 (po_Q X G (.inl (some (.int ρ))) K R I none 0 0) 0 0 4 [(0, .ref l0), (1, .int l1), (2, .int l2)] [] K R I none) : ∀ (n : Nat) (l0 : Nat) (l1 : Int32) (l2 : Int32) (l3 : Int32) (l4 : Int32), m_X0_largestRectangle_20L I r4 n l0 l1 l2 l3 l4 = some ρ → K l0 = (11, 1) → po_V X G 5 (po_Q X G (.inl (some (.int ρ))) K R I none 0 0) 0 0 20 [(0, .ref l0), (1, .int l1), (2, .int l2), (3, .int l3), (4, .int l4)] [] K R I none := by
  intro n
  induction n with
  | zero => intro l0 l1 l2 l3 l4 hm; cases hm
  | succ n ih => intro l0 l1 l2 l3 l4 hm kl0; exact w_X0_largestRectangle_20 hF hL HL h4 (ih) l0 l1 l2 l3 l4 kl0 hm
set_option maxRecDepth 20000 in
set_option maxHeartbeats 2000000 in
theorem w_X0_largestRectangle_4 {X : po_X} {G : po_G} {st : Nat → Nat} {K : po_K} {I : po_I} {R : po_R} {ρ : Int32} {r4 : Nat → Int32 → Int32 → Option (Int32)} (hF : po_F X G cX0_largestRectangle RX0 5 st) (hL : po_L X (some .int) 1 0 0 "largestRectangle") (HL : po_Lay K R st) (h4 : ∀ (l0 : Nat) (l1 : Int32) (l2 : Int32), r4 l0 l1 l2 = some ρ → K l0 = (11, 1) → po_V X G 5 (po_Q X G (.inl (some (.int ρ))) K R I none 0 0) 0 0 4 [(0, .ref l0), (1, .int l1), (2, .int l2)] [] K R I none) (l0 : Nat) (l1 : Int32) (l2 : Int32) (kl0 : K l0 = (11, 1)) (hm : m_X0_largestRectangle_4 I r4 l0 l1 l2 = some ρ) : po_V X G 5 (po_Q X G (.inl (some (.int ρ))) K R I none 0 0) 0 0 4 [(0, .ref l0), (1, .int l1), (2, .int l2)] [] K R I none := by
  unfold m_X0_largestRectangle_4 at hm
  refine po_iload_n hF dX0_largestRectangle_4 rfl rfl ?_
  refine po_bipush (v := 14) hF dX0_largestRectangle_5 (by decide) ?_
  refine po_icmp_ge (tgt := 65) hF dX0_largestRectangle_7 (by decide) hm (fun hm => ?_) (fun hm => ?_)
  · refine po_iload_n hF dX0_largestRectangle_65 rfl rfl ?_
    cases hm
    exact po_iret hF hL dX0_largestRectangle_66 (by decide) (by decide) rfl rfl rfl (Or.inl rfl)
  · refine po_aload_n hF dX0_largestRectangle_10 rfl rfl ?_
    refine po_getf (v := .ref (l0 + 1)) hF dX0_largestRectangle_11 fl_X0_9 kl0 (ly_0_0 HL kl0).1 ?_
    refine po_iload_n hF dX0_largestRectangle_14 rfl rfl ?_
    refine po_iald hF dX0_largestRectangle_15 ((ly_0_0 HL kl0).2) (Or.inl rfl) hm (fun hm => ?_)
    refine po_top hm (fun v4 hm => ?_)
    refine po_istore_n (L' := [(3, .int v4), (0, .ref l0), (1, .int l1), (2, .int l2)]) hF dX0_largestRectangle_16 rfl (by decide) rfl ?_
    refine po_iload_n hF dX0_largestRectangle_17 rfl rfl ?_
    refine po_istore (L' := [(4, .int l2), (3, .int v4), (0, .ref l0), (1, .int l1), (2, .int l2)]) hF dX0_largestRectangle_18 (by decide) rfl ?_
    refine po_sub (L' := [(0, .ref l0), (1, .int l1), (2, .int l2), (3, .int v4), (4, .int l2)]) rfl ?_
    exact w_X0_largestRectangle_20L hF hL HL h4 5000 l0 l1 l2 v4 l2 hm kl0
theorem w_X0_largestRectangle_4L {X : po_X} {G : po_G} {st : Nat → Nat} {K : po_K} {I : po_I} {R : po_R} {ρ : Int32} (hF : po_F X G cX0_largestRectangle RX0 5 st) (hL : po_L X (some .int) 1 0 0 "largestRectangle") (HL : po_Lay K R st) : ∀ (n : Nat) (l0 : Nat) (l1 : Int32) (l2 : Int32), m_X0_largestRectangle_4L I n l0 l1 l2 = some ρ → K l0 = (11, 1) → po_V X G 5 (po_Q X G (.inl (some (.int ρ))) K R I none 0 0) 0 0 4 [(0, .ref l0), (1, .int l1), (2, .int l2)] [] K R I none := by
  intro n
  induction n with
  | zero => intro l0 l1 l2 hm; cases hm
  | succ n ih => intro l0 l1 l2 hm kl0; exact w_X0_largestRectangle_4 hF hL HL (ih) l0 l1 l2 kl0 hm
set_option maxRecDepth 20000 in
set_option maxHeartbeats 2000000 in
theorem w_X0_largestRectangle_e {X : po_X} {G : po_G} {st : Nat → Nat} {K : po_K} {I : po_I} {R : po_R} {ρ : Int32} (hF : po_F X G cX0_largestRectangle RX0 5 st) (hL : po_L X (some .int) 1 0 0 "largestRectangle") (HL : po_Lay K R st) (l0 : Nat) (kl0 : K l0 = (11, 1)) (hm : m_X0_largestRectangle_e I l0 = some ρ) : po_V X G 5 (po_Q X G (.inl (some (.int ρ))) K R I none 0 0) 0 0 0 [(0, .ref l0)] [] K R I none := by
  unfold m_X0_largestRectangle_e at hm
  refine po_iconst (v := 0) hF dX0_largestRectangle_0 (by decide) ?_
  refine po_istore_n (L' := [(1, .int 0), (0, .ref l0)]) hF dX0_largestRectangle_1 rfl (by decide) rfl ?_
  refine po_iconst (v := 0) hF dX0_largestRectangle_2 (by decide) ?_
  refine po_istore_n (L' := [(2, .int 0), (1, .int 0), (0, .ref l0)]) hF dX0_largestRectangle_3 rfl (by decide) rfl ?_
  refine po_sub (L' := [(0, .ref l0), (1, .int 0), (2, .int 0)]) rfl ?_
  exact w_X0_largestRectangle_4L hF hL HL 5000 l0 0 0 hm kl0
theorem c_X0_largestRectangle {K : po_K} {R : po_R} {I : po_I} {st : Nat → Nat} {ρ : Int32} (HL : po_Lay K R st) {l0 : Nat} (kl0 : K l0 = (11, 1)) (hm : m_X0_largestRectangle I l0 = some ρ) : po_C st yX0_largestRectangle cX0_largestRectangle 5 (some .int) 1 0 0 [.ref l0] K R I none (.inl (some (.int ρ))) K R I none := by
  refine po_ofC (by decide +kernel) (Nat.le_of_ble_eq_true rfl) (fun X G hF hL => ?_)
  exact w_X0_largestRectangle_e hF hL HL l0 kl0 hm
set_option maxRecDepth 20000 in
set_option maxHeartbeats 2000000 in
theorem w_X4_largestBuilding_82 {X : po_X} {G : po_G} {st : Nat → Nat} {K : po_K} {R : po_R} {ρ : Int32 × po_I} {r41 : po_I → Nat → Nat → Int32 → Nat → Int32 → Option (Int32 × po_I)} {r82 : po_I → Nat → Nat → Int32 → Nat → Int32 → Int32 → Int32 → Option (Int32 × po_I)} (hF : po_F X G cX4_largestBuilding RX4 7 st) (hL : po_L X (some .int) 3 0 0 "largestBuilding") (HL : po_Lay K R st) (h41 : ∀ (I : po_I) (l0 : Nat) (l1 : Nat) (l2 : Int32) (l3 : Nat) (l4 : Int32), r41 I l0 l1 l2 l3 l4 = some ρ → K l0 = (15, 2) → K l1 = (16, 8) → K l3 = (12, 4) → po_V X G 7 (po_Q X G (.inl (some (.int ρ.1))) K R (ρ.2) none 0 0) 0 0 41 [(0, .ref l0), (1, .ref l1), (2, .int l2), (3, .ref l3), (4, .int l4)] [] K R I none) (h82 : ∀ (I : po_I) (l0 : Nat) (l1 : Nat) (l2 : Int32) (l3 : Nat) (l4 : Int32) (l5 : Int32) (l6 : Int32), r82 I l0 l1 l2 l3 l4 l5 l6 = some ρ → K l0 = (15, 2) → K l1 = (16, 8) → K l3 = (12, 4) → po_V X G 7 (po_Q X G (.inl (some (.int ρ.1))) K R (ρ.2) none 0 0) 0 0 82 [(0, .ref l0), (1, .ref l1), (2, .int l2), (3, .ref l3), (4, .int l4), (5, .int l5), (6, .int l6)] [] K R I none) (I : po_I) (l0 : Nat) (l1 : Nat) (l2 : Int32) (l3 : Nat) (l4 : Int32) (l5 : Int32) (l6 : Int32) (kl0 : K l0 = (15, 2)) (kl1 : K l1 = (16, 8)) (kl3 : K l3 = (12, 4)) (hm : m_X4_largestBuilding_82 r41 r82 I l0 l1 l2 l3 l4 l5 l6 = some ρ) : po_V X G 7 (po_Q X G (.inl (some (.int ρ.1))) K R (ρ.2) none 0 0) 0 0 82 [(0, .ref l0), (1, .ref l1), (2, .int l2), (3, .ref l3), (4, .int l4), (5, .int l5), (6, .int l6)] [] K R I none := by
  unfold m_X4_largestBuilding_82 at hm
  refine po_iload hF dX4_largestBuilding_82 rfl ?_
  refine po_iload hF dX4_largestBuilding_84 rfl ?_
  refine po_icmp_ge (tgt := 104) hF dX4_largestBuilding_86 (by decide) hm (fun hm => ?_) (fun hm => ?_)
  · refine po_aload_n hF dX4_largestBuilding_104 rfl rfl ?_
    refine po_getf (v := .ref (l0 + 1)) hF dX4_largestBuilding_105 fl_X4_12 kl0 (ly_4_0 HL kl0).1 ?_
    refine po_aload_n hF dX4_largestBuilding_108 rfl rfl ?_
    refine po_getf (v := .ref (l0 + 3)) hF dX4_largestBuilding_109 fl_X4_18 kl0 (ly_4_1 HL kl0).1 ?_
    obtain ⟨x1, hx1, hm⟩ := po_bind hm
    refine po_callV (As := [.ref (l0 + 3)]) hF dX4_largestBuilding_112 wq_838 mv_X0_keepAll ws_X0_keepAll (show po_cl[0]? = some _ from rfl) rfl ((ly_4_0 HL kl0).2) (c_X0_keepAll HL ((ly_4_0 HL kl0).2) ((ly_4_1 HL kl0).2) hx1) rfl (po_rtL hL rfl) (Nat.le_of_ble_eq_true rfl) rfl ?_
    refine po_iinc (v := l4 + 1) (L' := [(4, .int (l4 + 1)), (0, .ref l0), (1, .ref l1), (2, .int l2), (3, .ref l3), (5, .int l5), (6, .int l6)]) hF dX4_largestBuilding_115 rfl rfl (by decide) rfl ?_
    refine po_goto (tgt := 41) hF dX4_largestBuilding_118 (by decide) ?_
    refine po_sub (L' := [(0, .ref l0), (1, .ref l1), (2, .int l2), (3, .ref l3), (4, .int (l4 + 1))]) rfl ?_
    exact h41 x1 l0 l1 l2 l3 (l4 + 1) hm kl0 kl1 kl3
  · refine po_aload_n hF dX4_largestBuilding_89 rfl rfl ?_
    refine po_getf (v := .ref (l0 + 3)) hF dX4_largestBuilding_90 fl_X4_18 kl0 (ly_4_1 HL kl0).1 ?_
    refine po_iload hF dX4_largestBuilding_93 rfl ?_
    obtain ⟨x2, hx2, hm⟩ := po_bind hm
    refine po_callV (As := [.int l4]) hF dX4_largestBuilding_95 wq_813 mv_X0_takeEdgeOff ws_X0_takeEdgeOff (show po_cl[0]? = some _ from rfl) rfl ((ly_4_1 HL kl0).2) (c_X0_takeEdgeOff HL ((ly_4_1 HL kl0).2) hx2) rfl (po_rtL hL rfl) (Nat.le_of_ble_eq_true rfl) rfl ?_
    refine po_iinc (v := l6 + 1) (L' := [(6, .int (l6 + 1)), (0, .ref l0), (1, .ref l1), (2, .int l2), (3, .ref l3), (4, .int l4), (5, .int l5)]) hF dX4_largestBuilding_98 rfl rfl (by decide) rfl ?_
    refine po_goto (tgt := 82) hF dX4_largestBuilding_101 (by decide) ?_
    refine po_sub (L' := [(0, .ref l0), (1, .ref l1), (2, .int l2), (3, .ref l3), (4, .int l4), (5, .int l5), (6, .int (l6 + 1))]) rfl ?_
    exact h82 x2 l0 l1 l2 l3 l4 l5 (l6 + 1) hm kl0 kl1 kl3
theorem w_X4_largestBuilding_82L {X : po_X} {G : po_G} {st : Nat → Nat} {K : po_K} {R : po_R} {ρ : Int32 × po_I} {r41 : po_I → Nat → Nat → Int32 → Nat → Int32 → Option (Int32 × po_I)} (hF : po_F X G cX4_largestBuilding RX4 7 st) (hL : po_L X (some .int) 3 0 0 "largestBuilding") (HL : po_Lay K R st) (h41 : ∀ (I : po_I) (l0 : Nat) (l1 : Nat) (l2 : Int32) (l3 : Nat) (l4 : Int32), r41 I l0 l1 l2 l3 l4 = some ρ → K l0 = (15, 2) → K l1 = (16, 8) → K l3 = (12, 4) → po_V X G 7 (po_Q X G (.inl (some (.int ρ.1))) K R (ρ.2) none 0 0) 0 0 41 [(0, .ref l0), (1, .ref l1), (2, .int l2), (3, .ref l3), (4, .int l4)] [] K R I none) : ∀ (n : Nat) (I : po_I) (l0 : Nat) (l1 : Nat) (l2 : Int32) (l3 : Nat) (l4 : Int32) (l5 : Int32) (l6 : Int32), m_X4_largestBuilding_82L r41 n I l0 l1 l2 l3 l4 l5 l6 = some ρ → K l0 = (15, 2) → K l1 = (16, 8) → K l3 = (12, 4) → po_V X G 7 (po_Q X G (.inl (some (.int ρ.1))) K R (ρ.2) none 0 0) 0 0 82 [(0, .ref l0), (1, .ref l1), (2, .int l2), (3, .ref l3), (4, .int l4), (5, .int l5), (6, .int l6)] [] K R I none := by
  intro n
  induction n with
  | zero => intro I l0 l1 l2 l3 l4 l5 l6 hm; cases hm
  | succ n ih => intro I l0 l1 l2 l3 l4 l5 l6 hm kl0 kl1 kl3; exact w_X4_largestBuilding_82 hF hL HL h41 (ih) I l0 l1 l2 l3 l4 l5 l6 kl0 kl1 kl3 hm
set_option maxRecDepth 20000 in
set_option maxHeartbeats 2000000 in
theorem w_X4_largestBuilding_63 {X : po_X} {G : po_G} {st : Nat → Nat} {K : po_K} {R : po_R} {ρ : Int32 × po_I} {r41 : po_I → Nat → Nat → Int32 → Nat → Int32 → Option (Int32 × po_I)} (hF : po_F X G cX4_largestBuilding RX4 7 st) (hL : po_L X (some .int) 3 0 0 "largestBuilding") (HL : po_Lay K R st) (h41 : ∀ (I : po_I) (l0 : Nat) (l1 : Nat) (l2 : Int32) (l3 : Nat) (l4 : Int32), r41 I l0 l1 l2 l3 l4 = some ρ → K l0 = (15, 2) → K l1 = (16, 8) → K l3 = (12, 4) → po_V X G 7 (po_Q X G (.inl (some (.int ρ.1))) K R (ρ.2) none 0 0) 0 0 41 [(0, .ref l0), (1, .ref l1), (2, .int l2), (3, .ref l3), (4, .int l4)] [] K R I none) (I : po_I) (l0 : Nat) (l1 : Nat) (l2 : Int32) (l3 : Nat) (l4 : Int32) (s0 : Nat) (s1 : Int32) (s2 : Int32) (kl0 : K l0 = (15, 2)) (kl1 : K l1 = (16, 8)) (kl3 : K l3 = (12, 4)) (ks0 : K s0 = (16, 8)) (hm : m_X4_largestBuilding_63 r41 I l0 l1 l2 l3 l4 s0 s1 s2 = some ρ) : po_V X G 7 (po_Q X G (.inl (some (.int ρ.1))) K R (ρ.2) none 0 0) 0 0 63 [(0, .ref l0), (1, .ref l1), (2, .int l2), (3, .ref l3), (4, .int l4)] [.int s2, .int s1, .ref s0] K R I none := by
  unfold m_X4_largestBuilding_63 at hm
  obtain ⟨x3, hx3, hm⟩ := po_bind hm
  refine po_callV (As := [.int s1, .int s2]) hF dX4_largestBuilding_63 wq_832 mv_X5_ruleFor ws_X5_ruleFor (show po_cl[5]? = some _ from rfl) rfl ks0 (c_X5_ruleFor HL ks0 hx3) rfl (po_rtL hL rfl) (Nat.le_of_ble_eq_true rfl) rfl ?_
  refine po_istore (L' := [(5, .int x3), (0, .ref l0), (1, .ref l1), (2, .int l2), (3, .ref l3), (4, .int l4)]) hF dX4_largestBuilding_66 (by decide) rfl ?_
  refine po_aload_n hF dX4_largestBuilding_68 rfl rfl ?_
  refine po_getf (v := .ref (l0 + 3)) hF dX4_largestBuilding_69 fl_X4_18 kl0 (ly_4_1 HL kl0).1 ?_
  refine po_aload_n hF dX4_largestBuilding_72 rfl rfl ?_
  refine po_getf (v := .ref (l3 + 1)) hF dX4_largestBuilding_73 fl_X4_36 kl3 (ly_1_2 HL kl3).1 ?_
  obtain ⟨x4, hx4, hm⟩ := po_bind hm
  refine po_callV (As := [.ref (l3 + 1)]) hF dX4_largestBuilding_76 wq_812 mv_X0_copyFrom ws_X0_copyFrom (show po_cl[0]? = some _ from rfl) rfl ((ly_4_1 HL kl0).2) (c_X0_copyFrom HL ((ly_4_1 HL kl0).2) ((ly_1_2 HL kl3).2) hx4) rfl (po_rtL hL rfl) (Nat.le_of_ble_eq_true rfl) rfl ?_
  refine po_iconst (v := 0) hF dX4_largestBuilding_79 (by decide) ?_
  refine po_istore (L' := [(6, .int 0), (5, .int x3), (0, .ref l0), (1, .ref l1), (2, .int l2), (3, .ref l3), (4, .int l4)]) hF dX4_largestBuilding_80 (by decide) rfl ?_
  refine po_sub (L' := [(0, .ref l0), (1, .ref l1), (2, .int l2), (3, .ref l3), (4, .int l4), (5, .int x3), (6, .int 0)]) rfl ?_
  exact w_X4_largestBuilding_82L hF hL HL h41 5000 x4 l0 l1 l2 l3 l4 x3 0 hm kl0 kl1 kl3
set_option maxRecDepth 20000 in
set_option maxHeartbeats 2000000 in
theorem w_X4_largestBuilding_41 {X : po_X} {G : po_G} {st : Nat → Nat} {K : po_K} {R : po_R} {ρ : Int32 × po_I} {r41 : po_I → Nat → Nat → Int32 → Nat → Int32 → Option (Int32 × po_I)} (hF : po_F X G cX4_largestBuilding RX4 7 st) (hL : po_L X (some .int) 3 0 0 "largestBuilding") (HL : po_Lay K R st) (h41 : ∀ (I : po_I) (l0 : Nat) (l1 : Nat) (l2 : Int32) (l3 : Nat) (l4 : Int32), r41 I l0 l1 l2 l3 l4 = some ρ → K l0 = (15, 2) → K l1 = (16, 8) → K l3 = (12, 4) → po_V X G 7 (po_Q X G (.inl (some (.int ρ.1))) K R (ρ.2) none 0 0) 0 0 41 [(0, .ref l0), (1, .ref l1), (2, .int l2), (3, .ref l3), (4, .int l4)] [] K R I none) (I : po_I) (l0 : Nat) (l1 : Nat) (l2 : Int32) (l3 : Nat) (l4 : Int32) (kl0 : K l0 = (15, 2)) (kl1 : K l1 = (16, 8)) (kl3 : K l3 = (12, 4)) (hm : m_X4_largestBuilding_41 r41 I l0 l1 l2 l3 l4 = some ρ) : po_V X G 7 (po_Q X G (.inl (some (.int ρ.1))) K R (ρ.2) none 0 0) 0 0 41 [(0, .ref l0), (1, .ref l1), (2, .int l2), (3, .ref l3), (4, .int l4)] [] K R I none := by
  unfold m_X4_largestBuilding_41 at hm
  refine po_iload hF dX4_largestBuilding_41 rfl ?_
  refine po_iconst (v := 4) hF dX4_largestBuilding_43 (by decide) ?_
  refine po_icmp_ge (tgt := 121) hF dX4_largestBuilding_44 (by decide) hm (fun hm => ?_) (fun hm => ?_)
  · refine po_aload_n hF dX4_largestBuilding_121 rfl rfl ?_
    refine po_getf (v := .ref (l0 + 1)) hF dX4_largestBuilding_122 fl_X4_12 kl0 (ly_4_0 HL kl0).1 ?_
    obtain ⟨x5, hx5, hm⟩ := po_bind hm
    refine po_callV (As := []) hF dX4_largestBuilding_125 wq_842 mv_X0_largestRectangle ws_X0_largestRectangle (show po_cl[0]? = some _ from rfl) rfl ((ly_4_0 HL kl0).2) (c_X0_largestRectangle HL ((ly_4_0 HL kl0).2) hx5) rfl (po_rtL hL rfl) (Nat.le_of_ble_eq_true rfl) rfl ?_
    cases hm
    exact po_iret hF hL dX4_largestBuilding_128 (by decide) (by decide) rfl rfl rfl (Or.inl rfl)
  · refine po_aload_n hF dX4_largestBuilding_47 rfl rfl ?_
    refine po_iload_n hF dX4_largestBuilding_48 rfl rfl ?_
    refine po_iload hF dX4_largestBuilding_49 rfl ?_
    refine po_aload_n hF dX4_largestBuilding_51 rfl rfl ?_
    refine po_getf (v := .int (I l3 1)) hF dX4_largestBuilding_52 fl_X4_49 kl3 rfl ?_
    refine po_icmp_ne (tgt := 62) hF dX4_largestBuilding_55 (by decide) hm (fun hm => ?_) (fun hm => ?_)
    · refine po_iconst (v := 1) hF dX4_largestBuilding_62 (by decide) ?_
      exact w_X4_largestBuilding_63 hF hL HL h41 I l0 l1 l2 l3 l4 l1 l2 1 kl0 kl1 kl3 kl1 hm
    · refine po_iconst (v := 0) hF dX4_largestBuilding_58 (by decide) ?_
      refine po_goto (tgt := 63) hF dX4_largestBuilding_59 (by decide) ?_
      exact w_X4_largestBuilding_63 hF hL HL h41 I l0 l1 l2 l3 l4 l1 l2 0 kl0 kl1 kl3 kl1 hm
theorem w_X4_largestBuilding_41L {X : po_X} {G : po_G} {st : Nat → Nat} {K : po_K} {R : po_R} {ρ : Int32 × po_I} (hF : po_F X G cX4_largestBuilding RX4 7 st) (hL : po_L X (some .int) 3 0 0 "largestBuilding") (HL : po_Lay K R st) : ∀ (n : Nat) (I : po_I) (l0 : Nat) (l1 : Nat) (l2 : Int32) (l3 : Nat) (l4 : Int32), m_X4_largestBuilding_41L n I l0 l1 l2 l3 l4 = some ρ → K l0 = (15, 2) → K l1 = (16, 8) → K l3 = (12, 4) → po_V X G 7 (po_Q X G (.inl (some (.int ρ.1))) K R (ρ.2) none 0 0) 0 0 41 [(0, .ref l0), (1, .ref l1), (2, .int l2), (3, .ref l3), (4, .int l4)] [] K R I none := by
  intro n
  induction n with
  | zero => intro I l0 l1 l2 l3 l4 hm; cases hm
  | succ n ih => intro I l0 l1 l2 l3 l4 hm kl0 kl1 kl3; exact w_X4_largestBuilding_41 hF hL HL (ih) I l0 l1 l2 l3 l4 kl0 kl1 kl3 hm
set_option maxRecDepth 20000 in
set_option maxHeartbeats 2000000 in
theorem w_X4_largestBuilding_e {X : po_X} {G : po_G} {st : Nat → Nat} {K : po_K} {R : po_R} {ρ : Int32 × po_I} (hF : po_F X G cX4_largestBuilding RX4 7 st) (hL : po_L X (some .int) 3 0 0 "largestBuilding") (HL : po_Lay K R st) (I : po_I) (l0 : Nat) (l1 : Nat) (l2 : Int32) (kl0 : K l0 = (15, 2)) (kl1 : K l1 = (16, 8)) (hm : m_X4_largestBuilding_e I l0 l1 l2 = some ρ) : po_V X G 7 (po_Q X G (.inl (some (.int ρ.1))) K R (ρ.2) none 0 0) 0 0 0 [(0, .ref l0), (1, .ref l1), (2, .int l2)] [] K R I none := by
  unfold m_X4_largestBuilding_e at hm
  refine po_aload_n hF dX4_largestBuilding_0 rfl rfl ?_
  refine po_iload_n hF dX4_largestBuilding_1 rfl rfl ?_
  obtain ⟨x6, hx6, hm⟩ := po_bind hm
  refine po_callV (As := [.int l2]) hF dX4_largestBuilding_2 wq_750 mv_X5_lotAt ws_X5_lotAt (show po_cl[5]? = some _ from rfl) rfl kl1 (c_X5_lotAt HL kl1 hx6) rfl (po_rtL hL rfl) (Nat.le_of_ble_eq_true rfl) rfl ?_
  refine po_astore_n (L' := [(3, .ref x6), (0, .ref l0), (1, .ref l1), (2, .int l2)]) hF dX4_largestBuilding_5 rfl (by decide) rfl ?_
  refine po_aload_n hF dX4_largestBuilding_6 rfl rfl ?_
  refine po_iload_n hF dX4_largestBuilding_7 rfl rfl ?_
  refine po_null hF dX4_largestBuilding_8 ?_
  refine po_aload_n hF dX4_largestBuilding_9 rfl rfl ?_
  refine po_getf (v := .ref (l0 + 3)) hF dX4_largestBuilding_10 fl_X4_18 kl0 (ly_4_1 HL kl0).1 ?_
  obtain ⟨x7, hx7, hm⟩ := po_bind hm
  refine po_callV (As := [.int l2, .null, .ref (l0 + 3)]) hF dX4_largestBuilding_13 wq_734 mv_X5_gatherBuildings ws_X5_gatherBuildings (show po_cl[5]? = some _ from rfl) rfl kl1 (c_X5_gatherBuildings_n HL kl1 ((ly_4_1 HL kl0).2) hx7) rfl (po_rtL hL rfl) (Nat.le_of_ble_eq_true rfl) rfl ?_
  refine po_aload_n hF dX4_largestBuilding_16 rfl rfl ?_
  refine po_getf (v := .ref (l0 + 1)) hF dX4_largestBuilding_17 fl_X4_12 kl0 (ly_4_0 HL kl0).1 ?_
  refine po_aload_n hF dX4_largestBuilding_20 rfl rfl ?_
  refine po_getf (v := .ref (x6 + 1)) hF dX4_largestBuilding_21 fl_X4_36 (kr_X5_lotAt HL kl1 hx6) (ly_1_2 HL (kr_X5_lotAt HL kl1 hx6)).1 ?_
  obtain ⟨x8, hx8, hm⟩ := po_bind hm
  refine po_callV (As := [.ref (x6 + 1)]) hF dX4_largestBuilding_24 wq_812 mv_X0_copyFrom ws_X0_copyFrom (show po_cl[0]? = some _ from rfl) rfl ((ly_4_0 HL kl0).2) (c_X0_copyFrom HL ((ly_4_0 HL kl0).2) ((ly_1_2 HL (kr_X5_lotAt HL kl1 hx6)).2) hx8) rfl (po_rtL hL rfl) (Nat.le_of_ble_eq_true rfl) rfl ?_
  refine po_aload_n hF dX4_largestBuilding_27 rfl rfl ?_
  refine po_getf (v := .ref (l0 + 1)) hF dX4_largestBuilding_28 fl_X4_12 kl0 (ly_4_0 HL kl0).1 ?_
  refine po_aload_n hF dX4_largestBuilding_31 rfl rfl ?_
  refine po_getf (v := .ref (l0 + 3)) hF dX4_largestBuilding_32 fl_X4_18 kl0 (ly_4_1 HL kl0).1 ?_
  obtain ⟨x9, hx9, hm⟩ := po_bind hm
  refine po_callV (As := [.ref (l0 + 3)]) hF dX4_largestBuilding_35 wq_828 mv_X0_removeAll ws_X0_removeAll (show po_cl[0]? = some _ from rfl) rfl ((ly_4_0 HL kl0).2) (c_X0_removeAll HL ((ly_4_0 HL kl0).2) ((ly_4_1 HL kl0).2) hx9) rfl (po_rtL hL rfl) (Nat.le_of_ble_eq_true rfl) rfl ?_
  refine po_iconst (v := 0) hF dX4_largestBuilding_38 (by decide) ?_
  refine po_istore (L' := [(4, .int 0), (3, .ref x6), (0, .ref l0), (1, .ref l1), (2, .int l2)]) hF dX4_largestBuilding_39 (by decide) rfl ?_
  refine po_sub (L' := [(0, .ref l0), (1, .ref l1), (2, .int l2), (3, .ref x6), (4, .int 0)]) rfl ?_
  exact w_X4_largestBuilding_41L hF hL HL 5000 x9 l0 l1 l2 x6 0 hm kl0 kl1 (kr_X5_lotAt HL kl1 hx6)
theorem c_X4_largestBuilding {K : po_K} {R : po_R} {I : po_I} {st : Nat → Nat} {ρ : Int32 × po_I} (HL : po_Lay K R st) {l0 : Nat} {l1 : Nat} {l2 : Int32} (kl0 : K l0 = (15, 2)) (kl1 : K l1 = (16, 8)) (hm : m_X4_largestBuilding I l0 l1 l2 = some ρ) : po_C st yX4_largestBuilding cX4_largestBuilding 7 (some .int) 3 0 0 [.ref l0, .ref l1, .int l2] K R I none (.inl (some (.int ρ.1))) K R (ρ.2) none := by
  refine po_ofC (by decide +kernel) (Nat.le_of_ble_eq_true rfl) (fun X G hF hL => ?_)
  exact w_X4_largestBuilding_e hF hL HL I l0 l1 l2 kl0 kl1 hm
set_option maxRecDepth 20000 in
set_option maxHeartbeats 2000000 in
theorem w_X7_largest_e {X : po_X} {G : po_G} {st : Nat → Nat} {K : po_K} {R : po_R} {ρ : (Int32 ⊕ String) × po_I} (hF : po_F X G cX7_largest RX7 2 st) (hL : po_L X (some .int) 7 1 6 "largest") (HL : po_Lay K R st) (I : po_I) (l0 : Nat) (l1 : Int32) (kl0 : K l0 = (18, 8)) (hm : m_X7_largest_e I l0 l1 = some ρ) : po_V X G 2 (po_Q X G (po_oi (ρ.1)) K R (ρ.2) none 1 6) 0 0 0 [(0, .ref l0), (1, .int l1)] [] K R I none := by
  unfold m_X7_largest_e at hm
  refine po_aload_n hF dX7_largest_0 rfl rfl ?_
  refine po_iload_n hF dX7_largest_1 rfl rfl ?_
  obtain ⟨x1, hx1, hm⟩ := po_bind hm
  cases x1 with
  | inr y2 =>
    cases hm
    exact po_callVx (As := [.int l1]) hF hL dX7_largest_2 wq_725 mv_X7_lotOrThrow ws_X7_lotOrThrow (show po_cl[7]? = some _ from rfl) rfl kl0 (c_X7_lotOrThrow HL kl0 hx1) rfl (po_rtL hL rfl) (Nat.le_of_ble_eq_true rfl) rfl
  | inl y2 =>
    dsimp only [Sum.elim_inl] at hm
    refine po_callV (As := [.int l1]) hF dX7_largest_2 wq_725 mv_X7_lotOrThrow ws_X7_lotOrThrow (show po_cl[7]? = some _ from rfl) rfl kl0 (c_X7_lotOrThrow HL kl0 hx1) rfl (po_rtL hL rfl) (Nat.le_of_ble_eq_true rfl) rfl ?_
    refine po_pop hF dX7_largest_5 rfl ?_
    refine po_aload_n hF dX7_largest_6 rfl rfl ?_
    refine po_getf (v := .ref (l0 + 3)) hF dX7_largest_7 fl_X7_19 kl0 (ly_7_1 HL kl0).1 ?_
    refine po_aload_n hF dX7_largest_10 rfl rfl ?_
    refine po_getf (v := .ref (l0 + 8)) hF dX7_largest_11 fl_X7_26 kl0 (ly_7_2 HL kl0).1 ?_
    refine po_iload_n hF dX7_largest_14 rfl rfl ?_
    obtain ⟨x3, hx3, hm⟩ := po_bind hm
    refine po_callV (As := [.ref (l0 + 8), .int l1]) hF dX7_largest_15 wq_824 mv_X4_largestBuilding ws_X4_largestBuilding (show po_cl[4]? = some _ from rfl) rfl ((ly_7_1 HL kl0).2) (c_X4_largestBuilding HL ((ly_7_1 HL kl0).2) ((ly_7_2 HL kl0).2) hx3) rfl (po_rtL hL rfl) (Nat.le_of_ble_eq_true rfl) rfl ?_
    cases hm
    exact po_iret hF hL dX7_largest_18 (by decide) (by decide) rfl rfl rfl (Or.inl rfl)
theorem c_X7_largest {K : po_K} {R : po_R} {I : po_I} {st : Nat → Nat} {ρ : (Int32 ⊕ String) × po_I} (HL : po_Lay K R st) {l0 : Nat} {l1 : Int32} (kl0 : K l0 = (18, 8)) (hm : m_X7_largest I l0 l1 = some ρ) : po_C st yX7_largest cX7_largest 2 (some .int) 7 1 6 [.ref l0, .int l1] K R I none (po_oi (ρ.1)) K R (ρ.2) none := by
  refine po_ofC (by decide +kernel) (Nat.le_of_ble_eq_true rfl) (fun X G hF hL => ?_)
  exact w_X7_largest_e hF hL HL I l0 l1 kl0 hm
set_option maxRecDepth 20000 in
set_option maxHeartbeats 2000000 in
theorem w_X7_permitOrThrow_15 {X : po_X} {G : po_G} {st : Nat → Nat} {K : po_K} {I : po_I} {R : po_R} {ρ : (Nat ⊕ String)} (hF : po_F X G cX7_permitOrThrow RX7 2 st) (hL : po_L X (some (.object "PermitOffice$Permit")) 6 1 6 "permitOrThrow") (HL : po_Lay K R st) (hm : m_X7_permitOrThrow_15 I = some ρ) : po_V X G 2 (po_Q X G (po_or (ρ)) K R I none 1 6) 0 0 15 [] [] K R I none := by
  unfold m_X7_permitOrThrow_15 at hm
  cases hm
  exact po_throwW hF hL tw_X7_351_87 dX7_permitOrThrow_15 dX7_permitOrThrow_18 dX7_permitOrThrow_19 dX7_permitOrThrow_22 dX7_permitOrThrow_25 (by decide) (Nat.le_of_ble_eq_true rfl) (by decide) (by decide) rfl rfl rfl
set_option maxRecDepth 20000 in
set_option maxHeartbeats 2000000 in
theorem w_X7_permitOrThrow_e {X : po_X} {G : po_G} {st : Nat → Nat} {K : po_K} {I : po_I} {R : po_R} {ρ : (Nat ⊕ String)} (hF : po_F X G cX7_permitOrThrow RX7 2 st) (hL : po_L X (some (.object "PermitOffice$Permit")) 6 1 6 "permitOrThrow") (HL : po_Lay K R st) (l0 : Nat) (l1 : Int32) (kl0 : K l0 = (18, 8)) (hm : m_X7_permitOrThrow_e I l0 l1 = some ρ) : po_V X G 2 (po_Q X G (po_or (ρ)) K R I none 1 6) 0 0 0 [(0, .ref l0), (1, .int l1)] [] K R I none := by
  unfold m_X7_permitOrThrow_e at hm
  refine po_iload_n hF dX7_permitOrThrow_0 rfl rfl ?_
  refine po_if_lt (tgt := 15) hF dX7_permitOrThrow_1 (by decide) hm (fun hm => ?_) (fun hm => ?_)
  · refine po_sub (L' := []) rfl ?_
    exact w_X7_permitOrThrow_15 hF hL HL hm
  · refine po_iload_n hF dX7_permitOrThrow_4 rfl rfl ?_
    refine po_aload_n hF dX7_permitOrThrow_5 rfl rfl ?_
    refine po_getf (v := .ref (l0 + 8)) hF dX7_permitOrThrow_6 fl_X7_26 kl0 (ly_7_2 HL kl0).1 ?_
    refine po_getf (v := .int (I (l0 + 8) 5)) hF dX7_permitOrThrow_9 fl_X7_212 ((ly_7_2 HL kl0).2) rfl ?_
    refine po_icmp_lt (tgt := 26) hF dX7_permitOrThrow_12 (by decide) hm (fun hm => ?_) (fun hm => ?_)
    · refine po_aload_n hF dX7_permitOrThrow_26 rfl rfl ?_
      refine po_getf (v := .ref (l0 + 8)) hF dX7_permitOrThrow_27 fl_X7_26 kl0 (ly_7_2 HL kl0).1 ?_
      refine po_getf (v := .ref ((l0 + 8) + 3)) hF dX7_permitOrThrow_30 fl_X7_215 ((ly_7_2 HL kl0).2) (ly_5_4 HL ((ly_7_2 HL kl0).2)).1 ?_
      refine po_iload_n hF dX7_permitOrThrow_33 rfl rfl ?_
      refine po_aald hF dX7_permitOrThrow_34 ((ly_5_4 HL ((ly_7_2 HL kl0).2)).2) (Or.inr (Or.inl rfl)) hm (fun hi1 => (le_5_4 HL ((ly_7_2 HL kl0).2) (po_in_lt hi1)).1) (fun hi1 hm => ?_)
      cases hm
      exact po_aret hF hL dX7_permitOrThrow_35 (by decide) (by decide) rfl rfl rfl (Or.inl rfl)
    · refine po_sub (L' := []) rfl ?_
      exact w_X7_permitOrThrow_15 hF hL HL hm
theorem c_X7_permitOrThrow {K : po_K} {R : po_R} {I : po_I} {st : Nat → Nat} {ρ : (Nat ⊕ String)} (HL : po_Lay K R st) {l0 : Nat} {l1 : Int32} (kl0 : K l0 = (18, 8)) (hm : m_X7_permitOrThrow I l0 l1 = some ρ) : po_C st yX7_permitOrThrow cX7_permitOrThrow 2 (some (.object "PermitOffice$Permit")) 6 1 6 [.ref l0, .int l1] K R I none (po_or (ρ)) K R I none := by
  refine po_ofC (by decide +kernel) (Nat.le_of_ble_eq_true rfl) (fun X G hF hL => ?_)
  exact w_X7_permitOrThrow_e hF hL HL l0 l1 kl0 hm
set_option maxRecDepth 20000 in
set_option maxHeartbeats 2000000 in
theorem w_X2_openConditions_e {X : po_X} {G : po_G} {st : Nat → Nat} {K : po_K} {I : po_I} {R : po_R} {ρ : Int32} (hF : po_F X G cX2_openConditions RX2 1 st) (hL : po_L X (some .int) 1 0 0 "openConditions") (HL : po_Lay K R st) (l0 : Nat) (kl0 : K l0 = (13, 19)) (hm : m_X2_openConditions_e I l0 = some ρ) : po_V X G 1 (po_Q X G (.inl (some (.int ρ))) K R I none 0 0) 0 0 0 [(0, .ref l0)] [] K R I none := by
  unfold m_X2_openConditions_e at hm
  refine po_aload_n hF dX2_openConditions_0 rfl rfl ?_
  refine po_getf (v := .int (I l0 16)) hF dX2_openConditions_1 fl_X2_75 kl0 rfl ?_
  obtain ⟨x1, hx1, hm⟩ := po_bind hm
  refine po_callS (As := [.int (I l0 16)]) hF dX2_openConditions_4 wq_869 mv_J6_bitCount_0f7a4 (c_J6_bitCount_0f7a4 HL hx1) rfl (po_rtL hL rfl) (Nat.le_of_ble_eq_true rfl) rfl ?_
  cases hm
  exact po_iret hF hL dX2_openConditions_7 (by decide) (by decide) rfl rfl rfl (Or.inl rfl)
theorem c_X2_openConditions {K : po_K} {R : po_R} {I : po_I} {st : Nat → Nat} {ρ : Int32} (HL : po_Lay K R st) {l0 : Nat} (kl0 : K l0 = (13, 19)) (hm : m_X2_openConditions I l0 = some ρ) : po_C st yX2_openConditions cX2_openConditions 1 (some .int) 1 0 0 [.ref l0] K R I none (.inl (some (.int ρ))) K R I none := by
  refine po_ofC (by decide +kernel) (Nat.le_of_ble_eq_true rfl) (fun X G hF hL => ?_)
  exact w_X2_openConditions_e hF hL HL l0 kl0 hm
set_option maxRecDepth 20000 in
set_option maxHeartbeats 2000000 in
theorem w_X7_permit_133 {X : po_X} {G : po_G} {st : Nat → Nat} {K : po_K} {I : po_I} {R : po_R} {ρ : (Int32 ⊕ String)} (hF : po_F X G cX7_permit RX7 4 st) (hL : po_L X (some .int) 7 2 12 "permit") (HL : po_Lay K R st) (s0 : Int32) (hm : m_X7_permit_133 I s0 = some ρ) : po_V X G 4 (po_Q X G (po_oi (ρ)) K R I none 2 12) 1 6 133 [] [.int s0] K R I none := by
  unfold m_X7_permit_133 at hm
  cases hm
  exact po_iret hF hL dX7_permit_133 (by decide) (by decide) rfl rfl rfl (Or.inl rfl)
set_option maxRecDepth 20000 in
set_option maxHeartbeats 2000000 in
theorem w_X7_permit_e {X : po_X} {G : po_G} {st : Nat → Nat} {K : po_K} {I : po_I} {R : po_R} {ρ : (Int32 ⊕ String)} (hF : po_F X G cX7_permit RX7 4 st) (hL : po_L X (some .int) 7 2 12 "permit") (HL : po_Lay K R st) (l0 : Nat) (l1 : Int32) (l2 : Int32) (kl0 : K l0 = (18, 8)) (hm : m_X7_permit_e I l0 l1 l2 = some ρ) : po_V X G 4 (po_Q X G (po_oi (ρ)) K R I none 2 12) 0 0 0 [(0, .ref l0), (1, .int l1), (2, .int l2)] [] K R I none := by
  unfold m_X7_permit_e at hm
  refine po_aload_n hF dX7_permit_0 rfl rfl ?_
  refine po_iload_n hF dX7_permit_1 rfl rfl ?_
  obtain ⟨x1, hx1, hm⟩ := po_bind hm
  cases x1 with
  | inr y2 =>
    cases hm
    exact po_callVx (As := [.int l1]) hF hL dX7_permit_2 wq_859 mv_X7_permitOrThrow ws_X7_permitOrThrow (show po_cl[7]? = some _ from rfl) rfl kl0 (c_X7_permitOrThrow HL kl0 hx1) rfl (po_rtL hL rfl) (Nat.le_of_ble_eq_true rfl) rfl
  | inl y2 =>
    dsimp only [Sum.elim_inl] at hm
    refine po_callV (As := [.int l1]) hF dX7_permit_2 wq_859 mv_X7_permitOrThrow ws_X7_permitOrThrow (show po_cl[7]? = some _ from rfl) rfl kl0 (c_X7_permitOrThrow HL kl0 hx1) rfl (po_rtL hL rfl) (Nat.le_of_ble_eq_true rfl) rfl ?_
    refine po_astore_n (L' := [(3, .ref y2), (0, .ref l0), (1, .int l1), (2, .int l2)]) hF dX7_permit_5 rfl (by decide) rfl ?_
    refine po_iload_n hF dX7_permit_6 rfl rfl ?_
    by_cases hs0 : l2 = 0
    · rw [if_pos hs0] at hm
      refine po_tin (c := 0) (tgt := 72) (off := 65) hF dX7_permit_7 hs0 (by decide) (by decide) (by decide) (by decide) ?_
      refine po_aload_n hF dX7_permit_72 rfl rfl ?_
      refine po_getf (v := .int (I y2 6)) hF dX7_permit_73 fl_X7_150 (kr_X7_permitOrThrow HL kl0 hx1) rfl ?_
      cases hm
      exact po_iret hF hL dX7_permit_76 (by decide) (by decide) rfl rfl rfl (Or.inl rfl)
    rw [if_neg hs0] at hm
    by_cases hs1 : l2 = 1
    · rw [if_pos hs1] at hm
      refine po_tin (c := 1) (tgt := 77) (off := 70) hF dX7_permit_7 hs1 (by decide) (by decide) (by decide) (by decide) ?_
      refine po_aload_n hF dX7_permit_77 rfl rfl ?_
      refine po_getf (v := .int (I y2 0)) hF dX7_permit_78 fl_X7_155 (kr_X7_permitOrThrow HL kl0 hx1) rfl ?_
      cases hm
      exact po_iret hF hL dX7_permit_81 (by decide) (by decide) rfl rfl rfl (Or.inl rfl)
    rw [if_neg hs1] at hm
    by_cases hs2 : l2 = 2
    · rw [if_pos hs2] at hm
      refine po_tin (c := 2) (tgt := 82) (off := 75) hF dX7_permit_7 hs2 (by decide) (by decide) (by decide) (by decide) ?_
      refine po_aload_n hF dX7_permit_82 rfl rfl ?_
      refine po_getf (v := .int (I y2 1)) hF dX7_permit_83 fl_X7_158 (kr_X7_permitOrThrow HL kl0 hx1) rfl ?_
      cases hm
      exact po_iret hF hL dX7_permit_86 (by decide) (by decide) rfl rfl rfl (Or.inl rfl)
    rw [if_neg hs2] at hm
    by_cases hs3 : l2 = 3
    · rw [if_pos hs3] at hm
      refine po_tin (c := 3) (tgt := 87) (off := 80) hF dX7_permit_7 hs3 (by decide) (by decide) (by decide) (by decide) ?_
      refine po_aload_n hF dX7_permit_87 rfl rfl ?_
      refine po_getf (v := .int (I y2 2)) hF dX7_permit_88 fl_X7_161 (kr_X7_permitOrThrow HL kl0 hx1) rfl ?_
      cases hm
      exact po_iret hF hL dX7_permit_91 (by decide) (by decide) rfl rfl rfl (Or.inl rfl)
    rw [if_neg hs3] at hm
    by_cases hs4 : l2 = 4
    · rw [if_pos hs4] at hm
      refine po_tin (c := 4) (tgt := 92) (off := 85) hF dX7_permit_7 hs4 (by decide) (by decide) (by decide) (by decide) ?_
      refine po_aload_n hF dX7_permit_92 rfl rfl ?_
      refine po_getf (v := .int (I y2 3)) hF dX7_permit_93 fl_X7_164 (kr_X7_permitOrThrow HL kl0 hx1) rfl ?_
      cases hm
      exact po_iret hF hL dX7_permit_96 (by decide) (by decide) rfl rfl rfl (Or.inl rfl)
    rw [if_neg hs4] at hm
    by_cases hs5 : l2 = 5
    · rw [if_pos hs5] at hm
      refine po_tin (c := 5) (tgt := 97) (off := 90) hF dX7_permit_7 hs5 (by decide) (by decide) (by decide) (by decide) ?_
      refine po_aload_n hF dX7_permit_97 rfl rfl ?_
      refine po_getf (v := .int (I y2 5)) hF dX7_permit_98 fl_X7_167 (kr_X7_permitOrThrow HL kl0 hx1) rfl ?_
      cases hm
      exact po_iret hF hL dX7_permit_101 (by decide) (by decide) rfl rfl rfl (Or.inl rfl)
    rw [if_neg hs5] at hm
    by_cases hs6 : l2 = 6
    · rw [if_pos hs6] at hm
      refine po_tin (c := 6) (tgt := 102) (off := 95) hF dX7_permit_7 hs6 (by decide) (by decide) (by decide) (by decide) ?_
      refine po_aload_n hF dX7_permit_102 rfl rfl ?_
      obtain ⟨x3, hx3, hm⟩ := po_bind hm
      refine po_callV (As := []) hF dX7_permit_103 wq_864 mv_X2_floorArea ws_X2_floorArea (show po_cl[2]? = some _ from rfl) rfl (kr_X7_permitOrThrow HL kl0 hx1) (c_X2_floorArea HL (kr_X7_permitOrThrow HL kl0 hx1) hx3) rfl (po_rtL hL rfl) (Nat.le_of_ble_eq_true rfl) rfl ?_
      cases hm
      exact po_iret hF hL dX7_permit_106 (by decide) (by decide) rfl rfl rfl (Or.inl rfl)
    rw [if_neg hs6] at hm
    by_cases hs7 : l2 = 7
    · rw [if_pos hs7] at hm
      refine po_tin (c := 7) (tgt := 107) (off := 100) hF dX7_permit_7 hs7 (by decide) (by decide) (by decide) (by decide) ?_
      refine po_aload_n hF dX7_permit_107 rfl rfl ?_
      refine po_getf (v := .int (I y2 8)) hF dX7_permit_108 fl_X7_171 (kr_X7_permitOrThrow HL kl0 hx1) rfl ?_
      cases hm
      exact po_iret hF hL dX7_permit_111 (by decide) (by decide) rfl rfl rfl (Or.inl rfl)
    rw [if_neg hs7] at hm
    by_cases hs8 : l2 = 8
    · rw [if_pos hs8] at hm
      refine po_tin (c := 8) (tgt := 112) (off := 105) hF dX7_permit_7 hs8 (by decide) (by decide) (by decide) (by decide) ?_
      refine po_aload_n hF dX7_permit_112 rfl rfl ?_
      refine po_getf (v := .int (I y2 9)) hF dX7_permit_113 fl_X7_174 (kr_X7_permitOrThrow HL kl0 hx1) rfl ?_
      cases hm
      exact po_iret hF hL dX7_permit_116 (by decide) (by decide) rfl rfl rfl (Or.inl rfl)
    rw [if_neg hs8] at hm
    by_cases hs9 : l2 = 9
    · rw [if_pos hs9] at hm
      refine po_tin (c := 9) (tgt := 117) (off := 110) hF dX7_permit_7 hs9 (by decide) (by decide) (by decide) (by decide) ?_
      refine po_aload_n hF dX7_permit_117 rfl rfl ?_
      refine po_getf (v := .int (I y2 6)) hF dX7_permit_118 fl_X7_150 (kr_X7_permitOrThrow HL kl0 hx1) rfl ?_
      refine po_iconst (v := 2) hF dX7_permit_121 (by decide) ?_
      refine po_icmp_ne (tgt := 132) hF dX7_permit_122 (by decide) hm (fun hm => ?_) (fun hm => ?_)
      · refine po_iconst (v := (-1)) hF dX7_permit_132 (by decide) ?_
        refine po_sub (L' := []) rfl ?_
        exact w_X7_permit_133 hF hL HL (-1) hm
      · refine po_aload_n hF dX7_permit_125 rfl rfl ?_
        refine po_getf (v := .int (I y2 10)) hF dX7_permit_126 fl_X7_177 (kr_X7_permitOrThrow HL kl0 hx1) rfl ?_
        refine po_goto (tgt := 133) hF dX7_permit_129 (by decide) ?_
        refine po_sub (L' := []) rfl ?_
        exact w_X7_permit_133 hF hL HL (I y2 10) hm
    rw [if_neg hs9] at hm
    by_cases hs10 : l2 = 10
    · rw [if_pos hs10] at hm
      refine po_tin (c := 10) (tgt := 134) (off := 127) hF dX7_permit_7 hs10 (by decide) (by decide) (by decide) (by decide) ?_
      refine po_aload_n hF dX7_permit_134 rfl rfl ?_
      refine po_getf (v := .int (I y2 12)) hF dX7_permit_135 fl_X7_180 (kr_X7_permitOrThrow HL kl0 hx1) rfl ?_
      cases hm
      exact po_iret hF hL dX7_permit_138 (by decide) (by decide) rfl rfl rfl (Or.inl rfl)
    rw [if_neg hs10] at hm
    by_cases hs11 : l2 = 11
    · rw [if_pos hs11] at hm
      refine po_tin (c := 11) (tgt := 139) (off := 132) hF dX7_permit_7 hs11 (by decide) (by decide) (by decide) (by decide) ?_
      refine po_aload_n hF dX7_permit_139 rfl rfl ?_
      obtain ⟨x4, hx4, hm⟩ := po_bind hm
      refine po_callV (As := []) hF dX7_permit_140 wq_865 mv_X2_openConditions ws_X2_openConditions (show po_cl[2]? = some _ from rfl) rfl (kr_X7_permitOrThrow HL kl0 hx1) (c_X2_openConditions HL (kr_X7_permitOrThrow HL kl0 hx1) hx4) rfl (po_rtL hL rfl) (Nat.le_of_ble_eq_true rfl) rfl ?_
      cases hm
      exact po_iret hF hL dX7_permit_143 (by decide) (by decide) rfl rfl rfl (Or.inl rfl)
    rw [if_neg hs11] at hm
    by_cases hs12 : l2 = 12
    · rw [if_pos hs12] at hm
      refine po_tin (c := 12) (tgt := 144) (off := 137) hF dX7_permit_7 hs12 (by decide) (by decide) (by decide) (by decide) ?_
      refine po_aload_n hF dX7_permit_144 rfl rfl ?_
      refine po_getf (v := .int (I y2 15)) hF dX7_permit_145 fl_X7_186 (kr_X7_permitOrThrow HL kl0 hx1) rfl ?_
      cases hm
      exact po_iret hF hL dX7_permit_148 (by decide) (by decide) rfl rfl rfl (Or.inl rfl)
    rw [if_neg hs12] at hm
    refine po_tout (tgt := 149) hF dX7_permit_7 (po_tdef (lo := 0) (m := 13) (fun j hj => by
      rcases (show j = 0 ∨ j = 1 ∨ j = 2 ∨ j = 3 ∨ j = 4 ∨ j = 5 ∨ j = 6 ∨ j = 7 ∨ j = 8 ∨ j = 9 ∨ j = 10 ∨ j = 11 ∨ j = 12 by omega) with rfl | rfl | rfl | rfl | rfl | rfl | rfl | rfl | rfl | rfl | rfl | rfl | rfl
      · exact po_neI (c := 0) hs0 (by decide)
      · exact po_neI (c := 1) hs1 (by decide)
      · exact po_neI (c := 2) hs2 (by decide)
      · exact po_neI (c := 3) hs3 (by decide)
      · exact po_neI (c := 4) hs4 (by decide)
      · exact po_neI (c := 5) hs5 (by decide)
      · exact po_neI (c := 6) hs6 (by decide)
      · exact po_neI (c := 7) hs7 (by decide)
      · exact po_neI (c := 8) hs8 (by decide)
      · exact po_neI (c := 9) hs9 (by decide)
      · exact po_neI (c := 10) hs10 (by decide)
      · exact po_neI (c := 11) hs11 (by decide)
      · exact po_neI (c := 12) hs12 (by decide)
      )) (by decide) ?_
    cases hm
    exact po_throw hF hL tw_X7_189_52 dX7_permit_149 dX7_permit_152 dX7_permit_153 dX7_permit_155 dX7_permit_158 (by decide) (Nat.le_of_ble_eq_true rfl) (by decide) (by decide) rfl rfl rfl
theorem c_X7_permit {K : po_K} {R : po_R} {I : po_I} {st : Nat → Nat} {ρ : (Int32 ⊕ String)} (HL : po_Lay K R st) {l0 : Nat} {l1 : Int32} {l2 : Int32} (kl0 : K l0 = (18, 8)) (hm : m_X7_permit I l0 l1 l2 = some ρ) : po_C st yX7_permit cX7_permit 4 (some .int) 7 2 12 [.ref l0, .int l1, .int l2] K R I none (po_oi (ρ)) K R I none := by
  refine po_ofC (by decide +kernel) (Nat.le_of_ble_eq_true rfl) (fun X G hF hL => ?_)
  exact w_X7_permit_e hF hL HL l0 l1 l2 kl0 hm
set_option maxRecDepth 20000 in
set_option maxHeartbeats 2000000 in
theorem w_X0_cellsOutside_e {X : po_X} {G : po_G} {st : Nat → Nat} {K : po_K} {I : po_I} {R : po_R} {ρ : Int32} (hF : po_F X G cX0_cellsOutside RX0 2 st) (hL : po_L X (some .int) 3 0 0 "cellsOutside") (HL : po_Lay K R st) (l0 : Nat) (l1 : Nat) (kl0 : K l0 = (11, 1)) (kl1 : K l1 = (11, 1)) (hm : m_X0_cellsOutside_e I l0 l1 = some ρ) : po_V X G 2 (po_Q X G (.inl (some (.int ρ))) K R I none 0 0) 0 0 0 [(0, .ref l0), (1, .ref l1)] [] K R I none := by
  unfold m_X0_cellsOutside_e at hm
  refine po_aload_n hF dX0_cellsOutside_0 rfl rfl ?_
  obtain ⟨x1, hx1, hm⟩ := po_bind hm
  refine po_callV (As := []) hF dX0_cellsOutside_1 wq_894 mv_X0_size ws_X0_size (show po_cl[0]? = some _ from rfl) rfl kl0 (c_X0_size HL kl0 hx1) rfl (po_rtL hL rfl) (Nat.le_of_ble_eq_true rfl) rfl ?_
  refine po_aload_n hF dX0_cellsOutside_4 rfl rfl ?_
  refine po_aload_n hF dX0_cellsOutside_5 rfl rfl ?_
  obtain ⟨x2, hx2, hm⟩ := po_bind hm
  refine po_callV (As := [.ref l1]) hF dX0_cellsOutside_6 wq_614 mv_X0_cellsIn ws_X0_cellsIn (show po_cl[0]? = some _ from rfl) rfl kl0 (c_X0_cellsIn HL kl0 kl1 hx2) rfl (po_rtL hL rfl) (Nat.le_of_ble_eq_true rfl) rfl ?_
  refine po_isub hF dX0_cellsOutside_9 ?_
  cases hm
  exact po_iret hF hL dX0_cellsOutside_10 (by decide) (by decide) rfl rfl rfl (Or.inl rfl)
theorem c_X0_cellsOutside {K : po_K} {R : po_R} {I : po_I} {st : Nat → Nat} {ρ : Int32} (HL : po_Lay K R st) {l0 : Nat} {l1 : Nat} (kl0 : K l0 = (11, 1)) (kl1 : K l1 = (11, 1)) (hm : m_X0_cellsOutside I l0 l1 = some ρ) : po_C st yX0_cellsOutside cX0_cellsOutside 2 (some .int) 3 0 0 [.ref l0, .ref l1] K R I none (.inl (some (.int ρ))) K R I none := by
  refine po_ofC (by decide +kernel) (Nat.le_of_ble_eq_true rfl) (fun X G hF hL => ?_)
  exact w_X0_cellsOutside_e hF hL HL l0 l1 kl0 kl1 hm
set_option maxRecDepth 20000 in
set_option maxHeartbeats 2000000 in
theorem w_X5_countsFor_25 {X : po_X} {G : po_G} {st : Nat → Nat} {K : po_K} {I : po_I} {R : po_R} {ρ : Int32} (hF : po_F X G cX5_countsFor RX5 3 st) (hL : po_L X (some .boolean) 1 0 0 "countsFor") (HL : po_Lay K R st) (s0 : Int32) (hm : m_X5_countsFor_25 I s0 = some ρ) : po_V X G 3 (po_Q X G (.inl (some (.int ρ))) K R I none 0 0) 0 0 25 [] [.int s0] K R I none := by
  unfold m_X5_countsFor_25 at hm
  obtain ⟨hz, hm⟩ := po_zif hm
  cases hm
  exact po_zret hF hL dX5_countsFor_25 (po_nz hz) (by decide) (by decide) rfl rfl rfl (Or.inl rfl)
set_option maxRecDepth 20000 in
set_option maxHeartbeats 2000000 in
theorem w_X5_countsFor_24 {X : po_X} {G : po_G} {st : Nat → Nat} {K : po_K} {I : po_I} {R : po_R} {ρ : Int32} (hF : po_F X G cX5_countsFor RX5 3 st) (hL : po_L X (some .boolean) 1 0 0 "countsFor") (HL : po_Lay K R st) (hm : m_X5_countsFor_24 I = some ρ) : po_V X G 3 (po_Q X G (.inl (some (.int ρ))) K R I none 0 0) 0 0 24 [] [] K R I none := by
  unfold m_X5_countsFor_24 at hm
  refine po_iconst (v := 0) hF dX5_countsFor_24 (by decide) ?_
  exact w_X5_countsFor_25 hF hL HL 0 hm
set_option maxRecDepth 20000 in
set_option maxHeartbeats 2000000 in
theorem w_X5_countsFor_e {X : po_X} {G : po_G} {st : Nat → Nat} {K : po_K} {I : po_I} {R : po_R} {ρ : Int32} (hF : po_F X G cX5_countsFor RX5 3 st) (hL : po_L X (some .boolean) 1 0 0 "countsFor") (HL : po_Lay K R st) (l0 : Nat) (l1 : Int32) (l2 : Nat) (kl0 : K l0 = (13, 19)) (kl2 : K l2 = (13, 19)) (hm : m_X5_countsFor_e I l0 l1 l2 = some ρ) : po_V X G 3 (po_Q X G (.inl (some (.int ρ))) K R I none 0 0) 0 0 0 [(0, .ref l0), (1, .int l1), (2, .ref l2)] [] K R I none := by
  unfold m_X5_countsFor_e at hm
  refine po_aload_n hF dX5_countsFor_0 rfl rfl ?_
  refine po_aload_n hF dX5_countsFor_1 rfl rfl ?_
  refine po_acmp_eq (tgt := 24) hF dX5_countsFor_2 (by decide) hm (fun hm => ?_) (fun hm => ?_)
  · refine po_sub (L' := []) rfl ?_
    exact w_X5_countsFor_24 hF hL HL hm
  · refine po_aload_n hF dX5_countsFor_5 rfl rfl ?_
    refine po_getf (v := .int (I l0 0)) hF dX5_countsFor_6 fl_X5_103 kl0 rfl ?_
    refine po_iload_n hF dX5_countsFor_9 rfl rfl ?_
    refine po_icmp_ne (tgt := 24) hF dX5_countsFor_10 (by decide) hm (fun hm => ?_) (fun hm => ?_)
    · refine po_sub (L' := []) rfl ?_
      exact w_X5_countsFor_24 hF hL HL hm
    · refine po_aload_n hF dX5_countsFor_13 rfl rfl ?_
      obtain ⟨x1, hx1, hm⟩ := po_bind hm
      refine po_callV (As := []) hF dX5_countsFor_14 wq_742 mv_X2_stands ws_X2_stands (show po_cl[2]? = some _ from rfl) rfl kl0 (c_X2_stands HL kl0 hx1) rfl (po_rtL hL rfl) (Nat.le_of_ble_eq_true rfl) rfl ?_
      refine po_if_eq (tgt := 24) hF dX5_countsFor_17 (by decide) hm (fun hm => ?_) (fun hm => ?_)
      · refine po_sub (L' := []) rfl ?_
        exact w_X5_countsFor_24 hF hL HL hm
      · refine po_iconst (v := 1) hF dX5_countsFor_20 (by decide) ?_
        refine po_goto (tgt := 25) hF dX5_countsFor_21 (by decide) ?_
        refine po_sub (L' := []) rfl ?_
        exact w_X5_countsFor_25 hF hL HL 1 hm
theorem c_X5_countsFor {K : po_K} {R : po_R} {I : po_I} {st : Nat → Nat} {ρ : Int32} (HL : po_Lay K R st) {l0 : Nat} {l1 : Int32} {l2 : Nat} (kl0 : K l0 = (13, 19)) (kl2 : K l2 = (13, 19)) (hm : m_X5_countsFor I l0 l1 l2 = some ρ) : po_C st yX5_countsFor cX5_countsFor 3 (some .boolean) 1 0 0 [.ref l0, .int l1, .ref l2] K R I none (.inl (some (.int ρ))) K R I none := by
  refine po_ofC (by decide +kernel) (Nat.le_of_ble_eq_true rfl) (fun X G hF hL => ?_)
  exact w_X5_countsFor_e hF hL HL l0 l1 l2 kl0 kl2 hm
set_option maxRecDepth 20000 in
set_option maxHeartbeats 2000000 in
theorem w_X5_gatherBuildings_45 {X : po_X} {G : po_G} {st : Nat → Nat} {K : po_K} {R : po_R} {ρ : po_I} {r7 : po_I → Nat → Int32 → Nat → Nat → Int32 → Option (po_I)} (hF : po_F X G cX5_gatherBuildings RX5 5 st) (hL : po_L X none 2 0 0 "gatherBuildings") (HL : po_Lay K R st) (h7 : ∀ (I : po_I) (l0 : Nat) (l1 : Int32) (l2 : Nat) (l3 : Nat) (l4 : Int32), r7 I l0 l1 l2 l3 l4 = some ρ → K l0 = (16, 8) → K l2 = (13, 19) → K l3 = (11, 1) → po_V X G 5 (po_Q X G (.inl (none)) K R (ρ) none 0 0) 0 0 7 [(0, .ref l0), (1, .int l1), (2, .ref l2), (3, .ref l3), (4, .int l4)] [] K R I none) (I : po_I) (l0 : Nat) (l1 : Int32) (l2 : Nat) (l3 : Nat) (l4 : Int32) (kl0 : K l0 = (16, 8)) (kl2 : K l2 = (13, 19)) (kl3 : K l3 = (11, 1)) (hm : m_X5_gatherBuildings_45 r7 I l0 l1 l2 l3 l4 = some ρ) : po_V X G 5 (po_Q X G (.inl (none)) K R (ρ) none 0 0) 0 0 45 [(0, .ref l0), (1, .int l1), (2, .ref l2), (3, .ref l3), (4, .int l4)] [] K R I none := by
  unfold m_X5_gatherBuildings_45 at hm
  refine po_iinc (v := l4 + 1) (L' := [(4, .int (l4 + 1)), (0, .ref l0), (1, .int l1), (2, .ref l2), (3, .ref l3)]) hF dX5_gatherBuildings_45 rfl rfl (by decide) rfl ?_
  refine po_goto (tgt := 7) hF dX5_gatherBuildings_48 (by decide) ?_
  refine po_sub (L' := [(0, .ref l0), (1, .int l1), (2, .ref l2), (3, .ref l3), (4, .int (l4 + 1))]) rfl ?_
  exact h7 I l0 l1 l2 l3 (l4 + 1) hm kl0 kl2 kl3
set_option maxRecDepth 20000 in
set_option maxHeartbeats 2000000 in
theorem w_X5_gatherBuildings_7 {X : po_X} {G : po_G} {st : Nat → Nat} {K : po_K} {R : po_R} {ρ : po_I} {r7 : po_I → Nat → Int32 → Nat → Nat → Int32 → Option (po_I)} (hF : po_F X G cX5_gatherBuildings RX5 5 st) (hL : po_L X none 2 0 0 "gatherBuildings") (HL : po_Lay K R st) (h7 : ∀ (I : po_I) (l0 : Nat) (l1 : Int32) (l2 : Nat) (l3 : Nat) (l4 : Int32), r7 I l0 l1 l2 l3 l4 = some ρ → K l0 = (16, 8) → K l2 = (13, 19) → K l3 = (11, 1) → po_V X G 5 (po_Q X G (.inl (none)) K R (ρ) none 0 0) 0 0 7 [(0, .ref l0), (1, .int l1), (2, .ref l2), (3, .ref l3), (4, .int l4)] [] K R I none) (I : po_I) (l0 : Nat) (l1 : Int32) (l2 : Nat) (l3 : Nat) (l4 : Int32) (kl0 : K l0 = (16, 8)) (kl2 : K l2 = (13, 19)) (kl3 : K l3 = (11, 1)) (hm : m_X5_gatherBuildings_7 r7 I l0 l1 l2 l3 l4 = some ρ) : po_V X G 5 (po_Q X G (.inl (none)) K R (ρ) none 0 0) 0 0 7 [(0, .ref l0), (1, .int l1), (2, .ref l2), (3, .ref l3), (4, .int l4)] [] K R I none := by
  unfold m_X5_gatherBuildings_7 at hm
  refine po_iload hF dX5_gatherBuildings_7 rfl ?_
  refine po_aload_n hF dX5_gatherBuildings_9 rfl rfl ?_
  refine po_getf (v := .int (I l0 5)) hF dX5_gatherBuildings_10 fl_X5_34 kl0 rfl ?_
  refine po_icmp_ge (tgt := 51) hF dX5_gatherBuildings_13 (by decide) hm (fun hm => ?_) (fun hm => ?_)
  · cases hm
    exact po_vret hF hL dX5_gatherBuildings_51 (by decide) (by decide) rfl rfl rfl (Or.inl rfl)
  · refine po_aload_n hF dX5_gatherBuildings_16 rfl rfl ?_
    refine po_getf (v := .ref (l0 + 3)) hF dX5_gatherBuildings_17 fl_X5_30 kl0 (ly_5_4 HL kl0).1 ?_
    refine po_iload hF dX5_gatherBuildings_20 rfl ?_
    refine po_aald hF dX5_gatherBuildings_22 ((ly_5_4 HL kl0).2) (Or.inr (Or.inl rfl)) hm (fun hi1 => (le_5_4 HL kl0 (po_in_lt hi1)).1) (fun hi1 hm => ?_)
    refine po_iload_n hF dX5_gatherBuildings_23 rfl rfl ?_
    refine po_aload_n hF dX5_gatherBuildings_24 rfl rfl ?_
    obtain ⟨x2, hx2, hm⟩ := po_bind hm
    refine po_callS (As := [.ref (l0 + (29 + 5 * (Int32.toNatClampNeg l4))), .int l1, .ref l2]) hF dX5_gatherBuildings_25 wq_739 mv_X5_countsFor (c_X5_countsFor HL ((le_5_4 HL kl0 (po_in_lt hi1)).2) kl2 hx2) rfl (po_rtL hL rfl) (Nat.le_of_ble_eq_true rfl) rfl ?_
    refine po_if_eq (tgt := 45) hF dX5_gatherBuildings_28 (by decide) hm (fun hm => ?_) (fun hm => ?_)
    · exact w_X5_gatherBuildings_45 hF hL HL h7 I l0 l1 l2 l3 l4 kl0 kl2 kl3 hm
    · refine po_aload_n hF dX5_gatherBuildings_31 rfl rfl ?_
      refine po_aload_n hF dX5_gatherBuildings_32 rfl rfl ?_
      refine po_getf (v := .ref (l0 + 3)) hF dX5_gatherBuildings_33 fl_X5_30 kl0 (ly_5_4 HL kl0).1 ?_
      refine po_iload hF dX5_gatherBuildings_36 rfl ?_
      refine po_aald hF dX5_gatherBuildings_38 ((ly_5_4 HL kl0).2) (Or.inr (Or.inl rfl)) hm (fun hi3 => (le_5_4 HL kl0 (po_in_lt hi3)).1) (fun hi3 hm => ?_)
      refine po_getf (v := .ref ((l0 + (29 + 5 * (Int32.toNatClampNeg l4))) + 1)) hF dX5_gatherBuildings_39 fl_X5_93 ((le_5_4 HL kl0 (po_in_lt hi3)).2) (ly_2_4 HL ((le_5_4 HL kl0 (po_in_lt hi3)).2)).1 ?_
      obtain ⟨x4, hx4, hm⟩ := po_bind hm
      refine po_callV (As := [.ref ((l0 + (29 + 5 * (Int32.toNatClampNeg l4))) + 1)]) hF dX5_gatherBuildings_42 wq_746 mv_X0_addAll ws_X0_addAll (show po_cl[0]? = some _ from rfl) rfl kl3 (c_X0_addAll HL kl3 ((ly_2_4 HL ((le_5_4 HL kl0 (po_in_lt hi3)).2)).2) hx4) rfl (po_rtL hL rfl) (Nat.le_of_ble_eq_true rfl) rfl ?_
      exact w_X5_gatherBuildings_45 hF hL HL h7 x4 l0 l1 l2 l3 l4 kl0 kl2 kl3 hm
theorem w_X5_gatherBuildings_7L {X : po_X} {G : po_G} {st : Nat → Nat} {K : po_K} {R : po_R} {ρ : po_I} (hF : po_F X G cX5_gatherBuildings RX5 5 st) (hL : po_L X none 2 0 0 "gatherBuildings") (HL : po_Lay K R st) : ∀ (n : Nat) (I : po_I) (l0 : Nat) (l1 : Int32) (l2 : Nat) (l3 : Nat) (l4 : Int32), m_X5_gatherBuildings_7L n I l0 l1 l2 l3 l4 = some ρ → K l0 = (16, 8) → K l2 = (13, 19) → K l3 = (11, 1) → po_V X G 5 (po_Q X G (.inl (none)) K R (ρ) none 0 0) 0 0 7 [(0, .ref l0), (1, .int l1), (2, .ref l2), (3, .ref l3), (4, .int l4)] [] K R I none := by
  intro n
  induction n with
  | zero => intro I l0 l1 l2 l3 l4 hm; cases hm
  | succ n ih => intro I l0 l1 l2 l3 l4 hm kl0 kl2 kl3; exact w_X5_gatherBuildings_7 hF hL HL (ih) I l0 l1 l2 l3 l4 kl0 kl2 kl3 hm
set_option maxRecDepth 20000 in
set_option maxHeartbeats 2000000 in
theorem w_X5_gatherBuildings_e {X : po_X} {G : po_G} {st : Nat → Nat} {K : po_K} {R : po_R} {ρ : po_I} (hF : po_F X G cX5_gatherBuildings RX5 5 st) (hL : po_L X none 2 0 0 "gatherBuildings") (HL : po_Lay K R st) (I : po_I) (l0 : Nat) (l1 : Int32) (l2 : Nat) (l3 : Nat) (kl0 : K l0 = (16, 8)) (kl2 : K l2 = (13, 19)) (kl3 : K l3 = (11, 1)) (hm : m_X5_gatherBuildings_e I l0 l1 l2 l3 = some ρ) : po_V X G 5 (po_Q X G (.inl (none)) K R (ρ) none 0 0) 0 0 0 [(0, .ref l0), (1, .int l1), (2, .ref l2), (3, .ref l3)] [] K R I none := by
  unfold m_X5_gatherBuildings_e at hm
  refine po_aload_n hF dX5_gatherBuildings_0 rfl rfl ?_
  obtain ⟨x5, hx5, hm⟩ := po_bind hm
  refine po_callV (As := []) hF dX5_gatherBuildings_1 wq_738 mv_X0_clear ws_X0_clear (show po_cl[0]? = some _ from rfl) rfl kl3 (c_X0_clear HL kl3 hx5) rfl (po_rtL hL rfl) (Nat.le_of_ble_eq_true rfl) rfl ?_
  refine po_iconst (v := 0) hF dX5_gatherBuildings_4 (by decide) ?_
  refine po_istore (L' := [(4, .int 0), (0, .ref l0), (1, .int l1), (2, .ref l2), (3, .ref l3)]) hF dX5_gatherBuildings_5 (by decide) rfl ?_
  refine po_sub (L' := [(0, .ref l0), (1, .int l1), (2, .ref l2), (3, .ref l3), (4, .int 0)]) rfl ?_
  exact w_X5_gatherBuildings_7L hF hL HL 5000 x5 l0 l1 l2 l3 0 hm kl0 kl2 kl3
theorem c_X5_gatherBuildings {K : po_K} {R : po_R} {I : po_I} {st : Nat → Nat} {ρ : po_I} (HL : po_Lay K R st) {l0 : Nat} {l1 : Int32} {l2 : Nat} {l3 : Nat} (kl0 : K l0 = (16, 8)) (kl2 : K l2 = (13, 19)) (kl3 : K l3 = (11, 1)) (hm : m_X5_gatherBuildings I l0 l1 l2 l3 = some ρ) : po_C st yX5_gatherBuildings cX5_gatherBuildings 5 none 2 0 0 [.ref l0, .int l1, .ref l2, .ref l3] K R I none (.inl (none)) K R (ρ) none := by
  refine po_ofC (by decide +kernel) (Nat.le_of_ble_eq_true rfl) (fun X G hF hL => ?_)
  exact w_X5_gatherBuildings_e hF hL HL I l0 l1 l2 l3 kl0 kl2 kl3 hm
set_option maxRecDepth 20000 in
set_option maxHeartbeats 2000000 in
theorem w_X4_overlap_e {X : po_X} {G : po_G} {st : Nat → Nat} {K : po_K} {R : po_R} {ρ : Int32 × po_I} (hF : po_F X G cX4_overlap RX4 3 st) (hL : po_L X (some .int) 3 0 0 "overlap") (HL : po_Lay K R st) (I : po_I) (l0 : Nat) (l1 : Nat) (l2 : Nat) (kl0 : K l0 = (15, 2)) (kl1 : K l1 = (16, 8)) (kl2 : K l2 = (13, 19)) (hm : m_X4_overlap_e I l0 l1 l2 = some ρ) : po_V X G 3 (po_Q X G (.inl (some (.int ρ.1))) K R (ρ.2) none 0 0) 0 0 0 [(0, .ref l0), (1, .ref l1), (2, .ref l2)] [] K R I none := by
  unfold m_X4_overlap_e at hm
  refine po_aload_n hF dX4_overlap_0 rfl rfl ?_
  refine po_aload_n hF dX4_overlap_1 rfl rfl ?_
  refine po_getf (v := .int (I l2 0)) hF dX4_overlap_2 fl_X4_21 kl2 rfl ?_
  refine po_aload_n hF dX4_overlap_5 rfl rfl ?_
  refine po_aload_n hF dX4_overlap_6 rfl rfl ?_
  refine po_getf (v := .ref (l0 + 1)) hF dX4_overlap_7 fl_X4_12 kl0 (ly_4_0 HL kl0).1 ?_
  obtain ⟨x1, hx1, hm⟩ := po_bind hm
  refine po_callV (As := [.int (I l2 0), .ref l2, .ref (l0 + 1)]) hF dX4_overlap_10 wq_734 mv_X5_gatherBuildings ws_X5_gatherBuildings (show po_cl[5]? = some _ from rfl) rfl kl1 (c_X5_gatherBuildings HL kl1 kl2 ((ly_4_0 HL kl0).2) hx1) rfl (po_rtL hL rfl) (Nat.le_of_ble_eq_true rfl) rfl ?_
  refine po_aload_n hF dX4_overlap_13 rfl rfl ?_
  refine po_getf (v := .ref (l2 + 1)) hF dX4_overlap_14 fl_X4_33 kl2 (ly_2_4 HL kl2).1 ?_
  refine po_aload_n hF dX4_overlap_17 rfl rfl ?_
  refine po_getf (v := .ref (l0 + 1)) hF dX4_overlap_18 fl_X4_12 kl0 (ly_4_0 HL kl0).1 ?_
  obtain ⟨x2, hx2, hm⟩ := po_bind hm
  refine po_callV (As := [.ref (l0 + 1)]) hF dX4_overlap_21 wq_754 mv_X0_cellsIn ws_X0_cellsIn (show po_cl[0]? = some _ from rfl) rfl ((ly_2_4 HL kl2).2) (c_X0_cellsIn HL ((ly_2_4 HL kl2).2) ((ly_4_0 HL kl0).2) hx2) rfl (po_rtL hL rfl) (Nat.le_of_ble_eq_true rfl) rfl ?_
  cases hm
  exact po_iret hF hL dX4_overlap_24 (by decide) (by decide) rfl rfl rfl (Or.inl rfl)
theorem c_X4_overlap {K : po_K} {R : po_R} {I : po_I} {st : Nat → Nat} {ρ : Int32 × po_I} (HL : po_Lay K R st) {l0 : Nat} {l1 : Nat} {l2 : Nat} (kl0 : K l0 = (15, 2)) (kl1 : K l1 = (16, 8)) (kl2 : K l2 = (13, 19)) (hm : m_X4_overlap I l0 l1 l2 = some ρ) : po_C st yX4_overlap cX4_overlap 3 (some .int) 3 0 0 [.ref l0, .ref l1, .ref l2] K R I none (.inl (some (.int ρ.1))) K R (ρ.2) none := by
  refine po_ofC (by decide +kernel) (Nat.le_of_ble_eq_true rfl) (fun X G hF hL => ?_)
  exact w_X4_overlap_e hF hL HL I l0 l1 l2 kl0 kl1 kl2 hm
set_option maxRecDepth 20000 in
set_option maxHeartbeats 2000000 in
theorem w_X4_leastSideDistance_37 {X : po_X} {G : po_G} {st : Nat → Nat} {K : po_K} {R : po_R} {ρ : Int32 × po_I} {r6 : po_I → Nat → Nat → Nat → Int32 → Int32 → Option (Int32 × po_I)} (hF : po_F X G cX4_leastSideDistance RX4 5 st) (hL : po_L X (some .int) 3 0 0 "leastSideDistance") (HL : po_Lay K R st) (h6 : ∀ (I : po_I) (l0 : Nat) (l1 : Nat) (l2 : Nat) (l3 : Int32) (l4 : Int32), r6 I l0 l1 l2 l3 l4 = some ρ → K l0 = (15, 2) → K l1 = (11, 1) → K l2 = (12, 4) → po_V X G 5 (po_Q X G (.inl (some (.int ρ.1))) K R (ρ.2) none 0 0) 0 0 6 [(0, .ref l0), (1, .ref l1), (2, .ref l2), (3, .int l3), (4, .int l4)] [] K R I none) (I : po_I) (l0 : Nat) (l1 : Nat) (l2 : Nat) (l3 : Int32) (l4 : Int32) (kl0 : K l0 = (15, 2)) (kl1 : K l1 = (11, 1)) (kl2 : K l2 = (12, 4)) (hm : m_X4_leastSideDistance_37 r6 I l0 l1 l2 l3 l4 = some ρ) : po_V X G 5 (po_Q X G (.inl (some (.int ρ.1))) K R (ρ.2) none 0 0) 0 0 37 [(0, .ref l0), (1, .ref l1), (2, .ref l2), (3, .int l3), (4, .int l4)] [] K R I none := by
  unfold m_X4_leastSideDistance_37 at hm
  refine po_iinc (v := l4 + 1) (L' := [(4, .int (l4 + 1)), (0, .ref l0), (1, .ref l1), (2, .ref l2), (3, .int l3)]) hF dX4_leastSideDistance_37 rfl rfl (by decide) rfl ?_
  refine po_goto (tgt := 6) hF dX4_leastSideDistance_40 (by decide) ?_
  refine po_sub (L' := [(0, .ref l0), (1, .ref l1), (2, .ref l2), (3, .int l3), (4, .int (l4 + 1))]) rfl ?_
  exact h6 I l0 l1 l2 l3 (l4 + 1) hm kl0 kl1 kl2
set_option maxRecDepth 20000 in
set_option maxHeartbeats 2000000 in
theorem w_X4_leastSideDistance_6 {X : po_X} {G : po_G} {st : Nat → Nat} {K : po_K} {R : po_R} {ρ : Int32 × po_I} {r6 : po_I → Nat → Nat → Nat → Int32 → Int32 → Option (Int32 × po_I)} (hF : po_F X G cX4_leastSideDistance RX4 5 st) (hL : po_L X (some .int) 3 0 0 "leastSideDistance") (HL : po_Lay K R st) (h6 : ∀ (I : po_I) (l0 : Nat) (l1 : Nat) (l2 : Nat) (l3 : Int32) (l4 : Int32), r6 I l0 l1 l2 l3 l4 = some ρ → K l0 = (15, 2) → K l1 = (11, 1) → K l2 = (12, 4) → po_V X G 5 (po_Q X G (.inl (some (.int ρ.1))) K R (ρ.2) none 0 0) 0 0 6 [(0, .ref l0), (1, .ref l1), (2, .ref l2), (3, .int l3), (4, .int l4)] [] K R I none) (I : po_I) (l0 : Nat) (l1 : Nat) (l2 : Nat) (l3 : Int32) (l4 : Int32) (kl0 : K l0 = (15, 2)) (kl1 : K l1 = (11, 1)) (kl2 : K l2 = (12, 4)) (hm : m_X4_leastSideDistance_6 r6 I l0 l1 l2 l3 l4 = some ρ) : po_V X G 5 (po_Q X G (.inl (some (.int ρ.1))) K R (ρ.2) none 0 0) 0 0 6 [(0, .ref l0), (1, .ref l1), (2, .ref l2), (3, .int l3), (4, .int l4)] [] K R I none := by
  unfold m_X4_leastSideDistance_6 at hm
  refine po_iload hF dX4_leastSideDistance_6 rfl ?_
  refine po_iconst (v := 4) hF dX4_leastSideDistance_8 (by decide) ?_
  refine po_icmp_ge (tgt := 43) hF dX4_leastSideDistance_9 (by decide) hm (fun hm => ?_) (fun hm => ?_)
  · refine po_iload_n hF dX4_leastSideDistance_43 rfl rfl ?_
    cases hm
    exact po_iret hF hL dX4_leastSideDistance_44 (by decide) (by decide) rfl rfl rfl (Or.inl rfl)
  · refine po_iload hF dX4_leastSideDistance_12 rfl ?_
    refine po_aload_n hF dX4_leastSideDistance_14 rfl rfl ?_
    refine po_getf (v := .int (I l2 1)) hF dX4_leastSideDistance_15 fl_X4_49 kl2 rfl ?_
    refine po_icmp_eq (tgt := 37) hF dX4_leastSideDistance_18 (by decide) hm (fun hm => ?_) (fun hm => ?_)
    · exact w_X4_leastSideDistance_37 hF hL HL h6 I l0 l1 l2 l3 l4 kl0 kl1 kl2 hm
    · refine po_iload_n hF dX4_leastSideDistance_21 rfl rfl ?_
      refine po_aload_n hF dX4_leastSideDistance_22 rfl rfl ?_
      refine po_aload_n hF dX4_leastSideDistance_23 rfl rfl ?_
      refine po_aload_n hF dX4_leastSideDistance_24 rfl rfl ?_
      refine po_getf (v := .ref (l2 + 1)) hF dX4_leastSideDistance_25 fl_X4_36 kl2 (ly_1_2 HL kl2).1 ?_
      refine po_iload hF dX4_leastSideDistance_28 rfl ?_
      obtain ⟨x1, hx1, hm⟩ := po_bind hm
      refine po_callV (As := [.ref l1, .ref (l2 + 1), .int l4]) hF dX4_leastSideDistance_30 wq_804 mv_X4_leastDistance ws_X4_leastDistance (show po_cl[4]? = some _ from rfl) rfl kl0 (c_X4_leastDistance HL kl0 kl1 ((ly_1_2 HL kl2).2) hx1) rfl (po_rtL hL rfl) (Nat.le_of_ble_eq_true rfl) rfl ?_
      refine po_min hF hL dX4_leastSideDistance_33 wq_903 ⟨wq_904, wq_106, wq_905⟩ (Nat.le_of_ble_eq_true rfl) (by decide) (by decide) (by decide) ?_
      refine po_top hm (fun v2 hm => ?_)
      refine po_istore_n (L' := [(3, .int v2), (0, .ref l0), (1, .ref l1), (2, .ref l2), (4, .int l4)]) hF dX4_leastSideDistance_36 rfl (by decide) rfl ?_
      refine po_sub (L' := [(0, .ref l0), (1, .ref l1), (2, .ref l2), (3, .int v2), (4, .int l4)]) rfl ?_
      exact w_X4_leastSideDistance_37 hF hL HL h6 (x1.2) l0 l1 l2 v2 l4 kl0 kl1 kl2 hm
theorem w_X4_leastSideDistance_6L {X : po_X} {G : po_G} {st : Nat → Nat} {K : po_K} {R : po_R} {ρ : Int32 × po_I} (hF : po_F X G cX4_leastSideDistance RX4 5 st) (hL : po_L X (some .int) 3 0 0 "leastSideDistance") (HL : po_Lay K R st) : ∀ (n : Nat) (I : po_I) (l0 : Nat) (l1 : Nat) (l2 : Nat) (l3 : Int32) (l4 : Int32), m_X4_leastSideDistance_6L n I l0 l1 l2 l3 l4 = some ρ → K l0 = (15, 2) → K l1 = (11, 1) → K l2 = (12, 4) → po_V X G 5 (po_Q X G (.inl (some (.int ρ.1))) K R (ρ.2) none 0 0) 0 0 6 [(0, .ref l0), (1, .ref l1), (2, .ref l2), (3, .int l3), (4, .int l4)] [] K R I none := by
  intro n
  induction n with
  | zero => intro I l0 l1 l2 l3 l4 hm; cases hm
  | succ n ih => intro I l0 l1 l2 l3 l4 hm kl0 kl1 kl2; exact w_X4_leastSideDistance_6 hF hL HL (ih) I l0 l1 l2 l3 l4 kl0 kl1 kl2 hm
set_option maxRecDepth 20000 in
set_option maxHeartbeats 2000000 in
theorem w_X4_leastSideDistance_e {X : po_X} {G : po_G} {st : Nat → Nat} {K : po_K} {R : po_R} {ρ : Int32 × po_I} (hF : po_F X G cX4_leastSideDistance RX4 5 st) (hL : po_L X (some .int) 3 0 0 "leastSideDistance") (HL : po_Lay K R st) (I : po_I) (l0 : Nat) (l1 : Nat) (l2 : Nat) (kl0 : K l0 = (15, 2)) (kl1 : K l1 = (11, 1)) (kl2 : K l2 = (12, 4)) (hm : m_X4_leastSideDistance_e I l0 l1 l2 = some ρ) : po_V X G 5 (po_Q X G (.inl (some (.int ρ.1))) K R (ρ.2) none 0 0) 0 0 0 [(0, .ref l0), (1, .ref l1), (2, .ref l2)] [] K R I none := by
  unfold m_X4_leastSideDistance_e at hm
  refine po_bipush (v := 20) hF dX4_leastSideDistance_0 (by decide) ?_
  refine po_istore_n (L' := [(3, .int 20), (0, .ref l0), (1, .ref l1), (2, .ref l2)]) hF dX4_leastSideDistance_2 rfl (by decide) rfl ?_
  refine po_iconst (v := 0) hF dX4_leastSideDistance_3 (by decide) ?_
  refine po_istore (L' := [(4, .int 0), (3, .int 20), (0, .ref l0), (1, .ref l1), (2, .ref l2)]) hF dX4_leastSideDistance_4 (by decide) rfl ?_
  refine po_sub (L' := [(0, .ref l0), (1, .ref l1), (2, .ref l2), (3, .int 20), (4, .int 0)]) rfl ?_
  exact w_X4_leastSideDistance_6L hF hL HL 5000 I l0 l1 l2 20 0 hm kl0 kl1 kl2
theorem c_X4_leastSideDistance {K : po_K} {R : po_R} {I : po_I} {st : Nat → Nat} {ρ : Int32 × po_I} (HL : po_Lay K R st) {l0 : Nat} {l1 : Nat} {l2 : Nat} (kl0 : K l0 = (15, 2)) (kl1 : K l1 = (11, 1)) (kl2 : K l2 = (12, 4)) (hm : m_X4_leastSideDistance I l0 l1 l2 = some ρ) : po_C st yX4_leastSideDistance cX4_leastSideDistance 5 (some .int) 3 0 0 [.ref l0, .ref l1, .ref l2] K R I none (.inl (some (.int ρ.1))) K R (ρ.2) none := by
  refine po_ofC (by decide +kernel) (Nat.le_of_ble_eq_true rfl) (fun X G hF hL => ?_)
  exact w_X4_leastSideDistance_e hF hL HL I l0 l1 l2 kl0 kl1 kl2 hm
set_option maxRecDepth 20000 in
set_option maxHeartbeats 2000000 in
theorem w_X4_dividedUp_15 {X : po_X} {G : po_G} {st : Nat → Nat} {K : po_K} {I : po_I} {R : po_R} {ρ : Int32} (hF : po_F X G cX4_dividedUp RX4 2 st) (hL : po_L X (some .int) 0 0 0 "dividedUp") (HL : po_Lay K R st) (s0 : Int32) (hm : m_X4_dividedUp_15 s0 = some ρ) : po_V X G 2 (po_Q X G (.inl (some (.int ρ))) K R I none 0 0) 0 0 15 [] [.int s0] K R I none := by
  unfold m_X4_dividedUp_15 at hm
  cases hm
  exact po_iret hF hL dX4_dividedUp_15 (by decide) (by decide) rfl rfl rfl (Or.inl rfl)
set_option maxRecDepth 20000 in
set_option maxHeartbeats 2000000 in
theorem w_X4_dividedUp_e {X : po_X} {G : po_G} {st : Nat → Nat} {K : po_K} {I : po_I} {R : po_R} {ρ : Int32} (hF : po_F X G cX4_dividedUp RX4 2 st) (hL : po_L X (some .int) 0 0 0 "dividedUp") (HL : po_Lay K R st) (l0 : Int32) (l1 : Int32) (hm : m_X4_dividedUp_e l0 l1 = some ρ) : po_V X G 2 (po_Q X G (.inl (some (.int ρ))) K R I none 0 0) 0 0 0 [(0, .int l0), (1, .int l1)] [] K R I none := by
  unfold m_X4_dividedUp_e at hm
  refine po_iload_n hF dX4_dividedUp_0 rfl rfl ?_
  refine po_if_gt (tgt := 8) hF dX4_dividedUp_1 (by decide) hm (fun hm => ?_) (fun hm => ?_)
  · refine po_iload_n hF dX4_dividedUp_8 rfl rfl ?_
    refine po_iload_n hF dX4_dividedUp_9 rfl rfl ?_
    refine po_iadd hF dX4_dividedUp_10 ?_
    refine po_iconst (v := 1) hF dX4_dividedUp_11 (by decide) ?_
    refine po_isub hF dX4_dividedUp_12 ?_
    refine po_iload_n hF dX4_dividedUp_13 rfl rfl ?_
    refine po_idiv hF dX4_dividedUp_14 hm (fun hm => ?_)
    refine po_sub (L' := []) rfl ?_
    exact w_X4_dividedUp_15 hF hL HL (((l0 + l1) - 1) / l1) hm
  · refine po_iconst (v := 0) hF dX4_dividedUp_4 (by decide) ?_
    refine po_goto (tgt := 15) hF dX4_dividedUp_5 (by decide) ?_
    refine po_sub (L' := []) rfl ?_
    exact w_X4_dividedUp_15 hF hL HL 0 hm
theorem c_X4_dividedUp {K : po_K} {R : po_R} {I : po_I} {st : Nat → Nat} {ρ : Int32} (HL : po_Lay K R st) {l0 : Int32} {l1 : Int32} (hm : m_X4_dividedUp l0 l1 = some ρ) : po_C st yX4_dividedUp cX4_dividedUp 2 (some .int) 0 0 0 [.int l0, .int l1] K R I none (.inl (some (.int ρ))) K R I none := by
  refine po_ofC (by decide +kernel) (Nat.le_of_ble_eq_true rfl) (fun X G hF hL => ?_)
  exact w_X4_dividedUp_e hF hL HL l0 l1 hm
set_option maxRecDepth 20000 in
set_option maxHeartbeats 2000000 in
theorem w_X4_coverage_e {X : po_X} {G : po_G} {st : Nat → Nat} {K : po_K} {R : po_R} {ρ : Int32 × po_I} (hF : po_F X G cX4_coverage RX4 4 st) (hL : po_L X (some .int) 3 0 0 "coverage") (HL : po_Lay K R st) (I : po_I) (l0 : Nat) (l1 : Nat) (l2 : Nat) (l3 : Nat) (kl0 : K l0 = (15, 2)) (kl1 : K l1 = (16, 8)) (kl2 : K l2 = (13, 19)) (kl3 : K l3 = (12, 4)) (hm : m_X4_coverage_e I l0 l1 l2 l3 = some ρ) : po_V X G 4 (po_Q X G (.inl (some (.int ρ.1))) K R (ρ.2) none 0 0) 0 0 0 [(0, .ref l0), (1, .ref l1), (2, .ref l2), (3, .ref l3)] [] K R I none := by
  unfold m_X4_coverage_e at hm
  refine po_aload_n hF dX4_coverage_0 rfl rfl ?_
  refine po_aload_n hF dX4_coverage_1 rfl rfl ?_
  refine po_getf (v := .int (I l2 0)) hF dX4_coverage_2 fl_X4_21 kl2 rfl ?_
  refine po_aload_n hF dX4_coverage_5 rfl rfl ?_
  refine po_aload_n hF dX4_coverage_6 rfl rfl ?_
  refine po_getf (v := .ref (l0 + 1)) hF dX4_coverage_7 fl_X4_12 kl0 (ly_4_0 HL kl0).1 ?_
  obtain ⟨x1, hx1, hm⟩ := po_bind hm
  refine po_callV (As := [.int (I l2 0), .ref l2, .ref (l0 + 1)]) hF dX4_coverage_10 wq_734 mv_X5_gatherBuildings ws_X5_gatherBuildings (show po_cl[5]? = some _ from rfl) rfl kl1 (c_X5_gatherBuildings HL kl1 kl2 ((ly_4_0 HL kl0).2) hx1) rfl (po_rtL hL rfl) (Nat.le_of_ble_eq_true rfl) rfl ?_
  refine po_aload_n hF dX4_coverage_13 rfl rfl ?_
  refine po_getf (v := .ref (l0 + 1)) hF dX4_coverage_14 fl_X4_12 kl0 (ly_4_0 HL kl0).1 ?_
  refine po_aload_n hF dX4_coverage_17 rfl rfl ?_
  refine po_getf (v := .ref (l2 + 1)) hF dX4_coverage_18 fl_X4_33 kl2 (ly_2_4 HL kl2).1 ?_
  obtain ⟨x2, hx2, hm⟩ := po_bind hm
  refine po_callV (As := [.ref (l2 + 1)]) hF dX4_coverage_21 wq_910 mv_X0_addAll ws_X0_addAll (show po_cl[0]? = some _ from rfl) rfl ((ly_4_0 HL kl0).2) (c_X0_addAll HL ((ly_4_0 HL kl0).2) ((ly_2_4 HL kl2).2) hx2) rfl (po_rtL hL rfl) (Nat.le_of_ble_eq_true rfl) rfl ?_
  refine po_bipush (v := 100) hF dX4_coverage_24 (by decide) ?_
  refine po_aload_n hF dX4_coverage_26 rfl rfl ?_
  refine po_getf (v := .ref (l0 + 1)) hF dX4_coverage_27 fl_X4_12 kl0 (ly_4_0 HL kl0).1 ?_
  refine po_aload_n hF dX4_coverage_30 rfl rfl ?_
  refine po_getf (v := .ref (l3 + 1)) hF dX4_coverage_31 fl_X4_36 kl3 (ly_1_2 HL kl3).1 ?_
  obtain ⟨x3, hx3, hm⟩ := po_bind hm
  refine po_callV (As := [.ref (l3 + 1)]) hF dX4_coverage_34 wq_754 mv_X0_cellsIn ws_X0_cellsIn (show po_cl[0]? = some _ from rfl) rfl ((ly_4_0 HL kl0).2) (c_X0_cellsIn HL ((ly_4_0 HL kl0).2) ((ly_1_2 HL kl3).2) hx3) rfl (po_rtL hL rfl) (Nat.le_of_ble_eq_true rfl) rfl ?_
  refine po_imul hF dX4_coverage_37 ?_
  refine po_aload_n hF dX4_coverage_38 rfl rfl ?_
  refine po_getf (v := .int (x2 l3 3)) hF dX4_coverage_39 fl_X4_174 kl3 rfl ?_
  obtain ⟨x4, hx4, hm⟩ := po_bind hm
  refine po_callS (As := [.int (100 * x3), .int (x2 l3 3)]) hF dX4_coverage_42 wq_911 mv_X4_dividedUp (c_X4_dividedUp HL hx4) rfl (po_rtL hL rfl) (Nat.le_of_ble_eq_true rfl) rfl ?_
  cases hm
  exact po_iret hF hL dX4_coverage_45 (by decide) (by decide) rfl rfl rfl (Or.inl rfl)
theorem c_X4_coverage {K : po_K} {R : po_R} {I : po_I} {st : Nat → Nat} {ρ : Int32 × po_I} (HL : po_Lay K R st) {l0 : Nat} {l1 : Nat} {l2 : Nat} {l3 : Nat} (kl0 : K l0 = (15, 2)) (kl1 : K l1 = (16, 8)) (kl2 : K l2 = (13, 19)) (kl3 : K l3 = (12, 4)) (hm : m_X4_coverage I l0 l1 l2 l3 = some ρ) : po_C st yX4_coverage cX4_coverage 4 (some .int) 3 0 0 [.ref l0, .ref l1, .ref l2, .ref l3] K R I none (.inl (some (.int ρ.1))) K R (ρ.2) none := by
  refine po_ofC (by decide +kernel) (Nat.le_of_ble_eq_true rfl) (fun X G hF hL => ?_)
  exact w_X4_coverage_e hF hL HL I l0 l1 l2 l3 kl0 kl1 kl2 kl3 hm
set_option maxRecDepth 20000 in
set_option maxHeartbeats 2000000 in
theorem w_X5_standingFloorArea_42 {X : po_X} {G : po_G} {st : Nat → Nat} {K : po_K} {I : po_I} {R : po_R} {ρ : Int32} {r5 : Nat → Int32 → Nat → Int32 → Int32 → Option (Int32)} (hF : po_F X G cX5_standingFloorArea RX5 5 st) (hL : po_L X (some .int) 2 0 0 "standingFloorArea") (HL : po_Lay K R st) (h5 : ∀ (l0 : Nat) (l1 : Int32) (l2 : Nat) (l3 : Int32) (l4 : Int32), r5 l0 l1 l2 l3 l4 = some ρ → K l0 = (16, 8) → K l2 = (13, 19) → po_V X G 5 (po_Q X G (.inl (some (.int ρ))) K R I none 0 0) 0 0 5 [(0, .ref l0), (1, .int l1), (2, .ref l2), (3, .int l3), (4, .int l4)] [] K R I none) (l0 : Nat) (l1 : Int32) (l2 : Nat) (l3 : Int32) (l4 : Int32) (kl0 : K l0 = (16, 8)) (kl2 : K l2 = (13, 19)) (hm : m_X5_standingFloorArea_42 I r5 l0 l1 l2 l3 l4 = some ρ) : po_V X G 5 (po_Q X G (.inl (some (.int ρ))) K R I none 0 0) 0 0 42 [(0, .ref l0), (1, .int l1), (2, .ref l2), (3, .int l3), (4, .int l4)] [] K R I none := by
  unfold m_X5_standingFloorArea_42 at hm
  refine po_iinc (v := l4 + 1) (L' := [(4, .int (l4 + 1)), (0, .ref l0), (1, .int l1), (2, .ref l2), (3, .int l3)]) hF dX5_standingFloorArea_42 rfl rfl (by decide) rfl ?_
  refine po_goto (tgt := 5) hF dX5_standingFloorArea_45 (by decide) ?_
  refine po_sub (L' := [(0, .ref l0), (1, .int l1), (2, .ref l2), (3, .int l3), (4, .int (l4 + 1))]) rfl ?_
  exact h5 l0 l1 l2 l3 (l4 + 1) hm kl0 kl2
set_option maxRecDepth 20000 in
set_option maxHeartbeats 2000000 in
theorem w_X5_standingFloorArea_5 {X : po_X} {G : po_G} {st : Nat → Nat} {K : po_K} {I : po_I} {R : po_R} {ρ : Int32} {r5 : Nat → Int32 → Nat → Int32 → Int32 → Option (Int32)} (hF : po_F X G cX5_standingFloorArea RX5 5 st) (hL : po_L X (some .int) 2 0 0 "standingFloorArea") (HL : po_Lay K R st) (h5 : ∀ (l0 : Nat) (l1 : Int32) (l2 : Nat) (l3 : Int32) (l4 : Int32), r5 l0 l1 l2 l3 l4 = some ρ → K l0 = (16, 8) → K l2 = (13, 19) → po_V X G 5 (po_Q X G (.inl (some (.int ρ))) K R I none 0 0) 0 0 5 [(0, .ref l0), (1, .int l1), (2, .ref l2), (3, .int l3), (4, .int l4)] [] K R I none) (l0 : Nat) (l1 : Int32) (l2 : Nat) (l3 : Int32) (l4 : Int32) (kl0 : K l0 = (16, 8)) (kl2 : K l2 = (13, 19)) (hm : m_X5_standingFloorArea_5 I r5 l0 l1 l2 l3 l4 = some ρ) : po_V X G 5 (po_Q X G (.inl (some (.int ρ))) K R I none 0 0) 0 0 5 [(0, .ref l0), (1, .int l1), (2, .ref l2), (3, .int l3), (4, .int l4)] [] K R I none := by
  unfold m_X5_standingFloorArea_5 at hm
  refine po_iload hF dX5_standingFloorArea_5 rfl ?_
  refine po_aload_n hF dX5_standingFloorArea_7 rfl rfl ?_
  refine po_getf (v := .int (I l0 5)) hF dX5_standingFloorArea_8 fl_X5_34 kl0 rfl ?_
  refine po_icmp_ge (tgt := 48) hF dX5_standingFloorArea_11 (by decide) hm (fun hm => ?_) (fun hm => ?_)
  · refine po_iload_n hF dX5_standingFloorArea_48 rfl rfl ?_
    cases hm
    exact po_iret hF hL dX5_standingFloorArea_49 (by decide) (by decide) rfl rfl rfl (Or.inl rfl)
  · refine po_aload_n hF dX5_standingFloorArea_14 rfl rfl ?_
    refine po_getf (v := .ref (l0 + 3)) hF dX5_standingFloorArea_15 fl_X5_30 kl0 (ly_5_4 HL kl0).1 ?_
    refine po_iload hF dX5_standingFloorArea_18 rfl ?_
    refine po_aald hF dX5_standingFloorArea_20 ((ly_5_4 HL kl0).2) (Or.inr (Or.inl rfl)) hm (fun hi1 => (le_5_4 HL kl0 (po_in_lt hi1)).1) (fun hi1 hm => ?_)
    refine po_iload_n hF dX5_standingFloorArea_21 rfl rfl ?_
    refine po_aload_n hF dX5_standingFloorArea_22 rfl rfl ?_
    obtain ⟨x2, hx2, hm⟩ := po_bind hm
    refine po_callS (As := [.ref (l0 + (29 + 5 * (Int32.toNatClampNeg l4))), .int l1, .ref l2]) hF dX5_standingFloorArea_23 wq_739 mv_X5_countsFor (c_X5_countsFor HL ((le_5_4 HL kl0 (po_in_lt hi1)).2) kl2 hx2) rfl (po_rtL hL rfl) (Nat.le_of_ble_eq_true rfl) rfl ?_
    refine po_if_eq (tgt := 42) hF dX5_standingFloorArea_26 (by decide) hm (fun hm => ?_) (fun hm => ?_)
    · exact w_X5_standingFloorArea_42 hF hL HL h5 l0 l1 l2 l3 l4 kl0 kl2 hm
    · refine po_iload_n hF dX5_standingFloorArea_29 rfl rfl ?_
      refine po_aload_n hF dX5_standingFloorArea_30 rfl rfl ?_
      refine po_getf (v := .ref (l0 + 3)) hF dX5_standingFloorArea_31 fl_X5_30 kl0 (ly_5_4 HL kl0).1 ?_
      refine po_iload hF dX5_standingFloorArea_34 rfl ?_
      refine po_aald hF dX5_standingFloorArea_36 ((ly_5_4 HL kl0).2) (Or.inr (Or.inl rfl)) hm (fun hi3 => (le_5_4 HL kl0 (po_in_lt hi3)).1) (fun hi3 hm => ?_)
      obtain ⟨x4, hx4, hm⟩ := po_bind hm
      refine po_callV (As := []) hF dX5_standingFloorArea_37 wq_759 mv_X2_floorArea ws_X2_floorArea (show po_cl[2]? = some _ from rfl) rfl ((le_5_4 HL kl0 (po_in_lt hi3)).2) (c_X2_floorArea HL ((le_5_4 HL kl0 (po_in_lt hi3)).2) hx4) rfl (po_rtL hL rfl) (Nat.le_of_ble_eq_true rfl) rfl ?_
      refine po_iadd hF dX5_standingFloorArea_40 ?_
      refine po_top hm (fun v5 hm => ?_)
      refine po_istore_n (L' := [(3, .int v5), (0, .ref l0), (1, .int l1), (2, .ref l2), (4, .int l4)]) hF dX5_standingFloorArea_41 rfl (by decide) rfl ?_
      refine po_sub (L' := [(0, .ref l0), (1, .int l1), (2, .ref l2), (3, .int v5), (4, .int l4)]) rfl ?_
      exact w_X5_standingFloorArea_42 hF hL HL h5 l0 l1 l2 v5 l4 kl0 kl2 hm
theorem w_X5_standingFloorArea_5L {X : po_X} {G : po_G} {st : Nat → Nat} {K : po_K} {I : po_I} {R : po_R} {ρ : Int32} (hF : po_F X G cX5_standingFloorArea RX5 5 st) (hL : po_L X (some .int) 2 0 0 "standingFloorArea") (HL : po_Lay K R st) : ∀ (n : Nat) (l0 : Nat) (l1 : Int32) (l2 : Nat) (l3 : Int32) (l4 : Int32), m_X5_standingFloorArea_5L I n l0 l1 l2 l3 l4 = some ρ → K l0 = (16, 8) → K l2 = (13, 19) → po_V X G 5 (po_Q X G (.inl (some (.int ρ))) K R I none 0 0) 0 0 5 [(0, .ref l0), (1, .int l1), (2, .ref l2), (3, .int l3), (4, .int l4)] [] K R I none := by
  intro n
  induction n with
  | zero => intro l0 l1 l2 l3 l4 hm; cases hm
  | succ n ih => intro l0 l1 l2 l3 l4 hm kl0 kl2; exact w_X5_standingFloorArea_5 hF hL HL (ih) l0 l1 l2 l3 l4 kl0 kl2 hm
set_option maxRecDepth 20000 in
set_option maxHeartbeats 2000000 in
theorem w_X5_standingFloorArea_e {X : po_X} {G : po_G} {st : Nat → Nat} {K : po_K} {I : po_I} {R : po_R} {ρ : Int32} (hF : po_F X G cX5_standingFloorArea RX5 5 st) (hL : po_L X (some .int) 2 0 0 "standingFloorArea") (HL : po_Lay K R st) (l0 : Nat) (l1 : Int32) (l2 : Nat) (kl0 : K l0 = (16, 8)) (kl2 : K l2 = (13, 19)) (hm : m_X5_standingFloorArea_e I l0 l1 l2 = some ρ) : po_V X G 5 (po_Q X G (.inl (some (.int ρ))) K R I none 0 0) 0 0 0 [(0, .ref l0), (1, .int l1), (2, .ref l2)] [] K R I none := by
  unfold m_X5_standingFloorArea_e at hm
  refine po_iconst (v := 0) hF dX5_standingFloorArea_0 (by decide) ?_
  refine po_istore_n (L' := [(3, .int 0), (0, .ref l0), (1, .int l1), (2, .ref l2)]) hF dX5_standingFloorArea_1 rfl (by decide) rfl ?_
  refine po_iconst (v := 0) hF dX5_standingFloorArea_2 (by decide) ?_
  refine po_istore (L' := [(4, .int 0), (3, .int 0), (0, .ref l0), (1, .int l1), (2, .ref l2)]) hF dX5_standingFloorArea_3 (by decide) rfl ?_
  refine po_sub (L' := [(0, .ref l0), (1, .int l1), (2, .ref l2), (3, .int 0), (4, .int 0)]) rfl ?_
  exact w_X5_standingFloorArea_5L hF hL HL 5000 l0 l1 l2 0 0 hm kl0 kl2
theorem c_X5_standingFloorArea {K : po_K} {R : po_R} {I : po_I} {st : Nat → Nat} {ρ : Int32} (HL : po_Lay K R st) {l0 : Nat} {l1 : Int32} {l2 : Nat} (kl0 : K l0 = (16, 8)) (kl2 : K l2 = (13, 19)) (hm : m_X5_standingFloorArea I l0 l1 l2 = some ρ) : po_C st yX5_standingFloorArea cX5_standingFloorArea 5 (some .int) 2 0 0 [.ref l0, .int l1, .ref l2] K R I none (.inl (some (.int ρ))) K R I none := by
  refine po_ofC (by decide +kernel) (Nat.le_of_ble_eq_true rfl) (fun X G hF hL => ?_)
  exact w_X5_standingFloorArea_e hF hL HL l0 l1 l2 kl0 kl2 hm
set_option maxRecDepth 20000 in
set_option maxHeartbeats 2000000 in
theorem w_X4_floorAreaShare_e {X : po_X} {G : po_G} {st : Nat → Nat} {K : po_K} {I : po_I} {R : po_R} {ρ : Int32} (hF : po_F X G cX4_floorAreaShare RX4 5 st) (hL : po_L X (some .int) 3 0 0 "floorAreaShare") (HL : po_Lay K R st) (l0 : Nat) (l1 : Nat) (l2 : Nat) (l3 : Nat) (kl0 : K l0 = (15, 2)) (kl1 : K l1 = (16, 8)) (kl2 : K l2 = (13, 19)) (kl3 : K l3 = (12, 4)) (hm : m_X4_floorAreaShare_e I l0 l1 l2 l3 = some ρ) : po_V X G 5 (po_Q X G (.inl (some (.int ρ))) K R I none 0 0) 0 0 0 [(0, .ref l0), (1, .ref l1), (2, .ref l2), (3, .ref l3)] [] K R I none := by
  unfold m_X4_floorAreaShare_e at hm
  refine po_aload_n hF dX4_floorAreaShare_0 rfl rfl ?_
  obtain ⟨x1, hx1, hm⟩ := po_bind hm
  refine po_callV (As := []) hF dX4_floorAreaShare_1 wq_918 mv_X2_floorArea ws_X2_floorArea (show po_cl[2]? = some _ from rfl) rfl kl2 (c_X2_floorArea HL kl2 hx1) rfl (po_rtL hL rfl) (Nat.le_of_ble_eq_true rfl) rfl ?_
  refine po_aload_n hF dX4_floorAreaShare_4 rfl rfl ?_
  refine po_aload_n hF dX4_floorAreaShare_5 rfl rfl ?_
  refine po_getf (v := .int (I l2 0)) hF dX4_floorAreaShare_6 fl_X4_21 kl2 rfl ?_
  refine po_aload_n hF dX4_floorAreaShare_9 rfl rfl ?_
  obtain ⟨x2, hx2, hm⟩ := po_bind hm
  refine po_callV (As := [.int (I l2 0), .ref l2]) hF dX4_floorAreaShare_10 wq_919 mv_X5_standingFloorArea ws_X5_standingFloorArea (show po_cl[5]? = some _ from rfl) rfl kl1 (c_X5_standingFloorArea HL kl1 kl2 hx2) rfl (po_rtL hL rfl) (Nat.le_of_ble_eq_true rfl) rfl ?_
  refine po_iadd hF dX4_floorAreaShare_13 ?_
  refine po_top hm (fun v3 hm => ?_)
  refine po_istore (L' := [(4, .int v3), (0, .ref l0), (1, .ref l1), (2, .ref l2), (3, .ref l3)]) hF dX4_floorAreaShare_14 (by decide) rfl ?_
  refine po_bipush (v := 10) hF dX4_floorAreaShare_16 (by decide) ?_
  refine po_iload hF dX4_floorAreaShare_18 rfl ?_
  refine po_imul hF dX4_floorAreaShare_20 ?_
  refine po_aload_n hF dX4_floorAreaShare_21 rfl rfl ?_
  refine po_getf (v := .int (I l3 3)) hF dX4_floorAreaShare_22 fl_X4_174 kl3 rfl ?_
  obtain ⟨x4, hx4, hm⟩ := po_bind hm
  refine po_callS (As := [.int (10 * v3), .int (I l3 3)]) hF dX4_floorAreaShare_25 wq_911 mv_X4_dividedUp (c_X4_dividedUp HL hx4) rfl (po_rtL hL rfl) (Nat.le_of_ble_eq_true rfl) rfl ?_
  cases hm
  exact po_iret hF hL dX4_floorAreaShare_28 (by decide) (by decide) rfl rfl rfl (Or.inl rfl)
theorem c_X4_floorAreaShare {K : po_K} {R : po_R} {I : po_I} {st : Nat → Nat} {ρ : Int32} (HL : po_Lay K R st) {l0 : Nat} {l1 : Nat} {l2 : Nat} {l3 : Nat} (kl0 : K l0 = (15, 2)) (kl1 : K l1 = (16, 8)) (kl2 : K l2 = (13, 19)) (kl3 : K l3 = (12, 4)) (hm : m_X4_floorAreaShare I l0 l1 l2 l3 = some ρ) : po_C st yX4_floorAreaShare cX4_floorAreaShare 5 (some .int) 3 0 0 [.ref l0, .ref l1, .ref l2, .ref l3] K R I none (.inl (some (.int ρ))) K R I none := by
  refine po_ofC (by decide +kernel) (Nat.le_of_ble_eq_true rfl) (fun X G hF hL => ?_)
  exact w_X4_floorAreaShare_e hF hL HL l0 l1 l2 l3 kl0 kl1 kl2 kl3 hm
set_option maxRecDepth 20000 in
set_option maxHeartbeats 2000000 in
theorem w_X4_measureOf_e {X : po_X} {G : po_G} {st : Nat → Nat} {K : po_K} {R : po_R} {ρ : Int32 × po_I} (hF : po_F X G cX4_measureOf RX4 5 st) (hL : po_L X (some .int) 4 0 0 "measureOf") (HL : po_Lay K R st) (I : po_I) (l0 : Nat) (l1 : Nat) (l2 : Nat) (l3 : Int32) (kl0 : K l0 = (15, 2)) (kl1 : K l1 = (16, 8)) (kl2 : K l2 = (13, 19)) (hm : m_X4_measureOf_e I l0 l1 l2 l3 = some ρ) : po_V X G 5 (po_Q X G (.inl (some (.int ρ.1))) K R (ρ.2) none 0 0) 0 0 0 [(0, .ref l0), (1, .ref l1), (2, .ref l2), (3, .int l3)] [] K R I none := by
  unfold m_X4_measureOf_e at hm
  refine po_aload_n hF dX4_measureOf_0 rfl rfl ?_
  refine po_aload_n hF dX4_measureOf_1 rfl rfl ?_
  refine po_getf (v := .int (I l2 0)) hF dX4_measureOf_2 fl_X4_21 kl2 rfl ?_
  obtain ⟨x1, hx1, hm⟩ := po_bind hm
  refine po_callV (As := [.int (I l2 0)]) hF dX4_measureOf_5 wq_750 mv_X5_lotAt ws_X5_lotAt (show po_cl[5]? = some _ from rfl) rfl kl1 (c_X5_lotAt HL kl1 hx1) rfl (po_rtL hL rfl) (Nat.le_of_ble_eq_true rfl) rfl ?_
  refine po_astore (L' := [(4, .ref x1), (0, .ref l0), (1, .ref l1), (2, .ref l2), (3, .int l3)]) hF dX4_measureOf_8 (by decide) rfl ?_
  refine po_iload_n hF dX4_measureOf_10 rfl rfl ?_
  by_cases hs0 : l3 = 0
  · rw [if_pos hs0] at hm
    refine po_tin (c := 0) (tgt := 60) (off := 49) hF dX4_measureOf_11 hs0 (by decide) (by decide) (by decide) (by decide) ?_
    refine po_aload_n hF dX4_measureOf_60 rfl rfl ?_
    refine po_getf (v := .ref (l2 + 1)) hF dX4_measureOf_61 fl_X4_33 kl2 (ly_2_4 HL kl2).1 ?_
    refine po_aload hF dX4_measureOf_64 rfl ?_
    refine po_getf (v := .ref (x1 + 1)) hF dX4_measureOf_66 fl_X4_36 (kr_X5_lotAt HL kl1 hx1) (ly_1_2 HL (kr_X5_lotAt HL kl1 hx1)).1 ?_
    obtain ⟨x2, hx2, hm⟩ := po_bind hm
    refine po_callV (As := [.ref (x1 + 1)]) hF dX4_measureOf_69 wq_890 mv_X0_cellsOutside ws_X0_cellsOutside (show po_cl[0]? = some _ from rfl) rfl ((ly_2_4 HL kl2).2) (c_X0_cellsOutside HL ((ly_2_4 HL kl2).2) ((ly_1_2 HL (kr_X5_lotAt HL kl1 hx1)).2) hx2) rfl (po_rtL hL rfl) (Nat.le_of_ble_eq_true rfl) rfl ?_
    cases hm
    exact po_iret hF hL dX4_measureOf_72 (by decide) (by decide) rfl rfl rfl (Or.inl rfl)
  rw [if_neg hs0] at hm
  by_cases hs1 : l3 = 1
  · rw [if_pos hs1] at hm
    refine po_tin (c := 1) (tgt := 73) (off := 62) hF dX4_measureOf_11 hs1 (by decide) (by decide) (by decide) (by decide) ?_
    refine po_aload_n hF dX4_measureOf_73 rfl rfl ?_
    refine po_aload_n hF dX4_measureOf_74 rfl rfl ?_
    refine po_aload_n hF dX4_measureOf_75 rfl rfl ?_
    obtain ⟨x3, hx3, hm⟩ := po_bind hm
    refine po_callV (As := [.ref l1, .ref l2]) hF dX4_measureOf_76 wq_895 mv_X4_overlap ws_X4_overlap (show po_cl[4]? = some _ from rfl) rfl kl0 (c_X4_overlap HL kl0 kl1 kl2 hx3) rfl (po_rtL hL rfl) (Nat.le_of_ble_eq_true rfl) rfl ?_
    cases hm
    exact po_iret hF hL dX4_measureOf_79 (by decide) (by decide) rfl rfl rfl (Or.inl rfl)
  rw [if_neg hs1] at hm
  by_cases hs2 : l3 = 2
  · rw [if_pos hs2] at hm
    refine po_tin (c := 2) (tgt := 80) (off := 69) hF dX4_measureOf_11 hs2 (by decide) (by decide) (by decide) (by decide) ?_
    refine po_aload_n hF dX4_measureOf_80 rfl rfl ?_
    refine po_aload_n hF dX4_measureOf_81 rfl rfl ?_
    refine po_getf (v := .ref (l2 + 1)) hF dX4_measureOf_82 fl_X4_33 kl2 (ly_2_4 HL kl2).1 ?_
    refine po_aload hF dX4_measureOf_85 rfl ?_
    refine po_getf (v := .ref (x1 + 1)) hF dX4_measureOf_87 fl_X4_36 (kr_X5_lotAt HL kl1 hx1) (ly_1_2 HL (kr_X5_lotAt HL kl1 hx1)).1 ?_
    refine po_aload hF dX4_measureOf_90 rfl ?_
    refine po_getf (v := .int (I x1 1)) hF dX4_measureOf_92 fl_X4_49 (kr_X5_lotAt HL kl1 hx1) rfl ?_
    obtain ⟨x4, hx4, hm⟩ := po_bind hm
    refine po_callV (As := [.ref (l2 + 1), .ref (x1 + 1), .int (I x1 1)]) hF dX4_measureOf_95 wq_804 mv_X4_leastDistance ws_X4_leastDistance (show po_cl[4]? = some _ from rfl) rfl kl0 (c_X4_leastDistance HL kl0 ((ly_2_4 HL kl2).2) ((ly_1_2 HL (kr_X5_lotAt HL kl1 hx1)).2) hx4) rfl (po_rtL hL rfl) (Nat.le_of_ble_eq_true rfl) rfl ?_
    cases hm
    exact po_iret hF hL dX4_measureOf_98 (by decide) (by decide) rfl rfl rfl (Or.inl rfl)
  rw [if_neg hs2] at hm
  by_cases hs3 : l3 = 3
  · rw [if_pos hs3] at hm
    refine po_tin (c := 3) (tgt := 99) (off := 88) hF dX4_measureOf_11 hs3 (by decide) (by decide) (by decide) (by decide) ?_
    refine po_aload_n hF dX4_measureOf_99 rfl rfl ?_
    refine po_aload_n hF dX4_measureOf_100 rfl rfl ?_
    refine po_getf (v := .ref (l2 + 1)) hF dX4_measureOf_101 fl_X4_33 kl2 (ly_2_4 HL kl2).1 ?_
    refine po_aload hF dX4_measureOf_104 rfl ?_
    obtain ⟨x5, hx5, hm⟩ := po_bind hm
    refine po_callV (As := [.ref (l2 + 1), .ref x1]) hF dX4_measureOf_106 wq_899 mv_X4_leastSideDistance ws_X4_leastSideDistance (show po_cl[4]? = some _ from rfl) rfl kl0 (c_X4_leastSideDistance HL kl0 ((ly_2_4 HL kl2).2) (kr_X5_lotAt HL kl1 hx1) hx5) rfl (po_rtL hL rfl) (Nat.le_of_ble_eq_true rfl) rfl ?_
    cases hm
    exact po_iret hF hL dX4_measureOf_109 (by decide) (by decide) rfl rfl rfl (Or.inl rfl)
  rw [if_neg hs3] at hm
  by_cases hs4 : l3 = 4
  · rw [if_pos hs4] at hm
    refine po_tin (c := 4) (tgt := 110) (off := 99) hF dX4_measureOf_11 hs4 (by decide) (by decide) (by decide) (by decide) ?_
    refine po_aload_n hF dX4_measureOf_110 rfl rfl ?_
    refine po_aload_n hF dX4_measureOf_111 rfl rfl ?_
    refine po_aload_n hF dX4_measureOf_112 rfl rfl ?_
    refine po_aload hF dX4_measureOf_113 rfl ?_
    obtain ⟨x6, hx6, hm⟩ := po_bind hm
    refine po_callV (As := [.ref l1, .ref l2, .ref x1]) hF dX4_measureOf_115 wq_906 mv_X4_coverage ws_X4_coverage (show po_cl[4]? = some _ from rfl) rfl kl0 (c_X4_coverage HL kl0 kl1 kl2 (kr_X5_lotAt HL kl1 hx1) hx6) rfl (po_rtL hL rfl) (Nat.le_of_ble_eq_true rfl) rfl ?_
    cases hm
    exact po_iret hF hL dX4_measureOf_118 (by decide) (by decide) rfl rfl rfl (Or.inl rfl)
  rw [if_neg hs4] at hm
  by_cases hs5 : l3 = 5
  · rw [if_pos hs5] at hm
    refine po_tin (c := 5) (tgt := 119) (off := 108) hF dX4_measureOf_11 hs5 (by decide) (by decide) (by decide) (by decide) ?_
    refine po_aload_n hF dX4_measureOf_119 rfl rfl ?_
    refine po_getf (v := .int (I l2 2)) hF dX4_measureOf_120 fl_X4_64 kl2 rfl ?_
    cases hm
    exact po_iret hF hL dX4_measureOf_123 (by decide) (by decide) rfl rfl rfl (Or.inl rfl)
  rw [if_neg hs5] at hm
  by_cases hs6 : l3 = 6
  · rw [if_pos hs6] at hm
    refine po_tin (c := 6) (tgt := 124) (off := 113) hF dX4_measureOf_11 hs6 (by decide) (by decide) (by decide) (by decide) ?_
    refine po_aload_n hF dX4_measureOf_124 rfl rfl ?_
    refine po_aload_n hF dX4_measureOf_125 rfl rfl ?_
    refine po_aload_n hF dX4_measureOf_126 rfl rfl ?_
    refine po_aload hF dX4_measureOf_127 rfl ?_
    obtain ⟨x7, hx7, hm⟩ := po_bind hm
    refine po_callV (As := [.ref l1, .ref l2, .ref x1]) hF dX4_measureOf_129 wq_914 mv_X4_floorAreaShare ws_X4_floorAreaShare (show po_cl[4]? = some _ from rfl) rfl kl0 (c_X4_floorAreaShare HL kl0 kl1 kl2 (kr_X5_lotAt HL kl1 hx1) hx7) rfl (po_rtL hL rfl) (Nat.le_of_ble_eq_true rfl) rfl ?_
    cases hm
    exact po_iret hF hL dX4_measureOf_132 (by decide) (by decide) rfl rfl rfl (Or.inl rfl)
  rw [if_neg hs6] at hm
  by_cases hs7 : l3 = 7
  · rw [if_pos hs7] at hm
    refine po_tin (c := 7) (tgt := 133) (off := 122) hF dX4_measureOf_11 hs7 (by decide) (by decide) (by decide) (by decide) ?_
    refine po_aload_n hF dX4_measureOf_133 rfl rfl ?_
    refine po_getf (v := .int (I l2 1)) hF dX4_measureOf_134 fl_X4_70 kl2 rfl ?_
    cases hm
    exact po_iret hF hL dX4_measureOf_137 (by decide) (by decide) rfl rfl rfl (Or.inl rfl)
  rw [if_neg hs7] at hm
  by_cases hs8 : l3 = 8
  · rw [if_pos hs8] at hm
    refine po_tin (c := 8) (tgt := 138) (off := 127) hF dX4_measureOf_11 hs8 (by decide) (by decide) (by decide) (by decide) ?_
    refine po_aload_n hF dX4_measureOf_138 rfl rfl ?_
    refine po_getf (v := .int (I l2 3)) hF dX4_measureOf_139 fl_X4_73 kl2 rfl ?_
    cases hm
    exact po_iret hF hL dX4_measureOf_142 (by decide) (by decide) rfl rfl rfl (Or.inl rfl)
  rw [if_neg hs8] at hm
  refine po_tout (tgt := 143) hF dX4_measureOf_11 (po_tdef (lo := 0) (m := 9) (fun j hj => by
    rcases (show j = 0 ∨ j = 1 ∨ j = 2 ∨ j = 3 ∨ j = 4 ∨ j = 5 ∨ j = 6 ∨ j = 7 ∨ j = 8 by omega) with rfl | rfl | rfl | rfl | rfl | rfl | rfl | rfl | rfl
    · exact po_neI (c := 0) hs0 (by decide)
    · exact po_neI (c := 1) hs1 (by decide)
    · exact po_neI (c := 2) hs2 (by decide)
    · exact po_neI (c := 3) hs3 (by decide)
    · exact po_neI (c := 4) hs4 (by decide)
    · exact po_neI (c := 5) hs5 (by decide)
    · exact po_neI (c := 6) hs6 (by decide)
    · exact po_neI (c := 7) hs7 (by decide)
    · exact po_neI (c := 8) hs8 (by decide)
    )) (by decide) ?_
  refine po_iconst (v := 0) hF dX4_measureOf_143 (by decide) ?_
  cases hm
  exact po_iret hF hL dX4_measureOf_144 (by decide) (by decide) rfl rfl rfl (Or.inl rfl)
theorem c_X4_measureOf {K : po_K} {R : po_R} {I : po_I} {st : Nat → Nat} {ρ : Int32 × po_I} (HL : po_Lay K R st) {l0 : Nat} {l1 : Nat} {l2 : Nat} {l3 : Int32} (kl0 : K l0 = (15, 2)) (kl1 : K l1 = (16, 8)) (kl2 : K l2 = (13, 19)) (hm : m_X4_measureOf I l0 l1 l2 l3 = some ρ) : po_C st yX4_measureOf cX4_measureOf 5 (some .int) 4 0 0 [.ref l0, .ref l1, .ref l2, .int l3] K R I none (.inl (some (.int ρ.1))) K R (ρ.2) none := by
  refine po_ofC (by decide +kernel) (Nat.le_of_ble_eq_true rfl) (fun X G hF hL => ?_)
  exact w_X4_measureOf_e hF hL HL I l0 l1 l2 l3 kl0 kl1 kl2 hm
set_option maxRecDepth 20000 in
set_option maxHeartbeats 2000000 in
theorem w_X4_limitOf_e {X : po_X} {G : po_G} {st : Nat → Nat} {K : po_K} {I : po_I} {R : po_R} {ρ : Int32} (hF : po_F X G cX4_limitOf RX4 4 st) (hL : po_L X (some .int) 2 0 0 "limitOf") (HL : po_Lay K R st) (l0 : Nat) (l1 : Nat) (l2 : Nat) (l3 : Int32) (kl0 : K l0 = (15, 2)) (kl1 : K l1 = (16, 8)) (kl2 : K l2 = (13, 19)) (hm : m_X4_limitOf_e I l0 l1 l2 l3 = some ρ) : po_V X G 4 (po_Q X G (.inl (some (.int ρ))) K R I none 0 0) 0 0 0 [(0, .ref l0), (1, .ref l1), (2, .ref l2), (3, .int l3)] [] K R I none := by
  unfold m_X4_limitOf_e at hm
  refine po_iload_n hF dX4_limitOf_0 rfl rfl ?_
  by_cases hs0 : l3 = 2
  · rw [if_pos hs0] at hm
    refine po_tin (c := 2) (tgt := 44) (off := 43) hF dX4_limitOf_1 hs0 (by decide) (by decide) (by decide) (by decide) ?_
    refine po_aload_n hF dX4_limitOf_44 rfl rfl ?_
    refine po_aload_n hF dX4_limitOf_45 rfl rfl ?_
    refine po_getf (v := .int (I l2 0)) hF dX4_limitOf_46 fl_X4_21 kl2 rfl ?_
    refine po_iconst (v := 0) hF dX4_limitOf_49 (by decide) ?_
    obtain ⟨x1, hx1, hm⟩ := po_bind hm
    refine po_callV (As := [.int (I l2 0), .int 0]) hF dX4_limitOf_50 wq_832 mv_X5_ruleFor ws_X5_ruleFor (show po_cl[5]? = some _ from rfl) rfl kl1 (c_X5_ruleFor HL kl1 hx1) rfl (po_rtL hL rfl) (Nat.le_of_ble_eq_true rfl) rfl ?_
    cases hm
    exact po_iret hF hL dX4_limitOf_53 (by decide) (by decide) rfl rfl rfl (Or.inl rfl)
  rw [if_neg hs0] at hm
  by_cases hs1 : l3 = 3
  · rw [if_pos hs1] at hm
    refine po_tin (c := 3) (tgt := 54) (off := 53) hF dX4_limitOf_1 hs1 (by decide) (by decide) (by decide) (by decide) ?_
    refine po_aload_n hF dX4_limitOf_54 rfl rfl ?_
    refine po_aload_n hF dX4_limitOf_55 rfl rfl ?_
    refine po_getf (v := .int (I l2 0)) hF dX4_limitOf_56 fl_X4_21 kl2 rfl ?_
    refine po_iconst (v := 1) hF dX4_limitOf_59 (by decide) ?_
    obtain ⟨x2, hx2, hm⟩ := po_bind hm
    refine po_callV (As := [.int (I l2 0), .int 1]) hF dX4_limitOf_60 wq_832 mv_X5_ruleFor ws_X5_ruleFor (show po_cl[5]? = some _ from rfl) rfl kl1 (c_X5_ruleFor HL kl1 hx2) rfl (po_rtL hL rfl) (Nat.le_of_ble_eq_true rfl) rfl ?_
    cases hm
    exact po_iret hF hL dX4_limitOf_63 (by decide) (by decide) rfl rfl rfl (Or.inl rfl)
  rw [if_neg hs1] at hm
  by_cases hs2 : l3 = 4
  · rw [if_pos hs2] at hm
    refine po_tin (c := 4) (tgt := 64) (off := 63) hF dX4_limitOf_1 hs2 (by decide) (by decide) (by decide) (by decide) ?_
    refine po_aload_n hF dX4_limitOf_64 rfl rfl ?_
    refine po_aload_n hF dX4_limitOf_65 rfl rfl ?_
    refine po_getf (v := .int (I l2 0)) hF dX4_limitOf_66 fl_X4_21 kl2 rfl ?_
    refine po_iconst (v := 2) hF dX4_limitOf_69 (by decide) ?_
    obtain ⟨x3, hx3, hm⟩ := po_bind hm
    refine po_callV (As := [.int (I l2 0), .int 2]) hF dX4_limitOf_70 wq_832 mv_X5_ruleFor ws_X5_ruleFor (show po_cl[5]? = some _ from rfl) rfl kl1 (c_X5_ruleFor HL kl1 hx3) rfl (po_rtL hL rfl) (Nat.le_of_ble_eq_true rfl) rfl ?_
    cases hm
    exact po_iret hF hL dX4_limitOf_73 (by decide) (by decide) rfl rfl rfl (Or.inl rfl)
  rw [if_neg hs2] at hm
  by_cases hs3 : l3 = 5
  · rw [if_pos hs3] at hm
    refine po_tin (c := 5) (tgt := 74) (off := 73) hF dX4_limitOf_1 hs3 (by decide) (by decide) (by decide) (by decide) ?_
    refine po_aload_n hF dX4_limitOf_74 rfl rfl ?_
    refine po_aload_n hF dX4_limitOf_75 rfl rfl ?_
    refine po_getf (v := .int (I l2 0)) hF dX4_limitOf_76 fl_X4_21 kl2 rfl ?_
    refine po_iconst (v := 3) hF dX4_limitOf_79 (by decide) ?_
    obtain ⟨x4, hx4, hm⟩ := po_bind hm
    refine po_callV (As := [.int (I l2 0), .int 3]) hF dX4_limitOf_80 wq_832 mv_X5_ruleFor ws_X5_ruleFor (show po_cl[5]? = some _ from rfl) rfl kl1 (c_X5_ruleFor HL kl1 hx4) rfl (po_rtL hL rfl) (Nat.le_of_ble_eq_true rfl) rfl ?_
    cases hm
    exact po_iret hF hL dX4_limitOf_83 (by decide) (by decide) rfl rfl rfl (Or.inl rfl)
  rw [if_neg hs3] at hm
  by_cases hs4 : l3 = 6
  · rw [if_pos hs4] at hm
    refine po_tin (c := 6) (tgt := 84) (off := 83) hF dX4_limitOf_1 hs4 (by decide) (by decide) (by decide) (by decide) ?_
    refine po_aload_n hF dX4_limitOf_84 rfl rfl ?_
    refine po_aload_n hF dX4_limitOf_85 rfl rfl ?_
    refine po_getf (v := .int (I l2 0)) hF dX4_limitOf_86 fl_X4_21 kl2 rfl ?_
    refine po_iconst (v := 4) hF dX4_limitOf_89 (by decide) ?_
    obtain ⟨x5, hx5, hm⟩ := po_bind hm
    refine po_callV (As := [.int (I l2 0), .int 4]) hF dX4_limitOf_90 wq_832 mv_X5_ruleFor ws_X5_ruleFor (show po_cl[5]? = some _ from rfl) rfl kl1 (c_X5_ruleFor HL kl1 hx5) rfl (po_rtL hL rfl) (Nat.le_of_ble_eq_true rfl) rfl ?_
    cases hm
    exact po_iret hF hL dX4_limitOf_93 (by decide) (by decide) rfl rfl rfl (Or.inl rfl)
  rw [if_neg hs4] at hm
  by_cases hs5 : l3 = 7
  · rw [if_pos hs5] at hm
    refine po_tin (c := 7) (tgt := 94) (off := 93) hF dX4_limitOf_1 hs5 (by decide) (by decide) (by decide) (by decide) ?_
    refine po_aload_n hF dX4_limitOf_94 rfl rfl ?_
    refine po_aload_n hF dX4_limitOf_95 rfl rfl ?_
    refine po_getf (v := .int (I l2 0)) hF dX4_limitOf_96 fl_X4_21 kl2 rfl ?_
    refine po_iconst (v := 5) hF dX4_limitOf_99 (by decide) ?_
    obtain ⟨x6, hx6, hm⟩ := po_bind hm
    refine po_callV (As := [.int (I l2 0), .int 5]) hF dX4_limitOf_100 wq_832 mv_X5_ruleFor ws_X5_ruleFor (show po_cl[5]? = some _ from rfl) rfl kl1 (c_X5_ruleFor HL kl1 hx6) rfl (po_rtL hL rfl) (Nat.le_of_ble_eq_true rfl) rfl ?_
    cases hm
    exact po_iret hF hL dX4_limitOf_103 (by decide) (by decide) rfl rfl rfl (Or.inl rfl)
  rw [if_neg hs5] at hm
  by_cases hs6 : l3 = 8
  · rw [if_pos hs6] at hm
    refine po_tin (c := 8) (tgt := 104) (off := 103) hF dX4_limitOf_1 hs6 (by decide) (by decide) (by decide) (by decide) ?_
    refine po_aload_n hF dX4_limitOf_104 rfl rfl ?_
    refine po_aload_n hF dX4_limitOf_105 rfl rfl ?_
    refine po_getf (v := .int (I l2 0)) hF dX4_limitOf_106 fl_X4_21 kl2 rfl ?_
    refine po_bipush (v := 6) hF dX4_limitOf_109 (by decide) ?_
    obtain ⟨x7, hx7, hm⟩ := po_bind hm
    refine po_callV (As := [.int (I l2 0), .int 6]) hF dX4_limitOf_111 wq_832 mv_X5_ruleFor ws_X5_ruleFor (show po_cl[5]? = some _ from rfl) rfl kl1 (c_X5_ruleFor HL kl1 hx7) rfl (po_rtL hL rfl) (Nat.le_of_ble_eq_true rfl) rfl ?_
    refine po_aload_n hF dX4_limitOf_114 rfl rfl ?_
    obtain ⟨x8, hx8, hm⟩ := po_bind hm
    refine po_callV (As := []) hF dX4_limitOf_115 wq_918 mv_X2_floorArea ws_X2_floorArea (show po_cl[2]? = some _ from rfl) rfl kl2 (c_X2_floorArea HL kl2 hx8) rfl (po_rtL hL rfl) (Nat.le_of_ble_eq_true rfl) rfl ?_
    refine po_imul hF dX4_limitOf_118 ?_
    refine po_bipush (v := 10) hF dX4_limitOf_119 (by decide) ?_
    obtain ⟨x9, hx9, hm⟩ := po_bind hm
    refine po_callS (As := [.int (x7 * x8), .int 10]) hF dX4_limitOf_121 wq_911 mv_X4_dividedUp (c_X4_dividedUp HL hx9) rfl (po_rtL hL rfl) (Nat.le_of_ble_eq_true rfl) rfl ?_
    cases hm
    exact po_iret hF hL dX4_limitOf_124 (by decide) (by decide) rfl rfl rfl (Or.inl rfl)
  rw [if_neg hs6] at hm
  refine po_tout (tgt := 125) hF dX4_limitOf_1 (po_tdef (lo := 2) (m := 7) (fun j hj => by
    rcases (show j = 0 ∨ j = 1 ∨ j = 2 ∨ j = 3 ∨ j = 4 ∨ j = 5 ∨ j = 6 by omega) with rfl | rfl | rfl | rfl | rfl | rfl | rfl
    · exact po_neI (c := 2) hs0 (by decide)
    · exact po_neI (c := 3) hs1 (by decide)
    · exact po_neI (c := 4) hs2 (by decide)
    · exact po_neI (c := 5) hs3 (by decide)
    · exact po_neI (c := 6) hs4 (by decide)
    · exact po_neI (c := 7) hs5 (by decide)
    · exact po_neI (c := 8) hs6 (by decide)
    )) (by decide) ?_
  refine po_iconst (v := 0) hF dX4_limitOf_125 (by decide) ?_
  cases hm
  exact po_iret hF hL dX4_limitOf_126 (by decide) (by decide) rfl rfl rfl (Or.inl rfl)
theorem c_X4_limitOf {K : po_K} {R : po_R} {I : po_I} {st : Nat → Nat} {ρ : Int32} (HL : po_Lay K R st) {l0 : Nat} {l1 : Nat} {l2 : Nat} {l3 : Int32} (kl0 : K l0 = (15, 2)) (kl1 : K l1 = (16, 8)) (kl2 : K l2 = (13, 19)) (hm : m_X4_limitOf I l0 l1 l2 l3 = some ρ) : po_C st yX4_limitOf cX4_limitOf 4 (some .int) 2 0 0 [.ref l0, .ref l1, .ref l2, .int l3] K R I none (.inl (some (.int ρ))) K R I none := by
  refine po_ofC (by decide +kernel) (Nat.le_of_ble_eq_true rfl) (fun X G hF hL => ?_)
  exact w_X4_limitOf_e hF hL HL l0 l1 l2 l3 kl0 kl1 kl2 hm
set_option maxRecDepth 20000 in
set_option maxHeartbeats 2000000 in
theorem w_X4_isFinding_54 {X : po_X} {G : po_G} {st : Nat → Nat} {K : po_K} {I : po_I} {R : po_R} {ρ : Int32} (hF : po_F X G cX4_isFinding RX4 3 st) (hL : po_L X (some .boolean) 0 0 0 "isFinding") (HL : po_Lay K R st) (s0 : Int32) (hm : m_X4_isFinding_54 s0 = some ρ) : po_V X G 3 (po_Q X G (.inl (some (.int ρ))) K R I none 0 0) 0 0 54 [] [.int s0] K R I none := by
  unfold m_X4_isFinding_54 at hm
  obtain ⟨hz, hm⟩ := po_zif hm
  cases hm
  exact po_zret hF hL dX4_isFinding_54 (po_nz hz) (by decide) (by decide) rfl rfl rfl (Or.inl rfl)
set_option maxRecDepth 20000 in
set_option maxHeartbeats 2000000 in
theorem w_X4_isFinding_44 {X : po_X} {G : po_G} {st : Nat → Nat} {K : po_K} {I : po_I} {R : po_R} {ρ : Int32} (hF : po_F X G cX4_isFinding RX4 3 st) (hL : po_L X (some .boolean) 0 0 0 "isFinding") (HL : po_Lay K R st) (l1 : Int32) (l2 : Int32) (hm : m_X4_isFinding_44 l1 l2 = some ρ) : po_V X G 3 (po_Q X G (.inl (some (.int ρ))) K R I none 0 0) 0 0 44 [(1, .int l1), (2, .int l2)] [] K R I none := by
  unfold m_X4_isFinding_44 at hm
  refine po_iload_n hF dX4_isFinding_44 rfl rfl ?_
  refine po_iload_n hF dX4_isFinding_45 rfl rfl ?_
  refine po_icmp_ge (tgt := 53) hF dX4_isFinding_46 (by decide) hm (fun hm => ?_) (fun hm => ?_)
  · refine po_iconst (v := 0) hF dX4_isFinding_53 (by decide) ?_
    refine po_sub (L' := []) rfl ?_
    exact w_X4_isFinding_54 hF hL HL 0 hm
  · refine po_iconst (v := 1) hF dX4_isFinding_49 (by decide) ?_
    refine po_goto (tgt := 54) hF dX4_isFinding_50 (by decide) ?_
    refine po_sub (L' := []) rfl ?_
    exact w_X4_isFinding_54 hF hL HL 1 hm
set_option maxRecDepth 20000 in
set_option maxHeartbeats 2000000 in
theorem w_X4_isFinding_68 {X : po_X} {G : po_G} {st : Nat → Nat} {K : po_K} {I : po_I} {R : po_R} {ρ : Int32} (hF : po_F X G cX4_isFinding RX4 3 st) (hL : po_L X (some .boolean) 0 0 0 "isFinding") (HL : po_Lay K R st) (s0 : Int32) (hm : m_X4_isFinding_68 s0 = some ρ) : po_V X G 3 (po_Q X G (.inl (some (.int ρ))) K R I none 0 0) 0 0 68 [] [.int s0] K R I none := by
  unfold m_X4_isFinding_68 at hm
  obtain ⟨hz, hm⟩ := po_zif hm
  cases hm
  exact po_zret hF hL dX4_isFinding_68 (po_nz hz) (by decide) (by decide) rfl rfl rfl (Or.inl rfl)
set_option maxRecDepth 20000 in
set_option maxHeartbeats 2000000 in
theorem w_X4_isFinding_79 {X : po_X} {G : po_G} {st : Nat → Nat} {K : po_K} {I : po_I} {R : po_R} {ρ : Int32} (hF : po_F X G cX4_isFinding RX4 3 st) (hL : po_L X (some .boolean) 0 0 0 "isFinding") (HL : po_Lay K R st) (s0 : Int32) (hm : m_X4_isFinding_79 s0 = some ρ) : po_V X G 3 (po_Q X G (.inl (some (.int ρ))) K R I none 0 0) 0 0 79 [] [.int s0] K R I none := by
  unfold m_X4_isFinding_79 at hm
  obtain ⟨hz, hm⟩ := po_zif hm
  cases hm
  exact po_zret hF hL dX4_isFinding_79 (po_nz hz) (by decide) (by decide) rfl rfl rfl (Or.inl rfl)
set_option maxRecDepth 20000 in
set_option maxHeartbeats 2000000 in
theorem w_X4_isFinding_69 {X : po_X} {G : po_G} {st : Nat → Nat} {K : po_K} {I : po_I} {R : po_R} {ρ : Int32} (hF : po_F X G cX4_isFinding RX4 3 st) (hL : po_L X (some .boolean) 0 0 0 "isFinding") (HL : po_Lay K R st) (l1 : Int32) (l2 : Int32) (hm : m_X4_isFinding_69 l1 l2 = some ρ) : po_V X G 3 (po_Q X G (.inl (some (.int ρ))) K R I none 0 0) 0 0 69 [(1, .int l1), (2, .int l2)] [] K R I none := by
  unfold m_X4_isFinding_69 at hm
  refine po_iload_n hF dX4_isFinding_69 rfl rfl ?_
  refine po_iload_n hF dX4_isFinding_70 rfl rfl ?_
  refine po_icmp_le (tgt := 78) hF dX4_isFinding_71 (by decide) hm (fun hm => ?_) (fun hm => ?_)
  · refine po_iconst (v := 0) hF dX4_isFinding_78 (by decide) ?_
    refine po_sub (L' := []) rfl ?_
    exact w_X4_isFinding_79 hF hL HL 0 hm
  · refine po_iconst (v := 1) hF dX4_isFinding_74 (by decide) ?_
    refine po_goto (tgt := 79) hF dX4_isFinding_75 (by decide) ?_
    refine po_sub (L' := []) rfl ?_
    exact w_X4_isFinding_79 hF hL HL 1 hm
set_option maxRecDepth 20000 in
set_option maxHeartbeats 2000000 in
theorem w_X4_isFinding_e {X : po_X} {G : po_G} {st : Nat → Nat} {K : po_K} {I : po_I} {R : po_R} {ρ : Int32} (hF : po_F X G cX4_isFinding RX4 3 st) (hL : po_L X (some .boolean) 0 0 0 "isFinding") (HL : po_Lay K R st) (l0 : Int32) (l1 : Int32) (l2 : Int32) (hm : m_X4_isFinding_e l0 l1 l2 = some ρ) : po_V X G 3 (po_Q X G (.inl (some (.int ρ))) K R I none 0 0) 0 0 0 [(0, .int l0), (1, .int l1), (2, .int l2)] [] K R I none := by
  unfold m_X4_isFinding_e at hm
  refine po_iload_n hF dX4_isFinding_0 rfl rfl ?_
  by_cases hs0 : l0 = 2
  · rw [if_pos hs0] at hm
    refine po_tin (c := 2) (tgt := 44) (off := 43) hF dX4_isFinding_1 hs0 (by decide) (by decide) (by decide) (by decide) ?_
    refine po_sub (L' := [(1, .int l1), (2, .int l2)]) rfl ?_
    exact w_X4_isFinding_44 hF hL HL l1 l2 hm
  rw [if_neg hs0] at hm
  by_cases hs1 : l0 = 3
  · rw [if_pos hs1] at hm
    refine po_tin (c := 3) (tgt := 44) (off := 43) hF dX4_isFinding_1 hs1 (by decide) (by decide) (by decide) (by decide) ?_
    refine po_sub (L' := [(1, .int l1), (2, .int l2)]) rfl ?_
    exact w_X4_isFinding_44 hF hL HL l1 l2 hm
  rw [if_neg hs1] at hm
  by_cases hs2 : l0 = 4
  · rw [if_pos hs2] at hm
    refine po_tin (c := 4) (tgt := 69) (off := 68) hF dX4_isFinding_1 hs2 (by decide) (by decide) (by decide) (by decide) ?_
    refine po_sub (L' := [(1, .int l1), (2, .int l2)]) rfl ?_
    exact w_X4_isFinding_69 hF hL HL l1 l2 hm
  rw [if_neg hs2] at hm
  by_cases hs3 : l0 = 5
  · rw [if_pos hs3] at hm
    refine po_tin (c := 5) (tgt := 69) (off := 68) hF dX4_isFinding_1 hs3 (by decide) (by decide) (by decide) (by decide) ?_
    refine po_sub (L' := [(1, .int l1), (2, .int l2)]) rfl ?_
    exact w_X4_isFinding_69 hF hL HL l1 l2 hm
  rw [if_neg hs3] at hm
  by_cases hs4 : l0 = 6
  · rw [if_pos hs4] at hm
    refine po_tin (c := 6) (tgt := 69) (off := 68) hF dX4_isFinding_1 hs4 (by decide) (by decide) (by decide) (by decide) ?_
    refine po_sub (L' := [(1, .int l1), (2, .int l2)]) rfl ?_
    exact w_X4_isFinding_69 hF hL HL l1 l2 hm
  rw [if_neg hs4] at hm
  by_cases hs5 : l0 = 7
  · rw [if_pos hs5] at hm
    refine po_tin (c := 7) (tgt := 55) (off := 54) hF dX4_isFinding_1 hs5 (by decide) (by decide) (by decide) (by decide) ?_
    refine po_iload_n hF dX4_isFinding_55 rfl rfl ?_
    refine po_iconst (v := 1) hF dX4_isFinding_56 (by decide) ?_
    refine po_iload_n hF dX4_isFinding_57 rfl rfl ?_
    refine po_ishl hF dX4_isFinding_58 ?_
    refine po_iand hF dX4_isFinding_59 ?_
    refine po_if_ne (tgt := 67) hF dX4_isFinding_60 (by decide) hm (fun hm => ?_) (fun hm => ?_)
    · refine po_iconst (v := 0) hF dX4_isFinding_67 (by decide) ?_
      refine po_sub (L' := []) rfl ?_
      exact w_X4_isFinding_68 hF hL HL 0 hm
    · refine po_iconst (v := 1) hF dX4_isFinding_63 (by decide) ?_
      refine po_goto (tgt := 68) hF dX4_isFinding_64 (by decide) ?_
      refine po_sub (L' := []) rfl ?_
      exact w_X4_isFinding_68 hF hL HL 1 hm
  rw [if_neg hs5] at hm
  by_cases hs6 : l0 = 8
  · rw [if_pos hs6] at hm
    refine po_tin (c := 8) (tgt := 44) (off := 43) hF dX4_isFinding_1 hs6 (by decide) (by decide) (by decide) (by decide) ?_
    refine po_sub (L' := [(1, .int l1), (2, .int l2)]) rfl ?_
    exact w_X4_isFinding_44 hF hL HL l1 l2 hm
  rw [if_neg hs6] at hm
  refine po_tout (tgt := 69) hF dX4_isFinding_1 (po_tdef (lo := 2) (m := 7) (fun j hj => by
    rcases (show j = 0 ∨ j = 1 ∨ j = 2 ∨ j = 3 ∨ j = 4 ∨ j = 5 ∨ j = 6 by omega) with rfl | rfl | rfl | rfl | rfl | rfl | rfl
    · exact po_neI (c := 2) hs0 (by decide)
    · exact po_neI (c := 3) hs1 (by decide)
    · exact po_neI (c := 4) hs2 (by decide)
    · exact po_neI (c := 5) hs3 (by decide)
    · exact po_neI (c := 6) hs4 (by decide)
    · exact po_neI (c := 7) hs5 (by decide)
    · exact po_neI (c := 8) hs6 (by decide)
    )) (by decide) ?_
  refine po_sub (L' := [(1, .int l1), (2, .int l2)]) rfl ?_
  exact w_X4_isFinding_69 hF hL HL l1 l2 hm
theorem c_X4_isFinding {K : po_K} {R : po_R} {I : po_I} {st : Nat → Nat} {ρ : Int32} (HL : po_Lay K R st) {l0 : Int32} {l1 : Int32} {l2 : Int32} (hm : m_X4_isFinding l0 l1 l2 = some ρ) : po_C st yX4_isFinding cX4_isFinding 3 (some .boolean) 0 0 0 [.int l0, .int l1, .int l2] K R I none (.inl (some (.int ρ))) K R I none := by
  refine po_ofC (by decide +kernel) (Nat.le_of_ble_eq_true rfl) (fun X G hF hL => ?_)
  exact w_X4_isFinding_e hF hL HL l0 l1 l2 hm
