set_option maxRecDepth 20000 in
set_option maxHeartbeats 2000000 in
theorem w_X3_addCharacter_36 {X : po_X} {G : po_G} {st : Nat → Nat} {K : po_K} {R : po_R} {ρ : po_I} (hF : po_F X G cX3_addCharacter RX3 2 st) (hL : po_L X none 0 0 0 "addCharacter") (HL : po_Lay K R st) (I : po_I) (hm : m_X3_addCharacter_36 I = some ρ) : po_V X G 2 (po_Q X G (.inl (none)) K R (ρ) none 0 0) 0 0 36 [] [] K R I none := by
  unfold m_X3_addCharacter_36 at hm
  cases hm
  exact po_vret hF hL dX3_addCharacter_36 (by decide) (by decide) rfl rfl rfl (Or.inl rfl)
set_option maxRecDepth 20000 in
set_option maxHeartbeats 2000000 in
theorem w_X3_addCharacter_e {X : po_X} {G : po_G} {st : Nat → Nat} {K : po_K} {R : po_R} {ρ : po_I} (hF : po_F X G cX3_addCharacter RX3 2 st) (hL : po_L X none 0 0 0 "addCharacter") (HL : po_Lay K R st) (I : po_I) (l0 : Nat) (l1 : Int32) (kl0 : K l0 = (14, 4)) (hm : m_X3_addCharacter_e I l0 l1 = some ρ) : po_V X G 2 (po_Q X G (.inl (none)) K R (ρ) none 0 0) 0 0 0 [(0, .ref l0), (1, .int l1)] [] K R I none := by
  unfold m_X3_addCharacter_e at hm
  refine po_aload_n hF dX3_addCharacter_0 rfl rfl ?_
  refine po_getf (v := .int (I l0 1)) hF dX3_addCharacter_1 fl_X3_15 kl0 rfl ?_
  refine po_if_lt (tgt := 36) hF dX3_addCharacter_4 (by decide) hm (fun hm => ?_) (fun hm => ?_)
  · refine po_sub (L' := []) rfl ?_
    exact w_X3_addCharacter_36 hF hL HL I hm
  · refine po_aload_n hF dX3_addCharacter_7 rfl rfl ?_
    refine po_getf (v := .int (I l0 1)) hF dX3_addCharacter_8 fl_X3_15 kl0 rfl ?_
    refine po_bipush (v := 60) hF dX3_addCharacter_11 (by decide) ?_
    refine po_icmp_ge (tgt := 36) hF dX3_addCharacter_13 (by decide) hm (fun hm => ?_) (fun hm => ?_)
    · refine po_sub (L' := []) rfl ?_
      exact w_X3_addCharacter_36 hF hL HL I hm
    · refine po_aload_n hF dX3_addCharacter_16 rfl rfl ?_
      refine po_getf (v := .ref (l0 + 1)) hF dX3_addCharacter_17 fl_X3_9 kl0 (ly_3_0 HL kl0).1 ?_
      refine po_aload_n hF dX3_addCharacter_20 rfl rfl ?_
      refine po_getf (v := .int (I l0 1)) hF dX3_addCharacter_21 fl_X3_15 kl0 rfl ?_
      refine po_iload_n hF dX3_addCharacter_24 rfl rfl ?_
      refine po_cast hF dX3_addCharacter_25 ((ly_3_0 HL kl0).2) hm rfl (fun hm => ?_)
      refine po_hname hm (fun I1 hm => ?_)
      refine po_aload_n hF dX3_addCharacter_26 rfl rfl ?_
      refine po_dup hF dX3_addCharacter_27 rfl ?_
      refine po_getf (v := .int (I1 l0 1)) hF dX3_addCharacter_28 fl_X3_15 kl0 rfl ?_
      refine po_iconst (v := 1) hF dX3_addCharacter_31 (by decide) ?_
      refine po_iadd hF dX3_addCharacter_32 ?_
      refine po_puti hF dX3_addCharacter_33 fl_X3_15 kl0 (by intro r h; cases h; rfl) rfl rfl (fun _ => rfl) rfl ?_
      refine po_hname hm (fun I2 hm => ?_)
      refine po_sub (L' := []) rfl ?_
      exact w_X3_addCharacter_36 hF hL HL I2 hm
theorem c_X3_addCharacter {K : po_K} {R : po_R} {I : po_I} {st : Nat → Nat} {ρ : po_I} (HL : po_Lay K R st) {l0 : Nat} {l1 : Int32} (kl0 : K l0 = (14, 4)) (hm : m_X3_addCharacter I l0 l1 = some ρ) : po_C st yX3_addCharacter cX3_addCharacter 2 none 0 0 0 [.ref l0, .int l1] K R I none (.inl (none)) K R (ρ) none := by
  refine po_ofC (by decide +kernel) (Nat.le_of_ble_eq_true rfl) (fun X G hF hL => ?_)
  exact w_X3_addCharacter_e hF hL HL I l0 l1 kl0 hm
set_option maxRecDepth 20000 in
set_option maxHeartbeats 2000000 in
theorem w_X7_append_116 {X : po_X} {G : po_G} {st : Nat → Nat} {K : po_K} {R : po_R} {ρ : (Int32 ⊕ String) × po_I} {r88 : po_I → Nat → Int32 → Int32 → Option ((Int32 ⊕ String) × po_I)} (hF : po_F X G cX7_append RX7 5 st) (hL : po_L X (some .int) 6 1 6 "append") (HL : po_Lay K R st) (h88 : ∀ (I : po_I) (l0 : Nat) (l1 : Int32) (l3 : Int32), r88 I l0 l1 l3 = some ρ → K l0 = (18, 8) → po_V X G 5 (po_Q X G (po_oi (ρ.1)) K R (ρ.2) none 1 6) 0 0 88 [(0, .ref l0), (1, .int l1), (3, .int l3)] [] K R I none) (I : po_I) (l0 : Nat) (l1 : Int32) (l3 : Int32) (kl0 : K l0 = (18, 8)) (hm : m_X7_append_116 r88 I l0 l1 l3 = some ρ) : po_V X G 5 (po_Q X G (po_oi (ρ.1)) K R (ρ.2) none 1 6) 0 0 116 [(0, .ref l0), (1, .int l1), (3, .int l3)] [] K R I none := by
  unfold m_X7_append_116 at hm
  refine po_iinc (v := l3 + (-8)) (L' := [(3, .int (l3 + (-8))), (0, .ref l0), (1, .int l1)]) hF dX7_append_116 rfl rfl (by decide) rfl ?_
  refine po_goto (tgt := 88) hF dX7_append_119 (by decide) ?_
  refine po_sub (L' := [(0, .ref l0), (1, .int l1), (3, .int (l3 + (-8)))]) rfl ?_
  exact h88 I l0 l1 (l3 + (-8)) hm kl0
set_option maxRecDepth 20000 in
set_option maxHeartbeats 2000000 in
theorem w_X7_append_88 {X : po_X} {G : po_G} {st : Nat → Nat} {K : po_K} {R : po_R} {ρ : (Int32 ⊕ String) × po_I} {r88 : po_I → Nat → Int32 → Int32 → Option ((Int32 ⊕ String) × po_I)} (hF : po_F X G cX7_append RX7 5 st) (hL : po_L X (some .int) 6 1 6 "append") (HL : po_Lay K R st) (h88 : ∀ (I : po_I) (l0 : Nat) (l1 : Int32) (l3 : Int32), r88 I l0 l1 l3 = some ρ → K l0 = (18, 8) → po_V X G 5 (po_Q X G (po_oi (ρ.1)) K R (ρ.2) none 1 6) 0 0 88 [(0, .ref l0), (1, .int l1), (3, .int l3)] [] K R I none) (I : po_I) (l0 : Nat) (l1 : Int32) (l3 : Int32) (kl0 : K l0 = (18, 8)) (hm : m_X7_append_88 r88 I l0 l1 l3 = some ρ) : po_V X G 5 (po_Q X G (po_oi (ρ.1)) K R (ρ.2) none 1 6) 0 0 88 [(0, .ref l0), (1, .int l1), (3, .int l3)] [] K R I none := by
  unfold m_X7_append_88 at hm
  refine po_iload_n hF dX7_append_88 rfl rfl ?_
  refine po_if_lt (tgt := 122) hF dX7_append_89 (by decide) hm (fun hm => ?_) (fun hm => ?_)
  · refine po_aload_n hF dX7_append_122 rfl rfl ?_
    refine po_getf (v := .ref (l0 + 1)) hF dX7_append_123 fl_X7_10 kl0 (ly_7_0 HL kl0).1 ?_
    refine po_getf (v := .int (I (l0 + 1) 1)) hF dX7_append_126 fl_X7_55 ((ly_7_0 HL kl0).2) rfl ?_
    cases hm
    exact po_iret hF hL dX7_append_129 (by decide) (by decide) rfl rfl rfl (Or.inl rfl)
  · refine po_iload_n hF dX7_append_92 rfl rfl ?_
    refine po_iload_n hF dX7_append_93 rfl rfl ?_
    refine po_iushr hF dX7_append_94 ?_
    refine po_sipush (v := 255) hF dX7_append_95 (by decide) ?_
    refine po_iand hF dX7_append_98 ?_
    refine po_top hm (fun v1 hm => ?_)
    refine po_istore (L' := [(4, .int v1), (0, .ref l0), (1, .int l1), (3, .int l3)]) hF dX7_append_99 (by decide) rfl ?_
    refine po_iload hF dX7_append_101 rfl ?_
    refine po_if_eq (tgt := 116) hF dX7_append_103 (by decide) hm (fun hm => ?_) (fun hm => ?_)
    · refine po_sub (L' := [(0, .ref l0), (1, .int l1), (3, .int l3)]) rfl ?_
      exact w_X7_append_116 hF hL HL h88 I l0 l1 l3 kl0 hm
    · refine po_aload_n hF dX7_append_106 rfl rfl ?_
      refine po_getf (v := .ref (l0 + 1)) hF dX7_append_107 fl_X7_10 kl0 (ly_7_0 HL kl0).1 ?_
      refine po_iload hF dX7_append_110 rfl ?_
      refine po_i2c hF dX7_append_112 ?_
      obtain ⟨x2, hx2, hm⟩ := po_bind hm
      refine po_callV (As := [.int ((Int32.toUInt32 v1 % 65536).toInt32)]) hF dX7_append_113 wq_541 mv_X3_addCharacter ws_X3_addCharacter (show po_cl[3]? = some _ from rfl) rfl ((ly_7_0 HL kl0).2) (c_X3_addCharacter HL ((ly_7_0 HL kl0).2) hx2) rfl (po_rtL hL rfl) (Nat.le_of_ble_eq_true rfl) rfl ?_
      refine po_sub (L' := [(0, .ref l0), (1, .int l1), (3, .int l3)]) rfl ?_
      exact w_X7_append_116 hF hL HL h88 x2 l0 l1 l3 kl0 hm
theorem w_X7_append_88L {X : po_X} {G : po_G} {st : Nat → Nat} {K : po_K} {R : po_R} {ρ : (Int32 ⊕ String) × po_I} (hF : po_F X G cX7_append RX7 5 st) (hL : po_L X (some .int) 6 1 6 "append") (HL : po_Lay K R st) : ∀ (n : Nat) (I : po_I) (l0 : Nat) (l1 : Int32) (l3 : Int32), m_X7_append_88L n I l0 l1 l3 = some ρ → K l0 = (18, 8) → po_V X G 5 (po_Q X G (po_oi (ρ.1)) K R (ρ.2) none 1 6) 0 0 88 [(0, .ref l0), (1, .int l1), (3, .int l3)] [] K R I none := by
  intro n
  induction n with
  | zero => intro I l0 l1 l3 hm; cases hm
  | succ n ih => intro I l0 l1 l3 hm kl0; exact w_X7_append_88 hF hL HL (ih) I l0 l1 l3 kl0 hm
set_option maxRecDepth 20000 in
set_option maxHeartbeats 2000000 in
theorem w_X7_append_55 {X : po_X} {G : po_G} {st : Nat → Nat} {K : po_K} {R : po_R} {ρ : (Int32 ⊕ String) × po_I} {r5 : po_I → Nat → Int32 → Int32 → Int32 → Option ((Int32 ⊕ String) × po_I)} (hF : po_F X G cX7_append RX7 5 st) (hL : po_L X (some .int) 6 1 6 "append") (HL : po_Lay K R st) (h5 : ∀ (I : po_I) (l0 : Nat) (l1 : Int32) (l2 : Int32) (l3 : Int32), r5 I l0 l1 l2 l3 = some ρ → K l0 = (18, 8) → po_V X G 5 (po_Q X G (po_oi (ρ.1)) K R (ρ.2) none 1 6) 0 0 5 [(0, .ref l0), (1, .int l1), (2, .int l2), (3, .int l3)] [] K R I none) (I : po_I) (l0 : Nat) (l1 : Int32) (l2 : Int32) (l3 : Int32) (kl0 : K l0 = (18, 8)) (hm : m_X7_append_55 r5 I l0 l1 l2 l3 = some ρ) : po_V X G 5 (po_Q X G (po_oi (ρ.1)) K R (ρ.2) none 1 6) 0 0 55 [(0, .ref l0), (1, .int l1), (2, .int l2), (3, .int l3)] [] K R I none := by
  unfold m_X7_append_55 at hm
  refine po_iinc (v := l3 + (-8)) (L' := [(3, .int (l3 + (-8))), (0, .ref l0), (1, .int l1), (2, .int l2)]) hF dX7_append_55 rfl rfl (by decide) rfl ?_
  refine po_goto (tgt := 5) hF dX7_append_58 (by decide) ?_
  refine po_sub (L' := [(0, .ref l0), (1, .int l1), (2, .int l2), (3, .int (l3 + (-8)))]) rfl ?_
  exact h5 I l0 l1 l2 (l3 + (-8)) hm kl0
set_option maxRecDepth 20000 in
set_option maxHeartbeats 2000000 in
theorem w_X7_append_47 {X : po_X} {G : po_G} {st : Nat → Nat} {K : po_K} {R : po_R} {ρ : (Int32 ⊕ String) × po_I} {r5 : po_I → Nat → Int32 → Int32 → Int32 → Option ((Int32 ⊕ String) × po_I)} (hF : po_F X G cX7_append RX7 5 st) (hL : po_L X (some .int) 6 1 6 "append") (HL : po_Lay K R st) (h5 : ∀ (I : po_I) (l0 : Nat) (l1 : Int32) (l2 : Int32) (l3 : Int32), r5 I l0 l1 l2 l3 = some ρ → K l0 = (18, 8) → po_V X G 5 (po_Q X G (po_oi (ρ.1)) K R (ρ.2) none 1 6) 0 0 5 [(0, .ref l0), (1, .int l1), (2, .int l2), (3, .int l3)] [] K R I none) (I : po_I) (l0 : Nat) (l1 : Int32) (l2 : Int32) (l3 : Int32) (l4 : Int32) (kl0 : K l0 = (18, 8)) (hm : m_X7_append_47 r5 I l0 l1 l2 l3 l4 = some ρ) : po_V X G 5 (po_Q X G (po_oi (ρ.1)) K R (ρ.2) none 1 6) 0 0 47 [(0, .ref l0), (1, .int l1), (2, .int l2), (3, .int l3), (4, .int l4)] [] K R I none := by
  unfold m_X7_append_47 at hm
  refine po_iload hF dX7_append_47 rfl ?_
  refine po_if_eq (tgt := 55) hF dX7_append_49 (by decide) hm (fun hm => ?_) (fun hm => ?_)
  · refine po_sub (L' := [(0, .ref l0), (1, .int l1), (2, .int l2), (3, .int l3)]) rfl ?_
    exact w_X7_append_55 hF hL HL h5 I l0 l1 l2 l3 kl0 hm
  · refine po_iinc (v := l2 + 1) (L' := [(2, .int (l2 + 1)), (0, .ref l0), (1, .int l1), (3, .int l3), (4, .int l4)]) hF dX7_append_52 rfl rfl (by decide) rfl ?_
    refine po_sub (L' := [(0, .ref l0), (1, .int l1), (2, .int (l2 + 1)), (3, .int l3)]) rfl ?_
    exact w_X7_append_55 hF hL HL h5 I l0 l1 (l2 + 1) l3 kl0 hm
set_option maxRecDepth 20000 in
set_option maxHeartbeats 2000000 in
theorem w_X7_append_37 {X : po_X} {G : po_G} {st : Nat → Nat} {K : po_K} {R : po_R} {ρ : (Int32 ⊕ String) × po_I} (hF : po_F X G cX7_append RX7 5 st) (hL : po_L X (some .int) 6 1 6 "append") (HL : po_Lay K R st) (I : po_I) (hm : m_X7_append_37 I = some ρ) : po_V X G 5 (po_Q X G (po_oi (ρ.1)) K R (ρ.2) none 1 6) 0 0 37 [] [] K R I none := by
  unfold m_X7_append_37 at hm
  cases hm
  exact po_throw hF hL tw_X7_50_52 dX7_append_37 dX7_append_40 dX7_append_41 dX7_append_43 dX7_append_46 (by decide) (Nat.le_of_ble_eq_true rfl) (by decide) (by decide) rfl rfl rfl
set_option maxRecDepth 20000 in
set_option maxHeartbeats 2000000 in
theorem w_X7_append_5 {X : po_X} {G : po_G} {st : Nat → Nat} {K : po_K} {R : po_R} {ρ : (Int32 ⊕ String) × po_I} {r5 : po_I → Nat → Int32 → Int32 → Int32 → Option ((Int32 ⊕ String) × po_I)} (hF : po_F X G cX7_append RX7 5 st) (hL : po_L X (some .int) 6 1 6 "append") (HL : po_Lay K R st) (h5 : ∀ (I : po_I) (l0 : Nat) (l1 : Int32) (l2 : Int32) (l3 : Int32), r5 I l0 l1 l2 l3 = some ρ → K l0 = (18, 8) → po_V X G 5 (po_Q X G (po_oi (ρ.1)) K R (ρ.2) none 1 6) 0 0 5 [(0, .ref l0), (1, .int l1), (2, .int l2), (3, .int l3)] [] K R I none) (I : po_I) (l0 : Nat) (l1 : Int32) (l2 : Int32) (l3 : Int32) (kl0 : K l0 = (18, 8)) (hm : m_X7_append_5 r5 I l0 l1 l2 l3 = some ρ) : po_V X G 5 (po_Q X G (po_oi (ρ.1)) K R (ρ.2) none 1 6) 0 0 5 [(0, .ref l0), (1, .int l1), (2, .int l2), (3, .int l3)] [] K R I none := by
  unfold m_X7_append_5 at hm
  refine po_iload_n hF dX7_append_5 rfl rfl ?_
  refine po_if_lt (tgt := 61) hF dX7_append_6 (by decide) hm (fun hm => ?_) (fun hm => ?_)
  · refine po_aload_n hF dX7_append_61 rfl rfl ?_
    refine po_getf (v := .ref (l0 + 1)) hF dX7_append_62 fl_X7_10 kl0 (ly_7_0 HL kl0).1 ?_
    refine po_getf (v := .int (I (l0 + 1) 1)) hF dX7_append_65 fl_X7_55 ((ly_7_0 HL kl0).2) rfl ?_
    refine po_iload_n hF dX7_append_68 rfl rfl ?_
    refine po_iadd hF dX7_append_69 ?_
    refine po_bipush (v := 60) hF dX7_append_70 (by decide) ?_
    refine po_icmp_le (tgt := 85) hF dX7_append_72 (by decide) hm (fun hm => ?_) (fun hm => ?_)
    · refine po_bipush (v := 24) hF dX7_append_85 (by decide) ?_
      refine po_istore_n (L' := [(3, .int 24), (0, .ref l0), (1, .int l1), (2, .int l2)]) hF dX7_append_87 rfl (by decide) rfl ?_
      refine po_sub (L' := [(0, .ref l0), (1, .int l1), (3, .int 24)]) rfl ?_
      exact w_X7_append_88L hF hL HL 5000 I l0 l1 24 hm kl0
    · cases hm
      exact po_throw hF hL tw_X7_60_62 dX7_append_75 dX7_append_78 dX7_append_79 dX7_append_81 dX7_append_84 (by decide) (Nat.le_of_ble_eq_true rfl) (by decide) (by decide) rfl rfl rfl
  · refine po_iload_n hF dX7_append_9 rfl rfl ?_
    refine po_iload_n hF dX7_append_10 rfl rfl ?_
    refine po_iushr hF dX7_append_11 ?_
    refine po_sipush (v := 255) hF dX7_append_12 (by decide) ?_
    refine po_iand hF dX7_append_15 ?_
    refine po_top hm (fun v3 hm => ?_)
    refine po_istore (L' := [(4, .int v3), (0, .ref l0), (1, .int l1), (2, .int l2), (3, .int l3)]) hF dX7_append_16 (by decide) rfl ?_
    refine po_iload hF dX7_append_18 rfl ?_
    refine po_if_eq (tgt := 47) hF dX7_append_20 (by decide) hm (fun hm => ?_) (fun hm => ?_)
    · refine po_sub (L' := [(0, .ref l0), (1, .int l1), (2, .int l2), (3, .int l3), (4, .int v3)]) rfl ?_
      exact w_X7_append_47 hF hL HL h5 I l0 l1 l2 l3 v3 kl0 hm
    · refine po_iload hF dX7_append_23 rfl ?_
      refine po_bipush (v := 33) hF dX7_append_25 (by decide) ?_
      refine po_icmp_lt (tgt := 37) hF dX7_append_27 (by decide) hm (fun hm => ?_) (fun hm => ?_)
      · refine po_sub (L' := []) rfl ?_
        exact w_X7_append_37 hF hL HL I hm
      · refine po_iload hF dX7_append_30 rfl ?_
        refine po_bipush (v := 126) hF dX7_append_32 (by decide) ?_
        refine po_icmp_le (tgt := 47) hF dX7_append_34 (by decide) hm (fun hm => ?_) (fun hm => ?_)
        · refine po_sub (L' := [(0, .ref l0), (1, .int l1), (2, .int l2), (3, .int l3), (4, .int v3)]) rfl ?_
          exact w_X7_append_47 hF hL HL h5 I l0 l1 l2 l3 v3 kl0 hm
        · refine po_sub (L' := []) rfl ?_
          exact w_X7_append_37 hF hL HL I hm
theorem w_X7_append_5L {X : po_X} {G : po_G} {st : Nat → Nat} {K : po_K} {R : po_R} {ρ : (Int32 ⊕ String) × po_I} (hF : po_F X G cX7_append RX7 5 st) (hL : po_L X (some .int) 6 1 6 "append") (HL : po_Lay K R st) : ∀ (n : Nat) (I : po_I) (l0 : Nat) (l1 : Int32) (l2 : Int32) (l3 : Int32), m_X7_append_5L n I l0 l1 l2 l3 = some ρ → K l0 = (18, 8) → po_V X G 5 (po_Q X G (po_oi (ρ.1)) K R (ρ.2) none 1 6) 0 0 5 [(0, .ref l0), (1, .int l1), (2, .int l2), (3, .int l3)] [] K R I none := by
  intro n
  induction n with
  | zero => intro I l0 l1 l2 l3 hm; cases hm
  | succ n ih => intro I l0 l1 l2 l3 hm kl0; exact w_X7_append_5 hF hL HL (ih) I l0 l1 l2 l3 kl0 hm
set_option maxRecDepth 20000 in
set_option maxHeartbeats 2000000 in
theorem w_X7_append_e {X : po_X} {G : po_G} {st : Nat → Nat} {K : po_K} {R : po_R} {ρ : (Int32 ⊕ String) × po_I} (hF : po_F X G cX7_append RX7 5 st) (hL : po_L X (some .int) 6 1 6 "append") (HL : po_Lay K R st) (I : po_I) (l0 : Nat) (l1 : Int32) (kl0 : K l0 = (18, 8)) (hm : m_X7_append_e I l0 l1 = some ρ) : po_V X G 5 (po_Q X G (po_oi (ρ.1)) K R (ρ.2) none 1 6) 0 0 0 [(0, .ref l0), (1, .int l1)] [] K R I none := by
  unfold m_X7_append_e at hm
  refine po_iconst (v := 0) hF dX7_append_0 (by decide) ?_
  refine po_istore_n (L' := [(2, .int 0), (0, .ref l0), (1, .int l1)]) hF dX7_append_1 rfl (by decide) rfl ?_
  refine po_bipush (v := 24) hF dX7_append_2 (by decide) ?_
  refine po_istore_n (L' := [(3, .int 24), (2, .int 0), (0, .ref l0), (1, .int l1)]) hF dX7_append_4 rfl (by decide) rfl ?_
  refine po_sub (L' := [(0, .ref l0), (1, .int l1), (2, .int 0), (3, .int 24)]) rfl ?_
  exact w_X7_append_5L hF hL HL 5000 I l0 l1 0 24 hm kl0
theorem c_X7_append {K : po_K} {R : po_R} {I : po_I} {st : Nat → Nat} {ρ : (Int32 ⊕ String) × po_I} (HL : po_Lay K R st) {l0 : Nat} {l1 : Int32} (kl0 : K l0 = (18, 8)) (hm : m_X7_append I l0 l1 = some ρ) : po_C st yX7_append cX7_append 5 (some .int) 6 1 6 [.ref l0, .int l1] K R I none (po_oi (ρ.1)) K R (ρ.2) none := by
  refine po_ofC (by decide +kernel) (Nat.le_of_ble_eq_true rfl) (fun X G hF hL => ?_)
  exact w_X7_append_e hF hL HL I l0 l1 kl0 hm
set_option maxRecDepth 20000 in
set_option maxHeartbeats 2000000 in
theorem w_X0_copyFrom_e {X : po_X} {G : po_G} {st : Nat → Nat} {K : po_K} {R : po_R} {ρ : po_I} (hF : po_F X G cX0_copyFrom RX0 2 st) (hL : po_L X none 1 0 0 "copyFrom") (HL : po_Lay K R st) (I : po_I) (l0 : Nat) (l1 : Nat) (kl0 : K l0 = (11, 1)) (kl1 : K l1 = (11, 1)) (hm : m_X0_copyFrom_e I l0 l1 = some ρ) : po_V X G 2 (po_Q X G (.inl (none)) K R (ρ) none 0 0) 0 0 0 [(0, .ref l0), (1, .ref l1)] [] K R I none := by
  unfold m_X0_copyFrom_e at hm
  refine po_aload_n hF dX0_copyFrom_0 rfl rfl ?_
  refine po_getf (v := .ref (l1 + 1)) hF dX0_copyFrom_1 fl_X0_9 kl1 (ly_0_0 HL kl1).1 ?_
  refine po_iconst (v := 0) hF dX0_copyFrom_4 (by decide) ?_
  refine po_aload_n hF dX0_copyFrom_5 rfl rfl ?_
  refine po_getf (v := .ref (l0 + 1)) hF dX0_copyFrom_6 fl_X0_9 kl0 (ly_0_0 HL kl0).1 ?_
  refine po_iconst (v := 0) hF dX0_copyFrom_9 (by decide) ?_
  refine po_bipush (v := 14) hF dX0_copyFrom_10 (by decide) ?_
  refine po_acopy (m := 14) hF hL dX0_copyFrom_12 wq_434 ⟨wq_425, wq_424, wq_104⟩ ((ly_0_0 HL kl1).2) ((ly_0_0 HL kl0).2) (by decide) (by decide) (by decide) (by decide) (Nat.le_of_ble_eq_true rfl) (by decide) rfl ?_
  refine po_hname hm (fun I1 hm => ?_)
  cases hm
  exact po_vret hF hL dX0_copyFrom_15 (by decide) (by decide) rfl rfl rfl (Or.inl rfl)
theorem c_X0_copyFrom {K : po_K} {R : po_R} {I : po_I} {st : Nat → Nat} {ρ : po_I} (HL : po_Lay K R st) {l0 : Nat} {l1 : Nat} (kl0 : K l0 = (11, 1)) (kl1 : K l1 = (11, 1)) (hm : m_X0_copyFrom I l0 l1 = some ρ) : po_C st yX0_copyFrom cX0_copyFrom 2 none 1 0 0 [.ref l0, .ref l1] K R I none (.inl (none)) K R (ρ) none := by
  refine po_ofC (by decide +kernel) (Nat.le_of_ble_eq_true rfl) (fun X G hF hL => ?_)
  exact w_X0_copyFrom_e hF hL HL I l0 l1 kl0 kl1 hm
set_option maxRecDepth 20000 in
set_option maxHeartbeats 2000000 in
theorem w_X1_copyFrom_e {X : po_X} {G : po_G} {st : Nat → Nat} {K : po_K} {R : po_R} {ρ : po_I} (hF : po_F X G cX1_copyFrom RX1 2 st) (hL : po_L X none 2 0 0 "copyFrom") (HL : po_Lay K R st) (I : po_I) (l0 : Nat) (l1 : Nat) (kl0 : K l0 = (12, 4)) (kl1 : K l1 = (12, 4)) (hm : m_X1_copyFrom_e I l0 l1 = some ρ) : po_V X G 2 (po_Q X G (.inl (none)) K R (ρ) none 0 0) 0 0 0 [(0, .ref l0), (1, .ref l1)] [] K R I none := by
  unfold m_X1_copyFrom_e at hm
  refine po_aload_n hF dX1_copyFrom_0 rfl rfl ?_
  refine po_aload_n hF dX1_copyFrom_1 rfl rfl ?_
  refine po_getf (v := .int (I l1 0)) hF dX1_copyFrom_2 fl_X1_16 kl1 rfl ?_
  refine po_puti hF dX1_copyFrom_5 fl_X1_16 kl0 (by intro r h; cases h; rfl) rfl rfl (fun _ => rfl) rfl ?_
  refine po_hname hm (fun I1 hm => ?_)
  refine po_aload_n hF dX1_copyFrom_8 rfl rfl ?_
  refine po_aload_n hF dX1_copyFrom_9 rfl rfl ?_
  refine po_getf (v := .int (I1 l1 1)) hF dX1_copyFrom_10 fl_X1_20 kl1 rfl ?_
  refine po_puti hF dX1_copyFrom_13 fl_X1_20 kl0 (by intro r h; cases h; rfl) rfl rfl (fun _ => rfl) rfl ?_
  refine po_hname hm (fun I2 hm => ?_)
  refine po_aload_n hF dX1_copyFrom_16 rfl rfl ?_
  refine po_getf (v := .ref (l0 + 1)) hF dX1_copyFrom_17 fl_X1_10 kl0 (ly_1_2 HL kl0).1 ?_
  refine po_aload_n hF dX1_copyFrom_20 rfl rfl ?_
  refine po_getf (v := .ref (l1 + 1)) hF dX1_copyFrom_21 fl_X1_10 kl1 (ly_1_2 HL kl1).1 ?_
  obtain ⟨x3, hx3, hm⟩ := po_bind hm
  refine po_callV (As := [.ref (l1 + 1)]) hF dX1_copyFrom_24 wq_430 mv_X0_copyFrom ws_X0_copyFrom (show po_cl[0]? = some _ from rfl) rfl ((ly_1_2 HL kl0).2) (c_X0_copyFrom HL ((ly_1_2 HL kl0).2) ((ly_1_2 HL kl1).2) hx3) rfl (po_rtL hL rfl) (Nat.le_of_ble_eq_true rfl) rfl ?_
  refine po_aload_n hF dX1_copyFrom_27 rfl rfl ?_
  refine po_aload_n hF dX1_copyFrom_28 rfl rfl ?_
  refine po_getf (v := .int (x3 l1 3)) hF dX1_copyFrom_29 fl_X1_27 kl1 rfl ?_
  refine po_puti hF dX1_copyFrom_32 fl_X1_27 kl0 (by intro r h; cases h; rfl) rfl rfl (fun _ => rfl) rfl ?_
  refine po_hname hm (fun I4 hm => ?_)
  cases hm
  exact po_vret hF hL dX1_copyFrom_35 (by decide) (by decide) rfl rfl rfl (Or.inl rfl)
theorem c_X1_copyFrom {K : po_K} {R : po_R} {I : po_I} {st : Nat → Nat} {ρ : po_I} (HL : po_Lay K R st) {l0 : Nat} {l1 : Nat} (kl0 : K l0 = (12, 4)) (kl1 : K l1 = (12, 4)) (hm : m_X1_copyFrom I l0 l1 = some ρ) : po_C st yX1_copyFrom cX1_copyFrom 2 none 2 0 0 [.ref l0, .ref l1] K R I none (.inl (none)) K R (ρ) none := by
  refine po_ofC (by decide +kernel) (Nat.le_of_ble_eq_true rfl) (fun X G hF hL => ?_)
  exact w_X1_copyFrom_e hF hL HL I l0 l1 kl0 kl1 hm
set_option maxRecDepth 20000 in
set_option maxHeartbeats 2000000 in
theorem w_X2_copyFrom_e {X : po_X} {G : po_G} {st : Nat → Nat} {K : po_K} {R : po_R} {ρ : po_I} (hF : po_F X G cX2_copyFrom RX2 2 st) (hL : po_L X none 2 0 0 "copyFrom") (HL : po_Lay K R st) (I : po_I) (l0 : Nat) (l1 : Nat) (kl0 : K l0 = (13, 19)) (kl1 : K l1 = (13, 19)) (hm : m_X2_copyFrom_e I l0 l1 = some ρ) : po_V X G 2 (po_Q X G (.inl (none)) K R (ρ) none 0 0) 0 0 0 [(0, .ref l0), (1, .ref l1)] [] K R I none := by
  unfold m_X2_copyFrom_e at hm
  refine po_aload_n hF dX2_copyFrom_0 rfl rfl ?_
  refine po_aload_n hF dX2_copyFrom_1 rfl rfl ?_
  refine po_getf (v := .int (I l1 0)) hF dX2_copyFrom_2 fl_X2_25 kl1 rfl ?_
  refine po_puti hF dX2_copyFrom_5 fl_X2_25 kl0 (by intro r h; cases h; rfl) rfl rfl (fun _ => rfl) rfl ?_
  refine po_hname hm (fun I1 hm => ?_)
  refine po_aload_n hF dX2_copyFrom_8 rfl rfl ?_
  refine po_aload_n hF dX2_copyFrom_9 rfl rfl ?_
  refine po_getf (v := .int (I1 l1 1)) hF dX2_copyFrom_10 fl_X2_29 kl1 rfl ?_
  refine po_puti hF dX2_copyFrom_13 fl_X2_29 kl0 (by intro r h; cases h; rfl) rfl rfl (fun _ => rfl) rfl ?_
  refine po_hname hm (fun I2 hm => ?_)
  refine po_aload_n hF dX2_copyFrom_16 rfl rfl ?_
  refine po_aload_n hF dX2_copyFrom_17 rfl rfl ?_
  refine po_getf (v := .int (I2 l1 2)) hF dX2_copyFrom_18 fl_X2_32 kl1 rfl ?_
  refine po_puti hF dX2_copyFrom_21 fl_X2_32 kl0 (by intro r h; cases h; rfl) rfl rfl (fun _ => rfl) rfl ?_
  refine po_hname hm (fun I3 hm => ?_)
  refine po_aload_n hF dX2_copyFrom_24 rfl rfl ?_
  refine po_aload_n hF dX2_copyFrom_25 rfl rfl ?_
  refine po_getf (v := .int (I3 l1 3)) hF dX2_copyFrom_26 fl_X2_35 kl1 rfl ?_
  refine po_puti hF dX2_copyFrom_29 fl_X2_35 kl0 (by intro r h; cases h; rfl) rfl rfl (fun _ => rfl) rfl ?_
  refine po_hname hm (fun I4 hm => ?_)
  refine po_aload_n hF dX2_copyFrom_32 rfl rfl ?_
  refine po_getf (v := .ref (l0 + 1)) hF dX2_copyFrom_33 fl_X2_12 kl0 (ly_2_4 HL kl0).1 ?_
  refine po_aload_n hF dX2_copyFrom_36 rfl rfl ?_
  refine po_getf (v := .ref (l1 + 1)) hF dX2_copyFrom_37 fl_X2_12 kl1 (ly_2_4 HL kl1).1 ?_
  obtain ⟨x5, hx5, hm⟩ := po_bind hm
  refine po_callV (As := [.ref (l1 + 1)]) hF dX2_copyFrom_40 wq_439 mv_X0_copyFrom ws_X0_copyFrom (show po_cl[0]? = some _ from rfl) rfl ((ly_2_4 HL kl0).2) (c_X0_copyFrom HL ((ly_2_4 HL kl0).2) ((ly_2_4 HL kl1).2) hx5) rfl (po_rtL hL rfl) (Nat.le_of_ble_eq_true rfl) rfl ?_
  refine po_aload_n hF dX2_copyFrom_43 rfl rfl ?_
  refine po_aload_n hF dX2_copyFrom_44 rfl rfl ?_
  refine po_getf (v := .int (x5 l1 5)) hF dX2_copyFrom_45 fl_X2_41 kl1 rfl ?_
  refine po_puti hF dX2_copyFrom_48 fl_X2_41 kl0 (by intro r h; cases h; rfl) rfl rfl (fun _ => rfl) rfl ?_
  refine po_hname hm (fun I6 hm => ?_)
  refine po_aload_n hF dX2_copyFrom_51 rfl rfl ?_
  refine po_aload_n hF dX2_copyFrom_52 rfl rfl ?_
  refine po_getf (v := .int (I6 l1 6)) hF dX2_copyFrom_53 fl_X2_44 kl1 rfl ?_
  refine po_puti hF dX2_copyFrom_56 fl_X2_44 kl0 (by intro r h; cases h; rfl) rfl rfl (fun _ => rfl) rfl ?_
  refine po_hname hm (fun I7 hm => ?_)
  refine po_aload_n hF dX2_copyFrom_59 rfl rfl ?_
  refine po_aload_n hF dX2_copyFrom_60 rfl rfl ?_
  refine po_getf (v := .int (I7 l1 7)) hF dX2_copyFrom_61 fl_X2_47 kl1 rfl ?_
  refine po_puti hF dX2_copyFrom_64 fl_X2_47 kl0 (by intro r h; cases h; rfl) rfl rfl (fun _ => rfl) rfl ?_
  refine po_hname hm (fun I8 hm => ?_)
  refine po_aload_n hF dX2_copyFrom_67 rfl rfl ?_
  refine po_aload_n hF dX2_copyFrom_68 rfl rfl ?_
  refine po_getf (v := .int (I8 l1 8)) hF dX2_copyFrom_69 fl_X2_50 kl1 rfl ?_
  refine po_puti hF dX2_copyFrom_72 fl_X2_50 kl0 (by intro r h; cases h; rfl) rfl rfl (fun _ => rfl) rfl ?_
  refine po_hname hm (fun I9 hm => ?_)
  refine po_aload_n hF dX2_copyFrom_75 rfl rfl ?_
  refine po_aload_n hF dX2_copyFrom_76 rfl rfl ?_
  refine po_getf (v := .int (I9 l1 9)) hF dX2_copyFrom_77 fl_X2_53 kl1 rfl ?_
  refine po_puti hF dX2_copyFrom_80 fl_X2_53 kl0 (by intro r h; cases h; rfl) rfl rfl (fun _ => rfl) rfl ?_
  refine po_hname hm (fun I10 hm => ?_)
  refine po_aload_n hF dX2_copyFrom_83 rfl rfl ?_
  refine po_aload_n hF dX2_copyFrom_84 rfl rfl ?_
  refine po_getf (v := .int (I10 l1 10)) hF dX2_copyFrom_85 fl_X2_56 kl1 rfl ?_
  refine po_puti hF dX2_copyFrom_88 fl_X2_56 kl0 (by intro r h; cases h; rfl) rfl rfl (fun _ => rfl) rfl ?_
  refine po_hname hm (fun I11 hm => ?_)
  refine po_aload_n hF dX2_copyFrom_91 rfl rfl ?_
  refine po_aload_n hF dX2_copyFrom_92 rfl rfl ?_
  refine po_getf (v := .int (vp_nar .boolean (I11 l1 11))) hF dX2_copyFrom_93 fl_X2_59 kl1 rfl ?_
  refine po_putz hF dX2_copyFrom_96 fl_X2_59 kl0 (by intro r h; cases h; rfl) rfl (po_nb _) rfl ?_
  refine po_hname hm (fun I12 hm => ?_)
  refine po_aload_n hF dX2_copyFrom_99 rfl rfl ?_
  refine po_aload_n hF dX2_copyFrom_100 rfl rfl ?_
  refine po_getf (v := .int (I12 l1 12)) hF dX2_copyFrom_101 fl_X2_63 kl1 rfl ?_
  refine po_puti hF dX2_copyFrom_104 fl_X2_63 kl0 (by intro r h; cases h; rfl) rfl rfl (fun _ => rfl) rfl ?_
  refine po_hname hm (fun I13 hm => ?_)
  refine po_aload_n hF dX2_copyFrom_107 rfl rfl ?_
  refine po_aload_n hF dX2_copyFrom_108 rfl rfl ?_
  refine po_getf (v := .int (I13 l1 13)) hF dX2_copyFrom_109 fl_X2_66 kl1 rfl ?_
  refine po_puti hF dX2_copyFrom_112 fl_X2_66 kl0 (by intro r h; cases h; rfl) rfl rfl (fun _ => rfl) rfl ?_
  refine po_hname hm (fun I14 hm => ?_)
  refine po_aload_n hF dX2_copyFrom_115 rfl rfl ?_
  refine po_aload_n hF dX2_copyFrom_116 rfl rfl ?_
  refine po_getf (v := .int (I14 l1 14)) hF dX2_copyFrom_117 fl_X2_69 kl1 rfl ?_
  refine po_puti hF dX2_copyFrom_120 fl_X2_69 kl0 (by intro r h; cases h; rfl) rfl rfl (fun _ => rfl) rfl ?_
  refine po_hname hm (fun I15 hm => ?_)
  refine po_aload_n hF dX2_copyFrom_123 rfl rfl ?_
  refine po_aload_n hF dX2_copyFrom_124 rfl rfl ?_
  refine po_getf (v := .int (I15 l1 15)) hF dX2_copyFrom_125 fl_X2_72 kl1 rfl ?_
  refine po_puti hF dX2_copyFrom_128 fl_X2_72 kl0 (by intro r h; cases h; rfl) rfl rfl (fun _ => rfl) rfl ?_
  refine po_hname hm (fun I16 hm => ?_)
  refine po_aload_n hF dX2_copyFrom_131 rfl rfl ?_
  refine po_aload_n hF dX2_copyFrom_132 rfl rfl ?_
  refine po_getf (v := .int (I16 l1 16)) hF dX2_copyFrom_133 fl_X2_75 kl1 rfl ?_
  refine po_puti hF dX2_copyFrom_136 fl_X2_75 kl0 (by intro r h; cases h; rfl) rfl rfl (fun _ => rfl) rfl ?_
  refine po_hname hm (fun I17 hm => ?_)
  refine po_aload_n hF dX2_copyFrom_139 rfl rfl ?_
  refine po_getf (v := .ref (l1 + 3)) hF dX2_copyFrom_140 fl_X2_18 kl1 (ly_2_17 HL kl1).1 ?_
  refine po_iconst (v := 0) hF dX2_copyFrom_143 (by decide) ?_
  refine po_aload_n hF dX2_copyFrom_144 rfl rfl ?_
  refine po_getf (v := .ref (l0 + 3)) hF dX2_copyFrom_145 fl_X2_18 kl0 (ly_2_17 HL kl0).1 ?_
  refine po_iconst (v := 0) hF dX2_copyFrom_148 (by decide) ?_
  refine po_bipush (v := 6) hF dX2_copyFrom_149 (by decide) ?_
  refine po_acopy (m := 6) hF hL dX2_copyFrom_151 wq_440 ⟨wq_425, wq_424, wq_104⟩ ((ly_2_17 HL kl1).2) ((ly_2_17 HL kl0).2) (by decide) (by decide) (by decide) (by decide) (Nat.le_of_ble_eq_true rfl) (by decide) rfl ?_
  refine po_hname hm (fun I18 hm => ?_)
  refine po_aload_n hF dX2_copyFrom_154 rfl rfl ?_
  refine po_getf (v := .ref (l1 + 4)) hF dX2_copyFrom_155 fl_X2_22 kl1 (ly_2_18 HL kl1).1 ?_
  refine po_iconst (v := 0) hF dX2_copyFrom_158 (by decide) ?_
  refine po_aload_n hF dX2_copyFrom_159 rfl rfl ?_
  refine po_getf (v := .ref (l0 + 4)) hF dX2_copyFrom_160 fl_X2_22 kl0 (ly_2_18 HL kl0).1 ?_
  refine po_iconst (v := 0) hF dX2_copyFrom_163 (by decide) ?_
  refine po_bipush (v := 6) hF dX2_copyFrom_164 (by decide) ?_
  refine po_acopy (m := 6) hF hL dX2_copyFrom_166 wq_440 ⟨wq_425, wq_424, wq_104⟩ ((ly_2_18 HL kl1).2) ((ly_2_18 HL kl0).2) (by decide) (by decide) (by decide) (by decide) (Nat.le_of_ble_eq_true rfl) (by decide) rfl ?_
  refine po_hname hm (fun I19 hm => ?_)
  cases hm
  exact po_vret hF hL dX2_copyFrom_169 (by decide) (by decide) rfl rfl rfl (Or.inl rfl)
theorem c_X2_copyFrom {K : po_K} {R : po_R} {I : po_I} {st : Nat → Nat} {ρ : po_I} (HL : po_Lay K R st) {l0 : Nat} {l1 : Nat} (kl0 : K l0 = (13, 19)) (kl1 : K l1 = (13, 19)) (hm : m_X2_copyFrom I l0 l1 = some ρ) : po_C st yX2_copyFrom cX2_copyFrom 2 none 2 0 0 [.ref l0, .ref l1] K R I none (.inl (none)) K R (ρ) none := by
  refine po_ofC (by decide +kernel) (Nat.le_of_ble_eq_true rfl) (fun X G hF hL => ?_)
  exact w_X2_copyFrom_e hF hL HL I l0 l1 kl0 kl1 hm
set_option maxRecDepth 20000 in
set_option maxHeartbeats 2000000 in
theorem w_X6_copyFrom_e {X : po_X} {G : po_G} {st : Nat → Nat} {K : po_K} {R : po_R} {ρ : po_I} (hF : po_F X G cX6_copyFrom RX6 2 st) (hL : po_L X none 0 0 0 "copyFrom") (HL : po_Lay K R st) (I : po_I) (l0 : Nat) (l1 : Nat) (kl0 : K l0 = (17, 4)) (kl1 : K l1 = (17, 4)) (hm : m_X6_copyFrom_e I l0 l1 = some ρ) : po_V X G 2 (po_Q X G (.inl (none)) K R (ρ) none 0 0) 0 0 0 [(0, .ref l0), (1, .ref l1)] [] K R I none := by
  unfold m_X6_copyFrom_e at hm
  refine po_aload_n hF dX6_copyFrom_0 rfl rfl ?_
  refine po_aload_n hF dX6_copyFrom_1 rfl rfl ?_
  refine po_getf (v := .int (I l1 0)) hF dX6_copyFrom_2 fl_X6_7 kl1 rfl ?_
  refine po_puti hF dX6_copyFrom_5 fl_X6_7 kl0 (by intro r h; cases h; rfl) rfl rfl (fun _ => rfl) rfl ?_
  refine po_hname hm (fun I1 hm => ?_)
  refine po_aload_n hF dX6_copyFrom_8 rfl rfl ?_
  refine po_aload_n hF dX6_copyFrom_9 rfl rfl ?_
  refine po_getf (v := .int (I1 l1 1)) hF dX6_copyFrom_10 fl_X6_13 kl1 rfl ?_
  refine po_puti hF dX6_copyFrom_13 fl_X6_13 kl0 (by intro r h; cases h; rfl) rfl rfl (fun _ => rfl) rfl ?_
  refine po_hname hm (fun I2 hm => ?_)
  refine po_aload_n hF dX6_copyFrom_16 rfl rfl ?_
  refine po_aload_n hF dX6_copyFrom_17 rfl rfl ?_
  refine po_getf (v := .int (I2 l1 2)) hF dX6_copyFrom_18 fl_X6_16 kl1 rfl ?_
  refine po_puti hF dX6_copyFrom_21 fl_X6_16 kl0 (by intro r h; cases h; rfl) rfl rfl (fun _ => rfl) rfl ?_
  refine po_hname hm (fun I3 hm => ?_)
  refine po_aload_n hF dX6_copyFrom_24 rfl rfl ?_
  refine po_aload_n hF dX6_copyFrom_25 rfl rfl ?_
  refine po_getf (v := .int (I3 l1 3)) hF dX6_copyFrom_26 fl_X6_19 kl1 rfl ?_
  refine po_puti hF dX6_copyFrom_29 fl_X6_19 kl0 (by intro r h; cases h; rfl) rfl rfl (fun _ => rfl) rfl ?_
  refine po_hname hm (fun I4 hm => ?_)
  cases hm
  exact po_vret hF hL dX6_copyFrom_32 (by decide) (by decide) rfl rfl rfl (Or.inl rfl)
theorem c_X6_copyFrom {K : po_K} {R : po_R} {I : po_I} {st : Nat → Nat} {ρ : po_I} (HL : po_Lay K R st) {l0 : Nat} {l1 : Nat} (kl0 : K l0 = (17, 4)) (kl1 : K l1 = (17, 4)) (hm : m_X6_copyFrom I l0 l1 = some ρ) : po_C st yX6_copyFrom cX6_copyFrom 2 none 0 0 0 [.ref l0, .ref l1] K R I none (.inl (none)) K R (ρ) none := by
  refine po_ofC (by decide +kernel) (Nat.le_of_ble_eq_true rfl) (fun X G hF hL => ?_)
  exact w_X6_copyFrom_e hF hL HL I l0 l1 kl0 kl1 hm
set_option maxRecDepth 20000 in
set_option maxHeartbeats 2000000 in
theorem w_X5_copyFrom_111 {X : po_X} {G : po_G} {st : Nat → Nat} {K : po_K} {R : po_R} {ρ : po_I} {r111 : po_I → Nat → Nat → Int32 → Option (po_I)} (hF : po_F X G cX5_copyFrom RX5 3 st) (hL : po_L X none 3 0 0 "copyFrom") (HL : po_Lay K R st) (h111 : ∀ (I : po_I) (l0 : Nat) (l1 : Nat) (l2 : Int32), r111 I l0 l1 l2 = some ρ → K l0 = (16, 8) → K l1 = (16, 8) → po_V X G 3 (po_Q X G (.inl (none)) K R (ρ) none 0 0) 0 0 111 [(0, .ref l0), (1, .ref l1), (2, .int l2)] [] K R I none) (I : po_I) (l0 : Nat) (l1 : Nat) (l2 : Int32) (kl0 : K l0 = (16, 8)) (kl1 : K l1 = (16, 8)) (hm : m_X5_copyFrom_111 r111 I l0 l1 l2 = some ρ) : po_V X G 3 (po_Q X G (.inl (none)) K R (ρ) none 0 0) 0 0 111 [(0, .ref l0), (1, .ref l1), (2, .int l2)] [] K R I none := by
  unfold m_X5_copyFrom_111 at hm
  refine po_iload_n hF dX5_copyFrom_111 rfl rfl ?_
  refine po_aload_n hF dX5_copyFrom_112 rfl rfl ?_
  refine po_getf (v := .int (I l0 7)) hF dX5_copyFrom_113 fl_X5_43 kl0 rfl ?_
  refine po_icmp_ge (tgt := 140) hF dX5_copyFrom_116 (by decide) hm (fun hm => ?_) (fun hm => ?_)
  · cases hm
    exact po_vret hF hL dX5_copyFrom_140 (by decide) (by decide) rfl rfl rfl (Or.inl rfl)
  · refine po_aload_n hF dX5_copyFrom_119 rfl rfl ?_
    refine po_getf (v := .ref (l0 + 4)) hF dX5_copyFrom_120 fl_X5_39 kl0 (ly_5_6 HL kl0).1 ?_
    refine po_iload_n hF dX5_copyFrom_123 rfl rfl ?_
    refine po_aald hF dX5_copyFrom_124 ((ly_5_6 HL kl0).2) (Or.inr (Or.inr (Or.inl rfl))) hm (fun hi1 => (le_5_6 HL kl0 (po_in_lt hi1)).1) (fun hi1 hm => ?_)
    refine po_aload_n hF dX5_copyFrom_125 rfl rfl ?_
    refine po_getf (v := .ref (l1 + 4)) hF dX5_copyFrom_126 fl_X5_39 kl1 (ly_5_6 HL kl1).1 ?_
    refine po_iload_n hF dX5_copyFrom_129 rfl rfl ?_
    refine po_aald hF dX5_copyFrom_130 ((ly_5_6 HL kl1).2) (Or.inr (Or.inr (Or.inl rfl))) hm (fun hi2 => (le_5_6 HL kl1 (po_in_lt hi2)).1) (fun hi2 hm => ?_)
    obtain ⟨x3, hx3, hm⟩ := po_bind hm
    refine po_callV (As := [.ref (l1 + (79 + (Int32.toNatClampNeg l2)))]) hF dX5_copyFrom_131 wq_441 mv_X6_copyFrom ws_X6_copyFrom (show po_cl[6]? = some _ from rfl) rfl ((le_5_6 HL kl0 (po_in_lt hi1)).2) (c_X6_copyFrom HL ((le_5_6 HL kl0 (po_in_lt hi1)).2) ((le_5_6 HL kl1 (po_in_lt hi2)).2) hx3) rfl (po_rtL hL rfl) (Nat.le_of_ble_eq_true rfl) rfl ?_
    refine po_iinc (v := l2 + 1) (L' := [(2, .int (l2 + 1)), (0, .ref l0), (1, .ref l1)]) hF dX5_copyFrom_134 rfl rfl (by decide) rfl ?_
    refine po_goto (tgt := 111) hF dX5_copyFrom_137 (by decide) ?_
    refine po_sub (L' := [(0, .ref l0), (1, .ref l1), (2, .int (l2 + 1))]) rfl ?_
    exact h111 x3 l0 l1 (l2 + 1) hm kl0 kl1
theorem w_X5_copyFrom_111L {X : po_X} {G : po_G} {st : Nat → Nat} {K : po_K} {R : po_R} {ρ : po_I} (hF : po_F X G cX5_copyFrom RX5 3 st) (hL : po_L X none 3 0 0 "copyFrom") (HL : po_Lay K R st) : ∀ (n : Nat) (I : po_I) (l0 : Nat) (l1 : Nat) (l2 : Int32), m_X5_copyFrom_111L n I l0 l1 l2 = some ρ → K l0 = (16, 8) → K l1 = (16, 8) → po_V X G 3 (po_Q X G (.inl (none)) K R (ρ) none 0 0) 0 0 111 [(0, .ref l0), (1, .ref l1), (2, .int l2)] [] K R I none := by
  intro n
  induction n with
  | zero => intro I l0 l1 l2 hm; cases hm
  | succ n ih => intro I l0 l1 l2 hm kl0 kl1; exact w_X5_copyFrom_111 hF hL HL (ih) I l0 l1 l2 kl0 kl1 hm
set_option maxRecDepth 20000 in
set_option maxHeartbeats 2000000 in
theorem w_X5_copyFrom_72 {X : po_X} {G : po_G} {st : Nat → Nat} {K : po_K} {R : po_R} {ρ : po_I} {r72 : po_I → Nat → Nat → Int32 → Option (po_I)} (hF : po_F X G cX5_copyFrom RX5 3 st) (hL : po_L X none 3 0 0 "copyFrom") (HL : po_Lay K R st) (h72 : ∀ (I : po_I) (l0 : Nat) (l1 : Nat) (l2 : Int32), r72 I l0 l1 l2 = some ρ → K l0 = (16, 8) → K l1 = (16, 8) → po_V X G 3 (po_Q X G (.inl (none)) K R (ρ) none 0 0) 0 0 72 [(0, .ref l0), (1, .ref l1), (2, .int l2)] [] K R I none) (I : po_I) (l0 : Nat) (l1 : Nat) (l2 : Int32) (kl0 : K l0 = (16, 8)) (kl1 : K l1 = (16, 8)) (hm : m_X5_copyFrom_72 r72 I l0 l1 l2 = some ρ) : po_V X G 3 (po_Q X G (.inl (none)) K R (ρ) none 0 0) 0 0 72 [(0, .ref l0), (1, .ref l1), (2, .int l2)] [] K R I none := by
  unfold m_X5_copyFrom_72 at hm
  refine po_iload_n hF dX5_copyFrom_72 rfl rfl ?_
  refine po_aload_n hF dX5_copyFrom_73 rfl rfl ?_
  refine po_getf (v := .int (I l0 5)) hF dX5_copyFrom_74 fl_X5_34 kl0 rfl ?_
  refine po_icmp_ge (tgt := 101) hF dX5_copyFrom_77 (by decide) hm (fun hm => ?_) (fun hm => ?_)
  · refine po_aload_n hF dX5_copyFrom_101 rfl rfl ?_
    refine po_aload_n hF dX5_copyFrom_102 rfl rfl ?_
    refine po_getf (v := .int (I l1 7)) hF dX5_copyFrom_103 fl_X5_43 kl1 rfl ?_
    refine po_puti hF dX5_copyFrom_106 fl_X5_43 kl0 (by intro r h; cases h; rfl) rfl rfl (fun _ => rfl) rfl ?_
    refine po_hname hm (fun I4 hm => ?_)
    refine po_iconst (v := 0) hF dX5_copyFrom_109 (by decide) ?_
    refine po_istore_n (L' := [(2, .int 0), (0, .ref l0), (1, .ref l1)]) hF dX5_copyFrom_110 rfl (by decide) rfl ?_
    refine po_sub (L' := [(0, .ref l0), (1, .ref l1), (2, .int 0)]) rfl ?_
    exact w_X5_copyFrom_111L hF hL HL 5000 I4 l0 l1 0 hm kl0 kl1
  · refine po_aload_n hF dX5_copyFrom_80 rfl rfl ?_
    refine po_getf (v := .ref (l0 + 3)) hF dX5_copyFrom_81 fl_X5_30 kl0 (ly_5_4 HL kl0).1 ?_
    refine po_iload_n hF dX5_copyFrom_84 rfl rfl ?_
    refine po_aald hF dX5_copyFrom_85 ((ly_5_4 HL kl0).2) (Or.inr (Or.inl rfl)) hm (fun hi5 => (le_5_4 HL kl0 (po_in_lt hi5)).1) (fun hi5 hm => ?_)
    refine po_aload_n hF dX5_copyFrom_86 rfl rfl ?_
    refine po_getf (v := .ref (l1 + 3)) hF dX5_copyFrom_87 fl_X5_30 kl1 (ly_5_4 HL kl1).1 ?_
    refine po_iload_n hF dX5_copyFrom_90 rfl rfl ?_
    refine po_aald hF dX5_copyFrom_91 ((ly_5_4 HL kl1).2) (Or.inr (Or.inl rfl)) hm (fun hi6 => (le_5_4 HL kl1 (po_in_lt hi6)).1) (fun hi6 hm => ?_)
    obtain ⟨x7, hx7, hm⟩ := po_bind hm
    refine po_callV (As := [.ref (l1 + (29 + 5 * (Int32.toNatClampNeg l2)))]) hF dX5_copyFrom_92 wq_435 mv_X2_copyFrom ws_X2_copyFrom (show po_cl[2]? = some _ from rfl) rfl ((le_5_4 HL kl0 (po_in_lt hi5)).2) (c_X2_copyFrom HL ((le_5_4 HL kl0 (po_in_lt hi5)).2) ((le_5_4 HL kl1 (po_in_lt hi6)).2) hx7) rfl (po_rtL hL rfl) (Nat.le_of_ble_eq_true rfl) rfl ?_
    refine po_iinc (v := l2 + 1) (L' := [(2, .int (l2 + 1)), (0, .ref l0), (1, .ref l1)]) hF dX5_copyFrom_95 rfl rfl (by decide) rfl ?_
    refine po_goto (tgt := 72) hF dX5_copyFrom_98 (by decide) ?_
    refine po_sub (L' := [(0, .ref l0), (1, .ref l1), (2, .int (l2 + 1))]) rfl ?_
    exact h72 x7 l0 l1 (l2 + 1) hm kl0 kl1
theorem w_X5_copyFrom_72L {X : po_X} {G : po_G} {st : Nat → Nat} {K : po_K} {R : po_R} {ρ : po_I} (hF : po_F X G cX5_copyFrom RX5 3 st) (hL : po_L X none 3 0 0 "copyFrom") (HL : po_Lay K R st) : ∀ (n : Nat) (I : po_I) (l0 : Nat) (l1 : Nat) (l2 : Int32), m_X5_copyFrom_72L n I l0 l1 l2 = some ρ → K l0 = (16, 8) → K l1 = (16, 8) → po_V X G 3 (po_Q X G (.inl (none)) K R (ρ) none 0 0) 0 0 72 [(0, .ref l0), (1, .ref l1), (2, .int l2)] [] K R I none := by
  intro n
  induction n with
  | zero => intro I l0 l1 l2 hm; cases hm
  | succ n ih => intro I l0 l1 l2 hm kl0 kl1; exact w_X5_copyFrom_72 hF hL HL (ih) I l0 l1 l2 kl0 kl1 hm
set_option maxRecDepth 20000 in
set_option maxHeartbeats 2000000 in
theorem w_X5_copyFrom_33 {X : po_X} {G : po_G} {st : Nat → Nat} {K : po_K} {R : po_R} {ρ : po_I} {r33 : po_I → Nat → Nat → Int32 → Option (po_I)} (hF : po_F X G cX5_copyFrom RX5 3 st) (hL : po_L X none 3 0 0 "copyFrom") (HL : po_Lay K R st) (h33 : ∀ (I : po_I) (l0 : Nat) (l1 : Nat) (l2 : Int32), r33 I l0 l1 l2 = some ρ → K l0 = (16, 8) → K l1 = (16, 8) → po_V X G 3 (po_Q X G (.inl (none)) K R (ρ) none 0 0) 0 0 33 [(0, .ref l0), (1, .ref l1), (2, .int l2)] [] K R I none) (I : po_I) (l0 : Nat) (l1 : Nat) (l2 : Int32) (kl0 : K l0 = (16, 8)) (kl1 : K l1 = (16, 8)) (hm : m_X5_copyFrom_33 r33 I l0 l1 l2 = some ρ) : po_V X G 3 (po_Q X G (.inl (none)) K R (ρ) none 0 0) 0 0 33 [(0, .ref l0), (1, .ref l1), (2, .int l2)] [] K R I none := by
  unfold m_X5_copyFrom_33 at hm
  refine po_iload_n hF dX5_copyFrom_33 rfl rfl ?_
  refine po_aload_n hF dX5_copyFrom_34 rfl rfl ?_
  refine po_getf (v := .int (I l0 3)) hF dX5_copyFrom_35 fl_X5_25 kl0 rfl ?_
  refine po_icmp_ge (tgt := 62) hF dX5_copyFrom_38 (by decide) hm (fun hm => ?_) (fun hm => ?_)
  · refine po_aload_n hF dX5_copyFrom_62 rfl rfl ?_
    refine po_aload_n hF dX5_copyFrom_63 rfl rfl ?_
    refine po_getf (v := .int (I l1 5)) hF dX5_copyFrom_64 fl_X5_34 kl1 rfl ?_
    refine po_puti hF dX5_copyFrom_67 fl_X5_34 kl0 (by intro r h; cases h; rfl) rfl rfl (fun _ => rfl) rfl ?_
    refine po_hname hm (fun I8 hm => ?_)
    refine po_iconst (v := 0) hF dX5_copyFrom_70 (by decide) ?_
    refine po_istore_n (L' := [(2, .int 0), (0, .ref l0), (1, .ref l1)]) hF dX5_copyFrom_71 rfl (by decide) rfl ?_
    refine po_sub (L' := [(0, .ref l0), (1, .ref l1), (2, .int 0)]) rfl ?_
    exact w_X5_copyFrom_72L hF hL HL 5000 I8 l0 l1 0 hm kl0 kl1
  · refine po_aload_n hF dX5_copyFrom_41 rfl rfl ?_
    refine po_getf (v := .ref (l0 + 2)) hF dX5_copyFrom_42 fl_X5_21 kl0 (ly_5_2 HL kl0).1 ?_
    refine po_iload_n hF dX5_copyFrom_45 rfl rfl ?_
    refine po_aald hF dX5_copyFrom_46 ((ly_5_2 HL kl0).2) (Or.inl rfl) hm (fun hi9 => (le_5_2 HL kl0 (po_in_lt hi9)).1) (fun hi9 hm => ?_)
    refine po_aload_n hF dX5_copyFrom_47 rfl rfl ?_
    refine po_getf (v := .ref (l1 + 2)) hF dX5_copyFrom_48 fl_X5_21 kl1 (ly_5_2 HL kl1).1 ?_
    refine po_iload_n hF dX5_copyFrom_51 rfl rfl ?_
    refine po_aald hF dX5_copyFrom_52 ((ly_5_2 HL kl1).2) (Or.inl rfl) hm (fun hi10 => (le_5_2 HL kl1 (po_in_lt hi10)).1) (fun hi10 hm => ?_)
    obtain ⟨x11, hx11, hm⟩ := po_bind hm
    refine po_callV (As := [.ref (l1 + (5 + 3 * (Int32.toNatClampNeg l2)))]) hF dX5_copyFrom_53 wq_426 mv_X1_copyFrom ws_X1_copyFrom (show po_cl[1]? = some _ from rfl) rfl ((le_5_2 HL kl0 (po_in_lt hi9)).2) (c_X1_copyFrom HL ((le_5_2 HL kl0 (po_in_lt hi9)).2) ((le_5_2 HL kl1 (po_in_lt hi10)).2) hx11) rfl (po_rtL hL rfl) (Nat.le_of_ble_eq_true rfl) rfl ?_
    refine po_iinc (v := l2 + 1) (L' := [(2, .int (l2 + 1)), (0, .ref l0), (1, .ref l1)]) hF dX5_copyFrom_56 rfl rfl (by decide) rfl ?_
    refine po_goto (tgt := 33) hF dX5_copyFrom_59 (by decide) ?_
    refine po_sub (L' := [(0, .ref l0), (1, .ref l1), (2, .int (l2 + 1))]) rfl ?_
    exact h33 x11 l0 l1 (l2 + 1) hm kl0 kl1
theorem w_X5_copyFrom_33L {X : po_X} {G : po_G} {st : Nat → Nat} {K : po_K} {R : po_R} {ρ : po_I} (hF : po_F X G cX5_copyFrom RX5 3 st) (hL : po_L X none 3 0 0 "copyFrom") (HL : po_Lay K R st) : ∀ (n : Nat) (I : po_I) (l0 : Nat) (l1 : Nat) (l2 : Int32), m_X5_copyFrom_33L n I l0 l1 l2 = some ρ → K l0 = (16, 8) → K l1 = (16, 8) → po_V X G 3 (po_Q X G (.inl (none)) K R (ρ) none 0 0) 0 0 33 [(0, .ref l0), (1, .ref l1), (2, .int l2)] [] K R I none := by
  intro n
  induction n with
  | zero => intro I l0 l1 l2 hm; cases hm
  | succ n ih => intro I l0 l1 l2 hm kl0 kl1; exact w_X5_copyFrom_33 hF hL HL (ih) I l0 l1 l2 kl0 kl1 hm
set_option maxRecDepth 20000 in
set_option maxHeartbeats 2000000 in
theorem w_X5_copyFrom_e {X : po_X} {G : po_G} {st : Nat → Nat} {K : po_K} {R : po_R} {ρ : po_I} (hF : po_F X G cX5_copyFrom RX5 3 st) (hL : po_L X none 3 0 0 "copyFrom") (HL : po_Lay K R st) (I : po_I) (l0 : Nat) (l1 : Nat) (kl0 : K l0 = (16, 8)) (kl1 : K l1 = (16, 8)) (hm : m_X5_copyFrom_e I l0 l1 = some ρ) : po_V X G 3 (po_Q X G (.inl (none)) K R (ρ) none 0 0) 0 0 0 [(0, .ref l0), (1, .ref l1)] [] K R I none := by
  unfold m_X5_copyFrom_e at hm
  refine po_aload_n hF dX5_copyFrom_0 rfl rfl ?_
  refine po_aload_n hF dX5_copyFrom_1 rfl rfl ?_
  refine po_getf (v := .int (I l1 0)) hF dX5_copyFrom_2 fl_X5_9 kl1 rfl ?_
  refine po_puti hF dX5_copyFrom_5 fl_X5_9 kl0 (by intro r h; cases h; rfl) rfl rfl (fun _ => rfl) rfl ?_
  refine po_hname hm (fun I12 hm => ?_)
  refine po_aload_n hF dX5_copyFrom_8 rfl rfl ?_
  refine po_getf (v := .ref (l1 + 1)) hF dX5_copyFrom_9 fl_X5_15 kl1 (ly_5_1 HL kl1).1 ?_
  refine po_iconst (v := 0) hF dX5_copyFrom_12 (by decide) ?_
  refine po_aload_n hF dX5_copyFrom_13 rfl rfl ?_
  refine po_getf (v := .ref (l0 + 1)) hF dX5_copyFrom_14 fl_X5_15 kl0 (ly_5_1 HL kl0).1 ?_
  refine po_iconst (v := 0) hF dX5_copyFrom_17 (by decide) ?_
  refine po_bipush (v := 28) hF dX5_copyFrom_18 (by decide) ?_
  refine po_acopy (m := 28) hF hL dX5_copyFrom_20 wq_423 ⟨wq_425, wq_424, wq_104⟩ ((ly_5_1 HL kl1).2) ((ly_5_1 HL kl0).2) (by decide) (by decide) (by decide) (by decide) (Nat.le_of_ble_eq_true rfl) (by decide) rfl ?_
  refine po_hname hm (fun I13 hm => ?_)
  refine po_aload_n hF dX5_copyFrom_23 rfl rfl ?_
  refine po_aload_n hF dX5_copyFrom_24 rfl rfl ?_
  refine po_getf (v := .int (I13 l1 3)) hF dX5_copyFrom_25 fl_X5_25 kl1 rfl ?_
  refine po_puti hF dX5_copyFrom_28 fl_X5_25 kl0 (by intro r h; cases h; rfl) rfl rfl (fun _ => rfl) rfl ?_
  refine po_hname hm (fun I14 hm => ?_)
  refine po_iconst (v := 0) hF dX5_copyFrom_31 (by decide) ?_
  refine po_istore_n (L' := [(2, .int 0), (0, .ref l0), (1, .ref l1)]) hF dX5_copyFrom_32 rfl (by decide) rfl ?_
  refine po_sub (L' := [(0, .ref l0), (1, .ref l1), (2, .int 0)]) rfl ?_
  exact w_X5_copyFrom_33L hF hL HL 5000 I14 l0 l1 0 hm kl0 kl1
theorem c_X5_copyFrom {K : po_K} {R : po_R} {I : po_I} {st : Nat → Nat} {ρ : po_I} (HL : po_Lay K R st) {l0 : Nat} {l1 : Nat} (kl0 : K l0 = (16, 8)) (kl1 : K l1 = (16, 8)) (hm : m_X5_copyFrom I l0 l1 = some ρ) : po_C st yX5_copyFrom cX5_copyFrom 3 none 3 0 0 [.ref l0, .ref l1] K R I none (.inl (none)) K R (ρ) none := by
  refine po_ofC (by decide +kernel) (Nat.le_of_ble_eq_true rfl) (fun X G hF hL => ?_)
  exact w_X5_copyFrom_e hF hL HL I l0 l1 kl0 kl1 hm
set_option maxRecDepth 20000 in
set_option maxHeartbeats 2000000 in
theorem w_X3_next_40 {X : po_X} {G : po_G} {st : Nat → Nat} {K : po_K} {I : po_I} {R : po_R} {ρ : Int32} (hF : po_F X G cX3_next RX3 1 st) (hL : po_L X (some .int) 0 0 0 "next") (HL : po_Lay K R st) (s0 : Int32) (hm : m_X3_next_40 I s0 = some ρ) : po_V X G 1 (po_Q X G (.inl (some (.int ρ))) K R I none 0 0) 0 0 40 [] [.int s0] K R I none := by
  unfold m_X3_next_40 at hm
  cases hm
  exact po_iret hF hL dX3_next_40 (by decide) (by decide) rfl rfl rfl (Or.inl rfl)
set_option maxRecDepth 20000 in
set_option maxHeartbeats 2000000 in
theorem w_X3_next_39 {X : po_X} {G : po_G} {st : Nat → Nat} {K : po_K} {I : po_I} {R : po_R} {ρ : Int32} (hF : po_F X G cX3_next RX3 1 st) (hL : po_L X (some .int) 0 0 0 "next") (HL : po_Lay K R st) (hm : m_X3_next_39 I = some ρ) : po_V X G 1 (po_Q X G (.inl (some (.int ρ))) K R I none 0 0) 0 0 39 [] [] K R I none := by
  unfold m_X3_next_39 at hm
  refine po_iconst (v := 0) hF dX3_next_39 (by decide) ?_
  exact w_X3_next_40 hF hL HL 0 hm
set_option maxRecDepth 20000 in
set_option maxHeartbeats 2000000 in
theorem w_X3_next_e {X : po_X} {G : po_G} {st : Nat → Nat} {K : po_K} {I : po_I} {R : po_R} {ρ : Int32} (hF : po_F X G cX3_next RX3 1 st) (hL : po_L X (some .int) 0 0 0 "next") (HL : po_Lay K R st) (l0 : Nat) (kl0 : K l0 = (14, 4)) (hm : m_X3_next_e I l0 = some ρ) : po_V X G 1 (po_Q X G (.inl (some (.int ρ))) K R I none 0 0) 0 0 0 [(0, .ref l0)] [] K R I none := by
  unfold m_X3_next_e at hm
  refine po_aload_n hF dX3_next_0 rfl rfl ?_
  refine po_getf (v := .int (I l0 2)) hF dX3_next_1 fl_X3_19 kl0 rfl ?_
  refine po_if_lt (tgt := 39) hF dX3_next_4 (by decide) hm (fun hm => ?_) (fun hm => ?_)
  · refine po_sub (L' := []) rfl ?_
    exact w_X3_next_39 hF hL HL hm
  · refine po_aload_n hF dX3_next_7 rfl rfl ?_
    refine po_getf (v := .int (I l0 2)) hF dX3_next_8 fl_X3_19 kl0 rfl ?_
    refine po_aload_n hF dX3_next_11 rfl rfl ?_
    refine po_getf (v := .int (I l0 1)) hF dX3_next_12 fl_X3_15 kl0 rfl ?_
    refine po_icmp_ge (tgt := 39) hF dX3_next_15 (by decide) hm (fun hm => ?_) (fun hm => ?_)
    · refine po_sub (L' := []) rfl ?_
      exact w_X3_next_39 hF hL HL hm
    · refine po_aload_n hF dX3_next_18 rfl rfl ?_
      refine po_getf (v := .int (I l0 2)) hF dX3_next_19 fl_X3_19 kl0 rfl ?_
      refine po_bipush (v := 60) hF dX3_next_22 (by decide) ?_
      refine po_icmp_ge (tgt := 39) hF dX3_next_24 (by decide) hm (fun hm => ?_) (fun hm => ?_)
      · refine po_sub (L' := []) rfl ?_
        exact w_X3_next_39 hF hL HL hm
      · refine po_aload_n hF dX3_next_27 rfl rfl ?_
        refine po_getf (v := .ref (l0 + 1)) hF dX3_next_28 fl_X3_9 kl0 (ly_3_0 HL kl0).1 ?_
        refine po_aload_n hF dX3_next_31 rfl rfl ?_
        refine po_getf (v := .int (I l0 2)) hF dX3_next_32 fl_X3_19 kl0 rfl ?_
        refine po_cald hF dX3_next_35 ((ly_3_0 HL kl0).2) hm (fun hm => ?_)
        refine po_goto (tgt := 40) hF dX3_next_36 (by decide) ?_
        refine po_sub (L' := []) rfl ?_
        exact w_X3_next_40 hF hL HL (vp_nar .char (I (l0 + 1) (Int32.toNatClampNeg (I l0 2)))) hm
theorem c_X3_next {K : po_K} {R : po_R} {I : po_I} {st : Nat → Nat} {ρ : Int32} (HL : po_Lay K R st) {l0 : Nat} (kl0 : K l0 = (14, 4)) (hm : m_X3_next I l0 = some ρ) : po_C st yX3_next cX3_next 1 (some .int) 0 0 0 [.ref l0] K R I none (.inl (some (.int ρ))) K R I none := by
  refine po_ofC (by decide +kernel) (Nat.le_of_ble_eq_true rfl) (fun X G hF hL => ?_)
  exact w_X3_next_e hF hL HL l0 kl0 hm
set_option maxRecDepth 20000 in
set_option maxHeartbeats 2000000 in
theorem w_X3_failAt_e {X : po_X} {G : po_G} {st : Nat → Nat} {K : po_K} {R : po_R} {ρ : Int32 × po_I} (hF : po_F X G cX3_failAt RX3 2 st) (hL : po_L X (some .boolean) 0 0 0 "failAt") (HL : po_Lay K R st) (I : po_I) (l0 : Nat) (l1 : Int32) (kl0 : K l0 = (14, 4)) (hm : m_X3_failAt_e I l0 l1 = some ρ) : po_V X G 2 (po_Q X G (.inl (some (.int ρ.1))) K R (ρ.2) none 0 0) 0 0 0 [(0, .ref l0), (1, .int l1)] [] K R I none := by
  unfold m_X3_failAt_e at hm
  refine po_aload_n hF dX3_failAt_0 rfl rfl ?_
  refine po_iload_n hF dX3_failAt_1 rfl rfl ?_
  refine po_puti hF dX3_failAt_2 fl_X3_22 kl0 (by intro r h; cases h; rfl) rfl rfl (fun _ => rfl) rfl ?_
  refine po_hname hm (fun I1 hm => ?_)
  refine po_iconst (v := 0) hF dX3_failAt_5 (by decide) ?_
  cases hm
  exact po_zret hF hL dX3_failAt_6 (by decide) (by decide) (by decide) rfl rfl rfl (Or.inl rfl)
theorem c_X3_failAt {K : po_K} {R : po_R} {I : po_I} {st : Nat → Nat} {ρ : Int32 × po_I} (HL : po_Lay K R st) {l0 : Nat} {l1 : Int32} (kl0 : K l0 = (14, 4)) (hm : m_X3_failAt I l0 l1 = some ρ) : po_C st yX3_failAt cX3_failAt 2 (some .boolean) 0 0 0 [.ref l0, .int l1] K R I none (.inl (some (.int ρ.1))) K R (ρ.2) none := by
  refine po_ofC (by decide +kernel) (Nat.le_of_ble_eq_true rfl) (fun X G hF hL => ?_)
  exact w_X3_failAt_e hF hL HL I l0 l1 kl0 hm
set_option maxRecDepth 20000 in
set_option maxHeartbeats 2000000 in
theorem w_X3_readValue_20 {X : po_X} {G : po_G} {st : Nat → Nat} {K : po_K} {R : po_R} {ρ : Int32 × po_I} (hF : po_F X G cX3_readValue RX3 5 st) (hL : po_L X (some .int) 1 0 0 "readValue") (HL : po_Lay K R st) (I : po_I) (l0 : Nat) (kl0 : K l0 = (14, 4)) (hm : m_X3_readValue_20 I l0 = some ρ) : po_V X G 5 (po_Q X G (.inl (some (.int ρ.1))) K R (ρ.2) none 0 0) 0 0 20 [(0, .ref l0)] [] K R I none := by
  unfold m_X3_readValue_20 at hm
  refine po_aload_n hF dX3_readValue_20 rfl rfl ?_
  refine po_aload_n hF dX3_readValue_21 rfl rfl ?_
  refine po_getf (v := .int (I l0 2)) hF dX3_readValue_22 fl_X3_19 kl0 rfl ?_
  obtain ⟨x1, hx1, hm⟩ := po_bind hm
  refine po_callV (As := [.int (I l0 2)]) hF dX3_readValue_25 wq_568 mv_X3_failAt ws_X3_failAt (show po_cl[3]? = some _ from rfl) rfl kl0 (c_X3_failAt HL kl0 hx1) rfl (po_rtL hL rfl) (Nat.le_of_ble_eq_true rfl) rfl ?_
  refine po_pop hF dX3_readValue_28 rfl ?_
  refine po_iconst (v := (-1)) hF dX3_readValue_29 (by decide) ?_
  cases hm
  exact po_iret hF hL dX3_readValue_30 (by decide) (by decide) rfl rfl rfl (Or.inl rfl)
set_option maxRecDepth 20000 in
set_option maxHeartbeats 2000000 in
theorem w_X3_readValue_e {X : po_X} {G : po_G} {st : Nat → Nat} {K : po_K} {R : po_R} {ρ : Int32 × po_I} (hF : po_F X G cX3_readValue RX3 5 st) (hL : po_L X (some .int) 1 0 0 "readValue") (HL : po_Lay K R st) (I : po_I) (l0 : Nat) (l1 : Int32) (l2 : Int32) (l3 : Int32) (kl0 : K l0 = (14, 4)) (hm : m_X3_readValue_e I l0 l1 l2 l3 = some ρ) : po_V X G 5 (po_Q X G (.inl (some (.int ρ.1))) K R (ρ.2) none 0 0) 0 0 0 [(0, .ref l0), (1, .int l1), (2, .int l2), (3, .int l3)] [] K R I none := by
  unfold m_X3_readValue_e at hm
  refine po_aload_n hF dX3_readValue_0 rfl rfl ?_
  obtain ⟨x2, hx2, hm⟩ := po_bind hm
  refine po_callV (As := []) hF dX3_readValue_1 wq_560 mv_X3_next ws_X3_next (show po_cl[3]? = some _ from rfl) rfl kl0 (c_X3_next HL kl0 hx2) rfl (po_rtL hL rfl) (Nat.le_of_ble_eq_true rfl) rfl ?_
  refine po_iload_n hF dX3_readValue_4 rfl rfl ?_
  refine po_isub hF dX3_readValue_5 ?_
  refine po_top hm (fun v3 hm => ?_)
  refine po_istore (L' := [(4, .int v3), (0, .ref l0), (1, .int l1), (2, .int l2), (3, .int l3)]) hF dX3_readValue_6 (by decide) rfl ?_
  refine po_iload hF dX3_readValue_8 rfl ?_
  refine po_iload_n hF dX3_readValue_10 rfl rfl ?_
  refine po_icmp_lt (tgt := 20) hF dX3_readValue_11 (by decide) hm (fun hm => ?_) (fun hm => ?_)
  · refine po_sub (L' := [(0, .ref l0)]) rfl ?_
    exact w_X3_readValue_20 hF hL HL I l0 kl0 hm
  · refine po_iload hF dX3_readValue_14 rfl ?_
    refine po_iload_n hF dX3_readValue_16 rfl rfl ?_
    refine po_icmp_le (tgt := 31) hF dX3_readValue_17 (by decide) hm (fun hm => ?_) (fun hm => ?_)
    · refine po_aload_n hF dX3_readValue_31 rfl rfl ?_
      refine po_dup hF dX3_readValue_32 rfl ?_
      refine po_getf (v := .int (I l0 2)) hF dX3_readValue_33 fl_X3_19 kl0 rfl ?_
      refine po_iconst (v := 1) hF dX3_readValue_36 (by decide) ?_
      refine po_iadd hF dX3_readValue_37 ?_
      refine po_puti hF dX3_readValue_38 fl_X3_19 kl0 (by intro r h; cases h; rfl) rfl rfl (fun _ => rfl) rfl ?_
      refine po_hname hm (fun I4 hm => ?_)
      refine po_iload hF dX3_readValue_41 rfl ?_
      cases hm
      exact po_iret hF hL dX3_readValue_43 (by decide) (by decide) rfl rfl rfl (Or.inl rfl)
    · refine po_sub (L' := [(0, .ref l0)]) rfl ?_
      exact w_X3_readValue_20 hF hL HL I l0 kl0 hm
theorem c_X3_readValue {K : po_K} {R : po_R} {I : po_I} {st : Nat → Nat} {ρ : Int32 × po_I} (HL : po_Lay K R st) {l0 : Nat} {l1 : Int32} {l2 : Int32} {l3 : Int32} (kl0 : K l0 = (14, 4)) (hm : m_X3_readValue I l0 l1 l2 l3 = some ρ) : po_C st yX3_readValue cX3_readValue 5 (some .int) 1 0 0 [.ref l0, .int l1, .int l2, .int l3] K R I none (.inl (some (.int ρ.1))) K R (ρ.2) none := by
  refine po_ofC (by decide +kernel) (Nat.le_of_ble_eq_true rfl) (fun X G hF hL => ?_)
  exact w_X3_readValue_e hF hL HL I l0 l1 l2 l3 kl0 hm
set_option maxRecDepth 20000 in
set_option maxHeartbeats 2000000 in
theorem w_X3_readFront_e {X : po_X} {G : po_G} {st : Nat → Nat} {K : po_K} {R : po_R} {ρ : Int32 × po_I} (hF : po_F X G cX3_readFront RX3 2 st) (hL : po_L X (some .int) 1 0 0 "readFront") (HL : po_Lay K R st) (I : po_I) (l0 : Nat) (kl0 : K l0 = (14, 4)) (hm : m_X3_readFront_e I l0 = some ρ) : po_V X G 2 (po_Q X G (.inl (some (.int ρ.1))) K R (ρ.2) none 0 0) 0 0 0 [(0, .ref l0)] [] K R I none := by
  unfold m_X3_readFront_e at hm
  refine po_aload_n hF dX3_readFront_0 rfl rfl ?_
  obtain ⟨x1, hx1, hm⟩ := po_bind hm
  refine po_callV (As := []) hF dX3_readFront_1 wq_560 mv_X3_next ws_X3_next (show po_cl[3]? = some _ from rfl) rfl kl0 (c_X3_next HL kl0 hx1) rfl (po_rtL hL rfl) (Nat.le_of_ble_eq_true rfl) rfl ?_
  refine po_istore_n (L' := [(1, .int x1), (0, .ref l0)]) hF dX3_readFront_4 rfl (by decide) rfl ?_
  refine po_aload_n hF dX3_readFront_5 rfl rfl ?_
  refine po_dup hF dX3_readFront_6 rfl ?_
  refine po_getf (v := .int (I l0 2)) hF dX3_readFront_7 fl_X3_19 kl0 rfl ?_
  refine po_iconst (v := 1) hF dX3_readFront_10 (by decide) ?_
  refine po_iadd hF dX3_readFront_11 ?_
  refine po_puti hF dX3_readFront_12 fl_X3_19 kl0 (by intro r h; cases h; rfl) rfl rfl (fun _ => rfl) rfl ?_
  refine po_hname hm (fun I2 hm => ?_)
  refine po_iload_n hF dX3_readFront_15 rfl rfl ?_
  by_cases hs0 : x1 = 69
  · rw [if_pos hs0] at hm
    refine po_lsw (tgt := 62) (off := 46) hF dX3_readFront_16 (by decide) (by rw [hs0]; decide) (by decide) ?_
    refine po_iconst (v := 1) hF dX3_readFront_62 (by decide) ?_
    cases hm
    exact po_iret hF hL dX3_readFront_63 (by decide) (by decide) rfl rfl rfl (Or.inl rfl)
  rw [if_neg hs0] at hm
  by_cases hs1 : x1 = 78
  · rw [if_pos hs1] at hm
    refine po_lsw (tgt := 60) (off := 44) hF dX3_readFront_16 (by decide) (by rw [hs1]; decide) (by decide) ?_
    refine po_iconst (v := 0) hF dX3_readFront_60 (by decide) ?_
    cases hm
    exact po_iret hF hL dX3_readFront_61 (by decide) (by decide) rfl rfl rfl (Or.inl rfl)
  rw [if_neg hs1] at hm
  by_cases hs2 : x1 = 83
  · rw [if_pos hs2] at hm
    refine po_lsw (tgt := 64) (off := 48) hF dX3_readFront_16 (by decide) (by rw [hs2]; decide) (by decide) ?_
    refine po_iconst (v := 2) hF dX3_readFront_64 (by decide) ?_
    cases hm
    exact po_iret hF hL dX3_readFront_65 (by decide) (by decide) rfl rfl rfl (Or.inl rfl)
  rw [if_neg hs2] at hm
  by_cases hs3 : x1 = 87
  · rw [if_pos hs3] at hm
    refine po_lsw (tgt := 66) (off := 50) hF dX3_readFront_16 (by decide) (by rw [hs3]; decide) (by decide) ?_
    refine po_iconst (v := 3) hF dX3_readFront_66 (by decide) ?_
    cases hm
    exact po_iret hF hL dX3_readFront_67 (by decide) (by decide) rfl rfl rfl (Or.inl rfl)
  rw [if_neg hs3] at hm
  refine po_lsw (tgt := 68) (off := 52) hF dX3_readFront_16 (by decide) (by
    refine (lv_osw (k := 69) hs0 (by decide)).trans ?_
    refine (lv_osw (k := 78) hs1 (by decide)).trans ?_
    refine (lv_osw (k := 83) hs2 (by decide)).trans ?_
    refine (lv_osw (k := 87) hs3 (by decide)).trans ?_
    rfl) (by decide) ?_
  refine po_aload_n hF dX3_readFront_68 rfl rfl ?_
  refine po_aload_n hF dX3_readFront_69 rfl rfl ?_
  refine po_getf (v := .int (I2 l0 2)) hF dX3_readFront_70 fl_X3_19 kl0 rfl ?_
  refine po_iconst (v := 1) hF dX3_readFront_73 (by decide) ?_
  refine po_isub hF dX3_readFront_74 ?_
  obtain ⟨x3, hx3, hm⟩ := po_bind hm
  refine po_callV (As := [.int ((I2 l0 2) - 1)]) hF dX3_readFront_75 wq_568 mv_X3_failAt ws_X3_failAt (show po_cl[3]? = some _ from rfl) rfl kl0 (c_X3_failAt HL kl0 hx3) rfl (po_rtL hL rfl) (Nat.le_of_ble_eq_true rfl) rfl ?_
  refine po_pop hF dX3_readFront_78 rfl ?_
  refine po_iconst (v := (-1)) hF dX3_readFront_79 (by decide) ?_
  cases hm
  exact po_iret hF hL dX3_readFront_80 (by decide) (by decide) rfl rfl rfl (Or.inl rfl)
theorem c_X3_readFront {K : po_K} {R : po_R} {I : po_I} {st : Nat → Nat} {ρ : Int32 × po_I} (HL : po_Lay K R st) {l0 : Nat} (kl0 : K l0 = (14, 4)) (hm : m_X3_readFront I l0 = some ρ) : po_C st yX3_readFront cX3_readFront 2 (some .int) 1 0 0 [.ref l0] K R I none (.inl (some (.int ρ.1))) K R (ρ.2) none := by
  refine po_ofC (by decide +kernel) (Nat.le_of_ble_eq_true rfl) (fun X G hF hL => ?_)
  exact w_X3_readFront_e hF hL HL I l0 kl0 hm
set_option maxRecDepth 20000 in
set_option maxHeartbeats 2000000 in
theorem w_X0_clear_2 {X : po_X} {G : po_G} {st : Nat → Nat} {K : po_K} {R : po_R} {ρ : po_I} {r2 : po_I → Nat → Int32 → Option (po_I)} (hF : po_F X G cX0_clear RX0 2 st) (hL : po_L X none 0 0 0 "clear") (HL : po_Lay K R st) (h2 : ∀ (I : po_I) (l0 : Nat) (l1 : Int32), r2 I l0 l1 = some ρ → K l0 = (11, 1) → po_V X G 2 (po_Q X G (.inl (none)) K R (ρ) none 0 0) 0 0 2 [(0, .ref l0), (1, .int l1)] [] K R I none) (I : po_I) (l0 : Nat) (l1 : Int32) (kl0 : K l0 = (11, 1)) (hm : m_X0_clear_2 r2 I l0 l1 = some ρ) : po_V X G 2 (po_Q X G (.inl (none)) K R (ρ) none 0 0) 0 0 2 [(0, .ref l0), (1, .int l1)] [] K R I none := by
  unfold m_X0_clear_2 at hm
  refine po_iload_n hF dX0_clear_2 rfl rfl ?_
  refine po_bipush (v := 14) hF dX0_clear_3 (by decide) ?_
  refine po_icmp_ge (tgt := 21) hF dX0_clear_5 (by decide) hm (fun hm => ?_) (fun hm => ?_)
  · cases hm
    exact po_vret hF hL dX0_clear_21 (by decide) (by decide) rfl rfl rfl (Or.inl rfl)
  · refine po_aload_n hF dX0_clear_8 rfl rfl ?_
    refine po_getf (v := .ref (l0 + 1)) hF dX0_clear_9 fl_X0_9 kl0 (ly_0_0 HL kl0).1 ?_
    refine po_iload_n hF dX0_clear_12 rfl rfl ?_
    refine po_iconst (v := 0) hF dX0_clear_13 (by decide) ?_
    refine po_iast hF dX0_clear_14 ((ly_0_0 HL kl0).2) hm rfl (fun hm => ?_)
    refine po_hname hm (fun I1 hm => ?_)
    refine po_iinc (v := l1 + 1) (L' := [(1, .int (l1 + 1)), (0, .ref l0)]) hF dX0_clear_15 rfl rfl (by decide) rfl ?_
    refine po_goto (tgt := 2) hF dX0_clear_18 (by decide) ?_
    refine po_sub (L' := [(0, .ref l0), (1, .int (l1 + 1))]) rfl ?_
    exact h2 I1 l0 (l1 + 1) hm kl0
theorem w_X0_clear_2L {X : po_X} {G : po_G} {st : Nat → Nat} {K : po_K} {R : po_R} {ρ : po_I} (hF : po_F X G cX0_clear RX0 2 st) (hL : po_L X none 0 0 0 "clear") (HL : po_Lay K R st) : ∀ (n : Nat) (I : po_I) (l0 : Nat) (l1 : Int32), m_X0_clear_2L n I l0 l1 = some ρ → K l0 = (11, 1) → po_V X G 2 (po_Q X G (.inl (none)) K R (ρ) none 0 0) 0 0 2 [(0, .ref l0), (1, .int l1)] [] K R I none := by
  intro n
  induction n with
  | zero => intro I l0 l1 hm; cases hm
  | succ n ih => intro I l0 l1 hm kl0; exact w_X0_clear_2 hF hL HL (ih) I l0 l1 kl0 hm
set_option maxRecDepth 20000 in
set_option maxHeartbeats 2000000 in
theorem w_X0_clear_e {X : po_X} {G : po_G} {st : Nat → Nat} {K : po_K} {R : po_R} {ρ : po_I} (hF : po_F X G cX0_clear RX0 2 st) (hL : po_L X none 0 0 0 "clear") (HL : po_Lay K R st) (I : po_I) (l0 : Nat) (kl0 : K l0 = (11, 1)) (hm : m_X0_clear_e I l0 = some ρ) : po_V X G 2 (po_Q X G (.inl (none)) K R (ρ) none 0 0) 0 0 0 [(0, .ref l0)] [] K R I none := by
  unfold m_X0_clear_e at hm
  refine po_iconst (v := 0) hF dX0_clear_0 (by decide) ?_
  refine po_istore_n (L' := [(1, .int 0), (0, .ref l0)]) hF dX0_clear_1 rfl (by decide) rfl ?_
  refine po_sub (L' := [(0, .ref l0), (1, .int 0)]) rfl ?_
  exact w_X0_clear_2L hF hL HL 5000 I l0 0 hm kl0
theorem c_X0_clear {K : po_K} {R : po_R} {I : po_I} {st : Nat → Nat} {ρ : po_I} (HL : po_Lay K R st) {l0 : Nat} (kl0 : K l0 = (11, 1)) (hm : m_X0_clear I l0 = some ρ) : po_C st yX0_clear cX0_clear 2 none 0 0 0 [.ref l0] K R I none (.inl (none)) K R (ρ) none := by
  refine po_ofC (by decide +kernel) (Nat.le_of_ble_eq_true rfl) (fun X G hF hL => ?_)
  exact w_X0_clear_e hF hL HL I l0 kl0 hm
set_option maxRecDepth 20000 in
set_option maxHeartbeats 2000000 in
theorem w_X0_addRectangle_46 {X : po_X} {G : po_G} {st : Nat → Nat} {K : po_K} {R : po_R} {ρ : po_I} {r12 : po_I → Nat → Int32 → Int32 → Int32 → Int32 → Option (po_I)} (hF : po_F X G cX0_addRectangle RX0 7 st) (hL : po_L X none 0 0 0 "addRectangle") (HL : po_Lay K R st) (h12 : ∀ (I : po_I) (l0 : Nat) (l2 : Int32) (l4 : Int32) (l5 : Int32) (l6 : Int32), r12 I l0 l2 l4 l5 l6 = some ρ → K l0 = (11, 1) → po_V X G 7 (po_Q X G (.inl (none)) K R (ρ) none 0 0) 0 0 12 [(0, .ref l0), (2, .int l2), (4, .int l4), (5, .int l5), (6, .int l6)] [] K R I none) (I : po_I) (l0 : Nat) (l2 : Int32) (l4 : Int32) (l5 : Int32) (l6 : Int32) (kl0 : K l0 = (11, 1)) (hm : m_X0_addRectangle_46 r12 I l0 l2 l4 l5 l6 = some ρ) : po_V X G 7 (po_Q X G (.inl (none)) K R (ρ) none 0 0) 0 0 46 [(0, .ref l0), (2, .int l2), (4, .int l4), (5, .int l5), (6, .int l6)] [] K R I none := by
  unfold m_X0_addRectangle_46 at hm
  refine po_iinc (v := l6 + 1) (L' := [(6, .int (l6 + 1)), (0, .ref l0), (2, .int l2), (4, .int l4), (5, .int l5)]) hF dX0_addRectangle_46 rfl rfl (by decide) rfl ?_
  refine po_goto (tgt := 12) hF dX0_addRectangle_49 (by decide) ?_
  refine po_sub (L' := [(0, .ref l0), (2, .int l2), (4, .int l4), (5, .int l5), (6, .int (l6 + 1))]) rfl ?_
  exact h12 I l0 l2 l4 l5 (l6 + 1) hm kl0
set_option maxRecDepth 20000 in
set_option maxHeartbeats 2000000 in
theorem w_X0_addRectangle_12 {X : po_X} {G : po_G} {st : Nat → Nat} {K : po_K} {R : po_R} {ρ : po_I} {r12 : po_I → Nat → Int32 → Int32 → Int32 → Int32 → Option (po_I)} (hF : po_F X G cX0_addRectangle RX0 7 st) (hL : po_L X none 0 0 0 "addRectangle") (HL : po_Lay K R st) (h12 : ∀ (I : po_I) (l0 : Nat) (l2 : Int32) (l4 : Int32) (l5 : Int32) (l6 : Int32), r12 I l0 l2 l4 l5 l6 = some ρ → K l0 = (11, 1) → po_V X G 7 (po_Q X G (.inl (none)) K R (ρ) none 0 0) 0 0 12 [(0, .ref l0), (2, .int l2), (4, .int l4), (5, .int l5), (6, .int l6)] [] K R I none) (I : po_I) (l0 : Nat) (l2 : Int32) (l4 : Int32) (l5 : Int32) (l6 : Int32) (kl0 : K l0 = (11, 1)) (hm : m_X0_addRectangle_12 r12 I l0 l2 l4 l5 l6 = some ρ) : po_V X G 7 (po_Q X G (.inl (none)) K R (ρ) none 0 0) 0 0 12 [(0, .ref l0), (2, .int l2), (4, .int l4), (5, .int l5), (6, .int l6)] [] K R I none := by
  unfold m_X0_addRectangle_12 at hm
  refine po_iload hF dX0_addRectangle_12 rfl ?_
  refine po_bipush (v := 14) hF dX0_addRectangle_14 (by decide) ?_
  refine po_icmp_ge (tgt := 52) hF dX0_addRectangle_16 (by decide) hm (fun hm => ?_) (fun hm => ?_)
  · cases hm
    exact po_vret hF hL dX0_addRectangle_52 (by decide) (by decide) rfl rfl rfl (Or.inl rfl)
  · refine po_iload hF dX0_addRectangle_19 rfl ?_
    refine po_iload_n hF dX0_addRectangle_21 rfl rfl ?_
    refine po_icmp_lt (tgt := 46) hF dX0_addRectangle_22 (by decide) hm (fun hm => ?_) (fun hm => ?_)
    · exact w_X0_addRectangle_46 hF hL HL h12 I l0 l2 l4 l5 l6 kl0 hm
    · refine po_iload hF dX0_addRectangle_25 rfl ?_
      refine po_iload_n hF dX0_addRectangle_27 rfl rfl ?_
      refine po_iload hF dX0_addRectangle_28 rfl ?_
      refine po_iadd hF dX0_addRectangle_30 ?_
      refine po_icmp_ge (tgt := 46) hF dX0_addRectangle_31 (by decide) hm (fun hm => ?_) (fun hm => ?_)
      · exact w_X0_addRectangle_46 hF hL HL h12 I l0 l2 l4 l5 l6 kl0 hm
      · refine po_aload_n hF dX0_addRectangle_34 rfl rfl ?_
        refine po_getf (v := .ref (l0 + 1)) hF dX0_addRectangle_35 fl_X0_9 kl0 (ly_0_0 HL kl0).1 ?_
        refine po_iload hF dX0_addRectangle_38 rfl ?_
        refine po_dup2 hF dX0_addRectangle_40 rfl rfl ?_
        refine po_iald hF dX0_addRectangle_41 ((ly_0_0 HL kl0).2) (Or.inl rfl) hm (fun hm => ?_)
        refine po_iload hF dX0_addRectangle_42 rfl ?_
        refine po_ior hF dX0_addRectangle_44 ?_
        refine po_iast hF dX0_addRectangle_45 ((ly_0_0 HL kl0).2) hm rfl (fun hm => ?_)
        refine po_hname hm (fun I1 hm => ?_)
        exact w_X0_addRectangle_46 hF hL HL h12 I1 l0 l2 l4 l5 l6 kl0 hm
theorem w_X0_addRectangle_12L {X : po_X} {G : po_G} {st : Nat → Nat} {K : po_K} {R : po_R} {ρ : po_I} (hF : po_F X G cX0_addRectangle RX0 7 st) (hL : po_L X none 0 0 0 "addRectangle") (HL : po_Lay K R st) : ∀ (n : Nat) (I : po_I) (l0 : Nat) (l2 : Int32) (l4 : Int32) (l5 : Int32) (l6 : Int32), m_X0_addRectangle_12L n I l0 l2 l4 l5 l6 = some ρ → K l0 = (11, 1) → po_V X G 7 (po_Q X G (.inl (none)) K R (ρ) none 0 0) 0 0 12 [(0, .ref l0), (2, .int l2), (4, .int l4), (5, .int l5), (6, .int l6)] [] K R I none := by
  intro n
  induction n with
  | zero => intro I l0 l2 l4 l5 l6 hm; cases hm
  | succ n ih => intro I l0 l2 l4 l5 l6 hm kl0; exact w_X0_addRectangle_12 hF hL HL (ih) I l0 l2 l4 l5 l6 kl0 hm
set_option maxRecDepth 20000 in
set_option maxHeartbeats 2000000 in
theorem w_X0_addRectangle_e {X : po_X} {G : po_G} {st : Nat → Nat} {K : po_K} {R : po_R} {ρ : po_I} (hF : po_F X G cX0_addRectangle RX0 7 st) (hL : po_L X none 0 0 0 "addRectangle") (HL : po_Lay K R st) (I : po_I) (l0 : Nat) (l1 : Int32) (l2 : Int32) (l3 : Int32) (l4 : Int32) (kl0 : K l0 = (11, 1)) (hm : m_X0_addRectangle_e I l0 l1 l2 l3 l4 = some ρ) : po_V X G 7 (po_Q X G (.inl (none)) K R (ρ) none 0 0) 0 0 0 [(0, .ref l0), (1, .int l1), (2, .int l2), (3, .int l3), (4, .int l4)] [] K R I none := by
  unfold m_X0_addRectangle_e at hm
  refine po_iconst (v := 1) hF dX0_addRectangle_0 (by decide) ?_
  refine po_iload_n hF dX0_addRectangle_1 rfl rfl ?_
  refine po_ishl hF dX0_addRectangle_2 ?_
  refine po_iconst (v := 1) hF dX0_addRectangle_3 (by decide) ?_
  refine po_isub hF dX0_addRectangle_4 ?_
  refine po_iload_n hF dX0_addRectangle_5 rfl rfl ?_
  refine po_ishl hF dX0_addRectangle_6 ?_
  refine po_top hm (fun v2 hm => ?_)
  refine po_istore (L' := [(5, .int v2), (0, .ref l0), (1, .int l1), (2, .int l2), (3, .int l3), (4, .int l4)]) hF dX0_addRectangle_7 (by decide) rfl ?_
  refine po_iconst (v := 0) hF dX0_addRectangle_9 (by decide) ?_
  refine po_istore (L' := [(6, .int 0), (5, .int v2), (0, .ref l0), (1, .int l1), (2, .int l2), (3, .int l3), (4, .int l4)]) hF dX0_addRectangle_10 (by decide) rfl ?_
  refine po_sub (L' := [(0, .ref l0), (2, .int l2), (4, .int l4), (5, .int v2), (6, .int 0)]) rfl ?_
  exact w_X0_addRectangle_12L hF hL HL 5000 I l0 l2 l4 v2 0 hm kl0
theorem c_X0_addRectangle {K : po_K} {R : po_R} {I : po_I} {st : Nat → Nat} {ρ : po_I} (HL : po_Lay K R st) {l0 : Nat} {l1 : Int32} {l2 : Int32} {l3 : Int32} {l4 : Int32} (kl0 : K l0 = (11, 1)) (hm : m_X0_addRectangle I l0 l1 l2 l3 l4 = some ρ) : po_C st yX0_addRectangle cX0_addRectangle 7 none 0 0 0 [.ref l0, .int l1, .int l2, .int l3, .int l4] K R I none (.inl (none)) K R (ρ) none := by
  refine po_ofC (by decide +kernel) (Nat.le_of_ble_eq_true rfl) (fun X G hF hL => ?_)
  exact w_X0_addRectangle_e hF hL HL I l0 l1 l2 l3 l4 kl0 hm
set_option maxRecDepth 20000 in
set_option maxHeartbeats 2000000 in
theorem w_X3_readRectangle_98 {X : po_X} {G : po_G} {st : Nat → Nat} {K : po_K} {R : po_R} {ρ : Int32 × po_I} (hF : po_F X G cX3_readRectangle RX3 7 st) (hL : po_L X (some .boolean) 2 0 0 "readRectangle") (HL : po_Lay K R st) (I : po_I) (l0 : Nat) (l2 : Int32) (kl0 : K l0 = (14, 4)) (hm : m_X3_readRectangle_98 I l0 l2 = some ρ) : po_V X G 7 (po_Q X G (.inl (some (.int ρ.1))) K R (ρ.2) none 0 0) 0 0 98 [(0, .ref l0), (2, .int l2)] [] K R I none := by
  unfold m_X3_readRectangle_98 at hm
  refine po_aload_n hF dX3_readRectangle_98 rfl rfl ?_
  refine po_iload_n hF dX3_readRectangle_99 rfl rfl ?_
  obtain ⟨x1, hx1, hm⟩ := po_bind hm
  refine po_callV (As := [.int l2]) hF dX3_readRectangle_100 wq_568 mv_X3_failAt ws_X3_failAt (show po_cl[3]? = some _ from rfl) rfl kl0 (c_X3_failAt HL kl0 hx1) rfl (po_rtL hL rfl) (Nat.le_of_ble_eq_true rfl) rfl ?_
  obtain ⟨hz, hm⟩ := po_zif hm
  cases hm
  exact po_zret hF hL dX3_readRectangle_103 (po_nz hz) (by decide) (by decide) rfl rfl rfl (Or.inl rfl)
set_option maxRecDepth 20000 in
set_option maxHeartbeats 2000000 in
theorem w_X3_readRectangle_e {X : po_X} {G : po_G} {st : Nat → Nat} {K : po_K} {R : po_R} {ρ : Int32 × po_I} (hF : po_F X G cX3_readRectangle RX3 7 st) (hL : po_L X (some .boolean) 2 0 0 "readRectangle") (HL : po_Lay K R st) (I : po_I) (l0 : Nat) (l1 : Nat) (kl0 : K l0 = (14, 4)) (kl1 : K l1 = (11, 1)) (hm : m_X3_readRectangle_e I l0 l1 = some ρ) : po_V X G 7 (po_Q X G (.inl (some (.int ρ.1))) K R (ρ.2) none 0 0) 0 0 0 [(0, .ref l0), (1, .ref l1)] [] K R I none := by
  unfold m_X3_readRectangle_e at hm
  refine po_aload_n hF dX3_readRectangle_0 rfl rfl ?_
  refine po_getf (v := .int (I l0 2)) hF dX3_readRectangle_1 fl_X3_19 kl0 rfl ?_
  refine po_top hm (fun v2 hm => ?_)
  refine po_istore_n (L' := [(2, .int v2), (0, .ref l0), (1, .ref l1)]) hF dX3_readRectangle_4 rfl (by decide) rfl ?_
  refine po_aload_n hF dX3_readRectangle_5 rfl rfl ?_
  refine po_bipush (v := 97) hF dX3_readRectangle_6 (by decide) ?_
  refine po_iconst (v := 0) hF dX3_readRectangle_8 (by decide) ?_
  refine po_bipush (v := 19) hF dX3_readRectangle_9 (by decide) ?_
  obtain ⟨x3, hx3, hm⟩ := po_bind hm
  refine po_callV (As := [.int 97, .int 0, .int 19]) hF dX3_readRectangle_11 wq_572 mv_X3_readValue ws_X3_readValue (show po_cl[3]? = some _ from rfl) rfl kl0 (c_X3_readValue HL kl0 hx3) rfl (po_rtL hL rfl) (Nat.le_of_ble_eq_true rfl) rfl ?_
  refine po_top hm (fun v4 hm => ?_)
  refine po_istore_n (L' := [(3, .int v4), (2, .int v2), (0, .ref l0), (1, .ref l1)]) hF dX3_readRectangle_14 rfl (by decide) rfl ?_
  refine po_iload_n hF dX3_readRectangle_15 rfl rfl ?_
  refine po_iconst (v := (-1)) hF dX3_readRectangle_16 (by decide) ?_
  refine po_icmp_ne (tgt := 22) hF dX3_readRectangle_17 (by decide) hm (fun hm => ?_) (fun hm => ?_)
  · refine po_aload_n hF dX3_readRectangle_22 rfl rfl ?_
    refine po_bipush (v := 97) hF dX3_readRectangle_23 (by decide) ?_
    refine po_iconst (v := 0) hF dX3_readRectangle_25 (by decide) ?_
    refine po_bipush (v := 13) hF dX3_readRectangle_26 (by decide) ?_
    obtain ⟨x5, hx5, hm⟩ := po_bind hm
    refine po_callV (As := [.int 97, .int 0, .int 13]) hF dX3_readRectangle_28 wq_572 mv_X3_readValue ws_X3_readValue (show po_cl[3]? = some _ from rfl) rfl kl0 (c_X3_readValue HL kl0 hx5) rfl (po_rtL hL rfl) (Nat.le_of_ble_eq_true rfl) rfl ?_
    refine po_top hm (fun v6 hm => ?_)
    refine po_istore (L' := [(4, .int v6), (3, .int v4), (2, .int v2), (0, .ref l0), (1, .ref l1)]) hF dX3_readRectangle_31 (by decide) rfl ?_
    refine po_iload hF dX3_readRectangle_33 rfl ?_
    refine po_iconst (v := (-1)) hF dX3_readRectangle_35 (by decide) ?_
    refine po_icmp_ne (tgt := 41) hF dX3_readRectangle_36 (by decide) hm (fun hm => ?_) (fun hm => ?_)
    · refine po_aload_n hF dX3_readRectangle_41 rfl rfl ?_
      refine po_bipush (v := 48) hF dX3_readRectangle_42 (by decide) ?_
      refine po_iconst (v := 1) hF dX3_readRectangle_44 (by decide) ?_
      refine po_bipush (v := 9) hF dX3_readRectangle_45 (by decide) ?_
      obtain ⟨x7, hx7, hm⟩ := po_bind hm
      refine po_callV (As := [.int 48, .int 1, .int 9]) hF dX3_readRectangle_47 wq_572 mv_X3_readValue ws_X3_readValue (show po_cl[3]? = some _ from rfl) rfl kl0 (c_X3_readValue HL kl0 hx7) rfl (po_rtL hL rfl) (Nat.le_of_ble_eq_true rfl) rfl ?_
      refine po_top hm (fun v8 hm => ?_)
      refine po_istore (L' := [(5, .int v8), (4, .int v6), (3, .int v4), (2, .int v2), (0, .ref l0), (1, .ref l1)]) hF dX3_readRectangle_50 (by decide) rfl ?_
      refine po_iload hF dX3_readRectangle_52 rfl ?_
      refine po_iconst (v := (-1)) hF dX3_readRectangle_54 (by decide) ?_
      refine po_icmp_ne (tgt := 60) hF dX3_readRectangle_55 (by decide) hm (fun hm => ?_) (fun hm => ?_)
      · refine po_aload_n hF dX3_readRectangle_60 rfl rfl ?_
        refine po_bipush (v := 48) hF dX3_readRectangle_61 (by decide) ?_
        refine po_iconst (v := 1) hF dX3_readRectangle_63 (by decide) ?_
        refine po_bipush (v := 9) hF dX3_readRectangle_64 (by decide) ?_
        obtain ⟨x9, hx9, hm⟩ := po_bind hm
        refine po_callV (As := [.int 48, .int 1, .int 9]) hF dX3_readRectangle_66 wq_572 mv_X3_readValue ws_X3_readValue (show po_cl[3]? = some _ from rfl) rfl kl0 (c_X3_readValue HL kl0 hx9) rfl (po_rtL hL rfl) (Nat.le_of_ble_eq_true rfl) rfl ?_
        refine po_top hm (fun v10 hm => ?_)
        refine po_istore (L' := [(6, .int v10), (5, .int v8), (4, .int v6), (3, .int v4), (2, .int v2), (0, .ref l0), (1, .ref l1)]) hF dX3_readRectangle_69 (by decide) rfl ?_
        refine po_iload hF dX3_readRectangle_71 rfl ?_
        refine po_iconst (v := (-1)) hF dX3_readRectangle_73 (by decide) ?_
        refine po_icmp_ne (tgt := 79) hF dX3_readRectangle_74 (by decide) hm (fun hm => ?_) (fun hm => ?_)
        · refine po_iload_n hF dX3_readRectangle_79 rfl rfl ?_
          refine po_iload hF dX3_readRectangle_80 rfl ?_
          refine po_iadd hF dX3_readRectangle_82 ?_
          refine po_bipush (v := 20) hF dX3_readRectangle_83 (by decide) ?_
          refine po_icmp_gt (tgt := 98) hF dX3_readRectangle_85 (by decide) hm (fun hm => ?_) (fun hm => ?_)
          · refine po_sub (L' := [(0, .ref l0), (2, .int v2)]) rfl ?_
            exact w_X3_readRectangle_98 hF hL HL (x9.2) l0 v2 kl0 hm
          · refine po_iload hF dX3_readRectangle_88 rfl ?_
            refine po_iload hF dX3_readRectangle_90 rfl ?_
            refine po_iadd hF dX3_readRectangle_92 ?_
            refine po_bipush (v := 14) hF dX3_readRectangle_93 (by decide) ?_
            refine po_icmp_le (tgt := 104) hF dX3_readRectangle_95 (by decide) hm (fun hm => ?_) (fun hm => ?_)
            · refine po_aload_n hF dX3_readRectangle_104 rfl rfl ?_
              refine po_iload_n hF dX3_readRectangle_105 rfl rfl ?_
              refine po_iload hF dX3_readRectangle_106 rfl ?_
              refine po_iload hF dX3_readRectangle_108 rfl ?_
              refine po_iload hF dX3_readRectangle_110 rfl ?_
              obtain ⟨x11, hx11, hm⟩ := po_bind hm
              refine po_callV (As := [.int v4, .int v6, .int v8, .int v10]) hF dX3_readRectangle_112 wq_592 mv_X0_addRectangle ws_X0_addRectangle (show po_cl[0]? = some _ from rfl) rfl kl1 (c_X0_addRectangle HL kl1 hx11) rfl (po_rtL hL rfl) (Nat.le_of_ble_eq_true rfl) rfl ?_
              refine po_iconst (v := 1) hF dX3_readRectangle_115 (by decide) ?_
              cases hm
              exact po_zret hF hL dX3_readRectangle_116 (by decide) (by decide) (by decide) rfl rfl rfl (Or.inl rfl)
            · refine po_sub (L' := [(0, .ref l0), (2, .int v2)]) rfl ?_
              exact w_X3_readRectangle_98 hF hL HL (x9.2) l0 v2 kl0 hm
        · refine po_iconst (v := 0) hF dX3_readRectangle_77 (by decide) ?_
          cases hm
          exact po_zret hF hL dX3_readRectangle_78 (by decide) (by decide) (by decide) rfl rfl rfl (Or.inl rfl)
      · refine po_iconst (v := 0) hF dX3_readRectangle_58 (by decide) ?_
        cases hm
        exact po_zret hF hL dX3_readRectangle_59 (by decide) (by decide) (by decide) rfl rfl rfl (Or.inl rfl)
    · refine po_iconst (v := 0) hF dX3_readRectangle_39 (by decide) ?_
      cases hm
      exact po_zret hF hL dX3_readRectangle_40 (by decide) (by decide) (by decide) rfl rfl rfl (Or.inl rfl)
  · refine po_iconst (v := 0) hF dX3_readRectangle_20 (by decide) ?_
    cases hm
    exact po_zret hF hL dX3_readRectangle_21 (by decide) (by decide) (by decide) rfl rfl rfl (Or.inl rfl)
theorem c_X3_readRectangle {K : po_K} {R : po_R} {I : po_I} {st : Nat → Nat} {ρ : Int32 × po_I} (HL : po_Lay K R st) {l0 : Nat} {l1 : Nat} (kl0 : K l0 = (14, 4)) (kl1 : K l1 = (11, 1)) (hm : m_X3_readRectangle I l0 l1 = some ρ) : po_C st yX3_readRectangle cX3_readRectangle 7 (some .boolean) 2 0 0 [.ref l0, .ref l1] K R I none (.inl (some (.int ρ.1))) K R (ρ.2) none := by
  refine po_ofC (by decide +kernel) (Nat.le_of_ble_eq_true rfl) (fun X G hF hL => ?_)
  exact w_X3_readRectangle_e hF hL HL I l0 l1 kl0 kl1 hm
set_option maxRecDepth 20000 in
set_option maxHeartbeats 2000000 in
theorem w_X3_readArea_40 {X : po_X} {G : po_G} {st : Nat → Nat} {K : po_K} {R : po_R} {ρ : Int32 × po_I} (hF : po_F X G cX3_readArea RX3 3 st) (hL : po_L X (some .boolean) 3 0 0 "readArea") (HL : po_Lay K R st) (I : po_I) (hm : m_X3_readArea_40 I = some ρ) : po_V X G 3 (po_Q X G (.inl (some (.int ρ.1))) K R (ρ.2) none 0 0) 0 0 40 [] [] K R I none := by
  unfold m_X3_readArea_40 at hm
  refine po_iconst (v := 1) hF dX3_readArea_40 (by decide) ?_
  cases hm
  exact po_zret hF hL dX3_readArea_41 (by decide) (by decide) (by decide) rfl rfl rfl (Or.inl rfl)
set_option maxRecDepth 20000 in
set_option maxHeartbeats 2000000 in
theorem w_X3_readArea_24 {X : po_X} {G : po_G} {st : Nat → Nat} {K : po_K} {R : po_R} {ρ : Int32 × po_I} {r6 : po_I → Nat → Nat → Int32 → Option (Int32 × po_I)} (hF : po_F X G cX3_readArea RX3 3 st) (hL : po_L X (some .boolean) 3 0 0 "readArea") (HL : po_Lay K R st) (h6 : ∀ (I : po_I) (l0 : Nat) (l1 : Nat) (l2 : Int32), r6 I l0 l1 l2 = some ρ → K l0 = (14, 4) → K l1 = (11, 1) → po_V X G 3 (po_Q X G (.inl (some (.int ρ.1))) K R (ρ.2) none 0 0) 0 0 6 [(0, .ref l0), (1, .ref l1), (2, .int l2)] [] K R I none) (I : po_I) (l0 : Nat) (l1 : Nat) (l2 : Int32) (kl0 : K l0 = (14, 4)) (kl1 : K l1 = (11, 1)) (hm : m_X3_readArea_24 r6 I l0 l1 l2 = some ρ) : po_V X G 3 (po_Q X G (.inl (some (.int ρ.1))) K R (ρ.2) none 0 0) 0 0 24 [(0, .ref l0), (1, .ref l1), (2, .int l2)] [] K R I none := by
  unfold m_X3_readArea_24 at hm
  refine po_aload_n hF dX3_readArea_24 rfl rfl ?_
  refine po_aload_n hF dX3_readArea_25 rfl rfl ?_
  obtain ⟨x1, hx1, hm⟩ := po_bind hm
  refine po_callV (As := [.ref l1]) hF dX3_readArea_26 wq_588 mv_X3_readRectangle ws_X3_readRectangle (show po_cl[3]? = some _ from rfl) rfl kl0 (c_X3_readRectangle HL kl0 kl1 hx1) rfl (po_rtL hL rfl) (Nat.le_of_ble_eq_true rfl) rfl ?_
  refine po_if_ne (tgt := 34) hF dX3_readArea_29 (by decide) hm (fun hm => ?_) (fun hm => ?_)
  · refine po_iinc (v := l2 + 1) (L' := [(2, .int (l2 + 1)), (0, .ref l0), (1, .ref l1)]) hF dX3_readArea_34 rfl rfl (by decide) rfl ?_
    refine po_goto (tgt := 6) hF dX3_readArea_37 (by decide) ?_
    refine po_sub (L' := [(0, .ref l0), (1, .ref l1), (2, .int (l2 + 1))]) rfl ?_
    exact h6 (x1.2) l0 l1 (l2 + 1) hm kl0 kl1
  · refine po_iconst (v := 0) hF dX3_readArea_32 (by decide) ?_
    cases hm
    exact po_zret hF hL dX3_readArea_33 (by decide) (by decide) (by decide) rfl rfl rfl (Or.inl rfl)
set_option maxRecDepth 20000 in
set_option maxHeartbeats 2000000 in
theorem w_X3_readArea_6 {X : po_X} {G : po_G} {st : Nat → Nat} {K : po_K} {R : po_R} {ρ : Int32 × po_I} {r6 : po_I → Nat → Nat → Int32 → Option (Int32 × po_I)} (hF : po_F X G cX3_readArea RX3 3 st) (hL : po_L X (some .boolean) 3 0 0 "readArea") (HL : po_Lay K R st) (h6 : ∀ (I : po_I) (l0 : Nat) (l1 : Nat) (l2 : Int32), r6 I l0 l1 l2 = some ρ → K l0 = (14, 4) → K l1 = (11, 1) → po_V X G 3 (po_Q X G (.inl (some (.int ρ.1))) K R (ρ.2) none 0 0) 0 0 6 [(0, .ref l0), (1, .ref l1), (2, .int l2)] [] K R I none) (I : po_I) (l0 : Nat) (l1 : Nat) (l2 : Int32) (kl0 : K l0 = (14, 4)) (kl1 : K l1 = (11, 1)) (hm : m_X3_readArea_6 r6 I l0 l1 l2 = some ρ) : po_V X G 3 (po_Q X G (.inl (some (.int ρ.1))) K R (ρ.2) none 0 0) 0 0 6 [(0, .ref l0), (1, .ref l1), (2, .int l2)] [] K R I none := by
  unfold m_X3_readArea_6 at hm
  refine po_iload_n hF dX3_readArea_6 rfl rfl ?_
  refine po_iconst (v := 3) hF dX3_readArea_7 (by decide) ?_
  refine po_icmp_ge (tgt := 40) hF dX3_readArea_8 (by decide) hm (fun hm => ?_) (fun hm => ?_)
  · refine po_sub (L' := []) rfl ?_
    exact w_X3_readArea_40 hF hL HL I hm
  · refine po_iload_n hF dX3_readArea_11 rfl rfl ?_
    refine po_if_eq (tgt := 24) hF dX3_readArea_12 (by decide) hm (fun hm => ?_) (fun hm => ?_)
    · exact w_X3_readArea_24 hF hL HL h6 I l0 l1 l2 kl0 kl1 hm
    · refine po_aload_n hF dX3_readArea_15 rfl rfl ?_
      obtain ⟨x2, hx2, hm⟩ := po_bind hm
      refine po_callV (As := []) hF dX3_readArea_16 wq_560 mv_X3_next ws_X3_next (show po_cl[3]? = some _ from rfl) rfl kl0 (c_X3_next HL kl0 hx2) rfl (po_rtL hL rfl) (Nat.le_of_ble_eq_true rfl) rfl ?_
      refine po_bipush (v := 59) hF dX3_readArea_19 (by decide) ?_
      refine po_icmp_eq (tgt := 40) hF dX3_readArea_21 (by decide) hm (fun hm => ?_) (fun hm => ?_)
      · refine po_sub (L' := []) rfl ?_
        exact w_X3_readArea_40 hF hL HL I hm
      · exact w_X3_readArea_24 hF hL HL h6 I l0 l1 l2 kl0 kl1 hm
theorem w_X3_readArea_6L {X : po_X} {G : po_G} {st : Nat → Nat} {K : po_K} {R : po_R} {ρ : Int32 × po_I} (hF : po_F X G cX3_readArea RX3 3 st) (hL : po_L X (some .boolean) 3 0 0 "readArea") (HL : po_Lay K R st) : ∀ (n : Nat) (I : po_I) (l0 : Nat) (l1 : Nat) (l2 : Int32), m_X3_readArea_6L n I l0 l1 l2 = some ρ → K l0 = (14, 4) → K l1 = (11, 1) → po_V X G 3 (po_Q X G (.inl (some (.int ρ.1))) K R (ρ.2) none 0 0) 0 0 6 [(0, .ref l0), (1, .ref l1), (2, .int l2)] [] K R I none := by
  intro n
  induction n with
  | zero => intro I l0 l1 l2 hm; cases hm
  | succ n ih => intro I l0 l1 l2 hm kl0 kl1; exact w_X3_readArea_6 hF hL HL (ih) I l0 l1 l2 kl0 kl1 hm
set_option maxRecDepth 20000 in
set_option maxHeartbeats 2000000 in
theorem w_X3_readArea_e {X : po_X} {G : po_G} {st : Nat → Nat} {K : po_K} {R : po_R} {ρ : Int32 × po_I} (hF : po_F X G cX3_readArea RX3 3 st) (hL : po_L X (some .boolean) 3 0 0 "readArea") (HL : po_Lay K R st) (I : po_I) (l0 : Nat) (l1 : Nat) (kl0 : K l0 = (14, 4)) (kl1 : K l1 = (11, 1)) (hm : m_X3_readArea_e I l0 l1 = some ρ) : po_V X G 3 (po_Q X G (.inl (some (.int ρ.1))) K R (ρ.2) none 0 0) 0 0 0 [(0, .ref l0), (1, .ref l1)] [] K R I none := by
  unfold m_X3_readArea_e at hm
  refine po_aload_n hF dX3_readArea_0 rfl rfl ?_
  obtain ⟨x3, hx3, hm⟩ := po_bind hm
  refine po_callV (As := []) hF dX3_readArea_1 wq_584 mv_X0_clear ws_X0_clear (show po_cl[0]? = some _ from rfl) rfl kl1 (c_X0_clear HL kl1 hx3) rfl (po_rtL hL rfl) (Nat.le_of_ble_eq_true rfl) rfl ?_
  refine po_iconst (v := 0) hF dX3_readArea_4 (by decide) ?_
  refine po_istore_n (L' := [(2, .int 0), (0, .ref l0), (1, .ref l1)]) hF dX3_readArea_5 rfl (by decide) rfl ?_
  refine po_sub (L' := [(0, .ref l0), (1, .ref l1), (2, .int 0)]) rfl ?_
  exact w_X3_readArea_6L hF hL HL 5000 x3 l0 l1 0 hm kl0 kl1
theorem c_X3_readArea {K : po_K} {R : po_R} {I : po_I} {st : Nat → Nat} {ρ : Int32 × po_I} (HL : po_Lay K R st) {l0 : Nat} {l1 : Nat} (kl0 : K l0 = (14, 4)) (kl1 : K l1 = (11, 1)) (hm : m_X3_readArea I l0 l1 = some ρ) : po_C st yX3_readArea cX3_readArea 3 (some .boolean) 3 0 0 [.ref l0, .ref l1] K R I none (.inl (some (.int ρ.1))) K R (ρ.2) none := by
  refine po_ofC (by decide +kernel) (Nat.le_of_ble_eq_true rfl) (fun X G hF hL => ?_)
  exact w_X3_readArea_e hF hL HL I l0 l1 kl0 kl1 hm
set_option maxRecDepth 20000 in
set_option maxHeartbeats 2000000 in
theorem w_J6_bitCount_0f7a4_e {X : po_X} {G : po_G} {st : Nat → Nat} {K : po_K} {I : po_I} {R : po_R} {ρ : Int32} (hF : po_F X G cJ6_bitCount_0f7a4 RJ6 1 st) (hL : po_L X (some .int) 0 0 0 "bitCount") (HL : po_Lay K R st) (l0 : Int32) (hm : m_J6_bitCount_0f7a4_e l0 = some ρ) : po_V X G 1 (po_Q X G (.inl (some (.int ρ))) K R I none 0 0) 0 0 0 [(0, .int l0)] [] K R I none := by
  unfold m_J6_bitCount_0f7a4_e at hm
  refine po_iload_n hF dJ6_bitCount_0f7a4_0 rfl rfl ?_
  refine po_iload_n hF dJ6_bitCount_0f7a4_1 rfl rfl ?_
  refine po_iconst (v := 1) hF dJ6_bitCount_0f7a4_2 (by decide) ?_
  refine po_iushr hF dJ6_bitCount_0f7a4_3 ?_
  refine po_ldcw hF wq_607 dJ6_bitCount_0f7a4_4 ?_
  refine po_iand hF dJ6_bitCount_0f7a4_7 ?_
  refine po_isub hF dJ6_bitCount_0f7a4_8 ?_
  refine po_top hm (fun v1 hm => ?_)
  refine po_istore_n (L' := [(0, .int v1)]) hF dJ6_bitCount_0f7a4_9 rfl (by decide) rfl ?_
  refine po_iload_n hF dJ6_bitCount_0f7a4_10 rfl rfl ?_
  refine po_ldcw hF wq_608 dJ6_bitCount_0f7a4_11 ?_
  refine po_iand hF dJ6_bitCount_0f7a4_14 ?_
  refine po_iload_n hF dJ6_bitCount_0f7a4_15 rfl rfl ?_
  refine po_iconst (v := 2) hF dJ6_bitCount_0f7a4_16 (by decide) ?_
  refine po_iushr hF dJ6_bitCount_0f7a4_17 ?_
  refine po_ldcw hF wq_608 dJ6_bitCount_0f7a4_18 ?_
  refine po_iand hF dJ6_bitCount_0f7a4_21 ?_
  refine po_iadd hF dJ6_bitCount_0f7a4_22 ?_
  refine po_top hm (fun v2 hm => ?_)
  refine po_istore_n (L' := [(0, .int v2)]) hF dJ6_bitCount_0f7a4_23 rfl (by decide) rfl ?_
  refine po_iload_n hF dJ6_bitCount_0f7a4_24 rfl rfl ?_
  refine po_iload_n hF dJ6_bitCount_0f7a4_25 rfl rfl ?_
  refine po_iconst (v := 4) hF dJ6_bitCount_0f7a4_26 (by decide) ?_
  refine po_iushr hF dJ6_bitCount_0f7a4_27 ?_
  refine po_iadd hF dJ6_bitCount_0f7a4_28 ?_
  refine po_ldcw hF wq_609 dJ6_bitCount_0f7a4_29 ?_
  refine po_iand hF dJ6_bitCount_0f7a4_32 ?_
  refine po_top hm (fun v3 hm => ?_)
  refine po_istore_n (L' := [(0, .int v3)]) hF dJ6_bitCount_0f7a4_33 rfl (by decide) rfl ?_
  refine po_iload_n hF dJ6_bitCount_0f7a4_34 rfl rfl ?_
  refine po_iload_n hF dJ6_bitCount_0f7a4_35 rfl rfl ?_
  refine po_bipush (v := 8) hF dJ6_bitCount_0f7a4_36 (by decide) ?_
  refine po_iushr hF dJ6_bitCount_0f7a4_38 ?_
  refine po_iadd hF dJ6_bitCount_0f7a4_39 ?_
  refine po_top hm (fun v4 hm => ?_)
  refine po_istore_n (L' := [(0, .int v4)]) hF dJ6_bitCount_0f7a4_40 rfl (by decide) rfl ?_
  refine po_iload_n hF dJ6_bitCount_0f7a4_41 rfl rfl ?_
  refine po_iload_n hF dJ6_bitCount_0f7a4_42 rfl rfl ?_
  refine po_bipush (v := 16) hF dJ6_bitCount_0f7a4_43 (by decide) ?_
  refine po_iushr hF dJ6_bitCount_0f7a4_45 ?_
  refine po_iadd hF dJ6_bitCount_0f7a4_46 ?_
  refine po_top hm (fun v5 hm => ?_)
  refine po_istore_n (L' := [(0, .int v5)]) hF dJ6_bitCount_0f7a4_47 rfl (by decide) rfl ?_
  refine po_iload_n hF dJ6_bitCount_0f7a4_48 rfl rfl ?_
  refine po_bipush (v := 63) hF dJ6_bitCount_0f7a4_49 (by decide) ?_
  refine po_iand hF dJ6_bitCount_0f7a4_51 ?_
  cases hm
  exact po_iret hF hL dJ6_bitCount_0f7a4_52 (by decide) (by decide) rfl rfl rfl (Or.inl rfl)
theorem c_J6_bitCount_0f7a4 {K : po_K} {R : po_R} {I : po_I} {st : Nat → Nat} {ρ : Int32} (HL : po_Lay K R st) {l0 : Int32} (hm : m_J6_bitCount_0f7a4 l0 = some ρ) : po_C st yJ6_bitCount_0f7a4 cJ6_bitCount_0f7a4 1 (some .int) 0 0 0 [.int l0] K R I none (.inl (some (.int ρ))) K R I none := by
  refine po_ofC (by decide +kernel) (Nat.le_of_ble_eq_true rfl) (fun X G hF hL => ?_)
  exact w_J6_bitCount_0f7a4_e hF hL HL l0 hm
set_option maxRecDepth 20000 in
set_option maxHeartbeats 2000000 in
theorem w_X0_cellsIn_4 {X : po_X} {G : po_G} {st : Nat → Nat} {K : po_K} {I : po_I} {R : po_R} {ρ : Int32} {r4 : Nat → Nat → Int32 → Int32 → Option (Int32)} (hF : po_F X G cX0_cellsIn RX0 4 st) (hL : po_L X (some .int) 1 0 0 "cellsIn") (HL : po_Lay K R st) (h4 : ∀ (l0 : Nat) (l1 : Nat) (l2 : Int32) (l3 : Int32), r4 l0 l1 l2 l3 = some ρ → K l0 = (11, 1) → K l1 = (11, 1) → po_V X G 4 (po_Q X G (.inl (some (.int ρ))) K R I none 0 0) 0 0 4 [(0, .ref l0), (1, .ref l1), (2, .int l2), (3, .int l3)] [] K R I none) (l0 : Nat) (l1 : Nat) (l2 : Int32) (l3 : Int32) (kl0 : K l0 = (11, 1)) (kl1 : K l1 = (11, 1)) (hm : m_X0_cellsIn_4 I r4 l0 l1 l2 l3 = some ρ) : po_V X G 4 (po_Q X G (.inl (some (.int ρ))) K R I none 0 0) 0 0 4 [(0, .ref l0), (1, .ref l1), (2, .int l2), (3, .int l3)] [] K R I none := by
  unfold m_X0_cellsIn_4 at hm
  refine po_iload_n hF dX0_cellsIn_4 rfl rfl ?_
  refine po_bipush (v := 14) hF dX0_cellsIn_5 (by decide) ?_
  refine po_icmp_ge (tgt := 35) hF dX0_cellsIn_7 (by decide) hm (fun hm => ?_) (fun hm => ?_)
  · refine po_iload_n hF dX0_cellsIn_35 rfl rfl ?_
    cases hm
    exact po_iret hF hL dX0_cellsIn_36 (by decide) (by decide) rfl rfl rfl (Or.inl rfl)
  · refine po_iload_n hF dX0_cellsIn_10 rfl rfl ?_
    refine po_aload_n hF dX0_cellsIn_11 rfl rfl ?_
    refine po_getf (v := .ref (l0 + 1)) hF dX0_cellsIn_12 fl_X0_9 kl0 (ly_0_0 HL kl0).1 ?_
    refine po_iload_n hF dX0_cellsIn_15 rfl rfl ?_
    refine po_iald hF dX0_cellsIn_16 ((ly_0_0 HL kl0).2) (Or.inl rfl) hm (fun hm => ?_)
    refine po_aload_n hF dX0_cellsIn_17 rfl rfl ?_
    refine po_getf (v := .ref (l1 + 1)) hF dX0_cellsIn_18 fl_X0_9 kl1 (ly_0_0 HL kl1).1 ?_
    refine po_iload_n hF dX0_cellsIn_21 rfl rfl ?_
    refine po_iald hF dX0_cellsIn_22 ((ly_0_0 HL kl1).2) (Or.inl rfl) hm (fun hm => ?_)
    refine po_iand hF dX0_cellsIn_23 ?_
    obtain ⟨x1, hx1, hm⟩ := po_bind hm
    refine po_callS (As := [.int ((I (l0 + 1) (Int32.toNatClampNeg l3)) &&& (I (l1 + 1) (Int32.toNatClampNeg l3)))]) hF dX0_cellsIn_24 wq_604 mv_J6_bitCount_0f7a4 (c_J6_bitCount_0f7a4 HL hx1) rfl (po_rtL hL rfl) (Nat.le_of_ble_eq_true rfl) rfl ?_
    refine po_iadd hF dX0_cellsIn_27 ?_
    refine po_top hm (fun v2 hm => ?_)
    refine po_istore_n (L' := [(2, .int v2), (0, .ref l0), (1, .ref l1), (3, .int l3)]) hF dX0_cellsIn_28 rfl (by decide) rfl ?_
    refine po_iinc (v := l3 + 1) (L' := [(3, .int (l3 + 1)), (2, .int v2), (0, .ref l0), (1, .ref l1)]) hF dX0_cellsIn_29 rfl rfl (by decide) rfl ?_
    refine po_goto (tgt := 4) hF dX0_cellsIn_32 (by decide) ?_
    refine po_sub (L' := [(0, .ref l0), (1, .ref l1), (2, .int v2), (3, .int (l3 + 1))]) rfl ?_
    exact h4 l0 l1 v2 (l3 + 1) hm kl0 kl1
theorem w_X0_cellsIn_4L {X : po_X} {G : po_G} {st : Nat → Nat} {K : po_K} {I : po_I} {R : po_R} {ρ : Int32} (hF : po_F X G cX0_cellsIn RX0 4 st) (hL : po_L X (some .int) 1 0 0 "cellsIn") (HL : po_Lay K R st) : ∀ (n : Nat) (l0 : Nat) (l1 : Nat) (l2 : Int32) (l3 : Int32), m_X0_cellsIn_4L I n l0 l1 l2 l3 = some ρ → K l0 = (11, 1) → K l1 = (11, 1) → po_V X G 4 (po_Q X G (.inl (some (.int ρ))) K R I none 0 0) 0 0 4 [(0, .ref l0), (1, .ref l1), (2, .int l2), (3, .int l3)] [] K R I none := by
  intro n
  induction n with
  | zero => intro l0 l1 l2 l3 hm; cases hm
  | succ n ih => intro l0 l1 l2 l3 hm kl0 kl1; exact w_X0_cellsIn_4 hF hL HL (ih) l0 l1 l2 l3 kl0 kl1 hm
set_option maxRecDepth 20000 in
set_option maxHeartbeats 2000000 in
theorem w_X0_cellsIn_e {X : po_X} {G : po_G} {st : Nat → Nat} {K : po_K} {I : po_I} {R : po_R} {ρ : Int32} (hF : po_F X G cX0_cellsIn RX0 4 st) (hL : po_L X (some .int) 1 0 0 "cellsIn") (HL : po_Lay K R st) (l0 : Nat) (l1 : Nat) (kl0 : K l0 = (11, 1)) (kl1 : K l1 = (11, 1)) (hm : m_X0_cellsIn_e I l0 l1 = some ρ) : po_V X G 4 (po_Q X G (.inl (some (.int ρ))) K R I none 0 0) 0 0 0 [(0, .ref l0), (1, .ref l1)] [] K R I none := by
  unfold m_X0_cellsIn_e at hm
  refine po_iconst (v := 0) hF dX0_cellsIn_0 (by decide) ?_
  refine po_istore_n (L' := [(2, .int 0), (0, .ref l0), (1, .ref l1)]) hF dX0_cellsIn_1 rfl (by decide) rfl ?_
  refine po_iconst (v := 0) hF dX0_cellsIn_2 (by decide) ?_
  refine po_istore_n (L' := [(3, .int 0), (2, .int 0), (0, .ref l0), (1, .ref l1)]) hF dX0_cellsIn_3 rfl (by decide) rfl ?_
  refine po_sub (L' := [(0, .ref l0), (1, .ref l1), (2, .int 0), (3, .int 0)]) rfl ?_
  exact w_X0_cellsIn_4L hF hL HL 5000 l0 l1 0 0 hm kl0 kl1
theorem c_X0_cellsIn {K : po_K} {R : po_R} {I : po_I} {st : Nat → Nat} {ρ : Int32} (HL : po_Lay K R st) {l0 : Nat} {l1 : Nat} (kl0 : K l0 = (11, 1)) (kl1 : K l1 = (11, 1)) (hm : m_X0_cellsIn I l0 l1 = some ρ) : po_C st yX0_cellsIn cX0_cellsIn 4 (some .int) 1 0 0 [.ref l0, .ref l1] K R I none (.inl (some (.int ρ))) K R I none := by
  refine po_ofC (by decide +kernel) (Nat.le_of_ble_eq_true rfl) (fun X G hF hL => ?_)
  exact w_X0_cellsIn_e hF hL HL l0 l1 kl0 kl1 hm
set_option maxRecDepth 20000 in
set_option maxHeartbeats 2000000 in
theorem w_X5_hasLotCellIn_2 {X : po_X} {G : po_G} {st : Nat → Nat} {K : po_K} {I : po_I} {R : po_R} {ρ : Int32} {r2 : Nat → Nat → Int32 → Option (Int32)} (hF : po_F X G cX5_hasLotCellIn RX5 3 st) (hL : po_L X (some .boolean) 2 0 0 "hasLotCellIn") (HL : po_Lay K R st) (h2 : ∀ (l0 : Nat) (l1 : Nat) (l2 : Int32), r2 l0 l1 l2 = some ρ → K l0 = (16, 8) → K l1 = (11, 1) → po_V X G 3 (po_Q X G (.inl (some (.int ρ))) K R I none 0 0) 0 0 2 [(0, .ref l0), (1, .ref l1), (2, .int l2)] [] K R I none) (l0 : Nat) (l1 : Nat) (l2 : Int32) (kl0 : K l0 = (16, 8)) (kl1 : K l1 = (11, 1)) (hm : m_X5_hasLotCellIn_2 I r2 l0 l1 l2 = some ρ) : po_V X G 3 (po_Q X G (.inl (some (.int ρ))) K R I none 0 0) 0 0 2 [(0, .ref l0), (1, .ref l1), (2, .int l2)] [] K R I none := by
  unfold m_X5_hasLotCellIn_2 at hm
  refine po_iload_n hF dX5_hasLotCellIn_2 rfl rfl ?_
  refine po_aload_n hF dX5_hasLotCellIn_3 rfl rfl ?_
  refine po_getf (v := .int (I l0 3)) hF dX5_hasLotCellIn_4 fl_X5_25 kl0 rfl ?_
  refine po_icmp_ge (tgt := 34) hF dX5_hasLotCellIn_7 (by decide) hm (fun hm => ?_) (fun hm => ?_)
  · refine po_iconst (v := 0) hF dX5_hasLotCellIn_34 (by decide) ?_
    cases hm
    exact po_zret hF hL dX5_hasLotCellIn_35 (by decide) (by decide) (by decide) rfl rfl rfl (Or.inl rfl)
  · refine po_aload_n hF dX5_hasLotCellIn_10 rfl rfl ?_
    refine po_getf (v := .ref (l0 + 2)) hF dX5_hasLotCellIn_11 fl_X5_21 kl0 (ly_5_2 HL kl0).1 ?_
    refine po_iload_n hF dX5_hasLotCellIn_14 rfl rfl ?_
    refine po_aald hF dX5_hasLotCellIn_15 ((ly_5_2 HL kl0).2) (Or.inl rfl) hm (fun hi1 => (le_5_2 HL kl0 (po_in_lt hi1)).1) (fun hi1 hm => ?_)
    refine po_getf (v := .ref ((l0 + (5 + 3 * (Int32.toNatClampNeg l2))) + 1)) hF dX5_hasLotCellIn_16 fl_X5_79 ((le_5_2 HL kl0 (po_in_lt hi1)).2) (ly_1_2 HL ((le_5_2 HL kl0 (po_in_lt hi1)).2)).1 ?_
    refine po_aload_n hF dX5_hasLotCellIn_19 rfl rfl ?_
    obtain ⟨x2, hx2, hm⟩ := po_bind hm
    refine po_callV (As := [.ref l1]) hF dX5_hasLotCellIn_20 wq_600 mv_X0_cellsIn ws_X0_cellsIn (show po_cl[0]? = some _ from rfl) rfl ((ly_1_2 HL ((le_5_2 HL kl0 (po_in_lt hi1)).2)).2) (c_X0_cellsIn HL ((ly_1_2 HL ((le_5_2 HL kl0 (po_in_lt hi1)).2)).2) kl1 hx2) rfl (po_rtL hL rfl) (Nat.le_of_ble_eq_true rfl) rfl ?_
    refine po_if_le (tgt := 28) hF dX5_hasLotCellIn_23 (by decide) hm (fun hm => ?_) (fun hm => ?_)
    · refine po_iinc (v := l2 + 1) (L' := [(2, .int (l2 + 1)), (0, .ref l0), (1, .ref l1)]) hF dX5_hasLotCellIn_28 rfl rfl (by decide) rfl ?_
      refine po_goto (tgt := 2) hF dX5_hasLotCellIn_31 (by decide) ?_
      refine po_sub (L' := [(0, .ref l0), (1, .ref l1), (2, .int (l2 + 1))]) rfl ?_
      exact h2 l0 l1 (l2 + 1) hm kl0 kl1
    · refine po_iconst (v := 1) hF dX5_hasLotCellIn_26 (by decide) ?_
      cases hm
      exact po_zret hF hL dX5_hasLotCellIn_27 (by decide) (by decide) (by decide) rfl rfl rfl (Or.inl rfl)
theorem w_X5_hasLotCellIn_2L {X : po_X} {G : po_G} {st : Nat → Nat} {K : po_K} {I : po_I} {R : po_R} {ρ : Int32} (hF : po_F X G cX5_hasLotCellIn RX5 3 st) (hL : po_L X (some .boolean) 2 0 0 "hasLotCellIn") (HL : po_Lay K R st) : ∀ (n : Nat) (l0 : Nat) (l1 : Nat) (l2 : Int32), m_X5_hasLotCellIn_2L I n l0 l1 l2 = some ρ → K l0 = (16, 8) → K l1 = (11, 1) → po_V X G 3 (po_Q X G (.inl (some (.int ρ))) K R I none 0 0) 0 0 2 [(0, .ref l0), (1, .ref l1), (2, .int l2)] [] K R I none := by
  intro n
  induction n with
  | zero => intro l0 l1 l2 hm; cases hm
  | succ n ih => intro l0 l1 l2 hm kl0 kl1; exact w_X5_hasLotCellIn_2 hF hL HL (ih) l0 l1 l2 kl0 kl1 hm
set_option maxRecDepth 20000 in
set_option maxHeartbeats 2000000 in
theorem w_X5_hasLotCellIn_e {X : po_X} {G : po_G} {st : Nat → Nat} {K : po_K} {I : po_I} {R : po_R} {ρ : Int32} (hF : po_F X G cX5_hasLotCellIn RX5 3 st) (hL : po_L X (some .boolean) 2 0 0 "hasLotCellIn") (HL : po_Lay K R st) (l0 : Nat) (l1 : Nat) (kl0 : K l0 = (16, 8)) (kl1 : K l1 = (11, 1)) (hm : m_X5_hasLotCellIn_e I l0 l1 = some ρ) : po_V X G 3 (po_Q X G (.inl (some (.int ρ))) K R I none 0 0) 0 0 0 [(0, .ref l0), (1, .ref l1)] [] K R I none := by
  unfold m_X5_hasLotCellIn_e at hm
  refine po_iconst (v := 0) hF dX5_hasLotCellIn_0 (by decide) ?_
  refine po_istore_n (L' := [(2, .int 0), (0, .ref l0), (1, .ref l1)]) hF dX5_hasLotCellIn_1 rfl (by decide) rfl ?_
  refine po_sub (L' := [(0, .ref l0), (1, .ref l1), (2, .int 0)]) rfl ?_
  exact w_X5_hasLotCellIn_2L hF hL HL 5000 l0 l1 0 hm kl0 kl1
theorem c_X5_hasLotCellIn {K : po_K} {R : po_R} {I : po_I} {st : Nat → Nat} {ρ : Int32} (HL : po_Lay K R st) {l0 : Nat} {l1 : Nat} (kl0 : K l0 = (16, 8)) (kl1 : K l1 = (11, 1)) (hm : m_X5_hasLotCellIn I l0 l1 = some ρ) : po_C st yX5_hasLotCellIn cX5_hasLotCellIn 3 (some .boolean) 2 0 0 [.ref l0, .ref l1] K R I none (.inl (some (.int ρ))) K R I none := by
  refine po_ofC (by decide +kernel) (Nat.le_of_ble_eq_true rfl) (fun X G hF hL => ?_)
  exact w_X5_hasLotCellIn_e hF hL HL l0 l1 kl0 kl1 hm
set_option maxRecDepth 20000 in
set_option maxHeartbeats 2000000 in
theorem w_X0_size_e {X : po_X} {G : po_G} {st : Nat → Nat} {K : po_K} {I : po_I} {R : po_R} {ρ : Int32} (hF : po_F X G cX0_size RX0 1 st) (hL : po_L X (some .int) 2 0 0 "size") (HL : po_Lay K R st) (l0 : Nat) (kl0 : K l0 = (11, 1)) (hm : m_X0_size_e I l0 = some ρ) : po_V X G 1 (po_Q X G (.inl (some (.int ρ))) K R I none 0 0) 0 0 0 [(0, .ref l0)] [] K R I none := by
  unfold m_X0_size_e at hm
  refine po_aload_n hF dX0_size_0 rfl rfl ?_
  refine po_aload_n hF dX0_size_1 rfl rfl ?_
  obtain ⟨x1, hx1, hm⟩ := po_bind hm
  refine po_callV (As := [.ref l0]) hF dX0_size_2 wq_614 mv_X0_cellsIn ws_X0_cellsIn (show po_cl[0]? = some _ from rfl) rfl kl0 (c_X0_cellsIn HL kl0 kl0 hx1) rfl (po_rtL hL rfl) (Nat.le_of_ble_eq_true rfl) rfl ?_
  cases hm
  exact po_iret hF hL dX0_size_5 (by decide) (by decide) rfl rfl rfl (Or.inl rfl)
theorem c_X0_size {K : po_K} {R : po_R} {I : po_I} {st : Nat → Nat} {ρ : Int32} (HL : po_Lay K R st) {l0 : Nat} (kl0 : K l0 = (11, 1)) (hm : m_X0_size I l0 = some ρ) : po_C st yX0_size cX0_size 1 (some .int) 2 0 0 [.ref l0] K R I none (.inl (some (.int ρ))) K R I none := by
  refine po_ofC (by decide +kernel) (Nat.le_of_ble_eq_true rfl) (fun X G hF hL => ?_)
  exact w_X0_size_e hF hL HL l0 kl0 hm
set_option maxRecDepth 20000 in
set_option maxHeartbeats 2000000 in
theorem w_X3_readSign_e {X : po_X} {G : po_G} {st : Nat → Nat} {K : po_K} {R : po_R} {ρ : Int32 × po_I} (hF : po_F X G cX3_readSign RX3 2 st) (hL : po_L X (some .boolean) 1 0 0 "readSign") (HL : po_Lay K R st) (I : po_I) (l0 : Nat) (l1 : Int32) (kl0 : K l0 = (14, 4)) (hm : m_X3_readSign_e I l0 l1 = some ρ) : po_V X G 2 (po_Q X G (.inl (some (.int ρ.1))) K R (ρ.2) none 0 0) 0 0 0 [(0, .ref l0), (1, .int l1)] [] K R I none := by
  unfold m_X3_readSign_e at hm
  refine po_aload_n hF dX3_readSign_0 rfl rfl ?_
  obtain ⟨x1, hx1, hm⟩ := po_bind hm
  refine po_callV (As := []) hF dX3_readSign_1 wq_560 mv_X3_next ws_X3_next (show po_cl[3]? = some _ from rfl) rfl kl0 (c_X3_next HL kl0 hx1) rfl (po_rtL hL rfl) (Nat.le_of_ble_eq_true rfl) rfl ?_
  refine po_iload_n hF dX3_readSign_4 rfl rfl ?_
  refine po_icmp_eq (tgt := 17) hF dX3_readSign_5 (by decide) hm (fun hm => ?_) (fun hm => ?_)
  · refine po_aload_n hF dX3_readSign_17 rfl rfl ?_
    refine po_dup hF dX3_readSign_18 rfl ?_
    refine po_getf (v := .int (I l0 2)) hF dX3_readSign_19 fl_X3_19 kl0 rfl ?_
    refine po_iconst (v := 1) hF dX3_readSign_22 (by decide) ?_
    refine po_iadd hF dX3_readSign_23 ?_
    refine po_puti hF dX3_readSign_24 fl_X3_19 kl0 (by intro r h; cases h; rfl) rfl rfl (fun _ => rfl) rfl ?_
    refine po_hname hm (fun I2 hm => ?_)
    refine po_iconst (v := 1) hF dX3_readSign_27 (by decide) ?_
    cases hm
    exact po_zret hF hL dX3_readSign_28 (by decide) (by decide) (by decide) rfl rfl rfl (Or.inl rfl)
  · refine po_aload_n hF dX3_readSign_8 rfl rfl ?_
    refine po_aload_n hF dX3_readSign_9 rfl rfl ?_
    refine po_getf (v := .int (I l0 2)) hF dX3_readSign_10 fl_X3_19 kl0 rfl ?_
    obtain ⟨x3, hx3, hm⟩ := po_bind hm
    refine po_callV (As := [.int (I l0 2)]) hF dX3_readSign_13 wq_568 mv_X3_failAt ws_X3_failAt (show po_cl[3]? = some _ from rfl) rfl kl0 (c_X3_failAt HL kl0 hx3) rfl (po_rtL hL rfl) (Nat.le_of_ble_eq_true rfl) rfl ?_
    obtain ⟨hz, hm⟩ := po_zif hm
    cases hm
    exact po_zret hF hL dX3_readSign_16 (po_nz hz) (by decide) (by decide) rfl rfl rfl (Or.inl rfl)
theorem c_X3_readSign {K : po_K} {R : po_R} {I : po_I} {st : Nat → Nat} {ρ : Int32 × po_I} (HL : po_Lay K R st) {l0 : Nat} {l1 : Int32} (kl0 : K l0 = (14, 4)) (hm : m_X3_readSign I l0 l1 = some ρ) : po_C st yX3_readSign cX3_readSign 2 (some .boolean) 1 0 0 [.ref l0, .int l1] K R I none (.inl (some (.int ρ.1))) K R (ρ.2) none := by
  refine po_ofC (by decide +kernel) (Nat.le_of_ble_eq_true rfl) (fun X G hF hL => ?_)
  exact w_X3_readSign_e hF hL HL I l0 l1 kl0 hm
set_option maxRecDepth 20000 in
set_option maxHeartbeats 2000000 in
theorem w_X3_readLot_87 {X : po_X} {G : po_G} {st : Nat → Nat} {K : po_K} {R : po_R} {ρ : Int32 × po_I} (hF : po_F X G cX3_readLot RX3 3 st) (hL : po_L X (some .boolean) 4 0 0 "readLot") (HL : po_Lay K R st) (I : po_I) (hm : m_X3_readLot_87 I = some ρ) : po_V X G 3 (po_Q X G (.inl (some (.int ρ.1))) K R (ρ.2) none 0 0) 0 0 87 [] [] K R I none := by
  unfold m_X3_readLot_87 at hm
  refine po_iconst (v := 0) hF dX3_readLot_87 (by decide) ?_
  cases hm
  exact po_zret hF hL dX3_readLot_88 (by decide) (by decide) (by decide) rfl rfl rfl (Or.inl rfl)
set_option maxRecDepth 20000 in
set_option maxHeartbeats 2000000 in
theorem w_X3_readLot_118 {X : po_X} {G : po_G} {st : Nat → Nat} {K : po_K} {R : po_R} {ρ : Int32 × po_I} (hF : po_F X G cX3_readLot RX3 3 st) (hL : po_L X (some .boolean) 4 0 0 "readLot") (HL : po_Lay K R st) (I : po_I) (l0 : Nat) (l1 : Nat) (l2 : Nat) (kl0 : K l0 = (14, 4)) (kl1 : K l1 = (16, 8)) (kl2 : K l2 = (12, 4)) (hm : m_X3_readLot_118 I l0 l1 l2 = some ρ) : po_V X G 3 (po_Q X G (.inl (some (.int ρ.1))) K R (ρ.2) none 0 0) 0 0 118 [(0, .ref l0), (1, .ref l1), (2, .ref l2)] [] K R I none := by
  unfold m_X3_readLot_118 at hm
  refine po_aload_n hF dX3_readLot_118 rfl rfl ?_
  refine po_aload_n hF dX3_readLot_119 rfl rfl ?_
  refine po_getf (v := .ref (l2 + 1)) hF dX3_readLot_120 fl_X3_76 kl2 (ly_1_2 HL kl2).1 ?_
  obtain ⟨x1, hx1, hm⟩ := po_bind hm
  refine po_callV (As := []) hF dX3_readLot_123 wq_610 mv_X0_size ws_X0_size (show po_cl[0]? = some _ from rfl) rfl ((ly_1_2 HL kl2).2) (c_X0_size HL ((ly_1_2 HL kl2).2) hx1) rfl (po_rtL hL rfl) (Nat.le_of_ble_eq_true rfl) rfl ?_
  refine po_puti hF dX3_readLot_126 fl_X3_92 kl2 (by intro r h; cases h; rfl) rfl rfl (fun _ => rfl) rfl ?_
  refine po_hname hm (fun I2 hm => ?_)
  refine po_aload_n hF dX3_readLot_129 rfl rfl ?_
  refine po_dup hF dX3_readLot_130 rfl ?_
  refine po_getf (v := .int (I2 l1 3)) hF dX3_readLot_131 fl_X3_52 kl1 rfl ?_
  refine po_iconst (v := 1) hF dX3_readLot_134 (by decide) ?_
  refine po_iadd hF dX3_readLot_135 ?_
  refine po_puti hF dX3_readLot_136 fl_X3_52 kl1 (by intro r h; cases h; rfl) rfl rfl (fun _ => rfl) rfl ?_
  refine po_hname hm (fun I3 hm => ?_)
  refine po_aload_n hF dX3_readLot_139 rfl rfl ?_
  refine po_bipush (v := 59) hF dX3_readLot_140 (by decide) ?_
  obtain ⟨x4, hx4, hm⟩ := po_bind hm
  refine po_callV (As := [.int 59]) hF dX3_readLot_142 wq_615 mv_X3_readSign ws_X3_readSign (show po_cl[3]? = some _ from rfl) rfl kl0 (c_X3_readSign HL kl0 hx4) rfl (po_rtL hL rfl) (Nat.le_of_ble_eq_true rfl) rfl ?_
  obtain ⟨hz, hm⟩ := po_zif hm
  cases hm
  exact po_zret hF hL dX3_readLot_145 (po_nz hz) (by decide) (by decide) rfl rfl rfl (Or.inl rfl)
set_option maxRecDepth 20000 in
set_option maxHeartbeats 2000000 in
theorem w_X3_readLot_e {X : po_X} {G : po_G} {st : Nat → Nat} {K : po_K} {R : po_R} {ρ : Int32 × po_I} (hF : po_F X G cX3_readLot RX3 3 st) (hL : po_L X (some .boolean) 4 0 0 "readLot") (HL : po_Lay K R st) (I : po_I) (l0 : Nat) (l1 : Nat) (kl0 : K l0 = (14, 4)) (kl1 : K l1 = (16, 8)) (hm : m_X3_readLot_e I l0 l1 = some ρ) : po_V X G 3 (po_Q X G (.inl (some (.int ρ.1))) K R (ρ.2) none 0 0) 0 0 0 [(0, .ref l0), (1, .ref l1)] [] K R I none := by
  unfold m_X3_readLot_e at hm
  refine po_aload_n hF dX3_readLot_0 rfl rfl ?_
  refine po_getf (v := .int (I l1 3)) hF dX3_readLot_1 fl_X3_52 kl1 rfl ?_
  refine po_bipush (v := 8) hF dX3_readLot_4 (by decide) ?_
  refine po_icmp_lt (tgt := 18) hF dX3_readLot_6 (by decide) hm (fun hm => ?_) (fun hm => ?_)
  · refine po_aload_n hF dX3_readLot_18 rfl rfl ?_
    refine po_dup hF dX3_readLot_19 rfl ?_
    refine po_getf (v := .int (I l0 2)) hF dX3_readLot_20 fl_X3_19 kl0 rfl ?_
    refine po_iconst (v := 1) hF dX3_readLot_23 (by decide) ?_
    refine po_iadd hF dX3_readLot_24 ?_
    refine po_puti hF dX3_readLot_25 fl_X3_19 kl0 (by intro r h; cases h; rfl) rfl rfl (fun _ => rfl) rfl ?_
    refine po_hname hm (fun I5 hm => ?_)
    refine po_aload_n hF dX3_readLot_28 rfl rfl ?_
    refine po_getf (v := .ref (l1 + 2)) hF dX3_readLot_29 fl_X3_57 kl1 (ly_5_2 HL kl1).1 ?_
    refine po_aload_n hF dX3_readLot_32 rfl rfl ?_
    refine po_getf (v := .int (I5 l1 3)) hF dX3_readLot_33 fl_X3_52 kl1 rfl ?_
    refine po_aald hF dX3_readLot_36 ((ly_5_2 HL kl1).2) (Or.inl rfl) hm (fun hi6 => (le_5_2 HL kl1 (po_in_lt hi6)).1) (fun hi6 hm => ?_)
    refine po_astore_n (L' := [(2, .ref (l1 + (5 + 3 * (Int32.toNatClampNeg (I5 l1 3))))), (0, .ref l0), (1, .ref l1)]) hF dX3_readLot_37 rfl (by decide) rfl ?_
    refine po_aload_n hF dX3_readLot_38 rfl rfl ?_
    refine po_aload_n hF dX3_readLot_39 rfl rfl ?_
    refine po_bipush (v := 48) hF dX3_readLot_40 (by decide) ?_
    refine po_iconst (v := 0) hF dX3_readLot_42 (by decide) ?_
    refine po_iconst (v := 3) hF dX3_readLot_43 (by decide) ?_
    obtain ⟨x7, hx7, hm⟩ := po_bind hm
    refine po_callV (As := [.int 48, .int 0, .int 3]) hF dX3_readLot_44 wq_572 mv_X3_readValue ws_X3_readValue (show po_cl[3]? = some _ from rfl) rfl kl0 (c_X3_readValue HL kl0 hx7) rfl (po_rtL hL rfl) (Nat.le_of_ble_eq_true rfl) rfl ?_
    refine po_puti hF dX3_readLot_47 fl_X3_65 ((le_5_2 HL kl1 (po_in_lt hi6)).2) (by intro r h; cases h; rfl) rfl rfl (fun _ => rfl) rfl ?_
    refine po_hname hm (fun I8 hm => ?_)
    refine po_aload_n hF dX3_readLot_50 rfl rfl ?_
    refine po_getf (v := .int (I8 (l1 + (5 + 3 * (Int32.toNatClampNeg (I5 l1 3)))) 0)) hF dX3_readLot_51 fl_X3_65 ((le_5_2 HL kl1 (po_in_lt hi6)).2) rfl ?_
    refine po_iconst (v := (-1)) hF dX3_readLot_54 (by decide) ?_
    refine po_icmp_ne (tgt := 60) hF dX3_readLot_55 (by decide) hm (fun hm => ?_) (fun hm => ?_)
    · refine po_aload_n hF dX3_readLot_60 rfl rfl ?_
      refine po_aload_n hF dX3_readLot_61 rfl rfl ?_
      obtain ⟨x9, hx9, hm⟩ := po_bind hm
      refine po_callV (As := []) hF dX3_readLot_62 wq_576 mv_X3_readFront ws_X3_readFront (show po_cl[3]? = some _ from rfl) rfl kl0 (c_X3_readFront HL kl0 hx9) rfl (po_rtL hL rfl) (Nat.le_of_ble_eq_true rfl) rfl ?_
      refine po_puti hF dX3_readLot_65 fl_X3_73 ((le_5_2 HL kl1 (po_in_lt hi6)).2) (by intro r h; cases h; rfl) rfl rfl (fun _ => rfl) rfl ?_
      refine po_hname hm (fun I10 hm => ?_)
      refine po_aload_n hF dX3_readLot_68 rfl rfl ?_
      refine po_getf (v := .int (I10 (l1 + (5 + 3 * (Int32.toNatClampNeg (I5 l1 3)))) 1)) hF dX3_readLot_69 fl_X3_73 ((le_5_2 HL kl1 (po_in_lt hi6)).2) rfl ?_
      refine po_iconst (v := (-1)) hF dX3_readLot_72 (by decide) ?_
      refine po_icmp_eq (tgt := 87) hF dX3_readLot_73 (by decide) hm (fun hm => ?_) (fun hm => ?_)
      · refine po_sub (L' := []) rfl ?_
        exact w_X3_readLot_87 hF hL HL I10 hm
      · refine po_aload_n hF dX3_readLot_76 rfl rfl ?_
        refine po_aload_n hF dX3_readLot_77 rfl rfl ?_
        refine po_getf (v := .ref ((l1 + (5 + 3 * (Int32.toNatClampNeg (I5 l1 3)))) + 1)) hF dX3_readLot_78 fl_X3_76 ((le_5_2 HL kl1 (po_in_lt hi6)).2) (ly_1_2 HL ((le_5_2 HL kl1 (po_in_lt hi6)).2)).1 ?_
        obtain ⟨x11, hx11, hm⟩ := po_bind hm
        refine po_callV (As := [.ref ((l1 + (5 + 3 * (Int32.toNatClampNeg (I5 l1 3)))) + 1)]) hF dX3_readLot_81 wq_580 mv_X3_readArea ws_X3_readArea (show po_cl[3]? = some _ from rfl) rfl kl0 (c_X3_readArea HL kl0 ((ly_1_2 HL ((le_5_2 HL kl1 (po_in_lt hi6)).2)).2) hx11) rfl (po_rtL hL rfl) (Nat.le_of_ble_eq_true rfl) rfl ?_
        refine po_if_ne (tgt := 89) hF dX3_readLot_84 (by decide) hm (fun hm => ?_) (fun hm => ?_)
        · refine po_aload_n hF dX3_readLot_89 rfl rfl ?_
          obtain ⟨x12, hx12, hm⟩ := po_bind hm
          refine po_callV (As := []) hF dX3_readLot_90 wq_560 mv_X3_next ws_X3_next (show po_cl[3]? = some _ from rfl) rfl kl0 (c_X3_next HL kl0 hx12) rfl (po_rtL hL rfl) (Nat.le_of_ble_eq_true rfl) rfl ?_
          refine po_bipush (v := 59) hF dX3_readLot_93 (by decide) ?_
          refine po_icmp_ne (tgt := 118) hF dX3_readLot_95 (by decide) hm (fun hm => ?_) (fun hm => ?_)
          · refine po_sub (L' := [(0, .ref l0), (1, .ref l1), (2, .ref (l1 + (5 + 3 * (Int32.toNatClampNeg (I5 l1 3)))))]) rfl ?_
            exact w_X3_readLot_118 hF hL HL (x11.2) l0 l1 (l1 + (5 + 3 * (Int32.toNatClampNeg (I5 l1 3)))) kl0 kl1 ((le_5_2 HL kl1 (po_in_lt hi6)).2) hm
          · refine po_aload_n hF dX3_readLot_98 rfl rfl ?_
            refine po_aload_n hF dX3_readLot_99 rfl rfl ?_
            refine po_getf (v := .ref ((l1 + (5 + 3 * (Int32.toNatClampNeg (I5 l1 3)))) + 1)) hF dX3_readLot_100 fl_X3_76 ((le_5_2 HL kl1 (po_in_lt hi6)).2) (ly_1_2 HL ((le_5_2 HL kl1 (po_in_lt hi6)).2)).1 ?_
            obtain ⟨x13, hx13, hm⟩ := po_bind hm
            refine po_callV (As := [.ref ((l1 + (5 + 3 * (Int32.toNatClampNeg (I5 l1 3)))) + 1)]) hF dX3_readLot_103 wq_596 mv_X5_hasLotCellIn ws_X5_hasLotCellIn (show po_cl[5]? = some _ from rfl) rfl kl1 (c_X5_hasLotCellIn HL kl1 ((ly_1_2 HL ((le_5_2 HL kl1 (po_in_lt hi6)).2)).2) hx13) rfl (po_rtL hL rfl) (Nat.le_of_ble_eq_true rfl) rfl ?_
            refine po_if_eq (tgt := 118) hF dX3_readLot_106 (by decide) hm (fun hm => ?_) (fun hm => ?_)
            · refine po_sub (L' := [(0, .ref l0), (1, .ref l1), (2, .ref (l1 + (5 + 3 * (Int32.toNatClampNeg (I5 l1 3)))))]) rfl ?_
              exact w_X3_readLot_118 hF hL HL (x11.2) l0 l1 (l1 + (5 + 3 * (Int32.toNatClampNeg (I5 l1 3)))) kl0 kl1 ((le_5_2 HL kl1 (po_in_lt hi6)).2) hm
            · refine po_aload_n hF dX3_readLot_109 rfl rfl ?_
              refine po_aload_n hF dX3_readLot_110 rfl rfl ?_
              refine po_getf (v := .int ((x11.2) l0 2)) hF dX3_readLot_111 fl_X3_19 kl0 rfl ?_
              obtain ⟨x14, hx14, hm⟩ := po_bind hm
              refine po_callV (As := [.int ((x11.2) l0 2)]) hF dX3_readLot_114 wq_568 mv_X3_failAt ws_X3_failAt (show po_cl[3]? = some _ from rfl) rfl kl0 (c_X3_failAt HL kl0 hx14) rfl (po_rtL hL rfl) (Nat.le_of_ble_eq_true rfl) rfl ?_
              obtain ⟨hz, hm⟩ := po_zif hm
              cases hm
              exact po_zret hF hL dX3_readLot_117 (po_nz hz) (by decide) (by decide) rfl rfl rfl (Or.inl rfl)
        · refine po_sub (L' := []) rfl ?_
          exact w_X3_readLot_87 hF hL HL (x11.2) hm
    · refine po_iconst (v := 0) hF dX3_readLot_58 (by decide) ?_
      cases hm
      exact po_zret hF hL dX3_readLot_59 (by decide) (by decide) (by decide) rfl rfl rfl (Or.inl rfl)
  · refine po_aload_n hF dX3_readLot_9 rfl rfl ?_
    refine po_aload_n hF dX3_readLot_10 rfl rfl ?_
    refine po_getf (v := .int (I l0 2)) hF dX3_readLot_11 fl_X3_19 kl0 rfl ?_
    obtain ⟨x15, hx15, hm⟩ := po_bind hm
    refine po_callV (As := [.int (I l0 2)]) hF dX3_readLot_14 wq_568 mv_X3_failAt ws_X3_failAt (show po_cl[3]? = some _ from rfl) rfl kl0 (c_X3_failAt HL kl0 hx15) rfl (po_rtL hL rfl) (Nat.le_of_ble_eq_true rfl) rfl ?_
    obtain ⟨hz, hm⟩ := po_zif hm
    cases hm
    exact po_zret hF hL dX3_readLot_17 (po_nz hz) (by decide) (by decide) rfl rfl rfl (Or.inl rfl)
theorem c_X3_readLot {K : po_K} {R : po_R} {I : po_I} {st : Nat → Nat} {ρ : Int32 × po_I} (HL : po_Lay K R st) {l0 : Nat} {l1 : Nat} (kl0 : K l0 = (14, 4)) (kl1 : K l1 = (16, 8)) (hm : m_X3_readLot I l0 l1 = some ρ) : po_C st yX3_readLot cX3_readLot 3 (some .boolean) 4 0 0 [.ref l0, .ref l1] K R I none (.inl (some (.int ρ.1))) K R (ρ.2) none := by
  refine po_ofC (by decide +kernel) (Nat.le_of_ble_eq_true rfl) (fun X G hF hL => ?_)
  exact w_X3_readLot_e hF hL HL I l0 l1 kl0 kl1 hm
set_option maxRecDepth 20000 in
set_option maxHeartbeats 2000000 in
theorem w_X2_clear_e {X : po_X} {G : po_G} {st : Nat → Nat} {K : po_K} {R : po_R} {ρ : po_I} (hF : po_F X G cX2_clear RX2 1 st) (hL : po_L X none 1 0 0 "clear") (HL : po_Lay K R st) (I : po_I) (l0 : Nat) (kl0 : K l0 = (13, 19)) (hm : m_X2_clear_e I l0 = some ρ) : po_V X G 1 (po_Q X G (.inl (none)) K R (ρ) none 0 0) 0 0 0 [(0, .ref l0)] [] K R I none := by
  unfold m_X2_clear_e at hm
  refine po_aload_n hF dX2_clear_0 rfl rfl ?_
  refine po_iconst (v := 0) hF dX2_clear_1 (by decide) ?_
  refine po_puti hF dX2_clear_2 fl_X2_25 kl0 (by intro r h; cases h; rfl) rfl rfl (fun _ => rfl) rfl ?_
  refine po_hname hm (fun I1 hm => ?_)
  refine po_aload_n hF dX2_clear_5 rfl rfl ?_
  refine po_iconst (v := 0) hF dX2_clear_6 (by decide) ?_
  refine po_puti hF dX2_clear_7 fl_X2_29 kl0 (by intro r h; cases h; rfl) rfl rfl (fun _ => rfl) rfl ?_
  refine po_hname hm (fun I2 hm => ?_)
  refine po_aload_n hF dX2_clear_10 rfl rfl ?_
  refine po_iconst (v := 0) hF dX2_clear_11 (by decide) ?_
  refine po_puti hF dX2_clear_12 fl_X2_32 kl0 (by intro r h; cases h; rfl) rfl rfl (fun _ => rfl) rfl ?_
  refine po_hname hm (fun I3 hm => ?_)
  refine po_aload_n hF dX2_clear_15 rfl rfl ?_
  refine po_iconst (v := 0) hF dX2_clear_16 (by decide) ?_
  refine po_puti hF dX2_clear_17 fl_X2_35 kl0 (by intro r h; cases h; rfl) rfl rfl (fun _ => rfl) rfl ?_
  refine po_hname hm (fun I4 hm => ?_)
  refine po_aload_n hF dX2_clear_20 rfl rfl ?_
  refine po_getf (v := .ref (l0 + 1)) hF dX2_clear_21 fl_X2_12 kl0 (ly_2_4 HL kl0).1 ?_
  obtain ⟨x5, hx5, hm⟩ := po_bind hm
  refine po_callV (As := []) hF dX2_clear_24 wq_627 mv_X0_clear ws_X0_clear (show po_cl[0]? = some _ from rfl) rfl ((ly_2_4 HL kl0).2) (c_X0_clear HL ((ly_2_4 HL kl0).2) hx5) rfl (po_rtL hL rfl) (Nat.le_of_ble_eq_true rfl) rfl ?_
  refine po_aload_n hF dX2_clear_27 rfl rfl ?_
  refine po_iconst (v := 0) hF dX2_clear_28 (by decide) ?_
  refine po_puti hF dX2_clear_29 fl_X2_41 kl0 (by intro r h; cases h; rfl) rfl rfl (fun _ => rfl) rfl ?_
  refine po_hname hm (fun I6 hm => ?_)
  refine po_aload_n hF dX2_clear_32 rfl rfl ?_
  refine po_iconst (v := 0) hF dX2_clear_33 (by decide) ?_
  refine po_puti hF dX2_clear_34 fl_X2_44 kl0 (by intro r h; cases h; rfl) rfl rfl (fun _ => rfl) rfl ?_
  refine po_hname hm (fun I7 hm => ?_)
  refine po_aload_n hF dX2_clear_37 rfl rfl ?_
  refine po_iconst (v := (-1)) hF dX2_clear_38 (by decide) ?_
  refine po_puti hF dX2_clear_39 fl_X2_47 kl0 (by intro r h; cases h; rfl) rfl rfl (fun _ => rfl) rfl ?_
  refine po_hname hm (fun I8 hm => ?_)
  refine po_aload_n hF dX2_clear_42 rfl rfl ?_
  refine po_iconst (v := 0) hF dX2_clear_43 (by decide) ?_
  refine po_puti hF dX2_clear_44 fl_X2_50 kl0 (by intro r h; cases h; rfl) rfl rfl (fun _ => rfl) rfl ?_
  refine po_hname hm (fun I9 hm => ?_)
  refine po_aload_n hF dX2_clear_47 rfl rfl ?_
  refine po_iconst (v := 0) hF dX2_clear_48 (by decide) ?_
  refine po_puti hF dX2_clear_49 fl_X2_53 kl0 (by intro r h; cases h; rfl) rfl rfl (fun _ => rfl) rfl ?_
  refine po_hname hm (fun I10 hm => ?_)
  refine po_aload_n hF dX2_clear_52 rfl rfl ?_
  refine po_iconst (v := (-1)) hF dX2_clear_53 (by decide) ?_
  refine po_puti hF dX2_clear_54 fl_X2_56 kl0 (by intro r h; cases h; rfl) rfl rfl (fun _ => rfl) rfl ?_
  refine po_hname hm (fun I11 hm => ?_)
  refine po_aload_n hF dX2_clear_57 rfl rfl ?_
  refine po_iconst (v := 0) hF dX2_clear_58 (by decide) ?_
  refine po_putz hF dX2_clear_59 fl_X2_59 kl0 (by intro r h; cases h; rfl) rfl (by decide) rfl ?_
  refine po_hname hm (fun I12 hm => ?_)
  refine po_aload_n hF dX2_clear_62 rfl rfl ?_
  refine po_iconst (v := 0) hF dX2_clear_63 (by decide) ?_
  refine po_puti hF dX2_clear_64 fl_X2_63 kl0 (by intro r h; cases h; rfl) rfl rfl (fun _ => rfl) rfl ?_
  refine po_hname hm (fun I13 hm => ?_)
  refine po_aload_n hF dX2_clear_67 rfl rfl ?_
  refine po_iconst (v := 0) hF dX2_clear_68 (by decide) ?_
  refine po_puti hF dX2_clear_69 fl_X2_66 kl0 (by intro r h; cases h; rfl) rfl rfl (fun _ => rfl) rfl ?_
  refine po_hname hm (fun I14 hm => ?_)
  refine po_aload_n hF dX2_clear_72 rfl rfl ?_
  refine po_iconst (v := 0) hF dX2_clear_73 (by decide) ?_
  refine po_puti hF dX2_clear_74 fl_X2_69 kl0 (by intro r h; cases h; rfl) rfl rfl (fun _ => rfl) rfl ?_
  refine po_hname hm (fun I15 hm => ?_)
  refine po_aload_n hF dX2_clear_77 rfl rfl ?_
  refine po_iconst (v := 0) hF dX2_clear_78 (by decide) ?_
  refine po_puti hF dX2_clear_79 fl_X2_72 kl0 (by intro r h; cases h; rfl) rfl rfl (fun _ => rfl) rfl ?_
  refine po_hname hm (fun I16 hm => ?_)
  refine po_aload_n hF dX2_clear_82 rfl rfl ?_
  refine po_iconst (v := 0) hF dX2_clear_83 (by decide) ?_
  refine po_puti hF dX2_clear_84 fl_X2_75 kl0 (by intro r h; cases h; rfl) rfl rfl (fun _ => rfl) rfl ?_
  refine po_hname hm (fun I17 hm => ?_)
  cases hm
  exact po_vret hF hL dX2_clear_87 (by decide) (by decide) rfl rfl rfl (Or.inl rfl)
theorem c_X2_clear {K : po_K} {R : po_R} {I : po_I} {st : Nat → Nat} {ρ : po_I} (HL : po_Lay K R st) {l0 : Nat} (kl0 : K l0 = (13, 19)) (hm : m_X2_clear I l0 = some ρ) : po_C st yX2_clear cX2_clear 1 none 1 0 0 [.ref l0] K R I none (.inl (none)) K R (ρ) none := by
  refine po_ofC (by decide +kernel) (Nat.le_of_ble_eq_true rfl) (fun X G hF hL => ?_)
  exact w_X2_clear_e hF hL HL I l0 kl0 hm
set_option maxRecDepth 20000 in
set_option maxHeartbeats 2000000 in
theorem w_X2_floorArea_e {X : po_X} {G : po_G} {st : Nat → Nat} {K : po_K} {I : po_I} {R : po_R} {ρ : Int32} (hF : po_F X G cX2_floorArea RX2 1 st) (hL : po_L X (some .int) 0 0 0 "floorArea") (HL : po_Lay K R st) (l0 : Nat) (kl0 : K l0 = (13, 19)) (hm : m_X2_floorArea_e I l0 = some ρ) : po_V X G 1 (po_Q X G (.inl (some (.int ρ))) K R I none 0 0) 0 0 0 [(0, .ref l0)] [] K R I none := by
  unfold m_X2_floorArea_e at hm
  refine po_aload_n hF dX2_floorArea_0 rfl rfl ?_
  refine po_getf (v := .int (I l0 5)) hF dX2_floorArea_1 fl_X2_41 kl0 rfl ?_
  refine po_aload_n hF dX2_floorArea_4 rfl rfl ?_
  refine po_getf (v := .int (I l0 2)) hF dX2_floorArea_5 fl_X2_32 kl0 rfl ?_
  refine po_imul hF dX2_floorArea_8 ?_
  cases hm
  exact po_iret hF hL dX2_floorArea_9 (by decide) (by decide) rfl rfl rfl (Or.inl rfl)
theorem c_X2_floorArea {K : po_K} {R : po_R} {I : po_I} {st : Nat → Nat} {ρ : Int32} (HL : po_Lay K R st) {l0 : Nat} (kl0 : K l0 = (13, 19)) (hm : m_X2_floorArea I l0 = some ρ) : po_C st yX2_floorArea cX2_floorArea 1 (some .int) 0 0 0 [.ref l0] K R I none (.inl (some (.int ρ))) K R I none := by
  refine po_ofC (by decide +kernel) (Nat.le_of_ble_eq_true rfl) (fun X G hF hL => ?_)
  exact w_X2_floorArea_e hF hL HL l0 kl0 hm
set_option maxRecDepth 20000 in
set_option maxHeartbeats 2000000 in
theorem w_X2_applyFee_e {X : po_X} {G : po_G} {st : Nat → Nat} {K : po_K} {I : po_I} {R : po_R} {ρ : Int32} (hF : po_F X G cX2_applyFee RX2 1 st) (hL : po_L X (some .int) 1 0 0 "applyFee") (HL : po_Lay K R st) (l0 : Nat) (kl0 : K l0 = (13, 19)) (hm : m_X2_applyFee_e I l0 = some ρ) : po_V X G 1 (po_Q X G (.inl (some (.int ρ))) K R I none 0 0) 0 0 0 [(0, .ref l0)] [] K R I none := by
  unfold m_X2_applyFee_e at hm
  refine po_bipush (v := 20) hF dX2_applyFee_0 (by decide) ?_
  refine po_aload_n hF dX2_applyFee_2 rfl rfl ?_
  obtain ⟨x1, hx1, hm⟩ := po_bind hm
  refine po_callV (As := []) hF dX2_applyFee_3 wq_632 mv_X2_floorArea ws_X2_floorArea (show po_cl[2]? = some _ from rfl) rfl kl0 (c_X2_floorArea HL kl0 hx1) rfl (po_rtL hL rfl) (Nat.le_of_ble_eq_true rfl) rfl ?_
  refine po_iadd hF dX2_applyFee_6 ?_
  cases hm
  exact po_iret hF hL dX2_applyFee_7 (by decide) (by decide) rfl rfl rfl (Or.inl rfl)
theorem c_X2_applyFee {K : po_K} {R : po_R} {I : po_I} {st : Nat → Nat} {ρ : Int32} (HL : po_Lay K R st) {l0 : Nat} (kl0 : K l0 = (13, 19)) (hm : m_X2_applyFee I l0 = some ρ) : po_C st yX2_applyFee cX2_applyFee 1 (some .int) 1 0 0 [.ref l0] K R I none (.inl (some (.int ρ))) K R I none := by
  refine po_ofC (by decide +kernel) (Nat.le_of_ble_eq_true rfl) (fun X G hF hL => ?_)
  exact w_X2_applyFee_e hF hL HL l0 kl0 hm
set_option maxRecDepth 20000 in
set_option maxHeartbeats 2000000 in
theorem w_X3_readPermit_146 {X : po_X} {G : po_G} {st : Nat → Nat} {K : po_K} {R : po_R} {ρ : Int32 × po_I} (hF : po_F X G cX3_readPermit RX3 3 st) (hL : po_L X (some .boolean) 4 0 0 "readPermit") (HL : po_Lay K R st) (I : po_I) (hm : m_X3_readPermit_146 I = some ρ) : po_V X G 3 (po_Q X G (.inl (some (.int ρ.1))) K R (ρ.2) none 0 0) 0 0 146 [] [] K R I none := by
  unfold m_X3_readPermit_146 at hm
  refine po_iconst (v := 0) hF dX3_readPermit_146 (by decide) ?_
  cases hm
  exact po_zret hF hL dX3_readPermit_147 (by decide) (by decide) (by decide) rfl rfl rfl (Or.inl rfl)
set_option maxRecDepth 20000 in
set_option maxHeartbeats 2000000 in
theorem w_X3_readPermit_e {X : po_X} {G : po_G} {st : Nat → Nat} {K : po_K} {R : po_R} {ρ : Int32 × po_I} (hF : po_F X G cX3_readPermit RX3 3 st) (hL : po_L X (some .boolean) 4 0 0 "readPermit") (HL : po_Lay K R st) (I : po_I) (l0 : Nat) (l1 : Nat) (kl0 : K l0 = (14, 4)) (kl1 : K l1 = (16, 8)) (hm : m_X3_readPermit_e I l0 l1 = some ρ) : po_V X G 3 (po_Q X G (.inl (some (.int ρ.1))) K R (ρ.2) none 0 0) 0 0 0 [(0, .ref l0), (1, .ref l1)] [] K R I none := by
  unfold m_X3_readPermit_e at hm
  refine po_aload_n hF dX3_readPermit_0 rfl rfl ?_
  refine po_getf (v := .int (I l1 5)) hF dX3_readPermit_1 fl_X3_99 kl1 rfl ?_
  refine po_bipush (v := 10) hF dX3_readPermit_4 (by decide) ?_
  refine po_icmp_lt (tgt := 18) hF dX3_readPermit_6 (by decide) hm (fun hm => ?_) (fun hm => ?_)
  · refine po_aload_n hF dX3_readPermit_18 rfl rfl ?_
    refine po_dup hF dX3_readPermit_19 rfl ?_
    refine po_getf (v := .int (I l0 2)) hF dX3_readPermit_20 fl_X3_19 kl0 rfl ?_
    refine po_iconst (v := 1) hF dX3_readPermit_23 (by decide) ?_
    refine po_iadd hF dX3_readPermit_24 ?_
    refine po_puti hF dX3_readPermit_25 fl_X3_19 kl0 (by intro r h; cases h; rfl) rfl rfl (fun _ => rfl) rfl ?_
    refine po_hname hm (fun I1 hm => ?_)
    refine po_aload_n hF dX3_readPermit_28 rfl rfl ?_
    refine po_getf (v := .ref (l1 + 3)) hF dX3_readPermit_29 fl_X3_102 kl1 (ly_5_4 HL kl1).1 ?_
    refine po_aload_n hF dX3_readPermit_32 rfl rfl ?_
    refine po_getf (v := .int (I1 l1 5)) hF dX3_readPermit_33 fl_X3_99 kl1 rfl ?_
    refine po_aald hF dX3_readPermit_36 ((ly_5_4 HL kl1).2) (Or.inr (Or.inl rfl)) hm (fun hi2 => (le_5_4 HL kl1 (po_in_lt hi2)).1) (fun hi2 hm => ?_)
    refine po_astore_n (L' := [(2, .ref (l1 + (29 + 5 * (Int32.toNatClampNeg (I1 l1 5))))), (0, .ref l0), (1, .ref l1)]) hF dX3_readPermit_37 rfl (by decide) rfl ?_
    refine po_aload_n hF dX3_readPermit_38 rfl rfl ?_
    obtain ⟨x3, hx3, hm⟩ := po_bind hm
    refine po_callV (As := []) hF dX3_readPermit_39 wq_623 mv_X2_clear ws_X2_clear (show po_cl[2]? = some _ from rfl) rfl ((le_5_4 HL kl1 (po_in_lt hi2)).2) (c_X2_clear HL ((le_5_4 HL kl1 (po_in_lt hi2)).2) hx3) rfl (po_rtL hL rfl) (Nat.le_of_ble_eq_true rfl) rfl ?_
    refine po_aload_n hF dX3_readPermit_42 rfl rfl ?_
    refine po_aload_n hF dX3_readPermit_43 rfl rfl ?_
    refine po_bipush (v := 48) hF dX3_readPermit_44 (by decide) ?_
    refine po_iconst (v := 0) hF dX3_readPermit_46 (by decide) ?_
    refine po_aload_n hF dX3_readPermit_47 rfl rfl ?_
    refine po_getf (v := .int (x3 l1 3)) hF dX3_readPermit_48 fl_X3_52 kl1 rfl ?_
    refine po_iconst (v := 1) hF dX3_readPermit_51 (by decide) ?_
    refine po_isub hF dX3_readPermit_52 ?_
    obtain ⟨x4, hx4, hm⟩ := po_bind hm
    refine po_callV (As := [.int 48, .int 0, .int ((x3 l1 3) - 1)]) hF dX3_readPermit_53 wq_572 mv_X3_readValue ws_X3_readValue (show po_cl[3]? = some _ from rfl) rfl kl0 (c_X3_readValue HL kl0 hx4) rfl (po_rtL hL rfl) (Nat.le_of_ble_eq_true rfl) rfl ?_
    refine po_puti hF dX3_readPermit_56 fl_X3_111 ((le_5_4 HL kl1 (po_in_lt hi2)).2) (by intro r h; cases h; rfl) rfl rfl (fun _ => rfl) rfl ?_
    refine po_hname hm (fun I5 hm => ?_)
    refine po_aload_n hF dX3_readPermit_59 rfl rfl ?_
    refine po_getf (v := .int (I5 (l1 + (29 + 5 * (Int32.toNatClampNeg (I1 l1 5)))) 0)) hF dX3_readPermit_60 fl_X3_111 ((le_5_4 HL kl1 (po_in_lt hi2)).2) rfl ?_
    refine po_iconst (v := (-1)) hF dX3_readPermit_63 (by decide) ?_
    refine po_icmp_ne (tgt := 69) hF dX3_readPermit_64 (by decide) hm (fun hm => ?_) (fun hm => ?_)
    · refine po_aload_n hF dX3_readPermit_69 rfl rfl ?_
      refine po_aload_n hF dX3_readPermit_70 rfl rfl ?_
      refine po_bipush (v := 48) hF dX3_readPermit_71 (by decide) ?_
      refine po_iconst (v := 0) hF dX3_readPermit_73 (by decide) ?_
      refine po_iconst (v := 5) hF dX3_readPermit_74 (by decide) ?_
      obtain ⟨x6, hx6, hm⟩ := po_bind hm
      refine po_callV (As := [.int 48, .int 0, .int 5]) hF dX3_readPermit_75 wq_572 mv_X3_readValue ws_X3_readValue (show po_cl[3]? = some _ from rfl) rfl kl0 (c_X3_readValue HL kl0 hx6) rfl (po_rtL hL rfl) (Nat.le_of_ble_eq_true rfl) rfl ?_
      refine po_puti hF dX3_readPermit_78 fl_X3_114 ((le_5_4 HL kl1 (po_in_lt hi2)).2) (by intro r h; cases h; rfl) rfl rfl (fun _ => rfl) rfl ?_
      refine po_hname hm (fun I7 hm => ?_)
      refine po_aload_n hF dX3_readPermit_81 rfl rfl ?_
      refine po_getf (v := .int (I7 (l1 + (29 + 5 * (Int32.toNatClampNeg (I1 l1 5)))) 1)) hF dX3_readPermit_82 fl_X3_114 ((le_5_4 HL kl1 (po_in_lt hi2)).2) rfl ?_
      refine po_iconst (v := (-1)) hF dX3_readPermit_85 (by decide) ?_
      refine po_icmp_ne (tgt := 91) hF dX3_readPermit_86 (by decide) hm (fun hm => ?_) (fun hm => ?_)
      · refine po_aload_n hF dX3_readPermit_91 rfl rfl ?_
        refine po_aload_n hF dX3_readPermit_92 rfl rfl ?_
        refine po_bipush (v := 48) hF dX3_readPermit_93 (by decide) ?_
        refine po_iconst (v := 1) hF dX3_readPermit_95 (by decide) ?_
        refine po_bipush (v := 9) hF dX3_readPermit_96 (by decide) ?_
        obtain ⟨x8, hx8, hm⟩ := po_bind hm
        refine po_callV (As := [.int 48, .int 1, .int 9]) hF dX3_readPermit_98 wq_572 mv_X3_readValue ws_X3_readValue (show po_cl[3]? = some _ from rfl) rfl kl0 (c_X3_readValue HL kl0 hx8) rfl (po_rtL hL rfl) (Nat.le_of_ble_eq_true rfl) rfl ?_
        refine po_puti hF dX3_readPermit_101 fl_X3_117 ((le_5_4 HL kl1 (po_in_lt hi2)).2) (by intro r h; cases h; rfl) rfl rfl (fun _ => rfl) rfl ?_
        refine po_hname hm (fun I9 hm => ?_)
        refine po_aload_n hF dX3_readPermit_104 rfl rfl ?_
        refine po_getf (v := .int (I9 (l1 + (29 + 5 * (Int32.toNatClampNeg (I1 l1 5)))) 2)) hF dX3_readPermit_105 fl_X3_117 ((le_5_4 HL kl1 (po_in_lt hi2)).2) rfl ?_
        refine po_iconst (v := (-1)) hF dX3_readPermit_108 (by decide) ?_
        refine po_icmp_ne (tgt := 114) hF dX3_readPermit_109 (by decide) hm (fun hm => ?_) (fun hm => ?_)
        · refine po_aload_n hF dX3_readPermit_114 rfl rfl ?_
          refine po_aload_n hF dX3_readPermit_115 rfl rfl ?_
          refine po_bipush (v := 48) hF dX3_readPermit_116 (by decide) ?_
          refine po_iconst (v := 0) hF dX3_readPermit_118 (by decide) ?_
          refine po_bipush (v := 9) hF dX3_readPermit_119 (by decide) ?_
          obtain ⟨x10, hx10, hm⟩ := po_bind hm
          refine po_callV (As := [.int 48, .int 0, .int 9]) hF dX3_readPermit_121 wq_572 mv_X3_readValue ws_X3_readValue (show po_cl[3]? = some _ from rfl) rfl kl0 (c_X3_readValue HL kl0 hx10) rfl (po_rtL hL rfl) (Nat.le_of_ble_eq_true rfl) rfl ?_
          refine po_puti hF dX3_readPermit_124 fl_X3_120 ((le_5_4 HL kl1 (po_in_lt hi2)).2) (by intro r h; cases h; rfl) rfl rfl (fun _ => rfl) rfl ?_
          refine po_hname hm (fun I11 hm => ?_)
          refine po_aload_n hF dX3_readPermit_127 rfl rfl ?_
          refine po_getf (v := .int (I11 (l1 + (29 + 5 * (Int32.toNatClampNeg (I1 l1 5)))) 3)) hF dX3_readPermit_128 fl_X3_120 ((le_5_4 HL kl1 (po_in_lt hi2)).2) rfl ?_
          refine po_iconst (v := (-1)) hF dX3_readPermit_131 (by decide) ?_
          refine po_icmp_eq (tgt := 146) hF dX3_readPermit_132 (by decide) hm (fun hm => ?_) (fun hm => ?_)
          · refine po_sub (L' := []) rfl ?_
            exact w_X3_readPermit_146 hF hL HL I11 hm
          · refine po_aload_n hF dX3_readPermit_135 rfl rfl ?_
            refine po_aload_n hF dX3_readPermit_136 rfl rfl ?_
            refine po_getf (v := .ref ((l1 + (29 + 5 * (Int32.toNatClampNeg (I1 l1 5)))) + 1)) hF dX3_readPermit_137 fl_X3_123 ((le_5_4 HL kl1 (po_in_lt hi2)).2) (ly_2_4 HL ((le_5_4 HL kl1 (po_in_lt hi2)).2)).1 ?_
            obtain ⟨x12, hx12, hm⟩ := po_bind hm
            refine po_callV (As := [.ref ((l1 + (29 + 5 * (Int32.toNatClampNeg (I1 l1 5)))) + 1)]) hF dX3_readPermit_140 wq_580 mv_X3_readArea ws_X3_readArea (show po_cl[3]? = some _ from rfl) rfl kl0 (c_X3_readArea HL kl0 ((ly_2_4 HL ((le_5_4 HL kl1 (po_in_lt hi2)).2)).2) hx12) rfl (po_rtL hL rfl) (Nat.le_of_ble_eq_true rfl) rfl ?_
            refine po_if_ne (tgt := 148) hF dX3_readPermit_143 (by decide) hm (fun hm => ?_) (fun hm => ?_)
            · refine po_aload_n hF dX3_readPermit_148 rfl rfl ?_
              refine po_aload_n hF dX3_readPermit_149 rfl rfl ?_
              refine po_getf (v := .ref ((l1 + (29 + 5 * (Int32.toNatClampNeg (I1 l1 5)))) + 1)) hF dX3_readPermit_150 fl_X3_123 ((le_5_4 HL kl1 (po_in_lt hi2)).2) (ly_2_4 HL ((le_5_4 HL kl1 (po_in_lt hi2)).2)).1 ?_
              obtain ⟨x13, hx13, hm⟩ := po_bind hm
              refine po_callV (As := []) hF dX3_readPermit_153 wq_610 mv_X0_size ws_X0_size (show po_cl[0]? = some _ from rfl) rfl ((ly_2_4 HL ((le_5_4 HL kl1 (po_in_lt hi2)).2)).2) (c_X0_size HL ((ly_2_4 HL ((le_5_4 HL kl1 (po_in_lt hi2)).2)).2) hx13) rfl (po_rtL hL rfl) (Nat.le_of_ble_eq_true rfl) rfl ?_
              refine po_puti hF dX3_readPermit_156 fl_X3_126 ((le_5_4 HL kl1 (po_in_lt hi2)).2) (by intro r h; cases h; rfl) rfl rfl (fun _ => rfl) rfl ?_
              refine po_hname hm (fun I14 hm => ?_)
              refine po_aload_n hF dX3_readPermit_159 rfl rfl ?_
              refine po_aload_n hF dX3_readPermit_160 rfl rfl ?_
              obtain ⟨x15, hx15, hm⟩ := po_bind hm
              refine po_callV (As := []) hF dX3_readPermit_161 wq_628 mv_X2_applyFee ws_X2_applyFee (show po_cl[2]? = some _ from rfl) rfl ((le_5_4 HL kl1 (po_in_lt hi2)).2) (c_X2_applyFee HL ((le_5_4 HL kl1 (po_in_lt hi2)).2) hx15) rfl (po_rtL hL rfl) (Nat.le_of_ble_eq_true rfl) rfl ?_
              refine po_puti hF dX3_readPermit_164 fl_X3_130 ((le_5_4 HL kl1 (po_in_lt hi2)).2) (by intro r h; cases h; rfl) rfl rfl (fun _ => rfl) rfl ?_
              refine po_hname hm (fun I16 hm => ?_)
              refine po_aload_n hF dX3_readPermit_167 rfl rfl ?_
              refine po_dup hF dX3_readPermit_168 rfl ?_
              refine po_getf (v := .int (I16 l1 5)) hF dX3_readPermit_169 fl_X3_99 kl1 rfl ?_
              refine po_iconst (v := 1) hF dX3_readPermit_172 (by decide) ?_
              refine po_iadd hF dX3_readPermit_173 ?_
              refine po_puti hF dX3_readPermit_174 fl_X3_99 kl1 (by intro r h; cases h; rfl) rfl rfl (fun _ => rfl) rfl ?_
              refine po_hname hm (fun I17 hm => ?_)
              refine po_aload_n hF dX3_readPermit_177 rfl rfl ?_
              refine po_bipush (v := 59) hF dX3_readPermit_178 (by decide) ?_
              obtain ⟨x18, hx18, hm⟩ := po_bind hm
              refine po_callV (As := [.int 59]) hF dX3_readPermit_180 wq_615 mv_X3_readSign ws_X3_readSign (show po_cl[3]? = some _ from rfl) rfl kl0 (c_X3_readSign HL kl0 hx18) rfl (po_rtL hL rfl) (Nat.le_of_ble_eq_true rfl) rfl ?_
              obtain ⟨hz, hm⟩ := po_zif hm
              cases hm
              exact po_zret hF hL dX3_readPermit_183 (po_nz hz) (by decide) (by decide) rfl rfl rfl (Or.inl rfl)
            · refine po_sub (L' := []) rfl ?_
              exact w_X3_readPermit_146 hF hL HL (x12.2) hm
        · refine po_iconst (v := 0) hF dX3_readPermit_112 (by decide) ?_
          cases hm
          exact po_zret hF hL dX3_readPermit_113 (by decide) (by decide) (by decide) rfl rfl rfl (Or.inl rfl)
      · refine po_iconst (v := 0) hF dX3_readPermit_89 (by decide) ?_
        cases hm
        exact po_zret hF hL dX3_readPermit_90 (by decide) (by decide) (by decide) rfl rfl rfl (Or.inl rfl)
    · refine po_iconst (v := 0) hF dX3_readPermit_67 (by decide) ?_
      cases hm
      exact po_zret hF hL dX3_readPermit_68 (by decide) (by decide) (by decide) rfl rfl rfl (Or.inl rfl)
  · refine po_aload_n hF dX3_readPermit_9 rfl rfl ?_
    refine po_aload_n hF dX3_readPermit_10 rfl rfl ?_
    refine po_getf (v := .int (I l0 2)) hF dX3_readPermit_11 fl_X3_19 kl0 rfl ?_
    obtain ⟨x19, hx19, hm⟩ := po_bind hm
    refine po_callV (As := [.int (I l0 2)]) hF dX3_readPermit_14 wq_568 mv_X3_failAt ws_X3_failAt (show po_cl[3]? = some _ from rfl) rfl kl0 (c_X3_failAt HL kl0 hx19) rfl (po_rtL hL rfl) (Nat.le_of_ble_eq_true rfl) rfl ?_
    obtain ⟨hz, hm⟩ := po_zif hm
    cases hm
    exact po_zret hF hL dX3_readPermit_17 (po_nz hz) (by decide) (by decide) rfl rfl rfl (Or.inl rfl)
theorem c_X3_readPermit {K : po_K} {R : po_R} {I : po_I} {st : Nat → Nat} {ρ : Int32 × po_I} (HL : po_Lay K R st) {l0 : Nat} {l1 : Nat} (kl0 : K l0 = (14, 4)) (kl1 : K l1 = (16, 8)) (hm : m_X3_readPermit I l0 l1 = some ρ) : po_C st yX3_readPermit cX3_readPermit 3 (some .boolean) 4 0 0 [.ref l0, .ref l1] K R I none (.inl (some (.int ρ.1))) K R (ρ.2) none := by
  refine po_ofC (by decide +kernel) (Nat.le_of_ble_eq_true rfl) (fun X G hF hL => ?_)
  exact w_X3_readPermit_e hF hL HL I l0 l1 kl0 kl1 hm
set_option maxRecDepth 20000 in
set_option maxHeartbeats 2000000 in
theorem w_X3_readNumber_76 {X : po_X} {G : po_G} {st : Nat → Nat} {K : po_K} {R : po_R} {ρ : Int32 × po_I} (hF : po_F X G cX3_readNumber RX3 5 st) (hL : po_L X (some .int) 2 0 0 "readNumber") (HL : po_Lay K R st) (I : po_I) (l0 : Nat) (l3 : Int32) (kl0 : K l0 = (14, 4)) (hm : m_X3_readNumber_76 I l0 l3 = some ρ) : po_V X G 5 (po_Q X G (.inl (some (.int ρ.1))) K R (ρ.2) none 0 0) 0 0 76 [(0, .ref l0), (3, .int l3)] [] K R I none := by
  unfold m_X3_readNumber_76 at hm
  refine po_aload_n hF dX3_readNumber_76 rfl rfl ?_
  refine po_iload_n hF dX3_readNumber_77 rfl rfl ?_
  obtain ⟨x1, hx1, hm⟩ := po_bind hm
  refine po_callV (As := [.int l3]) hF dX3_readNumber_78 wq_568 mv_X3_failAt ws_X3_failAt (show po_cl[3]? = some _ from rfl) rfl kl0 (c_X3_failAt HL kl0 hx1) rfl (po_rtL hL rfl) (Nat.le_of_ble_eq_true rfl) rfl ?_
  refine po_pop hF dX3_readNumber_81 rfl ?_
  refine po_iconst (v := (-1)) hF dX3_readNumber_82 (by decide) ?_
  cases hm
  exact po_iret hF hL dX3_readNumber_83 (by decide) (by decide) rfl rfl rfl (Or.inl rfl)
set_option maxRecDepth 20000 in
set_option maxHeartbeats 2000000 in
theorem w_X3_readNumber_64 {X : po_X} {G : po_G} {st : Nat → Nat} {K : po_K} {R : po_R} {ρ : Int32 × po_I} (hF : po_F X G cX3_readNumber RX3 5 st) (hL : po_L X (some .int) 2 0 0 "readNumber") (HL : po_Lay K R st) (I : po_I) (l0 : Nat) (l1 : Int32) (l2 : Int32) (l3 : Int32) (l4 : Int32) (kl0 : K l0 = (14, 4)) (hm : m_X3_readNumber_64 I l0 l1 l2 l3 l4 = some ρ) : po_V X G 5 (po_Q X G (.inl (some (.int ρ.1))) K R (ρ.2) none 0 0) 0 0 64 [(0, .ref l0), (1, .int l1), (2, .int l2), (3, .int l3), (4, .int l4)] [] K R I none := by
  unfold m_X3_readNumber_64 at hm
  refine po_iload hF dX3_readNumber_64 rfl ?_
  refine po_iload_n hF dX3_readNumber_66 rfl rfl ?_
  refine po_icmp_lt (tgt := 76) hF dX3_readNumber_67 (by decide) hm (fun hm => ?_) (fun hm => ?_)
  · refine po_sub (L' := [(0, .ref l0), (3, .int l3)]) rfl ?_
    exact w_X3_readNumber_76 hF hL HL I l0 l3 kl0 hm
  · refine po_iload hF dX3_readNumber_70 rfl ?_
    refine po_iload_n hF dX3_readNumber_72 rfl rfl ?_
    refine po_icmp_le (tgt := 84) hF dX3_readNumber_73 (by decide) hm (fun hm => ?_) (fun hm => ?_)
    · refine po_iload hF dX3_readNumber_84 rfl ?_
      cases hm
      exact po_iret hF hL dX3_readNumber_86 (by decide) (by decide) rfl rfl rfl (Or.inl rfl)
    · refine po_sub (L' := [(0, .ref l0), (3, .int l3)]) rfl ?_
      exact w_X3_readNumber_76 hF hL HL I l0 l3 kl0 hm
set_option maxRecDepth 20000 in
set_option maxHeartbeats 2000000 in
theorem w_X3_readNumber_e {X : po_X} {G : po_G} {st : Nat → Nat} {K : po_K} {R : po_R} {ρ : Int32 × po_I} (hF : po_F X G cX3_readNumber RX3 5 st) (hL : po_L X (some .int) 2 0 0 "readNumber") (HL : po_Lay K R st) (I : po_I) (l0 : Nat) (l1 : Int32) (l2 : Int32) (kl0 : K l0 = (14, 4)) (hm : m_X3_readNumber_e I l0 l1 l2 = some ρ) : po_V X G 5 (po_Q X G (.inl (some (.int ρ.1))) K R (ρ.2) none 0 0) 0 0 0 [(0, .ref l0), (1, .int l1), (2, .int l2)] [] K R I none := by
  unfold m_X3_readNumber_e at hm
  refine po_aload_n hF dX3_readNumber_0 rfl rfl ?_
  refine po_getf (v := .int (I l0 2)) hF dX3_readNumber_1 fl_X3_19 kl0 rfl ?_
  refine po_top hm (fun v2 hm => ?_)
  refine po_istore_n (L' := [(3, .int v2), (0, .ref l0), (1, .int l1), (2, .int l2)]) hF dX3_readNumber_4 rfl (by decide) rfl ?_
  refine po_aload_n hF dX3_readNumber_5 rfl rfl ?_
  refine po_bipush (v := 48) hF dX3_readNumber_6 (by decide) ?_
  refine po_iconst (v := 0) hF dX3_readNumber_8 (by decide) ?_
  refine po_bipush (v := 9) hF dX3_readNumber_9 (by decide) ?_
  obtain ⟨x3, hx3, hm⟩ := po_bind hm
  refine po_callV (As := [.int 48, .int 0, .int 9]) hF dX3_readNumber_11 wq_572 mv_X3_readValue ws_X3_readValue (show po_cl[3]? = some _ from rfl) rfl kl0 (c_X3_readValue HL kl0 hx3) rfl (po_rtL hL rfl) (Nat.le_of_ble_eq_true rfl) rfl ?_
  refine po_top hm (fun v4 hm => ?_)
  refine po_istore (L' := [(4, .int v4), (3, .int v2), (0, .ref l0), (1, .int l1), (2, .int l2)]) hF dX3_readNumber_14 (by decide) rfl ?_
  refine po_iload hF dX3_readNumber_16 rfl ?_
  refine po_iconst (v := (-1)) hF dX3_readNumber_18 (by decide) ?_
  refine po_icmp_ne (tgt := 24) hF dX3_readNumber_19 (by decide) hm (fun hm => ?_) (fun hm => ?_)
  · refine po_iload hF dX3_readNumber_24 rfl ?_
    refine po_if_le (tgt := 64) hF dX3_readNumber_26 (by decide) hm (fun hm => ?_) (fun hm => ?_)
    · refine po_sub (L' := [(0, .ref l0), (1, .int l1), (2, .int l2), (3, .int v2), (4, .int v4)]) rfl ?_
      exact w_X3_readNumber_64 hF hL HL (x3.2) l0 l1 l2 v2 v4 kl0 hm
    · refine po_aload_n hF dX3_readNumber_29 rfl rfl ?_
      obtain ⟨x5, hx5, hm⟩ := po_bind hm
      refine po_callV (As := []) hF dX3_readNumber_30 wq_560 mv_X3_next ws_X3_next (show po_cl[3]? = some _ from rfl) rfl kl0 (c_X3_next HL kl0 hx5) rfl (po_rtL hL rfl) (Nat.le_of_ble_eq_true rfl) rfl ?_
      refine po_bipush (v := 48) hF dX3_readNumber_33 (by decide) ?_
      refine po_icmp_lt (tgt := 64) hF dX3_readNumber_35 (by decide) hm (fun hm => ?_) (fun hm => ?_)
      · refine po_sub (L' := [(0, .ref l0), (1, .int l1), (2, .int l2), (3, .int v2), (4, .int v4)]) rfl ?_
        exact w_X3_readNumber_64 hF hL HL (x3.2) l0 l1 l2 v2 v4 kl0 hm
      · refine po_aload_n hF dX3_readNumber_38 rfl rfl ?_
        obtain ⟨x6, hx6, hm⟩ := po_bind hm
        refine po_callV (As := []) hF dX3_readNumber_39 wq_560 mv_X3_next ws_X3_next (show po_cl[3]? = some _ from rfl) rfl kl0 (c_X3_next HL kl0 hx6) rfl (po_rtL hL rfl) (Nat.le_of_ble_eq_true rfl) rfl ?_
        refine po_bipush (v := 57) hF dX3_readNumber_42 (by decide) ?_
        refine po_icmp_gt (tgt := 64) hF dX3_readNumber_44 (by decide) hm (fun hm => ?_) (fun hm => ?_)
        · refine po_sub (L' := [(0, .ref l0), (1, .int l1), (2, .int l2), (3, .int v2), (4, .int v4)]) rfl ?_
          exact w_X3_readNumber_64 hF hL HL (x3.2) l0 l1 l2 v2 v4 kl0 hm
        · refine po_bipush (v := 10) hF dX3_readNumber_47 (by decide) ?_
          refine po_iload hF dX3_readNumber_49 rfl ?_
          refine po_imul hF dX3_readNumber_51 ?_
          refine po_aload_n hF dX3_readNumber_52 rfl rfl ?_
          refine po_bipush (v := 48) hF dX3_readNumber_53 (by decide) ?_
          refine po_iconst (v := 0) hF dX3_readNumber_55 (by decide) ?_
          refine po_bipush (v := 9) hF dX3_readNumber_56 (by decide) ?_
          obtain ⟨x7, hx7, hm⟩ := po_bind hm
          refine po_callV (As := [.int 48, .int 0, .int 9]) hF dX3_readNumber_58 wq_572 mv_X3_readValue ws_X3_readValue (show po_cl[3]? = some _ from rfl) rfl kl0 (c_X3_readValue HL kl0 hx7) rfl (po_rtL hL rfl) (Nat.le_of_ble_eq_true rfl) rfl ?_
          refine po_iadd hF dX3_readNumber_61 ?_
          refine po_top hm (fun v8 hm => ?_)
          refine po_istore (L' := [(4, .int v8), (3, .int v2), (0, .ref l0), (1, .int l1), (2, .int l2)]) hF dX3_readNumber_62 (by decide) rfl ?_
          refine po_sub (L' := [(0, .ref l0), (1, .int l1), (2, .int l2), (3, .int v2), (4, .int v8)]) rfl ?_
          exact w_X3_readNumber_64 hF hL HL (x7.2) l0 l1 l2 v2 v8 kl0 hm
  · refine po_iconst (v := (-1)) hF dX3_readNumber_22 (by decide) ?_
    cases hm
    exact po_iret hF hL dX3_readNumber_23 (by decide) (by decide) rfl rfl rfl (Or.inl rfl)
theorem c_X3_readNumber {K : po_K} {R : po_R} {I : po_I} {st : Nat → Nat} {ρ : Int32 × po_I} (HL : po_Lay K R st) {l0 : Nat} {l1 : Int32} {l2 : Int32} (kl0 : K l0 = (14, 4)) (hm : m_X3_readNumber I l0 l1 l2 = some ρ) : po_C st yX3_readNumber cX3_readNumber 5 (some .int) 2 0 0 [.ref l0, .int l1, .int l2] K R I none (.inl (some (.int ρ.1))) K R (ρ.2) none := by
  refine po_ofC (by decide +kernel) (Nat.le_of_ble_eq_true rfl) (fun X G hF hL => ?_)
  exact w_X3_readNumber_e hF hL HL I l0 l1 l2 kl0 hm
