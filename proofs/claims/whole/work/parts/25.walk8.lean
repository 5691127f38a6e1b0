set_option maxRecDepth 20000 in
set_option maxHeartbeats 2000000 in
theorem w_X8_isIn_15 {X : po_X} {G : po_G} {st : Nat → Nat} {K : po_K} {I : po_I} {R : po_R} {ρ : Int32} (hF : po_F X G cX8_isIn RX8 3 st) (hL : po_L X (some .boolean) 0 0 0 "isIn") (HL : po_Lay K R st) (s0 : Int32) (hm : m_X8_isIn_15 s0 = some ρ) : po_V X G 3 (po_Q X G (.inl (some (.int ρ))) K R I none 0 0) 0 0 15 [] [.int s0] K R I none := by
  unfold m_X8_isIn_15 at hm
  obtain ⟨hz, hm⟩ := po_zif hm
  cases hm
  exact po_zret hF hL dX8_isIn_15 (po_nz hz) (by decide) (by decide) rfl rfl rfl (Or.inl rfl)
set_option maxRecDepth 20000 in
set_option maxHeartbeats 2000000 in
theorem w_X8_isIn_14 {X : po_X} {G : po_G} {st : Nat → Nat} {K : po_K} {I : po_I} {R : po_R} {ρ : Int32} (hF : po_F X G cX8_isIn RX8 3 st) (hL : po_L X (some .boolean) 0 0 0 "isIn") (HL : po_Lay K R st) (hm : m_X8_isIn_14 = some ρ) : po_V X G 3 (po_Q X G (.inl (some (.int ρ))) K R I none 0 0) 0 0 14 [] [] K R I none := by
  unfold m_X8_isIn_14 at hm
  refine po_iconst (v := 0) hF dX8_isIn_14 (by decide) ?_
  exact w_X8_isIn_15 hF hL HL 0 hm
set_option maxRecDepth 20000 in
set_option maxHeartbeats 2000000 in
theorem w_X8_isIn_e {X : po_X} {G : po_G} {st : Nat → Nat} {K : po_K} {I : po_I} {R : po_R} {ρ : Int32} (hF : po_F X G cX8_isIn RX8 3 st) (hL : po_L X (some .boolean) 0 0 0 "isIn") (HL : po_Lay K R st) (l0 : Int32) (l1 : Int32) (l2 : Int32) (hm : m_X8_isIn_e l0 l1 l2 = some ρ) : po_V X G 3 (po_Q X G (.inl (some (.int ρ))) K R I none 0 0) 0 0 0 [(0, .int l0), (1, .int l1), (2, .int l2)] [] K R I none := by
  unfold m_X8_isIn_e at hm
  refine po_iload_n hF dX8_isIn_0 rfl rfl ?_
  refine po_iload_n hF dX8_isIn_1 rfl rfl ?_
  refine po_icmp_lt (tgt := 14) hF dX8_isIn_2 (by decide) hm (fun hm => ?_) (fun hm => ?_)
  · refine po_sub (L' := []) rfl ?_
    exact w_X8_isIn_14 hF hL HL hm
  · refine po_iload_n hF dX8_isIn_5 rfl rfl ?_
    refine po_iload_n hF dX8_isIn_6 rfl rfl ?_
    refine po_icmp_gt (tgt := 14) hF dX8_isIn_7 (by decide) hm (fun hm => ?_) (fun hm => ?_)
    · refine po_sub (L' := []) rfl ?_
      exact w_X8_isIn_14 hF hL HL hm
    · refine po_iconst (v := 1) hF dX8_isIn_10 (by decide) ?_
      refine po_goto (tgt := 15) hF dX8_isIn_11 (by decide) ?_
      refine po_sub (L' := []) rfl ?_
      exact w_X8_isIn_15 hF hL HL 1 hm
theorem c_X8_isIn {K : po_K} {R : po_R} {I : po_I} {st : Nat → Nat} {ρ : Int32} (HL : po_Lay K R st) {l0 : Int32} {l1 : Int32} {l2 : Int32} (hm : m_X8_isIn l0 l1 l2 = some ρ) : po_C st yX8_isIn cX8_isIn 3 (some .boolean) 0 0 0 [.int l0, .int l1, .int l2] K R I none (.inl (some (.int ρ))) K R I none := by
  refine po_ofC (by decide +kernel) (Nat.le_of_ble_eq_true rfl) (fun X G hF hL => ?_)
  exact w_X8_isIn_e hF hL HL l0 l1 l2 hm
set_option maxRecDepth 20000 in
set_option maxHeartbeats 2000000 in
theorem w_X8_fail_e {X : po_X} {G : po_G} {st : Nat → Nat} {K : po_K} {R : po_R} {ρ : Int32 × po_I} (hF : po_F X G cX8_fail RX8 2 st) (hL : po_L X (some .int) 0 0 0 "fail") (HL : po_Lay K R st) (I : po_I) (l0 : Nat) (l1 : Int32) (kl0 : K l0 = (19, 19)) (hm : m_X8_fail_e I l0 l1 = some ρ) : po_V X G 2 (po_Q X G (.inl (some (.int ρ.1))) K R (ρ.2) none 0 0) 0 0 0 [(0, .ref l0), (1, .int l1)] [] K R I none := by
  unfold m_X8_fail_e at hm
  refine po_aload_n hF dX8_fail_0 rfl rfl ?_
  refine po_iload_n hF dX8_fail_1 rfl rfl ?_
  refine po_puti hF dX8_fail_2 fl_X8_1 kl0 (by intro r h; cases h; rfl) rfl rfl (fun _ => rfl) rfl ?_
  refine po_hname hm (fun I1 hm => ?_)
  refine po_iconst (v := 0) hF dX8_fail_5 (by decide) ?_
  cases hm
  exact po_iret hF hL dX8_fail_6 (by decide) (by decide) rfl rfl rfl (Or.inl rfl)
theorem c_X8_fail {K : po_K} {R : po_R} {I : po_I} {st : Nat → Nat} {ρ : Int32 × po_I} (HL : po_Lay K R st) {l0 : Nat} {l1 : Int32} (kl0 : K l0 = (19, 19)) (hm : m_X8_fail I l0 l1 = some ρ) : po_C st yX8_fail cX8_fail 2 (some .int) 0 0 0 [.ref l0, .int l1] K R I none (.inl (some (.int ρ.1))) K R (ρ.2) none := by
  refine po_ofC (by decide +kernel) (Nat.le_of_ble_eq_true rfl) (fun X G hF hL => ?_)
  exact w_X8_fail_e hF hL HL I l0 l1 kl0 hm
set_option maxRecDepth 20000 in
set_option maxHeartbeats 2000000 in
theorem w_X8_append_139 {X : po_X} {G : po_G} {st : Nat → Nat} {K : po_K} {R : po_R} {ρ : Int32 × po_I} {r100 : po_I → Nat → Int32 → Int32 → Option (Int32 × po_I)} (hF : po_F X G cX8_append RX8 5 st) (hL : po_L X (some .int) 1 0 0 "append") (HL : po_Lay K R st) (h100 : ∀ (I : po_I) (l0 : Nat) (l1 : Int32) (l3 : Int32), r100 I l0 l1 l3 = some ρ → K l0 = (19, 19) → po_V X G 5 (po_Q X G (.inl (some (.int ρ.1))) K R (ρ.2) none 0 0) 0 0 100 [(0, .ref l0), (1, .int l1), (3, .int l3)] [] K R I none) (I : po_I) (l0 : Nat) (l1 : Int32) (l3 : Int32) (kl0 : K l0 = (19, 19)) (hm : m_X8_append_139 r100 I l0 l1 l3 = some ρ) : po_V X G 5 (po_Q X G (.inl (some (.int ρ.1))) K R (ρ.2) none 0 0) 0 0 139 [(0, .ref l0), (1, .int l1), (3, .int l3)] [] K R I none := by
  unfold m_X8_append_139 at hm
  refine po_iinc (v := l3 + (-8)) (L' := [(3, .int (l3 + (-8))), (0, .ref l0), (1, .int l1)]) hF dX8_append_139 rfl rfl (by decide) rfl ?_
  refine po_goto (tgt := 100) hF dX8_append_142 (by decide) ?_
  refine po_sub (L' := [(0, .ref l0), (1, .int l1), (3, .int (l3 + (-8)))]) rfl ?_
  exact h100 I l0 l1 (l3 + (-8)) hm kl0
set_option maxRecDepth 20000 in
set_option maxHeartbeats 2000000 in
theorem w_X8_append_100 {X : po_X} {G : po_G} {st : Nat → Nat} {K : po_K} {R : po_R} {ρ : Int32 × po_I} {r100 : po_I → Nat → Int32 → Int32 → Option (Int32 × po_I)} (hF : po_F X G cX8_append RX8 5 st) (hL : po_L X (some .int) 1 0 0 "append") (HL : po_Lay K R st) (h100 : ∀ (I : po_I) (l0 : Nat) (l1 : Int32) (l3 : Int32), r100 I l0 l1 l3 = some ρ → K l0 = (19, 19) → po_V X G 5 (po_Q X G (.inl (some (.int ρ.1))) K R (ρ.2) none 0 0) 0 0 100 [(0, .ref l0), (1, .int l1), (3, .int l3)] [] K R I none) (I : po_I) (l0 : Nat) (l1 : Int32) (l3 : Int32) (kl0 : K l0 = (19, 19)) (hm : m_X8_append_100 r100 I l0 l1 l3 = some ρ) : po_V X G 5 (po_Q X G (.inl (some (.int ρ.1))) K R (ρ.2) none 0 0) 0 0 100 [(0, .ref l0), (1, .int l1), (3, .int l3)] [] K R I none := by
  unfold m_X8_append_100 at hm
  refine po_iload_n hF dX8_append_100 rfl rfl ?_
  refine po_if_lt (tgt := 145) hF dX8_append_101 (by decide) hm (fun hm => ?_) (fun hm => ?_)
  · refine po_aload_n hF dX8_append_145 rfl rfl ?_
    refine po_getf (v := .int (I l0 12)) hF dX8_append_146 fl_X8_160 kl0 rfl ?_
    cases hm
    exact po_iret hF hL dX8_append_149 (by decide) (by decide) rfl rfl rfl (Or.inl rfl)
  · refine po_iload_n hF dX8_append_104 rfl rfl ?_
    refine po_iload_n hF dX8_append_105 rfl rfl ?_
    refine po_iushr hF dX8_append_106 ?_
    refine po_sipush (v := 255) hF dX8_append_107 (by decide) ?_
    refine po_iand hF dX8_append_110 ?_
    refine po_top hm (fun v1 hm => ?_)
    refine po_istore (L' := [(4, .int v1), (0, .ref l0), (1, .int l1), (3, .int l3)]) hF dX8_append_111 (by decide) rfl ?_
    refine po_iload hF dX8_append_113 rfl ?_
    refine po_if_eq (tgt := 139) hF dX8_append_115 (by decide) hm (fun hm => ?_) (fun hm => ?_)
    · refine po_sub (L' := [(0, .ref l0), (1, .int l1), (3, .int l3)]) rfl ?_
      exact w_X8_append_139 hF hL HL h100 I l0 l1 l3 kl0 hm
    · refine po_aload_n hF dX8_append_118 rfl rfl ?_
      refine po_getf (v := .ref (l0 + 5)) hF dX8_append_119 fl_X8_26 kl0 (ly_8_11 HL kl0).1 ?_
      refine po_aload_n hF dX8_append_122 rfl rfl ?_
      refine po_getf (v := .int (I l0 12)) hF dX8_append_123 fl_X8_160 kl0 rfl ?_
      refine po_iload hF dX8_append_126 rfl ?_
      refine po_iast hF dX8_append_128 ((ly_8_11 HL kl0).2) hm rfl (fun hm => ?_)
      refine po_hname hm (fun I2 hm => ?_)
      refine po_aload_n hF dX8_append_129 rfl rfl ?_
      refine po_dup hF dX8_append_130 rfl ?_
      refine po_getf (v := .int (I2 l0 12)) hF dX8_append_131 fl_X8_160 kl0 rfl ?_
      refine po_iconst (v := 1) hF dX8_append_134 (by decide) ?_
      refine po_iadd hF dX8_append_135 ?_
      refine po_puti hF dX8_append_136 fl_X8_160 kl0 (by intro r h; cases h; rfl) rfl rfl (fun _ => rfl) rfl ?_
      refine po_hname hm (fun I3 hm => ?_)
      refine po_sub (L' := [(0, .ref l0), (1, .int l1), (3, .int l3)]) rfl ?_
      exact w_X8_append_139 hF hL HL h100 I3 l0 l1 l3 kl0 hm
theorem w_X8_append_100L {X : po_X} {G : po_G} {st : Nat → Nat} {K : po_K} {R : po_R} {ρ : Int32 × po_I} (hF : po_F X G cX8_append RX8 5 st) (hL : po_L X (some .int) 1 0 0 "append") (HL : po_Lay K R st) : ∀ (n : Nat) (I : po_I) (l0 : Nat) (l1 : Int32) (l3 : Int32), m_X8_append_100L n I l0 l1 l3 = some ρ → K l0 = (19, 19) → po_V X G 5 (po_Q X G (.inl (some (.int ρ.1))) K R (ρ.2) none 0 0) 0 0 100 [(0, .ref l0), (1, .int l1), (3, .int l3)] [] K R I none := by
  intro n
  induction n with
  | zero => intro I l0 l1 l3 hm; cases hm
  | succ n ih => intro I l0 l1 l3 hm kl0; exact w_X8_append_100 hF hL HL (ih) I l0 l1 l3 kl0 hm
set_option maxRecDepth 20000 in
set_option maxHeartbeats 2000000 in
theorem w_X8_append_63 {X : po_X} {G : po_G} {st : Nat → Nat} {K : po_K} {R : po_R} {ρ : Int32 × po_I} {r10 : po_I → Nat → Int32 → Int32 → Int32 → Option (Int32 × po_I)} (hF : po_F X G cX8_append RX8 5 st) (hL : po_L X (some .int) 1 0 0 "append") (HL : po_Lay K R st) (h10 : ∀ (I : po_I) (l0 : Nat) (l1 : Int32) (l2 : Int32) (l3 : Int32), r10 I l0 l1 l2 l3 = some ρ → K l0 = (19, 19) → po_V X G 5 (po_Q X G (.inl (some (.int ρ.1))) K R (ρ.2) none 0 0) 0 0 10 [(0, .ref l0), (1, .int l1), (2, .int l2), (3, .int l3)] [] K R I none) (I : po_I) (l0 : Nat) (l1 : Int32) (l3 : Int32) (s0 : Int32) (s1 : Int32) (kl0 : K l0 = (19, 19)) (hm : m_X8_append_63 r10 I l0 l1 l3 s0 s1 = some ρ) : po_V X G 5 (po_Q X G (.inl (some (.int ρ.1))) K R (ρ.2) none 0 0) 0 0 63 [(0, .ref l0), (1, .int l1), (3, .int l3)] [.int s1, .int s0] K R I none := by
  unfold m_X8_append_63 at hm
  refine po_iadd hF dX8_append_63 ?_
  refine po_top hm (fun v4 hm => ?_)
  refine po_istore_n (L' := [(2, .int v4), (0, .ref l0), (1, .int l1), (3, .int l3)]) hF dX8_append_64 rfl (by decide) rfl ?_
  refine po_iinc (v := l3 + (-8)) (L' := [(3, .int (l3 + (-8))), (2, .int v4), (0, .ref l0), (1, .int l1)]) hF dX8_append_65 rfl rfl (by decide) rfl ?_
  refine po_goto (tgt := 10) hF dX8_append_68 (by decide) ?_
  refine po_sub (L' := [(0, .ref l0), (1, .int l1), (2, .int v4), (3, .int (l3 + (-8)))]) rfl ?_
  exact h10 I l0 l1 v4 (l3 + (-8)) hm kl0
set_option maxRecDepth 20000 in
set_option maxHeartbeats 2000000 in
theorem w_X8_append_49 {X : po_X} {G : po_G} {st : Nat → Nat} {K : po_K} {R : po_R} {ρ : Int32 × po_I} {r10 : po_I → Nat → Int32 → Int32 → Int32 → Option (Int32 × po_I)} (hF : po_F X G cX8_append RX8 5 st) (hL : po_L X (some .int) 1 0 0 "append") (HL : po_Lay K R st) (h10 : ∀ (I : po_I) (l0 : Nat) (l1 : Int32) (l2 : Int32) (l3 : Int32), r10 I l0 l1 l2 l3 = some ρ → K l0 = (19, 19) → po_V X G 5 (po_Q X G (.inl (some (.int ρ.1))) K R (ρ.2) none 0 0) 0 0 10 [(0, .ref l0), (1, .int l1), (2, .int l2), (3, .int l3)] [] K R I none) (I : po_I) (l0 : Nat) (l1 : Int32) (l2 : Int32) (l3 : Int32) (l4 : Int32) (s0 : Nat) (s1 : Int32) (kl0 : K l0 = (19, 19)) (ks0 : K s0 = (19, 19)) (hm : m_X8_append_49 r10 I l0 l1 l2 l3 l4 s0 s1 = some ρ) : po_V X G 5 (po_Q X G (.inl (some (.int ρ.1))) K R (ρ.2) none 0 0) 0 0 49 [(0, .ref l0), (1, .int l1), (2, .int l2), (3, .int l3), (4, .int l4)] [.int s1, .ref s0] K R I none := by
  unfold m_X8_append_49 at hm
  refine po_puti hF dX8_append_49 fl_X8_1 ks0 (by intro r h; cases h; rfl) rfl rfl (fun _ => rfl) rfl ?_
  refine po_hname hm (fun I5 hm => ?_)
  refine po_iload_n hF dX8_append_52 rfl rfl ?_
  refine po_iload hF dX8_append_53 rfl ?_
  refine po_if_eq (tgt := 62) hF dX8_append_55 (by decide) hm (fun hm => ?_) (fun hm => ?_)
  · refine po_iconst (v := 0) hF dX8_append_62 (by decide) ?_
    refine po_sub (L' := [(0, .ref l0), (1, .int l1), (3, .int l3)]) rfl ?_
    exact w_X8_append_63 hF hL HL h10 I5 l0 l1 l3 l2 0 kl0 hm
  · refine po_iconst (v := 1) hF dX8_append_58 (by decide) ?_
    refine po_goto (tgt := 63) hF dX8_append_59 (by decide) ?_
    refine po_sub (L' := [(0, .ref l0), (1, .int l1), (3, .int l3)]) rfl ?_
    exact w_X8_append_63 hF hL HL h10 I5 l0 l1 l3 l2 1 kl0 hm
set_option maxRecDepth 20000 in
set_option maxHeartbeats 2000000 in
theorem w_X8_append_45 {X : po_X} {G : po_G} {st : Nat → Nat} {K : po_K} {R : po_R} {ρ : Int32 × po_I} {r10 : po_I → Nat → Int32 → Int32 → Int32 → Option (Int32 × po_I)} (hF : po_F X G cX8_append RX8 5 st) (hL : po_L X (some .int) 1 0 0 "append") (HL : po_Lay K R st) (h10 : ∀ (I : po_I) (l0 : Nat) (l1 : Int32) (l2 : Int32) (l3 : Int32), r10 I l0 l1 l2 l3 = some ρ → K l0 = (19, 19) → po_V X G 5 (po_Q X G (.inl (some (.int ρ.1))) K R (ρ.2) none 0 0) 0 0 10 [(0, .ref l0), (1, .int l1), (2, .int l2), (3, .int l3)] [] K R I none) (I : po_I) (l0 : Nat) (l1 : Int32) (l2 : Int32) (l3 : Int32) (l4 : Int32) (s0 : Nat) (kl0 : K l0 = (19, 19)) (ks0 : K s0 = (19, 19)) (hm : m_X8_append_45 r10 I l0 l1 l2 l3 l4 s0 = some ρ) : po_V X G 5 (po_Q X G (.inl (some (.int ρ.1))) K R (ρ.2) none 0 0) 0 0 45 [(0, .ref l0), (1, .int l1), (2, .int l2), (3, .int l3), (4, .int l4)] [.ref s0] K R I none := by
  unfold m_X8_append_45 at hm
  refine po_aload_n hF dX8_append_45 rfl rfl ?_
  refine po_getf (v := .int (I l0 0)) hF dX8_append_46 fl_X8_1 kl0 rfl ?_
  exact w_X8_append_49 hF hL HL h10 I l0 l1 l2 l3 l4 s0 (I l0 0) kl0 ks0 hm
set_option maxRecDepth 20000 in
set_option maxHeartbeats 2000000 in
theorem w_X8_append_10 {X : po_X} {G : po_G} {st : Nat → Nat} {K : po_K} {R : po_R} {ρ : Int32 × po_I} {r10 : po_I → Nat → Int32 → Int32 → Int32 → Option (Int32 × po_I)} (hF : po_F X G cX8_append RX8 5 st) (hL : po_L X (some .int) 1 0 0 "append") (HL : po_Lay K R st) (h10 : ∀ (I : po_I) (l0 : Nat) (l1 : Int32) (l2 : Int32) (l3 : Int32), r10 I l0 l1 l2 l3 = some ρ → K l0 = (19, 19) → po_V X G 5 (po_Q X G (.inl (some (.int ρ.1))) K R (ρ.2) none 0 0) 0 0 10 [(0, .ref l0), (1, .int l1), (2, .int l2), (3, .int l3)] [] K R I none) (I : po_I) (l0 : Nat) (l1 : Int32) (l2 : Int32) (l3 : Int32) (kl0 : K l0 = (19, 19)) (hm : m_X8_append_10 r10 I l0 l1 l2 l3 = some ρ) : po_V X G 5 (po_Q X G (.inl (some (.int ρ.1))) K R (ρ.2) none 0 0) 0 0 10 [(0, .ref l0), (1, .int l1), (2, .int l2), (3, .int l3)] [] K R I none := by
  unfold m_X8_append_10 at hm
  refine po_iload_n hF dX8_append_10 rfl rfl ?_
  refine po_if_lt (tgt := 71) hF dX8_append_11 (by decide) hm (fun hm => ?_) (fun hm => ?_)
  · refine po_aload_n hF dX8_append_71 rfl rfl ?_
    refine po_getf (v := .int (I l0 0)) hF dX8_append_72 fl_X8_1 kl0 rfl ?_
    refine po_if_eq (tgt := 80) hF dX8_append_75 (by decide) hm (fun hm => ?_) (fun hm => ?_)
    · refine po_aload_n hF dX8_append_80 rfl rfl ?_
      refine po_getf (v := .int (I l0 12)) hF dX8_append_81 fl_X8_160 kl0 rfl ?_
      refine po_iload_n hF dX8_append_84 rfl rfl ?_
      refine po_iadd hF dX8_append_85 ?_
      refine po_bipush (v := 60) hF dX8_append_86 (by decide) ?_
      refine po_icmp_le (tgt := 97) hF dX8_append_88 (by decide) hm (fun hm => ?_) (fun hm => ?_)
      · refine po_bipush (v := 24) hF dX8_append_97 (by decide) ?_
        refine po_istore_n (L' := [(3, .int 24), (0, .ref l0), (1, .int l1), (2, .int l2)]) hF dX8_append_99 rfl (by decide) rfl ?_
        refine po_sub (L' := [(0, .ref l0), (1, .int l1), (3, .int 24)]) rfl ?_
        exact w_X8_append_100L hF hL HL 5000 I l0 l1 24 hm kl0
      · refine po_aload_n hF dX8_append_91 rfl rfl ?_
        refine po_iconst (v := 2) hF dX8_append_92 (by decide) ?_
        obtain ⟨x6, hx6, hm⟩ := po_bind hm
        refine po_callV (As := [.int 2]) hF dX8_append_93 wq_1285 mv_X8_fail ws_X8_fail (show po_cl[8]? = some _ from rfl) rfl kl0 (c_X8_fail HL kl0 hx6) rfl (po_rtL hL rfl) (Nat.le_of_ble_eq_true rfl) rfl ?_
        cases hm
        exact po_iret hF hL dX8_append_96 (by decide) (by decide) rfl rfl rfl (Or.inl rfl)
    · refine po_iconst (v := 0) hF dX8_append_78 (by decide) ?_
      cases hm
      exact po_iret hF hL dX8_append_79 (by decide) (by decide) rfl rfl rfl (Or.inl rfl)
  · refine po_iload_n hF dX8_append_14 rfl rfl ?_
    refine po_iload_n hF dX8_append_15 rfl rfl ?_
    refine po_iushr hF dX8_append_16 ?_
    refine po_sipush (v := 255) hF dX8_append_17 (by decide) ?_
    refine po_iand hF dX8_append_20 ?_
    refine po_top hm (fun v7 hm => ?_)
    refine po_istore (L' := [(4, .int v7), (0, .ref l0), (1, .int l1), (2, .int l2), (3, .int l3)]) hF dX8_append_21 (by decide) rfl ?_
    refine po_aload_n hF dX8_append_23 rfl rfl ?_
    refine po_iload hF dX8_append_24 rfl ?_
    refine po_if_eq (tgt := 45) hF dX8_append_26 (by decide) hm (fun hm => ?_) (fun hm => ?_)
    · refine po_sub (L' := [(0, .ref l0), (1, .int l1), (2, .int l2), (3, .int l3), (4, .int v7)]) rfl ?_
      exact w_X8_append_45 hF hL HL h10 I l0 l1 l2 l3 v7 l0 kl0 kl0 hm
    · refine po_iload hF dX8_append_29 rfl ?_
      refine po_bipush (v := 33) hF dX8_append_31 (by decide) ?_
      refine po_bipush (v := 126) hF dX8_append_33 (by decide) ?_
      obtain ⟨x8, hx8, hm⟩ := po_bind hm
      refine po_callS (As := [.int v7, .int 33, .int 126]) hF dX8_append_35 wq_1282 mv_X8_isIn (c_X8_isIn HL hx8) rfl (po_rtL hL rfl) (Nat.le_of_ble_eq_true rfl) rfl ?_
      refine po_if_ne (tgt := 45) hF dX8_append_38 (by decide) hm (fun hm => ?_) (fun hm => ?_)
      · refine po_sub (L' := [(0, .ref l0), (1, .int l1), (2, .int l2), (3, .int l3), (4, .int v7)]) rfl ?_
        exact w_X8_append_45 hF hL HL h10 I l0 l1 l2 l3 v7 l0 kl0 kl0 hm
      · refine po_iconst (v := 1) hF dX8_append_41 (by decide) ?_
        refine po_goto (tgt := 49) hF dX8_append_42 (by decide) ?_
        refine po_sub (L' := [(0, .ref l0), (1, .int l1), (2, .int l2), (3, .int l3), (4, .int v7)]) rfl ?_
        exact w_X8_append_49 hF hL HL h10 I l0 l1 l2 l3 v7 l0 1 kl0 kl0 hm
theorem w_X8_append_10L {X : po_X} {G : po_G} {st : Nat → Nat} {K : po_K} {R : po_R} {ρ : Int32 × po_I} (hF : po_F X G cX8_append RX8 5 st) (hL : po_L X (some .int) 1 0 0 "append") (HL : po_Lay K R st) : ∀ (n : Nat) (I : po_I) (l0 : Nat) (l1 : Int32) (l2 : Int32) (l3 : Int32), m_X8_append_10L n I l0 l1 l2 l3 = some ρ → K l0 = (19, 19) → po_V X G 5 (po_Q X G (.inl (some (.int ρ.1))) K R (ρ.2) none 0 0) 0 0 10 [(0, .ref l0), (1, .int l1), (2, .int l2), (3, .int l3)] [] K R I none := by
  intro n
  induction n with
  | zero => intro I l0 l1 l2 l3 hm; cases hm
  | succ n ih => intro I l0 l1 l2 l3 hm kl0; exact w_X8_append_10 hF hL HL (ih) I l0 l1 l2 l3 kl0 hm
set_option maxRecDepth 20000 in
set_option maxHeartbeats 2000000 in
theorem w_X8_append_e {X : po_X} {G : po_G} {st : Nat → Nat} {K : po_K} {R : po_R} {ρ : Int32 × po_I} (hF : po_F X G cX8_append RX8 5 st) (hL : po_L X (some .int) 1 0 0 "append") (HL : po_Lay K R st) (I : po_I) (l0 : Nat) (l1 : Int32) (kl0 : K l0 = (19, 19)) (hm : m_X8_append_e I l0 l1 = some ρ) : po_V X G 5 (po_Q X G (.inl (some (.int ρ.1))) K R (ρ.2) none 0 0) 0 0 0 [(0, .ref l0), (1, .int l1)] [] K R I none := by
  unfold m_X8_append_e at hm
  refine po_aload_n hF dX8_append_0 rfl rfl ?_
  refine po_iconst (v := 0) hF dX8_append_1 (by decide) ?_
  refine po_puti hF dX8_append_2 fl_X8_1 kl0 (by intro r h; cases h; rfl) rfl rfl (fun _ => rfl) rfl ?_
  refine po_hname hm (fun I9 hm => ?_)
  refine po_iconst (v := 0) hF dX8_append_5 (by decide) ?_
  refine po_istore_n (L' := [(2, .int 0), (0, .ref l0), (1, .int l1)]) hF dX8_append_6 rfl (by decide) rfl ?_
  refine po_bipush (v := 24) hF dX8_append_7 (by decide) ?_
  refine po_istore_n (L' := [(3, .int 24), (2, .int 0), (0, .ref l0), (1, .int l1)]) hF dX8_append_9 rfl (by decide) rfl ?_
  refine po_sub (L' := [(0, .ref l0), (1, .int l1), (2, .int 0), (3, .int 24)]) rfl ?_
  exact w_X8_append_10L hF hL HL 5000 I9 l0 l1 0 24 hm kl0
theorem c_X8_append {K : po_K} {R : po_R} {I : po_I} {st : Nat → Nat} {ρ : Int32 × po_I} (HL : po_Lay K R st) {l0 : Nat} {l1 : Int32} (kl0 : K l0 = (19, 19)) (hm : m_X8_append I l0 l1 = some ρ) : po_C st yX8_append cX8_append 5 (some .int) 1 0 0 [.ref l0, .int l1] K R I none (.inl (some (.int ρ.1))) K R (ρ.2) none := by
  refine po_ofC (by decide +kernel) (Nat.le_of_ble_eq_true rfl) (fun X G hF hL => ?_)
  exact w_X8_append_e hF hL HL I l0 l1 kl0 hm
set_option maxRecDepth 20000 in
set_option maxHeartbeats 2000000 in
theorem w_X8_copy_2 {X : po_X} {G : po_G} {st : Nat → Nat} {K : po_K} {R : po_R} {ρ : po_I} {r2 : po_I → Nat → Nat → Int32 → Option (po_I)} (hF : po_F X G cX8_copy RX8 3 st) (hL : po_L X none 0 0 0 "copy") (HL : po_Lay K R st) (h2 : ∀ (I : po_I) (l0 : Nat) (l1 : Nat) (l2 : Int32), r2 I l0 l1 l2 = some ρ → K l0 = (1, 668) → K l1 = (1, 668) → po_V X G 3 (po_Q X G (.inl (none)) K R (ρ) none 0 0) 0 0 2 [(0, .ref l0), (1, .ref l1), (2, .int l2)] [] K R I none) (I : po_I) (l0 : Nat) (l1 : Nat) (l2 : Int32) (kl0 : K l0 = (1, 668)) (kl1 : K l1 = (1, 668)) (hm : m_X8_copy_2 r2 I l0 l1 l2 = some ρ) : po_V X G 3 (po_Q X G (.inl (none)) K R (ρ) none 0 0) 0 0 2 [(0, .ref l0), (1, .ref l1), (2, .int l2)] [] K R I none := by
  unfold m_X8_copy_2 at hm
  refine po_iload_n hF dX8_copy_2 rfl rfl ?_
  refine po_sipush (v := 668) hF dX8_copy_3 (by decide) ?_
  refine po_icmp_ge (tgt := 21) hF dX8_copy_6 (by decide) hm (fun hm => ?_) (fun hm => ?_)
  · cases hm
    exact po_vret hF hL dX8_copy_21 (by decide) (by decide) rfl rfl rfl (Or.inl rfl)
  · refine po_aload_n hF dX8_copy_9 rfl rfl ?_
    refine po_iload_n hF dX8_copy_10 rfl rfl ?_
    refine po_aload_n hF dX8_copy_11 rfl rfl ?_
    refine po_iload_n hF dX8_copy_12 rfl rfl ?_
    refine po_iald hF dX8_copy_13 kl0 (Or.inl rfl) hm (fun hm => ?_)
    refine po_iast hF dX8_copy_14 kl1 hm rfl (fun hm => ?_)
    refine po_hname hm (fun I1 hm => ?_)
    refine po_iinc (v := l2 + 1) (L' := [(2, .int (l2 + 1)), (0, .ref l0), (1, .ref l1)]) hF dX8_copy_15 rfl rfl (by decide) rfl ?_
    refine po_goto (tgt := 2) hF dX8_copy_18 (by decide) ?_
    refine po_sub (L' := [(0, .ref l0), (1, .ref l1), (2, .int (l2 + 1))]) rfl ?_
    exact h2 I1 l0 l1 (l2 + 1) hm kl0 kl1
theorem w_X8_copy_2L {X : po_X} {G : po_G} {st : Nat → Nat} {K : po_K} {R : po_R} {ρ : po_I} (hF : po_F X G cX8_copy RX8 3 st) (hL : po_L X none 0 0 0 "copy") (HL : po_Lay K R st) : ∀ (n : Nat) (I : po_I) (l0 : Nat) (l1 : Nat) (l2 : Int32), m_X8_copy_2L n I l0 l1 l2 = some ρ → K l0 = (1, 668) → K l1 = (1, 668) → po_V X G 3 (po_Q X G (.inl (none)) K R (ρ) none 0 0) 0 0 2 [(0, .ref l0), (1, .ref l1), (2, .int l2)] [] K R I none := by
  intro n
  induction n with
  | zero => intro I l0 l1 l2 hm; cases hm
  | succ n ih => intro I l0 l1 l2 hm kl0 kl1; exact w_X8_copy_2 hF hL HL (ih) I l0 l1 l2 kl0 kl1 hm
set_option maxRecDepth 20000 in
set_option maxHeartbeats 2000000 in
theorem w_X8_copy_e {X : po_X} {G : po_G} {st : Nat → Nat} {K : po_K} {R : po_R} {ρ : po_I} (hF : po_F X G cX8_copy RX8 3 st) (hL : po_L X none 0 0 0 "copy") (HL : po_Lay K R st) (I : po_I) (l0 : Nat) (l1 : Nat) (kl0 : K l0 = (1, 668)) (kl1 : K l1 = (1, 668)) (hm : m_X8_copy_e I l0 l1 = some ρ) : po_V X G 3 (po_Q X G (.inl (none)) K R (ρ) none 0 0) 0 0 0 [(0, .ref l0), (1, .ref l1)] [] K R I none := by
  unfold m_X8_copy_e at hm
  refine po_iconst (v := 0) hF dX8_copy_0 (by decide) ?_
  refine po_istore_n (L' := [(2, .int 0), (0, .ref l0), (1, .ref l1)]) hF dX8_copy_1 rfl (by decide) rfl ?_
  refine po_sub (L' := [(0, .ref l0), (1, .ref l1), (2, .int 0)]) rfl ?_
  exact w_X8_copy_2L hF hL HL 5000 I l0 l1 0 hm kl0 kl1
theorem c_X8_copy {K : po_K} {R : po_R} {I : po_I} {st : Nat → Nat} {ρ : po_I} (HL : po_Lay K R st) {l0 : Nat} {l1 : Nat} (kl0 : K l0 = (1, 668)) (kl1 : K l1 = (1, 668)) (hm : m_X8_copy I l0 l1 = some ρ) : po_C st yX8_copy cX8_copy 3 none 0 0 0 [.ref l0, .ref l1] K R I none (.inl (none)) K R (ρ) none := by
  refine po_ofC (by decide +kernel) (Nat.le_of_ble_eq_true rfl) (fun X G hF hL => ?_)
  exact w_X8_copy_e hF hL HL I l0 l1 kl0 kl1 hm
set_option maxRecDepth 20000 in
set_option maxHeartbeats 2000000 in
theorem w_X8_sign_24 {X : po_X} {G : po_G} {st : Nat → Nat} {K : po_K} {I : po_I} {R : po_R} {ρ : Int32} (hF : po_F X G cX8_sign RX8 1 st) (hL : po_L X (some .int) 0 0 0 "sign") (HL : po_Lay K R st) (s0 : Int32) (hm : m_X8_sign_24 I s0 = some ρ) : po_V X G 1 (po_Q X G (.inl (some (.int ρ))) K R I none 0 0) 0 0 24 [] [.int s0] K R I none := by
  unfold m_X8_sign_24 at hm
  cases hm
  exact po_iret hF hL dX8_sign_24 (by decide) (by decide) rfl rfl rfl (Or.inl rfl)
set_option maxRecDepth 20000 in
set_option maxHeartbeats 2000000 in
theorem w_X8_sign_e {X : po_X} {G : po_G} {st : Nat → Nat} {K : po_K} {I : po_I} {R : po_R} {ρ : Int32} (hF : po_F X G cX8_sign RX8 1 st) (hL : po_L X (some .int) 0 0 0 "sign") (HL : po_Lay K R st) (l0 : Nat) (kl0 : K l0 = (19, 19)) (hm : m_X8_sign_e I l0 = some ρ) : po_V X G 1 (po_Q X G (.inl (some (.int ρ))) K R I none 0 0) 0 0 0 [(0, .ref l0)] [] K R I none := by
  unfold m_X8_sign_e at hm
  refine po_aload_n hF dX8_sign_0 rfl rfl ?_
  refine po_getf (v := .int (I l0 14)) hF dX8_sign_1 fl_X8_166 kl0 rfl ?_
  refine po_aload_n hF dX8_sign_4 rfl rfl ?_
  refine po_getf (v := .int (I l0 13)) hF dX8_sign_5 fl_X8_169 kl0 rfl ?_
  refine po_icmp_ge (tgt := 23) hF dX8_sign_8 (by decide) hm (fun hm => ?_) (fun hm => ?_)
  · refine po_iconst (v := (-1)) hF dX8_sign_23 (by decide) ?_
    refine po_sub (L' := []) rfl ?_
    exact w_X8_sign_24 hF hL HL (-1) hm
  · refine po_aload_n hF dX8_sign_11 rfl rfl ?_
    refine po_getf (v := .ref (l0 + 5)) hF dX8_sign_12 fl_X8_26 kl0 (ly_8_11 HL kl0).1 ?_
    refine po_aload_n hF dX8_sign_15 rfl rfl ?_
    refine po_getf (v := .int (I l0 14)) hF dX8_sign_16 fl_X8_166 kl0 rfl ?_
    refine po_iald hF dX8_sign_19 ((ly_8_11 HL kl0).2) (Or.inl rfl) hm (fun hm => ?_)
    refine po_goto (tgt := 24) hF dX8_sign_20 (by decide) ?_
    refine po_sub (L' := []) rfl ?_
    exact w_X8_sign_24 hF hL HL (I (l0 + 5) (Int32.toNatClampNeg (I l0 14))) hm
theorem c_X8_sign {K : po_K} {R : po_R} {I : po_I} {st : Nat → Nat} {ρ : Int32} (HL : po_Lay K R st) {l0 : Nat} (kl0 : K l0 = (19, 19)) (hm : m_X8_sign I l0 = some ρ) : po_C st yX8_sign cX8_sign 1 (some .int) 0 0 0 [.ref l0] K R I none (.inl (some (.int ρ))) K R I none := by
  refine po_ofC (by decide +kernel) (Nat.le_of_ble_eq_true rfl) (fun X G hF hL => ?_)
  exact w_X8_sign_e hF hL HL l0 kl0 hm
set_option maxRecDepth 20000 in
set_option maxHeartbeats 2000000 in
theorem w_X8_faultAt_17 {X : po_X} {G : po_G} {st : Nat → Nat} {K : po_K} {R : po_R} {ρ : po_I} (hF : po_F X G cX8_faultAt RX8 2 st) (hL : po_L X none 0 0 0 "faultAt") (HL : po_Lay K R st) (I : po_I) (s0 : Nat) (s1 : Int32) (ks0 : K s0 = (19, 19)) (hm : m_X8_faultAt_17 I s0 s1 = some ρ) : po_V X G 2 (po_Q X G (.inl (none)) K R (ρ) none 0 0) 0 0 17 [] [.int s1, .ref s0] K R I none := by
  unfold m_X8_faultAt_17 at hm
  refine po_puti hF dX8_faultAt_17 fl_X8_29 ks0 (by intro r h; cases h; rfl) rfl rfl (fun _ => rfl) rfl ?_
  refine po_hname hm (fun I1 hm => ?_)
  cases hm
  exact po_vret hF hL dX8_faultAt_20 (by decide) (by decide) rfl rfl rfl (Or.inl rfl)
set_option maxRecDepth 20000 in
set_option maxHeartbeats 2000000 in
theorem w_X8_faultAt_e {X : po_X} {G : po_G} {st : Nat → Nat} {K : po_K} {R : po_R} {ρ : po_I} (hF : po_F X G cX8_faultAt RX8 2 st) (hL : po_L X none 0 0 0 "faultAt") (HL : po_Lay K R st) (I : po_I) (l0 : Nat) (l1 : Int32) (kl0 : K l0 = (19, 19)) (hm : m_X8_faultAt_e I l0 l1 = some ρ) : po_V X G 2 (po_Q X G (.inl (none)) K R (ρ) none 0 0) 0 0 0 [(0, .ref l0), (1, .int l1)] [] K R I none := by
  unfold m_X8_faultAt_e at hm
  refine po_aload_n hF dX8_faultAt_0 rfl rfl ?_
  refine po_aload_n hF dX8_faultAt_1 rfl rfl ?_
  refine po_getf (v := .int (I l0 15)) hF dX8_faultAt_2 fl_X8_29 kl0 rfl ?_
  refine po_iconst (v := (-1)) hF dX8_faultAt_5 (by decide) ?_
  refine po_icmp_ne (tgt := 13) hF dX8_faultAt_6 (by decide) hm (fun hm => ?_) (fun hm => ?_)
  · refine po_aload_n hF dX8_faultAt_13 rfl rfl ?_
    refine po_getf (v := .int (I l0 15)) hF dX8_faultAt_14 fl_X8_29 kl0 rfl ?_
    refine po_sub (L' := []) rfl ?_
    exact w_X8_faultAt_17 hF hL HL I l0 (I l0 15) kl0 hm
  · refine po_iload_n hF dX8_faultAt_9 rfl rfl ?_
    refine po_goto (tgt := 17) hF dX8_faultAt_10 (by decide) ?_
    refine po_sub (L' := []) rfl ?_
    exact w_X8_faultAt_17 hF hL HL I l0 l1 kl0 hm
theorem c_X8_faultAt {K : po_K} {R : po_R} {I : po_I} {st : Nat → Nat} {ρ : po_I} (HL : po_Lay K R st) {l0 : Nat} {l1 : Int32} (kl0 : K l0 = (19, 19)) (hm : m_X8_faultAt I l0 l1 = some ρ) : po_C st yX8_faultAt cX8_faultAt 2 none 0 0 0 [.ref l0, .int l1] K R I none (.inl (none)) K R (ρ) none := by
  refine po_ofC (by decide +kernel) (Nat.le_of_ble_eq_true rfl) (fun X G hF hL => ?_)
  exact w_X8_faultAt_e hF hL HL I l0 l1 kl0 hm
set_option maxRecDepth 20000 in
set_option maxHeartbeats 2000000 in
theorem w_X8_sign__39 {X : po_X} {G : po_G} {st : Nat → Nat} {K : po_K} {R : po_R} {ρ : Int32 × po_I} (hF : po_F X G cX8_sign_ RX8 4 st) (hL : po_L X (some .int) 1 0 0 "sign") (HL : po_Lay K R st) (I : po_I) (l0 : Nat) (kl0 : K l0 = (19, 19)) (hm : m_X8_sign__39 I l0 = some ρ) : po_V X G 4 (po_Q X G (.inl (some (.int ρ.1))) K R (ρ.2) none 0 0) 0 0 39 [(0, .ref l0)] [] K R I none := by
  unfold m_X8_sign__39 at hm
  refine po_aload_n hF dX8_sign__39 rfl rfl ?_
  refine po_aload_n hF dX8_sign__40 rfl rfl ?_
  refine po_getf (v := .int (I l0 14)) hF dX8_sign__41 fl_X8_166 kl0 rfl ?_
  obtain ⟨x1, hx1, hm⟩ := po_bind hm
  refine po_callV (As := [.int (I l0 14)]) hF dX8_sign__44 wq_1304 mv_X8_faultAt ws_X8_faultAt (show po_cl[8]? = some _ from rfl) rfl kl0 (c_X8_faultAt HL kl0 hx1) rfl (po_rtL hL rfl) (Nat.le_of_ble_eq_true rfl) rfl ?_
  refine po_iconst (v := 0) hF dX8_sign__47 (by decide) ?_
  cases hm
  exact po_iret hF hL dX8_sign__48 (by decide) (by decide) rfl rfl rfl (Or.inl rfl)
set_option maxRecDepth 20000 in
set_option maxHeartbeats 2000000 in
theorem w_X8_sign__e {X : po_X} {G : po_G} {st : Nat → Nat} {K : po_K} {R : po_R} {ρ : Int32 × po_I} (hF : po_F X G cX8_sign_ RX8 4 st) (hL : po_L X (some .int) 1 0 0 "sign") (HL : po_Lay K R st) (I : po_I) (l0 : Nat) (l1 : Int32) (l2 : Int32) (kl0 : K l0 = (19, 19)) (hm : m_X8_sign__e I l0 l1 l2 = some ρ) : po_V X G 4 (po_Q X G (.inl (some (.int ρ.1))) K R (ρ.2) none 0 0) 0 0 0 [(0, .ref l0), (1, .int l1), (2, .int l2)] [] K R I none := by
  unfold m_X8_sign__e at hm
  refine po_aload_n hF dX8_sign__0 rfl rfl ?_
  obtain ⟨x2, hx2, hm⟩ := po_bind hm
  refine po_callV (As := []) hF dX8_sign__1 wq_1300 mv_X8_sign ws_X8_sign (show po_cl[8]? = some _ from rfl) rfl kl0 (c_X8_sign HL kl0 hx2) rfl (po_rtL hL rfl) (Nat.le_of_ble_eq_true rfl) rfl ?_
  refine po_iload_n hF dX8_sign__4 rfl rfl ?_
  refine po_isub hF dX8_sign__5 ?_
  refine po_top hm (fun v3 hm => ?_)
  refine po_istore_n (L' := [(3, .int v3), (0, .ref l0), (1, .int l1), (2, .int l2)]) hF dX8_sign__6 rfl (by decide) rfl ?_
  refine po_aload_n hF dX8_sign__7 rfl rfl ?_
  refine po_getf (v := .int (I l0 15)) hF dX8_sign__8 fl_X8_29 kl0 rfl ?_
  refine po_iconst (v := (-1)) hF dX8_sign__11 (by decide) ?_
  refine po_icmp_ne (tgt := 39) hF dX8_sign__12 (by decide) hm (fun hm => ?_) (fun hm => ?_)
  · refine po_sub (L' := [(0, .ref l0)]) rfl ?_
    exact w_X8_sign__39 hF hL HL I l0 kl0 hm
  · refine po_aload_n hF dX8_sign__15 rfl rfl ?_
    obtain ⟨x4, hx4, hm⟩ := po_bind hm
    refine po_callV (As := []) hF dX8_sign__16 wq_1300 mv_X8_sign ws_X8_sign (show po_cl[8]? = some _ from rfl) rfl kl0 (c_X8_sign HL kl0 hx4) rfl (po_rtL hL rfl) (Nat.le_of_ble_eq_true rfl) rfl ?_
    refine po_iload_n hF dX8_sign__19 rfl rfl ?_
    refine po_iload_n hF dX8_sign__20 rfl rfl ?_
    obtain ⟨x5, hx5, hm⟩ := po_bind hm
    refine po_callS (As := [.int x4, .int l1, .int l2]) hF dX8_sign__21 wq_1282 mv_X8_isIn (c_X8_isIn HL hx5) rfl (po_rtL hL rfl) (Nat.le_of_ble_eq_true rfl) rfl ?_
    refine po_if_eq (tgt := 39) hF dX8_sign__24 (by decide) hm (fun hm => ?_) (fun hm => ?_)
    · refine po_sub (L' := [(0, .ref l0)]) rfl ?_
      exact w_X8_sign__39 hF hL HL I l0 kl0 hm
    · refine po_aload_n hF dX8_sign__27 rfl rfl ?_
      refine po_dup hF dX8_sign__28 rfl ?_
      refine po_getf (v := .int (I l0 14)) hF dX8_sign__29 fl_X8_166 kl0 rfl ?_
      refine po_iconst (v := 1) hF dX8_sign__32 (by decide) ?_
      refine po_iadd hF dX8_sign__33 ?_
      refine po_puti hF dX8_sign__34 fl_X8_166 kl0 (by intro r h; cases h; rfl) rfl rfl (fun _ => rfl) rfl ?_
      refine po_hname hm (fun I6 hm => ?_)
      refine po_iload_n hF dX8_sign__37 rfl rfl ?_
      cases hm
      exact po_iret hF hL dX8_sign__38 (by decide) (by decide) rfl rfl rfl (Or.inl rfl)
theorem c_X8_sign_ {K : po_K} {R : po_R} {I : po_I} {st : Nat → Nat} {ρ : Int32 × po_I} (HL : po_Lay K R st) {l0 : Nat} {l1 : Int32} {l2 : Int32} (kl0 : K l0 = (19, 19)) (hm : m_X8_sign_ I l0 l1 l2 = some ρ) : po_C st yX8_sign_ cX8_sign_ 4 (some .int) 1 0 0 [.ref l0, .int l1, .int l2] K R I none (.inl (some (.int ρ.1))) K R (ρ.2) none := by
  refine po_ofC (by decide +kernel) (Nat.le_of_ble_eq_true rfl) (fun X G hF hL => ?_)
  exact w_X8_sign__e hF hL HL I l0 l1 l2 kl0 hm
set_option maxRecDepth 20000 in
set_option maxHeartbeats 2000000 in
theorem w_X8_digit_e {X : po_X} {G : po_G} {st : Nat → Nat} {K : po_K} {R : po_R} {ρ : Int32 × po_I} (hF : po_F X G cX8_digit RX8 3 st) (hL : po_L X (some .int) 2 0 0 "digit") (HL : po_Lay K R st) (I : po_I) (l0 : Nat) (l1 : Int32) (l2 : Int32) (kl0 : K l0 = (19, 19)) (hm : m_X8_digit_e I l0 l1 l2 = some ρ) : po_V X G 3 (po_Q X G (.inl (some (.int ρ.1))) K R (ρ.2) none 0 0) 0 0 0 [(0, .ref l0), (1, .int l1), (2, .int l2)] [] K R I none := by
  unfold m_X8_digit_e at hm
  refine po_iload_n hF dX8_digit_0 rfl rfl ?_
  refine po_aload_n hF dX8_digit_1 rfl rfl ?_
  refine po_bipush (v := 48) hF dX8_digit_2 (by decide) ?_
  refine po_iload_n hF dX8_digit_4 rfl rfl ?_
  refine po_iadd hF dX8_digit_5 ?_
  refine po_i2c hF dX8_digit_6 ?_
  refine po_bipush (v := 48) hF dX8_digit_7 (by decide) ?_
  refine po_iload_n hF dX8_digit_9 rfl rfl ?_
  refine po_iadd hF dX8_digit_10 ?_
  refine po_i2c hF dX8_digit_11 ?_
  obtain ⟨x1, hx1, hm⟩ := po_bind hm
  refine po_callV (As := [.int ((Int32.toUInt32 (48 + l1) % 65536).toInt32), .int ((Int32.toUInt32 (48 + l2) % 65536).toInt32)]) hF dX8_digit_12 wq_1316 mv_X8_sign_ ws_X8_sign_ (show po_cl[8]? = some _ from rfl) rfl kl0 (c_X8_sign_ HL kl0 hx1) rfl (po_rtL hL rfl) (Nat.le_of_ble_eq_true rfl) rfl ?_
  refine po_iadd hF dX8_digit_15 ?_
  cases hm
  exact po_iret hF hL dX8_digit_16 (by decide) (by decide) rfl rfl rfl (Or.inl rfl)
theorem c_X8_digit {K : po_K} {R : po_R} {I : po_I} {st : Nat → Nat} {ρ : Int32 × po_I} (HL : po_Lay K R st) {l0 : Nat} {l1 : Int32} {l2 : Int32} (kl0 : K l0 = (19, 19)) (hm : m_X8_digit I l0 l1 l2 = some ρ) : po_C st yX8_digit cX8_digit 3 (some .int) 2 0 0 [.ref l0, .int l1, .int l2] K R I none (.inl (some (.int ρ.1))) K R (ρ.2) none := by
  refine po_ofC (by decide +kernel) (Nat.le_of_ble_eq_true rfl) (fun X G hF hL => ?_)
  exact w_X8_digit_e hF hL HL I l0 l1 l2 kl0 hm
set_option maxRecDepth 20000 in
set_option maxHeartbeats 2000000 in
theorem w_X8_front_73 {X : po_X} {G : po_G} {st : Nat → Nat} {K : po_K} {R : po_R} {ρ : Int32 × po_I} (hF : po_F X G cX8_front RX8 3 st) (hL : po_L X (some .int) 1 0 0 "front") (HL : po_Lay K R st) (I : po_I) (l2 : Int32) (hm : m_X8_front_73 I l2 = some ρ) : po_V X G 3 (po_Q X G (.inl (some (.int ρ.1))) K R (ρ.2) none 0 0) 0 0 73 [(2, .int l2)] [] K R I none := by
  unfold m_X8_front_73 at hm
  refine po_iload_n hF dX8_front_73 rfl rfl ?_
  cases hm
  exact po_iret hF hL dX8_front_74 (by decide) (by decide) rfl rfl rfl (Or.inl rfl)
set_option maxRecDepth 20000 in
set_option maxHeartbeats 2000000 in
theorem w_X8_front_46 {X : po_X} {G : po_G} {st : Nat → Nat} {K : po_K} {R : po_R} {ρ : Int32 × po_I} (hF : po_F X G cX8_front RX8 3 st) (hL : po_L X (some .int) 1 0 0 "front") (HL : po_Lay K R st) (I : po_I) (l0 : Nat) (s0 : Int32) (kl0 : K l0 = (19, 19)) (hm : m_X8_front_46 I l0 s0 = some ρ) : po_V X G 3 (po_Q X G (.inl (some (.int ρ.1))) K R (ρ.2) none 0 0) 0 0 46 [(0, .ref l0)] [.int s0] K R I none := by
  unfold m_X8_front_46 at hm
  refine po_istore_n (L' := [(2, .int s0), (0, .ref l0)]) hF dX8_front_46 rfl (by decide) rfl ?_
  refine po_iload_n hF dX8_front_47 rfl rfl ?_
  refine po_iconst (v := (-1)) hF dX8_front_48 (by decide) ?_
  refine po_icmp_ne (tgt := 63) hF dX8_front_49 (by decide) hm (fun hm => ?_) (fun hm => ?_)
  · refine po_aload_n hF dX8_front_63 rfl rfl ?_
    refine po_dup hF dX8_front_64 rfl ?_
    refine po_getf (v := .int (I l0 14)) hF dX8_front_65 fl_X8_166 kl0 rfl ?_
    refine po_iconst (v := 1) hF dX8_front_68 (by decide) ?_
    refine po_iadd hF dX8_front_69 ?_
    refine po_puti hF dX8_front_70 fl_X8_166 kl0 (by intro r h; cases h; rfl) rfl rfl (fun _ => rfl) rfl ?_
    refine po_hname hm (fun I1 hm => ?_)
    refine po_sub (L' := [(2, .int s0)]) rfl ?_
    exact w_X8_front_73 hF hL HL I1 s0 hm
  · refine po_aload_n hF dX8_front_52 rfl rfl ?_
    refine po_aload_n hF dX8_front_53 rfl rfl ?_
    refine po_getf (v := .int (I l0 14)) hF dX8_front_54 fl_X8_166 kl0 rfl ?_
    obtain ⟨x2, hx2, hm⟩ := po_bind hm
    refine po_callV (As := [.int (I l0 14)]) hF dX8_front_57 wq_1304 mv_X8_faultAt ws_X8_faultAt (show po_cl[8]? = some _ from rfl) rfl kl0 (c_X8_faultAt HL kl0 hx2) rfl (po_rtL hL rfl) (Nat.le_of_ble_eq_true rfl) rfl ?_
    refine po_goto (tgt := 73) hF dX8_front_60 (by decide) ?_
    refine po_sub (L' := [(2, .int s0)]) rfl ?_
    exact w_X8_front_73 hF hL HL x2 s0 hm
set_option maxRecDepth 20000 in
set_option maxHeartbeats 2000000 in
theorem w_X8_front_e {X : po_X} {G : po_G} {st : Nat → Nat} {K : po_K} {R : po_R} {ρ : Int32 × po_I} (hF : po_F X G cX8_front RX8 3 st) (hL : po_L X (some .int) 1 0 0 "front") (HL : po_Lay K R st) (I : po_I) (l0 : Nat) (kl0 : K l0 = (19, 19)) (hm : m_X8_front_e I l0 = some ρ) : po_V X G 3 (po_Q X G (.inl (some (.int ρ.1))) K R (ρ.2) none 0 0) 0 0 0 [(0, .ref l0)] [] K R I none := by
  unfold m_X8_front_e at hm
  refine po_aload_n hF dX8_front_0 rfl rfl ?_
  obtain ⟨x3, hx3, hm⟩ := po_bind hm
  refine po_callV (As := []) hF dX8_front_1 wq_1300 mv_X8_sign ws_X8_sign (show po_cl[8]? = some _ from rfl) rfl kl0 (c_X8_sign HL kl0 hx3) rfl (po_rtL hL rfl) (Nat.le_of_ble_eq_true rfl) rfl ?_
  refine po_istore_n (L' := [(1, .int x3), (0, .ref l0)]) hF dX8_front_4 rfl (by decide) rfl ?_
  refine po_iload_n hF dX8_front_5 rfl rfl ?_
  refine po_bipush (v := 78) hF dX8_front_6 (by decide) ?_
  refine po_icmp_ne (tgt := 15) hF dX8_front_8 (by decide) hm (fun hm => ?_) (fun hm => ?_)
  · refine po_iload_n hF dX8_front_15 rfl rfl ?_
    refine po_bipush (v := 69) hF dX8_front_16 (by decide) ?_
    refine po_icmp_ne (tgt := 25) hF dX8_front_18 (by decide) hm (fun hm => ?_) (fun hm => ?_)
    · refine po_iload_n hF dX8_front_25 rfl rfl ?_
      refine po_bipush (v := 83) hF dX8_front_26 (by decide) ?_
      refine po_icmp_ne (tgt := 35) hF dX8_front_28 (by decide) hm (fun hm => ?_) (fun hm => ?_)
      · refine po_iload_n hF dX8_front_35 rfl rfl ?_
        refine po_bipush (v := 87) hF dX8_front_36 (by decide) ?_
        refine po_icmp_ne (tgt := 45) hF dX8_front_38 (by decide) hm (fun hm => ?_) (fun hm => ?_)
        · refine po_iconst (v := (-1)) hF dX8_front_45 (by decide) ?_
          refine po_sub (L' := [(0, .ref l0)]) rfl ?_
          exact w_X8_front_46 hF hL HL I l0 (-1) kl0 hm
        · refine po_iconst (v := 3) hF dX8_front_41 (by decide) ?_
          refine po_goto (tgt := 46) hF dX8_front_42 (by decide) ?_
          refine po_sub (L' := [(0, .ref l0)]) rfl ?_
          exact w_X8_front_46 hF hL HL I l0 3 kl0 hm
      · refine po_iconst (v := 2) hF dX8_front_31 (by decide) ?_
        refine po_goto (tgt := 46) hF dX8_front_32 (by decide) ?_
        refine po_sub (L' := [(0, .ref l0)]) rfl ?_
        exact w_X8_front_46 hF hL HL I l0 2 kl0 hm
    · refine po_iconst (v := 1) hF dX8_front_21 (by decide) ?_
      refine po_goto (tgt := 46) hF dX8_front_22 (by decide) ?_
      refine po_sub (L' := [(0, .ref l0)]) rfl ?_
      exact w_X8_front_46 hF hL HL I l0 1 kl0 hm
  · refine po_iconst (v := 0) hF dX8_front_11 (by decide) ?_
    refine po_goto (tgt := 46) hF dX8_front_12 (by decide) ?_
    refine po_sub (L' := [(0, .ref l0)]) rfl ?_
    exact w_X8_front_46 hF hL HL I l0 0 kl0 hm
theorem c_X8_front {K : po_K} {R : po_R} {I : po_I} {st : Nat → Nat} {ρ : Int32 × po_I} (HL : po_Lay K R st) {l0 : Nat} (kl0 : K l0 = (19, 19)) (hm : m_X8_front I l0 = some ρ) : po_C st yX8_front cX8_front 3 (some .int) 1 0 0 [.ref l0] K R I none (.inl (some (.int ρ.1))) K R (ρ.2) none := by
  refine po_ofC (by decide +kernel) (Nat.le_of_ble_eq_true rfl) (fun X G hF hL => ?_)
  exact w_X8_front_e hF hL HL I l0 kl0 hm
set_option maxRecDepth 20000 in
set_option maxHeartbeats 2000000 in
theorem w_X8_isColumn_e {X : po_X} {G : po_G} {st : Nat → Nat} {K : po_K} {I : po_I} {R : po_R} {ρ : Int32} (hF : po_F X G cX8_isColumn RX8 1 st) (hL : po_L X (some .boolean) 1 0 0 "isColumn") (HL : po_Lay K R st) (l0 : Int32) (hm : m_X8_isColumn_e l0 = some ρ) : po_V X G 1 (po_Q X G (.inl (some (.int ρ))) K R I none 0 0) 0 0 0 [(0, .int l0)] [] K R I none := by
  unfold m_X8_isColumn_e at hm
  refine po_iload_n hF dX8_isColumn_0 rfl rfl ?_
  refine po_bipush (v := 97) hF dX8_isColumn_1 (by decide) ?_
  refine po_bipush (v := 116) hF dX8_isColumn_3 (by decide) ?_
  obtain ⟨x1, hx1, hm⟩ := po_bind hm
  refine po_callS (As := [.int l0, .int 97, .int 116]) hF dX8_isColumn_5 wq_1282 mv_X8_isIn (c_X8_isIn HL hx1) rfl (po_rtL hL rfl) (Nat.le_of_ble_eq_true rfl) rfl ?_
  obtain ⟨hz, hm⟩ := po_zif hm
  cases hm
  exact po_zret hF hL dX8_isColumn_8 (po_nz hz) (by decide) (by decide) rfl rfl rfl (Or.inl rfl)
theorem c_X8_isColumn {K : po_K} {R : po_R} {I : po_I} {st : Nat → Nat} {ρ : Int32} (HL : po_Lay K R st) {l0 : Int32} (hm : m_X8_isColumn l0 = some ρ) : po_C st yX8_isColumn cX8_isColumn 1 (some .boolean) 1 0 0 [.int l0] K R I none (.inl (some (.int ρ))) K R I none := by
  refine po_ofC (by decide +kernel) (Nat.le_of_ble_eq_true rfl) (fun X G hF hL => ?_)
  exact w_X8_isColumn_e hF hL HL l0 hm
set_option maxRecDepth 20000 in
set_option maxHeartbeats 2000000 in
theorem w_X8_readArea_184 {X : po_X} {G : po_G} {st : Nat → Nat} {K : po_K} {R : po_R} {ρ : po_I} (hF : po_F X G cX8_readArea RX8 3 st) (hL : po_L X none 3 0 0 "readArea") (HL : po_Lay K R st) (I : po_I) (hm : m_X8_readArea_184 I = some ρ) : po_V X G 3 (po_Q X G (.inl (none)) K R (ρ) none 0 0) 0 0 184 [] [] K R I none := by
  unfold m_X8_readArea_184 at hm
  cases hm
  exact po_vret hF hL dX8_readArea_184 (by decide) (by decide) rfl rfl rfl (Or.inl rfl)
set_option maxRecDepth 20000 in
set_option maxHeartbeats 2000000 in
theorem w_X8_readArea_171 {X : po_X} {G : po_G} {st : Nat → Nat} {K : po_K} {R : po_R} {ρ : po_I} {r5 : po_I → Nat → Option (po_I)} (hF : po_F X G cX8_readArea RX8 3 st) (hL : po_L X none 3 0 0 "readArea") (HL : po_Lay K R st) (h5 : ∀ (I : po_I) (l0 : Nat), r5 I l0 = some ρ → K l0 = (19, 19) → po_V X G 3 (po_Q X G (.inl (none)) K R (ρ) none 0 0) 0 0 5 [(0, .ref l0)] [] K R I none) (I : po_I) (l0 : Nat) (kl0 : K l0 = (19, 19)) (hm : m_X8_readArea_171 r5 I l0 = some ρ) : po_V X G 3 (po_Q X G (.inl (none)) K R (ρ) none 0 0) 0 0 171 [(0, .ref l0)] [] K R I none := by
  unfold m_X8_readArea_171 at hm
  refine po_aload_n hF dX8_readArea_171 rfl rfl ?_
  refine po_dup hF dX8_readArea_172 rfl ?_
  refine po_getf (v := .int (I l0 17)) hF dX8_readArea_173 fl_X8_186 kl0 rfl ?_
  refine po_iconst (v := 1) hF dX8_readArea_176 (by decide) ?_
  refine po_iadd hF dX8_readArea_177 ?_
  refine po_puti hF dX8_readArea_178 fl_X8_186 kl0 (by intro r h; cases h; rfl) rfl rfl (fun _ => rfl) rfl ?_
  refine po_hname hm (fun I1 hm => ?_)
  refine po_goto (tgt := 5) hF dX8_readArea_181 (by decide) ?_
  exact h5 I1 l0 hm kl0
set_option maxRecDepth 20000 in
set_option maxHeartbeats 2000000 in
theorem w_X8_readArea_166 {X : po_X} {G : po_G} {st : Nat → Nat} {K : po_K} {R : po_R} {ρ : po_I} {r5 : po_I → Nat → Option (po_I)} (hF : po_F X G cX8_readArea RX8 3 st) (hL : po_L X none 3 0 0 "readArea") (HL : po_Lay K R st) (h5 : ∀ (I : po_I) (l0 : Nat), r5 I l0 = some ρ → K l0 = (19, 19) → po_V X G 3 (po_Q X G (.inl (none)) K R (ρ) none 0 0) 0 0 5 [(0, .ref l0)] [] K R I none) (I : po_I) (l0 : Nat) (l1 : Int32) (kl0 : K l0 = (19, 19)) (hm : m_X8_readArea_166 r5 I l0 l1 = some ρ) : po_V X G 3 (po_Q X G (.inl (none)) K R (ρ) none 0 0) 0 0 166 [(0, .ref l0), (1, .int l1)] [] K R I none := by
  unfold m_X8_readArea_166 at hm
  refine po_aload_n hF dX8_readArea_166 rfl rfl ?_
  refine po_iload_n hF dX8_readArea_167 rfl rfl ?_
  obtain ⟨x2, hx2, hm⟩ := po_bind hm
  refine po_callV (As := [.int l1]) hF dX8_readArea_168 wq_1304 mv_X8_faultAt ws_X8_faultAt (show po_cl[8]? = some _ from rfl) rfl kl0 (c_X8_faultAt HL kl0 hx2) rfl (po_rtL hL rfl) (Nat.le_of_ble_eq_true rfl) rfl ?_
  refine po_sub (L' := [(0, .ref l0)]) rfl ?_
  exact w_X8_readArea_171 hF hL HL h5 x2 l0 kl0 hm
set_option maxRecDepth 20000 in
set_option maxHeartbeats 2000000 in
theorem w_X8_readArea_30 {X : po_X} {G : po_G} {st : Nat → Nat} {K : po_K} {R : po_R} {ρ : po_I} {r5 : po_I → Nat → Option (po_I)} (hF : po_F X G cX8_readArea RX8 3 st) (hL : po_L X none 3 0 0 "readArea") (HL : po_Lay K R st) (h5 : ∀ (I : po_I) (l0 : Nat), r5 I l0 = some ρ → K l0 = (19, 19) → po_V X G 3 (po_Q X G (.inl (none)) K R (ρ) none 0 0) 0 0 5 [(0, .ref l0)] [] K R I none) (I : po_I) (l0 : Nat) (kl0 : K l0 = (19, 19)) (hm : m_X8_readArea_30 r5 I l0 = some ρ) : po_V X G 3 (po_Q X G (.inl (none)) K R (ρ) none 0 0) 0 0 30 [(0, .ref l0)] [] K R I none := by
  unfold m_X8_readArea_30 at hm
  refine po_aload_n hF dX8_readArea_30 rfl rfl ?_
  refine po_getf (v := .int (I l0 14)) hF dX8_readArea_31 fl_X8_166 kl0 rfl ?_
  refine po_top hm (fun v3 hm => ?_)
  refine po_istore_n (L' := [(1, .int v3), (0, .ref l0)]) hF dX8_readArea_34 rfl (by decide) rfl ?_
  refine po_aload_n hF dX8_readArea_35 rfl rfl ?_
  refine po_getf (v := .int (I l0 17)) hF dX8_readArea_36 fl_X8_186 kl0 rfl ?_
  refine po_iconst (v := 3) hF dX8_readArea_39 (by decide) ?_
  refine po_icmp_ne (tgt := 49) hF dX8_readArea_40 (by decide) hm (fun hm => ?_) (fun hm => ?_)
  · refine po_iconst (v := 4) hF dX8_readArea_49 (by decide) ?_
    refine po_aload_n hF dX8_readArea_50 rfl rfl ?_
    refine po_getf (v := .int (I l0 17)) hF dX8_readArea_51 fl_X8_186 kl0 rfl ?_
    refine po_imul hF dX8_readArea_54 ?_
    refine po_top hm (fun v4 hm => ?_)
    refine po_istore_n (L' := [(2, .int v4), (1, .int v3), (0, .ref l0)]) hF dX8_readArea_55 rfl (by decide) rfl ?_
    refine po_aload_n hF dX8_readArea_56 rfl rfl ?_
    refine po_getf (v := .ref (l0 + 6)) hF dX8_readArea_57 fl_X8_32 kl0 (ly_8_16 HL kl0).1 ?_
    refine po_iload_n hF dX8_readArea_60 rfl rfl ?_
    refine po_aload_n hF dX8_readArea_61 rfl rfl ?_
    refine po_bipush (v := 97) hF dX8_readArea_62 (by decide) ?_
    refine po_bipush (v := 116) hF dX8_readArea_64 (by decide) ?_
    obtain ⟨x5, hx5, hm⟩ := po_bind hm
    refine po_callV (As := [.int 97, .int 116]) hF dX8_readArea_66 wq_1316 mv_X8_sign_ ws_X8_sign_ (show po_cl[8]? = some _ from rfl) rfl kl0 (c_X8_sign_ HL kl0 hx5) rfl (po_rtL hL rfl) (Nat.le_of_ble_eq_true rfl) rfl ?_
    refine po_iast hF dX8_readArea_69 ((ly_8_16 HL kl0).2) hm rfl (fun hm => ?_)
    refine po_hname hm (fun I6 hm => ?_)
    refine po_aload_n hF dX8_readArea_70 rfl rfl ?_
    refine po_getf (v := .ref (l0 + 6)) hF dX8_readArea_71 fl_X8_32 kl0 (ly_8_16 HL kl0).1 ?_
    refine po_iload_n hF dX8_readArea_74 rfl rfl ?_
    refine po_iconst (v := 1) hF dX8_readArea_75 (by decide) ?_
    refine po_iadd hF dX8_readArea_76 ?_
    refine po_aload_n hF dX8_readArea_77 rfl rfl ?_
    refine po_bipush (v := 97) hF dX8_readArea_78 (by decide) ?_
    refine po_bipush (v := 110) hF dX8_readArea_80 (by decide) ?_
    obtain ⟨x7, hx7, hm⟩ := po_bind hm
    refine po_callV (As := [.int 97, .int 110]) hF dX8_readArea_82 wq_1316 mv_X8_sign_ ws_X8_sign_ (show po_cl[8]? = some _ from rfl) rfl kl0 (c_X8_sign_ HL kl0 hx7) rfl (po_rtL hL rfl) (Nat.le_of_ble_eq_true rfl) rfl ?_
    refine po_iast hF dX8_readArea_85 ((ly_8_16 HL kl0).2) hm rfl (fun hm => ?_)
    refine po_hname hm (fun I8 hm => ?_)
    refine po_aload_n hF dX8_readArea_86 rfl rfl ?_
    refine po_getf (v := .ref (l0 + 6)) hF dX8_readArea_87 fl_X8_32 kl0 (ly_8_16 HL kl0).1 ?_
    refine po_iload_n hF dX8_readArea_90 rfl rfl ?_
    refine po_iconst (v := 2) hF dX8_readArea_91 (by decide) ?_
    refine po_iadd hF dX8_readArea_92 ?_
    refine po_aload_n hF dX8_readArea_93 rfl rfl ?_
    refine po_iconst (v := 1) hF dX8_readArea_94 (by decide) ?_
    refine po_bipush (v := 9) hF dX8_readArea_95 (by decide) ?_
    obtain ⟨x9, hx9, hm⟩ := po_bind hm
    refine po_callV (As := [.int 1, .int 9]) hF dX8_readArea_97 wq_1312 mv_X8_digit ws_X8_digit (show po_cl[8]? = some _ from rfl) rfl kl0 (c_X8_digit HL kl0 hx9) rfl (po_rtL hL rfl) (Nat.le_of_ble_eq_true rfl) rfl ?_
    refine po_iast hF dX8_readArea_100 ((ly_8_16 HL kl0).2) hm rfl (fun hm => ?_)
    refine po_hname hm (fun I10 hm => ?_)
    refine po_aload_n hF dX8_readArea_101 rfl rfl ?_
    refine po_getf (v := .ref (l0 + 6)) hF dX8_readArea_102 fl_X8_32 kl0 (ly_8_16 HL kl0).1 ?_
    refine po_iload_n hF dX8_readArea_105 rfl rfl ?_
    refine po_iconst (v := 3) hF dX8_readArea_106 (by decide) ?_
    refine po_iadd hF dX8_readArea_107 ?_
    refine po_aload_n hF dX8_readArea_108 rfl rfl ?_
    refine po_iconst (v := 1) hF dX8_readArea_109 (by decide) ?_
    refine po_bipush (v := 9) hF dX8_readArea_110 (by decide) ?_
    obtain ⟨x11, hx11, hm⟩ := po_bind hm
    refine po_callV (As := [.int 1, .int 9]) hF dX8_readArea_112 wq_1312 mv_X8_digit ws_X8_digit (show po_cl[8]? = some _ from rfl) rfl kl0 (c_X8_digit HL kl0 hx11) rfl (po_rtL hL rfl) (Nat.le_of_ble_eq_true rfl) rfl ?_
    refine po_iast hF dX8_readArea_115 ((ly_8_16 HL kl0).2) hm rfl (fun hm => ?_)
    refine po_hname hm (fun I12 hm => ?_)
    refine po_aload_n hF dX8_readArea_116 rfl rfl ?_
    refine po_getf (v := .int (I12 l0 15)) hF dX8_readArea_117 fl_X8_29 kl0 rfl ?_
    refine po_iconst (v := (-1)) hF dX8_readArea_120 (by decide) ?_
    refine po_icmp_ne (tgt := 171) hF dX8_readArea_121 (by decide) hm (fun hm => ?_) (fun hm => ?_)
    · refine po_sub (L' := [(0, .ref l0)]) rfl ?_
      exact w_X8_readArea_171 hF hL HL h5 I12 l0 kl0 hm
    · refine po_aload_n hF dX8_readArea_124 rfl rfl ?_
      refine po_getf (v := .ref (l0 + 6)) hF dX8_readArea_125 fl_X8_32 kl0 (ly_8_16 HL kl0).1 ?_
      refine po_iload_n hF dX8_readArea_128 rfl rfl ?_
      refine po_iald hF dX8_readArea_129 ((ly_8_16 HL kl0).2) (Or.inl rfl) hm (fun hm => ?_)
      refine po_aload_n hF dX8_readArea_130 rfl rfl ?_
      refine po_getf (v := .ref (l0 + 6)) hF dX8_readArea_131 fl_X8_32 kl0 (ly_8_16 HL kl0).1 ?_
      refine po_iload_n hF dX8_readArea_134 rfl rfl ?_
      refine po_iconst (v := 2) hF dX8_readArea_135 (by decide) ?_
      refine po_iadd hF dX8_readArea_136 ?_
      refine po_iald hF dX8_readArea_137 ((ly_8_16 HL kl0).2) (Or.inl rfl) hm (fun hm => ?_)
      refine po_iadd hF dX8_readArea_138 ?_
      refine po_bipush (v := 20) hF dX8_readArea_139 (by decide) ?_
      refine po_icmp_gt (tgt := 166) hF dX8_readArea_141 (by decide) hm (fun hm => ?_) (fun hm => ?_)
      · refine po_sub (L' := [(0, .ref l0), (1, .int v3)]) rfl ?_
        exact w_X8_readArea_166 hF hL HL h5 I12 l0 v3 kl0 hm
      · refine po_aload_n hF dX8_readArea_144 rfl rfl ?_
        refine po_getf (v := .ref (l0 + 6)) hF dX8_readArea_145 fl_X8_32 kl0 (ly_8_16 HL kl0).1 ?_
        refine po_iload_n hF dX8_readArea_148 rfl rfl ?_
        refine po_iconst (v := 1) hF dX8_readArea_149 (by decide) ?_
        refine po_iadd hF dX8_readArea_150 ?_
        refine po_iald hF dX8_readArea_151 ((ly_8_16 HL kl0).2) (Or.inl rfl) hm (fun hm => ?_)
        refine po_aload_n hF dX8_readArea_152 rfl rfl ?_
        refine po_getf (v := .ref (l0 + 6)) hF dX8_readArea_153 fl_X8_32 kl0 (ly_8_16 HL kl0).1 ?_
        refine po_iload_n hF dX8_readArea_156 rfl rfl ?_
        refine po_iconst (v := 3) hF dX8_readArea_157 (by decide) ?_
        refine po_iadd hF dX8_readArea_158 ?_
        refine po_iald hF dX8_readArea_159 ((ly_8_16 HL kl0).2) (Or.inl rfl) hm (fun hm => ?_)
        refine po_iadd hF dX8_readArea_160 ?_
        refine po_bipush (v := 14) hF dX8_readArea_161 (by decide) ?_
        refine po_icmp_le (tgt := 171) hF dX8_readArea_163 (by decide) hm (fun hm => ?_) (fun hm => ?_)
        · refine po_sub (L' := [(0, .ref l0)]) rfl ?_
          exact w_X8_readArea_171 hF hL HL h5 I12 l0 kl0 hm
        · refine po_sub (L' := [(0, .ref l0), (1, .int v3)]) rfl ?_
          exact w_X8_readArea_166 hF hL HL h5 I12 l0 v3 kl0 hm
  · refine po_aload_n hF dX8_readArea_43 rfl rfl ?_
    refine po_iload_n hF dX8_readArea_44 rfl rfl ?_
    obtain ⟨x13, hx13, hm⟩ := po_bind hm
    refine po_callV (As := [.int v3]) hF dX8_readArea_45 wq_1304 mv_X8_faultAt ws_X8_faultAt (show po_cl[8]? = some _ from rfl) rfl kl0 (c_X8_faultAt HL kl0 hx13) rfl (po_rtL hL rfl) (Nat.le_of_ble_eq_true rfl) rfl ?_
    cases hm
    exact po_vret hF hL dX8_readArea_48 (by decide) (by decide) rfl rfl rfl (Or.inl rfl)
set_option maxRecDepth 20000 in
set_option maxHeartbeats 2000000 in
theorem w_X8_readArea_5 {X : po_X} {G : po_G} {st : Nat → Nat} {K : po_K} {R : po_R} {ρ : po_I} {r5 : po_I → Nat → Option (po_I)} (hF : po_F X G cX8_readArea RX8 3 st) (hL : po_L X none 3 0 0 "readArea") (HL : po_Lay K R st) (h5 : ∀ (I : po_I) (l0 : Nat), r5 I l0 = some ρ → K l0 = (19, 19) → po_V X G 3 (po_Q X G (.inl (none)) K R (ρ) none 0 0) 0 0 5 [(0, .ref l0)] [] K R I none) (I : po_I) (l0 : Nat) (kl0 : K l0 = (19, 19)) (hm : m_X8_readArea_5 r5 I l0 = some ρ) : po_V X G 3 (po_Q X G (.inl (none)) K R (ρ) none 0 0) 0 0 5 [(0, .ref l0)] [] K R I none := by
  unfold m_X8_readArea_5 at hm
  refine po_aload_n hF dX8_readArea_5 rfl rfl ?_
  refine po_getf (v := .int (I l0 15)) hF dX8_readArea_6 fl_X8_29 kl0 rfl ?_
  refine po_iconst (v := (-1)) hF dX8_readArea_9 (by decide) ?_
  refine po_icmp_ne (tgt := 184) hF dX8_readArea_10 (by decide) hm (fun hm => ?_) (fun hm => ?_)
  · refine po_sub (L' := []) rfl ?_
    exact w_X8_readArea_184 hF hL HL I hm
  · refine po_aload_n hF dX8_readArea_13 rfl rfl ?_
    refine po_getf (v := .int (I l0 17)) hF dX8_readArea_14 fl_X8_186 kl0 rfl ?_
    refine po_if_eq (tgt := 30) hF dX8_readArea_17 (by decide) hm (fun hm => ?_) (fun hm => ?_)
    · exact w_X8_readArea_30 hF hL HL h5 I l0 kl0 hm
    · refine po_aload_n hF dX8_readArea_20 rfl rfl ?_
      obtain ⟨x14, hx14, hm⟩ := po_bind hm
      refine po_callV (As := []) hF dX8_readArea_21 wq_1300 mv_X8_sign ws_X8_sign (show po_cl[8]? = some _ from rfl) rfl kl0 (c_X8_sign HL kl0 hx14) rfl (po_rtL hL rfl) (Nat.le_of_ble_eq_true rfl) rfl ?_
      obtain ⟨x15, hx15, hm⟩ := po_bind hm
      refine po_callS (As := [.int x14]) hF dX8_readArea_24 wq_1328 mv_X8_isColumn (c_X8_isColumn HL hx15) rfl (po_rtL hL rfl) (Nat.le_of_ble_eq_true rfl) rfl ?_
      refine po_if_eq (tgt := 184) hF dX8_readArea_27 (by decide) hm (fun hm => ?_) (fun hm => ?_)
      · refine po_sub (L' := []) rfl ?_
        exact w_X8_readArea_184 hF hL HL I hm
      · exact w_X8_readArea_30 hF hL HL h5 I l0 kl0 hm
theorem w_X8_readArea_5L {X : po_X} {G : po_G} {st : Nat → Nat} {K : po_K} {R : po_R} {ρ : po_I} (hF : po_F X G cX8_readArea RX8 3 st) (hL : po_L X none 3 0 0 "readArea") (HL : po_Lay K R st) : ∀ (n : Nat) (I : po_I) (l0 : Nat), m_X8_readArea_5L n I l0 = some ρ → K l0 = (19, 19) → po_V X G 3 (po_Q X G (.inl (none)) K R (ρ) none 0 0) 0 0 5 [(0, .ref l0)] [] K R I none := by
  intro n
  induction n with
  | zero => intro I l0 hm; cases hm
  | succ n ih => intro I l0 hm kl0; exact w_X8_readArea_5 hF hL HL (ih) I l0 kl0 hm
set_option maxRecDepth 20000 in
set_option maxHeartbeats 2000000 in
theorem w_X8_readArea_e {X : po_X} {G : po_G} {st : Nat → Nat} {K : po_K} {R : po_R} {ρ : po_I} (hF : po_F X G cX8_readArea RX8 3 st) (hL : po_L X none 3 0 0 "readArea") (HL : po_Lay K R st) (I : po_I) (l0 : Nat) (kl0 : K l0 = (19, 19)) (hm : m_X8_readArea_e I l0 = some ρ) : po_V X G 3 (po_Q X G (.inl (none)) K R (ρ) none 0 0) 0 0 0 [(0, .ref l0)] [] K R I none := by
  unfold m_X8_readArea_e at hm
  refine po_aload_n hF dX8_readArea_0 rfl rfl ?_
  refine po_iconst (v := 0) hF dX8_readArea_1 (by decide) ?_
  refine po_puti hF dX8_readArea_2 fl_X8_186 kl0 (by intro r h; cases h; rfl) rfl rfl (fun _ => rfl) rfl ?_
  refine po_hname hm (fun I16 hm => ?_)
  exact w_X8_readArea_5L hF hL HL 5000 I16 l0 hm kl0
theorem c_X8_readArea {K : po_K} {R : po_R} {I : po_I} {st : Nat → Nat} {ρ : po_I} (HL : po_Lay K R st) {l0 : Nat} (kl0 : K l0 = (19, 19)) (hm : m_X8_readArea I l0 = some ρ) : po_C st yX8_readArea cX8_readArea 3 none 3 0 0 [.ref l0] K R I none (.inl (none)) K R (ρ) none := by
  refine po_ofC (by decide +kernel) (Nat.le_of_ble_eq_true rfl) (fun X G hF hL => ?_)
  exact w_X8_readArea_e hF hL HL I l0 kl0 hm
set_option maxRecDepth 20000 in
set_option maxHeartbeats 2000000 in
theorem w_X8_must_37 {X : po_X} {G : po_G} {st : Nat → Nat} {K : po_K} {R : po_R} {ρ : po_I} (hF : po_F X G cX8_must RX8 2 st) (hL : po_L X none 1 0 0 "must") (HL : po_Lay K R st) (I : po_I) (hm : m_X8_must_37 I = some ρ) : po_V X G 2 (po_Q X G (.inl (none)) K R (ρ) none 0 0) 0 0 37 [] [] K R I none := by
  unfold m_X8_must_37 at hm
  cases hm
  exact po_vret hF hL dX8_must_37 (by decide) (by decide) rfl rfl rfl (Or.inl rfl)
set_option maxRecDepth 20000 in
set_option maxHeartbeats 2000000 in
theorem w_X8_must_29 {X : po_X} {G : po_G} {st : Nat → Nat} {K : po_K} {R : po_R} {ρ : po_I} (hF : po_F X G cX8_must RX8 2 st) (hL : po_L X none 1 0 0 "must") (HL : po_Lay K R st) (I : po_I) (l0 : Nat) (kl0 : K l0 = (19, 19)) (hm : m_X8_must_29 I l0 = some ρ) : po_V X G 2 (po_Q X G (.inl (none)) K R (ρ) none 0 0) 0 0 29 [(0, .ref l0)] [] K R I none := by
  unfold m_X8_must_29 at hm
  refine po_aload_n hF dX8_must_29 rfl rfl ?_
  refine po_aload_n hF dX8_must_30 rfl rfl ?_
  refine po_getf (v := .int (I l0 14)) hF dX8_must_31 fl_X8_166 kl0 rfl ?_
  obtain ⟨x1, hx1, hm⟩ := po_bind hm
  refine po_callV (As := [.int (I l0 14)]) hF dX8_must_34 wq_1304 mv_X8_faultAt ws_X8_faultAt (show po_cl[8]? = some _ from rfl) rfl kl0 (c_X8_faultAt HL kl0 hx1) rfl (po_rtL hL rfl) (Nat.le_of_ble_eq_true rfl) rfl ?_
  refine po_sub (L' := []) rfl ?_
  exact w_X8_must_37 hF hL HL x1 hm
set_option maxRecDepth 20000 in
set_option maxHeartbeats 2000000 in
theorem w_X8_must_e {X : po_X} {G : po_G} {st : Nat → Nat} {K : po_K} {R : po_R} {ρ : po_I} (hF : po_F X G cX8_must RX8 2 st) (hL : po_L X none 1 0 0 "must") (HL : po_Lay K R st) (I : po_I) (l0 : Nat) (l1 : Int32) (kl0 : K l0 = (19, 19)) (hm : m_X8_must_e I l0 l1 = some ρ) : po_V X G 2 (po_Q X G (.inl (none)) K R (ρ) none 0 0) 0 0 0 [(0, .ref l0), (1, .int l1)] [] K R I none := by
  unfold m_X8_must_e at hm
  refine po_aload_n hF dX8_must_0 rfl rfl ?_
  refine po_getf (v := .int (I l0 15)) hF dX8_must_1 fl_X8_29 kl0 rfl ?_
  refine po_iconst (v := (-1)) hF dX8_must_4 (by decide) ?_
  refine po_icmp_ne (tgt := 29) hF dX8_must_5 (by decide) hm (fun hm => ?_) (fun hm => ?_)
  · refine po_sub (L' := [(0, .ref l0)]) rfl ?_
    exact w_X8_must_29 hF hL HL I l0 kl0 hm
  · refine po_aload_n hF dX8_must_8 rfl rfl ?_
    obtain ⟨x2, hx2, hm⟩ := po_bind hm
    refine po_callV (As := []) hF dX8_must_9 wq_1300 mv_X8_sign ws_X8_sign (show po_cl[8]? = some _ from rfl) rfl kl0 (c_X8_sign HL kl0 hx2) rfl (po_rtL hL rfl) (Nat.le_of_ble_eq_true rfl) rfl ?_
    refine po_iload_n hF dX8_must_12 rfl rfl ?_
    refine po_icmp_ne (tgt := 29) hF dX8_must_13 (by decide) hm (fun hm => ?_) (fun hm => ?_)
    · refine po_sub (L' := [(0, .ref l0)]) rfl ?_
      exact w_X8_must_29 hF hL HL I l0 kl0 hm
    · refine po_aload_n hF dX8_must_16 rfl rfl ?_
      refine po_dup hF dX8_must_17 rfl ?_
      refine po_getf (v := .int (I l0 14)) hF dX8_must_18 fl_X8_166 kl0 rfl ?_
      refine po_iconst (v := 1) hF dX8_must_21 (by decide) ?_
      refine po_iadd hF dX8_must_22 ?_
      refine po_puti hF dX8_must_23 fl_X8_166 kl0 (by intro r h; cases h; rfl) rfl rfl (fun _ => rfl) rfl ?_
      refine po_hname hm (fun I3 hm => ?_)
      refine po_goto (tgt := 37) hF dX8_must_26 (by decide) ?_
      refine po_sub (L' := []) rfl ?_
      exact w_X8_must_37 hF hL HL I3 hm
theorem c_X8_must {K : po_K} {R : po_R} {I : po_I} {st : Nat → Nat} {ρ : po_I} (HL : po_Lay K R st) {l0 : Nat} {l1 : Int32} (kl0 : K l0 = (19, 19)) (hm : m_X8_must I l0 l1 = some ρ) : po_C st yX8_must cX8_must 2 none 1 0 0 [.ref l0, .int l1] K R I none (.inl (none)) K R (ρ) none := by
  refine po_ofC (by decide +kernel) (Nat.le_of_ble_eq_true rfl) (fun X G hF hL => ?_)
  exact w_X8_must_e hF hL HL I l0 l1 kl0 hm
set_option maxRecDepth 20000 in
set_option maxHeartbeats 2000000 in
theorem w_X8_putArea_49 {X : po_X} {G : po_G} {st : Nat → Nat} {K : po_K} {R : po_R} {ρ : po_I} {r14 : po_I → Nat → Int32 → Int32 → Option (po_I)} (hF : po_F X G cX8_putArea RX8 3 st) (hL : po_L X none 0 0 0 "putArea") (HL : po_Lay K R st) (h14 : ∀ (I : po_I) (l0 : Nat) (l1 : Int32) (l2 : Int32), r14 I l0 l1 l2 = some ρ → K l0 = (19, 19) → po_V X G 3 (po_Q X G (.inl (none)) K R (ρ) none 0 0) 0 0 14 [(0, .ref l0), (1, .int l1), (2, .int l2)] [] K R I none) (I : po_I) (l0 : Nat) (l1 : Int32) (l2 : Int32) (s0 : Nat) (s1 : Int32) (s2 : Int32) (kl0 : K l0 = (19, 19)) (ks0 : K s0 = (1, 668)) (hm : m_X8_putArea_49 r14 I l0 l1 l2 s0 s1 s2 = some ρ) : po_V X G 3 (po_Q X G (.inl (none)) K R (ρ) none 0 0) 0 0 49 [(0, .ref l0), (1, .int l1), (2, .int l2)] [.int s2, .int s1, .ref s0] K R I none := by
  unfold m_X8_putArea_49 at hm
  refine po_iast hF dX8_putArea_49 ks0 hm rfl (fun hm => ?_)
  refine po_hname hm (fun I1 hm => ?_)
  refine po_iinc (v := l2 + 1) (L' := [(2, .int (l2 + 1)), (0, .ref l0), (1, .int l1)]) hF dX8_putArea_50 rfl rfl (by decide) rfl ?_
  refine po_goto (tgt := 14) hF dX8_putArea_53 (by decide) ?_
  refine po_sub (L' := [(0, .ref l0), (1, .int l1), (2, .int (l2 + 1))]) rfl ?_
  exact h14 I1 l0 l1 (l2 + 1) hm kl0
set_option maxRecDepth 20000 in
set_option maxHeartbeats 2000000 in
theorem w_X8_putArea_14 {X : po_X} {G : po_G} {st : Nat → Nat} {K : po_K} {R : po_R} {ρ : po_I} {r14 : po_I → Nat → Int32 → Int32 → Option (po_I)} (hF : po_F X G cX8_putArea RX8 3 st) (hL : po_L X none 0 0 0 "putArea") (HL : po_Lay K R st) (h14 : ∀ (I : po_I) (l0 : Nat) (l1 : Int32) (l2 : Int32), r14 I l0 l1 l2 = some ρ → K l0 = (19, 19) → po_V X G 3 (po_Q X G (.inl (none)) K R (ρ) none 0 0) 0 0 14 [(0, .ref l0), (1, .int l1), (2, .int l2)] [] K R I none) (I : po_I) (l0 : Nat) (l1 : Int32) (l2 : Int32) (kl0 : K l0 = (19, 19)) (hm : m_X8_putArea_14 r14 I l0 l1 l2 = some ρ) : po_V X G 3 (po_Q X G (.inl (none)) K R (ρ) none 0 0) 0 0 14 [(0, .ref l0), (1, .int l1), (2, .int l2)] [] K R I none := by
  unfold m_X8_putArea_14 at hm
  refine po_iload_n hF dX8_putArea_14 rfl rfl ?_
  refine po_bipush (v := 12) hF dX8_putArea_15 (by decide) ?_
  refine po_icmp_ge (tgt := 56) hF dX8_putArea_17 (by decide) hm (fun hm => ?_) (fun hm => ?_)
  · cases hm
    exact po_vret hF hL dX8_putArea_56 (by decide) (by decide) rfl rfl rfl (Or.inl rfl)
  · refine po_aload_n hF dX8_putArea_20 rfl rfl ?_
    refine po_getf (v := .ref (l0 + 1)) hF dX8_putArea_21 fl_X8_13 kl0 (ly_8_1 HL kl0).1 ?_
    refine po_iload_n hF dX8_putArea_24 rfl rfl ?_
    refine po_iconst (v := 3) hF dX8_putArea_25 (by decide) ?_
    refine po_iadd hF dX8_putArea_26 ?_
    refine po_iload_n hF dX8_putArea_27 rfl rfl ?_
    refine po_iadd hF dX8_putArea_28 ?_
    refine po_iload_n hF dX8_putArea_29 rfl rfl ?_
    refine po_iconst (v := 4) hF dX8_putArea_30 (by decide) ?_
    refine po_aload_n hF dX8_putArea_31 rfl rfl ?_
    refine po_getf (v := .int (I l0 17)) hF dX8_putArea_32 fl_X8_186 kl0 rfl ?_
    refine po_imul hF dX8_putArea_35 ?_
    refine po_icmp_ge (tgt := 48) hF dX8_putArea_36 (by decide) hm (fun hm => ?_) (fun hm => ?_)
    · refine po_iconst (v := 0) hF dX8_putArea_48 (by decide) ?_
      exact w_X8_putArea_49 hF hL HL h14 I l0 l1 l2 (l0 + 1) ((l1 + 3) + l2) 0 kl0 ((ly_8_1 HL kl0).2) hm
    · refine po_aload_n hF dX8_putArea_39 rfl rfl ?_
      refine po_getf (v := .ref (l0 + 6)) hF dX8_putArea_40 fl_X8_32 kl0 (ly_8_16 HL kl0).1 ?_
      refine po_iload_n hF dX8_putArea_43 rfl rfl ?_
      refine po_iald hF dX8_putArea_44 ((ly_8_16 HL kl0).2) (Or.inl rfl) hm (fun hm => ?_)
      refine po_goto (tgt := 49) hF dX8_putArea_45 (by decide) ?_
      exact w_X8_putArea_49 hF hL HL h14 I l0 l1 l2 (l0 + 1) ((l1 + 3) + l2) (I (l0 + 6) (Int32.toNatClampNeg l2)) kl0 ((ly_8_1 HL kl0).2) hm
theorem w_X8_putArea_14L {X : po_X} {G : po_G} {st : Nat → Nat} {K : po_K} {R : po_R} {ρ : po_I} (hF : po_F X G cX8_putArea RX8 3 st) (hL : po_L X none 0 0 0 "putArea") (HL : po_Lay K R st) : ∀ (n : Nat) (I : po_I) (l0 : Nat) (l1 : Int32) (l2 : Int32), m_X8_putArea_14L n I l0 l1 l2 = some ρ → K l0 = (19, 19) → po_V X G 3 (po_Q X G (.inl (none)) K R (ρ) none 0 0) 0 0 14 [(0, .ref l0), (1, .int l1), (2, .int l2)] [] K R I none := by
  intro n
  induction n with
  | zero => intro I l0 l1 l2 hm; cases hm
  | succ n ih => intro I l0 l1 l2 hm kl0; exact w_X8_putArea_14 hF hL HL (ih) I l0 l1 l2 kl0 hm
set_option maxRecDepth 20000 in
set_option maxHeartbeats 2000000 in
theorem w_X8_putArea_e {X : po_X} {G : po_G} {st : Nat → Nat} {K : po_K} {R : po_R} {ρ : po_I} (hF : po_F X G cX8_putArea RX8 3 st) (hL : po_L X none 0 0 0 "putArea") (HL : po_Lay K R st) (I : po_I) (l0 : Nat) (l1 : Int32) (kl0 : K l0 = (19, 19)) (hm : m_X8_putArea_e I l0 l1 = some ρ) : po_V X G 3 (po_Q X G (.inl (none)) K R (ρ) none 0 0) 0 0 0 [(0, .ref l0), (1, .int l1)] [] K R I none := by
  unfold m_X8_putArea_e at hm
  refine po_aload_n hF dX8_putArea_0 rfl rfl ?_
  refine po_getf (v := .ref (l0 + 1)) hF dX8_putArea_1 fl_X8_13 kl0 (ly_8_1 HL kl0).1 ?_
  refine po_iload_n hF dX8_putArea_4 rfl rfl ?_
  refine po_iconst (v := 2) hF dX8_putArea_5 (by decide) ?_
  refine po_iadd hF dX8_putArea_6 ?_
  refine po_aload_n hF dX8_putArea_7 rfl rfl ?_
  refine po_getf (v := .int (I l0 17)) hF dX8_putArea_8 fl_X8_186 kl0 rfl ?_
  refine po_iast hF dX8_putArea_11 ((ly_8_1 HL kl0).2) hm rfl (fun hm => ?_)
  refine po_hname hm (fun I2 hm => ?_)
  refine po_iconst (v := 0) hF dX8_putArea_12 (by decide) ?_
  refine po_istore_n (L' := [(2, .int 0), (0, .ref l0), (1, .int l1)]) hF dX8_putArea_13 rfl (by decide) rfl ?_
  refine po_sub (L' := [(0, .ref l0), (1, .int l1), (2, .int 0)]) rfl ?_
  exact w_X8_putArea_14L hF hL HL 5000 I2 l0 l1 0 hm kl0
theorem c_X8_putArea {K : po_K} {R : po_R} {I : po_I} {st : Nat → Nat} {ρ : po_I} (HL : po_Lay K R st) {l0 : Nat} {l1 : Int32} (kl0 : K l0 = (19, 19)) (hm : m_X8_putArea I l0 l1 = some ρ) : po_C st yX8_putArea cX8_putArea 3 none 0 0 0 [.ref l0, .int l1] K R I none (.inl (none)) K R (ρ) none := by
  refine po_ofC (by decide +kernel) (Nat.le_of_ble_eq_true rfl) (fun X G hF hL => ?_)
  exact w_X8_putArea_e hF hL HL I l0 l1 kl0 hm
set_option maxRecDepth 20000 in
set_option maxHeartbeats 2000000 in
theorem w_X8_isInArea_109 {X : po_X} {G : po_G} {st : Nat → Nat} {K : po_K} {I : po_I} {R : po_R} {ρ : Int32} {r6 : Nat → Int32 → Int32 → Int32 → Int32 → Int32 → Option (Int32)} (hF : po_F X G cX8_isInArea RX8 7 st) (hL : po_L X (some .boolean) 1 0 0 "isInArea") (HL : po_Lay K R st) (h6 : ∀ (l0 : Nat) (l1 : Int32) (l2 : Int32) (l3 : Int32) (l4 : Int32) (l5 : Int32), r6 l0 l1 l2 l3 l4 l5 = some ρ → K l0 = (19, 19) → po_V X G 7 (po_Q X G (.inl (some (.int ρ))) K R I none 0 0) 0 0 6 [(0, .ref l0), (1, .int l1), (2, .int l2), (3, .int l3), (4, .int l4), (5, .int l5)] [] K R I none) (l0 : Nat) (l1 : Int32) (l2 : Int32) (l3 : Int32) (l5 : Int32) (s0 : Int32) (kl0 : K l0 = (19, 19)) (hm : m_X8_isInArea_109 I r6 l0 l1 l2 l3 l5 s0 = some ρ) : po_V X G 7 (po_Q X G (.inl (some (.int ρ))) K R I none 0 0) 0 0 109 [(0, .ref l0), (1, .int l1), (2, .int l2), (3, .int l3), (5, .int l5)] [.int s0] K R I none := by
  unfold m_X8_isInArea_109 at hm
  refine po_istore (L' := [(4, .int s0), (0, .ref l0), (1, .int l1), (2, .int l2), (3, .int l3), (5, .int l5)]) hF dX8_isInArea_109 (by decide) rfl ?_
  refine po_iinc (v := l5 + 1) (L' := [(5, .int (l5 + 1)), (4, .int s0), (0, .ref l0), (1, .int l1), (2, .int l2), (3, .int l3)]) hF dX8_isInArea_111 rfl rfl (by decide) rfl ?_
  refine po_goto (tgt := 6) hF dX8_isInArea_114 (by decide) ?_
  refine po_sub (L' := [(0, .ref l0), (1, .int l1), (2, .int l2), (3, .int l3), (4, .int s0), (5, .int (l5 + 1))]) rfl ?_
  exact h6 l0 l1 l2 l3 s0 (l5 + 1) hm kl0
set_option maxRecDepth 20000 in
set_option maxHeartbeats 2000000 in
theorem w_X8_isInArea_104 {X : po_X} {G : po_G} {st : Nat → Nat} {K : po_K} {I : po_I} {R : po_R} {ρ : Int32} {r6 : Nat → Int32 → Int32 → Int32 → Int32 → Int32 → Option (Int32)} (hF : po_F X G cX8_isInArea RX8 7 st) (hL : po_L X (some .boolean) 1 0 0 "isInArea") (HL : po_Lay K R st) (h6 : ∀ (l0 : Nat) (l1 : Int32) (l2 : Int32) (l3 : Int32) (l4 : Int32) (l5 : Int32), r6 l0 l1 l2 l3 l4 l5 = some ρ → K l0 = (19, 19) → po_V X G 7 (po_Q X G (.inl (some (.int ρ))) K R I none 0 0) 0 0 6 [(0, .ref l0), (1, .int l1), (2, .int l2), (3, .int l3), (4, .int l4), (5, .int l5)] [] K R I none) (l0 : Nat) (l1 : Int32) (l2 : Int32) (l3 : Int32) (l5 : Int32) (kl0 : K l0 = (19, 19)) (hm : m_X8_isInArea_104 I r6 l0 l1 l2 l3 l5 = some ρ) : po_V X G 7 (po_Q X G (.inl (some (.int ρ))) K R I none 0 0) 0 0 104 [(0, .ref l0), (1, .int l1), (2, .int l2), (3, .int l3), (5, .int l5)] [] K R I none := by
  unfold m_X8_isInArea_104 at hm
  refine po_iconst (v := 1) hF dX8_isInArea_104 (by decide) ?_
  refine po_goto (tgt := 109) hF dX8_isInArea_105 (by decide) ?_
  exact w_X8_isInArea_109 hF hL HL h6 l0 l1 l2 l3 l5 1 kl0 hm
set_option maxRecDepth 20000 in
set_option maxHeartbeats 2000000 in
theorem w_X8_isInArea_108 {X : po_X} {G : po_G} {st : Nat → Nat} {K : po_K} {I : po_I} {R : po_R} {ρ : Int32} {r6 : Nat → Int32 → Int32 → Int32 → Int32 → Int32 → Option (Int32)} (hF : po_F X G cX8_isInArea RX8 7 st) (hL : po_L X (some .boolean) 1 0 0 "isInArea") (HL : po_Lay K R st) (h6 : ∀ (l0 : Nat) (l1 : Int32) (l2 : Int32) (l3 : Int32) (l4 : Int32) (l5 : Int32), r6 l0 l1 l2 l3 l4 l5 = some ρ → K l0 = (19, 19) → po_V X G 7 (po_Q X G (.inl (some (.int ρ))) K R I none 0 0) 0 0 6 [(0, .ref l0), (1, .int l1), (2, .int l2), (3, .int l3), (4, .int l4), (5, .int l5)] [] K R I none) (l0 : Nat) (l1 : Int32) (l2 : Int32) (l3 : Int32) (l5 : Int32) (kl0 : K l0 = (19, 19)) (hm : m_X8_isInArea_108 I r6 l0 l1 l2 l3 l5 = some ρ) : po_V X G 7 (po_Q X G (.inl (some (.int ρ))) K R I none 0 0) 0 0 108 [(0, .ref l0), (1, .int l1), (2, .int l2), (3, .int l3), (5, .int l5)] [] K R I none := by
  unfold m_X8_isInArea_108 at hm
  refine po_iconst (v := 0) hF dX8_isInArea_108 (by decide) ?_
  exact w_X8_isInArea_109 hF hL HL h6 l0 l1 l2 l3 l5 0 kl0 hm
set_option maxRecDepth 20000 in
set_option maxHeartbeats 2000000 in
theorem w_X8_isInArea_6 {X : po_X} {G : po_G} {st : Nat → Nat} {K : po_K} {I : po_I} {R : po_R} {ρ : Int32} {r6 : Nat → Int32 → Int32 → Int32 → Int32 → Int32 → Option (Int32)} (hF : po_F X G cX8_isInArea RX8 7 st) (hL : po_L X (some .boolean) 1 0 0 "isInArea") (HL : po_Lay K R st) (h6 : ∀ (l0 : Nat) (l1 : Int32) (l2 : Int32) (l3 : Int32) (l4 : Int32) (l5 : Int32), r6 l0 l1 l2 l3 l4 l5 = some ρ → K l0 = (19, 19) → po_V X G 7 (po_Q X G (.inl (some (.int ρ))) K R I none 0 0) 0 0 6 [(0, .ref l0), (1, .int l1), (2, .int l2), (3, .int l3), (4, .int l4), (5, .int l5)] [] K R I none) (l0 : Nat) (l1 : Int32) (l2 : Int32) (l3 : Int32) (l4 : Int32) (l5 : Int32) (kl0 : K l0 = (19, 19)) (hm : m_X8_isInArea_6 I r6 l0 l1 l2 l3 l4 l5 = some ρ) : po_V X G 7 (po_Q X G (.inl (some (.int ρ))) K R I none 0 0) 0 0 6 [(0, .ref l0), (1, .int l1), (2, .int l2), (3, .int l3), (4, .int l4), (5, .int l5)] [] K R I none := by
  unfold m_X8_isInArea_6 at hm
  refine po_iload hF dX8_isInArea_6 rfl ?_
  refine po_aload_n hF dX8_isInArea_8 rfl rfl ?_
  refine po_getf (v := .ref (l0 + 1)) hF dX8_isInArea_9 fl_X8_13 kl0 (ly_8_1 HL kl0).1 ?_
  refine po_iload_n hF dX8_isInArea_12 rfl rfl ?_
  refine po_iconst (v := 2) hF dX8_isInArea_13 (by decide) ?_
  refine po_iadd hF dX8_isInArea_14 ?_
  refine po_iald hF dX8_isInArea_15 ((ly_8_1 HL kl0).2) (Or.inl rfl) hm (fun hm => ?_)
  refine po_icmp_ge (tgt := 117) hF dX8_isInArea_16 (by decide) hm (fun hm => ?_) (fun hm => ?_)
  · refine po_iload hF dX8_isInArea_117 rfl ?_
    obtain ⟨hz, hm⟩ := po_zif hm
    cases hm
    exact po_zret hF hL dX8_isInArea_119 (po_nz hz) (by decide) (by decide) rfl rfl rfl (Or.inl rfl)
  · refine po_iload_n hF dX8_isInArea_19 rfl rfl ?_
    refine po_iconst (v := 3) hF dX8_isInArea_20 (by decide) ?_
    refine po_iadd hF dX8_isInArea_21 ?_
    refine po_iconst (v := 4) hF dX8_isInArea_22 (by decide) ?_
    refine po_iload hF dX8_isInArea_23 rfl ?_
    refine po_imul hF dX8_isInArea_25 ?_
    refine po_iadd hF dX8_isInArea_26 ?_
    refine po_top hm (fun v1 hm => ?_)
    refine po_istore (L' := [(6, .int v1), (0, .ref l0), (1, .int l1), (2, .int l2), (3, .int l3), (4, .int l4), (5, .int l5)]) hF dX8_isInArea_27 (by decide) rfl ?_
    refine po_iload hF dX8_isInArea_29 rfl ?_
    refine po_if_ne (tgt := 104) hF dX8_isInArea_31 (by decide) hm (fun hm => ?_) (fun hm => ?_)
    · refine po_sub (L' := [(0, .ref l0), (1, .int l1), (2, .int l2), (3, .int l3), (5, .int l5)]) rfl ?_
      exact w_X8_isInArea_104 hF hL HL h6 l0 l1 l2 l3 l5 kl0 hm
    · refine po_iload_n hF dX8_isInArea_34 rfl rfl ?_
      refine po_aload_n hF dX8_isInArea_35 rfl rfl ?_
      refine po_getf (v := .ref (l0 + 1)) hF dX8_isInArea_36 fl_X8_13 kl0 (ly_8_1 HL kl0).1 ?_
      refine po_iload hF dX8_isInArea_39 rfl ?_
      refine po_iald hF dX8_isInArea_41 ((ly_8_1 HL kl0).2) (Or.inl rfl) hm (fun hm => ?_)
      refine po_aload_n hF dX8_isInArea_42 rfl rfl ?_
      refine po_getf (v := .ref (l0 + 1)) hF dX8_isInArea_43 fl_X8_13 kl0 (ly_8_1 HL kl0).1 ?_
      refine po_iload hF dX8_isInArea_46 rfl ?_
      refine po_iald hF dX8_isInArea_48 ((ly_8_1 HL kl0).2) (Or.inl rfl) hm (fun hm => ?_)
      refine po_aload_n hF dX8_isInArea_49 rfl rfl ?_
      refine po_getf (v := .ref (l0 + 1)) hF dX8_isInArea_50 fl_X8_13 kl0 (ly_8_1 HL kl0).1 ?_
      refine po_iload hF dX8_isInArea_53 rfl ?_
      refine po_iconst (v := 2) hF dX8_isInArea_55 (by decide) ?_
      refine po_iadd hF dX8_isInArea_56 ?_
      refine po_iald hF dX8_isInArea_57 ((ly_8_1 HL kl0).2) (Or.inl rfl) hm (fun hm => ?_)
      refine po_iadd hF dX8_isInArea_58 ?_
      refine po_iconst (v := 1) hF dX8_isInArea_59 (by decide) ?_
      refine po_isub hF dX8_isInArea_60 ?_
      obtain ⟨x2, hx2, hm⟩ := po_bind hm
      refine po_callS (As := [.int l2, .int (I (l0 + 1) (Int32.toNatClampNeg v1)), .int (((I (l0 + 1) (Int32.toNatClampNeg v1)) + (I (l0 + 1) (Int32.toNatClampNeg (v1 + 2)))) - 1)]) hF dX8_isInArea_61 wq_1282 mv_X8_isIn (c_X8_isIn HL hx2) rfl (po_rtL hL rfl) (Nat.le_of_ble_eq_true rfl) rfl ?_
      refine po_if_eq (tgt := 108) hF dX8_isInArea_64 (by decide) hm (fun hm => ?_) (fun hm => ?_)
      · refine po_sub (L' := [(0, .ref l0), (1, .int l1), (2, .int l2), (3, .int l3), (5, .int l5)]) rfl ?_
        exact w_X8_isInArea_108 hF hL HL h6 l0 l1 l2 l3 l5 kl0 hm
      · refine po_iload_n hF dX8_isInArea_67 rfl rfl ?_
        refine po_aload_n hF dX8_isInArea_68 rfl rfl ?_
        refine po_getf (v := .ref (l0 + 1)) hF dX8_isInArea_69 fl_X8_13 kl0 (ly_8_1 HL kl0).1 ?_
        refine po_iload hF dX8_isInArea_72 rfl ?_
        refine po_iconst (v := 1) hF dX8_isInArea_74 (by decide) ?_
        refine po_iadd hF dX8_isInArea_75 ?_
        refine po_iald hF dX8_isInArea_76 ((ly_8_1 HL kl0).2) (Or.inl rfl) hm (fun hm => ?_)
        refine po_aload_n hF dX8_isInArea_77 rfl rfl ?_
        refine po_getf (v := .ref (l0 + 1)) hF dX8_isInArea_78 fl_X8_13 kl0 (ly_8_1 HL kl0).1 ?_
        refine po_iload hF dX8_isInArea_81 rfl ?_
        refine po_iconst (v := 1) hF dX8_isInArea_83 (by decide) ?_
        refine po_iadd hF dX8_isInArea_84 ?_
        refine po_iald hF dX8_isInArea_85 ((ly_8_1 HL kl0).2) (Or.inl rfl) hm (fun hm => ?_)
        refine po_aload_n hF dX8_isInArea_86 rfl rfl ?_
        refine po_getf (v := .ref (l0 + 1)) hF dX8_isInArea_87 fl_X8_13 kl0 (ly_8_1 HL kl0).1 ?_
        refine po_iload hF dX8_isInArea_90 rfl ?_
        refine po_iconst (v := 3) hF dX8_isInArea_92 (by decide) ?_
        refine po_iadd hF dX8_isInArea_93 ?_
        refine po_iald hF dX8_isInArea_94 ((ly_8_1 HL kl0).2) (Or.inl rfl) hm (fun hm => ?_)
        refine po_iadd hF dX8_isInArea_95 ?_
        refine po_iconst (v := 1) hF dX8_isInArea_96 (by decide) ?_
        refine po_isub hF dX8_isInArea_97 ?_
        obtain ⟨x3, hx3, hm⟩ := po_bind hm
        refine po_callS (As := [.int l3, .int (I (l0 + 1) (Int32.toNatClampNeg (v1 + 1))), .int (((I (l0 + 1) (Int32.toNatClampNeg (v1 + 1))) + (I (l0 + 1) (Int32.toNatClampNeg (v1 + 3)))) - 1)]) hF dX8_isInArea_98 wq_1282 mv_X8_isIn (c_X8_isIn HL hx3) rfl (po_rtL hL rfl) (Nat.le_of_ble_eq_true rfl) rfl ?_
        refine po_if_eq (tgt := 108) hF dX8_isInArea_101 (by decide) hm (fun hm => ?_) (fun hm => ?_)
        · refine po_sub (L' := [(0, .ref l0), (1, .int l1), (2, .int l2), (3, .int l3), (5, .int l5)]) rfl ?_
          exact w_X8_isInArea_108 hF hL HL h6 l0 l1 l2 l3 l5 kl0 hm
        · refine po_sub (L' := [(0, .ref l0), (1, .int l1), (2, .int l2), (3, .int l3), (5, .int l5)]) rfl ?_
          exact w_X8_isInArea_104 hF hL HL h6 l0 l1 l2 l3 l5 kl0 hm
theorem w_X8_isInArea_6L {X : po_X} {G : po_G} {st : Nat → Nat} {K : po_K} {I : po_I} {R : po_R} {ρ : Int32} (hF : po_F X G cX8_isInArea RX8 7 st) (hL : po_L X (some .boolean) 1 0 0 "isInArea") (HL : po_Lay K R st) : ∀ (n : Nat) (l0 : Nat) (l1 : Int32) (l2 : Int32) (l3 : Int32) (l4 : Int32) (l5 : Int32), m_X8_isInArea_6L I n l0 l1 l2 l3 l4 l5 = some ρ → K l0 = (19, 19) → po_V X G 7 (po_Q X G (.inl (some (.int ρ))) K R I none 0 0) 0 0 6 [(0, .ref l0), (1, .int l1), (2, .int l2), (3, .int l3), (4, .int l4), (5, .int l5)] [] K R I none := by
  intro n
  induction n with
  | zero => intro l0 l1 l2 l3 l4 l5 hm; cases hm
  | succ n ih => intro l0 l1 l2 l3 l4 l5 hm kl0; exact w_X8_isInArea_6 hF hL HL (ih) l0 l1 l2 l3 l4 l5 kl0 hm
set_option maxRecDepth 20000 in
set_option maxHeartbeats 2000000 in
theorem w_X8_isInArea_e {X : po_X} {G : po_G} {st : Nat → Nat} {K : po_K} {I : po_I} {R : po_R} {ρ : Int32} (hF : po_F X G cX8_isInArea RX8 7 st) (hL : po_L X (some .boolean) 1 0 0 "isInArea") (HL : po_Lay K R st) (l0 : Nat) (l1 : Int32) (l2 : Int32) (l3 : Int32) (kl0 : K l0 = (19, 19)) (hm : m_X8_isInArea_e I l0 l1 l2 l3 = some ρ) : po_V X G 7 (po_Q X G (.inl (some (.int ρ))) K R I none 0 0) 0 0 0 [(0, .ref l0), (1, .int l1), (2, .int l2), (3, .int l3)] [] K R I none := by
  unfold m_X8_isInArea_e at hm
  refine po_iconst (v := 0) hF dX8_isInArea_0 (by decide) ?_
  refine po_istore (L' := [(4, .int 0), (0, .ref l0), (1, .int l1), (2, .int l2), (3, .int l3)]) hF dX8_isInArea_1 (by decide) rfl ?_
  refine po_iconst (v := 0) hF dX8_isInArea_3 (by decide) ?_
  refine po_istore (L' := [(5, .int 0), (4, .int 0), (0, .ref l0), (1, .int l1), (2, .int l2), (3, .int l3)]) hF dX8_isInArea_4 (by decide) rfl ?_
  refine po_sub (L' := [(0, .ref l0), (1, .int l1), (2, .int l2), (3, .int l3), (4, .int 0), (5, .int 0)]) rfl ?_
  exact w_X8_isInArea_6L hF hL HL 5000 l0 l1 l2 l3 0 0 hm kl0
theorem c_X8_isInArea {K : po_K} {R : po_R} {I : po_I} {st : Nat → Nat} {ρ : Int32} (HL : po_Lay K R st) {l0 : Nat} {l1 : Int32} {l2 : Int32} {l3 : Int32} (kl0 : K l0 = (19, 19)) (hm : m_X8_isInArea I l0 l1 l2 l3 = some ρ) : po_C st yX8_isInArea cX8_isInArea 7 (some .boolean) 1 0 0 [.ref l0, .int l1, .int l2, .int l3] K R I none (.inl (some (.int ρ))) K R I none := by
  refine po_ofC (by decide +kernel) (Nat.le_of_ble_eq_true rfl) (fun X G hF hL => ?_)
  exact w_X8_isInArea_e hF hL HL l0 l1 l2 l3 kl0 hm
set_option maxRecDepth 20000 in
set_option maxHeartbeats 2000000 in
theorem w_X8_isInLot_e {X : po_X} {G : po_G} {st : Nat → Nat} {K : po_K} {I : po_I} {R : po_R} {ρ : Int32} (hF : po_F X G cX8_isInLot RX8 4 st) (hL : po_L X (some .boolean) 2 0 0 "isInLot") (HL : po_Lay K R st) (l0 : Nat) (l1 : Int32) (l2 : Int32) (l3 : Int32) (kl0 : K l0 = (19, 19)) (hm : m_X8_isInLot_e I l0 l1 l2 l3 = some ρ) : po_V X G 4 (po_Q X G (.inl (some (.int ρ))) K R I none 0 0) 0 0 0 [(0, .ref l0), (1, .int l1), (2, .int l2), (3, .int l3)] [] K R I none := by
  unfold m_X8_isInLot_e at hm
  refine po_aload_n hF dX8_isInLot_0 rfl rfl ?_
  refine po_bipush (v := 32) hF dX8_isInLot_1 (by decide) ?_
  refine po_bipush (v := 16) hF dX8_isInLot_3 (by decide) ?_
  refine po_iload_n hF dX8_isInLot_5 rfl rfl ?_
  refine po_imul hF dX8_isInLot_6 ?_
  refine po_iadd hF dX8_isInLot_7 ?_
  refine po_iload_n hF dX8_isInLot_8 rfl rfl ?_
  refine po_iload_n hF dX8_isInLot_9 rfl rfl ?_
  obtain ⟨x1, hx1, hm⟩ := po_bind hm
  refine po_callV (As := [.int (32 + (16 * l1)), .int l2, .int l3]) hF dX8_isInLot_10 wq_1351 mv_X8_isInArea ws_X8_isInArea (show po_cl[8]? = some _ from rfl) rfl kl0 (c_X8_isInArea HL kl0 hx1) rfl (po_rtL hL rfl) (Nat.le_of_ble_eq_true rfl) rfl ?_
  obtain ⟨hz, hm⟩ := po_zif hm
  cases hm
  exact po_zret hF hL dX8_isInLot_13 (po_nz hz) (by decide) (by decide) rfl rfl rfl (Or.inl rfl)
theorem c_X8_isInLot {K : po_K} {R : po_R} {I : po_I} {st : Nat → Nat} {ρ : Int32} (HL : po_Lay K R st) {l0 : Nat} {l1 : Int32} {l2 : Int32} {l3 : Int32} (kl0 : K l0 = (19, 19)) (hm : m_X8_isInLot I l0 l1 l2 l3 = some ρ) : po_C st yX8_isInLot cX8_isInLot 4 (some .boolean) 2 0 0 [.ref l0, .int l1, .int l2, .int l3] K R I none (.inl (some (.int ρ))) K R I none := by
  refine po_ofC (by decide +kernel) (Nat.le_of_ble_eq_true rfl) (fun X G hF hL => ?_)
  exact w_X8_isInLot_e hF hL HL l0 l1 l2 l3 kl0 hm
set_option maxRecDepth 20000 in
set_option maxHeartbeats 2000000 in
theorem w_X8_lotAt_2 {X : po_X} {G : po_G} {st : Nat → Nat} {K : po_K} {I : po_I} {R : po_R} {ρ : Int32} {r2 : Nat → Int32 → Int32 → Int32 → Option (Int32)} (hF : po_F X G cX8_lotAt RX8 4 st) (hL : po_L X (some .int) 3 0 0 "lotAt") (HL : po_Lay K R st) (h2 : ∀ (l0 : Nat) (l1 : Int32) (l2 : Int32) (l3 : Int32), r2 l0 l1 l2 l3 = some ρ → K l0 = (19, 19) → po_V X G 4 (po_Q X G (.inl (some (.int ρ))) K R I none 0 0) 0 0 2 [(0, .ref l0), (1, .int l1), (2, .int l2), (3, .int l3)] [] K R I none) (l0 : Nat) (l1 : Int32) (l2 : Int32) (l3 : Int32) (kl0 : K l0 = (19, 19)) (hm : m_X8_lotAt_2 I r2 l0 l1 l2 l3 = some ρ) : po_V X G 4 (po_Q X G (.inl (some (.int ρ))) K R I none 0 0) 0 0 2 [(0, .ref l0), (1, .int l1), (2, .int l2), (3, .int l3)] [] K R I none := by
  unfold m_X8_lotAt_2 at hm
  refine po_iload_n hF dX8_lotAt_2 rfl rfl ?_
  refine po_aload_n hF dX8_lotAt_3 rfl rfl ?_
  refine po_getf (v := .ref (l0 + 1)) hF dX8_lotAt_4 fl_X8_13 kl0 (ly_8_1 HL kl0).1 ?_
  refine po_iconst (v := 1) hF dX8_lotAt_7 (by decide) ?_
  refine po_ialdC (j := 1) hF dX8_lotAt_8 ((ly_8_1 HL kl0).2) (Or.inl rfl) (by decide) (by decide) (by decide) ?_
  refine po_icmp_ge (tgt := 30) hF dX8_lotAt_9 (by decide) hm (fun hm => ?_) (fun hm => ?_)
  · refine po_iconst (v := (-1)) hF dX8_lotAt_30 (by decide) ?_
    cases hm
    exact po_iret hF hL dX8_lotAt_31 (by decide) (by decide) rfl rfl rfl (Or.inl rfl)
  · refine po_aload_n hF dX8_lotAt_12 rfl rfl ?_
    refine po_iload_n hF dX8_lotAt_13 rfl rfl ?_
    refine po_iload_n hF dX8_lotAt_14 rfl rfl ?_
    refine po_iload_n hF dX8_lotAt_15 rfl rfl ?_
    obtain ⟨x1, hx1, hm⟩ := po_bind hm
    refine po_callV (As := [.int l3, .int l1, .int l2]) hF dX8_lotAt_16 wq_1347 mv_X8_isInLot ws_X8_isInLot (show po_cl[8]? = some _ from rfl) rfl kl0 (c_X8_isInLot HL kl0 hx1) rfl (po_rtL hL rfl) (Nat.le_of_ble_eq_true rfl) rfl ?_
    refine po_if_eq (tgt := 24) hF dX8_lotAt_19 (by decide) hm (fun hm => ?_) (fun hm => ?_)
    · refine po_iinc (v := l3 + 1) (L' := [(3, .int (l3 + 1)), (0, .ref l0), (1, .int l1), (2, .int l2)]) hF dX8_lotAt_24 rfl rfl (by decide) rfl ?_
      refine po_goto (tgt := 2) hF dX8_lotAt_27 (by decide) ?_
      refine po_sub (L' := [(0, .ref l0), (1, .int l1), (2, .int l2), (3, .int (l3 + 1))]) rfl ?_
      exact h2 l0 l1 l2 (l3 + 1) hm kl0
    · refine po_iload_n hF dX8_lotAt_22 rfl rfl ?_
      cases hm
      exact po_iret hF hL dX8_lotAt_23 (by decide) (by decide) rfl rfl rfl (Or.inl rfl)
theorem w_X8_lotAt_2L {X : po_X} {G : po_G} {st : Nat → Nat} {K : po_K} {I : po_I} {R : po_R} {ρ : Int32} (hF : po_F X G cX8_lotAt RX8 4 st) (hL : po_L X (some .int) 3 0 0 "lotAt") (HL : po_Lay K R st) : ∀ (n : Nat) (l0 : Nat) (l1 : Int32) (l2 : Int32) (l3 : Int32), m_X8_lotAt_2L I n l0 l1 l2 l3 = some ρ → K l0 = (19, 19) → po_V X G 4 (po_Q X G (.inl (some (.int ρ))) K R I none 0 0) 0 0 2 [(0, .ref l0), (1, .int l1), (2, .int l2), (3, .int l3)] [] K R I none := by
  intro n
  induction n with
  | zero => intro l0 l1 l2 l3 hm; cases hm
  | succ n ih => intro l0 l1 l2 l3 hm kl0; exact w_X8_lotAt_2 hF hL HL (ih) l0 l1 l2 l3 kl0 hm
set_option maxRecDepth 20000 in
set_option maxHeartbeats 2000000 in
theorem w_X8_lotAt_e {X : po_X} {G : po_G} {st : Nat → Nat} {K : po_K} {I : po_I} {R : po_R} {ρ : Int32} (hF : po_F X G cX8_lotAt RX8 4 st) (hL : po_L X (some .int) 3 0 0 "lotAt") (HL : po_Lay K R st) (l0 : Nat) (l1 : Int32) (l2 : Int32) (kl0 : K l0 = (19, 19)) (hm : m_X8_lotAt_e I l0 l1 l2 = some ρ) : po_V X G 4 (po_Q X G (.inl (some (.int ρ))) K R I none 0 0) 0 0 0 [(0, .ref l0), (1, .int l1), (2, .int l2)] [] K R I none := by
  unfold m_X8_lotAt_e at hm
  refine po_iconst (v := 0) hF dX8_lotAt_0 (by decide) ?_
  refine po_istore_n (L' := [(3, .int 0), (0, .ref l0), (1, .int l1), (2, .int l2)]) hF dX8_lotAt_1 rfl (by decide) rfl ?_
  refine po_sub (L' := [(0, .ref l0), (1, .int l1), (2, .int l2), (3, .int 0)]) rfl ?_
  exact w_X8_lotAt_2L hF hL HL 5000 l0 l1 l2 0 hm kl0
theorem c_X8_lotAt {K : po_K} {R : po_R} {I : po_I} {st : Nat → Nat} {ρ : Int32} (HL : po_Lay K R st) {l0 : Nat} {l1 : Int32} {l2 : Int32} (kl0 : K l0 = (19, 19)) (hm : m_X8_lotAt I l0 l1 l2 = some ρ) : po_C st yX8_lotAt cX8_lotAt 4 (some .int) 3 0 0 [.ref l0, .int l1, .int l2] K R I none (.inl (some (.int ρ))) K R I none := by
  refine po_ofC (by decide +kernel) (Nat.le_of_ble_eq_true rfl) (fun X G hF hL => ?_)
  exact w_X8_lotAt_e hF hL HL l0 l1 l2 kl0 hm
set_option maxRecDepth 20000 in
set_option maxHeartbeats 2000000 in
theorem w_X8_isShared_62 {X : po_X} {G : po_G} {st : Nat → Nat} {K : po_K} {I : po_I} {R : po_R} {ρ : Int32} {r4 : Nat → Int32 → Int32 → Int32 → Option (Int32)} (hF : po_F X G cX8_isShared RX8 5 st) (hL : po_L X (some .boolean) 4 0 0 "isShared") (HL : po_Lay K R st) (h4 : ∀ (l0 : Nat) (l1 : Int32) (l2 : Int32) (l3 : Int32), r4 l0 l1 l2 l3 = some ρ → K l0 = (19, 19) → po_V X G 5 (po_Q X G (.inl (some (.int ρ))) K R I none 0 0) 0 0 4 [(0, .ref l0), (1, .int l1), (2, .int l2), (3, .int l3)] [] K R I none) (l0 : Nat) (l1 : Int32) (l3 : Int32) (s0 : Int32) (kl0 : K l0 = (19, 19)) (hm : m_X8_isShared_62 I r4 l0 l1 l3 s0 = some ρ) : po_V X G 5 (po_Q X G (.inl (some (.int ρ))) K R I none 0 0) 0 0 62 [(0, .ref l0), (1, .int l1), (3, .int l3)] [.int s0] K R I none := by
  unfold m_X8_isShared_62 at hm
  refine po_istore_n (L' := [(2, .int s0), (0, .ref l0), (1, .int l1), (3, .int l3)]) hF dX8_isShared_62 rfl (by decide) rfl ?_
  refine po_iinc (v := l3 + 1) (L' := [(3, .int (l3 + 1)), (2, .int s0), (0, .ref l0), (1, .int l1)]) hF dX8_isShared_63 rfl rfl (by decide) rfl ?_
  refine po_goto (tgt := 4) hF dX8_isShared_66 (by decide) ?_
  refine po_sub (L' := [(0, .ref l0), (1, .int l1), (2, .int s0), (3, .int (l3 + 1))]) rfl ?_
  exact h4 l0 l1 s0 (l3 + 1) hm kl0
set_option maxRecDepth 20000 in
set_option maxHeartbeats 2000000 in
theorem w_X8_isShared_57 {X : po_X} {G : po_G} {st : Nat → Nat} {K : po_K} {I : po_I} {R : po_R} {ρ : Int32} {r4 : Nat → Int32 → Int32 → Int32 → Option (Int32)} (hF : po_F X G cX8_isShared RX8 5 st) (hL : po_L X (some .boolean) 4 0 0 "isShared") (HL : po_Lay K R st) (h4 : ∀ (l0 : Nat) (l1 : Int32) (l2 : Int32) (l3 : Int32), r4 l0 l1 l2 l3 = some ρ → K l0 = (19, 19) → po_V X G 5 (po_Q X G (.inl (some (.int ρ))) K R I none 0 0) 0 0 4 [(0, .ref l0), (1, .int l1), (2, .int l2), (3, .int l3)] [] K R I none) (l0 : Nat) (l1 : Int32) (l3 : Int32) (kl0 : K l0 = (19, 19)) (hm : m_X8_isShared_57 I r4 l0 l1 l3 = some ρ) : po_V X G 5 (po_Q X G (.inl (some (.int ρ))) K R I none 0 0) 0 0 57 [(0, .ref l0), (1, .int l1), (3, .int l3)] [] K R I none := by
  unfold m_X8_isShared_57 at hm
  refine po_iconst (v := 1) hF dX8_isShared_57 (by decide) ?_
  refine po_goto (tgt := 62) hF dX8_isShared_58 (by decide) ?_
  exact w_X8_isShared_62 hF hL HL h4 l0 l1 l3 1 kl0 hm
set_option maxRecDepth 20000 in
set_option maxHeartbeats 2000000 in
theorem w_X8_isShared_61 {X : po_X} {G : po_G} {st : Nat → Nat} {K : po_K} {I : po_I} {R : po_R} {ρ : Int32} {r4 : Nat → Int32 → Int32 → Int32 → Option (Int32)} (hF : po_F X G cX8_isShared RX8 5 st) (hL : po_L X (some .boolean) 4 0 0 "isShared") (HL : po_Lay K R st) (h4 : ∀ (l0 : Nat) (l1 : Int32) (l2 : Int32) (l3 : Int32), r4 l0 l1 l2 l3 = some ρ → K l0 = (19, 19) → po_V X G 5 (po_Q X G (.inl (some (.int ρ))) K R I none 0 0) 0 0 4 [(0, .ref l0), (1, .int l1), (2, .int l2), (3, .int l3)] [] K R I none) (l0 : Nat) (l1 : Int32) (l3 : Int32) (kl0 : K l0 = (19, 19)) (hm : m_X8_isShared_61 I r4 l0 l1 l3 = some ρ) : po_V X G 5 (po_Q X G (.inl (some (.int ρ))) K R I none 0 0) 0 0 61 [(0, .ref l0), (1, .int l1), (3, .int l3)] [] K R I none := by
  unfold m_X8_isShared_61 at hm
  refine po_iconst (v := 0) hF dX8_isShared_61 (by decide) ?_
  exact w_X8_isShared_62 hF hL HL h4 l0 l1 l3 0 kl0 hm
set_option maxRecDepth 20000 in
set_option maxHeartbeats 2000000 in
theorem w_X8_isShared_4 {X : po_X} {G : po_G} {st : Nat → Nat} {K : po_K} {I : po_I} {R : po_R} {ρ : Int32} {r4 : Nat → Int32 → Int32 → Int32 → Option (Int32)} (hF : po_F X G cX8_isShared RX8 5 st) (hL : po_L X (some .boolean) 4 0 0 "isShared") (HL : po_Lay K R st) (h4 : ∀ (l0 : Nat) (l1 : Int32) (l2 : Int32) (l3 : Int32), r4 l0 l1 l2 l3 = some ρ → K l0 = (19, 19) → po_V X G 5 (po_Q X G (.inl (some (.int ρ))) K R I none 0 0) 0 0 4 [(0, .ref l0), (1, .int l1), (2, .int l2), (3, .int l3)] [] K R I none) (l0 : Nat) (l1 : Int32) (l2 : Int32) (l3 : Int32) (kl0 : K l0 = (19, 19)) (hm : m_X8_isShared_4 I r4 l0 l1 l2 l3 = some ρ) : po_V X G 5 (po_Q X G (.inl (some (.int ρ))) K R I none 0 0) 0 0 4 [(0, .ref l0), (1, .int l1), (2, .int l2), (3, .int l3)] [] K R I none := by
  unfold m_X8_isShared_4 at hm
  refine po_iload_n hF dX8_isShared_4 rfl rfl ?_
  refine po_sipush (v := 280) hF dX8_isShared_5 (by decide) ?_
  refine po_icmp_ge (tgt := 69) hF dX8_isShared_8 (by decide) hm (fun hm => ?_) (fun hm => ?_)
  · refine po_iload_n hF dX8_isShared_69 rfl rfl ?_
    obtain ⟨hz, hm⟩ := po_zif hm
    cases hm
    exact po_zret hF hL dX8_isShared_70 (po_nz hz) (by decide) (by decide) rfl rfl rfl (Or.inl rfl)
  · refine po_aload_n hF dX8_isShared_11 rfl rfl ?_
    refine po_iload_n hF dX8_isShared_12 rfl rfl ?_
    refine po_bipush (v := 20) hF dX8_isShared_13 (by decide) ?_
    refine po_iremK hF dX8_isShared_15 (by decide) ?_
    refine po_iload_n hF dX8_isShared_16 rfl rfl ?_
    refine po_bipush (v := 20) hF dX8_isShared_17 (by decide) ?_
    refine po_idivK hF dX8_isShared_19 (by decide) ?_
    obtain ⟨x1, hx1, hm⟩ := po_bind hm
    refine po_callV (As := [.int (l3 - l3 / 20 * 20), .int (l3 / 20)]) hF dX8_isShared_20 wq_1343 mv_X8_lotAt ws_X8_lotAt (show po_cl[8]? = some _ from rfl) rfl kl0 (c_X8_lotAt HL kl0 hx1) rfl (po_rtL hL rfl) (Nat.le_of_ble_eq_true rfl) rfl ?_
    refine po_istore (L' := [(4, .int x1), (0, .ref l0), (1, .int l1), (2, .int l2), (3, .int l3)]) hF dX8_isShared_23 (by decide) rfl ?_
    refine po_iload_n hF dX8_isShared_25 rfl rfl ?_
    refine po_if_ne (tgt := 57) hF dX8_isShared_26 (by decide) hm (fun hm => ?_) (fun hm => ?_)
    · refine po_sub (L' := [(0, .ref l0), (1, .int l1), (3, .int l3)]) rfl ?_
      exact w_X8_isShared_57 hF hL HL h4 l0 l1 l3 kl0 hm
    · refine po_iload hF dX8_isShared_29 rfl ?_
      refine po_iconst (v := (-1)) hF dX8_isShared_31 (by decide) ?_
      refine po_icmp_eq (tgt := 61) hF dX8_isShared_32 (by decide) hm (fun hm => ?_) (fun hm => ?_)
      · refine po_sub (L' := [(0, .ref l0), (1, .int l1), (3, .int l3)]) rfl ?_
        exact w_X8_isShared_61 hF hL HL h4 l0 l1 l3 kl0 hm
      · refine po_iload hF dX8_isShared_35 rfl ?_
        refine po_iload_n hF dX8_isShared_37 rfl rfl ?_
        refine po_icmp_eq (tgt := 61) hF dX8_isShared_38 (by decide) hm (fun hm => ?_) (fun hm => ?_)
        · refine po_sub (L' := [(0, .ref l0), (1, .int l1), (3, .int l3)]) rfl ?_
          exact w_X8_isShared_61 hF hL HL h4 l0 l1 l3 kl0 hm
        · refine po_aload_n hF dX8_isShared_41 rfl rfl ?_
          refine po_iload_n hF dX8_isShared_42 rfl rfl ?_
          refine po_iload_n hF dX8_isShared_43 rfl rfl ?_
          refine po_bipush (v := 20) hF dX8_isShared_44 (by decide) ?_
          refine po_iremK hF dX8_isShared_46 (by decide) ?_
          refine po_iload_n hF dX8_isShared_47 rfl rfl ?_
          refine po_bipush (v := 20) hF dX8_isShared_48 (by decide) ?_
          refine po_idivK hF dX8_isShared_50 (by decide) ?_
          obtain ⟨x2, hx2, hm⟩ := po_bind hm
          refine po_callV (As := [.int l1, .int (l3 - l3 / 20 * 20), .int (l3 / 20)]) hF dX8_isShared_51 wq_1347 mv_X8_isInLot ws_X8_isInLot (show po_cl[8]? = some _ from rfl) rfl kl0 (c_X8_isInLot HL kl0 hx2) rfl (po_rtL hL rfl) (Nat.le_of_ble_eq_true rfl) rfl ?_
          refine po_if_eq (tgt := 61) hF dX8_isShared_54 (by decide) hm (fun hm => ?_) (fun hm => ?_)
          · refine po_sub (L' := [(0, .ref l0), (1, .int l1), (3, .int l3)]) rfl ?_
            exact w_X8_isShared_61 hF hL HL h4 l0 l1 l3 kl0 hm
          · refine po_sub (L' := [(0, .ref l0), (1, .int l1), (3, .int l3)]) rfl ?_
            exact w_X8_isShared_57 hF hL HL h4 l0 l1 l3 kl0 hm
theorem w_X8_isShared_4L {X : po_X} {G : po_G} {st : Nat → Nat} {K : po_K} {I : po_I} {R : po_R} {ρ : Int32} (hF : po_F X G cX8_isShared RX8 5 st) (hL : po_L X (some .boolean) 4 0 0 "isShared") (HL : po_Lay K R st) : ∀ (n : Nat) (l0 : Nat) (l1 : Int32) (l2 : Int32) (l3 : Int32), m_X8_isShared_4L I n l0 l1 l2 l3 = some ρ → K l0 = (19, 19) → po_V X G 5 (po_Q X G (.inl (some (.int ρ))) K R I none 0 0) 0 0 4 [(0, .ref l0), (1, .int l1), (2, .int l2), (3, .int l3)] [] K R I none := by
  intro n
  induction n with
  | zero => intro l0 l1 l2 l3 hm; cases hm
  | succ n ih => intro l0 l1 l2 l3 hm kl0; exact w_X8_isShared_4 hF hL HL (ih) l0 l1 l2 l3 kl0 hm
set_option maxRecDepth 20000 in
set_option maxHeartbeats 2000000 in
theorem w_X8_isShared_e {X : po_X} {G : po_G} {st : Nat → Nat} {K : po_K} {I : po_I} {R : po_R} {ρ : Int32} (hF : po_F X G cX8_isShared RX8 5 st) (hL : po_L X (some .boolean) 4 0 0 "isShared") (HL : po_Lay K R st) (l0 : Nat) (l1 : Int32) (kl0 : K l0 = (19, 19)) (hm : m_X8_isShared_e I l0 l1 = some ρ) : po_V X G 5 (po_Q X G (.inl (some (.int ρ))) K R I none 0 0) 0 0 0 [(0, .ref l0), (1, .int l1)] [] K R I none := by
  unfold m_X8_isShared_e at hm
  refine po_iconst (v := 0) hF dX8_isShared_0 (by decide) ?_
  refine po_istore_n (L' := [(2, .int 0), (0, .ref l0), (1, .int l1)]) hF dX8_isShared_1 rfl (by decide) rfl ?_
  refine po_iconst (v := 0) hF dX8_isShared_2 (by decide) ?_
  refine po_istore_n (L' := [(3, .int 0), (2, .int 0), (0, .ref l0), (1, .int l1)]) hF dX8_isShared_3 rfl (by decide) rfl ?_
  refine po_sub (L' := [(0, .ref l0), (1, .int l1), (2, .int 0), (3, .int 0)]) rfl ?_
  exact w_X8_isShared_4L hF hL HL 5000 l0 l1 0 0 hm kl0
theorem c_X8_isShared {K : po_K} {R : po_R} {I : po_I} {st : Nat → Nat} {ρ : Int32} (HL : po_Lay K R st) {l0 : Nat} {l1 : Int32} (kl0 : K l0 = (19, 19)) (hm : m_X8_isShared I l0 l1 = some ρ) : po_C st yX8_isShared cX8_isShared 5 (some .boolean) 4 0 0 [.ref l0, .int l1] K R I none (.inl (some (.int ρ))) K R I none := by
  refine po_ofC (by decide +kernel) (Nat.le_of_ble_eq_true rfl) (fun X G hF hL => ?_)
  exact w_X8_isShared_e hF hL HL l0 l1 kl0 hm
set_option maxRecDepth 20000 in
set_option maxHeartbeats 2000000 in
theorem w_X8_readLot_114 {X : po_X} {G : po_G} {st : Nat → Nat} {K : po_K} {R : po_R} {ρ : po_I} (hF : po_F X G cX8_readLot RX8 6 st) (hL : po_L X none 5 0 0 "readLot") (HL : po_Lay K R st) (I : po_I) (hm : m_X8_readLot_114 I = some ρ) : po_V X G 6 (po_Q X G (.inl (none)) K R (ρ) none 0 0) 0 0 114 [] [] K R I none := by
  unfold m_X8_readLot_114 at hm
  cases hm
  exact po_vret hF hL dX8_readLot_114 (by decide) (by decide) rfl rfl rfl (Or.inl rfl)
set_option maxRecDepth 20000 in
set_option maxHeartbeats 2000000 in
theorem w_X8_readLot_23 {X : po_X} {G : po_G} {st : Nat → Nat} {K : po_K} {R : po_R} {ρ : po_I} (hF : po_F X G cX8_readLot RX8 6 st) (hL : po_L X none 5 0 0 "readLot") (HL : po_Lay K R st) (I : po_I) (l0 : Nat) (l1 : Int32) (s0 : Int32) (kl0 : K l0 = (19, 19)) (hm : m_X8_readLot_23 I l0 l1 s0 = some ρ) : po_V X G 6 (po_Q X G (.inl (none)) K R (ρ) none 0 0) 0 0 23 [(0, .ref l0), (1, .int l1)] [.int s0] K R I none := by
  unfold m_X8_readLot_23 at hm
  refine po_istore_n (L' := [(2, .int s0), (0, .ref l0), (1, .int l1)]) hF dX8_readLot_23 rfl (by decide) rfl ?_
  refine po_aload_n hF dX8_readLot_24 rfl rfl ?_
  obtain ⟨x1, hx1, hm⟩ := po_bind hm
  refine po_callV (As := []) hF dX8_readLot_25 wq_1324 mv_X8_readArea ws_X8_readArea (show po_cl[8]? = some _ from rfl) rfl kl0 (c_X8_readArea HL kl0 hx1) rfl (po_rtL hL rfl) (Nat.le_of_ble_eq_true rfl) rfl ?_
  refine po_aload_n hF dX8_readLot_28 rfl rfl ?_
  refine po_getf (v := .int (x1 l0 14)) hF dX8_readLot_29 fl_X8_166 kl0 rfl ?_
  refine po_top hm (fun v2 hm => ?_)
  refine po_istore_n (L' := [(3, .int v2), (2, .int s0), (0, .ref l0), (1, .int l1)]) hF dX8_readLot_32 rfl (by decide) rfl ?_
  refine po_aload_n hF dX8_readLot_33 rfl rfl ?_
  refine po_bipush (v := 59) hF dX8_readLot_34 (by decide) ?_
  obtain ⟨x3, hx3, hm⟩ := po_bind hm
  refine po_callV (As := [.int 59]) hF dX8_readLot_36 wq_1331 mv_X8_must ws_X8_must (show po_cl[8]? = some _ from rfl) rfl kl0 (c_X8_must HL kl0 hx3) rfl (po_rtL hL rfl) (Nat.le_of_ble_eq_true rfl) rfl ?_
  refine po_aload_n hF dX8_readLot_39 rfl rfl ?_
  refine po_getf (v := .int (x3 l0 15)) hF dX8_readLot_40 fl_X8_29 kl0 rfl ?_
  refine po_iconst (v := (-1)) hF dX8_readLot_43 (by decide) ?_
  refine po_icmp_eq (tgt := 48) hF dX8_readLot_44 (by decide) hm (fun hm => ?_) (fun hm => ?_)
  · refine po_aload_n hF dX8_readLot_48 rfl rfl ?_
    refine po_getf (v := .ref (l0 + 1)) hF dX8_readLot_49 fl_X8_13 kl0 (ly_8_1 HL kl0).1 ?_
    refine po_iconst (v := 1) hF dX8_readLot_52 (by decide) ?_
    refine po_ialdC (j := 1) hF dX8_readLot_53 ((ly_8_1 HL kl0).2) (Or.inl rfl) (by decide) (by decide) (by decide) ?_
    refine po_top hm (fun v4 hm => ?_)
    refine po_istore (L' := [(4, .int v4), (3, .int v2), (2, .int s0), (0, .ref l0), (1, .int l1)]) hF dX8_readLot_54 (by decide) rfl ?_
    refine po_bipush (v := 32) hF dX8_readLot_56 (by decide) ?_
    refine po_bipush (v := 16) hF dX8_readLot_58 (by decide) ?_
    refine po_iload hF dX8_readLot_60 rfl ?_
    refine po_imul hF dX8_readLot_62 ?_
    refine po_iadd hF dX8_readLot_63 ?_
    refine po_top hm (fun v5 hm => ?_)
    refine po_istore (L' := [(5, .int v5), (4, .int v4), (3, .int v2), (2, .int s0), (0, .ref l0), (1, .int l1)]) hF dX8_readLot_64 (by decide) rfl ?_
    refine po_aload_n hF dX8_readLot_66 rfl rfl ?_
    refine po_getf (v := .ref (l0 + 1)) hF dX8_readLot_67 fl_X8_13 kl0 (ly_8_1 HL kl0).1 ?_
    refine po_iconst (v := 1) hF dX8_readLot_70 (by decide) ?_
    refine po_dup2 hF dX8_readLot_71 rfl rfl ?_
    refine po_ialdC (j := 1) hF dX8_readLot_72 ((ly_8_1 HL kl0).2) (Or.inl rfl) (by decide) (by decide) (by decide) ?_
    refine po_iconst (v := 1) hF dX8_readLot_73 (by decide) ?_
    refine po_iadd hF dX8_readLot_74 ?_
    refine po_iastC (j := 1) hF dX8_readLot_75 ((ly_8_1 HL kl0).2) (by decide) (by decide) (by decide) rfl ?_
    refine po_hname hm (fun I6 hm => ?_)
    refine po_aload_n hF dX8_readLot_76 rfl rfl ?_
    refine po_getf (v := .ref (l0 + 1)) hF dX8_readLot_77 fl_X8_13 kl0 (ly_8_1 HL kl0).1 ?_
    refine po_iload hF dX8_readLot_80 rfl ?_
    refine po_iload_n hF dX8_readLot_82 rfl rfl ?_
    refine po_iast hF dX8_readLot_83 ((ly_8_1 HL kl0).2) hm rfl (fun hm => ?_)
    refine po_hname hm (fun I7 hm => ?_)
    refine po_aload_n hF dX8_readLot_84 rfl rfl ?_
    refine po_getf (v := .ref (l0 + 1)) hF dX8_readLot_85 fl_X8_13 kl0 (ly_8_1 HL kl0).1 ?_
    refine po_iload hF dX8_readLot_88 rfl ?_
    refine po_iconst (v := 1) hF dX8_readLot_90 (by decide) ?_
    refine po_iadd hF dX8_readLot_91 ?_
    refine po_iload_n hF dX8_readLot_92 rfl rfl ?_
    refine po_iast hF dX8_readLot_93 ((ly_8_1 HL kl0).2) hm rfl (fun hm => ?_)
    refine po_hname hm (fun I8 hm => ?_)
    refine po_aload_n hF dX8_readLot_94 rfl rfl ?_
    refine po_iload hF dX8_readLot_95 rfl ?_
    obtain ⟨x9, hx9, hm⟩ := po_bind hm
    refine po_callV (As := [.int v5]) hF dX8_readLot_97 wq_1335 mv_X8_putArea ws_X8_putArea (show po_cl[8]? = some _ from rfl) rfl kl0 (c_X8_putArea HL kl0 hx9) rfl (po_rtL hL rfl) (Nat.le_of_ble_eq_true rfl) rfl ?_
    refine po_aload_n hF dX8_readLot_100 rfl rfl ?_
    refine po_iload hF dX8_readLot_101 rfl ?_
    obtain ⟨x10, hx10, hm⟩ := po_bind hm
    refine po_callV (As := [.int v4]) hF dX8_readLot_103 wq_1339 mv_X8_isShared ws_X8_isShared (show po_cl[8]? = some _ from rfl) rfl kl0 (c_X8_isShared HL kl0 hx10) rfl (po_rtL hL rfl) (Nat.le_of_ble_eq_true rfl) rfl ?_
    refine po_if_eq (tgt := 114) hF dX8_readLot_106 (by decide) hm (fun hm => ?_) (fun hm => ?_)
    · refine po_sub (L' := []) rfl ?_
      exact w_X8_readLot_114 hF hL HL x9 hm
    · refine po_aload_n hF dX8_readLot_109 rfl rfl ?_
      refine po_iload_n hF dX8_readLot_110 rfl rfl ?_
      obtain ⟨x11, hx11, hm⟩ := po_bind hm
      refine po_callV (As := [.int v2]) hF dX8_readLot_111 wq_1304 mv_X8_faultAt ws_X8_faultAt (show po_cl[8]? = some _ from rfl) rfl kl0 (c_X8_faultAt HL kl0 hx11) rfl (po_rtL hL rfl) (Nat.le_of_ble_eq_true rfl) rfl ?_
      refine po_sub (L' := []) rfl ?_
      exact w_X8_readLot_114 hF hL HL x11 hm
  · cases hm
    exact po_vret hF hL dX8_readLot_47 (by decide) (by decide) rfl rfl rfl (Or.inl rfl)
set_option maxRecDepth 20000 in
set_option maxHeartbeats 2000000 in
theorem w_X8_readLot_e {X : po_X} {G : po_G} {st : Nat → Nat} {K : po_K} {R : po_R} {ρ : po_I} (hF : po_F X G cX8_readLot RX8 6 st) (hL : po_L X none 5 0 0 "readLot") (HL : po_Lay K R st) (I : po_I) (l0 : Nat) (kl0 : K l0 = (19, 19)) (hm : m_X8_readLot_e I l0 = some ρ) : po_V X G 6 (po_Q X G (.inl (none)) K R (ρ) none 0 0) 0 0 0 [(0, .ref l0)] [] K R I none := by
  unfold m_X8_readLot_e at hm
  refine po_aload_n hF dX8_readLot_0 rfl rfl ?_
  refine po_iconst (v := 0) hF dX8_readLot_1 (by decide) ?_
  refine po_iconst (v := 3) hF dX8_readLot_2 (by decide) ?_
  obtain ⟨x12, hx12, hm⟩ := po_bind hm
  refine po_callV (As := [.int 0, .int 3]) hF dX8_readLot_3 wq_1312 mv_X8_digit ws_X8_digit (show po_cl[8]? = some _ from rfl) rfl kl0 (c_X8_digit HL kl0 hx12) rfl (po_rtL hL rfl) (Nat.le_of_ble_eq_true rfl) rfl ?_
  refine po_top hm (fun v13 hm => ?_)
  refine po_istore_n (L' := [(1, .int v13), (0, .ref l0)]) hF dX8_readLot_6 rfl (by decide) rfl ?_
  refine po_aload_n hF dX8_readLot_7 rfl rfl ?_
  refine po_getf (v := .int ((x12.2) l0 15)) hF dX8_readLot_8 fl_X8_29 kl0 rfl ?_
  refine po_iconst (v := (-1)) hF dX8_readLot_11 (by decide) ?_
  refine po_icmp_ne (tgt := 22) hF dX8_readLot_12 (by decide) hm (fun hm => ?_) (fun hm => ?_)
  · refine po_iconst (v := 0) hF dX8_readLot_22 (by decide) ?_
    refine po_sub (L' := [(0, .ref l0), (1, .int v13)]) rfl ?_
    exact w_X8_readLot_23 hF hL HL (x12.2) l0 v13 0 kl0 hm
  · refine po_aload_n hF dX8_readLot_15 rfl rfl ?_
    obtain ⟨x14, hx14, hm⟩ := po_bind hm
    refine po_callV (As := []) hF dX8_readLot_16 wq_1320 mv_X8_front ws_X8_front (show po_cl[8]? = some _ from rfl) rfl kl0 (c_X8_front HL kl0 hx14) rfl (po_rtL hL rfl) (Nat.le_of_ble_eq_true rfl) rfl ?_
    refine po_goto (tgt := 23) hF dX8_readLot_19 (by decide) ?_
    refine po_sub (L' := [(0, .ref l0), (1, .int v13)]) rfl ?_
    exact w_X8_readLot_23 hF hL HL (x14.2) l0 v13 (x14.1) kl0 hm
theorem c_X8_readLot {K : po_K} {R : po_R} {I : po_I} {st : Nat → Nat} {ρ : po_I} (HL : po_Lay K R st) {l0 : Nat} (kl0 : K l0 = (19, 19)) (hm : m_X8_readLot I l0 = some ρ) : po_C st yX8_readLot cX8_readLot 6 none 5 0 0 [.ref l0] K R I none (.inl (none)) K R (ρ) none := by
  refine po_ofC (by decide +kernel) (Nat.le_of_ble_eq_true rfl) (fun X G hF hL => ?_)
  exact w_X8_readLot_e hF hL HL I l0 kl0 hm
set_option maxRecDepth 20000 in
set_option maxHeartbeats 2000000 in
theorem w_X8_which_e {X : po_X} {G : po_G} {st : Nat → Nat} {K : po_K} {R : po_R} {ρ : Int32 × po_I} (hF : po_F X G cX8_which RX8 2 st) (hL : po_L X (some .int) 3 0 0 "which") (HL : po_Lay K R st) (I : po_I) (l0 : Nat) (l1 : Int32) (kl0 : K l0 = (19, 19)) (hm : m_X8_which_e I l0 l1 = some ρ) : po_V X G 2 (po_Q X G (.inl (some (.int ρ.1))) K R (ρ.2) none 0 0) 0 0 0 [(0, .ref l0), (1, .int l1)] [] K R I none := by
  unfold m_X8_which_e at hm
  refine po_iload_n hF dX8_which_0 rfl rfl ?_
  refine po_if_ne (tgt := 14) hF dX8_which_1 (by decide) hm (fun hm => ?_) (fun hm => ?_)
  · refine po_aload_n hF dX8_which_14 rfl rfl ?_
    refine po_iconst (v := 0) hF dX8_which_15 (by decide) ?_
    refine po_bipush (v := 9) hF dX8_which_16 (by decide) ?_
    refine po_iload_n hF dX8_which_18 rfl rfl ?_
    refine po_iconst (v := 1) hF dX8_which_19 (by decide) ?_
    refine po_isub hF dX8_which_20 ?_
    refine po_min hF hL dX8_which_21 wq_1363 ⟨wq_904, wq_106, wq_905⟩ (Nat.le_of_ble_eq_true rfl) (by decide) (by decide) (by decide) ?_
    obtain ⟨x1, hx1, hm⟩ := po_bind hm
    refine po_callV (As := [.int 0, .int (if ((l1 - 1) : Int32) < 9 then (l1 - 1) else 9)]) hF dX8_which_24 wq_1312 mv_X8_digit ws_X8_digit (show po_cl[8]? = some _ from rfl) rfl kl0 (c_X8_digit HL kl0 hx1) rfl (po_rtL hL rfl) (Nat.le_of_ble_eq_true rfl) rfl ?_
    cases hm
    exact po_iret hF hL dX8_which_27 (by decide) (by decide) rfl rfl rfl (Or.inl rfl)
  · refine po_aload_n hF dX8_which_4 rfl rfl ?_
    refine po_aload_n hF dX8_which_5 rfl rfl ?_
    refine po_getf (v := .int (I l0 14)) hF dX8_which_6 fl_X8_166 kl0 rfl ?_
    obtain ⟨x2, hx2, hm⟩ := po_bind hm
    refine po_callV (As := [.int (I l0 14)]) hF dX8_which_9 wq_1304 mv_X8_faultAt ws_X8_faultAt (show po_cl[8]? = some _ from rfl) rfl kl0 (c_X8_faultAt HL kl0 hx2) rfl (po_rtL hL rfl) (Nat.le_of_ble_eq_true rfl) rfl ?_
    refine po_iconst (v := 0) hF dX8_which_12 (by decide) ?_
    cases hm
    exact po_iret hF hL dX8_which_13 (by decide) (by decide) rfl rfl rfl (Or.inl rfl)
theorem c_X8_which {K : po_K} {R : po_R} {I : po_I} {st : Nat → Nat} {ρ : Int32 × po_I} (HL : po_Lay K R st) {l0 : Nat} {l1 : Int32} (kl0 : K l0 = (19, 19)) (hm : m_X8_which I l0 l1 = some ρ) : po_C st yX8_which cX8_which 2 (some .int) 3 0 0 [.ref l0, .int l1] K R I none (.inl (some (.int ρ.1))) K R (ρ.2) none := by
  refine po_ofC (by decide +kernel) (Nat.le_of_ble_eq_true rfl) (fun X G hF hL => ?_)
  exact w_X8_which_e hF hL HL I l0 l1 kl0 hm
set_option maxRecDepth 20000 in
set_option maxHeartbeats 2000000 in
theorem w_X8_set_e {X : po_X} {G : po_G} {st : Nat → Nat} {K : po_K} {R : po_R} {ρ : po_I} (hF : po_F X G cX8_set RX8 4 st) (hL : po_L X none 0 0 0 "set") (HL : po_Lay K R st) (I : po_I) (l0 : Nat) (l1 : Int32) (l2 : Int32) (l3 : Int32) (kl0 : K l0 = (19, 19)) (hm : m_X8_set_e I l0 l1 l2 l3 = some ρ) : po_V X G 4 (po_Q X G (.inl (none)) K R (ρ) none 0 0) 0 0 0 [(0, .ref l0), (1, .int l1), (2, .int l2), (3, .int l3)] [] K R I none := by
  unfold m_X8_set_e at hm
  refine po_aload_n hF dX8_set_0 rfl rfl ?_
  refine po_getf (v := .ref (l0 + 1)) hF dX8_set_1 fl_X8_13 kl0 (ly_8_1 HL kl0).1 ?_
  refine po_sipush (v := 160) hF dX8_set_4 (by decide) ?_
  refine po_bipush (v := 46) hF dX8_set_7 (by decide) ?_
  refine po_iload_n hF dX8_set_9 rfl rfl ?_
  refine po_imul hF dX8_set_10 ?_
  refine po_iadd hF dX8_set_11 ?_
  refine po_iload_n hF dX8_set_12 rfl rfl ?_
  refine po_iadd hF dX8_set_13 ?_
  refine po_iload_n hF dX8_set_14 rfl rfl ?_
  refine po_iast hF dX8_set_15 ((ly_8_1 HL kl0).2) hm rfl (fun hm => ?_)
  refine po_hname hm (fun I1 hm => ?_)
  cases hm
  exact po_vret hF hL dX8_set_16 (by decide) (by decide) rfl rfl rfl (Or.inl rfl)
theorem c_X8_set {K : po_K} {R : po_R} {I : po_I} {st : Nat → Nat} {ρ : po_I} (HL : po_Lay K R st) {l0 : Nat} {l1 : Int32} {l2 : Int32} {l3 : Int32} (kl0 : K l0 = (19, 19)) (hm : m_X8_set I l0 l1 l2 l3 = some ρ) : po_C st yX8_set cX8_set 4 none 0 0 0 [.ref l0, .int l1, .int l2, .int l3] K R I none (.inl (none)) K R (ρ) none := by
  refine po_ofC (by decide +kernel) (Nat.le_of_ble_eq_true rfl) (fun X G hF hL => ?_)
  exact w_X8_set_e hF hL HL I l0 l1 l2 l3 kl0 hm
set_option maxRecDepth 20000 in
set_option maxHeartbeats 2000000 in
theorem w_X8_cellsOf_33 {X : po_X} {G : po_G} {st : Nat → Nat} {K : po_K} {I : po_I} {R : po_R} {ρ : Int32} {r4 : Nat → Int32 → Int32 → Int32 → Option (Int32)} (hF : po_F X G cX8_cellsOf RX8 4 st) (hL : po_L X (some .int) 2 0 0 "cellsOf") (HL : po_Lay K R st) (h4 : ∀ (l0 : Nat) (l1 : Int32) (l2 : Int32) (l3 : Int32), r4 l0 l1 l2 l3 = some ρ → K l0 = (19, 19) → po_V X G 4 (po_Q X G (.inl (some (.int ρ))) K R I none 0 0) 0 0 4 [(0, .ref l0), (1, .int l1), (2, .int l2), (3, .int l3)] [] K R I none) (l0 : Nat) (l1 : Int32) (l3 : Int32) (s0 : Int32) (s1 : Int32) (kl0 : K l0 = (19, 19)) (hm : m_X8_cellsOf_33 I r4 l0 l1 l3 s0 s1 = some ρ) : po_V X G 4 (po_Q X G (.inl (some (.int ρ))) K R I none 0 0) 0 0 33 [(0, .ref l0), (1, .int l1), (3, .int l3)] [.int s1, .int s0] K R I none := by
  unfold m_X8_cellsOf_33 at hm
  refine po_iadd hF dX8_cellsOf_33 ?_
  refine po_top hm (fun v1 hm => ?_)
  refine po_istore_n (L' := [(2, .int v1), (0, .ref l0), (1, .int l1), (3, .int l3)]) hF dX8_cellsOf_34 rfl (by decide) rfl ?_
  refine po_iinc (v := l3 + 1) (L' := [(3, .int (l3 + 1)), (2, .int v1), (0, .ref l0), (1, .int l1)]) hF dX8_cellsOf_35 rfl rfl (by decide) rfl ?_
  refine po_goto (tgt := 4) hF dX8_cellsOf_38 (by decide) ?_
  refine po_sub (L' := [(0, .ref l0), (1, .int l1), (2, .int v1), (3, .int (l3 + 1))]) rfl ?_
  exact h4 l0 l1 v1 (l3 + 1) hm kl0
set_option maxRecDepth 20000 in
set_option maxHeartbeats 2000000 in
theorem w_X8_cellsOf_4 {X : po_X} {G : po_G} {st : Nat → Nat} {K : po_K} {I : po_I} {R : po_R} {ρ : Int32} {r4 : Nat → Int32 → Int32 → Int32 → Option (Int32)} (hF : po_F X G cX8_cellsOf RX8 4 st) (hL : po_L X (some .int) 2 0 0 "cellsOf") (HL : po_Lay K R st) (h4 : ∀ (l0 : Nat) (l1 : Int32) (l2 : Int32) (l3 : Int32), r4 l0 l1 l2 l3 = some ρ → K l0 = (19, 19) → po_V X G 4 (po_Q X G (.inl (some (.int ρ))) K R I none 0 0) 0 0 4 [(0, .ref l0), (1, .int l1), (2, .int l2), (3, .int l3)] [] K R I none) (l0 : Nat) (l1 : Int32) (l2 : Int32) (l3 : Int32) (kl0 : K l0 = (19, 19)) (hm : m_X8_cellsOf_4 I r4 l0 l1 l2 l3 = some ρ) : po_V X G 4 (po_Q X G (.inl (some (.int ρ))) K R I none 0 0) 0 0 4 [(0, .ref l0), (1, .int l1), (2, .int l2), (3, .int l3)] [] K R I none := by
  unfold m_X8_cellsOf_4 at hm
  refine po_iload_n hF dX8_cellsOf_4 rfl rfl ?_
  refine po_sipush (v := 280) hF dX8_cellsOf_5 (by decide) ?_
  refine po_icmp_ge (tgt := 41) hF dX8_cellsOf_8 (by decide) hm (fun hm => ?_) (fun hm => ?_)
  · refine po_iload_n hF dX8_cellsOf_41 rfl rfl ?_
    cases hm
    exact po_iret hF hL dX8_cellsOf_42 (by decide) (by decide) rfl rfl rfl (Or.inl rfl)
  · refine po_iload_n hF dX8_cellsOf_11 rfl rfl ?_
    refine po_aload_n hF dX8_cellsOf_12 rfl rfl ?_
    refine po_iload_n hF dX8_cellsOf_13 rfl rfl ?_
    refine po_iload_n hF dX8_cellsOf_14 rfl rfl ?_
    refine po_bipush (v := 20) hF dX8_cellsOf_15 (by decide) ?_
    refine po_iremK hF dX8_cellsOf_17 (by decide) ?_
    refine po_iload_n hF dX8_cellsOf_18 rfl rfl ?_
    refine po_bipush (v := 20) hF dX8_cellsOf_19 (by decide) ?_
    refine po_idivK hF dX8_cellsOf_21 (by decide) ?_
    obtain ⟨x2, hx2, hm⟩ := po_bind hm
    refine po_callV (As := [.int l1, .int (l3 - l3 / 20 * 20), .int (l3 / 20)]) hF dX8_cellsOf_22 wq_1351 mv_X8_isInArea ws_X8_isInArea (show po_cl[8]? = some _ from rfl) rfl kl0 (c_X8_isInArea HL kl0 hx2) rfl (po_rtL hL rfl) (Nat.le_of_ble_eq_true rfl) rfl ?_
    refine po_if_eq (tgt := 32) hF dX8_cellsOf_25 (by decide) hm (fun hm => ?_) (fun hm => ?_)
    · refine po_iconst (v := 0) hF dX8_cellsOf_32 (by decide) ?_
      refine po_sub (L' := [(0, .ref l0), (1, .int l1), (3, .int l3)]) rfl ?_
      exact w_X8_cellsOf_33 hF hL HL h4 l0 l1 l3 l2 0 kl0 hm
    · refine po_iconst (v := 1) hF dX8_cellsOf_28 (by decide) ?_
      refine po_goto (tgt := 33) hF dX8_cellsOf_29 (by decide) ?_
      refine po_sub (L' := [(0, .ref l0), (1, .int l1), (3, .int l3)]) rfl ?_
      exact w_X8_cellsOf_33 hF hL HL h4 l0 l1 l3 l2 1 kl0 hm
theorem w_X8_cellsOf_4L {X : po_X} {G : po_G} {st : Nat → Nat} {K : po_K} {I : po_I} {R : po_R} {ρ : Int32} (hF : po_F X G cX8_cellsOf RX8 4 st) (hL : po_L X (some .int) 2 0 0 "cellsOf") (HL : po_Lay K R st) : ∀ (n : Nat) (l0 : Nat) (l1 : Int32) (l2 : Int32) (l3 : Int32), m_X8_cellsOf_4L I n l0 l1 l2 l3 = some ρ → K l0 = (19, 19) → po_V X G 4 (po_Q X G (.inl (some (.int ρ))) K R I none 0 0) 0 0 4 [(0, .ref l0), (1, .int l1), (2, .int l2), (3, .int l3)] [] K R I none := by
  intro n
  induction n with
  | zero => intro l0 l1 l2 l3 hm; cases hm
  | succ n ih => intro l0 l1 l2 l3 hm kl0; exact w_X8_cellsOf_4 hF hL HL (ih) l0 l1 l2 l3 kl0 hm
set_option maxRecDepth 20000 in
set_option maxHeartbeats 2000000 in
theorem w_X8_cellsOf_e {X : po_X} {G : po_G} {st : Nat → Nat} {K : po_K} {I : po_I} {R : po_R} {ρ : Int32} (hF : po_F X G cX8_cellsOf RX8 4 st) (hL : po_L X (some .int) 2 0 0 "cellsOf") (HL : po_Lay K R st) (l0 : Nat) (l1 : Int32) (kl0 : K l0 = (19, 19)) (hm : m_X8_cellsOf_e I l0 l1 = some ρ) : po_V X G 4 (po_Q X G (.inl (some (.int ρ))) K R I none 0 0) 0 0 0 [(0, .ref l0), (1, .int l1)] [] K R I none := by
  unfold m_X8_cellsOf_e at hm
  refine po_iconst (v := 0) hF dX8_cellsOf_0 (by decide) ?_
  refine po_istore_n (L' := [(2, .int 0), (0, .ref l0), (1, .int l1)]) hF dX8_cellsOf_1 rfl (by decide) rfl ?_
  refine po_iconst (v := 0) hF dX8_cellsOf_2 (by decide) ?_
  refine po_istore_n (L' := [(3, .int 0), (2, .int 0), (0, .ref l0), (1, .int l1)]) hF dX8_cellsOf_3 rfl (by decide) rfl ?_
  refine po_sub (L' := [(0, .ref l0), (1, .int l1), (2, .int 0), (3, .int 0)]) rfl ?_
  exact w_X8_cellsOf_4L hF hL HL 5000 l0 l1 0 0 hm kl0
theorem c_X8_cellsOf {K : po_K} {R : po_R} {I : po_I} {st : Nat → Nat} {ρ : Int32} (HL : po_Lay K R st) {l0 : Nat} {l1 : Int32} (kl0 : K l0 = (19, 19)) (hm : m_X8_cellsOf I l0 l1 = some ρ) : po_C st yX8_cellsOf cX8_cellsOf 4 (some .int) 2 0 0 [.ref l0, .int l1] K R I none (.inl (some (.int ρ))) K R I none := by
  refine po_ofC (by decide +kernel) (Nat.le_of_ble_eq_true rfl) (fun X G hF hL => ?_)
  exact w_X8_cellsOf_e hF hL HL l0 l1 kl0 hm
set_option maxRecDepth 20000 in
set_option maxHeartbeats 2000000 in
theorem w_X8_buildingCells_e {X : po_X} {G : po_G} {st : Nat → Nat} {K : po_K} {I : po_I} {R : po_R} {ρ : Int32} (hF : po_F X G cX8_buildingCells RX8 2 st) (hL : po_L X (some .int) 3 0 0 "buildingCells") (HL : po_Lay K R st) (l0 : Nat) (l1 : Int32) (kl0 : K l0 = (19, 19)) (hm : m_X8_buildingCells_e I l0 l1 = some ρ) : po_V X G 2 (po_Q X G (.inl (some (.int ρ))) K R I none 0 0) 0 0 0 [(0, .ref l0), (1, .int l1)] [] K R I none := by
  unfold m_X8_buildingCells_e at hm
  refine po_aload_n hF dX8_buildingCells_0 rfl rfl ?_
  refine po_sipush (v := 160) hF dX8_buildingCells_1 (by decide) ?_
  refine po_bipush (v := 46) hF dX8_buildingCells_4 (by decide) ?_
  refine po_iload_n hF dX8_buildingCells_6 rfl rfl ?_
  refine po_imul hF dX8_buildingCells_7 ?_
  refine po_iadd hF dX8_buildingCells_8 ?_
  obtain ⟨x1, hx1, hm⟩ := po_bind hm
  refine po_callV (As := [.int (160 + (46 * l1))]) hF dX8_buildingCells_9 wq_1376 mv_X8_cellsOf ws_X8_cellsOf (show po_cl[8]? = some _ from rfl) rfl kl0 (c_X8_cellsOf HL kl0 hx1) rfl (po_rtL hL rfl) (Nat.le_of_ble_eq_true rfl) rfl ?_
  cases hm
  exact po_iret hF hL dX8_buildingCells_12 (by decide) (by decide) rfl rfl rfl (Or.inl rfl)
theorem c_X8_buildingCells {K : po_K} {R : po_R} {I : po_I} {st : Nat → Nat} {ρ : Int32} (HL : po_Lay K R st) {l0 : Nat} {l1 : Int32} (kl0 : K l0 = (19, 19)) (hm : m_X8_buildingCells I l0 l1 = some ρ) : po_C st yX8_buildingCells cX8_buildingCells 2 (some .int) 3 0 0 [.ref l0, .int l1] K R I none (.inl (some (.int ρ))) K R I none := by
  refine po_ofC (by decide +kernel) (Nat.le_of_ble_eq_true rfl) (fun X G hF hL => ?_)
  exact w_X8_buildingCells_e hF hL HL l0 l1 kl0 hm
set_option maxRecDepth 20000 in
set_option maxHeartbeats 2000000 in
theorem w_X8_at_e {X : po_X} {G : po_G} {st : Nat → Nat} {K : po_K} {I : po_I} {R : po_R} {ρ : Int32} (hF : po_F X G cX8_at RX8 3 st) (hL : po_L X (some .int) 0 0 0 "at") (HL : po_Lay K R st) (l0 : Nat) (l1 : Int32) (l2 : Int32) (kl0 : K l0 = (19, 19)) (hm : m_X8_at_e I l0 l1 l2 = some ρ) : po_V X G 3 (po_Q X G (.inl (some (.int ρ))) K R I none 0 0) 0 0 0 [(0, .ref l0), (1, .int l1), (2, .int l2)] [] K R I none := by
  unfold m_X8_at_e at hm
  refine po_aload_n hF dX8_at_0 rfl rfl ?_
  refine po_getf (v := .ref (l0 + 1)) hF dX8_at_1 fl_X8_13 kl0 (ly_8_1 HL kl0).1 ?_
  refine po_sipush (v := 160) hF dX8_at_4 (by decide) ?_
  refine po_bipush (v := 46) hF dX8_at_7 (by decide) ?_
  refine po_iload_n hF dX8_at_9 rfl rfl ?_
  refine po_imul hF dX8_at_10 ?_
  refine po_iadd hF dX8_at_11 ?_
  refine po_iload_n hF dX8_at_12 rfl rfl ?_
  refine po_iadd hF dX8_at_13 ?_
  refine po_iald hF dX8_at_14 ((ly_8_1 HL kl0).2) (Or.inl rfl) hm (fun hm => ?_)
  cases hm
  exact po_iret hF hL dX8_at_15 (by decide) (by decide) rfl rfl rfl (Or.inl rfl)
theorem c_X8_at {K : po_K} {R : po_R} {I : po_I} {st : Nat → Nat} {ρ : Int32} (HL : po_Lay K R st) {l0 : Nat} {l1 : Int32} {l2 : Int32} (kl0 : K l0 = (19, 19)) (hm : m_X8_at I l0 l1 l2 = some ρ) : po_C st yX8_at cX8_at 3 (some .int) 0 0 0 [.ref l0, .int l1, .int l2] K R I none (.inl (some (.int ρ))) K R I none := by
  refine po_ofC (by decide +kernel) (Nat.le_of_ble_eq_true rfl) (fun X G hF hL => ?_)
  exact w_X8_at_e hF hL HL l0 l1 l2 kl0 hm
set_option maxRecDepth 20000 in
set_option maxHeartbeats 2000000 in
theorem w_X8_floorArea_e {X : po_X} {G : po_G} {st : Nat → Nat} {K : po_K} {I : po_I} {R : po_R} {ρ : Int32} (hF : po_F X G cX8_floorArea RX8 2 st) (hL : po_L X (some .int) 4 0 0 "floorArea") (HL : po_Lay K R st) (l0 : Nat) (l1 : Int32) (kl0 : K l0 = (19, 19)) (hm : m_X8_floorArea_e I l0 l1 = some ρ) : po_V X G 2 (po_Q X G (.inl (some (.int ρ))) K R I none 0 0) 0 0 0 [(0, .ref l0), (1, .int l1)] [] K R I none := by
  unfold m_X8_floorArea_e at hm
  refine po_aload_n hF dX8_floorArea_0 rfl rfl ?_
  refine po_iload_n hF dX8_floorArea_1 rfl rfl ?_
  obtain ⟨x1, hx1, hm⟩ := po_bind hm
  refine po_callV (As := [.int l1]) hF dX8_floorArea_2 wq_1372 mv_X8_buildingCells ws_X8_buildingCells (show po_cl[8]? = some _ from rfl) rfl kl0 (c_X8_buildingCells HL kl0 hx1) rfl (po_rtL hL rfl) (Nat.le_of_ble_eq_true rfl) rfl ?_
  refine po_aload_n hF dX8_floorArea_5 rfl rfl ?_
  refine po_iload_n hF dX8_floorArea_6 rfl rfl ?_
  refine po_bipush (v := 17) hF dX8_floorArea_7 (by decide) ?_
  obtain ⟨x2, hx2, hm⟩ := po_bind hm
  refine po_callV (As := [.int l1, .int 17]) hF dX8_floorArea_9 wq_1380 mv_X8_at ws_X8_at (show po_cl[8]? = some _ from rfl) rfl kl0 (c_X8_at HL kl0 hx2) rfl (po_rtL hL rfl) (Nat.le_of_ble_eq_true rfl) rfl ?_
  refine po_imul hF dX8_floorArea_12 ?_
  cases hm
  exact po_iret hF hL dX8_floorArea_13 (by decide) (by decide) rfl rfl rfl (Or.inl rfl)
theorem c_X8_floorArea {K : po_K} {R : po_R} {I : po_I} {st : Nat → Nat} {ρ : Int32} (HL : po_Lay K R st) {l0 : Nat} {l1 : Int32} (kl0 : K l0 = (19, 19)) (hm : m_X8_floorArea I l0 l1 = some ρ) : po_C st yX8_floorArea cX8_floorArea 2 (some .int) 4 0 0 [.ref l0, .int l1] K R I none (.inl (some (.int ρ))) K R I none := by
  refine po_ofC (by decide +kernel) (Nat.le_of_ble_eq_true rfl) (fun X G hF hL => ?_)
  exact w_X8_floorArea_e hF hL HL l0 l1 kl0 hm
set_option maxRecDepth 20000 in
set_option maxHeartbeats 2000000 in
theorem w_X8_readPermit_75 {X : po_X} {G : po_G} {st : Nat → Nat} {K : po_K} {R : po_R} {ρ : po_I} {r75 : po_I → Nat → Int32 → Int32 → Int32 → Int32 → Int32 → Int32 → Option (po_I)} (hF : po_F X G cX8_readPermit RX8 7 st) (hL : po_L X none 5 0 0 "readPermit") (HL : po_Lay K R st) (h75 : ∀ (I : po_I) (l0 : Nat) (l1 : Int32) (l2 : Int32) (l3 : Int32) (l4 : Int32) (l5 : Int32) (l6 : Int32), r75 I l0 l1 l2 l3 l4 l5 l6 = some ρ → K l0 = (19, 19) → po_V X G 7 (po_Q X G (.inl (none)) K R (ρ) none 0 0) 0 0 75 [(0, .ref l0), (1, .int l1), (2, .int l2), (3, .int l3), (4, .int l4), (5, .int l5), (6, .int l6)] [] K R I none) (I : po_I) (l0 : Nat) (l1 : Int32) (l2 : Int32) (l3 : Int32) (l4 : Int32) (l5 : Int32) (l6 : Int32) (kl0 : K l0 = (19, 19)) (hm : m_X8_readPermit_75 r75 I l0 l1 l2 l3 l4 l5 l6 = some ρ) : po_V X G 7 (po_Q X G (.inl (none)) K R (ρ) none 0 0) 0 0 75 [(0, .ref l0), (1, .int l1), (2, .int l2), (3, .int l3), (4, .int l4), (5, .int l5), (6, .int l6)] [] K R I none := by
  unfold m_X8_readPermit_75 at hm
  refine po_iload hF dX8_readPermit_75 rfl ?_
  refine po_bipush (v := 46) hF dX8_readPermit_77 (by decide) ?_
  refine po_icmp_ge (tgt := 97) hF dX8_readPermit_79 (by decide) hm (fun hm => ?_) (fun hm => ?_)
  · refine po_aload_n hF dX8_readPermit_97 rfl rfl ?_
    refine po_iload hF dX8_readPermit_98 rfl ?_
    refine po_iconst (v := 0) hF dX8_readPermit_100 (by decide) ?_
    refine po_iload_n hF dX8_readPermit_101 rfl rfl ?_
    obtain ⟨x1, hx1, hm⟩ := po_bind hm
    refine po_callV (As := [.int l5, .int 0, .int l1]) hF dX8_readPermit_102 wq_1364 mv_X8_set ws_X8_set (show po_cl[8]? = some _ from rfl) rfl kl0 (c_X8_set HL kl0 hx1) rfl (po_rtL hL rfl) (Nat.le_of_ble_eq_true rfl) rfl ?_
    refine po_aload_n hF dX8_readPermit_105 rfl rfl ?_
    refine po_iload hF dX8_readPermit_106 rfl ?_
    refine po_iconst (v := 1) hF dX8_readPermit_108 (by decide) ?_
    refine po_iload_n hF dX8_readPermit_109 rfl rfl ?_
    obtain ⟨x2, hx2, hm⟩ := po_bind hm
    refine po_callV (As := [.int l5, .int 1, .int l2]) hF dX8_readPermit_110 wq_1364 mv_X8_set ws_X8_set (show po_cl[8]? = some _ from rfl) rfl kl0 (c_X8_set HL kl0 hx2) rfl (po_rtL hL rfl) (Nat.le_of_ble_eq_true rfl) rfl ?_
    refine po_aload_n hF dX8_readPermit_113 rfl rfl ?_
    refine po_iload hF dX8_readPermit_114 rfl ?_
    refine po_bipush (v := 17) hF dX8_readPermit_116 (by decide) ?_
    refine po_iload_n hF dX8_readPermit_118 rfl rfl ?_
    obtain ⟨x3, hx3, hm⟩ := po_bind hm
    refine po_callV (As := [.int l5, .int 17, .int l3]) hF dX8_readPermit_119 wq_1364 mv_X8_set ws_X8_set (show po_cl[8]? = some _ from rfl) rfl kl0 (c_X8_set HL kl0 hx3) rfl (po_rtL hL rfl) (Nat.le_of_ble_eq_true rfl) rfl ?_
    refine po_aload_n hF dX8_readPermit_122 rfl rfl ?_
    refine po_iload hF dX8_readPermit_123 rfl ?_
    refine po_bipush (v := 18) hF dX8_readPermit_125 (by decide) ?_
    refine po_iload hF dX8_readPermit_127 rfl ?_
    obtain ⟨x4, hx4, hm⟩ := po_bind hm
    refine po_callV (As := [.int l5, .int 18, .int l4]) hF dX8_readPermit_129 wq_1364 mv_X8_set ws_X8_set (show po_cl[8]? = some _ from rfl) rfl kl0 (c_X8_set HL kl0 hx4) rfl (po_rtL hL rfl) (Nat.le_of_ble_eq_true rfl) rfl ?_
    refine po_aload_n hF dX8_readPermit_132 rfl rfl ?_
    refine po_iload hF dX8_readPermit_133 rfl ?_
    refine po_bipush (v := 22) hF dX8_readPermit_135 (by decide) ?_
    refine po_iconst (v := (-1)) hF dX8_readPermit_137 (by decide) ?_
    obtain ⟨x5, hx5, hm⟩ := po_bind hm
    refine po_callV (As := [.int l5, .int 22, .int (-1)]) hF dX8_readPermit_138 wq_1364 mv_X8_set ws_X8_set (show po_cl[8]? = some _ from rfl) rfl kl0 (c_X8_set HL kl0 hx5) rfl (po_rtL hL rfl) (Nat.le_of_ble_eq_true rfl) rfl ?_
    refine po_aload_n hF dX8_readPermit_141 rfl rfl ?_
    refine po_iload hF dX8_readPermit_142 rfl ?_
    refine po_bipush (v := 27) hF dX8_readPermit_144 (by decide) ?_
    refine po_iconst (v := (-1)) hF dX8_readPermit_146 (by decide) ?_
    obtain ⟨x6, hx6, hm⟩ := po_bind hm
    refine po_callV (As := [.int l5, .int 27, .int (-1)]) hF dX8_readPermit_147 wq_1364 mv_X8_set ws_X8_set (show po_cl[8]? = some _ from rfl) rfl kl0 (c_X8_set HL kl0 hx6) rfl (po_rtL hL rfl) (Nat.le_of_ble_eq_true rfl) rfl ?_
    refine po_aload_n hF dX8_readPermit_150 rfl rfl ?_
    refine po_sipush (v := 160) hF dX8_readPermit_151 (by decide) ?_
    refine po_bipush (v := 46) hF dX8_readPermit_154 (by decide) ?_
    refine po_iload hF dX8_readPermit_156 rfl ?_
    refine po_imul hF dX8_readPermit_158 ?_
    refine po_iadd hF dX8_readPermit_159 ?_
    obtain ⟨x7, hx7, hm⟩ := po_bind hm
    refine po_callV (As := [.int (160 + (46 * l5))]) hF dX8_readPermit_160 wq_1335 mv_X8_putArea ws_X8_putArea (show po_cl[8]? = some _ from rfl) rfl kl0 (c_X8_putArea HL kl0 hx7) rfl (po_rtL hL rfl) (Nat.le_of_ble_eq_true rfl) rfl ?_
    refine po_aload_n hF dX8_readPermit_163 rfl rfl ?_
    refine po_iload hF dX8_readPermit_164 rfl ?_
    refine po_bipush (v := 25) hF dX8_readPermit_166 (by decide) ?_
    refine po_bipush (v := 20) hF dX8_readPermit_168 (by decide) ?_
    refine po_aload_n hF dX8_readPermit_170 rfl rfl ?_
    refine po_iload hF dX8_readPermit_171 rfl ?_
    obtain ⟨x8, hx8, hm⟩ := po_bind hm
    refine po_callV (As := [.int l5]) hF dX8_readPermit_173 wq_1368 mv_X8_floorArea ws_X8_floorArea (show po_cl[8]? = some _ from rfl) rfl kl0 (c_X8_floorArea HL kl0 hx8) rfl (po_rtL hL rfl) (Nat.le_of_ble_eq_true rfl) rfl ?_
    refine po_iadd hF dX8_readPermit_176 ?_
    obtain ⟨x9, hx9, hm⟩ := po_bind hm
    refine po_callV (As := [.int l5, .int 25, .int (20 + x8)]) hF dX8_readPermit_177 wq_1364 mv_X8_set ws_X8_set (show po_cl[8]? = some _ from rfl) rfl kl0 (c_X8_set HL kl0 hx9) rfl (po_rtL hL rfl) (Nat.le_of_ble_eq_true rfl) rfl ?_
    cases hm
    exact po_vret hF hL dX8_readPermit_180 (by decide) (by decide) rfl rfl rfl (Or.inl rfl)
  · refine po_aload_n hF dX8_readPermit_82 rfl rfl ?_
    refine po_iload hF dX8_readPermit_83 rfl ?_
    refine po_iload hF dX8_readPermit_85 rfl ?_
    refine po_iconst (v := 0) hF dX8_readPermit_87 (by decide) ?_
    obtain ⟨x10, hx10, hm⟩ := po_bind hm
    refine po_callV (As := [.int l5, .int l6, .int 0]) hF dX8_readPermit_88 wq_1364 mv_X8_set ws_X8_set (show po_cl[8]? = some _ from rfl) rfl kl0 (c_X8_set HL kl0 hx10) rfl (po_rtL hL rfl) (Nat.le_of_ble_eq_true rfl) rfl ?_
    refine po_iinc (v := l6 + 1) (L' := [(6, .int (l6 + 1)), (0, .ref l0), (1, .int l1), (2, .int l2), (3, .int l3), (4, .int l4), (5, .int l5)]) hF dX8_readPermit_91 rfl rfl (by decide) rfl ?_
    refine po_goto (tgt := 75) hF dX8_readPermit_94 (by decide) ?_
    refine po_sub (L' := [(0, .ref l0), (1, .int l1), (2, .int l2), (3, .int l3), (4, .int l4), (5, .int l5), (6, .int (l6 + 1))]) rfl ?_
    exact h75 x10 l0 l1 l2 l3 l4 l5 (l6 + 1) hm kl0
theorem w_X8_readPermit_75L {X : po_X} {G : po_G} {st : Nat → Nat} {K : po_K} {R : po_R} {ρ : po_I} (hF : po_F X G cX8_readPermit RX8 7 st) (hL : po_L X none 5 0 0 "readPermit") (HL : po_Lay K R st) : ∀ (n : Nat) (I : po_I) (l0 : Nat) (l1 : Int32) (l2 : Int32) (l3 : Int32) (l4 : Int32) (l5 : Int32) (l6 : Int32), m_X8_readPermit_75L n I l0 l1 l2 l3 l4 l5 l6 = some ρ → K l0 = (19, 19) → po_V X G 7 (po_Q X G (.inl (none)) K R (ρ) none 0 0) 0 0 75 [(0, .ref l0), (1, .int l1), (2, .int l2), (3, .int l3), (4, .int l4), (5, .int l5), (6, .int l6)] [] K R I none := by
  intro n
  induction n with
  | zero => intro I l0 l1 l2 l3 l4 l5 l6 hm; cases hm
  | succ n ih => intro I l0 l1 l2 l3 l4 l5 l6 hm kl0; exact w_X8_readPermit_75 hF hL HL (ih) I l0 l1 l2 l3 l4 l5 l6 kl0 hm
set_option maxRecDepth 20000 in
set_option maxHeartbeats 2000000 in
theorem w_X8_readPermit_e {X : po_X} {G : po_G} {st : Nat → Nat} {K : po_K} {R : po_R} {ρ : po_I} (hF : po_F X G cX8_readPermit RX8 7 st) (hL : po_L X none 5 0 0 "readPermit") (HL : po_Lay K R st) (I : po_I) (l0 : Nat) (kl0 : K l0 = (19, 19)) (hm : m_X8_readPermit_e I l0 = some ρ) : po_V X G 7 (po_Q X G (.inl (none)) K R (ρ) none 0 0) 0 0 0 [(0, .ref l0)] [] K R I none := by
  unfold m_X8_readPermit_e at hm
  refine po_aload_n hF dX8_readPermit_0 rfl rfl ?_
  refine po_aload_n hF dX8_readPermit_1 rfl rfl ?_
  refine po_getf (v := .ref (l0 + 1)) hF dX8_readPermit_2 fl_X8_13 kl0 (ly_8_1 HL kl0).1 ?_
  refine po_iconst (v := 1) hF dX8_readPermit_5 (by decide) ?_
  refine po_ialdC (j := 1) hF dX8_readPermit_6 ((ly_8_1 HL kl0).2) (Or.inl rfl) (by decide) (by decide) (by decide) ?_
  obtain ⟨x11, hx11, hm⟩ := po_bind hm
  refine po_callV (As := [.int (I (l0 + 1) 1)]) hF dX8_readPermit_7 wq_1359 mv_X8_which ws_X8_which (show po_cl[8]? = some _ from rfl) rfl kl0 (c_X8_which HL kl0 hx11) rfl (po_rtL hL rfl) (Nat.le_of_ble_eq_true rfl) rfl ?_
  refine po_top hm (fun v12 hm => ?_)
  refine po_istore_n (L' := [(1, .int v12), (0, .ref l0)]) hF dX8_readPermit_10 rfl (by decide) rfl ?_
  refine po_aload_n hF dX8_readPermit_11 rfl rfl ?_
  refine po_iconst (v := 0) hF dX8_readPermit_12 (by decide) ?_
  refine po_iconst (v := 5) hF dX8_readPermit_13 (by decide) ?_
  obtain ⟨x13, hx13, hm⟩ := po_bind hm
  refine po_callV (As := [.int 0, .int 5]) hF dX8_readPermit_14 wq_1312 mv_X8_digit ws_X8_digit (show po_cl[8]? = some _ from rfl) rfl kl0 (c_X8_digit HL kl0 hx13) rfl (po_rtL hL rfl) (Nat.le_of_ble_eq_true rfl) rfl ?_
  refine po_top hm (fun v14 hm => ?_)
  refine po_istore_n (L' := [(2, .int v14), (1, .int v12), (0, .ref l0)]) hF dX8_readPermit_17 rfl (by decide) rfl ?_
  refine po_aload_n hF dX8_readPermit_18 rfl rfl ?_
  refine po_iconst (v := 1) hF dX8_readPermit_19 (by decide) ?_
  refine po_bipush (v := 9) hF dX8_readPermit_20 (by decide) ?_
  obtain ⟨x15, hx15, hm⟩ := po_bind hm
  refine po_callV (As := [.int 1, .int 9]) hF dX8_readPermit_22 wq_1312 mv_X8_digit ws_X8_digit (show po_cl[8]? = some _ from rfl) rfl kl0 (c_X8_digit HL kl0 hx15) rfl (po_rtL hL rfl) (Nat.le_of_ble_eq_true rfl) rfl ?_
  refine po_top hm (fun v16 hm => ?_)
  refine po_istore_n (L' := [(3, .int v16), (2, .int v14), (1, .int v12), (0, .ref l0)]) hF dX8_readPermit_25 rfl (by decide) rfl ?_
  refine po_aload_n hF dX8_readPermit_26 rfl rfl ?_
  refine po_iconst (v := 0) hF dX8_readPermit_27 (by decide) ?_
  refine po_bipush (v := 9) hF dX8_readPermit_28 (by decide) ?_
  obtain ⟨x17, hx17, hm⟩ := po_bind hm
  refine po_callV (As := [.int 0, .int 9]) hF dX8_readPermit_30 wq_1312 mv_X8_digit ws_X8_digit (show po_cl[8]? = some _ from rfl) rfl kl0 (c_X8_digit HL kl0 hx17) rfl (po_rtL hL rfl) (Nat.le_of_ble_eq_true rfl) rfl ?_
  refine po_top hm (fun v18 hm => ?_)
  refine po_istore (L' := [(4, .int v18), (3, .int v16), (2, .int v14), (1, .int v12), (0, .ref l0)]) hF dX8_readPermit_33 (by decide) rfl ?_
  refine po_aload_n hF dX8_readPermit_35 rfl rfl ?_
  obtain ⟨x19, hx19, hm⟩ := po_bind hm
  refine po_callV (As := []) hF dX8_readPermit_36 wq_1324 mv_X8_readArea ws_X8_readArea (show po_cl[8]? = some _ from rfl) rfl kl0 (c_X8_readArea HL kl0 hx19) rfl (po_rtL hL rfl) (Nat.le_of_ble_eq_true rfl) rfl ?_
  refine po_aload_n hF dX8_readPermit_39 rfl rfl ?_
  refine po_bipush (v := 59) hF dX8_readPermit_40 (by decide) ?_
  obtain ⟨x20, hx20, hm⟩ := po_bind hm
  refine po_callV (As := [.int 59]) hF dX8_readPermit_42 wq_1331 mv_X8_must ws_X8_must (show po_cl[8]? = some _ from rfl) rfl kl0 (c_X8_must HL kl0 hx20) rfl (po_rtL hL rfl) (Nat.le_of_ble_eq_true rfl) rfl ?_
  refine po_aload_n hF dX8_readPermit_45 rfl rfl ?_
  refine po_getf (v := .int (x20 l0 15)) hF dX8_readPermit_46 fl_X8_29 kl0 rfl ?_
  refine po_iconst (v := (-1)) hF dX8_readPermit_49 (by decide) ?_
  refine po_icmp_eq (tgt := 54) hF dX8_readPermit_50 (by decide) hm (fun hm => ?_) (fun hm => ?_)
  · refine po_aload_n hF dX8_readPermit_54 rfl rfl ?_
    refine po_getf (v := .ref (l0 + 1)) hF dX8_readPermit_55 fl_X8_13 kl0 (ly_8_1 HL kl0).1 ?_
    refine po_iconst (v := 2) hF dX8_readPermit_58 (by decide) ?_
    refine po_ialdC (j := 2) hF dX8_readPermit_59 ((ly_8_1 HL kl0).2) (Or.inl rfl) (by decide) (by decide) (by decide) ?_
    refine po_top hm (fun v21 hm => ?_)
    refine po_istore (L' := [(5, .int v21), (4, .int v18), (3, .int v16), (2, .int v14), (1, .int v12), (0, .ref l0)]) hF dX8_readPermit_60 (by decide) rfl ?_
    refine po_aload_n hF dX8_readPermit_62 rfl rfl ?_
    refine po_getf (v := .ref (l0 + 1)) hF dX8_readPermit_63 fl_X8_13 kl0 (ly_8_1 HL kl0).1 ?_
    refine po_iconst (v := 2) hF dX8_readPermit_66 (by decide) ?_
    refine po_dup2 hF dX8_readPermit_67 rfl rfl ?_
    refine po_ialdC (j := 2) hF dX8_readPermit_68 ((ly_8_1 HL kl0).2) (Or.inl rfl) (by decide) (by decide) (by decide) ?_
    refine po_iconst (v := 1) hF dX8_readPermit_69 (by decide) ?_
    refine po_iadd hF dX8_readPermit_70 ?_
    refine po_iastC (j := 2) hF dX8_readPermit_71 ((ly_8_1 HL kl0).2) (by decide) (by decide) (by decide) rfl ?_
    refine po_hname hm (fun I22 hm => ?_)
    refine po_iconst (v := 0) hF dX8_readPermit_72 (by decide) ?_
    refine po_istore (L' := [(6, .int 0), (5, .int v21), (4, .int v18), (3, .int v16), (2, .int v14), (1, .int v12), (0, .ref l0)]) hF dX8_readPermit_73 (by decide) rfl ?_
    refine po_sub (L' := [(0, .ref l0), (1, .int v12), (2, .int v14), (3, .int v16), (4, .int v18), (5, .int v21), (6, .int 0)]) rfl ?_
    exact w_X8_readPermit_75L hF hL HL 5000 I22 l0 v12 v14 v16 v18 v21 0 hm kl0
  · cases hm
    exact po_vret hF hL dX8_readPermit_53 (by decide) (by decide) rfl rfl rfl (Or.inl rfl)
theorem c_X8_readPermit {K : po_K} {R : po_R} {I : po_I} {st : Nat → Nat} {ρ : po_I} (HL : po_Lay K R st) {l0 : Nat} (kl0 : K l0 = (19, 19)) (hm : m_X8_readPermit I l0 = some ρ) : po_C st yX8_readPermit cX8_readPermit 7 none 5 0 0 [.ref l0] K R I none (.inl (none)) K R (ρ) none := by
  refine po_ofC (by decide +kernel) (Nat.le_of_ble_eq_true rfl) (fun X G hF hL => ?_)
  exact w_X8_readPermit_e hF hL HL I l0 kl0 hm
set_option maxRecDepth 20000 in
set_option maxHeartbeats 2000000 in
theorem w_X8_number_89 {X : po_X} {G : po_G} {st : Nat → Nat} {K : po_K} {R : po_R} {ρ : Int32 × po_I} (hF : po_F X G cX8_number RX8 5 st) (hL : po_L X (some .int) 3 0 0 "number") (HL : po_Lay K R st) (I : po_I) (l4 : Int32) (hm : m_X8_number_89 I l4 = some ρ) : po_V X G 5 (po_Q X G (.inl (some (.int ρ.1))) K R (ρ.2) none 0 0) 0 0 89 [(4, .int l4)] [] K R I none := by
  unfold m_X8_number_89 at hm
  refine po_iload hF dX8_number_89 rfl ?_
  cases hm
  exact po_iret hF hL dX8_number_91 (by decide) (by decide) rfl rfl rfl (Or.inl rfl)
set_option maxRecDepth 20000 in
set_option maxHeartbeats 2000000 in
theorem w_X8_number_66 {X : po_X} {G : po_G} {st : Nat → Nat} {K : po_K} {R : po_R} {ρ : Int32 × po_I} (hF : po_F X G cX8_number RX8 5 st) (hL : po_L X (some .int) 3 0 0 "number") (HL : po_Lay K R st) (I : po_I) (l0 : Nat) (l1 : Int32) (l2 : Int32) (l3 : Int32) (l4 : Int32) (kl0 : K l0 = (19, 19)) (hm : m_X8_number_66 I l0 l1 l2 l3 l4 = some ρ) : po_V X G 5 (po_Q X G (.inl (some (.int ρ.1))) K R (ρ.2) none 0 0) 0 0 66 [(0, .ref l0), (1, .int l1), (2, .int l2), (3, .int l3), (4, .int l4)] [] K R I none := by
  unfold m_X8_number_66 at hm
  refine po_aload_n hF dX8_number_66 rfl rfl ?_
  refine po_getf (v := .int (I l0 15)) hF dX8_number_67 fl_X8_29 kl0 rfl ?_
  refine po_iconst (v := (-1)) hF dX8_number_70 (by decide) ?_
  refine po_icmp_ne (tgt := 89) hF dX8_number_71 (by decide) hm (fun hm => ?_) (fun hm => ?_)
  · refine po_sub (L' := [(4, .int l4)]) rfl ?_
    exact w_X8_number_89 hF hL HL I l4 hm
  · refine po_iload hF dX8_number_74 rfl ?_
    refine po_iload_n hF dX8_number_76 rfl rfl ?_
    refine po_iload_n hF dX8_number_77 rfl rfl ?_
    obtain ⟨x1, hx1, hm⟩ := po_bind hm
    refine po_callS (As := [.int l4, .int l1, .int l2]) hF dX8_number_78 wq_1282 mv_X8_isIn (c_X8_isIn HL hx1) rfl (po_rtL hL rfl) (Nat.le_of_ble_eq_true rfl) rfl ?_
    refine po_if_ne (tgt := 89) hF dX8_number_81 (by decide) hm (fun hm => ?_) (fun hm => ?_)
    · refine po_sub (L' := [(4, .int l4)]) rfl ?_
      exact w_X8_number_89 hF hL HL I l4 hm
    · refine po_aload_n hF dX8_number_84 rfl rfl ?_
      refine po_iload_n hF dX8_number_85 rfl rfl ?_
      obtain ⟨x2, hx2, hm⟩ := po_bind hm
      refine po_callV (As := [.int l3]) hF dX8_number_86 wq_1304 mv_X8_faultAt ws_X8_faultAt (show po_cl[8]? = some _ from rfl) rfl kl0 (c_X8_faultAt HL kl0 hx2) rfl (po_rtL hL rfl) (Nat.le_of_ble_eq_true rfl) rfl ?_
      refine po_sub (L' := [(4, .int l4)]) rfl ?_
      exact w_X8_number_89 hF hL HL x2 l4 hm
set_option maxRecDepth 20000 in
set_option maxHeartbeats 2000000 in
theorem w_X8_number_e {X : po_X} {G : po_G} {st : Nat → Nat} {K : po_K} {R : po_R} {ρ : Int32 × po_I} (hF : po_F X G cX8_number RX8 5 st) (hL : po_L X (some .int) 3 0 0 "number") (HL : po_Lay K R st) (I : po_I) (l0 : Nat) (l1 : Int32) (l2 : Int32) (kl0 : K l0 = (19, 19)) (hm : m_X8_number_e I l0 l1 l2 = some ρ) : po_V X G 5 (po_Q X G (.inl (some (.int ρ.1))) K R (ρ.2) none 0 0) 0 0 0 [(0, .ref l0), (1, .int l1), (2, .int l2)] [] K R I none := by
  unfold m_X8_number_e at hm
  refine po_aload_n hF dX8_number_0 rfl rfl ?_
  refine po_getf (v := .int (I l0 14)) hF dX8_number_1 fl_X8_166 kl0 rfl ?_
  refine po_top hm (fun v3 hm => ?_)
  refine po_istore_n (L' := [(3, .int v3), (0, .ref l0), (1, .int l1), (2, .int l2)]) hF dX8_number_4 rfl (by decide) rfl ?_
  refine po_aload_n hF dX8_number_5 rfl rfl ?_
  refine po_iconst (v := 0) hF dX8_number_6 (by decide) ?_
  refine po_bipush (v := 9) hF dX8_number_7 (by decide) ?_
  obtain ⟨x4, hx4, hm⟩ := po_bind hm
  refine po_callV (As := [.int 0, .int 9]) hF dX8_number_9 wq_1312 mv_X8_digit ws_X8_digit (show po_cl[8]? = some _ from rfl) rfl kl0 (c_X8_digit HL kl0 hx4) rfl (po_rtL hL rfl) (Nat.le_of_ble_eq_true rfl) rfl ?_
  refine po_top hm (fun v5 hm => ?_)
  refine po_istore (L' := [(4, .int v5), (3, .int v3), (0, .ref l0), (1, .int l1), (2, .int l2)]) hF dX8_number_12 (by decide) rfl ?_
  refine po_aload_n hF dX8_number_14 rfl rfl ?_
  refine po_getf (v := .int ((x4.2) l0 15)) hF dX8_number_15 fl_X8_29 kl0 rfl ?_
  refine po_iconst (v := (-1)) hF dX8_number_18 (by decide) ?_
  refine po_icmp_ne (tgt := 66) hF dX8_number_19 (by decide) hm (fun hm => ?_) (fun hm => ?_)
  · refine po_sub (L' := [(0, .ref l0), (1, .int l1), (2, .int l2), (3, .int v3), (4, .int v5)]) rfl ?_
    exact w_X8_number_66 hF hL HL (x4.2) l0 l1 l2 v3 v5 kl0 hm
  · refine po_iload hF dX8_number_22 rfl ?_
    refine po_if_le (tgt := 66) hF dX8_number_24 (by decide) hm (fun hm => ?_) (fun hm => ?_)
    · refine po_sub (L' := [(0, .ref l0), (1, .int l1), (2, .int l2), (3, .int v3), (4, .int v5)]) rfl ?_
      exact w_X8_number_66 hF hL HL (x4.2) l0 l1 l2 v3 v5 kl0 hm
    · refine po_aload_n hF dX8_number_27 rfl rfl ?_
      obtain ⟨x6, hx6, hm⟩ := po_bind hm
      refine po_callV (As := []) hF dX8_number_28 wq_1300 mv_X8_sign ws_X8_sign (show po_cl[8]? = some _ from rfl) rfl kl0 (c_X8_sign HL kl0 hx6) rfl (po_rtL hL rfl) (Nat.le_of_ble_eq_true rfl) rfl ?_
      refine po_bipush (v := 48) hF dX8_number_31 (by decide) ?_
      refine po_bipush (v := 57) hF dX8_number_33 (by decide) ?_
      obtain ⟨x7, hx7, hm⟩ := po_bind hm
      refine po_callS (As := [.int x6, .int 48, .int 57]) hF dX8_number_35 wq_1282 mv_X8_isIn (c_X8_isIn HL hx7) rfl (po_rtL hL rfl) (Nat.le_of_ble_eq_true rfl) rfl ?_
      refine po_if_eq (tgt := 66) hF dX8_number_38 (by decide) hm (fun hm => ?_) (fun hm => ?_)
      · refine po_sub (L' := [(0, .ref l0), (1, .int l1), (2, .int l2), (3, .int v3), (4, .int v5)]) rfl ?_
        exact w_X8_number_66 hF hL HL (x4.2) l0 l1 l2 v3 v5 kl0 hm
      · refine po_bipush (v := 10) hF dX8_number_41 (by decide) ?_
        refine po_iload hF dX8_number_43 rfl ?_
        refine po_imul hF dX8_number_45 ?_
        refine po_aload_n hF dX8_number_46 rfl rfl ?_
        obtain ⟨x8, hx8, hm⟩ := po_bind hm
        refine po_callV (As := []) hF dX8_number_47 wq_1300 mv_X8_sign ws_X8_sign (show po_cl[8]? = some _ from rfl) rfl kl0 (c_X8_sign HL kl0 hx8) rfl (po_rtL hL rfl) (Nat.le_of_ble_eq_true rfl) rfl ?_
        refine po_iadd hF dX8_number_50 ?_
        refine po_bipush (v := 48) hF dX8_number_51 (by decide) ?_
        refine po_isub hF dX8_number_53 ?_
        refine po_top hm (fun v9 hm => ?_)
        refine po_istore (L' := [(4, .int v9), (3, .int v3), (0, .ref l0), (1, .int l1), (2, .int l2)]) hF dX8_number_54 (by decide) rfl ?_
        refine po_aload_n hF dX8_number_56 rfl rfl ?_
        refine po_dup hF dX8_number_57 rfl ?_
        refine po_getf (v := .int ((x4.2) l0 14)) hF dX8_number_58 fl_X8_166 kl0 rfl ?_
        refine po_iconst (v := 1) hF dX8_number_61 (by decide) ?_
        refine po_iadd hF dX8_number_62 ?_
        refine po_puti hF dX8_number_63 fl_X8_166 kl0 (by intro r h; cases h; rfl) rfl rfl (fun _ => rfl) rfl ?_
        refine po_hname hm (fun I10 hm => ?_)
        refine po_sub (L' := [(0, .ref l0), (1, .int l1), (2, .int l2), (3, .int v3), (4, .int v9)]) rfl ?_
        exact w_X8_number_66 hF hL HL I10 l0 l1 l2 v3 v9 kl0 hm
theorem c_X8_number {K : po_K} {R : po_R} {I : po_I} {st : Nat → Nat} {ρ : Int32 × po_I} (HL : po_Lay K R st) {l0 : Nat} {l1 : Int32} {l2 : Int32} (kl0 : K l0 = (19, 19)) (hm : m_X8_number I l0 l1 l2 = some ρ) : po_C st yX8_number cX8_number 5 (some .int) 3 0 0 [.ref l0, .int l1, .int l2] K R I none (.inl (some (.int ρ.1))) K R (ρ.2) none := by
  refine po_ofC (by decide +kernel) (Nat.le_of_ble_eq_true rfl) (fun X G hF hL => ?_)
  exact w_X8_number_e hF hL HL I l0 l1 l2 kl0 hm
