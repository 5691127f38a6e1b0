/-! THE LAW'S OWN METHODS -/
theorem wk_1 (e : String) : wk e (.inr e) = 1 := if_pos rfl
theorem wk_2 {e1 e2 : String} (h : e2 ≠ e1) : wk e1 (.inr e2) = 2 := if_neg h
theorem w_append {K : po_K} {R : po_R} {I : po_I} {st : Nat → Nat} {o q : Nat} {a1 : Int32} {w : Int32 ⊕ String} {I1 : po_I} (HL : po_Lay K R st) (ko : K o = (18, 8)) (kq : K q = (5, 1)) (hm : m_X7_append I o a1 = some (w, I1)) (hE : ∀ E, w = .inr E → E = sIA ∨ E = sIS) : po_CW st yL_append cL_append 4 [(0, 9, 12, 13), (0, 9, 15, 15)] 7 1 6 [.ref o, .int a1, .ref q] K R I (wk sIA w) (wR R q w) I1 := by
  refine po_ofCW (by decide +kernel) (Nat.le_of_ble_eq_true rfl) (fun X G hF hL => ?_)
  refine po_aload_n hF dL_append_0 rfl rfl ?_
  refine po_iconst (v := 0) hF dL_append_1 (by decide) ?_
  refine po_aload_n hF dL_append_2 rfl rfl ?_
  refine po_iload_n hF dL_append_3 rfl rfl ?_
  refine po_callVo (As := [.int a1]) (S := [.int 0, .ref q]) (c := 7) (o := po_oi w) (K' := K) (R' := R) (I' := I1) (z' := none) hF dL_append_4 wq_450 mv_X7_append ws_X7_append rfl rfl ko (c_X7_append HL ko hm) rfl (po_rtW hL rfl) (Nat.le_of_ble_eq_true rfl) rfl (fun v hv => ?_) (fun E hE1 => ?_)
  · obtain ⟨x, rfl, rfl⟩ := po_oi_l hv
    refine po_i2l hF dL_append_7 ?_
    refine po_last (R' := po_u R q 0 (.long x.toInt64)) hF dL_append_8 kq (by decide) (by rw [show (0 : Int32).toNatClampNeg = 0 by decide]) ?_
    refine po_goto (tgt := 18) hF dL_append_9 (by decide) ?_
    refine po_iconst (v := 0) hF dL_append_18 (by decide) ?_
    exact po_iretW hF hL dL_append_19 (Nat.le_of_ble_eq_true rfl) (Nat.le_of_ble_eq_true rfl) rfl rfl rfl
  · obtain rfl := po_oi_r hE1
    rcases hE E rfl with rfl | rfl
    · skip
      refine po_catch (nm := sIA) (tgt := 12) hF hL.2.2.2 [] ⟨0, 9, 12, 13⟩ [⟨0, 9, 15, 15⟩] rfl (fun w hw => absurd hw List.not_mem_nil) (by decide) (by decide) wq_448 wn_367 rfl (fun r => ?_)
      refine po_astore_n hF dL_append_12 rfl (by decide) rfl ?_
      refine po_iconst (v := 1) hF dL_append_13 (by decide) ?_
      exact po_iretW hF hL dL_append_14 (Nat.le_of_ble_eq_true rfl) (Nat.le_of_ble_eq_true rfl) (wk_1 _).symm rfl rfl
    · skip
      refine po_catch (nm := sIS) (tgt := 15) hF hL.2.2.2 [⟨0, 9, 12, 13⟩] ⟨0, 9, 15, 15⟩ [] rfl (fun w hw => by
        rcases List.mem_singleton.mp hw with rfl
        exact ⟨by decide, sIA, wq_448, by decide +kernel⟩) (by decide) (by decide) wq_449 wn_438 rfl (fun r => ?_)
      refine po_astore_n hF dL_append_15 rfl (by decide) rfl ?_
      refine po_iconst (v := 2) hF dL_append_16 (by decide) ?_
      exact po_iretW hF hL dL_append_17 (Nat.le_of_ble_eq_true rfl) (Nat.le_of_ble_eq_true rfl) (wk_2 (by decide +kernel)).symm rfl rfl
theorem w_execute {K : po_K} {R : po_R} {I : po_I} {st : Nat → Nat} {o q : Nat} {w : Int32 ⊕ String} {I1 : po_I} {R1 : po_R} (HL : po_Lay K R st) (ko : K o = (18, 8)) (kq : K q = (5, 1)) (hm : m_X7_execute st I R o = some (w, I1, R1)) (hE : ∀ E, w = .inr E → E = sIA) : po_CW st yL_execute cL_execute 3 [(0, 8, 11, 13)] 8 1 6 [.ref o, .ref q] K R I (wk sIA w) (wR R1 q w) I1 := by
  refine po_ofCW (by decide +kernel) (Nat.le_of_ble_eq_true rfl) (fun X G hF hL => ?_)
  refine po_aload_n hF dL_execute_0 rfl rfl ?_
  refine po_iconst (v := 0) hF dL_execute_1 (by decide) ?_
  refine po_aload_n hF dL_execute_2 rfl rfl ?_
  refine po_callVo (As := []) (S := [.int 0, .ref q]) (c := 7) (o := po_oi w) (K' := K) (R' := R1) (I' := I1) (z' := none) hF dL_execute_3 wq_548 mv_X7_execute ws_X7_execute rfl rfl ko (c_X7_execute HL ko hm) rfl (po_rtW hL rfl) (Nat.le_of_ble_eq_true rfl) rfl (fun v hv => ?_) (fun E hE1 => ?_)
  · obtain ⟨x, rfl, rfl⟩ := po_oi_l hv
    refine po_i2l hF dL_execute_6 ?_
    refine po_last (R' := po_u R1 q 0 (.long x.toInt64)) hF dL_execute_7 kq (by decide) (by rw [show (0 : Int32).toNatClampNeg = 0 by decide]) ?_
    refine po_goto (tgt := 14) hF dL_execute_8 (by decide) ?_
    refine po_iconst (v := 0) hF dL_execute_14 (by decide) ?_
    exact po_iretW hF hL dL_execute_15 (Nat.le_of_ble_eq_true rfl) (Nat.le_of_ble_eq_true rfl) rfl rfl rfl
  · obtain rfl := po_oi_r hE1
    obtain rfl := hE E rfl
    refine po_catch (nm := sIA) (tgt := 11) hF hL.2.2.2 [] ⟨0, 8, 11, 13⟩ [] rfl (fun w hw => absurd hw List.not_mem_nil) (by decide) (by decide) wq_448 wn_367 rfl (fun r => ?_)
    refine po_astore_n hF dL_execute_11 rfl (by decide) rfl ?_
    refine po_iconst (v := 1) hF dL_execute_12 (by decide) ?_
    exact po_iretW hF hL dL_execute_13 (Nat.le_of_ble_eq_true rfl) (Nat.le_of_ble_eq_true rfl) (wk_1 _).symm rfl rfl
theorem w_rule {K : po_K} {R : po_R} {I : po_I} {st : Nat → Nat} {o q : Nat} {a1 a2 : Int32} {w : Int32 ⊕ String} (HL : po_Lay K R st) (ko : K o = (18, 8)) (kq : K q = (5, 1)) (hm : m_X7_rule I o a1 a2 = some w) (hE : ∀ E, w = .inr E → E = sIO ∨ E = sIA) : po_CW st yL_rule cL_rule 5 [(0, 10, 13, 25), (0, 10, 17, 13)] 7 1 6 [.ref o, .int a1, .int a2, .ref q] K R I (wk sIO w) (wR R q w) I := by
  refine po_ofCW (by decide +kernel) (Nat.le_of_ble_eq_true rfl) (fun X G hF hL => ?_)
  refine po_aload_n hF dL_rule_0 rfl rfl ?_
  refine po_iconst (v := 0) hF dL_rule_1 (by decide) ?_
  refine po_aload_n hF dL_rule_2 rfl rfl ?_
  refine po_iload_n hF dL_rule_3 rfl rfl ?_
  refine po_iload_n hF dL_rule_4 rfl rfl ?_
  refine po_callVo (As := [.int a1, .int a2]) (S := [.int 0, .ref q]) (c := 7) (o := po_oi w) (K' := K) (R' := R) (I' := I) (z' := none) hF dL_rule_5 wq_696 mv_X7_rule ws_X7_rule rfl rfl ko (c_X7_rule HL ko hm) rfl (po_rtW hL rfl) (Nat.le_of_ble_eq_true rfl) rfl (fun v hv => ?_) (fun E hE1 => ?_)
  · obtain ⟨x, rfl, rfl⟩ := po_oi_l hv
    refine po_i2l hF dL_rule_8 ?_
    refine po_last (R' := po_u R q 0 (.long x.toInt64)) hF dL_rule_9 kq (by decide) (by rw [show (0 : Int32).toNatClampNeg = 0 by decide]) ?_
    refine po_goto (tgt := 21) hF dL_rule_10 (by decide) ?_
    refine po_iconst (v := 0) hF dL_rule_21 (by decide) ?_
    exact po_iretW hF hL dL_rule_22 (Nat.le_of_ble_eq_true rfl) (Nat.le_of_ble_eq_true rfl) rfl rfl rfl
  · obtain rfl := po_oi_r hE1
    rcases hE E rfl with rfl | rfl
    · skip
      refine po_catch (nm := sIO) (tgt := 13) hF hL.2.2.2 [] ⟨0, 10, 13, 25⟩ [⟨0, 10, 17, 13⟩] rfl (fun w hw => absurd hw List.not_mem_nil) (by decide) (by decide) wq_672 wn_613 rfl (fun r => ?_)
      refine po_astore hF dL_rule_13 (by decide) rfl ?_
      refine po_iconst (v := 1) hF dL_rule_15 (by decide) ?_
      exact po_iretW hF hL dL_rule_16 (Nat.le_of_ble_eq_true rfl) (Nat.le_of_ble_eq_true rfl) (wk_1 _).symm rfl rfl
    · skip
      refine po_catch (nm := sIA) (tgt := 17) hF hL.2.2.2 [⟨0, 10, 13, 25⟩] ⟨0, 10, 17, 13⟩ [] rfl (fun w hw => by
        rcases List.mem_singleton.mp hw with rfl
        exact ⟨by decide, sIO, wq_672, by decide +kernel⟩) (by decide) (by decide) wq_448 wn_367 rfl (fun r => ?_)
      refine po_astore hF dL_rule_17 (by decide) rfl ?_
      refine po_iconst (v := 2) hF dL_rule_19 (by decide) ?_
      exact po_iretW hF hL dL_rule_20 (Nat.le_of_ble_eq_true rfl) (Nat.le_of_ble_eq_true rfl) (wk_2 (by decide +kernel)).symm rfl rfl
theorem w_lot {K : po_K} {R : po_R} {I : po_I} {st : Nat → Nat} {o q : Nat} {a1 a2 : Int32} {w : Int32 ⊕ String} {I1 : po_I} (HL : po_Lay K R st) (ko : K o = (18, 8)) (kq : K q = (5, 1)) (hm : m_X7_lot I o a1 a2 = some (w, I1)) (hE : ∀ E, w = .inr E → E = sIO ∨ E = sIA) : po_CW st yL_lot cL_lot 5 [(0, 10, 13, 25), (0, 10, 17, 13)] 8 2 12 [.ref o, .int a1, .int a2, .ref q] K R I (wk sIO w) (wR R q w) I1 := by
  refine po_ofCW (by decide +kernel) (Nat.le_of_ble_eq_true rfl) (fun X G hF hL => ?_)
  refine po_aload_n hF dL_lot_0 rfl rfl ?_
  refine po_iconst (v := 0) hF dL_lot_1 (by decide) ?_
  refine po_aload_n hF dL_lot_2 rfl rfl ?_
  refine po_iload_n hF dL_lot_3 rfl rfl ?_
  refine po_iload_n hF dL_lot_4 rfl rfl ?_
  refine po_callVo (As := [.int a1, .int a2]) (S := [.int 0, .ref q]) (c := 7) (o := po_oi w) (K' := K) (R' := R) (I' := I1) (z' := none) hF dL_lot_5 wq_721 mv_X7_lot ws_X7_lot rfl rfl ko (c_X7_lot HL ko hm) rfl (po_rtW hL rfl) (Nat.le_of_ble_eq_true rfl) rfl (fun v hv => ?_) (fun E hE1 => ?_)
  · obtain ⟨x, rfl, rfl⟩ := po_oi_l hv
    refine po_i2l hF dL_lot_8 ?_
    refine po_last (R' := po_u R q 0 (.long x.toInt64)) hF dL_lot_9 kq (by decide) (by rw [show (0 : Int32).toNatClampNeg = 0 by decide]) ?_
    refine po_goto (tgt := 21) hF dL_lot_10 (by decide) ?_
    refine po_iconst (v := 0) hF dL_lot_21 (by decide) ?_
    exact po_iretW hF hL dL_lot_22 (Nat.le_of_ble_eq_true rfl) (Nat.le_of_ble_eq_true rfl) rfl rfl rfl
  · obtain rfl := po_oi_r hE1
    rcases hE E rfl with rfl | rfl
    · skip
      refine po_catch (nm := sIO) (tgt := 13) hF hL.2.2.2 [] ⟨0, 10, 13, 25⟩ [⟨0, 10, 17, 13⟩] rfl (fun w hw => absurd hw List.not_mem_nil) (by decide) (by decide) wq_672 wn_613 rfl (fun r => ?_)
      refine po_astore hF dL_lot_13 (by decide) rfl ?_
      refine po_iconst (v := 1) hF dL_lot_15 (by decide) ?_
      exact po_iretW hF hL dL_lot_16 (Nat.le_of_ble_eq_true rfl) (Nat.le_of_ble_eq_true rfl) (wk_1 _).symm rfl rfl
    · skip
      refine po_catch (nm := sIA) (tgt := 17) hF hL.2.2.2 [⟨0, 10, 13, 25⟩] ⟨0, 10, 17, 13⟩ [] rfl (fun w hw => by
        rcases List.mem_singleton.mp hw with rfl
        exact ⟨by decide, sIO, wq_672, by decide +kernel⟩) (by decide) (by decide) wq_448 wn_367 rfl (fun r => ?_)
      refine po_astore hF dL_lot_17 (by decide) rfl ?_
      refine po_iconst (v := 2) hF dL_lot_19 (by decide) ?_
      exact po_iretW hF hL dL_lot_20 (Nat.le_of_ble_eq_true rfl) (Nat.le_of_ble_eq_true rfl) (wk_2 (by decide +kernel)).symm rfl rfl
theorem w_rezone {K : po_K} {R : po_R} {I : po_I} {st : Nat → Nat} {o q : Nat} {a1 a2 : Int32} {w : Int32 ⊕ String} {I1 : po_I} {R1 : po_R} (HL : po_Lay K R st) (ko : K o = (18, 8)) (kq : K q = (5, 1)) (hm : m_X7_rezone I R o a1 a2 = some (w, I1, R1)) (hE : ∀ E, w = .inr E → E = sIO ∨ E = sIA) : po_CW st yL_rezone cL_rezone 5 [(0, 10, 13, 25), (0, 10, 17, 13)] 8 2 12 [.ref o, .int a1, .int a2, .ref q] K R I (wk sIO w) (wR R1 q w) I1 := by
  refine po_ofCW (by decide +kernel) (Nat.le_of_ble_eq_true rfl) (fun X G hF hL => ?_)
  refine po_aload_n hF dL_rezone_0 rfl rfl ?_
  refine po_iconst (v := 0) hF dL_rezone_1 (by decide) ?_
  refine po_aload_n hF dL_rezone_2 rfl rfl ?_
  refine po_iload_n hF dL_rezone_3 rfl rfl ?_
  refine po_iload_n hF dL_rezone_4 rfl rfl ?_
  refine po_callVo (As := [.int a1, .int a2]) (S := [.int 0, .ref q]) (c := 7) (o := po_oi w) (K' := K) (R' := R1) (I' := I1) (z' := none) hF dL_rezone_5 wq_772 mv_X7_rezone ws_X7_rezone rfl rfl ko (c_X7_rezone HL ko hm) rfl (po_rtW hL rfl) (Nat.le_of_ble_eq_true rfl) rfl (fun v hv => ?_) (fun E hE1 => ?_)
  · obtain ⟨x, rfl, rfl⟩ := po_oi_l hv
    refine po_i2l hF dL_rezone_8 ?_
    refine po_last (R' := po_u R1 q 0 (.long x.toInt64)) hF dL_rezone_9 kq (by decide) (by rw [show (0 : Int32).toNatClampNeg = 0 by decide]) ?_
    refine po_goto (tgt := 21) hF dL_rezone_10 (by decide) ?_
    refine po_iconst (v := 0) hF dL_rezone_21 (by decide) ?_
    exact po_iretW hF hL dL_rezone_22 (Nat.le_of_ble_eq_true rfl) (Nat.le_of_ble_eq_true rfl) rfl rfl rfl
  · obtain rfl := po_oi_r hE1
    rcases hE E rfl with rfl | rfl
    · skip
      refine po_catch (nm := sIO) (tgt := 13) hF hL.2.2.2 [] ⟨0, 10, 13, 25⟩ [⟨0, 10, 17, 13⟩] rfl (fun w hw => absurd hw List.not_mem_nil) (by decide) (by decide) wq_672 wn_613 rfl (fun r => ?_)
      refine po_astore hF dL_rezone_13 (by decide) rfl ?_
      refine po_iconst (v := 1) hF dL_rezone_15 (by decide) ?_
      exact po_iretW hF hL dL_rezone_16 (Nat.le_of_ble_eq_true rfl) (Nat.le_of_ble_eq_true rfl) (wk_1 _).symm rfl rfl
    · skip
      refine po_catch (nm := sIA) (tgt := 17) hF hL.2.2.2 [⟨0, 10, 13, 25⟩] ⟨0, 10, 17, 13⟩ [] rfl (fun w hw => by
        rcases List.mem_singleton.mp hw with rfl
        exact ⟨by decide, sIO, wq_672, by decide +kernel⟩) (by decide) (by decide) wq_448 wn_367 rfl (fun r => ?_)
      refine po_astore hF dL_rezone_17 (by decide) rfl ?_
      refine po_iconst (v := 2) hF dL_rezone_19 (by decide) ?_
      exact po_iretW hF hL dL_rezone_20 (Nat.le_of_ble_eq_true rfl) (Nat.le_of_ble_eq_true rfl) (wk_2 (by decide +kernel)).symm rfl rfl
theorem w_cell {K : po_K} {R : po_R} {I : po_I} {st : Nat → Nat} {o q : Nat} {a1 a2 a3 : Int32} {w : Int32 ⊕ String} {I1 : po_I} (HL : po_Lay K R st) (ko : K o = (18, 8)) (kq : K q = (5, 1)) (hm : m_X7_cell I o a1 a2 a3 = some (w, I1)) (hE : ∀ E, w = .inr E → E = sIO ∨ E = sIA) : po_CW st yL_cell cL_cell 6 [(0, 12, 15, 25), (0, 12, 19, 13)] 7 1 6 [.ref o, .int a1, .int a2, .int a3, .ref q] K R I (wk sIO w) (wR R q w) I1 := by
  refine po_ofCW (by decide +kernel) (Nat.le_of_ble_eq_true rfl) (fun X G hF hL => ?_)
  refine po_aload hF dL_cell_0 rfl ?_
  refine po_iconst (v := 0) hF dL_cell_2 (by decide) ?_
  refine po_aload_n hF dL_cell_3 rfl rfl ?_
  refine po_iload_n hF dL_cell_4 rfl rfl ?_
  refine po_iload_n hF dL_cell_5 rfl rfl ?_
  refine po_iload_n hF dL_cell_6 rfl rfl ?_
  refine po_callVo (As := [.int a1, .int a2, .int a3]) (S := [.int 0, .ref q]) (c := 7) (o := po_oi w) (K' := K) (R' := R) (I' := I1) (z' := none) hF dL_cell_7 wq_779 mv_X7_cell ws_X7_cell rfl rfl ko (c_X7_cell HL ko hm) rfl (po_rtW hL rfl) (Nat.le_of_ble_eq_true rfl) rfl (fun v hv => ?_) (fun E hE1 => ?_)
  · obtain ⟨x, rfl, rfl⟩ := po_oi_l hv
    refine po_i2l hF dL_cell_10 ?_
    refine po_last (R' := po_u R q 0 (.long x.toInt64)) hF dL_cell_11 kq (by decide) (by rw [show (0 : Int32).toNatClampNeg = 0 by decide]) ?_
    refine po_goto (tgt := 23) hF dL_cell_12 (by decide) ?_
    refine po_iconst (v := 0) hF dL_cell_23 (by decide) ?_
    exact po_iretW hF hL dL_cell_24 (Nat.le_of_ble_eq_true rfl) (Nat.le_of_ble_eq_true rfl) rfl rfl rfl
  · obtain rfl := po_oi_r hE1
    rcases hE E rfl with rfl | rfl
    · skip
      refine po_catch (nm := sIO) (tgt := 15) hF hL.2.2.2 [] ⟨0, 12, 15, 25⟩ [⟨0, 12, 19, 13⟩] rfl (fun w hw => absurd hw List.not_mem_nil) (by decide) (by decide) wq_672 wn_613 rfl (fun r => ?_)
      refine po_astore hF dL_cell_15 (by decide) rfl ?_
      refine po_iconst (v := 1) hF dL_cell_17 (by decide) ?_
      exact po_iretW hF hL dL_cell_18 (Nat.le_of_ble_eq_true rfl) (Nat.le_of_ble_eq_true rfl) (wk_1 _).symm rfl rfl
    · skip
      refine po_catch (nm := sIA) (tgt := 19) hF hL.2.2.2 [⟨0, 12, 15, 25⟩] ⟨0, 12, 19, 13⟩ [] rfl (fun w hw => by
        rcases List.mem_singleton.mp hw with rfl
        exact ⟨by decide, sIO, wq_672, by decide +kernel⟩) (by decide) (by decide) wq_448 wn_367 rfl (fun r => ?_)
      refine po_astore hF dL_cell_19 (by decide) rfl ?_
      refine po_iconst (v := 2) hF dL_cell_21 (by decide) ?_
      exact po_iretW hF hL dL_cell_22 (Nat.le_of_ble_eq_true rfl) (Nat.le_of_ble_eq_true rfl) (wk_2 (by decide +kernel)).symm rfl rfl
theorem w_largest {K : po_K} {R : po_R} {I : po_I} {st : Nat → Nat} {o q : Nat} {a1 : Int32} {w : Int32 ⊕ String} {I1 : po_I} (HL : po_Lay K R st) (ko : K o = (18, 8)) (kq : K q = (5, 1)) (hm : m_X7_largest I o a1 = some (w, I1)) (hE : ∀ E, w = .inr E → E = sIO) : po_CW st yL_largest cL_largest 4 [(0, 9, 12, 25)] 8 1 6 [.ref o, .int a1, .ref q] K R I (wk sIO w) (wR R q w) I1 := by
  refine po_ofCW (by decide +kernel) (Nat.le_of_ble_eq_true rfl) (fun X G hF hL => ?_)
  refine po_aload_n hF dL_largest_0 rfl rfl ?_
  refine po_iconst (v := 0) hF dL_largest_1 (by decide) ?_
  refine po_aload_n hF dL_largest_2 rfl rfl ?_
  refine po_iload_n hF dL_largest_3 rfl rfl ?_
  refine po_callVo (As := [.int a1]) (S := [.int 0, .ref q]) (c := 7) (o := po_oi w) (K' := K) (R' := R) (I' := I1) (z' := none) hF dL_largest_4 wq_820 mv_X7_largest ws_X7_largest rfl rfl ko (c_X7_largest HL ko hm) rfl (po_rtW hL rfl) (Nat.le_of_ble_eq_true rfl) rfl (fun v hv => ?_) (fun E hE1 => ?_)
  · obtain ⟨x, rfl, rfl⟩ := po_oi_l hv
    refine po_i2l hF dL_largest_7 ?_
    refine po_last (R' := po_u R q 0 (.long x.toInt64)) hF dL_largest_8 kq (by decide) (by rw [show (0 : Int32).toNatClampNeg = 0 by decide]) ?_
    refine po_goto (tgt := 15) hF dL_largest_9 (by decide) ?_
    refine po_iconst (v := 0) hF dL_largest_15 (by decide) ?_
    exact po_iretW hF hL dL_largest_16 (Nat.le_of_ble_eq_true rfl) (Nat.le_of_ble_eq_true rfl) rfl rfl rfl
  · obtain rfl := po_oi_r hE1
    obtain rfl := hE E rfl
    refine po_catch (nm := sIO) (tgt := 12) hF hL.2.2.2 [] ⟨0, 9, 12, 25⟩ [] rfl (fun w hw => absurd hw List.not_mem_nil) (by decide) (by decide) wq_672 wn_613 rfl (fun r => ?_)
    refine po_astore_n hF dL_largest_12 rfl (by decide) rfl ?_
    refine po_iconst (v := 1) hF dL_largest_13 (by decide) ?_
    exact po_iretW hF hL dL_largest_14 (Nat.le_of_ble_eq_true rfl) (Nat.le_of_ble_eq_true rfl) (wk_1 _).symm rfl rfl
theorem w_permit {K : po_K} {R : po_R} {I : po_I} {st : Nat → Nat} {o q : Nat} {a1 a2 : Int32} {w : Int32 ⊕ String} (HL : po_Lay K R st) (ko : K o = (18, 8)) (kq : K q = (5, 1)) (hm : m_X7_permit I o a1 a2 = some w) (hE : ∀ E, w = .inr E → E = sIO ∨ E = sIA) : po_CW st yL_permit cL_permit 5 [(0, 10, 13, 25), (0, 10, 17, 13)] 8 2 12 [.ref o, .int a1, .int a2, .ref q] K R I (wk sIO w) (wR R q w) I := by
  refine po_ofCW (by decide +kernel) (Nat.le_of_ble_eq_true rfl) (fun X G hF hL => ?_)
  refine po_aload_n hF dL_permit_0 rfl rfl ?_
  refine po_iconst (v := 0) hF dL_permit_1 (by decide) ?_
  refine po_aload_n hF dL_permit_2 rfl rfl ?_
  refine po_iload_n hF dL_permit_3 rfl rfl ?_
  refine po_iload_n hF dL_permit_4 rfl rfl ?_
  refine po_callVo (As := [.int a1, .int a2]) (S := [.int 0, .ref q]) (c := 7) (o := po_oi w) (K' := K) (R' := R) (I' := I) (z' := none) hF dL_permit_5 wq_855 mv_X7_permit ws_X7_permit rfl rfl ko (c_X7_permit HL ko hm) rfl (po_rtW hL rfl) (Nat.le_of_ble_eq_true rfl) rfl (fun v hv => ?_) (fun E hE1 => ?_)
  · obtain ⟨x, rfl, rfl⟩ := po_oi_l hv
    refine po_i2l hF dL_permit_8 ?_
    refine po_last (R' := po_u R q 0 (.long x.toInt64)) hF dL_permit_9 kq (by decide) (by rw [show (0 : Int32).toNatClampNeg = 0 by decide]) ?_
    refine po_goto (tgt := 21) hF dL_permit_10 (by decide) ?_
    refine po_iconst (v := 0) hF dL_permit_21 (by decide) ?_
    exact po_iretW hF hL dL_permit_22 (Nat.le_of_ble_eq_true rfl) (Nat.le_of_ble_eq_true rfl) rfl rfl rfl
  · obtain rfl := po_oi_r hE1
    rcases hE E rfl with rfl | rfl
    · skip
      refine po_catch (nm := sIO) (tgt := 13) hF hL.2.2.2 [] ⟨0, 10, 13, 25⟩ [⟨0, 10, 17, 13⟩] rfl (fun w hw => absurd hw List.not_mem_nil) (by decide) (by decide) wq_672 wn_613 rfl (fun r => ?_)
      refine po_astore hF dL_permit_13 (by decide) rfl ?_
      refine po_iconst (v := 1) hF dL_permit_15 (by decide) ?_
      exact po_iretW hF hL dL_permit_16 (Nat.le_of_ble_eq_true rfl) (Nat.le_of_ble_eq_true rfl) (wk_1 _).symm rfl rfl
    · skip
      refine po_catch (nm := sIA) (tgt := 17) hF hL.2.2.2 [⟨0, 10, 13, 25⟩] ⟨0, 10, 17, 13⟩ [] rfl (fun w hw => by
        rcases List.mem_singleton.mp hw with rfl
        exact ⟨by decide, sIO, wq_672, by decide +kernel⟩) (by decide) (by decide) wq_448 wn_367 rfl (fun r => ?_)
      refine po_astore hF dL_permit_17 (by decide) rfl ?_
      refine po_iconst (v := 2) hF dL_permit_19 (by decide) ?_
      exact po_iretW hF hL dL_permit_20 (Nat.le_of_ble_eq_true rfl) (Nat.le_of_ble_eq_true rfl) (wk_2 (by decide +kernel)).symm rfl rfl
theorem w_findings {K : po_K} {R : po_R} {I : po_I} {st : Nat → Nat} {o q : Nat} {a1 a2 : Int32} {w : Int32 ⊕ String} {I1 : po_I} (HL : po_Lay K R st) (ko : K o = (18, 8)) (kq : K q = (5, 1)) (hm : m_X7_findings I o a1 a2 = some (w, I1)) (hE : ∀ E, w = .inr E → E = sIO) : po_CW st yL_findings cL_findings 5 [(0, 10, 13, 25)] 8 1 6 [.ref o, .int a1, .int a2, .ref q] K R I (wk sIO w) (wR R q w) I1 := by
  refine po_ofCW (by decide +kernel) (Nat.le_of_ble_eq_true rfl) (fun X G hF hL => ?_)
  refine po_aload_n hF dL_findings_0 rfl rfl ?_
  refine po_iconst (v := 0) hF dL_findings_1 (by decide) ?_
  refine po_aload_n hF dL_findings_2 rfl rfl ?_
  refine po_iload_n hF dL_findings_3 rfl rfl ?_
  refine po_iload_n hF dL_findings_4 rfl rfl ?_
  refine po_callVo (As := [.int a1, .int a2]) (S := [.int 0, .ref q]) (c := 7) (o := po_oi w) (K' := K) (R' := R) (I' := I1) (z' := none) hF dL_findings_5 wq_874 mv_X7_findings ws_X7_findings rfl rfl ko (c_X7_findings HL ko hm) rfl (po_rtW hL rfl) (Nat.le_of_ble_eq_true rfl) rfl (fun v hv => ?_) (fun E hE1 => ?_)
  · obtain ⟨x, rfl, rfl⟩ := po_oi_l hv
    refine po_i2l hF dL_findings_8 ?_
    refine po_last (R' := po_u R q 0 (.long x.toInt64)) hF dL_findings_9 kq (by decide) (by rw [show (0 : Int32).toNatClampNeg = 0 by decide]) ?_
    refine po_goto (tgt := 17) hF dL_findings_10 (by decide) ?_
    refine po_iconst (v := 0) hF dL_findings_17 (by decide) ?_
    exact po_iretW hF hL dL_findings_18 (Nat.le_of_ble_eq_true rfl) (Nat.le_of_ble_eq_true rfl) rfl rfl rfl
  · obtain rfl := po_oi_r hE1
    obtain rfl := hE E rfl
    refine po_catch (nm := sIO) (tgt := 13) hF hL.2.2.2 [] ⟨0, 10, 13, 25⟩ [] rfl (fun w hw => absurd hw List.not_mem_nil) (by decide) (by decide) wq_672 wn_613 rfl (fun r => ?_)
    refine po_astore hF dL_findings_13 (by decide) rfl ?_
    refine po_iconst (v := 1) hF dL_findings_15 (by decide) ?_
    exact po_iretW hF hL dL_findings_16 (Nat.le_of_ble_eq_true rfl) (Nat.le_of_ble_eq_true rfl) (wk_1 _).symm rfl rfl
theorem w_finding {K : po_K} {R : po_R} {I : po_I} {st : Nat → Nat} {o q : Nat} {a1 a2 a3 : Int32} {w : Int32 ⊕ String} {I1 : po_I} (HL : po_Lay K R st) (ko : K o = (18, 8)) (kq : K q = (5, 1)) (hm : m_X7_finding I o a1 a2 a3 = some (w, I1)) (hE : ∀ E, w = .inr E → E = sIO ∨ E = sIA) : po_CW st yL_finding cL_finding 6 [(0, 12, 15, 25), (0, 12, 19, 13)] 8 2 12 [.ref o, .int a1, .int a2, .int a3, .ref q] K R I (wk sIO w) (wR R q w) I1 := by
  refine po_ofCW (by decide +kernel) (Nat.le_of_ble_eq_true rfl) (fun X G hF hL => ?_)
  refine po_aload hF dL_finding_0 rfl ?_
  refine po_iconst (v := 0) hF dL_finding_2 (by decide) ?_
  refine po_aload_n hF dL_finding_3 rfl rfl ?_
  refine po_iload_n hF dL_finding_4 rfl rfl ?_
  refine po_iload_n hF dL_finding_5 rfl rfl ?_
  refine po_iload_n hF dL_finding_6 rfl rfl ?_
  refine po_callVo (As := [.int a1, .int a2, .int a3]) (S := [.int 0, .ref q]) (c := 7) (o := po_oi w) (K' := K) (R' := R) (I' := I1) (z' := none) hF dL_finding_7 wq_942 mv_X7_finding ws_X7_finding rfl rfl ko (c_X7_finding HL ko hm) rfl (po_rtW hL rfl) (Nat.le_of_ble_eq_true rfl) rfl (fun v hv => ?_) (fun E hE1 => ?_)
  · obtain ⟨x, rfl, rfl⟩ := po_oi_l hv
    refine po_i2l hF dL_finding_10 ?_
    refine po_last (R' := po_u R q 0 (.long x.toInt64)) hF dL_finding_11 kq (by decide) (by rw [show (0 : Int32).toNatClampNeg = 0 by decide]) ?_
    refine po_goto (tgt := 23) hF dL_finding_12 (by decide) ?_
    refine po_iconst (v := 0) hF dL_finding_23 (by decide) ?_
    exact po_iretW hF hL dL_finding_24 (Nat.le_of_ble_eq_true rfl) (Nat.le_of_ble_eq_true rfl) rfl rfl rfl
  · obtain rfl := po_oi_r hE1
    rcases hE E rfl with rfl | rfl
    · skip
      refine po_catch (nm := sIO) (tgt := 15) hF hL.2.2.2 [] ⟨0, 12, 15, 25⟩ [⟨0, 12, 19, 13⟩] rfl (fun w hw => absurd hw List.not_mem_nil) (by decide) (by decide) wq_672 wn_613 rfl (fun r => ?_)
      refine po_astore hF dL_finding_15 (by decide) rfl ?_
      refine po_iconst (v := 1) hF dL_finding_17 (by decide) ?_
      exact po_iretW hF hL dL_finding_18 (Nat.le_of_ble_eq_true rfl) (Nat.le_of_ble_eq_true rfl) (wk_1 _).symm rfl rfl
    · skip
      refine po_catch (nm := sIA) (tgt := 19) hF hL.2.2.2 [⟨0, 12, 15, 25⟩] ⟨0, 12, 19, 13⟩ [] rfl (fun w hw => by
        rcases List.mem_singleton.mp hw with rfl
        exact ⟨by decide, sIO, wq_672, by decide +kernel⟩) (by decide) (by decide) wq_448 wn_367 rfl (fun r => ?_)
      refine po_astore hF dL_finding_19 (by decide) rfl ?_
      refine po_iconst (v := 2) hF dL_finding_21 (by decide) ?_
      exact po_iretW hF hL dL_finding_22 (Nat.le_of_ble_eq_true rfl) (Nat.le_of_ble_eq_true rfl) (wk_2 (by decide +kernel)).symm rfl rfl
theorem w_worst {K : po_K} {R : po_R} {I : po_I} {st : Nat → Nat} {o q : Nat} {w : Int32 ⊕ String} {I1 : po_I} (HL : po_Lay K R st) (ko : K o = (18, 8)) (kq : K q = (5, 1)) (hm : m_X7_worst I o = some (w, I1)) (hE : ∀ E, w = .inr E → E = sNS) : po_CW st yL_worst cL_worst 3 [(0, 8, 11, 53)] 8 1 6 [.ref o, .ref q] K R I (wk sNS w) (wR R q w) I1 := by
  refine po_ofCW (by decide +kernel) (Nat.le_of_ble_eq_true rfl) (fun X G hF hL => ?_)
  refine po_aload_n hF dL_worst_0 rfl rfl ?_
  refine po_iconst (v := 0) hF dL_worst_1 (by decide) ?_
  refine po_aload_n hF dL_worst_2 rfl rfl ?_
  refine po_callVo (As := []) (S := [.int 0, .ref q]) (c := 7) (o := po_oi w) (K' := K) (R' := R) (I' := I1) (z' := none) hF dL_worst_3 wq_955 mv_X7_worst ws_X7_worst rfl rfl ko (c_X7_worst HL ko hm) rfl (po_rtW hL rfl) (Nat.le_of_ble_eq_true rfl) rfl (fun v hv => ?_) (fun E hE1 => ?_)
  · obtain ⟨x, rfl, rfl⟩ := po_oi_l hv
    refine po_i2l hF dL_worst_6 ?_
    refine po_last (R' := po_u R q 0 (.long x.toInt64)) hF dL_worst_7 kq (by decide) (by rw [show (0 : Int32).toNatClampNeg = 0 by decide]) ?_
    refine po_goto (tgt := 14) hF dL_worst_8 (by decide) ?_
    refine po_iconst (v := 0) hF dL_worst_14 (by decide) ?_
    exact po_iretW hF hL dL_worst_15 (Nat.le_of_ble_eq_true rfl) (Nat.le_of_ble_eq_true rfl) rfl rfl rfl
  · obtain rfl := po_oi_r hE1
    obtain rfl := hE E rfl
    refine po_catch (nm := sNS) (tgt := 11) hF hL.2.2.2 [] ⟨0, 8, 11, 53⟩ [] rfl (fun w hw => absurd hw List.not_mem_nil) (by decide) (by decide) wq_954 wn_879 rfl (fun r => ?_)
    refine po_astore_n hF dL_worst_11 rfl (by decide) rfl ?_
    refine po_iconst (v := 1) hF dL_worst_12 (by decide) ?_
    exact po_iretW hF hL dL_worst_13 (Nat.le_of_ble_eq_true rfl) (Nat.le_of_ble_eq_true rfl) (wk_1 _).symm rfl rfl
theorem w_decide {K : po_K} {R : po_R} {I : po_I} {st : Nat → Nat} {o q : Nat} {a1 : Int32} {w : Int32 ⊕ String} {I1 : po_I} {R1 : po_R} (HL : po_Lay K R st) (ko : K o = (18, 8)) (kq : K q = (5, 1)) (hm : m_X7_decide I R o a1 = some (w, I1, R1)) (hE : ∀ E, w = .inr E → E = sIO ∨ E = sIS) : po_CW st yL_decide cL_decide 4 [(0, 9, 12, 25), (0, 9, 15, 15)] 8 2 12 [.ref o, .int a1, .ref q] K R I (wk sIO w) (wR R1 q w) I1 := by
  refine po_ofCW (by decide +kernel) (Nat.le_of_ble_eq_true rfl) (fun X G hF hL => ?_)
  refine po_aload_n hF dL_decide_0 rfl rfl ?_
  refine po_iconst (v := 0) hF dL_decide_1 (by decide) ?_
  refine po_aload_n hF dL_decide_2 rfl rfl ?_
  refine po_iload_n hF dL_decide_3 rfl rfl ?_
  refine po_callVo (As := [.int a1]) (S := [.int 0, .ref q]) (c := 7) (o := po_oi w) (K' := K) (R' := R1) (I' := I1) (z' := none) hF dL_decide_4 wq_985 mv_X7_decide ws_X7_decide rfl rfl ko (c_X7_decide HL ko hm) rfl (po_rtW hL rfl) (Nat.le_of_ble_eq_true rfl) rfl (fun v hv => ?_) (fun E hE1 => ?_)
  · obtain ⟨x, rfl, rfl⟩ := po_oi_l hv
    refine po_i2l hF dL_decide_7 ?_
    refine po_last (R' := po_u R1 q 0 (.long x.toInt64)) hF dL_decide_8 kq (by decide) (by rw [show (0 : Int32).toNatClampNeg = 0 by decide]) ?_
    refine po_goto (tgt := 18) hF dL_decide_9 (by decide) ?_
    refine po_iconst (v := 0) hF dL_decide_18 (by decide) ?_
    exact po_iretW hF hL dL_decide_19 (Nat.le_of_ble_eq_true rfl) (Nat.le_of_ble_eq_true rfl) rfl rfl rfl
  · obtain rfl := po_oi_r hE1
    rcases hE E rfl with rfl | rfl
    · skip
      refine po_catch (nm := sIO) (tgt := 12) hF hL.2.2.2 [] ⟨0, 9, 12, 25⟩ [⟨0, 9, 15, 15⟩] rfl (fun w hw => absurd hw List.not_mem_nil) (by decide) (by decide) wq_672 wn_613 rfl (fun r => ?_)
      refine po_astore_n hF dL_decide_12 rfl (by decide) rfl ?_
      refine po_iconst (v := 1) hF dL_decide_13 (by decide) ?_
      exact po_iretW hF hL dL_decide_14 (Nat.le_of_ble_eq_true rfl) (Nat.le_of_ble_eq_true rfl) (wk_1 _).symm rfl rfl
    · skip
      refine po_catch (nm := sIS) (tgt := 15) hF hL.2.2.2 [⟨0, 9, 12, 25⟩] ⟨0, 9, 15, 15⟩ [] rfl (fun w hw => by
        rcases List.mem_singleton.mp hw with rfl
        exact ⟨by decide, sIO, wq_672, by decide +kernel⟩) (by decide) (by decide) wq_449 wn_438 rfl (fun r => ?_)
      refine po_astore_n hF dL_decide_15 rfl (by decide) rfl ?_
      refine po_iconst (v := 2) hF dL_decide_16 (by decide) ?_
      exact po_iretW hF hL dL_decide_17 (Nat.le_of_ble_eq_true rfl) (Nat.le_of_ble_eq_true rfl) (wk_2 (by decide +kernel)).symm rfl rfl
theorem w_reason {K : po_K} {R : po_R} {I : po_I} {st : Nat → Nat} {o q : Nat} {a1 : Int32} {w : Int32 ⊕ String} (HL : po_Lay K R st) (ko : K o = (18, 8)) (kq : K q = (5, 1)) (hm : m_X7_reason I o a1 = some w) (hE : ∀ E, w = .inr E → E = sIO ∨ E = sNS) : po_CW st yL_reason cL_reason 4 [(0, 9, 12, 25), (0, 9, 15, 53)] 8 2 12 [.ref o, .int a1, .ref q] K R I (wk sIO w) (wR R q w) I := by
  refine po_ofCW (by decide +kernel) (Nat.le_of_ble_eq_true rfl) (fun X G hF hL => ?_)
  refine po_aload_n hF dL_reason_0 rfl rfl ?_
  refine po_iconst (v := 0) hF dL_reason_1 (by decide) ?_
  refine po_aload_n hF dL_reason_2 rfl rfl ?_
  refine po_iload_n hF dL_reason_3 rfl rfl ?_
  refine po_callVo (As := [.int a1]) (S := [.int 0, .ref q]) (c := 7) (o := po_oi w) (K' := K) (R' := R) (I' := I) (z' := none) hF dL_reason_4 wq_1009 mv_X7_reason ws_X7_reason rfl rfl ko (c_X7_reason HL ko hm) rfl (po_rtW hL rfl) (Nat.le_of_ble_eq_true rfl) rfl (fun v hv => ?_) (fun E hE1 => ?_)
  · obtain ⟨x, rfl, rfl⟩ := po_oi_l hv
    refine po_i2l hF dL_reason_7 ?_
    refine po_last (R' := po_u R q 0 (.long x.toInt64)) hF dL_reason_8 kq (by decide) (by rw [show (0 : Int32).toNatClampNeg = 0 by decide]) ?_
    refine po_goto (tgt := 18) hF dL_reason_9 (by decide) ?_
    refine po_iconst (v := 0) hF dL_reason_18 (by decide) ?_
    exact po_iretW hF hL dL_reason_19 (Nat.le_of_ble_eq_true rfl) (Nat.le_of_ble_eq_true rfl) rfl rfl rfl
  · obtain rfl := po_oi_r hE1
    rcases hE E rfl with rfl | rfl
    · skip
      refine po_catch (nm := sIO) (tgt := 12) hF hL.2.2.2 [] ⟨0, 9, 12, 25⟩ [⟨0, 9, 15, 53⟩] rfl (fun w hw => absurd hw List.not_mem_nil) (by decide) (by decide) wq_672 wn_613 rfl (fun r => ?_)
      refine po_astore_n hF dL_reason_12 rfl (by decide) rfl ?_
      refine po_iconst (v := 1) hF dL_reason_13 (by decide) ?_
      exact po_iretW hF hL dL_reason_14 (Nat.le_of_ble_eq_true rfl) (Nat.le_of_ble_eq_true rfl) (wk_1 _).symm rfl rfl
    · skip
      refine po_catch (nm := sNS) (tgt := 15) hF hL.2.2.2 [⟨0, 9, 12, 25⟩] ⟨0, 9, 15, 53⟩ [] rfl (fun w hw => by
        rcases List.mem_singleton.mp hw with rfl
        exact ⟨by decide, sIO, wq_672, by decide +kernel⟩) (by decide) (by decide) wq_954 wn_879 rfl (fun r => ?_)
      refine po_astore_n hF dL_reason_15 rfl (by decide) rfl ?_
      refine po_iconst (v := 2) hF dL_reason_16 (by decide) ?_
      exact po_iretW hF hL dL_reason_17 (Nat.le_of_ble_eq_true rfl) (Nat.le_of_ble_eq_true rfl) (wk_2 (by decide +kernel)).symm rfl rfl
theorem w_revoke {K : po_K} {R : po_R} {I : po_I} {st : Nat → Nat} {o q : Nat} {a1 : Int32} {w : Int32 ⊕ String} {I1 : po_I} {R1 : po_R} (HL : po_Lay K R st) (ko : K o = (18, 8)) (kq : K q = (5, 1)) (hm : m_X7_revoke I R o a1 = some (w, I1, R1)) (hE : ∀ E, w = .inr E → E = sIO ∨ E = sIS) : po_CW st yL_revoke cL_revoke 4 [(0, 9, 12, 25), (0, 9, 15, 15)] 8 2 12 [.ref o, .int a1, .ref q] K R I (wk sIO w) (wR R1 q w) I1 := by
  refine po_ofCW (by decide +kernel) (Nat.le_of_ble_eq_true rfl) (fun X G hF hL => ?_)
  refine po_aload_n hF dL_revoke_0 rfl rfl ?_
  refine po_iconst (v := 0) hF dL_revoke_1 (by decide) ?_
  refine po_aload_n hF dL_revoke_2 rfl rfl ?_
  refine po_iload_n hF dL_revoke_3 rfl rfl ?_
  refine po_callVo (As := [.int a1]) (S := [.int 0, .ref q]) (c := 7) (o := po_oi w) (K' := K) (R' := R1) (I' := I1) (z' := none) hF dL_revoke_4 wq_1017 mv_X7_revoke ws_X7_revoke rfl rfl ko (c_X7_revoke HL ko hm) rfl (po_rtW hL rfl) (Nat.le_of_ble_eq_true rfl) rfl (fun v hv => ?_) (fun E hE1 => ?_)
  · obtain ⟨x, rfl, rfl⟩ := po_oi_l hv
    refine po_i2l hF dL_revoke_7 ?_
    refine po_last (R' := po_u R1 q 0 (.long x.toInt64)) hF dL_revoke_8 kq (by decide) (by rw [show (0 : Int32).toNatClampNeg = 0 by decide]) ?_
    refine po_goto (tgt := 18) hF dL_revoke_9 (by decide) ?_
    refine po_iconst (v := 0) hF dL_revoke_18 (by decide) ?_
    exact po_iretW hF hL dL_revoke_19 (Nat.le_of_ble_eq_true rfl) (Nat.le_of_ble_eq_true rfl) rfl rfl rfl
  · obtain rfl := po_oi_r hE1
    rcases hE E rfl with rfl | rfl
    · skip
      refine po_catch (nm := sIO) (tgt := 12) hF hL.2.2.2 [] ⟨0, 9, 12, 25⟩ [⟨0, 9, 15, 15⟩] rfl (fun w hw => absurd hw List.not_mem_nil) (by decide) (by decide) wq_672 wn_613 rfl (fun r => ?_)
      refine po_astore_n hF dL_revoke_12 rfl (by decide) rfl ?_
      refine po_iconst (v := 1) hF dL_revoke_13 (by decide) ?_
      exact po_iretW hF hL dL_revoke_14 (Nat.le_of_ble_eq_true rfl) (Nat.le_of_ble_eq_true rfl) (wk_1 _).symm rfl rfl
    · skip
      refine po_catch (nm := sIS) (tgt := 15) hF hL.2.2.2 [⟨0, 9, 12, 25⟩] ⟨0, 9, 15, 15⟩ [] rfl (fun w hw => by
        rcases List.mem_singleton.mp hw with rfl
        exact ⟨by decide, sIO, wq_672, by decide +kernel⟩) (by decide) (by decide) wq_449 wn_438 rfl (fun r => ?_)
      refine po_astore_n hF dL_revoke_15 rfl (by decide) rfl ?_
      refine po_iconst (v := 2) hF dL_revoke_16 (by decide) ?_
      exact po_iretW hF hL dL_revoke_17 (Nat.le_of_ble_eq_true rfl) (Nat.le_of_ble_eq_true rfl) (wk_2 (by decide +kernel)).symm rfl rfl
theorem w_urgent {K : po_K} {R : po_R} {I : po_I} {st : Nat → Nat} {o q : Nat} {a1 : Int32} {w : Int32 ⊕ String} (HL : po_Lay K R st) (ko : K o = (18, 8)) (kq : K q = (5, 1)) (hm : m_X7_urgent I o a1 = some w) (hE : ∀ E, w = .inr E → E = sNS) : po_CW st yL_urgent cL_urgent 4 [(0, 9, 12, 53)] 7 1 6 [.ref o, .int a1, .ref q] K R I (wk sNS w) (wR R q w) I := by
  refine po_ofCW (by decide +kernel) (Nat.le_of_ble_eq_true rfl) (fun X G hF hL => ?_)
  refine po_aload_n hF dL_urgent_0 rfl rfl ?_
  refine po_iconst (v := 0) hF dL_urgent_1 (by decide) ?_
  refine po_aload_n hF dL_urgent_2 rfl rfl ?_
  refine po_iload_n hF dL_urgent_3 rfl rfl ?_
  refine po_callVo (As := [.int a1]) (S := [.int 0, .ref q]) (c := 7) (o := po_oi w) (K' := K) (R' := R) (I' := I) (z' := none) hF dL_urgent_4 wq_1025 mv_X7_urgent ws_X7_urgent rfl rfl ko (c_X7_urgent HL ko hm) rfl (po_rtW hL rfl) (Nat.le_of_ble_eq_true rfl) rfl (fun v hv => ?_) (fun E hE1 => ?_)
  · obtain ⟨x, rfl, rfl⟩ := po_oi_l hv
    refine po_i2l hF dL_urgent_7 ?_
    refine po_last (R' := po_u R q 0 (.long x.toInt64)) hF dL_urgent_8 kq (by decide) (by rw [show (0 : Int32).toNatClampNeg = 0 by decide]) ?_
    refine po_goto (tgt := 15) hF dL_urgent_9 (by decide) ?_
    refine po_iconst (v := 0) hF dL_urgent_15 (by decide) ?_
    exact po_iretW hF hL dL_urgent_16 (Nat.le_of_ble_eq_true rfl) (Nat.le_of_ble_eq_true rfl) rfl rfl rfl
  · obtain rfl := po_oi_r hE1
    obtain rfl := hE E rfl
    refine po_catch (nm := sNS) (tgt := 12) hF hL.2.2.2 [] ⟨0, 9, 12, 53⟩ [] rfl (fun w hw => absurd hw List.not_mem_nil) (by decide) (by decide) wq_954 wn_879 rfl (fun r => ?_)
    refine po_astore_n hF dL_urgent_12 rfl (by decide) rfl ?_
    refine po_iconst (v := 1) hF dL_urgent_13 (by decide) ?_
    exact po_iretW hF hL dL_urgent_14 (Nat.le_of_ble_eq_true rfl) (Nat.le_of_ble_eq_true rfl) (wk_1 _).symm rfl rfl
theorem w_variance {K : po_K} {R : po_R} {I : po_I} {st : Nat → Nat} {o q : Nat} {a1 a2 : Int32} {w : Int32 ⊕ String} (HL : po_Lay K R st) (ko : K o = (18, 8)) (kq : K q = (5, 1)) (hm : m_X7_variance I o a1 a2 = some w) (hE : ∀ E, w = .inr E → E = sIO ∨ E = sIA) : po_CW st yL_variance cL_variance 5 [(0, 10, 13, 25), (0, 10, 17, 13)] 7 1 6 [.ref o, .int a1, .int a2, .ref q] K R I (wk sIO w) (wR R q w) I := by
  refine po_ofCW (by decide +kernel) (Nat.le_of_ble_eq_true rfl) (fun X G hF hL => ?_)
  refine po_aload_n hF dL_variance_0 rfl rfl ?_
  refine po_iconst (v := 0) hF dL_variance_1 (by decide) ?_
  refine po_aload_n hF dL_variance_2 rfl rfl ?_
  refine po_iload_n hF dL_variance_3 rfl rfl ?_
  refine po_iload_n hF dL_variance_4 rfl rfl ?_
  refine po_callVo (As := [.int a1, .int a2]) (S := [.int 0, .ref q]) (c := 7) (o := po_oi w) (K' := K) (R' := R) (I' := I) (z' := none) hF dL_variance_5 wq_1049 mv_X7_variance ws_X7_variance rfl rfl ko (c_X7_variance HL ko hm) rfl (po_rtW hL rfl) (Nat.le_of_ble_eq_true rfl) rfl (fun v hv => ?_) (fun E hE1 => ?_)
  · obtain ⟨x, rfl, rfl⟩ := po_oi_l hv
    refine po_i2l hF dL_variance_8 ?_
    refine po_last (R' := po_u R q 0 (.long x.toInt64)) hF dL_variance_9 kq (by decide) (by rw [show (0 : Int32).toNatClampNeg = 0 by decide]) ?_
    refine po_goto (tgt := 21) hF dL_variance_10 (by decide) ?_
    refine po_iconst (v := 0) hF dL_variance_21 (by decide) ?_
    exact po_iretW hF hL dL_variance_22 (Nat.le_of_ble_eq_true rfl) (Nat.le_of_ble_eq_true rfl) rfl rfl rfl
  · obtain rfl := po_oi_r hE1
    rcases hE E rfl with rfl | rfl
    · skip
      refine po_catch (nm := sIO) (tgt := 13) hF hL.2.2.2 [] ⟨0, 10, 13, 25⟩ [⟨0, 10, 17, 13⟩] rfl (fun w hw => absurd hw List.not_mem_nil) (by decide) (by decide) wq_672 wn_613 rfl (fun r => ?_)
      refine po_astore hF dL_variance_13 (by decide) rfl ?_
      refine po_iconst (v := 1) hF dL_variance_15 (by decide) ?_
      exact po_iretW hF hL dL_variance_16 (Nat.le_of_ble_eq_true rfl) (Nat.le_of_ble_eq_true rfl) (wk_1 _).symm rfl rfl
    · skip
      refine po_catch (nm := sIA) (tgt := 17) hF hL.2.2.2 [⟨0, 10, 13, 25⟩] ⟨0, 10, 17, 13⟩ [] rfl (fun w hw => by
        rcases List.mem_singleton.mp hw with rfl
        exact ⟨by decide, sIO, wq_672, by decide +kernel⟩) (by decide) (by decide) wq_448 wn_367 rfl (fun r => ?_)
      refine po_astore hF dL_variance_17 (by decide) rfl ?_
      refine po_iconst (v := 2) hF dL_variance_19 (by decide) ?_
      exact po_iretW hF hL dL_variance_20 (Nat.le_of_ble_eq_true rfl) (Nat.le_of_ble_eq_true rfl) (wk_2 (by decide +kernel)).symm rfl rfl
theorem w_needed {K : po_K} {R : po_R} {I : po_I} {st : Nat → Nat} {o q : Nat} {a1 a2 : Int32} {w : Int32 ⊕ String} {I1 : po_I} (HL : po_Lay K R st) (ko : K o = (18, 8)) (kq : K q = (5, 1)) (hm : m_X7_needed I o a1 a2 = some (w, I1)) (hE : ∀ E, w = .inr E → E = sIO ∨ E = sIA) : po_CW st yL_needed cL_needed 5 [(0, 10, 13, 25), (0, 10, 17, 13)] 8 2 12 [.ref o, .int a1, .int a2, .ref q] K R I (wk sIO w) (wR R q w) I1 := by
  refine po_ofCW (by decide +kernel) (Nat.le_of_ble_eq_true rfl) (fun X G hF hL => ?_)
  refine po_aload_n hF dL_needed_0 rfl rfl ?_
  refine po_iconst (v := 0) hF dL_needed_1 (by decide) ?_
  refine po_aload_n hF dL_needed_2 rfl rfl ?_
  refine po_iload_n hF dL_needed_3 rfl rfl ?_
  refine po_iload_n hF dL_needed_4 rfl rfl ?_
  refine po_callVo (As := [.int a1, .int a2]) (S := [.int 0, .ref q]) (c := 7) (o := po_oi w) (K' := K) (R' := R) (I' := I1) (z' := none) hF dL_needed_5 wq_1063 mv_X7_needed ws_X7_needed rfl rfl ko (c_X7_needed HL ko hm) rfl (po_rtW hL rfl) (Nat.le_of_ble_eq_true rfl) rfl (fun v hv => ?_) (fun E hE1 => ?_)
  · obtain ⟨x, rfl, rfl⟩ := po_oi_l hv
    refine po_i2l hF dL_needed_8 ?_
    refine po_last (R' := po_u R q 0 (.long x.toInt64)) hF dL_needed_9 kq (by decide) (by rw [show (0 : Int32).toNatClampNeg = 0 by decide]) ?_
    refine po_goto (tgt := 21) hF dL_needed_10 (by decide) ?_
    refine po_iconst (v := 0) hF dL_needed_21 (by decide) ?_
    exact po_iretW hF hL dL_needed_22 (Nat.le_of_ble_eq_true rfl) (Nat.le_of_ble_eq_true rfl) rfl rfl rfl
  · obtain rfl := po_oi_r hE1
    rcases hE E rfl with rfl | rfl
    · skip
      refine po_catch (nm := sIO) (tgt := 13) hF hL.2.2.2 [] ⟨0, 10, 13, 25⟩ [⟨0, 10, 17, 13⟩] rfl (fun w hw => absurd hw List.not_mem_nil) (by decide) (by decide) wq_672 wn_613 rfl (fun r => ?_)
      refine po_astore hF dL_needed_13 (by decide) rfl ?_
      refine po_iconst (v := 1) hF dL_needed_15 (by decide) ?_
      exact po_iretW hF hL dL_needed_16 (Nat.le_of_ble_eq_true rfl) (Nat.le_of_ble_eq_true rfl) (wk_1 _).symm rfl rfl
    · skip
      refine po_catch (nm := sIA) (tgt := 17) hF hL.2.2.2 [⟨0, 10, 13, 25⟩] ⟨0, 10, 17, 13⟩ [] rfl (fun w hw => by
        rcases List.mem_singleton.mp hw with rfl
        exact ⟨by decide, sIO, wq_672, by decide +kernel⟩) (by decide) (by decide) wq_448 wn_367 rfl (fun r => ?_)
      refine po_astore hF dL_needed_17 (by decide) rfl ?_
      refine po_iconst (v := 2) hF dL_needed_19 (by decide) ?_
      exact po_iretW hF hL dL_needed_20 (Nat.le_of_ble_eq_true rfl) (Nat.le_of_ble_eq_true rfl) (wk_2 (by decide +kernel)).symm rfl rfl
theorem w_condition {K : po_K} {R : po_R} {I : po_I} {st : Nat → Nat} {o q : Nat} {a1 a2 a3 : Int32} {w : Int32 ⊕ String} (HL : po_Lay K R st) (ko : K o = (18, 8)) (kq : K q = (5, 1)) (hm : m_X7_condition I o a1 a2 a3 = some w) (hE : ∀ E, w = .inr E → E = sIO ∨ E = sIA) : po_CW st yL_condition cL_condition 6 [(0, 12, 15, 25), (0, 12, 19, 13)] 8 2 12 [.ref o, .int a1, .int a2, .int a3, .ref q] K R I (wk sIO w) (wR R q w) I := by
  refine po_ofCW (by decide +kernel) (Nat.le_of_ble_eq_true rfl) (fun X G hF hL => ?_)
  refine po_aload hF dL_condition_0 rfl ?_
  refine po_iconst (v := 0) hF dL_condition_2 (by decide) ?_
  refine po_aload_n hF dL_condition_3 rfl rfl ?_
  refine po_iload_n hF dL_condition_4 rfl rfl ?_
  refine po_iload_n hF dL_condition_5 rfl rfl ?_
  refine po_iload_n hF dL_condition_6 rfl rfl ?_
  refine po_callVo (As := [.int a1, .int a2, .int a3]) (S := [.int 0, .ref q]) (c := 7) (o := po_oi w) (K' := K) (R' := R) (I' := I) (z' := none) hF dL_condition_7 wq_1078 mv_X7_condition ws_X7_condition rfl rfl ko (c_X7_condition HL ko hm) rfl (po_rtW hL rfl) (Nat.le_of_ble_eq_true rfl) rfl (fun v hv => ?_) (fun E hE1 => ?_)
  · obtain ⟨x, rfl, rfl⟩ := po_oi_l hv
    refine po_i2l hF dL_condition_10 ?_
    refine po_last (R' := po_u R q 0 (.long x.toInt64)) hF dL_condition_11 kq (by decide) (by rw [show (0 : Int32).toNatClampNeg = 0 by decide]) ?_
    refine po_goto (tgt := 23) hF dL_condition_12 (by decide) ?_
    refine po_iconst (v := 0) hF dL_condition_23 (by decide) ?_
    exact po_iretW hF hL dL_condition_24 (Nat.le_of_ble_eq_true rfl) (Nat.le_of_ble_eq_true rfl) rfl rfl rfl
  · obtain rfl := po_oi_r hE1
    rcases hE E rfl with rfl | rfl
    · skip
      refine po_catch (nm := sIO) (tgt := 15) hF hL.2.2.2 [] ⟨0, 12, 15, 25⟩ [⟨0, 12, 19, 13⟩] rfl (fun w hw => absurd hw List.not_mem_nil) (by decide) (by decide) wq_672 wn_613 rfl (fun r => ?_)
      refine po_astore hF dL_condition_15 (by decide) rfl ?_
      refine po_iconst (v := 1) hF dL_condition_17 (by decide) ?_
      exact po_iretW hF hL dL_condition_18 (Nat.le_of_ble_eq_true rfl) (Nat.le_of_ble_eq_true rfl) (wk_1 _).symm rfl rfl
    · skip
      refine po_catch (nm := sIA) (tgt := 19) hF hL.2.2.2 [⟨0, 12, 15, 25⟩] ⟨0, 12, 19, 13⟩ [] rfl (fun w hw => by
        rcases List.mem_singleton.mp hw with rfl
        exact ⟨by decide, sIO, wq_672, by decide +kernel⟩) (by decide) (by decide) wq_448 wn_367 rfl (fun r => ?_)
      refine po_astore hF dL_condition_19 (by decide) rfl ?_
      refine po_iconst (v := 2) hF dL_condition_21 (by decide) ?_
      exact po_iretW hF hL dL_condition_22 (Nat.le_of_ble_eq_true rfl) (Nat.le_of_ble_eq_true rfl) (wk_2 (by decide +kernel)).symm rfl rfl
theorem w_fulfil {K : po_K} {R : po_R} {I : po_I} {st : Nat → Nat} {o q : Nat} {a1 a2 : Int32} {w : Int32 ⊕ String} {I1 : po_I} {R1 : po_R} (HL : po_Lay K R st) (ko : K o = (18, 8)) (kq : K q = (5, 1)) (hm : m_X7_fulfil I R o a1 a2 = some (w, I1, R1)) (hE : ∀ E, w = .inr E → E = sIO ∨ E = sNS) : po_CW st yL_fulfil cL_fulfil 5 [(0, 10, 13, 25), (0, 10, 17, 53)] 8 2 12 [.ref o, .int a1, .int a2, .ref q] K R I (wk sIO w) (wR R1 q w) I1 := by
  refine po_ofCW (by decide +kernel) (Nat.le_of_ble_eq_true rfl) (fun X G hF hL => ?_)
  refine po_aload_n hF dL_fulfil_0 rfl rfl ?_
  refine po_iconst (v := 0) hF dL_fulfil_1 (by decide) ?_
  refine po_aload_n hF dL_fulfil_2 rfl rfl ?_
  refine po_iload_n hF dL_fulfil_3 rfl rfl ?_
  refine po_iload_n hF dL_fulfil_4 rfl rfl ?_
  refine po_callVo (As := [.int a1, .int a2]) (S := [.int 0, .ref q]) (c := 7) (o := po_oi w) (K' := K) (R' := R1) (I' := I1) (z' := none) hF dL_fulfil_5 wq_1091 mv_X7_fulfil ws_X7_fulfil rfl rfl ko (c_X7_fulfil HL ko hm) rfl (po_rtW hL rfl) (Nat.le_of_ble_eq_true rfl) rfl (fun v hv => ?_) (fun E hE1 => ?_)
  · obtain ⟨x, rfl, rfl⟩ := po_oi_l hv
    refine po_i2l hF dL_fulfil_8 ?_
    refine po_last (R' := po_u R1 q 0 (.long x.toInt64)) hF dL_fulfil_9 kq (by decide) (by rw [show (0 : Int32).toNatClampNeg = 0 by decide]) ?_
    refine po_goto (tgt := 21) hF dL_fulfil_10 (by decide) ?_
    refine po_iconst (v := 0) hF dL_fulfil_21 (by decide) ?_
    exact po_iretW hF hL dL_fulfil_22 (Nat.le_of_ble_eq_true rfl) (Nat.le_of_ble_eq_true rfl) rfl rfl rfl
  · obtain rfl := po_oi_r hE1
    rcases hE E rfl with rfl | rfl
    · skip
      refine po_catch (nm := sIO) (tgt := 13) hF hL.2.2.2 [] ⟨0, 10, 13, 25⟩ [⟨0, 10, 17, 53⟩] rfl (fun w hw => absurd hw List.not_mem_nil) (by decide) (by decide) wq_672 wn_613 rfl (fun r => ?_)
      refine po_astore hF dL_fulfil_13 (by decide) rfl ?_
      refine po_iconst (v := 1) hF dL_fulfil_15 (by decide) ?_
      exact po_iretW hF hL dL_fulfil_16 (Nat.le_of_ble_eq_true rfl) (Nat.le_of_ble_eq_true rfl) (wk_1 _).symm rfl rfl
    · skip
      refine po_catch (nm := sNS) (tgt := 17) hF hL.2.2.2 [⟨0, 10, 13, 25⟩] ⟨0, 10, 17, 53⟩ [] rfl (fun w hw => by
        rcases List.mem_singleton.mp hw with rfl
        exact ⟨by decide, sIO, wq_672, by decide +kernel⟩) (by decide) (by decide) wq_954 wn_879 rfl (fun r => ?_)
      refine po_astore hF dL_fulfil_17 (by decide) rfl ?_
      refine po_iconst (v := 2) hF dL_fulfil_19 (by decide) ?_
      exact po_iretW hF hL dL_fulfil_20 (Nat.le_of_ble_eq_true rfl) (Nat.le_of_ble_eq_true rfl) (wk_2 (by decide +kernel)).symm rfl rfl
theorem w_inspect {K : po_K} {R : po_R} {I : po_I} {st : Nat → Nat} {o q : Nat} {a1 : Int32} {w : Int32 ⊕ String} {I1 : po_I} {R1 : po_R} (HL : po_Lay K R st) (ko : K o = (18, 8)) (kq : K q = (5, 1)) (hm : m_X7_inspect I R o a1 = some (w, I1, R1)) (hE : ∀ E, w = .inr E → E = sIO ∨ E = sIS) : po_CW st yL_inspect cL_inspect 4 [(0, 16, 19, 25), (0, 16, 22, 15)] 8 2 12 [.ref o, .int a1, .ref q] K R I (wk sIO w) (wZ R1 q w) I1 := by
  refine po_ofCW (by decide +kernel) (Nat.le_of_ble_eq_true rfl) (fun X G hF hL => ?_)
  refine po_aload_n hF dL_inspect_0 rfl rfl ?_
  refine po_iconst (v := 0) hF dL_inspect_1 (by decide) ?_
  refine po_aload_n hF dL_inspect_2 rfl rfl ?_
  refine po_iload_n hF dL_inspect_3 rfl rfl ?_
  refine po_callVo (As := [.int a1]) (S := [.int 0, .ref q]) (c := 7) (o := po_oi w) (K' := K) (R' := R1) (I' := I1) (z' := none) hF dL_inspect_4 wq_1104 mv_X7_inspect ws_X7_inspect rfl rfl ko (c_X7_inspect HL ko hm) rfl (po_rtW hL rfl) (Nat.le_of_ble_eq_true rfl) rfl (fun v hv => ?_) (fun E hE1 => ?_)
  · obtain ⟨x, rfl, rfl⟩ := po_oi_l hv
    by_cases hx0 : x = 0
    · refine po_if_eq (tgt := 14) (A := some ()) (B := Option.none) (r := ()) hF dL_inspect_7 (by decide) (if_pos hx0) (fun _ => ?_) (fun hm => by cases hm)
      refine po_lconst (v := 0) hF dL_inspect_14 (by decide) ?_
      refine po_last (R' := po_u R1 q 0 (.long (if x = 0 then 0 else 1))) hF dL_inspect_15 kq (by decide) (by rw [if_pos hx0, show (0 : Int32).toNatClampNeg = 0 by decide]) ?_
      refine po_goto (tgt := 25) hF dL_inspect_16 (by decide) ?_
      refine po_iconst (v := 0) hF dL_inspect_25 (by decide) ?_
      exact po_iretW hF hL dL_inspect_26 (Nat.le_of_ble_eq_true rfl) (Nat.le_of_ble_eq_true rfl) rfl rfl rfl
    · refine po_if_eq (tgt := 14) (A := Option.none) (B := some ()) (r := ()) hF dL_inspect_7 (by decide) (if_neg hx0) (fun hm => by cases hm) (fun _ => ?_)
      refine po_lconst (v := 1) hF dL_inspect_10 (by decide) ?_
      refine po_goto (tgt := 15) hF dL_inspect_11 (by decide) ?_
      refine po_last (R' := po_u R1 q 0 (.long (if x = 0 then 0 else 1))) hF dL_inspect_15 kq (by decide) (by rw [if_neg hx0, show (0 : Int32).toNatClampNeg = 0 by decide]) ?_
      refine po_goto (tgt := 25) hF dL_inspect_16 (by decide) ?_
      refine po_iconst (v := 0) hF dL_inspect_25 (by decide) ?_
      exact po_iretW hF hL dL_inspect_26 (Nat.le_of_ble_eq_true rfl) (Nat.le_of_ble_eq_true rfl) rfl rfl rfl
  · obtain rfl := po_oi_r hE1
    rcases hE E rfl with rfl | rfl
    · skip
      refine po_catch (nm := sIO) (tgt := 19) hF hL.2.2.2 [] ⟨0, 16, 19, 25⟩ [⟨0, 16, 22, 15⟩] rfl (fun w hw => absurd hw List.not_mem_nil) (by decide) (by decide) wq_672 wn_613 rfl (fun r => ?_)
      refine po_astore_n hF dL_inspect_19 rfl (by decide) rfl ?_
      refine po_iconst (v := 1) hF dL_inspect_20 (by decide) ?_
      exact po_iretW hF hL dL_inspect_21 (Nat.le_of_ble_eq_true rfl) (Nat.le_of_ble_eq_true rfl) (wk_1 _).symm rfl rfl
    · skip
      refine po_catch (nm := sIS) (tgt := 22) hF hL.2.2.2 [⟨0, 16, 19, 25⟩] ⟨0, 16, 22, 15⟩ [] rfl (fun w hw => by
        rcases List.mem_singleton.mp hw with rfl
        exact ⟨by decide, sIO, wq_672, by decide +kernel⟩) (by decide) (by decide) wq_449 wn_438 rfl (fun r => ?_)
      refine po_astore_n hF dL_inspect_22 rfl (by decide) rfl ?_
      refine po_iconst (v := 2) hF dL_inspect_23 (by decide) ?_
      exact po_iretW hF hL dL_inspect_24 (Nat.le_of_ble_eq_true rfl) (Nat.le_of_ble_eq_true rfl) (wk_2 (by decide +kernel)).symm rfl rfl
theorem w_reinstate {K : po_K} {R : po_R} {I : po_I} {st : Nat → Nat} {o q : Nat} {a1 : Int32} {w : Int32 ⊕ String} {I1 : po_I} {R1 : po_R} (HL : po_Lay K R st) (ko : K o = (18, 8)) (kq : K q = (5, 1)) (hm : m_X7_reinstate I R o a1 = some (w, I1, R1)) (hE : ∀ E, w = .inr E → E = sIO ∨ E = sIS) : po_CW st yL_reinstate cL_reinstate 4 [(0, 9, 12, 25), (0, 9, 15, 15)] 8 2 12 [.ref o, .int a1, .ref q] K R I (wk sIO w) (wR R1 q w) I1 := by
  refine po_ofCW (by decide +kernel) (Nat.le_of_ble_eq_true rfl) (fun X G hF hL => ?_)
  refine po_aload_n hF dL_reinstate_0 rfl rfl ?_
  refine po_iconst (v := 0) hF dL_reinstate_1 (by decide) ?_
  refine po_aload_n hF dL_reinstate_2 rfl rfl ?_
  refine po_iload_n hF dL_reinstate_3 rfl rfl ?_
  refine po_callVo (As := [.int a1]) (S := [.int 0, .ref q]) (c := 7) (o := po_oi w) (K' := K) (R' := R1) (I' := I1) (z' := none) hF dL_reinstate_4 wq_1124 mv_X7_reinstate ws_X7_reinstate rfl rfl ko (c_X7_reinstate HL ko hm) rfl (po_rtW hL rfl) (Nat.le_of_ble_eq_true rfl) rfl (fun v hv => ?_) (fun E hE1 => ?_)
  · obtain ⟨x, rfl, rfl⟩ := po_oi_l hv
    refine po_i2l hF dL_reinstate_7 ?_
    refine po_last (R' := po_u R1 q 0 (.long x.toInt64)) hF dL_reinstate_8 kq (by decide) (by rw [show (0 : Int32).toNatClampNeg = 0 by decide]) ?_
    refine po_goto (tgt := 18) hF dL_reinstate_9 (by decide) ?_
    refine po_iconst (v := 0) hF dL_reinstate_18 (by decide) ?_
    exact po_iretW hF hL dL_reinstate_19 (Nat.le_of_ble_eq_true rfl) (Nat.le_of_ble_eq_true rfl) rfl rfl rfl
  · obtain rfl := po_oi_r hE1
    rcases hE E rfl with rfl | rfl
    · skip
      refine po_catch (nm := sIO) (tgt := 12) hF hL.2.2.2 [] ⟨0, 9, 12, 25⟩ [⟨0, 9, 15, 15⟩] rfl (fun w hw => absurd hw List.not_mem_nil) (by decide) (by decide) wq_672 wn_613 rfl (fun r => ?_)
      refine po_astore_n hF dL_reinstate_12 rfl (by decide) rfl ?_
      refine po_iconst (v := 1) hF dL_reinstate_13 (by decide) ?_
      exact po_iretW hF hL dL_reinstate_14 (Nat.le_of_ble_eq_true rfl) (Nat.le_of_ble_eq_true rfl) (wk_1 _).symm rfl rfl
    · skip
      refine po_catch (nm := sIS) (tgt := 15) hF hL.2.2.2 [⟨0, 9, 12, 25⟩] ⟨0, 9, 15, 15⟩ [] rfl (fun w hw => by
        rcases List.mem_singleton.mp hw with rfl
        exact ⟨by decide, sIO, wq_672, by decide +kernel⟩) (by decide) (by decide) wq_449 wn_438 rfl (fun r => ?_)
      refine po_astore_n hF dL_reinstate_15 rfl (by decide) rfl ?_
      refine po_iconst (v := 2) hF dL_reinstate_16 (by decide) ?_
      exact po_iretW hF hL dL_reinstate_17 (Nat.le_of_ble_eq_true rfl) (Nat.le_of_ble_eq_true rfl) (wk_2 (by decide +kernel)).symm rfl rfl
theorem w_extend {K : po_K} {R : po_R} {I : po_I} {st : Nat → Nat} {o q : Nat} {a1 : Int32} {w : Int32 ⊕ String} {I1 : po_I} {R1 : po_R} (HL : po_Lay K R st) (ko : K o = (18, 8)) (kq : K q = (5, 1)) (hm : m_X7_extend I R o a1 = some (w, I1, R1)) (hE : ∀ E, w = .inr E → E = sIO ∨ E = sIS) : po_CW st yL_extend cL_extend 4 [(0, 9, 12, 25), (0, 9, 15, 15)] 8 2 12 [.ref o, .int a1, .ref q] K R I (wk sIO w) (wR R1 q w) I1 := by
  refine po_ofCW (by decide +kernel) (Nat.le_of_ble_eq_true rfl) (fun X G hF hL => ?_)
  refine po_aload_n hF dL_extend_0 rfl rfl ?_
  refine po_iconst (v := 0) hF dL_extend_1 (by decide) ?_
  refine po_aload_n hF dL_extend_2 rfl rfl ?_
  refine po_iload_n hF dL_extend_3 rfl rfl ?_
  refine po_callVo (As := [.int a1]) (S := [.int 0, .ref q]) (c := 7) (o := po_oi w) (K' := K) (R' := R1) (I' := I1) (z' := none) hF dL_extend_4 wq_1132 mv_X7_extend ws_X7_extend rfl rfl ko (c_X7_extend HL ko hm) rfl (po_rtW hL rfl) (Nat.le_of_ble_eq_true rfl) rfl (fun v hv => ?_) (fun E hE1 => ?_)
  · obtain ⟨x, rfl, rfl⟩ := po_oi_l hv
    refine po_i2l hF dL_extend_7 ?_
    refine po_last (R' := po_u R1 q 0 (.long x.toInt64)) hF dL_extend_8 kq (by decide) (by rw [show (0 : Int32).toNatClampNeg = 0 by decide]) ?_
    refine po_goto (tgt := 18) hF dL_extend_9 (by decide) ?_
    refine po_iconst (v := 0) hF dL_extend_18 (by decide) ?_
    exact po_iretW hF hL dL_extend_19 (Nat.le_of_ble_eq_true rfl) (Nat.le_of_ble_eq_true rfl) rfl rfl rfl
  · obtain rfl := po_oi_r hE1
    rcases hE E rfl with rfl | rfl
    · skip
      refine po_catch (nm := sIO) (tgt := 12) hF hL.2.2.2 [] ⟨0, 9, 12, 25⟩ [⟨0, 9, 15, 15⟩] rfl (fun w hw => absurd hw List.not_mem_nil) (by decide) (by decide) wq_672 wn_613 rfl (fun r => ?_)
      refine po_astore_n hF dL_extend_12 rfl (by decide) rfl ?_
      refine po_iconst (v := 1) hF dL_extend_13 (by decide) ?_
      exact po_iretW hF hL dL_extend_14 (Nat.le_of_ble_eq_true rfl) (Nat.le_of_ble_eq_true rfl) (wk_1 _).symm rfl rfl
    · skip
      refine po_catch (nm := sIS) (tgt := 15) hF hL.2.2.2 [⟨0, 9, 12, 25⟩] ⟨0, 9, 15, 15⟩ [] rfl (fun w hw => by
        rcases List.mem_singleton.mp hw with rfl
        exact ⟨by decide, sIO, wq_672, by decide +kernel⟩) (by decide) (by decide) wq_449 wn_438 rfl (fun r => ?_)
      refine po_astore_n hF dL_extend_15 rfl (by decide) rfl ?_
      refine po_iconst (v := 2) hF dL_extend_16 (by decide) ?_
      exact po_iretW hF hL dL_extend_17 (Nat.le_of_ble_eq_true rfl) (Nat.le_of_ble_eq_true rfl) (wk_2 (by decide +kernel)).symm rfl rfl
theorem w_pass {K : po_K} {R : po_R} {I : po_I} {st : Nat → Nat} {o q : Nat} {a1 : Int32} {w : Int32 ⊕ String} {I1 : po_I} {R1 : po_R} (HL : po_Lay K R st) (ko : K o = (18, 8)) (kq : K q = (5, 1)) (hm : m_X7_pass I R o a1 = some (w, I1, R1)) (hE : ∀ E, w = .inr E → E = sIA) : po_CW st yL_pass cL_pass 4 [(0, 9, 12, 13)] 7 1 6 [.ref o, .int a1, .ref q] K R I (wk sIA w) (wR R1 q w) I1 := by
  refine po_ofCW (by decide +kernel) (Nat.le_of_ble_eq_true rfl) (fun X G hF hL => ?_)
  refine po_aload_n hF dL_pass_0 rfl rfl ?_
  refine po_iconst (v := 0) hF dL_pass_1 (by decide) ?_
  refine po_aload_n hF dL_pass_2 rfl rfl ?_
  refine po_iload_n hF dL_pass_3 rfl rfl ?_
  refine po_callVo (As := [.int a1]) (S := [.int 0, .ref q]) (c := 7) (o := po_oi w) (K' := K) (R' := R1) (I' := I1) (z' := none) hF dL_pass_4 wq_1140 mv_X7_pass ws_X7_pass rfl rfl ko (c_X7_pass HL ko hm) rfl (po_rtW hL rfl) (Nat.le_of_ble_eq_true rfl) rfl (fun v hv => ?_) (fun E hE1 => ?_)
  · obtain ⟨x, rfl, rfl⟩ := po_oi_l hv
    refine po_i2l hF dL_pass_7 ?_
    refine po_last (R' := po_u R1 q 0 (.long x.toInt64)) hF dL_pass_8 kq (by decide) (by rw [show (0 : Int32).toNatClampNeg = 0 by decide]) ?_
    refine po_goto (tgt := 15) hF dL_pass_9 (by decide) ?_
    refine po_iconst (v := 0) hF dL_pass_15 (by decide) ?_
    exact po_iretW hF hL dL_pass_16 (Nat.le_of_ble_eq_true rfl) (Nat.le_of_ble_eq_true rfl) rfl rfl rfl
  · obtain rfl := po_oi_r hE1
    obtain rfl := hE E rfl
    refine po_catch (nm := sIA) (tgt := 12) hF hL.2.2.2 [] ⟨0, 9, 12, 13⟩ [] rfl (fun w hw => absurd hw List.not_mem_nil) (by decide) (by decide) wq_448 wn_367 rfl (fun r => ?_)
    refine po_astore_n hF dL_pass_12 rfl (by decide) rfl ?_
    refine po_iconst (v := 1) hF dL_pass_13 (by decide) ?_
    exact po_iretW hF hL dL_pass_14 (Nat.le_of_ble_eq_true rfl) (Nat.le_of_ble_eq_true rfl) (wk_1 _).symm rfl rfl
theorem w_account {K : po_K} {R : po_R} {I : po_I} {st : Nat → Nat} {o q : Nat} {a1 a2 : Int32} {w : Int32 ⊕ String} (HL : po_Lay K R st) (ko : K o = (18, 8)) (kq : K q = (5, 1)) (hm : m_X7_account I o a1 a2 = some w) (hE : ∀ E, w = .inr E → E = sIO ∨ E = sIA) : po_CW st yL_account cL_account 5 [(0, 10, 13, 25), (0, 10, 17, 13)] 7 1 6 [.ref o, .int a1, .int a2, .ref q] K R I (wk sIO w) (wR R q w) I := by
  refine po_ofCW (by decide +kernel) (Nat.le_of_ble_eq_true rfl) (fun X G hF hL => ?_)
  refine po_aload_n hF dL_account_0 rfl rfl ?_
  refine po_iconst (v := 0) hF dL_account_1 (by decide) ?_
  refine po_aload_n hF dL_account_2 rfl rfl ?_
  refine po_iload_n hF dL_account_3 rfl rfl ?_
  refine po_iload_n hF dL_account_4 rfl rfl ?_
  refine po_callVo (As := [.int a1, .int a2]) (S := [.int 0, .ref q]) (c := 7) (o := po_oi w) (K' := K) (R' := R) (I' := I) (z' := none) hF dL_account_5 wq_1148 mv_X7_account ws_X7_account rfl rfl ko (c_X7_account HL ko hm) rfl (po_rtW hL rfl) (Nat.le_of_ble_eq_true rfl) rfl (fun v hv => ?_) (fun E hE1 => ?_)
  · obtain ⟨x, rfl, rfl⟩ := po_oi_l hv
    refine po_i2l hF dL_account_8 ?_
    refine po_last (R' := po_u R q 0 (.long x.toInt64)) hF dL_account_9 kq (by decide) (by rw [show (0 : Int32).toNatClampNeg = 0 by decide]) ?_
    refine po_goto (tgt := 21) hF dL_account_10 (by decide) ?_
    refine po_iconst (v := 0) hF dL_account_21 (by decide) ?_
    exact po_iretW hF hL dL_account_22 (Nat.le_of_ble_eq_true rfl) (Nat.le_of_ble_eq_true rfl) rfl rfl rfl
  · obtain rfl := po_oi_r hE1
    rcases hE E rfl with rfl | rfl
    · skip
      refine po_catch (nm := sIO) (tgt := 13) hF hL.2.2.2 [] ⟨0, 10, 13, 25⟩ [⟨0, 10, 17, 13⟩] rfl (fun w hw => absurd hw List.not_mem_nil) (by decide) (by decide) wq_672 wn_613 rfl (fun r => ?_)
      refine po_astore hF dL_account_13 (by decide) rfl ?_
      refine po_iconst (v := 1) hF dL_account_15 (by decide) ?_
      exact po_iretW hF hL dL_account_16 (Nat.le_of_ble_eq_true rfl) (Nat.le_of_ble_eq_true rfl) (wk_1 _).symm rfl rfl
    · skip
      refine po_catch (nm := sIA) (tgt := 17) hF hL.2.2.2 [⟨0, 10, 13, 25⟩] ⟨0, 10, 17, 13⟩ [] rfl (fun w hw => by
        rcases List.mem_singleton.mp hw with rfl
        exact ⟨by decide, sIO, wq_672, by decide +kernel⟩) (by decide) (by decide) wq_448 wn_367 rfl (fun r => ?_)
      refine po_astore hF dL_account_17 (by decide) rfl ?_
      refine po_iconst (v := 2) hF dL_account_19 (by decide) ?_
      exact po_iretW hF hL dL_account_20 (Nat.le_of_ble_eq_true rfl) (Nat.le_of_ble_eq_true rfl) (wk_2 (by decide +kernel)).symm rfl rfl
theorem w_meanFloorArea {K : po_K} {R : po_R} {I : po_I} {st : Nat → Nat} {o q : Nat} {w : UInt32 ⊕ String} (HL : po_Lay K R st) (ko : K o = (18, 8)) (kq : K q = (6, 1)) (hm : m_X7_meanFloorArea I o = some w) (hE : ∀ E, w = .inr E → E = sAE) (hN : ∀ v, w = .inl v → vf_n64 (FP.f2d v)) : po_CW st yL_meanFloorArea cL_meanFloorArea 3 [(0, 8, 11, 99)] 7 1 6 [.ref o, .ref q] K R I (wkd w) (wD R q w) I := by
  refine po_ofCW (by decide +kernel) (Nat.le_of_ble_eq_true rfl) (fun X G hF hL => ?_)
  refine po_aload_n hF dL_meanFloorArea_0 rfl rfl ?_
  refine po_iconst (v := 0) hF dL_meanFloorArea_1 (by decide) ?_
  refine po_aload_n hF dL_meanFloorArea_2 rfl rfl ?_
  refine po_callVo (As := []) (S := [.int 0, .ref q]) (c := 7) (o := po_of w) (K' := K) (R' := R) (I' := I) (z' := none) hF dL_meanFloorArea_3 wq_1170 mv_X7_meanFloorArea ws_X7_meanFloorArea rfl rfl ko (c_X7_meanFloorArea HL ko hm) rfl (po_rtW hL rfl) (Nat.le_of_ble_eq_true rfl) rfl (fun v hv => ?_) (fun E hE1 => ?_)
  · obtain ⟨x, rfl, rfl⟩ := po_of_l hv
    refine po_f2d hF dL_meanFloorArea_6 (hN x rfl) ?_
    refine po_dast (R' := po_u R q 0 (.double (FP.f2d x))) hF dL_meanFloorArea_7 kq (by decide) (by rw [show (0 : Int32).toNatClampNeg = 0 by decide]) ?_
    refine po_goto (tgt := 14) hF dL_meanFloorArea_8 (by decide) ?_
    refine po_iconst (v := 0) hF dL_meanFloorArea_14 (by decide) ?_
    exact po_iretW hF hL dL_meanFloorArea_15 (Nat.le_of_ble_eq_true rfl) (Nat.le_of_ble_eq_true rfl) rfl rfl rfl
  · obtain rfl := po_of_r hE1
    obtain rfl := hE E rfl
    refine po_catch (nm := sAE) (tgt := 11) hF hL.2.2.2 [] ⟨0, 8, 11, 99⟩ [] rfl (fun w hw => absurd hw List.not_mem_nil) (by decide) (by decide) wq_1156 wn_1079 rfl (fun r => ?_)
    refine po_astore_n hF dL_meanFloorArea_11 rfl (by decide) rfl ?_
    refine po_iconst (v := 1) hF dL_meanFloorArea_12 (by decide) ?_
    exact po_iretW hF hL dL_meanFloorArea_13 (Nat.le_of_ble_eq_true rfl) (Nat.le_of_ble_eq_true rfl) rfl rfl rfl
theorem w_count {K : po_K} {R : po_R} {I : po_I} {st : Nat → Nat} {o q : Nat} {a1 : Int32} {w : Int32 ⊕ String} (HL : po_Lay K R st) (ko : K o = (18, 8)) (kq : K q = (5, 1)) (hm : m_X7_count I o a1 = some w) (hE : ∀ E, w = .inr E → E = sIA) : po_CW st yL_count cL_count 4 [(0, 9, 12, 13)] 7 1 6 [.ref o, .int a1, .ref q] K R I (wk sIA w) (wR R q w) I := by
  refine po_ofCW (by decide +kernel) (Nat.le_of_ble_eq_true rfl) (fun X G hF hL => ?_)
  refine po_aload_n hF dL_count_0 rfl rfl ?_
  refine po_iconst (v := 0) hF dL_count_1 (by decide) ?_
  refine po_aload_n hF dL_count_2 rfl rfl ?_
  refine po_iload_n hF dL_count_3 rfl rfl ?_
  refine po_callVo (As := [.int a1]) (S := [.int 0, .ref q]) (c := 7) (o := po_oi w) (K' := K) (R' := R) (I' := I) (z' := none) hF dL_count_4 wq_1180 mv_X7_count ws_X7_count rfl rfl ko (c_X7_count HL ko hm) rfl (po_rtW hL rfl) (Nat.le_of_ble_eq_true rfl) rfl (fun v hv => ?_) (fun E hE1 => ?_)
  · obtain ⟨x, rfl, rfl⟩ := po_oi_l hv
    refine po_i2l hF dL_count_7 ?_
    refine po_last (R' := po_u R q 0 (.long x.toInt64)) hF dL_count_8 kq (by decide) (by rw [show (0 : Int32).toNatClampNeg = 0 by decide]) ?_
    refine po_goto (tgt := 15) hF dL_count_9 (by decide) ?_
    refine po_iconst (v := 0) hF dL_count_15 (by decide) ?_
    exact po_iretW hF hL dL_count_16 (Nat.le_of_ble_eq_true rfl) (Nat.le_of_ble_eq_true rfl) rfl rfl rfl
  · obtain rfl := po_oi_r hE1
    obtain rfl := hE E rfl
    refine po_catch (nm := sIA) (tgt := 12) hF hL.2.2.2 [] ⟨0, 9, 12, 13⟩ [] rfl (fun w hw => absurd hw List.not_mem_nil) (by decide) (by decide) wq_448 wn_367 rfl (fun r => ?_)
    refine po_astore_n hF dL_count_12 rfl (by decide) rfl ?_
    refine po_iconst (v := 1) hF dL_count_13 (by decide) ?_
    exact po_iretW hF hL dL_count_14 (Nat.le_of_ble_eq_true rfl) (Nat.le_of_ble_eq_true rfl) (wk_1 _).symm rfl rfl
theorem w_undo {K : po_K} {R : po_R} {I : po_I} {st : Nat → Nat} {o q : Nat} {w : Int32 ⊕ String} {I1 : po_I} (HL : po_Lay K R st) (ko : K o = (18, 8)) (kq : K q = (5, 1)) (hm : m_X7_undo R I o = some (w, I1)) (hE : ∀ E, w = .inr E → E = sIS) : po_CW st yL_undo cL_undo 3 [(0, 8, 11, 15)] 7 1 6 [.ref o, .ref q] K R I (wk sIS w) (wR R q w) I1 := by
  refine po_ofCW (by decide +kernel) (Nat.le_of_ble_eq_true rfl) (fun X G hF hL => ?_)
  refine po_aload_n hF dL_undo_0 rfl rfl ?_
  refine po_iconst (v := 0) hF dL_undo_1 (by decide) ?_
  refine po_aload_n hF dL_undo_2 rfl rfl ?_
  refine po_callVo (As := []) (S := [.int 0, .ref q]) (c := 7) (o := po_oi w) (K' := K) (R' := R) (I' := I1) (z' := none) hF dL_undo_3 wq_1196 mv_X7_undo ws_X7_undo rfl rfl ko (c_X7_undo HL ko hm) rfl (po_rtW hL rfl) (Nat.le_of_ble_eq_true rfl) rfl (fun v hv => ?_) (fun E hE1 => ?_)
  · obtain ⟨x, rfl, rfl⟩ := po_oi_l hv
    refine po_i2l hF dL_undo_6 ?_
    refine po_last (R' := po_u R q 0 (.long x.toInt64)) hF dL_undo_7 kq (by decide) (by rw [show (0 : Int32).toNatClampNeg = 0 by decide]) ?_
    refine po_goto (tgt := 14) hF dL_undo_8 (by decide) ?_
    refine po_iconst (v := 0) hF dL_undo_14 (by decide) ?_
    exact po_iretW hF hL dL_undo_15 (Nat.le_of_ble_eq_true rfl) (Nat.le_of_ble_eq_true rfl) rfl rfl rfl
  · obtain rfl := po_oi_r hE1
    obtain rfl := hE E rfl
    refine po_catch (nm := sIS) (tgt := 11) hF hL.2.2.2 [] ⟨0, 8, 11, 15⟩ [] rfl (fun w hw => absurd hw List.not_mem_nil) (by decide) (by decide) wq_449 wn_438 rfl (fun r => ?_)
    refine po_astore_n hF dL_undo_11 rfl (by decide) rfl ?_
    refine po_iconst (v := 1) hF dL_undo_12 (by decide) ?_
    exact po_iretW hF hL dL_undo_13 (Nat.le_of_ble_eq_true rfl) (Nat.le_of_ble_eq_true rfl) (wk_1 _).symm rfl rfl
theorem w_restore {K : po_K} {R : po_R} {I : po_I} {st : Nat → Nat} {o q : Nat} {w : Int32 ⊕ String} {I1 : po_I} (HL : po_Lay K R st) (ko : K o = (18, 8)) (kq : K q = (5, 1)) (hm : m_X7_restore I o = some (w, I1)) (hE : ∀ E, w = .inr E → E = sIS) : po_CW st yL_restore cL_restore 3 [(0, 8, 11, 15)] 7 1 6 [.ref o, .ref q] K R I (wk sIS w) (wR R q w) I1 := by
  refine po_ofCW (by decide +kernel) (Nat.le_of_ble_eq_true rfl) (fun X G hF hL => ?_)
  refine po_aload_n hF dL_restore_0 rfl rfl ?_
  refine po_iconst (v := 0) hF dL_restore_1 (by decide) ?_
  refine po_aload_n hF dL_restore_2 rfl rfl ?_
  refine po_callVo (As := []) (S := [.int 0, .ref q]) (c := 7) (o := po_oi w) (K' := K) (R' := R) (I' := I1) (z' := none) hF dL_restore_3 wq_1204 mv_X7_restore ws_X7_restore rfl rfl ko (c_X7_restore HL ko hm) rfl (po_rtW hL rfl) (Nat.le_of_ble_eq_true rfl) rfl (fun v hv => ?_) (fun E hE1 => ?_)
  · obtain ⟨x, rfl, rfl⟩ := po_oi_l hv
    refine po_i2l hF dL_restore_6 ?_
    refine po_last (R' := po_u R q 0 (.long x.toInt64)) hF dL_restore_7 kq (by decide) (by rw [show (0 : Int32).toNatClampNeg = 0 by decide]) ?_
    refine po_goto (tgt := 14) hF dL_restore_8 (by decide) ?_
    refine po_iconst (v := 0) hF dL_restore_14 (by decide) ?_
    exact po_iretW hF hL dL_restore_15 (Nat.le_of_ble_eq_true rfl) (Nat.le_of_ble_eq_true rfl) rfl rfl rfl
  · obtain rfl := po_oi_r hE1
    obtain rfl := hE E rfl
    refine po_catch (nm := sIS) (tgt := 11) hF hL.2.2.2 [] ⟨0, 8, 11, 15⟩ [] rfl (fun w hw => absurd hw List.not_mem_nil) (by decide) (by decide) wq_449 wn_438 rfl (fun r => ?_)
    refine po_astore_n hF dL_restore_11 rfl (by decide) rfl ?_
    refine po_iconst (v := 1) hF dL_restore_12 (by decide) ?_
    exact po_iretW hF hL dL_restore_13 (Nat.le_of_ble_eq_true rfl) (Nat.le_of_ble_eq_true rfl) (wk_1 _).symm rfl rfl
