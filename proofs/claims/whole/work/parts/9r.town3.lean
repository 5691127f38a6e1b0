/-! CONSTRUCTORS: a town -/
def nT0K (K : po_K) (a : Nat) : po_K := po_w (po_w (po_w (po_w K (a + 1) (1, 28)) (a + 2) (7, 8)) (a + 3) (8, 10)) (a + 4) (9, 12)
def nT0R (R : po_R) (a : Nat) : po_R := po_u (po_w (po_u (po_w (po_u (po_w (po_u (po_w R (a + 1) (nw .null)) a 1 (.ref (a + 1))) (a + 2) (nw .null)) a 2 (.ref (a + 2))) (a + 3) (nw .null)) a 4 (.ref (a + 3))) (a + 4) (nw .null)) a 6 (.ref (a + 4))
def nT0I (I : po_I) (a : Nat) : po_I := po_u (po_w (po_u (po_w (po_u (po_w (po_w (po_u I a 0 0) (a + 1) (nw 0)) (a + 2) (nw 0)) a 3 0) (a + 3) (nw 0)) a 5 0) (a + 4) (nw 0)) a 7 0
def nRuls (a b : Nat) (I : po_I) : Nat → po_I
  | 0 => I
  | j + 1 => po_u (nRuls a b I j) (a + 1) j (nRuls a b I j b (j % 7))
def nT (b a : Nat) (s : n3) : n3 := nVars a (nPrms a (nLots a (nT0K s.1 a, nT0R s.2.1 a, nRuls a b (nT0I s.2.2 a) 28) 8) 10) 12
theorem wI_X5_3 : Cond.methodLink RX5 3 Lib.objectInit ∈ po_TB := List.mem_filter.mpr (by decide +kernel)
theorem gl_5_46 : po_GL RX5 46 "FIRST_RULES" := by
  unfold po_GL
  first
    | exact Or.inr ⟨"PermitOffice", List.mem_filter.mpr (by decide +kernel)⟩
    | exact Or.inl (List.mem_filter.mpr (by decide +kernel))
theorem n_rem {j : Nat} (hj : j < 28) : Int32.ofNat j - Int32.ofNat j / 7 * 7 = Int32.ofNat (j % 7) := by
  have key : ∀ j, j < 28 → Int32.ofNat j - Int32.ofNat j / 7 * 7 = Int32.ofNat (j % 7) := by decide +kernel
  exact key j hj
section QG5
variable {K : po_K} {R : po_R} {I : po_I} {st : Nat → Nat} {a q mc ms k n : Nat} {s : n3} {X : po_X} {G : po_G} {Q : State → Prop} {z : Option Nat}
set_option maxRecDepth 20000 in
theorem w_X5_ruls (hF : po_F X G cX5_init RX5 2 st) (ka : K a = (16, 8)) (k1 : K (a + 1) = (1, 28)) (kb : K (st 0) = (2, 7)) (ra : R a 1 = .ref (a + 1))
    (kk : po_V X G 2 Q k n 87 [(0, .ref a), (1, .int (Int32.ofNat 28))] [] K R (nRuls a (st 0) I 28) z) : ∀ d j, j + d = 28 → po_V X G 2 Q k n 61 [(0, .ref a), (1, .int (Int32.ofNat j))] [] K R (nRuls a (st 0) I j) z := by
  intro d
  induction d with
  | zero =>
    intro j hj
    obtain rfl : j = 28 := by omega
    refine po_iload_n hF dX5_init_61 rfl rfl ?_
    refine po_bipush (v := 28) hF dX5_init_62 (by decide) ?_
    refine po_icmp_ge (tgt := 87) (A := some ()) (B := Option.none) (r := ()) hF dX5_init_64 (by decide) (if_pos (by decide)) (fun _ => kk) (fun hm => ?_)
    cases hm
  | succ d ih =>
    intro j hj
    have ihj := ih (j + 1) (by omega)
    have e1 : nRuls a (st 0) I (j + 1) = po_u (nRuls a (st 0) I j) (a + 1) j (nRuls a (st 0) I j (st 0) (j % 7)) := rfl
    rw [e1] at ihj
    generalize nRuls a (st 0) I j = T at *
    refine po_iload_n hF dX5_init_61 rfl rfl ?_
    refine po_bipush (v := 28) hF dX5_init_62 (by decide) ?_
    refine po_icmp_ge (tgt := 87) (A := Option.none) (B := some ()) (r := ()) hF dX5_init_64 (by decide) (if_neg (show ¬ (28 : Int32) ≤ Int32.ofNat j from mt (pl_le (a := 28) (by omega) (by omega)).mp (by omega))) (fun hm => by cases hm) (fun _ => ?_)
    refine po_aload_n hF dX5_init_67 rfl rfl ?_
    refine po_getf (v := .ref (a + 1)) hF dX5_init_68 fl_X5_15 ka ra ?_
    refine po_iload_n hF dX5_init_71 rfl rfl ?_
    refine po_gets (b := st 0) hF dX5_init_72 gl_5_46 (Or.inl ⟨rfl, rfl⟩) ?_
    refine po_iload_n hF dX5_init_75 rfl rfl ?_
    refine po_bipush (v := 7) hF dX5_init_76 (by decide) ?_
    refine po_iremK hF dX5_init_78 (by decide) ?_
    rw [n_rem (by omega)]
    refine po_ialdC (j := j % 7) hF dX5_init_79 kb (Or.inr rfl) (pl_clamp (by omega)) (mt (pl_not0 (by omega)).mp id) (by omega) ?_
    refine po_iastC (j := j) hF dX5_init_80 k1 (pl_clamp (by omega)) (mt (pl_not0 (by omega)).mp id) (by omega) rfl ?_
    refine po_iinc (v := Int32.ofNat (j + 1)) (L' := [(1, .int (Int32.ofNat (j + 1))), (0, .ref a)]) hF dX5_init_81 rfl (pl_add j 1) (by decide) rfl ?_
    refine po_goto (tgt := 61) hF dX5_init_84 (by decide) ?_
    refine po_sub (L' := [(0, .ref a), (1, .int (Int32.ofNat (j + 1)))]) rfl ?_
    exact ihj
set_option maxRecDepth 20000 in
set_option maxHeartbeats 2000000 in
theorem c_X5_init (ha : K a = (16, 8)) (hst : st 0 < a) (kb : K (st 0) = (2, 7)) : po_C st yX5_init cX5_init 2 Option.none 3 90 718 [.ref a] K R I (some (a + 1)) (.inl Option.none) (nT (st 0) a (K, R, I)).1 (nT (st 0) a (K, R, I)).2.1 (nT (st 0) a (K, R, I)).2.2 (some (a + 91)) := by
  refine po_ofC (by decide +kernel) (Nat.le_of_ble_eq_true rfl) (fun X G hF hL => ?_)
  have hr := hL.2.2.1
  refine po_aload_n hF dX5_init_0 rfl rfl ?_
  refine po_objInit hF dX5_init_1 wI_X5_3 wI_obj (by rw [hr]; decide) (by rw [hr]; decide) ?_
  refine po_aload_n hF dX5_init_4 rfl rfl ?_
  refine po_iconst (v := 0) hF dX5_init_5 (by decide) ?_
  refine po_puti hF dX5_init_6 fl_X5_9 ha (fun r h => by cases h; rfl) rfl rfl (fun _ => rfl) rfl ?_
  refine po_aload_n hF dX5_init_9 rfl rfl ?_
  refine po_bipush (v := 28) hF dX5_init_10 (by decide) ?_
  refine po_newa (c := 1) (m := 28) (rr := fun _ => .null) (ii := fun _ => 0) hF dX5_init_12 wI_int (by omega) (by omega) rfl (fun C h => by cases h) rfl (by decide) (by decide) (fun j => rfl) (by rw [hr]; decide) (by rw [hr]; decide) ?_
  have h1 : (po_w K (a + 1) (1, 28)) a = (16, 8) := by rw [po_w_ne (by omega)]; exact ha
  refine po_putF (c := 5) (j := 1) hF dX5_init_14 (show po_cl[5]? = some _ from rfl) (by decide) rfl wq_347 ⟨rfl, rfl⟩ hL.2.2.2.2 h1 rfl rfl rfl (fun _ => rfl) rfl ?_
  refine po_aload_n hF dX5_init_17 rfl rfl ?_
  refine po_bipush (v := 8) hF dX5_init_18 (by decide) ?_
  refine po_anewa (c := 7) (m := 8) (C := RX1) hF dX5_init_20 (List.mem_filter.mpr (by decide +kernel)) (by decide) (by omega) (by omega) rfl rfl (by decide) (by decide) (by rw [hr]; decide) (by rw [hr]; decide) ?_
  have h2 : (po_w (po_w K (a + 1) (1, 28)) (a + 2) (7, 8)) a = (16, 8) := by rw [po_w_ne (by omega)]; exact h1
  refine po_putF (c := 5) (j := 2) hF dX5_init_23 (show po_cl[5]? = some _ from rfl) (by decide) rfl wq_348 ⟨rfl, rfl⟩ hL.2.2.2.2 h2 rfl rfl rfl (fun _ => rfl) rfl ?_
  refine po_aload_n hF dX5_init_26 rfl rfl ?_
  refine po_iconst (v := 0) hF dX5_init_27 (by decide) ?_
  refine po_puti hF dX5_init_28 fl_X5_25 h2 (fun r h => by cases h; rfl) rfl rfl (fun _ => rfl) rfl ?_
  refine po_aload_n hF dX5_init_31 rfl rfl ?_
  refine po_bipush (v := 10) hF dX5_init_32 (by decide) ?_
  refine po_anewa (c := 8) (m := 10) (C := RX2) hF dX5_init_34 (List.mem_filter.mpr (by decide +kernel)) (by decide) (by omega) (by omega) rfl rfl (by decide) (by decide) (by rw [hr]; decide) (by rw [hr]; decide) ?_
  have h3 : (po_w (po_w (po_w K (a + 1) (1, 28)) (a + 2) (7, 8)) (a + 3) (8, 10)) a = (16, 8) := by rw [po_w_ne (by omega)]; exact h2
  refine po_putF (c := 5) (j := 4) hF dX5_init_37 (show po_cl[5]? = some _ from rfl) (by decide) rfl wq_354 ⟨rfl, rfl⟩ hL.2.2.2.2 h3 rfl rfl rfl (fun _ => rfl) rfl ?_
  refine po_aload_n hF dX5_init_40 rfl rfl ?_
  refine po_iconst (v := 0) hF dX5_init_41 (by decide) ?_
  refine po_puti hF dX5_init_42 fl_X5_34 h3 (fun r h => by cases h; rfl) rfl rfl (fun _ => rfl) rfl ?_
  refine po_aload_n hF dX5_init_45 rfl rfl ?_
  refine po_bipush (v := 12) hF dX5_init_46 (by decide) ?_
  refine po_anewa (c := 9) (m := 12) (C := RX6) hF dX5_init_48 (List.mem_filter.mpr (by decide +kernel)) (by decide) (by omega) (by omega) rfl rfl (by decide) (by decide) (by rw [hr]; decide) (by rw [hr]; decide) ?_
  have h4 : (nT0K K a) a = (16, 8) := by unfold nT0K; rw [po_w_ne (by omega)]; exact h3
  refine po_putF (c := 5) (j := 6) hF dX5_init_51 (show po_cl[5]? = some _ from rfl) (by decide) rfl wq_360 ⟨rfl, rfl⟩ hL.2.2.2.2 h4 rfl rfl rfl (fun _ => rfl) rfl ?_
  refine po_aload_n hF dX5_init_54 rfl rfl ?_
  refine po_iconst (v := 0) hF dX5_init_55 (by decide) ?_
  refine po_puti hF dX5_init_56 fl_X5_43 h4 (fun r h => by cases h; rfl) rfl rfl (fun _ => rfl) rfl ?_
  refine po_iconst (v := 0) hF dX5_init_59 (by decide) ?_
  refine po_istore_n (L' := [(1, .int 0), (0, .ref a)]) hF dX5_init_60 rfl (by decide) rfl ?_
  refine po_sub (L' := [(0, .ref a), (1, .int (Int32.ofNat 0))]) rfl ?_
  have g1 : (nT0K K a) (a + 1) = (1, 28) := by unfold nT0K; rw [po_w_ne (by omega), po_w_ne (by omega), po_w_ne (by omega), po_w_at]
  have g2 : (nT0K K a) (a + 2) = (7, 8) := by unfold nT0K; rw [po_w_ne (by omega), po_w_ne (by omega), po_w_at]
  have g3 : (nT0K K a) (a + 3) = (8, 10) := by unfold nT0K; rw [po_w_ne (by omega), po_w_at]
  have g4 : (nT0K K a) (a + 4) = (9, 12) := by unfold nT0K; rw [po_w_at]
  have gb : (nT0K K a) (st 0) = (2, 7) := by unfold nT0K; rw [po_w_ne (by omega), po_w_ne (by omega), po_w_ne (by omega), po_w_ne (by omega)]; exact kb
  have r1 : (nT0R R a) a 1 = .ref (a + 1) := by unfold nT0R; rw [po_uu, if_neg (by omega), po_w_ne (by omega), po_uu, if_neg (by omega), po_w_ne (by omega), po_uu, if_neg (by omega), po_w_ne (by omega), po_uaa]
  have r2 : (nT0R R a) a 2 = .ref (a + 2) := by unfold nT0R; rw [po_uu, if_neg (by omega), po_w_ne (by omega), po_uu, if_neg (by omega), po_w_ne (by omega), po_uaa]
  have r4 : (nT0R R a) a 4 = .ref (a + 3) := by unfold nT0R; rw [po_uu, if_neg (by omega), po_w_ne (by omega), po_uaa]
  have r6 : (nT0R R a) a 6 = .ref (a + 4) := by unfold nT0R; rw [po_uaa]
  refine w_X5_ruls (K := nT0K K a) (R := nT0R R a) (I := nT0I I a) hF h4 g1 gb r1 ?_ 28 0 rfl
  refine po_iconst (v := 0) hF dX5_init_87 (by decide) ?_
  refine po_istore_n (L' := [(1, .int 0), (0, .ref a)]) hF dX5_init_88 rfl (by decide) rfl ?_
  refine po_sub (L' := [(0, .ref a), (1, .int (Int32.ofNat 0))]) rfl ?_
  refine w_X5_lots (s := (nT0K K a, nT0R R a, nRuls a (st 0) (nT0I I a) 28)) (k := 4) (n := 58) hF hL (by omega) h4 g2 r2 (by omega) (by omega) ?_ 8 0 rfl
  obtain ⟨m1, m2, _⟩ := nLots_lo (a := a) (nT0K K a, nT0R R a, nRuls a (st 0) (nT0I I a) 28) 8 a (by omega)
  obtain ⟨m3, _, _⟩ := nLots_lo (a := a) (nT0K K a, nT0R R a, nRuls a (st 0) (nT0I I a) 28) 8 (a + 3) (by omega)
  obtain ⟨m4, _, _⟩ := nLots_lo (a := a) (nT0K K a, nT0R R a, nRuls a (st 0) (nT0I I a) 28) 8 (a + 4) (by omega)
  have eT : nT (st 0) a (K, R, I) = nVars a (nPrms a (nLots a (nT0K K a, nT0R R a, nRuls a (st 0) (nT0I I a) 28) 8) 10) 12 := rfl
  rw [eT]
  have m2' := m2 (by omega)
  generalize nLots a (nT0K K a, nT0R R a, nRuls a (st 0) (nT0I I a) 28) 8 = T at *
  refine po_iconst (v := 0) hF dX5_init_114 (by decide) ?_
  refine po_istore_n (L' := [(1, .int 0), (0, .ref a)]) hF dX5_init_115 rfl (by decide) rfl ?_
  refine po_sub (L' := [(0, .ref a), (1, .int (Int32.ofNat 0))]) rfl ?_
  refine w_X5_prms (s := T) (k := 28) (n := 210) hF hL (by omega) (m1.trans h4) (m3.trans g3) (by rw [m2']; exact r4) (by omega) (by omega) ?_ 10 0 rfl
  obtain ⟨p1, p2, _⟩ := nPrms_lo (a := a) T 10 a (by omega)
  obtain ⟨p4, _, _⟩ := nPrms_lo (a := a) T 10 (a + 4) (by omega)
  have p2' := p2 (by omega)
  generalize nPrms a T 10 = U at *
  refine po_iconst (v := 0) hF dX5_init_141 (by decide) ?_
  refine po_istore_n (L' := [(1, .int 0), (0, .ref a)]) hF dX5_init_142 rfl (by decide) rfl ?_
  refine po_sub (L' := [(0, .ref a), (1, .int (Int32.ofNat 0))]) rfl ?_
  refine w_X5_vars (s := U) (k := 78) (n := 670) hF hL (by omega) (p1.trans (m1.trans h4)) (p4.trans (m4.trans g4)) (by rw [p2', m2']; exact r6) (by omega) (by omega) ?_ 12 0 rfl
  exact po_vret hF hL dX5_init_168 (by decide) (by decide) rfl rfl rfl (Or.inl rfl)
end QG5
