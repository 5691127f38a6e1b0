/-! CONSTRUCTORS: the model's -/
theorem n_ix0 (r : Nat) (h : r < 4) : Int32.toNatClampNeg (4 + 7 * Int32.ofNat r) = 4 + 7 * r ∧ ¬ (4 + 7 * Int32.ofNat r : Int32) < 0 := by
  have key : ∀ r, r < 4 → Int32.toNatClampNeg (4 + 7 * Int32.ofNat r) = 4 + 7 * r ∧ ¬ (4 + 7 * Int32.ofNat r : Int32) < 0 := by decide +kernel
  exact key r h
theorem n_ix1 (r : Nat) (h : r < 4) : Int32.toNatClampNeg (4 + 7 * Int32.ofNat r + 1) = 4 + 7 * r + 1 ∧ ¬ (4 + 7 * Int32.ofNat r + 1 : Int32) < 0 := by
  have key : ∀ r, r < 4 → Int32.toNatClampNeg (4 + 7 * Int32.ofNat r + 1) = 4 + 7 * r + 1 ∧ ¬ (4 + 7 * Int32.ofNat r + 1 : Int32) < 0 := by decide +kernel
  exact key r h
theorem n_ix2 (r : Nat) (h : r < 4) : Int32.toNatClampNeg (4 + 7 * Int32.ofNat r + 2) = 4 + 7 * r + 2 ∧ ¬ (4 + 7 * Int32.ofNat r + 2 : Int32) < 0 := by
  have key : ∀ r, r < 4 → Int32.toNatClampNeg (4 + 7 * Int32.ofNat r + 2) = 4 + 7 * r + 2 ∧ ¬ (4 + 7 * Int32.ofNat r + 2 : Int32) < 0 := by decide +kernel
  exact key r h
theorem n_ix3 (r : Nat) (h : r < 4) : Int32.toNatClampNeg (4 + 7 * Int32.ofNat r + 3) = 4 + 7 * r + 3 ∧ ¬ (4 + 7 * Int32.ofNat r + 3 : Int32) < 0 := by
  have key : ∀ r, r < 4 → Int32.toNatClampNeg (4 + 7 * Int32.ofNat r + 3) = 4 + 7 * r + 3 ∧ ¬ (4 + 7 * Int32.ofNat r + 3 : Int32) < 0 := by decide +kernel
  exact key r h
theorem n_ix4 (r : Nat) (h : r < 4) : Int32.toNatClampNeg (4 + 7 * Int32.ofNat r + 4) = 4 + 7 * r + 4 ∧ ¬ (4 + 7 * Int32.ofNat r + 4 : Int32) < 0 := by
  have key : ∀ r, r < 4 → Int32.toNatClampNeg (4 + 7 * Int32.ofNat r + 4) = 4 + 7 * r + 4 ∧ ¬ (4 + 7 * Int32.ofNat r + 4 : Int32) < 0 := by decide +kernel
  exact key r h
theorem n_ix5 (r : Nat) (h : r < 4) : Int32.toNatClampNeg (4 + 7 * Int32.ofNat r + 5) = 4 + 7 * r + 5 ∧ ¬ (4 + 7 * Int32.ofNat r + 5 : Int32) < 0 := by
  have key : ∀ r, r < 4 → Int32.toNatClampNeg (4 + 7 * Int32.ofNat r + 5) = 4 + 7 * r + 5 ∧ ¬ (4 + 7 * Int32.ofNat r + 5 : Int32) < 0 := by decide +kernel
  exact key r h
theorem n_ix6 (r : Nat) (h : r < 4) : Int32.toNatClampNeg (4 + 7 * Int32.ofNat r + 6) = 4 + 7 * r + 6 ∧ ¬ (4 + 7 * Int32.ofNat r + 6 : Int32) < 0 := by
  have key : ∀ r, r < 4 → Int32.toNatClampNeg (4 + 7 * Int32.ofNat r + 6) = 4 + 7 * r + 6 ∧ ¬ (4 + 7 * Int32.ofNat r + 6 : Int32) < 0 := by decide +kernel
  exact key r h
def nMrl (o : Nat) (I : po_I) (r : Nat) : po_I := po_u (po_u (po_u (po_u (po_u (po_u (po_u (I) (o + 1) (4 + 7 * r) 2) (o + 1) (4 + 7 * r + 1) 1) (o + 1) (4 + 7 * r + 2) 50) (o + 1) (4 + 7 * r + 3) 3) (o + 1) (4 + 7 * r + 4) 10) (o + 1) (4 + 7 * r + 5) 63) (o + 1) (4 + 7 * r + 6) 1
def nMrls (o : Nat) (I : po_I) : Nat → po_I
  | 0 => I
  | r + 1 => nMrl o (nMrls o I r) r
def nM0 (o : Nat) (s : n3) : n3 := (po_w (po_w (po_w (po_w (po_w (po_w (po_w (s.1) (o + 1) (1, 668)) (o + 2) (1, 4008)) (o + 3) (1, 668)) (o + 4) (1, 668)) (o + 5) (1, 60)) (o + 6) (1, 12)) (o + 7) (4, 280), po_u (po_w (po_u (po_w (po_u (po_w (po_u (po_w (po_u (po_w (po_u (po_w (po_u (po_w (s.2.1) (o + 1) (nw .null)) o 1 (.ref (o + 1))) (o + 2) (nw .null)) o 2 (.ref (o + 2))) (o + 3) (nw .null)) o 4 (.ref (o + 3))) (o + 4) (nw .null)) o 5 (.ref (o + 4))) (o + 5) (nw .null)) o 11 (.ref (o + 5))) (o + 6) (nw .null)) o 16 (.ref (o + 6))) (o + 7) (nw .null)) o 18 (.ref (o + 7)), po_w (po_w (po_u (po_w (po_w (po_w (po_w (po_w (s.2.2) (o + 1) (nw 0)) (o + 2) (nw 0)) (o + 3) (nw 0)) (o + 4) (nw 0)) (o + 5) (nw 0)) o 15 (-1)) (o + 6) (nw 0)) (o + 7) (nw 0))
def nM (o : Nat) (s : n3) : n3 := ((nM0 o s).1, (nM0 o s).2.1, nMrls o (nM0 o s).2.2 4)
theorem wI_X8_7 : Cond.methodLink RX8 7 Lib.objectInit ∈ po_TB := List.mem_filter.mpr (by decide +kernel)
theorem wI_bool : Cond.arrayClass (newarray.typeOf .boolean) ∈ po_TB := List.mem_filter.mpr (by decide +kernel)
section QG8
variable {K : po_K} {R : po_R} {I : po_I} {st : Nat → Nat} {a q o b mc ms k n : Nat} {s : n3} {X : po_X} {G : po_G} {Q : State → Prop} {z : Option Nat}
set_option maxRecDepth 20000 in
theorem w_X8_rules (hF : po_F X G cX8_init RX8 2 st) (ka : K o = (19, 19)) (k1 : K (o + 1) = (1, 668)) (ra : R o 1 = .ref (o + 1))
    (kk : po_V X G 2 Q k n 183 [(0, .ref o), (1, .int (Int32.ofNat 4))] [] K R (nMrls o I 4) z) : ∀ d j, j + d = 4 → po_V X G 2 Q k n 72 [(0, .ref o), (1, .int (Int32.ofNat j))] [] K R (nMrls o I j) z := by
  intro d
  induction d with
  | zero =>
    intro j hj
    obtain rfl : j = 4 := by omega
    refine po_iload_n hF dX8_init_72 rfl rfl ?_
    refine po_iconst (v := 4) hF dX8_init_73 (by decide) ?_
    refine po_icmp_ge (tgt := 183) (A := some ()) (B := Option.none) (r := ()) hF dX8_init_74 (by decide) (if_pos (by decide)) (fun _ => kk) (fun hm => ?_)
    cases hm
  | succ d ih =>
    intro j hj
    have hj4 : j < 4 := by omega
    have ihj := ih (j + 1) (by omega)
    have e1 : nMrls o I (j + 1) = nMrl o (nMrls o I j) j := rfl
    rw [e1] at ihj
    generalize nMrls o I j = T at *
    refine po_iload_n hF dX8_init_72 rfl rfl ?_
    refine po_iconst (v := 4) hF dX8_init_73 (by decide) ?_
    refine po_icmp_ge (tgt := 183) (A := Option.none) (B := some ()) (r := ()) hF dX8_init_74 (by decide) (if_neg (show ¬ (4 : Int32) ≤ Int32.ofNat j from mt (pl_le (a := 4) (by omega) (by omega)).mp (by omega))) (fun hm => by cases hm) (fun _ => ?_)
    refine po_aload_n hF dX8_init_77 rfl rfl ?_
    refine po_getf (v := .ref (o + 1)) hF dX8_init_78 fl_X8_13 ka ra ?_
    refine po_iconst (v := 4) hF dX8_init_81 (by decide) ?_
    refine po_bipush (v := 7) hF dX8_init_82 (by decide) ?_
    refine po_iload_n hF dX8_init_84 rfl rfl ?_
    refine po_imul hF dX8_init_85 ?_
    refine po_iadd hF dX8_init_86 ?_
    refine po_iconst (v := 2) hF dX8_init_87 (by decide) ?_
    refine po_iastC (j := 4 + 7 * j) hF dX8_init_88 k1 (n_ix0 j hj4).1 (n_ix0 j hj4).2 (by omega) rfl ?_
    refine po_aload_n hF dX8_init_89 rfl rfl ?_
    refine po_getf (v := .ref (o + 1)) hF dX8_init_90 fl_X8_13 ka ra ?_
    refine po_iconst (v := 4) hF dX8_init_93 (by decide) ?_
    refine po_bipush (v := 7) hF dX8_init_94 (by decide) ?_
    refine po_iload_n hF dX8_init_96 rfl rfl ?_
    refine po_imul hF dX8_init_97 ?_
    refine po_iadd hF dX8_init_98 ?_
    refine po_iconst (v := 1) hF dX8_init_99 (by decide) ?_
    refine po_iadd hF dX8_init_100 ?_
    refine po_iconst (v := 1) hF dX8_init_101 (by decide) ?_
    refine po_iastC (j := 4 + 7 * j + 1) hF dX8_init_102 k1 (n_ix1 j hj4).1 (n_ix1 j hj4).2 (by omega) rfl ?_
    refine po_aload_n hF dX8_init_103 rfl rfl ?_
    refine po_getf (v := .ref (o + 1)) hF dX8_init_104 fl_X8_13 ka ra ?_
    refine po_iconst (v := 4) hF dX8_init_107 (by decide) ?_
    refine po_bipush (v := 7) hF dX8_init_108 (by decide) ?_
    refine po_iload_n hF dX8_init_110 rfl rfl ?_
    refine po_imul hF dX8_init_111 ?_
    refine po_iadd hF dX8_init_112 ?_
    refine po_iconst (v := 2) hF dX8_init_113 (by decide) ?_
    refine po_iadd hF dX8_init_114 ?_
    refine po_bipush (v := 50) hF dX8_init_115 (by decide) ?_
    refine po_iastC (j := 4 + 7 * j + 2) hF dX8_init_117 k1 (n_ix2 j hj4).1 (n_ix2 j hj4).2 (by omega) rfl ?_
    refine po_aload_n hF dX8_init_118 rfl rfl ?_
    refine po_getf (v := .ref (o + 1)) hF dX8_init_119 fl_X8_13 ka ra ?_
    refine po_iconst (v := 4) hF dX8_init_122 (by decide) ?_
    refine po_bipush (v := 7) hF dX8_init_123 (by decide) ?_
    refine po_iload_n hF dX8_init_125 rfl rfl ?_
    refine po_imul hF dX8_init_126 ?_
    refine po_iadd hF dX8_init_127 ?_
    refine po_iconst (v := 3) hF dX8_init_128 (by decide) ?_
    refine po_iadd hF dX8_init_129 ?_
    refine po_iconst (v := 3) hF dX8_init_130 (by decide) ?_
    refine po_iastC (j := 4 + 7 * j + 3) hF dX8_init_131 k1 (n_ix3 j hj4).1 (n_ix3 j hj4).2 (by omega) rfl ?_
    refine po_aload_n hF dX8_init_132 rfl rfl ?_
    refine po_getf (v := .ref (o + 1)) hF dX8_init_133 fl_X8_13 ka ra ?_
    refine po_iconst (v := 4) hF dX8_init_136 (by decide) ?_
    refine po_bipush (v := 7) hF dX8_init_137 (by decide) ?_
    refine po_iload_n hF dX8_init_139 rfl rfl ?_
    refine po_imul hF dX8_init_140 ?_
    refine po_iadd hF dX8_init_141 ?_
    refine po_iconst (v := 4) hF dX8_init_142 (by decide) ?_
    refine po_iadd hF dX8_init_143 ?_
    refine po_bipush (v := 10) hF dX8_init_144 (by decide) ?_
    refine po_iastC (j := 4 + 7 * j + 4) hF dX8_init_146 k1 (n_ix4 j hj4).1 (n_ix4 j hj4).2 (by omega) rfl ?_
    refine po_aload_n hF dX8_init_147 rfl rfl ?_
    refine po_getf (v := .ref (o + 1)) hF dX8_init_148 fl_X8_13 ka ra ?_
    refine po_iconst (v := 4) hF dX8_init_151 (by decide) ?_
    refine po_bipush (v := 7) hF dX8_init_152 (by decide) ?_
    refine po_iload_n hF dX8_init_154 rfl rfl ?_
    refine po_imul hF dX8_init_155 ?_
    refine po_iadd hF dX8_init_156 ?_
    refine po_iconst (v := 5) hF dX8_init_157 (by decide) ?_
    refine po_iadd hF dX8_init_158 ?_
    refine po_bipush (v := 63) hF dX8_init_159 (by decide) ?_
    refine po_iastC (j := 4 + 7 * j + 5) hF dX8_init_161 k1 (n_ix5 j hj4).1 (n_ix5 j hj4).2 (by omega) rfl ?_
    refine po_aload_n hF dX8_init_162 rfl rfl ?_
    refine po_getf (v := .ref (o + 1)) hF dX8_init_163 fl_X8_13 ka ra ?_
    refine po_iconst (v := 4) hF dX8_init_166 (by decide) ?_
    refine po_bipush (v := 7) hF dX8_init_167 (by decide) ?_
    refine po_iload_n hF dX8_init_169 rfl rfl ?_
    refine po_imul hF dX8_init_170 ?_
    refine po_iadd hF dX8_init_171 ?_
    refine po_bipush (v := 6) hF dX8_init_172 (by decide) ?_
    refine po_iadd hF dX8_init_174 ?_
    refine po_iconst (v := 1) hF dX8_init_175 (by decide) ?_
    refine po_iastC (j := 4 + 7 * j + 6) hF dX8_init_176 k1 (n_ix6 j hj4).1 (n_ix6 j hj4).2 (by omega) rfl ?_
    refine po_iinc (v := Int32.ofNat (j + 1)) (L' := [(1, .int (Int32.ofNat (j + 1))), (0, .ref o)]) hF dX8_init_177 rfl (pl_add j 1) (by decide) rfl ?_
    refine po_goto (tgt := 72) hF dX8_init_180 (by decide) ?_
    refine po_sub (L' := [(0, .ref o), (1, .int (Int32.ofNat (j + 1)))]) rfl ?_
    exact ihj
set_option maxRecDepth 20000 in
set_option maxHeartbeats 2000000 in
theorem c_X8_init (ha : s.1 o = (19, 19)) : po_C st yX8_init cX8_init 2 Option.none 1 7 6364 [.ref o] s.1 s.2.1 s.2.2 (some (o + 1)) (.inl Option.none) (nM o s).1 (nM o s).2.1 (nM o s).2.2 (some (o + 8)) := by
  refine po_ofC (by decide +kernel) (Nat.le_of_ble_eq_true rfl) (fun X G hF hL => ?_)
  have hr := hL.2.2.1
  refine po_aload_n hF dX8_init_0 rfl rfl ?_
  refine po_objInit hF dX8_init_1 wI_X8_7 wI_obj (by rw [hr]; decide) (by rw [hr]; decide) ?_
  refine po_aload_n hF dX8_init_4 rfl rfl ?_
  refine po_sipush (v := 668) hF dX8_init_5 (by decide) ?_
  refine po_newa (c := 1) (m := 668) (rr := fun _ => .null) (ii := fun _ => 0) hF dX8_init_8 wI_int (by omega) (by omega) rfl (fun C h => by cases h) (by decide) (by decide) (by decide) (fun j => rfl) (by rw [hr]; decide) (by rw [hr]; decide) ?_
  have k1 : (po_w (s.1) (o + 1) (1, 668)) o = (19, 19) := by rw [po_w_ne (by omega)]; exact ha
  refine po_putF (c := 8) (j := 1) hF dX8_init_10 (show po_cl[8]? = some _ from rfl) (by decide) rfl wq_1220 ⟨rfl, rfl⟩ hL.2.2.2.2 k1 rfl rfl rfl (fun _ => rfl) rfl ?_
  refine po_aload_n hF dX8_init_13 rfl rfl ?_
  refine po_sipush (v := 4008) hF dX8_init_14 (by decide) ?_
  refine po_newa (c := 1) (m := 4008) (rr := fun _ => .null) (ii := fun _ => 0) hF dX8_init_17 wI_int (by omega) (by omega) rfl (fun C h => by cases h) (by decide) (by decide) (by decide) (fun j => rfl) (by rw [hr]; decide) (by rw [hr]; decide) ?_
  have k2 : (po_w (po_w (s.1) (o + 1) (1, 668)) (o + 2) (1, 4008)) o = (19, 19) := by rw [po_w_ne (by omega)]; exact k1
  refine po_putF (c := 8) (j := 2) hF dX8_init_19 (show po_cl[8]? = some _ from rfl) (by decide) rfl wq_1221 ⟨rfl, rfl⟩ hL.2.2.2.2 k2 rfl rfl rfl (fun _ => rfl) rfl ?_
  refine po_aload_n hF dX8_init_22 rfl rfl ?_
  refine po_sipush (v := 668) hF dX8_init_23 (by decide) ?_
  refine po_newa (c := 1) (m := 668) (rr := fun _ => .null) (ii := fun _ => 0) hF dX8_init_26 wI_int (by omega) (by omega) rfl (fun C h => by cases h) (by decide) (by decide) (by decide) (fun j => rfl) (by rw [hr]; decide) (by rw [hr]; decide) ?_
  have k3 : (po_w (po_w (po_w (s.1) (o + 1) (1, 668)) (o + 2) (1, 4008)) (o + 3) (1, 668)) o = (19, 19) := by rw [po_w_ne (by omega)]; exact k2
  refine po_putF (c := 8) (j := 4) hF dX8_init_28 (show po_cl[8]? = some _ from rfl) (by decide) rfl wq_1223 ⟨rfl, rfl⟩ hL.2.2.2.2 k3 rfl rfl rfl (fun _ => rfl) rfl ?_
  refine po_aload_n hF dX8_init_31 rfl rfl ?_
  refine po_sipush (v := 668) hF dX8_init_32 (by decide) ?_
  refine po_newa (c := 1) (m := 668) (rr := fun _ => .null) (ii := fun _ => 0) hF dX8_init_35 wI_int (by omega) (by omega) rfl (fun C h => by cases h) (by decide) (by decide) (by decide) (fun j => rfl) (by rw [hr]; decide) (by rw [hr]; decide) ?_
  have k4 : (po_w (po_w (po_w (po_w (s.1) (o + 1) (1, 668)) (o + 2) (1, 4008)) (o + 3) (1, 668)) (o + 4) (1, 668)) o = (19, 19) := by rw [po_w_ne (by omega)]; exact k3
  refine po_putF (c := 8) (j := 5) hF dX8_init_37 (show po_cl[8]? = some _ from rfl) (by decide) rfl wq_1224 ⟨rfl, rfl⟩ hL.2.2.2.2 k4 rfl rfl rfl (fun _ => rfl) rfl ?_
  refine po_aload_n hF dX8_init_40 rfl rfl ?_
  refine po_bipush (v := 60) hF dX8_init_41 (by decide) ?_
  refine po_newa (c := 1) (m := 60) (rr := fun _ => .null) (ii := fun _ => 0) hF dX8_init_43 wI_int (by omega) (by omega) rfl (fun C h => by cases h) (by decide) (by decide) (by decide) (fun j => rfl) (by rw [hr]; decide) (by rw [hr]; decide) ?_
  have k5 : (po_w (po_w (po_w (po_w (po_w (s.1) (o + 1) (1, 668)) (o + 2) (1, 4008)) (o + 3) (1, 668)) (o + 4) (1, 668)) (o + 5) (1, 60)) o = (19, 19) := by rw [po_w_ne (by omega)]; exact k4
  refine po_putF (c := 8) (j := 11) hF dX8_init_45 (show po_cl[8]? = some _ from rfl) (by decide) rfl wq_1230 ⟨rfl, rfl⟩ hL.2.2.2.2 k5 rfl rfl rfl (fun _ => rfl) rfl ?_
  refine po_aload_n hF dX8_init_48 rfl rfl ?_
  refine po_iconst (v := -1) hF dX8_init_49 (by decide) ?_
  refine po_puti hF dX8_init_50 fl_X8_29 k5 (fun r h => by cases h; rfl) rfl rfl (fun _ => rfl) rfl ?_
  refine po_aload_n hF dX8_init_53 rfl rfl ?_
  refine po_bipush (v := 12) hF dX8_init_54 (by decide) ?_
  refine po_newa (c := 1) (m := 12) (rr := fun _ => .null) (ii := fun _ => 0) hF dX8_init_56 wI_int (by omega) (by omega) rfl (fun C h => by cases h) (by decide) (by decide) (by decide) (fun j => rfl) (by rw [hr]; decide) (by rw [hr]; decide) ?_
  have k6 : (po_w (po_w (po_w (po_w (po_w (po_w (s.1) (o + 1) (1, 668)) (o + 2) (1, 4008)) (o + 3) (1, 668)) (o + 4) (1, 668)) (o + 5) (1, 60)) (o + 6) (1, 12)) o = (19, 19) := by rw [po_w_ne (by omega)]; exact k5
  refine po_putF (c := 8) (j := 16) hF dX8_init_58 (show po_cl[8]? = some _ from rfl) (by decide) rfl wq_1235 ⟨rfl, rfl⟩ hL.2.2.2.2 k6 rfl rfl rfl (fun _ => rfl) rfl ?_
  refine po_aload_n hF dX8_init_61 rfl rfl ?_
  refine po_sipush (v := 280) hF dX8_init_62 (by decide) ?_
  refine po_newa (c := 4) (m := 280) (rr := fun _ => .null) (ii := fun _ => 0) hF dX8_init_65 wI_bool (by omega) (by omega) rfl (fun C h => by cases h) (by decide) (by decide) (by decide) (fun j => rfl) (by rw [hr]; decide) (by rw [hr]; decide) ?_
  have k7 : (po_w (po_w (po_w (po_w (po_w (po_w (po_w (s.1) (o + 1) (1, 668)) (o + 2) (1, 4008)) (o + 3) (1, 668)) (o + 4) (1, 668)) (o + 5) (1, 60)) (o + 6) (1, 12)) (o + 7) (4, 280)) o = (19, 19) := by rw [po_w_ne (by omega)]; exact k6
  refine po_putF (c := 8) (j := 18) hF dX8_init_67 (show po_cl[8]? = some _ from rfl) (by decide) rfl wq_1237 ⟨rfl, rfl⟩ hL.2.2.2.2 k7 rfl rfl rfl (fun _ => rfl) rfl ?_
  refine po_iconst (v := 0) hF dX8_init_70 (by decide) ?_
  refine po_istore_n (L' := [(1, .int 0), (0, .ref o)]) hF dX8_init_71 rfl (by decide) rfl ?_
  refine po_sub (L' := [(0, .ref o), (1, .int (Int32.ofNat 0))]) rfl ?_
  have g0 : (nM0 o s).1 o = (19, 19) := k7
  have g1 : (nM0 o s).1 (o + 1) = (1, 668) := by unfold nM0; dsimp only; rw [po_w_ne (by omega), po_w_ne (by omega), po_w_ne (by omega), po_w_ne (by omega), po_w_ne (by omega), po_w_ne (by omega), po_w_at]
  have r1 : (nM0 o s).2.1 o 1 = .ref (o + 1) := by unfold nM0; dsimp only; rw [po_uu, if_neg (by omega), po_w_ne (by omega), po_uu, if_neg (by omega), po_w_ne (by omega), po_uu, if_neg (by omega), po_w_ne (by omega), po_uu, if_neg (by omega), po_w_ne (by omega), po_uu, if_neg (by omega), po_w_ne (by omega), po_uu, if_neg (by omega), po_w_ne (by omega), po_uaa]
  refine w_X8_rules (K := (nM0 o s).1) (R := (nM0 o s).2.1) (I := (nM0 o s).2.2) hF g0 g1 r1 ?_ 4 0 rfl
  exact po_vret hF hL dX8_init_183 (by decide) (by decide) rfl rfl rfl (Or.inl rfl)
end QG8
