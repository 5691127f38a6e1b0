/-! CONSTRUCTORS: an area -/
theorem wI_obj : Cond.instanceMethod Lib.objectInit ∈ po_TB ∧ Cond.code Lib.objectInit ⟨#[0xb1]⟩ 1 Option.none ∈ po_TB := ⟨List.mem_filter.mpr (by decide +kernel), List.mem_filter.mpr (by decide +kernel)⟩
theorem wI_X0_3 : Cond.methodLink RX0 3 Lib.objectInit ∈ po_TB := List.mem_filter.mpr (by decide +kernel)
theorem wI_int : Cond.arrayClass (newarray.typeOf .int) ∈ po_TB := List.mem_filter.mpr (by decide +kernel)
section QG1
variable {K : po_K} {R : po_R} {I : po_I} {st : Nat → Nat} {a q : Nat}
theorem c_X0_init (ha : K a = (11, 1)) (hq : a ≠ q) : po_C st yX0_init cX0_init 1 Option.none 1 1 14 [.ref a] K R I (some q) (.inl Option.none) (po_w K q (1, 14)) (po_u (po_w R q (fun _ => .null)) a 0 (.ref q)) (po_w I q (fun _ => 0)) (some (q + 1)) := by
  refine po_ofC (by decide +kernel) (Nat.le_of_ble_eq_true rfl) (fun X G hF hL => ?_)
  have hr := hL.2.2.1
  refine po_aload_n hF dX0_init_0 rfl rfl ?_
  refine po_objInit hF dX0_init_1 wI_X0_3 wI_obj (by rw [hr]; decide) (by rw [hr]; decide) ?_
  refine po_aload_n hF dX0_init_4 rfl rfl ?_
  refine po_bipush (v := 14) hF dX0_init_5 (by decide) ?_
  refine po_newa (c := 1) (m := 14) (rr := fun _ => .null) (ii := fun _ => 0) hF dX0_init_7 wI_int (by omega) (by omega) rfl (fun C h => by cases h) rfl (by decide) (by decide) (fun j => rfl) (by rw [hr]; decide) (by rw [hr]; decide) ?_
  refine po_putF (c := 0) (j := 0) hF dX0_init_9 (show po_cl[0]? = some _ from rfl) (by decide) rfl wq_154 ⟨rfl, rfl⟩ hL.2.2.2.2 (by rw [po_w_ne hq]; exact ha) rfl rfl rfl (fun _ => rfl) rfl ?_
  exact po_vret hF hL dX0_init_12 (by decide) (by decide) rfl rfl rfl (Or.inl rfl)
end QG1
/-! what a new thing is made of -/
abbrev nw {α : Type} (v : α) : Nat → α := fun _ => v
abbrev nK0 (K : po_K) (q : Nat) : po_K := po_w K q (1, 14)
abbrev nR0 (R : po_R) (a q : Nat) : po_R := po_u (po_w R q (nw .null)) a 0 (.ref q)
abbrev nI0 (I : po_I) (q : Nat) : po_I := po_w I q (nw 0)
/-- an area and what holds it -/
abbrev nKA (K : po_K) (q : Nat) : po_K := nK0 (po_w K q (11, 1)) (q + 1)
abbrev nRA (R : po_R) (q : Nat) : po_R := nR0 (po_w R q (nw .null)) q (q + 1)
abbrev nIA (I : po_I) (q : Nat) : po_I := nI0 (po_w I q (nw 0)) (q + 1)
theorem wI_X1_1 : Cond.methodLink RX1 1 Lib.objectInit ∈ po_TB := List.mem_filter.mpr (by decide +kernel)
theorem wI_X2_3 : Cond.methodLink RX2 3 Lib.objectInit ∈ po_TB := List.mem_filter.mpr (by decide +kernel)
theorem wI_X3_3 : Cond.methodLink RX3 3 Lib.objectInit ∈ po_TB := List.mem_filter.mpr (by decide +kernel)
theorem wI_X4_3 : Cond.methodLink RX4 3 Lib.objectInit ∈ po_TB := List.mem_filter.mpr (by decide +kernel)
theorem wI_X6_1 : Cond.methodLink RX6 1 Lib.objectInit ∈ po_TB := List.mem_filter.mpr (by decide +kernel)
theorem wI_char : Cond.arrayClass (newarray.typeOf .char) ∈ po_TB := List.mem_filter.mpr (by decide +kernel)
theorem cl_1_7 : po_CL RX1 7 0 := ⟨_, rfl, rfl, List.mem_filter.mpr (by decide +kernel), List.mem_filter.mpr (by decide +kernel), List.mem_filter.mpr (by decide +kernel)⟩
theorem cl_2_9 : po_CL RX2 9 0 := ⟨_, rfl, rfl, List.mem_filter.mpr (by decide +kernel), List.mem_filter.mpr (by decide +kernel), List.mem_filter.mpr (by decide +kernel)⟩
theorem cl_4_9 : po_CL RX4 9 0 := ⟨_, rfl, rfl, List.mem_filter.mpr (by decide +kernel), List.mem_filter.mpr (by decide +kernel), List.mem_filter.mpr (by decide +kernel)⟩
theorem mi_1_9 : po_MI RX1 9 yX0_init cX0_init 1 0 := ⟨rfl, List.mem_filter.mpr (by decide +kernel), List.mem_filter.mpr (by decide +kernel), List.mem_filter.mpr (by decide +kernel), ⟨by decide +kernel, by decide +kernel, by decide +kernel⟩, Or.inr ⟨"PermitOffice", List.mem_filter.mpr (by decide +kernel)⟩⟩
theorem mi_2_11 : po_MI RX2 11 yX0_init cX0_init 1 0 := ⟨rfl, mi_1_9.2.1, mi_1_9.2.2.1, mi_1_9.2.2.2.1, mi_1_9.2.2.2.2.1, Or.inr ⟨"PermitOffice", List.mem_filter.mpr (by decide +kernel)⟩⟩
theorem mi_4_11 : po_MI RX4 11 yX0_init cX0_init 1 0 := ⟨rfl, mi_1_9.2.1, mi_1_9.2.2.1, mi_1_9.2.2.2.1, mi_1_9.2.2.2.2.1, Or.inr ⟨"PermitOffice", List.mem_filter.mpr (by decide +kernel)⟩⟩
section QG2
variable {K : po_K} {R : po_R} {I : po_I} {st : Nat → Nat} {a q : Nat}
theorem c_X6_init {z : Option Nat} : po_C st yX6_init cX6_init 1 Option.none 1 0 0 [.ref a] K R I z (.inl Option.none) K R I z := by
  refine po_ofC (by decide +kernel) (Nat.le_of_ble_eq_true rfl) (fun X G hF hL => ?_)
  have hr := hL.2.2.1
  refine po_aload_n hF dX6_init_0 rfl rfl ?_
  refine po_objInit hF dX6_init_1 wI_X6_1 wI_obj (by rw [hr]; decide) (by rw [hr]; decide) ?_
  exact po_vret hF hL dX6_init_4 (by decide) (by decide) rfl rfl rfl (Or.inl rfl)
theorem c_X1_init (ha : K a = (12, 4)) (hq : a < q) : po_C st yX1_init cX1_init 1 Option.none 2 2 15 [.ref a] K R I (some q) (.inl Option.none) (nKA K q) (po_u (nRA R q) a 2 (.ref q)) (nIA I q) (some (q + 2)) := by
  refine po_ofC (by decide +kernel) (Nat.le_of_ble_eq_true rfl) (fun X G hF hL => ?_)
  have hr := hL.2.2.1
  refine po_aload_n hF dX1_init_0 rfl rfl ?_
  refine po_objInit hF dX1_init_1 wI_X1_1 wI_obj (by rw [hr]; decide) (by rw [hr]; decide) ?_
  refine po_aload_n hF dX1_init_4 rfl rfl ?_
  refine po_new hF dX1_init_5 cl_1_7 (by rw [hr]; decide) (by rw [hr]; decide) ?_
  refine po_dup hF dX1_init_8 rfl ?_
  refine po_callI (As := []) hF dX1_init_9 mi_1_9 (c_X0_init po_w_at (by omega)) rfl (po_rtL hL rfl) (Nat.le_of_ble_eq_true rfl) rfl ?_
  refine po_putF (c := 1) (j := 2) hF dX1_init_12 (show po_cl[1]? = some _ from rfl) (by decide) rfl wq_195 ⟨rfl, rfl⟩ hL.2.2.2.2 (by rw [po_w_ne (by omega), po_w_ne (by omega)]; exact ha) rfl rfl rfl (fun _ => rfl) rfl ?_
  exact po_vret hF hL dX1_init_15 (by decide) (by decide) rfl rfl rfl (Or.inl rfl)
theorem c_X2_init (ha : K a = (13, 19)) (hq : a < q) : po_C st yX2_init cX2_init 1 Option.none 2 4 27 [.ref a] K R I (some q) (.inl Option.none) (po_w (po_w (nKA K q) (q + 2) (1, 6)) (q + 3) (1, 6)) (po_u (po_w (po_u (po_w (po_u (nRA R q) a 4 (.ref q)) (q + 2) (nw .null)) a 17 (.ref (q + 2))) (q + 3) (nw .null)) a 18 (.ref (q + 3))) (po_w (po_w (nIA I q) (q + 2) (nw 0)) (q + 3) (nw 0)) (some (q + 4)) := by
  refine po_ofC (by decide +kernel) (Nat.le_of_ble_eq_true rfl) (fun X G hF hL => ?_)
  have hr := hL.2.2.1
  refine po_aload_n hF dX2_init_0 rfl rfl ?_
  refine po_objInit hF dX2_init_1 wI_X2_3 wI_obj (by rw [hr]; decide) (by rw [hr]; decide) ?_
  refine po_aload_n hF dX2_init_4 rfl rfl ?_
  refine po_new hF dX2_init_5 cl_2_9 (by rw [hr]; decide) (by rw [hr]; decide) ?_
  refine po_dup hF dX2_init_8 rfl ?_
  refine po_callI (As := []) hF dX2_init_9 mi_2_11 (c_X0_init po_w_at (by omega)) rfl (po_rtL hL rfl) (Nat.le_of_ble_eq_true rfl) rfl ?_
  refine po_putF (c := 2) (j := 4) hF dX2_init_12 (show po_cl[2]? = some _ from rfl) (by decide) rfl wq_238 ⟨rfl, rfl⟩ hL.2.2.2.2 (by rw [po_w_ne (by omega), po_w_ne (by omega)]; exact ha) rfl rfl rfl (fun _ => rfl) rfl ?_
  refine po_aload_n hF dX2_init_15 rfl rfl ?_
  refine po_bipush (v := 6) hF dX2_init_16 (by decide) ?_
  refine po_newa (c := 1) (m := 6) (rr := fun _ => .null) (ii := fun _ => 0) hF dX2_init_18 wI_int (by omega) (by omega) rfl (fun C h => by cases h) rfl (by decide) (by decide) (fun j => rfl) (by rw [hr]; decide) (by rw [hr]; decide) ?_
  refine po_putF (c := 2) (j := 17) hF dX2_init_20 (show po_cl[2]? = some _ from rfl) (by decide) rfl wq_271 ⟨rfl, rfl⟩ hL.2.2.2.2 (by rw [po_w_ne (by omega), po_w_ne (by omega), po_w_ne (by omega)]; exact ha) rfl rfl rfl (fun _ => rfl) rfl ?_
  refine po_aload_n hF dX2_init_23 rfl rfl ?_
  refine po_bipush (v := 6) hF dX2_init_24 (by decide) ?_
  refine po_newa (c := 1) (m := 6) (rr := fun _ => .null) (ii := fun _ => 0) hF dX2_init_26 wI_int (by omega) (by omega) rfl (fun C h => by cases h) rfl (by decide) (by decide) (fun j => rfl) (by rw [hr]; decide) (by rw [hr]; decide) ?_
  refine po_putF (c := 2) (j := 18) hF dX2_init_28 (show po_cl[2]? = some _ from rfl) (by decide) rfl wq_273 ⟨rfl, rfl⟩ hL.2.2.2.2 (by rw [po_w_ne (by omega), po_w_ne (by omega), po_w_ne (by omega), po_w_ne (by omega)]; exact ha) rfl rfl rfl (fun _ => rfl) rfl ?_
  exact po_vret hF hL dX2_init_31 (by decide) (by decide) rfl rfl rfl (Or.inl rfl)
theorem c_X3_init (ha : K a = (14, 4)) (hq : a < q) : po_C st yX3_init cX3_init 1 Option.none 1 1 60 [.ref a] K R I (some q) (.inl Option.none) (po_w K q (3, 60)) (po_u (po_w R q (nw .null)) a 0 (.ref q)) (po_u (po_u (po_u (po_w I q (nw 0)) a 1 0) a 2 0) a 3 (-1)) (some (q + 1)) := by
  refine po_ofC (by decide +kernel) (Nat.le_of_ble_eq_true rfl) (fun X G hF hL => ?_)
  have hr := hL.2.2.1
  have ha' : (po_w K q (3, 60)) a = (14, 4) := by rw [po_w_ne (by omega)]; exact ha
  refine po_aload_n hF dX3_init_0 rfl rfl ?_
  refine po_objInit hF dX3_init_1 wI_X3_3 wI_obj (by rw [hr]; decide) (by rw [hr]; decide) ?_
  refine po_aload_n hF dX3_init_4 rfl rfl ?_
  refine po_bipush (v := 60) hF dX3_init_5 (by decide) ?_
  refine po_newa (c := 3) (m := 60) (rr := fun _ => .null) (ii := fun _ => 0) hF dX3_init_7 wI_char (by omega) (by omega) rfl (fun C h => by cases h) rfl (by decide) (by decide) (fun j => rfl) (by rw [hr]; decide) (by rw [hr]; decide) ?_
  refine po_putF (c := 3) (j := 0) hF dX3_init_9 (show po_cl[3]? = some _ from rfl) (by decide) rfl wq_126 ⟨rfl, rfl⟩ hL.2.2.2.2 ha' rfl rfl rfl (fun _ => rfl) rfl ?_
  refine po_aload_n hF dX3_init_12 rfl rfl ?_
  refine po_iconst (v := 0) hF dX3_init_13 (by decide) ?_
  refine po_puti hF dX3_init_14 fl_X3_15 ha' (fun r h => by cases h; rfl) rfl rfl (fun _ => rfl) rfl ?_
  refine po_aload_n hF dX3_init_17 rfl rfl ?_
  refine po_iconst (v := 0) hF dX3_init_18 (by decide) ?_
  refine po_puti hF dX3_init_19 fl_X3_19 ha' (fun r h => by cases h; rfl) rfl rfl (fun _ => rfl) rfl ?_
  refine po_aload_n hF dX3_init_22 rfl rfl ?_
  refine po_iconst (v := -1) hF dX3_init_23 (by decide) ?_
  refine po_puti hF dX3_init_24 fl_X3_22 ha' (fun r h => by cases h; rfl) rfl rfl (fun _ => rfl) rfl ?_
  exact po_vret hF hL dX3_init_27 (by decide) (by decide) rfl rfl rfl (Or.inl rfl)
theorem c_X4_init (ha : K a = (15, 2)) (hq : a < q) : po_C st yX4_init cX4_init 1 Option.none 2 4 30 [.ref a] K R I (some q) (.inl Option.none) (nKA (nKA K q) (q + 2)) (po_u (nRA (po_u (nRA R q) a 0 (.ref q)) (q + 2)) a 1 (.ref (q + 2))) (nIA (nIA I q) (q + 2)) (some (q + 4)) := by
  refine po_ofC (by decide +kernel) (Nat.le_of_ble_eq_true rfl) (fun X G hF hL => ?_)
  have hr := hL.2.2.1
  refine po_aload_n hF dX4_init_0 rfl rfl ?_
  refine po_objInit hF dX4_init_1 wI_X4_3 wI_obj (by rw [hr]; decide) (by rw [hr]; decide) ?_
  refine po_aload_n hF dX4_init_4 rfl rfl ?_
  refine po_new hF dX4_init_5 cl_4_9 (by rw [hr]; decide) (by rw [hr]; decide) ?_
  refine po_dup hF dX4_init_8 rfl ?_
  refine po_callI (As := []) hF dX4_init_9 mi_4_11 (c_X0_init po_w_at (by omega)) rfl (po_rtL hL rfl) (Nat.le_of_ble_eq_true rfl) rfl ?_
  refine po_putF (c := 4) (j := 0) hF dX4_init_12 (show po_cl[4]? = some _ from rfl) (by decide) rfl wq_159 ⟨rfl, rfl⟩ hL.2.2.2.2 (by rw [po_w_ne (by omega), po_w_ne (by omega)]; exact ha) rfl rfl rfl (fun _ => rfl) rfl ?_
  refine po_aload_n hF dX4_init_15 rfl rfl ?_
  refine po_new hF dX4_init_16 cl_4_9 (by rw [hr]; decide) (by rw [hr]; decide) ?_
  refine po_dup hF dX4_init_19 rfl ?_
  refine po_callI (As := []) hF dX4_init_20 mi_4_11 (c_X0_init po_w_at (by omega)) rfl (po_rtL hL rfl) (Nat.le_of_ble_eq_true rfl) rfl ?_
  refine po_putF (c := 4) (j := 1) hF dX4_init_23 (show po_cl[4]? = some _ from rfl) (by decide) rfl wq_160 ⟨rfl, rfl⟩ hL.2.2.2.2 (by rw [po_w_ne (by omega), po_w_ne (by omega), po_w_ne (by omega), po_w_ne (by omega)]; exact ha) rfl rfl rfl (fun _ => rfl) rfl ?_
  exact po_vret hF hL dX4_init_26 (by decide) (by decide) rfl rfl rfl (Or.inl rfl)
end QG2
