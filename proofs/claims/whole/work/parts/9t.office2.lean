/-! CONSTRUCTORS: the whole office -/
def nRdr (o : Nat) (s : n3) : n3 := (po_w (po_w s.1 (o + 1) (14, 4)) (o + 2) (3, 60), po_u (po_u (po_w (po_w s.2.1 (o + 1) (nw .null)) (o + 2) (nw .null)) (o + 1) 0 (.ref (o + 2))) o 0 (.ref (o + 1)), po_u (po_u (po_u (po_w (po_w s.2.2 (o + 1) (nw 0)) (o + 2) (nw 0)) (o + 1) 1 0) (o + 1) 2 0) (o + 1) 3 (-1))
def nSvy (o : Nat) (s : n3) : n3 := (nKA (nKA (po_w s.1 (o + 3) (15, 2)) (o + 4)) (o + 6), po_u (po_u (nRA (po_u (nRA (po_w s.2.1 (o + 3) (nw .null)) (o + 4)) (o + 3) 0 (.ref (o + 4))) (o + 6)) (o + 3) 1 (.ref (o + 6))) o 1 (.ref (o + 3)), nIA (nIA (po_w s.2.2 (o + 3) (nw 0)) (o + 4)) (o + 6))
def nPst (o : Nat) (s : n3) : n3 := (po_w s.1 (o + 281) (10, 6), po_u (po_w s.2.1 (o + 281) (nw .null)) o 6 (.ref (o + 281)), po_u (po_w (po_u s.2.2 o 5 0) (o + 281) (nw 0)) o 7 0)
def nOff (b o : Nat) (s : n3) : n3 := nPasts b o (nPst o (nTw b (o + 190) o 4 (nTw b (o + 99) o 3 (nTw b (o + 8) o 2 (nSvy o (nRdr o s)))))) 6
section QG7
variable {K : po_K} {R : po_R} {I : po_I} {st : Nat → Nat} {a q o b mc ms k n : Nat} {s : n3} {X : po_X} {G : po_G} {Q : State → Prop} {z : Option Nat}
set_option maxRecDepth 20000 in
/-- one more town of the office -/
theorem w_X7_town (hF : po_F X G cX7_init RX7 2 st) {nm : String} {f : Nat} (hL : po_L X Option.none f mc ms nm) (hnm : nm = "<init>") (hf : 4 ≤ f) {t idx j pc : Nat} (ka : s.1 o = (18, 8)) (hot : o < t) (hst : st 0 < t) (kb : s.1 (st 0) = (2, 7)) (hk : k + 91 ≤ mc) (hn : n + 726 ≤ ms)
    (d0 : decode cX7_init pc = .ok (.aload_n 0, 1)) (d1 : decode cX7_init (pc + 1) = .ok (.new 23, 3)) (d4 : decode cX7_init (pc + 4) = .ok (.dup, 1)) (d5 : decode cX7_init (pc + 5) = .ok (.invokespecial 25, 3)) (d8 : decode cX7_init (pc + 8) = .ok (.putfield idx, 3))
    (hj : (j = 2 ∧ idx = 26) ∨ (j = 3 ∧ idx = 30) ∨ (j = 4 ∧ idx = 33)) {L : List (Nat × Value)} (h0 : po_get L 0 = some (.ref o))
    (kk : po_V X G 2 Q (k + 91) (n + 726) (pc + 11) L [] (nTw (st 0) t o j s).1 (nTw (st 0) t o j s).2.1 (nTw (st 0) t o j s).2.2 (some (t + 91))) : po_V X G 2 Q k n pc L [] s.1 s.2.1 s.2.2 (some t) := by
  have hr := hL.2.2.1
  have hcells : X.2.2.2.1.cells = mc := by rw [hr]; rfl
  have hslots : X.2.2.2.1.slots = ms := by rw [hr]; rfl
  refine po_aload_n hF d0 rfl h0 ?_
  refine po_new hF d1 cl_7_23 (by rw [hcells]; omega) (by rw [hslots]; show _ + 8 ≤ _; omega) ?_
  refine po_dup hF d4 rfl ?_
  refine po_callI (As := []) hF d5 mi_7_25 (c_X5_init po_w_at hst (by rw [po_w_ne (by omega)]; exact kb)) rfl ?_ (Nat.le_of_ble_eq_true rfl) rfl ?_
  · unfold po_rt
    rw [hr]
    refine ⟨show 3 + 1 ≤ f by omega, ?_, ?_, ?_⟩
    · show 8 + (2 + 11) + (40 * 3 + 40) ≤ 40 * f + 40
      omega
    · show k + 1 + 90 ≤ mc
      omega
    · show n + 8 + 718 ≤ ms
      omega
  have n1 := nT_lo (st 0) t (po_w s.1 t (16, 8), po_w s.2.1 t (nw .null), po_w s.2.2 t (nw 0)) (q := o) hot
  have kO : (nT (st 0) t (po_w s.1 t (16, 8), po_w s.2.1 t (nw .null), po_w s.2.2 t (nw 0))).1 o = (18, 8) := n1.1.trans ((po_w_ne (by omega)).trans ka)
  have fin : po_V X G 2 Q (k + 1 + 90) (n + po_n 5 + 718) (pc + 8 + 3) L [] (nTw (st 0) t o j s).1 (nTw (st 0) t o j s).2.1 (nTw (st 0) t o j s).2.2 (some (t + 91)) := by
    rw [show k + 1 + 90 = k + 91 by omega, show n + po_n 5 + 718 = n + 726 by show n + 8 + 718 = _; omega]
    exact kk
  rcases hj with ⟨rfl, rfl⟩ | ⟨rfl, rfl⟩ | ⟨rfl, rfl⟩
  · exact po_putF (c := 7) (j := 2) hF d8 (show po_cl[7]? = some _ from rfl) (by decide) rfl wq_388 ⟨rfl, rfl⟩ (hL.2.2.2.2.trans hnm) kO rfl rfl rfl (fun _ => rfl) rfl fin
  · exact po_putF (c := 7) (j := 3) hF d8 (show po_cl[7]? = some _ from rfl) (by decide) rfl wq_389 ⟨rfl, rfl⟩ (hL.2.2.2.2.trans hnm) kO rfl rfl rfl (fun _ => rfl) rfl fin
  · exact po_putF (c := 7) (j := 4) hF d8 (show po_cl[7]? = some _ from rfl) (by decide) rfl wq_390 ⟨rfl, rfl⟩ (hL.2.2.2.2.trans hnm) kO rfl rfl rfl (fun _ => rfl) rfl fin
set_option maxRecDepth 20000 in
set_option maxHeartbeats 2000000 in
theorem c_X7_init (ha : s.1 o = (18, 8)) (hst : st 0 < o) (kb : s.1 (st 0) = (2, 7)) : po_C st yX7_init cX7_init 2 Option.none 4 827 6636 [.ref o] s.1 s.2.1 s.2.2 (some (o + 1)) (.inl Option.none) (nOff (st 0) o s).1 (nOff (st 0) o s).2.1 (nOff (st 0) o s).2.2 (some (o + 828)) := by
  refine po_ofC (by decide +kernel) (Nat.le_of_ble_eq_true rfl) (fun X G hF hL => ?_)
  have hr := hL.2.2.1
  refine po_aload_n hF dX7_init_0 rfl rfl ?_
  refine po_objInit hF dX7_init_1 wI_X7_1 wI_obj (by rw [hr]; decide) (by rw [hr]; decide) ?_
  refine po_aload_n hF dX7_init_4 rfl rfl ?_
  refine po_new hF dX7_init_5 cl_7_7 (by rw [hr]; decide) (by rw [hr]; decide) ?_
  refine po_dup hF dX7_init_8 rfl ?_
  refine po_callI (As := []) hF dX7_init_9 mi_7_9 (c_X3_init po_w_at (by omega)) rfl (po_rtL hL rfl) (Nat.le_of_ble_eq_true rfl) rfl ?_
  have k1 : (nRdr o s).1 o = (18, 8) := by unfold nRdr; dsimp only; rw [po_w_ne (by omega), po_w_ne (by omega)]; exact ha
  have kb1 : (nRdr o s).1 (st 0) = (2, 7) := by unfold nRdr; dsimp only; rw [po_w_ne (by omega), po_w_ne (by omega)]; exact kb
  refine po_putF (c := 7) (j := 0) hF dX7_init_12 (show po_cl[7]? = some _ from rfl) (by decide) rfl wq_386 ⟨rfl, rfl⟩ hL.2.2.2.2 k1 rfl rfl rfl (fun _ => rfl) rfl ?_
  show po_V X G 2 _ 2 64 15 _ [] (nRdr o s).1 (nRdr o s).2.1 (nRdr o s).2.2 (some (o + 3))
  refine po_aload_n hF dX7_init_15 rfl rfl ?_
  refine po_new hF dX7_init_16 cl_7_16 (by rw [hr]; decide) (by rw [hr]; decide) ?_
  refine po_dup hF dX7_init_19 rfl ?_
  refine po_callI (As := []) hF dX7_init_20 mi_7_18 (c_X4_init po_w_at (by omega)) rfl (po_rtL hL rfl) (Nat.le_of_ble_eq_true rfl) rfl ?_
  have k2 : (nSvy o (nRdr o s)).1 o = (18, 8) := by unfold nSvy; dsimp only; rw [nKA_ne (by omega) (by omega), nKA_ne (by omega) (by omega), po_w_ne (by omega)]; exact k1
  have kb2 : (nSvy o (nRdr o s)).1 (st 0) = (2, 7) := by unfold nSvy; dsimp only; rw [nKA_ne (by omega) (by omega), nKA_ne (by omega) (by omega), po_w_ne (by omega)]; exact kb1
  refine po_putF (c := 7) (j := 1) hF dX7_init_23 (show po_cl[7]? = some _ from rfl) (by decide) rfl wq_387 ⟨rfl, rfl⟩ hL.2.2.2.2 k2 rfl rfl rfl (fun _ => rfl) rfl ?_
  show po_V X G 2 _ 7 96 26 _ [] (nSvy o (nRdr o s)).1 (nSvy o (nRdr o s)).2.1 (nSvy o (nRdr o s)).2.2 (some (o + 8))
  have eO : nOff (st 0) o s = nPasts (st 0) o (nPst o (nTw (st 0) (o + 190) o 4 (nTw (st 0) (o + 99) o 3 (nTw (st 0) (o + 8) o 2 (nSvy o (nRdr o s)))))) 6 := rfl
  rw [eO]
  generalize nSvy o (nRdr o s) = S2 at *
  refine w_X7_town (j := 2) (idx := 26) hF hL rfl (by omega) k2 (by omega) (by omega) kb2 (by omega) (by omega) dX7_init_26 dX7_init_27 dX7_init_30 dX7_init_31 dX7_init_34 (Or.inl ⟨rfl, rfl⟩) rfl ?_
  have k3 : (nTw (st 0) (o + 8) o 2 S2).1 o = (18, 8) := (nTw_lo (st 0) (o + 8) o 2 S2 (q := o) (by omega)).1.trans k2
  have kb3 : (nTw (st 0) (o + 8) o 2 S2).1 (st 0) = (2, 7) := (nTw_lo (st 0) (o + 8) o 2 S2 (q := st 0) (by omega)).1.trans kb2
  generalize nTw (st 0) (o + 8) o 2 S2 = S3 at *
  rw [show o + 8 + 91 = o + 99 from rfl]
  refine w_X7_town (j := 3) (idx := 30) hF hL rfl (by omega) k3 (by omega) (by omega) kb3 (by omega) (by omega) dX7_init_37 dX7_init_38 dX7_init_41 dX7_init_42 dX7_init_45 (Or.inr (Or.inl ⟨rfl, rfl⟩)) rfl ?_
  have k4 : (nTw (st 0) (o + 99) o 3 S3).1 o = (18, 8) := (nTw_lo (st 0) (o + 99) o 3 S3 (q := o) (by omega)).1.trans k3
  have kb4 : (nTw (st 0) (o + 99) o 3 S3).1 (st 0) = (2, 7) := (nTw_lo (st 0) (o + 99) o 3 S3 (q := st 0) (by omega)).1.trans kb3
  generalize nTw (st 0) (o + 99) o 3 S3 = S4 at *
  rw [show o + 99 + 91 = o + 190 from rfl]
  refine w_X7_town (j := 4) (idx := 33) hF hL rfl (by omega) k4 (by omega) (by omega) kb4 (by omega) (by omega) dX7_init_48 dX7_init_49 dX7_init_52 dX7_init_53 dX7_init_56 (Or.inr (Or.inr ⟨rfl, rfl⟩)) rfl ?_
  have k5 : (nTw (st 0) (o + 190) o 4 S4).1 o = (18, 8) := (nTw_lo (st 0) (o + 190) o 4 S4 (q := o) (by omega)).1.trans k4
  have kb5 : (nTw (st 0) (o + 190) o 4 S4).1 (st 0) = (2, 7) := (nTw_lo (st 0) (o + 190) o 4 S4 (q := st 0) (by omega)).1.trans kb4
  generalize nTw (st 0) (o + 190) o 4 S4 = S5 at *
  rw [show o + 190 + 91 = o + 281 from rfl]
  refine po_aload_n hF dX7_init_59 rfl rfl ?_
  refine po_iconst (v := 0) hF dX7_init_60 (by decide) ?_
  refine po_putz hF dX7_init_61 fl_X7_36 k5 (fun r h => by cases h; rfl) rfl rfl rfl ?_
  refine po_aload_n hF dX7_init_64 rfl rfl ?_
  refine po_bipush (v := 6) hF dX7_init_65 (by decide) ?_
  refine po_anewa (c := 10) (m := 6) (C := RX5) hF dX7_init_67 (List.mem_filter.mpr (by decide +kernel)) (by decide) (by omega) (by omega) rfl rfl (by decide) (by decide) (by rw [hr]; decide) (by rw [hr]; decide) ?_
  have k6 : (nPst o S5).1 o = (18, 8) := by unfold nPst; dsimp only; rw [po_w_ne (by omega)]; exact k5
  have kb6 : (nPst o S5).1 (st 0) = (2, 7) := by unfold nPst; dsimp only; rw [po_w_ne (by omega)]; exact kb5
  have kp6 : (nPst o S5).1 (o + 281) = (10, 6) := by unfold nPst; exact po_w_at
  have rp6 : (nPst o S5).2.1 o 6 = .ref (o + 281) := by unfold nPst; exact po_uaa _ _ _ _
  refine po_putF (c := 7) (j := 6) hF dX7_init_70 (show po_cl[7]? = some _ from rfl) (by decide) rfl wq_392 ⟨rfl, rfl⟩ hL.2.2.2.2 k6 rfl rfl rfl (fun _ => rfl) rfl ?_
  refine po_aload_n hF dX7_init_73 rfl rfl ?_
  refine po_iconst (v := 0) hF dX7_init_74 (by decide) ?_
  refine po_puti hF dX7_init_75 fl_X7_44 k6 (fun r h => by cases h; rfl) rfl rfl (fun _ => rfl) rfl ?_
  refine po_iconst (v := 0) hF dX7_init_78 (by decide) ?_
  refine po_istore_n (L' := [(1, .int 0), (0, .ref o)]) hF dX7_init_79 rfl (by decide) rfl ?_
  refine po_sub (L' := [(0, .ref o), (1, .int (Int32.ofNat 0))]) rfl ?_
  refine w_X7_pasts (s := nPst o S5) (k := 281) (n := 2280) hF hL (by omega) k6 kp6 rp6 hst kb6 (by omega) (by omega) ?_ 6 0 rfl
  exact po_vret hF hL dX7_init_105 (by decide) (by decide) rfl rfl rfl (Or.inl rfl)
end QG7
