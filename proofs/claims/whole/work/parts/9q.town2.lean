/-! CONSTRUCTORS: a town's permits and variances -/
section QG4
variable {K : po_K} {R : po_R} {I : po_I} {st : Nat → Nat} {a q mc ms k n : Nat} {s : n3} {X : po_X} {G : po_G} {Q : State → Prop}
theorem nPrms_lo (s : n3) : ∀ j q, q < a + 29 → (nPrms a s j).1 q = s.1 q ∧ ((q ≠ a + 3 → (nPrms a s j).2.1 q = s.2.1 q) ∧ (nPrms a s j).2.2 q = s.2.2 q)
  | 0, _, _ => ⟨rfl, fun _ => rfl, rfl⟩
  | j + 1, q, hq => by
    obtain ⟨h1, h2, h3⟩ := nPrms_lo s j q hq
    refine ⟨?_, fun hn => ?_, ?_⟩
    · show (nPrm a (nPrms a s j) j).1 q = _
      unfold nPrm
      dsimp only
      rw [po_w_ne (by omega), po_w_ne (by omega), nKA_ne (by omega) (by omega), po_w_ne (by omega)]
      exact h1
    · show (nPrm a (nPrms a s j) j).2.1 q = _
      unfold nPrm nRA nR0
      dsimp only
      rw [po_u_ne hn, po_u_ne (by omega), po_w_ne (by omega), po_u_ne (by omega), po_w_ne (by omega), po_u_ne (by omega), po_u_ne (by omega), po_w_ne (by omega), po_w_ne (by omega), po_w_ne (by omega)]
      exact h2 hn
    · show (nPrm a (nPrms a s j) j).2.2 q = _
      unfold nPrm nIA nI0
      dsimp only
      rw [po_w_ne (by omega), po_w_ne (by omega), po_w_ne (by omega), po_w_ne (by omega), po_w_ne (by omega)]
      exact h3
set_option maxRecDepth 20000 in
theorem w_X5_prms (hF : po_F X G cX5_init RX5 2 st) {mc ms : Nat} {nm : String} {f : Nat} (hL : po_L X Option.none f mc ms nm) (hf : 3 ≤ f) (ka : s.1 a = (16, 8)) (k2 : s.1 (a + 3) = (8, 10)) (ra : s.2.1 a 4 = .ref (a + 3)) (hk : k + 50 ≤ mc) (hn : n + 460 ≤ ms)
    (kk : po_V X G 2 Q (k + 5 * 10) (n + 46 * 10) 141 [(0, .ref a), (1, .int (Int32.ofNat 10))] [] (nPrms a s 10).1 (nPrms a s 10).2.1 (nPrms a s 10).2.2 (some (a + (29 + 5 * 10)))) : ∀ d j, j + d = 10 → po_V X G 2 Q (k + 5 * j) (n + 46 * j) 116 [(0, .ref a), (1, .int (Int32.ofNat j))] [] (nPrms a s j).1 (nPrms a s j).2.1 (nPrms a s j).2.2 (some (a + (29 + 5 * j))) := by
  intro d
  induction d with
  | zero =>
    intro j hj
    obtain rfl : j = 10 := by omega
    refine po_iload_n hF dX5_init_116 rfl rfl ?_
    refine po_bipush (v := 10) hF dX5_init_117 (by decide) ?_
    refine po_icmp_ge (tgt := 141) (A := some ()) (B := Option.none) (r := ()) hF dX5_init_119 (by decide) (if_pos (by decide)) (fun _ => kk) (fun hm => ?_)
    cases hm
  | succ d ih =>
    intro j hj
    have hr := hL.2.2.1
    have hcells : X.2.2.2.1.cells = mc := by rw [hr]; rfl
    have hslots : X.2.2.2.1.slots = ms := by rw [hr]; rfl
    obtain ⟨la, la2, _⟩ := nPrms_lo (a := a) s j a (by omega)
    obtain ⟨lb, _, _⟩ := nPrms_lo (a := a) s j (a + 3) (by omega)
    have ihj := ih (j + 1) (by omega)
    have ka' : (nPrms a s j).1 a = (16, 8) := la.trans ka
    have k2' : (nPrms a s j).1 (a + 3) = (8, 10) := lb.trans k2
    have ra' : (nPrms a s j).2.1 a 4 = .ref (a + 3) := by rw [la2 (by omega)]; exact ra
    have e1 : nPrms a s (j + 1) = nPrm a (nPrms a s j) j := rfl
    rw [e1] at ihj
    generalize nPrms a s j = T at *
    refine po_iload_n hF dX5_init_116 rfl rfl ?_
    refine po_bipush (v := 10) hF dX5_init_117 (by decide) ?_
    refine po_icmp_ge (tgt := 141) (A := Option.none) (B := some ()) (r := ()) hF dX5_init_119 (by decide) (if_neg (show ¬ (10 : Int32) ≤ Int32.ofNat j from mt (pl_le (a := 10) (by omega) (by omega)).mp (by omega))) (fun hm => by cases hm) (fun _ => ?_)
    refine po_aload_n hF dX5_init_122 rfl rfl ?_
    refine po_getf (v := .ref (a + 3)) hF dX5_init_123 fl_X5_30 ka' ra' ?_
    refine po_iload_n hF dX5_init_126 rfl rfl ?_
    refine po_new hF dX5_init_127 cl_5_28 (by rw [hcells]; omega) (by rw [hslots]; show _ + 19 ≤ _; omega) ?_
    refine po_dup hF dX5_init_130 rfl ?_
    refine po_callI (As := []) hF dX5_init_131 mi_5_50 (c_X2_init po_w_at (by omega)) rfl ?_ (Nat.le_of_ble_eq_true rfl) rfl ?_
    · unfold po_rt
      rw [hr]
      refine ⟨hf, ?_, ?_, ?_⟩
      · show 8 + (1 + 11) + (40 * 2 + 40) ≤ 40 * f + 40
        omega
      · show k + 5 * j + 1 + 4 ≤ mc
        omega
      · show n + 46 * j + 19 + 27 ≤ ms
        omega
    refine po_aastC (e := 2) (j := j) hF dX5_init_134 (c := 8) (len := 10) ((po_w_ne (by omega)).trans ((po_w_ne (by omega)).trans ((nKA_ne (by omega) (by omega)).trans ((po_w_ne (by omega)).trans k2')))) (by omega) (by omega) (show po_cl[2]? = some _ from rfl) rfl (len2 := 19) ((po_w_ne (by omega)).trans ((po_w_ne (by omega)).trans ((nKA_ne (by omega) (by omega)).trans po_w_at))) (pl_clamp (by omega)) (mt (pl_not0 (by omega)).mp id) (by omega) rfl ?_
    refine po_iinc (v := Int32.ofNat (j + 1)) (L' := [(1, .int (Int32.ofNat (j + 1))), (0, .ref a)]) hF dX5_init_135 rfl (pl_add j 1) (by decide) rfl ?_
    refine po_goto (tgt := 116) hF dX5_init_138 (by decide) ?_
    refine po_sub (L' := [(0, .ref a), (1, .int (Int32.ofNat (j + 1)))]) rfl ?_
    rw [show k + 5 * j + 1 + 4 = k + 5 * (j + 1) by omega, show n + 46 * j + po_n 2 + 27 = n + 46 * (j + 1) by show n + 46 * j + 19 + 27 = _; omega, show a + (29 + 5 * j) + 1 + 4 = a + (29 + 5 * (j + 1)) by omega]
    exact ihj
theorem nVars_lo (s : n3) : ∀ j q, q < a + 79 → (nVars a s j).1 q = s.1 q ∧ ((q ≠ a + 4 → (nVars a s j).2.1 q = s.2.1 q) ∧ (nVars a s j).2.2 q = s.2.2 q)
  | 0, _, _ => ⟨rfl, fun _ => rfl, rfl⟩
  | j + 1, q, hq => by
    obtain ⟨h1, h2, h3⟩ := nVars_lo s j q hq
    refine ⟨?_, fun hn => ?_, ?_⟩
    · show (nVar a (nVars a s j) j).1 q = _
      unfold nVar
      dsimp only
      rw [po_w_ne (by omega)]
      exact h1
    · show (nVar a (nVars a s j) j).2.1 q = _
      unfold nVar
      dsimp only
      rw [po_u_ne hn, po_w_ne (by omega)]
      exact h2 hn
    · show (nVar a (nVars a s j) j).2.2 q = _
      unfold nVar
      dsimp only
      rw [po_w_ne (by omega)]
      exact h3
set_option maxRecDepth 20000 in
theorem w_X5_vars (hF : po_F X G cX5_init RX5 2 st) {mc ms : Nat} {nm : String} {f : Nat} (hL : po_L X Option.none f mc ms nm) (hf : 3 ≤ f) (ka : s.1 a = (16, 8)) (k2 : s.1 (a + 4) = (9, 12)) (ra : s.2.1 a 6 = .ref (a + 4)) (hk : k + 12 ≤ mc) (hn : n + 48 ≤ ms)
    (kk : po_V X G 2 Q (k + 1 * 12) (n + 4 * 12) 168 [(0, .ref a), (1, .int (Int32.ofNat 12))] [] (nVars a s 12).1 (nVars a s 12).2.1 (nVars a s 12).2.2 (some (a + (79 + 12)))) : ∀ d j, j + d = 12 → po_V X G 2 Q (k + 1 * j) (n + 4 * j) 143 [(0, .ref a), (1, .int (Int32.ofNat j))] [] (nVars a s j).1 (nVars a s j).2.1 (nVars a s j).2.2 (some (a + (79 + j))) := by
  intro d
  induction d with
  | zero =>
    intro j hj
    obtain rfl : j = 12 := by omega
    refine po_iload_n hF dX5_init_143 rfl rfl ?_
    refine po_bipush (v := 12) hF dX5_init_144 (by decide) ?_
    refine po_icmp_ge (tgt := 168) (A := some ()) (B := Option.none) (r := ()) hF dX5_init_146 (by decide) (if_pos (by decide)) (fun _ => kk) (fun hm => ?_)
    cases hm
  | succ d ih =>
    intro j hj
    have hr := hL.2.2.1
    have hcells : X.2.2.2.1.cells = mc := by rw [hr]; rfl
    have hslots : X.2.2.2.1.slots = ms := by rw [hr]; rfl
    obtain ⟨la, la2, _⟩ := nVars_lo (a := a) s j a (by omega)
    obtain ⟨lb, _, _⟩ := nVars_lo (a := a) s j (a + 4) (by omega)
    have ihj := ih (j + 1) (by omega)
    have ka' : (nVars a s j).1 a = (16, 8) := la.trans ka
    have k2' : (nVars a s j).1 (a + 4) = (9, 12) := lb.trans k2
    have ra' : (nVars a s j).2.1 a 6 = .ref (a + 4) := by rw [la2 (by omega)]; exact ra
    have e1 : nVars a s (j + 1) = nVar a (nVars a s j) j := rfl
    rw [e1] at ihj
    generalize nVars a s j = T at *
    refine po_iload_n hF dX5_init_143 rfl rfl ?_
    refine po_bipush (v := 12) hF dX5_init_144 (by decide) ?_
    refine po_icmp_ge (tgt := 168) (A := Option.none) (B := some ()) (r := ()) hF dX5_init_146 (by decide) (if_neg (show ¬ (12 : Int32) ≤ Int32.ofNat j from mt (pl_le (a := 12) (by omega) (by omega)).mp (by omega))) (fun hm => by cases hm) (fun _ => ?_)
    refine po_aload_n hF dX5_init_149 rfl rfl ?_
    refine po_getf (v := .ref (a + 4)) hF dX5_init_150 fl_X5_39 ka' ra' ?_
    refine po_iload_n hF dX5_init_153 rfl rfl ?_
    refine po_new hF dX5_init_154 cl_5_37 (by rw [hcells]; omega) (by rw [hslots]; show _ + 4 ≤ _; omega) ?_
    refine po_dup hF dX5_init_157 rfl ?_
    refine po_callI (As := []) hF dX5_init_158 mi_5_51 c_X6_init rfl ?_ (Nat.le_of_ble_eq_true rfl) rfl ?_
    · unfold po_rt
      rw [hr]
      refine ⟨show 1 + 1 ≤ f by omega, ?_, ?_, ?_⟩
      · show 8 + (1 + 11) + (40 * 1 + 40) ≤ 40 * f + 40
        omega
      · show k + 1 * j + 1 + 0 ≤ mc
        omega
      · show n + 4 * j + 4 + 0 ≤ ms
        omega
    refine po_aastC (e := 6) (j := j) hF dX5_init_161 (c := 9) (len := 12) ((po_w_ne (by omega)).trans k2') (by omega) (by omega) (show po_cl[6]? = some _ from rfl) rfl (len2 := 4) po_w_at (pl_clamp (by omega)) (mt (pl_not0 (by omega)).mp id) (by omega) rfl ?_
    refine po_iinc (v := Int32.ofNat (j + 1)) (L' := [(1, .int (Int32.ofNat (j + 1))), (0, .ref a)]) hF dX5_init_162 rfl (pl_add j 1) (by decide) rfl ?_
    refine po_goto (tgt := 143) hF dX5_init_165 (by decide) ?_
    refine po_sub (L' := [(0, .ref a), (1, .int (Int32.ofNat (j + 1)))]) rfl ?_
    rw [show k + 1 * j + 1 + 0 = k + 1 * (j + 1) by omega, show n + 4 * j + po_n 6 + 0 = n + 4 * (j + 1) by show n + 4 * j + 4 + 0 = _; omega, show a + (79 + j) + 1 = a + (79 + (j + 1)) by omega]
    exact ihj
end QG4
