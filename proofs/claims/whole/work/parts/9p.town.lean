/-! CONSTRUCTORS: a town's lots, permits, variances -/
abbrev n3 : Type := po_K × po_R × po_I
def nLot (a : Nat) (s : n3) (j : Nat) : n3 := (nKA (po_w s.1 (a + (5 + 3 * j)) (12, 4)) (a + (5 + 3 * j) + 1), po_u (po_u (nRA (po_w s.2.1 (a + (5 + 3 * j)) (nw .null)) (a + (5 + 3 * j) + 1)) (a + (5 + 3 * j)) 2 (.ref (a + (5 + 3 * j) + 1))) (a + 2) j (.ref (a + (5 + 3 * j))), nIA (po_w s.2.2 (a + (5 + 3 * j)) (nw 0)) (a + (5 + 3 * j) + 1))
def nLots (a : Nat) (s : n3) : Nat → n3
  | 0 => s
  | j + 1 => nLot a (nLots a s j) j
def nPrm (a : Nat) (s : n3) (j : Nat) : n3 := (po_w (po_w (nKA (po_w s.1 (a + (29 + 5 * j)) (13, 19)) (a + (29 + 5 * j) + 1)) (a + (29 + 5 * j) + 1 + 2) (1, 6)) (a + (29 + 5 * j) + 1 + 3) (1, 6), po_u (po_u (po_w (po_u (po_w (po_u (nRA (po_w s.2.1 (a + (29 + 5 * j)) (nw .null)) (a + (29 + 5 * j) + 1)) (a + (29 + 5 * j)) 4 (.ref (a + (29 + 5 * j) + 1))) (a + (29 + 5 * j) + 1 + 2) (nw .null)) (a + (29 + 5 * j)) 17 (.ref (a + (29 + 5 * j) + 1 + 2))) (a + (29 + 5 * j) + 1 + 3) (nw .null)) (a + (29 + 5 * j)) 18 (.ref (a + (29 + 5 * j) + 1 + 3))) (a + 3) j (.ref (a + (29 + 5 * j))), po_w (po_w (nIA (po_w s.2.2 (a + (29 + 5 * j)) (nw 0)) (a + (29 + 5 * j) + 1)) (a + (29 + 5 * j) + 1 + 2) (nw 0)) (a + (29 + 5 * j) + 1 + 3) (nw 0))
def nPrms (a : Nat) (s : n3) : Nat → n3
  | 0 => s
  | j + 1 => nPrm a (nPrms a s j) j
def nVar (a : Nat) (s : n3) (j : Nat) : n3 := (po_w s.1 (a + (79 + j)) (17, 4), po_u (po_w s.2.1 (a + (79 + j)) (nw .null)) (a + 4) j (.ref (a + (79 + j))), po_w s.2.2 (a + (79 + j)) (nw 0))
def nVars (a : Nat) (s : n3) : Nat → n3
  | 0 => s
  | j + 1 => nVar a (nVars a s j) j
theorem cl_5_19 : po_CL RX5 19 1 := ⟨_, rfl, rfl, List.mem_filter.mpr (by decide +kernel), List.mem_filter.mpr (by decide +kernel), List.mem_filter.mpr (by decide +kernel)⟩
theorem cl_5_28 : po_CL RX5 28 2 := ⟨_, rfl, rfl, List.mem_filter.mpr (by decide +kernel), List.mem_filter.mpr (by decide +kernel), List.mem_filter.mpr (by decide +kernel)⟩
theorem cl_5_37 : po_CL RX5 37 6 := ⟨_, rfl, rfl, List.mem_filter.mpr (by decide +kernel), List.mem_filter.mpr (by decide +kernel), List.mem_filter.mpr (by decide +kernel)⟩
theorem mi_5_49 : po_MI RX5 49 yX1_init cX1_init 1 0 := ⟨rfl, List.mem_filter.mpr (by decide +kernel), List.mem_filter.mpr (by decide +kernel), List.mem_filter.mpr (by decide +kernel), ⟨by decide +kernel, by decide +kernel, by decide +kernel⟩, Or.inr ⟨"PermitOffice", List.mem_filter.mpr (by decide +kernel)⟩⟩
theorem mi_5_50 : po_MI RX5 50 yX2_init cX2_init 1 0 := ⟨rfl, List.mem_filter.mpr (by decide +kernel), List.mem_filter.mpr (by decide +kernel), List.mem_filter.mpr (by decide +kernel), ⟨by decide +kernel, by decide +kernel, by decide +kernel⟩, Or.inr ⟨"PermitOffice", List.mem_filter.mpr (by decide +kernel)⟩⟩
theorem mi_5_51 : po_MI RX5 51 yX6_init cX6_init 1 0 := ⟨rfl, List.mem_filter.mpr (by decide +kernel), List.mem_filter.mpr (by decide +kernel), List.mem_filter.mpr (by decide +kernel), ⟨by decide +kernel, by decide +kernel, by decide +kernel⟩, Or.inr ⟨"PermitOffice", List.mem_filter.mpr (by decide +kernel)⟩⟩
section QG3
variable {K : po_K} {R : po_R} {I : po_I} {st : Nat → Nat} {a q mc ms k n : Nat} {s : n3} {X : po_X} {G : po_G} {Q : State → Prop}
theorem nKA_ne {b : Nat} (h1 : b ≠ q) (h2 : b ≠ q + 1) : nKA K q b = K b := by
  unfold nKA nK0
  rw [po_w_ne h2, po_w_ne h1]
theorem nLots_lo (s : n3) : ∀ j q, q < a + 5 → (nLots a s j).1 q = s.1 q ∧ ((q ≠ a + 2 → (nLots a s j).2.1 q = s.2.1 q) ∧ (nLots a s j).2.2 q = s.2.2 q)
  | 0, _, _ => ⟨rfl, fun _ => rfl, rfl⟩
  | j + 1, q, hq => by
    obtain ⟨h1, h2, h3⟩ := nLots_lo s j q hq
    refine ⟨?_, fun hn => ?_, ?_⟩
    · show (nLot a (nLots a s j) j).1 q = _
      unfold nLot nKA nK0
      dsimp only
      rw [po_w_ne (by omega), po_w_ne (by omega), po_w_ne (by omega)]
      exact h1
    · show (nLot a (nLots a s j) j).2.1 q = _
      unfold nLot nRA nR0
      dsimp only
      rw [po_u_ne hn, po_u_ne (by omega), po_u_ne (by omega), po_w_ne (by omega), po_w_ne (by omega), po_w_ne (by omega)]
      exact h2 hn
    · show (nLot a (nLots a s j) j).2.2 q = _
      unfold nLot nIA nI0
      dsimp only
      rw [po_w_ne (by omega), po_w_ne (by omega), po_w_ne (by omega)]
      exact h3
set_option maxRecDepth 20000 in
theorem w_X5_lots (hF : po_F X G cX5_init RX5 2 st) {mc ms : Nat} {nm : String} {f : Nat} (hL : po_L X Option.none f mc ms nm) (hf : 3 ≤ f) (ka : s.1 a = (16, 8)) (k2 : s.1 (a + 2) = (7, 8)) (ra : s.2.1 a 2 = .ref (a + 2)) (hk : k + 24 ≤ mc) (hn : n + 152 ≤ ms)
    (kk : po_V X G 2 Q (k + 3 * 8) (n + 19 * 8) 114 [(0, .ref a), (1, .int (Int32.ofNat 8))] [] (nLots a s 8).1 (nLots a s 8).2.1 (nLots a s 8).2.2 (some (a + (5 + 3 * 8)))) : ∀ d j, j + d = 8 → po_V X G 2 Q (k + 3 * j) (n + 19 * j) 89 [(0, .ref a), (1, .int (Int32.ofNat j))] [] (nLots a s j).1 (nLots a s j).2.1 (nLots a s j).2.2 (some (a + (5 + 3 * j))) := by
  intro d
  induction d with
  | zero =>
    intro j hj
    obtain rfl : j = 8 := by omega
    refine po_iload_n hF dX5_init_89 rfl rfl ?_
    refine po_bipush (v := 8) hF dX5_init_90 (by decide) ?_
    refine po_icmp_ge (tgt := 114) (A := some ()) (B := Option.none) (r := ()) hF dX5_init_92 (by decide) (if_pos (by decide)) (fun _ => kk) (fun hm => ?_)
    cases hm
  | succ d ih =>
    intro j hj
    have hr := hL.2.2.1
    have hcells : X.2.2.2.1.cells = mc := by rw [hr]; rfl
    have hslots : X.2.2.2.1.slots = ms := by rw [hr]; rfl
    obtain ⟨la, la2, _⟩ := nLots_lo (a := a) s j a (by omega)
    obtain ⟨lb, _, _⟩ := nLots_lo (a := a) s j (a + 2) (by omega)
    have ihj := ih (j + 1) (by omega)
    have ka' : (nLots a s j).1 a = (16, 8) := la.trans ka
    have k2' : (nLots a s j).1 (a + 2) = (7, 8) := lb.trans k2
    have ra' : (nLots a s j).2.1 a 2 = .ref (a + 2) := by rw [la2 (by omega)]; exact ra
    have e1 : nLots a s (j + 1) = nLot a (nLots a s j) j := rfl
    rw [e1] at ihj
    generalize nLots a s j = T at *
    refine po_iload_n hF dX5_init_89 rfl rfl ?_
    refine po_bipush (v := 8) hF dX5_init_90 (by decide) ?_
    refine po_icmp_ge (tgt := 114) (A := Option.none) (B := some ()) (r := ()) hF dX5_init_92 (by decide) (if_neg (show ¬ (8 : Int32) ≤ Int32.ofNat j from mt (pl_le (a := 8) (by omega) (by omega)).mp (by omega))) (fun hm => by cases hm) (fun _ => ?_)
    refine po_aload_n hF dX5_init_95 rfl rfl ?_
    refine po_getf (v := .ref (a + 2)) hF dX5_init_96 fl_X5_21 ka' ra' ?_
    refine po_iload_n hF dX5_init_99 rfl rfl ?_
    refine po_new hF dX5_init_100 cl_5_19 (by rw [hcells]; omega) (by rw [hslots]; show _ + 4 ≤ _; omega) ?_
    refine po_dup hF dX5_init_103 rfl ?_
    refine po_callI (As := []) hF dX5_init_104 mi_5_49 (c_X1_init po_w_at (by omega)) rfl ?_ (Nat.le_of_ble_eq_true rfl) rfl ?_
    · unfold po_rt
      rw [hr]
      refine ⟨hf, ?_, ?_, ?_⟩
      · show 8 + (1 + 11) + (40 * 2 + 40) ≤ 40 * f + 40
        omega
      · show k + 3 * j + 1 + 2 ≤ mc
        omega
      · show n + 19 * j + 4 + 15 ≤ ms
        omega
    refine po_aastC (e := 1) (j := j) hF dX5_init_107 (c := 7) (len := 8) ((nKA_ne (by omega) (by omega)).trans ((po_w_ne (by omega)).trans k2')) (by omega) (by omega) (show po_cl[1]? = some _ from rfl) rfl (len2 := 4) ((nKA_ne (by omega) (by omega)).trans po_w_at) (pl_clamp (by omega)) (mt (pl_not0 (by omega)).mp id) (by omega) rfl ?_
    refine po_iinc (v := Int32.ofNat (j + 1)) (L' := [(1, .int (Int32.ofNat (j + 1))), (0, .ref a)]) hF dX5_init_108 rfl (pl_add j 1) (by decide) rfl ?_
    refine po_goto (tgt := 89) hF dX5_init_111 (by decide) ?_
    refine po_sub (L' := [(0, .ref a), (1, .int (Int32.ofNat (j + 1)))]) rfl ?_
    rw [show k + 3 * j + 1 + 2 = k + 3 * (j + 1) by omega, show n + 19 * j + po_n 1 + 15 = n + 19 * (j + 1) by show n + 19 * j + 4 + 15 = _; omega, show a + (5 + 3 * j) + 1 + 2 = a + (5 + 3 * (j + 1)) by omega]
    exact ihj
end QG3
