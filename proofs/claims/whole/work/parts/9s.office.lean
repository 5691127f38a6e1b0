/-! CONSTRUCTORS: the office -/
section QG6
variable {K : po_K} {R : po_R} {I : po_I} {st : Nat → Nat} {a q o b mc ms k n : Nat} {s : n3} {X : po_X} {G : po_G} {Q : State → Prop} {z : Option Nat}
theorem nRuls_ne (a b : Nat) (I : po_I) : ∀ j q, q ≠ a + 1 → nRuls a b I j q = I q
  | 0, _, _ => rfl
  | j + 1, q, h => by
    show (po_u (nRuls a b I j) (a + 1) j _) q = I q
    rw [po_u_ne h]
    exact nRuls_ne a b I j q h
theorem nT_lo (b a : Nat) (s : n3) {q : Nat} (hq : q < a) : (nT b a s).1 q = s.1 q ∧ (nT b a s).2.1 q = s.2.1 q ∧ (nT b a s).2.2 q = s.2.2 q := by
  have h1 := nVars_lo (a := a) (nPrms a (nLots a (nT0K s.1 a, nT0R s.2.1 a, nRuls a b (nT0I s.2.2 a) 28) 8) 10) 12 q (by omega)
  have h2 := nPrms_lo (a := a) (nLots a (nT0K s.1 a, nT0R s.2.1 a, nRuls a b (nT0I s.2.2 a) 28) 8) 10 q (by omega)
  have h3 := nLots_lo (a := a) (nT0K s.1 a, nT0R s.2.1 a, nRuls a b (nT0I s.2.2 a) 28) 8 q (by omega)
  refine ⟨h1.1.trans (h2.1.trans (h3.1.trans ?_)), (h1.2.1 (by omega)).trans ((h2.2.1 (by omega)).trans ((h3.2.1 (by omega)).trans ?_)), h1.2.2.trans (h2.2.2.trans (h3.2.2.trans ?_))⟩
  · show nT0K s.1 a q = _
    unfold nT0K
    rw [po_w_ne (by omega), po_w_ne (by omega), po_w_ne (by omega), po_w_ne (by omega)]
  · show nT0R s.2.1 a q = _
    unfold nT0R
    rw [po_u_ne (by omega), po_w_ne (by omega), po_u_ne (by omega), po_w_ne (by omega), po_u_ne (by omega), po_w_ne (by omega), po_u_ne (by omega), po_w_ne (by omega)]
  · show nRuls a b (nT0I s.2.2 a) 28 q = _
    rw [nRuls_ne _ _ _ _ _ (by omega)]
    unfold nT0I
    rw [po_u_ne (by omega), po_w_ne (by omega), po_u_ne (by omega), po_w_ne (by omega), po_u_ne (by omega), po_w_ne (by omega), po_w_ne (by omega), po_u_ne (by omega)]
theorem nT_at (b a : Nat) (s : n3) : (nT b a s).1 a = s.1 a := by
  have h1 := nVars_lo (a := a) (nPrms a (nLots a (nT0K s.1 a, nT0R s.2.1 a, nRuls a b (nT0I s.2.2 a) 28) 8) 10) 12 a (by omega)
  have h2 := nPrms_lo (a := a) (nLots a (nT0K s.1 a, nT0R s.2.1 a, nRuls a b (nT0I s.2.2 a) 28) 8) 10 a (by omega)
  have h3 := nLots_lo (a := a) (nT0K s.1 a, nT0R s.2.1 a, nRuls a b (nT0I s.2.2 a) 28) 8 a (by omega)
  refine h1.1.trans (h2.1.trans (h3.1.trans ?_))
  show nT0K s.1 a a = _
  unfold nT0K
  rw [po_w_ne (by omega), po_w_ne (by omega), po_w_ne (by omega), po_w_ne (by omega)]
/-- a new town at t, kept in the place j of c -/
def nTw (b t c j : Nat) (s : n3) : n3 := ((nT b t (po_w s.1 t (16, 8), po_w s.2.1 t (nw .null), po_w s.2.2 t (nw 0))).1, po_u (nT b t (po_w s.1 t (16, 8), po_w s.2.1 t (nw .null), po_w s.2.2 t (nw 0))).2.1 c j (.ref t), (nT b t (po_w s.1 t (16, 8), po_w s.2.1 t (nw .null), po_w s.2.2 t (nw 0))).2.2)
theorem nTw_lo (b t c j : Nat) (s : n3) {q : Nat} (hq : q < t) : (nTw b t c j s).1 q = s.1 q ∧ (q ≠ c → (nTw b t c j s).2.1 q = s.2.1 q) ∧ (∀ i, i ≠ j → (nTw b t c j s).2.1 q i = s.2.1 q i) ∧ (nTw b t c j s).2.2 q = s.2.2 q := by
  obtain ⟨h1, h2, h3⟩ := nT_lo b t (po_w s.1 t (16, 8), po_w s.2.1 t (nw .null), po_w s.2.2 t (nw 0)) hq
  dsimp only at h1 h2 h3
  rw [po_w_ne (by omega)] at h1 h2 h3
  refine ⟨h1, fun hn => ?_, fun i hi => ?_, h3⟩
  · show (po_u _ c j _) q = _
    rw [po_u_ne hn]; exact h2
  · show (po_u _ c j _) q i = _
    rw [po_uu, if_neg (by omega), h2]
def nPasts (b o : Nat) (s : n3) : Nat → n3
  | 0 => s
  | j + 1 => nTw b (o + 282 + 91 * j) (o + 281) j (nPasts b o s j)
theorem nPasts_lo (b o : Nat) (s : n3) : ∀ j q, q < o + 282 → (nPasts b o s j).1 q = s.1 q ∧ (q ≠ o + 281 → (nPasts b o s j).2.1 q = s.2.1 q) ∧ (nPasts b o s j).2.2 q = s.2.2 q
  | 0, _, _ => ⟨rfl, fun _ => rfl, rfl⟩
  | j + 1, q, hq => by
    obtain ⟨h1, h2, h3⟩ := nPasts_lo b o s j q hq
    obtain ⟨g1, g2, _, g3⟩ := nTw_lo b (o + 282 + 91 * j) (o + 281) j (nPasts b o s j) (q := q) (by omega)
    exact ⟨g1.trans h1, fun hn => (g2 hn).trans (h2 hn), g3.trans h3⟩
theorem cl_7_23 : po_CL RX7 23 5 := ⟨_, rfl, rfl, List.mem_filter.mpr (by decide +kernel), List.mem_filter.mpr (by decide +kernel), List.mem_filter.mpr (by decide +kernel)⟩
theorem cl_7_7 : po_CL RX7 7 3 := ⟨_, rfl, rfl, List.mem_filter.mpr (by decide +kernel), List.mem_filter.mpr (by decide +kernel), List.mem_filter.mpr (by decide +kernel)⟩
theorem cl_7_16 : po_CL RX7 16 4 := ⟨_, rfl, rfl, List.mem_filter.mpr (by decide +kernel), List.mem_filter.mpr (by decide +kernel), List.mem_filter.mpr (by decide +kernel)⟩
theorem mi_7_9 : po_MI RX7 9 yX3_init cX3_init 1 0 := ⟨rfl, List.mem_filter.mpr (by decide +kernel), List.mem_filter.mpr (by decide +kernel), List.mem_filter.mpr (by decide +kernel), ⟨by decide +kernel, by decide +kernel, by decide +kernel⟩, Or.inr ⟨"PermitOffice", List.mem_filter.mpr (by decide +kernel)⟩⟩
theorem mi_7_18 : po_MI RX7 18 yX4_init cX4_init 1 0 := ⟨rfl, List.mem_filter.mpr (by decide +kernel), List.mem_filter.mpr (by decide +kernel), List.mem_filter.mpr (by decide +kernel), ⟨by decide +kernel, by decide +kernel, by decide +kernel⟩, Or.inr ⟨"PermitOffice", List.mem_filter.mpr (by decide +kernel)⟩⟩
theorem mi_7_25 : po_MI RX7 25 yX5_init cX5_init 2 0 := ⟨rfl, List.mem_filter.mpr (by decide +kernel), List.mem_filter.mpr (by decide +kernel), List.mem_filter.mpr (by decide +kernel), ⟨by decide +kernel, by decide +kernel, by decide +kernel⟩, Or.inl (List.mem_filter.mpr (by decide +kernel))⟩
theorem wI_X7_1 : Cond.methodLink RX7 1 Lib.objectInit ∈ po_TB := List.mem_filter.mpr (by decide +kernel)
set_option maxRecDepth 20000 in
theorem w_X7_pasts (hF : po_F X G cX7_init RX7 2 st) {nm : String} {f : Nat} (hL : po_L X Option.none f mc ms nm) (hf : 4 ≤ f) (ka : s.1 o = (18, 8)) (k2 : s.1 (o + 281) = (10, 6)) (ra : s.2.1 o 6 = .ref (o + 281)) (hst : st 0 < o) (kb : s.1 (st 0) = (2, 7)) (hk : k + 546 ≤ mc) (hn : n + 4356 ≤ ms)
    (kk : po_V X G 2 Q (k + 91 * 6) (n + 726 * 6) 105 [(0, .ref o), (1, .int (Int32.ofNat 6))] [] (nPasts (st 0) o s 6).1 (nPasts (st 0) o s 6).2.1 (nPasts (st 0) o s 6).2.2 (some (o + 282 + 91 * 6))) : ∀ d j, j + d = 6 → po_V X G 2 Q (k + 91 * j) (n + 726 * j) 80 [(0, .ref o), (1, .int (Int32.ofNat j))] [] (nPasts (st 0) o s j).1 (nPasts (st 0) o s j).2.1 (nPasts (st 0) o s j).2.2 (some (o + 282 + 91 * j)) := by
  intro d
  induction d with
  | zero =>
    intro j hj
    obtain rfl : j = 6 := by omega
    refine po_iload_n hF dX7_init_80 rfl rfl ?_
    refine po_bipush (v := 6) hF dX7_init_81 (by decide) ?_
    refine po_icmp_ge (tgt := 105) (A := some ()) (B := Option.none) (r := ()) hF dX7_init_83 (by decide) (if_pos (by decide)) (fun _ => kk) (fun hm => ?_)
    cases hm
  | succ d ih =>
    intro j hj
    have hr := hL.2.2.1
    have hcells : X.2.2.2.1.cells = mc := by rw [hr]; rfl
    have hslots : X.2.2.2.1.slots = ms := by rw [hr]; rfl
    obtain ⟨la, la2, _⟩ := nPasts_lo (st 0) o s j o (by omega)
    obtain ⟨lb, _, _⟩ := nPasts_lo (st 0) o s j (o + 281) (by omega)
    obtain ⟨lc, _, _⟩ := nPasts_lo (st 0) o s j (st 0) (by omega)
    have ihj := ih (j + 1) (by omega)
    have ka' : (nPasts (st 0) o s j).1 o = (18, 8) := la.trans ka
    have k2' : (nPasts (st 0) o s j).1 (o + 281) = (10, 6) := lb.trans k2
    have kb' : (nPasts (st 0) o s j).1 (st 0) = (2, 7) := lc.trans kb
    have ra' : (nPasts (st 0) o s j).2.1 o 6 = .ref (o + 281) := by rw [la2 (by omega)]; exact ra
    have e1 : nPasts (st 0) o s (j + 1) = nTw (st 0) (o + 282 + 91 * j) (o + 281) j (nPasts (st 0) o s j) := rfl
    rw [e1] at ihj
    generalize nPasts (st 0) o s j = T at *
    refine po_iload_n hF dX7_init_80 rfl rfl ?_
    refine po_bipush (v := 6) hF dX7_init_81 (by decide) ?_
    refine po_icmp_ge (tgt := 105) (A := Option.none) (B := some ()) (r := ()) hF dX7_init_83 (by decide) (if_neg (show ¬ (6 : Int32) ≤ Int32.ofNat j from mt (pl_le (a := 6) (by omega) (by omega)).mp (by omega))) (fun hm => by cases hm) (fun _ => ?_)
    refine po_aload_n hF dX7_init_86 rfl rfl ?_
    refine po_getf (v := .ref (o + 281)) hF dX7_init_87 fl_X7_40 ka' ra' ?_
    refine po_iload_n hF dX7_init_90 rfl rfl ?_
    refine po_new hF dX7_init_91 cl_7_23 (by rw [hcells]; omega) (by rw [hslots]; show _ + 8 ≤ _; omega) ?_
    refine po_dup hF dX7_init_94 rfl ?_
    refine po_callI (As := []) hF dX7_init_95 mi_7_25 (c_X5_init po_w_at (by omega) (by rw [po_w_ne (by omega)]; exact kb')) rfl ?_ (Nat.le_of_ble_eq_true rfl) rfl ?_
    · unfold po_rt
      rw [hr]
      refine ⟨show 3 + 1 ≤ f by omega, ?_, ?_, ?_⟩
      · show 8 + (2 + 11) + (40 * 3 + 40) ≤ 40 * f + 40
        omega
      · show k + 91 * j + 1 + 90 ≤ mc
        omega
      · show n + 726 * j + 8 + 718 ≤ ms
        omega
    have n1 := nT_lo (st 0) (o + 282 + 91 * j) (po_w T.1 (o + 282 + 91 * j) (16, 8), po_w T.2.1 (o + 282 + 91 * j) (nw .null), po_w T.2.2 (o + 282 + 91 * j) (nw 0)) (q := o + 281) (by omega)
    have n2 : (nT (st 0) (o + 282 + 91 * j) (po_w T.1 (o + 282 + 91 * j) (16, 8), po_w T.2.1 (o + 282 + 91 * j) (nw .null), po_w T.2.2 (o + 282 + 91 * j) (nw 0))).1 (o + 282 + 91 * j) = (16, 8) := (nT_at _ _ _).trans po_w_at
    refine po_aastC (e := 5) (j := j) hF dX7_init_98 (c := 10) (len := 6) (n1.1.trans ((po_w_ne (by omega)).trans k2')) (by omega) (by omega) (show po_cl[5]? = some _ from rfl) rfl (len2 := 8) n2 (pl_clamp (by omega)) (mt (pl_not0 (by omega)).mp id) (by omega) rfl ?_
    refine po_iinc (v := Int32.ofNat (j + 1)) (L' := [(1, .int (Int32.ofNat (j + 1))), (0, .ref o)]) hF dX7_init_99 rfl (pl_add j 1) (by decide) rfl ?_
    refine po_goto (tgt := 80) hF dX7_init_102 (by decide) ?_
    refine po_sub (L' := [(0, .ref o), (1, .int (Int32.ofNat (j + 1)))]) rfl ?_
    rw [show k + 91 * j + 1 + 90 = k + 91 * (j + 1) by omega, show n + 726 * j + po_n 5 + 718 = n + 726 * (j + 1) by show n + 726 * j + 8 + 718 = _; omega, show o + 282 + 91 * j + 91 = o + 282 + 91 * (j + 1) by omega]
    exact ihj
end QG6
