/-! THE LAW, from its entry -/
theorem cl_L_8 : po_CL RL 8 7 := ⟨_, rfl, rfl, List.mem_filter.mpr (by decide +kernel), List.mem_filter.mpr (by decide +kernel), List.mem_filter.mpr (by decide +kernel)⟩
theorem cl_L_111 : po_CL RL 111 8 := ⟨_, rfl, rfl, List.mem_filter.mpr (by decide +kernel), List.mem_filter.mpr (by decide +kernel), List.mem_filter.mpr (by decide +kernel)⟩
theorem mi_L_110 : po_MI RL 110 yX7_init cX7_init 2 0 := ⟨rfl, List.mem_filter.mpr (by decide +kernel), List.mem_filter.mpr (by decide +kernel), List.mem_filter.mpr (by decide +kernel), ⟨by decide +kernel, by decide +kernel, by decide +kernel⟩, Or.inl (List.mem_filter.mpr (by decide +kernel))⟩
theorem mi_L_113 : po_MI RL 113 yX8_init cX8_init 2 0 := ⟨rfl, List.mem_filter.mpr (by decide +kernel), List.mem_filter.mpr (by decide +kernel), List.mem_filter.mpr (by decide +kernel), ⟨by decide +kernel, by decide +kernel, by decide +kernel⟩, Or.inl (List.mem_filter.mpr (by decide +kernel))⟩
theorem wI_long : Cond.arrayClass (newarray.typeOf .long) ∈ po_TB := List.mem_filter.mpr (by decide +kernel)
theorem wI_double : Cond.arrayClass (newarray.typeOf .double) ∈ po_TB := List.mem_filter.mpr (by decide +kernel)
section WS0
variable {K : po_K} {R : po_R} {I I' : po_I} {st : Nat → Nat} {o q n : Nat}
/-- one more row of longs or doubles -/
theorem ly_new {v : Nat × Nat} {rr : Nat → Value} (HL : po_Lay K R st) (hq : K q = (0, 0)) (hv : v = (5, 1) ∨ v = (6, 1)) : po_Lay (po_w K q v) (po_w R q rr) st := by
  have kw : ∀ {x : Nat} {d : Nat × Nat}, K x = d → d ≠ (0, 0) → po_w K q v x = d := fun {x d} h h0 => by
    rw [po_w_ne (fun e => h0 (by rw [← h, e, hq]))]; exact h
  have rk : ∀ {x : Nat} {d : Nat × Nat}, K x = d → d ≠ (0, 0) → po_w R q rr x = R x := fun {x d} h h0 => po_w_ne (fun e => h0 (by rw [← h, e, hq]))
  have bk : ∀ {x : Nat} {d : Nat × Nat}, po_w K q v x = d → d ≠ (5, 1) → d ≠ (6, 1) → K x = d := fun {x d} h h5 h6 => by
    by_cases e : x = q
    · subst e
      rw [po_w_at] at h
      rcases hv with rfl | rfl
      · exact absurd h.symm h5
      · exact absurd h.symm h6
    · rw [po_w_ne e] at h; exact h
  refine ⟨fun a => ?_, kw HL.2.1 (by decide), kw HL.2.2.1 (by decide), kw HL.2.2.2 (by decide)⟩
  obtain ⟨h0, h1, h2, h3, h4, h5, h7, h8⟩ := HL.1 a
  refine ⟨fun k => ?_, fun k => ?_, fun k => ?_, fun k => ?_, fun k => ?_, fun k => ?_, fun k => ?_, fun k => ?_⟩
  · have k := bk k (by decide) (by decide)
    have h := h0 k
    unfold po_Ly0 at h ⊢
    rw [rk k (by decide)]; exact ⟨h.1, kw h.2 (by decide)⟩
  · have k := bk k (by decide) (by decide)
    have h := h1 k
    unfold po_Ly1 at h ⊢
    rw [rk k (by decide)]; exact ⟨h.1, kw h.2 (by decide)⟩
  · have k := bk k (by decide) (by decide)
    have h := h2 k
    unfold po_Ly2 at h ⊢
    rw [rk k (by decide)]; exact ⟨⟨h.1.1, kw h.1.2 (by decide)⟩, ⟨h.2.1.1, kw h.2.1.2 (by decide)⟩, h.2.2.1, kw h.2.2.2 (by decide)⟩
  · have k := bk k (by decide) (by decide)
    have h := h3 k
    unfold po_Ly3 at h ⊢
    rw [rk k (by decide)]; exact ⟨h.1, kw h.2 (by decide)⟩
  · have k := bk k (by decide) (by decide)
    have h := h4 k
    unfold po_Ly4 at h ⊢
    rw [rk k (by decide)]; exact ⟨⟨h.1.1, kw h.1.2 (by decide)⟩, h.2.1, kw h.2.2 (by decide)⟩
  · have k := bk k (by decide) (by decide)
    have h := h5 k
    unfold po_Ly5 at h ⊢
    rw [rk k (by decide), rk h.2.1.2 (by decide), rk h.2.2.2.1.2 (by decide), rk h.2.2.2.2.2.1.2 (by decide)]
    exact ⟨⟨h.1.1, kw h.1.2 (by decide)⟩, ⟨h.2.1.1, kw h.2.1.2 (by decide)⟩, fun j hj => ⟨(h.2.2.1 j hj).1, kw (h.2.2.1 j hj).2 (by decide)⟩, ⟨h.2.2.2.1.1, kw h.2.2.2.1.2 (by decide)⟩, fun j hj => ⟨(h.2.2.2.2.1 j hj).1, kw (h.2.2.2.2.1 j hj).2 (by decide)⟩, ⟨h.2.2.2.2.2.1.1, kw h.2.2.2.2.2.1.2 (by decide)⟩, fun j hj => ⟨(h.2.2.2.2.2.2 j hj).1, kw (h.2.2.2.2.2.2 j hj).2 (by decide)⟩⟩
  · have k := bk k (by decide) (by decide)
    have h := h7 k
    unfold po_Ly7 at h ⊢
    rw [rk k (by decide), rk h.2.2.2.2.2.1.2 (by decide)]
    exact ⟨⟨h.1.1, kw h.1.2 (by decide)⟩, ⟨h.2.1.1, kw h.2.1.2 (by decide)⟩, ⟨h.2.2.1.1, kw h.2.2.1.2 (by decide)⟩, ⟨h.2.2.2.1.1, kw h.2.2.2.1.2 (by decide)⟩, ⟨h.2.2.2.2.1.1, kw h.2.2.2.2.1.2 (by decide)⟩, ⟨h.2.2.2.2.2.1.1, kw h.2.2.2.2.2.1.2 (by decide)⟩, fun j hj => ⟨(h.2.2.2.2.2.2 j hj).1, kw (h.2.2.2.2.2.2 j hj).2 (by decide)⟩⟩
  · have k := bk k (by decide) (by decide)
    have h := h8 k
    unfold po_Ly8 at h ⊢
    rw [rk k (by decide)]
    exact ⟨⟨h.1.1, kw h.1.2 (by decide)⟩, ⟨h.2.1.1, kw h.2.1.2 (by decide)⟩, ⟨h.2.2.1.1, kw h.2.2.1.2 (by decide)⟩, ⟨h.2.2.2.1.1, kw h.2.2.2.1.2 (by decide)⟩, ⟨h.2.2.2.2.1.1, kw h.2.2.2.2.1.2 (by decide)⟩, ⟨h.2.2.2.2.2.1.1, kw h.2.2.2.2.2.1.2 (by decide)⟩, h.2.2.2.2.2.2.1, kw h.2.2.2.2.2.2.2 (by decide)⟩
/-- numbers beyond both systems don't matter -/
theorem pInv_hi (h : pInv I R o (o + 828) st n) (f : ∀ q, q < o + 836 → I' q = I q) : pInv I' R o (o + 828) st n := by
  obtain ⟨⟨a1, a2, a3⟩, ⟨u, b1, b2, b3, b4, b5⟩, ⟨b, c1, c2, c3⟩, ⟨len, d1, d2, d3, d4, d5⟩, e1, hM, s1, s2⟩ := h
  have r0 : I' (o + 828) = I (o + 828) := f _ (by omega)
  have r1 : I' (o + 828 + 1) = I (o + 828 + 1) := f _ (by omega)
  have r2 : I' (o + 828 + 2) = I (o + 828 + 2) := f _ (by omega)
  have r4 : I' (o + 828 + 4) = I (o + 828 + 4) := f _ (by omega)
  have r5 : I' (o + 828 + 5) = I (o + 828 + 5) := f _ (by omega)
  have fo : ∀ q, q < o + 828 → I' q = I q := fun q hq => f q (by omega)
  refine ⟨⟨by rw [r1]; exact a1, by rw [r1]; exact a2, by rw [r1]; exact a3.mv a1 (fun q q1 q2 => fo q (by omega))⟩, ⟨u, b1, by rw [fo o (by omega)]; exact b2, by rw [r0]; exact b3, b4, fun i hi => ?_⟩, ⟨b, by rw [fo o (by omega)]; exact c1, by rw [r0]; exact c2, fun hb => ?_⟩, ⟨len, d1, by rw [fo (o + 1) (by omega)]; exact d2, by rw [r0]; exact d3, by rw [fo (o + 2) (by omega), r5]; exact d4, by rw [fo (o + 1) (by omega), r0]; exact d5⟩, ?_, hM, s1, s2⟩
  · obtain ⟨g1, g2, g3⟩ := b5 i hi
    obtain ⟨k, k1, k2, k3⟩ := b4.ad (show i < 6 by omega)
    rw [prw_same r2]
    exact ⟨g1, g2, g3.mv g1 (fun q q1 q2 => fo q (by omega))⟩
  · obtain ⟨g1, g2, g3⟩ := c3 hb
    rw [r4]
    exact ⟨g1, g2, g3.mv g1 (fun q q1 q2 => fo q (by omega))⟩
  · intro j hj
    rw [fo (st 1) (by omega), fo (st 2) (by omega)]
    exact e1 j hj
end WS0
/-- the start with the office's own cell -/
def lwS (st : Nat → Nat) (o : Nat) (I0 : po_I) : n3 := (po_w (st_K st) o (18, 8), po_w (fun _ => nw .null) o (nw .null), po_w I0 o (nw 0))
section WS1
variable {X : po_X} {G : po_G} {Q : State → Prop} {b o Ls : Nat} {st : Nat → Nat} {xs : Nat → Int32} {I0 : po_I}
theorem lwS_K (l0 : st 0 < o) (l1 : st 1 < o) (l2 : st 2 < o) : rK o 836 (nAll (st 0) o (lwS st o I0)).1 kO ∧ rR o (nAll (st 0) o (lwS st o I0)).2.1 rO := by
  refine rAll ⟨fun i => ?_, fun i hi => show po_w (fun _ => ((0, 0) : Nat × Nat)) 0 (18, 8) i = (0, 0) from po_w_ne (by omega)⟩ ?_
  · show po_w (st_K st) o (18, 8) (o + i) = po_w (fun _ => (0, 0)) 0 (18, 8) i
    by_cases hi : i = 0
    · subst hi
      rw [po_w_at]
      exact po_w_at
    · rw [po_w_ne hi, po_w_ne (by omega)]
      exact if_neg (by omega)
  · intro i j k hk
    cases hk
theorem lwS_lo (l0 : st 0 < o) : ∀ a, a < o → (nAll (st 0) o (lwS st o I0)).1 a = st_K st a := by
  intro a ha
  have e1 := (nAll_lo (st 0) o (lwS st o I0) (q := a) (by omega)).1
  have e2 := (nPasts_lo (st 0) o (nPst o (nTw (st 0) (o + 190) o 4 (nTw (st 0) (o + 99) o 3 (nTw (st 0) (o + 8) o 2 (nSvy o (nRdr o (lwS st o I0))))))) 6 a (by omega)).1
  have e3 : (nPst o (nTw (st 0) (o + 190) o 4 (nTw (st 0) (o + 99) o 3 (nTw (st 0) (o + 8) o 2 (nSvy o (nRdr o (lwS st o I0))))))).1 a = (nTw (st 0) (o + 190) o 4 (nTw (st 0) (o + 99) o 3 (nTw (st 0) (o + 8) o 2 (nSvy o (nRdr o (lwS st o I0)))))).1 a := by
    unfold nPst
    exact po_w_ne (by omega)
  have e4 := (nTw_lo (st 0) (o + 190) o 4 (nTw (st 0) (o + 99) o 3 (nTw (st 0) (o + 8) o 2 (nSvy o (nRdr o (lwS st o I0))))) (q := a) (by omega)).1
  have e5 := (nTw_lo (st 0) (o + 99) o 3 (nTw (st 0) (o + 8) o 2 (nSvy o (nRdr o (lwS st o I0)))) (q := a) (by omega)).1
  have e6 := (nTw_lo (st 0) (o + 8) o 2 (nSvy o (nRdr o (lwS st o I0))) (q := a) (by omega)).1
  have e7 : (nSvy o (nRdr o (lwS st o I0))).1 a = st_K st a := by
    unfold nSvy nRdr lwS
    dsimp only
    rw [nKA_ne (by omega) (by omega), nKA_ne (by omega) (by omega), po_w_ne (by omega), po_w_ne (by omega), po_w_ne (by omega), po_w_ne (by omega)]
  exact e1.trans (e2.trans (e3.trans (e4.trans (e5.trans (e6.trans e7)))))
theorem lwS_lay (l0 : st 0 < o) (l1 : st 1 < o) (l2 : st 2 < o) : po_Lay (nAll (st 0) o (lwS st o I0)).1 (nAll (st 0) o (lwS st o I0)).2.1 st := by
  obtain ⟨h1, h2⟩ := lwS_K (I0 := I0) l0 l1 l2
  refine lay_all h1 h2 (fun a ha => ?_) ?_ ?_ ?_
  · rw [lwS_lo l0 a ha]
    unfold st_K
    by_cases h : a = st 0 ∨ a = st 1 ∨ a = st 2
    · rw [if_pos h]; exact Or.inr rfl
    · rw [if_neg h]; exact Or.inl rfl
  · rw [lwS_lo l0 _ l0]; exact if_pos (Or.inl rfl)
  · rw [lwS_lo l0 _ l1]; exact if_pos (Or.inr (Or.inl rfl))
  · rw [lwS_lo l0 _ l2]; exact if_pos (Or.inr (Or.inr rfl))
set_option maxRecDepth 20000 in
set_option maxHeartbeats 2000000 in
theorem lw_start (C : lwX X G st b Ls xs) (hLs : Ls ≤ 2048) (l0 : st 0 < o) (l1 : st 1 < o) (l2 : st 2 < o) (hFR : ∀ i, i < 7 → I0 (st 0) i = pFR i) (hSt : pSt I0 st) (ke : ∀ (k n : Nat) (L : List (Nat × Value)) (K : po_K) (R : po_R) (I : po_I), k ≤ 603072 → n ≤ 7202922 → po_V X G 8 Q k n 1945 L [] K R I none) : po_V X G 8 Q 0 0 0 [(0, .ref b)] [] (st_K st) (fun _ => nw .null) I0 (some o) := by
  have hF := C.1
  have hc : X.2.2.2.1.cells = 603072 := by rw [C.2.1]; rfl
  have hs : X.2.2.2.1.slots = 7202922 := by rw [C.2.1]; rfl
  obtain ⟨hK, hR⟩ := lwS_K (I0 := I0) l0 l1 l2
  have hlay := lwS_lay (I0 := I0) l0 l1 l2
  have hinv : pInv (nAll (st 0) o (lwS st o I0)).2.2 (nAll (st 0) o (lwS st o I0)).2.1 o (o + 828) st 0 := by
    refine nAll_inv l0 l1 l2 (fun i hi => ?_) (fun j hj => ?_)
    · show po_w I0 o (nw 0) (st 0) i = pFR i
      rw [po_w_ne (by omega)]
      exact hFR i hi
    · show po_w I0 o (nw 0) (st 1) j = _ ∧ po_w I0 o (nw 0) (st 2) j = _
      rw [po_w_ne (by omega), po_w_ne (by omega)]
      exact hSt j hj
  have kb : (lwS st o I0).1 (st 0) = (2, 7) := (po_w_ne (by omega)).trans (if_pos (Or.inl rfl))
  refine po_new (c := 7) hF dL_law_0 cl_L_8 (by rw [hc]; exact Nat.le_of_ble_eq_true rfl) (by rw [hs]; exact Nat.le_of_ble_eq_true rfl) ?_
  refine po_dup hF dL_law_3 rfl ?_
  refine po_callI (As := []) (b := o) (S := [.ref o]) hF dL_law_4 mi_L_110 (c_X7_init (s := lwS st o I0) (o := o) po_w_at l0 kb) rfl (lw_rt C (by decide) (by decide) (Nat.le_of_ble_eq_true rfl) (Nat.le_of_ble_eq_true rfl)) (Nat.le_of_ble_eq_true rfl) rfl ?_
  refine po_astore_n hF dL_law_7 rfl (by decide) rfl ?_
  refine po_new (c := 8) hF dL_law_8 cl_L_111 (by rw [hc]; exact Nat.le_of_ble_eq_true rfl) (by rw [hs]; exact Nat.le_of_ble_eq_true rfl) ?_
  refine po_dup hF dL_law_11 rfl ?_
  refine po_callI (As := []) (b := o + 828) (S := [.ref (o + 828)]) hF dL_law_12 mi_L_113 (c_X8_init (s := (po_w (nOff (st 0) o (lwS st o I0)).1 (o + 828) (19, 19), po_w (nOff (st 0) o (lwS st o I0)).2.1 (o + 828) (nw .null), po_w (nOff (st 0) o (lwS st o I0)).2.2 (o + 828) (nw 0))) (o := o + 828) po_w_at) rfl (lw_rt C (by decide) (by decide) (Nat.le_of_ble_eq_true rfl) (Nat.le_of_ble_eq_true rfl)) (Nat.le_of_ble_eq_true rfl) rfl ?_
  show po_V X G 8 Q _ _ _ _ _ (nAll (st 0) o (lwS st o I0)).1 (nAll (st 0) o (lwS st o I0)).2.1 (nAll (st 0) o (lwS st o I0)).2.2 (some (o + 836))
  have k0 : (nAll (st 0) o (lwS st o I0)).1 o = (18, 8) := tK hK ckO.1 (by omega)
  have k1 : (nAll (st 0) o (lwS st o I0)).1 (o + 828) = (19, 19) := tK hK ckO.2 (by omega)
  have k2 : (nAll (st 0) o (lwS st o I0)).1 (o + 836) = (0, 0) := tK hK (hK.2 836 (Nat.le_refl _)) (by omega)
  have k3 : (nAll (st 0) o (lwS st o I0)).1 (o + 837) = (0, 0) := tK hK (hK.2 837 (by omega)) (by omega)
  generalize nAll (st 0) o (lwS st o I0) = T at *
  refine po_astore_n hF dL_law_15 rfl (by decide) rfl ?_
  refine po_iconst (v := 1) hF dL_law_16 (by decide) ?_
  refine po_newa (c := 5) (m := 1) (rr := fun _ => .long 0) (ii := fun _ => 0) hF dL_law_17 wI_long (by omega) (by omega) rfl (fun C h => by cases h) rfl (by decide) (by decide) (fun j => rfl) (by rw [hc]; exact Nat.le_of_ble_eq_true rfl) (by rw [hs]; exact Nat.le_of_ble_eq_true rfl) ?_
  refine po_astore_n hF dL_law_19 rfl (by decide) rfl ?_
  refine po_iconst (v := 1) hF dL_law_20 (by decide) ?_
  refine po_newa (q := o + 837) (c := 6) (m := 1) (rr := fun _ => .double 0) (ii := fun _ => 0) hF dL_law_21 wI_double (by omega) (by omega) rfl (fun C h => by cases h) rfl (by decide) (by decide) (fun j => rfl) (by rw [hc]; exact Nat.le_of_ble_eq_true rfl) (by rw [hs]; exact Nat.le_of_ble_eq_true rfl) ?_
  refine po_astore hF dL_law_23 (by decide) rfl ?_
  refine po_iconst (v := Int32.ofNat (4 * 0)) hF dL_law_25 (by decide) ?_
  refine po_istore hF dL_law_26 (by decide) rfl ?_
  refine po_sub (L' := lwL b o (Int32.ofNat (4 * 0))) rfl ?_
  refine po_forget ?_
  have hlay2 := ly_new (rr := fun _ => .long 0) hlay k2 (Or.inl rfl)
  have hlay3 := ly_new (q := o + 837) (rr := fun _ => .double 0) hlay2 (by rw [po_w_ne (by omega)]; exact k3) (Or.inr rfl)
  have HK : lwK (po_w (po_w T.1 (o + 836) (5, 1)) (o + 837) (6, 1)) o := by
    refine ⟨?_, ?_, ?_, po_w_at⟩
    · rw [po_w_ne (by omega), po_w_ne (by omega)]; exact k0
    · rw [po_w_ne (by omega), po_w_ne (by omega)]; exact k1
    · rw [po_w_ne (by omega), po_w_at]
  refine law_loop C HK hLs (fun k n L R I => ke k n L _ R I) 512 0 _ _ _ _ (by omega) (by omega) (Nat.le_of_ble_eq_true rfl) (Nat.le_of_ble_eq_true rfl) hlay3 ?_
  refine pInv_hi (pInv_R hinv ?_) (fun q hq => ?_)
  · rw [po_w_ne (by omega), po_w_ne (by omega)]
  · rw [po_w_ne (by omega), po_w_ne (by omega)]
end WS1
set_option maxHeartbeats 2000000 in
theorem whole_start {p : Program} {e : Env} {s : State} {m : MethodId} {below : List Frame} {meth : Method} {c : Code} (l : Launch) (hflags : l.flags = flags0) {b L : Nat} {xs : Nat → Int32} (hL : L ≤ 2048) (C0 : lw_At p s m meth c b L xs) : W p l e room_1 s m #[Value.ref b] below meth c s.heap [] 0 0 (lw_Z below #[Value.ref b] s) (entryFrame m ([Value.ref b] : List Value).toArray 8) := by
  obtain ⟨hx, hb, hr, hml, hown, hts, hX, hbl, hlocks, hgv⟩ := id C0
  obtain ⟨G, hsz, hE, hok, hFR, hSt, l0, l1, l2⟩ := st_all hts (flat_of_before st_T hgv)
  have hF : po_F (p, l, e, room_1, s, m, #[Value.ref b], below, meth, c) G cL_law RL 8 G.2.2.2 := ⟨hx, hb, hml, hown, fun w hw => hts w (List.mem_filter.mp hw).1, hE, rfl, hflags⟩
  have C : lwX (p, l, e, room_1, s, m, #[Value.ref b], below, meth, c) G G.2.2.2 b L xs := ⟨hF, rfl, hX, hbl, by show ¬ G.2.2.1 ≤ b; rw [hsz]; exact Nat.not_le.mpr hbl⟩
  have main : po_V (p, l, e, room_1, s, m, #[Value.ref b], below, meth, c) G 8 (lw_Z below #[Value.ref b] s) 0 0 0 [(0, .ref b)] [] (st_K G.2.2.2) (fun _ => nw .null) (st_I s.heap) (some s.heap.size) := by
    refine lw_start C hL l0 l1 l2 hFR hSt (fun k n L2 K R I hk hn => ?_)
    refine po_iconst (v := 1) hF dL_law_1945 (by decide) ?_
    intro H locs ls hl hP hS
    refine va_forget (fun q hq => ?_) ?_
    · have h := hS.2.2 q hq
      have h : G.2.2.1 ≤ q.base := h
      rw [hsz] at h
      exact h
    · exact W.base (W.widen hk hn (lw_ret (Drawn.sameBut.refl s.drawn lw_cs) hx hb hr hlocks dL_law_1946))
  have hl := lv_entry ([.ref b]) (n := 8) (Nat.le_of_ble_eq_true rfl)
  rw [lg_entry_eq]
  exact main s.heap [] _ hl hok va_S.rf
