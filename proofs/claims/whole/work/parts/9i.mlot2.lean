/-! THE MODEL READS: lots and rules -/
section QE5
variable {I J K : po_I} {M p p' k n e i f b : Nat} {w : pW} {N N' : po_N} {a : pA}
def mC (K : po_I) (M : Nat) (w : pW) (res : Option po_I) (s : Nat ⊕ (Nat × po_N)) : Prop := match s with
  | .inl e => ∃ K', res = some K' ∧ mO K K' M ∧ mF K' M w e
  | .inr (q, N') => ∃ K', res = some K' ∧ mO K K' M ∧ mS K' M w q N'
theorem mC.of {res : Option po_I} {s : Nat ⊕ (Nat × po_N)} (h : mC J M w res s) (ho : mO K J M) : mC K M w res s := by
  unfold mC at h ⊢
  match s with
  | .inl _ =>
    obtain ⟨K1, h1, h2, h3⟩ := h
    exact ⟨K1, h1, ho.tr h2, h3⟩
  | .inr (_, _) =>
    obtain ⟨K1, h1, h2, h3⟩ := h
    exact ⟨K1, h1, ho.tr h2, h3⟩
theorem mS.mvr (h : mS K M w p N) (e : ∀ q, q ≠ M + 1 → J q = K q) (hs : psame N' (J (M + 1))) : mS J M w p N' := by
  obtain ⟨h1, h2, h3, h4, h5, h6, h7⟩ := h
  exact ⟨by rw [e M (by omega)]; exact h1, by rw [e M (by omega)]; exact h2, by rw [e M (by omega)]; exact h3, fun j hj => by rw [e (M + 5) (by omega)]; exact h4 j hj, h5, h6, hs⟩
theorem mO_r (e : ∀ q, q ≠ M + 1 → J q = K q) : mO K J M := ⟨fun q a b _ => e q b, fun j _ _ _ => by rw [e M (by omega)]⟩
theorem mS.row (h : mS K M w p N) {j : Nat} (hj : j < 668) : K (M + 1) j = N j := h.2.2.2.2.2.2 j hj
theorem sAS_ok {q : Nat} (ha : sA w p = .inr (a, q)) (hc : pch w q = 59) : sAS w p = .inr (a, q) := by unfold sAS; rw [ha]; exact if_pos hc
theorem sAS_no {q : Nat} (ha : sA w p = .inr (a, q)) (hc : ¬ pch w q = 59) : sAS w p = .inl q := by unfold sAS; rw [ha]; exact if_neg hc
theorem sAS_e {e : Nat} (ha : sA w p = .inl e) : sAS w p = .inl e := by unfold sAS; rw [ha]
theorem ms_musts (h : mS K M w p N) {c : Nat} (hc : 0 < c) (hc2 : c < 1000) (e : pch w p = c) : m_X8_must K M (Int32.ofNat c) = some (po_u K M 14 (Int32.ofNat (p + 1))) ∧ mS (po_u K M 14 (Int32.ofNat (p + 1))) M w (p + 1) N := by
  have y := ms_must h hc hc2
  have hp := pch_in (w := w) (p := p) (by omega)
  rw [if_pos e] at y
  exact ⟨y, h.to (by omega)⟩
theorem ms_mustn (h : mS K M w p N) {c : Nat} (hc : 0 < c) (hc2 : c < 1000) (e : ¬ pch w p = c) : m_X8_must K M (Int32.ofNat c) = some (po_u K M 15 (Int32.ofNat p)) ∧ mF (po_u K M 15 (Int32.ofNat p)) M w p := by
  have y := ms_must h hc hc2
  rw [if_neg e] at y
  exact ⟨y, h.bad h.p60⟩
theorem mf_lot23 (h : mF K M w e) (l s : Int32) : ∃ K', m_X8_readLot_23 K M l s = some K' ∧ mO K K' M ∧ mF K' M w e := by
  unfold m_X8_readLot_23
  have h' : mF (po_u K M 17 0) M w e := h.u17
  rw [mf_area h, Option.bind_some, po_letE, mf_must h', Option.bind_some, if_neg h'.ne]
  exact ⟨_, rfl, mO_u (by omega), h'⟩
theorem pLotN_same {z f q : Nat} (hk : pv N 1 = k) (hk8 : k < 8) (hat : pAt N' (32 + 16 * k) a) (h1 : N' 1 = Int32.ofNat (k + 1)) (hz : N' (32 + 16 * k) = Int32.ofNat z) (hf : N' (32 + 16 * k + 1) = Int32.ofNat f) (hN : ∀ j, j < 668 → j ≠ 1 → (j < 32 + 16 * k ∨ 32 + 16 * k + 15 ≤ j) → N' j = N j) : psame (pLotN N z f a) N' := by
  intro j hj
  unfold pLotN
  rw [hk]
  by_cases c1 : j = 1
  · rw [if_pos c1, c1]; exact h1
  by_cases c2 : j = 32 + 16 * k
  · rw [if_neg c1, if_pos c2, c2]; exact hz
  by_cases c3 : j = 32 + 16 * k + 1
  · rw [if_neg c1, if_neg c2, if_pos c3, c3]; exact hf
  by_cases c4 : j = 32 + 16 * k + 2
  · rw [if_neg c1, if_neg c2, if_neg c3, if_pos c4, c4]; exact hat.1
  rw [if_neg c1, if_neg c2, if_neg c3, if_neg c4]
  by_cases c5 : 32 + 16 * k + 3 ≤ j ∧ j < 32 + 16 * k + 15
  · rw [if_pos c5]
    have := hat.2 (j - (32 + 16 * k + 3)) (by omega)
    rw [show 32 + 16 * k + 3 + (j - (32 + 16 * k + 3)) = j by omega] at this
    exact this
  · rw [if_neg c5]
    exact hN j hj c1 (by omega)
theorem ms_lot23 {z f : Nat} (hk : pv N 1 = k) (h2 : mS K M w p N) (hV : pV N) (hk8 : ¬ pv N 1 = 8) (a1 : z < 4) (f4 : f < 4) : mC K M w (m_X8_readLot_23 K M (Int32.ofNat z) (Int32.ofNat f)) (match sA w p with
    | .inl e => .inl e
    | .inr (a, q) => if pch w q = 59 then (if psh N (pv N 1) (pAs a) = true then .inl q else .inr (q + 1, pLotN N z f a)) else .inl q) := by
  have q1 := hV.2.1
  have q1' := q1.2.2
  unfold m_X8_readLot_23
  have hA := ms_area h2
  unfold mA at hA
  cases ha : sA w p with
  | inl e =>
    rw [sAS_e ha] at hA
    obtain ⟨L1, L2, c1, c2, c3, c4⟩ := hA
    rw [c1, Option.bind_some, po_letE, c2, Option.bind_some, if_neg c4.ne]
    exact ⟨L2, rfl, c3, c4⟩
  | inr Q =>
    obtain ⟨a, q⟩ := Q
    by_cases c59 : pch w q = 59
    · rw [sAS_ok ha c59] at hA
      obtain ⟨L1, c1, c2, h3, _, c5, c6⟩ := hA
      have hav := (sA_ok ha).1
      have hav1 := hav.1
      have hav3 := hav.2.1
      obtain ⟨d1, h4⟩ := ms_musts h3 (c := 59) (by omega) (by omega) c59
      have o4 : mO K (po_u L1 M 14 (Int32.ofNat (q + 1))) M := c2.tr (mO_u (by omega))
      have g5 : (po_u L1 M 14 (Int32.ofNat (q + 1))) M 17 = Int32.ofNat a.1 := by rw [po_uu, if_neg (by omega)]; exact c5
      have g6 : ∀ j, j < 4 * a.1 → (po_u L1 M 14 (Int32.ofNat (q + 1))) (M + 6) j = Int32.ofNat (pAn a j) := fun j hj => by rw [po_u_ne (by omega)]; exact c6 j hj
      rw [c1, Option.bind_some, po_letE, show m_X8_must L1 M 59 = _ from d1, Option.bind_some, h3.2.1, if_pos h4.2.2.1]
      dsimp only
      rw [if_pos c59]
      generalize eB : psh N (pv N 1) (pAs a) = B
      rw [hk] at eB
      generalize po_u L1 M 14 (Int32.ofNat (q + 1)) = K3 at *
      have r1 : K3 (M + 1) 1 = Int32.ofNat k := by rw [h4.row (by omega), ← hk]; exact q1.1
      rw [r1, po_letE, po_letE, show (16 : Int32) * Int32.ofNat k = Int32.ofNat (16 * k) from pl_mul 16 k, show (32 : Int32) + Int32.ofNat (16 * k) = Int32.ofNat (32 + 16 * k) from pl_add 32 _, show Int32.ofNat k + 1 = Int32.ofNat (k + 1) from pl_add k 1, show Int32.ofNat (32 + 16 * k) + 1 = Int32.ofNat (32 + 16 * k + 1) from pl_add _ 1, po_hletE, if_pos (pl_inl (by omega) (by omega)), pl_clamp (by omega), po_hletE, if_pos (pl_inl (by omega) (by omega)), pl_clamp (by omega), po_hletE]
      have e8 : ∀ q, q ≠ M + 1 → (po_u (po_u (po_u K3 (M + 1) 1 (Int32.ofNat (k + 1))) (M + 1) (32 + 16 * k) (Int32.ofNat z)) (M + 1) (32 + 16 * k + 1) (Int32.ofNat f)) q = K3 q := fun q hq => by rw [po_u_ne hq, po_u_ne hq, po_u_ne hq]
      have w1 : (po_u (po_u (po_u K3 (M + 1) 1 (Int32.ofNat (k + 1))) (M + 1) (32 + 16 * k) (Int32.ofNat z)) (M + 1) (32 + 16 * k + 1) (Int32.ofNat f)) (M + 1) 1 = Int32.ofNat (k + 1) := by rw [po_uu, if_neg (by omega), po_uu, if_neg (by omega), po_uaa]
      have w2 : (po_u (po_u (po_u K3 (M + 1) 1 (Int32.ofNat (k + 1))) (M + 1) (32 + 16 * k) (Int32.ofNat z)) (M + 1) (32 + 16 * k + 1) (Int32.ofNat f)) (M + 1) (32 + 16 * k) = Int32.ofNat z := by rw [po_uu, if_neg (by omega), po_uaa]
      have w3 : (po_u (po_u (po_u K3 (M + 1) 1 (Int32.ofNat (k + 1))) (M + 1) (32 + 16 * k) (Int32.ofNat z)) (M + 1) (32 + 16 * k + 1) (Int32.ofNat f)) (M + 1) (32 + 16 * k + 1) = Int32.ofNat f := po_uaa _ _ _ _
      have w4 : ∀ j, j < 668 → j ≠ 1 → j ≠ 32 + 16 * k → j ≠ 32 + 16 * k + 1 → (po_u (po_u (po_u K3 (M + 1) 1 (Int32.ofNat (k + 1))) (M + 1) (32 + 16 * k) (Int32.ofNat z)) (M + 1) (32 + 16 * k + 1) (Int32.ofNat f)) (M + 1) j = N j := fun j j1 j2 j3 j4 => by rw [po_uu, if_neg (by omega), po_uu, if_neg (by omega), po_uu, if_neg (by omega)]; exact h4.row j1
      generalize po_u (po_u (po_u K3 (M + 1) 1 (Int32.ofNat (k + 1))) (M + 1) (32 + 16 * k) (Int32.ofNat z)) (M + 1) (32 + 16 * k + 1) (Int32.ofNat f) = K8 at *
      obtain ⟨J, u1, u2, u3, u4⟩ := q_putArea (K := K8) (M := M) (b := 32 + 16 * k) (a := a) (by rw [e8 M (by omega)]; exact g5) hav1 hav3 (fun j hj => by rw [e8 (M + 6) (by omega)]; exact g6 j hj) (by omega)
      have hs : psame (pLotN N z f a) (J (M + 1)) := pLotN_same (q := 0) hk (by omega) u3 ((u4 1 (by omega)).trans w1) ((u4 _ (by omega)).trans w2) ((u4 _ (by omega)).trans w3) fun j j1 j2 j3 => (u4 j (by omega)).trans (w4 j j1 j2 (by omega) (by omega))
      have hJ : ∀ q, q ≠ M + 1 → J q = K3 q := fun q hq => (u2 q hq).trans (e8 q hq)
      have h9 : mS J M w (q + 1) (pLotN N z f a) := h4.mvr hJ hs
      obtain ⟨g1, g2, g3, g4, gg5⟩ := pLotN_at N z f a
      rw [hk] at g1 g2 g3 g4 gg5
      obtain ⟨v1, v2⟩ := pAt_v u3 hav
      have hVN : pV (pLotN N z f a) := pV_lot hV hk (by omega) g2 gg5 ⟨pvc_of g3 (by omega) (by omega) (by omega), pvc_of g4 (by omega) (by omega) (by omega), (pAt_v g1 hav).1⟩
      have hVJ : pV (J (M + 1)) := hs.V hVN
      have hsh := q_isShared (M := M) (I := J) (k := k) hVJ (by rw [hs.vv (by omega)]; exact pvv_of g2 (by omega))
      have ec : psh (J (M + 1)) k (pa_in (J (M + 1)) (32 + 16 * k)) = B := (psh_congr (fun i hi => pg_ain fun j hj => by rw [hs _ (by omega)]; exact gg5 _ (by omega) (by omega)) v2).trans eB
      rw [ec] at hsh
      rw [u1, Option.bind_some, hsh, Option.bind_some]
      cases B with
      | false =>
        rw [if_pos (show pb false = 0 from rfl)]
        exact ⟨J, rfl, o4.tr (mO_r hJ), h9⟩
      | true =>
        rw [if_neg (show ¬ pb true = 0 by decide), ms_fault h9.2.2.1, Option.bind_some]
        have h60 := h9.p60
        exact ⟨_, rfl, o4.tr ((mO_r hJ).tr (mO_u (by omega))), h9.bad (by omega)⟩
    · rw [sAS_no ha c59] at hA
      obtain ⟨L1, L2, c1, c2, c3, c4⟩ := hA
      rw [c1, Option.bind_some, po_letE, c2, Option.bind_some, if_neg c4.ne]
      dsimp only
      rw [if_neg c59]
      exact ⟨L2, rfl, c3, c4⟩
theorem ms_readLot (h : mS K M w (p + 1) N) (hV : pV N) (hk8 : ¬ pv N 1 = 8) : mC K M w (m_X8_readLot K M) (sLot w N p) := by
  have q1 := hV.2.1
  have q1' := q1.2.2
  unfold m_X8_readLot m_X8_readLot_e sLot
  rw [if_neg hk8]
  cases hz : sD w 48 0 4 (p + 1) with
  | none =>
    obtain ⟨y1, y2⟩ := ms_dn h (lo := 0) (hi := 3) hz (by omega) (by omega)
    rw [show m_X8_digit K M 0 3 = _ from y1, Option.bind_some, po_letE, if_neg y2.ne]
    obtain ⟨K', z1, z2, z3⟩ := mf_lot23 y2 (Int32.ofNat 0) 0
    exact ⟨K', z1, (mO_u (by omega)).tr z2, z3⟩
  | some z =>
    have a1 := sD_some hz
    obtain ⟨y1, h1⟩ := ms_ds h (lo := 0) (hi := 3) hz (by omega) (by omega)
    have o1 : mO K (po_u K M 14 (Int32.ofNat (p + 1 + 1))) M := mO_u (by omega)
    rw [show m_X8_digit K M 0 3 = _ from y1, Option.bind_some, po_letE, if_pos h1.2.2.1]
    dsimp only
    generalize po_u K M 14 (Int32.ofNat (p + 1 + 1)) = K1 at *
    have h1 : mS K1 M w (p + 2) N := h1
    have hf := ms_front h1
    refine mC.of ?_ o1
    cases ef : sF w (p + 2) with
    | none =>
      rw [ef] at hf
      obtain ⟨b1, b2⟩ := hf
      rw [b1, Option.bind_some]
      obtain ⟨K', z1, z2, z3⟩ := mf_lot23 b2 (Int32.ofNat z) (-1)
      exact ⟨K', z1, (mO_u (by omega)).tr z2, z3⟩
    | some f =>
      rw [ef] at hf
      obtain ⟨f4, b1, h2⟩ := hf
      have o2 : mO K1 (po_u K1 M 14 (Int32.ofNat (p + 2 + 1))) M := mO_u (by omega)
      rw [b1, Option.bind_some]
      dsimp only
      generalize po_u K1 M 14 (Int32.ofNat (p + 2 + 1)) = K2 at *
      have h2 : mS K2 M w (p + 3) N := h2
      refine mC.of ?_ o2
      exact ms_lot23 rfl h2 hV hk8 (by omega) f4
theorem q_leastOf {y : Nat} (hy : y < 7) : m_X8_leastOf (Int32.ofNat y) = some (Int32.ofNat (pLe y)) := by
  have key : ∀ y, y < 7 → m_X8_leastOf (Int32.ofNat y) = some (Int32.ofNat (pLe y)) := by decide +kernel
  exact key y hy
theorem q_mostOf {y : Nat} (hy : y < 7) : m_X8_mostOf (Int32.ofNat y) = some (Int32.ofNat (pGr y)) := by
  have key : ∀ y, y < 7 → m_X8_mostOf (Int32.ofNat y) = some (Int32.ofNat (pGr y)) := by decide +kernel
  exact key y hy
theorem mf_rule39 (h : mF K M w e) (l s t : Int32) : m_X8_readRule_39 K M l s t = some K := by
  unfold m_X8_readRule_39 m_X8_readRule_68
  rw [mf_must h, Option.bind_some, if_neg h.ne]
theorem ms_readRule (h : mS K M w (p + 1) N) : mC K M w (m_X8_readRule K M) (sRul w N p) := by
  unfold m_X8_readRule m_X8_readRule_e sRul
  cases hz : sD w 48 0 4 (p + 1) with
  | none =>
    obtain ⟨y1, y2⟩ := ms_dn h (lo := 0) (hi := 3) hz (by omega) (by omega)
    rw [show m_X8_digit K M 0 3 = _ from y1, Option.bind_some, po_letE, mf_digit y2, Option.bind_some, po_letE, if_neg y2.ne, mf_rule39 y2]
    exact ⟨_, rfl, mO_u (by omega), y2⟩
  | some z =>
    have a1 := sD_some hz
    obtain ⟨y1, h1⟩ := ms_ds h (lo := 0) (hi := 3) hz (by omega) (by omega)
    have o1 : mO K (po_u K M 14 (Int32.ofNat (p + 1 + 1))) M := mO_u (by omega)
    rw [show m_X8_digit K M 0 3 = _ from y1, Option.bind_some, po_letE]
    dsimp only
    generalize po_u K M 14 (Int32.ofNat (p + 1 + 1)) = K1 at *
    have h1 : mS K1 M w (p + 2) N := h1
    refine mC.of ?_ o1
    cases hy : sD w 48 0 7 (p + 2) with
    | none =>
      obtain ⟨y1, y2⟩ := ms_dn h1 (lo := 0) (hi := 6) hy (by omega) (by omega)
      rw [show m_X8_digit K1 M 0 6 = _ from y1, Option.bind_some, po_letE, if_neg y2.ne, mf_rule39 y2]
      exact ⟨_, rfl, mO_u (by omega), y2⟩
    | some y =>
      have a2 := sD_some hy
      obtain ⟨y1, h2⟩ := ms_ds h1 (lo := 0) (hi := 6) hy (by omega) (by omega)
      have o2 : mO K1 (po_u K1 M 14 (Int32.ofNat (p + 2 + 1))) M := mO_u (by omega)
      rw [show m_X8_digit K1 M 0 6 = _ from y1, Option.bind_some, po_letE, if_pos h2.2.2.1, q_leastOf (by omega), Option.bind_some, q_mostOf (by omega), Option.bind_some]
      dsimp only
      generalize po_u K1 M 14 (Int32.ofNat (p + 2 + 1)) = K2 at *
      have h2 : mS K2 M w (p + 3) N := h2
      refine mC.of ?_ o2
      have v1 := pLe_le y
      have v2 := pGr_le y
      have hn := ms_number h2 (lo := pLe y) (hi := pGr y) (by omega) (by omega)
      cases hv : sNum w (pLe y) (pGr y) (p + 3) with
      | inl e =>
        rw [hv] at hn
        obtain ⟨v, K3, b1, b2, b3⟩ := hn
        rw [b1, Option.bind_some, mf_rule39 b3]
        exact ⟨K3, rfl, b2, b3⟩
      | inr Q =>
        obtain ⟨v, q⟩ := Q
        rw [hv] at hn
        obtain ⟨b1, h3⟩ := hn
        have a3 := sNum_ok hv
        have o3 : mO K2 (po_u K2 M 14 (Int32.ofNat q)) M := mO_u (by omega)
        rw [b1, Option.bind_some]
        dsimp only
        generalize po_u K2 M 14 (Int32.ofNat q) = K3 at *
        refine mC.of ?_ o3
        unfold m_X8_readRule_39 m_X8_readRule_68
        by_cases c59 : pch w q = 59
        · obtain ⟨d1, h4⟩ := ms_musts h3 (c := 59) (by omega) (by omega) c59
          have o4 : mO K3 (po_u K3 M 14 (Int32.ofNat (q + 1))) M := mO_u (by omega)
          rw [if_pos c59, show m_X8_must K3 M 59 = _ from d1, Option.bind_some, if_pos h4.2.2.1, show (7 : Int32) * Int32.ofNat z = Int32.ofNat (7 * z) from pl_mul 7 z, show (4 : Int32) + Int32.ofNat (7 * z) = Int32.ofNat (4 + 7 * z) from pl_add 4 _, pl_add, if_pos (pl_inl (by omega) (by omega)), pl_clamp (by omega), po_hletE]
          generalize po_u K3 M 14 (Int32.ofNat (q + 1)) = K4 at *
          refine mC.of ?_ o4
          refine ⟨_, rfl, mO_b (by omega), h4.mvr (fun q hq => po_u_ne hq) fun j hj => ?_⟩
          rw [po_urow]
          unfold pup1
          by_cases c : j = 4 + 7 * z + y
          · rw [if_pos c, if_pos c]
          · rw [if_neg c, if_neg c]; exact h4.row hj
        · obtain ⟨d1, hF⟩ := ms_mustn h3 (c := 59) (by omega) (by omega) c59
          rw [if_neg c59, show m_X8_must K3 M 59 = _ from d1, Option.bind_some, if_neg hF.ne]
          exact ⟨_, rfl, mO_u (by omega), hF⟩
end QE5
