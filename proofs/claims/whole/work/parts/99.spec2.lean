/-! THE READER: conditions, rules, and what the class's readers share -/
section QD5
variable {I J K : po_I} {r p p' t k b n C j : Nat} {w : pW} {N N' : po_N} {st : Nat → Nat}
theorem pConN_at (N : po_N) (k ph l : Nat) (hc : pv N (160 + 46 * k + 45) < 6) : pConN N k ph l (160 + 46 * k + 29 + pv N (160 + 46 * k + 45)) = Int32.ofNat (1000 * ph + 2 * l + 1) ∧ pConN N k ph l (160 + 46 * k + 45) = Int32.ofNat (pv N (160 + 46 * k + 45) + 1) ∧ ∀ j, j ≠ 160 + 46 * k + 29 + pv N (160 + 46 * k + 45) → j ≠ 160 + 46 * k + 45 → pConN N k ph l j = N j := by
  unfold pConN
  refine ⟨if_pos rfl, ?_, fun j h1 h2 => ?_⟩
  · rw [if_neg (by omega), if_pos rfl]
  · rw [if_neg h1, if_neg h2]
theorem pCon_ok {ph l : Nat} (hV : pV N) (hB : pB N n) (hk : k < pv N 2) (hc : pv N (160 + 46 * k + 45) < 6) (hph : ph < 4) (hl : l < 123) : pV (pConN N k ph l) ∧ pB (pConN N k ph l) n := by
  obtain ⟨c1, c2, c3⟩ := pConN_at N k ph l hc
  have h3' := hV.2.2.1.2.2
  have h4' := hV.2.2.2.1.2.2
  have hcd := (hV.per hk).cds
  obtain ⟨q1, q2, q3, q4, q5, q6, q7, q8, q9, q10, q11, q12, q13, q14, _⟩ := hV.per hk
  generalize pConN N k ph l = N' at *
  have hp : pP N' (160 + 46 * k) := by
    refine ⟨pg_cc (c3 _ (by omega) (by omega)) q1, by rw [pg_vv (c3 _ (by omega) (by omega)), pg_vv (c3 1 (by omega) (by omega))]; exact q2, pg_cc (c3 _ (by omega) (by omega)) q3, pg_av (fun i hi => c3 _ (by omega) (by omega)) q4, pg_cc (c3 _ (by omega) (by omega)) q5, pg_cc (c3 _ (by omega) (by omega)) q6, pg_cc (c3 _ (by omega) (by omega)) q7, pg_cc (c3 _ (by omega) (by omega)) q8, pg_cc (c3 _ (by omega) (by omega)) q9, pg_cc (c3 _ (by omega) (by omega)) q10, pg_cc (c3 _ (by omega) (by omega)) q11, pvc_of c2 (by omega) (by omega) (by omega), ?_, ?_, ?_⟩
    · rw [pg_vv (c3 (160 + 46 * k + 19) (by omega) (by omega)), pg_vv (c3 (160 + 46 * k + 20) (by omega) (by omega)), pg_vv (c3 (160 + 46 * k + 21) (by omega) (by omega))]
      exact fun e => ⟨pg_cc (c3 _ (by omega) (by omega)) (q13 e).1, (q13 e).2⟩
    · rw [pg_vv (c3 (160 + 46 * k + 19) (by omega) (by omega)), pg_vv (c3 (160 + 46 * k + 20) (by omega) (by omega))]
      exact q14
    · rw [pvv_of c2 (by omega)]
      intro i hi
      by_cases e : i = pv N (160 + 46 * k + 45)
      · rw [e]; exact pvc_of c1 (by omega) (by omega) (by omega)
      · exact pg_cc (c3 _ (by omega) (by omega)) (hcd i (by omega))
  refine ⟨pV_per hV hk (fun j hj => c3 j (by omega) (by omega)) hp, ?_⟩
  unfold pB at *
  rw [pg_vv (c3 0 (by omega) (by omega)), pg_vv (c3 2 (by omega) (by omega)), pg_vv (c3 3 (by omega) (by omega))]
  refine ⟨hB.1, fun i hi => ?_, fun i hi => ?_, fun i hi => ?_⟩
  · rw [pg_vv (c3 (160 + 46 * i + 19) (by omega) (by omega)), pg_vv (c3 (160 + 46 * i + 22) (by omega) (by omega))]; exact hB.2.1 i hi
  · rw [pg_vv (c3 _ (by omega) (by omega))]; exact hB.2.2.1 i hi
  · rw [pg_vv (c3 (160 + 46 * i + 19) (by omega) (by omega)), pg_vv (c3 (160 + 46 * i + 20) (by omega) (by omega)), pg_vv (c3 (160 + 46 * i + 21) (by omega) (by omega))]; exact hB.2.2.2 i hi
theorem sCon_ok (h : sCon w N p = .inr (p', N')) (hV : pV N) (hB : pB N n) : pV N' ∧ pB N' n ∧ p + 1 ≤ p' ∧ p' ≤ w.1 := by
  have h2' := hV.2.2.1.2.2
  unfold sCon at h
  split at h
  · cases h
  · rename_i k hk
    split at h
    · cases h
    · rename_i ph hph
      split at h
      · cases h
      · rename_i h6
        split at h
        · cases h
        · rename_i l hl
          split at h
          · rename_i h59
            simp only [Sum.inr.injEq, Prod.mk.injEq] at h
            obtain ⟨rfl, rfl⟩ := h
            have a1 := sD_some hk
            have a2 := sD_some hph
            have a3 := sD_some hl
            have hq := pch_in (w := w) (p := p + 4) (by omega)
            have h45 := (hV.per (k := k) (by omega)).2.2.2.2.2.2.2.2.2.2.2.1.2.2
            obtain ⟨d1, d2⟩ := pCon_ok (k := k) (ph := ph) (l := 97 + l) hV hB (by omega) (by omega) (by omega) (by omega)
            exact ⟨d1, d2, by omega, by omega⟩
          · cases h
theorem pRul_ok {z v : Nat} (hV : pV N) (hB : pB N n) (hz : z < 4) (hr : r < 7) (h1 : pLe r ≤ v) (h2 : v ≤ pGr r) : pV (pup1 N (4 + 7 * z + r) (Int32.ofNat v)) ∧ pB (pup1 N (4 + 7 * z + r) (Int32.ofNat v)) n := by
  have nn : ∀ j, j ≠ 4 + 7 * z + r → pup1 N (4 + 7 * z + r) (Int32.ofNat v) j = N j := fun j hj => pup1_ne hj
  have n0 : pup1 N (4 + 7 * z + r) (Int32.ofNat v) (4 + 7 * z + r) = Int32.ofNat v := pup1_eq
  have hg : pGr r ≤ 99 := by unfold pGr; split; omega; split <;> omega
  have h3' := hV.2.2.1.2.2
  have h4' := hV.2.2.2.1.2.2
  have h2'' := hV.2.1.2.2
  generalize pup1 N (4 + 7 * z + r) (Int32.ofNat v) = N' at *
  obtain ⟨q1, q2, q3, q4, q5, q6, q7, q8⟩ := hV
  have rc : ∀ y i, y < 4 → i < 7 → pv_c N (4 + 7 * y + i) (pLe i) (pGr i) → pv_c N' (4 + 7 * y + i) (pLe i) (pGr i) := by
    intro y i hy hi hc
    by_cases e : 4 + 7 * y + i = 4 + 7 * z + r
    · have ei : i = r := by omega
      rw [e, ei]
      exact pvc_of n0 (by omega) h1 h2
    · exact pg_cc (nn _ e) hc
  refine ⟨⟨pg_cc (nn _ (by omega)) q1, pg_cc (nn _ (by omega)) q2, pg_cc (nn _ (by omega)) q3, pg_cc (nn _ (by omega)) q4, fun y hy => ?_, ?_, ?_, ?_⟩, ?_⟩
  · obtain ⟨g1, g2, g3, g4, g5, g6, g7⟩ := q5 y hy
    exact ⟨rc y 0 hy (by omega) g1, rc y 1 hy (by omega) g2, rc y 2 hy (by omega) g3, rc y 3 hy (by omega) g4, rc y 4 hy (by omega) g5, rc y 5 hy (by omega) g6, rc y 6 hy (by omega) g7⟩
  · rw [pg_vv (nn 1 (by omega))]
    intro i hi
    obtain ⟨g1, g2, g3⟩ := q6 i hi
    exact ⟨pg_cc (nn _ (by omega)) g1, pg_cc (nn _ (by omega)) g2, pg_av (fun j hj => nn _ (by omega)) g3⟩
  · rw [pg_vv (nn 2 (by omega))]
    exact fun i hi => pg_pP (fun j hj => nn _ (by omega)) (by rw [pg_vv (nn 1 (by omega))]; exact Nat.le_refl _) (q7 i hi)
  · rw [pg_vv (nn 3 (by omega))]
    intro i hi
    obtain ⟨g1, g2, g3, g4⟩ := q8 i hi
    exact ⟨pg_cc (nn _ (by omega)) g1, pg_cc (nn _ (by omega)) g2, pg_cc (nn _ (by omega)) g3, pg_cc (nn _ (by omega)) g4⟩
  · unfold pB at *
    rw [pg_vv (nn 0 (by omega)), pg_vv (nn 2 (by omega)), pg_vv (nn 3 (by omega))]
    refine ⟨hB.1, fun i hi => ?_, fun i hi => ?_, fun i hi => ?_⟩
    · rw [pg_vv (nn _ (by omega)), pg_vv (nn _ (by omega))]; exact hB.2.1 i hi
    · rw [pg_vv (nn _ (by omega))]; exact hB.2.2.1 i hi
    · rw [pg_vv (nn _ (by omega)), pg_vv (nn _ (by omega)), pg_vv (nn _ (by omega))]; exact hB.2.2.2 i hi
theorem sRul_ok (h : sRul w N p = .inr (p', N')) (hV : pV N) (hB : pB N n) : pV N' ∧ pB N' n ∧ p + 1 ≤ p' ∧ p' ≤ w.1 := by
  unfold sRul at h
  split at h
  · cases h
  · rename_i z hz
    split at h
    · cases h
    · rename_i r hr
      split at h
      · cases h
      · rename_i v q hv
        split at h
        · rename_i h59
          simp only [Sum.inr.injEq, Prod.mk.injEq] at h
          obtain ⟨rfl, rfl⟩ := h
          have a1 := sD_some hz
          have a2 := sD_some hr
          have a3 := sNum_ok hv
          have hq := pch_in (w := w) (p := q) (by omega)
          obtain ⟨d1, d2⟩ := pRul_ok (r := r) (z := z) (v := v) hV hB (by omega) (by omega) (by omega) (by omega)
          exact ⟨d1, d2, by omega, by omega⟩
        · cases h
theorem sC_ok (h : sC w N p = .inr (p', N')) (hV : pV N) (hB : pB N n) : pV N' ∧ pB N' n ∧ p + 1 ≤ p' ∧ p' ≤ w.1 := by
  unfold sC at h
  split at h
  · exact sCon_ok h hV hB
  split at h
  · exact sLot_ok h hV hB
  split at h
  · exact sPrm_ok h hV hB
  split at h
  · exact sVar_ok h hV hB
  split at h
  · exact sRul_ok h hV hB
  cases h
/-! what the class's readers leave -/
def xC (I : po_I) (r t : Nat) (w : pW) (res : Option (Int32 × po_I)) (s : Nat ⊕ (Nat × po_N)) : Prop := match s with
  | .inl e => ∃ I', res = some (0, I') ∧ (∀ q, q ≠ r → (q < t ∨ t + 91 ≤ q) → I' q = I q) ∧ I' r 3 = Int32.ofNat e
  | .inr (q, N') => ∃ I', res = some (1, I') ∧ (∀ d, d ≠ r → (d < t ∨ t + 91 ≤ d) → I' d = I d) ∧ rS I' r w q ∧ pTR I' t N'
theorem hmc {hi : Nat} (hhi : hi < 1000) : ∀ k, k < 1000 → (Int32.ofNat k ≤ Int32.ofNat hi ↔ k < hi + 1) := fun k hk => (pl_le (by omega) (by omega)).trans (by omega)
theorem hm1 {m : Nat} (hm : m < 1000) : ∀ k, k < 1000 → (Int32.ofNat k ≤ Int32.ofNat m - 1 ↔ k < m) := fun k hk => pl_m1 (by omega) (by omega)
variable {s : Nat ⊕ (Nat × po_N)} {A B : po_I → Option (Int32 × po_I)} {D E : Int32 → Int32 × po_I → Option (Int32 × po_I)} {z lo m v e : Nat} {most : Int32}
/-- a value is kept in a field -/
theorem xC_some (h : rS K r w p) (hd : sD w z lo m p = some v) (hz0 : 0 < z) (hz : z < 1000) (hlo : lo < 1000) (hm : ∀ k, k < 1000 → (Int32.ofNat k ≤ most ↔ k < m)) (hC : C ≠ r) (hC1 : C ≠ r + 1) (go : ∀ K', rS K' r w (p + 1) → (∀ q, q ≠ r → q ≠ C → K' q = K q) → K' C j = Int32.ofNat v → (∀ i, i ≠ j → K' C i = K C i) → xC I r t w (B K') s) : xC I r t w (Option.bind (m_X3_readValue K r (Int32.ofNat z) (Int32.ofNat lo) most) fun x => po_hlet (po_u x.2 C j x.1) fun L => if (L C j : Int32) = -1 then A L else B L) s := by
  have a1 := sD_some hd
  have hc := pch_le h.2.2.2.2.1 p
  have b1 := pch_in (w := w) (p := p) (by omega)
  have y := x_readVal h (z := z) (lo := lo) hz hlo hm
  rw [hd] at y
  rw [y, Option.bind_some, po_hletE, po_uaa, if_neg (show ¬ Int32.ofNat v = -1 from (pl_neg1 (by omega)).mp)]
  exact go _ ((h.to (q := p + 1) (by omega)).mv (po_u_ne (by omega)) (po_u_ne (by omega))) (fun q q1 q2 => (po_u_ne q2).trans (po_u_ne q1)) (po_uaa _ _ _ _) (fun i hi => by dsimp only; rw [po_uu, if_neg (by omega), po_u_ne hC])
theorem xC_none (h : rS K r w p) (hd : sD w z lo m p = none) (hz : z < 1000) (hlo : lo < 1000) (hm : ∀ k, k < 1000 → (Int32.ofNat k ≤ most ↔ k < m)) (hC : C ≠ r) (go : ∀ K', (∀ q, q ≠ r → q ≠ C → K' q = K q) → K' r 3 = Int32.ofNat p → xC I r t w (A K') s) : xC I r t w (Option.bind (m_X3_readValue K r (Int32.ofNat z) (Int32.ofNat lo) most) fun x => po_hlet (po_u x.2 C j x.1) fun L => if (L C j : Int32) = -1 then A L else B L) s := by
  have y := x_readVal h (z := z) (lo := lo) hz hlo hm
  rw [hd] at y
  rw [y, Option.bind_some, po_hletE, po_uaa, if_pos rfl]
  exact go _ (fun q q1 q2 => (po_u_ne q2).trans (po_u_ne q1)) (by dsimp only; rw [po_u_ne (by omega), po_uaa])
/-- a value is kept in a local -/
theorem xV_some (h : rS K r w p) (hd : sD w z lo m p = some v) (hz0 : 0 < z) (hz : z < 1000) (hlo : lo < 1000) (hm : ∀ k, k < 1000 → (Int32.ofNat k ≤ most ↔ k < m)) (go : ∀ K', rS K' r w (p + 1) → (∀ q, q ≠ r → K' q = K q) → xC I r t w (E (Int32.ofNat v) (Int32.ofNat v, K')) s) : xC I r t w (Option.bind (m_X3_readValue K r (Int32.ofNat z) (Int32.ofNat lo) most) fun x => po_let x.1 fun v => if (v : Int32) = -1 then D v x else E v x) s := by
  have a1 := sD_some hd
  have hc := pch_le h.2.2.2.2.1 p
  have b1 := pch_in (w := w) (p := p) (by omega)
  have y := x_readVal h (z := z) (lo := lo) hz hlo hm
  rw [hd] at y
  rw [y, Option.bind_some, po_letE, if_neg (show ¬ Int32.ofNat v = -1 from (pl_neg1 (by omega)).mp)]
  exact go _ (h.to (q := p + 1) (by omega)) (fun q q1 => po_u_ne q1)
theorem xV_none (h : rS K r w p) (hd : sD w z lo m p = none) (hz : z < 1000) (hlo : lo < 1000) (hm : ∀ k, k < 1000 → (Int32.ofNat k ≤ most ↔ k < m)) (go : ∀ K', (∀ q, q ≠ r → K' q = K q) → K' r 3 = Int32.ofNat p → xC I r t w (D (-1) (-1, K')) s) : xC I r t w (Option.bind (m_X3_readValue K r (Int32.ofNat z) (Int32.ofNat lo) most) fun x => po_let x.1 fun v => if (v : Int32) = -1 then D v x else E v x) s := by
  have y := x_readVal h (z := z) (lo := lo) hz hlo hm
  rw [hd] at y
  rw [y, Option.bind_some, po_letE, if_pos rfl]
  exact go _ (fun q q1 => po_u_ne q1) (po_uaa _ _ _ _)
/-- a number -/
theorem x_rns {hi q : Nat} (h : rS K r w p) (hd : sNum w lo hi p = .inr (v, q)) (hlo : lo < 1000) (hhi : hi < 1000) : m_X3_readNumber K r (Int32.ofNat lo) (Int32.ofNat hi) = some (Int32.ofNat v, po_u K r 2 (Int32.ofNat q)) ∧ rS (po_u K r 2 (Int32.ofNat q)) r w q := by
  have y := x_readNumber h (lo := lo) (hi := hi) hlo hhi
  rw [hd] at y
  exact ⟨y, h.to (sNum_ok hd).2.2.2⟩
theorem x_rnn {hi : Nat} (h : rS K r w p) (hd : sNum w lo hi p = .inl e) (hlo : lo < 1000) (hhi : hi < 1000) : ∃ K', m_X3_readNumber K r (Int32.ofNat lo) (Int32.ofNat hi) = some (-1, K') ∧ (∀ q, q ≠ r → K' q = K q) ∧ K' r 3 = Int32.ofNat e := by
  have y := x_readNumber h (lo := lo) (hi := hi) hlo hhi
  rw [hd] at y
  exact y
/-- the last sign -/
theorem xC_end (h : rS K r w p) (hK : ∀ q, q ≠ r → (q < t ∨ t + 91 ≤ q) → K q = I q) (hr : r + 1 < t) (hT : pV N' → pTR K t N') (hV : pV N') : xC I r t w (Option.bind (m_X3_readSign K r 59) fun x => if vp_nar .boolean x.1 = x.1 then some (x.1, x.2) else none) (if pch w p = 59 then .inr (p + 1, N') else .inl p) := by
  rw [show m_X3_readSign K r 59 = _ from x_readSign h (c := 59) (by omega) (by omega)]
  by_cases e : pch w p = 59
  · have b1 := pch_in (w := w) (p := p) (by omega)
    rw [if_pos e, if_pos e, Option.bind_some, if_pos (show vp_nar .boolean 1 = 1 from rfl)]
    exact ⟨_, rfl, fun q q1 q2 => (po_u_ne q1).trans (hK q q1 q2), h.to (by omega), (hT hV).mv hV fun q q1 q2 => po_u_ne (by omega)⟩
  · rw [if_neg e, if_neg e, Option.bind_some, if_pos (show vp_nar .boolean 0 = 0 from rfl)]
    exact ⟨_, rfl, fun q q1 q2 => (po_u_ne q1).trans (hK q q1 q2), po_uaa _ _ _ _⟩
/-- full -/
theorem xC_full (h : rS K r w p) (hK : ∀ q, q ≠ r → (q < t ∨ t + 91 ≤ q) → K q = I q) : xC I r t w (Option.bind (m_X3_failAt K r (K r 2)) fun x => if vp_nar .boolean x.1 = x.1 then some (x.1, x.2) else none) (.inl p) := by
  unfold m_X3_failAt m_X3_failAt_e
  rw [po_hletE, Option.bind_some, h.2.1, if_pos (show vp_nar .boolean 0 = 0 from rfl)]
  exact ⟨_, rfl, fun q q1 q2 => (po_u_ne q1).trans (hK q q1 q2), po_uaa _ _ _ _⟩
end QD5
