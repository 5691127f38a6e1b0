/-! THE MODEL READS: a whole text -/
section QE9
variable {I J K : po_I} {M p p' k n e i b : Nat} {w : pW} {N N' : po_N} {a : pA}
def mE (K : po_I) (M : Nat) (w : pW) (n : Nat) (res : Option (Int32 × po_I)) (s : Nat ⊕ (Nat × po_N)) : Prop := match s with
  | .inl e => ∃ K' c, res = m_X8_execute_74 K' M (Int32.ofNat c) ∧ mO K K' M ∧ mF K' M w e
  | .inr (c, N') => ∃ K' p', res = m_X8_execute_74 K' M (Int32.ofNat c) ∧ mO K K' M ∧ mS K' M w p' N' ∧ pV N' ∧ pB N' n ∧ c ≤ 60
theorem mE.of {res : Option (Int32 × po_I)} {s : Nat ⊕ (Nat × po_N)} (h : mE J M w n res s) (ho : mO K J M) : mE K M w n res s := by
  unfold mE at h ⊢
  match s with
  | .inl _ =>
    obtain ⟨K1, c, h1, h2, h3⟩ := h
    exact ⟨K1, c, h1, ho.tr h2, h3⟩
  | .inr (_, _) =>
    obtain ⟨K1, p', h1, h2, h3⟩ := h
    exact ⟨K1, p', h1, ho.tr h2, h3⟩
theorem mf_41 (h : mF K M w e) (g : Nat) (c : Int32) : m_X8_execute_41L (g + 1) K M c = m_X8_execute_74 K M c := by
  show m_X8_execute_41 (m_X8_execute_41L g) K M c = _
  unfold m_X8_execute_41
  rw [if_neg h.ne]
theorem ms_run (f : Nat) : ∀ {K : po_I} {p N c g}, mS K M w p N → pV N → pB N n → c ≤ p → (c = 0 ∨ p < w.1) → w.1 + 1 ≤ p + f → f + 1 ≤ g → mE K M w n (m_X8_execute_41L g K M (Int32.ofNat c)) (sRun w f N p c) := by
  induction f with
  | zero =>
    intro K p N c g h _ _ _ _ hf _
    have := h.2.2.2.2.2.1
    omega
  | succ f ih =>
    intro K p N c g h hV hB hc h0 hf hg
    obtain ⟨g, rfl⟩ : ∃ g', g = g' + 2 := ⟨g - 2, by omega⟩
    have hp := h.2.2.2.2.2.1
    have hw := h.2.2.2.2.1.1
    show mE K M w n (m_X8_execute_41 (m_X8_execute_41L (g + 1)) K M (Int32.ofNat c)) _
    have hR := ms_readCommand h hV
    have e64 : m_X8_execute_41 (m_X8_execute_41L (g + 1)) K M (Int32.ofNat c) = Option.bind (m_X8_readCommand K M) fun x4 => m_X8_execute_41L (g + 1) x4 M (Int32.ofNat (c + 1)) := by
      unfold m_X8_execute_41 m_X8_execute_64
      rw [if_pos h.2.2.1, show Int32.ofNat c + 1 = Int32.ofNat (c + 1) from pl_add c 1]
      by_cases c0 : c = 0
      · rw [if_pos (show Int32.ofNat c = 0 from congrArg Int32.ofNat c0)]
      · rw [if_neg (show ¬ Int32.ofNat c = 0 from pk_ne (b := 0) (by omega) (by omega) c0), if_neg (show ¬ K M 13 ≤ K M 14 by rw [h.1, h.2.1]; exact mt (pl_le (by omega) (by omega)).mp (by omega))]
    rw [e64]
    unfold mC at hR
    unfold sRun
    cases e : sC w N p with
    | inl e1 =>
      rw [e] at hR
      obtain ⟨K', y1, y2, y3⟩ := hR
      rw [y1, Option.bind_some, mf_41 y3]
      exact ⟨K', c + 1, rfl, y2, y3⟩
    | inr Q =>
      obtain ⟨p', N'⟩ := Q
      rw [e] at hR
      obtain ⟨K', y1, y2, y3⟩ := hR
      obtain ⟨z1, z2, z3, z4⟩ := sC_ok e hV hB
      rw [y1, Option.bind_some]
      refine mE.of ?_ y2
      dsimp only
      by_cases hw' : w.1 ≤ p'
      · rw [if_pos hw']
        have e41 : m_X8_execute_41L (g + 1) K' M (Int32.ofNat (c + 1)) = m_X8_execute_74 K' M (Int32.ofNat (c + 1)) := by
          show m_X8_execute_41 (m_X8_execute_41L g) K' M _ = _
          unfold m_X8_execute_41
          rw [if_pos y3.2.2.1, if_neg (show ¬ Int32.ofNat (c + 1) = 0 from pk_ne (b := 0) (by omega) (by omega) (by omega)), if_pos (show K' M 13 ≤ K' M 14 by rw [y3.1, y3.2.1]; exact (pl_le (by omega) (by omega)).mpr hw')]
        rw [e41]
        exact ⟨K', p', rfl, mO.rf, y3, z1, z2, by omega⟩
      · rw [if_neg hw']
        exact ih y3 z1 z2 (by omega) (Or.inr (by omega)) (by omega) (by omega)
theorem q_exec (hN : J (M + 1) = N) (h12 : J M 12 = Int32.ofNat w.1) (ht : ∀ j, j < w.1 → J (M + 5) j = Int32.ofNat (w.2 j)) (hw : pwo w) (hV : pV N) (hB : pB N n) : match sRun w 61 N 0 0 with
    | .inl e => ∃ K, m_X8_execute J M = some (0, K) ∧ K M 0 = 1 ∧ K M 15 = Int32.ofNat e ∧ K M 12 = 0 ∧ K M 3 = J M 3 ∧ K M 6 = J M 6 ∧ (∀ q, q ≠ M → q ≠ M + 1 → q ≠ M + 3 → q ≠ M + 6 → K q = J q) ∧ psame N (K (M + 1))
    | .inr (c, N') => c ≤ 60 ∧ pV N' ∧ pB N' n ∧ ∀ u, u ≤ 6 → J M 3 = Int32.ofNat u → ∃ K, m_X8_execute J M = some (Int32.ofNat c, K) ∧ K M 0 = 0 ∧ K M 15 = -1 ∧ K M 12 = 0 ∧ K M 6 = J M 6 ∧ (∀ q, q ≠ M → q ≠ M + 1 → q ≠ M + 2 → q ≠ M + 3 → q ≠ M + 6 → K q = J q) ∧ psame N' (K (M + 1)) ∧ K M 3 = Int32.ofNat ((if u = 6 then 5 else u) + 1) ∧ (∀ j, j < 668 → K (M + 2) (668 * (if u = 6 then 5 else u) + j) = N j) ∧ ∀ j, j < 668 * (if u = 6 then 5 else u) → K (M + 2) j = J (M + 2) (j + 668 * (if u = 6 then 1 else 0)) := by
  obtain ⟨K5, e5⟩ : ∃ K5, K5 = po_u (po_u (po_u (po_u (po_u J M 0 0) M 13 (Int32.ofNat w.1)) M 12 0) M 14 0) M 15 (-1) := ⟨_, rfl⟩
  have f5 : ∀ q, q ≠ M → K5 q = J q := fun q hq => by rw [e5, po_u_ne hq, po_u_ne hq, po_u_ne hq, po_u_ne hq, po_u_ne hq]
  obtain ⟨Kc, c1, c2, c3⟩ := q_copy (I := K5) (a := M + 1) (b := M + 3) (by omega)
  have cM : Kc M = K5 M := c2 M (by omega)
  have hx : m_X8_execute J M = m_X8_execute_41L 5000 Kc M (Int32.ofNat 0) := by
    unfold m_X8_execute m_X8_execute_e
    rw [po_hletE, show (po_u J M 0 0) M 12 = Int32.ofNat w.1 by rw [po_uu, if_neg (by omega)]; exact h12, po_hletE, po_hletE, po_hletE, po_hletE, ← e5, c1, Option.bind_some]
    rfl
  have g0 : Kc M 0 = 0 := by rw [cM, e5, po_uu, if_neg (by omega), po_uu, if_neg (by omega), po_uu, if_neg (by omega), po_uu, if_neg (by omega), po_uaa]
  have g12 : Kc M 12 = 0 := by rw [cM, e5, po_uu, if_neg (by omega), po_uu, if_neg (by omega), po_uaa]
  have gj : ∀ j, j ≠ 0 → j ≠ 12 → j ≠ 13 → j ≠ 14 → j ≠ 15 → Kc M j = J M j := fun j d1 d2 d3 d4 d5 => by rw [cM, e5, po_uu, if_neg (by omega), po_uu, if_neg (by omega), po_uu, if_neg (by omega), po_uu, if_neg (by omega), po_uu, if_neg (by omega)]
  have h1 : mS Kc M w 0 N := by
    refine ⟨?_, ?_, ?_, fun j hj => ?_, hw, Nat.zero_le _, fun j hj => ?_⟩
    · rw [cM, e5, po_uu, if_neg (by omega), po_uu, if_neg (by omega), po_uu, if_neg (by omega), po_uaa]
    · rw [cM, e5, po_uu, if_neg (by omega), po_uaa]; rfl
    · rw [cM, e5, po_uaa]
    · rw [c2 _ (by omega), f5 _ (by omega)]; exact ht j hj
    · rw [c2 _ (by omega), f5 _ (by omega), hN]
  have b3 : ∀ j, j < 668 → Kc (M + 3) j = N j := fun j hj => by rw [c3 j hj, f5 _ (by omega), hN]
  have off : ∀ q, q ≠ M → q ≠ M + 3 → Kc q = J q := fun q d1 d2 => (c2 q d2).trans (f5 q d1)
  have hw60 := hw.1
  have hr := ms_run (n := n) 61 (g := 5000) h1 hV hB (Nat.le_refl 0) (Or.inl rfl) (by omega) (by omega)
  rw [← hx] at hr
  unfold mE at hr
  cases e : sRun w 61 N 0 0 with
  | inl e1 =>
    rw [e] at hr
    obtain ⟨K', c, y1, y2, y3⟩ := hr
    obtain ⟨X, x1, x2, x3⟩ := q_copy (I := K') (a := M + 3) (b := M + 1) (by omega)
    have xM : X M = K' M := x2 M (by omega)
    refine ⟨po_u X M 0 1, ?_, po_uaa _ _ _ _, ?_, ?_, ?_, ?_, fun q d1 d2 d3 d4 => ?_, fun j hj => ?_⟩
    · rw [y1]
      unfold m_X8_execute_74 m_X8_fail m_X8_fail_e
      rw [if_neg y3.ne, x1, Option.bind_some, po_hletE, Option.bind_some]
    · rw [po_uu, if_neg (by omega), xM]; exact y3.2.2.2.1
    · rw [po_uu, if_neg (by omega), xM, y2.2 12 (by omega) (by omega) (by omega)]; exact g12
    · rw [po_uu, if_neg (by omega), xM, y2.2 3 (by omega) (by omega) (by omega)]; exact gj 3 (by omega) (by omega) (by omega) (by omega) (by omega)
    · rw [po_uu, if_neg (by omega), xM, y2.2 6 (by omega) (by omega) (by omega)]; exact gj 6 (by omega) (by omega) (by omega) (by omega) (by omega)
    · rw [po_u_ne d1, x2 q d2, y2.1 q d1 d2 d4, off q d1 d3]
    · rw [po_u_ne (by omega), x3 j hj, y2.1 (M + 3) (by omega) (by omega) (by omega)]; exact b3 j hj
  | inr Q =>
    obtain ⟨c, N'⟩ := Q
    rw [e] at hr
    obtain ⟨K', p', y1, y2, y3, y4, y5, y6⟩ := hr
    refine ⟨y6, y4, y5, fun u hu h3 => ?_⟩
    obtain ⟨X, x1, x2, x3, x4, x5, x6⟩ := q_remember (I := K') (M := M) hu (by rw [y2.2 3 (by omega) (by omega) (by omega), gj 3 (by omega) (by omega) (by omega) (by omega) (by omega)]; exact h3)
    refine ⟨X, ?_, ?_, ?_, ?_, ?_, fun q d1 d2 d3 d4 d5 => ?_, fun j hj => ?_, x4, fun j hj => ?_, fun j hj => ?_⟩
    · rw [y1]
      unfold m_X8_execute_74
      rw [if_pos y3.2.2.1, x1, Option.bind_some]
    · rw [x3 0 (by omega), y2.2 0 (by omega) (by omega) (by omega)]; exact g0
    · rw [x3 15 (by omega)]; exact y3.2.2.1
    · rw [x3 12 (by omega), y2.2 12 (by omega) (by omega) (by omega)]; exact g12
    · rw [x3 6 (by omega), y2.2 6 (by omega) (by omega) (by omega)]; exact gj 6 (by omega) (by omega) (by omega) (by omega) (by omega)
    · rw [x2 q d1 d3, y2.1 q d1 d2 d5, off q d1 d4]
    · rw [x2 _ (by omega) (by omega)]; exact y3.row hj
    · rw [x5 j hj, y2.1 (M + 3) (by omega) (by omega) (by omega)]; exact b3 j hj
    · rw [x6 j hj, y2.1 (M + 2) (by omega) (by omega) (by omega), off (M + 2) (by omega) (by omega)]
end QE9
