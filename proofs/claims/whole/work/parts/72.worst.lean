section QA3
theorem un_small {x : Int32} {m : Nat} (h : ∀ c, c < 32 → bt x c = true → c < m) (hm : m ≤ 31) : un x < 2 ^ m ∧ x = Int32.ofNat (un x) := by
  refine ⟨Nat.lt_pow_two_of_testBit _ fun i hi => ?_, ?_⟩
  · by_cases h2 : i < 32
    · cases e : (un x).testBit i with
      | false => rfl
      | true => have := h i h2 (by rw [bt_un]; exact e); omega
    · exact Nat.testBit_lt_two_pow (Nat.lt_of_lt_of_le (un_lt x) (Nat.pow_le_pow_right (n := 2) (by omega) (show 32 ≤ i by omega)))
  · apply un_inj
    rw [un_ofNat (un_lt x)]
theorem pc_or1 {p : Nat → Bool} {v : Nat} (hp : p v = false) : ∀ m, pc (fun c => p c || decide (c = v)) m = pc p m + (if v < m then 1 else 0)
  | 0 => rfl
  | m + 1 => by
    rw [pc, pc, pc_or1 hp m]
    by_cases e : m = v
    · subst e
      rw [hp, if_neg (show ¬ m < m by omega), if_pos (show m < m + 1 by omega)]
      simp
    · rw [decide_eq_false e, Bool.or_false]
      by_cases h : v < m
      · rw [if_pos h, if_pos (show v < m + 1 by omega)]; omega
      · rw [if_neg h, if_neg (show ¬ v < m + 1 by omega)]; omega
variable {I I' I'' : po_I} {M s t p : Nat} {N : po_N}
theorem pm_o.tr {js : List Nat} (h : pm_o I I' M js) (g : pm_o I' I'' M js) : pm_o I I'' M js := ⟨fun b hb => by rw [g.1 b hb, h.1 b hb], fun j hj => by rw [g.2 j hj, h.2 j hj]⟩
/-- the kinds that are not relieved -/
def ps_op (N : po_N) (p : Nat) : Int32 := pfold (cb (ps_is N p)) 9 (pfold (ob (ps_pw N p)) 9 0)
def ps_on (N : po_N) (p : Nat) : Nat := pc (bt (ps_op N p)) 32
theorem ps_op_eq (N : po_N) (p : Nat) : pfold (ob (ps_pw N p)) 9 0 &&& (pfold (ob (ps_is N p)) 9 0 ^^^ (-1)) = ps_op N p := by
  refine bt_ext fun c hc => ?_
  unfold ps_op
  rw [bt_and, bt_not _ hc, bt_ob _ hc 9 (by omega), bt_ob _ hc 9 (by omega), bt_cb _ _ hc 9 (by omega), bt_ob _ hc 9 (by omega)]
theorem ps_op_small (N : po_N) (p : Nat) : un (ps_op N p) < 512 ∧ ps_op N p = Int32.ofNat (un (ps_op N p)) := by
  refine un_small (m := 9) (fun c hc h => ?_) (by omega)
  unfold ps_op at h
  rw [bt_cb _ _ hc 9 (by omega), bt_ob _ hc 9 (by omega), Bool.and_eq_true, Bool.and_eq_true] at h
  exact of_decide_eq_true h.1.1
theorem q_bitsop (N : po_N) (p : Nat) : m_X8_bits (ps_op N p) = some (Int32.ofNat (ps_on N p)) := by
  obtain ⟨h1, h2⟩ := ps_op_small N p
  have h3 := q_bits9 h1
  rw [← h2] at h3
  rw [h3]
  unfold ps_on
  refine congrArg (fun z => some (Int32.ofNat z)) ?_
  show _ = pc (bt (ps_op N p)) (9 + 23)
  rw [pc_add, pc_false (p := fun k => bt (ps_op N p) (9 + k)) (n := 23) (fun k _ => ?_)]
  · rfl
  · show bt (ps_op N p) (9 + k) = false
    rw [bt_un]
    exact Nat.testBit_lt_two_pow (Nat.lt_of_lt_of_le h1 (Nat.pow_le_pow_right (n := 2) (by omega) (show 9 ≤ 9 + k by omega)))
theorem ps_on_le (N : po_N) (p : Nat) : ps_on N p ≤ 32 := pc_le _ _
theorem x_unrel (hV : pV N) (hT : pTR I t N) (hs : s + 4 < t) (hp : p < pv N 2) : ∃ I', m_X4_unrelievedSet I s t (t + (29 + 5 * p)) = some (ps_op N p, I') ∧ psv I I' s := by
  obtain ⟨I1, a1, a2⟩ := x_findingSet hV hT hs hp
  obtain ⟨I2, b1, b2⟩ := x_unrelievedSet hV (a2.town hV hT hs) hs hp (pfold (ob (ps_pw N p)) 9 0)
  refine ⟨I2, ?_, a2.tr b2⟩
  have a1' : m_X4_findingSet_5L 5000 I s t (t + (29 + 5 * p)) 0 0 = some (pfold (ob (ps_pw N p)) 9 0, I1) := a1
  unfold m_X4_unrelievedSet m_X4_unrelievedSet_e m_X4_findingSet m_X4_findingSet_e
  rw [a1', Option.bind_some]
  dsimp only [po_let]
  exact b1
/-- the model's find, as four numbers -/
theorem q_find4 (hV : pV (I (M + 1))) (hp : p < pv (I (M + 1)) 2) : ∃ I', m_X8_find I M (Int32.ofNat p) = some I' ∧ pm_o I I' M [7, 8, 9, 10] ∧ I' M 7 = pfold (ob (ps_pw (I (M + 1)) p)) 9 0 ∧ I' M 8 = pfold (ob (ps_is (I (M + 1)) p)) 9 0 ∧ I' M 9 = pfold (ps_ub (I (M + 1)) p) 9 0 ∧ I' M 10 = pfold (ps_mb (I (M + 1)) p) 9 0 := by
  obtain ⟨I', h1, h2, h3⟩ := q_find hV hp
  unfold ps_fi at h3
  rw [ps_fi_eq] at h3
  simp only [Prod.mk.injEq] at h3
  exact ⟨I', h1, h2, h3.1, h3.2.1, h3.2.2.1, h3.2.2.2⟩
/-- the worst and its count -/
def ps_wo (N : po_N) (k : Nat) (w : Option Nat × Nat) : Option Nat × Nat := if ps_st N k = true then (if w.2 < ps_on N k then (some k, ps_on N k) else w) else w
def ps_wr (N : po_N) : Option Nat × Nat := pfold (ps_wo N) (pv N 2) (none, 0)
theorem ps_wr_le (N : po_N) : ∀ n, (pfold (ps_wo N) n (none, 0)).2 ≤ 32 ∧ (∀ k, (pfold (ps_wo N) n (none, 0)).1 = some k → k < n)
  | 0 => ⟨by simp [pfold], fun k h => by cases h⟩
  | n + 1 => by
    have ih := ps_wr_le N n
    rw [pfold]
    unfold ps_wo at *
    split
    · split
      · exact ⟨ps_on_le N n, fun k h => by obtain rfl := Option.some.inj h; omega⟩
      · exact ⟨ih.1, fun k h => by have := ih.2 k h; omega⟩
    · exact ⟨ih.1, fun k h => by have := ih.2 k h; omega⟩
theorem po_op_m1 {x : Option Nat} (h : ∀ k, x = some k → k < 100) : po_op x = -1 ↔ x = none := by
  cases x with
  | none => exact ⟨fun _ => rfl, fun _ => rfl⟩
  | some k =>
    have := h k rfl
    refine ⟨fun h2 => ((pl_neg1 (a := k) (by omega)).mp h2).elim, fun h2 => by cases h2⟩
theorem x_worst {o : Nat} (hV : pV N) (hT : pTR I (o + 8) N) : ∃ I', m_X7_worst I o = some (match (ps_wr N).1 with
    | some k => .inl (Int32.ofNat k)
    | none => .inr "java/util/NoSuchElementException", I') ∧ psv I I' (o + 3) := by
  have h0 := hV.2.2.1
  have h0' := h0.2.2
  show ∃ I', m_X7_worst_6L 5000 I o (-1) 0 (Int32.ofNat 0) = _ ∧ _
  refine po_inv (L := fun f (q : po_I × (Option Nat × Nat)) k => m_X7_worst_6L f q.1 o (po_op q.2.1) (Int32.ofNat q.2.2) (Int32.ofNat k)) (n := pv N 2) (fun k q => psv I q.1 (o + 3) ∧ q.2 = pfold (ps_wo N) k (none, 0)) (fun x => ∃ I', x = some (match (ps_wr N).1 with
    | some k => .inl (Int32.ofNat k)
    | none => .inr "java/util/NoSuchElementException", I') ∧ psv I I' (o + 3)) ?_ ?_ (pv N 2) 5000 (I, (none, 0)) 0 (Nat.zero_add _) (by omega) ⟨psv.rf, rfl⟩
  · rintro f ⟨J, w⟩ k hk ⟨g1, g2⟩
    left
    have hTJ : pTR J (o + 8) N := psv.town g1 hV hT (by omega)
    have hP := hTJ.per hk
    have hw : w.2 ≤ 32 := by
      have := (ps_wr_le N k).1
      rw [← g2] at this
      exact this
    have hon := ps_on_le N k
    obtain ⟨J2, b1, b2⟩ := x_unrel (s := o + 3) hV hTJ (by omega) hk
    have e : m_X7_worst_6L (f + 1) J o (po_op w.1) (Int32.ofNat w.2) (Int32.ofNat k) = if ps_st N k = true then (if Int32.ofNat (ps_on N k) ≤ Int32.ofNat w.2 then m_X7_worst_6L f J2 o (po_op w.1) (Int32.ofNat w.2) (Int32.ofNat (k + 1)) else m_X7_worst_6L f J2 o (Int32.ofNat k) (Int32.ofNat (ps_on N k)) (Int32.ofNat (k + 1))) else m_X7_worst_6L f J o (po_op w.1) (Int32.ofNat w.2) (Int32.ofNat (k + 1)) := by
      show m_X7_worst_6 _ _ _ _ _ _ = _
      unfold m_X7_worst_6 m_X7_worst_56 m_X7_worst_69
      rw [hTJ.2.2.1, h0.1, if_neg (by first | exact pl_inl (by omega) (by omega) | exact (pl_le (by omega) (by omega)).mpr (by omega) | exact mt (pl_le (by omega) (by omega)).mp (by omega) | exact (pl_lt (by omega) (by omega)).mpr (by omega) | exact mt (pl_lt (by omega) (by omega)).mp (by omega) | exact (pl_eq (by omega) (by omega)).mpr (by omega) | exact mt (pl_eq (by omega) (by omega)).mp (by omega) | exact (pl_neg1 (by omega)).mp | exact (pl_neg1' (by omega)).mp | assumption | omega | rfl | decide), if_pos (show po_in (Int32.ofNat k) 10 = true from pl_inl (by omega) (by omega)), pl_clamp (by omega), x_stands hP, Option.bind_some, b1, Option.bind_some]
      dsimp only
      rw [q_bitCount, Option.bind_some, show Int32.ofNat k + 1 = Int32.ofNat (k + 1) from pl_add k 1]
      cases ps_st N k with
      | false => rw [if_pos pb_f, if_pos (show (0 : Int32) ≤ Int32.ofNat w.2 from pl_nonneg (by omega)), if_neg (show ¬ false = true by decide)]
      | true =>
        rw [if_neg (show ¬ pb true = 0 by decide), if_pos (show true = true from rfl)]
        unfold ps_on
        rfl
    show ∃ s', _ ∧ m_X7_worst_6L (f + 1) J o (po_op w.1) (Int32.ofNat w.2) (Int32.ofNat k) = _
    rw [e]
    by_cases hst : ps_st N k = true
    · rw [if_pos hst]
      by_cases hlt : w.2 < ps_on N k
      · refine ⟨(J2, (some k, ps_on N k)), ⟨g1.tr b2, ?_⟩, if_neg (mt (pl_le (by omega) (by omega)).mp (by omega))⟩
        rw [pfold, ← g2, ps_wo, if_pos hst, if_pos hlt]
      · refine ⟨(J2, w), ⟨g1.tr b2, ?_⟩, if_pos ((pl_le (by omega) (by omega)).mpr (by omega))⟩
        rw [pfold, ← g2, ps_wo, if_pos hst, if_neg hlt]
    · refine ⟨(J, w), ⟨g1, ?_⟩, if_neg hst⟩
      rw [pfold, ← g2, ps_wo, if_neg hst]
  · rintro f ⟨J, w⟩ ⟨g1, g2⟩
    have hTJ : pTR J (o + 8) N := psv.town g1 hV hT (by omega)
    have g3 : w = ps_wr N := g2
    subst g3
    refine ⟨J, ?_, g1⟩
    show m_X7_worst_6 (m_X7_worst_6L f) J o (po_op (ps_wr N).1) (Int32.ofNat (ps_wr N).2) (Int32.ofNat (pv N 2)) = _
    unfold m_X7_worst_6
    rw [hTJ.2.2.1, h0.1, if_pos (by first | exact pl_inl (by omega) (by omega) | exact (pl_le (by omega) (by omega)).mpr (by omega) | exact mt (pl_le (by omega) (by omega)).mp (by omega) | exact (pl_lt (by omega) (by omega)).mpr (by omega) | exact mt (pl_lt (by omega) (by omega)).mp (by omega) | exact (pl_eq (by omega) (by omega)).mpr (by omega) | exact mt (pl_eq (by omega) (by omega)).mp (by omega) | exact (pl_neg1 (by omega)).mp | exact (pl_neg1' (by omega)).mp | assumption | omega | rfl | decide)]
    have hl := (ps_wr_le N (pv N 2)).2
    cases e : (ps_wr N).1 with
    | none => rw [if_pos (show po_op none = -1 from rfl)]
    | some k =>
      have := hl k e
      rw [if_neg (show ¬ po_op (some k) = -1 from (pl_neg1 (a := k) (by omega)).mp)]
      rfl
theorem q_worst (hV : pV (I (M + 1))) : ∃ J, m_X8_worst_11L 5000 I M (-1) 0 (Int32.ofNat 0) = some (match (ps_wr (I (M + 1))).1 with
    | some k => (Int32.ofNat k, J)
    | none => (0, po_u J M 0 1)) ∧ pm_o I J M [7, 8, 9, 10] := by
  have h0 := hV.2.2.1
  have h0' := h0.2.2
  refine po_inv (L := fun f (q : po_I × (Option Nat × Nat)) k => m_X8_worst_11L f q.1 M (po_op q.2.1) (Int32.ofNat q.2.2) (Int32.ofNat k)) (n := pv (I (M + 1)) 2) (fun k q => pm_o I q.1 M [7, 8, 9, 10] ∧ q.2 = pfold (ps_wo (I (M + 1))) k (none, 0)) (fun x => ∃ J, x = some (match (ps_wr (I (M + 1))).1 with
    | some k => (Int32.ofNat k, J)
    | none => (0, po_u J M 0 1)) ∧ pm_o I J M [7, 8, 9, 10]) ?_ ?_ (pv (I (M + 1)) 2) 5000 (I, (none, 0)) 0 (Nat.zero_add _) (by omega) ⟨pm_o.rf, rfl⟩
  · rintro f ⟨J, w⟩ k hk ⟨g1, g2⟩
    left
    have hr : J (M + 1) = I (M + 1) := pm_o.row g1
    have hVJ : pV (J (M + 1)) := by rw [hr]; exact hV
    have hkJ : k < pv (J (M + 1)) 2 := by rw [hr]; exact hk
    have hw : w.2 ≤ 32 := by
      have := (ps_wr_le (I (M + 1)) k).1
      rw [← g2] at this
      exact this
    have hon := ps_on_le (I (M + 1)) k
    obtain ⟨J2, b1, b2, b3, b4, b5⟩ := q_find4 hVJ hkJ
    rw [hr] at b3 b4
    have e : m_X8_worst_11L (f + 1) J M (po_op w.1) (Int32.ofNat w.2) (Int32.ofNat k) = if ps_st (I (M + 1)) k = true then (if Int32.ofNat (ps_on (I (M + 1)) k) ≤ Int32.ofNat w.2 then m_X8_worst_11L f J2 M (po_op w.1) (if Int32.ofNat w.2 < Int32.ofNat (ps_on (I (M + 1)) k) then Int32.ofNat (ps_on (I (M + 1)) k) else Int32.ofNat w.2) (Int32.ofNat (k + 1)) else m_X8_worst_11L f J2 M (Int32.ofNat k) (if Int32.ofNat w.2 < Int32.ofNat (ps_on (I (M + 1)) k) then Int32.ofNat (ps_on (I (M + 1)) k) else Int32.ofNat w.2) (Int32.ofNat (k + 1))) else m_X8_worst_11L f J M (po_op w.1) (Int32.ofNat w.2) (Int32.ofNat (k + 1)) := by
      show m_X8_worst_11 _ _ _ _ _ _ = _
      unfold m_X8_worst_11 m_X8_worst_61 m_X8_worst_69
      rw [hr, h0.1, if_neg (by first | exact pl_inl (by omega) (by omega) | exact (pl_le (by omega) (by omega)).mpr (by omega) | exact mt (pl_le (by omega) (by omega)).mp (by omega) | exact (pl_lt (by omega) (by omega)).mpr (by omega) | exact mt (pl_lt (by omega) (by omega)).mp (by omega) | exact (pl_eq (by omega) (by omega)).mpr (by omega) | exact mt (pl_eq (by omega) (by omega)).mp (by omega) | exact (pl_neg1 (by omega)).mp | exact (pl_neg1' (by omega)).mp | assumption | omega | rfl | decide), q_stands (by omega), Option.bind_some, b1, Option.bind_some, b3, b4, ps_op_eq, q_bitsop, Option.bind_some, show Int32.ofNat k + 1 = Int32.ofNat (k + 1) from pl_add k 1, hr]
      simp only [po_let]
      cases ps_st (I (M + 1)) k with
      | false => rw [if_pos pb_f, if_neg (by decide)]
      | true => rw [if_neg (show ¬ pb true = 0 by decide), if_pos rfl]
    show ∃ s', _ ∧ m_X8_worst_11L (f + 1) J M (po_op w.1) (Int32.ofNat w.2) (Int32.ofNat k) = _
    rw [e]
    by_cases hst : ps_st (I (M + 1)) k = true
    · rw [if_pos hst]
      by_cases hlt : w.2 < ps_on (I (M + 1)) k
      · refine ⟨(J2, (some k, ps_on (I (M + 1)) k)), ⟨g1.tr b2, ?_⟩, ?_⟩
        · rw [pfold, ← g2, ps_wo, if_pos hst, if_pos hlt]
        · rw [if_neg (mt (pl_le (by omega) (by omega)).mp (by omega)), if_pos ((pl_lt (by omega) (by omega)).mpr hlt)]; rfl
      · refine ⟨(J2, w), ⟨g1.tr b2, ?_⟩, ?_⟩
        · rw [pfold, ← g2, ps_wo, if_pos hst, if_neg hlt]
        · rw [if_pos ((pl_le (by omega) (by omega)).mpr (by omega)), if_neg (mt (pl_lt (by omega) (by omega)).mp hlt)]
    · refine ⟨(J, w), ⟨g1, ?_⟩, if_neg hst⟩
      rw [pfold, ← g2, ps_wo, if_neg hst]
  · rintro f ⟨J, w⟩ ⟨g1, g2⟩
    have hr : J (M + 1) = I (M + 1) := pm_o.row g1
    have g3 : w = ps_wr (I (M + 1)) := g2
    subst g3
    refine ⟨J, ?_, g1⟩
    show m_X8_worst_11 (m_X8_worst_11L f) J M (po_op (ps_wr (I (M + 1))).1) (Int32.ofNat (ps_wr (I (M + 1))).2) (Int32.ofNat (pv (I (M + 1)) 2)) = _
    unfold m_X8_worst_11 m_X8_worst_89
    rw [hr, h0.1, if_pos (by first | exact pl_inl (by omega) (by omega) | exact (pl_le (by omega) (by omega)).mpr (by omega) | exact mt (pl_le (by omega) (by omega)).mp (by omega) | exact (pl_lt (by omega) (by omega)).mpr (by omega) | exact mt (pl_lt (by omega) (by omega)).mp (by omega) | exact (pl_eq (by omega) (by omega)).mpr (by omega) | exact mt (pl_eq (by omega) (by omega)).mp (by omega) | exact (pl_neg1 (by omega)).mp | exact (pl_neg1' (by omega)).mp | assumption | omega | rfl | decide)]
    have hl := (ps_wr_le (I (M + 1)) (pv (I (M + 1)) 2)).2
    cases e : (ps_wr (I (M + 1))).1 with
    | none => rw [if_pos (show po_op none = -1 from rfl)]; rfl
    | some k =>
      have := hl k e
      rw [if_neg (show ¬ po_op (some k) = -1 from (pl_neg1 (a := k) (by omega)).mp)]
      rfl
/-! what was used -/
theorem ps_uv_kind {p k v : Nat} (h : ps_uv N p k = some v) : v < pv N 3 ∧ N (620 + 4 * v + 1) = Int32.ofNat k := by
  unfold ps_uv at h
  split at h
  · have h1 := ps_us_lt h
    refine ⟨h1.1, ?_⟩
    have h2 := h1.2
    unfold ps_can at h2
    rw [Bool.and_eq_true, Bool.and_eq_true, Bool.and_eq_true] at h2
    exact of_decide_eq_true h2.2.2.1
  · cases h
theorem ps_ub_spec (hV : pV N) (p : Nat) : ∀ n, n ≤ 9 → pc (bt (pfold (ps_ub N p) n 0)) 32 = pc (ps_is N p) n ∧ (∀ v, v < 32 → bt (pfold (ps_ub N p) n 0) v = true → v < 12 ∧ ∃ k, k < n ∧ ps_uv N p k = some v)
  | 0, _ => ⟨pc_false (fun k _ => bt_zero k), fun v _ h => by rw [pfold, bt_zero] at h; cases h⟩
  | n + 1, hn => by
    have h3 := hV.2.2.2.1.2.2
    obtain ⟨i1, i2⟩ := ps_ub_spec hV p n (by omega)
    show pc (bt (ps_ub N p n (pfold (ps_ub N p) n 0))) 32 = pc (ps_is N p) n + (if ps_is N p n = true then 1 else 0) ∧ (∀ v, v < 32 → bt (ps_ub N p n (pfold (ps_ub N p) n 0)) v = true → v < 12 ∧ ∃ k, k < n + 1 ∧ ps_uv N p k = some v)
    generalize pfold (ps_ub N p) n 0 = X at *
    rw [← i1]
    unfold ps_ub ps_is
    cases e : ps_uv N p n with
    | none =>
      refine ⟨rfl, fun v hv h => ?_⟩
      obtain ⟨h1, k, h2, h4⟩ := i2 v hv h
      exact ⟨h1, k, by omega, h4⟩
    | some w =>
      obtain ⟨w1, w2⟩ := ps_uv_kind e
      have hnew : bt X w = false := by
        cases e2 : bt X w with
        | false => rfl
        | true =>
          obtain ⟨h1, k, h2, h4⟩ := i2 w (by omega) e2
          obtain ⟨_, w3⟩ := ps_uv_kind h4
          rw [w2] at w3
          have := (pl_eq (by omega) (by omega)).mp w3
          omega
      dsimp only
      constructor
      · rw [pc_congr (q := fun c => bt X c || decide (c = w)) (n := 32) (fun c hc => by rw [bt_or, bt_one (by omega) hc]), pc_or1 hnew, if_pos (show w < 32 by omega)]
        rfl
      · intro v hv h
        rw [bt_or, bt_one (by omega) hv, Bool.or_eq_true] at h
        rcases h with h | h
        · obtain ⟨h1, k, h2, h4⟩ := i2 v hv h
          exact ⟨h1, k, by omega, h4⟩
        · obtain rfl := of_decide_eq_true h
          exact ⟨by omega, n, by omega, e⟩
theorem ps_mb_spec (N : po_N) (p : Nat) : ∀ n, pfold (ps_mb N p) n 0 = Int32.ofNat (pc (ps_is N p) n)
  | 0 => rfl
  | n + 1 => by
    rw [pfold, ps_mb_spec N p n, pc]
    unfold ps_mb
    split
    · exact pl_add _ 1
    · rfl
theorem q_used9 (hV : pV N) (p : Nat) : m_J6_bitCount_0f7a4 (pfold (ps_ub N p) 9 0) = some (pfold (ps_mb N p) 9 0) := by
  rw [q_bitCount, ps_mb_spec, (ps_ub_spec hV p 9 (by omega)).1]
theorem ps_ub_small (hV : pV N) (p : Nat) : ∃ n, n < 4096 ∧ pfold (ps_ub N p) 9 0 = Int32.ofNat n := by
  obtain ⟨h1, h2⟩ := un_small (x := pfold (ps_ub N p) 9 0) (m := 12) (fun c hc h => ((ps_ub_spec hV p 9 (by omega)).2 c hc h).1) (by omega)
  exact ⟨_, h1, h2⟩
end QA3
