section QA1
variable {I : po_I} {M t k i : Nat} {N : po_N}
theorem pP.sta {b : Nat} (h : pP N b) : pv_c N (b + 19) 0 6 := h.2.2.2.2.2.2.1
theorem pP.iss {b : Nat} (h : pP N b) : pv N (b + 19) = 2 → pv_c N (b + 22) 0 200000 ∧ pv N (b + 20) ≤ 3 ∧ pv N (b + 21) ≤ 2 := h.2.2.2.2.2.2.2.2.2.2.2.2.1
theorem pP.sus {b : Nat} (h : pP N b) : pv N (b + 19) = 6 → pv N (b + 20) ≤ 3 := h.2.2.2.2.2.2.2.2.2.2.2.2.2.1
theorem pP.cds {b : Nat} (h : pP N b) : ∀ i, i < pv N (b + 45) → pv_c N (b + 29 + i) 0 4000 := h.2.2.2.2.2.2.2.2.2.2.2.2.2.2
theorem pV.per (hV : pV N) (hk : k < pv N 2) : pP N (160 + 46 * k) := hV.2.2.2.2.2.2.1 k hk
theorem pTR.per (hT : pTR I t N) (hk : k < pv N 2) : pTP I (t + (29 + 5 * k)) N (160 + 46 * k) := hT.2.2.2.2.2.2.1 k hk
/-- the urgency of a permit -/
def pu (N : po_N) (k : Nat) : Nat := if pv N (160 + 46 * k + 19) = 0 then 2000000 else if pv N (160 + 46 * k + 19) = 2 then pv N (160 + 46 * k + 22) else if pv N (160 + 46 * k + 19) = 6 then 1000000 else 3000000
theorem pu_le (hV : pV N) (hk : k < pv N 2) : pu N k ≤ 3000000 := by
  have hp := hV.per hk
  unfold pu
  by_cases h0 : pv N (160 + 46 * k + 19) = 0
  · rw [if_pos h0]; omega
  · rw [if_neg h0]
    by_cases h2 : pv N (160 + 46 * k + 19) = 2
    · have := (hp.iss h2).1.2.2
      rw [if_pos h2]; omega
    · rw [if_neg h2]
      split <;> omega
theorem x_urgency (hV : pV N) (hT : pTR I t N) (hk : k < pv N 2) : m_X2_urgency I (t + (29 + 5 * k)) = some (Int32.ofNat (pu N k)) := by
  have hP := hT.per hk
  have hp := hV.per hk
  have h1 := hp.sta.1
  have h2 := hp.sta.2.2
  unfold m_X2_urgency m_X2_urgency_e pu
  rw [hP.sta, h1]
  by_cases e0 : pv N (160 + 46 * k + 19) = 0
  · rw [if_pos e0, e0]; rfl
  · rw [if_neg e0, if_neg (show ¬ Int32.ofNat (pv N (160 + 46 * k + 19)) = 0 from mt (pl_eq (b := 0) (by omega) (by omega)).mp e0)]
    by_cases e2 : pv N (160 + 46 * k + 19) = 2
    · rw [if_pos e2, if_pos (show Int32.ofNat (pv N (160 + 46 * k + 19)) = 2 by rw [e2]; rfl), hP.lim (by rw [h1, e2]; rfl)]
      exact congrArg some (hp.iss e2).1.1
    · rw [if_neg e2, if_neg (show ¬ Int32.ofNat (pv N (160 + 46 * k + 19)) = 2 from mt (pl_eq (b := 2) (by omega) (by omega)).mp e2)]
      by_cases e6 : pv N (160 + 46 * k + 19) = 6
      · rw [if_pos e6, e6]; rfl
      · rw [if_neg e6, if_neg (show ¬ Int32.ofNat (pv N (160 + 46 * k + 19)) = 6 from mt (pl_eq (b := 6) (by omega) (by omega)).mp e6)]; rfl
/-- k comes before i -/
def pub (N : po_N) (i k : Nat) : Bool := decide (pu N k < pu N i) || (decide (pu N k = pu N i) && decide (k < i))
theorem x_before (hV : pV N) (hT : pTR I t N) (hi : i < pv N 2) : m_X5_permitsBefore I t (Int32.ofNat i) = some (Int32.ofNat (pc (pub N i) (pv N 2))) := by
  have h0 := hV.2.2.1
  have h0' := h0.2.2
  have hi3 := pu_le hV hi
  unfold m_X5_permitsBefore m_X5_permitsBefore_e m_X5_permitsBefore_24
  rw [if_neg (show ¬ Int32.ofNat i < 0 from mt (pl_not0 (by omega)).mp id), if_neg (show ¬ (10 : Int32) ≤ Int32.ofNat i from mt (pl_le (a := 10) (by omega) (by omega)).mp (by omega)), if_pos (show po_in (Int32.ofNat i) 10 = true from pl_inl (by omega) (by omega)), pl_clamp (by omega), x_urgency hV hT hi, Option.bind_some]
  show m_X5_permitsBefore_30L I 5000 t (Int32.ofNat i) (Int32.ofNat (pu N i)) (Int32.ofNat 0) (Int32.ofNat 0) = _
  refine (pl_fold (L := fun f x k => m_X5_permitsBefore_30L I f t (Int32.ofNat i) (Int32.ofNat (pu N i)) (Int32.ofNat x) (Int32.ofNat k)) (n := pv N 2) (g := fun k x => x + (if pub N i k = true then 1 else 0)) (E := fun x => some (Int32.ofNat x)) ?_ ?_ (by omega) 0).trans ?_
  · intro f x k hk
    have hk3 := pu_le hV hk
    show m_X5_permitsBefore_30 I _ _ _ _ _ _ = _
    unfold m_X5_permitsBefore_30 m_X5_permitsBefore_69 m_X5_permitsBefore_72 pub
    rw [hT.2.2.1, h0.1, if_neg (by first | exact pl_inl (by omega) (by omega) | exact (pl_le (by omega) (by omega)).mpr (by omega) | exact mt (pl_le (by omega) (by omega)).mp (by omega) | exact (pl_lt (by omega) (by omega)).mpr (by omega) | exact mt (pl_lt (by omega) (by omega)).mp (by omega) | exact (pl_eq (by omega) (by omega)).mpr (by omega) | exact mt (pl_eq (by omega) (by omega)).mp (by omega) | exact (pl_neg1 (by omega)).mp | exact (pl_neg1' (by omega)).mp | assumption | omega | rfl | decide), if_pos (show po_in (Int32.ofNat k) 10 = true from pl_inl (by omega) (by omega)), pl_clamp (by omega), x_urgency hV hT hk, Option.bind_some, show Int32.ofNat k + 1 = Int32.ofNat (k + 1) from pl_add k 1, show Int32.ofNat x + 1 = Int32.ofNat (x + 1) from pl_add x 1]
    by_cases h : pu N k < pu N i
    · rw [if_pos ((pl_lt (by omega) (by omega)).mpr h), decide_eq_true h]; rfl
    · rw [if_neg (mt (pl_lt (by omega) (by omega)).mp h), decide_eq_false h, Bool.false_or]
      by_cases h2 : pu N k = pu N i
      · rw [if_pos (congrArg Int32.ofNat h2), decide_eq_true h2, Bool.true_and]
        by_cases h3 : k < i
        · rw [if_neg (mt (pl_le (by omega) (by omega)).mp (by omega)), decide_eq_true h3]; rfl
        · rw [if_pos ((pl_le (by omega) (by omega)).mpr (by omega)), decide_eq_false h3]; rfl
      · rw [if_neg (mt (pl_eq (by omega) (by omega)).mp h2), decide_eq_false h2]; rfl
  · intro f x
    show m_X5_permitsBefore_30 I _ _ _ _ _ _ = _
    unfold m_X5_permitsBefore_30
    rw [hT.2.2.1, h0.1, if_pos (by first | exact pl_inl (by omega) (by omega) | exact (pl_le (by omega) (by omega)).mpr (by omega) | exact mt (pl_le (by omega) (by omega)).mp (by omega) | exact (pl_lt (by omega) (by omega)).mpr (by omega) | exact mt (pl_lt (by omega) (by omega)).mp (by omega) | exact (pl_eq (by omega) (by omega)).mpr (by omega) | exact mt (pl_eq (by omega) (by omega)).mp (by omega) | exact (pl_neg1 (by omega)).mp | exact (pl_neg1' (by omega)).mp | assumption | omega | rfl | decide)]
  · rw [pc_fold, Nat.zero_add]
def ps_ur (N : po_N) (x : Int32) : Option Nat := pfind (fun k => decide (pu N k ≠ 3000000) && decide (Int32.ofNat (pc (pub N k) (pv N 2)) = x)) (pv N 2)
theorem x_inUrgency {x : Int32} (hV : pV N) (hT : pTR I t N) : m_X5_permitInUrgency I t x = some (po_op (ps_ur N x)) := by
  have h0 := hV.2.2.1
  have h0' := h0.2.2
  show m_X5_permitInUrgency_2L I 5000 t x (Int32.ofNat 0) = _
  refine (pl_find (L := fun f k => m_X5_permitInUrgency_2L I f t x (Int32.ofNat k)) (n := pv N 2) (p := fun k => decide (pu N k ≠ 3000000) && decide (Int32.ofNat (pc (pub N k) (pv N 2)) = x)) (A := fun k => some (Int32.ofNat k)) (B := some (-1)) ?_ ?_ (by omega)).trans ?_
  · intro f k hk
    have hk3 := pu_le hV hk
    show m_X5_permitInUrgency_2 I _ _ _ _ = _
    unfold m_X5_permitInUrgency_2 m_X5_permitInUrgency_35
    rw [hT.2.2.1, h0.1, if_neg (by first | exact pl_inl (by omega) (by omega) | exact (pl_le (by omega) (by omega)).mpr (by omega) | exact mt (pl_le (by omega) (by omega)).mp (by omega) | exact (pl_lt (by omega) (by omega)).mpr (by omega) | exact mt (pl_lt (by omega) (by omega)).mp (by omega) | exact (pl_eq (by omega) (by omega)).mpr (by omega) | exact mt (pl_eq (by omega) (by omega)).mp (by omega) | exact (pl_neg1 (by omega)).mp | exact (pl_neg1' (by omega)).mp | assumption | omega | rfl | decide), if_pos (show po_in (Int32.ofNat k) 10 = true from pl_inl (by omega) (by omega)), pl_clamp (by omega), x_urgency hV hT hk, Option.bind_some, x_before hV hT hk, Option.bind_some, show Int32.ofNat k + 1 = Int32.ofNat (k + 1) from pl_add k 1]
    by_cases h : pu N k = 3000000
    · rw [if_pos (show Int32.ofNat (pu N k) = 3000000 by rw [h]; rfl), decide_eq_false (by simp [h])]; rfl
    · rw [if_neg (show ¬ Int32.ofNat (pu N k) = 3000000 from mt (pl_eq (b := 3000000) (by omega) (by omega)).mp h), decide_eq_true h, Bool.true_and]
      by_cases h2 : Int32.ofNat (pc (pub N k) (pv N 2)) = x
      · rw [if_pos h2, decide_eq_true h2]; rfl
      · rw [if_neg h2, decide_eq_false h2]; rfl
  · intro f
    show m_X5_permitInUrgency_2 I _ _ _ _ = _
    unfold m_X5_permitInUrgency_2
    rw [hT.2.2.1, h0.1, if_pos (by first | exact pl_inl (by omega) (by omega) | exact (pl_le (by omega) (by omega)).mpr (by omega) | exact mt (pl_le (by omega) (by omega)).mp (by omega) | exact (pl_lt (by omega) (by omega)).mpr (by omega) | exact mt (pl_lt (by omega) (by omega)).mp (by omega) | exact (pl_eq (by omega) (by omega)).mpr (by omega) | exact mt (pl_eq (by omega) (by omega)).mp (by omega) | exact (pl_neg1 (by omega)).mp | exact (pl_neg1' (by omega)).mp | assumption | omega | rfl | decide)]
  · unfold ps_ur
    cases pfind (fun k => decide (pu N k ≠ 3000000) && decide (Int32.ofNat (pc (pub N k) (pv N 2)) = x)) (pv N 2) <;> rfl
/-- the group of a permit -/
def pg (N : po_N) (k : Nat) : Int32 := if pv N (160 + 46 * k + 19) = 2 then 0 else if pv N (160 + 46 * k + 19) = 6 then 1 else if pv N (160 + 46 * k + 19) = 0 then 2 else -1
theorem q_group (hV : pV (I (M + 1))) (hk : k < pv (I (M + 1)) 2) : m_X8_group I M (Int32.ofNat k) = some (pg (I (M + 1)) k) := by
  have h0 := hV.2.2.1
  have h0' := h0.2.2
  have hp := hV.per hk
  have h1 := hp.sta.1
  have h2 := hp.sta.2.2
  unfold m_X8_group m_X8_group_e m_X8_group_36 pg
  rw [pk_19, q_at (by omega), Option.bind_some, h1]
  by_cases e2 : pv (I (M + 1)) (160 + 46 * k + 19) = 2
  · rw [if_pos e2, e2]; rfl
  · rw [if_neg e2, if_neg (show ¬ Int32.ofNat (pv (I (M + 1)) (160 + 46 * k + 19)) = 2 from mt (pl_eq (b := 2) (by omega) (by omega)).mp e2)]
    by_cases e6 : pv (I (M + 1)) (160 + 46 * k + 19) = 6
    · rw [if_pos e6, e6]; rfl
    · rw [if_neg e6, if_neg (show ¬ Int32.ofNat (pv (I (M + 1)) (160 + 46 * k + 19)) = 6 from mt (pl_eq (b := 6) (by omega) (by omega)).mp e6)]
      by_cases e0 : pv (I (M + 1)) (160 + 46 * k + 19) = 0
      · rw [if_pos e0, e0]; rfl
      · rw [if_neg e0, if_neg (show ¬ Int32.ofNat (pv (I (M + 1)) (160 + 46 * k + 19)) = 0 from mt (pl_eq (b := 0) (by omega) (by omega)).mp e0)]
theorem pg_cases (N : po_N) (k : Nat) : (pg N k = 0 ∧ pv N (160 + 46 * k + 19) = 2 ∧ pu N k = pv N (160 + 46 * k + 22)) ∨ (pg N k = 1 ∧ pu N k = 1000000) ∨ (pg N k = 2 ∧ pu N k = 2000000) ∨ (pg N k = -1 ∧ pu N k = 3000000) := by
  unfold pg pu
  by_cases e2 : pv N (160 + 46 * k + 19) = 2
  · left; exact ⟨if_pos e2, e2, by rw [if_neg (by omega), if_pos e2]⟩
  · by_cases e6 : pv N (160 + 46 * k + 19) = 6
    · right; left; exact ⟨by rw [if_neg e2, if_pos e6], by rw [if_neg (by omega), if_neg e2, if_pos e6]⟩
    · by_cases e0 : pv N (160 + 46 * k + 19) = 0
      · right; right; left; exact ⟨by rw [if_neg e2, if_neg e6, if_pos e0], if_pos e0⟩
      · right; right; right; exact ⟨by rw [if_neg e2, if_neg e6, if_neg e0], by rw [if_neg e0, if_neg e2, if_neg e6]⟩
theorem q_ahead62 {a b : Nat} (ha : a < 10) (hb : b < 10) : m_X8_isAhead_61 I M (Int32.ofNat a) (Int32.ofNat b) = some (pb (decide (a < b))) := by
  unfold m_X8_isAhead_61 m_X8_isAhead_62 m_X8_isAhead_102
  rw [if_pos (show (0 : Int32) = 0 from rfl)]
  by_cases h : a < b
  · rw [if_neg (mt (pl_le (by omega) (by omega)).mp (by omega)), decide_eq_true h]; rfl
  · rw [if_pos ((pl_le (by omega) (by omega)).mpr (by omega)), decide_eq_false h]; rfl
theorem q_isAhead {a b : Nat} (hV : pV (I (M + 1))) (ha : a < pv (I (M + 1)) 2) (hb : b < pv (I (M + 1)) 2) (hg : ¬ pg (I (M + 1)) a = -1) : m_X8_isAhead I M (Int32.ofNat a) (Int32.ofNat b) = some (pb (!decide (pg (I (M + 1)) b = -1) && pub (I (M + 1)) b a)) := by
  have h0 := hV.2.2.1
  have h0' := h0.2.2
  have hpa := hV.per ha
  have hpb := hV.per hb
  unfold m_X8_isAhead m_X8_isAhead_e m_X8_isAhead_31
  rw [q_group hV ha, Option.bind_some, q_group hV hb, Option.bind_some, Option.bind_some, Option.bind_some, Option.bind_some, pk_22, q_at (by omega), Option.bind_some, q_at (by omega), Option.bind_some, q_ahead62 (by omega) (by omega)]
  unfold pub
  rcases pg_cases (I (M + 1)) a with ⟨g1, g2, g3⟩ | ⟨g1, g3⟩ | ⟨g1, g3⟩ | ⟨g1, g3⟩
  · have la := (hpa.iss g2).1
    rcases pg_cases (I (M + 1)) b with ⟨f1, f2, f3⟩ | ⟨f1, f3⟩ | ⟨f1, f3⟩ | ⟨f1, f3⟩
    · have lb := (hpb.iss f2).1
      rw [g1, f1, if_pos rfl, if_pos rfl, g3, f3, la.1, lb.1, show decide ((0 : Int32) = -1) = false from rfl]
      have ea := la.2.2
      have eb := lb.2.2
      by_cases h : pv (I (M + 1)) (160 + 46 * a + 22) = pv (I (M + 1)) (160 + 46 * b + 22)
      · rw [if_pos (congrArg Int32.ofNat h), decide_eq_false (show ¬ pv (I (M + 1)) (160 + 46 * a + 22) < pv (I (M + 1)) (160 + 46 * b + 22) by omega), decide_eq_true h]
        rfl
      · rw [if_neg (mt (pl_eq (by omega) (by omega)).mp h), decide_eq_false h]
        unfold m_X8_isAhead_62 m_X8_isAhead_102
        rw [if_neg (show ¬ (1 : Int32) = 0 by decide), pk_22, q_at (by omega), Option.bind_some, q_at (by omega), Option.bind_some, la.1, lb.1]
        by_cases h2 : pv (I (M + 1)) (160 + 46 * a + 22) < pv (I (M + 1)) (160 + 46 * b + 22)
        · rw [if_neg (mt (pl_le (by omega) (by omega)).mp (by omega)), decide_eq_true h2]; rfl
        · rw [if_pos ((pl_le (by omega) (by omega)).mpr (by omega)), decide_eq_false h2]; rfl
    · have ea := la.2.2
      rw [g1, f1, g3, f3, decide_eq_true (show pv (I (M + 1)) (160 + 46 * a + 22) < 1000000 by omega)]; rfl
    · have ea := la.2.2
      rw [g1, f1, g3, f3, decide_eq_true (show pv (I (M + 1)) (160 + 46 * a + 22) < 2000000 by omega)]; rfl
    · rw [g1, f1]; rfl
  · rcases pg_cases (I (M + 1)) b with ⟨f1, f2, f3⟩ | ⟨f1, f3⟩ | ⟨f1, f3⟩ | ⟨f1, f3⟩
    · have lb := (hpb.iss f2).1.2.2
      rw [g1, f1, g3, f3, decide_eq_false (show ¬ 1000000 < pv (I (M + 1)) (160 + 46 * b + 22) by omega), decide_eq_false (show ¬ 1000000 = pv (I (M + 1)) (160 + 46 * b + 22) by omega)]; rfl
    · rw [g1, f1, g3, f3]; rfl
    · rw [g1, f1, g3, f3]; rfl
    · rw [g1, f1]; rfl
  · rcases pg_cases (I (M + 1)) b with ⟨f1, f2, f3⟩ | ⟨f1, f3⟩ | ⟨f1, f3⟩ | ⟨f1, f3⟩
    · have lb := (hpb.iss f2).1.2.2
      rw [g1, f1, g3, f3, decide_eq_false (show ¬ 2000000 < pv (I (M + 1)) (160 + 46 * b + 22) by omega), decide_eq_false (show ¬ 2000000 = pv (I (M + 1)) (160 + 46 * b + 22) by omega)]; rfl
    · rw [g1, f1, g3, f3]; rfl
    · rw [g1, f1, g3, f3]; rfl
    · rw [g1, f1]; rfl
  · exact absurd g1 hg
/-- the model's count of those ahead -/
def pq (N : po_N) (k j : Nat) : Bool := !decide (j = k) && (!decide (pg N j = -1) && (!decide (pg N k = -1) && pub N k j))
theorem pq_eq {j : Nat} (hV : pV N) (hk : k < pv N 2) (hg : ¬ pg N k = -1) : pq N k j = pub N k j := by
  unfold pq
  rw [decide_eq_false hg]
  by_cases e : j = k
  · subst e
    unfold pub
    simp
  · rw [decide_eq_false e]
    by_cases e2 : pg N j = -1
    · have h3 : pu N j = 3000000 := by
        rcases pg_cases N j with ⟨g1, _⟩ | ⟨g1, _⟩ | ⟨g1, _⟩ | ⟨_, g⟩
        · rw [g1] at e2; exact absurd e2 (by decide)
        · rw [g1] at e2; exact absurd e2 (by decide)
        · rw [g1] at e2; exact absurd e2 (by decide)
        · exact g
      have h4 : pu N k < 3000000 := by
        rcases pg_cases N k with ⟨_, g2, g3⟩ | ⟨_, g3⟩ | ⟨_, g3⟩ | ⟨g, _⟩
        · have := ((hV.per hk).iss g2).1.2.2
          omega
        · omega
        · omega
        · exact absurd g hg
      unfold pub
      rw [decide_eq_true e2, decide_eq_false (show ¬ pu N j < pu N k by omega), decide_eq_false (show ¬ pu N j = pu N k by omega)]; rfl
    · rw [decide_eq_false e2]; rfl
theorem q_urgent22 {x : Int32} {r7 : po_I → Nat → Int32 → Int32 → Option (Int32 × po_I)} (hV : pV (I (M + 1))) (hk : k < pv (I (M + 1)) 2) : m_X8_urgent_22L r7 5000 I M x (Int32.ofNat k) (Int32.ofNat 0) (Int32.ofNat 0) = if (decide (pu (I (M + 1)) k ≠ 3000000) && decide (Int32.ofNat (pc (pub (I (M + 1)) k) (pv (I (M + 1)) 2)) = x)) = true then some (Int32.ofNat k, I) else r7 I M x (Int32.ofNat (k + 1)) := by
  have h0 := hV.2.2.1
  have h0' := h0.2.2
  refine (pl_fold (L := fun f y j => m_X8_urgent_22L r7 f I M x (Int32.ofNat k) (Int32.ofNat y) (Int32.ofNat j)) (n := pv (I (M + 1)) 2) (g := fun j y => y + (if pq (I (M + 1)) k j = true then 1 else 0)) (E := fun y => if pg (I (M + 1)) k = -1 then r7 I M x (Int32.ofNat (k + 1)) else if Int32.ofNat y = x then some (Int32.ofNat k, I) else r7 I M x (Int32.ofNat (k + 1))) ?_ ?_ (by omega) 0).trans ?_
  · intro f y j hj
    show m_X8_urgent_22 _ _ _ _ _ _ _ _ = _
    unfold m_X8_urgent_22 m_X8_urgent_64 m_X8_urgent_65 pq
    simp only [po_let]
    rw [h0.1, if_neg (by first | exact pl_inl (by omega) (by omega) | exact (pl_le (by omega) (by omega)).mpr (by omega) | exact mt (pl_le (by omega) (by omega)).mp (by omega) | exact (pl_lt (by omega) (by omega)).mpr (by omega) | exact mt (pl_lt (by omega) (by omega)).mp (by omega) | exact (pl_eq (by omega) (by omega)).mpr (by omega) | exact mt (pl_eq (by omega) (by omega)).mp (by omega) | exact (pl_neg1 (by omega)).mp | exact (pl_neg1' (by omega)).mp | assumption | omega | rfl | decide), q_group hV hj, Option.bind_some, show Int32.ofNat j + 1 = Int32.ofNat (j + 1) from pl_add j 1, show Int32.ofNat y + 0 = Int32.ofNat y from Int32.add_zero _, show Int32.ofNat y + 1 = Int32.ofNat (y + 1) from pl_add y 1]
    by_cases e : j = k
    · rw [if_pos (congrArg Int32.ofNat e), decide_eq_true e]; rfl
    · rw [if_neg (mt (pl_eq (by omega) (by omega)).mp e), decide_eq_false e]
      by_cases e2 : pg (I (M + 1)) j = -1
      · rw [if_pos e2, decide_eq_true e2]; rfl
      · rw [if_neg e2, decide_eq_false e2, q_isAhead hV hj hk e2, Option.bind_some]
        cases (!decide (pg (I (M + 1)) k = -1) && pub (I (M + 1)) k j) <;> rfl
  · intro f y
    show m_X8_urgent_22 _ _ _ _ _ _ _ _ = _
    unfold m_X8_urgent_22 m_X8_urgent_89
    rw [h0.1, if_pos (by first | exact pl_inl (by omega) (by omega) | exact (pl_le (by omega) (by omega)).mpr (by omega) | exact mt (pl_le (by omega) (by omega)).mp (by omega) | exact (pl_lt (by omega) (by omega)).mpr (by omega) | exact mt (pl_lt (by omega) (by omega)).mp (by omega) | exact (pl_eq (by omega) (by omega)).mpr (by omega) | exact mt (pl_eq (by omega) (by omega)).mp (by omega) | exact (pl_neg1 (by omega)).mp | exact (pl_neg1' (by omega)).mp | assumption | omega | rfl | decide), q_group hV hk, Option.bind_some, show Int32.ofNat k + 1 = Int32.ofNat (k + 1) from pl_add k 1]
  · rw [pc_fold, Nat.zero_add]
    have e3 : pg (I (M + 1)) k = -1 ↔ pu (I (M + 1)) k = 3000000 := by
      rcases pg_cases (I (M + 1)) k with ⟨g1, g2, g3⟩ | ⟨g1, g3⟩ | ⟨g1, g3⟩ | ⟨g1, g3⟩
      · have := ((hV.per hk).iss g2).1.2.2
        rw [g1, g3]
        exact ⟨fun h => absurd h (by decide), fun h => by omega⟩
      · rw [g1, g3]; exact ⟨fun h => absurd h (by decide), fun h => by omega⟩
      · rw [g1, g3]; exact ⟨fun h => absurd h (by decide), fun h => by omega⟩
      · rw [g1, g3]; exact ⟨fun _ => rfl, fun _ => rfl⟩
    by_cases e : pg (I (M + 1)) k = -1
    · rw [if_pos e, decide_eq_false (by simp [e3.mp e])]; rfl
    · rw [if_neg e, decide_eq_true (mt e3.mpr e), pc_congr (fun j _ => pq_eq hV hk e), Bool.true_and]
      by_cases e4 : Int32.ofNat (pc (pub (I (M + 1)) k) (pv (I (M + 1)) 2)) = x
      · rw [if_pos e4, decide_eq_true e4]; rfl
      · rw [if_neg e4, decide_eq_false e4]; rfl
theorem q_urgent7 {x : Int32} (hV : pV (I (M + 1))) : m_X8_urgent_7L 5000 I M x (Int32.ofNat 0) = match ps_ur (I (M + 1)) x with
    | some k => some (Int32.ofNat k, I)
    | none => some (0, po_u I M 0 1) := by
  have h0 := hV.2.2.1
  have h0' := h0.2.2
  refine pl_find (L := fun f k => m_X8_urgent_7L f I M x (Int32.ofNat k)) (n := pv (I (M + 1)) 2) (p := fun k => decide (pu (I (M + 1)) k ≠ 3000000) && decide (Int32.ofNat (pc (pub (I (M + 1)) k) (pv (I (M + 1)) 2)) = x)) (A := fun k => some (Int32.ofNat k, I)) (B := some (0, po_u I M 0 1)) ?_ ?_ (by omega)
  · intro f k hk
    show m_X8_urgent_7 _ _ _ _ _ = _
    unfold m_X8_urgent_7
    rw [h0.1, if_neg (by first | exact pl_inl (by omega) (by omega) | exact (pl_le (by omega) (by omega)).mpr (by omega) | exact mt (pl_le (by omega) (by omega)).mp (by omega) | exact (pl_lt (by omega) (by omega)).mpr (by omega) | exact mt (pl_lt (by omega) (by omega)).mp (by omega) | exact (pl_eq (by omega) (by omega)).mpr (by omega) | exact mt (pl_eq (by omega) (by omega)).mp (by omega) | exact (pl_neg1 (by omega)).mp | exact (pl_neg1' (by omega)).mp | assumption | omega | rfl | decide)]
    exact q_urgent22 hV hk
  · intro f
    show m_X8_urgent_7 _ _ _ _ _ = _
    unfold m_X8_urgent_7
    rw [h0.1, if_pos (by first | exact pl_inl (by omega) (by omega) | exact (pl_le (by omega) (by omega)).mpr (by omega) | exact mt (pl_le (by omega) (by omega)).mp (by omega) | exact (pl_lt (by omega) (by omega)).mpr (by omega) | exact mt (pl_lt (by omega) (by omega)).mp (by omega) | exact (pl_eq (by omega) (by omega)).mpr (by omega) | exact mt (pl_eq (by omega) (by omega)).mp (by omega) | exact (pl_neg1 (by omega)).mp | exact (pl_neg1' (by omega)).mp | assumption | omega | rfl | decide)]
    rfl
/-! accounts -/
def ps_sum (N : po_N) (x : Int32) (j : Nat) : Int32 := pz (fun k => if x = -1 ∨ x = Int32.ofNat k then N (160 + 46 * k + j) else 0) (pv N 2)
theorem q_sumOf {x : Int32} {j : Nat} (hV : pV (I (M + 1))) (hj : j < 46) : m_X8_sumOf I M x (Int32.ofNat j) = some (ps_sum (I (M + 1)) x j) := by
  have h0 := hV.2.2.1
  have h0' := h0.2.2
  show m_X8_sumOf_5L I 5000 M x (Int32.ofNat j) 0 (Int32.ofNat 0) = _
  refine (pl_fold (L := fun f y k => m_X8_sumOf_5L I f M x (Int32.ofNat j) y (Int32.ofNat k)) (n := pv (I (M + 1)) 2) (g := fun k y => y + (if x = -1 ∨ x = Int32.ofNat k then I (M + 1) (160 + 46 * k + j) else 0)) (E := fun y => some y) ?_ ?_ (by omega) 0).trans ?_
  · intro f y k hk
    show m_X8_sumOf_5 I _ _ _ _ _ _ = _
    unfold m_X8_sumOf_5 m_X8_sumOf_28 m_X8_sumOf_39
    simp only [po_let]
    rw [h0.1, if_neg (by first | exact pl_inl (by omega) (by omega) | exact (pl_le (by omega) (by omega)).mpr (by omega) | exact mt (pl_le (by omega) (by omega)).mp (by omega) | exact (pl_lt (by omega) (by omega)).mpr (by omega) | exact mt (pl_lt (by omega) (by omega)).mp (by omega) | exact (pl_eq (by omega) (by omega)).mpr (by omega) | exact mt (pl_eq (by omega) (by omega)).mp (by omega) | exact (pl_neg1 (by omega)).mp | exact (pl_neg1' (by omega)).mp | assumption | omega | rfl | decide), q_at (by omega), Option.bind_some, show Int32.ofNat k + 1 = Int32.ofNat (k + 1) from pl_add k 1]
    by_cases e : x = -1
    · rw [if_pos e, if_pos (Or.inl e)]
    · rw [if_neg e]
      by_cases e2 : x = Int32.ofNat k
      · rw [if_pos e2, if_pos (Or.inr e2)]
      · rw [if_neg e2, if_neg (not_or.mpr ⟨e, e2⟩)]
  · intro f y
    show m_X8_sumOf_5 I _ _ _ _ _ _ = _
    unfold m_X8_sumOf_5
    rw [h0.1, if_pos (by first | exact pl_inl (by omega) (by omega) | exact (pl_le (by omega) (by omega)).mpr (by omega) | exact mt (pl_le (by omega) (by omega)).mp (by omega) | exact (pl_lt (by omega) (by omega)).mpr (by omega) | exact mt (pl_lt (by omega) (by omega)).mp (by omega) | exact (pl_eq (by omega) (by omega)).mpr (by omega) | exact mt (pl_eq (by omega) (by omega)).mp (by omega) | exact (pl_neg1 (by omega)).mp | exact (pl_neg1' (by omega)).mp | assumption | omega | rfl | decide)]
  · rw [pz_fold, Int32.zero_add]; rfl
theorem x_account {o : Nat} {x w : Int32} (hV : pV N) (hT : pTR I (o + 8) N) : m_X7_account_55L I 5000 o x w 0 0 (Int32.ofNat 0) = some (.inl (if w = 0 then ps_sum N x 25 else if w = 1 then ps_sum N x 26 else ps_sum N x 25 - ps_sum N x 26)) := by
  have h0 := hV.2.2.1
  have h0' := h0.2.2
  have hf : ∀ n, pfold (fun k (y : Int32 × Int32) => (y.1 + (if x = -1 ∨ x = Int32.ofNat k then N (160 + 46 * k + 25) else 0), y.2 + (if x = -1 ∨ x = Int32.ofNat k then N (160 + 46 * k + 26) else 0))) n (0, 0) = (pz (fun k => if x = -1 ∨ x = Int32.ofNat k then N (160 + 46 * k + 25) else 0) n, pz (fun k => if x = -1 ∨ x = Int32.ofNat k then N (160 + 46 * k + 26) else 0) n) := by
    intro n
    induction n with
    | zero => rfl
    | succ n ih => rw [pfold, ih]; rfl
  refine (pl_fold (L := fun f (y : Int32 × Int32) k => m_X7_account_55L I f o x w y.1 y.2 (Int32.ofNat k)) (n := pv N 2) (g := fun k y => (y.1 + (if x = -1 ∨ x = Int32.ofNat k then N (160 + 46 * k + 25) else 0), y.2 + (if x = -1 ∨ x = Int32.ofNat k then N (160 + 46 * k + 26) else 0))) (E := fun y => some (.inl (if w = 0 then y.1 else if w = 1 then y.2 else y.1 - y.2))) ?_ ?_ (by omega) (0, 0)).trans ?_
  · intro f y k hk
    have hP := hT.per hk
    show m_X7_account_55 I _ _ _ _ _ _ _ = _
    unfold m_X7_account_55 m_X7_account_78 m_X7_account_112
    simp only [po_let]
    rw [hT.2.2.1, h0.1, if_neg (by first | exact pl_inl (by omega) (by omega) | exact (pl_le (by omega) (by omega)).mpr (by omega) | exact mt (pl_le (by omega) (by omega)).mp (by omega) | exact (pl_lt (by omega) (by omega)).mpr (by omega) | exact mt (pl_lt (by omega) (by omega)).mp (by omega) | exact (pl_eq (by omega) (by omega)).mpr (by omega) | exact mt (pl_eq (by omega) (by omega)).mp (by omega) | exact (pl_neg1 (by omega)).mp | exact (pl_neg1' (by omega)).mp | assumption | omega | rfl | decide), if_pos (show po_in (Int32.ofNat k) 10 = true from pl_inl (by omega) (by omega)), if_pos (show po_in (Int32.ofNat k) 10 = true from pl_inl (by omega) (by omega)), pl_clamp (by omega), hP.pai, hP.bac, show Int32.ofNat k + 1 = Int32.ofNat (k + 1) from pl_add k 1]
    by_cases e : x = -1
    · rw [if_pos e, if_pos (Or.inl e), if_pos (Or.inl e)]
    · rw [if_neg e]
      by_cases e2 : x = Int32.ofNat k
      · rw [if_pos e2, if_pos (Or.inr e2), if_pos (Or.inr e2)]
      · rw [if_neg e2, if_neg (not_or.mpr ⟨e, e2⟩), if_neg (not_or.mpr ⟨e, e2⟩), Int32.add_zero, Int32.add_zero]
  · intro f y
    show m_X7_account_55 I _ _ _ _ _ _ _ = _
    unfold m_X7_account_55 m_X7_account_140
    rw [hT.2.2.1, h0.1, if_pos (by first | exact pl_inl (by omega) (by omega) | exact (pl_le (by omega) (by omega)).mpr (by omega) | exact mt (pl_le (by omega) (by omega)).mp (by omega) | exact (pl_lt (by omega) (by omega)).mpr (by omega) | exact mt (pl_lt (by omega) (by omega)).mp (by omega) | exact (pl_eq (by omega) (by omega)).mpr (by omega) | exact mt (pl_eq (by omega) (by omega)).mp (by omega) | exact (pl_neg1 (by omega)).mp | exact (pl_neg1' (by omega)).mp | assumption | omega | rfl | decide)]
    by_cases e : w = 0
    · rw [if_pos e, if_pos e]
    · rw [if_neg e, if_neg e]
      by_cases e2 : w = 1
      · rw [if_pos e2, if_pos e2]
      · rw [if_neg e2, if_neg e2]
  · rw [hf]; rfl
end QA1
