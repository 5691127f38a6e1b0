section QA4
variable {I : po_I} {M s t p k : Nat} {N : po_N}
/-- a small natural number -/
def psm (x : Int32) (m : Nat) : Prop := ∃ a, a < m ∧ x = Int32.ofNat a
theorem psm_le {x : Int32} {a b : Nat} (h : psm x a) (hab : a ≤ b) : psm x b := by
  obtain ⟨c, h1, h2⟩ := h
  exact ⟨c, by omega, h2⟩
theorem psm_pv {j lo hi m : Nat} (h : pv_c N j lo hi) (hm : hi < m) : psm (N j) m := ⟨pv N j, by have := h.2.2; omega, h.1⟩
theorem psm_up {x y : Int32} {a b : Nat} (hx : psm x a) (hy : psm y b) (hy0 : 0 < y) (h : a + b < 2147483648) : psm (pup x y) a := by
  obtain ⟨u, u1, u2⟩ := hx
  obtain ⟨v, v1, v2⟩ := hy
  have v0 : 0 < v := by
    rw [v2] at hy0
    exact (pl_lt (a := 0) (by omega) (by omega)).mp hy0
  subst u2 v2
  refine ⟨(u + v - 1) / v, ?_, ?_⟩
  · have : (u + v - 1) / v < u + 1 := by
      rw [Nat.div_lt_iff_lt_mul v0]
      have h2 : u * 1 ≤ u * v := Nat.mul_le_mul_left u v0
      rw [Nat.succ_mul]
      omega
    omega
  · unfold pup
    rw [pl_add, pk_1, pl_sub (by omega), pl_div (by omega) (by omega)]
theorem psm_mul {x y : Int32} {a b : Nat} (hx : psm x a) (hy : psm y b) : psm (x * y) (a * b + 1) := by
  obtain ⟨u, u1, u2⟩ := hx
  obtain ⟨v, v1, v2⟩ := hy
  subst u2 v2
  refine ⟨u * v, ?_, pl_mul u v⟩
  have := Nat.mul_le_mul (Nat.le_of_lt u1) (Nat.le_of_lt v1)
  omega
theorem psm_add {x y : Int32} {a b : Nat} (hx : psm x a) (hy : psm y b) : psm (x + y) (a + b) := by
  obtain ⟨u, u1, u2⟩ := hx
  obtain ⟨v, v1, v2⟩ := hy
  subst u2 v2
  exact ⟨u + v, by omega, pl_add u v⟩
theorem psm_pz {g : Nat → Int32} {m : Nat} : ∀ {n : Nat}, (∀ k, k < n → psm (g k) m) → psm (pz g n) (n * m + 1)
  | 0, _ => ⟨0, by omega, rfl⟩
  | n + 1, h => by
    have h1 := psm_pz (g := g) (m := m) (n := n) (fun k hk => h k (by omega))
    have h2 := psm_add h1 (h n (by omega))
    refine psm_le h2 ?_
    rw [Nat.succ_mul]
    omega
theorem psm_n (S : Int32 → Int32 → Bool) : psm (Int32.ofNat (ps_n S)) 281 := ⟨_, by have := ps_nle S; omega, rfl⟩
theorem psm_fa (hV : pV N) (hk : k < pv N 2) : psm (ps_fa N k) 3000 := psm_le (psm_mul (psm_n _) (psm_pv (hV.per hk).2.2.2.2.1 (m := 10) (by omega))) (by omega)
theorem psm_fas (hV : pV N) (lot ex : Int32) : psm (ps_fas N lot ex) 40000 := by
  have h0 := hV.2.2.1.2.2
  refine psm_le (psm_pz (m := 3000) fun k hk => ?_) (by omega)
  unfold ps_fl
  split
  · exact psm_fa hV hk
  · exact ⟨0, by omega, rfl⟩
theorem pfold_le0 {g : Nat → Nat → Nat} {m : Nat} (h : ∀ k s, s ≤ m → g k s ≤ m) (n : Nat) : ∀ s, s ≤ m → pfold g n s ≤ m := pfold_le h n
theorem psm_m (B : Int32 → Int32 → Bool) (g : Int32 → Int32 → Nat) : psm (Int32.ofNat (ps_m B g)) 101 := by
  refine ⟨_, ?_, rfl⟩
  have h : ps_m B g ≤ 100 := pfold_le (fun k s hs => by split <;> (try split) <;> omega) 280 100 (by omega)
  omega
theorem ps_bd (hV : pV N) (hp : p < pv N 2) (hk : k < 9) : psm (ps_me N p k) 1000000 ∧ psm (ps_li N p k) 1000000 := by
  have hP := hV.per hp
  have hL := hV.2.2.2.2.2.1 _ hP.2.1
  have hz := hL.1.2.2
  have hr := hV.2.2.2.2.1 (pv N (32 + 16 * ps_lo N p)) (show pv N (32 + 16 * pv N (160 + 46 * p)) < 4 by omega)
  have hc := ps_lc_pos hV hp
  have hc2 : psm (ps_lc N p) 281 := psm_n _
  have hfa := psm_fa hV hp
  constructor
  · unfold ps_me
    rcases (by omega : k = 0 ∨ k = 1 ∨ k = 2 ∨ k = 3 ∨ k = 4 ∨ k = 5 ∨ k = 6 ∨ k = 7 ∨ k = 8) with h | h | h | h | h | h | h | h | h <;> subst h
    · exact psm_le (psm_n _) (by omega)
    · exact psm_le (psm_n _) (by omega)
    · exact psm_le (psm_m _ _) (by omega)
    · exact psm_le (psm_m _ _) (by omega)
    · exact psm_le (psm_up (psm_mul ⟨100, Nat.lt_succ_self 100, rfl⟩ (psm_n _)) hc2 hc (by omega)) (by omega)
    · exact psm_pv hP.2.2.2.2.1 (by omega)
    · exact psm_le (psm_up (psm_mul ⟨10, Nat.lt_succ_self 10, rfl⟩ (psm_add hfa (psm_fas hV _ _))) hc2 hc (by omega)) (by omega)
    · exact psm_pv hP.2.2.1 (by omega)
    · exact psm_pv hP.2.2.2.2.2.1 (by omega)
  · unfold ps_li ps_rule
    rcases (by omega : k = 0 ∨ k = 1 ∨ k = 2 ∨ k = 3 ∨ k = 4 ∨ k = 5 ∨ k = 6 ∨ k = 7 ∨ k = 8) with h | h | h | h | h | h | h | h | h <;> subst h
    · exact ⟨0, by omega, rfl⟩
    · exact ⟨0, by omega, rfl⟩
    · exact psm_pv hr.1 (by omega)
    · exact psm_pv hr.2.1 (by omega)
    · exact psm_pv hr.2.2.1 (by omega)
    · exact psm_pv hr.2.2.2.1 (by omega)
    · exact psm_pv hr.2.2.2.2.1 (by omega)
    · exact psm_pv hr.2.2.2.2.2.1 (by omega)
    · exact psm_le (psm_up (psm_mul (psm_pv hr.2.2.2.2.2.2 (m := 10) (by omega)) hfa) ⟨10, Nat.lt_succ_self 10, rfl⟩ (by decide) (by omega)) (by omega)
theorem pl_subneg {a b : Nat} (h : a ≤ b) : Int32.ofNat a - Int32.ofNat b = -Int32.ofNat (b - a) := by
  rw [← Int32.neg_sub, pl_sub h]
theorem pl_negint {c : Nat} (hc : c < 2147483648) : (-Int32.ofNat c).toInt = -(c : Int) := by
  rw [Int32.toInt_neg, Int32.toInt_ofNat_of_lt hc]
  exact Int.bmod_eq_of_le (by omega) (by omega)
theorem pl_negle {c : Nat} (hc : c < 2147483648) : ¬ (0 : Int32) < -Int32.ofNat c := by
  rw [Int32.lt_iff_toInt_lt, pl_negint hc]
  show ¬ (0 : Int) < _
  omega
theorem pl_neglt {c : Nat} (hc : c < 2147483648) (h0 : 0 < c) : ¬ (0 : Int32) ≤ -Int32.ofNat c := by
  rw [Int32.le_iff_toInt_le, pl_negint hc]
  show ¬ (0 : Int) ≤ _
  omega
/-- the least amount that helps -/
def pnd (k m l : Nat) : Nat := if k = 7 then 1 else if k = 2 ∨ k = 3 ∨ k = 8 then l - m else m - l
theorem pk_ne {a b : Nat} (ha : a < 2147483648) (hb : b < 2147483648) (h : ¬ a = b) : ¬ Int32.ofNat a = Int32.ofNat b := mt (pl_eq ha hb).mp h
theorem pk_or (hk : k < 9) : (Int32.ofNat k = 2 ∨ Int32.ofNat k = 3 ∨ Int32.ofNat k = 8) ↔ (k = 2 ∨ k = 3 ∨ k = 8) := by
  constructor
  · rintro (h | h | h)
    · exact Or.inl ((pl_eq (b := 2) (by omega) (by omega)).mp h)
    · exact Or.inr (Or.inl ((pl_eq (b := 3) (by omega) (by omega)).mp h))
    · exact Or.inr (Or.inr ((pl_eq (b := 8) (by omega) (by omega)).mp h))
  · rintro (h | h | h) <;> subst h
    · exact Or.inl rfl
    · exact Or.inr (Or.inl rfl)
    · exact Or.inr (Or.inr rfl)
theorem pw_nat {m l : Nat} (hk : k < 9) (h7 : ¬ k = 7) (hm : m < 1000000) (hl : l < 2000000) : pw (Int32.ofNat k) (Int32.ofNat m) (Int32.ofNat l) = if k = 2 ∨ k = 3 ∨ k = 8 then decide (m < l) else decide (l < m) := by
  unfold pw
  rw [if_neg (show ¬ Int32.ofNat k = 7 from pk_ne (b := 7) (by omega) (by omega) h7)]
  by_cases h : k = 2 ∨ k = 3 ∨ k = 8
  · rw [if_pos ((pk_or hk).mpr h), if_pos h]
    exact decide_eq_decide.mpr (pl_lt (by omega) (by omega))
  · rw [if_neg (mt (pk_or hk).mp h), if_neg h]
    exact decide_eq_decide.mpr (pl_lt (by omega) (by omega))
theorem ph_nat {m l a : Nat} (hk : 2 ≤ k) (hk9 : k < 9) (hm : m < 1000000) (hl : l < 1000000) (ha : 1 ≤ a ∧ a < 1000) : ph (Int32.ofNat k) (Int32.ofNat m) (Int32.ofNat l) (Int32.ofNat a) = decide (pnd k m l ≤ a) := by
  unfold ph pnd
  by_cases h7 : k = 7
  · subst h7
    rw [decide_eq_true (show Int32.ofNat 7 = 7 from rfl), if_pos rfl, decide_eq_true (show 1 ≤ a from ha.1)]; rfl
  · rw [decide_eq_false (show ¬ Int32.ofNat k = 7 from pk_ne (b := 7) (by omega) (by omega) h7), if_neg h7, decide_eq_true (show (1 : Int32) < Int32.ofNat k from (pl_lt (a := 1) (by omega) (by omega)).mpr (by omega)), Bool.false_or, Bool.true_and]
    unfold pha
    by_cases h : k = 2 ∨ k = 3 ∨ k = 8
    · rw [if_pos ((pk_or hk9).mpr h), if_pos h]
      have e : (if 0 < Int32.ofNat l - Int32.ofNat a then Int32.ofNat l - Int32.ofNat a else 0) = Int32.ofNat (l - a) := by
        by_cases h2 : a ≤ l
        · rw [pl_sub h2]
          by_cases h3 : l - a = 0
          · rw [h3]; rfl
          · rw [if_pos (show (0 : Int32) < Int32.ofNat (l - a) from (pl_lt (a := 0) (by omega) (by omega)).mpr (by omega))]
        · rw [show l - a = 0 by omega]
          have h4 : ¬ (0 : Int32) < Int32.ofNat l - Int32.ofNat a := by
            rw [pl_subneg (by omega)]
            exact pl_negle (by omega)
          rw [if_neg h4]; rfl
      rw [e, pw_nat hk9 h7 hm (by omega), if_pos h, ← decide_not]
      exact decide_eq_decide.mpr (by omega)
    · rw [if_neg (mt (pk_or hk9).mp h), if_neg h, pl_add, pw_nat hk9 h7 hm (by omega), if_neg h, ← decide_not]
      exact decide_eq_decide.mpr (by omega)
def ps_nd (N : po_N) (p k : Nat) : Int32 := if ps_pw N p k = true then (if pnd k (ps_me N p k).toNatClampNeg (ps_li N p k).toNatClampNeg ≤ 99 then Int32.ofNat (pnd k (ps_me N p k).toNatClampNeg (ps_li N p k).toNatClampNeg) else -1) else 0
theorem q_needed70 {m l : Nat} (hk : 2 ≤ k) (hk9 : k < 9) (hm : m < 1000000) (hl : l < 1000000) (hd : 1 ≤ pnd k m l) : m_X8_needed_70L 5000 I (Int32.ofNat k) (Int32.ofNat m) (Int32.ofNat l) (Int32.ofNat 1) = some (if pnd k m l ≤ 99 then Int32.ofNat (pnd k m l) else -1, I) := by
  refine po_inv (L := fun f (_ : Unit) a => m_X8_needed_70L f I (Int32.ofNat k) (Int32.ofNat m) (Int32.ofNat l) (Int32.ofNat a)) (n := 100) (fun a _ => 1 ≤ a ∧ a ≤ pnd k m l) (fun x => x = some (if pnd k m l ≤ 99 then Int32.ofNat (pnd k m l) else -1, I)) ?_ ?_ 99 5000 () 1 (by omega) (by omega) ⟨by omega, hd⟩
  · intro f _ a ha h
    have e : m_X8_needed_70L (f + 1) I (Int32.ofNat k) (Int32.ofNat m) (Int32.ofNat l) (Int32.ofNat a) = if pnd k m l ≤ a then some (Int32.ofNat a, I) else m_X8_needed_70L f I (Int32.ofNat k) (Int32.ofNat m) (Int32.ofNat l) (Int32.ofNat (a + 1)) := by
      show m_X8_needed_70 _ _ _ _ _ _ = _
      unfold m_X8_needed_70 m_X8_needed_95 m_X8_needed_108
      rw [if_neg (show ¬ (100 : Int32) ≤ Int32.ofNat a from mt (pl_le (a := 100) (by omega) (by omega)).mp (by omega)), q_helps, Option.bind_some, ph_nat hk hk9 hm hl ⟨h.1, by omega⟩, if_neg (show ¬ Int32.ofNat a = 100 from pk_ne (b := 100) (by omega) (by omega) (by omega)), show Int32.ofNat a + 1 = Int32.ofNat (a + 1) from pl_add a 1]
      by_cases h2 : pnd k m l ≤ a
      · rw [decide_eq_true h2, if_pos h2]; rfl
      · rw [decide_eq_false h2, if_neg h2]; rfl
    show (∃ s' : Unit, _ ∧ m_X8_needed_70L (f + 1) I _ _ _ (Int32.ofNat a) = _) ∨ m_X8_needed_70L (f + 1) I _ _ _ (Int32.ofNat a) = _
    rw [e]
    by_cases h2 : pnd k m l ≤ a
    · right
      have h3 : pnd k m l = a := by omega
      rw [if_pos h2, if_pos (by omega), h3]
    · left
      exact ⟨(), ⟨by omega, by omega⟩, if_neg h2⟩
  · intro f _ h
    show m_X8_needed_70 _ _ _ _ _ _ = _
    unfold m_X8_needed_70 m_X8_needed_95 m_X8_needed_108
    rw [if_neg (show ¬ pnd k m l ≤ 99 by omega)]
    rfl
theorem pnd_pos (hV : pV N) (hp : p < pv N 2) (hk : 2 ≤ k) (hk9 : k < 9) (hw : ps_pw N p k = true) : 1 ≤ pnd k (ps_me N p k).toNatClampNeg (ps_li N p k).toNatClampNeg := by
  obtain ⟨⟨m, m1, m2⟩, ⟨l, l1, l2⟩⟩ := ps_bd hV hp hk9
  unfold ps_pw at hw
  rw [m2, l2] at hw ⊢
  rw [pl_clamp (by omega), pl_clamp (by omega)]
  unfold pnd
  by_cases h7 : k = 7
  · rw [if_pos h7]; omega
  · rw [if_neg h7]
    rw [pw_nat hk9 h7 m1 (by omega)] at hw
    by_cases h : k = 2 ∨ k = 3 ∨ k = 8
    · rw [if_pos h] at hw ⊢
      have := of_decide_eq_true hw
      omega
    · rw [if_neg h] at hw ⊢
      have := of_decide_eq_true hw
      omega
theorem q_neededT (hV : pV (I (M + 1))) (hp : p < pv (I (M + 1)) 2) (hk : 2 ≤ k) (hk9 : k < 9) : (Option.bind (m_X8_measure I M (Int32.ofNat p) (Int32.ofNat k)) fun x3 => Option.bind (m_X8_limit I M (Int32.ofNat p) (Int32.ofNat k)) fun x4 => Option.bind (m_X8_isWrong (Int32.ofNat k) x3 x4) fun x5 => if (x5 : Int32) = 0 then (some ((0, I))) else (m_X8_needed_70L 5000 I (Int32.ofNat k) x3 x4 1)) = some (ps_nd (I (M + 1)) p k, I) := by
  rw [q_measure hV hp hk9, Option.bind_some, q_limit hV hp hk9, Option.bind_some, q_isWrong, Option.bind_some]
  unfold ps_nd
  have hpos := pnd_pos hV hp hk hk9
  unfold ps_pw at *
  cases hw : pw (Int32.ofNat k) (ps_me (I (M + 1)) p k) (ps_li (I (M + 1)) p k) with
  | false => rw [if_pos pb_f, if_neg (by decide)]
  | true =>
    have h1 := hpos hw
    rw [if_neg (show ¬ pb true = 0 by decide), if_pos rfl]
    obtain ⟨⟨m, m1, m2⟩, ⟨l, l1, l2⟩⟩ := ps_bd hV hp hk9
    rw [m2, l2] at h1 ⊢
    rw [pl_clamp (by omega), pl_clamp (by omega)] at h1 ⊢
    exact q_needed70 hk hk9 m1 l1 h1
theorem x_needed (hV : pV N) (hT : pTR I t N) (hs : s + 4 < t) (hp : p < pv N 2) (hk : 2 ≤ k) (hk9 : k < 9) : ∃ I', m_X4_neededAmount I s t (t + (29 + 5 * p)) (Int32.ofNat k) = some (ps_nd N p k, I') ∧ psv I I' s := by
  obtain ⟨I1, a1, a2⟩ := x_measureOf hV hT hs hp hk9
  refine ⟨I1, ?_, a2⟩
  unfold m_X4_neededAmount m_X4_neededAmount_e m_X4_neededAmount_49 m_X4_neededAmount_64
  rw [a1, Option.bind_some]
  dsimp only [po_let]
  have h7 : k = 7 → ∃ u, u < 32 ∧ ps_me N p k = Int32.ofNat u := by
    rintro rfl
    have := (hV.per hp).2.2.1
    exact ⟨_, by have := this.2.2; omega, this.1⟩
  rw [x_limitOf hV (a2.town hV hT hs) hp hk9, Option.bind_some, x_isFinding hk9 h7, Option.bind_some]
  unfold ps_nd
  have hpos := pnd_pos hV hp hk hk9
  unfold ps_pw at *
  cases hw : pw (Int32.ofNat k) (ps_me N p k) (ps_li N p k) with
  | false => rw [if_pos pb_f, if_neg (by decide)]
  | true =>
    have h1 := hpos hw
    rw [if_neg (show ¬ pb true = 0 by decide), if_pos rfl]
    by_cases e7 : k = 7
    · subst e7; rfl
    · rw [if_neg (show ¬ Int32.ofNat k = 7 from pk_ne (b := 7) (by omega) (by omega) e7)]
      obtain ⟨⟨m, m1, m2⟩, ⟨l, l1, l2⟩⟩ := ps_bd hV hp hk9
      rw [m2, l2] at h1 hw ⊢
      rw [pl_clamp (by omega), pl_clamp (by omega)] at h1 ⊢
      rw [pw_nat hk9 e7 m1 (by omega)] at hw
      have e : (if 0 ≤ Int32.ofNat m - Int32.ofNat l then Int32.ofNat m - Int32.ofNat l else 0 - (Int32.ofNat m - Int32.ofNat l)) = Int32.ofNat (pnd k m l) := by
        unfold pnd
        rw [if_neg e7]
        by_cases h : k = 2 ∨ k = 3 ∨ k = 8
        · rw [if_pos h] at hw ⊢
          have h2 := of_decide_eq_true hw
          have e2 : Int32.ofNat m - Int32.ofNat l = -Int32.ofNat (l - m) := pl_subneg (by omega)
          have h4 : ¬ (0 : Int32) ≤ Int32.ofNat m - Int32.ofNat l := by
            rw [e2]
            exact pl_neglt (by omega) (by omega)
          rw [if_neg h4, e2, Int32.zero_sub, Int32.neg_neg]
        · rw [if_neg h] at hw ⊢
          have h2 := of_decide_eq_true hw
          rw [pl_sub (by omega), if_pos (pl_nonneg (by omega))]
      rw [e]
      by_cases h9 : pnd k m l ≤ 99
      · rw [if_neg (show ¬ (99 : Int32) < Int32.ofNat (pnd k m l) from mt (pl_lt (a := 99) (by omega) (by omega)).mp (by omega)), if_pos h9]
      · have hb : pnd k m l < 1000000 := by
          unfold pnd
          split
          · omega
          · split <;> omega
        rw [if_pos (show (99 : Int32) < Int32.ofNat (pnd k m l) from (pl_lt (a := 99) (by omega) (by omega)).mpr (by omega)), if_neg h9]
end QA4
