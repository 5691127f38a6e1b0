section QC9
variable {I J : po_I} {R : po_R} {o M n t k b P z u a1 j1 a2 : Nat} {N N' : po_N} {st : Nat → Nat} {x s : Int32}
/-- a byte of an int -/
def pby (x s : Int32) : Int32 := ((Int32.toUInt32 x >>> (Int32.toUInt32 s &&& Int32.toUInt32 31)).toInt32) &&& 255
def pbn (x s : Int32) : Nat := un (pby x s)
theorem pby_lt (x s : Int32) : pbn x s < 256 := by
  unfold pbn pby
  rw [un_and, show un (255 : Int32) = 2 ^ 8 - 1 from by decide, Nat.and_two_pow_sub_one_eq_mod]
  exact Nat.mod_lt _ (by omega)
theorem pby_eq (x s : Int32) : pby x s = Int32.ofNat (pbn x s) := by
  apply un_inj
  rw [un_ofNat (by have := pby_lt x s; omega)]
  rfl
def pbad (c : Nat) : Bool := decide (c ≠ 0) && (decide (c < 33) || decide (126 < c))
def pc1 (c : Nat) : Nat := if c = 0 then 0 else 1
theorem x_ap5 {f cnt : Nat} (hs : ¬ s < 0) : m_X7_append_5L (f + 1) I o x (Int32.ofNat cnt) s = if pbad (pbn x s) = true then some (.inr sIA, I) else m_X7_append_5L f I o x (Int32.ofNat (cnt + pc1 (pbn x s))) (s + -8) := by
  have hc := pby_lt x s
  have he : ((Int32.toUInt32 x >>> (Int32.toUInt32 s &&& Int32.toUInt32 31)).toInt32) &&& 255 = Int32.ofNat (pbn x s) := pby_eq x s
  show m_X7_append_5 _ _ _ _ _ _ = _
  unfold m_X7_append_5 m_X7_append_47 m_X7_append_55 m_X7_append_37 pbad pc1
  rw [if_neg hs, po_letE, he]
  generalize pbn x s = c at *
  by_cases h0 : c = 0
  · subst h0
    rw [if_pos (show Int32.ofNat 0 = 0 from rfl), if_pos (show Int32.ofNat 0 = 0 from rfl)]
    rfl
  · rw [if_neg (show ¬ Int32.ofNat c = 0 from pk_ne (b := 0) (by omega) (by omega) h0), if_neg (show ¬ Int32.ofNat c = 0 from pk_ne (b := 0) (by omega) (by omega) h0), decide_eq_true h0, Bool.true_and, if_neg h0]
    by_cases h1 : c < 33
    · rw [if_pos (show Int32.ofNat c < 33 from (pl_lt (b := 33) (by omega) (by omega)).mpr h1), decide_eq_true h1]; rfl
    · rw [if_neg (show ¬ Int32.ofNat c < 33 from mt (pl_lt (b := 33) (by omega) (by omega)).mp h1), decide_eq_false h1, Bool.false_or]
      by_cases h2 : 126 < c
      · rw [if_neg (show ¬ Int32.ofNat c ≤ 126 from mt (pl_le (b := 126) (by omega) (by omega)).mp (by omega)), decide_eq_true h2]; rfl
      · rw [if_pos (show Int32.ofNat c ≤ 126 from (pl_le (b := 126) (by omega) (by omega)).mpr (by omega)), decide_eq_false h2, if_neg (show ¬ false = true by decide), show Int32.ofNat cnt + 1 = Int32.ofNat (cnt + 1) from pl_add cnt 1]
theorem q_ap10 {f cnt : Nat} (hs : ¬ s < 0) : m_X8_append_10L (f + 1) I M x (Int32.ofNat cnt) s = m_X8_append_10L f (if pbad (pbn x s) = true then po_u I M 0 1 else I) M x (Int32.ofNat (cnt + pc1 (pbn x s))) (s + -8) := by
  have hc := pby_lt x s
  have he : ((Int32.toUInt32 x >>> (Int32.toUInt32 s &&& Int32.toUInt32 31)).toInt32) &&& 255 = Int32.ofNat (pbn x s) := pby_eq x s
  show m_X8_append_10 _ _ _ _ _ _ = _
  unfold m_X8_append_10 m_X8_append_45 m_X8_append_49 m_X8_append_63 pbad pc1
  rw [if_neg hs, po_letE, he]
  generalize pbn x s = c at *
  by_cases h0 : c = 0
  · subst h0
    rw [if_pos (show Int32.ofNat 0 = 0 from rfl), po_hletE, if_pos (show Int32.ofNat 0 = 0 from rfl), po_letE, po_u_self, show Int32.ofNat cnt + 0 = Int32.ofNat (cnt + 0) from pl_add cnt 0]
    rfl
  · rw [if_neg (show ¬ Int32.ofNat c = 0 from pk_ne (b := 0) (by omega) (by omega) h0), decide_eq_true h0, Bool.true_and, if_neg h0, q_isIn, Option.bind_some, po_hletE, po_hletE, if_neg (show ¬ Int32.ofNat c = 0 from pk_ne (b := 0) (by omega) (by omega) h0), if_neg (show ¬ Int32.ofNat c = 0 from pk_ne (b := 0) (by omega) (by omega) h0), po_letE, po_letE, po_u_self, show Int32.ofNat cnt + 1 = Int32.ofNat (cnt + 1) from pl_add cnt 1]
    by_cases h1 : 33 ≤ c ∧ c ≤ 126
    · rw [decide_eq_true (show (33 : Int32) ≤ Int32.ofNat c ∧ Int32.ofNat c ≤ 126 from ⟨(pl_le (a := 33) (by omega) (by omega)).mpr h1.1, (pl_le (b := 126) (by omega) (by omega)).mpr h1.2⟩), decide_eq_false (show ¬ c < 33 by omega), decide_eq_false (show ¬ 126 < c by omega)]
      rfl
    · rw [decide_eq_false (show ¬ ((33 : Int32) ≤ Int32.ofNat c ∧ Int32.ofNat c ≤ 126) from fun h => h1 ⟨(pl_le (a := 33) (by omega) (by omega)).mp h.1, (pl_le (b := 126) (by omega) (by omega)).mp h.2⟩)]
      have e : (decide (c < 33) || decide (126 < c)) = true := by
        rw [Bool.or_eq_true, decide_eq_true_iff, decide_eq_true_iff]; omega
      rw [e]
      rfl
/-- a text: how long, which characters -/
def pTx (I : po_I) (a1 j1 a2 : Nat) (w : Nat × (Nat → Nat)) : Prop := I a1 j1 = Int32.ofNat w.1 ∧ ∀ j, j < w.1 → I a2 j = Int32.ofNat (w.2 j)
def pTs (c : Nat) (w : Nat × (Nat → Nat)) : Nat × (Nat → Nat) := if c = 0 then w else (w.1 + 1, fun j => if j = w.1 then c else w.2 j)
theorem pTs_1 (c : Nat) (w : Nat × (Nat → Nat)) : (pTs c w).1 = w.1 + pc1 c := by
  unfold pTs pc1
  split <;> rfl
theorem pTx_add {w : Nat × (Nat → Nat)} {c : Nat} (h : pTx I a1 j1 a2 w) (hc : ¬ c = 0) (ha : a1 ≠ a2) : pTx (po_u (po_u I a2 w.1 (Int32.ofNat c)) a1 j1 (Int32.ofNat (w.1 + 1))) a1 j1 a2 (pTs c w) := by
  unfold pTs
  rw [if_neg hc]
  refine ⟨po_uaa _ _ _ _, fun j hj => ?_⟩
  rw [po_u_ne (by omega), po_uu]
  dsimp only at hj ⊢
  by_cases e : j = w.1
  · rw [if_pos ⟨rfl, e⟩, if_pos e]
  · rw [if_neg (by omega), if_neg e]; exact h.2 j (by omega)
theorem x_ap88 {f : Nat} {w : Nat × (Nat → Nat)} (hs : ¬ s < 0) (h : pTx I (o + 1) 1 (o + 2) w) (hw : w.1 + pc1 (pbn x s) ≤ 60) : ∃ J, m_X7_append_88L (f + 1) I o x s = m_X7_append_88L f J o x (s + -8) ∧ (∀ q, q ≠ o + 1 → q ≠ o + 2 → J q = I q) ∧ (∀ j, j ≠ 1 → J (o + 1) j = I (o + 1) j) ∧ pTx J (o + 1) 1 (o + 2) (pTs (pbn x s) w) := by
  have hc := pby_lt x s
  have he : ((Int32.toUInt32 x >>> (Int32.toUInt32 s &&& Int32.toUInt32 31)).toInt32) &&& 255 = Int32.ofNat (pbn x s) := pby_eq x s
  show ∃ J, m_X7_append_88 _ _ _ _ _ = _ ∧ _
  unfold m_X7_append_88 m_X7_append_116
  rw [if_neg hs, po_letE, he]
  generalize pbn x s = c at *
  by_cases h0 : c = 0
  · subst h0
    exact ⟨I, by rw [if_pos (show Int32.ofNat 0 = 0 from rfl)], fun _ _ _ => rfl, fun _ _ => rfl, h⟩
  · have h1 : pc1 c = 1 := if_neg h0
    have hch : (Int32.toUInt32 (Int32.ofNat c) % 65536).toInt32 = Int32.ofNat c := by
      have key : ∀ c, c < 256 → (Int32.toUInt32 (Int32.ofNat c) % 65536).toInt32 = Int32.ofNat c := by decide +kernel
      exact key c hc
    refine ⟨po_u (po_u I (o + 2) w.1 (Int32.ofNat c)) (o + 1) 1 (Int32.ofNat (w.1 + 1)), ?_, fun q q1 q2 => by rw [po_u_ne q1, po_u_ne q2], fun j hj => by rw [po_uu, if_neg (by omega), po_u_ne (by omega)], pTx_add h h0 (by omega)⟩
    rw [if_neg (show ¬ Int32.ofNat c = 0 from pk_ne (b := 0) (by omega) (by omega) h0), hch]
    unfold m_X3_addCharacter m_X3_addCharacter_e m_X3_addCharacter_36
    rw [h.1, if_neg (mt (pl_not0 (by omega)).mp id), if_neg (show ¬ (60 : Int32) ≤ Int32.ofNat w.1 from mt (pl_le (a := 60) (by omega) (by omega)).mp (by omega)), if_pos (show po_in (Int32.ofNat w.1) 60 = true from pl_inl (by omega) (by omega)), pl_clamp (by omega), po_hletE, po_hletE, Option.bind_some, show (po_u I (o + 1 + 1) w.1 (Int32.ofNat c)) (o + 1) 1 = Int32.ofNat w.1 by rw [po_u_ne (by omega)]; exact h.1, show Int32.ofNat w.1 + 1 = Int32.ofNat (w.1 + 1) from pl_add w.1 1]
theorem q_ap100 {f : Nat} {w : Nat × (Nat → Nat)} (hs : ¬ s < 0) (h : pTx I M 12 (M + 5) w) (hw : w.1 + pc1 (pbn x s) ≤ 60) : ∃ J, m_X8_append_100L (f + 1) I M x s = m_X8_append_100L f J M x (s + -8) ∧ (∀ q, q ≠ M → q ≠ M + 5 → J q = I q) ∧ (∀ j, j ≠ 12 → J M j = I M j) ∧ pTx J M 12 (M + 5) (pTs (pbn x s) w) := by
  have hc := pby_lt x s
  have he : ((Int32.toUInt32 x >>> (Int32.toUInt32 s &&& Int32.toUInt32 31)).toInt32) &&& 255 = Int32.ofNat (pbn x s) := pby_eq x s
  show ∃ J, m_X8_append_100 _ _ _ _ _ = _ ∧ _
  unfold m_X8_append_100 m_X8_append_139
  rw [if_neg hs, po_letE, he]
  generalize pbn x s = c at *
  by_cases h0 : c = 0
  · subst h0
    exact ⟨I, by rw [if_pos (show Int32.ofNat 0 = 0 from rfl)], fun _ _ _ => rfl, fun _ _ => rfl, h⟩
  · have h1 : pc1 c = 1 := if_neg h0
    refine ⟨po_u (po_u I (M + 5) w.1 (Int32.ofNat c)) M 12 (Int32.ofNat (w.1 + 1)), ?_, fun q q1 q2 => by rw [po_u_ne q1, po_u_ne q2], fun j hj => by rw [po_uu, if_neg (by omega), po_u_ne (by omega)], pTx_add h h0 (by omega)⟩
    rw [if_neg (show ¬ Int32.ofNat c = 0 from pk_ne (b := 0) (by omega) (by omega) h0), h.1, if_pos (show po_in (Int32.ofNat w.1) 60 = true from pl_inl (by omega) (by omega)), pl_clamp (by omega), po_hletE, po_hletE, show (po_u I (M + 5) w.1 (Int32.ofNat c)) M 12 = Int32.ofNat w.1 by rw [po_u_ne (by omega)]; exact h.1, show Int32.ofNat w.1 + 1 = Int32.ofNat (w.1 + 1) from pl_add w.1 1]
theorem pTs_ch {c : Nat} {w : Nat × (Nat → Nat)} (hb : pbad c = false) (h : ∀ j, j < w.1 → 33 ≤ w.2 j ∧ w.2 j ≤ 126) : ∀ j, j < (pTs c w).1 → 33 ≤ (pTs c w).2 j ∧ (pTs c w).2 j ≤ 126 := by
  unfold pTs
  by_cases e : c = 0
  · rw [if_pos e]; exact h
  · rw [if_neg e]
    intro j hj
    dsimp only at hj ⊢
    by_cases ej : j = w.1
    · rw [if_pos ej]
      unfold pbad at hb
      rw [decide_eq_true e, Bool.true_and, Bool.or_eq_false_iff, decide_eq_false_iff_not, decide_eq_false_iff_not] at hb
      omega
    · rw [if_neg ej]; exact h j (by omega)
def pw4 (x : Int32) (w : Nat × (Nat → Nat)) : Nat × (Nat → Nat) := pTs (pbn x 0) (pTs (pbn x 8) (pTs (pbn x 16) (pTs (pbn x 24) w)))
def pn4 (x : Int32) : Nat := pc1 (pbn x 24) + pc1 (pbn x 16) + pc1 (pbn x 8) + pc1 (pbn x 0)
def pb4 (x : Int32) : Bool := pbad (pbn x 24) || pbad (pbn x 16) || pbad (pbn x 8) || pbad (pbn x 0)
theorem pw4_1 (x : Int32) (w : Nat × (Nat → Nat)) : (pw4 x w).1 = w.1 + pn4 x := by
  unfold pw4 pn4
  rw [pTs_1, pTs_1, pTs_1, pTs_1]
  omega
theorem ps8 : (24 : Int32) + -8 = 16 ∧ (16 : Int32) + -8 = 8 ∧ (8 : Int32) + -8 = 0 ∧ (0 : Int32) + -8 = -8 := by decide
theorem x_apC {w : Nat × (Nat → Nat)} (h : pTx I (o + 1) 1 (o + 2) w) (hw : w.1 ≤ 60) : m_X7_append I o x = if pb4 x = true then some (.inr sIA, I) else (if w.1 + pn4 x ≤ 60 then m_X7_append_88L 5000 I o x 24 else some (.inr sIS, I)) := by
  obtain ⟨s1, s2, s3, s4⟩ := ps8
  have hn : pn4 x ≤ 4 := by
    have k : ∀ c, pc1 c ≤ 1 := fun c => by unfold pc1; split <;> omega
    have := k (pbn x 24); have := k (pbn x 16); have := k (pbn x 8); have := k (pbn x 0)
    unfold pn4; omega
  show m_X7_append_5L (4995 + 1 + 1 + 1 + 1 + 1) I o x (Int32.ofNat 0) 24 = _
  rw [x_ap5 (by decide), s1, x_ap5 (by decide), s2, x_ap5 (by decide), s3, x_ap5 (by decide), s4]
  have e : ∀ cnt, cnt = 0 + pc1 (pbn x 24) + pc1 (pbn x 16) + pc1 (pbn x 8) + pc1 (pbn x 0) → m_X7_append_5L (4995 + 1) I o x (Int32.ofNat cnt) (-8) = if w.1 + pn4 x ≤ 60 then m_X7_append_88L 5000 I o x 24 else some (.inr sIS, I) := by
    intro cnt hcnt
    have hc4 : cnt = pn4 x := by unfold pn4; omega
    show m_X7_append_5 _ _ _ _ _ _ = _
    unfold m_X7_append_5
    rw [if_pos (by decide), h.1, pl_add, hc4]
    by_cases e : w.1 + pn4 x ≤ 60
    · rw [if_pos (show Int32.ofNat (w.1 + pn4 x) ≤ 60 from (pl_le (b := 60) (by omega) (by omega)).mpr e), if_pos e]
    · rw [if_neg (show ¬ Int32.ofNat (w.1 + pn4 x) ≤ 60 from mt (pl_le (b := 60) (by omega) (by omega)).mp e), if_neg e]
  rw [e _ rfl]
  unfold pb4
  cases pbad (pbn x 24) <;> cases pbad (pbn x 16) <;> cases pbad (pbn x 8) <;> cases pbad (pbn x 0) <;> rfl
def pth (M : Nat) (b : Bool) (K : po_I) : po_I := if b = true then po_u K M 0 1 else K
theorem pth_ok {K : po_I} {B c : Bool} (h : pm_o I K M [0]) (h0 : K M 0 = pb B) : pm_o I (pth M c K) M [0] ∧ (pth M c K) M 0 = pb (B || c) := by
  unfold pth
  cases c with
  | false => rw [Bool.or_false]; exact ⟨h, h0⟩
  | true => rw [Bool.or_true]; exact ⟨h.u (by simp), po_uaa _ _ _ _⟩
theorem q_apC {w : Nat × (Nat → Nat)} (h : I M 12 = Int32.ofNat w.1) (hw : w.1 ≤ 60) : ∃ K, pm_o I K M [0] ∧ K M 0 = pb (pb4 x) ∧ m_X8_append I M x = if pb4 x = true then some (0, K) else (if w.1 + pn4 x ≤ 60 then m_X8_append_100L 5000 K M x 24 else some (0, po_u K M 0 2)) := by
  obtain ⟨s1, s2, s3, s4⟩ := ps8
  have hn : pn4 x ≤ 4 := by
    have k : ∀ c, pc1 c ≤ 1 := fun c => by unfold pc1; split <;> omega
    have := k (pbn x 24); have := k (pbn x 16); have := k (pbn x 8); have := k (pbn x 0)
    unfold pn4; omega
  have g0 : pm_o I (po_u I M 0 0) M [0] ∧ (po_u I M 0 0) M 0 = pb false := ⟨pm_o.rf.u (by simp), po_uaa _ _ _ _⟩
  have g1 := pth_ok (c := pbad (pbn x 24)) g0.1 g0.2
  have g2 := pth_ok (c := pbad (pbn x 16)) g1.1 g1.2
  have g3 := pth_ok (c := pbad (pbn x 8)) g2.1 g2.2
  have g4 := pth_ok (c := pbad (pbn x 0)) g3.1 g3.2
  rw [Bool.false_or] at g4
  refine ⟨_, g4.1, g4.2, ?_⟩
  have e : m_X8_append I M x = m_X8_append_10L (4995 + 1) (pth M (pbad (pbn x 0)) (pth M (pbad (pbn x 8)) (pth M (pbad (pbn x 16)) (pth M (pbad (pbn x 24)) (po_u I M 0 0))))) M x (Int32.ofNat (0 + pc1 (pbn x 24) + pc1 (pbn x 16) + pc1 (pbn x 8) + pc1 (pbn x 0))) (-8) := by
    show m_X8_append_10L (4995 + 1 + 1 + 1 + 1 + 1) (po_u I M 0 0) M x (Int32.ofNat 0) 24 = _
    rw [q_ap10 (by decide), s1, q_ap10 (by decide), s2, q_ap10 (by decide), s3, q_ap10 (by decide), s4]
    rfl
  rw [e, show 0 + pc1 (pbn x 24) + pc1 (pbn x 16) + pc1 (pbn x 8) + pc1 (pbn x 0) = pn4 x by unfold pn4; omega]
  have hb : (pbad (pbn x 24) || pbad (pbn x 16) || pbad (pbn x 8) || pbad (pbn x 0)) = pb4 x := rfl
  rw [hb] at g4
  generalize pth M (pbad (pbn x 0)) (pth M (pbad (pbn x 8)) (pth M (pbad (pbn x 16)) (pth M (pbad (pbn x 24)) (po_u I M 0 0)))) = K at *
  show m_X8_append_10 _ _ _ _ _ _ = _
  unfold m_X8_append_10
  rw [if_pos (by decide), g4.2, g4.1.2 12 (by simp), h, pl_add]
  cases pb4 x with
  | true => rw [if_neg (show ¬ pb true = 0 by decide), if_pos rfl]
  | false =>
    rw [if_pos pb_f, if_neg (show ¬ false = true by decide)]
    by_cases e : w.1 + pn4 x ≤ 60
    · rw [if_pos (show Int32.ofNat (w.1 + pn4 x) ≤ 60 from (pl_le (b := 60) (by omega) (by omega)).mpr e), if_pos e]
    · rw [if_neg (show ¬ Int32.ofNat (w.1 + pn4 x) ≤ 60 from mt (pl_le (b := 60) (by omega) (by omega)).mp e), if_neg e]
      rfl
theorem x_apW {w : Nat × (Nat → Nat)} (h : pTx I (o + 1) 1 (o + 2) w) (hw : w.1 + pn4 x ≤ 60) : ∃ J, m_X7_append_88L 5000 I o x 24 = some (.inl (Int32.ofNat (pw4 x w).1), J) ∧ (∀ q, q ≠ o + 1 → q ≠ o + 2 → J q = I q) ∧ (∀ j, j ≠ 1 → J (o + 1) j = I (o + 1) j) ∧ pTx J (o + 1) 1 (o + 2) (pw4 x w) := by
  obtain ⟨s1, s2, s3, s4⟩ := ps8
  unfold pn4 at hw
  obtain ⟨J1, b1, b2, b3, b4⟩ := x_ap88 (f := 4995 + 1 + 1 + 1 + 1) (x := x) (s := 24) (by decide) h (by omega)
  obtain ⟨J2, c1, c2, c3, c4⟩ := x_ap88 (f := 4995 + 1 + 1 + 1) (x := x) (s := 16) (by decide) b4 (by rw [pTs_1]; omega)
  obtain ⟨J3, d1, d2, d3, d4⟩ := x_ap88 (f := 4995 + 1 + 1) (x := x) (s := 8) (by decide) c4 (by rw [pTs_1, pTs_1]; omega)
  obtain ⟨J4, e1, e2, e3, e4⟩ := x_ap88 (f := 4995 + 1) (x := x) (s := 0) (by decide) d4 (by rw [pTs_1, pTs_1, pTs_1]; omega)
  rw [s1] at b1
  rw [s2] at c1
  rw [s3] at d1
  rw [s4] at e1
  refine ⟨J4, ?_, fun q q1 q2 => by rw [e2 q q1 q2, d2 q q1 q2, c2 q q1 q2, b2 q q1 q2], fun j hj => by rw [e3 j hj, d3 j hj, c3 j hj, b3 j hj], e4⟩
  have hend : m_X7_append_88L (4995 + 1) J4 o x (-8) = some (.inl (Int32.ofNat (pw4 x w).1), J4) := by
    show m_X7_append_88 _ _ _ _ _ = _
    unfold m_X7_append_88
    rw [if_pos (by decide), e4.1]
    rfl
  exact b1.trans (c1.trans (d1.trans (e1.trans hend)))
theorem q_apW {w : Nat × (Nat → Nat)} (h : pTx I M 12 (M + 5) w) (hw : w.1 + pn4 x ≤ 60) : ∃ J, m_X8_append_100L 5000 I M x 24 = some (Int32.ofNat (pw4 x w).1, J) ∧ (∀ q, q ≠ M → q ≠ M + 5 → J q = I q) ∧ (∀ j, j ≠ 12 → J M j = I M j) ∧ pTx J M 12 (M + 5) (pw4 x w) := by
  obtain ⟨s1, s2, s3, s4⟩ := ps8
  unfold pn4 at hw
  obtain ⟨J1, b1, b2, b3, b4⟩ := q_ap100 (f := 4995 + 1 + 1 + 1 + 1) (x := x) (s := 24) (by decide) h (by omega)
  obtain ⟨J2, c1, c2, c3, c4⟩ := q_ap100 (f := 4995 + 1 + 1 + 1) (x := x) (s := 16) (by decide) b4 (by rw [pTs_1]; omega)
  obtain ⟨J3, d1, d2, d3, d4⟩ := q_ap100 (f := 4995 + 1 + 1) (x := x) (s := 8) (by decide) c4 (by rw [pTs_1, pTs_1]; omega)
  obtain ⟨J4, e1, e2, e3, e4⟩ := q_ap100 (f := 4995 + 1) (x := x) (s := 0) (by decide) d4 (by rw [pTs_1, pTs_1, pTs_1]; omega)
  rw [s1] at b1
  rw [s2] at c1
  rw [s3] at d1
  rw [s4] at e1
  refine ⟨J4, ?_, fun q q1 q2 => by rw [e2 q q1 q2, d2 q q1 q2, c2 q q1 q2, b2 q q1 q2], fun j hj => by rw [e3 j hj, d3 j hj, c3 j hj, b3 j hj], e4⟩
  have hend : m_X8_append_100L (4995 + 1) J4 M x (-8) = some (Int32.ofNat (pw4 x w).1, J4) := by
    show m_X8_append_100 _ _ _ _ _ = _
    unfold m_X8_append_100
    rw [if_pos (by decide), e4.1]
    rfl
  exact b1.trans (c1.trans (d1.trans (e1.trans hend)))
theorem L_append (h : pInv I R o M st n) (x : Int32) : ∃ w I1 v I2, m_X7_append I o x = some (w, I1) ∧ m_X8_append I1 M x = some (v, I2) ∧ pAg sIA sIS w (I2 M 0) v ∧ pInv I2 R o M st (n + 1) := by
  have hcopy := h
  obtain ⟨⟨a1, a2, a3⟩, ⟨u, b1, b2, b3, b4, b5⟩, ⟨b, c1, c2, c3⟩, ⟨len, d1, d2, d3, d4, d5⟩, e1, hM, s1, s2⟩ := h
  obtain ⟨w, hw⟩ : ∃ w : Nat × (Nat → Nat), w = (len, fun j => (I (M + 5) j).toNatClampNeg) := ⟨_, rfl⟩
  have w1 : w.1 = len := by rw [hw]
  have wch : ∀ j, j < w.1 → (33 ≤ w.2 j ∧ w.2 j ≤ 126) ∧ I (o + 2) j = Int32.ofNat (w.2 j) ∧ I (M + 5) j = Int32.ofNat (w.2 j) := by
    intro j hj
    obtain ⟨c, g1, g2, g3, g4⟩ := d4 j (by omega)
    have e : w.2 j = c := by
      rw [hw]
      show (I (M + 5) j).toNatClampNeg = c
      rw [g4, pl_clamp (by omega)]
    rw [e]
    exact ⟨⟨g1, g2⟩, g3, g4⟩
  have hX : pTx I (o + 1) 1 (o + 2) w := ⟨by rw [w1]; exact d2, fun j hj => (wch j hj).2.1⟩
  have hY : pTx I M 12 (M + 5) w := ⟨by rw [w1]; exact d3, fun j hj => (wch j hj).2.2⟩
  rw [x_apC hX (by omega)]
  cases hb : pb4 x with
  | true =>
    rw [if_pos rfl]
    obtain ⟨K, k1, k2, k3⟩ := q_apC (x := x) hY.1 (by omega)
    rw [hb, if_pos rfl] at k3
    refine ⟨_, I, _, K, rfl, k3, Or.inl ⟨rfl, by rw [k2, hb]; rfl⟩, ((pScr_o ⟨k1.1, fun j hj => k1.2 j (by simp at hj ⊢; omega)⟩).inv hcopy).up⟩
  | false =>
    rw [if_neg (show ¬ false = true by decide)]
    by_cases hl : w.1 + pn4 x ≤ 60
    · rw [if_pos hl]
      obtain ⟨J, j1, j2, j3, j4⟩ := x_apW hX hl
      rw [j1]
      have JM : ∀ q, M ≤ q → J q = I q := fun q hq => j2 q (by omega) (by omega)
      obtain ⟨K, k1, k2, k3⟩ := q_apC (I := J) (x := x) (w := w) (by rw [JM M (by omega)]; exact hY.1) (by omega)
      rw [hb, if_neg (show ¬ false = true by decide), if_pos hl] at k3
      have hYK : pTx K M 12 (M + 5) w := ⟨by rw [k1.2 12 (by simp), JM M (by omega)]; exact hY.1, fun j hj => by rw [k1.1 _ (by omega), JM _ (by omega)]; exact hY.2 j hj⟩
      obtain ⟨L, l1, l2, l3, l4⟩ := q_apW (x := x) hYK hl
      have hch := pTs_ch (c := pbn x 0) (w := pTs (pbn x 8) (pTs (pbn x 16) (pTs (pbn x 24) w)))
      unfold pb4 at hb
      rw [Bool.or_eq_false_iff, Bool.or_eq_false_iff, Bool.or_eq_false_iff] at hb
      have hch4 := pTs_ch hb.2 (pTs_ch hb.1.2 (pTs_ch hb.1.1.2 (pTs_ch hb.1.1.1 (fun j hj => (wch j hj).1))))
      have fL : ∀ q, q ≠ o + 1 → q ≠ o + 2 → q ≠ M → q ≠ M + 5 → L q = I q := fun q q1 q2 q3 q4 => by rw [l2 q q3 q4, k1.1 q q3, j2 q q1 q2]
      have fM : ∀ j, j ≠ 0 → j ≠ 12 → L M j = I M j := fun j h0 h12 => by rw [l3 j h12, k1.2 j (by simp; omega), JM M (by omega)]
      have r1 : L (M + 1) = I (M + 1) := fL _ (by omega) (by omega) (by omega) (by omega)
      have r2 : L (M + 2) = I (M + 2) := fL _ (by omega) (by omega) (by omega) (by omega)
      have r4 : L (M + 4) = I (M + 4) := fL _ (by omega) (by omega) (by omega) (by omega)
      have fo : ∀ q, q < o + 828 → q ≠ o + 1 → q ≠ o + 2 → L q = I q := fun q hq q1 q2 => fL q q1 q2 (by omega) (by omega)
      have ym : m_X8_append J M x = some (Int32.ofNat (pw4 x w).1, L) := k3.trans l1
      refine ⟨_, J, _, L, rfl, ym, ⟨by rw [l3 0 (by omega), k2]; show pb (pb4 x) = 0; unfold pb4; rw [hb.2, hb.1.2, hb.1.1.2, hb.1.1.1]; rfl, rfl⟩, ⟨by rw [r1]; exact a1, by rw [r1]; exact a2.up, by rw [r1]; exact a3.mv a1 (fun q q1 q2 => fo q (by omega) (by omega) (by omega))⟩, ⟨u, b1, by rw [fo o (by omega) (by omega) (by omega)]; exact b2, by rw [fM 3 (by omega) (by omega)]; exact b3, b4, fun i hi => ?_⟩, ⟨b, by rw [fo o (by omega) (by omega) (by omega)]; exact c1, by rw [fM 6 (by omega) (by omega)]; exact c2, fun hb2 => ?_⟩, ⟨(pw4 x w).1, by rw [pw4_1]; exact hl, ?_, l4.1, fun j hj => ?_, ?_⟩, ?_, hM, s1, s2⟩
      · obtain ⟨g1, g2, g3⟩ := b5 i hi
        obtain ⟨ki, i1, i2, i3⟩ := b4.ad (show i < 6 by omega)
        rw [prw_same r2]
        exact ⟨g1, g2.up, g3.mv g1 (fun q q1 q2 => fo q (by omega) (by omega) (by omega))⟩
      · obtain ⟨g1, g2, g3⟩ := c3 hb2
        rw [r4]
        exact ⟨g1, g2.up, g3.mv g1 (fun q q1 q2 => fo q (by omega) (by omega) (by omega))⟩
      · rw [l2 _ (by omega) (by omega), k1.1 _ (by omega)]; exact j4.1
      · refine ⟨(pw4 x w).2 j, (hch4 j hj).1, (hch4 j hj).2, ?_, l4.2 j hj⟩
        rw [l2 _ (by omega) (by omega), k1.1 _ (by omega)]
        exact j4.2 j hj
      · rw [l2 _ (by omega) (by omega), k1.1 _ (by omega), j3 3 (by omega), fM 15 (by omega) (by omega)]; exact d5
      · intro j hj
        rw [fo (st 1) (by omega) (by omega) (by omega), fo (st 2) (by omega) (by omega) (by omega)]
        exact e1 j hj
    · rw [if_neg hl]
      obtain ⟨K, k1, k2, k3⟩ := q_apC (x := x) hY.1 (by omega)
      rw [hb, if_neg (show ¬ false = true by decide), if_neg hl] at k3
      exact ⟨_, I, _, _, rfl, k3, Or.inr ⟨rfl, po_uaa _ _ _ _⟩, (((pScr_o ⟨k1.1, fun j hj => k1.2 j (by simp at hj ⊢; omega)⟩).tr pScr_u).inv hcopy).up⟩
end QC9
