section QL
variable {I : po_I} {s t p k : Nat} {N : po_N}
/-- the variance that is used, where there is a finding -/
def ps_uv (N : po_N) (p k : Nat) : Option Nat := if pw (Int32.ofNat k) (ps_me N p k) (ps_li N p k) = true then ps_us N p k else none
theorem x_isInForce {v : Nat} (hT : pTR I t N) (hv : v < pv N 3) : m_X6_isInForce I (t + (79 + v)) (N 0) = some (pb (decide (N 0 ≤ N (620 + 4 * v + 3)))) := by
  unfold m_X6_isInForce m_X6_isInForce_e m_X6_isInForce_13
  rw [hT.2.2.2.2.2.2.2 v hv 3 (by omega)]
  by_cases h : N (620 + 4 * v + 3) < N 0
  · rw [if_pos h, if_pos pn_0, decide_eq_false (by grind)]; rfl
  · rw [if_neg h, if_pos pn_1, decide_eq_true (by grind)]; rfl
/-- the least amount so far -/
def ps_am (N : po_N) (b : Option Nat) : Int32 := match b with
  | none => 100
  | some w => N (620 + 4 * w + 2)
theorem x_usedVariance (hV : pV N) (hT : pTR I t N) (hs : s + 4 < t) (hp : p < pv N 2) (hk : k < 9) : ∃ I', m_X4_usedVariance I s t (t + (29 + 5 * p)) (Int32.ofNat k) = some (po_op (ps_uv N p k), I') ∧ psv I I' s := by
  obtain ⟨I1, g1, g2⟩ := x_measureOf hV hT hs hp hk
  have hT1 := g2.town hV hT hs
  have hPv := hV.2.2.2.2.2.2.1 p hp
  have hn := hV.2.2.2.1
  have hn' := hn.2.2
  unfold m_X4_usedVariance m_X4_usedVariance_e po_let ps_uv
  rw [g1, Option.bind_some]
  dsimp only
  rw [x_limitOf hV hT1 hp hk, Option.bind_some, x_isFinding hk (fun e => by
    subst e
    have hu := hPv.2.2.1
    exact ⟨pv N (160 + 46 * p + 1), by have := hu.2.2; omega, hu.1⟩), Option.bind_some]
  cases hw : pw (Int32.ofNat k) (ps_me N p k) (ps_li N p k) with
  | false =>
    rw [if_pos pb_f, if_neg (by decide)]
    exact ⟨I1, rfl, g2⟩
  | true =>
    rw [if_neg (show ¬ pb true = 0 by decide), if_pos rfl]
    refine po_inv (L := fun f b v => m_X4_usedVariance_41L f I1 t (t + (29 + 5 * p)) (Int32.ofNat k) (ps_me N p k) (ps_li N p k) (po_op b) (ps_am N b) (Int32.ofNat v)) (n := pv N 3) (fun v b => b = pfold (ps_bet N p k) v none ∧ ∀ w, b = some w → w < v) (fun x => ∃ I', x = some (po_op (ps_us N p k), I') ∧ psv I I' s) ?_ ?_ _ 5000 none 0 (Nat.zero_add _) (by omega) ⟨rfl, fun w h => by cases h⟩
    · intro f b v hv hb
      left
      have hvv := hV.2.2.2.2.2.2.2 v hv
      refine ⟨ps_bet N p k v b, ⟨by rw [hb.1]; rfl, ?_⟩, ?_⟩
      · intro w hw
        unfold ps_bet at hw
        split at hw
        · split at hw
          · obtain rfl := Option.some.inj hw; omega
          · split at hw
            · obtain rfl := Option.some.inj hw; omega
            · obtain rfl := Option.some.inj hw
              have := hb.2 _ rfl
              omega
        · have := hb.2 _ hw
          omega
      · have e97 : ∀ s0 : Bool, (s0 = true → 2 ≤ k) → m_X4_usedVariance_97 (m_X4_usedVariance_41L f) I1 t (t + (29 + 5 * p)) (Int32.ofNat k) (ps_me N p k) (ps_li N p k) (po_op b) (ps_am N b) (Int32.ofNat v) (t + (79 + v)) (pb s0) = if s0 = true then (if ps_am N b ≤ N (620 + 4 * v + 2) then m_X4_usedVariance_41L f I1 t (t + (29 + 5 * p)) (Int32.ofNat k) (ps_me N p k) (ps_li N p k) (po_op b) (ps_am N b) (Int32.ofNat (v + 1)) else if ph (Int32.ofNat k) (ps_me N p k) (ps_li N p k) (N (620 + 4 * v + 2)) = true then m_X4_usedVariance_41L f I1 t (t + (29 + 5 * p)) (Int32.ofNat k) (ps_me N p k) (ps_li N p k) (Int32.ofNat v) (N (620 + 4 * v + 2)) (Int32.ofNat (v + 1)) else m_X4_usedVariance_41L f I1 t (t + (29 + 5 * p)) (Int32.ofNat k) (ps_me N p k) (ps_li N p k) (po_op b) (ps_am N b) (Int32.ofNat (v + 1))) else m_X4_usedVariance_41L f I1 t (t + (29 + 5 * p)) (Int32.ofNat k) (ps_me N p k) (ps_li N p k) (po_op b) (ps_am N b) (Int32.ofNat (v + 1)) := by
          intro s0 h2
          unfold m_X4_usedVariance_97 m_X4_usedVariance_141 po_let
          rw [hT1.2.2.2.2.2.2.2 v hv 2 (by omega), pk_1, pl_add]
          cases s0 with
          | false => rw [if_pos pb_f, if_neg (by decide)]
          | true =>
            rw [if_neg (show ¬ pb true = 0 by decide), if_pos rfl, x_helps (h2 rfl) hk, Option.bind_some]
            by_cases h3 : ps_am N b ≤ N (620 + 4 * v + 2)
            · rw [if_pos h3, if_pos h3]
            · rw [if_neg h3, if_neg h3]
              cases ph (Int32.ofNat k) (ps_me N p k) (ps_li N p k) (N (620 + 4 * v + 2)) <;> rfl
        show m_X4_usedVariance_41 _ _ _ _ _ _ _ _ _ _ = _
        unfold m_X4_usedVariance_41 m_X4_usedVariance_96
        have eA : I1 (t + (79 + v)) 0 = N (620 + 4 * v) := hT1.2.2.2.2.2.2.2 v hv 0 (by omega)
        have eB : I1 (t + (29 + 5 * p)) 0 = N (160 + 46 * p) := (hT1.2.2.2.2.2.2.1 p hp).lot
        rw [hT1.2.2.2.1, hn.1, if_neg (by first | exact pl_inl (by omega) (by omega) | exact (pl_le (by omega) (by omega)).mpr (by omega) | exact mt (pl_le (by omega) (by omega)).mp (by omega) | exact (pl_lt (by omega) (by omega)).mpr (by omega) | exact mt (pl_lt (by omega) (by omega)).mp (by omega) | exact (pl_eq (by omega) (by omega)).mpr (by omega) | exact mt (pl_eq (by omega) (by omega)).mp (by omega) | exact (pl_neg1 (by omega)).mp | exact (pl_neg1' (by omega)).mp | assumption | omega | rfl | decide), if_pos (show po_in (Int32.ofNat v) 12 = true from pl_inl (by omega) (by omega)), pl_clamp (by omega), eA, eB, hT1.2.2.2.2.2.2.2 v hv 1 (by omega), hT1.1, x_isInForce hT1 hv, Option.bind_some]
        unfold ps_bet ps_can
        have hskip : m_X4_usedVariance_97 (m_X4_usedVariance_41L f) I1 t (t + (29 + 5 * p)) (Int32.ofNat k) (ps_me N p k) (ps_li N p k) (po_op b) (ps_am N b) (Int32.ofNat v) (t + (79 + v)) 0 = m_X4_usedVariance_41L f I1 t (t + (29 + 5 * p)) (Int32.ofNat k) (ps_me N p k) (ps_li N p k) (po_op b) (ps_am N b) (Int32.ofNat (v + 1)) := e97 false (fun h => by cases h)
        rw [hskip]
        by_cases h1 : N (620 + 4 * v) = N (160 + 46 * p)
        · rw [if_pos h1, decide_eq_true h1, Bool.true_and]
          by_cases h2 : N (620 + 4 * v + 1) = Int32.ofNat k
          · rw [if_pos h2, decide_eq_true h2, Bool.true_and]
            have hk2 : 2 ≤ k := by
              have q1 := hvv.2.1
              have qa := q1.2.1
              have qb := q1.2.2
              rw [q1.1] at h2
              have := (pl_eq (by omega) (by omega)).mp h2
              omega
            cases decide (N 0 ≤ N (620 + 4 * v + 3)) with
            | false => rw [if_pos pb_f, if_neg (by simp)]
            | true =>
              have h1' : m_X4_usedVariance_97 (m_X4_usedVariance_41L f) I1 t (t + (29 + 5 * p)) (Int32.ofNat k) (ps_me N p k) (ps_li N p k) (po_op b) (ps_am N b) (Int32.ofNat v) (t + (79 + v)) 1 = _ := e97 true (fun _ => hk2)
              rw [if_neg (show ¬ pb true = 0 by decide), h1', if_pos rfl, Bool.true_and]
              cases hph : ph (Int32.ofNat k) (ps_me N p k) (ps_li N p k) (N (620 + 4 * v + 2)) with
              | false =>
                rw [if_neg (show ¬ false = true by decide), if_neg (show ¬ false = true by decide), ite_self]
              | true =>
                rw [if_pos rfl, if_pos rfl]
                cases b with
                | none =>
                  have q2 := hvv.2.2.1
                  have qa := q2.2.1
                  have qb := q2.2.2
                  rw [if_neg (show ¬ ps_am N none ≤ N (620 + 4 * v + 2) by
                    rw [q2.1]
                    exact mt (pl_le (a := 100) (by omega) (by omega)).mp (by omega))]
                  rfl
                | some w =>
                  show (if N (620 + 4 * w + 2) ≤ N (620 + 4 * v + 2) then _ else _) = m_X4_usedVariance_41L f I1 t (t + (29 + 5 * p)) (Int32.ofNat k) (ps_me N p k) (ps_li N p k) (po_op (if N (620 + 4 * v + 2) < N (620 + 4 * w + 2) then some v else some w)) (ps_am N (if N (620 + 4 * v + 2) < N (620 + 4 * w + 2) then some v else some w)) (Int32.ofNat (v + 1))
                  by_cases h5 : N (620 + 4 * w + 2) ≤ N (620 + 4 * v + 2)
                  · rw [if_pos h5, if_neg (show ¬ N (620 + 4 * v + 2) < N (620 + 4 * w + 2) by grind)]
                  · rw [if_neg h5, if_pos (show N (620 + 4 * v + 2) < N (620 + 4 * w + 2) by grind)]
                    rfl
          · rw [if_neg h2, decide_eq_false h2, Bool.false_and, Bool.and_false, if_neg (by decide)]
        · rw [if_neg h1, decide_eq_false h1, Bool.false_and, Bool.and_false, if_neg (by decide)]
    · intro f b hb
      refine ⟨I1, ?_, g2⟩
      show m_X4_usedVariance_41 _ _ _ _ _ _ _ _ _ _ = _
      unfold m_X4_usedVariance_41
      rw [hT1.2.2.2.1, hn.1, if_pos (by first | exact pl_inl (by omega) (by omega) | exact (pl_le (by omega) (by omega)).mpr (by omega) | exact mt (pl_le (by omega) (by omega)).mp (by omega) | exact (pl_lt (by omega) (by omega)).mpr (by omega) | exact mt (pl_lt (by omega) (by omega)).mp (by omega) | exact (pl_eq (by omega) (by omega)).mpr (by omega) | exact mt (pl_eq (by omega) (by omega)).mp (by omega) | exact (pl_neg1 (by omega)).mp | exact (pl_neg1' (by omega)).mp | assumption | omega | rfl | decide), hb.1]
      rfl
end QL
