/-! SETS OF KINDS -/
def ob (q : Nat → Bool) (k : Nat) (x : Int32) : Int32 := if q k = true then x ||| (1 <<< (Int32.ofNat k &&& 31)) else x
def cb (q : Nat → Bool) (k : Nat) (x : Int32) : Int32 := if q k = true then x &&& ((1 <<< (Int32.ofNat k &&& 31)) ^^^ (-1)) else x
theorem bt_ob (q : Nat → Bool) {c : Nat} (hc : c < 32) : ∀ n, n ≤ 32 → bt (pfold (ob q) n 0) c = (decide (c < n) && q c)
  | 0, _ => by rw [pfold, bt_zero]; rfl
  | n + 1, hn => by
    have ih := bt_ob q hc n (by omega)
    rw [pfold]
    unfold ob at *
    by_cases e : c = n
    · subst e
      rw [decide_eq_false (by omega)] at ih
      rw [decide_eq_true (by omega)]
      cases hq : q c with
      | false => rw [if_neg (by decide), ih]; rfl
      | true => rw [if_pos rfl, bt_or, bt_one hc hc, decide_eq_true rfl, Bool.or_true]; rfl
    · rw [show decide (c < n + 1) = decide (c < n) from decide_eq_decide.mpr (by omega)]
      by_cases hq : q n = true
      · rw [if_pos hq, bt_or, bt_one (by omega) hc, decide_eq_false e, Bool.or_false, ih]
      · rw [if_neg hq, ih]
theorem bt_cb (q : Nat → Bool) (x : Int32) {c : Nat} (hc : c < 32) : ∀ n, n ≤ 32 → bt (pfold (cb q) n x) c = (bt x c && !(decide (c < n) && q c))
  | 0, _ => by rw [pfold]; simp
  | n + 1, hn => by
    have ih := bt_cb q x hc n (by omega)
    rw [pfold]
    unfold cb at *
    by_cases e : c = n
    · subst e
      rw [decide_eq_false (by omega)] at ih
      rw [decide_eq_true (by omega)]
      cases hq : q c with
      | false => rw [if_neg (by decide), ih]; simp
      | true => rw [if_pos rfl, bt_and, bt_not _ hc, bt_one hc hc, decide_eq_true rfl]; simp
    · rw [show decide (c < n + 1) = decide (c < n) from decide_eq_decide.mpr (by omega)]
      by_cases hq : q n = true
      · rw [if_pos hq, bt_and, bt_not _ hc, bt_one (by omega) hc, decide_eq_false e, ih]; simp
      · rw [if_neg hq, ih]
def ps_pw (N : po_N) (p k : Nat) : Bool := pw (Int32.ofNat k) (ps_me N p k) (ps_li N p k)
def ps_is (N : po_N) (p k : Nat) : Bool := (ps_uv N p k).isSome
def ps_ub (N : po_N) (p k : Nat) (x : Int32) : Int32 := match ps_uv N p k with
  | none => x
  | some v => x ||| (1 <<< (Int32.ofNat v &&& 31))
def ps_mb (N : po_N) (p k : Nat) (x : Int32) : Int32 := if ps_is N p k = true then x + 1 else x
theorem ps_fi_eq (N : po_N) (p : Nat) : ∀ n a b c d, pfold (ps_fs N p) n (a, b, c, d) = (pfold (ob (ps_pw N p)) n a, pfold (ob (ps_is N p)) n b, pfold (ps_ub N p) n c, pfold (ps_mb N p) n d)
  | 0, _, _, _, _ => rfl
  | n + 1, a, b, c, d => by
    rw [pfold, pfold, pfold, pfold, pfold, ps_fi_eq N p n a b c d]
    generalize pfold (ob (ps_pw N p)) n a = A
    generalize pfold (ob (ps_is N p)) n b = B
    generalize pfold (ps_ub N p) n c = C
    generalize pfold (ps_mb N p) n d = D
    unfold ps_fs ob ps_ub ps_mb ps_is ps_pw ps_uv
    cases pw (Int32.ofNat n) (ps_me N p n) (ps_li N p n) with
    | false => rfl
    | true => cases ps_us N p n <;> rfl
section QM2
variable {I : po_I} {s t p : Nat} {N : po_N}
theorem x_findingSet (hV : pV N) (hT : pTR I t N) (hs : s + 4 < t) (hp : p < pv N 2) : ∃ I', m_X4_findingSet_5L 5000 I s t (t + (29 + 5 * p)) 0 (Int32.ofNat 0) = some (pfold (ob (ps_pw N p)) 9 0, I') ∧ psv I I' s := by
  refine po_inv (L := fun f (x : po_I × Int32) k => m_X4_findingSet_5L f x.1 s t (t + (29 + 5 * p)) x.2 (Int32.ofNat k)) (n := 9) (fun k x => psv I x.1 s ∧ x.2 = pfold (ob (ps_pw N p)) k 0) (fun y => ∃ I', y = some (pfold (ob (ps_pw N p)) 9 0, I') ∧ psv I I' s) ?_ ?_ 9 5000 (I, 0) 0 (by omega) (by omega) ⟨psv.rf, rfl⟩
  · rintro f ⟨J, x⟩ k hk ⟨g1, g2⟩
    left
    change x = _ at g2
    have hTJ : pTR J t N := g1.town hV hT hs
    obtain ⟨J1, y1, y2⟩ := x_measureOf hV hTJ hs hp hk
    have hTJ1 := y2.town hV hTJ hs
    have hPv := hV.2.2.2.2.2.2.1 p hp
    refine ⟨(J1, ob (ps_pw N p) k x), ⟨g1.tr y2, by rw [pfold, ← g2]⟩, ?_⟩
    show m_X4_findingSet_5 _ J s t _ x (Int32.ofNat k) = _
    unfold m_X4_findingSet_5 m_X4_findingSet_43 po_let ob ps_pw
    rw [if_neg (show ¬ (9 : Int32) ≤ Int32.ofNat k from mt (pl_le (a := 9) (by omega) (by omega)).mp (by omega)), y1, Option.bind_some]
    dsimp only
    rw [x_limitOf hV hTJ1 hp hk, Option.bind_some, x_isFinding hk (fun e => by
      subst e
      have hu := hPv.2.2.1
      exact ⟨pv N (160 + 46 * p + 1), by have := hu.2.2; omega, hu.1⟩), Option.bind_some, show Int32.ofNat k + 1 = Int32.ofNat (k + 1) from pl_add k 1]
    cases pw (Int32.ofNat k) (ps_me N p k) (ps_li N p k) with
    | false => rw [if_pos pb_f, if_neg (by decide)]
    | true => rw [if_neg (show ¬ pb true = 0 by decide), if_pos rfl]
  · rintro f ⟨J, x⟩ ⟨g1, g2⟩
    change x = _ at g2
    exact ⟨J, by rw [← g2]; rfl, g1⟩
theorem x_relievedSet (hV : pV N) (hT : pTR I t N) (hs : s + 4 < t) (hp : p < pv N 2) : ∃ I', m_X4_relievedSet_5L 5000 I s t (t + (29 + 5 * p)) 0 (Int32.ofNat 0) = some (pfold (ob (ps_is N p)) 9 0, I') ∧ psv I I' s := by
  refine po_inv (L := fun f (x : po_I × Int32) k => m_X4_relievedSet_5L f x.1 s t (t + (29 + 5 * p)) x.2 (Int32.ofNat k)) (n := 9) (fun k x => psv I x.1 s ∧ x.2 = pfold (ob (ps_is N p)) k 0) (fun y => ∃ I', y = some (pfold (ob (ps_is N p)) 9 0, I') ∧ psv I I' s) ?_ ?_ 9 5000 (I, 0) 0 (by omega) (by omega) ⟨psv.rf, rfl⟩
  · rintro f ⟨J, x⟩ k hk ⟨g1, g2⟩
    left
    change x = _ at g2
    have hTJ : pTR J t N := g1.town hV hT hs
    obtain ⟨J1, y1, y2⟩ := x_usedVariance hV hTJ hs hp hk
    have hn' := hV.2.2.2.1.2.2
    refine ⟨(J1, ob (ps_is N p) k x), ⟨g1.tr y2, by rw [pfold, ← g2]⟩, ?_⟩
    show m_X4_relievedSet_5 _ J s t _ x (Int32.ofNat k) = _
    unfold m_X4_relievedSet_5 m_X4_relievedSet_31 po_let ob ps_is
    rw [if_neg (show ¬ (9 : Int32) ≤ Int32.ofNat k from mt (pl_le (a := 9) (by omega) (by omega)).mp (by omega)), y1, Option.bind_some, pk_1, pl_add k 1]
    dsimp only
    cases e : ps_uv N p k with
    | none => rfl
    | some v =>
      have hv : v < pv N 3 := by
        unfold ps_uv at e
        split at e
        · exact (ps_us_lt e).1
        · cases e
      rw [if_neg (show ¬ po_op (some v) = -Int32.ofNat 1 from (pl_neg1 (by omega)).mp)]
      rfl
  · rintro f ⟨J, x⟩ ⟨g1, g2⟩
    change x = _ at g2
    exact ⟨J, by rw [← g2]; rfl, g1⟩
theorem x_usedVariances (hV : pV N) (hT : pTR I t N) (hs : s + 4 < t) (hp : p < pv N 2) : ∃ I', m_X4_usedVariances_5L 5000 I s t (t + (29 + 5 * p)) 0 (Int32.ofNat 0) = some (pfold (ps_ub N p) 9 0, I') ∧ psv I I' s := by
  refine po_inv (L := fun f (x : po_I × Int32) k => m_X4_usedVariances_5L f x.1 s t (t + (29 + 5 * p)) x.2 (Int32.ofNat k)) (n := 9) (fun k x => psv I x.1 s ∧ x.2 = pfold (ps_ub N p) k 0) (fun y => ∃ I', y = some (pfold (ps_ub N p) 9 0, I') ∧ psv I I' s) ?_ ?_ 9 5000 (I, 0) 0 (by omega) (by omega) ⟨psv.rf, rfl⟩
  · rintro f ⟨J, x⟩ k hk ⟨g1, g2⟩
    left
    change x = _ at g2
    have hTJ : pTR J t N := g1.town hV hT hs
    obtain ⟨J1, y1, y2⟩ := x_usedVariance hV hTJ hs hp hk
    have hn' := hV.2.2.2.1.2.2
    refine ⟨(J1, ps_ub N p k x), ⟨g1.tr y2, by rw [pfold, ← g2]⟩, ?_⟩
    show m_X4_usedVariances_5 _ J s t _ x (Int32.ofNat k) = _
    unfold m_X4_usedVariances_5 m_X4_usedVariances_35 po_let ps_ub
    rw [if_neg (show ¬ (9 : Int32) ≤ Int32.ofNat k from mt (pl_le (a := 9) (by omega) (by omega)).mp (by omega)), y1, Option.bind_some, pk_1, pl_add k 1]
    dsimp only
    cases e : ps_uv N p k with
    | none => rfl
    | some v =>
      have hv : v < pv N 3 := by
        unfold ps_uv at e
        split at e
        · exact (ps_us_lt e).1
        · cases e
      rw [if_neg (show ¬ po_op (some v) = -Int32.ofNat 1 from (pl_neg1 (by omega)).mp)]
      rfl
  · rintro f ⟨J, x⟩ ⟨g1, g2⟩
    change x = _ at g2
    exact ⟨J, by rw [← g2]; rfl, g1⟩
theorem x_unrelievedSet (hV : pV N) (hT : pTR I t N) (hs : s + 4 < t) (hp : p < pv N 2) (z : Int32) : ∃ I', m_X4_unrelievedSet_10L 5000 I s t (t + (29 + 5 * p)) z (Int32.ofNat 0) = some (pfold (cb (ps_is N p)) 9 z, I') ∧ psv I I' s := by
  refine po_inv (L := fun f (x : po_I × Int32) k => m_X4_unrelievedSet_10L f x.1 s t (t + (29 + 5 * p)) x.2 (Int32.ofNat k)) (n := 9) (fun k x => psv I x.1 s ∧ x.2 = pfold (cb (ps_is N p)) k z) (fun y => ∃ I', y = some (pfold (cb (ps_is N p)) 9 z, I') ∧ psv I I' s) ?_ ?_ 9 5000 (I, z) 0 (by omega) (by omega) ⟨psv.rf, rfl⟩
  · rintro f ⟨J, x⟩ k hk ⟨g1, g2⟩
    left
    change x = _ at g2
    have hTJ : pTR J t N := g1.town hV hT hs
    obtain ⟨J1, y1, y2⟩ := x_usedVariance hV hTJ hs hp hk
    have hn' := hV.2.2.2.1.2.2
    refine ⟨(J1, cb (ps_is N p) k x), ⟨g1.tr y2, by rw [pfold, ← g2]⟩, ?_⟩
    show m_X4_unrelievedSet_10 _ J s t _ x (Int32.ofNat k) = _
    unfold m_X4_unrelievedSet_10 m_X4_unrelievedSet_38 po_let cb ps_is
    rw [if_neg (show ¬ (9 : Int32) ≤ Int32.ofNat k from mt (pl_le (a := 9) (by omega) (by omega)).mp (by omega)), y1, Option.bind_some, pk_1, pl_add k 1]
    dsimp only
    cases e : ps_uv N p k with
    | none => rfl
    | some v =>
      have hv : v < pv N 3 := by
        unfold ps_uv at e
        split at e
        · exact (ps_us_lt e).1
        · cases e
      rw [if_neg (show ¬ po_op (some v) = -Int32.ofNat 1 from (pl_neg1 (by omega)).mp)]
      rfl
  · rintro f ⟨J, x⟩ ⟨g1, g2⟩
    change x = _ at g2
    exact ⟨J, by rw [← g2]; rfl, g1⟩
end QM2
