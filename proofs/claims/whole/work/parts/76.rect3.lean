section QA8
variable {I : po_I} {M k s t : Nat} {N : po_N}
def pbd (S B : Int32 → Int32 → Bool) (sb : Nat → Nat) : Nat → Int32 → Int32 → Bool
  | 0 => B
  | d + 1 => fun c r => pbd S B sb d c r && pdeep S d (sb d) c r
theorem pbd_iff {S B : Int32 → Int32 → Bool} {sb : Nat → Nat} {c r : Int32} : ∀ n, pbd S B sb n c r = true ↔ B c r = true ∧ ∀ d, d < n → pdeep S d (sb d) c r = true
  | 0 => ⟨fun h => ⟨h, fun d hd => by omega⟩, fun h => h.1⟩
  | n + 1 => by
    rw [pbd, Bool.and_eq_true, pbd_iff n]
    constructor
    · rintro ⟨⟨h1, h2⟩, h3⟩
      refine ⟨h1, fun d hd => ?_⟩
      by_cases e : d = n
      · rw [e]; exact h3
      · exact h2 d (by omega)
    · rintro ⟨h1, h2⟩
      exact ⟨⟨h1, fun d hd => h2 d (by omega)⟩, h2 n (by omega)⟩
theorem x_lb82 {r41 : po_I → Nat → Nat → Int32 → Nat → Int32 → Option (Int32 × po_I)} {d sb L : Nat} {lot : Int32} {S B : Int32 → Int32 → Bool} (hd : d < 4) (hsb : sb ≤ 9) (hb : pbnd S) (hA : pAR I (s + 1) B) (hD : pAR I (s + 3) S) : ∃ J, m_X4_largestBuilding_82L r41 5000 I s t lot L (Int32.ofNat d) (Int32.ofNat sb) (Int32.ofNat 0) = r41 J s t lot L (Int32.ofNat (d + 1)) ∧ psv I J s ∧ pAR J (s + 1) (fun c r => B c r && pdeep S d sb c r) := by
  refine po_inv (L := fun f (J : po_I) i => m_X4_largestBuilding_82L r41 f J s t lot L (Int32.ofNat d) (Int32.ofNat sb) (Int32.ofNat i)) (n := sb) (fun i J => psv I J s ∧ pAR J (s + 1) B ∧ pAR J (s + 3) (pdeep S d i)) (fun x => ∃ J, x = r41 J s t lot L (Int32.ofNat (d + 1)) ∧ psv I J s ∧ pAR J (s + 1) (fun c r => B c r && pdeep S d sb c r)) ?_ ?_ sb 5000 I 0 (by omega) (by omega) ⟨psv.rf, hA, ?_⟩
  · rintro f J i hi ⟨g1, g2, g3⟩
    left
    obtain ⟨J2, a1, a2, a3⟩ := x_takeEdgeOff hd g3 (pdeep_bnd hb d i)
    refine ⟨J2, ⟨fun q q1 q2 => by rw [a2 q (by omega), g1 q q1 q2], g2.mv (a2 _ (by omega)), fun r hr c hc => ?_⟩, ?_⟩
    · rw [a3 r hr c hc]
      dsimp only
      rw [pdeep_s]
    · show m_X4_largestBuilding_82 _ _ _ _ _ _ _ _ _ _ = _
      unfold m_X4_largestBuilding_82
      rw [if_neg (mt (pl_le (by omega) (by omega)).mp (by omega)), a1, Option.bind_some, show Int32.ofNat i + 1 = Int32.ofNat (i + 1) from pl_add i 1]
  · rintro f J ⟨g1, g2, g3⟩
    obtain ⟨J2, a1, a2, a3⟩ := x_keepAll (by omega) g2 g3
    refine ⟨J2, ?_, fun q q1 q2 => by rw [a2 q (by omega), g1 q q1 q2], a3⟩
    show m_X4_largestBuilding_82 _ _ _ _ _ _ _ _ _ _ = _
    unfold m_X4_largestBuilding_82
    rw [if_pos ((pl_le (by omega) (by omega)).mpr (Nat.le_refl _)), a1, Option.bind_some, show Int32.ofNat d + 1 = Int32.ofNat (d + 1) from pl_add d 1]
  · intro r hr c hc
    rw [pdeep_0]
    exact hD r hr c hc
theorem x_ruleForL {j : Nat} (hV : pV N) (hT : pTR I t N) (hk : k < pv N 1) (hj : j < 7) : m_X5_ruleFor I t (Int32.ofNat k) (Int32.ofNat j) = some (N (4 + 7 * pv N (32 + 16 * k) + j)) := by
  have hL := hV.2.2.2.2.2.1 k hk
  have hz := hL.1.2.2
  unfold m_X5_ruleFor m_X5_ruleFor_e
  rw [x_lotAt hV hT hk, Option.bind_some, (hT.2.2.2.2.2.1 k hk).1, hL.1.1, x_ruleOf hT (by omega) hj, Option.bind_some]
/-- the class' good cells -/
def psb (N : po_N) (k d : Nat) : Nat := if d = pv N (32 + 16 * k + 1) then pv N (4 + 7 * pv N (32 + 16 * k)) else pv N (4 + 7 * pv N (32 + 16 * k) + 1)
def pgb (N : po_N) (k : Nat) : Int32 → Int32 → Bool := fun c r => pa_in N (32 + 16 * k) c r && !ps_blt N (Int32.ofNat k) c r (-1)
theorem x_largestB (hV : pV N) (hT : pTR I t N) (hs : s + 4 < t) (hk : k < pv N 1) : ∃ R I', m_X4_largestBuilding I s t (Int32.ofNat k) = some (Int32.ofNat R, I') ∧ psv I I' s ∧ pmx (fun c r => pbd (pa_in N (32 + 16 * k)) (pgb N k) (psb N k) 4 (Int32.ofNat c) (Int32.ofNat r)) R := by
  have h1' := hV.2.1.2.2
  have hL := hV.2.2.2.2.2.1 k hk
  have hz := hL.1.2.2
  have hr0 := hV.2.2.2.2.1 (pv N (32 + 16 * k)) (by omega)
  have hf := hr0.1
  have hs' := hr0.2.1
  have hbd := pa_bnd hL.2.2
  obtain ⟨I1, a1, a2, a3⟩ := x_gather_n (lot := Int32.ofNat k) (a := s + 3) hV hT (by omega)
  have s1 : psv I I1 s := fun q q1 q2 => a2 q (by omega)
  have T1 := s1.town hV hT hs
  obtain ⟨I2, b1, b2, b3, b4⟩ := x_copyFrom (I := I1) (a := s + 1) (b := t + (5 + 3 * k) + 1) (by omega) (T1.2.2.2.2.2.1 k hk).2.2.1
  obtain ⟨I3, c1, c2, c3⟩ := x_removeAll (I := I2) (a := s + 1) (b := s + 3) (by omega) b4 (a3.mv (b2 _ (by omega)))
  have s3 : psv I I3 s := s1.tr (fun q q1 q2 => by rw [c2 q (by omega), b2 q (by omega)])
  unfold m_X4_largestBuilding m_X4_largestBuilding_e
  rw [x_lotAt hV hT hk, Option.bind_some, a1, Option.bind_some, b1, Option.bind_some, c1, Option.bind_some]
  refine po_inv (L := fun f (J : po_I) d => m_X4_largestBuilding_41L f J s t (Int32.ofNat k) (t + (5 + 3 * k)) (Int32.ofNat d)) (n := 4) (fun d J => psv I J s ∧ pAR J (s + 1) (pbd (pa_in N (32 + 16 * k)) (pgb N k) (psb N k) d)) (fun x => ∃ R I', x = some (Int32.ofNat R, I') ∧ psv I I' s ∧ pmx (fun c r => pbd (pa_in N (32 + 16 * k)) (pgb N k) (psb N k) 4 (Int32.ofNat c) (Int32.ofNat r)) R) ?_ ?_ 4 5000 I3 0 (by omega) (by omega) ⟨s3, c3⟩
  · rintro f J d hd ⟨g1, g2⟩
    left
    have hTJ := psv.town g1 hV hT hs
    have hLJ := hTJ.2.2.2.2.2.1 k hk
    obtain ⟨J1, d1, d2, d3, d4⟩ := x_copyFrom (I := J) (a := s + 3) (b := t + (5 + 3 * k) + 1) (by omega) hLJ.2.2.1
    have hsb : psb N k d ≤ 9 := by
      unfold psb
      split
      · exact hf.2.2
      · exact hs'.2.2
    obtain ⟨J2, e1, e2, e3⟩ := x_lb82 (I := J1) (s := s) (t := t) (lot := Int32.ofNat k) (L := t + (5 + 3 * k)) (r41 := m_X4_largestBuilding_41L f) hd hsb hbd (g2.mv (d2 _ (by omega))) d4
    refine ⟨J2, ⟨psv.tr g1 (psv.tr (fun q q1 q2 => d2 q (by omega)) e2), e3⟩, ?_⟩
    have hlf : J (t + (5 + 3 * k)) 1 = Int32.ofNat (pv N (32 + 16 * k + 1)) := hLJ.2.1.trans hL.2.1.1
    have hfr := hL.2.1.2.2
    show m_X4_largestBuilding_41 _ _ _ _ _ _ _ = _
    unfold m_X4_largestBuilding_41 m_X4_largestBuilding_63
    rw [if_neg (show ¬ (4 : Int32) ≤ Int32.ofNat d from mt (pl_le (a := 4) (by omega) (by omega)).mp (by omega)), hlf, pk_0, pk_1, x_ruleForL hV hTJ hk (by omega), Option.bind_some, x_ruleForL hV hTJ hk (by omega), Option.bind_some, d1, Option.bind_some]
    unfold psb at e1
    by_cases e : d = pv N (32 + 16 * k + 1)
    · rw [if_pos (congrArg Int32.ofNat e)]
      rw [if_pos e] at e1
      rw [show N (4 + 7 * pv N (32 + 16 * k) + 0) = Int32.ofNat (pv N (4 + 7 * pv N (32 + 16 * k))) from hf.1]
      exact e1
    · rw [if_neg (pk_ne (by omega) (by omega) e)]
      rw [if_neg e] at e1
      rw [hs'.1]
      exact e1
  · rintro f J ⟨g1, g2⟩
    obtain ⟨R, r1, r2, r3⟩ := x_largestRect g2
    refine ⟨R, J, ?_, g1, r3⟩
    show m_X4_largestBuilding_41 _ _ _ _ _ _ _ = _
    unfold m_X4_largestBuilding_41
    rw [if_pos (show (4 : Int32) ≤ Int32.ofNat 4 from (pl_le (a := 4) (by omega) (by omega)).mpr (Nat.le_refl _)), r1, Option.bind_some]
theorem pside_iff {S : Int32 → Int32 → Bool} {fr v : Nat} {c r : Int32} (hv : v ≤ 100) : v ≤ pside S fr c r ↔ ∀ d, d < 4 → ¬ d = fr → v ≤ pdist S d c r := by
  unfold pside
  rw [pm_form fr (fun d => pdist S d c r)]
  obtain ⟨h1, h2, h3⟩ := pm_spec (fun d => decide (d ≠ fr)) (fun d => pdist S d c r) 100 4
  constructor
  · intro h d hd hf
    exact Nat.le_trans h (h2 d hd (decide_eq_true hf))
  · intro h
    rcases h3 with e | ⟨j, j1, j2, j3⟩
    · rw [e]; exact hv
    · rw [j3]; exact h j j1 (of_decide_eq_true j2)
theorem ps_gd_eq (hV : pV N) (hk : k < pv N 1) {c r : Int32} : pbd (pa_in N (32 + 16 * k)) (pgb N k) (psb N k) 4 c r = ps_gd N k c r := by
  have hL := hV.2.2.2.2.2.1 k hk
  have hz := hL.1.2.2
  have hr0 := hV.2.2.2.2.1 (pv N (32 + 16 * k)) (by omega)
  have hf := hr0.1.2.2
  have hs' := hr0.2.1.2.2
  have hfr := hL.2.1.2.2
  rw [Bool.eq_iff_iff, pbd_iff]
  unfold pgb ps_gd psb
  rw [Bool.and_eq_true, Bool.and_eq_true, Bool.and_eq_true, Bool.and_eq_true, decide_eq_true_iff, decide_eq_true_iff, pside_iff (by omega)]
  constructor
  · rintro ⟨⟨h1, h2⟩, h3⟩
    refine ⟨h1, h2, ?_, fun d hd hn => ?_⟩
    · have := h3 (pv N (32 + 16 * k + 1)) (by omega)
      rw [if_pos rfl] at this
      exact (pd_iff h1 (by omega)).mpr this
    · have := h3 d hd
      rw [if_neg hn] at this
      exact (pd_iff h1 (by omega)).mpr this
  · rintro ⟨h1, h2, h3, h4⟩
    refine ⟨⟨h1, h2⟩, fun d hd => ?_⟩
    by_cases e : d = pv N (32 + 16 * k + 1)
    · rw [if_pos e, e]
      exact (pd_iff h1 (by omega)).mp h3
    · rw [if_neg e]
      exact (pd_iff h1 (by omega)).mp (h4 d hd e)
end QA8
