/-! THE LAW: a float as a double -/
section LF0
theorem pg_asm (s : Bool) (e t : Nat) (he : e ≤ 2047) (ht : t < 4503599627370496) (h : e = 2047 → t = 0) : FP.Core.assemble FP.Core.b64 s e t < 18446744073709551616 ∧ FP.Core.assemble FP.Core.b64 s e t % 9223372036854775808 ≤ 9218868437227405312 := by
  have e1 : FP.Core.assemble FP.Core.b64 s e t = (s.toNat * 2048 + e) * 4503599627370496 + t := rfl
  rw [e1]
  cases s
  · show (0 * 2048 + e) * 4503599627370496 + t < _ ∧ ((0 * 2048 + e) * 4503599627370496 + t) % _ ≤ _
    omega
  · show (1 * 2048 + e) * 4503599627370496 + t < _ ∧ ((1 * 2048 + e) * 4503599627370496 + t) % _ ≤ _
    omega
theorem pg_inf (s : Bool) : FP.Core.encode FP.Core.b64 (.inf s) < 18446744073709551616 ∧ FP.Core.encode FP.Core.b64 (.inf s) % 9223372036854775808 ≤ 9218868437227405312 := pg_asm s 2047 0 (by omega) (by omega) (fun _ => rfl)
theorem pg_fin (s : Bool) (c : Nat) (q : Int) (hc : c < 9007199254740992) (h1 : -1074 ≤ q) (h2 : q ≤ 971) : FP.Core.encode FP.Core.b64 (.fin s c q) < 18446744073709551616 ∧ FP.Core.encode FP.Core.b64 (.fin s c q) % 9223372036854775808 ≤ 9218868437227405312 := by
  have e1 : FP.Core.encode FP.Core.b64 (.fin s c q) = if c < 4503599627370496 then FP.Core.assemble FP.Core.b64 s 0 c else FP.Core.assemble FP.Core.b64 s ((q - (-1074)).toNat + 1) (c - 4503599627370496) := rfl
  rw [e1]
  by_cases h : c < 4503599627370496
  · rw [if_pos h]
    exact pg_asm s 0 c (by omega) h (fun h => by omega)
  · rw [if_neg h]
    exact pg_asm s _ _ (by omega) (by omega) (fun h => by omega)
theorem pg_bound (s : Bool) (c : Nat) (q : Int) (hc : c < 9007199254740992) (h1 : -1074 ≤ q) : FP.Core.encode FP.Core.b64 (FP.Core.bound FP.Core.b64 s c q) < 18446744073709551616 ∧ FP.Core.encode FP.Core.b64 (FP.Core.bound FP.Core.b64 s c q) % 9223372036854775808 ≤ 9218868437227405312 := by
  have e1 : FP.Core.bound FP.Core.b64 s c q = if q ≤ 971 then .fin s c q else .inf s := rfl
  rw [e1]
  by_cases h : q ≤ 971
  · rw [if_pos h]; exact pg_fin s c q hc h1 h
  · rw [if_neg h]; exact pg_inf s
theorem pg_rr (s : Bool) (a b : Nat) (e : Int) : FP.Core.encode FP.Core.b64 (FP.Core.roundRatio FP.Core.b64 s a b e) < 18446744073709551616 ∧ FP.Core.encode FP.Core.b64 (FP.Core.roundRatio FP.Core.b64 s a b e) % 9223372036854775808 ≤ 9218868437227405312 := by
  unfold FP.Core.roundRatio
  by_cases h : a = 0
  · have e0 : FP.Core.Fmt.qmin FP.Core.b64 = -1074 := rfl
    rw [if_pos h, e0]
    exact pg_fin s 0 (-1074) (by omega) (by omega) (by omega)
  · rw [if_neg h]
    have hq : -1074 ≤ FP.Core.quantum FP.Core.b64 a b e := by
      show -1074 ≤ max (-1074) _
      omega
    unfold FP.Core.roundAt FP.Core.settle
    split
    · rename_i h2
      exact pg_bound s _ _ h2 hq
    · exact pg_bound s 4503599627370496 _ (by omega) (by omega)
theorem pg_dec {n : Nat} (h : n % 9223372036854775808 ≤ 9218868437227405312) : ¬ FP.Core.decode FP.Core.b64 n = .nan := by
  unfold FP.Core.decode
  have e1 : FP.Core.fieldE FP.Core.b64 n = n / 4503599627370496 % 2048 := rfl
  have e2 : FP.Core.fieldT FP.Core.b64 n = n % 4503599627370496 := rfl
  have e3 : FP.Core.Fmt.exps FP.Core.b64 - 1 = 2047 := rfl
  rw [e1, e2, e3]
  by_cases h1 : n / 4503599627370496 % 2048 = 2047
  · rw [if_pos h1, if_pos (by omega)]
    exact FP.Core.Datum.noConfusion
  · rw [if_neg h1]
    split <;> exact FP.Core.Datum.noConfusion
theorem pg_cmp (x : Int) : compare x x = Ordering.eq := by
  show compareOfLessAndEq x x = Ordering.eq
  unfold compareOfLessAndEq
  rw [if_neg (Int.lt_irrefl x), if_pos rfl]
theorem pg_order {d : FP.Core.Datum} (h : ¬ d = .nan) : FP.Core.order d d = some .eq := by
  cases d with
  | nan => exact absurd rfl h
  | inf s => exact congrArg some (pg_cmp _)
  | fin s c q => exact congrArg some (pg_cmp _)
/-- a float that is no NaN is a double that is none, and equals itself -/
theorem pg_f2d {x : UInt32} (h : vf_n32 x) : vf_n64 (FP.f2d x) ∧ FP.dcmp (FP.f2d x) (FP.f2d x) = some .eq := by
  have h1 : x.toNat % 2147483648 ≤ 2139095040 := by
    unfold vf_n32 at h
    rw [UInt32.le_iff_toNat_le, UInt32.toNat_and] at h
    have h2 : x.toNat &&& (2 ^ 31 - 1) ≤ 2139095040 := h
    rw [Nat.and_two_pow_sub_one_eq_mod] at h2
    exact h2
  have hd := pf_dec h1
  have e0 : FP.f2d x = FP.Core.f2d x := by
    unfold FP.f2d
    exact if_neg (fun hq => hd (of_decide_eq_true (p := FP.Core.decode FP.Core.b32 x.toNat = .nan) hq))
  have key : FP.Core.encode FP.Core.b64 (FP.Core.round FP.Core.b64 (FP.Core.decode FP.Core.b32 x.toNat)) < 18446744073709551616 ∧ FP.Core.encode FP.Core.b64 (FP.Core.round FP.Core.b64 (FP.Core.decode FP.Core.b32 x.toNat)) % 9223372036854775808 ≤ 9218868437227405312 := by
    cases e : FP.Core.decode FP.Core.b32 x.toNat with
    | nan => exact absurd e hd
    | inf s => exact pg_inf s
    | fin s c q => exact pg_rr s c 1 q
  have e1 : (FP.Core.f2d x).toNat = FP.Core.encode FP.Core.b64 (FP.Core.round FP.Core.b64 (FP.Core.decode FP.Core.b32 x.toNat)) := by
    show (UInt64.ofNat (FP.Core.encode FP.Core.b64 (FP.Core.round FP.Core.b64 (FP.Core.decode FP.Core.b32 x.toNat)))).toNat = _
    rw [UInt64.toNat_ofNat']
    exact Nat.mod_eq_of_lt key.1
  rw [e0]
  constructor
  · unfold vf_n64
    rw [UInt64.le_iff_toNat_le, UInt64.toNat_and, e1]
    show _ &&& (2 ^ 63 - 1) ≤ 9218868437227405312
    rw [Nat.and_two_pow_sub_one_eq_mod]
    exact key.2
  · show FP.Core.order (FP.Core.decode FP.Core.b64 (FP.Core.f2d x).toNat) (FP.Core.decode FP.Core.b64 (FP.Core.f2d x).toNat) = some .eq
    rw [e1]
    exact pg_order (pg_dec key.2)
theorem mean_n {I : po_I} {R : po_R} {o M n : Nat} {st : Nat → Nat} (h : pInv I R o M st n) {w : UInt32 ⊕ String} (hm : m_X7_meanFloorArea I o = some w) : ∀ v, w = .inl v → vf_n32 v := by
  have hV := h.1.1
  have hT := h.1.2.2
  have h0 := hV.2.2.1.2.2
  have hc : ps_mc (I (M + 1)) ≤ pv (I (M + 1)) 2 := pc_le _ _
  intro v hv
  have e := hm.symm.trans (x_mean hV hT)
  rw [hv] at e
  by_cases hz : ps_mc (I (M + 1)) = 0
  · rw [if_pos hz] at e
    cases e
  · rw [if_neg hz] at e
    rw [Sum.inl.inj (Option.some.inj e)]
    exact pf_div _ (by omega) (by omega)
end LF0
