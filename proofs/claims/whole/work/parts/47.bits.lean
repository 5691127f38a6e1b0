/-! BITS -/
theorem pt_and (a b c e : Nat) (hb : b < 256) (he : e < 256) : (256 * a + b) &&& (256 * c + e) = 256 * (a &&& c) + (b &&& e) := by
  have h1 : ((256 * a + b) &&& (256 * c + e)) / 2 ^ 8 = a &&& c := by
    rw [Nat.and_div_two_pow]
    congr 1 <;> omega
  have h2 : ((256 * a + b) &&& (256 * c + e)) % 2 ^ 8 = b &&& e := by
    rw [Nat.and_mod_two_pow]
    congr 1 <;> omega
  omega
theorem pt_55 (t y : Nat) (ht : t < 2) (hy : y < 128) : (128 * t + y) &&& 85 = y &&& 85 := by
  have h : ∀ t, t < 2 → ∀ y, y < 128 → (128 * t + y) &&& 85 = y &&& 85 := by decide +kernel
  exact h t ht y hy
theorem pt_33 (t y : Nat) (ht : t < 4) (hy : y < 64) : (64 * t + y) &&& 51 = y &&& 51 := by
  have h : ∀ t, t < 4 → ∀ y, y < 64 → (64 * t + y) &&& 51 = y &&& 51 := by decide +kernel
  exact h t ht y hy
theorem pt_0f (t f : Nat) : (f + 16 * t + f / 16) &&& 15 = (f + f / 16) &&& 15 := by
  have h : ∀ x, x &&& 15 = x % 16 := fun x => Nat.and_two_pow_sub_one_eq_mod x 4
  rw [h, h]
  omega
theorem pt_s1 (q d m : Nat) (hd : d < 256) : (256 * q + d) / 2 &&& (256 * m + 85) = 256 * (q / 2 &&& m) + (d / 2 &&& 85) := by
  rw [show (256 * q + d) / 2 = 256 * (q / 2) + (128 * (q % 2) + d / 2) by omega, pt_and _ _ _ _ (by omega) (by omega), pt_55 _ _ (by omega) (by omega)]
theorem pt_s2 (q d m : Nat) (hd : d < 256) : (256 * q + d) / 4 &&& (256 * m + 51) = 256 * (q / 4 &&& m) + (d / 4 &&& 51) := by
  rw [show (256 * q + d) / 4 = 256 * (q / 4) + (64 * (q % 4) + d / 4) by omega, pt_and _ _ _ _ (by omega) (by omega), pt_33 _ _ (by omega) (by omega)]
def pt_e (d : Nat) : Nat := d - (d / 2 &&& 85)
def pt_f (d : Nat) : Nat := (pt_e d &&& 51) + (pt_e d / 4 &&& 51)
def pt_g (d : Nat) : Nat := (pt_f d + pt_f d / 16) &&& 15
theorem pt_fb {d : Nat} (hd : d < 256) : pt_f d % 16 ≤ 4 ∧ pt_f d / 16 ≤ 4 := by
  have h : ∀ d, d < 256 → pt_f d % 16 ≤ 4 ∧ pt_f d / 16 ≤ 4 := by decide +kernel
  exact h d hd
theorem pt_gp {d : Nat} (hd : d < 256) : pt_g d = pc (fun c => d.testBit c) 8 := by
  have h : ∀ d, d < 256 → pt_g d = pc (fun c => d.testBit c) 8 := by decide +kernel
  exact h d hd
theorem pt_n1 {n d0 d1 d2 d3 : Nat} (h0 : d0 < 256) (h1 : d1 < 256) (h2 : d2 < 256) (h3 : d3 < 256) (hn : n = 256 * (256 * (256 * d3 + d2) + d1) + d0) :
    (n / 2 &&& 1431655765) ≤ n ∧ n - (n / 2 &&& 1431655765) = 256 * (256 * (256 * pt_e d3 + pt_e d2) + pt_e d1) + pt_e d0 ∧ pt_e d0 ≤ d0 ∧ pt_e d1 ≤ d1 ∧ pt_e d2 ≤ d2 ∧ pt_e d3 ≤ d3 := by
  subst hn
  have e : (256 * (256 * (256 * d3 + d2) + d1) + d0) / 2 &&& 1431655765 = 256 * (256 * (256 * (d3 / 2 &&& 85) + (d2 / 2 &&& 85)) + (d1 / 2 &&& 85)) + (d0 / 2 &&& 85) := by
    rw [show (1431655765 : Nat) = 256 * (256 * (256 * 85 + 85) + 85) + 85 by rfl, pt_s1 _ _ _ h0, pt_s1 _ _ _ h1, pt_s1 _ _ _ h2]
  rw [e]
  have a0 : (d0 / 2 &&& 85) ≤ d0 / 2 := Nat.and_le_left
  have a1 : (d1 / 2 &&& 85) ≤ d1 / 2 := Nat.and_le_left
  have a2 : (d2 / 2 &&& 85) ≤ d2 / 2 := Nat.and_le_left
  have a3 : (d3 / 2 &&& 85) ≤ d3 / 2 := Nat.and_le_left
  unfold pt_e
  generalize (d0 / 2 &&& 85) = x0 at *
  generalize (d1 / 2 &&& 85) = x1 at *
  generalize (d2 / 2 &&& 85) = x2 at *
  generalize (d3 / 2 &&& 85) = x3 at *
  refine ⟨?_, ?_, ?_, ?_, ?_, ?_⟩ <;> omega
theorem pt_n2 {e0 e1 e2 e3 : Nat} (h0 : e0 < 256) (h1 : e1 < 256) (h2 : e2 < 256) (h3 : e3 < 256) :
    ((256 * (256 * (256 * e3 + e2) + e1) + e0) &&& 858993459) = 256 * (256 * (256 * (e3 &&& 51) + (e2 &&& 51)) + (e1 &&& 51)) + (e0 &&& 51) ∧ ((256 * (256 * (256 * e3 + e2) + e1) + e0) / 4 &&& 858993459) = 256 * (256 * (256 * (e3 / 4 &&& 51) + (e2 / 4 &&& 51)) + (e1 / 4 &&& 51)) + (e0 / 4 &&& 51) := by
  rw [show (858993459 : Nat) = 256 * (256 * (256 * 51 + 51) + 51) + 51 by rfl]
  constructor
  · rw [pt_and _ _ _ _ h0 (by omega), pt_and _ _ _ _ h1 (by omega), pt_and _ _ _ _ h2 (by omega)]
  · rw [pt_s2 _ _ _ h0, pt_s2 _ _ _ h1, pt_s2 _ _ _ h2]
theorem pt_n3 {f0 f1 f2 f3 : Nat} (h0 : f0 % 16 ≤ 4 ∧ f0 / 16 ≤ 4) (h1 : f1 % 16 ≤ 4 ∧ f1 / 16 ≤ 4) (h2 : f2 % 16 ≤ 4 ∧ f2 / 16 ≤ 4) (h3 : f3 % 16 ≤ 4 ∧ f3 / 16 ≤ 4) :
    ((256 * (256 * (256 * f3 + f2) + f1) + f0) + (256 * (256 * (256 * f3 + f2) + f1) + f0) / 16) &&& 252645135 = 256 * (256 * (256 * ((f3 + f3 / 16) &&& 15) + ((f2 + f2 / 16) &&& 15)) + ((f1 + f1 / 16) &&& 15)) + ((f0 + f0 / 16) &&& 15) := by
  rw [show (252645135 : Nat) = 256 * (256 * (256 * 15 + 15) + 15) + 15 by rfl]
  rw [show (256 * (256 * (256 * f3 + f2) + f1) + f0) + (256 * (256 * (256 * f3 + f2) + f1) + f0) / 16 = 256 * (256 * (256 * (f3 + f3 / 16) + (f2 + 16 * (f3 % 16) + f2 / 16)) + (f1 + 16 * (f2 % 16) + f1 / 16)) + (f0 + 16 * (f1 % 16) + f0 / 16) by omega]
  rw [pt_and _ _ _ _ (by omega) (by omega), pt_and _ _ _ _ (by omega) (by omega), pt_and _ _ _ _ (by omega) (by omega), pt_0f, pt_0f, pt_0f]
/-- a bit -/
def bt (x : Int32) (c : Nat) : Bool := x.toBitVec.getLsbD c
def un (x : Int32) : Nat := x.toBitVec.toNat
theorem bt_un (x : Int32) (c : Nat) : bt x c = (un x).testBit c := rfl
theorem un_lt (x : Int32) : un x < 4294967296 := x.toBitVec.isLt
theorem un_and (x y : Int32) : un (x &&& y) = un x &&& un y := by unfold un; rw [Int32.toBitVec_and]; rfl
theorem un_add {x y : Int32} (h : un x + un y < 4294967296) : un (x + y) = un x + un y := by unfold un at *; rw [Int32.toBitVec_add, BitVec.toNat_add]; exact Nat.mod_eq_of_lt h
theorem un_sub {x y : Int32} (h : un y ≤ un x) : un (x - y) = un x - un y := by
  unfold un at *
  have h1 : x.toBitVec.toNat < 4294967296 := x.toBitVec.isLt
  rw [Int32.toBitVec_sub, BitVec.toNat_sub]
  omega
theorem un_shr (x : Int32) (k : Nat) (hk : k < 32) : un ((Int32.toUInt32 x >>> (Int32.toUInt32 (Int32.ofNat k) &&& Int32.toUInt32 31)).toInt32) = un x / 2 ^ k := by
  have h : ∀ k, k < 32 → (Int32.toUInt32 (Int32.ofNat k) &&& Int32.toUInt32 31).toNat % 32 = k := by decide +kernel
  show (Int32.toUInt32 x >>> (Int32.toUInt32 (Int32.ofNat k) &&& Int32.toUInt32 31)).toNat = _
  rw [UInt32.toNat_shiftRight, h k hk, Nat.shiftRight_eq_div_pow]
  rfl
theorem un_inj {x y : Int32} (h : un x = un y) : x = y := Int32.toBitVec.inj (BitVec.eq_of_toNat_eq h)
theorem un_ofNat {n : Nat} (h : n < 4294967296) : un (Int32.ofNat n) = n := by
  show (BitVec.ofNat 32 n).toNat = n
  rw [BitVec.toNat_ofNat]
  exact Nat.mod_eq_of_lt h
