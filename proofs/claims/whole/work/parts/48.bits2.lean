theorem q_bitCount (x : Int32) : m_J6_bitCount_0f7a4 x = some (Int32.ofNat (pc (bt x) 32)) := by
  unfold m_J6_bitCount_0f7a4 m_J6_bitCount_0f7a4_e po_let
  dsimp only
  congr 1
  apply un_inj
  obtain ⟨d0, hd0⟩ : ∃ d, d = un x % 256 := ⟨_, rfl⟩
  obtain ⟨d1, hd1⟩ : ∃ d, d = un x / 256 % 256 := ⟨_, rfl⟩
  obtain ⟨d2, hd2⟩ : ∃ d, d = un x / 65536 % 256 := ⟨_, rfl⟩
  obtain ⟨d3, hd3⟩ : ∃ d, d = un x / 16777216 := ⟨_, rfl⟩
  have hx := un_lt x
  have b0 : d0 < 256 := by omega
  have b1 : d1 < 256 := by omega
  have b2 : d2 < 256 := by omega
  have b3 : d3 < 256 := by omega
  have hn : un x = 256 * (256 * (256 * d3 + d2) + d1) + d0 := by omega
  have hp : pc (bt x) 32 = pt_g d0 + (pt_g d1 + (pt_g d2 + pt_g d3)) := by
    rw [show (32 : Nat) = 8 + (8 + (8 + 8)) by rfl, pc_add, pc_add, pc_add, pt_gp b0, pt_gp b1, pt_gp b2, pt_gp b3]
    congr 1
    · refine pc_congr (fun c hc => ?_)
      rw [bt_un, hd0, show (256 : Nat) = 2 ^ 8 by rfl, Nat.testBit_mod_two_pow, decide_eq_true hc]; rfl
    · congr 1
      · refine pc_congr (fun c hc => ?_)
        rw [bt_un, hd1, show (256 : Nat) = 2 ^ 8 by rfl, Nat.testBit_mod_two_pow, decide_eq_true hc, Nat.testBit_div_two_pow, Nat.add_comm]; rfl
      · congr 1
        · refine pc_congr (fun c hc => ?_)
          rw [bt_un, hd2, show (256 : Nat) = 2 ^ 8 by rfl, show (65536 : Nat) = 2 ^ 16 by rfl, Nat.testBit_mod_two_pow, decide_eq_true hc, Nat.testBit_div_two_pow, show 8 + (8 + c) = c + 16 by omega]; rfl
        · refine pc_congr (fun c hc => ?_)
          rw [bt_un, hd3, show (16777216 : Nat) = 2 ^ 24 by rfl, Nat.testBit_div_two_pow, show 8 + (8 + (8 + c)) = c + 24 by omega]
  obtain ⟨k1, k2, k3, k4, k5, k6⟩ := pt_n1 b0 b1 b2 b3 hn
  have s1 : un ((Int32.toUInt32 x >>> (Int32.toUInt32 1 &&& Int32.toUInt32 31)).toInt32) = un x / 2 := un_shr x 1 (by omega)
  generalize ((Int32.toUInt32 x >>> (Int32.toUInt32 1 &&& Int32.toUInt32 31)).toInt32) = y1 at s1 ⊢
  have s2 : un (x - (y1 &&& 1431655765)) = 256 * (256 * (256 * pt_e d3 + pt_e d2) + pt_e d1) + pt_e d0 := by
    have e : un (y1 &&& 1431655765) = un x / 2 &&& 1431655765 := by rw [un_and, s1]; rfl
    rw [un_sub (by rw [e]; exact k1), e, k2]
  generalize x - (y1 &&& 1431655765) = v1 at s2 ⊢
  obtain ⟨m1, m2⟩ := pt_n2 (e0 := pt_e d0) (e1 := pt_e d1) (e2 := pt_e d2) (e3 := pt_e d3) (by omega) (by omega) (by omega) (by omega)
  have s3 : un ((Int32.toUInt32 v1 >>> (Int32.toUInt32 2 &&& Int32.toUInt32 31)).toInt32) = un v1 / 4 := un_shr v1 2 (by omega)
  generalize ((Int32.toUInt32 v1 >>> (Int32.toUInt32 2 &&& Int32.toUInt32 31)).toInt32) = y2 at s3 ⊢
  have f0 := pt_fb b0
  have f1 := pt_fb b1
  have f2 := pt_fb b2
  have f3 := pt_fb b3
  have s4 : un ((v1 &&& 858993459) + (y2 &&& 858993459)) = 256 * (256 * (256 * pt_f d3 + pt_f d2) + pt_f d1) + pt_f d0 := by
    have e1 : un (v1 &&& 858993459) = 256 * (256 * (256 * (pt_e d3 &&& 51) + (pt_e d2 &&& 51)) + (pt_e d1 &&& 51)) + (pt_e d0 &&& 51) := by rw [un_and, s2, ← m1]; rfl
    have e2 : un (y2 &&& 858993459) = 256 * (256 * (256 * (pt_e d3 / 4 &&& 51) + (pt_e d2 / 4 &&& 51)) + (pt_e d1 / 4 &&& 51)) + (pt_e d0 / 4 &&& 51) := by rw [un_and, s3, s2, ← m2]; rfl
    unfold pt_f at *
    rw [un_add (by rw [e1, e2]; omega), e1, e2]
    omega
  generalize (v1 &&& 858993459) + (y2 &&& 858993459) = v2 at s4 ⊢
  have s5 : un ((Int32.toUInt32 v2 >>> (Int32.toUInt32 4 &&& Int32.toUInt32 31)).toInt32) = un v2 / 16 := un_shr v2 4 (by omega)
  generalize ((Int32.toUInt32 v2 >>> (Int32.toUInt32 4 &&& Int32.toUInt32 31)).toInt32) = y3 at s5 ⊢
  have s6 : un ((v2 + y3) &&& 252645135) = 256 * (256 * (256 * pt_g d3 + pt_g d2) + pt_g d1) + pt_g d0 := by
    have e := pt_n3 f0 f1 f2 f3
    rw [un_and, un_add (by rw [s5, s4]; omega), s5, s4]
    exact e
  generalize (v2 + y3) &&& 252645135 = v3 at s6 ⊢
  have hg : ∀ d, d < 256 → pt_g d ≤ 8 := by decide +kernel
  have g0 := hg d0 b0
  have g1 := hg d1 b1
  have g2 := hg d2 b2
  have g3 := hg d3 b3
  have s7 : un ((Int32.toUInt32 v3 >>> (Int32.toUInt32 8 &&& Int32.toUInt32 31)).toInt32) = un v3 / 256 := un_shr v3 8 (by omega)
  generalize ((Int32.toUInt32 v3 >>> (Int32.toUInt32 8 &&& Int32.toUInt32 31)).toInt32) = y4 at s7 ⊢
  have s8 : un (v3 + y4) = un v3 + un v3 / 256 := by rw [un_add (by rw [s7, s6]; omega), s7]
  generalize v3 + y4 = v4 at s8 ⊢
  have s9 : un ((Int32.toUInt32 v4 >>> (Int32.toUInt32 16 &&& Int32.toUInt32 31)).toInt32) = un v4 / 65536 := un_shr v4 16 (by omega)
  generalize ((Int32.toUInt32 v4 >>> (Int32.toUInt32 16 &&& Int32.toUInt32 31)).toInt32) = y5 at s9 ⊢
  have s10 : un (v4 + y5) = un v4 + un v4 / 65536 := by rw [un_add (by rw [s9, s8, s6]; omega), s9]
  generalize v4 + y5 = v5 at s10 ⊢
  have s11 : un (v5 &&& 63) = un v5 % 64 := by
    rw [un_and]
    exact Nat.and_two_pow_sub_one_eq_mod _ 6
  rw [s11, s10, s8, s6, un_ofNat (by have := pc_le (bt x) 32; omega), hp]
  clear s11 s10 s9 s8 s7 s6 s5 s4 s3 s2 s1 k1 k2 k3 k4 k5 k6 m1 m2 f0 f1 f2 f3 hn hx hp hd0 hd1 hd2 hd3
  generalize pt_g d0 = a0 at *
  generalize pt_g d1 = a1 at *
  generalize pt_g d2 = a2 at *
  generalize pt_g d3 = a3 at *
  rw [show (256 * (256 * (256 * a3 + a2) + a1) + a0) / 256 = 256 * (256 * a3 + a2) + a1 by omega]
  rw [show (256 * (256 * (256 * a3 + a2) + a1) + a0 + (256 * (256 * a3 + a2) + a1)) / 65536 = 256 * a3 + (a2 + a3) by omega]
  rw [show (256 * (256 * (256 * a3 + a2) + a1) + a0 + (256 * (256 * a3 + a2) + a1)) + (256 * a3 + (a2 + a3)) = 64 * (262144 * a3 + 1024 * (a2 + a3) + 4 * (a1 + a2) + 4 * a3) + (a0 + (a1 + (a2 + a3))) by omega]
  omega
theorem bt_and (x y : Int32) (c : Nat) : bt (x &&& y) c = (bt x c && bt y c) := by unfold bt; rw [Int32.toBitVec_and, BitVec.getLsbD_and]
theorem bt_or (x y : Int32) (c : Nat) : bt (x ||| y) c = (bt x c || bt y c) := by unfold bt; rw [Int32.toBitVec_or, BitVec.getLsbD_or]
theorem bt_not (x : Int32) {c : Nat} (hc : c < 32) : bt (x ^^^ (-1)) c = !bt x c := by
  rw [Int32.xor_neg_one]
  unfold bt
  rw [Int32.toBitVec_not, BitVec.getLsbD_not, decide_eq_true hc]
  rfl
theorem bt_zero (c : Nat) : bt 0 c = false := by unfold bt; simp
theorem bt_ext {x y : Int32} (h : ∀ c, c < 32 → bt x c = bt y c) : x = y := Int32.toBitVec.inj (BitVec.eq_of_getLsbD_eq fun i hi => h i hi)
theorem bt_ne0 {x : Int32} : ¬ x = 0 ↔ ∃ c, c < 32 ∧ bt x c = true := by
  constructor
  · intro h
    refine Classical.byContradiction fun h' => h (bt_ext fun c hc => ?_)
    rw [bt_zero]
    cases e : bt x c with
    | false => rfl
    | true => exact absurd ⟨c, hc, e⟩ h'
  · rintro ⟨c, hc, e⟩ rfl
    rw [bt_zero] at e
    cases e
theorem bt_eq0 {x : Int32} : x = 0 ↔ ∀ c, c < 32 → bt x c = false := by
  constructor
  · rintro rfl c _
    exact bt_zero c
  · intro h
    exact bt_ext fun c hc => by rw [h c hc, bt_zero]
theorem bt_one {c d : Nat} (hc : c < 32) (hd : d < 32) : bt (1 <<< (Int32.ofNat c &&& 31)) d = decide (d = c) := by
  have h : ∀ c, c < 32 → ∀ d, d < 32 → bt (1 <<< (Int32.ofNat c &&& 31)) d = decide (d = c) := by decide +kernel
  exact h c hc d hd
theorem bt_rect {k w c : Nat} (hk : k < 20) (hw : w < 10) (hc : c < 32) : bt (((1 <<< (Int32.ofNat w &&& 31)) - 1) <<< (Int32.ofNat k &&& 31)) c = decide (k ≤ c ∧ c < k + w) := by
  have h : ∀ k, k < 20 → ∀ w, w < 10 → ∀ c, c < 32 → bt (((1 <<< (Int32.ofNat w &&& 31)) - 1) <<< (Int32.ofNat k &&& 31)) c = decide (k ≤ c ∧ c < k + w) := by decide +kernel
  exact h k hk w hw c hc
theorem bt_shl (x : Int32) {c : Nat} (hc : c < 32) : bt (x <<< (1 &&& 31)) c = (decide (1 ≤ c) && bt x (c - 1)) := by
  have e : BitVec.smod (1 &&& 31 : Int32).toBitVec 32 = 1#32 := by decide
  unfold bt
  rw [Int32.toBitVec_shiftLeft, e, BitVec.getLsbD_shiftLeft', decide_eq_true hc]
  show (true && !decide (c < 1) && _) = _
  by_cases h : c < 1
  · rw [decide_eq_true h, decide_eq_false (by omega)]; rfl
  · rw [decide_eq_false h, decide_eq_true (by omega)]; rfl
theorem bt_shr (x : Int32) {c : Nat} (hc : c < 31) : bt (x >>> (1 &&& 31)) c = bt x (c + 1) := by
  have e : BitVec.smod (1 &&& 31 : Int32).toBitVec 32 = 1#32 := by decide
  unfold bt
  rw [Int32.toBitVec_shiftRight, e, BitVec.getLsbD_sshiftRight', decide_eq_false (by omega)]
  show (!false && (if 1 + c < 32 then x.toBitVec.getLsbD (1 + c) else _)) = _
  rw [if_pos (by omega), Nat.add_comm]
  rfl
