/-! LOOPS AND NUMBERS: what the mirrors want -/
theorem po_inv {σ τ : Type} {L : Nat → σ → Nat → τ} {n : Nat} (Inv : Nat → σ → Prop) (P : τ → Prop)
    (step : ∀ f s i, i < n → Inv i s → (∃ s', Inv (i + 1) s' ∧ L (f + 1) s i = L f s' (i + 1)) ∨ P (L (f + 1) s i))
    (stop : ∀ f s, Inv n s → P (L (f + 1) s n)) : ∀ d f s i, i + d = n → d < f → Inv i s → P (L f s i) := by
  intro d
  induction d with
  | zero =>
    intro f s i hi hf h
    obtain ⟨f, rfl⟩ : ∃ g, f = g + 1 := ⟨f - 1, by omega⟩
    obtain rfl : i = n := by omega
    exact stop f s h
  | succ d ih =>
    intro f s i hi hf h
    obtain ⟨f, rfl⟩ : ∃ g, f = g + 1 := ⟨f - 1, by omega⟩
    rcases step f s i (by omega) h with ⟨s', h', he⟩ | h'
    · rw [he]
      exact ih f s' (i + 1) (by omega) (by omega) h'
    · exact h'
theorem pk_0 : (0 : Int32) = Int32.ofNat 0 := rfl
theorem pk_1 : (1 : Int32) = Int32.ofNat 1 := rfl
theorem pk_2 : (2 : Int32) = Int32.ofNat 2 := rfl
theorem pk_3 : (3 : Int32) = Int32.ofNat 3 := rfl
theorem pk_4 : (4 : Int32) = Int32.ofNat 4 := rfl
theorem pk_5 : (5 : Int32) = Int32.ofNat 5 := rfl
theorem pk_6 : (6 : Int32) = Int32.ofNat 6 := rfl
theorem pk_7 : (7 : Int32) = Int32.ofNat 7 := rfl
theorem pk_8 : (8 : Int32) = Int32.ofNat 8 := rfl
theorem pk_9 : (9 : Int32) = Int32.ofNat 9 := rfl
theorem pk_10 : (10 : Int32) = Int32.ofNat 10 := rfl
theorem pk_11 : (11 : Int32) = Int32.ofNat 11 := rfl
theorem pk_12 : (12 : Int32) = Int32.ofNat 12 := rfl
theorem pk_13 : (13 : Int32) = Int32.ofNat 13 := rfl
theorem pk_14 : (14 : Int32) = Int32.ofNat 14 := rfl
theorem pk_15 : (15 : Int32) = Int32.ofNat 15 := rfl
theorem pk_16 : (16 : Int32) = Int32.ofNat 16 := rfl
theorem pk_17 : (17 : Int32) = Int32.ofNat 17 := rfl
theorem pk_18 : (18 : Int32) = Int32.ofNat 18 := rfl
theorem pk_19 : (19 : Int32) = Int32.ofNat 19 := rfl
theorem pk_20 : (20 : Int32) = Int32.ofNat 20 := rfl
theorem pk_21 : (21 : Int32) = Int32.ofNat 21 := rfl
theorem pk_22 : (22 : Int32) = Int32.ofNat 22 := rfl
theorem pk_23 : (23 : Int32) = Int32.ofNat 23 := rfl
theorem pk_24 : (24 : Int32) = Int32.ofNat 24 := rfl
theorem pk_25 : (25 : Int32) = Int32.ofNat 25 := rfl
theorem pk_26 : (26 : Int32) = Int32.ofNat 26 := rfl
theorem pk_27 : (27 : Int32) = Int32.ofNat 27 := rfl
theorem pk_28 : (28 : Int32) = Int32.ofNat 28 := rfl
theorem pk_29 : (29 : Int32) = Int32.ofNat 29 := rfl
theorem pk_30 : (30 : Int32) = Int32.ofNat 30 := rfl
theorem pk_31 : (31 : Int32) = Int32.ofNat 31 := rfl
theorem pk_32 : (32 : Int32) = Int32.ofNat 32 := rfl
theorem pk_33 : (33 : Int32) = Int32.ofNat 33 := rfl
theorem pk_44 : (44 : Int32) = Int32.ofNat 44 := rfl
theorem pk_45 : (45 : Int32) = Int32.ofNat 45 := rfl
theorem pk_46 : (46 : Int32) = Int32.ofNat 46 := rfl
theorem pk_48 : (48 : Int32) = Int32.ofNat 48 := rfl
theorem pk_50 : (50 : Int32) = Int32.ofNat 50 := rfl
theorem pk_57 : (57 : Int32) = Int32.ofNat 57 := rfl
theorem pk_59 : (59 : Int32) = Int32.ofNat 59 := rfl
theorem pk_60 : (60 : Int32) = Int32.ofNat 60 := rfl
theorem pk_63 : (63 : Int32) = Int32.ofNat 63 := rfl
theorem pk_67 : (67 : Int32) = Int32.ofNat 67 := rfl
theorem pk_69 : (69 : Int32) = Int32.ofNat 69 := rfl
theorem pk_76 : (76 : Int32) = Int32.ofNat 76 := rfl
theorem pk_78 : (78 : Int32) = Int32.ofNat 78 := rfl
theorem pk_79 : (79 : Int32) = Int32.ofNat 79 := rfl
theorem pk_80 : (80 : Int32) = Int32.ofNat 80 := rfl
theorem pk_83 : (83 : Int32) = Int32.ofNat 83 := rfl
theorem pk_86 : (86 : Int32) = Int32.ofNat 86 := rfl
theorem pk_87 : (87 : Int32) = Int32.ofNat 87 := rfl
theorem pk_90 : (90 : Int32) = Int32.ofNat 90 := rfl
theorem pk_97 : (97 : Int32) = Int32.ofNat 97 := rfl
theorem pk_99 : (99 : Int32) = Int32.ofNat 99 := rfl
theorem pk_100 : (100 : Int32) = Int32.ofNat 100 := rfl
theorem pk_110 : (110 : Int32) = Int32.ofNat 110 := rfl
theorem pk_116 : (116 : Int32) = Int32.ofNat 116 := rfl
theorem pk_122 : (122 : Int32) = Int32.ofNat 122 := rfl
theorem pk_126 : (126 : Int32) = Int32.ofNat 126 := rfl
theorem pk_160 : (160 : Int32) = Int32.ofNat 160 := rfl
theorem pk_190 : (190 : Int32) = Int32.ofNat 190 := rfl
theorem pk_255 : (255 : Int32) = Int32.ofNat 255 := rfl
theorem pk_280 : (280 : Int32) = Int32.ofNat 280 := rfl
theorem pk_281 : (281 : Int32) = Int32.ofNat 281 := rfl
theorem pk_500 : (500 : Int32) = Int32.ofNat 500 := rfl
theorem pk_620 : (620 : Int32) = Int32.ofNat 620 := rfl
theorem pk_668 : (668 : Int32) = Int32.ofNat 668 := rfl
theorem pk_1000 : (1000 : Int32) = Int32.ofNat 1000 := rfl
theorem pk_3340 : (3340 : Int32) = Int32.ofNat 3340 := rfl
theorem pk_4008 : (4008 : Int32) = Int32.ofNat 4008 := rfl
theorem pk_5000 : (5000 : Int32) = Int32.ofNat 5000 := rfl
theorem pk_65536 : (65536 : Int32) = Int32.ofNat 65536 := rfl
theorem pk_1000000 : (1000000 : Int32) = Int32.ofNat 1000000 := rfl
theorem pk_2000000 : (2000000 : Int32) = Int32.ofNat 2000000 := rfl
theorem pk_3000000 : (3000000 : Int32) = Int32.ofNat 3000000 := rfl
theorem pk_252645135 : (252645135 : Int32) = Int32.ofNat 252645135 := rfl
theorem pk_858993459 : (858993459 : Int32) = Int32.ofNat 858993459 := rfl
theorem pk_1431655765 : (1431655765 : Int32) = Int32.ofNat 1431655765 := rfl
theorem pl_add (a b : Nat) : Int32.ofNat a + Int32.ofNat b = Int32.ofNat (a + b) := (Int32.ofNat_add a b).symm
theorem pl_mul (a b : Nat) : Int32.ofNat a * Int32.ofNat b = Int32.ofNat (a * b) := (Int32.ofNat_mul a b).symm
theorem pl_le {a b : Nat} (ha : a < 2147483648) (hb : b < 2147483648) : Int32.ofNat a ≤ Int32.ofNat b ↔ a ≤ b := Int32.ofNat_le_iff_le ha hb
theorem pl_lt {a b : Nat} (ha : a < 2147483648) (hb : b < 2147483648) : Int32.ofNat a < Int32.ofNat b ↔ a < b := Int32.ofNat_lt_iff_lt ha hb
theorem pl_eq {a b : Nat} (ha : a < 2147483648) (hb : b < 2147483648) : Int32.ofNat a = Int32.ofNat b ↔ a = b := by
  constructor
  · intro h
    have h1 := congrArg Int32.toNatClampNeg h
    rwa [Int32.toNatClampNeg_ofNat_of_lt ha, Int32.toNatClampNeg_ofNat_of_lt hb] at h1
  · rintro rfl
    rfl
theorem pl_clamp {a : Nat} (ha : a < 2147483648) : Int32.toNatClampNeg (Int32.ofNat a) = a := Int32.toNatClampNeg_ofNat_of_lt ha
theorem pl_nonneg {a : Nat} (ha : a < 2147483648) : (0 : Int32) ≤ Int32.ofNat a := by rw [pk_0]; exact (pl_le (a := 0) (by omega) ha).mpr (Nat.zero_le _)
theorem pl_not0 {a : Nat} (ha : a < 2147483648) : Int32.ofNat a < 0 ↔ False := ⟨fun h => by have h1 := pl_nonneg ha; grind, False.elim⟩
theorem pl_neg1 {a : Nat} (ha : a < 2147483648) : Int32.ofNat a = -Int32.ofNat 1 ↔ False := ⟨fun h => by have h1 := pl_nonneg ha; rw [← pk_1] at h; grind, False.elim⟩
theorem pl_neg1' {a : Nat} (ha : a < 2147483648) : -Int32.ofNat 1 = Int32.ofNat a ↔ False := ⟨fun h => (pl_neg1 ha).mp h.symm, False.elim⟩
theorem pl_in {a n : Nat} (ha : a < 2147483648) : (po_in (Int32.ofNat a) n = true) ↔ a < n := by
  unfold po_in
  rw [decide_eq_true_iff, pl_not0 ha, pl_clamp ha, false_or]
  omega
theorem pl_inl {a n : Nat} (h : a < n) (ha : a < 2147483648) : po_in (Int32.ofNat a) n = true := (pl_in ha).mpr h
theorem pl_of {x : Int32} (h : 0 ≤ x) : ∃ k, k < 2147483648 ∧ x = Int32.ofNat k := by
  refine ⟨x.toNatClampNeg, Int32.toNatClampNeg_lt x, ?_⟩
  apply Int32.toInt.inj
  rw [Int32.toInt_ofNat_of_lt (Int32.toNatClampNeg_lt x)]
  exact Int32.toInt_eq_toNatClampNeg h
/-- a truth as a number -/
def pb (b : Bool) : Int32 := if b = true then 1 else 0
theorem pb_eq0 (b : Bool) : pb b = 0 ↔ b = false := by cases b <;> simp [pb] <;> decide
theorem pb_nar (b : Bool) : vp_nar .boolean (pb b) = pb b := by cases b <;> rfl
theorem pb_if {α : Type} (b : Bool) (A B : α) : (if pb b = Int32.ofNat 0 then A else B) = (if b = true then B else A) := by cases b <;> rfl
theorem pb_t' : Int32.ofNat 1 = pb true := rfl
theorem pb_f' : Int32.ofNat 0 = pb false := rfl
theorem pb_t : pb true = 1 := rfl
theorem pb_f : pb false = 0 := rfl
theorem pn_0 : vp_nar .boolean 0 = 0 := rfl
theorem pn_1 : vp_nar .boolean 1 = 1 := rfl
theorem po_uu {α : Type} (f : Nat → Nat → α) (a j : Nat) (v : α) (b k : Nat) : po_u f a j v b k = if b = a ∧ k = j then v else f b k := by
  unfold po_u
  by_cases h : b = a
  · subst h
    simp [vf_upd]
  · simp [h]
theorem q_isIn (x lo hi : Int32) : m_X8_isIn x lo hi = some (pb (decide (lo ≤ x ∧ x ≤ hi))) := by
  unfold m_X8_isIn m_X8_isIn_e m_X8_isIn_14 m_X8_isIn_15
  by_cases h1 : x < lo
  · rw [if_pos h1, if_pos pn_0, show decide (lo ≤ x ∧ x ≤ hi) = false by grind]; rfl
  · rw [if_neg h1]
    by_cases h2 : hi < x
    · rw [if_pos h2, if_pos pn_0, show decide (lo ≤ x ∧ x ≤ hi) = false by grind]; rfl
    · rw [if_neg h2, if_pos pn_1, show decide (lo ≤ x ∧ x ≤ hi) = true by grind]; rfl
def pfold {σ : Type} (g : Nat → σ → σ) : Nat → σ → σ
  | 0, s => s
  | n + 1, s => g n (pfold g n s)
theorem pl_fold {σ τ : Type} {L : Nat → σ → Nat → τ} {n : Nat} {g : Nat → σ → σ} {E : σ → τ} (st : ∀ f s k, k < n → L (f + 1) s k = L f (g k s) (k + 1)) (en : ∀ f s, L (f + 1) s n = E s) {f : Nat} (hf : n < f) (s : σ) : L f s 0 = E (pfold g n s) :=
  po_inv (L := L) (n := n) (fun k s' => s' = pfold g k s) (fun t => t = E (pfold g n s)) (fun f s' k hk h => Or.inl ⟨g k s', by rw [h]; rfl, st f s' k hk⟩) (fun f s' h => by rw [en, h]) n f s 0 (by omega) hf rfl
def pany (p : Nat → Bool) : Nat → Bool
  | 0 => false
  | n + 1 => pany p n || p n
theorem pany_fold (p : Nat → Bool) (x : Bool) : ∀ n, pfold (fun k (x : Bool) => x || p k) n x = (x || pany p n)
  | 0 => by simp [pfold, pany]
  | n + 1 => by simp [pfold, pany, pany_fold p x n, Bool.or_assoc]
theorem pany_iff (p : Nat → Bool) : ∀ n, pany p n = true ↔ ∃ k, k < n ∧ p k = true
  | 0 => by simp [pany]
  | n + 1 => by
    rw [pany, Bool.or_eq_true, pany_iff p n]
    constructor
    · rintro (⟨k, h1, h2⟩ | h)
      · exact ⟨k, by omega, h2⟩
      · exact ⟨n, by omega, h⟩
    · rintro ⟨k, h1, h2⟩
      by_cases h : k = n
      · subst h; exact Or.inr h2
      · exact Or.inl ⟨k, by omega, h2⟩
theorem pany_congr {p q : Nat → Bool} : ∀ {n : Nat}, (∀ k, k < n → p k = q k) → pany p n = pany q n
  | 0, _ => rfl
  | n + 1, h => by rw [pany, pany, pany_congr (fun k hk => h k (by omega)), h n (by omega)]
/-- how many -/
def pc (p : Nat → Bool) : Nat → Nat
  | 0 => 0
  | n + 1 => pc p n + (if p n = true then 1 else 0)
theorem pc_le (p : Nat → Bool) : ∀ n, pc p n ≤ n
  | 0 => Nat.le_refl _
  | n + 1 => by have := pc_le p n; rw [pc]; split <;> omega
theorem pc_congr {p q : Nat → Bool} : ∀ {n : Nat}, (∀ k, k < n → p k = q k) → pc p n = pc q n
  | 0, _ => rfl
  | n + 1, h => by rw [pc, pc, pc_congr (fun k hk => h k (by omega)), h n (by omega)]
theorem pc_fold (p : Nat → Bool) (s : Nat) : ∀ n, pfold (fun k (x : Nat) => x + (if p k = true then 1 else 0)) n s = s + pc p n
  | 0 => rfl
  | n + 1 => by simp only [pfold, pc, pc_fold p s n]; omega
theorem pc_pos {p : Nat → Bool} : ∀ {n : Nat} (k : Nat), k < n → p k = true → 0 < pc p n
  | n + 1, k, hk, h => by
    rw [pc]
    by_cases e : k = n
    · subst e; rw [if_pos h]; omega
    · have := pc_pos (p := p) (n := n) k (by omega) h; omega
theorem pc_add (p : Nat → Bool) (m : Nat) : ∀ n, pc p (m + n) = pc p m + pc (fun k => p (m + k)) n
  | 0 => rfl
  | n + 1 => by rw [← Nat.add_assoc, pc, pc, pc_add p m n]; omega
def psum (g : Nat → Nat) : Nat → Nat
  | 0 => 0
  | n + 1 => psum g n + g n
theorem psum_congr {p q : Nat → Nat} : ∀ {n : Nat}, (∀ k, k < n → p k = q k) → psum p n = psum q n
  | 0, _ => rfl
  | n + 1, h => by rw [psum, psum, psum_congr (fun k hk => h k (by omega)), h n (by omega)]
theorem psum_le {g : Nat → Nat} {m : Nat} : ∀ {n : Nat}, (∀ k, k < n → g k ≤ m) → psum g n ≤ n * m
  | 0, _ => by simp [psum]
  | n + 1, h => by have := psum_le (g := g) (m := m) (n := n) (fun k hk => h k (by omega)); have := h n (by omega); rw [psum, Nat.succ_mul]; omega
theorem psum_fold (g : Nat → Nat) (s : Nat) : ∀ n, pfold (fun k (x : Nat) => x + g k) n s = s + psum g n
  | 0 => rfl
  | n + 1 => by simp only [pfold, psum, psum_fold g s n]; omega
/-- the first of some -/
def pfind (p : Nat → Bool) : Nat → Option Nat
  | 0 => none
  | n + 1 => match pfind p n with
    | some k => some k
    | none => if p n = true then some n else none
theorem pl_find {τ : Type} {L : Nat → Nat → τ} {n : Nat} {p : Nat → Bool} {A : Nat → τ} {B : τ} (st : ∀ f k, k < n → L (f + 1) k = if p k = true then A k else L f (k + 1)) (en : ∀ f, L (f + 1) n = B) {f : Nat} (hf : n < f) : L f 0 = match pfind p n with
    | some k => A k
    | none => B := by
  have hk : ∀ m k, m ≤ n → pfind p m = some k → ∀ d, pfind p (m + d) = some k := by
    intro m k hm h d
    induction d with
    | zero => exact h
    | succ d ih => rw [← Nat.add_assoc, pfind, ih]
  refine po_inv (L := fun f (_ : Unit) k => L f k) (n := n) (fun k _ => k ≤ n ∧ pfind p k = none) (fun t => t = match pfind p n with
    | some k => A k
    | none => B) ?_ ?_ n f () 0 (by omega) hf ⟨by omega, rfl⟩
  · intro f _ k hkn h
    show (∃ s' : Unit, _ ∧ L (f + 1) k = L f (k + 1)) ∨ L (f + 1) k = _
    rw [st f k hkn]
    by_cases hp : p k = true
    · right
      rw [if_pos hp]
      have h1 : pfind p (k + 1) = some k := by rw [pfind, h.2]; simp [hp]
      have h2 := hk (k + 1) k (by omega) h1 (n - (k + 1))
      rw [show k + 1 + (n - (k + 1)) = n by omega] at h2
      rw [h2]
    · left
      rw [if_neg hp]
      exact ⟨(), ⟨by omega, by rw [pfind, h.2]; simp [hp]⟩, rfl⟩
  · intro f _ h
    show L (f + 1) n = _
    rw [en, h.2]
theorem pfind_congr {p q : Nat → Bool} : ∀ {n : Nat}, (∀ k, k < n → p k = q k) → pfind p n = pfind q n
  | 0, _ => rfl
  | n + 1, h => by rw [pfind, pfind, pfind_congr (fun k hk => h k (by omega)), h n (by omega)]
theorem pfind_some {p : Nat → Bool} : ∀ {n k : Nat}, pfind p n = some k → k < n ∧ p k = true ∧ ∀ j, j < k → p j = false
  | n + 1, k, h => by
    rw [pfind] at h
    cases e : pfind p n with
    | some j => rw [e] at h; obtain rfl := Option.some.inj h; have := pfind_some e; exact ⟨by omega, this.2⟩
    | none =>
      rw [e] at h
      by_cases hp : p n = true
      · simp only [hp, if_true] at h
        obtain rfl := Option.some.inj h
        refine ⟨by omega, hp, fun j hj => ?_⟩
        have hn : ∀ m, pfind p m = none → ∀ j, j < m → p j = false := by
          intro m
          induction m with
          | zero => intro _ j hj; omega
          | succ m ih =>
            intro hm j hj
            rw [pfind] at hm
            cases e' : pfind p m with
            | some j => rw [e'] at hm; cases hm
            | none =>
              rw [e'] at hm
              by_cases hpm : p m = true
              · simp [hpm] at hm
              · by_cases hjm : j = m
                · subst hjm; simpa using hpm
                · exact ih e' j (by omega)
        exact hn n e j hj
      · simp [hp] at h
theorem pfind_none {p : Nat → Bool} : ∀ {n : Nat}, pfind p n = none → ∀ j, j < n → p j = false
  | n + 1, hm, j, hj => by
    rw [pfind] at hm
    cases e' : pfind p n with
    | some j => rw [e'] at hm; cases hm
    | none =>
      rw [e'] at hm
      by_cases hpm : p n = true
      · simp [hpm] at hm
      · by_cases hjm : j = n
        · subst hjm; simpa using hpm
        · exact pfind_none e' j (by omega)
/-! a row of the model -/
abbrev po_N : Type := Nat → Int32
def pv (N : po_N) (j : Nat) : Nat := (N j).toNatClampNeg
def pv_c (N : po_N) (j lo hi : Nat) : Prop := N j = Int32.ofNat (pv N j) ∧ lo ≤ pv N j ∧ pv N j ≤ hi
/-- one rectangle has a cell -/
def pa_r (N : po_N) (b k : Nat) (c r : Int32) : Bool := decide (N (b + 3 + 4 * k) ≤ c ∧ c ≤ N (b + 3 + 4 * k) + N (b + 3 + 4 * k + 2) - 1 ∧ N (b + 3 + 4 * k + 1) ≤ r ∧ r ≤ N (b + 3 + 4 * k + 1) + N (b + 3 + 4 * k + 3) - 1)
/-- an area has a cell -/
def pa_in (N : po_N) (b : Nat) (c r : Int32) : Bool := pa_r N b 0 c r || (decide (2 ≤ pv N (b + 2)) && pa_r N b 1 c r) || (decide (3 ≤ pv N (b + 2)) && pa_r N b 2 c r)
/-- a rectangle lies in the town -/
def pa_rv (N : po_N) (b k : Nat) : Prop := pv_c N (b + 3 + 4 * k) 0 19 ∧ pv_c N (b + 3 + 4 * k + 1) 0 13 ∧ pv_c N (b + 3 + 4 * k + 2) 1 9 ∧ pv_c N (b + 3 + 4 * k + 3) 1 9 ∧ pv N (b + 3 + 4 * k) + pv N (b + 3 + 4 * k + 2) ≤ 20 ∧ pv N (b + 3 + 4 * k + 1) + pv N (b + 3 + 4 * k + 3) ≤ 14
def pa_v (N : po_N) (b : Nat) : Prop := pv_c N (b + 2) 1 3 ∧ pa_rv N b 0 ∧ (2 ≤ pv N (b + 2) → pa_rv N b 1) ∧ (3 ≤ pv N (b + 2) → pa_rv N b 2)
def pP (N : po_N) (b : Nat) : Prop := pv_c N b 0 7 ∧ pv N b < pv N 1 ∧ pv_c N (b + 1) 0 5 ∧ pa_v N b ∧ pv_c N (b + 17) 1 9 ∧ pv_c N (b + 18) 0 9 ∧ pv_c N (b + 19) 0 6 ∧ pv_c N (b + 20) 0 4 ∧ pv_c N (b + 21) 0 3 ∧ pv_c N (b + 23) 0 1 ∧ pv_c N (b + 24) 0 4095 ∧ pv_c N (b + 45) 0 6 ∧
  (pv N (b + 19) = 2 → pv_c N (b + 22) 0 200000 ∧ pv N (b + 20) ≤ 3 ∧ pv N (b + 21) ≤ 2) ∧ (pv N (b + 19) = 6 → pv N (b + 20) ≤ 3) ∧
  (∀ i, i < pv N (b + 45) → pv_c N (b + 29 + i) 0 4000)
def pV (N : po_N) : Prop := pv_c N 0 0 100000 ∧ pv_c N 1 0 8 ∧ pv_c N 2 0 10 ∧ pv_c N 3 0 12 ∧
  (∀ z, z < 4 → pv_c N (4 + 7 * z) 0 9 ∧ pv_c N (4 + 7 * z + 1) 0 9 ∧ pv_c N (4 + 7 * z + 2) 0 99 ∧ pv_c N (4 + 7 * z + 3) 1 9 ∧ pv_c N (4 + 7 * z + 4) 1 99 ∧ pv_c N (4 + 7 * z + 5) 0 63 ∧ pv_c N (4 + 7 * z + 6) 0 9) ∧
  (∀ k, k < pv N 1 → pv_c N (32 + 16 * k) 0 3 ∧ pv_c N (32 + 16 * k + 1) 0 3 ∧ pa_v N (32 + 16 * k)) ∧
  (∀ k, k < pv N 2 → pP N (160 + 46 * k)) ∧
  (∀ k, k < pv N 3 → pv_c N (620 + 4 * k) 0 7 ∧ pv_c N (620 + 4 * k + 1) 2 8 ∧ pv_c N (620 + 4 * k + 2) 1 99 ∧ pv_c N (620 + 4 * k + 3) 0 200000)
theorem pl_div {a b : Nat} (ha : a < 2147483648) (hb : b < 2147483648) : Int32.ofNat a / Int32.ofNat b = Int32.ofNat (a / b) := (Int32.ofNat_div ha hb).symm
theorem pl_sub {a b : Nat} (h : b ≤ a) : Int32.ofNat a - Int32.ofNat b = Int32.ofNat (a - b) := (Int32.ofNat_sub a b h).symm
theorem pl_xy {k : Nat} (hk : k < 2147483648) : Int32.ofNat k - Int32.ofNat k / Int32.ofNat 20 * Int32.ofNat 20 = Int32.ofNat (k % 20) := by
  rw [pl_div hk (by omega), pl_mul, pl_sub (by omega)]
  congr 1
  omega
