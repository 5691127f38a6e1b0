section QS
variable {I : po_I} {M t k : Nat} {S : Int32 → Int32 → Bool}
/-- open sides of a set -/
def ps_sd (S : Int32 → Int32 → Bool) : Nat := psum (fun d => ps_n (fun c r => S c r && !pnb S d c r)) 4
theorem psum_add (f g : Nat → Nat) : ∀ n, psum (fun k => f k + g k) n = psum f n + psum g n
  | 0 => rfl
  | n + 1 => by simp only [psum, psum_add f g n]; omega
theorem pc_psum (p : Nat → Bool) : ∀ n, pc p n = psum (fun k => if p k = true then 1 else 0) n
  | 0 => rfl
  | n + 1 => by rw [pc, psum, pc_psum p n]
theorem x_sides (hS : pAR I t S) (hb : pbnd S) : m_X0_untouchedSides I t = some (Int32.ofNat (ps_sd S)) := by
  show m_X0_untouchedSides_4L I 5000 t (Int32.ofNat 0) (Int32.ofNat 0) = _
  refine (pl_fold (L := fun f x k => m_X0_untouchedSides_4L I f t (Int32.ofNat x) (Int32.ofNat k)) (n := 14) (g := fun r x => x + (pc (fun c => S (Int32.ofNat c) (Int32.ofNat r) && !pnb S 0 (Int32.ofNat c) (Int32.ofNat r)) 20 + pc (fun c => S (Int32.ofNat c) (Int32.ofNat r) && !pnb S 2 (Int32.ofNat c) (Int32.ofNat r)) 20 + (pc (fun c => S (Int32.ofNat c) (Int32.ofNat r) && !pnb S 3 (Int32.ofNat c) (Int32.ofNat r)) 20 + pc (fun c => S (Int32.ofNat c) (Int32.ofNat r) && !pnb S 1 (Int32.ofNat c) (Int32.ofNat r)) 20))) (E := fun x => some (Int32.ofNat x)) ?_ ?_ (by omega) 0).trans ?_
  · intro f x r hr
    have hup : ∃ u, m_X0_rowOf I t (Int32.ofNat r - 1) = some u ∧ ∀ c, c < 20 → bt u c = pnb S 0 (Int32.ofNat c) (Int32.ofNat r) := by
      by_cases h : 1 ≤ r
      · refine ⟨I (t + 1) (r - 1), ?_, fun c hc => ?_⟩
        · rw [pk_1, pl_sub h]; exact x_rowOf (by omega)
        · rw [hS (r - 1) (by omega) c (by omega), pnb_n hb hc hr, decide_eq_true hc, decide_eq_true h]
      · obtain rfl : r = 0 := by omega
        refine ⟨0, rfl, fun c hc => ?_⟩
        rw [bt_zero, pnb_n hb hc hr]; rfl
    have hdn : ∃ u, m_X0_rowOf I t (Int32.ofNat (r + 1)) = some u ∧ ∀ c, c < 20 → bt u c = pnb S 2 (Int32.ofNat c) (Int32.ofNat r) := by
      by_cases h : r < 13
      · refine ⟨I (t + 1) (r + 1), x_rowOf (by omega), fun c hc => ?_⟩
        rw [hS (r + 1) (by omega) c (by omega), pnb_s hb hc hr, decide_eq_true hc, decide_eq_true h]
      · obtain rfl : r = 13 := by omega
        refine ⟨0, rfl, fun c hc => ?_⟩
        rw [bt_zero, pnb_s hb hc hr]; rfl
    obtain ⟨u, u1, u2⟩ := hup
    obtain ⟨w, w1, w2⟩ := hdn
    have hcnt : ∀ (z : Int32) (d : Nat), (∀ c, c < 20 → bt z c = pnb S d (Int32.ofNat c) (Int32.ofNat r)) → pc (bt (I (t + 1) r &&& (z ^^^ (-1)))) 32 = pc (fun c => S (Int32.ofNat c) (Int32.ofNat r) && !pnb S d (Int32.ofNat c) (Int32.ofNat r)) 20 := by
      intro z d hz
      refine pc_row (fun c hc => ?_)
      rw [bt_and, bt_not _ hc, hS r hr c hc]
      by_cases hc2 : c < 20
      · rw [hz c hc2, decide_eq_true hc2]; simp
      · rw [decide_eq_false hc2]; simp
    show m_X0_untouchedSides_4 I _ _ _ _ = _
    unfold m_X0_untouchedSides_4
    simp only [po_let]
    rw [if_neg (show ¬ (14 : Int32) ≤ Int32.ofNat r from mt (pl_le (a := 14) (by omega) (by omega)).mp (by omega)), if_pos (pl_inl hr (by omega)), pl_clamp (by omega), show Int32.ofNat r + 1 = Int32.ofNat (r + 1) from pl_add r 1, u1, Option.bind_some, q_bitCount, Option.bind_some, w1, Option.bind_some, q_bitCount, Option.bind_some, q_bitCount, Option.bind_some, q_bitCount, Option.bind_some]
    rw [hcnt u 0 u2, hcnt w 2 w2]
    rw [hcnt (I (t + 1) r <<< (1 &&& 31)) 3 (fun c hc => by
      rw [bt_shl _ (by omega), pnb_w hb hc]
      by_cases e : 1 ≤ c
      · rw [hS r hr (c - 1) (by omega), decide_eq_true (p := c - 1 < 20) (by omega)]; rfl
      · rw [decide_eq_false e]; rfl)]
    rw [hcnt (I (t + 1) r >>> (1 &&& 31)) 1 (fun c hc => by
      rw [bt_shr _ (by omega), pnb_e hb hc, hS r hr (c + 1) (by omega), show decide (c + 1 < 20) = decide (c < 19) from decide_eq_decide.mpr (by omega)])]
    rw [pl_add, pl_add, pl_add, pl_add, Nat.add_assoc]
  · intro f x
    rfl
  · rw [psum_fold, Nat.zero_add]
    refine congrArg (fun z => some (Int32.ofNat z)) ?_
    have e : ps_sd S = 0 + ps_n (fun c r => S c r && !pnb S 0 c r) + ps_n (fun c r => S c r && !pnb S 1 c r) + ps_n (fun c r => S c r && !pnb S 2 c r) + ps_n (fun c r => S c r && !pnb S 3 c r) := rfl
    rw [e, ps_n_rows, ps_n_rows, ps_n_rows, ps_n_rows, psum_add, psum_add, psum_add]
    omega
end QS
