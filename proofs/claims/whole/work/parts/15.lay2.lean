/-! more rows for the printed walks -/
noncomputable def po_gn {α : Type} (c : Prop) (A : Option α) : Option α := @ite _ c (Classical.propDecidable c) A none
theorem po_gnE {c : Prop} {ρ : Type} {A : Option ρ} {r : ρ} (hm : po_gn c A = some r) : c ∧ A = some r := by
  unfold po_gn at hm
  by_cases h : c
  · rw [if_pos h] at hm; exact ⟨h, hm⟩
  · rw [if_neg h] at hm; cases hm
theorem po_zif {v : Int32} {ρ : Type} {A : Option ρ} {r : ρ} (hm : (if vp_nar .boolean v = v then A else none) = some r) : vp_nar .boolean v = v ∧ A = some r := by
  by_cases h : vp_nar .boolean v = v
  · rw [if_pos h] at hm; exact ⟨h, hm⟩
  · rw [if_neg h] at hm; cases hm
def po_oi (x : Int32 ⊕ String) : Option Value ⊕ String := match x with
  | .inl v => .inl (some (.int v))
  | .inr E => .inr E
def po_or (x : Nat ⊕ String) : Option Value ⊕ String := match x with
  | .inl v => .inl (some (.ref v))
  | .inr E => .inr E
def po_of (x : UInt32 ⊕ String) : Option Value ⊕ String := match x with
  | .inl v => .inl (some (.float v))
  | .inr E => .inr E
section PZ
variable {X : po_X} {G : po_G} {N : Nat} {Q : State → Prop} {k n pc : Nat} {L L' : List (Nat × Value)} {S : List Value} {K : po_K} {R : po_R} {I : po_I} {z : Option Nat} {cc : ByteArray} {own : String} {st : Nat → Nat}
theorem po_aloadN_n (hF : po_F X G cc own N st) {m : Fin 4} {i : Nat} (d : decode cc pc = .ok (.aload_n m, 1)) (hi : (m : Nat) = i) (h : po_get L i = some .null) (kk : po_V X G N Q k n (pc + 1) L (.null :: S) K R I z) : po_V X G N Q k n pc L S K R I z := fun H locs ls hl hP hS => lv_aload_nN hF.1 hF.2.1 d hi (po_get_at hl h) (kk H locs ls hl hP hS)
theorem po_aloadN (hF : po_F X G cc own N st) {i : Nat} (d : decode cc pc = .ok (.aload i, 2)) (h : po_get L i = some .null) (kk : po_V X G N Q k n (pc + 2) L (.null :: S) K R I z) : po_V X G N Q k n pc L S K R I z := fun H locs ls hl hP hS => lv_aloadN hF.1 hF.2.1 d (po_get_at hl h) (kk H locs ls hl hP hS)
/-- the row of the past towns gets another town -/
theorem ly_put (HL : po_Lay K R st) {o t j : Nat} (ko : K o = (18, 8)) (kt : K t = (16, 8)) (hj : j < 6) : po_Lay K (po_u R (o + 281) j (.ref t)) st := by
  have hp : K (o + 281) = (10, 6) := (ly_7_6 HL ko).2
  have ne : ∀ {a : Nat} {q : Nat × Nat}, K a = q → q ≠ (10, 6) → po_u R (o + 281) j (.ref t) a = R a := fun {a q} h h2 => po_u_ne (fun e => h2 (by rw [← h, e, hp]))
  refine ⟨fun a => ?_, HL.2⟩
  obtain ⟨h0, h1, h2, h3, h4, h5, h7, h8⟩ := HL.1 a
  refine ⟨fun k => ?_, fun k => ?_, fun k => ?_, fun k => ?_, fun k => ?_, fun k => ?_, fun k => ?_, fun k => ?_⟩
  · have h := h0 k
    unfold po_Ly0 at h ⊢
    rw [ne k (by decide)]; exact h
  · have h := h1 k
    unfold po_Ly1 at h ⊢
    rw [ne k (by decide)]; exact h
  · have h := h2 k
    unfold po_Ly2 at h ⊢
    rw [ne k (by decide)]; exact h
  · have h := h3 k
    unfold po_Ly3 at h ⊢
    rw [ne k (by decide)]; exact h
  · have h := h4 k
    unfold po_Ly4 at h ⊢
    rw [ne k (by decide)]; exact h
  · have h := h5 k
    unfold po_Ly5 at h ⊢
    rw [ne k (by decide), ne h.2.1.2 (by decide), ne h.2.2.2.1.2 (by decide), ne h.2.2.2.2.2.1.2 (by decide)]; exact h
  · have h := h7 k
    unfold po_Ly7 at h ⊢
    rw [ne k (by decide)]
    refine ⟨h.1, h.2.1, h.2.2.1, h.2.2.2.1, h.2.2.2.2.1, h.2.2.2.2.2.1, fun i hi => ?_⟩
    have hq := h.2.2.2.2.2.2 i hi
    by_cases ha : a + 281 = o + 281
    · rw [ha, po_u_at]
      rw [ha] at hq
      by_cases hij : i = j
      · simp only [vf_upd, hij, if_true, po_rf]
        exact ⟨trivial, kt⟩
      · simp only [vf_upd, if_neg hij]
        exact hq
    · rw [po_u_ne ha]
      exact hq
  · have h := h8 k
    unfold po_Ly8 at h ⊢
    rw [ne k (by decide)]; exact h
end PZ
