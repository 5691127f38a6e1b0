/-! THE LAW: what its walk stands on -/
section LW0
variable {K : po_K} {R : po_R} {I : po_I} {st : Nat → Nat} {o M q n : Nat}
theorem ly_oth (HL : po_Lay K R st) {j c : Nat} {v : Value} (kq : K q = (c, 1)) (hc : c = 5 ∨ c = 6) : po_Lay K (po_u R q j v) st := by
  have ne : ∀ {a : Nat} {d : Nat × Nat}, K a = d → d.1 ≠ 5 → d.1 ≠ 6 → po_u R q j v a = R a := fun {a d} h h5 h6 => po_u_ne (fun e => by
    have e2 : d = (c, 1) := by rw [← h, e, kq]
    rcases hc with rfl | rfl
    · exact h5 (by rw [e2])
    · exact h6 (by rw [e2]))
  refine ⟨fun a => ?_, HL.2⟩
  obtain ⟨h0, h1, h2, h3, h4, h5, h7, h8⟩ := HL.1 a
  refine ⟨fun k => ?_, fun k => ?_, fun k => ?_, fun k => ?_, fun k => ?_, fun k => ?_, fun k => ?_, fun k => ?_⟩
  · have h := h0 k
    unfold po_Ly0 at h ⊢
    rw [ne k (by decide) (by decide)]; exact h
  · have h := h1 k
    unfold po_Ly1 at h ⊢
    rw [ne k (by decide) (by decide)]; exact h
  · have h := h2 k
    unfold po_Ly2 at h ⊢
    rw [ne k (by decide) (by decide)]; exact h
  · have h := h3 k
    unfold po_Ly3 at h ⊢
    rw [ne k (by decide) (by decide)]; exact h
  · have h := h4 k
    unfold po_Ly4 at h ⊢
    rw [ne k (by decide) (by decide)]; exact h
  · have h := h5 k
    unfold po_Ly5 at h ⊢
    rw [ne k (by decide) (by decide), ne h.2.1.2 (by decide) (by decide), ne h.2.2.2.1.2 (by decide) (by decide), ne h.2.2.2.2.2.1.2 (by decide) (by decide)]; exact h
  · have h := h7 k
    unfold po_Ly7 at h ⊢
    rw [ne k (by decide) (by decide), ne h.2.2.2.2.2.1.2 (by decide) (by decide)]; exact h
  · have h := h8 k
    unfold po_Ly8 at h ⊢
    rw [ne k (by decide) (by decide)]; exact h
theorem ly_wR (HL : po_Lay K R st) (kq : K q = (5, 1)) (w : Int32 ⊕ String) : po_Lay K (wR R q w) st := by
  cases w with
  | inl x => exact ly_oth HL kq (Or.inl rfl)
  | inr E => exact HL
theorem ly_wZ (HL : po_Lay K R st) (kq : K q = (5, 1)) (w : Int32 ⊕ String) : po_Lay K (wZ R q w) st := by
  cases w with
  | inl x => exact ly_oth HL kq (Or.inl rfl)
  | inr E => exact HL
theorem ly_wD (HL : po_Lay K R st) (kq : K q = (6, 1)) (w : UInt32 ⊕ String) : po_Lay K (wD R q w) st := by
  cases w with
  | inl x => exact ly_oth HL kq (Or.inr rfl)
  | inr E => exact HL
theorem pInv_R {R' : po_R} (h : pInv I R o M st n) (e : R' (o + 281) = R (o + 281)) : pInv I R' o M st n := by
  obtain ⟨h1, ⟨u, b1, b2, b3, b4, b5⟩, h3⟩ := h
  refine ⟨h1, ⟨u, b1, b2, b3, ?_, fun i hi => ?_⟩, h3⟩
  · unfold pPA at b4 ⊢
    rw [e]; exact b4
  · obtain ⟨g1, g2, g3⟩ := b5 i hi
    refine ⟨g1, g2, ?_⟩
    unfold pad at g3 ⊢
    rw [e]; exact g3
theorem wR_at (R : po_R) (o : Nat) (w : Int32 ⊕ String) : wR R (o + 836) w (o + 281) = R (o + 281) := by
  cases w with
  | inl x => exact po_u_ne (by omega)
  | inr E => rfl
theorem wZ_at (R : po_R) (o : Nat) (w : Int32 ⊕ String) : wZ R (o + 836) w (o + 281) = R (o + 281) := by
  cases w with
  | inl x => exact po_u_ne (by omega)
  | inr E => rfl
theorem wD_at (R : po_R) (o : Nat) (w : UInt32 ⊕ String) : wD R (o + 837) w (o + 281) = R (o + 281) := by
  cases w with
  | inl x => exact po_u_ne (by omega)
  | inr E => rfl
end LW0
/-- what holds all along the law's walk: the machine, the script, the law's own cells -/
def lwX (X : po_X) (G : po_G) (st : Nat → Nat) (b Ls : Nat) (xs : Nat → Int32) : Prop := po_F X G cL_law RL 8 st ∧ X.2.2.2.1 = room_1 ∧ va_X b Ls xs X.2.2.2.2.1 X.2.2.2.2.1.heap ∧ b < X.2.2.2.2.1.heap.size ∧ ¬ po_A G b
def lwK (K : po_K) (o : Nat) : Prop := K o = (18, 8) ∧ K (o + 828) = (19, 19) ∧ K (o + 836) = (5, 1) ∧ K (o + 837) = (6, 1)
abbrev lwL (b o : Nat) (i : Int32) : List (Nat × Value) := [(0, .ref b), (1, .ref o), (2, .ref (o + 828)), (3, .ref (o + 836)), (4, .ref (o + 837)), (5, .int i)]
section LW1
variable {X : po_X} {G : po_G} {Q : State → Prop} {k n pc b Ls m t : Nat} {L L' : List (Nat × Value)} {S : List Value} {K : po_K} {R : po_R} {I : po_I} {z : Option Nat} {st : Nat → Nat} {xs : Nat → Int32}
theorem lw_sld (C : lwX X G st b Ls xs) (d : decode cL_law pc = .ok (.iaload, 1)) (hm : m < Ls) (hLs : Ls ≤ 2048) (kk : po_V X G 8 Q k n (pc + 1) L (.int (xs m) :: S) K R I z) : po_V X G 8 Q k n pc L (.int (Int32.ofNat m) :: .ref b :: S) K R I z := by
  obtain ⟨hF, hr, hX, hbl, hbA⟩ := C
  intro H locs ls hl hP hS
  refine va_sld hF.1 hF.2.1 hX hbl hbA hS (po_in_vp (pl_inl hm (by omega))) d ?_
  rw [pl_clamp (by omega)]
  exact kk H locs ls hl hP hS
theorem lw_slen (C : lwX X G st b Ls xs) (d : decode cL_law pc = .ok (.arraylength, 1)) (kk : po_V X G 8 Q k n (pc + 1) L (.int (Int32.ofNat Ls) :: S) K R I z) : po_V X G 8 Q k n pc L (.ref b :: S) K R I z := by
  obtain ⟨hF, hr, hX, hbl, hbA⟩ := C
  intro H locs ls hl hP hS
  exact va_slen hF.1 hF.2.1 hX hbl hbA hS d (kk H locs ls hl hP hS)
/-- script[i + t] -/
theorem lw_arg (C : lwX X G st b Ls xs) {ti : Int} (g0 : po_get L 0 = some (.ref b)) (g5 : po_get L 5 = some (.int (Int32.ofNat m))) (d0 : decode cL_law pc = .ok (.aload_n 0, 1)) (d1 : decode cL_law (pc + 1) = .ok (.iload 5, 2)) (d3 : decode cL_law (pc + 1 + 2) = .ok (.iconst ti, 1)) (d4 : decode cL_law (pc + 1 + 2 + 1) = .ok (.iadd, 1)) (d5 : decode cL_law (pc + 1 + 2 + 1 + 1) = .ok (.iaload, 1))
    (ht : Int32.ofInt ti = Int32.ofNat t) (hm : m + t < Ls) (hLs : Ls ≤ 2048) (kk : po_V X G 8 Q k n (pc + 1 + 2 + 1 + 1 + 1) L (.int (xs (m + t)) :: S) K R I z) : po_V X G 8 Q k n pc L S K R I z := by
  have hF := C.1
  refine po_aload_n hF d0 rfl g0 ?_
  refine po_iload hF d1 g5 ?_
  refine po_iconst hF d3 ht ?_
  refine po_iadd hF d4 ?_
  rw [pl_add]
  exact lw_sld C d5 hm hLs kk
theorem lw_rt (C : lwX X G st b Ls xs) {f nL mc ms : Nat} (hf : f + 1 ≤ 19) (hl : nL ≤ 21) (hk : k + mc ≤ 603072) (hn : n + ms ≤ 7202922) : po_rt X f nL mc ms k n := by
  unfold po_rt
  rw [C.2.1]
  exact ⟨hf, by show 8 + (nL + 11) + (40 * f + 40) ≤ 10848; omega, hk, hn⟩
end LW1
