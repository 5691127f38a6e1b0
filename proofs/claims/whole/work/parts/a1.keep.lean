/-! WHAT A CALL KEEPS: the layout; which exception a call with one kind throws -/
/-- the rows of references behind a mirror keep the layout -/
def pKL {α : Type} (K : po_K) (st : Nat → Nat) (x : Option (α × po_I × po_R)) : Prop := ∀ r, x = some r → po_Lay K r.2.2 st
/-- only this exception -/
def pNE {α β : Type} (e : String) (g : β → α ⊕ String) (x : Option β) : Prop := ∀ r, x = some r → ∀ E, g r = .inr E → E = e
section KL1
variable {α β γ : Type} {K : po_K} {R : po_R} {I : po_I} {st : Nat → Nat} {e : String} {g : β → α ⊕ String}
theorem kl_some {w : α} (h : po_Lay K R st) : pKL K st (some (w, I, R)) := by
  intro r hr
  cases hr
  exact h
theorem kl_none : pKL (α := α) K st Option.none := fun r hr => by cases hr
theorem kl_bind {x : Option γ} {f : γ → Option (α × po_I × po_R)} (h : ∀ y, x = some y → pKL K st (f y)) : pKL K st (Option.bind x f) := by
  intro r hr
  obtain ⟨y, h1, h2⟩ := po_bind hr
  exact h y h1 r h2
theorem kl_if {c : Prop} {d : Decidable c} {A B : Option (α × po_I × po_R)} (h1 : pKL K st A) (h2 : pKL K st B) : pKL K st (@ite _ c d A B) := by
  by_cases h : c
  · rw [if_pos h]; exact h1
  · rw [if_neg h]; exact h2
theorem kl_hlet {J : po_I} {f : po_I → Option (α × po_I × po_R)} (h : pKL K st (f J)) : pKL K st (po_hlet J f) := h
theorem kl_let {v : Int32} {f : Int32 → Option (α × po_I × po_R)} (h : pKL K st (f v)) : pKL K st (po_let v f) := h
theorem kl_elim {x : Nat ⊕ String} {f : Nat → Option (α × po_I × po_R)} {f2 : String → Option (α × po_I × po_R)} (h1 : ∀ y, pKL K st (f y)) (h2 : ∀ E, pKL K st (f2 E)) : pKL K st (Sum.elim f f2 x) := by
  cases x with
  | inl y => exact h1 y
  | inr E => exact h2 E
theorem ne_none : pNE e g Option.none := fun r hr => by cases hr
theorem ne_l {r : β} {x : α} (h : g r = .inl x) : pNE e g (some r) := by
  intro r2 hr E hE
  cases hr
  rw [h] at hE
  cases hE
theorem ne_r {r : β} (h : g r = .inr e) : pNE e g (some r) := by
  intro r2 hr E hE
  cases hr
  rw [h] at hE
  exact (Sum.inr.inj hE).symm
theorem ne_bind {x : Option γ} {f : γ → Option β} (h : ∀ y, x = some y → pNE e g (f y)) : pNE e g (Option.bind x f) := by
  intro r hr
  obtain ⟨y, h1, h2⟩ := po_bind hr
  exact h y h1 r h2
theorem ne_if {c : Prop} {d : Decidable c} {A B : Option β} (h1 : pNE e g A) (h2 : pNE e g B) : pNE e g (@ite _ c d A B) := by
  by_cases h : c
  · rw [if_pos h]; exact h1
  · rw [if_neg h]; exact h2
theorem ne_hlet {J : po_I} {f : po_I → Option β} (h : pNE e g (f J)) : pNE e g (po_hlet J f) := h
theorem ne_let {v : Int32} {f : Int32 → Option β} (h : pNE e g (f v)) : pNE e g (po_let v f) := h
end KL1
section KL2
variable {K : po_K} {R : po_R} {I : po_I} {st : Nat → Nat} {o : Nat}
theorem kl_rem {α : Type} (HL : po_Lay K R st) (ko : K o = (18, 8)) {f : po_I × po_R → Option (α × po_I × po_R)} (h : ∀ y : po_I × po_R, po_Lay K y.2 st → pKL K st (f y)) : pKL K st (Option.bind (m_X7_remember I R o) f) := kl_bind fun y hy => h y (lr_X7_remember HL ko hy)
theorem kl_execute (HL : po_Lay K R st) (ko : K o = (18, 8)) : pKL K st (m_X7_execute st I R o) := by
  show pKL K st (m_X7_execute_e st I R o)
  unfold m_X7_execute_e
  refine kl_bind fun x1 _ => kl_bind fun x2 _ => kl_let (kl_if (kl_some HL) (kl_rem HL ko fun x4 h4 => kl_bind fun x5 _ => kl_some h4))
theorem kl_rezone (HL : po_Lay K R st) (ko : K o = (18, 8)) (a b : Int32) : pKL K st (m_X7_rezone I R o a b) := by
  show pKL K st (m_X7_rezone_e I R o a b)
  unfold m_X7_rezone_e m_X7_rezone_15
  refine kl_bind fun x1 _ => kl_elim (fun y => kl_if (kl_some HL) (kl_if (kl_rem HL ko fun x3 h3 => kl_let (kl_hlet (kl_some h3))) (kl_some HL))) (fun E => kl_some HL)
theorem kl_decide (HL : po_Lay K R st) (ko : K o = (18, 8)) (a : Int32) : pKL K st (m_X7_decide I R o a) := by
  show pKL K st (m_X7_decide_e I R o a)
  unfold m_X7_decide_e m_X7_decide_78
  refine kl_bind fun x1 _ => kl_elim (fun y => kl_if (kl_rem HL ko fun x3 h3 => kl_bind fun x4 _ => kl_let (kl_if (kl_bind fun x8 _ => kl_bind fun x9 _ => kl_some h3) (kl_bind fun x6 _ => kl_bind fun x7 _ => kl_some h3))) (kl_some HL)) (fun E => kl_some HL)
theorem kl_revoke (HL : po_Lay K R st) (ko : K o = (18, 8)) (a : Int32) : pKL K st (m_X7_revoke I R o a) := by
  show pKL K st (m_X7_revoke_e I R o a)
  unfold m_X7_revoke_e m_X7_revoke_34
  have h34 : ∀ y : Nat, pKL K st (Option.bind (m_X7_remember I R o) fun x1 => po_let (2 * (4 - ((x1.1) y 8))) fun v2 => po_hlet (po_u (x1.1) y 6 5) fun I3 => po_hlet (po_u I3 y 14 ((I3 y 14) + v2)) fun I4 => some (((Sum.inl v2 : Int32 ⊕ String), I4, x1.2))) := fun y => kl_rem HL ko fun x1 h1 => kl_let (kl_hlet (kl_hlet (kl_some h1)))
  refine kl_bind fun x1 _ => kl_elim (fun y => kl_if (h34 y) (kl_if (h34 y) (kl_some HL))) (fun E => kl_some HL)
theorem kl_fulfil (HL : po_Lay K R st) (ko : K o = (18, 8)) (a b : Int32) : pKL K st (m_X7_fulfil I R o a b) := by
  show pKL K st (m_X7_fulfil_e I R o a b)
  unfold m_X7_fulfil_e
  refine kl_bind fun x1 _ => kl_elim (fun y => kl_bind fun x3 _ => kl_if (kl_some HL) (kl_rem HL ko fun x4 h4 => kl_hlet (kl_bind fun x6 _ => kl_some h4))) (fun E => kl_some HL)
theorem kl_i81 {J : po_I} (HL : po_Lay K R st) (a : Int32) : pKL K st (m_X7_inspect_81 J R a) := by
  unfold m_X7_inspect_81
  exact kl_if (kl_some HL) kl_none
theorem kl_i58 {J : po_I} (HL : po_Lay K R st) (y : Nat) (a : Int32) : pKL K st (m_X7_inspect_58 J R o y a) := by
  unfold m_X7_inspect_58
  exact kl_if (kl_bind fun x1 _ => kl_i81 HL _) (kl_bind fun x2 _ => kl_i81 HL _)
theorem kl_i46 {J : po_I} (HL : po_Lay K R st) (y : Nat) : pKL K st (m_X7_inspect_46 J R o y) := by
  unfold m_X7_inspect_46
  exact kl_bind fun x3 _ => kl_if (kl_i58 HL _ _) (kl_i58 HL _ _)
theorem kl_inspect (HL : po_Lay K R st) (ko : K o = (18, 8)) (a : Int32) : pKL K st (m_X7_inspect I R o a) := by
  show pKL K st (m_X7_inspect_e I R o a)
  unfold m_X7_inspect_e
  refine kl_bind fun x1 _ => kl_elim (fun y => kl_if (kl_rem HL ko fun x6 h6 => kl_if (kl_i46 h6 _) (kl_hlet (kl_i46 h6 _))) (kl_some HL)) (fun E => kl_some HL)
theorem kl_reinstate (HL : po_Lay K R st) (ko : K o = (18, 8)) (a : Int32) : pKL K st (m_X7_reinstate I R o a) := by
  show pKL K st (m_X7_reinstate_e I R o a)
  unfold m_X7_reinstate_e
  refine kl_bind fun x1 _ => kl_elim (fun y => kl_if (kl_rem HL ko fun x3 h3 => kl_hlet (kl_hlet (kl_hlet (kl_hlet (kl_some h3))))) (kl_some HL)) (fun E => kl_some HL)
theorem kl_extend (HL : po_Lay K R st) (ko : K o = (18, 8)) (a : Int32) : pKL K st (m_X7_extend I R o a) := by
  show pKL K st (m_X7_extend_e I R o a)
  unfold m_X7_extend_e m_X7_extend_21
  refine kl_bind fun x1 _ => kl_elim (fun y => kl_if (kl_if (kl_rem HL ko fun x3 h3 => kl_hlet (kl_hlet (kl_hlet (kl_some h3)))) (kl_some HL)) (kl_some HL)) (fun E => kl_some HL)
theorem kl_p43 (HL : po_Lay K R st) : ∀ (n : Nat) (J : po_I) (a b : Int32), pKL K st (m_X7_pass_43L n J R o a b)
  | 0, _, _, _ => kl_none
  | n + 1, J, a, b => by
    show pKL K st (m_X7_pass_43 (m_X7_pass_43L n) J R o a b)
    unfold m_X7_pass_43 m_X7_pass_98
    exact kl_if (kl_some HL) (kl_if (kl_if (kl_if (kl_p43 HL n _ _ _) (kl_hlet (kl_p43 HL n _ _ _))) (kl_p43 HL n _ _ _)) kl_none)
theorem kl_pass (HL : po_Lay K R st) (ko : K o = (18, 8)) (a : Int32) : pKL K st (m_X7_pass I R o a) := by
  show pKL K st (m_X7_pass_e I R o a)
  unfold m_X7_pass_e m_X7_pass_11
  refine kl_if (kl_some HL) (kl_if (kl_rem HL ko fun x3 h3 => kl_hlet (kl_p43 h3 _ _ _ _)) (kl_some HL))
end KL2
section KL3
variable {K : po_K} {R : po_R} {I : po_I} {st : Nat → Nat} {o : Nat}
theorem ne_lot (a : Int32) : pNE sIO id (m_X7_lotOrThrow I o a) := by
  show pNE sIO id (m_X7_lotOrThrow_e I o a)
  unfold m_X7_lotOrThrow_e m_X7_lotOrThrow_15
  exact ne_if (ne_r rfl) (ne_if (ne_if (ne_l rfl) ne_none) (ne_r rfl))
theorem ne_permit (a : Int32) : pNE sIO id (m_X7_permitOrThrow I o a) := by
  show pNE sIO id (m_X7_permitOrThrow_e I o a)
  unfold m_X7_permitOrThrow_e m_X7_permitOrThrow_15
  exact ne_if (ne_r rfl) (ne_if (ne_if (ne_l rfl) ne_none) (ne_r rfl))
theorem ne_elim {β : Type} {g : β → Int32 ⊕ String} {e : String} {x : Option (Nat ⊕ String)} (hx : pNE e id x) {f : Nat → Option β} {f2 : String → Option β} (h1 : ∀ y, pNE e g (f y)) (h2 : pNE e g (f2 e)) : pNE e g (Option.bind x fun y => Sum.elim f f2 y) := by
  refine ne_bind fun y hy => ?_
  cases y with
  | inl y => exact h1 y
  | inr E =>
    have hE : E = e := hx _ hy E rfl
    subst hE
    exact h2
theorem ne_largest (a : Int32) : pNE sIO Prod.fst (m_X7_largest I o a) := by
  show pNE sIO Prod.fst (m_X7_largest_e I o a)
  unfold m_X7_largest_e
  exact ne_elim (ne_lot a) (fun y => ne_bind fun x3 _ => ne_l rfl) (ne_r rfl)
theorem ne_findings (a b : Int32) : pNE sIO Prod.fst (m_X7_findings I o a b) := by
  show pNE sIO Prod.fst (m_X7_findings_e I o a b)
  unfold m_X7_findings_e m_X7_findings_37
  exact ne_elim (ne_permit a) (fun y => ne_if (ne_bind fun x3 _ => ne_l rfl) (ne_bind fun x4 _ => ne_l rfl)) (ne_r rfl)
theorem ne_w6 : ∀ (n : Nat) (J : po_I) (a b c : Int32), pNE sNS Prod.fst (m_X7_worst_6L n J o a b c)
  | 0, _, _, _, _ => ne_none
  | n + 1, J, a, b, c => by
    show pNE sNS Prod.fst (m_X7_worst_6 (m_X7_worst_6L n) J o a b c)
    unfold m_X7_worst_6 m_X7_worst_56 m_X7_worst_69
    exact ne_if (ne_if (ne_r rfl) (ne_l rfl)) (ne_if (ne_bind fun x2 _ => ne_if (ne_if (ne_w6 n _ _ _ _) (ne_w6 n _ _ _ _)) (ne_bind fun x3 _ => ne_bind fun x4 _ => ne_if (ne_w6 n _ _ _ _) (ne_w6 n _ _ _ _))) ne_none)
theorem ne_worst : pNE sNS Prod.fst (m_X7_worst I o) := ne_w6 5000 I (-1) 0 0
theorem ne_urgent (a : Int32) : pNE sNS id (m_X7_urgent I o a) := by
  show pNE sNS id (m_X7_urgent_e I o a)
  unfold m_X7_urgent_e
  exact ne_bind fun x1 _ => ne_if (ne_r rfl) (ne_l rfl)
theorem ne_count (a : Int32) : pNE sIA id (m_X7_count I o a) := by
  show pNE sIA id (m_X7_count_e I o a)
  unfold m_X7_count_e m_X7_count_141
  exact ne_if (ne_l rfl) (ne_if (ne_l rfl) (ne_if (ne_l rfl) (ne_if (ne_l rfl) (ne_if (ne_bind fun x1 _ => ne_bind fun x2 _ => ne_bind fun x3 _ => ne_l rfl) (ne_if (ne_bind fun x4 _ => ne_l rfl) (ne_if (ne_l rfl) (ne_if (ne_l rfl) (ne_if (ne_r rfl) (ne_if (ne_bind fun x5 _ => ne_l rfl) (ne_r rfl))))))))))
theorem ne_undo : pNE sIS Prod.fst (m_X7_undo R I o) := by
  show pNE sIS Prod.fst (m_X7_undo_e R I o)
  unfold m_X7_undo_e m_X7_undo_16
  exact ne_if (ne_r rfl) (ne_if (ne_hlet (ne_if (ne_bind fun x3 _ => ne_l rfl) ne_none)) (ne_r rfl))
theorem ne_restore : pNE sIS Prod.fst (m_X7_restore I o) := by
  show pNE sIS Prod.fst (m_X7_restore_e I o)
  unfold m_X7_restore_e
  exact ne_if (ne_r rfl) (ne_bind fun x1 _ => ne_hlet (ne_l rfl))
theorem ne_execute : pNE sIA Prod.fst (m_X7_execute st I R o) := by
  show pNE sIA Prod.fst (m_X7_execute_e st I R o)
  unfold m_X7_execute_e
  exact ne_bind fun x1 _ => ne_bind fun x2 _ => ne_let (ne_if (ne_r rfl) (ne_bind fun x4 _ => ne_bind fun x5 _ => ne_l rfl))
theorem ne_p43 : ∀ (n : Nat) (J : po_I) (a b : Int32), pNE sIA Prod.fst (m_X7_pass_43L n J R o a b)
  | 0, _, _, _ => ne_none
  | n + 1, J, a, b => by
    show pNE sIA Prod.fst (m_X7_pass_43 (m_X7_pass_43L n) J R o a b)
    unfold m_X7_pass_43 m_X7_pass_98
    exact ne_if (ne_l rfl) (ne_if (ne_if (ne_if (ne_p43 n _ _ _) (ne_hlet (ne_p43 n _ _ _))) (ne_p43 n _ _ _)) ne_none)
theorem ne_pass (a : Int32) : pNE sIA Prod.fst (m_X7_pass I R o a) := by
  show pNE sIA Prod.fst (m_X7_pass_e I R o a)
  unfold m_X7_pass_e m_X7_pass_11
  exact ne_if (ne_r rfl) (ne_if (ne_bind fun x3 _ => ne_hlet (ne_p43 5000 _ _ _)) (ne_r rfl))
end KL3
