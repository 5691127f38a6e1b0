/-! THE LAW: what the start gives -/
section ST0
variable {args : Array Value} {s : State}
theorem st_prim {ty : FieldType} (h : (Cond.arrayClass ty).before args s = true) (hp : ∀ C, ty ≠ .object C) : ∃ cA, ArrOfT s cA ty ∧ va_RA s cA ty := by
  obtain ⟨c, k, comp, h1, h2, h3⟩ := Cond.arrayClass_spec (args := args) (first := s) (o := none) (s := s) (idx := []) h
  refine ⟨c, fun n z => ⟨fun k h => (by cases h), k, h2, comp, h3⟩, ?_⟩
  cases ty with
  | object C => exact absurd rfl (hp C)
  | _ => exact h1
theorem st_obj {C : String} (h : (Cond.arrayOver (.object C)).before args s = true) : ∃ cA, ArrOfT s cA (.object C) ∧ va_RA s cA (.object C) := by
  obtain ⟨comp, c, k, h1, h2, h3, h4, h5⟩ := Cond.arrayOver_spec (args := args) (first := s) (o := none) (s := s) (idx := []) h
  exact ⟨c, fun n z => ⟨fun k h => (by cases h), k, h3, comp, h4⟩, k, comp, h3, h4, h1, h5⟩
theorem st_arrs (hts : ∀ w ∈ lw_tbl, w.before args s = true) : ∀ k : Nat, ∃ cA : ClassId, 1 ≤ k → k ≤ 10 → ArrOfT s cA (po_aty k) ∧ va_RA s cA (po_aty k) := by
  intro k
  have g : ∀ {ty : FieldType}, po_aty k = ty → (∃ cA, ArrOfT s cA ty ∧ va_RA s cA ty) → ∃ cA : ClassId, 1 ≤ k → k ≤ 10 → ArrOfT s cA (po_aty k) ∧ va_RA s cA (po_aty k) := fun {ty} e h => by
    obtain ⟨c, h1⟩ := h
    exact ⟨c, fun _ _ => by rw [e]; exact h1⟩
  by_cases h : 1 ≤ k ∧ k ≤ 10
  · rcases (show k = 1 ∨ k = 2 ∨ k = 3 ∨ k = 4 ∨ k = 5 ∨ k = 6 ∨ k = 7 ∨ k = 8 ∨ k = 9 ∨ k = 10 by omega) with rfl | rfl | rfl | rfl | rfl | rfl | rfl | rfl | rfl | rfl
    · exact g rfl (st_prim (hts (.arrayClass .int) (by decide +kernel)) (fun C h => by cases h))
    · exact g rfl (st_prim (hts (.arrayClass .int) (by decide +kernel)) (fun C h => by cases h))
    · exact g rfl (st_prim (hts (.arrayClass .char) (by decide +kernel)) (fun C h => by cases h))
    · exact g rfl (st_prim (hts (.arrayClass .boolean) (by decide +kernel)) (fun C h => by cases h))
    · exact g rfl (st_prim (hts (.arrayClass .long) (by decide +kernel)) (fun C h => by cases h))
    · exact g rfl (st_prim (hts (.arrayClass .double) (by decide +kernel)) (fun C h => by cases h))
    · exact g rfl (st_obj (hts (.arrayOver (.object RX1)) (by decide +kernel)))
    · exact g rfl (st_obj (hts (.arrayOver (.object RX2)) (by decide +kernel)))
    · exact g rfl (st_obj (hts (.arrayOver (.object RX6)) (by decide +kernel)))
    · exact g rfl (st_obj (hts (.arrayOver (.object RX5)) (by decide +kernel)))
  · exact ⟨0, fun h1 h2 => absurd ⟨h1, h2⟩ h⟩
theorem st_insts : ∀ q ∈ po_cl, Cond.instantiable q.1 q.2.2 ∈ lw_tbl := by decide +kernel
theorem st_cls (hts : ∀ w ∈ lw_tbl, w.before args s = true) : ∃ (dC : Nat → ClassId) (dI : Nat → Nat → Nat), va_K (dC, dI) po_cl [] s := by
  have h : ∀ k : Nat, ∃ (c : ClassId) (iS : Nat → Nat), ∀ q : vw_C, po_cl[k]? = some q → u_Kn s q.1 q.2.1 q.2.2 c iS := fun k => by
    cases hq : po_cl[k]? with
    | none => exact ⟨0, fun _ => 0, fun q h => by cases h⟩
    | some q =>
      obtain ⟨c, iS, h⟩ := u_known (ws := lw_tbl) (C := q.1) (T := q.2.1) (N := q.2.2) (n := q.2.2) hts (fun w hw => (List.mem_filter.mp ((po_incl hq).1 w hw)).1) (hts _ (st_insts q (List.mem_of_getElem? hq)))
      exact ⟨c, iS, fun q' h' => by cases h'; exact h⟩
  exact ⟨fun k => (h k).choose, fun k => (h k).choose_spec.choose, ⟨fun k q hq => (h k).choose_spec.choose_spec q hq, fun k q h => by simp at h⟩⟩
theorem st_str (hts : ∀ w ∈ lw_tbl, w.before args s = true) : ∀ q ∈ po_str, ∃ a, vk_R q.1 q.2.1 q.2.2 a s := by
  intro q hq
  obtain ⟨w, hw, e⟩ := List.mem_filterMap.mp hq
  have hb := hts w (List.mem_append_right _ hw)
  cases w with
  | stringRef own k tx =>
    have e2 : (own, k, tx) = q := Option.some.inj e
    subst e2
    have hcur : ∃ cur, s.vm.findClass own = some cur := by
      have h1 := hb
      simp only [Cond.before, Cond.holds, Cond.value] at h1
      cases hc : s.vm.findClass own with
      | none => simp [hc] at h1
      | some cur => exact ⟨cur, rfl⟩
    obtain ⟨cur, hcur⟩ := hcur
    obtain ⟨-, -, -, sa, -, -, -, -, -, hev⟩ := Cond.stringRef_spec hcur hb
    exact ⟨sa, vk_R.of hb hev⟩
  | _ => cases e
end ST0
