/-! the picture of the heap: read, written, grown -/
theorem po_cell_kept {G : po_G} {k : Nat × Nat} {r : Nat → Value} {i : Nat → Int32} {a : Nat} {H H1 : Heap} (h : po_cell G k r i a H) (hq : H1[a]? = H[a]?) : po_cell G k r i a H1 := by
  unfold po_cell at h ⊢
  by_cases h0 : k.1 = 0
  · rw [if_pos h0]; trivial
  · rw [if_neg h0] at h ⊢
    by_cases h2 : k.1 = 2
    · rw [if_pos h2] at h ⊢
      obtain ⟨cell, e, g⟩ := h
      exact ⟨cell, by rw [hq]; exact e, g⟩
    · rw [if_neg h2] at h ⊢
      by_cases h1 : k.1 ≤ 10
      · rw [if_pos h1] at h ⊢
        rw [hq]; exact h
      · rw [if_neg h1] at h ⊢
        exact h.kept hq
theorem po_cell_lt {G : po_G} {k : Nat × Nat} {r : Nat → Value} {i : Nat → Int32} {a : Nat} {H : Heap} (h : po_cell G k r i a H) (h0 : k.1 ≠ 0) : a < H.size := by
  unfold po_cell at h
  rw [if_neg h0] at h
  by_cases h2 : k.1 = 2
  · rw [if_pos h2] at h
    obtain ⟨cell, e, -⟩ := h
    exact (Array.getElem?_eq_some_iff.mp e).1
  · rw [if_neg h2] at h
    by_cases h1 : k.1 ≤ 10
    · rw [if_pos h1] at h
      exact (Array.getElem?_eq_some_iff.mp h).1
    · rw [if_neg h1] at h
      obtain ⟨cell, q, -⟩ := h
      exact (Array.getElem?_eq_some_iff.mp q).1
theorem po_ok.arr {G : po_G} {K : po_K} {R : po_R} {I : po_I} {z : Option Nat} {H : Heap} (h : po_ok G K R I z H) {a c len : Nat} (hK : K a = (c, len)) (h1 : 1 ≤ c ∧ c ≠ 2) (h2 : c ≤ 10) : H[a]? = some (arrV (G.2.1 c) len (fun j => po_fv (po_aty c) (R a j) (I a j))) := by
  have q := h.1 a
  unfold po_cell at q
  rw [hK] at q
  rw [if_neg (show ¬ c = 0 by omega), if_neg (show ¬ c = 2 by omega), if_pos h2] at q
  exact q
theorem po_ok.cst {G : po_G} {K : po_K} {R : po_R} {I : po_I} {z : Option Nat} {H : Heap} (h : po_ok G K R I z H) {a len : Nat} (hK : K a = (2, len)) : po_cst G len (I a) a H := by
  have q := h.1 a
  unfold po_cell at q
  rw [hK] at q
  rw [if_neg (show ¬ (2 : Nat) = 0 by omega), if_pos (show (2 : Nat) = 2 from rfl)] at q
  exact q
theorem po_ok.obj {G : po_G} {K : po_K} {R : po_R} {I : po_I} {z : Option Nat} {H : Heap} (h : po_ok G K R I z H) {a c len : Nat} (hK : K a = (c + 11, len)) : t_OB a (G.1.1 c) (po_n c) (G.1.2 c) H (fun j => po_fv (po_ty c j) (R a j) (I a j)) := by
  have q := h.1 a
  unfold po_cell at q
  rw [hK] at q
  rw [if_neg (show ¬ (c + 11) = 0 by omega), if_neg (show ¬ (c + 11) = 2 by omega), if_neg (show ¬ (c + 11) ≤ 10 by omega)] at q
  exact q
theorem po_cell_arr {G : po_G} {r : Nat → Value} {i : Nat → Int32} {H : Heap} {a c len : Nat} (h1 : 1 ≤ c ∧ c ≠ 2) (h2 : c ≤ 10) (h : H[a]? = some (arrV (G.2.1 c) len (fun j => po_fv (po_aty c) (r j) (i j)))) : po_cell G (c, len) r i a H := by
  unfold po_cell
  rw [if_neg (show ¬ c = 0 by omega), if_neg (show ¬ c = 2 by omega), if_pos h2]
  exact h
theorem po_cell_cst {G : po_G} {r : Nat → Value} {i : Nat → Int32} {H : Heap} {a len : Nat} (h : po_cst G len i a H) : po_cell G (2, len) r i a H := by
  unfold po_cell
  rw [if_neg (show ¬ (2 : Nat) = 0 by omega), if_pos (show (2 : Nat) = 2 from rfl)]
  exact h
theorem po_cell_obj {G : po_G} {r : Nat → Value} {i : Nat → Int32} {H : Heap} {a c len : Nat} (h : t_OB a (G.1.1 c) (po_n c) (G.1.2 c) H (fun j => po_fv (po_ty c j) (r j) (i j))) : po_cell G (c + 11, len) r i a H := by
  unfold po_cell
  rw [if_neg (show ¬ (c + 11) = 0 by omega), if_neg (show ¬ (c + 11) = 2 by omega), if_neg (show ¬ (c + 11) ≤ 10 by omega)]
  exact h
theorem po_ok.set {G : po_G} {K : po_K} {R R' : po_R} {I I' : po_I} {z : Option Nat} {H H' : Heap} (h : po_ok G K R I z H) {a : Nat} (hz : H'.size = H.size) (oq : ∀ q : Nat, q ≠ a → H'[q]? = H[q]?) (hR : ∀ b, b ≠ a → R' b = R b) (hI : ∀ b, b ≠ a → I' b = I b) (hc : po_cell G (K a) (R' a) (I' a) a H') : po_ok G K R' I' z H' := by
  refine ⟨fun b => ?_, h.2.1, fun n hn => by rw [hz]; exact h.2.2 n hn⟩
  by_cases hb : b = a
  · subst hb; exact hc
  · rw [hR b hb, hI b hb]
    exact po_cell_kept (h.1 b) (oq b hb)
theorem po_ok.forget {G : po_G} {K : po_K} {R : po_R} {I : po_I} {z : Option Nat} {H : Heap} (h : po_ok G K R I z H) : po_ok G K R I Option.none H := ⟨h.1, h.2.1, fun n hn => by cases hn⟩
theorem po_ok.keep {G : po_G} {K : po_K} {R : po_R} {I : po_I} {z : Option Nat} {H H' : Heap} (h : po_ok G K R I z H) (hk : ∀ q : Nat, q < H.size → H'[q]? = H[q]?) : po_ok G K R I none H' := by
  refine ⟨fun b => ?_, h.2.1, fun n hn => by cases hn⟩
  by_cases h0 : (K b).1 = 0
  · unfold po_cell; rw [if_pos h0]; trivial
  · exact po_cell_kept (h.1 b) (hk b (po_cell_lt (h.1 b) h0))
/-- a field that an instruction names -/
def po_FL (own : String) (idx c j : Nat) : Prop := ∃ r : vw_C, po_cl[c]? = some r ∧ j < r.2.2 ∧ r.2.2 = po_n c ∧
  (Cond.fieldLink own idx (r.2.1 j).1 (r.2.1 j).2.1 (r.2.1 j).2.2.1 ∈ po_TB ∨ ∃ host, Cond.fieldLinkNest own idx (r.2.1 j).1 (r.2.1 j).2.1 (r.2.1 j).2.2.1 host ∈ po_NW)
theorem po_in0 : ∀ w ∈ u_ws RX0 TX0 1, w ∈ lw_tbl ∧ goodWord w = true := by decide +kernel
theorem po_in1 : ∀ w ∈ u_ws RX1 TX1 4, w ∈ lw_tbl ∧ goodWord w = true := by decide +kernel
theorem po_in2 : ∀ w ∈ u_ws RX2 TX2 19, w ∈ lw_tbl ∧ goodWord w = true := by decide +kernel
theorem po_in3 : ∀ w ∈ u_ws RX3 TX3 4, w ∈ lw_tbl ∧ goodWord w = true := by decide +kernel
theorem po_in4 : ∀ w ∈ u_ws RX4 TX4 2, w ∈ lw_tbl ∧ goodWord w = true := by decide +kernel
theorem po_in5 : ∀ w ∈ u_ws RX5 TX5 8, w ∈ lw_tbl ∧ goodWord w = true := by decide +kernel
theorem po_in6 : ∀ w ∈ u_ws RX6 TX6 4, w ∈ lw_tbl ∧ goodWord w = true := by decide +kernel
theorem po_in7 : ∀ w ∈ u_ws RX7 TX7 8, w ∈ lw_tbl ∧ goodWord w = true := by decide +kernel
theorem po_in8 : ∀ w ∈ u_ws RX8 TX8 19, w ∈ lw_tbl ∧ goodWord w = true := by decide +kernel
theorem po_incl {c : Nat} {r : vw_C} (h : po_cl[c]? = some r) : (∀ w ∈ u_ws r.1 r.2.1 r.2.2, w ∈ po_TB) ∧ (∀ k, k < r.2.2 → parseFieldDescriptor (r.2.1 k).2.2.1 = some (po_ty c k)) ∧ (∀ a, a < r.2.2 → ∀ b, b < r.2.2 → a ≠ b → (r.2.1 a).2.1 ≠ (r.2.1 b).2.1) := by
  have hc : c < 9 := (List.getElem?_eq_some_iff.mp h).1
  rcases (show c = 0 ∨ c = 1 ∨ c = 2 ∨ c = 3 ∨ c = 4 ∨ c = 5 ∨ c = 6 ∨ c = 7 ∨ c = 8 by omega) with rfl | rfl | rfl | rfl | rfl | rfl | rfl | rfl | rfl <;> cases h
  · exact ⟨fun w hw => List.mem_filter.mpr (po_in0 w hw), tyX0_ok, nmX0⟩
  · exact ⟨fun w hw => List.mem_filter.mpr (po_in1 w hw), tyX1_ok, nmX1⟩
  · exact ⟨fun w hw => List.mem_filter.mpr (po_in2 w hw), tyX2_ok, nmX2⟩
  · exact ⟨fun w hw => List.mem_filter.mpr (po_in3 w hw), tyX3_ok, nmX3⟩
  · exact ⟨fun w hw => List.mem_filter.mpr (po_in4 w hw), tyX4_ok, nmX4⟩
  · exact ⟨fun w hw => List.mem_filter.mpr (po_in5 w hw), tyX5_ok, nmX5⟩
  · exact ⟨fun w hw => List.mem_filter.mpr (po_in6 w hw), tyX6_ok, nmX6⟩
  · exact ⟨fun w hw => List.mem_filter.mpr (po_in7 w hw), tyX7_ok, nmX7⟩
  · exact ⟨fun w hw => List.mem_filter.mpr (po_in8 w hw), tyX8_ok, nmX8⟩
section POH
variable {X : po_X} {G : po_G} {N : Nat} {Q : State → Prop} {k n pc : Nat} {L L' : List (Nat × Value)} {S : List Value} {K : po_K} {R : po_R} {I : po_I} {z : Option Nat} {cc : ByteArray} {own : String} {st : Nat → Nat}
variable {ρ : Type} {r : ρ} {A B : Option ρ}
theorem po_getf (hF : po_F X G cc own N st) {idx c j a len : Nat} {v : Value} (d : decode cc pc = .ok (.getfield idx, 3)) (fl : po_FL own idx c j) (hK : K a = (c + 11, len)) (hv : po_fv (po_ty c j) (R a j) (I a j) = v)
    (kk : po_V X G N Q k n (pc + 3) L (v :: S) K R I z) : po_V X G N Q k n pc L (.ref a :: S) K R I z := by
  intro H locs ls hl hP hS
  obtain ⟨hx, hb, hml, hown, hts, hE, -, -⟩ := hF
  obtain ⟨r, hc, hj, hn, hlk⟩ := fl
  obtain ⟨hin, hty, hnm⟩ := po_incl hc
  obtain ⟨cell, q1, q2, q3, q4⟩ := hP.obj hK
  obtain ⟨hSl, hfc, kC, hkC, hkind⟩ := hE.1.1 c r hc
  obtain ⟨cf, kf, fi, f, hi, hsl⟩ := hSl j hj
  have hst := (u_facts hfc hkC (u_lays hts hin hj) hi).1
  have hslot : cell.slots[f.slot]? = some v := by
    rw [hsl, q4 j (by rw [← hn]; exact hj)]
    exact congrArg some hv
  rcases hlk with hlk | ⟨host, hlk⟩
  · exact W.getf hx hb hown (hts _ hlk) hi hst q1 (by rw [q3]; exact fun h => by cases h) hslot rfl rfl d (kk H locs ls hl hP hS)
  · exact va_Wgetf hx hb hown (va_Nw.use (by rfl) (hE.2.2.1 _ hlk)) hi hst q1 (by rw [q3]; exact fun h => by cases h) hslot rfl rfl d (kk H locs ls hl hP hS)
/-- a store of any value in a field that isn't final -/
theorem po_putV (hF : po_F X G cc own N st) {idx c j a len : Nat} {v : Value} {R' : po_R} {I' : po_I} (d : decode cc pc = .ok (.putfield idx, 3)) (fl : po_FL own idx c j) (hK : K a = (c + 11, len))
    (hfin : ∀ r, po_cl[c]? = some r → (r.2.1 j).2.2.2 = false) (hn : narrow (po_ty c j) v = v) (hfit : fits (po_ty c j) v = true)
    (hR : ∀ b, b ≠ a → R' b = R b) (hI : ∀ b, b ≠ a → I' b = I b) (hv : ∀ i, i < po_n c → po_fv (po_ty c i) (R' a i) (I' a i) = if i = j then v else po_fv (po_ty c i) (R a i) (I a i))
    (kk : po_V X G N Q k n (pc + 3) L S K R' I' z) : po_V X G N Q k n pc L (v :: .ref a :: S) K R I z := by
  intro H locs ls hl hP hS
  obtain ⟨hx, hb, hml, hown, hts, hE, -, -⟩ := hF
  obtain ⟨r, hc, hj, hn', hlk⟩ := fl
  obtain ⟨hin, hty, hnm⟩ := po_incl hc
  have hap := va_apart (own := own) hts hin (po_ty c) hty hnm hE.1 hc
  have hob := hP.obj hK
  obtain ⟨cell, q1, q2, q3, q4⟩ := hob
  obtain ⟨hSl, hfc, kC, hkC, hkind⟩ := hE.1.1 c r hc
  obtain ⟨cf, kf, fi, f, hi, hsl⟩ := hSl j hj
  have hlay := hts _ (hin _ (u_in_lay hj))
  unfold u_lay at hlay
  rw [if_neg (by rw [hfin r hc]; decide)] at hlay
  have hst := (u_facts hfc hkC (u_lays hts hin hj) hi).1
  have h6 := u_store hfc hkC hkind hlay hi (hty j hj) hn hfit
  have hlt : f.slot < cell.slots.size := by rw [hsl]; exact k2_hasslot (q4 j (by rw [← hn']; exact hj))
  have hA : po_A G a := hP.2.1 a (by rw [hK]; show c + 11 ≠ 0; omega) (by rw [hK]; show c + 11 ≠ 2; omega)
  have go : ∀ H' : Heap, H'[a]? = some (cell.setSlot f.slot v) → H'.size = H.size → (∀ q, q ≠ a → H'[q]? = H[q]?) → po_ok G K R' I' z H' := fun H' e1 e2 e3 => by
    refine hP.set e2 e3 hR hI ?_
    rw [hK]
    refine po_cell_obj ⟨_, e1, q2, q3, fun i hi' => ?_⟩
    rw [hsl, t_set q4 (fun a b ha hb => hap a b (by rw [hn']; exact ha) (by rw [hn']; exact hb)) (by rw [← hn']; exact hj) v i hi']
    refine congrArg some ?_
    show (if i = j then v else po_fv (po_ty c i) (R a i) (I a i)) = po_fv (po_ty c i) (R' a i) (I' a i)
    exact (hv i hi').symm
  rcases hlk with hlk | ⟨host, hlk⟩
  · exact W.putK hx hb ⟨hown, hts _ hlk, ⟨cf, kf, fi, hi⟩, hst⟩ (by rw [q2]; exact h6) q1 q3 hlt rfl rfl d fun H' e1 e2 e3 => kk H' _ ls hl (go H' e1 e2 e3) (hS.put e2 e3 hA)
  · exact va_WputK hx hb hown (va_Nw.use (by rfl) (hE.2.2.1 _ hlk)) hi hst (by rw [q2]; exact h6) q1 q3 hlt rfl rfl d fun H' e1 e2 e3 => kk H' _ ls hl (go H' e1 e2 e3) (hS.put e2 e3 hA)
/-- a store of an int -/
theorem po_puti (hF : po_F X G cc own N st) {idx c j a len : Nat} {v : Int32} {I' : po_I} (d : decode cc pc = .ok (.putfield idx, 3)) (fl : po_FL own idx c j) (hK : K a = (c + 11, len))
    (hfin : ∀ r, po_cl[c]? = some r → (r.2.1 j).2.2.2 = false) (hn : narrow (po_ty c j) (.int v) = .int v) (hfit : fits (po_ty c j) (.int v) = true) (hv : ∀ r, po_fv (po_ty c j) r v = .int v) (hI : po_u I a j v = I')
    (kk : po_V X G N Q k n (pc + 3) L S K R I' z) : po_V X G N Q k n pc L (.int v :: .ref a :: S) K R I z := by
  subst hI
  refine po_putV hF d fl hK hfin hn hfit (fun _ _ => rfl) (fun b hb => po_u_ne hb) (fun i hi => ?_) kk
  rw [po_u_at]
  by_cases h : i = j
  · subst h
    rw [if_pos rfl]
    simp only [vf_upd, if_true]
    exact hv _
  · rw [if_neg h]
    simp only [vf_upd, if_neg h]
/-- a store of a reference -/
theorem po_putr (hF : po_F X G cc own N st) {idx c j a len : Nat} {v : Value} {R' : po_R} (d : decode cc pc = .ok (.putfield idx, 3)) (fl : po_FL own idx c j) (hK : K a = (c + 11, len))
    (hfin : ∀ r, po_cl[c]? = some r → (r.2.1 j).2.2.2 = false) (hn : narrow (po_ty c j) v = v) (hfit : fits (po_ty c j) v = true) (hv : ∀ i, po_fv (po_ty c j) v i = v) (hR : po_u R a j v = R')
    (kk : po_V X G N Q k n (pc + 3) L S K R' I z) : po_V X G N Q k n pc L (v :: .ref a :: S) K R I z := by
  subst hR
  refine po_putV hF d fl hK hfin hn hfit (fun b hb => po_u_ne hb) (fun _ _ => rfl) (fun i hi => ?_) kk
  rw [po_u_at]
  by_cases h : i = j
  · subst h
    rw [if_pos rfl]
    simp only [vf_upd, if_true]
    exact hv _
  · rw [if_neg h]
    simp only [vf_upd, if_neg h]
end POH
