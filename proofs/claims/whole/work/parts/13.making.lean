/-! new things -/
def po_w {α : Type} (f : Nat → α) (q : Nat) (v : α) : Nat → α := fun b => if b = q then v else f b
theorem po_w_at {α : Type} {f : Nat → α} {q : Nat} {v : α} : po_w f q v q = v := by simp [po_w]
theorem po_w_ne {α : Type} {f : Nat → α} {q b : Nat} {v : α} (h : b ≠ q) : po_w f q v b = f b := by simp [po_w, h]
theorem po_ty_def : ∀ c, c < 9 → ∀ j, defaultValue (po_ty c j) = po_fv (po_ty c j) .null 0 := by
  intro c hc j
  rcases (show c = 0 ∨ c = 1 ∨ c = 2 ∨ c = 3 ∨ c = 4 ∨ c = 5 ∨ c = 6 ∨ c = 7 ∨ c = 8 by omega) with rfl | rfl | rfl | rfl | rfl | rfl | rfl | rfl | rfl
  · show defaultValue (tyX0 j) = po_fv (tyX0 j) .null 0
    rfl
  · show defaultValue (tyX1 j) = po_fv (tyX1 j) .null 0
    unfold tyX1; split <;> rfl
  · show defaultValue (tyX2 j) = po_fv (tyX2 j) .null 0
    unfold tyX2; split <;> rfl
  · show defaultValue (tyX3 j) = po_fv (tyX3 j) .null 0
    unfold tyX3; split <;> rfl
  · show defaultValue (tyX4 j) = po_fv (tyX4 j) .null 0
    unfold tyX4; split <;> rfl
  · show defaultValue (tyX5 j) = po_fv (tyX5 j) .null 0
    unfold tyX5; split <;> rfl
  · show defaultValue (tyX6 j) = po_fv (tyX6 j) .null 0
    unfold tyX6; split <;> rfl
  · show defaultValue (tyX7 j) = po_fv (tyX7 j) .null 0
    unfold tyX7; split <;> rfl
  · show defaultValue (tyX8 j) = po_fv (tyX8 j) .null 0
    unfold tyX8; split <;> rfl
theorem po_grow {G : po_G} {K : po_K} {R : po_R} {I : po_I} {q : Nat} {H H' : Heap} {kd : Nat × Nat} {rr : Nat → Value} {ii : Nat → Int32} (h : po_ok G K R I (some q) H) (hz : H'.size = q + 1) (oq : ∀ b : Nat, b < q → H'[b]? = H[b]?) (hA : G.2.2.1 ≤ q) (hc : po_cell G kd rr ii q H') :
    po_ok G (po_w K q kd) (po_w R q rr) (po_w I q ii) (some (q + 1)) H' := by
  have hq : H.size = q := h.2.2 q rfl
  refine ⟨fun b => ?_, fun b h0 h2 => ?_, fun n hn => by cases hn; exact hz⟩
  · by_cases hb : b = q
    · subst hb
      rw [po_w_at, po_w_at, po_w_at]; exact hc
    · rw [po_w_ne hb, po_w_ne hb, po_w_ne hb]
      by_cases h0 : (K b).1 = 0
      · unfold po_cell; rw [if_pos h0]; trivial
      · exact po_cell_kept (h.1 b) (oq b (by rw [← hq]; exact po_cell_lt (h.1 b) h0))
  · by_cases hb : b = q
    · subst hb; exact hA
    · rw [po_w_ne hb] at h0 h2
      exact h.2.1 b h0 h2
def po_CL (own : String) (idx c : Nat) : Prop := ∃ r : vw_C, po_cl[c]? = some r ∧ r.2.2 = po_n c ∧ Cond.classLink own idx r.1 ∈ po_TB ∧ Cond.instantiable r.1 r.2.2 ∈ po_TB ∧ Cond.initialized r.1 ∈ po_TB
section POW
variable {X : po_X} {G : po_G} {N : Nat} {Q : State → Prop} {k n pc q : Nat} {L L' : List (Nat × Value)} {S S0 : List Value} {K : po_K} {R : po_R} {I : po_I} {z : Option Nat} {cc : ByteArray} {own : String} {st : Nat → Nat}
theorem po_new (hF : po_F X G cc own N st) {idx c : Nat} (d : decode cc pc = .ok (.new idx, 3)) (cl : po_CL own idx c) (h1 : k + 1 ≤ X.2.2.2.1.cells) (h2 : n + po_n c ≤ X.2.2.2.1.slots)
    (kk : po_V X G N Q (k + 1) (n + po_n c) (pc + 3) L (.ref q :: S) (po_w K q (c + 11, po_n c)) (po_w R q (fun _ => .null)) (po_w I q (fun _ => 0)) (some (q + 1))) : po_V X G N Q k n pc L S K R I (some q) := by
  intro H locs ls hlv hP hS
  obtain ⟨hx, hb, hml, hown, hts, hE, -, -⟩ := id hF
  obtain ⟨r, hc, hn, hl1, hl2, hl3⟩ := cl
  obtain ⟨hin, hty, hnm⟩ := po_incl hc
  have hc9 : c < 9 := (List.getElem?_eq_some_iff.mp hc).1
  have hKn := hE.1.1 c r hc
  have hq : H.size = q := hP.2.2 q rfl
  refine W.newcK hx hb hown (hts _ hl1) (hts _ hl2) (hts _ hl3) rfl d h1 (by rw [hn]; exact h2) hKn.2.1 hq fun H1 kC hkC e1 z1 o1 => ?_
  rw [hn]
  refine kk H1 locs ls hlv (po_grow hP z1 o1 (by rw [← hq]; exact Nat.le_trans hE.2.2.2.2.2.2.1 hS.1) (po_cell_obj ?_)) ⟨Nat.le_trans hS.1 (by omega), fun b h3 h4 => by rw [o1 b (by rw [← hq]; exact Nat.lt_of_lt_of_le h3 hS.1)]; exact hS.2.1 b h3 h4, hS.2.2⟩
  rw [← hn]
  exact (u_born (po_ty c) hts hin hKn hkC e1 hty).to (fun j _ => po_ty_def c hc9 j)
theorem po_newa (hF : po_F X G cc own N st) {at' : ArrayType} {c m : Nat} {v : Int32} {rr : Nat → Value} {ii : Nat → Int32} (d : decode cc pc = .ok (.newarray at', 2)) (hw : Cond.arrayClass (newarray.typeOf at') ∈ po_TB) (hc1 : 1 ≤ c ∧ c ≠ 2) (hc2 : c ≤ 10) (hty : po_aty c = newarray.typeOf at') (hprim : ∀ C, newarray.typeOf at' ≠ .object C) (hv : v.toNatClampNeg = m) (hv0 : ¬ v < 0) (hby : m * componentBytes (newarray.typeOf at') ≤ 536870912)
    (hd : ∀ j, defaultValue (newarray.typeOf at') = po_fv (po_aty c) (rr j) (ii j)) (h1 : k + 1 ≤ X.2.2.2.1.cells) (h2 : n + m ≤ X.2.2.2.1.slots)
    (kk : po_V X G N Q (k + 1) (n + m) (pc + 2) L (.ref q :: S) (po_w K q (c, m)) (po_w R q rr) (po_w I q ii) (some (q + 1))) : po_V X G N Q k n pc L (.int v :: S) K R I (some q) := by
  intro H locs ls hlv hP hS
  obtain ⟨hx, hb, hml, hown, hts, hE, -, -⟩ := id hF
  have hq : H.size = q := hP.2.2 q rfl
  subst hv
  have hra : X.2.2.2.2.1.vm.findClass ("[" ++ (newarray.typeOf at').toString) = some (G.2.1 c) := by
    have h := (hE.2.1 c hc1.1 hc2).2
    rw [hty] at h
    cases he : newarray.typeOf at' with
    | object C => exact absurd he (hprim C)
    | _ => rw [he] at h; exact h
  refine W.newa hx hb (hts _ hw) rfl d rfl hv0 hby h1 h2 fun cA kA comp f1 f2 f3 => ?_
  have hcA : cA = G.2.1 c := Option.some.inj (f1.symm.trans hra)
  subst hcA
  rw [hq]
  have hlt : ∀ b : Nat, b < q → (H.push { cls := G.2.1 c, slots := Array.replicate v.toNatClampNeg (defaultValue (newarray.typeOf at')), vm := .none })[b]? = H[b]? := fun b hb' => by
    rw [Array.getElem?_push, if_neg (by omega)]
  refine kk _ locs ls hlv (po_grow hP (by simp [hq]) hlt (by rw [← hq]; exact Nat.le_trans hE.2.2.2.2.2.2.1 hS.1) (po_cell_arr hc1 hc2 ?_)) ⟨by simp; have := hS.1; omega, fun b h3 h4 => by rw [hlt b (by rw [← hq]; exact Nat.lt_of_lt_of_le h3 hS.1)]; exact hS.2.1 b h3 h4, hS.2.2⟩
  rw [Array.getElem?_push, if_pos hq.symm, arrV_new]
  exact congrArg (fun f => some (arrV (G.2.1 c) v.toNatClampNeg f)) (funext hd)
theorem po_anewa (hF : po_F X G cc own N st) {idx c m : Nat} {v : Int32} {C : String} (d : decode cc pc = .ok (.anewarray idx, 3)) (hl : Cond.classLink own idx C ∈ po_TB) (ho : C ∈ po_ao) (hc1 : 7 ≤ c) (hc2 : c ≤ 10) (hty : po_aty c = .object C) (hv : v.toNatClampNeg = m) (hv0 : ¬ v < 0) (hby : m * 4 ≤ 536870912) (h1 : k + 1 ≤ X.2.2.2.1.cells) (h2 : n + m ≤ X.2.2.2.1.slots)
    (kk : po_V X G N Q (k + 1) (n + m) (pc + 3) L (.ref q :: S) (po_w K q (c, m)) (po_w R q (fun _ => .null)) (po_w I q (fun _ => 0)) (some (q + 1))) : po_V X G N Q k n pc L (.int v :: S) K R I (some q) := by
  intro H locs ls hlv hP hS
  obtain ⟨hx, hb, hml, hown, hts, hE, -, -⟩ := id hF
  have hq : H.size = q := hP.2.2 q rfl
  subst hv
  have hra : X.2.2.2.2.1.vm.findClass ("[" ++ (FieldType.object C).toString) = some (G.2.1 c) := by
    have h := (hE.2.1 c (by omega) hc2).2
    rw [hty] at h
    exact h.choose_spec.choose_spec.2.2.2
  refine W.anew hx hb hown (hts _ hl) (va_AO.use (hE.2.2.2.2.2.2.2.2 C ho)) rfl d rfl hv0 hby h1 h2 fun cA kA comp f1 f2 f3 f4 => ?_
  have hcA : cA = G.2.1 c := Option.some.inj (f1.symm.trans hra)
  subst hcA
  rw [hq]
  have hlt : ∀ b : Nat, b < q → (H.push { cls := G.2.1 c, slots := Array.replicate v.toNatClampNeg .null, vm := .none })[b]? = H[b]? := fun b hb' => by
    rw [Array.getElem?_push, if_neg (by omega)]
  refine kk _ locs ls hlv (po_grow hP (by simp [hq]) hlt (by rw [← hq]; exact Nat.le_trans hE.2.2.2.2.2.2.1 hS.1) (po_cell_arr (by omega) hc2 ?_)) ⟨by simp; have := hS.1; omega, fun b h3 h4 => by rw [hlt b (by rw [← hq]; exact Nat.lt_of_lt_of_le h3 hS.1)]; exact hS.2.1 b h3 h4, hS.2.2⟩
  rw [Array.getElem?_push, if_pos hq.symm, arrV_new]
  exact congrArg (fun f => some (arrV (G.2.1 c) v.toNatClampNeg f)) (funext fun j => by rw [hty]; rfl)
theorem po_objInit (hF : po_F X G cc own N st) {idx b : Nat} (d : decode cc pc = .ok (.invokespecial idx, 3)) (hl : Cond.methodLink own idx Lib.objectInit ∈ po_TB) (hw : Cond.instanceMethod Lib.objectInit ∈ po_TB ∧ Cond.code Lib.objectInit ⟨#[0xb1]⟩ 1 none ∈ po_TB) (hf : 1 ≤ X.2.2.2.1.frames) (hlo : (S.map fun v => v.category).sum + 12 ≤ X.2.2.2.1.locals)
    (kk : po_V X G N Q k n (pc + 3) L S K R I z) : po_V X G N Q k n pc L (.ref b :: S) K R I z := by
  intro H locs ls hlv hP hS
  obtain ⟨hx, hb, hml, hown, hts, hE, -, -⟩ := id hF
  exact W.objInit hx hb hown (hts _ hl) (hts _ hw.1) (hts _ hw.2) rfl (hlv.1.trans hml.symm) rfl d hf (by show 2 * 0 + _ + 12 ≤ _; omega) (kk H locs ls hlv hP hS)
/-- a final field, in the constructor -/
theorem po_putF (hF : po_F X G cc own N st) {idx c j a len : Nat} {v : Value} {R' : po_R} {q0 : vw_C} (d : decode cc pc = .ok (.putfield idx, 3)) (hc : po_cl[c]? = some q0) (hj : j < q0.2.2) (hn' : q0.2.2 = po_n c) (hlk : Cond.fieldLink own idx (q0.2.1 j).1 (q0.2.1 j).2.1 (q0.2.1 j).2.2.1 ∈ po_TB) (hsame : own = q0.1 ∧ (q0.2.1 j).1 = q0.1) (hin9 : X.2.2.2.2.2.2.2.2.1.name = "<init>") (hK : K a = (c + 11, len))
    (hfin : (q0.2.1 j).2.2.2 = true) (hn : narrow (po_ty c j) v = v) (hfit : fits (po_ty c j) v = true) (hv : ∀ i, po_fv (po_ty c j) v i = v) (hR : po_u R a j v = R')
    (kk : po_V X G N Q k n (pc + 3) L S K R' I z) : po_V X G N Q k n pc L (v :: .ref a :: S) K R I z := by
  subst hR
  intro H locs ls hl hP hS
  obtain ⟨hx, hb, hml, hown, hts, hE, -, -⟩ := id hF
  obtain ⟨hin, hty, hnm⟩ := po_incl hc
  have hap := va_apart (own := own) hts hin (po_ty c) hty hnm hE.1 hc
  obtain ⟨cell, q1, q2, q3, q4⟩ := hP.obj hK
  obtain ⟨hSl, hfc, kC, hkC, hkind⟩ := hE.1.1 c q0 hc
  obtain ⟨cf, kf, fi, f, hi, hsl⟩ := hSl j hj
  have hlay := hts _ (hin _ (u_in_lay hj))
  unfold u_lay at hlay
  rw [if_pos hfin] at hlay
  have hst := (u_facts hfc hkC (u_lays hts hin hj) hi).1
  have h6 := u_fits hfc hkC hkind (Or.inr hlay) hi (hty j hj) hn hfit
  have hlt : f.slot < cell.slots.size := by rw [hsl]; exact k2_hasslot (q4 j (by rw [← hn']; exact hj))
  have hA : po_A G a := hP.2.1 a (by rw [hK]; show c + 11 ≠ 0; omega) (by rw [hK]; show c + 11 ≠ 2; omega)
  have hcf : X.2.2.2.2.2.1.cls = cf := laid_decl (C := q0.1) (f := (q0.2.1 j).2.1) (d := (q0.2.1 j).2.2.1) (by rw [← hsame.1]; exact hown) (by have h9 := hlay; rw [hsame.2] at h9; exact h9) (by have h9 := hi; rw [hsame.2] at h9; exact h9)
  refine W.putFinK hx hb hown (hts _ hlk) hi hst hcf hin9 (by rw [q2]; exact h6) q1 q3 hlt rfl rfl d fun H' e1 e2 e3 => kk H' _ ls hl ?_ (hS.put e2 e3 hA)
  refine hP.set e2 e3 (fun b hb => po_u_ne hb) (fun _ _ => rfl) ?_
  rw [hK]
  refine po_cell_obj ⟨_, e1, q2, q3, fun i hi' => ?_⟩
  rw [hsl, t_set q4 (fun a b ha hb => hap a b (by rw [hn']; exact ha) (by rw [hn']; exact hb)) (by rw [← hn']; exact hj) v i hi']
  refine congrArg some ?_
  show (if i = j then v else po_fv (po_ty c i) (R a i) (I a i)) = po_fv (po_ty c i) (po_u R a j v a i) (I a i)
  rw [po_u_at]
  by_cases h : i = j
  · subst h
    rw [if_pos rfl]
    simp only [vf_upd, if_true]
    exact (hv _).symm
  · rw [if_neg h]
    simp only [vf_upd, if_neg h]
/-- a constructor's call -/
def po_MI (own : String) (idx : Nat) (y : MethodName) (cc : ByteArray) (nL nA : Nat) : Prop :=
  y.name = "<init>" ∧ Cond.code y cc nL none ∈ po_TB ∧ Cond.instanceMethod y ∈ po_TB ∧ Cond.initialized y.cls ∈ po_TB ∧ (y.cls ≠ "java/lang/invoke/MethodHandle" ∧ y.cls ≠ "java/lang/invoke/VarHandle" ∧ (parseMethodDescriptor y.desc).map (fun d => d.parameters.length) = some nA) ∧ (Cond.methodLink own idx y ∈ po_TB ∨ ∃ host, Cond.methodLinkNest own idx y host ∈ po_NW)
theorem po_callI (hF : po_F X G cc own N st) {idx : Nat} {y : MethodName} {cc' : ByteArray} {nL nA f mc ms b : Nat} {As : List Value} {K' : po_K} {R' : po_R} {I' : po_I} {z' : Option Nat}
    (d : decode cc pc = .ok (.invokespecial idx, 3)) (hM : po_MI own idx y cc' nL nA)
    (hC : po_C st y cc' nL none f mc ms (.ref b :: As) K R I z (.inl none) K' R' I' z') (hA : As.length = nA) (hrt : po_rt X f nL mc ms k n) (hst : (S.map fun v => v.category).sum ≤ 8) (hS0 : As.reverse ++ .ref b :: S = S0)
    (kk : po_V X G N Q (k + mc) (n + ms) (pc + 3) L S K' R' I' z') : po_V X G N Q k n pc L S0 K R I z := by
  subst hS0
  intro H locs ls hlv hP hS
  obtain ⟨hx, hb, hml, hown, hts, hE, hst', hfl⟩ := id hF
  obtain ⟨m0, m1, m2, m3, m4, m5⟩ := hM
  have hG := po_good (ws := .code y cc' nL none :: po_TB) m1 rfl
  have hPre : PreS X.2.2.2.2.1 H (po_Pc G (.ref b :: As) K R I z) (.ref b :: As) := ⟨po_blind, fun U hU hW => ⟨rfl, po_Erun hF hS hU hW, by rw [hU]; exact hP⟩⟩
  rcases m5 with m5 | ⟨host, m5⟩
  · exact po_cont (v := none) hlv hS rfl (vx_runI (nL := N) (cc := cc) (own := own) (Ts := po_TB) ⟨hx, hb, hml, hown, hts⟩ (hC X.2.1 hfl G hst') ⟨callB_of nA hts hG rfl rfl rfl (hts _ m3) (hts _ m5) m4 ⟨hrt.1, hrt.2.1⟩, m0, hts _ m2⟩ hPre rfl hA hlv.1 rfl (lv_room hst) d ⟨hrt.2.2.1, hrt.2.2.2⟩) rfl kk
  · exact po_cont (v := none) hlv hS rfl (vx_runIN (nL := N) (cc := cc) (own := own) (Ts := po_TB) ⟨hx, hb, hml, hown, hts⟩ (hC X.2.1 hfl G hst') ⟨va_cnB nA hts hG rfl rfl rfl (hE.2.2.1 _ m5) (hts _ m3) m4 ⟨hrt.1, hrt.2.1⟩, m0, hts _ m2⟩ hPre rfl hA hlv.1 rfl (lv_room hst) d ⟨hrt.2.2.1, hrt.2.2.2⟩) rfl kk
end POW
