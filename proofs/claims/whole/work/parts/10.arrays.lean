/-! arrays, statics, the library's arithmetic, over the heap as functions -/
section POA
variable {X : po_X} {G : po_G} {N : Nat} {Q : State → Prop} {k n pc : Nat} {L L' : List (Nat × Value)} {S : List Value} {K : po_K} {R : po_R} {I : po_I} {z : Option Nat} {cc : ByteArray} {own : String} {st : Nat → Nat}
variable {ρ : Type} {r : ρ} {A B : Option ρ}
theorem po_in_lt {i : Int32} {m : Nat} (h : po_in i m = true) : i.toNatClampNeg < m := Nat.not_le.mp fun q => (po_in_vp h) (Or.inr q)
theorem po_if {c : Bool} {ρ : Type} {A : Option ρ} {r : ρ} (hm : (if c = true then A else none) = some r) : c = true ∧ A = some r := by
  cases c
  · simp at hm
  · exact ⟨rfl, by simpa using hm⟩
theorem po_bind {α ρ : Type} {o : Option α} {f : α → Option ρ} {r : ρ} (hm : o.bind f = some r) : ∃ x, o = some x ∧ f x = some r := by
  cases o with
  | none => simp at hm
  | some x => exact ⟨x, rfl, hm⟩
theorem po_ialdK (hF : po_F X G cc own N st) {a c len : Nat} {i : Int32} (d : decode cc pc = .ok (.iaload, 1)) (hK : K a = (c, len)) (hc : c = 1 ∨ c = 2) (hi : po_in i len = true)
    (kk : po_V X G N Q k n (pc + 1) L (.int (I a i.toNatClampNeg) :: S) K R I z) : po_V X G N Q k n pc L (.int i :: .ref a :: S) K R I z := by
  intro H locs ls hl hP hS
  rcases hc with rfl | rfl
  · have hq := hP.arr hK (by omega) (by omega)
    have hA := (hF.2.2.2.2.2.1.2.1 1 (by omega) (by omega)).1
    refine W.iald (v := .int (I a i.toNatClampNeg)) hF.1 hF.2.1 hq (hA _ _) (fun q => by cases q) (by rw [arrV_size]; exact po_in_vp hi) ?_ rfl rfl d (kk H locs ls hl hP hS)
    rw [arrV_read _ _ (po_in_lt hi)]
    rfl
  · obtain ⟨cell, e, u1, u2, ⟨j, hj, hcl⟩, hv⟩ := hP.cst hK
    have hA := hF.2.2.2.2.2.1.2.2.2.2.2.1.2.2.2 j hj
    have hlt := po_in_lt hi
    have hsz := (Array.getElem?_eq_some_iff.mp (hv _ hlt)).1
    refine W.iald (v := .int (I a i.toNatClampNeg)) hF.1 hF.2.1 e ⟨u2, by rw [hcl]; exact (hA 0 (fun _ => .null)).2⟩ u1 (fun q => ?_) (hv _ hlt) rfl rfl d (kk H locs ls hl hP hS)
    rcases q with q | q
    · exact po_in_vp hi (Or.inl q)
    · omega
theorem po_iald (hF : po_F X G cc own N st) {a c len : Nat} {i : Int32} (d : decode cc pc = .ok (.iaload, 1)) (hK : K a = (c, len)) (hc : c = 1 ∨ c = 2) (hm : (if po_in i len = true then A else none) = some r)
    (kk : A = some r → po_V X G N Q k n (pc + 1) L (.int (I a i.toNatClampNeg) :: S) K R I z) : po_V X G N Q k n pc L (.int i :: .ref a :: S) K R I z := po_ialdK hF d hK hc (po_if hm).1 (kk (po_if hm).2)
theorem po_cald (hF : po_F X G cc own N st) {a len : Nat} {i : Int32} (d : decode cc pc = .ok (.caload, 1)) (hK : K a = (3, len)) (hm : (if po_in i len = true then A else none) = some r)
    (kk : A = some r → po_V X G N Q k n (pc + 1) L (.int (vp_nar .char (I a i.toNatClampNeg)) :: S) K R I z) : po_V X G N Q k n pc L (.int i :: .ref a :: S) K R I z := by
  intro H locs ls hl hP hS
  obtain ⟨hi, hm⟩ := po_if hm
  have hq := hP.arr hK (by omega) (by omega)
  have hA := (hF.2.2.2.2.2.1.2.1 3 (by omega) (by omega)).1
  refine W.cald (v := .int (vp_nar .char (I a i.toNatClampNeg))) hF.1 hF.2.1 hq (hA _ _) (fun q => by cases q) (by rw [arrV_size]; exact po_in_vp hi) ?_ rfl rfl d (kk hm H locs ls hl hP hS)
  rw [arrV_read _ _ (po_in_lt hi)]
  rfl
theorem po_zald (hF : po_F X G cc own N st) {a len : Nat} {i : Int32} (d : decode cc pc = .ok (.baload, 1)) (hK : K a = (4, len)) (hm : (if po_in i len = true then A else none) = some r)
    (kk : A = some r → po_V X G N Q k n (pc + 1) L (.int (vp_nar .boolean (I a i.toNatClampNeg)) :: S) K R I z) : po_V X G N Q k n pc L (.int i :: .ref a :: S) K R I z := by
  intro H locs ls hl hP hS
  obtain ⟨hi, hm⟩ := po_if hm
  have hq := hP.arr hK (by omega) (by omega)
  have hA := (hF.2.2.2.2.2.1.2.1 4 (by omega) (by omega)).1
  refine W.zald (v := .int (vp_nar .boolean (I a i.toNatClampNeg))) hF.1 hF.2.1 hq (hA _ _) (fun q => by cases q) (by rw [arrV_size]; exact po_in_vp hi) ?_ rfl rfl d (kk hm H locs ls hl hP hS)
  rw [arrV_read _ _ (po_in_lt hi)]
  rfl
theorem po_lald (hF : po_F X G cc own N st) {a len : Nat} {i : Int32} {v : Int64} (d : decode cc pc = .ok (.laload, 1)) (hK : K a = (5, len)) (hi : po_in i len = true) (hv : R a i.toNatClampNeg = .long v)
    (kk : po_V X G N Q k n (pc + 1) L (.long v :: S) K R I z) : po_V X G N Q k n pc L (.int i :: .ref a :: S) K R I z := by
  intro H locs ls hl hP hS
  have hq := hP.arr hK (by omega) (by omega)
  have hA := (hF.2.2.2.2.2.1.2.1 5 (by omega) (by omega)).1
  refine W.lald (v := .long v) hF.1 hF.2.1 hq (hA _ _) (fun q => by cases q) (by rw [arrV_size]; exact po_in_vp hi) ?_ rfl rfl d (kk H locs ls hl hP hS)
  rw [arrV_read _ _ (po_in_lt hi), ← hv]
  rfl
theorem po_dald (hF : po_F X G cc own N st) {a len : Nat} {i : Int32} {v : UInt64} (d : decode cc pc = .ok (.daload, 1)) (hK : K a = (6, len)) (hi : po_in i len = true) (hv : R a i.toNatClampNeg = .double v)
    (kk : po_V X G N Q k n (pc + 1) L (.double v :: S) K R I z) : po_V X G N Q k n pc L (.int i :: .ref a :: S) K R I z := by
  intro H locs ls hl hP hS
  have hq := hP.arr hK (by omega) (by omega)
  have hA := (hF.2.2.2.2.2.1.2.1 6 (by omega) (by omega)).1
  refine W.dald (v := .double v) hF.1 hF.2.1 hq (hA _ _) (fun q => by cases q) (by rw [arrV_size]; exact po_in_vp hi) ?_ rfl rfl d (kk H locs ls hl hP hS)
  rw [arrV_read _ _ (po_in_lt hi), ← hv]
  rfl
/-- a reference out of an array -/
theorem po_aald (hF : po_F X G cc own N st) {a c len b : Nat} {i : Int32} (d : decode cc pc = .ok (.aaload, 1)) (hK : K a = (c, len)) (hc : c = 7 ∨ c = 8 ∨ c = 9 ∨ c = 10) (hm : (if po_in i len = true then A else none) = some r) (hR : po_in i len = true → R a i.toNatClampNeg = .ref b)
    (kk : po_in i len = true → A = some r → po_V X G N Q k n (pc + 1) L (.ref b :: S) K R I z) : po_V X G N Q k n pc L (.int i :: .ref a :: S) K R I z := by
  intro H locs ls hl hP hS
  obtain ⟨hi, hm⟩ := po_if hm
  have hq := hP.arr hK (by omega) (by omega)
  have hA := (hF.2.2.2.2.2.1.2.1 c (by omega) (by omega)).1
  have hty : (po_aty c).isReference = true := by rcases hc with rfl | rfl | rfl | rfl <;> rfl
  have hfv : ∀ r i, po_fv (po_aty c) r i = r := by rcases hc with rfl | rfl | rfl | rfl <;> exact fun _ _ => rfl
  refine W.aald (v := .ref b) hF.1 hF.2.1 hq (hA _ _) hty (fun q => by cases q) (by rw [arrV_size]; exact po_in_vp hi) ?_ rfl rfl d (kk hi hm H locs ls hl hP hS)
  rw [arrV_read _ _ (po_in_lt hi), hfv, hR hi]
theorem po_alen (hF : po_F X G cc own N st) {a c len : Nat} {v : Int32} (d : decode cc pc = .ok (.arraylength, 1)) (hK : K a = (c, len)) (h1 : 1 ≤ c ∧ c ≠ 2) (h2 : c ≤ 10) (hv : len.toInt32 = v)
    (kk : po_V X G N Q k n (pc + 1) L (.int v :: S) K R I z) : po_V X G N Q k n pc L (.ref a :: S) K R I z := by
  intro H locs ls hl hP hS
  have hq := hP.arr hK h1 h2
  have hA := (hF.2.2.2.2.2.1.2.1 c h1.1 h2).1
  exact W.alen hF.1 hF.2.1 hq (hA _ _) (by rw [arrV_size]; exact hv) rfl rfl d (kk H locs ls hl hP hS)
/-- the cell of an array behind a store -/
theorem po_arr_set {H H' : Heap} {R' : po_R} {I' : po_I} (hP : po_ok G K R I z H) {a c len j : Nat} {v : Value} (hK : K a = (c, len)) (h1 : 1 ≤ c ∧ c ≠ 2) (h2 : c ≤ 10)
    (e1 : H'[a]? = some ((arrV (G.2.1 c) len (fun j => po_fv (po_aty c) (R a j) (I a j))).setSlot j v)) (e2 : H'.size = H.size) (e3 : ∀ q : Nat, q ≠ a → H'[q]? = H[q]?)
    (hR : ∀ b, b ≠ a → R' b = R b) (hI : ∀ b, b ≠ a → I' b = I b) (hv : ∀ i, po_fv (po_aty c) (R' a i) (I' a i) = if i = j then v else po_fv (po_aty c) (R a i) (I a i)) : po_ok G K R' I' z H' := by
  refine hP.set e2 e3 hR hI ?_
  rw [hK]
  refine po_cell_arr h1 h2 ?_
  rw [e1, arrV_store]
  refine congrArg (fun f => some (arrV (G.2.1 c) len f)) (funext fun i => ?_)
  show (if i = j then v else po_fv (po_aty c) (R a i) (I a i)) = _
  exact (hv i).symm
theorem po_upI {f : Nat → Nat → Int32} {a j : Nat} {x : Int32} {ty : FieldType} {R : po_R} {v : Value} (hv : ∀ r, po_fv ty r x = v) (i : Nat) : po_fv ty (R a i) (po_u f a j x a i) = if i = j then v else po_fv ty (R a i) (f a i) := by
  rw [po_u_at]
  by_cases h : i = j
  · subst h
    rw [if_pos rfl]
    simp only [vf_upd, if_true]
    exact hv _
  · rw [if_neg h]
    simp only [vf_upd, if_neg h]
theorem po_upR {f : Nat → Nat → Value} {a j : Nat} {x : Value} {ty : FieldType} {I : po_I} (hv : ∀ i, po_fv ty x i = x) (i : Nat) : po_fv ty (po_u f a j x a i) (I a i) = if i = j then x else po_fv ty (f a i) (I a i) := by
  rw [po_u_at]
  by_cases h : i = j
  · subst h
    rw [if_pos rfl]
    simp only [vf_upd, if_true]
    exact hv _
  · rw [if_neg h]
    simp only [vf_upd, if_neg h]
theorem po_iast (hF : po_F X G cc own N st) {a len : Nat} {i x : Int32} {I' : po_I} (d : decode cc pc = .ok (.iastore, 1)) (hK : K a = (1, len)) (hm : (if po_in i len = true then A else none) = some r) (hI : po_u I a i.toNatClampNeg x = I')
    (kk : A = some r → po_V X G N Q k n (pc + 1) L S K R I' z) : po_V X G N Q k n pc L (.int x :: .int i :: .ref a :: S) K R I z := by
  intro H locs ls hl hP hS
  subst hI
  obtain ⟨hi, hm⟩ := po_if hm
  have hq := hP.arr hK (by omega) (by omega)
  have hA := (hF.2.2.2.2.2.1.2.1 1 (by omega) (by omega)).1
  have hw : po_A G a := hP.2.1 a (by rw [hK]; simp) (by rw [hK]; simp)
  exact W.iast hF.1 hF.2.1 hq (hA _ _) (fun q => by cases q) (by rw [arrV_size]; exact po_in_vp hi) rfl rfl d fun H' e1 e2 e3 => kk hm H' _ ls hl (po_arr_set hP hK (by omega) (by omega) e1 e2 e3 (fun _ _ => rfl) (fun b hb => po_u_ne hb) (po_upI fun _ => rfl)) (hS.put e2 e3 hw)
theorem po_cast (hF : po_F X G cc own N st) {a len : Nat} {i x : Int32} {I' : po_I} (d : decode cc pc = .ok (.castore, 1)) (hK : K a = (3, len)) (hm : (if po_in i len = true then A else none) = some r) (hI : po_u I a i.toNatClampNeg x = I')
    (kk : A = some r → po_V X G N Q k n (pc + 1) L S K R I' z) : po_V X G N Q k n pc L (.int x :: .int i :: .ref a :: S) K R I z := by
  intro H locs ls hl hP hS
  subst hI
  obtain ⟨hi, hm⟩ := po_if hm
  have hq := hP.arr hK (by omega) (by omega)
  have hA := (hF.2.2.2.2.2.1.2.1 3 (by omega) (by omega)).1
  have hw : po_A G a := hP.2.1 a (by rw [hK]; simp) (by rw [hK]; simp)
  exact W.cast hF.1 hF.2.1 hq (hA _ _) (fun q => by cases q) (by rw [arrV_size]; exact po_in_vp hi) rfl rfl d fun H' e1 e2 e3 => kk hm H' _ ls hl (po_arr_set hP hK (by omega) (by omega) e1 e2 e3 (fun _ _ => rfl) (fun b hb => po_u_ne hb) (po_upI fun _ => rfl)) (hS.put e2 e3 hw)
theorem po_zast (hF : po_F X G cc own N st) {a len : Nat} {i x : Int32} {I' : po_I} (d : decode cc pc = .ok (.bastore, 1)) (hK : K a = (4, len)) (hm : (if po_in i len = true then A else none) = some r) (hI : po_u I a i.toNatClampNeg x = I')
    (kk : A = some r → po_V X G N Q k n (pc + 1) L S K R I' z) : po_V X G N Q k n pc L (.int x :: .int i :: .ref a :: S) K R I z := by
  intro H locs ls hl hP hS
  subst hI
  obtain ⟨hi, hm⟩ := po_if hm
  have hq := hP.arr hK (by omega) (by omega)
  have hA := (hF.2.2.2.2.2.1.2.1 4 (by omega) (by omega)).1
  have hw : po_A G a := hP.2.1 a (by rw [hK]; simp) (by rw [hK]; simp)
  exact W.zast hF.1 hF.2.1 hq (hA _ _) (fun q => by cases q) (by rw [arrV_size]; exact po_in_vp hi) rfl rfl d fun H' e1 e2 e3 => kk hm H' _ ls hl (po_arr_set hP hK (by omega) (by omega) e1 e2 e3 (fun _ _ => rfl) (fun b hb => po_u_ne hb) (po_upI fun _ => rfl)) (hS.put e2 e3 hw)
theorem po_last (hF : po_F X G cc own N st) {a len : Nat} {i : Int32} {x : Int64} {R' : po_R} (d : decode cc pc = .ok (.lastore, 1)) (hK : K a = (5, len)) (hi : po_in i len = true) (hR : po_u R a i.toNatClampNeg (.long x) = R')
    (kk : po_V X G N Q k n (pc + 1) L S K R' I z) : po_V X G N Q k n pc L (.long x :: .int i :: .ref a :: S) K R I z := by
  intro H locs ls hl hP hS
  subst hR
  have hq := hP.arr hK (by omega) (by omega)
  have hA := (hF.2.2.2.2.2.1.2.1 5 (by omega) (by omega)).1
  have hw : po_A G a := hP.2.1 a (by rw [hK]; simp) (by rw [hK]; simp)
  exact W.last hF.1 hF.2.1 hq (hA _ _) (fun q => by cases q) (by rw [arrV_size]; exact po_in_vp hi) rfl rfl d fun H' e1 e2 e3 => kk H' _ ls hl (po_arr_set hP hK (by omega) (by omega) e1 e2 e3 (fun b hb => po_u_ne hb) (fun _ _ => rfl) (po_upR fun _ => rfl)) (hS.put e2 e3 hw)
theorem po_dast (hF : po_F X G cc own N st) {a len : Nat} {i : Int32} {x : UInt64} {R' : po_R} (d : decode cc pc = .ok (.dastore, 1)) (hK : K a = (6, len)) (hi : po_in i len = true) (hR : po_u R a i.toNatClampNeg (.double x) = R')
    (kk : po_V X G N Q k n (pc + 1) L S K R' I z) : po_V X G N Q k n pc L (.double x :: .int i :: .ref a :: S) K R I z := by
  intro H locs ls hl hP hS
  subst hR
  have hq := hP.arr hK (by omega) (by omega)
  have hA := (hF.2.2.2.2.2.1.2.1 6 (by omega) (by omega)).1
  have hw : po_A G a := hP.2.1 a (by rw [hK]; simp) (by rw [hK]; simp)
  exact W.dast hF.1 hF.2.1 hq (hA _ _) (fun q => by cases q) (by rw [arrV_size]; exact po_in_vp hi) rfl rfl d fun H' e1 e2 e3 => kk H' _ ls hl (po_arr_set hP hK (by omega) (by omega) e1 e2 e3 (fun b hb => po_u_ne hb) (fun _ _ => rfl) (po_upR fun _ => rfl)) (hS.put e2 e3 hw)
/-- a reference into an array of one of our classes; the class of the elements is po_cl's e -/
theorem po_aast (hF : po_F X G cc own N st) {a c e len len2 v : Nat} {i : Int32} {R' : po_R} {q : vw_C} (d : decode cc pc = .ok (.aastore, 1)) (hK : K a = (c, len)) (h1 : 7 ≤ c) (h2 : c ≤ 10) (hq : po_cl[e]? = some q) (hty : po_aty c = .object q.1) (hKv : K v = (e + 11, len2)) (hm : (if po_in i len = true then A else none) = some r) (hR : po_u R a i.toNatClampNeg (.ref v) = R')
    (kk : A = some r → po_V X G N Q k n (pc + 1) L S K R' I z) : po_V X G N Q k n pc L (.ref v :: .int i :: .ref a :: S) K R I z := by
  intro H locs ls hl hP hS
  subst hR
  obtain ⟨hi, hm⟩ := po_if hm
  have hc := hP.arr hK (by omega) (by omega)
  obtain ⟨hA, hRA⟩ := hF.2.2.2.2.2.1.2.1 c (by omega) (by omega)
  have hw : po_A G a := hP.2.1 a (by rw [hK]; show c ≠ 0; omega) (by rw [hK]; show c ≠ 2; omega)
  rw [hty] at hRA
  obtain ⟨kA, comp, k1, k2, k3, -⟩ := hRA
  obtain ⟨cellV, g1, g2, g3, -⟩ := hP.obj hKv
  have hcls := (hF.2.2.2.2.2.1.1.1 e q hq).2
  have hcomp : comp = G.1.1 e := Option.some.inj (k3.symm.trans hcls.1)
  subst hcomp
  obtain ⟨kC, hkC, -⟩ := hcls.2
  have hfv : ∀ i, po_fv (po_aty c) (.ref v) i = .ref v := by rw [hty]; exact fun _ => rfl
  exact W.aast hF.1 hF.2.1 hc (fun q h => by cases h) (fun h => by cases h) k1 k2 rfl hkC ⟨fun q => (po_in_vp hi) (Or.inl q), by rw [arrV_size]; exact po_in_lt hi⟩ g1 (fun q h => by rw [g3] at h; cases h) (by rw [g2]; exact hkC) (by rw [g2]; exact va_assign hcls) rfl rfl d
    fun H' e1 e2 e3 => kk hm H' _ ls hl (po_arr_set hP hK (by omega) (by omega) e1 e2 e3 (fun b hb => po_u_ne hb) (fun _ _ => rfl) (po_upR hfv)) (hS.put e2 e3 hw)
/-! static fields -/
def po_GL (own : String) (idx : Nat) (nm : String) : Prop := Cond.fieldLink own idx RX7 nm "[I" ∈ po_TB ∨ ∃ host, Cond.fieldLinkNest own idx RX7 nm "[I" host ∈ po_NW
theorem po_gets (hF : po_F X G cc own N st) {idx : Nat} {nm : String} {b : Nat} (d : decode cc pc = .ok (.getstatic idx, 3)) (gl : po_GL own idx nm) (hb : (nm = "FIRST_RULES" ∧ b = st 0) ∨ (nm = "LEAST_RULES" ∧ b = st 1) ∨ (nm = "GREATEST_RULES" ∧ b = st 2))
    (kk : po_V X G N Q k n (pc + 3) L (.ref b :: S) K R I z) : po_V X G N Q k n pc L S K R I z := by
  intro H locs ls hl hP hS
  obtain ⟨hx, hcode, hml, hown, hts, hE, hst, -⟩ := hF
  have hZ : va_Z RX7 nm "[I" (.ref b) (po_A G) X.2.2.2.2.1 X.2.2.2.2.1.heap := by
    obtain ⟨h7, h8, h9, -⟩ := hE.2.2.2.2.2.1
    rw [hst] at h7 h8 h9
    rcases hb with ⟨rfl, rfl⟩ | ⟨rfl, rfl⟩ | ⟨rfl, rfl⟩
    · exact h7
    · exact h8
    · exact h9
  rcases gl with h | ⟨host, h⟩
  · exact va_gets hx hcode hZ hS hown (hts _ h) (fun _ h9 => h9) d (kk H locs ls hl hP hS)
  · exact va_getsN hx hcode hZ hS hown (va_Nw.use (by rfl) (hE.2.2.1 _ h)) (fun _ h9 => h9) d (kk H locs ls hl hP hS)
/-! comparing references -/
theorem po_acmp_eq (hF : po_F X G cc own N st) {x y : Nat} {off : Int} {tgt : Nat} (d : decode cc pc = .ok (.if_acmp .eq off, 3)) (ht : (pc : Int) + off = (tgt : Int)) (hm : (if x = y then A else B) = some r) (kt : A = some r → po_V X G N Q k n tgt L S K R I z) (kf : B = some r → po_V X G N Q k n (pc + 3) L S K R I z) : po_V X G N Q k n pc L (.ref y :: .ref x :: S) K R I z := by
  intro H locs ls hl hP hS
  refine lv_acmp_eq (rx := some x) (ry := some y) hF.1 hF.2.1 d ht (fun c => ?_) (fun c => ?_)
  · have c' : x = y := Option.some.inj c
    rw [if_pos c'] at hm
    exact kt hm H locs ls hl hP hS
  · have c' : ¬ x = y := fun e => c (congrArg some e)
    rw [if_neg c'] at hm
    exact kf hm H locs ls hl hP hS
theorem po_acmp_eqN (hF : po_F X G cc own N st) {x : Nat} {off : Int} {tgt : Nat} (d : decode cc pc = .ok (.if_acmp .eq off, 3)) (ht : (pc : Int) + off = (tgt : Int)) (kf : po_V X G N Q k n (pc + 3) L S K R I z) : po_V X G N Q k n pc L (.null :: .ref x :: S) K R I z := by
  intro H locs ls hl hP hS
  exact lv_acmp_eq (rx := some x) (ry := Option.none) hF.1 hF.2.1 d ht (fun c => by cases c) (fun _ => kf H locs ls hl hP hS)
end POA
