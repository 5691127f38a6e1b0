/-! switches, copies, the library's arithmetic, floats, new things -/
def po_cp (I : po_I) (a b m : Nat) : po_I := fun q => if q = b then (fun j => if j < m then I a j else I b j) else I q
section POM
variable {X : po_X} {G : po_G} {N : Nat} {Q : State → Prop} {k n pc : Nat} {L L' : List (Nat × Value)} {S S0 : List Value} {K : po_K} {R : po_R} {I : po_I} {z : Option Nat} {cc : ByteArray} {own : String} {st : Nat → Nat}
variable {ρ : Type} {r : ρ} {A B : Option ρ}
theorem po_tin (hF : po_F X G cc own N st) {dflt lo hi off : Int} {offs : Array Int} {len tgt : Nat} {x c : Int32} (d : decode cc pc = .ok (.tableswitch dflt lo hi offs, len)) (hx : x = c) (h1 : ¬ c.toInt < lo) (h2 : ¬ hi < c.toInt) (ho : offs[(c.toInt - lo).toNat]? = some off) (ht : (pc : Int) + off = (tgt : Int))
    (kk : po_V X G N Q k n tgt L S K R I z) : po_V X G N Q k n pc L (.int x :: S) K R I z := by
  subst hx
  exact fun H locs ls hl hP hS => lv_tableIn hF.1 hF.2.1 d h1 h2 ho ht (kk H locs ls hl hP hS)
theorem po_tout (hF : po_F X G cc own N st) {dflt lo hi : Int} {offs : Array Int} {len tgt : Nat} {x : Int32} (d : decode cc pc = .ok (.tableswitch dflt lo hi offs, len)) (h : x.toInt < lo ∨ hi < x.toInt) (ht : (pc : Int) + dflt = (tgt : Int))
    (kk : po_V X G N Q k n tgt L S K R I z) : po_V X G N Q k n pc L (.int x :: S) K R I z :=
  fun H locs ls hl hP hS => lv_tableOut hF.1 hF.2.1 d h ht (kk H locs ls hl hP hS)
theorem po_lsw (hF : po_F X G cc own N st) {dflt off : Int} {ps : Array (Int × Int)} {len tgt : Nat} {x : Int32} (d : decode cc pc = .ok (.lookupswitch dflt ps, len)) (hp : (ps.toList.zip (ps.toList.drop 1)).all (fun (a, next) => a.1 < next.1) = true) (ho : Op.lookupswitch.offset ps.toList dflt x.toInt = off) (ht : (pc : Int) + off = (tgt : Int))
    (kk : po_V X G N Q k n tgt L S K R I z) : po_V X G N Q k n pc L (.int x :: S) K R I z :=
  fun H locs ls hl hP hS => lv_lookup hF.1 hF.2.1 d hp ho ht (kk H locs ls hl hP hS)
/-- none of the numbers lo .. lo + m - 1 -/
theorem po_tdef {x : Int32} {lo : Int} {m : Nat} (h : ∀ j : Nat, j < m → ¬ x.toInt = lo + (j : Int)) : x.toInt < lo ∨ lo + (m : Int) - 1 < x.toInt := by
  by_cases h1 : x.toInt < lo
  · exact Or.inl h1
  · by_cases h2 : lo + (m : Int) - 1 < x.toInt
    · exact Or.inr h2
    · exfalso
      exact h (x.toInt - lo).toNat (by omega) (by omega)
theorem po_neI {x c : Int32} {a : Int} (h : ¬ x = c) (hc : c.toInt = a) : ¬ x.toInt = a := fun q => h (Int32.toInt_inj.mp (by rw [hc]; exact q))
theorem po_acopy (hF : po_F X G cc own N st) {f mc ms : Nat} {nm : String} {ret : Option FieldType} (hL : po_L X ret f mc ms nm) {idx a b la lb m : Nat} {v : Int32} {I' : po_I} (d : decode cc pc = .ok (.invokestatic idx, 3)) (hl : Cond.methodLink own idx arraycopyName ∈ po_TB) (hw : Cond.native arraycopyName ∈ po_TB ∧ Cond.static arraycopyName ∈ po_TB ∧ Cond.initialized "java/lang/System" ∈ po_TB)
    (hKa : K a = (1, la)) (hKb : K b = (1, lb)) (hv : v.toNatClampNeg = m) (hv0 : ¬ v < 0) (h1 : m ≤ la) (h2 : m ≤ lb) (hst : (S.map fun v => v.category).sum ≤ 8) (hf : 1 ≤ f) (hI : po_cp I a b m = I')
    (kk : po_V X G N Q k n (pc + 3) L S K R I' z) : po_V X G N Q k n pc L (.int v :: .int 0 :: .ref b :: .int 0 :: .ref a :: S) K R I z := by
  subst hI
  intro H locs ls hlv hP hS
  obtain ⟨hx, hb, hml, hown, hts, hE, -, -⟩ := id hF
  have hc0 : H[a]? = some (arrV (G.2.1 1) la (fun j => .int (I a j))) := hP.arr hKa (by omega) (by omega)
  have hc1 : H[b]? = some (arrV (G.2.1 1) lb (fun j => .int (I b j))) := hP.arr hKb (by omega) (by omega)
  have hA : ArrOfT X.2.2.2.2.1 (G.2.1 1) .int := (hE.2.1 1 (by omega) (by omega)).1
  obtain ⟨-, k0, hk0, cm0, hkk0⟩ := hA la (fun j => .int (I a j))
  obtain ⟨-, k1, hk1, cm1, hkk1⟩ := hA lb (fun j => .int (I b j))
  have hwr : po_A G b := hP.2.1 b (by rw [hKb]; simp) (by rw [hKb]; simp)
  have hvI : v.toInt = (m : Int) := by
    have hz0 : (0 : Int) ≤ v.toInt := by
      have := Int32.not_lt.mp hv0
      simpa using Int32.le_iff_toInt_le.mp this
    rw [← hv]
    show v.toInt = ((v.toInt.toNat : Nat) : Int)
    omega
  have hnf : nativeFrameWords "java/lang/System" "arraycopy" 5 = 7 := nativeFrameWords_plain 5 (by decide)
  intro T hT Xs
  obtain ⟨vm', X', step⟩ := Xs.arraycopy hx hown (hts _ hl) (hts _ hw.1) (hts _ hw.2.1) (hts _ hw.2.2) (src := a) (dst := b) (cs := arrV (G.2.1 1) la (fun j => .int (I a j))) (cd := arrV (G.2.1 1) lb (fun j => .int (I b j))) (srcPos := 0) (destPos := 0) (n := v) (by rw [hT]; exact hc0) (by rw [hT]; exact hc1)
    (fun _ h => by cases h) (fun _ h => by cases h) (fun h => by cases h) (fun h => by cases h) hk0 hk1 hkk0 hkk1 (by rfl) (by decide) (by decide) hv0
    (by rw [hvI, arrV_size]; show ¬ (0 : Int) + _ > _; omega)
    (by rw [hvI, arrV_size]; show ¬ (0 : Int) + _ > _; omega)
    (fun vm₁ _ i hi => by
      have e : (arrV (G.2.1 1) la (fun j => .int (I a j))).slots.getD ((0 : Int32).toNatClampNeg + i) .null = .int (I a ((0 : Int32).toNatClampNeg + i)) := by
        have h0 : (0 : Int32).toNatClampNeg = 0 := by decide
        rw [Array.getD_eq_getD_getElem?, arrV_read _ _ (by rw [h0]; omega)]
        rfl
      exact ⟨by rw [e]; rfl, by rw [e]; exact trivial⟩)
    (g := F0 X.2.2.2.2.2.1 pc ls (.int v :: .int 0 :: .ref b :: .int 0 :: .ref a :: S)) rfl (hlv.1.trans hml.symm) (rest := S) rfl (by rw [hb]; exact d) (by rw [hL.2.2.1]; exact hf) (by rw [hL.2.2.1, hnf]; show 2 * 0 + _ + (7 + 11) ≤ 40 * f + 40; omega)
  have e1 : copied (arrV (G.2.1 1) la (fun j => .int (I a j))) (arrV (G.2.1 1) lb (fun j => .int (I b j))) 0 0 v = arrV (G.2.1 1) lb (fun j => .int (va_cpy (I a) (I b) 0 0 m j)) := by
    have h0 : (0 : Int32).toNatClampNeg = 0 := by decide
    have := va_copied (fun z => Value.int z) (G.2.1 1) (G.2.1 1) (n1 := lb) (sp := 0) (dp := 0) (n := m) (I a) (I b) (by omega : 0 + m ≤ la)
    unfold copied
    rw [h0, hv]
    exact this
  rw [e1] at X' step
  have hlt : b < H.size := (Array.getElem?_eq_some_iff.mp hc1).1
  have hheap : ((T.setVm vm').setCell b (arrV (G.2.1 1) lb (fun j => .int (va_cpy (I a) (I b) 0 0 m j)))).heap = H.setIfInBounds b (arrV (G.2.1 1) lb (fun j => .int (va_cpy (I a) (I b) 0 0 m j))) := by rw [← hT]; rfl
  have oq : ∀ q : Nat, q ≠ b → (H.setIfInBounds b (arrV (G.2.1 1) lb (fun j => .int (va_cpy (I a) (I b) 0 0 m j))))[q]? = H[q]? := fun q hq => by simp [Array.getElem?_setIfInBounds, Ne.symm hq]
  have hok : po_ok G K R (po_cp I a b m) z (H.setIfInBounds b (arrV (G.2.1 1) lb (fun j => .int (va_cpy (I a) (I b) 0 0 m j)))) := by
    refine hP.set (a := b) (by simp) oq (fun _ _ => rfl) (fun q hq => by simp [po_cp, hq]) ?_
    rw [hKb]
    refine po_cell_arr (by omega) (by omega) ?_
    have e2 : (H.setIfInBounds b (arrV (G.2.1 1) lb (fun j => .int (va_cpy (I a) (I b) 0 0 m j))))[b]? = some (arrV (G.2.1 1) lb (fun j => .int (va_cpy (I a) (I b) 0 0 m j))) := by simp [Array.getElem?_setIfInBounds, hlt]
    rw [e2]
    refine congrArg (fun f => some (arrV (G.2.1 1) lb f)) (funext fun j => ?_)
    show Value.int (va_cpy (I a) (I b) 0 0 m j) = Value.int (po_cp I a b m b j)
    unfold va_cpy po_cp
    simp
  obtain ⟨t, a1, b1⟩ := kk _ _ ls hlv hok ⟨by simp; exact hS.1, fun q g1 g2 => by
      rw [oq q (fun e => g2 (by rw [e]; exact hwr))]
      exact hS.2.1 q g1 g2, fun q hq => by
      rcases List.mem_append.mp hq with h | h
      · exact hS.2.2 q h
      · obtain ⟨z, -, hz⟩ := List.mem_map.mp h
        rw [← hz]
        exact hwr⟩ _ hheap X'
  exact ⟨t, step t a1, b1⟩
/-! Math.max, min, abs -/
theorem po_max (hF : po_F X G cc own N st) {f mc ms : Nat} {nm : String} {ret : Option FieldType} (hL : po_L X ret f mc ms nm) {idx : Nat} {x y : Int32} (d : decode cc pc = .ok (.invokestatic idx, 3)) (hl : Cond.methodLink own idx Lib.Math.max.name ∈ po_TB) (hw : Cond.static Lib.Math.max.name ∈ po_TB ∧ Cond.initialized "java/lang/Math" ∈ po_TB ∧ Cond.code Lib.Math.max.name Lib.Math.max.code 2 (some .int) ∈ po_TB) (hst : (S.map fun v => v.category).sum ≤ 8) (hf : 1 ≤ f) (hk : k ≤ mc) (hn : n ≤ ms)
    (kk : po_V X G N Q k n (pc + 3) L (.int (if x < y then y else x) :: S) K R I z) : po_V X G N Q k n pc L (.int y :: .int x :: S) K R I z := by
  intro H locs ls hlv hP hS
  obtain ⟨hx, hb, hml, hown, hts, hE, -, -⟩ := id hF
  exact va_mmax hx hb (hml.trans hlv.1.symm) hown (hts _ hl) (hts _ hw.1) (hts _ hw.2.1) (hts _ hw.2.2) (by rw [hL.2.2.1]; exact hf) (by rw [hL.2.2.1]; show _ ≤ 40 * f + 40; omega) (by rw [hL.2.2.1]; exact hk) (by rw [hL.2.2.1]; exact hn) d (kk H locs ls hlv hP hS)
theorem po_min (hF : po_F X G cc own N st) {f mc ms : Nat} {nm : String} {ret : Option FieldType} (hL : po_L X ret f mc ms nm) {idx : Nat} {x y : Int32} (d : decode cc pc = .ok (.invokestatic idx, 3)) (hl : Cond.methodLink own idx Lib.Math.min.name ∈ po_TB) (hw : Cond.static Lib.Math.min.name ∈ po_TB ∧ Cond.initialized "java/lang/Math" ∈ po_TB ∧ Cond.code Lib.Math.min.name Lib.Math.min.code 2 (some .int) ∈ po_TB) (hst : (S.map fun v => v.category).sum ≤ 8) (hf : 1 ≤ f) (hk : k ≤ mc) (hn : n ≤ ms)
    (kk : po_V X G N Q k n (pc + 3) L (.int (if y < x then y else x) :: S) K R I z) : po_V X G N Q k n pc L (.int y :: .int x :: S) K R I z := by
  intro H locs ls hlv hP hS
  obtain ⟨hx, hb, hml, hown, hts, hE, -, -⟩ := id hF
  exact va_mmin hx hb (hml.trans hlv.1.symm) hown (hts _ hl) (hts _ hw.1) (hts _ hw.2.1) (hts _ hw.2.2) (by rw [hL.2.2.1]; exact hf) (by rw [hL.2.2.1]; show _ ≤ 40 * f + 40; omega) (by rw [hL.2.2.1]; exact hk) (by rw [hL.2.2.1]; exact hn) d (kk H locs ls hlv hP hS)
theorem po_abs (hF : po_F X G cc own N st) {f mc ms : Nat} {nm : String} {ret : Option FieldType} (hL : po_L X ret f mc ms nm) {idx : Nat} {x : Int32} (d : decode cc pc = .ok (.invokestatic idx, 3)) (hl : Cond.methodLink own idx Lib.Math.abs.name ∈ po_TB) (hw : Cond.static Lib.Math.abs.name ∈ po_TB ∧ Cond.initialized "java/lang/Math" ∈ po_TB ∧ Cond.code Lib.Math.abs.name Lib.Math.abs.code 1 (some .int) ∈ po_TB) (hst : (S.map fun v => v.category).sum ≤ 8) (hf : 1 ≤ f) (hk : k ≤ mc) (hn : n ≤ ms)
    (kk : po_V X G N Q k n (pc + 3) L (.int (if 0 ≤ x then x else 0 - x) :: S) K R I z) : po_V X G N Q k n pc L (.int x :: S) K R I z := by
  intro H locs ls hlv hP hS
  obtain ⟨hx, hb, hml, hown, hts, hE, -, -⟩ := id hF
  exact va_mabs hx hb (hml.trans hlv.1.symm) hown (hts _ hl) (hts _ hw.1) (hts _ hw.2.1) (hts _ hw.2.2) (by rw [hL.2.2.1]; exact hf) (by rw [hL.2.2.1]; show _ ≤ 40 * f + 40; omega) (by rw [hL.2.2.1]; exact hk) (by rw [hL.2.2.1]; exact hn) d (kk H locs ls hlv hP hS)
/-! floats -/
theorem po_i2f (hF : po_F X G cc own N st) {x : Int32} (d : decode cc pc = .ok (.i2f, 1)) (kk : po_V X G N Q k n (pc + 1) L (.float (FP.i2f x) :: S) K R I z) : po_V X G N Q k n pc L (.int x :: S) K R I z := fun H locs ls hl hP hS => lv_i2f hF.1 hF.2.1 d (kk H locs ls hl hP hS)
theorem po_fdiv (hF : po_F X G cc own N st) {x y : UInt32} (d : decode cc pc = .ok (.fdiv, 1)) (hne : vf_n32 (FP.fdiv x y)) (kk : po_V X G N Q k n (pc + 1) L (.float (FP.fdiv x y) :: S) K R I z) : po_V X G N Q k n pc L (.float y :: .float x :: S) K R I z := fun H locs ls hl hP hS => lv_fdiv hF.1 hF.2.1 d hne (kk H locs ls hl hP hS)
theorem po_f2d (hF : po_F X G cc own N st) {x : UInt32} (d : decode cc pc = .ok (.f2d, 1)) (hne : vf_n64 (FP.f2d x)) (kk : po_V X G N Q k n (pc + 1) L (.double (FP.f2d x) :: S) K R I z) : po_V X G N Q k n pc L (.float x :: S) K R I z := fun H locs ls hl hP hS => lv_f2d hF.1 hF.2.1 d hne (kk H locs ls hl hP hS)
theorem po_dcmp (hF : po_F X G cc own N st) {x y : UInt64} {op : CmpOp} (d : decode cc pc = .ok (.dcmp op, 1)) (kk : po_V X G N Q k n (pc + 1) L (.int (Op.cmpValue (FP.dcmp x y) op) :: S) K R I z) : po_V X G N Q k n pc L (.double y :: .double x :: S) K R I z := fun H locs ls hl hP hS => lv_dcmp hF.1 hF.2.1 d (kk H locs ls hl hP hS)
theorem po_fcmp (hF : po_F X G cc own N st) {x y : UInt32} {op : CmpOp} (d : decode cc pc = .ok (.fcmp op, 1)) (kk : po_V X G N Q k n (pc + 1) L (.int (Op.cmpValue (FP.fcmp x y) op) :: S) K R I z) : po_V X G N Q k n pc L (.float y :: .float x :: S) K R I z := fun H locs ls hl hP hS => lv_fcmp hF.1 hF.2.1 d (kk H locs ls hl hP hS)
theorem po_fload (hF : po_F X G cc own N st) {i : Nat} {x : UInt32} (d : decode cc pc = .ok (.fload i, 2)) (h : po_get L i = some (.float x)) (kk : po_V X G N Q k n (pc + 2) L (.float x :: S) K R I z) : po_V X G N Q k n pc L S K R I z := fun H locs ls hl hP hS => lv_fload hF.1 hF.2.1 d (po_get_at hl h) (kk H locs ls hl hP hS)
theorem po_fstore (hF : po_F X G cc own N st) {i : Nat} {x : UInt32} (d : decode cc pc = .ok (.fstore i, 2)) (hn : i < N) (hL : po_st L i (.float x) = L') (kk : po_V X G N Q k n (pc + 2) L' S K R I z) : po_V X G N Q k n pc L (.float x :: S) K R I z := fun H locs ls hl hP hS => lv_fstore hF.1 hF.2.1 d hl hn hL (fun ls' hl' => kk H locs ls' hl' hP hS)
theorem po_fret (hF : po_F X G cc own N st) {f mc ms : Nat} {nm : String} (hL : po_L X (some .float) f mc ms nm) {v : UInt32} {o : Option Value ⊕ String} {R' : po_R} {I' : po_I} {z' : Option Nat} (d : decode cc pc = .ok (.freturn, 1)) (hk : k ≤ mc) (hn : n ≤ ms) (ho : o = .inl (some (.float v))) (hR : R = R') (hI : I = I') (hz : z' = z ∨ z' = none) :
    po_V X G N (po_Q X G o K R' I' z' mc ms) k n pc L [.float v] K R I z := by
  subst hR; subst hI; subst ho
  intro H locs ls hl hP hS
  have hP' : po_ok G K R I z' H := by
    rcases hz with rfl | rfl
    · exact hP
    · exact hP.forget
  have hlocks := hL.2.1
  refine vx_ret (W.widen hk hn ?_)
  exact W.fret hF.1 hF.2.1 hL.1 (fun t ht _ => ⟨⟨_, rfl, rfl⟩, by rw [ht]; exact hP', hS.F ht⟩) hS.2.2 d hlocks
end POM
