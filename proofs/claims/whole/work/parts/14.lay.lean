/-! more rows: a known index, a named value, a text by a wide index; THE LAYOUT of the two systems' cells -/
def po_let {α : Type} (v : Int32) (f : Int32 → Option α) : Option α := f v
def po_rf (v : Value) : Nat := match v with
  | .ref a => a
  | _ => 0
theorem po_nz {v : Int32} (h : vp_nar .boolean v = v) : narrow .boolean (.int v) = .int v := by
  have : narrow .boolean (.int v) = .int (vp_nar .boolean v) := rfl
  rw [this, h]
theorem po_nb (x : Int32) : vp_nar .boolean (vp_nar .boolean x) = vp_nar .boolean x := by
  show (x &&& 1) &&& 1 = x &&& 1
  rw [Int32.and_assoc]
  rfl
theorem po_z01 (x : Int32) : (vp_nar .boolean x == 0 || vp_nar .boolean x == 1) = true := by
  show (x &&& 1 == 0 || x &&& 1 == 1) = true
  obtain ⟨j, hj, e⟩ := pk_andE x (m := 1) 1 (by decide)
  rw [e]
  rcases (show j = 0 ∨ j = 1 by omega) with rfl | rfl <;> decide
section POL
variable {X : po_X} {G : po_G} {N : Nat} {Q : State → Prop} {k n pc : Nat} {L L' : List (Nat × Value)} {S : List Value} {K : po_K} {R : po_R} {I : po_I} {z : Option Nat} {cc : ByteArray} {own : String} {st : Nat → Nat}
variable {ρ : Type} {r : ρ} {A B : Option ρ}
theorem po_top {x : Int32} {f : Int32 → Option ρ} (hm : po_let x f = some r) (kk : ∀ y, f y = some r → po_V X G N Q k n pc L (.int y :: S) K R I z) : po_V X G N Q k n pc L (.int x :: S) K R I z := kk x hm
theorem po_inC {i : Int32} {j m : Nat} (hj : i.toNatClampNeg = j) (h0 : ¬ i < 0) (h : j < m) : po_in i m = true := decide_eq_true (fun q => q.elim h0 (fun q => by omega))
theorem po_ialdC (hF : po_F X G cc own N st) {a c len j : Nat} {i : Int32} (d : decode cc pc = .ok (.iaload, 1)) (hK : K a = (c, len)) (hc : c = 1 ∨ c = 2) (hj : i.toNatClampNeg = j) (h0 : ¬ i < 0) (h : j < len)
    (kk : po_V X G N Q k n (pc + 1) L (.int (I a j) :: S) K R I z) : po_V X G N Q k n pc L (.int i :: .ref a :: S) K R I z := by
  subst hj
  exact po_ialdK hF d hK hc (po_inC rfl h0 h) kk
theorem po_iastC (hF : po_F X G cc own N st) {a len j : Nat} {i x : Int32} {I' : po_I} (d : decode cc pc = .ok (.iastore, 1)) (hK : K a = (1, len)) (hj : i.toNatClampNeg = j) (h0 : ¬ i < 0) (h : j < len) (hI : po_u I a j x = I')
    (kk : po_V X G N Q k n (pc + 1) L S K R I' z) : po_V X G N Q k n pc L (.int x :: .int i :: .ref a :: S) K R I z := by
  subst hj
  exact po_iast (A := some ()) (r := ()) hF d hK (by rw [if_pos (po_inC rfl h0 h)]) hI (fun _ => kk)
theorem po_aaldC (hF : po_F X G cc own N st) {a c len b j : Nat} {i : Int32} (d : decode cc pc = .ok (.aaload, 1)) (hK : K a = (c, len)) (hc : c = 7 ∨ c = 8 ∨ c = 9 ∨ c = 10) (hj : i.toNatClampNeg = j) (h0 : ¬ i < 0) (h : j < len) (hR : R a j = .ref b)
    (kk : po_V X G N Q k n (pc + 1) L (.ref b :: S) K R I z) : po_V X G N Q k n pc L (.int i :: .ref a :: S) K R I z := by
  subst hj
  exact po_aald (A := some ()) (r := ()) hF d hK hc (by rw [if_pos (po_inC rfl h0 h)]) (fun _ => hR) (fun _ _ => kk)
theorem po_aastC (hF : po_F X G cc own N st) {a c e len len2 v j : Nat} {i : Int32} {R' : po_R} {q : vw_C} (d : decode cc pc = .ok (.aastore, 1)) (hK : K a = (c, len)) (h1 : 7 ≤ c) (h2 : c ≤ 10) (hq : po_cl[e]? = some q) (hty : po_aty c = .object q.1) (hKv : K v = (e + 11, len2)) (hj : i.toNatClampNeg = j) (h0 : ¬ i < 0) (h : j < len) (hR : po_u R a j (.ref v) = R')
    (kk : po_V X G N Q k n (pc + 1) L S K R' I z) : po_V X G N Q k n pc L (.ref v :: .int i :: .ref a :: S) K R I z := by
  subst hj
  exact po_aast (A := some ()) (r := ()) hF d hK h1 h2 hq hty hKv (by rw [if_pos (po_inC rfl h0 h)]) hR (fun _ => kk)
theorem po_throwW (hF : po_F X G cc own N st) {f mc ms : Nat} {nm : String} {ret : Option FieldType} (hL : po_L X ret f mc ms nm) {cls text : String} {names : List String} {ik is ic : Nat} {o : Option Value ⊕ String} {R' : po_R} {I' : po_I} (hw : po_TW own cls text names ik is ic)
    (d0 : decode cc pc = .ok (.new ik, 3)) (d3 : decode cc (pc + 3) = .ok (.dup, 1)) (d4 : decode cc (pc + 4) = .ok (.ldc_w is, 3)) (d7 : decode cc (pc + 7) = .ok (.invokespecial ic, 3)) (d10 : decode cc (pc + 10) = .ok (.athrow, 1))
    (h1 : names.length + 3 < f) (h2 : (S.map fun v => v.category).sum + (13 * (names.length + 1) + 43) ≤ 40 * f + 40) (hk : k + 1 ≤ mc) (hn : n + 6 ≤ ms) (ho : o = .inr cls) (hR : R = R') (hI : I = I') :
    po_V X G N (po_Q X G o K R' I' Option.none mc ms) k n pc L S K R I z := by
  subst hR; subst hI; subst ho
  intro H locs ls hl hP hS
  obtain ⟨hx, hb, hml, hown, hts, hE, hst', hfl⟩ := id hF
  obtain ⟨w1, w2, w3, w4, w5, w6, w7⟩ := hw
  obtain ⟨sa, hsa⟩ := hE.2.2.2.1 _ w5
  have hrm := hL.2.2.1
  exact vx_throwSW (names := names) hx hb (by show Launch.stackTraces _ = false; unfold Launch.stackTraces; rw [hfl]; rfl) hown w1 w2 (hts _ w3) (hts _ w4) hsa (fun w hw => (w6 w hw).elim (fun h => hts _ h) (fun h => va_Nw.use (po_nw_tabs h) (hE.2.2.1 _ h))) w7 hE.2.2.2.2.1.1 hE.2.2.2.2.1.2 hS (hl.1.trans hml.symm) d0 d3 d4 d7 d10
    (fun x hx => absurd (hL.2.2.2.1 x hx) id) (by rw [hrm]; exact h1) (by rw [hrm]; exact h2) (by rw [hrm]; exact hk) (by rw [hrm]; exact hn) hL.2.1 (fun t _ hz hq => ⟨rfl, hP.keep hq, Nat.le_trans hS.1 hz, fun q h1 h2 => by rw [hq q (Nat.lt_of_lt_of_le h1 hS.1)]; exact hS.2.1 q h1 h2⟩) hS.2.2 hk hn
/-- a field that holds a truth value -/
theorem po_putz (hF : po_F X G cc own N st) {idx c j a len : Nat} {v : Int32} {I' : po_I} (d : decode cc pc = .ok (.putfield idx, 3)) (fl : po_FL own idx c j) (hK : K a = (c + 11, len))
    (hfin : ∀ r, po_cl[c]? = some r → (r.2.1 j).2.2.2 = false) (hty : po_ty c j = .boolean) (hz : vp_nar .boolean v = v) (hI : po_u I a j v = I')
    (kk : po_V X G N Q k n (pc + 3) L S K R I' z) : po_V X G N Q k n pc L (.int v :: .ref a :: S) K R I z :=
  po_puti hF d fl hK hfin (by rw [hty]; exact po_nz hz) (by rw [hty, ← hz]; show (vp_nar .boolean v == 0 || vp_nar .boolean v == 1) = true; exact po_z01 v) (fun r => by rw [hty]; show Value.int (vp_nar .boolean v) = .int v; rw [hz]) hI kk
end POL
/-- where the parts of a thing lie: a thing and its parts were made one after the other -/
def po_Ly0 (K : po_K) (R : po_R) (a : Nat) : Prop := (R a 0 = .ref (a + 1) ∧ K (a + 1) = (1, 14))
def po_Ly1 (K : po_K) (R : po_R) (a : Nat) : Prop := (R a 2 = .ref (a + 1) ∧ K (a + 1) = (11, 1))
def po_Ly2 (K : po_K) (R : po_R) (a : Nat) : Prop := (R a 4 = .ref (a + 1) ∧ K (a + 1) = (11, 1)) ∧ (R a 17 = .ref (a + 3) ∧ K (a + 3) = (1, 6)) ∧ (R a 18 = .ref (a + 4) ∧ K (a + 4) = (1, 6))
def po_Ly3 (K : po_K) (R : po_R) (a : Nat) : Prop := (R a 0 = .ref (a + 1) ∧ K (a + 1) = (3, 60))
def po_Ly4 (K : po_K) (R : po_R) (a : Nat) : Prop := (R a 0 = .ref (a + 1) ∧ K (a + 1) = (11, 1)) ∧ (R a 1 = .ref (a + 3) ∧ K (a + 3) = (11, 1))
def po_Ly5 (K : po_K) (R : po_R) (a : Nat) : Prop := (R a 1 = .ref (a + 1) ∧ K (a + 1) = (1, 28)) ∧ (R a 2 = .ref (a + 2) ∧ K (a + 2) = (7, 8)) ∧ (∀ j, j < 8 → R (a + 2) j = .ref (a + (5 + 3 * j)) ∧ K (a + (5 + 3 * j)) = (12, 4)) ∧ (R a 4 = .ref (a + 3) ∧ K (a + 3) = (8, 10)) ∧ (∀ j, j < 10 → R (a + 3) j = .ref (a + (29 + 5 * j)) ∧ K (a + (29 + 5 * j)) = (13, 19)) ∧ (R a 6 = .ref (a + 4) ∧ K (a + 4) = (9, 12)) ∧ (∀ j, j < 12 → R (a + 4) j = .ref (a + (79 + j)) ∧ K (a + (79 + j)) = (17, 4))
def po_Ly7 (K : po_K) (R : po_R) (a : Nat) : Prop := (R a 0 = .ref (a + 1) ∧ K (a + 1) = (14, 4)) ∧ (R a 1 = .ref (a + 3) ∧ K (a + 3) = (15, 2)) ∧ (R a 2 = .ref (a + 8) ∧ K (a + 8) = (16, 8)) ∧ (R a 3 = .ref (a + 99) ∧ K (a + 99) = (16, 8)) ∧ (R a 4 = .ref (a + 190) ∧ K (a + 190) = (16, 8)) ∧ (R a 6 = .ref (a + 281) ∧ K (a + 281) = (10, 6)) ∧ (∀ j, j < 6 → R (a + 281) j = .ref (po_rf (R (a + 281) j)) ∧ K (po_rf (R (a + 281) j)) = (16, 8))
def po_Ly8 (K : po_K) (R : po_R) (a : Nat) : Prop := (R a 1 = .ref (a + 1) ∧ K (a + 1) = (1, 668)) ∧ (R a 2 = .ref (a + 2) ∧ K (a + 2) = (1, 4008)) ∧ (R a 4 = .ref (a + 3) ∧ K (a + 3) = (1, 668)) ∧ (R a 5 = .ref (a + 4) ∧ K (a + 4) = (1, 668)) ∧ (R a 11 = .ref (a + 5) ∧ K (a + 5) = (1, 60)) ∧ (R a 16 = .ref (a + 6) ∧ K (a + 6) = (1, 12)) ∧ (R a 18 = .ref (a + 7) ∧ K (a + 7) = (4, 280))
def po_Lay (K : po_K) (R : po_R) (st : Nat → Nat) : Prop := (∀ a, (K a = (11, 1) → po_Ly0 K R a) ∧ (K a = (12, 4) → po_Ly1 K R a) ∧ (K a = (13, 19) → po_Ly2 K R a) ∧ (K a = (14, 4) → po_Ly3 K R a) ∧ (K a = (15, 2) → po_Ly4 K R a) ∧ (K a = (16, 8) → po_Ly5 K R a) ∧ (K a = (18, 8) → po_Ly7 K R a) ∧ (K a = (19, 19) → po_Ly8 K R a)) ∧ K (st 0) = (2, 7) ∧ K (st 1) = (2, 7) ∧ K (st 2) = (2, 7)
section LY
variable {K : po_K} {R : po_R} {st : Nat → Nat} {a : Nat}
theorem ly_0_0 (h : po_Lay K R st) (k : K a = (11, 1)) : R a 0 = .ref (a + 1) ∧ K (a + 1) = (1, 14) := ((h.1 a).1 k)
theorem ly_1_2 (h : po_Lay K R st) (k : K a = (12, 4)) : R a 2 = .ref (a + 1) ∧ K (a + 1) = (11, 1) := ((h.1 a).2.1 k)
theorem ly_2_4 (h : po_Lay K R st) (k : K a = (13, 19)) : R a 4 = .ref (a + 1) ∧ K (a + 1) = (11, 1) := ((h.1 a).2.2.1 k).1
theorem ly_2_17 (h : po_Lay K R st) (k : K a = (13, 19)) : R a 17 = .ref (a + 3) ∧ K (a + 3) = (1, 6) := ((h.1 a).2.2.1 k).2.1
theorem ly_2_18 (h : po_Lay K R st) (k : K a = (13, 19)) : R a 18 = .ref (a + 4) ∧ K (a + 4) = (1, 6) := ((h.1 a).2.2.1 k).2.2
theorem ly_3_0 (h : po_Lay K R st) (k : K a = (14, 4)) : R a 0 = .ref (a + 1) ∧ K (a + 1) = (3, 60) := ((h.1 a).2.2.2.1 k)
theorem ly_4_0 (h : po_Lay K R st) (k : K a = (15, 2)) : R a 0 = .ref (a + 1) ∧ K (a + 1) = (11, 1) := ((h.1 a).2.2.2.2.1 k).1
theorem ly_4_1 (h : po_Lay K R st) (k : K a = (15, 2)) : R a 1 = .ref (a + 3) ∧ K (a + 3) = (11, 1) := ((h.1 a).2.2.2.2.1 k).2
theorem ly_5_1 (h : po_Lay K R st) (k : K a = (16, 8)) : R a 1 = .ref (a + 1) ∧ K (a + 1) = (1, 28) := ((h.1 a).2.2.2.2.2.1 k).1
theorem ly_5_2 (h : po_Lay K R st) (k : K a = (16, 8)) : R a 2 = .ref (a + 2) ∧ K (a + 2) = (7, 8) := ((h.1 a).2.2.2.2.2.1 k).2.1
theorem le_5_2 (h : po_Lay K R st) (k : K a = (16, 8)) {j : Nat} (hj : j < 8) : R (a + 2) j = .ref (a + (5 + 3 * j)) ∧ K (a + (5 + 3 * j)) = (12, 4) := ((h.1 a).2.2.2.2.2.1 k).2.2.1 j hj
theorem ly_5_4 (h : po_Lay K R st) (k : K a = (16, 8)) : R a 4 = .ref (a + 3) ∧ K (a + 3) = (8, 10) := ((h.1 a).2.2.2.2.2.1 k).2.2.2.1
theorem le_5_4 (h : po_Lay K R st) (k : K a = (16, 8)) {j : Nat} (hj : j < 10) : R (a + 3) j = .ref (a + (29 + 5 * j)) ∧ K (a + (29 + 5 * j)) = (13, 19) := ((h.1 a).2.2.2.2.2.1 k).2.2.2.2.1 j hj
theorem ly_5_6 (h : po_Lay K R st) (k : K a = (16, 8)) : R a 6 = .ref (a + 4) ∧ K (a + 4) = (9, 12) := ((h.1 a).2.2.2.2.2.1 k).2.2.2.2.2.1
theorem le_5_6 (h : po_Lay K R st) (k : K a = (16, 8)) {j : Nat} (hj : j < 12) : R (a + 4) j = .ref (a + (79 + j)) ∧ K (a + (79 + j)) = (17, 4) := ((h.1 a).2.2.2.2.2.1 k).2.2.2.2.2.2 j hj
theorem ly_7_0 (h : po_Lay K R st) (k : K a = (18, 8)) : R a 0 = .ref (a + 1) ∧ K (a + 1) = (14, 4) := ((h.1 a).2.2.2.2.2.2.1 k).1
theorem ly_7_1 (h : po_Lay K R st) (k : K a = (18, 8)) : R a 1 = .ref (a + 3) ∧ K (a + 3) = (15, 2) := ((h.1 a).2.2.2.2.2.2.1 k).2.1
theorem ly_7_2 (h : po_Lay K R st) (k : K a = (18, 8)) : R a 2 = .ref (a + 8) ∧ K (a + 8) = (16, 8) := ((h.1 a).2.2.2.2.2.2.1 k).2.2.1
theorem ly_7_3 (h : po_Lay K R st) (k : K a = (18, 8)) : R a 3 = .ref (a + 99) ∧ K (a + 99) = (16, 8) := ((h.1 a).2.2.2.2.2.2.1 k).2.2.2.1
theorem ly_7_4 (h : po_Lay K R st) (k : K a = (18, 8)) : R a 4 = .ref (a + 190) ∧ K (a + 190) = (16, 8) := ((h.1 a).2.2.2.2.2.2.1 k).2.2.2.2.1
theorem ly_7_6 (h : po_Lay K R st) (k : K a = (18, 8)) : R a 6 = .ref (a + 281) ∧ K (a + 281) = (10, 6) := ((h.1 a).2.2.2.2.2.2.1 k).2.2.2.2.2.1
theorem le_7_6 (h : po_Lay K R st) (k : K a = (18, 8)) {j : Nat} (hj : j < 6) : R (a + 281) j = .ref (po_rf (R (a + 281) j)) ∧ K (po_rf (R (a + 281) j)) = (16, 8) := ((h.1 a).2.2.2.2.2.2.1 k).2.2.2.2.2.2 j hj
theorem ly_8_1 (h : po_Lay K R st) (k : K a = (19, 19)) : R a 1 = .ref (a + 1) ∧ K (a + 1) = (1, 668) := ((h.1 a).2.2.2.2.2.2.2 k).1
theorem ly_8_2 (h : po_Lay K R st) (k : K a = (19, 19)) : R a 2 = .ref (a + 2) ∧ K (a + 2) = (1, 4008) := ((h.1 a).2.2.2.2.2.2.2 k).2.1
theorem ly_8_4 (h : po_Lay K R st) (k : K a = (19, 19)) : R a 4 = .ref (a + 3) ∧ K (a + 3) = (1, 668) := ((h.1 a).2.2.2.2.2.2.2 k).2.2.1
theorem ly_8_5 (h : po_Lay K R st) (k : K a = (19, 19)) : R a 5 = .ref (a + 4) ∧ K (a + 4) = (1, 668) := ((h.1 a).2.2.2.2.2.2.2 k).2.2.2.1
theorem ly_8_11 (h : po_Lay K R st) (k : K a = (19, 19)) : R a 11 = .ref (a + 5) ∧ K (a + 5) = (1, 60) := ((h.1 a).2.2.2.2.2.2.2 k).2.2.2.2.1
theorem ly_8_16 (h : po_Lay K R st) (k : K a = (19, 19)) : R a 16 = .ref (a + 6) ∧ K (a + 6) = (1, 12) := ((h.1 a).2.2.2.2.2.2.2 k).2.2.2.2.2.1
theorem ly_8_18 (h : po_Lay K R st) (k : K a = (19, 19)) : R a 18 = .ref (a + 7) ∧ K (a + 7) = (4, 280) := ((h.1 a).2.2.2.2.2.2.2 k).2.2.2.2.2.2
end LY
