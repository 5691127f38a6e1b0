/-! THE HEAP AS FUNCTIONS: every known cell by its address: its kind (K), what its references hold (R), what its numbers hold (I).
  kinds: (0, _) nothing is known; (1, n) int[n]; (2, n) an int[] that is only read, of which n places are known; (3, n) char[n]; (4, n) boolean[n]; (5, n) long[n]; (6, n) double[n]; (7..10, n) Lot[], Permit[], Variance[], Town[]; (11 + c, _) an object of class c of po_cl. -/
abbrev po_G : Type := va_G × (Nat → ClassId) × Nat × (Nat → Nat)
abbrev po_K : Type := Nat → Nat × Nat
abbrev po_R : Type := Nat → Nat → Value
abbrev po_I : Type := Nat → Nat → Int32
abbrev po_cl : List vw_C := [(RX0, TX0, 1), (RX1, TX1, 4), (RX2, TX2, 19), (RX3, TX3, 4), (RX4, TX4, 2), (RX5, TX5, 8), (RX6, TX6, 4), (RX7, TX7, 8), (RX8, TX8, 19)]
def po_n (c : Nat) : Nat := match c with
  | 0 => 1
  | 1 => 4
  | 2 => 19
  | 3 => 4
  | 4 => 2
  | 5 => 8
  | 6 => 4
  | 7 => 8
  | _ => 19
def po_ty (c : Nat) : Nat → FieldType := match c with
  | 0 => tyX0
  | 1 => tyX1
  | 2 => tyX2
  | 3 => tyX3
  | 4 => tyX4
  | 5 => tyX5
  | 6 => tyX6
  | 7 => tyX7
  | _ => tyX8
def po_fv (ty : FieldType) (r : Value) (i : Int32) : Value := match ty with
  | .int => .int i
  | .boolean => .int (vp_nar .boolean i)
  | .char => .int (vp_nar .char i)
  | _ => r
def po_aty (k : Nat) : FieldType := match k with
  | 1 => .int
  | 2 => .int
  | 3 => .char
  | 4 => .boolean
  | 5 => .long
  | 6 => .double
  | 7 => .object "PermitOffice$Lot"
  | 8 => .object "PermitOffice$Permit"
  | 9 => .object "PermitOffice$Variance"
  | _ => .object "PermitOffice$Town"
/-- an old array of ints, as the start gives it: its class is one of three -/
def po_cst (G : po_G) (len : Nat) (i : Nat → Int32) (a : Nat) (H : Heap) : Prop := ∃ cell : Cell, H[a]? = some cell ∧ cell.vm ≠ .unknown ∧ (∀ q, cell.vm ≠ .statics q) ∧ (∃ j, j < 3 ∧ cell.cls = G.2.1 (11 + j)) ∧ ∀ j, j < len → cell.slots[j]? = some (.int (i j))
def po_cell (G : po_G) (k : Nat × Nat) (r : Nat → Value) (i : Nat → Int32) (a : Nat) (H : Heap) : Prop :=
  if k.1 = 0 then True else if k.1 = 2 then po_cst G k.2 i a H else if k.1 ≤ 10 then H[a]? = some (arrV (G.2.1 k.1) k.2 (fun j => po_fv (po_aty k.1) (r j) (i j)))
  else t_OB a (G.1.1 (k.1 - 11)) (po_n (k.1 - 11)) (G.1.2 (k.1 - 11)) H (fun j => po_fv (po_ty (k.1 - 11) j) (r j) (i j))
/-- which cells may be written -/
abbrev po_A (G : po_G) : Nat → Prop := fun q => G.2.2.1 ≤ q
def po_ok (G : po_G) (K : po_K) (R : po_R) (I : po_I) (z : Option Nat) (H : Heap) : Prop :=
  (∀ a, po_cell G (K a) (R a) (I a) a H) ∧ (∀ a, (K a).1 ≠ 0 → (K a).1 ≠ 2 → po_A G a) ∧ (∀ n, z = some n → H.size = n)
/-- one place of a table of tables gets another value -/
def po_u {α : Type} (f : Nat → Nat → α) (a j : Nat) (v : α) : Nat → Nat → α := fun b => if b = a then vf_upd (f a) j v else f b
theorem po_u_ne {α : Type} {f : Nat → Nat → α} {a b j : Nat} {v : α} (h : b ≠ a) : po_u f a j v b = f b := by simp [po_u, h]
theorem po_u_at {α : Type} {f : Nat → Nat → α} {a j : Nat} {v : α} : po_u f a j v a = vf_upd (f a) j v := by simp [po_u]
/-! the words -/
def po_TB : List Cond := lw_tbl.filter goodWord
def po_nest : Cond → Bool
  | .fieldLinkNest .. => true
  | .methodLinkNest .. => true
  | .castable .. => true
  | .declares _ => true
  | _ => false
def po_NW : List Cond := tables_1.filter po_nest
def po_sref : Cond → Option (String × Nat × String)
  | .stringRef o k t => some (o, k, t)
  | _ => none
def po_str : List (String × Nat × String) := tables_1.filterMap po_sref
theorem po_nest_warm {w : Cond} {s U : State} (hn : po_nest w = true) (hW : s.WarmedH U.vm) (h : va_Nw w s) : va_Nw w U := by
  cases w <;> first | (exact va_Nw.warmF hW h) | (exact va_Nw.warmM hW h) | (exact va_Nw.warmC hW h) | (exact va_Nw.warmD hW h) | (simp [po_nest] at hn)
theorem po_TB_good {w : Cond} (h : w ∈ po_TB) : (w.onTables && w.keeps) = true ∨ ∃ ty, w = .arrayClass ty := good_of_word (List.mem_filter.mp h).2
/-- which class is not below which: the catches pass by -/
def po_nc : List (String × String) := [("java/lang/IllegalStateException", "java/lang/IllegalArgumentException"), ("java/lang/IllegalArgumentException", "java/lang/IndexOutOfBoundsException"), ("java/lang/IllegalStateException", "java/lang/IndexOutOfBoundsException"), ("java/util/NoSuchElementException", "java/lang/IndexOutOfBoundsException")]
def po_ao : List String := ["PermitOffice$Lot", "PermitOffice$Permit", "PermitOffice$Variance", "PermitOffice$Town"]
/-- what holds of the machine at any place of the run, beside the cells of the picture -/
def po_E (G : po_G) (s : State) : Prop :=
  va_K G.1 po_cl [] s ∧ (∀ k, 1 ≤ k → k ≤ 10 → ArrOfT s (G.2.1 k) (po_aty k) ∧ va_RA s (G.2.1 k) (po_aty k)) ∧ (∀ w ∈ po_NW, va_Nw w s) ∧ (∀ q ∈ po_str, ∃ a, vk_R q.1 q.2.1 q.2.2 a s) ∧
  (vx_Zq Bundle.tN "UNASSIGNED_STACK" Bundle.steD (po_A G) s s.heap ∧ vx_Zq Bundle.tN "SUPPRESSED_SENTINEL" Bundle.listD (po_A G) s s.heap) ∧
  (va_Z RX7 "FIRST_RULES" "[I" (.ref (G.2.2.2 0)) (po_A G) s s.heap ∧ va_Z RX7 "LEAST_RULES" "[I" (.ref (G.2.2.2 1)) (po_A G) s s.heap ∧ va_Z RX7 "GREATEST_RULES" "[I" (.ref (G.2.2.2 2)) (po_A G) s s.heap ∧ ∀ j, j < 3 → ArrOfT s (G.2.1 (11 + j)) .int) ∧ G.2.2.1 ≤ s.heap.size ∧ (∀ q ∈ po_nc, va_Nc q.1 q.2 s) ∧ (∀ C ∈ po_ao, va_AO C s)
theorem po_E.go {G : po_G} {s U : State} (h : po_E G s) (hW : s.WarmedH U.vm) (hz : s.heap.size ≤ U.heap.size) (hk : ∀ q : Nat, q < s.heap.size → ¬ po_A G q → U.heap[q]? = s.heap[q]?) : po_E G U := by
  obtain ⟨h1, h2, h3, h4, ⟨h5, h6⟩, ⟨h7, h8, h9, h9s⟩, h10, h11, h12⟩ := h
  have hvm := hW.alike
  refine ⟨va_K.moved hvm h1, fun k a b => ⟨arrOfT_moved hvm (h2 k a b).1, va_RA.moved hvm (h2 k a b).2⟩, fun w hw => po_nest_warm (List.mem_filter.mp hw).2 hW (h3 w hw), fun q hq => ?_, ⟨(vx_Zq.moved hvm h5).kept hk, (vx_Zq.moved hvm h6).kept hk⟩, ⟨(va_Z.moved hvm h7).kept hk, (va_Z.moved hvm h8).kept hk, (va_Z.moved hvm h9).kept hk, fun j hj => arrOfT_moved hvm (h9s j hj)⟩, Nat.le_trans h10 hz, fun q hq => va_Nc.moved hvm (h11 q hq), fun C hC => va_AO.moved hvm (h12 C hC)⟩
  obtain ⟨a, ha⟩ := h4 q hq
  exact ⟨a, vk_R.warm hW ha⟩
/-! a method's frame as one thing -/
abbrev po_X : Type := Program × Launch × Env × Room × State × MethodId × Array Value × List Frame × Method × Code
abbrev po_V (X : po_X) (G : po_G) (N : Nat) (Q : State → Prop) (k n pc : Nat) (L : List (Nat × Value)) (S : List Value) (K : po_K) (R : po_R) (I : po_I) (z : Option Nat) : Prop :=
  ∀ (H : Heap) (locs : List Loc) (ls : Array Slot), lv_has ls N L → po_ok G K R I z H → va_S (po_A G) X.2.2.2.2.1.heap H locs →
    W X.1 X.2.1 X.2.2.1 X.2.2.2.1 X.2.2.2.2.1 X.2.2.2.2.2.1 X.2.2.2.2.2.2.1 X.2.2.2.2.2.2.2.1 X.2.2.2.2.2.2.2.2.1 X.2.2.2.2.2.2.2.2.2 H locs k n Q (F0 X.2.2.2.2.2.1 pc ls S)
/-- what a walk needs to know of its frame -/
def po_F (X : po_X) (G : po_G) (cc : ByteArray) (own : String) (N : Nat) (st : Nat → Nat) : Prop :=
  X.1.tables.exec = Jvm.exec ∧ X.2.2.2.2.2.2.2.2.2.code = cc ∧ X.2.2.2.2.2.2.2.2.2.maxLocals = N ∧ X.2.2.2.2.1.vm.findClass own = some X.2.2.2.2.2.1.cls ∧
  (∀ w ∈ po_TB, w.before X.2.2.2.2.2.2.1 X.2.2.2.2.1 = true) ∧ po_E G X.2.2.2.2.1 ∧ G.2.2.2 = st ∧ X.2.1.flags = flags0
/-! contracts -/
def po_rm (f mc ms : Nat) : Room := { frames := f, cells := mc, slots := ms, locals := 40 * f + 40 }
def po_Qc (G : po_G) (o : Option Value ⊕ String) (K : po_K) (R : po_R) (I : po_I) (z : Option Nat) : Array Value → State → Outcome → State → Prop := fun _ st oc t =>
  (∃ v, o = .inl v ∧ oc = .returned v) ∧ po_ok G K R I z t.heap ∧ va_F (po_A G) st t
def po_XC (G : po_G) (o : Option Value ⊕ String) (K : po_K) (R : po_R) (I : po_I) (z : Option Nat) : String → State → State → Prop := fun E st t =>
  o = .inr E ∧ po_ok G K R I z t.heap ∧ va_F (po_A G) st t
def po_Pc (G : po_G) (args : List Value) (K : po_K) (R : po_R) (I : po_I) (z : Option Nat) : Array Value → State → Prop := va_Pc args (fun U => po_E G U ∧ po_ok G K R I z U.heap)
def po_C (st : Nat → Nat) (y : MethodName) (cc : ByteArray) (nL : Nat) (ret : Option FieldType) (f mc ms : Nat) (args : List Value) (K : po_K) (R : po_R) (I : po_I) (z : Option Nat) (o : Option Value ⊕ String) (K' : po_K) (R' : po_R) (I' : po_I) (z' : Option Nat) : Prop :=
  ∀ l : Launch, l.flags = flags0 → ∀ G : po_G, G.2.2.2 = st → vx_Met l y (.code y cc nL ret :: po_TB) (po_rm f mc ms) (po_Pc G args K R I z) (po_Qc G o K' R' I' z') (po_XC G o K' R' I' z') mc ms (po_A G)
def po_Q (X : po_X) (G : po_G) (o : Option Value ⊕ String) (K : po_K) (R : po_R) (I : po_I) (z : Option Nat) (mc ms : Nat) : State → Prop :=
  vx_MQ X.2.2.2.2.2.2.2.1 (po_Qc G o K R I z) (po_XC G o K R I z) X.2.2.2.2.2.2.1 X.2.2.2.2.1 mc ms (po_A G)
/-- what the end of a walk needs -/
def po_L (X : po_X) (ret : Option FieldType) (f mc ms : Nat) (nm : String) : Prop :=
  X.2.2.2.2.2.2.2.2.1.sig.returnType = ret ∧ X.2.2.2.2.2.2.2.2.1.locks = false ∧ X.2.2.2.1 = po_rm f mc ms ∧ (∀ x ∈ X.2.2.2.2.2.2.2.2.2.exceptionTable.toList, False) ∧ X.2.2.2.2.2.2.2.2.1.name = nm
theorem po_blind {G : po_G} {args : List Value} {K : po_K} {R : po_R} {I : po_I} {z : Option Nat} : FrameBlind (po_Pc G args K R I z) := by
  intro a U g mk h
  obtain ⟨h1, h2, h3⟩ := h
  exact ⟨h1, po_E.go (U := U.calling g mk a) h2 (State.WarmedH.refl U) (Nat.le_refl _) (fun _ _ _ => rfl), h3⟩
theorem po_ofC {st : Nat → Nat} {y : MethodName} {cc : ByteArray} {nL : Nat} {ret : Option FieldType} {f mc ms : Nat} {args : List Value} {K : po_K} {R : po_R} {I : po_I} {z : Option Nat} {o : Option Value ⊕ String} {K' : po_K} {R' : po_R} {I' : po_I} {z' : Option Nat}
    (hy : plainName y.cls = true) (hn : (lg_sl args).length ≤ nL)
    (body : ∀ (X : po_X) (G : po_G), po_F X G cc y.cls nL st → po_L X ret f mc ms y.name → po_V X G nL (po_Q X G o K' R' I' z' mc ms) 0 0 0 (lv_args 0 args) [] K R I z) : po_C st y cc nL ret f mc ms args K R I z o K' R' I' z' := by
  intro l hfl G hG
  refine vx_ofW hy rfl ?_
  intro p e s m args' below meth c s₁ B hml ht hv
  obtain ⟨rfl, hE, hP⟩ := hv
  have hts := atoms_spec (ws := .code y cc nL ret :: po_TB) B.pre
  have hl := lv_entry args (n := nL) hn
  rw [lg_entry_eq]
  exact body (p, l, e, po_rm f mc ms, s, m, args.toArray, below, meth, c) G ⟨B.exec, B.bytes, hml, findClass_of_methodNamed B.named, fun w hw => hts w (List.mem_cons_of_mem _ hw), hE, hG, hfl⟩
    ⟨B.returns, B.notSynchronized, rfl, ht, (name_of_methodNamed B.named B.method).1⟩ s.heap [] _ hl hP va_S.rf
