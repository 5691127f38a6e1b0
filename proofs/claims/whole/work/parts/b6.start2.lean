/-! THE LAW: the static rows, the picture at the start -/
/-- what the start says of itself -/
def st_T : Cond := Jvm.Cond.and given_1 narrow_1
theorem st_F0 : ∀ j, j < 7 → Cond.eq (.elem (.static RX7 "FIRST_RULES" "[I") (.int (Int32.ofNat j))) (.int (pFR j)) ∈ flatC st_T := by decide +kernel
theorem st_F1 : ∀ j, j < 7 → Cond.eq (.elem (.static RX7 "LEAST_RULES" "[I") (.int (Int32.ofNat j))) (.int (Int32.ofNat (pLe j))) ∈ flatC st_T := by decide +kernel
theorem st_F2 : ∀ j, j < 7 → Cond.eq (.elem (.static RX7 "GREATEST_RULES" "[I") (.int (Int32.ofNat j))) (.int (Int32.ofNat (pGr j))) ∈ flatC st_T := by decide +kernel
theorem st_A : ∀ nm ∈ ["FIRST_RULES", "LEAST_RULES", "GREATEST_RULES"], Cond.arrayOf (.static RX7 nm "[I") .int ∈ flatC st_T ∧ Cond.eq (.length (.static RX7 nm "[I")) (.int 7) ∈ flatC st_T ∧ Cond.laysStatic RX7 nm "[I" ∈ lw_tbl := by decide +kernel
theorem st_I7 : Cond.initialized RX7 ∈ lw_tbl := by decide +kernel
theorem st_NC : ∀ q ∈ po_nc, Cond.not (.castable q.1 q.2) ∈ flatC st_T := by decide +kernel
theorem st_AO : ∀ C ∈ po_ao, Cond.arrayOver (.object C) ∈ lw_tbl := by decide +kernel
theorem st_TH : (Cond.laysStatic Bundle.tN "UNASSIGNED_STACK" Bundle.steD ∈ lw_tbl ∧ Cond.laysStatic Bundle.tN "SUPPRESSED_SENTINEL" Bundle.listD ∈ lw_tbl ∧ Cond.initialized Bundle.tN ∈ lw_tbl) ∧ Cond.isRef (.static Bundle.tN "UNASSIGNED_STACK" Bundle.steD) ∈ flatC st_T ∧ Cond.isRef (.static Bundle.tN "SUPPRESSED_SENTINEL" Bundle.listD) ∈ flatC st_T := by decide +kernel
/-- the ints that a cell holds -/
def st_I (H : Heap) : po_I := fun a j => match (H[a]?).bind (fun c : Cell => c.slots[j]?) with
  | some (.int x) => x
  | _ => 0
def st_K (st : Nat → Nat) : po_K := fun a => if a = st 0 ∨ a = st 1 ∨ a = st 2 then (2, 7) else (0, 0)
section ST1
variable {args : Array Value} {s : State}
theorem st_row (hts : ∀ w ∈ lw_tbl, w.before args s = true) (hs : ∀ c ∈ flatC st_T, c.before args s = true) {nm : String} {F : Nat → Int32} (hnm : nm ∈ ["FIRST_RULES", "LEAST_RULES", "GREATEST_RULES"]) (hF : ∀ j, j < 7 → Cond.eq (.elem (.static RX7 nm "[I") (.int (Int32.ofNat j))) (.int (F j)) ∈ flatC st_T) :
    ∃ (t : Nat) (cell : Cell), va_Z RX7 nm "[I" (.ref t) (fun q => s.heap.size ≤ q) s s.heap ∧ s.heap[t]? = some cell ∧ cell.vm ≠ .unknown ∧ (∀ q, cell.vm ≠ .statics q) ∧ ArrOfT s cell.cls .int ∧ ∀ j, j < 7 → cell.slots[j]? = some (.int (F j)) := by
  have hA : ∀ a : Nat, a < s.heap.size → ¬ (fun q => s.heap.size ≤ q) a := fun a h => Nat.not_le.mpr h
  obtain ⟨a1, a2, a3⟩ := st_A nm hnm
  obtain ⟨t, ht, cell, h1, h2, h3, h4, h5, h6, h7⟩ := va_Tof (N := 7) (f := fun j => .int (F j)) (A := fun q => s.heap.size ≤ q) (by decide) (hs _ a1) (va_eqt (hs _ a2)) (fun j hj => va_eqt (hs _ (hF j hj))) hA
  exact ⟨t, cell, va_Zref (hts _ a3) (hts _ st_I7) ht hA, h1, h3, h2.1, fun n z => ⟨fun k h => (by cases h), h2.2⟩, h6⟩
theorem st_I_at {H : Heap} {t j : Nat} {cell : Cell} {x : Int32} (h : H[t]? = some cell) (g : cell.slots[j]? = some (.int x)) : st_I H t j = x := by
  unfold st_I
  rw [h, Option.bind_some, g]
/-- the machine, the static rows and the picture at the start -/
theorem st_all (hts : ∀ w ∈ lw_tbl, w.before args s = true) (hs : ∀ c ∈ flatC st_T, c.before args s = true) : ∃ G : po_G, G.2.2.1 = s.heap.size ∧ po_E G s ∧ po_ok G (st_K G.2.2.2) (fun _ => nw .null) (st_I s.heap) (some s.heap.size) s.heap ∧ (∀ i, i < 7 → st_I s.heap (G.2.2.2 0) i = pFR i) ∧ pSt (st_I s.heap) G.2.2.2 ∧ G.2.2.2 0 < s.heap.size ∧ G.2.2.2 1 < s.heap.size ∧ G.2.2.2 2 < s.heap.size := by
  have hA : ∀ a : Nat, a < s.heap.size → ¬ (fun q => s.heap.size ≤ q) a := fun a h => Nat.not_le.mpr h
  obtain ⟨dC, dI, hK⟩ := st_cls hts
  have harr := st_arrs hts
  obtain ⟨t0, c0, z0, u0, v0, w0, x0, y0⟩ := st_row hts hs (nm := "FIRST_RULES") (by decide +kernel) st_F0
  obtain ⟨t1, c1, z1, u1, v1, w1, x1, y1⟩ := st_row hts hs (nm := "LEAST_RULES") (by decide +kernel) st_F1
  obtain ⟨t2, c2, z2, u2, v2, w2, x2, y2⟩ := st_row hts hs (nm := "GREATEST_RULES") (by decide +kernel) st_F2
  have l0 := (Array.getElem?_eq_some_iff.mp u0).1
  have l1 := (Array.getElem?_eq_some_iff.mp u1).1
  have l2 := (Array.getElem?_eq_some_iff.mp u2).1
  obtain ⟨sf, rfl, rfl, rfl⟩ : ∃ f : Nat → Nat, f 0 = t0 ∧ f 1 = t1 ∧ f 2 = t2 := ⟨fun i => if i = 0 then t0 else if i = 1 then t1 else t2, rfl, rfl, rfl⟩
  obtain ⟨af, g0, g1, g2, g3⟩ : ∃ f : Nat → ClassId, (∀ k, 1 ≤ k → k ≤ 10 → ArrOfT s (f k) (po_aty k) ∧ va_RA s (f k) (po_aty k)) ∧ f 11 = c0.cls ∧ f 12 = c1.cls ∧ f 13 = c2.cls := by
    refine ⟨fun k => if k ≤ 10 then (harr k).choose else if k = 11 then c0.cls else if k = 12 then c1.cls else c2.cls, fun k h1 h2 => ?_, rfl, rfl, rfl⟩
    dsimp only
    rw [if_pos h2]
    exact (harr k).choose_spec h1 h2
  refine ⟨((dC, dI), af, s.heap.size, sf), rfl, ?_, ?_, ?_, ?_, l0, l1, l2⟩
  · obtain ⟨⟨b1, b2, b3⟩, b4, b5⟩ := st_TH
    refine ⟨hK, g0, fun w hw => ?_, st_str hts, ⟨vx_Zqof (hts _ b1) (hts _ b3) (hs _ b4) hA, vx_Zqof (hts _ b2) (hts _ b3) (hs _ b5) hA⟩, ⟨z0, z1, z2, fun j hj => ?_⟩, Nat.le_refl _, fun q hq => va_Nc.of (hs _ (st_NC q hq)), fun C hC => va_AO.of (hts _ (st_AO C hC))⟩
    · exact va_Nw.of (po_nw_tabs hw) (hts w (List.mem_append_right _ (List.mem_filter.mp hw).1))
    · rcases (show j = 0 ∨ j = 1 ∨ j = 2 by omega) with rfl | rfl | rfl
      · show ArrOfT s (af 11) .int
        rw [g1]; exact x0
      · show ArrOfT s (af 12) .int
        rw [g2]; exact x1
      · show ArrOfT s (af 13) .int
        rw [g3]; exact x2
  · refine ⟨fun a => ?_, fun a h0 h2 => ?_, fun n hn => by cases hn; rfl⟩
    · show po_cell ((dC, dI), af, s.heap.size, sf) (st_K sf a) (nw .null) (st_I s.heap a) a s.heap
      by_cases ha : a = sf 0 ∨ a = sf 1 ∨ a = sf 2
      · rw [show st_K sf a = (2, 7) from if_pos ha]
        refine po_cell_cst ?_
        rcases ha with rfl | rfl | rfl
        · exact ⟨c0, u0, v0, w0, ⟨0, by decide, g1.symm⟩, fun j hj => by rw [y0 j hj, st_I_at u0 (y0 j hj)]⟩
        · exact ⟨c1, u1, v1, w1, ⟨1, by decide, g2.symm⟩, fun j hj => by rw [y1 j hj, st_I_at u1 (y1 j hj)]⟩
        · exact ⟨c2, u2, v2, w2, ⟨2, by decide, g3.symm⟩, fun j hj => by rw [y2 j hj, st_I_at u2 (y2 j hj)]⟩
      · rw [show st_K sf a = (0, 0) from if_neg ha]
        unfold po_cell
        rw [if_pos rfl]
        trivial
    · exfalso
      have h0 : (st_K sf a).1 ≠ 0 := h0
      have h2 : (st_K sf a).1 ≠ 2 := h2
      by_cases ha : a = sf 0 ∨ a = sf 1 ∨ a = sf 2
      · rw [show st_K sf a = (2, 7) from if_pos ha] at h2; exact h2 rfl
      · rw [show st_K sf a = (0, 0) from if_neg ha] at h0; exact h0 rfl
  · intro i hi
    exact st_I_at u0 (y0 i hi)
  · intro j hj
    exact ⟨st_I_at u1 (y1 j hj), st_I_at u2 (y2 j hj)⟩
end ST1
