/-! THE LAYOUT AT THE BEGINNING: a town as a block -/
def sTw : n3 := (po_w (fun _ => (0, 0)) 0 (16, 8), (fun _ => nw .null), (fun _ => nw 0))
def kT : po_K := (nT 0 0 sTw).1
def rTT : po_R := (nT 0 0 sTw).2.1
def rsh (t : Nat) (v : Value) : Value := match v with
  | .ref k => .ref (t + k)
  | _ => .null
/-- a town at t as a block, kept in the place j of c -/
def bT (t c j : Nat) (s : n3) : n3 := ((fun q => if q < t then s.1 q else if q < t + 91 then kT (q - t) else (0, 0)), po_u (fun q => if q < t then s.2.1 q else if q < t + 91 then (fun i => rsh t (rTT (q - t) i)) else nw .null) c j (.ref t), s.2.2)
def bTs (s : n3) : Nat → n3
  | 0 => s
  | j + 1 => bT (282 + 91 * j) 281 j (bTs s j)
theorem rsh_ref {t k : Nat} {v : Value} (h : rsh t v = .ref k) : ∃ k2, v = .ref k2 ∧ t + k2 = k := by
  cases v with
  | ref a => exact ⟨a, rfl, Value.ref.inj h⟩
  | _ => first | (simp [rsh] at h; done) | cases h
section QH2
variable {o N a b q M t c j : Nat} {K K' : po_K} {R R' : po_R} {s s' : n3}
theorem rTw (h : rK o t s.1 s'.1) (g : rR o s.2.1 s'.2.1) {t2 c2 : Nat} (et : t2 = o + t) (ec : c2 = o + c) : rK o (t + 91) (nTw b t2 c2 j s).1 (bT t c j s').1 ∧ rR o (nTw b t2 c2 j s).2.1 (bT t c j s').2.1 := by
  subst et
  subst ec
  have h0 : rK (o + t) 91 (po_w s.1 (o + t) (16, 8)) (po_w (fun _ => (0, 0)) 0 (16, 8)) := by
    refine ⟨fun i => ?_, fun i hi => po_w_ne (by omega)⟩
    by_cases hi : i = 0
    · subst hi
      rw [po_w_at]
      exact po_w_at
    · rw [po_w_ne hi, po_w_ne (by omega), Nat.add_assoc, h.1]
      exact h.2 _ (by omega)
  have g0 : rR (o + t) (po_w s.2.1 (o + t) (nw .null)) (fun _ => nw .null) := fun i j k hk => by cases hk
  obtain ⟨hT, gT⟩ := rT (a := o + t) (s := (po_w s.1 (o + t) (16, 8), po_w s.2.1 (o + t) (nw .null), po_w s.2.2 (o + t) (nw 0))) (s' := sTw) (c := b) (c' := 0) h0 g0
  have lo := fun i (hi : i < t) => nT_lo b (o + t) (po_w s.1 (o + t) (16, 8), po_w s.2.1 (o + t) (nw .null), po_w s.2.2 (o + t) (nw 0)) (q := o + i) (by omega)
  unfold nTw bT
  dsimp only
  generalize nT b (o + t) (po_w s.1 (o + t) (16, 8), po_w s.2.1 (o + t) (nw .null), po_w s.2.2 (o + t) (nw 0)) = T at *
  refine ⟨⟨fun i => ?_, fun i hi => ?_⟩, ?_⟩
  · show T.1 (o + i) = if i < t then s'.1 i else if i < t + 91 then kT (i - t) else (0, 0)
    by_cases h1 : i < t
    · have e := (lo i h1).1
      dsimp only at e
      rw [if_pos h1, e, po_w_ne (by omega)]
      exact h.1 i
    · have e := hT.1 (i - t)
      rw [Nat.add_assoc, show t + (i - t) = i by omega] at e
      rw [if_neg h1, e]
      by_cases h2 : i < t + 91
      · rw [if_pos h2]
        rfl
      · rw [if_neg h2]
        exact hT.2 _ (by omega)
  · show (if i < t then s'.1 i else if i < t + 91 then kT (i - t) else (0, 0)) = (0, 0)
    rw [if_neg (by omega), if_neg (by omega)]
  · refine rR.u (fun i j2 k hk => ?_) rfl rfl
    have hk : (if i < t then s'.2.1 i else if i < t + 91 then (fun i2 => rsh t (rTT (i - t) i2)) else nw .null) j2 = .ref k := hk
    by_cases h1 : i < t
    · have e := (lo i h1).2.1
      dsimp only at e
      rw [if_pos h1] at hk
      rw [e, po_w_ne (by omega)]
      exact g i j2 k hk
    · rw [if_neg h1] at hk
      by_cases h2 : i < t + 91
      · rw [if_pos h2] at hk
        have e := gT (i - t) j2
        rw [Nat.add_assoc, show t + (i - t) = i by omega] at e
        obtain ⟨k2, hv, e3⟩ := rsh_ref (t := t) (v := rTT (i - t) j2) (k := k) hk
        rw [e k2 hv, ← e3, Nat.add_assoc]
      · rw [if_neg h2] at hk
        cases hk
theorem rTws (h : rK o 282 s.1 s'.1) (g : rR o s.2.1 s'.2.1) : ∀ n, rK o (282 + 91 * n) (nPasts b o s n).1 (bTs s' n).1 ∧ rR o (nPasts b o s n).2.1 (bTs s' n).2.1
  | 0 => ⟨h, g⟩
  | n + 1 => by
    obtain ⟨h1, g1⟩ := rTws h g n
    show rK o (282 + 91 * (n + 1)) (nTw b (o + 282 + 91 * n) (o + 281) n (nPasts b o s n)).1 (bT (282 + 91 * n) 281 n (bTs s' n)).1 ∧ rR o (nTw b (o + 282 + 91 * n) (o + 281) n (nPasts b o s n)).2.1 (bT (282 + 91 * n) 281 n (bTs s' n)).2.1
    exact rTw h1 g1 (by omega) rfl
end QH2
def sO : n3 := (po_w (fun _ => (0, 0)) 0 (18, 8), (fun _ => nw .null), (fun _ => nw 0))
def sO2 : n3 := bT 190 0 4 (bT 99 0 3 (bT 8 0 2 (nSvy 0 (nRdr 0 sO))))
def sO3 : n3 := bTs (nPst 0 sO2) 6
def sO4 : n3 := nM0 828 (po_w sO3.1 828 (19, 19), po_w sO3.2.1 828 (nw .null), sO3.2.2)
section QH3
variable {o N a b q M t c j : Nat} {K K' : po_K} {R R' : po_R} {s s' : n3}
theorem rAll (h : rK o 1 s.1 sO.1) (g : rR o s.2.1 sO.2.1) : rK o 836 (nAll b o s).1 sO4.1 ∧ rR o (nAll b o s).2.1 sO4.2.1 := by
  have h1 : rK o 3 (nRdr o s).1 (nRdr 0 sO).1 ∧ rR o (nRdr o s).2.1 (nRdr 0 sO).2.1 := by
    unfold nRdr
    dsimp only
    exact ⟨((h.up (M := 3) (by omega)).w (by omega) (by omega)).w (by omega) (by omega), (((g.w (by omega)).w (by omega)).u (by omega) (by omega)).u (by omega) (by omega)⟩
  have h2 : rK o 8 (nSvy o (nRdr o s)).1 (nSvy 0 (nRdr 0 sO)).1 ∧ rR o (nSvy o (nRdr o s)).2.1 (nSvy 0 (nRdr 0 sO)).2.1 := by
    obtain ⟨h1, g1⟩ := h1
    generalize nRdr o s = T at *
    generalize nRdr 0 sO = T' at *
    unfold nSvy
    dsimp only
    exact ⟨(((((h1.up (M := 8) (by omega)).w (by omega) (by omega)).w (by omega) (by omega)).w (by omega) (by omega)).w (by omega) (by omega)).w (by omega) (by omega), (((((((((g1.w (by omega)).w (by omega)).w (by omega)).u (by omega) (by omega)).u (by omega) (by omega)).w (by omega)).w (by omega)).u (by omega) (by omega)).u (by omega) (by omega)).u (by omega) (by omega)⟩
  have h3 := rTw (b := b) (t := 8) (c := 0) (j := 2) h2.1 h2.2 (t2 := o + 8) (c2 := o) rfl rfl
  have h4 := rTw (b := b) (t := 99) (c := 0) (j := 3) h3.1 h3.2 (t2 := o + 99) (c2 := o) rfl rfl
  have h5 := rTw (b := b) (t := 190) (c := 0) (j := 4) h4.1 h4.2 (t2 := o + 190) (c2 := o) rfl rfl
  have h6 : rK o 282 (nPst o (nTw b (o + 190) o 4 (nTw b (o + 99) o 3 (nTw b (o + 8) o 2 (nSvy o (nRdr o s)))))).1 (nPst 0 sO2).1 ∧ rR o (nPst o (nTw b (o + 190) o 4 (nTw b (o + 99) o 3 (nTw b (o + 8) o 2 (nSvy o (nRdr o s)))))).2.1 (nPst 0 sO2).2.1 := by
    obtain ⟨h5a, h5b⟩ := h5
    generalize nTw b (o + 190) o 4 (nTw b (o + 99) o 3 (nTw b (o + 8) o 2 (nSvy o (nRdr o s)))) = T at *
    unfold sO2
    generalize bT 190 0 4 (bT 99 0 3 (bT 8 0 2 (nSvy 0 (nRdr 0 sO)))) = T' at *
    unfold nPst
    dsimp only
    exact ⟨(h5a.up (M := 282) (by omega)).w (by omega) (by omega), (h5b.w (by omega)).u (by omega) (by omega)⟩
  have h7 := rTws (b := b) h6.1 h6.2 6
  have h8 : rK o 828 (nOff b o s).1 sO3.1 ∧ rR o (nOff b o s).2.1 sO3.2.1 := h7
  obtain ⟨h8a, h8b⟩ := h8
  show rK o 836 (nM0 (o + 828) (po_w (nOff b o s).1 (o + 828) (19, 19), po_w (nOff b o s).2.1 (o + 828) (nw .null), po_w (nOff b o s).2.2 (o + 828) (nw 0))).1 sO4.1 ∧ rR o (nM0 (o + 828) (po_w (nOff b o s).1 (o + 828) (19, 19), po_w (nOff b o s).2.1 (o + 828) (nw .null), po_w (nOff b o s).2.2 (o + 828) (nw 0))).2.1 sO4.2.1
  unfold sO4
  generalize nOff b o s = T at *
  generalize sO3 = T' at *
  unfold nM0
  dsimp only
  refine ⟨((((((((h8a.up (M := 836) (by omega)).w (by omega) (by omega)).w (by omega) (by omega)).w (by omega) (by omega)).w (by omega) (by omega)).w (by omega) (by omega)).w (by omega) (by omega)).w (by omega) (by omega)).w (by omega) (by omega), ?_⟩
  have g0 := h8b.w (b := o + 828) (a := 828) rfl
  have g1 := (g0.w (b := o + 828 + 1) (a := 828 + 1) (by omega)).u (j := 1) (b := o + 828) (a := 828) (c := o + 828 + 1) (k := 828 + 1) rfl (by omega)
  have g2 := (g1.w (b := o + 828 + 2) (a := 828 + 2) (by omega)).u (j := 2) (b := o + 828) (a := 828) (c := o + 828 + 2) (k := 828 + 2) rfl (by omega)
  have g3 := (g2.w (b := o + 828 + 3) (a := 828 + 3) (by omega)).u (j := 4) (b := o + 828) (a := 828) (c := o + 828 + 3) (k := 828 + 3) rfl (by omega)
  have g4 := (g3.w (b := o + 828 + 4) (a := 828 + 4) (by omega)).u (j := 5) (b := o + 828) (a := 828) (c := o + 828 + 4) (k := 828 + 4) rfl (by omega)
  have g5 := (g4.w (b := o + 828 + 5) (a := 828 + 5) (by omega)).u (j := 11) (b := o + 828) (a := 828) (c := o + 828 + 5) (k := 828 + 5) rfl (by omega)
  have g6 := (g5.w (b := o + 828 + 6) (a := 828 + 6) (by omega)).u (j := 16) (b := o + 828) (a := 828) (c := o + 828 + 6) (k := 828 + 6) rfl (by omega)
  exact (g6.w (b := o + 828 + 7) (a := 828 + 7) (by omega)).u (j := 18) (b := o + 828) (a := 828) (c := o + 828 + 7) (k := 828 + 7) rfl (by omega)
end QH3
