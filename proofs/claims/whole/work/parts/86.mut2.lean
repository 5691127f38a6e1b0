section QC1
variable {I I3 : po_I} {R : po_R} {o M n t k b P : Nat} {N N' : po_N} {st : Nat → Nat}
theorem q_set {j : Nat} {v : Int32} (h : 160 + 46 * k + j < 668) : m_X8_set I M (Int32.ofNat k) (Int32.ofNat j) v = some (po_u I (M + 1) (160 + 46 * k + j) v) := by
  unfold m_X8_set m_X8_set_e po_hlet
  rw [pk_160, pk_46, pl_mul, pl_add, pl_add, if_pos (pl_inl (by omega) (by omega)), pl_clamp (by omega)]
theorem q_pay {v : Int32} (h : k < 10) : m_X8_pay I M (Int32.ofNat k) v = some (po_u I (M + 1) (160 + 46 * k + 25) (I (M + 1) (160 + 46 * k + 25) + v)) := by
  unfold m_X8_pay m_X8_pay_e
  rw [pk_25, q_at (by omega), Option.bind_some, q_set (by omega), Option.bind_some]
theorem q_giveBack {v : Int32} (h : k < 10) : m_X8_giveBack I M (Int32.ofNat k) v = some (po_u I (M + 1) (160 + 46 * k + 26) (I (M + 1) (160 + 46 * k + 26) + v)) := by
  unfold m_X8_giveBack m_X8_giveBack_e
  rw [pk_26, q_at (by omega), Option.bind_some, q_set (by omega), Option.bind_some]
theorem pvc_of {j x lo hi : Nat} (e : N j = Int32.ofNat x) (hx : x < 2147483648) (h1 : lo ≤ x) (h2 : x ≤ hi) : pv_c N j lo hi := by
  have e2 : pv N j = x := by
    show (N j).toNatClampNeg = x
    rw [e, pl_clamp hx]
  unfold pv_c
  rw [e2]
  exact ⟨e, h1, h2⟩
theorem pvv_of {j x : Nat} (e : N j = Int32.ofNat x) (hx : x < 2147483648) : pv N j = x := by
  show (N j).toNatClampNeg = x
  rw [e, pl_clamp hx]
theorem pper' (hPe : P = t + (29 + 5 * k)) (hbe : b = 160 + 46 * k) (hV : pV N) (hB : pB N n) (hT : pTR I t N) (hk : k < pv N 2) (hN : ∀ j, (j < b + 19 ∨ b + 27 < j) → N' j = N j) (hI : ∀ q, t ≤ q → q < t + 91 → q ≠ P → I3 q = I q) (hc : ∀ c, c = 0 ∨ c = 1 ∨ c = 2 ∨ c = 3 ∨ c = 5 ∨ c = 15 ∨ c = 16 → I3 P c = I P c)
    (f6 : I3 P 6 = N' (b + 19)) (f7 : N' (b + 19) = 1 → I3 P 7 = N' (b + 27)) (f8 : I3 P 8 = N' (b + 20)) (f9 : I3 P 9 = N' (b + 21)) (f10 : N' (b + 19) = 2 → I3 P 10 = N' (b + 22)) (f11 : vp_nar .boolean (I3 P 11) = N' (b + 23)) (f12 : I3 P 12 = N' (b + 24)) (f13 : I3 P 13 = N' (b + 25)) (f14 : I3 P 14 = N' (b + 26))
    (g19 : pv_c N' (b + 19) 0 6) (g20 : pv_c N' (b + 20) 0 4) (g21 : pv_c N' (b + 21) 0 3) (g23 : pv_c N' (b + 23) 0 1) (g24 : pv_c N' (b + 24) 0 4095)
    (gi : pv N' (b + 19) = 2 → pv_c N' (b + 22) 0 200000 ∧ pv N' (b + 22) ≤ 100 * (n + 1) + 200 ∧ pv N' (b + 20) ≤ 3 ∧ pv N' (b + 21) ≤ 2) (gs : pv N' (b + 19) = 6 → pv N' (b + 20) ≤ 3) (g0 : pv N' (b + 19) = 0 → pv N' (b + 20) = 0 ∧ pv N' (b + 21) = 0) : pV N' ∧ pB N' (n + 1) ∧ pTR I3 t N' := by
  subst hPe hbe
  exact pper hV hB hT hk hN hI hc f6 f7 f8 f9 f10 f11 f12 f13 f14 g19 g20 g21 g23 g24 gi gs g0
theorem L_revoke (h : pInv I R o M st n) (hn : n < 600) (a : Int32) : ∃ w I1 R1 v I2, m_X7_revoke I R o a = some (w, I1, R1) ∧ m_X8_revoke I1 M a = some (v, I2) ∧ pAg sIO sIS w (I2 M 0) v ∧ pInv I2 R1 o M st (n + 1) := by
  have hV := h.1.1
  have hB := h.1.2.1
  have hT := h.1.2.2
  have hM := h.2.2.2.2.2.1
  have h2' := hV.2.2.1.2.2
  have y1 : ∀ (K : po_I) e, e ≠ 0 → m_X8_revoke_41 K M a M e = some (0, po_u K M 0 e) := by
    intro K e he
    unfold m_X8_revoke_41 po_hlet
    dsimp only
    rw [po_uaa, if_neg he]
  have y2 : ∀ K : po_I, pV (K (M + 1)) → m_X8_revoke K M a = if plt a (pv (K (M + 1)) 2) = true then Option.bind (m_X8_at K M a 19) fun x8 => if (x8 : Int32) = 2 then (m_X8_revoke_40 K M a M) else (Option.bind (m_X8_at K M a 19) fun x9 => if (x9 : Int32) = 6 then (m_X8_revoke_40 K M a M) else (m_X8_revoke_41 K M a M 2)) else m_X8_revoke_41 K M a M 1 := by
    intro K hK
    unfold m_X8_revoke m_X8_revoke_e
    rw [q_isPermit hK, Option.bind_some]
    cases plt a (pv (K (M + 1)) 2) <;> rfl
  unfold m_X7_revoke m_X7_revoke_e
  rw [x_permitOrThrow hV hT, Option.bind_some]
  by_cases ha : plt a (pv (I (M + 1)) 2) = true
  · rw [if_pos ha]
    rw [Sum.elim_inl]
    obtain ⟨k, hk, rfl⟩ := plt_of (by omega) ha
    have hP := hT.per hk
    have hp := hV.per hk
    rw [pl_clamp (by omega)]
    obtain ⟨P, hPe⟩ : ∃ P, P = o + 8 + (29 + 5 * k) := ⟨_, rfl⟩
    obtain ⟨b, hbe⟩ : ∃ b, b = 160 + 46 * k := ⟨_, rfl⟩
    rw [← hPe, ← hbe] at hP
    rw [← hbe] at hp
    rw [← hPe, hP.sta]
    have at' : ∀ (K : po_I) j, j < 46 → m_X8_at K M (Int32.ofNat k) (Int32.ofNat j) = some (K (M + 1) (b + j)) := fun K j hj => by rw [hbe, q_at (by omega)]
    by_cases hs : I (M + 1) (b + 19) = 2 ∨ I (M + 1) (b + 19) = 6
    · obtain ⟨I', R', m1, m2, m3, m4⟩ := L_mut h
      have iP : I' P = I P := m2 P (by omega) (by omega)
      have x34 : (if I (M + 1) (b + 19) = 2 then m_X7_revoke_34 I R o P else if I (M + 1) (b + 19) = 6 then m_X7_revoke_34 I R o P else some (Sum.inr "java/lang/IllegalStateException", I, R)) = some (Sum.inl (2 * (4 - I' P 8)), po_u (po_u I' P 6 5) P 14 ((po_u I' P 6 5) P 14 + 2 * (4 - I' P 8)), R') := by
        have e : m_X7_revoke_34 I R o P = some (Sum.inl (2 * (4 - I' P 8)), po_u (po_u I' P 6 5) P 14 ((po_u I' P 6 5) P 14 + 2 * (4 - I' P 8)), R') := by
          unfold m_X7_revoke_34
          rw [m1, Option.bind_some]
          rfl
        rw [e]
        rcases hs with e1 | e1
        · rw [if_pos e1]
        · rw [if_neg (by rw [e1]; decide), if_pos e1]
      rw [x34]
      obtain ⟨J, eJ⟩ : ∃ J, J = po_u (po_u I' P 6 5) P 14 ((po_u I' P 6 5) P 14 + 2 * (4 - I' P 8)) := ⟨_, rfl⟩
      rw [← eJ]
      have fJ : ∀ q, q ≠ P → J q = I' q := fun q hq => by rw [eJ, po_u_ne hq, po_u_ne hq]
      have rJ : J (M + 1) = I (M + 1) := by rw [fJ _ (by omega)]; exact m2 _ (by omega) (by omega)
      obtain ⟨I2, p1, p2, p3, p4, p5⟩ := m4 J (fun q q1 q2 q3 => fJ q (by omega))
      have hVJ : pV (J (M + 1)) := by rw [rJ]; exact hV
      have yy : m_X8_revoke J M (Int32.ofNat k) = some (2 * (4 - I2 (M + 1) (b + 20)), po_u (po_u I2 (M + 1) (b + 19) 5) (M + 1) (b + 26) ((po_u I2 (M + 1) (b + 19) 5) (M + 1) (b + 26) + 2 * (4 - I2 (M + 1) (b + 20)))) := by
        have e : m_X8_revoke_40 J M (Int32.ofNat k) M = some (2 * (4 - I2 (M + 1) (b + 20)), po_u (po_u I2 (M + 1) (b + 19) 5) (M + 1) (b + 26) ((po_u I2 (M + 1) (b + 19) 5) (M + 1) (b + 26) + 2 * (4 - I2 (M + 1) (b + 20)))) := by
          unfold m_X8_revoke_40 m_X8_revoke_41 po_hlet
          dsimp only
          rw [po_uaa, if_pos rfl, p1, Option.bind_some, pk_20, at' I2 20 (by omega), Option.bind_some]
          simp only [po_let]
          rw [pk_19, q_set (by omega), Option.bind_some, q_giveBack (by omega), Option.bind_some, ← hbe]
        rw [y2 J hVJ, rJ, if_pos ha, pk_19, at' J 19 (by omega), Option.bind_some, Option.bind_some, rJ, e]
        rcases hs with e1 | e1
        · rw [if_pos e1]
        · rw [if_neg (by rw [e1]; decide), if_pos e1]
      refine ⟨_, J, R', _, _, rfl, yy, ⟨?_, ?_⟩, p5 _ (fun q q1 q2 => by rw [po_u_ne q2, po_u_ne q2]) ⟨?_, ?_, ?_, ?_⟩ ?_⟩
      · rw [po_u_ne (by omega), po_u_ne (by omega), p3]
      · rw [p2, iP, hP.pha]
      · rw [po_u_ne (by omega), po_u_ne (by omega)]
      · rw [po_u_ne (by omega), po_u_ne (by omega)]
      · rw [po_u_ne (by omega), po_u_ne (by omega)]
      · rw [po_u_ne (by omega), po_u_ne (by omega)]
      · obtain ⟨K, eK⟩ : ∃ K, K = po_u (po_u I2 (M + 1) (b + 19) 5) (M + 1) (b + 26) ((po_u I2 (M + 1) (b + 19) 5) (M + 1) (b + 26) + 2 * (4 - I2 (M + 1) (b + 20))) := ⟨_, rfl⟩
        rw [← eK]
        have lo : ∀ q, q < o + 828 → K q = J q := fun q hq => by rw [eK, po_u_ne (by omega), po_u_ne (by omega)]; exact p4 q hq
        have KP : K P = J P := lo P (by omega)
        have n19 : K (M + 1) (b + 19) = Int32.ofNat 5 := by simp [eK, po_uu]
        have nn : ∀ j, j ≠ b + 19 → j ≠ b + 26 → K (M + 1) j = I (M + 1) j := fun j j1 j2 => by simp [eK, po_uu, j1, j2, p2]
        refine pper' hPe hbe hV hB hT hk (fun j hj => nn j (by omega) (by omega)) (fun q q1 q2 q3 => by rw [lo q (by omega), fJ q q3]; exact m2 q (by omega) (by omega)) (fun c hc => ?_) ?_ ?_ ?_ ?_ ?_ ?_ ?_ ?_ ?_ ?_ ?_ ?_ ?_ ?_ ?_ ?_ ?_
        · rw [KP]; rcases hc with e | e | e | e | e | e | e <;> subst e <;> simp [eJ, po_uu, iP]
        · rw [KP, n19]; simp [eJ, po_uu]
        · intro e; rw [n19] at e; exact absurd e (by decide)
        · rw [KP, nn _ (by omega) (by omega)]; simpa [eJ, po_uu, iP] using hP.pha
        · rw [KP, nn _ (by omega) (by omega)]; simpa [eJ, po_uu, iP] using hP.fai
        · intro e; rw [n19] at e; exact absurd e (by decide)
        · rw [KP, nn _ (by omega) (by omega)]; simpa [eJ, po_uu, iP] using hP.ext
        · rw [KP, nn _ (by omega) (by omega)]; simpa [eJ, po_uu, iP] using hP.nam
        · rw [KP, nn _ (by omega) (by omega)]; simpa [eJ, po_uu, iP] using hP.pai
        · rw [KP]; simp [eJ, eK, po_uu, iP, p2, hP.bac, hP.pha]
        · exact pvc_of n19 (by omega) (by omega) (by omega)
        · exact pg_cc (nn _ (by omega) (by omega)) hp.2.2.2.2.2.2.2.1
        · exact pg_cc (nn _ (by omega) (by omega)) hp.2.2.2.2.2.2.2.2.1
        · exact pg_cc (nn _ (by omega) (by omega)) hp.2.2.2.2.2.2.2.2.2.1
        · exact pg_cc (nn _ (by omega) (by omega)) hp.2.2.2.2.2.2.2.2.2.2.1
        · intro e; rw [pvv_of n19 (by omega)] at e; omega
        · intro e; rw [pvv_of n19 (by omega)] at e; omega
        · intro e; rw [pvv_of n19 (by omega)] at e; omega
    · have hs2 := not_or.mp hs
      rw [if_neg hs2.1, if_neg hs2.2]
      refine ⟨_, I, R, 0, po_u I M 0 2, rfl, ?_, Or.inr ⟨rfl, by rw [po_uaa]⟩, (pScr_u.inv h).up⟩
      rw [y2 I hV, if_pos ha, pk_19, at' I 19 (by omega), Option.bind_some, Option.bind_some, if_neg hs2.1, if_neg hs2.2, y1 I 2 (by decide)]
  · rw [if_neg ha]
    exact ⟨_, I, R, 0, po_u I M 0 1, rfl, by rw [y2 I hV, if_neg ha, y1 I 1 (by decide)], Or.inl ⟨rfl, by rw [po_uaa]⟩, (pScr_u.inv h).up⟩
end QC1
