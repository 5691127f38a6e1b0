/-! THE LAW: its loop -/
section LP0
theorem lw_gt {a m : Nat} (ha : a ≤ 2048) (hm : m ≤ 2048) : Int32.ofNat a - 4 < Int32.ofNat m ↔ a < m + 4 := by
  by_cases h : 4 ≤ a
  · rw [show (4 : Int32) = Int32.ofNat 4 from rfl, pl_sub h, pl_lt (by omega) (by omega)]
    omega
  · have h1 : ∀ a, a < 4 → Int32.ofNat a - 4 < 0 := by decide +kernel
    exact ⟨fun _ => by omega, fun _ => Int32.lt_of_lt_of_le (h1 a (by omega)) (pl_nonneg (by omega))⟩
variable {X : po_X} {G : po_G} {Q : State → Prop} {b o Ls : Nat} {K : po_K} {st : Nat → Nat} {xs : Nat → Int32}
theorem law_case (C : lwX X G st b Ls xs) (HK : lwK K o) (hLs : Ls ≤ 2048) {k n j : Nat} {R : po_R} {I : po_I} (HL : po_Lay K R st) (hI : pInv I R o (o + 828) st j) (hj : 4 * j + 3 < Ls) (hk : k + 8 ≤ 603072) (hn : n + 100 ≤ 7202922) (kk : ∀ R' I', po_Lay K R' st → pInv I' R' o (o + 828) st (j + 1) → po_V X G 8 Q (k + 8) (n + 100) 1939 (lwL b o (Int32.ofNat (4 * j))) [] K R' I' none) : po_V X G 8 Q k n 37 (lwL b o (Int32.ofNat (4 * j))) [] K R I none := by
  have hF := C.1
  refine po_aload_n hF dL_law_37 rfl rfl ?_
  refine po_iload hF dL_law_38 rfl ?_
  refine lw_sld C dL_law_40 (by omega) hLs ?_
  refine po_bipush (v := 31) hF dL_law_41 (by decide) ?_
  refine po_iand hF dL_law_43 ?_
  obtain ⟨r, hr, er⟩ := pk_andE (xs (4 * j)) (m := 31) 5 (by decide)
  have er : xs (4 * j) &&& 31 = Int32.ofNat r := er
  rw [er]
  rcases (show r = 0 ∨ r = 1 ∨ r = 2 ∨ r = 3 ∨ r = 4 ∨ r = 5 ∨ r = 6 ∨ r = 7 ∨ r = 8 ∨ r = 9 ∨ r = 10 ∨ r = 11 ∨ r = 12 ∨ r = 13 ∨ r = 14 ∨ r = 15 ∨ r = 16 ∨ r = 17 ∨ r = 18 ∨ r = 19 ∨ r = 20 ∨ r = 21 ∨ r = 22 ∨ r = 23 ∨ r = 24 ∨ r = 25 ∨ r = 26 ∨ r = 27 ∨ r = 28 ∨ r = 29 ∨ r = 30 ∨ r = 31 by omega) with rfl | rfl | rfl | rfl | rfl | rfl | rfl | rfl | rfl | rfl | rfl | rfl | rfl | rfl | rfl | rfl | rfl | rfl | rfl | rfl | rfl | rfl | rfl | rfl | rfl | rfl | rfl | rfl | rfl | rfl | rfl | rfl
  · refine po_tin (c := Int32.ofNat 0) (off := 136) (tgt := 180) hF dL_law_44 rfl (by decide) (by decide) (by decide +kernel) (by decide) ?_
    exact lc_append C HK HL hI hj hLs hk hn kk
  · refine po_tin (c := Int32.ofNat 1) (off := 192) (tgt := 236) hF dL_law_44 rfl (by decide) (by decide) (by decide +kernel) (by decide) ?_
    exact lc_execute C HK HL hI hj hLs hk hn kk
  · refine po_tin (c := Int32.ofNat 2) (off := 236) (tgt := 280) hF dL_law_44 rfl (by decide) (by decide) (by decide +kernel) (by decide) ?_
    exact lc_errorPosition C HK HL hI hk hn kk
  · refine po_tin (c := Int32.ofNat 3) (off := 249) (tgt := 293) hF dL_law_44 rfl (by decide) (by decide) (by decide +kernel) (by decide) ?_
    exact lc_rule C HK HL hI hj hLs hk hn kk
  · refine po_tin (c := Int32.ofNat 4) (off := 317) (tgt := 361) hF dL_law_44 rfl (by decide) (by decide) (by decide +kernel) (by decide) ?_
    exact lc_lot C HK HL hI hj hLs hk hn kk
  · refine po_tin (c := Int32.ofNat 5) (off := 385) (tgt := 429) hF dL_law_44 rfl (by decide) (by decide) (by decide +kernel) (by decide) ?_
    exact lc_rezone C HK HL hI hj hLs hk hn kk
  · refine po_tin (c := Int32.ofNat 6) (off := 453) (tgt := 497) hF dL_law_44 rfl (by decide) (by decide) (by decide +kernel) (by decide) ?_
    exact lc_cell C HK HL hI hj hLs hk hn kk
  · refine po_tin (c := Int32.ofNat 7) (off := 533) (tgt := 577) hF dL_law_44 rfl (by decide) (by decide) (by decide +kernel) (by decide) ?_
    exact lc_largest C HK HL hI hj hLs hk hn kk
  · refine po_tin (c := Int32.ofNat 8) (off := 589) (tgt := 633) hF dL_law_44 rfl (by decide) (by decide) (by decide +kernel) (by decide) ?_
    exact lc_permit C HK HL hI hj hLs hk hn kk
  · refine po_tin (c := Int32.ofNat 9) (off := 657) (tgt := 701) hF dL_law_44 rfl (by decide) (by decide) (by decide +kernel) (by decide) ?_
    exact lc_findings C HK HL hI hj hLs hk hn kk
  · refine po_tin (c := Int32.ofNat 10) (off := 741) (tgt := 785) hF dL_law_44 rfl (by decide) (by decide) (by decide +kernel) (by decide) ?_
    exact lc_finding C HK HL hI hj hLs hk hn kk
  · refine po_tin (c := Int32.ofNat 11) (off := 821) (tgt := 865) hF dL_law_44 rfl (by decide) (by decide) (by decide +kernel) (by decide) ?_
    exact lc_worst C HK HL hI hj hLs hk hn kk
  · refine po_tin (c := Int32.ofNat 12) (off := 865) (tgt := 909) hF dL_law_44 rfl (by decide) (by decide) (by decide +kernel) (by decide) ?_
    exact lc_decide C HK HL hI hj hLs hk hn kk
  · refine po_tin (c := Int32.ofNat 13) (off := 921) (tgt := 965) hF dL_law_44 rfl (by decide) (by decide) (by decide +kernel) (by decide) ?_
    exact lc_reason C HK HL hI hj hLs hk hn kk
  · refine po_tin (c := Int32.ofNat 14) (off := 977) (tgt := 1021) hF dL_law_44 rfl (by decide) (by decide) (by decide +kernel) (by decide) ?_
    exact lc_revoke C HK HL hI hj hLs hk hn kk
  · refine po_tin (c := Int32.ofNat 15) (off := 1033) (tgt := 1077) hF dL_law_44 rfl (by decide) (by decide) (by decide +kernel) (by decide) ?_
    exact lc_urgent C HK HL hI hj hLs hk hn kk
  · refine po_tin (c := Int32.ofNat 16) (off := 1089) (tgt := 1133) hF dL_law_44 rfl (by decide) (by decide) (by decide +kernel) (by decide) ?_
    exact lc_variance C HK HL hI hj hLs hk hn kk
  · refine po_tin (c := Int32.ofNat 17) (off := 1157) (tgt := 1201) hF dL_law_44 rfl (by decide) (by decide) (by decide +kernel) (by decide) ?_
    exact lc_needed C HK HL hI hj hLs hk hn kk
  · refine po_tin (c := Int32.ofNat 18) (off := 1225) (tgt := 1269) hF dL_law_44 rfl (by decide) (by decide) (by decide +kernel) (by decide) ?_
    exact lc_condition C HK HL hI hj hLs hk hn kk
  · refine po_tin (c := Int32.ofNat 19) (off := 1305) (tgt := 1349) hF dL_law_44 rfl (by decide) (by decide) (by decide +kernel) (by decide) ?_
    exact lc_fulfil C HK HL hI hj hLs hk hn kk
  · refine po_tin (c := Int32.ofNat 20) (off := 1373) (tgt := 1417) hF dL_law_44 rfl (by decide) (by decide) (by decide +kernel) (by decide) ?_
    exact lc_inspect C HK HL hI hj hLs hk hn kk
  · refine po_tin (c := Int32.ofNat 21) (off := 1436) (tgt := 1480) hF dL_law_44 rfl (by decide) (by decide) (by decide +kernel) (by decide) ?_
    exact lc_reinstate C HK HL hI hj hLs hk hn kk
  · refine po_tin (c := Int32.ofNat 22) (off := 1492) (tgt := 1536) hF dL_law_44 rfl (by decide) (by decide) (by decide +kernel) (by decide) ?_
    exact lc_extend C HK HL hI hj hLs hk hn kk
  · refine po_tin (c := Int32.ofNat 23) (off := 1548) (tgt := 1592) hF dL_law_44 rfl (by decide) (by decide) (by decide +kernel) (by decide) ?_
    exact lc_pass C HK HL hI hj hLs hk hn kk
  · refine po_tin (c := Int32.ofNat 24) (off := 1604) (tgt := 1648) hF dL_law_44 rfl (by decide) (by decide) (by decide +kernel) (by decide) ?_
    exact lc_account C HK HL hI hj hLs hk hn kk
  · refine po_tin (c := Int32.ofNat 25) (off := 1672) (tgt := 1716) hF dL_law_44 rfl (by decide) (by decide) (by decide +kernel) (by decide) ?_
    exact lc_meanFloorArea C HK HL hI hj hLs hk hn kk
  · refine po_tin (c := Int32.ofNat 26) (off := 1738) (tgt := 1782) hF dL_law_44 rfl (by decide) (by decide) (by decide +kernel) (by decide) ?_
    exact lc_count C HK HL hI hj hLs hk hn kk
  · refine po_tin (c := Int32.ofNat 27) (off := 1794) (tgt := 1838) hF dL_law_44 rfl (by decide) (by decide) (by decide +kernel) (by decide) ?_
    exact lc_undo C HK HL hI hj hLs hk hn kk
  · refine po_tin (c := Int32.ofNat 28) (off := 1838) (tgt := 1882) hF dL_law_44 rfl (by decide) (by decide) (by decide +kernel) (by decide) ?_
    exact lc_save C HK HL hI hk hn kk
  · refine po_tin (c := Int32.ofNat 29) (off := 1851) (tgt := 1895) hF dL_law_44 rfl (by decide) (by decide) (by decide +kernel) (by decide) ?_
    exact lc_restore C HK HL hI hj hLs hk hn kk
  · refine po_tout (tgt := 1939) hF dL_law_44 (Or.inr (by decide)) (by decide) ?_
    refine po_widen (k' := k + 8) (n' := n + 100) (by omega) (by omega) ?_
    exact kk _ _ HL hI.up
  · refine po_tout (tgt := 1939) hF dL_law_44 (Or.inr (by decide)) (by decide) ?_
    refine po_widen (k' := k + 8) (n' := n + 100) (by omega) (by omega) ?_
    exact kk _ _ HL hI.up
theorem law_loop (C : lwX X G st b Ls xs) (HK : lwK K o) (hLs : Ls ≤ 2048) (ke : ∀ (k n : Nat) (L : List (Nat × Value)) (R : po_R) (I : po_I), k ≤ 603072 → n ≤ 7202922 → po_V X G 8 Q k n 1945 L [] K R I none) : ∀ (d j k n : Nat) (R : po_R) (I : po_I), 4 * j ≤ Ls → Ls ≤ 4 * j + 4 * d + 3 → k ≤ 1000 + 8 * j → n ≤ 20000 + 100 * j → po_Lay K R st → pInv I R o (o + 828) st j → po_V X G 8 Q k n 28 (lwL b o (Int32.ofNat (4 * j))) [] K R I none := by
  have hF := C.1
  intro d
  induction d with
  | zero =>
    intro j k n R I h1 h2 hk hn HL hI
    refine po_iload hF dL_law_28 rfl ?_
    refine po_aload_n hF dL_law_30 rfl rfl ?_
    refine lw_slen C dL_law_31 ?_
    refine po_iconst (v := 4) hF dL_law_32 (by decide) ?_
    refine po_isub hF dL_law_33 ?_
    refine po_icmp_gt (tgt := 1945) (A := some ()) (B := Option.none) (r := ()) hF dL_law_34 (by decide) (if_pos ((lw_gt hLs (by omega)).mpr (by omega))) (fun _ => ?_) (fun hm => by cases hm)
    exact ke _ _ _ _ _ (by omega) (by omega)
  | succ d ih =>
    intro j k n R I h1 h2 hk hn HL hI
    refine po_iload hF dL_law_28 rfl ?_
    refine po_aload_n hF dL_law_30 rfl rfl ?_
    refine lw_slen C dL_law_31 ?_
    refine po_iconst (v := 4) hF dL_law_32 (by decide) ?_
    refine po_isub hF dL_law_33 ?_
    by_cases hj : 4 * j + 3 < Ls
    · refine po_icmp_gt (tgt := 1945) (A := Option.none) (B := some ()) (r := ()) hF dL_law_34 (by decide) (if_neg (mt (lw_gt hLs (by omega)).mp (by omega))) (fun hm => by cases hm) (fun _ => ?_)
      refine law_case C HK hLs HL hI hj (by omega) (by omega) (fun R' I' HL' hI' => ?_)
      refine po_iinc (v := Int32.ofNat (4 * (j + 1))) hF dL_law_1939 rfl (by rw [show Int32.ofInt 4 = Int32.ofNat 4 by decide]; exact pl_add (4 * j) 4) (by decide) rfl ?_
      refine po_goto (tgt := 28) hF dL_law_1942 (by decide) ?_
      refine po_sub (L' := lwL b o (Int32.ofNat (4 * (j + 1)))) rfl ?_
      exact ih (j + 1) _ _ R' I' (by omega) (by omega) (by omega) (by omega) HL' hI'
    · refine po_icmp_gt (tgt := 1945) (A := some ()) (B := Option.none) (r := ()) hF dL_law_34 (by decide) (if_pos ((lw_gt hLs (by omega)).mpr (by omega))) (fun _ => ?_) (fun hm => by cases hm)
      exact ke _ _ _ _ _ (by omega) (by omega)
end LP0
