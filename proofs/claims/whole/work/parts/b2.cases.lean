/-! THE LAW: a call of each kind, 1 -/
section LC0
variable {X : po_X} {G : po_G} {Q : State → Prop} {k n b o j Ls : Nat} {K : po_K} {R : po_R} {I : po_I} {st : Nat → Nat} {xs : Nat → Int32}
theorem lc_append (C : lwX X G st b Ls xs) (HK : lwK K o) (HL : po_Lay K R st) (hI : pInv I R o (o + 828) st j) (hj : 4 * j + 3 < Ls) (hLs : Ls ≤ 2048) (hk : k + 8 ≤ 603072) (hn : n + 100 ≤ 7202922) (kk : ∀ R' I', po_Lay K R' st → pInv I' R' o (o + 828) st (j + 1) → po_V X G 8 Q (k + 8) (n + 100) 1939 (lwL b o (Int32.ofNat (4 * j))) [] K R' I' none) : po_V X G 8 Q k n 180 (lwL b o (Int32.ofNat (4 * j))) [] K R I none := by
  have hF := C.1
  obtain ⟨w, I1, v, I2, h1, h2, hag, hin⟩ := L_append hI (xs (4 * j + 1))
  have hE := pAg_E hag
  have hk0 := pAg_wk hag (by decide +kernel)
  have HL1 : po_Lay K R st := HL
  have HL2 : po_Lay K (wR R (o + 836) w) st := ly_wR HL1 HK.2.2.1 w
  have hin2 : pInv I2 (wR R (o + 836) w) o (o + 828) st (j + 1) := pInv_R hin (wR_at _ _ _)
  refine po_aload_n hF dL_law_180 rfl rfl ?_
  refine lw_arg (ti := 1) (t := 1) (m := 4 * j) C rfl rfl dL_law_181 dL_law_182 dL_law_184 dL_law_185 dL_law_186 (by decide) (by omega) hLs ?_
  refine po_aload_n hF dL_law_187 rfl rfl ?_
  refine po_callSW (As := [.ref o, .int (xs (4 * j + 1)), .ref (o + 836)]) (S := []) (v := (wk sIA w)) (R' := wR R (o + 836) w) (I' := I1) hF dL_law_188 wq_445 mw_L_append (w_append HL HK.1 HK.2.2.1 h1 hE) rfl (lw_rt C (by decide) (by decide) (by omega) (by omega)) (Nat.le_of_ble_eq_true rfl) rfl ?_
  refine po_istore hF dL_law_191 (by decide) rfl ?_
  refine po_aload_n hF dL_law_193 rfl rfl ?_
  refine lw_arg (ti := 1) (t := 1) (m := 4 * j) C rfl rfl dL_law_194 dL_law_195 dL_law_197 dL_law_198 dL_law_199 (by decide) (by omega) hLs ?_
  refine po_callV (As := [.int (xs (4 * j + 1))]) (S := []) (c := 8) (v := some (.int v)) (K' := K) (R' := wR R (o + 836) w) (I' := I2) (z' := none) hF dL_law_200 wq_1278 mv_X8_append ws_X8_append rfl rfl HK.2.1 (c_X8_append HL2 HK.2.1 h2) rfl (lw_rt C (by decide) (by decide) (by omega) (by omega)) (Nat.le_of_ble_eq_true rfl) rfl ?_
  refine po_istore hF dL_law_203 (by decide) rfl ?_
  refine po_aload_n hF dL_law_205 rfl rfl ?_
  refine po_callV (As := []) (S := []) (c := 8) (v := some (.int (I2 (o + 828) 0))) (K' := K) (R' := wR R (o + 836) w) (I' := I2) (z' := none) hF dL_law_206 wq_1209 mv_X8_thrown ws_X8_thrown rfl rfl HK.2.1 (c_X8_thrown HL2 HK.2.1 (ρ := I2 (o + 828) 0) rfl) rfl (lw_rt C (by decide) (by decide) (by omega) (by omega)) (Nat.le_of_ble_eq_true rfl) rfl ?_
  refine po_iload hF dL_law_209 rfl ?_
  refine po_icmp_eq (tgt := 216) (A := some ()) (B := Option.none) (r := ()) hF dL_law_211 (by decide) (if_pos hk0) (fun _ => ?_) (fun hm => by cases hm)
  refine po_iload hF dL_law_216 rfl ?_
  by_cases hw : wk sIA w = 0
  · obtain ⟨x, rfl⟩ := wk_0 hw
    obtain rfl : v = x := hag.2
    refine po_if_ne (tgt := 233) (A := Option.none) (B := some ()) (r := ()) hF dL_law_218 (by decide) (if_pos hw) (fun hm => by cases hm) (fun _ => ?_)
    refine po_aload_n hF dL_law_221 rfl rfl ?_
    refine po_iconst (v := 0) hF dL_law_222 (by decide) ?_
    refine po_lald (v := v.toInt64) hF dL_law_223 HK.2.2.1 (by decide) (show po_u R (o + 836) 0 (.long v.toInt64) (o + 836) ((0 : Int32).toNatClampNeg) = _ by rw [show (0 : Int32).toNatClampNeg = 0 by decide]; exact po_uaa _ _ _ _) ?_
    refine po_iload hF dL_law_224 rfl ?_
    refine po_i2l hF dL_law_226 ?_
    refine po_lcmp (v := 0) hF dL_law_227 ((lg_cmp_eq _ _).mpr rfl) ?_
    refine po_if_eq (tgt := 233) (A := some ()) (B := Option.none) (r := ()) hF dL_law_228 (by decide) (if_pos rfl) (fun _ => ?_) (fun hm => by cases hm)
    refine po_goto (tgt := 1939) hF dL_law_233 (by decide) ?_
    refine po_sub (L' := lwL b o (Int32.ofNat (4 * j))) rfl ?_
    refine po_widen (k' := k + 8) (n' := n + 100) (by omega) (by omega) ?_
    exact kk _ _ HL2 hin2
  · refine po_if_ne (tgt := 233) (A := some ()) (B := Option.none) (r := ()) hF dL_law_218 (by decide) (if_neg hw) (fun _ => ?_) (fun hm => by cases hm)
    refine po_goto (tgt := 1939) hF dL_law_233 (by decide) ?_
    refine po_sub (L' := lwL b o (Int32.ofNat (4 * j))) rfl ?_
    refine po_widen (k' := k + 8) (n' := n + 100) (by omega) (by omega) ?_
    exact kk _ _ HL2 hin2
theorem lc_execute (C : lwX X G st b Ls xs) (HK : lwK K o) (HL : po_Lay K R st) (hI : pInv I R o (o + 828) st j) (hj : 4 * j + 3 < Ls) (hLs : Ls ≤ 2048) (hk : k + 8 ≤ 603072) (hn : n + 100 ≤ 7202922) (kk : ∀ R' I', po_Lay K R' st → pInv I' R' o (o + 828) st (j + 1) → po_V X G 8 Q (k + 8) (n + 100) 1939 (lwL b o (Int32.ofNat (4 * j))) [] K R' I' none) : po_V X G 8 Q k n 236 (lwL b o (Int32.ofNat (4 * j))) [] K R I none := by
  have hF := C.1
  obtain ⟨w, I1, R1, v, I2, h1, h2, hag, hin⟩ := L_execute hI
  have hE : ∀ E, w = .inr E → E = sIA := fun E hE => ne_execute _ h1 E hE
  have hk0 := pAg_wk hag (by decide +kernel)
  have HL1 : po_Lay K R1 st := kl_execute HL HK.1 _ h1
  have HL2 : po_Lay K (wR R1 (o + 836) w) st := ly_wR HL1 HK.2.2.1 w
  have hin2 : pInv I2 (wR R1 (o + 836) w) o (o + 828) st (j + 1) := pInv_R hin (wR_at _ _ _)
  refine po_aload_n hF dL_law_236 rfl rfl ?_
  refine po_aload_n hF dL_law_237 rfl rfl ?_
  refine po_callSW (As := [.ref o, .ref (o + 836)]) (S := []) (v := (wk sIA w)) (R' := wR R1 (o + 836) w) (I' := I1) hF dL_law_238 wq_545 mw_L_execute (w_execute HL HK.1 HK.2.2.1 h1 hE) rfl (lw_rt C (by decide) (by decide) (by omega) (by omega)) (Nat.le_of_ble_eq_true rfl) rfl ?_
  refine po_istore hF dL_law_241 (by decide) rfl ?_
  refine po_aload_n hF dL_law_243 rfl rfl ?_
  refine po_callV (As := []) (S := []) (c := 8) (v := some (.int v)) (K' := K) (R' := wR R1 (o + 836) w) (I' := I2) (z' := none) hF dL_law_244 wq_1289 mv_X8_execute ws_X8_execute rfl rfl HK.2.1 (c_X8_execute HL2 HK.2.1 h2) rfl (lw_rt C (by decide) (by decide) (by omega) (by omega)) (Nat.le_of_ble_eq_true rfl) rfl ?_
  refine po_istore hF dL_law_247 (by decide) rfl ?_
  refine po_aload_n hF dL_law_249 rfl rfl ?_
  refine po_callV (As := []) (S := []) (c := 8) (v := some (.int (I2 (o + 828) 0))) (K' := K) (R' := wR R1 (o + 836) w) (I' := I2) (z' := none) hF dL_law_250 wq_1209 mv_X8_thrown ws_X8_thrown rfl rfl HK.2.1 (c_X8_thrown HL2 HK.2.1 (ρ := I2 (o + 828) 0) rfl) rfl (lw_rt C (by decide) (by decide) (by omega) (by omega)) (Nat.le_of_ble_eq_true rfl) rfl ?_
  refine po_iload hF dL_law_253 rfl ?_
  refine po_icmp_eq (tgt := 260) (A := some ()) (B := Option.none) (r := ()) hF dL_law_255 (by decide) (if_pos hk0) (fun _ => ?_) (fun hm => by cases hm)
  refine po_iload hF dL_law_260 rfl ?_
  by_cases hw : wk sIA w = 0
  · obtain ⟨x, rfl⟩ := wk_0 hw
    obtain rfl : v = x := hag.2
    refine po_if_ne (tgt := 277) (A := Option.none) (B := some ()) (r := ()) hF dL_law_262 (by decide) (if_pos hw) (fun hm => by cases hm) (fun _ => ?_)
    refine po_aload_n hF dL_law_265 rfl rfl ?_
    refine po_iconst (v := 0) hF dL_law_266 (by decide) ?_
    refine po_lald (v := v.toInt64) hF dL_law_267 HK.2.2.1 (by decide) (show po_u R1 (o + 836) 0 (.long v.toInt64) (o + 836) ((0 : Int32).toNatClampNeg) = _ by rw [show (0 : Int32).toNatClampNeg = 0 by decide]; exact po_uaa _ _ _ _) ?_
    refine po_iload hF dL_law_268 rfl ?_
    refine po_i2l hF dL_law_270 ?_
    refine po_lcmp (v := 0) hF dL_law_271 ((lg_cmp_eq _ _).mpr rfl) ?_
    refine po_if_eq (tgt := 277) (A := some ()) (B := Option.none) (r := ()) hF dL_law_272 (by decide) (if_pos rfl) (fun _ => ?_) (fun hm => by cases hm)
    refine po_goto (tgt := 1939) hF dL_law_277 (by decide) ?_
    refine po_sub (L' := lwL b o (Int32.ofNat (4 * j))) rfl ?_
    refine po_widen (k' := k + 8) (n' := n + 100) (by omega) (by omega) ?_
    exact kk _ _ HL2 hin2
  · refine po_if_ne (tgt := 277) (A := some ()) (B := Option.none) (r := ()) hF dL_law_262 (by decide) (if_neg hw) (fun _ => ?_) (fun hm => by cases hm)
    refine po_goto (tgt := 1939) hF dL_law_277 (by decide) ?_
    refine po_sub (L' := lwL b o (Int32.ofNat (4 * j))) rfl ?_
    refine po_widen (k' := k + 8) (n' := n + 100) (by omega) (by omega) ?_
    exact kk _ _ HL2 hin2
theorem lc_errorPosition (C : lwX X G st b Ls xs) (HK : lwK K o) (HL : po_Lay K R st) (hI : pInv I R o (o + 828) st j) (hk : k + 8 ≤ 603072) (hn : n + 100 ≤ 7202922) (kk : ∀ R' I', po_Lay K R' st → pInv I' R' o (o + 828) st (j + 1) → po_V X G 8 Q (k + 8) (n + 100) 1939 (lwL b o (Int32.ofNat (4 * j))) [] K R' I' none) : po_V X G 8 Q k n 280 (lwL b o (Int32.ofNat (4 * j))) [] K R I none := by
  have hF := C.1
  obtain ⟨v, I2, h1, h2, hscr⟩ := L_errorPosition hI
  have hin := (hscr.inv hI).up
  refine po_aload_n hF dL_law_280 rfl rfl ?_
  refine po_callV (As := []) (S := []) (c := 7) (v := some (.int v)) (K' := K) (R' := R) (I' := I) (z' := none) hF dL_law_281 wq_411 mv_X7_errorPosition ws_X7_errorPosition rfl rfl HK.1 (c_X7_errorPosition HL HK.1 h1) rfl (lw_rt C (by decide) (by decide) (by omega) (by omega)) (Nat.le_of_ble_eq_true rfl) rfl ?_
  refine po_aload_n hF dL_law_284 rfl rfl ?_
  refine po_callV (As := []) (S := [.int v]) (c := 8) (v := some (.int v)) (K' := K) (R' := R) (I' := I2) (z' := none) hF dL_law_285 wq_1418 mv_X8_errorPosition ws_X8_errorPosition rfl rfl HK.2.1 (c_X8_errorPosition HL HK.2.1 h2) rfl (lw_rt C (by decide) (by decide) (by omega) (by omega)) (Nat.le_of_ble_eq_true rfl) rfl ?_
  refine po_icmp_eq (tgt := 1939) (A := some ()) (B := Option.none) (r := ()) hF dL_law_288 (by decide) (if_pos rfl) (fun _ => ?_) (fun hm => by cases hm)
  refine po_widen (k' := k + 8) (n' := n + 100) (by omega) (by omega) ?_
  exact kk _ _ HL hin
theorem lc_rule (C : lwX X G st b Ls xs) (HK : lwK K o) (HL : po_Lay K R st) (hI : pInv I R o (o + 828) st j) (hj : 4 * j + 3 < Ls) (hLs : Ls ≤ 2048) (hk : k + 8 ≤ 603072) (hn : n + 100 ≤ 7202922) (kk : ∀ R' I', po_Lay K R' st → pInv I' R' o (o + 828) st (j + 1) → po_V X G 8 Q (k + 8) (n + 100) 1939 (lwL b o (Int32.ofNat (4 * j))) [] K R' I' none) : po_V X G 8 Q k n 293 (lwL b o (Int32.ofNat (4 * j))) [] K R I none := by
  have hF := C.1
  obtain ⟨w, v, I2, h1, h2, hag, hscr⟩ := L_rule hI (xs (4 * j + 1)) (xs (4 * j + 2))
  have hin := (hscr.inv hI).up
  have hE := pAg_E hag
  have hk0 := pAg_wk hag (by decide +kernel)
  have HL1 : po_Lay K R st := HL
  have HL2 : po_Lay K (wR R (o + 836) w) st := ly_wR HL1 HK.2.2.1 w
  have hin2 : pInv I2 (wR R (o + 836) w) o (o + 828) st (j + 1) := pInv_R hin (wR_at _ _ _)
  refine po_aload_n hF dL_law_293 rfl rfl ?_
  refine lw_arg (ti := 1) (t := 1) (m := 4 * j) C rfl rfl dL_law_294 dL_law_295 dL_law_297 dL_law_298 dL_law_299 (by decide) (by omega) hLs ?_
  refine lw_arg (ti := 2) (t := 2) (m := 4 * j) C rfl rfl dL_law_300 dL_law_301 dL_law_303 dL_law_304 dL_law_305 (by decide) (by omega) hLs ?_
  refine po_aload_n hF dL_law_306 rfl rfl ?_
  refine po_callSW (As := [.ref o, .int (xs (4 * j + 1)), .int (xs (4 * j + 2)), .ref (o + 836)]) (S := []) (v := (wk sIO w)) (R' := wR R (o + 836) w) (I' := I) hF dL_law_307 wq_669 mw_L_rule (w_rule HL HK.1 HK.2.2.1 h1 hE) rfl (lw_rt C (by decide) (by decide) (by omega) (by omega)) (Nat.le_of_ble_eq_true rfl) rfl ?_
  refine po_istore hF dL_law_310 (by decide) rfl ?_
  refine po_aload_n hF dL_law_312 rfl rfl ?_
  refine lw_arg (ti := 1) (t := 1) (m := 4 * j) C rfl rfl dL_law_313 dL_law_314 dL_law_316 dL_law_317 dL_law_318 (by decide) (by omega) hLs ?_
  refine lw_arg (ti := 2) (t := 2) (m := 4 * j) C rfl rfl dL_law_319 dL_law_320 dL_law_322 dL_law_323 dL_law_324 (by decide) (by omega) hLs ?_
  refine po_callV (As := [.int (xs (4 * j + 1)), .int (xs (4 * j + 2))]) (S := []) (c := 8) (v := some (.int v)) (K' := K) (R' := wR R (o + 836) w) (I' := I2) (z' := none) hF dL_law_325 wq_1422 mv_X8_rule ws_X8_rule rfl rfl HK.2.1 (c_X8_rule HL2 HK.2.1 h2) rfl (lw_rt C (by decide) (by decide) (by omega) (by omega)) (Nat.le_of_ble_eq_true rfl) rfl ?_
  refine po_istore hF dL_law_328 (by decide) rfl ?_
  refine po_aload_n hF dL_law_330 rfl rfl ?_
  refine po_callV (As := []) (S := []) (c := 8) (v := some (.int (I2 (o + 828) 0))) (K' := K) (R' := wR R (o + 836) w) (I' := I2) (z' := none) hF dL_law_331 wq_1209 mv_X8_thrown ws_X8_thrown rfl rfl HK.2.1 (c_X8_thrown HL2 HK.2.1 (ρ := I2 (o + 828) 0) rfl) rfl (lw_rt C (by decide) (by decide) (by omega) (by omega)) (Nat.le_of_ble_eq_true rfl) rfl ?_
  refine po_iload hF dL_law_334 rfl ?_
  refine po_icmp_eq (tgt := 341) (A := some ()) (B := Option.none) (r := ()) hF dL_law_336 (by decide) (if_pos hk0) (fun _ => ?_) (fun hm => by cases hm)
  refine po_iload hF dL_law_341 rfl ?_
  by_cases hw : wk sIO w = 0
  · obtain ⟨x, rfl⟩ := wk_0 hw
    obtain rfl : v = x := hag.2
    refine po_if_ne (tgt := 358) (A := Option.none) (B := some ()) (r := ()) hF dL_law_343 (by decide) (if_pos hw) (fun hm => by cases hm) (fun _ => ?_)
    refine po_aload_n hF dL_law_346 rfl rfl ?_
    refine po_iconst (v := 0) hF dL_law_347 (by decide) ?_
    refine po_lald (v := v.toInt64) hF dL_law_348 HK.2.2.1 (by decide) (show po_u R (o + 836) 0 (.long v.toInt64) (o + 836) ((0 : Int32).toNatClampNeg) = _ by rw [show (0 : Int32).toNatClampNeg = 0 by decide]; exact po_uaa _ _ _ _) ?_
    refine po_iload hF dL_law_349 rfl ?_
    refine po_i2l hF dL_law_351 ?_
    refine po_lcmp (v := 0) hF dL_law_352 ((lg_cmp_eq _ _).mpr rfl) ?_
    refine po_if_eq (tgt := 358) (A := some ()) (B := Option.none) (r := ()) hF dL_law_353 (by decide) (if_pos rfl) (fun _ => ?_) (fun hm => by cases hm)
    refine po_goto (tgt := 1939) hF dL_law_358 (by decide) ?_
    refine po_sub (L' := lwL b o (Int32.ofNat (4 * j))) rfl ?_
    refine po_widen (k' := k + 8) (n' := n + 100) (by omega) (by omega) ?_
    exact kk _ _ HL2 hin2
  · refine po_if_ne (tgt := 358) (A := some ()) (B := Option.none) (r := ()) hF dL_law_343 (by decide) (if_neg hw) (fun _ => ?_) (fun hm => by cases hm)
    refine po_goto (tgt := 1939) hF dL_law_358 (by decide) ?_
    refine po_sub (L' := lwL b o (Int32.ofNat (4 * j))) rfl ?_
    refine po_widen (k' := k + 8) (n' := n + 100) (by omega) (by omega) ?_
    exact kk _ _ HL2 hin2
theorem lc_lot (C : lwX X G st b Ls xs) (HK : lwK K o) (HL : po_Lay K R st) (hI : pInv I R o (o + 828) st j) (hj : 4 * j + 3 < Ls) (hLs : Ls ≤ 2048) (hk : k + 8 ≤ 603072) (hn : n + 100 ≤ 7202922) (kk : ∀ R' I', po_Lay K R' st → pInv I' R' o (o + 828) st (j + 1) → po_V X G 8 Q (k + 8) (n + 100) 1939 (lwL b o (Int32.ofNat (4 * j))) [] K R' I' none) : po_V X G 8 Q k n 361 (lwL b o (Int32.ofNat (4 * j))) [] K R I none := by
  have hF := C.1
  obtain ⟨w, I1, v, I2, h1, h2, hag, hscr⟩ := L_lot hI (xs (4 * j + 1)) (xs (4 * j + 2))
  have hin := (hscr.inv hI).up
  have hE := pAg_E hag
  have hk0 := pAg_wk hag (by decide +kernel)
  have HL1 : po_Lay K R st := HL
  have HL2 : po_Lay K (wR R (o + 836) w) st := ly_wR HL1 HK.2.2.1 w
  have hin2 : pInv I2 (wR R (o + 836) w) o (o + 828) st (j + 1) := pInv_R hin (wR_at _ _ _)
  refine po_aload_n hF dL_law_361 rfl rfl ?_
  refine lw_arg (ti := 1) (t := 1) (m := 4 * j) C rfl rfl dL_law_362 dL_law_363 dL_law_365 dL_law_366 dL_law_367 (by decide) (by omega) hLs ?_
  refine lw_arg (ti := 2) (t := 2) (m := 4 * j) C rfl rfl dL_law_368 dL_law_369 dL_law_371 dL_law_372 dL_law_373 (by decide) (by omega) hLs ?_
  refine po_aload_n hF dL_law_374 rfl rfl ?_
  refine po_callSW (As := [.ref o, .int (xs (4 * j + 1)), .int (xs (4 * j + 2)), .ref (o + 836)]) (S := []) (v := (wk sIO w)) (R' := wR R (o + 836) w) (I' := I1) hF dL_law_375 wq_718 mw_L_lot (w_lot HL HK.1 HK.2.2.1 h1 hE) rfl (lw_rt C (by decide) (by decide) (by omega) (by omega)) (Nat.le_of_ble_eq_true rfl) rfl ?_
  refine po_istore hF dL_law_378 (by decide) rfl ?_
  refine po_aload_n hF dL_law_380 rfl rfl ?_
  refine lw_arg (ti := 1) (t := 1) (m := 4 * j) C rfl rfl dL_law_381 dL_law_382 dL_law_384 dL_law_385 dL_law_386 (by decide) (by omega) hLs ?_
  refine lw_arg (ti := 2) (t := 2) (m := 4 * j) C rfl rfl dL_law_387 dL_law_388 dL_law_390 dL_law_391 dL_law_392 (by decide) (by omega) hLs ?_
  refine po_callV (As := [.int (xs (4 * j + 1)), .int (xs (4 * j + 2))]) (S := []) (c := 8) (v := some (.int v)) (K' := K) (R' := wR R (o + 836) w) (I' := I2) (z' := none) hF dL_law_393 wq_1426 mv_X8_lot ws_X8_lot rfl rfl HK.2.1 (c_X8_lot HL2 HK.2.1 h2) rfl (lw_rt C (by decide) (by decide) (by omega) (by omega)) (Nat.le_of_ble_eq_true rfl) rfl ?_
  refine po_istore hF dL_law_396 (by decide) rfl ?_
  refine po_aload_n hF dL_law_398 rfl rfl ?_
  refine po_callV (As := []) (S := []) (c := 8) (v := some (.int (I2 (o + 828) 0))) (K' := K) (R' := wR R (o + 836) w) (I' := I2) (z' := none) hF dL_law_399 wq_1209 mv_X8_thrown ws_X8_thrown rfl rfl HK.2.1 (c_X8_thrown HL2 HK.2.1 (ρ := I2 (o + 828) 0) rfl) rfl (lw_rt C (by decide) (by decide) (by omega) (by omega)) (Nat.le_of_ble_eq_true rfl) rfl ?_
  refine po_iload hF dL_law_402 rfl ?_
  refine po_icmp_eq (tgt := 409) (A := some ()) (B := Option.none) (r := ()) hF dL_law_404 (by decide) (if_pos hk0) (fun _ => ?_) (fun hm => by cases hm)
  refine po_iload hF dL_law_409 rfl ?_
  by_cases hw : wk sIO w = 0
  · obtain ⟨x, rfl⟩ := wk_0 hw
    obtain rfl : v = x := hag.2
    refine po_if_ne (tgt := 426) (A := Option.none) (B := some ()) (r := ()) hF dL_law_411 (by decide) (if_pos hw) (fun hm => by cases hm) (fun _ => ?_)
    refine po_aload_n hF dL_law_414 rfl rfl ?_
    refine po_iconst (v := 0) hF dL_law_415 (by decide) ?_
    refine po_lald (v := v.toInt64) hF dL_law_416 HK.2.2.1 (by decide) (show po_u R (o + 836) 0 (.long v.toInt64) (o + 836) ((0 : Int32).toNatClampNeg) = _ by rw [show (0 : Int32).toNatClampNeg = 0 by decide]; exact po_uaa _ _ _ _) ?_
    refine po_iload hF dL_law_417 rfl ?_
    refine po_i2l hF dL_law_419 ?_
    refine po_lcmp (v := 0) hF dL_law_420 ((lg_cmp_eq _ _).mpr rfl) ?_
    refine po_if_eq (tgt := 426) (A := some ()) (B := Option.none) (r := ()) hF dL_law_421 (by decide) (if_pos rfl) (fun _ => ?_) (fun hm => by cases hm)
    refine po_goto (tgt := 1939) hF dL_law_426 (by decide) ?_
    refine po_sub (L' := lwL b o (Int32.ofNat (4 * j))) rfl ?_
    refine po_widen (k' := k + 8) (n' := n + 100) (by omega) (by omega) ?_
    exact kk _ _ HL2 hin2
  · refine po_if_ne (tgt := 426) (A := some ()) (B := Option.none) (r := ()) hF dL_law_411 (by decide) (if_neg hw) (fun _ => ?_) (fun hm => by cases hm)
    refine po_goto (tgt := 1939) hF dL_law_426 (by decide) ?_
    refine po_sub (L' := lwL b o (Int32.ofNat (4 * j))) rfl ?_
    refine po_widen (k' := k + 8) (n' := n + 100) (by omega) (by omega) ?_
    exact kk _ _ HL2 hin2
theorem lc_rezone (C : lwX X G st b Ls xs) (HK : lwK K o) (HL : po_Lay K R st) (hI : pInv I R o (o + 828) st j) (hj : 4 * j + 3 < Ls) (hLs : Ls ≤ 2048) (hk : k + 8 ≤ 603072) (hn : n + 100 ≤ 7202922) (kk : ∀ R' I', po_Lay K R' st → pInv I' R' o (o + 828) st (j + 1) → po_V X G 8 Q (k + 8) (n + 100) 1939 (lwL b o (Int32.ofNat (4 * j))) [] K R' I' none) : po_V X G 8 Q k n 429 (lwL b o (Int32.ofNat (4 * j))) [] K R I none := by
  have hF := C.1
  obtain ⟨w, I1, R1, v, I2, h1, h2, hag, hin⟩ := L_rezone hI (xs (4 * j + 1)) (xs (4 * j + 2))
  have hE := pAg_E hag
  have hk0 := pAg_wk hag (by decide +kernel)
  have HL1 : po_Lay K R1 st := kl_rezone HL HK.1 _ _ _ h1
  have HL2 : po_Lay K (wR R1 (o + 836) w) st := ly_wR HL1 HK.2.2.1 w
  have hin2 : pInv I2 (wR R1 (o + 836) w) o (o + 828) st (j + 1) := pInv_R hin (wR_at _ _ _)
  refine po_aload_n hF dL_law_429 rfl rfl ?_
  refine lw_arg (ti := 1) (t := 1) (m := 4 * j) C rfl rfl dL_law_430 dL_law_431 dL_law_433 dL_law_434 dL_law_435 (by decide) (by omega) hLs ?_
  refine lw_arg (ti := 2) (t := 2) (m := 4 * j) C rfl rfl dL_law_436 dL_law_437 dL_law_439 dL_law_440 dL_law_441 (by decide) (by omega) hLs ?_
  refine po_aload_n hF dL_law_442 rfl rfl ?_
  refine po_callSW (As := [.ref o, .int (xs (4 * j + 1)), .int (xs (4 * j + 2)), .ref (o + 836)]) (S := []) (v := (wk sIO w)) (R' := wR R1 (o + 836) w) (I' := I1) hF dL_law_443 wq_769 mw_L_rezone (w_rezone HL HK.1 HK.2.2.1 h1 hE) rfl (lw_rt C (by decide) (by decide) (by omega) (by omega)) (Nat.le_of_ble_eq_true rfl) rfl ?_
  refine po_istore hF dL_law_446 (by decide) rfl ?_
  refine po_aload_n hF dL_law_448 rfl rfl ?_
  refine lw_arg (ti := 1) (t := 1) (m := 4 * j) C rfl rfl dL_law_449 dL_law_450 dL_law_452 dL_law_453 dL_law_454 (by decide) (by omega) hLs ?_
  refine lw_arg (ti := 2) (t := 2) (m := 4 * j) C rfl rfl dL_law_455 dL_law_456 dL_law_458 dL_law_459 dL_law_460 (by decide) (by omega) hLs ?_
  refine po_callV (As := [.int (xs (4 * j + 1)), .int (xs (4 * j + 2))]) (S := []) (c := 8) (v := some (.int v)) (K' := K) (R' := wR R1 (o + 836) w) (I' := I2) (z' := none) hF dL_law_461 wq_1472 mv_X8_rezone ws_X8_rezone rfl rfl HK.2.1 (c_X8_rezone HL2 HK.2.1 h2) rfl (lw_rt C (by decide) (by decide) (by omega) (by omega)) (Nat.le_of_ble_eq_true rfl) rfl ?_
  refine po_istore hF dL_law_464 (by decide) rfl ?_
  refine po_aload_n hF dL_law_466 rfl rfl ?_
  refine po_callV (As := []) (S := []) (c := 8) (v := some (.int (I2 (o + 828) 0))) (K' := K) (R' := wR R1 (o + 836) w) (I' := I2) (z' := none) hF dL_law_467 wq_1209 mv_X8_thrown ws_X8_thrown rfl rfl HK.2.1 (c_X8_thrown HL2 HK.2.1 (ρ := I2 (o + 828) 0) rfl) rfl (lw_rt C (by decide) (by decide) (by omega) (by omega)) (Nat.le_of_ble_eq_true rfl) rfl ?_
  refine po_iload hF dL_law_470 rfl ?_
  refine po_icmp_eq (tgt := 477) (A := some ()) (B := Option.none) (r := ()) hF dL_law_472 (by decide) (if_pos hk0) (fun _ => ?_) (fun hm => by cases hm)
  refine po_iload hF dL_law_477 rfl ?_
  by_cases hw : wk sIO w = 0
  · obtain ⟨x, rfl⟩ := wk_0 hw
    obtain rfl : v = x := hag.2
    refine po_if_ne (tgt := 494) (A := Option.none) (B := some ()) (r := ()) hF dL_law_479 (by decide) (if_pos hw) (fun hm => by cases hm) (fun _ => ?_)
    refine po_aload_n hF dL_law_482 rfl rfl ?_
    refine po_iconst (v := 0) hF dL_law_483 (by decide) ?_
    refine po_lald (v := v.toInt64) hF dL_law_484 HK.2.2.1 (by decide) (show po_u R1 (o + 836) 0 (.long v.toInt64) (o + 836) ((0 : Int32).toNatClampNeg) = _ by rw [show (0 : Int32).toNatClampNeg = 0 by decide]; exact po_uaa _ _ _ _) ?_
    refine po_iload hF dL_law_485 rfl ?_
    refine po_i2l hF dL_law_487 ?_
    refine po_lcmp (v := 0) hF dL_law_488 ((lg_cmp_eq _ _).mpr rfl) ?_
    refine po_if_eq (tgt := 494) (A := some ()) (B := Option.none) (r := ()) hF dL_law_489 (by decide) (if_pos rfl) (fun _ => ?_) (fun hm => by cases hm)
    refine po_goto (tgt := 1939) hF dL_law_494 (by decide) ?_
    refine po_sub (L' := lwL b o (Int32.ofNat (4 * j))) rfl ?_
    refine po_widen (k' := k + 8) (n' := n + 100) (by omega) (by omega) ?_
    exact kk _ _ HL2 hin2
  · refine po_if_ne (tgt := 494) (A := some ()) (B := Option.none) (r := ()) hF dL_law_479 (by decide) (if_neg hw) (fun _ => ?_) (fun hm => by cases hm)
    refine po_goto (tgt := 1939) hF dL_law_494 (by decide) ?_
    refine po_sub (L' := lwL b o (Int32.ofNat (4 * j))) rfl ?_
    refine po_widen (k' := k + 8) (n' := n + 100) (by omega) (by omega) ?_
    exact kk _ _ HL2 hin2
theorem lc_cell (C : lwX X G st b Ls xs) (HK : lwK K o) (HL : po_Lay K R st) (hI : pInv I R o (o + 828) st j) (hj : 4 * j + 3 < Ls) (hLs : Ls ≤ 2048) (hk : k + 8 ≤ 603072) (hn : n + 100 ≤ 7202922) (kk : ∀ R' I', po_Lay K R' st → pInv I' R' o (o + 828) st (j + 1) → po_V X G 8 Q (k + 8) (n + 100) 1939 (lwL b o (Int32.ofNat (4 * j))) [] K R' I' none) : po_V X G 8 Q k n 497 (lwL b o (Int32.ofNat (4 * j))) [] K R I none := by
  have hF := C.1
  obtain ⟨w, I1, v, I2, h1, h2, hag, hscr⟩ := L_cell hI (xs (4 * j + 1)) (xs (4 * j + 2)) (xs (4 * j + 3))
  have hin := (hscr.inv hI).up
  have hE := pAg_E hag
  have hk0 := pAg_wk hag (by decide +kernel)
  have HL1 : po_Lay K R st := HL
  have HL2 : po_Lay K (wR R (o + 836) w) st := ly_wR HL1 HK.2.2.1 w
  have hin2 : pInv I2 (wR R (o + 836) w) o (o + 828) st (j + 1) := pInv_R hin (wR_at _ _ _)
  refine po_aload_n hF dL_law_497 rfl rfl ?_
  refine lw_arg (ti := 1) (t := 1) (m := 4 * j) C rfl rfl dL_law_498 dL_law_499 dL_law_501 dL_law_502 dL_law_503 (by decide) (by omega) hLs ?_
  refine lw_arg (ti := 2) (t := 2) (m := 4 * j) C rfl rfl dL_law_504 dL_law_505 dL_law_507 dL_law_508 dL_law_509 (by decide) (by omega) hLs ?_
  refine lw_arg (ti := 3) (t := 3) (m := 4 * j) C rfl rfl dL_law_510 dL_law_511 dL_law_513 dL_law_514 dL_law_515 (by decide) (by omega) hLs ?_
  refine po_aload_n hF dL_law_516 rfl rfl ?_
  refine po_callSW (As := [.ref o, .int (xs (4 * j + 1)), .int (xs (4 * j + 2)), .int (xs (4 * j + 3)), .ref (o + 836)]) (S := []) (v := (wk sIO w)) (R' := wR R (o + 836) w) (I' := I1) hF dL_law_517 wq_776 mw_L_cell (w_cell HL HK.1 HK.2.2.1 h1 hE) rfl (lw_rt C (by decide) (by decide) (by omega) (by omega)) (Nat.le_of_ble_eq_true rfl) rfl ?_
  refine po_istore hF dL_law_520 (by decide) rfl ?_
  refine po_aload_n hF dL_law_522 rfl rfl ?_
  refine lw_arg (ti := 1) (t := 1) (m := 4 * j) C rfl rfl dL_law_523 dL_law_524 dL_law_526 dL_law_527 dL_law_528 (by decide) (by omega) hLs ?_
  refine lw_arg (ti := 2) (t := 2) (m := 4 * j) C rfl rfl dL_law_529 dL_law_530 dL_law_532 dL_law_533 dL_law_534 (by decide) (by omega) hLs ?_
  refine lw_arg (ti := 3) (t := 3) (m := 4 * j) C rfl rfl dL_law_535 dL_law_536 dL_law_538 dL_law_539 dL_law_540 (by decide) (by omega) hLs ?_
  refine po_callV (As := [.int (xs (4 * j + 1)), .int (xs (4 * j + 2)), .int (xs (4 * j + 3))]) (S := []) (c := 8) (v := some (.int v)) (K' := K) (R' := wR R (o + 836) w) (I' := I2) (z' := none) hF dL_law_541 wq_1480 mv_X8_cell ws_X8_cell rfl rfl HK.2.1 (c_X8_cell HL2 HK.2.1 h2) rfl (lw_rt C (by decide) (by decide) (by omega) (by omega)) (Nat.le_of_ble_eq_true rfl) rfl ?_
  refine po_istore hF dL_law_544 (by decide) rfl ?_
  refine po_aload_n hF dL_law_546 rfl rfl ?_
  refine po_callV (As := []) (S := []) (c := 8) (v := some (.int (I2 (o + 828) 0))) (K' := K) (R' := wR R (o + 836) w) (I' := I2) (z' := none) hF dL_law_547 wq_1209 mv_X8_thrown ws_X8_thrown rfl rfl HK.2.1 (c_X8_thrown HL2 HK.2.1 (ρ := I2 (o + 828) 0) rfl) rfl (lw_rt C (by decide) (by decide) (by omega) (by omega)) (Nat.le_of_ble_eq_true rfl) rfl ?_
  refine po_iload hF dL_law_550 rfl ?_
  refine po_icmp_eq (tgt := 557) (A := some ()) (B := Option.none) (r := ()) hF dL_law_552 (by decide) (if_pos hk0) (fun _ => ?_) (fun hm => by cases hm)
  refine po_iload hF dL_law_557 rfl ?_
  by_cases hw : wk sIO w = 0
  · obtain ⟨x, rfl⟩ := wk_0 hw
    obtain rfl : v = x := hag.2
    refine po_if_ne (tgt := 574) (A := Option.none) (B := some ()) (r := ()) hF dL_law_559 (by decide) (if_pos hw) (fun hm => by cases hm) (fun _ => ?_)
    refine po_aload_n hF dL_law_562 rfl rfl ?_
    refine po_iconst (v := 0) hF dL_law_563 (by decide) ?_
    refine po_lald (v := v.toInt64) hF dL_law_564 HK.2.2.1 (by decide) (show po_u R (o + 836) 0 (.long v.toInt64) (o + 836) ((0 : Int32).toNatClampNeg) = _ by rw [show (0 : Int32).toNatClampNeg = 0 by decide]; exact po_uaa _ _ _ _) ?_
    refine po_iload hF dL_law_565 rfl ?_
    refine po_i2l hF dL_law_567 ?_
    refine po_lcmp (v := 0) hF dL_law_568 ((lg_cmp_eq _ _).mpr rfl) ?_
    refine po_if_eq (tgt := 574) (A := some ()) (B := Option.none) (r := ()) hF dL_law_569 (by decide) (if_pos rfl) (fun _ => ?_) (fun hm => by cases hm)
    refine po_goto (tgt := 1939) hF dL_law_574 (by decide) ?_
    refine po_sub (L' := lwL b o (Int32.ofNat (4 * j))) rfl ?_
    refine po_widen (k' := k + 8) (n' := n + 100) (by omega) (by omega) ?_
    exact kk _ _ HL2 hin2
  · refine po_if_ne (tgt := 574) (A := some ()) (B := Option.none) (r := ()) hF dL_law_559 (by decide) (if_neg hw) (fun _ => ?_) (fun hm => by cases hm)
    refine po_goto (tgt := 1939) hF dL_law_574 (by decide) ?_
    refine po_sub (L' := lwL b o (Int32.ofNat (4 * j))) rfl ?_
    refine po_widen (k' := k + 8) (n' := n + 100) (by omega) (by omega) ?_
    exact kk _ _ HL2 hin2
theorem lc_largest (C : lwX X G st b Ls xs) (HK : lwK K o) (HL : po_Lay K R st) (hI : pInv I R o (o + 828) st j) (hj : 4 * j + 3 < Ls) (hLs : Ls ≤ 2048) (hk : k + 8 ≤ 603072) (hn : n + 100 ≤ 7202922) (kk : ∀ R' I', po_Lay K R' st → pInv I' R' o (o + 828) st (j + 1) → po_V X G 8 Q (k + 8) (n + 100) 1939 (lwL b o (Int32.ofNat (4 * j))) [] K R' I' none) : po_V X G 8 Q k n 577 (lwL b o (Int32.ofNat (4 * j))) [] K R I none := by
  have hF := C.1
  obtain ⟨w, I1, v, I2, h1, h2, hag, hscr⟩ := L_largest hI (xs (4 * j + 1))
  have hin := (hscr.inv hI).up
  have hE : ∀ E, w = .inr E → E = sIO := fun E hE => ne_largest _ _ h1 E hE
  have hk0 := pAg_wk hag (by decide +kernel)
  have HL1 : po_Lay K R st := HL
  have HL2 : po_Lay K (wR R (o + 836) w) st := ly_wR HL1 HK.2.2.1 w
  have hin2 : pInv I2 (wR R (o + 836) w) o (o + 828) st (j + 1) := pInv_R hin (wR_at _ _ _)
  refine po_aload_n hF dL_law_577 rfl rfl ?_
  refine lw_arg (ti := 1) (t := 1) (m := 4 * j) C rfl rfl dL_law_578 dL_law_579 dL_law_581 dL_law_582 dL_law_583 (by decide) (by omega) hLs ?_
  refine po_aload_n hF dL_law_584 rfl rfl ?_
  refine po_callSW (As := [.ref o, .int (xs (4 * j + 1)), .ref (o + 836)]) (S := []) (v := (wk sIO w)) (R' := wR R (o + 836) w) (I' := I1) hF dL_law_585 wq_817 mw_L_largest (w_largest HL HK.1 HK.2.2.1 h1 hE) rfl (lw_rt C (by decide) (by decide) (by omega) (by omega)) (Nat.le_of_ble_eq_true rfl) rfl ?_
  refine po_istore hF dL_law_588 (by decide) rfl ?_
  refine po_aload_n hF dL_law_590 rfl rfl ?_
  refine lw_arg (ti := 1) (t := 1) (m := 4 * j) C rfl rfl dL_law_591 dL_law_592 dL_law_594 dL_law_595 dL_law_596 (by decide) (by omega) hLs ?_
  refine po_callV (As := [.int (xs (4 * j + 1))]) (S := []) (c := 8) (v := some (.int v)) (K' := K) (R' := wR R (o + 836) w) (I' := I2) (z' := none) hF dL_law_597 wq_1493 mv_X8_largest ws_X8_largest rfl rfl HK.2.1 (c_X8_largest HL2 HK.2.1 h2) rfl (lw_rt C (by decide) (by decide) (by omega) (by omega)) (Nat.le_of_ble_eq_true rfl) rfl ?_
  refine po_istore hF dL_law_600 (by decide) rfl ?_
  refine po_aload_n hF dL_law_602 rfl rfl ?_
  refine po_callV (As := []) (S := []) (c := 8) (v := some (.int (I2 (o + 828) 0))) (K' := K) (R' := wR R (o + 836) w) (I' := I2) (z' := none) hF dL_law_603 wq_1209 mv_X8_thrown ws_X8_thrown rfl rfl HK.2.1 (c_X8_thrown HL2 HK.2.1 (ρ := I2 (o + 828) 0) rfl) rfl (lw_rt C (by decide) (by decide) (by omega) (by omega)) (Nat.le_of_ble_eq_true rfl) rfl ?_
  refine po_iload hF dL_law_606 rfl ?_
  refine po_icmp_eq (tgt := 613) (A := some ()) (B := Option.none) (r := ()) hF dL_law_608 (by decide) (if_pos hk0) (fun _ => ?_) (fun hm => by cases hm)
  refine po_iload hF dL_law_613 rfl ?_
  by_cases hw : wk sIO w = 0
  · obtain ⟨x, rfl⟩ := wk_0 hw
    obtain rfl : v = x := hag.2
    refine po_if_ne (tgt := 630) (A := Option.none) (B := some ()) (r := ()) hF dL_law_615 (by decide) (if_pos hw) (fun hm => by cases hm) (fun _ => ?_)
    refine po_aload_n hF dL_law_618 rfl rfl ?_
    refine po_iconst (v := 0) hF dL_law_619 (by decide) ?_
    refine po_lald (v := v.toInt64) hF dL_law_620 HK.2.2.1 (by decide) (show po_u R (o + 836) 0 (.long v.toInt64) (o + 836) ((0 : Int32).toNatClampNeg) = _ by rw [show (0 : Int32).toNatClampNeg = 0 by decide]; exact po_uaa _ _ _ _) ?_
    refine po_iload hF dL_law_621 rfl ?_
    refine po_i2l hF dL_law_623 ?_
    refine po_lcmp (v := 0) hF dL_law_624 ((lg_cmp_eq _ _).mpr rfl) ?_
    refine po_if_eq (tgt := 630) (A := some ()) (B := Option.none) (r := ()) hF dL_law_625 (by decide) (if_pos rfl) (fun _ => ?_) (fun hm => by cases hm)
    refine po_goto (tgt := 1939) hF dL_law_630 (by decide) ?_
    refine po_sub (L' := lwL b o (Int32.ofNat (4 * j))) rfl ?_
    refine po_widen (k' := k + 8) (n' := n + 100) (by omega) (by omega) ?_
    exact kk _ _ HL2 hin2
  · refine po_if_ne (tgt := 630) (A := some ()) (B := Option.none) (r := ()) hF dL_law_615 (by decide) (if_neg hw) (fun _ => ?_) (fun hm => by cases hm)
    refine po_goto (tgt := 1939) hF dL_law_630 (by decide) ?_
    refine po_sub (L' := lwL b o (Int32.ofNat (4 * j))) rfl ?_
    refine po_widen (k' := k + 8) (n' := n + 100) (by omega) (by omega) ?_
    exact kk _ _ HL2 hin2
theorem lc_permit (C : lwX X G st b Ls xs) (HK : lwK K o) (HL : po_Lay K R st) (hI : pInv I R o (o + 828) st j) (hj : 4 * j + 3 < Ls) (hLs : Ls ≤ 2048) (hk : k + 8 ≤ 603072) (hn : n + 100 ≤ 7202922) (kk : ∀ R' I', po_Lay K R' st → pInv I' R' o (o + 828) st (j + 1) → po_V X G 8 Q (k + 8) (n + 100) 1939 (lwL b o (Int32.ofNat (4 * j))) [] K R' I' none) : po_V X G 8 Q k n 633 (lwL b o (Int32.ofNat (4 * j))) [] K R I none := by
  have hF := C.1
  obtain ⟨w, v, I2, h1, h2, hag, hscr⟩ := L_permit hI (xs (4 * j + 1)) (xs (4 * j + 2))
  have hin := (hscr.inv hI).up
  have hE := pAg_E hag
  have hk0 := pAg_wk hag (by decide +kernel)
  have HL1 : po_Lay K R st := HL
  have HL2 : po_Lay K (wR R (o + 836) w) st := ly_wR HL1 HK.2.2.1 w
  have hin2 : pInv I2 (wR R (o + 836) w) o (o + 828) st (j + 1) := pInv_R hin (wR_at _ _ _)
  refine po_aload_n hF dL_law_633 rfl rfl ?_
  refine lw_arg (ti := 1) (t := 1) (m := 4 * j) C rfl rfl dL_law_634 dL_law_635 dL_law_637 dL_law_638 dL_law_639 (by decide) (by omega) hLs ?_
  refine lw_arg (ti := 2) (t := 2) (m := 4 * j) C rfl rfl dL_law_640 dL_law_641 dL_law_643 dL_law_644 dL_law_645 (by decide) (by omega) hLs ?_
  refine po_aload_n hF dL_law_646 rfl rfl ?_
  refine po_callSW (As := [.ref o, .int (xs (4 * j + 1)), .int (xs (4 * j + 2)), .ref (o + 836)]) (S := []) (v := (wk sIO w)) (R' := wR R (o + 836) w) (I' := I) hF dL_law_647 wq_852 mw_L_permit (w_permit HL HK.1 HK.2.2.1 h1 hE) rfl (lw_rt C (by decide) (by decide) (by omega) (by omega)) (Nat.le_of_ble_eq_true rfl) rfl ?_
  refine po_istore hF dL_law_650 (by decide) rfl ?_
  refine po_aload_n hF dL_law_652 rfl rfl ?_
  refine lw_arg (ti := 1) (t := 1) (m := 4 * j) C rfl rfl dL_law_653 dL_law_654 dL_law_656 dL_law_657 dL_law_658 (by decide) (by omega) hLs ?_
  refine lw_arg (ti := 2) (t := 2) (m := 4 * j) C rfl rfl dL_law_659 dL_law_660 dL_law_662 dL_law_663 dL_law_664 (by decide) (by omega) hLs ?_
  refine po_callV (As := [.int (xs (4 * j + 1)), .int (xs (4 * j + 2))]) (S := []) (c := 8) (v := some (.int v)) (K' := K) (R' := wR R (o + 836) w) (I' := I2) (z' := none) hF dL_law_665 wq_1509 mv_X8_permit ws_X8_permit rfl rfl HK.2.1 (c_X8_permit HL2 HK.2.1 h2) rfl (lw_rt C (by decide) (by decide) (by omega) (by omega)) (Nat.le_of_ble_eq_true rfl) rfl ?_
  refine po_istore hF dL_law_668 (by decide) rfl ?_
  refine po_aload_n hF dL_law_670 rfl rfl ?_
  refine po_callV (As := []) (S := []) (c := 8) (v := some (.int (I2 (o + 828) 0))) (K' := K) (R' := wR R (o + 836) w) (I' := I2) (z' := none) hF dL_law_671 wq_1209 mv_X8_thrown ws_X8_thrown rfl rfl HK.2.1 (c_X8_thrown HL2 HK.2.1 (ρ := I2 (o + 828) 0) rfl) rfl (lw_rt C (by decide) (by decide) (by omega) (by omega)) (Nat.le_of_ble_eq_true rfl) rfl ?_
  refine po_iload hF dL_law_674 rfl ?_
  refine po_icmp_eq (tgt := 681) (A := some ()) (B := Option.none) (r := ()) hF dL_law_676 (by decide) (if_pos hk0) (fun _ => ?_) (fun hm => by cases hm)
  refine po_iload hF dL_law_681 rfl ?_
  by_cases hw : wk sIO w = 0
  · obtain ⟨x, rfl⟩ := wk_0 hw
    obtain rfl : v = x := hag.2
    refine po_if_ne (tgt := 698) (A := Option.none) (B := some ()) (r := ()) hF dL_law_683 (by decide) (if_pos hw) (fun hm => by cases hm) (fun _ => ?_)
    refine po_aload_n hF dL_law_686 rfl rfl ?_
    refine po_iconst (v := 0) hF dL_law_687 (by decide) ?_
    refine po_lald (v := v.toInt64) hF dL_law_688 HK.2.2.1 (by decide) (show po_u R (o + 836) 0 (.long v.toInt64) (o + 836) ((0 : Int32).toNatClampNeg) = _ by rw [show (0 : Int32).toNatClampNeg = 0 by decide]; exact po_uaa _ _ _ _) ?_
    refine po_iload hF dL_law_689 rfl ?_
    refine po_i2l hF dL_law_691 ?_
    refine po_lcmp (v := 0) hF dL_law_692 ((lg_cmp_eq _ _).mpr rfl) ?_
    refine po_if_eq (tgt := 698) (A := some ()) (B := Option.none) (r := ()) hF dL_law_693 (by decide) (if_pos rfl) (fun _ => ?_) (fun hm => by cases hm)
    refine po_goto (tgt := 1939) hF dL_law_698 (by decide) ?_
    refine po_sub (L' := lwL b o (Int32.ofNat (4 * j))) rfl ?_
    refine po_widen (k' := k + 8) (n' := n + 100) (by omega) (by omega) ?_
    exact kk _ _ HL2 hin2
  · refine po_if_ne (tgt := 698) (A := some ()) (B := Option.none) (r := ()) hF dL_law_683 (by decide) (if_neg hw) (fun _ => ?_) (fun hm => by cases hm)
    refine po_goto (tgt := 1939) hF dL_law_698 (by decide) ?_
    refine po_sub (L' := lwL b o (Int32.ofNat (4 * j))) rfl ?_
    refine po_widen (k' := k + 8) (n' := n + 100) (by omega) (by omega) ?_
    exact kk _ _ HL2 hin2
theorem lc_findings (C : lwX X G st b Ls xs) (HK : lwK K o) (HL : po_Lay K R st) (hI : pInv I R o (o + 828) st j) (hj : 4 * j + 3 < Ls) (hLs : Ls ≤ 2048) (hk : k + 8 ≤ 603072) (hn : n + 100 ≤ 7202922) (kk : ∀ R' I', po_Lay K R' st → pInv I' R' o (o + 828) st (j + 1) → po_V X G 8 Q (k + 8) (n + 100) 1939 (lwL b o (Int32.ofNat (4 * j))) [] K R' I' none) : po_V X G 8 Q k n 701 (lwL b o (Int32.ofNat (4 * j))) [] K R I none := by
  have hF := C.1
  by_cases hb : xs (4 * j + 2) = 0
  · skip
    obtain ⟨w, I1, v, I2, h1, h2, hag, hscr⟩ := L_findings hI (xs (4 * j + 1)) 0
    have hin := (hscr.inv hI).up
    have hE : ∀ E, w = .inr E → E = sIO := fun E hE => ne_findings _ _ _ h1 E hE
    have hk0 := pAg_wk hag (by decide +kernel)
    have HL1 : po_Lay K R st := HL
    have HL2 : po_Lay K (wR R (o + 836) w) st := ly_wR HL1 HK.2.2.1 w
    have hin2 : pInv I2 (wR R (o + 836) w) o (o + 828) st (j + 1) := pInv_R hin (wR_at _ _ _)
    refine po_aload_n hF dL_law_701 rfl rfl ?_
    refine lw_arg (ti := 1) (t := 1) (m := 4 * j) C rfl rfl dL_law_702 dL_law_703 dL_law_705 dL_law_706 dL_law_707 (by decide) (by omega) hLs ?_
    refine lw_arg (ti := 2) (t := 2) (m := 4 * j) C rfl rfl dL_law_708 dL_law_709 dL_law_711 dL_law_712 dL_law_713 (by decide) (by omega) hLs ?_
    refine po_if_eq (tgt := 721) (A := some ()) (B := Option.none) (r := ()) hF dL_law_714 (by decide) (if_pos hb) (fun _ => ?_) (fun hm => by cases hm)
    refine po_iconst (v := 0) hF dL_law_721 (by decide) ?_
    refine po_aload_n hF dL_law_722 rfl rfl ?_
    refine po_callSW (As := [.ref o, .int (xs (4 * j + 1)), .int 0, .ref (o + 836)]) (S := []) (v := (wk sIO w)) (R' := wR R (o + 836) w) (I' := I1) hF dL_law_723 wq_871 mw_L_findings (w_findings HL HK.1 HK.2.2.1 h1 hE) rfl (lw_rt C (by decide) (by decide) (by omega) (by omega)) (Nat.le_of_ble_eq_true rfl) rfl ?_
    refine po_istore hF dL_law_726 (by decide) rfl ?_
    refine po_aload_n hF dL_law_728 rfl rfl ?_
    refine lw_arg (ti := 1) (t := 1) (m := 4 * j) C rfl rfl dL_law_729 dL_law_730 dL_law_732 dL_law_733 dL_law_734 (by decide) (by omega) hLs ?_
    refine lw_arg (ti := 2) (t := 2) (m := 4 * j) C rfl rfl dL_law_735 dL_law_736 dL_law_738 dL_law_739 dL_law_740 (by decide) (by omega) hLs ?_
    refine po_if_eq (tgt := 748) (A := some ()) (B := Option.none) (r := ()) hF dL_law_741 (by decide) (if_pos hb) (fun _ => ?_) (fun hm => by cases hm)
    refine po_iconst (v := 0) hF dL_law_748 (by decide) ?_
    refine po_callV (As := [.int (xs (4 * j + 1)), .int 0]) (S := []) (c := 8) (v := some (.int v)) (K' := K) (R' := wR R (o + 836) w) (I' := I2) (z' := none) hF dL_law_749 wq_1525 mv_X8_findings ws_X8_findings rfl rfl HK.2.1 (c_X8_findings HL2 HK.2.1 h2) rfl (lw_rt C (by decide) (by decide) (by omega) (by omega)) (Nat.le_of_ble_eq_true rfl) rfl ?_
    refine po_istore hF dL_law_752 (by decide) rfl ?_
    refine po_aload_n hF dL_law_754 rfl rfl ?_
    refine po_callV (As := []) (S := []) (c := 8) (v := some (.int (I2 (o + 828) 0))) (K' := K) (R' := wR R (o + 836) w) (I' := I2) (z' := none) hF dL_law_755 wq_1209 mv_X8_thrown ws_X8_thrown rfl rfl HK.2.1 (c_X8_thrown HL2 HK.2.1 (ρ := I2 (o + 828) 0) rfl) rfl (lw_rt C (by decide) (by decide) (by omega) (by omega)) (Nat.le_of_ble_eq_true rfl) rfl ?_
    refine po_iload hF dL_law_758 rfl ?_
    refine po_icmp_eq (tgt := 765) (A := some ()) (B := Option.none) (r := ()) hF dL_law_760 (by decide) (if_pos hk0) (fun _ => ?_) (fun hm => by cases hm)
    refine po_iload hF dL_law_765 rfl ?_
    by_cases hw : wk sIO w = 0
    · obtain ⟨x, rfl⟩ := wk_0 hw
      obtain rfl : v = x := hag.2
      refine po_if_ne (tgt := 782) (A := Option.none) (B := some ()) (r := ()) hF dL_law_767 (by decide) (if_pos hw) (fun hm => by cases hm) (fun _ => ?_)
      refine po_aload_n hF dL_law_770 rfl rfl ?_
      refine po_iconst (v := 0) hF dL_law_771 (by decide) ?_
      refine po_lald (v := v.toInt64) hF dL_law_772 HK.2.2.1 (by decide) (show po_u R (o + 836) 0 (.long v.toInt64) (o + 836) ((0 : Int32).toNatClampNeg) = _ by rw [show (0 : Int32).toNatClampNeg = 0 by decide]; exact po_uaa _ _ _ _) ?_
      refine po_iload hF dL_law_773 rfl ?_
      refine po_i2l hF dL_law_775 ?_
      refine po_lcmp (v := 0) hF dL_law_776 ((lg_cmp_eq _ _).mpr rfl) ?_
      refine po_if_eq (tgt := 782) (A := some ()) (B := Option.none) (r := ()) hF dL_law_777 (by decide) (if_pos rfl) (fun _ => ?_) (fun hm => by cases hm)
      refine po_goto (tgt := 1939) hF dL_law_782 (by decide) ?_
      refine po_sub (L' := lwL b o (Int32.ofNat (4 * j))) rfl ?_
      refine po_widen (k' := k + 8) (n' := n + 100) (by omega) (by omega) ?_
      exact kk _ _ HL2 hin2
    · refine po_if_ne (tgt := 782) (A := some ()) (B := Option.none) (r := ()) hF dL_law_767 (by decide) (if_neg hw) (fun _ => ?_) (fun hm => by cases hm)
      refine po_goto (tgt := 1939) hF dL_law_782 (by decide) ?_
      refine po_sub (L' := lwL b o (Int32.ofNat (4 * j))) rfl ?_
      refine po_widen (k' := k + 8) (n' := n + 100) (by omega) (by omega) ?_
      exact kk _ _ HL2 hin2
  · skip
    obtain ⟨w, I1, v, I2, h1, h2, hag, hscr⟩ := L_findings hI (xs (4 * j + 1)) 1
    have hin := (hscr.inv hI).up
    have hE : ∀ E, w = .inr E → E = sIO := fun E hE => ne_findings _ _ _ h1 E hE
    have hk0 := pAg_wk hag (by decide +kernel)
    have HL1 : po_Lay K R st := HL
    have HL2 : po_Lay K (wR R (o + 836) w) st := ly_wR HL1 HK.2.2.1 w
    have hin2 : pInv I2 (wR R (o + 836) w) o (o + 828) st (j + 1) := pInv_R hin (wR_at _ _ _)
    refine po_aload_n hF dL_law_701 rfl rfl ?_
    refine lw_arg (ti := 1) (t := 1) (m := 4 * j) C rfl rfl dL_law_702 dL_law_703 dL_law_705 dL_law_706 dL_law_707 (by decide) (by omega) hLs ?_
    refine lw_arg (ti := 2) (t := 2) (m := 4 * j) C rfl rfl dL_law_708 dL_law_709 dL_law_711 dL_law_712 dL_law_713 (by decide) (by omega) hLs ?_
    refine po_if_eq (tgt := 721) (A := Option.none) (B := some ()) (r := ()) hF dL_law_714 (by decide) (if_neg hb) (fun hm => by cases hm) (fun _ => ?_)
    refine po_iconst (v := 1) hF dL_law_717 (by decide) ?_
    refine po_goto (tgt := 722) hF dL_law_718 (by decide) ?_
    refine po_aload_n hF dL_law_722 rfl rfl ?_
    refine po_callSW (As := [.ref o, .int (xs (4 * j + 1)), .int 1, .ref (o + 836)]) (S := []) (v := (wk sIO w)) (R' := wR R (o + 836) w) (I' := I1) hF dL_law_723 wq_871 mw_L_findings (w_findings HL HK.1 HK.2.2.1 h1 hE) rfl (lw_rt C (by decide) (by decide) (by omega) (by omega)) (Nat.le_of_ble_eq_true rfl) rfl ?_
    refine po_istore hF dL_law_726 (by decide) rfl ?_
    refine po_aload_n hF dL_law_728 rfl rfl ?_
    refine lw_arg (ti := 1) (t := 1) (m := 4 * j) C rfl rfl dL_law_729 dL_law_730 dL_law_732 dL_law_733 dL_law_734 (by decide) (by omega) hLs ?_
    refine lw_arg (ti := 2) (t := 2) (m := 4 * j) C rfl rfl dL_law_735 dL_law_736 dL_law_738 dL_law_739 dL_law_740 (by decide) (by omega) hLs ?_
    refine po_if_eq (tgt := 748) (A := Option.none) (B := some ()) (r := ()) hF dL_law_741 (by decide) (if_neg hb) (fun hm => by cases hm) (fun _ => ?_)
    refine po_iconst (v := 1) hF dL_law_744 (by decide) ?_
    refine po_goto (tgt := 749) hF dL_law_745 (by decide) ?_
    refine po_callV (As := [.int (xs (4 * j + 1)), .int 1]) (S := []) (c := 8) (v := some (.int v)) (K' := K) (R' := wR R (o + 836) w) (I' := I2) (z' := none) hF dL_law_749 wq_1525 mv_X8_findings ws_X8_findings rfl rfl HK.2.1 (c_X8_findings HL2 HK.2.1 h2) rfl (lw_rt C (by decide) (by decide) (by omega) (by omega)) (Nat.le_of_ble_eq_true rfl) rfl ?_
    refine po_istore hF dL_law_752 (by decide) rfl ?_
    refine po_aload_n hF dL_law_754 rfl rfl ?_
    refine po_callV (As := []) (S := []) (c := 8) (v := some (.int (I2 (o + 828) 0))) (K' := K) (R' := wR R (o + 836) w) (I' := I2) (z' := none) hF dL_law_755 wq_1209 mv_X8_thrown ws_X8_thrown rfl rfl HK.2.1 (c_X8_thrown HL2 HK.2.1 (ρ := I2 (o + 828) 0) rfl) rfl (lw_rt C (by decide) (by decide) (by omega) (by omega)) (Nat.le_of_ble_eq_true rfl) rfl ?_
    refine po_iload hF dL_law_758 rfl ?_
    refine po_icmp_eq (tgt := 765) (A := some ()) (B := Option.none) (r := ()) hF dL_law_760 (by decide) (if_pos hk0) (fun _ => ?_) (fun hm => by cases hm)
    refine po_iload hF dL_law_765 rfl ?_
    by_cases hw : wk sIO w = 0
    · obtain ⟨x, rfl⟩ := wk_0 hw
      obtain rfl : v = x := hag.2
      refine po_if_ne (tgt := 782) (A := Option.none) (B := some ()) (r := ()) hF dL_law_767 (by decide) (if_pos hw) (fun hm => by cases hm) (fun _ => ?_)
      refine po_aload_n hF dL_law_770 rfl rfl ?_
      refine po_iconst (v := 0) hF dL_law_771 (by decide) ?_
      refine po_lald (v := v.toInt64) hF dL_law_772 HK.2.2.1 (by decide) (show po_u R (o + 836) 0 (.long v.toInt64) (o + 836) ((0 : Int32).toNatClampNeg) = _ by rw [show (0 : Int32).toNatClampNeg = 0 by decide]; exact po_uaa _ _ _ _) ?_
      refine po_iload hF dL_law_773 rfl ?_
      refine po_i2l hF dL_law_775 ?_
      refine po_lcmp (v := 0) hF dL_law_776 ((lg_cmp_eq _ _).mpr rfl) ?_
      refine po_if_eq (tgt := 782) (A := some ()) (B := Option.none) (r := ()) hF dL_law_777 (by decide) (if_pos rfl) (fun _ => ?_) (fun hm => by cases hm)
      refine po_goto (tgt := 1939) hF dL_law_782 (by decide) ?_
      refine po_sub (L' := lwL b o (Int32.ofNat (4 * j))) rfl ?_
      refine po_widen (k' := k + 8) (n' := n + 100) (by omega) (by omega) ?_
      exact kk _ _ HL2 hin2
    · refine po_if_ne (tgt := 782) (A := some ()) (B := Option.none) (r := ()) hF dL_law_767 (by decide) (if_neg hw) (fun _ => ?_) (fun hm => by cases hm)
      refine po_goto (tgt := 1939) hF dL_law_782 (by decide) ?_
      refine po_sub (L' := lwL b o (Int32.ofNat (4 * j))) rfl ?_
      refine po_widen (k' := k + 8) (n' := n + 100) (by omega) (by omega) ?_
      exact kk _ _ HL2 hin2
theorem lc_finding (C : lwX X G st b Ls xs) (HK : lwK K o) (HL : po_Lay K R st) (hI : pInv I R o (o + 828) st j) (hj : 4 * j + 3 < Ls) (hLs : Ls ≤ 2048) (hk : k + 8 ≤ 603072) (hn : n + 100 ≤ 7202922) (kk : ∀ R' I', po_Lay K R' st → pInv I' R' o (o + 828) st (j + 1) → po_V X G 8 Q (k + 8) (n + 100) 1939 (lwL b o (Int32.ofNat (4 * j))) [] K R' I' none) : po_V X G 8 Q k n 785 (lwL b o (Int32.ofNat (4 * j))) [] K R I none := by
  have hF := C.1
  obtain ⟨w, I1, v, I2, h1, h2, hag, hscr⟩ := L_finding hI (xs (4 * j + 1)) (xs (4 * j + 2)) (xs (4 * j + 3))
  have hin := (hscr.inv hI).up
  have hE := pAg_E hag
  have hk0 := pAg_wk hag (by decide +kernel)
  have HL1 : po_Lay K R st := HL
  have HL2 : po_Lay K (wR R (o + 836) w) st := ly_wR HL1 HK.2.2.1 w
  have hin2 : pInv I2 (wR R (o + 836) w) o (o + 828) st (j + 1) := pInv_R hin (wR_at _ _ _)
  refine po_aload_n hF dL_law_785 rfl rfl ?_
  refine lw_arg (ti := 1) (t := 1) (m := 4 * j) C rfl rfl dL_law_786 dL_law_787 dL_law_789 dL_law_790 dL_law_791 (by decide) (by omega) hLs ?_
  refine lw_arg (ti := 2) (t := 2) (m := 4 * j) C rfl rfl dL_law_792 dL_law_793 dL_law_795 dL_law_796 dL_law_797 (by decide) (by omega) hLs ?_
  refine lw_arg (ti := 3) (t := 3) (m := 4 * j) C rfl rfl dL_law_798 dL_law_799 dL_law_801 dL_law_802 dL_law_803 (by decide) (by omega) hLs ?_
  refine po_aload_n hF dL_law_804 rfl rfl ?_
  refine po_callSW (As := [.ref o, .int (xs (4 * j + 1)), .int (xs (4 * j + 2)), .int (xs (4 * j + 3)), .ref (o + 836)]) (S := []) (v := (wk sIO w)) (R' := wR R (o + 836) w) (I' := I1) hF dL_law_805 wq_939 mw_L_finding (w_finding HL HK.1 HK.2.2.1 h1 hE) rfl (lw_rt C (by decide) (by decide) (by omega) (by omega)) (Nat.le_of_ble_eq_true rfl) rfl ?_
  refine po_istore hF dL_law_808 (by decide) rfl ?_
  refine po_aload_n hF dL_law_810 rfl rfl ?_
  refine lw_arg (ti := 1) (t := 1) (m := 4 * j) C rfl rfl dL_law_811 dL_law_812 dL_law_814 dL_law_815 dL_law_816 (by decide) (by omega) hLs ?_
  refine lw_arg (ti := 2) (t := 2) (m := 4 * j) C rfl rfl dL_law_817 dL_law_818 dL_law_820 dL_law_821 dL_law_822 (by decide) (by omega) hLs ?_
  refine lw_arg (ti := 3) (t := 3) (m := 4 * j) C rfl rfl dL_law_823 dL_law_824 dL_law_826 dL_law_827 dL_law_828 (by decide) (by omega) hLs ?_
  refine po_callV (As := [.int (xs (4 * j + 1)), .int (xs (4 * j + 2)), .int (xs (4 * j + 3))]) (S := []) (c := 8) (v := some (.int v)) (K' := K) (R' := wR R (o + 836) w) (I' := I2) (z' := none) hF dL_law_829 wq_1570 mv_X8_finding ws_X8_finding rfl rfl HK.2.1 (c_X8_finding HL2 HK.2.1 h2) rfl (lw_rt C (by decide) (by decide) (by omega) (by omega)) (Nat.le_of_ble_eq_true rfl) rfl ?_
  refine po_istore hF dL_law_832 (by decide) rfl ?_
  refine po_aload_n hF dL_law_834 rfl rfl ?_
  refine po_callV (As := []) (S := []) (c := 8) (v := some (.int (I2 (o + 828) 0))) (K' := K) (R' := wR R (o + 836) w) (I' := I2) (z' := none) hF dL_law_835 wq_1209 mv_X8_thrown ws_X8_thrown rfl rfl HK.2.1 (c_X8_thrown HL2 HK.2.1 (ρ := I2 (o + 828) 0) rfl) rfl (lw_rt C (by decide) (by decide) (by omega) (by omega)) (Nat.le_of_ble_eq_true rfl) rfl ?_
  refine po_iload hF dL_law_838 rfl ?_
  refine po_icmp_eq (tgt := 845) (A := some ()) (B := Option.none) (r := ()) hF dL_law_840 (by decide) (if_pos hk0) (fun _ => ?_) (fun hm => by cases hm)
  refine po_iload hF dL_law_845 rfl ?_
  by_cases hw : wk sIO w = 0
  · obtain ⟨x, rfl⟩ := wk_0 hw
    obtain rfl : v = x := hag.2
    refine po_if_ne (tgt := 862) (A := Option.none) (B := some ()) (r := ()) hF dL_law_847 (by decide) (if_pos hw) (fun hm => by cases hm) (fun _ => ?_)
    refine po_aload_n hF dL_law_850 rfl rfl ?_
    refine po_iconst (v := 0) hF dL_law_851 (by decide) ?_
    refine po_lald (v := v.toInt64) hF dL_law_852 HK.2.2.1 (by decide) (show po_u R (o + 836) 0 (.long v.toInt64) (o + 836) ((0 : Int32).toNatClampNeg) = _ by rw [show (0 : Int32).toNatClampNeg = 0 by decide]; exact po_uaa _ _ _ _) ?_
    refine po_iload hF dL_law_853 rfl ?_
    refine po_i2l hF dL_law_855 ?_
    refine po_lcmp (v := 0) hF dL_law_856 ((lg_cmp_eq _ _).mpr rfl) ?_
    refine po_if_eq (tgt := 862) (A := some ()) (B := Option.none) (r := ()) hF dL_law_857 (by decide) (if_pos rfl) (fun _ => ?_) (fun hm => by cases hm)
    refine po_goto (tgt := 1939) hF dL_law_862 (by decide) ?_
    refine po_sub (L' := lwL b o (Int32.ofNat (4 * j))) rfl ?_
    refine po_widen (k' := k + 8) (n' := n + 100) (by omega) (by omega) ?_
    exact kk _ _ HL2 hin2
  · refine po_if_ne (tgt := 862) (A := some ()) (B := Option.none) (r := ()) hF dL_law_847 (by decide) (if_neg hw) (fun _ => ?_) (fun hm => by cases hm)
    refine po_goto (tgt := 1939) hF dL_law_862 (by decide) ?_
    refine po_sub (L' := lwL b o (Int32.ofNat (4 * j))) rfl ?_
    refine po_widen (k' := k + 8) (n' := n + 100) (by omega) (by omega) ?_
    exact kk _ _ HL2 hin2
theorem lc_worst (C : lwX X G st b Ls xs) (HK : lwK K o) (HL : po_Lay K R st) (hI : pInv I R o (o + 828) st j) (hj : 4 * j + 3 < Ls) (hLs : Ls ≤ 2048) (hk : k + 8 ≤ 603072) (hn : n + 100 ≤ 7202922) (kk : ∀ R' I', po_Lay K R' st → pInv I' R' o (o + 828) st (j + 1) → po_V X G 8 Q (k + 8) (n + 100) 1939 (lwL b o (Int32.ofNat (4 * j))) [] K R' I' none) : po_V X G 8 Q k n 865 (lwL b o (Int32.ofNat (4 * j))) [] K R I none := by
  have hF := C.1
  obtain ⟨w, I1, v, I2, h1, h2, hag, hscr⟩ := L_worst hI
  have hin := (hscr.inv hI).up
  have hE : ∀ E, w = .inr E → E = sNS := fun E hE => ne_worst _ h1 E hE
  have hk0 := pAg_wk hag (by decide +kernel)
  have HL1 : po_Lay K R st := HL
  have HL2 : po_Lay K (wR R (o + 836) w) st := ly_wR HL1 HK.2.2.1 w
  have hin2 : pInv I2 (wR R (o + 836) w) o (o + 828) st (j + 1) := pInv_R hin (wR_at _ _ _)
  refine po_aload_n hF dL_law_865 rfl rfl ?_
  refine po_aload_n hF dL_law_866 rfl rfl ?_
  refine po_callSW (As := [.ref o, .ref (o + 836)]) (S := []) (v := (wk sNS w)) (R' := wR R (o + 836) w) (I' := I1) hF dL_law_867 wq_951 mw_L_worst (w_worst HL HK.1 HK.2.2.1 h1 hE) rfl (lw_rt C (by decide) (by decide) (by omega) (by omega)) (Nat.le_of_ble_eq_true rfl) rfl ?_
  refine po_istore hF dL_law_870 (by decide) rfl ?_
  refine po_aload_n hF dL_law_872 rfl rfl ?_
  refine po_callV (As := []) (S := []) (c := 8) (v := some (.int v)) (K' := K) (R' := wR R (o + 836) w) (I' := I2) (z' := none) hF dL_law_873 wq_1574 mv_X8_worst ws_X8_worst rfl rfl HK.2.1 (c_X8_worst HL2 HK.2.1 h2) rfl (lw_rt C (by decide) (by decide) (by omega) (by omega)) (Nat.le_of_ble_eq_true rfl) rfl ?_
  refine po_istore hF dL_law_876 (by decide) rfl ?_
  refine po_aload_n hF dL_law_878 rfl rfl ?_
  refine po_callV (As := []) (S := []) (c := 8) (v := some (.int (I2 (o + 828) 0))) (K' := K) (R' := wR R (o + 836) w) (I' := I2) (z' := none) hF dL_law_879 wq_1209 mv_X8_thrown ws_X8_thrown rfl rfl HK.2.1 (c_X8_thrown HL2 HK.2.1 (ρ := I2 (o + 828) 0) rfl) rfl (lw_rt C (by decide) (by decide) (by omega) (by omega)) (Nat.le_of_ble_eq_true rfl) rfl ?_
  refine po_iload hF dL_law_882 rfl ?_
  refine po_icmp_eq (tgt := 889) (A := some ()) (B := Option.none) (r := ()) hF dL_law_884 (by decide) (if_pos hk0) (fun _ => ?_) (fun hm => by cases hm)
  refine po_iload hF dL_law_889 rfl ?_
  by_cases hw : wk sNS w = 0
  · obtain ⟨x, rfl⟩ := wk_0 hw
    obtain rfl : v = x := hag.2
    refine po_if_ne (tgt := 906) (A := Option.none) (B := some ()) (r := ()) hF dL_law_891 (by decide) (if_pos hw) (fun hm => by cases hm) (fun _ => ?_)
    refine po_aload_n hF dL_law_894 rfl rfl ?_
    refine po_iconst (v := 0) hF dL_law_895 (by decide) ?_
    refine po_lald (v := v.toInt64) hF dL_law_896 HK.2.2.1 (by decide) (show po_u R (o + 836) 0 (.long v.toInt64) (o + 836) ((0 : Int32).toNatClampNeg) = _ by rw [show (0 : Int32).toNatClampNeg = 0 by decide]; exact po_uaa _ _ _ _) ?_
    refine po_iload hF dL_law_897 rfl ?_
    refine po_i2l hF dL_law_899 ?_
    refine po_lcmp (v := 0) hF dL_law_900 ((lg_cmp_eq _ _).mpr rfl) ?_
    refine po_if_eq (tgt := 906) (A := some ()) (B := Option.none) (r := ()) hF dL_law_901 (by decide) (if_pos rfl) (fun _ => ?_) (fun hm => by cases hm)
    refine po_goto (tgt := 1939) hF dL_law_906 (by decide) ?_
    refine po_sub (L' := lwL b o (Int32.ofNat (4 * j))) rfl ?_
    refine po_widen (k' := k + 8) (n' := n + 100) (by omega) (by omega) ?_
    exact kk _ _ HL2 hin2
  · refine po_if_ne (tgt := 906) (A := some ()) (B := Option.none) (r := ()) hF dL_law_891 (by decide) (if_neg hw) (fun _ => ?_) (fun hm => by cases hm)
    refine po_goto (tgt := 1939) hF dL_law_906 (by decide) ?_
    refine po_sub (L' := lwL b o (Int32.ofNat (4 * j))) rfl ?_
    refine po_widen (k' := k + 8) (n' := n + 100) (by omega) (by omega) ?_
    exact kk _ _ HL2 hin2
theorem lc_decide (C : lwX X G st b Ls xs) (HK : lwK K o) (HL : po_Lay K R st) (hI : pInv I R o (o + 828) st j) (hj : 4 * j + 3 < Ls) (hLs : Ls ≤ 2048) (hk : k + 8 ≤ 603072) (hn : n + 100 ≤ 7202922) (kk : ∀ R' I', po_Lay K R' st → pInv I' R' o (o + 828) st (j + 1) → po_V X G 8 Q (k + 8) (n + 100) 1939 (lwL b o (Int32.ofNat (4 * j))) [] K R' I' none) : po_V X G 8 Q k n 909 (lwL b o (Int32.ofNat (4 * j))) [] K R I none := by
  have hF := C.1
  obtain ⟨w, I1, R1, v, I2, h1, h2, hag, hin⟩ := L_decide hI (by omega) (xs (4 * j + 1))
  have hE := pAg_E hag
  have hk0 := pAg_wk hag (by decide +kernel)
  have HL1 : po_Lay K R1 st := kl_decide HL HK.1 _ _ h1
  have HL2 : po_Lay K (wR R1 (o + 836) w) st := ly_wR HL1 HK.2.2.1 w
  have hin2 : pInv I2 (wR R1 (o + 836) w) o (o + 828) st (j + 1) := pInv_R hin (wR_at _ _ _)
  refine po_aload_n hF dL_law_909 rfl rfl ?_
  refine lw_arg (ti := 1) (t := 1) (m := 4 * j) C rfl rfl dL_law_910 dL_law_911 dL_law_913 dL_law_914 dL_law_915 (by decide) (by omega) hLs ?_
  refine po_aload_n hF dL_law_916 rfl rfl ?_
  refine po_callSW (As := [.ref o, .int (xs (4 * j + 1)), .ref (o + 836)]) (S := []) (v := (wk sIO w)) (R' := wR R1 (o + 836) w) (I' := I1) hF dL_law_917 wq_982 mw_L_decide (w_decide HL HK.1 HK.2.2.1 h1 hE) rfl (lw_rt C (by decide) (by decide) (by omega) (by omega)) (Nat.le_of_ble_eq_true rfl) rfl ?_
  refine po_istore hF dL_law_920 (by decide) rfl ?_
  refine po_aload_n hF dL_law_922 rfl rfl ?_
  refine lw_arg (ti := 1) (t := 1) (m := 4 * j) C rfl rfl dL_law_923 dL_law_924 dL_law_926 dL_law_927 dL_law_928 (by decide) (by omega) hLs ?_
  refine po_callV (As := [.int (xs (4 * j + 1))]) (S := []) (c := 8) (v := some (.int v)) (K' := K) (R' := wR R1 (o + 836) w) (I' := I2) (z' := none) hF dL_law_929 wq_1581 mv_X8_decide ws_X8_decide rfl rfl HK.2.1 (c_X8_decide HL2 HK.2.1 h2) rfl (lw_rt C (by decide) (by decide) (by omega) (by omega)) (Nat.le_of_ble_eq_true rfl) rfl ?_
  refine po_istore hF dL_law_932 (by decide) rfl ?_
  refine po_aload_n hF dL_law_934 rfl rfl ?_
  refine po_callV (As := []) (S := []) (c := 8) (v := some (.int (I2 (o + 828) 0))) (K' := K) (R' := wR R1 (o + 836) w) (I' := I2) (z' := none) hF dL_law_935 wq_1209 mv_X8_thrown ws_X8_thrown rfl rfl HK.2.1 (c_X8_thrown HL2 HK.2.1 (ρ := I2 (o + 828) 0) rfl) rfl (lw_rt C (by decide) (by decide) (by omega) (by omega)) (Nat.le_of_ble_eq_true rfl) rfl ?_
  refine po_iload hF dL_law_938 rfl ?_
  refine po_icmp_eq (tgt := 945) (A := some ()) (B := Option.none) (r := ()) hF dL_law_940 (by decide) (if_pos hk0) (fun _ => ?_) (fun hm => by cases hm)
  refine po_iload hF dL_law_945 rfl ?_
  by_cases hw : wk sIO w = 0
  · obtain ⟨x, rfl⟩ := wk_0 hw
    obtain rfl : v = x := hag.2
    refine po_if_ne (tgt := 962) (A := Option.none) (B := some ()) (r := ()) hF dL_law_947 (by decide) (if_pos hw) (fun hm => by cases hm) (fun _ => ?_)
    refine po_aload_n hF dL_law_950 rfl rfl ?_
    refine po_iconst (v := 0) hF dL_law_951 (by decide) ?_
    refine po_lald (v := v.toInt64) hF dL_law_952 HK.2.2.1 (by decide) (show po_u R1 (o + 836) 0 (.long v.toInt64) (o + 836) ((0 : Int32).toNatClampNeg) = _ by rw [show (0 : Int32).toNatClampNeg = 0 by decide]; exact po_uaa _ _ _ _) ?_
    refine po_iload hF dL_law_953 rfl ?_
    refine po_i2l hF dL_law_955 ?_
    refine po_lcmp (v := 0) hF dL_law_956 ((lg_cmp_eq _ _).mpr rfl) ?_
    refine po_if_eq (tgt := 962) (A := some ()) (B := Option.none) (r := ()) hF dL_law_957 (by decide) (if_pos rfl) (fun _ => ?_) (fun hm => by cases hm)
    refine po_goto (tgt := 1939) hF dL_law_962 (by decide) ?_
    refine po_sub (L' := lwL b o (Int32.ofNat (4 * j))) rfl ?_
    refine po_widen (k' := k + 8) (n' := n + 100) (by omega) (by omega) ?_
    exact kk _ _ HL2 hin2
  · refine po_if_ne (tgt := 962) (A := some ()) (B := Option.none) (r := ()) hF dL_law_947 (by decide) (if_neg hw) (fun _ => ?_) (fun hm => by cases hm)
    refine po_goto (tgt := 1939) hF dL_law_962 (by decide) ?_
    refine po_sub (L' := lwL b o (Int32.ofNat (4 * j))) rfl ?_
    refine po_widen (k' := k + 8) (n' := n + 100) (by omega) (by omega) ?_
    exact kk _ _ HL2 hin2
theorem lc_reason (C : lwX X G st b Ls xs) (HK : lwK K o) (HL : po_Lay K R st) (hI : pInv I R o (o + 828) st j) (hj : 4 * j + 3 < Ls) (hLs : Ls ≤ 2048) (hk : k + 8 ≤ 603072) (hn : n + 100 ≤ 7202922) (kk : ∀ R' I', po_Lay K R' st → pInv I' R' o (o + 828) st (j + 1) → po_V X G 8 Q (k + 8) (n + 100) 1939 (lwL b o (Int32.ofNat (4 * j))) [] K R' I' none) : po_V X G 8 Q k n 965 (lwL b o (Int32.ofNat (4 * j))) [] K R I none := by
  have hF := C.1
  obtain ⟨w, v, I2, h1, h2, hag, hscr⟩ := L_reason hI (xs (4 * j + 1))
  have hin := (hscr.inv hI).up
  have hE := pAg_E hag
  have hk0 := pAg_wk hag (by decide +kernel)
  have HL1 : po_Lay K R st := HL
  have HL2 : po_Lay K (wR R (o + 836) w) st := ly_wR HL1 HK.2.2.1 w
  have hin2 : pInv I2 (wR R (o + 836) w) o (o + 828) st (j + 1) := pInv_R hin (wR_at _ _ _)
  refine po_aload_n hF dL_law_965 rfl rfl ?_
  refine lw_arg (ti := 1) (t := 1) (m := 4 * j) C rfl rfl dL_law_966 dL_law_967 dL_law_969 dL_law_970 dL_law_971 (by decide) (by omega) hLs ?_
  refine po_aload_n hF dL_law_972 rfl rfl ?_
  refine po_callSW (As := [.ref o, .int (xs (4 * j + 1)), .ref (o + 836)]) (S := []) (v := (wk sIO w)) (R' := wR R (o + 836) w) (I' := I) hF dL_law_973 wq_1006 mw_L_reason (w_reason HL HK.1 HK.2.2.1 h1 hE) rfl (lw_rt C (by decide) (by decide) (by omega) (by omega)) (Nat.le_of_ble_eq_true rfl) rfl ?_
  refine po_istore hF dL_law_976 (by decide) rfl ?_
  refine po_aload_n hF dL_law_978 rfl rfl ?_
  refine lw_arg (ti := 1) (t := 1) (m := 4 * j) C rfl rfl dL_law_979 dL_law_980 dL_law_982 dL_law_983 dL_law_984 (by decide) (by omega) hLs ?_
  refine po_callV (As := [.int (xs (4 * j + 1))]) (S := []) (c := 8) (v := some (.int v)) (K' := K) (R' := wR R (o + 836) w) (I' := I2) (z' := none) hF dL_law_985 wq_1596 mv_X8_reason ws_X8_reason rfl rfl HK.2.1 (c_X8_reason HL2 HK.2.1 h2) rfl (lw_rt C (by decide) (by decide) (by omega) (by omega)) (Nat.le_of_ble_eq_true rfl) rfl ?_
  refine po_istore hF dL_law_988 (by decide) rfl ?_
  refine po_aload_n hF dL_law_990 rfl rfl ?_
  refine po_callV (As := []) (S := []) (c := 8) (v := some (.int (I2 (o + 828) 0))) (K' := K) (R' := wR R (o + 836) w) (I' := I2) (z' := none) hF dL_law_991 wq_1209 mv_X8_thrown ws_X8_thrown rfl rfl HK.2.1 (c_X8_thrown HL2 HK.2.1 (ρ := I2 (o + 828) 0) rfl) rfl (lw_rt C (by decide) (by decide) (by omega) (by omega)) (Nat.le_of_ble_eq_true rfl) rfl ?_
  refine po_iload hF dL_law_994 rfl ?_
  refine po_icmp_eq (tgt := 1001) (A := some ()) (B := Option.none) (r := ()) hF dL_law_996 (by decide) (if_pos hk0) (fun _ => ?_) (fun hm => by cases hm)
  refine po_iload hF dL_law_1001 rfl ?_
  by_cases hw : wk sIO w = 0
  · obtain ⟨x, rfl⟩ := wk_0 hw
    obtain rfl : v = x := hag.2
    refine po_if_ne (tgt := 1018) (A := Option.none) (B := some ()) (r := ()) hF dL_law_1003 (by decide) (if_pos hw) (fun hm => by cases hm) (fun _ => ?_)
    refine po_aload_n hF dL_law_1006 rfl rfl ?_
    refine po_iconst (v := 0) hF dL_law_1007 (by decide) ?_
    refine po_lald (v := v.toInt64) hF dL_law_1008 HK.2.2.1 (by decide) (show po_u R (o + 836) 0 (.long v.toInt64) (o + 836) ((0 : Int32).toNatClampNeg) = _ by rw [show (0 : Int32).toNatClampNeg = 0 by decide]; exact po_uaa _ _ _ _) ?_
    refine po_iload hF dL_law_1009 rfl ?_
    refine po_i2l hF dL_law_1011 ?_
    refine po_lcmp (v := 0) hF dL_law_1012 ((lg_cmp_eq _ _).mpr rfl) ?_
    refine po_if_eq (tgt := 1018) (A := some ()) (B := Option.none) (r := ()) hF dL_law_1013 (by decide) (if_pos rfl) (fun _ => ?_) (fun hm => by cases hm)
    refine po_goto (tgt := 1939) hF dL_law_1018 (by decide) ?_
    refine po_sub (L' := lwL b o (Int32.ofNat (4 * j))) rfl ?_
    refine po_widen (k' := k + 8) (n' := n + 100) (by omega) (by omega) ?_
    exact kk _ _ HL2 hin2
  · refine po_if_ne (tgt := 1018) (A := some ()) (B := Option.none) (r := ()) hF dL_law_1003 (by decide) (if_neg hw) (fun _ => ?_) (fun hm => by cases hm)
    refine po_goto (tgt := 1939) hF dL_law_1018 (by decide) ?_
    refine po_sub (L' := lwL b o (Int32.ofNat (4 * j))) rfl ?_
    refine po_widen (k' := k + 8) (n' := n + 100) (by omega) (by omega) ?_
    exact kk _ _ HL2 hin2
theorem lc_revoke (C : lwX X G st b Ls xs) (HK : lwK K o) (HL : po_Lay K R st) (hI : pInv I R o (o + 828) st j) (hj : 4 * j + 3 < Ls) (hLs : Ls ≤ 2048) (hk : k + 8 ≤ 603072) (hn : n + 100 ≤ 7202922) (kk : ∀ R' I', po_Lay K R' st → pInv I' R' o (o + 828) st (j + 1) → po_V X G 8 Q (k + 8) (n + 100) 1939 (lwL b o (Int32.ofNat (4 * j))) [] K R' I' none) : po_V X G 8 Q k n 1021 (lwL b o (Int32.ofNat (4 * j))) [] K R I none := by
  have hF := C.1
  obtain ⟨w, I1, R1, v, I2, h1, h2, hag, hin⟩ := L_revoke hI (by omega) (xs (4 * j + 1))
  have hE := pAg_E hag
  have hk0 := pAg_wk hag (by decide +kernel)
  have HL1 : po_Lay K R1 st := kl_revoke HL HK.1 _ _ h1
  have HL2 : po_Lay K (wR R1 (o + 836) w) st := ly_wR HL1 HK.2.2.1 w
  have hin2 : pInv I2 (wR R1 (o + 836) w) o (o + 828) st (j + 1) := pInv_R hin (wR_at _ _ _)
  refine po_aload_n hF dL_law_1021 rfl rfl ?_
  refine lw_arg (ti := 1) (t := 1) (m := 4 * j) C rfl rfl dL_law_1022 dL_law_1023 dL_law_1025 dL_law_1026 dL_law_1027 (by decide) (by omega) hLs ?_
  refine po_aload_n hF dL_law_1028 rfl rfl ?_
  refine po_callSW (As := [.ref o, .int (xs (4 * j + 1)), .ref (o + 836)]) (S := []) (v := (wk sIO w)) (R' := wR R1 (o + 836) w) (I' := I1) hF dL_law_1029 wq_1014 mw_L_revoke (w_revoke HL HK.1 HK.2.2.1 h1 hE) rfl (lw_rt C (by decide) (by decide) (by omega) (by omega)) (Nat.le_of_ble_eq_true rfl) rfl ?_
  refine po_istore hF dL_law_1032 (by decide) rfl ?_
  refine po_aload_n hF dL_law_1034 rfl rfl ?_
  refine lw_arg (ti := 1) (t := 1) (m := 4 * j) C rfl rfl dL_law_1035 dL_law_1036 dL_law_1038 dL_law_1039 dL_law_1040 (by decide) (by omega) hLs ?_
  refine po_callV (As := [.int (xs (4 * j + 1))]) (S := []) (c := 8) (v := some (.int v)) (K' := K) (R' := wR R1 (o + 836) w) (I' := I2) (z' := none) hF dL_law_1041 wq_1600 mv_X8_revoke ws_X8_revoke rfl rfl HK.2.1 (c_X8_revoke HL2 HK.2.1 h2) rfl (lw_rt C (by decide) (by decide) (by omega) (by omega)) (Nat.le_of_ble_eq_true rfl) rfl ?_
  refine po_istore hF dL_law_1044 (by decide) rfl ?_
  refine po_aload_n hF dL_law_1046 rfl rfl ?_
  refine po_callV (As := []) (S := []) (c := 8) (v := some (.int (I2 (o + 828) 0))) (K' := K) (R' := wR R1 (o + 836) w) (I' := I2) (z' := none) hF dL_law_1047 wq_1209 mv_X8_thrown ws_X8_thrown rfl rfl HK.2.1 (c_X8_thrown HL2 HK.2.1 (ρ := I2 (o + 828) 0) rfl) rfl (lw_rt C (by decide) (by decide) (by omega) (by omega)) (Nat.le_of_ble_eq_true rfl) rfl ?_
  refine po_iload hF dL_law_1050 rfl ?_
  refine po_icmp_eq (tgt := 1057) (A := some ()) (B := Option.none) (r := ()) hF dL_law_1052 (by decide) (if_pos hk0) (fun _ => ?_) (fun hm => by cases hm)
  refine po_iload hF dL_law_1057 rfl ?_
  by_cases hw : wk sIO w = 0
  · obtain ⟨x, rfl⟩ := wk_0 hw
    obtain rfl : v = x := hag.2
    refine po_if_ne (tgt := 1074) (A := Option.none) (B := some ()) (r := ()) hF dL_law_1059 (by decide) (if_pos hw) (fun hm => by cases hm) (fun _ => ?_)
    refine po_aload_n hF dL_law_1062 rfl rfl ?_
    refine po_iconst (v := 0) hF dL_law_1063 (by decide) ?_
    refine po_lald (v := v.toInt64) hF dL_law_1064 HK.2.2.1 (by decide) (show po_u R1 (o + 836) 0 (.long v.toInt64) (o + 836) ((0 : Int32).toNatClampNeg) = _ by rw [show (0 : Int32).toNatClampNeg = 0 by decide]; exact po_uaa _ _ _ _) ?_
    refine po_iload hF dL_law_1065 rfl ?_
    refine po_i2l hF dL_law_1067 ?_
    refine po_lcmp (v := 0) hF dL_law_1068 ((lg_cmp_eq _ _).mpr rfl) ?_
    refine po_if_eq (tgt := 1074) (A := some ()) (B := Option.none) (r := ()) hF dL_law_1069 (by decide) (if_pos rfl) (fun _ => ?_) (fun hm => by cases hm)
    refine po_goto (tgt := 1939) hF dL_law_1074 (by decide) ?_
    refine po_sub (L' := lwL b o (Int32.ofNat (4 * j))) rfl ?_
    refine po_widen (k' := k + 8) (n' := n + 100) (by omega) (by omega) ?_
    exact kk _ _ HL2 hin2
  · refine po_if_ne (tgt := 1074) (A := some ()) (B := Option.none) (r := ()) hF dL_law_1059 (by decide) (if_neg hw) (fun _ => ?_) (fun hm => by cases hm)
    refine po_goto (tgt := 1939) hF dL_law_1074 (by decide) ?_
    refine po_sub (L' := lwL b o (Int32.ofNat (4 * j))) rfl ?_
    refine po_widen (k' := k + 8) (n' := n + 100) (by omega) (by omega) ?_
    exact kk _ _ HL2 hin2
end LC0
