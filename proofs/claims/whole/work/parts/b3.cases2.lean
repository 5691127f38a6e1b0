/-! THE LAW: a call of each kind, 2 -/
section LC1
variable {X : po_X} {G : po_G} {Q : State → Prop} {k n b o j Ls : Nat} {K : po_K} {R : po_R} {I : po_I} {st : Nat → Nat} {xs : Nat → Int32}
theorem lc_urgent (C : lwX X G st b Ls xs) (HK : lwK K o) (HL : po_Lay K R st) (hI : pInv I R o (o + 828) st j) (hj : 4 * j + 3 < Ls) (hLs : Ls ≤ 2048) (hk : k + 8 ≤ 603072) (hn : n + 100 ≤ 7202922) (kk : ∀ R' I', po_Lay K R' st → pInv I' R' o (o + 828) st (j + 1) → po_V X G 8 Q (k + 8) (n + 100) 1939 (lwL b o (Int32.ofNat (4 * j))) [] K R' I' none) : po_V X G 8 Q k n 1077 (lwL b o (Int32.ofNat (4 * j))) [] K R I none := by
  have hF := C.1
  obtain ⟨w, v, I2, h1, h2, hag, hscr⟩ := L_urgent hI (xs (4 * j + 1))
  have hin := (hscr.inv hI).up
  have hE : ∀ E, w = .inr E → E = sNS := fun E hE => ne_urgent _ _ h1 E hE
  have hk0 := pAg_wk hag (by decide +kernel)
  have HL1 : po_Lay K R st := HL
  have HL2 : po_Lay K (wR R (o + 836) w) st := ly_wR HL1 HK.2.2.1 w
  have hin2 : pInv I2 (wR R (o + 836) w) o (o + 828) st (j + 1) := pInv_R hin (wR_at _ _ _)
  refine po_aload_n hF dL_law_1077 rfl rfl ?_
  refine lw_arg (ti := 1) (t := 1) (m := 4 * j) C rfl rfl dL_law_1078 dL_law_1079 dL_law_1081 dL_law_1082 dL_law_1083 (by decide) (by omega) hLs ?_
  refine po_aload_n hF dL_law_1084 rfl rfl ?_
  refine po_callSW (As := [.ref o, .int (xs (4 * j + 1)), .ref (o + 836)]) (S := []) (v := (wk sNS w)) (R' := wR R (o + 836) w) (I' := I) hF dL_law_1085 wq_1022 mw_L_urgent (w_urgent HL HK.1 HK.2.2.1 h1 hE) rfl (lw_rt C (by decide) (by decide) (by omega) (by omega)) (Nat.le_of_ble_eq_true rfl) rfl ?_
  refine po_istore hF dL_law_1088 (by decide) rfl ?_
  refine po_aload_n hF dL_law_1090 rfl rfl ?_
  refine lw_arg (ti := 1) (t := 1) (m := 4 * j) C rfl rfl dL_law_1091 dL_law_1092 dL_law_1094 dL_law_1095 dL_law_1096 (by decide) (by omega) hLs ?_
  refine po_callV (As := [.int (xs (4 * j + 1))]) (S := []) (c := 8) (v := some (.int v)) (K' := K) (R' := wR R (o + 836) w) (I' := I2) (z' := none) hF dL_law_1097 wq_1604 mv_X8_urgent ws_X8_urgent rfl rfl HK.2.1 (c_X8_urgent HL2 HK.2.1 h2) rfl (lw_rt C (by decide) (by decide) (by omega) (by omega)) (Nat.le_of_ble_eq_true rfl) rfl ?_
  refine po_istore hF dL_law_1100 (by decide) rfl ?_
  refine po_aload_n hF dL_law_1102 rfl rfl ?_
  refine po_callV (As := []) (S := []) (c := 8) (v := some (.int (I2 (o + 828) 0))) (K' := K) (R' := wR R (o + 836) w) (I' := I2) (z' := none) hF dL_law_1103 wq_1209 mv_X8_thrown ws_X8_thrown rfl rfl HK.2.1 (c_X8_thrown HL2 HK.2.1 (ρ := I2 (o + 828) 0) rfl) rfl (lw_rt C (by decide) (by decide) (by omega) (by omega)) (Nat.le_of_ble_eq_true rfl) rfl ?_
  refine po_iload hF dL_law_1106 rfl ?_
  refine po_icmp_eq (tgt := 1113) (A := some ()) (B := Option.none) (r := ()) hF dL_law_1108 (by decide) (if_pos hk0) (fun _ => ?_) (fun hm => by cases hm)
  refine po_iload hF dL_law_1113 rfl ?_
  by_cases hw : wk sNS w = 0
  · obtain ⟨x, rfl⟩ := wk_0 hw
    obtain rfl : v = x := hag.2
    refine po_if_ne (tgt := 1130) (A := Option.none) (B := some ()) (r := ()) hF dL_law_1115 (by decide) (if_pos hw) (fun hm => by cases hm) (fun _ => ?_)
    refine po_aload_n hF dL_law_1118 rfl rfl ?_
    refine po_iconst (v := 0) hF dL_law_1119 (by decide) ?_
    refine po_lald (v := v.toInt64) hF dL_law_1120 HK.2.2.1 (by decide) (show po_u R (o + 836) 0 (.long v.toInt64) (o + 836) ((0 : Int32).toNatClampNeg) = _ by rw [show (0 : Int32).toNatClampNeg = 0 by decide]; exact po_uaa _ _ _ _) ?_
    refine po_iload hF dL_law_1121 rfl ?_
    refine po_i2l hF dL_law_1123 ?_
    refine po_lcmp (v := 0) hF dL_law_1124 ((lg_cmp_eq _ _).mpr rfl) ?_
    refine po_if_eq (tgt := 1130) (A := some ()) (B := Option.none) (r := ()) hF dL_law_1125 (by decide) (if_pos rfl) (fun _ => ?_) (fun hm => by cases hm)
    refine po_goto (tgt := 1939) hF dL_law_1130 (by decide) ?_
    refine po_sub (L' := lwL b o (Int32.ofNat (4 * j))) rfl ?_
    refine po_widen (k' := k + 8) (n' := n + 100) (by omega) (by omega) ?_
    exact kk _ _ HL2 hin2
  · refine po_if_ne (tgt := 1130) (A := some ()) (B := Option.none) (r := ()) hF dL_law_1115 (by decide) (if_neg hw) (fun _ => ?_) (fun hm => by cases hm)
    refine po_goto (tgt := 1939) hF dL_law_1130 (by decide) ?_
    refine po_sub (L' := lwL b o (Int32.ofNat (4 * j))) rfl ?_
    refine po_widen (k' := k + 8) (n' := n + 100) (by omega) (by omega) ?_
    exact kk _ _ HL2 hin2
theorem lc_variance (C : lwX X G st b Ls xs) (HK : lwK K o) (HL : po_Lay K R st) (hI : pInv I R o (o + 828) st j) (hj : 4 * j + 3 < Ls) (hLs : Ls ≤ 2048) (hk : k + 8 ≤ 603072) (hn : n + 100 ≤ 7202922) (kk : ∀ R' I', po_Lay K R' st → pInv I' R' o (o + 828) st (j + 1) → po_V X G 8 Q (k + 8) (n + 100) 1939 (lwL b o (Int32.ofNat (4 * j))) [] K R' I' none) : po_V X G 8 Q k n 1133 (lwL b o (Int32.ofNat (4 * j))) [] K R I none := by
  have hF := C.1
  obtain ⟨w, v, I2, h1, h2, hag, hscr⟩ := L_variance hI (xs (4 * j + 1)) (xs (4 * j + 2))
  have hin := (hscr.inv hI).up
  have hE := pAg_E hag
  have hk0 := pAg_wk hag (by decide +kernel)
  have HL1 : po_Lay K R st := HL
  have HL2 : po_Lay K (wR R (o + 836) w) st := ly_wR HL1 HK.2.2.1 w
  have hin2 : pInv I2 (wR R (o + 836) w) o (o + 828) st (j + 1) := pInv_R hin (wR_at _ _ _)
  refine po_aload_n hF dL_law_1133 rfl rfl ?_
  refine lw_arg (ti := 1) (t := 1) (m := 4 * j) C rfl rfl dL_law_1134 dL_law_1135 dL_law_1137 dL_law_1138 dL_law_1139 (by decide) (by omega) hLs ?_
  refine lw_arg (ti := 2) (t := 2) (m := 4 * j) C rfl rfl dL_law_1140 dL_law_1141 dL_law_1143 dL_law_1144 dL_law_1145 (by decide) (by omega) hLs ?_
  refine po_aload_n hF dL_law_1146 rfl rfl ?_
  refine po_callSW (As := [.ref o, .int (xs (4 * j + 1)), .int (xs (4 * j + 2)), .ref (o + 836)]) (S := []) (v := (wk sIO w)) (R' := wR R (o + 836) w) (I' := I) hF dL_law_1147 wq_1046 mw_L_variance (w_variance HL HK.1 HK.2.2.1 h1 hE) rfl (lw_rt C (by decide) (by decide) (by omega) (by omega)) (Nat.le_of_ble_eq_true rfl) rfl ?_
  refine po_istore hF dL_law_1150 (by decide) rfl ?_
  refine po_aload_n hF dL_law_1152 rfl rfl ?_
  refine lw_arg (ti := 1) (t := 1) (m := 4 * j) C rfl rfl dL_law_1153 dL_law_1154 dL_law_1156 dL_law_1157 dL_law_1158 (by decide) (by omega) hLs ?_
  refine lw_arg (ti := 2) (t := 2) (m := 4 * j) C rfl rfl dL_law_1159 dL_law_1160 dL_law_1162 dL_law_1163 dL_law_1164 (by decide) (by omega) hLs ?_
  refine po_callV (As := [.int (xs (4 * j + 1)), .int (xs (4 * j + 2))]) (S := []) (c := 8) (v := some (.int v)) (K' := K) (R' := wR R (o + 836) w) (I' := I2) (z' := none) hF dL_law_1165 wq_1616 mv_X8_variance ws_X8_variance rfl rfl HK.2.1 (c_X8_variance HL2 HK.2.1 h2) rfl (lw_rt C (by decide) (by decide) (by omega) (by omega)) (Nat.le_of_ble_eq_true rfl) rfl ?_
  refine po_istore hF dL_law_1168 (by decide) rfl ?_
  refine po_aload_n hF dL_law_1170 rfl rfl ?_
  refine po_callV (As := []) (S := []) (c := 8) (v := some (.int (I2 (o + 828) 0))) (K' := K) (R' := wR R (o + 836) w) (I' := I2) (z' := none) hF dL_law_1171 wq_1209 mv_X8_thrown ws_X8_thrown rfl rfl HK.2.1 (c_X8_thrown HL2 HK.2.1 (ρ := I2 (o + 828) 0) rfl) rfl (lw_rt C (by decide) (by decide) (by omega) (by omega)) (Nat.le_of_ble_eq_true rfl) rfl ?_
  refine po_iload hF dL_law_1174 rfl ?_
  refine po_icmp_eq (tgt := 1181) (A := some ()) (B := Option.none) (r := ()) hF dL_law_1176 (by decide) (if_pos hk0) (fun _ => ?_) (fun hm => by cases hm)
  refine po_iload hF dL_law_1181 rfl ?_
  by_cases hw : wk sIO w = 0
  · obtain ⟨x, rfl⟩ := wk_0 hw
    obtain rfl : v = x := hag.2
    refine po_if_ne (tgt := 1198) (A := Option.none) (B := some ()) (r := ()) hF dL_law_1183 (by decide) (if_pos hw) (fun hm => by cases hm) (fun _ => ?_)
    refine po_aload_n hF dL_law_1186 rfl rfl ?_
    refine po_iconst (v := 0) hF dL_law_1187 (by decide) ?_
    refine po_lald (v := v.toInt64) hF dL_law_1188 HK.2.2.1 (by decide) (show po_u R (o + 836) 0 (.long v.toInt64) (o + 836) ((0 : Int32).toNatClampNeg) = _ by rw [show (0 : Int32).toNatClampNeg = 0 by decide]; exact po_uaa _ _ _ _) ?_
    refine po_iload hF dL_law_1189 rfl ?_
    refine po_i2l hF dL_law_1191 ?_
    refine po_lcmp (v := 0) hF dL_law_1192 ((lg_cmp_eq _ _).mpr rfl) ?_
    refine po_if_eq (tgt := 1198) (A := some ()) (B := Option.none) (r := ()) hF dL_law_1193 (by decide) (if_pos rfl) (fun _ => ?_) (fun hm => by cases hm)
    refine po_goto (tgt := 1939) hF dL_law_1198 (by decide) ?_
    refine po_sub (L' := lwL b o (Int32.ofNat (4 * j))) rfl ?_
    refine po_widen (k' := k + 8) (n' := n + 100) (by omega) (by omega) ?_
    exact kk _ _ HL2 hin2
  · refine po_if_ne (tgt := 1198) (A := some ()) (B := Option.none) (r := ()) hF dL_law_1183 (by decide) (if_neg hw) (fun _ => ?_) (fun hm => by cases hm)
    refine po_goto (tgt := 1939) hF dL_law_1198 (by decide) ?_
    refine po_sub (L' := lwL b o (Int32.ofNat (4 * j))) rfl ?_
    refine po_widen (k' := k + 8) (n' := n + 100) (by omega) (by omega) ?_
    exact kk _ _ HL2 hin2
theorem lc_needed (C : lwX X G st b Ls xs) (HK : lwK K o) (HL : po_Lay K R st) (hI : pInv I R o (o + 828) st j) (hj : 4 * j + 3 < Ls) (hLs : Ls ≤ 2048) (hk : k + 8 ≤ 603072) (hn : n + 100 ≤ 7202922) (kk : ∀ R' I', po_Lay K R' st → pInv I' R' o (o + 828) st (j + 1) → po_V X G 8 Q (k + 8) (n + 100) 1939 (lwL b o (Int32.ofNat (4 * j))) [] K R' I' none) : po_V X G 8 Q k n 1201 (lwL b o (Int32.ofNat (4 * j))) [] K R I none := by
  have hF := C.1
  obtain ⟨w, I1, v, I2, h1, h2, hag, hscr⟩ := L_needed hI (xs (4 * j + 1)) (xs (4 * j + 2))
  have hin := (hscr.inv hI).up
  have hE := pAg_E hag
  have hk0 := pAg_wk hag (by decide +kernel)
  have HL1 : po_Lay K R st := HL
  have HL2 : po_Lay K (wR R (o + 836) w) st := ly_wR HL1 HK.2.2.1 w
  have hin2 : pInv I2 (wR R (o + 836) w) o (o + 828) st (j + 1) := pInv_R hin (wR_at _ _ _)
  refine po_aload_n hF dL_law_1201 rfl rfl ?_
  refine lw_arg (ti := 1) (t := 1) (m := 4 * j) C rfl rfl dL_law_1202 dL_law_1203 dL_law_1205 dL_law_1206 dL_law_1207 (by decide) (by omega) hLs ?_
  refine lw_arg (ti := 2) (t := 2) (m := 4 * j) C rfl rfl dL_law_1208 dL_law_1209 dL_law_1211 dL_law_1212 dL_law_1213 (by decide) (by omega) hLs ?_
  refine po_aload_n hF dL_law_1214 rfl rfl ?_
  refine po_callSW (As := [.ref o, .int (xs (4 * j + 1)), .int (xs (4 * j + 2)), .ref (o + 836)]) (S := []) (v := (wk sIO w)) (R' := wR R (o + 836) w) (I' := I1) hF dL_law_1215 wq_1060 mw_L_needed (w_needed HL HK.1 HK.2.2.1 h1 hE) rfl (lw_rt C (by decide) (by decide) (by omega) (by omega)) (Nat.le_of_ble_eq_true rfl) rfl ?_
  refine po_istore hF dL_law_1218 (by decide) rfl ?_
  refine po_aload_n hF dL_law_1220 rfl rfl ?_
  refine lw_arg (ti := 1) (t := 1) (m := 4 * j) C rfl rfl dL_law_1221 dL_law_1222 dL_law_1224 dL_law_1225 dL_law_1226 (by decide) (by omega) hLs ?_
  refine lw_arg (ti := 2) (t := 2) (m := 4 * j) C rfl rfl dL_law_1227 dL_law_1228 dL_law_1230 dL_law_1231 dL_law_1232 (by decide) (by omega) hLs ?_
  refine po_callV (As := [.int (xs (4 * j + 1)), .int (xs (4 * j + 2))]) (S := []) (c := 8) (v := some (.int v)) (K' := K) (R' := wR R (o + 836) w) (I' := I2) (z' := none) hF dL_law_1233 wq_1624 mv_X8_needed ws_X8_needed rfl rfl HK.2.1 (c_X8_needed HL2 HK.2.1 h2) rfl (lw_rt C (by decide) (by decide) (by omega) (by omega)) (Nat.le_of_ble_eq_true rfl) rfl ?_
  refine po_istore hF dL_law_1236 (by decide) rfl ?_
  refine po_aload_n hF dL_law_1238 rfl rfl ?_
  refine po_callV (As := []) (S := []) (c := 8) (v := some (.int (I2 (o + 828) 0))) (K' := K) (R' := wR R (o + 836) w) (I' := I2) (z' := none) hF dL_law_1239 wq_1209 mv_X8_thrown ws_X8_thrown rfl rfl HK.2.1 (c_X8_thrown HL2 HK.2.1 (ρ := I2 (o + 828) 0) rfl) rfl (lw_rt C (by decide) (by decide) (by omega) (by omega)) (Nat.le_of_ble_eq_true rfl) rfl ?_
  refine po_iload hF dL_law_1242 rfl ?_
  refine po_icmp_eq (tgt := 1249) (A := some ()) (B := Option.none) (r := ()) hF dL_law_1244 (by decide) (if_pos hk0) (fun _ => ?_) (fun hm => by cases hm)
  refine po_iload hF dL_law_1249 rfl ?_
  by_cases hw : wk sIO w = 0
  · obtain ⟨x, rfl⟩ := wk_0 hw
    obtain rfl : v = x := hag.2
    refine po_if_ne (tgt := 1266) (A := Option.none) (B := some ()) (r := ()) hF dL_law_1251 (by decide) (if_pos hw) (fun hm => by cases hm) (fun _ => ?_)
    refine po_aload_n hF dL_law_1254 rfl rfl ?_
    refine po_iconst (v := 0) hF dL_law_1255 (by decide) ?_
    refine po_lald (v := v.toInt64) hF dL_law_1256 HK.2.2.1 (by decide) (show po_u R (o + 836) 0 (.long v.toInt64) (o + 836) ((0 : Int32).toNatClampNeg) = _ by rw [show (0 : Int32).toNatClampNeg = 0 by decide]; exact po_uaa _ _ _ _) ?_
    refine po_iload hF dL_law_1257 rfl ?_
    refine po_i2l hF dL_law_1259 ?_
    refine po_lcmp (v := 0) hF dL_law_1260 ((lg_cmp_eq _ _).mpr rfl) ?_
    refine po_if_eq (tgt := 1266) (A := some ()) (B := Option.none) (r := ()) hF dL_law_1261 (by decide) (if_pos rfl) (fun _ => ?_) (fun hm => by cases hm)
    refine po_goto (tgt := 1939) hF dL_law_1266 (by decide) ?_
    refine po_sub (L' := lwL b o (Int32.ofNat (4 * j))) rfl ?_
    refine po_widen (k' := k + 8) (n' := n + 100) (by omega) (by omega) ?_
    exact kk _ _ HL2 hin2
  · refine po_if_ne (tgt := 1266) (A := some ()) (B := Option.none) (r := ()) hF dL_law_1251 (by decide) (if_neg hw) (fun _ => ?_) (fun hm => by cases hm)
    refine po_goto (tgt := 1939) hF dL_law_1266 (by decide) ?_
    refine po_sub (L' := lwL b o (Int32.ofNat (4 * j))) rfl ?_
    refine po_widen (k' := k + 8) (n' := n + 100) (by omega) (by omega) ?_
    exact kk _ _ HL2 hin2
theorem lc_condition (C : lwX X G st b Ls xs) (HK : lwK K o) (HL : po_Lay K R st) (hI : pInv I R o (o + 828) st j) (hj : 4 * j + 3 < Ls) (hLs : Ls ≤ 2048) (hk : k + 8 ≤ 603072) (hn : n + 100 ≤ 7202922) (kk : ∀ R' I', po_Lay K R' st → pInv I' R' o (o + 828) st (j + 1) → po_V X G 8 Q (k + 8) (n + 100) 1939 (lwL b o (Int32.ofNat (4 * j))) [] K R' I' none) : po_V X G 8 Q k n 1269 (lwL b o (Int32.ofNat (4 * j))) [] K R I none := by
  have hF := C.1
  obtain ⟨w, v, I2, h1, h2, hag, hscr⟩ := L_condition hI (xs (4 * j + 1)) (xs (4 * j + 2)) (xs (4 * j + 3))
  have hin := (hscr.inv hI).up
  have hE := pAg_E hag
  have hk0 := pAg_wk hag (by decide +kernel)
  have HL1 : po_Lay K R st := HL
  have HL2 : po_Lay K (wR R (o + 836) w) st := ly_wR HL1 HK.2.2.1 w
  have hin2 : pInv I2 (wR R (o + 836) w) o (o + 828) st (j + 1) := pInv_R hin (wR_at _ _ _)
  refine po_aload_n hF dL_law_1269 rfl rfl ?_
  refine lw_arg (ti := 1) (t := 1) (m := 4 * j) C rfl rfl dL_law_1270 dL_law_1271 dL_law_1273 dL_law_1274 dL_law_1275 (by decide) (by omega) hLs ?_
  refine lw_arg (ti := 2) (t := 2) (m := 4 * j) C rfl rfl dL_law_1276 dL_law_1277 dL_law_1279 dL_law_1280 dL_law_1281 (by decide) (by omega) hLs ?_
  refine lw_arg (ti := 3) (t := 3) (m := 4 * j) C rfl rfl dL_law_1282 dL_law_1283 dL_law_1285 dL_law_1286 dL_law_1287 (by decide) (by omega) hLs ?_
  refine po_aload_n hF dL_law_1288 rfl rfl ?_
  refine po_callSW (As := [.ref o, .int (xs (4 * j + 1)), .int (xs (4 * j + 2)), .int (xs (4 * j + 3)), .ref (o + 836)]) (S := []) (v := (wk sIO w)) (R' := wR R (o + 836) w) (I' := I) hF dL_law_1289 wq_1075 mw_L_condition (w_condition HL HK.1 HK.2.2.1 h1 hE) rfl (lw_rt C (by decide) (by decide) (by omega) (by omega)) (Nat.le_of_ble_eq_true rfl) rfl ?_
  refine po_istore hF dL_law_1292 (by decide) rfl ?_
  refine po_aload_n hF dL_law_1294 rfl rfl ?_
  refine lw_arg (ti := 1) (t := 1) (m := 4 * j) C rfl rfl dL_law_1295 dL_law_1296 dL_law_1298 dL_law_1299 dL_law_1300 (by decide) (by omega) hLs ?_
  refine lw_arg (ti := 2) (t := 2) (m := 4 * j) C rfl rfl dL_law_1301 dL_law_1302 dL_law_1304 dL_law_1305 dL_law_1306 (by decide) (by omega) hLs ?_
  refine lw_arg (ti := 3) (t := 3) (m := 4 * j) C rfl rfl dL_law_1307 dL_law_1308 dL_law_1310 dL_law_1311 dL_law_1312 (by decide) (by omega) hLs ?_
  refine po_callV (As := [.int (xs (4 * j + 1)), .int (xs (4 * j + 2)), .int (xs (4 * j + 3))]) (S := []) (c := 8) (v := some (.int v)) (K' := K) (R' := wR R (o + 836) w) (I' := I2) (z' := none) hF dL_law_1313 wq_1628 mv_X8_condition ws_X8_condition rfl rfl HK.2.1 (c_X8_condition HL2 HK.2.1 h2) rfl (lw_rt C (by decide) (by decide) (by omega) (by omega)) (Nat.le_of_ble_eq_true rfl) rfl ?_
  refine po_istore hF dL_law_1316 (by decide) rfl ?_
  refine po_aload_n hF dL_law_1318 rfl rfl ?_
  refine po_callV (As := []) (S := []) (c := 8) (v := some (.int (I2 (o + 828) 0))) (K' := K) (R' := wR R (o + 836) w) (I' := I2) (z' := none) hF dL_law_1319 wq_1209 mv_X8_thrown ws_X8_thrown rfl rfl HK.2.1 (c_X8_thrown HL2 HK.2.1 (ρ := I2 (o + 828) 0) rfl) rfl (lw_rt C (by decide) (by decide) (by omega) (by omega)) (Nat.le_of_ble_eq_true rfl) rfl ?_
  refine po_iload hF dL_law_1322 rfl ?_
  refine po_icmp_eq (tgt := 1329) (A := some ()) (B := Option.none) (r := ()) hF dL_law_1324 (by decide) (if_pos hk0) (fun _ => ?_) (fun hm => by cases hm)
  refine po_iload hF dL_law_1329 rfl ?_
  by_cases hw : wk sIO w = 0
  · obtain ⟨x, rfl⟩ := wk_0 hw
    obtain rfl : v = x := hag.2
    refine po_if_ne (tgt := 1346) (A := Option.none) (B := some ()) (r := ()) hF dL_law_1331 (by decide) (if_pos hw) (fun hm => by cases hm) (fun _ => ?_)
    refine po_aload_n hF dL_law_1334 rfl rfl ?_
    refine po_iconst (v := 0) hF dL_law_1335 (by decide) ?_
    refine po_lald (v := v.toInt64) hF dL_law_1336 HK.2.2.1 (by decide) (show po_u R (o + 836) 0 (.long v.toInt64) (o + 836) ((0 : Int32).toNatClampNeg) = _ by rw [show (0 : Int32).toNatClampNeg = 0 by decide]; exact po_uaa _ _ _ _) ?_
    refine po_iload hF dL_law_1337 rfl ?_
    refine po_i2l hF dL_law_1339 ?_
    refine po_lcmp (v := 0) hF dL_law_1340 ((lg_cmp_eq _ _).mpr rfl) ?_
    refine po_if_eq (tgt := 1346) (A := some ()) (B := Option.none) (r := ()) hF dL_law_1341 (by decide) (if_pos rfl) (fun _ => ?_) (fun hm => by cases hm)
    refine po_goto (tgt := 1939) hF dL_law_1346 (by decide) ?_
    refine po_sub (L' := lwL b o (Int32.ofNat (4 * j))) rfl ?_
    refine po_widen (k' := k + 8) (n' := n + 100) (by omega) (by omega) ?_
    exact kk _ _ HL2 hin2
  · refine po_if_ne (tgt := 1346) (A := some ()) (B := Option.none) (r := ()) hF dL_law_1331 (by decide) (if_neg hw) (fun _ => ?_) (fun hm => by cases hm)
    refine po_goto (tgt := 1939) hF dL_law_1346 (by decide) ?_
    refine po_sub (L' := lwL b o (Int32.ofNat (4 * j))) rfl ?_
    refine po_widen (k' := k + 8) (n' := n + 100) (by omega) (by omega) ?_
    exact kk _ _ HL2 hin2
theorem lc_fulfil (C : lwX X G st b Ls xs) (HK : lwK K o) (HL : po_Lay K R st) (hI : pInv I R o (o + 828) st j) (hj : 4 * j + 3 < Ls) (hLs : Ls ≤ 2048) (hk : k + 8 ≤ 603072) (hn : n + 100 ≤ 7202922) (kk : ∀ R' I', po_Lay K R' st → pInv I' R' o (o + 828) st (j + 1) → po_V X G 8 Q (k + 8) (n + 100) 1939 (lwL b o (Int32.ofNat (4 * j))) [] K R' I' none) : po_V X G 8 Q k n 1349 (lwL b o (Int32.ofNat (4 * j))) [] K R I none := by
  have hF := C.1
  obtain ⟨w, I1, R1, v, I2, h1, h2, hag, hin⟩ := L_fulfil hI (xs (4 * j + 1)) (xs (4 * j + 2))
  have hE := pAg_E hag
  have hk0 := pAg_wk hag (by decide +kernel)
  have HL1 : po_Lay K R1 st := kl_fulfil HL HK.1 _ _ _ h1
  have HL2 : po_Lay K (wR R1 (o + 836) w) st := ly_wR HL1 HK.2.2.1 w
  have hin2 : pInv I2 (wR R1 (o + 836) w) o (o + 828) st (j + 1) := pInv_R hin (wR_at _ _ _)
  refine po_aload_n hF dL_law_1349 rfl rfl ?_
  refine lw_arg (ti := 1) (t := 1) (m := 4 * j) C rfl rfl dL_law_1350 dL_law_1351 dL_law_1353 dL_law_1354 dL_law_1355 (by decide) (by omega) hLs ?_
  refine lw_arg (ti := 2) (t := 2) (m := 4 * j) C rfl rfl dL_law_1356 dL_law_1357 dL_law_1359 dL_law_1360 dL_law_1361 (by decide) (by omega) hLs ?_
  refine po_aload_n hF dL_law_1362 rfl rfl ?_
  refine po_callSW (As := [.ref o, .int (xs (4 * j + 1)), .int (xs (4 * j + 2)), .ref (o + 836)]) (S := []) (v := (wk sIO w)) (R' := wR R1 (o + 836) w) (I' := I1) hF dL_law_1363 wq_1088 mw_L_fulfil (w_fulfil HL HK.1 HK.2.2.1 h1 hE) rfl (lw_rt C (by decide) (by decide) (by omega) (by omega)) (Nat.le_of_ble_eq_true rfl) rfl ?_
  refine po_istore hF dL_law_1366 (by decide) rfl ?_
  refine po_aload_n hF dL_law_1368 rfl rfl ?_
  refine lw_arg (ti := 1) (t := 1) (m := 4 * j) C rfl rfl dL_law_1369 dL_law_1370 dL_law_1372 dL_law_1373 dL_law_1374 (by decide) (by omega) hLs ?_
  refine lw_arg (ti := 2) (t := 2) (m := 4 * j) C rfl rfl dL_law_1375 dL_law_1376 dL_law_1378 dL_law_1379 dL_law_1380 (by decide) (by omega) hLs ?_
  refine po_callV (As := [.int (xs (4 * j + 1)), .int (xs (4 * j + 2))]) (S := []) (c := 8) (v := some (.int v)) (K' := K) (R' := wR R1 (o + 836) w) (I' := I2) (z' := none) hF dL_law_1381 wq_1632 mv_X8_fulfil ws_X8_fulfil rfl rfl HK.2.1 (c_X8_fulfil HL2 HK.2.1 h2) rfl (lw_rt C (by decide) (by decide) (by omega) (by omega)) (Nat.le_of_ble_eq_true rfl) rfl ?_
  refine po_istore hF dL_law_1384 (by decide) rfl ?_
  refine po_aload_n hF dL_law_1386 rfl rfl ?_
  refine po_callV (As := []) (S := []) (c := 8) (v := some (.int (I2 (o + 828) 0))) (K' := K) (R' := wR R1 (o + 836) w) (I' := I2) (z' := none) hF dL_law_1387 wq_1209 mv_X8_thrown ws_X8_thrown rfl rfl HK.2.1 (c_X8_thrown HL2 HK.2.1 (ρ := I2 (o + 828) 0) rfl) rfl (lw_rt C (by decide) (by decide) (by omega) (by omega)) (Nat.le_of_ble_eq_true rfl) rfl ?_
  refine po_iload hF dL_law_1390 rfl ?_
  refine po_icmp_eq (tgt := 1397) (A := some ()) (B := Option.none) (r := ()) hF dL_law_1392 (by decide) (if_pos hk0) (fun _ => ?_) (fun hm => by cases hm)
  refine po_iload hF dL_law_1397 rfl ?_
  by_cases hw : wk sIO w = 0
  · obtain ⟨x, rfl⟩ := wk_0 hw
    obtain rfl : v = x := hag.2
    refine po_if_ne (tgt := 1414) (A := Option.none) (B := some ()) (r := ()) hF dL_law_1399 (by decide) (if_pos hw) (fun hm => by cases hm) (fun _ => ?_)
    refine po_aload_n hF dL_law_1402 rfl rfl ?_
    refine po_iconst (v := 0) hF dL_law_1403 (by decide) ?_
    refine po_lald (v := v.toInt64) hF dL_law_1404 HK.2.2.1 (by decide) (show po_u R1 (o + 836) 0 (.long v.toInt64) (o + 836) ((0 : Int32).toNatClampNeg) = _ by rw [show (0 : Int32).toNatClampNeg = 0 by decide]; exact po_uaa _ _ _ _) ?_
    refine po_iload hF dL_law_1405 rfl ?_
    refine po_i2l hF dL_law_1407 ?_
    refine po_lcmp (v := 0) hF dL_law_1408 ((lg_cmp_eq _ _).mpr rfl) ?_
    refine po_if_eq (tgt := 1414) (A := some ()) (B := Option.none) (r := ()) hF dL_law_1409 (by decide) (if_pos rfl) (fun _ => ?_) (fun hm => by cases hm)
    refine po_goto (tgt := 1939) hF dL_law_1414 (by decide) ?_
    refine po_sub (L' := lwL b o (Int32.ofNat (4 * j))) rfl ?_
    refine po_widen (k' := k + 8) (n' := n + 100) (by omega) (by omega) ?_
    exact kk _ _ HL2 hin2
  · refine po_if_ne (tgt := 1414) (A := some ()) (B := Option.none) (r := ()) hF dL_law_1399 (by decide) (if_neg hw) (fun _ => ?_) (fun hm => by cases hm)
    refine po_goto (tgt := 1939) hF dL_law_1414 (by decide) ?_
    refine po_sub (L' := lwL b o (Int32.ofNat (4 * j))) rfl ?_
    refine po_widen (k' := k + 8) (n' := n + 100) (by omega) (by omega) ?_
    exact kk _ _ HL2 hin2
theorem lc_inspect (C : lwX X G st b Ls xs) (HK : lwK K o) (HL : po_Lay K R st) (hI : pInv I R o (o + 828) st j) (hj : 4 * j + 3 < Ls) (hLs : Ls ≤ 2048) (hk : k + 8 ≤ 603072) (hn : n + 100 ≤ 7202922) (kk : ∀ R' I', po_Lay K R' st → pInv I' R' o (o + 828) st (j + 1) → po_V X G 8 Q (k + 8) (n + 100) 1939 (lwL b o (Int32.ofNat (4 * j))) [] K R' I' none) : po_V X G 8 Q k n 1417 (lwL b o (Int32.ofNat (4 * j))) [] K R I none := by
  have hF := C.1
  obtain ⟨w, I1, R1, v, I2, h1, h2, hag, hin⟩ := L_inspect hI (by omega) (xs (4 * j + 1))
  have hE := pAg_E hag
  have hk0 := pAg_wk hag (by decide +kernel)
  have HL1 : po_Lay K R1 st := kl_inspect HL HK.1 _ _ h1
  have HL2 : po_Lay K (wZ R1 (o + 836) w) st := ly_wZ HL1 HK.2.2.1 w
  have hin2 : pInv I2 (wZ R1 (o + 836) w) o (o + 828) st (j + 1) := pInv_R hin (wZ_at _ _ _)
  refine po_aload_n hF dL_law_1417 rfl rfl ?_
  refine lw_arg (ti := 1) (t := 1) (m := 4 * j) C rfl rfl dL_law_1418 dL_law_1419 dL_law_1421 dL_law_1422 dL_law_1423 (by decide) (by omega) hLs ?_
  refine po_aload_n hF dL_law_1424 rfl rfl ?_
  refine po_callSW (As := [.ref o, .int (xs (4 * j + 1)), .ref (o + 836)]) (S := []) (v := (wk sIO w)) (R' := wZ R1 (o + 836) w) (I' := I1) hF dL_law_1425 wq_1101 mw_L_inspect (w_inspect HL HK.1 HK.2.2.1 h1 hE) rfl (lw_rt C (by decide) (by decide) (by omega) (by omega)) (Nat.le_of_ble_eq_true rfl) rfl ?_
  refine po_istore hF dL_law_1428 (by decide) rfl ?_
  refine po_aload_n hF dL_law_1430 rfl rfl ?_
  refine lw_arg (ti := 1) (t := 1) (m := 4 * j) C rfl rfl dL_law_1431 dL_law_1432 dL_law_1434 dL_law_1435 dL_law_1436 (by decide) (by omega) hLs ?_
  refine po_callV (As := [.int (xs (4 * j + 1))]) (S := []) (c := 8) (v := some (.int v)) (K' := K) (R' := wZ R1 (o + 836) w) (I' := I2) (z' := none) hF dL_law_1437 wq_1640 mv_X8_inspect ws_X8_inspect rfl rfl HK.2.1 (c_X8_inspect HL2 HK.2.1 h2) rfl (lw_rt C (by decide) (by decide) (by omega) (by omega)) (Nat.le_of_ble_eq_true rfl) rfl ?_
  refine po_istore hF dL_law_1440 (by decide) rfl ?_
  refine po_aload_n hF dL_law_1442 rfl rfl ?_
  refine po_callV (As := []) (S := []) (c := 8) (v := some (.int (I2 (o + 828) 0))) (K' := K) (R' := wZ R1 (o + 836) w) (I' := I2) (z' := none) hF dL_law_1443 wq_1209 mv_X8_thrown ws_X8_thrown rfl rfl HK.2.1 (c_X8_thrown HL2 HK.2.1 (ρ := I2 (o + 828) 0) rfl) rfl (lw_rt C (by decide) (by decide) (by omega) (by omega)) (Nat.le_of_ble_eq_true rfl) rfl ?_
  refine po_iload hF dL_law_1446 rfl ?_
  refine po_icmp_eq (tgt := 1453) (A := some ()) (B := Option.none) (r := ()) hF dL_law_1448 (by decide) (if_pos hk0) (fun _ => ?_) (fun hm => by cases hm)
  refine po_iload hF dL_law_1453 rfl ?_
  by_cases hw : wk sIO w = 0
  · obtain ⟨x, rfl⟩ := wk_0 hw
    obtain rfl : v = x := hag.2
    refine po_if_ne (tgt := 1477) (A := Option.none) (B := some ()) (r := ()) hF dL_law_1455 (by decide) (if_pos hw) (fun hm => by cases hm) (fun _ => ?_)
    refine po_aload_n hF dL_law_1458 rfl rfl ?_
    refine po_iconst (v := 0) hF dL_law_1459 (by decide) ?_
    refine po_lald (v := (if v = 0 then 0 else 1)) hF dL_law_1460 HK.2.2.1 (by decide) (show po_u R1 (o + 836) 0 (.long (if v = 0 then 0 else 1)) (o + 836) ((0 : Int32).toNatClampNeg) = _ by rw [show (0 : Int32).toNatClampNeg = 0 by decide]; exact po_uaa _ _ _ _) ?_
    refine po_iload hF dL_law_1461 rfl ?_
    by_cases hx0 : v = 0
    · skip
      refine po_if_eq (tgt := 1470) (A := some ()) (B := Option.none) (r := ()) hF dL_law_1463 (by decide) (if_pos hx0) (fun _ => ?_) (fun hm => by cases hm)
      refine po_lconst (v := 0) hF dL_law_1470 (by decide) ?_
      refine po_lcmp (v := 0) hF dL_law_1471 ((lg_cmp_eq _ _).mpr (if_pos hx0)) ?_
      refine po_if_eq (tgt := 1477) (A := some ()) (B := Option.none) (r := ()) hF dL_law_1472 (by decide) (if_pos rfl) (fun _ => ?_) (fun hm => by cases hm)
      refine po_goto (tgt := 1939) hF dL_law_1477 (by decide) ?_
      refine po_sub (L' := lwL b o (Int32.ofNat (4 * j))) rfl ?_
      refine po_widen (k' := k + 8) (n' := n + 100) (by omega) (by omega) ?_
      exact kk _ _ HL2 hin2
    · skip
      refine po_if_eq (tgt := 1470) (A := Option.none) (B := some ()) (r := ()) hF dL_law_1463 (by decide) (if_neg hx0) (fun hm => by cases hm) (fun _ => ?_)
      refine po_lconst (v := 1) hF dL_law_1466 (by decide) ?_
      refine po_goto (tgt := 1471) hF dL_law_1467 (by decide) ?_
      refine po_lcmp (v := 0) hF dL_law_1471 ((lg_cmp_eq _ _).mpr (if_neg hx0)) ?_
      refine po_if_eq (tgt := 1477) (A := some ()) (B := Option.none) (r := ()) hF dL_law_1472 (by decide) (if_pos rfl) (fun _ => ?_) (fun hm => by cases hm)
      refine po_goto (tgt := 1939) hF dL_law_1477 (by decide) ?_
      refine po_sub (L' := lwL b o (Int32.ofNat (4 * j))) rfl ?_
      refine po_widen (k' := k + 8) (n' := n + 100) (by omega) (by omega) ?_
      exact kk _ _ HL2 hin2
  · refine po_if_ne (tgt := 1477) (A := some ()) (B := Option.none) (r := ()) hF dL_law_1455 (by decide) (if_neg hw) (fun _ => ?_) (fun hm => by cases hm)
    refine po_goto (tgt := 1939) hF dL_law_1477 (by decide) ?_
    refine po_sub (L' := lwL b o (Int32.ofNat (4 * j))) rfl ?_
    refine po_widen (k' := k + 8) (n' := n + 100) (by omega) (by omega) ?_
    exact kk _ _ HL2 hin2
theorem lc_reinstate (C : lwX X G st b Ls xs) (HK : lwK K o) (HL : po_Lay K R st) (hI : pInv I R o (o + 828) st j) (hj : 4 * j + 3 < Ls) (hLs : Ls ≤ 2048) (hk : k + 8 ≤ 603072) (hn : n + 100 ≤ 7202922) (kk : ∀ R' I', po_Lay K R' st → pInv I' R' o (o + 828) st (j + 1) → po_V X G 8 Q (k + 8) (n + 100) 1939 (lwL b o (Int32.ofNat (4 * j))) [] K R' I' none) : po_V X G 8 Q k n 1480 (lwL b o (Int32.ofNat (4 * j))) [] K R I none := by
  have hF := C.1
  obtain ⟨w, I1, R1, v, I2, h1, h2, hag, hin⟩ := L_reinstate hI (by omega) (xs (4 * j + 1))
  have hE := pAg_E hag
  have hk0 := pAg_wk hag (by decide +kernel)
  have HL1 : po_Lay K R1 st := kl_reinstate HL HK.1 _ _ h1
  have HL2 : po_Lay K (wR R1 (o + 836) w) st := ly_wR HL1 HK.2.2.1 w
  have hin2 : pInv I2 (wR R1 (o + 836) w) o (o + 828) st (j + 1) := pInv_R hin (wR_at _ _ _)
  refine po_aload_n hF dL_law_1480 rfl rfl ?_
  refine lw_arg (ti := 1) (t := 1) (m := 4 * j) C rfl rfl dL_law_1481 dL_law_1482 dL_law_1484 dL_law_1485 dL_law_1486 (by decide) (by omega) hLs ?_
  refine po_aload_n hF dL_law_1487 rfl rfl ?_
  refine po_callSW (As := [.ref o, .int (xs (4 * j + 1)), .ref (o + 836)]) (S := []) (v := (wk sIO w)) (R' := wR R1 (o + 836) w) (I' := I1) hF dL_law_1488 wq_1121 mw_L_reinstate (w_reinstate HL HK.1 HK.2.2.1 h1 hE) rfl (lw_rt C (by decide) (by decide) (by omega) (by omega)) (Nat.le_of_ble_eq_true rfl) rfl ?_
  refine po_istore hF dL_law_1491 (by decide) rfl ?_
  refine po_aload_n hF dL_law_1493 rfl rfl ?_
  refine lw_arg (ti := 1) (t := 1) (m := 4 * j) C rfl rfl dL_law_1494 dL_law_1495 dL_law_1497 dL_law_1498 dL_law_1499 (by decide) (by omega) hLs ?_
  refine po_callV (As := [.int (xs (4 * j + 1))]) (S := []) (c := 8) (v := some (.int v)) (K' := K) (R' := wR R1 (o + 836) w) (I' := I2) (z' := none) hF dL_law_1500 wq_1644 mv_X8_reinstate ws_X8_reinstate rfl rfl HK.2.1 (c_X8_reinstate HL2 HK.2.1 h2) rfl (lw_rt C (by decide) (by decide) (by omega) (by omega)) (Nat.le_of_ble_eq_true rfl) rfl ?_
  refine po_istore hF dL_law_1503 (by decide) rfl ?_
  refine po_aload_n hF dL_law_1505 rfl rfl ?_
  refine po_callV (As := []) (S := []) (c := 8) (v := some (.int (I2 (o + 828) 0))) (K' := K) (R' := wR R1 (o + 836) w) (I' := I2) (z' := none) hF dL_law_1506 wq_1209 mv_X8_thrown ws_X8_thrown rfl rfl HK.2.1 (c_X8_thrown HL2 HK.2.1 (ρ := I2 (o + 828) 0) rfl) rfl (lw_rt C (by decide) (by decide) (by omega) (by omega)) (Nat.le_of_ble_eq_true rfl) rfl ?_
  refine po_iload hF dL_law_1509 rfl ?_
  refine po_icmp_eq (tgt := 1516) (A := some ()) (B := Option.none) (r := ()) hF dL_law_1511 (by decide) (if_pos hk0) (fun _ => ?_) (fun hm => by cases hm)
  refine po_iload hF dL_law_1516 rfl ?_
  by_cases hw : wk sIO w = 0
  · obtain ⟨x, rfl⟩ := wk_0 hw
    obtain rfl : v = x := hag.2
    refine po_if_ne (tgt := 1533) (A := Option.none) (B := some ()) (r := ()) hF dL_law_1518 (by decide) (if_pos hw) (fun hm => by cases hm) (fun _ => ?_)
    refine po_aload_n hF dL_law_1521 rfl rfl ?_
    refine po_iconst (v := 0) hF dL_law_1522 (by decide) ?_
    refine po_lald (v := v.toInt64) hF dL_law_1523 HK.2.2.1 (by decide) (show po_u R1 (o + 836) 0 (.long v.toInt64) (o + 836) ((0 : Int32).toNatClampNeg) = _ by rw [show (0 : Int32).toNatClampNeg = 0 by decide]; exact po_uaa _ _ _ _) ?_
    refine po_iload hF dL_law_1524 rfl ?_
    refine po_i2l hF dL_law_1526 ?_
    refine po_lcmp (v := 0) hF dL_law_1527 ((lg_cmp_eq _ _).mpr rfl) ?_
    refine po_if_eq (tgt := 1533) (A := some ()) (B := Option.none) (r := ()) hF dL_law_1528 (by decide) (if_pos rfl) (fun _ => ?_) (fun hm => by cases hm)
    refine po_goto (tgt := 1939) hF dL_law_1533 (by decide) ?_
    refine po_sub (L' := lwL b o (Int32.ofNat (4 * j))) rfl ?_
    refine po_widen (k' := k + 8) (n' := n + 100) (by omega) (by omega) ?_
    exact kk _ _ HL2 hin2
  · refine po_if_ne (tgt := 1533) (A := some ()) (B := Option.none) (r := ()) hF dL_law_1518 (by decide) (if_neg hw) (fun _ => ?_) (fun hm => by cases hm)
    refine po_goto (tgt := 1939) hF dL_law_1533 (by decide) ?_
    refine po_sub (L' := lwL b o (Int32.ofNat (4 * j))) rfl ?_
    refine po_widen (k' := k + 8) (n' := n + 100) (by omega) (by omega) ?_
    exact kk _ _ HL2 hin2
theorem lc_extend (C : lwX X G st b Ls xs) (HK : lwK K o) (HL : po_Lay K R st) (hI : pInv I R o (o + 828) st j) (hj : 4 * j + 3 < Ls) (hLs : Ls ≤ 2048) (hk : k + 8 ≤ 603072) (hn : n + 100 ≤ 7202922) (kk : ∀ R' I', po_Lay K R' st → pInv I' R' o (o + 828) st (j + 1) → po_V X G 8 Q (k + 8) (n + 100) 1939 (lwL b o (Int32.ofNat (4 * j))) [] K R' I' none) : po_V X G 8 Q k n 1536 (lwL b o (Int32.ofNat (4 * j))) [] K R I none := by
  have hF := C.1
  obtain ⟨w, I1, R1, v, I2, h1, h2, hag, hin⟩ := L_extend hI (by omega) (xs (4 * j + 1))
  have hE := pAg_E hag
  have hk0 := pAg_wk hag (by decide +kernel)
  have HL1 : po_Lay K R1 st := kl_extend HL HK.1 _ _ h1
  have HL2 : po_Lay K (wR R1 (o + 836) w) st := ly_wR HL1 HK.2.2.1 w
  have hin2 : pInv I2 (wR R1 (o + 836) w) o (o + 828) st (j + 1) := pInv_R hin (wR_at _ _ _)
  refine po_aload_n hF dL_law_1536 rfl rfl ?_
  refine lw_arg (ti := 1) (t := 1) (m := 4 * j) C rfl rfl dL_law_1537 dL_law_1538 dL_law_1540 dL_law_1541 dL_law_1542 (by decide) (by omega) hLs ?_
  refine po_aload_n hF dL_law_1543 rfl rfl ?_
  refine po_callSW (As := [.ref o, .int (xs (4 * j + 1)), .ref (o + 836)]) (S := []) (v := (wk sIO w)) (R' := wR R1 (o + 836) w) (I' := I1) hF dL_law_1544 wq_1129 mw_L_extend (w_extend HL HK.1 HK.2.2.1 h1 hE) rfl (lw_rt C (by decide) (by decide) (by omega) (by omega)) (Nat.le_of_ble_eq_true rfl) rfl ?_
  refine po_istore hF dL_law_1547 (by decide) rfl ?_
  refine po_aload_n hF dL_law_1549 rfl rfl ?_
  refine lw_arg (ti := 1) (t := 1) (m := 4 * j) C rfl rfl dL_law_1550 dL_law_1551 dL_law_1553 dL_law_1554 dL_law_1555 (by decide) (by omega) hLs ?_
  refine po_callV (As := [.int (xs (4 * j + 1))]) (S := []) (c := 8) (v := some (.int v)) (K' := K) (R' := wR R1 (o + 836) w) (I' := I2) (z' := none) hF dL_law_1556 wq_1648 mv_X8_extend ws_X8_extend rfl rfl HK.2.1 (c_X8_extend HL2 HK.2.1 h2) rfl (lw_rt C (by decide) (by decide) (by omega) (by omega)) (Nat.le_of_ble_eq_true rfl) rfl ?_
  refine po_istore hF dL_law_1559 (by decide) rfl ?_
  refine po_aload_n hF dL_law_1561 rfl rfl ?_
  refine po_callV (As := []) (S := []) (c := 8) (v := some (.int (I2 (o + 828) 0))) (K' := K) (R' := wR R1 (o + 836) w) (I' := I2) (z' := none) hF dL_law_1562 wq_1209 mv_X8_thrown ws_X8_thrown rfl rfl HK.2.1 (c_X8_thrown HL2 HK.2.1 (ρ := I2 (o + 828) 0) rfl) rfl (lw_rt C (by decide) (by decide) (by omega) (by omega)) (Nat.le_of_ble_eq_true rfl) rfl ?_
  refine po_iload hF dL_law_1565 rfl ?_
  refine po_icmp_eq (tgt := 1572) (A := some ()) (B := Option.none) (r := ()) hF dL_law_1567 (by decide) (if_pos hk0) (fun _ => ?_) (fun hm => by cases hm)
  refine po_iload hF dL_law_1572 rfl ?_
  by_cases hw : wk sIO w = 0
  · obtain ⟨x, rfl⟩ := wk_0 hw
    obtain rfl : v = x := hag.2
    refine po_if_ne (tgt := 1589) (A := Option.none) (B := some ()) (r := ()) hF dL_law_1574 (by decide) (if_pos hw) (fun hm => by cases hm) (fun _ => ?_)
    refine po_aload_n hF dL_law_1577 rfl rfl ?_
    refine po_iconst (v := 0) hF dL_law_1578 (by decide) ?_
    refine po_lald (v := v.toInt64) hF dL_law_1579 HK.2.2.1 (by decide) (show po_u R1 (o + 836) 0 (.long v.toInt64) (o + 836) ((0 : Int32).toNatClampNeg) = _ by rw [show (0 : Int32).toNatClampNeg = 0 by decide]; exact po_uaa _ _ _ _) ?_
    refine po_iload hF dL_law_1580 rfl ?_
    refine po_i2l hF dL_law_1582 ?_
    refine po_lcmp (v := 0) hF dL_law_1583 ((lg_cmp_eq _ _).mpr rfl) ?_
    refine po_if_eq (tgt := 1589) (A := some ()) (B := Option.none) (r := ()) hF dL_law_1584 (by decide) (if_pos rfl) (fun _ => ?_) (fun hm => by cases hm)
    refine po_goto (tgt := 1939) hF dL_law_1589 (by decide) ?_
    refine po_sub (L' := lwL b o (Int32.ofNat (4 * j))) rfl ?_
    refine po_widen (k' := k + 8) (n' := n + 100) (by omega) (by omega) ?_
    exact kk _ _ HL2 hin2
  · refine po_if_ne (tgt := 1589) (A := some ()) (B := Option.none) (r := ()) hF dL_law_1574 (by decide) (if_neg hw) (fun _ => ?_) (fun hm => by cases hm)
    refine po_goto (tgt := 1939) hF dL_law_1589 (by decide) ?_
    refine po_sub (L' := lwL b o (Int32.ofNat (4 * j))) rfl ?_
    refine po_widen (k' := k + 8) (n' := n + 100) (by omega) (by omega) ?_
    exact kk _ _ HL2 hin2
theorem lc_pass (C : lwX X G st b Ls xs) (HK : lwK K o) (HL : po_Lay K R st) (hI : pInv I R o (o + 828) st j) (hj : 4 * j + 3 < Ls) (hLs : Ls ≤ 2048) (hk : k + 8 ≤ 603072) (hn : n + 100 ≤ 7202922) (kk : ∀ R' I', po_Lay K R' st → pInv I' R' o (o + 828) st (j + 1) → po_V X G 8 Q (k + 8) (n + 100) 1939 (lwL b o (Int32.ofNat (4 * j))) [] K R' I' none) : po_V X G 8 Q k n 1592 (lwL b o (Int32.ofNat (4 * j))) [] K R I none := by
  have hF := C.1
  obtain ⟨w, I1, R1, v, I2, h1, h2, hag, hin⟩ := L_pass hI (by omega) (xs (4 * j + 1))
  have hE : ∀ E, w = .inr E → E = sIA := fun E hE => ne_pass _ _ h1 E hE
  have hk0 := pAg_wk hag (by decide +kernel)
  have HL1 : po_Lay K R1 st := kl_pass HL HK.1 _ _ h1
  have HL2 : po_Lay K (wR R1 (o + 836) w) st := ly_wR HL1 HK.2.2.1 w
  have hin2 : pInv I2 (wR R1 (o + 836) w) o (o + 828) st (j + 1) := pInv_R hin (wR_at _ _ _)
  refine po_aload_n hF dL_law_1592 rfl rfl ?_
  refine lw_arg (ti := 1) (t := 1) (m := 4 * j) C rfl rfl dL_law_1593 dL_law_1594 dL_law_1596 dL_law_1597 dL_law_1598 (by decide) (by omega) hLs ?_
  refine po_aload_n hF dL_law_1599 rfl rfl ?_
  refine po_callSW (As := [.ref o, .int (xs (4 * j + 1)), .ref (o + 836)]) (S := []) (v := (wk sIA w)) (R' := wR R1 (o + 836) w) (I' := I1) hF dL_law_1600 wq_1137 mw_L_pass (w_pass HL HK.1 HK.2.2.1 h1 hE) rfl (lw_rt C (by decide) (by decide) (by omega) (by omega)) (Nat.le_of_ble_eq_true rfl) rfl ?_
  refine po_istore hF dL_law_1603 (by decide) rfl ?_
  refine po_aload_n hF dL_law_1605 rfl rfl ?_
  refine lw_arg (ti := 1) (t := 1) (m := 4 * j) C rfl rfl dL_law_1606 dL_law_1607 dL_law_1609 dL_law_1610 dL_law_1611 (by decide) (by omega) hLs ?_
  refine po_callV (As := [.int (xs (4 * j + 1))]) (S := []) (c := 8) (v := some (.int v)) (K' := K) (R' := wR R1 (o + 836) w) (I' := I2) (z' := none) hF dL_law_1612 wq_1652 mv_X8_pass ws_X8_pass rfl rfl HK.2.1 (c_X8_pass HL2 HK.2.1 h2) rfl (lw_rt C (by decide) (by decide) (by omega) (by omega)) (Nat.le_of_ble_eq_true rfl) rfl ?_
  refine po_istore hF dL_law_1615 (by decide) rfl ?_
  refine po_aload_n hF dL_law_1617 rfl rfl ?_
  refine po_callV (As := []) (S := []) (c := 8) (v := some (.int (I2 (o + 828) 0))) (K' := K) (R' := wR R1 (o + 836) w) (I' := I2) (z' := none) hF dL_law_1618 wq_1209 mv_X8_thrown ws_X8_thrown rfl rfl HK.2.1 (c_X8_thrown HL2 HK.2.1 (ρ := I2 (o + 828) 0) rfl) rfl (lw_rt C (by decide) (by decide) (by omega) (by omega)) (Nat.le_of_ble_eq_true rfl) rfl ?_
  refine po_iload hF dL_law_1621 rfl ?_
  refine po_icmp_eq (tgt := 1628) (A := some ()) (B := Option.none) (r := ()) hF dL_law_1623 (by decide) (if_pos hk0) (fun _ => ?_) (fun hm => by cases hm)
  refine po_iload hF dL_law_1628 rfl ?_
  by_cases hw : wk sIA w = 0
  · obtain ⟨x, rfl⟩ := wk_0 hw
    obtain rfl : v = x := hag.2
    refine po_if_ne (tgt := 1645) (A := Option.none) (B := some ()) (r := ()) hF dL_law_1630 (by decide) (if_pos hw) (fun hm => by cases hm) (fun _ => ?_)
    refine po_aload_n hF dL_law_1633 rfl rfl ?_
    refine po_iconst (v := 0) hF dL_law_1634 (by decide) ?_
    refine po_lald (v := v.toInt64) hF dL_law_1635 HK.2.2.1 (by decide) (show po_u R1 (o + 836) 0 (.long v.toInt64) (o + 836) ((0 : Int32).toNatClampNeg) = _ by rw [show (0 : Int32).toNatClampNeg = 0 by decide]; exact po_uaa _ _ _ _) ?_
    refine po_iload hF dL_law_1636 rfl ?_
    refine po_i2l hF dL_law_1638 ?_
    refine po_lcmp (v := 0) hF dL_law_1639 ((lg_cmp_eq _ _).mpr rfl) ?_
    refine po_if_eq (tgt := 1645) (A := some ()) (B := Option.none) (r := ()) hF dL_law_1640 (by decide) (if_pos rfl) (fun _ => ?_) (fun hm => by cases hm)
    refine po_goto (tgt := 1939) hF dL_law_1645 (by decide) ?_
    refine po_sub (L' := lwL b o (Int32.ofNat (4 * j))) rfl ?_
    refine po_widen (k' := k + 8) (n' := n + 100) (by omega) (by omega) ?_
    exact kk _ _ HL2 hin2
  · refine po_if_ne (tgt := 1645) (A := some ()) (B := Option.none) (r := ()) hF dL_law_1630 (by decide) (if_neg hw) (fun _ => ?_) (fun hm => by cases hm)
    refine po_goto (tgt := 1939) hF dL_law_1645 (by decide) ?_
    refine po_sub (L' := lwL b o (Int32.ofNat (4 * j))) rfl ?_
    refine po_widen (k' := k + 8) (n' := n + 100) (by omega) (by omega) ?_
    exact kk _ _ HL2 hin2
theorem lc_account (C : lwX X G st b Ls xs) (HK : lwK K o) (HL : po_Lay K R st) (hI : pInv I R o (o + 828) st j) (hj : 4 * j + 3 < Ls) (hLs : Ls ≤ 2048) (hk : k + 8 ≤ 603072) (hn : n + 100 ≤ 7202922) (kk : ∀ R' I', po_Lay K R' st → pInv I' R' o (o + 828) st (j + 1) → po_V X G 8 Q (k + 8) (n + 100) 1939 (lwL b o (Int32.ofNat (4 * j))) [] K R' I' none) : po_V X G 8 Q k n 1648 (lwL b o (Int32.ofNat (4 * j))) [] K R I none := by
  have hF := C.1
  obtain ⟨w, v, I2, h1, h2, hag, hscr⟩ := L_account hI (xs (4 * j + 1)) (xs (4 * j + 2))
  have hin := (hscr.inv hI).up
  have hE := pAg_E hag
  have hk0 := pAg_wk hag (by decide +kernel)
  have HL1 : po_Lay K R st := HL
  have HL2 : po_Lay K (wR R (o + 836) w) st := ly_wR HL1 HK.2.2.1 w
  have hin2 : pInv I2 (wR R (o + 836) w) o (o + 828) st (j + 1) := pInv_R hin (wR_at _ _ _)
  refine po_aload_n hF dL_law_1648 rfl rfl ?_
  refine lw_arg (ti := 1) (t := 1) (m := 4 * j) C rfl rfl dL_law_1649 dL_law_1650 dL_law_1652 dL_law_1653 dL_law_1654 (by decide) (by omega) hLs ?_
  refine lw_arg (ti := 2) (t := 2) (m := 4 * j) C rfl rfl dL_law_1655 dL_law_1656 dL_law_1658 dL_law_1659 dL_law_1660 (by decide) (by omega) hLs ?_
  refine po_aload_n hF dL_law_1661 rfl rfl ?_
  refine po_callSW (As := [.ref o, .int (xs (4 * j + 1)), .int (xs (4 * j + 2)), .ref (o + 836)]) (S := []) (v := (wk sIO w)) (R' := wR R (o + 836) w) (I' := I) hF dL_law_1662 wq_1145 mw_L_account (w_account HL HK.1 HK.2.2.1 h1 hE) rfl (lw_rt C (by decide) (by decide) (by omega) (by omega)) (Nat.le_of_ble_eq_true rfl) rfl ?_
  refine po_istore hF dL_law_1665 (by decide) rfl ?_
  refine po_aload_n hF dL_law_1667 rfl rfl ?_
  refine lw_arg (ti := 1) (t := 1) (m := 4 * j) C rfl rfl dL_law_1668 dL_law_1669 dL_law_1671 dL_law_1672 dL_law_1673 (by decide) (by omega) hLs ?_
  refine lw_arg (ti := 2) (t := 2) (m := 4 * j) C rfl rfl dL_law_1674 dL_law_1675 dL_law_1677 dL_law_1678 dL_law_1679 (by decide) (by omega) hLs ?_
  refine po_callV (As := [.int (xs (4 * j + 1)), .int (xs (4 * j + 2))]) (S := []) (c := 8) (v := some (.int v)) (K' := K) (R' := wR R (o + 836) w) (I' := I2) (z' := none) hF dL_law_1680 wq_1656 mv_X8_account ws_X8_account rfl rfl HK.2.1 (c_X8_account HL2 HK.2.1 h2) rfl (lw_rt C (by decide) (by decide) (by omega) (by omega)) (Nat.le_of_ble_eq_true rfl) rfl ?_
  refine po_istore hF dL_law_1683 (by decide) rfl ?_
  refine po_aload_n hF dL_law_1685 rfl rfl ?_
  refine po_callV (As := []) (S := []) (c := 8) (v := some (.int (I2 (o + 828) 0))) (K' := K) (R' := wR R (o + 836) w) (I' := I2) (z' := none) hF dL_law_1686 wq_1209 mv_X8_thrown ws_X8_thrown rfl rfl HK.2.1 (c_X8_thrown HL2 HK.2.1 (ρ := I2 (o + 828) 0) rfl) rfl (lw_rt C (by decide) (by decide) (by omega) (by omega)) (Nat.le_of_ble_eq_true rfl) rfl ?_
  refine po_iload hF dL_law_1689 rfl ?_
  refine po_icmp_eq (tgt := 1696) (A := some ()) (B := Option.none) (r := ()) hF dL_law_1691 (by decide) (if_pos hk0) (fun _ => ?_) (fun hm => by cases hm)
  refine po_iload hF dL_law_1696 rfl ?_
  by_cases hw : wk sIO w = 0
  · obtain ⟨x, rfl⟩ := wk_0 hw
    obtain rfl : v = x := hag.2
    refine po_if_ne (tgt := 1713) (A := Option.none) (B := some ()) (r := ()) hF dL_law_1698 (by decide) (if_pos hw) (fun hm => by cases hm) (fun _ => ?_)
    refine po_aload_n hF dL_law_1701 rfl rfl ?_
    refine po_iconst (v := 0) hF dL_law_1702 (by decide) ?_
    refine po_lald (v := v.toInt64) hF dL_law_1703 HK.2.2.1 (by decide) (show po_u R (o + 836) 0 (.long v.toInt64) (o + 836) ((0 : Int32).toNatClampNeg) = _ by rw [show (0 : Int32).toNatClampNeg = 0 by decide]; exact po_uaa _ _ _ _) ?_
    refine po_iload hF dL_law_1704 rfl ?_
    refine po_i2l hF dL_law_1706 ?_
    refine po_lcmp (v := 0) hF dL_law_1707 ((lg_cmp_eq _ _).mpr rfl) ?_
    refine po_if_eq (tgt := 1713) (A := some ()) (B := Option.none) (r := ()) hF dL_law_1708 (by decide) (if_pos rfl) (fun _ => ?_) (fun hm => by cases hm)
    refine po_goto (tgt := 1939) hF dL_law_1713 (by decide) ?_
    refine po_sub (L' := lwL b o (Int32.ofNat (4 * j))) rfl ?_
    refine po_widen (k' := k + 8) (n' := n + 100) (by omega) (by omega) ?_
    exact kk _ _ HL2 hin2
  · refine po_if_ne (tgt := 1713) (A := some ()) (B := Option.none) (r := ()) hF dL_law_1698 (by decide) (if_neg hw) (fun _ => ?_) (fun hm => by cases hm)
    refine po_goto (tgt := 1939) hF dL_law_1713 (by decide) ?_
    refine po_sub (L' := lwL b o (Int32.ofNat (4 * j))) rfl ?_
    refine po_widen (k' := k + 8) (n' := n + 100) (by omega) (by omega) ?_
    exact kk _ _ HL2 hin2
theorem lc_meanFloorArea (C : lwX X G st b Ls xs) (HK : lwK K o) (HL : po_Lay K R st) (hI : pInv I R o (o + 828) st j) (hj : 4 * j + 3 < Ls) (hLs : Ls ≤ 2048) (hk : k + 8 ≤ 603072) (hn : n + 100 ≤ 7202922) (kk : ∀ R' I', po_Lay K R' st → pInv I' R' o (o + 828) st (j + 1) → po_V X G 8 Q (k + 8) (n + 100) 1939 (lwL b o (Int32.ofNat (4 * j))) [] K R' I' none) : po_V X G 8 Q k n 1716 (lwL b o (Int32.ofNat (4 * j))) [] K R I none := by
  have hF := C.1
  obtain ⟨w, v, I2, h1, h2, hag, hscr⟩ := L_mean hI
  have hin := (hscr.inv hI).up
  have hN := fun v hv => (pg_f2d (mean_n hI h1 v hv))
  have hE : ∀ E, w = .inr E → E = sAE := by
    rintro E rfl
    rcases hag with ⟨g, -⟩ | ⟨g, -⟩
    · cases g
    · exact Sum.inr.inj g
  have hk0 : I2 (o + 828) 0 = wkd w := by
    rcases hag with ⟨rfl, g⟩ | ⟨rfl, g⟩
    · exact g
    · exact g
  have HL1 : po_Lay K R st := HL
  have HL2 : po_Lay K (wD R (o + 837) w) st := ly_wD HL1 HK.2.2.2 w
  have hin2 : pInv I2 (wD R (o + 837) w) o (o + 828) st (j + 1) := pInv_R hin (wD_at _ _ _)
  refine po_aload_n hF dL_law_1716 rfl rfl ?_
  refine po_aload hF dL_law_1717 rfl ?_
  refine po_callSW (As := [.ref o, .ref (o + 837)]) (S := []) (v := (wkd w)) (R' := wD R (o + 837) w) (I' := I) hF dL_law_1719 wq_1153 mw_L_meanFloorArea (w_meanFloorArea HL HK.1 HK.2.2.2 h1 hE (fun v hv => (hN v hv).1)) rfl (lw_rt C (by decide) (by decide) (by omega) (by omega)) (Nat.le_of_ble_eq_true rfl) rfl ?_
  refine po_istore hF dL_law_1722 (by decide) rfl ?_
  refine po_aload_n hF dL_law_1724 rfl rfl ?_
  refine po_callV (As := []) (S := []) (c := 8) (v := some (.float v)) (K' := K) (R' := wD R (o + 837) w) (I' := I2) (z' := none) hF dL_law_1725 wq_1664 mv_X8_meanFloorArea ws_X8_meanFloorArea rfl rfl HK.2.1 (c_X8_meanFloorArea HL2 HK.2.1 h2) rfl (lw_rt C (by decide) (by decide) (by omega) (by omega)) (Nat.le_of_ble_eq_true rfl) rfl ?_
  refine po_fstore hF dL_law_1728 (by decide) rfl ?_
  refine po_aload_n hF dL_law_1730 rfl rfl ?_
  refine po_callV (As := []) (S := []) (c := 8) (v := some (.int (I2 (o + 828) 0))) (K' := K) (R' := wD R (o + 837) w) (I' := I2) (z' := none) hF dL_law_1731 wq_1209 mv_X8_thrown ws_X8_thrown rfl rfl HK.2.1 (c_X8_thrown HL2 HK.2.1 (ρ := I2 (o + 828) 0) rfl) rfl (lw_rt C (by decide) (by decide) (by omega) (by omega)) (Nat.le_of_ble_eq_true rfl) rfl ?_
  refine po_iload hF dL_law_1734 rfl ?_
  refine po_icmp_eq (tgt := 1741) (A := some ()) (B := Option.none) (r := ()) hF dL_law_1736 (by decide) (if_pos hk0) (fun _ => ?_) (fun hm => by cases hm)
  refine po_iload hF dL_law_1741 rfl ?_
  cases w with
  | inl x =>
    obtain rfl : x = v := by
      rcases hag with ⟨g, -⟩ | ⟨g, -⟩
      · exact Sum.inl.inj g
      · cases g
    refine po_if_ne (tgt := 1779) (A := Option.none) (B := some ()) (r := ()) hF dL_law_1743 (by decide) (if_pos (show wkd (.inl x) = 0 from rfl)) (fun hm => by cases hm) (fun _ => ?_)
    refine po_aload hF dL_law_1746 rfl ?_
    refine po_iconst (v := 0) hF dL_law_1748 (by decide) ?_
    refine po_dald (v := FP.f2d x) hF dL_law_1749 HK.2.2.2 (by decide) (show po_u R (o + 837) 0 (.double (FP.f2d x)) (o + 837) ((0 : Int32).toNatClampNeg) = _ by rw [show (0 : Int32).toNatClampNeg = 0 by decide]; exact po_uaa _ _ _ _) ?_
    refine po_fload hF dL_law_1750 rfl ?_
    refine po_f2d hF dL_law_1752 (hN x rfl).1 ?_
    refine po_dcmp hF dL_law_1753 ?_
    rw [(hN x rfl).2]
    refine po_if_eq (tgt := 1779) (A := some ()) (B := Option.none) (r := ()) hF dL_law_1754 (by decide) (if_pos (show Op.cmpValue (some .eq) .l = 0 from rfl)) (fun _ => ?_) (fun hm => by cases hm)
    refine po_goto (tgt := 1939) hF dL_law_1779 (by decide) ?_
    refine po_sub (L' := lwL b o (Int32.ofNat (4 * j))) rfl ?_
    refine po_widen (k' := k + 8) (n' := n + 100) (by omega) (by omega) ?_
    exact kk _ _ HL2 hin2
  | inr E =>
    refine po_if_ne (tgt := 1779) (A := some ()) (B := Option.none) (r := ()) hF dL_law_1743 (by decide) (if_neg (show ¬ (1 : Int32) = 0 from by decide)) (fun _ => ?_) (fun hm => by cases hm)
    refine po_goto (tgt := 1939) hF dL_law_1779 (by decide) ?_
    refine po_sub (L' := lwL b o (Int32.ofNat (4 * j))) rfl ?_
    refine po_widen (k' := k + 8) (n' := n + 100) (by omega) (by omega) ?_
    exact kk _ _ HL2 hin2
theorem lc_count (C : lwX X G st b Ls xs) (HK : lwK K o) (HL : po_Lay K R st) (hI : pInv I R o (o + 828) st j) (hj : 4 * j + 3 < Ls) (hLs : Ls ≤ 2048) (hk : k + 8 ≤ 603072) (hn : n + 100 ≤ 7202922) (kk : ∀ R' I', po_Lay K R' st → pInv I' R' o (o + 828) st (j + 1) → po_V X G 8 Q (k + 8) (n + 100) 1939 (lwL b o (Int32.ofNat (4 * j))) [] K R' I' none) : po_V X G 8 Q k n 1782 (lwL b o (Int32.ofNat (4 * j))) [] K R I none := by
  have hF := C.1
  obtain ⟨w, v, I2, h1, h2, hag, hscr⟩ := L_count hI (xs (4 * j + 1))
  have hin := (hscr.inv hI).up
  have hE : ∀ E, w = .inr E → E = sIA := fun E hE => ne_count _ _ h1 E hE
  have hk0 := pAg_wk hag (by decide +kernel)
  have HL1 : po_Lay K R st := HL
  have HL2 : po_Lay K (wR R (o + 836) w) st := ly_wR HL1 HK.2.2.1 w
  have hin2 : pInv I2 (wR R (o + 836) w) o (o + 828) st (j + 1) := pInv_R hin (wR_at _ _ _)
  refine po_aload_n hF dL_law_1782 rfl rfl ?_
  refine lw_arg (ti := 1) (t := 1) (m := 4 * j) C rfl rfl dL_law_1783 dL_law_1784 dL_law_1786 dL_law_1787 dL_law_1788 (by decide) (by omega) hLs ?_
  refine po_aload_n hF dL_law_1789 rfl rfl ?_
  refine po_callSW (As := [.ref o, .int (xs (4 * j + 1)), .ref (o + 836)]) (S := []) (v := (wk sIA w)) (R' := wR R (o + 836) w) (I' := I) hF dL_law_1790 wq_1177 mw_L_count (w_count HL HK.1 HK.2.2.1 h1 hE) rfl (lw_rt C (by decide) (by decide) (by omega) (by omega)) (Nat.le_of_ble_eq_true rfl) rfl ?_
  refine po_istore hF dL_law_1793 (by decide) rfl ?_
  refine po_aload_n hF dL_law_1795 rfl rfl ?_
  refine lw_arg (ti := 1) (t := 1) (m := 4 * j) C rfl rfl dL_law_1796 dL_law_1797 dL_law_1799 dL_law_1800 dL_law_1801 (by decide) (by omega) hLs ?_
  refine po_callV (As := [.int (xs (4 * j + 1))]) (S := []) (c := 8) (v := some (.int v)) (K' := K) (R' := wR R (o + 836) w) (I' := I2) (z' := none) hF dL_law_1802 wq_1672 mv_X8_count ws_X8_count rfl rfl HK.2.1 (c_X8_count HL2 HK.2.1 h2) rfl (lw_rt C (by decide) (by decide) (by omega) (by omega)) (Nat.le_of_ble_eq_true rfl) rfl ?_
  refine po_istore hF dL_law_1805 (by decide) rfl ?_
  refine po_aload_n hF dL_law_1807 rfl rfl ?_
  refine po_callV (As := []) (S := []) (c := 8) (v := some (.int (I2 (o + 828) 0))) (K' := K) (R' := wR R (o + 836) w) (I' := I2) (z' := none) hF dL_law_1808 wq_1209 mv_X8_thrown ws_X8_thrown rfl rfl HK.2.1 (c_X8_thrown HL2 HK.2.1 (ρ := I2 (o + 828) 0) rfl) rfl (lw_rt C (by decide) (by decide) (by omega) (by omega)) (Nat.le_of_ble_eq_true rfl) rfl ?_
  refine po_iload hF dL_law_1811 rfl ?_
  refine po_icmp_eq (tgt := 1818) (A := some ()) (B := Option.none) (r := ()) hF dL_law_1813 (by decide) (if_pos hk0) (fun _ => ?_) (fun hm => by cases hm)
  refine po_iload hF dL_law_1818 rfl ?_
  by_cases hw : wk sIA w = 0
  · obtain ⟨x, rfl⟩ := wk_0 hw
    obtain rfl : v = x := hag.2
    refine po_if_ne (tgt := 1835) (A := Option.none) (B := some ()) (r := ()) hF dL_law_1820 (by decide) (if_pos hw) (fun hm => by cases hm) (fun _ => ?_)
    refine po_aload_n hF dL_law_1823 rfl rfl ?_
    refine po_iconst (v := 0) hF dL_law_1824 (by decide) ?_
    refine po_lald (v := v.toInt64) hF dL_law_1825 HK.2.2.1 (by decide) (show po_u R (o + 836) 0 (.long v.toInt64) (o + 836) ((0 : Int32).toNatClampNeg) = _ by rw [show (0 : Int32).toNatClampNeg = 0 by decide]; exact po_uaa _ _ _ _) ?_
    refine po_iload hF dL_law_1826 rfl ?_
    refine po_i2l hF dL_law_1828 ?_
    refine po_lcmp (v := 0) hF dL_law_1829 ((lg_cmp_eq _ _).mpr rfl) ?_
    refine po_if_eq (tgt := 1835) (A := some ()) (B := Option.none) (r := ()) hF dL_law_1830 (by decide) (if_pos rfl) (fun _ => ?_) (fun hm => by cases hm)
    refine po_goto (tgt := 1939) hF dL_law_1835 (by decide) ?_
    refine po_sub (L' := lwL b o (Int32.ofNat (4 * j))) rfl ?_
    refine po_widen (k' := k + 8) (n' := n + 100) (by omega) (by omega) ?_
    exact kk _ _ HL2 hin2
  · refine po_if_ne (tgt := 1835) (A := some ()) (B := Option.none) (r := ()) hF dL_law_1820 (by decide) (if_neg hw) (fun _ => ?_) (fun hm => by cases hm)
    refine po_goto (tgt := 1939) hF dL_law_1835 (by decide) ?_
    refine po_sub (L' := lwL b o (Int32.ofNat (4 * j))) rfl ?_
    refine po_widen (k' := k + 8) (n' := n + 100) (by omega) (by omega) ?_
    exact kk _ _ HL2 hin2
theorem lc_undo (C : lwX X G st b Ls xs) (HK : lwK K o) (HL : po_Lay K R st) (hI : pInv I R o (o + 828) st j) (hj : 4 * j + 3 < Ls) (hLs : Ls ≤ 2048) (hk : k + 8 ≤ 603072) (hn : n + 100 ≤ 7202922) (kk : ∀ R' I', po_Lay K R' st → pInv I' R' o (o + 828) st (j + 1) → po_V X G 8 Q (k + 8) (n + 100) 1939 (lwL b o (Int32.ofNat (4 * j))) [] K R' I' none) : po_V X G 8 Q k n 1838 (lwL b o (Int32.ofNat (4 * j))) [] K R I none := by
  have hF := C.1
  obtain ⟨w, I1, v, I2, h1, h2, hag, hin⟩ := L_undo hI
  have hE : ∀ E, w = .inr E → E = sIS := fun E hE => ne_undo _ h1 E hE
  have hk0 := pAg_wk hag (by decide +kernel)
  have HL1 : po_Lay K R st := HL
  have HL2 : po_Lay K (wR R (o + 836) w) st := ly_wR HL1 HK.2.2.1 w
  have hin2 : pInv I2 (wR R (o + 836) w) o (o + 828) st (j + 1) := pInv_R hin (wR_at _ _ _)
  refine po_aload_n hF dL_law_1838 rfl rfl ?_
  refine po_aload_n hF dL_law_1839 rfl rfl ?_
  refine po_callSW (As := [.ref o, .ref (o + 836)]) (S := []) (v := (wk sIS w)) (R' := wR R (o + 836) w) (I' := I1) hF dL_law_1840 wq_1193 mw_L_undo (w_undo HL HK.1 HK.2.2.1 h1 hE) rfl (lw_rt C (by decide) (by decide) (by omega) (by omega)) (Nat.le_of_ble_eq_true rfl) rfl ?_
  refine po_istore hF dL_law_1843 (by decide) rfl ?_
  refine po_aload_n hF dL_law_1845 rfl rfl ?_
  refine po_callV (As := []) (S := []) (c := 8) (v := some (.int v)) (K' := K) (R' := wR R (o + 836) w) (I' := I2) (z' := none) hF dL_law_1846 wq_1680 mv_X8_undo ws_X8_undo rfl rfl HK.2.1 (c_X8_undo HL2 HK.2.1 h2) rfl (lw_rt C (by decide) (by decide) (by omega) (by omega)) (Nat.le_of_ble_eq_true rfl) rfl ?_
  refine po_istore hF dL_law_1849 (by decide) rfl ?_
  refine po_aload_n hF dL_law_1851 rfl rfl ?_
  refine po_callV (As := []) (S := []) (c := 8) (v := some (.int (I2 (o + 828) 0))) (K' := K) (R' := wR R (o + 836) w) (I' := I2) (z' := none) hF dL_law_1852 wq_1209 mv_X8_thrown ws_X8_thrown rfl rfl HK.2.1 (c_X8_thrown HL2 HK.2.1 (ρ := I2 (o + 828) 0) rfl) rfl (lw_rt C (by decide) (by decide) (by omega) (by omega)) (Nat.le_of_ble_eq_true rfl) rfl ?_
  refine po_iload hF dL_law_1855 rfl ?_
  refine po_icmp_eq (tgt := 1862) (A := some ()) (B := Option.none) (r := ()) hF dL_law_1857 (by decide) (if_pos hk0) (fun _ => ?_) (fun hm => by cases hm)
  refine po_iload hF dL_law_1862 rfl ?_
  by_cases hw : wk sIS w = 0
  · obtain ⟨x, rfl⟩ := wk_0 hw
    obtain rfl : v = x := hag.2
    refine po_if_ne (tgt := 1879) (A := Option.none) (B := some ()) (r := ()) hF dL_law_1864 (by decide) (if_pos hw) (fun hm => by cases hm) (fun _ => ?_)
    refine po_aload_n hF dL_law_1867 rfl rfl ?_
    refine po_iconst (v := 0) hF dL_law_1868 (by decide) ?_
    refine po_lald (v := v.toInt64) hF dL_law_1869 HK.2.2.1 (by decide) (show po_u R (o + 836) 0 (.long v.toInt64) (o + 836) ((0 : Int32).toNatClampNeg) = _ by rw [show (0 : Int32).toNatClampNeg = 0 by decide]; exact po_uaa _ _ _ _) ?_
    refine po_iload hF dL_law_1870 rfl ?_
    refine po_i2l hF dL_law_1872 ?_
    refine po_lcmp (v := 0) hF dL_law_1873 ((lg_cmp_eq _ _).mpr rfl) ?_
    refine po_if_eq (tgt := 1879) (A := some ()) (B := Option.none) (r := ()) hF dL_law_1874 (by decide) (if_pos rfl) (fun _ => ?_) (fun hm => by cases hm)
    refine po_goto (tgt := 1939) hF dL_law_1879 (by decide) ?_
    refine po_sub (L' := lwL b o (Int32.ofNat (4 * j))) rfl ?_
    refine po_widen (k' := k + 8) (n' := n + 100) (by omega) (by omega) ?_
    exact kk _ _ HL2 hin2
  · refine po_if_ne (tgt := 1879) (A := some ()) (B := Option.none) (r := ()) hF dL_law_1864 (by decide) (if_neg hw) (fun _ => ?_) (fun hm => by cases hm)
    refine po_goto (tgt := 1939) hF dL_law_1879 (by decide) ?_
    refine po_sub (L' := lwL b o (Int32.ofNat (4 * j))) rfl ?_
    refine po_widen (k' := k + 8) (n' := n + 100) (by omega) (by omega) ?_
    exact kk _ _ HL2 hin2
theorem lc_save (C : lwX X G st b Ls xs) (HK : lwK K o) (HL : po_Lay K R st) (hI : pInv I R o (o + 828) st j) (hk : k + 8 ≤ 603072) (hn : n + 100 ≤ 7202922) (kk : ∀ R' I', po_Lay K R' st → pInv I' R' o (o + 828) st (j + 1) → po_V X G 8 Q (k + 8) (n + 100) 1939 (lwL b o (Int32.ofNat (4 * j))) [] K R' I' none) : po_V X G 8 Q k n 1882 (lwL b o (Int32.ofNat (4 * j))) [] K R I none := by
  have hF := C.1
  obtain ⟨v, I1, I2, h1, h2, hin⟩ := L_save hI
  refine po_aload_n hF dL_law_1882 rfl rfl ?_
  refine po_callV (As := []) (S := []) (c := 7) (v := some (.int v)) (K' := K) (R' := R) (I' := I1) (z' := none) hF dL_law_1883 wq_415 mv_X7_save ws_X7_save rfl rfl HK.1 (c_X7_save HL HK.1 h1) rfl (lw_rt C (by decide) (by decide) (by omega) (by omega)) (Nat.le_of_ble_eq_true rfl) rfl ?_
  refine po_aload_n hF dL_law_1886 rfl rfl ?_
  refine po_callV (As := []) (S := [.int v]) (c := 8) (v := some (.int v)) (K' := K) (R' := R) (I' := I2) (z' := none) hF dL_law_1887 wq_1684 mv_X8_save ws_X8_save rfl rfl HK.2.1 (c_X8_save HL HK.2.1 h2) rfl (lw_rt C (by decide) (by decide) (by omega) (by omega)) (Nat.le_of_ble_eq_true rfl) rfl ?_
  refine po_icmp_eq (tgt := 1939) (A := some ()) (B := Option.none) (r := ()) hF dL_law_1890 (by decide) (if_pos rfl) (fun _ => ?_) (fun hm => by cases hm)
  refine po_widen (k' := k + 8) (n' := n + 100) (by omega) (by omega) ?_
  exact kk _ _ HL hin
theorem lc_restore (C : lwX X G st b Ls xs) (HK : lwK K o) (HL : po_Lay K R st) (hI : pInv I R o (o + 828) st j) (hj : 4 * j + 3 < Ls) (hLs : Ls ≤ 2048) (hk : k + 8 ≤ 603072) (hn : n + 100 ≤ 7202922) (kk : ∀ R' I', po_Lay K R' st → pInv I' R' o (o + 828) st (j + 1) → po_V X G 8 Q (k + 8) (n + 100) 1939 (lwL b o (Int32.ofNat (4 * j))) [] K R' I' none) : po_V X G 8 Q k n 1895 (lwL b o (Int32.ofNat (4 * j))) [] K R I none := by
  have hF := C.1
  obtain ⟨w, I1, v, I2, h1, h2, hag, hin⟩ := L_restore hI
  have hE : ∀ E, w = .inr E → E = sIS := fun E hE => ne_restore _ h1 E hE
  have hk0 := pAg_wk hag (by decide +kernel)
  have HL1 : po_Lay K R st := HL
  have HL2 : po_Lay K (wR R (o + 836) w) st := ly_wR HL1 HK.2.2.1 w
  have hin2 : pInv I2 (wR R (o + 836) w) o (o + 828) st (j + 1) := pInv_R hin (wR_at _ _ _)
  refine po_aload_n hF dL_law_1895 rfl rfl ?_
  refine po_aload_n hF dL_law_1896 rfl rfl ?_
  refine po_callSW (As := [.ref o, .ref (o + 836)]) (S := []) (v := (wk sIS w)) (R' := wR R (o + 836) w) (I' := I1) hF dL_law_1897 wq_1201 mw_L_restore (w_restore HL HK.1 HK.2.2.1 h1 hE) rfl (lw_rt C (by decide) (by decide) (by omega) (by omega)) (Nat.le_of_ble_eq_true rfl) rfl ?_
  refine po_istore hF dL_law_1900 (by decide) rfl ?_
  refine po_aload_n hF dL_law_1902 rfl rfl ?_
  refine po_callV (As := []) (S := []) (c := 8) (v := some (.int v)) (K' := K) (R' := wR R (o + 836) w) (I' := I2) (z' := none) hF dL_law_1903 wq_1688 mv_X8_restore ws_X8_restore rfl rfl HK.2.1 (c_X8_restore HL2 HK.2.1 h2) rfl (lw_rt C (by decide) (by decide) (by omega) (by omega)) (Nat.le_of_ble_eq_true rfl) rfl ?_
  refine po_istore hF dL_law_1906 (by decide) rfl ?_
  refine po_aload_n hF dL_law_1908 rfl rfl ?_
  refine po_callV (As := []) (S := []) (c := 8) (v := some (.int (I2 (o + 828) 0))) (K' := K) (R' := wR R (o + 836) w) (I' := I2) (z' := none) hF dL_law_1909 wq_1209 mv_X8_thrown ws_X8_thrown rfl rfl HK.2.1 (c_X8_thrown HL2 HK.2.1 (ρ := I2 (o + 828) 0) rfl) rfl (lw_rt C (by decide) (by decide) (by omega) (by omega)) (Nat.le_of_ble_eq_true rfl) rfl ?_
  refine po_iload hF dL_law_1912 rfl ?_
  refine po_icmp_eq (tgt := 1919) (A := some ()) (B := Option.none) (r := ()) hF dL_law_1914 (by decide) (if_pos hk0) (fun _ => ?_) (fun hm => by cases hm)
  refine po_iload hF dL_law_1919 rfl ?_
  by_cases hw : wk sIS w = 0
  · obtain ⟨x, rfl⟩ := wk_0 hw
    obtain rfl : v = x := hag.2
    refine po_if_ne (tgt := 1936) (A := Option.none) (B := some ()) (r := ()) hF dL_law_1921 (by decide) (if_pos hw) (fun hm => by cases hm) (fun _ => ?_)
    refine po_aload_n hF dL_law_1924 rfl rfl ?_
    refine po_iconst (v := 0) hF dL_law_1925 (by decide) ?_
    refine po_lald (v := v.toInt64) hF dL_law_1926 HK.2.2.1 (by decide) (show po_u R (o + 836) 0 (.long v.toInt64) (o + 836) ((0 : Int32).toNatClampNeg) = _ by rw [show (0 : Int32).toNatClampNeg = 0 by decide]; exact po_uaa _ _ _ _) ?_
    refine po_iload hF dL_law_1927 rfl ?_
    refine po_i2l hF dL_law_1929 ?_
    refine po_lcmp (v := 0) hF dL_law_1930 ((lg_cmp_eq _ _).mpr rfl) ?_
    refine po_if_eq (tgt := 1936) (A := some ()) (B := Option.none) (r := ()) hF dL_law_1931 (by decide) (if_pos rfl) (fun _ => ?_) (fun hm => by cases hm)
    refine po_goto (tgt := 1939) hF dL_law_1936 (by decide) ?_
    refine po_sub (L' := lwL b o (Int32.ofNat (4 * j))) rfl ?_
    refine po_widen (k' := k + 8) (n' := n + 100) (by omega) (by omega) ?_
    exact kk _ _ HL2 hin2
  · refine po_if_ne (tgt := 1936) (A := some ()) (B := Option.none) (r := ()) hF dL_law_1921 (by decide) (if_neg hw) (fun _ => ?_) (fun hm => by cases hm)
    refine po_goto (tgt := 1939) hF dL_law_1936 (by decide) ?_
    refine po_sub (L' := lwL b o (Int32.ofNat (4 * j))) rfl ?_
    refine po_widen (k' := k + 8) (n' := n + 100) (by omega) (by omega) ?_
    exact kk _ _ HL2 hin2
end LC1
