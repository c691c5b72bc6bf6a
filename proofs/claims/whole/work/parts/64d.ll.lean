/-! ===== the law: its cases ===== -/
section Law
variable {b L : Nat} {xs : Nat → Int32} {l : Launch} {K : Kx} {F : List Nat} {x m out : Nat} {am : Nat → Nat} {hh : List (Nat × Nat × Nat × Nat)} {nm : String} {H : Hp} {g k0 : Nat}
set_option maxRecDepth 100000 in
set_option maxHeartbeats 4000000 in
theorem law_14 (htr : l.stackTraces = false) (fx : FX F m out am) (W : WS K F x m out am H g k0) (hg : 7 * g + 7 ≤ L) (hL : L ≤ 3584) (kend : ∀ H3 k, WS K F x m out am H3 (g + 1) k → JL (b, L, xs) l K hh nm 1899 [] [(4, .int (nI (7 * g))), (0, .ref b), (1, .ref x), (2, .ref m), (3, .ref out)] H3 (77 + 400 * (g + 1)) (25893 + 7000 * (g + 1))) :
    JL (b, L, xs) l K hh nm 1197 [] [(4, .int (nI (7 * g))), (0, .ref b), (1, .ref x), (2, .ref m), (3, .ref out)] H (77 + 400 * g) (25893 + 7000 * g) := by
  have hg9 : g + 1 < 2 ^ 20 := by omega
  refine JX_aload_n dL_law_1197 2 rfl ?_
  refine JL_rd (j := 1) dL_law_1198 dL_law_1199 dL_law_1201 (by decide) dL_law_1202 dL_law_1203 (q0 := 1) (q4 := 0) rfl rfl (by omega) (by omega) ?_
  refine JX_aload_n dL_law_1204 4 rfl ?_
  refine JX_callSW (n := 3) (As := [.ref x, .int (xs (7 * g + 1)), .ref out]) (rest := []) dL_law_1205 gL_law_L_clear rfl (by decide +kernel) rfl (by decide) (Nat.le_of_ble_eq_true rfl) (by omega) (by omega) (lw_clear htr fx W hg9) kI_no (kI_kx (fun kq H2 Gq => ?_))
  obtain ⟨kn, r, rfl, k5, hom, ⟨f, hf, hf0⟩, Gq⟩ := Gq
  refine JX_istore (lv' := [(5, .int (nI kn)), (4, .int (nI (7 * g))), (0, .ref b), (1, .ref x), (2, .ref m), (3, .ref out)]) dL_law_1208 (by decide) rfl ?_
  refine JX_aload_n dL_law_1210 4 rfl ?_
  refine JL_rd (j := 1) dL_law_1211 dL_law_1212 dL_law_1214 (by decide) dL_law_1215 dL_law_1216 (q0 := 2) (q4 := 1) rfl rfl (by omega) (by omega) ?_
  refine JX_callV0 (ci := 4) (n := 1) (As := [.int (xs (7 * g + 1))]) (rest := []) dL_law_1217 rfl gL_law_X4_clear rfl (by decide +kernel) rfl (by decide) hom (Nat.le_of_ble_eq_true rfl) (by omega) (by omega) Gq kH_no (kH_kx (fun r' H3 Gr => ?_))
  obtain ⟨W3, o3, hr⟩ := Gr
  refine JX_istore (lv' := [(6, .int r'), (5, .int (nI kn)), (4, .int (nI (7 * g))), (0, .ref b), (1, .ref x), (2, .ref m), (3, .ref out)]) dL_law_1220 (by decide) rfl ?_
  refine JX_aload_n dL_law_1222 5 rfl ?_
  refine JX_callV0 (ci := 4) (n := 0) (As := []) (rest := []) dL_law_1223 rfl gL_law_X4_thrown rfl (by decide +kernel) rfl (by decide) W3.om (Nat.le_of_ble_eq_true rfl) (by omega) (by omega) (W3.thr htr) kI_no (kI_kx (fun tq H4 Gt => ?_))
  obtain ⟨rfl, rfl⟩ := Gt
  refine JX_iload dL_law_1226 1 rfl ?_
  refine JX_icmp_eq (tgt := 1233) dL_law_1228 (by decide) (fun _ => ?_) (fun c => absurd rfl c)
  refine JX_iload dL_law_1233 1 rfl ?_
  refine JX_if_ne (tgt := 1257) dL_law_1235 (by decide) (fun _ => ?_) (fun c => ?_)
  · skip
    refine JX_goto (tgt := 1899) dL_law_1257 (by decide) ?_
    exact JX_sub [2, 3, 4, 5, 6] rfl (JX_wide (by omega) (by omega) (kend _ _ W3))
  · have kn0 : kn = 0 := (nI_eq (by omega) (by omega)).mp c
    have hrr := hr kn0
    have hff := hf0 kn0
    refine JX_aload_n dL_law_1238 6 rfl ?_
    refine JX_iconst (v := nI 0) dL_law_1239 (by decide) ?_
    refine JX_lald (v := f 0) dL_law_1240 (aJ_x (o3.trans hf) (by decide) (by decide)) ?_
    refine JX_iload dL_law_1241 0 rfl ?_
    refine JX_if_eq (tgt := 1250) dL_law_1243 (by decide) (fun c2 => ?_) (fun c2 => ?_)
    · refine JX_lconst (v := 0) dL_law_1250 (by decide) ?_
      refine JX_lcmp dL_law_1251 ?_
      refine JX_if_eq (tgt := 1257) dL_law_1252 (by decide) (fun _ => ?_) (fun c9 => absurd (by rw [hff, ← hrr, tlZ, if_pos c2]; exact cmp_self _) c9)
      refine JX_goto (tgt := 1899) dL_law_1257 (by decide) ?_
      exact JX_sub [2, 3, 4, 5, 6] rfl (JX_wide (by omega) (by omega) (kend _ _ W3))
    · refine JX_lconst (v := 1) dL_law_1246 (by decide) ?_
      refine JX_goto (tgt := 1251) dL_law_1247 (by decide) ?_
      refine JX_lcmp dL_law_1251 ?_
      refine JX_if_eq (tgt := 1257) dL_law_1252 (by decide) (fun _ => ?_) (fun c9 => absurd (by rw [hff, ← hrr, tlZ, if_neg c2]; exact cmp_self _) c9)
      refine JX_goto (tgt := 1899) dL_law_1257 (by decide) ?_
      exact JX_sub [2, 3, 4, 5, 6] rfl (JX_wide (by omega) (by omega) (kend _ _ W3))
set_option maxRecDepth 100000 in
set_option maxHeartbeats 4000000 in
theorem law_15 (htr : l.stackTraces = false) (fx : FX F m out am) (W : WS K F x m out am H g k0) (hg : 7 * g + 7 ≤ L) (hL : L ≤ 3584) (kend : ∀ H3 k, WS K F x m out am H3 (g + 1) k → JL (b, L, xs) l K hh nm 1899 [] [(4, .int (nI (7 * g))), (0, .ref b), (1, .ref x), (2, .ref m), (3, .ref out)] H3 (77 + 400 * (g + 1)) (25893 + 7000 * (g + 1))) :
    JL (b, L, xs) l K hh nm 1260 [] [(4, .int (nI (7 * g))), (0, .ref b), (1, .ref x), (2, .ref m), (3, .ref out)] H (77 + 400 * g) (25893 + 7000 * g) := by
  have hg9 : g + 1 < 2 ^ 20 := by omega
  refine JX_aload_n dL_law_1260 2 rfl ?_
  refine JX_callV0 (ci := 3) (n := 0) (As := []) (rest := []) dL_law_1261 rfl gL_law_X3_clearSpan rfl (by decide +kernel) rfl (by decide) W.ob (Nat.le_of_ble_eq_true rfl) (by omega) (by omega) (tw_clearSpan htr fx W hg9 (Nat.le_refl _) (Nat.le_refl _)) kI_no (kI_kx (fun a H2 Gq => ?_))
  obtain ⟨⟨⟨f, hf⟩, hom⟩, Gq⟩ := Gq
  refine JX_aload_n dL_law_1264 3 rfl ?_
  refine JX_callV0 (ci := 4) (n := 0) (As := []) (rest := [.int a]) dL_law_1265 rfl gL_law_X4_clearSpan rfl (by decide +kernel) rfl (by decide) hom (Nat.le_of_ble_eq_true rfl) (by omega) (by omega) (Gq _ ⟨fun _ _ => rfl, f, hf⟩) kH_no (kH_kx (fun r' H3 Gr => ?_))
  obtain ⟨W3, o3, hr⟩ := Gr
  refine JX_icmp_eq (tgt := 1899) dL_law_1268 (by decide) (fun _ => ?_) (fun c => absurd (hr rfl).symm c)
  exact JX_sub [0, 1, 2, 3, 4] rfl (JX_wide (by omega) (by omega) (kend _ _ W3))
set_option maxRecDepth 100000 in
set_option maxHeartbeats 4000000 in
theorem law_16 (htr : l.stackTraces = false) (fx : FX F m out am) (W : WS K F x m out am H g k0) (hg : 7 * g + 7 ≤ L) (hL : L ≤ 3584) (kend : ∀ H3 k, WS K F x m out am H3 (g + 1) k → JL (b, L, xs) l K hh nm 1899 [] [(4, .int (nI (7 * g))), (0, .ref b), (1, .ref x), (2, .ref m), (3, .ref out)] H3 (77 + 400 * (g + 1)) (25893 + 7000 * (g + 1))) :
    JL (b, L, xs) l K hh nm 1273 [] [(4, .int (nI (7 * g))), (0, .ref b), (1, .ref x), (2, .ref m), (3, .ref out)] H (77 + 400 * g) (25893 + 7000 * g) := by
  have hg9 : g + 1 < 2 ^ 20 := by omega
  refine JX_aload_n dL_law_1273 2 rfl ?_
  refine JL_rd (j := 1) dL_law_1274 dL_law_1275 dL_law_1277 (by decide) dL_law_1278 dL_law_1279 (q0 := 1) (q4 := 0) rfl rfl (by omega) (by omega) ?_
  refine JX_aload_n dL_law_1280 4 rfl ?_
  refine JX_callSW (n := 3) (As := [.ref x, .int (xs (7 * g + 1)), .ref out]) (rest := []) dL_law_1281 gL_law_L_keys rfl (by decide +kernel) rfl (by decide) (Nat.le_of_ble_eq_true rfl) (by omega) (by omega) (lw_keys htr fx W hg9) kI_no (kI_kx (fun kq H2 Gq => ?_))
  obtain ⟨kn, r, rfl, k5, hom, ⟨f, hf, hf0⟩, Gq⟩ := Gq
  refine JX_istore (lv' := [(5, .int (nI kn)), (4, .int (nI (7 * g))), (0, .ref b), (1, .ref x), (2, .ref m), (3, .ref out)]) dL_law_1284 (by decide) rfl ?_
  refine JX_aload_n dL_law_1286 4 rfl ?_
  refine JL_rd (j := 1) dL_law_1287 dL_law_1288 dL_law_1290 (by decide) dL_law_1291 dL_law_1292 (q0 := 2) (q4 := 1) rfl rfl (by omega) (by omega) ?_
  refine JX_callV0 (ci := 4) (n := 1) (As := [.int (xs (7 * g + 1))]) (rest := []) dL_law_1293 rfl gL_law_X4_keys rfl (by decide +kernel) rfl (by decide) hom (Nat.le_of_ble_eq_true rfl) (by omega) (by omega) Gq kH_no (kH_kx (fun r' H3 Gr => ?_))
  obtain ⟨W3, o3, hr⟩ := Gr
  refine JX_istore (lv' := [(6, .int r'), (5, .int (nI kn)), (4, .int (nI (7 * g))), (0, .ref b), (1, .ref x), (2, .ref m), (3, .ref out)]) dL_law_1296 (by decide) rfl ?_
  refine JX_aload_n dL_law_1298 5 rfl ?_
  refine JX_callV0 (ci := 4) (n := 0) (As := []) (rest := []) dL_law_1299 rfl gL_law_X4_thrown rfl (by decide +kernel) rfl (by decide) W3.om (Nat.le_of_ble_eq_true rfl) (by omega) (by omega) (W3.thr htr) kI_no (kI_kx (fun tq H4 Gt => ?_))
  obtain ⟨rfl, rfl⟩ := Gt
  refine JX_iload dL_law_1302 1 rfl ?_
  refine JX_icmp_eq (tgt := 1309) dL_law_1304 (by decide) (fun _ => ?_) (fun c => absurd rfl c)
  refine JX_iload dL_law_1309 1 rfl ?_
  refine JX_if_ne (tgt := 1326) dL_law_1311 (by decide) (fun _ => ?_) (fun c => ?_)
  · skip
    refine JX_goto (tgt := 1899) dL_law_1326 (by decide) ?_
    exact JX_sub [2, 3, 4, 5, 6] rfl (JX_wide (by omega) (by omega) (kend _ _ W3))
  · have kn0 : kn = 0 := (nI_eq (by omega) (by omega)).mp c
    have hrr := hr kn0
    have hff := hf0 kn0
    refine JX_aload_n dL_law_1314 6 rfl ?_
    refine JX_iconst (v := nI 0) dL_law_1315 (by decide) ?_
    refine JX_lald (v := f 0) dL_law_1316 (aJ_x (o3.trans hf) (by decide) (by decide)) ?_
    refine JX_iload dL_law_1317 0 rfl ?_
    refine JX_i2l dL_law_1319 ?_
    refine JX_lcmp dL_law_1320 ?_
    refine JX_if_eq (tgt := 1326) dL_law_1321 (by decide) (fun _ => ?_) (fun c9 => absurd (by rw [hff, ← hrr]; exact cmp_self _) c9)
    refine JX_goto (tgt := 1899) dL_law_1326 (by decide) ?_
    exact JX_sub [2, 3, 4, 5, 6] rfl (JX_wide (by omega) (by omega) (kend _ _ W3))
set_option maxRecDepth 100000 in
set_option maxHeartbeats 4000000 in
theorem law_17 (htr : l.stackTraces = false) (fx : FX F m out am) (W : WS K F x m out am H g k0) (hg : 7 * g + 7 ≤ L) (hL : L ≤ 3584) (kend : ∀ H3 k, WS K F x m out am H3 (g + 1) k → JL (b, L, xs) l K hh nm 1899 [] [(4, .int (nI (7 * g))), (0, .ref b), (1, .ref x), (2, .ref m), (3, .ref out)] H3 (77 + 400 * (g + 1)) (25893 + 7000 * (g + 1))) :
    JL (b, L, xs) l K hh nm 1329 [] [(4, .int (nI (7 * g))), (0, .ref b), (1, .ref x), (2, .ref m), (3, .ref out)] H (77 + 400 * g) (25893 + 7000 * g) := by
  have hg9 : g + 1 < 2 ^ 20 := by omega
  refine JX_aload_n dL_law_1329 2 rfl ?_
  refine JL_rd (j := 1) dL_law_1330 dL_law_1331 dL_law_1333 (by decide) dL_law_1334 dL_law_1335 (q0 := 1) (q4 := 0) rfl rfl (by omega) (by omega) ?_
  refine JL_rd (j := 2) dL_law_1336 dL_law_1337 dL_law_1339 (by decide) dL_law_1340 dL_law_1341 (q0 := 1) (q4 := 0) rfl rfl (by omega) (by omega) ?_
  refine JX_aload_n dL_law_1342 4 rfl ?_
  refine JX_callSW (n := 4) (As := [.ref x, .int (xs (7 * g + 1)), .int (xs (7 * g + 2)), .ref out]) (rest := []) dL_law_1343 gL_law_L_keyAt rfl (by decide +kernel) rfl (by decide) (Nat.le_of_ble_eq_true rfl) (by omega) (by omega) (lw_keyAt htr fx W hg9) kI_no (kI_kx (fun kq H2 Gq => ?_))
  obtain ⟨kn, r, rfl, k5, hom, ⟨f, hf, hf0⟩, Gq⟩ := Gq
  refine JX_istore (lv' := [(5, .int (nI kn)), (4, .int (nI (7 * g))), (0, .ref b), (1, .ref x), (2, .ref m), (3, .ref out)]) dL_law_1346 (by decide) rfl ?_
  refine JX_aload_n dL_law_1348 4 rfl ?_
  refine JL_rd (j := 1) dL_law_1349 dL_law_1350 dL_law_1352 (by decide) dL_law_1353 dL_law_1354 (q0 := 2) (q4 := 1) rfl rfl (by omega) (by omega) ?_
  refine JL_rd (j := 2) dL_law_1355 dL_law_1356 dL_law_1358 (by decide) dL_law_1359 dL_law_1360 (q0 := 2) (q4 := 1) rfl rfl (by omega) (by omega) ?_
  refine JX_callV0 (ci := 4) (n := 2) (As := [.int (xs (7 * g + 1)), .int (xs (7 * g + 2))]) (rest := []) dL_law_1361 rfl gL_law_X4_keyAt rfl (by decide +kernel) rfl (by decide) hom (Nat.le_of_ble_eq_true rfl) (by omega) (by omega) Gq kH_no (kH_kx (fun r' H3 Gr => ?_))
  obtain ⟨W3, o3, hr⟩ := Gr
  refine JX_lstore (lv' := [(6, .long r'), (5, .int (nI kn)), (4, .int (nI (7 * g))), (0, .ref b), (1, .ref x), (2, .ref m), (3, .ref out)]) dL_law_1364 (by decide) rfl ?_
  refine JX_aload_n dL_law_1366 5 rfl ?_
  refine JX_callV0 (ci := 4) (n := 0) (As := []) (rest := []) dL_law_1367 rfl gL_law_X4_thrown rfl (by decide +kernel) rfl (by decide) W3.om (Nat.le_of_ble_eq_true rfl) (by omega) (by omega) (W3.thr htr) kI_no (kI_kx (fun tq H4 Gt => ?_))
  obtain ⟨rfl, rfl⟩ := Gt
  refine JX_iload dL_law_1370 1 rfl ?_
  refine JX_icmp_eq (tgt := 1377) dL_law_1372 (by decide) (fun _ => ?_) (fun c => absurd rfl c)
  refine JX_iload dL_law_1377 1 rfl ?_
  refine JX_if_ne (tgt := 1393) dL_law_1379 (by decide) (fun _ => ?_) (fun c => ?_)
  · skip
    refine JX_goto (tgt := 1899) dL_law_1393 (by decide) ?_
    exact JX_sub [2, 3, 4, 5, 6] rfl (JX_wide (by omega) (by omega) (kend _ _ W3))
  · have kn0 : kn = 0 := (nI_eq (by omega) (by omega)).mp c
    have hrr := hr kn0
    have hff := hf0 kn0
    refine JX_aload_n dL_law_1382 6 rfl ?_
    refine JX_iconst (v := nI 0) dL_law_1383 (by decide) ?_
    refine JX_lald (v := f 0) dL_law_1384 (aJ_x (o3.trans hf) (by decide) (by decide)) ?_
    refine JX_lload dL_law_1385 0 rfl ?_
    refine JX_lcmp dL_law_1387 ?_
    refine JX_if_eq (tgt := 1393) dL_law_1388 (by decide) (fun _ => ?_) (fun c9 => absurd (by rw [hff, ← hrr]; exact cmp_self _) c9)
    refine JX_goto (tgt := 1899) dL_law_1393 (by decide) ?_
    exact JX_sub [2, 3, 4, 5, 6] rfl (JX_wide (by omega) (by omega) (kend _ _ W3))
set_option maxRecDepth 100000 in
set_option maxHeartbeats 4000000 in
theorem law_18 (htr : l.stackTraces = false) (fx : FX F m out am) (W : WS K F x m out am H g k0) (hg : 7 * g + 7 ≤ L) (hL : L ≤ 3584) (kend : ∀ H3 k, WS K F x m out am H3 (g + 1) k → JL (b, L, xs) l K hh nm 1899 [] [(4, .int (nI (7 * g))), (0, .ref b), (1, .ref x), (2, .ref m), (3, .ref out)] H3 (77 + 400 * (g + 1)) (25893 + 7000 * (g + 1))) :
    JL (b, L, xs) l K hh nm 1396 [] [(4, .int (nI (7 * g))), (0, .ref b), (1, .ref x), (2, .ref m), (3, .ref out)] H (77 + 400 * g) (25893 + 7000 * g) := by
  have hg9 : g + 1 < 2 ^ 20 := by omega
  refine JX_aload_n dL_law_1396 2 rfl ?_
  refine JX_callV0 (ci := 3) (n := 0) (As := []) (rest := []) dL_law_1397 rfl gL_law_X3_snapshot rfl (by decide +kernel) rfl (by decide) W.ob (Nat.le_of_ble_eq_true rfl) (by omega) (by omega) (tw_snapshot htr fx W hg9 (Nat.le_refl _) (Nat.le_refl _)) kI_no (kI_kx (fun a H2 Gq => ?_))
  obtain ⟨⟨⟨f, hf⟩, hom⟩, Gq⟩ := Gq
  refine JX_aload_n dL_law_1400 3 rfl ?_
  refine JX_callV0 (ci := 4) (n := 0) (As := []) (rest := [.int a]) dL_law_1401 rfl gL_law_X4_snapshot rfl (by decide +kernel) rfl (by decide) hom (Nat.le_of_ble_eq_true rfl) (by omega) (by omega) (Gq _ ⟨fun _ _ => rfl, f, hf⟩) kH_no (kH_kx (fun r' H3 Gr => ?_))
  obtain ⟨W3, o3, hr⟩ := Gr
  refine JX_icmp_eq (tgt := 1899) dL_law_1404 (by decide) (fun _ => ?_) (fun c => absurd (hr rfl).symm c)
  exact JX_sub [0, 1, 2, 3, 4] rfl (JX_wide (by omega) (by omega) (kend _ _ W3))
end Law
