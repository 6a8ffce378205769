/-! ===== the law's cases 33.. ===== -/
theorem dL_law_1257 : decode cL_law 1257 = .ok (.aload_n 1, 1) := by decide +kernel
theorem dL_law_1258 : decode cL_law 1258 = .ok (.aload_n 0, 1) := by decide +kernel
theorem dL_law_1259 : decode cL_law 1259 = .ok (.iload_n 3, 1) := by decide +kernel
theorem dL_law_1260 : decode cL_law 1260 = .ok (.iconst 1, 1) := by decide +kernel
theorem dL_law_1261 : decode cL_law 1261 = .ok (.iadd, 1) := by decide +kernel
theorem dL_law_1262 : decode cL_law 1262 = .ok (.iaload, 1) := by decide +kernel
theorem dL_law_1263 : decode cL_law 1263 = .ok (.aload_n 0, 1) := by decide +kernel
theorem dL_law_1264 : decode cL_law 1264 = .ok (.iload_n 3, 1) := by decide +kernel
theorem dL_law_1265 : decode cL_law 1265 = .ok (.iconst 2, 1) := by decide +kernel
theorem dL_law_1266 : decode cL_law 1266 = .ok (.iadd, 1) := by decide +kernel
theorem dL_law_1267 : decode cL_law 1267 = .ok (.iaload, 1) := by decide +kernel
theorem dL_law_1268 : decode cL_law 1268 = .ok (.aload_n 0, 1) := by decide +kernel
theorem dL_law_1269 : decode cL_law 1269 = .ok (.iload_n 3, 1) := by decide +kernel
theorem dL_law_1270 : decode cL_law 1270 = .ok (.iconst 3, 1) := by decide +kernel
theorem dL_law_1271 : decode cL_law 1271 = .ok (.iadd, 1) := by decide +kernel
theorem dL_law_1272 : decode cL_law 1272 = .ok (.iaload, 1) := by decide +kernel
theorem dL_law_1273 : decode cL_law 1273 = .ok (.invokevirtual 151, 3) := by decide +kernel
theorem dL_law_1276 : decode cL_law 1276 = .ok (.aload_n 2, 1) := by decide +kernel
theorem dL_law_1277 : decode cL_law 1277 = .ok (.aload_n 0, 1) := by decide +kernel
theorem dL_law_1278 : decode cL_law 1278 = .ok (.iload_n 3, 1) := by decide +kernel
theorem dL_law_1279 : decode cL_law 1279 = .ok (.iconst 1, 1) := by decide +kernel
theorem dL_law_1280 : decode cL_law 1280 = .ok (.iadd, 1) := by decide +kernel
theorem dL_law_1281 : decode cL_law 1281 = .ok (.iaload, 1) := by decide +kernel
theorem dL_law_1282 : decode cL_law 1282 = .ok (.aload_n 0, 1) := by decide +kernel
theorem dL_law_1283 : decode cL_law 1283 = .ok (.iload_n 3, 1) := by decide +kernel
theorem dL_law_1284 : decode cL_law 1284 = .ok (.iconst 2, 1) := by decide +kernel
theorem dL_law_1285 : decode cL_law 1285 = .ok (.iadd, 1) := by decide +kernel
theorem dL_law_1286 : decode cL_law 1286 = .ok (.iaload, 1) := by decide +kernel
theorem dL_law_1287 : decode cL_law 1287 = .ok (.aload_n 0, 1) := by decide +kernel
theorem dL_law_1288 : decode cL_law 1288 = .ok (.iload_n 3, 1) := by decide +kernel
theorem dL_law_1289 : decode cL_law 1289 = .ok (.iconst 3, 1) := by decide +kernel
theorem dL_law_1290 : decode cL_law 1290 = .ok (.iadd, 1) := by decide +kernel
theorem dL_law_1291 : decode cL_law 1291 = .ok (.iaload, 1) := by decide +kernel
theorem dL_law_1292 : decode cL_law 1292 = .ok (.invokevirtual 154, 3) := by decide +kernel
theorem dL_law_1295 : decode cL_law 1295 = .ok (.if_icmp .eq 638, 3) := by decide +kernel
theorem lawc_33 {X : xCX} {b L : Nat} {xs : Nat → Int32} {i : Int32} {M : xMem} (C : xCk X cL_law RL 16) (hS : xSc X b L xs) (h5 : ∀ j, j < 6 → vp_in (i + nI j) L) (hT : TOP M) (kk : ∀ M', TOP M' → WW X 1933 [some (.ref b), some (vr X.1 0), some (vr X.1 146), some (.int i)] [] M') : WW X 1257 [some (.ref b), some (vr X.1 0), some (vr X.1 146), some (.int i)] [] M := by
  obtain ⟨v, M1, M2, f1, f2, T2⟩ := (show STEP (fX10_first 0 (xs (i + nI 1).toNatClampNeg) (xs (i + nI 2).toNatClampNeg) (xs (i + nI 3).toNatClampNeg)) (fX11_first 146 (xs (i + nI 1).toNatClampNeg) (xs (i + nI 2).toNatClampNeg) (xs (i + nI 3).toNatClampNeg)) from s_first) M hT
  refine r_aload_n (pc := 1257) C dL_law_1257 rfl rfl ?_
  refine r_xld_n (pc := 1258) C dL_law_1258 rfl rfl rfl ?_
  refine r_iload_n (pc := 1259) C dL_law_1259 rfl rfl ?_
  refine r_iconst (pc := 1260) (v := nI 1) C dL_law_1260 (by decide) ?_
  refine r_iadd (pc := 1261) C dL_law_1261 ?_
  refine r_scld (pc := 1262) C hS (h5 1 (by decide)) dL_law_1262 ?_
  refine r_xld_n (pc := 1263) C dL_law_1263 rfl rfl rfl ?_
  refine r_iload_n (pc := 1264) C dL_law_1264 rfl rfl ?_
  refine r_iconst (pc := 1265) (v := nI 2) C dL_law_1265 (by decide) ?_
  refine r_iadd (pc := 1266) C dL_law_1266 ?_
  refine r_scld (pc := 1267) C hS (h5 2 (by decide)) dL_law_1267 ?_
  refine r_xld_n (pc := 1268) C dL_law_1268 rfl rfl rfl ?_
  refine r_iload_n (pc := 1269) C dL_law_1269 rfl rfl ?_
  refine r_iconst (pc := 1270) (v := nI 3) C dL_law_1270 (by decide) ?_
  refine r_iadd (pc := 1271) C dL_law_1271 ?_
  refine r_scld (pc := 1272) C hS (h5 3 (by decide)) dL_law_1272 ?_
  refine r_vI3 (pc := 1273) (o := fX10_first 0 (xs (i + nI 1).toNatClampNeg) (xs (i + nI 2).toNatClampNeg) (xs (i + nI 3).toNatClampNeg) M) (F := fun r M' => some (r, M')) (z := (v, M1)) C (fun r M' e => zX10_first X.1 0 rfl (xs (i + nI 1).toNatClampNeg) (xs (i + nI 2).toNatClampNeg) (xs (i + nI 3).toNatClampNeg) M r M' e) rfl (by decide) rfl mX10_first lL_151 (by decide) (Nat.le_of_ble_eq_true rfl) dL_law_1273 (by rw [f1]; rfl) (fun r M' e => ?_)
  cases e
  refine r_aload_n (pc := 1276) C dL_law_1276 rfl rfl ?_
  refine r_xld_n (pc := 1277) C dL_law_1277 rfl rfl rfl ?_
  refine r_iload_n (pc := 1278) C dL_law_1278 rfl rfl ?_
  refine r_iconst (pc := 1279) (v := nI 1) C dL_law_1279 (by decide) ?_
  refine r_iadd (pc := 1280) C dL_law_1280 ?_
  refine r_scld (pc := 1281) C hS (h5 1 (by decide)) dL_law_1281 ?_
  refine r_xld_n (pc := 1282) C dL_law_1282 rfl rfl rfl ?_
  refine r_iload_n (pc := 1283) C dL_law_1283 rfl rfl ?_
  refine r_iconst (pc := 1284) (v := nI 2) C dL_law_1284 (by decide) ?_
  refine r_iadd (pc := 1285) C dL_law_1285 ?_
  refine r_scld (pc := 1286) C hS (h5 2 (by decide)) dL_law_1286 ?_
  refine r_xld_n (pc := 1287) C dL_law_1287 rfl rfl rfl ?_
  refine r_iload_n (pc := 1288) C dL_law_1288 rfl rfl ?_
  refine r_iconst (pc := 1289) (v := nI 3) C dL_law_1289 (by decide) ?_
  refine r_iadd (pc := 1290) C dL_law_1290 ?_
  refine r_scld (pc := 1291) C hS (h5 3 (by decide)) dL_law_1291 ?_
  refine r_vI3 (pc := 1292) (o := fX11_first 146 (xs (i + nI 1).toNatClampNeg) (xs (i + nI 2).toNatClampNeg) (xs (i + nI 3).toNatClampNeg) M1) (F := fun r M' => some (r, M')) (z := (v, M2)) C (fun r M' e => zX11_first X.1 146 rfl (xs (i + nI 1).toNatClampNeg) (xs (i + nI 2).toNatClampNeg) (xs (i + nI 3).toNatClampNeg) M1 r M' e) rfl (by decide) rfl mX11_first lL_154 (by decide) (Nat.le_of_ble_eq_true rfl) dL_law_1292 (by rw [f2]; rfl) (fun r M' e => ?_)
  cases e
  exact r_icmp_eq (pc := 1295) (tgt := 1933) (A := some ()) (B := none) (r := ()) C dL_law_1295 (by decide) (if_pos rfl) (fun _ _ => kk M2 T2) (fun _ h => absurd h (by simp))
theorem dL_law_1300 : decode cL_law 1300 = .ok (.aload_n 1, 1) := by decide +kernel
theorem dL_law_1301 : decode cL_law 1301 = .ok (.aload_n 0, 1) := by decide +kernel
theorem dL_law_1302 : decode cL_law 1302 = .ok (.iload_n 3, 1) := by decide +kernel
theorem dL_law_1303 : decode cL_law 1303 = .ok (.iconst 1, 1) := by decide +kernel
theorem dL_law_1304 : decode cL_law 1304 = .ok (.iadd, 1) := by decide +kernel
theorem dL_law_1305 : decode cL_law 1305 = .ok (.iaload, 1) := by decide +kernel
theorem dL_law_1306 : decode cL_law 1306 = .ok (.aload_n 0, 1) := by decide +kernel
theorem dL_law_1307 : decode cL_law 1307 = .ok (.iload_n 3, 1) := by decide +kernel
theorem dL_law_1308 : decode cL_law 1308 = .ok (.iconst 2, 1) := by decide +kernel
theorem dL_law_1309 : decode cL_law 1309 = .ok (.iadd, 1) := by decide +kernel
theorem dL_law_1310 : decode cL_law 1310 = .ok (.iaload, 1) := by decide +kernel
theorem dL_law_1311 : decode cL_law 1311 = .ok (.aload_n 0, 1) := by decide +kernel
theorem dL_law_1312 : decode cL_law 1312 = .ok (.iload_n 3, 1) := by decide +kernel
theorem dL_law_1313 : decode cL_law 1313 = .ok (.iconst 3, 1) := by decide +kernel
theorem dL_law_1314 : decode cL_law 1314 = .ok (.iadd, 1) := by decide +kernel
theorem dL_law_1315 : decode cL_law 1315 = .ok (.iaload, 1) := by decide +kernel
theorem dL_law_1316 : decode cL_law 1316 = .ok (.aload_n 0, 1) := by decide +kernel
theorem dL_law_1317 : decode cL_law 1317 = .ok (.iload_n 3, 1) := by decide +kernel
theorem dL_law_1318 : decode cL_law 1318 = .ok (.iconst 4, 1) := by decide +kernel
theorem dL_law_1319 : decode cL_law 1319 = .ok (.iadd, 1) := by decide +kernel
theorem dL_law_1320 : decode cL_law 1320 = .ok (.iaload, 1) := by decide +kernel
theorem dL_law_1321 : decode cL_law 1321 = .ok (.invokevirtual 155, 3) := by decide +kernel
theorem dL_law_1324 : decode cL_law 1324 = .ok (.aload_n 2, 1) := by decide +kernel
theorem dL_law_1325 : decode cL_law 1325 = .ok (.aload_n 0, 1) := by decide +kernel
theorem dL_law_1326 : decode cL_law 1326 = .ok (.iload_n 3, 1) := by decide +kernel
theorem dL_law_1327 : decode cL_law 1327 = .ok (.iconst 1, 1) := by decide +kernel
theorem dL_law_1328 : decode cL_law 1328 = .ok (.iadd, 1) := by decide +kernel
theorem dL_law_1329 : decode cL_law 1329 = .ok (.iaload, 1) := by decide +kernel
theorem dL_law_1330 : decode cL_law 1330 = .ok (.aload_n 0, 1) := by decide +kernel
theorem dL_law_1331 : decode cL_law 1331 = .ok (.iload_n 3, 1) := by decide +kernel
theorem dL_law_1332 : decode cL_law 1332 = .ok (.iconst 2, 1) := by decide +kernel
theorem dL_law_1333 : decode cL_law 1333 = .ok (.iadd, 1) := by decide +kernel
theorem dL_law_1334 : decode cL_law 1334 = .ok (.iaload, 1) := by decide +kernel
theorem dL_law_1335 : decode cL_law 1335 = .ok (.aload_n 0, 1) := by decide +kernel
theorem dL_law_1336 : decode cL_law 1336 = .ok (.iload_n 3, 1) := by decide +kernel
theorem dL_law_1337 : decode cL_law 1337 = .ok (.iconst 3, 1) := by decide +kernel
theorem dL_law_1338 : decode cL_law 1338 = .ok (.iadd, 1) := by decide +kernel
theorem dL_law_1339 : decode cL_law 1339 = .ok (.iaload, 1) := by decide +kernel
theorem dL_law_1340 : decode cL_law 1340 = .ok (.aload_n 0, 1) := by decide +kernel
theorem dL_law_1341 : decode cL_law 1341 = .ok (.iload_n 3, 1) := by decide +kernel
theorem dL_law_1342 : decode cL_law 1342 = .ok (.iconst 4, 1) := by decide +kernel
theorem dL_law_1343 : decode cL_law 1343 = .ok (.iadd, 1) := by decide +kernel
theorem dL_law_1344 : decode cL_law 1344 = .ok (.iaload, 1) := by decide +kernel
theorem dL_law_1345 : decode cL_law 1345 = .ok (.invokevirtual 158, 3) := by decide +kernel
theorem dL_law_1348 : decode cL_law 1348 = .ok (.if_icmp .eq 585, 3) := by decide +kernel
theorem lawc_34 {X : xCX} {b L : Nat} {xs : Nat → Int32} {i : Int32} {M : xMem} (C : xCk X cL_law RL 16) (hS : xSc X b L xs) (h5 : ∀ j, j < 6 → vp_in (i + nI j) L) (hT : TOP M) (kk : ∀ M', TOP M' → WW X 1933 [some (.ref b), some (vr X.1 0), some (vr X.1 146), some (.int i)] [] M') : WW X 1300 [some (.ref b), some (vr X.1 0), some (vr X.1 146), some (.int i)] [] M := by
  obtain ⟨v, M1, M2, f1, f2, T2⟩ := (show STEP (fX10_raid 0 (xs (i + nI 1).toNatClampNeg) (xs (i + nI 2).toNatClampNeg) (xs (i + nI 3).toNatClampNeg) (xs (i + nI 4).toNatClampNeg)) (fX11_raid 146 (xs (i + nI 1).toNatClampNeg) (xs (i + nI 2).toNatClampNeg) (xs (i + nI 3).toNatClampNeg) (xs (i + nI 4).toNatClampNeg)) from s_raid) M hT
  refine r_aload_n (pc := 1300) C dL_law_1300 rfl rfl ?_
  refine r_xld_n (pc := 1301) C dL_law_1301 rfl rfl rfl ?_
  refine r_iload_n (pc := 1302) C dL_law_1302 rfl rfl ?_
  refine r_iconst (pc := 1303) (v := nI 1) C dL_law_1303 (by decide) ?_
  refine r_iadd (pc := 1304) C dL_law_1304 ?_
  refine r_scld (pc := 1305) C hS (h5 1 (by decide)) dL_law_1305 ?_
  refine r_xld_n (pc := 1306) C dL_law_1306 rfl rfl rfl ?_
  refine r_iload_n (pc := 1307) C dL_law_1307 rfl rfl ?_
  refine r_iconst (pc := 1308) (v := nI 2) C dL_law_1308 (by decide) ?_
  refine r_iadd (pc := 1309) C dL_law_1309 ?_
  refine r_scld (pc := 1310) C hS (h5 2 (by decide)) dL_law_1310 ?_
  refine r_xld_n (pc := 1311) C dL_law_1311 rfl rfl rfl ?_
  refine r_iload_n (pc := 1312) C dL_law_1312 rfl rfl ?_
  refine r_iconst (pc := 1313) (v := nI 3) C dL_law_1313 (by decide) ?_
  refine r_iadd (pc := 1314) C dL_law_1314 ?_
  refine r_scld (pc := 1315) C hS (h5 3 (by decide)) dL_law_1315 ?_
  refine r_xld_n (pc := 1316) C dL_law_1316 rfl rfl rfl ?_
  refine r_iload_n (pc := 1317) C dL_law_1317 rfl rfl ?_
  refine r_iconst (pc := 1318) (v := nI 4) C dL_law_1318 (by decide) ?_
  refine r_iadd (pc := 1319) C dL_law_1319 ?_
  refine r_scld (pc := 1320) C hS (h5 4 (by decide)) dL_law_1320 ?_
  refine r_vI4 (pc := 1321) (o := fX10_raid 0 (xs (i + nI 1).toNatClampNeg) (xs (i + nI 2).toNatClampNeg) (xs (i + nI 3).toNatClampNeg) (xs (i + nI 4).toNatClampNeg) M) (F := fun r M' => some (r, M')) (z := (v, M1)) C (fun r M' e => zX10_raid X.1 0 rfl (xs (i + nI 1).toNatClampNeg) (xs (i + nI 2).toNatClampNeg) (xs (i + nI 3).toNatClampNeg) (xs (i + nI 4).toNatClampNeg) M r M' e) rfl (by decide) rfl mX10_raid lL_155 (by decide) (Nat.le_of_ble_eq_true rfl) dL_law_1321 (by rw [f1]; rfl) (fun r M' e => ?_)
  cases e
  refine r_aload_n (pc := 1324) C dL_law_1324 rfl rfl ?_
  refine r_xld_n (pc := 1325) C dL_law_1325 rfl rfl rfl ?_
  refine r_iload_n (pc := 1326) C dL_law_1326 rfl rfl ?_
  refine r_iconst (pc := 1327) (v := nI 1) C dL_law_1327 (by decide) ?_
  refine r_iadd (pc := 1328) C dL_law_1328 ?_
  refine r_scld (pc := 1329) C hS (h5 1 (by decide)) dL_law_1329 ?_
  refine r_xld_n (pc := 1330) C dL_law_1330 rfl rfl rfl ?_
  refine r_iload_n (pc := 1331) C dL_law_1331 rfl rfl ?_
  refine r_iconst (pc := 1332) (v := nI 2) C dL_law_1332 (by decide) ?_
  refine r_iadd (pc := 1333) C dL_law_1333 ?_
  refine r_scld (pc := 1334) C hS (h5 2 (by decide)) dL_law_1334 ?_
  refine r_xld_n (pc := 1335) C dL_law_1335 rfl rfl rfl ?_
  refine r_iload_n (pc := 1336) C dL_law_1336 rfl rfl ?_
  refine r_iconst (pc := 1337) (v := nI 3) C dL_law_1337 (by decide) ?_
  refine r_iadd (pc := 1338) C dL_law_1338 ?_
  refine r_scld (pc := 1339) C hS (h5 3 (by decide)) dL_law_1339 ?_
  refine r_xld_n (pc := 1340) C dL_law_1340 rfl rfl rfl ?_
  refine r_iload_n (pc := 1341) C dL_law_1341 rfl rfl ?_
  refine r_iconst (pc := 1342) (v := nI 4) C dL_law_1342 (by decide) ?_
  refine r_iadd (pc := 1343) C dL_law_1343 ?_
  refine r_scld (pc := 1344) C hS (h5 4 (by decide)) dL_law_1344 ?_
  refine r_vI4 (pc := 1345) (o := fX11_raid 146 (xs (i + nI 1).toNatClampNeg) (xs (i + nI 2).toNatClampNeg) (xs (i + nI 3).toNatClampNeg) (xs (i + nI 4).toNatClampNeg) M1) (F := fun r M' => some (r, M')) (z := (v, M2)) C (fun r M' e => zX11_raid X.1 146 rfl (xs (i + nI 1).toNatClampNeg) (xs (i + nI 2).toNatClampNeg) (xs (i + nI 3).toNatClampNeg) (xs (i + nI 4).toNatClampNeg) M1 r M' e) rfl (by decide) rfl mX11_raid lL_158 (by decide) (Nat.le_of_ble_eq_true rfl) dL_law_1345 (by rw [f2]; rfl) (fun r M' e => ?_)
  cases e
  exact r_icmp_eq (pc := 1348) (tgt := 1933) (A := some ()) (B := none) (r := ()) C dL_law_1348 (by decide) (if_pos rfl) (fun _ _ => kk M2 T2) (fun _ h => absurd h (by simp))
theorem dL_law_1353 : decode cL_law 1353 = .ok (.aload_n 1, 1) := by decide +kernel
theorem dL_law_1354 : decode cL_law 1354 = .ok (.aload_n 0, 1) := by decide +kernel
theorem dL_law_1355 : decode cL_law 1355 = .ok (.iload_n 3, 1) := by decide +kernel
theorem dL_law_1356 : decode cL_law 1356 = .ok (.iconst 1, 1) := by decide +kernel
theorem dL_law_1357 : decode cL_law 1357 = .ok (.iadd, 1) := by decide +kernel
theorem dL_law_1358 : decode cL_law 1358 = .ok (.iaload, 1) := by decide +kernel
theorem dL_law_1359 : decode cL_law 1359 = .ok (.aload_n 0, 1) := by decide +kernel
theorem dL_law_1360 : decode cL_law 1360 = .ok (.iload_n 3, 1) := by decide +kernel
theorem dL_law_1361 : decode cL_law 1361 = .ok (.iconst 2, 1) := by decide +kernel
theorem dL_law_1362 : decode cL_law 1362 = .ok (.iadd, 1) := by decide +kernel
theorem dL_law_1363 : decode cL_law 1363 = .ok (.iaload, 1) := by decide +kernel
theorem dL_law_1364 : decode cL_law 1364 = .ok (.aload_n 0, 1) := by decide +kernel
theorem dL_law_1365 : decode cL_law 1365 = .ok (.iload_n 3, 1) := by decide +kernel
theorem dL_law_1366 : decode cL_law 1366 = .ok (.iconst 3, 1) := by decide +kernel
theorem dL_law_1367 : decode cL_law 1367 = .ok (.iadd, 1) := by decide +kernel
theorem dL_law_1368 : decode cL_law 1368 = .ok (.iaload, 1) := by decide +kernel
theorem dL_law_1369 : decode cL_law 1369 = .ok (.invokevirtual 159, 3) := by decide +kernel
theorem dL_law_1372 : decode cL_law 1372 = .ok (.aload_n 2, 1) := by decide +kernel
theorem dL_law_1373 : decode cL_law 1373 = .ok (.aload_n 0, 1) := by decide +kernel
theorem dL_law_1374 : decode cL_law 1374 = .ok (.iload_n 3, 1) := by decide +kernel
theorem dL_law_1375 : decode cL_law 1375 = .ok (.iconst 1, 1) := by decide +kernel
theorem dL_law_1376 : decode cL_law 1376 = .ok (.iadd, 1) := by decide +kernel
theorem dL_law_1377 : decode cL_law 1377 = .ok (.iaload, 1) := by decide +kernel
theorem dL_law_1378 : decode cL_law 1378 = .ok (.aload_n 0, 1) := by decide +kernel
theorem dL_law_1379 : decode cL_law 1379 = .ok (.iload_n 3, 1) := by decide +kernel
theorem dL_law_1380 : decode cL_law 1380 = .ok (.iconst 2, 1) := by decide +kernel
theorem dL_law_1381 : decode cL_law 1381 = .ok (.iadd, 1) := by decide +kernel
theorem dL_law_1382 : decode cL_law 1382 = .ok (.iaload, 1) := by decide +kernel
theorem dL_law_1383 : decode cL_law 1383 = .ok (.aload_n 0, 1) := by decide +kernel
theorem dL_law_1384 : decode cL_law 1384 = .ok (.iload_n 3, 1) := by decide +kernel
theorem dL_law_1385 : decode cL_law 1385 = .ok (.iconst 3, 1) := by decide +kernel
theorem dL_law_1386 : decode cL_law 1386 = .ok (.iadd, 1) := by decide +kernel
theorem dL_law_1387 : decode cL_law 1387 = .ok (.iaload, 1) := by decide +kernel
theorem dL_law_1388 : decode cL_law 1388 = .ok (.invokevirtual 162, 3) := by decide +kernel
theorem dL_law_1391 : decode cL_law 1391 = .ok (.if_icmp .eq 542, 3) := by decide +kernel
theorem lawc_35 {X : xCX} {b L : Nat} {xs : Nat → Int32} {i : Int32} {M : xMem} (C : xCk X cL_law RL 16) (hS : xSc X b L xs) (h5 : ∀ j, j < 6 → vp_in (i + nI j) L) (hT : TOP M) (kk : ∀ M', TOP M' → WW X 1933 [some (.ref b), some (vr X.1 0), some (vr X.1 146), some (.int i)] [] M') : WW X 1353 [some (.ref b), some (vr X.1 0), some (vr X.1 146), some (.int i)] [] M := by
  obtain ⟨v, M1, M2, f1, f2, T2⟩ := (show STEP (fX10_card 0 (xs (i + nI 1).toNatClampNeg) (xs (i + nI 2).toNatClampNeg) (xs (i + nI 3).toNatClampNeg)) (fX11_card 146 (xs (i + nI 1).toNatClampNeg) (xs (i + nI 2).toNatClampNeg) (xs (i + nI 3).toNatClampNeg)) from s_card) M hT
  refine r_aload_n (pc := 1353) C dL_law_1353 rfl rfl ?_
  refine r_xld_n (pc := 1354) C dL_law_1354 rfl rfl rfl ?_
  refine r_iload_n (pc := 1355) C dL_law_1355 rfl rfl ?_
  refine r_iconst (pc := 1356) (v := nI 1) C dL_law_1356 (by decide) ?_
  refine r_iadd (pc := 1357) C dL_law_1357 ?_
  refine r_scld (pc := 1358) C hS (h5 1 (by decide)) dL_law_1358 ?_
  refine r_xld_n (pc := 1359) C dL_law_1359 rfl rfl rfl ?_
  refine r_iload_n (pc := 1360) C dL_law_1360 rfl rfl ?_
  refine r_iconst (pc := 1361) (v := nI 2) C dL_law_1361 (by decide) ?_
  refine r_iadd (pc := 1362) C dL_law_1362 ?_
  refine r_scld (pc := 1363) C hS (h5 2 (by decide)) dL_law_1363 ?_
  refine r_xld_n (pc := 1364) C dL_law_1364 rfl rfl rfl ?_
  refine r_iload_n (pc := 1365) C dL_law_1365 rfl rfl ?_
  refine r_iconst (pc := 1366) (v := nI 3) C dL_law_1366 (by decide) ?_
  refine r_iadd (pc := 1367) C dL_law_1367 ?_
  refine r_scld (pc := 1368) C hS (h5 3 (by decide)) dL_law_1368 ?_
  refine r_vI3 (pc := 1369) (o := fX10_card 0 (xs (i + nI 1).toNatClampNeg) (xs (i + nI 2).toNatClampNeg) (xs (i + nI 3).toNatClampNeg) M) (F := fun r M' => some (r, M')) (z := (v, M1)) C (fun r M' e => zX10_card X.1 0 rfl (xs (i + nI 1).toNatClampNeg) (xs (i + nI 2).toNatClampNeg) (xs (i + nI 3).toNatClampNeg) M r M' e) rfl (by decide) rfl mX10_card lL_159 (by decide) (Nat.le_of_ble_eq_true rfl) dL_law_1369 (by rw [f1]; rfl) (fun r M' e => ?_)
  cases e
  refine r_aload_n (pc := 1372) C dL_law_1372 rfl rfl ?_
  refine r_xld_n (pc := 1373) C dL_law_1373 rfl rfl rfl ?_
  refine r_iload_n (pc := 1374) C dL_law_1374 rfl rfl ?_
  refine r_iconst (pc := 1375) (v := nI 1) C dL_law_1375 (by decide) ?_
  refine r_iadd (pc := 1376) C dL_law_1376 ?_
  refine r_scld (pc := 1377) C hS (h5 1 (by decide)) dL_law_1377 ?_
  refine r_xld_n (pc := 1378) C dL_law_1378 rfl rfl rfl ?_
  refine r_iload_n (pc := 1379) C dL_law_1379 rfl rfl ?_
  refine r_iconst (pc := 1380) (v := nI 2) C dL_law_1380 (by decide) ?_
  refine r_iadd (pc := 1381) C dL_law_1381 ?_
  refine r_scld (pc := 1382) C hS (h5 2 (by decide)) dL_law_1382 ?_
  refine r_xld_n (pc := 1383) C dL_law_1383 rfl rfl rfl ?_
  refine r_iload_n (pc := 1384) C dL_law_1384 rfl rfl ?_
  refine r_iconst (pc := 1385) (v := nI 3) C dL_law_1385 (by decide) ?_
  refine r_iadd (pc := 1386) C dL_law_1386 ?_
  refine r_scld (pc := 1387) C hS (h5 3 (by decide)) dL_law_1387 ?_
  refine r_vI3 (pc := 1388) (o := fX11_card 146 (xs (i + nI 1).toNatClampNeg) (xs (i + nI 2).toNatClampNeg) (xs (i + nI 3).toNatClampNeg) M1) (F := fun r M' => some (r, M')) (z := (v, M2)) C (fun r M' e => zX11_card X.1 146 rfl (xs (i + nI 1).toNatClampNeg) (xs (i + nI 2).toNatClampNeg) (xs (i + nI 3).toNatClampNeg) M1 r M' e) rfl (by decide) rfl mX11_card lL_162 (by decide) (Nat.le_of_ble_eq_true rfl) dL_law_1388 (by rw [f2]; rfl) (fun r M' e => ?_)
  cases e
  exact r_icmp_eq (pc := 1391) (tgt := 1933) (A := some ()) (B := none) (r := ()) C dL_law_1391 (by decide) (if_pos rfl) (fun _ _ => kk M2 T2) (fun _ h => absurd h (by simp))
theorem dL_law_1396 : decode cL_law 1396 = .ok (.aload_n 1, 1) := by decide +kernel
theorem dL_law_1397 : decode cL_law 1397 = .ok (.aload_n 0, 1) := by decide +kernel
theorem dL_law_1398 : decode cL_law 1398 = .ok (.iload_n 3, 1) := by decide +kernel
theorem dL_law_1399 : decode cL_law 1399 = .ok (.iconst 1, 1) := by decide +kernel
theorem dL_law_1400 : decode cL_law 1400 = .ok (.iadd, 1) := by decide +kernel
theorem dL_law_1401 : decode cL_law 1401 = .ok (.iaload, 1) := by decide +kernel
theorem dL_law_1402 : decode cL_law 1402 = .ok (.aload_n 0, 1) := by decide +kernel
theorem dL_law_1403 : decode cL_law 1403 = .ok (.iload_n 3, 1) := by decide +kernel
theorem dL_law_1404 : decode cL_law 1404 = .ok (.iconst 2, 1) := by decide +kernel
theorem dL_law_1405 : decode cL_law 1405 = .ok (.iadd, 1) := by decide +kernel
theorem dL_law_1406 : decode cL_law 1406 = .ok (.iaload, 1) := by decide +kernel
theorem dL_law_1407 : decode cL_law 1407 = .ok (.aload_n 0, 1) := by decide +kernel
theorem dL_law_1408 : decode cL_law 1408 = .ok (.iload_n 3, 1) := by decide +kernel
theorem dL_law_1409 : decode cL_law 1409 = .ok (.iconst 3, 1) := by decide +kernel
theorem dL_law_1410 : decode cL_law 1410 = .ok (.iadd, 1) := by decide +kernel
theorem dL_law_1411 : decode cL_law 1411 = .ok (.iaload, 1) := by decide +kernel
theorem dL_law_1412 : decode cL_law 1412 = .ok (.invokevirtual 163, 3) := by decide +kernel
theorem dL_law_1415 : decode cL_law 1415 = .ok (.aload_n 2, 1) := by decide +kernel
theorem dL_law_1416 : decode cL_law 1416 = .ok (.aload_n 0, 1) := by decide +kernel
theorem dL_law_1417 : decode cL_law 1417 = .ok (.iload_n 3, 1) := by decide +kernel
theorem dL_law_1418 : decode cL_law 1418 = .ok (.iconst 1, 1) := by decide +kernel
theorem dL_law_1419 : decode cL_law 1419 = .ok (.iadd, 1) := by decide +kernel
theorem dL_law_1420 : decode cL_law 1420 = .ok (.iaload, 1) := by decide +kernel
theorem dL_law_1421 : decode cL_law 1421 = .ok (.aload_n 0, 1) := by decide +kernel
theorem dL_law_1422 : decode cL_law 1422 = .ok (.iload_n 3, 1) := by decide +kernel
theorem dL_law_1423 : decode cL_law 1423 = .ok (.iconst 2, 1) := by decide +kernel
theorem dL_law_1424 : decode cL_law 1424 = .ok (.iadd, 1) := by decide +kernel
theorem dL_law_1425 : decode cL_law 1425 = .ok (.iaload, 1) := by decide +kernel
theorem dL_law_1426 : decode cL_law 1426 = .ok (.aload_n 0, 1) := by decide +kernel
theorem dL_law_1427 : decode cL_law 1427 = .ok (.iload_n 3, 1) := by decide +kernel
theorem dL_law_1428 : decode cL_law 1428 = .ok (.iconst 3, 1) := by decide +kernel
theorem dL_law_1429 : decode cL_law 1429 = .ok (.iadd, 1) := by decide +kernel
theorem dL_law_1430 : decode cL_law 1430 = .ok (.iaload, 1) := by decide +kernel
theorem dL_law_1431 : decode cL_law 1431 = .ok (.invokevirtual 166, 3) := by decide +kernel
theorem dL_law_1434 : decode cL_law 1434 = .ok (.if_icmp .eq 499, 3) := by decide +kernel
theorem lawc_36 {X : xCX} {b L : Nat} {xs : Nat → Int32} {i : Int32} {M : xMem} (C : xCk X cL_law RL 16) (hS : xSc X b L xs) (h5 : ∀ j, j < 6 → vp_in (i + nI j) L) (hT : TOP M) (kk : ∀ M', TOP M' → WW X 1933 [some (.ref b), some (vr X.1 0), some (vr X.1 146), some (.int i)] [] M') : WW X 1396 [some (.ref b), some (vr X.1 0), some (vr X.1 146), some (.int i)] [] M := by
  obtain ⟨v, M1, M2, f1, f2, T2⟩ := (show STEP (fX10_change 0 (xs (i + nI 1).toNatClampNeg) (xs (i + nI 2).toNatClampNeg) (xs (i + nI 3).toNatClampNeg)) (fX11_change 146 (xs (i + nI 1).toNatClampNeg) (xs (i + nI 2).toNatClampNeg) (xs (i + nI 3).toNatClampNeg)) from s_change) M hT
  refine r_aload_n (pc := 1396) C dL_law_1396 rfl rfl ?_
  refine r_xld_n (pc := 1397) C dL_law_1397 rfl rfl rfl ?_
  refine r_iload_n (pc := 1398) C dL_law_1398 rfl rfl ?_
  refine r_iconst (pc := 1399) (v := nI 1) C dL_law_1399 (by decide) ?_
  refine r_iadd (pc := 1400) C dL_law_1400 ?_
  refine r_scld (pc := 1401) C hS (h5 1 (by decide)) dL_law_1401 ?_
  refine r_xld_n (pc := 1402) C dL_law_1402 rfl rfl rfl ?_
  refine r_iload_n (pc := 1403) C dL_law_1403 rfl rfl ?_
  refine r_iconst (pc := 1404) (v := nI 2) C dL_law_1404 (by decide) ?_
  refine r_iadd (pc := 1405) C dL_law_1405 ?_
  refine r_scld (pc := 1406) C hS (h5 2 (by decide)) dL_law_1406 ?_
  refine r_xld_n (pc := 1407) C dL_law_1407 rfl rfl rfl ?_
  refine r_iload_n (pc := 1408) C dL_law_1408 rfl rfl ?_
  refine r_iconst (pc := 1409) (v := nI 3) C dL_law_1409 (by decide) ?_
  refine r_iadd (pc := 1410) C dL_law_1410 ?_
  refine r_scld (pc := 1411) C hS (h5 3 (by decide)) dL_law_1411 ?_
  refine r_vI3 (pc := 1412) (o := fX10_change 0 (xs (i + nI 1).toNatClampNeg) (xs (i + nI 2).toNatClampNeg) (xs (i + nI 3).toNatClampNeg) M) (F := fun r M' => some (r, M')) (z := (v, M1)) C (fun r M' e => zX10_change X.1 0 rfl (xs (i + nI 1).toNatClampNeg) (xs (i + nI 2).toNatClampNeg) (xs (i + nI 3).toNatClampNeg) M r M' e) rfl (by decide) rfl mX10_change lL_163 (by decide) (Nat.le_of_ble_eq_true rfl) dL_law_1412 (by rw [f1]; rfl) (fun r M' e => ?_)
  cases e
  refine r_aload_n (pc := 1415) C dL_law_1415 rfl rfl ?_
  refine r_xld_n (pc := 1416) C dL_law_1416 rfl rfl rfl ?_
  refine r_iload_n (pc := 1417) C dL_law_1417 rfl rfl ?_
  refine r_iconst (pc := 1418) (v := nI 1) C dL_law_1418 (by decide) ?_
  refine r_iadd (pc := 1419) C dL_law_1419 ?_
  refine r_scld (pc := 1420) C hS (h5 1 (by decide)) dL_law_1420 ?_
  refine r_xld_n (pc := 1421) C dL_law_1421 rfl rfl rfl ?_
  refine r_iload_n (pc := 1422) C dL_law_1422 rfl rfl ?_
  refine r_iconst (pc := 1423) (v := nI 2) C dL_law_1423 (by decide) ?_
  refine r_iadd (pc := 1424) C dL_law_1424 ?_
  refine r_scld (pc := 1425) C hS (h5 2 (by decide)) dL_law_1425 ?_
  refine r_xld_n (pc := 1426) C dL_law_1426 rfl rfl rfl ?_
  refine r_iload_n (pc := 1427) C dL_law_1427 rfl rfl ?_
  refine r_iconst (pc := 1428) (v := nI 3) C dL_law_1428 (by decide) ?_
  refine r_iadd (pc := 1429) C dL_law_1429 ?_
  refine r_scld (pc := 1430) C hS (h5 3 (by decide)) dL_law_1430 ?_
  refine r_vI3 (pc := 1431) (o := fX11_change 146 (xs (i + nI 1).toNatClampNeg) (xs (i + nI 2).toNatClampNeg) (xs (i + nI 3).toNatClampNeg) M1) (F := fun r M' => some (r, M')) (z := (v, M2)) C (fun r M' e => zX11_change X.1 146 rfl (xs (i + nI 1).toNatClampNeg) (xs (i + nI 2).toNatClampNeg) (xs (i + nI 3).toNatClampNeg) M1 r M' e) rfl (by decide) rfl mX11_change lL_166 (by decide) (Nat.le_of_ble_eq_true rfl) dL_law_1431 (by rw [f2]; rfl) (fun r M' e => ?_)
  cases e
  exact r_icmp_eq (pc := 1434) (tgt := 1933) (A := some ()) (B := none) (r := ()) C dL_law_1434 (by decide) (if_pos rfl) (fun _ _ => kk M2 T2) (fun _ h => absurd h (by simp))
theorem dL_law_1439 : decode cL_law 1439 = .ok (.aload_n 1, 1) := by decide +kernel
theorem dL_law_1440 : decode cL_law 1440 = .ok (.invokevirtual 167, 3) := by decide +kernel
theorem dL_law_1443 : decode cL_law 1443 = .ok (.aload_n 2, 1) := by decide +kernel
theorem dL_law_1444 : decode cL_law 1444 = .ok (.invokevirtual 170, 3) := by decide +kernel
theorem dL_law_1447 : decode cL_law 1447 = .ok (.if_icmp .eq 486, 3) := by decide +kernel
theorem lawc_37 {X : xCX} {b L : Nat} {xs : Nat → Int32} {i : Int32} {M : xMem} (C : xCk X cL_law RL 16) (hS : xSc X b L xs) (h5 : ∀ j, j < 6 → vp_in (i + nI j) L) (hT : TOP M) (kk : ∀ M', TOP M' → WW X 1933 [some (.ref b), some (vr X.1 0), some (vr X.1 146), some (.int i)] [] M') : WW X 1439 [some (.ref b), some (vr X.1 0), some (vr X.1 146), some (.int i)] [] M := by
  obtain ⟨v, M1, M2, f1, f2, T2⟩ := (show STEP (fX10_half 0 ) (fX11_half 146 ) from s_half) M hT
  refine r_aload_n (pc := 1439) C dL_law_1439 rfl rfl ?_
  refine r_vI0 (pc := 1440) (o := fX10_half 0  M) (F := fun r M' => some (r, M')) (z := (v, M1)) C (fun r M' e => zX10_half X.1 0 rfl  M r M' e) rfl (by decide) rfl mX10_half lL_167 (by decide) (Nat.le_of_ble_eq_true rfl) dL_law_1440 (by rw [f1]; rfl) (fun r M' e => ?_)
  cases e
  refine r_aload_n (pc := 1443) C dL_law_1443 rfl rfl ?_
  refine r_vI0 (pc := 1444) (o := fX11_half 146  M1) (F := fun r M' => some (r, M')) (z := (v, M2)) C (fun r M' e => zX11_half X.1 146 rfl  M1 r M' e) rfl (by decide) rfl mX11_half lL_170 (by decide) (Nat.le_of_ble_eq_true rfl) dL_law_1444 (by rw [f2]; rfl) (fun r M' e => ?_)
  cases e
  exact r_icmp_eq (pc := 1447) (tgt := 1933) (A := some ()) (B := none) (r := ()) C dL_law_1447 (by decide) (if_pos rfl) (fun _ _ => kk M2 T2) (fun _ h => absurd h (by simp))
theorem dL_law_1452 : decode cL_law 1452 = .ok (.aload_n 1, 1) := by decide +kernel
theorem dL_law_1453 : decode cL_law 1453 = .ok (.aload_n 0, 1) := by decide +kernel
theorem dL_law_1454 : decode cL_law 1454 = .ok (.iload_n 3, 1) := by decide +kernel
theorem dL_law_1455 : decode cL_law 1455 = .ok (.iconst 1, 1) := by decide +kernel
theorem dL_law_1456 : decode cL_law 1456 = .ok (.iadd, 1) := by decide +kernel
theorem dL_law_1457 : decode cL_law 1457 = .ok (.iaload, 1) := by decide +kernel
theorem dL_law_1458 : decode cL_law 1458 = .ok (.aload_n 0, 1) := by decide +kernel
theorem dL_law_1459 : decode cL_law 1459 = .ok (.iload_n 3, 1) := by decide +kernel
theorem dL_law_1460 : decode cL_law 1460 = .ok (.iconst 2, 1) := by decide +kernel
theorem dL_law_1461 : decode cL_law 1461 = .ok (.iadd, 1) := by decide +kernel
theorem dL_law_1462 : decode cL_law 1462 = .ok (.iaload, 1) := by decide +kernel
theorem dL_law_1463 : decode cL_law 1463 = .ok (.invokevirtual 171, 3) := by decide +kernel
theorem dL_law_1466 : decode cL_law 1466 = .ok (.aload_n 2, 1) := by decide +kernel
theorem dL_law_1467 : decode cL_law 1467 = .ok (.aload_n 0, 1) := by decide +kernel
theorem dL_law_1468 : decode cL_law 1468 = .ok (.iload_n 3, 1) := by decide +kernel
theorem dL_law_1469 : decode cL_law 1469 = .ok (.iconst 1, 1) := by decide +kernel
theorem dL_law_1470 : decode cL_law 1470 = .ok (.iadd, 1) := by decide +kernel
theorem dL_law_1471 : decode cL_law 1471 = .ok (.iaload, 1) := by decide +kernel
theorem dL_law_1472 : decode cL_law 1472 = .ok (.aload_n 0, 1) := by decide +kernel
theorem dL_law_1473 : decode cL_law 1473 = .ok (.iload_n 3, 1) := by decide +kernel
theorem dL_law_1474 : decode cL_law 1474 = .ok (.iconst 2, 1) := by decide +kernel
theorem dL_law_1475 : decode cL_law 1475 = .ok (.iadd, 1) := by decide +kernel
theorem dL_law_1476 : decode cL_law 1476 = .ok (.iaload, 1) := by decide +kernel
theorem dL_law_1477 : decode cL_law 1477 = .ok (.invokevirtual 174, 3) := by decide +kernel
theorem dL_law_1480 : decode cL_law 1480 = .ok (.if_icmp .eq 453, 3) := by decide +kernel
theorem lawc_38 {X : xCX} {b L : Nat} {xs : Nat → Int32} {i : Int32} {M : xMem} (C : xCk X cL_law RL 16) (hS : xSc X b L xs) (h5 : ∀ j, j < 6 → vp_in (i + nI j) L) (hT : TOP M) (kk : ∀ M', TOP M' → WW X 1933 [some (.ref b), some (vr X.1 0), some (vr X.1 146), some (.int i)] [] M') : WW X 1452 [some (.ref b), some (vr X.1 0), some (vr X.1 146), some (.int i)] [] M := by
  obtain ⟨v, M1, M2, f1, f2, T2⟩ := (show STEP (fX10_review 0 (xs (i + nI 1).toNatClampNeg) (xs (i + nI 2).toNatClampNeg)) (fX11_review 146 (xs (i + nI 1).toNatClampNeg) (xs (i + nI 2).toNatClampNeg)) from s_review) M hT
  refine r_aload_n (pc := 1452) C dL_law_1452 rfl rfl ?_
  refine r_xld_n (pc := 1453) C dL_law_1453 rfl rfl rfl ?_
  refine r_iload_n (pc := 1454) C dL_law_1454 rfl rfl ?_
  refine r_iconst (pc := 1455) (v := nI 1) C dL_law_1455 (by decide) ?_
  refine r_iadd (pc := 1456) C dL_law_1456 ?_
  refine r_scld (pc := 1457) C hS (h5 1 (by decide)) dL_law_1457 ?_
  refine r_xld_n (pc := 1458) C dL_law_1458 rfl rfl rfl ?_
  refine r_iload_n (pc := 1459) C dL_law_1459 rfl rfl ?_
  refine r_iconst (pc := 1460) (v := nI 2) C dL_law_1460 (by decide) ?_
  refine r_iadd (pc := 1461) C dL_law_1461 ?_
  refine r_scld (pc := 1462) C hS (h5 2 (by decide)) dL_law_1462 ?_
  refine r_vI2 (pc := 1463) (o := fX10_review 0 (xs (i + nI 1).toNatClampNeg) (xs (i + nI 2).toNatClampNeg) M) (F := fun r M' => some (r, M')) (z := (v, M1)) C (fun r M' e => zX10_review X.1 0 rfl (xs (i + nI 1).toNatClampNeg) (xs (i + nI 2).toNatClampNeg) M r M' e) rfl (by decide) rfl mX10_review lL_171 (by decide) (Nat.le_of_ble_eq_true rfl) dL_law_1463 (by rw [f1]; rfl) (fun r M' e => ?_)
  cases e
  refine r_aload_n (pc := 1466) C dL_law_1466 rfl rfl ?_
  refine r_xld_n (pc := 1467) C dL_law_1467 rfl rfl rfl ?_
  refine r_iload_n (pc := 1468) C dL_law_1468 rfl rfl ?_
  refine r_iconst (pc := 1469) (v := nI 1) C dL_law_1469 (by decide) ?_
  refine r_iadd (pc := 1470) C dL_law_1470 ?_
  refine r_scld (pc := 1471) C hS (h5 1 (by decide)) dL_law_1471 ?_
  refine r_xld_n (pc := 1472) C dL_law_1472 rfl rfl rfl ?_
  refine r_iload_n (pc := 1473) C dL_law_1473 rfl rfl ?_
  refine r_iconst (pc := 1474) (v := nI 2) C dL_law_1474 (by decide) ?_
  refine r_iadd (pc := 1475) C dL_law_1475 ?_
  refine r_scld (pc := 1476) C hS (h5 2 (by decide)) dL_law_1476 ?_
  refine r_vI2 (pc := 1477) (o := fX11_review 146 (xs (i + nI 1).toNatClampNeg) (xs (i + nI 2).toNatClampNeg) M1) (F := fun r M' => some (r, M')) (z := (v, M2)) C (fun r M' e => zX11_review X.1 146 rfl (xs (i + nI 1).toNatClampNeg) (xs (i + nI 2).toNatClampNeg) M1 r M' e) rfl (by decide) rfl mX11_review lL_174 (by decide) (Nat.le_of_ble_eq_true rfl) dL_law_1477 (by rw [f2]; rfl) (fun r M' e => ?_)
  cases e
  exact r_icmp_eq (pc := 1480) (tgt := 1933) (A := some ()) (B := none) (r := ()) C dL_law_1480 (by decide) (if_pos rfl) (fun _ _ => kk M2 T2) (fun _ h => absurd h (by simp))
theorem dL_law_1485 : decode cL_law 1485 = .ok (.aload_n 1, 1) := by decide +kernel
theorem dL_law_1486 : decode cL_law 1486 = .ok (.aload_n 0, 1) := by decide +kernel
theorem dL_law_1487 : decode cL_law 1487 = .ok (.iload_n 3, 1) := by decide +kernel
theorem dL_law_1488 : decode cL_law 1488 = .ok (.iconst 1, 1) := by decide +kernel
theorem dL_law_1489 : decode cL_law 1489 = .ok (.iadd, 1) := by decide +kernel
theorem dL_law_1490 : decode cL_law 1490 = .ok (.iaload, 1) := by decide +kernel
theorem dL_law_1491 : decode cL_law 1491 = .ok (.invokevirtual 175, 3) := by decide +kernel
theorem dL_law_1494 : decode cL_law 1494 = .ok (.aload_n 2, 1) := by decide +kernel
theorem dL_law_1495 : decode cL_law 1495 = .ok (.aload_n 0, 1) := by decide +kernel
theorem dL_law_1496 : decode cL_law 1496 = .ok (.iload_n 3, 1) := by decide +kernel
theorem dL_law_1497 : decode cL_law 1497 = .ok (.iconst 1, 1) := by decide +kernel
theorem dL_law_1498 : decode cL_law 1498 = .ok (.iadd, 1) := by decide +kernel
theorem dL_law_1499 : decode cL_law 1499 = .ok (.iaload, 1) := by decide +kernel
theorem dL_law_1500 : decode cL_law 1500 = .ok (.invokevirtual 178, 3) := by decide +kernel
theorem dL_law_1503 : decode cL_law 1503 = .ok (.if_icmp .eq 430, 3) := by decide +kernel
theorem lawc_39 {X : xCX} {b L : Nat} {xs : Nat → Int32} {i : Int32} {M : xMem} (C : xCk X cL_law RL 16) (hS : xSc X b L xs) (h5 : ∀ j, j < 6 → vp_in (i + nI j) L) (hT : TOP M) (kk : ∀ M', TOP M' → WW X 1933 [some (.ref b), some (vr X.1 0), some (vr X.1 146), some (.int i)] [] M') : WW X 1485 [some (.ref b), some (vr X.1 0), some (vr X.1 146), some (.int i)] [] M := by
  obtain ⟨v, M1, M2, f1, f2, T2⟩ := (show STEP (fX10_may 0 (xs (i + nI 1).toNatClampNeg)) (fX11_may 146 (xs (i + nI 1).toNatClampNeg)) from s_may) M hT
  refine r_aload_n (pc := 1485) C dL_law_1485 rfl rfl ?_
  refine r_xld_n (pc := 1486) C dL_law_1486 rfl rfl rfl ?_
  refine r_iload_n (pc := 1487) C dL_law_1487 rfl rfl ?_
  refine r_iconst (pc := 1488) (v := nI 1) C dL_law_1488 (by decide) ?_
  refine r_iadd (pc := 1489) C dL_law_1489 ?_
  refine r_scld (pc := 1490) C hS (h5 1 (by decide)) dL_law_1490 ?_
  refine r_vI1 (pc := 1491) (o := fX10_may 0 (xs (i + nI 1).toNatClampNeg) M) (F := fun r M' => some (r, M')) (z := (v, M1)) C (fun r M' e => zX10_may X.1 0 rfl (xs (i + nI 1).toNatClampNeg) M r M' e) rfl (by decide) rfl mX10_may lL_175 (by decide) (Nat.le_of_ble_eq_true rfl) dL_law_1491 (by rw [f1]; rfl) (fun r M' e => ?_)
  cases e
  refine r_aload_n (pc := 1494) C dL_law_1494 rfl rfl ?_
  refine r_xld_n (pc := 1495) C dL_law_1495 rfl rfl rfl ?_
  refine r_iload_n (pc := 1496) C dL_law_1496 rfl rfl ?_
  refine r_iconst (pc := 1497) (v := nI 1) C dL_law_1497 (by decide) ?_
  refine r_iadd (pc := 1498) C dL_law_1498 ?_
  refine r_scld (pc := 1499) C hS (h5 1 (by decide)) dL_law_1499 ?_
  refine r_vI1 (pc := 1500) (o := fX11_may 146 (xs (i + nI 1).toNatClampNeg) M1) (F := fun r M' => some (r, M')) (z := (v, M2)) C (fun r M' e => zX11_may X.1 146 rfl (xs (i + nI 1).toNatClampNeg) M1 r M' e) rfl (by decide) rfl mX11_may lL_178 (by decide) (Nat.le_of_ble_eq_true rfl) dL_law_1500 (by rw [f2]; rfl) (fun r M' e => ?_)
  cases e
  exact r_icmp_eq (pc := 1503) (tgt := 1933) (A := some ()) (B := none) (r := ()) C dL_law_1503 (by decide) (if_pos rfl) (fun _ _ => kk M2 T2) (fun _ h => absurd h (by simp))
theorem dL_law_1508 : decode cL_law 1508 = .ok (.aload_n 1, 1) := by decide +kernel
theorem dL_law_1509 : decode cL_law 1509 = .ok (.invokevirtual 179, 3) := by decide +kernel
theorem dL_law_1512 : decode cL_law 1512 = .ok (.aload_n 2, 1) := by decide +kernel
theorem dL_law_1513 : decode cL_law 1513 = .ok (.invokevirtual 182, 3) := by decide +kernel
theorem dL_law_1516 : decode cL_law 1516 = .ok (.if_icmp .eq 417, 3) := by decide +kernel
theorem lawc_40 {X : xCX} {b L : Nat} {xs : Nat → Int32} {i : Int32} {M : xMem} (C : xCk X cL_law RL 16) (hS : xSc X b L xs) (h5 : ∀ j, j < 6 → vp_in (i + nI j) L) (hT : TOP M) (kk : ∀ M', TOP M' → WW X 1933 [some (.ref b), some (vr X.1 0), some (vr X.1 146), some (.int i)] [] M') : WW X 1508 [some (.ref b), some (vr X.1 0), some (vr X.1 146), some (.int i)] [] M := by
  obtain ⟨v, M1, M2, f1, f2, T2⟩ := (show STEP (fX10_undo 0 ) (fX11_undo 146 ) from s_undo) M hT
  refine r_aload_n (pc := 1508) C dL_law_1508 rfl rfl ?_
  refine r_vI0 (pc := 1509) (o := fX10_undo 0  M) (F := fun r M' => some (r, M')) (z := (v, M1)) C (fun r M' e => zX10_undo X.1 0 rfl  M r M' e) rfl (by decide) rfl mX10_undo lL_179 (by decide) (Nat.le_of_ble_eq_true rfl) dL_law_1509 (by rw [f1]; rfl) (fun r M' e => ?_)
  cases e
  refine r_aload_n (pc := 1512) C dL_law_1512 rfl rfl ?_
  refine r_vI0 (pc := 1513) (o := fX11_undo 146  M1) (F := fun r M' => some (r, M')) (z := (v, M2)) C (fun r M' e => zX11_undo X.1 146 rfl  M1 r M' e) rfl (by decide) rfl mX11_undo lL_182 (by decide) (Nat.le_of_ble_eq_true rfl) dL_law_1513 (by rw [f2]; rfl) (fun r M' e => ?_)
  cases e
  exact r_icmp_eq (pc := 1516) (tgt := 1933) (A := some ()) (B := none) (r := ()) C dL_law_1516 (by decide) (if_pos rfl) (fun _ _ => kk M2 T2) (fun _ h => absurd h (by simp))
theorem dL_law_1521 : decode cL_law 1521 = .ok (.aload_n 1, 1) := by decide +kernel
theorem dL_law_1522 : decode cL_law 1522 = .ok (.aload_n 0, 1) := by decide +kernel
theorem dL_law_1523 : decode cL_law 1523 = .ok (.iload_n 3, 1) := by decide +kernel
theorem dL_law_1524 : decode cL_law 1524 = .ok (.iconst 1, 1) := by decide +kernel
theorem dL_law_1525 : decode cL_law 1525 = .ok (.iadd, 1) := by decide +kernel
theorem dL_law_1526 : decode cL_law 1526 = .ok (.iaload, 1) := by decide +kernel
theorem dL_law_1527 : decode cL_law 1527 = .ok (.invokevirtual 183, 3) := by decide +kernel
theorem dL_law_1530 : decode cL_law 1530 = .ok (.aload_n 2, 1) := by decide +kernel
theorem dL_law_1531 : decode cL_law 1531 = .ok (.aload_n 0, 1) := by decide +kernel
theorem dL_law_1532 : decode cL_law 1532 = .ok (.iload_n 3, 1) := by decide +kernel
theorem dL_law_1533 : decode cL_law 1533 = .ok (.iconst 1, 1) := by decide +kernel
theorem dL_law_1534 : decode cL_law 1534 = .ok (.iadd, 1) := by decide +kernel
theorem dL_law_1535 : decode cL_law 1535 = .ok (.iaload, 1) := by decide +kernel
theorem dL_law_1536 : decode cL_law 1536 = .ok (.invokevirtual 186, 3) := by decide +kernel
theorem dL_law_1539 : decode cL_law 1539 = .ok (.if_icmp .eq 394, 3) := by decide +kernel
theorem lawc_41 {X : xCX} {b L : Nat} {xs : Nat → Int32} {i : Int32} {M : xMem} (C : xCk X cL_law RL 16) (hS : xSc X b L xs) (h5 : ∀ j, j < 6 → vp_in (i + nI j) L) (hT : TOP M) (kk : ∀ M', TOP M' → WW X 1933 [some (.ref b), some (vr X.1 0), some (vr X.1 146), some (.int i)] [] M') : WW X 1521 [some (.ref b), some (vr X.1 0), some (vr X.1 146), some (.int i)] [] M := by
  obtain ⟨v, M1, M2, f1, f2, T2⟩ := (show STEP (fX10_tell 0 (xs (i + nI 1).toNatClampNeg)) (fX11_tell 146 (xs (i + nI 1).toNatClampNeg)) from s_tell) M hT
  refine r_aload_n (pc := 1521) C dL_law_1521 rfl rfl ?_
  refine r_xld_n (pc := 1522) C dL_law_1522 rfl rfl rfl ?_
  refine r_iload_n (pc := 1523) C dL_law_1523 rfl rfl ?_
  refine r_iconst (pc := 1524) (v := nI 1) C dL_law_1524 (by decide) ?_
  refine r_iadd (pc := 1525) C dL_law_1525 ?_
  refine r_scld (pc := 1526) C hS (h5 1 (by decide)) dL_law_1526 ?_
  refine r_vI1 (pc := 1527) (o := fX10_tell 0 (xs (i + nI 1).toNatClampNeg) M) (F := fun r M' => some (r, M')) (z := (v, M1)) C (fun r M' e => zX10_tell X.1 0 rfl (xs (i + nI 1).toNatClampNeg) M r M' e) rfl (by decide) rfl mX10_tell lL_183 (by decide) (Nat.le_of_ble_eq_true rfl) dL_law_1527 (by rw [f1]; rfl) (fun r M' e => ?_)
  cases e
  refine r_aload_n (pc := 1530) C dL_law_1530 rfl rfl ?_
  refine r_xld_n (pc := 1531) C dL_law_1531 rfl rfl rfl ?_
  refine r_iload_n (pc := 1532) C dL_law_1532 rfl rfl ?_
  refine r_iconst (pc := 1533) (v := nI 1) C dL_law_1533 (by decide) ?_
  refine r_iadd (pc := 1534) C dL_law_1534 ?_
  refine r_scld (pc := 1535) C hS (h5 1 (by decide)) dL_law_1535 ?_
  refine r_vI1 (pc := 1536) (o := fX11_tell 146 (xs (i + nI 1).toNatClampNeg) M1) (F := fun r M' => some (r, M')) (z := (v, M2)) C (fun r M' e => zX11_tell X.1 146 rfl (xs (i + nI 1).toNatClampNeg) M1 r M' e) rfl (by decide) rfl mX11_tell lL_186 (by decide) (Nat.le_of_ble_eq_true rfl) dL_law_1536 (by rw [f2]; rfl) (fun r M' e => ?_)
  cases e
  exact r_icmp_eq (pc := 1539) (tgt := 1933) (A := some ()) (B := none) (r := ()) C dL_law_1539 (by decide) (if_pos rfl) (fun _ _ => kk M2 T2) (fun _ h => absurd h (by simp))
theorem dL_law_1544 : decode cL_law 1544 = .ok (.aload_n 1, 1) := by decide +kernel
theorem dL_law_1545 : decode cL_law 1545 = .ok (.aload_n 0, 1) := by decide +kernel
theorem dL_law_1546 : decode cL_law 1546 = .ok (.iload_n 3, 1) := by decide +kernel
theorem dL_law_1547 : decode cL_law 1547 = .ok (.iconst 1, 1) := by decide +kernel
theorem dL_law_1548 : decode cL_law 1548 = .ok (.iadd, 1) := by decide +kernel
theorem dL_law_1549 : decode cL_law 1549 = .ok (.iaload, 1) := by decide +kernel
theorem dL_law_1550 : decode cL_law 1550 = .ok (.invokevirtual 187, 3) := by decide +kernel
theorem dL_law_1553 : decode cL_law 1553 = .ok (.aload_n 2, 1) := by decide +kernel
theorem dL_law_1554 : decode cL_law 1554 = .ok (.aload_n 0, 1) := by decide +kernel
theorem dL_law_1555 : decode cL_law 1555 = .ok (.iload_n 3, 1) := by decide +kernel
theorem dL_law_1556 : decode cL_law 1556 = .ok (.iconst 1, 1) := by decide +kernel
theorem dL_law_1557 : decode cL_law 1557 = .ok (.iadd, 1) := by decide +kernel
theorem dL_law_1558 : decode cL_law 1558 = .ok (.iaload, 1) := by decide +kernel
theorem dL_law_1559 : decode cL_law 1559 = .ok (.invokevirtual 190, 3) := by decide +kernel
theorem dL_law_1562 : decode cL_law 1562 = .ok (.if_icmp .eq 371, 3) := by decide +kernel
theorem lawc_42 {X : xCX} {b L : Nat} {xs : Nat → Int32} {i : Int32} {M : xMem} (C : xCk X cL_law RL 16) (hS : xSc X b L xs) (h5 : ∀ j, j < 6 → vp_in (i + nI j) L) (hT : TOP M) (kk : ∀ M', TOP M' → WW X 1933 [some (.ref b), some (vr X.1 0), some (vr X.1 146), some (.int i)] [] M') : WW X 1544 [some (.ref b), some (vr X.1 0), some (vr X.1 146), some (.int i)] [] M := by
  obtain ⟨v, M1, M2, f1, f2, T2⟩ := (show STEP (fX10_octet 0 (xs (i + nI 1).toNatClampNeg)) (fX11_octet 146 (xs (i + nI 1).toNatClampNeg)) from s_octet) M hT
  refine r_aload_n (pc := 1544) C dL_law_1544 rfl rfl ?_
  refine r_xld_n (pc := 1545) C dL_law_1545 rfl rfl rfl ?_
  refine r_iload_n (pc := 1546) C dL_law_1546 rfl rfl ?_
  refine r_iconst (pc := 1547) (v := nI 1) C dL_law_1547 (by decide) ?_
  refine r_iadd (pc := 1548) C dL_law_1548 ?_
  refine r_scld (pc := 1549) C hS (h5 1 (by decide)) dL_law_1549 ?_
  refine r_vI1 (pc := 1550) (o := fX10_octet 0 (xs (i + nI 1).toNatClampNeg) M) (F := fun r M' => some (r, M')) (z := (v, M1)) C (fun r M' e => zX10_octet X.1 0 rfl (xs (i + nI 1).toNatClampNeg) M r M' e) rfl (by decide) rfl mX10_octet lL_187 (by decide) (Nat.le_of_ble_eq_true rfl) dL_law_1550 (by rw [f1]; rfl) (fun r M' e => ?_)
  cases e
  refine r_aload_n (pc := 1553) C dL_law_1553 rfl rfl ?_
  refine r_xld_n (pc := 1554) C dL_law_1554 rfl rfl rfl ?_
  refine r_iload_n (pc := 1555) C dL_law_1555 rfl rfl ?_
  refine r_iconst (pc := 1556) (v := nI 1) C dL_law_1556 (by decide) ?_
  refine r_iadd (pc := 1557) C dL_law_1557 ?_
  refine r_scld (pc := 1558) C hS (h5 1 (by decide)) dL_law_1558 ?_
  refine r_vI1 (pc := 1559) (o := fX11_octet 146 (xs (i + nI 1).toNatClampNeg) M1) (F := fun r M' => some (r, M')) (z := (v, M2)) C (fun r M' e => zX11_octet X.1 146 rfl (xs (i + nI 1).toNatClampNeg) M1 r M' e) rfl (by decide) rfl mX11_octet lL_190 (by decide) (Nat.le_of_ble_eq_true rfl) dL_law_1559 (by rw [f2]; rfl) (fun r M' e => ?_)
  cases e
  exact r_icmp_eq (pc := 1562) (tgt := 1933) (A := some ()) (B := none) (r := ()) C dL_law_1562 (by decide) (if_pos rfl) (fun _ _ => kk M2 T2) (fun _ h => absurd h (by simp))
theorem dL_law_1567 : decode cL_law 1567 = .ok (.aload_n 1, 1) := by decide +kernel
theorem dL_law_1568 : decode cL_law 1568 = .ok (.invokevirtual 191, 3) := by decide +kernel
theorem dL_law_1571 : decode cL_law 1571 = .ok (.aload_n 2, 1) := by decide +kernel
theorem dL_law_1572 : decode cL_law 1572 = .ok (.invokevirtual 194, 3) := by decide +kernel
theorem dL_law_1575 : decode cL_law 1575 = .ok (.if_icmp .eq 358, 3) := by decide +kernel
theorem lawc_43 {X : xCX} {b L : Nat} {xs : Nat → Int32} {i : Int32} {M : xMem} (C : xCk X cL_law RL 16) (hS : xSc X b L xs) (h5 : ∀ j, j < 6 → vp_in (i + nI j) L) (hT : TOP M) (kk : ∀ M', TOP M' → WW X 1933 [some (.ref b), some (vr X.1 0), some (vr X.1 146), some (.int i)] [] M') : WW X 1567 [some (.ref b), some (vr X.1 0), some (vr X.1 146), some (.int i)] [] M := by
  obtain ⟨v, M1, M2, f1, f2, T2⟩ := (show STEP (fX10_draws 0 ) (fX11_draws 146 ) from s_draws) M hT
  refine r_aload_n (pc := 1567) C dL_law_1567 rfl rfl ?_
  refine r_vI0 (pc := 1568) (o := fX10_draws 0  M) (F := fun r M' => some (r, M')) (z := (v, M1)) C (fun r M' e => zX10_draws X.1 0 rfl  M r M' e) rfl (by decide) rfl mX10_draws lL_191 (by decide) (Nat.le_of_ble_eq_true rfl) dL_law_1568 (by rw [f1]; rfl) (fun r M' e => ?_)
  cases e
  refine r_aload_n (pc := 1571) C dL_law_1571 rfl rfl ?_
  refine r_vI0 (pc := 1572) (o := fX11_draws 146  M1) (F := fun r M' => some (r, M')) (z := (v, M2)) C (fun r M' e => zX11_draws X.1 146 rfl  M1 r M' e) rfl (by decide) rfl mX11_draws lL_194 (by decide) (Nat.le_of_ble_eq_true rfl) dL_law_1572 (by rw [f2]; rfl) (fun r M' e => ?_)
  cases e
  exact r_icmp_eq (pc := 1575) (tgt := 1933) (A := some ()) (B := none) (r := ()) C dL_law_1575 (by decide) (if_pos rfl) (fun _ _ => kk M2 T2) (fun _ h => absurd h (by simp))
