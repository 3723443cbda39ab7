set_option maxRecDepth 100000 in
set_option maxHeartbeats 4000000 in
theorem lc_20 {p : Program} {l : Launch} {e : Env} {s : State} {m : MethodId} {below : List Frame} {meth : Method} {c : Code} {D : va_G} {k : Nat → ClassId} {K : Nat → Nat} {b L : Nat} {xs : Nat → Int32} {ax am ao : Nat} {cells slots : Nat} {Q : State → Prop} {i : Nat} (C : Cx p l s m meth c D k K b L xs) (hi : i + 6 ≤ L) (hc : cells + 32 ≤ 601024 ∧ slots + 900 ≤ 7293034) (kk : Lk p l e s m below meth c D k b ax am ao (cells + 32) (slots + 900) Q i 1759) : Lk p l e s m below meth c D k b ax am ao cells slots Q i 1189 := by
  intro ro wx wm H locs ls hI hB hl
  have F := C.F
  have hx := F.x
  have hb := F.b
  have hc1 := hc.1
  have hc2 := hc.2
  have hA : ∀ q : Nat, s.heap.size ≤ q → (fun q : Nat => s.heap.size ≤ q) q := fun _ h => h
  obtain ⟨fx, hx0⟩ := hI.x0
  obtain ⟨fm, hm0⟩ := hI.m0
  refine lv_aload_n hx hb dL_law_1189 rfl (lv_at hl 1 rfl) ?_
  refine kb_vi (pre := [(ao, aj k 1 ro)]) (wc := wx) (post := wm) (rest := []) (As := []) F C.E hA hB (P_longest l D k K hI ) ml_RL_124 mv_yX11_longest hx0 rfl rfl hl.1 rfl (by decide) ⟨Nat.le_of_ble_eq_true rfl, Nat.le_of_ble_eq_true rfl⟩ ⟨by show cells + 0 ≤ 601024; omega, by show slots + 0 ≤ 7293034; omega⟩ dL_law_1190 (fun r wx1 H1 locs1 hN hB => ?_)
  replace hB : Bd D (fun q : Nat => s.heap.size ≤ q) s.heap (((ao, aj k 1 ro) :: wx1) ++ (wm ++ [])) H1 locs1 := by rw [List.append_nil]; exact hB
  refine lv_aload_n hx hb dL_law_1193 rfl (lv_at hl 2 rfl) ?_
  refine ka_vi (pre := (ao, aj k 1 ro) :: wx1) (wc := wm) (post := []) (rest := [.int r]) (As := []) F hA hB hN ml_RL_127 mv_yX12_longest hm0 rfl rfl hl.1 rfl (Nat.le_of_ble_eq_true rfl) ⟨Nat.le_of_ble_eq_true rfl, Nat.le_of_ble_eq_true rfl⟩ ⟨by show cells + 0 + 0 ≤ 601024; omega, by show slots + 0 + 0 ≤ 7293034; omega⟩ dL_law_1194 (fun r2 wm1 H2 locs2 hq hB => ?_)
  rw [List.append_nil] at hB
  refine lv_icmp_eq (tgt := 1759) hx hb dL_law_1197 (by decide) (fun _ => ?_) (fun h => absurd hq.1.symm h)
  exact W.widen (by omega) (by omega) (kk ro wx1 wm1 H2 locs2 ls hq.2 hB hl)

set_option maxRecDepth 100000 in
set_option maxHeartbeats 4000000 in
theorem lc_21 {p : Program} {l : Launch} {e : Env} {s : State} {m : MethodId} {below : List Frame} {meth : Method} {c : Code} {D : va_G} {k : Nat → ClassId} {K : Nat → Nat} {b L : Nat} {xs : Nat → Int32} {ax am ao : Nat} {cells slots : Nat} {Q : State → Prop} {i : Nat} (C : Cx p l s m meth c D k K b L xs) (hi : i + 6 ≤ L) (hc : cells + 32 ≤ 601024 ∧ slots + 900 ≤ 7293034) (kk : Lk p l e s m below meth c D k b ax am ao (cells + 32) (slots + 900) Q i 1759) : Lk p l e s m below meth c D k b ax am ao cells slots Q i 1202 := by
  intro ro wx wm H locs ls hI hB hl
  have F := C.F
  have hx := F.x
  have hb := F.b
  have hc1 := hc.1
  have hc2 := hc.2
  have hA : ∀ q : Nat, s.heap.size ≤ q → (fun q : Nat => s.heap.size ≤ q) q := fun _ h => h
  obtain ⟨fx, hx0⟩ := hI.x0
  obtain ⟨fm, hm0⟩ := hI.m0
  refine lv_aload_n hx hb dL_law_1202 rfl (lv_at hl 1 rfl) ?_
  refine l_arg C hi hB (lv_at hl 0 rfl) (lv_at hl 4 rfl) 1 (by decide) (x := 1) (by decide) (by decide) dL_law_1203 dL_law_1204 dL_law_1206 dL_law_1207 dL_law_1208 ?_
  refine kb_vi (pre := [(ao, aj k 1 ro)]) (wc := wx) (post := wm) (rest := []) (As := [.int (xs (i + 1))]) F C.E hA hB (P_placed l D k K hI (xs (i + 1))) ml_RL_128 mv_yX11_placed hx0 rfl rfl hl.1 rfl (by decide) ⟨Nat.le_of_ble_eq_true rfl, Nat.le_of_ble_eq_true rfl⟩ ⟨by show cells + 0 ≤ 601024; omega, by show slots + 0 ≤ 7293034; omega⟩ dL_law_1209 (fun r wx1 H1 locs1 hN hB => ?_)
  replace hB : Bd D (fun q : Nat => s.heap.size ≤ q) s.heap (((ao, aj k 1 ro) :: wx1) ++ (wm ++ [])) H1 locs1 := by rw [List.append_nil]; exact hB
  refine lv_aload_n hx hb dL_law_1212 rfl (lv_at hl 2 rfl) ?_
  refine l_arg C hi hB (lv_at hl 0 rfl) (lv_at hl 4 rfl) 1 (by decide) (x := 1) (by decide) (by decide) dL_law_1213 dL_law_1214 dL_law_1216 dL_law_1217 dL_law_1218 ?_
  refine ka_vi (pre := (ao, aj k 1 ro) :: wx1) (wc := wm) (post := []) (rest := [.int r]) (As := [.int (xs (i + 1))]) F hA hB hN ml_RL_131 mv_yX12_placed hm0 rfl rfl hl.1 rfl (Nat.le_of_ble_eq_true rfl) ⟨Nat.le_of_ble_eq_true rfl, Nat.le_of_ble_eq_true rfl⟩ ⟨by show cells + 0 + 0 ≤ 601024; omega, by show slots + 0 + 0 ≤ 7293034; omega⟩ dL_law_1219 (fun r2 wm1 H2 locs2 hq hB => ?_)
  rw [List.append_nil] at hB
  refine lv_icmp_eq (tgt := 1759) hx hb dL_law_1222 (by decide) (fun _ => ?_) (fun h => absurd hq.1.symm h)
  exact W.widen (by omega) (by omega) (kk ro wx1 wm1 H2 locs2 ls hq.2 hB hl)

set_option maxRecDepth 100000 in
set_option maxHeartbeats 4000000 in
theorem lc_22 {p : Program} {l : Launch} {e : Env} {s : State} {m : MethodId} {below : List Frame} {meth : Method} {c : Code} {D : va_G} {k : Nat → ClassId} {K : Nat → Nat} {b L : Nat} {xs : Nat → Int32} {ax am ao : Nat} {cells slots : Nat} {Q : State → Prop} {i : Nat} (C : Cx p l s m meth c D k K b L xs) (hi : i + 6 ≤ L) (hc : cells + 32 ≤ 601024 ∧ slots + 900 ≤ 7293034) (kk : Lk p l e s m below meth c D k b ax am ao (cells + 32) (slots + 900) Q i 1759) : Lk p l e s m below meth c D k b ax am ao cells slots Q i 1227 := by
  intro ro wx wm H locs ls hI hB hl
  have F := C.F
  have hx := F.x
  have hb := F.b
  have hc1 := hc.1
  have hc2 := hc.2
  have hA : ∀ q : Nat, s.heap.size ≤ q → (fun q : Nat => s.heap.size ≤ q) q := fun _ h => h
  obtain ⟨fx, hx0⟩ := hI.x0
  obtain ⟨fm, hm0⟩ := hI.m0
  refine lv_aload_n hx hb dL_law_1227 rfl (lv_at hl 1 rfl) ?_
  refine l_arg C hi hB (lv_at hl 0 rfl) (lv_at hl 4 rfl) 1 (by decide) (x := 1) (by decide) (by decide) dL_law_1228 dL_law_1229 dL_law_1231 dL_law_1232 dL_law_1233 ?_
  refine kb_vi (pre := [(ao, aj k 1 ro)]) (wc := wx) (post := wm) (rest := []) (As := [.int (xs (i + 1))]) F C.E hA hB (P_platform l D k K hI (xs (i + 1))) ml_RL_132 mv_yX11_platform hx0 rfl rfl hl.1 rfl (by decide) ⟨Nat.le_of_ble_eq_true rfl, Nat.le_of_ble_eq_true rfl⟩ ⟨by show cells + 0 ≤ 601024; omega, by show slots + 0 ≤ 7293034; omega⟩ dL_law_1234 (fun r wx1 H1 locs1 hN hB => ?_)
  replace hB : Bd D (fun q : Nat => s.heap.size ≤ q) s.heap (((ao, aj k 1 ro) :: wx1) ++ (wm ++ [])) H1 locs1 := by rw [List.append_nil]; exact hB
  refine lv_aload_n hx hb dL_law_1237 rfl (lv_at hl 2 rfl) ?_
  refine l_arg C hi hB (lv_at hl 0 rfl) (lv_at hl 4 rfl) 1 (by decide) (x := 1) (by decide) (by decide) dL_law_1238 dL_law_1239 dL_law_1241 dL_law_1242 dL_law_1243 ?_
  refine ka_vi (pre := (ao, aj k 1 ro) :: wx1) (wc := wm) (post := []) (rest := [.int r]) (As := [.int (xs (i + 1))]) F hA hB hN ml_RL_135 mv_yX12_platform hm0 rfl rfl hl.1 rfl (Nat.le_of_ble_eq_true rfl) ⟨Nat.le_of_ble_eq_true rfl, Nat.le_of_ble_eq_true rfl⟩ ⟨by show cells + 0 + 0 ≤ 601024; omega, by show slots + 0 + 0 ≤ 7293034; omega⟩ dL_law_1244 (fun r2 wm1 H2 locs2 hq hB => ?_)
  rw [List.append_nil] at hB
  refine lv_icmp_eq (tgt := 1759) hx hb dL_law_1247 (by decide) (fun _ => ?_) (fun h => absurd hq.1.symm h)
  exact W.widen (by omega) (by omega) (kk ro wx1 wm1 H2 locs2 ls hq.2 hB hl)

set_option maxRecDepth 100000 in
set_option maxHeartbeats 4000000 in
theorem lc_23 {p : Program} {l : Launch} {e : Env} {s : State} {m : MethodId} {below : List Frame} {meth : Method} {c : Code} {D : va_G} {k : Nat → ClassId} {K : Nat → Nat} {b L : Nat} {xs : Nat → Int32} {ax am ao : Nat} {cells slots : Nat} {Q : State → Prop} {i : Nat} (C : Cx p l s m meth c D k K b L xs) (hi : i + 6 ≤ L) (hc : cells + 32 ≤ 601024 ∧ slots + 900 ≤ 7293034) (kk : Lk p l e s m below meth c D k b ax am ao (cells + 32) (slots + 900) Q i 1759) : Lk p l e s m below meth c D k b ax am ao cells slots Q i 1252 := by
  intro ro wx wm H locs ls hI hB hl
  have F := C.F
  have hx := F.x
  have hb := F.b
  have hc1 := hc.1
  have hc2 := hc.2
  have hA : ∀ q : Nat, s.heap.size ≤ q → (fun q : Nat => s.heap.size ≤ q) q := fun _ h => h
  obtain ⟨fx, hx0⟩ := hI.x0
  obtain ⟨fm, hm0⟩ := hI.m0
  refine lv_aload_n hx hb dL_law_1252 rfl (lv_at hl 1 rfl) ?_
  refine l_arg C hi hB (lv_at hl 0 rfl) (lv_at hl 4 rfl) 1 (by decide) (x := 1) (by decide) (by decide) dL_law_1253 dL_law_1254 dL_law_1256 dL_law_1257 dL_law_1258 ?_
  refine l_arg C hi hB (lv_at hl 0 rfl) (lv_at hl 4 rfl) 2 (by decide) (x := 2) (by decide) (by decide) dL_law_1259 dL_law_1260 dL_law_1262 dL_law_1263 dL_law_1264 ?_
  refine l_arg C hi hB (lv_at hl 0 rfl) (lv_at hl 4 rfl) 3 (by decide) (x := 3) (by decide) (by decide) dL_law_1265 dL_law_1266 dL_law_1268 dL_law_1269 dL_law_1270 ?_
  refine kb_vi (pre := [(ao, aj k 1 ro)]) (wc := wx) (post := wm) (rest := []) (As := [.int (xs (i + 1)), .int (xs (i + 2)), .int (xs (i + 3))]) F C.E hA hB (P_cook l D k K hI (xs (i + 1)) (xs (i + 2)) (xs (i + 3))) ml_RL_136 mv_yX11_cook hx0 rfl rfl hl.1 rfl (by decide) ⟨Nat.le_of_ble_eq_true rfl, Nat.le_of_ble_eq_true rfl⟩ ⟨by show cells + 0 ≤ 601024; omega, by show slots + 0 ≤ 7293034; omega⟩ dL_law_1271 (fun r wx1 H1 locs1 hN hB => ?_)
  replace hB : Bd D (fun q : Nat => s.heap.size ≤ q) s.heap (((ao, aj k 1 ro) :: wx1) ++ (wm ++ [])) H1 locs1 := by rw [List.append_nil]; exact hB
  refine lv_aload_n hx hb dL_law_1274 rfl (lv_at hl 2 rfl) ?_
  refine l_arg C hi hB (lv_at hl 0 rfl) (lv_at hl 4 rfl) 1 (by decide) (x := 1) (by decide) (by decide) dL_law_1275 dL_law_1276 dL_law_1278 dL_law_1279 dL_law_1280 ?_
  refine l_arg C hi hB (lv_at hl 0 rfl) (lv_at hl 4 rfl) 2 (by decide) (x := 2) (by decide) (by decide) dL_law_1281 dL_law_1282 dL_law_1284 dL_law_1285 dL_law_1286 ?_
  refine l_arg C hi hB (lv_at hl 0 rfl) (lv_at hl 4 rfl) 3 (by decide) (x := 3) (by decide) (by decide) dL_law_1287 dL_law_1288 dL_law_1290 dL_law_1291 dL_law_1292 ?_
  refine ka_vi (pre := (ao, aj k 1 ro) :: wx1) (wc := wm) (post := []) (rest := [.int r]) (As := [.int (xs (i + 1)), .int (xs (i + 2)), .int (xs (i + 3))]) F hA hB hN ml_RL_139 mv_yX12_cook hm0 rfl rfl hl.1 rfl (Nat.le_of_ble_eq_true rfl) ⟨Nat.le_of_ble_eq_true rfl, Nat.le_of_ble_eq_true rfl⟩ ⟨by show cells + 0 + 0 ≤ 601024; omega, by show slots + 0 + 0 ≤ 7293034; omega⟩ dL_law_1293 (fun r2 wm1 H2 locs2 hq hB => ?_)
  rw [List.append_nil] at hB
  refine lv_icmp_eq (tgt := 1759) hx hb dL_law_1296 (by decide) (fun _ => ?_) (fun h => absurd hq.1.symm h)
  exact W.widen (by omega) (by omega) (kk ro wx1 wm1 H2 locs2 ls hq.2 hB hl)

set_option maxRecDepth 100000 in
set_option maxHeartbeats 4000000 in
theorem lc_24 {p : Program} {l : Launch} {e : Env} {s : State} {m : MethodId} {below : List Frame} {meth : Method} {c : Code} {D : va_G} {k : Nat → ClassId} {K : Nat → Nat} {b L : Nat} {xs : Nat → Int32} {ax am ao : Nat} {cells slots : Nat} {Q : State → Prop} {i : Nat} (C : Cx p l s m meth c D k K b L xs) (hi : i + 6 ≤ L) (hc : cells + 32 ≤ 601024 ∧ slots + 900 ≤ 7293034) (kk : Lk p l e s m below meth c D k b ax am ao (cells + 32) (slots + 900) Q i 1759) : Lk p l e s m below meth c D k b ax am ao cells slots Q i 1301 := by
  intro ro wx wm H locs ls hI hB hl
  have F := C.F
  have hx := F.x
  have hb := F.b
  have hc1 := hc.1
  have hc2 := hc.2
  have hA : ∀ q : Nat, s.heap.size ≤ q → (fun q : Nat => s.heap.size ≤ q) q := fun _ h => h
  obtain ⟨fx, hx0⟩ := hI.x0
  obtain ⟨fm, hm0⟩ := hI.m0
  refine lv_aload_n hx hb dL_law_1301 rfl (lv_at hl 1 rfl) ?_
  refine l_arg C hi hB (lv_at hl 0 rfl) (lv_at hl 4 rfl) 1 (by decide) (x := 1) (by decide) (by decide) dL_law_1302 dL_law_1303 dL_law_1305 dL_law_1306 dL_law_1307 ?_
  refine l_arg C hi hB (lv_at hl 0 rfl) (lv_at hl 4 rfl) 2 (by decide) (x := 2) (by decide) (by decide) dL_law_1308 dL_law_1309 dL_law_1311 dL_law_1312 dL_law_1313 ?_
  refine l_arg C hi hB (lv_at hl 0 rfl) (lv_at hl 4 rfl) 3 (by decide) (x := 3) (by decide) (by decide) dL_law_1314 dL_law_1315 dL_law_1317 dL_law_1318 dL_law_1319 ?_
  refine kb_vi (pre := [(ao, aj k 1 ro)]) (wc := wx) (post := wm) (rest := []) (As := [.int (xs (i + 1)), .int (xs (i + 2)), .int (xs (i + 3))]) F C.E hA hB (P_back l D k K hI (xs (i + 1)) (xs (i + 2)) (xs (i + 3))) ml_RL_140 mv_yX11_back hx0 rfl rfl hl.1 rfl (by decide) ⟨Nat.le_of_ble_eq_true rfl, Nat.le_of_ble_eq_true rfl⟩ ⟨by show cells + 0 ≤ 601024; omega, by show slots + 0 ≤ 7293034; omega⟩ dL_law_1320 (fun r wx1 H1 locs1 hN hB => ?_)
  replace hB : Bd D (fun q : Nat => s.heap.size ≤ q) s.heap (((ao, aj k 1 ro) :: wx1) ++ (wm ++ [])) H1 locs1 := by rw [List.append_nil]; exact hB
  refine lv_aload_n hx hb dL_law_1323 rfl (lv_at hl 2 rfl) ?_
  refine l_arg C hi hB (lv_at hl 0 rfl) (lv_at hl 4 rfl) 1 (by decide) (x := 1) (by decide) (by decide) dL_law_1324 dL_law_1325 dL_law_1327 dL_law_1328 dL_law_1329 ?_
  refine l_arg C hi hB (lv_at hl 0 rfl) (lv_at hl 4 rfl) 2 (by decide) (x := 2) (by decide) (by decide) dL_law_1330 dL_law_1331 dL_law_1333 dL_law_1334 dL_law_1335 ?_
  refine l_arg C hi hB (lv_at hl 0 rfl) (lv_at hl 4 rfl) 3 (by decide) (x := 3) (by decide) (by decide) dL_law_1336 dL_law_1337 dL_law_1339 dL_law_1340 dL_law_1341 ?_
  refine ka_vi (pre := (ao, aj k 1 ro) :: wx1) (wc := wm) (post := []) (rest := [.int r]) (As := [.int (xs (i + 1)), .int (xs (i + 2)), .int (xs (i + 3))]) F hA hB hN ml_RL_143 mv_yX12_back hm0 rfl rfl hl.1 rfl (Nat.le_of_ble_eq_true rfl) ⟨Nat.le_of_ble_eq_true rfl, Nat.le_of_ble_eq_true rfl⟩ ⟨by show cells + 0 + 0 ≤ 601024; omega, by show slots + 0 + 0 ≤ 7293034; omega⟩ dL_law_1342 (fun r2 wm1 H2 locs2 hq hB => ?_)
  rw [List.append_nil] at hB
  refine lv_icmp_eq (tgt := 1759) hx hb dL_law_1345 (by decide) (fun _ => ?_) (fun h => absurd hq.1.symm h)
  exact W.widen (by omega) (by omega) (kk ro wx1 wm1 H2 locs2 ls hq.2 hB hl)

set_option maxRecDepth 100000 in
set_option maxHeartbeats 4000000 in
theorem lc_25 {p : Program} {l : Launch} {e : Env} {s : State} {m : MethodId} {below : List Frame} {meth : Method} {c : Code} {D : va_G} {k : Nat → ClassId} {K : Nat → Nat} {b L : Nat} {xs : Nat → Int32} {ax am ao : Nat} {cells slots : Nat} {Q : State → Prop} {i : Nat} (C : Cx p l s m meth c D k K b L xs) (hi : i + 6 ≤ L) (hc : cells + 32 ≤ 601024 ∧ slots + 900 ≤ 7293034) (kk : Lk p l e s m below meth c D k b ax am ao (cells + 32) (slots + 900) Q i 1759) : Lk p l e s m below meth c D k b ax am ao cells slots Q i 1350 := by
  intro ro wx wm H locs ls hI hB hl
  have F := C.F
  have hx := F.x
  have hb := F.b
  have hc1 := hc.1
  have hc2 := hc.2
  have hA : ∀ q : Nat, s.heap.size ≤ q → (fun q : Nat => s.heap.size ≤ q) q := fun _ h => h
  obtain ⟨fx, hx0⟩ := hI.x0
  obtain ⟨fm, hm0⟩ := hI.m0
  refine lv_aload_n hx hb dL_law_1350 rfl (lv_at hl 1 rfl) ?_
  refine l_arg C hi hB (lv_at hl 0 rfl) (lv_at hl 4 rfl) 1 (by decide) (x := 1) (by decide) (by decide) dL_law_1351 dL_law_1352 dL_law_1354 dL_law_1355 dL_law_1356 ?_
  refine kb_vi (pre := [(ao, aj k 1 ro)]) (wc := wx) (post := wm) (rest := []) (As := [.int (xs (i + 1))]) F C.E hA hB (P_room l D k K hI (xs (i + 1))) ml_RL_144 mv_yX11_room hx0 rfl rfl hl.1 rfl (by decide) ⟨Nat.le_of_ble_eq_true rfl, Nat.le_of_ble_eq_true rfl⟩ ⟨by show cells + 0 ≤ 601024; omega, by show slots + 0 ≤ 7293034; omega⟩ dL_law_1357 (fun r wx1 H1 locs1 hN hB => ?_)
  replace hB : Bd D (fun q : Nat => s.heap.size ≤ q) s.heap (((ao, aj k 1 ro) :: wx1) ++ (wm ++ [])) H1 locs1 := by rw [List.append_nil]; exact hB
  refine lv_aload_n hx hb dL_law_1360 rfl (lv_at hl 2 rfl) ?_
  refine l_arg C hi hB (lv_at hl 0 rfl) (lv_at hl 4 rfl) 1 (by decide) (x := 1) (by decide) (by decide) dL_law_1361 dL_law_1362 dL_law_1364 dL_law_1365 dL_law_1366 ?_
  refine ka_vi (pre := (ao, aj k 1 ro) :: wx1) (wc := wm) (post := []) (rest := [.int r]) (As := [.int (xs (i + 1))]) F hA hB hN ml_RL_147 mv_yX12_room hm0 rfl rfl hl.1 rfl (Nat.le_of_ble_eq_true rfl) ⟨Nat.le_of_ble_eq_true rfl, Nat.le_of_ble_eq_true rfl⟩ ⟨by show cells + 0 + 0 ≤ 601024; omega, by show slots + 0 + 0 ≤ 7293034; omega⟩ dL_law_1367 (fun r2 wm1 H2 locs2 hq hB => ?_)
  rw [List.append_nil] at hB
  refine lv_icmp_eq (tgt := 1759) hx hb dL_law_1370 (by decide) (fun _ => ?_) (fun h => absurd hq.1.symm h)
  exact W.widen (by omega) (by omega) (kk ro wx1 wm1 H2 locs2 ls hq.2 hB hl)

set_option maxRecDepth 100000 in
set_option maxHeartbeats 4000000 in
theorem lc_26 {p : Program} {l : Launch} {e : Env} {s : State} {m : MethodId} {below : List Frame} {meth : Method} {c : Code} {D : va_G} {k : Nat → ClassId} {K : Nat → Nat} {b L : Nat} {xs : Nat → Int32} {ax am ao : Nat} {cells slots : Nat} {Q : State → Prop} {i : Nat} (C : Cx p l s m meth c D k K b L xs) (hi : i + 6 ≤ L) (hc : cells + 32 ≤ 601024 ∧ slots + 900 ≤ 7293034) (kk : Lk p l e s m below meth c D k b ax am ao (cells + 32) (slots + 900) Q i 1759) : Lk p l e s m below meth c D k b ax am ao cells slots Q i 1375 := by
  intro ro wx wm H locs ls hI hB hl
  have F := C.F
  have hx := F.x
  have hb := F.b
  have hc1 := hc.1
  have hc2 := hc.2
  have hA : ∀ q : Nat, s.heap.size ≤ q → (fun q : Nat => s.heap.size ≤ q) q := fun _ h => h
  obtain ⟨fx, hx0⟩ := hI.x0
  obtain ⟨fm, hm0⟩ := hI.m0
  refine lv_aload_n hx hb dL_law_1375 rfl (lv_at hl 1 rfl) ?_
  refine kb_vi (pre := [(ao, aj k 1 ro)]) (wc := wx) (post := wm) (rest := []) (As := []) F C.E hA hB (P_loads l D k K hI ) ml_RL_148 mv_yX11_loads hx0 rfl rfl hl.1 rfl (by decide) ⟨Nat.le_of_ble_eq_true rfl, Nat.le_of_ble_eq_true rfl⟩ ⟨by show cells + 0 ≤ 601024; omega, by show slots + 0 ≤ 7293034; omega⟩ dL_law_1376 (fun r wx1 H1 locs1 hN hB => ?_)
  replace hB : Bd D (fun q : Nat => s.heap.size ≤ q) s.heap (((ao, aj k 1 ro) :: wx1) ++ (wm ++ [])) H1 locs1 := by rw [List.append_nil]; exact hB
  refine lv_aload_n hx hb dL_law_1379 rfl (lv_at hl 2 rfl) ?_
  refine ka_vi (pre := (ao, aj k 1 ro) :: wx1) (wc := wm) (post := []) (rest := [.int r]) (As := []) F hA hB hN ml_RL_151 mv_yX12_loads hm0 rfl rfl hl.1 rfl (Nat.le_of_ble_eq_true rfl) ⟨Nat.le_of_ble_eq_true rfl, Nat.le_of_ble_eq_true rfl⟩ ⟨by show cells + 0 + 0 ≤ 601024; omega, by show slots + 0 + 0 ≤ 7293034; omega⟩ dL_law_1380 (fun r2 wm1 H2 locs2 hq hB => ?_)
  rw [List.append_nil] at hB
  refine lv_icmp_eq (tgt := 1759) hx hb dL_law_1383 (by decide) (fun _ => ?_) (fun h => absurd hq.1.symm h)
  exact W.widen (by omega) (by omega) (kk ro wx1 wm1 H2 locs2 ls hq.2 hB hl)

set_option maxRecDepth 100000 in
set_option maxHeartbeats 4000000 in
theorem lc_27 {p : Program} {l : Launch} {e : Env} {s : State} {m : MethodId} {below : List Frame} {meth : Method} {c : Code} {D : va_G} {k : Nat → ClassId} {K : Nat → Nat} {b L : Nat} {xs : Nat → Int32} {ax am ao : Nat} {cells slots : Nat} {Q : State → Prop} {i : Nat} (C : Cx p l s m meth c D k K b L xs) (hi : i + 6 ≤ L) (hc : cells + 32 ≤ 601024 ∧ slots + 900 ≤ 7293034) (kk : Lk p l e s m below meth c D k b ax am ao (cells + 32) (slots + 900) Q i 1759) : Lk p l e s m below meth c D k b ax am ao cells slots Q i 1388 := by
  intro ro wx wm H locs ls hI hB hl
  have F := C.F
  have hx := F.x
  have hb := F.b
  have hc1 := hc.1
  have hc2 := hc.2
  have hA : ∀ q : Nat, s.heap.size ≤ q → (fun q : Nat => s.heap.size ≤ q) q := fun _ h => h
  obtain ⟨fx, hx0⟩ := hI.x0
  obtain ⟨fm, hm0⟩ := hI.m0
  refine lv_aload_n hx hb dL_law_1388 rfl (lv_at hl 1 rfl) ?_
  refine l_arg C hi hB (lv_at hl 0 rfl) (lv_at hl 4 rfl) 1 (by decide) (x := 1) (by decide) (by decide) dL_law_1389 dL_law_1390 dL_law_1392 dL_law_1393 dL_law_1394 ?_
  refine kb_vi (pre := [(ao, aj k 1 ro)]) (wc := wx) (post := wm) (rest := []) (As := [.int (xs (i + 1))]) F C.E hA hB (P_load l D k K hI (xs (i + 1))) ml_RL_152 mv_yX11_load hx0 rfl rfl hl.1 rfl (by decide) ⟨Nat.le_of_ble_eq_true rfl, Nat.le_of_ble_eq_true rfl⟩ ⟨by show cells + 0 ≤ 601024; omega, by show slots + 0 ≤ 7293034; omega⟩ dL_law_1395 (fun r wx1 H1 locs1 hN hB => ?_)
  replace hB : Bd D (fun q : Nat => s.heap.size ≤ q) s.heap (((ao, aj k 1 ro) :: wx1) ++ (wm ++ [])) H1 locs1 := by rw [List.append_nil]; exact hB
  refine lv_aload_n hx hb dL_law_1398 rfl (lv_at hl 2 rfl) ?_
  refine l_arg C hi hB (lv_at hl 0 rfl) (lv_at hl 4 rfl) 1 (by decide) (x := 1) (by decide) (by decide) dL_law_1399 dL_law_1400 dL_law_1402 dL_law_1403 dL_law_1404 ?_
  refine ka_vi (pre := (ao, aj k 1 ro) :: wx1) (wc := wm) (post := []) (rest := [.int r]) (As := [.int (xs (i + 1))]) F hA hB hN ml_RL_155 mv_yX12_load hm0 rfl rfl hl.1 rfl (Nat.le_of_ble_eq_true rfl) ⟨Nat.le_of_ble_eq_true rfl, Nat.le_of_ble_eq_true rfl⟩ ⟨by show cells + 0 + 0 ≤ 601024; omega, by show slots + 0 + 0 ≤ 7293034; omega⟩ dL_law_1405 (fun r2 wm1 H2 locs2 hq hB => ?_)
  rw [List.append_nil] at hB
  refine lv_icmp_eq (tgt := 1759) hx hb dL_law_1408 (by decide) (fun _ => ?_) (fun h => absurd hq.1.symm h)
  exact W.widen (by omega) (by omega) (kk ro wx1 wm1 H2 locs2 ls hq.2 hB hl)

set_option maxRecDepth 100000 in
set_option maxHeartbeats 4000000 in
theorem lc_28 {p : Program} {l : Launch} {e : Env} {s : State} {m : MethodId} {below : List Frame} {meth : Method} {c : Code} {D : va_G} {k : Nat → ClassId} {K : Nat → Nat} {b L : Nat} {xs : Nat → Int32} {ax am ao : Nat} {cells slots : Nat} {Q : State → Prop} {i : Nat} (C : Cx p l s m meth c D k K b L xs) (hi : i + 6 ≤ L) (hc : cells + 32 ≤ 601024 ∧ slots + 900 ≤ 7293034) (kk : Lk p l e s m below meth c D k b ax am ao (cells + 32) (slots + 900) Q i 1759) : Lk p l e s m below meth c D k b ax am ao cells slots Q i 1413 := by
  intro ro wx wm H locs ls hI hB hl
  have F := C.F
  have hx := F.x
  have hb := F.b
  have hc1 := hc.1
  have hc2 := hc.2
  have hA : ∀ q : Nat, s.heap.size ≤ q → (fun q : Nat => s.heap.size ≤ q) q := fun _ h => h
  obtain ⟨fx, hx0⟩ := hI.x0
  obtain ⟨fm, hm0⟩ := hI.m0
  refine lv_aload_n hx hb dL_law_1413 rfl (lv_at hl 1 rfl) ?_
  refine l_arg C hi hB (lv_at hl 0 rfl) (lv_at hl 4 rfl) 1 (by decide) (x := 1) (by decide) (by decide) dL_law_1414 dL_law_1415 dL_law_1417 dL_law_1418 dL_law_1419 ?_
  refine l_arg C hi hB (lv_at hl 0 rfl) (lv_at hl 4 rfl) 2 (by decide) (x := 2) (by decide) (by decide) dL_law_1420 dL_law_1421 dL_law_1423 dL_law_1424 dL_law_1425 ?_
  refine l_arg C hi hB (lv_at hl 0 rfl) (lv_at hl 4 rfl) 3 (by decide) (x := 3) (by decide) (by decide) dL_law_1426 dL_law_1427 dL_law_1429 dL_law_1430 dL_law_1431 ?_
  refine l_arg C hi hB (lv_at hl 0 rfl) (lv_at hl 4 rfl) 4 (by decide) (x := 4) (by decide) (by decide) dL_law_1432 dL_law_1433 dL_law_1435 dL_law_1436 dL_law_1437 ?_
  refine l_arg C hi hB (lv_at hl 0 rfl) (lv_at hl 4 rfl) 5 (by decide) (x := 5) (by decide) (by decide) dL_law_1438 dL_law_1439 dL_law_1441 dL_law_1442 dL_law_1443 ?_
  refine kb_vi (pre := [(ao, aj k 1 ro)]) (wc := wx) (post := wm) (rest := []) (As := [.int (xs (i + 1)), .int (xs (i + 2)), .int (xs (i + 3)), .int (xs (i + 4)), .int (xs (i + 5))]) F C.E hA hB (P_cross l D k K hI (xs (i + 1)) (xs (i + 2)) (xs (i + 3)) (xs (i + 4)) (xs (i + 5))) ml_RL_156 mv_yX11_cross hx0 rfl rfl hl.1 rfl (by decide) ⟨Nat.le_of_ble_eq_true rfl, Nat.le_of_ble_eq_true rfl⟩ ⟨by show cells + 0 ≤ 601024; omega, by show slots + 0 ≤ 7293034; omega⟩ dL_law_1444 (fun r wx1 H1 locs1 hN hB => ?_)
  replace hB : Bd D (fun q : Nat => s.heap.size ≤ q) s.heap (((ao, aj k 1 ro) :: wx1) ++ (wm ++ [])) H1 locs1 := by rw [List.append_nil]; exact hB
  refine lv_aload_n hx hb dL_law_1447 rfl (lv_at hl 2 rfl) ?_
  refine l_arg C hi hB (lv_at hl 0 rfl) (lv_at hl 4 rfl) 1 (by decide) (x := 1) (by decide) (by decide) dL_law_1448 dL_law_1449 dL_law_1451 dL_law_1452 dL_law_1453 ?_
  refine l_arg C hi hB (lv_at hl 0 rfl) (lv_at hl 4 rfl) 2 (by decide) (x := 2) (by decide) (by decide) dL_law_1454 dL_law_1455 dL_law_1457 dL_law_1458 dL_law_1459 ?_
  refine l_arg C hi hB (lv_at hl 0 rfl) (lv_at hl 4 rfl) 3 (by decide) (x := 3) (by decide) (by decide) dL_law_1460 dL_law_1461 dL_law_1463 dL_law_1464 dL_law_1465 ?_
  refine l_arg C hi hB (lv_at hl 0 rfl) (lv_at hl 4 rfl) 4 (by decide) (x := 4) (by decide) (by decide) dL_law_1466 dL_law_1467 dL_law_1469 dL_law_1470 dL_law_1471 ?_
  refine l_arg C hi hB (lv_at hl 0 rfl) (lv_at hl 4 rfl) 5 (by decide) (x := 5) (by decide) (by decide) dL_law_1472 dL_law_1473 dL_law_1475 dL_law_1476 dL_law_1477 ?_
  refine ka_vi (pre := (ao, aj k 1 ro) :: wx1) (wc := wm) (post := []) (rest := [.int r]) (As := [.int (xs (i + 1)), .int (xs (i + 2)), .int (xs (i + 3)), .int (xs (i + 4)), .int (xs (i + 5))]) F hA hB hN ml_RL_159 mv_yX12_cross hm0 rfl rfl hl.1 rfl (Nat.le_of_ble_eq_true rfl) ⟨Nat.le_of_ble_eq_true rfl, Nat.le_of_ble_eq_true rfl⟩ ⟨by show cells + 0 + 0 ≤ 601024; omega, by show slots + 0 + 0 ≤ 7293034; omega⟩ dL_law_1478 (fun r2 wm1 H2 locs2 hq hB => ?_)
  rw [List.append_nil] at hB
  refine lv_icmp_eq (tgt := 1759) hx hb dL_law_1481 (by decide) (fun _ => ?_) (fun h => absurd hq.1.symm h)
  exact W.widen (by omega) (by omega) (kk ro wx1 wm1 H2 locs2 ls hq.2 hB hl)

set_option maxRecDepth 100000 in
set_option maxHeartbeats 4000000 in
theorem lc_29 {p : Program} {l : Launch} {e : Env} {s : State} {m : MethodId} {below : List Frame} {meth : Method} {c : Code} {D : va_G} {k : Nat → ClassId} {K : Nat → Nat} {b L : Nat} {xs : Nat → Int32} {ax am ao : Nat} {cells slots : Nat} {Q : State → Prop} {i : Nat} (C : Cx p l s m meth c D k K b L xs) (hi : i + 6 ≤ L) (hc : cells + 32 ≤ 601024 ∧ slots + 900 ≤ 7293034) (kk : Lk p l e s m below meth c D k b ax am ao (cells + 32) (slots + 900) Q i 1759) : Lk p l e s m below meth c D k b ax am ao cells slots Q i 1486 := by
  intro ro wx wm H locs ls hI hB hl
  have F := C.F
  have hx := F.x
  have hb := F.b
  have hc1 := hc.1
  have hc2 := hc.2
  have hA : ∀ q : Nat, s.heap.size ≤ q → (fun q : Nat => s.heap.size ≤ q) q := fun _ h => h
  obtain ⟨fx, hx0⟩ := hI.x0
  obtain ⟨fm, hm0⟩ := hI.m0
  refine lv_aload_n hx hb dL_law_1486 rfl (lv_at hl 1 rfl) ?_
  refine l_arg C hi hB (lv_at hl 0 rfl) (lv_at hl 4 rfl) 1 (by decide) (x := 1) (by decide) (by decide) dL_law_1487 dL_law_1488 dL_law_1490 dL_law_1491 dL_law_1492 ?_
  refine l_arg C hi hB (lv_at hl 0 rfl) (lv_at hl 4 rfl) 2 (by decide) (x := 2) (by decide) (by decide) dL_law_1493 dL_law_1494 dL_law_1496 dL_law_1497 dL_law_1498 ?_
  refine l_arg C hi hB (lv_at hl 0 rfl) (lv_at hl 4 rfl) 3 (by decide) (x := 3) (by decide) (by decide) dL_law_1499 dL_law_1500 dL_law_1502 dL_law_1503 dL_law_1504 ?_
  refine l_arg C hi hB (lv_at hl 0 rfl) (lv_at hl 4 rfl) 4 (by decide) (x := 4) (by decide) (by decide) dL_law_1505 dL_law_1506 dL_law_1508 dL_law_1509 dL_law_1510 ?_
  refine kb_vi (pre := [(ao, aj k 1 ro)]) (wc := wx) (post := wm) (rest := []) (As := [.int (xs (i + 1)), .int (xs (i + 2)), .int (xs (i + 3)), .int (xs (i + 4))]) F C.E hA hB (P_ring l D k K hI (xs (i + 1)) (xs (i + 2)) (xs (i + 3)) (xs (i + 4))) ml_RL_160 mv_yX11_ring hx0 rfl rfl hl.1 rfl (by decide) ⟨Nat.le_of_ble_eq_true rfl, Nat.le_of_ble_eq_true rfl⟩ ⟨by show cells + 0 ≤ 601024; omega, by show slots + 0 ≤ 7293034; omega⟩ dL_law_1511 (fun r wx1 H1 locs1 hN hB => ?_)
  replace hB : Bd D (fun q : Nat => s.heap.size ≤ q) s.heap (((ao, aj k 1 ro) :: wx1) ++ (wm ++ [])) H1 locs1 := by rw [List.append_nil]; exact hB
  refine lv_aload_n hx hb dL_law_1514 rfl (lv_at hl 2 rfl) ?_
  refine l_arg C hi hB (lv_at hl 0 rfl) (lv_at hl 4 rfl) 1 (by decide) (x := 1) (by decide) (by decide) dL_law_1515 dL_law_1516 dL_law_1518 dL_law_1519 dL_law_1520 ?_
  refine l_arg C hi hB (lv_at hl 0 rfl) (lv_at hl 4 rfl) 2 (by decide) (x := 2) (by decide) (by decide) dL_law_1521 dL_law_1522 dL_law_1524 dL_law_1525 dL_law_1526 ?_
  refine l_arg C hi hB (lv_at hl 0 rfl) (lv_at hl 4 rfl) 3 (by decide) (x := 3) (by decide) (by decide) dL_law_1527 dL_law_1528 dL_law_1530 dL_law_1531 dL_law_1532 ?_
  refine l_arg C hi hB (lv_at hl 0 rfl) (lv_at hl 4 rfl) 4 (by decide) (x := 4) (by decide) (by decide) dL_law_1533 dL_law_1534 dL_law_1536 dL_law_1537 dL_law_1538 ?_
  refine ka_vi (pre := (ao, aj k 1 ro) :: wx1) (wc := wm) (post := []) (rest := [.int r]) (As := [.int (xs (i + 1)), .int (xs (i + 2)), .int (xs (i + 3)), .int (xs (i + 4))]) F hA hB hN ml_RL_163 mv_yX12_ring hm0 rfl rfl hl.1 rfl (Nat.le_of_ble_eq_true rfl) ⟨Nat.le_of_ble_eq_true rfl, Nat.le_of_ble_eq_true rfl⟩ ⟨by show cells + 0 + 0 ≤ 601024; omega, by show slots + 0 + 0 ≤ 7293034; omega⟩ dL_law_1539 (fun r2 wm1 H2 locs2 hq hB => ?_)
  rw [List.append_nil] at hB
  refine lv_icmp_eq (tgt := 1759) hx hb dL_law_1542 (by decide) (fun _ => ?_) (fun h => absurd hq.1.symm h)
  exact W.widen (by omega) (by omega) (kk ro wx1 wm1 H2 locs2 ls hq.2 hB hl)
