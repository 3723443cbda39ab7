set_option maxRecDepth 100000 in
set_option maxHeartbeats 4000000 in
theorem lc_0 {p : Program} {l : Launch} {e : Env} {s : State} {m : MethodId} {below : List Frame} {meth : Method} {c : Code} {D : va_G} {k : Nat → ClassId} {K : Nat → Nat} {b L : Nat} {xs : Nat → Int32} {ax am ao : Nat} {cells slots : Nat} {Q : State → Prop} {i : Nat} (C : Cx p l s m meth c D k K b L xs) (hi : i + 6 ≤ L) (hc : cells + 32 ≤ 601024 ∧ slots + 900 ≤ 7293034) (kk : Lk p l e s m below meth c D k b ax am ao (cells + 32) (slots + 900) Q i 1759) : Lk p l e s m below meth c D k b ax am ao cells slots Q i 208 := by
  intro ro wx wm H locs ls hI hB hl
  have F := C.F
  have hx := F.x
  have hb := F.b
  have hc1 := hc.1
  have hc2 := hc.2
  have hA : ∀ q : Nat, s.heap.size ≤ q → (fun q : Nat => s.heap.size ≤ q) q := fun _ h => h
  obtain ⟨fx, hx0⟩ := hI.x0
  obtain ⟨fm, hm0⟩ := hI.m0
  refine lv_aload_n hx hb dL_law_208 rfl (lv_at hl 1 rfl) ?_
  refine l_arg C hi hB (lv_at hl 0 rfl) (lv_at hl 4 rfl) 1 (by decide) (x := 1) (by decide) (by decide) dL_law_209 dL_law_210 dL_law_212 dL_law_213 dL_law_214 ?_
  refine l_arg C hi hB (lv_at hl 0 rfl) (lv_at hl 4 rfl) 2 (by decide) (x := 2) (by decide) (by decide) dL_law_215 dL_law_216 dL_law_218 dL_law_219 dL_law_220 ?_
  refine l_arg C hi hB (lv_at hl 0 rfl) (lv_at hl 4 rfl) 3 (by decide) (x := 3) (by decide) (by decide) dL_law_221 dL_law_222 dL_law_224 dL_law_225 dL_law_226 ?_
  refine l_arg C hi hB (lv_at hl 0 rfl) (lv_at hl 4 rfl) 4 (by decide) (x := 4) (by decide) (by decide) dL_law_227 dL_law_228 dL_law_230 dL_law_231 dL_law_232 ?_
  refine l_arg C hi hB (lv_at hl 0 rfl) (lv_at hl 4 rfl) 5 (by decide) (x := 5) (by decide) (by decide) dL_law_233 dL_law_234 dL_law_236 dL_law_237 dL_law_238 ?_
  refine kb_vi (pre := [(ao, aj k 1 ro)]) (wc := wx) (post := wm) (rest := []) (As := [.int (xs (i + 1)), .int (xs (i + 2)), .int (xs (i + 3)), .int (xs (i + 4)), .int (xs (i + 5))]) F C.E hA hB (P_feed l D k K hI (xs (i + 1)) (xs (i + 2)) (xs (i + 3)) (xs (i + 4)) (xs (i + 5))) ml_RL_39 mv_yX11_feed hx0 rfl rfl hl.1 rfl (by decide) ⟨Nat.le_of_ble_eq_true rfl, Nat.le_of_ble_eq_true rfl⟩ ⟨by show cells + 0 ≤ 601024; omega, by show slots + 0 ≤ 7293034; omega⟩ dL_law_239 (fun r wx1 H1 locs1 hN hB => ?_)
  replace hB : Bd D (fun q : Nat => s.heap.size ≤ q) s.heap (((ao, aj k 1 ro) :: wx1) ++ (wm ++ [])) H1 locs1 := by rw [List.append_nil]; exact hB
  refine lv_aload_n hx hb dL_law_242 rfl (lv_at hl 2 rfl) ?_
  refine l_arg C hi hB (lv_at hl 0 rfl) (lv_at hl 4 rfl) 1 (by decide) (x := 1) (by decide) (by decide) dL_law_243 dL_law_244 dL_law_246 dL_law_247 dL_law_248 ?_
  refine l_arg C hi hB (lv_at hl 0 rfl) (lv_at hl 4 rfl) 2 (by decide) (x := 2) (by decide) (by decide) dL_law_249 dL_law_250 dL_law_252 dL_law_253 dL_law_254 ?_
  refine l_arg C hi hB (lv_at hl 0 rfl) (lv_at hl 4 rfl) 3 (by decide) (x := 3) (by decide) (by decide) dL_law_255 dL_law_256 dL_law_258 dL_law_259 dL_law_260 ?_
  refine l_arg C hi hB (lv_at hl 0 rfl) (lv_at hl 4 rfl) 4 (by decide) (x := 4) (by decide) (by decide) dL_law_261 dL_law_262 dL_law_264 dL_law_265 dL_law_266 ?_
  refine l_arg C hi hB (lv_at hl 0 rfl) (lv_at hl 4 rfl) 5 (by decide) (x := 5) (by decide) (by decide) dL_law_267 dL_law_268 dL_law_270 dL_law_271 dL_law_272 ?_
  refine ka_vi (pre := (ao, aj k 1 ro) :: wx1) (wc := wm) (post := []) (rest := [.int r]) (As := [.int (xs (i + 1)), .int (xs (i + 2)), .int (xs (i + 3)), .int (xs (i + 4)), .int (xs (i + 5))]) F hA hB hN ml_RL_43 mv_yX12_feed hm0 rfl rfl hl.1 rfl (Nat.le_of_ble_eq_true rfl) ⟨Nat.le_of_ble_eq_true rfl, Nat.le_of_ble_eq_true rfl⟩ ⟨by show cells + 0 + 0 ≤ 601024; omega, by show slots + 0 + 0 ≤ 7293034; omega⟩ dL_law_273 (fun r2 wm1 H2 locs2 hq hB => ?_)
  rw [List.append_nil] at hB
  refine lv_icmp_eq (tgt := 1759) hx hb dL_law_276 (by decide) (fun _ => ?_) (fun h => absurd hq.1.symm h)
  exact W.widen (by omega) (by omega) (kk ro wx1 wm1 H2 locs2 ls hq.2 hB hl)

set_option maxRecDepth 100000 in
set_option maxHeartbeats 4000000 in
theorem lc_1 {p : Program} {l : Launch} {e : Env} {s : State} {m : MethodId} {below : List Frame} {meth : Method} {c : Code} {D : va_G} {k : Nat → ClassId} {K : Nat → Nat} {b L : Nat} {xs : Nat → Int32} {ax am ao : Nat} {cells slots : Nat} {Q : State → Prop} {i : Nat} (C : Cx p l s m meth c D k K b L xs) (hi : i + 6 ≤ L) (hc : cells + 32 ≤ 601024 ∧ slots + 900 ≤ 7293034) (kk : Lk p l e s m below meth c D k b ax am ao (cells + 32) (slots + 900) Q i 1759) : Lk p l e s m below meth c D k b ax am ao cells slots Q i 281 := by
  intro ro wx wm H locs ls hI hB hl
  have F := C.F
  have hx := F.x
  have hb := F.b
  have hc1 := hc.1
  have hc2 := hc.2
  have hA : ∀ q : Nat, s.heap.size ≤ q → (fun q : Nat => s.heap.size ≤ q) q := fun _ h => h
  obtain ⟨fx, hx0⟩ := hI.x0
  obtain ⟨fm, hm0⟩ := hI.m0
  refine lv_aload_n hx hb dL_law_281 rfl (lv_at hl 1 rfl) ?_
  refine l_arg C hi hB (lv_at hl 0 rfl) (lv_at hl 4 rfl) 1 (by decide) (x := 1) (by decide) (by decide) dL_law_282 dL_law_283 dL_law_285 dL_law_286 dL_law_287 ?_
  refine kb_vi (pre := [(ao, aj k 1 ro)]) (wc := wx) (post := wm) (rest := []) (As := [.int (xs (i + 1))]) F C.E hA hB (P_end l D k K hI (xs (i + 1))) ml_RL_44 mv_yX11_end hx0 rfl rfl hl.1 rfl (by decide) ⟨Nat.le_of_ble_eq_true rfl, Nat.le_of_ble_eq_true rfl⟩ ⟨by show cells + 0 ≤ 601024; omega, by show slots + 0 ≤ 7293034; omega⟩ dL_law_288 (fun r wx1 H1 locs1 hN hB => ?_)
  replace hB : Bd D (fun q : Nat => s.heap.size ≤ q) s.heap (((ao, aj k 1 ro) :: wx1) ++ (wm ++ [])) H1 locs1 := by rw [List.append_nil]; exact hB
  refine lv_aload_n hx hb dL_law_291 rfl (lv_at hl 2 rfl) ?_
  refine l_arg C hi hB (lv_at hl 0 rfl) (lv_at hl 4 rfl) 1 (by decide) (x := 1) (by decide) (by decide) dL_law_292 dL_law_293 dL_law_295 dL_law_296 dL_law_297 ?_
  refine ka_vi (pre := (ao, aj k 1 ro) :: wx1) (wc := wm) (post := []) (rest := [.int r]) (As := [.int (xs (i + 1))]) F hA hB hN ml_RL_48 mv_yX12_end hm0 rfl rfl hl.1 rfl (Nat.le_of_ble_eq_true rfl) ⟨Nat.le_of_ble_eq_true rfl, Nat.le_of_ble_eq_true rfl⟩ ⟨by show cells + 0 + 0 ≤ 601024; omega, by show slots + 0 + 0 ≤ 7293034; omega⟩ dL_law_298 (fun r2 wm1 H2 locs2 hq hB => ?_)
  rw [List.append_nil] at hB
  refine lv_icmp_eq (tgt := 1759) hx hb dL_law_301 (by decide) (fun _ => ?_) (fun h => absurd hq.1.symm h)
  exact W.widen (by omega) (by omega) (kk ro wx1 wm1 H2 locs2 ls hq.2 hB hl)

set_option maxRecDepth 100000 in
set_option maxHeartbeats 4000000 in
theorem lc_2 {p : Program} {l : Launch} {e : Env} {s : State} {m : MethodId} {below : List Frame} {meth : Method} {c : Code} {D : va_G} {k : Nat → ClassId} {K : Nat → Nat} {b L : Nat} {xs : Nat → Int32} {ax am ao : Nat} {cells slots : Nat} {Q : State → Prop} {i : Nat} (C : Cx p l s m meth c D k K b L xs) (hi : i + 6 ≤ L) (hc : cells + 32 ≤ 601024 ∧ slots + 900 ≤ 7293034) (kk : Lk p l e s m below meth c D k b ax am ao (cells + 32) (slots + 900) Q i 1759) : Lk p l e s m below meth c D k b ax am ao cells slots Q i 306 := by
  intro ro wx wm H locs ls hI hB hl
  have F := C.F
  have hx := F.x
  have hb := F.b
  have hc1 := hc.1
  have hc2 := hc.2
  have hA : ∀ q : Nat, s.heap.size ≤ q → (fun q : Nat => s.heap.size ≤ q) q := fun _ h => h
  obtain ⟨fx, hx0⟩ := hI.x0
  obtain ⟨fm, hm0⟩ := hI.m0
  refine lv_aload_n hx hb dL_law_306 rfl (lv_at hl 1 rfl) ?_
  refine kb_vi (pre := [(ao, aj k 1 ro)]) (wc := wx) (post := wm) (rest := []) (As := []) F C.E hA hB (P_line l D k K hI ) ml_RL_49 mv_yX11_line hx0 rfl rfl hl.1 rfl (by decide) ⟨Nat.le_of_ble_eq_true rfl, Nat.le_of_ble_eq_true rfl⟩ ⟨by show cells + 0 ≤ 601024; omega, by show slots + 0 ≤ 7293034; omega⟩ dL_law_307 (fun r wx1 H1 locs1 hN hB => ?_)
  replace hB : Bd D (fun q : Nat => s.heap.size ≤ q) s.heap (((ao, aj k 1 ro) :: wx1) ++ (wm ++ [])) H1 locs1 := by rw [List.append_nil]; exact hB
  refine lv_aload_n hx hb dL_law_310 rfl (lv_at hl 2 rfl) ?_
  refine ka_vi (pre := (ao, aj k 1 ro) :: wx1) (wc := wm) (post := []) (rest := [.int r]) (As := []) F hA hB hN ml_RL_53 mv_yX12_line hm0 rfl rfl hl.1 rfl (Nat.le_of_ble_eq_true rfl) ⟨Nat.le_of_ble_eq_true rfl, Nat.le_of_ble_eq_true rfl⟩ ⟨by show cells + 0 + 0 ≤ 601024; omega, by show slots + 0 + 0 ≤ 7293034; omega⟩ dL_law_311 (fun r2 wm1 H2 locs2 hq hB => ?_)
  rw [List.append_nil] at hB
  refine lv_icmp_eq (tgt := 1759) hx hb dL_law_314 (by decide) (fun _ => ?_) (fun h => absurd hq.1.symm h)
  exact W.widen (by omega) (by omega) (kk ro wx1 wm1 H2 locs2 ls hq.2 hB hl)

set_option maxRecDepth 100000 in
set_option maxHeartbeats 4000000 in
theorem lc_3 {p : Program} {l : Launch} {e : Env} {s : State} {m : MethodId} {below : List Frame} {meth : Method} {c : Code} {D : va_G} {k : Nat → ClassId} {K : Nat → Nat} {b L : Nat} {xs : Nat → Int32} {ax am ao : Nat} {cells slots : Nat} {Q : State → Prop} {i : Nat} (C : Cx p l s m meth c D k K b L xs) (hi : i + 6 ≤ L) (hc : cells + 32 ≤ 601024 ∧ slots + 900 ≤ 7293034) (kk : Lk p l e s m below meth c D k b ax am ao (cells + 32) (slots + 900) Q i 1759) : Lk p l e s m below meth c D k b ax am ao cells slots Q i 319 := by
  intro ro wx wm H locs ls hI hB hl
  have F := C.F
  have hx := F.x
  have hb := F.b
  have hc1 := hc.1
  have hc2 := hc.2
  have hA : ∀ q : Nat, s.heap.size ≤ q → (fun q : Nat => s.heap.size ≤ q) q := fun _ h => h
  obtain ⟨fx, hx0⟩ := hI.x0
  obtain ⟨fm, hm0⟩ := hI.m0
  refine lv_aload_n hx hb dL_law_319 rfl (lv_at hl 1 rfl) ?_
  refine kb_vi (pre := [(ao, aj k 1 ro)]) (wc := wx) (post := wm) (rest := []) (As := []) F C.E hA hB (P_fault l D k K hI ) ml_RL_54 mv_yX11_fault hx0 rfl rfl hl.1 rfl (by decide) ⟨Nat.le_of_ble_eq_true rfl, Nat.le_of_ble_eq_true rfl⟩ ⟨by show cells + 0 ≤ 601024; omega, by show slots + 0 ≤ 7293034; omega⟩ dL_law_320 (fun r wx1 H1 locs1 hN hB => ?_)
  replace hB : Bd D (fun q : Nat => s.heap.size ≤ q) s.heap (((ao, aj k 1 ro) :: wx1) ++ (wm ++ [])) H1 locs1 := by rw [List.append_nil]; exact hB
  refine lv_aload_n hx hb dL_law_323 rfl (lv_at hl 2 rfl) ?_
  refine ka_vi (pre := (ao, aj k 1 ro) :: wx1) (wc := wm) (post := []) (rest := [.int r]) (As := []) F hA hB hN ml_RL_57 mv_yX12_fault hm0 rfl rfl hl.1 rfl (Nat.le_of_ble_eq_true rfl) ⟨Nat.le_of_ble_eq_true rfl, Nat.le_of_ble_eq_true rfl⟩ ⟨by show cells + 0 + 0 ≤ 601024; omega, by show slots + 0 + 0 ≤ 7293034; omega⟩ dL_law_324 (fun r2 wm1 H2 locs2 hq hB => ?_)
  rw [List.append_nil] at hB
  refine lv_icmp_eq (tgt := 1759) hx hb dL_law_327 (by decide) (fun _ => ?_) (fun h => absurd hq.1.symm h)
  exact W.widen (by omega) (by omega) (kk ro wx1 wm1 H2 locs2 ls hq.2 hB hl)

set_option maxRecDepth 100000 in
set_option maxHeartbeats 4000000 in
theorem lc_4 {p : Program} {l : Launch} {e : Env} {s : State} {m : MethodId} {below : List Frame} {meth : Method} {c : Code} {D : va_G} {k : Nat → ClassId} {K : Nat → Nat} {b L : Nat} {xs : Nat → Int32} {ax am ao : Nat} {cells slots : Nat} {Q : State → Prop} {i : Nat} (C : Cx p l s m meth c D k K b L xs) (hi : i + 6 ≤ L) (hc : cells + 32 ≤ 601024 ∧ slots + 900 ≤ 7293034) (kk : Lk p l e s m below meth c D k b ax am ao (cells + 32) (slots + 900) Q i 1759) : Lk p l e s m below meth c D k b ax am ao cells slots Q i 332 := by
  intro ro wx wm H locs ls hI hB hl
  have F := C.F
  have hx := F.x
  have hb := F.b
  have hc1 := hc.1
  have hc2 := hc.2
  have hA : ∀ q : Nat, s.heap.size ≤ q → (fun q : Nat => s.heap.size ≤ q) q := fun _ h => h
  obtain ⟨fx, hx0⟩ := hI.x0
  obtain ⟨fm, hm0⟩ := hI.m0
  refine lv_aload_n hx hb dL_law_332 rfl (lv_at hl 1 rfl) ?_
  refine l_arg C hi hB (lv_at hl 0 rfl) (lv_at hl 4 rfl) 1 (by decide) (x := 1) (by decide) (by decide) dL_law_333 dL_law_334 dL_law_336 dL_law_337 dL_law_338 ?_
  refine lv_aload_n hx hb dL_law_339 rfl (lv_at hl 3 rfl) ?_
  refine kw_si (pre := []) (wc := (ao, aj k 1 ro) :: wx) (post := wm) (rest := []) (As := [.ref ax, .int (xs (i + 1)), .ref ao]) F C.E hA hB (P_grade l C.st D k K hI (xs (i + 1))) mw_RL_58 rfl hl.1 rfl (by decide) ⟨Nat.le_of_ble_eq_true rfl, Nat.le_of_ble_eq_true rfl⟩ ⟨by show cells + 1 ≤ 601024; omega, by show slots + 6 ≤ 7293034; omega⟩ dL_law_340 (fun r w1 H1 locs1 hq hB => ?_)
  obtain ⟨ro1, wx1, rfl, hN⟩ := hq
  replace hB : Bd D (fun q : Nat => s.heap.size ≤ q) s.heap (((ao, aj k 1 ro1) :: wx1) ++ (wm ++ [])) H1 locs1 := by rw [List.append_nil]; exact hB
  refine lv_istore (lv' := [(5, .int r), (0, .ref b), (1, .ref ax), (2, .ref am), (3, .ref ao), (4, .int (eI (i : Int)))]) hx hb dL_law_343 hl (by decide) rfl (fun ls hl => ?_)
  refine lv_aload_n hx hb dL_law_345 rfl (lv_at hl 3 rfl) ?_
  refine l_arg C hi hB (lv_at hl 1 rfl) (lv_at hl 5 rfl) 1 (by decide) (x := 1) (by decide) (by decide) dL_law_346 dL_law_347 dL_law_349 dL_law_350 dL_law_351 ?_
  refine ka_vi (pre := (ao, aj k 1 ro1) :: wx1) (wc := wm) (post := []) (rest := []) (As := [.int (xs (i + 1))]) F hA hB hN ml_RL_63 mv_yX12_grade hm0 rfl rfl hl.1 rfl (Nat.le_of_ble_eq_true rfl) ⟨Nat.le_of_ble_eq_true rfl, Nat.le_of_ble_eq_true rfl⟩ ⟨by show cells + 1 + 0 ≤ 601024; omega, by show slots + 6 + 0 ≤ 7293034; omega⟩ dL_law_352 (fun r1 wm1 H2 locs2 hN2 hB => ?_)
  refine lv_istore (lv' := [(6, .int r1), (5, .int r), (0, .ref b), (1, .ref ax), (2, .ref am), (3, .ref ao), (4, .int (eI (i : Int)))]) hx hb dL_law_355 hl (by decide) rfl (fun ls hl => ?_)
  refine lv_aload_n hx hb dL_law_357 rfl (lv_at hl 4 rfl) ?_
  refine ka_vi (pre := (ao, aj k 1 ro1) :: wx1) (wc := wm1) (post := []) (rest := []) (As := []) F hA hB hN2.1 ml_RL_64 mv_yX12_thrown hN2.2.choose_spec rfl rfl hl.1 rfl (Nat.le_of_ble_eq_true rfl) ⟨Nat.le_of_ble_eq_true rfl, Nat.le_of_ble_eq_true rfl⟩ ⟨by show cells + 1 + 0 ≤ 601024; omega, by show slots + 6 + 0 ≤ 7293034; omega⟩ dL_law_358 (fun r2 wm2 H3 locs3 hq hB => ?_)
  rw [List.append_nil] at hB
  obtain ⟨hq1, hq2, hq3, hI2⟩ := hq
  refine lv_iload hx hb dL_law_361 (lv_at hl 1 rfl) ?_
  refine lv_icmp_eq (tgt := 368) hx hb dL_law_363 (by decide) (fun _ => ?_) (fun h => absurd hq1 h)
  have hend : W p l e room_1 s m #[Value.ref b] below meth c H3 locs3 (cells + 1 + 0 + 0) (slots + 6 + 0 + 0) Q (F0 m 385 ls []) := by
    refine lv_goto (tgt := 1759) hx hb dL_law_385 (by decide) ?_
    exact W.widen (by omega) (by omega) (kk ro1 wx1 wm2 H3 locs3 ls hI2 hB (lv_sub hl [2, 3, 4, 5, 6] rfl))
  refine lv_iload hx hb dL_law_368 (lv_at hl 1 rfl) ?_
  refine lv_if_ne (tgt := 385) hx hb dL_law_370 (by decide) (fun _ => hend) (fun h0 => ?_)
  refine lv_aload_n hx hb dL_law_373 rfl (lv_at hl 5 rfl) ?_
  refine lv_iconst (v := 0) hx hb dL_law_374 (by decide) ?_
  refine g_jald F hB 0 rfl (vp_in_iff.mpr (by decide +kernel)) dL_law_375 ?_
  refine lv_iload hx hb dL_law_376 (lv_at hl 0 rfl) ?_
  refine lv_i2l hx hb dL_law_378 rfl ?_
  refine W.lcmp hx hb dL_law_379 ?_
  refine lv_if_eq (tgt := 385) hx hb dL_law_380 (by decide) (fun _ => hend) (fun h => absurd (lcmp_0 (hq2 h0)) h)

set_option maxRecDepth 100000 in
set_option maxHeartbeats 4000000 in
theorem lc_5 {p : Program} {l : Launch} {e : Env} {s : State} {m : MethodId} {below : List Frame} {meth : Method} {c : Code} {D : va_G} {k : Nat → ClassId} {K : Nat → Nat} {b L : Nat} {xs : Nat → Int32} {ax am ao : Nat} {cells slots : Nat} {Q : State → Prop} {i : Nat} (C : Cx p l s m meth c D k K b L xs) (hi : i + 6 ≤ L) (hc : cells + 32 ≤ 601024 ∧ slots + 900 ≤ 7293034) (kk : Lk p l e s m below meth c D k b ax am ao (cells + 32) (slots + 900) Q i 1759) : Lk p l e s m below meth c D k b ax am ao cells slots Q i 388 := by
  intro ro wx wm H locs ls hI hB hl
  have F := C.F
  have hx := F.x
  have hb := F.b
  have hc1 := hc.1
  have hc2 := hc.2
  have hA : ∀ q : Nat, s.heap.size ≤ q → (fun q : Nat => s.heap.size ≤ q) q := fun _ h => h
  obtain ⟨fx, hx0⟩ := hI.x0
  obtain ⟨fm, hm0⟩ := hI.m0
  refine lv_aload_n hx hb dL_law_388 rfl (lv_at hl 1 rfl) ?_
  refine l_arg C hi hB (lv_at hl 0 rfl) (lv_at hl 4 rfl) 1 (by decide) (x := 1) (by decide) (by decide) dL_law_389 dL_law_390 dL_law_392 dL_law_393 dL_law_394 ?_
  refine l_arg C hi hB (lv_at hl 0 rfl) (lv_at hl 4 rfl) 2 (by decide) (x := 2) (by decide) (by decide) dL_law_395 dL_law_396 dL_law_398 dL_law_399 dL_law_400 ?_
  refine lv_aload_n hx hb dL_law_401 rfl (lv_at hl 3 rfl) ?_
  refine kw_si (pre := []) (wc := (ao, aj k 1 ro) :: wx) (post := wm) (rest := []) (As := [.ref ax, .int (xs (i + 1)), .int (xs (i + 2)), .ref ao]) F C.E hA hB (P_halt l C.st D k K hI (xs (i + 1)) (xs (i + 2))) mw_RL_67 rfl hl.1 rfl (by decide) ⟨Nat.le_of_ble_eq_true rfl, Nat.le_of_ble_eq_true rfl⟩ ⟨by show cells + 1 ≤ 601024; omega, by show slots + 6 ≤ 7293034; omega⟩ dL_law_402 (fun r w1 H1 locs1 hq hB => ?_)
  obtain ⟨ro1, wx1, rfl, hN⟩ := hq
  replace hB : Bd D (fun q : Nat => s.heap.size ≤ q) s.heap (((ao, aj k 1 ro1) :: wx1) ++ (wm ++ [])) H1 locs1 := by rw [List.append_nil]; exact hB
  refine lv_istore (lv' := [(5, .int r), (0, .ref b), (1, .ref ax), (2, .ref am), (3, .ref ao), (4, .int (eI (i : Int)))]) hx hb dL_law_405 hl (by decide) rfl (fun ls hl => ?_)
  refine lv_aload_n hx hb dL_law_407 rfl (lv_at hl 3 rfl) ?_
  refine l_arg C hi hB (lv_at hl 1 rfl) (lv_at hl 5 rfl) 1 (by decide) (x := 1) (by decide) (by decide) dL_law_408 dL_law_409 dL_law_411 dL_law_412 dL_law_413 ?_
  refine l_arg C hi hB (lv_at hl 1 rfl) (lv_at hl 5 rfl) 2 (by decide) (x := 2) (by decide) (by decide) dL_law_414 dL_law_415 dL_law_417 dL_law_418 dL_law_419 ?_
  refine ka_vi (pre := (ao, aj k 1 ro1) :: wx1) (wc := wm) (post := []) (rest := []) (As := [.int (xs (i + 1)), .int (xs (i + 2))]) F hA hB hN ml_RL_70 mv_yX12_halt hm0 rfl rfl hl.1 rfl (Nat.le_of_ble_eq_true rfl) ⟨Nat.le_of_ble_eq_true rfl, Nat.le_of_ble_eq_true rfl⟩ ⟨by show cells + 1 + 0 ≤ 601024; omega, by show slots + 6 + 0 ≤ 7293034; omega⟩ dL_law_420 (fun r1 wm1 H2 locs2 hN2 hB => ?_)
  refine lv_istore (lv' := [(6, .int r1), (5, .int r), (0, .ref b), (1, .ref ax), (2, .ref am), (3, .ref ao), (4, .int (eI (i : Int)))]) hx hb dL_law_423 hl (by decide) rfl (fun ls hl => ?_)
  refine lv_aload_n hx hb dL_law_425 rfl (lv_at hl 4 rfl) ?_
  refine ka_vi (pre := (ao, aj k 1 ro1) :: wx1) (wc := wm1) (post := []) (rest := []) (As := []) F hA hB hN2.1 ml_RL_64 mv_yX12_thrown hN2.2.choose_spec rfl rfl hl.1 rfl (Nat.le_of_ble_eq_true rfl) ⟨Nat.le_of_ble_eq_true rfl, Nat.le_of_ble_eq_true rfl⟩ ⟨by show cells + 1 + 0 ≤ 601024; omega, by show slots + 6 + 0 ≤ 7293034; omega⟩ dL_law_426 (fun r2 wm2 H3 locs3 hq hB => ?_)
  rw [List.append_nil] at hB
  obtain ⟨hq1, hq2, hq3, hI2⟩ := hq
  refine lv_iload hx hb dL_law_429 (lv_at hl 1 rfl) ?_
  refine lv_icmp_eq (tgt := 436) hx hb dL_law_431 (by decide) (fun _ => ?_) (fun h => absurd hq1 h)
  have hend : W p l e room_1 s m #[Value.ref b] below meth c H3 locs3 (cells + 1 + 0 + 0) (slots + 6 + 0 + 0) Q (F0 m 453 ls []) := by
    refine lv_goto (tgt := 1759) hx hb dL_law_453 (by decide) ?_
    exact W.widen (by omega) (by omega) (kk ro1 wx1 wm2 H3 locs3 ls hI2 hB (lv_sub hl [2, 3, 4, 5, 6] rfl))
  refine lv_iload hx hb dL_law_436 (lv_at hl 1 rfl) ?_
  refine lv_if_ne (tgt := 453) hx hb dL_law_438 (by decide) (fun _ => hend) (fun h0 => ?_)
  refine lv_aload_n hx hb dL_law_441 rfl (lv_at hl 5 rfl) ?_
  refine lv_iconst (v := 0) hx hb dL_law_442 (by decide) ?_
  refine g_jald F hB 0 rfl (vp_in_iff.mpr (by decide +kernel)) dL_law_443 ?_
  refine lv_iload hx hb dL_law_444 (lv_at hl 0 rfl) ?_
  refine lv_i2l hx hb dL_law_446 rfl ?_
  refine W.lcmp hx hb dL_law_447 ?_
  refine lv_if_eq (tgt := 453) hx hb dL_law_448 (by decide) (fun _ => hend) (fun h => absurd (lcmp_0 (hq2 h0)) h)

set_option maxRecDepth 100000 in
set_option maxHeartbeats 4000000 in
theorem lc_6 {p : Program} {l : Launch} {e : Env} {s : State} {m : MethodId} {below : List Frame} {meth : Method} {c : Code} {D : va_G} {k : Nat → ClassId} {K : Nat → Nat} {b L : Nat} {xs : Nat → Int32} {ax am ao : Nat} {cells slots : Nat} {Q : State → Prop} {i : Nat} (C : Cx p l s m meth c D k K b L xs) (hi : i + 6 ≤ L) (hc : cells + 32 ≤ 601024 ∧ slots + 900 ≤ 7293034) (kk : Lk p l e s m below meth c D k b ax am ao (cells + 32) (slots + 900) Q i 1759) : Lk p l e s m below meth c D k b ax am ao cells slots Q i 456 := by
  intro ro wx wm H locs ls hI hB hl
  have F := C.F
  have hx := F.x
  have hb := F.b
  have hc1 := hc.1
  have hc2 := hc.2
  have hA : ∀ q : Nat, s.heap.size ≤ q → (fun q : Nat => s.heap.size ≤ q) q := fun _ h => h
  obtain ⟨fx, hx0⟩ := hI.x0
  obtain ⟨fm, hm0⟩ := hI.m0
  refine lv_aload_n hx hb dL_law_456 rfl (lv_at hl 1 rfl) ?_
  refine l_arg C hi hB (lv_at hl 0 rfl) (lv_at hl 4 rfl) 1 (by decide) (x := 1) (by decide) (by decide) dL_law_457 dL_law_458 dL_law_460 dL_law_461 dL_law_462 ?_
  refine l_arg C hi hB (lv_at hl 0 rfl) (lv_at hl 4 rfl) 2 (by decide) (x := 2) (by decide) (by decide) dL_law_463 dL_law_464 dL_law_466 dL_law_467 dL_law_468 ?_
  refine lv_aload_n hx hb dL_law_469 rfl (lv_at hl 3 rfl) ?_
  refine kw_si (pre := []) (wc := (ao, aj k 1 ro) :: wx) (post := wm) (rest := []) (As := [.ref ax, .int (xs (i + 1)), .int (xs (i + 2)), .ref ao]) F C.E hA hB (P_kind l C.st D k K hI (xs (i + 1)) (xs (i + 2))) mw_RL_71 rfl hl.1 rfl (by decide) ⟨Nat.le_of_ble_eq_true rfl, Nat.le_of_ble_eq_true rfl⟩ ⟨by show cells + 1 ≤ 601024; omega, by show slots + 6 ≤ 7293034; omega⟩ dL_law_470 (fun r w1 H1 locs1 hq hB => ?_)
  obtain ⟨ro1, wx1, rfl, hN⟩ := hq
  replace hB : Bd D (fun q : Nat => s.heap.size ≤ q) s.heap (((ao, aj k 1 ro1) :: wx1) ++ (wm ++ [])) H1 locs1 := by rw [List.append_nil]; exact hB
  refine lv_istore (lv' := [(5, .int r), (0, .ref b), (1, .ref ax), (2, .ref am), (3, .ref ao), (4, .int (eI (i : Int)))]) hx hb dL_law_473 hl (by decide) rfl (fun ls hl => ?_)
  refine lv_aload_n hx hb dL_law_475 rfl (lv_at hl 3 rfl) ?_
  refine l_arg C hi hB (lv_at hl 1 rfl) (lv_at hl 5 rfl) 1 (by decide) (x := 1) (by decide) (by decide) dL_law_476 dL_law_477 dL_law_479 dL_law_480 dL_law_481 ?_
  refine l_arg C hi hB (lv_at hl 1 rfl) (lv_at hl 5 rfl) 2 (by decide) (x := 2) (by decide) (by decide) dL_law_482 dL_law_483 dL_law_485 dL_law_486 dL_law_487 ?_
  refine ka_vi (pre := (ao, aj k 1 ro1) :: wx1) (wc := wm) (post := []) (rest := []) (As := [.int (xs (i + 1)), .int (xs (i + 2))]) F hA hB hN ml_RL_73 mv_yX12_kind hm0 rfl rfl hl.1 rfl (Nat.le_of_ble_eq_true rfl) ⟨Nat.le_of_ble_eq_true rfl, Nat.le_of_ble_eq_true rfl⟩ ⟨by show cells + 1 + 0 ≤ 601024; omega, by show slots + 6 + 0 ≤ 7293034; omega⟩ dL_law_488 (fun r1 wm1 H2 locs2 hN2 hB => ?_)
  refine lv_istore (lv' := [(6, .int r1), (5, .int r), (0, .ref b), (1, .ref ax), (2, .ref am), (3, .ref ao), (4, .int (eI (i : Int)))]) hx hb dL_law_491 hl (by decide) rfl (fun ls hl => ?_)
  refine lv_aload_n hx hb dL_law_493 rfl (lv_at hl 4 rfl) ?_
  refine ka_vi (pre := (ao, aj k 1 ro1) :: wx1) (wc := wm1) (post := []) (rest := []) (As := []) F hA hB hN2.1 ml_RL_64 mv_yX12_thrown hN2.2.choose_spec rfl rfl hl.1 rfl (Nat.le_of_ble_eq_true rfl) ⟨Nat.le_of_ble_eq_true rfl, Nat.le_of_ble_eq_true rfl⟩ ⟨by show cells + 1 + 0 ≤ 601024; omega, by show slots + 6 + 0 ≤ 7293034; omega⟩ dL_law_494 (fun r2 wm2 H3 locs3 hq hB => ?_)
  rw [List.append_nil] at hB
  obtain ⟨hq1, hq2, hq3, hI2⟩ := hq
  refine lv_iload hx hb dL_law_497 (lv_at hl 1 rfl) ?_
  refine lv_icmp_eq (tgt := 504) hx hb dL_law_499 (by decide) (fun _ => ?_) (fun h => absurd hq1 h)
  have hend : W p l e room_1 s m #[Value.ref b] below meth c H3 locs3 (cells + 1 + 0 + 0) (slots + 6 + 0 + 0) Q (F0 m 521 ls []) := by
    refine lv_goto (tgt := 1759) hx hb dL_law_521 (by decide) ?_
    exact W.widen (by omega) (by omega) (kk ro1 wx1 wm2 H3 locs3 ls hI2 hB (lv_sub hl [2, 3, 4, 5, 6] rfl))
  refine lv_iload hx hb dL_law_504 (lv_at hl 1 rfl) ?_
  refine lv_if_ne (tgt := 521) hx hb dL_law_506 (by decide) (fun _ => hend) (fun h0 => ?_)
  refine lv_aload_n hx hb dL_law_509 rfl (lv_at hl 5 rfl) ?_
  refine lv_iconst (v := 0) hx hb dL_law_510 (by decide) ?_
  refine g_jald F hB 0 rfl (vp_in_iff.mpr (by decide +kernel)) dL_law_511 ?_
  refine lv_iload hx hb dL_law_512 (lv_at hl 0 rfl) ?_
  refine lv_i2l hx hb dL_law_514 rfl ?_
  refine W.lcmp hx hb dL_law_515 ?_
  refine lv_if_eq (tgt := 521) hx hb dL_law_516 (by decide) (fun _ => hend) (fun h => absurd (lcmp_0 (hq2 h0)) h)

set_option maxRecDepth 100000 in
set_option maxHeartbeats 4000000 in
theorem lc_7 {p : Program} {l : Launch} {e : Env} {s : State} {m : MethodId} {below : List Frame} {meth : Method} {c : Code} {D : va_G} {k : Nat → ClassId} {K : Nat → Nat} {b L : Nat} {xs : Nat → Int32} {ax am ao : Nat} {cells slots : Nat} {Q : State → Prop} {i : Nat} (C : Cx p l s m meth c D k K b L xs) (hi : i + 6 ≤ L) (hc : cells + 32 ≤ 601024 ∧ slots + 900 ≤ 7293034) (kk : Lk p l e s m below meth c D k b ax am ao (cells + 32) (slots + 900) Q i 1759) : Lk p l e s m below meth c D k b ax am ao cells slots Q i 524 := by
  intro ro wx wm H locs ls hI hB hl
  have F := C.F
  have hx := F.x
  have hb := F.b
  have hc1 := hc.1
  have hc2 := hc.2
  have hA : ∀ q : Nat, s.heap.size ≤ q → (fun q : Nat => s.heap.size ≤ q) q := fun _ h => h
  obtain ⟨fx, hx0⟩ := hI.x0
  obtain ⟨fm, hm0⟩ := hI.m0
  refine lv_aload_n hx hb dL_law_524 rfl (lv_at hl 1 rfl) ?_
  refine l_arg C hi hB (lv_at hl 0 rfl) (lv_at hl 4 rfl) 1 (by decide) (x := 1) (by decide) (by decide) dL_law_525 dL_law_526 dL_law_528 dL_law_529 dL_law_530 ?_
  refine kb_vi (pre := [(ao, aj k 1 ro)]) (wc := wx) (post := wm) (rest := []) (As := [.int (xs (i + 1))]) F C.E hA hB (P_train l D k K hI (xs (i + 1))) ml_RL_74 mv_yX11_train hx0 rfl rfl hl.1 rfl (by decide) ⟨Nat.le_of_ble_eq_true rfl, Nat.le_of_ble_eq_true rfl⟩ ⟨by show cells + 0 ≤ 601024; omega, by show slots + 0 ≤ 7293034; omega⟩ dL_law_531 (fun r wx1 H1 locs1 hN hB => ?_)
  replace hB : Bd D (fun q : Nat => s.heap.size ≤ q) s.heap (((ao, aj k 1 ro) :: wx1) ++ (wm ++ [])) H1 locs1 := by rw [List.append_nil]; exact hB
  refine lv_aload_n hx hb dL_law_534 rfl (lv_at hl 2 rfl) ?_
  refine l_arg C hi hB (lv_at hl 0 rfl) (lv_at hl 4 rfl) 1 (by decide) (x := 1) (by decide) (by decide) dL_law_535 dL_law_536 dL_law_538 dL_law_539 dL_law_540 ?_
  refine ka_vi (pre := (ao, aj k 1 ro) :: wx1) (wc := wm) (post := []) (rest := [.int r]) (As := [.int (xs (i + 1))]) F hA hB hN ml_RL_77 mv_yX12_train hm0 rfl rfl hl.1 rfl (Nat.le_of_ble_eq_true rfl) ⟨Nat.le_of_ble_eq_true rfl, Nat.le_of_ble_eq_true rfl⟩ ⟨by show cells + 0 + 0 ≤ 601024; omega, by show slots + 0 + 0 ≤ 7293034; omega⟩ dL_law_541 (fun r2 wm1 H2 locs2 hq hB => ?_)
  rw [List.append_nil] at hB
  refine lv_icmp_eq (tgt := 1759) hx hb dL_law_544 (by decide) (fun _ => ?_) (fun h => absurd hq.1.symm h)
  exact W.widen (by omega) (by omega) (kk ro wx1 wm1 H2 locs2 ls hq.2 hB hl)

set_option maxRecDepth 100000 in
set_option maxHeartbeats 4000000 in
theorem lc_8 {p : Program} {l : Launch} {e : Env} {s : State} {m : MethodId} {below : List Frame} {meth : Method} {c : Code} {D : va_G} {k : Nat → ClassId} {K : Nat → Nat} {b L : Nat} {xs : Nat → Int32} {ax am ao : Nat} {cells slots : Nat} {Q : State → Prop} {i : Nat} (C : Cx p l s m meth c D k K b L xs) (hi : i + 6 ≤ L) (hc : cells + 32 ≤ 601024 ∧ slots + 900 ≤ 7293034) (kk : Lk p l e s m below meth c D k b ax am ao (cells + 32) (slots + 900) Q i 1759) : Lk p l e s m below meth c D k b ax am ao cells slots Q i 549 := by
  intro ro wx wm H locs ls hI hB hl
  have F := C.F
  have hx := F.x
  have hb := F.b
  have hc1 := hc.1
  have hc2 := hc.2
  have hA : ∀ q : Nat, s.heap.size ≤ q → (fun q : Nat => s.heap.size ≤ q) q := fun _ h => h
  obtain ⟨fx, hx0⟩ := hI.x0
  obtain ⟨fm, hm0⟩ := hI.m0
  refine lv_aload_n hx hb dL_law_549 rfl (lv_at hl 1 rfl) ?_
  refine l_arg C hi hB (lv_at hl 0 rfl) (lv_at hl 4 rfl) 1 (by decide) (x := 1) (by decide) (by decide) dL_law_550 dL_law_551 dL_law_553 dL_law_554 dL_law_555 ?_
  refine l_arg C hi hB (lv_at hl 0 rfl) (lv_at hl 4 rfl) 2 (by decide) (x := 2) (by decide) (by decide) dL_law_556 dL_law_557 dL_law_559 dL_law_560 dL_law_561 ?_
  refine lv_aload_n hx hb dL_law_562 rfl (lv_at hl 3 rfl) ?_
  refine kw_si (pre := []) (wc := (ao, aj k 1 ro) :: wx) (post := wm) (rest := []) (As := [.ref ax, .int (xs (i + 1)), .int (xs (i + 2)), .ref ao]) F C.E hA hB (P_wagon l C.st D k K hI (xs (i + 1)) (xs (i + 2))) mw_RL_78 rfl hl.1 rfl (by decide) ⟨Nat.le_of_ble_eq_true rfl, Nat.le_of_ble_eq_true rfl⟩ ⟨by show cells + 1 ≤ 601024; omega, by show slots + 6 ≤ 7293034; omega⟩ dL_law_563 (fun r w1 H1 locs1 hq hB => ?_)
  obtain ⟨ro1, wx1, rfl, hN⟩ := hq
  replace hB : Bd D (fun q : Nat => s.heap.size ≤ q) s.heap (((ao, aj k 1 ro1) :: wx1) ++ (wm ++ [])) H1 locs1 := by rw [List.append_nil]; exact hB
  refine lv_istore (lv' := [(5, .int r), (0, .ref b), (1, .ref ax), (2, .ref am), (3, .ref ao), (4, .int (eI (i : Int)))]) hx hb dL_law_566 hl (by decide) rfl (fun ls hl => ?_)
  refine lv_aload_n hx hb dL_law_568 rfl (lv_at hl 3 rfl) ?_
  refine l_arg C hi hB (lv_at hl 1 rfl) (lv_at hl 5 rfl) 1 (by decide) (x := 1) (by decide) (by decide) dL_law_569 dL_law_570 dL_law_572 dL_law_573 dL_law_574 ?_
  refine l_arg C hi hB (lv_at hl 1 rfl) (lv_at hl 5 rfl) 2 (by decide) (x := 2) (by decide) (by decide) dL_law_575 dL_law_576 dL_law_578 dL_law_579 dL_law_580 ?_
  refine ka_vi (pre := (ao, aj k 1 ro1) :: wx1) (wc := wm) (post := []) (rest := []) (As := [.int (xs (i + 1)), .int (xs (i + 2))]) F hA hB hN ml_RL_80 mv_yX12_wagon hm0 rfl rfl hl.1 rfl (Nat.le_of_ble_eq_true rfl) ⟨Nat.le_of_ble_eq_true rfl, Nat.le_of_ble_eq_true rfl⟩ ⟨by show cells + 1 + 0 ≤ 601024; omega, by show slots + 6 + 0 ≤ 7293034; omega⟩ dL_law_581 (fun r1 wm1 H2 locs2 hN2 hB => ?_)
  refine lv_istore (lv' := [(6, .int r1), (5, .int r), (0, .ref b), (1, .ref ax), (2, .ref am), (3, .ref ao), (4, .int (eI (i : Int)))]) hx hb dL_law_584 hl (by decide) rfl (fun ls hl => ?_)
  refine lv_aload_n hx hb dL_law_586 rfl (lv_at hl 4 rfl) ?_
  refine ka_vi (pre := (ao, aj k 1 ro1) :: wx1) (wc := wm1) (post := []) (rest := []) (As := []) F hA hB hN2.1 ml_RL_64 mv_yX12_thrown hN2.2.choose_spec rfl rfl hl.1 rfl (Nat.le_of_ble_eq_true rfl) ⟨Nat.le_of_ble_eq_true rfl, Nat.le_of_ble_eq_true rfl⟩ ⟨by show cells + 1 + 0 ≤ 601024; omega, by show slots + 6 + 0 ≤ 7293034; omega⟩ dL_law_587 (fun r2 wm2 H3 locs3 hq hB => ?_)
  rw [List.append_nil] at hB
  obtain ⟨hq1, hq2, hq3, hI2⟩ := hq
  refine lv_iload hx hb dL_law_590 (lv_at hl 1 rfl) ?_
  refine lv_icmp_eq (tgt := 597) hx hb dL_law_592 (by decide) (fun _ => ?_) (fun h => absurd hq1 h)
  have hend : W p l e room_1 s m #[Value.ref b] below meth c H3 locs3 (cells + 1 + 0 + 0) (slots + 6 + 0 + 0) Q (F0 m 614 ls []) := by
    refine lv_goto (tgt := 1759) hx hb dL_law_614 (by decide) ?_
    exact W.widen (by omega) (by omega) (kk ro1 wx1 wm2 H3 locs3 ls hI2 hB (lv_sub hl [2, 3, 4, 5, 6] rfl))
  refine lv_iload hx hb dL_law_597 (lv_at hl 1 rfl) ?_
  refine lv_if_ne (tgt := 614) hx hb dL_law_599 (by decide) (fun _ => hend) (fun h0 => ?_)
  refine lv_aload_n hx hb dL_law_602 rfl (lv_at hl 5 rfl) ?_
  refine lv_iconst (v := 0) hx hb dL_law_603 (by decide) ?_
  refine g_jald F hB 0 rfl (vp_in_iff.mpr (by decide +kernel)) dL_law_604 ?_
  refine lv_iload hx hb dL_law_605 (lv_at hl 0 rfl) ?_
  refine lv_i2l hx hb dL_law_607 rfl ?_
  refine W.lcmp hx hb dL_law_608 ?_
  refine lv_if_eq (tgt := 614) hx hb dL_law_609 (by decide) (fun _ => hend) (fun h => absurd (lcmp_0 (hq2 h0)) h)

set_option maxRecDepth 100000 in
set_option maxHeartbeats 4000000 in
theorem lc_9 {p : Program} {l : Launch} {e : Env} {s : State} {m : MethodId} {below : List Frame} {meth : Method} {c : Code} {D : va_G} {k : Nat → ClassId} {K : Nat → Nat} {b L : Nat} {xs : Nat → Int32} {ax am ao : Nat} {cells slots : Nat} {Q : State → Prop} {i : Nat} (C : Cx p l s m meth c D k K b L xs) (hi : i + 6 ≤ L) (hc : cells + 32 ≤ 601024 ∧ slots + 900 ≤ 7293034) (kk : Lk p l e s m below meth c D k b ax am ao (cells + 32) (slots + 900) Q i 1759) : Lk p l e s m below meth c D k b ax am ao cells slots Q i 617 := by
  intro ro wx wm H locs ls hI hB hl
  have F := C.F
  have hx := F.x
  have hb := F.b
  have hc1 := hc.1
  have hc2 := hc.2
  have hA : ∀ q : Nat, s.heap.size ≤ q → (fun q : Nat => s.heap.size ≤ q) q := fun _ h => h
  obtain ⟨fx, hx0⟩ := hI.x0
  obtain ⟨fm, hm0⟩ := hI.m0
  refine lv_aload_n hx hb dL_law_617 rfl (lv_at hl 1 rfl) ?_
  refine l_arg C hi hB (lv_at hl 0 rfl) (lv_at hl 4 rfl) 1 (by decide) (x := 1) (by decide) (by decide) dL_law_618 dL_law_619 dL_law_621 dL_law_622 dL_law_623 ?_
  refine l_arg C hi hB (lv_at hl 0 rfl) (lv_at hl 4 rfl) 2 (by decide) (x := 2) (by decide) (by decide) dL_law_624 dL_law_625 dL_law_627 dL_law_628 dL_law_629 ?_
  refine lv_aload_n hx hb dL_law_630 rfl (lv_at hl 3 rfl) ?_
  refine kw_si (pre := []) (wc := (ao, aj k 1 ro) :: wx) (post := wm) (rest := []) (As := [.ref ax, .int (xs (i + 1)), .int (xs (i + 2)), .ref ao]) F C.E hA hB (P_half l C.st D k K hI (xs (i + 1)) (xs (i + 2))) mw_RL_81 rfl hl.1 rfl (by decide) ⟨Nat.le_of_ble_eq_true rfl, Nat.le_of_ble_eq_true rfl⟩ ⟨by show cells + 1 ≤ 601024; omega, by show slots + 6 ≤ 7293034; omega⟩ dL_law_631 (fun r w1 H1 locs1 hq hB => ?_)
  obtain ⟨ro1, wx1, rfl, hN⟩ := hq
  replace hB : Bd D (fun q : Nat => s.heap.size ≤ q) s.heap (((ao, aj k 1 ro1) :: wx1) ++ (wm ++ [])) H1 locs1 := by rw [List.append_nil]; exact hB
  refine lv_istore (lv' := [(5, .int r), (0, .ref b), (1, .ref ax), (2, .ref am), (3, .ref ao), (4, .int (eI (i : Int)))]) hx hb dL_law_634 hl (by decide) rfl (fun ls hl => ?_)
  refine lv_aload_n hx hb dL_law_636 rfl (lv_at hl 3 rfl) ?_
  refine l_arg C hi hB (lv_at hl 1 rfl) (lv_at hl 5 rfl) 1 (by decide) (x := 1) (by decide) (by decide) dL_law_637 dL_law_638 dL_law_640 dL_law_641 dL_law_642 ?_
  refine l_arg C hi hB (lv_at hl 1 rfl) (lv_at hl 5 rfl) 2 (by decide) (x := 2) (by decide) (by decide) dL_law_643 dL_law_644 dL_law_646 dL_law_647 dL_law_648 ?_
  refine ka_vi (pre := (ao, aj k 1 ro1) :: wx1) (wc := wm) (post := []) (rest := []) (As := [.int (xs (i + 1)), .int (xs (i + 2))]) F hA hB hN ml_RL_83 mv_yX12_half hm0 rfl rfl hl.1 rfl (Nat.le_of_ble_eq_true rfl) ⟨Nat.le_of_ble_eq_true rfl, Nat.le_of_ble_eq_true rfl⟩ ⟨by show cells + 1 + 0 ≤ 601024; omega, by show slots + 6 + 0 ≤ 7293034; omega⟩ dL_law_649 (fun r1 wm1 H2 locs2 hN2 hB => ?_)
  refine lv_istore (lv' := [(6, .int r1), (5, .int r), (0, .ref b), (1, .ref ax), (2, .ref am), (3, .ref ao), (4, .int (eI (i : Int)))]) hx hb dL_law_652 hl (by decide) rfl (fun ls hl => ?_)
  refine lv_aload_n hx hb dL_law_654 rfl (lv_at hl 4 rfl) ?_
  refine ka_vi (pre := (ao, aj k 1 ro1) :: wx1) (wc := wm1) (post := []) (rest := []) (As := []) F hA hB hN2.1 ml_RL_64 mv_yX12_thrown hN2.2.choose_spec rfl rfl hl.1 rfl (Nat.le_of_ble_eq_true rfl) ⟨Nat.le_of_ble_eq_true rfl, Nat.le_of_ble_eq_true rfl⟩ ⟨by show cells + 1 + 0 ≤ 601024; omega, by show slots + 6 + 0 ≤ 7293034; omega⟩ dL_law_655 (fun r2 wm2 H3 locs3 hq hB => ?_)
  rw [List.append_nil] at hB
  obtain ⟨hq1, hq2, hq3, hI2⟩ := hq
  refine lv_iload hx hb dL_law_658 (lv_at hl 1 rfl) ?_
  refine lv_icmp_eq (tgt := 665) hx hb dL_law_660 (by decide) (fun _ => ?_) (fun h => absurd hq1 h)
  have hend : W p l e room_1 s m #[Value.ref b] below meth c H3 locs3 (cells + 1 + 0 + 0) (slots + 6 + 0 + 0) Q (F0 m 682 ls []) := by
    refine lv_goto (tgt := 1759) hx hb dL_law_682 (by decide) ?_
    exact W.widen (by omega) (by omega) (kk ro1 wx1 wm2 H3 locs3 ls hI2 hB (lv_sub hl [2, 3, 4, 5, 6] rfl))
  refine lv_iload hx hb dL_law_665 (lv_at hl 1 rfl) ?_
  refine lv_if_ne (tgt := 682) hx hb dL_law_667 (by decide) (fun _ => hend) (fun h0 => ?_)
  refine lv_aload_n hx hb dL_law_670 rfl (lv_at hl 5 rfl) ?_
  refine lv_iconst (v := 0) hx hb dL_law_671 (by decide) ?_
  refine g_jald F hB 0 rfl (vp_in_iff.mpr (by decide +kernel)) dL_law_672 ?_
  refine lv_iload hx hb dL_law_673 (lv_at hl 0 rfl) ?_
  refine lv_i2l hx hb dL_law_675 rfl ?_
  refine W.lcmp hx hb dL_law_676 ?_
  refine lv_if_eq (tgt := 682) hx hb dL_law_677 (by decide) (fun _ => hend) (fun h => absurd (lcmp_0 (hq2 h0)) h)
