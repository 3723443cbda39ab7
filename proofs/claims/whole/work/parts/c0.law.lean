/-! the law's cases (mklaw.py) -/
def Cx (p : Program) (l : Launch) (s : State) (m : MethodId) (meth : Method) (c : Code) (D : va_G) (k : Nat → ClassId) (K : Nat → Nat) (b L : Nat) (xs : Nat → Int32) : Prop :=
  (l.stackTraces = false) ∧
  (Fx p m c cL_law 7 s #[Value.ref b] RL D k) ∧
  (meth.locks = false) ∧
  (Am K (fun q : Nat => s.heap.size ≤ q) s s.heap) ∧
  (va_X b L xs s s.heap) ∧
  (b < s.heap.size) ∧
  (L ≤ 3072)
theorem Cx.st {p : Program} {l : Launch} {s : State} {m : MethodId} {meth : Method} {c : Code} {D : va_G} {k : Nat → ClassId} {K : Nat → Nat} {b L : Nat} {xs : Nat → Int32} (h : Cx p l s m meth c D k K b L xs) : l.stackTraces = false := h.1
theorem Cx.F {p : Program} {l : Launch} {s : State} {m : MethodId} {meth : Method} {c : Code} {D : va_G} {k : Nat → ClassId} {K : Nat → Nat} {b L : Nat} {xs : Nat → Int32} (h : Cx p l s m meth c D k K b L xs) : Fx p m c cL_law 7 s #[Value.ref b] RL D k := h.2.1
theorem Cx.lk {p : Program} {l : Launch} {s : State} {m : MethodId} {meth : Method} {c : Code} {D : va_G} {k : Nat → ClassId} {K : Nat → Nat} {b L : Nat} {xs : Nat → Int32} (h : Cx p l s m meth c D k K b L xs) : meth.locks = false := h.2.2.1
theorem Cx.E {p : Program} {l : Launch} {s : State} {m : MethodId} {meth : Method} {c : Code} {D : va_G} {k : Nat → ClassId} {K : Nat → Nat} {b L : Nat} {xs : Nat → Int32} (h : Cx p l s m meth c D k K b L xs) : Am K (fun q : Nat => s.heap.size ≤ q) s s.heap := h.2.2.2.1
theorem Cx.X {p : Program} {l : Launch} {s : State} {m : MethodId} {meth : Method} {c : Code} {D : va_G} {k : Nat → ClassId} {K : Nat → Nat} {b L : Nat} {xs : Nat → Int32} (h : Cx p l s m meth c D k K b L xs) : va_X b L xs s s.heap := h.2.2.2.2.1
theorem Cx.bl {p : Program} {l : Launch} {s : State} {m : MethodId} {meth : Method} {c : Code} {D : va_G} {k : Nat → ClassId} {K : Nat → Nat} {b L : Nat} {xs : Nat → Int32} (h : Cx p l s m meth c D k K b L xs) : b < s.heap.size := h.2.2.2.2.2.1
theorem Cx.L {p : Program} {l : Launch} {s : State} {m : MethodId} {meth : Method} {c : Code} {D : va_G} {k : Nat → ClassId} {K : Nat → Nat} {b L : Nat} {xs : Nat → Int32} (h : Cx p l s m meth c D k K b L xs) : L ≤ 3072 := h.2.2.2.2.2.2
/-- at pc, for all that may stand -/
def Lk (p : Program) (l : Launch) (e : Env) (s : State) (m : MethodId) (below : List Frame) (meth : Method) (c : Code) (D : va_G) (k : Nat → ClassId) (b ax am ao cells slots : Nat) (Q : State → Prop) (i pc : Nat) : Prop := ∀ (ro : Nat → Int64) (wx wm : va_W) (H : Heap) (locs : List Loc) (ls : Array Slot), Inv k ax am wx wm → Bd D (fun q : Nat => s.heap.size ≤ q) s.heap ((ao, aj k 1 ro) :: (wx ++ wm)) H locs → lv_has ls 7 [(0, .ref b), (1, .ref ax), (2, .ref am), (3, .ref ao), (4, .int (eI (i : Int)))] → W p l e room_1 s m #[Value.ref b] below meth c H locs cells slots Q (F0 m pc ls [])
set_option maxRecDepth 100000 in
set_option maxHeartbeats 4000000 in
theorem XS.x0 {k : Nat → ClassId} {ax : Nat} {σ : Nat → Int} {T : TS} {P : PS} {Z : ZT} {im : Nat → Option VT} {w : va_W} (h : XS k ax σ T P Z im w) : ∃ fs, w[0]? = some (ax, .inr (11, fs)) := by
  refine XS.el h (fun d_t w_t i_t r_t_tape d_t_lineReader w_t_lineReader i_t_lineReader w_t_lineReader_reader i_t_lineReader_reader j_t_lineReader_reader r_t_lineReader_haltNames r_t_lineReader_kindNames w_t_planReader i_t_planReader j_t_planReader d_t_now w_t_now a_t_now_line d_t_now_line i_t_now_line r_t_now_line_grades r_t_now_line_halts r_t_now_line_loops r_t_now_line_kinds r_t_now_line_first a_t_now_plan d_t_now_plan i_t_now_plan r_t_now_plan_words r_t_now_plan_firsts r_t_now_plan_seconds d_t_now_train i_t_now_train d_t_now_train_row i_t_now_train_row r_t_now_train_row_kinds r_t_now_train_row_longs r_t_now_train_row_weights r_t_now_train_row_strengths r_t_now_train_row_wears r_t_now_train_row_pushes r_t_now_train_row_helpers r_t_now_train_row_bears d_t_now_train_halves i_t_now_train_halves r_t_now_train_halves_kinds r_t_now_train_halves_starts r_t_now_train_halves_sizes r_t_now_train_halves_units o_t_images a_t_spareLine d_t_spareLine i_t_spareLine r_t_spareLine_grades r_t_spareLine_halts r_t_spareLine_loops r_t_spareLine_kinds r_t_spareLine_first a_t_sparePlan d_t_sparePlan i_t_sparePlan r_t_sparePlan_words r_t_sparePlan_firsts r_t_sparePlan_seconds d_t_free i_t_free d_t_free_row i_t_free_row r_t_free_row_kinds r_t_free_row_longs r_t_free_row_weights r_t_free_row_strengths r_t_free_row_wears r_t_free_row_pushes r_t_free_row_helpers r_t_free_row_bears r_t_free_reached r_t_free_carriers d_t_life i_t_life o_t_life_rows a_t_life_rows_0 d_t_life_rows_0 i_t_life_rows_0 r_t_life_rows_0_kinds r_t_life_rows_0_longs r_t_life_rows_0_weights r_t_life_rows_0_strengths r_t_life_rows_0_wears r_t_life_rows_0_pushes r_t_life_rows_0_helpers r_t_life_rows_0_bears a_t_life_rows_1 d_t_life_rows_1 i_t_life_rows_1 r_t_life_rows_1_kinds r_t_life_rows_1_longs r_t_life_rows_1_weights r_t_life_rows_1_strengths r_t_life_rows_1_wears r_t_life_rows_1_pushes r_t_life_rows_1_helpers r_t_life_rows_1_bears a_t_life_rows_2 d_t_life_rows_2 i_t_life_rows_2 r_t_life_rows_2_kinds r_t_life_rows_2_longs r_t_life_rows_2_weights r_t_life_rows_2_strengths r_t_life_rows_2_wears r_t_life_rows_2_pushes r_t_life_rows_2_helpers r_t_life_rows_2_bears a_t_life_rows_3 d_t_life_rows_3 i_t_life_rows_3 r_t_life_rows_3_kinds r_t_life_rows_3_longs r_t_life_rows_3_weights r_t_life_rows_3_strengths r_t_life_rows_3_wears r_t_life_rows_3_pushes r_t_life_rows_3_helpers r_t_life_rows_3_bears a_t_life_rows_4 d_t_life_rows_4 i_t_life_rows_4 r_t_life_rows_4_kinds r_t_life_rows_4_longs r_t_life_rows_4_weights r_t_life_rows_4_strengths r_t_life_rows_4_wears r_t_life_rows_4_pushes r_t_life_rows_4_helpers r_t_life_rows_4_bears r_t_life_places r_t_life_bestPlaces d_t_life_ahead i_t_life_ahead r_t_life_ahead_kinds r_t_life_ahead_longs r_t_life_ahead_weights r_t_life_ahead_strengths r_t_life_ahead_wears r_t_life_ahead_pushes r_t_life_ahead_helpers r_t_life_ahead_bears r_t_life_since r_t_life_gradeSums r_t_life_leasts d_t_court i_t_court r_t_court_told d_t_trialTrain i_t_trialTrain d_t_trialTrain_row i_t_trialTrain_row r_t_trialTrain_row_kinds r_t_trialTrain_row_longs r_t_trialTrain_row_weights r_t_trialTrain_row_strengths r_t_trialTrain_row_wears r_t_trialTrain_row_pushes r_t_trialTrain_row_helpers r_t_trialTrain_row_bears d_t_trialTrain_halves i_t_trialTrain_halves r_t_trialTrain_halves_kinds r_t_trialTrain_halves_starts r_t_trialTrain_halves_sizes r_t_trialTrain_halves_units w0 w1 hw hh X IM0 IM1 => ?_)
  subst hw
  exact ⟨_, rfl⟩
theorem Inv.x0 {k : Nat → ClassId} {ax am : Nat} {wx wm : va_W} (h : Inv k ax am wx wm) : ∃ fs, wx[0]? = some (ax, .inr (11, fs)) := by
  obtain ⟨σ, T, P, Z, im, V, hx, hm⟩ := h
  exact hx.x0
theorem Inv.m0 {k : Nat → ClassId} {ax am : Nat} {wx wm : va_W} (h : Inv k ax am wx wm) : ∃ fs, wm[0]? = some (am, .inr (12, fs)) := by
  obtain ⟨σ, T, P, Z, im, V, hx, hm⟩ := h
  obtain ⟨d_t, i_t, j_t, r_t_tape, r_t_s, r_t_h, r_t_read, r_t_names, r_t_reserved, r_t_wagons, r_t_foremost, r_t_bears, r_t_strengths, r_t_worn, r_t_worst, r_t_places, r_t_bestPlaces, r_t_loadMay, r_t_loadAt, r_t_told, r_t_mostLoads, r_t_judgedAt, r_t_before, r_t_kept, r_t_namesKept, r_t_isKept, rfl, M⟩ := hm
  exact ⟨_, rfl⟩
theorem eI_six {i j : Nat} {x : Int32} (hx : x = eI (j : Int)) (h : i + j ≤ 4000) : eI (i : Int) + x = eI ((i + j : Nat) : Int) := by
  subst hx
  rw [eI_add]
  congr 1
theorem l_arg {p : Program} {l : Launch} {e : Env} {s : State} {m : MethodId} {below : List Frame} {meth : Method} {c : Code} {D : va_G} {k : Nat → ClassId} {K : Nat → Nat} {b L : Nat} {xs : Nat → Int32} {cells slots : Nat} {Q : State → Prop} {i : Nat} (C : Cx p l s m meth c D k K b L xs) (hi : i + 6 ≤ L) {ws : va_W} {H : Heap} {locs : List Loc} {ls : Array Slot} {rest : List Value} {pc : Nat} (hB : Bd D (fun q : Nat => s.heap.size ≤ q) s.heap ws H locs) (h0 : ls[0]? = some (.val (.ref b))) (h4 : ls[4]? = some (.val (.int (eI (i : Int))))) (j : Nat) {v : Int} {x : Int32} (hj : j ≤ 5) (hv : (Int32.ofInt v) = x) (hxj : x = eI (j : Int)) (d0 : decode cL_law pc = .ok (.aload_n 0, 1)) (d1 : decode cL_law (pc + 1) = .ok (.iload 4, 2)) (d2 : decode cL_law (pc + 3) = .ok (.iconst v, 1)) (d3 : decode cL_law (pc + 4) = .ok (.iadd, 1)) (d4 : decode cL_law (pc + 5) = .ok (.iaload, 1))
    (kk : W p l e room_1 s m #[Value.ref b] below meth c H locs cells slots Q (F0 m (pc + 6) ls (.int (xs (i + j)) :: rest))) : W p l e room_1 s m #[Value.ref b] below meth c H locs cells slots Q (F0 m pc ls rest) := by
  have hL := C.L
  have hx := C.F.x
  have hb := C.F.b
  refine lv_aload_n hx hb d0 rfl h0 ?_
  refine lv_iload hx hb d1 h4 ?_
  refine lv_iconst (v := x) hx hb d2 hv ?_
  refine lv_iadd hx hb d3 ?_
  rw [eI_six hxj (by omega)]
  refine va_sld hx hb C.X C.bl (Nat.not_le.mpr C.bl) hB.2.2 (eI_in (by omega) (by omega) (by omega)) d4 ?_
  rw [eI_cl (by omega) (by omega), Int.toNat_natCast]
  exact kk
theorem lcmp_0 {ro : Nat → Int64} {x : Int32} (h : ro 0 = x.toInt64) : lg_cmp (ro (0 : Int32).toNatClampNeg) x.toInt64 = 0 := by
  have e : (0 : Int32).toNatClampNeg = 0 := rfl
  rw [e, h]
  unfold lg_cmp
  rw [if_neg (by simp), if_pos rfl]
theorem mw_RL_58 : MWp RL 58 yL_grade cL_grade 4 (some .int) [(0, 9, 12, 13)] 3 := ⟨inU (by decide +kernel), inU (by decide +kernel), inU (by decide +kernel), inU (by decide +kernel), by decide +kernel⟩
theorem mw_RL_67 : MWp RL 67 yL_halt cL_halt 5 (some .int) [(0, 10, 13, 13)] 4 := ⟨inU (by decide +kernel), inU (by decide +kernel), inU (by decide +kernel), inU (by decide +kernel), by decide +kernel⟩
theorem mw_RL_71 : MWp RL 71 yL_kind cL_kind 5 (some .int) [(0, 10, 13, 13)] 4 := ⟨inU (by decide +kernel), inU (by decide +kernel), inU (by decide +kernel), inU (by decide +kernel), by decide +kernel⟩
theorem mw_RL_78 : MWp RL 78 yL_wagon cL_wagon 5 (some .int) [(0, 10, 13, 13)] 4 := ⟨inU (by decide +kernel), inU (by decide +kernel), inU (by decide +kernel), inU (by decide +kernel), by decide +kernel⟩
theorem mw_RL_81 : MWp RL 81 yL_half cL_half 5 (some .int) [(0, 10, 13, 13)] 4 := ⟨inU (by decide +kernel), inU (by decide +kernel), inU (by decide +kernel), inU (by decide +kernel), by decide +kernel⟩
theorem mw_RL_88 : MWp RL 88 yL_strain cL_strain 6 (some .int) [(0, 12, 15, 13)] 5 := ⟨inU (by decide +kernel), inU (by decide +kernel), inU (by decide +kernel), inU (by decide +kernel), by decide +kernel⟩
theorem mw_RL_92 : MWp RL 92 yL_squeeze cL_squeeze 6 (some .int) [(0, 12, 15, 13)] 5 := ⟨inU (by decide +kernel), inU (by decide +kernel), inU (by decide +kernel), inU (by decide +kernel), by decide +kernel⟩
