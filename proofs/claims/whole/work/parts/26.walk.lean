/-! LongTrain.climb -/
set_option maxRecDepth 100000 in
set_option maxHeartbeats 4000000 in
theorem c_LongTrain_climb (l : Launch) (D : va_G) (k : Nat → ClassId) (a_t : Nat) (d_t : Nat → Nat) (w_t : Nat → Value) (i_t : Nat → Int32) (d_t_now : Nat → Nat) (w_t_now : Nat → Value) (a_t_now_line : Nat) (d_t_now_line : Nat → Nat) (i_t_now_line : Nat → Int32) (d_t_free : Nat → Nat) (i_t_free : Nat → Int32) (d_t_free_row : Nat → Nat) (i_t_free_row : Nat → Int32) (r_t_now_line_halts : Nat → Int32) (r_t_now_line_first : Nat → Int32) (r_t_free_row_kinds : Nat → Int32) (r_t_free_row_longs : Nat → Int32) (r_t_free_row_weights : Nat → Int32) (r_t_free_row_strengths : Nat → Int32) (r_t_free_row_wears : Nat → Int32) (r_t_free_row_pushes : Nat → Int32) (r_t_free_row_helpers : Nat → Int32) (r_t_now_line_kinds : Nat → Int32) (r_t_now_line_grades : Nat → Int32) (r_t_free_row_bears : Nat → Int32) (n1 : Int32) (n2 : Int32) (n3 : Int32) (Q : Int32 → (Nat → Int32) → (Nat → Int32) → (Nat → Int32) → (Nat → Int32) → (Nat → Int32) → (Nat → Int32) → (Nat → Int32) → (Nat → Int32) → (Nat → Int32) → Prop) (hw_t_now_line : w_t_now 0 = .ref a_t_now_line) (hf : w_LongTrain_climb i_t_now_line i_t_free_row r_t_now_line_halts r_t_now_line_first r_t_free_row_kinds r_t_free_row_longs r_t_free_row_weights r_t_free_row_strengths r_t_free_row_wears r_t_free_row_pushes r_t_free_row_helpers r_t_now_line_kinds r_t_now_line_grades r_t_free_row_bears n1 n2 n3 Q) : CtI l yX11_climb cX11_climb 4 (some .int) 6 138 0 0 D k [.ref a_t, .int n1, .int n2, .int n3] (wd_LongTrain_climb k a_t d_t w_t i_t d_t_now w_t_now a_t_now_line d_t_now_line i_t_now_line d_t_free i_t_free d_t_free_row i_t_free_row r_t_now_line_halts r_t_now_line_first r_t_free_row_kinds r_t_free_row_longs r_t_free_row_weights r_t_free_row_strengths r_t_free_row_wears r_t_free_row_pushes r_t_free_row_helpers r_t_now_line_kinds r_t_now_line_grades r_t_free_row_bears) (fun r w => ∃ (i_t_free_row : Nat → Int32), ∃ (r_t_free_row_kinds : Nat → Int32), ∃ (r_t_free_row_longs : Nat → Int32), ∃ (r_t_free_row_weights : Nat → Int32), ∃ (r_t_free_row_strengths : Nat → Int32), ∃ (r_t_free_row_wears : Nat → Int32), ∃ (r_t_free_row_pushes : Nat → Int32), ∃ (r_t_free_row_helpers : Nat → Int32), ∃ (r_t_free_row_bears : Nat → Int32), w = (wd_LongTrain_climb k a_t d_t w_t i_t d_t_now w_t_now a_t_now_line d_t_now_line i_t_now_line d_t_free i_t_free d_t_free_row i_t_free_row r_t_now_line_halts r_t_now_line_first r_t_free_row_kinds r_t_free_row_longs r_t_free_row_weights r_t_free_row_strengths r_t_free_row_wears r_t_free_row_pushes r_t_free_row_helpers r_t_now_line_kinds r_t_now_line_grades r_t_free_row_bears) ∧ Q r i_t_free_row r_t_free_row_kinds r_t_free_row_longs r_t_free_row_weights r_t_free_row_strengths r_t_free_row_wears r_t_free_row_pushes r_t_free_row_helpers r_t_free_row_bears) := by
  refine CtI.of (by decide) (Nat.le_of_ble_eq_true rfl) ?_
  intro p e s m below meth c A F hr hlk hnm hA hB ls hl
  have hx := F.x
  have hb := F.b
  unfold w_LongTrain_climb at hf
  replace hl : lv_has ls 4 [(0, .ref a_t), (1, .int n1), (2, .int n2), (3, .int n3)] := hl
  refine lv_aload_n hx hb dX11_climb_0 rfl (lv_at hl 0 rfl) ?_
  refine lv_iload_n hx hb dX11_climb_1 rfl (lv_at hl 1 rfl) ?_
  refine lv_iload_n hx hb dX11_climb_2 rfl (lv_at hl 2 rfl) ?_
  refine k_vi (wr := [((d_t 9), ob 0 (rfd d_t_free) i_t_free j0), ((d_t_free 0), ob 8 (rfd d_t_free_row) i_t_free_row j0), ((d_t_now_line 2), ai k 30 r_t_now_line_halts), ((d_t_now_line 8), ai k 8 r_t_now_line_first), ((d_t_free_row 0), ai k 20 r_t_free_row_kinds), ((d_t_free_row 1), ai k 20 r_t_free_row_longs), ((d_t_free_row 2), ai k 20 r_t_free_row_weights), ((d_t_free_row 3), ai k 20 r_t_free_row_strengths), ((d_t_free_row 4), ai k 20 r_t_free_row_wears), ((d_t_free_row 5), ai k 20 r_t_free_row_pushes), ((d_t_free_row 6), ai k 20 r_t_free_row_helpers), ((d_t_now_line 6), ai k 18 r_t_now_line_kinds), ((d_t_now_line 0), ai k 400 r_t_now_line_grades), ((d_t_free_row 7), ai k 20 r_t_free_row_bears)]) (rest := []) F hA hB (c_LongTrain_isWay l D k a_t d_t w_t i_t d_t_now w_t_now a_t_now_line d_t_now_line i_t_now_line n1 n2 _ hw_t_now_line hf) ml_RX11_227 mv_yX11_isWay [0, 1, 2] [3, 4, 5, 6, 7, 8, 9, 10, 11, 12, 13, 14, 15, 16] rfl rfl (by decide) (by decide) (by decide) 0 rfl rfl rfl hl.1 rfl (Nat.le_of_ble_eq_true rfl) ⟨Nat.le_of_ble_eq_true rfl, Nat.le_of_ble_eq_true rfl⟩ ⟨Nat.le_of_ble_eq_true rfl, Nat.le_of_ble_eq_true rfl⟩ dX11_climb_3 (fun z_1 w1 H locs hq hB => ?_)
  obtain ⟨h_2, rfl, hf⟩ := hq
  replace hB : Bd D A s.heap (wd_LongTrain_climb k a_t d_t w_t i_t d_t_now w_t_now a_t_now_line d_t_now_line i_t_now_line d_t_free i_t_free d_t_free_row i_t_free_row r_t_now_line_halts r_t_now_line_first r_t_free_row_kinds r_t_free_row_longs r_t_free_row_weights r_t_free_row_strengths r_t_free_row_wears r_t_free_row_pushes r_t_free_row_helpers r_t_now_line_kinds r_t_now_line_grades r_t_free_row_bears) H locs := hB.sub [14, 15, 16, 0, 1, 2, 3, 4, 5, 6, 7, 8, 9, 10, 11, 12, 13] (by decide) rfl
  refine lv_if_eq (tgt := 36) hx hb dX11_climb_6 (by decide) (fun c_16 => ?_) (fun c_16 => ?_)
  · replace hf := hf.1 c_16
    refine lv_iconst (v := -1) hx hb dX11_climb_36 (by decide) ?_
    exact r_i F hr hlk hB ⟨_, _, _, _, _, _, _, _, _, rfl, hf⟩ dX11_climb_37
  · replace hf := hf.2 c_16
    refine lv_iload_n hx hb dX11_climb_9 rfl (lv_at hl 3 rfl) ?_
    refine k_si (wr := [(a_t, ob 11 (vmx 11 d_t w_t) i_t j0), ((d_t 5), ob 9 (vmx 9 d_t_now w_t_now) i0 j0), (a_t_now_line, ob 3 (rfd d_t_now_line) i_t_now_line j0), ((d_t 9), ob 0 (rfd d_t_free) i_t_free j0), ((d_t_free 0), ob 8 (rfd d_t_free_row) i_t_free_row j0), ((d_t_now_line 2), ai k 30 r_t_now_line_halts), ((d_t_now_line 8), ai k 8 r_t_now_line_first), ((d_t_free_row 0), ai k 20 r_t_free_row_kinds), ((d_t_free_row 1), ai k 20 r_t_free_row_longs), ((d_t_free_row 2), ai k 20 r_t_free_row_weights), ((d_t_free_row 3), ai k 20 r_t_free_row_strengths), ((d_t_free_row 4), ai k 20 r_t_free_row_wears), ((d_t_free_row 5), ai k 20 r_t_free_row_pushes), ((d_t_free_row 6), ai k 20 r_t_free_row_helpers), ((d_t_now_line 6), ai k 18 r_t_now_line_kinds), ((d_t_now_line 0), ai k 400 r_t_now_line_grades), ((d_t_free_row 7), ai k 20 r_t_free_row_bears)]) (rest := []) F hA hB (c_LongTrain_isRunUp l D k n3 _  hf) ml_RX11_269 ms_yX11_isRunUp [] [0, 1, 2, 3, 4, 5, 6, 7, 8, 9, 10, 11, 12, 13, 14, 15, 16] rfl rfl (by decide) (by decide) (by decide) rfl hl.1 rfl (Nat.le_of_ble_eq_true rfl) ⟨Nat.le_of_ble_eq_true rfl, Nat.le_of_ble_eq_true rfl⟩ ⟨Nat.le_of_ble_eq_true rfl, Nat.le_of_ble_eq_true rfl⟩ dX11_climb_10 (fun z_3 w1 H locs hq hB => ?_)
    obtain ⟨h_4, rfl, hf⟩ := hq
    replace hB : Bd D A s.heap (wd_LongTrain_climb k a_t d_t w_t i_t d_t_now w_t_now a_t_now_line d_t_now_line i_t_now_line d_t_free i_t_free d_t_free_row i_t_free_row r_t_now_line_halts r_t_now_line_first r_t_free_row_kinds r_t_free_row_longs r_t_free_row_weights r_t_free_row_strengths r_t_free_row_wears r_t_free_row_pushes r_t_free_row_helpers r_t_now_line_kinds r_t_now_line_grades r_t_free_row_bears) H locs := hB.sub [0, 1, 2, 3, 4, 5, 6, 7, 8, 9, 10, 11, 12, 13, 14, 15, 16] (by decide) rfl
    refine lv_if_eq (tgt := 36) hx hb dX11_climb_13 (by decide) (fun c_15 => ?_) (fun c_15 => ?_)
    · replace hf := hf.1 c_15
      refine lv_iconst (v := -1) hx hb dX11_climb_36 (by decide) ?_
      exact r_i F hr hlk hB ⟨_, _, _, _, _, _, _, _, _, rfl, hf⟩ dX11_climb_37
    · replace hf := hf.2 c_15
      refine lv_aload_n hx hb dX11_climb_16 rfl (lv_at hl 0 rfl) ?_
      refine g_get (w := .ref (d_t 9)) F hB 0 rfl fl_RX11_55 rfl dX11_climb_17 ?_
      refine lv_aload_n hx hb dX11_climb_20 rfl (lv_at hl 0 rfl) ?_
      refine g_get (w := .ref (d_t 5)) F hB 0 rfl fl_RX11_30 rfl dX11_climb_21 ?_
      refine g_get (w := .ref a_t_now_line) F hB 1 rfl fl_RX11_105 hw_t_now_line dX11_climb_24 ?_
      refine lv_iload_n hx hb dX11_climb_27 rfl (lv_at hl 1 rfl) ?_
      refine lv_iload_n hx hb dX11_climb_28 rfl (lv_at hl 2 rfl) ?_
      refine lv_iload_n hx hb dX11_climb_29 rfl (lv_at hl 3 rfl) ?_
      refine k_vi (wr := [(a_t, ob 11 (vmx 11 d_t w_t) i_t j0), ((d_t 5), ob 9 (vmx 9 d_t_now w_t_now) i0 j0)]) (rest := []) F hA hB (c_Free_climbed l D k (d_t 9) d_t_free i_t_free a_t_now_line d_t_now_line i_t_now_line d_t_free_row i_t_free_row r_t_now_line_halts r_t_now_line_first r_t_free_row_kinds r_t_free_row_longs r_t_free_row_weights r_t_free_row_strengths r_t_free_row_wears r_t_free_row_pushes r_t_free_row_helpers r_t_now_line_kinds r_t_now_line_grades r_t_free_row_bears n1 n2 n3 _  hf) ml_RX11_272 mv_yX0_climbed [3, 2, 4, 5, 6, 7, 8, 9, 10, 11, 12, 13, 14, 15, 16] [0, 1] rfl rfl (by decide) (by decide) (by decide) 3 rfl rfl rfl hl.1 rfl (Nat.le_of_ble_eq_true rfl) ⟨Nat.le_of_ble_eq_true rfl, Nat.le_of_ble_eq_true rfl⟩ ⟨Nat.le_of_ble_eq_true rfl, Nat.le_of_ble_eq_true rfl⟩ dX11_climb_30 (fun z_14 w1 H locs hq hB => ?_)
      obtain ⟨i_t_free_row_5, r_t_free_row_kinds_6, r_t_free_row_longs_7, r_t_free_row_weights_8, r_t_free_row_strengths_9, r_t_free_row_wears_10, r_t_free_row_pushes_11, r_t_free_row_helpers_12, r_t_free_row_bears_13, rfl, hf⟩ := hq
      replace hB : Bd D A s.heap (wd_LongTrain_climb k a_t d_t w_t i_t d_t_now w_t_now a_t_now_line d_t_now_line i_t_now_line d_t_free i_t_free d_t_free_row i_t_free_row_5 r_t_now_line_halts r_t_now_line_first r_t_free_row_kinds_6 r_t_free_row_longs_7 r_t_free_row_weights_8 r_t_free_row_strengths_9 r_t_free_row_wears_10 r_t_free_row_pushes_11 r_t_free_row_helpers_12 r_t_now_line_kinds r_t_now_line_grades r_t_free_row_bears_13) H locs := hB.sub [0, 1, 3, 2, 4, 5, 6, 7, 8, 9, 10, 11, 12, 13, 14, 15, 16] (by decide) rfl
      refine lv_goto (tgt := 37) hx hb dX11_climb_33 (by decide) ?_
      exact r_i F hr hlk hB ⟨_, _, _, _, _, _, _, _, _, rfl, hf⟩ dX11_climb_37

/-! LongTrain.needed -/
set_option maxRecDepth 100000 in
set_option maxHeartbeats 4000000 in
theorem c_LongTrain_needed (l : Launch) (D : va_G) (k : Nat → ClassId) (a_t : Nat) (d_t : Nat → Nat) (w_t : Nat → Value) (i_t : Nat → Int32) (d_t_now : Nat → Nat) (w_t_now : Nat → Value) (a_t_now_line : Nat) (d_t_now_line : Nat → Nat) (i_t_now_line : Nat → Int32) (d_t_free : Nat → Nat) (i_t_free : Nat → Int32) (d_t_free_row : Nat → Nat) (i_t_free_row : Nat → Int32) (r_t_now_line_halts : Nat → Int32) (r_t_now_line_first : Nat → Int32) (r_t_free_row_kinds : Nat → Int32) (r_t_free_row_longs : Nat → Int32) (r_t_free_row_weights : Nat → Int32) (r_t_free_row_strengths : Nat → Int32) (r_t_free_row_wears : Nat → Int32) (r_t_free_row_pushes : Nat → Int32) (r_t_free_row_helpers : Nat → Int32) (r_t_now_line_kinds : Nat → Int32) (r_t_now_line_grades : Nat → Int32) (r_t_free_row_bears : Nat → Int32) (n1 : Int32) (n2 : Int32) (Q : Int32 → (Nat → Int32) → (Nat → Int32) → (Nat → Int32) → (Nat → Int32) → (Nat → Int32) → (Nat → Int32) → (Nat → Int32) → (Nat → Int32) → (Nat → Int32) → Prop) (hw_t_now_line : w_t_now 0 = .ref a_t_now_line) (hf : w_LongTrain_needed i_t_now_line i_t_free_row r_t_now_line_halts r_t_now_line_first r_t_free_row_kinds r_t_free_row_longs r_t_free_row_weights r_t_free_row_strengths r_t_free_row_wears r_t_free_row_pushes r_t_free_row_helpers r_t_now_line_kinds r_t_now_line_grades r_t_free_row_bears n1 n2 Q) : CtI l yX11_needed cX11_needed 3 (some .int) 6 138 0 0 D k [.ref a_t, .int n1, .int n2] (wd_LongTrain_needed k a_t d_t w_t i_t d_t_now w_t_now a_t_now_line d_t_now_line i_t_now_line d_t_free i_t_free d_t_free_row i_t_free_row r_t_now_line_halts r_t_now_line_first r_t_free_row_kinds r_t_free_row_longs r_t_free_row_weights r_t_free_row_strengths r_t_free_row_wears r_t_free_row_pushes r_t_free_row_helpers r_t_now_line_kinds r_t_now_line_grades r_t_free_row_bears) (fun r w => ∃ (i_t_free_row : Nat → Int32), ∃ (r_t_free_row_kinds : Nat → Int32), ∃ (r_t_free_row_longs : Nat → Int32), ∃ (r_t_free_row_weights : Nat → Int32), ∃ (r_t_free_row_strengths : Nat → Int32), ∃ (r_t_free_row_wears : Nat → Int32), ∃ (r_t_free_row_pushes : Nat → Int32), ∃ (r_t_free_row_helpers : Nat → Int32), ∃ (r_t_free_row_bears : Nat → Int32), w = (wd_LongTrain_needed k a_t d_t w_t i_t d_t_now w_t_now a_t_now_line d_t_now_line i_t_now_line d_t_free i_t_free d_t_free_row i_t_free_row r_t_now_line_halts r_t_now_line_first r_t_free_row_kinds r_t_free_row_longs r_t_free_row_weights r_t_free_row_strengths r_t_free_row_wears r_t_free_row_pushes r_t_free_row_helpers r_t_now_line_kinds r_t_now_line_grades r_t_free_row_bears) ∧ Q r i_t_free_row r_t_free_row_kinds r_t_free_row_longs r_t_free_row_weights r_t_free_row_strengths r_t_free_row_wears r_t_free_row_pushes r_t_free_row_helpers r_t_free_row_bears) := by
  refine CtI.of (by decide) (Nat.le_of_ble_eq_true rfl) ?_
  intro p e s m below meth c A F hr hlk hnm hA hB ls hl
  have hx := F.x
  have hb := F.b
  unfold w_LongTrain_needed at hf
  replace hl : lv_has ls 3 [(0, .ref a_t), (1, .int n1), (2, .int n2)] := hl
  refine lv_aload_n hx hb dX11_needed_0 rfl (lv_at hl 0 rfl) ?_
  refine lv_iload_n hx hb dX11_needed_1 rfl (lv_at hl 1 rfl) ?_
  refine lv_iload_n hx hb dX11_needed_2 rfl (lv_at hl 2 rfl) ?_
  refine k_vi (wr := [((d_t 9), ob 0 (rfd d_t_free) i_t_free j0), ((d_t_free 0), ob 8 (rfd d_t_free_row) i_t_free_row j0), ((d_t_now_line 2), ai k 30 r_t_now_line_halts), ((d_t_now_line 8), ai k 8 r_t_now_line_first), ((d_t_free_row 0), ai k 20 r_t_free_row_kinds), ((d_t_free_row 1), ai k 20 r_t_free_row_longs), ((d_t_free_row 2), ai k 20 r_t_free_row_weights), ((d_t_free_row 3), ai k 20 r_t_free_row_strengths), ((d_t_free_row 4), ai k 20 r_t_free_row_wears), ((d_t_free_row 5), ai k 20 r_t_free_row_pushes), ((d_t_free_row 6), ai k 20 r_t_free_row_helpers), ((d_t_now_line 6), ai k 18 r_t_now_line_kinds), ((d_t_now_line 0), ai k 400 r_t_now_line_grades), ((d_t_free_row 7), ai k 20 r_t_free_row_bears)]) (rest := []) F hA hB (c_LongTrain_isWay l D k a_t d_t w_t i_t d_t_now w_t_now a_t_now_line d_t_now_line i_t_now_line n1 n2 _ hw_t_now_line hf) ml_RX11_227 mv_yX11_isWay [0, 1, 2] [3, 4, 5, 6, 7, 8, 9, 10, 11, 12, 13, 14, 15, 16] rfl rfl (by decide) (by decide) (by decide) 0 rfl rfl rfl hl.1 rfl (Nat.le_of_ble_eq_true rfl) ⟨Nat.le_of_ble_eq_true rfl, Nat.le_of_ble_eq_true rfl⟩ ⟨Nat.le_of_ble_eq_true rfl, Nat.le_of_ble_eq_true rfl⟩ dX11_needed_3 (fun z_1 w1 H locs hq hB => ?_)
  obtain ⟨h_2, rfl, hf⟩ := hq
  replace hB : Bd D A s.heap (wd_LongTrain_needed k a_t d_t w_t i_t d_t_now w_t_now a_t_now_line d_t_now_line i_t_now_line d_t_free i_t_free d_t_free_row i_t_free_row r_t_now_line_halts r_t_now_line_first r_t_free_row_kinds r_t_free_row_longs r_t_free_row_weights r_t_free_row_strengths r_t_free_row_wears r_t_free_row_pushes r_t_free_row_helpers r_t_now_line_kinds r_t_now_line_grades r_t_free_row_bears) H locs := hB.sub [14, 15, 16, 0, 1, 2, 3, 4, 5, 6, 7, 8, 9, 10, 11, 12, 13] (by decide) rfl
  refine lv_if_eq (tgt := 28) hx hb dX11_needed_6 (by decide) (fun c_13 => ?_) (fun c_13 => ?_)
  · replace hf := hf.1 c_13
    refine lv_iconst (v := -1) hx hb dX11_needed_28 (by decide) ?_
    exact r_i F hr hlk hB ⟨_, _, _, _, _, _, _, _, _, rfl, hf⟩ dX11_needed_29
  · replace hf := hf.2 c_13
    refine lv_aload_n hx hb dX11_needed_9 rfl (lv_at hl 0 rfl) ?_
    refine g_get (w := .ref (d_t 9)) F hB 0 rfl fl_RX11_55 rfl dX11_needed_10 ?_
    refine lv_aload_n hx hb dX11_needed_13 rfl (lv_at hl 0 rfl) ?_
    refine g_get (w := .ref (d_t 5)) F hB 0 rfl fl_RX11_30 rfl dX11_needed_14 ?_
    refine g_get (w := .ref a_t_now_line) F hB 1 rfl fl_RX11_105 hw_t_now_line dX11_needed_17 ?_
    refine lv_iload_n hx hb dX11_needed_20 rfl (lv_at hl 1 rfl) ?_
    refine lv_iload_n hx hb dX11_needed_21 rfl (lv_at hl 2 rfl) ?_
    refine k_vi (wr := [(a_t, ob 11 (vmx 11 d_t w_t) i_t j0), ((d_t 5), ob 9 (vmx 9 d_t_now w_t_now) i0 j0)]) (rest := []) F hA hB (c_Free_leastRunUp l D k (d_t 9) d_t_free i_t_free a_t_now_line d_t_now_line i_t_now_line d_t_free_row i_t_free_row r_t_now_line_halts r_t_now_line_first r_t_free_row_kinds r_t_free_row_longs r_t_free_row_weights r_t_free_row_strengths r_t_free_row_wears r_t_free_row_pushes r_t_free_row_helpers r_t_now_line_kinds r_t_now_line_grades r_t_free_row_bears n1 n2 _  hf) ml_RX11_276 mv_yX0_leastRunUp [3, 2, 4, 5, 6, 7, 8, 9, 10, 11, 12, 13, 14, 15, 16] [0, 1] rfl rfl (by decide) (by decide) (by decide) 3 rfl rfl rfl hl.1 rfl (Nat.le_of_ble_eq_true rfl) ⟨Nat.le_of_ble_eq_true rfl, Nat.le_of_ble_eq_true rfl⟩ ⟨Nat.le_of_ble_eq_true rfl, Nat.le_of_ble_eq_true rfl⟩ dX11_needed_22 (fun z_12 w1 H locs hq hB => ?_)
    obtain ⟨i_t_free_row_3, r_t_free_row_kinds_4, r_t_free_row_longs_5, r_t_free_row_weights_6, r_t_free_row_strengths_7, r_t_free_row_wears_8, r_t_free_row_pushes_9, r_t_free_row_helpers_10, r_t_free_row_bears_11, rfl, hf⟩ := hq
    replace hB : Bd D A s.heap (wd_LongTrain_needed k a_t d_t w_t i_t d_t_now w_t_now a_t_now_line d_t_now_line i_t_now_line d_t_free i_t_free d_t_free_row i_t_free_row_3 r_t_now_line_halts r_t_now_line_first r_t_free_row_kinds_4 r_t_free_row_longs_5 r_t_free_row_weights_6 r_t_free_row_strengths_7 r_t_free_row_wears_8 r_t_free_row_pushes_9 r_t_free_row_helpers_10 r_t_now_line_kinds r_t_now_line_grades r_t_free_row_bears_11) H locs := hB.sub [0, 1, 3, 2, 4, 5, 6, 7, 8, 9, 10, 11, 12, 13, 14, 15, 16] (by decide) rfl
    refine lv_goto (tgt := 29) hx hb dX11_needed_25 (by decide) ?_
    exact r_i F hr hlk hB ⟨_, _, _, _, _, _, _, _, _, rfl, hf⟩ dX11_needed_29

/-! LongTrain.sanded -/
set_option maxRecDepth 100000 in
set_option maxHeartbeats 4000000 in
theorem c_LongTrain_sanded (l : Launch) (D : va_G) (k : Nat → ClassId) (a_t : Nat) (d_t : Nat → Nat) (w_t : Nat → Value) (i_t : Nat → Int32) (d_t_now : Nat → Nat) (w_t_now : Nat → Value) (a_t_now_line : Nat) (d_t_now_line : Nat → Nat) (i_t_now_line : Nat → Int32) (d_t_free : Nat → Nat) (i_t_free : Nat → Int32) (d_t_free_row : Nat → Nat) (i_t_free_row : Nat → Int32) (r_t_now_line_halts : Nat → Int32) (r_t_now_line_first : Nat → Int32) (r_t_free_row_kinds : Nat → Int32) (r_t_free_row_longs : Nat → Int32) (r_t_free_row_weights : Nat → Int32) (r_t_free_row_strengths : Nat → Int32) (r_t_free_row_wears : Nat → Int32) (r_t_free_row_pushes : Nat → Int32) (r_t_free_row_helpers : Nat → Int32) (r_t_now_line_kinds : Nat → Int32) (r_t_now_line_grades : Nat → Int32) (r_t_free_row_bears : Nat → Int32) (n1 : Int32) (n2 : Int32) (n3 : Int32) (Q : Int32 → (Nat → Int32) → (Nat → Int32) → (Nat → Int32) → (Nat → Int32) → (Nat → Int32) → (Nat → Int32) → (Nat → Int32) → (Nat → Int32) → (Nat → Int32) → Prop) (hw_t_now_line : w_t_now 0 = .ref a_t_now_line) (hf : w_LongTrain_sanded i_t_now_line i_t_free_row r_t_now_line_halts r_t_now_line_first r_t_free_row_kinds r_t_free_row_longs r_t_free_row_weights r_t_free_row_strengths r_t_free_row_wears r_t_free_row_pushes r_t_free_row_helpers r_t_now_line_kinds r_t_now_line_grades r_t_free_row_bears n1 n2 n3 Q) : CtI l yX11_sanded cX11_sanded 4 (some .int) 6 139 0 0 D k [.ref a_t, .int n1, .int n2, .int n3] (wd_LongTrain_sanded k a_t d_t w_t i_t d_t_now w_t_now a_t_now_line d_t_now_line i_t_now_line d_t_free i_t_free d_t_free_row i_t_free_row r_t_now_line_halts r_t_now_line_first r_t_free_row_kinds r_t_free_row_longs r_t_free_row_weights r_t_free_row_strengths r_t_free_row_wears r_t_free_row_pushes r_t_free_row_helpers r_t_now_line_kinds r_t_now_line_grades r_t_free_row_bears) (fun r w => ∃ (i_t_free_row : Nat → Int32), ∃ (r_t_free_row_kinds : Nat → Int32), ∃ (r_t_free_row_longs : Nat → Int32), ∃ (r_t_free_row_weights : Nat → Int32), ∃ (r_t_free_row_strengths : Nat → Int32), ∃ (r_t_free_row_wears : Nat → Int32), ∃ (r_t_free_row_pushes : Nat → Int32), ∃ (r_t_free_row_helpers : Nat → Int32), ∃ (r_t_free_row_bears : Nat → Int32), w = (wd_LongTrain_sanded k a_t d_t w_t i_t d_t_now w_t_now a_t_now_line d_t_now_line i_t_now_line d_t_free i_t_free d_t_free_row i_t_free_row r_t_now_line_halts r_t_now_line_first r_t_free_row_kinds r_t_free_row_longs r_t_free_row_weights r_t_free_row_strengths r_t_free_row_wears r_t_free_row_pushes r_t_free_row_helpers r_t_now_line_kinds r_t_now_line_grades r_t_free_row_bears) ∧ Q r i_t_free_row r_t_free_row_kinds r_t_free_row_longs r_t_free_row_weights r_t_free_row_strengths r_t_free_row_wears r_t_free_row_pushes r_t_free_row_helpers r_t_free_row_bears) := by
  refine CtI.of (by decide) (Nat.le_of_ble_eq_true rfl) ?_
  intro p e s m below meth c A F hr hlk hnm hA hB ls hl
  have hx := F.x
  have hb := F.b
  unfold w_LongTrain_sanded at hf
  replace hl : lv_has ls 4 [(0, .ref a_t), (1, .int n1), (2, .int n2), (3, .int n3)] := hl
  refine lv_aload_n hx hb dX11_sanded_0 rfl (lv_at hl 0 rfl) ?_
  refine lv_iload_n hx hb dX11_sanded_1 rfl (lv_at hl 1 rfl) ?_
  refine lv_iload_n hx hb dX11_sanded_2 rfl (lv_at hl 2 rfl) ?_
  refine k_vi (wr := [((d_t 9), ob 0 (rfd d_t_free) i_t_free j0), ((d_t_free 0), ob 8 (rfd d_t_free_row) i_t_free_row j0), ((d_t_now_line 2), ai k 30 r_t_now_line_halts), ((d_t_now_line 8), ai k 8 r_t_now_line_first), ((d_t_free_row 0), ai k 20 r_t_free_row_kinds), ((d_t_free_row 1), ai k 20 r_t_free_row_longs), ((d_t_free_row 2), ai k 20 r_t_free_row_weights), ((d_t_free_row 3), ai k 20 r_t_free_row_strengths), ((d_t_free_row 4), ai k 20 r_t_free_row_wears), ((d_t_free_row 5), ai k 20 r_t_free_row_pushes), ((d_t_free_row 6), ai k 20 r_t_free_row_helpers), ((d_t_now_line 6), ai k 18 r_t_now_line_kinds), ((d_t_now_line 0), ai k 400 r_t_now_line_grades), ((d_t_free_row 7), ai k 20 r_t_free_row_bears)]) (rest := []) F hA hB (c_LongTrain_isWay l D k a_t d_t w_t i_t d_t_now w_t_now a_t_now_line d_t_now_line i_t_now_line n1 n2 _ hw_t_now_line hf) ml_RX11_227 mv_yX11_isWay [0, 1, 2] [3, 4, 5, 6, 7, 8, 9, 10, 11, 12, 13, 14, 15, 16] rfl rfl (by decide) (by decide) (by decide) 0 rfl rfl rfl hl.1 rfl (Nat.le_of_ble_eq_true rfl) ⟨Nat.le_of_ble_eq_true rfl, Nat.le_of_ble_eq_true rfl⟩ ⟨Nat.le_of_ble_eq_true rfl, Nat.le_of_ble_eq_true rfl⟩ dX11_sanded_3 (fun z_1 w1 H locs hq hB => ?_)
  obtain ⟨h_2, rfl, hf⟩ := hq
  replace hB : Bd D A s.heap (wd_LongTrain_sanded k a_t d_t w_t i_t d_t_now w_t_now a_t_now_line d_t_now_line i_t_now_line d_t_free i_t_free d_t_free_row i_t_free_row r_t_now_line_halts r_t_now_line_first r_t_free_row_kinds r_t_free_row_longs r_t_free_row_weights r_t_free_row_strengths r_t_free_row_wears r_t_free_row_pushes r_t_free_row_helpers r_t_now_line_kinds r_t_now_line_grades r_t_free_row_bears) H locs := hB.sub [14, 15, 16, 0, 1, 2, 3, 4, 5, 6, 7, 8, 9, 10, 11, 12, 13] (by decide) rfl
  refine lv_if_eq (tgt := 36) hx hb dX11_sanded_6 (by decide) (fun c_16 => ?_) (fun c_16 => ?_)
  · replace hf := hf.1 c_16
    refine lv_iconst (v := -1) hx hb dX11_sanded_36 (by decide) ?_
    exact r_i F hr hlk hB ⟨_, _, _, _, _, _, _, _, _, rfl, hf⟩ dX11_sanded_37
  · replace hf := hf.2 c_16
    refine lv_iload_n hx hb dX11_sanded_9 rfl (lv_at hl 3 rfl) ?_
    refine k_si (wr := [(a_t, ob 11 (vmx 11 d_t w_t) i_t j0), ((d_t 5), ob 9 (vmx 9 d_t_now w_t_now) i0 j0), (a_t_now_line, ob 3 (rfd d_t_now_line) i_t_now_line j0), ((d_t 9), ob 0 (rfd d_t_free) i_t_free j0), ((d_t_free 0), ob 8 (rfd d_t_free_row) i_t_free_row j0), ((d_t_now_line 2), ai k 30 r_t_now_line_halts), ((d_t_now_line 8), ai k 8 r_t_now_line_first), ((d_t_free_row 0), ai k 20 r_t_free_row_kinds), ((d_t_free_row 1), ai k 20 r_t_free_row_longs), ((d_t_free_row 2), ai k 20 r_t_free_row_weights), ((d_t_free_row 3), ai k 20 r_t_free_row_strengths), ((d_t_free_row 4), ai k 20 r_t_free_row_wears), ((d_t_free_row 5), ai k 20 r_t_free_row_pushes), ((d_t_free_row 6), ai k 20 r_t_free_row_helpers), ((d_t_now_line 6), ai k 18 r_t_now_line_kinds), ((d_t_now_line 0), ai k 400 r_t_now_line_grades), ((d_t_free_row 7), ai k 20 r_t_free_row_bears)]) (rest := []) F hA hB (c_LongTrain_isRunUp l D k n3 _  hf) ml_RX11_269 ms_yX11_isRunUp [] [0, 1, 2, 3, 4, 5, 6, 7, 8, 9, 10, 11, 12, 13, 14, 15, 16] rfl rfl (by decide) (by decide) (by decide) rfl hl.1 rfl (Nat.le_of_ble_eq_true rfl) ⟨Nat.le_of_ble_eq_true rfl, Nat.le_of_ble_eq_true rfl⟩ ⟨Nat.le_of_ble_eq_true rfl, Nat.le_of_ble_eq_true rfl⟩ dX11_sanded_10 (fun z_3 w1 H locs hq hB => ?_)
    obtain ⟨h_4, rfl, hf⟩ := hq
    replace hB : Bd D A s.heap (wd_LongTrain_sanded k a_t d_t w_t i_t d_t_now w_t_now a_t_now_line d_t_now_line i_t_now_line d_t_free i_t_free d_t_free_row i_t_free_row r_t_now_line_halts r_t_now_line_first r_t_free_row_kinds r_t_free_row_longs r_t_free_row_weights r_t_free_row_strengths r_t_free_row_wears r_t_free_row_pushes r_t_free_row_helpers r_t_now_line_kinds r_t_now_line_grades r_t_free_row_bears) H locs := hB.sub [0, 1, 2, 3, 4, 5, 6, 7, 8, 9, 10, 11, 12, 13, 14, 15, 16] (by decide) rfl
    refine lv_if_eq (tgt := 36) hx hb dX11_sanded_13 (by decide) (fun c_15 => ?_) (fun c_15 => ?_)
    · replace hf := hf.1 c_15
      refine lv_iconst (v := -1) hx hb dX11_sanded_36 (by decide) ?_
      exact r_i F hr hlk hB ⟨_, _, _, _, _, _, _, _, _, rfl, hf⟩ dX11_sanded_37
    · replace hf := hf.2 c_15
      refine lv_aload_n hx hb dX11_sanded_16 rfl (lv_at hl 0 rfl) ?_
      refine g_get (w := .ref (d_t 9)) F hB 0 rfl fl_RX11_55 rfl dX11_sanded_17 ?_
      refine lv_aload_n hx hb dX11_sanded_20 rfl (lv_at hl 0 rfl) ?_
      refine g_get (w := .ref (d_t 5)) F hB 0 rfl fl_RX11_30 rfl dX11_sanded_21 ?_
      refine g_get (w := .ref a_t_now_line) F hB 1 rfl fl_RX11_105 hw_t_now_line dX11_sanded_24 ?_
      refine lv_iload_n hx hb dX11_sanded_27 rfl (lv_at hl 1 rfl) ?_
      refine lv_iload_n hx hb dX11_sanded_28 rfl (lv_at hl 2 rfl) ?_
      refine lv_iload_n hx hb dX11_sanded_29 rfl (lv_at hl 3 rfl) ?_
      refine k_vi (wr := [(a_t, ob 11 (vmx 11 d_t w_t) i_t j0), ((d_t 5), ob 9 (vmx 9 d_t_now w_t_now) i0 j0)]) (rest := []) F hA hB (c_Free_leastSand l D k (d_t 9) d_t_free i_t_free a_t_now_line d_t_now_line i_t_now_line d_t_free_row i_t_free_row r_t_now_line_halts r_t_now_line_first r_t_free_row_kinds r_t_free_row_longs r_t_free_row_weights r_t_free_row_strengths r_t_free_row_wears r_t_free_row_pushes r_t_free_row_helpers r_t_now_line_kinds r_t_now_line_grades r_t_free_row_bears n1 n2 n3 _  hf) ml_RX11_280 mv_yX0_leastSand [3, 2, 4, 5, 6, 7, 8, 9, 10, 11, 12, 13, 14, 15, 16] [0, 1] rfl rfl (by decide) (by decide) (by decide) 3 rfl rfl rfl hl.1 rfl (Nat.le_of_ble_eq_true rfl) ⟨Nat.le_of_ble_eq_true rfl, Nat.le_of_ble_eq_true rfl⟩ ⟨Nat.le_of_ble_eq_true rfl, Nat.le_of_ble_eq_true rfl⟩ dX11_sanded_30 (fun z_14 w1 H locs hq hB => ?_)
      obtain ⟨i_t_free_row_5, r_t_free_row_kinds_6, r_t_free_row_longs_7, r_t_free_row_weights_8, r_t_free_row_strengths_9, r_t_free_row_wears_10, r_t_free_row_pushes_11, r_t_free_row_helpers_12, r_t_free_row_bears_13, rfl, hf⟩ := hq
      replace hB : Bd D A s.heap (wd_LongTrain_sanded k a_t d_t w_t i_t d_t_now w_t_now a_t_now_line d_t_now_line i_t_now_line d_t_free i_t_free d_t_free_row i_t_free_row_5 r_t_now_line_halts r_t_now_line_first r_t_free_row_kinds_6 r_t_free_row_longs_7 r_t_free_row_weights_8 r_t_free_row_strengths_9 r_t_free_row_wears_10 r_t_free_row_pushes_11 r_t_free_row_helpers_12 r_t_now_line_kinds r_t_now_line_grades r_t_free_row_bears_13) H locs := hB.sub [0, 1, 3, 2, 4, 5, 6, 7, 8, 9, 10, 11, 12, 13, 14, 15, 16] (by decide) rfl
      refine lv_goto (tgt := 37) hx hb dX11_sanded_33 (by decide) ?_
      exact r_i F hr hlk hB ⟨_, _, _, _, _, _, _, _, _, rfl, hf⟩ dX11_sanded_37

/-! LongTrain.helped -/
set_option maxRecDepth 100000 in
set_option maxHeartbeats 4000000 in
theorem c_LongTrain_helped (l : Launch) (D : va_G) (k : Nat → ClassId) (a_t : Nat) (d_t : Nat → Nat) (w_t : Nat → Value) (i_t : Nat → Int32) (d_t_now : Nat → Nat) (w_t_now : Nat → Value) (a_t_now_line : Nat) (d_t_now_line : Nat → Nat) (i_t_now_line : Nat → Int32) (d_t_free : Nat → Nat) (i_t_free : Nat → Int32) (d_t_free_row : Nat → Nat) (i_t_free_row : Nat → Int32) (r_t_now_line_halts : Nat → Int32) (r_t_now_line_first : Nat → Int32) (r_t_free_row_kinds : Nat → Int32) (r_t_free_row_longs : Nat → Int32) (r_t_free_row_weights : Nat → Int32) (r_t_free_row_strengths : Nat → Int32) (r_t_free_row_wears : Nat → Int32) (r_t_free_row_pushes : Nat → Int32) (r_t_free_row_helpers : Nat → Int32) (r_t_now_line_kinds : Nat → Int32) (r_t_now_line_grades : Nat → Int32) (r_t_free_row_bears : Nat → Int32) (n1 : Int32) (n2 : Int32) (n3 : Int32) (n4 : Int32) (Q : Int32 → (Nat → Int32) → (Nat → Int32) → (Nat → Int32) → (Nat → Int32) → (Nat → Int32) → (Nat → Int32) → (Nat → Int32) → (Nat → Int32) → (Nat → Int32) → Prop) (hw_t_now_line : w_t_now 0 = .ref a_t_now_line) (hf : w_LongTrain_helped i_t_now_line i_t_free_row r_t_now_line_halts r_t_now_line_first r_t_free_row_kinds r_t_free_row_longs r_t_free_row_weights r_t_free_row_strengths r_t_free_row_wears r_t_free_row_pushes r_t_free_row_helpers r_t_now_line_kinds r_t_now_line_grades r_t_free_row_bears n1 n2 n3 n4 Q) : CtI l yX11_helped cX11_helped 5 (some .int) 6 143 0 0 D k [.ref a_t, .int n1, .int n2, .int n3, .int n4] (wd_LongTrain_helped k a_t d_t w_t i_t d_t_now w_t_now a_t_now_line d_t_now_line i_t_now_line d_t_free i_t_free d_t_free_row i_t_free_row r_t_now_line_halts r_t_now_line_first r_t_free_row_kinds r_t_free_row_longs r_t_free_row_weights r_t_free_row_strengths r_t_free_row_wears r_t_free_row_pushes r_t_free_row_helpers r_t_now_line_kinds r_t_now_line_grades r_t_free_row_bears) (fun r w => ∃ (i_t_free_row : Nat → Int32), ∃ (r_t_free_row_kinds : Nat → Int32), ∃ (r_t_free_row_longs : Nat → Int32), ∃ (r_t_free_row_weights : Nat → Int32), ∃ (r_t_free_row_strengths : Nat → Int32), ∃ (r_t_free_row_wears : Nat → Int32), ∃ (r_t_free_row_pushes : Nat → Int32), ∃ (r_t_free_row_helpers : Nat → Int32), ∃ (r_t_free_row_bears : Nat → Int32), w = (wd_LongTrain_helped k a_t d_t w_t i_t d_t_now w_t_now a_t_now_line d_t_now_line i_t_now_line d_t_free i_t_free d_t_free_row i_t_free_row r_t_now_line_halts r_t_now_line_first r_t_free_row_kinds r_t_free_row_longs r_t_free_row_weights r_t_free_row_strengths r_t_free_row_wears r_t_free_row_pushes r_t_free_row_helpers r_t_now_line_kinds r_t_now_line_grades r_t_free_row_bears) ∧ Q r i_t_free_row r_t_free_row_kinds r_t_free_row_longs r_t_free_row_weights r_t_free_row_strengths r_t_free_row_wears r_t_free_row_pushes r_t_free_row_helpers r_t_free_row_bears) := by
  refine CtI.of (by decide) (Nat.le_of_ble_eq_true rfl) ?_
  intro p e s m below meth c A F hr hlk hnm hA hB ls hl
  have hx := F.x
  have hb := F.b
  unfold w_LongTrain_helped at hf
  replace hl : lv_has ls 5 [(0, .ref a_t), (1, .int n1), (2, .int n2), (3, .int n3), (4, .int n4)] := hl
  refine lv_aload_n hx hb dX11_helped_0 rfl (lv_at hl 0 rfl) ?_
  refine lv_iload_n hx hb dX11_helped_1 rfl (lv_at hl 1 rfl) ?_
  refine lv_iload_n hx hb dX11_helped_2 rfl (lv_at hl 2 rfl) ?_
  refine k_vi (wr := [((d_t 9), ob 0 (rfd d_t_free) i_t_free j0), ((d_t_free 0), ob 8 (rfd d_t_free_row) i_t_free_row j0), ((d_t_now_line 2), ai k 30 r_t_now_line_halts), ((d_t_now_line 8), ai k 8 r_t_now_line_first), ((d_t_free_row 0), ai k 20 r_t_free_row_kinds), ((d_t_free_row 1), ai k 20 r_t_free_row_longs), ((d_t_free_row 2), ai k 20 r_t_free_row_weights), ((d_t_free_row 3), ai k 20 r_t_free_row_strengths), ((d_t_free_row 4), ai k 20 r_t_free_row_wears), ((d_t_free_row 5), ai k 20 r_t_free_row_pushes), ((d_t_free_row 6), ai k 20 r_t_free_row_helpers), ((d_t_now_line 6), ai k 18 r_t_now_line_kinds), ((d_t_now_line 0), ai k 400 r_t_now_line_grades), ((d_t_free_row 7), ai k 20 r_t_free_row_bears)]) (rest := []) F hA hB (c_LongTrain_isWay l D k a_t d_t w_t i_t d_t_now w_t_now a_t_now_line d_t_now_line i_t_now_line n1 n2 _ hw_t_now_line hf) ml_RX11_227 mv_yX11_isWay [0, 1, 2] [3, 4, 5, 6, 7, 8, 9, 10, 11, 12, 13, 14, 15, 16] rfl rfl (by decide) (by decide) (by decide) 0 rfl rfl rfl hl.1 rfl (Nat.le_of_ble_eq_true rfl) ⟨Nat.le_of_ble_eq_true rfl, Nat.le_of_ble_eq_true rfl⟩ ⟨Nat.le_of_ble_eq_true rfl, Nat.le_of_ble_eq_true rfl⟩ dX11_helped_3 (fun z_1 w1 H locs hq hB => ?_)
  obtain ⟨h_2, rfl, hf⟩ := hq
  replace hB : Bd D A s.heap (wd_LongTrain_helped k a_t d_t w_t i_t d_t_now w_t_now a_t_now_line d_t_now_line i_t_now_line d_t_free i_t_free d_t_free_row i_t_free_row r_t_now_line_halts r_t_now_line_first r_t_free_row_kinds r_t_free_row_longs r_t_free_row_weights r_t_free_row_strengths r_t_free_row_wears r_t_free_row_pushes r_t_free_row_helpers r_t_now_line_kinds r_t_now_line_grades r_t_free_row_bears) H locs := hB.sub [14, 15, 16, 0, 1, 2, 3, 4, 5, 6, 7, 8, 9, 10, 11, 12, 13] (by decide) rfl
  refine lv_if_eq (tgt := 30) hx hb dX11_helped_6 (by decide) (fun c_18 => ?_) (fun c_18 => ?_)
  · replace hf := hf.1 c_18
    refine lv_iconst (v := -1) hx hb dX11_helped_30 (by decide) ?_
    exact r_i F hr hlk hB ⟨_, _, _, _, _, _, _, _, _, rfl, hf⟩ dX11_helped_31
  · replace hf := hf.2 c_18
    refine lv_iload_n hx hb dX11_helped_9 rfl (lv_at hl 3 rfl) ?_
    refine k_si (wr := [(a_t, ob 11 (vmx 11 d_t w_t) i_t j0), ((d_t 5), ob 9 (vmx 9 d_t_now w_t_now) i0 j0), (a_t_now_line, ob 3 (rfd d_t_now_line) i_t_now_line j0), ((d_t 9), ob 0 (rfd d_t_free) i_t_free j0), ((d_t_free 0), ob 8 (rfd d_t_free_row) i_t_free_row j0), ((d_t_now_line 2), ai k 30 r_t_now_line_halts), ((d_t_now_line 8), ai k 8 r_t_now_line_first), ((d_t_free_row 0), ai k 20 r_t_free_row_kinds), ((d_t_free_row 1), ai k 20 r_t_free_row_longs), ((d_t_free_row 2), ai k 20 r_t_free_row_weights), ((d_t_free_row 3), ai k 20 r_t_free_row_strengths), ((d_t_free_row 4), ai k 20 r_t_free_row_wears), ((d_t_free_row 5), ai k 20 r_t_free_row_pushes), ((d_t_free_row 6), ai k 20 r_t_free_row_helpers), ((d_t_now_line 6), ai k 18 r_t_now_line_kinds), ((d_t_now_line 0), ai k 400 r_t_now_line_grades), ((d_t_free_row 7), ai k 20 r_t_free_row_bears)]) (rest := []) F hA hB (c_LongTrain_isRunUp l D k n3 _  hf) ml_RX11_269 ms_yX11_isRunUp [] [0, 1, 2, 3, 4, 5, 6, 7, 8, 9, 10, 11, 12, 13, 14, 15, 16] rfl rfl (by decide) (by decide) (by decide) rfl hl.1 rfl (Nat.le_of_ble_eq_true rfl) ⟨Nat.le_of_ble_eq_true rfl, Nat.le_of_ble_eq_true rfl⟩ ⟨Nat.le_of_ble_eq_true rfl, Nat.le_of_ble_eq_true rfl⟩ dX11_helped_10 (fun z_3 w1 H locs hq hB => ?_)
    obtain ⟨h_4, rfl, hf⟩ := hq
    replace hB : Bd D A s.heap (wd_LongTrain_helped k a_t d_t w_t i_t d_t_now w_t_now a_t_now_line d_t_now_line i_t_now_line d_t_free i_t_free d_t_free_row i_t_free_row r_t_now_line_halts r_t_now_line_first r_t_free_row_kinds r_t_free_row_longs r_t_free_row_weights r_t_free_row_strengths r_t_free_row_wears r_t_free_row_pushes r_t_free_row_helpers r_t_now_line_kinds r_t_now_line_grades r_t_free_row_bears) H locs := hB.sub [0, 1, 2, 3, 4, 5, 6, 7, 8, 9, 10, 11, 12, 13, 14, 15, 16] (by decide) rfl
    refine lv_if_eq (tgt := 30) hx hb dX11_helped_13 (by decide) (fun c_17 => ?_) (fun c_17 => ?_)
    · replace hf := hf.1 c_17
      refine lv_iconst (v := -1) hx hb dX11_helped_30 (by decide) ?_
      exact r_i F hr hlk hB ⟨_, _, _, _, _, _, _, _, _, rfl, hf⟩ dX11_helped_31
    · replace hf := hf.2 c_17
      refine lv_iload hx hb dX11_helped_16 (lv_at hl 4 rfl) ?_
      refine lv_iconst (v := 1) hx hb dX11_helped_18 (by decide) ?_
      refine lv_icmp_lt (tgt := 30) hx hb dX11_helped_19 (by decide) (fun c_16 => ?_) (fun c_16 => ?_)
      · replace hf := hf.1 c_16
        refine lv_iconst (v := -1) hx hb dX11_helped_30 (by decide) ?_
        exact r_i F hr hlk hB ⟨_, _, _, _, _, _, _, _, _, rfl, hf⟩ dX11_helped_31
      · replace hf := hf.2 c_16
        refine lv_iload hx hb dX11_helped_22 (lv_at hl 4 rfl) ?_
        refine lv_sipush (v := 999) hx hb dX11_helped_24 (by decide) ?_
        refine lv_icmp_le (tgt := 32) hx hb dX11_helped_27 (by decide) (fun c_15 => ?_) (fun c_15 => ?_)
        · replace hf := hf.1 c_15
          refine lv_aload_n hx hb dX11_helped_32 rfl (lv_at hl 0 rfl) ?_
          refine g_get (w := .ref (d_t 9)) F hB 0 rfl fl_RX11_55 rfl dX11_helped_33 ?_
          refine lv_aload_n hx hb dX11_helped_36 rfl (lv_at hl 0 rfl) ?_
          refine g_get (w := .ref (d_t 5)) F hB 0 rfl fl_RX11_30 rfl dX11_helped_37 ?_
          refine g_get (w := .ref a_t_now_line) F hB 1 rfl fl_RX11_105 hw_t_now_line dX11_helped_40 ?_
          refine lv_iload_n hx hb dX11_helped_43 rfl (lv_at hl 1 rfl) ?_
          refine lv_iload_n hx hb dX11_helped_44 rfl (lv_at hl 2 rfl) ?_
          refine lv_iload_n hx hb dX11_helped_45 rfl (lv_at hl 3 rfl) ?_
          refine lv_iload hx hb dX11_helped_46 (lv_at hl 4 rfl) ?_
          refine k_vi (wr := [(a_t, ob 11 (vmx 11 d_t w_t) i_t j0), ((d_t 5), ob 9 (vmx 9 d_t_now w_t_now) i0 j0)]) (rest := []) F hA hB (c_Free_helpfulWagons l D k (d_t 9) d_t_free i_t_free a_t_now_line d_t_now_line i_t_now_line d_t_free_row i_t_free_row r_t_now_line_halts r_t_now_line_first r_t_free_row_kinds r_t_free_row_longs r_t_free_row_weights r_t_free_row_strengths r_t_free_row_wears r_t_free_row_pushes r_t_free_row_helpers r_t_now_line_kinds r_t_now_line_grades r_t_free_row_bears n1 n2 n3 n4 _  hf) ml_RX11_283 mv_yX0_helpfulWagons [3, 2, 4, 5, 6, 7, 8, 9, 10, 11, 12, 13, 14, 15, 16] [0, 1] rfl rfl (by decide) (by decide) (by decide) 3 rfl rfl rfl hl.1 rfl (Nat.le_of_ble_eq_true rfl) ⟨Nat.le_of_ble_eq_true rfl, Nat.le_of_ble_eq_true rfl⟩ ⟨Nat.le_of_ble_eq_true rfl, Nat.le_of_ble_eq_true rfl⟩ dX11_helped_48 (fun z_14 w1 H locs hq hB => ?_)
          obtain ⟨i_t_free_row_5, r_t_free_row_kinds_6, r_t_free_row_longs_7, r_t_free_row_weights_8, r_t_free_row_strengths_9, r_t_free_row_wears_10, r_t_free_row_pushes_11, r_t_free_row_helpers_12, r_t_free_row_bears_13, rfl, hf⟩ := hq
          replace hB : Bd D A s.heap (wd_LongTrain_helped k a_t d_t w_t i_t d_t_now w_t_now a_t_now_line d_t_now_line i_t_now_line d_t_free i_t_free d_t_free_row i_t_free_row_5 r_t_now_line_halts r_t_now_line_first r_t_free_row_kinds_6 r_t_free_row_longs_7 r_t_free_row_weights_8 r_t_free_row_strengths_9 r_t_free_row_wears_10 r_t_free_row_pushes_11 r_t_free_row_helpers_12 r_t_now_line_kinds r_t_now_line_grades r_t_free_row_bears_13) H locs := hB.sub [0, 1, 3, 2, 4, 5, 6, 7, 8, 9, 10, 11, 12, 13, 14, 15, 16] (by decide) rfl
          exact r_i F hr hlk hB ⟨_, _, _, _, _, _, _, _, _, rfl, hf⟩ dX11_helped_51
        · replace hf := hf.2 c_15
          refine lv_iconst (v := -1) hx hb dX11_helped_30 (by decide) ?_
          exact r_i F hr hlk hB ⟨_, _, _, _, _, _, _, _, _, rfl, hf⟩ dX11_helped_31

/-! LongTrain.lives -/
set_option maxRecDepth 100000 in
set_option maxHeartbeats 4000000 in
theorem c_LongTrain_lives (l : Launch) (D : va_G) (k : Nat → ClassId) (a_t : Nat) (d_t : Nat → Nat) (w_t : Nat → Value) (i_t : Nat → Int32) (d_t_life : Nat → Nat) (i_t_life : Nat → Int32) (d_t_now : Nat → Nat) (w_t_now : Nat → Value) (a_t_now_line : Nat) (d_t_now_line : Nat → Nat) (i_t_now_line : Nat → Int32) (o_t_life_rows : Nat → Option Nat) (a_t_life_rows_0 : Nat) (d_t_life_rows_0 : Nat → Nat) (i_t_life_rows_0 : Nat → Int32) (r_t_now_line_halts : Nat → Int32) (r_t_now_line_first : Nat → Int32) (r_t_life_rows_0_kinds : Nat → Int32) (r_t_life_rows_0_longs : Nat → Int32) (r_t_life_rows_0_weights : Nat → Int32) (r_t_life_rows_0_strengths : Nat → Int32) (r_t_life_rows_0_wears : Nat → Int32) (r_t_life_rows_0_pushes : Nat → Int32) (r_t_life_rows_0_helpers : Nat → Int32) (r_t_now_line_kinds : Nat → Int32) (r_t_now_line_grades : Nat → Int32) (r_t_life_rows_0_bears : Nat → Int32) (n1 : Int32) (Q : Int32 → (Nat → Int32) → (Nat → Int32) → (Nat → Int32) → (Nat → Int32) → (Nat → Int32) → (Nat → Int32) → (Nat → Int32) → (Nat → Int32) → (Nat → Int32) → Prop) (hw_t_now_line : w_t_now 0 = .ref a_t_now_line) (ho_t_life_rows_0 : o_t_life_rows 0 = some a_t_life_rows_0) (hf : w_LongTrain_lives i_t_now_line i_t_life_rows_0 r_t_now_line_halts r_t_now_line_first r_t_life_rows_0_kinds r_t_life_rows_0_longs r_t_life_rows_0_weights r_t_life_rows_0_strengths r_t_life_rows_0_wears r_t_life_rows_0_pushes r_t_life_rows_0_helpers r_t_now_line_kinds r_t_now_line_grades r_t_life_rows_0_bears n1 Q) : CtI l yX11_lives cX11_lives 2 (some .int) 5 115 0 0 D k [.ref a_t, .int n1] (wd_LongTrain_lives k a_t d_t w_t i_t d_t_life i_t_life d_t_now w_t_now a_t_now_line d_t_now_line i_t_now_line o_t_life_rows a_t_life_rows_0 d_t_life_rows_0 i_t_life_rows_0 r_t_now_line_halts r_t_now_line_first r_t_life_rows_0_kinds r_t_life_rows_0_longs r_t_life_rows_0_weights r_t_life_rows_0_strengths r_t_life_rows_0_wears r_t_life_rows_0_pushes r_t_life_rows_0_helpers r_t_now_line_kinds r_t_now_line_grades r_t_life_rows_0_bears) (fun r w => ∃ (i_t_life_rows_0 : Nat → Int32), ∃ (r_t_life_rows_0_kinds : Nat → Int32), ∃ (r_t_life_rows_0_longs : Nat → Int32), ∃ (r_t_life_rows_0_weights : Nat → Int32), ∃ (r_t_life_rows_0_strengths : Nat → Int32), ∃ (r_t_life_rows_0_wears : Nat → Int32), ∃ (r_t_life_rows_0_pushes : Nat → Int32), ∃ (r_t_life_rows_0_helpers : Nat → Int32), ∃ (r_t_life_rows_0_bears : Nat → Int32), w = (wd_LongTrain_lives k a_t d_t w_t i_t d_t_life i_t_life d_t_now w_t_now a_t_now_line d_t_now_line i_t_now_line o_t_life_rows a_t_life_rows_0 d_t_life_rows_0 i_t_life_rows_0 r_t_now_line_halts r_t_now_line_first r_t_life_rows_0_kinds r_t_life_rows_0_longs r_t_life_rows_0_weights r_t_life_rows_0_strengths r_t_life_rows_0_wears r_t_life_rows_0_pushes r_t_life_rows_0_helpers r_t_now_line_kinds r_t_now_line_grades r_t_life_rows_0_bears) ∧ Q r i_t_life_rows_0 r_t_life_rows_0_kinds r_t_life_rows_0_longs r_t_life_rows_0_weights r_t_life_rows_0_strengths r_t_life_rows_0_wears r_t_life_rows_0_pushes r_t_life_rows_0_helpers r_t_life_rows_0_bears) := by
  refine CtI.of (by decide) (Nat.le_of_ble_eq_true rfl) ?_
  intro p e s m below meth c A F hr hlk hnm hA hB ls hl
  have hx := F.x
  have hb := F.b
  unfold w_LongTrain_lives at hf
  replace hl : lv_has ls 2 [(0, .ref a_t), (1, .int n1)] := hl
  refine lv_iload_n hx hb dX11_lives_0 rfl (lv_at hl 1 rfl) ?_
  refine lv_if_lt (tgt := 9) hx hb dX11_lives_1 (by decide) (fun c_12 => ?_) (fun c_12 => ?_)
  · replace hf := hf.1 c_12
    refine lv_iconst (v := -1) hx hb dX11_lives_9 (by decide) ?_
    refine lv_goto (tgt := 28) hx hb dX11_lives_10 (by decide) ?_
    exact r_i F hr hlk hB ⟨_, _, _, _, _, _, _, _, _, rfl, hf⟩ dX11_lives_28
  · replace hf := hf.2 c_12
    refine lv_iload_n hx hb dX11_lives_4 rfl (lv_at hl 1 rfl) ?_
    refine lv_iconst (v := 2) hx hb dX11_lives_5 (by decide) ?_
    refine lv_icmp_le (tgt := 13) hx hb dX11_lives_6 (by decide) (fun c_11 => ?_) (fun c_11 => ?_)
    · replace hf := hf.1 c_11
      refine lv_aload_n hx hb dX11_lives_13 rfl (lv_at hl 0 rfl) ?_
      refine g_get (w := .ref (d_t 10)) F hB 0 rfl fl_RX11_62 rfl dX11_lives_14 ?_
      refine lv_iload_n hx hb dX11_lives_17 rfl (lv_at hl 1 rfl) ?_
      refine lv_aload_n hx hb dX11_lives_18 rfl (lv_at hl 0 rfl) ?_
      refine g_get (w := .ref (d_t 5)) F hB 0 rfl fl_RX11_30 rfl dX11_lives_19 ?_
      refine g_get (w := .ref a_t_now_line) F hB 2 rfl fl_RX11_105 hw_t_now_line dX11_lives_22 ?_
      refine k_vi (wr := [(a_t, ob 11 (vmx 11 d_t w_t) i_t j0), ((d_t 5), ob 9 (vmx 9 d_t_now w_t_now) i0 j0)]) (rest := []) F hA hB (c_Lives_haltsBy l D k (d_t 10) d_t_life i_t_life a_t_now_line d_t_now_line i_t_now_line o_t_life_rows a_t_life_rows_0 d_t_life_rows_0 i_t_life_rows_0 r_t_now_line_halts r_t_now_line_first r_t_life_rows_0_kinds r_t_life_rows_0_longs r_t_life_rows_0_weights r_t_life_rows_0_strengths r_t_life_rows_0_wears r_t_life_rows_0_pushes r_t_life_rows_0_helpers r_t_now_line_kinds r_t_now_line_grades r_t_life_rows_0_bears n1 _ ho_t_life_rows_0 hf) ml_RX11_287 mv_yX5_haltsBy [1, 3, 4, 5, 6, 7, 8, 9, 10, 11, 12, 13, 14, 15, 16, 17] [0, 2] rfl rfl (by decide) (by decide) (by decide) 1 rfl rfl rfl hl.1 rfl (Nat.le_of_ble_eq_true rfl) ⟨Nat.le_of_ble_eq_true rfl, Nat.le_of_ble_eq_true rfl⟩ ⟨Nat.le_of_ble_eq_true rfl, Nat.le_of_ble_eq_true rfl⟩ dX11_lives_25 (fun z_10 w1 H locs hq hB => ?_)
      obtain ⟨i_t_life_rows_0_1, r_t_life_rows_0_kinds_2, r_t_life_rows_0_longs_3, r_t_life_rows_0_weights_4, r_t_life_rows_0_strengths_5, r_t_life_rows_0_wears_6, r_t_life_rows_0_pushes_7, r_t_life_rows_0_helpers_8, r_t_life_rows_0_bears_9, rfl, hf⟩ := hq
      replace hB : Bd D A s.heap (wd_LongTrain_lives k a_t d_t w_t i_t d_t_life i_t_life d_t_now w_t_now a_t_now_line d_t_now_line i_t_now_line o_t_life_rows a_t_life_rows_0 d_t_life_rows_0 i_t_life_rows_0_1 r_t_now_line_halts r_t_now_line_first r_t_life_rows_0_kinds_2 r_t_life_rows_0_longs_3 r_t_life_rows_0_weights_4 r_t_life_rows_0_strengths_5 r_t_life_rows_0_wears_6 r_t_life_rows_0_pushes_7 r_t_life_rows_0_helpers_8 r_t_now_line_kinds r_t_now_line_grades r_t_life_rows_0_bears_9) H locs := hB.sub [0, 2, 1, 3, 4, 5, 6, 7, 8, 9, 10, 11, 12, 13, 14, 15, 16, 17] (by decide) rfl
      exact r_i F hr hlk hB ⟨_, _, _, _, _, _, _, _, _, rfl, hf⟩ dX11_lives_28
    · replace hf := hf.2 c_11
      refine lv_iconst (v := -1) hx hb dX11_lives_9 (by decide) ?_
      refine lv_goto (tgt := 28) hx hb dX11_lives_10 (by decide) ?_
      exact r_i F hr hlk hB ⟨_, _, _, _, _, _, _, _, _, rfl, hf⟩ dX11_lives_28

/-! LongTrain.longest -/
set_option maxRecDepth 100000 in
set_option maxHeartbeats 4000000 in
theorem c_LongTrain_longest (l : Launch) (D : va_G) (k : Nat → ClassId) (a_t : Nat) (d_t : Nat → Nat) (w_t : Nat → Value) (i_t : Nat → Int32) (d_t_life : Nat → Nat) (i_t_life : Nat → Int32) (d_t_now : Nat → Nat) (w_t_now : Nat → Value) (a_t_now_line : Nat) (d_t_now_line : Nat → Nat) (i_t_now_line : Nat → Int32) (r_t_now_line_halts : Nat → Int32) (r_t_life_gradeSums : Nat → Int32) (o_t_life_rows : Nat → Option Nat) (r_t_now_line_grades : Nat → Int32) (a_t_life_rows_0 : Nat) (d_t_life_rows_0 : Nat → Nat) (i_t_life_rows_0 : Nat → Int32) (r_t_now_line_first : Nat → Int32) (r_t_life_rows_0_kinds : Nat → Int32) (r_t_life_rows_0_longs : Nat → Int32) (r_t_life_rows_0_weights : Nat → Int32) (r_t_life_rows_0_strengths : Nat → Int32) (r_t_life_rows_0_wears : Nat → Int32) (r_t_life_rows_0_pushes : Nat → Int32) (r_t_life_rows_0_helpers : Nat → Int32) (r_t_now_line_kinds : Nat → Int32) (d_t_life_ahead : Nat → Nat) (i_t_life_ahead : Nat → Int32) (r_t_life_ahead_kinds : Nat → Int32) (r_t_life_ahead_longs : Nat → Int32) (r_t_life_ahead_weights : Nat → Int32) (r_t_life_ahead_strengths : Nat → Int32) (r_t_life_ahead_wears : Nat → Int32) (r_t_life_ahead_pushes : Nat → Int32) (r_t_life_ahead_helpers : Nat → Int32) (r_t_life_since : Nat → Int32) (r_t_life_ahead_bears : Nat → Int32) (r_t_life_rows_0_bears : Nat → Int32) (r_t_life_places : Nat → Int32) (r_t_life_bestPlaces : Nat → Int32) (a_t_life_rows_1 : Nat) (d_t_life_rows_1 : Nat → Nat) (i_t_life_rows_1 : Nat → Int32) (r_t_life_rows_1_kinds : Nat → Int32) (r_t_life_rows_1_longs : Nat → Int32) (r_t_life_rows_1_weights : Nat → Int32) (r_t_life_rows_1_strengths : Nat → Int32) (r_t_life_rows_1_wears : Nat → Int32) (r_t_life_rows_1_pushes : Nat → Int32) (r_t_life_rows_1_helpers : Nat → Int32) (r_t_life_rows_1_bears : Nat → Int32) (a_t_life_rows_2 : Nat) (d_t_life_rows_2 : Nat → Nat) (i_t_life_rows_2 : Nat → Int32) (r_t_life_rows_2_kinds : Nat → Int32) (r_t_life_rows_2_longs : Nat → Int32) (r_t_life_rows_2_weights : Nat → Int32) (r_t_life_rows_2_strengths : Nat → Int32) (r_t_life_rows_2_wears : Nat → Int32) (r_t_life_rows_2_pushes : Nat → Int32) (r_t_life_rows_2_helpers : Nat → Int32) (r_t_life_rows_2_bears : Nat → Int32) (a_t_life_rows_3 : Nat) (d_t_life_rows_3 : Nat → Nat) (i_t_life_rows_3 : Nat → Int32) (r_t_life_rows_3_kinds : Nat → Int32) (r_t_life_rows_3_longs : Nat → Int32) (r_t_life_rows_3_weights : Nat → Int32) (r_t_life_rows_3_strengths : Nat → Int32) (r_t_life_rows_3_wears : Nat → Int32) (r_t_life_rows_3_pushes : Nat → Int32) (r_t_life_rows_3_helpers : Nat → Int32) (r_t_life_rows_3_bears : Nat → Int32) (a_t_life_rows_4 : Nat) (d_t_life_rows_4 : Nat → Nat) (i_t_life_rows_4 : Nat → Int32) (r_t_life_rows_4_kinds : Nat → Int32) (r_t_life_rows_4_longs : Nat → Int32) (r_t_life_rows_4_weights : Nat → Int32) (r_t_life_rows_4_strengths : Nat → Int32) (r_t_life_rows_4_wears : Nat → Int32) (r_t_life_rows_4_pushes : Nat → Int32) (r_t_life_rows_4_helpers : Nat → Int32) (r_t_life_rows_4_bears : Nat → Int32)  (Q : Int32 → (Nat → Int32) → (Nat → Int32) → (Nat → Int32) → (Nat → Int32) → (Nat → Int32) → (Nat → Int32) → (Nat → Int32) → (Nat → Int32) → (Nat → Int32) → (Nat → Int32) → (Nat → Int32) → (Nat → Int32) → (Nat → Int32) → (Nat → Int32) → (Nat → Int32) → (Nat → Int32) → (Nat → Int32) → (Nat → Int32) → (Nat → Int32) → (Nat → Int32) → (Nat → Int32) → (Nat → Int32) → (Nat → Int32) → (Nat → Int32) → (Nat → Int32) → (Nat → Int32) → (Nat → Int32) → (Nat → Int32) → (Nat → Int32) → (Nat → Int32) → (Nat → Int32) → (Nat → Int32) → (Nat → Int32) → (Nat → Int32) → (Nat → Int32) → (Nat → Int32) → (Nat → Int32) → (Nat → Int32) → (Nat → Int32) → (Nat → Int32) → (Nat → Int32) → (Nat → Int32) → (Nat → Int32) → (Nat → Int32) → (Nat → Int32) → (Nat → Int32) → (Nat → Int32) → (Nat → Int32) → (Nat → Int32) → (Nat → Int32) → (Nat → Int32) → (Nat → Int32) → (Nat → Int32) → (Nat → Int32) → (Nat → Int32) → (Nat → Int32) → (Nat → Int32) → (Nat → Int32) → (Nat → Int32) → Prop) (hw_t_now_line : w_t_now 0 = .ref a_t_now_line) (ho_t_life_rows_0 : o_t_life_rows 0 = some a_t_life_rows_0) (ho_t_life_rows_1 : o_t_life_rows 1 = some a_t_life_rows_1) (ho_t_life_rows_2 : o_t_life_rows 2 = some a_t_life_rows_2) (ho_t_life_rows_3 : o_t_life_rows 3 = some a_t_life_rows_3) (ho_t_life_rows_4 : o_t_life_rows 4 = some a_t_life_rows_4) (hf : w_LongTrain_longest i_t_life i_t_now_line r_t_now_line_halts r_t_life_gradeSums r_t_now_line_grades i_t_life_rows_0 r_t_now_line_first r_t_life_rows_0_kinds r_t_life_rows_0_longs r_t_life_rows_0_weights r_t_life_rows_0_strengths r_t_life_rows_0_wears r_t_life_rows_0_pushes r_t_life_rows_0_helpers r_t_now_line_kinds i_t_life_ahead r_t_life_ahead_kinds r_t_life_ahead_longs r_t_life_ahead_weights r_t_life_ahead_strengths r_t_life_ahead_wears r_t_life_ahead_pushes r_t_life_ahead_helpers r_t_life_since r_t_life_ahead_bears r_t_life_rows_0_bears r_t_life_places r_t_life_bestPlaces i_t_life_rows_1 r_t_life_rows_1_kinds r_t_life_rows_1_longs r_t_life_rows_1_weights r_t_life_rows_1_strengths r_t_life_rows_1_wears r_t_life_rows_1_pushes r_t_life_rows_1_helpers r_t_life_rows_1_bears i_t_life_rows_2 r_t_life_rows_2_kinds r_t_life_rows_2_longs r_t_life_rows_2_weights r_t_life_rows_2_strengths r_t_life_rows_2_wears r_t_life_rows_2_pushes r_t_life_rows_2_helpers r_t_life_rows_2_bears i_t_life_rows_3 r_t_life_rows_3_kinds r_t_life_rows_3_longs r_t_life_rows_3_weights r_t_life_rows_3_strengths r_t_life_rows_3_wears r_t_life_rows_3_pushes r_t_life_rows_3_helpers r_t_life_rows_3_bears i_t_life_rows_4 r_t_life_rows_4_kinds r_t_life_rows_4_longs r_t_life_rows_4_weights r_t_life_rows_4_strengths r_t_life_rows_4_wears r_t_life_rows_4_pushes r_t_life_rows_4_helpers r_t_life_rows_4_bears Q) : CtI l yX11_longest cX11_longest 1 (some .int) 15 374 0 0 D k [.ref a_t] (wd_LongTrain_longest k a_t d_t w_t i_t d_t_life i_t_life d_t_now w_t_now a_t_now_line d_t_now_line i_t_now_line r_t_now_line_halts r_t_life_gradeSums o_t_life_rows r_t_now_line_grades a_t_life_rows_0 d_t_life_rows_0 i_t_life_rows_0 r_t_now_line_first r_t_life_rows_0_kinds r_t_life_rows_0_longs r_t_life_rows_0_weights r_t_life_rows_0_strengths r_t_life_rows_0_wears r_t_life_rows_0_pushes r_t_life_rows_0_helpers r_t_now_line_kinds d_t_life_ahead i_t_life_ahead r_t_life_ahead_kinds r_t_life_ahead_longs r_t_life_ahead_weights r_t_life_ahead_strengths r_t_life_ahead_wears r_t_life_ahead_pushes r_t_life_ahead_helpers r_t_life_since r_t_life_ahead_bears r_t_life_rows_0_bears r_t_life_places r_t_life_bestPlaces a_t_life_rows_1 d_t_life_rows_1 i_t_life_rows_1 r_t_life_rows_1_kinds r_t_life_rows_1_longs r_t_life_rows_1_weights r_t_life_rows_1_strengths r_t_life_rows_1_wears r_t_life_rows_1_pushes r_t_life_rows_1_helpers r_t_life_rows_1_bears a_t_life_rows_2 d_t_life_rows_2 i_t_life_rows_2 r_t_life_rows_2_kinds r_t_life_rows_2_longs r_t_life_rows_2_weights r_t_life_rows_2_strengths r_t_life_rows_2_wears r_t_life_rows_2_pushes r_t_life_rows_2_helpers r_t_life_rows_2_bears a_t_life_rows_3 d_t_life_rows_3 i_t_life_rows_3 r_t_life_rows_3_kinds r_t_life_rows_3_longs r_t_life_rows_3_weights r_t_life_rows_3_strengths r_t_life_rows_3_wears r_t_life_rows_3_pushes r_t_life_rows_3_helpers r_t_life_rows_3_bears a_t_life_rows_4 d_t_life_rows_4 i_t_life_rows_4 r_t_life_rows_4_kinds r_t_life_rows_4_longs r_t_life_rows_4_weights r_t_life_rows_4_strengths r_t_life_rows_4_wears r_t_life_rows_4_pushes r_t_life_rows_4_helpers r_t_life_rows_4_bears) (fun r w => ∃ (i_t_life : Nat → Int32), ∃ (r_t_life_gradeSums : Nat → Int32), ∃ (i_t_life_rows_0 : Nat → Int32), ∃ (r_t_life_rows_0_kinds : Nat → Int32), ∃ (r_t_life_rows_0_longs : Nat → Int32), ∃ (r_t_life_rows_0_weights : Nat → Int32), ∃ (r_t_life_rows_0_strengths : Nat → Int32), ∃ (r_t_life_rows_0_wears : Nat → Int32), ∃ (r_t_life_rows_0_pushes : Nat → Int32), ∃ (r_t_life_rows_0_helpers : Nat → Int32), ∃ (i_t_life_ahead : Nat → Int32), ∃ (r_t_life_ahead_kinds : Nat → Int32), ∃ (r_t_life_ahead_longs : Nat → Int32), ∃ (r_t_life_ahead_weights : Nat → Int32), ∃ (r_t_life_ahead_strengths : Nat → Int32), ∃ (r_t_life_ahead_wears : Nat → Int32), ∃ (r_t_life_ahead_pushes : Nat → Int32), ∃ (r_t_life_ahead_helpers : Nat → Int32), ∃ (r_t_life_since : Nat → Int32), ∃ (r_t_life_ahead_bears : Nat → Int32), ∃ (r_t_life_rows_0_bears : Nat → Int32), ∃ (r_t_life_places : Nat → Int32), ∃ (r_t_life_bestPlaces : Nat → Int32), ∃ (i_t_life_rows_1 : Nat → Int32), ∃ (r_t_life_rows_1_kinds : Nat → Int32), ∃ (r_t_life_rows_1_longs : Nat → Int32), ∃ (r_t_life_rows_1_weights : Nat → Int32), ∃ (r_t_life_rows_1_strengths : Nat → Int32), ∃ (r_t_life_rows_1_wears : Nat → Int32), ∃ (r_t_life_rows_1_pushes : Nat → Int32), ∃ (r_t_life_rows_1_helpers : Nat → Int32), ∃ (r_t_life_rows_1_bears : Nat → Int32), ∃ (i_t_life_rows_2 : Nat → Int32), ∃ (r_t_life_rows_2_kinds : Nat → Int32), ∃ (r_t_life_rows_2_longs : Nat → Int32), ∃ (r_t_life_rows_2_weights : Nat → Int32), ∃ (r_t_life_rows_2_strengths : Nat → Int32), ∃ (r_t_life_rows_2_wears : Nat → Int32), ∃ (r_t_life_rows_2_pushes : Nat → Int32), ∃ (r_t_life_rows_2_helpers : Nat → Int32), ∃ (r_t_life_rows_2_bears : Nat → Int32), ∃ (i_t_life_rows_3 : Nat → Int32), ∃ (r_t_life_rows_3_kinds : Nat → Int32), ∃ (r_t_life_rows_3_longs : Nat → Int32), ∃ (r_t_life_rows_3_weights : Nat → Int32), ∃ (r_t_life_rows_3_strengths : Nat → Int32), ∃ (r_t_life_rows_3_wears : Nat → Int32), ∃ (r_t_life_rows_3_pushes : Nat → Int32), ∃ (r_t_life_rows_3_helpers : Nat → Int32), ∃ (r_t_life_rows_3_bears : Nat → Int32), ∃ (i_t_life_rows_4 : Nat → Int32), ∃ (r_t_life_rows_4_kinds : Nat → Int32), ∃ (r_t_life_rows_4_longs : Nat → Int32), ∃ (r_t_life_rows_4_weights : Nat → Int32), ∃ (r_t_life_rows_4_strengths : Nat → Int32), ∃ (r_t_life_rows_4_wears : Nat → Int32), ∃ (r_t_life_rows_4_pushes : Nat → Int32), ∃ (r_t_life_rows_4_helpers : Nat → Int32), ∃ (r_t_life_rows_4_bears : Nat → Int32), w = (wd_LongTrain_longest k a_t d_t w_t i_t d_t_life i_t_life d_t_now w_t_now a_t_now_line d_t_now_line i_t_now_line r_t_now_line_halts r_t_life_gradeSums o_t_life_rows r_t_now_line_grades a_t_life_rows_0 d_t_life_rows_0 i_t_life_rows_0 r_t_now_line_first r_t_life_rows_0_kinds r_t_life_rows_0_longs r_t_life_rows_0_weights r_t_life_rows_0_strengths r_t_life_rows_0_wears r_t_life_rows_0_pushes r_t_life_rows_0_helpers r_t_now_line_kinds d_t_life_ahead i_t_life_ahead r_t_life_ahead_kinds r_t_life_ahead_longs r_t_life_ahead_weights r_t_life_ahead_strengths r_t_life_ahead_wears r_t_life_ahead_pushes r_t_life_ahead_helpers r_t_life_since r_t_life_ahead_bears r_t_life_rows_0_bears r_t_life_places r_t_life_bestPlaces a_t_life_rows_1 d_t_life_rows_1 i_t_life_rows_1 r_t_life_rows_1_kinds r_t_life_rows_1_longs r_t_life_rows_1_weights r_t_life_rows_1_strengths r_t_life_rows_1_wears r_t_life_rows_1_pushes r_t_life_rows_1_helpers r_t_life_rows_1_bears a_t_life_rows_2 d_t_life_rows_2 i_t_life_rows_2 r_t_life_rows_2_kinds r_t_life_rows_2_longs r_t_life_rows_2_weights r_t_life_rows_2_strengths r_t_life_rows_2_wears r_t_life_rows_2_pushes r_t_life_rows_2_helpers r_t_life_rows_2_bears a_t_life_rows_3 d_t_life_rows_3 i_t_life_rows_3 r_t_life_rows_3_kinds r_t_life_rows_3_longs r_t_life_rows_3_weights r_t_life_rows_3_strengths r_t_life_rows_3_wears r_t_life_rows_3_pushes r_t_life_rows_3_helpers r_t_life_rows_3_bears a_t_life_rows_4 d_t_life_rows_4 i_t_life_rows_4 r_t_life_rows_4_kinds r_t_life_rows_4_longs r_t_life_rows_4_weights r_t_life_rows_4_strengths r_t_life_rows_4_wears r_t_life_rows_4_pushes r_t_life_rows_4_helpers r_t_life_rows_4_bears) ∧ Q r i_t_life r_t_life_gradeSums i_t_life_rows_0 r_t_life_rows_0_kinds r_t_life_rows_0_longs r_t_life_rows_0_weights r_t_life_rows_0_strengths r_t_life_rows_0_wears r_t_life_rows_0_pushes r_t_life_rows_0_helpers i_t_life_ahead r_t_life_ahead_kinds r_t_life_ahead_longs r_t_life_ahead_weights r_t_life_ahead_strengths r_t_life_ahead_wears r_t_life_ahead_pushes r_t_life_ahead_helpers r_t_life_since r_t_life_ahead_bears r_t_life_rows_0_bears r_t_life_places r_t_life_bestPlaces i_t_life_rows_1 r_t_life_rows_1_kinds r_t_life_rows_1_longs r_t_life_rows_1_weights r_t_life_rows_1_strengths r_t_life_rows_1_wears r_t_life_rows_1_pushes r_t_life_rows_1_helpers r_t_life_rows_1_bears i_t_life_rows_2 r_t_life_rows_2_kinds r_t_life_rows_2_longs r_t_life_rows_2_weights r_t_life_rows_2_strengths r_t_life_rows_2_wears r_t_life_rows_2_pushes r_t_life_rows_2_helpers r_t_life_rows_2_bears i_t_life_rows_3 r_t_life_rows_3_kinds r_t_life_rows_3_longs r_t_life_rows_3_weights r_t_life_rows_3_strengths r_t_life_rows_3_wears r_t_life_rows_3_pushes r_t_life_rows_3_helpers r_t_life_rows_3_bears i_t_life_rows_4 r_t_life_rows_4_kinds r_t_life_rows_4_longs r_t_life_rows_4_weights r_t_life_rows_4_strengths r_t_life_rows_4_wears r_t_life_rows_4_pushes r_t_life_rows_4_helpers r_t_life_rows_4_bears) := by
  refine CtI.of (by decide) (Nat.le_of_ble_eq_true rfl) ?_
  intro p e s m below meth c A F hr hlk hnm hA hB ls hl
  have hx := F.x
  have hb := F.b
  unfold w_LongTrain_longest at hf
  replace hl : lv_has ls 1 [(0, .ref a_t)] := hl
  refine lv_aload_n hx hb dX11_longest_0 rfl (lv_at hl 0 rfl) ?_
  refine g_get (w := .ref (d_t 10)) F hB 0 rfl fl_RX11_62 rfl dX11_longest_1 ?_
  refine lv_aload_n hx hb dX11_longest_4 rfl (lv_at hl 0 rfl) ?_
  refine g_get (w := .ref (d_t 5)) F hB 0 rfl fl_RX11_30 rfl dX11_longest_5 ?_
  refine g_get (w := .ref a_t_now_line) F hB 2 rfl fl_RX11_105 hw_t_now_line dX11_longest_8 ?_
  refine k_vi (wr := [(a_t, ob 11 (vmx 11 d_t w_t) i_t j0), ((d_t 5), ob 9 (vmx 9 d_t_now w_t_now) i0 j0)]) (rest := []) F hA hB (c_Lives_findPlaces l D k (d_t 10) d_t_life i_t_life a_t_now_line d_t_now_line i_t_now_line r_t_now_line_halts r_t_life_gradeSums o_t_life_rows r_t_now_line_grades a_t_life_rows_0 d_t_life_rows_0 i_t_life_rows_0 r_t_now_line_first r_t_life_rows_0_kinds r_t_life_rows_0_longs r_t_life_rows_0_weights r_t_life_rows_0_strengths r_t_life_rows_0_wears r_t_life_rows_0_pushes r_t_life_rows_0_helpers r_t_now_line_kinds d_t_life_ahead i_t_life_ahead r_t_life_ahead_kinds r_t_life_ahead_longs r_t_life_ahead_weights r_t_life_ahead_strengths r_t_life_ahead_wears r_t_life_ahead_pushes r_t_life_ahead_helpers r_t_life_since r_t_life_ahead_bears r_t_life_rows_0_bears r_t_life_places r_t_life_bestPlaces a_t_life_rows_1 d_t_life_rows_1 i_t_life_rows_1 r_t_life_rows_1_kinds r_t_life_rows_1_longs r_t_life_rows_1_weights r_t_life_rows_1_strengths r_t_life_rows_1_wears r_t_life_rows_1_pushes r_t_life_rows_1_helpers r_t_life_rows_1_bears a_t_life_rows_2 d_t_life_rows_2 i_t_life_rows_2 r_t_life_rows_2_kinds r_t_life_rows_2_longs r_t_life_rows_2_weights r_t_life_rows_2_strengths r_t_life_rows_2_wears r_t_life_rows_2_pushes r_t_life_rows_2_helpers r_t_life_rows_2_bears a_t_life_rows_3 d_t_life_rows_3 i_t_life_rows_3 r_t_life_rows_3_kinds r_t_life_rows_3_longs r_t_life_rows_3_weights r_t_life_rows_3_strengths r_t_life_rows_3_wears r_t_life_rows_3_pushes r_t_life_rows_3_helpers r_t_life_rows_3_bears a_t_life_rows_4 d_t_life_rows_4 i_t_life_rows_4 r_t_life_rows_4_kinds r_t_life_rows_4_longs r_t_life_rows_4_weights r_t_life_rows_4_strengths r_t_life_rows_4_wears r_t_life_rows_4_pushes r_t_life_rows_4_helpers r_t_life_rows_4_bears _ ho_t_life_rows_0 ho_t_life_rows_1 ho_t_life_rows_2 ho_t_life_rows_3 ho_t_life_rows_4 hf) ml_RX11_290 mv_yX5_findPlaces [1, 3, 4, 5, 6, 7, 8, 9, 10, 11, 12, 13, 14, 15, 16, 17, 18, 19, 20, 21, 22, 23, 24, 25, 26, 27, 28, 29, 30, 31, 32, 33, 34, 35, 36, 37, 38, 39, 40, 41, 42, 43, 44, 45, 46, 47, 48, 49, 50, 51, 52, 53, 54, 55, 56, 57, 58, 59, 60, 61, 62, 63, 64, 65, 66] [0, 2] rfl rfl (by decide) (by decide) (by decide) 1 rfl rfl rfl hl.1 rfl (Nat.le_of_ble_eq_true rfl) ⟨Nat.le_of_ble_eq_true rfl, Nat.le_of_ble_eq_true rfl⟩ ⟨Nat.le_of_ble_eq_true rfl, Nat.le_of_ble_eq_true rfl⟩ dX11_longest_11 (fun z_60 w1 H locs hq hB => ?_)
  obtain ⟨i_t_life_1, r_t_life_gradeSums_2, i_t_life_rows_0_3, r_t_life_rows_0_kinds_4, r_t_life_rows_0_longs_5, r_t_life_rows_0_weights_6, r_t_life_rows_0_strengths_7, r_t_life_rows_0_wears_8, r_t_life_rows_0_pushes_9, r_t_life_rows_0_helpers_10, i_t_life_ahead_11, r_t_life_ahead_kinds_12, r_t_life_ahead_longs_13, r_t_life_ahead_weights_14, r_t_life_ahead_strengths_15, r_t_life_ahead_wears_16, r_t_life_ahead_pushes_17, r_t_life_ahead_helpers_18, r_t_life_since_19, r_t_life_ahead_bears_20, r_t_life_rows_0_bears_21, r_t_life_places_22, r_t_life_bestPlaces_23, i_t_life_rows_1_24, r_t_life_rows_1_kinds_25, r_t_life_rows_1_longs_26, r_t_life_rows_1_weights_27, r_t_life_rows_1_strengths_28, r_t_life_rows_1_wears_29, r_t_life_rows_1_pushes_30, r_t_life_rows_1_helpers_31, r_t_life_rows_1_bears_32, i_t_life_rows_2_33, r_t_life_rows_2_kinds_34, r_t_life_rows_2_longs_35, r_t_life_rows_2_weights_36, r_t_life_rows_2_strengths_37, r_t_life_rows_2_wears_38, r_t_life_rows_2_pushes_39, r_t_life_rows_2_helpers_40, r_t_life_rows_2_bears_41, i_t_life_rows_3_42, r_t_life_rows_3_kinds_43, r_t_life_rows_3_longs_44, r_t_life_rows_3_weights_45, r_t_life_rows_3_strengths_46, r_t_life_rows_3_wears_47, r_t_life_rows_3_pushes_48, r_t_life_rows_3_helpers_49, r_t_life_rows_3_bears_50, i_t_life_rows_4_51, r_t_life_rows_4_kinds_52, r_t_life_rows_4_longs_53, r_t_life_rows_4_weights_54, r_t_life_rows_4_strengths_55, r_t_life_rows_4_wears_56, r_t_life_rows_4_pushes_57, r_t_life_rows_4_helpers_58, r_t_life_rows_4_bears_59, rfl, hf⟩ := hq
  replace hB : Bd D A s.heap (wd_LongTrain_longest k a_t d_t w_t i_t d_t_life i_t_life_1 d_t_now w_t_now a_t_now_line d_t_now_line i_t_now_line r_t_now_line_halts r_t_life_gradeSums_2 o_t_life_rows r_t_now_line_grades a_t_life_rows_0 d_t_life_rows_0 i_t_life_rows_0_3 r_t_now_line_first r_t_life_rows_0_kinds_4 r_t_life_rows_0_longs_5 r_t_life_rows_0_weights_6 r_t_life_rows_0_strengths_7 r_t_life_rows_0_wears_8 r_t_life_rows_0_pushes_9 r_t_life_rows_0_helpers_10 r_t_now_line_kinds d_t_life_ahead i_t_life_ahead_11 r_t_life_ahead_kinds_12 r_t_life_ahead_longs_13 r_t_life_ahead_weights_14 r_t_life_ahead_strengths_15 r_t_life_ahead_wears_16 r_t_life_ahead_pushes_17 r_t_life_ahead_helpers_18 r_t_life_since_19 r_t_life_ahead_bears_20 r_t_life_rows_0_bears_21 r_t_life_places_22 r_t_life_bestPlaces_23 a_t_life_rows_1 d_t_life_rows_1 i_t_life_rows_1_24 r_t_life_rows_1_kinds_25 r_t_life_rows_1_longs_26 r_t_life_rows_1_weights_27 r_t_life_rows_1_strengths_28 r_t_life_rows_1_wears_29 r_t_life_rows_1_pushes_30 r_t_life_rows_1_helpers_31 r_t_life_rows_1_bears_32 a_t_life_rows_2 d_t_life_rows_2 i_t_life_rows_2_33 r_t_life_rows_2_kinds_34 r_t_life_rows_2_longs_35 r_t_life_rows_2_weights_36 r_t_life_rows_2_strengths_37 r_t_life_rows_2_wears_38 r_t_life_rows_2_pushes_39 r_t_life_rows_2_helpers_40 r_t_life_rows_2_bears_41 a_t_life_rows_3 d_t_life_rows_3 i_t_life_rows_3_42 r_t_life_rows_3_kinds_43 r_t_life_rows_3_longs_44 r_t_life_rows_3_weights_45 r_t_life_rows_3_strengths_46 r_t_life_rows_3_wears_47 r_t_life_rows_3_pushes_48 r_t_life_rows_3_helpers_49 r_t_life_rows_3_bears_50 a_t_life_rows_4 d_t_life_rows_4 i_t_life_rows_4_51 r_t_life_rows_4_kinds_52 r_t_life_rows_4_longs_53 r_t_life_rows_4_weights_54 r_t_life_rows_4_strengths_55 r_t_life_rows_4_wears_56 r_t_life_rows_4_pushes_57 r_t_life_rows_4_helpers_58 r_t_life_rows_4_bears_59) H locs := hB.sub [0, 2, 1, 3, 4, 5, 6, 7, 8, 9, 10, 11, 12, 13, 14, 15, 16, 17, 18, 19, 20, 21, 22, 23, 24, 25, 26, 27, 28, 29, 30, 31, 32, 33, 34, 35, 36, 37, 38, 39, 40, 41, 42, 43, 44, 45, 46, 47, 48, 49, 50, 51, 52, 53, 54, 55, 56, 57, 58, 59, 60, 61, 62, 63, 64, 65, 66] (by decide) rfl
  exact r_i F hr hlk hB ⟨_, _, _, _, _, _, _, _, _, _, _, _, _, _, _, _, _, _, _, _, _, _, _, _, _, _, _, _, _, _, _, _, _, _, _, _, _, _, _, _, _, _, _, _, _, _, _, _, _, _, _, _, _, _, _, _, _, _, _, rfl, hf⟩ dX11_longest_14

/-! LongTrain.placed -/
set_option maxRecDepth 100000 in
set_option maxHeartbeats 4000000 in
theorem c_LongTrain_placed (l : Launch) (D : va_G) (k : Nat → ClassId) (a_t : Nat) (d_t : Nat → Nat) (w_t : Nat → Value) (i_t : Nat → Int32) (d_t_life : Nat → Nat) (i_t_life : Nat → Int32) (r_t_life_bestPlaces : Nat → Int32) (n1 : Int32) (Q : Int32 → Prop)  (hf : w_LongTrain_placed i_t_life r_t_life_bestPlaces n1 Q) : CtI l yX11_placed cX11_placed 2 (some .int) 0 0 0 0 D k [.ref a_t, .int n1] (wd_LongTrain_placed k a_t d_t w_t i_t d_t_life i_t_life r_t_life_bestPlaces) (fun r w => w = (wd_LongTrain_placed k a_t d_t w_t i_t d_t_life i_t_life r_t_life_bestPlaces) ∧ Q r) := by
  refine CtI.of (by decide) (Nat.le_of_ble_eq_true rfl) ?_
  intro p e s m below meth c A F hr hlk hnm hA hB ls hl
  have hx := F.x
  have hb := F.b
  unfold w_LongTrain_placed at hf
  replace hl : lv_has ls 2 [(0, .ref a_t), (1, .int n1)] := hl
  refine lv_iload_n hx hb dX11_placed_0 rfl (lv_at hl 1 rfl) ?_
  refine lv_if_lt (tgt := 15) hx hb dX11_placed_1 (by decide) (fun c_3 => ?_) (fun c_3 => ?_)
  · replace hf := hf.1 c_3
    refine lv_iconst (v := -1) hx hb dX11_placed_15 (by decide) ?_
    refine lv_goto (tgt := 28) hx hb dX11_placed_16 (by decide) ?_
    exact r_i F hr hlk hB ⟨rfl, hf⟩ dX11_placed_28
  · replace hf := hf.2 c_3
    refine lv_iload_n hx hb dX11_placed_4 rfl (lv_at hl 1 rfl) ?_
    refine lv_aload_n hx hb dX11_placed_5 rfl (lv_at hl 0 rfl) ?_
    refine g_get (w := .ref (d_t 10)) F hB 0 rfl fl_RX11_62 rfl dX11_placed_6 ?_
    refine g_get (w := .int (i_t_life 3)) F hB 1 rfl fl_RX11_293 rfl dX11_placed_9 ?_
    refine lv_icmp_lt (tgt := 19) hx hb dX11_placed_12 (by decide) (fun c_2 => ?_) (fun c_2 => ?_)
    · replace hf := hf.1 c_2
      refine lv_aload_n hx hb dX11_placed_19 rfl (lv_at hl 0 rfl) ?_
      refine g_get (w := .ref (d_t 10)) F hB 0 rfl fl_RX11_62 rfl dX11_placed_20 ?_
      refine g_get (w := .ref (d_t_life 2)) F hB 1 rfl fl_RX11_296 rfl dX11_placed_23 ?_
      refine lv_iload_n hx hb dX11_placed_26 rfl (lv_at hl 1 rfl) ?_
      obtain ⟨h_1, hf⟩ := hf
      refine g_iald F hB 2 rfl h_1 dX11_placed_27 ?_
      exact r_i F hr hlk hB ⟨rfl, hf⟩ dX11_placed_28
    · replace hf := hf.2 c_2
      refine lv_iconst (v := -1) hx hb dX11_placed_15 (by decide) ?_
      refine lv_goto (tgt := 28) hx hb dX11_placed_16 (by decide) ?_
      exact r_i F hr hlk hB ⟨rfl, hf⟩ dX11_placed_28

/-! LongTrain.platform -/
set_option maxRecDepth 100000 in
set_option maxHeartbeats 4000000 in
theorem c_LongTrain_platform (l : Launch) (D : va_G) (k : Nat → ClassId) (a_t : Nat) (d_t : Nat → Nat) (w_t : Nat → Value) (i_t : Nat → Int32) (d_t_now : Nat → Nat) (w_t_now : Nat → Value) (a_t_now_line : Nat) (d_t_now_line : Nat → Nat) (i_t_now_line : Nat → Int32) (d_t_free : Nat → Nat) (i_t_free : Nat → Int32) (d_t_free_row : Nat → Nat) (i_t_free_row : Nat → Int32) (r_t_now_line_halts : Nat → Int32) (r_t_now_line_first : Nat → Int32) (r_t_free_row_kinds : Nat → Int32) (r_t_free_row_longs : Nat → Int32) (r_t_free_row_weights : Nat → Int32) (r_t_free_row_strengths : Nat → Int32) (r_t_free_row_wears : Nat → Int32) (r_t_free_row_pushes : Nat → Int32) (r_t_free_row_helpers : Nat → Int32) (r_t_now_line_kinds : Nat → Int32) (n1 : Int32) (Q : Int32 → (Nat → Int32) → (Nat → Int32) → (Nat → Int32) → (Nat → Int32) → (Nat → Int32) → (Nat → Int32) → (Nat → Int32) → (Nat → Int32) → Prop) (hw_t_now_line : w_t_now 0 = .ref a_t_now_line) (hf : w_LongTrain_platform i_t_now_line i_t_free_row r_t_now_line_halts r_t_now_line_first r_t_free_row_kinds r_t_free_row_longs r_t_free_row_weights r_t_free_row_strengths r_t_free_row_wears r_t_free_row_pushes r_t_free_row_helpers r_t_now_line_kinds n1 Q) : CtI l yX11_platform cX11_platform 2 (some .int) 5 114 0 0 D k [.ref a_t, .int n1] (wd_LongTrain_platform k a_t d_t w_t i_t d_t_now w_t_now a_t_now_line d_t_now_line i_t_now_line d_t_free i_t_free d_t_free_row i_t_free_row r_t_now_line_halts r_t_now_line_first r_t_free_row_kinds r_t_free_row_longs r_t_free_row_weights r_t_free_row_strengths r_t_free_row_wears r_t_free_row_pushes r_t_free_row_helpers r_t_now_line_kinds) (fun r w => ∃ (i_t_free_row : Nat → Int32), ∃ (r_t_free_row_kinds : Nat → Int32), ∃ (r_t_free_row_longs : Nat → Int32), ∃ (r_t_free_row_weights : Nat → Int32), ∃ (r_t_free_row_strengths : Nat → Int32), ∃ (r_t_free_row_wears : Nat → Int32), ∃ (r_t_free_row_pushes : Nat → Int32), ∃ (r_t_free_row_helpers : Nat → Int32), w = (wd_LongTrain_platform k a_t d_t w_t i_t d_t_now w_t_now a_t_now_line d_t_now_line i_t_now_line d_t_free i_t_free d_t_free_row i_t_free_row r_t_now_line_halts r_t_now_line_first r_t_free_row_kinds r_t_free_row_longs r_t_free_row_weights r_t_free_row_strengths r_t_free_row_wears r_t_free_row_pushes r_t_free_row_helpers r_t_now_line_kinds) ∧ Q r i_t_free_row r_t_free_row_kinds r_t_free_row_longs r_t_free_row_weights r_t_free_row_strengths r_t_free_row_wears r_t_free_row_pushes r_t_free_row_helpers) := by
  refine CtI.of (by decide) (Nat.le_of_ble_eq_true rfl) ?_
  intro p e s m below meth c A F hr hlk hnm hA hB ls hl
  have hx := F.x
  have hb := F.b
  unfold w_LongTrain_platform at hf
  replace hl : lv_has ls 2 [(0, .ref a_t), (1, .int n1)] := hl
  refine lv_aload_n hx hb dX11_platform_0 rfl (lv_at hl 0 rfl) ?_
  refine lv_iload_n hx hb dX11_platform_1 rfl (lv_at hl 1 rfl) ?_
  refine k_vi (wr := [((d_t 9), ob 0 (rfd d_t_free) i_t_free j0), ((d_t_free 0), ob 8 (rfd d_t_free_row) i_t_free_row j0), ((d_t_now_line 2), ai k 30 r_t_now_line_halts), ((d_t_now_line 8), ai k 8 r_t_now_line_first), ((d_t_free_row 0), ai k 20 r_t_free_row_kinds), ((d_t_free_row 1), ai k 20 r_t_free_row_longs), ((d_t_free_row 2), ai k 20 r_t_free_row_weights), ((d_t_free_row 3), ai k 20 r_t_free_row_strengths), ((d_t_free_row 4), ai k 20 r_t_free_row_wears), ((d_t_free_row 5), ai k 20 r_t_free_row_pushes), ((d_t_free_row 6), ai k 20 r_t_free_row_helpers), ((d_t_now_line 6), ai k 18 r_t_now_line_kinds)]) (rest := []) F hA hB (c_LongTrain_isHalt l D k a_t d_t w_t i_t d_t_now w_t_now a_t_now_line d_t_now_line i_t_now_line n1 _ hw_t_now_line hf) ml_RX11_131 mv_yX11_isHalt [0, 1, 2] [3, 4, 5, 6, 7, 8, 9, 10, 11, 12, 13, 14] rfl rfl (by decide) (by decide) (by decide) 0 rfl rfl rfl hl.1 rfl (Nat.le_of_ble_eq_true rfl) ⟨Nat.le_of_ble_eq_true rfl, Nat.le_of_ble_eq_true rfl⟩ ⟨Nat.le_of_ble_eq_true rfl, Nat.le_of_ble_eq_true rfl⟩ dX11_platform_2 (fun z_1 w1 H locs hq hB => ?_)
  obtain ⟨h_2, rfl, hf⟩ := hq
  replace hB : Bd D A s.heap (wd_LongTrain_platform k a_t d_t w_t i_t d_t_now w_t_now a_t_now_line d_t_now_line i_t_now_line d_t_free i_t_free d_t_free_row i_t_free_row r_t_now_line_halts r_t_now_line_first r_t_free_row_kinds r_t_free_row_longs r_t_free_row_weights r_t_free_row_strengths r_t_free_row_wears r_t_free_row_pushes r_t_free_row_helpers r_t_now_line_kinds) H locs := hB.sub [12, 13, 14, 0, 1, 2, 3, 4, 5, 6, 7, 8, 9, 10, 11] (by decide) rfl
  refine lv_if_eq (tgt := 30) hx hb dX11_platform_5 (by decide) (fun c_12 => ?_) (fun c_12 => ?_)
  · replace hf := hf.1 c_12
    refine lv_iconst (v := -1) hx hb dX11_platform_30 (by decide) ?_
    exact r_i F hr hlk hB ⟨_, _, _, _, _, _, _, _, rfl, hf⟩ dX11_platform_31
  · replace hf := hf.2 c_12
    refine lv_iconst (v := 1) hx hb dX11_platform_8 (by decide) ?_
    refine lv_aload_n hx hb dX11_platform_9 rfl (lv_at hl 0 rfl) ?_
    refine g_get (w := .ref (d_t 9)) F hB 0 rfl fl_RX11_55 rfl dX11_platform_10 ?_
    refine lv_aload_n hx hb dX11_platform_13 rfl (lv_at hl 0 rfl) ?_
    refine g_get (w := .ref (d_t 5)) F hB 0 rfl fl_RX11_30 rfl dX11_platform_14 ?_
    refine g_get (w := .ref a_t_now_line) F hB 1 rfl fl_RX11_105 hw_t_now_line dX11_platform_17 ?_
    refine lv_iload_n hx hb dX11_platform_20 rfl (lv_at hl 1 rfl) ?_
    refine k_vi (wr := [(a_t, ob 11 (vmx 11 d_t w_t) i_t j0), ((d_t 5), ob 9 (vmx 9 d_t_now w_t_now) i0 j0)]) (rest := [.int (1 : Int32)]) F hA hB (c_Free_wagonsAtPlatform l D k (d_t 9) d_t_free i_t_free a_t_now_line d_t_now_line i_t_now_line d_t_free_row i_t_free_row r_t_now_line_halts r_t_now_line_first r_t_free_row_kinds r_t_free_row_longs r_t_free_row_weights r_t_free_row_strengths r_t_free_row_wears r_t_free_row_pushes r_t_free_row_helpers r_t_now_line_kinds n1 _  hf) ml_RX11_299 mv_yX0_wagonsAtPlatform [3, 2, 4, 5, 6, 7, 8, 9, 10, 11, 12, 13, 14] [0, 1] rfl rfl (by decide) (by decide) (by decide) 3 rfl rfl rfl hl.1 rfl (Nat.le_of_ble_eq_true rfl) ⟨Nat.le_of_ble_eq_true rfl, Nat.le_of_ble_eq_true rfl⟩ ⟨Nat.le_of_ble_eq_true rfl, Nat.le_of_ble_eq_true rfl⟩ dX11_platform_21 (fun z_11 w1 H locs hq hB => ?_)
    obtain ⟨i_t_free_row_3, r_t_free_row_kinds_4, r_t_free_row_longs_5, r_t_free_row_weights_6, r_t_free_row_strengths_7, r_t_free_row_wears_8, r_t_free_row_pushes_9, r_t_free_row_helpers_10, rfl, hf⟩ := hq
    replace hB : Bd D A s.heap (wd_LongTrain_platform k a_t d_t w_t i_t d_t_now w_t_now a_t_now_line d_t_now_line i_t_now_line d_t_free i_t_free d_t_free_row i_t_free_row_3 r_t_now_line_halts r_t_now_line_first r_t_free_row_kinds_4 r_t_free_row_longs_5 r_t_free_row_weights_6 r_t_free_row_strengths_7 r_t_free_row_wears_8 r_t_free_row_pushes_9 r_t_free_row_helpers_10 r_t_now_line_kinds) H locs := hB.sub [0, 1, 3, 2, 4, 5, 6, 7, 8, 9, 10, 11, 12, 13, 14] (by decide) rfl
    refine lv_ishl hx hb dX11_platform_24 ?_
    refine lv_iconst (v := 1) hx hb dX11_platform_25 (by decide) ?_
    refine lv_isub hx hb dX11_platform_26 ?_
    refine lv_goto (tgt := 31) hx hb dX11_platform_27 (by decide) ?_
    exact r_i F hr hlk hB ⟨_, _, _, _, _, _, _, _, rfl, hf⟩ dX11_platform_31

/-! LongTrain.cooksMinutes -/
set_option maxRecDepth 100000 in
set_option maxHeartbeats 4000000 in
theorem c_LongTrain_cooksMinutes (l : Launch) (D : va_G) (k : Nat → ClassId) (a_t : Nat) (d_t : Nat → Nat) (w_t : Nat → Value) (i_t : Nat → Int32) (d_t_free : Nat → Nat) (i_t_free : Nat → Int32) (d_t_now : Nat → Nat) (w_t_now : Nat → Value) (a_t_now_line : Nat) (d_t_now_line : Nat → Nat) (i_t_now_line : Nat → Int32) (d_t_free_row : Nat → Nat) (i_t_free_row : Nat → Int32) (r_t_now_line_halts : Nat → Int32) (r_t_now_line_first : Nat → Int32) (r_t_free_row_kinds : Nat → Int32) (r_t_free_row_longs : Nat → Int32) (r_t_free_row_weights : Nat → Int32) (r_t_free_row_strengths : Nat → Int32) (r_t_free_row_wears : Nat → Int32) (r_t_free_row_pushes : Nat → Int32) (r_t_free_row_helpers : Nat → Int32) (r_t_now_line_kinds : Nat → Int32) (r_t_now_line_grades : Nat → Int32) (r_t_free_row_bears : Nat → Int32) (n1 : Int32) (n2 : Int32) (n3 : Int32) (Q : Int32 → (Nat → Int32) → (Nat → Int32) → (Nat → Int32) → (Nat → Int32) → (Nat → Int32) → (Nat → Int32) → (Nat → Int32) → (Nat → Int32) → (Nat → Int32) → (Nat → Int32) → Prop) (hw_t_now_line : w_t_now 0 = .ref a_t_now_line) (hf : w_LongTrain_cooksMinutes i_t_free i_t_now_line i_t_free_row r_t_now_line_halts r_t_now_line_first r_t_free_row_kinds r_t_free_row_longs r_t_free_row_weights r_t_free_row_strengths r_t_free_row_wears r_t_free_row_pushes r_t_free_row_helpers r_t_now_line_kinds r_t_now_line_grades r_t_free_row_bears n1 n2 n3 Q) : CtI l yX11_cooksMinutes cX11_cooksMinutes 4 (some .int) 6 137 0 0 D k [.ref a_t, .int n1, .int n2, .int n3] (wd_LongTrain_cooksMinutes k a_t d_t w_t i_t d_t_free i_t_free d_t_now w_t_now a_t_now_line d_t_now_line i_t_now_line d_t_free_row i_t_free_row r_t_now_line_halts r_t_now_line_first r_t_free_row_kinds r_t_free_row_longs r_t_free_row_weights r_t_free_row_strengths r_t_free_row_wears r_t_free_row_pushes r_t_free_row_helpers r_t_now_line_kinds r_t_now_line_grades r_t_free_row_bears) (fun r w => ∃ (i_t_free : Nat → Int32), ∃ (i_t_free_row : Nat → Int32), ∃ (r_t_free_row_kinds : Nat → Int32), ∃ (r_t_free_row_longs : Nat → Int32), ∃ (r_t_free_row_weights : Nat → Int32), ∃ (r_t_free_row_strengths : Nat → Int32), ∃ (r_t_free_row_wears : Nat → Int32), ∃ (r_t_free_row_pushes : Nat → Int32), ∃ (r_t_free_row_helpers : Nat → Int32), ∃ (r_t_free_row_bears : Nat → Int32), w = (wd_LongTrain_cooksMinutes k a_t d_t w_t i_t d_t_free i_t_free d_t_now w_t_now a_t_now_line d_t_now_line i_t_now_line d_t_free_row i_t_free_row r_t_now_line_halts r_t_now_line_first r_t_free_row_kinds r_t_free_row_longs r_t_free_row_weights r_t_free_row_strengths r_t_free_row_wears r_t_free_row_pushes r_t_free_row_helpers r_t_now_line_kinds r_t_now_line_grades r_t_free_row_bears) ∧ Q r i_t_free i_t_free_row r_t_free_row_kinds r_t_free_row_longs r_t_free_row_weights r_t_free_row_strengths r_t_free_row_wears r_t_free_row_pushes r_t_free_row_helpers r_t_free_row_bears) := by
  refine CtI.of (by decide) (Nat.le_of_ble_eq_true rfl) ?_
  intro p e s m below meth c A F hr hlk hnm hA hB ls hl
  have hx := F.x
  have hb := F.b
  unfold w_LongTrain_cooksMinutes at hf
  replace hl : lv_has ls 4 [(0, .ref a_t), (1, .int n1), (2, .int n2), (3, .int n3)] := hl
  refine lv_iload_n hx hb dX11_cooksMinutes_0 rfl (lv_at hl 1 rfl) ?_
  refine lv_iload_n hx hb dX11_cooksMinutes_1 rfl (lv_at hl 2 rfl) ?_
  refine lv_icmp_ne (tgt := 9) hx hb dX11_cooksMinutes_2 (by decide) (fun c_12 => ?_) (fun c_12 => ?_)
  · replace hf := hf.1 c_12
    refine lv_aload_n hx hb dX11_cooksMinutes_9 rfl (lv_at hl 0 rfl) ?_
    refine g_get (w := .ref (d_t 9)) F hB 0 rfl fl_RX11_55 rfl dX11_cooksMinutes_10 ?_
    refine lv_aload_n hx hb dX11_cooksMinutes_13 rfl (lv_at hl 0 rfl) ?_
    refine g_get (w := .ref (d_t 5)) F hB 0 rfl fl_RX11_30 rfl dX11_cooksMinutes_14 ?_
    refine g_get (w := .ref a_t_now_line) F hB 2 rfl fl_RX11_105 hw_t_now_line dX11_cooksMinutes_17 ?_
    refine lv_iload_n hx hb dX11_cooksMinutes_20 rfl (lv_at hl 1 rfl) ?_
    refine lv_iload_n hx hb dX11_cooksMinutes_21 rfl (lv_at hl 2 rfl) ?_
    refine lv_iload_n hx hb dX11_cooksMinutes_22 rfl (lv_at hl 3 rfl) ?_
    refine k_vi (wr := [(a_t, ob 11 (vmx 11 d_t w_t) i_t j0), ((d_t 5), ob 9 (vmx 9 d_t_now w_t_now) i0 j0)]) (rest := []) F hA hB (c_Free_minutes l D k (d_t 9) d_t_free i_t_free a_t_now_line d_t_now_line i_t_now_line d_t_free_row i_t_free_row r_t_now_line_halts r_t_now_line_first r_t_free_row_kinds r_t_free_row_longs r_t_free_row_weights r_t_free_row_strengths r_t_free_row_wears r_t_free_row_pushes r_t_free_row_helpers r_t_now_line_kinds r_t_now_line_grades r_t_free_row_bears n1 n2 n3 _  hf) ml_RX11_315 mv_yX0_minutes [1, 3, 4, 5, 6, 7, 8, 9, 10, 11, 12, 13, 14, 15, 16] [0, 2] rfl rfl (by decide) (by decide) (by decide) 1 rfl rfl rfl hl.1 rfl (Nat.le_of_ble_eq_true rfl) ⟨Nat.le_of_ble_eq_true rfl, Nat.le_of_ble_eq_true rfl⟩ ⟨Nat.le_of_ble_eq_true rfl, Nat.le_of_ble_eq_true rfl⟩ dX11_cooksMinutes_23 (fun z_11 w1 H locs hq hB => ?_)
    obtain ⟨i_t_free_1, i_t_free_row_2, r_t_free_row_kinds_3, r_t_free_row_longs_4, r_t_free_row_weights_5, r_t_free_row_strengths_6, r_t_free_row_wears_7, r_t_free_row_pushes_8, r_t_free_row_helpers_9, r_t_free_row_bears_10, rfl, hf⟩ := hq
    replace hB : Bd D A s.heap (wd_LongTrain_cooksMinutes k a_t d_t w_t i_t d_t_free i_t_free_1 d_t_now w_t_now a_t_now_line d_t_now_line i_t_now_line d_t_free_row i_t_free_row_2 r_t_now_line_halts r_t_now_line_first r_t_free_row_kinds_3 r_t_free_row_longs_4 r_t_free_row_weights_5 r_t_free_row_strengths_6 r_t_free_row_wears_7 r_t_free_row_pushes_8 r_t_free_row_helpers_9 r_t_now_line_kinds r_t_now_line_grades r_t_free_row_bears_10) H locs := hB.sub [0, 2, 1, 3, 4, 5, 6, 7, 8, 9, 10, 11, 12, 13, 14, 15, 16] (by decide) rfl
    exact r_i F hr hlk hB ⟨_, _, _, _, _, _, _, _, _, _, rfl, hf⟩ dX11_cooksMinutes_26
  · replace hf := hf.2 c_12
    refine lv_iconst (v := 0) hx hb dX11_cooksMinutes_5 (by decide) ?_
    refine lv_goto (tgt := 26) hx hb dX11_cooksMinutes_6 (by decide) ?_
    exact r_i F hr hlk hB ⟨_, _, _, _, _, _, _, _, _, _, rfl, hf⟩ dX11_cooksMinutes_26

/-! LongTrain.isCooksWay -/
set_option maxRecDepth 100000 in
set_option maxHeartbeats 4000000 in
theorem c_LongTrain_isCooksWay (l : Launch) (D : va_G) (k : Nat → ClassId) (a_t : Nat) (d_t : Nat → Nat) (w_t : Nat → Value) (i_t : Nat → Int32) (d_t_now : Nat → Nat) (w_t_now : Nat → Value) (a_t_now_line : Nat) (d_t_now_line : Nat → Nat) (i_t_now_line : Nat → Int32) (d_t_free : Nat → Nat) (i_t_free : Nat → Int32) (d_t_free_row : Nat → Nat) (i_t_free_row : Nat → Int32) (r_t_now_line_halts : Nat → Int32) (r_t_now_line_first : Nat → Int32) (r_t_free_row_kinds : Nat → Int32) (r_t_free_row_longs : Nat → Int32) (r_t_free_row_weights : Nat → Int32) (r_t_free_row_strengths : Nat → Int32) (r_t_free_row_wears : Nat → Int32) (r_t_free_row_pushes : Nat → Int32) (r_t_free_row_helpers : Nat → Int32) (r_t_now_line_kinds : Nat → Int32) (n1 : Int32) (n2 : Int32) (n3 : Int32) (Q : Int32 → (Nat → Int32) → (Nat → Int32) → (Nat → Int32) → (Nat → Int32) → (Nat → Int32) → (Nat → Int32) → (Nat → Int32) → (Nat → Int32) → Prop) (hw_t_now_line : w_t_now 0 = .ref a_t_now_line) (hf : w_LongTrain_isCooksWay i_t_now_line i_t_free_row r_t_now_line_halts r_t_now_line_first r_t_free_row_kinds r_t_free_row_longs r_t_free_row_weights r_t_free_row_strengths r_t_free_row_wears r_t_free_row_pushes r_t_free_row_helpers r_t_now_line_kinds n1 n2 n3 Q) : CtI l yX11_isCooksWay cX11_isCooksWay 4 (some .boolean) 6 135 0 0 D k [.ref a_t, .int n1, .int n2, .int n3] (wd_LongTrain_isCooksWay k a_t d_t w_t i_t d_t_now w_t_now a_t_now_line d_t_now_line i_t_now_line d_t_free i_t_free d_t_free_row i_t_free_row r_t_now_line_halts r_t_now_line_first r_t_free_row_kinds r_t_free_row_longs r_t_free_row_weights r_t_free_row_strengths r_t_free_row_wears r_t_free_row_pushes r_t_free_row_helpers r_t_now_line_kinds) (fun r w => (r = 0 ∨ r = 1) ∧ (∃ (i_t_free_row : Nat → Int32), ∃ (r_t_free_row_kinds : Nat → Int32), ∃ (r_t_free_row_longs : Nat → Int32), ∃ (r_t_free_row_weights : Nat → Int32), ∃ (r_t_free_row_strengths : Nat → Int32), ∃ (r_t_free_row_wears : Nat → Int32), ∃ (r_t_free_row_pushes : Nat → Int32), ∃ (r_t_free_row_helpers : Nat → Int32), w = (wd_LongTrain_isCooksWay k a_t d_t w_t i_t d_t_now w_t_now a_t_now_line d_t_now_line i_t_now_line d_t_free i_t_free d_t_free_row i_t_free_row r_t_now_line_halts r_t_now_line_first r_t_free_row_kinds r_t_free_row_longs r_t_free_row_weights r_t_free_row_strengths r_t_free_row_wears r_t_free_row_pushes r_t_free_row_helpers r_t_now_line_kinds) ∧ Q r i_t_free_row r_t_free_row_kinds r_t_free_row_longs r_t_free_row_weights r_t_free_row_strengths r_t_free_row_wears r_t_free_row_pushes r_t_free_row_helpers)) := by
  refine CtI.of (by decide) (Nat.le_of_ble_eq_true rfl) ?_
  intro p e s m below meth c A F hr hlk hnm hA hB ls hl
  have hx := F.x
  have hb := F.b
  unfold w_LongTrain_isCooksWay at hf
  replace hl : lv_has ls 4 [(0, .ref a_t), (1, .int n1), (2, .int n2), (3, .int n3)] := hl
  refine lv_aload_n hx hb dX11_isCooksWay_0 rfl (lv_at hl 0 rfl) ?_
  refine lv_iload_n hx hb dX11_isCooksWay_1 rfl (lv_at hl 3 rfl) ?_
  refine k_vi (wr := [((d_t 9), ob 0 (rfd d_t_free) i_t_free j0), ((d_t_free 0), ob 8 (rfd d_t_free_row) i_t_free_row j0), ((d_t_now_line 2), ai k 30 r_t_now_line_halts), ((d_t_now_line 8), ai k 8 r_t_now_line_first), ((d_t_free_row 0), ai k 20 r_t_free_row_kinds), ((d_t_free_row 1), ai k 20 r_t_free_row_longs), ((d_t_free_row 2), ai k 20 r_t_free_row_weights), ((d_t_free_row 3), ai k 20 r_t_free_row_strengths), ((d_t_free_row 4), ai k 20 r_t_free_row_wears), ((d_t_free_row 5), ai k 20 r_t_free_row_pushes), ((d_t_free_row 6), ai k 20 r_t_free_row_helpers), ((d_t_now_line 6), ai k 18 r_t_now_line_kinds)]) (rest := []) F hA hB (c_LongTrain_isUnit l D k a_t d_t w_t i_t d_t_now w_t_now a_t_now_line d_t_now_line i_t_now_line n3 _ hw_t_now_line hf) ml_RX11_244 mv_yX11_isUnit [0, 1, 2] [3, 4, 5, 6, 7, 8, 9, 10, 11, 12, 13, 14] rfl rfl (by decide) (by decide) (by decide) 0 rfl rfl rfl hl.1 rfl (Nat.le_of_ble_eq_true rfl) ⟨Nat.le_of_ble_eq_true rfl, Nat.le_of_ble_eq_true rfl⟩ ⟨Nat.le_of_ble_eq_true rfl, Nat.le_of_ble_eq_true rfl⟩ dX11_isCooksWay_2 (fun z_1 w1 H locs hq hB => ?_)
  obtain ⟨h_2, rfl, hf⟩ := hq
  replace hB : Bd D A s.heap (wd_LongTrain_isCooksWay k a_t d_t w_t i_t d_t_now w_t_now a_t_now_line d_t_now_line i_t_now_line d_t_free i_t_free d_t_free_row i_t_free_row r_t_now_line_halts r_t_now_line_first r_t_free_row_kinds r_t_free_row_longs r_t_free_row_weights r_t_free_row_strengths r_t_free_row_wears r_t_free_row_pushes r_t_free_row_helpers r_t_now_line_kinds) H locs := hB.sub [12, 13, 14, 0, 1, 2, 3, 4, 5, 6, 7, 8, 9, 10, 11] (by decide) rfl
  refine lv_if_eq (tgt := 40) hx hb dX11_isCooksWay_5 (by decide) (fun c_16 => ?_) (fun c_16 => ?_)
  · replace hf := hf.1 c_16
    refine lv_iconst (v := 0) hx hb dX11_isCooksWay_40 (by decide) ?_
    exact r_z F hr hlk hB (Or.inl rfl) ⟨Or.inl rfl, _, _, _, _, _, _, _, _, rfl, hf⟩ dX11_isCooksWay_41
  · replace hf := hf.2 c_16
    refine lv_iload_n hx hb dX11_isCooksWay_8 rfl (lv_at hl 1 rfl) ?_
    refine lv_if_lt (tgt := 40) hx hb dX11_isCooksWay_9 (by decide) (fun c_15 => ?_) (fun c_15 => ?_)
    · replace hf := hf.1 c_15
      refine lv_iconst (v := 0) hx hb dX11_isCooksWay_40 (by decide) ?_
      exact r_z F hr hlk hB (Or.inl rfl) ⟨Or.inl rfl, _, _, _, _, _, _, _, _, rfl, hf⟩ dX11_isCooksWay_41
    · replace hf := hf.2 c_15
      refine lv_iload_n hx hb dX11_isCooksWay_12 rfl (lv_at hl 1 rfl) ?_
      refine lv_iload_n hx hb dX11_isCooksWay_13 rfl (lv_at hl 2 rfl) ?_
      refine lv_icmp_gt (tgt := 40) hx hb dX11_isCooksWay_14 (by decide) (fun c_14 => ?_) (fun c_14 => ?_)
      · replace hf := hf.1 c_14
        refine lv_iconst (v := 0) hx hb dX11_isCooksWay_40 (by decide) ?_
        exact r_z F hr hlk hB (Or.inl rfl) ⟨Or.inl rfl, _, _, _, _, _, _, _, _, rfl, hf⟩ dX11_isCooksWay_41
      · replace hf := hf.2 c_14
        refine lv_aload_n hx hb dX11_isCooksWay_17 rfl (lv_at hl 0 rfl) ?_
        refine g_get (w := .ref (d_t 9)) F hB 0 rfl fl_RX11_55 rfl dX11_isCooksWay_18 ?_
        refine lv_aload_n hx hb dX11_isCooksWay_21 rfl (lv_at hl 0 rfl) ?_
        refine g_get (w := .ref (d_t 5)) F hB 0 rfl fl_RX11_30 rfl dX11_isCooksWay_22 ?_
        refine g_get (w := .ref a_t_now_line) F hB 1 rfl fl_RX11_105 hw_t_now_line dX11_isCooksWay_25 ?_
        refine lv_iload_n hx hb dX11_isCooksWay_28 rfl (lv_at hl 2 rfl) ?_
        refine lv_iload_n hx hb dX11_isCooksWay_29 rfl (lv_at hl 3 rfl) ?_
        refine k_vi (wr := [(a_t, ob 11 (vmx 11 d_t w_t) i_t j0), ((d_t 5), ob 9 (vmx 9 d_t_now w_t_now) i0 j0)]) (rest := []) F hA hB (c_Free_hasWagon l D k (d_t 9) d_t_free i_t_free a_t_now_line d_t_now_line i_t_now_line d_t_free_row i_t_free_row r_t_now_line_halts r_t_now_line_first r_t_free_row_kinds r_t_free_row_longs r_t_free_row_weights r_t_free_row_strengths r_t_free_row_wears r_t_free_row_pushes r_t_free_row_helpers r_t_now_line_kinds n2 n3 _  hf) ml_RX11_311 mv_yX0_hasWagon [3, 2, 4, 5, 6, 7, 8, 9, 10, 11, 12, 13, 14] [0, 1] rfl rfl (by decide) (by decide) (by decide) 3 rfl rfl rfl hl.1 rfl (Nat.le_of_ble_eq_true rfl) ⟨Nat.le_of_ble_eq_true rfl, Nat.le_of_ble_eq_true rfl⟩ ⟨Nat.le_of_ble_eq_true rfl, Nat.le_of_ble_eq_true rfl⟩ dX11_isCooksWay_30 (fun z_11 w1 H locs hq hB => ?_)
        obtain ⟨h_12, i_t_free_row_3, r_t_free_row_kinds_4, r_t_free_row_longs_5, r_t_free_row_weights_6, r_t_free_row_strengths_7, r_t_free_row_wears_8, r_t_free_row_pushes_9, r_t_free_row_helpers_10, rfl, hf⟩ := hq
        replace hB : Bd D A s.heap (wd_LongTrain_isCooksWay k a_t d_t w_t i_t d_t_now w_t_now a_t_now_line d_t_now_line i_t_now_line d_t_free i_t_free d_t_free_row i_t_free_row_3 r_t_now_line_halts r_t_now_line_first r_t_free_row_kinds_4 r_t_free_row_longs_5 r_t_free_row_weights_6 r_t_free_row_strengths_7 r_t_free_row_wears_8 r_t_free_row_pushes_9 r_t_free_row_helpers_10 r_t_now_line_kinds) H locs := hB.sub [0, 1, 3, 2, 4, 5, 6, 7, 8, 9, 10, 11, 12, 13, 14] (by decide) rfl
        refine lv_if_eq (tgt := 40) hx hb dX11_isCooksWay_33 (by decide) (fun c_13 => ?_) (fun c_13 => ?_)
        · replace hf := hf.1 c_13
          refine lv_iconst (v := 0) hx hb dX11_isCooksWay_40 (by decide) ?_
          exact r_z F hr hlk hB (Or.inl rfl) ⟨Or.inl rfl, _, _, _, _, _, _, _, _, rfl, hf⟩ dX11_isCooksWay_41
        · replace hf := hf.2 c_13
          refine lv_iconst (v := 1) hx hb dX11_isCooksWay_36 (by decide) ?_
          refine lv_goto (tgt := 41) hx hb dX11_isCooksWay_37 (by decide) ?_
          exact r_z F hr hlk hB (Or.inr rfl) ⟨Or.inr rfl, _, _, _, _, _, _, _, _, rfl, hf⟩ dX11_isCooksWay_41

/-! LongTrain.cook -/
set_option maxRecDepth 100000 in
set_option maxHeartbeats 4000000 in
theorem c_LongTrain_cook (l : Launch) (D : va_G) (k : Nat → ClassId) (a_t : Nat) (d_t : Nat → Nat) (w_t : Nat → Value) (i_t : Nat → Int32) (d_t_now : Nat → Nat) (w_t_now : Nat → Value) (a_t_now_line : Nat) (d_t_now_line : Nat → Nat) (i_t_now_line : Nat → Int32) (d_t_free : Nat → Nat) (i_t_free : Nat → Int32) (d_t_free_row : Nat → Nat) (i_t_free_row : Nat → Int32) (r_t_now_line_halts : Nat → Int32) (r_t_now_line_first : Nat → Int32) (r_t_free_row_kinds : Nat → Int32) (r_t_free_row_longs : Nat → Int32) (r_t_free_row_weights : Nat → Int32) (r_t_free_row_strengths : Nat → Int32) (r_t_free_row_wears : Nat → Int32) (r_t_free_row_pushes : Nat → Int32) (r_t_free_row_helpers : Nat → Int32) (r_t_now_line_kinds : Nat → Int32) (r_t_now_line_grades : Nat → Int32) (r_t_free_row_bears : Nat → Int32) (n1 : Int32) (n2 : Int32) (n3 : Int32) (Q : Int32 → (Nat → Int32) → (Nat → Int32) → (Nat → Int32) → (Nat → Int32) → (Nat → Int32) → (Nat → Int32) → (Nat → Int32) → (Nat → Int32) → (Nat → Int32) → (Nat → Int32) → Prop) (hw_t_now_line : w_t_now 0 = .ref a_t_now_line) (hf : w_LongTrain_cook i_t_now_line i_t_free i_t_free_row r_t_now_line_halts r_t_now_line_first r_t_free_row_kinds r_t_free_row_longs r_t_free_row_weights r_t_free_row_strengths r_t_free_row_wears r_t_free_row_pushes r_t_free_row_helpers r_t_now_line_kinds r_t_now_line_grades r_t_free_row_bears n1 n2 n3 Q) : CtI l yX11_cook cX11_cook 4 (some .int) 7 160 0 0 D k [.ref a_t, .int n1, .int n2, .int n3] (wd_LongTrain_cook k a_t d_t w_t i_t d_t_now w_t_now a_t_now_line d_t_now_line i_t_now_line d_t_free i_t_free d_t_free_row i_t_free_row r_t_now_line_halts r_t_now_line_first r_t_free_row_kinds r_t_free_row_longs r_t_free_row_weights r_t_free_row_strengths r_t_free_row_wears r_t_free_row_pushes r_t_free_row_helpers r_t_now_line_kinds r_t_now_line_grades r_t_free_row_bears) (fun r w => ∃ (i_t_free : Nat → Int32), ∃ (i_t_free_row : Nat → Int32), ∃ (r_t_free_row_kinds : Nat → Int32), ∃ (r_t_free_row_longs : Nat → Int32), ∃ (r_t_free_row_weights : Nat → Int32), ∃ (r_t_free_row_strengths : Nat → Int32), ∃ (r_t_free_row_wears : Nat → Int32), ∃ (r_t_free_row_pushes : Nat → Int32), ∃ (r_t_free_row_helpers : Nat → Int32), ∃ (r_t_free_row_bears : Nat → Int32), w = (wd_LongTrain_cook k a_t d_t w_t i_t d_t_now w_t_now a_t_now_line d_t_now_line i_t_now_line d_t_free i_t_free d_t_free_row i_t_free_row r_t_now_line_halts r_t_now_line_first r_t_free_row_kinds r_t_free_row_longs r_t_free_row_weights r_t_free_row_strengths r_t_free_row_wears r_t_free_row_pushes r_t_free_row_helpers r_t_now_line_kinds r_t_now_line_grades r_t_free_row_bears) ∧ Q r i_t_free i_t_free_row r_t_free_row_kinds r_t_free_row_longs r_t_free_row_weights r_t_free_row_strengths r_t_free_row_wears r_t_free_row_pushes r_t_free_row_helpers r_t_free_row_bears) := by
  refine CtI.of (by decide) (Nat.le_of_ble_eq_true rfl) ?_
  intro p e s m below meth c A F hr hlk hnm hA hB ls hl
  have hx := F.x
  have hb := F.b
  unfold w_LongTrain_cook at hf
  replace hl : lv_has ls 4 [(0, .ref a_t), (1, .int n1), (2, .int n2), (3, .int n3)] := hl
  refine lv_aload_n hx hb dX11_cook_0 rfl (lv_at hl 0 rfl) ?_
  refine lv_iload_n hx hb dX11_cook_1 rfl (lv_at hl 1 rfl) ?_
  refine lv_iload_n hx hb dX11_cook_2 rfl (lv_at hl 2 rfl) ?_
  refine lv_iload_n hx hb dX11_cook_3 rfl (lv_at hl 3 rfl) ?_
  refine k_vi (wr := [((d_t_now_line 0), ai k 400 r_t_now_line_grades), ((d_t_free_row 7), ai k 20 r_t_free_row_bears)]) (rest := []) F hA hB (c_LongTrain_isCooksWay l D k a_t d_t w_t i_t d_t_now w_t_now a_t_now_line d_t_now_line i_t_now_line d_t_free i_t_free d_t_free_row i_t_free_row r_t_now_line_halts r_t_now_line_first r_t_free_row_kinds r_t_free_row_longs r_t_free_row_weights r_t_free_row_strengths r_t_free_row_wears r_t_free_row_pushes r_t_free_row_helpers r_t_now_line_kinds n1 n2 n3 _ hw_t_now_line hf) ml_RX11_303 mv_yX11_isCooksWay [0, 1, 2, 3, 4, 5, 6, 7, 8, 9, 10, 11, 12, 13, 14] [15, 16] rfl rfl (by decide) (by decide) (by decide) 0 rfl rfl rfl hl.1 rfl (Nat.le_of_ble_eq_true rfl) ⟨Nat.le_of_ble_eq_true rfl, Nat.le_of_ble_eq_true rfl⟩ ⟨Nat.le_of_ble_eq_true rfl, Nat.le_of_ble_eq_true rfl⟩ dX11_cook_4 (fun z_9 w1 H locs hq hB => ?_)
  obtain ⟨h_10, i_t_free_row_1, r_t_free_row_kinds_2, r_t_free_row_longs_3, r_t_free_row_weights_4, r_t_free_row_strengths_5, r_t_free_row_wears_6, r_t_free_row_pushes_7, r_t_free_row_helpers_8, rfl, hf⟩ := hq
  replace hB : Bd D A s.heap (wd_LongTrain_cook k a_t d_t w_t i_t d_t_now w_t_now a_t_now_line d_t_now_line i_t_now_line d_t_free i_t_free d_t_free_row i_t_free_row_1 r_t_now_line_halts r_t_now_line_first r_t_free_row_kinds_2 r_t_free_row_longs_3 r_t_free_row_weights_4 r_t_free_row_strengths_5 r_t_free_row_wears_6 r_t_free_row_pushes_7 r_t_free_row_helpers_8 r_t_now_line_kinds r_t_now_line_grades r_t_free_row_bears) H locs := hB.sub [2, 3, 4, 5, 6, 7, 8, 9, 10, 11, 12, 13, 14, 15, 16, 0, 1] (by decide) rfl
  refine lv_if_eq (tgt := 20) hx hb dX11_cook_7 (by decide) (fun c_22 => ?_) (fun c_22 => ?_)
  · replace hf := hf.1 c_22
    refine lv_iconst (v := -1) hx hb dX11_cook_20 (by decide) ?_
    exact r_i F hr hlk hB ⟨_, _, _, _, _, _, _, _, _, _, rfl, hf⟩ dX11_cook_21
  · replace hf := hf.2 c_22
    refine lv_aload_n hx hb dX11_cook_10 rfl (lv_at hl 0 rfl) ?_
    refine lv_iload_n hx hb dX11_cook_11 rfl (lv_at hl 1 rfl) ?_
    refine lv_iload_n hx hb dX11_cook_12 rfl (lv_at hl 2 rfl) ?_
    refine lv_iload_n hx hb dX11_cook_13 rfl (lv_at hl 3 rfl) ?_
    refine k_vi (wr := []) (rest := []) F hA hB (c_LongTrain_cooksMinutes l D k a_t d_t w_t i_t d_t_free i_t_free d_t_now w_t_now a_t_now_line d_t_now_line i_t_now_line d_t_free_row i_t_free_row_1 r_t_now_line_halts r_t_now_line_first r_t_free_row_kinds_2 r_t_free_row_longs_3 r_t_free_row_weights_4 r_t_free_row_strengths_5 r_t_free_row_wears_6 r_t_free_row_pushes_7 r_t_free_row_helpers_8 r_t_now_line_kinds r_t_now_line_grades r_t_free_row_bears n1 n2 n3 _ hw_t_now_line hf) ml_RX11_307 mv_yX11_cooksMinutes [0, 3, 1, 2, 4, 5, 6, 7, 8, 9, 10, 11, 12, 13, 14, 15, 16] [] rfl rfl (by decide) (by decide) (by decide) 0 rfl rfl rfl hl.1 rfl (Nat.le_of_ble_eq_true rfl) ⟨Nat.le_of_ble_eq_true rfl, Nat.le_of_ble_eq_true rfl⟩ ⟨Nat.le_of_ble_eq_true rfl, Nat.le_of_ble_eq_true rfl⟩ dX11_cook_14 (fun z_21 w1 H locs hq hB => ?_)
    obtain ⟨i_t_free_11, i_t_free_row_12, r_t_free_row_kinds_13, r_t_free_row_longs_14, r_t_free_row_weights_15, r_t_free_row_strengths_16, r_t_free_row_wears_17, r_t_free_row_pushes_18, r_t_free_row_helpers_19, r_t_free_row_bears_20, rfl, hf⟩ := hq
    replace hB : Bd D A s.heap (wd_LongTrain_cook k a_t d_t w_t i_t d_t_now w_t_now a_t_now_line d_t_now_line i_t_now_line d_t_free i_t_free_11 d_t_free_row i_t_free_row_12 r_t_now_line_halts r_t_now_line_first r_t_free_row_kinds_13 r_t_free_row_longs_14 r_t_free_row_weights_15 r_t_free_row_strengths_16 r_t_free_row_wears_17 r_t_free_row_pushes_18 r_t_free_row_helpers_19 r_t_now_line_kinds r_t_now_line_grades r_t_free_row_bears_20) H locs := hB.sub [0, 2, 3, 1, 4, 5, 6, 7, 8, 9, 10, 11, 12, 13, 14, 15, 16] (by decide) rfl
    refine lv_goto (tgt := 21) hx hb dX11_cook_17 (by decide) ?_
    exact r_i F hr hlk hB ⟨_, _, _, _, _, _, _, _, _, _, rfl, hf⟩ dX11_cook_21

/-! LongTrain.back -/
set_option maxRecDepth 100000 in
set_option maxHeartbeats 4000000 in
theorem c_LongTrain_back (l : Launch) (D : va_G) (k : Nat → ClassId) (a_t : Nat) (d_t : Nat → Nat) (w_t : Nat → Value) (i_t : Nat → Int32) (d_t_now : Nat → Nat) (w_t_now : Nat → Value) (a_t_now_line : Nat) (d_t_now_line : Nat → Nat) (i_t_now_line : Nat → Int32) (d_t_free : Nat → Nat) (i_t_free : Nat → Int32) (d_t_free_row : Nat → Nat) (i_t_free_row : Nat → Int32) (r_t_now_line_halts : Nat → Int32) (r_t_now_line_first : Nat → Int32) (r_t_free_row_kinds : Nat → Int32) (r_t_free_row_longs : Nat → Int32) (r_t_free_row_weights : Nat → Int32) (r_t_free_row_strengths : Nat → Int32) (r_t_free_row_wears : Nat → Int32) (r_t_free_row_pushes : Nat → Int32) (r_t_free_row_helpers : Nat → Int32) (r_t_now_line_kinds : Nat → Int32) (r_t_now_line_grades : Nat → Int32) (r_t_free_row_bears : Nat → Int32) (n1 : Int32) (n2 : Int32) (n3 : Int32) (Q : Int32 → (Nat → Int32) → (Nat → Int32) → (Nat → Int32) → (Nat → Int32) → (Nat → Int32) → (Nat → Int32) → (Nat → Int32) → (Nat → Int32) → (Nat → Int32) → (Nat → Int32) → Prop) (hw_t_now_line : w_t_now 0 = .ref a_t_now_line) (hf : w_LongTrain_back i_t_now_line i_t_free i_t_free_row r_t_now_line_halts r_t_now_line_first r_t_free_row_kinds r_t_free_row_longs r_t_free_row_weights r_t_free_row_strengths r_t_free_row_wears r_t_free_row_pushes r_t_free_row_helpers r_t_now_line_kinds r_t_now_line_grades r_t_free_row_bears n1 n2 n3 Q) : CtI l yX11_back cX11_back 4 (some .int) 7 160 0 0 D k [.ref a_t, .int n1, .int n2, .int n3] (wd_LongTrain_back k a_t d_t w_t i_t d_t_now w_t_now a_t_now_line d_t_now_line i_t_now_line d_t_free i_t_free d_t_free_row i_t_free_row r_t_now_line_halts r_t_now_line_first r_t_free_row_kinds r_t_free_row_longs r_t_free_row_weights r_t_free_row_strengths r_t_free_row_wears r_t_free_row_pushes r_t_free_row_helpers r_t_now_line_kinds r_t_now_line_grades r_t_free_row_bears) (fun r w => ∃ (i_t_free : Nat → Int32), ∃ (i_t_free_row : Nat → Int32), ∃ (r_t_free_row_kinds : Nat → Int32), ∃ (r_t_free_row_longs : Nat → Int32), ∃ (r_t_free_row_weights : Nat → Int32), ∃ (r_t_free_row_strengths : Nat → Int32), ∃ (r_t_free_row_wears : Nat → Int32), ∃ (r_t_free_row_pushes : Nat → Int32), ∃ (r_t_free_row_helpers : Nat → Int32), ∃ (r_t_free_row_bears : Nat → Int32), w = (wd_LongTrain_back k a_t d_t w_t i_t d_t_now w_t_now a_t_now_line d_t_now_line i_t_now_line d_t_free i_t_free d_t_free_row i_t_free_row r_t_now_line_halts r_t_now_line_first r_t_free_row_kinds r_t_free_row_longs r_t_free_row_weights r_t_free_row_strengths r_t_free_row_wears r_t_free_row_pushes r_t_free_row_helpers r_t_now_line_kinds r_t_now_line_grades r_t_free_row_bears) ∧ Q r i_t_free i_t_free_row r_t_free_row_kinds r_t_free_row_longs r_t_free_row_weights r_t_free_row_strengths r_t_free_row_wears r_t_free_row_pushes r_t_free_row_helpers r_t_free_row_bears) := by
  refine CtI.of (by decide) (Nat.le_of_ble_eq_true rfl) ?_
  intro p e s m below meth c A F hr hlk hnm hA hB ls hl
  have hx := F.x
  have hb := F.b
  unfold w_LongTrain_back at hf
  replace hl : lv_has ls 4 [(0, .ref a_t), (1, .int n1), (2, .int n2), (3, .int n3)] := hl
  refine lv_aload_n hx hb dX11_back_0 rfl (lv_at hl 0 rfl) ?_
  refine lv_iload_n hx hb dX11_back_1 rfl (lv_at hl 1 rfl) ?_
  refine lv_iload_n hx hb dX11_back_2 rfl (lv_at hl 2 rfl) ?_
  refine lv_iload_n hx hb dX11_back_3 rfl (lv_at hl 3 rfl) ?_
  refine k_vi (wr := [((d_t_now_line 0), ai k 400 r_t_now_line_grades), ((d_t_free_row 7), ai k 20 r_t_free_row_bears)]) (rest := []) F hA hB (c_LongTrain_isCooksWay l D k a_t d_t w_t i_t d_t_now w_t_now a_t_now_line d_t_now_line i_t_now_line d_t_free i_t_free d_t_free_row i_t_free_row r_t_now_line_halts r_t_now_line_first r_t_free_row_kinds r_t_free_row_longs r_t_free_row_weights r_t_free_row_strengths r_t_free_row_wears r_t_free_row_pushes r_t_free_row_helpers r_t_now_line_kinds n1 n2 n3 _ hw_t_now_line hf) ml_RX11_303 mv_yX11_isCooksWay [0, 1, 2, 3, 4, 5, 6, 7, 8, 9, 10, 11, 12, 13, 14] [15, 16] rfl rfl (by decide) (by decide) (by decide) 0 rfl rfl rfl hl.1 rfl (Nat.le_of_ble_eq_true rfl) ⟨Nat.le_of_ble_eq_true rfl, Nat.le_of_ble_eq_true rfl⟩ ⟨Nat.le_of_ble_eq_true rfl, Nat.le_of_ble_eq_true rfl⟩ dX11_back_4 (fun z_9 w1 H locs hq hB => ?_)
  obtain ⟨h_10, i_t_free_row_1, r_t_free_row_kinds_2, r_t_free_row_longs_3, r_t_free_row_weights_4, r_t_free_row_strengths_5, r_t_free_row_wears_6, r_t_free_row_pushes_7, r_t_free_row_helpers_8, rfl, hf⟩ := hq
  replace hB : Bd D A s.heap (wd_LongTrain_back k a_t d_t w_t i_t d_t_now w_t_now a_t_now_line d_t_now_line i_t_now_line d_t_free i_t_free d_t_free_row i_t_free_row_1 r_t_now_line_halts r_t_now_line_first r_t_free_row_kinds_2 r_t_free_row_longs_3 r_t_free_row_weights_4 r_t_free_row_strengths_5 r_t_free_row_wears_6 r_t_free_row_pushes_7 r_t_free_row_helpers_8 r_t_now_line_kinds r_t_now_line_grades r_t_free_row_bears) H locs := hB.sub [2, 3, 4, 5, 6, 7, 8, 9, 10, 11, 12, 13, 14, 15, 16, 0, 1] (by decide) rfl
  refine lv_if_eq (tgt := 20) hx hb dX11_back_7 (by decide) (fun c_22 => ?_) (fun c_22 => ?_)
  · replace hf := hf.1 c_22
    refine lv_iconst (v := -1) hx hb dX11_back_20 (by decide) ?_
    exact r_i F hr hlk hB ⟨_, _, _, _, _, _, _, _, _, _, rfl, hf⟩ dX11_back_21
  · replace hf := hf.2 c_22
    refine lv_aload_n hx hb dX11_back_10 rfl (lv_at hl 0 rfl) ?_
    refine lv_iload_n hx hb dX11_back_11 rfl (lv_at hl 2 rfl) ?_
    refine lv_iload_n hx hb dX11_back_12 rfl (lv_at hl 1 rfl) ?_
    refine lv_iload_n hx hb dX11_back_13 rfl (lv_at hl 3 rfl) ?_
    refine k_vi (wr := []) (rest := []) F hA hB (c_LongTrain_cooksMinutes l D k a_t d_t w_t i_t d_t_free i_t_free d_t_now w_t_now a_t_now_line d_t_now_line i_t_now_line d_t_free_row i_t_free_row_1 r_t_now_line_halts r_t_now_line_first r_t_free_row_kinds_2 r_t_free_row_longs_3 r_t_free_row_weights_4 r_t_free_row_strengths_5 r_t_free_row_wears_6 r_t_free_row_pushes_7 r_t_free_row_helpers_8 r_t_now_line_kinds r_t_now_line_grades r_t_free_row_bears n2 n1 n3 _ hw_t_now_line hf) ml_RX11_307 mv_yX11_cooksMinutes [0, 3, 1, 2, 4, 5, 6, 7, 8, 9, 10, 11, 12, 13, 14, 15, 16] [] rfl rfl (by decide) (by decide) (by decide) 0 rfl rfl rfl hl.1 rfl (Nat.le_of_ble_eq_true rfl) ⟨Nat.le_of_ble_eq_true rfl, Nat.le_of_ble_eq_true rfl⟩ ⟨Nat.le_of_ble_eq_true rfl, Nat.le_of_ble_eq_true rfl⟩ dX11_back_14 (fun z_21 w1 H locs hq hB => ?_)
    obtain ⟨i_t_free_11, i_t_free_row_12, r_t_free_row_kinds_13, r_t_free_row_longs_14, r_t_free_row_weights_15, r_t_free_row_strengths_16, r_t_free_row_wears_17, r_t_free_row_pushes_18, r_t_free_row_helpers_19, r_t_free_row_bears_20, rfl, hf⟩ := hq
    replace hB : Bd D A s.heap (wd_LongTrain_back k a_t d_t w_t i_t d_t_now w_t_now a_t_now_line d_t_now_line i_t_now_line d_t_free i_t_free_11 d_t_free_row i_t_free_row_12 r_t_now_line_halts r_t_now_line_first r_t_free_row_kinds_13 r_t_free_row_longs_14 r_t_free_row_weights_15 r_t_free_row_strengths_16 r_t_free_row_wears_17 r_t_free_row_pushes_18 r_t_free_row_helpers_19 r_t_now_line_kinds r_t_now_line_grades r_t_free_row_bears_20) H locs := hB.sub [0, 2, 3, 1, 4, 5, 6, 7, 8, 9, 10, 11, 12, 13, 14, 15, 16] (by decide) rfl
    refine lv_goto (tgt := 21) hx hb dX11_back_17 (by decide) ?_
    exact r_i F hr hlk hB ⟨_, _, _, _, _, _, _, _, _, _, rfl, hf⟩ dX11_back_21

/-! LongTrain.room -/
set_option maxRecDepth 100000 in
set_option maxHeartbeats 4000000 in
theorem c_LongTrain_room (l : Launch) (D : va_G) (k : Nat → ClassId) (a_t : Nat) (d_t : Nat → Nat) (w_t : Nat → Value) (i_t : Nat → Int32) (d_t_now : Nat → Nat) (w_t_now : Nat → Value) (a_t_now_line : Nat) (d_t_now_line : Nat → Nat) (i_t_now_line : Nat → Int32) (d_t_free : Nat → Nat) (i_t_free : Nat → Int32) (d_t_free_row : Nat → Nat) (i_t_free_row : Nat → Int32) (r_t_now_line_halts : Nat → Int32) (r_t_now_line_first : Nat → Int32) (r_t_free_row_kinds : Nat → Int32) (r_t_free_row_longs : Nat → Int32) (r_t_free_row_weights : Nat → Int32) (r_t_free_row_strengths : Nat → Int32) (r_t_free_row_wears : Nat → Int32) (r_t_free_row_pushes : Nat → Int32) (r_t_free_row_helpers : Nat → Int32) (r_t_now_line_kinds : Nat → Int32) (n1 : Int32) (Q : Int32 → (Nat → Int32) → (Nat → Int32) → (Nat → Int32) → (Nat → Int32) → (Nat → Int32) → (Nat → Int32) → (Nat → Int32) → (Nat → Int32) → Prop) (hw_t_now_line : w_t_now 0 = .ref a_t_now_line) (hf : w_LongTrain_room i_t_now_line i_t_free_row r_t_now_line_halts r_t_now_line_first r_t_free_row_kinds r_t_free_row_longs r_t_free_row_weights r_t_free_row_strengths r_t_free_row_wears r_t_free_row_pushes r_t_free_row_helpers r_t_now_line_kinds n1 Q) : CtI l yX11_room cX11_room 2 (some .int) 5 112 0 0 D k [.ref a_t, .int n1] (wd_LongTrain_room k a_t d_t w_t i_t d_t_now w_t_now a_t_now_line d_t_now_line i_t_now_line d_t_free i_t_free d_t_free_row i_t_free_row r_t_now_line_halts r_t_now_line_first r_t_free_row_kinds r_t_free_row_longs r_t_free_row_weights r_t_free_row_strengths r_t_free_row_wears r_t_free_row_pushes r_t_free_row_helpers r_t_now_line_kinds) (fun r w => ∃ (i_t_free_row : Nat → Int32), ∃ (r_t_free_row_kinds : Nat → Int32), ∃ (r_t_free_row_longs : Nat → Int32), ∃ (r_t_free_row_weights : Nat → Int32), ∃ (r_t_free_row_strengths : Nat → Int32), ∃ (r_t_free_row_wears : Nat → Int32), ∃ (r_t_free_row_pushes : Nat → Int32), ∃ (r_t_free_row_helpers : Nat → Int32), w = (wd_LongTrain_room k a_t d_t w_t i_t d_t_now w_t_now a_t_now_line d_t_now_line i_t_now_line d_t_free i_t_free d_t_free_row i_t_free_row r_t_now_line_halts r_t_now_line_first r_t_free_row_kinds r_t_free_row_longs r_t_free_row_weights r_t_free_row_strengths r_t_free_row_wears r_t_free_row_pushes r_t_free_row_helpers r_t_now_line_kinds) ∧ Q r i_t_free_row r_t_free_row_kinds r_t_free_row_longs r_t_free_row_weights r_t_free_row_strengths r_t_free_row_wears r_t_free_row_pushes r_t_free_row_helpers) := by
  refine CtI.of (by decide) (Nat.le_of_ble_eq_true rfl) ?_
  intro p e s m below meth c A F hr hlk hnm hA hB ls hl
  have hx := F.x
  have hb := F.b
  unfold w_LongTrain_room at hf
  replace hl : lv_has ls 2 [(0, .ref a_t), (1, .int n1)] := hl
  refine lv_aload_n hx hb dX11_room_0 rfl (lv_at hl 0 rfl) ?_
  refine lv_iload_n hx hb dX11_room_1 rfl (lv_at hl 1 rfl) ?_
  refine k_vi (wr := [((d_t 9), ob 0 (rfd d_t_free) i_t_free j0), ((d_t_free 0), ob 8 (rfd d_t_free_row) i_t_free_row j0), ((d_t_now_line 2), ai k 30 r_t_now_line_halts), ((d_t_now_line 8), ai k 8 r_t_now_line_first), ((d_t_free_row 0), ai k 20 r_t_free_row_kinds), ((d_t_free_row 1), ai k 20 r_t_free_row_longs), ((d_t_free_row 2), ai k 20 r_t_free_row_weights), ((d_t_free_row 3), ai k 20 r_t_free_row_strengths), ((d_t_free_row 4), ai k 20 r_t_free_row_wears), ((d_t_free_row 5), ai k 20 r_t_free_row_pushes), ((d_t_free_row 6), ai k 20 r_t_free_row_helpers), ((d_t_now_line 6), ai k 18 r_t_now_line_kinds)]) (rest := []) F hA hB (c_LongTrain_isHalt l D k a_t d_t w_t i_t d_t_now w_t_now a_t_now_line d_t_now_line i_t_now_line n1 _ hw_t_now_line hf) ml_RX11_131 mv_yX11_isHalt [0, 1, 2] [3, 4, 5, 6, 7, 8, 9, 10, 11, 12, 13, 14] rfl rfl (by decide) (by decide) (by decide) 0 rfl rfl rfl hl.1 rfl (Nat.le_of_ble_eq_true rfl) ⟨Nat.le_of_ble_eq_true rfl, Nat.le_of_ble_eq_true rfl⟩ ⟨Nat.le_of_ble_eq_true rfl, Nat.le_of_ble_eq_true rfl⟩ dX11_room_2 (fun z_1 w1 H locs hq hB => ?_)
  obtain ⟨h_2, rfl, hf⟩ := hq
  replace hB : Bd D A s.heap (wd_LongTrain_room k a_t d_t w_t i_t d_t_now w_t_now a_t_now_line d_t_now_line i_t_now_line d_t_free i_t_free d_t_free_row i_t_free_row r_t_now_line_halts r_t_now_line_first r_t_free_row_kinds r_t_free_row_longs r_t_free_row_weights r_t_free_row_strengths r_t_free_row_wears r_t_free_row_pushes r_t_free_row_helpers r_t_now_line_kinds) H locs := hB.sub [12, 13, 14, 0, 1, 2, 3, 4, 5, 6, 7, 8, 9, 10, 11] (by decide) rfl
  refine lv_if_eq (tgt := 26) hx hb dX11_room_5 (by decide) (fun c_12 => ?_) (fun c_12 => ?_)
  · replace hf := hf.1 c_12
    refine lv_iconst (v := -1) hx hb dX11_room_26 (by decide) ?_
    exact r_i F hr hlk hB ⟨_, _, _, _, _, _, _, _, rfl, hf⟩ dX11_room_27
  · replace hf := hf.2 c_12
    refine lv_aload_n hx hb dX11_room_8 rfl (lv_at hl 0 rfl) ?_
    refine g_get (w := .ref (d_t 9)) F hB 0 rfl fl_RX11_55 rfl dX11_room_9 ?_
    refine lv_aload_n hx hb dX11_room_12 rfl (lv_at hl 0 rfl) ?_
    refine g_get (w := .ref (d_t 5)) F hB 0 rfl fl_RX11_30 rfl dX11_room_13 ?_
    refine g_get (w := .ref a_t_now_line) F hB 1 rfl fl_RX11_105 hw_t_now_line dX11_room_16 ?_
    refine lv_iload_n hx hb dX11_room_19 rfl (lv_at hl 1 rfl) ?_
    refine k_vi (wr := [(a_t, ob 11 (vmx 11 d_t w_t) i_t j0), ((d_t 5), ob 9 (vmx 9 d_t_now w_t_now) i0 j0)]) (rest := []) F hA hB (c_Free_roomNeeded l D k (d_t 9) d_t_free i_t_free a_t_now_line d_t_now_line i_t_now_line d_t_free_row i_t_free_row r_t_now_line_halts r_t_now_line_first r_t_free_row_kinds r_t_free_row_longs r_t_free_row_weights r_t_free_row_strengths r_t_free_row_wears r_t_free_row_pushes r_t_free_row_helpers r_t_now_line_kinds n1 _  hf) ml_RX11_318 mv_yX0_roomNeeded [3, 2, 4, 5, 6, 7, 8, 9, 10, 11, 12, 13, 14] [0, 1] rfl rfl (by decide) (by decide) (by decide) 3 rfl rfl rfl hl.1 rfl (Nat.le_of_ble_eq_true rfl) ⟨Nat.le_of_ble_eq_true rfl, Nat.le_of_ble_eq_true rfl⟩ ⟨Nat.le_of_ble_eq_true rfl, Nat.le_of_ble_eq_true rfl⟩ dX11_room_20 (fun z_11 w1 H locs hq hB => ?_)
    obtain ⟨i_t_free_row_3, r_t_free_row_kinds_4, r_t_free_row_longs_5, r_t_free_row_weights_6, r_t_free_row_strengths_7, r_t_free_row_wears_8, r_t_free_row_pushes_9, r_t_free_row_helpers_10, rfl, hf⟩ := hq
    replace hB : Bd D A s.heap (wd_LongTrain_room k a_t d_t w_t i_t d_t_now w_t_now a_t_now_line d_t_now_line i_t_now_line d_t_free i_t_free d_t_free_row i_t_free_row_3 r_t_now_line_halts r_t_now_line_first r_t_free_row_kinds_4 r_t_free_row_longs_5 r_t_free_row_weights_6 r_t_free_row_strengths_7 r_t_free_row_wears_8 r_t_free_row_pushes_9 r_t_free_row_helpers_10 r_t_now_line_kinds) H locs := hB.sub [0, 1, 3, 2, 4, 5, 6, 7, 8, 9, 10, 11, 12, 13, 14] (by decide) rfl
    refine lv_goto (tgt := 27) hx hb dX11_room_23 (by decide) ?_
    exact r_i F hr hlk hB ⟨_, _, _, _, _, _, _, _, rfl, hf⟩ dX11_room_27

/-! LongTrain.loads -/
set_option maxRecDepth 100000 in
set_option maxHeartbeats 4000000 in
theorem bt_LongTrain_loads_20 {p : Program} {l : Launch} {e : Env} {s : State} {m : MethodId} {below : List Frame} {meth : Method} {c : Code} {A : Nat → Prop} {D : va_G} {k : Nat → ClassId} {a_t : Nat} {d_t : Nat → Nat} {w_t : Nat → Value} {i_t : Nat → Int32} {d_t_free : Nat → Nat} {i_t_free : Nat → Int32} {r_t_tape : Nat → Int32} {d_t_now : Nat → Nat} {w_t_now : Nat → Value} {a_t_now_line : Nat} {d_t_now_line : Nat → Nat} {i_t_now_line : Nat → Int32} {r_t_free_reached : Nat → Int32} {d_t_free_row : Nat → Nat} {i_t_free_row : Nat → Int32} {r_t_now_line_halts : Nat → Int32} {r_t_now_line_first : Nat → Int32} {r_t_free_row_kinds : Nat → Int32} {r_t_free_row_longs : Nat → Int32} {r_t_free_row_weights : Nat → Int32} {r_t_free_row_strengths : Nat → Int32} {r_t_free_row_wears : Nat → Int32} {r_t_free_row_pushes : Nat → Int32} {r_t_free_row_helpers : Nat → Int32} {r_t_now_line_kinds : Nat → Int32} {r_t_free_carriers : Nat → Int32}  {Q : Int32 → (Nat → Int32) → (Nat → Int32) → (Nat → Int32) → (Nat → Int32) → (Nat → Int32) → (Nat → Int32) → (Nat → Int32) → (Nat → Int32) → (Nat → Int32) → (Nat → Int32) → (Nat → Int32) → (Nat → Int32) → Prop} (hw_t_now_line : w_t_now 0 = .ref a_t_now_line) {x1 : Int32} {kx_20 : Prop} {kr_20 : (Int32) → Prop} (F : Fx p m c cX11_loads 3 s ([.ref a_t] : List Value).toArray RX11 D k) (hr : meth.sig.returnType = (some .int)) (hlk : meth.locks = false) (hA : ∀ q : Nat, s.heap.size ≤ q → A q) (hkx_20 : ∀ (H : Heap) (locs : List Loc) (ls : Array Slot), kx_20 → Bd D A s.heap (wd_LongTrain_loads k a_t d_t w_t i_t d_t_free i_t_free r_t_tape d_t_now w_t_now a_t_now_line d_t_now_line i_t_now_line r_t_free_reached d_t_free_row i_t_free_row r_t_now_line_halts r_t_now_line_first r_t_free_row_kinds r_t_free_row_longs r_t_free_row_weights r_t_free_row_strengths r_t_free_row_wears r_t_free_row_pushes r_t_free_row_helpers r_t_now_line_kinds r_t_free_carriers) H locs → lv_has ls 3 [(0, .ref a_t), (1, .int x1)] → W p l e { frames := 6, cells := 0, slots := 0, locals := 141 } s m ([.ref a_t] : List Value).toArray below meth c H locs 0 0 (Ei below (fun r w => ∃ (i_t : Nat → Int32), ∃ (i_t_free : Nat → Int32), ∃ (r_t_free_reached : Nat → Int32), ∃ (i_t_free_row : Nat → Int32), ∃ (r_t_free_row_kinds : Nat → Int32), ∃ (r_t_free_row_longs : Nat → Int32), ∃ (r_t_free_row_weights : Nat → Int32), ∃ (r_t_free_row_strengths : Nat → Int32), ∃ (r_t_free_row_wears : Nat → Int32), ∃ (r_t_free_row_pushes : Nat → Int32), ∃ (r_t_free_row_helpers : Nat → Int32), ∃ (r_t_free_carriers : Nat → Int32), w = (wd_LongTrain_loads k a_t d_t w_t i_t d_t_free i_t_free r_t_tape d_t_now w_t_now a_t_now_line d_t_now_line i_t_now_line r_t_free_reached d_t_free_row i_t_free_row r_t_now_line_halts r_t_now_line_first r_t_free_row_kinds r_t_free_row_longs r_t_free_row_weights r_t_free_row_strengths r_t_free_row_wears r_t_free_row_pushes r_t_free_row_helpers r_t_now_line_kinds r_t_free_carriers) ∧ Q r i_t i_t_free r_t_free_reached i_t_free_row r_t_free_row_kinds r_t_free_row_longs r_t_free_row_weights r_t_free_row_strengths r_t_free_row_wears r_t_free_row_pushes r_t_free_row_helpers r_t_free_carriers) D k A ([.ref a_t] : List Value).toArray s 0 0) (F0 m 46 ls [])) (hkr_20 : ∀ (x2 : Int32) (H : Heap) (locs : List Loc) (ls : Array Slot), kr_20 x2 → Bd D A s.heap (wd_LongTrain_loads k a_t d_t w_t i_t d_t_free i_t_free r_t_tape d_t_now w_t_now a_t_now_line d_t_now_line i_t_now_line r_t_free_reached d_t_free_row i_t_free_row r_t_now_line_halts r_t_now_line_first r_t_free_row_kinds r_t_free_row_longs r_t_free_row_weights r_t_free_row_strengths r_t_free_row_wears r_t_free_row_pushes r_t_free_row_helpers r_t_now_line_kinds r_t_free_carriers) H locs → lv_has ls 3 [(0, .ref a_t), (1, .int x1), (2, .int x2)] → W p l e { frames := 6, cells := 0, slots := 0, locals := 141 } s m ([.ref a_t] : List Value).toArray below meth c H locs 0 0 (Ei below (fun r w => ∃ (i_t : Nat → Int32), ∃ (i_t_free : Nat → Int32), ∃ (r_t_free_reached : Nat → Int32), ∃ (i_t_free_row : Nat → Int32), ∃ (r_t_free_row_kinds : Nat → Int32), ∃ (r_t_free_row_longs : Nat → Int32), ∃ (r_t_free_row_weights : Nat → Int32), ∃ (r_t_free_row_strengths : Nat → Int32), ∃ (r_t_free_row_wears : Nat → Int32), ∃ (r_t_free_row_pushes : Nat → Int32), ∃ (r_t_free_row_helpers : Nat → Int32), ∃ (r_t_free_carriers : Nat → Int32), w = (wd_LongTrain_loads k a_t d_t w_t i_t d_t_free i_t_free r_t_tape d_t_now w_t_now a_t_now_line d_t_now_line i_t_now_line r_t_free_reached d_t_free_row i_t_free_row r_t_now_line_halts r_t_now_line_first r_t_free_row_kinds r_t_free_row_longs r_t_free_row_weights r_t_free_row_strengths r_t_free_row_wears r_t_free_row_pushes r_t_free_row_helpers r_t_now_line_kinds r_t_free_carriers) ∧ Q r i_t i_t_free r_t_free_reached i_t_free_row r_t_free_row_kinds r_t_free_row_longs r_t_free_row_weights r_t_free_row_strengths r_t_free_row_wears r_t_free_row_pushes r_t_free_row_helpers r_t_free_carriers) D k A ([.ref a_t] : List Value).toArray s 0 0) (F0 m 20 ls [])) :
    ∀ (x2 : Int32) (H : Heap) (locs : List Loc) (ls : Array Slot), b_LongTrain_loads_20 i_t i_t_free r_t_tape i_t_now_line r_t_free_reached i_t_free_row r_t_free_row_kinds r_t_free_row_longs r_t_free_row_weights r_t_free_row_strengths r_t_free_row_wears r_t_free_row_pushes r_t_free_row_helpers r_t_free_carriers x1 Q kx_20 kr_20 x2 → Bd D A s.heap (wd_LongTrain_loads k a_t d_t w_t i_t d_t_free i_t_free r_t_tape d_t_now w_t_now a_t_now_line d_t_now_line i_t_now_line r_t_free_reached d_t_free_row i_t_free_row r_t_now_line_halts r_t_now_line_first r_t_free_row_kinds r_t_free_row_longs r_t_free_row_weights r_t_free_row_strengths r_t_free_row_wears r_t_free_row_pushes r_t_free_row_helpers r_t_now_line_kinds r_t_free_carriers) H locs → lv_has ls 3 [(0, .ref a_t), (1, .int x1), (2, .int x2)] → W p l e { frames := 6, cells := 0, slots := 0, locals := 141 } s m ([.ref a_t] : List Value).toArray below meth c H locs 0 0 (Ei below (fun r w => ∃ (i_t : Nat → Int32), ∃ (i_t_free : Nat → Int32), ∃ (r_t_free_reached : Nat → Int32), ∃ (i_t_free_row : Nat → Int32), ∃ (r_t_free_row_kinds : Nat → Int32), ∃ (r_t_free_row_longs : Nat → Int32), ∃ (r_t_free_row_weights : Nat → Int32), ∃ (r_t_free_row_strengths : Nat → Int32), ∃ (r_t_free_row_wears : Nat → Int32), ∃ (r_t_free_row_pushes : Nat → Int32), ∃ (r_t_free_row_helpers : Nat → Int32), ∃ (r_t_free_carriers : Nat → Int32), w = (wd_LongTrain_loads k a_t d_t w_t i_t d_t_free i_t_free r_t_tape d_t_now w_t_now a_t_now_line d_t_now_line i_t_now_line r_t_free_reached d_t_free_row i_t_free_row r_t_now_line_halts r_t_now_line_first r_t_free_row_kinds r_t_free_row_longs r_t_free_row_weights r_t_free_row_strengths r_t_free_row_wears r_t_free_row_pushes r_t_free_row_helpers r_t_now_line_kinds r_t_free_carriers) ∧ Q r i_t i_t_free r_t_free_reached i_t_free_row r_t_free_row_kinds r_t_free_row_longs r_t_free_row_weights r_t_free_row_strengths r_t_free_row_wears r_t_free_row_pushes r_t_free_row_helpers r_t_free_carriers) D k A ([.ref a_t] : List Value).toArray s 0 0) (F0 m 20 ls []) := by
  have hx := F.x
  have hb := F.b
  intro x2 H locs ls hf hB hl
  unfold b_LongTrain_loads_20 at hf
  refine lv_iload_n hx hb dX11_loads_20 rfl (lv_at hl 2 rfl) ?_
  refine lv_iload_n hx hb dX11_loads_21 rfl (lv_at hl 1 rfl) ?_
  refine lv_icmp_ge (tgt := 46) hx hb dX11_loads_22 (by decide) (fun c_7 => ?_) (fun c_7 => ?_)
  · replace hf := hf.1 c_7
    exact hkx_20  _ _ _ hf hB (lv_sub hl [0, 1] rfl)
  · replace hf := hf.2 c_7
    refine lv_aload_n hx hb dX11_loads_25 rfl (lv_at hl 0 rfl) ?_
    refine lv_aload_n hx hb dX11_loads_26 rfl (lv_at hl 0 rfl) ?_
    refine g_get (w := .ref (d_t 0)) F hB 0 rfl fl_RX11_9 rfl dX11_loads_27 ?_
    refine lv_iload_n hx hb dX11_loads_30 rfl (lv_at hl 2 rfl) ?_
    obtain ⟨h_3, hf⟩ := hf
    refine g_iald F hB 2 rfl h_3 dX11_loads_31 ?_
    refine k_vi (wr := [((d_t 9), ob 0 (rfd d_t_free) i_t_free j0), ((d_t 0), ai k 940 r_t_tape), ((d_t_free 7), ai k 8 r_t_free_reached), ((d_t_free 0), ob 8 (rfd d_t_free_row) i_t_free_row j0), ((d_t_now_line 2), ai k 30 r_t_now_line_halts), ((d_t_now_line 8), ai k 8 r_t_now_line_first), ((d_t_free_row 0), ai k 20 r_t_free_row_kinds), ((d_t_free_row 1), ai k 20 r_t_free_row_longs), ((d_t_free_row 2), ai k 20 r_t_free_row_weights), ((d_t_free_row 3), ai k 20 r_t_free_row_strengths), ((d_t_free_row 4), ai k 20 r_t_free_row_wears), ((d_t_free_row 5), ai k 20 r_t_free_row_pushes), ((d_t_free_row 6), ai k 20 r_t_free_row_helpers), ((d_t_now_line 6), ai k 18 r_t_now_line_kinds), ((d_t_free 8), ai k 8 r_t_free_carriers)]) (rest := []) F hA hB (c_LongTrain_isHalt l D k a_t d_t w_t i_t d_t_now w_t_now a_t_now_line d_t_now_line i_t_now_line (r_t_tape (x2).toNatClampNeg) _ hw_t_now_line hf) ml_RX11_131 mv_yX11_isHalt [0, 3, 4] [1, 2, 5, 6, 7, 8, 9, 10, 11, 12, 13, 14, 15, 16, 17] rfl rfl (by decide) (by decide) (by decide) 0 rfl rfl rfl hl.1 rfl (Nat.le_of_ble_eq_true rfl) ⟨Nat.le_of_ble_eq_true rfl, Nat.le_of_ble_eq_true rfl⟩ ⟨Nat.le_of_ble_eq_true rfl, Nat.le_of_ble_eq_true rfl⟩ dX11_loads_32 (fun z_4 w1 H locs hq hB => ?_)
    obtain ⟨h_5, rfl, hf⟩ := hq
    replace hB : Bd D A s.heap (wd_LongTrain_loads k a_t d_t w_t i_t d_t_free i_t_free r_t_tape d_t_now w_t_now a_t_now_line d_t_now_line i_t_now_line r_t_free_reached d_t_free_row i_t_free_row r_t_now_line_halts r_t_now_line_first r_t_free_row_kinds r_t_free_row_longs r_t_free_row_weights r_t_free_row_strengths r_t_free_row_wears r_t_free_row_pushes r_t_free_row_helpers r_t_now_line_kinds r_t_free_carriers) H locs := hB.sub [15, 0, 1, 16, 17, 2, 3, 4, 5, 6, 7, 8, 9, 10, 11, 12, 13, 14] (by decide) rfl
    refine lv_if_ne (tgt := 40) hx hb dX11_loads_35 (by decide) (fun c_6 => ?_) (fun c_6 => ?_)
    · replace hf := hf.1 c_6
      refine lv_iinc (v := (x2 + 1)) (lv' := [(2, .int (x2 + 1)), (0, .ref a_t), (1, .int x1)]) (k := 2) hx hb dX11_loads_40 hl rfl rfl (by decide) rfl (fun ls hl => ?_)
      refine lv_goto (tgt := 20) hx hb dX11_loads_43 (by decide) ?_
      exact hkr_20 _ _ _ _ hf hB (lv_sub hl [1, 2, 0] rfl)
    · replace hf := hf.2 c_6
      refine lv_iconst (v := -1) hx hb dX11_loads_38 (by decide) ?_
      exact r_i F hr hlk hB ⟨_, _, _, _, _, _, _, _, _, _, _, _, rfl, hf⟩ dX11_loads_39

set_option maxRecDepth 100000 in
set_option maxHeartbeats 4000000 in
theorem lt_LongTrain_loads_20 {p : Program} {l : Launch} {e : Env} {s : State} {m : MethodId} {below : List Frame} {meth : Method} {c : Code} {A : Nat → Prop} {D : va_G} {k : Nat → ClassId} {a_t : Nat} {d_t : Nat → Nat} {w_t : Nat → Value} {i_t : Nat → Int32} {d_t_free : Nat → Nat} {i_t_free : Nat → Int32} {r_t_tape : Nat → Int32} {d_t_now : Nat → Nat} {w_t_now : Nat → Value} {a_t_now_line : Nat} {d_t_now_line : Nat → Nat} {i_t_now_line : Nat → Int32} {r_t_free_reached : Nat → Int32} {d_t_free_row : Nat → Nat} {i_t_free_row : Nat → Int32} {r_t_now_line_halts : Nat → Int32} {r_t_now_line_first : Nat → Int32} {r_t_free_row_kinds : Nat → Int32} {r_t_free_row_longs : Nat → Int32} {r_t_free_row_weights : Nat → Int32} {r_t_free_row_strengths : Nat → Int32} {r_t_free_row_wears : Nat → Int32} {r_t_free_row_pushes : Nat → Int32} {r_t_free_row_helpers : Nat → Int32} {r_t_now_line_kinds : Nat → Int32} {r_t_free_carriers : Nat → Int32}  {Q : Int32 → (Nat → Int32) → (Nat → Int32) → (Nat → Int32) → (Nat → Int32) → (Nat → Int32) → (Nat → Int32) → (Nat → Int32) → (Nat → Int32) → (Nat → Int32) → (Nat → Int32) → (Nat → Int32) → (Nat → Int32) → Prop} (hw_t_now_line : w_t_now 0 = .ref a_t_now_line) {x1 : Int32} {kx_20 : Prop} (F : Fx p m c cX11_loads 3 s ([.ref a_t] : List Value).toArray RX11 D k) (hr : meth.sig.returnType = (some .int)) (hlk : meth.locks = false) (hA : ∀ q : Nat, s.heap.size ≤ q → A q) (hkx_20 : ∀ (H : Heap) (locs : List Loc) (ls : Array Slot), kx_20 → Bd D A s.heap (wd_LongTrain_loads k a_t d_t w_t i_t d_t_free i_t_free r_t_tape d_t_now w_t_now a_t_now_line d_t_now_line i_t_now_line r_t_free_reached d_t_free_row i_t_free_row r_t_now_line_halts r_t_now_line_first r_t_free_row_kinds r_t_free_row_longs r_t_free_row_weights r_t_free_row_strengths r_t_free_row_wears r_t_free_row_pushes r_t_free_row_helpers r_t_now_line_kinds r_t_free_carriers) H locs → lv_has ls 3 [(0, .ref a_t), (1, .int x1)] → W p l e { frames := 6, cells := 0, slots := 0, locals := 141 } s m ([.ref a_t] : List Value).toArray below meth c H locs 0 0 (Ei below (fun r w => ∃ (i_t : Nat → Int32), ∃ (i_t_free : Nat → Int32), ∃ (r_t_free_reached : Nat → Int32), ∃ (i_t_free_row : Nat → Int32), ∃ (r_t_free_row_kinds : Nat → Int32), ∃ (r_t_free_row_longs : Nat → Int32), ∃ (r_t_free_row_weights : Nat → Int32), ∃ (r_t_free_row_strengths : Nat → Int32), ∃ (r_t_free_row_wears : Nat → Int32), ∃ (r_t_free_row_pushes : Nat → Int32), ∃ (r_t_free_row_helpers : Nat → Int32), ∃ (r_t_free_carriers : Nat → Int32), w = (wd_LongTrain_loads k a_t d_t w_t i_t d_t_free i_t_free r_t_tape d_t_now w_t_now a_t_now_line d_t_now_line i_t_now_line r_t_free_reached d_t_free_row i_t_free_row r_t_now_line_halts r_t_now_line_first r_t_free_row_kinds r_t_free_row_longs r_t_free_row_weights r_t_free_row_strengths r_t_free_row_wears r_t_free_row_pushes r_t_free_row_helpers r_t_now_line_kinds r_t_free_carriers) ∧ Q r i_t i_t_free r_t_free_reached i_t_free_row r_t_free_row_kinds r_t_free_row_longs r_t_free_row_weights r_t_free_row_strengths r_t_free_row_wears r_t_free_row_pushes r_t_free_row_helpers r_t_free_carriers) D k A ([.ref a_t] : List Value).toArray s 0 0) (F0 m 46 ls [])) :
    ∀ n : Nat, ∀ (x2 : Int32) (H : Heap) (locs : List Loc) (ls : Array Slot), lp_LongTrain_loads_20 i_t i_t_free r_t_tape i_t_now_line r_t_free_reached i_t_free_row r_t_free_row_kinds r_t_free_row_longs r_t_free_row_weights r_t_free_row_strengths r_t_free_row_wears r_t_free_row_pushes r_t_free_row_helpers r_t_free_carriers x1 Q kx_20 n x2 → Bd D A s.heap (wd_LongTrain_loads k a_t d_t w_t i_t d_t_free i_t_free r_t_tape d_t_now w_t_now a_t_now_line d_t_now_line i_t_now_line r_t_free_reached d_t_free_row i_t_free_row r_t_now_line_halts r_t_now_line_first r_t_free_row_kinds r_t_free_row_longs r_t_free_row_weights r_t_free_row_strengths r_t_free_row_wears r_t_free_row_pushes r_t_free_row_helpers r_t_now_line_kinds r_t_free_carriers) H locs → lv_has ls 3 [(0, .ref a_t), (1, .int x1), (2, .int x2)] → W p l e { frames := 6, cells := 0, slots := 0, locals := 141 } s m ([.ref a_t] : List Value).toArray below meth c H locs 0 0 (Ei below (fun r w => ∃ (i_t : Nat → Int32), ∃ (i_t_free : Nat → Int32), ∃ (r_t_free_reached : Nat → Int32), ∃ (i_t_free_row : Nat → Int32), ∃ (r_t_free_row_kinds : Nat → Int32), ∃ (r_t_free_row_longs : Nat → Int32), ∃ (r_t_free_row_weights : Nat → Int32), ∃ (r_t_free_row_strengths : Nat → Int32), ∃ (r_t_free_row_wears : Nat → Int32), ∃ (r_t_free_row_pushes : Nat → Int32), ∃ (r_t_free_row_helpers : Nat → Int32), ∃ (r_t_free_carriers : Nat → Int32), w = (wd_LongTrain_loads k a_t d_t w_t i_t d_t_free i_t_free r_t_tape d_t_now w_t_now a_t_now_line d_t_now_line i_t_now_line r_t_free_reached d_t_free_row i_t_free_row r_t_now_line_halts r_t_now_line_first r_t_free_row_kinds r_t_free_row_longs r_t_free_row_weights r_t_free_row_strengths r_t_free_row_wears r_t_free_row_pushes r_t_free_row_helpers r_t_now_line_kinds r_t_free_carriers) ∧ Q r i_t i_t_free r_t_free_reached i_t_free_row r_t_free_row_kinds r_t_free_row_longs r_t_free_row_weights r_t_free_row_strengths r_t_free_row_wears r_t_free_row_pushes r_t_free_row_helpers r_t_free_carriers) D k A ([.ref a_t] : List Value).toArray s 0 0) (F0 m 20 ls []) := by
  intro n
  induction n with
  | zero => intro x2 H locs ls hf; exact absurd hf (fun h => h)
  | succ n ih => exact bt_LongTrain_loads_20 hw_t_now_line F hr hlk hA hkx_20 ih

set_option maxRecDepth 100000 in
set_option maxHeartbeats 4000000 in
theorem c_LongTrain_loads (l : Launch) (D : va_G) (k : Nat → ClassId) (a_t : Nat) (d_t : Nat → Nat) (w_t : Nat → Value) (i_t : Nat → Int32) (d_t_free : Nat → Nat) (i_t_free : Nat → Int32) (r_t_tape : Nat → Int32) (d_t_now : Nat → Nat) (w_t_now : Nat → Value) (a_t_now_line : Nat) (d_t_now_line : Nat → Nat) (i_t_now_line : Nat → Int32) (r_t_free_reached : Nat → Int32) (d_t_free_row : Nat → Nat) (i_t_free_row : Nat → Int32) (r_t_now_line_halts : Nat → Int32) (r_t_now_line_first : Nat → Int32) (r_t_free_row_kinds : Nat → Int32) (r_t_free_row_longs : Nat → Int32) (r_t_free_row_weights : Nat → Int32) (r_t_free_row_strengths : Nat → Int32) (r_t_free_row_wears : Nat → Int32) (r_t_free_row_pushes : Nat → Int32) (r_t_free_row_helpers : Nat → Int32) (r_t_now_line_kinds : Nat → Int32) (r_t_free_carriers : Nat → Int32)  (Q : Int32 → (Nat → Int32) → (Nat → Int32) → (Nat → Int32) → (Nat → Int32) → (Nat → Int32) → (Nat → Int32) → (Nat → Int32) → (Nat → Int32) → (Nat → Int32) → (Nat → Int32) → (Nat → Int32) → (Nat → Int32) → Prop) (hw_t_now_line : w_t_now 0 = .ref a_t_now_line) (hf : w_LongTrain_loads i_t i_t_free r_t_tape i_t_now_line r_t_free_reached i_t_free_row r_t_now_line_halts r_t_now_line_first r_t_free_row_kinds r_t_free_row_longs r_t_free_row_weights r_t_free_row_strengths r_t_free_row_wears r_t_free_row_pushes r_t_free_row_helpers r_t_now_line_kinds r_t_free_carriers Q) : CtI l yX11_loads cX11_loads 3 (some .int) 6 141 0 0 D k [.ref a_t] (wd_LongTrain_loads k a_t d_t w_t i_t d_t_free i_t_free r_t_tape d_t_now w_t_now a_t_now_line d_t_now_line i_t_now_line r_t_free_reached d_t_free_row i_t_free_row r_t_now_line_halts r_t_now_line_first r_t_free_row_kinds r_t_free_row_longs r_t_free_row_weights r_t_free_row_strengths r_t_free_row_wears r_t_free_row_pushes r_t_free_row_helpers r_t_now_line_kinds r_t_free_carriers) (fun r w => ∃ (i_t : Nat → Int32), ∃ (i_t_free : Nat → Int32), ∃ (r_t_free_reached : Nat → Int32), ∃ (i_t_free_row : Nat → Int32), ∃ (r_t_free_row_kinds : Nat → Int32), ∃ (r_t_free_row_longs : Nat → Int32), ∃ (r_t_free_row_weights : Nat → Int32), ∃ (r_t_free_row_strengths : Nat → Int32), ∃ (r_t_free_row_wears : Nat → Int32), ∃ (r_t_free_row_pushes : Nat → Int32), ∃ (r_t_free_row_helpers : Nat → Int32), ∃ (r_t_free_carriers : Nat → Int32), w = (wd_LongTrain_loads k a_t d_t w_t i_t d_t_free i_t_free r_t_tape d_t_now w_t_now a_t_now_line d_t_now_line i_t_now_line r_t_free_reached d_t_free_row i_t_free_row r_t_now_line_halts r_t_now_line_first r_t_free_row_kinds r_t_free_row_longs r_t_free_row_weights r_t_free_row_strengths r_t_free_row_wears r_t_free_row_pushes r_t_free_row_helpers r_t_now_line_kinds r_t_free_carriers) ∧ Q r i_t i_t_free r_t_free_reached i_t_free_row r_t_free_row_kinds r_t_free_row_longs r_t_free_row_weights r_t_free_row_strengths r_t_free_row_wears r_t_free_row_pushes r_t_free_row_helpers r_t_free_carriers) := by
  refine CtI.of (by decide) (Nat.le_of_ble_eq_true rfl) ?_
  intro p e s m below meth c A F hr hlk hnm hA hB ls hl
  have hx := F.x
  have hb := F.b
  unfold w_LongTrain_loads at hf
  replace hl : lv_has ls 3 [(0, .ref a_t)] := hl
  refine lv_aload_n hx hb dX11_loads_0 rfl (lv_at hl 0 rfl) ?_
  refine k_vi (wr := [((d_t 9), ob 0 (rfd d_t_free) i_t_free j0), ((d_t 0), ai k 940 r_t_tape), ((d_t 5), ob 9 (vmx 9 d_t_now w_t_now) i0 j0), (a_t_now_line, ob 3 (rfd d_t_now_line) i_t_now_line j0), ((d_t_free 7), ai k 8 r_t_free_reached), ((d_t_free 0), ob 8 (rfd d_t_free_row) i_t_free_row j0), ((d_t_now_line 2), ai k 30 r_t_now_line_halts), ((d_t_now_line 8), ai k 8 r_t_now_line_first), ((d_t_free_row 0), ai k 20 r_t_free_row_kinds), ((d_t_free_row 1), ai k 20 r_t_free_row_longs), ((d_t_free_row 2), ai k 20 r_t_free_row_weights), ((d_t_free_row 3), ai k 20 r_t_free_row_strengths), ((d_t_free_row 4), ai k 20 r_t_free_row_wears), ((d_t_free_row 5), ai k 20 r_t_free_row_pushes), ((d_t_free_row 6), ai k 20 r_t_free_row_helpers), ((d_t_now_line 6), ai k 18 r_t_now_line_kinds), ((d_t_free 8), ai k 8 r_t_free_carriers)]) (rest := []) F hA hB (c_LongTrain_takeTape l D k a_t d_t w_t i_t _  hf) ml_RX11_88 mv_yX11_takeTape [0] [1, 2, 3, 4, 5, 6, 7, 8, 9, 10, 11, 12, 13, 14, 15, 16, 17] rfl rfl (by decide) (by decide) (by decide) 0 rfl rfl rfl hl.1 rfl (Nat.le_of_ble_eq_true rfl) ⟨Nat.le_of_ble_eq_true rfl, Nat.le_of_ble_eq_true rfl⟩ ⟨Nat.le_of_ble_eq_true rfl, Nat.le_of_ble_eq_true rfl⟩ dX11_loads_1 (fun z_2 w1 H locs hq hB => ?_)
  obtain ⟨i_t_1, rfl, hf⟩ := hq
  replace hB : Bd D A s.heap (wd_LongTrain_loads k a_t d_t w_t i_t_1 d_t_free i_t_free r_t_tape d_t_now w_t_now a_t_now_line d_t_now_line i_t_now_line r_t_free_reached d_t_free_row i_t_free_row r_t_now_line_halts r_t_now_line_first r_t_free_row_kinds r_t_free_row_longs r_t_free_row_weights r_t_free_row_strengths r_t_free_row_wears r_t_free_row_pushes r_t_free_row_helpers r_t_now_line_kinds r_t_free_carriers) H locs := hB.sub [17, 0, 1, 2, 3, 4, 5, 6, 7, 8, 9, 10, 11, 12, 13, 14, 15, 16] (by decide) rfl
  refine lv_istore_n (lv' := [(1, .int z_2), (0, .ref a_t)]) hx hb dX11_loads_4 rfl hl (by decide) rfl (fun ls hl => ?_)
  refine lv_iload_n hx hb dX11_loads_5 rfl (lv_at hl 0 rfl) ?_
  refine lv_iconst (v := 1) hx hb dX11_loads_6 (by decide) ?_
  refine lv_icmp_lt (tgt := 16) hx hb dX11_loads_7 (by decide) (fun c_22 => ?_) (fun c_22 => ?_)
  · replace hf := hf.1 c_22
    refine lv_iconst (v := -1) hx hb dX11_loads_16 (by decide) ?_
    exact r_i F hr hlk hB ⟨_, _, _, _, _, _, _, _, _, _, _, _, rfl, hf⟩ dX11_loads_17
  · replace hf := hf.2 c_22
    refine lv_iload_n hx hb dX11_loads_10 rfl (lv_at hl 0 rfl) ?_
    refine lv_bipush (v := 8) hx hb dX11_loads_11 (by decide) ?_
    refine lv_icmp_le (tgt := 18) hx hb dX11_loads_13 (by decide) (fun c_21 => ?_) (fun c_21 => ?_)
    · replace hf := hf.1 c_21
      refine lv_iconst (v := 0) hx hb dX11_loads_18 (by decide) ?_
      refine lv_istore_n (lv' := [(2, .int (0 : Int32)), (1, .int z_2), (0, .ref a_t)]) hx hb dX11_loads_19 rfl hl (by decide) rfl (fun ls hl => ?_)
      obtain ⟨n_20, hf⟩ := hf
      refine lt_LongTrain_loads_20 hw_t_now_line F hr hlk hA (fun  H locs ls hf hB hl => ?_) n_20 _ _ _ _ hf hB (lv_sub hl [2, 1, 0] rfl)
      refine lv_aload_n hx hb dX11_loads_46 rfl (lv_at hl 0 rfl) ?_
      refine g_get (w := .ref (d_t 9)) F hB 0 rfl fl_RX11_55 rfl dX11_loads_47 ?_
      refine lv_aload_n hx hb dX11_loads_50 rfl (lv_at hl 0 rfl) ?_
      refine g_get (w := .ref (d_t 5)) F hB 0 rfl fl_RX11_30 rfl dX11_loads_51 ?_
      refine g_get (w := .ref a_t_now_line) F hB 3 rfl fl_RX11_105 hw_t_now_line dX11_loads_54 ?_
      refine lv_aload_n hx hb dX11_loads_57 rfl (lv_at hl 0 rfl) ?_
      refine g_get (w := .ref (d_t 0)) F hB 0 rfl fl_RX11_9 rfl dX11_loads_58 ?_
      refine lv_iload_n hx hb dX11_loads_61 rfl (lv_at hl 1 rfl) ?_
      refine k_vi (wr := [(a_t, ob 11 (vmx 11 d_t w_t) i_t_1 j0), ((d_t 5), ob 9 (vmx 9 d_t_now w_t_now) i0 j0)]) (rest := []) F hA hB (c_Free_loadAll l D k (d_t 9) d_t_free i_t_free a_t_now_line d_t_now_line i_t_now_line (d_t 0) r_t_tape r_t_free_reached d_t_free_row i_t_free_row r_t_now_line_halts r_t_now_line_first r_t_free_row_kinds r_t_free_row_longs r_t_free_row_weights r_t_free_row_strengths r_t_free_row_wears r_t_free_row_pushes r_t_free_row_helpers r_t_now_line_kinds r_t_free_carriers z_2 _  hf) ml_RX11_321 mv_yX0_loadAll [1, 4, 2, 5, 6, 7, 8, 9, 10, 11, 12, 13, 14, 15, 16, 17] [0, 3] rfl rfl (by decide) (by decide) (by decide) 1 rfl rfl rfl hl.1 rfl (Nat.le_of_ble_eq_true rfl) ⟨Nat.le_of_ble_eq_true rfl, Nat.le_of_ble_eq_true rfl⟩ ⟨Nat.le_of_ble_eq_true rfl, Nat.le_of_ble_eq_true rfl⟩ dX11_loads_62 (fun z_19 w1 H locs hq hB => ?_)
      obtain ⟨i_t_free_8, r_t_free_reached_9, i_t_free_row_10, r_t_free_row_kinds_11, r_t_free_row_longs_12, r_t_free_row_weights_13, r_t_free_row_strengths_14, r_t_free_row_wears_15, r_t_free_row_pushes_16, r_t_free_row_helpers_17, r_t_free_carriers_18, rfl, hf⟩ := hq
      replace hB : Bd D A s.heap (wd_LongTrain_loads k a_t d_t w_t i_t_1 d_t_free i_t_free_8 r_t_tape d_t_now w_t_now a_t_now_line d_t_now_line i_t_now_line r_t_free_reached_9 d_t_free_row i_t_free_row_10 r_t_now_line_halts r_t_now_line_first r_t_free_row_kinds_11 r_t_free_row_longs_12 r_t_free_row_weights_13 r_t_free_row_strengths_14 r_t_free_row_wears_15 r_t_free_row_pushes_16 r_t_free_row_helpers_17 r_t_now_line_kinds r_t_free_carriers_18) H locs := hB.sub [0, 2, 4, 1, 3, 5, 6, 7, 8, 9, 10, 11, 12, 13, 14, 15, 16, 17] (by decide) rfl
      exact r_i F hr hlk hB ⟨_, _, _, _, _, _, _, _, _, _, _, _, rfl, hf⟩ dX11_loads_65
    · replace hf := hf.2 c_21
      refine lv_iconst (v := -1) hx hb dX11_loads_16 (by decide) ?_
      exact r_i F hr hlk hB ⟨_, _, _, _, _, _, _, _, _, _, _, _, rfl, hf⟩ dX11_loads_17

/-! LongTrain.load -/
set_option maxRecDepth 100000 in
set_option maxHeartbeats 4000000 in
theorem c_LongTrain_load (l : Launch) (D : va_G) (k : Nat → ClassId) (a_t : Nat) (d_t : Nat → Nat) (w_t : Nat → Value) (i_t : Nat → Int32) (d_t_free : Nat → Nat) (i_t_free : Nat → Int32) (r_t_free_carriers : Nat → Int32) (n1 : Int32) (Q : Int32 → Prop)  (hf : w_LongTrain_load i_t_free r_t_free_carriers n1 Q) : CtI l yX11_load cX11_load 2 (some .int) 0 0 0 0 D k [.ref a_t, .int n1] (wd_LongTrain_load k a_t d_t w_t i_t d_t_free i_t_free r_t_free_carriers) (fun r w => w = (wd_LongTrain_load k a_t d_t w_t i_t d_t_free i_t_free r_t_free_carriers) ∧ Q r) := by
  refine CtI.of (by decide) (Nat.le_of_ble_eq_true rfl) ?_
  intro p e s m below meth c A F hr hlk hnm hA hB ls hl
  have hx := F.x
  have hb := F.b
  unfold w_LongTrain_load at hf
  replace hl : lv_has ls 2 [(0, .ref a_t), (1, .int n1)] := hl
  refine lv_iload_n hx hb dX11_load_0 rfl (lv_at hl 1 rfl) ?_
  refine lv_if_lt (tgt := 15) hx hb dX11_load_1 (by decide) (fun c_3 => ?_) (fun c_3 => ?_)
  · replace hf := hf.1 c_3
    refine lv_iconst (v := -1) hx hb dX11_load_15 (by decide) ?_
    refine lv_goto (tgt := 28) hx hb dX11_load_16 (by decide) ?_
    exact r_i F hr hlk hB ⟨rfl, hf⟩ dX11_load_28
  · replace hf := hf.2 c_3
    refine lv_iload_n hx hb dX11_load_4 rfl (lv_at hl 1 rfl) ?_
    refine lv_aload_n hx hb dX11_load_5 rfl (lv_at hl 0 rfl) ?_
    refine g_get (w := .ref (d_t 9)) F hB 0 rfl fl_RX11_55 rfl dX11_load_6 ?_
    refine g_get (w := .int (i_t_free 9)) F hB 1 rfl fl_RX11_325 rfl dX11_load_9 ?_
    refine lv_icmp_lt (tgt := 19) hx hb dX11_load_12 (by decide) (fun c_2 => ?_) (fun c_2 => ?_)
    · replace hf := hf.1 c_2
      refine lv_aload_n hx hb dX11_load_19 rfl (lv_at hl 0 rfl) ?_
      refine g_get (w := .ref (d_t 9)) F hB 0 rfl fl_RX11_55 rfl dX11_load_20 ?_
      refine g_get (w := .ref (d_t_free 8)) F hB 1 rfl fl_RX11_328 rfl dX11_load_23 ?_
      refine lv_iload_n hx hb dX11_load_26 rfl (lv_at hl 1 rfl) ?_
      obtain ⟨h_1, hf⟩ := hf
      refine g_iald F hB 2 rfl h_1 dX11_load_27 ?_
      exact r_i F hr hlk hB ⟨rfl, hf⟩ dX11_load_28
    · replace hf := hf.2 c_2
      refine lv_iconst (v := -1) hx hb dX11_load_15 (by decide) ?_
      refine lv_goto (tgt := 28) hx hb dX11_load_16 (by decide) ?_
      exact r_i F hr hlk hB ⟨rfl, hf⟩ dX11_load_28

/-! LongTrain.isLongTrain -/
set_option maxRecDepth 100000 in
set_option maxHeartbeats 4000000 in
theorem c_LongTrain_isLongTrain (l : Launch) (D : va_G) (k : Nat → ClassId)  (n0 : Int32) (Q : Int32 → Prop)  (hf : w_LongTrain_isLongTrain n0 Q) : CtI l yX11_isLongTrain cX11_isLongTrain 1 (some .boolean) 0 0 0 0 D k [.int n0] [] (fun r w => (r = 0 ∨ r = 1) ∧ (w = ([] : va_W) ∧ Q r)) := by
  refine CtI.of (by decide) (Nat.le_of_ble_eq_true rfl) ?_
  intro p e s m below meth c A F hr hlk hnm hA hB ls hl
  have hx := F.x
  have hb := F.b
  unfold w_LongTrain_isLongTrain at hf
  replace hl : lv_has ls 1 [(0, .int n0)] := hl
  refine lv_iload_n hx hb dX11_isLongTrain_0 rfl (lv_at hl 0 rfl) ?_
  refine lv_iconst (v := 1) hx hb dX11_isLongTrain_1 (by decide) ?_
  refine lv_icmp_lt (tgt := 16) hx hb dX11_isLongTrain_2 (by decide) (fun c_2 => ?_) (fun c_2 => ?_)
  · replace hf := hf.1 c_2
    refine lv_iconst (v := 0) hx hb dX11_isLongTrain_16 (by decide) ?_
    exact r_z F hr hlk hB (Or.inl rfl) ⟨Or.inl rfl, rfl, hf⟩ dX11_isLongTrain_17
  · replace hf := hf.2 c_2
    refine lv_iload_n hx hb dX11_isLongTrain_5 rfl (lv_at hl 0 rfl) ?_
    refine lv_sipush (v := 400) hx hb dX11_isLongTrain_6 (by decide) ?_
    refine lv_icmp_gt (tgt := 16) hx hb dX11_isLongTrain_9 (by decide) (fun c_1 => ?_) (fun c_1 => ?_)
    · replace hf := hf.1 c_1
      refine lv_iconst (v := 0) hx hb dX11_isLongTrain_16 (by decide) ?_
      exact r_z F hr hlk hB (Or.inl rfl) ⟨Or.inl rfl, rfl, hf⟩ dX11_isLongTrain_17
    · replace hf := hf.2 c_1
      refine lv_iconst (v := 1) hx hb dX11_isLongTrain_12 (by decide) ?_
      refine lv_goto (tgt := 17) hx hb dX11_isLongTrain_13 (by decide) ?_
      exact r_z F hr hlk hB (Or.inr rfl) ⟨Or.inr rfl, rfl, hf⟩ dX11_isLongTrain_17

/-! LongTrain.cross -/
set_option maxRecDepth 100000 in
set_option maxHeartbeats 4000000 in
theorem jt_LongTrain_cross_170 {p : Program} {l : Launch} {e : Env} {s : State} {m : MethodId} {below : List Frame} {meth : Method} {c : Code} {A : Nat → Prop} {D : va_G} {k : Nat → ClassId} {a_t : Nat} {d_t : Nat → Nat} {w_t : Nat → Value} {i_t : Nat → Int32} {d_t_now : Nat → Nat} {w_t_now : Nat → Value} {a_t_now_line : Nat} {d_t_now_line : Nat → Nat} {i_t_now_line : Nat → Int32} {r_t_now_line_loops : Nat → Int32} {n1 : Int32} {n2 : Int32} {n3 : Int32} {n4 : Int32} {n5 : Int32} {Q : Int32 → Prop} (hw_t_now_line : w_t_now 0 = .ref a_t_now_line) {x1 : Int32} {x2 : Int32} {x3 : Int32} {x4 : Int32} {x5 : Int32} {kr_80 : (Int32) → (Int32) → (Int32) → Prop} (F : Fx p m c cX11_cross 15 s ([.ref a_t, .int n1, .int n2, .int n3, .int n4, .int n5] : List Value).toArray RX11 D k) (hr : meth.sig.returnType = (some .int)) (hlk : meth.locks = false) (hA : ∀ q : Nat, s.heap.size ≤ q → A q) (hkr_80 : ∀ (x8 : Int32) (x9 : Int32) (x10 : Int32) (H : Heap) (locs : List Loc) (ls : Array Slot), kr_80 x8 x9 x10 → Bd D A s.heap (wd_LongTrain_cross k a_t d_t w_t i_t d_t_now w_t_now a_t_now_line d_t_now_line i_t_now_line r_t_now_line_loops) H locs → lv_has ls 15 [(1, .int x1), (2, .int x2), (3, .int x3), (4, .int x4), (5, .int x5), (7, .ref a_t_now_line), (8, .int x8), (9, .int x9), (10, .int x10)] → W p l e { frames := 1, cells := 0, slots := 0, locals := 32 } s m ([.ref a_t, .int n1, .int n2, .int n3, .int n4, .int n5] : List Value).toArray below meth c H locs 0 0 (Ei below (fun r w => w = (wd_LongTrain_cross k a_t d_t w_t i_t d_t_now w_t_now a_t_now_line d_t_now_line i_t_now_line r_t_now_line_loops) ∧ Q r) D k A ([.ref a_t, .int n1, .int n2, .int n3, .int n4, .int n5] : List Value).toArray s 0 0) (F0 m 80 ls [])) :
    ∀ (x8 : Int32) (x9 : Int32) (x10 : Int32) (x12 : Int32) (y0 : Int32) (y1 : Int32) (H : Heap) (locs : List Loc) (ls : Array Slot), j_LongTrain_cross_170 x8 x9 x10 x12 y0 y1 kr_80 → Bd D A s.heap (wd_LongTrain_cross k a_t d_t w_t i_t d_t_now w_t_now a_t_now_line d_t_now_line i_t_now_line r_t_now_line_loops) H locs → lv_has ls 15 [(1, .int x1), (2, .int x2), (3, .int x3), (4, .int x4), (5, .int x5), (7, .ref a_t_now_line), (8, .int x8), (9, .int x9), (10, .int x10), (12, .int x12)] → W p l e { frames := 1, cells := 0, slots := 0, locals := 32 } s m ([.ref a_t, .int n1, .int n2, .int n3, .int n4, .int n5] : List Value).toArray below meth c H locs 0 0 (Ei below (fun r w => w = (wd_LongTrain_cross k a_t d_t w_t i_t d_t_now w_t_now a_t_now_line d_t_now_line i_t_now_line r_t_now_line_loops) ∧ Q r) D k A ([.ref a_t, .int n1, .int n2, .int n3, .int n4, .int n5] : List Value).toArray s 0 0) (F0 m 170 ls [.int y0, .int y1]) := by
  have hx := F.x
  have hb := F.b
  intro x8 x9 x10 x12 y0 y1 H locs ls hf hB hl
  unfold j_LongTrain_cross_170 at hf
  refine lv_iadd hx hb dX11_cross_170 ?_
  refine lv_istore (lv' := [(13, .int (y1 + y0)), (1, .int x1), (2, .int x2), (3, .int x3), (4, .int x4), (5, .int x5), (7, .ref a_t_now_line), (8, .int x8), (9, .int x9), (10, .int x10), (12, .int x12)]) hx hb dX11_cross_171 hl (by decide) rfl (fun ls hl => ?_)
  refine lv_iload hx hb dX11_cross_173 (lv_at hl 10 rfl) ?_
  refine lv_iload hx hb dX11_cross_175 (lv_at hl 0 rfl) ?_
  refine k_max F ml_RX11_253 hl.1 (by decide) (Nat.le_of_ble_eq_true rfl) (Nat.zero_le _) (Nat.zero_le _) dX11_cross_177 ?_
  refine lv_istore (lv' := [(14, .int (jmax x12 (y1 + y0))), (13, .int (y1 + y0)), (1, .int x1), (2, .int x2), (3, .int x3), (4, .int x4), (5, .int x5), (7, .ref a_t_now_line), (8, .int x8), (9, .int x9), (10, .int x10), (12, .int x12)]) hx hb dX11_cross_180 hl (by decide) rfl (fun ls hl => ?_)
  refine lv_iload hx hb dX11_cross_182 (lv_at hl 8 rfl) ?_
  refine lv_iconst (v := -1) hx hb dX11_cross_184 (by decide) ?_
  refine lv_icmp_eq (tgt := 195) hx hb dX11_cross_185 (by decide) (fun c_6 => ?_) (fun c_6 => ?_)
  · replace hf := hf.1 c_6
    refine lv_iload hx hb dX11_cross_195 (lv_at hl 10 rfl) ?_
    refine lv_istore (lv' := [(8, .int x10), (14, .int (jmax x12 (y1 + y0))), (13, .int (y1 + y0)), (1, .int x1), (2, .int x2), (3, .int x3), (4, .int x4), (5, .int x5), (7, .ref a_t_now_line), (9, .int x9), (10, .int x10), (12, .int x12)]) hx hb dX11_cross_197 hl (by decide) rfl (fun ls hl => ?_)
    refine lv_iload hx hb dX11_cross_199 (lv_at hl 1 rfl) ?_
    refine lv_istore (lv' := [(9, .int (jmax x12 (y1 + y0))), (8, .int x10), (14, .int (jmax x12 (y1 + y0))), (13, .int (y1 + y0)), (1, .int x1), (2, .int x2), (3, .int x3), (4, .int x4), (5, .int x5), (7, .ref a_t_now_line), (10, .int x10), (12, .int x12)]) hx hb dX11_cross_201 hl (by decide) rfl (fun ls hl => ?_)
    refine lv_iinc (v := (x10 + 1)) (lv' := [(10, .int (x10 + 1)), (9, .int (jmax x12 (y1 + y0))), (8, .int x10), (14, .int (jmax x12 (y1 + y0))), (13, .int (y1 + y0)), (1, .int x1), (2, .int x2), (3, .int x3), (4, .int x4), (5, .int x5), (7, .ref a_t_now_line), (12, .int x12)]) (k := 10) hx hb dX11_cross_203 hl rfl rfl (by decide) rfl (fun ls hl => ?_)
    refine lv_goto (tgt := 80) hx hb dX11_cross_206 (by decide) ?_
    exact hkr_80 _ _ _ _ _ _ hf hB (lv_sub hl [5, 6, 7, 8, 9, 10, 2, 1, 0] rfl)
  · replace hf := hf.2 c_6
    refine lv_iload hx hb dX11_cross_188 (lv_at hl 0 rfl) ?_
    refine lv_iload hx hb dX11_cross_190 (lv_at hl 9 rfl) ?_
    refine lv_icmp_ge (tgt := 203) hx hb dX11_cross_192 (by decide) (fun c_5 => ?_) (fun c_5 => ?_)
    · replace hf := hf.1 c_5
      refine lv_iinc (v := (x10 + 1)) (lv' := [(10, .int (x10 + 1)), (14, .int (jmax x12 (y1 + y0))), (13, .int (y1 + y0)), (1, .int x1), (2, .int x2), (3, .int x3), (4, .int x4), (5, .int x5), (7, .ref a_t_now_line), (8, .int x8), (9, .int x9), (12, .int x12)]) (k := 10) hx hb dX11_cross_203 hl rfl rfl (by decide) rfl (fun ls hl => ?_)
      refine lv_goto (tgt := 80) hx hb dX11_cross_206 (by decide) ?_
      exact hkr_80 _ _ _ _ _ _ hf hB (lv_sub hl [3, 4, 5, 6, 7, 8, 9, 10, 0] rfl)
    · replace hf := hf.2 c_5
      refine lv_iload hx hb dX11_cross_195 (lv_at hl 10 rfl) ?_
      refine lv_istore (lv' := [(8, .int x10), (14, .int (jmax x12 (y1 + y0))), (13, .int (y1 + y0)), (1, .int x1), (2, .int x2), (3, .int x3), (4, .int x4), (5, .int x5), (7, .ref a_t_now_line), (9, .int x9), (10, .int x10), (12, .int x12)]) hx hb dX11_cross_197 hl (by decide) rfl (fun ls hl => ?_)
      refine lv_iload hx hb dX11_cross_199 (lv_at hl 1 rfl) ?_
      refine lv_istore (lv' := [(9, .int (jmax x12 (y1 + y0))), (8, .int x10), (14, .int (jmax x12 (y1 + y0))), (13, .int (y1 + y0)), (1, .int x1), (2, .int x2), (3, .int x3), (4, .int x4), (5, .int x5), (7, .ref a_t_now_line), (10, .int x10), (12, .int x12)]) hx hb dX11_cross_201 hl (by decide) rfl (fun ls hl => ?_)
      refine lv_iinc (v := (x10 + 1)) (lv' := [(10, .int (x10 + 1)), (9, .int (jmax x12 (y1 + y0))), (8, .int x10), (14, .int (jmax x12 (y1 + y0))), (13, .int (y1 + y0)), (1, .int x1), (2, .int x2), (3, .int x3), (4, .int x4), (5, .int x5), (7, .ref a_t_now_line), (12, .int x12)]) (k := 10) hx hb dX11_cross_203 hl rfl rfl (by decide) rfl (fun ls hl => ?_)
      refine lv_goto (tgt := 80) hx hb dX11_cross_206 (by decide) ?_
      exact hkr_80 _ _ _ _ _ _ hf hB (lv_sub hl [5, 6, 7, 8, 9, 10, 2, 1, 0] rfl)

set_option maxRecDepth 100000 in
set_option maxHeartbeats 4000000 in
theorem jt_LongTrain_cross_152 {p : Program} {l : Launch} {e : Env} {s : State} {m : MethodId} {below : List Frame} {meth : Method} {c : Code} {A : Nat → Prop} {D : va_G} {k : Nat → ClassId} {a_t : Nat} {d_t : Nat → Nat} {w_t : Nat → Value} {i_t : Nat → Int32} {d_t_now : Nat → Nat} {w_t_now : Nat → Value} {a_t_now_line : Nat} {d_t_now_line : Nat → Nat} {i_t_now_line : Nat → Int32} {r_t_now_line_loops : Nat → Int32} {n1 : Int32} {n2 : Int32} {n3 : Int32} {n4 : Int32} {n5 : Int32} {Q : Int32 → Prop} (hw_t_now_line : w_t_now 0 = .ref a_t_now_line) {x1 : Int32} {x2 : Int32} {x3 : Int32} {x4 : Int32} {x5 : Int32} {kr_80 : (Int32) → (Int32) → (Int32) → Prop} (F : Fx p m c cX11_cross 15 s ([.ref a_t, .int n1, .int n2, .int n3, .int n4, .int n5] : List Value).toArray RX11 D k) (hr : meth.sig.returnType = (some .int)) (hlk : meth.locks = false) (hA : ∀ q : Nat, s.heap.size ≤ q → A q) (hkr_80 : ∀ (x8 : Int32) (x9 : Int32) (x10 : Int32) (H : Heap) (locs : List Loc) (ls : Array Slot), kr_80 x8 x9 x10 → Bd D A s.heap (wd_LongTrain_cross k a_t d_t w_t i_t d_t_now w_t_now a_t_now_line d_t_now_line i_t_now_line r_t_now_line_loops) H locs → lv_has ls 15 [(1, .int x1), (2, .int x2), (3, .int x3), (4, .int x4), (5, .int x5), (7, .ref a_t_now_line), (8, .int x8), (9, .int x9), (10, .int x10)] → W p l e { frames := 1, cells := 0, slots := 0, locals := 32 } s m ([.ref a_t, .int n1, .int n2, .int n3, .int n4, .int n5] : List Value).toArray below meth c H locs 0 0 (Ei below (fun r w => w = (wd_LongTrain_cross k a_t d_t w_t i_t d_t_now w_t_now a_t_now_line d_t_now_line i_t_now_line r_t_now_line_loops) ∧ Q r) D k A ([.ref a_t, .int n1, .int n2, .int n3, .int n4, .int n5] : List Value).toArray s 0 0) (F0 m 80 ls [])) :
    ∀ (x8 : Int32) (x9 : Int32) (x10 : Int32) (x11 : Int32) (y0 : Int32) (y1 : Int32) (H : Heap) (locs : List Loc) (ls : Array Slot), j_LongTrain_cross_152 x1 x2 x4 x8 x9 x10 x11 y0 y1 kr_80 → Bd D A s.heap (wd_LongTrain_cross k a_t d_t w_t i_t d_t_now w_t_now a_t_now_line d_t_now_line i_t_now_line r_t_now_line_loops) H locs → lv_has ls 15 [(1, .int x1), (2, .int x2), (3, .int x3), (4, .int x4), (5, .int x5), (7, .ref a_t_now_line), (8, .int x8), (9, .int x9), (10, .int x10), (11, .int x11)] → W p l e { frames := 1, cells := 0, slots := 0, locals := 32 } s m ([.ref a_t, .int n1, .int n2, .int n3, .int n4, .int n5] : List Value).toArray below meth c H locs 0 0 (Ei below (fun r w => w = (wd_LongTrain_cross k a_t d_t w_t i_t d_t_now w_t_now a_t_now_line d_t_now_line i_t_now_line r_t_now_line_loops) ∧ Q r) D k A ([.ref a_t, .int n1, .int n2, .int n3, .int n4, .int n5] : List Value).toArray s 0 0) (F0 m 152 ls [.int y0, .int y1]) := by
  have hx := F.x
  have hb := F.b
  intro x8 x9 x10 x11 y0 y1 H locs ls hf hB hl
  unfold j_LongTrain_cross_152 at hf
  refine lv_iadd hx hb dX11_cross_152 ?_
  refine lv_istore (lv' := [(12, .int (y1 + y0)), (1, .int x1), (2, .int x2), (3, .int x3), (4, .int x4), (5, .int x5), (7, .ref a_t_now_line), (8, .int x8), (9, .int x9), (10, .int x10), (11, .int x11)]) hx hb dX11_cross_153 hl (by decide) rfl (fun ls hl => ?_)
  refine lv_iload hx hb dX11_cross_155 (lv_at hl 4 rfl) ?_
  refine lv_iload hx hb dX11_cross_157 (lv_at hl 10 rfl) ?_
  refine lv_isub hx hb dX11_cross_159 ?_
  refine lv_iload_n hx hb dX11_cross_160 rfl (lv_at hl 1 rfl) ?_
  refine lv_iload_n hx hb dX11_cross_161 rfl (lv_at hl 2 rfl) ?_
  refine lv_icmp_gt (tgt := 169) hx hb dX11_cross_162 (by decide) (fun c_7 => ?_) (fun c_7 => ?_)
  · replace hf := hf.1 c_7
    refine lv_iload_n hx hb dX11_cross_169 rfl (lv_at hl 2 rfl) ?_
    exact jt_LongTrain_cross_170 hw_t_now_line F hr hlk hA hkr_80 _ _ _ _ _ _ _ _ _ hf hB (lv_sub hl [1, 2, 3, 4, 5, 6, 7, 8, 9, 0] rfl)
  · replace hf := hf.2 c_7
    refine lv_iconst (v := 0) hx hb dX11_cross_165 (by decide) ?_
    refine lv_goto (tgt := 170) hx hb dX11_cross_166 (by decide) ?_
    exact jt_LongTrain_cross_170 hw_t_now_line F hr hlk hA hkr_80 _ _ _ _ _ _ _ _ _ hf hB (lv_sub hl [1, 2, 3, 4, 5, 6, 7, 8, 9, 0] rfl)

set_option maxRecDepth 100000 in
set_option maxHeartbeats 4000000 in
theorem bt_LongTrain_cross_80 {p : Program} {l : Launch} {e : Env} {s : State} {m : MethodId} {below : List Frame} {meth : Method} {c : Code} {A : Nat → Prop} {D : va_G} {k : Nat → ClassId} {a_t : Nat} {d_t : Nat → Nat} {w_t : Nat → Value} {i_t : Nat → Int32} {d_t_now : Nat → Nat} {w_t_now : Nat → Value} {a_t_now_line : Nat} {d_t_now_line : Nat → Nat} {i_t_now_line : Nat → Int32} {r_t_now_line_loops : Nat → Int32} {n1 : Int32} {n2 : Int32} {n3 : Int32} {n4 : Int32} {n5 : Int32} {Q : Int32 → Prop} (hw_t_now_line : w_t_now 0 = .ref a_t_now_line) {x1 : Int32} {x2 : Int32} {x3 : Int32} {x4 : Int32} {x5 : Int32} {kx_80 : (Int32) → (Int32) → Prop} {kr_80 : (Int32) → (Int32) → (Int32) → Prop} (F : Fx p m c cX11_cross 15 s ([.ref a_t, .int n1, .int n2, .int n3, .int n4, .int n5] : List Value).toArray RX11 D k) (hr : meth.sig.returnType = (some .int)) (hlk : meth.locks = false) (hA : ∀ q : Nat, s.heap.size ≤ q → A q) (hkx_80 : ∀ (x8 : Int32) (x9 : Int32) (H : Heap) (locs : List Loc) (ls : Array Slot), kx_80 x8 x9 → Bd D A s.heap (wd_LongTrain_cross k a_t d_t w_t i_t d_t_now w_t_now a_t_now_line d_t_now_line i_t_now_line r_t_now_line_loops) H locs → lv_has ls 15 [(5, .int x5), (8, .int x8), (9, .int x9)] → W p l e { frames := 1, cells := 0, slots := 0, locals := 32 } s m ([.ref a_t, .int n1, .int n2, .int n3, .int n4, .int n5] : List Value).toArray below meth c H locs 0 0 (Ei below (fun r w => w = (wd_LongTrain_cross k a_t d_t w_t i_t d_t_now w_t_now a_t_now_line d_t_now_line i_t_now_line r_t_now_line_loops) ∧ Q r) D k A ([.ref a_t, .int n1, .int n2, .int n3, .int n4, .int n5] : List Value).toArray s 0 0) (F0 m 209 ls [])) (hkr_80 : ∀ (x8 : Int32) (x9 : Int32) (x10 : Int32) (H : Heap) (locs : List Loc) (ls : Array Slot), kr_80 x8 x9 x10 → Bd D A s.heap (wd_LongTrain_cross k a_t d_t w_t i_t d_t_now w_t_now a_t_now_line d_t_now_line i_t_now_line r_t_now_line_loops) H locs → lv_has ls 15 [(1, .int x1), (2, .int x2), (3, .int x3), (4, .int x4), (5, .int x5), (7, .ref a_t_now_line), (8, .int x8), (9, .int x9), (10, .int x10)] → W p l e { frames := 1, cells := 0, slots := 0, locals := 32 } s m ([.ref a_t, .int n1, .int n2, .int n3, .int n4, .int n5] : List Value).toArray below meth c H locs 0 0 (Ei below (fun r w => w = (wd_LongTrain_cross k a_t d_t w_t i_t d_t_now w_t_now a_t_now_line d_t_now_line i_t_now_line r_t_now_line_loops) ∧ Q r) D k A ([.ref a_t, .int n1, .int n2, .int n3, .int n4, .int n5] : List Value).toArray s 0 0) (F0 m 80 ls [])) :
    ∀ (x8 : Int32) (x9 : Int32) (x10 : Int32) (H : Heap) (locs : List Loc) (ls : Array Slot), b_LongTrain_cross_80 i_t_now_line r_t_now_line_loops x1 x2 x3 x4 kx_80 kr_80 x8 x9 x10 → Bd D A s.heap (wd_LongTrain_cross k a_t d_t w_t i_t d_t_now w_t_now a_t_now_line d_t_now_line i_t_now_line r_t_now_line_loops) H locs → lv_has ls 15 [(1, .int x1), (2, .int x2), (3, .int x3), (4, .int x4), (5, .int x5), (7, .ref a_t_now_line), (8, .int x8), (9, .int x9), (10, .int x10)] → W p l e { frames := 1, cells := 0, slots := 0, locals := 32 } s m ([.ref a_t, .int n1, .int n2, .int n3, .int n4, .int n5] : List Value).toArray below meth c H locs 0 0 (Ei below (fun r w => w = (wd_LongTrain_cross k a_t d_t w_t i_t d_t_now w_t_now a_t_now_line d_t_now_line i_t_now_line r_t_now_line_loops) ∧ Q r) D k A ([.ref a_t, .int n1, .int n2, .int n3, .int n4, .int n5] : List Value).toArray s 0 0) (F0 m 80 ls []) := by
  have hx := F.x
  have hb := F.b
  intro x8 x9 x10 H locs ls hf hB hl
  unfold b_LongTrain_cross_80 at hf
  refine lv_iload hx hb dX11_cross_80 (lv_at hl 8 rfl) ?_
  refine lv_aload hx hb dX11_cross_82 (lv_at hl 5 rfl) ?_
  refine g_get (w := .int (i_t_now_line 5)) F hB 2 rfl fl_RX11_263 rfl dX11_cross_84 ?_
  refine lv_icmp_ge (tgt := 209) hx hb dX11_cross_87 (by decide) (fun c_12 => ?_) (fun c_12 => ?_)
  · replace hf := hf.1 c_12
    exact hkx_80 _ _ _ _ _ hf hB (lv_sub hl [4, 6, 7] rfl)
  · replace hf := hf.2 c_12
    refine lv_aload hx hb dX11_cross_90 (lv_at hl 5 rfl) ?_
    refine g_get (w := .ref (d_t_now_line 4)) F hB 2 rfl fl_RX11_266 rfl dX11_cross_92 ?_
    refine lv_iconst (v := 2) hx hb dX11_cross_95 (by decide) ?_
    refine lv_iload hx hb dX11_cross_96 (lv_at hl 8 rfl) ?_
    refine lv_imul hx hb dX11_cross_98 ?_
    obtain ⟨h_3, hf⟩ := hf
    refine g_iald F hB 3 rfl h_3 dX11_cross_99 ?_
    refine lv_istore (lv' := [(11, .int (r_t_now_line_loops (((2 : Int32) * x10)).toNatClampNeg)), (1, .int x1), (2, .int x2), (3, .int x3), (4, .int x4), (5, .int x5), (7, .ref a_t_now_line), (8, .int x8), (9, .int x9), (10, .int x10)]) hx hb dX11_cross_100 hl (by decide) rfl (fun ls hl => ?_)
    refine lv_iload hx hb dX11_cross_102 (lv_at hl 0 rfl) ?_
    refine lv_iload_n hx hb dX11_cross_104 rfl (lv_at hl 3 rfl) ?_
    refine lv_icmp_lt (tgt := 203) hx hb dX11_cross_105 (by decide) (fun c_11 => ?_) (fun c_11 => ?_)
    · replace hf := hf.1 c_11
      refine lv_iinc (v := (x10 + 1)) (lv' := [(10, .int (x10 + 1)), (11, .int (r_t_now_line_loops (((2 : Int32) * x10)).toNatClampNeg)), (1, .int x1), (2, .int x2), (3, .int x3), (4, .int x4), (5, .int x5), (7, .ref a_t_now_line), (8, .int x8), (9, .int x9)]) (k := 9) hx hb dX11_cross_203 hl rfl rfl (by decide) rfl (fun ls hl => ?_)
      refine lv_goto (tgt := 80) hx hb dX11_cross_206 (by decide) ?_
      exact hkr_80 _ _ _ _ _ _ hf hB (lv_sub hl [2, 3, 4, 5, 6, 7, 8, 9, 0] rfl)
    · replace hf := hf.2 c_11
      refine lv_iload hx hb dX11_cross_108 (lv_at hl 0 rfl) ?_
      refine lv_iload hx hb dX11_cross_110 (lv_at hl 4 rfl) ?_
      refine lv_icmp_gt (tgt := 203) hx hb dX11_cross_112 (by decide) (fun c_10 => ?_) (fun c_10 => ?_)
      · replace hf := hf.1 c_10
        refine lv_iinc (v := (x10 + 1)) (lv' := [(10, .int (x10 + 1)), (11, .int (r_t_now_line_loops (((2 : Int32) * x10)).toNatClampNeg)), (1, .int x1), (2, .int x2), (3, .int x3), (4, .int x4), (5, .int x5), (7, .ref a_t_now_line), (8, .int x8), (9, .int x9)]) (k := 9) hx hb dX11_cross_203 hl rfl rfl (by decide) rfl (fun ls hl => ?_)
        refine lv_goto (tgt := 80) hx hb dX11_cross_206 (by decide) ?_
        exact hkr_80 _ _ _ _ _ _ hf hB (lv_sub hl [2, 3, 4, 5, 6, 7, 8, 9, 0] rfl)
      · replace hf := hf.2 c_10
        refine lv_aload hx hb dX11_cross_115 (lv_at hl 6 rfl) ?_
        refine g_get (w := .ref (d_t_now_line 4)) F hB 2 rfl fl_RX11_266 rfl dX11_cross_117 ?_
        refine lv_iconst (v := 2) hx hb dX11_cross_120 (by decide) ?_
        refine lv_iload hx hb dX11_cross_121 (lv_at hl 9 rfl) ?_
        refine lv_imul hx hb dX11_cross_123 ?_
        refine lv_iconst (v := 1) hx hb dX11_cross_124 (by decide) ?_
        refine lv_iadd hx hb dX11_cross_125 ?_
        obtain ⟨h_4, hf⟩ := hf
        refine g_iald F hB 3 rfl h_4 dX11_cross_126 ?_
        refine lv_iload_n hx hb dX11_cross_127 rfl (lv_at hl 1 rfl) ?_
        refine lv_iload_n hx hb dX11_cross_128 rfl (lv_at hl 2 rfl) ?_
        refine k_min F ml_RX11_248 hl.1 (by decide) (Nat.le_of_ble_eq_true rfl) (Nat.zero_le _) (Nat.zero_le _) dX11_cross_129 ?_
        refine lv_icmp_ge (tgt := 138) hx hb dX11_cross_132 (by decide) (fun c_9 => ?_) (fun c_9 => ?_)
        · replace hf := hf.1 c_9
          refine lv_iload hx hb dX11_cross_138 (lv_at hl 0 rfl) ?_
          refine lv_iload_n hx hb dX11_cross_140 rfl (lv_at hl 3 rfl) ?_
          refine lv_isub hx hb dX11_cross_141 ?_
          refine lv_iload_n hx hb dX11_cross_142 rfl (lv_at hl 1 rfl) ?_
          refine lv_iload_n hx hb dX11_cross_143 rfl (lv_at hl 2 rfl) ?_
          refine lv_icmp_gt (tgt := 151) hx hb dX11_cross_144 (by decide) (fun c_8 => ?_) (fun c_8 => ?_)
          · replace hf := hf.1 c_8
            refine lv_iconst (v := 0) hx hb dX11_cross_151 (by decide) ?_
            exact jt_LongTrain_cross_152 hw_t_now_line F hr hlk hA hkr_80 _ _ _ _ _ _ _ _ _ hf hB (lv_sub hl [1, 2, 3, 4, 5, 6, 7, 8, 9, 0] rfl)
          · replace hf := hf.2 c_8
            refine lv_iload_n hx hb dX11_cross_147 rfl (lv_at hl 1 rfl) ?_
            refine lv_goto (tgt := 152) hx hb dX11_cross_148 (by decide) ?_
            exact jt_LongTrain_cross_152 hw_t_now_line F hr hlk hA hkr_80 _ _ _ _ _ _ _ _ _ hf hB (lv_sub hl [1, 2, 3, 4, 5, 6, 7, 8, 9, 0] rfl)
        · replace hf := hf.2 c_9
          refine lv_goto (tgt := 203) hx hb dX11_cross_135 (by decide) ?_
          refine lv_iinc (v := (x10 + 1)) (lv' := [(10, .int (x10 + 1)), (11, .int (r_t_now_line_loops (((2 : Int32) * x10)).toNatClampNeg)), (1, .int x1), (2, .int x2), (3, .int x3), (4, .int x4), (5, .int x5), (7, .ref a_t_now_line), (8, .int x8), (9, .int x9)]) (k := 9) hx hb dX11_cross_203 hl rfl rfl (by decide) rfl (fun ls hl => ?_)
          refine lv_goto (tgt := 80) hx hb dX11_cross_206 (by decide) ?_
          exact hkr_80 _ _ _ _ _ _ hf hB (lv_sub hl [2, 3, 4, 5, 6, 7, 8, 9, 0] rfl)

set_option maxRecDepth 100000 in
set_option maxHeartbeats 4000000 in
theorem lt_LongTrain_cross_80 {p : Program} {l : Launch} {e : Env} {s : State} {m : MethodId} {below : List Frame} {meth : Method} {c : Code} {A : Nat → Prop} {D : va_G} {k : Nat → ClassId} {a_t : Nat} {d_t : Nat → Nat} {w_t : Nat → Value} {i_t : Nat → Int32} {d_t_now : Nat → Nat} {w_t_now : Nat → Value} {a_t_now_line : Nat} {d_t_now_line : Nat → Nat} {i_t_now_line : Nat → Int32} {r_t_now_line_loops : Nat → Int32} {n1 : Int32} {n2 : Int32} {n3 : Int32} {n4 : Int32} {n5 : Int32} {Q : Int32 → Prop} (hw_t_now_line : w_t_now 0 = .ref a_t_now_line) {x1 : Int32} {x2 : Int32} {x3 : Int32} {x4 : Int32} {x5 : Int32} {kx_80 : (Int32) → (Int32) → Prop} (F : Fx p m c cX11_cross 15 s ([.ref a_t, .int n1, .int n2, .int n3, .int n4, .int n5] : List Value).toArray RX11 D k) (hr : meth.sig.returnType = (some .int)) (hlk : meth.locks = false) (hA : ∀ q : Nat, s.heap.size ≤ q → A q) (hkx_80 : ∀ (x8 : Int32) (x9 : Int32) (H : Heap) (locs : List Loc) (ls : Array Slot), kx_80 x8 x9 → Bd D A s.heap (wd_LongTrain_cross k a_t d_t w_t i_t d_t_now w_t_now a_t_now_line d_t_now_line i_t_now_line r_t_now_line_loops) H locs → lv_has ls 15 [(5, .int x5), (8, .int x8), (9, .int x9)] → W p l e { frames := 1, cells := 0, slots := 0, locals := 32 } s m ([.ref a_t, .int n1, .int n2, .int n3, .int n4, .int n5] : List Value).toArray below meth c H locs 0 0 (Ei below (fun r w => w = (wd_LongTrain_cross k a_t d_t w_t i_t d_t_now w_t_now a_t_now_line d_t_now_line i_t_now_line r_t_now_line_loops) ∧ Q r) D k A ([.ref a_t, .int n1, .int n2, .int n3, .int n4, .int n5] : List Value).toArray s 0 0) (F0 m 209 ls [])) :
    ∀ n : Nat, ∀ (x8 : Int32) (x9 : Int32) (x10 : Int32) (H : Heap) (locs : List Loc) (ls : Array Slot), lp_LongTrain_cross_80 i_t_now_line r_t_now_line_loops x1 x2 x3 x4 kx_80 n x8 x9 x10 → Bd D A s.heap (wd_LongTrain_cross k a_t d_t w_t i_t d_t_now w_t_now a_t_now_line d_t_now_line i_t_now_line r_t_now_line_loops) H locs → lv_has ls 15 [(1, .int x1), (2, .int x2), (3, .int x3), (4, .int x4), (5, .int x5), (7, .ref a_t_now_line), (8, .int x8), (9, .int x9), (10, .int x10)] → W p l e { frames := 1, cells := 0, slots := 0, locals := 32 } s m ([.ref a_t, .int n1, .int n2, .int n3, .int n4, .int n5] : List Value).toArray below meth c H locs 0 0 (Ei below (fun r w => w = (wd_LongTrain_cross k a_t d_t w_t i_t d_t_now w_t_now a_t_now_line d_t_now_line i_t_now_line r_t_now_line_loops) ∧ Q r) D k A ([.ref a_t, .int n1, .int n2, .int n3, .int n4, .int n5] : List Value).toArray s 0 0) (F0 m 80 ls []) := by
  intro n
  induction n with
  | zero => intro x8 x9 x10 H locs ls hf; exact absurd hf (fun h => h)
  | succ n ih => exact bt_LongTrain_cross_80 hw_t_now_line F hr hlk hA hkx_80 ih

set_option maxRecDepth 100000 in
set_option maxHeartbeats 4000000 in
theorem jt_LongTrain_cross_42 {p : Program} {l : Launch} {e : Env} {s : State} {m : MethodId} {below : List Frame} {meth : Method} {c : Code} {A : Nat → Prop} {D : va_G} {k : Nat → ClassId} {a_t : Nat} {d_t : Nat → Nat} {w_t : Nat → Value} {i_t : Nat → Int32} {d_t_now : Nat → Nat} {w_t_now : Nat → Value} {a_t_now_line : Nat} {d_t_now_line : Nat → Nat} {i_t_now_line : Nat → Int32} {r_t_now_line_loops : Nat → Int32} {n1 : Int32} {n2 : Int32} {n3 : Int32} {n4 : Int32} {n5 : Int32} {Q : Int32 → Prop} (hw_t_now_line : w_t_now 0 = .ref a_t_now_line) (F : Fx p m c cX11_cross 15 s ([.ref a_t, .int n1, .int n2, .int n3, .int n4, .int n5] : List Value).toArray RX11 D k) (hr : meth.sig.returnType = (some .int)) (hlk : meth.locks = false) (hA : ∀ q : Nat, s.heap.size ≤ q → A q) :
    ∀ (x1 : Int32) (x2 : Int32) (x3 : Int32) (x4 : Int32) (x5 : Int32) (y0 : Int32) (H : Heap) (locs : List Loc) (ls : Array Slot), j_LongTrain_cross_42 i_t_now_line r_t_now_line_loops x1 x2 x3 x4 x5 y0 Q → Bd D A s.heap (wd_LongTrain_cross k a_t d_t w_t i_t d_t_now w_t_now a_t_now_line d_t_now_line i_t_now_line r_t_now_line_loops) H locs → lv_has ls 15 [(0, .ref a_t), (1, .int x1), (2, .int x2), (3, .int x3), (4, .int x4), (5, .int x5)] → W p l e { frames := 1, cells := 0, slots := 0, locals := 32 } s m ([.ref a_t, .int n1, .int n2, .int n3, .int n4, .int n5] : List Value).toArray below meth c H locs 0 0 (Ei below (fun r w => w = (wd_LongTrain_cross k a_t d_t w_t i_t d_t_now w_t_now a_t_now_line d_t_now_line i_t_now_line r_t_now_line_loops) ∧ Q r) D k A ([.ref a_t, .int n1, .int n2, .int n3, .int n4, .int n5] : List Value).toArray s 0 0) (F0 m 42 ls [.int y0]) := by
  have hx := F.x
  have hb := F.b
  intro x1 x2 x3 x4 x5 y0 H locs ls hf hB hl
  unfold j_LongTrain_cross_42 at hf
  refine lv_istore (lv' := [(6, .int y0), (0, .ref a_t), (1, .int x1), (2, .int x2), (3, .int x3), (4, .int x4), (5, .int x5)]) hx hb dX11_cross_42 hl (by decide) rfl (fun ls hl => ?_)
  refine lv_iload hx hb dX11_cross_44 (lv_at hl 0 rfl) ?_
  refine lv_if_eq (tgt := 60) hx hb dX11_cross_46 (by decide) (fun c_19 => ?_) (fun c_19 => ?_)
  · replace hf := hf.1 c_19
    refine lv_iconst (v := -1) hx hb dX11_cross_60 (by decide) ?_
    exact r_i F hr hlk hB ⟨rfl, hf⟩ dX11_cross_61
  · replace hf := hf.2 c_19
    refine lv_iload hx hb dX11_cross_49 (lv_at hl 6 rfl) ?_
    refine lv_if_lt (tgt := 60) hx hb dX11_cross_51 (by decide) (fun c_18 => ?_) (fun c_18 => ?_)
    · replace hf := hf.1 c_18
      refine lv_iconst (v := -1) hx hb dX11_cross_60 (by decide) ?_
      exact r_i F hr hlk hB ⟨rfl, hf⟩ dX11_cross_61
    · replace hf := hf.2 c_18
      refine lv_iload hx hb dX11_cross_54 (lv_at hl 6 rfl) ?_
      refine lv_iconst (v := 1) hx hb dX11_cross_56 (by decide) ?_
      refine lv_icmp_le (tgt := 62) hx hb dX11_cross_57 (by decide) (fun c_17 => ?_) (fun c_17 => ?_)
      · replace hf := hf.1 c_17
        refine lv_aload_n hx hb dX11_cross_62 rfl (lv_at hl 1 rfl) ?_
        refine g_get (w := .ref (d_t 5)) F hB 0 rfl fl_RX11_30 rfl dX11_cross_63 ?_
        refine g_get (w := .ref a_t_now_line) F hB 1 rfl fl_RX11_105 hw_t_now_line dX11_cross_66 ?_
        refine lv_astore (lv' := [(7, .ref a_t_now_line), (6, .int y0), (0, .ref a_t), (1, .int x1), (2, .int x2), (3, .int x3), (4, .int x4), (5, .int x5)]) hx hb dX11_cross_69 hl (by decide) rfl (fun ls hl => ?_)
        refine lv_iconst (v := -1) hx hb dX11_cross_71 (by decide) ?_
        refine lv_istore (lv' := [(8, .int (-1 : Int32)), (7, .ref a_t_now_line), (6, .int y0), (0, .ref a_t), (1, .int x1), (2, .int x2), (3, .int x3), (4, .int x4), (5, .int x5)]) hx hb dX11_cross_72 hl (by decide) rfl (fun ls hl => ?_)
        refine lv_iconst (v := -1) hx hb dX11_cross_74 (by decide) ?_
        refine lv_istore (lv' := [(9, .int (-1 : Int32)), (8, .int (-1 : Int32)), (7, .ref a_t_now_line), (6, .int y0), (0, .ref a_t), (1, .int x1), (2, .int x2), (3, .int x3), (4, .int x4), (5, .int x5)]) hx hb dX11_cross_75 hl (by decide) rfl (fun ls hl => ?_)
        refine lv_iconst (v := 0) hx hb dX11_cross_77 (by decide) ?_
        refine lv_istore (lv' := [(10, .int (0 : Int32)), (9, .int (-1 : Int32)), (8, .int (-1 : Int32)), (7, .ref a_t_now_line), (6, .int y0), (0, .ref a_t), (1, .int x1), (2, .int x2), (3, .int x3), (4, .int x4), (5, .int x5)]) hx hb dX11_cross_78 hl (by decide) rfl (fun ls hl => ?_)
        obtain ⟨n_16, hf⟩ := hf
        refine lt_LongTrain_cross_80 hw_t_now_line F hr hlk hA (fun x8_13 x9_14 H locs ls hf hB hl => ?_) n_16 _ _ _ _ _ _ hf hB (lv_sub hl [6, 7, 8, 9, 10, 3, 2, 1, 0] rfl)
        refine lv_iload hx hb dX11_cross_209 (lv_at hl 0 rfl) ?_
        refine lv_if_ne (tgt := 219) hx hb dX11_cross_211 (by decide) (fun c_15 => ?_) (fun c_15 => ?_)
        · replace hf := hf.1 c_15
          refine lv_iload hx hb dX11_cross_219 (lv_at hl 2 rfl) ?_
          exact r_i F hr hlk hB ⟨rfl, hf⟩ dX11_cross_221
        · replace hf := hf.2 c_15
          refine lv_iload hx hb dX11_cross_214 (lv_at hl 1 rfl) ?_
          refine lv_goto (tgt := 221) hx hb dX11_cross_216 (by decide) ?_
          exact r_i F hr hlk hB ⟨rfl, hf⟩ dX11_cross_221
      · replace hf := hf.2 c_17
        refine lv_iconst (v := -1) hx hb dX11_cross_60 (by decide) ?_
        exact r_i F hr hlk hB ⟨rfl, hf⟩ dX11_cross_61

set_option maxRecDepth 100000 in
set_option maxHeartbeats 4000000 in
theorem jt_LongTrain_cross_41 {p : Program} {l : Launch} {e : Env} {s : State} {m : MethodId} {below : List Frame} {meth : Method} {c : Code} {A : Nat → Prop} {D : va_G} {k : Nat → ClassId} {a_t : Nat} {d_t : Nat → Nat} {w_t : Nat → Value} {i_t : Nat → Int32} {d_t_now : Nat → Nat} {w_t_now : Nat → Value} {a_t_now_line : Nat} {d_t_now_line : Nat → Nat} {i_t_now_line : Nat → Int32} {r_t_now_line_loops : Nat → Int32} {n1 : Int32} {n2 : Int32} {n3 : Int32} {n4 : Int32} {n5 : Int32} {Q : Int32 → Prop} (hw_t_now_line : w_t_now 0 = .ref a_t_now_line) (F : Fx p m c cX11_cross 15 s ([.ref a_t, .int n1, .int n2, .int n3, .int n4, .int n5] : List Value).toArray RX11 D k) (hr : meth.sig.returnType = (some .int)) (hlk : meth.locks = false) (hA : ∀ q : Nat, s.heap.size ≤ q → A q) :
    ∀ (x1 : Int32) (x2 : Int32) (x3 : Int32) (x4 : Int32) (x5 : Int32) (H : Heap) (locs : List Loc) (ls : Array Slot), j_LongTrain_cross_41 i_t_now_line r_t_now_line_loops x1 x2 x3 x4 x5 Q → Bd D A s.heap (wd_LongTrain_cross k a_t d_t w_t i_t d_t_now w_t_now a_t_now_line d_t_now_line i_t_now_line r_t_now_line_loops) H locs → lv_has ls 15 [(0, .ref a_t), (1, .int x1), (2, .int x2), (3, .int x3), (4, .int x4), (5, .int x5)] → W p l e { frames := 1, cells := 0, slots := 0, locals := 32 } s m ([.ref a_t, .int n1, .int n2, .int n3, .int n4, .int n5] : List Value).toArray below meth c H locs 0 0 (Ei below (fun r w => w = (wd_LongTrain_cross k a_t d_t w_t i_t d_t_now w_t_now a_t_now_line d_t_now_line i_t_now_line r_t_now_line_loops) ∧ Q r) D k A ([.ref a_t, .int n1, .int n2, .int n3, .int n4, .int n5] : List Value).toArray s 0 0) (F0 m 41 ls []) := by
  have hx := F.x
  have hb := F.b
  intro x1 x2 x3 x4 x5 H locs ls hf hB hl
  unfold j_LongTrain_cross_41 at hf
  refine lv_iconst (v := 0) hx hb dX11_cross_41 (by decide) ?_
  exact jt_LongTrain_cross_42 hw_t_now_line F hr hlk hA _ _ _ _ _ _ _ _ _ hf hB (lv_sub hl [0, 1, 2, 3, 4, 5] rfl)

set_option maxRecDepth 100000 in
set_option maxHeartbeats 4000000 in
theorem c_LongTrain_cross (l : Launch) (D : va_G) (k : Nat → ClassId) (a_t : Nat) (d_t : Nat → Nat) (w_t : Nat → Value) (i_t : Nat → Int32) (d_t_now : Nat → Nat) (w_t_now : Nat → Value) (a_t_now_line : Nat) (d_t_now_line : Nat → Nat) (i_t_now_line : Nat → Int32) (r_t_now_line_loops : Nat → Int32) (n1 : Int32) (n2 : Int32) (n3 : Int32) (n4 : Int32) (n5 : Int32) (Q : Int32 → Prop) (hw_t_now_line : w_t_now 0 = .ref a_t_now_line) (hf : w_LongTrain_cross i_t_now_line r_t_now_line_loops n1 n2 n3 n4 n5 Q) : CtI l yX11_cross cX11_cross 15 (some .int) 1 32 0 0 D k [.ref a_t, .int n1, .int n2, .int n3, .int n4, .int n5] (wd_LongTrain_cross k a_t d_t w_t i_t d_t_now w_t_now a_t_now_line d_t_now_line i_t_now_line r_t_now_line_loops) (fun r w => w = (wd_LongTrain_cross k a_t d_t w_t i_t d_t_now w_t_now a_t_now_line d_t_now_line i_t_now_line r_t_now_line_loops) ∧ Q r) := by
  refine CtI.of (by decide) (Nat.le_of_ble_eq_true rfl) ?_
  intro p e s m below meth c A F hr hlk hnm hA hB ls hl
  have hx := F.x
  have hb := F.b
  unfold w_LongTrain_cross at hf
  replace hl : lv_has ls 15 [(0, .ref a_t), (1, .int n1), (2, .int n2), (3, .int n3), (4, .int n4), (5, .int n5)] := hl
  refine lv_iload_n hx hb dX11_cross_0 rfl (lv_at hl 1 rfl) ?_
  refine k_si (wr := [(a_t, ob 11 (vmx 11 d_t w_t) i_t j0), ((d_t 5), ob 9 (vmx 9 d_t_now w_t_now) i0 j0), (a_t_now_line, ob 3 (rfd d_t_now_line) i_t_now_line j0), ((d_t_now_line 4), ai k 16 r_t_now_line_loops)]) (rest := []) F hA hB (c_LongTrain_isLongTrain l D k n1 _  hf) ml_RX11_331 ms_yX11_isLongTrain [] [0, 1, 2, 3] rfl rfl (by decide) (by decide) (by decide) rfl hl.1 rfl (Nat.le_of_ble_eq_true rfl) ⟨Nat.le_of_ble_eq_true rfl, Nat.le_of_ble_eq_true rfl⟩ ⟨Nat.le_of_ble_eq_true rfl, Nat.le_of_ble_eq_true rfl⟩ dX11_cross_1 (fun z_1 w1 H locs hq hB => ?_)
  obtain ⟨h_2, rfl, hf⟩ := hq
  replace hB : Bd D A s.heap (wd_LongTrain_cross k a_t d_t w_t i_t d_t_now w_t_now a_t_now_line d_t_now_line i_t_now_line r_t_now_line_loops) H locs := hB.sub [0, 1, 2, 3] (by decide) rfl
  refine lv_if_eq (tgt := 41) hx hb dX11_cross_4 (by decide) (fun c_30 => ?_) (fun c_30 => ?_)
  · replace hf := hf.1 c_30
    exact jt_LongTrain_cross_41 hw_t_now_line F hr hlk hA _ _ _ _ _ _ _ _ hf hB (lv_sub hl [0, 1, 2, 3, 4, 5] rfl)
  · replace hf := hf.2 c_30
    refine lv_iload_n hx hb dX11_cross_7 rfl (lv_at hl 2 rfl) ?_
    refine k_si (wr := [(a_t, ob 11 (vmx 11 d_t w_t) i_t j0), ((d_t 5), ob 9 (vmx 9 d_t_now w_t_now) i0 j0), (a_t_now_line, ob 3 (rfd d_t_now_line) i_t_now_line j0), ((d_t_now_line 4), ai k 16 r_t_now_line_loops)]) (rest := []) F hA hB (c_LongTrain_isLongTrain l D k n2 _  hf) ml_RX11_331 ms_yX11_isLongTrain [] [0, 1, 2, 3] rfl rfl (by decide) (by decide) (by decide) rfl hl.1 rfl (Nat.le_of_ble_eq_true rfl) ⟨Nat.le_of_ble_eq_true rfl, Nat.le_of_ble_eq_true rfl⟩ ⟨Nat.le_of_ble_eq_true rfl, Nat.le_of_ble_eq_true rfl⟩ dX11_cross_8 (fun z_20 w1 H locs hq hB => ?_)
    obtain ⟨h_21, rfl, hf⟩ := hq
    replace hB : Bd D A s.heap (wd_LongTrain_cross k a_t d_t w_t i_t d_t_now w_t_now a_t_now_line d_t_now_line i_t_now_line r_t_now_line_loops) H locs := hB.sub [0, 1, 2, 3] (by decide) rfl
    refine lv_if_eq (tgt := 41) hx hb dX11_cross_11 (by decide) (fun c_29 => ?_) (fun c_29 => ?_)
    · replace hf := hf.1 c_29
      exact jt_LongTrain_cross_41 hw_t_now_line F hr hlk hA _ _ _ _ _ _ _ _ hf hB (lv_sub hl [0, 1, 2, 3, 4, 5] rfl)
    · replace hf := hf.2 c_29
      refine lv_aload_n hx hb dX11_cross_14 rfl (lv_at hl 0 rfl) ?_
      refine lv_iload_n hx hb dX11_cross_15 rfl (lv_at hl 3 rfl) ?_
      refine k_vi (wr := [((d_t_now_line 4), ai k 16 r_t_now_line_loops)]) (rest := []) F hA hB (c_LongTrain_isUnit l D k a_t d_t w_t i_t d_t_now w_t_now a_t_now_line d_t_now_line i_t_now_line n3 _ hw_t_now_line hf) ml_RX11_244 mv_yX11_isUnit [0, 1, 2] [3] rfl rfl (by decide) (by decide) (by decide) 0 rfl rfl rfl hl.1 rfl (Nat.le_of_ble_eq_true rfl) ⟨Nat.le_of_ble_eq_true rfl, Nat.le_of_ble_eq_true rfl⟩ ⟨Nat.le_of_ble_eq_true rfl, Nat.le_of_ble_eq_true rfl⟩ dX11_cross_16 (fun z_22 w1 H locs hq hB => ?_)
      obtain ⟨h_23, rfl, hf⟩ := hq
      replace hB : Bd D A s.heap (wd_LongTrain_cross k a_t d_t w_t i_t d_t_now w_t_now a_t_now_line d_t_now_line i_t_now_line r_t_now_line_loops) H locs := hB.sub [1, 2, 3, 0] (by decide) rfl
      refine lv_if_eq (tgt := 41) hx hb dX11_cross_19 (by decide) (fun c_28 => ?_) (fun c_28 => ?_)
      · replace hf := hf.1 c_28
        exact jt_LongTrain_cross_41 hw_t_now_line F hr hlk hA _ _ _ _ _ _ _ _ hf hB (lv_sub hl [0, 1, 2, 3, 4, 5] rfl)
      · replace hf := hf.2 c_28
        refine lv_aload_n hx hb dX11_cross_22 rfl (lv_at hl 0 rfl) ?_
        refine lv_iload hx hb dX11_cross_23 (lv_at hl 4 rfl) ?_
        refine k_vi (wr := [((d_t_now_line 4), ai k 16 r_t_now_line_loops)]) (rest := []) F hA hB (c_LongTrain_isUnit l D k a_t d_t w_t i_t d_t_now w_t_now a_t_now_line d_t_now_line i_t_now_line n4 _ hw_t_now_line hf) ml_RX11_244 mv_yX11_isUnit [0, 1, 2] [3] rfl rfl (by decide) (by decide) (by decide) 0 rfl rfl rfl hl.1 rfl (Nat.le_of_ble_eq_true rfl) ⟨Nat.le_of_ble_eq_true rfl, Nat.le_of_ble_eq_true rfl⟩ ⟨Nat.le_of_ble_eq_true rfl, Nat.le_of_ble_eq_true rfl⟩ dX11_cross_25 (fun z_24 w1 H locs hq hB => ?_)
        obtain ⟨h_25, rfl, hf⟩ := hq
        replace hB : Bd D A s.heap (wd_LongTrain_cross k a_t d_t w_t i_t d_t_now w_t_now a_t_now_line d_t_now_line i_t_now_line r_t_now_line_loops) H locs := hB.sub [1, 2, 3, 0] (by decide) rfl
        refine lv_if_eq (tgt := 41) hx hb dX11_cross_28 (by decide) (fun c_27 => ?_) (fun c_27 => ?_)
        · replace hf := hf.1 c_27
          exact jt_LongTrain_cross_41 hw_t_now_line F hr hlk hA _ _ _ _ _ _ _ _ hf hB (lv_sub hl [0, 1, 2, 3, 4, 5] rfl)
        · replace hf := hf.2 c_27
          refine lv_iload_n hx hb dX11_cross_31 rfl (lv_at hl 3 rfl) ?_
          refine lv_iload hx hb dX11_cross_32 (lv_at hl 4 rfl) ?_
          refine lv_icmp_ge (tgt := 41) hx hb dX11_cross_34 (by decide) (fun c_26 => ?_) (fun c_26 => ?_)
          · replace hf := hf.1 c_26
            exact jt_LongTrain_cross_41 hw_t_now_line F hr hlk hA _ _ _ _ _ _ _ _ hf hB (lv_sub hl [0, 1, 2, 3, 4, 5] rfl)
          · replace hf := hf.2 c_26
            refine lv_iconst (v := 1) hx hb dX11_cross_37 (by decide) ?_
            refine lv_goto (tgt := 42) hx hb dX11_cross_38 (by decide) ?_
            exact jt_LongTrain_cross_42 hw_t_now_line F hr hlk hA _ _ _ _ _ _ _ _ _ hf hB (lv_sub hl [0, 1, 2, 3, 4, 5] rfl)

/-! LongTrain.ring -/
set_option maxRecDepth 100000 in
set_option maxHeartbeats 4000000 in
theorem jt_LongTrain_ring_41 {p : Program} {l : Launch} {e : Env} {s : State} {m : MethodId} {below : List Frame} {meth : Method} {c : Code} {A : Nat → Prop} {D : va_G} {k : Nat → ClassId} {a_t : Nat} {d_t : Nat → Nat} {w_t : Nat → Value} {i_t : Nat → Int32} {d_t_now : Nat → Nat} {w_t_now : Nat → Value} {a_t_now_line : Nat} {d_t_now_line : Nat → Nat} {i_t_now_line : Nat → Int32} {r_t_now_line_kinds : Nat → Int32} {n1 : Int32} {n2 : Int32} {n3 : Int32} {n4 : Int32} {Q : Int32 → Prop} (hw_t_now_line : w_t_now 0 = .ref a_t_now_line) (F : Fx p m c cX11_ring 8 s ([.ref a_t, .int n1, .int n2, .int n3, .int n4] : List Value).toArray RX11 D k) (hr : meth.sig.returnType = (some .int)) (hlk : meth.locks = false) (hA : ∀ q : Nat, s.heap.size ≤ q → A q) :
    ∀ (x1 : Int32) (x2 : Int32) (x3 : Int32) (x4 : Int32) (y0 : Int32) (H : Heap) (locs : List Loc) (ls : Array Slot), j_LongTrain_ring_41 i_t_now_line r_t_now_line_kinds x1 x2 x3 x4 y0 Q → Bd D A s.heap (wd_LongTrain_ring k a_t d_t w_t i_t d_t_now w_t_now a_t_now_line d_t_now_line i_t_now_line r_t_now_line_kinds) H locs → lv_has ls 8 [(0, .ref a_t), (1, .int x1), (2, .int x2), (3, .int x3), (4, .int x4)] → W p l e { frames := 1, cells := 0, slots := 0, locals := 21 } s m ([.ref a_t, .int n1, .int n2, .int n3, .int n4] : List Value).toArray below meth c H locs 0 0 (Ei below (fun r w => w = (wd_LongTrain_ring k a_t d_t w_t i_t d_t_now w_t_now a_t_now_line d_t_now_line i_t_now_line r_t_now_line_kinds) ∧ Q r) D k A ([.ref a_t, .int n1, .int n2, .int n3, .int n4] : List Value).toArray s 0 0) (F0 m 41 ls [.int y0]) := by
  have hx := F.x
  have hb := F.b
  intro x1 x2 x3 x4 y0 H locs ls hf hB hl
  unfold j_LongTrain_ring_41 at hf
  refine lv_istore (lv' := [(5, .int y0), (0, .ref a_t), (1, .int x1), (2, .int x2), (3, .int x3), (4, .int x4)]) hx hb dX11_ring_41 hl (by decide) rfl (fun ls hl => ?_)
  refine lv_iload hx hb dX11_ring_43 (lv_at hl 0 rfl) ?_
  refine lv_if_eq (tgt := 57) hx hb dX11_ring_45 (by decide) (fun c_8 => ?_) (fun c_8 => ?_)
  · replace hf := hf.1 c_8
    refine lv_iconst (v := -1) hx hb dX11_ring_57 (by decide) ?_
    exact r_i F hr hlk hB ⟨rfl, hf⟩ dX11_ring_58
  · replace hf := hf.2 c_8
    refine lv_aload_n hx hb dX11_ring_48 rfl (lv_at hl 1 rfl) ?_
    refine lv_iload hx hb dX11_ring_49 (lv_at hl 5 rfl) ?_
    refine k_vi (wr := [((d_t_now_line 6), ai k 18 r_t_now_line_kinds)]) (rest := []) F hA hB (c_LongTrain_isKind l D k a_t d_t w_t i_t d_t_now w_t_now a_t_now_line d_t_now_line i_t_now_line x4 _ hw_t_now_line hf) ml_RX11_141 mv_yX11_isKind [0, 1, 2] [3] rfl rfl (by decide) (by decide) (by decide) 0 rfl rfl rfl hl.1 rfl (Nat.le_of_ble_eq_true rfl) ⟨Nat.le_of_ble_eq_true rfl, Nat.le_of_ble_eq_true rfl⟩ ⟨Nat.le_of_ble_eq_true rfl, Nat.le_of_ble_eq_true rfl⟩ dX11_ring_51 (fun z_1 w1 H locs hq hB => ?_)
    obtain ⟨h_2, rfl, hf⟩ := hq
    replace hB : Bd D A s.heap (wd_LongTrain_ring k a_t d_t w_t i_t d_t_now w_t_now a_t_now_line d_t_now_line i_t_now_line r_t_now_line_kinds) H locs := hB.sub [1, 2, 3, 0] (by decide) rfl
    refine lv_if_ne (tgt := 59) hx hb dX11_ring_54 (by decide) (fun c_7 => ?_) (fun c_7 => ?_)
    · replace hf := hf.1 c_7
      refine lv_iload_n hx hb dX11_ring_59 rfl (lv_at hl 2 rfl) ?_
      refine lv_iload_n hx hb dX11_ring_60 rfl (lv_at hl 3 rfl) ?_
      refine lv_isub hx hb dX11_ring_61 ?_
      refine lv_iload_n hx hb dX11_ring_62 rfl (lv_at hl 4 rfl) ?_
      refine lv_isub hx hb dX11_ring_63 ?_
      refine lv_istore (lv' := [(6, .int ((x1 - x2) - x3)), (5, .int y0), (0, .ref a_t), (1, .int x1), (2, .int x2), (3, .int x3), (4, .int x4)]) hx hb dX11_ring_64 hl (by decide) rfl (fun ls hl => ?_)
      refine lv_aload_n hx hb dX11_ring_66 rfl (lv_at hl 2 rfl) ?_
      refine g_get (w := .ref (d_t 5)) F hB 0 rfl fl_RX11_30 rfl dX11_ring_67 ?_
      refine g_get (w := .ref a_t_now_line) F hB 1 rfl fl_RX11_105 hw_t_now_line dX11_ring_70 ?_
      refine lv_iload hx hb dX11_ring_73 (lv_at hl 6 rfl) ?_
      refine k_vi (wr := [(a_t, ob 11 (vmx 11 d_t w_t) i_t j0), ((d_t 5), ob 9 (vmx 9 d_t_now w_t_now) i0 j0)]) (rest := []) F hA hB (c_Line_longOf l D k a_t_now_line d_t_now_line i_t_now_line r_t_now_line_kinds x4 _  hf) ml_RX11_334 mv_yX3_longOf [2, 3] [0, 1] rfl rfl (by decide) (by decide) (by decide) 2 rfl rfl rfl hl.1 rfl (Nat.le_of_ble_eq_true rfl) ⟨Nat.le_of_ble_eq_true rfl, Nat.le_of_ble_eq_true rfl⟩ ⟨Nat.le_of_ble_eq_true rfl, Nat.le_of_ble_eq_true rfl⟩ dX11_ring_75 (fun z_3 w1 H locs hq hB => ?_)
      obtain ⟨rfl, hf⟩ := hq
      replace hB : Bd D A s.heap (wd_LongTrain_ring k a_t d_t w_t i_t d_t_now w_t_now a_t_now_line d_t_now_line i_t_now_line r_t_now_line_kinds) H locs := hB.sub [0, 1, 2, 3] (by decide) rfl
      refine lv_istore (lv' := [(7, .int z_3), (6, .int ((x1 - x2) - x3)), (5, .int y0), (0, .ref a_t), (1, .int x1), (2, .int x2), (3, .int x3), (4, .int x4)]) hx hb dX11_ring_78 hl (by decide) rfl (fun ls hl => ?_)
      refine lv_iload hx hb dX11_ring_80 (lv_at hl 1 rfl) ?_
      refine lv_if_lt (tgt := 90) hx hb dX11_ring_82 (by decide) (fun c_6 => ?_) (fun c_6 => ?_)
      · replace hf := hf.1 c_6
        refine lv_iconst (v := 0) hx hb dX11_ring_90 (by decide) ?_
        refine lv_goto (tgt := 99) hx hb dX11_ring_91 (by decide) ?_
        exact r_i F hr hlk hB ⟨rfl, hf⟩ dX11_ring_99
      · replace hf := hf.2 c_6
        refine lv_iload hx hb dX11_ring_85 (lv_at hl 0 rfl) ?_
        refine lv_if_gt (tgt := 94) hx hb dX11_ring_87 (by decide) (fun c_5 => ?_) (fun c_5 => ?_)
        · replace hf := hf.1 c_5
          refine lv_iload hx hb dX11_ring_94 (lv_at hl 1 rfl) ?_
          refine lv_iload hx hb dX11_ring_96 (lv_at hl 0 rfl) ?_
          obtain ⟨h_4, hf⟩ := hf
          refine lv_idiv hx hb dX11_ring_98 h_4 ?_
          exact r_i F hr hlk hB ⟨rfl, hf⟩ dX11_ring_99
        · replace hf := hf.2 c_5
          refine lv_iconst (v := 0) hx hb dX11_ring_90 (by decide) ?_
          refine lv_goto (tgt := 99) hx hb dX11_ring_91 (by decide) ?_
          exact r_i F hr hlk hB ⟨rfl, hf⟩ dX11_ring_99
    · replace hf := hf.2 c_7
      refine lv_iconst (v := -1) hx hb dX11_ring_57 (by decide) ?_
      exact r_i F hr hlk hB ⟨rfl, hf⟩ dX11_ring_58

set_option maxRecDepth 100000 in
set_option maxHeartbeats 4000000 in
theorem jt_LongTrain_ring_40 {p : Program} {l : Launch} {e : Env} {s : State} {m : MethodId} {below : List Frame} {meth : Method} {c : Code} {A : Nat → Prop} {D : va_G} {k : Nat → ClassId} {a_t : Nat} {d_t : Nat → Nat} {w_t : Nat → Value} {i_t : Nat → Int32} {d_t_now : Nat → Nat} {w_t_now : Nat → Value} {a_t_now_line : Nat} {d_t_now_line : Nat → Nat} {i_t_now_line : Nat → Int32} {r_t_now_line_kinds : Nat → Int32} {n1 : Int32} {n2 : Int32} {n3 : Int32} {n4 : Int32} {Q : Int32 → Prop} (hw_t_now_line : w_t_now 0 = .ref a_t_now_line) (F : Fx p m c cX11_ring 8 s ([.ref a_t, .int n1, .int n2, .int n3, .int n4] : List Value).toArray RX11 D k) (hr : meth.sig.returnType = (some .int)) (hlk : meth.locks = false) (hA : ∀ q : Nat, s.heap.size ≤ q → A q) :
    ∀ (x1 : Int32) (x2 : Int32) (x3 : Int32) (x4 : Int32) (H : Heap) (locs : List Loc) (ls : Array Slot), j_LongTrain_ring_40 i_t_now_line r_t_now_line_kinds x1 x2 x3 x4 Q → Bd D A s.heap (wd_LongTrain_ring k a_t d_t w_t i_t d_t_now w_t_now a_t_now_line d_t_now_line i_t_now_line r_t_now_line_kinds) H locs → lv_has ls 8 [(0, .ref a_t), (1, .int x1), (2, .int x2), (3, .int x3), (4, .int x4)] → W p l e { frames := 1, cells := 0, slots := 0, locals := 21 } s m ([.ref a_t, .int n1, .int n2, .int n3, .int n4] : List Value).toArray below meth c H locs 0 0 (Ei below (fun r w => w = (wd_LongTrain_ring k a_t d_t w_t i_t d_t_now w_t_now a_t_now_line d_t_now_line i_t_now_line r_t_now_line_kinds) ∧ Q r) D k A ([.ref a_t, .int n1, .int n2, .int n3, .int n4] : List Value).toArray s 0 0) (F0 m 40 ls []) := by
  have hx := F.x
  have hb := F.b
  intro x1 x2 x3 x4 H locs ls hf hB hl
  unfold j_LongTrain_ring_40 at hf
  refine lv_iconst (v := 0) hx hb dX11_ring_40 (by decide) ?_
  exact jt_LongTrain_ring_41 hw_t_now_line F hr hlk hA _ _ _ _ _ _ _ _ hf hB (lv_sub hl [0, 1, 2, 3, 4] rfl)

set_option maxRecDepth 100000 in
set_option maxHeartbeats 4000000 in
theorem c_LongTrain_ring (l : Launch) (D : va_G) (k : Nat → ClassId) (a_t : Nat) (d_t : Nat → Nat) (w_t : Nat → Value) (i_t : Nat → Int32) (d_t_now : Nat → Nat) (w_t_now : Nat → Value) (a_t_now_line : Nat) (d_t_now_line : Nat → Nat) (i_t_now_line : Nat → Int32) (r_t_now_line_kinds : Nat → Int32) (n1 : Int32) (n2 : Int32) (n3 : Int32) (n4 : Int32) (Q : Int32 → Prop) (hw_t_now_line : w_t_now 0 = .ref a_t_now_line) (hf : w_LongTrain_ring i_t_now_line r_t_now_line_kinds n1 n2 n3 n4 Q) : CtI l yX11_ring cX11_ring 8 (some .int) 1 21 0 0 D k [.ref a_t, .int n1, .int n2, .int n3, .int n4] (wd_LongTrain_ring k a_t d_t w_t i_t d_t_now w_t_now a_t_now_line d_t_now_line i_t_now_line r_t_now_line_kinds) (fun r w => w = (wd_LongTrain_ring k a_t d_t w_t i_t d_t_now w_t_now a_t_now_line d_t_now_line i_t_now_line r_t_now_line_kinds) ∧ Q r) := by
  refine CtI.of (by decide) (Nat.le_of_ble_eq_true rfl) ?_
  intro p e s m below meth c A F hr hlk hnm hA hB ls hl
  have hx := F.x
  have hb := F.b
  unfold w_LongTrain_ring at hf
  replace hl : lv_has ls 8 [(0, .ref a_t), (1, .int n1), (2, .int n2), (3, .int n3), (4, .int n4)] := hl
  refine lv_iload_n hx hb dX11_ring_0 rfl (lv_at hl 1 rfl) ?_
  refine lv_iconst (v := 1) hx hb dX11_ring_1 (by decide) ?_
  refine lv_icmp_lt (tgt := 40) hx hb dX11_ring_2 (by decide) (fun c_14 => ?_) (fun c_14 => ?_)
  · replace hf := hf.1 c_14
    exact jt_LongTrain_ring_40 hw_t_now_line F hr hlk hA _ _ _ _ _ _ _ hf hB (lv_sub hl [0, 1, 2, 3, 4] rfl)
  · replace hf := hf.2 c_14
    refine lv_iload_n hx hb dX11_ring_5 rfl (lv_at hl 1 rfl) ?_
    refine lv_sipush (v := 9999) hx hb dX11_ring_6 (by decide) ?_
    refine lv_icmp_gt (tgt := 40) hx hb dX11_ring_9 (by decide) (fun c_13 => ?_) (fun c_13 => ?_)
    · replace hf := hf.1 c_13
      exact jt_LongTrain_ring_40 hw_t_now_line F hr hlk hA _ _ _ _ _ _ _ hf hB (lv_sub hl [0, 1, 2, 3, 4] rfl)
    · replace hf := hf.2 c_13
      refine lv_iload_n hx hb dX11_ring_12 rfl (lv_at hl 2 rfl) ?_
      refine lv_iconst (v := 1) hx hb dX11_ring_13 (by decide) ?_
      refine lv_icmp_lt (tgt := 40) hx hb dX11_ring_14 (by decide) (fun c_12 => ?_) (fun c_12 => ?_)
      · replace hf := hf.1 c_12
        exact jt_LongTrain_ring_40 hw_t_now_line F hr hlk hA _ _ _ _ _ _ _ hf hB (lv_sub hl [0, 1, 2, 3, 4] rfl)
      · replace hf := hf.2 c_12
        refine lv_iload_n hx hb dX11_ring_17 rfl (lv_at hl 2 rfl) ?_
        refine lv_sipush (v := 999) hx hb dX11_ring_18 (by decide) ?_
        refine lv_icmp_gt (tgt := 40) hx hb dX11_ring_21 (by decide) (fun c_11 => ?_) (fun c_11 => ?_)
        · replace hf := hf.1 c_11
          exact jt_LongTrain_ring_40 hw_t_now_line F hr hlk hA _ _ _ _ _ _ _ hf hB (lv_sub hl [0, 1, 2, 3, 4] rfl)
        · replace hf := hf.2 c_11
          refine lv_iload_n hx hb dX11_ring_24 rfl (lv_at hl 3 rfl) ?_
          refine lv_iconst (v := 1) hx hb dX11_ring_25 (by decide) ?_
          refine lv_icmp_lt (tgt := 40) hx hb dX11_ring_26 (by decide) (fun c_10 => ?_) (fun c_10 => ?_)
          · replace hf := hf.1 c_10
            exact jt_LongTrain_ring_40 hw_t_now_line F hr hlk hA _ _ _ _ _ _ _ hf hB (lv_sub hl [0, 1, 2, 3, 4] rfl)
          · replace hf := hf.2 c_10
            refine lv_iload_n hx hb dX11_ring_29 rfl (lv_at hl 3 rfl) ?_
            refine lv_sipush (v := 999) hx hb dX11_ring_30 (by decide) ?_
            refine lv_icmp_gt (tgt := 40) hx hb dX11_ring_33 (by decide) (fun c_9 => ?_) (fun c_9 => ?_)
            · replace hf := hf.1 c_9
              exact jt_LongTrain_ring_40 hw_t_now_line F hr hlk hA _ _ _ _ _ _ _ hf hB (lv_sub hl [0, 1, 2, 3, 4] rfl)
            · replace hf := hf.2 c_9
              refine lv_iconst (v := 1) hx hb dX11_ring_36 (by decide) ?_
              refine lv_goto (tgt := 41) hx hb dX11_ring_37 (by decide) ?_
              exact jt_LongTrain_ring_41 hw_t_now_line F hr hlk hA _ _ _ _ _ _ _ _ hf hB (lv_sub hl [0, 1, 2, 3, 4] rfl)

/-! LongTrain.judge -/
set_option maxRecDepth 100000 in
set_option maxHeartbeats 4000000 in
theorem c_LongTrain_judge (l : Launch) (D : va_G) (k : Nat → ClassId) (a_t : Nat) (d_t : Nat → Nat) (w_t : Nat → Value) (i_t : Nat → Int32) (d_t_court : Nat → Nat) (i_t_court : Nat → Int32) (d_t_trialTrain : Nat → Nat) (i_t_trialTrain : Nat → Int32) (d_t_now : Nat → Nat) (w_t_now : Nat → Value) (a_t_now_plan : Nat) (d_t_now_plan : Nat → Nat) (i_t_now_plan : Nat → Int32) (d_t_now_train : Nat → Nat) (i_t_now_train : Nat → Int32) (d_t_trialTrain_row : Nat → Nat) (i_t_trialTrain_row : Nat → Int32) (d_t_now_train_row : Nat → Nat) (i_t_now_train_row : Nat → Int32) (r_t_now_train_row_kinds : Nat → Int32) (r_t_trialTrain_row_kinds : Nat → Int32) (r_t_now_train_row_longs : Nat → Int32) (r_t_trialTrain_row_longs : Nat → Int32) (r_t_now_train_row_weights : Nat → Int32) (r_t_trialTrain_row_weights : Nat → Int32) (r_t_now_train_row_strengths : Nat → Int32) (r_t_trialTrain_row_strengths : Nat → Int32) (r_t_now_train_row_wears : Nat → Int32) (r_t_trialTrain_row_wears : Nat → Int32) (r_t_now_train_row_pushes : Nat → Int32) (r_t_trialTrain_row_pushes : Nat → Int32) (r_t_now_train_row_helpers : Nat → Int32) (r_t_trialTrain_row_helpers : Nat → Int32) (d_t_trialTrain_halves : Nat → Nat) (i_t_trialTrain_halves : Nat → Int32) (d_t_now_train_halves : Nat → Nat) (i_t_now_train_halves : Nat → Int32) (r_t_now_train_halves_kinds : Nat → Int32) (r_t_trialTrain_halves_kinds : Nat → Int32) (r_t_now_train_halves_starts : Nat → Int32) (r_t_trialTrain_halves_starts : Nat → Int32) (r_t_now_train_halves_sizes : Nat → Int32) (r_t_trialTrain_halves_sizes : Nat → Int32) (r_t_now_train_halves_units : Nat → Int32) (r_t_trialTrain_halves_units : Nat → Int32) (a_t_now_line : Nat) (d_t_now_line : Nat → Nat) (i_t_now_line : Nat → Int32) (r_t_court_told : Nat → Int32) (r_t_now_plan_words : Nat → Int32) (r_t_now_plan_firsts : Nat → Int32) (r_t_now_plan_seconds : Nat → Int32) (r_t_now_line_grades : Nat → Int32) (r_t_now_train_row_bears : Nat → Int32) (r_t_now_line_halts : Nat → Int32) (r_t_now_line_kinds : Nat → Int32) (r_t_trialTrain_row_bears : Nat → Int32) (n1 : Int32) (Q : Int32 → (Nat → Int32) → (Nat → Int32) → (Nat → Int32) → (Nat → Int32) → (Nat → Int32) → (Nat → Int32) → (Nat → Int32) → (Nat → Int32) → (Nat → Int32) → (Nat → Int32) → (Nat → Int32) → (Nat → Int32) → (Nat → Int32) → (Nat → Int32) → (Nat → Int32) → (Nat → Int32) → (Nat → Int32) → (Nat → Int32) → (Nat → Int32) → (Nat → Int32) → (Nat → Int32) → (Nat → Int32) → (Nat → Int32) → (Nat → Int32) → (Nat → Int32) → (Nat → Int32) → (Nat → Int32) → (Nat → Int32) → (Nat → Int32) → (Nat → Int32) → (Nat → Int32) → (Nat → Int32) → Prop) (hw_t_now_plan : w_t_now 1 = .ref a_t_now_plan) (hw_t_now_line : w_t_now 0 = .ref a_t_now_line) (hf : w_LongTrain_judge i_t_court i_t_trialTrain i_t_now_plan i_t_now_train i_t_trialTrain_row i_t_now_train_row r_t_now_train_row_kinds r_t_trialTrain_row_kinds r_t_now_train_row_longs r_t_trialTrain_row_longs r_t_now_train_row_weights r_t_trialTrain_row_weights r_t_now_train_row_strengths r_t_trialTrain_row_strengths r_t_now_train_row_wears r_t_trialTrain_row_wears r_t_now_train_row_pushes r_t_trialTrain_row_pushes r_t_now_train_row_helpers r_t_trialTrain_row_helpers i_t_trialTrain_halves i_t_now_train_halves r_t_now_train_halves_kinds r_t_trialTrain_halves_kinds r_t_now_train_halves_starts r_t_trialTrain_halves_starts r_t_now_train_halves_sizes r_t_trialTrain_halves_sizes r_t_now_train_halves_units r_t_trialTrain_halves_units i_t_now_line r_t_court_told r_t_now_plan_words r_t_now_plan_firsts r_t_now_plan_seconds r_t_now_line_grades r_t_now_train_row_bears r_t_now_line_halts r_t_now_line_kinds r_t_trialTrain_row_bears n1 Q) : CtI l yX11_judge cX11_judge 2 (some .int) 7 175 0 0 D k [.ref a_t, .int n1] (wd_LongTrain_judge k a_t d_t w_t i_t d_t_court i_t_court d_t_trialTrain i_t_trialTrain d_t_now w_t_now a_t_now_plan d_t_now_plan i_t_now_plan d_t_now_train i_t_now_train d_t_trialTrain_row i_t_trialTrain_row d_t_now_train_row i_t_now_train_row r_t_now_train_row_kinds r_t_trialTrain_row_kinds r_t_now_train_row_longs r_t_trialTrain_row_longs r_t_now_train_row_weights r_t_trialTrain_row_weights r_t_now_train_row_strengths r_t_trialTrain_row_strengths r_t_now_train_row_wears r_t_trialTrain_row_wears r_t_now_train_row_pushes r_t_trialTrain_row_pushes r_t_now_train_row_helpers r_t_trialTrain_row_helpers d_t_trialTrain_halves i_t_trialTrain_halves d_t_now_train_halves i_t_now_train_halves r_t_now_train_halves_kinds r_t_trialTrain_halves_kinds r_t_now_train_halves_starts r_t_trialTrain_halves_starts r_t_now_train_halves_sizes r_t_trialTrain_halves_sizes r_t_now_train_halves_units r_t_trialTrain_halves_units a_t_now_line d_t_now_line i_t_now_line r_t_court_told r_t_now_plan_words r_t_now_plan_firsts r_t_now_plan_seconds r_t_now_line_grades r_t_now_train_row_bears r_t_now_line_halts r_t_now_line_kinds r_t_trialTrain_row_bears) (fun r w => ∃ (i_t_court : Nat → Int32), ∃ (i_t_trialTrain : Nat → Int32), ∃ (i_t_now_train : Nat → Int32), ∃ (i_t_trialTrain_row : Nat → Int32), ∃ (i_t_now_train_row : Nat → Int32), ∃ (r_t_now_train_row_kinds : Nat → Int32), ∃ (r_t_trialTrain_row_kinds : Nat → Int32), ∃ (r_t_now_train_row_longs : Nat → Int32), ∃ (r_t_trialTrain_row_longs : Nat → Int32), ∃ (r_t_now_train_row_weights : Nat → Int32), ∃ (r_t_trialTrain_row_weights : Nat → Int32), ∃ (r_t_now_train_row_strengths : Nat → Int32), ∃ (r_t_trialTrain_row_strengths : Nat → Int32), ∃ (r_t_now_train_row_wears : Nat → Int32), ∃ (r_t_trialTrain_row_wears : Nat → Int32), ∃ (r_t_now_train_row_pushes : Nat → Int32), ∃ (r_t_trialTrain_row_pushes : Nat → Int32), ∃ (r_t_now_train_row_helpers : Nat → Int32), ∃ (r_t_trialTrain_row_helpers : Nat → Int32), ∃ (i_t_trialTrain_halves : Nat → Int32), ∃ (i_t_now_train_halves : Nat → Int32), ∃ (r_t_now_train_halves_kinds : Nat → Int32), ∃ (r_t_trialTrain_halves_kinds : Nat → Int32), ∃ (r_t_now_train_halves_starts : Nat → Int32), ∃ (r_t_trialTrain_halves_starts : Nat → Int32), ∃ (r_t_now_train_halves_sizes : Nat → Int32), ∃ (r_t_trialTrain_halves_sizes : Nat → Int32), ∃ (r_t_now_train_halves_units : Nat → Int32), ∃ (r_t_trialTrain_halves_units : Nat → Int32), ∃ (r_t_court_told : Nat → Int32), ∃ (r_t_now_train_row_bears : Nat → Int32), ∃ (r_t_trialTrain_row_bears : Nat → Int32), w = (wd_LongTrain_judge k a_t d_t w_t i_t d_t_court i_t_court d_t_trialTrain i_t_trialTrain d_t_now w_t_now a_t_now_plan d_t_now_plan i_t_now_plan d_t_now_train i_t_now_train d_t_trialTrain_row i_t_trialTrain_row d_t_now_train_row i_t_now_train_row r_t_now_train_row_kinds r_t_trialTrain_row_kinds r_t_now_train_row_longs r_t_trialTrain_row_longs r_t_now_train_row_weights r_t_trialTrain_row_weights r_t_now_train_row_strengths r_t_trialTrain_row_strengths r_t_now_train_row_wears r_t_trialTrain_row_wears r_t_now_train_row_pushes r_t_trialTrain_row_pushes r_t_now_train_row_helpers r_t_trialTrain_row_helpers d_t_trialTrain_halves i_t_trialTrain_halves d_t_now_train_halves i_t_now_train_halves r_t_now_train_halves_kinds r_t_trialTrain_halves_kinds r_t_now_train_halves_starts r_t_trialTrain_halves_starts r_t_now_train_halves_sizes r_t_trialTrain_halves_sizes r_t_now_train_halves_units r_t_trialTrain_halves_units a_t_now_line d_t_now_line i_t_now_line r_t_court_told r_t_now_plan_words r_t_now_plan_firsts r_t_now_plan_seconds r_t_now_line_grades r_t_now_train_row_bears r_t_now_line_halts r_t_now_line_kinds r_t_trialTrain_row_bears) ∧ Q r i_t_court i_t_trialTrain i_t_now_train i_t_trialTrain_row i_t_now_train_row r_t_now_train_row_kinds r_t_trialTrain_row_kinds r_t_now_train_row_longs r_t_trialTrain_row_longs r_t_now_train_row_weights r_t_trialTrain_row_weights r_t_now_train_row_strengths r_t_trialTrain_row_strengths r_t_now_train_row_wears r_t_trialTrain_row_wears r_t_now_train_row_pushes r_t_trialTrain_row_pushes r_t_now_train_row_helpers r_t_trialTrain_row_helpers i_t_trialTrain_halves i_t_now_train_halves r_t_now_train_halves_kinds r_t_trialTrain_halves_kinds r_t_now_train_halves_starts r_t_trialTrain_halves_starts r_t_now_train_halves_sizes r_t_trialTrain_halves_sizes r_t_now_train_halves_units r_t_trialTrain_halves_units r_t_court_told r_t_now_train_row_bears r_t_trialTrain_row_bears) := by
  refine CtI.of (by decide) (Nat.le_of_ble_eq_true rfl) ?_
  intro p e s m below meth c A F hr hlk hnm hA hB ls hl
  have hx := F.x
  have hb := F.b
  unfold w_LongTrain_judge at hf
  replace hl : lv_has ls 2 [(0, .ref a_t), (1, .int n1)] := hl
  refine lv_iload_n hx hb dX11_judge_0 rfl (lv_at hl 1 rfl) ?_
  refine lv_iconst (v := 1) hx hb dX11_judge_1 (by decide) ?_
  refine lv_icmp_ne (tgt := 34) hx hb dX11_judge_2 (by decide) (fun c_52 => ?_) (fun c_52 => ?_)
  · replace hf := hf.1 c_52
    refine lv_iload_n hx hb dX11_judge_34 rfl (lv_at hl 1 rfl) ?_
    refine lv_if_eq (tgt := 41) hx hb dX11_judge_35 (by decide) (fun c_33 => ?_) (fun c_33 => ?_)
    · replace hf := hf.1 c_33
      refine lv_aload_n hx hb dX11_judge_41 rfl (lv_at hl 0 rfl) ?_
      refine g_get (w := .ref (d_t 12)) F hB 0 rfl fl_RX11_76 rfl dX11_judge_42 ?_
      refine lv_aload_n hx hb dX11_judge_45 rfl (lv_at hl 0 rfl) ?_
      refine g_get (w := .ref (d_t 5)) F hB 0 rfl fl_RX11_30 rfl dX11_judge_46 ?_
      refine g_get (w := .ref (d_t_now 2)) F hB 3 rfl fl_RX11_108 rfl dX11_judge_49 ?_
      refine k_vv (wr := [(a_t, ob 11 (vmx 11 d_t w_t) i_t j0), ((d_t 11), ob 2 (rfd d_t_court) i_t_court j0), ((d_t 5), ob 9 (vmx 9 d_t_now w_t_now) i0 j0), (a_t_now_plan, ob 6 (rfd d_t_now_plan) i_t_now_plan j0), (a_t_now_line, ob 3 (rfd d_t_now_line) i_t_now_line j0), ((d_t_court 0), ai k 6 r_t_court_told), ((d_t_now_plan 0), ai k 30 r_t_now_plan_words), ((d_t_now_plan 1), ai k 30 r_t_now_plan_firsts), ((d_t_now_plan 2), ai k 30 r_t_now_plan_seconds), ((d_t_now_line 0), ai k 400 r_t_now_line_grades), ((d_t_now_train_row 7), ai k 20 r_t_now_train_row_bears), ((d_t_now_line 2), ai k 30 r_t_now_line_halts), ((d_t_now_line 6), ai k 18 r_t_now_line_kinds), ((d_t_trialTrain_row 7), ai k 20 r_t_trialTrain_row_bears)]) (rest := []) F hA hB (c_Train_copyFrom l D k (d_t 12) d_t_trialTrain i_t_trialTrain (d_t_now 2) d_t_now_train i_t_now_train d_t_trialTrain_row i_t_trialTrain_row d_t_now_train_row i_t_now_train_row r_t_now_train_row_kinds r_t_trialTrain_row_kinds r_t_now_train_row_longs r_t_trialTrain_row_longs r_t_now_train_row_weights r_t_trialTrain_row_weights r_t_now_train_row_strengths r_t_trialTrain_row_strengths r_t_now_train_row_wears r_t_trialTrain_row_wears r_t_now_train_row_pushes r_t_trialTrain_row_pushes r_t_now_train_row_helpers r_t_trialTrain_row_helpers d_t_trialTrain_halves i_t_trialTrain_halves d_t_now_train_halves i_t_now_train_halves r_t_now_train_halves_kinds r_t_trialTrain_halves_kinds r_t_now_train_halves_starts r_t_trialTrain_halves_starts r_t_now_train_halves_sizes r_t_trialTrain_halves_sizes r_t_now_train_halves_units r_t_trialTrain_halves_units _  hf) ml_RX11_344 mv_yX10_copyFrom [2, 5, 6, 7, 8, 9, 10, 11, 12, 13, 14, 15, 16, 17, 18, 19, 20, 21, 22, 23, 24, 25, 26, 27, 28, 29, 30, 31] [0, 1, 3, 4, 32, 33, 34, 35, 36, 37, 38, 39, 40, 41] rfl rfl (by decide) (by decide) (by decide) 2 rfl rfl rfl hl.1 rfl (Nat.le_of_ble_eq_true rfl) ⟨Nat.le_of_ble_eq_true rfl, Nat.le_of_ble_eq_true rfl⟩ ⟨Nat.le_of_ble_eq_true rfl, Nat.le_of_ble_eq_true rfl⟩ dX11_judge_52 (fun w1 H locs hq hB => ?_)
      obtain ⟨i_t_trialTrain_1, i_t_trialTrain_row_2, r_t_trialTrain_row_kinds_3, r_t_trialTrain_row_longs_4, r_t_trialTrain_row_weights_5, r_t_trialTrain_row_strengths_6, r_t_trialTrain_row_wears_7, r_t_trialTrain_row_pushes_8, r_t_trialTrain_row_helpers_9, i_t_trialTrain_halves_10, r_t_trialTrain_halves_kinds_11, r_t_trialTrain_halves_starts_12, r_t_trialTrain_halves_sizes_13, r_t_trialTrain_halves_units_14, rfl, hf⟩ := hq
      replace hB : Bd D A s.heap (wd_LongTrain_judge k a_t d_t w_t i_t d_t_court i_t_court d_t_trialTrain i_t_trialTrain_1 d_t_now w_t_now a_t_now_plan d_t_now_plan i_t_now_plan d_t_now_train i_t_now_train d_t_trialTrain_row i_t_trialTrain_row_2 d_t_now_train_row i_t_now_train_row r_t_now_train_row_kinds r_t_trialTrain_row_kinds_3 r_t_now_train_row_longs r_t_trialTrain_row_longs_4 r_t_now_train_row_weights r_t_trialTrain_row_weights_5 r_t_now_train_row_strengths r_t_trialTrain_row_strengths_6 r_t_now_train_row_wears r_t_trialTrain_row_wears_7 r_t_now_train_row_pushes r_t_trialTrain_row_pushes_8 r_t_now_train_row_helpers r_t_trialTrain_row_helpers_9 d_t_trialTrain_halves i_t_trialTrain_halves_10 d_t_now_train_halves i_t_now_train_halves r_t_now_train_halves_kinds r_t_trialTrain_halves_kinds_11 r_t_now_train_halves_starts r_t_trialTrain_halves_starts_12 r_t_now_train_halves_sizes r_t_trialTrain_halves_sizes_13 r_t_now_train_halves_units r_t_trialTrain_halves_units_14 a_t_now_line d_t_now_line i_t_now_line r_t_court_told r_t_now_plan_words r_t_now_plan_firsts r_t_now_plan_seconds r_t_now_line_grades r_t_now_train_row_bears r_t_now_line_halts r_t_now_line_kinds r_t_trialTrain_row_bears) H locs := hB.sub [0, 1, 14, 2, 3, 15, 16, 17, 18, 19, 20, 21, 22, 23, 24, 25, 26, 27, 28, 29, 30, 31, 32, 33, 34, 35, 36, 37, 38, 39, 40, 41, 4, 5, 6, 7, 8, 9, 10, 11, 12, 13] (by decide) rfl
      refine lv_aload_n hx hb dX11_judge_55 rfl (lv_at hl 0 rfl) ?_
      refine g_get (w := .ref (d_t 11)) F hB 0 rfl fl_RX11_69 rfl dX11_judge_56 ?_
      refine lv_aload_n hx hb dX11_judge_59 rfl (lv_at hl 0 rfl) ?_
      refine g_get (w := .ref (d_t 5)) F hB 0 rfl fl_RX11_30 rfl dX11_judge_60 ?_
      refine g_get (w := .ref a_t_now_plan) F hB 3 rfl fl_RX11_115 hw_t_now_plan dX11_judge_63 ?_
      refine lv_aload_n hx hb dX11_judge_66 rfl (lv_at hl 0 rfl) ?_
      refine g_get (w := .ref (d_t 5)) F hB 0 rfl fl_RX11_30 rfl dX11_judge_67 ?_
      refine g_get (w := .ref a_t_now_line) F hB 3 rfl fl_RX11_105 hw_t_now_line dX11_judge_70 ?_
      refine lv_aload_n hx hb dX11_judge_73 rfl (lv_at hl 0 rfl) ?_
      refine g_get (w := .ref (d_t 12)) F hB 0 rfl fl_RX11_76 rfl dX11_judge_74 ?_
      refine k_vi (wr := [(a_t, ob 11 (vmx 11 d_t w_t) i_t j0), ((d_t 5), ob 9 (vmx 9 d_t_now w_t_now) i0 j0), ((d_t_now 2), ob 10 (rfd d_t_now_train) i_t_now_train j0), ((d_t_now_train 0), ob 8 (rfd d_t_now_train_row) i_t_now_train_row j0), ((d_t_now_train_row 0), ai k 20 r_t_now_train_row_kinds), ((d_t_now_train_row 1), ai k 20 r_t_now_train_row_longs), ((d_t_now_train_row 2), ai k 20 r_t_now_train_row_weights), ((d_t_now_train_row 3), ai k 20 r_t_now_train_row_strengths), ((d_t_now_train_row 4), ai k 20 r_t_now_train_row_wears), ((d_t_now_train_row 5), ai k 20 r_t_now_train_row_pushes), ((d_t_now_train_row 6), ai k 20 r_t_now_train_row_helpers), ((d_t_now_train 1), ob 1 (rfd d_t_now_train_halves) i_t_now_train_halves j0), ((d_t_now_train_halves 0), ai k 20 r_t_now_train_halves_kinds), ((d_t_now_train_halves 2), ai k 20 r_t_now_train_halves_starts), ((d_t_now_train_halves 3), ai k 20 r_t_now_train_halves_sizes), ((d_t_now_train_halves 4), ai k 20 r_t_now_train_halves_units), ((d_t_now_train_row 7), ai k 20 r_t_now_train_row_bears)]) (rest := []) F hA hB (c_Judge_run l D k (d_t 11) d_t_court i_t_court a_t_now_plan d_t_now_plan i_t_now_plan a_t_now_line d_t_now_line i_t_now_line (d_t 12) d_t_trialTrain i_t_trialTrain_1 r_t_court_told r_t_now_plan_words r_t_now_plan_firsts r_t_now_plan_seconds d_t_trialTrain_row i_t_trialTrain_row_2 r_t_trialTrain_row_helpers_9 r_t_trialTrain_row_pushes_8 d_t_trialTrain_halves i_t_trialTrain_halves_10 r_t_trialTrain_halves_starts_12 r_t_trialTrain_halves_sizes_13 r_t_trialTrain_halves_units_14 r_t_trialTrain_row_longs_4 r_t_trialTrain_halves_kinds_11 r_t_trialTrain_row_kinds_3 r_t_now_line_grades r_t_trialTrain_row_weights_5 r_t_trialTrain_row_bears r_t_trialTrain_row_strengths_6 r_t_trialTrain_row_wears_7 r_t_now_line_halts r_t_now_line_kinds _  hf) ml_RX11_340 mv_yX2_run [1, 4, 32, 2, 33, 34, 35, 36, 6, 21, 19, 22, 27, 29, 31, 11, 25, 9, 37, 13, 41, 15, 17, 39, 40] [0, 3, 5, 7, 8, 10, 12, 14, 16, 18, 20, 23, 24, 26, 28, 30, 38] rfl rfl (by decide) (by decide) (by decide) 1 rfl rfl rfl hl.1 rfl (Nat.le_of_ble_eq_true rfl) ⟨Nat.le_of_ble_eq_true rfl, Nat.le_of_ble_eq_true rfl⟩ ⟨Nat.le_of_ble_eq_true rfl, Nat.le_of_ble_eq_true rfl⟩ dX11_judge_77 (fun z_32 w1 H locs hq hB => ?_)
      obtain ⟨i_t_court_15, i_t_trialTrain_16, r_t_court_told_17, i_t_trialTrain_row_18, r_t_trialTrain_row_helpers_19, r_t_trialTrain_row_pushes_20, i_t_trialTrain_halves_21, r_t_trialTrain_halves_starts_22, r_t_trialTrain_halves_sizes_23, r_t_trialTrain_halves_units_24, r_t_trialTrain_row_longs_25, r_t_trialTrain_halves_kinds_26, r_t_trialTrain_row_kinds_27, r_t_trialTrain_row_weights_28, r_t_trialTrain_row_bears_29, r_t_trialTrain_row_strengths_30, r_t_trialTrain_row_wears_31, rfl, hf⟩ := hq
      replace hB : Bd D A s.heap (wd_LongTrain_judge k a_t d_t w_t i_t d_t_court i_t_court_15 d_t_trialTrain i_t_trialTrain_16 d_t_now w_t_now a_t_now_plan d_t_now_plan i_t_now_plan d_t_now_train i_t_now_train d_t_trialTrain_row i_t_trialTrain_row_18 d_t_now_train_row i_t_now_train_row r_t_now_train_row_kinds r_t_trialTrain_row_kinds_27 r_t_now_train_row_longs r_t_trialTrain_row_longs_25 r_t_now_train_row_weights r_t_trialTrain_row_weights_28 r_t_now_train_row_strengths r_t_trialTrain_row_strengths_30 r_t_now_train_row_wears r_t_trialTrain_row_wears_31 r_t_now_train_row_pushes r_t_trialTrain_row_pushes_20 r_t_now_train_row_helpers r_t_trialTrain_row_helpers_19 d_t_trialTrain_halves i_t_trialTrain_halves_21 d_t_now_train_halves i_t_now_train_halves r_t_now_train_halves_kinds r_t_trialTrain_halves_kinds_26 r_t_now_train_halves_starts r_t_trialTrain_halves_starts_22 r_t_now_train_halves_sizes r_t_trialTrain_halves_sizes_23 r_t_now_train_halves_units r_t_trialTrain_halves_units_24 a_t_now_line d_t_now_line i_t_now_line r_t_court_told_17 r_t_now_plan_words r_t_now_plan_firsts r_t_now_plan_seconds r_t_now_line_grades r_t_now_train_row_bears r_t_now_line_halts r_t_now_line_kinds r_t_trialTrain_row_bears_29) H locs := hB.sub [0, 17, 20, 1, 18, 2, 25, 3, 4, 34, 5, 32, 6, 36, 7, 38, 8, 39, 9, 27, 10, 26, 28, 11, 12, 33, 13, 29, 14, 30, 15, 31, 19, 21, 22, 23, 24, 35, 16, 40, 41, 37] (by decide) rfl
      exact r_i F hr hlk hB ⟨_, _, _, _, _, _, _, _, _, _, _, _, _, _, _, _, _, _, _, _, _, _, _, _, _, _, _, _, _, _, _, _, rfl, hf⟩ dX11_judge_80
    · replace hf := hf.2 c_33
      refine lv_bipush (v := -2) hx hb dX11_judge_38 (by decide) ?_
      exact r_i F hr hlk hB ⟨_, _, _, _, _, _, _, _, _, _, _, _, _, _, _, _, _, _, _, _, _, _, _, _, _, _, _, _, _, _, _, _, rfl, hf⟩ dX11_judge_40
  · replace hf := hf.2 c_52
    refine lv_aload_n hx hb dX11_judge_5 rfl (lv_at hl 0 rfl) ?_
    refine g_get (w := .ref (d_t 11)) F hB 0 rfl fl_RX11_69 rfl dX11_judge_6 ?_
    refine lv_aload_n hx hb dX11_judge_9 rfl (lv_at hl 0 rfl) ?_
    refine g_get (w := .ref (d_t 5)) F hB 0 rfl fl_RX11_30 rfl dX11_judge_10 ?_
    refine g_get (w := .ref a_t_now_plan) F hB 3 rfl fl_RX11_115 hw_t_now_plan dX11_judge_13 ?_
    refine lv_aload_n hx hb dX11_judge_16 rfl (lv_at hl 0 rfl) ?_
    refine g_get (w := .ref (d_t 5)) F hB 0 rfl fl_RX11_30 rfl dX11_judge_17 ?_
    refine g_get (w := .ref a_t_now_line) F hB 3 rfl fl_RX11_105 hw_t_now_line dX11_judge_20 ?_
    refine lv_aload_n hx hb dX11_judge_23 rfl (lv_at hl 0 rfl) ?_
    refine g_get (w := .ref (d_t 5)) F hB 0 rfl fl_RX11_30 rfl dX11_judge_24 ?_
    refine g_get (w := .ref (d_t_now 2)) F hB 3 rfl fl_RX11_108 rfl dX11_judge_27 ?_
    refine k_vi (wr := [(a_t, ob 11 (vmx 11 d_t w_t) i_t j0), ((d_t 12), ob 10 (rfd d_t_trialTrain) i_t_trialTrain j0), ((d_t 5), ob 9 (vmx 9 d_t_now w_t_now) i0 j0), ((d_t_trialTrain 0), ob 8 (rfd d_t_trialTrain_row) i_t_trialTrain_row j0), ((d_t_trialTrain_row 0), ai k 20 r_t_trialTrain_row_kinds), ((d_t_trialTrain_row 1), ai k 20 r_t_trialTrain_row_longs), ((d_t_trialTrain_row 2), ai k 20 r_t_trialTrain_row_weights), ((d_t_trialTrain_row 3), ai k 20 r_t_trialTrain_row_strengths), ((d_t_trialTrain_row 4), ai k 20 r_t_trialTrain_row_wears), ((d_t_trialTrain_row 5), ai k 20 r_t_trialTrain_row_pushes), ((d_t_trialTrain_row 6), ai k 20 r_t_trialTrain_row_helpers), ((d_t_trialTrain 1), ob 1 (rfd d_t_trialTrain_halves) i_t_trialTrain_halves j0), ((d_t_trialTrain_halves 0), ai k 20 r_t_trialTrain_halves_kinds), ((d_t_trialTrain_halves 2), ai k 20 r_t_trialTrain_halves_starts), ((d_t_trialTrain_halves 3), ai k 20 r_t_trialTrain_halves_sizes), ((d_t_trialTrain_halves 4), ai k 20 r_t_trialTrain_halves_units), ((d_t_trialTrain_row 7), ai k 20 r_t_trialTrain_row_bears)]) (rest := []) F hA hB (c_Judge_run l D k (d_t 11) d_t_court i_t_court a_t_now_plan d_t_now_plan i_t_now_plan a_t_now_line d_t_now_line i_t_now_line (d_t_now 2) d_t_now_train i_t_now_train r_t_court_told r_t_now_plan_words r_t_now_plan_firsts r_t_now_plan_seconds d_t_now_train_row i_t_now_train_row r_t_now_train_row_helpers r_t_now_train_row_pushes d_t_now_train_halves i_t_now_train_halves r_t_now_train_halves_starts r_t_now_train_halves_sizes r_t_now_train_halves_units r_t_now_train_row_longs r_t_now_train_halves_kinds r_t_now_train_row_kinds r_t_now_line_grades r_t_now_train_row_weights r_t_now_train_row_bears r_t_now_train_row_strengths r_t_now_train_row_wears r_t_now_line_halts r_t_now_line_kinds _  hf) ml_RX11_340 mv_yX2_run [1, 4, 32, 5, 33, 34, 35, 36, 7, 20, 18, 23, 26, 28, 30, 10, 24, 8, 37, 12, 38, 14, 16, 39, 40] [0, 2, 3, 6, 9, 11, 13, 15, 17, 19, 21, 22, 25, 27, 29, 31, 41] rfl rfl (by decide) (by decide) (by decide) 1 rfl rfl rfl hl.1 rfl (Nat.le_of_ble_eq_true rfl) ⟨Nat.le_of_ble_eq_true rfl, Nat.le_of_ble_eq_true rfl⟩ ⟨Nat.le_of_ble_eq_true rfl, Nat.le_of_ble_eq_true rfl⟩ dX11_judge_30 (fun z_51 w1 H locs hq hB => ?_)
    obtain ⟨i_t_court_34, i_t_now_train_35, r_t_court_told_36, i_t_now_train_row_37, r_t_now_train_row_helpers_38, r_t_now_train_row_pushes_39, i_t_now_train_halves_40, r_t_now_train_halves_starts_41, r_t_now_train_halves_sizes_42, r_t_now_train_halves_units_43, r_t_now_train_row_longs_44, r_t_now_train_halves_kinds_45, r_t_now_train_row_kinds_46, r_t_now_train_row_weights_47, r_t_now_train_row_bears_48, r_t_now_train_row_strengths_49, r_t_now_train_row_wears_50, rfl, hf⟩ := hq
    replace hB : Bd D A s.heap (wd_LongTrain_judge k a_t d_t w_t i_t d_t_court i_t_court_34 d_t_trialTrain i_t_trialTrain d_t_now w_t_now a_t_now_plan d_t_now_plan i_t_now_plan d_t_now_train i_t_now_train_35 d_t_trialTrain_row i_t_trialTrain_row d_t_now_train_row i_t_now_train_row_37 r_t_now_train_row_kinds_46 r_t_trialTrain_row_kinds r_t_now_train_row_longs_44 r_t_trialTrain_row_longs r_t_now_train_row_weights_47 r_t_trialTrain_row_weights r_t_now_train_row_strengths_49 r_t_trialTrain_row_strengths r_t_now_train_row_wears_50 r_t_trialTrain_row_wears r_t_now_train_row_pushes_39 r_t_trialTrain_row_pushes r_t_now_train_row_helpers_38 r_t_trialTrain_row_helpers d_t_trialTrain_halves i_t_trialTrain_halves d_t_now_train_halves i_t_now_train_halves_40 r_t_now_train_halves_kinds_45 r_t_trialTrain_halves_kinds r_t_now_train_halves_starts_41 r_t_trialTrain_halves_starts r_t_now_train_halves_sizes_42 r_t_trialTrain_halves_sizes r_t_now_train_halves_units_43 r_t_trialTrain_halves_units a_t_now_line d_t_now_line i_t_now_line r_t_court_told_36 r_t_now_plan_words r_t_now_plan_firsts r_t_now_plan_seconds r_t_now_line_grades r_t_now_train_row_bears_48 r_t_now_line_halts r_t_now_line_kinds r_t_trialTrain_row_bears) H locs := hB.sub [0, 17, 1, 2, 18, 20, 3, 25, 34, 4, 32, 5, 36, 6, 38, 7, 39, 8, 27, 9, 26, 10, 11, 28, 33, 12, 29, 13, 30, 14, 31, 15, 19, 21, 22, 23, 24, 35, 37, 40, 41, 16] (by decide) rfl
    exact r_i F hr hlk hB ⟨_, _, _, _, _, _, _, _, _, _, _, _, _, _, _, _, _, _, _, _, _, _, _, _, _, _, _, _, _, _, _, _, rfl, hf⟩ dX11_judge_33

/-! LongTrain.judged -/
set_option maxRecDepth 100000 in
set_option maxHeartbeats 4000000 in
theorem c_LongTrain_judged (l : Launch) (D : va_G) (k : Nat → ClassId) (a_t : Nat) (d_t : Nat → Nat) (w_t : Nat → Value) (i_t : Nat → Int32) (d_t_court : Nat → Nat) (i_t_court : Nat → Int32) (r_t_court_told : Nat → Int32) (n1 : Int32) (Q : Int32 → Prop)  (hf : w_LongTrain_judged i_t_court r_t_court_told n1 Q) : CtI l yX11_judged cX11_judged 2 (some .int) 0 0 0 0 D k [.ref a_t, .int n1] (wd_LongTrain_judged k a_t d_t w_t i_t d_t_court i_t_court r_t_court_told) (fun r w => w = (wd_LongTrain_judged k a_t d_t w_t i_t d_t_court i_t_court r_t_court_told) ∧ Q r) := by
  refine CtI.of (by decide) (Nat.le_of_ble_eq_true rfl) ?_
  intro p e s m below meth c A F hr hlk hnm hA hB ls hl
  have hx := F.x
  have hb := F.b
  unfold w_LongTrain_judged at hf
  replace hl : lv_has ls 2 [(0, .ref a_t), (1, .int n1)] := hl
  refine lv_iload_n hx hb dX11_judged_0 rfl (lv_at hl 1 rfl) ?_
  refine lv_if_lt (tgt := 19) hx hb dX11_judged_1 (by decide) (fun c_4 => ?_) (fun c_4 => ?_)
  · replace hf := hf.1 c_4
    refine lv_iconst (v := -1) hx hb dX11_judged_19 (by decide) ?_
    refine lv_goto (tgt := 32) hx hb dX11_judged_20 (by decide) ?_
    exact r_i F hr hlk hB ⟨rfl, hf⟩ dX11_judged_32
  · replace hf := hf.2 c_4
    refine lv_iload_n hx hb dX11_judged_4 rfl (lv_at hl 1 rfl) ?_
    refine lv_iconst (v := 5) hx hb dX11_judged_5 (by decide) ?_
    refine lv_icmp_gt (tgt := 19) hx hb dX11_judged_6 (by decide) (fun c_3 => ?_) (fun c_3 => ?_)
    · replace hf := hf.1 c_3
      refine lv_iconst (v := -1) hx hb dX11_judged_19 (by decide) ?_
      refine lv_goto (tgt := 32) hx hb dX11_judged_20 (by decide) ?_
      exact r_i F hr hlk hB ⟨rfl, hf⟩ dX11_judged_32
    · replace hf := hf.2 c_3
      refine lv_aload_n hx hb dX11_judged_9 rfl (lv_at hl 0 rfl) ?_
      refine g_get (w := .ref (d_t 11)) F hB 0 rfl fl_RX11_69 rfl dX11_judged_10 ?_
      refine g_get (w := .int (i_t_court 1)) F hB 1 rfl fl_RX11_348 rfl dX11_judged_13 ?_
      refine lv_if_ne (tgt := 23) hx hb dX11_judged_16 (by decide) (fun c_2 => ?_) (fun c_2 => ?_)
      · replace hf := hf.1 c_2
        refine lv_aload_n hx hb dX11_judged_23 rfl (lv_at hl 0 rfl) ?_
        refine g_get (w := .ref (d_t 11)) F hB 0 rfl fl_RX11_69 rfl dX11_judged_24 ?_
        refine g_get (w := .ref (d_t_court 0)) F hB 1 rfl fl_RX11_352 rfl dX11_judged_27 ?_
        refine lv_iload_n hx hb dX11_judged_30 rfl (lv_at hl 1 rfl) ?_
        obtain ⟨h_1, hf⟩ := hf
        refine g_iald F hB 2 rfl h_1 dX11_judged_31 ?_
        exact r_i F hr hlk hB ⟨rfl, hf⟩ dX11_judged_32
      · replace hf := hf.2 c_2
        refine lv_iconst (v := -1) hx hb dX11_judged_19 (by decide) ?_
        refine lv_goto (tgt := 32) hx hb dX11_judged_20 (by decide) ?_
        exact r_i F hr hlk hB ⟨rfl, hf⟩ dX11_judged_32

/-! LongTrain.bet -/
set_option maxRecDepth 100000 in
set_option maxHeartbeats 4000000 in
theorem c_LongTrain_bet (l : Launch) (D : va_G) (k : Nat → ClassId) (a_t : Nat) (d_t : Nat → Nat) (w_t : Nat → Value) (i_t : Nat → Int32) (d_t_life : Nat → Nat) (i_t_life : Nat → Int32) (d_t_now : Nat → Nat) (w_t_now : Nat → Value) (a_t_now_line : Nat) (d_t_now_line : Nat → Nat) (i_t_now_line : Nat → Int32) (o_t_life_rows : Nat → Option Nat) (a_t_life_rows_0 : Nat) (d_t_life_rows_0 : Nat → Nat) (i_t_life_rows_0 : Nat → Int32) (r_t_now_line_halts : Nat → Int32) (r_t_now_line_first : Nat → Int32) (r_t_life_rows_0_kinds : Nat → Int32) (r_t_life_rows_0_longs : Nat → Int32) (r_t_life_rows_0_weights : Nat → Int32) (r_t_life_rows_0_strengths : Nat → Int32) (r_t_life_rows_0_wears : Nat → Int32) (r_t_life_rows_0_pushes : Nat → Int32) (r_t_life_rows_0_helpers : Nat → Int32) (r_t_now_line_kinds : Nat → Int32) (r_t_now_line_grades : Nat → Int32) (r_t_life_rows_0_bears : Nat → Int32) (n1 : Int32) (Q : Int32 → (Nat → Int32) → (Nat → Int32) → (Nat → Int32) → (Nat → Int32) → (Nat → Int32) → (Nat → Int32) → (Nat → Int32) → (Nat → Int32) → (Nat → Int32) → (Nat → Int32) → Prop) (hw_t_now_line : w_t_now 0 = .ref a_t_now_line) (ho_t_life_rows_0 : o_t_life_rows 0 = some a_t_life_rows_0) (hf : w_LongTrain_bet i_t_life i_t_now_line i_t_life_rows_0 r_t_now_line_halts r_t_now_line_first r_t_life_rows_0_kinds r_t_life_rows_0_longs r_t_life_rows_0_weights r_t_life_rows_0_strengths r_t_life_rows_0_wears r_t_life_rows_0_pushes r_t_life_rows_0_helpers r_t_now_line_kinds r_t_now_line_grades r_t_life_rows_0_bears n1 Q) : CtI l yX11_bet cX11_bet 2 (some .int) 5 114 0 0 D k [.ref a_t, .int n1] (wd_LongTrain_bet k a_t d_t w_t i_t d_t_life i_t_life d_t_now w_t_now a_t_now_line d_t_now_line i_t_now_line o_t_life_rows a_t_life_rows_0 d_t_life_rows_0 i_t_life_rows_0 r_t_now_line_halts r_t_now_line_first r_t_life_rows_0_kinds r_t_life_rows_0_longs r_t_life_rows_0_weights r_t_life_rows_0_strengths r_t_life_rows_0_wears r_t_life_rows_0_pushes r_t_life_rows_0_helpers r_t_now_line_kinds r_t_now_line_grades r_t_life_rows_0_bears) (fun r w => ∃ (i_t_life : Nat → Int32), ∃ (i_t_life_rows_0 : Nat → Int32), ∃ (r_t_life_rows_0_kinds : Nat → Int32), ∃ (r_t_life_rows_0_longs : Nat → Int32), ∃ (r_t_life_rows_0_weights : Nat → Int32), ∃ (r_t_life_rows_0_strengths : Nat → Int32), ∃ (r_t_life_rows_0_wears : Nat → Int32), ∃ (r_t_life_rows_0_pushes : Nat → Int32), ∃ (r_t_life_rows_0_helpers : Nat → Int32), ∃ (r_t_life_rows_0_bears : Nat → Int32), w = (wd_LongTrain_bet k a_t d_t w_t i_t d_t_life i_t_life d_t_now w_t_now a_t_now_line d_t_now_line i_t_now_line o_t_life_rows a_t_life_rows_0 d_t_life_rows_0 i_t_life_rows_0 r_t_now_line_halts r_t_now_line_first r_t_life_rows_0_kinds r_t_life_rows_0_longs r_t_life_rows_0_weights r_t_life_rows_0_strengths r_t_life_rows_0_wears r_t_life_rows_0_pushes r_t_life_rows_0_helpers r_t_now_line_kinds r_t_now_line_grades r_t_life_rows_0_bears) ∧ Q r i_t_life i_t_life_rows_0 r_t_life_rows_0_kinds r_t_life_rows_0_longs r_t_life_rows_0_weights r_t_life_rows_0_strengths r_t_life_rows_0_wears r_t_life_rows_0_pushes r_t_life_rows_0_helpers r_t_life_rows_0_bears) := by
  refine CtI.of (by decide) (Nat.le_of_ble_eq_true rfl) ?_
  intro p e s m below meth c A F hr hlk hnm hA hB ls hl
  have hx := F.x
  have hb := F.b
  unfold w_LongTrain_bet at hf
  replace hl : lv_has ls 2 [(0, .ref a_t), (1, .int n1)] := hl
  refine lv_aload_n hx hb dX11_bet_0 rfl (lv_at hl 0 rfl) ?_
  refine g_get (w := .ref (d_t 10)) F hB 0 rfl fl_RX11_62 rfl dX11_bet_1 ?_
  refine lv_aload_n hx hb dX11_bet_4 rfl (lv_at hl 0 rfl) ?_
  refine g_get (w := .ref (d_t 5)) F hB 0 rfl fl_RX11_30 rfl dX11_bet_5 ?_
  refine g_get (w := .ref a_t_now_line) F hB 2 rfl fl_RX11_105 hw_t_now_line dX11_bet_8 ?_
  refine lv_iload_n hx hb dX11_bet_11 rfl (lv_at hl 1 rfl) ?_
  refine k_vi (wr := [(a_t, ob 11 (vmx 11 d_t w_t) i_t j0), ((d_t 5), ob 9 (vmx 9 d_t_now w_t_now) i0 j0)]) (rest := []) F hA hB (c_Lives_betHead l D k (d_t 10) d_t_life i_t_life a_t_now_line d_t_now_line i_t_now_line o_t_life_rows a_t_life_rows_0 d_t_life_rows_0 i_t_life_rows_0 r_t_now_line_halts r_t_now_line_first r_t_life_rows_0_kinds r_t_life_rows_0_longs r_t_life_rows_0_weights r_t_life_rows_0_strengths r_t_life_rows_0_wears r_t_life_rows_0_pushes r_t_life_rows_0_helpers r_t_now_line_kinds r_t_now_line_grades r_t_life_rows_0_bears n1 _ ho_t_life_rows_0 hf) ml_RX11_355 mv_yX5_betHead [1, 3, 4, 5, 6, 7, 8, 9, 10, 11, 12, 13, 14, 15, 16, 17] [0, 2] rfl rfl (by decide) (by decide) (by decide) 1 rfl rfl rfl hl.1 rfl (Nat.le_of_ble_eq_true rfl) ⟨Nat.le_of_ble_eq_true rfl, Nat.le_of_ble_eq_true rfl⟩ ⟨Nat.le_of_ble_eq_true rfl, Nat.le_of_ble_eq_true rfl⟩ dX11_bet_12 (fun z_11 w1 H locs hq hB => ?_)
  obtain ⟨i_t_life_1, i_t_life_rows_0_2, r_t_life_rows_0_kinds_3, r_t_life_rows_0_longs_4, r_t_life_rows_0_weights_5, r_t_life_rows_0_strengths_6, r_t_life_rows_0_wears_7, r_t_life_rows_0_pushes_8, r_t_life_rows_0_helpers_9, r_t_life_rows_0_bears_10, rfl, hf⟩ := hq
  replace hB : Bd D A s.heap (wd_LongTrain_bet k a_t d_t w_t i_t d_t_life i_t_life_1 d_t_now w_t_now a_t_now_line d_t_now_line i_t_now_line o_t_life_rows a_t_life_rows_0 d_t_life_rows_0 i_t_life_rows_0_2 r_t_now_line_halts r_t_now_line_first r_t_life_rows_0_kinds_3 r_t_life_rows_0_longs_4 r_t_life_rows_0_weights_5 r_t_life_rows_0_strengths_6 r_t_life_rows_0_wears_7 r_t_life_rows_0_pushes_8 r_t_life_rows_0_helpers_9 r_t_now_line_kinds r_t_now_line_grades r_t_life_rows_0_bears_10) H locs := hB.sub [0, 2, 1, 3, 4, 5, 6, 7, 8, 9, 10, 11, 12, 13, 14, 15, 16, 17] (by decide) rfl
  exact r_i F hr hlk hB ⟨_, _, _, _, _, _, _, _, _, _, rfl, hf⟩ dX11_bet_15

/-! LongTrain.bets -/
set_option maxRecDepth 100000 in
set_option maxHeartbeats 4000000 in
theorem c_LongTrain_bets (l : Launch) (D : va_G) (k : Nat → ClassId) (a_t : Nat) (d_t : Nat → Nat) (w_t : Nat → Value) (i_t : Nat → Int32) (d_t_now : Nat → Nat) (w_t_now : Nat → Value) (a_t_now_line : Nat) (d_t_now_line : Nat → Nat) (i_t_now_line : Nat → Int32) (d_t_life : Nat → Nat) (i_t_life : Nat → Int32) (o_t_life_rows : Nat → Option Nat) (a_t_life_rows_0 : Nat) (d_t_life_rows_0 : Nat → Nat) (i_t_life_rows_0 : Nat → Int32) (r_t_now_line_halts : Nat → Int32) (r_t_now_line_first : Nat → Int32) (r_t_life_rows_0_kinds : Nat → Int32) (r_t_life_rows_0_longs : Nat → Int32) (r_t_life_rows_0_weights : Nat → Int32) (r_t_life_rows_0_strengths : Nat → Int32) (r_t_life_rows_0_wears : Nat → Int32) (r_t_life_rows_0_pushes : Nat → Int32) (r_t_life_rows_0_helpers : Nat → Int32) (r_t_now_line_kinds : Nat → Int32) (r_t_life_leasts : Nat → Int32) (r_t_now_line_grades : Nat → Int32) (r_t_life_rows_0_bears : Nat → Int32) (n1 : Int32) (n2 : Int32) (n3 : Int32) (Q : Int32 → (Nat → Int32) → (Nat → Int32) → (Nat → Int32) → (Nat → Int32) → (Nat → Int32) → (Nat → Int32) → (Nat → Int32) → (Nat → Int32) → (Nat → Int32) → (Nat → Int32) → (Nat → Int32) → Prop) (hw_t_now_line : w_t_now 0 = .ref a_t_now_line) (ho_t_life_rows_0 : o_t_life_rows 0 = some a_t_life_rows_0) (hf : w_LongTrain_bets i_t_now_line i_t_life i_t_life_rows_0 r_t_now_line_halts r_t_now_line_first r_t_life_rows_0_kinds r_t_life_rows_0_longs r_t_life_rows_0_weights r_t_life_rows_0_strengths r_t_life_rows_0_wears r_t_life_rows_0_pushes r_t_life_rows_0_helpers r_t_now_line_kinds r_t_life_leasts r_t_now_line_grades r_t_life_rows_0_bears n1 n2 n3 Q) : CtI l yX11_bets cX11_bets 4 (some .int) 5 120 0 0 D k [.ref a_t, .int n1, .int n2, .int n3] (wd_LongTrain_bets k a_t d_t w_t i_t d_t_now w_t_now a_t_now_line d_t_now_line i_t_now_line d_t_life i_t_life o_t_life_rows a_t_life_rows_0 d_t_life_rows_0 i_t_life_rows_0 r_t_now_line_halts r_t_now_line_first r_t_life_rows_0_kinds r_t_life_rows_0_longs r_t_life_rows_0_weights r_t_life_rows_0_strengths r_t_life_rows_0_wears r_t_life_rows_0_pushes r_t_life_rows_0_helpers r_t_now_line_kinds r_t_life_leasts r_t_now_line_grades r_t_life_rows_0_bears) (fun r w => ∃ (i_t_life : Nat → Int32), ∃ (i_t_life_rows_0 : Nat → Int32), ∃ (r_t_life_rows_0_kinds : Nat → Int32), ∃ (r_t_life_rows_0_longs : Nat → Int32), ∃ (r_t_life_rows_0_weights : Nat → Int32), ∃ (r_t_life_rows_0_strengths : Nat → Int32), ∃ (r_t_life_rows_0_wears : Nat → Int32), ∃ (r_t_life_rows_0_pushes : Nat → Int32), ∃ (r_t_life_rows_0_helpers : Nat → Int32), ∃ (r_t_life_leasts : Nat → Int32), ∃ (r_t_life_rows_0_bears : Nat → Int32), w = (wd_LongTrain_bets k a_t d_t w_t i_t d_t_now w_t_now a_t_now_line d_t_now_line i_t_now_line d_t_life i_t_life o_t_life_rows a_t_life_rows_0 d_t_life_rows_0 i_t_life_rows_0 r_t_now_line_halts r_t_now_line_first r_t_life_rows_0_kinds r_t_life_rows_0_longs r_t_life_rows_0_weights r_t_life_rows_0_strengths r_t_life_rows_0_wears r_t_life_rows_0_pushes r_t_life_rows_0_helpers r_t_now_line_kinds r_t_life_leasts r_t_now_line_grades r_t_life_rows_0_bears) ∧ Q r i_t_life i_t_life_rows_0 r_t_life_rows_0_kinds r_t_life_rows_0_longs r_t_life_rows_0_weights r_t_life_rows_0_strengths r_t_life_rows_0_wears r_t_life_rows_0_pushes r_t_life_rows_0_helpers r_t_life_leasts r_t_life_rows_0_bears) := by
  refine CtI.of (by decide) (Nat.le_of_ble_eq_true rfl) ?_
  intro p e s m below meth c A F hr hlk hnm hA hB ls hl
  have hx := F.x
  have hb := F.b
  unfold w_LongTrain_bets at hf
  replace hl : lv_has ls 4 [(0, .ref a_t), (1, .int n1), (2, .int n2), (3, .int n3)] := hl
  refine lv_iload_n hx hb dX11_bets_0 rfl (lv_at hl 1 rfl) ?_
  refine lv_iconst (v := 1) hx hb dX11_bets_1 (by decide) ?_
  refine lv_icmp_lt (tgt := 20) hx hb dX11_bets_2 (by decide) (fun c_17 => ?_) (fun c_17 => ?_)
  · replace hf := hf.1 c_17
    refine lv_iconst (v := -1) hx hb dX11_bets_20 (by decide) ?_
    exact r_i F hr hlk hB ⟨_, _, _, _, _, _, _, _, _, _, _, rfl, hf⟩ dX11_bets_21
  · replace hf := hf.2 c_17
    refine lv_iload_n hx hb dX11_bets_5 rfl (lv_at hl 1 rfl) ?_
    refine lv_sipush (v := 200) hx hb dX11_bets_6 (by decide) ?_
    refine lv_icmp_gt (tgt := 20) hx hb dX11_bets_9 (by decide) (fun c_16 => ?_) (fun c_16 => ?_)
    · replace hf := hf.1 c_16
      refine lv_iconst (v := -1) hx hb dX11_bets_20 (by decide) ?_
      exact r_i F hr hlk hB ⟨_, _, _, _, _, _, _, _, _, _, _, rfl, hf⟩ dX11_bets_21
    · replace hf := hf.2 c_16
      refine lv_aload_n hx hb dX11_bets_12 rfl (lv_at hl 0 rfl) ?_
      refine lv_iload_n hx hb dX11_bets_13 rfl (lv_at hl 3 rfl) ?_
      refine k_vi (wr := [((d_t 10), ob 5 (rfd d_t_life) i_t_life j0), ((d_t_life 0), aR k 5 o_t_life_rows), (a_t_life_rows_0, ob 8 (rfd d_t_life_rows_0) i_t_life_rows_0 j0), ((d_t_now_line 2), ai k 30 r_t_now_line_halts), ((d_t_now_line 8), ai k 8 r_t_now_line_first), ((d_t_life_rows_0 0), ai k 20 r_t_life_rows_0_kinds), ((d_t_life_rows_0 1), ai k 20 r_t_life_rows_0_longs), ((d_t_life_rows_0 2), ai k 20 r_t_life_rows_0_weights), ((d_t_life_rows_0 3), ai k 20 r_t_life_rows_0_strengths), ((d_t_life_rows_0 4), ai k 20 r_t_life_rows_0_wears), ((d_t_life_rows_0 5), ai k 20 r_t_life_rows_0_pushes), ((d_t_life_rows_0 6), ai k 20 r_t_life_rows_0_helpers), ((d_t_now_line 6), ai k 18 r_t_now_line_kinds), ((d_t_life 10), ai k 20 r_t_life_leasts), ((d_t_now_line 0), ai k 400 r_t_now_line_grades), ((d_t_life_rows_0 7), ai k 20 r_t_life_rows_0_bears)]) (rest := []) F hA hB (c_LongTrain_isUnit l D k a_t d_t w_t i_t d_t_now w_t_now a_t_now_line d_t_now_line i_t_now_line n3 _ hw_t_now_line hf) ml_RX11_244 mv_yX11_isUnit [0, 1, 2] [3, 4, 5, 6, 7, 8, 9, 10, 11, 12, 13, 14, 15, 16, 17, 18] rfl rfl (by decide) (by decide) (by decide) 0 rfl rfl rfl hl.1 rfl (Nat.le_of_ble_eq_true rfl) ⟨Nat.le_of_ble_eq_true rfl, Nat.le_of_ble_eq_true rfl⟩ ⟨Nat.le_of_ble_eq_true rfl, Nat.le_of_ble_eq_true rfl⟩ dX11_bets_14 (fun z_1 w1 H locs hq hB => ?_)
      obtain ⟨h_2, rfl, hf⟩ := hq
      replace hB : Bd D A s.heap (wd_LongTrain_bets k a_t d_t w_t i_t d_t_now w_t_now a_t_now_line d_t_now_line i_t_now_line d_t_life i_t_life o_t_life_rows a_t_life_rows_0 d_t_life_rows_0 i_t_life_rows_0 r_t_now_line_halts r_t_now_line_first r_t_life_rows_0_kinds r_t_life_rows_0_longs r_t_life_rows_0_weights r_t_life_rows_0_strengths r_t_life_rows_0_wears r_t_life_rows_0_pushes r_t_life_rows_0_helpers r_t_now_line_kinds r_t_life_leasts r_t_now_line_grades r_t_life_rows_0_bears) H locs := hB.sub [16, 17, 18, 0, 1, 2, 3, 4, 5, 6, 7, 8, 9, 10, 11, 12, 13, 14, 15] (by decide) rfl
      refine lv_if_ne (tgt := 22) hx hb dX11_bets_17 (by decide) (fun c_15 => ?_) (fun c_15 => ?_)
      · replace hf := hf.1 c_15
        refine lv_aload_n hx hb dX11_bets_22 rfl (lv_at hl 0 rfl) ?_
        refine g_get (w := .ref (d_t 10)) F hB 0 rfl fl_RX11_62 rfl dX11_bets_23 ?_
        refine lv_aload_n hx hb dX11_bets_26 rfl (lv_at hl 0 rfl) ?_
        refine g_get (w := .ref (d_t 5)) F hB 0 rfl fl_RX11_30 rfl dX11_bets_27 ?_
        refine g_get (w := .ref a_t_now_line) F hB 1 rfl fl_RX11_105 hw_t_now_line dX11_bets_30 ?_
        refine lv_iload_n hx hb dX11_bets_33 rfl (lv_at hl 1 rfl) ?_
        refine lv_iload_n hx hb dX11_bets_34 rfl (lv_at hl 2 rfl) ?_
        refine lv_iload_n hx hb dX11_bets_35 rfl (lv_at hl 3 rfl) ?_
        refine k_vi (wr := [(a_t, ob 11 (vmx 11 d_t w_t) i_t j0), ((d_t 5), ob 9 (vmx 9 d_t_now w_t_now) i0 j0)]) (rest := []) F hA hB (c_Lives_betsPartedBy l D k (d_t 10) d_t_life i_t_life a_t_now_line d_t_now_line i_t_now_line o_t_life_rows a_t_life_rows_0 d_t_life_rows_0 i_t_life_rows_0 r_t_now_line_halts r_t_now_line_first r_t_life_rows_0_kinds r_t_life_rows_0_longs r_t_life_rows_0_weights r_t_life_rows_0_strengths r_t_life_rows_0_wears r_t_life_rows_0_pushes r_t_life_rows_0_helpers r_t_now_line_kinds r_t_life_leasts r_t_now_line_grades r_t_life_rows_0_bears n1 n2 n3 _ ho_t_life_rows_0 hf) ml_RX11_358 mv_yX5_betsPartedBy [3, 2, 4, 5, 6, 7, 8, 9, 10, 11, 12, 13, 14, 15, 16, 17, 18] [0, 1] rfl rfl (by decide) (by decide) (by decide) 3 rfl rfl rfl hl.1 rfl (Nat.le_of_ble_eq_true rfl) ⟨Nat.le_of_ble_eq_true rfl, Nat.le_of_ble_eq_true rfl⟩ ⟨Nat.le_of_ble_eq_true rfl, Nat.le_of_ble_eq_true rfl⟩ dX11_bets_36 (fun z_14 w1 H locs hq hB => ?_)
        obtain ⟨i_t_life_3, i_t_life_rows_0_4, r_t_life_rows_0_kinds_5, r_t_life_rows_0_longs_6, r_t_life_rows_0_weights_7, r_t_life_rows_0_strengths_8, r_t_life_rows_0_wears_9, r_t_life_rows_0_pushes_10, r_t_life_rows_0_helpers_11, r_t_life_leasts_12, r_t_life_rows_0_bears_13, rfl, hf⟩ := hq
        replace hB : Bd D A s.heap (wd_LongTrain_bets k a_t d_t w_t i_t d_t_now w_t_now a_t_now_line d_t_now_line i_t_now_line d_t_life i_t_life_3 o_t_life_rows a_t_life_rows_0 d_t_life_rows_0 i_t_life_rows_0_4 r_t_now_line_halts r_t_now_line_first r_t_life_rows_0_kinds_5 r_t_life_rows_0_longs_6 r_t_life_rows_0_weights_7 r_t_life_rows_0_strengths_8 r_t_life_rows_0_wears_9 r_t_life_rows_0_pushes_10 r_t_life_rows_0_helpers_11 r_t_now_line_kinds r_t_life_leasts_12 r_t_now_line_grades r_t_life_rows_0_bears_13) H locs := hB.sub [0, 1, 3, 2, 4, 5, 6, 7, 8, 9, 10, 11, 12, 13, 14, 15, 16, 17, 18] (by decide) rfl
        exact r_i F hr hlk hB ⟨_, _, _, _, _, _, _, _, _, _, _, rfl, hf⟩ dX11_bets_39
      · replace hf := hf.2 c_15
        refine lv_iconst (v := -1) hx hb dX11_bets_20 (by decide) ?_
        exact r_i F hr hlk hB ⟨_, _, _, _, _, _, _, _, _, _, _, rfl, hf⟩ dX11_bets_21

/-! LongTrain.count -/
set_option maxRecDepth 100000 in
set_option maxHeartbeats 4000000 in
theorem c_LongTrain_count (l : Launch) (D : va_G) (k : Nat → ClassId) (a_t : Nat) (d_t : Nat → Nat) (w_t : Nat → Value) (i_t : Nat → Int32) (d_t_now : Nat → Nat) (w_t_now : Nat → Value) (a_t_now_line : Nat) (d_t_now_line : Nat → Nat) (i_t_now_line : Nat → Int32) (a_t_now_plan : Nat) (d_t_now_plan : Nat → Nat) (i_t_now_plan : Nat → Int32) (n1 : Int32) (Q : Int32 → Prop) (hw_t_now_line : w_t_now 0 = .ref a_t_now_line) (hw_t_now_plan : w_t_now 1 = .ref a_t_now_plan) (hf : w_LongTrain_count i_t i_t_now_line i_t_now_plan n1 Q) : CtI l yX11_count cX11_count 3 (some .int) 0 0 0 0 D k [.ref a_t, .int n1] (wd_LongTrain_count k a_t d_t w_t i_t d_t_now w_t_now a_t_now_line d_t_now_line i_t_now_line a_t_now_plan d_t_now_plan i_t_now_plan) (fun r w => w = (wd_LongTrain_count k a_t d_t w_t i_t d_t_now w_t_now a_t_now_line d_t_now_line i_t_now_line a_t_now_plan d_t_now_plan i_t_now_plan) ∧ Q r) := by
  refine CtI.of (by decide) (Nat.le_of_ble_eq_true rfl) ?_
  intro p e s m below meth c A F hr hlk hnm hA hB ls hl
  have hx := F.x
  have hb := F.b
  unfold w_LongTrain_count at hf
  replace hl : lv_has ls 3 [(0, .ref a_t), (1, .int n1)] := hl
  refine lv_aload_n hx hb dX11_count_0 rfl (lv_at hl 0 rfl) ?_
  refine g_get (w := .ref (d_t 5)) F hB 0 rfl fl_RX11_30 rfl dX11_count_1 ?_
  refine g_get (w := .ref a_t_now_line) F hB 1 rfl fl_RX11_105 hw_t_now_line dX11_count_4 ?_
  refine lv_astore_n (lv' := [(2, .ref a_t_now_line), (0, .ref a_t), (1, .int n1)]) hx hb dX11_count_7 rfl hl (by decide) rfl (fun ls hl => ?_)
  refine lv_iload_n hx hb dX11_count_8 rfl (lv_at hl 2 rfl) ?_
  rcases Classical.em (n1 = 0) with c_1 | c_1
  · replace hf := hf.1 c_1
    refine lv_tableIn (tgt := 68) hx hb dX11_count_9 (by rw [c_1]; decide) (by rw [c_1]; decide) (by rw [c_1]; rfl) (by decide) ?_
    refine lv_aload_n hx hb dX11_count_68 rfl (lv_at hl 0 rfl) ?_
    refine g_get (w := .int (i_t_now_line 1)) F hB 2 rfl fl_RX11_121 rfl dX11_count_69 ?_
    exact r_i F hr hlk hB ⟨rfl, hf⟩ dX11_count_72
  · replace hf := hf.2 c_1
    rcases Classical.em (n1 = 1) with c_2 | c_2
    · replace hf := hf.1 c_2
      refine lv_tableIn (tgt := 73) hx hb dX11_count_9 (by rw [c_2]; decide) (by rw [c_2]; decide) (by rw [c_2]; rfl) (by decide) ?_
      refine lv_aload_n hx hb dX11_count_73 rfl (lv_at hl 0 rfl) ?_
      refine g_get (w := .int (i_t_now_line 3)) F hB 2 rfl fl_RX11_138 rfl dX11_count_74 ?_
      exact r_i F hr hlk hB ⟨rfl, hf⟩ dX11_count_77
    · replace hf := hf.2 c_2
      rcases Classical.em (n1 = 2) with c_3 | c_3
      · replace hf := hf.1 c_3
        refine lv_tableIn (tgt := 78) hx hb dX11_count_9 (by rw [c_3]; decide) (by rw [c_3]; decide) (by rw [c_3]; rfl) (by decide) ?_
        refine lv_aload_n hx hb dX11_count_78 rfl (lv_at hl 0 rfl) ?_
        refine g_get (w := .int (i_t_now_line 5)) F hB 2 rfl fl_RX11_263 rfl dX11_count_79 ?_
        exact r_i F hr hlk hB ⟨rfl, hf⟩ dX11_count_82
      · replace hf := hf.2 c_3
        rcases Classical.em (n1 = 3) with c_4 | c_4
        · replace hf := hf.1 c_4
          refine lv_tableIn (tgt := 83) hx hb dX11_count_9 (by rw [c_4]; decide) (by rw [c_4]; decide) (by rw [c_4]; rfl) (by decide) ?_
          refine lv_aload_n hx hb dX11_count_83 rfl (lv_at hl 0 rfl) ?_
          refine g_get (w := .int (i_t_now_line 7)) F hB 2 rfl fl_RX11_147 rfl dX11_count_84 ?_
          exact r_i F hr hlk hB ⟨rfl, hf⟩ dX11_count_87
        · replace hf := hf.2 c_4
          rcases Classical.em (n1 = 4) with c_5 | c_5
          · replace hf := hf.1 c_5
            refine lv_tableIn (tgt := 88) hx hb dX11_count_9 (by rw [c_5]; decide) (by rw [c_5]; decide) (by rw [c_5]; rfl) (by decide) ?_
            refine lv_aload_n hx hb dX11_count_88 rfl (lv_at hl 0 rfl) ?_
            refine g_get (w := .int (i_t_now_line 10)) F hB 2 rfl fl_RX11_364 rfl dX11_count_89 ?_
            exact r_i F hr hlk hB ⟨rfl, hf⟩ dX11_count_92
          · replace hf := hf.2 c_5
            rcases Classical.em (n1 = 5) with c_6 | c_6
            · replace hf := hf.1 c_6
              refine lv_tableIn (tgt := 93) hx hb dX11_count_9 (by rw [c_6]; decide) (by rw [c_6]; decide) (by rw [c_6]; rfl) (by decide) ?_
              refine lv_aload_n hx hb dX11_count_93 rfl (lv_at hl 0 rfl) ?_
              refine g_get (w := .int (i_t_now_line 12)) F hB 2 rfl fl_RX11_367 rfl dX11_count_94 ?_
              exact r_i F hr hlk hB ⟨rfl, hf⟩ dX11_count_97
            · replace hf := hf.2 c_6
              rcases Classical.em (n1 = 6) with c_7 | c_7
              · replace hf := hf.1 c_7
                refine lv_tableIn (tgt := 98) hx hb dX11_count_9 (by rw [c_7]; decide) (by rw [c_7]; decide) (by rw [c_7]; rfl) (by decide) ?_
                refine lv_aload_n hx hb dX11_count_98 rfl (lv_at hl 0 rfl) ?_
                refine g_get (w := .int (i_t_now_line 13)) F hB 2 rfl fl_RX11_370 rfl dX11_count_99 ?_
                exact r_i F hr hlk hB ⟨rfl, hf⟩ dX11_count_102
              · replace hf := hf.2 c_7
                rcases Classical.em (n1 = 7) with c_8 | c_8
                · replace hf := hf.1 c_8
                  refine lv_tableIn (tgt := 103) hx hb dX11_count_9 (by rw [c_8]; decide) (by rw [c_8]; decide) (by rw [c_8]; rfl) (by decide) ?_
                  refine lv_aload_n hx hb dX11_count_103 rfl (lv_at hl 0 rfl) ?_
                  refine g_get (w := .int (i_t_now_line 14)) F hB 2 rfl fl_RX11_373 rfl dX11_count_104 ?_
                  exact r_i F hr hlk hB ⟨rfl, hf⟩ dX11_count_107
                · replace hf := hf.2 c_8
                  rcases Classical.em (n1 = 8) with c_9 | c_9
                  · replace hf := hf.1 c_9
                    refine lv_tableIn (tgt := 108) hx hb dX11_count_9 (by rw [c_9]; decide) (by rw [c_9]; decide) (by rw [c_9]; rfl) (by decide) ?_
                    refine lv_aload_n hx hb dX11_count_108 rfl (lv_at hl 0 rfl) ?_
                    refine g_get (w := .int (i_t_now_line 15)) F hB 2 rfl fl_RX11_376 rfl dX11_count_109 ?_
                    exact r_i F hr hlk hB ⟨rfl, hf⟩ dX11_count_112
                  · replace hf := hf.2 c_9
                    rcases Classical.em (n1 = 9) with c_10 | c_10
                    · replace hf := hf.1 c_10
                      refine lv_tableIn (tgt := 113) hx hb dX11_count_9 (by rw [c_10]; decide) (by rw [c_10]; decide) (by rw [c_10]; rfl) (by decide) ?_
                      refine lv_aload_n hx hb dX11_count_113 rfl (lv_at hl 1 rfl) ?_
                      refine g_get (w := .ref (d_t 5)) F hB 0 rfl fl_RX11_30 rfl dX11_count_114 ?_
                      refine g_get (w := .ref a_t_now_plan) F hB 1 rfl fl_RX11_115 hw_t_now_plan dX11_count_117 ?_
                      refine g_get (w := .int (i_t_now_plan 3)) F hB 3 rfl fl_RX11_379 rfl dX11_count_120 ?_
                      exact r_i F hr hlk hB ⟨rfl, hf⟩ dX11_count_123
                    · replace hf := hf.2 c_10
                      rcases Classical.em (n1 = 10) with c_11 | c_11
                      · replace hf := hf.1 c_11
                        refine lv_tableIn (tgt := 124) hx hb dX11_count_9 (by rw [c_11]; decide) (by rw [c_11]; decide) (by rw [c_11]; rfl) (by decide) ?_
                        refine lv_aload_n hx hb dX11_count_124 rfl (lv_at hl 1 rfl) ?_
                        refine g_get (w := .int (i_t 1)) F hB 0 rfl fl_RX11_80 rfl dX11_count_125 ?_
                        exact r_i F hr hlk hB ⟨rfl, hf⟩ dX11_count_128
                      · replace hf := hf.2 c_11
                        refine lv_tableOut (tgt := 129) hx hb dX11_count_9 (sw_out (fun z h1 h2 h3 => by
                            have h4 : z = 0 ∨ z = 1 ∨ z = 2 ∨ z = 3 ∨ z = 4 ∨ z = 5 ∨ z = 6 ∨ z = 7 ∨ z = 8 ∨ z = 9 ∨ z = 10 ∨ False := by omega
                            rcases h4 with h4 | h4 | h4 | h4 | h4 | h4 | h4 | h4 | h4 | h4 | h4 | h4
                            · exact c_1 (Int32.toInt_inj.mp (h3.trans (h4.trans (by decide))))
                            · exact c_2 (Int32.toInt_inj.mp (h3.trans (h4.trans (by decide))))
                            · exact c_3 (Int32.toInt_inj.mp (h3.trans (h4.trans (by decide))))
                            · exact c_4 (Int32.toInt_inj.mp (h3.trans (h4.trans (by decide))))
                            · exact c_5 (Int32.toInt_inj.mp (h3.trans (h4.trans (by decide))))
                            · exact c_6 (Int32.toInt_inj.mp (h3.trans (h4.trans (by decide))))
                            · exact c_7 (Int32.toInt_inj.mp (h3.trans (h4.trans (by decide))))
                            · exact c_8 (Int32.toInt_inj.mp (h3.trans (h4.trans (by decide))))
                            · exact c_9 (Int32.toInt_inj.mp (h3.trans (h4.trans (by decide))))
                            · exact c_10 (Int32.toInt_inj.mp (h3.trans (h4.trans (by decide))))
                            · exact c_11 (Int32.toInt_inj.mp (h3.trans (h4.trans (by decide))))
                            · exact h4)) (by decide) ?_
                        refine lv_iconst (v := -1) hx hb dX11_count_129 (by decide) ?_
                        exact r_i F hr hlk hB ⟨rfl, hf⟩ dX11_count_130

/-! LongTrainModel.thrown -/
set_option maxRecDepth 100000 in
set_option maxHeartbeats 4000000 in
theorem c_LongTrainModel_thrown (l : Launch) (D : va_G) (k : Nat → ClassId) (a_t : Nat) (d_t : Nat → Nat) (i_t : Nat → Int32) (j_t : Nat → Int64)  (Q : Int32 → Prop)  (hf : w_LongTrainModel_thrown i_t Q) : CtI l yX12_thrown cX12_thrown 1 (some .int) 0 0 0 0 D k [.ref a_t] (wd_LongTrainModel_thrown k a_t d_t i_t j_t) (fun r w => w = (wd_LongTrainModel_thrown k a_t d_t i_t j_t) ∧ Q r) := by
  refine CtI.of (by decide) (Nat.le_of_ble_eq_true rfl) ?_
  intro p e s m below meth c A F hr hlk hnm hA hB ls hl
  have hx := F.x
  have hb := F.b
  unfold w_LongTrainModel_thrown at hf
  replace hl : lv_has ls 1 [(0, .ref a_t)] := hl
  refine lv_aload_n hx hb dX12_thrown_0 rfl (lv_at hl 0 rfl) ?_
  refine g_get (w := .int (i_t 0)) F hB 0 rfl fl_RX12_1 rfl dX12_thrown_1 ?_
  exact r_i F hr hlk hB ⟨rfl, hf⟩ dX12_thrown_4

/-! LongTrainModel.throwsIf -/
set_option maxRecDepth 100000 in
set_option maxHeartbeats 4000000 in
theorem c_LongTrainModel_throwsIf (l : Launch) (D : va_G) (k : Nat → ClassId) (a_t : Nat) (d_t : Nat → Nat) (i_t : Nat → Int32) (j_t : Nat → Int64) (n1 : Int32) (Q : Int32 → (Nat → Int32) → Prop)  (hf : w_LongTrainModel_throwsIf i_t n1 Q) : CtI l yX12_throwsIf cX12_throwsIf 2 (some .boolean) 0 0 0 0 D k [.ref a_t, .int n1] (wd_LongTrainModel_throwsIf k a_t d_t i_t j_t) (fun r w => (r = 0 ∨ r = 1) ∧ (∃ (i_t : Nat → Int32), w = (wd_LongTrainModel_throwsIf k a_t d_t i_t j_t) ∧ Q r i_t)) := by
  refine CtI.of (by decide) (Nat.le_of_ble_eq_true rfl) ?_
  intro p e s m below meth c A F hr hlk hnm hA hB ls hl
  have hx := F.x
  have hb := F.b
  unfold w_LongTrainModel_throwsIf at hf
  replace hl : lv_has ls 2 [(0, .ref a_t), (1, .int n1)] := hl
  refine lv_aload_n hx hb dX12_throwsIf_0 rfl (lv_at hl 0 rfl) ?_
  refine lv_iload_n hx hb dX12_throwsIf_1 rfl (lv_at hl 1 rfl) ?_
  refine lv_if_eq (tgt := 9) hx hb dX12_throwsIf_2 (by decide) (fun c_3 => ?_) (fun c_3 => ?_)
  · replace hf := hf.1 c_3
    refine lv_iconst (v := 0) hx hb dX12_throwsIf_9 (by decide) ?_
    refine g_puti F hB 0 rfl fl_RX12_1 rfl (wd_LongTrainModel_throwsIf k a_t d_t (upd i_t 0 (0 : Int32)) j_t) rfl dX12_throwsIf_10 (fun H locs hB => ?_)
    refine lv_iload_n hx hb dX12_throwsIf_13 rfl (lv_at hl 1 rfl) ?_
    obtain ⟨h_1, hf⟩ := hf
    exact r_z F hr hlk hB h_1 ⟨h_1, _, rfl, hf⟩ dX12_throwsIf_14
  · replace hf := hf.2 c_3
    refine lv_iconst (v := 1) hx hb dX12_throwsIf_5 (by decide) ?_
    refine lv_goto (tgt := 10) hx hb dX12_throwsIf_6 (by decide) ?_
    refine g_puti F hB 0 rfl fl_RX12_1 rfl (wd_LongTrainModel_throwsIf k a_t d_t (upd i_t 0 (1 : Int32)) j_t) rfl dX12_throwsIf_10 (fun H locs hB => ?_)
    refine lv_iload_n hx hb dX12_throwsIf_13 rfl (lv_at hl 1 rfl) ?_
    obtain ⟨h_2, hf⟩ := hf
    exact r_z F hr hlk hB h_2 ⟨h_2, _, rfl, hf⟩ dX12_throwsIf_14

/-! LongTrainModel.four -/
set_option maxRecDepth 100000 in
set_option maxHeartbeats 4000000 in
theorem bt_LongTrainModel_four_3 {p : Program} {l : Launch} {e : Env} {s : State} {m : MethodId} {below : List Frame} {meth : Method} {c : Code} {A : Nat → Prop} {D : va_G} {k : Nat → ClassId} {a_t : Nat} {d_t : Nat → Nat} {j_t : Nat → Int64} {n1 : Int32} {Q : (Nat → Int32) → (Nat → Int32) → Prop}  {x1 : Int32} {kx_3 : (Nat → Int32) → (Nat → Int32) → Prop} {kr_3 : (Int32) → (Nat → Int32) → (Nat → Int32) → Prop} (F : Fx p m c cX12_four 3 s ([.ref a_t, .int n1] : List Value).toArray RX12 D k) (hr : meth.sig.returnType = none) (hlk : meth.locks = false) (hA : ∀ q : Nat, s.heap.size ≤ q → A q) (hkx_3 : ∀ (i_t : Nat → Int32) (r_t_tape : Nat → Int32) (H : Heap) (locs : List Loc) (ls : Array Slot), kx_3 i_t r_t_tape → Bd D A s.heap (wd_LongTrainModel_four k a_t d_t i_t j_t r_t_tape) H locs → lv_has ls 3 [] → W p l e { frames := 0, cells := 0, slots := 0, locals := 0 } s m ([.ref a_t, .int n1] : List Value).toArray below meth c H locs 0 0 (Ev below (fun w => ∃ (i_t : Nat → Int32), ∃ (r_t_tape : Nat → Int32), w = (wd_LongTrainModel_four k a_t d_t i_t j_t r_t_tape) ∧ Q i_t r_t_tape) D k A ([.ref a_t, .int n1] : List Value).toArray s 0 0) (F0 m 36 ls [])) (hkr_3 : ∀ (x2 : Int32) (i_t : Nat → Int32) (r_t_tape : Nat → Int32) (H : Heap) (locs : List Loc) (ls : Array Slot), kr_3 x2 i_t r_t_tape → Bd D A s.heap (wd_LongTrainModel_four k a_t d_t i_t j_t r_t_tape) H locs → lv_has ls 3 [(0, .ref a_t), (1, .int x1), (2, .int x2)] → W p l e { frames := 0, cells := 0, slots := 0, locals := 0 } s m ([.ref a_t, .int n1] : List Value).toArray below meth c H locs 0 0 (Ev below (fun w => ∃ (i_t : Nat → Int32), ∃ (r_t_tape : Nat → Int32), w = (wd_LongTrainModel_four k a_t d_t i_t j_t r_t_tape) ∧ Q i_t r_t_tape) D k A ([.ref a_t, .int n1] : List Value).toArray s 0 0) (F0 m 3 ls [])) :
    ∀ (x2 : Int32) (i_t : Nat → Int32) (r_t_tape : Nat → Int32) (H : Heap) (locs : List Loc) (ls : Array Slot), b_LongTrainModel_four_3 x1 kx_3 kr_3 x2 i_t r_t_tape → Bd D A s.heap (wd_LongTrainModel_four k a_t d_t i_t j_t r_t_tape) H locs → lv_has ls 3 [(0, .ref a_t), (1, .int x1), (2, .int x2)] → W p l e { frames := 0, cells := 0, slots := 0, locals := 0 } s m ([.ref a_t, .int n1] : List Value).toArray below meth c H locs 0 0 (Ev below (fun w => ∃ (i_t : Nat → Int32), ∃ (r_t_tape : Nat → Int32), w = (wd_LongTrainModel_four k a_t d_t i_t j_t r_t_tape) ∧ Q i_t r_t_tape) D k A ([.ref a_t, .int n1] : List Value).toArray s 0 0) (F0 m 3 ls []) := by
  have hx := F.x
  have hb := F.b
  intro x2 i_t r_t_tape H locs ls hf hB hl
  unfold b_LongTrainModel_four_3 at hf
  refine lv_iload_n hx hb dX12_four_3 rfl (lv_at hl 2 rfl) ?_
  refine lv_if_lt (tgt := 36) hx hb dX12_four_4 (by decide) (fun c_2 => ?_) (fun c_2 => ?_)
  · replace hf := hf.1 c_2
    exact hkx_3 _ _ _ _ _ hf hB (lv_sub hl [] rfl)
  · replace hf := hf.2 c_2
    refine lv_aload_n hx hb dX12_four_7 rfl (lv_at hl 0 rfl) ?_
    refine g_get (w := .ref (d_t 1)) F hB 0 rfl fl_RX12_14 rfl dX12_four_8 ?_
    refine lv_aload_n hx hb dX12_four_11 rfl (lv_at hl 0 rfl) ?_
    refine g_get (w := .int (i_t 2)) F hB 0 rfl fl_RX12_7 rfl dX12_four_12 ?_
    refine lv_iload_n hx hb dX12_four_15 rfl (lv_at hl 1 rfl) ?_
    refine lv_iload_n hx hb dX12_four_16 rfl (lv_at hl 2 rfl) ?_
    refine lv_ishr hx hb dX12_four_17 ?_
    refine lv_i2b (v := ((x1 >>> (x2 &&& 31))).toInt8.toInt32) hx hb dX12_four_18 rfl ?_
    obtain ⟨h_1, hf⟩ := hf
    refine g_bast F hB 1 rfl h_1 (wd_LongTrainModel_four k a_t d_t i_t j_t (upd r_t_tape ((i_t 2)).toNatClampNeg (vp_nar .byte ((x1 >>> (x2 &&& 31))).toInt8.toInt32))) rfl dX12_four_19 (fun H locs hB => ?_)
    refine lv_aload_n hx hb dX12_four_20 rfl (lv_at hl 0 rfl) ?_
    refine lv_dup hx hb dX12_four_21 rfl ?_
    refine g_get (w := .int (i_t 2)) F hB 0 rfl fl_RX12_7 rfl dX12_four_22 ?_
    refine lv_iconst (v := 1) hx hb dX12_four_25 (by decide) ?_
    refine lv_iadd hx hb dX12_four_26 ?_
    refine g_puti F hB 0 rfl fl_RX12_7 rfl (wd_LongTrainModel_four k a_t d_t (upd i_t 2 ((i_t 2) + (1 : Int32))) j_t (upd r_t_tape ((i_t 2)).toNatClampNeg (vp_nar .byte ((x1 >>> (x2 &&& 31))).toInt8.toInt32))) rfl dX12_four_27 (fun H locs hB => ?_)
    refine lv_iinc (v := (x2 + (-8))) (lv' := [(2, .int (x2 + (-8))), (0, .ref a_t), (1, .int x1)]) (k := 2) hx hb dX12_four_30 hl rfl rfl (by decide) rfl (fun ls hl => ?_)
    refine lv_goto (tgt := 3) hx hb dX12_four_33 (by decide) ?_
    exact hkr_3 _ _ _ _ _ _ hf hB (lv_sub hl [1, 2, 0] rfl)

set_option maxRecDepth 100000 in
set_option maxHeartbeats 4000000 in
theorem lt_LongTrainModel_four_3 {p : Program} {l : Launch} {e : Env} {s : State} {m : MethodId} {below : List Frame} {meth : Method} {c : Code} {A : Nat → Prop} {D : va_G} {k : Nat → ClassId} {a_t : Nat} {d_t : Nat → Nat} {j_t : Nat → Int64} {n1 : Int32} {Q : (Nat → Int32) → (Nat → Int32) → Prop}  {x1 : Int32} {kx_3 : (Nat → Int32) → (Nat → Int32) → Prop} (F : Fx p m c cX12_four 3 s ([.ref a_t, .int n1] : List Value).toArray RX12 D k) (hr : meth.sig.returnType = none) (hlk : meth.locks = false) (hA : ∀ q : Nat, s.heap.size ≤ q → A q) (hkx_3 : ∀ (i_t : Nat → Int32) (r_t_tape : Nat → Int32) (H : Heap) (locs : List Loc) (ls : Array Slot), kx_3 i_t r_t_tape → Bd D A s.heap (wd_LongTrainModel_four k a_t d_t i_t j_t r_t_tape) H locs → lv_has ls 3 [] → W p l e { frames := 0, cells := 0, slots := 0, locals := 0 } s m ([.ref a_t, .int n1] : List Value).toArray below meth c H locs 0 0 (Ev below (fun w => ∃ (i_t : Nat → Int32), ∃ (r_t_tape : Nat → Int32), w = (wd_LongTrainModel_four k a_t d_t i_t j_t r_t_tape) ∧ Q i_t r_t_tape) D k A ([.ref a_t, .int n1] : List Value).toArray s 0 0) (F0 m 36 ls [])) :
    ∀ n : Nat, ∀ (x2 : Int32) (i_t : Nat → Int32) (r_t_tape : Nat → Int32) (H : Heap) (locs : List Loc) (ls : Array Slot), lp_LongTrainModel_four_3 x1 kx_3 n x2 i_t r_t_tape → Bd D A s.heap (wd_LongTrainModel_four k a_t d_t i_t j_t r_t_tape) H locs → lv_has ls 3 [(0, .ref a_t), (1, .int x1), (2, .int x2)] → W p l e { frames := 0, cells := 0, slots := 0, locals := 0 } s m ([.ref a_t, .int n1] : List Value).toArray below meth c H locs 0 0 (Ev below (fun w => ∃ (i_t : Nat → Int32), ∃ (r_t_tape : Nat → Int32), w = (wd_LongTrainModel_four k a_t d_t i_t j_t r_t_tape) ∧ Q i_t r_t_tape) D k A ([.ref a_t, .int n1] : List Value).toArray s 0 0) (F0 m 3 ls []) := by
  intro n
  induction n with
  | zero => intro x2 i_t r_t_tape H locs ls hf; exact absurd hf (fun h => h)
  | succ n ih => exact bt_LongTrainModel_four_3 F hr hlk hA hkx_3 ih

set_option maxRecDepth 100000 in
set_option maxHeartbeats 4000000 in
theorem c_LongTrainModel_four (l : Launch) (D : va_G) (k : Nat → ClassId) (a_t : Nat) (d_t : Nat → Nat) (i_t : Nat → Int32) (j_t : Nat → Int64) (r_t_tape : Nat → Int32) (n1 : Int32) (Q : (Nat → Int32) → (Nat → Int32) → Prop)  (hf : w_LongTrainModel_four i_t r_t_tape n1 Q) : CtV l yX12_four cX12_four 3 none 0 0 0 0 D k [.ref a_t, .int n1] (wd_LongTrainModel_four k a_t d_t i_t j_t r_t_tape) (fun w => ∃ (i_t : Nat → Int32), ∃ (r_t_tape : Nat → Int32), w = (wd_LongTrainModel_four k a_t d_t i_t j_t r_t_tape) ∧ Q i_t r_t_tape) := by
  refine CtV.of (by decide) (Nat.le_of_ble_eq_true rfl) ?_
  intro p e s m below meth c A F hr hlk hnm hA hB ls hl
  have hx := F.x
  have hb := F.b
  unfold w_LongTrainModel_four at hf
  replace hl : lv_has ls 3 [(0, .ref a_t), (1, .int n1)] := hl
  refine lv_bipush (v := 24) hx hb dX12_four_0 (by decide) ?_
  refine lv_istore_n (lv' := [(2, .int (24 : Int32)), (0, .ref a_t), (1, .int n1)]) hx hb dX12_four_2 rfl hl (by decide) rfl (fun ls hl => ?_)
  obtain ⟨n_5, hf⟩ := hf
  refine lt_LongTrainModel_four_3 F hr hlk hA (fun i_t_3 r_t_tape_4 H locs ls hf hB hl => ?_) n_5 _ _ _ _ _ _ hf hB (lv_sub hl [1, 2, 0] rfl)
  exact r_v F hr hlk hB ⟨_, _, rfl, hf⟩ dX12_four_36

/-! LongTrainModel.feed -/
set_option maxRecDepth 100000 in
set_option maxHeartbeats 4000000 in
theorem c_LongTrainModel_feed (l : Launch) (D : va_G) (k : Nat → ClassId) (a_t : Nat) (d_t : Nat → Nat) (i_t : Nat → Int32) (j_t : Nat → Int64) (r_t_tape : Nat → Int32) (n1 : Int32) (n2 : Int32) (n3 : Int32) (n4 : Int32) (n5 : Int32) (Q : Int32 → (Nat → Int32) → (Nat → Int32) → Prop)  (hf : w_LongTrainModel_feed i_t r_t_tape n1 n2 n3 n4 n5 Q) : CtI l yX12_feed cX12_feed 6 (some .int) 1 22 0 0 D k [.ref a_t, .int n1, .int n2, .int n3, .int n4, .int n5] (wd_LongTrainModel_feed k a_t d_t i_t j_t r_t_tape) (fun r w => ∃ (i_t : Nat → Int32), ∃ (r_t_tape : Nat → Int32), w = (wd_LongTrainModel_feed k a_t d_t i_t j_t r_t_tape) ∧ Q r i_t r_t_tape) := by
  refine CtI.of (by decide) (Nat.le_of_ble_eq_true rfl) ?_
  intro p e s m below meth c A F hr hlk hnm hA hB ls hl
  have hx := F.x
  have hb := F.b
  unfold w_LongTrainModel_feed at hf
  replace hl : lv_has ls 6 [(0, .ref a_t), (1, .int n1), (2, .int n2), (3, .int n3), (4, .int n4), (5, .int n5)] := hl
  refine lv_aload_n hx hb dX12_feed_0 rfl (lv_at hl 0 rfl) ?_
  refine lv_iconst (v := 0) hx hb dX12_feed_1 (by decide) ?_
  refine g_puti F hB 0 rfl fl_RX12_1 rfl (wd_LongTrainModel_feed k a_t d_t (upd i_t 0 (0 : Int32)) j_t r_t_tape) rfl dX12_feed_2 (fun H locs hB => ?_)
  refine lv_aload_n hx hb dX12_feed_5 rfl (lv_at hl 0 rfl) ?_
  refine g_get (w := .int ((upd i_t 0 (0 : Int32)) 2)) F hB 0 rfl fl_RX12_7 rfl dX12_feed_6 ?_
  refine lv_bipush (v := 20) hx hb dX12_feed_9 (by decide) ?_
  refine lv_iadd hx hb dX12_feed_11 ?_
  refine lv_sipush (v := 940) hx hb dX12_feed_12 (by decide) ?_
  refine lv_icmp_le (tgt := 20) hx hb dX12_feed_15 (by decide) (fun c_11 => ?_) (fun c_11 => ?_)
  · replace hf := hf.1 c_11
    refine lv_aload_n hx hb dX12_feed_20 rfl (lv_at hl 0 rfl) ?_
    refine lv_iload_n hx hb dX12_feed_21 rfl (lv_at hl 1 rfl) ?_
    refine k_vv (wr := []) (rest := []) F hA hB (c_LongTrainModel_four l D k a_t d_t (upd i_t 0 (0 : Int32)) j_t r_t_tape n1 _  hf) ml_RX12_10 mv_yX12_four [0, 1] [] rfl rfl (by decide) (by decide) (by decide) 0 rfl rfl rfl hl.1 rfl (Nat.le_of_ble_eq_true rfl) ⟨Nat.le_of_ble_eq_true rfl, Nat.le_of_ble_eq_true rfl⟩ ⟨Nat.le_of_ble_eq_true rfl, Nat.le_of_ble_eq_true rfl⟩ dX12_feed_22 (fun w1 H locs hq hB => ?_)
    obtain ⟨i_t_1, r_t_tape_2, rfl, hf⟩ := hq
    replace hB : Bd D A s.heap (wd_LongTrainModel_feed k a_t d_t i_t_1 j_t r_t_tape_2) H locs := hB.sub [0, 1] (by decide) rfl
    refine lv_aload_n hx hb dX12_feed_25 rfl (lv_at hl 0 rfl) ?_
    refine lv_iload_n hx hb dX12_feed_26 rfl (lv_at hl 2 rfl) ?_
    refine k_vv (wr := []) (rest := []) F hA hB (c_LongTrainModel_four l D k a_t d_t i_t_1 j_t r_t_tape_2 n2 _  hf) ml_RX12_10 mv_yX12_four [0, 1] [] rfl rfl (by decide) (by decide) (by decide) 0 rfl rfl rfl hl.1 rfl (Nat.le_of_ble_eq_true rfl) ⟨Nat.le_of_ble_eq_true rfl, Nat.le_of_ble_eq_true rfl⟩ ⟨Nat.le_of_ble_eq_true rfl, Nat.le_of_ble_eq_true rfl⟩ dX12_feed_27 (fun w1 H locs hq hB => ?_)
    obtain ⟨i_t_3, r_t_tape_4, rfl, hf⟩ := hq
    replace hB : Bd D A s.heap (wd_LongTrainModel_feed k a_t d_t i_t_3 j_t r_t_tape_4) H locs := hB.sub [0, 1] (by decide) rfl
    refine lv_aload_n hx hb dX12_feed_30 rfl (lv_at hl 0 rfl) ?_
    refine lv_iload_n hx hb dX12_feed_31 rfl (lv_at hl 3 rfl) ?_
    refine k_vv (wr := []) (rest := []) F hA hB (c_LongTrainModel_four l D k a_t d_t i_t_3 j_t r_t_tape_4 n3 _  hf) ml_RX12_10 mv_yX12_four [0, 1] [] rfl rfl (by decide) (by decide) (by decide) 0 rfl rfl rfl hl.1 rfl (Nat.le_of_ble_eq_true rfl) ⟨Nat.le_of_ble_eq_true rfl, Nat.le_of_ble_eq_true rfl⟩ ⟨Nat.le_of_ble_eq_true rfl, Nat.le_of_ble_eq_true rfl⟩ dX12_feed_32 (fun w1 H locs hq hB => ?_)
    obtain ⟨i_t_5, r_t_tape_6, rfl, hf⟩ := hq
    replace hB : Bd D A s.heap (wd_LongTrainModel_feed k a_t d_t i_t_5 j_t r_t_tape_6) H locs := hB.sub [0, 1] (by decide) rfl
    refine lv_aload_n hx hb dX12_feed_35 rfl (lv_at hl 0 rfl) ?_
    refine lv_iload hx hb dX12_feed_36 (lv_at hl 4 rfl) ?_
    refine k_vv (wr := []) (rest := []) F hA hB (c_LongTrainModel_four l D k a_t d_t i_t_5 j_t r_t_tape_6 n4 _  hf) ml_RX12_10 mv_yX12_four [0, 1] [] rfl rfl (by decide) (by decide) (by decide) 0 rfl rfl rfl hl.1 rfl (Nat.le_of_ble_eq_true rfl) ⟨Nat.le_of_ble_eq_true rfl, Nat.le_of_ble_eq_true rfl⟩ ⟨Nat.le_of_ble_eq_true rfl, Nat.le_of_ble_eq_true rfl⟩ dX12_feed_38 (fun w1 H locs hq hB => ?_)
    obtain ⟨i_t_7, r_t_tape_8, rfl, hf⟩ := hq
    replace hB : Bd D A s.heap (wd_LongTrainModel_feed k a_t d_t i_t_7 j_t r_t_tape_8) H locs := hB.sub [0, 1] (by decide) rfl
    refine lv_aload_n hx hb dX12_feed_41 rfl (lv_at hl 0 rfl) ?_
    refine lv_iload hx hb dX12_feed_42 (lv_at hl 5 rfl) ?_
    refine k_vv (wr := []) (rest := []) F hA hB (c_LongTrainModel_four l D k a_t d_t i_t_7 j_t r_t_tape_8 n5 _  hf) ml_RX12_10 mv_yX12_four [0, 1] [] rfl rfl (by decide) (by decide) (by decide) 0 rfl rfl rfl hl.1 rfl (Nat.le_of_ble_eq_true rfl) ⟨Nat.le_of_ble_eq_true rfl, Nat.le_of_ble_eq_true rfl⟩ ⟨Nat.le_of_ble_eq_true rfl, Nat.le_of_ble_eq_true rfl⟩ dX12_feed_44 (fun w1 H locs hq hB => ?_)
    obtain ⟨i_t_9, r_t_tape_10, rfl, hf⟩ := hq
    replace hB : Bd D A s.heap (wd_LongTrainModel_feed k a_t d_t i_t_9 j_t r_t_tape_10) H locs := hB.sub [0, 1] (by decide) rfl
    refine lv_aload_n hx hb dX12_feed_47 rfl (lv_at hl 0 rfl) ?_
    refine g_get (w := .int (i_t_9 2)) F hB 0 rfl fl_RX12_7 rfl dX12_feed_48 ?_
    exact r_i F hr hlk hB ⟨_, _, rfl, hf⟩ dX12_feed_51
  · replace hf := hf.2 c_11
    refine lv_iconst (v := -1) hx hb dX12_feed_18 (by decide) ?_
    exact r_i F hr hlk hB ⟨_, _, rfl, hf⟩ dX12_feed_19

/-! LongTrainModel.end -/
set_option maxRecDepth 100000 in
set_option maxHeartbeats 4000000 in
theorem c_LongTrainModel_end (l : Launch) (D : va_G) (k : Nat → ClassId) (a_t : Nat) (d_t : Nat → Nat) (i_t : Nat → Int32) (j_t : Nat → Int64) (n1 : Int32) (Q : Int32 → (Nat → Int32) → Prop)  (hf : w_LongTrainModel_end i_t n1 Q) : CtI l yX12_end cX12_end 2 (some .boolean) 0 0 0 0 D k [.ref a_t, .int n1] (wd_LongTrainModel_end k a_t d_t i_t j_t) (fun r w => (r = 0 ∨ r = 1) ∧ (∃ (i_t : Nat → Int32), w = (wd_LongTrainModel_end k a_t d_t i_t j_t) ∧ Q r i_t)) := by
  refine CtI.of (by decide) (Nat.le_of_ble_eq_true rfl) ?_
  intro p e s m below meth c A F hr hlk hnm hA hB ls hl
  have hx := F.x
  have hb := F.b
  unfold w_LongTrainModel_end at hf
  replace hl : lv_has ls 2 [(0, .ref a_t), (1, .int n1)] := hl
  refine lv_aload_n hx hb dX12_end_0 rfl (lv_at hl 0 rfl) ?_
  refine lv_iconst (v := 0) hx hb dX12_end_1 (by decide) ?_
  refine g_puti F hB 0 rfl fl_RX12_1 rfl (wd_LongTrainModel_end k a_t d_t (upd i_t 0 (0 : Int32)) j_t) rfl dX12_end_2 (fun H locs hB => ?_)
  refine lv_iload_n hx hb dX12_end_5 rfl (lv_at hl 1 rfl) ?_
  refine lv_if_lt (tgt := 17) hx hb dX12_end_6 (by decide) (fun c_2 => ?_) (fun c_2 => ?_)
  · replace hf := hf.1 c_2
    refine lv_iconst (v := 0) hx hb dX12_end_17 (by decide) ?_
    exact r_z F hr hlk hB (Or.inl rfl) ⟨Or.inl rfl, _, rfl, hf⟩ dX12_end_18
  · replace hf := hf.2 c_2
    refine lv_iload_n hx hb dX12_end_9 rfl (lv_at hl 1 rfl) ?_
    refine lv_aload_n hx hb dX12_end_10 rfl (lv_at hl 0 rfl) ?_
    refine g_get (w := .int ((upd i_t 0 (0 : Int32)) 2)) F hB 0 rfl fl_RX12_7 rfl dX12_end_11 ?_
    refine lv_icmp_le (tgt := 19) hx hb dX12_end_14 (by decide) (fun c_1 => ?_) (fun c_1 => ?_)
    · replace hf := hf.1 c_1
      refine lv_aload_n hx hb dX12_end_19 rfl (lv_at hl 0 rfl) ?_
      refine lv_iload_n hx hb dX12_end_20 rfl (lv_at hl 1 rfl) ?_
      refine g_puti F hB 0 rfl fl_RX12_7 rfl (wd_LongTrainModel_end k a_t d_t (upd (upd i_t 0 (0 : Int32)) 2 n1) j_t) rfl dX12_end_21 (fun H locs hB => ?_)
      refine lv_iconst (v := 1) hx hb dX12_end_24 (by decide) ?_
      exact r_z F hr hlk hB (Or.inr rfl) ⟨Or.inr rfl, _, rfl, hf⟩ dX12_end_25
    · replace hf := hf.2 c_1
      refine lv_iconst (v := 0) hx hb dX12_end_17 (by decide) ?_
      exact r_z F hr hlk hB (Or.inl rfl) ⟨Or.inl rfl, _, rfl, hf⟩ dX12_end_18

/-! LongTrainModel.taken -/
set_option maxRecDepth 100000 in
set_option maxHeartbeats 4000000 in
theorem c_LongTrainModel_taken (l : Launch) (D : va_G) (k : Nat → ClassId) (a_t : Nat) (d_t : Nat → Nat) (i_t : Nat → Int32) (j_t : Nat → Int64) (n1 : Int32) (Q : (Nat → Int32) → Prop)  (hf : w_LongTrainModel_taken i_t n1 Q) : CtV l yX12_taken cX12_taken 2 none 0 0 0 0 D k [.ref a_t, .int n1] (wd_LongTrainModel_taken k a_t d_t i_t j_t) (fun w => ∃ (i_t : Nat → Int32), w = (wd_LongTrainModel_taken k a_t d_t i_t j_t) ∧ Q i_t) := by
  refine CtV.of (by decide) (Nat.le_of_ble_eq_true rfl) ?_
  intro p e s m below meth c A F hr hlk hnm hA hB ls hl
  have hx := F.x
  have hb := F.b
  unfold w_LongTrainModel_taken at hf
  replace hl : lv_has ls 2 [(0, .ref a_t), (1, .int n1)] := hl
  refine lv_aload_n hx hb dX12_taken_0 rfl (lv_at hl 0 rfl) ?_
  refine lv_aload_n hx hb dX12_taken_1 rfl (lv_at hl 0 rfl) ?_
  refine g_get (w := .int (i_t 2)) F hB 0 rfl fl_RX12_7 rfl dX12_taken_2 ?_
  refine g_puti F hB 0 rfl fl_RX12_18 rfl (wd_LongTrainModel_taken k a_t d_t (upd i_t 3 (i_t 2)) j_t) rfl dX12_taken_5 (fun H locs hB => ?_)
  refine lv_aload_n hx hb dX12_taken_8 rfl (lv_at hl 0 rfl) ?_
  refine lv_iconst (v := 0) hx hb dX12_taken_9 (by decide) ?_
  refine g_puti F hB 0 rfl fl_RX12_7 rfl (wd_LongTrainModel_taken k a_t d_t (upd (upd i_t 3 (i_t 2)) 2 (0 : Int32)) j_t) rfl dX12_taken_10 (fun H locs hB => ?_)
  refine lv_aload_n hx hb dX12_taken_13 rfl (lv_at hl 0 rfl) ?_
  refine lv_iconst (v := 0) hx hb dX12_taken_14 (by decide) ?_
  refine g_puti F hB 0 rfl fl_RX12_21 rfl (wd_LongTrainModel_taken k a_t d_t (upd (upd (upd i_t 3 (i_t 2)) 2 (0 : Int32)) 4 (0 : Int32)) j_t) rfl dX12_taken_15 (fun H locs hB => ?_)
  refine lv_aload_n hx hb dX12_taken_18 rfl (lv_at hl 0 rfl) ?_
  refine lv_iload_n hx hb dX12_taken_19 rfl (lv_at hl 1 rfl) ?_
  refine g_puti F hB 0 rfl fl_RX12_24 rfl (wd_LongTrainModel_taken k a_t d_t (upd (upd (upd (upd i_t 3 (i_t 2)) 2 (0 : Int32)) 4 (0 : Int32)) 5 n1) j_t) rfl dX12_taken_20 (fun H locs hB => ?_)
  exact r_v F hr hlk hB ⟨_, rfl, hf⟩ dX12_taken_23

/-! LongTrainModel.isIn -/
set_option maxRecDepth 100000 in
set_option maxHeartbeats 4000000 in
theorem c_LongTrainModel_isIn (l : Launch) (D : va_G) (k : Nat → ClassId)  (n0 : Int32) (n1 : Int32) (n2 : Int32) (Q : Int32 → Prop)  (hf : w_LongTrainModel_isIn n0 n1 n2 Q) : CtI l yX12_isIn cX12_isIn 3 (some .boolean) 0 0 0 0 D k [.int n0, .int n1, .int n2] [] (fun r w => (r = 0 ∨ r = 1) ∧ (w = ([] : va_W) ∧ Q r)) := by
  refine CtI.of (by decide) (Nat.le_of_ble_eq_true rfl) ?_
  intro p e s m below meth c A F hr hlk hnm hA hB ls hl
  have hx := F.x
  have hb := F.b
  unfold w_LongTrainModel_isIn at hf
  replace hl : lv_has ls 3 [(0, .int n0), (1, .int n1), (2, .int n2)] := hl
  refine lv_iload_n hx hb dX12_isIn_0 rfl (lv_at hl 0 rfl) ?_
  refine lv_iload_n hx hb dX12_isIn_1 rfl (lv_at hl 1 rfl) ?_
  refine lv_icmp_lt (tgt := 14) hx hb dX12_isIn_2 (by decide) (fun c_2 => ?_) (fun c_2 => ?_)
  · replace hf := hf.1 c_2
    refine lv_iconst (v := 0) hx hb dX12_isIn_14 (by decide) ?_
    exact r_z F hr hlk hB (Or.inl rfl) ⟨Or.inl rfl, rfl, hf⟩ dX12_isIn_15
  · replace hf := hf.2 c_2
    refine lv_iload_n hx hb dX12_isIn_5 rfl (lv_at hl 0 rfl) ?_
    refine lv_iload_n hx hb dX12_isIn_6 rfl (lv_at hl 2 rfl) ?_
    refine lv_icmp_gt (tgt := 14) hx hb dX12_isIn_7 (by decide) (fun c_1 => ?_) (fun c_1 => ?_)
    · replace hf := hf.1 c_1
      refine lv_iconst (v := 0) hx hb dX12_isIn_14 (by decide) ?_
      exact r_z F hr hlk hB (Or.inl rfl) ⟨Or.inl rfl, rfl, hf⟩ dX12_isIn_15
    · replace hf := hf.2 c_1
      refine lv_iconst (v := 1) hx hb dX12_isIn_10 (by decide) ?_
      refine lv_goto (tgt := 15) hx hb dX12_isIn_11 (by decide) ?_
      exact r_z F hr hlk hB (Or.inr rfl) ⟨Or.inr rfl, rfl, hf⟩ dX12_isIn_15

/-! LongTrainModel.has -/
set_option maxRecDepth 100000 in
set_option maxHeartbeats 4000000 in
theorem c_LongTrainModel_has (l : Launch) (D : va_G) (k : Nat → ClassId)  (n0 : Int32) (n1 : Int32) (Q : Int32 → Prop)  (hf : w_LongTrainModel_has n0 n1 Q) : CtI l yX12_has cX12_has 2 (some .boolean) 0 0 0 0 D k [.int n0, .int n1] [] (fun r w => (r = 0 ∨ r = 1) ∧ (w = ([] : va_W) ∧ Q r)) := by
  refine CtI.of (by decide) (Nat.le_of_ble_eq_true rfl) ?_
  intro p e s m below meth c A F hr hlk hnm hA hB ls hl
  have hx := F.x
  have hb := F.b
  unfold w_LongTrainModel_has at hf
  replace hl : lv_has ls 2 [(0, .int n0), (1, .int n1)] := hl
  refine lv_iload_n hx hb dX12_has_0 rfl (lv_at hl 0 rfl) ?_
  refine lv_iload_n hx hb dX12_has_1 rfl (lv_at hl 1 rfl) ?_
  refine lv_ishr hx hb dX12_has_2 ?_
  refine lv_iconst (v := 1) hx hb dX12_has_3 (by decide) ?_
  refine lv_iand hx hb dX12_has_4 ?_
  refine lv_iconst (v := 1) hx hb dX12_has_5 (by decide) ?_
  refine lv_icmp_ne (tgt := 13) hx hb dX12_has_6 (by decide) (fun c_1 => ?_) (fun c_1 => ?_)
  · replace hf := hf.1 c_1
    refine lv_iconst (v := 0) hx hb dX12_has_13 (by decide) ?_
    exact r_z F hr hlk hB (Or.inl rfl) ⟨Or.inl rfl, rfl, hf⟩ dX12_has_14
  · replace hf := hf.2 c_1
    refine lv_iconst (v := 1) hx hb dX12_has_9 (by decide) ?_
    refine lv_goto (tgt := 14) hx hb dX12_has_10 (by decide) ?_
    exact r_z F hr hlk hB (Or.inr rfl) ⟨Or.inr rfl, rfl, hf⟩ dX12_has_14

/-! LongTrainModel.octet -/
set_option maxRecDepth 100000 in
set_option maxHeartbeats 4000000 in
theorem c_LongTrainModel_octet (l : Launch) (D : va_G) (k : Nat → ClassId) (a_t : Nat) (d_t : Nat → Nat) (i_t : Nat → Int32) (j_t : Nat → Int64) (r_t_tape : Nat → Int32) (n1 : Int32) (Q : Int32 → Prop)  (hf : w_LongTrainModel_octet r_t_tape n1 Q) : CtI l yX12_octet cX12_octet 2 (some .int) 0 0 0 0 D k [.ref a_t, .int n1] (wd_LongTrainModel_octet k a_t d_t i_t j_t r_t_tape) (fun r w => w = (wd_LongTrainModel_octet k a_t d_t i_t j_t r_t_tape) ∧ Q r) := by
  refine CtI.of (by decide) (Nat.le_of_ble_eq_true rfl) ?_
  intro p e s m below meth c A F hr hlk hnm hA hB ls hl
  have hx := F.x
  have hb := F.b
  unfold w_LongTrainModel_octet at hf
  replace hl : lv_has ls 2 [(0, .ref a_t), (1, .int n1)] := hl
  refine lv_aload_n hx hb dX12_octet_0 rfl (lv_at hl 0 rfl) ?_
  refine g_get (w := .ref (d_t 1)) F hB 0 rfl fl_RX12_14 rfl dX12_octet_1 ?_
  refine lv_iload_n hx hb dX12_octet_4 rfl (lv_at hl 1 rfl) ?_
  obtain ⟨h_1, hf⟩ := hf
  refine g_bald F hB 1 rfl h_1 dX12_octet_5 ?_
  refine lv_sipush (v := 255) hx hb dX12_octet_6 (by decide) ?_
  refine lv_iand hx hb dX12_octet_9 ?_
  exact r_i F hr hlk hB ⟨rfl, hf⟩ dX12_octet_10

/-! LongTrainModel.plainLine -/
set_option maxRecDepth 100000 in
set_option maxHeartbeats 4000000 in
theorem bt_LongTrainModel_plainLine_2 {p : Program} {l : Launch} {e : Env} {s : State} {m : MethodId} {below : List Frame} {meth : Method} {c : Code} {A : Nat → Prop} {D : va_G} {k : Nat → ClassId} {a_t : Nat} {d_t : Nat → Nat} {i_t : Nat → Int32} {j_t : Nat → Int64}  {Q : (Nat → Int32) → Prop}  {kx_2 : (Nat → Int32) → Prop} {kr_2 : (Int32) → (Nat → Int32) → Prop} (F : Fx p m c cX12_plainLine 2 s ([.ref a_t] : List Value).toArray RX12 D k) (hr : meth.sig.returnType = none) (hlk : meth.locks = false) (hA : ∀ q : Nat, s.heap.size ≤ q → A q) (hkx_2 : ∀ (r_t_h : Nat → Int32) (H : Heap) (locs : List Loc) (ls : Array Slot), kx_2 r_t_h → Bd D A s.heap (wd_LongTrainModel_plainLine k a_t d_t i_t j_t r_t_h) H locs → lv_has ls 2 [(0, .ref a_t)] → W p l e { frames := 0, cells := 0, slots := 0, locals := 0 } s m ([.ref a_t] : List Value).toArray below meth c H locs 0 0 (Ev below (fun w => ∃ (r_t_h : Nat → Int32), w = (wd_LongTrainModel_plainLine k a_t d_t i_t j_t r_t_h) ∧ Q r_t_h) D k A ([.ref a_t] : List Value).toArray s 0 0) (F0 m 22 ls [])) (hkr_2 : ∀ (x1 : Int32) (r_t_h : Nat → Int32) (H : Heap) (locs : List Loc) (ls : Array Slot), kr_2 x1 r_t_h → Bd D A s.heap (wd_LongTrainModel_plainLine k a_t d_t i_t j_t r_t_h) H locs → lv_has ls 2 [(0, .ref a_t), (1, .int x1)] → W p l e { frames := 0, cells := 0, slots := 0, locals := 0 } s m ([.ref a_t] : List Value).toArray below meth c H locs 0 0 (Ev below (fun w => ∃ (r_t_h : Nat → Int32), w = (wd_LongTrainModel_plainLine k a_t d_t i_t j_t r_t_h) ∧ Q r_t_h) D k A ([.ref a_t] : List Value).toArray s 0 0) (F0 m 2 ls [])) :
    ∀ (x1 : Int32) (r_t_h : Nat → Int32) (H : Heap) (locs : List Loc) (ls : Array Slot), b_LongTrainModel_plainLine_2 kx_2 kr_2 x1 r_t_h → Bd D A s.heap (wd_LongTrainModel_plainLine k a_t d_t i_t j_t r_t_h) H locs → lv_has ls 2 [(0, .ref a_t), (1, .int x1)] → W p l e { frames := 0, cells := 0, slots := 0, locals := 0 } s m ([.ref a_t] : List Value).toArray below meth c H locs 0 0 (Ev below (fun w => ∃ (r_t_h : Nat → Int32), w = (wd_LongTrainModel_plainLine k a_t d_t i_t j_t r_t_h) ∧ Q r_t_h) D k A ([.ref a_t] : List Value).toArray s 0 0) (F0 m 2 ls []) := by
  have hx := F.x
  have hb := F.b
  intro x1 r_t_h H locs ls hf hB hl
  unfold b_LongTrainModel_plainLine_2 at hf
  refine lv_iload_n hx hb dX12_plainLine_2 rfl (lv_at hl 1 rfl) ?_
  refine lv_sipush (v := 483) hx hb dX12_plainLine_3 (by decide) ?_
  refine lv_icmp_ge (tgt := 22) hx hb dX12_plainLine_6 (by decide) (fun c_2 => ?_) (fun c_2 => ?_)
  · replace hf := hf.1 c_2
    exact hkx_2 _ _ _ _ hf hB (lv_sub hl [0] rfl)
  · replace hf := hf.2 c_2
    refine lv_aload_n hx hb dX12_plainLine_9 rfl (lv_at hl 0 rfl) ?_
    refine g_get (w := .ref (d_t 7)) F hB 0 rfl fl_RX12_37 rfl dX12_plainLine_10 ?_
    refine lv_iload_n hx hb dX12_plainLine_13 rfl (lv_at hl 1 rfl) ?_
    refine lv_iconst (v := 0) hx hb dX12_plainLine_14 (by decide) ?_
    obtain ⟨h_1, hf⟩ := hf
    refine g_iast F hB 1 rfl h_1 (wd_LongTrainModel_plainLine k a_t d_t i_t j_t (upd r_t_h (x1).toNatClampNeg (0 : Int32))) rfl dX12_plainLine_15 (fun H locs hB => ?_)
    refine lv_iinc (v := (x1 + 1)) (lv' := [(1, .int (x1 + 1)), (0, .ref a_t)]) (k := 1) hx hb dX12_plainLine_16 hl rfl rfl (by decide) rfl (fun ls hl => ?_)
    refine lv_goto (tgt := 2) hx hb dX12_plainLine_19 (by decide) ?_
    exact hkr_2 _ _ _ _ _ hf hB (lv_sub hl [1, 0] rfl)

set_option maxRecDepth 100000 in
set_option maxHeartbeats 4000000 in
theorem lt_LongTrainModel_plainLine_2 {p : Program} {l : Launch} {e : Env} {s : State} {m : MethodId} {below : List Frame} {meth : Method} {c : Code} {A : Nat → Prop} {D : va_G} {k : Nat → ClassId} {a_t : Nat} {d_t : Nat → Nat} {i_t : Nat → Int32} {j_t : Nat → Int64}  {Q : (Nat → Int32) → Prop}  {kx_2 : (Nat → Int32) → Prop} (F : Fx p m c cX12_plainLine 2 s ([.ref a_t] : List Value).toArray RX12 D k) (hr : meth.sig.returnType = none) (hlk : meth.locks = false) (hA : ∀ q : Nat, s.heap.size ≤ q → A q) (hkx_2 : ∀ (r_t_h : Nat → Int32) (H : Heap) (locs : List Loc) (ls : Array Slot), kx_2 r_t_h → Bd D A s.heap (wd_LongTrainModel_plainLine k a_t d_t i_t j_t r_t_h) H locs → lv_has ls 2 [(0, .ref a_t)] → W p l e { frames := 0, cells := 0, slots := 0, locals := 0 } s m ([.ref a_t] : List Value).toArray below meth c H locs 0 0 (Ev below (fun w => ∃ (r_t_h : Nat → Int32), w = (wd_LongTrainModel_plainLine k a_t d_t i_t j_t r_t_h) ∧ Q r_t_h) D k A ([.ref a_t] : List Value).toArray s 0 0) (F0 m 22 ls [])) :
    ∀ n : Nat, ∀ (x1 : Int32) (r_t_h : Nat → Int32) (H : Heap) (locs : List Loc) (ls : Array Slot), lp_LongTrainModel_plainLine_2 kx_2 n x1 r_t_h → Bd D A s.heap (wd_LongTrainModel_plainLine k a_t d_t i_t j_t r_t_h) H locs → lv_has ls 2 [(0, .ref a_t), (1, .int x1)] → W p l e { frames := 0, cells := 0, slots := 0, locals := 0 } s m ([.ref a_t] : List Value).toArray below meth c H locs 0 0 (Ev below (fun w => ∃ (r_t_h : Nat → Int32), w = (wd_LongTrainModel_plainLine k a_t d_t i_t j_t r_t_h) ∧ Q r_t_h) D k A ([.ref a_t] : List Value).toArray s 0 0) (F0 m 2 ls []) := by
  intro n
  induction n with
  | zero => intro x1 r_t_h H locs ls hf; exact absurd hf (fun h => h)
  | succ n ih => exact bt_LongTrainModel_plainLine_2 F hr hlk hA hkx_2 ih

set_option maxRecDepth 100000 in
set_option maxHeartbeats 4000000 in
theorem c_LongTrainModel_plainLine (l : Launch) (D : va_G) (k : Nat → ClassId) (a_t : Nat) (d_t : Nat → Nat) (i_t : Nat → Int32) (j_t : Nat → Int64) (r_t_h : Nat → Int32)  (Q : (Nat → Int32) → Prop)  (hf : w_LongTrainModel_plainLine r_t_h Q) : CtV l yX12_plainLine cX12_plainLine 2 none 0 0 0 0 D k [.ref a_t] (wd_LongTrainModel_plainLine k a_t d_t i_t j_t r_t_h) (fun w => ∃ (r_t_h : Nat → Int32), w = (wd_LongTrainModel_plainLine k a_t d_t i_t j_t r_t_h) ∧ Q r_t_h) := by
  refine CtV.of (by decide) (Nat.le_of_ble_eq_true rfl) ?_
  intro p e s m below meth c A F hr hlk hnm hA hB ls hl
  have hx := F.x
  have hb := F.b
  unfold w_LongTrainModel_plainLine at hf
  replace hl : lv_has ls 2 [(0, .ref a_t)] := hl
  refine lv_iconst (v := 0) hx hb dX12_plainLine_0 (by decide) ?_
  refine lv_istore_n (lv' := [(1, .int (0 : Int32)), (0, .ref a_t)]) hx hb dX12_plainLine_1 rfl hl (by decide) rfl (fun ls hl => ?_)
  obtain ⟨n_10, hf⟩ := hf
  refine lt_LongTrainModel_plainLine_2 F hr hlk hA (fun r_t_h_3 H locs ls hf hB hl => ?_) n_10 _ _ _ _ _ hf hB (lv_sub hl [1, 0] rfl)
  refine lv_aload_n hx hb dX12_plainLine_22 rfl (lv_at hl 0 rfl) ?_
  refine g_get (w := .ref (d_t 7)) F hB 0 rfl fl_RX12_37 rfl dX12_plainLine_23 ?_
  refine lv_iconst (v := 4) hx hb dX12_plainLine_26 (by decide) ?_
  refine lv_bipush (v := 100) hx hb dX12_plainLine_27 (by decide) ?_
  refine g_iast F hB 1 rfl (vp_in_iff.mpr (by decide +kernel)) (wd_LongTrainModel_plainLine k a_t d_t i_t j_t (upd r_t_h_3 4 (100 : Int32))) rfl dX12_plainLine_29 (fun H locs hB => ?_)
  refine lv_aload_n hx hb dX12_plainLine_30 rfl (lv_at hl 0 rfl) ?_
  refine g_get (w := .ref (d_t 7)) F hB 0 rfl fl_RX12_37 rfl dX12_plainLine_31 ?_
  refine lv_iconst (v := 5) hx hb dX12_plainLine_34 (by decide) ?_
  refine lv_bipush (v := 10) hx hb dX12_plainLine_35 (by decide) ?_
  refine g_iast F hB 1 rfl (vp_in_iff.mpr (by decide +kernel)) (wd_LongTrainModel_plainLine k a_t d_t i_t j_t (upd (upd r_t_h_3 4 (100 : Int32)) 5 (10 : Int32))) rfl dX12_plainLine_37 (fun H locs hB => ?_)
  refine lv_aload_n hx hb dX12_plainLine_38 rfl (lv_at hl 0 rfl) ?_
  refine g_get (w := .ref (d_t 7)) F hB 0 rfl fl_RX12_37 rfl dX12_plainLine_39 ?_
  refine lv_bipush (v := 6) hx hb dX12_plainLine_42 (by decide) ?_
  refine lv_iconst (v := 1) hx hb dX12_plainLine_44 (by decide) ?_
  refine g_iast F hB 1 rfl (vp_in_iff.mpr (by decide +kernel)) (wd_LongTrainModel_plainLine k a_t d_t i_t j_t (upd (upd (upd r_t_h_3 4 (100 : Int32)) 5 (10 : Int32)) 6 (1 : Int32))) rfl dX12_plainLine_45 (fun H locs hB => ?_)
  refine lv_aload_n hx hb dX12_plainLine_46 rfl (lv_at hl 0 rfl) ?_
  refine g_get (w := .ref (d_t 7)) F hB 0 rfl fl_RX12_37 rfl dX12_plainLine_47 ?_
  refine lv_bipush (v := 7) hx hb dX12_plainLine_50 (by decide) ?_
  refine lv_bipush (v := 10) hx hb dX12_plainLine_52 (by decide) ?_
  refine g_iast F hB 1 rfl (vp_in_iff.mpr (by decide +kernel)) (wd_LongTrainModel_plainLine k a_t d_t i_t j_t (upd (upd (upd (upd r_t_h_3 4 (100 : Int32)) 5 (10 : Int32)) 6 (1 : Int32)) 7 (10 : Int32))) rfl dX12_plainLine_54 (fun H locs hB => ?_)
  refine lv_aload_n hx hb dX12_plainLine_55 rfl (lv_at hl 0 rfl) ?_
  refine g_get (w := .ref (d_t 7)) F hB 0 rfl fl_RX12_37 rfl dX12_plainLine_56 ?_
  refine lv_bipush (v := 8) hx hb dX12_plainLine_59 (by decide) ?_
  refine lv_bipush (v := 10) hx hb dX12_plainLine_61 (by decide) ?_
  refine g_iast F hB 1 rfl (vp_in_iff.mpr (by decide +kernel)) (wd_LongTrainModel_plainLine k a_t d_t i_t j_t (upd (upd (upd (upd (upd r_t_h_3 4 (100 : Int32)) 5 (10 : Int32)) 6 (1 : Int32)) 7 (10 : Int32)) 8 (10 : Int32))) rfl dX12_plainLine_63 (fun H locs hB => ?_)
  refine lv_aload_n hx hb dX12_plainLine_64 rfl (lv_at hl 0 rfl) ?_
  refine g_get (w := .ref (d_t 7)) F hB 0 rfl fl_RX12_37 rfl dX12_plainLine_65 ?_
  refine lv_bipush (v := 9) hx hb dX12_plainLine_68 (by decide) ?_
  refine lv_iconst (v := 2) hx hb dX12_plainLine_70 (by decide) ?_
  refine g_iast F hB 1 rfl (vp_in_iff.mpr (by decide +kernel)) (wd_LongTrainModel_plainLine k a_t d_t i_t j_t (upd (upd (upd (upd (upd (upd r_t_h_3 4 (100 : Int32)) 5 (10 : Int32)) 6 (1 : Int32)) 7 (10 : Int32)) 8 (10 : Int32)) 9 (2 : Int32))) rfl dX12_plainLine_71 (fun H locs hB => ?_)
  exact r_v F hr hlk hB ⟨_, rfl, hf⟩ dX12_plainLine_72

