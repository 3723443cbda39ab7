/-! LongTrain.Line.clear -/
set_option maxRecDepth 100000 in
set_option maxHeartbeats 4000000 in
theorem c_Line_clear (l : Launch) (D : va_G) (k : Nat → ClassId) (a_t : Nat) (d_t : Nat → Nat) (i_t : Nat → Int32)  (Q : (Nat → Int32) → Prop)  (hf : w_Line_clear i_t Q) : CtV l yX3_clear cX3_clear 1 none 0 0 0 0 D k [.ref a_t] (wd_Line_clear k a_t d_t i_t) (fun w => ∃ (i_t : Nat → Int32), w = (wd_Line_clear k a_t d_t i_t) ∧ Q i_t) := by
  refine CtV.of (by decide) (Nat.le_of_ble_eq_true rfl) ?_
  intro p e s m below meth c A F hr hlk hnm hA hB ls hl
  have hx := F.x
  have hb := F.b
  unfold w_Line_clear at hf
  replace hl : lv_has ls 1 [(0, .ref a_t)] := hl
  refine lv_aload_n hx hb dX3_clear_0 rfl (lv_at hl 0 rfl) ?_
  refine lv_iconst (v := 0) hx hb dX3_clear_1 (by decide) ?_
  refine g_puti F hB 0 rfl fl_RX3_30 rfl (wd_Line_clear k a_t d_t (upd i_t 1 (0 : Int32))) rfl dX3_clear_2 (fun H locs hB => ?_)
  refine lv_aload_n hx hb dX3_clear_5 rfl (lv_at hl 0 rfl) ?_
  refine lv_iconst (v := 0) hx hb dX3_clear_6 (by decide) ?_
  refine g_puti F hB 0 rfl fl_RX3_34 rfl (wd_Line_clear k a_t d_t (upd (upd i_t 1 (0 : Int32)) 3 (0 : Int32))) rfl dX3_clear_7 (fun H locs hB => ?_)
  refine lv_aload_n hx hb dX3_clear_10 rfl (lv_at hl 0 rfl) ?_
  refine lv_iconst (v := 0) hx hb dX3_clear_11 (by decide) ?_
  refine g_puti F hB 0 rfl fl_RX3_37 rfl (wd_Line_clear k a_t d_t (upd (upd (upd i_t 1 (0 : Int32)) 3 (0 : Int32)) 5 (0 : Int32))) rfl dX3_clear_12 (fun H locs hB => ?_)
  refine lv_aload_n hx hb dX3_clear_15 rfl (lv_at hl 0 rfl) ?_
  refine lv_iconst (v := 0) hx hb dX3_clear_16 (by decide) ?_
  refine g_puti F hB 0 rfl fl_RX3_40 rfl (wd_Line_clear k a_t d_t (upd (upd (upd (upd i_t 1 (0 : Int32)) 3 (0 : Int32)) 5 (0 : Int32)) 7 (0 : Int32))) rfl dX3_clear_17 (fun H locs hB => ?_)
  refine lv_aload_n hx hb dX3_clear_20 rfl (lv_at hl 0 rfl) ?_
  refine lv_iconst (v := 0) hx hb dX3_clear_21 (by decide) ?_
  refine g_puti F hB 0 rfl fl_RX3_43 rfl (wd_Line_clear k a_t d_t (upd (upd (upd (upd (upd i_t 1 (0 : Int32)) 3 (0 : Int32)) 5 (0 : Int32)) 7 (0 : Int32)) 9 (0 : Int32))) rfl dX3_clear_22 (fun H locs hB => ?_)
  refine lv_aload_n hx hb dX3_clear_25 rfl (lv_at hl 0 rfl) ?_
  refine lv_bipush (v := 100) hx hb dX3_clear_26 (by decide) ?_
  refine g_puti F hB 0 rfl fl_RX3_46 rfl (wd_Line_clear k a_t d_t (upd (upd (upd (upd (upd (upd i_t 1 (0 : Int32)) 3 (0 : Int32)) 5 (0 : Int32)) 7 (0 : Int32)) 9 (0 : Int32)) 10 (100 : Int32))) rfl dX3_clear_28 (fun H locs hB => ?_)
  refine lv_aload_n hx hb dX3_clear_31 rfl (lv_at hl 0 rfl) ?_
  refine lv_bipush (v := 10) hx hb dX3_clear_32 (by decide) ?_
  refine g_puti F hB 0 rfl fl_RX3_49 rfl (wd_Line_clear k a_t d_t (upd (upd (upd (upd (upd (upd (upd i_t 1 (0 : Int32)) 3 (0 : Int32)) 5 (0 : Int32)) 7 (0 : Int32)) 9 (0 : Int32)) 10 (100 : Int32)) 11 (10 : Int32))) rfl dX3_clear_34 (fun H locs hB => ?_)
  refine lv_aload_n hx hb dX3_clear_37 rfl (lv_at hl 0 rfl) ?_
  refine lv_iconst (v := 1) hx hb dX3_clear_38 (by decide) ?_
  refine g_puti F hB 0 rfl fl_RX3_52 rfl (wd_Line_clear k a_t d_t (upd (upd (upd (upd (upd (upd (upd (upd i_t 1 (0 : Int32)) 3 (0 : Int32)) 5 (0 : Int32)) 7 (0 : Int32)) 9 (0 : Int32)) 10 (100 : Int32)) 11 (10 : Int32)) 12 (1 : Int32))) rfl dX3_clear_39 (fun H locs hB => ?_)
  refine lv_aload_n hx hb dX3_clear_42 rfl (lv_at hl 0 rfl) ?_
  refine lv_bipush (v := 10) hx hb dX3_clear_43 (by decide) ?_
  refine g_puti F hB 0 rfl fl_RX3_55 rfl (wd_Line_clear k a_t d_t (upd (upd (upd (upd (upd (upd (upd (upd (upd i_t 1 (0 : Int32)) 3 (0 : Int32)) 5 (0 : Int32)) 7 (0 : Int32)) 9 (0 : Int32)) 10 (100 : Int32)) 11 (10 : Int32)) 12 (1 : Int32)) 13 (10 : Int32))) rfl dX3_clear_45 (fun H locs hB => ?_)
  refine lv_aload_n hx hb dX3_clear_48 rfl (lv_at hl 0 rfl) ?_
  refine lv_bipush (v := 10) hx hb dX3_clear_49 (by decide) ?_
  refine g_puti F hB 0 rfl fl_RX3_58 rfl (wd_Line_clear k a_t d_t (upd (upd (upd (upd (upd (upd (upd (upd (upd (upd i_t 1 (0 : Int32)) 3 (0 : Int32)) 5 (0 : Int32)) 7 (0 : Int32)) 9 (0 : Int32)) 10 (100 : Int32)) 11 (10 : Int32)) 12 (1 : Int32)) 13 (10 : Int32)) 14 (10 : Int32))) rfl dX3_clear_51 (fun H locs hB => ?_)
  refine lv_aload_n hx hb dX3_clear_54 rfl (lv_at hl 0 rfl) ?_
  refine lv_iconst (v := 2) hx hb dX3_clear_55 (by decide) ?_
  refine g_puti F hB 0 rfl fl_RX3_61 rfl (wd_Line_clear k a_t d_t (upd (upd (upd (upd (upd (upd (upd (upd (upd (upd (upd i_t 1 (0 : Int32)) 3 (0 : Int32)) 5 (0 : Int32)) 7 (0 : Int32)) 9 (0 : Int32)) 10 (100 : Int32)) 11 (10 : Int32)) 12 (1 : Int32)) 13 (10 : Int32)) 14 (10 : Int32)) 15 (2 : Int32))) rfl dX3_clear_56 (fun H locs hB => ?_)
  exact r_v F hr hlk hB ⟨_, rfl, hf⟩ dX3_clear_59

/-! LongTrain.Line.copyFrom -/
set_option maxRecDepth 100000 in
set_option maxHeartbeats 4000000 in
theorem c_Line_copyFrom (l : Launch) (D : va_G) (k : Nat → ClassId) (a_t : Nat) (d_t : Nat → Nat) (i_t : Nat → Int32) (a_p1 : Nat) (d_p1 : Nat → Nat) (i_p1 : Nat → Int32) (r_p1_grades : Nat → Int32) (r_t_grades : Nat → Int32) (r_p1_halts : Nat → Int32) (r_t_halts : Nat → Int32) (r_p1_loops : Nat → Int32) (r_t_loops : Nat → Int32) (r_p1_kinds : Nat → Int32) (r_t_kinds : Nat → Int32) (r_p1_first : Nat → Int32) (r_t_first : Nat → Int32)  (Q : (Nat → Int32) → (Nat → Int32) → (Nat → Int32) → (Nat → Int32) → (Nat → Int32) → (Nat → Int32) → Prop)  (hf : w_Line_copyFrom i_t i_p1 r_p1_grades r_t_grades r_p1_halts r_t_halts r_p1_loops r_t_loops r_p1_kinds r_t_kinds r_p1_first r_t_first Q) : CtV l yX3_copyFrom cX3_copyFrom 2 none 1 64 0 0 D k [.ref a_t, .ref a_p1] (wd_Line_copyFrom k a_t d_t i_t a_p1 d_p1 i_p1 r_p1_grades r_t_grades r_p1_halts r_t_halts r_p1_loops r_t_loops r_p1_kinds r_t_kinds r_p1_first r_t_first) (fun w => ∃ (i_t : Nat → Int32), ∃ (r_t_grades : Nat → Int32), ∃ (r_t_halts : Nat → Int32), ∃ (r_t_loops : Nat → Int32), ∃ (r_t_kinds : Nat → Int32), ∃ (r_t_first : Nat → Int32), w = (wd_Line_copyFrom k a_t d_t i_t a_p1 d_p1 i_p1 r_p1_grades r_t_grades r_p1_halts r_t_halts r_p1_loops r_t_loops r_p1_kinds r_t_kinds r_p1_first r_t_first) ∧ Q i_t r_t_grades r_t_halts r_t_loops r_t_kinds r_t_first) := by
  refine CtV.of (by decide) (Nat.le_of_ble_eq_true rfl) ?_
  intro p e s m below meth c A F hr hlk hnm hA hB ls hl
  have hx := F.x
  have hb := F.b
  unfold w_Line_copyFrom at hf
  replace hl : lv_has ls 2 [(0, .ref a_t), (1, .ref a_p1)] := hl
  refine lv_aload_n hx hb dX3_copyFrom_0 rfl (lv_at hl 1 rfl) ?_
  refine g_get (w := .ref (d_p1 0)) F hB 1 rfl fl_RX3_9 rfl dX3_copyFrom_1 ?_
  refine lv_iconst (v := 0) hx hb dX3_copyFrom_4 (by decide) ?_
  refine lv_aload_n hx hb dX3_copyFrom_5 rfl (lv_at hl 0 rfl) ?_
  refine g_get (w := .ref (d_t 0)) F hB 0 rfl fl_RX3_9 rfl dX3_copyFrom_6 ?_
  refine lv_iconst (v := 0) hx hb dX3_copyFrom_9 (by decide) ?_
  refine lv_sipush (v := 400) hx hb dX3_copyFrom_10 (by decide) ?_
  refine k_copy F hB ml_RX3_64 hl.1 2 3 rfl rfl (by decide) (by decide) (by decide) (by decide) (by decide) (by decide) (Nat.le_of_ble_eq_true rfl) (wd_Line_copyFrom k a_t d_t i_t a_p1 d_p1 i_p1 r_p1_grades (va_cpy r_p1_grades r_t_grades 0 0 400) r_p1_halts r_t_halts r_p1_loops r_t_loops r_p1_kinds r_t_kinds r_p1_first r_t_first) rfl dX3_copyFrom_13 (fun H locs hB => ?_)
  refine lv_aload_n hx hb dX3_copyFrom_16 rfl (lv_at hl 1 rfl) ?_
  refine g_get (w := .ref (d_p1 2)) F hB 1 rfl fl_RX3_15 rfl dX3_copyFrom_17 ?_
  refine lv_iconst (v := 0) hx hb dX3_copyFrom_20 (by decide) ?_
  refine lv_aload_n hx hb dX3_copyFrom_21 rfl (lv_at hl 0 rfl) ?_
  refine g_get (w := .ref (d_t 2)) F hB 0 rfl fl_RX3_15 rfl dX3_copyFrom_22 ?_
  refine lv_iconst (v := 0) hx hb dX3_copyFrom_25 (by decide) ?_
  refine lv_bipush (v := 30) hx hb dX3_copyFrom_26 (by decide) ?_
  refine k_copy F hB ml_RX3_64 hl.1 4 5 rfl rfl (by decide) (by decide) (by decide) (by decide) (by decide) (by decide) (Nat.le_of_ble_eq_true rfl) (wd_Line_copyFrom k a_t d_t i_t a_p1 d_p1 i_p1 r_p1_grades (va_cpy r_p1_grades r_t_grades 0 0 400) r_p1_halts (va_cpy r_p1_halts r_t_halts 0 0 30) r_p1_loops r_t_loops r_p1_kinds r_t_kinds r_p1_first r_t_first) rfl dX3_copyFrom_28 (fun H locs hB => ?_)
  refine lv_aload_n hx hb dX3_copyFrom_31 rfl (lv_at hl 1 rfl) ?_
  refine g_get (w := .ref (d_p1 4)) F hB 1 rfl fl_RX3_18 rfl dX3_copyFrom_32 ?_
  refine lv_iconst (v := 0) hx hb dX3_copyFrom_35 (by decide) ?_
  refine lv_aload_n hx hb dX3_copyFrom_36 rfl (lv_at hl 0 rfl) ?_
  refine g_get (w := .ref (d_t 4)) F hB 0 rfl fl_RX3_18 rfl dX3_copyFrom_37 ?_
  refine lv_iconst (v := 0) hx hb dX3_copyFrom_40 (by decide) ?_
  refine lv_bipush (v := 16) hx hb dX3_copyFrom_41 (by decide) ?_
  refine k_copy F hB ml_RX3_64 hl.1 6 7 rfl rfl (by decide) (by decide) (by decide) (by decide) (by decide) (by decide) (Nat.le_of_ble_eq_true rfl) (wd_Line_copyFrom k a_t d_t i_t a_p1 d_p1 i_p1 r_p1_grades (va_cpy r_p1_grades r_t_grades 0 0 400) r_p1_halts (va_cpy r_p1_halts r_t_halts 0 0 30) r_p1_loops (va_cpy r_p1_loops r_t_loops 0 0 16) r_p1_kinds r_t_kinds r_p1_first r_t_first) rfl dX3_copyFrom_43 (fun H locs hB => ?_)
  refine lv_aload_n hx hb dX3_copyFrom_46 rfl (lv_at hl 1 rfl) ?_
  refine g_get (w := .ref (d_p1 6)) F hB 1 rfl fl_RX3_21 rfl dX3_copyFrom_47 ?_
  refine lv_iconst (v := 0) hx hb dX3_copyFrom_50 (by decide) ?_
  refine lv_aload_n hx hb dX3_copyFrom_51 rfl (lv_at hl 0 rfl) ?_
  refine g_get (w := .ref (d_t 6)) F hB 0 rfl fl_RX3_21 rfl dX3_copyFrom_52 ?_
  refine lv_iconst (v := 0) hx hb dX3_copyFrom_55 (by decide) ?_
  refine lv_bipush (v := 18) hx hb dX3_copyFrom_56 (by decide) ?_
  refine k_copy F hB ml_RX3_64 hl.1 8 9 rfl rfl (by decide) (by decide) (by decide) (by decide) (by decide) (by decide) (Nat.le_of_ble_eq_true rfl) (wd_Line_copyFrom k a_t d_t i_t a_p1 d_p1 i_p1 r_p1_grades (va_cpy r_p1_grades r_t_grades 0 0 400) r_p1_halts (va_cpy r_p1_halts r_t_halts 0 0 30) r_p1_loops (va_cpy r_p1_loops r_t_loops 0 0 16) r_p1_kinds (va_cpy r_p1_kinds r_t_kinds 0 0 18) r_p1_first r_t_first) rfl dX3_copyFrom_58 (fun H locs hB => ?_)
  refine lv_aload_n hx hb dX3_copyFrom_61 rfl (lv_at hl 1 rfl) ?_
  refine g_get (w := .ref (d_p1 8)) F hB 1 rfl fl_RX3_24 rfl dX3_copyFrom_62 ?_
  refine lv_iconst (v := 0) hx hb dX3_copyFrom_65 (by decide) ?_
  refine lv_aload_n hx hb dX3_copyFrom_66 rfl (lv_at hl 0 rfl) ?_
  refine g_get (w := .ref (d_t 8)) F hB 0 rfl fl_RX3_24 rfl dX3_copyFrom_67 ?_
  refine lv_iconst (v := 0) hx hb dX3_copyFrom_70 (by decide) ?_
  refine lv_bipush (v := 8) hx hb dX3_copyFrom_71 (by decide) ?_
  refine k_copy F hB ml_RX3_64 hl.1 10 11 rfl rfl (by decide) (by decide) (by decide) (by decide) (by decide) (by decide) (Nat.le_of_ble_eq_true rfl) (wd_Line_copyFrom k a_t d_t i_t a_p1 d_p1 i_p1 r_p1_grades (va_cpy r_p1_grades r_t_grades 0 0 400) r_p1_halts (va_cpy r_p1_halts r_t_halts 0 0 30) r_p1_loops (va_cpy r_p1_loops r_t_loops 0 0 16) r_p1_kinds (va_cpy r_p1_kinds r_t_kinds 0 0 18) r_p1_first (va_cpy r_p1_first r_t_first 0 0 8)) rfl dX3_copyFrom_73 (fun H locs hB => ?_)
  refine lv_aload_n hx hb dX3_copyFrom_76 rfl (lv_at hl 0 rfl) ?_
  refine lv_aload_n hx hb dX3_copyFrom_77 rfl (lv_at hl 1 rfl) ?_
  refine g_get (w := .int (i_p1 1)) F hB 1 rfl fl_RX3_30 rfl dX3_copyFrom_78 ?_
  refine g_puti F hB 0 rfl fl_RX3_30 rfl (wd_Line_copyFrom k a_t d_t (upd i_t 1 (i_p1 1)) a_p1 d_p1 i_p1 r_p1_grades (va_cpy r_p1_grades r_t_grades 0 0 400) r_p1_halts (va_cpy r_p1_halts r_t_halts 0 0 30) r_p1_loops (va_cpy r_p1_loops r_t_loops 0 0 16) r_p1_kinds (va_cpy r_p1_kinds r_t_kinds 0 0 18) r_p1_first (va_cpy r_p1_first r_t_first 0 0 8)) rfl dX3_copyFrom_81 (fun H locs hB => ?_)
  refine lv_aload_n hx hb dX3_copyFrom_84 rfl (lv_at hl 0 rfl) ?_
  refine lv_aload_n hx hb dX3_copyFrom_85 rfl (lv_at hl 1 rfl) ?_
  refine g_get (w := .int (i_p1 3)) F hB 1 rfl fl_RX3_34 rfl dX3_copyFrom_86 ?_
  refine g_puti F hB 0 rfl fl_RX3_34 rfl (wd_Line_copyFrom k a_t d_t (upd (upd i_t 1 (i_p1 1)) 3 (i_p1 3)) a_p1 d_p1 i_p1 r_p1_grades (va_cpy r_p1_grades r_t_grades 0 0 400) r_p1_halts (va_cpy r_p1_halts r_t_halts 0 0 30) r_p1_loops (va_cpy r_p1_loops r_t_loops 0 0 16) r_p1_kinds (va_cpy r_p1_kinds r_t_kinds 0 0 18) r_p1_first (va_cpy r_p1_first r_t_first 0 0 8)) rfl dX3_copyFrom_89 (fun H locs hB => ?_)
  refine lv_aload_n hx hb dX3_copyFrom_92 rfl (lv_at hl 0 rfl) ?_
  refine lv_aload_n hx hb dX3_copyFrom_93 rfl (lv_at hl 1 rfl) ?_
  refine g_get (w := .int (i_p1 5)) F hB 1 rfl fl_RX3_37 rfl dX3_copyFrom_94 ?_
  refine g_puti F hB 0 rfl fl_RX3_37 rfl (wd_Line_copyFrom k a_t d_t (upd (upd (upd i_t 1 (i_p1 1)) 3 (i_p1 3)) 5 (i_p1 5)) a_p1 d_p1 i_p1 r_p1_grades (va_cpy r_p1_grades r_t_grades 0 0 400) r_p1_halts (va_cpy r_p1_halts r_t_halts 0 0 30) r_p1_loops (va_cpy r_p1_loops r_t_loops 0 0 16) r_p1_kinds (va_cpy r_p1_kinds r_t_kinds 0 0 18) r_p1_first (va_cpy r_p1_first r_t_first 0 0 8)) rfl dX3_copyFrom_97 (fun H locs hB => ?_)
  refine lv_aload_n hx hb dX3_copyFrom_100 rfl (lv_at hl 0 rfl) ?_
  refine lv_aload_n hx hb dX3_copyFrom_101 rfl (lv_at hl 1 rfl) ?_
  refine g_get (w := .int (i_p1 7)) F hB 1 rfl fl_RX3_40 rfl dX3_copyFrom_102 ?_
  refine g_puti F hB 0 rfl fl_RX3_40 rfl (wd_Line_copyFrom k a_t d_t (upd (upd (upd (upd i_t 1 (i_p1 1)) 3 (i_p1 3)) 5 (i_p1 5)) 7 (i_p1 7)) a_p1 d_p1 i_p1 r_p1_grades (va_cpy r_p1_grades r_t_grades 0 0 400) r_p1_halts (va_cpy r_p1_halts r_t_halts 0 0 30) r_p1_loops (va_cpy r_p1_loops r_t_loops 0 0 16) r_p1_kinds (va_cpy r_p1_kinds r_t_kinds 0 0 18) r_p1_first (va_cpy r_p1_first r_t_first 0 0 8)) rfl dX3_copyFrom_105 (fun H locs hB => ?_)
  refine lv_aload_n hx hb dX3_copyFrom_108 rfl (lv_at hl 0 rfl) ?_
  refine lv_aload_n hx hb dX3_copyFrom_109 rfl (lv_at hl 1 rfl) ?_
  refine g_get (w := .int (i_p1 9)) F hB 1 rfl fl_RX3_43 rfl dX3_copyFrom_110 ?_
  refine g_puti F hB 0 rfl fl_RX3_43 rfl (wd_Line_copyFrom k a_t d_t (upd (upd (upd (upd (upd i_t 1 (i_p1 1)) 3 (i_p1 3)) 5 (i_p1 5)) 7 (i_p1 7)) 9 (i_p1 9)) a_p1 d_p1 i_p1 r_p1_grades (va_cpy r_p1_grades r_t_grades 0 0 400) r_p1_halts (va_cpy r_p1_halts r_t_halts 0 0 30) r_p1_loops (va_cpy r_p1_loops r_t_loops 0 0 16) r_p1_kinds (va_cpy r_p1_kinds r_t_kinds 0 0 18) r_p1_first (va_cpy r_p1_first r_t_first 0 0 8)) rfl dX3_copyFrom_113 (fun H locs hB => ?_)
  refine lv_aload_n hx hb dX3_copyFrom_116 rfl (lv_at hl 0 rfl) ?_
  refine lv_aload_n hx hb dX3_copyFrom_117 rfl (lv_at hl 1 rfl) ?_
  refine g_get (w := .int (i_p1 10)) F hB 1 rfl fl_RX3_46 rfl dX3_copyFrom_118 ?_
  refine g_puti F hB 0 rfl fl_RX3_46 rfl (wd_Line_copyFrom k a_t d_t (upd (upd (upd (upd (upd (upd i_t 1 (i_p1 1)) 3 (i_p1 3)) 5 (i_p1 5)) 7 (i_p1 7)) 9 (i_p1 9)) 10 (i_p1 10)) a_p1 d_p1 i_p1 r_p1_grades (va_cpy r_p1_grades r_t_grades 0 0 400) r_p1_halts (va_cpy r_p1_halts r_t_halts 0 0 30) r_p1_loops (va_cpy r_p1_loops r_t_loops 0 0 16) r_p1_kinds (va_cpy r_p1_kinds r_t_kinds 0 0 18) r_p1_first (va_cpy r_p1_first r_t_first 0 0 8)) rfl dX3_copyFrom_121 (fun H locs hB => ?_)
  refine lv_aload_n hx hb dX3_copyFrom_124 rfl (lv_at hl 0 rfl) ?_
  refine lv_aload_n hx hb dX3_copyFrom_125 rfl (lv_at hl 1 rfl) ?_
  refine g_get (w := .int (i_p1 11)) F hB 1 rfl fl_RX3_49 rfl dX3_copyFrom_126 ?_
  refine g_puti F hB 0 rfl fl_RX3_49 rfl (wd_Line_copyFrom k a_t d_t (upd (upd (upd (upd (upd (upd (upd i_t 1 (i_p1 1)) 3 (i_p1 3)) 5 (i_p1 5)) 7 (i_p1 7)) 9 (i_p1 9)) 10 (i_p1 10)) 11 (i_p1 11)) a_p1 d_p1 i_p1 r_p1_grades (va_cpy r_p1_grades r_t_grades 0 0 400) r_p1_halts (va_cpy r_p1_halts r_t_halts 0 0 30) r_p1_loops (va_cpy r_p1_loops r_t_loops 0 0 16) r_p1_kinds (va_cpy r_p1_kinds r_t_kinds 0 0 18) r_p1_first (va_cpy r_p1_first r_t_first 0 0 8)) rfl dX3_copyFrom_129 (fun H locs hB => ?_)
  refine lv_aload_n hx hb dX3_copyFrom_132 rfl (lv_at hl 0 rfl) ?_
  refine lv_aload_n hx hb dX3_copyFrom_133 rfl (lv_at hl 1 rfl) ?_
  refine g_get (w := .int (i_p1 12)) F hB 1 rfl fl_RX3_52 rfl dX3_copyFrom_134 ?_
  refine g_puti F hB 0 rfl fl_RX3_52 rfl (wd_Line_copyFrom k a_t d_t (upd (upd (upd (upd (upd (upd (upd (upd i_t 1 (i_p1 1)) 3 (i_p1 3)) 5 (i_p1 5)) 7 (i_p1 7)) 9 (i_p1 9)) 10 (i_p1 10)) 11 (i_p1 11)) 12 (i_p1 12)) a_p1 d_p1 i_p1 r_p1_grades (va_cpy r_p1_grades r_t_grades 0 0 400) r_p1_halts (va_cpy r_p1_halts r_t_halts 0 0 30) r_p1_loops (va_cpy r_p1_loops r_t_loops 0 0 16) r_p1_kinds (va_cpy r_p1_kinds r_t_kinds 0 0 18) r_p1_first (va_cpy r_p1_first r_t_first 0 0 8)) rfl dX3_copyFrom_137 (fun H locs hB => ?_)
  refine lv_aload_n hx hb dX3_copyFrom_140 rfl (lv_at hl 0 rfl) ?_
  refine lv_aload_n hx hb dX3_copyFrom_141 rfl (lv_at hl 1 rfl) ?_
  refine g_get (w := .int (i_p1 13)) F hB 1 rfl fl_RX3_55 rfl dX3_copyFrom_142 ?_
  refine g_puti F hB 0 rfl fl_RX3_55 rfl (wd_Line_copyFrom k a_t d_t (upd (upd (upd (upd (upd (upd (upd (upd (upd i_t 1 (i_p1 1)) 3 (i_p1 3)) 5 (i_p1 5)) 7 (i_p1 7)) 9 (i_p1 9)) 10 (i_p1 10)) 11 (i_p1 11)) 12 (i_p1 12)) 13 (i_p1 13)) a_p1 d_p1 i_p1 r_p1_grades (va_cpy r_p1_grades r_t_grades 0 0 400) r_p1_halts (va_cpy r_p1_halts r_t_halts 0 0 30) r_p1_loops (va_cpy r_p1_loops r_t_loops 0 0 16) r_p1_kinds (va_cpy r_p1_kinds r_t_kinds 0 0 18) r_p1_first (va_cpy r_p1_first r_t_first 0 0 8)) rfl dX3_copyFrom_145 (fun H locs hB => ?_)
  refine lv_aload_n hx hb dX3_copyFrom_148 rfl (lv_at hl 0 rfl) ?_
  refine lv_aload_n hx hb dX3_copyFrom_149 rfl (lv_at hl 1 rfl) ?_
  refine g_get (w := .int (i_p1 14)) F hB 1 rfl fl_RX3_58 rfl dX3_copyFrom_150 ?_
  refine g_puti F hB 0 rfl fl_RX3_58 rfl (wd_Line_copyFrom k a_t d_t (upd (upd (upd (upd (upd (upd (upd (upd (upd (upd i_t 1 (i_p1 1)) 3 (i_p1 3)) 5 (i_p1 5)) 7 (i_p1 7)) 9 (i_p1 9)) 10 (i_p1 10)) 11 (i_p1 11)) 12 (i_p1 12)) 13 (i_p1 13)) 14 (i_p1 14)) a_p1 d_p1 i_p1 r_p1_grades (va_cpy r_p1_grades r_t_grades 0 0 400) r_p1_halts (va_cpy r_p1_halts r_t_halts 0 0 30) r_p1_loops (va_cpy r_p1_loops r_t_loops 0 0 16) r_p1_kinds (va_cpy r_p1_kinds r_t_kinds 0 0 18) r_p1_first (va_cpy r_p1_first r_t_first 0 0 8)) rfl dX3_copyFrom_153 (fun H locs hB => ?_)
  refine lv_aload_n hx hb dX3_copyFrom_156 rfl (lv_at hl 0 rfl) ?_
  refine lv_aload_n hx hb dX3_copyFrom_157 rfl (lv_at hl 1 rfl) ?_
  refine g_get (w := .int (i_p1 15)) F hB 1 rfl fl_RX3_61 rfl dX3_copyFrom_158 ?_
  refine g_puti F hB 0 rfl fl_RX3_61 rfl (wd_Line_copyFrom k a_t d_t (upd (upd (upd (upd (upd (upd (upd (upd (upd (upd (upd i_t 1 (i_p1 1)) 3 (i_p1 3)) 5 (i_p1 5)) 7 (i_p1 7)) 9 (i_p1 9)) 10 (i_p1 10)) 11 (i_p1 11)) 12 (i_p1 12)) 13 (i_p1 13)) 14 (i_p1 14)) 15 (i_p1 15)) a_p1 d_p1 i_p1 r_p1_grades (va_cpy r_p1_grades r_t_grades 0 0 400) r_p1_halts (va_cpy r_p1_halts r_t_halts 0 0 30) r_p1_loops (va_cpy r_p1_loops r_t_loops 0 0 16) r_p1_kinds (va_cpy r_p1_kinds r_t_kinds 0 0 18) r_p1_first (va_cpy r_p1_first r_t_first 0 0 8)) rfl dX3_copyFrom_161 (fun H locs hB => ?_)
  exact r_v F hr hlk hB ⟨_, _, _, _, _, _, rfl, hf⟩ dX3_copyFrom_164

/-! LongTrain.Line.gradeOf -/
set_option maxRecDepth 100000 in
set_option maxHeartbeats 4000000 in
theorem c_Line_gradeOf (l : Launch) (D : va_G) (k : Nat → ClassId) (a_t : Nat) (d_t : Nat → Nat) (i_t : Nat → Int32) (r_t_grades : Nat → Int32) (n1 : Int32) (Q : Int32 → Prop)  (hf : w_Line_gradeOf i_t r_t_grades n1 Q) : CtI l yX3_gradeOf cX3_gradeOf 2 (some .int) 0 0 0 0 D k [.ref a_t, .int n1] (wd_Line_gradeOf k a_t d_t i_t r_t_grades) (fun r w => w = (wd_Line_gradeOf k a_t d_t i_t r_t_grades) ∧ Q r) := by
  refine CtI.of (by decide) (Nat.le_of_ble_eq_true rfl) ?_
  intro p e s m below meth c A F hr hlk hnm hA hB ls hl
  have hx := F.x
  have hb := F.b
  unfold w_Line_gradeOf at hf
  replace hl : lv_has ls 2 [(0, .ref a_t), (1, .int n1)] := hl
  refine lv_iload_n hx hb dX3_gradeOf_0 rfl (lv_at hl 1 rfl) ?_
  refine lv_if_lt (tgt := 12) hx hb dX3_gradeOf_1 (by decide) (fun c_3 => ?_) (fun c_3 => ?_)
  · replace hf := hf.1 c_3
    refine lv_iconst (v := 0) hx hb dX3_gradeOf_12 (by decide) ?_
    refine lv_goto (tgt := 22) hx hb dX3_gradeOf_13 (by decide) ?_
    exact r_i F hr hlk hB ⟨rfl, hf⟩ dX3_gradeOf_22
  · replace hf := hf.2 c_3
    refine lv_iload_n hx hb dX3_gradeOf_4 rfl (lv_at hl 1 rfl) ?_
    refine lv_aload_n hx hb dX3_gradeOf_5 rfl (lv_at hl 0 rfl) ?_
    refine g_get (w := .int (i_t 1)) F hB 0 rfl fl_RX3_30 rfl dX3_gradeOf_6 ?_
    refine lv_icmp_lt (tgt := 16) hx hb dX3_gradeOf_9 (by decide) (fun c_2 => ?_) (fun c_2 => ?_)
    · replace hf := hf.1 c_2
      refine lv_aload_n hx hb dX3_gradeOf_16 rfl (lv_at hl 0 rfl) ?_
      refine g_get (w := .ref (d_t 0)) F hB 0 rfl fl_RX3_9 rfl dX3_gradeOf_17 ?_
      refine lv_iload_n hx hb dX3_gradeOf_20 rfl (lv_at hl 1 rfl) ?_
      obtain ⟨h_1, hf⟩ := hf
      refine g_iald F hB 1 rfl h_1 dX3_gradeOf_21 ?_
      exact r_i F hr hlk hB ⟨rfl, hf⟩ dX3_gradeOf_22
    · replace hf := hf.2 c_2
      refine lv_iconst (v := 0) hx hb dX3_gradeOf_12 (by decide) ?_
      refine lv_goto (tgt := 22) hx hb dX3_gradeOf_13 (by decide) ?_
      exact r_i F hr hlk hB ⟨rfl, hf⟩ dX3_gradeOf_22

/-! LongTrain.Line.dragOf -/
set_option maxRecDepth 100000 in
set_option maxHeartbeats 4000000 in
theorem c_Line_dragOf (l : Launch) (D : va_G) (k : Nat → ClassId) (a_t : Nat) (d_t : Nat → Nat) (i_t : Nat → Int32) (r_t_grades : Nat → Int32) (n1 : Int32) (n2 : Int32) (Q : Int32 → Prop)  (hf : w_Line_dragOf i_t r_t_grades n1 n2 Q) : CtI l yX3_dragOf cX3_dragOf 3 (some .int) 1 21 0 0 D k [.ref a_t, .int n1, .int n2] (wd_Line_dragOf k a_t d_t i_t r_t_grades) (fun r w => w = (wd_Line_dragOf k a_t d_t i_t r_t_grades) ∧ Q r) := by
  refine CtI.of (by decide) (Nat.le_of_ble_eq_true rfl) ?_
  intro p e s m below meth c A F hr hlk hnm hA hB ls hl
  have hx := F.x
  have hb := F.b
  unfold w_Line_dragOf at hf
  replace hl : lv_has ls 3 [(0, .ref a_t), (1, .int n1), (2, .int n2)] := hl
  refine lv_iload_n hx hb dX3_dragOf_0 rfl (lv_at hl 1 rfl) ?_
  refine lv_aload_n hx hb dX3_dragOf_1 rfl (lv_at hl 0 rfl) ?_
  refine lv_iload_n hx hb dX3_dragOf_2 rfl (lv_at hl 2 rfl) ?_
  refine k_vi (wr := []) (rest := [.int n1]) F hA hB (c_Line_gradeOf l D k a_t d_t i_t r_t_grades n2 _  hf) ml_RX3_70 mv_yX3_gradeOf [0, 1] [] rfl rfl (by decide) (by decide) (by decide) 0 rfl rfl rfl hl.1 rfl (Nat.le_of_ble_eq_true rfl) ⟨Nat.le_of_ble_eq_true rfl, Nat.le_of_ble_eq_true rfl⟩ ⟨Nat.le_of_ble_eq_true rfl, Nat.le_of_ble_eq_true rfl⟩ dX3_dragOf_3 (fun z_1 w1 H locs hq hB => ?_)
  obtain ⟨rfl, hf⟩ := hq
  replace hB : Bd D A s.heap (wd_Line_dragOf k a_t d_t i_t r_t_grades) H locs := hB.sub [0, 1] (by decide) rfl
  refine lv_aload_n hx hb dX3_dragOf_6 rfl (lv_at hl 0 rfl) ?_
  refine g_get (w := .int (i_t 12)) F hB 0 rfl fl_RX3_52 rfl dX3_dragOf_7 ?_
  refine lv_iadd hx hb dX3_dragOf_10 ?_
  refine lv_imul hx hb dX3_dragOf_11 ?_
  exact r_i F hr hlk hB ⟨rfl, hf⟩ dX3_dragOf_12

/-! LongTrain.Line.haltAt -/
set_option maxRecDepth 100000 in
set_option maxHeartbeats 4000000 in
theorem c_Line_haltAt (l : Launch) (D : va_G) (k : Nat → ClassId) (a_t : Nat) (d_t : Nat → Nat) (i_t : Nat → Int32) (r_t_halts : Nat → Int32) (n1 : Int32) (Q : Int32 → Prop)  (hf : w_Line_haltAt r_t_halts n1 Q) : CtI l yX3_haltAt cX3_haltAt 2 (some .int) 0 0 0 0 D k [.ref a_t, .int n1] (wd_Line_haltAt k a_t d_t i_t r_t_halts) (fun r w => w = (wd_Line_haltAt k a_t d_t i_t r_t_halts) ∧ Q r) := by
  refine CtI.of (by decide) (Nat.le_of_ble_eq_true rfl) ?_
  intro p e s m below meth c A F hr hlk hnm hA hB ls hl
  have hx := F.x
  have hb := F.b
  unfold w_Line_haltAt at hf
  replace hl : lv_has ls 2 [(0, .ref a_t), (1, .int n1)] := hl
  refine lv_aload_n hx hb dX3_haltAt_0 rfl (lv_at hl 0 rfl) ?_
  refine g_get (w := .ref (d_t 2)) F hB 0 rfl fl_RX3_15 rfl dX3_haltAt_1 ?_
  refine lv_iconst (v := 3) hx hb dX3_haltAt_4 (by decide) ?_
  refine lv_iload_n hx hb dX3_haltAt_5 rfl (lv_at hl 1 rfl) ?_
  refine lv_imul hx hb dX3_haltAt_6 ?_
  obtain ⟨h_1, hf⟩ := hf
  refine g_iald F hB 1 rfl h_1 dX3_haltAt_7 ?_
  exact r_i F hr hlk hB ⟨rfl, hf⟩ dX3_haltAt_8

/-! LongTrain.Line.haltLong -/
set_option maxRecDepth 100000 in
set_option maxHeartbeats 4000000 in
theorem c_Line_haltLong (l : Launch) (D : va_G) (k : Nat → ClassId) (a_t : Nat) (d_t : Nat → Nat) (i_t : Nat → Int32) (r_t_halts : Nat → Int32) (n1 : Int32) (Q : Int32 → Prop)  (hf : w_Line_haltLong r_t_halts n1 Q) : CtI l yX3_haltLong cX3_haltLong 2 (some .int) 0 0 0 0 D k [.ref a_t, .int n1] (wd_Line_haltLong k a_t d_t i_t r_t_halts) (fun r w => w = (wd_Line_haltLong k a_t d_t i_t r_t_halts) ∧ Q r) := by
  refine CtI.of (by decide) (Nat.le_of_ble_eq_true rfl) ?_
  intro p e s m below meth c A F hr hlk hnm hA hB ls hl
  have hx := F.x
  have hb := F.b
  unfold w_Line_haltLong at hf
  replace hl : lv_has ls 2 [(0, .ref a_t), (1, .int n1)] := hl
  refine lv_aload_n hx hb dX3_haltLong_0 rfl (lv_at hl 0 rfl) ?_
  refine g_get (w := .ref (d_t 2)) F hB 0 rfl fl_RX3_15 rfl dX3_haltLong_1 ?_
  refine lv_iconst (v := 3) hx hb dX3_haltLong_4 (by decide) ?_
  refine lv_iload_n hx hb dX3_haltLong_5 rfl (lv_at hl 1 rfl) ?_
  refine lv_imul hx hb dX3_haltLong_6 ?_
  refine lv_iconst (v := 1) hx hb dX3_haltLong_7 (by decide) ?_
  refine lv_iadd hx hb dX3_haltLong_8 ?_
  obtain ⟨h_1, hf⟩ := hf
  refine g_iald F hB 1 rfl h_1 dX3_haltLong_9 ?_
  exact r_i F hr hlk hB ⟨rfl, hf⟩ dX3_haltLong_10

/-! LongTrain.Line.haltAdds -/
set_option maxRecDepth 100000 in
set_option maxHeartbeats 4000000 in
theorem c_Line_haltAdds (l : Launch) (D : va_G) (k : Nat → ClassId) (a_t : Nat) (d_t : Nat → Nat) (i_t : Nat → Int32) (r_t_halts : Nat → Int32) (n1 : Int32) (Q : Int32 → Prop)  (hf : w_Line_haltAdds r_t_halts n1 Q) : CtI l yX3_haltAdds cX3_haltAdds 2 (some .int) 0 0 0 0 D k [.ref a_t, .int n1] (wd_Line_haltAdds k a_t d_t i_t r_t_halts) (fun r w => w = (wd_Line_haltAdds k a_t d_t i_t r_t_halts) ∧ Q r) := by
  refine CtI.of (by decide) (Nat.le_of_ble_eq_true rfl) ?_
  intro p e s m below meth c A F hr hlk hnm hA hB ls hl
  have hx := F.x
  have hb := F.b
  unfold w_Line_haltAdds at hf
  replace hl : lv_has ls 2 [(0, .ref a_t), (1, .int n1)] := hl
  refine lv_aload_n hx hb dX3_haltAdds_0 rfl (lv_at hl 0 rfl) ?_
  refine g_get (w := .ref (d_t 2)) F hB 0 rfl fl_RX3_15 rfl dX3_haltAdds_1 ?_
  refine lv_iconst (v := 3) hx hb dX3_haltAdds_4 (by decide) ?_
  refine lv_iload_n hx hb dX3_haltAdds_5 rfl (lv_at hl 1 rfl) ?_
  refine lv_imul hx hb dX3_haltAdds_6 ?_
  refine lv_iconst (v := 2) hx hb dX3_haltAdds_7 (by decide) ?_
  refine lv_iadd hx hb dX3_haltAdds_8 ?_
  obtain ⟨h_1, hf⟩ := hf
  refine g_iald F hB 1 rfl h_1 dX3_haltAdds_9 ?_
  exact r_i F hr hlk hB ⟨rfl, hf⟩ dX3_haltAdds_10

/-! LongTrain.Line.longOf -/
set_option maxRecDepth 100000 in
set_option maxHeartbeats 4000000 in
theorem c_Line_longOf (l : Launch) (D : va_G) (k : Nat → ClassId) (a_t : Nat) (d_t : Nat → Nat) (i_t : Nat → Int32) (r_t_kinds : Nat → Int32) (n1 : Int32) (Q : Int32 → Prop)  (hf : w_Line_longOf r_t_kinds n1 Q) : CtI l yX3_longOf cX3_longOf 2 (some .int) 0 0 0 0 D k [.ref a_t, .int n1] (wd_Line_longOf k a_t d_t i_t r_t_kinds) (fun r w => w = (wd_Line_longOf k a_t d_t i_t r_t_kinds) ∧ Q r) := by
  refine CtI.of (by decide) (Nat.le_of_ble_eq_true rfl) ?_
  intro p e s m below meth c A F hr hlk hnm hA hB ls hl
  have hx := F.x
  have hb := F.b
  unfold w_Line_longOf at hf
  replace hl : lv_has ls 2 [(0, .ref a_t), (1, .int n1)] := hl
  refine lv_aload_n hx hb dX3_longOf_0 rfl (lv_at hl 0 rfl) ?_
  refine g_get (w := .ref (d_t 6)) F hB 0 rfl fl_RX3_21 rfl dX3_longOf_1 ?_
  refine lv_iconst (v := 3) hx hb dX3_longOf_4 (by decide) ?_
  refine lv_iload_n hx hb dX3_longOf_5 rfl (lv_at hl 1 rfl) ?_
  refine lv_imul hx hb dX3_longOf_6 ?_
  obtain ⟨h_1, hf⟩ := hf
  refine g_iald F hB 1 rfl h_1 dX3_longOf_7 ?_
  exact r_i F hr hlk hB ⟨rfl, hf⟩ dX3_longOf_8

/-! LongTrain.Line.weightOf -/
set_option maxRecDepth 100000 in
set_option maxHeartbeats 4000000 in
theorem c_Line_weightOf (l : Launch) (D : va_G) (k : Nat → ClassId) (a_t : Nat) (d_t : Nat → Nat) (i_t : Nat → Int32) (r_t_kinds : Nat → Int32) (n1 : Int32) (Q : Int32 → Prop)  (hf : w_Line_weightOf r_t_kinds n1 Q) : CtI l yX3_weightOf cX3_weightOf 2 (some .int) 0 0 0 0 D k [.ref a_t, .int n1] (wd_Line_weightOf k a_t d_t i_t r_t_kinds) (fun r w => w = (wd_Line_weightOf k a_t d_t i_t r_t_kinds) ∧ Q r) := by
  refine CtI.of (by decide) (Nat.le_of_ble_eq_true rfl) ?_
  intro p e s m below meth c A F hr hlk hnm hA hB ls hl
  have hx := F.x
  have hb := F.b
  unfold w_Line_weightOf at hf
  replace hl : lv_has ls 2 [(0, .ref a_t), (1, .int n1)] := hl
  refine lv_aload_n hx hb dX3_weightOf_0 rfl (lv_at hl 0 rfl) ?_
  refine g_get (w := .ref (d_t 6)) F hB 0 rfl fl_RX3_21 rfl dX3_weightOf_1 ?_
  refine lv_iconst (v := 3) hx hb dX3_weightOf_4 (by decide) ?_
  refine lv_iload_n hx hb dX3_weightOf_5 rfl (lv_at hl 1 rfl) ?_
  refine lv_imul hx hb dX3_weightOf_6 ?_
  refine lv_iconst (v := 1) hx hb dX3_weightOf_7 (by decide) ?_
  refine lv_iadd hx hb dX3_weightOf_8 ?_
  obtain ⟨h_1, hf⟩ := hf
  refine g_iald F hB 1 rfl h_1 dX3_weightOf_9 ?_
  exact r_i F hr hlk hB ⟨rfl, hf⟩ dX3_weightOf_10

/-! LongTrain.Line.strengthOf -/
set_option maxRecDepth 100000 in
set_option maxHeartbeats 4000000 in
theorem c_Line_strengthOf (l : Launch) (D : va_G) (k : Nat → ClassId) (a_t : Nat) (d_t : Nat → Nat) (i_t : Nat → Int32) (r_t_kinds : Nat → Int32) (n1 : Int32) (Q : Int32 → Prop)  (hf : w_Line_strengthOf r_t_kinds n1 Q) : CtI l yX3_strengthOf cX3_strengthOf 2 (some .int) 0 0 0 0 D k [.ref a_t, .int n1] (wd_Line_strengthOf k a_t d_t i_t r_t_kinds) (fun r w => w = (wd_Line_strengthOf k a_t d_t i_t r_t_kinds) ∧ Q r) := by
  refine CtI.of (by decide) (Nat.le_of_ble_eq_true rfl) ?_
  intro p e s m below meth c A F hr hlk hnm hA hB ls hl
  have hx := F.x
  have hb := F.b
  unfold w_Line_strengthOf at hf
  replace hl : lv_has ls 2 [(0, .ref a_t), (1, .int n1)] := hl
  refine lv_aload_n hx hb dX3_strengthOf_0 rfl (lv_at hl 0 rfl) ?_
  refine g_get (w := .ref (d_t 6)) F hB 0 rfl fl_RX3_21 rfl dX3_strengthOf_1 ?_
  refine lv_iconst (v := 3) hx hb dX3_strengthOf_4 (by decide) ?_
  refine lv_iload_n hx hb dX3_strengthOf_5 rfl (lv_at hl 1 rfl) ?_
  refine lv_imul hx hb dX3_strengthOf_6 ?_
  refine lv_iconst (v := 2) hx hb dX3_strengthOf_7 (by decide) ?_
  refine lv_iadd hx hb dX3_strengthOf_8 ?_
  obtain ⟨h_1, hf⟩ := hf
  refine g_iald F hB 1 rfl h_1 dX3_strengthOf_9 ?_
  exact r_i F hr hlk hB ⟨rfl, hf⟩ dX3_strengthOf_10

/-! LongTrain.Line.haltBehind -/
set_option maxRecDepth 100000 in
set_option maxHeartbeats 4000000 in
theorem bt_Line_haltBehind_2 {p : Program} {l : Launch} {e : Env} {s : State} {m : MethodId} {below : List Frame} {meth : Method} {c : Code} {A : Nat → Prop} {D : va_G} {k : Nat → ClassId} {a_t : Nat} {d_t : Nat → Nat} {i_t : Nat → Int32} {r_t_halts : Nat → Int32} {n1 : Int32} {Q : Int32 → Prop}  {x1 : Int32} {kx_2 : Prop} {kr_2 : (Int32) → Prop} (F : Fx p m c cX3_haltBehind 3 s ([.ref a_t, .int n1] : List Value).toArray RX3 D k) (hr : meth.sig.returnType = (some .int)) (hlk : meth.locks = false) (hA : ∀ q : Nat, s.heap.size ≤ q → A q) (hkx_2 : ∀ (H : Heap) (locs : List Loc) (ls : Array Slot), kx_2 → Bd D A s.heap (wd_Line_haltBehind k a_t d_t i_t r_t_halts) H locs → lv_has ls 3 [] → W p l e { frames := 1, cells := 0, slots := 0, locals := 21 } s m ([.ref a_t, .int n1] : List Value).toArray below meth c H locs 0 0 (Ei below (fun r w => w = (wd_Line_haltBehind k a_t d_t i_t r_t_halts) ∧ Q r) D k A ([.ref a_t, .int n1] : List Value).toArray s 0 0) (F0 m 27 ls [])) (hkr_2 : ∀ (x2 : Int32) (H : Heap) (locs : List Loc) (ls : Array Slot), kr_2 x2 → Bd D A s.heap (wd_Line_haltBehind k a_t d_t i_t r_t_halts) H locs → lv_has ls 3 [(0, .ref a_t), (1, .int x1), (2, .int x2)] → W p l e { frames := 1, cells := 0, slots := 0, locals := 21 } s m ([.ref a_t, .int n1] : List Value).toArray below meth c H locs 0 0 (Ei below (fun r w => w = (wd_Line_haltBehind k a_t d_t i_t r_t_halts) ∧ Q r) D k A ([.ref a_t, .int n1] : List Value).toArray s 0 0) (F0 m 2 ls [])) :
    ∀ (x2 : Int32) (H : Heap) (locs : List Loc) (ls : Array Slot), b_Line_haltBehind_2 i_t r_t_halts x1 Q kx_2 kr_2 x2 → Bd D A s.heap (wd_Line_haltBehind k a_t d_t i_t r_t_halts) H locs → lv_has ls 3 [(0, .ref a_t), (1, .int x1), (2, .int x2)] → W p l e { frames := 1, cells := 0, slots := 0, locals := 21 } s m ([.ref a_t, .int n1] : List Value).toArray below meth c H locs 0 0 (Ei below (fun r w => w = (wd_Line_haltBehind k a_t d_t i_t r_t_halts) ∧ Q r) D k A ([.ref a_t, .int n1] : List Value).toArray s 0 0) (F0 m 2 ls []) := by
  have hx := F.x
  have hb := F.b
  intro x2 H locs ls hf hB hl
  unfold b_Line_haltBehind_2 at hf
  refine lv_iload_n hx hb dX3_haltBehind_2 rfl (lv_at hl 2 rfl) ?_
  refine lv_aload_n hx hb dX3_haltBehind_3 rfl (lv_at hl 0 rfl) ?_
  refine g_get (w := .int (i_t 3)) F hB 0 rfl fl_RX3_34 rfl dX3_haltBehind_4 ?_
  refine lv_icmp_ge (tgt := 27) hx hb dX3_haltBehind_7 (by decide) (fun c_3 => ?_) (fun c_3 => ?_)
  · replace hf := hf.1 c_3
    exact hkx_2  _ _ _ hf hB (lv_sub hl [] rfl)
  · replace hf := hf.2 c_3
    refine lv_aload_n hx hb dX3_haltBehind_10 rfl (lv_at hl 0 rfl) ?_
    refine lv_iload_n hx hb dX3_haltBehind_11 rfl (lv_at hl 2 rfl) ?_
    refine k_vi (wr := []) (rest := []) F hA hB (c_Line_haltAt l D k a_t d_t i_t r_t_halts x2 _  hf) ml_RX3_74 mv_yX3_haltAt [0, 1] [] rfl rfl (by decide) (by decide) (by decide) 0 rfl rfl rfl hl.1 rfl (Nat.le_of_ble_eq_true rfl) ⟨Nat.le_of_ble_eq_true rfl, Nat.le_of_ble_eq_true rfl⟩ ⟨Nat.le_of_ble_eq_true rfl, Nat.le_of_ble_eq_true rfl⟩ dX3_haltBehind_12 (fun z_1 w1 H locs hq hB => ?_)
    obtain ⟨rfl, hf⟩ := hq
    replace hB : Bd D A s.heap (wd_Line_haltBehind k a_t d_t i_t r_t_halts) H locs := hB.sub [0, 1] (by decide) rfl
    refine lv_iload_n hx hb dX3_haltBehind_15 rfl (lv_at hl 1 rfl) ?_
    refine lv_icmp_le (tgt := 21) hx hb dX3_haltBehind_16 (by decide) (fun c_2 => ?_) (fun c_2 => ?_)
    · replace hf := hf.1 c_2
      refine lv_iinc (v := (x2 + 1)) (lv' := [(2, .int (x2 + 1)), (0, .ref a_t), (1, .int x1)]) (k := 2) hx hb dX3_haltBehind_21 hl rfl rfl (by decide) rfl (fun ls hl => ?_)
      refine lv_goto (tgt := 2) hx hb dX3_haltBehind_24 (by decide) ?_
      exact hkr_2 _ _ _ _ hf hB (lv_sub hl [1, 2, 0] rfl)
    · replace hf := hf.2 c_2
      refine lv_iload_n hx hb dX3_haltBehind_19 rfl (lv_at hl 2 rfl) ?_
      exact r_i F hr hlk hB ⟨rfl, hf⟩ dX3_haltBehind_20

set_option maxRecDepth 100000 in
set_option maxHeartbeats 4000000 in
theorem lt_Line_haltBehind_2 {p : Program} {l : Launch} {e : Env} {s : State} {m : MethodId} {below : List Frame} {meth : Method} {c : Code} {A : Nat → Prop} {D : va_G} {k : Nat → ClassId} {a_t : Nat} {d_t : Nat → Nat} {i_t : Nat → Int32} {r_t_halts : Nat → Int32} {n1 : Int32} {Q : Int32 → Prop}  {x1 : Int32} {kx_2 : Prop} (F : Fx p m c cX3_haltBehind 3 s ([.ref a_t, .int n1] : List Value).toArray RX3 D k) (hr : meth.sig.returnType = (some .int)) (hlk : meth.locks = false) (hA : ∀ q : Nat, s.heap.size ≤ q → A q) (hkx_2 : ∀ (H : Heap) (locs : List Loc) (ls : Array Slot), kx_2 → Bd D A s.heap (wd_Line_haltBehind k a_t d_t i_t r_t_halts) H locs → lv_has ls 3 [] → W p l e { frames := 1, cells := 0, slots := 0, locals := 21 } s m ([.ref a_t, .int n1] : List Value).toArray below meth c H locs 0 0 (Ei below (fun r w => w = (wd_Line_haltBehind k a_t d_t i_t r_t_halts) ∧ Q r) D k A ([.ref a_t, .int n1] : List Value).toArray s 0 0) (F0 m 27 ls [])) :
    ∀ n : Nat, ∀ (x2 : Int32) (H : Heap) (locs : List Loc) (ls : Array Slot), lp_Line_haltBehind_2 i_t r_t_halts x1 Q kx_2 n x2 → Bd D A s.heap (wd_Line_haltBehind k a_t d_t i_t r_t_halts) H locs → lv_has ls 3 [(0, .ref a_t), (1, .int x1), (2, .int x2)] → W p l e { frames := 1, cells := 0, slots := 0, locals := 21 } s m ([.ref a_t, .int n1] : List Value).toArray below meth c H locs 0 0 (Ei below (fun r w => w = (wd_Line_haltBehind k a_t d_t i_t r_t_halts) ∧ Q r) D k A ([.ref a_t, .int n1] : List Value).toArray s 0 0) (F0 m 2 ls []) := by
  intro n
  induction n with
  | zero => intro x2 H locs ls hf; exact absurd hf (fun h => h)
  | succ n ih => exact bt_Line_haltBehind_2 F hr hlk hA hkx_2 ih

set_option maxRecDepth 100000 in
set_option maxHeartbeats 4000000 in
theorem c_Line_haltBehind (l : Launch) (D : va_G) (k : Nat → ClassId) (a_t : Nat) (d_t : Nat → Nat) (i_t : Nat → Int32) (r_t_halts : Nat → Int32) (n1 : Int32) (Q : Int32 → Prop)  (hf : w_Line_haltBehind i_t r_t_halts n1 Q) : CtI l yX3_haltBehind cX3_haltBehind 3 (some .int) 1 21 0 0 D k [.ref a_t, .int n1] (wd_Line_haltBehind k a_t d_t i_t r_t_halts) (fun r w => w = (wd_Line_haltBehind k a_t d_t i_t r_t_halts) ∧ Q r) := by
  refine CtI.of (by decide) (Nat.le_of_ble_eq_true rfl) ?_
  intro p e s m below meth c A F hr hlk hnm hA hB ls hl
  have hx := F.x
  have hb := F.b
  unfold w_Line_haltBehind at hf
  replace hl : lv_has ls 3 [(0, .ref a_t), (1, .int n1)] := hl
  refine lv_iconst (v := 0) hx hb dX3_haltBehind_0 (by decide) ?_
  refine lv_istore_n (lv' := [(2, .int (0 : Int32)), (0, .ref a_t), (1, .int n1)]) hx hb dX3_haltBehind_1 rfl hl (by decide) rfl (fun ls hl => ?_)
  obtain ⟨n_4, hf⟩ := hf
  refine lt_Line_haltBehind_2 F hr hlk hA (fun  H locs ls hf hB hl => ?_) n_4 _ _ _ _ hf hB (lv_sub hl [1, 2, 0] rfl)
  refine lv_iconst (v := -1) hx hb dX3_haltBehind_27 (by decide) ?_
  exact r_i F hr hlk hB ⟨rfl, hf⟩ dX3_haltBehind_28

/-! LongTrain.Reader.open -/
set_option maxRecDepth 100000 in
set_option maxHeartbeats 4000000 in
theorem c_Reader_open (l : Launch) (D : va_G) (k : Nat → ClassId) (a_t : Nat) (w_t : Nat → Value) (i_t : Nat → Int32) (j_t : Nat → Int64) (a_p1 : Nat) (r_p1 : Nat → Int32) (n2 : Int32) (n3 : Int32) (Q : (Nat → Int32) → Prop)  (hf : w_Reader_open i_t n2 n3 Q) : CtV l yX7_open cX7_open 4 none 1 32 0 0 D k [.ref a_t, .ref a_p1, .int n2, .int n3] (wd_Reader_open k a_t w_t i_t j_t a_p1 r_p1) (fun w => ∃ (i_t : Nat → Int32), w = (wd_Reader_open k a_t (updV w_t 0 (.ref a_p1)) i_t j_t a_p1 r_p1) ∧ Q i_t) := by
  refine CtV.of (by decide) (Nat.le_of_ble_eq_true rfl) ?_
  intro p e s m below meth c A F hr hlk hnm hA hB ls hl
  have hx := F.x
  have hb := F.b
  unfold w_Reader_open at hf
  replace hl : lv_has ls 4 [(0, .ref a_t), (1, .ref a_p1), (2, .int n2), (3, .int n3)] := hl
  refine lv_aload_n hx hb dX7_open_0 rfl (lv_at hl 0 rfl) ?_
  refine lv_aload_n hx hb dX7_open_1 rfl (lv_at hl 1 rfl) ?_
  refine g_putm F hB 0 rfl fl_RX7_9 rfl rfl rfl rfl (wd_Reader_open k a_t (updV w_t 0 (.ref a_p1)) i_t j_t a_p1 r_p1) rfl dX7_open_2 (fun H locs hB => ?_)
  refine lv_aload_n hx hb dX7_open_5 rfl (lv_at hl 0 rfl) ?_
  refine lv_iload_n hx hb dX7_open_6 rfl (lv_at hl 2 rfl) ?_
  refine lv_aload_n hx hb dX7_open_7 rfl (lv_at hl 1 rfl) ?_
  refine g_alen (v := 940) F hB 1 rfl (by decide) dX7_open_8 ?_
  refine k_min F ml_RX7_15 hl.1 (by decide) (Nat.le_of_ble_eq_true rfl) (Nat.zero_le _) (Nat.zero_le _) dX7_open_9 ?_
  refine g_puti F hB 0 rfl fl_RX7_21 rfl (wd_Reader_open k a_t (updV w_t 0 (.ref a_p1)) (upd i_t 1 (jmin n2 (940 : Int32))) j_t a_p1 r_p1) rfl dX7_open_12 (fun H locs hB => ?_)
  refine lv_aload_n hx hb dX7_open_15 rfl (lv_at hl 0 rfl) ?_
  refine lv_iload_n hx hb dX7_open_16 rfl (lv_at hl 3 rfl) ?_
  refine g_puti F hB 0 rfl fl_RX7_25 rfl (wd_Reader_open k a_t (updV w_t 0 (.ref a_p1)) (upd (upd i_t 1 (jmin n2 (940 : Int32))) 2 n3) j_t a_p1 r_p1) rfl dX7_open_17 (fun H locs hB => ?_)
  refine lv_aload_n hx hb dX7_open_20 rfl (lv_at hl 0 rfl) ?_
  refine lv_iconst (v := 0) hx hb dX7_open_21 (by decide) ?_
  refine g_puti F hB 0 rfl fl_RX7_28 rfl (wd_Reader_open k a_t (updV w_t 0 (.ref a_p1)) (upd (upd (upd i_t 1 (jmin n2 (940 : Int32))) 2 n3) 3 (0 : Int32)) j_t a_p1 r_p1) rfl dX7_open_22 (fun H locs hB => ?_)
  refine lv_aload_n hx hb dX7_open_25 rfl (lv_at hl 0 rfl) ?_
  refine lv_iconst (v := 0) hx hb dX7_open_26 (by decide) ?_
  refine g_puti F hB 0 rfl fl_RX7_31 rfl (wd_Reader_open k a_t (updV w_t 0 (.ref a_p1)) (upd (upd (upd (upd i_t 1 (jmin n2 (940 : Int32))) 2 n3) 3 (0 : Int32)) 8 (0 : Int32)) j_t a_p1 r_p1) rfl dX7_open_27 (fun H locs hB => ?_)
  refine lv_aload_n hx hb dX7_open_30 rfl (lv_at hl 0 rfl) ?_
  refine lv_iconst (v := 0) hx hb dX7_open_31 (by decide) ?_
  refine g_puti F hB 0 rfl fl_RX7_34 rfl (wd_Reader_open k a_t (updV w_t 0 (.ref a_p1)) (upd (upd (upd (upd (upd i_t 1 (jmin n2 (940 : Int32))) 2 n3) 3 (0 : Int32)) 8 (0 : Int32)) 9 (0 : Int32)) j_t a_p1 r_p1) rfl dX7_open_32 (fun H locs hB => ?_)
  exact r_v F hr hlk hB ⟨_, rfl, hf⟩ dX7_open_35

/-! LongTrain.Reader.fail -/
set_option maxRecDepth 100000 in
set_option maxHeartbeats 4000000 in
theorem c_Reader_fail (l : Launch) (D : va_G) (k : Nat → ClassId) (a_t : Nat) (w_t : Nat → Value) (i_t : Nat → Int32) (j_t : Nat → Int64) (n1 : Int32) (n2 : Int32) (Q : Int32 → (Nat → Int32) → Prop)  (hf : w_Reader_fail i_t n1 n2 Q) : CtI l yX7_fail cX7_fail 3 (some .boolean) 0 0 0 0 D k [.ref a_t, .int n1, .int n2] (wd_Reader_fail k a_t w_t i_t j_t) (fun r w => (r = 0 ∨ r = 1) ∧ (∃ (i_t : Nat → Int32), w = (wd_Reader_fail k a_t w_t i_t j_t) ∧ Q r i_t)) := by
  refine CtI.of (by decide) (Nat.le_of_ble_eq_true rfl) ?_
  intro p e s m below meth c A F hr hlk hnm hA hB ls hl
  have hx := F.x
  have hb := F.b
  unfold w_Reader_fail at hf
  replace hl : lv_has ls 3 [(0, .ref a_t), (1, .int n1), (2, .int n2)] := hl
  refine lv_aload_n hx hb dX7_fail_0 rfl (lv_at hl 0 rfl) ?_
  refine lv_iload_n hx hb dX7_fail_1 rfl (lv_at hl 1 rfl) ?_
  refine g_puti F hB 0 rfl fl_RX7_31 rfl (wd_Reader_fail k a_t w_t (upd i_t 8 n1) j_t) rfl dX7_fail_2 (fun H locs hB => ?_)
  refine lv_aload_n hx hb dX7_fail_5 rfl (lv_at hl 0 rfl) ?_
  refine lv_iload_n hx hb dX7_fail_6 rfl (lv_at hl 2 rfl) ?_
  refine g_puti F hB 0 rfl fl_RX7_34 rfl (wd_Reader_fail k a_t w_t (upd (upd i_t 8 n1) 9 n2) j_t) rfl dX7_fail_7 (fun H locs hB => ?_)
  refine lv_iconst (v := 0) hx hb dX7_fail_10 (by decide) ?_
  exact r_z F hr hlk hB (Or.inl rfl) ⟨Or.inl rfl, _, rfl, hf⟩ dX7_fail_11

/-! LongTrain.Reader.answer -/
set_option maxRecDepth 100000 in
set_option maxHeartbeats 4000000 in
theorem c_Reader_answer (l : Launch) (D : va_G) (k : Nat → ClassId) (a_t : Nat) (w_t : Nat → Value) (i_t : Nat → Int32) (j_t : Nat → Int64) (n1 : Int32) (Q : Int32 → Prop)  (hf : w_Reader_answer i_t n1 Q) : CtI l yX7_answer cX7_answer 2 (some .int) 0 0 0 0 D k [.ref a_t, .int n1] (wd_Reader_answer k a_t w_t i_t j_t) (fun r w => w = (wd_Reader_answer k a_t w_t i_t j_t) ∧ Q r) := by
  refine CtI.of (by decide) (Nat.le_of_ble_eq_true rfl) ?_
  intro p e s m below meth c A F hr hlk hnm hA hB ls hl
  have hx := F.x
  have hb := F.b
  unfold w_Reader_answer at hf
  replace hl : lv_has ls 2 [(0, .ref a_t), (1, .int n1)] := hl
  refine lv_aload_n hx hb dX7_answer_0 rfl (lv_at hl 0 rfl) ?_
  refine g_get (w := .int (i_t 8)) F hB 0 rfl fl_RX7_31 rfl dX7_answer_1 ?_
  refine lv_if_ne (tgt := 11) hx hb dX7_answer_4 (by decide) (fun c_1 => ?_) (fun c_1 => ?_)
  · replace hf := hf.1 c_1
    refine lv_iconst (v := -1) hx hb dX7_answer_11 (by decide) ?_
    refine lv_aload_n hx hb dX7_answer_12 rfl (lv_at hl 0 rfl) ?_
    refine g_get (w := .int (i_t 9)) F hB 0 rfl fl_RX7_34 rfl dX7_answer_13 ?_
    refine lv_isub hx hb dX7_answer_16 ?_
    exact r_i F hr hlk hB ⟨rfl, hf⟩ dX7_answer_17
  · replace hf := hf.2 c_1
    refine lv_iload_n hx hb dX7_answer_7 rfl (lv_at hl 1 rfl) ?_
    refine lv_goto (tgt := 17) hx hb dX7_answer_8 (by decide) ?_
    exact r_i F hr hlk hB ⟨rfl, hf⟩ dX7_answer_17

/-! LongTrain.Reader.isDigit -/
set_option maxRecDepth 100000 in
set_option maxHeartbeats 4000000 in
theorem c_Reader_isDigit (l : Launch) (D : va_G) (k : Nat → ClassId)  (n0 : Int32) (Q : Int32 → Prop)  (hf : w_Reader_isDigit n0 Q) : CtI l yX7_isDigit cX7_isDigit 1 (some .boolean) 0 0 0 0 D k [.int n0] [] (fun r w => (r = 0 ∨ r = 1) ∧ (w = ([] : va_W) ∧ Q r)) := by
  refine CtI.of (by decide) (Nat.le_of_ble_eq_true rfl) ?_
  intro p e s m below meth c A F hr hlk hnm hA hB ls hl
  have hx := F.x
  have hb := F.b
  unfold w_Reader_isDigit at hf
  replace hl : lv_has ls 1 [(0, .int n0)] := hl
  refine lv_iload_n hx hb dX7_isDigit_0 rfl (lv_at hl 0 rfl) ?_
  refine lv_bipush (v := 48) hx hb dX7_isDigit_1 (by decide) ?_
  refine lv_icmp_lt (tgt := 16) hx hb dX7_isDigit_3 (by decide) (fun c_2 => ?_) (fun c_2 => ?_)
  · replace hf := hf.1 c_2
    refine lv_iconst (v := 0) hx hb dX7_isDigit_16 (by decide) ?_
    exact r_z F hr hlk hB (Or.inl rfl) ⟨Or.inl rfl, rfl, hf⟩ dX7_isDigit_17
  · replace hf := hf.2 c_2
    refine lv_iload_n hx hb dX7_isDigit_6 rfl (lv_at hl 0 rfl) ?_
    refine lv_bipush (v := 57) hx hb dX7_isDigit_7 (by decide) ?_
    refine lv_icmp_gt (tgt := 16) hx hb dX7_isDigit_9 (by decide) (fun c_1 => ?_) (fun c_1 => ?_)
    · replace hf := hf.1 c_1
      refine lv_iconst (v := 0) hx hb dX7_isDigit_16 (by decide) ?_
      exact r_z F hr hlk hB (Or.inl rfl) ⟨Or.inl rfl, rfl, hf⟩ dX7_isDigit_17
    · replace hf := hf.2 c_1
      refine lv_iconst (v := 1) hx hb dX7_isDigit_12 (by decide) ?_
      refine lv_goto (tgt := 17) hx hb dX7_isDigit_13 (by decide) ?_
      exact r_z F hr hlk hB (Or.inr rfl) ⟨Or.inr rfl, rfl, hf⟩ dX7_isDigit_17

/-! LongTrain.Reader.isLetter -/
set_option maxRecDepth 100000 in
set_option maxHeartbeats 4000000 in
theorem c_Reader_isLetter (l : Launch) (D : va_G) (k : Nat → ClassId)  (n0 : Int32) (Q : Int32 → Prop)  (hf : w_Reader_isLetter n0 Q) : CtI l yX7_isLetter cX7_isLetter 1 (some .boolean) 0 0 0 0 D k [.int n0] [] (fun r w => (r = 0 ∨ r = 1) ∧ (w = ([] : va_W) ∧ Q r)) := by
  refine CtI.of (by decide) (Nat.le_of_ble_eq_true rfl) ?_
  intro p e s m below meth c A F hr hlk hnm hA hB ls hl
  have hx := F.x
  have hb := F.b
  unfold w_Reader_isLetter at hf
  replace hl : lv_has ls 1 [(0, .int n0)] := hl
  refine lv_iload_n hx hb dX7_isLetter_0 rfl (lv_at hl 0 rfl) ?_
  refine lv_bipush (v := 97) hx hb dX7_isLetter_1 (by decide) ?_
  refine lv_icmp_lt (tgt := 16) hx hb dX7_isLetter_3 (by decide) (fun c_2 => ?_) (fun c_2 => ?_)
  · replace hf := hf.1 c_2
    refine lv_iconst (v := 0) hx hb dX7_isLetter_16 (by decide) ?_
    exact r_z F hr hlk hB (Or.inl rfl) ⟨Or.inl rfl, rfl, hf⟩ dX7_isLetter_17
  · replace hf := hf.2 c_2
    refine lv_iload_n hx hb dX7_isLetter_6 rfl (lv_at hl 0 rfl) ?_
    refine lv_bipush (v := 122) hx hb dX7_isLetter_7 (by decide) ?_
    refine lv_icmp_gt (tgt := 16) hx hb dX7_isLetter_9 (by decide) (fun c_1 => ?_) (fun c_1 => ?_)
    · replace hf := hf.1 c_1
      refine lv_iconst (v := 0) hx hb dX7_isLetter_16 (by decide) ?_
      exact r_z F hr hlk hB (Or.inl rfl) ⟨Or.inl rfl, rfl, hf⟩ dX7_isLetter_17
    · replace hf := hf.2 c_1
      refine lv_iconst (v := 1) hx hb dX7_isLetter_12 (by decide) ?_
      refine lv_goto (tgt := 17) hx hb dX7_isLetter_13 (by decide) ?_
      exact r_z F hr hlk hB (Or.inr rfl) ⟨Or.inr rfl, rfl, hf⟩ dX7_isLetter_17

/-! LongTrain.Reader.readRun -/
set_option maxRecDepth 100000 in
set_option maxHeartbeats 4000000 in
theorem jt_Reader_readRun_53 {p : Program} {l : Launch} {e : Env} {s : State} {m : MethodId} {below : List Frame} {meth : Method} {c : Code} {A : Nat → Prop} {D : va_G} {k : Nat → ClassId} {a_t : Nat} {w_t : Nat → Value} {a_t_text : Nat} {r_t_text : Nat → Int32}  {Q : (Nat → Int32) → (Nat → Int64) → Prop} (hw_t_text : w_t 0 = .ref a_t_text) {kr_12 : (Int32) → (Nat → Int32) → (Nat → Int64) → Prop} (F : Fx p m c cX7_readRun 3 s ([.ref a_t] : List Value).toArray RX7 D k) (hr : meth.sig.returnType = none) (hlk : meth.locks = false) (hA : ∀ q : Nat, s.heap.size ≤ q → A q) (hkr_12 : ∀ (x1 : Int32) (i_t : Nat → Int32) (j_t : Nat → Int64) (H : Heap) (locs : List Loc) (ls : Array Slot), kr_12 x1 i_t j_t → Bd D A s.heap (wd_Reader_readRun k a_t w_t i_t j_t a_t_text r_t_text) H locs → lv_has ls 3 [(0, .ref a_t), (1, .int x1)] → W p l e { frames := 1, cells := 0, slots := 0, locals := 20 } s m ([.ref a_t] : List Value).toArray below meth c H locs 0 0 (Ev below (fun w => ∃ (i_t : Nat → Int32), ∃ (j_t : Nat → Int64), w = (wd_Reader_readRun k a_t w_t i_t j_t a_t_text r_t_text) ∧ Q i_t j_t) D k A ([.ref a_t] : List Value).toArray s 0 0) (F0 m 12 ls [])) :
    ∀ (i_t : Nat → Int32) (j_t : Nat → Int64) (x1 : Int32) (H : Heap) (locs : List Loc) (ls : Array Slot), j_Reader_readRun_53 i_t j_t r_t_text x1 kr_12 → Bd D A s.heap (wd_Reader_readRun k a_t w_t i_t j_t a_t_text r_t_text) H locs → lv_has ls 3 [(0, .ref a_t), (1, .int x1)] → W p l e { frames := 1, cells := 0, slots := 0, locals := 20 } s m ([.ref a_t] : List Value).toArray below meth c H locs 0 0 (Ev below (fun w => ∃ (i_t : Nat → Int32), ∃ (j_t : Nat → Int64), w = (wd_Reader_readRun k a_t w_t i_t j_t a_t_text r_t_text) ∧ Q i_t j_t) D k A ([.ref a_t] : List Value).toArray s 0 0) (F0 m 53 ls []) := by
  have hx := F.x
  have hb := F.b
  intro i_t j_t x1 H locs ls hf hB hl
  unfold j_Reader_readRun_53 at hf
  refine lv_aload_n hx hb dX7_readRun_53 rfl (lv_at hl 0 rfl) ?_
  refine g_get (w := .ref a_t_text) F hB 0 rfl fl_RX7_9 hw_t_text dX7_readRun_54 ?_
  refine lv_aload_n hx hb dX7_readRun_57 rfl (lv_at hl 0 rfl) ?_
  refine g_get (w := .int (i_t 3)) F hB 0 rfl fl_RX7_28 rfl dX7_readRun_58 ?_
  obtain ⟨h_4, hf⟩ := hf
  refine g_iald F hB 1 rfl h_4 dX7_readRun_61 ?_
  refine k_si (wr := [(a_t, ob 7 (vmx 7 d0 w_t) i_t j_t), (a_t_text, ai k 940 r_t_text)]) (rest := []) F hA hB (c_Reader_isDigit l D k (r_t_text ((i_t 3)).toNatClampNeg) _  hf) ml_RX7_47 ms_yX7_isDigit [] [0, 1] rfl rfl (by decide) (by decide) (by decide) rfl hl.1 rfl (Nat.le_of_ble_eq_true rfl) ⟨Nat.le_of_ble_eq_true rfl, Nat.le_of_ble_eq_true rfl⟩ ⟨Nat.le_of_ble_eq_true rfl, Nat.le_of_ble_eq_true rfl⟩ dX7_readRun_62 (fun z_5 w1 H locs hq hB => ?_)
  obtain ⟨h_6, rfl, hf⟩ := hq
  replace hB : Bd D A s.heap (wd_Reader_readRun k a_t w_t i_t j_t a_t_text r_t_text) H locs := hB.sub [0, 1] (by decide) rfl
  refine lv_if_eq (tgt := 98) hx hb dX7_readRun_65 (by decide) (fun c_9 => ?_) (fun c_9 => ?_)
  · replace hf := hf.1 c_9
    refine lv_aload_n hx hb dX7_readRun_98 rfl (lv_at hl 0 rfl) ?_
    refine lv_aload_n hx hb dX7_readRun_99 rfl (lv_at hl 0 rfl) ?_
    refine g_get (w := .long (j_t 7)) F hB 0 rfl fl_RX7_53 rfl dX7_readRun_100 ?_
    refine lv_ldc2 (v := 32) hx hb F.o (F.t _ cst_RX7_60) dX7_readRun_103 ?_
    refine lv_lmul hx hb dX7_readRun_106 ?_
    refine lv_aload_n hx hb dX7_readRun_107 rfl (lv_at hl 0 rfl) ?_
    refine g_get (w := .ref a_t_text) F hB 0 rfl fl_RX7_9 hw_t_text dX7_readRun_108 ?_
    refine lv_aload_n hx hb dX7_readRun_111 rfl (lv_at hl 0 rfl) ?_
    refine g_get (w := .int (i_t 3)) F hB 0 rfl fl_RX7_28 rfl dX7_readRun_112 ?_
    obtain ⟨h_7, hf⟩ := hf
    refine g_iald F hB 1 rfl h_7 dX7_readRun_115 ?_
    refine lv_i2l (v := ((r_t_text ((i_t 3)).toNatClampNeg)).toInt64) hx hb dX7_readRun_116 rfl ?_
    refine lv_ladd hx hb dX7_readRun_117 ?_
    refine lv_ldc2 (v := 97) hx hb F.o (F.t _ cst_RX7_62) dX7_readRun_118 ?_
    refine lv_lsub hx hb dX7_readRun_121 ?_
    refine lv_lconst (v := 1) hx hb dX7_readRun_122 (by decide) ?_
    refine lv_ladd hx hb dX7_readRun_123 ?_
    refine g_putj F hB 0 rfl fl_RX7_53 rfl (wd_Reader_readRun k a_t w_t i_t (vp_updL j_t 7 (((((j_t 7) * (32 : Int64)) + ((r_t_text ((i_t 3)).toNatClampNeg)).toInt64) - (97 : Int64)) + (1 : Int64))) a_t_text r_t_text) rfl dX7_readRun_124 (fun H locs hB => ?_)
    refine lv_aload_n hx hb dX7_readRun_127 rfl (lv_at hl 0 rfl) ?_
    refine lv_dup hx hb dX7_readRun_128 rfl ?_
    refine g_get (w := .int (i_t 3)) F hB 0 rfl fl_RX7_28 rfl dX7_readRun_129 ?_
    refine lv_iconst (v := 1) hx hb dX7_readRun_132 (by decide) ?_
    refine lv_iadd hx hb dX7_readRun_133 ?_
    refine g_puti F hB 0 rfl fl_RX7_28 rfl (wd_Reader_readRun k a_t w_t (upd i_t 3 ((i_t 3) + (1 : Int32))) (vp_updL j_t 7 (((((j_t 7) * (32 : Int64)) + ((r_t_text ((i_t 3)).toNatClampNeg)).toInt64) - (97 : Int64)) + (1 : Int64))) a_t_text r_t_text) rfl dX7_readRun_134 (fun H locs hB => ?_)
    refine lv_goto (tgt := 12) hx hb dX7_readRun_137 (by decide) ?_
    exact hkr_12 _ _ _ _ _ _ hf hB (lv_sub hl [0, 1] rfl)
  · replace hf := hf.2 c_9
    refine lv_aload_n hx hb dX7_readRun_68 rfl (lv_at hl 0 rfl) ?_
    refine lv_aload_n hx hb dX7_readRun_69 rfl (lv_at hl 0 rfl) ?_
    refine g_get (w := .int (i_t 6)) F hB 0 rfl fl_RX7_57 rfl dX7_readRun_70 ?_
    refine lv_bipush (v := 10) hx hb dX7_readRun_73 (by decide) ?_
    refine lv_imul hx hb dX7_readRun_75 ?_
    refine lv_aload_n hx hb dX7_readRun_76 rfl (lv_at hl 0 rfl) ?_
    refine g_get (w := .ref a_t_text) F hB 0 rfl fl_RX7_9 hw_t_text dX7_readRun_77 ?_
    refine lv_aload_n hx hb dX7_readRun_80 rfl (lv_at hl 0 rfl) ?_
    refine g_get (w := .int (i_t 3)) F hB 0 rfl fl_RX7_28 rfl dX7_readRun_81 ?_
    obtain ⟨h_8, hf⟩ := hf
    refine g_iald F hB 1 rfl h_8 dX7_readRun_84 ?_
    refine lv_iadd hx hb dX7_readRun_85 ?_
    refine lv_bipush (v := 48) hx hb dX7_readRun_86 (by decide) ?_
    refine lv_isub hx hb dX7_readRun_88 ?_
    refine g_puti F hB 0 rfl fl_RX7_57 rfl (wd_Reader_readRun k a_t w_t (upd i_t 6 ((((i_t 6) * (10 : Int32)) + (r_t_text ((i_t 3)).toNatClampNeg)) - (48 : Int32))) j_t a_t_text r_t_text) rfl dX7_readRun_89 (fun H locs hB => ?_)
    refine lv_iinc (v := (x1 + 1)) (lv' := [(1, .int (x1 + 1)), (0, .ref a_t)]) (k := 1) hx hb dX7_readRun_92 hl rfl rfl (by decide) rfl (fun ls hl => ?_)
    refine lv_goto (tgt := 127) hx hb dX7_readRun_95 (by decide) ?_
    refine lv_aload_n hx hb dX7_readRun_127 rfl (lv_at hl 1 rfl) ?_
    refine lv_dup hx hb dX7_readRun_128 rfl ?_
    refine g_get (w := .int ((upd i_t 6 ((((i_t 6) * (10 : Int32)) + (r_t_text ((i_t 3)).toNatClampNeg)) - (48 : Int32))) 3)) F hB 0 rfl fl_RX7_28 rfl dX7_readRun_129 ?_
    refine lv_iconst (v := 1) hx hb dX7_readRun_132 (by decide) ?_
    refine lv_iadd hx hb dX7_readRun_133 ?_
    refine g_puti F hB 0 rfl fl_RX7_28 rfl (wd_Reader_readRun k a_t w_t (upd (upd i_t 6 ((((i_t 6) * (10 : Int32)) + (r_t_text ((i_t 3)).toNatClampNeg)) - (48 : Int32))) 3 (((upd i_t 6 ((((i_t 6) * (10 : Int32)) + (r_t_text ((i_t 3)).toNatClampNeg)) - (48 : Int32))) 3) + (1 : Int32))) j_t a_t_text r_t_text) rfl dX7_readRun_134 (fun H locs hB => ?_)
    refine lv_goto (tgt := 12) hx hb dX7_readRun_137 (by decide) ?_
    exact hkr_12 _ _ _ _ _ _ hf hB (lv_sub hl [1, 0] rfl)

set_option maxRecDepth 100000 in
set_option maxHeartbeats 4000000 in
theorem bt_Reader_readRun_12 {p : Program} {l : Launch} {e : Env} {s : State} {m : MethodId} {below : List Frame} {meth : Method} {c : Code} {A : Nat → Prop} {D : va_G} {k : Nat → ClassId} {a_t : Nat} {w_t : Nat → Value} {a_t_text : Nat} {r_t_text : Nat → Int32}  {Q : (Nat → Int32) → (Nat → Int64) → Prop} (hw_t_text : w_t 0 = .ref a_t_text) {kx_12 : (Int32) → (Nat → Int32) → (Nat → Int64) → Prop} {kr_12 : (Int32) → (Nat → Int32) → (Nat → Int64) → Prop} (F : Fx p m c cX7_readRun 3 s ([.ref a_t] : List Value).toArray RX7 D k) (hr : meth.sig.returnType = none) (hlk : meth.locks = false) (hA : ∀ q : Nat, s.heap.size ≤ q → A q) (hkx_12 : ∀ (x1 : Int32) (i_t : Nat → Int32) (j_t : Nat → Int64) (H : Heap) (locs : List Loc) (ls : Array Slot), kx_12 x1 i_t j_t → Bd D A s.heap (wd_Reader_readRun k a_t w_t i_t j_t a_t_text r_t_text) H locs → lv_has ls 3 [(0, .ref a_t), (1, .int x1)] → W p l e { frames := 1, cells := 0, slots := 0, locals := 20 } s m ([.ref a_t] : List Value).toArray below meth c H locs 0 0 (Ev below (fun w => ∃ (i_t : Nat → Int32), ∃ (j_t : Nat → Int64), w = (wd_Reader_readRun k a_t w_t i_t j_t a_t_text r_t_text) ∧ Q i_t j_t) D k A ([.ref a_t] : List Value).toArray s 0 0) (F0 m 140 ls [])) (hkr_12 : ∀ (x1 : Int32) (i_t : Nat → Int32) (j_t : Nat → Int64) (H : Heap) (locs : List Loc) (ls : Array Slot), kr_12 x1 i_t j_t → Bd D A s.heap (wd_Reader_readRun k a_t w_t i_t j_t a_t_text r_t_text) H locs → lv_has ls 3 [(0, .ref a_t), (1, .int x1)] → W p l e { frames := 1, cells := 0, slots := 0, locals := 20 } s m ([.ref a_t] : List Value).toArray below meth c H locs 0 0 (Ev below (fun w => ∃ (i_t : Nat → Int32), ∃ (j_t : Nat → Int64), w = (wd_Reader_readRun k a_t w_t i_t j_t a_t_text r_t_text) ∧ Q i_t j_t) D k A ([.ref a_t] : List Value).toArray s 0 0) (F0 m 12 ls [])) :
    ∀ (x1 : Int32) (i_t : Nat → Int32) (j_t : Nat → Int64) (H : Heap) (locs : List Loc) (ls : Array Slot), b_Reader_readRun_12 r_t_text kx_12 kr_12 x1 i_t j_t → Bd D A s.heap (wd_Reader_readRun k a_t w_t i_t j_t a_t_text r_t_text) H locs → lv_has ls 3 [(0, .ref a_t), (1, .int x1)] → W p l e { frames := 1, cells := 0, slots := 0, locals := 20 } s m ([.ref a_t] : List Value).toArray below meth c H locs 0 0 (Ev below (fun w => ∃ (i_t : Nat → Int32), ∃ (j_t : Nat → Int64), w = (wd_Reader_readRun k a_t w_t i_t j_t a_t_text r_t_text) ∧ Q i_t j_t) D k A ([.ref a_t] : List Value).toArray s 0 0) (F0 m 12 ls []) := by
  have hx := F.x
  have hb := F.b
  intro x1 i_t j_t H locs ls hf hB hl
  unfold b_Reader_readRun_12 at hf
  refine lv_aload_n hx hb dX7_readRun_12 rfl (lv_at hl 0 rfl) ?_
  refine g_get (w := .int (i_t 3)) F hB 0 rfl fl_RX7_28 rfl dX7_readRun_13 ?_
  refine lv_aload_n hx hb dX7_readRun_16 rfl (lv_at hl 0 rfl) ?_
  refine g_get (w := .int (i_t 1)) F hB 0 rfl fl_RX7_21 rfl dX7_readRun_17 ?_
  refine lv_icmp_ge (tgt := 140) hx hb dX7_readRun_20 (by decide) (fun c_15 => ?_) (fun c_15 => ?_)
  · replace hf := hf.1 c_15
    exact hkx_12 _ _ _ _ _ _ hf hB (lv_sub hl [0, 1] rfl)
  · replace hf := hf.2 c_15
    refine lv_aload_n hx hb dX7_readRun_23 rfl (lv_at hl 0 rfl) ?_
    refine g_get (w := .ref a_t_text) F hB 0 rfl fl_RX7_9 hw_t_text dX7_readRun_24 ?_
    refine lv_aload_n hx hb dX7_readRun_27 rfl (lv_at hl 0 rfl) ?_
    refine g_get (w := .int (i_t 3)) F hB 0 rfl fl_RX7_28 rfl dX7_readRun_28 ?_
    obtain ⟨h_1, hf⟩ := hf
    refine g_iald F hB 1 rfl h_1 dX7_readRun_31 ?_
    refine k_si (wr := [(a_t, ob 7 (vmx 7 d0 w_t) i_t j_t), (a_t_text, ai k 940 r_t_text)]) (rest := []) F hA hB (c_Reader_isLetter l D k (r_t_text ((i_t 3)).toNatClampNeg) _  hf) ml_RX7_43 ms_yX7_isLetter [] [0, 1] rfl rfl (by decide) (by decide) (by decide) rfl hl.1 rfl (Nat.le_of_ble_eq_true rfl) ⟨Nat.le_of_ble_eq_true rfl, Nat.le_of_ble_eq_true rfl⟩ ⟨Nat.le_of_ble_eq_true rfl, Nat.le_of_ble_eq_true rfl⟩ dX7_readRun_32 (fun z_2 w1 H locs hq hB => ?_)
    obtain ⟨h_3, rfl, hf⟩ := hq
    replace hB : Bd D A s.heap (wd_Reader_readRun k a_t w_t i_t j_t a_t_text r_t_text) H locs := hB.sub [0, 1] (by decide) rfl
    refine lv_if_ne (tgt := 53) hx hb dX7_readRun_35 (by decide) (fun c_14 => ?_) (fun c_14 => ?_)
    · replace hf := hf.1 c_14
      exact jt_Reader_readRun_53 hw_t_text F hr hlk hA hkr_12 _ _ _ _ _ _ hf hB (lv_sub hl [0, 1] rfl)
    · replace hf := hf.2 c_14
      refine lv_aload_n hx hb dX7_readRun_38 rfl (lv_at hl 0 rfl) ?_
      refine g_get (w := .ref a_t_text) F hB 0 rfl fl_RX7_9 hw_t_text dX7_readRun_39 ?_
      refine lv_aload_n hx hb dX7_readRun_42 rfl (lv_at hl 0 rfl) ?_
      refine g_get (w := .int (i_t 3)) F hB 0 rfl fl_RX7_28 rfl dX7_readRun_43 ?_
      obtain ⟨h_10, hf⟩ := hf
      refine g_iald F hB 1 rfl h_10 dX7_readRun_46 ?_
      refine k_si (wr := [(a_t, ob 7 (vmx 7 d0 w_t) i_t j_t), (a_t_text, ai k 940 r_t_text)]) (rest := []) F hA hB (c_Reader_isDigit l D k (r_t_text ((i_t 3)).toNatClampNeg) _  hf) ml_RX7_47 ms_yX7_isDigit [] [0, 1] rfl rfl (by decide) (by decide) (by decide) rfl hl.1 rfl (Nat.le_of_ble_eq_true rfl) ⟨Nat.le_of_ble_eq_true rfl, Nat.le_of_ble_eq_true rfl⟩ ⟨Nat.le_of_ble_eq_true rfl, Nat.le_of_ble_eq_true rfl⟩ dX7_readRun_47 (fun z_11 w1 H locs hq hB => ?_)
      obtain ⟨h_12, rfl, hf⟩ := hq
      replace hB : Bd D A s.heap (wd_Reader_readRun k a_t w_t i_t j_t a_t_text r_t_text) H locs := hB.sub [0, 1] (by decide) rfl
      refine lv_if_eq (tgt := 140) hx hb dX7_readRun_50 (by decide) (fun c_13 => ?_) (fun c_13 => ?_)
      · replace hf := hf.1 c_13
        exact hkx_12 _ _ _ _ _ _ hf hB (lv_sub hl [0, 1] rfl)
      · replace hf := hf.2 c_13
        exact jt_Reader_readRun_53 hw_t_text F hr hlk hA hkr_12 _ _ _ _ _ _ hf hB (lv_sub hl [0, 1] rfl)

set_option maxRecDepth 100000 in
set_option maxHeartbeats 4000000 in
theorem lt_Reader_readRun_12 {p : Program} {l : Launch} {e : Env} {s : State} {m : MethodId} {below : List Frame} {meth : Method} {c : Code} {A : Nat → Prop} {D : va_G} {k : Nat → ClassId} {a_t : Nat} {w_t : Nat → Value} {a_t_text : Nat} {r_t_text : Nat → Int32}  {Q : (Nat → Int32) → (Nat → Int64) → Prop} (hw_t_text : w_t 0 = .ref a_t_text) {kx_12 : (Int32) → (Nat → Int32) → (Nat → Int64) → Prop} (F : Fx p m c cX7_readRun 3 s ([.ref a_t] : List Value).toArray RX7 D k) (hr : meth.sig.returnType = none) (hlk : meth.locks = false) (hA : ∀ q : Nat, s.heap.size ≤ q → A q) (hkx_12 : ∀ (x1 : Int32) (i_t : Nat → Int32) (j_t : Nat → Int64) (H : Heap) (locs : List Loc) (ls : Array Slot), kx_12 x1 i_t j_t → Bd D A s.heap (wd_Reader_readRun k a_t w_t i_t j_t a_t_text r_t_text) H locs → lv_has ls 3 [(0, .ref a_t), (1, .int x1)] → W p l e { frames := 1, cells := 0, slots := 0, locals := 20 } s m ([.ref a_t] : List Value).toArray below meth c H locs 0 0 (Ev below (fun w => ∃ (i_t : Nat → Int32), ∃ (j_t : Nat → Int64), w = (wd_Reader_readRun k a_t w_t i_t j_t a_t_text r_t_text) ∧ Q i_t j_t) D k A ([.ref a_t] : List Value).toArray s 0 0) (F0 m 140 ls [])) :
    ∀ n : Nat, ∀ (x1 : Int32) (i_t : Nat → Int32) (j_t : Nat → Int64) (H : Heap) (locs : List Loc) (ls : Array Slot), lp_Reader_readRun_12 r_t_text kx_12 n x1 i_t j_t → Bd D A s.heap (wd_Reader_readRun k a_t w_t i_t j_t a_t_text r_t_text) H locs → lv_has ls 3 [(0, .ref a_t), (1, .int x1)] → W p l e { frames := 1, cells := 0, slots := 0, locals := 20 } s m ([.ref a_t] : List Value).toArray below meth c H locs 0 0 (Ev below (fun w => ∃ (i_t : Nat → Int32), ∃ (j_t : Nat → Int64), w = (wd_Reader_readRun k a_t w_t i_t j_t a_t_text r_t_text) ∧ Q i_t j_t) D k A ([.ref a_t] : List Value).toArray s 0 0) (F0 m 12 ls []) := by
  intro n
  induction n with
  | zero => intro x1 i_t j_t H locs ls hf; exact absurd hf (fun h => h)
  | succ n ih => exact bt_Reader_readRun_12 hw_t_text F hr hlk hA hkx_12 ih

set_option maxRecDepth 100000 in
set_option maxHeartbeats 4000000 in
theorem jt_Reader_readRun_168 {p : Program} {l : Launch} {e : Env} {s : State} {m : MethodId} {below : List Frame} {meth : Method} {c : Code} {A : Nat → Prop} {D : va_G} {k : Nat → ClassId} {a_t : Nat} {w_t : Nat → Value} {a_t_text : Nat} {r_t_text : Nat → Int32}  {Q : (Nat → Int32) → (Nat → Int64) → Prop} (hw_t_text : w_t 0 = .ref a_t_text) (F : Fx p m c cX7_readRun 3 s ([.ref a_t] : List Value).toArray RX7 D k) (hr : meth.sig.returnType = none) (hlk : meth.locks = false) (hA : ∀ q : Nat, s.heap.size ≤ q → A q) :
    ∀ (i_t : Nat → Int32) (j_t : Nat → Int64) (x1 : Int32) (x2 : Int32) (H : Heap) (locs : List Loc) (ls : Array Slot), j_Reader_readRun_168 i_t j_t x1 x2 Q → Bd D A s.heap (wd_Reader_readRun k a_t w_t i_t j_t a_t_text r_t_text) H locs → lv_has ls 3 [(0, .ref a_t), (1, .int x1), (2, .int x2)] → W p l e { frames := 1, cells := 0, slots := 0, locals := 20 } s m ([.ref a_t] : List Value).toArray below meth c H locs 0 0 (Ev below (fun w => ∃ (i_t : Nat → Int32), ∃ (j_t : Nat → Int64), w = (wd_Reader_readRun k a_t w_t i_t j_t a_t_text r_t_text) ∧ Q i_t j_t) D k A ([.ref a_t] : List Value).toArray s 0 0) (F0 m 168 ls []) := by
  have hx := F.x
  have hb := F.b
  intro i_t j_t x1 x2 H locs ls hf hB hl
  unfold j_Reader_readRun_168 at hf
  refine lv_aload_n hx hb dX7_readRun_168 rfl (lv_at hl 0 rfl) ?_
  refine lv_iload_n hx hb dX7_readRun_169 rfl (lv_at hl 1 rfl) ?_
  refine lv_iload_n hx hb dX7_readRun_170 rfl (lv_at hl 2 rfl) ?_
  refine lv_icmp_ne (tgt := 183) hx hb dX7_readRun_171 (by decide) (fun c_20 => ?_) (fun c_20 => ?_)
  · replace hf := hf.1 c_20
    refine lv_iconst (v := 0) hx hb dX7_readRun_183 (by decide) ?_
    refine g_puti F hB 0 rfl fl_RX7_40 rfl (wd_Reader_readRun k a_t w_t (upd i_t 4 (0 : Int32)) j_t a_t_text r_t_text) rfl dX7_readRun_184 (fun H locs hB => ?_)
    exact r_v F hr hlk hB ⟨_, _, rfl, hf⟩ dX7_readRun_187
  · replace hf := hf.2 c_20
    refine lv_iload_n hx hb dX7_readRun_174 rfl (lv_at hl 2 rfl) ?_
    refine lv_iconst (v := 3) hx hb dX7_readRun_175 (by decide) ?_
    refine lv_icmp_gt (tgt := 183) hx hb dX7_readRun_176 (by decide) (fun c_19 => ?_) (fun c_19 => ?_)
    · replace hf := hf.1 c_19
      refine lv_iconst (v := 0) hx hb dX7_readRun_183 (by decide) ?_
      refine g_puti F hB 0 rfl fl_RX7_40 rfl (wd_Reader_readRun k a_t w_t (upd i_t 4 (0 : Int32)) j_t a_t_text r_t_text) rfl dX7_readRun_184 (fun H locs hB => ?_)
      exact r_v F hr hlk hB ⟨_, _, rfl, hf⟩ dX7_readRun_187
    · replace hf := hf.2 c_19
      refine lv_iconst (v := 2) hx hb dX7_readRun_179 (by decide) ?_
      refine lv_goto (tgt := 184) hx hb dX7_readRun_180 (by decide) ?_
      refine g_puti F hB 0 rfl fl_RX7_40 rfl (wd_Reader_readRun k a_t w_t (upd i_t 4 (2 : Int32)) j_t a_t_text r_t_text) rfl dX7_readRun_184 (fun H locs hB => ?_)
      exact r_v F hr hlk hB ⟨_, _, rfl, hf⟩ dX7_readRun_187

set_option maxRecDepth 100000 in
set_option maxHeartbeats 4000000 in
theorem jt_Reader_readRun_140 {p : Program} {l : Launch} {e : Env} {s : State} {m : MethodId} {below : List Frame} {meth : Method} {c : Code} {A : Nat → Prop} {D : va_G} {k : Nat → ClassId} {a_t : Nat} {w_t : Nat → Value} {a_t_text : Nat} {r_t_text : Nat → Int32}  {Q : (Nat → Int32) → (Nat → Int64) → Prop} (hw_t_text : w_t 0 = .ref a_t_text) (F : Fx p m c cX7_readRun 3 s ([.ref a_t] : List Value).toArray RX7 D k) (hr : meth.sig.returnType = none) (hlk : meth.locks = false) (hA : ∀ q : Nat, s.heap.size ≤ q → A q) :
    ∀ (i_t : Nat → Int32) (j_t : Nat → Int64) (x1 : Int32) (H : Heap) (locs : List Loc) (ls : Array Slot), j_Reader_readRun_140 i_t j_t x1 Q → Bd D A s.heap (wd_Reader_readRun k a_t w_t i_t j_t a_t_text r_t_text) H locs → lv_has ls 3 [(0, .ref a_t), (1, .int x1)] → W p l e { frames := 1, cells := 0, slots := 0, locals := 20 } s m ([.ref a_t] : List Value).toArray below meth c H locs 0 0 (Ev below (fun w => ∃ (i_t : Nat → Int32), ∃ (j_t : Nat → Int64), w = (wd_Reader_readRun k a_t w_t i_t j_t a_t_text r_t_text) ∧ Q i_t j_t) D k A ([.ref a_t] : List Value).toArray s 0 0) (F0 m 140 ls []) := by
  have hx := F.x
  have hb := F.b
  intro i_t j_t x1 H locs ls hf hB hl
  unfold j_Reader_readRun_140 at hf
  refine lv_aload_n hx hb dX7_readRun_140 rfl (lv_at hl 0 rfl) ?_
  refine g_get (w := .int (i_t 3)) F hB 0 rfl fl_RX7_28 rfl dX7_readRun_141 ?_
  refine lv_aload_n hx hb dX7_readRun_144 rfl (lv_at hl 0 rfl) ?_
  refine g_get (w := .int (i_t 5)) F hB 0 rfl fl_RX7_37 rfl dX7_readRun_145 ?_
  refine lv_isub hx hb dX7_readRun_148 ?_
  refine lv_istore_n (lv' := [(2, .int ((i_t 3) - (i_t 5))), (0, .ref a_t), (1, .int x1)]) hx hb dX7_readRun_149 rfl hl (by decide) rfl (fun ls hl => ?_)
  refine lv_iload_n hx hb dX7_readRun_150 rfl (lv_at hl 2 rfl) ?_
  refine lv_if_ne (tgt := 168) hx hb dX7_readRun_151 (by decide) (fun c_22 => ?_) (fun c_22 => ?_)
  · replace hf := hf.1 c_22
    exact jt_Reader_readRun_168 hw_t_text F hr hlk hA _ _ _ _ _ _ _ hf hB (lv_sub hl [1, 2, 0] rfl)
  · replace hf := hf.2 c_22
    refine lv_iload_n hx hb dX7_readRun_154 rfl (lv_at hl 0 rfl) ?_
    refine lv_bipush (v := 7) hx hb dX7_readRun_155 (by decide) ?_
    refine lv_icmp_gt (tgt := 168) hx hb dX7_readRun_157 (by decide) (fun c_21 => ?_) (fun c_21 => ?_)
    · replace hf := hf.1 c_21
      exact jt_Reader_readRun_168 hw_t_text F hr hlk hA _ _ _ _ _ _ _ hf hB (lv_sub hl [1, 2, 0] rfl)
    · replace hf := hf.2 c_21
      refine lv_aload_n hx hb dX7_readRun_160 rfl (lv_at hl 1 rfl) ?_
      refine lv_iconst (v := 1) hx hb dX7_readRun_161 (by decide) ?_
      refine g_puti F hB 0 rfl fl_RX7_40 rfl (wd_Reader_readRun k a_t w_t (upd i_t 4 (1 : Int32)) j_t a_t_text r_t_text) rfl dX7_readRun_162 (fun H locs hB => ?_)
      refine lv_goto (tgt := 187) hx hb dX7_readRun_165 (by decide) ?_
      exact r_v F hr hlk hB ⟨_, _, rfl, hf⟩ dX7_readRun_187

set_option maxRecDepth 100000 in
set_option maxHeartbeats 4000000 in
theorem c_Reader_readRun (l : Launch) (D : va_G) (k : Nat → ClassId) (a_t : Nat) (w_t : Nat → Value) (i_t : Nat → Int32) (j_t : Nat → Int64) (a_t_text : Nat) (r_t_text : Nat → Int32)  (Q : (Nat → Int32) → (Nat → Int64) → Prop) (hw_t_text : w_t 0 = .ref a_t_text) (hf : w_Reader_readRun i_t j_t r_t_text Q) : CtV l yX7_readRun cX7_readRun 3 none 1 20 0 0 D k [.ref a_t] (wd_Reader_readRun k a_t w_t i_t j_t a_t_text r_t_text) (fun w => ∃ (i_t : Nat → Int32), ∃ (j_t : Nat → Int64), w = (wd_Reader_readRun k a_t w_t i_t j_t a_t_text r_t_text) ∧ Q i_t j_t) := by
  refine CtV.of (by decide) (Nat.le_of_ble_eq_true rfl) ?_
  intro p e s m below meth c A F hr hlk hnm hA hB ls hl
  have hx := F.x
  have hb := F.b
  unfold w_Reader_readRun at hf
  replace hl : lv_has ls 3 [(0, .ref a_t)] := hl
  refine lv_aload_n hx hb dX7_readRun_0 rfl (lv_at hl 0 rfl) ?_
  refine lv_lconst (v := 0) hx hb dX7_readRun_1 (by decide) ?_
  refine g_putj F hB 0 rfl fl_RX7_53 rfl (wd_Reader_readRun k a_t w_t i_t (vp_updL j_t 7 (0 : Int64)) a_t_text r_t_text) rfl dX7_readRun_2 (fun H locs hB => ?_)
  refine lv_aload_n hx hb dX7_readRun_5 rfl (lv_at hl 0 rfl) ?_
  refine lv_iconst (v := 0) hx hb dX7_readRun_6 (by decide) ?_
  refine g_puti F hB 0 rfl fl_RX7_57 rfl (wd_Reader_readRun k a_t w_t (upd i_t 6 (0 : Int32)) (vp_updL j_t 7 (0 : Int64)) a_t_text r_t_text) rfl dX7_readRun_7 (fun H locs hB => ?_)
  refine lv_iconst (v := 0) hx hb dX7_readRun_10 (by decide) ?_
  refine lv_istore_n (lv' := [(1, .int (0 : Int32)), (0, .ref a_t)]) hx hb dX7_readRun_11 rfl hl (by decide) rfl (fun ls hl => ?_)
  obtain ⟨n_23, hf⟩ := hf
  refine lt_Reader_readRun_12 hw_t_text F hr hlk hA (fun x1_16 i_t_17 j_t_18 H locs ls hf hB hl => ?_) n_23 _ _ _ _ _ _ hf hB (lv_sub hl [1, 0] rfl)
  exact jt_Reader_readRun_140 hw_t_text F hr hlk hA _ _ _ _ _ _ hf hB (lv_sub hl [0, 1] rfl)

/-! LongTrain.Reader.advance -/
set_option maxRecDepth 100000 in
set_option maxHeartbeats 4000000 in
theorem bt_Reader_advance_12 {p : Program} {l : Launch} {e : Env} {s : State} {m : MethodId} {below : List Frame} {meth : Method} {c : Code} {A : Nat → Prop} {D : va_G} {k : Nat → ClassId} {a_t : Nat} {w_t : Nat → Value} {j_t : Nat → Int64} {a_t_text : Nat} {r_t_text : Nat → Int32}  {Q : (Nat → Int32) → (Nat → Int64) → Prop} (hw_t_text : w_t 0 = .ref a_t_text) {x1 : Int32} {kx_12 : (Nat → Int32) → Prop} {kr_12 : (Nat → Int32) → Prop} (F : Fx p m c cX7_advance 3 s ([.ref a_t] : List Value).toArray RX7 D k) (hr : meth.sig.returnType = none) (hlk : meth.locks = false) (hA : ∀ q : Nat, s.heap.size ≤ q → A q) (hkx_12 : ∀ (i_t : Nat → Int32) (H : Heap) (locs : List Loc) (ls : Array Slot), kx_12 i_t → Bd D A s.heap (wd_Reader_advance k a_t w_t i_t j_t a_t_text r_t_text) H locs → lv_has ls 3 [(0, .ref a_t), (1, .int x1)] → W p l e { frames := 2, cells := 0, slots := 0, locals := 42 } s m ([.ref a_t] : List Value).toArray below meth c H locs 0 0 (Ev below (fun w => ∃ (i_t : Nat → Int32), ∃ (j_t : Nat → Int64), w = (wd_Reader_advance k a_t w_t i_t j_t a_t_text r_t_text) ∧ Q i_t j_t) D k A ([.ref a_t] : List Value).toArray s 0 0) (F0 m 61 ls [])) (hkr_12 : ∀ (i_t : Nat → Int32) (H : Heap) (locs : List Loc) (ls : Array Slot), kr_12 i_t → Bd D A s.heap (wd_Reader_advance k a_t w_t i_t j_t a_t_text r_t_text) H locs → lv_has ls 3 [(0, .ref a_t), (1, .int x1)] → W p l e { frames := 2, cells := 0, slots := 0, locals := 42 } s m ([.ref a_t] : List Value).toArray below meth c H locs 0 0 (Ev below (fun w => ∃ (i_t : Nat → Int32), ∃ (j_t : Nat → Int64), w = (wd_Reader_advance k a_t w_t i_t j_t a_t_text r_t_text) ∧ Q i_t j_t) D k A ([.ref a_t] : List Value).toArray s 0 0) (F0 m 12 ls [])) :
    ∀ (i_t : Nat → Int32) (H : Heap) (locs : List Loc) (ls : Array Slot), b_Reader_advance_12 r_t_text x1 kx_12 kr_12 i_t → Bd D A s.heap (wd_Reader_advance k a_t w_t i_t j_t a_t_text r_t_text) H locs → lv_has ls 3 [(0, .ref a_t), (1, .int x1)] → W p l e { frames := 2, cells := 0, slots := 0, locals := 42 } s m ([.ref a_t] : List Value).toArray below meth c H locs 0 0 (Ev below (fun w => ∃ (i_t : Nat → Int32), ∃ (j_t : Nat → Int64), w = (wd_Reader_advance k a_t w_t i_t j_t a_t_text r_t_text) ∧ Q i_t j_t) D k A ([.ref a_t] : List Value).toArray s 0 0) (F0 m 12 ls []) := by
  have hx := F.x
  have hb := F.b
  intro i_t H locs ls hf hB hl
  unfold b_Reader_advance_12 at hf
  refine lv_aload_n hx hb dX7_advance_12 rfl (lv_at hl 0 rfl) ?_
  refine g_get (w := .int (i_t 3)) F hB 0 rfl fl_RX7_28 rfl dX7_advance_13 ?_
  refine lv_iload_n hx hb dX7_advance_16 rfl (lv_at hl 1 rfl) ?_
  refine lv_icmp_ge (tgt := 61) hx hb dX7_advance_17 (by decide) (fun c_5 => ?_) (fun c_5 => ?_)
  · replace hf := hf.1 c_5
    exact hkx_12 _ _ _ _ hf hB (lv_sub hl [0, 1] rfl)
  · replace hf := hf.2 c_5
    refine lv_aload_n hx hb dX7_advance_20 rfl (lv_at hl 0 rfl) ?_
    refine g_get (w := .ref a_t_text) F hB 0 rfl fl_RX7_9 hw_t_text dX7_advance_21 ?_
    refine lv_aload_n hx hb dX7_advance_24 rfl (lv_at hl 0 rfl) ?_
    refine g_get (w := .int (i_t 3)) F hB 0 rfl fl_RX7_28 rfl dX7_advance_25 ?_
    obtain ⟨h_1, hf⟩ := hf
    refine g_iald F hB 1 rfl h_1 dX7_advance_28 ?_
    refine lv_bipush (v := 32) hx hb dX7_advance_29 (by decide) ?_
    refine lv_icmp_eq (tgt := 48) hx hb dX7_advance_31 (by decide) (fun c_4 => ?_) (fun c_4 => ?_)
    · replace hf := hf.1 c_4
      refine lv_aload_n hx hb dX7_advance_48 rfl (lv_at hl 0 rfl) ?_
      refine lv_dup hx hb dX7_advance_49 rfl ?_
      refine g_get (w := .int (i_t 3)) F hB 0 rfl fl_RX7_28 rfl dX7_advance_50 ?_
      refine lv_iconst (v := 1) hx hb dX7_advance_53 (by decide) ?_
      refine lv_iadd hx hb dX7_advance_54 ?_
      refine g_puti F hB 0 rfl fl_RX7_28 rfl (wd_Reader_advance k a_t w_t (upd i_t 3 ((i_t 3) + (1 : Int32))) j_t a_t_text r_t_text) rfl dX7_advance_55 (fun H locs hB => ?_)
      refine lv_goto (tgt := 12) hx hb dX7_advance_58 (by decide) ?_
      exact hkr_12 _ _ _ _ hf hB (lv_sub hl [0, 1] rfl)
    · replace hf := hf.2 c_4
      refine lv_aload_n hx hb dX7_advance_34 rfl (lv_at hl 0 rfl) ?_
      refine g_get (w := .ref a_t_text) F hB 0 rfl fl_RX7_9 hw_t_text dX7_advance_35 ?_
      refine lv_aload_n hx hb dX7_advance_38 rfl (lv_at hl 0 rfl) ?_
      refine g_get (w := .int (i_t 3)) F hB 0 rfl fl_RX7_28 rfl dX7_advance_39 ?_
      obtain ⟨h_2, hf⟩ := hf
      refine g_iald F hB 1 rfl h_2 dX7_advance_42 ?_
      refine lv_bipush (v := 10) hx hb dX7_advance_43 (by decide) ?_
      refine lv_icmp_ne (tgt := 61) hx hb dX7_advance_45 (by decide) (fun c_3 => ?_) (fun c_3 => ?_)
      · replace hf := hf.1 c_3
        exact hkx_12 _ _ _ _ hf hB (lv_sub hl [0, 1] rfl)
      · replace hf := hf.2 c_3
        refine lv_aload_n hx hb dX7_advance_48 rfl (lv_at hl 0 rfl) ?_
        refine lv_dup hx hb dX7_advance_49 rfl ?_
        refine g_get (w := .int (i_t 3)) F hB 0 rfl fl_RX7_28 rfl dX7_advance_50 ?_
        refine lv_iconst (v := 1) hx hb dX7_advance_53 (by decide) ?_
        refine lv_iadd hx hb dX7_advance_54 ?_
        refine g_puti F hB 0 rfl fl_RX7_28 rfl (wd_Reader_advance k a_t w_t (upd i_t 3 ((i_t 3) + (1 : Int32))) j_t a_t_text r_t_text) rfl dX7_advance_55 (fun H locs hB => ?_)
        refine lv_goto (tgt := 12) hx hb dX7_advance_58 (by decide) ?_
        exact hkr_12 _ _ _ _ hf hB (lv_sub hl [0, 1] rfl)

set_option maxRecDepth 100000 in
set_option maxHeartbeats 4000000 in
theorem lt_Reader_advance_12 {p : Program} {l : Launch} {e : Env} {s : State} {m : MethodId} {below : List Frame} {meth : Method} {c : Code} {A : Nat → Prop} {D : va_G} {k : Nat → ClassId} {a_t : Nat} {w_t : Nat → Value} {j_t : Nat → Int64} {a_t_text : Nat} {r_t_text : Nat → Int32}  {Q : (Nat → Int32) → (Nat → Int64) → Prop} (hw_t_text : w_t 0 = .ref a_t_text) {x1 : Int32} {kx_12 : (Nat → Int32) → Prop} (F : Fx p m c cX7_advance 3 s ([.ref a_t] : List Value).toArray RX7 D k) (hr : meth.sig.returnType = none) (hlk : meth.locks = false) (hA : ∀ q : Nat, s.heap.size ≤ q → A q) (hkx_12 : ∀ (i_t : Nat → Int32) (H : Heap) (locs : List Loc) (ls : Array Slot), kx_12 i_t → Bd D A s.heap (wd_Reader_advance k a_t w_t i_t j_t a_t_text r_t_text) H locs → lv_has ls 3 [(0, .ref a_t), (1, .int x1)] → W p l e { frames := 2, cells := 0, slots := 0, locals := 42 } s m ([.ref a_t] : List Value).toArray below meth c H locs 0 0 (Ev below (fun w => ∃ (i_t : Nat → Int32), ∃ (j_t : Nat → Int64), w = (wd_Reader_advance k a_t w_t i_t j_t a_t_text r_t_text) ∧ Q i_t j_t) D k A ([.ref a_t] : List Value).toArray s 0 0) (F0 m 61 ls [])) :
    ∀ n : Nat, ∀ (i_t : Nat → Int32) (H : Heap) (locs : List Loc) (ls : Array Slot), lp_Reader_advance_12 r_t_text x1 kx_12 n i_t → Bd D A s.heap (wd_Reader_advance k a_t w_t i_t j_t a_t_text r_t_text) H locs → lv_has ls 3 [(0, .ref a_t), (1, .int x1)] → W p l e { frames := 2, cells := 0, slots := 0, locals := 42 } s m ([.ref a_t] : List Value).toArray below meth c H locs 0 0 (Ev below (fun w => ∃ (i_t : Nat → Int32), ∃ (j_t : Nat → Int64), w = (wd_Reader_advance k a_t w_t i_t j_t a_t_text r_t_text) ∧ Q i_t j_t) D k A ([.ref a_t] : List Value).toArray s 0 0) (F0 m 12 ls []) := by
  intro n
  induction n with
  | zero => intro i_t H locs ls hf; exact absurd hf (fun h => h)
  | succ n ih => exact bt_Reader_advance_12 hw_t_text F hr hlk hA hkx_12 ih

set_option maxRecDepth 100000 in
set_option maxHeartbeats 4000000 in
theorem jt_Reader_advance_61 {p : Program} {l : Launch} {e : Env} {s : State} {m : MethodId} {below : List Frame} {meth : Method} {c : Code} {A : Nat → Prop} {D : va_G} {k : Nat → ClassId} {a_t : Nat} {w_t : Nat → Value} {a_t_text : Nat} {r_t_text : Nat → Int32}  {Q : (Nat → Int32) → (Nat → Int64) → Prop} (hw_t_text : w_t 0 = .ref a_t_text) (F : Fx p m c cX7_advance 3 s ([.ref a_t] : List Value).toArray RX7 D k) (hr : meth.sig.returnType = none) (hlk : meth.locks = false) (hA : ∀ q : Nat, s.heap.size ≤ q → A q) :
    ∀ (i_t : Nat → Int32) (j_t : Nat → Int64) (x1 : Int32) (H : Heap) (locs : List Loc) (ls : Array Slot), j_Reader_advance_61 i_t j_t r_t_text x1 Q → Bd D A s.heap (wd_Reader_advance k a_t w_t i_t j_t a_t_text r_t_text) H locs → lv_has ls 3 [(0, .ref a_t), (1, .int x1)] → W p l e { frames := 2, cells := 0, slots := 0, locals := 42 } s m ([.ref a_t] : List Value).toArray below meth c H locs 0 0 (Ev below (fun w => ∃ (i_t : Nat → Int32), ∃ (j_t : Nat → Int64), w = (wd_Reader_advance k a_t w_t i_t j_t a_t_text r_t_text) ∧ Q i_t j_t) D k A ([.ref a_t] : List Value).toArray s 0 0) (F0 m 61 ls []) := by
  have hx := F.x
  have hb := F.b
  intro i_t j_t x1 H locs ls hf hB hl
  unfold j_Reader_advance_61 at hf
  refine lv_aload_n hx hb dX7_advance_61 rfl (lv_at hl 0 rfl) ?_
  refine g_get (w := .int (i_t 3)) F hB 0 rfl fl_RX7_28 rfl dX7_advance_62 ?_
  refine lv_iload_n hx hb dX7_advance_65 rfl (lv_at hl 1 rfl) ?_
  refine lv_icmp_lt (tgt := 80) hx hb dX7_advance_66 (by decide) (fun c_20 => ?_) (fun c_20 => ?_)
  · replace hf := hf.1 c_20
    refine lv_aload_n hx hb dX7_advance_80 rfl (lv_at hl 0 rfl) ?_
    refine lv_aload_n hx hb dX7_advance_81 rfl (lv_at hl 0 rfl) ?_
    refine g_get (w := .int (i_t 3)) F hB 0 rfl fl_RX7_28 rfl dX7_advance_82 ?_
    refine g_puti F hB 0 rfl fl_RX7_37 rfl (wd_Reader_advance k a_t w_t (upd i_t 5 (i_t 3)) j_t a_t_text r_t_text) rfl dX7_advance_85 (fun H locs hB => ?_)
    refine lv_aload_n hx hb dX7_advance_88 rfl (lv_at hl 0 rfl) ?_
    refine g_get (w := .ref a_t_text) F hB 0 rfl fl_RX7_9 hw_t_text dX7_advance_89 ?_
    refine lv_aload_n hx hb dX7_advance_92 rfl (lv_at hl 0 rfl) ?_
    refine g_get (w := .int ((upd i_t 5 (i_t 3)) 3)) F hB 0 rfl fl_RX7_28 rfl dX7_advance_93 ?_
    obtain ⟨h_7, hf⟩ := hf
    refine g_iald F hB 1 rfl h_7 dX7_advance_96 ?_
    refine lv_istore_n (lv' := [(2, .int (r_t_text (((upd i_t 5 (i_t 3)) 3)).toNatClampNeg)), (0, .ref a_t), (1, .int x1)]) hx hb dX7_advance_97 rfl hl (by decide) rfl (fun ls hl => ?_)
    refine lv_iload_n hx hb dX7_advance_98 rfl (lv_at hl 0 rfl) ?_
    refine k_si (wr := [(a_t, ob 7 (vmx 7 d0 w_t) (upd i_t 5 (i_t 3)) j_t), (a_t_text, ai k 940 r_t_text)]) (rest := []) F hA hB (c_Reader_isLetter l D k (r_t_text (((upd i_t 5 (i_t 3)) 3)).toNatClampNeg) _  hf) ml_RX7_43 ms_yX7_isLetter [] [0, 1] rfl rfl (by decide) (by decide) (by decide) rfl hl.1 rfl (Nat.le_of_ble_eq_true rfl) ⟨Nat.le_of_ble_eq_true rfl, Nat.le_of_ble_eq_true rfl⟩ ⟨Nat.le_of_ble_eq_true rfl, Nat.le_of_ble_eq_true rfl⟩ dX7_advance_99 (fun z_8 w1 H locs hq hB => ?_)
    obtain ⟨h_9, rfl, hf⟩ := hq
    replace hB : Bd D A s.heap (wd_Reader_advance k a_t w_t (upd i_t 5 (i_t 3)) j_t a_t_text r_t_text) H locs := hB.sub [0, 1] (by decide) rfl
    refine lv_if_ne (tgt := 112) hx hb dX7_advance_102 (by decide) (fun c_19 => ?_) (fun c_19 => ?_)
    · replace hf := hf.1 c_19
      refine lv_aload_n hx hb dX7_advance_112 rfl (lv_at hl 1 rfl) ?_
      refine k_vv (wr := []) (rest := []) F hA hB (c_Reader_readRun l D k a_t w_t (upd i_t 5 (i_t 3)) j_t a_t_text r_t_text _ hw_t_text hf) ml_RX7_50 mv_yX7_readRun [0, 1] [] rfl rfl (by decide) (by decide) (by decide) 0 rfl rfl rfl hl.1 rfl (Nat.le_of_ble_eq_true rfl) ⟨Nat.le_of_ble_eq_true rfl, Nat.le_of_ble_eq_true rfl⟩ ⟨Nat.le_of_ble_eq_true rfl, Nat.le_of_ble_eq_true rfl⟩ dX7_advance_113 (fun w1 H locs hq hB => ?_)
      obtain ⟨i_t_10, j_t_11, rfl, hf⟩ := hq
      replace hB : Bd D A s.heap (wd_Reader_advance k a_t w_t i_t_10 j_t_11 a_t_text r_t_text) H locs := hB.sub [0, 1] (by decide) rfl
      exact r_v F hr hlk hB ⟨_, _, rfl, hf⟩ dX7_advance_116
    · replace hf := hf.2 c_19
      refine lv_iload_n hx hb dX7_advance_105 rfl (lv_at hl 0 rfl) ?_
      refine k_si (wr := [(a_t, ob 7 (vmx 7 d0 w_t) (upd i_t 5 (i_t 3)) j_t), (a_t_text, ai k 940 r_t_text)]) (rest := []) F hA hB (c_Reader_isDigit l D k (r_t_text (((upd i_t 5 (i_t 3)) 3)).toNatClampNeg) _  hf) ml_RX7_47 ms_yX7_isDigit [] [0, 1] rfl rfl (by decide) (by decide) (by decide) rfl hl.1 rfl (Nat.le_of_ble_eq_true rfl) ⟨Nat.le_of_ble_eq_true rfl, Nat.le_of_ble_eq_true rfl⟩ ⟨Nat.le_of_ble_eq_true rfl, Nat.le_of_ble_eq_true rfl⟩ dX7_advance_106 (fun z_12 w1 H locs hq hB => ?_)
      obtain ⟨h_13, rfl, hf⟩ := hq
      replace hB : Bd D A s.heap (wd_Reader_advance k a_t w_t (upd i_t 5 (i_t 3)) j_t a_t_text r_t_text) H locs := hB.sub [0, 1] (by decide) rfl
      refine lv_if_eq (tgt := 117) hx hb dX7_advance_109 (by decide) (fun c_18 => ?_) (fun c_18 => ?_)
      · replace hf := hf.1 c_18
        refine lv_aload_n hx hb dX7_advance_117 rfl (lv_at hl 1 rfl) ?_
        refine lv_dup hx hb dX7_advance_118 rfl ?_
        refine g_get (w := .int ((upd i_t 5 (i_t 3)) 3)) F hB 0 rfl fl_RX7_28 rfl dX7_advance_119 ?_
        refine lv_iconst (v := 1) hx hb dX7_advance_122 (by decide) ?_
        refine lv_iadd hx hb dX7_advance_123 ?_
        refine g_puti F hB 0 rfl fl_RX7_28 rfl (wd_Reader_advance k a_t w_t (upd (upd i_t 5 (i_t 3)) 3 (((upd i_t 5 (i_t 3)) 3) + (1 : Int32))) j_t a_t_text r_t_text) rfl dX7_advance_124 (fun H locs hB => ?_)
        refine lv_aload_n hx hb dX7_advance_127 rfl (lv_at hl 1 rfl) ?_
        refine lv_iload_n hx hb dX7_advance_128 rfl (lv_at hl 0 rfl) ?_
        refine lv_bipush (v := 59) hx hb dX7_advance_129 (by decide) ?_
        refine lv_icmp_ne (tgt := 138) hx hb dX7_advance_131 (by decide) (fun c_15 => ?_) (fun c_15 => ?_)
        · replace hf := hf.1 c_15
          refine lv_iload_n hx hb dX7_advance_138 rfl (lv_at hl 0 rfl) ?_
          refine lv_bipush (v := 45) hx hb dX7_advance_139 (by decide) ?_
          refine lv_icmp_ne (tgt := 148) hx hb dX7_advance_141 (by decide) (fun c_14 => ?_) (fun c_14 => ?_)
          · replace hf := hf.1 c_14
            refine lv_iconst (v := 0) hx hb dX7_advance_148 (by decide) ?_
            refine g_puti F hB 0 rfl fl_RX7_40 rfl (wd_Reader_advance k a_t w_t (upd (upd (upd i_t 5 (i_t 3)) 3 (((upd i_t 5 (i_t 3)) 3) + (1 : Int32))) 4 (0 : Int32)) j_t a_t_text r_t_text) rfl dX7_advance_149 (fun H locs hB => ?_)
            exact r_v F hr hlk hB ⟨_, _, rfl, hf⟩ dX7_advance_152
          · replace hf := hf.2 c_14
            refine lv_iconst (v := 4) hx hb dX7_advance_144 (by decide) ?_
            refine lv_goto (tgt := 149) hx hb dX7_advance_145 (by decide) ?_
            refine g_puti F hB 0 rfl fl_RX7_40 rfl (wd_Reader_advance k a_t w_t (upd (upd (upd i_t 5 (i_t 3)) 3 (((upd i_t 5 (i_t 3)) 3) + (1 : Int32))) 4 (4 : Int32)) j_t a_t_text r_t_text) rfl dX7_advance_149 (fun H locs hB => ?_)
            exact r_v F hr hlk hB ⟨_, _, rfl, hf⟩ dX7_advance_152
        · replace hf := hf.2 c_15
          refine lv_iconst (v := 3) hx hb dX7_advance_134 (by decide) ?_
          refine lv_goto (tgt := 149) hx hb dX7_advance_135 (by decide) ?_
          refine g_puti F hB 0 rfl fl_RX7_40 rfl (wd_Reader_advance k a_t w_t (upd (upd (upd i_t 5 (i_t 3)) 3 (((upd i_t 5 (i_t 3)) 3) + (1 : Int32))) 4 (3 : Int32)) j_t a_t_text r_t_text) rfl dX7_advance_149 (fun H locs hB => ?_)
          exact r_v F hr hlk hB ⟨_, _, rfl, hf⟩ dX7_advance_152
      · replace hf := hf.2 c_18
        refine lv_aload_n hx hb dX7_advance_112 rfl (lv_at hl 1 rfl) ?_
        refine k_vv (wr := []) (rest := []) F hA hB (c_Reader_readRun l D k a_t w_t (upd i_t 5 (i_t 3)) j_t a_t_text r_t_text _ hw_t_text hf) ml_RX7_50 mv_yX7_readRun [0, 1] [] rfl rfl (by decide) (by decide) (by decide) 0 rfl rfl rfl hl.1 rfl (Nat.le_of_ble_eq_true rfl) ⟨Nat.le_of_ble_eq_true rfl, Nat.le_of_ble_eq_true rfl⟩ ⟨Nat.le_of_ble_eq_true rfl, Nat.le_of_ble_eq_true rfl⟩ dX7_advance_113 (fun w1 H locs hq hB => ?_)
        obtain ⟨i_t_16, j_t_17, rfl, hf⟩ := hq
        replace hB : Bd D A s.heap (wd_Reader_advance k a_t w_t i_t_16 j_t_17 a_t_text r_t_text) H locs := hB.sub [0, 1] (by decide) rfl
        exact r_v F hr hlk hB ⟨_, _, rfl, hf⟩ dX7_advance_116
  · replace hf := hf.2 c_20
    refine lv_aload_n hx hb dX7_advance_69 rfl (lv_at hl 0 rfl) ?_
    refine lv_iload_n hx hb dX7_advance_70 rfl (lv_at hl 1 rfl) ?_
    refine g_puti F hB 0 rfl fl_RX7_37 rfl (wd_Reader_advance k a_t w_t (upd i_t 5 x1) j_t a_t_text r_t_text) rfl dX7_advance_71 (fun H locs hB => ?_)
    refine lv_aload_n hx hb dX7_advance_74 rfl (lv_at hl 0 rfl) ?_
    refine lv_iconst (v := 5) hx hb dX7_advance_75 (by decide) ?_
    refine g_puti F hB 0 rfl fl_RX7_40 rfl (wd_Reader_advance k a_t w_t (upd (upd i_t 5 x1) 4 (5 : Int32)) j_t a_t_text r_t_text) rfl dX7_advance_76 (fun H locs hB => ?_)
    exact r_v F hr hlk hB ⟨_, _, rfl, hf⟩ dX7_advance_79

set_option maxRecDepth 100000 in
set_option maxHeartbeats 4000000 in
theorem c_Reader_advance (l : Launch) (D : va_G) (k : Nat → ClassId) (a_t : Nat) (w_t : Nat → Value) (i_t : Nat → Int32) (j_t : Nat → Int64) (a_t_text : Nat) (r_t_text : Nat → Int32)  (Q : (Nat → Int32) → (Nat → Int64) → Prop) (hw_t_text : w_t 0 = .ref a_t_text) (hf : w_Reader_advance i_t j_t r_t_text Q) : CtV l yX7_advance cX7_advance 3 none 2 42 0 0 D k [.ref a_t] (wd_Reader_advance k a_t w_t i_t j_t a_t_text r_t_text) (fun w => ∃ (i_t : Nat → Int32), ∃ (j_t : Nat → Int64), w = (wd_Reader_advance k a_t w_t i_t j_t a_t_text r_t_text) ∧ Q i_t j_t) := by
  refine CtV.of (by decide) (Nat.le_of_ble_eq_true rfl) ?_
  intro p e s m below meth c A F hr hlk hnm hA hB ls hl
  have hx := F.x
  have hb := F.b
  unfold w_Reader_advance at hf
  replace hl : lv_has ls 3 [(0, .ref a_t)] := hl
  refine lv_aload_n hx hb dX7_advance_0 rfl (lv_at hl 0 rfl) ?_
  refine g_get (w := .int (i_t 1)) F hB 0 rfl fl_RX7_21 rfl dX7_advance_1 ?_
  refine lv_aload_n hx hb dX7_advance_4 rfl (lv_at hl 0 rfl) ?_
  refine g_get (w := .int (i_t 2)) F hB 0 rfl fl_RX7_25 rfl dX7_advance_5 ?_
  refine k_min F ml_RX7_15 hl.1 (by decide) (Nat.le_of_ble_eq_true rfl) (Nat.zero_le _) (Nat.zero_le _) dX7_advance_8 ?_
  refine lv_istore_n (lv' := [(1, .int (jmin (i_t 1) (i_t 2))), (0, .ref a_t)]) hx hb dX7_advance_11 rfl hl (by decide) rfl (fun ls hl => ?_)
  obtain ⟨n_21, hf⟩ := hf
  refine lt_Reader_advance_12 hw_t_text F hr hlk hA (fun i_t_6 H locs ls hf hB hl => ?_) n_21 _ _ _ _ hf hB (lv_sub hl [1, 0] rfl)
  exact jt_Reader_advance_61 hw_t_text F hr hlk hA _ _ _ _ _ _ hf hB (lv_sub hl [0, 1] rfl)

/-! LongTrain.Reader.isAtEnd -/
set_option maxRecDepth 100000 in
set_option maxHeartbeats 4000000 in
theorem c_Reader_isAtEnd (l : Launch) (D : va_G) (k : Nat → ClassId) (a_t : Nat) (w_t : Nat → Value) (i_t : Nat → Int32) (j_t : Nat → Int64)  (Q : Int32 → (Nat → Int32) → Prop)  (hf : w_Reader_isAtEnd i_t Q) : CtI l yX7_isAtEnd cX7_isAtEnd 1 (some .boolean) 1 22 0 0 D k [.ref a_t] (wd_Reader_isAtEnd k a_t w_t i_t j_t) (fun r w => (r = 0 ∨ r = 1) ∧ (∃ (i_t : Nat → Int32), w = (wd_Reader_isAtEnd k a_t w_t i_t j_t) ∧ Q r i_t)) := by
  refine CtI.of (by decide) (Nat.le_of_ble_eq_true rfl) ?_
  intro p e s m below meth c A F hr hlk hnm hA hB ls hl
  have hx := F.x
  have hb := F.b
  unfold w_Reader_isAtEnd at hf
  replace hl : lv_has ls 1 [(0, .ref a_t)] := hl
  refine lv_aload_n hx hb dX7_isAtEnd_0 rfl (lv_at hl 0 rfl) ?_
  refine g_get (w := .int (i_t 4)) F hB 0 rfl fl_RX7_40 rfl dX7_isAtEnd_1 ?_
  refine lv_iconst (v := 5) hx hb dX7_isAtEnd_4 (by decide) ?_
  refine lv_icmp_eq (tgt := 10) hx hb dX7_isAtEnd_5 (by decide) (fun c_5 => ?_) (fun c_5 => ?_)
  · replace hf := hf.1 c_5
    refine lv_aload_n hx hb dX7_isAtEnd_10 rfl (lv_at hl 0 rfl) ?_
    refine g_get (w := .int (i_t 1)) F hB 0 rfl fl_RX7_21 rfl dX7_isAtEnd_11 ?_
    refine lv_aload_n hx hb dX7_isAtEnd_14 rfl (lv_at hl 0 rfl) ?_
    refine g_get (w := .int (i_t 2)) F hB 0 rfl fl_RX7_25 rfl dX7_isAtEnd_15 ?_
    refine lv_icmp_le (tgt := 31) hx hb dX7_isAtEnd_18 (by decide) (fun c_4 => ?_) (fun c_4 => ?_)
    · replace hf := hf.1 c_4
      refine lv_iconst (v := 1) hx hb dX7_isAtEnd_31 (by decide) ?_
      exact r_z F hr hlk hB (Or.inr rfl) ⟨Or.inr rfl, _, rfl, hf⟩ dX7_isAtEnd_32
    · replace hf := hf.2 c_4
      refine lv_aload_n hx hb dX7_isAtEnd_21 rfl (lv_at hl 0 rfl) ?_
      refine lv_iconst (v := 1) hx hb dX7_isAtEnd_22 (by decide) ?_
      refine lv_aload_n hx hb dX7_isAtEnd_23 rfl (lv_at hl 0 rfl) ?_
      refine g_get (w := .int (i_t 2)) F hB 0 rfl fl_RX7_25 rfl dX7_isAtEnd_24 ?_
      refine k_vi (wr := []) (rest := []) F hA hB (c_Reader_fail l D k a_t w_t i_t j_t (1 : Int32) (i_t 2) _  hf) ml_RX7_64 mv_yX7_fail [0] [] rfl rfl (by decide) (by decide) (by decide) 0 rfl rfl rfl hl.1 rfl (Nat.le_of_ble_eq_true rfl) ⟨Nat.le_of_ble_eq_true rfl, Nat.le_of_ble_eq_true rfl⟩ ⟨Nat.le_of_ble_eq_true rfl, Nat.le_of_ble_eq_true rfl⟩ dX7_isAtEnd_27 (fun z_2 w1 H locs hq hB => ?_)
      obtain ⟨h_3, i_t_1, rfl, hf⟩ := hq
      replace hB : Bd D A s.heap (wd_Reader_isAtEnd k a_t w_t i_t_1 j_t) H locs := hB.sub [0] (by decide) rfl
      refine lv_pop hx hb dX7_isAtEnd_30 rfl ?_
      refine lv_iconst (v := 1) hx hb dX7_isAtEnd_31 (by decide) ?_
      exact r_z F hr hlk hB (Or.inr rfl) ⟨Or.inr rfl, _, rfl, hf⟩ dX7_isAtEnd_32
  · replace hf := hf.2 c_5
    refine lv_iconst (v := 0) hx hb dX7_isAtEnd_8 (by decide) ?_
    exact r_z F hr hlk hB (Or.inl rfl) ⟨Or.inl rfl, _, rfl, hf⟩ dX7_isAtEnd_9

/-! LongTrain.Reader.failHere -/
set_option maxRecDepth 100000 in
set_option maxHeartbeats 4000000 in
theorem c_Reader_failHere (l : Launch) (D : va_G) (k : Nat → ClassId) (a_t : Nat) (w_t : Nat → Value) (i_t : Nat → Int32) (j_t : Nat → Int64) (n1 : Int32) (Q : Int32 → (Nat → Int32) → Prop)  (hf : w_Reader_failHere i_t n1 Q) : CtI l yX7_failHere cX7_failHere 2 (some .boolean) 1 22 0 0 D k [.ref a_t, .int n1] (wd_Reader_failHere k a_t w_t i_t j_t) (fun r w => (r = 0 ∨ r = 1) ∧ (∃ (i_t : Nat → Int32), w = (wd_Reader_failHere k a_t w_t i_t j_t) ∧ Q r i_t)) := by
  refine CtI.of (by decide) (Nat.le_of_ble_eq_true rfl) ?_
  intro p e s m below meth c A F hr hlk hnm hA hB ls hl
  have hx := F.x
  have hb := F.b
  unfold w_Reader_failHere at hf
  replace hl : lv_has ls 2 [(0, .ref a_t), (1, .int n1)] := hl
  refine lv_aload_n hx hb dX7_failHere_0 rfl (lv_at hl 0 rfl) ?_
  refine lv_iload_n hx hb dX7_failHere_1 rfl (lv_at hl 1 rfl) ?_
  refine lv_aload_n hx hb dX7_failHere_2 rfl (lv_at hl 0 rfl) ?_
  refine g_get (w := .int (i_t 5)) F hB 0 rfl fl_RX7_37 rfl dX7_failHere_3 ?_
  refine k_vi (wr := []) (rest := []) F hA hB (c_Reader_fail l D k a_t w_t i_t j_t n1 (i_t 5) _  hf) ml_RX7_64 mv_yX7_fail [0] [] rfl rfl (by decide) (by decide) (by decide) 0 rfl rfl rfl hl.1 rfl (Nat.le_of_ble_eq_true rfl) ⟨Nat.le_of_ble_eq_true rfl, Nat.le_of_ble_eq_true rfl⟩ ⟨Nat.le_of_ble_eq_true rfl, Nat.le_of_ble_eq_true rfl⟩ dX7_failHere_6 (fun z_2 w1 H locs hq hB => ?_)
  obtain ⟨h_3, i_t_1, rfl, hf⟩ := hq
  replace hB : Bd D A s.heap (wd_Reader_failHere k a_t w_t i_t_1 j_t) H locs := hB.sub [0] (by decide) rfl
  exact r_z F hr hlk hB (h_3) ⟨h_3, _, rfl, hf⟩ dX7_failHere_9

/-! LongTrain.Reader.isNumber -/
set_option maxRecDepth 100000 in
set_option maxHeartbeats 4000000 in
theorem c_Reader_isNumber (l : Launch) (D : va_G) (k : Nat → ClassId) (a_t : Nat) (w_t : Nat → Value) (i_t : Nat → Int32) (j_t : Nat → Int64) (n1 : Int32) (n2 : Int32) (Q : Int32 → (Nat → Int32) → Prop)  (hf : w_Reader_isNumber i_t n1 n2 Q) : CtI l yX7_isNumber cX7_isNumber 3 (some .boolean) 2 43 0 0 D k [.ref a_t, .int n1, .int n2] (wd_Reader_isNumber k a_t w_t i_t j_t) (fun r w => (r = 0 ∨ r = 1) ∧ (∃ (i_t : Nat → Int32), w = (wd_Reader_isNumber k a_t w_t i_t j_t) ∧ Q r i_t)) := by
  refine CtI.of (by decide) (Nat.le_of_ble_eq_true rfl) ?_
  intro p e s m below meth c A F hr hlk hnm hA hB ls hl
  have hx := F.x
  have hb := F.b
  unfold w_Reader_isNumber at hf
  replace hl : lv_has ls 3 [(0, .ref a_t), (1, .int n1), (2, .int n2)] := hl
  refine lv_aload_n hx hb dX7_isNumber_0 rfl (lv_at hl 0 rfl) ?_
  refine g_get (w := .int (i_t 4)) F hB 0 rfl fl_RX7_40 rfl dX7_isNumber_1 ?_
  refine lv_iconst (v := 2) hx hb dX7_isNumber_4 (by decide) ?_
  refine lv_icmp_eq (tgt := 14) hx hb dX7_isNumber_5 (by decide) (fun c_14 => ?_) (fun c_14 => ?_)
  · replace hf := hf.1 c_14
    refine lv_aload_n hx hb dX7_isNumber_14 rfl (lv_at hl 0 rfl) ?_
    refine g_get (w := .int (i_t 6)) F hB 0 rfl fl_RX7_57 rfl dX7_isNumber_15 ?_
    refine lv_iload_n hx hb dX7_isNumber_18 rfl (lv_at hl 1 rfl) ?_
    refine lv_icmp_lt (tgt := 30) hx hb dX7_isNumber_19 (by decide) (fun c_10 => ?_) (fun c_10 => ?_)
    · replace hf := hf.1 c_10
      refine lv_aload_n hx hb dX7_isNumber_30 rfl (lv_at hl 0 rfl) ?_
      refine lv_iconst (v := 2) hx hb dX7_isNumber_31 (by decide) ?_
      refine k_vi (wr := []) (rest := []) F hA hB (c_Reader_failHere l D k a_t w_t i_t j_t (2 : Int32) _  hf) ml_RX7_79 mv_yX7_failHere [0] [] rfl rfl (by decide) (by decide) (by decide) 0 rfl rfl rfl hl.1 rfl (Nat.le_of_ble_eq_true rfl) ⟨Nat.le_of_ble_eq_true rfl, Nat.le_of_ble_eq_true rfl⟩ ⟨Nat.le_of_ble_eq_true rfl, Nat.le_of_ble_eq_true rfl⟩ dX7_isNumber_32 (fun z_2 w1 H locs hq hB => ?_)
      obtain ⟨h_3, i_t_1, rfl, hf⟩ := hq
      replace hB : Bd D A s.heap (wd_Reader_isNumber k a_t w_t i_t_1 j_t) H locs := hB.sub [0] (by decide) rfl
      refine lv_if_eq (tgt := 42) hx hb dX7_isNumber_35 (by decide) (fun c_4 => ?_) (fun c_4 => ?_)
      · replace hf := hf.1 c_4
        refine lv_iconst (v := 0) hx hb dX7_isNumber_42 (by decide) ?_
        exact r_z F hr hlk hB (Or.inl rfl) ⟨Or.inl rfl, _, rfl, hf⟩ dX7_isNumber_43
      · replace hf := hf.2 c_4
        refine lv_iconst (v := 1) hx hb dX7_isNumber_38 (by decide) ?_
        refine lv_goto (tgt := 43) hx hb dX7_isNumber_39 (by decide) ?_
        exact r_z F hr hlk hB (Or.inr rfl) ⟨Or.inr rfl, _, rfl, hf⟩ dX7_isNumber_43
    · replace hf := hf.2 c_10
      refine lv_aload_n hx hb dX7_isNumber_22 rfl (lv_at hl 0 rfl) ?_
      refine g_get (w := .int (i_t 6)) F hB 0 rfl fl_RX7_57 rfl dX7_isNumber_23 ?_
      refine lv_iload_n hx hb dX7_isNumber_26 rfl (lv_at hl 2 rfl) ?_
      refine lv_icmp_le (tgt := 38) hx hb dX7_isNumber_27 (by decide) (fun c_9 => ?_) (fun c_9 => ?_)
      · replace hf := hf.1 c_9
        refine lv_iconst (v := 1) hx hb dX7_isNumber_38 (by decide) ?_
        refine lv_goto (tgt := 43) hx hb dX7_isNumber_39 (by decide) ?_
        exact r_z F hr hlk hB (Or.inr rfl) ⟨Or.inr rfl, _, rfl, hf⟩ dX7_isNumber_43
      · replace hf := hf.2 c_9
        refine lv_aload_n hx hb dX7_isNumber_30 rfl (lv_at hl 0 rfl) ?_
        refine lv_iconst (v := 2) hx hb dX7_isNumber_31 (by decide) ?_
        refine k_vi (wr := []) (rest := []) F hA hB (c_Reader_failHere l D k a_t w_t i_t j_t (2 : Int32) _  hf) ml_RX7_79 mv_yX7_failHere [0] [] rfl rfl (by decide) (by decide) (by decide) 0 rfl rfl rfl hl.1 rfl (Nat.le_of_ble_eq_true rfl) ⟨Nat.le_of_ble_eq_true rfl, Nat.le_of_ble_eq_true rfl⟩ ⟨Nat.le_of_ble_eq_true rfl, Nat.le_of_ble_eq_true rfl⟩ dX7_isNumber_32 (fun z_6 w1 H locs hq hB => ?_)
        obtain ⟨h_7, i_t_5, rfl, hf⟩ := hq
        replace hB : Bd D A s.heap (wd_Reader_isNumber k a_t w_t i_t_5 j_t) H locs := hB.sub [0] (by decide) rfl
        refine lv_if_eq (tgt := 42) hx hb dX7_isNumber_35 (by decide) (fun c_8 => ?_) (fun c_8 => ?_)
        · replace hf := hf.1 c_8
          refine lv_iconst (v := 0) hx hb dX7_isNumber_42 (by decide) ?_
          exact r_z F hr hlk hB (Or.inl rfl) ⟨Or.inl rfl, _, rfl, hf⟩ dX7_isNumber_43
        · replace hf := hf.2 c_8
          refine lv_iconst (v := 1) hx hb dX7_isNumber_38 (by decide) ?_
          refine lv_goto (tgt := 43) hx hb dX7_isNumber_39 (by decide) ?_
          exact r_z F hr hlk hB (Or.inr rfl) ⟨Or.inr rfl, _, rfl, hf⟩ dX7_isNumber_43
  · replace hf := hf.2 c_14
    refine lv_aload_n hx hb dX7_isNumber_8 rfl (lv_at hl 0 rfl) ?_
    refine lv_iconst (v := 1) hx hb dX7_isNumber_9 (by decide) ?_
    refine k_vi (wr := []) (rest := []) F hA hB (c_Reader_failHere l D k a_t w_t i_t j_t (1 : Int32) _  hf) ml_RX7_79 mv_yX7_failHere [0] [] rfl rfl (by decide) (by decide) (by decide) 0 rfl rfl rfl hl.1 rfl (Nat.le_of_ble_eq_true rfl) ⟨Nat.le_of_ble_eq_true rfl, Nat.le_of_ble_eq_true rfl⟩ ⟨Nat.le_of_ble_eq_true rfl, Nat.le_of_ble_eq_true rfl⟩ dX7_isNumber_10 (fun z_12 w1 H locs hq hB => ?_)
    obtain ⟨h_13, i_t_11, rfl, hf⟩ := hq
    replace hB : Bd D A s.heap (wd_Reader_isNumber k a_t w_t i_t_11 j_t) H locs := hB.sub [0] (by decide) rfl
    exact r_z F hr hlk hB (h_13) ⟨h_13, _, rfl, hf⟩ dX7_isNumber_13

/-! LongTrain.Reader.nextNumber -/
set_option maxRecDepth 100000 in
set_option maxHeartbeats 4000000 in
theorem c_Reader_nextNumber (l : Launch) (D : va_G) (k : Nat → ClassId) (a_t : Nat) (w_t : Nat → Value) (i_t : Nat → Int32) (j_t : Nat → Int64) (a_t_text : Nat) (r_t_text : Nat → Int32) (n1 : Int32) (n2 : Int32) (Q : Int32 → (Nat → Int32) → (Nat → Int64) → Prop) (hw_t_text : w_t 0 = .ref a_t_text) (hf : w_Reader_nextNumber i_t j_t r_t_text n1 n2 Q) : CtI l yX7_nextNumber cX7_nextNumber 3 (some .boolean) 3 65 0 0 D k [.ref a_t, .int n1, .int n2] (wd_Reader_nextNumber k a_t w_t i_t j_t a_t_text r_t_text) (fun r w => (r = 0 ∨ r = 1) ∧ (∃ (i_t : Nat → Int32), ∃ (j_t : Nat → Int64), w = (wd_Reader_nextNumber k a_t w_t i_t j_t a_t_text r_t_text) ∧ Q r i_t j_t)) := by
  refine CtI.of (by decide) (Nat.le_of_ble_eq_true rfl) ?_
  intro p e s m below meth c A F hr hlk hnm hA hB ls hl
  have hx := F.x
  have hb := F.b
  unfold w_Reader_nextNumber at hf
  replace hl : lv_has ls 3 [(0, .ref a_t), (1, .int n1), (2, .int n2)] := hl
  refine lv_aload_n hx hb dX7_nextNumber_0 rfl (lv_at hl 0 rfl) ?_
  refine k_vv (wr := []) (rest := []) F hA hB (c_Reader_advance l D k a_t w_t i_t j_t a_t_text r_t_text _ hw_t_text hf) ml_RX7_82 mv_yX7_advance [0, 1] [] rfl rfl (by decide) (by decide) (by decide) 0 rfl rfl rfl hl.1 rfl (Nat.le_of_ble_eq_true rfl) ⟨Nat.le_of_ble_eq_true rfl, Nat.le_of_ble_eq_true rfl⟩ ⟨Nat.le_of_ble_eq_true rfl, Nat.le_of_ble_eq_true rfl⟩ dX7_nextNumber_1 (fun w1 H locs hq hB => ?_)
  obtain ⟨i_t_1, j_t_2, rfl, hf⟩ := hq
  replace hB : Bd D A s.heap (wd_Reader_nextNumber k a_t w_t i_t_1 j_t_2 a_t_text r_t_text) H locs := hB.sub [0, 1] (by decide) rfl
  refine lv_aload_n hx hb dX7_nextNumber_4 rfl (lv_at hl 0 rfl) ?_
  refine lv_iload_n hx hb dX7_nextNumber_5 rfl (lv_at hl 1 rfl) ?_
  refine lv_iload_n hx hb dX7_nextNumber_6 rfl (lv_at hl 2 rfl) ?_
  refine k_vi (wr := [(a_t_text, ai k 940 r_t_text)]) (rest := []) F hA hB (c_Reader_isNumber l D k a_t w_t i_t_1 j_t_2 n1 n2 _  hf) ml_RX7_85 mv_yX7_isNumber [0] [1] rfl rfl (by decide) (by decide) (by decide) 0 rfl rfl rfl hl.1 rfl (Nat.le_of_ble_eq_true rfl) ⟨Nat.le_of_ble_eq_true rfl, Nat.le_of_ble_eq_true rfl⟩ ⟨Nat.le_of_ble_eq_true rfl, Nat.le_of_ble_eq_true rfl⟩ dX7_nextNumber_7 (fun z_4 w1 H locs hq hB => ?_)
  obtain ⟨h_5, i_t_3, rfl, hf⟩ := hq
  replace hB : Bd D A s.heap (wd_Reader_nextNumber k a_t w_t i_t_3 j_t_2 a_t_text r_t_text) H locs := hB.sub [1, 0] (by decide) rfl
  exact r_z F hr hlk hB (h_5) ⟨h_5, _, _, rfl, hf⟩ dX7_nextNumber_10

/-! LongTrain.Reader.nextCloses -/
set_option maxRecDepth 100000 in
set_option maxHeartbeats 4000000 in
theorem c_Reader_nextCloses (l : Launch) (D : va_G) (k : Nat → ClassId) (a_t : Nat) (w_t : Nat → Value) (i_t : Nat → Int32) (j_t : Nat → Int64) (a_t_text : Nat) (r_t_text : Nat → Int32)  (Q : Int32 → (Nat → Int32) → (Nat → Int64) → Prop) (hw_t_text : w_t 0 = .ref a_t_text) (hf : w_Reader_nextCloses i_t j_t r_t_text Q) : CtI l yX7_nextCloses cX7_nextCloses 1 (some .boolean) 3 64 0 0 D k [.ref a_t] (wd_Reader_nextCloses k a_t w_t i_t j_t a_t_text r_t_text) (fun r w => (r = 0 ∨ r = 1) ∧ (∃ (i_t : Nat → Int32), ∃ (j_t : Nat → Int64), w = (wd_Reader_nextCloses k a_t w_t i_t j_t a_t_text r_t_text) ∧ Q r i_t j_t)) := by
  refine CtI.of (by decide) (Nat.le_of_ble_eq_true rfl) ?_
  intro p e s m below meth c A F hr hlk hnm hA hB ls hl
  have hx := F.x
  have hb := F.b
  unfold w_Reader_nextCloses at hf
  replace hl : lv_has ls 1 [(0, .ref a_t)] := hl
  refine lv_aload_n hx hb dX7_nextCloses_0 rfl (lv_at hl 0 rfl) ?_
  refine k_vv (wr := []) (rest := []) F hA hB (c_Reader_advance l D k a_t w_t i_t j_t a_t_text r_t_text _ hw_t_text hf) ml_RX7_82 mv_yX7_advance [0, 1] [] rfl rfl (by decide) (by decide) (by decide) 0 rfl rfl rfl hl.1 rfl (Nat.le_of_ble_eq_true rfl) ⟨Nat.le_of_ble_eq_true rfl, Nat.le_of_ble_eq_true rfl⟩ ⟨Nat.le_of_ble_eq_true rfl, Nat.le_of_ble_eq_true rfl⟩ dX7_nextCloses_1 (fun w1 H locs hq hB => ?_)
  obtain ⟨i_t_1, j_t_2, rfl, hf⟩ := hq
  replace hB : Bd D A s.heap (wd_Reader_nextCloses k a_t w_t i_t_1 j_t_2 a_t_text r_t_text) H locs := hB.sub [0, 1] (by decide) rfl
  refine lv_aload_n hx hb dX7_nextCloses_4 rfl (lv_at hl 0 rfl) ?_
  refine g_get (w := .int (i_t_1 4)) F hB 0 rfl fl_RX7_40 rfl dX7_nextCloses_5 ?_
  refine lv_iconst (v := 3) hx hb dX7_nextCloses_8 (by decide) ?_
  refine lv_icmp_eq (tgt := 20) hx hb dX7_nextCloses_9 (by decide) (fun c_7 => ?_) (fun c_7 => ?_)
  · replace hf := hf.1 c_7
    refine lv_iconst (v := 1) hx hb dX7_nextCloses_20 (by decide) ?_
    refine lv_goto (tgt := 25) hx hb dX7_nextCloses_21 (by decide) ?_
    exact r_z F hr hlk hB (Or.inr rfl) ⟨Or.inr rfl, _, _, rfl, hf⟩ dX7_nextCloses_25
  · replace hf := hf.2 c_7
    refine lv_aload_n hx hb dX7_nextCloses_12 rfl (lv_at hl 0 rfl) ?_
    refine lv_iconst (v := 1) hx hb dX7_nextCloses_13 (by decide) ?_
    refine k_vi (wr := [(a_t_text, ai k 940 r_t_text)]) (rest := []) F hA hB (c_Reader_failHere l D k a_t w_t i_t_1 j_t_2 (1 : Int32) _  hf) ml_RX7_79 mv_yX7_failHere [0] [1] rfl rfl (by decide) (by decide) (by decide) 0 rfl rfl rfl hl.1 rfl (Nat.le_of_ble_eq_true rfl) ⟨Nat.le_of_ble_eq_true rfl, Nat.le_of_ble_eq_true rfl⟩ ⟨Nat.le_of_ble_eq_true rfl, Nat.le_of_ble_eq_true rfl⟩ dX7_nextCloses_14 (fun z_4 w1 H locs hq hB => ?_)
    obtain ⟨h_5, i_t_3, rfl, hf⟩ := hq
    replace hB : Bd D A s.heap (wd_Reader_nextCloses k a_t w_t i_t_3 j_t_2 a_t_text r_t_text) H locs := hB.sub [1, 0] (by decide) rfl
    refine lv_if_eq (tgt := 24) hx hb dX7_nextCloses_17 (by decide) (fun c_6 => ?_) (fun c_6 => ?_)
    · replace hf := hf.1 c_6
      refine lv_iconst (v := 0) hx hb dX7_nextCloses_24 (by decide) ?_
      exact r_z F hr hlk hB (Or.inl rfl) ⟨Or.inl rfl, _, _, rfl, hf⟩ dX7_nextCloses_25
    · replace hf := hf.2 c_6
      refine lv_iconst (v := 1) hx hb dX7_nextCloses_20 (by decide) ?_
      refine lv_goto (tgt := 25) hx hb dX7_nextCloses_21 (by decide) ?_
      exact r_z F hr hlk hB (Or.inr rfl) ⟨Or.inr rfl, _, _, rfl, hf⟩ dX7_nextCloses_25

/-! LongTrain.LineReader.indexOf -/
set_option maxRecDepth 100000 in
set_option maxHeartbeats 4000000 in
theorem bt_LineReader_indexOf_3 {p : Program} {l : Launch} {e : Env} {s : State} {m : MethodId} {below : List Frame} {meth : Method} {c : Code} {A : Nat → Prop} {D : va_G} {k : Nat → ClassId} {a_p2 : Nat} {N_p2 : Nat} {r_p2 : Nat → Int64} {n0 : Int64} {n3 : Int32} {Q : Int32 → Prop}  {x0 : Int64} {x3 : Int32} {kx_3 : Prop} {kr_3 : (Int32) → Prop} (F : Fx p m c cX4_indexOf 5 s ([.long n0, .ref a_p2, .int n3] : List Value).toArray RX4 D k) (hr : meth.sig.returnType = (some .int)) (hlk : meth.locks = false) (hA : ∀ q : Nat, s.heap.size ≤ q → A q) (hkx_3 : ∀ (H : Heap) (locs : List Loc) (ls : Array Slot), kx_3 → Bd D A s.heap (wd_LineReader_indexOf k a_p2 N_p2 r_p2) H locs → lv_has ls 5 [] → W p l e { frames := 0, cells := 0, slots := 0, locals := 0 } s m ([.long n0, .ref a_p2, .int n3] : List Value).toArray below meth c H locs 0 0 (Ei below (fun r w => w = (wd_LineReader_indexOf k a_p2 N_p2 r_p2) ∧ Q r) D k A ([.long n0, .ref a_p2, .int n3] : List Value).toArray s 0 0) (F0 m 27 ls [])) (hkr_3 : ∀ (x4 : Int32) (H : Heap) (locs : List Loc) (ls : Array Slot), kr_3 x4 → Bd D A s.heap (wd_LineReader_indexOf k a_p2 N_p2 r_p2) H locs → lv_has ls 5 [(0, .long x0), (2, .ref a_p2), (3, .int x3), (4, .int x4)] → W p l e { frames := 0, cells := 0, slots := 0, locals := 0 } s m ([.long n0, .ref a_p2, .int n3] : List Value).toArray below meth c H locs 0 0 (Ei below (fun r w => w = (wd_LineReader_indexOf k a_p2 N_p2 r_p2) ∧ Q r) D k A ([.long n0, .ref a_p2, .int n3] : List Value).toArray s 0 0) (F0 m 3 ls [])) :
    ∀ (x4 : Int32) (H : Heap) (locs : List Loc) (ls : Array Slot), b_LineReader_indexOf_3 N_p2 r_p2 x0 x3 Q kx_3 kr_3 x4 → Bd D A s.heap (wd_LineReader_indexOf k a_p2 N_p2 r_p2) H locs → lv_has ls 5 [(0, .long x0), (2, .ref a_p2), (3, .int x3), (4, .int x4)] → W p l e { frames := 0, cells := 0, slots := 0, locals := 0 } s m ([.long n0, .ref a_p2, .int n3] : List Value).toArray below meth c H locs 0 0 (Ei below (fun r w => w = (wd_LineReader_indexOf k a_p2 N_p2 r_p2) ∧ Q r) D k A ([.long n0, .ref a_p2, .int n3] : List Value).toArray s 0 0) (F0 m 3 ls []) := by
  have hx := F.x
  have hb := F.b
  intro x4 H locs ls hf hB hl
  unfold b_LineReader_indexOf_3 at hf
  refine lv_iload hx hb dX4_indexOf_3 (lv_at hl 3 rfl) ?_
  refine lv_iload_n hx hb dX4_indexOf_5 rfl (lv_at hl 2 rfl) ?_
  refine lv_icmp_ge (tgt := 27) hx hb dX4_indexOf_6 (by decide) (fun c_3 => ?_) (fun c_3 => ?_)
  · replace hf := hf.1 c_3
    exact hkx_3  _ _ _ hf hB (lv_sub hl [] rfl)
  · replace hf := hf.2 c_3
    refine lv_aload_n hx hb dX4_indexOf_9 rfl (lv_at hl 1 rfl) ?_
    refine lv_iload hx hb dX4_indexOf_10 (lv_at hl 3 rfl) ?_
    obtain ⟨h_1, hf⟩ := hf
    refine g_jald F hB 0 rfl h_1 dX4_indexOf_12 ?_
    refine lv_lload_n hx hb dX4_indexOf_13 rfl (lv_at hl 0 rfl) ?_
    refine W.lcmp hx hb dX4_indexOf_14 ?_
    refine lv_if_ne (tgt := 21) hx hb dX4_indexOf_15 (by decide) (fun c_2 => ?_) (fun c_2 => ?_)
    · replace hf := hf.1 c_2
      refine lv_iinc (v := (x4 + 1)) (lv' := [(4, .int (x4 + 1)), (0, .long x0), (2, .ref a_p2), (3, .int x3)]) (k := 3) hx hb dX4_indexOf_21 hl rfl rfl (by decide) rfl (fun ls hl => ?_)
      refine lv_goto (tgt := 3) hx hb dX4_indexOf_24 (by decide) ?_
      exact hkr_3 _ _ _ _ hf hB (lv_sub hl [1, 2, 3, 0] rfl)
    · replace hf := hf.2 c_2
      refine lv_iload hx hb dX4_indexOf_18 (lv_at hl 3 rfl) ?_
      exact r_i F hr hlk hB ⟨rfl, hf⟩ dX4_indexOf_20

set_option maxRecDepth 100000 in
set_option maxHeartbeats 4000000 in
theorem lt_LineReader_indexOf_3 {p : Program} {l : Launch} {e : Env} {s : State} {m : MethodId} {below : List Frame} {meth : Method} {c : Code} {A : Nat → Prop} {D : va_G} {k : Nat → ClassId} {a_p2 : Nat} {N_p2 : Nat} {r_p2 : Nat → Int64} {n0 : Int64} {n3 : Int32} {Q : Int32 → Prop}  {x0 : Int64} {x3 : Int32} {kx_3 : Prop} (F : Fx p m c cX4_indexOf 5 s ([.long n0, .ref a_p2, .int n3] : List Value).toArray RX4 D k) (hr : meth.sig.returnType = (some .int)) (hlk : meth.locks = false) (hA : ∀ q : Nat, s.heap.size ≤ q → A q) (hkx_3 : ∀ (H : Heap) (locs : List Loc) (ls : Array Slot), kx_3 → Bd D A s.heap (wd_LineReader_indexOf k a_p2 N_p2 r_p2) H locs → lv_has ls 5 [] → W p l e { frames := 0, cells := 0, slots := 0, locals := 0 } s m ([.long n0, .ref a_p2, .int n3] : List Value).toArray below meth c H locs 0 0 (Ei below (fun r w => w = (wd_LineReader_indexOf k a_p2 N_p2 r_p2) ∧ Q r) D k A ([.long n0, .ref a_p2, .int n3] : List Value).toArray s 0 0) (F0 m 27 ls [])) :
    ∀ n : Nat, ∀ (x4 : Int32) (H : Heap) (locs : List Loc) (ls : Array Slot), lp_LineReader_indexOf_3 N_p2 r_p2 x0 x3 Q kx_3 n x4 → Bd D A s.heap (wd_LineReader_indexOf k a_p2 N_p2 r_p2) H locs → lv_has ls 5 [(0, .long x0), (2, .ref a_p2), (3, .int x3), (4, .int x4)] → W p l e { frames := 0, cells := 0, slots := 0, locals := 0 } s m ([.long n0, .ref a_p2, .int n3] : List Value).toArray below meth c H locs 0 0 (Ei below (fun r w => w = (wd_LineReader_indexOf k a_p2 N_p2 r_p2) ∧ Q r) D k A ([.long n0, .ref a_p2, .int n3] : List Value).toArray s 0 0) (F0 m 3 ls []) := by
  intro n
  induction n with
  | zero => intro x4 H locs ls hf; exact absurd hf (fun h => h)
  | succ n ih => exact bt_LineReader_indexOf_3 F hr hlk hA hkx_3 ih

set_option maxRecDepth 100000 in
set_option maxHeartbeats 4000000 in
theorem c_LineReader_indexOf (l : Launch) (D : va_G) (k : Nat → ClassId) (a_p2 : Nat) (N_p2 : Nat) (r_p2 : Nat → Int64) (n0 : Int64) (n3 : Int32) (Q : Int32 → Prop)  (hf : w_LineReader_indexOf N_p2 r_p2 n0 n3 Q) : CtI l yX4_indexOf cX4_indexOf 5 (some .int) 0 0 0 0 D k [.long n0, .ref a_p2, .int n3] (wd_LineReader_indexOf k a_p2 N_p2 r_p2) (fun r w => w = (wd_LineReader_indexOf k a_p2 N_p2 r_p2) ∧ Q r) := by
  refine CtI.of (by decide) (Nat.le_of_ble_eq_true rfl) ?_
  intro p e s m below meth c A F hr hlk hnm hA hB ls hl
  have hx := F.x
  have hb := F.b
  unfold w_LineReader_indexOf at hf
  replace hl : lv_has ls 5 [(0, .long n0), (2, .ref a_p2), (3, .int n3)] := hl
  refine lv_iconst (v := 0) hx hb dX4_indexOf_0 (by decide) ?_
  refine lv_istore (lv' := [(4, .int (0 : Int32)), (0, .long n0), (2, .ref a_p2), (3, .int n3)]) hx hb dX4_indexOf_1 hl (by decide) rfl (fun ls hl => ?_)
  obtain ⟨n_4, hf⟩ := hf
  refine lt_LineReader_indexOf_3 F hr hlk hA (fun  H locs ls hf hB hl => ?_) n_4 _ _ _ _ hf hB (lv_sub hl [1, 2, 3, 0] rfl)
  refine lv_iconst (v := -1) hx hb dX4_indexOf_27 (by decide) ?_
  exact r_i F hr hlk hB ⟨rfl, hf⟩ dX4_indexOf_28

/-! LongTrain.LineReader.haltNamed -/
set_option maxRecDepth 100000 in
set_option maxHeartbeats 4000000 in
theorem c_LineReader_haltNamed (l : Launch) (D : va_G) (k : Nat → ClassId) (a_t : Nat) (d_t : Nat → Nat) (w_t : Nat → Value) (i_t : Nat → Int32) (r_t_haltNames : Nat → Int64) (a_t_line : Nat) (d_t_line : Nat → Nat) (i_t_line : Nat → Int32) (n1 : Int64) (Q : Int32 → Prop) (hw_t_line : w_t 3 = .ref a_t_line) (hf : w_LineReader_haltNamed r_t_haltNames i_t_line n1 Q) : CtI l yX4_haltNamed cX4_haltNamed 3 (some .int) 1 24 0 0 D k [.ref a_t, .long n1] (wd_LineReader_haltNamed k a_t d_t w_t i_t r_t_haltNames a_t_line d_t_line i_t_line) (fun r w => w = (wd_LineReader_haltNamed k a_t d_t w_t i_t r_t_haltNames a_t_line d_t_line i_t_line) ∧ Q r) := by
  refine CtI.of (by decide) (Nat.le_of_ble_eq_true rfl) ?_
  intro p e s m below meth c A F hr hlk hnm hA hB ls hl
  have hx := F.x
  have hb := F.b
  unfold w_LineReader_haltNamed at hf
  replace hl : lv_has ls 3 [(0, .ref a_t), (1, .long n1)] := hl
  refine lv_lload_n hx hb dX4_haltNamed_0 rfl (lv_at hl 1 rfl) ?_
  refine lv_aload_n hx hb dX4_haltNamed_1 rfl (lv_at hl 0 rfl) ?_
  refine g_get (w := .ref (d_t 1)) F hB 0 rfl fl_RX4_18 rfl dX4_haltNamed_2 ?_
  refine lv_aload_n hx hb dX4_haltNamed_5 rfl (lv_at hl 0 rfl) ?_
  refine g_get (w := .ref a_t_line) F hB 0 rfl fl_RX4_29 hw_t_line dX4_haltNamed_6 ?_
  refine g_get (w := .int (i_t_line 3)) F hB 2 rfl fl_RX4_117 rfl dX4_haltNamed_9 ?_
  refine k_si (wr := [(a_t, ob 4 (vmx 4 d_t w_t) i_t j0), (a_t_line, ob 3 (rfd d_t_line) i_t_line j0)]) (rest := []) F hA hB (c_LineReader_indexOf l D k (d_t 1) 10 r_t_haltNames n1 (i_t_line 3) _  hf) ml_RX4_185 ms_yX4_indexOf [1] [0, 2] rfl rfl (by decide) (by decide) (by decide) rfl hl.1 rfl (Nat.le_of_ble_eq_true rfl) ⟨Nat.le_of_ble_eq_true rfl, Nat.le_of_ble_eq_true rfl⟩ ⟨Nat.le_of_ble_eq_true rfl, Nat.le_of_ble_eq_true rfl⟩ dX4_haltNamed_12 (fun z_1 w1 H locs hq hB => ?_)
  obtain ⟨rfl, hf⟩ := hq
  replace hB : Bd D A s.heap (wd_LineReader_haltNamed k a_t d_t w_t i_t r_t_haltNames a_t_line d_t_line i_t_line) H locs := hB.sub [0, 2, 1] (by decide) rfl
  exact r_i F hr hlk hB ⟨rfl, hf⟩ dX4_haltNamed_15

/-! LongTrain.LineReader.kindNamed -/
set_option maxRecDepth 100000 in
set_option maxHeartbeats 4000000 in
theorem c_LineReader_kindNamed (l : Launch) (D : va_G) (k : Nat → ClassId) (a_t : Nat) (d_t : Nat → Nat) (w_t : Nat → Value) (i_t : Nat → Int32) (r_t_kindNames : Nat → Int64) (a_t_line : Nat) (d_t_line : Nat → Nat) (i_t_line : Nat → Int32) (n1 : Int64) (Q : Int32 → Prop) (hw_t_line : w_t 3 = .ref a_t_line) (hf : w_LineReader_kindNamed r_t_kindNames i_t_line n1 Q) : CtI l yX4_kindNamed cX4_kindNamed 3 (some .int) 1 24 0 0 D k [.ref a_t, .long n1] (wd_LineReader_kindNamed k a_t d_t w_t i_t r_t_kindNames a_t_line d_t_line i_t_line) (fun r w => w = (wd_LineReader_kindNamed k a_t d_t w_t i_t r_t_kindNames a_t_line d_t_line i_t_line) ∧ Q r) := by
  refine CtI.of (by decide) (Nat.le_of_ble_eq_true rfl) ?_
  intro p e s m below meth c A F hr hlk hnm hA hB ls hl
  have hx := F.x
  have hb := F.b
  unfold w_LineReader_kindNamed at hf
  replace hl : lv_has ls 3 [(0, .ref a_t), (1, .long n1)] := hl
  refine lv_lload_n hx hb dX4_kindNamed_0 rfl (lv_at hl 1 rfl) ?_
  refine lv_aload_n hx hb dX4_kindNamed_1 rfl (lv_at hl 0 rfl) ?_
  refine g_get (w := .ref (d_t 2)) F hB 0 rfl fl_RX4_22 rfl dX4_kindNamed_2 ?_
  refine lv_aload_n hx hb dX4_kindNamed_5 rfl (lv_at hl 0 rfl) ?_
  refine g_get (w := .ref a_t_line) F hB 0 rfl fl_RX4_29 hw_t_line dX4_kindNamed_6 ?_
  refine g_get (w := .int (i_t_line 7)) F hB 2 rfl fl_RX4_139 rfl dX4_kindNamed_9 ?_
  refine k_si (wr := [(a_t, ob 4 (vmx 4 d_t w_t) i_t j0), (a_t_line, ob 3 (rfd d_t_line) i_t_line j0)]) (rest := []) F hA hB (c_LineReader_indexOf l D k (d_t 2) 6 r_t_kindNames n1 (i_t_line 7) _  hf) ml_RX4_185 ms_yX4_indexOf [1] [0, 2] rfl rfl (by decide) (by decide) (by decide) rfl hl.1 rfl (Nat.le_of_ble_eq_true rfl) ⟨Nat.le_of_ble_eq_true rfl, Nat.le_of_ble_eq_true rfl⟩ ⟨Nat.le_of_ble_eq_true rfl, Nat.le_of_ble_eq_true rfl⟩ dX4_kindNamed_12 (fun z_1 w1 H locs hq hB => ?_)
  obtain ⟨rfl, hf⟩ := hq
  replace hB : Bd D A s.heap (wd_LineReader_kindNamed k a_t d_t w_t i_t r_t_kindNames a_t_line d_t_line i_t_line) H locs := hB.sub [0, 2, 1] (by decide) rfl
  exact r_i F hr hlk hB ⟨rfl, hf⟩ dX4_kindNamed_15

/-! LongTrain.LineReader.readEngine -/
set_option maxRecDepth 100000 in
set_option maxHeartbeats 4000000 in
theorem c_LineReader_readEngine (l : Launch) (D : va_G) (k : Nat → ClassId) (a_t : Nat) (d_t : Nat → Nat) (w_t : Nat → Value) (i_t : Nat → Int32) (w_t_reader : Nat → Value) (i_t_reader : Nat → Int32) (j_t_reader : Nat → Int64) (a_t_reader_text : Nat) (r_t_reader_text : Nat → Int32) (a_t_line : Nat) (d_t_line : Nat → Nat) (i_t_line : Nat → Int32)  (Q : Int32 → (Nat → Int32) → (Nat → Int64) → (Nat → Int32) → Prop) (hw_t_reader_text : w_t_reader 0 = .ref a_t_reader_text) (hw_t_line : w_t 3 = .ref a_t_line) (hf : w_LineReader_readEngine i_t_reader j_t_reader r_t_reader_text i_t_line Q) : CtI l yX4_readEngine cX4_readEngine 1 (some .boolean) 4 87 0 0 D k [.ref a_t] (wd_LineReader_readEngine k a_t d_t w_t i_t w_t_reader i_t_reader j_t_reader a_t_reader_text r_t_reader_text a_t_line d_t_line i_t_line) (fun r w => (r = 0 ∨ r = 1) ∧ (∃ (i_t_reader : Nat → Int32), ∃ (j_t_reader : Nat → Int64), ∃ (i_t_line : Nat → Int32), w = (wd_LineReader_readEngine k a_t d_t w_t i_t w_t_reader i_t_reader j_t_reader a_t_reader_text r_t_reader_text a_t_line d_t_line i_t_line) ∧ Q r i_t_reader j_t_reader i_t_line)) := by
  refine CtI.of (by decide) (Nat.le_of_ble_eq_true rfl) ?_
  intro p e s m below meth c A F hr hlk hnm hA hB ls hl
  have hx := F.x
  have hb := F.b
  unfold w_LineReader_readEngine at hf
  replace hl : lv_has ls 1 [(0, .ref a_t)] := hl
  refine lv_aload_n hx hb dX4_readEngine_0 rfl (lv_at hl 0 rfl) ?_
  refine g_get (w := .ref (d_t 0)) F hB 0 rfl fl_RX4_12 rfl dX4_readEngine_1 ?_
  refine lv_iconst (v := 1) hx hb dX4_readEngine_4 (by decide) ?_
  refine lv_sipush (v := 999) hx hb dX4_readEngine_5 (by decide) ?_
  refine k_vi (wr := [(a_t, ob 4 (vmx 4 d_t w_t) i_t j0), (a_t_line, ob 3 (rfd d_t_line) i_t_line j0)]) (rest := []) F hA hB (c_Reader_nextNumber l D k (d_t 0) w_t_reader i_t_reader j_t_reader a_t_reader_text r_t_reader_text (1 : Int32) (999 : Int32) _ hw_t_reader_text hf) ml_RX4_107 mv_yX7_nextNumber [1, 2] [0, 3] rfl rfl (by decide) (by decide) (by decide) 1 rfl rfl rfl hl.1 rfl (Nat.le_of_ble_eq_true rfl) ⟨Nat.le_of_ble_eq_true rfl, Nat.le_of_ble_eq_true rfl⟩ ⟨Nat.le_of_ble_eq_true rfl, Nat.le_of_ble_eq_true rfl⟩ dX4_readEngine_8 (fun z_3 w1 H locs hq hB => ?_)
  obtain ⟨h_4, i_t_reader_1, j_t_reader_2, rfl, hf⟩ := hq
  replace hB : Bd D A s.heap (wd_LineReader_readEngine k a_t d_t w_t i_t w_t_reader i_t_reader_1 j_t_reader_2 a_t_reader_text r_t_reader_text a_t_line d_t_line i_t_line) H locs := hB.sub [0, 2, 3, 1] (by decide) rfl
  refine lv_if_ne (tgt := 16) hx hb dX4_readEngine_11 (by decide) (fun c_10 => ?_) (fun c_10 => ?_)
  · replace hf := hf.1 c_10
    refine lv_aload_n hx hb dX4_readEngine_16 rfl (lv_at hl 0 rfl) ?_
    refine g_get (w := .ref a_t_line) F hB 0 rfl fl_RX4_29 hw_t_line dX4_readEngine_17 ?_
    refine lv_aload_n hx hb dX4_readEngine_20 rfl (lv_at hl 0 rfl) ?_
    refine g_get (w := .ref (d_t 0)) F hB 0 rfl fl_RX4_12 rfl dX4_readEngine_21 ?_
    refine g_get (w := .int (i_t_reader_1 6)) F hB 1 rfl fl_RX4_104 rfl dX4_readEngine_24 ?_
    refine g_puti F hB 3 rfl fl_RX4_158 rfl (wd_LineReader_readEngine k a_t d_t w_t i_t w_t_reader i_t_reader_1 j_t_reader_2 a_t_reader_text r_t_reader_text a_t_line d_t_line (upd i_t_line 10 (i_t_reader_1 6))) rfl dX4_readEngine_27 (fun H locs hB => ?_)
    refine lv_aload_n hx hb dX4_readEngine_30 rfl (lv_at hl 0 rfl) ?_
    refine g_get (w := .ref (d_t 0)) F hB 0 rfl fl_RX4_12 rfl dX4_readEngine_31 ?_
    refine lv_iconst (v := 1) hx hb dX4_readEngine_34 (by decide) ?_
    refine lv_bipush (v := 99) hx hb dX4_readEngine_35 (by decide) ?_
    refine k_vi (wr := [(a_t, ob 4 (vmx 4 d_t w_t) i_t j0), (a_t_line, ob 3 (rfd d_t_line) (upd i_t_line 10 (i_t_reader_1 6)) j0)]) (rest := []) F hA hB (c_Reader_nextNumber l D k (d_t 0) w_t_reader i_t_reader_1 j_t_reader_2 a_t_reader_text r_t_reader_text (1 : Int32) (99 : Int32) _ hw_t_reader_text hf) ml_RX4_107 mv_yX7_nextNumber [1, 2] [0, 3] rfl rfl (by decide) (by decide) (by decide) 1 rfl rfl rfl hl.1 rfl (Nat.le_of_ble_eq_true rfl) ⟨Nat.le_of_ble_eq_true rfl, Nat.le_of_ble_eq_true rfl⟩ ⟨Nat.le_of_ble_eq_true rfl, Nat.le_of_ble_eq_true rfl⟩ dX4_readEngine_37 (fun z_7 w1 H locs hq hB => ?_)
    obtain ⟨h_8, i_t_reader_5, j_t_reader_6, rfl, hf⟩ := hq
    replace hB : Bd D A s.heap (wd_LineReader_readEngine k a_t d_t w_t i_t w_t_reader i_t_reader_5 j_t_reader_6 a_t_reader_text r_t_reader_text a_t_line d_t_line (upd i_t_line 10 (i_t_reader_1 6))) H locs := hB.sub [0, 2, 3, 1] (by decide) rfl
    refine lv_if_ne (tgt := 45) hx hb dX4_readEngine_40 (by decide) (fun c_9 => ?_) (fun c_9 => ?_)
    · replace hf := hf.1 c_9
      refine lv_aload_n hx hb dX4_readEngine_45 rfl (lv_at hl 0 rfl) ?_
      refine g_get (w := .ref a_t_line) F hB 0 rfl fl_RX4_29 hw_t_line dX4_readEngine_46 ?_
      refine lv_aload_n hx hb dX4_readEngine_49 rfl (lv_at hl 0 rfl) ?_
      refine g_get (w := .ref (d_t 0)) F hB 0 rfl fl_RX4_12 rfl dX4_readEngine_50 ?_
      refine g_get (w := .int (i_t_reader_5 6)) F hB 1 rfl fl_RX4_104 rfl dX4_readEngine_53 ?_
      refine g_puti F hB 3 rfl fl_RX4_161 rfl (wd_LineReader_readEngine k a_t d_t w_t i_t w_t_reader i_t_reader_5 j_t_reader_6 a_t_reader_text r_t_reader_text a_t_line d_t_line (upd (upd i_t_line 10 (i_t_reader_1 6)) 11 (i_t_reader_5 6))) rfl dX4_readEngine_56 (fun H locs hB => ?_)
      refine lv_iconst (v := 1) hx hb dX4_readEngine_59 (by decide) ?_
      exact r_z F hr hlk hB (Or.inr rfl) ⟨Or.inr rfl, _, _, _, rfl, hf⟩ dX4_readEngine_60
    · replace hf := hf.2 c_9
      refine lv_iconst (v := 0) hx hb dX4_readEngine_43 (by decide) ?_
      exact r_z F hr hlk hB (Or.inl rfl) ⟨Or.inl rfl, _, _, _, rfl, hf⟩ dX4_readEngine_44
  · replace hf := hf.2 c_10
    refine lv_iconst (v := 0) hx hb dX4_readEngine_14 (by decide) ?_
    exact r_z F hr hlk hB (Or.inl rfl) ⟨Or.inl rfl, _, _, _, rfl, hf⟩ dX4_readEngine_15

/-! LongTrain.LineReader.readLoop -/
set_option maxRecDepth 100000 in
set_option maxHeartbeats 4000000 in
theorem bt_LineReader_readLoop_47 {p : Program} {l : Launch} {e : Env} {s : State} {m : MethodId} {below : List Frame} {meth : Method} {c : Code} {A : Nat → Prop} {D : va_G} {k : Nat → ClassId} {a_t : Nat} {d_t : Nat → Nat} {w_t : Nat → Value} {i_t : Nat → Int32} {a_t_line : Nat} {d_t_line : Nat → Nat} {i_t_line : Nat → Int32} {w_t_reader : Nat → Value} {i_t_reader : Nat → Int32} {j_t_reader : Nat → Int64} {a_t_reader_text : Nat} {r_t_reader_text : Nat → Int32} {r_t_line_loops : Nat → Int32}  {Q : Int32 → (Nat → Int32) → (Nat → Int32) → (Nat → Int64) → (Nat → Int32) → Prop} (hw_t_line : w_t 3 = .ref a_t_line) (hw_t_reader_text : w_t_reader 0 = .ref a_t_reader_text) {x1 : Int32} {kx_47 : Prop} {kr_47 : (Int32) → Prop} (F : Fx p m c cX4_readLoop 3 s ([.ref a_t] : List Value).toArray RX4 D k) (hr : meth.sig.returnType = (some .boolean)) (hlk : meth.locks = false) (hA : ∀ q : Nat, s.heap.size ≤ q → A q) (hkx_47 : ∀ (H : Heap) (locs : List Loc) (ls : Array Slot), kx_47 → Bd D A s.heap (wd_LineReader_readLoop k a_t d_t w_t i_t a_t_line d_t_line i_t_line w_t_reader i_t_reader j_t_reader a_t_reader_text r_t_reader_text r_t_line_loops) H locs → lv_has ls 3 [(0, .ref a_t), (1, .int x1)] → W p l e { frames := 4, cells := 0, slots := 0, locals := 87 } s m ([.ref a_t] : List Value).toArray below meth c H locs 0 0 (Ei below (fun r w => (r = 0 ∨ r = 1) ∧ (∃ (i_t_line : Nat → Int32), ∃ (i_t_reader : Nat → Int32), ∃ (j_t_reader : Nat → Int64), ∃ (r_t_line_loops : Nat → Int32), w = (wd_LineReader_readLoop k a_t d_t w_t i_t a_t_line d_t_line i_t_line w_t_reader i_t_reader j_t_reader a_t_reader_text r_t_reader_text r_t_line_loops) ∧ Q r i_t_line i_t_reader j_t_reader r_t_line_loops)) D k A ([.ref a_t] : List Value).toArray s 0 0) (F0 m 88 ls [])) (hkr_47 : ∀ (x2 : Int32) (H : Heap) (locs : List Loc) (ls : Array Slot), kr_47 x2 → Bd D A s.heap (wd_LineReader_readLoop k a_t d_t w_t i_t a_t_line d_t_line i_t_line w_t_reader i_t_reader j_t_reader a_t_reader_text r_t_reader_text r_t_line_loops) H locs → lv_has ls 3 [(0, .ref a_t), (1, .int x1), (2, .int x2)] → W p l e { frames := 4, cells := 0, slots := 0, locals := 87 } s m ([.ref a_t] : List Value).toArray below meth c H locs 0 0 (Ei below (fun r w => (r = 0 ∨ r = 1) ∧ (∃ (i_t_line : Nat → Int32), ∃ (i_t_reader : Nat → Int32), ∃ (j_t_reader : Nat → Int64), ∃ (r_t_line_loops : Nat → Int32), w = (wd_LineReader_readLoop k a_t d_t w_t i_t a_t_line d_t_line i_t_line w_t_reader i_t_reader j_t_reader a_t_reader_text r_t_reader_text r_t_line_loops) ∧ Q r i_t_line i_t_reader j_t_reader r_t_line_loops)) D k A ([.ref a_t] : List Value).toArray s 0 0) (F0 m 47 ls [])) :
    ∀ (x2 : Int32) (H : Heap) (locs : List Loc) (ls : Array Slot), b_LineReader_readLoop_47 i_t_line i_t_reader j_t_reader r_t_line_loops x1 Q kx_47 kr_47 x2 → Bd D A s.heap (wd_LineReader_readLoop k a_t d_t w_t i_t a_t_line d_t_line i_t_line w_t_reader i_t_reader j_t_reader a_t_reader_text r_t_reader_text r_t_line_loops) H locs → lv_has ls 3 [(0, .ref a_t), (1, .int x1), (2, .int x2)] → W p l e { frames := 4, cells := 0, slots := 0, locals := 87 } s m ([.ref a_t] : List Value).toArray below meth c H locs 0 0 (Ei below (fun r w => (r = 0 ∨ r = 1) ∧ (∃ (i_t_line : Nat → Int32), ∃ (i_t_reader : Nat → Int32), ∃ (j_t_reader : Nat → Int64), ∃ (r_t_line_loops : Nat → Int32), w = (wd_LineReader_readLoop k a_t d_t w_t i_t a_t_line d_t_line i_t_line w_t_reader i_t_reader j_t_reader a_t_reader_text r_t_reader_text r_t_line_loops) ∧ Q r i_t_line i_t_reader j_t_reader r_t_line_loops)) D k A ([.ref a_t] : List Value).toArray s 0 0) (F0 m 47 ls []) := by
  have hx := F.x
  have hb := F.b
  intro x2 H locs ls hf hB hl
  unfold b_LineReader_readLoop_47 at hf
  refine lv_iload_n hx hb dX4_readLoop_47 rfl (lv_at hl 2 rfl) ?_
  refine lv_iload_n hx hb dX4_readLoop_48 rfl (lv_at hl 1 rfl) ?_
  refine lv_icmp_ge (tgt := 88) hx hb dX4_readLoop_49 (by decide) (fun c_10 => ?_) (fun c_10 => ?_)
  · replace hf := hf.1 c_10
    exact hkx_47  _ _ _ hf hB (lv_sub hl [0, 1] rfl)
  · replace hf := hf.2 c_10
    refine lv_aload_n hx hb dX4_readLoop_52 rfl (lv_at hl 0 rfl) ?_
    refine g_get (w := .ref a_t_line) F hB 0 rfl fl_RX4_29 hw_t_line dX4_readLoop_53 ?_
    refine g_get (w := .ref (d_t_line 4)) F hB 1 rfl fl_RX4_136 rfl dX4_readLoop_56 ?_
    refine lv_iconst (v := 2) hx hb dX4_readLoop_59 (by decide) ?_
    refine lv_iload_n hx hb dX4_readLoop_60 rfl (lv_at hl 2 rfl) ?_
    refine lv_imul hx hb dX4_readLoop_61 ?_
    obtain ⟨h_5, hf⟩ := hf
    refine g_iald F hB 4 rfl h_5 dX4_readLoop_62 ?_
    refine lv_aload_n hx hb dX4_readLoop_63 rfl (lv_at hl 0 rfl) ?_
    refine g_get (w := .ref (d_t 0)) F hB 0 rfl fl_RX4_12 rfl dX4_readLoop_64 ?_
    refine g_get (w := .int (i_t_reader 6)) F hB 2 rfl fl_RX4_104 rfl dX4_readLoop_67 ?_
    refine lv_icmp_ne (tgt := 82) hx hb dX4_readLoop_70 (by decide) (fun c_9 => ?_) (fun c_9 => ?_)
    · replace hf := hf.1 c_9
      refine lv_iinc (v := (x2 + 1)) (lv' := [(2, .int (x2 + 1)), (0, .ref a_t), (1, .int x1)]) (k := 2) hx hb dX4_readLoop_82 hl rfl rfl (by decide) rfl (fun ls hl => ?_)
      refine lv_goto (tgt := 47) hx hb dX4_readLoop_85 (by decide) ?_
      exact hkr_47 _ _ _ _ hf hB (lv_sub hl [1, 2, 0] rfl)
    · replace hf := hf.2 c_9
      refine lv_aload_n hx hb dX4_readLoop_73 rfl (lv_at hl 0 rfl) ?_
      refine g_get (w := .ref (d_t 0)) F hB 0 rfl fl_RX4_12 rfl dX4_readLoop_74 ?_
      refine lv_iconst (v := 3) hx hb dX4_readLoop_77 (by decide) ?_
      refine k_vi (wr := [(a_t, ob 4 (vmx 4 d_t w_t) i_t j0), (a_t_line, ob 3 (rfd d_t_line) i_t_line j0), (a_t_reader_text, ai k 940 r_t_reader_text), ((d_t_line 4), ai k 16 r_t_line_loops)]) (rest := []) F hA hB (c_Reader_failHere l D k (d_t 0) w_t_reader i_t_reader j_t_reader (3 : Int32) _  hf) ml_RX4_94 mv_yX7_failHere [2] [0, 1, 3, 4] rfl rfl (by decide) (by decide) (by decide) 2 rfl rfl rfl hl.1 rfl (Nat.le_of_ble_eq_true rfl) ⟨Nat.le_of_ble_eq_true rfl, Nat.le_of_ble_eq_true rfl⟩ ⟨Nat.le_of_ble_eq_true rfl, Nat.le_of_ble_eq_true rfl⟩ dX4_readLoop_78 (fun z_7 w1 H locs hq hB => ?_)
      obtain ⟨h_8, i_t_reader_6, rfl, hf⟩ := hq
      replace hB : Bd D A s.heap (wd_LineReader_readLoop k a_t d_t w_t i_t a_t_line d_t_line i_t_line w_t_reader i_t_reader_6 j_t_reader a_t_reader_text r_t_reader_text r_t_line_loops) H locs := hB.sub [0, 1, 4, 2, 3] (by decide) rfl
      exact r_z F hr hlk hB (h_8) ⟨h_8, _, _, _, _, rfl, hf⟩ dX4_readLoop_81

set_option maxRecDepth 100000 in
set_option maxHeartbeats 4000000 in
theorem lt_LineReader_readLoop_47 {p : Program} {l : Launch} {e : Env} {s : State} {m : MethodId} {below : List Frame} {meth : Method} {c : Code} {A : Nat → Prop} {D : va_G} {k : Nat → ClassId} {a_t : Nat} {d_t : Nat → Nat} {w_t : Nat → Value} {i_t : Nat → Int32} {a_t_line : Nat} {d_t_line : Nat → Nat} {i_t_line : Nat → Int32} {w_t_reader : Nat → Value} {i_t_reader : Nat → Int32} {j_t_reader : Nat → Int64} {a_t_reader_text : Nat} {r_t_reader_text : Nat → Int32} {r_t_line_loops : Nat → Int32}  {Q : Int32 → (Nat → Int32) → (Nat → Int32) → (Nat → Int64) → (Nat → Int32) → Prop} (hw_t_line : w_t 3 = .ref a_t_line) (hw_t_reader_text : w_t_reader 0 = .ref a_t_reader_text) {x1 : Int32} {kx_47 : Prop} (F : Fx p m c cX4_readLoop 3 s ([.ref a_t] : List Value).toArray RX4 D k) (hr : meth.sig.returnType = (some .boolean)) (hlk : meth.locks = false) (hA : ∀ q : Nat, s.heap.size ≤ q → A q) (hkx_47 : ∀ (H : Heap) (locs : List Loc) (ls : Array Slot), kx_47 → Bd D A s.heap (wd_LineReader_readLoop k a_t d_t w_t i_t a_t_line d_t_line i_t_line w_t_reader i_t_reader j_t_reader a_t_reader_text r_t_reader_text r_t_line_loops) H locs → lv_has ls 3 [(0, .ref a_t), (1, .int x1)] → W p l e { frames := 4, cells := 0, slots := 0, locals := 87 } s m ([.ref a_t] : List Value).toArray below meth c H locs 0 0 (Ei below (fun r w => (r = 0 ∨ r = 1) ∧ (∃ (i_t_line : Nat → Int32), ∃ (i_t_reader : Nat → Int32), ∃ (j_t_reader : Nat → Int64), ∃ (r_t_line_loops : Nat → Int32), w = (wd_LineReader_readLoop k a_t d_t w_t i_t a_t_line d_t_line i_t_line w_t_reader i_t_reader j_t_reader a_t_reader_text r_t_reader_text r_t_line_loops) ∧ Q r i_t_line i_t_reader j_t_reader r_t_line_loops)) D k A ([.ref a_t] : List Value).toArray s 0 0) (F0 m 88 ls [])) :
    ∀ n : Nat, ∀ (x2 : Int32) (H : Heap) (locs : List Loc) (ls : Array Slot), lp_LineReader_readLoop_47 i_t_line i_t_reader j_t_reader r_t_line_loops x1 Q kx_47 n x2 → Bd D A s.heap (wd_LineReader_readLoop k a_t d_t w_t i_t a_t_line d_t_line i_t_line w_t_reader i_t_reader j_t_reader a_t_reader_text r_t_reader_text r_t_line_loops) H locs → lv_has ls 3 [(0, .ref a_t), (1, .int x1), (2, .int x2)] → W p l e { frames := 4, cells := 0, slots := 0, locals := 87 } s m ([.ref a_t] : List Value).toArray below meth c H locs 0 0 (Ei below (fun r w => (r = 0 ∨ r = 1) ∧ (∃ (i_t_line : Nat → Int32), ∃ (i_t_reader : Nat → Int32), ∃ (j_t_reader : Nat → Int64), ∃ (r_t_line_loops : Nat → Int32), w = (wd_LineReader_readLoop k a_t d_t w_t i_t a_t_line d_t_line i_t_line w_t_reader i_t_reader j_t_reader a_t_reader_text r_t_reader_text r_t_line_loops) ∧ Q r i_t_line i_t_reader j_t_reader r_t_line_loops)) D k A ([.ref a_t] : List Value).toArray s 0 0) (F0 m 47 ls []) := by
  intro n
  induction n with
  | zero => intro x2 H locs ls hf; exact absurd hf (fun h => h)
  | succ n ih => exact bt_LineReader_readLoop_47 hw_t_line hw_t_reader_text F hr hlk hA hkx_47 ih

set_option maxRecDepth 100000 in
set_option maxHeartbeats 4000000 in
theorem c_LineReader_readLoop (l : Launch) (D : va_G) (k : Nat → ClassId) (a_t : Nat) (d_t : Nat → Nat) (w_t : Nat → Value) (i_t : Nat → Int32) (a_t_line : Nat) (d_t_line : Nat → Nat) (i_t_line : Nat → Int32) (w_t_reader : Nat → Value) (i_t_reader : Nat → Int32) (j_t_reader : Nat → Int64) (a_t_reader_text : Nat) (r_t_reader_text : Nat → Int32) (r_t_line_loops : Nat → Int32)  (Q : Int32 → (Nat → Int32) → (Nat → Int32) → (Nat → Int64) → (Nat → Int32) → Prop) (hw_t_line : w_t 3 = .ref a_t_line) (hw_t_reader_text : w_t_reader 0 = .ref a_t_reader_text) (hf : w_LineReader_readLoop i_t_line i_t_reader j_t_reader r_t_reader_text r_t_line_loops Q) : CtI l yX4_readLoop cX4_readLoop 3 (some .boolean) 4 87 0 0 D k [.ref a_t] (wd_LineReader_readLoop k a_t d_t w_t i_t a_t_line d_t_line i_t_line w_t_reader i_t_reader j_t_reader a_t_reader_text r_t_reader_text r_t_line_loops) (fun r w => (r = 0 ∨ r = 1) ∧ (∃ (i_t_line : Nat → Int32), ∃ (i_t_reader : Nat → Int32), ∃ (j_t_reader : Nat → Int64), ∃ (r_t_line_loops : Nat → Int32), w = (wd_LineReader_readLoop k a_t d_t w_t i_t a_t_line d_t_line i_t_line w_t_reader i_t_reader j_t_reader a_t_reader_text r_t_reader_text r_t_line_loops) ∧ Q r i_t_line i_t_reader j_t_reader r_t_line_loops)) := by
  refine CtI.of (by decide) (Nat.le_of_ble_eq_true rfl) ?_
  intro p e s m below meth c A F hr hlk hnm hA hB ls hl
  have hx := F.x
  have hb := F.b
  unfold w_LineReader_readLoop at hf
  replace hl : lv_has ls 3 [(0, .ref a_t)] := hl
  refine lv_aload_n hx hb dX4_readLoop_0 rfl (lv_at hl 0 rfl) ?_
  refine g_get (w := .ref a_t_line) F hB 0 rfl fl_RX4_29 hw_t_line dX4_readLoop_1 ?_
  refine g_get (w := .int (i_t_line 5)) F hB 1 rfl fl_RX4_133 rfl dX4_readLoop_4 ?_
  refine lv_istore_n (lv' := [(1, .int (i_t_line 5)), (0, .ref a_t)]) hx hb dX4_readLoop_7 rfl hl (by decide) rfl (fun ls hl => ?_)
  refine lv_iload_n hx hb dX4_readLoop_8 rfl (lv_at hl 0 rfl) ?_
  refine lv_bipush (v := 8) hx hb dX4_readLoop_9 (by decide) ?_
  refine lv_icmp_lt (tgt := 23) hx hb dX4_readLoop_11 (by decide) (fun c_23 => ?_) (fun c_23 => ?_)
  · replace hf := hf.1 c_23
    refine lv_aload_n hx hb dX4_readLoop_23 rfl (lv_at hl 1 rfl) ?_
    refine g_get (w := .ref (d_t 0)) F hB 0 rfl fl_RX4_12 rfl dX4_readLoop_24 ?_
    refine lv_iconst (v := 0) hx hb dX4_readLoop_27 (by decide) ?_
    refine lv_aload_n hx hb dX4_readLoop_28 rfl (lv_at hl 1 rfl) ?_
    refine g_get (w := .ref a_t_line) F hB 0 rfl fl_RX4_29 hw_t_line dX4_readLoop_29 ?_
    refine g_get (w := .int (i_t_line 1)) F hB 1 rfl fl_RX4_110 rfl dX4_readLoop_32 ?_
    refine lv_iconst (v := 1) hx hb dX4_readLoop_35 (by decide) ?_
    refine lv_isub hx hb dX4_readLoop_36 ?_
    refine k_vi (wr := [(a_t, ob 4 (vmx 4 d_t w_t) i_t j0), (a_t_line, ob 3 (rfd d_t_line) i_t_line j0), ((d_t_line 4), ai k 16 r_t_line_loops)]) (rest := []) F hA hB (c_Reader_nextNumber l D k (d_t 0) w_t_reader i_t_reader j_t_reader a_t_reader_text r_t_reader_text (0 : Int32) ((i_t_line 1) - (1 : Int32)) _ hw_t_reader_text hf) ml_RX4_107 mv_yX7_nextNumber [2, 3] [0, 1, 4] rfl rfl (by decide) (by decide) (by decide) 2 rfl rfl rfl hl.1 rfl (Nat.le_of_ble_eq_true rfl) ⟨Nat.le_of_ble_eq_true rfl, Nat.le_of_ble_eq_true rfl⟩ ⟨Nat.le_of_ble_eq_true rfl, Nat.le_of_ble_eq_true rfl⟩ dX4_readLoop_37 (fun z_3 w1 H locs hq hB => ?_)
    obtain ⟨h_4, i_t_reader_1, j_t_reader_2, rfl, hf⟩ := hq
    replace hB : Bd D A s.heap (wd_LineReader_readLoop k a_t d_t w_t i_t a_t_line d_t_line i_t_line w_t_reader i_t_reader_1 j_t_reader_2 a_t_reader_text r_t_reader_text r_t_line_loops) H locs := hB.sub [0, 1, 3, 4, 2] (by decide) rfl
    refine lv_if_ne (tgt := 45) hx hb dX4_readLoop_40 (by decide) (fun c_19 => ?_) (fun c_19 => ?_)
    · replace hf := hf.1 c_19
      refine lv_iconst (v := 0) hx hb dX4_readLoop_45 (by decide) ?_
      refine lv_istore_n (lv' := [(2, .int (0 : Int32)), (1, .int (i_t_line 5)), (0, .ref a_t)]) hx hb dX4_readLoop_46 rfl hl (by decide) rfl (fun ls hl => ?_)
      obtain ⟨n_18, hf⟩ := hf
      refine lt_LineReader_readLoop_47 hw_t_line hw_t_reader_text F hr hlk hA (fun  H locs ls hf hB hl => ?_) n_18 _ _ _ _ hf hB (lv_sub hl [2, 1, 0] rfl)
      refine lv_aload_n hx hb dX4_readLoop_88 rfl (lv_at hl 0 rfl) ?_
      refine g_get (w := .ref a_t_line) F hB 0 rfl fl_RX4_29 hw_t_line dX4_readLoop_89 ?_
      refine g_get (w := .ref (d_t_line 4)) F hB 1 rfl fl_RX4_136 rfl dX4_readLoop_92 ?_
      refine lv_iconst (v := 2) hx hb dX4_readLoop_95 (by decide) ?_
      refine lv_iload_n hx hb dX4_readLoop_96 rfl (lv_at hl 1 rfl) ?_
      refine lv_imul hx hb dX4_readLoop_97 ?_
      refine lv_aload_n hx hb dX4_readLoop_98 rfl (lv_at hl 0 rfl) ?_
      refine g_get (w := .ref (d_t 0)) F hB 0 rfl fl_RX4_12 rfl dX4_readLoop_99 ?_
      refine g_get (w := .int (i_t_reader_1 6)) F hB 2 rfl fl_RX4_104 rfl dX4_readLoop_102 ?_
      obtain ⟨h_11, hf⟩ := hf
      refine g_iast F hB 4 rfl h_11 (wd_LineReader_readLoop k a_t d_t w_t i_t a_t_line d_t_line i_t_line w_t_reader i_t_reader_1 j_t_reader_2 a_t_reader_text r_t_reader_text (upd r_t_line_loops (((2 : Int32) * (i_t_line 5))).toNatClampNeg (i_t_reader_1 6))) rfl dX4_readLoop_105 (fun H locs hB => ?_)
      refine lv_aload_n hx hb dX4_readLoop_106 rfl (lv_at hl 0 rfl) ?_
      refine g_get (w := .ref (d_t 0)) F hB 0 rfl fl_RX4_12 rfl dX4_readLoop_107 ?_
      refine lv_iconst (v := 1) hx hb dX4_readLoop_110 (by decide) ?_
      refine lv_bipush (v := 99) hx hb dX4_readLoop_111 (by decide) ?_
      refine k_vi (wr := [(a_t, ob 4 (vmx 4 d_t w_t) i_t j0), (a_t_line, ob 3 (rfd d_t_line) i_t_line j0), ((d_t_line 4), ai k 16 (upd r_t_line_loops (((2 : Int32) * (i_t_line 5))).toNatClampNeg (i_t_reader_1 6)))]) (rest := []) F hA hB (c_Reader_nextNumber l D k (d_t 0) w_t_reader i_t_reader_1 j_t_reader_2 a_t_reader_text r_t_reader_text (1 : Int32) (99 : Int32) _ hw_t_reader_text hf) ml_RX4_107 mv_yX7_nextNumber [2, 3] [0, 1, 4] rfl rfl (by decide) (by decide) (by decide) 2 rfl rfl rfl hl.1 rfl (Nat.le_of_ble_eq_true rfl) ⟨Nat.le_of_ble_eq_true rfl, Nat.le_of_ble_eq_true rfl⟩ ⟨Nat.le_of_ble_eq_true rfl, Nat.le_of_ble_eq_true rfl⟩ dX4_readLoop_113 (fun z_14 w1 H locs hq hB => ?_)
      obtain ⟨h_15, i_t_reader_12, j_t_reader_13, rfl, hf⟩ := hq
      replace hB : Bd D A s.heap (wd_LineReader_readLoop k a_t d_t w_t i_t a_t_line d_t_line i_t_line w_t_reader i_t_reader_12 j_t_reader_13 a_t_reader_text r_t_reader_text (upd r_t_line_loops (((2 : Int32) * (i_t_line 5))).toNatClampNeg (i_t_reader_1 6))) H locs := hB.sub [0, 1, 3, 4, 2] (by decide) rfl
      refine lv_if_ne (tgt := 121) hx hb dX4_readLoop_116 (by decide) (fun c_17 => ?_) (fun c_17 => ?_)
      · replace hf := hf.1 c_17
        refine lv_aload_n hx hb dX4_readLoop_121 rfl (lv_at hl 0 rfl) ?_
        refine g_get (w := .ref a_t_line) F hB 0 rfl fl_RX4_29 hw_t_line dX4_readLoop_122 ?_
        refine g_get (w := .ref (d_t_line 4)) F hB 1 rfl fl_RX4_136 rfl dX4_readLoop_125 ?_
        refine lv_iconst (v := 2) hx hb dX4_readLoop_128 (by decide) ?_
        refine lv_iload_n hx hb dX4_readLoop_129 rfl (lv_at hl 1 rfl) ?_
        refine lv_imul hx hb dX4_readLoop_130 ?_
        refine lv_iconst (v := 1) hx hb dX4_readLoop_131 (by decide) ?_
        refine lv_iadd hx hb dX4_readLoop_132 ?_
        refine lv_aload_n hx hb dX4_readLoop_133 rfl (lv_at hl 0 rfl) ?_
        refine g_get (w := .ref (d_t 0)) F hB 0 rfl fl_RX4_12 rfl dX4_readLoop_134 ?_
        refine g_get (w := .int (i_t_reader_12 6)) F hB 2 rfl fl_RX4_104 rfl dX4_readLoop_137 ?_
        obtain ⟨h_16, hf⟩ := hf
        refine g_iast F hB 4 rfl h_16 (wd_LineReader_readLoop k a_t d_t w_t i_t a_t_line d_t_line i_t_line w_t_reader i_t_reader_12 j_t_reader_13 a_t_reader_text r_t_reader_text (upd (upd r_t_line_loops (((2 : Int32) * (i_t_line 5))).toNatClampNeg (i_t_reader_1 6)) ((((2 : Int32) * (i_t_line 5)) + (1 : Int32))).toNatClampNeg (i_t_reader_12 6))) rfl dX4_readLoop_140 (fun H locs hB => ?_)
        refine lv_aload_n hx hb dX4_readLoop_141 rfl (lv_at hl 0 rfl) ?_
        refine g_get (w := .ref a_t_line) F hB 0 rfl fl_RX4_29 hw_t_line dX4_readLoop_142 ?_
        refine lv_dup hx hb dX4_readLoop_145 rfl ?_
        refine g_get (w := .int (i_t_line 5)) F hB 1 rfl fl_RX4_133 rfl dX4_readLoop_146 ?_
        refine lv_iconst (v := 1) hx hb dX4_readLoop_149 (by decide) ?_
        refine lv_iadd hx hb dX4_readLoop_150 ?_
        refine g_puti F hB 1 rfl fl_RX4_133 rfl (wd_LineReader_readLoop k a_t d_t w_t i_t a_t_line d_t_line (upd i_t_line 5 ((i_t_line 5) + (1 : Int32))) w_t_reader i_t_reader_12 j_t_reader_13 a_t_reader_text r_t_reader_text (upd (upd r_t_line_loops (((2 : Int32) * (i_t_line 5))).toNatClampNeg (i_t_reader_1 6)) ((((2 : Int32) * (i_t_line 5)) + (1 : Int32))).toNatClampNeg (i_t_reader_12 6))) rfl dX4_readLoop_151 (fun H locs hB => ?_)
        refine lv_iconst (v := 1) hx hb dX4_readLoop_154 (by decide) ?_
        exact r_z F hr hlk hB (Or.inr rfl) ⟨Or.inr rfl, _, _, _, _, rfl, hf⟩ dX4_readLoop_155
      · replace hf := hf.2 c_17
        refine lv_iconst (v := 0) hx hb dX4_readLoop_119 (by decide) ?_
        exact r_z F hr hlk hB (Or.inl rfl) ⟨Or.inl rfl, _, _, _, _, rfl, hf⟩ dX4_readLoop_120
    · replace hf := hf.2 c_19
      refine lv_iconst (v := 0) hx hb dX4_readLoop_43 (by decide) ?_
      exact r_z F hr hlk hB (Or.inl rfl) ⟨Or.inl rfl, _, _, _, _, rfl, hf⟩ dX4_readLoop_44
  · replace hf := hf.2 c_23
    refine lv_aload_n hx hb dX4_readLoop_14 rfl (lv_at hl 1 rfl) ?_
    refine g_get (w := .ref (d_t 0)) F hB 0 rfl fl_RX4_12 rfl dX4_readLoop_15 ?_
    refine lv_iconst (v := 4) hx hb dX4_readLoop_18 (by decide) ?_
    refine k_vi (wr := [(a_t, ob 4 (vmx 4 d_t w_t) i_t j0), (a_t_line, ob 3 (rfd d_t_line) i_t_line j0), (a_t_reader_text, ai k 940 r_t_reader_text), ((d_t_line 4), ai k 16 r_t_line_loops)]) (rest := []) F hA hB (c_Reader_failHere l D k (d_t 0) w_t_reader i_t_reader j_t_reader (4 : Int32) _  hf) ml_RX4_94 mv_yX7_failHere [2] [0, 1, 3, 4] rfl rfl (by decide) (by decide) (by decide) 2 rfl rfl rfl hl.1 rfl (Nat.le_of_ble_eq_true rfl) ⟨Nat.le_of_ble_eq_true rfl, Nat.le_of_ble_eq_true rfl⟩ ⟨Nat.le_of_ble_eq_true rfl, Nat.le_of_ble_eq_true rfl⟩ dX4_readLoop_19 (fun z_21 w1 H locs hq hB => ?_)
    obtain ⟨h_22, i_t_reader_20, rfl, hf⟩ := hq
    replace hB : Bd D A s.heap (wd_LineReader_readLoop k a_t d_t w_t i_t a_t_line d_t_line i_t_line w_t_reader i_t_reader_20 j_t_reader a_t_reader_text r_t_reader_text r_t_line_loops) H locs := hB.sub [0, 1, 4, 2, 3] (by decide) rfl
    exact r_z F hr hlk hB (h_22) ⟨h_22, _, _, _, _, rfl, hf⟩ dX4_readLoop_22

/-! LongTrain.LineReader.readNumber -/
set_option maxRecDepth 100000 in
set_option maxHeartbeats 4000000 in
theorem jt_LineReader_readNumber_37 {p : Program} {l : Launch} {e : Env} {s : State} {m : MethodId} {below : List Frame} {meth : Method} {c : Code} {A : Nat → Prop} {D : va_G} {k : Nat → ClassId} {a_t : Nat} {d_t : Nat → Nat} {w_t : Nat → Value} {i_t : Nat → Int32} {w_t_reader : Nat → Value} {a_t_reader_text : Nat} {r_t_reader_text : Nat → Int32} {a_t_line : Nat} {d_t_line : Nat → Nat} {n1 : Int32} {Q : Int32 → (Nat → Int32) → (Nat → Int64) → (Nat → Int32) → Prop} (hw_t_reader_text : w_t_reader 0 = .ref a_t_reader_text) (hw_t_line : w_t 3 = .ref a_t_line) (F : Fx p m c cX4_readNumber 4 s ([.ref a_t, .int n1] : List Value).toArray RX4 D k) (hr : meth.sig.returnType = (some .boolean)) (hlk : meth.locks = false) (hA : ∀ q : Nat, s.heap.size ≤ q → A q) :
    ∀ (i_t_reader : Nat → Int32) (j_t_reader : Nat → Int64) (i_t_line : Nat → Int32) (x1 : Int32) (x2 : Int32) (y0 : Int32) (H : Heap) (locs : List Loc) (ls : Array Slot), j_LineReader_readNumber_37 i_t_reader j_t_reader r_t_reader_text i_t_line x1 x2 y0 Q → Bd D A s.heap (wd_LineReader_readNumber k a_t d_t w_t i_t w_t_reader i_t_reader j_t_reader a_t_reader_text r_t_reader_text a_t_line d_t_line i_t_line) H locs → lv_has ls 4 [(0, .ref a_t), (1, .int x1), (2, .int x2)] → W p l e { frames := 4, cells := 0, slots := 0, locals := 87 } s m ([.ref a_t, .int n1] : List Value).toArray below meth c H locs 0 0 (Ei below (fun r w => (r = 0 ∨ r = 1) ∧ (∃ (i_t_reader : Nat → Int32), ∃ (j_t_reader : Nat → Int64), ∃ (i_t_line : Nat → Int32), w = (wd_LineReader_readNumber k a_t d_t w_t i_t w_t_reader i_t_reader j_t_reader a_t_reader_text r_t_reader_text a_t_line d_t_line i_t_line) ∧ Q r i_t_reader j_t_reader i_t_line)) D k A ([.ref a_t, .int n1] : List Value).toArray s 0 0) (F0 m 37 ls [.int y0]) := by
  have hx := F.x
  have hb := F.b
  intro i_t_reader j_t_reader i_t_line x1 x2 y0 H locs ls hf hB hl
  unfold j_LineReader_readNumber_37 at hf
  refine lv_istore_n (lv' := [(3, .int y0), (0, .ref a_t), (1, .int x1), (2, .int x2)]) hx hb dX4_readNumber_37 rfl hl (by decide) rfl (fun ls hl => ?_)
  refine lv_aload_n hx hb dX4_readNumber_38 rfl (lv_at hl 1 rfl) ?_
  refine g_get (w := .ref (d_t 0)) F hB 0 rfl fl_RX4_12 rfl dX4_readNumber_39 ?_
  refine lv_iload_n hx hb dX4_readNumber_42 rfl (lv_at hl 3 rfl) ?_
  refine lv_iload_n hx hb dX4_readNumber_43 rfl (lv_at hl 0 rfl) ?_
  refine k_vi (wr := [(a_t, ob 4 (vmx 4 d_t w_t) i_t j0), (a_t_line, ob 3 (rfd d_t_line) i_t_line j0)]) (rest := []) F hA hB (c_Reader_nextNumber l D k (d_t 0) w_t_reader i_t_reader j_t_reader a_t_reader_text r_t_reader_text x2 y0 _ hw_t_reader_text hf) ml_RX4_107 mv_yX7_nextNumber [1, 2] [0, 3] rfl rfl (by decide) (by decide) (by decide) 1 rfl rfl rfl hl.1 rfl (Nat.le_of_ble_eq_true rfl) ⟨Nat.le_of_ble_eq_true rfl, Nat.le_of_ble_eq_true rfl⟩ ⟨Nat.le_of_ble_eq_true rfl, Nat.le_of_ble_eq_true rfl⟩ dX4_readNumber_44 (fun z_3 w1 H locs hq hB => ?_)
  obtain ⟨h_4, i_t_reader_1, j_t_reader_2, rfl, hf⟩ := hq
  replace hB : Bd D A s.heap (wd_LineReader_readNumber k a_t d_t w_t i_t w_t_reader i_t_reader_1 j_t_reader_2 a_t_reader_text r_t_reader_text a_t_line d_t_line i_t_line) H locs := hB.sub [0, 2, 3, 1] (by decide) rfl
  refine lv_if_ne (tgt := 52) hx hb dX4_readNumber_47 (by decide) (fun c_8 => ?_) (fun c_8 => ?_)
  · replace hf := hf.1 c_8
    refine lv_iload_n hx hb dX4_readNumber_52 rfl (lv_at hl 2 rfl) ?_
    rcases Classical.em (x1 = 6) with c_5 | c_5
    · replace hf := hf.1 c_5
      refine lv_tableIn (tgt := 80) hx hb dX4_readNumber_53 (by rw [c_5]; decide) (by rw [c_5]; decide) (by rw [c_5]; rfl) (by decide) ?_
      refine lv_aload_n hx hb dX4_readNumber_80 rfl (lv_at hl 1 rfl) ?_
      refine g_get (w := .ref a_t_line) F hB 0 rfl fl_RX4_29 hw_t_line dX4_readNumber_81 ?_
      refine lv_aload_n hx hb dX4_readNumber_84 rfl (lv_at hl 1 rfl) ?_
      refine g_get (w := .ref (d_t 0)) F hB 0 rfl fl_RX4_12 rfl dX4_readNumber_85 ?_
      refine g_get (w := .int (i_t_reader_1 6)) F hB 1 rfl fl_RX4_104 rfl dX4_readNumber_88 ?_
      refine g_puti F hB 3 rfl fl_RX4_164 rfl (wd_LineReader_readNumber k a_t d_t w_t i_t w_t_reader i_t_reader_1 j_t_reader_2 a_t_reader_text r_t_reader_text a_t_line d_t_line (upd i_t_line 12 (i_t_reader_1 6))) rfl dX4_readNumber_91 (fun H locs hB => ?_)
      refine lv_goto (tgt := 145) hx hb dX4_readNumber_94 (by decide) ?_
      refine lv_iconst (v := 1) hx hb dX4_readNumber_145 (by decide) ?_
      exact r_z F hr hlk hB (Or.inr rfl) ⟨Or.inr rfl, _, _, _, rfl, hf⟩ dX4_readNumber_146
    · replace hf := hf.2 c_5
      rcases Classical.em (x1 = 7) with c_6 | c_6
      · replace hf := hf.1 c_6
        refine lv_tableIn (tgt := 97) hx hb dX4_readNumber_53 (by rw [c_6]; decide) (by rw [c_6]; decide) (by rw [c_6]; rfl) (by decide) ?_
        refine lv_aload_n hx hb dX4_readNumber_97 rfl (lv_at hl 1 rfl) ?_
        refine g_get (w := .ref a_t_line) F hB 0 rfl fl_RX4_29 hw_t_line dX4_readNumber_98 ?_
        refine lv_aload_n hx hb dX4_readNumber_101 rfl (lv_at hl 1 rfl) ?_
        refine g_get (w := .ref (d_t 0)) F hB 0 rfl fl_RX4_12 rfl dX4_readNumber_102 ?_
        refine g_get (w := .int (i_t_reader_1 6)) F hB 1 rfl fl_RX4_104 rfl dX4_readNumber_105 ?_
        refine g_puti F hB 3 rfl fl_RX4_167 rfl (wd_LineReader_readNumber k a_t d_t w_t i_t w_t_reader i_t_reader_1 j_t_reader_2 a_t_reader_text r_t_reader_text a_t_line d_t_line (upd i_t_line 13 (i_t_reader_1 6))) rfl dX4_readNumber_108 (fun H locs hB => ?_)
        refine lv_goto (tgt := 145) hx hb dX4_readNumber_111 (by decide) ?_
        refine lv_iconst (v := 1) hx hb dX4_readNumber_145 (by decide) ?_
        exact r_z F hr hlk hB (Or.inr rfl) ⟨Or.inr rfl, _, _, _, rfl, hf⟩ dX4_readNumber_146
      · replace hf := hf.2 c_6
        rcases Classical.em (x1 = 8) with c_7 | c_7
        · replace hf := hf.1 c_7
          refine lv_tableIn (tgt := 114) hx hb dX4_readNumber_53 (by rw [c_7]; decide) (by rw [c_7]; decide) (by rw [c_7]; rfl) (by decide) ?_
          refine lv_aload_n hx hb dX4_readNumber_114 rfl (lv_at hl 1 rfl) ?_
          refine g_get (w := .ref a_t_line) F hB 0 rfl fl_RX4_29 hw_t_line dX4_readNumber_115 ?_
          refine lv_aload_n hx hb dX4_readNumber_118 rfl (lv_at hl 1 rfl) ?_
          refine g_get (w := .ref (d_t 0)) F hB 0 rfl fl_RX4_12 rfl dX4_readNumber_119 ?_
          refine g_get (w := .int (i_t_reader_1 6)) F hB 1 rfl fl_RX4_104 rfl dX4_readNumber_122 ?_
          refine g_puti F hB 3 rfl fl_RX4_170 rfl (wd_LineReader_readNumber k a_t d_t w_t i_t w_t_reader i_t_reader_1 j_t_reader_2 a_t_reader_text r_t_reader_text a_t_line d_t_line (upd i_t_line 14 (i_t_reader_1 6))) rfl dX4_readNumber_125 (fun H locs hB => ?_)
          refine lv_goto (tgt := 145) hx hb dX4_readNumber_128 (by decide) ?_
          refine lv_iconst (v := 1) hx hb dX4_readNumber_145 (by decide) ?_
          exact r_z F hr hlk hB (Or.inr rfl) ⟨Or.inr rfl, _, _, _, rfl, hf⟩ dX4_readNumber_146
        · replace hf := hf.2 c_7
          refine lv_tableOut (tgt := 131) hx hb dX4_readNumber_53 (sw_out (fun z h1 h2 h3 => by
              have h4 : z = 6 ∨ z = 7 ∨ z = 8 ∨ False := by omega
              rcases h4 with h4 | h4 | h4 | h4
              · exact c_5 (Int32.toInt_inj.mp (h3.trans (h4.trans (by decide))))
              · exact c_6 (Int32.toInt_inj.mp (h3.trans (h4.trans (by decide))))
              · exact c_7 (Int32.toInt_inj.mp (h3.trans (h4.trans (by decide))))
              · exact h4)) (by decide) ?_
          refine lv_aload_n hx hb dX4_readNumber_131 rfl (lv_at hl 1 rfl) ?_
          refine g_get (w := .ref a_t_line) F hB 0 rfl fl_RX4_29 hw_t_line dX4_readNumber_132 ?_
          refine lv_aload_n hx hb dX4_readNumber_135 rfl (lv_at hl 1 rfl) ?_
          refine g_get (w := .ref (d_t 0)) F hB 0 rfl fl_RX4_12 rfl dX4_readNumber_136 ?_
          refine g_get (w := .int (i_t_reader_1 6)) F hB 1 rfl fl_RX4_104 rfl dX4_readNumber_139 ?_
          refine g_puti F hB 3 rfl fl_RX4_173 rfl (wd_LineReader_readNumber k a_t d_t w_t i_t w_t_reader i_t_reader_1 j_t_reader_2 a_t_reader_text r_t_reader_text a_t_line d_t_line (upd i_t_line 15 (i_t_reader_1 6))) rfl dX4_readNumber_142 (fun H locs hB => ?_)
          refine lv_iconst (v := 1) hx hb dX4_readNumber_145 (by decide) ?_
          exact r_z F hr hlk hB (Or.inr rfl) ⟨Or.inr rfl, _, _, _, rfl, hf⟩ dX4_readNumber_146
  · replace hf := hf.2 c_8
    refine lv_iconst (v := 0) hx hb dX4_readNumber_50 (by decide) ?_
    exact r_z F hr hlk hB (Or.inl rfl) ⟨Or.inl rfl, _, _, _, rfl, hf⟩ dX4_readNumber_51

set_option maxRecDepth 100000 in
set_option maxHeartbeats 4000000 in
theorem jt_LineReader_readNumber_30 {p : Program} {l : Launch} {e : Env} {s : State} {m : MethodId} {below : List Frame} {meth : Method} {c : Code} {A : Nat → Prop} {D : va_G} {k : Nat → ClassId} {a_t : Nat} {d_t : Nat → Nat} {w_t : Nat → Value} {i_t : Nat → Int32} {w_t_reader : Nat → Value} {a_t_reader_text : Nat} {r_t_reader_text : Nat → Int32} {a_t_line : Nat} {d_t_line : Nat → Nat} {n1 : Int32} {Q : Int32 → (Nat → Int32) → (Nat → Int64) → (Nat → Int32) → Prop} (hw_t_reader_text : w_t_reader 0 = .ref a_t_reader_text) (hw_t_line : w_t 3 = .ref a_t_line) (F : Fx p m c cX4_readNumber 4 s ([.ref a_t, .int n1] : List Value).toArray RX4 D k) (hr : meth.sig.returnType = (some .boolean)) (hlk : meth.locks = false) (hA : ∀ q : Nat, s.heap.size ≤ q → A q) :
    ∀ (i_t_reader : Nat → Int32) (j_t_reader : Nat → Int64) (i_t_line : Nat → Int32) (x1 : Int32) (x2 : Int32) (H : Heap) (locs : List Loc) (ls : Array Slot), j_LineReader_readNumber_30 i_t_reader j_t_reader r_t_reader_text i_t_line x1 x2 Q → Bd D A s.heap (wd_LineReader_readNumber k a_t d_t w_t i_t w_t_reader i_t_reader j_t_reader a_t_reader_text r_t_reader_text a_t_line d_t_line i_t_line) H locs → lv_has ls 4 [(0, .ref a_t), (1, .int x1), (2, .int x2)] → W p l e { frames := 4, cells := 0, slots := 0, locals := 87 } s m ([.ref a_t, .int n1] : List Value).toArray below meth c H locs 0 0 (Ei below (fun r w => (r = 0 ∨ r = 1) ∧ (∃ (i_t_reader : Nat → Int32), ∃ (j_t_reader : Nat → Int64), ∃ (i_t_line : Nat → Int32), w = (wd_LineReader_readNumber k a_t d_t w_t i_t w_t_reader i_t_reader j_t_reader a_t_reader_text r_t_reader_text a_t_line d_t_line i_t_line) ∧ Q r i_t_reader j_t_reader i_t_line)) D k A ([.ref a_t, .int n1] : List Value).toArray s 0 0) (F0 m 30 ls []) := by
  have hx := F.x
  have hb := F.b
  intro i_t_reader j_t_reader i_t_line x1 x2 H locs ls hf hB hl
  unfold j_LineReader_readNumber_30 at hf
  refine lv_bipush (v := 9) hx hb dX4_readNumber_30 (by decide) ?_
  refine lv_goto (tgt := 37) hx hb dX4_readNumber_32 (by decide) ?_
  exact jt_LineReader_readNumber_37 hw_t_reader_text hw_t_line F hr hlk hA _ _ _ _ _ _ _ _ _ hf hB (lv_sub hl [0, 1, 2] rfl)

set_option maxRecDepth 100000 in
set_option maxHeartbeats 4000000 in
theorem jt_LineReader_readNumber_17 {p : Program} {l : Launch} {e : Env} {s : State} {m : MethodId} {below : List Frame} {meth : Method} {c : Code} {A : Nat → Prop} {D : va_G} {k : Nat → ClassId} {a_t : Nat} {d_t : Nat → Nat} {w_t : Nat → Value} {i_t : Nat → Int32} {w_t_reader : Nat → Value} {a_t_reader_text : Nat} {r_t_reader_text : Nat → Int32} {a_t_line : Nat} {d_t_line : Nat → Nat} {n1 : Int32} {Q : Int32 → (Nat → Int32) → (Nat → Int64) → (Nat → Int32) → Prop} (hw_t_reader_text : w_t_reader 0 = .ref a_t_reader_text) (hw_t_line : w_t 3 = .ref a_t_line) (F : Fx p m c cX4_readNumber 4 s ([.ref a_t, .int n1] : List Value).toArray RX4 D k) (hr : meth.sig.returnType = (some .boolean)) (hlk : meth.locks = false) (hA : ∀ q : Nat, s.heap.size ≤ q → A q) :
    ∀ (i_t_reader : Nat → Int32) (j_t_reader : Nat → Int64) (i_t_line : Nat → Int32) (x1 : Int32) (y0 : Int32) (H : Heap) (locs : List Loc) (ls : Array Slot), j_LineReader_readNumber_17 i_t_reader j_t_reader r_t_reader_text i_t_line x1 y0 Q → Bd D A s.heap (wd_LineReader_readNumber k a_t d_t w_t i_t w_t_reader i_t_reader j_t_reader a_t_reader_text r_t_reader_text a_t_line d_t_line i_t_line) H locs → lv_has ls 4 [(0, .ref a_t), (1, .int x1)] → W p l e { frames := 4, cells := 0, slots := 0, locals := 87 } s m ([.ref a_t, .int n1] : List Value).toArray below meth c H locs 0 0 (Ei below (fun r w => (r = 0 ∨ r = 1) ∧ (∃ (i_t_reader : Nat → Int32), ∃ (j_t_reader : Nat → Int64), ∃ (i_t_line : Nat → Int32), w = (wd_LineReader_readNumber k a_t d_t w_t i_t w_t_reader i_t_reader j_t_reader a_t_reader_text r_t_reader_text a_t_line d_t_line i_t_line) ∧ Q r i_t_reader j_t_reader i_t_line)) D k A ([.ref a_t, .int n1] : List Value).toArray s 0 0) (F0 m 17 ls [.int y0]) := by
  have hx := F.x
  have hb := F.b
  intro i_t_reader j_t_reader i_t_line x1 y0 H locs ls hf hB hl
  unfold j_LineReader_readNumber_17 at hf
  refine lv_istore_n (lv' := [(2, .int y0), (0, .ref a_t), (1, .int x1)]) hx hb dX4_readNumber_17 rfl hl (by decide) rfl (fun ls hl => ?_)
  refine lv_iload_n hx hb dX4_readNumber_18 rfl (lv_at hl 2 rfl) ?_
  refine lv_bipush (v := 6) hx hb dX4_readNumber_19 (by decide) ?_
  refine lv_icmp_eq (tgt := 30) hx hb dX4_readNumber_21 (by decide) (fun c_10 => ?_) (fun c_10 => ?_)
  · replace hf := hf.1 c_10
    exact jt_LineReader_readNumber_30 hw_t_reader_text hw_t_line F hr hlk hA _ _ _ _ _ _ _ _ hf hB (lv_sub hl [1, 2, 0] rfl)
  · replace hf := hf.2 c_10
    refine lv_iload_n hx hb dX4_readNumber_24 rfl (lv_at hl 2 rfl) ?_
    refine lv_bipush (v := 9) hx hb dX4_readNumber_25 (by decide) ?_
    refine lv_icmp_ne (tgt := 35) hx hb dX4_readNumber_27 (by decide) (fun c_9 => ?_) (fun c_9 => ?_)
    · replace hf := hf.1 c_9
      refine lv_bipush (v := 99) hx hb dX4_readNumber_35 (by decide) ?_
      exact jt_LineReader_readNumber_37 hw_t_reader_text hw_t_line F hr hlk hA _ _ _ _ _ _ _ _ _ hf hB (lv_sub hl [1, 2, 0] rfl)
    · replace hf := hf.2 c_9
      exact jt_LineReader_readNumber_30 hw_t_reader_text hw_t_line F hr hlk hA _ _ _ _ _ _ _ _ hf hB (lv_sub hl [1, 2, 0] rfl)

set_option maxRecDepth 100000 in
set_option maxHeartbeats 4000000 in
theorem jt_LineReader_readNumber_12 {p : Program} {l : Launch} {e : Env} {s : State} {m : MethodId} {below : List Frame} {meth : Method} {c : Code} {A : Nat → Prop} {D : va_G} {k : Nat → ClassId} {a_t : Nat} {d_t : Nat → Nat} {w_t : Nat → Value} {i_t : Nat → Int32} {w_t_reader : Nat → Value} {a_t_reader_text : Nat} {r_t_reader_text : Nat → Int32} {a_t_line : Nat} {d_t_line : Nat → Nat} {n1 : Int32} {Q : Int32 → (Nat → Int32) → (Nat → Int64) → (Nat → Int32) → Prop} (hw_t_reader_text : w_t_reader 0 = .ref a_t_reader_text) (hw_t_line : w_t 3 = .ref a_t_line) (F : Fx p m c cX4_readNumber 4 s ([.ref a_t, .int n1] : List Value).toArray RX4 D k) (hr : meth.sig.returnType = (some .boolean)) (hlk : meth.locks = false) (hA : ∀ q : Nat, s.heap.size ≤ q → A q) :
    ∀ (i_t_reader : Nat → Int32) (j_t_reader : Nat → Int64) (i_t_line : Nat → Int32) (x1 : Int32) (H : Heap) (locs : List Loc) (ls : Array Slot), j_LineReader_readNumber_12 i_t_reader j_t_reader r_t_reader_text i_t_line x1 Q → Bd D A s.heap (wd_LineReader_readNumber k a_t d_t w_t i_t w_t_reader i_t_reader j_t_reader a_t_reader_text r_t_reader_text a_t_line d_t_line i_t_line) H locs → lv_has ls 4 [(0, .ref a_t), (1, .int x1)] → W p l e { frames := 4, cells := 0, slots := 0, locals := 87 } s m ([.ref a_t, .int n1] : List Value).toArray below meth c H locs 0 0 (Ei below (fun r w => (r = 0 ∨ r = 1) ∧ (∃ (i_t_reader : Nat → Int32), ∃ (j_t_reader : Nat → Int64), ∃ (i_t_line : Nat → Int32), w = (wd_LineReader_readNumber k a_t d_t w_t i_t w_t_reader i_t_reader j_t_reader a_t_reader_text r_t_reader_text a_t_line d_t_line i_t_line) ∧ Q r i_t_reader j_t_reader i_t_line)) D k A ([.ref a_t, .int n1] : List Value).toArray s 0 0) (F0 m 12 ls []) := by
  have hx := F.x
  have hb := F.b
  intro i_t_reader j_t_reader i_t_line x1 H locs ls hf hB hl
  unfold j_LineReader_readNumber_12 at hf
  refine lv_iconst (v := 0) hx hb dX4_readNumber_12 (by decide) ?_
  refine lv_goto (tgt := 17) hx hb dX4_readNumber_13 (by decide) ?_
  exact jt_LineReader_readNumber_17 hw_t_reader_text hw_t_line F hr hlk hA _ _ _ _ _ _ _ _ hf hB (lv_sub hl [0, 1] rfl)

set_option maxRecDepth 100000 in
set_option maxHeartbeats 4000000 in
theorem c_LineReader_readNumber (l : Launch) (D : va_G) (k : Nat → ClassId) (a_t : Nat) (d_t : Nat → Nat) (w_t : Nat → Value) (i_t : Nat → Int32) (w_t_reader : Nat → Value) (i_t_reader : Nat → Int32) (j_t_reader : Nat → Int64) (a_t_reader_text : Nat) (r_t_reader_text : Nat → Int32) (a_t_line : Nat) (d_t_line : Nat → Nat) (i_t_line : Nat → Int32) (n1 : Int32) (Q : Int32 → (Nat → Int32) → (Nat → Int64) → (Nat → Int32) → Prop) (hw_t_reader_text : w_t_reader 0 = .ref a_t_reader_text) (hw_t_line : w_t 3 = .ref a_t_line) (hf : w_LineReader_readNumber i_t_reader j_t_reader r_t_reader_text i_t_line n1 Q) : CtI l yX4_readNumber cX4_readNumber 4 (some .boolean) 4 87 0 0 D k [.ref a_t, .int n1] (wd_LineReader_readNumber k a_t d_t w_t i_t w_t_reader i_t_reader j_t_reader a_t_reader_text r_t_reader_text a_t_line d_t_line i_t_line) (fun r w => (r = 0 ∨ r = 1) ∧ (∃ (i_t_reader : Nat → Int32), ∃ (j_t_reader : Nat → Int64), ∃ (i_t_line : Nat → Int32), w = (wd_LineReader_readNumber k a_t d_t w_t i_t w_t_reader i_t_reader j_t_reader a_t_reader_text r_t_reader_text a_t_line d_t_line i_t_line) ∧ Q r i_t_reader j_t_reader i_t_line)) := by
  refine CtI.of (by decide) (Nat.le_of_ble_eq_true rfl) ?_
  intro p e s m below meth c A F hr hlk hnm hA hB ls hl
  have hx := F.x
  have hb := F.b
  unfold w_LineReader_readNumber at hf
  replace hl : lv_has ls 4 [(0, .ref a_t), (1, .int n1)] := hl
  refine lv_iload_n hx hb dX4_readNumber_0 rfl (lv_at hl 1 rfl) ?_
  refine lv_bipush (v := 6) hx hb dX4_readNumber_1 (by decide) ?_
  refine lv_icmp_eq (tgt := 12) hx hb dX4_readNumber_3 (by decide) (fun c_12 => ?_) (fun c_12 => ?_)
  · replace hf := hf.1 c_12
    exact jt_LineReader_readNumber_12 hw_t_reader_text hw_t_line F hr hlk hA _ _ _ _ _ _ _ hf hB (lv_sub hl [0, 1] rfl)
  · replace hf := hf.2 c_12
    refine lv_iload_n hx hb dX4_readNumber_6 rfl (lv_at hl 1 rfl) ?_
    refine lv_bipush (v := 7) hx hb dX4_readNumber_7 (by decide) ?_
    refine lv_icmp_ne (tgt := 16) hx hb dX4_readNumber_9 (by decide) (fun c_11 => ?_) (fun c_11 => ?_)
    · replace hf := hf.1 c_11
      refine lv_iconst (v := 1) hx hb dX4_readNumber_16 (by decide) ?_
      exact jt_LineReader_readNumber_17 hw_t_reader_text hw_t_line F hr hlk hA _ _ _ _ _ _ _ _ hf hB (lv_sub hl [0, 1] rfl)
    · replace hf := hf.2 c_11
      exact jt_LineReader_readNumber_12 hw_t_reader_text hw_t_line F hr hlk hA _ _ _ _ _ _ _ hf hB (lv_sub hl [0, 1] rfl)

