/-! LongTrain.grade -/
abbrev wd_LongTrain_grade (k : Nat → ClassId) (a_t : Nat) (d_t : Nat → Nat) (w_t : Nat → Value) (i_t : Nat → Int32) (d_t_now : Nat → Nat) (w_t_now : Nat → Value) (a_t_now_line : Nat) (d_t_now_line : Nat → Nat) (i_t_now_line : Nat → Int32) (r_t_now_line_grades : Nat → Int32) : va_W := [(a_t, ob 11 (vmx 11 d_t w_t) i_t j0), ((d_t 5), ob 9 (vmx 9 d_t_now w_t_now) i0 j0), (a_t_now_line, ob 3 (rfd d_t_now_line) i_t_now_line j0), ((d_t_now_line 0), ai k 400 r_t_now_line_grades)]

def w_LongTrain_grade (i_t_now_line : Nat → Int32) (r_t_now_line_grades : Nat → Int32) (n1 : Int32) (Q : Int32 → Prop) (X : Prop) : Prop :=
  (((n1 < (-999 : Int32)) → X) ∧ ((¬ (n1 < (-999 : Int32))) → (((n1 < (i_t_now_line 1)) → (w_Line_gradeOf i_t_now_line r_t_now_line_grades n1 (fun (z_1 : Int32) => (Q z_1)))) ∧ ((¬ (n1 < (i_t_now_line 1))) → X))))

set_option maxRecDepth 100000 in
set_option maxHeartbeats 4000000 in
theorem cx_LongTrain_grade (l : Launch) (hst : l.stackTraces = false) (D : va_G) (k : Nat → ClassId)  (K : Nat → Nat) (a_t : Nat) (d_t : Nat → Nat) (w_t : Nat → Value) (i_t : Nat → Int32) (d_t_now : Nat → Nat) (w_t_now : Nat → Value) (a_t_now_line : Nat) (d_t_now_line : Nat → Nat) (i_t_now_line : Nat → Int32) (r_t_now_line_grades : Nat → Int32) (n1 : Int32) (Q : Int32 → Prop) (hw_t_now_line : w_t_now 0 = .ref a_t_now_line) (X : Prop) (hf : w_LongTrain_grade i_t_now_line r_t_now_line_grades n1 Q X) : CxI l yX11_grade cX11_grade 2 (some .int) 6 90 D k K [.ref a_t, .int n1] (wd_LongTrain_grade k a_t d_t w_t i_t d_t_now w_t_now a_t_now_line d_t_now_line i_t_now_line r_t_now_line_grades) (fun r w => w = (wd_LongTrain_grade k a_t d_t w_t i_t d_t_now w_t_now a_t_now_line d_t_now_line i_t_now_line r_t_now_line_grades) ∧ Q r) X := by
  refine CxI.of (by decide) (Nat.le_of_ble_eq_true rfl) ?_
  intro p e s m below meth c A F hr hlk hA hE hno hB ls hl
  have hx := F.x
  have hb := F.b
  unfold w_LongTrain_grade at hf
  replace hl : lv_has ls 2 [(0, .ref a_t), (1, .int n1)] := hl
  refine lv_iload_n hx hb dX11_grade_0 rfl (lv_at hl 1 rfl) ?_
  refine lv_sipush (v := -999) hx hb dX11_grade_1 (by decide) ?_
  refine lv_icmp_lt (tgt := 21) hx hb dX11_grade_4 (by decide) (fun c_3 => ?_) (fun c_3 => ?_)
  · replace hf := hf.1 c_3
    exact rx_t hst F hlk hE hno hB hf hl.1 dX11_grade_21 dX11_grade_24 dX11_grade_25 dX11_grade_28 (by decide) (Nat.le_of_ble_eq_true rfl) (Nat.le_of_ble_eq_true rfl) (Nat.le_of_ble_eq_true rfl) (Nat.le_of_ble_eq_true rfl) (Nat.le_of_ble_eq_true rfl)
  · replace hf := hf.2 c_3
    refine lv_iload_n hx hb dX11_grade_7 rfl (lv_at hl 1 rfl) ?_
    refine lv_aload_n hx hb dX11_grade_8 rfl (lv_at hl 0 rfl) ?_
    refine g_get (w := .ref (d_t 5)) F hB 0 rfl fl_RX11_30 rfl dX11_grade_9 ?_
    refine g_get (w := .ref a_t_now_line) F hB 1 rfl fl_RX11_105 hw_t_now_line dX11_grade_12 ?_
    refine g_get (w := .int (i_t_now_line 1)) F hB 2 rfl fl_RX11_121 rfl dX11_grade_15 ?_
    refine lv_icmp_lt (tgt := 29) hx hb dX11_grade_18 (by decide) (fun c_2 => ?_) (fun c_2 => ?_)
    · replace hf := hf.1 c_2
      refine lv_aload_n hx hb dX11_grade_29 rfl (lv_at hl 0 rfl) ?_
      refine g_get (w := .ref (d_t 5)) F hB 0 rfl fl_RX11_30 rfl dX11_grade_30 ?_
      refine g_get (w := .ref a_t_now_line) F hB 1 rfl fl_RX11_105 hw_t_now_line dX11_grade_33 ?_
      refine lv_iload_n hx hb dX11_grade_36 rfl (lv_at hl 1 rfl) ?_
      refine k_vi (wr := [(a_t, ob 11 (vmx 11 d_t w_t) i_t j0), ((d_t 5), ob 9 (vmx 9 d_t_now w_t_now) i0 j0)]) (rest := []) F hA hB (c_Line_gradeOf l D k a_t_now_line d_t_now_line i_t_now_line r_t_now_line_grades n1 _  hf) ml_RX11_127 mv_yX3_gradeOf [2, 3] [0, 1] rfl rfl (by decide) (by decide) (by decide) 2 rfl rfl rfl hl.1 rfl (Nat.le_of_ble_eq_true rfl) ⟨Nat.le_of_ble_eq_true rfl, Nat.le_of_ble_eq_true rfl⟩ ⟨Nat.le_of_ble_eq_true rfl, Nat.le_of_ble_eq_true rfl⟩ dX11_grade_37 (fun z_1 w1 H locs hq hB => ?_)
      obtain ⟨rfl, hf⟩ := hq
      replace hB : Bd D A s.heap (wd_LongTrain_grade k a_t d_t w_t i_t d_t_now w_t_now a_t_now_line d_t_now_line i_t_now_line r_t_now_line_grades) H locs := hB.sub [0, 1, 2, 3] (by decide) rfl
      exact rx_i F hr hlk hB ⟨rfl, hf⟩ (Nat.le_of_ble_eq_true rfl) (Nat.le_of_ble_eq_true rfl) dX11_grade_40
    · replace hf := hf.2 c_2
      exact rx_t hst F hlk hE hno hB hf hl.1 dX11_grade_21 dX11_grade_24 dX11_grade_25 dX11_grade_28 (by decide) (Nat.le_of_ble_eq_true rfl) (Nat.le_of_ble_eq_true rfl) (Nat.le_of_ble_eq_true rfl) (Nat.le_of_ble_eq_true rfl) (Nat.le_of_ble_eq_true rfl)

/-! LongTrain.halt -/
abbrev wd_LongTrain_halt (k : Nat → ClassId) (a_t : Nat) (d_t : Nat → Nat) (w_t : Nat → Value) (i_t : Nat → Int32) (d_t_now : Nat → Nat) (w_t_now : Nat → Value) (a_t_now_line : Nat) (d_t_now_line : Nat → Nat) (i_t_now_line : Nat → Int32) (r_t_now_line_halts : Nat → Int32) : va_W := [(a_t, ob 11 (vmx 11 d_t w_t) i_t j0), ((d_t 5), ob 9 (vmx 9 d_t_now w_t_now) i0 j0), (a_t_now_line, ob 3 (rfd d_t_now_line) i_t_now_line j0), ((d_t_now_line 2), ai k 30 r_t_now_line_halts)]

def w_LongTrain_halt (i_t_now_line : Nat → Int32) (r_t_now_line_halts : Nat → Int32) (n1 : Int32) (n2 : Int32) (Q : Int32 → Prop) (X : Prop) : Prop :=
  (w_LongTrain_isHalt i_t_now_line n1 (fun (z_1 : Int32) => (((z_1 = 0) → X) ∧ ((¬ (z_1 = 0)) → (((n2 < 0) → X) ∧ ((¬ (n2 < 0)) → (((n2 ≤ (2 : Int32)) → (vp_in (((3 : Int32) * n1) + n2) 30 ∧ (Q (r_t_now_line_halts ((((3 : Int32) * n1) + n2)).toNatClampNeg)))) ∧ ((¬ (n2 ≤ (2 : Int32))) → X))))))))

set_option maxRecDepth 100000 in
set_option maxHeartbeats 4000000 in
theorem cx_LongTrain_halt (l : Launch) (hst : l.stackTraces = false) (D : va_G) (k : Nat → ClassId)  (K : Nat → Nat) (a_t : Nat) (d_t : Nat → Nat) (w_t : Nat → Value) (i_t : Nat → Int32) (d_t_now : Nat → Nat) (w_t_now : Nat → Value) (a_t_now_line : Nat) (d_t_now_line : Nat → Nat) (i_t_now_line : Nat → Int32) (r_t_now_line_halts : Nat → Int32) (n1 : Int32) (n2 : Int32) (Q : Int32 → Prop) (hw_t_now_line : w_t_now 0 = .ref a_t_now_line) (X : Prop) (hf : w_LongTrain_halt i_t_now_line r_t_now_line_halts n1 n2 Q X) : CxI l yX11_halt cX11_halt 3 (some .int) 6 90 D k K [.ref a_t, .int n1, .int n2] (wd_LongTrain_halt k a_t d_t w_t i_t d_t_now w_t_now a_t_now_line d_t_now_line i_t_now_line r_t_now_line_halts) (fun r w => w = (wd_LongTrain_halt k a_t d_t w_t i_t d_t_now w_t_now a_t_now_line d_t_now_line i_t_now_line r_t_now_line_halts) ∧ Q r) X := by
  refine CxI.of (by decide) (Nat.le_of_ble_eq_true rfl) ?_
  intro p e s m below meth c A F hr hlk hA hE hno hB ls hl
  have hx := F.x
  have hb := F.b
  unfold w_LongTrain_halt at hf
  replace hl : lv_has ls 3 [(0, .ref a_t), (1, .int n1), (2, .int n2)] := hl
  refine lv_aload_n hx hb dX11_halt_0 rfl (lv_at hl 0 rfl) ?_
  refine lv_iload_n hx hb dX11_halt_1 rfl (lv_at hl 1 rfl) ?_
  refine k_vi (wr := [((d_t_now_line 2), ai k 30 r_t_now_line_halts)]) (rest := []) F hA hB (c_LongTrain_isHalt l D k a_t d_t w_t i_t d_t_now w_t_now a_t_now_line d_t_now_line i_t_now_line n1 _ hw_t_now_line hf) ml_RX11_131 mv_yX11_isHalt [0, 1, 2] [3] rfl rfl (by decide) (by decide) (by decide) 0 rfl rfl rfl hl.1 rfl (Nat.le_of_ble_eq_true rfl) ⟨Nat.le_of_ble_eq_true rfl, Nat.le_of_ble_eq_true rfl⟩ ⟨Nat.le_of_ble_eq_true rfl, Nat.le_of_ble_eq_true rfl⟩ dX11_halt_2 (fun z_1 w1 H locs hq hB => ?_)
  obtain ⟨h_2, rfl, hf⟩ := hq
  replace hB : Bd D A s.heap (wd_LongTrain_halt k a_t d_t w_t i_t d_t_now w_t_now a_t_now_line d_t_now_line i_t_now_line r_t_now_line_halts) H locs := hB.sub [1, 2, 3, 0] (by decide) rfl
  refine lv_if_eq (tgt := 17) hx hb dX11_halt_5 (by decide) (fun c_6 => ?_) (fun c_6 => ?_)
  · replace hf := hf.1 c_6
    exact rx_t hst F hlk hE hno hB hf hl.1 dX11_halt_17 dX11_halt_20 dX11_halt_21 dX11_halt_24 (by decide) (Nat.le_of_ble_eq_true rfl) (Nat.le_of_ble_eq_true rfl) (Nat.le_of_ble_eq_true rfl) (Nat.le_of_ble_eq_true rfl) (Nat.le_of_ble_eq_true rfl)
  · replace hf := hf.2 c_6
    refine lv_iload_n hx hb dX11_halt_8 rfl (lv_at hl 2 rfl) ?_
    refine lv_if_lt (tgt := 17) hx hb dX11_halt_9 (by decide) (fun c_5 => ?_) (fun c_5 => ?_)
    · replace hf := hf.1 c_5
      exact rx_t hst F hlk hE hno hB hf hl.1 dX11_halt_17 dX11_halt_20 dX11_halt_21 dX11_halt_24 (by decide) (Nat.le_of_ble_eq_true rfl) (Nat.le_of_ble_eq_true rfl) (Nat.le_of_ble_eq_true rfl) (Nat.le_of_ble_eq_true rfl) (Nat.le_of_ble_eq_true rfl)
    · replace hf := hf.2 c_5
      refine lv_iload_n hx hb dX11_halt_12 rfl (lv_at hl 2 rfl) ?_
      refine lv_iconst (v := 2) hx hb dX11_halt_13 (by decide) ?_
      refine lv_icmp_le (tgt := 25) hx hb dX11_halt_14 (by decide) (fun c_4 => ?_) (fun c_4 => ?_)
      · replace hf := hf.1 c_4
        refine lv_aload_n hx hb dX11_halt_25 rfl (lv_at hl 0 rfl) ?_
        refine g_get (w := .ref (d_t 5)) F hB 0 rfl fl_RX11_30 rfl dX11_halt_26 ?_
        refine g_get (w := .ref a_t_now_line) F hB 1 rfl fl_RX11_105 hw_t_now_line dX11_halt_29 ?_
        refine g_get (w := .ref (d_t_now_line 2)) F hB 2 rfl fl_RX11_135 rfl dX11_halt_32 ?_
        refine lv_iconst (v := 3) hx hb dX11_halt_35 (by decide) ?_
        refine lv_iload_n hx hb dX11_halt_36 rfl (lv_at hl 1 rfl) ?_
        refine lv_imul hx hb dX11_halt_37 ?_
        refine lv_iload_n hx hb dX11_halt_38 rfl (lv_at hl 2 rfl) ?_
        refine lv_iadd hx hb dX11_halt_39 ?_
        obtain ⟨h_3, hf⟩ := hf
        refine g_iald F hB 3 rfl h_3 dX11_halt_40 ?_
        exact rx_i F hr hlk hB ⟨rfl, hf⟩ (Nat.le_of_ble_eq_true rfl) (Nat.le_of_ble_eq_true rfl) dX11_halt_41
      · replace hf := hf.2 c_4
        exact rx_t hst F hlk hE hno hB hf hl.1 dX11_halt_17 dX11_halt_20 dX11_halt_21 dX11_halt_24 (by decide) (Nat.le_of_ble_eq_true rfl) (Nat.le_of_ble_eq_true rfl) (Nat.le_of_ble_eq_true rfl) (Nat.le_of_ble_eq_true rfl) (Nat.le_of_ble_eq_true rfl)

/-! LongTrain.kind -/
abbrev wd_LongTrain_kind (k : Nat → ClassId) (a_t : Nat) (d_t : Nat → Nat) (w_t : Nat → Value) (i_t : Nat → Int32) (d_t_now : Nat → Nat) (w_t_now : Nat → Value) (a_t_now_line : Nat) (d_t_now_line : Nat → Nat) (i_t_now_line : Nat → Int32) (r_t_now_line_kinds : Nat → Int32) : va_W := [(a_t, ob 11 (vmx 11 d_t w_t) i_t j0), ((d_t 5), ob 9 (vmx 9 d_t_now w_t_now) i0 j0), (a_t_now_line, ob 3 (rfd d_t_now_line) i_t_now_line j0), ((d_t_now_line 6), ai k 18 r_t_now_line_kinds)]

def w_LongTrain_kind (i_t_now_line : Nat → Int32) (r_t_now_line_kinds : Nat → Int32) (n1 : Int32) (n2 : Int32) (Q : Int32 → Prop) (X : Prop) : Prop :=
  (w_LongTrain_isKind i_t_now_line n1 (fun (z_1 : Int32) => (((z_1 = 0) → X) ∧ ((¬ (z_1 = 0)) → (((n2 < 0) → X) ∧ ((¬ (n2 < 0)) → (((n2 ≤ (2 : Int32)) → (vp_in (((3 : Int32) * n1) + n2) 18 ∧ (Q (r_t_now_line_kinds ((((3 : Int32) * n1) + n2)).toNatClampNeg)))) ∧ ((¬ (n2 ≤ (2 : Int32))) → X))))))))

set_option maxRecDepth 100000 in
set_option maxHeartbeats 4000000 in
theorem cx_LongTrain_kind (l : Launch) (hst : l.stackTraces = false) (D : va_G) (k : Nat → ClassId)  (K : Nat → Nat) (a_t : Nat) (d_t : Nat → Nat) (w_t : Nat → Value) (i_t : Nat → Int32) (d_t_now : Nat → Nat) (w_t_now : Nat → Value) (a_t_now_line : Nat) (d_t_now_line : Nat → Nat) (i_t_now_line : Nat → Int32) (r_t_now_line_kinds : Nat → Int32) (n1 : Int32) (n2 : Int32) (Q : Int32 → Prop) (hw_t_now_line : w_t_now 0 = .ref a_t_now_line) (X : Prop) (hf : w_LongTrain_kind i_t_now_line r_t_now_line_kinds n1 n2 Q X) : CxI l yX11_kind cX11_kind 3 (some .int) 6 90 D k K [.ref a_t, .int n1, .int n2] (wd_LongTrain_kind k a_t d_t w_t i_t d_t_now w_t_now a_t_now_line d_t_now_line i_t_now_line r_t_now_line_kinds) (fun r w => w = (wd_LongTrain_kind k a_t d_t w_t i_t d_t_now w_t_now a_t_now_line d_t_now_line i_t_now_line r_t_now_line_kinds) ∧ Q r) X := by
  refine CxI.of (by decide) (Nat.le_of_ble_eq_true rfl) ?_
  intro p e s m below meth c A F hr hlk hA hE hno hB ls hl
  have hx := F.x
  have hb := F.b
  unfold w_LongTrain_kind at hf
  replace hl : lv_has ls 3 [(0, .ref a_t), (1, .int n1), (2, .int n2)] := hl
  refine lv_aload_n hx hb dX11_kind_0 rfl (lv_at hl 0 rfl) ?_
  refine lv_iload_n hx hb dX11_kind_1 rfl (lv_at hl 1 rfl) ?_
  refine k_vi (wr := [((d_t_now_line 6), ai k 18 r_t_now_line_kinds)]) (rest := []) F hA hB (c_LongTrain_isKind l D k a_t d_t w_t i_t d_t_now w_t_now a_t_now_line d_t_now_line i_t_now_line n1 _ hw_t_now_line hf) ml_RX11_141 mv_yX11_isKind [0, 1, 2] [3] rfl rfl (by decide) (by decide) (by decide) 0 rfl rfl rfl hl.1 rfl (Nat.le_of_ble_eq_true rfl) ⟨Nat.le_of_ble_eq_true rfl, Nat.le_of_ble_eq_true rfl⟩ ⟨Nat.le_of_ble_eq_true rfl, Nat.le_of_ble_eq_true rfl⟩ dX11_kind_2 (fun z_1 w1 H locs hq hB => ?_)
  obtain ⟨h_2, rfl, hf⟩ := hq
  replace hB : Bd D A s.heap (wd_LongTrain_kind k a_t d_t w_t i_t d_t_now w_t_now a_t_now_line d_t_now_line i_t_now_line r_t_now_line_kinds) H locs := hB.sub [1, 2, 3, 0] (by decide) rfl
  refine lv_if_eq (tgt := 17) hx hb dX11_kind_5 (by decide) (fun c_6 => ?_) (fun c_6 => ?_)
  · replace hf := hf.1 c_6
    exact rx_t hst F hlk hE hno hB hf hl.1 dX11_kind_17 dX11_kind_20 dX11_kind_21 dX11_kind_24 (by decide) (Nat.le_of_ble_eq_true rfl) (Nat.le_of_ble_eq_true rfl) (Nat.le_of_ble_eq_true rfl) (Nat.le_of_ble_eq_true rfl) (Nat.le_of_ble_eq_true rfl)
  · replace hf := hf.2 c_6
    refine lv_iload_n hx hb dX11_kind_8 rfl (lv_at hl 2 rfl) ?_
    refine lv_if_lt (tgt := 17) hx hb dX11_kind_9 (by decide) (fun c_5 => ?_) (fun c_5 => ?_)
    · replace hf := hf.1 c_5
      exact rx_t hst F hlk hE hno hB hf hl.1 dX11_kind_17 dX11_kind_20 dX11_kind_21 dX11_kind_24 (by decide) (Nat.le_of_ble_eq_true rfl) (Nat.le_of_ble_eq_true rfl) (Nat.le_of_ble_eq_true rfl) (Nat.le_of_ble_eq_true rfl) (Nat.le_of_ble_eq_true rfl)
    · replace hf := hf.2 c_5
      refine lv_iload_n hx hb dX11_kind_12 rfl (lv_at hl 2 rfl) ?_
      refine lv_iconst (v := 2) hx hb dX11_kind_13 (by decide) ?_
      refine lv_icmp_le (tgt := 25) hx hb dX11_kind_14 (by decide) (fun c_4 => ?_) (fun c_4 => ?_)
      · replace hf := hf.1 c_4
        refine lv_aload_n hx hb dX11_kind_25 rfl (lv_at hl 0 rfl) ?_
        refine g_get (w := .ref (d_t 5)) F hB 0 rfl fl_RX11_30 rfl dX11_kind_26 ?_
        refine g_get (w := .ref a_t_now_line) F hB 1 rfl fl_RX11_105 hw_t_now_line dX11_kind_29 ?_
        refine g_get (w := .ref (d_t_now_line 6)) F hB 2 rfl fl_RX11_144 rfl dX11_kind_32 ?_
        refine lv_iconst (v := 3) hx hb dX11_kind_35 (by decide) ?_
        refine lv_iload_n hx hb dX11_kind_36 rfl (lv_at hl 1 rfl) ?_
        refine lv_imul hx hb dX11_kind_37 ?_
        refine lv_iload_n hx hb dX11_kind_38 rfl (lv_at hl 2 rfl) ?_
        refine lv_iadd hx hb dX11_kind_39 ?_
        obtain ⟨h_3, hf⟩ := hf
        refine g_iald F hB 3 rfl h_3 dX11_kind_40 ?_
        exact rx_i F hr hlk hB ⟨rfl, hf⟩ (Nat.le_of_ble_eq_true rfl) (Nat.le_of_ble_eq_true rfl) dX11_kind_41
      · replace hf := hf.2 c_4
        exact rx_t hst F hlk hE hno hB hf hl.1 dX11_kind_17 dX11_kind_20 dX11_kind_21 dX11_kind_24 (by decide) (Nat.le_of_ble_eq_true rfl) (Nat.le_of_ble_eq_true rfl) (Nat.le_of_ble_eq_true rfl) (Nat.le_of_ble_eq_true rfl) (Nat.le_of_ble_eq_true rfl)

/-! LongTrain.wagon -/
abbrev wd_LongTrain_wagon (k : Nat → ClassId) (a_t : Nat) (d_t : Nat → Nat) (w_t : Nat → Value) (i_t : Nat → Int32) (d_t_now : Nat → Nat) (w_t_now : Nat → Value) (d_t_now_train : Nat → Nat) (i_t_now_train : Nat → Int32) (d_t_now_train_row : Nat → Nat) (i_t_now_train_row : Nat → Int32) (r_t_now_train_row_kinds : Nat → Int32) (r_t_now_train_row_wears : Nat → Int32) (r_t_now_train_row_longs : Nat → Int32) (a_t_now_line : Nat) (d_t_now_line : Nat → Nat) (i_t_now_line : Nat → Int32) (r_t_now_train_row_weights : Nat → Int32) (r_t_now_line_grades : Nat → Int32) (r_t_now_train_row_pushes : Nat → Int32) (r_t_now_train_row_bears : Nat → Int32) : va_W := [(a_t, ob 11 (vmx 11 d_t w_t) i_t j0), ((d_t 5), ob 9 (vmx 9 d_t_now w_t_now) i0 j0), ((d_t_now 2), ob 10 (rfd d_t_now_train) i_t_now_train j0), ((d_t_now_train 0), ob 8 (rfd d_t_now_train_row) i_t_now_train_row j0), ((d_t_now_train_row 0), ai k 20 r_t_now_train_row_kinds), ((d_t_now_train_row 4), ai k 20 r_t_now_train_row_wears), ((d_t_now_train_row 1), ai k 20 r_t_now_train_row_longs), (a_t_now_line, ob 3 (rfd d_t_now_line) i_t_now_line j0), ((d_t_now_train_row 2), ai k 20 r_t_now_train_row_weights), ((d_t_now_line 0), ai k 400 r_t_now_line_grades), ((d_t_now_train_row 5), ai k 20 r_t_now_train_row_pushes), ((d_t_now_train_row 7), ai k 20 r_t_now_train_row_bears)]

def w_LongTrain_wagon (i_t_now_train_row : Nat → Int32) (r_t_now_train_row_kinds : Nat → Int32) (r_t_now_train_row_wears : Nat → Int32) (r_t_now_train_row_longs : Nat → Int32) (i_t_now_line : Nat → Int32) (r_t_now_train_row_weights : Nat → Int32) (r_t_now_line_grades : Nat → Int32) (r_t_now_train_row_pushes : Nat → Int32) (r_t_now_train_row_bears : Nat → Int32) (n1 : Int32) (n2 : Int32) (Q : Int32 → (Nat → Int32) → Prop) (X : Prop) : Prop :=
  (((n1 < 0) → X) ∧ ((¬ (n1 < 0)) → ((((i_t_now_train_row 8) ≤ n1) → X) ∧ ((¬ ((i_t_now_train_row 8) ≤ n1)) → (((n2 < 0) → X) ∧ ((¬ (n2 < 0)) → (((n2 ≤ (4 : Int32)) → ((n2 = 0 → (vp_in n1 20 ∧ (Q (r_t_now_train_row_kinds (n1).toNatClampNeg) r_t_now_train_row_bears))) ∧ (¬ n2 = 0 → ((n2 = 1 → (w_Row_foremostUnit i_t_now_train_row r_t_now_train_row_longs n1 (fun (z_4 : Int32) => (Q z_4 r_t_now_train_row_bears)))) ∧ (¬ n2 = 1 → ((n2 = 2 → (w_Row_borneBy i_t_now_train_row i_t_now_line r_t_now_train_row_longs r_t_now_line_grades r_t_now_train_row_weights r_t_now_train_row_pushes r_t_now_train_row_bears n1 (fun (z_7 : Int32) (r_t_now_train_row_bears_6 : Nat → Int32) => (Q z_7 r_t_now_train_row_bears_6)))) ∧ (¬ n2 = 2 → ((n2 = 3 → (vp_in n1 20 ∧ (Q (r_t_now_train_row_wears (n1).toNatClampNeg) r_t_now_train_row_bears))) ∧ (¬ n2 = 3 → (vp_in n1 20 ∧ (w_Row_foremostUnit i_t_now_train_row r_t_now_train_row_longs n1 (fun (z_11 : Int32) => (w_Line_dragOf i_t_now_line r_t_now_line_grades (r_t_now_train_row_weights (n1).toNatClampNeg) z_11 (fun (z_12 : Int32) => (Q z_12 r_t_now_train_row_bears))))))))))))))) ∧ ((¬ (n2 ≤ (4 : Int32))) → X))))))))

set_option maxRecDepth 100000 in
set_option maxHeartbeats 4000000 in
theorem cx_LongTrain_wagon (l : Launch) (hst : l.stackTraces = false) (D : va_G) (k : Nat → ClassId)  (K : Nat → Nat) (a_t : Nat) (d_t : Nat → Nat) (w_t : Nat → Value) (i_t : Nat → Int32) (d_t_now : Nat → Nat) (w_t_now : Nat → Value) (d_t_now_train : Nat → Nat) (i_t_now_train : Nat → Int32) (d_t_now_train_row : Nat → Nat) (i_t_now_train_row : Nat → Int32) (r_t_now_train_row_kinds : Nat → Int32) (r_t_now_train_row_wears : Nat → Int32) (r_t_now_train_row_longs : Nat → Int32) (a_t_now_line : Nat) (d_t_now_line : Nat → Nat) (i_t_now_line : Nat → Int32) (r_t_now_train_row_weights : Nat → Int32) (r_t_now_line_grades : Nat → Int32) (r_t_now_train_row_pushes : Nat → Int32) (r_t_now_train_row_bears : Nat → Int32) (n1 : Int32) (n2 : Int32) (Q : Int32 → (Nat → Int32) → Prop) (hw_t_now_line : w_t_now 0 = .ref a_t_now_line) (X : Prop) (hf : w_LongTrain_wagon i_t_now_train_row r_t_now_train_row_kinds r_t_now_train_row_wears r_t_now_train_row_longs i_t_now_line r_t_now_train_row_weights r_t_now_line_grades r_t_now_train_row_pushes r_t_now_train_row_bears n1 n2 Q X) : CxI l yX11_wagon cX11_wagon 4 (some .int) 6 90 D k K [.ref a_t, .int n1, .int n2] (wd_LongTrain_wagon k a_t d_t w_t i_t d_t_now w_t_now d_t_now_train i_t_now_train d_t_now_train_row i_t_now_train_row r_t_now_train_row_kinds r_t_now_train_row_wears r_t_now_train_row_longs a_t_now_line d_t_now_line i_t_now_line r_t_now_train_row_weights r_t_now_line_grades r_t_now_train_row_pushes r_t_now_train_row_bears) (fun r w => ∃ (r_t_now_train_row_bears : Nat → Int32), w = (wd_LongTrain_wagon k a_t d_t w_t i_t d_t_now w_t_now d_t_now_train i_t_now_train d_t_now_train_row i_t_now_train_row r_t_now_train_row_kinds r_t_now_train_row_wears r_t_now_train_row_longs a_t_now_line d_t_now_line i_t_now_line r_t_now_train_row_weights r_t_now_line_grades r_t_now_train_row_pushes r_t_now_train_row_bears) ∧ Q r r_t_now_train_row_bears) X := by
  refine CxI.of (by decide) (Nat.le_of_ble_eq_true rfl) ?_
  intro p e s m below meth c A F hr hlk hA hE hno hB ls hl
  have hx := F.x
  have hb := F.b
  unfold w_LongTrain_wagon at hf
  replace hl : lv_has ls 4 [(0, .ref a_t), (1, .int n1), (2, .int n2)] := hl
  refine lv_aload_n hx hb dX11_wagon_0 rfl (lv_at hl 0 rfl) ?_
  refine g_get (w := .ref (d_t 5)) F hB 0 rfl fl_RX11_30 rfl dX11_wagon_1 ?_
  refine g_get (w := .ref (d_t_now 2)) F hB 1 rfl fl_RX11_108 rfl dX11_wagon_4 ?_
  refine g_get (w := .ref (d_t_now_train 0)) F hB 2 rfl fl_RX11_150 rfl dX11_wagon_7 ?_
  refine lv_astore_n (lv' := [(3, .ref (d_t_now_train 0)), (0, .ref a_t), (1, .int n1), (2, .int n2)]) hx hb dX11_wagon_10 rfl hl (by decide) rfl (fun ls hl => ?_)
  refine lv_iload_n hx hb dX11_wagon_11 rfl (lv_at hl 2 rfl) ?_
  refine lv_if_lt (tgt := 32) hx hb dX11_wagon_12 (by decide) (fun c_16 => ?_) (fun c_16 => ?_)
  · replace hf := hf.1 c_16
    exact rx_t hst F hlk hE hno hB hf hl.1 dX11_wagon_32 dX11_wagon_35 dX11_wagon_36 dX11_wagon_39 (by decide) (Nat.le_of_ble_eq_true rfl) (Nat.le_of_ble_eq_true rfl) (Nat.le_of_ble_eq_true rfl) (Nat.le_of_ble_eq_true rfl) (Nat.le_of_ble_eq_true rfl)
  · replace hf := hf.2 c_16
    refine lv_iload_n hx hb dX11_wagon_15 rfl (lv_at hl 2 rfl) ?_
    refine lv_aload_n hx hb dX11_wagon_16 rfl (lv_at hl 0 rfl) ?_
    refine g_get (w := .int (i_t_now_train_row 8)) F hB 3 rfl fl_RX11_159 rfl dX11_wagon_17 ?_
    refine lv_icmp_ge (tgt := 32) hx hb dX11_wagon_20 (by decide) (fun c_15 => ?_) (fun c_15 => ?_)
    · replace hf := hf.1 c_15
      exact rx_t hst F hlk hE hno hB hf hl.1 dX11_wagon_32 dX11_wagon_35 dX11_wagon_36 dX11_wagon_39 (by decide) (Nat.le_of_ble_eq_true rfl) (Nat.le_of_ble_eq_true rfl) (Nat.le_of_ble_eq_true rfl) (Nat.le_of_ble_eq_true rfl) (Nat.le_of_ble_eq_true rfl)
    · replace hf := hf.2 c_15
      refine lv_iload_n hx hb dX11_wagon_23 rfl (lv_at hl 3 rfl) ?_
      refine lv_if_lt (tgt := 32) hx hb dX11_wagon_24 (by decide) (fun c_14 => ?_) (fun c_14 => ?_)
      · replace hf := hf.1 c_14
        exact rx_t hst F hlk hE hno hB hf hl.1 dX11_wagon_32 dX11_wagon_35 dX11_wagon_36 dX11_wagon_39 (by decide) (Nat.le_of_ble_eq_true rfl) (Nat.le_of_ble_eq_true rfl) (Nat.le_of_ble_eq_true rfl) (Nat.le_of_ble_eq_true rfl) (Nat.le_of_ble_eq_true rfl)
      · replace hf := hf.2 c_14
        refine lv_iload_n hx hb dX11_wagon_27 rfl (lv_at hl 3 rfl) ?_
        refine lv_iconst (v := 4) hx hb dX11_wagon_28 (by decide) ?_
        refine lv_icmp_le (tgt := 40) hx hb dX11_wagon_29 (by decide) (fun c_13 => ?_) (fun c_13 => ?_)
        · replace hf := hf.1 c_13
          refine lv_iload_n hx hb dX11_wagon_40 rfl (lv_at hl 3 rfl) ?_
          rcases Classical.em (n2 = 0) with c_1 | c_1
          · replace hf := hf.1 c_1
            refine lv_tableIn (tgt := 72) hx hb dX11_wagon_41 (by rw [c_1]; decide) (by rw [c_1]; decide) (by rw [c_1]; rfl) (by decide) ?_
            refine lv_aload_n hx hb dX11_wagon_72 rfl (lv_at hl 0 rfl) ?_
            refine g_get (w := .ref (d_t_now_train_row 0)) F hB 3 rfl fl_RX11_188 rfl dX11_wagon_73 ?_
            refine lv_iload_n hx hb dX11_wagon_76 rfl (lv_at hl 2 rfl) ?_
            obtain ⟨h_2, hf⟩ := hf
            refine g_iald F hB 4 rfl h_2 dX11_wagon_77 ?_
            exact rx_i F hr hlk hB ⟨_, rfl, hf⟩ (Nat.le_of_ble_eq_true rfl) (Nat.le_of_ble_eq_true rfl) dX11_wagon_78
          · replace hf := hf.2 c_1
            rcases Classical.em (n2 = 1) with c_3 | c_3
            · replace hf := hf.1 c_3
              refine lv_tableIn (tgt := 79) hx hb dX11_wagon_41 (by rw [c_3]; decide) (by rw [c_3]; decide) (by rw [c_3]; rfl) (by decide) ?_
              refine lv_aload_n hx hb dX11_wagon_79 rfl (lv_at hl 0 rfl) ?_
              refine lv_iload_n hx hb dX11_wagon_80 rfl (lv_at hl 2 rfl) ?_
              refine k_vi (wr := [(a_t, ob 11 (vmx 11 d_t w_t) i_t j0), ((d_t 5), ob 9 (vmx 9 d_t_now w_t_now) i0 j0), ((d_t_now 2), ob 10 (rfd d_t_now_train) i_t_now_train j0), ((d_t_now_train_row 0), ai k 20 r_t_now_train_row_kinds), ((d_t_now_train_row 4), ai k 20 r_t_now_train_row_wears), (a_t_now_line, ob 3 (rfd d_t_now_line) i_t_now_line j0), ((d_t_now_train_row 2), ai k 20 r_t_now_train_row_weights), ((d_t_now_line 0), ai k 400 r_t_now_line_grades), ((d_t_now_train_row 5), ai k 20 r_t_now_train_row_pushes), ((d_t_now_train_row 7), ai k 20 r_t_now_train_row_bears)]) (rest := []) F hA hB (c_Row_foremostUnit l D k (d_t_now_train 0) d_t_now_train_row i_t_now_train_row r_t_now_train_row_longs n1 _  hf) ml_RX11_189 mv_yX8_foremostUnit [3, 6] [0, 1, 2, 4, 5, 7, 8, 9, 10, 11] rfl rfl (by decide) (by decide) (by decide) 3 rfl rfl rfl hl.1 rfl (Nat.le_of_ble_eq_true rfl) ⟨Nat.le_of_ble_eq_true rfl, Nat.le_of_ble_eq_true rfl⟩ ⟨Nat.le_of_ble_eq_true rfl, Nat.le_of_ble_eq_true rfl⟩ dX11_wagon_81 (fun z_4 w1 H locs hq hB => ?_)
              obtain ⟨rfl, hf⟩ := hq
              replace hB : Bd D A s.heap (wd_LongTrain_wagon k a_t d_t w_t i_t d_t_now w_t_now d_t_now_train i_t_now_train d_t_now_train_row i_t_now_train_row r_t_now_train_row_kinds r_t_now_train_row_wears r_t_now_train_row_longs a_t_now_line d_t_now_line i_t_now_line r_t_now_train_row_weights r_t_now_line_grades r_t_now_train_row_pushes r_t_now_train_row_bears) H locs := hB.sub [0, 1, 2, 10, 3, 4, 11, 5, 6, 7, 8, 9] (by decide) rfl
              exact rx_i F hr hlk hB ⟨_, rfl, hf⟩ (Nat.le_of_ble_eq_true rfl) (Nat.le_of_ble_eq_true rfl) dX11_wagon_84
            · replace hf := hf.2 c_3
              rcases Classical.em (n2 = 2) with c_5 | c_5
              · replace hf := hf.1 c_5
                refine lv_tableIn (tgt := 85) hx hb dX11_wagon_41 (by rw [c_5]; decide) (by rw [c_5]; decide) (by rw [c_5]; rfl) (by decide) ?_
                refine lv_aload_n hx hb dX11_wagon_85 rfl (lv_at hl 0 rfl) ?_
                refine lv_iload_n hx hb dX11_wagon_86 rfl (lv_at hl 2 rfl) ?_
                refine lv_aload_n hx hb dX11_wagon_87 rfl (lv_at hl 1 rfl) ?_
                refine g_get (w := .ref (d_t 5)) F hB 0 rfl fl_RX11_30 rfl dX11_wagon_88 ?_
                refine g_get (w := .ref a_t_now_line) F hB 1 rfl fl_RX11_105 hw_t_now_line dX11_wagon_91 ?_
                refine k_vi (wr := [(a_t, ob 11 (vmx 11 d_t w_t) i_t j0), ((d_t 5), ob 9 (vmx 9 d_t_now w_t_now) i0 j0), ((d_t_now 2), ob 10 (rfd d_t_now_train) i_t_now_train j0), ((d_t_now_train_row 0), ai k 20 r_t_now_train_row_kinds), ((d_t_now_train_row 4), ai k 20 r_t_now_train_row_wears)]) (rest := []) F hA hB (c_Row_borneBy l D k (d_t_now_train 0) d_t_now_train_row i_t_now_train_row a_t_now_line d_t_now_line i_t_now_line r_t_now_train_row_longs r_t_now_line_grades r_t_now_train_row_weights r_t_now_train_row_pushes r_t_now_train_row_bears n1 _  hf) ml_RX11_192 mv_yX8_borneBy [3, 7, 6, 9, 8, 10, 11] [0, 1, 2, 4, 5] rfl rfl (by decide) (by decide) (by decide) 3 rfl rfl rfl hl.1 rfl (Nat.le_of_ble_eq_true rfl) ⟨Nat.le_of_ble_eq_true rfl, Nat.le_of_ble_eq_true rfl⟩ ⟨Nat.le_of_ble_eq_true rfl, Nat.le_of_ble_eq_true rfl⟩ dX11_wagon_94 (fun z_7 w1 H locs hq hB => ?_)
                obtain ⟨r_t_now_train_row_bears_6, rfl, hf⟩ := hq
                replace hB : Bd D A s.heap (wd_LongTrain_wagon k a_t d_t w_t i_t d_t_now w_t_now d_t_now_train i_t_now_train d_t_now_train_row i_t_now_train_row r_t_now_train_row_kinds r_t_now_train_row_wears r_t_now_train_row_longs a_t_now_line d_t_now_line i_t_now_line r_t_now_train_row_weights r_t_now_line_grades r_t_now_train_row_pushes r_t_now_train_row_bears_6) H locs := hB.sub [0, 1, 2, 5, 3, 4, 7, 6, 9, 8, 10, 11] (by decide) rfl
                exact rx_i F hr hlk hB ⟨_, rfl, hf⟩ (Nat.le_of_ble_eq_true rfl) (Nat.le_of_ble_eq_true rfl) dX11_wagon_97
              · replace hf := hf.2 c_5
                rcases Classical.em (n2 = 3) with c_8 | c_8
                · replace hf := hf.1 c_8
                  refine lv_tableIn (tgt := 98) hx hb dX11_wagon_41 (by rw [c_8]; decide) (by rw [c_8]; decide) (by rw [c_8]; rfl) (by decide) ?_
                  refine lv_aload_n hx hb dX11_wagon_98 rfl (lv_at hl 0 rfl) ?_
                  refine g_get (w := .ref (d_t_now_train_row 4)) F hB 3 rfl fl_RX11_196 rfl dX11_wagon_99 ?_
                  refine lv_iload_n hx hb dX11_wagon_102 rfl (lv_at hl 2 rfl) ?_
                  obtain ⟨h_9, hf⟩ := hf
                  refine g_iald F hB 5 rfl h_9 dX11_wagon_103 ?_
                  exact rx_i F hr hlk hB ⟨_, rfl, hf⟩ (Nat.le_of_ble_eq_true rfl) (Nat.le_of_ble_eq_true rfl) dX11_wagon_104
                · replace hf := hf.2 c_8
                  refine lv_tableOut (tgt := 105) hx hb dX11_wagon_41 (sw_out (fun z h1 h2 h3 => by
                      have h4 : z = 0 ∨ z = 1 ∨ z = 2 ∨ z = 3 ∨ False := by omega
                      rcases h4 with h4 | h4 | h4 | h4 | h4
                      · exact c_1 (Int32.toInt_inj.mp (h3.trans (h4.trans (by decide))))
                      · exact c_3 (Int32.toInt_inj.mp (h3.trans (h4.trans (by decide))))
                      · exact c_5 (Int32.toInt_inj.mp (h3.trans (h4.trans (by decide))))
                      · exact c_8 (Int32.toInt_inj.mp (h3.trans (h4.trans (by decide))))
                      · exact h4)) (by decide) ?_
                  refine lv_aload_n hx hb dX11_wagon_105 rfl (lv_at hl 1 rfl) ?_
                  refine g_get (w := .ref (d_t 5)) F hB 0 rfl fl_RX11_30 rfl dX11_wagon_106 ?_
                  refine g_get (w := .ref a_t_now_line) F hB 1 rfl fl_RX11_105 hw_t_now_line dX11_wagon_109 ?_
                  refine lv_aload_n hx hb dX11_wagon_112 rfl (lv_at hl 0 rfl) ?_
                  refine g_get (w := .ref (d_t_now_train_row 2)) F hB 3 rfl fl_RX11_199 rfl dX11_wagon_113 ?_
                  refine lv_iload_n hx hb dX11_wagon_116 rfl (lv_at hl 2 rfl) ?_
                  obtain ⟨h_10, hf⟩ := hf
                  refine g_iald F hB 8 rfl h_10 dX11_wagon_117 ?_
                  refine lv_aload_n hx hb dX11_wagon_118 rfl (lv_at hl 0 rfl) ?_
                  refine lv_iload_n hx hb dX11_wagon_119 rfl (lv_at hl 2 rfl) ?_
                  refine k_vi (wr := [(a_t, ob 11 (vmx 11 d_t w_t) i_t j0), ((d_t 5), ob 9 (vmx 9 d_t_now w_t_now) i0 j0), ((d_t_now 2), ob 10 (rfd d_t_now_train) i_t_now_train j0), ((d_t_now_train_row 0), ai k 20 r_t_now_train_row_kinds), ((d_t_now_train_row 4), ai k 20 r_t_now_train_row_wears), (a_t_now_line, ob 3 (rfd d_t_now_line) i_t_now_line j0), ((d_t_now_train_row 2), ai k 20 r_t_now_train_row_weights), ((d_t_now_line 0), ai k 400 r_t_now_line_grades), ((d_t_now_train_row 5), ai k 20 r_t_now_train_row_pushes), ((d_t_now_train_row 7), ai k 20 r_t_now_train_row_bears)]) (rest := [.int (r_t_now_train_row_weights (n1).toNatClampNeg), .ref a_t_now_line]) F hA hB (c_Row_foremostUnit l D k (d_t_now_train 0) d_t_now_train_row i_t_now_train_row r_t_now_train_row_longs n1 _  hf) ml_RX11_189 mv_yX8_foremostUnit [3, 6] [0, 1, 2, 4, 5, 7, 8, 9, 10, 11] rfl rfl (by decide) (by decide) (by decide) 3 rfl rfl rfl hl.1 rfl (Nat.le_of_ble_eq_true rfl) ⟨Nat.le_of_ble_eq_true rfl, Nat.le_of_ble_eq_true rfl⟩ ⟨Nat.le_of_ble_eq_true rfl, Nat.le_of_ble_eq_true rfl⟩ dX11_wagon_120 (fun z_11 w1 H locs hq hB => ?_)
                  obtain ⟨rfl, hf⟩ := hq
                  replace hB : Bd D A s.heap (wd_LongTrain_wagon k a_t d_t w_t i_t d_t_now w_t_now d_t_now_train i_t_now_train d_t_now_train_row i_t_now_train_row r_t_now_train_row_kinds r_t_now_train_row_wears r_t_now_train_row_longs a_t_now_line d_t_now_line i_t_now_line r_t_now_train_row_weights r_t_now_line_grades r_t_now_train_row_pushes r_t_now_train_row_bears) H locs := hB.sub [0, 1, 2, 10, 3, 4, 11, 5, 6, 7, 8, 9] (by decide) rfl
                  refine k_vi (wr := [(a_t, ob 11 (vmx 11 d_t w_t) i_t j0), ((d_t 5), ob 9 (vmx 9 d_t_now w_t_now) i0 j0), ((d_t_now 2), ob 10 (rfd d_t_now_train) i_t_now_train j0), ((d_t_now_train 0), ob 8 (rfd d_t_now_train_row) i_t_now_train_row j0), ((d_t_now_train_row 0), ai k 20 r_t_now_train_row_kinds), ((d_t_now_train_row 4), ai k 20 r_t_now_train_row_wears), ((d_t_now_train_row 1), ai k 20 r_t_now_train_row_longs), ((d_t_now_train_row 2), ai k 20 r_t_now_train_row_weights), ((d_t_now_train_row 5), ai k 20 r_t_now_train_row_pushes), ((d_t_now_train_row 7), ai k 20 r_t_now_train_row_bears)]) (rest := []) F hA hB (c_Line_dragOf l D k a_t_now_line d_t_now_line i_t_now_line r_t_now_line_grades (r_t_now_train_row_weights (n1).toNatClampNeg) z_11 _  hf) ml_RX11_202 mv_yX3_dragOf [7, 9] [0, 1, 2, 3, 4, 5, 6, 8, 10, 11] rfl rfl (by decide) (by decide) (by decide) 7 rfl rfl rfl hl.1 rfl (Nat.le_of_ble_eq_true rfl) ⟨Nat.le_of_ble_eq_true rfl, Nat.le_of_ble_eq_true rfl⟩ ⟨Nat.le_of_ble_eq_true rfl, Nat.le_of_ble_eq_true rfl⟩ dX11_wagon_123 (fun z_12 w1 H locs hq hB => ?_)
                  obtain ⟨rfl, hf⟩ := hq
                  replace hB : Bd D A s.heap (wd_LongTrain_wagon k a_t d_t w_t i_t d_t_now w_t_now d_t_now_train i_t_now_train d_t_now_train_row i_t_now_train_row r_t_now_train_row_kinds r_t_now_train_row_wears r_t_now_train_row_longs a_t_now_line d_t_now_line i_t_now_line r_t_now_train_row_weights r_t_now_line_grades r_t_now_train_row_pushes r_t_now_train_row_bears) H locs := hB.sub [0, 1, 2, 3, 4, 5, 6, 10, 7, 11, 8, 9] (by decide) rfl
                  exact rx_i F hr hlk hB ⟨_, rfl, hf⟩ (Nat.le_of_ble_eq_true rfl) (Nat.le_of_ble_eq_true rfl) dX11_wagon_126
        · replace hf := hf.2 c_13
          exact rx_t hst F hlk hE hno hB hf hl.1 dX11_wagon_32 dX11_wagon_35 dX11_wagon_36 dX11_wagon_39 (by decide) (Nat.le_of_ble_eq_true rfl) (Nat.le_of_ble_eq_true rfl) (Nat.le_of_ble_eq_true rfl) (Nat.le_of_ble_eq_true rfl) (Nat.le_of_ble_eq_true rfl)

/-! LongTrain.half -/
abbrev wd_LongTrain_half (k : Nat → ClassId) (a_t : Nat) (d_t : Nat → Nat) (w_t : Nat → Value) (i_t : Nat → Int32) (d_t_now : Nat → Nat) (w_t_now : Nat → Value) (d_t_now_train : Nat → Nat) (i_t_now_train : Nat → Int32) (d_t_now_train_halves : Nat → Nat) (i_t_now_train_halves : Nat → Int32) (r_t_now_train_halves_sizes : Nat → Int32) (r_t_now_train_halves_units : Nat → Int32) (a_t_now_line : Nat) (d_t_now_line : Nat → Nat) (i_t_now_line : Nat → Int32) (r_t_now_train_halves_kinds : Nat → Int32) (r_t_now_train_halves_starts : Nat → Int32) (r_t_now_line_kinds : Nat → Int32) (r_t_now_line_grades : Nat → Int32) (r_t_now_line_halts : Nat → Int32) : va_W := [(a_t, ob 11 (vmx 11 d_t w_t) i_t j0), ((d_t 5), ob 9 (vmx 9 d_t_now w_t_now) i0 j0), ((d_t_now 2), ob 10 (rfd d_t_now_train) i_t_now_train j0), ((d_t_now_train 1), ob 1 (rfd d_t_now_train_halves) i_t_now_train_halves j0), ((d_t_now_train_halves 3), ai k 20 r_t_now_train_halves_sizes), ((d_t_now_train_halves 4), ai k 20 r_t_now_train_halves_units), (a_t_now_line, ob 3 (rfd d_t_now_line) i_t_now_line j0), ((d_t_now_train_halves 0), ai k 20 r_t_now_train_halves_kinds), ((d_t_now_train_halves 2), ai k 20 r_t_now_train_halves_starts), ((d_t_now_line 6), ai k 18 r_t_now_line_kinds), ((d_t_now_line 0), ai k 400 r_t_now_line_grades), ((d_t_now_line 2), ai k 30 r_t_now_line_halts)]

def w_LongTrain_half (i_t_now_train_halves : Nat → Int32) (r_t_now_train_halves_sizes : Nat → Int32) (r_t_now_train_halves_units : Nat → Int32) (i_t_now_line : Nat → Int32) (r_t_now_train_halves_kinds : Nat → Int32) (r_t_now_train_halves_starts : Nat → Int32) (r_t_now_line_kinds : Nat → Int32) (r_t_now_line_grades : Nat → Int32) (r_t_now_line_halts : Nat → Int32) (n1 : Int32) (n2 : Int32) (Q : Int32 → Prop) (X : Prop) : Prop :=
  (((n1 < 0) → X) ∧ ((¬ (n1 < 0)) → ((((i_t_now_train_halves 5) ≤ n1) → X) ∧ ((¬ ((i_t_now_train_halves 5) ≤ n1)) → (((n2 < 0) → X) ∧ ((¬ (n2 < 0)) → (((n2 ≤ (4 : Int32)) → ((n2 = 0 → (vp_in n1 20 ∧ (Q (r_t_now_train_halves_sizes (n1).toNatClampNeg)))) ∧ (¬ n2 = 0 → ((n2 = 1 → (vp_in n1 20 ∧ (Q (r_t_now_train_halves_units (n1).toNatClampNeg)))) ∧ (¬ n2 = 1 → ((n2 = 2 → (w_Halves_unitsOf r_t_now_train_halves_sizes r_t_now_train_halves_kinds r_t_now_train_halves_starts r_t_now_line_kinds n1 (fun (z_6 : Int32) => (Q z_6)))) ∧ (¬ n2 = 2 → ((n2 = 3 → (vp_in n1 20 ∧ (w_Line_haltBehind i_t_now_line r_t_now_line_halts (r_t_now_train_halves_units (n1).toNatClampNeg) (fun (z_9 : Int32) => (Q z_9))))) ∧ (¬ n2 = 3 → (w_Halves_dragOf i_t_now_line r_t_now_train_halves_units r_t_now_train_halves_sizes r_t_now_train_halves_kinds r_t_now_train_halves_starts r_t_now_line_kinds r_t_now_line_grades n1 (fun (z_10 : Int32) => (Q z_10)))))))))))) ∧ ((¬ (n2 ≤ (4 : Int32))) → X))))))))

set_option maxRecDepth 100000 in
set_option maxHeartbeats 4000000 in
theorem cx_LongTrain_half (l : Launch) (hst : l.stackTraces = false) (D : va_G) (k : Nat → ClassId)  (K : Nat → Nat) (a_t : Nat) (d_t : Nat → Nat) (w_t : Nat → Value) (i_t : Nat → Int32) (d_t_now : Nat → Nat) (w_t_now : Nat → Value) (d_t_now_train : Nat → Nat) (i_t_now_train : Nat → Int32) (d_t_now_train_halves : Nat → Nat) (i_t_now_train_halves : Nat → Int32) (r_t_now_train_halves_sizes : Nat → Int32) (r_t_now_train_halves_units : Nat → Int32) (a_t_now_line : Nat) (d_t_now_line : Nat → Nat) (i_t_now_line : Nat → Int32) (r_t_now_train_halves_kinds : Nat → Int32) (r_t_now_train_halves_starts : Nat → Int32) (r_t_now_line_kinds : Nat → Int32) (r_t_now_line_grades : Nat → Int32) (r_t_now_line_halts : Nat → Int32) (n1 : Int32) (n2 : Int32) (Q : Int32 → Prop) (hw_t_now_line : w_t_now 0 = .ref a_t_now_line) (X : Prop) (hf : w_LongTrain_half i_t_now_train_halves r_t_now_train_halves_sizes r_t_now_train_halves_units i_t_now_line r_t_now_train_halves_kinds r_t_now_train_halves_starts r_t_now_line_kinds r_t_now_line_grades r_t_now_line_halts n1 n2 Q X) : CxI l yX11_half cX11_half 4 (some .int) 6 90 D k K [.ref a_t, .int n1, .int n2] (wd_LongTrain_half k a_t d_t w_t i_t d_t_now w_t_now d_t_now_train i_t_now_train d_t_now_train_halves i_t_now_train_halves r_t_now_train_halves_sizes r_t_now_train_halves_units a_t_now_line d_t_now_line i_t_now_line r_t_now_train_halves_kinds r_t_now_train_halves_starts r_t_now_line_kinds r_t_now_line_grades r_t_now_line_halts) (fun r w => w = (wd_LongTrain_half k a_t d_t w_t i_t d_t_now w_t_now d_t_now_train i_t_now_train d_t_now_train_halves i_t_now_train_halves r_t_now_train_halves_sizes r_t_now_train_halves_units a_t_now_line d_t_now_line i_t_now_line r_t_now_train_halves_kinds r_t_now_train_halves_starts r_t_now_line_kinds r_t_now_line_grades r_t_now_line_halts) ∧ Q r) X := by
  refine CxI.of (by decide) (Nat.le_of_ble_eq_true rfl) ?_
  intro p e s m below meth c A F hr hlk hA hE hno hB ls hl
  have hx := F.x
  have hb := F.b
  unfold w_LongTrain_half at hf
  replace hl : lv_has ls 4 [(0, .ref a_t), (1, .int n1), (2, .int n2)] := hl
  refine lv_aload_n hx hb dX11_half_0 rfl (lv_at hl 0 rfl) ?_
  refine g_get (w := .ref (d_t 5)) F hB 0 rfl fl_RX11_30 rfl dX11_half_1 ?_
  refine g_get (w := .ref (d_t_now 2)) F hB 1 rfl fl_RX11_108 rfl dX11_half_4 ?_
  refine g_get (w := .ref (d_t_now_train 1)) F hB 2 rfl fl_RX11_181 rfl dX11_half_7 ?_
  refine lv_astore_n (lv' := [(3, .ref (d_t_now_train 1)), (0, .ref a_t), (1, .int n1), (2, .int n2)]) hx hb dX11_half_10 rfl hl (by decide) rfl (fun ls hl => ?_)
  refine lv_iload_n hx hb dX11_half_11 rfl (lv_at hl 2 rfl) ?_
  refine lv_if_lt (tgt := 32) hx hb dX11_half_12 (by decide) (fun c_14 => ?_) (fun c_14 => ?_)
  · replace hf := hf.1 c_14
    exact rx_t hst F hlk hE hno hB hf hl.1 dX11_half_32 dX11_half_35 dX11_half_36 dX11_half_39 (by decide) (Nat.le_of_ble_eq_true rfl) (Nat.le_of_ble_eq_true rfl) (Nat.le_of_ble_eq_true rfl) (Nat.le_of_ble_eq_true rfl) (Nat.le_of_ble_eq_true rfl)
  · replace hf := hf.2 c_14
    refine lv_iload_n hx hb dX11_half_15 rfl (lv_at hl 2 rfl) ?_
    refine lv_aload_n hx hb dX11_half_16 rfl (lv_at hl 0 rfl) ?_
    refine g_get (w := .int (i_t_now_train_halves 5)) F hB 3 rfl fl_RX11_185 rfl dX11_half_17 ?_
    refine lv_icmp_ge (tgt := 32) hx hb dX11_half_20 (by decide) (fun c_13 => ?_) (fun c_13 => ?_)
    · replace hf := hf.1 c_13
      exact rx_t hst F hlk hE hno hB hf hl.1 dX11_half_32 dX11_half_35 dX11_half_36 dX11_half_39 (by decide) (Nat.le_of_ble_eq_true rfl) (Nat.le_of_ble_eq_true rfl) (Nat.le_of_ble_eq_true rfl) (Nat.le_of_ble_eq_true rfl) (Nat.le_of_ble_eq_true rfl)
    · replace hf := hf.2 c_13
      refine lv_iload_n hx hb dX11_half_23 rfl (lv_at hl 3 rfl) ?_
      refine lv_if_lt (tgt := 32) hx hb dX11_half_24 (by decide) (fun c_12 => ?_) (fun c_12 => ?_)
      · replace hf := hf.1 c_12
        exact rx_t hst F hlk hE hno hB hf hl.1 dX11_half_32 dX11_half_35 dX11_half_36 dX11_half_39 (by decide) (Nat.le_of_ble_eq_true rfl) (Nat.le_of_ble_eq_true rfl) (Nat.le_of_ble_eq_true rfl) (Nat.le_of_ble_eq_true rfl) (Nat.le_of_ble_eq_true rfl)
      · replace hf := hf.2 c_12
        refine lv_iload_n hx hb dX11_half_27 rfl (lv_at hl 3 rfl) ?_
        refine lv_iconst (v := 4) hx hb dX11_half_28 (by decide) ?_
        refine lv_icmp_le (tgt := 40) hx hb dX11_half_29 (by decide) (fun c_11 => ?_) (fun c_11 => ?_)
        · replace hf := hf.1 c_11
          refine lv_iload_n hx hb dX11_half_40 rfl (lv_at hl 3 rfl) ?_
          rcases Classical.em (n2 = 0) with c_1 | c_1
          · replace hf := hf.1 c_1
            refine lv_tableIn (tgt := 72) hx hb dX11_half_41 (by rw [c_1]; decide) (by rw [c_1]; decide) (by rw [c_1]; rfl) (by decide) ?_
            refine lv_aload_n hx hb dX11_half_72 rfl (lv_at hl 0 rfl) ?_
            refine g_get (w := .ref (d_t_now_train_halves 3)) F hB 3 rfl fl_RX11_206 rfl dX11_half_73 ?_
            refine lv_iload_n hx hb dX11_half_76 rfl (lv_at hl 2 rfl) ?_
            obtain ⟨h_2, hf⟩ := hf
            refine g_iald F hB 4 rfl h_2 dX11_half_77 ?_
            exact rx_i F hr hlk hB ⟨rfl, hf⟩ (Nat.le_of_ble_eq_true rfl) (Nat.le_of_ble_eq_true rfl) dX11_half_78
          · replace hf := hf.2 c_1
            rcases Classical.em (n2 = 1) with c_3 | c_3
            · replace hf := hf.1 c_3
              refine lv_tableIn (tgt := 79) hx hb dX11_half_41 (by rw [c_3]; decide) (by rw [c_3]; decide) (by rw [c_3]; rfl) (by decide) ?_
              refine lv_aload_n hx hb dX11_half_79 rfl (lv_at hl 0 rfl) ?_
              refine g_get (w := .ref (d_t_now_train_halves 4)) F hB 3 rfl fl_RX11_209 rfl dX11_half_80 ?_
              refine lv_iload_n hx hb dX11_half_83 rfl (lv_at hl 2 rfl) ?_
              obtain ⟨h_4, hf⟩ := hf
              refine g_iald F hB 5 rfl h_4 dX11_half_84 ?_
              exact rx_i F hr hlk hB ⟨rfl, hf⟩ (Nat.le_of_ble_eq_true rfl) (Nat.le_of_ble_eq_true rfl) dX11_half_85
            · replace hf := hf.2 c_3
              rcases Classical.em (n2 = 2) with c_5 | c_5
              · replace hf := hf.1 c_5
                refine lv_tableIn (tgt := 86) hx hb dX11_half_41 (by rw [c_5]; decide) (by rw [c_5]; decide) (by rw [c_5]; rfl) (by decide) ?_
                refine lv_aload_n hx hb dX11_half_86 rfl (lv_at hl 0 rfl) ?_
                refine lv_iload_n hx hb dX11_half_87 rfl (lv_at hl 2 rfl) ?_
                refine lv_aload_n hx hb dX11_half_88 rfl (lv_at hl 1 rfl) ?_
                refine g_get (w := .ref (d_t 5)) F hB 0 rfl fl_RX11_30 rfl dX11_half_89 ?_
                refine g_get (w := .ref a_t_now_line) F hB 1 rfl fl_RX11_105 hw_t_now_line dX11_half_92 ?_
                refine k_vi (wr := [(a_t, ob 11 (vmx 11 d_t w_t) i_t j0), ((d_t 5), ob 9 (vmx 9 d_t_now w_t_now) i0 j0), ((d_t_now 2), ob 10 (rfd d_t_now_train) i_t_now_train j0), ((d_t_now_train_halves 4), ai k 20 r_t_now_train_halves_units), ((d_t_now_line 0), ai k 400 r_t_now_line_grades), ((d_t_now_line 2), ai k 30 r_t_now_line_halts)]) (rest := []) F hA hB (c_Halves_unitsOf l D k (d_t_now_train 1) d_t_now_train_halves i_t_now_train_halves a_t_now_line d_t_now_line i_t_now_line r_t_now_train_halves_sizes r_t_now_train_halves_kinds r_t_now_train_halves_starts r_t_now_line_kinds n1 _  hf) ml_RX11_211 mv_yX1_unitsOf [3, 6, 4, 7, 8, 9] [0, 1, 2, 5, 10, 11] rfl rfl (by decide) (by decide) (by decide) 3 rfl rfl rfl hl.1 rfl (Nat.le_of_ble_eq_true rfl) ⟨Nat.le_of_ble_eq_true rfl, Nat.le_of_ble_eq_true rfl⟩ ⟨Nat.le_of_ble_eq_true rfl, Nat.le_of_ble_eq_true rfl⟩ dX11_half_95 (fun z_6 w1 H locs hq hB => ?_)
                obtain ⟨rfl, hf⟩ := hq
                replace hB : Bd D A s.heap (wd_LongTrain_half k a_t d_t w_t i_t d_t_now w_t_now d_t_now_train i_t_now_train d_t_now_train_halves i_t_now_train_halves r_t_now_train_halves_sizes r_t_now_train_halves_units a_t_now_line d_t_now_line i_t_now_line r_t_now_train_halves_kinds r_t_now_train_halves_starts r_t_now_line_kinds r_t_now_line_grades r_t_now_line_halts) H locs := hB.sub [0, 1, 2, 6, 8, 3, 7, 9, 10, 11, 4, 5] (by decide) rfl
                exact rx_i F hr hlk hB ⟨rfl, hf⟩ (Nat.le_of_ble_eq_true rfl) (Nat.le_of_ble_eq_true rfl) dX11_half_98
              · replace hf := hf.2 c_5
                rcases Classical.em (n2 = 3) with c_7 | c_7
                · replace hf := hf.1 c_7
                  refine lv_tableIn (tgt := 99) hx hb dX11_half_41 (by rw [c_7]; decide) (by rw [c_7]; decide) (by rw [c_7]; rfl) (by decide) ?_
                  refine lv_aload_n hx hb dX11_half_99 rfl (lv_at hl 1 rfl) ?_
                  refine g_get (w := .ref (d_t 5)) F hB 0 rfl fl_RX11_30 rfl dX11_half_100 ?_
                  refine g_get (w := .ref a_t_now_line) F hB 1 rfl fl_RX11_105 hw_t_now_line dX11_half_103 ?_
                  refine lv_aload_n hx hb dX11_half_106 rfl (lv_at hl 0 rfl) ?_
                  refine g_get (w := .ref (d_t_now_train_halves 4)) F hB 3 rfl fl_RX11_209 rfl dX11_half_107 ?_
                  refine lv_iload_n hx hb dX11_half_110 rfl (lv_at hl 2 rfl) ?_
                  obtain ⟨h_8, hf⟩ := hf
                  refine g_iald F hB 5 rfl h_8 dX11_half_111 ?_
                  refine k_vi (wr := [(a_t, ob 11 (vmx 11 d_t w_t) i_t j0), ((d_t 5), ob 9 (vmx 9 d_t_now w_t_now) i0 j0), ((d_t_now 2), ob 10 (rfd d_t_now_train) i_t_now_train j0), ((d_t_now_train 1), ob 1 (rfd d_t_now_train_halves) i_t_now_train_halves j0), ((d_t_now_train_halves 3), ai k 20 r_t_now_train_halves_sizes), ((d_t_now_train_halves 4), ai k 20 r_t_now_train_halves_units), ((d_t_now_train_halves 0), ai k 20 r_t_now_train_halves_kinds), ((d_t_now_train_halves 2), ai k 20 r_t_now_train_halves_starts), ((d_t_now_line 6), ai k 18 r_t_now_line_kinds), ((d_t_now_line 0), ai k 400 r_t_now_line_grades)]) (rest := []) F hA hB (c_Line_haltBehind l D k a_t_now_line d_t_now_line i_t_now_line r_t_now_line_halts (r_t_now_train_halves_units (n1).toNatClampNeg) _  hf) ml_RX11_214 mv_yX3_haltBehind [6, 11] [0, 1, 2, 3, 4, 5, 7, 8, 9, 10] rfl rfl (by decide) (by decide) (by decide) 6 rfl rfl rfl hl.1 rfl (Nat.le_of_ble_eq_true rfl) ⟨Nat.le_of_ble_eq_true rfl, Nat.le_of_ble_eq_true rfl⟩ ⟨Nat.le_of_ble_eq_true rfl, Nat.le_of_ble_eq_true rfl⟩ dX11_half_112 (fun z_9 w1 H locs hq hB => ?_)
                  obtain ⟨rfl, hf⟩ := hq
                  replace hB : Bd D A s.heap (wd_LongTrain_half k a_t d_t w_t i_t d_t_now w_t_now d_t_now_train i_t_now_train d_t_now_train_halves i_t_now_train_halves r_t_now_train_halves_sizes r_t_now_train_halves_units a_t_now_line d_t_now_line i_t_now_line r_t_now_train_halves_kinds r_t_now_train_halves_starts r_t_now_line_kinds r_t_now_line_grades r_t_now_line_halts) H locs := hB.sub [0, 1, 2, 3, 4, 5, 10, 6, 7, 8, 9, 11] (by decide) rfl
                  exact rx_i F hr hlk hB ⟨rfl, hf⟩ (Nat.le_of_ble_eq_true rfl) (Nat.le_of_ble_eq_true rfl) dX11_half_115
                · replace hf := hf.2 c_7
                  refine lv_tableOut (tgt := 116) hx hb dX11_half_41 (sw_out (fun z h1 h2 h3 => by
                      have h4 : z = 0 ∨ z = 1 ∨ z = 2 ∨ z = 3 ∨ False := by omega
                      rcases h4 with h4 | h4 | h4 | h4 | h4
                      · exact c_1 (Int32.toInt_inj.mp (h3.trans (h4.trans (by decide))))
                      · exact c_3 (Int32.toInt_inj.mp (h3.trans (h4.trans (by decide))))
                      · exact c_5 (Int32.toInt_inj.mp (h3.trans (h4.trans (by decide))))
                      · exact c_7 (Int32.toInt_inj.mp (h3.trans (h4.trans (by decide))))
                      · exact h4)) (by decide) ?_
                  refine lv_aload_n hx hb dX11_half_116 rfl (lv_at hl 0 rfl) ?_
                  refine lv_iload_n hx hb dX11_half_117 rfl (lv_at hl 2 rfl) ?_
                  refine lv_aload_n hx hb dX11_half_118 rfl (lv_at hl 1 rfl) ?_
                  refine g_get (w := .ref (d_t 5)) F hB 0 rfl fl_RX11_30 rfl dX11_half_119 ?_
                  refine g_get (w := .ref a_t_now_line) F hB 1 rfl fl_RX11_105 hw_t_now_line dX11_half_122 ?_
                  refine k_vi (wr := [(a_t, ob 11 (vmx 11 d_t w_t) i_t j0), ((d_t 5), ob 9 (vmx 9 d_t_now w_t_now) i0 j0), ((d_t_now 2), ob 10 (rfd d_t_now_train) i_t_now_train j0), ((d_t_now_line 2), ai k 30 r_t_now_line_halts)]) (rest := []) F hA hB (c_Halves_dragOf l D k (d_t_now_train 1) d_t_now_train_halves i_t_now_train_halves a_t_now_line d_t_now_line i_t_now_line r_t_now_train_halves_units r_t_now_train_halves_sizes r_t_now_train_halves_kinds r_t_now_train_halves_starts r_t_now_line_kinds r_t_now_line_grades n1 _  hf) ml_RX11_217 mv_yX1_dragOf [3, 6, 5, 4, 7, 8, 9, 10] [0, 1, 2, 11] rfl rfl (by decide) (by decide) (by decide) 3 rfl rfl rfl hl.1 rfl (Nat.le_of_ble_eq_true rfl) ⟨Nat.le_of_ble_eq_true rfl, Nat.le_of_ble_eq_true rfl⟩ ⟨Nat.le_of_ble_eq_true rfl, Nat.le_of_ble_eq_true rfl⟩ dX11_half_125 (fun z_10 w1 H locs hq hB => ?_)
                  obtain ⟨rfl, hf⟩ := hq
                  replace hB : Bd D A s.heap (wd_LongTrain_half k a_t d_t w_t i_t d_t_now w_t_now d_t_now_train i_t_now_train d_t_now_train_halves i_t_now_train_halves r_t_now_train_halves_sizes r_t_now_train_halves_units a_t_now_line d_t_now_line i_t_now_line r_t_now_train_halves_kinds r_t_now_train_halves_starts r_t_now_line_kinds r_t_now_line_grades r_t_now_line_halts) H locs := hB.sub [0, 1, 2, 4, 7, 6, 5, 8, 9, 10, 11, 3] (by decide) rfl
                  exact rx_i F hr hlk hB ⟨rfl, hf⟩ (Nat.le_of_ble_eq_true rfl) (Nat.le_of_ble_eq_true rfl) dX11_half_128
        · replace hf := hf.2 c_11
          exact rx_t hst F hlk hE hno hB hf hl.1 dX11_half_32 dX11_half_35 dX11_half_36 dX11_half_39 (by decide) (Nat.le_of_ble_eq_true rfl) (Nat.le_of_ble_eq_true rfl) (Nat.le_of_ble_eq_true rfl) (Nat.le_of_ble_eq_true rfl) (Nat.le_of_ble_eq_true rfl)

/-! LongTrain.borne -/
abbrev wd_LongTrain_borne (k : Nat → ClassId) (a_t : Nat) (d_t : Nat → Nat) (w_t : Nat → Value) (i_t : Nat → Int32) (d_t_now : Nat → Nat) (w_t_now : Nat → Value) (a_t_now_line : Nat) (d_t_now_line : Nat → Nat) (i_t_now_line : Nat → Int32) (d_t_free : Nat → Nat) (i_t_free : Nat → Int32) (d_t_free_row : Nat → Nat) (i_t_free_row : Nat → Int32) (r_t_now_line_halts : Nat → Int32) (r_t_now_line_first : Nat → Int32) (r_t_free_row_kinds : Nat → Int32) (r_t_free_row_longs : Nat → Int32) (r_t_free_row_weights : Nat → Int32) (r_t_free_row_strengths : Nat → Int32) (r_t_free_row_wears : Nat → Int32) (r_t_free_row_pushes : Nat → Int32) (r_t_free_row_helpers : Nat → Int32) (r_t_now_line_kinds : Nat → Int32) (r_t_now_line_grades : Nat → Int32) (r_t_free_row_bears : Nat → Int32) : va_W := [(a_t, ob 11 (vmx 11 d_t w_t) i_t j0), ((d_t 5), ob 9 (vmx 9 d_t_now w_t_now) i0 j0), (a_t_now_line, ob 3 (rfd d_t_now_line) i_t_now_line j0), ((d_t 9), ob 0 (rfd d_t_free) i_t_free j0), ((d_t_free 0), ob 8 (rfd d_t_free_row) i_t_free_row j0), ((d_t_now_line 2), ai k 30 r_t_now_line_halts), ((d_t_now_line 8), ai k 8 r_t_now_line_first), ((d_t_free_row 0), ai k 20 r_t_free_row_kinds), ((d_t_free_row 1), ai k 20 r_t_free_row_longs), ((d_t_free_row 2), ai k 20 r_t_free_row_weights), ((d_t_free_row 3), ai k 20 r_t_free_row_strengths), ((d_t_free_row 4), ai k 20 r_t_free_row_wears), ((d_t_free_row 5), ai k 20 r_t_free_row_pushes), ((d_t_free_row 6), ai k 20 r_t_free_row_helpers), ((d_t_now_line 6), ai k 18 r_t_now_line_kinds), ((d_t_now_line 0), ai k 400 r_t_now_line_grades), ((d_t_free_row 7), ai k 20 r_t_free_row_bears)]

def w_LongTrain_borne (i_t_now_line : Nat → Int32) (i_t_free : Nat → Int32) (i_t_free_row : Nat → Int32) (r_t_now_line_halts : Nat → Int32) (r_t_now_line_first : Nat → Int32) (r_t_free_row_kinds : Nat → Int32) (r_t_free_row_longs : Nat → Int32) (r_t_free_row_weights : Nat → Int32) (r_t_free_row_strengths : Nat → Int32) (r_t_free_row_wears : Nat → Int32) (r_t_free_row_pushes : Nat → Int32) (r_t_free_row_helpers : Nat → Int32) (r_t_now_line_kinds : Nat → Int32) (r_t_now_line_grades : Nat → Int32) (r_t_free_row_bears : Nat → Int32) (n1 : Int32) (n2 : Int32) (n3 : Int32) (n4 : Int32) (Q : Int32 → (Nat → Int32) → (Nat → Int32) → (Nat → Int32) → (Nat → Int32) → (Nat → Int32) → (Nat → Int32) → (Nat → Int32) → (Nat → Int32) → (Nat → Int32) → (Nat → Int32) → Prop) (X : Prop) : Prop :=
  (((n3 < 0) → X) ∧ ((¬ (n3 < 0)) → (((n3 ≤ (2 : Int32)) → (w_LongTrain_isWay i_t_now_line n1 n2 (fun (z_1 : Int32) => (((z_1 = 0) → (Q (-1 : Int32) i_t_free i_t_free_row r_t_free_row_kinds r_t_free_row_longs r_t_free_row_weights r_t_free_row_strengths r_t_free_row_wears r_t_free_row_pushes r_t_free_row_helpers r_t_free_row_bears)) ∧ ((¬ (z_1 = 0)) → (w_Free_findBorne i_t_free i_t_now_line i_t_free_row r_t_now_line_halts r_t_now_line_first r_t_free_row_kinds r_t_free_row_longs r_t_free_row_weights r_t_free_row_strengths r_t_free_row_wears r_t_free_row_pushes r_t_free_row_helpers r_t_now_line_kinds r_t_now_line_grades r_t_free_row_bears n1 n2 n4 (fun (z_13 : Int32) (i_t_free_3 : Nat → Int32) (i_t_free_row_4 : Nat → Int32) (r_t_free_row_kinds_5 : Nat → Int32) (r_t_free_row_longs_6 : Nat → Int32) (r_t_free_row_weights_7 : Nat → Int32) (r_t_free_row_strengths_8 : Nat → Int32) (r_t_free_row_wears_9 : Nat → Int32) (r_t_free_row_pushes_10 : Nat → Int32) (r_t_free_row_helpers_11 : Nat → Int32) (r_t_free_row_bears_12 : Nat → Int32) => (((¬ z_13 = 0) → (((¬ n3 = 0) → (((¬ n3 = (1 : Int32)) → (Q (i_t_free_3 3) i_t_free_3 i_t_free_row_4 r_t_free_row_kinds_5 r_t_free_row_longs_6 r_t_free_row_weights_7 r_t_free_row_strengths_8 r_t_free_row_wears_9 r_t_free_row_pushes_10 r_t_free_row_helpers_11 r_t_free_row_bears_12)) ∧ ((n3 = (1 : Int32)) → (Q (i_t_free_3 2) i_t_free_3 i_t_free_row_4 r_t_free_row_kinds_5 r_t_free_row_longs_6 r_t_free_row_weights_7 r_t_free_row_strengths_8 r_t_free_row_wears_9 r_t_free_row_pushes_10 r_t_free_row_helpers_11 r_t_free_row_bears_12)))) ∧ ((n3 = 0) → (Q (i_t_free_3 1) i_t_free_3 i_t_free_row_4 r_t_free_row_kinds_5 r_t_free_row_longs_6 r_t_free_row_weights_7 r_t_free_row_strengths_8 r_t_free_row_wears_9 r_t_free_row_pushes_10 r_t_free_row_helpers_11 r_t_free_row_bears_12)))) ∧ ((z_13 = 0) → (Q (-1 : Int32) i_t_free_3 i_t_free_row_4 r_t_free_row_kinds_5 r_t_free_row_longs_6 r_t_free_row_weights_7 r_t_free_row_strengths_8 r_t_free_row_wears_9 r_t_free_row_pushes_10 r_t_free_row_helpers_11 r_t_free_row_bears_12)))))))))) ∧ ((¬ (n3 ≤ (2 : Int32))) → X))))

set_option maxRecDepth 100000 in
set_option maxHeartbeats 4000000 in
theorem cx_LongTrain_borne (l : Launch) (hst : l.stackTraces = false) (D : va_G) (k : Nat → ClassId)  (K : Nat → Nat) (a_t : Nat) (d_t : Nat → Nat) (w_t : Nat → Value) (i_t : Nat → Int32) (d_t_now : Nat → Nat) (w_t_now : Nat → Value) (a_t_now_line : Nat) (d_t_now_line : Nat → Nat) (i_t_now_line : Nat → Int32) (d_t_free : Nat → Nat) (i_t_free : Nat → Int32) (d_t_free_row : Nat → Nat) (i_t_free_row : Nat → Int32) (r_t_now_line_halts : Nat → Int32) (r_t_now_line_first : Nat → Int32) (r_t_free_row_kinds : Nat → Int32) (r_t_free_row_longs : Nat → Int32) (r_t_free_row_weights : Nat → Int32) (r_t_free_row_strengths : Nat → Int32) (r_t_free_row_wears : Nat → Int32) (r_t_free_row_pushes : Nat → Int32) (r_t_free_row_helpers : Nat → Int32) (r_t_now_line_kinds : Nat → Int32) (r_t_now_line_grades : Nat → Int32) (r_t_free_row_bears : Nat → Int32) (n1 : Int32) (n2 : Int32) (n3 : Int32) (n4 : Int32) (Q : Int32 → (Nat → Int32) → (Nat → Int32) → (Nat → Int32) → (Nat → Int32) → (Nat → Int32) → (Nat → Int32) → (Nat → Int32) → (Nat → Int32) → (Nat → Int32) → (Nat → Int32) → Prop) (hw_t_now_line : w_t_now 0 = .ref a_t_now_line) (X : Prop) (hf : w_LongTrain_borne i_t_now_line i_t_free i_t_free_row r_t_now_line_halts r_t_now_line_first r_t_free_row_kinds r_t_free_row_longs r_t_free_row_weights r_t_free_row_strengths r_t_free_row_wears r_t_free_row_pushes r_t_free_row_helpers r_t_now_line_kinds r_t_now_line_grades r_t_free_row_bears n1 n2 n3 n4 Q X) : CxI l yX11_borne cX11_borne 5 (some .int) 6 118 D k K [.ref a_t, .int n1, .int n2, .int n3, .int n4] (wd_LongTrain_borne k a_t d_t w_t i_t d_t_now w_t_now a_t_now_line d_t_now_line i_t_now_line d_t_free i_t_free d_t_free_row i_t_free_row r_t_now_line_halts r_t_now_line_first r_t_free_row_kinds r_t_free_row_longs r_t_free_row_weights r_t_free_row_strengths r_t_free_row_wears r_t_free_row_pushes r_t_free_row_helpers r_t_now_line_kinds r_t_now_line_grades r_t_free_row_bears) (fun r w => ∃ (i_t_free : Nat → Int32), ∃ (i_t_free_row : Nat → Int32), ∃ (r_t_free_row_kinds : Nat → Int32), ∃ (r_t_free_row_longs : Nat → Int32), ∃ (r_t_free_row_weights : Nat → Int32), ∃ (r_t_free_row_strengths : Nat → Int32), ∃ (r_t_free_row_wears : Nat → Int32), ∃ (r_t_free_row_pushes : Nat → Int32), ∃ (r_t_free_row_helpers : Nat → Int32), ∃ (r_t_free_row_bears : Nat → Int32), w = (wd_LongTrain_borne k a_t d_t w_t i_t d_t_now w_t_now a_t_now_line d_t_now_line i_t_now_line d_t_free i_t_free d_t_free_row i_t_free_row r_t_now_line_halts r_t_now_line_first r_t_free_row_kinds r_t_free_row_longs r_t_free_row_weights r_t_free_row_strengths r_t_free_row_wears r_t_free_row_pushes r_t_free_row_helpers r_t_now_line_kinds r_t_now_line_grades r_t_free_row_bears) ∧ Q r i_t_free i_t_free_row r_t_free_row_kinds r_t_free_row_longs r_t_free_row_weights r_t_free_row_strengths r_t_free_row_wears r_t_free_row_pushes r_t_free_row_helpers r_t_free_row_bears) X := by
  refine CxI.of (by decide) (Nat.le_of_ble_eq_true rfl) ?_
  intro p e s m below meth c A F hr hlk hA hE hno hB ls hl
  have hx := F.x
  have hb := F.b
  unfold w_LongTrain_borne at hf
  replace hl : lv_has ls 5 [(0, .ref a_t), (1, .int n1), (2, .int n2), (3, .int n3), (4, .int n4)] := hl
  refine lv_iload_n hx hb dX11_borne_0 rfl (lv_at hl 3 rfl) ?_
  refine lv_if_lt (tgt := 9) hx hb dX11_borne_1 (by decide) (fun c_20 => ?_) (fun c_20 => ?_)
  · replace hf := hf.1 c_20
    exact rx_t hst F hlk hE hno hB hf hl.1 dX11_borne_9 dX11_borne_12 dX11_borne_13 dX11_borne_16 (by decide) (Nat.le_of_ble_eq_true rfl) (Nat.le_of_ble_eq_true rfl) (Nat.le_of_ble_eq_true rfl) (Nat.le_of_ble_eq_true rfl) (Nat.le_of_ble_eq_true rfl)
  · replace hf := hf.2 c_20
    refine lv_iload_n hx hb dX11_borne_4 rfl (lv_at hl 3 rfl) ?_
    refine lv_iconst (v := 2) hx hb dX11_borne_5 (by decide) ?_
    refine lv_icmp_le (tgt := 17) hx hb dX11_borne_6 (by decide) (fun c_19 => ?_) (fun c_19 => ?_)
    · replace hf := hf.1 c_19
      refine lv_aload_n hx hb dX11_borne_17 rfl (lv_at hl 0 rfl) ?_
      refine lv_iload_n hx hb dX11_borne_18 rfl (lv_at hl 1 rfl) ?_
      refine lv_iload_n hx hb dX11_borne_19 rfl (lv_at hl 2 rfl) ?_
      refine k_vi (wr := [((d_t 9), ob 0 (rfd d_t_free) i_t_free j0), ((d_t_free 0), ob 8 (rfd d_t_free_row) i_t_free_row j0), ((d_t_now_line 2), ai k 30 r_t_now_line_halts), ((d_t_now_line 8), ai k 8 r_t_now_line_first), ((d_t_free_row 0), ai k 20 r_t_free_row_kinds), ((d_t_free_row 1), ai k 20 r_t_free_row_longs), ((d_t_free_row 2), ai k 20 r_t_free_row_weights), ((d_t_free_row 3), ai k 20 r_t_free_row_strengths), ((d_t_free_row 4), ai k 20 r_t_free_row_wears), ((d_t_free_row 5), ai k 20 r_t_free_row_pushes), ((d_t_free_row 6), ai k 20 r_t_free_row_helpers), ((d_t_now_line 6), ai k 18 r_t_now_line_kinds), ((d_t_now_line 0), ai k 400 r_t_now_line_grades), ((d_t_free_row 7), ai k 20 r_t_free_row_bears)]) (rest := []) F hA hB (c_LongTrain_isWay l D k a_t d_t w_t i_t d_t_now w_t_now a_t_now_line d_t_now_line i_t_now_line n1 n2 _ hw_t_now_line hf) ml_RX11_227 mv_yX11_isWay [0, 1, 2] [3, 4, 5, 6, 7, 8, 9, 10, 11, 12, 13, 14, 15, 16] rfl rfl (by decide) (by decide) (by decide) 0 rfl rfl rfl hl.1 rfl (Nat.le_of_ble_eq_true rfl) ⟨Nat.le_of_ble_eq_true rfl, Nat.le_of_ble_eq_true rfl⟩ ⟨Nat.le_of_ble_eq_true rfl, Nat.le_of_ble_eq_true rfl⟩ dX11_borne_20 (fun z_1 w1 H locs hq hB => ?_)
      obtain ⟨h_2, rfl, hf⟩ := hq
      replace hB : Bd D A s.heap (wd_LongTrain_borne k a_t d_t w_t i_t d_t_now w_t_now a_t_now_line d_t_now_line i_t_now_line d_t_free i_t_free d_t_free_row i_t_free_row r_t_now_line_halts r_t_now_line_first r_t_free_row_kinds r_t_free_row_longs r_t_free_row_weights r_t_free_row_strengths r_t_free_row_wears r_t_free_row_pushes r_t_free_row_helpers r_t_now_line_kinds r_t_now_line_grades r_t_free_row_bears) H locs := hB.sub [14, 15, 16, 0, 1, 2, 3, 4, 5, 6, 7, 8, 9, 10, 11, 12, 13] (by decide) rfl
      refine lv_if_eq (tgt := 47) hx hb dX11_borne_23 (by decide) (fun c_18 => ?_) (fun c_18 => ?_)
      · replace hf := hf.1 c_18
        refine lv_iconst (v := -1) hx hb dX11_borne_47 (by decide) ?_
        exact rx_i F hr hlk hB ⟨_, _, _, _, _, _, _, _, _, _, rfl, hf⟩ (Nat.le_of_ble_eq_true rfl) (Nat.le_of_ble_eq_true rfl) dX11_borne_48
      · replace hf := hf.2 c_18
        refine lv_aload_n hx hb dX11_borne_26 rfl (lv_at hl 0 rfl) ?_
        refine g_get (w := .ref (d_t 9)) F hB 0 rfl fl_RX11_55 rfl dX11_borne_27 ?_
        refine lv_aload_n hx hb dX11_borne_30 rfl (lv_at hl 0 rfl) ?_
        refine g_get (w := .ref (d_t 5)) F hB 0 rfl fl_RX11_30 rfl dX11_borne_31 ?_
        refine g_get (w := .ref a_t_now_line) F hB 1 rfl fl_RX11_105 hw_t_now_line dX11_borne_34 ?_
        refine lv_iload_n hx hb dX11_borne_37 rfl (lv_at hl 1 rfl) ?_
        refine lv_iload_n hx hb dX11_borne_38 rfl (lv_at hl 2 rfl) ?_
        refine lv_iload hx hb dX11_borne_39 (lv_at hl 4 rfl) ?_
        refine k_vi (wr := [(a_t, ob 11 (vmx 11 d_t w_t) i_t j0), ((d_t 5), ob 9 (vmx 9 d_t_now w_t_now) i0 j0)]) (rest := []) F hA hB (c_Free_findBorne l D k (d_t 9) d_t_free i_t_free a_t_now_line d_t_now_line i_t_now_line d_t_free_row i_t_free_row r_t_now_line_halts r_t_now_line_first r_t_free_row_kinds r_t_free_row_longs r_t_free_row_weights r_t_free_row_strengths r_t_free_row_wears r_t_free_row_pushes r_t_free_row_helpers r_t_now_line_kinds r_t_now_line_grades r_t_free_row_bears n1 n2 n4 _  hf) ml_RX11_231 mv_yX0_findBorne [3, 2, 4, 5, 6, 7, 8, 9, 10, 11, 12, 13, 14, 15, 16] [0, 1] rfl rfl (by decide) (by decide) (by decide) 3 rfl rfl rfl hl.1 rfl (Nat.le_of_ble_eq_true rfl) ⟨Nat.le_of_ble_eq_true rfl, Nat.le_of_ble_eq_true rfl⟩ ⟨Nat.le_of_ble_eq_true rfl, Nat.le_of_ble_eq_true rfl⟩ dX11_borne_41 (fun z_13 w1 H locs hq hB => ?_)
        obtain ⟨h_14, i_t_free_3, i_t_free_row_4, r_t_free_row_kinds_5, r_t_free_row_longs_6, r_t_free_row_weights_7, r_t_free_row_strengths_8, r_t_free_row_wears_9, r_t_free_row_pushes_10, r_t_free_row_helpers_11, r_t_free_row_bears_12, rfl, hf⟩ := hq
        replace hB : Bd D A s.heap (wd_LongTrain_borne k a_t d_t w_t i_t d_t_now w_t_now a_t_now_line d_t_now_line i_t_now_line d_t_free i_t_free_3 d_t_free_row i_t_free_row_4 r_t_now_line_halts r_t_now_line_first r_t_free_row_kinds_5 r_t_free_row_longs_6 r_t_free_row_weights_7 r_t_free_row_strengths_8 r_t_free_row_wears_9 r_t_free_row_pushes_10 r_t_free_row_helpers_11 r_t_now_line_kinds r_t_now_line_grades r_t_free_row_bears_12) H locs := hB.sub [0, 1, 3, 2, 4, 5, 6, 7, 8, 9, 10, 11, 12, 13, 14, 15, 16] (by decide) rfl
        refine lv_if_ne (tgt := 49) hx hb dX11_borne_44 (by decide) (fun c_17 => ?_) (fun c_17 => ?_)
        · replace hf := hf.1 c_17
          refine lv_iload_n hx hb dX11_borne_49 rfl (lv_at hl 3 rfl) ?_
          refine lv_if_ne (tgt := 63) hx hb dX11_borne_50 (by decide) (fun c_16 => ?_) (fun c_16 => ?_)
          · replace hf := hf.1 c_16
            refine lv_iload_n hx hb dX11_borne_63 rfl (lv_at hl 3 rfl) ?_
            refine lv_iconst (v := 1) hx hb dX11_borne_64 (by decide) ?_
            refine lv_icmp_ne (tgt := 78) hx hb dX11_borne_65 (by decide) (fun c_15 => ?_) (fun c_15 => ?_)
            · replace hf := hf.1 c_15
              refine lv_aload_n hx hb dX11_borne_78 rfl (lv_at hl 0 rfl) ?_
              refine g_get (w := .ref (d_t 9)) F hB 0 rfl fl_RX11_55 rfl dX11_borne_79 ?_
              refine g_get (w := .int (i_t_free_3 3)) F hB 3 rfl fl_RX11_241 rfl dX11_borne_82 ?_
              exact rx_i F hr hlk hB ⟨_, _, _, _, _, _, _, _, _, _, rfl, hf⟩ (Nat.le_of_ble_eq_true rfl) (Nat.le_of_ble_eq_true rfl) dX11_borne_85
            · replace hf := hf.2 c_15
              refine lv_aload_n hx hb dX11_borne_68 rfl (lv_at hl 0 rfl) ?_
              refine g_get (w := .ref (d_t 9)) F hB 0 rfl fl_RX11_55 rfl dX11_borne_69 ?_
              refine g_get (w := .int (i_t_free_3 2)) F hB 3 rfl fl_RX11_238 rfl dX11_borne_72 ?_
              refine lv_goto (tgt := 85) hx hb dX11_borne_75 (by decide) ?_
              exact rx_i F hr hlk hB ⟨_, _, _, _, _, _, _, _, _, _, rfl, hf⟩ (Nat.le_of_ble_eq_true rfl) (Nat.le_of_ble_eq_true rfl) dX11_borne_85
          · replace hf := hf.2 c_16
            refine lv_aload_n hx hb dX11_borne_53 rfl (lv_at hl 0 rfl) ?_
            refine g_get (w := .ref (d_t 9)) F hB 0 rfl fl_RX11_55 rfl dX11_borne_54 ?_
            refine g_get (w := .int (i_t_free_3 1)) F hB 3 rfl fl_RX11_235 rfl dX11_borne_57 ?_
            refine lv_goto (tgt := 85) hx hb dX11_borne_60 (by decide) ?_
            exact rx_i F hr hlk hB ⟨_, _, _, _, _, _, _, _, _, _, rfl, hf⟩ (Nat.le_of_ble_eq_true rfl) (Nat.le_of_ble_eq_true rfl) dX11_borne_85
        · replace hf := hf.2 c_17
          refine lv_iconst (v := -1) hx hb dX11_borne_47 (by decide) ?_
          exact rx_i F hr hlk hB ⟨_, _, _, _, _, _, _, _, _, _, rfl, hf⟩ (Nat.le_of_ble_eq_true rfl) (Nat.le_of_ble_eq_true rfl) dX11_borne_48
    · replace hf := hf.2 c_19
      exact rx_t hst F hlk hE hno hB hf hl.1 dX11_borne_9 dX11_borne_12 dX11_borne_13 dX11_borne_16 (by decide) (Nat.le_of_ble_eq_true rfl) (Nat.le_of_ble_eq_true rfl) (Nat.le_of_ble_eq_true rfl) (Nat.le_of_ble_eq_true rfl) (Nat.le_of_ble_eq_true rfl)

/-! LongTrain.strain -/
abbrev wd_LongTrain_strain (k : Nat → ClassId) (a_t : Nat) (d_t : Nat → Nat) (w_t : Nat → Value) (i_t : Nat → Int32) (d_t_now : Nat → Nat) (w_t_now : Nat → Value) (a_t_now_line : Nat) (d_t_now_line : Nat → Nat) (i_t_now_line : Nat → Int32) (d_t_free : Nat → Nat) (i_t_free : Nat → Int32) (d_t_free_row : Nat → Nat) (i_t_free_row : Nat → Int32) (r_t_now_line_halts : Nat → Int32) (r_t_now_line_first : Nat → Int32) (r_t_free_row_kinds : Nat → Int32) (r_t_free_row_longs : Nat → Int32) (r_t_free_row_weights : Nat → Int32) (r_t_free_row_strengths : Nat → Int32) (r_t_free_row_wears : Nat → Int32) (r_t_free_row_pushes : Nat → Int32) (r_t_free_row_helpers : Nat → Int32) (r_t_now_line_kinds : Nat → Int32) (r_t_now_line_grades : Nat → Int32) (r_t_free_row_bears : Nat → Int32) : va_W := [(a_t, ob 11 (vmx 11 d_t w_t) i_t j0), ((d_t 5), ob 9 (vmx 9 d_t_now w_t_now) i0 j0), (a_t_now_line, ob 3 (rfd d_t_now_line) i_t_now_line j0), ((d_t 9), ob 0 (rfd d_t_free) i_t_free j0), ((d_t_free 0), ob 8 (rfd d_t_free_row) i_t_free_row j0), ((d_t_now_line 2), ai k 30 r_t_now_line_halts), ((d_t_now_line 8), ai k 8 r_t_now_line_first), ((d_t_free_row 0), ai k 20 r_t_free_row_kinds), ((d_t_free_row 1), ai k 20 r_t_free_row_longs), ((d_t_free_row 2), ai k 20 r_t_free_row_weights), ((d_t_free_row 3), ai k 20 r_t_free_row_strengths), ((d_t_free_row 4), ai k 20 r_t_free_row_wears), ((d_t_free_row 5), ai k 20 r_t_free_row_pushes), ((d_t_free_row 6), ai k 20 r_t_free_row_helpers), ((d_t_now_line 6), ai k 18 r_t_now_line_kinds), ((d_t_now_line 0), ai k 400 r_t_now_line_grades), ((d_t_free_row 7), ai k 20 r_t_free_row_bears)]

def w_LongTrain_strain (i_t_now_line : Nat → Int32) (i_t_free : Nat → Int32) (i_t_free_row : Nat → Int32) (r_t_now_line_halts : Nat → Int32) (r_t_now_line_first : Nat → Int32) (r_t_free_row_kinds : Nat → Int32) (r_t_free_row_longs : Nat → Int32) (r_t_free_row_weights : Nat → Int32) (r_t_free_row_strengths : Nat → Int32) (r_t_free_row_wears : Nat → Int32) (r_t_free_row_pushes : Nat → Int32) (r_t_free_row_helpers : Nat → Int32) (r_t_now_line_kinds : Nat → Int32) (r_t_now_line_grades : Nat → Int32) (r_t_free_row_bears : Nat → Int32) (n1 : Int32) (n2 : Int32) (n3 : Int32) (Q : Int32 → (Nat → Int32) → (Nat → Int32) → (Nat → Int32) → (Nat → Int32) → (Nat → Int32) → (Nat → Int32) → (Nat → Int32) → (Nat → Int32) → (Nat → Int32) → (Nat → Int32) → Prop) (X : Prop) : Prop :=
  (w_LongTrain_borne i_t_now_line i_t_free i_t_free_row r_t_now_line_halts r_t_now_line_first r_t_free_row_kinds r_t_free_row_longs r_t_free_row_weights r_t_free_row_strengths r_t_free_row_wears r_t_free_row_pushes r_t_free_row_helpers r_t_now_line_kinds r_t_now_line_grades r_t_free_row_bears n1 n2 n3 (1 : Int32) (fun (z_11 : Int32) (i_t_free_1 : Nat → Int32) (i_t_free_row_2 : Nat → Int32) (r_t_free_row_kinds_3 : Nat → Int32) (r_t_free_row_longs_4 : Nat → Int32) (r_t_free_row_weights_5 : Nat → Int32) (r_t_free_row_strengths_6 : Nat → Int32) (r_t_free_row_wears_7 : Nat → Int32) (r_t_free_row_pushes_8 : Nat → Int32) (r_t_free_row_helpers_9 : Nat → Int32) (r_t_free_row_bears_10 : Nat → Int32) => (Q z_11 i_t_free_1 i_t_free_row_2 r_t_free_row_kinds_3 r_t_free_row_longs_4 r_t_free_row_weights_5 r_t_free_row_strengths_6 r_t_free_row_wears_7 r_t_free_row_pushes_8 r_t_free_row_helpers_9 r_t_free_row_bears_10)) X)

set_option maxRecDepth 100000 in
set_option maxHeartbeats 4000000 in
theorem cx_LongTrain_strain (l : Launch) (hst : l.stackTraces = false) (D : va_G) (k : Nat → ClassId)  (K : Nat → Nat) (a_t : Nat) (d_t : Nat → Nat) (w_t : Nat → Value) (i_t : Nat → Int32) (d_t_now : Nat → Nat) (w_t_now : Nat → Value) (a_t_now_line : Nat) (d_t_now_line : Nat → Nat) (i_t_now_line : Nat → Int32) (d_t_free : Nat → Nat) (i_t_free : Nat → Int32) (d_t_free_row : Nat → Nat) (i_t_free_row : Nat → Int32) (r_t_now_line_halts : Nat → Int32) (r_t_now_line_first : Nat → Int32) (r_t_free_row_kinds : Nat → Int32) (r_t_free_row_longs : Nat → Int32) (r_t_free_row_weights : Nat → Int32) (r_t_free_row_strengths : Nat → Int32) (r_t_free_row_wears : Nat → Int32) (r_t_free_row_pushes : Nat → Int32) (r_t_free_row_helpers : Nat → Int32) (r_t_now_line_kinds : Nat → Int32) (r_t_now_line_grades : Nat → Int32) (r_t_free_row_bears : Nat → Int32) (n1 : Int32) (n2 : Int32) (n3 : Int32) (Q : Int32 → (Nat → Int32) → (Nat → Int32) → (Nat → Int32) → (Nat → Int32) → (Nat → Int32) → (Nat → Int32) → (Nat → Int32) → (Nat → Int32) → (Nat → Int32) → (Nat → Int32) → Prop) (hw_t_now_line : w_t_now 0 = .ref a_t_now_line) (X : Prop) (hf : w_LongTrain_strain i_t_now_line i_t_free i_t_free_row r_t_now_line_halts r_t_now_line_first r_t_free_row_kinds r_t_free_row_longs r_t_free_row_weights r_t_free_row_strengths r_t_free_row_wears r_t_free_row_pushes r_t_free_row_helpers r_t_now_line_kinds r_t_now_line_grades r_t_free_row_bears n1 n2 n3 Q X) : CxI l yX11_strain cX11_strain 4 (some .int) 7 142 D k K [.ref a_t, .int n1, .int n2, .int n3] (wd_LongTrain_strain k a_t d_t w_t i_t d_t_now w_t_now a_t_now_line d_t_now_line i_t_now_line d_t_free i_t_free d_t_free_row i_t_free_row r_t_now_line_halts r_t_now_line_first r_t_free_row_kinds r_t_free_row_longs r_t_free_row_weights r_t_free_row_strengths r_t_free_row_wears r_t_free_row_pushes r_t_free_row_helpers r_t_now_line_kinds r_t_now_line_grades r_t_free_row_bears) (fun r w => ∃ (i_t_free : Nat → Int32), ∃ (i_t_free_row : Nat → Int32), ∃ (r_t_free_row_kinds : Nat → Int32), ∃ (r_t_free_row_longs : Nat → Int32), ∃ (r_t_free_row_weights : Nat → Int32), ∃ (r_t_free_row_strengths : Nat → Int32), ∃ (r_t_free_row_wears : Nat → Int32), ∃ (r_t_free_row_pushes : Nat → Int32), ∃ (r_t_free_row_helpers : Nat → Int32), ∃ (r_t_free_row_bears : Nat → Int32), w = (wd_LongTrain_strain k a_t d_t w_t i_t d_t_now w_t_now a_t_now_line d_t_now_line i_t_now_line d_t_free i_t_free d_t_free_row i_t_free_row r_t_now_line_halts r_t_now_line_first r_t_free_row_kinds r_t_free_row_longs r_t_free_row_weights r_t_free_row_strengths r_t_free_row_wears r_t_free_row_pushes r_t_free_row_helpers r_t_now_line_kinds r_t_now_line_grades r_t_free_row_bears) ∧ Q r i_t_free i_t_free_row r_t_free_row_kinds r_t_free_row_longs r_t_free_row_weights r_t_free_row_strengths r_t_free_row_wears r_t_free_row_pushes r_t_free_row_helpers r_t_free_row_bears) X := by
  refine CxI.of (by decide) (Nat.le_of_ble_eq_true rfl) ?_
  intro p e s m below meth c A F hr hlk hA hE hno hB ls hl
  have hx := F.x
  have hb := F.b
  unfold w_LongTrain_strain at hf
  replace hl : lv_has ls 4 [(0, .ref a_t), (1, .int n1), (2, .int n2), (3, .int n3)] := hl
  refine lv_aload_n hx hb dX11_strain_0 rfl (lv_at hl 0 rfl) ?_
  refine lv_iload_n hx hb dX11_strain_1 rfl (lv_at hl 1 rfl) ?_
  refine lv_iload_n hx hb dX11_strain_2 rfl (lv_at hl 2 rfl) ?_
  refine lv_iload_n hx hb dX11_strain_3 rfl (lv_at hl 3 rfl) ?_
  refine lv_iconst (v := 1) hx hb dX11_strain_4 (by decide) ?_
  refine kx_vi (wr := []) (rest := []) F hE hA hB (cx_LongTrain_borne l hst D k K a_t d_t w_t i_t d_t_now w_t_now a_t_now_line d_t_now_line i_t_now_line d_t_free i_t_free d_t_free_row i_t_free_row r_t_now_line_halts r_t_now_line_first r_t_free_row_kinds r_t_free_row_longs r_t_free_row_weights r_t_free_row_strengths r_t_free_row_wears r_t_free_row_pushes r_t_free_row_helpers r_t_now_line_kinds r_t_now_line_grades r_t_free_row_bears n1 n2 n3 (1 : Int32) _ hw_t_now_line X hf) ml_RX11_223 mv_yX11_borne [0, 1, 2, 3, 4, 5, 6, 7, 8, 9, 10, 11, 12, 13, 14, 15, 16] [] rfl rfl (by decide) (by decide) (by decide) (rcv F hB 0 rfl rfl) rfl hl.1 rfl (Nat.le_of_ble_eq_true rfl) ⟨Nat.le_of_ble_eq_true rfl, Nat.le_of_ble_eq_true rfl⟩ ⟨Nat.le_of_ble_eq_true rfl, Nat.le_of_ble_eq_true rfl⟩ dX11_strain_5 (fun ce q H locs hf hB h1 h2 h3 => rx_out (ws := (wd_LongTrain_strain k a_t d_t w_t i_t d_t_now w_t_now a_t_now_line d_t_now_line i_t_now_line d_t_free i_t_free d_t_free_row i_t_free_row r_t_now_line_halts r_t_now_line_first r_t_free_row_kinds r_t_free_row_longs r_t_free_row_weights r_t_free_row_strengths r_t_free_row_wears r_t_free_row_pushes r_t_free_row_helpers r_t_now_line_kinds r_t_now_line_grades r_t_free_row_bears)) F hlk hno (hB.sub [0, 1, 2, 3, 4, 5, 6, 7, 8, 9, 10, 11, 12, 13, 14, 15, 16] (by decide) rfl) hf h1 h2 h3 (Nat.le_of_ble_eq_true rfl) (Nat.le_of_ble_eq_true rfl)) (fun z_11 w1 H locs hq hB => ?_)
  obtain ⟨i_t_free_1, i_t_free_row_2, r_t_free_row_kinds_3, r_t_free_row_longs_4, r_t_free_row_weights_5, r_t_free_row_strengths_6, r_t_free_row_wears_7, r_t_free_row_pushes_8, r_t_free_row_helpers_9, r_t_free_row_bears_10, rfl, hf⟩ := hq
  replace hB : Bd D A s.heap (wd_LongTrain_strain k a_t d_t w_t i_t d_t_now w_t_now a_t_now_line d_t_now_line i_t_now_line d_t_free i_t_free_1 d_t_free_row i_t_free_row_2 r_t_now_line_halts r_t_now_line_first r_t_free_row_kinds_3 r_t_free_row_longs_4 r_t_free_row_weights_5 r_t_free_row_strengths_6 r_t_free_row_wears_7 r_t_free_row_pushes_8 r_t_free_row_helpers_9 r_t_now_line_kinds r_t_now_line_grades r_t_free_row_bears_10) H locs := hB.sub [0, 1, 2, 3, 4, 5, 6, 7, 8, 9, 10, 11, 12, 13, 14, 15, 16] (by decide) rfl
  exact rx_i F hr hlk hB ⟨_, _, _, _, _, _, _, _, _, _, rfl, hf⟩ (Nat.le_of_ble_eq_true rfl) (Nat.le_of_ble_eq_true rfl) dX11_strain_8

/-! LongTrain.squeeze -/
abbrev wd_LongTrain_squeeze (k : Nat → ClassId) (a_t : Nat) (d_t : Nat → Nat) (w_t : Nat → Value) (i_t : Nat → Int32) (d_t_now : Nat → Nat) (w_t_now : Nat → Value) (a_t_now_line : Nat) (d_t_now_line : Nat → Nat) (i_t_now_line : Nat → Int32) (d_t_free : Nat → Nat) (i_t_free : Nat → Int32) (d_t_free_row : Nat → Nat) (i_t_free_row : Nat → Int32) (r_t_now_line_halts : Nat → Int32) (r_t_now_line_first : Nat → Int32) (r_t_free_row_kinds : Nat → Int32) (r_t_free_row_longs : Nat → Int32) (r_t_free_row_weights : Nat → Int32) (r_t_free_row_strengths : Nat → Int32) (r_t_free_row_wears : Nat → Int32) (r_t_free_row_pushes : Nat → Int32) (r_t_free_row_helpers : Nat → Int32) (r_t_now_line_kinds : Nat → Int32) (r_t_now_line_grades : Nat → Int32) (r_t_free_row_bears : Nat → Int32) : va_W := [(a_t, ob 11 (vmx 11 d_t w_t) i_t j0), ((d_t 5), ob 9 (vmx 9 d_t_now w_t_now) i0 j0), (a_t_now_line, ob 3 (rfd d_t_now_line) i_t_now_line j0), ((d_t 9), ob 0 (rfd d_t_free) i_t_free j0), ((d_t_free 0), ob 8 (rfd d_t_free_row) i_t_free_row j0), ((d_t_now_line 2), ai k 30 r_t_now_line_halts), ((d_t_now_line 8), ai k 8 r_t_now_line_first), ((d_t_free_row 0), ai k 20 r_t_free_row_kinds), ((d_t_free_row 1), ai k 20 r_t_free_row_longs), ((d_t_free_row 2), ai k 20 r_t_free_row_weights), ((d_t_free_row 3), ai k 20 r_t_free_row_strengths), ((d_t_free_row 4), ai k 20 r_t_free_row_wears), ((d_t_free_row 5), ai k 20 r_t_free_row_pushes), ((d_t_free_row 6), ai k 20 r_t_free_row_helpers), ((d_t_now_line 6), ai k 18 r_t_now_line_kinds), ((d_t_now_line 0), ai k 400 r_t_now_line_grades), ((d_t_free_row 7), ai k 20 r_t_free_row_bears)]

def w_LongTrain_squeeze (i_t_now_line : Nat → Int32) (i_t_free : Nat → Int32) (i_t_free_row : Nat → Int32) (r_t_now_line_halts : Nat → Int32) (r_t_now_line_first : Nat → Int32) (r_t_free_row_kinds : Nat → Int32) (r_t_free_row_longs : Nat → Int32) (r_t_free_row_weights : Nat → Int32) (r_t_free_row_strengths : Nat → Int32) (r_t_free_row_wears : Nat → Int32) (r_t_free_row_pushes : Nat → Int32) (r_t_free_row_helpers : Nat → Int32) (r_t_now_line_kinds : Nat → Int32) (r_t_now_line_grades : Nat → Int32) (r_t_free_row_bears : Nat → Int32) (n1 : Int32) (n2 : Int32) (n3 : Int32) (Q : Int32 → (Nat → Int32) → (Nat → Int32) → (Nat → Int32) → (Nat → Int32) → (Nat → Int32) → (Nat → Int32) → (Nat → Int32) → (Nat → Int32) → (Nat → Int32) → (Nat → Int32) → Prop) (X : Prop) : Prop :=
  (w_LongTrain_borne i_t_now_line i_t_free i_t_free_row r_t_now_line_halts r_t_now_line_first r_t_free_row_kinds r_t_free_row_longs r_t_free_row_weights r_t_free_row_strengths r_t_free_row_wears r_t_free_row_pushes r_t_free_row_helpers r_t_now_line_kinds r_t_now_line_grades r_t_free_row_bears n1 n2 n3 (0 : Int32) (fun (z_11 : Int32) (i_t_free_1 : Nat → Int32) (i_t_free_row_2 : Nat → Int32) (r_t_free_row_kinds_3 : Nat → Int32) (r_t_free_row_longs_4 : Nat → Int32) (r_t_free_row_weights_5 : Nat → Int32) (r_t_free_row_strengths_6 : Nat → Int32) (r_t_free_row_wears_7 : Nat → Int32) (r_t_free_row_pushes_8 : Nat → Int32) (r_t_free_row_helpers_9 : Nat → Int32) (r_t_free_row_bears_10 : Nat → Int32) => (Q z_11 i_t_free_1 i_t_free_row_2 r_t_free_row_kinds_3 r_t_free_row_longs_4 r_t_free_row_weights_5 r_t_free_row_strengths_6 r_t_free_row_wears_7 r_t_free_row_pushes_8 r_t_free_row_helpers_9 r_t_free_row_bears_10)) X)

set_option maxRecDepth 100000 in
set_option maxHeartbeats 4000000 in
theorem cx_LongTrain_squeeze (l : Launch) (hst : l.stackTraces = false) (D : va_G) (k : Nat → ClassId)  (K : Nat → Nat) (a_t : Nat) (d_t : Nat → Nat) (w_t : Nat → Value) (i_t : Nat → Int32) (d_t_now : Nat → Nat) (w_t_now : Nat → Value) (a_t_now_line : Nat) (d_t_now_line : Nat → Nat) (i_t_now_line : Nat → Int32) (d_t_free : Nat → Nat) (i_t_free : Nat → Int32) (d_t_free_row : Nat → Nat) (i_t_free_row : Nat → Int32) (r_t_now_line_halts : Nat → Int32) (r_t_now_line_first : Nat → Int32) (r_t_free_row_kinds : Nat → Int32) (r_t_free_row_longs : Nat → Int32) (r_t_free_row_weights : Nat → Int32) (r_t_free_row_strengths : Nat → Int32) (r_t_free_row_wears : Nat → Int32) (r_t_free_row_pushes : Nat → Int32) (r_t_free_row_helpers : Nat → Int32) (r_t_now_line_kinds : Nat → Int32) (r_t_now_line_grades : Nat → Int32) (r_t_free_row_bears : Nat → Int32) (n1 : Int32) (n2 : Int32) (n3 : Int32) (Q : Int32 → (Nat → Int32) → (Nat → Int32) → (Nat → Int32) → (Nat → Int32) → (Nat → Int32) → (Nat → Int32) → (Nat → Int32) → (Nat → Int32) → (Nat → Int32) → (Nat → Int32) → Prop) (hw_t_now_line : w_t_now 0 = .ref a_t_now_line) (X : Prop) (hf : w_LongTrain_squeeze i_t_now_line i_t_free i_t_free_row r_t_now_line_halts r_t_now_line_first r_t_free_row_kinds r_t_free_row_longs r_t_free_row_weights r_t_free_row_strengths r_t_free_row_wears r_t_free_row_pushes r_t_free_row_helpers r_t_now_line_kinds r_t_now_line_grades r_t_free_row_bears n1 n2 n3 Q X) : CxI l yX11_squeeze cX11_squeeze 4 (some .int) 7 142 D k K [.ref a_t, .int n1, .int n2, .int n3] (wd_LongTrain_squeeze k a_t d_t w_t i_t d_t_now w_t_now a_t_now_line d_t_now_line i_t_now_line d_t_free i_t_free d_t_free_row i_t_free_row r_t_now_line_halts r_t_now_line_first r_t_free_row_kinds r_t_free_row_longs r_t_free_row_weights r_t_free_row_strengths r_t_free_row_wears r_t_free_row_pushes r_t_free_row_helpers r_t_now_line_kinds r_t_now_line_grades r_t_free_row_bears) (fun r w => ∃ (i_t_free : Nat → Int32), ∃ (i_t_free_row : Nat → Int32), ∃ (r_t_free_row_kinds : Nat → Int32), ∃ (r_t_free_row_longs : Nat → Int32), ∃ (r_t_free_row_weights : Nat → Int32), ∃ (r_t_free_row_strengths : Nat → Int32), ∃ (r_t_free_row_wears : Nat → Int32), ∃ (r_t_free_row_pushes : Nat → Int32), ∃ (r_t_free_row_helpers : Nat → Int32), ∃ (r_t_free_row_bears : Nat → Int32), w = (wd_LongTrain_squeeze k a_t d_t w_t i_t d_t_now w_t_now a_t_now_line d_t_now_line i_t_now_line d_t_free i_t_free d_t_free_row i_t_free_row r_t_now_line_halts r_t_now_line_first r_t_free_row_kinds r_t_free_row_longs r_t_free_row_weights r_t_free_row_strengths r_t_free_row_wears r_t_free_row_pushes r_t_free_row_helpers r_t_now_line_kinds r_t_now_line_grades r_t_free_row_bears) ∧ Q r i_t_free i_t_free_row r_t_free_row_kinds r_t_free_row_longs r_t_free_row_weights r_t_free_row_strengths r_t_free_row_wears r_t_free_row_pushes r_t_free_row_helpers r_t_free_row_bears) X := by
  refine CxI.of (by decide) (Nat.le_of_ble_eq_true rfl) ?_
  intro p e s m below meth c A F hr hlk hA hE hno hB ls hl
  have hx := F.x
  have hb := F.b
  unfold w_LongTrain_squeeze at hf
  replace hl : lv_has ls 4 [(0, .ref a_t), (1, .int n1), (2, .int n2), (3, .int n3)] := hl
  refine lv_aload_n hx hb dX11_squeeze_0 rfl (lv_at hl 0 rfl) ?_
  refine lv_iload_n hx hb dX11_squeeze_1 rfl (lv_at hl 1 rfl) ?_
  refine lv_iload_n hx hb dX11_squeeze_2 rfl (lv_at hl 2 rfl) ?_
  refine lv_iload_n hx hb dX11_squeeze_3 rfl (lv_at hl 3 rfl) ?_
  refine lv_iconst (v := 0) hx hb dX11_squeeze_4 (by decide) ?_
  refine kx_vi (wr := []) (rest := []) F hE hA hB (cx_LongTrain_borne l hst D k K a_t d_t w_t i_t d_t_now w_t_now a_t_now_line d_t_now_line i_t_now_line d_t_free i_t_free d_t_free_row i_t_free_row r_t_now_line_halts r_t_now_line_first r_t_free_row_kinds r_t_free_row_longs r_t_free_row_weights r_t_free_row_strengths r_t_free_row_wears r_t_free_row_pushes r_t_free_row_helpers r_t_now_line_kinds r_t_now_line_grades r_t_free_row_bears n1 n2 n3 (0 : Int32) _ hw_t_now_line X hf) ml_RX11_223 mv_yX11_borne [0, 1, 2, 3, 4, 5, 6, 7, 8, 9, 10, 11, 12, 13, 14, 15, 16] [] rfl rfl (by decide) (by decide) (by decide) (rcv F hB 0 rfl rfl) rfl hl.1 rfl (Nat.le_of_ble_eq_true rfl) ⟨Nat.le_of_ble_eq_true rfl, Nat.le_of_ble_eq_true rfl⟩ ⟨Nat.le_of_ble_eq_true rfl, Nat.le_of_ble_eq_true rfl⟩ dX11_squeeze_5 (fun ce q H locs hf hB h1 h2 h3 => rx_out (ws := (wd_LongTrain_squeeze k a_t d_t w_t i_t d_t_now w_t_now a_t_now_line d_t_now_line i_t_now_line d_t_free i_t_free d_t_free_row i_t_free_row r_t_now_line_halts r_t_now_line_first r_t_free_row_kinds r_t_free_row_longs r_t_free_row_weights r_t_free_row_strengths r_t_free_row_wears r_t_free_row_pushes r_t_free_row_helpers r_t_now_line_kinds r_t_now_line_grades r_t_free_row_bears)) F hlk hno (hB.sub [0, 1, 2, 3, 4, 5, 6, 7, 8, 9, 10, 11, 12, 13, 14, 15, 16] (by decide) rfl) hf h1 h2 h3 (Nat.le_of_ble_eq_true rfl) (Nat.le_of_ble_eq_true rfl)) (fun z_11 w1 H locs hq hB => ?_)
  obtain ⟨i_t_free_1, i_t_free_row_2, r_t_free_row_kinds_3, r_t_free_row_longs_4, r_t_free_row_weights_5, r_t_free_row_strengths_6, r_t_free_row_wears_7, r_t_free_row_pushes_8, r_t_free_row_helpers_9, r_t_free_row_bears_10, rfl, hf⟩ := hq
  replace hB : Bd D A s.heap (wd_LongTrain_squeeze k a_t d_t w_t i_t d_t_now w_t_now a_t_now_line d_t_now_line i_t_now_line d_t_free i_t_free_1 d_t_free_row i_t_free_row_2 r_t_now_line_halts r_t_now_line_first r_t_free_row_kinds_3 r_t_free_row_longs_4 r_t_free_row_weights_5 r_t_free_row_strengths_6 r_t_free_row_wears_7 r_t_free_row_pushes_8 r_t_free_row_helpers_9 r_t_now_line_kinds r_t_now_line_grades r_t_free_row_bears_10) H locs := hB.sub [0, 1, 2, 3, 4, 5, 6, 7, 8, 9, 10, 11, 12, 13, 14, 15, 16] (by decide) rfl
  exact rx_i F hr hlk hB ⟨_, _, _, _, _, _, _, _, _, _, rfl, hf⟩ (Nat.le_of_ble_eq_true rfl) (Nat.le_of_ble_eq_true rfl) dX11_squeeze_8

