/-! LongTrain.LineReader.readSlope -/
set_option maxRecDepth 100000 in
set_option maxHeartbeats 4000000 in
theorem bt_LineReader_readSlope_148 {p : Program} {l : Launch} {e : Env} {s : State} {m : MethodId} {below : List Frame} {meth : Method} {c : Code} {A : Nat → Prop} {D : va_G} {k : Nat → ClassId} {a_t : Nat} {d_t : Nat → Nat} {w_t : Nat → Value} {i_t : Nat → Int32} {w_t_reader : Nat → Value} {i_t_reader : Nat → Int32} {j_t_reader : Nat → Int64} {a_t_reader_text : Nat} {r_t_reader_text : Nat → Int32} {a_t_line : Nat} {d_t_line : Nat → Nat} {i_t_line : Nat → Int32}  {Q : Int32 → (Nat → Int32) → (Nat → Int32) → (Nat → Int64) → (Nat → Int32) → (Nat → Int32) → Prop} (hw_t_reader_text : w_t_reader 0 = .ref a_t_reader_text) (hw_t_line : w_t 3 = .ref a_t_line) {x2 : Int32} {kx_148 : (Nat → Int32) → Prop} {kr_148 : (Int32) → (Nat → Int32) → Prop} (F : Fx p m c cX4_readSlope 4 s ([.ref a_t] : List Value).toArray RX4 D k) (hr : meth.sig.returnType = (some .boolean)) (hlk : meth.locks = false) (hA : ∀ q : Nat, s.heap.size ≤ q → A q) (hkx_148 : ∀ (r_t_line_grades : Nat → Int32) (H : Heap) (locs : List Loc) (ls : Array Slot), kx_148 r_t_line_grades → Bd D A s.heap (wd_LineReader_readSlope k a_t d_t w_t i_t w_t_reader i_t_reader j_t_reader a_t_reader_text r_t_reader_text a_t_line d_t_line i_t_line r_t_line_grades) H locs → lv_has ls 4 [(0, .ref a_t)] → W p l e { frames := 4, cells := 0, slots := 0, locals := 87 } s m ([.ref a_t] : List Value).toArray below meth c H locs 0 0 (Ei below (fun r w => (r = 0 ∨ r = 1) ∧ (∃ (i_t : Nat → Int32), ∃ (i_t_reader : Nat → Int32), ∃ (j_t_reader : Nat → Int64), ∃ (i_t_line : Nat → Int32), ∃ (r_t_line_grades : Nat → Int32), w = (wd_LineReader_readSlope k a_t d_t w_t i_t w_t_reader i_t_reader j_t_reader a_t_reader_text r_t_reader_text a_t_line d_t_line i_t_line r_t_line_grades) ∧ Q r i_t i_t_reader j_t_reader i_t_line r_t_line_grades)) D k A ([.ref a_t] : List Value).toArray s 0 0) (F0 m 183 ls [])) (hkr_148 : ∀ (x3 : Int32) (r_t_line_grades : Nat → Int32) (H : Heap) (locs : List Loc) (ls : Array Slot), kr_148 x3 r_t_line_grades → Bd D A s.heap (wd_LineReader_readSlope k a_t d_t w_t i_t w_t_reader i_t_reader j_t_reader a_t_reader_text r_t_reader_text a_t_line d_t_line i_t_line r_t_line_grades) H locs → lv_has ls 4 [(0, .ref a_t), (2, .int x2), (3, .int x3)] → W p l e { frames := 4, cells := 0, slots := 0, locals := 87 } s m ([.ref a_t] : List Value).toArray below meth c H locs 0 0 (Ei below (fun r w => (r = 0 ∨ r = 1) ∧ (∃ (i_t : Nat → Int32), ∃ (i_t_reader : Nat → Int32), ∃ (j_t_reader : Nat → Int64), ∃ (i_t_line : Nat → Int32), ∃ (r_t_line_grades : Nat → Int32), w = (wd_LineReader_readSlope k a_t d_t w_t i_t w_t_reader i_t_reader j_t_reader a_t_reader_text r_t_reader_text a_t_line d_t_line i_t_line r_t_line_grades) ∧ Q r i_t i_t_reader j_t_reader i_t_line r_t_line_grades)) D k A ([.ref a_t] : List Value).toArray s 0 0) (F0 m 148 ls [])) :
    ∀ (x3 : Int32) (r_t_line_grades : Nat → Int32) (H : Heap) (locs : List Loc) (ls : Array Slot), b_LineReader_readSlope_148 i_t_reader i_t_line x2 kx_148 kr_148 x3 r_t_line_grades → Bd D A s.heap (wd_LineReader_readSlope k a_t d_t w_t i_t w_t_reader i_t_reader j_t_reader a_t_reader_text r_t_reader_text a_t_line d_t_line i_t_line r_t_line_grades) H locs → lv_has ls 4 [(0, .ref a_t), (2, .int x2), (3, .int x3)] → W p l e { frames := 4, cells := 0, slots := 0, locals := 87 } s m ([.ref a_t] : List Value).toArray below meth c H locs 0 0 (Ei below (fun r w => (r = 0 ∨ r = 1) ∧ (∃ (i_t : Nat → Int32), ∃ (i_t_reader : Nat → Int32), ∃ (j_t_reader : Nat → Int64), ∃ (i_t_line : Nat → Int32), ∃ (r_t_line_grades : Nat → Int32), w = (wd_LineReader_readSlope k a_t d_t w_t i_t w_t_reader i_t_reader j_t_reader a_t_reader_text r_t_reader_text a_t_line d_t_line i_t_line r_t_line_grades) ∧ Q r i_t i_t_reader j_t_reader i_t_line r_t_line_grades)) D k A ([.ref a_t] : List Value).toArray s 0 0) (F0 m 148 ls []) := by
  have hx := F.x
  have hb := F.b
  intro x3 r_t_line_grades H locs ls hf hB hl
  unfold b_LineReader_readSlope_148 at hf
  refine lv_iload_n hx hb dX4_readSlope_148 rfl (lv_at hl 2 rfl) ?_
  refine lv_aload_n hx hb dX4_readSlope_149 rfl (lv_at hl 0 rfl) ?_
  refine g_get (w := .ref (d_t 0)) F hB 0 rfl fl_RX4_12 rfl dX4_readSlope_150 ?_
  refine g_get (w := .int (i_t_reader 6)) F hB 1 rfl fl_RX4_104 rfl dX4_readSlope_153 ?_
  refine lv_icmp_ge (tgt := 183) hx hb dX4_readSlope_156 (by decide) (fun c_11 => ?_) (fun c_11 => ?_)
  · replace hf := hf.1 c_11
    exact hkx_148 _ _ _ _ hf hB (lv_sub hl [0] rfl)
  · replace hf := hf.2 c_11
    refine lv_aload_n hx hb dX4_readSlope_159 rfl (lv_at hl 0 rfl) ?_
    refine g_get (w := .ref a_t_line) F hB 0 rfl fl_RX4_29 hw_t_line dX4_readSlope_160 ?_
    refine g_get (w := .ref (d_t_line 0)) F hB 3 rfl fl_RX4_113 rfl dX4_readSlope_163 ?_
    refine lv_aload_n hx hb dX4_readSlope_166 rfl (lv_at hl 0 rfl) ?_
    refine g_get (w := .ref a_t_line) F hB 0 rfl fl_RX4_29 hw_t_line dX4_readSlope_167 ?_
    refine g_get (w := .int (i_t_line 1)) F hB 3 rfl fl_RX4_110 rfl dX4_readSlope_170 ?_
    refine lv_iload_n hx hb dX4_readSlope_173 rfl (lv_at hl 2 rfl) ?_
    refine lv_iadd hx hb dX4_readSlope_174 ?_
    refine lv_iload_n hx hb dX4_readSlope_175 rfl (lv_at hl 1 rfl) ?_
    obtain ⟨h_10, hf⟩ := hf
    refine g_iast F hB 4 rfl h_10 (wd_LineReader_readSlope k a_t d_t w_t i_t w_t_reader i_t_reader j_t_reader a_t_reader_text r_t_reader_text a_t_line d_t_line i_t_line (upd r_t_line_grades (((i_t_line 1) + x3)).toNatClampNeg x2)) rfl dX4_readSlope_176 (fun H locs hB => ?_)
    refine lv_iinc (v := (x3 + 1)) (lv' := [(3, .int (x3 + 1)), (0, .ref a_t), (2, .int x2)]) (k := 2) hx hb dX4_readSlope_177 hl rfl rfl (by decide) rfl (fun ls hl => ?_)
    refine lv_goto (tgt := 148) hx hb dX4_readSlope_180 (by decide) ?_
    exact hkr_148 _ _ _ _ _ hf hB (lv_sub hl [1, 2, 0] rfl)

set_option maxRecDepth 100000 in
set_option maxHeartbeats 4000000 in
theorem lt_LineReader_readSlope_148 {p : Program} {l : Launch} {e : Env} {s : State} {m : MethodId} {below : List Frame} {meth : Method} {c : Code} {A : Nat → Prop} {D : va_G} {k : Nat → ClassId} {a_t : Nat} {d_t : Nat → Nat} {w_t : Nat → Value} {i_t : Nat → Int32} {w_t_reader : Nat → Value} {i_t_reader : Nat → Int32} {j_t_reader : Nat → Int64} {a_t_reader_text : Nat} {r_t_reader_text : Nat → Int32} {a_t_line : Nat} {d_t_line : Nat → Nat} {i_t_line : Nat → Int32}  {Q : Int32 → (Nat → Int32) → (Nat → Int32) → (Nat → Int64) → (Nat → Int32) → (Nat → Int32) → Prop} (hw_t_reader_text : w_t_reader 0 = .ref a_t_reader_text) (hw_t_line : w_t 3 = .ref a_t_line) {x2 : Int32} {kx_148 : (Nat → Int32) → Prop} (F : Fx p m c cX4_readSlope 4 s ([.ref a_t] : List Value).toArray RX4 D k) (hr : meth.sig.returnType = (some .boolean)) (hlk : meth.locks = false) (hA : ∀ q : Nat, s.heap.size ≤ q → A q) (hkx_148 : ∀ (r_t_line_grades : Nat → Int32) (H : Heap) (locs : List Loc) (ls : Array Slot), kx_148 r_t_line_grades → Bd D A s.heap (wd_LineReader_readSlope k a_t d_t w_t i_t w_t_reader i_t_reader j_t_reader a_t_reader_text r_t_reader_text a_t_line d_t_line i_t_line r_t_line_grades) H locs → lv_has ls 4 [(0, .ref a_t)] → W p l e { frames := 4, cells := 0, slots := 0, locals := 87 } s m ([.ref a_t] : List Value).toArray below meth c H locs 0 0 (Ei below (fun r w => (r = 0 ∨ r = 1) ∧ (∃ (i_t : Nat → Int32), ∃ (i_t_reader : Nat → Int32), ∃ (j_t_reader : Nat → Int64), ∃ (i_t_line : Nat → Int32), ∃ (r_t_line_grades : Nat → Int32), w = (wd_LineReader_readSlope k a_t d_t w_t i_t w_t_reader i_t_reader j_t_reader a_t_reader_text r_t_reader_text a_t_line d_t_line i_t_line r_t_line_grades) ∧ Q r i_t i_t_reader j_t_reader i_t_line r_t_line_grades)) D k A ([.ref a_t] : List Value).toArray s 0 0) (F0 m 183 ls [])) :
    ∀ n : Nat, ∀ (x3 : Int32) (r_t_line_grades : Nat → Int32) (H : Heap) (locs : List Loc) (ls : Array Slot), lp_LineReader_readSlope_148 i_t_reader i_t_line x2 kx_148 n x3 r_t_line_grades → Bd D A s.heap (wd_LineReader_readSlope k a_t d_t w_t i_t w_t_reader i_t_reader j_t_reader a_t_reader_text r_t_reader_text a_t_line d_t_line i_t_line r_t_line_grades) H locs → lv_has ls 4 [(0, .ref a_t), (2, .int x2), (3, .int x3)] → W p l e { frames := 4, cells := 0, slots := 0, locals := 87 } s m ([.ref a_t] : List Value).toArray below meth c H locs 0 0 (Ei below (fun r w => (r = 0 ∨ r = 1) ∧ (∃ (i_t : Nat → Int32), ∃ (i_t_reader : Nat → Int32), ∃ (j_t_reader : Nat → Int64), ∃ (i_t_line : Nat → Int32), ∃ (r_t_line_grades : Nat → Int32), w = (wd_LineReader_readSlope k a_t d_t w_t i_t w_t_reader i_t_reader j_t_reader a_t_reader_text r_t_reader_text a_t_line d_t_line i_t_line r_t_line_grades) ∧ Q r i_t i_t_reader j_t_reader i_t_line r_t_line_grades)) D k A ([.ref a_t] : List Value).toArray s 0 0) (F0 m 148 ls []) := by
  intro n
  induction n with
  | zero => intro x3 r_t_line_grades H locs ls hf; exact absurd hf (fun h => h)
  | succ n ih => exact bt_LineReader_readSlope_148 hw_t_reader_text hw_t_line F hr hlk hA hkx_148 ih

set_option maxRecDepth 100000 in
set_option maxHeartbeats 4000000 in
theorem jt_LineReader_readSlope_100 {p : Program} {l : Launch} {e : Env} {s : State} {m : MethodId} {below : List Frame} {meth : Method} {c : Code} {A : Nat → Prop} {D : va_G} {k : Nat → ClassId} {a_t : Nat} {d_t : Nat → Nat} {w_t : Nat → Value} {w_t_reader : Nat → Value} {a_t_reader_text : Nat} {r_t_reader_text : Nat → Int32} {a_t_line : Nat} {d_t_line : Nat → Nat}  {Q : Int32 → (Nat → Int32) → (Nat → Int32) → (Nat → Int64) → (Nat → Int32) → (Nat → Int32) → Prop} (hw_t_reader_text : w_t_reader 0 = .ref a_t_reader_text) (hw_t_line : w_t 3 = .ref a_t_line) (F : Fx p m c cX4_readSlope 4 s ([.ref a_t] : List Value).toArray RX4 D k) (hr : meth.sig.returnType = (some .boolean)) (hlk : meth.locks = false) (hA : ∀ q : Nat, s.heap.size ≤ q → A q) :
    ∀ (i_t : Nat → Int32) (i_t_reader : Nat → Int32) (j_t_reader : Nat → Int64) (i_t_line : Nat → Int32) (r_t_line_grades : Nat → Int32) (y0 : Int32) (H : Heap) (locs : List Loc) (ls : Array Slot), j_LineReader_readSlope_100 i_t i_t_reader j_t_reader r_t_reader_text i_t_line r_t_line_grades y0 Q → Bd D A s.heap (wd_LineReader_readSlope k a_t d_t w_t i_t w_t_reader i_t_reader j_t_reader a_t_reader_text r_t_reader_text a_t_line d_t_line i_t_line r_t_line_grades) H locs → lv_has ls 4 [(0, .ref a_t)] → W p l e { frames := 4, cells := 0, slots := 0, locals := 87 } s m ([.ref a_t] : List Value).toArray below meth c H locs 0 0 (Ei below (fun r w => (r = 0 ∨ r = 1) ∧ (∃ (i_t : Nat → Int32), ∃ (i_t_reader : Nat → Int32), ∃ (j_t_reader : Nat → Int64), ∃ (i_t_line : Nat → Int32), ∃ (r_t_line_grades : Nat → Int32), w = (wd_LineReader_readSlope k a_t d_t w_t i_t w_t_reader i_t_reader j_t_reader a_t_reader_text r_t_reader_text a_t_line d_t_line i_t_line r_t_line_grades) ∧ Q r i_t i_t_reader j_t_reader i_t_line r_t_line_grades)) D k A ([.ref a_t] : List Value).toArray s 0 0) (F0 m 100 ls [.int y0]) := by
  have hx := F.x
  have hb := F.b
  intro i_t i_t_reader j_t_reader i_t_line r_t_line_grades y0 H locs ls hf hB hl
  unfold j_LineReader_readSlope_100 at hf
  refine lv_istore_n (lv' := [(2, .int y0), (0, .ref a_t)]) hx hb dX4_readSlope_100 rfl hl (by decide) rfl (fun ls hl => ?_)
  refine lv_aload_n hx hb dX4_readSlope_101 rfl (lv_at hl 1 rfl) ?_
  refine g_get (w := .ref (d_t 0)) F hB 0 rfl fl_RX4_12 rfl dX4_readSlope_102 ?_
  refine lv_iconst (v := 1) hx hb dX4_readSlope_105 (by decide) ?_
  refine lv_bipush (v := 99) hx hb dX4_readSlope_106 (by decide) ?_
  refine k_vi (wr := [(a_t, ob 4 (vmx 4 d_t w_t) i_t j0), (a_t_line, ob 3 (rfd d_t_line) i_t_line j0), ((d_t_line 0), ai k 400 r_t_line_grades)]) (rest := []) F hA hB (c_Reader_nextNumber l D k (d_t 0) w_t_reader i_t_reader j_t_reader a_t_reader_text r_t_reader_text (1 : Int32) (99 : Int32) _ hw_t_reader_text hf) ml_RX4_107 mv_yX7_nextNumber [1, 2] [0, 3, 4] rfl rfl (by decide) (by decide) (by decide) 1 rfl rfl rfl hl.1 rfl (Nat.le_of_ble_eq_true rfl) ⟨Nat.le_of_ble_eq_true rfl, Nat.le_of_ble_eq_true rfl⟩ ⟨Nat.le_of_ble_eq_true rfl, Nat.le_of_ble_eq_true rfl⟩ dX4_readSlope_108 (fun z_8 w1 H locs hq hB => ?_)
  obtain ⟨h_9, i_t_reader_6, j_t_reader_7, rfl, hf⟩ := hq
  replace hB : Bd D A s.heap (wd_LineReader_readSlope k a_t d_t w_t i_t w_t_reader i_t_reader_6 j_t_reader_7 a_t_reader_text r_t_reader_text a_t_line d_t_line i_t_line r_t_line_grades) H locs := hB.sub [0, 3, 4, 1, 2] (by decide) rfl
  refine lv_if_ne (tgt := 116) hx hb dX4_readSlope_111 (by decide) (fun c_18 => ?_) (fun c_18 => ?_)
  · replace hf := hf.1 c_18
    refine lv_aload_n hx hb dX4_readSlope_116 rfl (lv_at hl 1 rfl) ?_
    refine g_get (w := .ref a_t_line) F hB 0 rfl fl_RX4_29 hw_t_line dX4_readSlope_117 ?_
    refine g_get (w := .int (i_t_line 1)) F hB 3 rfl fl_RX4_110 rfl dX4_readSlope_120 ?_
    refine lv_aload_n hx hb dX4_readSlope_123 rfl (lv_at hl 1 rfl) ?_
    refine g_get (w := .ref (d_t 0)) F hB 0 rfl fl_RX4_12 rfl dX4_readSlope_124 ?_
    refine g_get (w := .int (i_t_reader_6 6)) F hB 1 rfl fl_RX4_104 rfl dX4_readSlope_127 ?_
    refine lv_iadd hx hb dX4_readSlope_130 ?_
    refine lv_sipush (v := 400) hx hb dX4_readSlope_131 (by decide) ?_
    refine lv_icmp_le (tgt := 146) hx hb dX4_readSlope_134 (by decide) (fun c_17 => ?_) (fun c_17 => ?_)
    · replace hf := hf.1 c_17
      refine lv_iconst (v := 0) hx hb dX4_readSlope_146 (by decide) ?_
      refine lv_istore_n (lv' := [(3, .int (0 : Int32)), (2, .int y0), (0, .ref a_t)]) hx hb dX4_readSlope_147 rfl hl (by decide) rfl (fun ls hl => ?_)
      obtain ⟨n_13, hf⟩ := hf
      refine lt_LineReader_readSlope_148 hw_t_reader_text hw_t_line F hr hlk hA (fun r_t_line_grades_12 H locs ls hf hB hl => ?_) n_13 _ _ _ _ _ hf hB (lv_sub hl [2, 1, 0] rfl)
      refine lv_aload_n hx hb dX4_readSlope_183 rfl (lv_at hl 0 rfl) ?_
      refine g_get (w := .ref a_t_line) F hB 0 rfl fl_RX4_29 hw_t_line dX4_readSlope_184 ?_
      refine lv_dup hx hb dX4_readSlope_187 rfl ?_
      refine g_get (w := .int (i_t_line 1)) F hB 3 rfl fl_RX4_110 rfl dX4_readSlope_188 ?_
      refine lv_aload_n hx hb dX4_readSlope_191 rfl (lv_at hl 0 rfl) ?_
      refine g_get (w := .ref (d_t 0)) F hB 0 rfl fl_RX4_12 rfl dX4_readSlope_192 ?_
      refine g_get (w := .int (i_t_reader_6 6)) F hB 1 rfl fl_RX4_104 rfl dX4_readSlope_195 ?_
      refine lv_iadd hx hb dX4_readSlope_198 ?_
      refine g_puti F hB 3 rfl fl_RX4_110 rfl (wd_LineReader_readSlope k a_t d_t w_t i_t w_t_reader i_t_reader_6 j_t_reader_7 a_t_reader_text r_t_reader_text a_t_line d_t_line (upd i_t_line 1 ((i_t_line 1) + (i_t_reader_6 6))) r_t_line_grades_12) rfl dX4_readSlope_199 (fun H locs hB => ?_)
      refine lv_iconst (v := 1) hx hb dX4_readSlope_202 (by decide) ?_
      exact r_z F hr hlk hB (Or.inr rfl) ⟨Or.inr rfl, _, _, _, _, _, rfl, hf⟩ dX4_readSlope_203
    · replace hf := hf.2 c_17
      refine lv_aload_n hx hb dX4_readSlope_137 rfl (lv_at hl 1 rfl) ?_
      refine g_get (w := .ref (d_t 0)) F hB 0 rfl fl_RX4_12 rfl dX4_readSlope_138 ?_
      refine lv_iconst (v := 4) hx hb dX4_readSlope_141 (by decide) ?_
      refine k_vi (wr := [(a_t, ob 4 (vmx 4 d_t w_t) i_t j0), (a_t_reader_text, ai k 940 r_t_reader_text), (a_t_line, ob 3 (rfd d_t_line) i_t_line j0), ((d_t_line 0), ai k 400 r_t_line_grades)]) (rest := []) F hA hB (c_Reader_failHere l D k (d_t 0) w_t_reader i_t_reader_6 j_t_reader_7 (4 : Int32) _  hf) ml_RX4_94 mv_yX7_failHere [1] [0, 2, 3, 4] rfl rfl (by decide) (by decide) (by decide) 1 rfl rfl rfl hl.1 rfl (Nat.le_of_ble_eq_true rfl) ⟨Nat.le_of_ble_eq_true rfl, Nat.le_of_ble_eq_true rfl⟩ ⟨Nat.le_of_ble_eq_true rfl, Nat.le_of_ble_eq_true rfl⟩ dX4_readSlope_142 (fun z_15 w1 H locs hq hB => ?_)
      obtain ⟨h_16, i_t_reader_14, rfl, hf⟩ := hq
      replace hB : Bd D A s.heap (wd_LineReader_readSlope k a_t d_t w_t i_t w_t_reader i_t_reader_14 j_t_reader_7 a_t_reader_text r_t_reader_text a_t_line d_t_line i_t_line r_t_line_grades) H locs := hB.sub [0, 4, 1, 2, 3] (by decide) rfl
      exact r_z F hr hlk hB (h_16) ⟨h_16, _, _, _, _, _, rfl, hf⟩ dX4_readSlope_145
  · replace hf := hf.2 c_18
    refine lv_iconst (v := 0) hx hb dX4_readSlope_114 (by decide) ?_
    exact r_z F hr hlk hB (Or.inl rfl) ⟨Or.inl rfl, _, _, _, _, _, rfl, hf⟩ dX4_readSlope_115

set_option maxRecDepth 100000 in
set_option maxHeartbeats 4000000 in
theorem jt_LineReader_readSlope_63 {p : Program} {l : Launch} {e : Env} {s : State} {m : MethodId} {below : List Frame} {meth : Method} {c : Code} {A : Nat → Prop} {D : va_G} {k : Nat → ClassId} {a_t : Nat} {d_t : Nat → Nat} {w_t : Nat → Value} {w_t_reader : Nat → Value} {a_t_reader_text : Nat} {r_t_reader_text : Nat → Int32} {a_t_line : Nat} {d_t_line : Nat → Nat}  {Q : Int32 → (Nat → Int32) → (Nat → Int32) → (Nat → Int64) → (Nat → Int32) → (Nat → Int32) → Prop} (hw_t_reader_text : w_t_reader 0 = .ref a_t_reader_text) (hw_t_line : w_t 3 = .ref a_t_line) (F : Fx p m c cX4_readSlope 4 s ([.ref a_t] : List Value).toArray RX4 D k) (hr : meth.sig.returnType = (some .boolean)) (hlk : meth.locks = false) (hA : ∀ q : Nat, s.heap.size ≤ q → A q) :
    ∀ (i_t : Nat → Int32) (i_t_reader : Nat → Int32) (j_t_reader : Nat → Int64) (i_t_line : Nat → Int32) (r_t_line_grades : Nat → Int32) (x1 : Int32) (H : Heap) (locs : List Loc) (ls : Array Slot), j_LineReader_readSlope_63 i_t i_t_reader j_t_reader r_t_reader_text i_t_line r_t_line_grades x1 Q → Bd D A s.heap (wd_LineReader_readSlope k a_t d_t w_t i_t w_t_reader i_t_reader j_t_reader a_t_reader_text r_t_reader_text a_t_line d_t_line i_t_line r_t_line_grades) H locs → lv_has ls 4 [(0, .ref a_t), (1, .int x1)] → W p l e { frames := 4, cells := 0, slots := 0, locals := 87 } s m ([.ref a_t] : List Value).toArray below meth c H locs 0 0 (Ei below (fun r w => (r = 0 ∨ r = 1) ∧ (∃ (i_t : Nat → Int32), ∃ (i_t_reader : Nat → Int32), ∃ (j_t_reader : Nat → Int64), ∃ (i_t_line : Nat → Int32), ∃ (r_t_line_grades : Nat → Int32), w = (wd_LineReader_readSlope k a_t d_t w_t i_t w_t_reader i_t_reader j_t_reader a_t_reader_text r_t_reader_text a_t_line d_t_line i_t_line r_t_line_grades) ∧ Q r i_t i_t_reader j_t_reader i_t_line r_t_line_grades)) D k A ([.ref a_t] : List Value).toArray s 0 0) (F0 m 63 ls []) := by
  have hx := F.x
  have hb := F.b
  intro i_t i_t_reader j_t_reader i_t_line r_t_line_grades x1 H locs ls hf hB hl
  unfold j_LineReader_readSlope_63 at hf
  refine lv_aload_n hx hb dX4_readSlope_63 rfl (lv_at hl 0 rfl) ?_
  refine g_get (w := .ref (d_t 0)) F hB 0 rfl fl_RX4_12 rfl dX4_readSlope_64 ?_
  refine lv_iconst (v := 0) hx hb dX4_readSlope_67 (by decide) ?_
  refine lv_bipush (v := 9) hx hb dX4_readSlope_68 (by decide) ?_
  refine k_vi (wr := [(a_t, ob 4 (vmx 4 d_t w_t) i_t j0), (a_t_reader_text, ai k 940 r_t_reader_text), (a_t_line, ob 3 (rfd d_t_line) i_t_line j0), ((d_t_line 0), ai k 400 r_t_line_grades)]) (rest := []) F hA hB (c_Reader_isNumber l D k (d_t 0) w_t_reader i_t_reader j_t_reader (0 : Int32) (9 : Int32) _  hf) ml_RX4_100 mv_yX7_isNumber [1] [0, 2, 3, 4] rfl rfl (by decide) (by decide) (by decide) 1 rfl rfl rfl hl.1 rfl (Nat.le_of_ble_eq_true rfl) ⟨Nat.le_of_ble_eq_true rfl, Nat.le_of_ble_eq_true rfl⟩ ⟨Nat.le_of_ble_eq_true rfl, Nat.le_of_ble_eq_true rfl⟩ dX4_readSlope_70 (fun z_4 w1 H locs hq hB => ?_)
  obtain ⟨h_5, i_t_reader_3, rfl, hf⟩ := hq
  replace hB : Bd D A s.heap (wd_LineReader_readSlope k a_t d_t w_t i_t w_t_reader i_t_reader_3 j_t_reader a_t_reader_text r_t_reader_text a_t_line d_t_line i_t_line r_t_line_grades) H locs := hB.sub [0, 4, 1, 2, 3] (by decide) rfl
  refine lv_if_ne (tgt := 78) hx hb dX4_readSlope_73 (by decide) (fun c_20 => ?_) (fun c_20 => ?_)
  · replace hf := hf.1 c_20
    refine lv_iload_n hx hb dX4_readSlope_78 rfl (lv_at hl 1 rfl) ?_
    refine lv_if_eq (tgt := 93) hx hb dX4_readSlope_79 (by decide) (fun c_19 => ?_) (fun c_19 => ?_)
    · replace hf := hf.1 c_19
      refine lv_aload_n hx hb dX4_readSlope_93 rfl (lv_at hl 0 rfl) ?_
      refine g_get (w := .ref (d_t 0)) F hB 0 rfl fl_RX4_12 rfl dX4_readSlope_94 ?_
      refine g_get (w := .int (i_t_reader_3 6)) F hB 1 rfl fl_RX4_104 rfl dX4_readSlope_97 ?_
      exact jt_LineReader_readSlope_100 hw_t_reader_text hw_t_line F hr hlk hA _ _ _ _ _ _ _ _ _ hf hB (lv_sub hl [0] rfl)
    · replace hf := hf.2 c_19
      refine lv_aload_n hx hb dX4_readSlope_82 rfl (lv_at hl 0 rfl) ?_
      refine g_get (w := .ref (d_t 0)) F hB 0 rfl fl_RX4_12 rfl dX4_readSlope_83 ?_
      refine g_get (w := .int (i_t_reader_3 6)) F hB 1 rfl fl_RX4_104 rfl dX4_readSlope_86 ?_
      refine lv_ineg hx hb dX4_readSlope_89 ?_
      refine lv_goto (tgt := 100) hx hb dX4_readSlope_90 (by decide) ?_
      exact jt_LineReader_readSlope_100 hw_t_reader_text hw_t_line F hr hlk hA _ _ _ _ _ _ _ _ _ hf hB (lv_sub hl [0] rfl)
  · replace hf := hf.2 c_20
    refine lv_iconst (v := 0) hx hb dX4_readSlope_76 (by decide) ?_
    exact r_z F hr hlk hB (Or.inl rfl) ⟨Or.inl rfl, _, _, _, _, _, rfl, hf⟩ dX4_readSlope_77

set_option maxRecDepth 100000 in
set_option maxHeartbeats 4000000 in
theorem jt_LineReader_readSlope_51 {p : Program} {l : Launch} {e : Env} {s : State} {m : MethodId} {below : List Frame} {meth : Method} {c : Code} {A : Nat → Prop} {D : va_G} {k : Nat → ClassId} {a_t : Nat} {d_t : Nat → Nat} {w_t : Nat → Value} {w_t_reader : Nat → Value} {a_t_reader_text : Nat} {r_t_reader_text : Nat → Int32} {a_t_line : Nat} {d_t_line : Nat → Nat}  {Q : Int32 → (Nat → Int32) → (Nat → Int32) → (Nat → Int64) → (Nat → Int32) → (Nat → Int32) → Prop} (hw_t_reader_text : w_t_reader 0 = .ref a_t_reader_text) (hw_t_line : w_t 3 = .ref a_t_line) (F : Fx p m c cX4_readSlope 4 s ([.ref a_t] : List Value).toArray RX4 D k) (hr : meth.sig.returnType = (some .boolean)) (hlk : meth.locks = false) (hA : ∀ q : Nat, s.heap.size ≤ q → A q) :
    ∀ (i_t : Nat → Int32) (i_t_reader : Nat → Int32) (j_t_reader : Nat → Int64) (i_t_line : Nat → Int32) (r_t_line_grades : Nat → Int32) (y0 : Int32) (H : Heap) (locs : List Loc) (ls : Array Slot), j_LineReader_readSlope_51 i_t i_t_reader j_t_reader r_t_reader_text i_t_line r_t_line_grades y0 Q → Bd D A s.heap (wd_LineReader_readSlope k a_t d_t w_t i_t w_t_reader i_t_reader j_t_reader a_t_reader_text r_t_reader_text a_t_line d_t_line i_t_line r_t_line_grades) H locs → lv_has ls 4 [(0, .ref a_t)] → W p l e { frames := 4, cells := 0, slots := 0, locals := 87 } s m ([.ref a_t] : List Value).toArray below meth c H locs 0 0 (Ei below (fun r w => (r = 0 ∨ r = 1) ∧ (∃ (i_t : Nat → Int32), ∃ (i_t_reader : Nat → Int32), ∃ (j_t_reader : Nat → Int64), ∃ (i_t_line : Nat → Int32), ∃ (r_t_line_grades : Nat → Int32), w = (wd_LineReader_readSlope k a_t d_t w_t i_t w_t_reader i_t_reader j_t_reader a_t_reader_text r_t_reader_text a_t_line d_t_line i_t_line r_t_line_grades) ∧ Q r i_t i_t_reader j_t_reader i_t_line r_t_line_grades)) D k A ([.ref a_t] : List Value).toArray s 0 0) (F0 m 51 ls [.int y0]) := by
  have hx := F.x
  have hb := F.b
  intro i_t i_t_reader j_t_reader i_t_line r_t_line_grades y0 H locs ls hf hB hl
  unfold j_LineReader_readSlope_51 at hf
  refine lv_istore_n (lv' := [(1, .int y0), (0, .ref a_t)]) hx hb dX4_readSlope_51 rfl hl (by decide) rfl (fun ls hl => ?_)
  refine lv_iload_n hx hb dX4_readSlope_52 rfl (lv_at hl 0 rfl) ?_
  refine lv_if_eq (tgt := 63) hx hb dX4_readSlope_53 (by decide) (fun c_23 => ?_) (fun c_23 => ?_)
  · replace hf := hf.1 c_23
    exact jt_LineReader_readSlope_63 hw_t_reader_text hw_t_line F hr hlk hA _ _ _ _ _ _ _ _ _ hf hB (lv_sub hl [1, 0] rfl)
  · replace hf := hf.2 c_23
    refine lv_aload_n hx hb dX4_readSlope_56 rfl (lv_at hl 1 rfl) ?_
    refine g_get (w := .ref (d_t 0)) F hB 0 rfl fl_RX4_12 rfl dX4_readSlope_57 ?_
    refine k_vv (wr := [(a_t, ob 4 (vmx 4 d_t w_t) i_t j0), (a_t_line, ob 3 (rfd d_t_line) i_t_line j0), ((d_t_line 0), ai k 400 r_t_line_grades)]) (rest := []) F hA hB (c_Reader_advance l D k (d_t 0) w_t_reader i_t_reader j_t_reader a_t_reader_text r_t_reader_text _ hw_t_reader_text hf) ml_RX4_45 mv_yX7_advance [1, 2] [0, 3, 4] rfl rfl (by decide) (by decide) (by decide) 1 rfl rfl rfl hl.1 rfl (Nat.le_of_ble_eq_true rfl) ⟨Nat.le_of_ble_eq_true rfl, Nat.le_of_ble_eq_true rfl⟩ ⟨Nat.le_of_ble_eq_true rfl, Nat.le_of_ble_eq_true rfl⟩ dX4_readSlope_60 (fun w1 H locs hq hB => ?_)
    obtain ⟨i_t_reader_21, j_t_reader_22, rfl, hf⟩ := hq
    replace hB : Bd D A s.heap (wd_LineReader_readSlope k a_t d_t w_t i_t w_t_reader i_t_reader_21 j_t_reader_22 a_t_reader_text r_t_reader_text a_t_line d_t_line i_t_line r_t_line_grades) H locs := hB.sub [0, 3, 4, 1, 2] (by decide) rfl
    exact jt_LineReader_readSlope_63 hw_t_reader_text hw_t_line F hr hlk hA _ _ _ _ _ _ _ _ _ hf hB (lv_sub hl [1, 0] rfl)

set_option maxRecDepth 100000 in
set_option maxHeartbeats 4000000 in
theorem c_LineReader_readSlope (l : Launch) (D : va_G) (k : Nat → ClassId) (a_t : Nat) (d_t : Nat → Nat) (w_t : Nat → Value) (i_t : Nat → Int32) (w_t_reader : Nat → Value) (i_t_reader : Nat → Int32) (j_t_reader : Nat → Int64) (a_t_reader_text : Nat) (r_t_reader_text : Nat → Int32) (a_t_line : Nat) (d_t_line : Nat → Nat) (i_t_line : Nat → Int32) (r_t_line_grades : Nat → Int32)  (Q : Int32 → (Nat → Int32) → (Nat → Int32) → (Nat → Int64) → (Nat → Int32) → (Nat → Int32) → Prop) (hw_t_reader_text : w_t_reader 0 = .ref a_t_reader_text) (hw_t_line : w_t 3 = .ref a_t_line) (hf : w_LineReader_readSlope i_t i_t_reader j_t_reader r_t_reader_text i_t_line r_t_line_grades Q) : CtI l yX4_readSlope cX4_readSlope 4 (some .boolean) 4 87 0 0 D k [.ref a_t] (wd_LineReader_readSlope k a_t d_t w_t i_t w_t_reader i_t_reader j_t_reader a_t_reader_text r_t_reader_text a_t_line d_t_line i_t_line r_t_line_grades) (fun r w => (r = 0 ∨ r = 1) ∧ (∃ (i_t : Nat → Int32), ∃ (i_t_reader : Nat → Int32), ∃ (j_t_reader : Nat → Int64), ∃ (i_t_line : Nat → Int32), ∃ (r_t_line_grades : Nat → Int32), w = (wd_LineReader_readSlope k a_t d_t w_t i_t w_t_reader i_t_reader j_t_reader a_t_reader_text r_t_reader_text a_t_line d_t_line i_t_line r_t_line_grades) ∧ Q r i_t i_t_reader j_t_reader i_t_line r_t_line_grades)) := by
  refine CtI.of (by decide) (Nat.le_of_ble_eq_true rfl) ?_
  intro p e s m below meth c A F hr hlk hnm hA hB ls hl
  have hx := F.x
  have hb := F.b
  unfold w_LineReader_readSlope at hf
  replace hl : lv_has ls 4 [(0, .ref a_t)] := hl
  refine lv_aload_n hx hb dX4_readSlope_0 rfl (lv_at hl 0 rfl) ?_
  refine g_get (w := .int (i_t 4)) F hB 0 rfl fl_RX4_38 rfl dX4_readSlope_1 ?_
  refine lv_bipush (v := 20) hx hb dX4_readSlope_4 (by decide) ?_
  refine lv_icmp_lt (tgt := 18) hx hb dX4_readSlope_6 (by decide) (fun c_28 => ?_) (fun c_28 => ?_)
  · replace hf := hf.1 c_28
    refine lv_aload_n hx hb dX4_readSlope_18 rfl (lv_at hl 0 rfl) ?_
    refine lv_dup hx hb dX4_readSlope_19 rfl ?_
    refine g_get (w := .int (i_t 4)) F hB 0 rfl fl_RX4_38 rfl dX4_readSlope_20 ?_
    refine lv_iconst (v := 1) hx hb dX4_readSlope_23 (by decide) ?_
    refine lv_iadd hx hb dX4_readSlope_24 ?_
    refine g_puti F hB 0 rfl fl_RX4_38 rfl (wd_LineReader_readSlope k a_t d_t w_t (upd i_t 4 ((i_t 4) + (1 : Int32))) w_t_reader i_t_reader j_t_reader a_t_reader_text r_t_reader_text a_t_line d_t_line i_t_line r_t_line_grades) rfl dX4_readSlope_25 (fun H locs hB => ?_)
    refine lv_aload_n hx hb dX4_readSlope_28 rfl (lv_at hl 0 rfl) ?_
    refine g_get (w := .ref (d_t 0)) F hB 0 rfl fl_RX4_12 rfl dX4_readSlope_29 ?_
    refine k_vv (wr := [(a_t, ob 4 (vmx 4 d_t w_t) (upd i_t 4 ((i_t 4) + (1 : Int32))) j0), (a_t_line, ob 3 (rfd d_t_line) i_t_line j0), ((d_t_line 0), ai k 400 r_t_line_grades)]) (rest := []) F hA hB (c_Reader_advance l D k (d_t 0) w_t_reader i_t_reader j_t_reader a_t_reader_text r_t_reader_text _ hw_t_reader_text hf) ml_RX4_45 mv_yX7_advance [1, 2] [0, 3, 4] rfl rfl (by decide) (by decide) (by decide) 1 rfl rfl rfl hl.1 rfl (Nat.le_of_ble_eq_true rfl) ⟨Nat.le_of_ble_eq_true rfl, Nat.le_of_ble_eq_true rfl⟩ ⟨Nat.le_of_ble_eq_true rfl, Nat.le_of_ble_eq_true rfl⟩ dX4_readSlope_32 (fun w1 H locs hq hB => ?_)
    obtain ⟨i_t_reader_1, j_t_reader_2, rfl, hf⟩ := hq
    replace hB : Bd D A s.heap (wd_LineReader_readSlope k a_t d_t w_t (upd i_t 4 ((i_t 4) + (1 : Int32))) w_t_reader i_t_reader_1 j_t_reader_2 a_t_reader_text r_t_reader_text a_t_line d_t_line i_t_line r_t_line_grades) H locs := hB.sub [0, 3, 4, 1, 2] (by decide) rfl
    refine lv_aload_n hx hb dX4_readSlope_35 rfl (lv_at hl 0 rfl) ?_
    refine g_get (w := .ref (d_t 0)) F hB 0 rfl fl_RX4_12 rfl dX4_readSlope_36 ?_
    refine g_get (w := .int (i_t_reader_1 4)) F hB 1 rfl fl_RX4_97 rfl dX4_readSlope_39 ?_
    refine lv_iconst (v := 4) hx hb dX4_readSlope_42 (by decide) ?_
    refine lv_icmp_ne (tgt := 50) hx hb dX4_readSlope_43 (by decide) (fun c_24 => ?_) (fun c_24 => ?_)
    · replace hf := hf.1 c_24
      refine lv_iconst (v := 0) hx hb dX4_readSlope_50 (by decide) ?_
      exact jt_LineReader_readSlope_51 hw_t_reader_text hw_t_line F hr hlk hA _ _ _ _ _ _ _ _ _ hf hB (lv_sub hl [0] rfl)
    · replace hf := hf.2 c_24
      refine lv_iconst (v := 1) hx hb dX4_readSlope_46 (by decide) ?_
      refine lv_goto (tgt := 51) hx hb dX4_readSlope_47 (by decide) ?_
      exact jt_LineReader_readSlope_51 hw_t_reader_text hw_t_line F hr hlk hA _ _ _ _ _ _ _ _ _ hf hB (lv_sub hl [0] rfl)
  · replace hf := hf.2 c_28
    refine lv_aload_n hx hb dX4_readSlope_9 rfl (lv_at hl 0 rfl) ?_
    refine g_get (w := .ref (d_t 0)) F hB 0 rfl fl_RX4_12 rfl dX4_readSlope_10 ?_
    refine lv_iconst (v := 4) hx hb dX4_readSlope_13 (by decide) ?_
    refine k_vi (wr := [(a_t, ob 4 (vmx 4 d_t w_t) i_t j0), (a_t_reader_text, ai k 940 r_t_reader_text), (a_t_line, ob 3 (rfd d_t_line) i_t_line j0), ((d_t_line 0), ai k 400 r_t_line_grades)]) (rest := []) F hA hB (c_Reader_failHere l D k (d_t 0) w_t_reader i_t_reader j_t_reader (4 : Int32) _  hf) ml_RX4_94 mv_yX7_failHere [1] [0, 2, 3, 4] rfl rfl (by decide) (by decide) (by decide) 1 rfl rfl rfl hl.1 rfl (Nat.le_of_ble_eq_true rfl) ⟨Nat.le_of_ble_eq_true rfl, Nat.le_of_ble_eq_true rfl⟩ ⟨Nat.le_of_ble_eq_true rfl, Nat.le_of_ble_eq_true rfl⟩ dX4_readSlope_14 (fun z_26 w1 H locs hq hB => ?_)
    obtain ⟨h_27, i_t_reader_25, rfl, hf⟩ := hq
    replace hB : Bd D A s.heap (wd_LineReader_readSlope k a_t d_t w_t i_t w_t_reader i_t_reader_25 j_t_reader a_t_reader_text r_t_reader_text a_t_line d_t_line i_t_line r_t_line_grades) H locs := hB.sub [0, 4, 1, 2, 3] (by decide) rfl
    exact r_z F hr hlk hB (h_27) ⟨h_27, _, _, _, _, _, rfl, hf⟩ dX4_readSlope_17

/-! LongTrain.LineReader.tellOnce -/
set_option maxRecDepth 100000 in
set_option maxHeartbeats 4000000 in
theorem c_LineReader_tellOnce (l : Launch) (D : va_G) (k : Nat → ClassId) (a_t : Nat) (d_t : Nat → Nat) (w_t : Nat → Value) (i_t : Nat → Int32) (w_t_reader : Nat → Value) (i_t_reader : Nat → Int32) (j_t_reader : Nat → Int64) (n1 : Int32) (Q : Int32 → (Nat → Int32) → (Nat → Int32) → Prop)  (hf : w_LineReader_tellOnce i_t i_t_reader n1 Q) : CtI l yX4_tellOnce cX4_tellOnce 2 (some .boolean) 2 43 0 0 D k [.ref a_t, .int n1] (wd_LineReader_tellOnce k a_t d_t w_t i_t w_t_reader i_t_reader j_t_reader) (fun r w => (r = 0 ∨ r = 1) ∧ (∃ (i_t : Nat → Int32), ∃ (i_t_reader : Nat → Int32), w = (wd_LineReader_tellOnce k a_t d_t w_t i_t w_t_reader i_t_reader j_t_reader) ∧ Q r i_t i_t_reader)) := by
  refine CtI.of (by decide) (Nat.le_of_ble_eq_true rfl) ?_
  intro p e s m below meth c A F hr hlk hnm hA hB ls hl
  have hx := F.x
  have hb := F.b
  unfold w_LineReader_tellOnce at hf
  replace hl : lv_has ls 2 [(0, .ref a_t), (1, .int n1)] := hl
  refine lv_aload_n hx hb dX4_tellOnce_0 rfl (lv_at hl 0 rfl) ?_
  refine g_get (w := .int (i_t 5)) F hB 0 rfl fl_RX4_42 rfl dX4_tellOnce_1 ?_
  refine lv_iload_n hx hb dX4_tellOnce_4 rfl (lv_at hl 1 rfl) ?_
  refine lv_ishr hx hb dX4_tellOnce_5 ?_
  refine lv_iconst (v := 1) hx hb dX4_tellOnce_6 (by decide) ?_
  refine lv_iand hx hb dX4_tellOnce_7 ?_
  refine lv_if_eq (tgt := 20) hx hb dX4_tellOnce_8 (by decide) (fun c_4 => ?_) (fun c_4 => ?_)
  · replace hf := hf.1 c_4
    refine lv_aload_n hx hb dX4_tellOnce_20 rfl (lv_at hl 0 rfl) ?_
    refine lv_dup hx hb dX4_tellOnce_21 rfl ?_
    refine g_get (w := .int (i_t 5)) F hB 0 rfl fl_RX4_42 rfl dX4_tellOnce_22 ?_
    refine lv_iconst (v := 1) hx hb dX4_tellOnce_25 (by decide) ?_
    refine lv_iload_n hx hb dX4_tellOnce_26 rfl (lv_at hl 1 rfl) ?_
    refine lv_ishl hx hb dX4_tellOnce_27 ?_
    refine lv_ior hx hb dX4_tellOnce_28 ?_
    refine g_puti F hB 0 rfl fl_RX4_42 rfl (wd_LineReader_tellOnce k a_t d_t w_t (upd i_t 5 ((i_t 5) ||| ((1 : Int32) <<< (n1 &&& 31)))) w_t_reader i_t_reader j_t_reader) rfl dX4_tellOnce_29 (fun H locs hB => ?_)
    refine lv_iconst (v := 1) hx hb dX4_tellOnce_32 (by decide) ?_
    exact r_z F hr hlk hB (Or.inr rfl) ⟨Or.inr rfl, _, _, rfl, hf⟩ dX4_tellOnce_33
  · replace hf := hf.2 c_4
    refine lv_aload_n hx hb dX4_tellOnce_11 rfl (lv_at hl 0 rfl) ?_
    refine g_get (w := .ref (d_t 0)) F hB 0 rfl fl_RX4_12 rfl dX4_tellOnce_12 ?_
    refine lv_iconst (v := 3) hx hb dX4_tellOnce_15 (by decide) ?_
    refine k_vi (wr := [(a_t, ob 4 (vmx 4 d_t w_t) i_t j0)]) (rest := []) F hA hB (c_Reader_failHere l D k (d_t 0) w_t_reader i_t_reader j_t_reader (3 : Int32) _  hf) ml_RX4_94 mv_yX7_failHere [1] [0] rfl rfl (by decide) (by decide) (by decide) 1 rfl rfl rfl hl.1 rfl (Nat.le_of_ble_eq_true rfl) ⟨Nat.le_of_ble_eq_true rfl, Nat.le_of_ble_eq_true rfl⟩ ⟨Nat.le_of_ble_eq_true rfl, Nat.le_of_ble_eq_true rfl⟩ dX4_tellOnce_16 (fun z_2 w1 H locs hq hB => ?_)
    obtain ⟨h_3, i_t_reader_1, rfl, hf⟩ := hq
    replace hB : Bd D A s.heap (wd_LineReader_tellOnce k a_t d_t w_t i_t w_t_reader i_t_reader_1 j_t_reader) H locs := hB.sub [0, 1] (by decide) rfl
    exact r_z F hr hlk hB (h_3) ⟨h_3, _, _, rfl, hf⟩ dX4_tellOnce_19

/-! LongTrain.Plan.clear -/
set_option maxRecDepth 100000 in
set_option maxHeartbeats 4000000 in
theorem c_Plan_clear (l : Launch) (D : va_G) (k : Nat → ClassId) (a_t : Nat) (d_t : Nat → Nat) (i_t : Nat → Int32)  (Q : (Nat → Int32) → Prop)  (hf : w_Plan_clear i_t Q) : CtV l yX6_clear cX6_clear 1 none 0 0 0 0 D k [.ref a_t] (wd_Plan_clear k a_t d_t i_t) (fun w => ∃ (i_t : Nat → Int32), w = (wd_Plan_clear k a_t d_t i_t) ∧ Q i_t) := by
  refine CtV.of (by decide) (Nat.le_of_ble_eq_true rfl) ?_
  intro p e s m below meth c A F hr hlk hnm hA hB ls hl
  have hx := F.x
  have hb := F.b
  unfold w_Plan_clear at hf
  replace hl : lv_has ls 1 [(0, .ref a_t)] := hl
  refine lv_aload_n hx hb dX6_clear_0 rfl (lv_at hl 0 rfl) ?_
  refine lv_iconst (v := 0) hx hb dX6_clear_1 (by decide) ?_
  refine g_puti F hB 0 rfl fl_RX6_21 rfl (wd_Plan_clear k a_t d_t (upd i_t 3 (0 : Int32))) rfl dX6_clear_2 (fun H locs hB => ?_)
  exact r_v F hr hlk hB ⟨_, rfl, hf⟩ dX6_clear_5

/-! LongTrain.Plan.copyFrom -/
set_option maxRecDepth 100000 in
set_option maxHeartbeats 4000000 in
theorem c_Plan_copyFrom (l : Launch) (D : va_G) (k : Nat → ClassId) (a_t : Nat) (d_t : Nat → Nat) (i_t : Nat → Int32) (a_p1 : Nat) (d_p1 : Nat → Nat) (i_p1 : Nat → Int32) (r_p1_words : Nat → Int32) (r_t_words : Nat → Int32) (r_p1_firsts : Nat → Int32) (r_t_firsts : Nat → Int32) (r_p1_seconds : Nat → Int32) (r_t_seconds : Nat → Int32)  (Q : (Nat → Int32) → (Nat → Int32) → (Nat → Int32) → (Nat → Int32) → Prop)  (hf : w_Plan_copyFrom i_t i_p1 r_p1_words r_t_words r_p1_firsts r_t_firsts r_p1_seconds r_t_seconds Q) : CtV l yX6_copyFrom cX6_copyFrom 2 none 1 64 0 0 D k [.ref a_t, .ref a_p1] (wd_Plan_copyFrom k a_t d_t i_t a_p1 d_p1 i_p1 r_p1_words r_t_words r_p1_firsts r_t_firsts r_p1_seconds r_t_seconds) (fun w => ∃ (i_t : Nat → Int32), ∃ (r_t_words : Nat → Int32), ∃ (r_t_firsts : Nat → Int32), ∃ (r_t_seconds : Nat → Int32), w = (wd_Plan_copyFrom k a_t d_t i_t a_p1 d_p1 i_p1 r_p1_words r_t_words r_p1_firsts r_t_firsts r_p1_seconds r_t_seconds) ∧ Q i_t r_t_words r_t_firsts r_t_seconds) := by
  refine CtV.of (by decide) (Nat.le_of_ble_eq_true rfl) ?_
  intro p e s m below meth c A F hr hlk hnm hA hB ls hl
  have hx := F.x
  have hb := F.b
  unfold w_Plan_copyFrom at hf
  replace hl : lv_has ls 2 [(0, .ref a_t), (1, .ref a_p1)] := hl
  refine lv_aload_n hx hb dX6_copyFrom_0 rfl (lv_at hl 1 rfl) ?_
  refine g_get (w := .ref (d_p1 0)) F hB 1 rfl fl_RX6_11 rfl dX6_copyFrom_1 ?_
  refine lv_iconst (v := 0) hx hb dX6_copyFrom_4 (by decide) ?_
  refine lv_aload_n hx hb dX6_copyFrom_5 rfl (lv_at hl 0 rfl) ?_
  refine g_get (w := .ref (d_t 0)) F hB 0 rfl fl_RX6_11 rfl dX6_copyFrom_6 ?_
  refine lv_iconst (v := 0) hx hb dX6_copyFrom_9 (by decide) ?_
  refine lv_bipush (v := 30) hx hb dX6_copyFrom_10 (by decide) ?_
  refine k_copy F hB ml_RX6_25 hl.1 2 3 rfl rfl (by decide) (by decide) (by decide) (by decide) (by decide) (by decide) (Nat.le_of_ble_eq_true rfl) (wd_Plan_copyFrom k a_t d_t i_t a_p1 d_p1 i_p1 r_p1_words (va_cpy r_p1_words r_t_words 0 0 30) r_p1_firsts r_t_firsts r_p1_seconds r_t_seconds) rfl dX6_copyFrom_12 (fun H locs hB => ?_)
  refine lv_aload_n hx hb dX6_copyFrom_15 rfl (lv_at hl 1 rfl) ?_
  refine g_get (w := .ref (d_p1 1)) F hB 1 rfl fl_RX6_15 rfl dX6_copyFrom_16 ?_
  refine lv_iconst (v := 0) hx hb dX6_copyFrom_19 (by decide) ?_
  refine lv_aload_n hx hb dX6_copyFrom_20 rfl (lv_at hl 0 rfl) ?_
  refine g_get (w := .ref (d_t 1)) F hB 0 rfl fl_RX6_15 rfl dX6_copyFrom_21 ?_
  refine lv_iconst (v := 0) hx hb dX6_copyFrom_24 (by decide) ?_
  refine lv_bipush (v := 30) hx hb dX6_copyFrom_25 (by decide) ?_
  refine k_copy F hB ml_RX6_25 hl.1 4 5 rfl rfl (by decide) (by decide) (by decide) (by decide) (by decide) (by decide) (Nat.le_of_ble_eq_true rfl) (wd_Plan_copyFrom k a_t d_t i_t a_p1 d_p1 i_p1 r_p1_words (va_cpy r_p1_words r_t_words 0 0 30) r_p1_firsts (va_cpy r_p1_firsts r_t_firsts 0 0 30) r_p1_seconds r_t_seconds) rfl dX6_copyFrom_27 (fun H locs hB => ?_)
  refine lv_aload_n hx hb dX6_copyFrom_30 rfl (lv_at hl 1 rfl) ?_
  refine g_get (w := .ref (d_p1 2)) F hB 1 rfl fl_RX6_18 rfl dX6_copyFrom_31 ?_
  refine lv_iconst (v := 0) hx hb dX6_copyFrom_34 (by decide) ?_
  refine lv_aload_n hx hb dX6_copyFrom_35 rfl (lv_at hl 0 rfl) ?_
  refine g_get (w := .ref (d_t 2)) F hB 0 rfl fl_RX6_18 rfl dX6_copyFrom_36 ?_
  refine lv_iconst (v := 0) hx hb dX6_copyFrom_39 (by decide) ?_
  refine lv_bipush (v := 30) hx hb dX6_copyFrom_40 (by decide) ?_
  refine k_copy F hB ml_RX6_25 hl.1 6 7 rfl rfl (by decide) (by decide) (by decide) (by decide) (by decide) (by decide) (Nat.le_of_ble_eq_true rfl) (wd_Plan_copyFrom k a_t d_t i_t a_p1 d_p1 i_p1 r_p1_words (va_cpy r_p1_words r_t_words 0 0 30) r_p1_firsts (va_cpy r_p1_firsts r_t_firsts 0 0 30) r_p1_seconds (va_cpy r_p1_seconds r_t_seconds 0 0 30)) rfl dX6_copyFrom_42 (fun H locs hB => ?_)
  refine lv_aload_n hx hb dX6_copyFrom_45 rfl (lv_at hl 0 rfl) ?_
  refine lv_aload_n hx hb dX6_copyFrom_46 rfl (lv_at hl 1 rfl) ?_
  refine g_get (w := .int (i_p1 3)) F hB 1 rfl fl_RX6_21 rfl dX6_copyFrom_47 ?_
  refine g_puti F hB 0 rfl fl_RX6_21 rfl (wd_Plan_copyFrom k a_t d_t (upd i_t 3 (i_p1 3)) a_p1 d_p1 i_p1 r_p1_words (va_cpy r_p1_words r_t_words 0 0 30) r_p1_firsts (va_cpy r_p1_firsts r_t_firsts 0 0 30) r_p1_seconds (va_cpy r_p1_seconds r_t_seconds 0 0 30)) rfl dX6_copyFrom_50 (fun H locs hB => ?_)
  exact r_v F hr hlk hB ⟨_, _, _, _, rfl, hf⟩ dX6_copyFrom_53

/-! LongTrain.Plan.readRow -/
set_option maxRecDepth 100000 in
set_option maxHeartbeats 4000000 in
theorem jt_Plan_readRow_134 {p : Program} {l : Launch} {e : Env} {s : State} {m : MethodId} {below : List Frame} {meth : Method} {c : Code} {A : Nat → Prop} {D : va_G} {k : Nat → ClassId} {a_t : Nat} {d_t : Nat → Nat} {a_p1 : Nat} {w_p1 : Nat → Value} {a_p1_text : Nat} {r_p1_text : Nat → Int32} {n2 : Int32} {Q : Int32 → (Nat → Int32) → (Nat → Int32) → (Nat → Int64) → (Nat → Int32) → (Nat → Int32) → (Nat → Int32) → Prop} (hw_p1_text : w_p1 0 = .ref a_p1_text) (F : Fx p m c cX6_readRow 4 s ([.ref a_t, .ref a_p1, .int n2] : List Value).toArray RX6 D k) (hr : meth.sig.returnType = (some .boolean)) (hlk : meth.locks = false) (hA : ∀ q : Nat, s.heap.size ≤ q → A q) :
    ∀ (i_t : Nat → Int32) (i_p1 : Nat → Int32) (j_p1 : Nat → Int64) (r_t_words : Nat → Int32) (r_t_firsts : Nat → Int32) (r_t_seconds : Nat → Int32) (x2 : Int32) (H : Heap) (locs : List Loc) (ls : Array Slot), j_Plan_readRow_134 i_t i_p1 j_p1 r_t_words r_p1_text r_t_firsts r_t_seconds x2 Q → Bd D A s.heap (wd_Plan_readRow k a_t d_t i_t a_p1 w_p1 i_p1 j_p1 r_t_words a_p1_text r_p1_text r_t_firsts r_t_seconds) H locs → lv_has ls 4 [(0, .ref a_t), (1, .ref a_p1), (2, .int x2)] → W p l e { frames := 4, cells := 0, slots := 0, locals := 87 } s m ([.ref a_t, .ref a_p1, .int n2] : List Value).toArray below meth c H locs 0 0 (Ei below (fun r w => (r = 0 ∨ r = 1) ∧ (∃ (i_t : Nat → Int32), ∃ (i_p1 : Nat → Int32), ∃ (j_p1 : Nat → Int64), ∃ (r_t_words : Nat → Int32), ∃ (r_t_firsts : Nat → Int32), ∃ (r_t_seconds : Nat → Int32), w = (wd_Plan_readRow k a_t d_t i_t a_p1 w_p1 i_p1 j_p1 r_t_words a_p1_text r_p1_text r_t_firsts r_t_seconds) ∧ Q r i_t i_p1 j_p1 r_t_words r_t_firsts r_t_seconds)) D k A ([.ref a_t, .ref a_p1, .int n2] : List Value).toArray s 0 0) (F0 m 134 ls []) := by
  have hx := F.x
  have hb := F.b
  intro i_t i_p1 j_p1 r_t_words r_t_firsts r_t_seconds x2 H locs ls hf hB hl
  unfold j_Plan_readRow_134 at hf
  refine lv_iload_n hx hb dX6_readRow_134 rfl (lv_at hl 2 rfl) ?_
  refine lv_bipush (v := 12) hx hb dX6_readRow_135 (by decide) ?_
  refine lv_icmp_ne (tgt := 166) hx hb dX6_readRow_137 (by decide) (fun c_26 => ?_) (fun c_26 => ?_)
  · replace hf := hf.1 c_26
    refine lv_aload_n hx hb dX6_readRow_166 rfl (lv_at hl 0 rfl) ?_
    refine lv_dup hx hb dX6_readRow_167 rfl ?_
    refine g_get (w := .int (i_t 3)) F hB 0 rfl fl_RX6_21 rfl dX6_readRow_168 ?_
    refine lv_iconst (v := 1) hx hb dX6_readRow_171 (by decide) ?_
    refine lv_iadd hx hb dX6_readRow_172 ?_
    refine g_puti F hB 0 rfl fl_RX6_21 rfl (wd_Plan_readRow k a_t d_t (upd i_t 3 ((i_t 3) + (1 : Int32))) a_p1 w_p1 i_p1 j_p1 r_t_words a_p1_text r_p1_text r_t_firsts r_t_seconds) rfl dX6_readRow_173 (fun H locs hB => ?_)
    refine lv_aload_n hx hb dX6_readRow_176 rfl (lv_at hl 1 rfl) ?_
    refine k_vi (wr := [(a_t, ob 6 (rfd d_t) (upd i_t 3 ((i_t 3) + (1 : Int32))) j0), ((d_t 0), ai k 30 r_t_words), ((d_t 1), ai k 30 r_t_firsts), ((d_t 2), ai k 30 r_t_seconds)]) (rest := []) F hA hB (c_Reader_nextCloses l D k a_p1 w_p1 i_p1 j_p1 a_p1_text r_p1_text _ hw_p1_text hf) ml_RX6_70 mv_yX7_nextCloses [1, 3] [0, 2, 4, 5] rfl rfl (by decide) (by decide) (by decide) 1 rfl rfl rfl hl.1 rfl (Nat.le_of_ble_eq_true rfl) ⟨Nat.le_of_ble_eq_true rfl, Nat.le_of_ble_eq_true rfl⟩ ⟨Nat.le_of_ble_eq_true rfl, Nat.le_of_ble_eq_true rfl⟩ dX6_readRow_177 (fun z_14 w1 H locs hq hB => ?_)
    obtain ⟨h_15, i_p1_12, j_p1_13, rfl, hf⟩ := hq
    replace hB : Bd D A s.heap (wd_Plan_readRow k a_t d_t (upd i_t 3 ((i_t 3) + (1 : Int32))) a_p1 w_p1 i_p1_12 j_p1_13 r_t_words a_p1_text r_p1_text r_t_firsts r_t_seconds) H locs := hB.sub [0, 4, 1, 5, 2, 3] (by decide) rfl
    exact r_z F hr hlk hB (h_15) ⟨h_15, _, _, _, _, _, _, rfl, hf⟩ dX6_readRow_180
  · replace hf := hf.2 c_26
    refine lv_aload_n hx hb dX6_readRow_140 rfl (lv_at hl 1 rfl) ?_
    refine lv_iconst (v := 1) hx hb dX6_readRow_141 (by decide) ?_
    refine lv_sipush (v := 999) hx hb dX6_readRow_142 (by decide) ?_
    refine k_vi (wr := [(a_t, ob 6 (rfd d_t) i_t j0), ((d_t 0), ai k 30 r_t_words), ((d_t 1), ai k 30 r_t_firsts), ((d_t 2), ai k 30 r_t_seconds)]) (rest := []) F hA hB (c_Reader_nextNumber l D k a_p1 w_p1 i_p1 j_p1 a_p1_text r_p1_text (1 : Int32) (999 : Int32) _ hw_p1_text hf) ml_RX6_63 mv_yX7_nextNumber [1, 3] [0, 2, 4, 5] rfl rfl (by decide) (by decide) (by decide) 1 rfl rfl rfl hl.1 rfl (Nat.le_of_ble_eq_true rfl) ⟨Nat.le_of_ble_eq_true rfl, Nat.le_of_ble_eq_true rfl⟩ ⟨Nat.le_of_ble_eq_true rfl, Nat.le_of_ble_eq_true rfl⟩ dX6_readRow_145 (fun z_18 w1 H locs hq hB => ?_)
    obtain ⟨h_19, i_p1_16, j_p1_17, rfl, hf⟩ := hq
    replace hB : Bd D A s.heap (wd_Plan_readRow k a_t d_t i_t a_p1 w_p1 i_p1_16 j_p1_17 r_t_words a_p1_text r_p1_text r_t_firsts r_t_seconds) H locs := hB.sub [0, 4, 1, 5, 2, 3] (by decide) rfl
    refine lv_if_ne (tgt := 153) hx hb dX6_readRow_148 (by decide) (fun c_25 => ?_) (fun c_25 => ?_)
    · replace hf := hf.1 c_25
      refine lv_aload_n hx hb dX6_readRow_153 rfl (lv_at hl 0 rfl) ?_
      refine g_get (w := .ref (d_t 2)) F hB 0 rfl fl_RX6_18 rfl dX6_readRow_154 ?_
      refine lv_aload_n hx hb dX6_readRow_157 rfl (lv_at hl 0 rfl) ?_
      refine g_get (w := .int (i_t 3)) F hB 0 rfl fl_RX6_21 rfl dX6_readRow_158 ?_
      refine lv_aload_n hx hb dX6_readRow_161 rfl (lv_at hl 1 rfl) ?_
      refine g_get (w := .int (i_p1_16 6)) F hB 1 rfl fl_RX6_67 rfl dX6_readRow_162 ?_
      obtain ⟨h_20, hf⟩ := hf
      refine g_iast F hB 5 rfl h_20 (wd_Plan_readRow k a_t d_t i_t a_p1 w_p1 i_p1_16 j_p1_17 r_t_words a_p1_text r_p1_text r_t_firsts (upd r_t_seconds ((i_t 3)).toNatClampNeg (i_p1_16 6))) rfl dX6_readRow_165 (fun H locs hB => ?_)
      refine lv_aload_n hx hb dX6_readRow_166 rfl (lv_at hl 0 rfl) ?_
      refine lv_dup hx hb dX6_readRow_167 rfl ?_
      refine g_get (w := .int (i_t 3)) F hB 0 rfl fl_RX6_21 rfl dX6_readRow_168 ?_
      refine lv_iconst (v := 1) hx hb dX6_readRow_171 (by decide) ?_
      refine lv_iadd hx hb dX6_readRow_172 ?_
      refine g_puti F hB 0 rfl fl_RX6_21 rfl (wd_Plan_readRow k a_t d_t (upd i_t 3 ((i_t 3) + (1 : Int32))) a_p1 w_p1 i_p1_16 j_p1_17 r_t_words a_p1_text r_p1_text r_t_firsts (upd r_t_seconds ((i_t 3)).toNatClampNeg (i_p1_16 6))) rfl dX6_readRow_173 (fun H locs hB => ?_)
      refine lv_aload_n hx hb dX6_readRow_176 rfl (lv_at hl 1 rfl) ?_
      refine k_vi (wr := [(a_t, ob 6 (rfd d_t) (upd i_t 3 ((i_t 3) + (1 : Int32))) j0), ((d_t 0), ai k 30 r_t_words), ((d_t 1), ai k 30 r_t_firsts), ((d_t 2), ai k 30 (upd r_t_seconds ((i_t 3)).toNatClampNeg (i_p1_16 6)))]) (rest := []) F hA hB (c_Reader_nextCloses l D k a_p1 w_p1 i_p1_16 j_p1_17 a_p1_text r_p1_text _ hw_p1_text hf) ml_RX6_70 mv_yX7_nextCloses [1, 3] [0, 2, 4, 5] rfl rfl (by decide) (by decide) (by decide) 1 rfl rfl rfl hl.1 rfl (Nat.le_of_ble_eq_true rfl) ⟨Nat.le_of_ble_eq_true rfl, Nat.le_of_ble_eq_true rfl⟩ ⟨Nat.le_of_ble_eq_true rfl, Nat.le_of_ble_eq_true rfl⟩ dX6_readRow_177 (fun z_23 w1 H locs hq hB => ?_)
      obtain ⟨h_24, i_p1_21, j_p1_22, rfl, hf⟩ := hq
      replace hB : Bd D A s.heap (wd_Plan_readRow k a_t d_t (upd i_t 3 ((i_t 3) + (1 : Int32))) a_p1 w_p1 i_p1_21 j_p1_22 r_t_words a_p1_text r_p1_text r_t_firsts (upd r_t_seconds ((i_t 3)).toNatClampNeg (i_p1_16 6))) H locs := hB.sub [0, 4, 1, 5, 2, 3] (by decide) rfl
      exact r_z F hr hlk hB (h_24) ⟨h_24, _, _, _, _, _, _, rfl, hf⟩ dX6_readRow_180
    · replace hf := hf.2 c_25
      refine lv_iconst (v := 0) hx hb dX6_readRow_151 (by decide) ?_
      exact r_z F hr hlk hB (Or.inl rfl) ⟨Or.inl rfl, _, _, _, _, _, _, rfl, hf⟩ dX6_readRow_152

set_option maxRecDepth 100000 in
set_option maxHeartbeats 4000000 in
theorem jt_Plan_readRow_109 {p : Program} {l : Launch} {e : Env} {s : State} {m : MethodId} {below : List Frame} {meth : Method} {c : Code} {A : Nat → Prop} {D : va_G} {k : Nat → ClassId} {a_t : Nat} {d_t : Nat → Nat} {a_p1 : Nat} {w_p1 : Nat → Value} {a_p1_text : Nat} {r_p1_text : Nat → Int32} {n2 : Int32} {Q : Int32 → (Nat → Int32) → (Nat → Int32) → (Nat → Int64) → (Nat → Int32) → (Nat → Int32) → (Nat → Int32) → Prop} (hw_p1_text : w_p1 0 = .ref a_p1_text) (F : Fx p m c cX6_readRow 4 s ([.ref a_t, .ref a_p1, .int n2] : List Value).toArray RX6 D k) (hr : meth.sig.returnType = (some .boolean)) (hlk : meth.locks = false) (hA : ∀ q : Nat, s.heap.size ≤ q → A q) :
    ∀ (i_t : Nat → Int32) (i_p1 : Nat → Int32) (j_p1 : Nat → Int64) (r_t_words : Nat → Int32) (r_t_firsts : Nat → Int32) (r_t_seconds : Nat → Int32) (x2 : Int32) (H : Heap) (locs : List Loc) (ls : Array Slot), j_Plan_readRow_109 i_t i_p1 j_p1 r_t_words r_p1_text r_t_firsts r_t_seconds x2 Q → Bd D A s.heap (wd_Plan_readRow k a_t d_t i_t a_p1 w_p1 i_p1 j_p1 r_t_words a_p1_text r_p1_text r_t_firsts r_t_seconds) H locs → lv_has ls 4 [(0, .ref a_t), (1, .ref a_p1), (2, .int x2)] → W p l e { frames := 4, cells := 0, slots := 0, locals := 87 } s m ([.ref a_t, .ref a_p1, .int n2] : List Value).toArray below meth c H locs 0 0 (Ei below (fun r w => (r = 0 ∨ r = 1) ∧ (∃ (i_t : Nat → Int32), ∃ (i_p1 : Nat → Int32), ∃ (j_p1 : Nat → Int64), ∃ (r_t_words : Nat → Int32), ∃ (r_t_firsts : Nat → Int32), ∃ (r_t_seconds : Nat → Int32), w = (wd_Plan_readRow k a_t d_t i_t a_p1 w_p1 i_p1 j_p1 r_t_words a_p1_text r_p1_text r_t_firsts r_t_seconds) ∧ Q r i_t i_p1 j_p1 r_t_words r_t_firsts r_t_seconds)) D k A ([.ref a_t, .ref a_p1, .int n2] : List Value).toArray s 0 0) (F0 m 109 ls []) := by
  have hx := F.x
  have hb := F.b
  intro i_t i_p1 j_p1 r_t_words r_t_firsts r_t_seconds x2 H locs ls hf hB hl
  unfold j_Plan_readRow_109 at hf
  refine lv_aload_n hx hb dX6_readRow_109 rfl (lv_at hl 1 rfl) ?_
  refine lv_iconst (v := 0) hx hb dX6_readRow_110 (by decide) ?_
  refine lv_bipush (v := 19) hx hb dX6_readRow_111 (by decide) ?_
  refine k_vi (wr := [(a_t, ob 6 (rfd d_t) i_t j0), ((d_t 0), ai k 30 r_t_words), ((d_t 1), ai k 30 r_t_firsts), ((d_t 2), ai k 30 r_t_seconds)]) (rest := []) F hA hB (c_Reader_nextNumber l D k a_p1 w_p1 i_p1 j_p1 a_p1_text r_p1_text (0 : Int32) (19 : Int32) _ hw_p1_text hf) ml_RX6_63 mv_yX7_nextNumber [1, 3] [0, 2, 4, 5] rfl rfl (by decide) (by decide) (by decide) 1 rfl rfl rfl hl.1 rfl (Nat.le_of_ble_eq_true rfl) ⟨Nat.le_of_ble_eq_true rfl, Nat.le_of_ble_eq_true rfl⟩ ⟨Nat.le_of_ble_eq_true rfl, Nat.le_of_ble_eq_true rfl⟩ dX6_readRow_113 (fun z_9 w1 H locs hq hB => ?_)
  obtain ⟨h_10, i_p1_7, j_p1_8, rfl, hf⟩ := hq
  replace hB : Bd D A s.heap (wd_Plan_readRow k a_t d_t i_t a_p1 w_p1 i_p1_7 j_p1_8 r_t_words a_p1_text r_p1_text r_t_firsts r_t_seconds) H locs := hB.sub [0, 4, 1, 5, 2, 3] (by decide) rfl
  refine lv_if_ne (tgt := 121) hx hb dX6_readRow_116 (by decide) (fun c_27 => ?_) (fun c_27 => ?_)
  · replace hf := hf.1 c_27
    refine lv_aload_n hx hb dX6_readRow_121 rfl (lv_at hl 0 rfl) ?_
    refine g_get (w := .ref (d_t 1)) F hB 0 rfl fl_RX6_15 rfl dX6_readRow_122 ?_
    refine lv_aload_n hx hb dX6_readRow_125 rfl (lv_at hl 0 rfl) ?_
    refine g_get (w := .int (i_t 3)) F hB 0 rfl fl_RX6_21 rfl dX6_readRow_126 ?_
    refine lv_aload_n hx hb dX6_readRow_129 rfl (lv_at hl 1 rfl) ?_
    refine g_get (w := .int (i_p1_7 6)) F hB 1 rfl fl_RX6_67 rfl dX6_readRow_130 ?_
    obtain ⟨h_11, hf⟩ := hf
    refine g_iast F hB 4 rfl h_11 (wd_Plan_readRow k a_t d_t i_t a_p1 w_p1 i_p1_7 j_p1_8 r_t_words a_p1_text r_p1_text (upd r_t_firsts ((i_t 3)).toNatClampNeg (i_p1_7 6)) r_t_seconds) rfl dX6_readRow_133 (fun H locs hB => ?_)
    exact jt_Plan_readRow_134 hw_p1_text F hr hlk hA _ _ _ _ _ _ _ _ _ _ hf hB (lv_sub hl [0, 1, 2] rfl)
  · replace hf := hf.2 c_27
    refine lv_iconst (v := 0) hx hb dX6_readRow_119 (by decide) ?_
    exact r_z F hr hlk hB (Or.inl rfl) ⟨Or.inl rfl, _, _, _, _, _, _, rfl, hf⟩ dX6_readRow_120

set_option maxRecDepth 100000 in
set_option maxHeartbeats 4000000 in
theorem jt_Plan_readRow_97 {p : Program} {l : Launch} {e : Env} {s : State} {m : MethodId} {below : List Frame} {meth : Method} {c : Code} {A : Nat → Prop} {D : va_G} {k : Nat → ClassId} {a_t : Nat} {d_t : Nat → Nat} {a_p1 : Nat} {w_p1 : Nat → Value} {a_p1_text : Nat} {r_p1_text : Nat → Int32} {n2 : Int32} {Q : Int32 → (Nat → Int32) → (Nat → Int32) → (Nat → Int64) → (Nat → Int32) → (Nat → Int32) → (Nat → Int32) → Prop} (hw_p1_text : w_p1 0 = .ref a_p1_text) (F : Fx p m c cX6_readRow 4 s ([.ref a_t, .ref a_p1, .int n2] : List Value).toArray RX6 D k) (hr : meth.sig.returnType = (some .boolean)) (hlk : meth.locks = false) (hA : ∀ q : Nat, s.heap.size ≤ q → A q) :
    ∀ (i_t : Nat → Int32) (i_p1 : Nat → Int32) (j_p1 : Nat → Int64) (r_t_words : Nat → Int32) (r_t_firsts : Nat → Int32) (r_t_seconds : Nat → Int32) (x2 : Int32) (H : Heap) (locs : List Loc) (ls : Array Slot), j_Plan_readRow_97 i_t i_p1 j_p1 r_t_words r_p1_text r_t_firsts r_t_seconds x2 Q → Bd D A s.heap (wd_Plan_readRow k a_t d_t i_t a_p1 w_p1 i_p1 j_p1 r_t_words a_p1_text r_p1_text r_t_firsts r_t_seconds) H locs → lv_has ls 4 [(0, .ref a_t), (1, .ref a_p1), (2, .int x2)] → W p l e { frames := 4, cells := 0, slots := 0, locals := 87 } s m ([.ref a_t, .ref a_p1, .int n2] : List Value).toArray below meth c H locs 0 0 (Ei below (fun r w => (r = 0 ∨ r = 1) ∧ (∃ (i_t : Nat → Int32), ∃ (i_p1 : Nat → Int32), ∃ (j_p1 : Nat → Int64), ∃ (r_t_words : Nat → Int32), ∃ (r_t_firsts : Nat → Int32), ∃ (r_t_seconds : Nat → Int32), w = (wd_Plan_readRow k a_t d_t i_t a_p1 w_p1 i_p1 j_p1 r_t_words a_p1_text r_p1_text r_t_firsts r_t_seconds) ∧ Q r i_t i_p1 j_p1 r_t_words r_t_firsts r_t_seconds)) D k A ([.ref a_t, .ref a_p1, .int n2] : List Value).toArray s 0 0) (F0 m 97 ls []) := by
  have hx := F.x
  have hb := F.b
  intro i_t i_p1 j_p1 r_t_words r_t_firsts r_t_seconds x2 H locs ls hf hB hl
  unfold j_Plan_readRow_97 at hf
  refine lv_iload_n hx hb dX6_readRow_97 rfl (lv_at hl 2 rfl) ?_
  refine lv_bipush (v := 12) hx hb dX6_readRow_98 (by decide) ?_
  refine lv_icmp_eq (tgt := 109) hx hb dX6_readRow_100 (by decide) (fun c_29 => ?_) (fun c_29 => ?_)
  · replace hf := hf.1 c_29
    exact jt_Plan_readRow_109 hw_p1_text F hr hlk hA _ _ _ _ _ _ _ _ _ _ hf hB (lv_sub hl [0, 1, 2] rfl)
  · replace hf := hf.2 c_29
    refine lv_iload_n hx hb dX6_readRow_103 rfl (lv_at hl 2 rfl) ?_
    refine lv_bipush (v := 14) hx hb dX6_readRow_104 (by decide) ?_
    refine lv_icmp_ne (tgt := 134) hx hb dX6_readRow_106 (by decide) (fun c_28 => ?_) (fun c_28 => ?_)
    · replace hf := hf.1 c_28
      exact jt_Plan_readRow_134 hw_p1_text F hr hlk hA _ _ _ _ _ _ _ _ _ _ hf hB (lv_sub hl [0, 1, 2] rfl)
    · replace hf := hf.2 c_28
      exact jt_Plan_readRow_109 hw_p1_text F hr hlk hA _ _ _ _ _ _ _ _ _ _ hf hB (lv_sub hl [0, 1, 2] rfl)

set_option maxRecDepth 100000 in
set_option maxHeartbeats 4000000 in
theorem jt_Plan_readRow_71 {p : Program} {l : Launch} {e : Env} {s : State} {m : MethodId} {below : List Frame} {meth : Method} {c : Code} {A : Nat → Prop} {D : va_G} {k : Nat → ClassId} {a_t : Nat} {d_t : Nat → Nat} {a_p1 : Nat} {w_p1 : Nat → Value} {a_p1_text : Nat} {r_p1_text : Nat → Int32} {n2 : Int32} {Q : Int32 → (Nat → Int32) → (Nat → Int32) → (Nat → Int64) → (Nat → Int32) → (Nat → Int32) → (Nat → Int32) → Prop} (hw_p1_text : w_p1 0 = .ref a_p1_text) (F : Fx p m c cX6_readRow 4 s ([.ref a_t, .ref a_p1, .int n2] : List Value).toArray RX6 D k) (hr : meth.sig.returnType = (some .boolean)) (hlk : meth.locks = false) (hA : ∀ q : Nat, s.heap.size ≤ q → A q) :
    ∀ (i_t : Nat → Int32) (i_p1 : Nat → Int32) (j_p1 : Nat → Int64) (r_t_words : Nat → Int32) (r_t_firsts : Nat → Int32) (r_t_seconds : Nat → Int32) (x2 : Int32) (H : Heap) (locs : List Loc) (ls : Array Slot), j_Plan_readRow_71 i_t i_p1 j_p1 r_t_words r_p1_text r_t_firsts r_t_seconds x2 Q → Bd D A s.heap (wd_Plan_readRow k a_t d_t i_t a_p1 w_p1 i_p1 j_p1 r_t_words a_p1_text r_p1_text r_t_firsts r_t_seconds) H locs → lv_has ls 4 [(0, .ref a_t), (1, .ref a_p1), (2, .int x2)] → W p l e { frames := 4, cells := 0, slots := 0, locals := 87 } s m ([.ref a_t, .ref a_p1, .int n2] : List Value).toArray below meth c H locs 0 0 (Ei below (fun r w => (r = 0 ∨ r = 1) ∧ (∃ (i_t : Nat → Int32), ∃ (i_p1 : Nat → Int32), ∃ (j_p1 : Nat → Int64), ∃ (r_t_words : Nat → Int32), ∃ (r_t_firsts : Nat → Int32), ∃ (r_t_seconds : Nat → Int32), w = (wd_Plan_readRow k a_t d_t i_t a_p1 w_p1 i_p1 j_p1 r_t_words a_p1_text r_p1_text r_t_firsts r_t_seconds) ∧ Q r i_t i_p1 j_p1 r_t_words r_t_firsts r_t_seconds)) D k A ([.ref a_t, .ref a_p1, .int n2] : List Value).toArray s 0 0) (F0 m 71 ls []) := by
  have hx := F.x
  have hb := F.b
  intro i_t i_p1 j_p1 r_t_words r_t_firsts r_t_seconds x2 H locs ls hf hB hl
  unfold j_Plan_readRow_71 at hf
  refine lv_aload_n hx hb dX6_readRow_71 rfl (lv_at hl 1 rfl) ?_
  refine lv_iconst (v := 1) hx hb dX6_readRow_72 (by decide) ?_
  refine lv_sipush (v := 400) hx hb dX6_readRow_73 (by decide) ?_
  refine k_vi (wr := [(a_t, ob 6 (rfd d_t) i_t j0), ((d_t 0), ai k 30 r_t_words), ((d_t 1), ai k 30 r_t_firsts), ((d_t 2), ai k 30 r_t_seconds)]) (rest := []) F hA hB (c_Reader_nextNumber l D k a_p1 w_p1 i_p1 j_p1 a_p1_text r_p1_text (1 : Int32) (400 : Int32) _ hw_p1_text hf) ml_RX6_63 mv_yX7_nextNumber [1, 3] [0, 2, 4, 5] rfl rfl (by decide) (by decide) (by decide) 1 rfl rfl rfl hl.1 rfl (Nat.le_of_ble_eq_true rfl) ⟨Nat.le_of_ble_eq_true rfl, Nat.le_of_ble_eq_true rfl⟩ ⟨Nat.le_of_ble_eq_true rfl, Nat.le_of_ble_eq_true rfl⟩ dX6_readRow_76 (fun z_4 w1 H locs hq hB => ?_)
  obtain ⟨h_5, i_p1_2, j_p1_3, rfl, hf⟩ := hq
  replace hB : Bd D A s.heap (wd_Plan_readRow k a_t d_t i_t a_p1 w_p1 i_p1_2 j_p1_3 r_t_words a_p1_text r_p1_text r_t_firsts r_t_seconds) H locs := hB.sub [0, 4, 1, 5, 2, 3] (by decide) rfl
  refine lv_if_ne (tgt := 84) hx hb dX6_readRow_79 (by decide) (fun c_30 => ?_) (fun c_30 => ?_)
  · replace hf := hf.1 c_30
    refine lv_aload_n hx hb dX6_readRow_84 rfl (lv_at hl 0 rfl) ?_
    refine g_get (w := .ref (d_t 1)) F hB 0 rfl fl_RX6_15 rfl dX6_readRow_85 ?_
    refine lv_aload_n hx hb dX6_readRow_88 rfl (lv_at hl 0 rfl) ?_
    refine g_get (w := .int (i_t 3)) F hB 0 rfl fl_RX6_21 rfl dX6_readRow_89 ?_
    refine lv_aload_n hx hb dX6_readRow_92 rfl (lv_at hl 1 rfl) ?_
    refine g_get (w := .int (i_p1_2 6)) F hB 1 rfl fl_RX6_67 rfl dX6_readRow_93 ?_
    obtain ⟨h_6, hf⟩ := hf
    refine g_iast F hB 4 rfl h_6 (wd_Plan_readRow k a_t d_t i_t a_p1 w_p1 i_p1_2 j_p1_3 r_t_words a_p1_text r_p1_text (upd r_t_firsts ((i_t 3)).toNatClampNeg (i_p1_2 6)) r_t_seconds) rfl dX6_readRow_96 (fun H locs hB => ?_)
    exact jt_Plan_readRow_97 hw_p1_text F hr hlk hA _ _ _ _ _ _ _ _ _ _ hf hB (lv_sub hl [0, 1, 2] rfl)
  · replace hf := hf.2 c_30
    refine lv_iconst (v := 0) hx hb dX6_readRow_82 (by decide) ?_
    exact r_z F hr hlk hB (Or.inl rfl) ⟨Or.inl rfl, _, _, _, _, _, _, rfl, hf⟩ dX6_readRow_83

set_option maxRecDepth 100000 in
set_option maxHeartbeats 4000000 in
theorem jt_Plan_readRow_23 {p : Program} {l : Launch} {e : Env} {s : State} {m : MethodId} {below : List Frame} {meth : Method} {c : Code} {A : Nat → Prop} {D : va_G} {k : Nat → ClassId} {a_t : Nat} {d_t : Nat → Nat} {a_p1 : Nat} {w_p1 : Nat → Value} {a_p1_text : Nat} {r_p1_text : Nat → Int32} {n2 : Int32} {Q : Int32 → (Nat → Int32) → (Nat → Int32) → (Nat → Int64) → (Nat → Int32) → (Nat → Int32) → (Nat → Int32) → Prop} (hw_p1_text : w_p1 0 = .ref a_p1_text) (F : Fx p m c cX6_readRow 4 s ([.ref a_t, .ref a_p1, .int n2] : List Value).toArray RX6 D k) (hr : meth.sig.returnType = (some .boolean)) (hlk : meth.locks = false) (hA : ∀ q : Nat, s.heap.size ≤ q → A q) :
    ∀ (i_t : Nat → Int32) (i_p1 : Nat → Int32) (j_p1 : Nat → Int64) (r_t_words : Nat → Int32) (r_t_firsts : Nat → Int32) (r_t_seconds : Nat → Int32) (x2 : Int32) (y0 : Int32) (H : Heap) (locs : List Loc) (ls : Array Slot), j_Plan_readRow_23 i_t i_p1 j_p1 r_t_words r_p1_text r_t_firsts r_t_seconds x2 y0 Q → Bd D A s.heap (wd_Plan_readRow k a_t d_t i_t a_p1 w_p1 i_p1 j_p1 r_t_words a_p1_text r_p1_text r_t_firsts r_t_seconds) H locs → lv_has ls 4 [(0, .ref a_t), (1, .ref a_p1), (2, .int x2)] → W p l e { frames := 4, cells := 0, slots := 0, locals := 87 } s m ([.ref a_t, .ref a_p1, .int n2] : List Value).toArray below meth c H locs 0 0 (Ei below (fun r w => (r = 0 ∨ r = 1) ∧ (∃ (i_t : Nat → Int32), ∃ (i_p1 : Nat → Int32), ∃ (j_p1 : Nat → Int64), ∃ (r_t_words : Nat → Int32), ∃ (r_t_firsts : Nat → Int32), ∃ (r_t_seconds : Nat → Int32), w = (wd_Plan_readRow k a_t d_t i_t a_p1 w_p1 i_p1 j_p1 r_t_words a_p1_text r_p1_text r_t_firsts r_t_seconds) ∧ Q r i_t i_p1 j_p1 r_t_words r_t_firsts r_t_seconds)) D k A ([.ref a_t, .ref a_p1, .int n2] : List Value).toArray s 0 0) (F0 m 23 ls [.int y0]) := by
  have hx := F.x
  have hb := F.b
  intro i_t i_p1 j_p1 r_t_words r_t_firsts r_t_seconds x2 y0 H locs ls hf hB hl
  unfold j_Plan_readRow_23 at hf
  refine lv_istore_n (lv' := [(3, .int y0), (0, .ref a_t), (1, .ref a_p1), (2, .int x2)]) hx hb dX6_readRow_23 rfl hl (by decide) rfl (fun ls hl => ?_)
  refine lv_iload_n hx hb dX6_readRow_24 rfl (lv_at hl 0 rfl) ?_
  refine lv_if_ne (tgt := 34) hx hb dX6_readRow_25 (by decide) (fun c_40 => ?_) (fun c_40 => ?_)
  · replace hf := hf.1 c_40
    refine lv_aload_n hx hb dX6_readRow_34 rfl (lv_at hl 1 rfl) ?_
    refine g_get (w := .int (i_t 3)) F hB 0 rfl fl_RX6_21 rfl dX6_readRow_35 ?_
    refine lv_bipush (v := 30) hx hb dX6_readRow_38 (by decide) ?_
    refine lv_icmp_lt (tgt := 49) hx hb dX6_readRow_40 (by decide) (fun c_36 => ?_) (fun c_36 => ?_)
    · replace hf := hf.1 c_36
      refine lv_aload_n hx hb dX6_readRow_49 rfl (lv_at hl 1 rfl) ?_
      refine g_get (w := .ref (d_t 0)) F hB 0 rfl fl_RX6_11 rfl dX6_readRow_50 ?_
      refine lv_aload_n hx hb dX6_readRow_53 rfl (lv_at hl 1 rfl) ?_
      refine g_get (w := .int (i_t 3)) F hB 0 rfl fl_RX6_21 rfl dX6_readRow_54 ?_
      refine lv_iload_n hx hb dX6_readRow_57 rfl (lv_at hl 3 rfl) ?_
      obtain ⟨h_1, hf⟩ := hf
      refine g_iast F hB 2 rfl h_1 (wd_Plan_readRow k a_t d_t i_t a_p1 w_p1 i_p1 j_p1 (upd r_t_words ((i_t 3)).toNatClampNeg x2) a_p1_text r_p1_text r_t_firsts r_t_seconds) rfl dX6_readRow_58 (fun H locs hB => ?_)
      refine lv_iload_n hx hb dX6_readRow_59 rfl (lv_at hl 3 rfl) ?_
      refine lv_bipush (v := 11) hx hb dX6_readRow_60 (by decide) ?_
      refine lv_icmp_eq (tgt := 71) hx hb dX6_readRow_62 (by decide) (fun c_32 => ?_) (fun c_32 => ?_)
      · replace hf := hf.1 c_32
        exact jt_Plan_readRow_71 hw_p1_text F hr hlk hA _ _ _ _ _ _ _ _ _ _ hf hB (lv_sub hl [1, 2, 3] rfl)
      · replace hf := hf.2 c_32
        refine lv_iload_n hx hb dX6_readRow_65 rfl (lv_at hl 3 rfl) ?_
        refine lv_bipush (v := 7) hx hb dX6_readRow_66 (by decide) ?_
        refine lv_icmp_ne (tgt := 97) hx hb dX6_readRow_68 (by decide) (fun c_31 => ?_) (fun c_31 => ?_)
        · replace hf := hf.1 c_31
          exact jt_Plan_readRow_97 hw_p1_text F hr hlk hA _ _ _ _ _ _ _ _ _ _ hf hB (lv_sub hl [1, 2, 3] rfl)
        · replace hf := hf.2 c_31
          exact jt_Plan_readRow_71 hw_p1_text F hr hlk hA _ _ _ _ _ _ _ _ _ _ hf hB (lv_sub hl [1, 2, 3] rfl)
    · replace hf := hf.2 c_36
      refine lv_aload_n hx hb dX6_readRow_43 rfl (lv_at hl 2 rfl) ?_
      refine lv_iconst (v := 4) hx hb dX6_readRow_44 (by decide) ?_
      refine k_vi (wr := [(a_t, ob 6 (rfd d_t) i_t j0), ((d_t 0), ai k 30 r_t_words), (a_p1_text, ai k 940 r_p1_text), ((d_t 1), ai k 30 r_t_firsts), ((d_t 2), ai k 30 r_t_seconds)]) (rest := []) F hA hB (c_Reader_failHere l D k a_p1 w_p1 i_p1 j_p1 (4 : Int32) _  hf) ml_RX6_59 mv_yX7_failHere [1] [0, 2, 3, 4, 5] rfl rfl (by decide) (by decide) (by decide) 1 rfl rfl rfl hl.1 rfl (Nat.le_of_ble_eq_true rfl) ⟨Nat.le_of_ble_eq_true rfl, Nat.le_of_ble_eq_true rfl⟩ ⟨Nat.le_of_ble_eq_true rfl, Nat.le_of_ble_eq_true rfl⟩ dX6_readRow_45 (fun z_34 w1 H locs hq hB => ?_)
      obtain ⟨h_35, i_p1_33, rfl, hf⟩ := hq
      replace hB : Bd D A s.heap (wd_Plan_readRow k a_t d_t i_t a_p1 w_p1 i_p1_33 j_p1 r_t_words a_p1_text r_p1_text r_t_firsts r_t_seconds) H locs := hB.sub [0, 5, 1, 2, 3, 4] (by decide) rfl
      exact r_z F hr hlk hB (h_35) ⟨h_35, _, _, _, _, _, _, rfl, hf⟩ dX6_readRow_48
  · replace hf := hf.2 c_40
    refine lv_aload_n hx hb dX6_readRow_28 rfl (lv_at hl 2 rfl) ?_
    refine lv_iconst (v := 1) hx hb dX6_readRow_29 (by decide) ?_
    refine k_vi (wr := [(a_t, ob 6 (rfd d_t) i_t j0), ((d_t 0), ai k 30 r_t_words), (a_p1_text, ai k 940 r_p1_text), ((d_t 1), ai k 30 r_t_firsts), ((d_t 2), ai k 30 r_t_seconds)]) (rest := []) F hA hB (c_Reader_failHere l D k a_p1 w_p1 i_p1 j_p1 (1 : Int32) _  hf) ml_RX6_59 mv_yX7_failHere [1] [0, 2, 3, 4, 5] rfl rfl (by decide) (by decide) (by decide) 1 rfl rfl rfl hl.1 rfl (Nat.le_of_ble_eq_true rfl) ⟨Nat.le_of_ble_eq_true rfl, Nat.le_of_ble_eq_true rfl⟩ ⟨Nat.le_of_ble_eq_true rfl, Nat.le_of_ble_eq_true rfl⟩ dX6_readRow_30 (fun z_38 w1 H locs hq hB => ?_)
    obtain ⟨h_39, i_p1_37, rfl, hf⟩ := hq
    replace hB : Bd D A s.heap (wd_Plan_readRow k a_t d_t i_t a_p1 w_p1 i_p1_37 j_p1 r_t_words a_p1_text r_p1_text r_t_firsts r_t_seconds) H locs := hB.sub [0, 5, 1, 2, 3, 4] (by decide) rfl
    exact r_z F hr hlk hB (h_39) ⟨h_39, _, _, _, _, _, _, rfl, hf⟩ dX6_readRow_33

set_option maxRecDepth 100000 in
set_option maxHeartbeats 4000000 in
theorem jt_Plan_readRow_18 {p : Program} {l : Launch} {e : Env} {s : State} {m : MethodId} {below : List Frame} {meth : Method} {c : Code} {A : Nat → Prop} {D : va_G} {k : Nat → ClassId} {a_t : Nat} {d_t : Nat → Nat} {a_p1 : Nat} {w_p1 : Nat → Value} {a_p1_text : Nat} {r_p1_text : Nat → Int32} {n2 : Int32} {Q : Int32 → (Nat → Int32) → (Nat → Int32) → (Nat → Int64) → (Nat → Int32) → (Nat → Int32) → (Nat → Int32) → Prop} (hw_p1_text : w_p1 0 = .ref a_p1_text) (F : Fx p m c cX6_readRow 4 s ([.ref a_t, .ref a_p1, .int n2] : List Value).toArray RX6 D k) (hr : meth.sig.returnType = (some .boolean)) (hlk : meth.locks = false) (hA : ∀ q : Nat, s.heap.size ≤ q → A q) :
    ∀ (i_t : Nat → Int32) (i_p1 : Nat → Int32) (j_p1 : Nat → Int64) (r_t_words : Nat → Int32) (r_t_firsts : Nat → Int32) (r_t_seconds : Nat → Int32) (x2 : Int32) (H : Heap) (locs : List Loc) (ls : Array Slot), j_Plan_readRow_18 i_t i_p1 j_p1 r_t_words r_p1_text r_t_firsts r_t_seconds x2 Q → Bd D A s.heap (wd_Plan_readRow k a_t d_t i_t a_p1 w_p1 i_p1 j_p1 r_t_words a_p1_text r_p1_text r_t_firsts r_t_seconds) H locs → lv_has ls 4 [(0, .ref a_t), (1, .ref a_p1), (2, .int x2)] → W p l e { frames := 4, cells := 0, slots := 0, locals := 87 } s m ([.ref a_t, .ref a_p1, .int n2] : List Value).toArray below meth c H locs 0 0 (Ei below (fun r w => (r = 0 ∨ r = 1) ∧ (∃ (i_t : Nat → Int32), ∃ (i_p1 : Nat → Int32), ∃ (j_p1 : Nat → Int64), ∃ (r_t_words : Nat → Int32), ∃ (r_t_firsts : Nat → Int32), ∃ (r_t_seconds : Nat → Int32), w = (wd_Plan_readRow k a_t d_t i_t a_p1 w_p1 i_p1 j_p1 r_t_words a_p1_text r_p1_text r_t_firsts r_t_seconds) ∧ Q r i_t i_p1 j_p1 r_t_words r_t_firsts r_t_seconds)) D k A ([.ref a_t, .ref a_p1, .int n2] : List Value).toArray s 0 0) (F0 m 18 ls []) := by
  have hx := F.x
  have hb := F.b
  intro i_t i_p1 j_p1 r_t_words r_t_firsts r_t_seconds x2 H locs ls hf hB hl
  unfold j_Plan_readRow_18 at hf
  refine lv_iconst (v := 1) hx hb dX6_readRow_18 (by decide) ?_
  refine lv_goto (tgt := 23) hx hb dX6_readRow_19 (by decide) ?_
  exact jt_Plan_readRow_23 hw_p1_text F hr hlk hA _ _ _ _ _ _ _ _ _ _ _ hf hB (lv_sub hl [0, 1, 2] rfl)

set_option maxRecDepth 100000 in
set_option maxHeartbeats 4000000 in
theorem jt_Plan_readRow_22 {p : Program} {l : Launch} {e : Env} {s : State} {m : MethodId} {below : List Frame} {meth : Method} {c : Code} {A : Nat → Prop} {D : va_G} {k : Nat → ClassId} {a_t : Nat} {d_t : Nat → Nat} {a_p1 : Nat} {w_p1 : Nat → Value} {a_p1_text : Nat} {r_p1_text : Nat → Int32} {n2 : Int32} {Q : Int32 → (Nat → Int32) → (Nat → Int32) → (Nat → Int64) → (Nat → Int32) → (Nat → Int32) → (Nat → Int32) → Prop} (hw_p1_text : w_p1 0 = .ref a_p1_text) (F : Fx p m c cX6_readRow 4 s ([.ref a_t, .ref a_p1, .int n2] : List Value).toArray RX6 D k) (hr : meth.sig.returnType = (some .boolean)) (hlk : meth.locks = false) (hA : ∀ q : Nat, s.heap.size ≤ q → A q) :
    ∀ (i_t : Nat → Int32) (i_p1 : Nat → Int32) (j_p1 : Nat → Int64) (r_t_words : Nat → Int32) (r_t_firsts : Nat → Int32) (r_t_seconds : Nat → Int32) (x2 : Int32) (H : Heap) (locs : List Loc) (ls : Array Slot), j_Plan_readRow_22 i_t i_p1 j_p1 r_t_words r_p1_text r_t_firsts r_t_seconds x2 Q → Bd D A s.heap (wd_Plan_readRow k a_t d_t i_t a_p1 w_p1 i_p1 j_p1 r_t_words a_p1_text r_p1_text r_t_firsts r_t_seconds) H locs → lv_has ls 4 [(0, .ref a_t), (1, .ref a_p1), (2, .int x2)] → W p l e { frames := 4, cells := 0, slots := 0, locals := 87 } s m ([.ref a_t, .ref a_p1, .int n2] : List Value).toArray below meth c H locs 0 0 (Ei below (fun r w => (r = 0 ∨ r = 1) ∧ (∃ (i_t : Nat → Int32), ∃ (i_p1 : Nat → Int32), ∃ (j_p1 : Nat → Int64), ∃ (r_t_words : Nat → Int32), ∃ (r_t_firsts : Nat → Int32), ∃ (r_t_seconds : Nat → Int32), w = (wd_Plan_readRow k a_t d_t i_t a_p1 w_p1 i_p1 j_p1 r_t_words a_p1_text r_p1_text r_t_firsts r_t_seconds) ∧ Q r i_t i_p1 j_p1 r_t_words r_t_firsts r_t_seconds)) D k A ([.ref a_t, .ref a_p1, .int n2] : List Value).toArray s 0 0) (F0 m 22 ls []) := by
  have hx := F.x
  have hb := F.b
  intro i_t i_p1 j_p1 r_t_words r_t_firsts r_t_seconds x2 H locs ls hf hB hl
  unfold j_Plan_readRow_22 at hf
  refine lv_iconst (v := 0) hx hb dX6_readRow_22 (by decide) ?_
  exact jt_Plan_readRow_23 hw_p1_text F hr hlk hA _ _ _ _ _ _ _ _ _ _ _ hf hB (lv_sub hl [0, 1, 2] rfl)

set_option maxRecDepth 100000 in
set_option maxHeartbeats 4000000 in
theorem c_Plan_readRow (l : Launch) (D : va_G) (k : Nat → ClassId) (a_t : Nat) (d_t : Nat → Nat) (i_t : Nat → Int32) (a_p1 : Nat) (w_p1 : Nat → Value) (i_p1 : Nat → Int32) (j_p1 : Nat → Int64) (r_t_words : Nat → Int32) (a_p1_text : Nat) (r_p1_text : Nat → Int32) (r_t_firsts : Nat → Int32) (r_t_seconds : Nat → Int32) (n2 : Int32) (Q : Int32 → (Nat → Int32) → (Nat → Int32) → (Nat → Int64) → (Nat → Int32) → (Nat → Int32) → (Nat → Int32) → Prop) (hw_p1_text : w_p1 0 = .ref a_p1_text) (hf : w_Plan_readRow i_t i_p1 j_p1 r_t_words r_p1_text r_t_firsts r_t_seconds n2 Q) : CtI l yX6_readRow cX6_readRow 4 (some .boolean) 4 87 0 0 D k [.ref a_t, .ref a_p1, .int n2] (wd_Plan_readRow k a_t d_t i_t a_p1 w_p1 i_p1 j_p1 r_t_words a_p1_text r_p1_text r_t_firsts r_t_seconds) (fun r w => (r = 0 ∨ r = 1) ∧ (∃ (i_t : Nat → Int32), ∃ (i_p1 : Nat → Int32), ∃ (j_p1 : Nat → Int64), ∃ (r_t_words : Nat → Int32), ∃ (r_t_firsts : Nat → Int32), ∃ (r_t_seconds : Nat → Int32), w = (wd_Plan_readRow k a_t d_t i_t a_p1 w_p1 i_p1 j_p1 r_t_words a_p1_text r_p1_text r_t_firsts r_t_seconds) ∧ Q r i_t i_p1 j_p1 r_t_words r_t_firsts r_t_seconds)) := by
  refine CtI.of (by decide) (Nat.le_of_ble_eq_true rfl) ?_
  intro p e s m below meth c A F hr hlk hnm hA hB ls hl
  have hx := F.x
  have hb := F.b
  unfold w_Plan_readRow at hf
  replace hl : lv_has ls 4 [(0, .ref a_t), (1, .ref a_p1), (2, .int n2)] := hl
  refine lv_iload_n hx hb dX6_readRow_0 rfl (lv_at hl 2 rfl) ?_
  refine lv_bipush (v := 7) hx hb dX6_readRow_1 (by decide) ?_
  refine lv_icmp_eq (tgt := 18) hx hb dX6_readRow_3 (by decide) (fun c_43 => ?_) (fun c_43 => ?_)
  · replace hf := hf.1 c_43
    exact jt_Plan_readRow_18 hw_p1_text F hr hlk hA _ _ _ _ _ _ _ _ _ _ hf hB (lv_sub hl [0, 1, 2] rfl)
  · replace hf := hf.2 c_43
    refine lv_iload_n hx hb dX6_readRow_6 rfl (lv_at hl 2 rfl) ?_
    refine lv_bipush (v := 11) hx hb dX6_readRow_7 (by decide) ?_
    refine lv_icmp_lt (tgt := 22) hx hb dX6_readRow_9 (by decide) (fun c_42 => ?_) (fun c_42 => ?_)
    · replace hf := hf.1 c_42
      exact jt_Plan_readRow_22 hw_p1_text F hr hlk hA _ _ _ _ _ _ _ _ _ _ hf hB (lv_sub hl [0, 1, 2] rfl)
    · replace hf := hf.2 c_42
      refine lv_iload_n hx hb dX6_readRow_12 rfl (lv_at hl 2 rfl) ?_
      refine lv_bipush (v := 15) hx hb dX6_readRow_13 (by decide) ?_
      refine lv_icmp_gt (tgt := 22) hx hb dX6_readRow_15 (by decide) (fun c_41 => ?_) (fun c_41 => ?_)
      · replace hf := hf.1 c_41
        exact jt_Plan_readRow_22 hw_p1_text F hr hlk hA _ _ _ _ _ _ _ _ _ _ hf hB (lv_sub hl [0, 1, 2] rfl)
      · replace hf := hf.2 c_41
        exact jt_Plan_readRow_18 hw_p1_text F hr hlk hA _ _ _ _ _ _ _ _ _ _ hf hB (lv_sub hl [0, 1, 2] rfl)

/-! LongTrain.Row.openPlace -/
set_option maxRecDepth 100000 in
set_option maxHeartbeats 4000000 in
theorem bt_Row_openPlace_5 {p : Program} {l : Launch} {e : Env} {s : State} {m : MethodId} {below : List Frame} {meth : Method} {c : Code} {A : Nat → Prop} {D : va_G} {k : Nat → ClassId} {a_t : Nat} {d_t : Nat → Nat} {i_t : Nat → Int32} {a_p1 : Nat} {n2 : Int32} {Q : (Nat → Int32) → Prop}  {x2 : Int32} {kx_5 : (Nat → Int32) → Prop} {kr_5 : (Int32) → (Nat → Int32) → Prop} (F : Fx p m c cX8_openPlace 4 s ([.ref a_t, .ref a_p1, .int n2] : List Value).toArray RX8 D k) (hr : meth.sig.returnType = none) (hlk : meth.locks = false) (hA : ∀ q : Nat, s.heap.size ≤ q → A q) (hkx_5 : ∀ (r_p1 : Nat → Int32) (H : Heap) (locs : List Loc) (ls : Array Slot), kx_5 r_p1 → Bd D A s.heap (wd_Row_openPlace k a_t d_t i_t a_p1 r_p1) H locs → lv_has ls 4 [(1, .ref a_p1), (2, .int x2)] → W p l e { frames := 0, cells := 0, slots := 0, locals := 0 } s m ([.ref a_t, .ref a_p1, .int n2] : List Value).toArray below meth c H locs 0 0 (Ev below (fun w => ∃ (r_p1 : Nat → Int32), w = (wd_Row_openPlace k a_t d_t i_t a_p1 r_p1) ∧ Q r_p1) D k A ([.ref a_t, .ref a_p1, .int n2] : List Value).toArray s 0 0) (F0 m 24 ls [])) (hkr_5 : ∀ (x3 : Int32) (r_p1 : Nat → Int32) (H : Heap) (locs : List Loc) (ls : Array Slot), kr_5 x3 r_p1 → Bd D A s.heap (wd_Row_openPlace k a_t d_t i_t a_p1 r_p1) H locs → lv_has ls 4 [(1, .ref a_p1), (2, .int x2), (3, .int x3)] → W p l e { frames := 0, cells := 0, slots := 0, locals := 0 } s m ([.ref a_t, .ref a_p1, .int n2] : List Value).toArray below meth c H locs 0 0 (Ev below (fun w => ∃ (r_p1 : Nat → Int32), w = (wd_Row_openPlace k a_t d_t i_t a_p1 r_p1) ∧ Q r_p1) D k A ([.ref a_t, .ref a_p1, .int n2] : List Value).toArray s 0 0) (F0 m 5 ls [])) :
    ∀ (x3 : Int32) (r_p1 : Nat → Int32) (H : Heap) (locs : List Loc) (ls : Array Slot), b_Row_openPlace_5 x2 kx_5 kr_5 x3 r_p1 → Bd D A s.heap (wd_Row_openPlace k a_t d_t i_t a_p1 r_p1) H locs → lv_has ls 4 [(1, .ref a_p1), (2, .int x2), (3, .int x3)] → W p l e { frames := 0, cells := 0, slots := 0, locals := 0 } s m ([.ref a_t, .ref a_p1, .int n2] : List Value).toArray below meth c H locs 0 0 (Ev below (fun w => ∃ (r_p1 : Nat → Int32), w = (wd_Row_openPlace k a_t d_t i_t a_p1 r_p1) ∧ Q r_p1) D k A ([.ref a_t, .ref a_p1, .int n2] : List Value).toArray s 0 0) (F0 m 5 ls []) := by
  have hx := F.x
  have hb := F.b
  intro x3 r_p1 H locs ls hf hB hl
  unfold b_Row_openPlace_5 at hf
  refine lv_iload_n hx hb dX8_openPlace_5 rfl (lv_at hl 2 rfl) ?_
  refine lv_iload_n hx hb dX8_openPlace_6 rfl (lv_at hl 1 rfl) ?_
  refine lv_icmp_le (tgt := 24) hx hb dX8_openPlace_7 (by decide) (fun c_3 => ?_) (fun c_3 => ?_)
  · replace hf := hf.1 c_3
    exact hkx_5 _ _ _ _ hf hB (lv_sub hl [0, 1] rfl)
  · replace hf := hf.2 c_3
    refine lv_aload_n hx hb dX8_openPlace_10 rfl (lv_at hl 0 rfl) ?_
    refine lv_iload_n hx hb dX8_openPlace_11 rfl (lv_at hl 2 rfl) ?_
    refine lv_aload_n hx hb dX8_openPlace_12 rfl (lv_at hl 0 rfl) ?_
    refine lv_iload_n hx hb dX8_openPlace_13 rfl (lv_at hl 2 rfl) ?_
    refine lv_iconst (v := 1) hx hb dX8_openPlace_14 (by decide) ?_
    refine lv_isub hx hb dX8_openPlace_15 ?_
    obtain ⟨h_1, hf⟩ := hf
    refine g_iald F hB 1 rfl h_1 dX8_openPlace_16 ?_
    obtain ⟨h_2, hf⟩ := hf
    refine g_iast F hB 1 rfl h_2 (wd_Row_openPlace k a_t d_t i_t a_p1 (upd r_p1 (x3).toNatClampNeg (r_p1 ((x3 - (1 : Int32))).toNatClampNeg))) rfl dX8_openPlace_17 (fun H locs hB => ?_)
    refine lv_iinc (v := (x3 + (-1))) (lv' := [(3, .int (x3 + (-1))), (1, .ref a_p1), (2, .int x2)]) (k := 2) hx hb dX8_openPlace_18 hl rfl rfl (by decide) rfl (fun ls hl => ?_)
    refine lv_goto (tgt := 5) hx hb dX8_openPlace_21 (by decide) ?_
    exact hkr_5 _ _ _ _ _ hf hB (lv_sub hl [1, 2, 0] rfl)

set_option maxRecDepth 100000 in
set_option maxHeartbeats 4000000 in
theorem lt_Row_openPlace_5 {p : Program} {l : Launch} {e : Env} {s : State} {m : MethodId} {below : List Frame} {meth : Method} {c : Code} {A : Nat → Prop} {D : va_G} {k : Nat → ClassId} {a_t : Nat} {d_t : Nat → Nat} {i_t : Nat → Int32} {a_p1 : Nat} {n2 : Int32} {Q : (Nat → Int32) → Prop}  {x2 : Int32} {kx_5 : (Nat → Int32) → Prop} (F : Fx p m c cX8_openPlace 4 s ([.ref a_t, .ref a_p1, .int n2] : List Value).toArray RX8 D k) (hr : meth.sig.returnType = none) (hlk : meth.locks = false) (hA : ∀ q : Nat, s.heap.size ≤ q → A q) (hkx_5 : ∀ (r_p1 : Nat → Int32) (H : Heap) (locs : List Loc) (ls : Array Slot), kx_5 r_p1 → Bd D A s.heap (wd_Row_openPlace k a_t d_t i_t a_p1 r_p1) H locs → lv_has ls 4 [(1, .ref a_p1), (2, .int x2)] → W p l e { frames := 0, cells := 0, slots := 0, locals := 0 } s m ([.ref a_t, .ref a_p1, .int n2] : List Value).toArray below meth c H locs 0 0 (Ev below (fun w => ∃ (r_p1 : Nat → Int32), w = (wd_Row_openPlace k a_t d_t i_t a_p1 r_p1) ∧ Q r_p1) D k A ([.ref a_t, .ref a_p1, .int n2] : List Value).toArray s 0 0) (F0 m 24 ls [])) :
    ∀ n : Nat, ∀ (x3 : Int32) (r_p1 : Nat → Int32) (H : Heap) (locs : List Loc) (ls : Array Slot), lp_Row_openPlace_5 x2 kx_5 n x3 r_p1 → Bd D A s.heap (wd_Row_openPlace k a_t d_t i_t a_p1 r_p1) H locs → lv_has ls 4 [(1, .ref a_p1), (2, .int x2), (3, .int x3)] → W p l e { frames := 0, cells := 0, slots := 0, locals := 0 } s m ([.ref a_t, .ref a_p1, .int n2] : List Value).toArray below meth c H locs 0 0 (Ev below (fun w => ∃ (r_p1 : Nat → Int32), w = (wd_Row_openPlace k a_t d_t i_t a_p1 r_p1) ∧ Q r_p1) D k A ([.ref a_t, .ref a_p1, .int n2] : List Value).toArray s 0 0) (F0 m 5 ls []) := by
  intro n
  induction n with
  | zero => intro x3 r_p1 H locs ls hf; exact absurd hf (fun h => h)
  | succ n ih => exact bt_Row_openPlace_5 F hr hlk hA hkx_5 ih

set_option maxRecDepth 100000 in
set_option maxHeartbeats 4000000 in
theorem c_Row_openPlace (l : Launch) (D : va_G) (k : Nat → ClassId) (a_t : Nat) (d_t : Nat → Nat) (i_t : Nat → Int32) (a_p1 : Nat) (r_p1 : Nat → Int32) (n2 : Int32) (Q : (Nat → Int32) → Prop)  (hf : w_Row_openPlace i_t r_p1 n2 Q) : CtV l yX8_openPlace cX8_openPlace 4 none 0 0 0 0 D k [.ref a_t, .ref a_p1, .int n2] (wd_Row_openPlace k a_t d_t i_t a_p1 r_p1) (fun w => ∃ (r_p1 : Nat → Int32), w = (wd_Row_openPlace k a_t d_t i_t a_p1 r_p1) ∧ Q r_p1) := by
  refine CtV.of (by decide) (Nat.le_of_ble_eq_true rfl) ?_
  intro p e s m below meth c A F hr hlk hnm hA hB ls hl
  have hx := F.x
  have hb := F.b
  unfold w_Row_openPlace at hf
  replace hl : lv_has ls 4 [(0, .ref a_t), (1, .ref a_p1), (2, .int n2)] := hl
  refine lv_aload_n hx hb dX8_openPlace_0 rfl (lv_at hl 0 rfl) ?_
  refine g_get (w := .int (i_t 8)) F hB 0 rfl fl_RX8_36 rfl dX8_openPlace_1 ?_
  refine lv_istore_n (lv' := [(3, .int (i_t 8)), (0, .ref a_t), (1, .ref a_p1), (2, .int n2)]) hx hb dX8_openPlace_4 rfl hl (by decide) rfl (fun ls hl => ?_)
  obtain ⟨n_6, hf⟩ := hf
  refine lt_Row_openPlace_5 F hr hlk hA (fun r_p1_4 H locs ls hf hB hl => ?_) n_6 _ _ _ _ _ hf hB (lv_sub hl [2, 3, 0] rfl)
  refine lv_aload_n hx hb dX8_openPlace_24 rfl (lv_at hl 0 rfl) ?_
  refine lv_iload_n hx hb dX8_openPlace_25 rfl (lv_at hl 1 rfl) ?_
  refine lv_iconst (v := 0) hx hb dX8_openPlace_26 (by decide) ?_
  obtain ⟨h_5, hf⟩ := hf
  refine g_iast F hB 1 rfl h_5 (wd_Row_openPlace k a_t d_t i_t a_p1 (upd r_p1_4 (n2).toNatClampNeg (0 : Int32))) rfl dX8_openPlace_27 (fun H locs hB => ?_)
  exact r_v F hr hlk hB ⟨_, rfl, hf⟩ dX8_openPlace_28

/-! LongTrain.Row.insert -/
set_option maxRecDepth 100000 in
set_option maxHeartbeats 4000000 in
theorem c_Row_insert (l : Launch) (D : va_G) (k : Nat → ClassId) (a_t : Nat) (d_t : Nat → Nat) (i_t : Nat → Int32) (a_p3 : Nat) (d_p3 : Nat → Nat) (i_p3 : Nat → Int32) (r_t_kinds : Nat → Int32) (r_t_longs : Nat → Int32) (r_t_weights : Nat → Int32) (r_t_strengths : Nat → Int32) (r_t_wears : Nat → Int32) (r_t_pushes : Nat → Int32) (r_t_helpers : Nat → Int32) (r_p3_kinds : Nat → Int32) (n1 : Int32) (n2 : Int32) (Q : (Nat → Int32) → (Nat → Int32) → (Nat → Int32) → (Nat → Int32) → (Nat → Int32) → (Nat → Int32) → (Nat → Int32) → (Nat → Int32) → Prop)  (hf : w_Row_insert i_t r_t_kinds r_t_longs r_t_weights r_t_strengths r_t_wears r_t_pushes r_t_helpers r_p3_kinds n1 n2 Q) : CtV l yX8_insert cX8_insert 4 none 1 23 0 0 D k [.ref a_t, .int n1, .int n2, .ref a_p3] (wd_Row_insert k a_t d_t i_t a_p3 d_p3 i_p3 r_t_kinds r_t_longs r_t_weights r_t_strengths r_t_wears r_t_pushes r_t_helpers r_p3_kinds) (fun w => ∃ (i_t : Nat → Int32), ∃ (r_t_kinds : Nat → Int32), ∃ (r_t_longs : Nat → Int32), ∃ (r_t_weights : Nat → Int32), ∃ (r_t_strengths : Nat → Int32), ∃ (r_t_wears : Nat → Int32), ∃ (r_t_pushes : Nat → Int32), ∃ (r_t_helpers : Nat → Int32), w = (wd_Row_insert k a_t d_t i_t a_p3 d_p3 i_p3 r_t_kinds r_t_longs r_t_weights r_t_strengths r_t_wears r_t_pushes r_t_helpers r_p3_kinds) ∧ Q i_t r_t_kinds r_t_longs r_t_weights r_t_strengths r_t_wears r_t_pushes r_t_helpers) := by
  refine CtV.of (by decide) (Nat.le_of_ble_eq_true rfl) ?_
  intro p e s m below meth c A F hr hlk hnm hA hB ls hl
  have hx := F.x
  have hb := F.b
  unfold w_Row_insert at hf
  replace hl : lv_has ls 4 [(0, .ref a_t), (1, .int n1), (2, .int n2), (3, .ref a_p3)] := hl
  refine lv_aload_n hx hb dX8_insert_0 rfl (lv_at hl 0 rfl) ?_
  refine g_get (w := .int (i_t 8)) F hB 0 rfl fl_RX8_36 rfl dX8_insert_1 ?_
  refine lv_bipush (v := 20) hx hb dX8_insert_4 (by decide) ?_
  refine lv_icmp_ge (tgt := 21) hx hb dX8_insert_6 (by decide) (fun c_18 => ?_) (fun c_18 => ?_)
  · replace hf := hf.1 c_18
    exact r_v F hr hlk hB ⟨_, _, _, _, _, _, _, _, rfl, hf⟩ dX8_insert_21
  · replace hf := hf.2 c_18
    refine lv_iload_n hx hb dX8_insert_9 rfl (lv_at hl 1 rfl) ?_
    refine lv_if_lt (tgt := 21) hx hb dX8_insert_10 (by decide) (fun c_17 => ?_) (fun c_17 => ?_)
    · replace hf := hf.1 c_17
      exact r_v F hr hlk hB ⟨_, _, _, _, _, _, _, _, rfl, hf⟩ dX8_insert_21
    · replace hf := hf.2 c_17
      refine lv_iload_n hx hb dX8_insert_13 rfl (lv_at hl 1 rfl) ?_
      refine lv_aload_n hx hb dX8_insert_14 rfl (lv_at hl 0 rfl) ?_
      refine g_get (w := .int (i_t 8)) F hB 0 rfl fl_RX8_36 rfl dX8_insert_15 ?_
      refine lv_icmp_le (tgt := 22) hx hb dX8_insert_18 (by decide) (fun c_16 => ?_) (fun c_16 => ?_)
      · replace hf := hf.1 c_16
        refine lv_aload_n hx hb dX8_insert_22 rfl (lv_at hl 0 rfl) ?_
        refine lv_aload_n hx hb dX8_insert_23 rfl (lv_at hl 0 rfl) ?_
        refine g_get (w := .ref (d_t 0)) F hB 0 rfl fl_RX8_9 rfl dX8_insert_24 ?_
        refine lv_iload_n hx hb dX8_insert_27 rfl (lv_at hl 1 rfl) ?_
        refine k_vv (wr := [(a_p3, ob 3 (rfd d_p3) i_p3 j0), ((d_t 1), ai k 20 r_t_longs), ((d_t 2), ai k 20 r_t_weights), ((d_t 3), ai k 20 r_t_strengths), ((d_t 4), ai k 20 r_t_wears), ((d_t 5), ai k 20 r_t_pushes), ((d_t 6), ai k 20 r_t_helpers), ((d_p3 6), ai k 18 r_p3_kinds)]) (rest := []) F hA hB (c_Row_openPlace l D k a_t d_t i_t (d_t 0) r_t_kinds n1 _  hf) ml_RX8_74 mv_yX8_openPlace [0, 2] [1, 3, 4, 5, 6, 7, 8, 9] rfl rfl (by decide) (by decide) (by decide) 0 rfl rfl rfl hl.1 rfl (Nat.le_of_ble_eq_true rfl) ⟨Nat.le_of_ble_eq_true rfl, Nat.le_of_ble_eq_true rfl⟩ ⟨Nat.le_of_ble_eq_true rfl, Nat.le_of_ble_eq_true rfl⟩ dX8_insert_28 (fun w1 H locs hq hB => ?_)
        obtain ⟨r_t_kinds_1, rfl, hf⟩ := hq
        replace hB : Bd D A s.heap (wd_Row_insert k a_t d_t i_t a_p3 d_p3 i_p3 r_t_kinds_1 r_t_longs r_t_weights r_t_strengths r_t_wears r_t_pushes r_t_helpers r_p3_kinds) H locs := hB.sub [8, 0, 9, 1, 2, 3, 4, 5, 6, 7] (by decide) rfl
        refine lv_aload_n hx hb dX8_insert_31 rfl (lv_at hl 0 rfl) ?_
        refine lv_aload_n hx hb dX8_insert_32 rfl (lv_at hl 0 rfl) ?_
        refine g_get (w := .ref (d_t 1)) F hB 0 rfl fl_RX8_15 rfl dX8_insert_33 ?_
        refine lv_iload_n hx hb dX8_insert_36 rfl (lv_at hl 1 rfl) ?_
        refine k_vv (wr := [(a_p3, ob 3 (rfd d_p3) i_p3 j0), ((d_t 0), ai k 20 r_t_kinds_1), ((d_t 2), ai k 20 r_t_weights), ((d_t 3), ai k 20 r_t_strengths), ((d_t 4), ai k 20 r_t_wears), ((d_t 5), ai k 20 r_t_pushes), ((d_t 6), ai k 20 r_t_helpers), ((d_p3 6), ai k 18 r_p3_kinds)]) (rest := []) F hA hB (c_Row_openPlace l D k a_t d_t i_t (d_t 1) r_t_longs n1 _  hf) ml_RX8_74 mv_yX8_openPlace [0, 3] [1, 2, 4, 5, 6, 7, 8, 9] rfl rfl (by decide) (by decide) (by decide) 0 rfl rfl rfl hl.1 rfl (Nat.le_of_ble_eq_true rfl) ⟨Nat.le_of_ble_eq_true rfl, Nat.le_of_ble_eq_true rfl⟩ ⟨Nat.le_of_ble_eq_true rfl, Nat.le_of_ble_eq_true rfl⟩ dX8_insert_37 (fun w1 H locs hq hB => ?_)
        obtain ⟨r_t_longs_2, rfl, hf⟩ := hq
        replace hB : Bd D A s.heap (wd_Row_insert k a_t d_t i_t a_p3 d_p3 i_p3 r_t_kinds_1 r_t_longs_2 r_t_weights r_t_strengths r_t_wears r_t_pushes r_t_helpers r_p3_kinds) H locs := hB.sub [8, 0, 1, 9, 2, 3, 4, 5, 6, 7] (by decide) rfl
        refine lv_aload_n hx hb dX8_insert_40 rfl (lv_at hl 0 rfl) ?_
        refine lv_aload_n hx hb dX8_insert_41 rfl (lv_at hl 0 rfl) ?_
        refine g_get (w := .ref (d_t 2)) F hB 0 rfl fl_RX8_18 rfl dX8_insert_42 ?_
        refine lv_iload_n hx hb dX8_insert_45 rfl (lv_at hl 1 rfl) ?_
        refine k_vv (wr := [(a_p3, ob 3 (rfd d_p3) i_p3 j0), ((d_t 0), ai k 20 r_t_kinds_1), ((d_t 1), ai k 20 r_t_longs_2), ((d_t 3), ai k 20 r_t_strengths), ((d_t 4), ai k 20 r_t_wears), ((d_t 5), ai k 20 r_t_pushes), ((d_t 6), ai k 20 r_t_helpers), ((d_p3 6), ai k 18 r_p3_kinds)]) (rest := []) F hA hB (c_Row_openPlace l D k a_t d_t i_t (d_t 2) r_t_weights n1 _  hf) ml_RX8_74 mv_yX8_openPlace [0, 4] [1, 2, 3, 5, 6, 7, 8, 9] rfl rfl (by decide) (by decide) (by decide) 0 rfl rfl rfl hl.1 rfl (Nat.le_of_ble_eq_true rfl) ⟨Nat.le_of_ble_eq_true rfl, Nat.le_of_ble_eq_true rfl⟩ ⟨Nat.le_of_ble_eq_true rfl, Nat.le_of_ble_eq_true rfl⟩ dX8_insert_46 (fun w1 H locs hq hB => ?_)
        obtain ⟨r_t_weights_3, rfl, hf⟩ := hq
        replace hB : Bd D A s.heap (wd_Row_insert k a_t d_t i_t a_p3 d_p3 i_p3 r_t_kinds_1 r_t_longs_2 r_t_weights_3 r_t_strengths r_t_wears r_t_pushes r_t_helpers r_p3_kinds) H locs := hB.sub [8, 0, 1, 2, 9, 3, 4, 5, 6, 7] (by decide) rfl
        refine lv_aload_n hx hb dX8_insert_49 rfl (lv_at hl 0 rfl) ?_
        refine lv_aload_n hx hb dX8_insert_50 rfl (lv_at hl 0 rfl) ?_
        refine g_get (w := .ref (d_t 3)) F hB 0 rfl fl_RX8_21 rfl dX8_insert_51 ?_
        refine lv_iload_n hx hb dX8_insert_54 rfl (lv_at hl 1 rfl) ?_
        refine k_vv (wr := [(a_p3, ob 3 (rfd d_p3) i_p3 j0), ((d_t 0), ai k 20 r_t_kinds_1), ((d_t 1), ai k 20 r_t_longs_2), ((d_t 2), ai k 20 r_t_weights_3), ((d_t 4), ai k 20 r_t_wears), ((d_t 5), ai k 20 r_t_pushes), ((d_t 6), ai k 20 r_t_helpers), ((d_p3 6), ai k 18 r_p3_kinds)]) (rest := []) F hA hB (c_Row_openPlace l D k a_t d_t i_t (d_t 3) r_t_strengths n1 _  hf) ml_RX8_74 mv_yX8_openPlace [0, 5] [1, 2, 3, 4, 6, 7, 8, 9] rfl rfl (by decide) (by decide) (by decide) 0 rfl rfl rfl hl.1 rfl (Nat.le_of_ble_eq_true rfl) ⟨Nat.le_of_ble_eq_true rfl, Nat.le_of_ble_eq_true rfl⟩ ⟨Nat.le_of_ble_eq_true rfl, Nat.le_of_ble_eq_true rfl⟩ dX8_insert_55 (fun w1 H locs hq hB => ?_)
        obtain ⟨r_t_strengths_4, rfl, hf⟩ := hq
        replace hB : Bd D A s.heap (wd_Row_insert k a_t d_t i_t a_p3 d_p3 i_p3 r_t_kinds_1 r_t_longs_2 r_t_weights_3 r_t_strengths_4 r_t_wears r_t_pushes r_t_helpers r_p3_kinds) H locs := hB.sub [8, 0, 1, 2, 3, 9, 4, 5, 6, 7] (by decide) rfl
        refine lv_aload_n hx hb dX8_insert_58 rfl (lv_at hl 0 rfl) ?_
        refine lv_aload_n hx hb dX8_insert_59 rfl (lv_at hl 0 rfl) ?_
        refine g_get (w := .ref (d_t 4)) F hB 0 rfl fl_RX8_24 rfl dX8_insert_60 ?_
        refine lv_iload_n hx hb dX8_insert_63 rfl (lv_at hl 1 rfl) ?_
        refine k_vv (wr := [(a_p3, ob 3 (rfd d_p3) i_p3 j0), ((d_t 0), ai k 20 r_t_kinds_1), ((d_t 1), ai k 20 r_t_longs_2), ((d_t 2), ai k 20 r_t_weights_3), ((d_t 3), ai k 20 r_t_strengths_4), ((d_t 5), ai k 20 r_t_pushes), ((d_t 6), ai k 20 r_t_helpers), ((d_p3 6), ai k 18 r_p3_kinds)]) (rest := []) F hA hB (c_Row_openPlace l D k a_t d_t i_t (d_t 4) r_t_wears n1 _  hf) ml_RX8_74 mv_yX8_openPlace [0, 6] [1, 2, 3, 4, 5, 7, 8, 9] rfl rfl (by decide) (by decide) (by decide) 0 rfl rfl rfl hl.1 rfl (Nat.le_of_ble_eq_true rfl) ⟨Nat.le_of_ble_eq_true rfl, Nat.le_of_ble_eq_true rfl⟩ ⟨Nat.le_of_ble_eq_true rfl, Nat.le_of_ble_eq_true rfl⟩ dX8_insert_64 (fun w1 H locs hq hB => ?_)
        obtain ⟨r_t_wears_5, rfl, hf⟩ := hq
        replace hB : Bd D A s.heap (wd_Row_insert k a_t d_t i_t a_p3 d_p3 i_p3 r_t_kinds_1 r_t_longs_2 r_t_weights_3 r_t_strengths_4 r_t_wears_5 r_t_pushes r_t_helpers r_p3_kinds) H locs := hB.sub [8, 0, 1, 2, 3, 4, 9, 5, 6, 7] (by decide) rfl
        refine lv_aload_n hx hb dX8_insert_67 rfl (lv_at hl 0 rfl) ?_
        refine lv_aload_n hx hb dX8_insert_68 rfl (lv_at hl 0 rfl) ?_
        refine g_get (w := .ref (d_t 5)) F hB 0 rfl fl_RX8_27 rfl dX8_insert_69 ?_
        refine lv_iload_n hx hb dX8_insert_72 rfl (lv_at hl 1 rfl) ?_
        refine k_vv (wr := [(a_p3, ob 3 (rfd d_p3) i_p3 j0), ((d_t 0), ai k 20 r_t_kinds_1), ((d_t 1), ai k 20 r_t_longs_2), ((d_t 2), ai k 20 r_t_weights_3), ((d_t 3), ai k 20 r_t_strengths_4), ((d_t 4), ai k 20 r_t_wears_5), ((d_t 6), ai k 20 r_t_helpers), ((d_p3 6), ai k 18 r_p3_kinds)]) (rest := []) F hA hB (c_Row_openPlace l D k a_t d_t i_t (d_t 5) r_t_pushes n1 _  hf) ml_RX8_74 mv_yX8_openPlace [0, 7] [1, 2, 3, 4, 5, 6, 8, 9] rfl rfl (by decide) (by decide) (by decide) 0 rfl rfl rfl hl.1 rfl (Nat.le_of_ble_eq_true rfl) ⟨Nat.le_of_ble_eq_true rfl, Nat.le_of_ble_eq_true rfl⟩ ⟨Nat.le_of_ble_eq_true rfl, Nat.le_of_ble_eq_true rfl⟩ dX8_insert_73 (fun w1 H locs hq hB => ?_)
        obtain ⟨r_t_pushes_6, rfl, hf⟩ := hq
        replace hB : Bd D A s.heap (wd_Row_insert k a_t d_t i_t a_p3 d_p3 i_p3 r_t_kinds_1 r_t_longs_2 r_t_weights_3 r_t_strengths_4 r_t_wears_5 r_t_pushes_6 r_t_helpers r_p3_kinds) H locs := hB.sub [8, 0, 1, 2, 3, 4, 5, 9, 6, 7] (by decide) rfl
        refine lv_aload_n hx hb dX8_insert_76 rfl (lv_at hl 0 rfl) ?_
        refine lv_aload_n hx hb dX8_insert_77 rfl (lv_at hl 0 rfl) ?_
        refine g_get (w := .ref (d_t 6)) F hB 0 rfl fl_RX8_30 rfl dX8_insert_78 ?_
        refine lv_iload_n hx hb dX8_insert_81 rfl (lv_at hl 1 rfl) ?_
        refine k_vv (wr := [(a_p3, ob 3 (rfd d_p3) i_p3 j0), ((d_t 0), ai k 20 r_t_kinds_1), ((d_t 1), ai k 20 r_t_longs_2), ((d_t 2), ai k 20 r_t_weights_3), ((d_t 3), ai k 20 r_t_strengths_4), ((d_t 4), ai k 20 r_t_wears_5), ((d_t 5), ai k 20 r_t_pushes_6), ((d_p3 6), ai k 18 r_p3_kinds)]) (rest := []) F hA hB (c_Row_openPlace l D k a_t d_t i_t (d_t 6) r_t_helpers n1 _  hf) ml_RX8_74 mv_yX8_openPlace [0, 8] [1, 2, 3, 4, 5, 6, 7, 9] rfl rfl (by decide) (by decide) (by decide) 0 rfl rfl rfl hl.1 rfl (Nat.le_of_ble_eq_true rfl) ⟨Nat.le_of_ble_eq_true rfl, Nat.le_of_ble_eq_true rfl⟩ ⟨Nat.le_of_ble_eq_true rfl, Nat.le_of_ble_eq_true rfl⟩ dX8_insert_82 (fun w1 H locs hq hB => ?_)
        obtain ⟨r_t_helpers_7, rfl, hf⟩ := hq
        replace hB : Bd D A s.heap (wd_Row_insert k a_t d_t i_t a_p3 d_p3 i_p3 r_t_kinds_1 r_t_longs_2 r_t_weights_3 r_t_strengths_4 r_t_wears_5 r_t_pushes_6 r_t_helpers_7 r_p3_kinds) H locs := hB.sub [8, 0, 1, 2, 3, 4, 5, 6, 9, 7] (by decide) rfl
        refine lv_aload_n hx hb dX8_insert_85 rfl (lv_at hl 0 rfl) ?_
        refine g_get (w := .ref (d_t 0)) F hB 0 rfl fl_RX8_9 rfl dX8_insert_86 ?_
        refine lv_iload_n hx hb dX8_insert_89 rfl (lv_at hl 1 rfl) ?_
        refine lv_iload_n hx hb dX8_insert_90 rfl (lv_at hl 2 rfl) ?_
        obtain ⟨h_8, hf⟩ := hf
        refine g_iast F hB 2 rfl h_8 (wd_Row_insert k a_t d_t i_t a_p3 d_p3 i_p3 (upd r_t_kinds_1 (n1).toNatClampNeg n2) r_t_longs_2 r_t_weights_3 r_t_strengths_4 r_t_wears_5 r_t_pushes_6 r_t_helpers_7 r_p3_kinds) rfl dX8_insert_91 (fun H locs hB => ?_)
        refine lv_aload_n hx hb dX8_insert_92 rfl (lv_at hl 0 rfl) ?_
        refine g_get (w := .ref (d_t 1)) F hB 0 rfl fl_RX8_15 rfl dX8_insert_93 ?_
        refine lv_iload_n hx hb dX8_insert_96 rfl (lv_at hl 1 rfl) ?_
        refine lv_aload_n hx hb dX8_insert_97 rfl (lv_at hl 3 rfl) ?_
        refine lv_iload_n hx hb dX8_insert_98 rfl (lv_at hl 2 rfl) ?_
        refine k_vi (wr := [(a_t, ob 8 (rfd d_t) i_t j0), ((d_t 0), ai k 20 (upd r_t_kinds_1 (n1).toNatClampNeg n2)), ((d_t 1), ai k 20 r_t_longs_2), ((d_t 2), ai k 20 r_t_weights_3), ((d_t 3), ai k 20 r_t_strengths_4), ((d_t 4), ai k 20 r_t_wears_5), ((d_t 5), ai k 20 r_t_pushes_6), ((d_t 6), ai k 20 r_t_helpers_7)]) (rest := [.int n1, .ref (d_t 1)]) F hA hB (c_Line_longOf l D k a_p3 d_p3 i_p3 r_p3_kinds n2 _  hf) ml_RX8_78 mv_yX3_longOf [1, 9] [0, 2, 3, 4, 5, 6, 7, 8] rfl rfl (by decide) (by decide) (by decide) 1 rfl rfl rfl hl.1 rfl (Nat.le_of_ble_eq_true rfl) ⟨Nat.le_of_ble_eq_true rfl, Nat.le_of_ble_eq_true rfl⟩ ⟨Nat.le_of_ble_eq_true rfl, Nat.le_of_ble_eq_true rfl⟩ dX8_insert_99 (fun z_9 w1 H locs hq hB => ?_)
        obtain ⟨rfl, hf⟩ := hq
        replace hB : Bd D A s.heap (wd_Row_insert k a_t d_t i_t a_p3 d_p3 i_p3 (upd r_t_kinds_1 (n1).toNatClampNeg n2) r_t_longs_2 r_t_weights_3 r_t_strengths_4 r_t_wears_5 r_t_pushes_6 r_t_helpers_7 r_p3_kinds) H locs := hB.sub [0, 8, 1, 2, 3, 4, 5, 6, 7, 9] (by decide) rfl
        obtain ⟨h_10, hf⟩ := hf
        refine g_iast F hB 3 rfl h_10 (wd_Row_insert k a_t d_t i_t a_p3 d_p3 i_p3 (upd r_t_kinds_1 (n1).toNatClampNeg n2) (upd r_t_longs_2 (n1).toNatClampNeg z_9) r_t_weights_3 r_t_strengths_4 r_t_wears_5 r_t_pushes_6 r_t_helpers_7 r_p3_kinds) rfl dX8_insert_102 (fun H locs hB => ?_)
        refine lv_aload_n hx hb dX8_insert_103 rfl (lv_at hl 0 rfl) ?_
        refine g_get (w := .ref (d_t 2)) F hB 0 rfl fl_RX8_18 rfl dX8_insert_104 ?_
        refine lv_iload_n hx hb dX8_insert_107 rfl (lv_at hl 1 rfl) ?_
        refine lv_aload_n hx hb dX8_insert_108 rfl (lv_at hl 3 rfl) ?_
        refine lv_iload_n hx hb dX8_insert_109 rfl (lv_at hl 2 rfl) ?_
        refine k_vi (wr := [(a_t, ob 8 (rfd d_t) i_t j0), ((d_t 0), ai k 20 (upd r_t_kinds_1 (n1).toNatClampNeg n2)), ((d_t 1), ai k 20 (upd r_t_longs_2 (n1).toNatClampNeg z_9)), ((d_t 2), ai k 20 r_t_weights_3), ((d_t 3), ai k 20 r_t_strengths_4), ((d_t 4), ai k 20 r_t_wears_5), ((d_t 5), ai k 20 r_t_pushes_6), ((d_t 6), ai k 20 r_t_helpers_7)]) (rest := [.int n1, .ref (d_t 2)]) F hA hB (c_Line_weightOf l D k a_p3 d_p3 i_p3 r_p3_kinds n2 _  hf) ml_RX8_81 mv_yX3_weightOf [1, 9] [0, 2, 3, 4, 5, 6, 7, 8] rfl rfl (by decide) (by decide) (by decide) 1 rfl rfl rfl hl.1 rfl (Nat.le_of_ble_eq_true rfl) ⟨Nat.le_of_ble_eq_true rfl, Nat.le_of_ble_eq_true rfl⟩ ⟨Nat.le_of_ble_eq_true rfl, Nat.le_of_ble_eq_true rfl⟩ dX8_insert_110 (fun z_11 w1 H locs hq hB => ?_)
        obtain ⟨rfl, hf⟩ := hq
        replace hB : Bd D A s.heap (wd_Row_insert k a_t d_t i_t a_p3 d_p3 i_p3 (upd r_t_kinds_1 (n1).toNatClampNeg n2) (upd r_t_longs_2 (n1).toNatClampNeg z_9) r_t_weights_3 r_t_strengths_4 r_t_wears_5 r_t_pushes_6 r_t_helpers_7 r_p3_kinds) H locs := hB.sub [0, 8, 1, 2, 3, 4, 5, 6, 7, 9] (by decide) rfl
        obtain ⟨h_12, hf⟩ := hf
        refine g_iast F hB 4 rfl h_12 (wd_Row_insert k a_t d_t i_t a_p3 d_p3 i_p3 (upd r_t_kinds_1 (n1).toNatClampNeg n2) (upd r_t_longs_2 (n1).toNatClampNeg z_9) (upd r_t_weights_3 (n1).toNatClampNeg z_11) r_t_strengths_4 r_t_wears_5 r_t_pushes_6 r_t_helpers_7 r_p3_kinds) rfl dX8_insert_113 (fun H locs hB => ?_)
        refine lv_aload_n hx hb dX8_insert_114 rfl (lv_at hl 0 rfl) ?_
        refine g_get (w := .ref (d_t 3)) F hB 0 rfl fl_RX8_21 rfl dX8_insert_115 ?_
        refine lv_iload_n hx hb dX8_insert_118 rfl (lv_at hl 1 rfl) ?_
        refine lv_aload_n hx hb dX8_insert_119 rfl (lv_at hl 3 rfl) ?_
        refine lv_iload_n hx hb dX8_insert_120 rfl (lv_at hl 2 rfl) ?_
        refine k_vi (wr := [(a_t, ob 8 (rfd d_t) i_t j0), ((d_t 0), ai k 20 (upd r_t_kinds_1 (n1).toNatClampNeg n2)), ((d_t 1), ai k 20 (upd r_t_longs_2 (n1).toNatClampNeg z_9)), ((d_t 2), ai k 20 (upd r_t_weights_3 (n1).toNatClampNeg z_11)), ((d_t 3), ai k 20 r_t_strengths_4), ((d_t 4), ai k 20 r_t_wears_5), ((d_t 5), ai k 20 r_t_pushes_6), ((d_t 6), ai k 20 r_t_helpers_7)]) (rest := [.int n1, .ref (d_t 3)]) F hA hB (c_Line_strengthOf l D k a_p3 d_p3 i_p3 r_p3_kinds n2 _  hf) ml_RX8_84 mv_yX3_strengthOf [1, 9] [0, 2, 3, 4, 5, 6, 7, 8] rfl rfl (by decide) (by decide) (by decide) 1 rfl rfl rfl hl.1 rfl (Nat.le_of_ble_eq_true rfl) ⟨Nat.le_of_ble_eq_true rfl, Nat.le_of_ble_eq_true rfl⟩ ⟨Nat.le_of_ble_eq_true rfl, Nat.le_of_ble_eq_true rfl⟩ dX8_insert_121 (fun z_13 w1 H locs hq hB => ?_)
        obtain ⟨rfl, hf⟩ := hq
        replace hB : Bd D A s.heap (wd_Row_insert k a_t d_t i_t a_p3 d_p3 i_p3 (upd r_t_kinds_1 (n1).toNatClampNeg n2) (upd r_t_longs_2 (n1).toNatClampNeg z_9) (upd r_t_weights_3 (n1).toNatClampNeg z_11) r_t_strengths_4 r_t_wears_5 r_t_pushes_6 r_t_helpers_7 r_p3_kinds) H locs := hB.sub [0, 8, 1, 2, 3, 4, 5, 6, 7, 9] (by decide) rfl
        obtain ⟨h_14, hf⟩ := hf
        refine g_iast F hB 5 rfl h_14 (wd_Row_insert k a_t d_t i_t a_p3 d_p3 i_p3 (upd r_t_kinds_1 (n1).toNatClampNeg n2) (upd r_t_longs_2 (n1).toNatClampNeg z_9) (upd r_t_weights_3 (n1).toNatClampNeg z_11) (upd r_t_strengths_4 (n1).toNatClampNeg z_13) r_t_wears_5 r_t_pushes_6 r_t_helpers_7 r_p3_kinds) rfl dX8_insert_124 (fun H locs hB => ?_)
        refine lv_aload_n hx hb dX8_insert_125 rfl (lv_at hl 0 rfl) ?_
        refine lv_dup hx hb dX8_insert_126 rfl ?_
        refine g_get (w := .int (i_t 8)) F hB 0 rfl fl_RX8_36 rfl dX8_insert_127 ?_
        refine lv_iconst (v := 1) hx hb dX8_insert_130 (by decide) ?_
        refine lv_iadd hx hb dX8_insert_131 ?_
        refine g_puti F hB 0 rfl fl_RX8_36 rfl (wd_Row_insert k a_t d_t (upd i_t 8 ((i_t 8) + (1 : Int32))) a_p3 d_p3 i_p3 (upd r_t_kinds_1 (n1).toNatClampNeg n2) (upd r_t_longs_2 (n1).toNatClampNeg z_9) (upd r_t_weights_3 (n1).toNatClampNeg z_11) (upd r_t_strengths_4 (n1).toNatClampNeg z_13) r_t_wears_5 r_t_pushes_6 r_t_helpers_7 r_p3_kinds) rfl dX8_insert_132 (fun H locs hB => ?_)
        refine lv_aload_n hx hb dX8_insert_135 rfl (lv_at hl 0 rfl) ?_
        refine lv_dup hx hb dX8_insert_136 rfl ?_
        refine g_get (w := .int ((upd i_t 8 ((i_t 8) + (1 : Int32))) 9)) F hB 0 rfl fl_RX8_40 rfl dX8_insert_137 ?_
        refine lv_aload_n hx hb dX8_insert_140 rfl (lv_at hl 0 rfl) ?_
        refine g_get (w := .ref (d_t 1)) F hB 0 rfl fl_RX8_15 rfl dX8_insert_141 ?_
        refine lv_iload_n hx hb dX8_insert_144 rfl (lv_at hl 1 rfl) ?_
        obtain ⟨h_15, hf⟩ := hf
        refine g_iald F hB 3 rfl h_15 dX8_insert_145 ?_
        refine lv_iadd hx hb dX8_insert_146 ?_
        refine g_puti F hB 0 rfl fl_RX8_40 rfl (wd_Row_insert k a_t d_t (upd (upd i_t 8 ((i_t 8) + (1 : Int32))) 9 (((upd i_t 8 ((i_t 8) + (1 : Int32))) 9) + ((upd r_t_longs_2 (n1).toNatClampNeg z_9) (n1).toNatClampNeg))) a_p3 d_p3 i_p3 (upd r_t_kinds_1 (n1).toNatClampNeg n2) (upd r_t_longs_2 (n1).toNatClampNeg z_9) (upd r_t_weights_3 (n1).toNatClampNeg z_11) (upd r_t_strengths_4 (n1).toNatClampNeg z_13) r_t_wears_5 r_t_pushes_6 r_t_helpers_7 r_p3_kinds) rfl dX8_insert_147 (fun H locs hB => ?_)
        exact r_v F hr hlk hB ⟨_, _, _, _, _, _, _, _, rfl, hf⟩ dX8_insert_150
      · replace hf := hf.2 c_16
        exact r_v F hr hlk hB ⟨_, _, _, _, _, _, _, _, rfl, hf⟩ dX8_insert_21

/-! LongTrain.Row.begin -/
set_option maxRecDepth 100000 in
set_option maxHeartbeats 4000000 in
theorem bt_Row_begin_20 {p : Program} {l : Launch} {e : Env} {s : State} {m : MethodId} {below : List Frame} {meth : Method} {c : Code} {A : Nat → Prop} {D : va_G} {k : Nat → ClassId} {a_t : Nat} {d_t : Nat → Nat} {a_p1 : Nat} {d_p1 : Nat → Nat} {i_p1 : Nat → Int32} {r_p1_halts : Nat → Int32} {r_p1_first : Nat → Int32} {r_t_kinds : Nat → Int32} {r_t_longs : Nat → Int32} {r_t_weights : Nat → Int32} {r_t_strengths : Nat → Int32} {r_t_wears : Nat → Int32} {r_t_pushes : Nat → Int32} {r_t_helpers : Nat → Int32} {r_p1_kinds : Nat → Int32}  {Q : (Nat → Int32) → (Nat → Int32) → (Nat → Int32) → (Nat → Int32) → (Nat → Int32) → (Nat → Int32) → (Nat → Int32) → (Nat → Int32) → Prop}  {kx_20 : (Nat → Int32) → Prop} {kr_20 : (Nat → Int32) → Prop} (F : Fx p m c cX8_begin 3 s ([.ref a_t, .ref a_p1] : List Value).toArray RX8 D k) (hr : meth.sig.returnType = none) (hlk : meth.locks = false) (hA : ∀ q : Nat, s.heap.size ≤ q → A q) (hkx_20 : ∀ (i_t : Nat → Int32) (H : Heap) (locs : List Loc) (ls : Array Slot), kx_20 i_t → Bd D A s.heap (wd_Row_begin k a_t d_t i_t a_p1 d_p1 i_p1 r_p1_halts r_p1_first r_t_kinds r_t_longs r_t_weights r_t_strengths r_t_wears r_t_pushes r_t_helpers r_p1_kinds) H locs → lv_has ls 3 [(0, .ref a_t), (1, .ref a_p1)] → W p l e { frames := 2, cells := 0, slots := 0, locals := 46 } s m ([.ref a_t, .ref a_p1] : List Value).toArray below meth c H locs 0 0 (Ev below (fun w => ∃ (i_t : Nat → Int32), ∃ (r_t_kinds : Nat → Int32), ∃ (r_t_longs : Nat → Int32), ∃ (r_t_weights : Nat → Int32), ∃ (r_t_strengths : Nat → Int32), ∃ (r_t_wears : Nat → Int32), ∃ (r_t_pushes : Nat → Int32), ∃ (r_t_helpers : Nat → Int32), w = (wd_Row_begin k a_t d_t i_t a_p1 d_p1 i_p1 r_p1_halts r_p1_first r_t_kinds r_t_longs r_t_weights r_t_strengths r_t_wears r_t_pushes r_t_helpers r_p1_kinds) ∧ Q i_t r_t_kinds r_t_longs r_t_weights r_t_strengths r_t_wears r_t_pushes r_t_helpers) D k A ([.ref a_t, .ref a_p1] : List Value).toArray s 0 0) (F0 m 55 ls [])) (hkr_20 : ∀ (i_t : Nat → Int32) (H : Heap) (locs : List Loc) (ls : Array Slot), kr_20 i_t → Bd D A s.heap (wd_Row_begin k a_t d_t i_t a_p1 d_p1 i_p1 r_p1_halts r_p1_first r_t_kinds r_t_longs r_t_weights r_t_strengths r_t_wears r_t_pushes r_t_helpers r_p1_kinds) H locs → lv_has ls 3 [(0, .ref a_t), (1, .ref a_p1)] → W p l e { frames := 2, cells := 0, slots := 0, locals := 46 } s m ([.ref a_t, .ref a_p1] : List Value).toArray below meth c H locs 0 0 (Ev below (fun w => ∃ (i_t : Nat → Int32), ∃ (r_t_kinds : Nat → Int32), ∃ (r_t_longs : Nat → Int32), ∃ (r_t_weights : Nat → Int32), ∃ (r_t_strengths : Nat → Int32), ∃ (r_t_wears : Nat → Int32), ∃ (r_t_pushes : Nat → Int32), ∃ (r_t_helpers : Nat → Int32), w = (wd_Row_begin k a_t d_t i_t a_p1 d_p1 i_p1 r_p1_halts r_p1_first r_t_kinds r_t_longs r_t_weights r_t_strengths r_t_wears r_t_pushes r_t_helpers r_p1_kinds) ∧ Q i_t r_t_kinds r_t_longs r_t_weights r_t_strengths r_t_wears r_t_pushes r_t_helpers) D k A ([.ref a_t, .ref a_p1] : List Value).toArray s 0 0) (F0 m 20 ls [])) :
    ∀ (i_t : Nat → Int32) (H : Heap) (locs : List Loc) (ls : Array Slot), b_Row_begin_20 i_p1 r_p1_halts kx_20 kr_20 i_t → Bd D A s.heap (wd_Row_begin k a_t d_t i_t a_p1 d_p1 i_p1 r_p1_halts r_p1_first r_t_kinds r_t_longs r_t_weights r_t_strengths r_t_wears r_t_pushes r_t_helpers r_p1_kinds) H locs → lv_has ls 3 [(0, .ref a_t), (1, .ref a_p1)] → W p l e { frames := 2, cells := 0, slots := 0, locals := 46 } s m ([.ref a_t, .ref a_p1] : List Value).toArray below meth c H locs 0 0 (Ev below (fun w => ∃ (i_t : Nat → Int32), ∃ (r_t_kinds : Nat → Int32), ∃ (r_t_longs : Nat → Int32), ∃ (r_t_weights : Nat → Int32), ∃ (r_t_strengths : Nat → Int32), ∃ (r_t_wears : Nat → Int32), ∃ (r_t_pushes : Nat → Int32), ∃ (r_t_helpers : Nat → Int32), w = (wd_Row_begin k a_t d_t i_t a_p1 d_p1 i_p1 r_p1_halts r_p1_first r_t_kinds r_t_longs r_t_weights r_t_strengths r_t_wears r_t_pushes r_t_helpers r_p1_kinds) ∧ Q i_t r_t_kinds r_t_longs r_t_weights r_t_strengths r_t_wears r_t_pushes r_t_helpers) D k A ([.ref a_t, .ref a_p1] : List Value).toArray s 0 0) (F0 m 20 ls []) := by
  have hx := F.x
  have hb := F.b
  intro i_t H locs ls hf hB hl
  unfold b_Row_begin_20 at hf
  refine lv_aload_n hx hb dX8_begin_20 rfl (lv_at hl 0 rfl) ?_
  refine g_get (w := .int (i_t 11)) F hB 0 rfl fl_RX8_46 rfl dX8_begin_21 ?_
  refine lv_aload_n hx hb dX8_begin_24 rfl (lv_at hl 1 rfl) ?_
  refine g_get (w := .int (i_p1 3)) F hB 1 rfl fl_RX8_49 rfl dX8_begin_25 ?_
  refine lv_icmp_ge (tgt := 55) hx hb dX8_begin_28 (by decide) (fun c_3 => ?_) (fun c_3 => ?_)
  · replace hf := hf.1 c_3
    exact hkx_20 _ _ _ _ hf hB (lv_sub hl [0, 1] rfl)
  · replace hf := hf.2 c_3
    refine lv_aload_n hx hb dX8_begin_31 rfl (lv_at hl 1 rfl) ?_
    refine lv_aload_n hx hb dX8_begin_32 rfl (lv_at hl 0 rfl) ?_
    refine g_get (w := .int (i_t 11)) F hB 0 rfl fl_RX8_46 rfl dX8_begin_33 ?_
    refine k_vi (wr := [(a_t, ob 8 (rfd d_t) i_t j0), ((d_p1 8), ai k 8 r_p1_first), ((d_t 0), ai k 20 r_t_kinds), ((d_t 1), ai k 20 r_t_longs), ((d_t 2), ai k 20 r_t_weights), ((d_t 3), ai k 20 r_t_strengths), ((d_t 4), ai k 20 r_t_wears), ((d_t 5), ai k 20 r_t_pushes), ((d_t 6), ai k 20 r_t_helpers), ((d_p1 6), ai k 18 r_p1_kinds)]) (rest := []) F hA hB (c_Line_haltAt l D k a_p1 d_p1 i_p1 r_p1_halts (i_t 11) _  hf) ml_RX8_54 mv_yX3_haltAt [1, 2] [0, 3, 4, 5, 6, 7, 8, 9, 10, 11] rfl rfl (by decide) (by decide) (by decide) 1 rfl rfl rfl hl.1 rfl (Nat.le_of_ble_eq_true rfl) ⟨Nat.le_of_ble_eq_true rfl, Nat.le_of_ble_eq_true rfl⟩ ⟨Nat.le_of_ble_eq_true rfl, Nat.le_of_ble_eq_true rfl⟩ dX8_begin_36 (fun z_1 w1 H locs hq hB => ?_)
    obtain ⟨rfl, hf⟩ := hq
    replace hB : Bd D A s.heap (wd_Row_begin k a_t d_t i_t a_p1 d_p1 i_p1 r_p1_halts r_p1_first r_t_kinds r_t_longs r_t_weights r_t_strengths r_t_wears r_t_pushes r_t_helpers r_p1_kinds) H locs := hB.sub [0, 10, 11, 1, 2, 3, 4, 5, 6, 7, 8, 9] (by decide) rfl
    refine lv_if_gt (tgt := 55) hx hb dX8_begin_39 (by decide) (fun c_2 => ?_) (fun c_2 => ?_)
    · replace hf := hf.1 c_2
      exact hkx_20 _ _ _ _ hf hB (lv_sub hl [0, 1] rfl)
    · replace hf := hf.2 c_2
      refine lv_aload_n hx hb dX8_begin_42 rfl (lv_at hl 0 rfl) ?_
      refine lv_dup hx hb dX8_begin_43 rfl ?_
      refine g_get (w := .int (i_t 11)) F hB 0 rfl fl_RX8_46 rfl dX8_begin_44 ?_
      refine lv_iconst (v := 1) hx hb dX8_begin_47 (by decide) ?_
      refine lv_iadd hx hb dX8_begin_48 ?_
      refine g_puti F hB 0 rfl fl_RX8_46 rfl (wd_Row_begin k a_t d_t (upd i_t 11 ((i_t 11) + (1 : Int32))) a_p1 d_p1 i_p1 r_p1_halts r_p1_first r_t_kinds r_t_longs r_t_weights r_t_strengths r_t_wears r_t_pushes r_t_helpers r_p1_kinds) rfl dX8_begin_49 (fun H locs hB => ?_)
      refine lv_goto (tgt := 20) hx hb dX8_begin_52 (by decide) ?_
      exact hkr_20 _ _ _ _ hf hB (lv_sub hl [0, 1] rfl)

set_option maxRecDepth 100000 in
set_option maxHeartbeats 4000000 in
theorem lt_Row_begin_20 {p : Program} {l : Launch} {e : Env} {s : State} {m : MethodId} {below : List Frame} {meth : Method} {c : Code} {A : Nat → Prop} {D : va_G} {k : Nat → ClassId} {a_t : Nat} {d_t : Nat → Nat} {a_p1 : Nat} {d_p1 : Nat → Nat} {i_p1 : Nat → Int32} {r_p1_halts : Nat → Int32} {r_p1_first : Nat → Int32} {r_t_kinds : Nat → Int32} {r_t_longs : Nat → Int32} {r_t_weights : Nat → Int32} {r_t_strengths : Nat → Int32} {r_t_wears : Nat → Int32} {r_t_pushes : Nat → Int32} {r_t_helpers : Nat → Int32} {r_p1_kinds : Nat → Int32}  {Q : (Nat → Int32) → (Nat → Int32) → (Nat → Int32) → (Nat → Int32) → (Nat → Int32) → (Nat → Int32) → (Nat → Int32) → (Nat → Int32) → Prop}  {kx_20 : (Nat → Int32) → Prop} (F : Fx p m c cX8_begin 3 s ([.ref a_t, .ref a_p1] : List Value).toArray RX8 D k) (hr : meth.sig.returnType = none) (hlk : meth.locks = false) (hA : ∀ q : Nat, s.heap.size ≤ q → A q) (hkx_20 : ∀ (i_t : Nat → Int32) (H : Heap) (locs : List Loc) (ls : Array Slot), kx_20 i_t → Bd D A s.heap (wd_Row_begin k a_t d_t i_t a_p1 d_p1 i_p1 r_p1_halts r_p1_first r_t_kinds r_t_longs r_t_weights r_t_strengths r_t_wears r_t_pushes r_t_helpers r_p1_kinds) H locs → lv_has ls 3 [(0, .ref a_t), (1, .ref a_p1)] → W p l e { frames := 2, cells := 0, slots := 0, locals := 46 } s m ([.ref a_t, .ref a_p1] : List Value).toArray below meth c H locs 0 0 (Ev below (fun w => ∃ (i_t : Nat → Int32), ∃ (r_t_kinds : Nat → Int32), ∃ (r_t_longs : Nat → Int32), ∃ (r_t_weights : Nat → Int32), ∃ (r_t_strengths : Nat → Int32), ∃ (r_t_wears : Nat → Int32), ∃ (r_t_pushes : Nat → Int32), ∃ (r_t_helpers : Nat → Int32), w = (wd_Row_begin k a_t d_t i_t a_p1 d_p1 i_p1 r_p1_halts r_p1_first r_t_kinds r_t_longs r_t_weights r_t_strengths r_t_wears r_t_pushes r_t_helpers r_p1_kinds) ∧ Q i_t r_t_kinds r_t_longs r_t_weights r_t_strengths r_t_wears r_t_pushes r_t_helpers) D k A ([.ref a_t, .ref a_p1] : List Value).toArray s 0 0) (F0 m 55 ls [])) :
    ∀ n : Nat, ∀ (i_t : Nat → Int32) (H : Heap) (locs : List Loc) (ls : Array Slot), lp_Row_begin_20 i_p1 r_p1_halts kx_20 n i_t → Bd D A s.heap (wd_Row_begin k a_t d_t i_t a_p1 d_p1 i_p1 r_p1_halts r_p1_first r_t_kinds r_t_longs r_t_weights r_t_strengths r_t_wears r_t_pushes r_t_helpers r_p1_kinds) H locs → lv_has ls 3 [(0, .ref a_t), (1, .ref a_p1)] → W p l e { frames := 2, cells := 0, slots := 0, locals := 46 } s m ([.ref a_t, .ref a_p1] : List Value).toArray below meth c H locs 0 0 (Ev below (fun w => ∃ (i_t : Nat → Int32), ∃ (r_t_kinds : Nat → Int32), ∃ (r_t_longs : Nat → Int32), ∃ (r_t_weights : Nat → Int32), ∃ (r_t_strengths : Nat → Int32), ∃ (r_t_wears : Nat → Int32), ∃ (r_t_pushes : Nat → Int32), ∃ (r_t_helpers : Nat → Int32), w = (wd_Row_begin k a_t d_t i_t a_p1 d_p1 i_p1 r_p1_halts r_p1_first r_t_kinds r_t_longs r_t_weights r_t_strengths r_t_wears r_t_pushes r_t_helpers r_p1_kinds) ∧ Q i_t r_t_kinds r_t_longs r_t_weights r_t_strengths r_t_wears r_t_pushes r_t_helpers) D k A ([.ref a_t, .ref a_p1] : List Value).toArray s 0 0) (F0 m 20 ls []) := by
  intro n
  induction n with
  | zero => intro i_t H locs ls hf; exact absurd hf (fun h => h)
  | succ n ih => exact bt_Row_begin_20 F hr hlk hA hkx_20 ih

set_option maxRecDepth 100000 in
set_option maxHeartbeats 4000000 in
theorem bt_Row_begin_57 {p : Program} {l : Launch} {e : Env} {s : State} {m : MethodId} {below : List Frame} {meth : Method} {c : Code} {A : Nat → Prop} {D : va_G} {k : Nat → ClassId} {a_t : Nat} {d_t : Nat → Nat} {a_p1 : Nat} {d_p1 : Nat → Nat} {i_p1 : Nat → Int32} {r_p1_halts : Nat → Int32} {r_p1_first : Nat → Int32} {r_p1_kinds : Nat → Int32}  {Q : (Nat → Int32) → (Nat → Int32) → (Nat → Int32) → (Nat → Int32) → (Nat → Int32) → (Nat → Int32) → (Nat → Int32) → (Nat → Int32) → Prop}  {kx_57 : (Nat → Int32) → (Nat → Int32) → (Nat → Int32) → (Nat → Int32) → (Nat → Int32) → (Nat → Int32) → (Nat → Int32) → (Nat → Int32) → Prop} {kr_57 : (Int32) → (Nat → Int32) → (Nat → Int32) → (Nat → Int32) → (Nat → Int32) → (Nat → Int32) → (Nat → Int32) → (Nat → Int32) → (Nat → Int32) → Prop} (F : Fx p m c cX8_begin 3 s ([.ref a_t, .ref a_p1] : List Value).toArray RX8 D k) (hr : meth.sig.returnType = none) (hlk : meth.locks = false) (hA : ∀ q : Nat, s.heap.size ≤ q → A q) (hkx_57 : ∀ (i_t : Nat → Int32) (r_t_kinds : Nat → Int32) (r_t_longs : Nat → Int32) (r_t_weights : Nat → Int32) (r_t_strengths : Nat → Int32) (r_t_wears : Nat → Int32) (r_t_pushes : Nat → Int32) (r_t_helpers : Nat → Int32) (H : Heap) (locs : List Loc) (ls : Array Slot), kx_57 i_t r_t_kinds r_t_longs r_t_weights r_t_strengths r_t_wears r_t_pushes r_t_helpers → Bd D A s.heap (wd_Row_begin k a_t d_t i_t a_p1 d_p1 i_p1 r_p1_halts r_p1_first r_t_kinds r_t_longs r_t_weights r_t_strengths r_t_wears r_t_pushes r_t_helpers r_p1_kinds) H locs → lv_has ls 3 [] → W p l e { frames := 2, cells := 0, slots := 0, locals := 46 } s m ([.ref a_t, .ref a_p1] : List Value).toArray below meth c H locs 0 0 (Ev below (fun w => ∃ (i_t : Nat → Int32), ∃ (r_t_kinds : Nat → Int32), ∃ (r_t_longs : Nat → Int32), ∃ (r_t_weights : Nat → Int32), ∃ (r_t_strengths : Nat → Int32), ∃ (r_t_wears : Nat → Int32), ∃ (r_t_pushes : Nat → Int32), ∃ (r_t_helpers : Nat → Int32), w = (wd_Row_begin k a_t d_t i_t a_p1 d_p1 i_p1 r_p1_halts r_p1_first r_t_kinds r_t_longs r_t_weights r_t_strengths r_t_wears r_t_pushes r_t_helpers r_p1_kinds) ∧ Q i_t r_t_kinds r_t_longs r_t_weights r_t_strengths r_t_wears r_t_pushes r_t_helpers) D k A ([.ref a_t, .ref a_p1] : List Value).toArray s 0 0) (F0 m 83 ls [])) (hkr_57 : ∀ (x2 : Int32) (i_t : Nat → Int32) (r_t_kinds : Nat → Int32) (r_t_longs : Nat → Int32) (r_t_weights : Nat → Int32) (r_t_strengths : Nat → Int32) (r_t_wears : Nat → Int32) (r_t_pushes : Nat → Int32) (r_t_helpers : Nat → Int32) (H : Heap) (locs : List Loc) (ls : Array Slot), kr_57 x2 i_t r_t_kinds r_t_longs r_t_weights r_t_strengths r_t_wears r_t_pushes r_t_helpers → Bd D A s.heap (wd_Row_begin k a_t d_t i_t a_p1 d_p1 i_p1 r_p1_halts r_p1_first r_t_kinds r_t_longs r_t_weights r_t_strengths r_t_wears r_t_pushes r_t_helpers r_p1_kinds) H locs → lv_has ls 3 [(0, .ref a_t), (1, .ref a_p1), (2, .int x2)] → W p l e { frames := 2, cells := 0, slots := 0, locals := 46 } s m ([.ref a_t, .ref a_p1] : List Value).toArray below meth c H locs 0 0 (Ev below (fun w => ∃ (i_t : Nat → Int32), ∃ (r_t_kinds : Nat → Int32), ∃ (r_t_longs : Nat → Int32), ∃ (r_t_weights : Nat → Int32), ∃ (r_t_strengths : Nat → Int32), ∃ (r_t_wears : Nat → Int32), ∃ (r_t_pushes : Nat → Int32), ∃ (r_t_helpers : Nat → Int32), w = (wd_Row_begin k a_t d_t i_t a_p1 d_p1 i_p1 r_p1_halts r_p1_first r_t_kinds r_t_longs r_t_weights r_t_strengths r_t_wears r_t_pushes r_t_helpers r_p1_kinds) ∧ Q i_t r_t_kinds r_t_longs r_t_weights r_t_strengths r_t_wears r_t_pushes r_t_helpers) D k A ([.ref a_t, .ref a_p1] : List Value).toArray s 0 0) (F0 m 57 ls [])) :
    ∀ (x2 : Int32) (i_t : Nat → Int32) (r_t_kinds : Nat → Int32) (r_t_longs : Nat → Int32) (r_t_weights : Nat → Int32) (r_t_strengths : Nat → Int32) (r_t_wears : Nat → Int32) (r_t_pushes : Nat → Int32) (r_t_helpers : Nat → Int32) (H : Heap) (locs : List Loc) (ls : Array Slot), b_Row_begin_57 i_p1 r_p1_first r_p1_kinds kx_57 kr_57 x2 i_t r_t_kinds r_t_longs r_t_weights r_t_strengths r_t_wears r_t_pushes r_t_helpers → Bd D A s.heap (wd_Row_begin k a_t d_t i_t a_p1 d_p1 i_p1 r_p1_halts r_p1_first r_t_kinds r_t_longs r_t_weights r_t_strengths r_t_wears r_t_pushes r_t_helpers r_p1_kinds) H locs → lv_has ls 3 [(0, .ref a_t), (1, .ref a_p1), (2, .int x2)] → W p l e { frames := 2, cells := 0, slots := 0, locals := 46 } s m ([.ref a_t, .ref a_p1] : List Value).toArray below meth c H locs 0 0 (Ev below (fun w => ∃ (i_t : Nat → Int32), ∃ (r_t_kinds : Nat → Int32), ∃ (r_t_longs : Nat → Int32), ∃ (r_t_weights : Nat → Int32), ∃ (r_t_strengths : Nat → Int32), ∃ (r_t_wears : Nat → Int32), ∃ (r_t_pushes : Nat → Int32), ∃ (r_t_helpers : Nat → Int32), w = (wd_Row_begin k a_t d_t i_t a_p1 d_p1 i_p1 r_p1_halts r_p1_first r_t_kinds r_t_longs r_t_weights r_t_strengths r_t_wears r_t_pushes r_t_helpers r_p1_kinds) ∧ Q i_t r_t_kinds r_t_longs r_t_weights r_t_strengths r_t_wears r_t_pushes r_t_helpers) D k A ([.ref a_t, .ref a_p1] : List Value).toArray s 0 0) (F0 m 57 ls []) := by
  have hx := F.x
  have hb := F.b
  intro x2 i_t r_t_kinds r_t_longs r_t_weights r_t_strengths r_t_wears r_t_pushes r_t_helpers H locs ls hf hB hl
  unfold b_Row_begin_57 at hf
  refine lv_iload_n hx hb dX8_begin_57 rfl (lv_at hl 2 rfl) ?_
  refine lv_aload_n hx hb dX8_begin_58 rfl (lv_at hl 1 rfl) ?_
  refine g_get (w := .int (i_p1 9)) F hB 1 rfl fl_RX8_58 rfl dX8_begin_59 ?_
  refine lv_icmp_ge (tgt := 83) hx hb dX8_begin_62 (by decide) (fun c_14 => ?_) (fun c_14 => ?_)
  · replace hf := hf.1 c_14
    exact hkx_57 _ _ _ _ _ _ _ _ _ _ _ hf hB (lv_sub hl [] rfl)
  · replace hf := hf.2 c_14
    refine lv_aload_n hx hb dX8_begin_65 rfl (lv_at hl 0 rfl) ?_
    refine lv_iload_n hx hb dX8_begin_66 rfl (lv_at hl 2 rfl) ?_
    refine lv_aload_n hx hb dX8_begin_67 rfl (lv_at hl 1 rfl) ?_
    refine g_get (w := .ref (d_p1 8)) F hB 1 rfl fl_RX8_61 rfl dX8_begin_68 ?_
    refine lv_iload_n hx hb dX8_begin_71 rfl (lv_at hl 2 rfl) ?_
    obtain ⟨h_5, hf⟩ := hf
    refine g_iald F hB 3 rfl h_5 dX8_begin_72 ?_
    refine lv_aload_n hx hb dX8_begin_73 rfl (lv_at hl 1 rfl) ?_
    refine k_vv (wr := [((d_p1 2), ai k 30 r_p1_halts), ((d_p1 8), ai k 8 r_p1_first)]) (rest := []) F hA hB (c_Row_insert l D k a_t d_t i_t a_p1 d_p1 i_p1 r_t_kinds r_t_longs r_t_weights r_t_strengths r_t_wears r_t_pushes r_t_helpers r_p1_kinds x2 (r_p1_first (x2).toNatClampNeg) _  hf) ml_RX8_64 mv_yX8_insert [0, 1, 4, 5, 6, 7, 8, 9, 10, 11] [2, 3] rfl rfl (by decide) (by decide) (by decide) 0 rfl rfl rfl hl.1 rfl (Nat.le_of_ble_eq_true rfl) ⟨Nat.le_of_ble_eq_true rfl, Nat.le_of_ble_eq_true rfl⟩ ⟨Nat.le_of_ble_eq_true rfl, Nat.le_of_ble_eq_true rfl⟩ dX8_begin_74 (fun w1 H locs hq hB => ?_)
    obtain ⟨i_t_6, r_t_kinds_7, r_t_longs_8, r_t_weights_9, r_t_strengths_10, r_t_wears_11, r_t_pushes_12, r_t_helpers_13, rfl, hf⟩ := hq
    replace hB : Bd D A s.heap (wd_Row_begin k a_t d_t i_t_6 a_p1 d_p1 i_p1 r_p1_halts r_p1_first r_t_kinds_7 r_t_longs_8 r_t_weights_9 r_t_strengths_10 r_t_wears_11 r_t_pushes_12 r_t_helpers_13 r_p1_kinds) H locs := hB.sub [2, 3, 0, 1, 4, 5, 6, 7, 8, 9, 10, 11] (by decide) rfl
    refine lv_iinc (v := (x2 + 1)) (lv' := [(2, .int (x2 + 1)), (0, .ref a_t), (1, .ref a_p1)]) (k := 2) hx hb dX8_begin_77 hl rfl rfl (by decide) rfl (fun ls hl => ?_)
    refine lv_goto (tgt := 57) hx hb dX8_begin_80 (by decide) ?_
    exact hkr_57 _ _ _ _ _ _ _ _ _ _ _ _ hf hB (lv_sub hl [1, 2, 0] rfl)

set_option maxRecDepth 100000 in
set_option maxHeartbeats 4000000 in
theorem lt_Row_begin_57 {p : Program} {l : Launch} {e : Env} {s : State} {m : MethodId} {below : List Frame} {meth : Method} {c : Code} {A : Nat → Prop} {D : va_G} {k : Nat → ClassId} {a_t : Nat} {d_t : Nat → Nat} {a_p1 : Nat} {d_p1 : Nat → Nat} {i_p1 : Nat → Int32} {r_p1_halts : Nat → Int32} {r_p1_first : Nat → Int32} {r_p1_kinds : Nat → Int32}  {Q : (Nat → Int32) → (Nat → Int32) → (Nat → Int32) → (Nat → Int32) → (Nat → Int32) → (Nat → Int32) → (Nat → Int32) → (Nat → Int32) → Prop}  {kx_57 : (Nat → Int32) → (Nat → Int32) → (Nat → Int32) → (Nat → Int32) → (Nat → Int32) → (Nat → Int32) → (Nat → Int32) → (Nat → Int32) → Prop} (F : Fx p m c cX8_begin 3 s ([.ref a_t, .ref a_p1] : List Value).toArray RX8 D k) (hr : meth.sig.returnType = none) (hlk : meth.locks = false) (hA : ∀ q : Nat, s.heap.size ≤ q → A q) (hkx_57 : ∀ (i_t : Nat → Int32) (r_t_kinds : Nat → Int32) (r_t_longs : Nat → Int32) (r_t_weights : Nat → Int32) (r_t_strengths : Nat → Int32) (r_t_wears : Nat → Int32) (r_t_pushes : Nat → Int32) (r_t_helpers : Nat → Int32) (H : Heap) (locs : List Loc) (ls : Array Slot), kx_57 i_t r_t_kinds r_t_longs r_t_weights r_t_strengths r_t_wears r_t_pushes r_t_helpers → Bd D A s.heap (wd_Row_begin k a_t d_t i_t a_p1 d_p1 i_p1 r_p1_halts r_p1_first r_t_kinds r_t_longs r_t_weights r_t_strengths r_t_wears r_t_pushes r_t_helpers r_p1_kinds) H locs → lv_has ls 3 [] → W p l e { frames := 2, cells := 0, slots := 0, locals := 46 } s m ([.ref a_t, .ref a_p1] : List Value).toArray below meth c H locs 0 0 (Ev below (fun w => ∃ (i_t : Nat → Int32), ∃ (r_t_kinds : Nat → Int32), ∃ (r_t_longs : Nat → Int32), ∃ (r_t_weights : Nat → Int32), ∃ (r_t_strengths : Nat → Int32), ∃ (r_t_wears : Nat → Int32), ∃ (r_t_pushes : Nat → Int32), ∃ (r_t_helpers : Nat → Int32), w = (wd_Row_begin k a_t d_t i_t a_p1 d_p1 i_p1 r_p1_halts r_p1_first r_t_kinds r_t_longs r_t_weights r_t_strengths r_t_wears r_t_pushes r_t_helpers r_p1_kinds) ∧ Q i_t r_t_kinds r_t_longs r_t_weights r_t_strengths r_t_wears r_t_pushes r_t_helpers) D k A ([.ref a_t, .ref a_p1] : List Value).toArray s 0 0) (F0 m 83 ls [])) :
    ∀ n : Nat, ∀ (x2 : Int32) (i_t : Nat → Int32) (r_t_kinds : Nat → Int32) (r_t_longs : Nat → Int32) (r_t_weights : Nat → Int32) (r_t_strengths : Nat → Int32) (r_t_wears : Nat → Int32) (r_t_pushes : Nat → Int32) (r_t_helpers : Nat → Int32) (H : Heap) (locs : List Loc) (ls : Array Slot), lp_Row_begin_57 i_p1 r_p1_first r_p1_kinds kx_57 n x2 i_t r_t_kinds r_t_longs r_t_weights r_t_strengths r_t_wears r_t_pushes r_t_helpers → Bd D A s.heap (wd_Row_begin k a_t d_t i_t a_p1 d_p1 i_p1 r_p1_halts r_p1_first r_t_kinds r_t_longs r_t_weights r_t_strengths r_t_wears r_t_pushes r_t_helpers r_p1_kinds) H locs → lv_has ls 3 [(0, .ref a_t), (1, .ref a_p1), (2, .int x2)] → W p l e { frames := 2, cells := 0, slots := 0, locals := 46 } s m ([.ref a_t, .ref a_p1] : List Value).toArray below meth c H locs 0 0 (Ev below (fun w => ∃ (i_t : Nat → Int32), ∃ (r_t_kinds : Nat → Int32), ∃ (r_t_longs : Nat → Int32), ∃ (r_t_weights : Nat → Int32), ∃ (r_t_strengths : Nat → Int32), ∃ (r_t_wears : Nat → Int32), ∃ (r_t_pushes : Nat → Int32), ∃ (r_t_helpers : Nat → Int32), w = (wd_Row_begin k a_t d_t i_t a_p1 d_p1 i_p1 r_p1_halts r_p1_first r_t_kinds r_t_longs r_t_weights r_t_strengths r_t_wears r_t_pushes r_t_helpers r_p1_kinds) ∧ Q i_t r_t_kinds r_t_longs r_t_weights r_t_strengths r_t_wears r_t_pushes r_t_helpers) D k A ([.ref a_t, .ref a_p1] : List Value).toArray s 0 0) (F0 m 57 ls []) := by
  intro n
  induction n with
  | zero => intro x2 i_t r_t_kinds r_t_longs r_t_weights r_t_strengths r_t_wears r_t_pushes r_t_helpers H locs ls hf; exact absurd hf (fun h => h)
  | succ n ih => exact bt_Row_begin_57 F hr hlk hA hkx_57 ih

set_option maxRecDepth 100000 in
set_option maxHeartbeats 4000000 in
theorem jt_Row_begin_55 {p : Program} {l : Launch} {e : Env} {s : State} {m : MethodId} {below : List Frame} {meth : Method} {c : Code} {A : Nat → Prop} {D : va_G} {k : Nat → ClassId} {a_t : Nat} {d_t : Nat → Nat} {a_p1 : Nat} {d_p1 : Nat → Nat} {i_p1 : Nat → Int32} {r_p1_halts : Nat → Int32} {r_p1_first : Nat → Int32} {r_p1_kinds : Nat → Int32}  {Q : (Nat → Int32) → (Nat → Int32) → (Nat → Int32) → (Nat → Int32) → (Nat → Int32) → (Nat → Int32) → (Nat → Int32) → (Nat → Int32) → Prop}  (F : Fx p m c cX8_begin 3 s ([.ref a_t, .ref a_p1] : List Value).toArray RX8 D k) (hr : meth.sig.returnType = none) (hlk : meth.locks = false) (hA : ∀ q : Nat, s.heap.size ≤ q → A q) :
    ∀ (i_t : Nat → Int32) (r_t_kinds : Nat → Int32) (r_t_longs : Nat → Int32) (r_t_weights : Nat → Int32) (r_t_strengths : Nat → Int32) (r_t_wears : Nat → Int32) (r_t_pushes : Nat → Int32) (r_t_helpers : Nat → Int32) (H : Heap) (locs : List Loc) (ls : Array Slot), j_Row_begin_55 i_t i_p1 r_p1_first r_t_kinds r_t_longs r_t_weights r_t_strengths r_t_wears r_t_pushes r_t_helpers r_p1_kinds Q → Bd D A s.heap (wd_Row_begin k a_t d_t i_t a_p1 d_p1 i_p1 r_p1_halts r_p1_first r_t_kinds r_t_longs r_t_weights r_t_strengths r_t_wears r_t_pushes r_t_helpers r_p1_kinds) H locs → lv_has ls 3 [(0, .ref a_t), (1, .ref a_p1)] → W p l e { frames := 2, cells := 0, slots := 0, locals := 46 } s m ([.ref a_t, .ref a_p1] : List Value).toArray below meth c H locs 0 0 (Ev below (fun w => ∃ (i_t : Nat → Int32), ∃ (r_t_kinds : Nat → Int32), ∃ (r_t_longs : Nat → Int32), ∃ (r_t_weights : Nat → Int32), ∃ (r_t_strengths : Nat → Int32), ∃ (r_t_wears : Nat → Int32), ∃ (r_t_pushes : Nat → Int32), ∃ (r_t_helpers : Nat → Int32), w = (wd_Row_begin k a_t d_t i_t a_p1 d_p1 i_p1 r_p1_halts r_p1_first r_t_kinds r_t_longs r_t_weights r_t_strengths r_t_wears r_t_pushes r_t_helpers r_p1_kinds) ∧ Q i_t r_t_kinds r_t_longs r_t_weights r_t_strengths r_t_wears r_t_pushes r_t_helpers) D k A ([.ref a_t, .ref a_p1] : List Value).toArray s 0 0) (F0 m 55 ls []) := by
  have hx := F.x
  have hb := F.b
  intro i_t r_t_kinds r_t_longs r_t_weights r_t_strengths r_t_wears r_t_pushes r_t_helpers H locs ls hf hB hl
  unfold j_Row_begin_55 at hf
  refine lv_iconst (v := 0) hx hb dX8_begin_55 (by decide) ?_
  refine lv_istore_n (lv' := [(2, .int (0 : Int32)), (0, .ref a_t), (1, .ref a_p1)]) hx hb dX8_begin_56 rfl hl (by decide) rfl (fun ls hl => ?_)
  obtain ⟨n_23, hf⟩ := hf
  refine lt_Row_begin_57 F hr hlk hA (fun i_t_15 r_t_kinds_16 r_t_longs_17 r_t_weights_18 r_t_strengths_19 r_t_wears_20 r_t_pushes_21 r_t_helpers_22 H locs ls hf hB hl => ?_) n_23 _ _ _ _ _ _ _ _ _ _ _ _ hf hB (lv_sub hl [1, 2, 0] rfl)
  exact r_v F hr hlk hB ⟨_, _, _, _, _, _, _, _, rfl, hf⟩ dX8_begin_83

set_option maxRecDepth 100000 in
set_option maxHeartbeats 4000000 in
theorem c_Row_begin (l : Launch) (D : va_G) (k : Nat → ClassId) (a_t : Nat) (d_t : Nat → Nat) (i_t : Nat → Int32) (a_p1 : Nat) (d_p1 : Nat → Nat) (i_p1 : Nat → Int32) (r_p1_halts : Nat → Int32) (r_p1_first : Nat → Int32) (r_t_kinds : Nat → Int32) (r_t_longs : Nat → Int32) (r_t_weights : Nat → Int32) (r_t_strengths : Nat → Int32) (r_t_wears : Nat → Int32) (r_t_pushes : Nat → Int32) (r_t_helpers : Nat → Int32) (r_p1_kinds : Nat → Int32)  (Q : (Nat → Int32) → (Nat → Int32) → (Nat → Int32) → (Nat → Int32) → (Nat → Int32) → (Nat → Int32) → (Nat → Int32) → (Nat → Int32) → Prop)  (hf : w_Row_begin i_t i_p1 r_p1_halts r_p1_first r_t_kinds r_t_longs r_t_weights r_t_strengths r_t_wears r_t_pushes r_t_helpers r_p1_kinds Q) : CtV l yX8_begin cX8_begin 3 none 2 46 0 0 D k [.ref a_t, .ref a_p1] (wd_Row_begin k a_t d_t i_t a_p1 d_p1 i_p1 r_p1_halts r_p1_first r_t_kinds r_t_longs r_t_weights r_t_strengths r_t_wears r_t_pushes r_t_helpers r_p1_kinds) (fun w => ∃ (i_t : Nat → Int32), ∃ (r_t_kinds : Nat → Int32), ∃ (r_t_longs : Nat → Int32), ∃ (r_t_weights : Nat → Int32), ∃ (r_t_strengths : Nat → Int32), ∃ (r_t_wears : Nat → Int32), ∃ (r_t_pushes : Nat → Int32), ∃ (r_t_helpers : Nat → Int32), w = (wd_Row_begin k a_t d_t i_t a_p1 d_p1 i_p1 r_p1_halts r_p1_first r_t_kinds r_t_longs r_t_weights r_t_strengths r_t_wears r_t_pushes r_t_helpers r_p1_kinds) ∧ Q i_t r_t_kinds r_t_longs r_t_weights r_t_strengths r_t_wears r_t_pushes r_t_helpers) := by
  refine CtV.of (by decide) (Nat.le_of_ble_eq_true rfl) ?_
  intro p e s m below meth c A F hr hlk hnm hA hB ls hl
  have hx := F.x
  have hb := F.b
  unfold w_Row_begin at hf
  replace hl : lv_has ls 3 [(0, .ref a_t), (1, .ref a_p1)] := hl
  refine lv_aload_n hx hb dX8_begin_0 rfl (lv_at hl 0 rfl) ?_
  refine lv_iconst (v := 0) hx hb dX8_begin_1 (by decide) ?_
  refine g_puti F hB 0 rfl fl_RX8_36 rfl (wd_Row_begin k a_t d_t (upd i_t 8 (0 : Int32)) a_p1 d_p1 i_p1 r_p1_halts r_p1_first r_t_kinds r_t_longs r_t_weights r_t_strengths r_t_wears r_t_pushes r_t_helpers r_p1_kinds) rfl dX8_begin_2 (fun H locs hB => ?_)
  refine lv_aload_n hx hb dX8_begin_5 rfl (lv_at hl 0 rfl) ?_
  refine lv_iconst (v := 0) hx hb dX8_begin_6 (by decide) ?_
  refine g_puti F hB 0 rfl fl_RX8_40 rfl (wd_Row_begin k a_t d_t (upd (upd i_t 8 (0 : Int32)) 9 (0 : Int32)) a_p1 d_p1 i_p1 r_p1_halts r_p1_first r_t_kinds r_t_longs r_t_weights r_t_strengths r_t_wears r_t_pushes r_t_helpers r_p1_kinds) rfl dX8_begin_7 (fun H locs hB => ?_)
  refine lv_aload_n hx hb dX8_begin_10 rfl (lv_at hl 0 rfl) ?_
  refine lv_iconst (v := 0) hx hb dX8_begin_11 (by decide) ?_
  refine g_puti F hB 0 rfl fl_RX8_43 rfl (wd_Row_begin k a_t d_t (upd (upd (upd i_t 8 (0 : Int32)) 9 (0 : Int32)) 10 (0 : Int32)) a_p1 d_p1 i_p1 r_p1_halts r_p1_first r_t_kinds r_t_longs r_t_weights r_t_strengths r_t_wears r_t_pushes r_t_helpers r_p1_kinds) rfl dX8_begin_12 (fun H locs hB => ?_)
  refine lv_aload_n hx hb dX8_begin_15 rfl (lv_at hl 0 rfl) ?_
  refine lv_iconst (v := 0) hx hb dX8_begin_16 (by decide) ?_
  refine g_puti F hB 0 rfl fl_RX8_46 rfl (wd_Row_begin k a_t d_t (upd (upd (upd (upd i_t 8 (0 : Int32)) 9 (0 : Int32)) 10 (0 : Int32)) 11 (0 : Int32)) a_p1 d_p1 i_p1 r_p1_halts r_p1_first r_t_kinds r_t_longs r_t_weights r_t_strengths r_t_wears r_t_pushes r_t_helpers r_p1_kinds) rfl dX8_begin_17 (fun H locs hB => ?_)
  obtain ⟨n_24, hf⟩ := hf
  refine lt_Row_begin_20 F hr hlk hA (fun i_t_4 H locs ls hf hB hl => ?_) n_24 _ _ _ _ hf hB (lv_sub hl [0, 1] rfl)
  exact jt_Row_begin_55 F hr hlk hA _ _ _ _ _ _ _ _ _ _ _ hf hB (lv_sub hl [0, 1] rfl)

/-! LongTrain.Row.copyFrom -/
set_option maxRecDepth 100000 in
set_option maxHeartbeats 4000000 in
theorem c_Row_copyFrom (l : Launch) (D : va_G) (k : Nat → ClassId) (a_t : Nat) (d_t : Nat → Nat) (i_t : Nat → Int32) (a_p1 : Nat) (d_p1 : Nat → Nat) (i_p1 : Nat → Int32) (r_p1_kinds : Nat → Int32) (r_t_kinds : Nat → Int32) (r_p1_longs : Nat → Int32) (r_t_longs : Nat → Int32) (r_p1_weights : Nat → Int32) (r_t_weights : Nat → Int32) (r_p1_strengths : Nat → Int32) (r_t_strengths : Nat → Int32) (r_p1_wears : Nat → Int32) (r_t_wears : Nat → Int32) (r_p1_pushes : Nat → Int32) (r_t_pushes : Nat → Int32) (r_p1_helpers : Nat → Int32) (r_t_helpers : Nat → Int32)  (Q : (Nat → Int32) → (Nat → Int32) → (Nat → Int32) → (Nat → Int32) → (Nat → Int32) → (Nat → Int32) → (Nat → Int32) → (Nat → Int32) → Prop)  (hf : w_Row_copyFrom i_t i_p1 r_p1_kinds r_t_kinds r_p1_longs r_t_longs r_p1_weights r_t_weights r_p1_strengths r_t_strengths r_p1_wears r_t_wears r_p1_pushes r_t_pushes r_p1_helpers r_t_helpers Q) : CtV l yX8_copyFrom cX8_copyFrom 2 none 1 64 0 0 D k [.ref a_t, .ref a_p1] (wd_Row_copyFrom k a_t d_t i_t a_p1 d_p1 i_p1 r_p1_kinds r_t_kinds r_p1_longs r_t_longs r_p1_weights r_t_weights r_p1_strengths r_t_strengths r_p1_wears r_t_wears r_p1_pushes r_t_pushes r_p1_helpers r_t_helpers) (fun w => ∃ (i_t : Nat → Int32), ∃ (r_t_kinds : Nat → Int32), ∃ (r_t_longs : Nat → Int32), ∃ (r_t_weights : Nat → Int32), ∃ (r_t_strengths : Nat → Int32), ∃ (r_t_wears : Nat → Int32), ∃ (r_t_pushes : Nat → Int32), ∃ (r_t_helpers : Nat → Int32), w = (wd_Row_copyFrom k a_t d_t i_t a_p1 d_p1 i_p1 r_p1_kinds r_t_kinds r_p1_longs r_t_longs r_p1_weights r_t_weights r_p1_strengths r_t_strengths r_p1_wears r_t_wears r_p1_pushes r_t_pushes r_p1_helpers r_t_helpers) ∧ Q i_t r_t_kinds r_t_longs r_t_weights r_t_strengths r_t_wears r_t_pushes r_t_helpers) := by
  refine CtV.of (by decide) (Nat.le_of_ble_eq_true rfl) ?_
  intro p e s m below meth c A F hr hlk hnm hA hB ls hl
  have hx := F.x
  have hb := F.b
  unfold w_Row_copyFrom at hf
  replace hl : lv_has ls 2 [(0, .ref a_t), (1, .ref a_p1)] := hl
  refine lv_aload_n hx hb dX8_copyFrom_0 rfl (lv_at hl 1 rfl) ?_
  refine g_get (w := .ref (d_p1 0)) F hB 1 rfl fl_RX8_9 rfl dX8_copyFrom_1 ?_
  refine lv_iconst (v := 0) hx hb dX8_copyFrom_4 (by decide) ?_
  refine lv_aload_n hx hb dX8_copyFrom_5 rfl (lv_at hl 0 rfl) ?_
  refine g_get (w := .ref (d_t 0)) F hB 0 rfl fl_RX8_9 rfl dX8_copyFrom_6 ?_
  refine lv_iconst (v := 0) hx hb dX8_copyFrom_9 (by decide) ?_
  refine lv_bipush (v := 20) hx hb dX8_copyFrom_10 (by decide) ?_
  refine k_copy F hB ml_RX8_68 hl.1 2 3 rfl rfl (by decide) (by decide) (by decide) (by decide) (by decide) (by decide) (Nat.le_of_ble_eq_true rfl) (wd_Row_copyFrom k a_t d_t i_t a_p1 d_p1 i_p1 r_p1_kinds (va_cpy r_p1_kinds r_t_kinds 0 0 20) r_p1_longs r_t_longs r_p1_weights r_t_weights r_p1_strengths r_t_strengths r_p1_wears r_t_wears r_p1_pushes r_t_pushes r_p1_helpers r_t_helpers) rfl dX8_copyFrom_12 (fun H locs hB => ?_)
  refine lv_aload_n hx hb dX8_copyFrom_15 rfl (lv_at hl 1 rfl) ?_
  refine g_get (w := .ref (d_p1 1)) F hB 1 rfl fl_RX8_15 rfl dX8_copyFrom_16 ?_
  refine lv_iconst (v := 0) hx hb dX8_copyFrom_19 (by decide) ?_
  refine lv_aload_n hx hb dX8_copyFrom_20 rfl (lv_at hl 0 rfl) ?_
  refine g_get (w := .ref (d_t 1)) F hB 0 rfl fl_RX8_15 rfl dX8_copyFrom_21 ?_
  refine lv_iconst (v := 0) hx hb dX8_copyFrom_24 (by decide) ?_
  refine lv_bipush (v := 20) hx hb dX8_copyFrom_25 (by decide) ?_
  refine k_copy F hB ml_RX8_68 hl.1 4 5 rfl rfl (by decide) (by decide) (by decide) (by decide) (by decide) (by decide) (Nat.le_of_ble_eq_true rfl) (wd_Row_copyFrom k a_t d_t i_t a_p1 d_p1 i_p1 r_p1_kinds (va_cpy r_p1_kinds r_t_kinds 0 0 20) r_p1_longs (va_cpy r_p1_longs r_t_longs 0 0 20) r_p1_weights r_t_weights r_p1_strengths r_t_strengths r_p1_wears r_t_wears r_p1_pushes r_t_pushes r_p1_helpers r_t_helpers) rfl dX8_copyFrom_27 (fun H locs hB => ?_)
  refine lv_aload_n hx hb dX8_copyFrom_30 rfl (lv_at hl 1 rfl) ?_
  refine g_get (w := .ref (d_p1 2)) F hB 1 rfl fl_RX8_18 rfl dX8_copyFrom_31 ?_
  refine lv_iconst (v := 0) hx hb dX8_copyFrom_34 (by decide) ?_
  refine lv_aload_n hx hb dX8_copyFrom_35 rfl (lv_at hl 0 rfl) ?_
  refine g_get (w := .ref (d_t 2)) F hB 0 rfl fl_RX8_18 rfl dX8_copyFrom_36 ?_
  refine lv_iconst (v := 0) hx hb dX8_copyFrom_39 (by decide) ?_
  refine lv_bipush (v := 20) hx hb dX8_copyFrom_40 (by decide) ?_
  refine k_copy F hB ml_RX8_68 hl.1 6 7 rfl rfl (by decide) (by decide) (by decide) (by decide) (by decide) (by decide) (Nat.le_of_ble_eq_true rfl) (wd_Row_copyFrom k a_t d_t i_t a_p1 d_p1 i_p1 r_p1_kinds (va_cpy r_p1_kinds r_t_kinds 0 0 20) r_p1_longs (va_cpy r_p1_longs r_t_longs 0 0 20) r_p1_weights (va_cpy r_p1_weights r_t_weights 0 0 20) r_p1_strengths r_t_strengths r_p1_wears r_t_wears r_p1_pushes r_t_pushes r_p1_helpers r_t_helpers) rfl dX8_copyFrom_42 (fun H locs hB => ?_)
  refine lv_aload_n hx hb dX8_copyFrom_45 rfl (lv_at hl 1 rfl) ?_
  refine g_get (w := .ref (d_p1 3)) F hB 1 rfl fl_RX8_21 rfl dX8_copyFrom_46 ?_
  refine lv_iconst (v := 0) hx hb dX8_copyFrom_49 (by decide) ?_
  refine lv_aload_n hx hb dX8_copyFrom_50 rfl (lv_at hl 0 rfl) ?_
  refine g_get (w := .ref (d_t 3)) F hB 0 rfl fl_RX8_21 rfl dX8_copyFrom_51 ?_
  refine lv_iconst (v := 0) hx hb dX8_copyFrom_54 (by decide) ?_
  refine lv_bipush (v := 20) hx hb dX8_copyFrom_55 (by decide) ?_
  refine k_copy F hB ml_RX8_68 hl.1 8 9 rfl rfl (by decide) (by decide) (by decide) (by decide) (by decide) (by decide) (Nat.le_of_ble_eq_true rfl) (wd_Row_copyFrom k a_t d_t i_t a_p1 d_p1 i_p1 r_p1_kinds (va_cpy r_p1_kinds r_t_kinds 0 0 20) r_p1_longs (va_cpy r_p1_longs r_t_longs 0 0 20) r_p1_weights (va_cpy r_p1_weights r_t_weights 0 0 20) r_p1_strengths (va_cpy r_p1_strengths r_t_strengths 0 0 20) r_p1_wears r_t_wears r_p1_pushes r_t_pushes r_p1_helpers r_t_helpers) rfl dX8_copyFrom_57 (fun H locs hB => ?_)
  refine lv_aload_n hx hb dX8_copyFrom_60 rfl (lv_at hl 1 rfl) ?_
  refine g_get (w := .ref (d_p1 4)) F hB 1 rfl fl_RX8_24 rfl dX8_copyFrom_61 ?_
  refine lv_iconst (v := 0) hx hb dX8_copyFrom_64 (by decide) ?_
  refine lv_aload_n hx hb dX8_copyFrom_65 rfl (lv_at hl 0 rfl) ?_
  refine g_get (w := .ref (d_t 4)) F hB 0 rfl fl_RX8_24 rfl dX8_copyFrom_66 ?_
  refine lv_iconst (v := 0) hx hb dX8_copyFrom_69 (by decide) ?_
  refine lv_bipush (v := 20) hx hb dX8_copyFrom_70 (by decide) ?_
  refine k_copy F hB ml_RX8_68 hl.1 10 11 rfl rfl (by decide) (by decide) (by decide) (by decide) (by decide) (by decide) (Nat.le_of_ble_eq_true rfl) (wd_Row_copyFrom k a_t d_t i_t a_p1 d_p1 i_p1 r_p1_kinds (va_cpy r_p1_kinds r_t_kinds 0 0 20) r_p1_longs (va_cpy r_p1_longs r_t_longs 0 0 20) r_p1_weights (va_cpy r_p1_weights r_t_weights 0 0 20) r_p1_strengths (va_cpy r_p1_strengths r_t_strengths 0 0 20) r_p1_wears (va_cpy r_p1_wears r_t_wears 0 0 20) r_p1_pushes r_t_pushes r_p1_helpers r_t_helpers) rfl dX8_copyFrom_72 (fun H locs hB => ?_)
  refine lv_aload_n hx hb dX8_copyFrom_75 rfl (lv_at hl 1 rfl) ?_
  refine g_get (w := .ref (d_p1 5)) F hB 1 rfl fl_RX8_27 rfl dX8_copyFrom_76 ?_
  refine lv_iconst (v := 0) hx hb dX8_copyFrom_79 (by decide) ?_
  refine lv_aload_n hx hb dX8_copyFrom_80 rfl (lv_at hl 0 rfl) ?_
  refine g_get (w := .ref (d_t 5)) F hB 0 rfl fl_RX8_27 rfl dX8_copyFrom_81 ?_
  refine lv_iconst (v := 0) hx hb dX8_copyFrom_84 (by decide) ?_
  refine lv_bipush (v := 20) hx hb dX8_copyFrom_85 (by decide) ?_
  refine k_copy F hB ml_RX8_68 hl.1 12 13 rfl rfl (by decide) (by decide) (by decide) (by decide) (by decide) (by decide) (Nat.le_of_ble_eq_true rfl) (wd_Row_copyFrom k a_t d_t i_t a_p1 d_p1 i_p1 r_p1_kinds (va_cpy r_p1_kinds r_t_kinds 0 0 20) r_p1_longs (va_cpy r_p1_longs r_t_longs 0 0 20) r_p1_weights (va_cpy r_p1_weights r_t_weights 0 0 20) r_p1_strengths (va_cpy r_p1_strengths r_t_strengths 0 0 20) r_p1_wears (va_cpy r_p1_wears r_t_wears 0 0 20) r_p1_pushes (va_cpy r_p1_pushes r_t_pushes 0 0 20) r_p1_helpers r_t_helpers) rfl dX8_copyFrom_87 (fun H locs hB => ?_)
  refine lv_aload_n hx hb dX8_copyFrom_90 rfl (lv_at hl 1 rfl) ?_
  refine g_get (w := .ref (d_p1 6)) F hB 1 rfl fl_RX8_30 rfl dX8_copyFrom_91 ?_
  refine lv_iconst (v := 0) hx hb dX8_copyFrom_94 (by decide) ?_
  refine lv_aload_n hx hb dX8_copyFrom_95 rfl (lv_at hl 0 rfl) ?_
  refine g_get (w := .ref (d_t 6)) F hB 0 rfl fl_RX8_30 rfl dX8_copyFrom_96 ?_
  refine lv_iconst (v := 0) hx hb dX8_copyFrom_99 (by decide) ?_
  refine lv_bipush (v := 20) hx hb dX8_copyFrom_100 (by decide) ?_
  refine k_copy F hB ml_RX8_68 hl.1 14 15 rfl rfl (by decide) (by decide) (by decide) (by decide) (by decide) (by decide) (Nat.le_of_ble_eq_true rfl) (wd_Row_copyFrom k a_t d_t i_t a_p1 d_p1 i_p1 r_p1_kinds (va_cpy r_p1_kinds r_t_kinds 0 0 20) r_p1_longs (va_cpy r_p1_longs r_t_longs 0 0 20) r_p1_weights (va_cpy r_p1_weights r_t_weights 0 0 20) r_p1_strengths (va_cpy r_p1_strengths r_t_strengths 0 0 20) r_p1_wears (va_cpy r_p1_wears r_t_wears 0 0 20) r_p1_pushes (va_cpy r_p1_pushes r_t_pushes 0 0 20) r_p1_helpers (va_cpy r_p1_helpers r_t_helpers 0 0 20)) rfl dX8_copyFrom_102 (fun H locs hB => ?_)
  refine lv_aload_n hx hb dX8_copyFrom_105 rfl (lv_at hl 0 rfl) ?_
  refine lv_aload_n hx hb dX8_copyFrom_106 rfl (lv_at hl 1 rfl) ?_
  refine g_get (w := .int (i_p1 8)) F hB 1 rfl fl_RX8_36 rfl dX8_copyFrom_107 ?_
  refine g_puti F hB 0 rfl fl_RX8_36 rfl (wd_Row_copyFrom k a_t d_t (upd i_t 8 (i_p1 8)) a_p1 d_p1 i_p1 r_p1_kinds (va_cpy r_p1_kinds r_t_kinds 0 0 20) r_p1_longs (va_cpy r_p1_longs r_t_longs 0 0 20) r_p1_weights (va_cpy r_p1_weights r_t_weights 0 0 20) r_p1_strengths (va_cpy r_p1_strengths r_t_strengths 0 0 20) r_p1_wears (va_cpy r_p1_wears r_t_wears 0 0 20) r_p1_pushes (va_cpy r_p1_pushes r_t_pushes 0 0 20) r_p1_helpers (va_cpy r_p1_helpers r_t_helpers 0 0 20)) rfl dX8_copyFrom_110 (fun H locs hB => ?_)
  refine lv_aload_n hx hb dX8_copyFrom_113 rfl (lv_at hl 0 rfl) ?_
  refine lv_aload_n hx hb dX8_copyFrom_114 rfl (lv_at hl 1 rfl) ?_
  refine g_get (w := .int (i_p1 9)) F hB 1 rfl fl_RX8_40 rfl dX8_copyFrom_115 ?_
  refine g_puti F hB 0 rfl fl_RX8_40 rfl (wd_Row_copyFrom k a_t d_t (upd (upd i_t 8 (i_p1 8)) 9 (i_p1 9)) a_p1 d_p1 i_p1 r_p1_kinds (va_cpy r_p1_kinds r_t_kinds 0 0 20) r_p1_longs (va_cpy r_p1_longs r_t_longs 0 0 20) r_p1_weights (va_cpy r_p1_weights r_t_weights 0 0 20) r_p1_strengths (va_cpy r_p1_strengths r_t_strengths 0 0 20) r_p1_wears (va_cpy r_p1_wears r_t_wears 0 0 20) r_p1_pushes (va_cpy r_p1_pushes r_t_pushes 0 0 20) r_p1_helpers (va_cpy r_p1_helpers r_t_helpers 0 0 20)) rfl dX8_copyFrom_118 (fun H locs hB => ?_)
  refine lv_aload_n hx hb dX8_copyFrom_121 rfl (lv_at hl 0 rfl) ?_
  refine lv_aload_n hx hb dX8_copyFrom_122 rfl (lv_at hl 1 rfl) ?_
  refine g_get (w := .int (i_p1 10)) F hB 1 rfl fl_RX8_43 rfl dX8_copyFrom_123 ?_
  refine g_puti F hB 0 rfl fl_RX8_43 rfl (wd_Row_copyFrom k a_t d_t (upd (upd (upd i_t 8 (i_p1 8)) 9 (i_p1 9)) 10 (i_p1 10)) a_p1 d_p1 i_p1 r_p1_kinds (va_cpy r_p1_kinds r_t_kinds 0 0 20) r_p1_longs (va_cpy r_p1_longs r_t_longs 0 0 20) r_p1_weights (va_cpy r_p1_weights r_t_weights 0 0 20) r_p1_strengths (va_cpy r_p1_strengths r_t_strengths 0 0 20) r_p1_wears (va_cpy r_p1_wears r_t_wears 0 0 20) r_p1_pushes (va_cpy r_p1_pushes r_t_pushes 0 0 20) r_p1_helpers (va_cpy r_p1_helpers r_t_helpers 0 0 20)) rfl dX8_copyFrom_126 (fun H locs hB => ?_)
  refine lv_aload_n hx hb dX8_copyFrom_129 rfl (lv_at hl 0 rfl) ?_
  refine lv_aload_n hx hb dX8_copyFrom_130 rfl (lv_at hl 1 rfl) ?_
  refine g_get (w := .int (i_p1 11)) F hB 1 rfl fl_RX8_46 rfl dX8_copyFrom_131 ?_
  refine g_puti F hB 0 rfl fl_RX8_46 rfl (wd_Row_copyFrom k a_t d_t (upd (upd (upd (upd i_t 8 (i_p1 8)) 9 (i_p1 9)) 10 (i_p1 10)) 11 (i_p1 11)) a_p1 d_p1 i_p1 r_p1_kinds (va_cpy r_p1_kinds r_t_kinds 0 0 20) r_p1_longs (va_cpy r_p1_longs r_t_longs 0 0 20) r_p1_weights (va_cpy r_p1_weights r_t_weights 0 0 20) r_p1_strengths (va_cpy r_p1_strengths r_t_strengths 0 0 20) r_p1_wears (va_cpy r_p1_wears r_t_wears 0 0 20) r_p1_pushes (va_cpy r_p1_pushes r_t_pushes 0 0 20) r_p1_helpers (va_cpy r_p1_helpers r_t_helpers 0 0 20)) rfl dX8_copyFrom_134 (fun H locs hB => ?_)
  exact r_v F hr hlk hB ⟨_, _, _, _, _, _, _, _, rfl, hf⟩ dX8_copyFrom_137

/-! LongTrain.Row.dropFrom -/
set_option maxRecDepth 100000 in
set_option maxHeartbeats 4000000 in
theorem bt_Row_dropFrom_6 {p : Program} {l : Launch} {e : Env} {s : State} {m : MethodId} {below : List Frame} {meth : Method} {c : Code} {A : Nat → Prop} {D : va_G} {k : Nat → ClassId} {a_t : Nat} {d_t : Nat → Nat} {r_t_longs : Nat → Int32} {n1 : Int32} {Q : (Nat → Int32) → Prop}  {x1 : Int32} {kx_6 : (Nat → Int32) → Prop} {kr_6 : (Int32) → (Nat → Int32) → Prop} (F : Fx p m c cX8_dropFrom 3 s ([.ref a_t, .int n1] : List Value).toArray RX8 D k) (hr : meth.sig.returnType = none) (hlk : meth.locks = false) (hA : ∀ q : Nat, s.heap.size ≤ q → A q) (hkx_6 : ∀ (i_t : Nat → Int32) (H : Heap) (locs : List Loc) (ls : Array Slot), kx_6 i_t → Bd D A s.heap (wd_Row_dropFrom k a_t d_t i_t r_t_longs) H locs → lv_has ls 3 [(0, .ref a_t), (1, .int x1)] → W p l e { frames := 1, cells := 0, slots := 0, locals := 32 } s m ([.ref a_t, .int n1] : List Value).toArray below meth c H locs 0 0 (Ev below (fun w => ∃ (i_t : Nat → Int32), w = (wd_Row_dropFrom k a_t d_t i_t r_t_longs) ∧ Q i_t) D k A ([.ref a_t, .int n1] : List Value).toArray s 0 0) (F0 m 35 ls [])) (hkr_6 : ∀ (x2 : Int32) (i_t : Nat → Int32) (H : Heap) (locs : List Loc) (ls : Array Slot), kr_6 x2 i_t → Bd D A s.heap (wd_Row_dropFrom k a_t d_t i_t r_t_longs) H locs → lv_has ls 3 [(0, .ref a_t), (1, .int x1), (2, .int x2)] → W p l e { frames := 1, cells := 0, slots := 0, locals := 32 } s m ([.ref a_t, .int n1] : List Value).toArray below meth c H locs 0 0 (Ev below (fun w => ∃ (i_t : Nat → Int32), w = (wd_Row_dropFrom k a_t d_t i_t r_t_longs) ∧ Q i_t) D k A ([.ref a_t, .int n1] : List Value).toArray s 0 0) (F0 m 6 ls [])) :
    ∀ (x2 : Int32) (i_t : Nat → Int32) (H : Heap) (locs : List Loc) (ls : Array Slot), b_Row_dropFrom_6 r_t_longs kx_6 kr_6 x2 i_t → Bd D A s.heap (wd_Row_dropFrom k a_t d_t i_t r_t_longs) H locs → lv_has ls 3 [(0, .ref a_t), (1, .int x1), (2, .int x2)] → W p l e { frames := 1, cells := 0, slots := 0, locals := 32 } s m ([.ref a_t, .int n1] : List Value).toArray below meth c H locs 0 0 (Ev below (fun w => ∃ (i_t : Nat → Int32), w = (wd_Row_dropFrom k a_t d_t i_t r_t_longs) ∧ Q i_t) D k A ([.ref a_t, .int n1] : List Value).toArray s 0 0) (F0 m 6 ls []) := by
  have hx := F.x
  have hb := F.b
  intro x2 i_t H locs ls hf hB hl
  unfold b_Row_dropFrom_6 at hf
  refine lv_iload_n hx hb dX8_dropFrom_6 rfl (lv_at hl 2 rfl) ?_
  refine lv_aload_n hx hb dX8_dropFrom_7 rfl (lv_at hl 0 rfl) ?_
  refine g_get (w := .int (i_t 8)) F hB 0 rfl fl_RX8_36 rfl dX8_dropFrom_8 ?_
  refine lv_icmp_ge (tgt := 35) hx hb dX8_dropFrom_11 (by decide) (fun c_2 => ?_) (fun c_2 => ?_)
  · replace hf := hf.1 c_2
    exact hkx_6 _ _ _ _ hf hB (lv_sub hl [0, 1] rfl)
  · replace hf := hf.2 c_2
    refine lv_aload_n hx hb dX8_dropFrom_14 rfl (lv_at hl 0 rfl) ?_
    refine lv_dup hx hb dX8_dropFrom_15 rfl ?_
    refine g_get (w := .int (i_t 9)) F hB 0 rfl fl_RX8_40 rfl dX8_dropFrom_16 ?_
    refine lv_aload_n hx hb dX8_dropFrom_19 rfl (lv_at hl 0 rfl) ?_
    refine g_get (w := .ref (d_t 1)) F hB 0 rfl fl_RX8_15 rfl dX8_dropFrom_20 ?_
    refine lv_iload_n hx hb dX8_dropFrom_23 rfl (lv_at hl 2 rfl) ?_
    obtain ⟨h_1, hf⟩ := hf
    refine g_iald F hB 1 rfl h_1 dX8_dropFrom_24 ?_
    refine lv_isub hx hb dX8_dropFrom_25 ?_
    refine g_puti F hB 0 rfl fl_RX8_40 rfl (wd_Row_dropFrom k a_t d_t (upd i_t 9 ((i_t 9) - (r_t_longs (x2).toNatClampNeg))) r_t_longs) rfl dX8_dropFrom_26 (fun H locs hB => ?_)
    refine lv_iinc (v := (x2 + 1)) (lv' := [(2, .int (x2 + 1)), (0, .ref a_t), (1, .int x1)]) (k := 2) hx hb dX8_dropFrom_29 hl rfl rfl (by decide) rfl (fun ls hl => ?_)
    refine lv_goto (tgt := 6) hx hb dX8_dropFrom_32 (by decide) ?_
    exact hkr_6 _ _ _ _ _ hf hB (lv_sub hl [1, 2, 0] rfl)

set_option maxRecDepth 100000 in
set_option maxHeartbeats 4000000 in
theorem lt_Row_dropFrom_6 {p : Program} {l : Launch} {e : Env} {s : State} {m : MethodId} {below : List Frame} {meth : Method} {c : Code} {A : Nat → Prop} {D : va_G} {k : Nat → ClassId} {a_t : Nat} {d_t : Nat → Nat} {r_t_longs : Nat → Int32} {n1 : Int32} {Q : (Nat → Int32) → Prop}  {x1 : Int32} {kx_6 : (Nat → Int32) → Prop} (F : Fx p m c cX8_dropFrom 3 s ([.ref a_t, .int n1] : List Value).toArray RX8 D k) (hr : meth.sig.returnType = none) (hlk : meth.locks = false) (hA : ∀ q : Nat, s.heap.size ≤ q → A q) (hkx_6 : ∀ (i_t : Nat → Int32) (H : Heap) (locs : List Loc) (ls : Array Slot), kx_6 i_t → Bd D A s.heap (wd_Row_dropFrom k a_t d_t i_t r_t_longs) H locs → lv_has ls 3 [(0, .ref a_t), (1, .int x1)] → W p l e { frames := 1, cells := 0, slots := 0, locals := 32 } s m ([.ref a_t, .int n1] : List Value).toArray below meth c H locs 0 0 (Ev below (fun w => ∃ (i_t : Nat → Int32), w = (wd_Row_dropFrom k a_t d_t i_t r_t_longs) ∧ Q i_t) D k A ([.ref a_t, .int n1] : List Value).toArray s 0 0) (F0 m 35 ls [])) :
    ∀ n : Nat, ∀ (x2 : Int32) (i_t : Nat → Int32) (H : Heap) (locs : List Loc) (ls : Array Slot), lp_Row_dropFrom_6 r_t_longs kx_6 n x2 i_t → Bd D A s.heap (wd_Row_dropFrom k a_t d_t i_t r_t_longs) H locs → lv_has ls 3 [(0, .ref a_t), (1, .int x1), (2, .int x2)] → W p l e { frames := 1, cells := 0, slots := 0, locals := 32 } s m ([.ref a_t, .int n1] : List Value).toArray below meth c H locs 0 0 (Ev below (fun w => ∃ (i_t : Nat → Int32), w = (wd_Row_dropFrom k a_t d_t i_t r_t_longs) ∧ Q i_t) D k A ([.ref a_t, .int n1] : List Value).toArray s 0 0) (F0 m 6 ls []) := by
  intro n
  induction n with
  | zero => intro x2 i_t H locs ls hf; exact absurd hf (fun h => h)
  | succ n ih => exact bt_Row_dropFrom_6 F hr hlk hA hkx_6 ih

set_option maxRecDepth 100000 in
set_option maxHeartbeats 4000000 in
theorem c_Row_dropFrom (l : Launch) (D : va_G) (k : Nat → ClassId) (a_t : Nat) (d_t : Nat → Nat) (i_t : Nat → Int32) (r_t_longs : Nat → Int32) (n1 : Int32) (Q : (Nat → Int32) → Prop)  (hf : w_Row_dropFrom i_t r_t_longs n1 Q) : CtV l yX8_dropFrom cX8_dropFrom 3 none 1 32 0 0 D k [.ref a_t, .int n1] (wd_Row_dropFrom k a_t d_t i_t r_t_longs) (fun w => ∃ (i_t : Nat → Int32), w = (wd_Row_dropFrom k a_t d_t i_t r_t_longs) ∧ Q i_t) := by
  refine CtV.of (by decide) (Nat.le_of_ble_eq_true rfl) ?_
  intro p e s m below meth c A F hr hlk hnm hA hB ls hl
  have hx := F.x
  have hb := F.b
  unfold w_Row_dropFrom at hf
  replace hl : lv_has ls 3 [(0, .ref a_t), (1, .int n1)] := hl
  refine lv_iload_n hx hb dX8_dropFrom_0 rfl (lv_at hl 1 rfl) ?_
  refine lv_iconst (v := 0) hx hb dX8_dropFrom_1 (by decide) ?_
  refine k_max F ml_RX8_87 hl.1 (by decide) (Nat.le_of_ble_eq_true rfl) (Nat.zero_le _) (Nat.zero_le _) dX8_dropFrom_2 ?_
  refine lv_istore_n (lv' := [(2, .int (jmax n1 (0 : Int32))), (0, .ref a_t), (1, .int n1)]) hx hb dX8_dropFrom_5 rfl hl (by decide) rfl (fun ls hl => ?_)
  obtain ⟨n_4, hf⟩ := hf
  refine lt_Row_dropFrom_6 F hr hlk hA (fun i_t_3 H locs ls hf hB hl => ?_) n_4 _ _ _ _ _ hf hB (lv_sub hl [1, 2, 0] rfl)
  refine lv_aload_n hx hb dX8_dropFrom_35 rfl (lv_at hl 0 rfl) ?_
  refine lv_aload_n hx hb dX8_dropFrom_36 rfl (lv_at hl 0 rfl) ?_
  refine g_get (w := .int (i_t_3 8)) F hB 0 rfl fl_RX8_36 rfl dX8_dropFrom_37 ?_
  refine lv_iload_n hx hb dX8_dropFrom_40 rfl (lv_at hl 1 rfl) ?_
  refine lv_iconst (v := 0) hx hb dX8_dropFrom_41 (by decide) ?_
  refine k_max F ml_RX8_87 hl.1 (by decide) (Nat.le_of_ble_eq_true rfl) (Nat.zero_le _) (Nat.zero_le _) dX8_dropFrom_42 ?_
  refine k_min F ml_RX8_93 hl.1 (by decide) (Nat.le_of_ble_eq_true rfl) (Nat.zero_le _) (Nat.zero_le _) dX8_dropFrom_45 ?_
  refine g_puti F hB 0 rfl fl_RX8_36 rfl (wd_Row_dropFrom k a_t d_t (upd i_t_3 8 (jmin (i_t_3 8) (jmax n1 (0 : Int32)))) r_t_longs) rfl dX8_dropFrom_48 (fun H locs hB => ?_)
  exact r_v F hr hlk hB ⟨_, rfl, hf⟩ dX8_dropFrom_51

/-! LongTrain.Row.arrive -/
set_option maxRecDepth 100000 in
set_option maxHeartbeats 4000000 in
theorem c_Row_arrive (l : Launch) (D : va_G) (k : Nat → ClassId) (a_t : Nat) (d_t : Nat → Nat) (i_t : Nat → Int32) (a_p1 : Nat) (d_p1 : Nat → Nat) (i_p1 : Nat → Int32) (r_p1_halts : Nat → Int32)  (Q : Int32 → (Nat → Int32) → Prop)  (hf : w_Row_arrive i_t i_p1 r_p1_halts Q) : CtI l yX8_arrive cX8_arrive 2 (some .int) 1 21 0 0 D k [.ref a_t, .ref a_p1] (wd_Row_arrive k a_t d_t i_t a_p1 d_p1 i_p1 r_p1_halts) (fun r w => ∃ (i_t : Nat → Int32), w = (wd_Row_arrive k a_t d_t i_t a_p1 d_p1 i_p1 r_p1_halts) ∧ Q r i_t) := by
  refine CtI.of (by decide) (Nat.le_of_ble_eq_true rfl) ?_
  intro p e s m below meth c A F hr hlk hnm hA hB ls hl
  have hx := F.x
  have hb := F.b
  unfold w_Row_arrive at hf
  replace hl : lv_has ls 2 [(0, .ref a_t), (1, .ref a_p1)] := hl
  refine lv_aload_n hx hb dX8_arrive_0 rfl (lv_at hl 0 rfl) ?_
  refine g_get (w := .int (i_t 11)) F hB 0 rfl fl_RX8_46 rfl dX8_arrive_1 ?_
  refine lv_aload_n hx hb dX8_arrive_4 rfl (lv_at hl 1 rfl) ?_
  refine g_get (w := .int (i_p1 3)) F hB 1 rfl fl_RX8_49 rfl dX8_arrive_5 ?_
  refine lv_icmp_ge (tgt := 26) hx hb dX8_arrive_8 (by decide) (fun c_4 => ?_) (fun c_4 => ?_)
  · replace hf := hf.1 c_4
    refine lv_iconst (v := -1) hx hb dX8_arrive_26 (by decide) ?_
    exact r_i F hr hlk hB ⟨_, rfl, hf⟩ dX8_arrive_27
  · replace hf := hf.2 c_4
    refine lv_aload_n hx hb dX8_arrive_11 rfl (lv_at hl 1 rfl) ?_
    refine lv_aload_n hx hb dX8_arrive_12 rfl (lv_at hl 0 rfl) ?_
    refine g_get (w := .int (i_t 11)) F hB 0 rfl fl_RX8_46 rfl dX8_arrive_13 ?_
    refine k_vi (wr := [(a_t, ob 8 (rfd d_t) i_t j0)]) (rest := []) F hA hB (c_Line_haltAt l D k a_p1 d_p1 i_p1 r_p1_halts (i_t 11) _  hf) ml_RX8_54 mv_yX3_haltAt [1, 2] [0] rfl rfl (by decide) (by decide) (by decide) 1 rfl rfl rfl hl.1 rfl (Nat.le_of_ble_eq_true rfl) ⟨Nat.le_of_ble_eq_true rfl, Nat.le_of_ble_eq_true rfl⟩ ⟨Nat.le_of_ble_eq_true rfl, Nat.le_of_ble_eq_true rfl⟩ dX8_arrive_16 (fun z_1 w1 H locs hq hB => ?_)
    obtain ⟨rfl, hf⟩ := hq
    replace hB : Bd D A s.heap (wd_Row_arrive k a_t d_t i_t a_p1 d_p1 i_p1 r_p1_halts) H locs := hB.sub [0, 1, 2] (by decide) rfl
    refine lv_aload_n hx hb dX8_arrive_19 rfl (lv_at hl 0 rfl) ?_
    refine g_get (w := .int (i_t 10)) F hB 0 rfl fl_RX8_43 rfl dX8_arrive_20 ?_
    refine lv_icmp_eq (tgt := 28) hx hb dX8_arrive_23 (by decide) (fun c_3 => ?_) (fun c_3 => ?_)
    · replace hf := hf.1 c_3
      refine lv_aload_n hx hb dX8_arrive_28 rfl (lv_at hl 0 rfl) ?_
      refine lv_dup hx hb dX8_arrive_29 rfl ?_
      refine g_get (w := .int (i_t 11)) F hB 0 rfl fl_RX8_46 rfl dX8_arrive_30 ?_
      refine lv_iconst (v := 1) hx hb dX8_arrive_33 (by decide) ?_
      refine lv_iadd hx hb dX8_arrive_34 ?_
      refine g_puti F hB 0 rfl fl_RX8_46 rfl (wd_Row_arrive k a_t d_t (upd i_t 11 ((i_t 11) + (1 : Int32))) a_p1 d_p1 i_p1 r_p1_halts) rfl dX8_arrive_35 (fun H locs hB => ?_)
      refine lv_aload_n hx hb dX8_arrive_38 rfl (lv_at hl 1 rfl) ?_
      refine lv_aload_n hx hb dX8_arrive_39 rfl (lv_at hl 0 rfl) ?_
      refine g_get (w := .int ((upd i_t 11 ((i_t 11) + (1 : Int32))) 11)) F hB 0 rfl fl_RX8_46 rfl dX8_arrive_40 ?_
      refine lv_iconst (v := 1) hx hb dX8_arrive_43 (by decide) ?_
      refine lv_isub hx hb dX8_arrive_44 ?_
      refine k_vi (wr := [(a_t, ob 8 (rfd d_t) (upd i_t 11 ((i_t 11) + (1 : Int32))) j0)]) (rest := []) F hA hB (c_Line_haltAdds l D k a_p1 d_p1 i_p1 r_p1_halts (((upd i_t 11 ((i_t 11) + (1 : Int32))) 11) - (1 : Int32)) _  hf) ml_RX8_96 mv_yX3_haltAdds [1, 2] [0] rfl rfl (by decide) (by decide) (by decide) 1 rfl rfl rfl hl.1 rfl (Nat.le_of_ble_eq_true rfl) ⟨Nat.le_of_ble_eq_true rfl, Nat.le_of_ble_eq_true rfl⟩ ⟨Nat.le_of_ble_eq_true rfl, Nat.le_of_ble_eq_true rfl⟩ dX8_arrive_45 (fun z_2 w1 H locs hq hB => ?_)
      obtain ⟨rfl, hf⟩ := hq
      replace hB : Bd D A s.heap (wd_Row_arrive k a_t d_t (upd i_t 11 ((i_t 11) + (1 : Int32))) a_p1 d_p1 i_p1 r_p1_halts) H locs := hB.sub [0, 1, 2] (by decide) rfl
      exact r_i F hr hlk hB ⟨_, rfl, hf⟩ dX8_arrive_48
    · replace hf := hf.2 c_3
      refine lv_iconst (v := -1) hx hb dX8_arrive_26 (by decide) ?_
      exact r_i F hr hlk hB ⟨_, rfl, hf⟩ dX8_arrive_27

/-! LongTrain.Row.takeOn -/
set_option maxRecDepth 100000 in
set_option maxHeartbeats 4000000 in
theorem c_Row_takeOn (l : Launch) (D : va_G) (k : Nat → ClassId) (a_t : Nat) (d_t : Nat → Nat) (i_t : Nat → Int32) (a_p1 : Nat) (d_p1 : Nat → Nat) (i_p1 : Nat → Int32) (r_p1_halts : Nat → Int32) (r_t_kinds : Nat → Int32) (r_t_longs : Nat → Int32) (r_t_weights : Nat → Int32) (r_t_strengths : Nat → Int32) (r_t_wears : Nat → Int32) (r_t_pushes : Nat → Int32) (r_t_helpers : Nat → Int32) (r_p1_kinds : Nat → Int32)  (Q : (Nat → Int32) → (Nat → Int32) → (Nat → Int32) → (Nat → Int32) → (Nat → Int32) → (Nat → Int32) → (Nat → Int32) → (Nat → Int32) → Prop)  (hf : w_Row_takeOn i_t i_p1 r_p1_halts r_t_kinds r_t_longs r_t_weights r_t_strengths r_t_wears r_t_pushes r_t_helpers r_p1_kinds Q) : CtV l yX8_takeOn cX8_takeOn 3 none 2 46 0 0 D k [.ref a_t, .ref a_p1] (wd_Row_takeOn k a_t d_t i_t a_p1 d_p1 i_p1 r_p1_halts r_t_kinds r_t_longs r_t_weights r_t_strengths r_t_wears r_t_pushes r_t_helpers r_p1_kinds) (fun w => ∃ (i_t : Nat → Int32), ∃ (r_t_kinds : Nat → Int32), ∃ (r_t_longs : Nat → Int32), ∃ (r_t_weights : Nat → Int32), ∃ (r_t_strengths : Nat → Int32), ∃ (r_t_wears : Nat → Int32), ∃ (r_t_pushes : Nat → Int32), ∃ (r_t_helpers : Nat → Int32), w = (wd_Row_takeOn k a_t d_t i_t a_p1 d_p1 i_p1 r_p1_halts r_t_kinds r_t_longs r_t_weights r_t_strengths r_t_wears r_t_pushes r_t_helpers r_p1_kinds) ∧ Q i_t r_t_kinds r_t_longs r_t_weights r_t_strengths r_t_wears r_t_pushes r_t_helpers) := by
  refine CtV.of (by decide) (Nat.le_of_ble_eq_true rfl) ?_
  intro p e s m below meth c A F hr hlk hnm hA hB ls hl
  have hx := F.x
  have hb := F.b
  unfold w_Row_takeOn at hf
  replace hl : lv_has ls 3 [(0, .ref a_t), (1, .ref a_p1)] := hl
  refine lv_aload_n hx hb dX8_takeOn_0 rfl (lv_at hl 0 rfl) ?_
  refine lv_aload_n hx hb dX8_takeOn_1 rfl (lv_at hl 1 rfl) ?_
  refine k_vi (wr := [((d_t 0), ai k 20 r_t_kinds), ((d_t 1), ai k 20 r_t_longs), ((d_t 2), ai k 20 r_t_weights), ((d_t 3), ai k 20 r_t_strengths), ((d_t 4), ai k 20 r_t_wears), ((d_t 5), ai k 20 r_t_pushes), ((d_t 6), ai k 20 r_t_helpers), ((d_p1 6), ai k 18 r_p1_kinds)]) (rest := []) F hA hB (c_Row_arrive l D k a_t d_t i_t a_p1 d_p1 i_p1 r_p1_halts _  hf) ml_RX8_99 mv_yX8_arrive [0, 1, 2] [3, 4, 5, 6, 7, 8, 9, 10] rfl rfl (by decide) (by decide) (by decide) 0 rfl rfl rfl hl.1 rfl (Nat.le_of_ble_eq_true rfl) ⟨Nat.le_of_ble_eq_true rfl, Nat.le_of_ble_eq_true rfl⟩ ⟨Nat.le_of_ble_eq_true rfl, Nat.le_of_ble_eq_true rfl⟩ dX8_takeOn_2 (fun z_2 w1 H locs hq hB => ?_)
  obtain ⟨i_t_1, rfl, hf⟩ := hq
  replace hB : Bd D A s.heap (wd_Row_takeOn k a_t d_t i_t_1 a_p1 d_p1 i_p1 r_p1_halts r_t_kinds r_t_longs r_t_weights r_t_strengths r_t_wears r_t_pushes r_t_helpers r_p1_kinds) H locs := hB.sub [8, 9, 10, 0, 1, 2, 3, 4, 5, 6, 7] (by decide) rfl
  refine lv_istore_n (lv' := [(2, .int z_2), (0, .ref a_t), (1, .ref a_p1)]) hx hb dX8_takeOn_5 rfl hl (by decide) rfl (fun ls hl => ?_)
  refine lv_iload_n hx hb dX8_takeOn_6 rfl (lv_at hl 0 rfl) ?_
  refine lv_iconst (v := -1) hx hb dX8_takeOn_7 (by decide) ?_
  refine lv_icmp_eq (tgt := 21) hx hb dX8_takeOn_8 (by decide) (fun c_11 => ?_) (fun c_11 => ?_)
  · replace hf := hf.1 c_11
    exact r_v F hr hlk hB ⟨_, _, _, _, _, _, _, _, rfl, hf⟩ dX8_takeOn_21
  · replace hf := hf.2 c_11
    refine lv_aload_n hx hb dX8_takeOn_11 rfl (lv_at hl 1 rfl) ?_
    refine lv_aload_n hx hb dX8_takeOn_12 rfl (lv_at hl 1 rfl) ?_
    refine g_get (w := .int (i_t_1 8)) F hB 0 rfl fl_RX8_36 rfl dX8_takeOn_13 ?_
    refine lv_iload_n hx hb dX8_takeOn_16 rfl (lv_at hl 0 rfl) ?_
    refine lv_aload_n hx hb dX8_takeOn_17 rfl (lv_at hl 2 rfl) ?_
    refine k_vv (wr := [((d_p1 2), ai k 30 r_p1_halts)]) (rest := []) F hA hB (c_Row_insert l D k a_t d_t i_t_1 a_p1 d_p1 i_p1 r_t_kinds r_t_longs r_t_weights r_t_strengths r_t_wears r_t_pushes r_t_helpers r_p1_kinds (i_t_1 8) z_2 _  hf) ml_RX8_64 mv_yX8_insert [0, 1, 3, 4, 5, 6, 7, 8, 9, 10] [2] rfl rfl (by decide) (by decide) (by decide) 0 rfl rfl rfl hl.1 rfl (Nat.le_of_ble_eq_true rfl) ⟨Nat.le_of_ble_eq_true rfl, Nat.le_of_ble_eq_true rfl⟩ ⟨Nat.le_of_ble_eq_true rfl, Nat.le_of_ble_eq_true rfl⟩ dX8_takeOn_18 (fun w1 H locs hq hB => ?_)
    obtain ⟨i_t_3, r_t_kinds_4, r_t_longs_5, r_t_weights_6, r_t_strengths_7, r_t_wears_8, r_t_pushes_9, r_t_helpers_10, rfl, hf⟩ := hq
    replace hB : Bd D A s.heap (wd_Row_takeOn k a_t d_t i_t_3 a_p1 d_p1 i_p1 r_p1_halts r_t_kinds_4 r_t_longs_5 r_t_weights_6 r_t_strengths_7 r_t_wears_8 r_t_pushes_9 r_t_helpers_10 r_p1_kinds) H locs := hB.sub [1, 2, 0, 3, 4, 5, 6, 7, 8, 9, 10] (by decide) rfl
    exact r_v F hr hlk hB ⟨_, _, _, _, _, _, _, _, rfl, hf⟩ dX8_takeOn_21

/-! LongTrain.Row.travel -/
set_option maxRecDepth 100000 in
set_option maxHeartbeats 4000000 in
theorem bt_Row_travel_5 {p : Program} {l : Launch} {e : Env} {s : State} {m : MethodId} {below : List Frame} {meth : Method} {c : Code} {A : Nat → Prop} {D : va_G} {k : Nat → ClassId} {a_t : Nat} {d_t : Nat → Nat} {a_p1 : Nat} {d_p1 : Nat → Nat} {i_p1 : Nat → Int32} {r_p1_halts : Nat → Int32} {r_p1_first : Nat → Int32} {r_p1_kinds : Nat → Int32} {n2 : Int32} {Q : (Nat → Int32) → (Nat → Int32) → (Nat → Int32) → (Nat → Int32) → (Nat → Int32) → (Nat → Int32) → (Nat → Int32) → (Nat → Int32) → Prop}  {x2 : Int32} {kx_5 : (Nat → Int32) → (Nat → Int32) → (Nat → Int32) → (Nat → Int32) → (Nat → Int32) → (Nat → Int32) → (Nat → Int32) → (Nat → Int32) → Prop} {kr_5 : (Nat → Int32) → (Nat → Int32) → (Nat → Int32) → (Nat → Int32) → (Nat → Int32) → (Nat → Int32) → (Nat → Int32) → (Nat → Int32) → Prop} (F : Fx p m c cX8_travel 3 s ([.ref a_t, .ref a_p1, .int n2] : List Value).toArray RX8 D k) (hr : meth.sig.returnType = none) (hlk : meth.locks = false) (hA : ∀ q : Nat, s.heap.size ≤ q → A q) (hkx_5 : ∀ (i_t : Nat → Int32) (r_t_kinds : Nat → Int32) (r_t_longs : Nat → Int32) (r_t_weights : Nat → Int32) (r_t_strengths : Nat → Int32) (r_t_wears : Nat → Int32) (r_t_pushes : Nat → Int32) (r_t_helpers : Nat → Int32) (H : Heap) (locs : List Loc) (ls : Array Slot), kx_5 i_t r_t_kinds r_t_longs r_t_weights r_t_strengths r_t_wears r_t_pushes r_t_helpers → Bd D A s.heap (wd_Row_travel k a_t d_t i_t a_p1 d_p1 i_p1 r_p1_halts r_p1_first r_t_kinds r_t_longs r_t_weights r_t_strengths r_t_wears r_t_pushes r_t_helpers r_p1_kinds) H locs → lv_has ls 3 [] → W p l e { frames := 3, cells := 0, slots := 0, locals := 68 } s m ([.ref a_t, .ref a_p1, .int n2] : List Value).toArray below meth c H locs 0 0 (Ev below (fun w => ∃ (i_t : Nat → Int32), ∃ (r_t_kinds : Nat → Int32), ∃ (r_t_longs : Nat → Int32), ∃ (r_t_weights : Nat → Int32), ∃ (r_t_strengths : Nat → Int32), ∃ (r_t_wears : Nat → Int32), ∃ (r_t_pushes : Nat → Int32), ∃ (r_t_helpers : Nat → Int32), w = (wd_Row_travel k a_t d_t i_t a_p1 d_p1 i_p1 r_p1_halts r_p1_first r_t_kinds r_t_longs r_t_weights r_t_strengths r_t_wears r_t_pushes r_t_helpers r_p1_kinds) ∧ Q i_t r_t_kinds r_t_longs r_t_weights r_t_strengths r_t_wears r_t_pushes r_t_helpers) D k A ([.ref a_t, .ref a_p1, .int n2] : List Value).toArray s 0 0) (F0 m 31 ls [])) (hkr_5 : ∀ (i_t : Nat → Int32) (r_t_kinds : Nat → Int32) (r_t_longs : Nat → Int32) (r_t_weights : Nat → Int32) (r_t_strengths : Nat → Int32) (r_t_wears : Nat → Int32) (r_t_pushes : Nat → Int32) (r_t_helpers : Nat → Int32) (H : Heap) (locs : List Loc) (ls : Array Slot), kr_5 i_t r_t_kinds r_t_longs r_t_weights r_t_strengths r_t_wears r_t_pushes r_t_helpers → Bd D A s.heap (wd_Row_travel k a_t d_t i_t a_p1 d_p1 i_p1 r_p1_halts r_p1_first r_t_kinds r_t_longs r_t_weights r_t_strengths r_t_wears r_t_pushes r_t_helpers r_p1_kinds) H locs → lv_has ls 3 [(0, .ref a_t), (1, .ref a_p1), (2, .int x2)] → W p l e { frames := 3, cells := 0, slots := 0, locals := 68 } s m ([.ref a_t, .ref a_p1, .int n2] : List Value).toArray below meth c H locs 0 0 (Ev below (fun w => ∃ (i_t : Nat → Int32), ∃ (r_t_kinds : Nat → Int32), ∃ (r_t_longs : Nat → Int32), ∃ (r_t_weights : Nat → Int32), ∃ (r_t_strengths : Nat → Int32), ∃ (r_t_wears : Nat → Int32), ∃ (r_t_pushes : Nat → Int32), ∃ (r_t_helpers : Nat → Int32), w = (wd_Row_travel k a_t d_t i_t a_p1 d_p1 i_p1 r_p1_halts r_p1_first r_t_kinds r_t_longs r_t_weights r_t_strengths r_t_wears r_t_pushes r_t_helpers r_p1_kinds) ∧ Q i_t r_t_kinds r_t_longs r_t_weights r_t_strengths r_t_wears r_t_pushes r_t_helpers) D k A ([.ref a_t, .ref a_p1, .int n2] : List Value).toArray s 0 0) (F0 m 5 ls [])) :
    ∀ (i_t : Nat → Int32) (r_t_kinds : Nat → Int32) (r_t_longs : Nat → Int32) (r_t_weights : Nat → Int32) (r_t_strengths : Nat → Int32) (r_t_wears : Nat → Int32) (r_t_pushes : Nat → Int32) (r_t_helpers : Nat → Int32) (H : Heap) (locs : List Loc) (ls : Array Slot), b_Row_travel_5 i_p1 r_p1_halts r_p1_kinds x2 kx_5 kr_5 i_t r_t_kinds r_t_longs r_t_weights r_t_strengths r_t_wears r_t_pushes r_t_helpers → Bd D A s.heap (wd_Row_travel k a_t d_t i_t a_p1 d_p1 i_p1 r_p1_halts r_p1_first r_t_kinds r_t_longs r_t_weights r_t_strengths r_t_wears r_t_pushes r_t_helpers r_p1_kinds) H locs → lv_has ls 3 [(0, .ref a_t), (1, .ref a_p1), (2, .int x2)] → W p l e { frames := 3, cells := 0, slots := 0, locals := 68 } s m ([.ref a_t, .ref a_p1, .int n2] : List Value).toArray below meth c H locs 0 0 (Ev below (fun w => ∃ (i_t : Nat → Int32), ∃ (r_t_kinds : Nat → Int32), ∃ (r_t_longs : Nat → Int32), ∃ (r_t_weights : Nat → Int32), ∃ (r_t_strengths : Nat → Int32), ∃ (r_t_wears : Nat → Int32), ∃ (r_t_pushes : Nat → Int32), ∃ (r_t_helpers : Nat → Int32), w = (wd_Row_travel k a_t d_t i_t a_p1 d_p1 i_p1 r_p1_halts r_p1_first r_t_kinds r_t_longs r_t_weights r_t_strengths r_t_wears r_t_pushes r_t_helpers r_p1_kinds) ∧ Q i_t r_t_kinds r_t_longs r_t_weights r_t_strengths r_t_wears r_t_pushes r_t_helpers) D k A ([.ref a_t, .ref a_p1, .int n2] : List Value).toArray s 0 0) (F0 m 5 ls []) := by
  have hx := F.x
  have hb := F.b
  intro i_t r_t_kinds r_t_longs r_t_weights r_t_strengths r_t_wears r_t_pushes r_t_helpers H locs ls hf hB hl
  unfold b_Row_travel_5 at hf
  refine lv_aload_n hx hb dX8_travel_5 rfl (lv_at hl 0 rfl) ?_
  refine g_get (w := .int (i_t 10)) F hB 0 rfl fl_RX8_43 rfl dX8_travel_6 ?_
  refine lv_iload_n hx hb dX8_travel_9 rfl (lv_at hl 2 rfl) ?_
  refine lv_icmp_ge (tgt := 31) hx hb dX8_travel_10 (by decide) (fun c_17 => ?_) (fun c_17 => ?_)
  · replace hf := hf.1 c_17
    exact hkx_5 _ _ _ _ _ _ _ _ _ _ _ hf hB (lv_sub hl [] rfl)
  · replace hf := hf.2 c_17
    refine lv_aload_n hx hb dX8_travel_13 rfl (lv_at hl 0 rfl) ?_
    refine lv_aload_n hx hb dX8_travel_14 rfl (lv_at hl 1 rfl) ?_
    refine k_vv (wr := [((d_p1 8), ai k 8 r_p1_first)]) (rest := []) F hA hB (c_Row_takeOn l D k a_t d_t i_t a_p1 d_p1 i_p1 r_p1_halts r_t_kinds r_t_longs r_t_weights r_t_strengths r_t_wears r_t_pushes r_t_helpers r_p1_kinds _  hf) ml_RX8_107 mv_yX8_takeOn [0, 1, 2, 4, 5, 6, 7, 8, 9, 10, 11] [3] rfl rfl (by decide) (by decide) (by decide) 0 rfl rfl rfl hl.1 rfl (Nat.le_of_ble_eq_true rfl) ⟨Nat.le_of_ble_eq_true rfl, Nat.le_of_ble_eq_true rfl⟩ ⟨Nat.le_of_ble_eq_true rfl, Nat.le_of_ble_eq_true rfl⟩ dX8_travel_15 (fun w1 H locs hq hB => ?_)
    obtain ⟨i_t_9, r_t_kinds_10, r_t_longs_11, r_t_weights_12, r_t_strengths_13, r_t_wears_14, r_t_pushes_15, r_t_helpers_16, rfl, hf⟩ := hq
    replace hB : Bd D A s.heap (wd_Row_travel k a_t d_t i_t_9 a_p1 d_p1 i_p1 r_p1_halts r_p1_first r_t_kinds_10 r_t_longs_11 r_t_weights_12 r_t_strengths_13 r_t_wears_14 r_t_pushes_15 r_t_helpers_16 r_p1_kinds) H locs := hB.sub [1, 2, 3, 0, 4, 5, 6, 7, 8, 9, 10, 11] (by decide) rfl
    refine lv_aload_n hx hb dX8_travel_18 rfl (lv_at hl 0 rfl) ?_
    refine lv_dup hx hb dX8_travel_19 rfl ?_
    refine g_get (w := .int (i_t_9 10)) F hB 0 rfl fl_RX8_43 rfl dX8_travel_20 ?_
    refine lv_iconst (v := 1) hx hb dX8_travel_23 (by decide) ?_
    refine lv_iadd hx hb dX8_travel_24 ?_
    refine g_puti F hB 0 rfl fl_RX8_43 rfl (wd_Row_travel k a_t d_t (upd i_t_9 10 ((i_t_9 10) + (1 : Int32))) a_p1 d_p1 i_p1 r_p1_halts r_p1_first r_t_kinds_10 r_t_longs_11 r_t_weights_12 r_t_strengths_13 r_t_wears_14 r_t_pushes_15 r_t_helpers_16 r_p1_kinds) rfl dX8_travel_25 (fun H locs hB => ?_)
    refine lv_goto (tgt := 5) hx hb dX8_travel_28 (by decide) ?_
    exact hkr_5 _ _ _ _ _ _ _ _ _ _ _ hf hB (lv_sub hl [0, 1, 2] rfl)

set_option maxRecDepth 100000 in
set_option maxHeartbeats 4000000 in
theorem lt_Row_travel_5 {p : Program} {l : Launch} {e : Env} {s : State} {m : MethodId} {below : List Frame} {meth : Method} {c : Code} {A : Nat → Prop} {D : va_G} {k : Nat → ClassId} {a_t : Nat} {d_t : Nat → Nat} {a_p1 : Nat} {d_p1 : Nat → Nat} {i_p1 : Nat → Int32} {r_p1_halts : Nat → Int32} {r_p1_first : Nat → Int32} {r_p1_kinds : Nat → Int32} {n2 : Int32} {Q : (Nat → Int32) → (Nat → Int32) → (Nat → Int32) → (Nat → Int32) → (Nat → Int32) → (Nat → Int32) → (Nat → Int32) → (Nat → Int32) → Prop}  {x2 : Int32} {kx_5 : (Nat → Int32) → (Nat → Int32) → (Nat → Int32) → (Nat → Int32) → (Nat → Int32) → (Nat → Int32) → (Nat → Int32) → (Nat → Int32) → Prop} (F : Fx p m c cX8_travel 3 s ([.ref a_t, .ref a_p1, .int n2] : List Value).toArray RX8 D k) (hr : meth.sig.returnType = none) (hlk : meth.locks = false) (hA : ∀ q : Nat, s.heap.size ≤ q → A q) (hkx_5 : ∀ (i_t : Nat → Int32) (r_t_kinds : Nat → Int32) (r_t_longs : Nat → Int32) (r_t_weights : Nat → Int32) (r_t_strengths : Nat → Int32) (r_t_wears : Nat → Int32) (r_t_pushes : Nat → Int32) (r_t_helpers : Nat → Int32) (H : Heap) (locs : List Loc) (ls : Array Slot), kx_5 i_t r_t_kinds r_t_longs r_t_weights r_t_strengths r_t_wears r_t_pushes r_t_helpers → Bd D A s.heap (wd_Row_travel k a_t d_t i_t a_p1 d_p1 i_p1 r_p1_halts r_p1_first r_t_kinds r_t_longs r_t_weights r_t_strengths r_t_wears r_t_pushes r_t_helpers r_p1_kinds) H locs → lv_has ls 3 [] → W p l e { frames := 3, cells := 0, slots := 0, locals := 68 } s m ([.ref a_t, .ref a_p1, .int n2] : List Value).toArray below meth c H locs 0 0 (Ev below (fun w => ∃ (i_t : Nat → Int32), ∃ (r_t_kinds : Nat → Int32), ∃ (r_t_longs : Nat → Int32), ∃ (r_t_weights : Nat → Int32), ∃ (r_t_strengths : Nat → Int32), ∃ (r_t_wears : Nat → Int32), ∃ (r_t_pushes : Nat → Int32), ∃ (r_t_helpers : Nat → Int32), w = (wd_Row_travel k a_t d_t i_t a_p1 d_p1 i_p1 r_p1_halts r_p1_first r_t_kinds r_t_longs r_t_weights r_t_strengths r_t_wears r_t_pushes r_t_helpers r_p1_kinds) ∧ Q i_t r_t_kinds r_t_longs r_t_weights r_t_strengths r_t_wears r_t_pushes r_t_helpers) D k A ([.ref a_t, .ref a_p1, .int n2] : List Value).toArray s 0 0) (F0 m 31 ls [])) :
    ∀ n : Nat, ∀ (i_t : Nat → Int32) (r_t_kinds : Nat → Int32) (r_t_longs : Nat → Int32) (r_t_weights : Nat → Int32) (r_t_strengths : Nat → Int32) (r_t_wears : Nat → Int32) (r_t_pushes : Nat → Int32) (r_t_helpers : Nat → Int32) (H : Heap) (locs : List Loc) (ls : Array Slot), lp_Row_travel_5 i_p1 r_p1_halts r_p1_kinds x2 kx_5 n i_t r_t_kinds r_t_longs r_t_weights r_t_strengths r_t_wears r_t_pushes r_t_helpers → Bd D A s.heap (wd_Row_travel k a_t d_t i_t a_p1 d_p1 i_p1 r_p1_halts r_p1_first r_t_kinds r_t_longs r_t_weights r_t_strengths r_t_wears r_t_pushes r_t_helpers r_p1_kinds) H locs → lv_has ls 3 [(0, .ref a_t), (1, .ref a_p1), (2, .int x2)] → W p l e { frames := 3, cells := 0, slots := 0, locals := 68 } s m ([.ref a_t, .ref a_p1, .int n2] : List Value).toArray below meth c H locs 0 0 (Ev below (fun w => ∃ (i_t : Nat → Int32), ∃ (r_t_kinds : Nat → Int32), ∃ (r_t_longs : Nat → Int32), ∃ (r_t_weights : Nat → Int32), ∃ (r_t_strengths : Nat → Int32), ∃ (r_t_wears : Nat → Int32), ∃ (r_t_pushes : Nat → Int32), ∃ (r_t_helpers : Nat → Int32), w = (wd_Row_travel k a_t d_t i_t a_p1 d_p1 i_p1 r_p1_halts r_p1_first r_t_kinds r_t_longs r_t_weights r_t_strengths r_t_wears r_t_pushes r_t_helpers r_p1_kinds) ∧ Q i_t r_t_kinds r_t_longs r_t_weights r_t_strengths r_t_wears r_t_pushes r_t_helpers) D k A ([.ref a_t, .ref a_p1, .int n2] : List Value).toArray s 0 0) (F0 m 5 ls []) := by
  intro n
  induction n with
  | zero => intro i_t r_t_kinds r_t_longs r_t_weights r_t_strengths r_t_wears r_t_pushes r_t_helpers H locs ls hf; exact absurd hf (fun h => h)
  | succ n ih => exact bt_Row_travel_5 F hr hlk hA hkx_5 ih

set_option maxRecDepth 100000 in
set_option maxHeartbeats 4000000 in
theorem c_Row_travel (l : Launch) (D : va_G) (k : Nat → ClassId) (a_t : Nat) (d_t : Nat → Nat) (i_t : Nat → Int32) (a_p1 : Nat) (d_p1 : Nat → Nat) (i_p1 : Nat → Int32) (r_p1_halts : Nat → Int32) (r_p1_first : Nat → Int32) (r_t_kinds : Nat → Int32) (r_t_longs : Nat → Int32) (r_t_weights : Nat → Int32) (r_t_strengths : Nat → Int32) (r_t_wears : Nat → Int32) (r_t_pushes : Nat → Int32) (r_t_helpers : Nat → Int32) (r_p1_kinds : Nat → Int32) (n2 : Int32) (Q : (Nat → Int32) → (Nat → Int32) → (Nat → Int32) → (Nat → Int32) → (Nat → Int32) → (Nat → Int32) → (Nat → Int32) → (Nat → Int32) → Prop)  (hf : w_Row_travel i_t i_p1 r_p1_halts r_p1_first r_t_kinds r_t_longs r_t_weights r_t_strengths r_t_wears r_t_pushes r_t_helpers r_p1_kinds n2 Q) : CtV l yX8_travel cX8_travel 3 none 3 68 0 0 D k [.ref a_t, .ref a_p1, .int n2] (wd_Row_travel k a_t d_t i_t a_p1 d_p1 i_p1 r_p1_halts r_p1_first r_t_kinds r_t_longs r_t_weights r_t_strengths r_t_wears r_t_pushes r_t_helpers r_p1_kinds) (fun w => ∃ (i_t : Nat → Int32), ∃ (r_t_kinds : Nat → Int32), ∃ (r_t_longs : Nat → Int32), ∃ (r_t_weights : Nat → Int32), ∃ (r_t_strengths : Nat → Int32), ∃ (r_t_wears : Nat → Int32), ∃ (r_t_pushes : Nat → Int32), ∃ (r_t_helpers : Nat → Int32), w = (wd_Row_travel k a_t d_t i_t a_p1 d_p1 i_p1 r_p1_halts r_p1_first r_t_kinds r_t_longs r_t_weights r_t_strengths r_t_wears r_t_pushes r_t_helpers r_p1_kinds) ∧ Q i_t r_t_kinds r_t_longs r_t_weights r_t_strengths r_t_wears r_t_pushes r_t_helpers) := by
  refine CtV.of (by decide) (Nat.le_of_ble_eq_true rfl) ?_
  intro p e s m below meth c A F hr hlk hnm hA hB ls hl
  have hx := F.x
  have hb := F.b
  unfold w_Row_travel at hf
  replace hl : lv_has ls 3 [(0, .ref a_t), (1, .ref a_p1), (2, .int n2)] := hl
  refine lv_aload_n hx hb dX8_travel_0 rfl (lv_at hl 0 rfl) ?_
  refine lv_aload_n hx hb dX8_travel_1 rfl (lv_at hl 1 rfl) ?_
  refine k_vv (wr := []) (rest := []) F hA hB (c_Row_begin l D k a_t d_t i_t a_p1 d_p1 i_p1 r_p1_halts r_p1_first r_t_kinds r_t_longs r_t_weights r_t_strengths r_t_wears r_t_pushes r_t_helpers r_p1_kinds _  hf) ml_RX8_103 mv_yX8_begin [0, 1, 2, 3, 4, 5, 6, 7, 8, 9, 10, 11] [] rfl rfl (by decide) (by decide) (by decide) 0 rfl rfl rfl hl.1 rfl (Nat.le_of_ble_eq_true rfl) ⟨Nat.le_of_ble_eq_true rfl, Nat.le_of_ble_eq_true rfl⟩ ⟨Nat.le_of_ble_eq_true rfl, Nat.le_of_ble_eq_true rfl⟩ dX8_travel_2 (fun w1 H locs hq hB => ?_)
  obtain ⟨i_t_1, r_t_kinds_2, r_t_longs_3, r_t_weights_4, r_t_strengths_5, r_t_wears_6, r_t_pushes_7, r_t_helpers_8, rfl, hf⟩ := hq
  replace hB : Bd D A s.heap (wd_Row_travel k a_t d_t i_t_1 a_p1 d_p1 i_p1 r_p1_halts r_p1_first r_t_kinds_2 r_t_longs_3 r_t_weights_4 r_t_strengths_5 r_t_wears_6 r_t_pushes_7 r_t_helpers_8 r_p1_kinds) H locs := hB.sub [0, 1, 2, 3, 4, 5, 6, 7, 8, 9, 10, 11] (by decide) rfl
  obtain ⟨n_26, hf⟩ := hf
  refine lt_Row_travel_5 F hr hlk hA (fun i_t_18 r_t_kinds_19 r_t_longs_20 r_t_weights_21 r_t_strengths_22 r_t_wears_23 r_t_pushes_24 r_t_helpers_25 H locs ls hf hB hl => ?_) n_26 _ _ _ _ _ _ _ _ _ _ _ hf hB (lv_sub hl [0, 1, 2] rfl)
  exact r_v F hr hlk hB ⟨_, _, _, _, _, _, _, _, rfl, hf⟩ dX8_travel_31

/-! LongTrain.Row.measure -/
set_option maxRecDepth 100000 in
set_option maxHeartbeats 4000000 in
theorem bt_Row_measure_22 {p : Program} {l : Launch} {e : Env} {s : State} {m : MethodId} {below : List Frame} {meth : Method} {c : Code} {A : Nat → Prop} {D : va_G} {k : Nat → ClassId} {a_t : Nat} {d_t : Nat → Nat} {i_t : Nat → Int32} {a_p1 : Nat} {d_p1 : Nat → Nat} {i_p1 : Nat → Int32} {r_t_longs : Nat → Int32} {r_p1_grades : Nat → Int32} {r_t_weights : Nat → Int32} {r_t_pushes : Nat → Int32}  {Q : Int32 → (Nat → Int32) → Prop}  {kx_22 : (Int32) → (Nat → Int32) → Prop} {kr_22 : (Int32) → (Int32) → (Int32) → (Nat → Int32) → Prop} (F : Fx p m c cX8_measure 5 s ([.ref a_t, .ref a_p1] : List Value).toArray RX8 D k) (hr : meth.sig.returnType = (some .int)) (hlk : meth.locks = false) (hA : ∀ q : Nat, s.heap.size ≤ q → A q) (hkx_22 : ∀ (x3 : Int32) (r_t_bears : Nat → Int32) (H : Heap) (locs : List Loc) (ls : Array Slot), kx_22 x3 r_t_bears → Bd D A s.heap (wd_Row_measure k a_t d_t i_t a_p1 d_p1 i_p1 r_t_longs r_p1_grades r_t_weights r_t_pushes r_t_bears) H locs → lv_has ls 5 [(0, .ref a_t), (1, .ref a_p1), (3, .int x3)] → W p l e { frames := 2, cells := 0, slots := 0, locals := 43 } s m ([.ref a_t, .ref a_p1] : List Value).toArray below meth c H locs 0 0 (Ei below (fun r w => ∃ (r_t_bears : Nat → Int32), w = (wd_Row_measure k a_t d_t i_t a_p1 d_p1 i_p1 r_t_longs r_p1_grades r_t_weights r_t_pushes r_t_bears) ∧ Q r r_t_bears) D k A ([.ref a_t, .ref a_p1] : List Value).toArray s 0 0) (F0 m 80 ls [])) (hkr_22 : ∀ (x2 : Int32) (x3 : Int32) (x4 : Int32) (r_t_bears : Nat → Int32) (H : Heap) (locs : List Loc) (ls : Array Slot), kr_22 x2 x3 x4 r_t_bears → Bd D A s.heap (wd_Row_measure k a_t d_t i_t a_p1 d_p1 i_p1 r_t_longs r_p1_grades r_t_weights r_t_pushes r_t_bears) H locs → lv_has ls 5 [(0, .ref a_t), (1, .ref a_p1), (2, .int x2), (3, .int x3), (4, .int x4)] → W p l e { frames := 2, cells := 0, slots := 0, locals := 43 } s m ([.ref a_t, .ref a_p1] : List Value).toArray below meth c H locs 0 0 (Ei below (fun r w => ∃ (r_t_bears : Nat → Int32), w = (wd_Row_measure k a_t d_t i_t a_p1 d_p1 i_p1 r_t_longs r_p1_grades r_t_weights r_t_pushes r_t_bears) ∧ Q r r_t_bears) D k A ([.ref a_t, .ref a_p1] : List Value).toArray s 0 0) (F0 m 22 ls [])) :
    ∀ (x2 : Int32) (x3 : Int32) (x4 : Int32) (r_t_bears : Nat → Int32) (H : Heap) (locs : List Loc) (ls : Array Slot), b_Row_measure_22 i_p1 r_t_longs r_p1_grades r_t_weights r_t_pushes kx_22 kr_22 x2 x3 x4 r_t_bears → Bd D A s.heap (wd_Row_measure k a_t d_t i_t a_p1 d_p1 i_p1 r_t_longs r_p1_grades r_t_weights r_t_pushes r_t_bears) H locs → lv_has ls 5 [(0, .ref a_t), (1, .ref a_p1), (2, .int x2), (3, .int x3), (4, .int x4)] → W p l e { frames := 2, cells := 0, slots := 0, locals := 43 } s m ([.ref a_t, .ref a_p1] : List Value).toArray below meth c H locs 0 0 (Ei below (fun r w => ∃ (r_t_bears : Nat → Int32), w = (wd_Row_measure k a_t d_t i_t a_p1 d_p1 i_p1 r_t_longs r_p1_grades r_t_weights r_t_pushes r_t_bears) ∧ Q r r_t_bears) D k A ([.ref a_t, .ref a_p1] : List Value).toArray s 0 0) (F0 m 22 ls []) := by
  have hx := F.x
  have hb := F.b
  intro x2 x3 x4 r_t_bears H locs ls hf hB hl
  unfold b_Row_measure_22 at hf
  refine lv_iload hx hb dX8_measure_22 (lv_at hl 4 rfl) ?_
  refine lv_if_lt (tgt := 80) hx hb dX8_measure_24 (by decide) (fun c_6 => ?_) (fun c_6 => ?_)
  · replace hf := hf.1 c_6
    exact hkx_22 _ _ _ _ _ hf hB (lv_sub hl [0, 1, 3] rfl)
  · replace hf := hf.2 c_6
    refine lv_iload_n hx hb dX8_measure_27 rfl (lv_at hl 2 rfl) ?_
    refine lv_aload_n hx hb dX8_measure_28 rfl (lv_at hl 0 rfl) ?_
    refine g_get (w := .ref (d_t 1)) F hB 0 rfl fl_RX8_15 rfl dX8_measure_29 ?_
    refine lv_iload hx hb dX8_measure_32 (lv_at hl 4 rfl) ?_
    obtain ⟨h_1, hf⟩ := hf
    refine g_iald F hB 2 rfl h_1 dX8_measure_34 ?_
    refine lv_iadd hx hb dX8_measure_35 ?_
    refine lv_istore_n (lv' := [(2, .int (x2 + (r_t_longs (x4).toNatClampNeg))), (0, .ref a_t), (1, .ref a_p1), (3, .int x3), (4, .int x4)]) hx hb dX8_measure_36 rfl hl (by decide) rfl (fun ls hl => ?_)
    refine lv_iload_n hx hb dX8_measure_37 rfl (lv_at hl 3 rfl) ?_
    refine lv_aload_n hx hb dX8_measure_38 rfl (lv_at hl 1 rfl) ?_
    refine g_get (w := .ref (d_t 2)) F hB 0 rfl fl_RX8_18 rfl dX8_measure_39 ?_
    refine lv_iload hx hb dX8_measure_42 (lv_at hl 4 rfl) ?_
    obtain ⟨h_2, hf⟩ := hf
    refine g_iald F hB 4 rfl h_2 dX8_measure_44 ?_
    refine lv_aload_n hx hb dX8_measure_45 rfl (lv_at hl 2 rfl) ?_
    refine lv_iload_n hx hb dX8_measure_46 rfl (lv_at hl 0 rfl) ?_
    refine k_vi (wr := [(a_t, ob 8 (rfd d_t) i_t j0), ((d_t 1), ai k 20 r_t_longs), ((d_t 2), ai k 20 r_t_weights), ((d_t 5), ai k 20 r_t_pushes), ((d_t 7), ai k 20 r_t_bears)]) (rest := [.int (r_t_weights (x4).toNatClampNeg), .int x3]) F hA hB (c_Line_gradeOf l D k a_p1 d_p1 i_p1 r_p1_grades (x2 + (r_t_longs (x4).toNatClampNeg)) _  hf) ml_RX8_110 mv_yX3_gradeOf [1, 3] [0, 2, 4, 5, 6] rfl rfl (by decide) (by decide) (by decide) 1 rfl rfl rfl hl.1 rfl (Nat.le_of_ble_eq_true rfl) ⟨Nat.le_of_ble_eq_true rfl, Nat.le_of_ble_eq_true rfl⟩ ⟨Nat.le_of_ble_eq_true rfl, Nat.le_of_ble_eq_true rfl⟩ dX8_measure_47 (fun z_3 w1 H locs hq hB => ?_)
    obtain ⟨rfl, hf⟩ := hq
    replace hB : Bd D A s.heap (wd_Row_measure k a_t d_t i_t a_p1 d_p1 i_p1 r_t_longs r_p1_grades r_t_weights r_t_pushes r_t_bears) H locs := hB.sub [0, 5, 1, 6, 2, 3, 4] (by decide) rfl
    refine lv_aload_n hx hb dX8_measure_50 rfl (lv_at hl 2 rfl) ?_
    refine g_get (w := .int (i_p1 12)) F hB 1 rfl fl_RX8_113 rfl dX8_measure_51 ?_
    refine lv_iadd hx hb dX8_measure_54 ?_
    refine lv_imul hx hb dX8_measure_55 ?_
    refine lv_aload_n hx hb dX8_measure_56 rfl (lv_at hl 1 rfl) ?_
    refine g_get (w := .ref (d_t 5)) F hB 0 rfl fl_RX8_27 rfl dX8_measure_57 ?_
    refine lv_iload hx hb dX8_measure_60 (lv_at hl 4 rfl) ?_
    obtain ⟨h_4, hf⟩ := hf
    refine g_iald F hB 5 rfl h_4 dX8_measure_62 ?_
    refine lv_isub hx hb dX8_measure_63 ?_
    refine lv_iadd hx hb dX8_measure_64 ?_
    refine lv_istore_n (lv' := [(3, .int (x3 + (((r_t_weights (x4).toNatClampNeg) * (z_3 + (i_p1 12))) - (r_t_pushes (x4).toNatClampNeg)))), (2, .int (x2 + (r_t_longs (x4).toNatClampNeg))), (0, .ref a_t), (1, .ref a_p1), (4, .int x4)]) hx hb dX8_measure_65 rfl hl (by decide) rfl (fun ls hl => ?_)
    refine lv_aload_n hx hb dX8_measure_66 rfl (lv_at hl 2 rfl) ?_
    refine g_get (w := .ref (d_t 7)) F hB 0 rfl fl_RX8_33 rfl dX8_measure_67 ?_
    refine lv_iload hx hb dX8_measure_70 (lv_at hl 4 rfl) ?_
    refine lv_iload_n hx hb dX8_measure_72 rfl (lv_at hl 0 rfl) ?_
    obtain ⟨h_5, hf⟩ := hf
    refine g_iast F hB 6 rfl h_5 (wd_Row_measure k a_t d_t i_t a_p1 d_p1 i_p1 r_t_longs r_p1_grades r_t_weights r_t_pushes (upd r_t_bears (x4).toNatClampNeg (x3 + (((r_t_weights (x4).toNatClampNeg) * (z_3 + (i_p1 12))) - (r_t_pushes (x4).toNatClampNeg))))) rfl dX8_measure_73 (fun H locs hB => ?_)
    refine lv_iinc (v := (x4 + (-1))) (lv' := [(4, .int (x4 + (-1))), (3, .int (x3 + (((r_t_weights (x4).toNatClampNeg) * (z_3 + (i_p1 12))) - (r_t_pushes (x4).toNatClampNeg)))), (2, .int (x2 + (r_t_longs (x4).toNatClampNeg))), (0, .ref a_t), (1, .ref a_p1)]) (k := 4) hx hb dX8_measure_74 hl rfl rfl (by decide) rfl (fun ls hl => ?_)
    refine lv_goto (tgt := 22) hx hb dX8_measure_77 (by decide) ?_
    exact hkr_22 _ _ _ _ _ _ _ hf hB (lv_sub hl [3, 4, 2, 1, 0] rfl)

set_option maxRecDepth 100000 in
set_option maxHeartbeats 4000000 in
theorem lt_Row_measure_22 {p : Program} {l : Launch} {e : Env} {s : State} {m : MethodId} {below : List Frame} {meth : Method} {c : Code} {A : Nat → Prop} {D : va_G} {k : Nat → ClassId} {a_t : Nat} {d_t : Nat → Nat} {i_t : Nat → Int32} {a_p1 : Nat} {d_p1 : Nat → Nat} {i_p1 : Nat → Int32} {r_t_longs : Nat → Int32} {r_p1_grades : Nat → Int32} {r_t_weights : Nat → Int32} {r_t_pushes : Nat → Int32}  {Q : Int32 → (Nat → Int32) → Prop}  {kx_22 : (Int32) → (Nat → Int32) → Prop} (F : Fx p m c cX8_measure 5 s ([.ref a_t, .ref a_p1] : List Value).toArray RX8 D k) (hr : meth.sig.returnType = (some .int)) (hlk : meth.locks = false) (hA : ∀ q : Nat, s.heap.size ≤ q → A q) (hkx_22 : ∀ (x3 : Int32) (r_t_bears : Nat → Int32) (H : Heap) (locs : List Loc) (ls : Array Slot), kx_22 x3 r_t_bears → Bd D A s.heap (wd_Row_measure k a_t d_t i_t a_p1 d_p1 i_p1 r_t_longs r_p1_grades r_t_weights r_t_pushes r_t_bears) H locs → lv_has ls 5 [(0, .ref a_t), (1, .ref a_p1), (3, .int x3)] → W p l e { frames := 2, cells := 0, slots := 0, locals := 43 } s m ([.ref a_t, .ref a_p1] : List Value).toArray below meth c H locs 0 0 (Ei below (fun r w => ∃ (r_t_bears : Nat → Int32), w = (wd_Row_measure k a_t d_t i_t a_p1 d_p1 i_p1 r_t_longs r_p1_grades r_t_weights r_t_pushes r_t_bears) ∧ Q r r_t_bears) D k A ([.ref a_t, .ref a_p1] : List Value).toArray s 0 0) (F0 m 80 ls [])) :
    ∀ n : Nat, ∀ (x2 : Int32) (x3 : Int32) (x4 : Int32) (r_t_bears : Nat → Int32) (H : Heap) (locs : List Loc) (ls : Array Slot), lp_Row_measure_22 i_p1 r_t_longs r_p1_grades r_t_weights r_t_pushes kx_22 n x2 x3 x4 r_t_bears → Bd D A s.heap (wd_Row_measure k a_t d_t i_t a_p1 d_p1 i_p1 r_t_longs r_p1_grades r_t_weights r_t_pushes r_t_bears) H locs → lv_has ls 5 [(0, .ref a_t), (1, .ref a_p1), (2, .int x2), (3, .int x3), (4, .int x4)] → W p l e { frames := 2, cells := 0, slots := 0, locals := 43 } s m ([.ref a_t, .ref a_p1] : List Value).toArray below meth c H locs 0 0 (Ei below (fun r w => ∃ (r_t_bears : Nat → Int32), w = (wd_Row_measure k a_t d_t i_t a_p1 d_p1 i_p1 r_t_longs r_p1_grades r_t_weights r_t_pushes r_t_bears) ∧ Q r r_t_bears) D k A ([.ref a_t, .ref a_p1] : List Value).toArray s 0 0) (F0 m 22 ls []) := by
  intro n
  induction n with
  | zero => intro x2 x3 x4 r_t_bears H locs ls hf; exact absurd hf (fun h => h)
  | succ n ih => exact bt_Row_measure_22 F hr hlk hA hkx_22 ih

set_option maxRecDepth 100000 in
set_option maxHeartbeats 4000000 in
theorem c_Row_measure (l : Launch) (D : va_G) (k : Nat → ClassId) (a_t : Nat) (d_t : Nat → Nat) (i_t : Nat → Int32) (a_p1 : Nat) (d_p1 : Nat → Nat) (i_p1 : Nat → Int32) (r_t_longs : Nat → Int32) (r_p1_grades : Nat → Int32) (r_t_weights : Nat → Int32) (r_t_pushes : Nat → Int32) (r_t_bears : Nat → Int32)  (Q : Int32 → (Nat → Int32) → Prop)  (hf : w_Row_measure i_t i_p1 r_t_longs r_p1_grades r_t_weights r_t_pushes r_t_bears Q) : CtI l yX8_measure cX8_measure 5 (some .int) 2 43 0 0 D k [.ref a_t, .ref a_p1] (wd_Row_measure k a_t d_t i_t a_p1 d_p1 i_p1 r_t_longs r_p1_grades r_t_weights r_t_pushes r_t_bears) (fun r w => ∃ (r_t_bears : Nat → Int32), w = (wd_Row_measure k a_t d_t i_t a_p1 d_p1 i_p1 r_t_longs r_p1_grades r_t_weights r_t_pushes r_t_bears) ∧ Q r r_t_bears) := by
  refine CtI.of (by decide) (Nat.le_of_ble_eq_true rfl) ?_
  intro p e s m below meth c A F hr hlk hnm hA hB ls hl
  have hx := F.x
  have hb := F.b
  unfold w_Row_measure at hf
  replace hl : lv_has ls 5 [(0, .ref a_t), (1, .ref a_p1)] := hl
  refine lv_aload_n hx hb dX8_measure_0 rfl (lv_at hl 0 rfl) ?_
  refine g_get (w := .int (i_t 10)) F hB 0 rfl fl_RX8_43 rfl dX8_measure_1 ?_
  refine lv_iconst (v := 1) hx hb dX8_measure_4 (by decide) ?_
  refine lv_isub hx hb dX8_measure_5 ?_
  refine lv_aload_n hx hb dX8_measure_6 rfl (lv_at hl 0 rfl) ?_
  refine g_get (w := .int (i_t 9)) F hB 0 rfl fl_RX8_40 rfl dX8_measure_7 ?_
  refine lv_isub hx hb dX8_measure_10 ?_
  refine lv_istore_n (lv' := [(2, .int (((i_t 10) - (1 : Int32)) - (i_t 9))), (0, .ref a_t), (1, .ref a_p1)]) hx hb dX8_measure_11 rfl hl (by decide) rfl (fun ls hl => ?_)
  refine lv_iconst (v := 0) hx hb dX8_measure_12 (by decide) ?_
  refine lv_istore_n (lv' := [(3, .int (0 : Int32)), (2, .int (((i_t 10) - (1 : Int32)) - (i_t 9))), (0, .ref a_t), (1, .ref a_p1)]) hx hb dX8_measure_13 rfl hl (by decide) rfl (fun ls hl => ?_)
  refine lv_aload_n hx hb dX8_measure_14 rfl (lv_at hl 2 rfl) ?_
  refine g_get (w := .int (i_t 8)) F hB 0 rfl fl_RX8_36 rfl dX8_measure_15 ?_
  refine lv_iconst (v := 1) hx hb dX8_measure_18 (by decide) ?_
  refine lv_isub hx hb dX8_measure_19 ?_
  refine lv_istore (lv' := [(4, .int ((i_t 8) - (1 : Int32))), (3, .int (0 : Int32)), (2, .int (((i_t 10) - (1 : Int32)) - (i_t 9))), (0, .ref a_t), (1, .ref a_p1)]) hx hb dX8_measure_20 hl (by decide) rfl (fun ls hl => ?_)
  obtain ⟨n_10, hf⟩ := hf
  refine lt_Row_measure_22 F hr hlk hA (fun x3_7 r_t_bears_8 H locs ls hf hB hl => ?_) n_10 _ _ _ _ _ _ _ hf hB (lv_sub hl [3, 4, 2, 1, 0] rfl)
  refine lv_iload_n hx hb dX8_measure_80 rfl (lv_at hl 2 rfl) ?_
  refine lv_aload_n hx hb dX8_measure_81 rfl (lv_at hl 1 rfl) ?_
  refine lv_aload_n hx hb dX8_measure_82 rfl (lv_at hl 1 rfl) ?_
  refine g_get (w := .int (i_p1 11)) F hB 1 rfl fl_RX8_116 rfl dX8_measure_83 ?_
  refine lv_aload_n hx hb dX8_measure_86 rfl (lv_at hl 0 rfl) ?_
  refine g_get (w := .int (i_t 10)) F hB 0 rfl fl_RX8_43 rfl dX8_measure_87 ?_
  refine k_vi (wr := [(a_t, ob 8 (rfd d_t) i_t j0), ((d_t 1), ai k 20 r_t_longs), ((d_t 2), ai k 20 r_t_weights), ((d_t 5), ai k 20 r_t_pushes), ((d_t 7), ai k 20 r_t_bears_8)]) (rest := [.int x3_7]) F hA hB (c_Line_dragOf l D k a_p1 d_p1 i_p1 r_p1_grades (i_p1 11) (i_t 10) _  hf) ml_RX8_119 mv_yX3_dragOf [1, 3] [0, 2, 4, 5, 6] rfl rfl (by decide) (by decide) (by decide) 1 rfl rfl rfl hl.1 rfl (Nat.le_of_ble_eq_true rfl) ⟨Nat.le_of_ble_eq_true rfl, Nat.le_of_ble_eq_true rfl⟩ ⟨Nat.le_of_ble_eq_true rfl, Nat.le_of_ble_eq_true rfl⟩ dX8_measure_90 (fun z_9 w1 H locs hq hB => ?_)
  obtain ⟨rfl, hf⟩ := hq
  replace hB : Bd D A s.heap (wd_Row_measure k a_t d_t i_t a_p1 d_p1 i_p1 r_t_longs r_p1_grades r_t_weights r_t_pushes r_t_bears_8) H locs := hB.sub [0, 5, 1, 6, 2, 3, 4] (by decide) rfl
  refine lv_iadd hx hb dX8_measure_93 ?_
  exact r_i F hr hlk hB ⟨_, rfl, hf⟩ dX8_measure_94

/-! LongTrain.Row.borneBy -/
set_option maxRecDepth 100000 in
set_option maxHeartbeats 4000000 in
theorem c_Row_borneBy (l : Launch) (D : va_G) (k : Nat → ClassId) (a_t : Nat) (d_t : Nat → Nat) (i_t : Nat → Int32) (a_p2 : Nat) (d_p2 : Nat → Nat) (i_p2 : Nat → Int32) (r_t_longs : Nat → Int32) (r_p2_grades : Nat → Int32) (r_t_weights : Nat → Int32) (r_t_pushes : Nat → Int32) (r_t_bears : Nat → Int32) (n1 : Int32) (Q : Int32 → (Nat → Int32) → Prop)  (hf : w_Row_borneBy i_t i_p2 r_t_longs r_p2_grades r_t_weights r_t_pushes r_t_bears n1 Q) : CtI l yX8_borneBy cX8_borneBy 3 (some .int) 3 67 0 0 D k [.ref a_t, .int n1, .ref a_p2] (wd_Row_borneBy k a_t d_t i_t a_p2 d_p2 i_p2 r_t_longs r_p2_grades r_t_weights r_t_pushes r_t_bears) (fun r w => ∃ (r_t_bears : Nat → Int32), w = (wd_Row_borneBy k a_t d_t i_t a_p2 d_p2 i_p2 r_t_longs r_p2_grades r_t_weights r_t_pushes r_t_bears) ∧ Q r r_t_bears) := by
  refine CtI.of (by decide) (Nat.le_of_ble_eq_true rfl) ?_
  intro p e s m below meth c A F hr hlk hnm hA hB ls hl
  have hx := F.x
  have hb := F.b
  unfold w_Row_borneBy at hf
  replace hl : lv_has ls 3 [(0, .ref a_t), (1, .int n1), (2, .ref a_p2)] := hl
  refine lv_aload_n hx hb dX8_borneBy_0 rfl (lv_at hl 0 rfl) ?_
  refine lv_aload_n hx hb dX8_borneBy_1 rfl (lv_at hl 2 rfl) ?_
  refine k_vi (wr := []) (rest := []) F hA hB (c_Row_measure l D k a_t d_t i_t a_p2 d_p2 i_p2 r_t_longs r_p2_grades r_t_weights r_t_pushes r_t_bears _  hf) ml_RX8_122 mv_yX8_measure [0, 1, 2, 3, 4, 5, 6] [] rfl rfl (by decide) (by decide) (by decide) 0 rfl rfl rfl hl.1 rfl (Nat.le_of_ble_eq_true rfl) ⟨Nat.le_of_ble_eq_true rfl, Nat.le_of_ble_eq_true rfl⟩ ⟨Nat.le_of_ble_eq_true rfl, Nat.le_of_ble_eq_true rfl⟩ dX8_borneBy_2 (fun z_2 w1 H locs hq hB => ?_)
  obtain ⟨r_t_bears_1, rfl, hf⟩ := hq
  replace hB : Bd D A s.heap (wd_Row_borneBy k a_t d_t i_t a_p2 d_p2 i_p2 r_t_longs r_p2_grades r_t_weights r_t_pushes r_t_bears_1) H locs := hB.sub [0, 1, 2, 3, 4, 5, 6] (by decide) rfl
  refine lv_pop hx hb dX8_borneBy_5 rfl ?_
  refine lv_aload_n hx hb dX8_borneBy_6 rfl (lv_at hl 0 rfl) ?_
  refine g_get (w := .ref (d_t 7)) F hB 0 rfl fl_RX8_33 rfl dX8_borneBy_7 ?_
  refine lv_iload_n hx hb dX8_borneBy_10 rfl (lv_at hl 1 rfl) ?_
  obtain ⟨h_3, hf⟩ := hf
  refine g_iald F hB 6 rfl h_3 dX8_borneBy_11 ?_
  exact r_i F hr hlk hB ⟨_, rfl, hf⟩ dX8_borneBy_12

/-! LongTrain.Row.partingPlace -/
set_option maxRecDepth 100000 in
set_option maxHeartbeats 4000000 in
theorem bt_Row_partingPlace_2 {p : Program} {l : Launch} {e : Env} {s : State} {m : MethodId} {below : List Frame} {meth : Method} {c : Code} {A : Nat → Prop} {D : va_G} {k : Nat → ClassId} {a_t : Nat} {d_t : Nat → Nat} {i_t : Nat → Int32} {r_t_bears : Nat → Int32} {r_t_strengths : Nat → Int32} {r_t_wears : Nat → Int32} {n1 : Int32} {Q : Int32 → Prop}  {x1 : Int32} {kx_2 : Prop} {kr_2 : (Int32) → Prop} (F : Fx p m c cX8_partingPlace 3 s ([.ref a_t, .int n1] : List Value).toArray RX8 D k) (hr : meth.sig.returnType = (some .int)) (hlk : meth.locks = false) (hA : ∀ q : Nat, s.heap.size ≤ q → A q) (hkx_2 : ∀ (H : Heap) (locs : List Loc) (ls : Array Slot), kx_2 → Bd D A s.heap (wd_Row_partingPlace k a_t d_t i_t r_t_bears r_t_strengths r_t_wears) H locs → lv_has ls 3 [] → W p l e { frames := 0, cells := 0, slots := 0, locals := 0 } s m ([.ref a_t, .int n1] : List Value).toArray below meth c H locs 0 0 (Ei below (fun r w => w = (wd_Row_partingPlace k a_t d_t i_t r_t_bears r_t_strengths r_t_wears) ∧ Q r) D k A ([.ref a_t, .int n1] : List Value).toArray s 0 0) (F0 m 50 ls [])) (hkr_2 : ∀ (x2 : Int32) (H : Heap) (locs : List Loc) (ls : Array Slot), kr_2 x2 → Bd D A s.heap (wd_Row_partingPlace k a_t d_t i_t r_t_bears r_t_strengths r_t_wears) H locs → lv_has ls 3 [(0, .ref a_t), (1, .int x1), (2, .int x2)] → W p l e { frames := 0, cells := 0, slots := 0, locals := 0 } s m ([.ref a_t, .int n1] : List Value).toArray below meth c H locs 0 0 (Ei below (fun r w => w = (wd_Row_partingPlace k a_t d_t i_t r_t_bears r_t_strengths r_t_wears) ∧ Q r) D k A ([.ref a_t, .int n1] : List Value).toArray s 0 0) (F0 m 2 ls [])) :
    ∀ (x2 : Int32) (H : Heap) (locs : List Loc) (ls : Array Slot), b_Row_partingPlace_2 i_t r_t_bears r_t_strengths r_t_wears x1 Q kx_2 kr_2 x2 → Bd D A s.heap (wd_Row_partingPlace k a_t d_t i_t r_t_bears r_t_strengths r_t_wears) H locs → lv_has ls 3 [(0, .ref a_t), (1, .int x1), (2, .int x2)] → W p l e { frames := 0, cells := 0, slots := 0, locals := 0 } s m ([.ref a_t, .int n1] : List Value).toArray below meth c H locs 0 0 (Ei below (fun r w => w = (wd_Row_partingPlace k a_t d_t i_t r_t_bears r_t_strengths r_t_wears) ∧ Q r) D k A ([.ref a_t, .int n1] : List Value).toArray s 0 0) (F0 m 2 ls []) := by
  have hx := F.x
  have hb := F.b
  intro x2 H locs ls hf hB hl
  unfold b_Row_partingPlace_2 at hf
  refine lv_iload_n hx hb dX8_partingPlace_2 rfl (lv_at hl 2 rfl) ?_
  refine lv_aload_n hx hb dX8_partingPlace_3 rfl (lv_at hl 0 rfl) ?_
  refine g_get (w := .int (i_t 8)) F hB 0 rfl fl_RX8_36 rfl dX8_partingPlace_4 ?_
  refine lv_icmp_ge (tgt := 50) hx hb dX8_partingPlace_7 (by decide) (fun c_7 => ?_) (fun c_7 => ?_)
  · replace hf := hf.1 c_7
    exact hkx_2  _ _ _ hf hB (lv_sub hl [] rfl)
  · replace hf := hf.2 c_7
    refine lv_aload_n hx hb dX8_partingPlace_10 rfl (lv_at hl 0 rfl) ?_
    refine g_get (w := .ref (d_t 7)) F hB 0 rfl fl_RX8_33 rfl dX8_partingPlace_11 ?_
    refine lv_iload_n hx hb dX8_partingPlace_14 rfl (lv_at hl 2 rfl) ?_
    obtain ⟨h_1, hf⟩ := hf
    refine g_iald F hB 1 rfl h_1 dX8_partingPlace_15 ?_
    refine lv_aload_n hx hb dX8_partingPlace_16 rfl (lv_at hl 0 rfl) ?_
    refine g_get (w := .ref (d_t 3)) F hB 0 rfl fl_RX8_21 rfl dX8_partingPlace_17 ?_
    refine lv_iload_n hx hb dX8_partingPlace_20 rfl (lv_at hl 2 rfl) ?_
    obtain ⟨h_2, hf⟩ := hf
    refine g_iald F hB 2 rfl h_2 dX8_partingPlace_21 ?_
    refine lv_icmp_gt (tgt := 42) hx hb dX8_partingPlace_22 (by decide) (fun c_6 => ?_) (fun c_6 => ?_)
    · replace hf := hf.1 c_6
      refine lv_iload_n hx hb dX8_partingPlace_42 rfl (lv_at hl 2 rfl) ?_
      exact r_i F hr hlk hB ⟨rfl, hf⟩ dX8_partingPlace_43
    · replace hf := hf.2 c_6
      refine lv_aload_n hx hb dX8_partingPlace_25 rfl (lv_at hl 0 rfl) ?_
      refine g_get (w := .ref (d_t 4)) F hB 0 rfl fl_RX8_24 rfl dX8_partingPlace_26 ?_
      refine lv_iload_n hx hb dX8_partingPlace_29 rfl (lv_at hl 2 rfl) ?_
      obtain ⟨h_3, hf⟩ := hf
      refine g_iald F hB 3 rfl h_3 dX8_partingPlace_30 ?_
      refine lv_iload_n hx hb dX8_partingPlace_31 rfl (lv_at hl 1 rfl) ?_
      refine lv_aload_n hx hb dX8_partingPlace_32 rfl (lv_at hl 0 rfl) ?_
      refine g_get (w := .ref (d_t 3)) F hB 0 rfl fl_RX8_21 rfl dX8_partingPlace_33 ?_
      refine lv_iload_n hx hb dX8_partingPlace_36 rfl (lv_at hl 2 rfl) ?_
      obtain ⟨h_4, hf⟩ := hf
      refine g_iald F hB 2 rfl h_4 dX8_partingPlace_37 ?_
      refine lv_imul hx hb dX8_partingPlace_38 ?_
      refine lv_icmp_le (tgt := 44) hx hb dX8_partingPlace_39 (by decide) (fun c_5 => ?_) (fun c_5 => ?_)
      · replace hf := hf.1 c_5
        refine lv_iinc (v := (x2 + 1)) (lv' := [(2, .int (x2 + 1)), (0, .ref a_t), (1, .int x1)]) (k := 2) hx hb dX8_partingPlace_44 hl rfl rfl (by decide) rfl (fun ls hl => ?_)
        refine lv_goto (tgt := 2) hx hb dX8_partingPlace_47 (by decide) ?_
        exact hkr_2 _ _ _ _ hf hB (lv_sub hl [1, 2, 0] rfl)
      · replace hf := hf.2 c_5
        refine lv_iload_n hx hb dX8_partingPlace_42 rfl (lv_at hl 2 rfl) ?_
        exact r_i F hr hlk hB ⟨rfl, hf⟩ dX8_partingPlace_43

set_option maxRecDepth 100000 in
set_option maxHeartbeats 4000000 in
theorem lt_Row_partingPlace_2 {p : Program} {l : Launch} {e : Env} {s : State} {m : MethodId} {below : List Frame} {meth : Method} {c : Code} {A : Nat → Prop} {D : va_G} {k : Nat → ClassId} {a_t : Nat} {d_t : Nat → Nat} {i_t : Nat → Int32} {r_t_bears : Nat → Int32} {r_t_strengths : Nat → Int32} {r_t_wears : Nat → Int32} {n1 : Int32} {Q : Int32 → Prop}  {x1 : Int32} {kx_2 : Prop} (F : Fx p m c cX8_partingPlace 3 s ([.ref a_t, .int n1] : List Value).toArray RX8 D k) (hr : meth.sig.returnType = (some .int)) (hlk : meth.locks = false) (hA : ∀ q : Nat, s.heap.size ≤ q → A q) (hkx_2 : ∀ (H : Heap) (locs : List Loc) (ls : Array Slot), kx_2 → Bd D A s.heap (wd_Row_partingPlace k a_t d_t i_t r_t_bears r_t_strengths r_t_wears) H locs → lv_has ls 3 [] → W p l e { frames := 0, cells := 0, slots := 0, locals := 0 } s m ([.ref a_t, .int n1] : List Value).toArray below meth c H locs 0 0 (Ei below (fun r w => w = (wd_Row_partingPlace k a_t d_t i_t r_t_bears r_t_strengths r_t_wears) ∧ Q r) D k A ([.ref a_t, .int n1] : List Value).toArray s 0 0) (F0 m 50 ls [])) :
    ∀ n : Nat, ∀ (x2 : Int32) (H : Heap) (locs : List Loc) (ls : Array Slot), lp_Row_partingPlace_2 i_t r_t_bears r_t_strengths r_t_wears x1 Q kx_2 n x2 → Bd D A s.heap (wd_Row_partingPlace k a_t d_t i_t r_t_bears r_t_strengths r_t_wears) H locs → lv_has ls 3 [(0, .ref a_t), (1, .int x1), (2, .int x2)] → W p l e { frames := 0, cells := 0, slots := 0, locals := 0 } s m ([.ref a_t, .int n1] : List Value).toArray below meth c H locs 0 0 (Ei below (fun r w => w = (wd_Row_partingPlace k a_t d_t i_t r_t_bears r_t_strengths r_t_wears) ∧ Q r) D k A ([.ref a_t, .int n1] : List Value).toArray s 0 0) (F0 m 2 ls []) := by
  intro n
  induction n with
  | zero => intro x2 H locs ls hf; exact absurd hf (fun h => h)
  | succ n ih => exact bt_Row_partingPlace_2 F hr hlk hA hkx_2 ih

set_option maxRecDepth 100000 in
set_option maxHeartbeats 4000000 in
theorem c_Row_partingPlace (l : Launch) (D : va_G) (k : Nat → ClassId) (a_t : Nat) (d_t : Nat → Nat) (i_t : Nat → Int32) (r_t_bears : Nat → Int32) (r_t_strengths : Nat → Int32) (r_t_wears : Nat → Int32) (n1 : Int32) (Q : Int32 → Prop)  (hf : w_Row_partingPlace i_t r_t_bears r_t_strengths r_t_wears n1 Q) : CtI l yX8_partingPlace cX8_partingPlace 3 (some .int) 0 0 0 0 D k [.ref a_t, .int n1] (wd_Row_partingPlace k a_t d_t i_t r_t_bears r_t_strengths r_t_wears) (fun r w => w = (wd_Row_partingPlace k a_t d_t i_t r_t_bears r_t_strengths r_t_wears) ∧ Q r) := by
  refine CtI.of (by decide) (Nat.le_of_ble_eq_true rfl) ?_
  intro p e s m below meth c A F hr hlk hnm hA hB ls hl
  have hx := F.x
  have hb := F.b
  unfold w_Row_partingPlace at hf
  replace hl : lv_has ls 3 [(0, .ref a_t), (1, .int n1)] := hl
  refine lv_iconst (v := 0) hx hb dX8_partingPlace_0 (by decide) ?_
  refine lv_istore_n (lv' := [(2, .int (0 : Int32)), (0, .ref a_t), (1, .int n1)]) hx hb dX8_partingPlace_1 rfl hl (by decide) rfl (fun ls hl => ?_)
  obtain ⟨n_8, hf⟩ := hf
  refine lt_Row_partingPlace_2 F hr hlk hA (fun  H locs ls hf hB hl => ?_) n_8 _ _ _ _ hf hB (lv_sub hl [1, 2, 0] rfl)
  refine lv_iconst (v := -1) hx hb dX8_partingPlace_50 (by decide) ?_
  exact r_i F hr hlk hB ⟨rfl, hf⟩ dX8_partingPlace_51

/-! LongTrain.Row.addWear -/
set_option maxRecDepth 100000 in
set_option maxHeartbeats 4000000 in
theorem bt_Row_addWear_2 {p : Program} {l : Launch} {e : Env} {s : State} {m : MethodId} {below : List Frame} {meth : Method} {c : Code} {A : Nat → Prop} {D : va_G} {k : Nat → ClassId} {a_t : Nat} {d_t : Nat → Nat} {i_t : Nat → Int32} {r_t_bears : Nat → Int32} {n1 : Int32} {Q : (Nat → Int32) → Prop}  {x1 : Int32} {kx_2 : (Nat → Int32) → Prop} {kr_2 : (Int32) → (Nat → Int32) → Prop} (F : Fx p m c cX8_addWear 3 s ([.ref a_t, .int n1] : List Value).toArray RX8 D k) (hr : meth.sig.returnType = none) (hlk : meth.locks = false) (hA : ∀ q : Nat, s.heap.size ≤ q → A q) (hkx_2 : ∀ (r_t_wears : Nat → Int32) (H : Heap) (locs : List Loc) (ls : Array Slot), kx_2 r_t_wears → Bd D A s.heap (wd_Row_addWear k a_t d_t i_t r_t_bears r_t_wears) H locs → lv_has ls 3 [] → W p l e { frames := 0, cells := 0, slots := 0, locals := 0 } s m ([.ref a_t, .int n1] : List Value).toArray below meth c H locs 0 0 (Ev below (fun w => ∃ (r_t_wears : Nat → Int32), w = (wd_Row_addWear k a_t d_t i_t r_t_bears r_t_wears) ∧ Q r_t_wears) D k A ([.ref a_t, .int n1] : List Value).toArray s 0 0) (F0 m 45 ls [])) (hkr_2 : ∀ (x2 : Int32) (r_t_wears : Nat → Int32) (H : Heap) (locs : List Loc) (ls : Array Slot), kr_2 x2 r_t_wears → Bd D A s.heap (wd_Row_addWear k a_t d_t i_t r_t_bears r_t_wears) H locs → lv_has ls 3 [(0, .ref a_t), (1, .int x1), (2, .int x2)] → W p l e { frames := 0, cells := 0, slots := 0, locals := 0 } s m ([.ref a_t, .int n1] : List Value).toArray below meth c H locs 0 0 (Ev below (fun w => ∃ (r_t_wears : Nat → Int32), w = (wd_Row_addWear k a_t d_t i_t r_t_bears r_t_wears) ∧ Q r_t_wears) D k A ([.ref a_t, .int n1] : List Value).toArray s 0 0) (F0 m 2 ls [])) :
    ∀ (x2 : Int32) (r_t_wears : Nat → Int32) (H : Heap) (locs : List Loc) (ls : Array Slot), b_Row_addWear_2 i_t r_t_bears x1 kx_2 kr_2 x2 r_t_wears → Bd D A s.heap (wd_Row_addWear k a_t d_t i_t r_t_bears r_t_wears) H locs → lv_has ls 3 [(0, .ref a_t), (1, .int x1), (2, .int x2)] → W p l e { frames := 0, cells := 0, slots := 0, locals := 0 } s m ([.ref a_t, .int n1] : List Value).toArray below meth c H locs 0 0 (Ev below (fun w => ∃ (r_t_wears : Nat → Int32), w = (wd_Row_addWear k a_t d_t i_t r_t_bears r_t_wears) ∧ Q r_t_wears) D k A ([.ref a_t, .int n1] : List Value).toArray s 0 0) (F0 m 2 ls []) := by
  have hx := F.x
  have hb := F.b
  intro x2 r_t_wears H locs ls hf hB hl
  unfold b_Row_addWear_2 at hf
  refine lv_iload_n hx hb dX8_addWear_2 rfl (lv_at hl 2 rfl) ?_
  refine lv_iload_n hx hb dX8_addWear_3 rfl (lv_at hl 1 rfl) ?_
  refine lv_icmp_ge (tgt := 45) hx hb dX8_addWear_4 (by decide) (fun c_7 => ?_) (fun c_7 => ?_)
  · replace hf := hf.1 c_7
    exact hkx_2 _ _ _ _ hf hB (lv_sub hl [] rfl)
  · replace hf := hf.2 c_7
    refine lv_iload_n hx hb dX8_addWear_7 rfl (lv_at hl 2 rfl) ?_
    refine lv_aload_n hx hb dX8_addWear_8 rfl (lv_at hl 0 rfl) ?_
    refine g_get (w := .int (i_t 8)) F hB 0 rfl fl_RX8_36 rfl dX8_addWear_9 ?_
    refine lv_icmp_ge (tgt := 45) hx hb dX8_addWear_12 (by decide) (fun c_6 => ?_) (fun c_6 => ?_)
    · replace hf := hf.1 c_6
      exact hkx_2 _ _ _ _ hf hB (lv_sub hl [] rfl)
    · replace hf := hf.2 c_6
      refine lv_aload_n hx hb dX8_addWear_15 rfl (lv_at hl 0 rfl) ?_
      refine g_get (w := .ref (d_t 7)) F hB 0 rfl fl_RX8_33 rfl dX8_addWear_16 ?_
      refine lv_iload_n hx hb dX8_addWear_19 rfl (lv_at hl 2 rfl) ?_
      obtain ⟨h_1, hf⟩ := hf
      refine g_iald F hB 1 rfl h_1 dX8_addWear_20 ?_
      refine lv_if_le (tgt := 39) hx hb dX8_addWear_21 (by decide) (fun c_5 => ?_) (fun c_5 => ?_)
      · replace hf := hf.1 c_5
        refine lv_iinc (v := (x2 + 1)) (lv' := [(2, .int (x2 + 1)), (0, .ref a_t), (1, .int x1)]) (k := 2) hx hb dX8_addWear_39 hl rfl rfl (by decide) rfl (fun ls hl => ?_)
        refine lv_goto (tgt := 2) hx hb dX8_addWear_42 (by decide) ?_
        exact hkr_2 _ _ _ _ _ hf hB (lv_sub hl [1, 2, 0] rfl)
      · replace hf := hf.2 c_5
        refine lv_aload_n hx hb dX8_addWear_24 rfl (lv_at hl 0 rfl) ?_
        refine g_get (w := .ref (d_t 4)) F hB 0 rfl fl_RX8_24 rfl dX8_addWear_25 ?_
        refine lv_iload_n hx hb dX8_addWear_28 rfl (lv_at hl 2 rfl) ?_
        refine lv_dup2_11 hx hb dX8_addWear_29 rfl rfl ?_
        obtain ⟨h_2, hf⟩ := hf
        refine g_iald F hB 2 rfl h_2 dX8_addWear_30 ?_
        refine lv_aload_n hx hb dX8_addWear_31 rfl (lv_at hl 0 rfl) ?_
        refine g_get (w := .ref (d_t 7)) F hB 0 rfl fl_RX8_33 rfl dX8_addWear_32 ?_
        refine lv_iload_n hx hb dX8_addWear_35 rfl (lv_at hl 2 rfl) ?_
        obtain ⟨h_3, hf⟩ := hf
        refine g_iald F hB 1 rfl h_3 dX8_addWear_36 ?_
        refine lv_iadd hx hb dX8_addWear_37 ?_
        obtain ⟨h_4, hf⟩ := hf
        refine g_iast F hB 2 rfl h_4 (wd_Row_addWear k a_t d_t i_t r_t_bears (upd r_t_wears (x2).toNatClampNeg ((r_t_wears (x2).toNatClampNeg) + (r_t_bears (x2).toNatClampNeg)))) rfl dX8_addWear_38 (fun H locs hB => ?_)
        refine lv_iinc (v := (x2 + 1)) (lv' := [(2, .int (x2 + 1)), (0, .ref a_t), (1, .int x1)]) (k := 2) hx hb dX8_addWear_39 hl rfl rfl (by decide) rfl (fun ls hl => ?_)
        refine lv_goto (tgt := 2) hx hb dX8_addWear_42 (by decide) ?_
        exact hkr_2 _ _ _ _ _ hf hB (lv_sub hl [1, 2, 0] rfl)

set_option maxRecDepth 100000 in
set_option maxHeartbeats 4000000 in
theorem lt_Row_addWear_2 {p : Program} {l : Launch} {e : Env} {s : State} {m : MethodId} {below : List Frame} {meth : Method} {c : Code} {A : Nat → Prop} {D : va_G} {k : Nat → ClassId} {a_t : Nat} {d_t : Nat → Nat} {i_t : Nat → Int32} {r_t_bears : Nat → Int32} {n1 : Int32} {Q : (Nat → Int32) → Prop}  {x1 : Int32} {kx_2 : (Nat → Int32) → Prop} (F : Fx p m c cX8_addWear 3 s ([.ref a_t, .int n1] : List Value).toArray RX8 D k) (hr : meth.sig.returnType = none) (hlk : meth.locks = false) (hA : ∀ q : Nat, s.heap.size ≤ q → A q) (hkx_2 : ∀ (r_t_wears : Nat → Int32) (H : Heap) (locs : List Loc) (ls : Array Slot), kx_2 r_t_wears → Bd D A s.heap (wd_Row_addWear k a_t d_t i_t r_t_bears r_t_wears) H locs → lv_has ls 3 [] → W p l e { frames := 0, cells := 0, slots := 0, locals := 0 } s m ([.ref a_t, .int n1] : List Value).toArray below meth c H locs 0 0 (Ev below (fun w => ∃ (r_t_wears : Nat → Int32), w = (wd_Row_addWear k a_t d_t i_t r_t_bears r_t_wears) ∧ Q r_t_wears) D k A ([.ref a_t, .int n1] : List Value).toArray s 0 0) (F0 m 45 ls [])) :
    ∀ n : Nat, ∀ (x2 : Int32) (r_t_wears : Nat → Int32) (H : Heap) (locs : List Loc) (ls : Array Slot), lp_Row_addWear_2 i_t r_t_bears x1 kx_2 n x2 r_t_wears → Bd D A s.heap (wd_Row_addWear k a_t d_t i_t r_t_bears r_t_wears) H locs → lv_has ls 3 [(0, .ref a_t), (1, .int x1), (2, .int x2)] → W p l e { frames := 0, cells := 0, slots := 0, locals := 0 } s m ([.ref a_t, .int n1] : List Value).toArray below meth c H locs 0 0 (Ev below (fun w => ∃ (r_t_wears : Nat → Int32), w = (wd_Row_addWear k a_t d_t i_t r_t_bears r_t_wears) ∧ Q r_t_wears) D k A ([.ref a_t, .int n1] : List Value).toArray s 0 0) (F0 m 2 ls []) := by
  intro n
  induction n with
  | zero => intro x2 r_t_wears H locs ls hf; exact absurd hf (fun h => h)
  | succ n ih => exact bt_Row_addWear_2 F hr hlk hA hkx_2 ih

set_option maxRecDepth 100000 in
set_option maxHeartbeats 4000000 in
theorem c_Row_addWear (l : Launch) (D : va_G) (k : Nat → ClassId) (a_t : Nat) (d_t : Nat → Nat) (i_t : Nat → Int32) (r_t_bears : Nat → Int32) (r_t_wears : Nat → Int32) (n1 : Int32) (Q : (Nat → Int32) → Prop)  (hf : w_Row_addWear i_t r_t_bears r_t_wears n1 Q) : CtV l yX8_addWear cX8_addWear 3 none 0 0 0 0 D k [.ref a_t, .int n1] (wd_Row_addWear k a_t d_t i_t r_t_bears r_t_wears) (fun w => ∃ (r_t_wears : Nat → Int32), w = (wd_Row_addWear k a_t d_t i_t r_t_bears r_t_wears) ∧ Q r_t_wears) := by
  refine CtV.of (by decide) (Nat.le_of_ble_eq_true rfl) ?_
  intro p e s m below meth c A F hr hlk hnm hA hB ls hl
  have hx := F.x
  have hb := F.b
  unfold w_Row_addWear at hf
  replace hl : lv_has ls 3 [(0, .ref a_t), (1, .int n1)] := hl
  refine lv_iconst (v := 0) hx hb dX8_addWear_0 (by decide) ?_
  refine lv_istore_n (lv' := [(2, .int (0 : Int32)), (0, .ref a_t), (1, .int n1)]) hx hb dX8_addWear_1 rfl hl (by decide) rfl (fun ls hl => ?_)
  obtain ⟨n_9, hf⟩ := hf
  refine lt_Row_addWear_2 F hr hlk hA (fun r_t_wears_8 H locs ls hf hB hl => ?_) n_9 _ _ _ _ _ hf hB (lv_sub hl [1, 2, 0] rfl)
  exact r_v F hr hlk hB ⟨_, rfl, hf⟩ dX8_addWear_45

/-! LongTrain.Row.isOverborne -/
set_option maxRecDepth 100000 in
set_option maxHeartbeats 4000000 in
theorem bt_Row_isOverborne_2 {p : Program} {l : Launch} {e : Env} {s : State} {m : MethodId} {below : List Frame} {meth : Method} {c : Code} {A : Nat → Prop} {D : va_G} {k : Nat → ClassId} {a_t : Nat} {d_t : Nat → Nat} {i_t : Nat → Int32} {r_t_bears : Nat → Int32} {r_t_strengths : Nat → Int32}  {Q : Int32 → Prop}  {kx_2 : Prop} {kr_2 : (Int32) → Prop} (F : Fx p m c cX8_isOverborne 2 s ([.ref a_t] : List Value).toArray RX8 D k) (hr : meth.sig.returnType = (some .boolean)) (hlk : meth.locks = false) (hA : ∀ q : Nat, s.heap.size ≤ q → A q) (hkx_2 : ∀ (H : Heap) (locs : List Loc) (ls : Array Slot), kx_2 → Bd D A s.heap (wd_Row_isOverborne k a_t d_t i_t r_t_bears r_t_strengths) H locs → lv_has ls 2 [] → W p l e { frames := 0, cells := 0, slots := 0, locals := 0 } s m ([.ref a_t] : List Value).toArray below meth c H locs 0 0 (Ei below (fun r w => (r = 0 ∨ r = 1) ∧ (w = (wd_Row_isOverborne k a_t d_t i_t r_t_bears r_t_strengths) ∧ Q r)) D k A ([.ref a_t] : List Value).toArray s 0 0) (F0 m 33 ls [])) (hkr_2 : ∀ (x1 : Int32) (H : Heap) (locs : List Loc) (ls : Array Slot), kr_2 x1 → Bd D A s.heap (wd_Row_isOverborne k a_t d_t i_t r_t_bears r_t_strengths) H locs → lv_has ls 2 [(0, .ref a_t), (1, .int x1)] → W p l e { frames := 0, cells := 0, slots := 0, locals := 0 } s m ([.ref a_t] : List Value).toArray below meth c H locs 0 0 (Ei below (fun r w => (r = 0 ∨ r = 1) ∧ (w = (wd_Row_isOverborne k a_t d_t i_t r_t_bears r_t_strengths) ∧ Q r)) D k A ([.ref a_t] : List Value).toArray s 0 0) (F0 m 2 ls [])) :
    ∀ (x1 : Int32) (H : Heap) (locs : List Loc) (ls : Array Slot), b_Row_isOverborne_2 i_t r_t_bears r_t_strengths Q kx_2 kr_2 x1 → Bd D A s.heap (wd_Row_isOverborne k a_t d_t i_t r_t_bears r_t_strengths) H locs → lv_has ls 2 [(0, .ref a_t), (1, .int x1)] → W p l e { frames := 0, cells := 0, slots := 0, locals := 0 } s m ([.ref a_t] : List Value).toArray below meth c H locs 0 0 (Ei below (fun r w => (r = 0 ∨ r = 1) ∧ (w = (wd_Row_isOverborne k a_t d_t i_t r_t_bears r_t_strengths) ∧ Q r)) D k A ([.ref a_t] : List Value).toArray s 0 0) (F0 m 2 ls []) := by
  have hx := F.x
  have hb := F.b
  intro x1 H locs ls hf hB hl
  unfold b_Row_isOverborne_2 at hf
  refine lv_iload_n hx hb dX8_isOverborne_2 rfl (lv_at hl 1 rfl) ?_
  refine lv_aload_n hx hb dX8_isOverborne_3 rfl (lv_at hl 0 rfl) ?_
  refine g_get (w := .int (i_t 8)) F hB 0 rfl fl_RX8_36 rfl dX8_isOverborne_4 ?_
  refine lv_icmp_ge (tgt := 33) hx hb dX8_isOverborne_7 (by decide) (fun c_4 => ?_) (fun c_4 => ?_)
  · replace hf := hf.1 c_4
    exact hkx_2  _ _ _ hf hB (lv_sub hl [] rfl)
  · replace hf := hf.2 c_4
    refine lv_aload_n hx hb dX8_isOverborne_10 rfl (lv_at hl 0 rfl) ?_
    refine g_get (w := .ref (d_t 7)) F hB 0 rfl fl_RX8_33 rfl dX8_isOverborne_11 ?_
    refine lv_iload_n hx hb dX8_isOverborne_14 rfl (lv_at hl 1 rfl) ?_
    obtain ⟨h_1, hf⟩ := hf
    refine g_iald F hB 1 rfl h_1 dX8_isOverborne_15 ?_
    refine lv_aload_n hx hb dX8_isOverborne_16 rfl (lv_at hl 0 rfl) ?_
    refine g_get (w := .ref (d_t 3)) F hB 0 rfl fl_RX8_21 rfl dX8_isOverborne_17 ?_
    refine lv_iload_n hx hb dX8_isOverborne_20 rfl (lv_at hl 1 rfl) ?_
    obtain ⟨h_2, hf⟩ := hf
    refine g_iald F hB 2 rfl h_2 dX8_isOverborne_21 ?_
    refine lv_icmp_le (tgt := 27) hx hb dX8_isOverborne_22 (by decide) (fun c_3 => ?_) (fun c_3 => ?_)
    · replace hf := hf.1 c_3
      refine lv_iinc (v := (x1 + 1)) (lv' := [(1, .int (x1 + 1)), (0, .ref a_t)]) (k := 1) hx hb dX8_isOverborne_27 hl rfl rfl (by decide) rfl (fun ls hl => ?_)
      refine lv_goto (tgt := 2) hx hb dX8_isOverborne_30 (by decide) ?_
      exact hkr_2 _ _ _ _ hf hB (lv_sub hl [1, 0] rfl)
    · replace hf := hf.2 c_3
      refine lv_iconst (v := 1) hx hb dX8_isOverborne_25 (by decide) ?_
      exact r_z F hr hlk hB (Or.inr rfl) ⟨Or.inr rfl, rfl, hf⟩ dX8_isOverborne_26

set_option maxRecDepth 100000 in
set_option maxHeartbeats 4000000 in
theorem lt_Row_isOverborne_2 {p : Program} {l : Launch} {e : Env} {s : State} {m : MethodId} {below : List Frame} {meth : Method} {c : Code} {A : Nat → Prop} {D : va_G} {k : Nat → ClassId} {a_t : Nat} {d_t : Nat → Nat} {i_t : Nat → Int32} {r_t_bears : Nat → Int32} {r_t_strengths : Nat → Int32}  {Q : Int32 → Prop}  {kx_2 : Prop} (F : Fx p m c cX8_isOverborne 2 s ([.ref a_t] : List Value).toArray RX8 D k) (hr : meth.sig.returnType = (some .boolean)) (hlk : meth.locks = false) (hA : ∀ q : Nat, s.heap.size ≤ q → A q) (hkx_2 : ∀ (H : Heap) (locs : List Loc) (ls : Array Slot), kx_2 → Bd D A s.heap (wd_Row_isOverborne k a_t d_t i_t r_t_bears r_t_strengths) H locs → lv_has ls 2 [] → W p l e { frames := 0, cells := 0, slots := 0, locals := 0 } s m ([.ref a_t] : List Value).toArray below meth c H locs 0 0 (Ei below (fun r w => (r = 0 ∨ r = 1) ∧ (w = (wd_Row_isOverborne k a_t d_t i_t r_t_bears r_t_strengths) ∧ Q r)) D k A ([.ref a_t] : List Value).toArray s 0 0) (F0 m 33 ls [])) :
    ∀ n : Nat, ∀ (x1 : Int32) (H : Heap) (locs : List Loc) (ls : Array Slot), lp_Row_isOverborne_2 i_t r_t_bears r_t_strengths Q kx_2 n x1 → Bd D A s.heap (wd_Row_isOverborne k a_t d_t i_t r_t_bears r_t_strengths) H locs → lv_has ls 2 [(0, .ref a_t), (1, .int x1)] → W p l e { frames := 0, cells := 0, slots := 0, locals := 0 } s m ([.ref a_t] : List Value).toArray below meth c H locs 0 0 (Ei below (fun r w => (r = 0 ∨ r = 1) ∧ (w = (wd_Row_isOverborne k a_t d_t i_t r_t_bears r_t_strengths) ∧ Q r)) D k A ([.ref a_t] : List Value).toArray s 0 0) (F0 m 2 ls []) := by
  intro n
  induction n with
  | zero => intro x1 H locs ls hf; exact absurd hf (fun h => h)
  | succ n ih => exact bt_Row_isOverborne_2 F hr hlk hA hkx_2 ih

set_option maxRecDepth 100000 in
set_option maxHeartbeats 4000000 in
theorem c_Row_isOverborne (l : Launch) (D : va_G) (k : Nat → ClassId) (a_t : Nat) (d_t : Nat → Nat) (i_t : Nat → Int32) (r_t_bears : Nat → Int32) (r_t_strengths : Nat → Int32)  (Q : Int32 → Prop)  (hf : w_Row_isOverborne i_t r_t_bears r_t_strengths Q) : CtI l yX8_isOverborne cX8_isOverborne 2 (some .boolean) 0 0 0 0 D k [.ref a_t] (wd_Row_isOverborne k a_t d_t i_t r_t_bears r_t_strengths) (fun r w => (r = 0 ∨ r = 1) ∧ (w = (wd_Row_isOverborne k a_t d_t i_t r_t_bears r_t_strengths) ∧ Q r)) := by
  refine CtI.of (by decide) (Nat.le_of_ble_eq_true rfl) ?_
  intro p e s m below meth c A F hr hlk hnm hA hB ls hl
  have hx := F.x
  have hb := F.b
  unfold w_Row_isOverborne at hf
  replace hl : lv_has ls 2 [(0, .ref a_t)] := hl
  refine lv_iconst (v := 0) hx hb dX8_isOverborne_0 (by decide) ?_
  refine lv_istore_n (lv' := [(1, .int (0 : Int32)), (0, .ref a_t)]) hx hb dX8_isOverborne_1 rfl hl (by decide) rfl (fun ls hl => ?_)
  obtain ⟨n_5, hf⟩ := hf
  refine lt_Row_isOverborne_2 F hr hlk hA (fun  H locs ls hf hB hl => ?_) n_5 _ _ _ _ hf hB (lv_sub hl [1, 0] rfl)
  refine lv_iconst (v := 0) hx hb dX8_isOverborne_33 (by decide) ?_
  exact r_z F hr hlk hB (Or.inl rfl) ⟨Or.inl rfl, rfl, hf⟩ dX8_isOverborne_34

