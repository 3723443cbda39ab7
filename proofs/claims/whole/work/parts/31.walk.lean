/-! LongTrainModel.load -/
set_option maxRecDepth 100000 in
set_option maxHeartbeats 4000000 in
theorem c_LongTrainModel_load (l : Launch) (D : va_G) (k : Nat → ClassId) (a_t : Nat) (d_t : Nat → Nat) (i_t : Nat → Int32) (j_t : Nat → Int64) (r_t_loadAt : Nat → Int32) (n1 : Int32) (Q : Int32 → (Nat → Int32) → Prop)  (hf : w_LongTrainModel_load i_t r_t_loadAt n1 Q) : CtI l yX12_load cX12_load 2 (some .int) 1 22 0 0 D k [.ref a_t, .int n1] (wd_LongTrainModel_load k a_t d_t i_t j_t r_t_loadAt) (fun r w => ∃ (i_t : Nat → Int32), w = (wd_LongTrainModel_load k a_t d_t i_t j_t r_t_loadAt) ∧ Q r i_t) := by
  refine CtI.of (by decide) (Nat.le_of_ble_eq_true rfl) ?_
  intro p e s m below meth c A F hr hlk hnm hA hB ls hl
  have hx := F.x
  have hb := F.b
  unfold w_LongTrainModel_load at hf
  replace hl : lv_has ls 2 [(0, .ref a_t), (1, .int n1)] := hl
  refine lv_aload_n hx hb dX12_load_0 rfl (lv_at hl 0 rfl) ?_
  refine lv_iconst (v := 0) hx hb dX12_load_1 (by decide) ?_
  refine g_puti F hB 0 rfl fl_RX12_1 rfl (wd_LongTrainModel_load k a_t d_t (upd i_t 0 (0 : Int32)) j_t r_t_loadAt) rfl dX12_load_2 (fun H locs hB => ?_)
  refine lv_iload_n hx hb dX12_load_5 rfl (lv_at hl 1 rfl) ?_
  refine lv_iconst (v := 0) hx hb dX12_load_6 (by decide) ?_
  refine lv_aload_n hx hb dX12_load_7 rfl (lv_at hl 0 rfl) ?_
  refine g_get (w := .int ((upd i_t 0 (0 : Int32)) 38)) F hB 0 rfl fl_RX12_86 rfl dX12_load_8 ?_
  refine lv_iconst (v := 1) hx hb dX12_load_11 (by decide) ?_
  refine lv_isub hx hb dX12_load_12 ?_
  refine k_si (wr := [(a_t, ob 12 (rfd d_t) (upd i_t 0 (0 : Int32)) j_t), ((d_t 35), ai k 8 r_t_loadAt)]) (rest := []) F hA hB (c_LongTrainModel_isIn l D k n1 (0 : Int32) (((upd i_t 0 (0 : Int32)) 38) - (1 : Int32)) _  hf) ml_RX12_182 ms_yX12_isIn [] [0, 1] rfl rfl (by decide) (by decide) (by decide) rfl hl.1 rfl (Nat.le_of_ble_eq_true rfl) ⟨Nat.le_of_ble_eq_true rfl, Nat.le_of_ble_eq_true rfl⟩ ⟨Nat.le_of_ble_eq_true rfl, Nat.le_of_ble_eq_true rfl⟩ dX12_load_13 (fun z_1 w1 H locs hq hB => ?_)
  obtain ⟨h_2, rfl, hf⟩ := hq
  replace hB : Bd D A s.heap (wd_LongTrainModel_load k a_t d_t (upd i_t 0 (0 : Int32)) j_t r_t_loadAt) H locs := hB.sub [0, 1] (by decide) rfl
  refine lv_if_eq (tgt := 28) hx hb dX12_load_16 (by decide) (fun c_4 => ?_) (fun c_4 => ?_)
  · replace hf := hf.1 c_4
    refine lv_iconst (v := -1) hx hb dX12_load_28 (by decide) ?_
    exact r_i F hr hlk hB ⟨_, rfl, hf⟩ dX12_load_29
  · replace hf := hf.2 c_4
    refine lv_aload_n hx hb dX12_load_19 rfl (lv_at hl 0 rfl) ?_
    refine g_get (w := .ref (d_t 35)) F hB 0 rfl fl_RX12_77 rfl dX12_load_20 ?_
    refine lv_iload_n hx hb dX12_load_23 rfl (lv_at hl 1 rfl) ?_
    obtain ⟨h_3, hf⟩ := hf
    refine g_iald F hB 1 rfl h_3 dX12_load_24 ?_
    refine lv_goto (tgt := 29) hx hb dX12_load_25 (by decide) ?_
    exact r_i F hr hlk hB ⟨_, rfl, hf⟩ dX12_load_29

/-! LongTrainModel.cross -/
set_option maxRecDepth 100000 in
set_option maxHeartbeats 4000000 in
theorem jt_LongTrainModel_cross_173 {p : Program} {l : Launch} {e : Env} {s : State} {m : MethodId} {below : List Frame} {meth : Method} {c : Code} {A : Nat → Prop} {D : va_G} {k : Nat → ClassId} {a_t : Nat} {d_t : Nat → Nat} {i_t : Nat → Int32} {j_t : Nat → Int64} {r_t_s : Nat → Int32} {n1 : Int32} {n2 : Int32} {n3 : Int32} {n4 : Int32} {n5 : Int32} {Q : Int32 → (Nat → Int32) → Prop}  {x1 : Int32} {x2 : Int32} {x3 : Int32} {x4 : Int32} {x5 : Int32} {kr_73 : (Int32) → (Int32) → (Int32) → Prop} (F : Fx p m c cX12_cross 13 s ([.ref a_t, .int n1, .int n2, .int n3, .int n4, .int n5] : List Value).toArray RX12 D k) (hr : meth.sig.returnType = (some .int)) (hlk : meth.locks = false) (hA : ∀ q : Nat, s.heap.size ≤ q → A q) (hkr_73 : ∀ (x6 : Int32) (x7 : Int32) (x8 : Int32) (H : Heap) (locs : List Loc) (ls : Array Slot), kr_73 x6 x7 x8 → Bd D A s.heap (wd_LongTrainModel_cross k a_t d_t i_t j_t r_t_s) H locs → lv_has ls 13 [(0, .ref a_t), (1, .int x1), (2, .int x2), (3, .int x3), (4, .int x4), (5, .int x5), (6, .int x6), (7, .int x7), (8, .int x8)] → W p l e { frames := 2, cells := 0, slots := 0, locals := 43 } s m ([.ref a_t, .int n1, .int n2, .int n3, .int n4, .int n5] : List Value).toArray below meth c H locs 0 0 (Ei below (fun r w => ∃ (i_t : Nat → Int32), w = (wd_LongTrainModel_cross k a_t d_t i_t j_t r_t_s) ∧ Q r i_t) D k A ([.ref a_t, .int n1, .int n2, .int n3, .int n4, .int n5] : List Value).toArray s 0 0) (F0 m 73 ls [])) :
    ∀ (x6 : Int32) (x7 : Int32) (x8 : Int32) (x10 : Int32) (y0 : Int32) (y1 : Int32) (H : Heap) (locs : List Loc) (ls : Array Slot), j_LongTrainModel_cross_173 x6 x7 x8 x10 y0 y1 kr_73 → Bd D A s.heap (wd_LongTrainModel_cross k a_t d_t i_t j_t r_t_s) H locs → lv_has ls 13 [(0, .ref a_t), (1, .int x1), (2, .int x2), (3, .int x3), (4, .int x4), (5, .int x5), (6, .int x6), (7, .int x7), (8, .int x8), (10, .int x10)] → W p l e { frames := 2, cells := 0, slots := 0, locals := 43 } s m ([.ref a_t, .int n1, .int n2, .int n3, .int n4, .int n5] : List Value).toArray below meth c H locs 0 0 (Ei below (fun r w => ∃ (i_t : Nat → Int32), w = (wd_LongTrainModel_cross k a_t d_t i_t j_t r_t_s) ∧ Q r i_t) D k A ([.ref a_t, .int n1, .int n2, .int n3, .int n4, .int n5] : List Value).toArray s 0 0) (F0 m 173 ls [.int y0, .int y1]) := by
  have hx := F.x
  have hb := F.b
  intro x6 x7 x8 x10 y0 y1 H locs ls hf hB hl
  unfold j_LongTrainModel_cross_173 at hf
  refine lv_iadd hx hb dX12_cross_173 ?_
  refine lv_istore (lv' := [(11, .int (y1 + y0)), (0, .ref a_t), (1, .int x1), (2, .int x2), (3, .int x3), (4, .int x4), (5, .int x5), (6, .int x6), (7, .int x7), (8, .int x8), (10, .int x10)]) hx hb dX12_cross_174 hl (by decide) rfl (fun ls hl => ?_)
  refine lv_iload hx hb dX12_cross_176 (lv_at hl 10 rfl) ?_
  refine lv_iload hx hb dX12_cross_178 (lv_at hl 0 rfl) ?_
  refine lv_icmp_le (tgt := 188) hx hb dX12_cross_180 (by decide) (fun c_18 => ?_) (fun c_18 => ?_)
  · replace hf := hf.1 c_18
    refine lv_iload hx hb dX12_cross_188 (lv_at hl 0 rfl) ?_
    refine lv_istore (lv' := [(12, .int (y1 + y0)), (11, .int (y1 + y0)), (0, .ref a_t), (1, .int x1), (2, .int x2), (3, .int x3), (4, .int x4), (5, .int x5), (6, .int x6), (7, .int x7), (8, .int x8), (10, .int x10)]) hx hb dX12_cross_190 hl (by decide) rfl (fun ls hl => ?_)
    refine lv_iload hx hb dX12_cross_192 (lv_at hl 0 rfl) ?_
    refine lv_iload hx hb dX12_cross_194 (lv_at hl 9 rfl) ?_
    refine lv_icmp_lt (tgt := 202) hx hb dX12_cross_196 (by decide) (fun c_16 => ?_) (fun c_16 => ?_)
    · replace hf := hf.1 c_16
      refine lv_iload hx hb dX12_cross_202 (lv_at hl 0 rfl) ?_
      refine lv_istore (lv' := [(7, .int (y1 + y0)), (12, .int (y1 + y0)), (11, .int (y1 + y0)), (0, .ref a_t), (1, .int x1), (2, .int x2), (3, .int x3), (4, .int x4), (5, .int x5), (6, .int x6), (8, .int x8), (10, .int x10)]) hx hb dX12_cross_204 hl (by decide) rfl (fun ls hl => ?_)
      refine lv_iload hx hb dX12_cross_206 (lv_at hl 10 rfl) ?_
      refine lv_istore (lv' := [(6, .int x8), (7, .int (y1 + y0)), (12, .int (y1 + y0)), (11, .int (y1 + y0)), (0, .ref a_t), (1, .int x1), (2, .int x2), (3, .int x3), (4, .int x4), (5, .int x5), (8, .int x8), (10, .int x10)]) hx hb dX12_cross_208 hl (by decide) rfl (fun ls hl => ?_)
      refine lv_iinc (v := (x8 + 1)) (lv' := [(8, .int (x8 + 1)), (6, .int x8), (7, .int (y1 + y0)), (12, .int (y1 + y0)), (11, .int (y1 + y0)), (0, .ref a_t), (1, .int x1), (2, .int x2), (3, .int x3), (4, .int x4), (5, .int x5), (10, .int x10)]) (k := 10) hx hb dX12_cross_210 hl rfl rfl (by decide) rfl (fun ls hl => ?_)
      refine lv_goto (tgt := 73) hx hb dX12_cross_213 (by decide) ?_
      exact hkr_73 _ _ _ _ _ _ hf hB (lv_sub hl [5, 6, 7, 8, 9, 10, 1, 2, 0] rfl)
    · replace hf := hf.2 c_16
      refine lv_goto (tgt := 210) hx hb dX12_cross_199 (by decide) ?_
      refine lv_iinc (v := (x8 + 1)) (lv' := [(8, .int (x8 + 1)), (12, .int (y1 + y0)), (11, .int (y1 + y0)), (0, .ref a_t), (1, .int x1), (2, .int x2), (3, .int x3), (4, .int x4), (5, .int x5), (6, .int x6), (7, .int x7), (10, .int x10)]) (k := 10) hx hb dX12_cross_210 hl rfl rfl (by decide) rfl (fun ls hl => ?_)
      refine lv_goto (tgt := 73) hx hb dX12_cross_213 (by decide) ?_
      exact hkr_73 _ _ _ _ _ _ hf hB (lv_sub hl [3, 4, 5, 6, 7, 8, 9, 10, 0] rfl)
  · replace hf := hf.2 c_18
    refine lv_iload hx hb dX12_cross_183 (lv_at hl 10 rfl) ?_
    refine lv_goto (tgt := 190) hx hb dX12_cross_185 (by decide) ?_
    refine lv_istore (lv' := [(12, .int x10), (11, .int (y1 + y0)), (0, .ref a_t), (1, .int x1), (2, .int x2), (3, .int x3), (4, .int x4), (5, .int x5), (6, .int x6), (7, .int x7), (8, .int x8), (10, .int x10)]) hx hb dX12_cross_190 hl (by decide) rfl (fun ls hl => ?_)
    refine lv_iload hx hb dX12_cross_192 (lv_at hl 0 rfl) ?_
    refine lv_iload hx hb dX12_cross_194 (lv_at hl 9 rfl) ?_
    refine lv_icmp_lt (tgt := 202) hx hb dX12_cross_196 (by decide) (fun c_17 => ?_) (fun c_17 => ?_)
    · replace hf := hf.1 c_17
      refine lv_iload hx hb dX12_cross_202 (lv_at hl 0 rfl) ?_
      refine lv_istore (lv' := [(7, .int x10), (12, .int x10), (11, .int (y1 + y0)), (0, .ref a_t), (1, .int x1), (2, .int x2), (3, .int x3), (4, .int x4), (5, .int x5), (6, .int x6), (8, .int x8), (10, .int x10)]) hx hb dX12_cross_204 hl (by decide) rfl (fun ls hl => ?_)
      refine lv_iload hx hb dX12_cross_206 (lv_at hl 10 rfl) ?_
      refine lv_istore (lv' := [(6, .int x8), (7, .int x10), (12, .int x10), (11, .int (y1 + y0)), (0, .ref a_t), (1, .int x1), (2, .int x2), (3, .int x3), (4, .int x4), (5, .int x5), (8, .int x8), (10, .int x10)]) hx hb dX12_cross_208 hl (by decide) rfl (fun ls hl => ?_)
      refine lv_iinc (v := (x8 + 1)) (lv' := [(8, .int (x8 + 1)), (6, .int x8), (7, .int x10), (12, .int x10), (11, .int (y1 + y0)), (0, .ref a_t), (1, .int x1), (2, .int x2), (3, .int x3), (4, .int x4), (5, .int x5), (10, .int x10)]) (k := 10) hx hb dX12_cross_210 hl rfl rfl (by decide) rfl (fun ls hl => ?_)
      refine lv_goto (tgt := 73) hx hb dX12_cross_213 (by decide) ?_
      exact hkr_73 _ _ _ _ _ _ hf hB (lv_sub hl [5, 6, 7, 8, 9, 10, 1, 2, 0] rfl)
    · replace hf := hf.2 c_17
      refine lv_goto (tgt := 210) hx hb dX12_cross_199 (by decide) ?_
      refine lv_iinc (v := (x8 + 1)) (lv' := [(8, .int (x8 + 1)), (12, .int x10), (11, .int (y1 + y0)), (0, .ref a_t), (1, .int x1), (2, .int x2), (3, .int x3), (4, .int x4), (5, .int x5), (6, .int x6), (7, .int x7), (10, .int x10)]) (k := 10) hx hb dX12_cross_210 hl rfl rfl (by decide) rfl (fun ls hl => ?_)
      refine lv_goto (tgt := 73) hx hb dX12_cross_213 (by decide) ?_
      exact hkr_73 _ _ _ _ _ _ hf hB (lv_sub hl [3, 4, 5, 6, 7, 8, 9, 10, 0] rfl)

set_option maxRecDepth 100000 in
set_option maxHeartbeats 4000000 in
theorem jt_LongTrainModel_cross_155 {p : Program} {l : Launch} {e : Env} {s : State} {m : MethodId} {below : List Frame} {meth : Method} {c : Code} {A : Nat → Prop} {D : va_G} {k : Nat → ClassId} {a_t : Nat} {d_t : Nat → Nat} {i_t : Nat → Int32} {j_t : Nat → Int64} {r_t_s : Nat → Int32} {n1 : Int32} {n2 : Int32} {n3 : Int32} {n4 : Int32} {n5 : Int32} {Q : Int32 → (Nat → Int32) → Prop}  {x1 : Int32} {x2 : Int32} {x3 : Int32} {x4 : Int32} {x5 : Int32} {kr_73 : (Int32) → (Int32) → (Int32) → Prop} (F : Fx p m c cX12_cross 13 s ([.ref a_t, .int n1, .int n2, .int n3, .int n4, .int n5] : List Value).toArray RX12 D k) (hr : meth.sig.returnType = (some .int)) (hlk : meth.locks = false) (hA : ∀ q : Nat, s.heap.size ≤ q → A q) (hkr_73 : ∀ (x6 : Int32) (x7 : Int32) (x8 : Int32) (H : Heap) (locs : List Loc) (ls : Array Slot), kr_73 x6 x7 x8 → Bd D A s.heap (wd_LongTrainModel_cross k a_t d_t i_t j_t r_t_s) H locs → lv_has ls 13 [(0, .ref a_t), (1, .int x1), (2, .int x2), (3, .int x3), (4, .int x4), (5, .int x5), (6, .int x6), (7, .int x7), (8, .int x8)] → W p l e { frames := 2, cells := 0, slots := 0, locals := 43 } s m ([.ref a_t, .int n1, .int n2, .int n3, .int n4, .int n5] : List Value).toArray below meth c H locs 0 0 (Ei below (fun r w => ∃ (i_t : Nat → Int32), w = (wd_LongTrainModel_cross k a_t d_t i_t j_t r_t_s) ∧ Q r i_t) D k A ([.ref a_t, .int n1, .int n2, .int n3, .int n4, .int n5] : List Value).toArray s 0 0) (F0 m 73 ls [])) :
    ∀ (x6 : Int32) (x7 : Int32) (x8 : Int32) (x9 : Int32) (y0 : Int32) (y1 : Int32) (H : Heap) (locs : List Loc) (ls : Array Slot), j_LongTrainModel_cross_155 x1 x2 x4 x6 x7 x8 x9 y0 y1 kr_73 → Bd D A s.heap (wd_LongTrainModel_cross k a_t d_t i_t j_t r_t_s) H locs → lv_has ls 13 [(0, .ref a_t), (1, .int x1), (2, .int x2), (3, .int x3), (4, .int x4), (5, .int x5), (6, .int x6), (7, .int x7), (8, .int x8), (9, .int x9)] → W p l e { frames := 2, cells := 0, slots := 0, locals := 43 } s m ([.ref a_t, .int n1, .int n2, .int n3, .int n4, .int n5] : List Value).toArray below meth c H locs 0 0 (Ei below (fun r w => ∃ (i_t : Nat → Int32), w = (wd_LongTrainModel_cross k a_t d_t i_t j_t r_t_s) ∧ Q r i_t) D k A ([.ref a_t, .int n1, .int n2, .int n3, .int n4, .int n5] : List Value).toArray s 0 0) (F0 m 155 ls [.int y0, .int y1]) := by
  have hx := F.x
  have hb := F.b
  intro x6 x7 x8 x9 y0 y1 H locs ls hf hB hl
  unfold j_LongTrainModel_cross_155 at hf
  refine lv_iadd hx hb dX12_cross_155 ?_
  refine lv_istore (lv' := [(10, .int (y1 + y0)), (0, .ref a_t), (1, .int x1), (2, .int x2), (3, .int x3), (4, .int x4), (5, .int x5), (6, .int x6), (7, .int x7), (8, .int x8), (9, .int x9)]) hx hb dX12_cross_156 hl (by decide) rfl (fun ls hl => ?_)
  refine lv_iload hx hb dX12_cross_158 (lv_at hl 5 rfl) ?_
  refine lv_iload hx hb dX12_cross_160 (lv_at hl 10 rfl) ?_
  refine lv_isub hx hb dX12_cross_162 ?_
  refine lv_iload_n hx hb dX12_cross_163 rfl (lv_at hl 2 rfl) ?_
  refine lv_iload_n hx hb dX12_cross_164 rfl (lv_at hl 3 rfl) ?_
  refine lv_icmp_gt (tgt := 172) hx hb dX12_cross_165 (by decide) (fun c_19 => ?_) (fun c_19 => ?_)
  · replace hf := hf.1 c_19
    refine lv_iload_n hx hb dX12_cross_172 rfl (lv_at hl 3 rfl) ?_
    exact jt_LongTrainModel_cross_173 F hr hlk hA hkr_73 _ _ _ _ _ _ _ _ _ hf hB (lv_sub hl [1, 2, 3, 4, 5, 6, 7, 8, 9, 0] rfl)
  · replace hf := hf.2 c_19
    refine lv_iconst (v := 0) hx hb dX12_cross_168 (by decide) ?_
    refine lv_goto (tgt := 173) hx hb dX12_cross_169 (by decide) ?_
    exact jt_LongTrainModel_cross_173 F hr hlk hA hkr_73 _ _ _ _ _ _ _ _ _ hf hB (lv_sub hl [1, 2, 3, 4, 5, 6, 7, 8, 9, 0] rfl)

set_option maxRecDepth 100000 in
set_option maxHeartbeats 4000000 in
theorem jt_LongTrainModel_cross_135 {p : Program} {l : Launch} {e : Env} {s : State} {m : MethodId} {below : List Frame} {meth : Method} {c : Code} {A : Nat → Prop} {D : va_G} {k : Nat → ClassId} {a_t : Nat} {d_t : Nat → Nat} {i_t : Nat → Int32} {j_t : Nat → Int64} {r_t_s : Nat → Int32} {n1 : Int32} {n2 : Int32} {n3 : Int32} {n4 : Int32} {n5 : Int32} {Q : Int32 → (Nat → Int32) → Prop}  {x1 : Int32} {x2 : Int32} {x3 : Int32} {x4 : Int32} {x5 : Int32} {kr_73 : (Int32) → (Int32) → (Int32) → Prop} (F : Fx p m c cX12_cross 13 s ([.ref a_t, .int n1, .int n2, .int n3, .int n4, .int n5] : List Value).toArray RX12 D k) (hr : meth.sig.returnType = (some .int)) (hlk : meth.locks = false) (hA : ∀ q : Nat, s.heap.size ≤ q → A q) (hkr_73 : ∀ (x6 : Int32) (x7 : Int32) (x8 : Int32) (H : Heap) (locs : List Loc) (ls : Array Slot), kr_73 x6 x7 x8 → Bd D A s.heap (wd_LongTrainModel_cross k a_t d_t i_t j_t r_t_s) H locs → lv_has ls 13 [(0, .ref a_t), (1, .int x1), (2, .int x2), (3, .int x3), (4, .int x4), (5, .int x5), (6, .int x6), (7, .int x7), (8, .int x8)] → W p l e { frames := 2, cells := 0, slots := 0, locals := 43 } s m ([.ref a_t, .int n1, .int n2, .int n3, .int n4, .int n5] : List Value).toArray below meth c H locs 0 0 (Ei below (fun r w => ∃ (i_t : Nat → Int32), w = (wd_LongTrainModel_cross k a_t d_t i_t j_t r_t_s) ∧ Q r i_t) D k A ([.ref a_t, .int n1, .int n2, .int n3, .int n4, .int n5] : List Value).toArray s 0 0) (F0 m 73 ls [])) :
    ∀ (x6 : Int32) (x7 : Int32) (x8 : Int32) (x9 : Int32) (y0 : Int32) (y1 : Int32) (H : Heap) (locs : List Loc) (ls : Array Slot), j_LongTrainModel_cross_135 x1 x2 x3 x4 x6 x7 x8 x9 y0 y1 kr_73 → Bd D A s.heap (wd_LongTrainModel_cross k a_t d_t i_t j_t r_t_s) H locs → lv_has ls 13 [(0, .ref a_t), (1, .int x1), (2, .int x2), (3, .int x3), (4, .int x4), (5, .int x5), (6, .int x6), (7, .int x7), (8, .int x8), (9, .int x9)] → W p l e { frames := 2, cells := 0, slots := 0, locals := 43 } s m ([.ref a_t, .int n1, .int n2, .int n3, .int n4, .int n5] : List Value).toArray below meth c H locs 0 0 (Ei below (fun r w => ∃ (i_t : Nat → Int32), w = (wd_LongTrainModel_cross k a_t d_t i_t j_t r_t_s) ∧ Q r i_t) D k A ([.ref a_t, .int n1, .int n2, .int n3, .int n4, .int n5] : List Value).toArray s 0 0) (F0 m 135 ls [.int y0, .int y1]) := by
  have hx := F.x
  have hb := F.b
  intro x6 x7 x8 x9 y0 y1 H locs ls hf hB hl
  unfold j_LongTrainModel_cross_135 at hf
  refine lv_icmp_ge (tgt := 141) hx hb dX12_cross_135 (by decide) (fun c_21 => ?_) (fun c_21 => ?_)
  · replace hf := hf.1 c_21
    refine lv_iload hx hb dX12_cross_141 (lv_at hl 9 rfl) ?_
    refine lv_iload_n hx hb dX12_cross_143 rfl (lv_at hl 3 rfl) ?_
    refine lv_isub hx hb dX12_cross_144 ?_
    refine lv_iload_n hx hb dX12_cross_145 rfl (lv_at hl 1 rfl) ?_
    refine lv_iload_n hx hb dX12_cross_146 rfl (lv_at hl 2 rfl) ?_
    refine lv_icmp_gt (tgt := 154) hx hb dX12_cross_147 (by decide) (fun c_20 => ?_) (fun c_20 => ?_)
    · replace hf := hf.1 c_20
      refine lv_iconst (v := 0) hx hb dX12_cross_154 (by decide) ?_
      exact jt_LongTrainModel_cross_155 F hr hlk hA hkr_73 _ _ _ _ _ _ _ _ _ hf hB (lv_sub hl [0, 1, 2, 3, 4, 5, 6, 7, 8, 9] rfl)
    · replace hf := hf.2 c_20
      refine lv_iload_n hx hb dX12_cross_150 rfl (lv_at hl 1 rfl) ?_
      refine lv_goto (tgt := 155) hx hb dX12_cross_151 (by decide) ?_
      exact jt_LongTrainModel_cross_155 F hr hlk hA hkr_73 _ _ _ _ _ _ _ _ _ hf hB (lv_sub hl [0, 1, 2, 3, 4, 5, 6, 7, 8, 9] rfl)
  · replace hf := hf.2 c_21
    refine lv_goto (tgt := 210) hx hb dX12_cross_138 (by decide) ?_
    refine lv_iinc (v := (x8 + 1)) (lv' := [(8, .int (x8 + 1)), (0, .ref a_t), (1, .int x1), (2, .int x2), (3, .int x3), (4, .int x4), (5, .int x5), (6, .int x6), (7, .int x7), (9, .int x9)]) (k := 8) hx hb dX12_cross_210 hl rfl rfl (by decide) rfl (fun ls hl => ?_)
    refine lv_goto (tgt := 73) hx hb dX12_cross_213 (by decide) ?_
    exact hkr_73 _ _ _ _ _ _ hf hB (lv_sub hl [1, 2, 3, 4, 5, 6, 7, 8, 0] rfl)

set_option maxRecDepth 100000 in
set_option maxHeartbeats 4000000 in
theorem bt_LongTrainModel_cross_73 {p : Program} {l : Launch} {e : Env} {s : State} {m : MethodId} {below : List Frame} {meth : Method} {c : Code} {A : Nat → Prop} {D : va_G} {k : Nat → ClassId} {a_t : Nat} {d_t : Nat → Nat} {i_t : Nat → Int32} {j_t : Nat → Int64} {r_t_s : Nat → Int32} {n1 : Int32} {n2 : Int32} {n3 : Int32} {n4 : Int32} {n5 : Int32} {Q : Int32 → (Nat → Int32) → Prop}  {x1 : Int32} {x2 : Int32} {x3 : Int32} {x4 : Int32} {x5 : Int32} {kx_73 : (Int32) → (Int32) → Prop} {kr_73 : (Int32) → (Int32) → (Int32) → Prop} (F : Fx p m c cX12_cross 13 s ([.ref a_t, .int n1, .int n2, .int n3, .int n4, .int n5] : List Value).toArray RX12 D k) (hr : meth.sig.returnType = (some .int)) (hlk : meth.locks = false) (hA : ∀ q : Nat, s.heap.size ≤ q → A q) (hkx_73 : ∀ (x6 : Int32) (x7 : Int32) (H : Heap) (locs : List Loc) (ls : Array Slot), kx_73 x6 x7 → Bd D A s.heap (wd_LongTrainModel_cross k a_t d_t i_t j_t r_t_s) H locs → lv_has ls 13 [(5, .int x5), (6, .int x6), (7, .int x7)] → W p l e { frames := 2, cells := 0, slots := 0, locals := 43 } s m ([.ref a_t, .int n1, .int n2, .int n3, .int n4, .int n5] : List Value).toArray below meth c H locs 0 0 (Ei below (fun r w => ∃ (i_t : Nat → Int32), w = (wd_LongTrainModel_cross k a_t d_t i_t j_t r_t_s) ∧ Q r i_t) D k A ([.ref a_t, .int n1, .int n2, .int n3, .int n4, .int n5] : List Value).toArray s 0 0) (F0 m 216 ls [])) (hkr_73 : ∀ (x6 : Int32) (x7 : Int32) (x8 : Int32) (H : Heap) (locs : List Loc) (ls : Array Slot), kr_73 x6 x7 x8 → Bd D A s.heap (wd_LongTrainModel_cross k a_t d_t i_t j_t r_t_s) H locs → lv_has ls 13 [(0, .ref a_t), (1, .int x1), (2, .int x2), (3, .int x3), (4, .int x4), (5, .int x5), (6, .int x6), (7, .int x7), (8, .int x8)] → W p l e { frames := 2, cells := 0, slots := 0, locals := 43 } s m ([.ref a_t, .int n1, .int n2, .int n3, .int n4, .int n5] : List Value).toArray below meth c H locs 0 0 (Ei below (fun r w => ∃ (i_t : Nat → Int32), w = (wd_LongTrainModel_cross k a_t d_t i_t j_t r_t_s) ∧ Q r i_t) D k A ([.ref a_t, .int n1, .int n2, .int n3, .int n4, .int n5] : List Value).toArray s 0 0) (F0 m 73 ls [])) :
    ∀ (x6 : Int32) (x7 : Int32) (x8 : Int32) (H : Heap) (locs : List Loc) (ls : Array Slot), b_LongTrainModel_cross_73 r_t_s x1 x2 x3 x4 kx_73 kr_73 x6 x7 x8 → Bd D A s.heap (wd_LongTrainModel_cross k a_t d_t i_t j_t r_t_s) H locs → lv_has ls 13 [(0, .ref a_t), (1, .int x1), (2, .int x2), (3, .int x3), (4, .int x4), (5, .int x5), (6, .int x6), (7, .int x7), (8, .int x8)] → W p l e { frames := 2, cells := 0, slots := 0, locals := 43 } s m ([.ref a_t, .int n1, .int n2, .int n3, .int n4, .int n5] : List Value).toArray below meth c H locs 0 0 (Ei below (fun r w => ∃ (i_t : Nat → Int32), w = (wd_LongTrainModel_cross k a_t d_t i_t j_t r_t_s) ∧ Q r i_t) D k A ([.ref a_t, .int n1, .int n2, .int n3, .int n4, .int n5] : List Value).toArray s 0 0) (F0 m 73 ls []) := by
  have hx := F.x
  have hb := F.b
  intro x6 x7 x8 H locs ls hf hB hl
  unfold b_LongTrainModel_cross_73 at hf
  refine lv_iload hx hb dX12_cross_73 (lv_at hl 8 rfl) ?_
  refine lv_aload_n hx hb dX12_cross_75 rfl (lv_at hl 0 rfl) ?_
  refine g_get (w := .ref (d_t 6)) F hB 0 rfl fl_RX12_33 rfl dX12_cross_76 ?_
  refine lv_iconst (v := 2) hx hb dX12_cross_79 (by decide) ?_
  refine g_iald F hB 1 rfl (vp_in_iff.mpr (by decide +kernel)) dX12_cross_80 ?_
  refine W.eq (g2 := F0 m 81 ls [.int (r_t_s 2), .int x8]) rfl ?_
  refine lv_icmp_ge (tgt := 216) hx hb dX12_cross_81 (by decide) (fun c_24 => ?_) (fun c_24 => ?_)
  · replace hf := hf.1 c_24
    exact hkx_73 _ _ _ _ _ hf hB (lv_sub hl [5, 6, 7] rfl)
  · replace hf := hf.2 c_24
    refine lv_aload_n hx hb dX12_cross_84 rfl (lv_at hl 0 rfl) ?_
    refine g_get (w := .ref (d_t 6)) F hB 0 rfl fl_RX12_33 rfl dX12_cross_85 ?_
    refine lv_sipush (v := 441) hx hb dX12_cross_88 (by decide) ?_
    refine lv_iconst (v := 2) hx hb dX12_cross_91 (by decide) ?_
    refine lv_iload hx hb dX12_cross_92 (lv_at hl 8 rfl) ?_
    refine lv_imul hx hb dX12_cross_94 ?_
    refine lv_iadd hx hb dX12_cross_95 ?_
    obtain ⟨h_12, hf⟩ := hf
    refine g_iald F hB 1 rfl h_12 dX12_cross_96 ?_
    refine lv_istore (lv' := [(9, .int (r_t_s (((441 : Int32) + ((2 : Int32) * x8))).toNatClampNeg)), (0, .ref a_t), (1, .int x1), (2, .int x2), (3, .int x3), (4, .int x4), (5, .int x5), (6, .int x6), (7, .int x7), (8, .int x8)]) hx hb dX12_cross_97 hl (by decide) rfl (fun ls hl => ?_)
    refine lv_iload hx hb dX12_cross_99 (lv_at hl 0 rfl) ?_
    refine lv_iload_n hx hb dX12_cross_101 rfl (lv_at hl 4 rfl) ?_
    refine lv_iload hx hb dX12_cross_102 (lv_at hl 5 rfl) ?_
    refine k_si (wr := [(a_t, ob 12 (rfd d_t) i_t j_t), ((d_t 6), ai k 1068 r_t_s)]) (rest := []) F hA hB (c_LongTrainModel_isIn l D k (r_t_s (((441 : Int32) + ((2 : Int32) * x8))).toNatClampNeg) x3 x4 _  hf) ml_RX12_182 ms_yX12_isIn [] [0, 1] rfl rfl (by decide) (by decide) (by decide) rfl hl.1 rfl (Nat.le_of_ble_eq_true rfl) ⟨Nat.le_of_ble_eq_true rfl, Nat.le_of_ble_eq_true rfl⟩ ⟨Nat.le_of_ble_eq_true rfl, Nat.le_of_ble_eq_true rfl⟩ dX12_cross_104 (fun z_13 w1 H locs hq hB => ?_)
    obtain ⟨h_14, rfl, hf⟩ := hq
    replace hB : Bd D A s.heap (wd_LongTrainModel_cross k a_t d_t i_t j_t r_t_s) H locs := hB.sub [0, 1] (by decide) rfl
    refine lv_if_eq (tgt := 210) hx hb dX12_cross_107 (by decide) (fun c_23 => ?_) (fun c_23 => ?_)
    · replace hf := hf.1 c_23
      refine lv_iinc (v := (x8 + 1)) (lv' := [(8, .int (x8 + 1)), (9, .int (r_t_s (((441 : Int32) + ((2 : Int32) * x8))).toNatClampNeg)), (0, .ref a_t), (1, .int x1), (2, .int x2), (3, .int x3), (4, .int x4), (5, .int x5), (6, .int x6), (7, .int x7)]) (k := 9) hx hb dX12_cross_210 hl rfl rfl (by decide) rfl (fun ls hl => ?_)
      refine lv_goto (tgt := 73) hx hb dX12_cross_213 (by decide) ?_
      exact hkr_73 _ _ _ _ _ _ hf hB (lv_sub hl [2, 3, 4, 5, 6, 7, 8, 9, 0] rfl)
    · replace hf := hf.2 c_23
      refine lv_aload_n hx hb dX12_cross_110 rfl (lv_at hl 1 rfl) ?_
      refine g_get (w := .ref (d_t 6)) F hB 0 rfl fl_RX12_33 rfl dX12_cross_111 ?_
      refine lv_sipush (v := 441) hx hb dX12_cross_114 (by decide) ?_
      refine lv_iconst (v := 2) hx hb dX12_cross_117 (by decide) ?_
      refine lv_iload hx hb dX12_cross_118 (lv_at hl 9 rfl) ?_
      refine lv_imul hx hb dX12_cross_120 ?_
      refine lv_iadd hx hb dX12_cross_121 ?_
      refine lv_iconst (v := 1) hx hb dX12_cross_122 (by decide) ?_
      refine lv_iadd hx hb dX12_cross_123 ?_
      obtain ⟨h_15, hf⟩ := hf
      refine g_iald F hB 1 rfl h_15 dX12_cross_124 ?_
      refine lv_iload_n hx hb dX12_cross_125 rfl (lv_at hl 2 rfl) ?_
      refine lv_iload_n hx hb dX12_cross_126 rfl (lv_at hl 3 rfl) ?_
      refine lv_icmp_ge (tgt := 134) hx hb dX12_cross_127 (by decide) (fun c_22 => ?_) (fun c_22 => ?_)
      · replace hf := hf.1 c_22
        refine lv_iload_n hx hb dX12_cross_134 rfl (lv_at hl 3 rfl) ?_
        exact jt_LongTrainModel_cross_135 F hr hlk hA hkr_73 _ _ _ _ _ _ _ _ _ hf hB (lv_sub hl [1, 2, 3, 4, 5, 6, 7, 8, 9, 0] rfl)
      · replace hf := hf.2 c_22
        refine lv_iload_n hx hb dX12_cross_130 rfl (lv_at hl 2 rfl) ?_
        refine lv_goto (tgt := 135) hx hb dX12_cross_131 (by decide) ?_
        exact jt_LongTrainModel_cross_135 F hr hlk hA hkr_73 _ _ _ _ _ _ _ _ _ hf hB (lv_sub hl [1, 2, 3, 4, 5, 6, 7, 8, 9, 0] rfl)

set_option maxRecDepth 100000 in
set_option maxHeartbeats 4000000 in
theorem lt_LongTrainModel_cross_73 {p : Program} {l : Launch} {e : Env} {s : State} {m : MethodId} {below : List Frame} {meth : Method} {c : Code} {A : Nat → Prop} {D : va_G} {k : Nat → ClassId} {a_t : Nat} {d_t : Nat → Nat} {i_t : Nat → Int32} {j_t : Nat → Int64} {r_t_s : Nat → Int32} {n1 : Int32} {n2 : Int32} {n3 : Int32} {n4 : Int32} {n5 : Int32} {Q : Int32 → (Nat → Int32) → Prop}  {x1 : Int32} {x2 : Int32} {x3 : Int32} {x4 : Int32} {x5 : Int32} {kx_73 : (Int32) → (Int32) → Prop} (F : Fx p m c cX12_cross 13 s ([.ref a_t, .int n1, .int n2, .int n3, .int n4, .int n5] : List Value).toArray RX12 D k) (hr : meth.sig.returnType = (some .int)) (hlk : meth.locks = false) (hA : ∀ q : Nat, s.heap.size ≤ q → A q) (hkx_73 : ∀ (x6 : Int32) (x7 : Int32) (H : Heap) (locs : List Loc) (ls : Array Slot), kx_73 x6 x7 → Bd D A s.heap (wd_LongTrainModel_cross k a_t d_t i_t j_t r_t_s) H locs → lv_has ls 13 [(5, .int x5), (6, .int x6), (7, .int x7)] → W p l e { frames := 2, cells := 0, slots := 0, locals := 43 } s m ([.ref a_t, .int n1, .int n2, .int n3, .int n4, .int n5] : List Value).toArray below meth c H locs 0 0 (Ei below (fun r w => ∃ (i_t : Nat → Int32), w = (wd_LongTrainModel_cross k a_t d_t i_t j_t r_t_s) ∧ Q r i_t) D k A ([.ref a_t, .int n1, .int n2, .int n3, .int n4, .int n5] : List Value).toArray s 0 0) (F0 m 216 ls [])) :
    ∀ n : Nat, ∀ (x6 : Int32) (x7 : Int32) (x8 : Int32) (H : Heap) (locs : List Loc) (ls : Array Slot), lp_LongTrainModel_cross_73 r_t_s x1 x2 x3 x4 kx_73 n x6 x7 x8 → Bd D A s.heap (wd_LongTrainModel_cross k a_t d_t i_t j_t r_t_s) H locs → lv_has ls 13 [(0, .ref a_t), (1, .int x1), (2, .int x2), (3, .int x3), (4, .int x4), (5, .int x5), (6, .int x6), (7, .int x7), (8, .int x8)] → W p l e { frames := 2, cells := 0, slots := 0, locals := 43 } s m ([.ref a_t, .int n1, .int n2, .int n3, .int n4, .int n5] : List Value).toArray below meth c H locs 0 0 (Ei below (fun r w => ∃ (i_t : Nat → Int32), w = (wd_LongTrainModel_cross k a_t d_t i_t j_t r_t_s) ∧ Q r i_t) D k A ([.ref a_t, .int n1, .int n2, .int n3, .int n4, .int n5] : List Value).toArray s 0 0) (F0 m 73 ls []) := by
  intro n
  induction n with
  | zero => intro x6 x7 x8 H locs ls hf; exact absurd hf (fun h => h)
  | succ n ih => exact bt_LongTrainModel_cross_73 F hr hlk hA hkx_73 ih

set_option maxRecDepth 100000 in
set_option maxHeartbeats 4000000 in
theorem c_LongTrainModel_cross (l : Launch) (D : va_G) (k : Nat → ClassId) (a_t : Nat) (d_t : Nat → Nat) (i_t : Nat → Int32) (j_t : Nat → Int64) (r_t_s : Nat → Int32) (n1 : Int32) (n2 : Int32) (n3 : Int32) (n4 : Int32) (n5 : Int32) (Q : Int32 → (Nat → Int32) → Prop)  (hf : w_LongTrainModel_cross i_t r_t_s n1 n2 n3 n4 n5 Q) : CtI l yX12_cross cX12_cross 13 (some .int) 2 43 0 0 D k [.ref a_t, .int n1, .int n2, .int n3, .int n4, .int n5] (wd_LongTrainModel_cross k a_t d_t i_t j_t r_t_s) (fun r w => ∃ (i_t : Nat → Int32), w = (wd_LongTrainModel_cross k a_t d_t i_t j_t r_t_s) ∧ Q r i_t) := by
  refine CtI.of (by decide) (Nat.le_of_ble_eq_true rfl) ?_
  intro p e s m below meth c A F hr hlk hnm hA hB ls hl
  have hx := F.x
  have hb := F.b
  unfold w_LongTrainModel_cross at hf
  replace hl : lv_has ls 13 [(0, .ref a_t), (1, .int n1), (2, .int n2), (3, .int n3), (4, .int n4), (5, .int n5)] := hl
  refine lv_aload_n hx hb dX12_cross_0 rfl (lv_at hl 0 rfl) ?_
  refine lv_iconst (v := 0) hx hb dX12_cross_1 (by decide) ?_
  refine g_puti F hB 0 rfl fl_RX12_1 rfl (wd_LongTrainModel_cross k a_t d_t (upd i_t 0 (0 : Int32)) j_t r_t_s) rfl dX12_cross_2 (fun H locs hB => ?_)
  refine lv_iload_n hx hb dX12_cross_5 rfl (lv_at hl 1 rfl) ?_
  refine lv_iconst (v := 1) hx hb dX12_cross_6 (by decide) ?_
  refine lv_sipush (v := 400) hx hb dX12_cross_7 (by decide) ?_
  refine k_si (wr := [(a_t, ob 12 (rfd d_t) (upd i_t 0 (0 : Int32)) j_t), ((d_t 6), ai k 1068 r_t_s)]) (rest := []) F hA hB (c_LongTrainModel_isIn l D k n1 (1 : Int32) (400 : Int32) _  hf) ml_RX12_182 ms_yX12_isIn [] [0, 1] rfl rfl (by decide) (by decide) (by decide) rfl hl.1 rfl (Nat.le_of_ble_eq_true rfl) ⟨Nat.le_of_ble_eq_true rfl, Nat.le_of_ble_eq_true rfl⟩ ⟨Nat.le_of_ble_eq_true rfl, Nat.le_of_ble_eq_true rfl⟩ dX12_cross_10 (fun z_1 w1 H locs hq hB => ?_)
  obtain ⟨h_2, rfl, hf⟩ := hq
  replace hB : Bd D A s.heap (wd_LongTrainModel_cross k a_t d_t (upd i_t 0 (0 : Int32)) j_t r_t_s) H locs := hB.sub [0, 1] (by decide) rfl
  refine lv_if_eq (tgt := 60) hx hb dX12_cross_13 (by decide) (fun c_35 => ?_) (fun c_35 => ?_)
  · replace hf := hf.1 c_35
    refine lv_iconst (v := -1) hx hb dX12_cross_60 (by decide) ?_
    exact r_i F hr hlk hB ⟨_, rfl, hf⟩ dX12_cross_61
  · replace hf := hf.2 c_35
    refine lv_iload_n hx hb dX12_cross_16 rfl (lv_at hl 2 rfl) ?_
    refine lv_iconst (v := 1) hx hb dX12_cross_17 (by decide) ?_
    refine lv_sipush (v := 400) hx hb dX12_cross_18 (by decide) ?_
    refine k_si (wr := [(a_t, ob 12 (rfd d_t) (upd i_t 0 (0 : Int32)) j_t), ((d_t 6), ai k 1068 r_t_s)]) (rest := []) F hA hB (c_LongTrainModel_isIn l D k n2 (1 : Int32) (400 : Int32) _  hf) ml_RX12_182 ms_yX12_isIn [] [0, 1] rfl rfl (by decide) (by decide) (by decide) rfl hl.1 rfl (Nat.le_of_ble_eq_true rfl) ⟨Nat.le_of_ble_eq_true rfl, Nat.le_of_ble_eq_true rfl⟩ ⟨Nat.le_of_ble_eq_true rfl, Nat.le_of_ble_eq_true rfl⟩ dX12_cross_21 (fun z_3 w1 H locs hq hB => ?_)
    obtain ⟨h_4, rfl, hf⟩ := hq
    replace hB : Bd D A s.heap (wd_LongTrainModel_cross k a_t d_t (upd i_t 0 (0 : Int32)) j_t r_t_s) H locs := hB.sub [0, 1] (by decide) rfl
    refine lv_if_eq (tgt := 60) hx hb dX12_cross_24 (by decide) (fun c_34 => ?_) (fun c_34 => ?_)
    · replace hf := hf.1 c_34
      refine lv_iconst (v := -1) hx hb dX12_cross_60 (by decide) ?_
      exact r_i F hr hlk hB ⟨_, rfl, hf⟩ dX12_cross_61
    · replace hf := hf.2 c_34
      refine lv_aload_n hx hb dX12_cross_27 rfl (lv_at hl 0 rfl) ?_
      refine lv_iload_n hx hb dX12_cross_28 rfl (lv_at hl 3 rfl) ?_
      refine k_vi (wr := []) (rest := []) F hA hB (c_LongTrainModel_isUnit l D k a_t d_t (upd i_t 0 (0 : Int32)) j_t r_t_s n3 _  hf) ml_RX12_291 mv_yX12_isUnit [0, 1] [] rfl rfl (by decide) (by decide) (by decide) 0 rfl rfl rfl hl.1 rfl (Nat.le_of_ble_eq_true rfl) ⟨Nat.le_of_ble_eq_true rfl, Nat.le_of_ble_eq_true rfl⟩ ⟨Nat.le_of_ble_eq_true rfl, Nat.le_of_ble_eq_true rfl⟩ dX12_cross_29 (fun z_5 w1 H locs hq hB => ?_)
      obtain ⟨h_6, rfl, hf⟩ := hq
      replace hB : Bd D A s.heap (wd_LongTrainModel_cross k a_t d_t (upd i_t 0 (0 : Int32)) j_t r_t_s) H locs := hB.sub [0, 1] (by decide) rfl
      refine lv_if_eq (tgt := 60) hx hb dX12_cross_32 (by decide) (fun c_33 => ?_) (fun c_33 => ?_)
      · replace hf := hf.1 c_33
        refine lv_iconst (v := -1) hx hb dX12_cross_60 (by decide) ?_
        exact r_i F hr hlk hB ⟨_, rfl, hf⟩ dX12_cross_61
      · replace hf := hf.2 c_33
        refine lv_aload_n hx hb dX12_cross_35 rfl (lv_at hl 0 rfl) ?_
        refine lv_iload hx hb dX12_cross_36 (lv_at hl 4 rfl) ?_
        refine k_vi (wr := []) (rest := []) F hA hB (c_LongTrainModel_isUnit l D k a_t d_t (upd i_t 0 (0 : Int32)) j_t r_t_s n4 _  hf) ml_RX12_291 mv_yX12_isUnit [0, 1] [] rfl rfl (by decide) (by decide) (by decide) 0 rfl rfl rfl hl.1 rfl (Nat.le_of_ble_eq_true rfl) ⟨Nat.le_of_ble_eq_true rfl, Nat.le_of_ble_eq_true rfl⟩ ⟨Nat.le_of_ble_eq_true rfl, Nat.le_of_ble_eq_true rfl⟩ dX12_cross_38 (fun z_7 w1 H locs hq hB => ?_)
        obtain ⟨h_8, rfl, hf⟩ := hq
        replace hB : Bd D A s.heap (wd_LongTrainModel_cross k a_t d_t (upd i_t 0 (0 : Int32)) j_t r_t_s) H locs := hB.sub [0, 1] (by decide) rfl
        refine lv_if_eq (tgt := 60) hx hb dX12_cross_41 (by decide) (fun c_32 => ?_) (fun c_32 => ?_)
        · replace hf := hf.1 c_32
          refine lv_iconst (v := -1) hx hb dX12_cross_60 (by decide) ?_
          exact r_i F hr hlk hB ⟨_, rfl, hf⟩ dX12_cross_61
        · replace hf := hf.2 c_32
          refine lv_iload_n hx hb dX12_cross_44 rfl (lv_at hl 3 rfl) ?_
          refine lv_iload hx hb dX12_cross_45 (lv_at hl 4 rfl) ?_
          refine lv_icmp_ge (tgt := 60) hx hb dX12_cross_47 (by decide) (fun c_31 => ?_) (fun c_31 => ?_)
          · replace hf := hf.1 c_31
            refine lv_iconst (v := -1) hx hb dX12_cross_60 (by decide) ?_
            exact r_i F hr hlk hB ⟨_, rfl, hf⟩ dX12_cross_61
          · replace hf := hf.2 c_31
            refine lv_iload hx hb dX12_cross_50 (lv_at hl 5 rfl) ?_
            refine lv_iconst (v := 0) hx hb dX12_cross_52 (by decide) ?_
            refine lv_iconst (v := 1) hx hb dX12_cross_53 (by decide) ?_
            refine k_si (wr := [(a_t, ob 12 (rfd d_t) (upd i_t 0 (0 : Int32)) j_t), ((d_t 6), ai k 1068 r_t_s)]) (rest := []) F hA hB (c_LongTrainModel_isIn l D k n5 (0 : Int32) (1 : Int32) _  hf) ml_RX12_182 ms_yX12_isIn [] [0, 1] rfl rfl (by decide) (by decide) (by decide) rfl hl.1 rfl (Nat.le_of_ble_eq_true rfl) ⟨Nat.le_of_ble_eq_true rfl, Nat.le_of_ble_eq_true rfl⟩ ⟨Nat.le_of_ble_eq_true rfl, Nat.le_of_ble_eq_true rfl⟩ dX12_cross_54 (fun z_9 w1 H locs hq hB => ?_)
            obtain ⟨h_10, rfl, hf⟩ := hq
            replace hB : Bd D A s.heap (wd_LongTrainModel_cross k a_t d_t (upd i_t 0 (0 : Int32)) j_t r_t_s) H locs := hB.sub [0, 1] (by decide) rfl
            refine lv_if_ne (tgt := 62) hx hb dX12_cross_57 (by decide) (fun c_30 => ?_) (fun c_30 => ?_)
            · replace hf := hf.1 c_30
              refine lv_iconst (v := -1) hx hb dX12_cross_62 (by decide) ?_
              refine lv_istore (lv' := [(6, .int (-1 : Int32)), (0, .ref a_t), (1, .int n1), (2, .int n2), (3, .int n3), (4, .int n4), (5, .int n5)]) hx hb dX12_cross_63 hl (by decide) rfl (fun ls hl => ?_)
              refine lv_ldcw (v := 1000000000) hx hb F.o (F.t _ cst_RX12_360) dX12_cross_65 ?_
              refine lv_istore (lv' := [(7, .int (1000000000 : Int32)), (6, .int (-1 : Int32)), (0, .ref a_t), (1, .int n1), (2, .int n2), (3, .int n3), (4, .int n4), (5, .int n5)]) hx hb dX12_cross_68 hl (by decide) rfl (fun ls hl => ?_)
              refine lv_iconst (v := 0) hx hb dX12_cross_70 (by decide) ?_
              refine lv_istore (lv' := [(8, .int (0 : Int32)), (7, .int (1000000000 : Int32)), (6, .int (-1 : Int32)), (0, .ref a_t), (1, .int n1), (2, .int n2), (3, .int n3), (4, .int n4), (5, .int n5)]) hx hb dX12_cross_71 hl (by decide) rfl (fun ls hl => ?_)
              obtain ⟨n_29, hf⟩ := hf
              refine lt_LongTrainModel_cross_73 F hr hlk hA (fun x6_25 x7_26 H locs ls hf hB hl => ?_) n_29 _ _ _ _ _ _ hf hB (lv_sub hl [3, 4, 5, 6, 7, 8, 2, 1, 0] rfl)
              refine lv_iload hx hb dX12_cross_216 (lv_at hl 1 rfl) ?_
              refine lv_if_lt (tgt := 226) hx hb dX12_cross_218 (by decide) (fun c_28 => ?_) (fun c_28 => ?_)
              · replace hf := hf.1 c_28
                refine lv_iload hx hb dX12_cross_226 (lv_at hl 1 rfl) ?_
                refine lv_goto (tgt := 233) hx hb dX12_cross_228 (by decide) ?_
                exact r_i F hr hlk hB ⟨_, rfl, hf⟩ dX12_cross_233
              · replace hf := hf.2 c_28
                refine lv_iload hx hb dX12_cross_221 (lv_at hl 0 rfl) ?_
                refine lv_if_ne (tgt := 231) hx hb dX12_cross_223 (by decide) (fun c_27 => ?_) (fun c_27 => ?_)
                · replace hf := hf.1 c_27
                  refine lv_iload hx hb dX12_cross_231 (lv_at hl 2 rfl) ?_
                  exact r_i F hr hlk hB ⟨_, rfl, hf⟩ dX12_cross_233
                · replace hf := hf.2 c_27
                  refine lv_iload hx hb dX12_cross_226 (lv_at hl 1 rfl) ?_
                  refine lv_goto (tgt := 233) hx hb dX12_cross_228 (by decide) ?_
                  exact r_i F hr hlk hB ⟨_, rfl, hf⟩ dX12_cross_233
            · replace hf := hf.2 c_30
              refine lv_iconst (v := -1) hx hb dX12_cross_60 (by decide) ?_
              exact r_i F hr hlk hB ⟨_, rfl, hf⟩ dX12_cross_61

/-! LongTrainModel.ring -/
set_option maxRecDepth 100000 in
set_option maxHeartbeats 4000000 in
theorem bt_LongTrainModel_ring_64 {p : Program} {l : Launch} {e : Env} {s : State} {m : MethodId} {below : List Frame} {meth : Method} {c : Code} {A : Nat → Prop} {D : va_G} {k : Nat → ClassId} {a_t : Nat} {d_t : Nat → Nat} {i_t : Nat → Int32} {j_t : Nat → Int64} {r_t_s : Nat → Int32} {n1 : Int32} {n2 : Int32} {n3 : Int32} {n4 : Int32} {Q : Int32 → (Nat → Int32) → Prop}  {x1 : Int32} {x4 : Int32} {kx_64 : (Int32) → Prop} {kr_64 : (Int32) → (Int32) → Prop} (F : Fx p m c cX12_ring 7 s ([.ref a_t, .int n1, .int n2, .int n3, .int n4] : List Value).toArray RX12 D k) (hr : meth.sig.returnType = (some .int)) (hlk : meth.locks = false) (hA : ∀ q : Nat, s.heap.size ≤ q → A q) (hkx_64 : ∀ (x5 : Int32) (H : Heap) (locs : List Loc) (ls : Array Slot), kx_64 x5 → Bd D A s.heap (wd_LongTrainModel_ring k a_t d_t i_t j_t r_t_s) H locs → lv_has ls 7 [(5, .int x5)] → W p l e { frames := 2, cells := 0, slots := 0, locals := 43 } s m ([.ref a_t, .int n1, .int n2, .int n3, .int n4] : List Value).toArray below meth c H locs 0 0 (Ei below (fun r w => ∃ (i_t : Nat → Int32), w = (wd_LongTrainModel_ring k a_t d_t i_t j_t r_t_s) ∧ Q r i_t) D k A ([.ref a_t, .int n1, .int n2, .int n3, .int n4] : List Value).toArray s 0 0) (F0 m 87 ls [])) (hkr_64 : ∀ (x5 : Int32) (x6 : Int32) (H : Heap) (locs : List Loc) (ls : Array Slot), kr_64 x5 x6 → Bd D A s.heap (wd_LongTrainModel_ring k a_t d_t i_t j_t r_t_s) H locs → lv_has ls 7 [(0, .ref a_t), (1, .int x1), (4, .int x4), (5, .int x5), (6, .int x6)] → W p l e { frames := 2, cells := 0, slots := 0, locals := 43 } s m ([.ref a_t, .int n1, .int n2, .int n3, .int n4] : List Value).toArray below meth c H locs 0 0 (Ei below (fun r w => ∃ (i_t : Nat → Int32), w = (wd_LongTrainModel_ring k a_t d_t i_t j_t r_t_s) ∧ Q r i_t) D k A ([.ref a_t, .int n1, .int n2, .int n3, .int n4] : List Value).toArray s 0 0) (F0 m 64 ls [])) :
    ∀ (x5 : Int32) (x6 : Int32) (H : Heap) (locs : List Loc) (ls : Array Slot), b_LongTrainModel_ring_64 r_t_s x1 x4 kx_64 kr_64 x5 x6 → Bd D A s.heap (wd_LongTrainModel_ring k a_t d_t i_t j_t r_t_s) H locs → lv_has ls 7 [(0, .ref a_t), (1, .int x1), (4, .int x4), (5, .int x5), (6, .int x6)] → W p l e { frames := 2, cells := 0, slots := 0, locals := 43 } s m ([.ref a_t, .int n1, .int n2, .int n3, .int n4] : List Value).toArray below meth c H locs 0 0 (Ei below (fun r w => ∃ (i_t : Nat → Int32), w = (wd_LongTrainModel_ring k a_t d_t i_t j_t r_t_s) ∧ Q r i_t) D k A ([.ref a_t, .int n1, .int n2, .int n3, .int n4] : List Value).toArray s 0 0) (F0 m 64 ls []) := by
  have hx := F.x
  have hb := F.b
  intro x5 x6 H locs ls hf hB hl
  unfold b_LongTrainModel_ring_64 at hf
  refine lv_iload hx hb dX12_ring_64 (lv_at hl 4 rfl) ?_
  refine lv_iload_n hx hb dX12_ring_66 rfl (lv_at hl 1 rfl) ?_
  refine lv_icmp_gt (tgt := 87) hx hb dX12_ring_67 (by decide) (fun c_11 => ?_) (fun c_11 => ?_)
  · replace hf := hf.1 c_11
    exact hkx_64 _ _ _ _ hf hB (lv_sub hl [3] rfl)
  · replace hf := hf.2 c_11
    refine lv_iinc (v := (x5 + 1)) (lv' := [(5, .int (x5 + 1)), (0, .ref a_t), (1, .int x1), (4, .int x4), (6, .int x6)]) (k := 3) hx hb dX12_ring_70 hl rfl rfl (by decide) rfl (fun ls hl => ?_)
    refine lv_iload hx hb dX12_ring_73 (lv_at hl 4 rfl) ?_
    refine lv_aload_n hx hb dX12_ring_75 rfl (lv_at hl 1 rfl) ?_
    refine lv_iload hx hb dX12_ring_76 (lv_at hl 3 rfl) ?_
    refine k_vi (wr := []) (rest := [.int x6]) F hA hB (c_LongTrainModel_longOf l D k a_t d_t i_t j_t r_t_s x4 _  hf) ml_RX12_273 mv_yX12_longOf [0, 1] [] rfl rfl (by decide) (by decide) (by decide) 0 rfl rfl rfl hl.1 rfl (Nat.le_of_ble_eq_true rfl) ⟨Nat.le_of_ble_eq_true rfl, Nat.le_of_ble_eq_true rfl⟩ ⟨Nat.le_of_ble_eq_true rfl, Nat.le_of_ble_eq_true rfl⟩ dX12_ring_78 (fun z_10 w1 H locs hq hB => ?_)
    obtain ⟨rfl, hf⟩ := hq
    replace hB : Bd D A s.heap (wd_LongTrainModel_ring k a_t d_t i_t j_t r_t_s) H locs := hB.sub [0, 1] (by decide) rfl
    refine lv_iadd hx hb dX12_ring_81 ?_
    refine lv_istore (lv' := [(6, .int (x6 + z_10)), (5, .int (x5 + 1)), (0, .ref a_t), (1, .int x1), (4, .int x4)]) hx hb dX12_ring_82 hl (by decide) rfl (fun ls hl => ?_)
    refine lv_goto (tgt := 64) hx hb dX12_ring_84 (by decide) ?_
    exact hkr_64 _ _ _ _ _ hf hB (lv_sub hl [2, 3, 4, 1, 0] rfl)

set_option maxRecDepth 100000 in
set_option maxHeartbeats 4000000 in
theorem lt_LongTrainModel_ring_64 {p : Program} {l : Launch} {e : Env} {s : State} {m : MethodId} {below : List Frame} {meth : Method} {c : Code} {A : Nat → Prop} {D : va_G} {k : Nat → ClassId} {a_t : Nat} {d_t : Nat → Nat} {i_t : Nat → Int32} {j_t : Nat → Int64} {r_t_s : Nat → Int32} {n1 : Int32} {n2 : Int32} {n3 : Int32} {n4 : Int32} {Q : Int32 → (Nat → Int32) → Prop}  {x1 : Int32} {x4 : Int32} {kx_64 : (Int32) → Prop} (F : Fx p m c cX12_ring 7 s ([.ref a_t, .int n1, .int n2, .int n3, .int n4] : List Value).toArray RX12 D k) (hr : meth.sig.returnType = (some .int)) (hlk : meth.locks = false) (hA : ∀ q : Nat, s.heap.size ≤ q → A q) (hkx_64 : ∀ (x5 : Int32) (H : Heap) (locs : List Loc) (ls : Array Slot), kx_64 x5 → Bd D A s.heap (wd_LongTrainModel_ring k a_t d_t i_t j_t r_t_s) H locs → lv_has ls 7 [(5, .int x5)] → W p l e { frames := 2, cells := 0, slots := 0, locals := 43 } s m ([.ref a_t, .int n1, .int n2, .int n3, .int n4] : List Value).toArray below meth c H locs 0 0 (Ei below (fun r w => ∃ (i_t : Nat → Int32), w = (wd_LongTrainModel_ring k a_t d_t i_t j_t r_t_s) ∧ Q r i_t) D k A ([.ref a_t, .int n1, .int n2, .int n3, .int n4] : List Value).toArray s 0 0) (F0 m 87 ls [])) :
    ∀ n : Nat, ∀ (x5 : Int32) (x6 : Int32) (H : Heap) (locs : List Loc) (ls : Array Slot), lp_LongTrainModel_ring_64 r_t_s x1 x4 kx_64 n x5 x6 → Bd D A s.heap (wd_LongTrainModel_ring k a_t d_t i_t j_t r_t_s) H locs → lv_has ls 7 [(0, .ref a_t), (1, .int x1), (4, .int x4), (5, .int x5), (6, .int x6)] → W p l e { frames := 2, cells := 0, slots := 0, locals := 43 } s m ([.ref a_t, .int n1, .int n2, .int n3, .int n4] : List Value).toArray below meth c H locs 0 0 (Ei below (fun r w => ∃ (i_t : Nat → Int32), w = (wd_LongTrainModel_ring k a_t d_t i_t j_t r_t_s) ∧ Q r i_t) D k A ([.ref a_t, .int n1, .int n2, .int n3, .int n4] : List Value).toArray s 0 0) (F0 m 64 ls []) := by
  intro n
  induction n with
  | zero => intro x5 x6 H locs ls hf; exact absurd hf (fun h => h)
  | succ n ih => exact bt_LongTrainModel_ring_64 F hr hlk hA hkx_64 ih

set_option maxRecDepth 100000 in
set_option maxHeartbeats 4000000 in
theorem c_LongTrainModel_ring (l : Launch) (D : va_G) (k : Nat → ClassId) (a_t : Nat) (d_t : Nat → Nat) (i_t : Nat → Int32) (j_t : Nat → Int64) (r_t_s : Nat → Int32) (n1 : Int32) (n2 : Int32) (n3 : Int32) (n4 : Int32) (Q : Int32 → (Nat → Int32) → Prop)  (hf : w_LongTrainModel_ring i_t r_t_s n1 n2 n3 n4 Q) : CtI l yX12_ring cX12_ring 7 (some .int) 2 43 0 0 D k [.ref a_t, .int n1, .int n2, .int n3, .int n4] (wd_LongTrainModel_ring k a_t d_t i_t j_t r_t_s) (fun r w => ∃ (i_t : Nat → Int32), w = (wd_LongTrainModel_ring k a_t d_t i_t j_t r_t_s) ∧ Q r i_t) := by
  refine CtI.of (by decide) (Nat.le_of_ble_eq_true rfl) ?_
  intro p e s m below meth c A F hr hlk hnm hA hB ls hl
  have hx := F.x
  have hb := F.b
  unfold w_LongTrainModel_ring at hf
  replace hl : lv_has ls 7 [(0, .ref a_t), (1, .int n1), (2, .int n2), (3, .int n3), (4, .int n4)] := hl
  refine lv_aload_n hx hb dX12_ring_0 rfl (lv_at hl 0 rfl) ?_
  refine lv_iconst (v := 0) hx hb dX12_ring_1 (by decide) ?_
  refine g_puti F hB 0 rfl fl_RX12_1 rfl (wd_LongTrainModel_ring k a_t d_t (upd i_t 0 (0 : Int32)) j_t r_t_s) rfl dX12_ring_2 (fun H locs hB => ?_)
  refine lv_iload_n hx hb dX12_ring_5 rfl (lv_at hl 1 rfl) ?_
  refine lv_iconst (v := 1) hx hb dX12_ring_6 (by decide) ?_
  refine lv_sipush (v := 9999) hx hb dX12_ring_7 (by decide) ?_
  refine k_si (wr := [(a_t, ob 12 (rfd d_t) (upd i_t 0 (0 : Int32)) j_t), ((d_t 6), ai k 1068 r_t_s)]) (rest := []) F hA hB (c_LongTrainModel_isIn l D k n1 (1 : Int32) (9999 : Int32) _  hf) ml_RX12_182 ms_yX12_isIn [] [0, 1] rfl rfl (by decide) (by decide) (by decide) rfl hl.1 rfl (Nat.le_of_ble_eq_true rfl) ⟨Nat.le_of_ble_eq_true rfl, Nat.le_of_ble_eq_true rfl⟩ ⟨Nat.le_of_ble_eq_true rfl, Nat.le_of_ble_eq_true rfl⟩ dX12_ring_10 (fun z_1 w1 H locs hq hB => ?_)
  obtain ⟨h_2, rfl, hf⟩ := hq
  replace hB : Bd D A s.heap (wd_LongTrainModel_ring k a_t d_t (upd i_t 0 (0 : Int32)) j_t r_t_s) H locs := hB.sub [0, 1] (by decide) rfl
  refine lv_if_eq (tgt := 47) hx hb dX12_ring_13 (by decide) (fun c_17 => ?_) (fun c_17 => ?_)
  · replace hf := hf.1 c_17
    refine lv_iconst (v := -1) hx hb dX12_ring_47 (by decide) ?_
    exact r_i F hr hlk hB ⟨_, rfl, hf⟩ dX12_ring_48
  · replace hf := hf.2 c_17
    refine lv_iload_n hx hb dX12_ring_16 rfl (lv_at hl 2 rfl) ?_
    refine lv_iconst (v := 1) hx hb dX12_ring_17 (by decide) ?_
    refine lv_sipush (v := 999) hx hb dX12_ring_18 (by decide) ?_
    refine k_si (wr := [(a_t, ob 12 (rfd d_t) (upd i_t 0 (0 : Int32)) j_t), ((d_t 6), ai k 1068 r_t_s)]) (rest := []) F hA hB (c_LongTrainModel_isIn l D k n2 (1 : Int32) (999 : Int32) _  hf) ml_RX12_182 ms_yX12_isIn [] [0, 1] rfl rfl (by decide) (by decide) (by decide) rfl hl.1 rfl (Nat.le_of_ble_eq_true rfl) ⟨Nat.le_of_ble_eq_true rfl, Nat.le_of_ble_eq_true rfl⟩ ⟨Nat.le_of_ble_eq_true rfl, Nat.le_of_ble_eq_true rfl⟩ dX12_ring_21 (fun z_3 w1 H locs hq hB => ?_)
    obtain ⟨h_4, rfl, hf⟩ := hq
    replace hB : Bd D A s.heap (wd_LongTrainModel_ring k a_t d_t (upd i_t 0 (0 : Int32)) j_t r_t_s) H locs := hB.sub [0, 1] (by decide) rfl
    refine lv_if_eq (tgt := 47) hx hb dX12_ring_24 (by decide) (fun c_16 => ?_) (fun c_16 => ?_)
    · replace hf := hf.1 c_16
      refine lv_iconst (v := -1) hx hb dX12_ring_47 (by decide) ?_
      exact r_i F hr hlk hB ⟨_, rfl, hf⟩ dX12_ring_48
    · replace hf := hf.2 c_16
      refine lv_iload_n hx hb dX12_ring_27 rfl (lv_at hl 3 rfl) ?_
      refine lv_iconst (v := 1) hx hb dX12_ring_28 (by decide) ?_
      refine lv_sipush (v := 999) hx hb dX12_ring_29 (by decide) ?_
      refine k_si (wr := [(a_t, ob 12 (rfd d_t) (upd i_t 0 (0 : Int32)) j_t), ((d_t 6), ai k 1068 r_t_s)]) (rest := []) F hA hB (c_LongTrainModel_isIn l D k n3 (1 : Int32) (999 : Int32) _  hf) ml_RX12_182 ms_yX12_isIn [] [0, 1] rfl rfl (by decide) (by decide) (by decide) rfl hl.1 rfl (Nat.le_of_ble_eq_true rfl) ⟨Nat.le_of_ble_eq_true rfl, Nat.le_of_ble_eq_true rfl⟩ ⟨Nat.le_of_ble_eq_true rfl, Nat.le_of_ble_eq_true rfl⟩ dX12_ring_32 (fun z_5 w1 H locs hq hB => ?_)
      obtain ⟨h_6, rfl, hf⟩ := hq
      replace hB : Bd D A s.heap (wd_LongTrainModel_ring k a_t d_t (upd i_t 0 (0 : Int32)) j_t r_t_s) H locs := hB.sub [0, 1] (by decide) rfl
      refine lv_if_eq (tgt := 47) hx hb dX12_ring_35 (by decide) (fun c_15 => ?_) (fun c_15 => ?_)
      · replace hf := hf.1 c_15
        refine lv_iconst (v := -1) hx hb dX12_ring_47 (by decide) ?_
        exact r_i F hr hlk hB ⟨_, rfl, hf⟩ dX12_ring_48
      · replace hf := hf.2 c_15
        refine lv_aload_n hx hb dX12_ring_38 rfl (lv_at hl 0 rfl) ?_
        refine lv_iload hx hb dX12_ring_39 (lv_at hl 4 rfl) ?_
        refine k_vi (wr := []) (rest := []) F hA hB (c_LongTrainModel_isKind l D k a_t d_t (upd i_t 0 (0 : Int32)) j_t r_t_s n4 _  hf) ml_RX12_267 mv_yX12_isKind [0, 1] [] rfl rfl (by decide) (by decide) (by decide) 0 rfl rfl rfl hl.1 rfl (Nat.le_of_ble_eq_true rfl) ⟨Nat.le_of_ble_eq_true rfl, Nat.le_of_ble_eq_true rfl⟩ ⟨Nat.le_of_ble_eq_true rfl, Nat.le_of_ble_eq_true rfl⟩ dX12_ring_41 (fun z_7 w1 H locs hq hB => ?_)
        obtain ⟨h_8, rfl, hf⟩ := hq
        replace hB : Bd D A s.heap (wd_LongTrainModel_ring k a_t d_t (upd i_t 0 (0 : Int32)) j_t r_t_s) H locs := hB.sub [0, 1] (by decide) rfl
        refine lv_if_ne (tgt := 49) hx hb dX12_ring_44 (by decide) (fun c_14 => ?_) (fun c_14 => ?_)
        · replace hf := hf.1 c_14
          refine lv_iconst (v := 0) hx hb dX12_ring_49 (by decide) ?_
          refine lv_istore (lv' := [(5, .int (0 : Int32)), (0, .ref a_t), (1, .int n1), (2, .int n2), (3, .int n3), (4, .int n4)]) hx hb dX12_ring_50 hl (by decide) rfl (fun ls hl => ?_)
          refine lv_iload_n hx hb dX12_ring_52 rfl (lv_at hl 3 rfl) ?_
          refine lv_iload_n hx hb dX12_ring_53 rfl (lv_at hl 4 rfl) ?_
          refine lv_iadd hx hb dX12_ring_54 ?_
          refine lv_aload_n hx hb dX12_ring_55 rfl (lv_at hl 1 rfl) ?_
          refine lv_iload hx hb dX12_ring_56 (lv_at hl 5 rfl) ?_
          refine k_vi (wr := []) (rest := [.int (n2 + n3)]) F hA hB (c_LongTrainModel_longOf l D k a_t d_t (upd i_t 0 (0 : Int32)) j_t r_t_s n4 _  hf) ml_RX12_273 mv_yX12_longOf [0, 1] [] rfl rfl (by decide) (by decide) (by decide) 0 rfl rfl rfl hl.1 rfl (Nat.le_of_ble_eq_true rfl) ⟨Nat.le_of_ble_eq_true rfl, Nat.le_of_ble_eq_true rfl⟩ ⟨Nat.le_of_ble_eq_true rfl, Nat.le_of_ble_eq_true rfl⟩ dX12_ring_58 (fun z_9 w1 H locs hq hB => ?_)
          obtain ⟨rfl, hf⟩ := hq
          replace hB : Bd D A s.heap (wd_LongTrainModel_ring k a_t d_t (upd i_t 0 (0 : Int32)) j_t r_t_s) H locs := hB.sub [0, 1] (by decide) rfl
          refine lv_iadd hx hb dX12_ring_61 ?_
          refine lv_istore (lv' := [(6, .int ((n2 + n3) + z_9)), (5, .int (0 : Int32)), (0, .ref a_t), (1, .int n1), (2, .int n2), (3, .int n3), (4, .int n4)]) hx hb dX12_ring_62 hl (by decide) rfl (fun ls hl => ?_)
          obtain ⟨n_13, hf⟩ := hf
          refine lt_LongTrainModel_ring_64 F hr hlk hA (fun x5_12 H locs ls hf hB hl => ?_) n_13 _ _ _ _ _ hf hB (lv_sub hl [2, 3, 6, 1, 0] rfl)
          refine lv_iload hx hb dX12_ring_87 (lv_at hl 0 rfl) ?_
          exact r_i F hr hlk hB ⟨_, rfl, hf⟩ dX12_ring_89
        · replace hf := hf.2 c_14
          refine lv_iconst (v := -1) hx hb dX12_ring_47 (by decide) ?_
          exact r_i F hr hlk hB ⟨_, rfl, hf⟩ dX12_ring_48

/-! LongTrainModel.nowStands -/
set_option maxRecDepth 100000 in
set_option maxHeartbeats 4000000 in
theorem bt_LongTrainModel_nowStands_14 {p : Program} {l : Launch} {e : Env} {s : State} {m : MethodId} {below : List Frame} {meth : Method} {c : Code} {A : Nat → Prop} {D : va_G} {k : Nat → ClassId} {a_t : Nat} {d_t : Nat → Nat} {i_t : Nat → Int32} {j_t : Nat → Int64} {r_t_s : Nat → Int32} {r_t_foremost : Nat → Int32} {r_t_bears : Nat → Int32} {n1 : Int32} {Q : (Nat → Int32) → (Nat → Int32) → (Nat → Int32) → (Nat → Int32) → Prop}  {x1 : Int32} {kx_14 : (Nat → Int32) → Prop} {kr_14 : (Int32) → (Nat → Int32) → Prop} (F : Fx p m c cX12_nowStands 3 s ([.ref a_t, .int n1] : List Value).toArray RX12 D k) (hr : meth.sig.returnType = none) (hlk : meth.locks = false) (hA : ∀ q : Nat, s.heap.size ≤ q → A q) (hkx_14 : ∀ (r_t_wagons : Nat → Int32) (H : Heap) (locs : List Loc) (ls : Array Slot), kx_14 r_t_wagons → Bd D A s.heap (wd_LongTrainModel_nowStands k a_t d_t i_t j_t r_t_s r_t_wagons r_t_foremost r_t_bears) H locs → lv_has ls 3 [(0, .ref a_t), (1, .int x1)] → W p l e { frames := 2, cells := 0, slots := 0, locals := 45 } s m ([.ref a_t, .int n1] : List Value).toArray below meth c H locs 0 0 (Ev below (fun w => ∃ (i_t : Nat → Int32), ∃ (r_t_wagons : Nat → Int32), ∃ (r_t_foremost : Nat → Int32), ∃ (r_t_bears : Nat → Int32), w = (wd_LongTrainModel_nowStands k a_t d_t i_t j_t r_t_s r_t_wagons r_t_foremost r_t_bears) ∧ Q i_t r_t_wagons r_t_foremost r_t_bears) D k A ([.ref a_t, .int n1] : List Value).toArray s 0 0) (F0 m 44 ls [])) (hkr_14 : ∀ (x2 : Int32) (r_t_wagons : Nat → Int32) (H : Heap) (locs : List Loc) (ls : Array Slot), kr_14 x2 r_t_wagons → Bd D A s.heap (wd_LongTrainModel_nowStands k a_t d_t i_t j_t r_t_s r_t_wagons r_t_foremost r_t_bears) H locs → lv_has ls 3 [(0, .ref a_t), (1, .int x1), (2, .int x2)] → W p l e { frames := 2, cells := 0, slots := 0, locals := 45 } s m ([.ref a_t, .int n1] : List Value).toArray below meth c H locs 0 0 (Ev below (fun w => ∃ (i_t : Nat → Int32), ∃ (r_t_wagons : Nat → Int32), ∃ (r_t_foremost : Nat → Int32), ∃ (r_t_bears : Nat → Int32), w = (wd_LongTrainModel_nowStands k a_t d_t i_t j_t r_t_s r_t_wagons r_t_foremost r_t_bears) ∧ Q i_t r_t_wagons r_t_foremost r_t_bears) D k A ([.ref a_t, .int n1] : List Value).toArray s 0 0) (F0 m 14 ls [])) :
    ∀ (x2 : Int32) (r_t_wagons : Nat → Int32) (H : Heap) (locs : List Loc) (ls : Array Slot), b_LongTrainModel_nowStands_14 i_t r_t_s kx_14 kr_14 x2 r_t_wagons → Bd D A s.heap (wd_LongTrainModel_nowStands k a_t d_t i_t j_t r_t_s r_t_wagons r_t_foremost r_t_bears) H locs → lv_has ls 3 [(0, .ref a_t), (1, .int x1), (2, .int x2)] → W p l e { frames := 2, cells := 0, slots := 0, locals := 45 } s m ([.ref a_t, .int n1] : List Value).toArray below meth c H locs 0 0 (Ev below (fun w => ∃ (i_t : Nat → Int32), ∃ (r_t_wagons : Nat → Int32), ∃ (r_t_foremost : Nat → Int32), ∃ (r_t_bears : Nat → Int32), w = (wd_LongTrainModel_nowStands k a_t d_t i_t j_t r_t_s r_t_wagons r_t_foremost r_t_bears) ∧ Q i_t r_t_wagons r_t_foremost r_t_bears) D k A ([.ref a_t, .int n1] : List Value).toArray s 0 0) (F0 m 14 ls []) := by
  have hx := F.x
  have hb := F.b
  intro x2 r_t_wagons H locs ls hf hB hl
  unfold b_LongTrainModel_nowStands_14 at hf
  refine lv_iload_n hx hb dX12_nowStands_14 rfl (lv_at hl 2 rfl) ?_
  refine lv_aload_n hx hb dX12_nowStands_15 rfl (lv_at hl 0 rfl) ?_
  refine g_get (w := .int (i_t 27)) F hB 0 rfl fl_RX12_270 rfl dX12_nowStands_16 ?_
  refine lv_icmp_ge (tgt := 44) hx hb dX12_nowStands_19 (by decide) (fun c_4 => ?_) (fun c_4 => ?_)
  · replace hf := hf.1 c_4
    exact hkx_14 _ _ _ _ hf hB (lv_sub hl [0, 1] rfl)
  · replace hf := hf.2 c_4
    refine lv_aload_n hx hb dX12_nowStands_22 rfl (lv_at hl 0 rfl) ?_
    refine g_get (w := .ref (d_t 22)) F hB 0 rfl fl_RX12_50 rfl dX12_nowStands_23 ?_
    refine lv_iload_n hx hb dX12_nowStands_26 rfl (lv_at hl 2 rfl) ?_
    refine lv_aload_n hx hb dX12_nowStands_27 rfl (lv_at hl 0 rfl) ?_
    refine g_get (w := .ref (d_t 6)) F hB 0 rfl fl_RX12_33 rfl dX12_nowStands_28 ?_
    refine lv_sipush (v := 495) hx hb dX12_nowStands_31 (by decide) ?_
    refine lv_iload_n hx hb dX12_nowStands_34 rfl (lv_at hl 2 rfl) ?_
    refine lv_iadd hx hb dX12_nowStands_35 ?_
    obtain ⟨h_2, hf⟩ := hf
    refine g_iald F hB 1 rfl h_2 dX12_nowStands_36 ?_
    obtain ⟨h_3, hf⟩ := hf
    refine g_iast F hB 2 rfl h_3 (wd_LongTrainModel_nowStands k a_t d_t i_t j_t r_t_s (upd r_t_wagons (x2).toNatClampNeg (r_t_s (((495 : Int32) + x2)).toNatClampNeg)) r_t_foremost r_t_bears) rfl dX12_nowStands_37 (fun H locs hB => ?_)
    refine lv_iinc (v := (x2 + 1)) (lv' := [(2, .int (x2 + 1)), (0, .ref a_t), (1, .int x1)]) (k := 2) hx hb dX12_nowStands_38 hl rfl rfl (by decide) rfl (fun ls hl => ?_)
    refine lv_goto (tgt := 14) hx hb dX12_nowStands_41 (by decide) ?_
    exact hkr_14 _ _ _ _ _ hf hB (lv_sub hl [1, 2, 0] rfl)

set_option maxRecDepth 100000 in
set_option maxHeartbeats 4000000 in
theorem lt_LongTrainModel_nowStands_14 {p : Program} {l : Launch} {e : Env} {s : State} {m : MethodId} {below : List Frame} {meth : Method} {c : Code} {A : Nat → Prop} {D : va_G} {k : Nat → ClassId} {a_t : Nat} {d_t : Nat → Nat} {i_t : Nat → Int32} {j_t : Nat → Int64} {r_t_s : Nat → Int32} {r_t_foremost : Nat → Int32} {r_t_bears : Nat → Int32} {n1 : Int32} {Q : (Nat → Int32) → (Nat → Int32) → (Nat → Int32) → (Nat → Int32) → Prop}  {x1 : Int32} {kx_14 : (Nat → Int32) → Prop} (F : Fx p m c cX12_nowStands 3 s ([.ref a_t, .int n1] : List Value).toArray RX12 D k) (hr : meth.sig.returnType = none) (hlk : meth.locks = false) (hA : ∀ q : Nat, s.heap.size ≤ q → A q) (hkx_14 : ∀ (r_t_wagons : Nat → Int32) (H : Heap) (locs : List Loc) (ls : Array Slot), kx_14 r_t_wagons → Bd D A s.heap (wd_LongTrainModel_nowStands k a_t d_t i_t j_t r_t_s r_t_wagons r_t_foremost r_t_bears) H locs → lv_has ls 3 [(0, .ref a_t), (1, .int x1)] → W p l e { frames := 2, cells := 0, slots := 0, locals := 45 } s m ([.ref a_t, .int n1] : List Value).toArray below meth c H locs 0 0 (Ev below (fun w => ∃ (i_t : Nat → Int32), ∃ (r_t_wagons : Nat → Int32), ∃ (r_t_foremost : Nat → Int32), ∃ (r_t_bears : Nat → Int32), w = (wd_LongTrainModel_nowStands k a_t d_t i_t j_t r_t_s r_t_wagons r_t_foremost r_t_bears) ∧ Q i_t r_t_wagons r_t_foremost r_t_bears) D k A ([.ref a_t, .int n1] : List Value).toArray s 0 0) (F0 m 44 ls [])) :
    ∀ n : Nat, ∀ (x2 : Int32) (r_t_wagons : Nat → Int32) (H : Heap) (locs : List Loc) (ls : Array Slot), lp_LongTrainModel_nowStands_14 i_t r_t_s kx_14 n x2 r_t_wagons → Bd D A s.heap (wd_LongTrainModel_nowStands k a_t d_t i_t j_t r_t_s r_t_wagons r_t_foremost r_t_bears) H locs → lv_has ls 3 [(0, .ref a_t), (1, .int x1), (2, .int x2)] → W p l e { frames := 2, cells := 0, slots := 0, locals := 45 } s m ([.ref a_t, .int n1] : List Value).toArray below meth c H locs 0 0 (Ev below (fun w => ∃ (i_t : Nat → Int32), ∃ (r_t_wagons : Nat → Int32), ∃ (r_t_foremost : Nat → Int32), ∃ (r_t_bears : Nat → Int32), w = (wd_LongTrainModel_nowStands k a_t d_t i_t j_t r_t_s r_t_wagons r_t_foremost r_t_bears) ∧ Q i_t r_t_wagons r_t_foremost r_t_bears) D k A ([.ref a_t, .int n1] : List Value).toArray s 0 0) (F0 m 14 ls []) := by
  intro n
  induction n with
  | zero => intro x2 r_t_wagons H locs ls hf; exact absurd hf (fun h => h)
  | succ n ih => exact bt_LongTrainModel_nowStands_14 F hr hlk hA hkx_14 ih

set_option maxRecDepth 100000 in
set_option maxHeartbeats 4000000 in
theorem bt_LongTrainModel_nowStands_51 {p : Program} {l : Launch} {e : Env} {s : State} {m : MethodId} {below : List Frame} {meth : Method} {c : Code} {A : Nat → Prop} {D : va_G} {k : Nat → ClassId} {a_t : Nat} {d_t : Nat → Nat} {j_t : Nat → Int64} {r_t_s : Nat → Int32} {r_t_wagons : Nat → Int32} {r_t_foremost : Nat → Int32} {n1 : Int32} {Q : (Nat → Int32) → (Nat → Int32) → (Nat → Int32) → (Nat → Int32) → Prop}  {kx_51 : (Nat → Int32) → (Nat → Int32) → Prop} {kr_51 : (Int32) → (Nat → Int32) → (Nat → Int32) → Prop} (F : Fx p m c cX12_nowStands 3 s ([.ref a_t, .int n1] : List Value).toArray RX12 D k) (hr : meth.sig.returnType = none) (hlk : meth.locks = false) (hA : ∀ q : Nat, s.heap.size ≤ q → A q) (hkx_51 : ∀ (i_t : Nat → Int32) (r_t_bears : Nat → Int32) (H : Heap) (locs : List Loc) (ls : Array Slot), kx_51 i_t r_t_bears → Bd D A s.heap (wd_LongTrainModel_nowStands k a_t d_t i_t j_t r_t_s r_t_wagons r_t_foremost r_t_bears) H locs → lv_has ls 3 [] → W p l e { frames := 2, cells := 0, slots := 0, locals := 45 } s m ([.ref a_t, .int n1] : List Value).toArray below meth c H locs 0 0 (Ev below (fun w => ∃ (i_t : Nat → Int32), ∃ (r_t_wagons : Nat → Int32), ∃ (r_t_foremost : Nat → Int32), ∃ (r_t_bears : Nat → Int32), w = (wd_LongTrainModel_nowStands k a_t d_t i_t j_t r_t_s r_t_wagons r_t_foremost r_t_bears) ∧ Q i_t r_t_wagons r_t_foremost r_t_bears) D k A ([.ref a_t, .int n1] : List Value).toArray s 0 0) (F0 m 93 ls [])) (hkr_51 : ∀ (x2 : Int32) (i_t : Nat → Int32) (r_t_bears : Nat → Int32) (H : Heap) (locs : List Loc) (ls : Array Slot), kr_51 x2 i_t r_t_bears → Bd D A s.heap (wd_LongTrainModel_nowStands k a_t d_t i_t j_t r_t_s r_t_wagons r_t_foremost r_t_bears) H locs → lv_has ls 3 [(0, .ref a_t), (2, .int x2)] → W p l e { frames := 2, cells := 0, slots := 0, locals := 45 } s m ([.ref a_t, .int n1] : List Value).toArray below meth c H locs 0 0 (Ev below (fun w => ∃ (i_t : Nat → Int32), ∃ (r_t_wagons : Nat → Int32), ∃ (r_t_foremost : Nat → Int32), ∃ (r_t_bears : Nat → Int32), w = (wd_LongTrainModel_nowStands k a_t d_t i_t j_t r_t_s r_t_wagons r_t_foremost r_t_bears) ∧ Q i_t r_t_wagons r_t_foremost r_t_bears) D k A ([.ref a_t, .int n1] : List Value).toArray s 0 0) (F0 m 51 ls [])) :
    ∀ (x2 : Int32) (i_t : Nat → Int32) (r_t_bears : Nat → Int32) (H : Heap) (locs : List Loc) (ls : Array Slot), b_LongTrainModel_nowStands_51 r_t_s kx_51 kr_51 x2 i_t r_t_bears → Bd D A s.heap (wd_LongTrainModel_nowStands k a_t d_t i_t j_t r_t_s r_t_wagons r_t_foremost r_t_bears) H locs → lv_has ls 3 [(0, .ref a_t), (2, .int x2)] → W p l e { frames := 2, cells := 0, slots := 0, locals := 45 } s m ([.ref a_t, .int n1] : List Value).toArray below meth c H locs 0 0 (Ev below (fun w => ∃ (i_t : Nat → Int32), ∃ (r_t_wagons : Nat → Int32), ∃ (r_t_foremost : Nat → Int32), ∃ (r_t_bears : Nat → Int32), w = (wd_LongTrainModel_nowStands k a_t d_t i_t j_t r_t_s r_t_wagons r_t_foremost r_t_bears) ∧ Q i_t r_t_wagons r_t_foremost r_t_bears) D k A ([.ref a_t, .int n1] : List Value).toArray s 0 0) (F0 m 51 ls []) := by
  have hx := F.x
  have hb := F.b
  intro x2 i_t r_t_bears H locs ls hf hB hl
  unfold b_LongTrainModel_nowStands_51 at hf
  refine lv_iload_n hx hb dX12_nowStands_51 rfl (lv_at hl 1 rfl) ?_
  refine lv_aload_n hx hb dX12_nowStands_52 rfl (lv_at hl 0 rfl) ?_
  refine g_get (w := .ref (d_t 6)) F hB 0 rfl fl_RX12_33 rfl dX12_nowStands_53 ?_
  refine lv_sipush (v := 486) hx hb dX12_nowStands_56 (by decide) ?_
  refine g_iald F hB 1 rfl (vp_in_iff.mpr (by decide +kernel)) dX12_nowStands_59 ?_
  refine W.eq (g2 := F0 m 60 ls [.int (r_t_s 486), .int x2]) rfl ?_
  refine lv_icmp_ge (tgt := 93) hx hb dX12_nowStands_60 (by decide) (fun c_14 => ?_) (fun c_14 => ?_)
  · replace hf := hf.1 c_14
    exact hkx_51 _ _ _ _ _ hf hB (lv_sub hl [] rfl)
  · replace hf := hf.2 c_14
    refine lv_aload_n hx hb dX12_nowStands_63 rfl (lv_at hl 0 rfl) ?_
    refine lv_aload_n hx hb dX12_nowStands_64 rfl (lv_at hl 0 rfl) ?_
    refine g_get (w := .ref (d_t 6)) F hB 0 rfl fl_RX12_33 rfl dX12_nowStands_65 ?_
    refine lv_sipush (v := 487) hx hb dX12_nowStands_68 (by decide) ?_
    refine lv_iload_n hx hb dX12_nowStands_71 rfl (lv_at hl 1 rfl) ?_
    refine lv_iadd hx hb dX12_nowStands_72 ?_
    obtain ⟨h_10, hf⟩ := hf
    refine g_iald F hB 1 rfl h_10 dX12_nowStands_73 ?_
    refine lv_aload_n hx hb dX12_nowStands_74 rfl (lv_at hl 0 rfl) ?_
    refine g_get (w := .ref (d_t 6)) F hB 0 rfl fl_RX12_33 rfl dX12_nowStands_75 ?_
    refine lv_sipush (v := 491) hx hb dX12_nowStands_78 (by decide) ?_
    refine lv_iload_n hx hb dX12_nowStands_81 rfl (lv_at hl 1 rfl) ?_
    refine lv_iadd hx hb dX12_nowStands_82 ?_
    obtain ⟨h_11, hf⟩ := hf
    refine g_iald F hB 1 rfl h_11 dX12_nowStands_83 ?_
    refine k_vv (wr := [((d_t 6), ai k 1068 r_t_s), ((d_t 22), ai k 20 r_t_wagons), ((d_t 23), ai k 20 r_t_foremost)]) (rest := []) F hA hB (c_LongTrainModel_helps l D k a_t d_t i_t j_t r_t_bears (r_t_s (((487 : Int32) + x2)).toNatClampNeg) (r_t_s (((491 : Int32) + x2)).toNatClampNeg) _  hf) ml_RX12_308 mv_yX12_helps [0, 4] [1, 2, 3] rfl rfl (by decide) (by decide) (by decide) 0 rfl rfl rfl hl.1 rfl (Nat.le_of_ble_eq_true rfl) ⟨Nat.le_of_ble_eq_true rfl, Nat.le_of_ble_eq_true rfl⟩ ⟨Nat.le_of_ble_eq_true rfl, Nat.le_of_ble_eq_true rfl⟩ dX12_nowStands_84 (fun w1 H locs hq hB => ?_)
    obtain ⟨i_t_12, r_t_bears_13, rfl, hf⟩ := hq
    replace hB : Bd D A s.heap (wd_LongTrainModel_nowStands k a_t d_t i_t_12 j_t r_t_s r_t_wagons r_t_foremost r_t_bears_13) H locs := hB.sub [3, 0, 1, 2, 4] (by decide) rfl
    refine lv_iinc (v := (x2 + 1)) (lv' := [(2, .int (x2 + 1)), (0, .ref a_t)]) (k := 1) hx hb dX12_nowStands_87 hl rfl rfl (by decide) rfl (fun ls hl => ?_)
    refine lv_goto (tgt := 51) hx hb dX12_nowStands_90 (by decide) ?_
    exact hkr_51 _ _ _ _ _ _ hf hB (lv_sub hl [1, 0] rfl)

set_option maxRecDepth 100000 in
set_option maxHeartbeats 4000000 in
theorem lt_LongTrainModel_nowStands_51 {p : Program} {l : Launch} {e : Env} {s : State} {m : MethodId} {below : List Frame} {meth : Method} {c : Code} {A : Nat → Prop} {D : va_G} {k : Nat → ClassId} {a_t : Nat} {d_t : Nat → Nat} {j_t : Nat → Int64} {r_t_s : Nat → Int32} {r_t_wagons : Nat → Int32} {r_t_foremost : Nat → Int32} {n1 : Int32} {Q : (Nat → Int32) → (Nat → Int32) → (Nat → Int32) → (Nat → Int32) → Prop}  {kx_51 : (Nat → Int32) → (Nat → Int32) → Prop} (F : Fx p m c cX12_nowStands 3 s ([.ref a_t, .int n1] : List Value).toArray RX12 D k) (hr : meth.sig.returnType = none) (hlk : meth.locks = false) (hA : ∀ q : Nat, s.heap.size ≤ q → A q) (hkx_51 : ∀ (i_t : Nat → Int32) (r_t_bears : Nat → Int32) (H : Heap) (locs : List Loc) (ls : Array Slot), kx_51 i_t r_t_bears → Bd D A s.heap (wd_LongTrainModel_nowStands k a_t d_t i_t j_t r_t_s r_t_wagons r_t_foremost r_t_bears) H locs → lv_has ls 3 [] → W p l e { frames := 2, cells := 0, slots := 0, locals := 45 } s m ([.ref a_t, .int n1] : List Value).toArray below meth c H locs 0 0 (Ev below (fun w => ∃ (i_t : Nat → Int32), ∃ (r_t_wagons : Nat → Int32), ∃ (r_t_foremost : Nat → Int32), ∃ (r_t_bears : Nat → Int32), w = (wd_LongTrainModel_nowStands k a_t d_t i_t j_t r_t_s r_t_wagons r_t_foremost r_t_bears) ∧ Q i_t r_t_wagons r_t_foremost r_t_bears) D k A ([.ref a_t, .int n1] : List Value).toArray s 0 0) (F0 m 93 ls [])) :
    ∀ n : Nat, ∀ (x2 : Int32) (i_t : Nat → Int32) (r_t_bears : Nat → Int32) (H : Heap) (locs : List Loc) (ls : Array Slot), lp_LongTrainModel_nowStands_51 r_t_s kx_51 n x2 i_t r_t_bears → Bd D A s.heap (wd_LongTrainModel_nowStands k a_t d_t i_t j_t r_t_s r_t_wagons r_t_foremost r_t_bears) H locs → lv_has ls 3 [(0, .ref a_t), (2, .int x2)] → W p l e { frames := 2, cells := 0, slots := 0, locals := 45 } s m ([.ref a_t, .int n1] : List Value).toArray below meth c H locs 0 0 (Ev below (fun w => ∃ (i_t : Nat → Int32), ∃ (r_t_wagons : Nat → Int32), ∃ (r_t_foremost : Nat → Int32), ∃ (r_t_bears : Nat → Int32), w = (wd_LongTrainModel_nowStands k a_t d_t i_t j_t r_t_s r_t_wagons r_t_foremost r_t_bears) ∧ Q i_t r_t_wagons r_t_foremost r_t_bears) D k A ([.ref a_t, .int n1] : List Value).toArray s 0 0) (F0 m 51 ls []) := by
  intro n
  induction n with
  | zero => intro x2 i_t r_t_bears H locs ls hf; exact absurd hf (fun h => h)
  | succ n ih => exact bt_LongTrainModel_nowStands_51 F hr hlk hA hkx_51 ih

set_option maxRecDepth 100000 in
set_option maxHeartbeats 4000000 in
theorem c_LongTrainModel_nowStands (l : Launch) (D : va_G) (k : Nat → ClassId) (a_t : Nat) (d_t : Nat → Nat) (i_t : Nat → Int32) (j_t : Nat → Int64) (r_t_s : Nat → Int32) (r_t_wagons : Nat → Int32) (r_t_foremost : Nat → Int32) (r_t_bears : Nat → Int32) (n1 : Int32) (Q : (Nat → Int32) → (Nat → Int32) → (Nat → Int32) → (Nat → Int32) → Prop)  (hf : w_LongTrainModel_nowStands i_t r_t_s r_t_wagons r_t_foremost r_t_bears n1 Q) : CtV l yX12_nowStands cX12_nowStands 3 none 2 45 0 0 D k [.ref a_t, .int n1] (wd_LongTrainModel_nowStands k a_t d_t i_t j_t r_t_s r_t_wagons r_t_foremost r_t_bears) (fun w => ∃ (i_t : Nat → Int32), ∃ (r_t_wagons : Nat → Int32), ∃ (r_t_foremost : Nat → Int32), ∃ (r_t_bears : Nat → Int32), w = (wd_LongTrainModel_nowStands k a_t d_t i_t j_t r_t_s r_t_wagons r_t_foremost r_t_bears) ∧ Q i_t r_t_wagons r_t_foremost r_t_bears) := by
  refine CtV.of (by decide) (Nat.le_of_ble_eq_true rfl) ?_
  intro p e s m below meth c A F hr hlk hnm hA hB ls hl
  have hx := F.x
  have hb := F.b
  unfold w_LongTrainModel_nowStands at hf
  replace hl : lv_has ls 3 [(0, .ref a_t), (1, .int n1)] := hl
  refine lv_aload_n hx hb dX12_nowStands_0 rfl (lv_at hl 0 rfl) ?_
  refine lv_aload_n hx hb dX12_nowStands_1 rfl (lv_at hl 0 rfl) ?_
  refine g_get (w := .ref (d_t 6)) F hB 0 rfl fl_RX12_33 rfl dX12_nowStands_2 ?_
  refine lv_sipush (v := 484) hx hb dX12_nowStands_5 (by decide) ?_
  refine g_iald F hB 1 rfl (vp_in_iff.mpr (by decide +kernel)) dX12_nowStands_8 ?_
  refine W.eq (g2 := F0 m 9 ls [.int (r_t_s 484), .ref a_t]) rfl ?_
  refine g_puti F hB 0 rfl fl_RX12_270 rfl (wd_LongTrainModel_nowStands k a_t d_t (upd i_t 27 (r_t_s 484)) j_t r_t_s r_t_wagons r_t_foremost r_t_bears) rfl dX12_nowStands_9 (fun H locs hB => ?_)
  refine lv_iconst (v := 0) hx hb dX12_nowStands_12 (by decide) ?_
  refine lv_istore_n (lv' := [(2, .int (0 : Int32)), (0, .ref a_t), (1, .int n1)]) hx hb dX12_nowStands_13 rfl hl (by decide) rfl (fun ls hl => ?_)
  obtain ⟨n_18, hf⟩ := hf
  refine lt_LongTrainModel_nowStands_14 F hr hlk hA (fun r_t_wagons_5 H locs ls hf hB hl => ?_) n_18 _ _ _ _ _ hf hB (lv_sub hl [1, 2, 0] rfl)
  refine lv_aload_n hx hb dX12_nowStands_44 rfl (lv_at hl 0 rfl) ?_
  refine lv_iload_n hx hb dX12_nowStands_45 rfl (lv_at hl 1 rfl) ?_
  refine k_vv (wr := []) (rest := []) F hA hB (c_LongTrainModel_stands l D k a_t d_t (upd i_t 27 (r_t_s 484)) j_t r_t_foremost r_t_wagons_5 r_t_s r_t_bears n1 _  hf) ml_RX12_285 mv_yX12_stands [0, 3, 2, 1, 4] [] rfl rfl (by decide) (by decide) (by decide) 0 rfl rfl rfl hl.1 rfl (Nat.le_of_ble_eq_true rfl) ⟨Nat.le_of_ble_eq_true rfl, Nat.le_of_ble_eq_true rfl⟩ ⟨Nat.le_of_ble_eq_true rfl, Nat.le_of_ble_eq_true rfl⟩ dX12_nowStands_46 (fun w1 H locs hq hB => ?_)
  obtain ⟨i_t_6, r_t_foremost_7, r_t_bears_8, rfl, hf⟩ := hq
  replace hB : Bd D A s.heap (wd_LongTrainModel_nowStands k a_t d_t i_t_6 j_t r_t_s r_t_wagons_5 r_t_foremost_7 r_t_bears_8) H locs := hB.sub [0, 3, 2, 1, 4] (by decide) rfl
  refine lv_iconst (v := 0) hx hb dX12_nowStands_49 (by decide) ?_
  refine lv_istore_n (lv' := [(2, .int (0 : Int32)), (0, .ref a_t), (1, .int n1)]) hx hb dX12_nowStands_50 rfl hl (by decide) rfl (fun ls hl => ?_)
  obtain ⟨n_17, hf⟩ := hf
  refine lt_LongTrainModel_nowStands_51 F hr hlk hA (fun i_t_15 r_t_bears_16 H locs ls hf hB hl => ?_) n_17 _ _ _ _ _ _ hf hB (lv_sub hl [1, 0] rfl)
  exact r_v F hr hlk hB ⟨_, _, _, _, rfl, hf⟩ dX12_nowStands_93

/-! LongTrainModel.unitsOf -/
set_option maxRecDepth 100000 in
set_option maxHeartbeats 4000000 in
theorem bt_LongTrainModel_unitsOf_5 {p : Program} {l : Launch} {e : Env} {s : State} {m : MethodId} {below : List Frame} {meth : Method} {c : Code} {A : Nat → Prop} {D : va_G} {k : Nat → ClassId} {a_t : Nat} {d_t : Nat → Nat} {i_t : Nat → Int32} {j_t : Nat → Int64} {r_t_s : Nat → Int32} {n1 : Int32} {n2 : Int32} {Q : Int32 → Prop}  {x1 : Int32} {x2 : Int32} {kx_5 : (Int32) → Prop} {kr_5 : (Int32) → (Int32) → Prop} (F : Fx p m c cX12_unitsOf 5 s ([.ref a_t, .int n1, .int n2] : List Value).toArray RX12 D k) (hr : meth.sig.returnType = (some .int)) (hlk : meth.locks = false) (hA : ∀ q : Nat, s.heap.size ≤ q → A q) (hkx_5 : ∀ (x3 : Int32) (H : Heap) (locs : List Loc) (ls : Array Slot), kx_5 x3 → Bd D A s.heap (wd_LongTrainModel_unitsOf k a_t d_t i_t j_t r_t_s) H locs → lv_has ls 5 [(3, .int x3)] → W p l e { frames := 1, cells := 0, slots := 0, locals := 21 } s m ([.ref a_t, .int n1, .int n2] : List Value).toArray below meth c H locs 0 0 (Ei below (fun r w => w = (wd_LongTrainModel_unitsOf k a_t d_t i_t j_t r_t_s) ∧ Q r) D k A ([.ref a_t, .int n1, .int n2] : List Value).toArray s 0 0) (F0 m 33 ls [])) (hkr_5 : ∀ (x3 : Int32) (x4 : Int32) (H : Heap) (locs : List Loc) (ls : Array Slot), kr_5 x3 x4 → Bd D A s.heap (wd_LongTrainModel_unitsOf k a_t d_t i_t j_t r_t_s) H locs → lv_has ls 5 [(0, .ref a_t), (1, .int x1), (2, .int x2), (3, .int x3), (4, .int x4)] → W p l e { frames := 1, cells := 0, slots := 0, locals := 21 } s m ([.ref a_t, .int n1, .int n2] : List Value).toArray below meth c H locs 0 0 (Ei below (fun r w => w = (wd_LongTrainModel_unitsOf k a_t d_t i_t j_t r_t_s) ∧ Q r) D k A ([.ref a_t, .int n1, .int n2] : List Value).toArray s 0 0) (F0 m 5 ls [])) :
    ∀ (x3 : Int32) (x4 : Int32) (H : Heap) (locs : List Loc) (ls : Array Slot), b_LongTrainModel_unitsOf_5 r_t_s x1 x2 kx_5 kr_5 x3 x4 → Bd D A s.heap (wd_LongTrainModel_unitsOf k a_t d_t i_t j_t r_t_s) H locs → lv_has ls 5 [(0, .ref a_t), (1, .int x1), (2, .int x2), (3, .int x3), (4, .int x4)] → W p l e { frames := 1, cells := 0, slots := 0, locals := 21 } s m ([.ref a_t, .int n1, .int n2] : List Value).toArray below meth c H locs 0 0 (Ei below (fun r w => w = (wd_LongTrainModel_unitsOf k a_t d_t i_t j_t r_t_s) ∧ Q r) D k A ([.ref a_t, .int n1, .int n2] : List Value).toArray s 0 0) (F0 m 5 ls []) := by
  have hx := F.x
  have hb := F.b
  intro x3 x4 H locs ls hf hB hl
  unfold b_LongTrainModel_unitsOf_5 at hf
  refine lv_iload hx hb dX12_unitsOf_5 (lv_at hl 4 rfl) ?_
  refine lv_iload_n hx hb dX12_unitsOf_7 rfl (lv_at hl 2 rfl) ?_
  refine lv_icmp_ge (tgt := 33) hx hb dX12_unitsOf_8 (by decide) (fun c_3 => ?_) (fun c_3 => ?_)
  · replace hf := hf.1 c_3
    exact hkx_5 _ _ _ _ hf hB (lv_sub hl [3] rfl)
  · replace hf := hf.2 c_3
    refine lv_iload_n hx hb dX12_unitsOf_11 rfl (lv_at hl 3 rfl) ?_
    refine lv_aload_n hx hb dX12_unitsOf_12 rfl (lv_at hl 0 rfl) ?_
    refine lv_aload_n hx hb dX12_unitsOf_13 rfl (lv_at hl 0 rfl) ?_
    refine g_get (w := .ref (d_t 6)) F hB 0 rfl fl_RX12_33 rfl dX12_unitsOf_14 ?_
    refine lv_iload_n hx hb dX12_unitsOf_17 rfl (lv_at hl 1 rfl) ?_
    refine lv_iload hx hb dX12_unitsOf_18 (lv_at hl 4 rfl) ?_
    refine lv_iadd hx hb dX12_unitsOf_20 ?_
    obtain ⟨h_1, hf⟩ := hf
    refine g_iald F hB 1 rfl h_1 dX12_unitsOf_21 ?_
    refine k_vi (wr := []) (rest := [.int x3]) F hA hB (c_LongTrainModel_longOf l D k a_t d_t i_t j_t r_t_s (r_t_s ((x1 + x4)).toNatClampNeg) _  hf) ml_RX12_273 mv_yX12_longOf [0, 1] [] rfl rfl (by decide) (by decide) (by decide) 0 rfl rfl rfl hl.1 rfl (Nat.le_of_ble_eq_true rfl) ⟨Nat.le_of_ble_eq_true rfl, Nat.le_of_ble_eq_true rfl⟩ ⟨Nat.le_of_ble_eq_true rfl, Nat.le_of_ble_eq_true rfl⟩ dX12_unitsOf_22 (fun z_2 w1 H locs hq hB => ?_)
    obtain ⟨rfl, hf⟩ := hq
    replace hB : Bd D A s.heap (wd_LongTrainModel_unitsOf k a_t d_t i_t j_t r_t_s) H locs := hB.sub [0, 1] (by decide) rfl
    refine lv_iadd hx hb dX12_unitsOf_25 ?_
    refine lv_istore_n (lv' := [(3, .int (x3 + z_2)), (0, .ref a_t), (1, .int x1), (2, .int x2), (4, .int x4)]) hx hb dX12_unitsOf_26 rfl hl (by decide) rfl (fun ls hl => ?_)
    refine lv_iinc (v := (x4 + 1)) (lv' := [(4, .int (x4 + 1)), (3, .int (x3 + z_2)), (0, .ref a_t), (1, .int x1), (2, .int x2)]) (k := 4) hx hb dX12_unitsOf_27 hl rfl rfl (by decide) rfl (fun ls hl => ?_)
    refine lv_goto (tgt := 5) hx hb dX12_unitsOf_30 (by decide) ?_
    exact hkr_5 _ _ _ _ _ hf hB (lv_sub hl [2, 3, 4, 1, 0] rfl)

set_option maxRecDepth 100000 in
set_option maxHeartbeats 4000000 in
theorem lt_LongTrainModel_unitsOf_5 {p : Program} {l : Launch} {e : Env} {s : State} {m : MethodId} {below : List Frame} {meth : Method} {c : Code} {A : Nat → Prop} {D : va_G} {k : Nat → ClassId} {a_t : Nat} {d_t : Nat → Nat} {i_t : Nat → Int32} {j_t : Nat → Int64} {r_t_s : Nat → Int32} {n1 : Int32} {n2 : Int32} {Q : Int32 → Prop}  {x1 : Int32} {x2 : Int32} {kx_5 : (Int32) → Prop} (F : Fx p m c cX12_unitsOf 5 s ([.ref a_t, .int n1, .int n2] : List Value).toArray RX12 D k) (hr : meth.sig.returnType = (some .int)) (hlk : meth.locks = false) (hA : ∀ q : Nat, s.heap.size ≤ q → A q) (hkx_5 : ∀ (x3 : Int32) (H : Heap) (locs : List Loc) (ls : Array Slot), kx_5 x3 → Bd D A s.heap (wd_LongTrainModel_unitsOf k a_t d_t i_t j_t r_t_s) H locs → lv_has ls 5 [(3, .int x3)] → W p l e { frames := 1, cells := 0, slots := 0, locals := 21 } s m ([.ref a_t, .int n1, .int n2] : List Value).toArray below meth c H locs 0 0 (Ei below (fun r w => w = (wd_LongTrainModel_unitsOf k a_t d_t i_t j_t r_t_s) ∧ Q r) D k A ([.ref a_t, .int n1, .int n2] : List Value).toArray s 0 0) (F0 m 33 ls [])) :
    ∀ n : Nat, ∀ (x3 : Int32) (x4 : Int32) (H : Heap) (locs : List Loc) (ls : Array Slot), lp_LongTrainModel_unitsOf_5 r_t_s x1 x2 kx_5 n x3 x4 → Bd D A s.heap (wd_LongTrainModel_unitsOf k a_t d_t i_t j_t r_t_s) H locs → lv_has ls 5 [(0, .ref a_t), (1, .int x1), (2, .int x2), (3, .int x3), (4, .int x4)] → W p l e { frames := 1, cells := 0, slots := 0, locals := 21 } s m ([.ref a_t, .int n1, .int n2] : List Value).toArray below meth c H locs 0 0 (Ei below (fun r w => w = (wd_LongTrainModel_unitsOf k a_t d_t i_t j_t r_t_s) ∧ Q r) D k A ([.ref a_t, .int n1, .int n2] : List Value).toArray s 0 0) (F0 m 5 ls []) := by
  intro n
  induction n with
  | zero => intro x3 x4 H locs ls hf; exact absurd hf (fun h => h)
  | succ n ih => exact bt_LongTrainModel_unitsOf_5 F hr hlk hA hkx_5 ih

set_option maxRecDepth 100000 in
set_option maxHeartbeats 4000000 in
theorem c_LongTrainModel_unitsOf (l : Launch) (D : va_G) (k : Nat → ClassId) (a_t : Nat) (d_t : Nat → Nat) (i_t : Nat → Int32) (j_t : Nat → Int64) (r_t_s : Nat → Int32) (n1 : Int32) (n2 : Int32) (Q : Int32 → Prop)  (hf : w_LongTrainModel_unitsOf r_t_s n1 n2 Q) : CtI l yX12_unitsOf cX12_unitsOf 5 (some .int) 1 21 0 0 D k [.ref a_t, .int n1, .int n2] (wd_LongTrainModel_unitsOf k a_t d_t i_t j_t r_t_s) (fun r w => w = (wd_LongTrainModel_unitsOf k a_t d_t i_t j_t r_t_s) ∧ Q r) := by
  refine CtI.of (by decide) (Nat.le_of_ble_eq_true rfl) ?_
  intro p e s m below meth c A F hr hlk hnm hA hB ls hl
  have hx := F.x
  have hb := F.b
  unfold w_LongTrainModel_unitsOf at hf
  replace hl : lv_has ls 5 [(0, .ref a_t), (1, .int n1), (2, .int n2)] := hl
  refine lv_iconst (v := 0) hx hb dX12_unitsOf_0 (by decide) ?_
  refine lv_istore_n (lv' := [(3, .int (0 : Int32)), (0, .ref a_t), (1, .int n1), (2, .int n2)]) hx hb dX12_unitsOf_1 rfl hl (by decide) rfl (fun ls hl => ?_)
  refine lv_iconst (v := 0) hx hb dX12_unitsOf_2 (by decide) ?_
  refine lv_istore (lv' := [(4, .int (0 : Int32)), (3, .int (0 : Int32)), (0, .ref a_t), (1, .int n1), (2, .int n2)]) hx hb dX12_unitsOf_3 hl (by decide) rfl (fun ls hl => ?_)
  obtain ⟨n_5, hf⟩ := hf
  refine lt_LongTrainModel_unitsOf_5 F hr hlk hA (fun x3_4 H locs ls hf hB hl => ?_) n_5 _ _ _ _ _ hf hB (lv_sub hl [2, 3, 4, 1, 0] rfl)
  refine lv_iload_n hx hb dX12_unitsOf_33 rfl (lv_at hl 0 rfl) ?_
  exact r_i F hr hlk hB ⟨rfl, hf⟩ dX12_unitsOf_34

/-! LongTrainModel.train -/
set_option maxRecDepth 100000 in
set_option maxHeartbeats 4000000 in
theorem bt_LongTrainModel_train_14 {p : Program} {l : Launch} {e : Env} {s : State} {m : MethodId} {below : List Frame} {meth : Method} {c : Code} {A : Nat → Prop} {D : va_G} {k : Nat → ClassId} {a_t : Nat} {d_t : Nat → Nat} {i_t : Nat → Int32} {j_t : Nat → Int64} {r_t_s : Nat → Int32} {r_t_wagons : Nat → Int32} {r_t_foremost : Nat → Int32} {r_t_bears : Nat → Int32} {n1 : Int32} {Q : Int32 → (Nat → Int32) → (Nat → Int32) → (Nat → Int32) → (Nat → Int32) → Prop}  {x1 : Int32} {kx_14 : (Int32) → Prop} {kr_14 : (Int32) → (Int32) → Prop} (F : Fx p m c cX12_train 4 s ([.ref a_t, .int n1] : List Value).toArray RX12 D k) (hr : meth.sig.returnType = (some .int)) (hlk : meth.locks = false) (hA : ∀ q : Nat, s.heap.size ≤ q → A q) (hkx_14 : ∀ (x2 : Int32) (H : Heap) (locs : List Loc) (ls : Array Slot), kx_14 x2 → Bd D A s.heap (wd_LongTrainModel_train k a_t d_t i_t j_t r_t_s r_t_wagons r_t_foremost r_t_bears) H locs → lv_has ls 4 [(0, .ref a_t), (1, .int x1), (2, .int x2)] → W p l e { frames := 3, cells := 0, slots := 0, locals := 67 } s m ([.ref a_t, .int n1] : List Value).toArray below meth c H locs 0 0 (Ei below (fun r w => ∃ (i_t : Nat → Int32), ∃ (r_t_wagons : Nat → Int32), ∃ (r_t_foremost : Nat → Int32), ∃ (r_t_bears : Nat → Int32), w = (wd_LongTrainModel_train k a_t d_t i_t j_t r_t_s r_t_wagons r_t_foremost r_t_bears) ∧ Q r i_t r_t_wagons r_t_foremost r_t_bears) D k A ([.ref a_t, .int n1] : List Value).toArray s 0 0) (F0 m 49 ls [])) (hkr_14 : ∀ (x2 : Int32) (x3 : Int32) (H : Heap) (locs : List Loc) (ls : Array Slot), kr_14 x2 x3 → Bd D A s.heap (wd_LongTrainModel_train k a_t d_t i_t j_t r_t_s r_t_wagons r_t_foremost r_t_bears) H locs → lv_has ls 4 [(0, .ref a_t), (1, .int x1), (2, .int x2), (3, .int x3)] → W p l e { frames := 3, cells := 0, slots := 0, locals := 67 } s m ([.ref a_t, .int n1] : List Value).toArray below meth c H locs 0 0 (Ei below (fun r w => ∃ (i_t : Nat → Int32), ∃ (r_t_wagons : Nat → Int32), ∃ (r_t_foremost : Nat → Int32), ∃ (r_t_bears : Nat → Int32), w = (wd_LongTrainModel_train k a_t d_t i_t j_t r_t_s r_t_wagons r_t_foremost r_t_bears) ∧ Q r i_t r_t_wagons r_t_foremost r_t_bears) D k A ([.ref a_t, .int n1] : List Value).toArray s 0 0) (F0 m 14 ls [])) :
    ∀ (x2 : Int32) (x3 : Int32) (H : Heap) (locs : List Loc) (ls : Array Slot), b_LongTrainModel_train_14 r_t_s kx_14 kr_14 x2 x3 → Bd D A s.heap (wd_LongTrainModel_train k a_t d_t i_t j_t r_t_s r_t_wagons r_t_foremost r_t_bears) H locs → lv_has ls 4 [(0, .ref a_t), (1, .int x1), (2, .int x2), (3, .int x3)] → W p l e { frames := 3, cells := 0, slots := 0, locals := 67 } s m ([.ref a_t, .int n1] : List Value).toArray below meth c H locs 0 0 (Ei below (fun r w => ∃ (i_t : Nat → Int32), ∃ (r_t_wagons : Nat → Int32), ∃ (r_t_foremost : Nat → Int32), ∃ (r_t_bears : Nat → Int32), w = (wd_LongTrainModel_train k a_t d_t i_t j_t r_t_s r_t_wagons r_t_foremost r_t_bears) ∧ Q r i_t r_t_wagons r_t_foremost r_t_bears) D k A ([.ref a_t, .int n1] : List Value).toArray s 0 0) (F0 m 14 ls []) := by
  have hx := F.x
  have hb := F.b
  intro x2 x3 H locs ls hf hB hl
  unfold b_LongTrainModel_train_14 at hf
  refine lv_iload_n hx hb dX12_train_14 rfl (lv_at hl 3 rfl) ?_
  refine lv_aload_n hx hb dX12_train_15 rfl (lv_at hl 0 rfl) ?_
  refine g_get (w := .ref (d_t 6)) F hB 0 rfl fl_RX12_33 rfl dX12_train_16 ?_
  refine lv_sipush (v := 484) hx hb dX12_train_19 (by decide) ?_
  refine g_iald F hB 1 rfl (vp_in_iff.mpr (by decide +kernel)) dX12_train_22 ?_
  refine W.eq (g2 := F0 m 23 ls [.int (r_t_s 484), .int x3]) rfl ?_
  refine lv_icmp_ge (tgt := 49) hx hb dX12_train_23 (by decide) (fun c_5 => ?_) (fun c_5 => ?_)
  · replace hf := hf.1 c_5
    exact hkx_14 _ _ _ _ hf hB (lv_sub hl [0, 1, 2] rfl)
  · replace hf := hf.2 c_5
    refine lv_iload_n hx hb dX12_train_26 rfl (lv_at hl 2 rfl) ?_
    refine lv_aload_n hx hb dX12_train_27 rfl (lv_at hl 0 rfl) ?_
    refine lv_aload_n hx hb dX12_train_28 rfl (lv_at hl 0 rfl) ?_
    refine g_get (w := .ref (d_t 6)) F hB 0 rfl fl_RX12_33 rfl dX12_train_29 ?_
    refine lv_sipush (v := 495) hx hb dX12_train_32 (by decide) ?_
    refine lv_iload_n hx hb dX12_train_35 rfl (lv_at hl 3 rfl) ?_
    refine lv_iadd hx hb dX12_train_36 ?_
    obtain ⟨h_3, hf⟩ := hf
    refine g_iald F hB 1 rfl h_3 dX12_train_37 ?_
    refine k_vi (wr := [((d_t 22), ai k 20 r_t_wagons), ((d_t 23), ai k 20 r_t_foremost), ((d_t 24), ai k 20 r_t_bears)]) (rest := [.int x2]) F hA hB (c_LongTrainModel_weightOf l D k a_t d_t i_t j_t r_t_s (r_t_s (((495 : Int32) + x3)).toNatClampNeg) _  hf) ml_RX12_276 mv_yX12_weightOf [0, 1] [2, 3, 4] rfl rfl (by decide) (by decide) (by decide) 0 rfl rfl rfl hl.1 rfl (Nat.le_of_ble_eq_true rfl) ⟨Nat.le_of_ble_eq_true rfl, Nat.le_of_ble_eq_true rfl⟩ ⟨Nat.le_of_ble_eq_true rfl, Nat.le_of_ble_eq_true rfl⟩ dX12_train_38 (fun z_4 w1 H locs hq hB => ?_)
    obtain ⟨rfl, hf⟩ := hq
    replace hB : Bd D A s.heap (wd_LongTrainModel_train k a_t d_t i_t j_t r_t_s r_t_wagons r_t_foremost r_t_bears) H locs := hB.sub [3, 4, 0, 1, 2] (by decide) rfl
    refine lv_iadd hx hb dX12_train_41 ?_
    refine lv_istore_n (lv' := [(2, .int (x2 + z_4)), (0, .ref a_t), (1, .int x1), (3, .int x3)]) hx hb dX12_train_42 rfl hl (by decide) rfl (fun ls hl => ?_)
    refine lv_iinc (v := (x3 + 1)) (lv' := [(3, .int (x3 + 1)), (2, .int (x2 + z_4)), (0, .ref a_t), (1, .int x1)]) (k := 3) hx hb dX12_train_43 hl rfl rfl (by decide) rfl (fun ls hl => ?_)
    refine lv_goto (tgt := 14) hx hb dX12_train_46 (by decide) ?_
    exact hkr_14 _ _ _ _ _ hf hB (lv_sub hl [2, 3, 1, 0] rfl)

set_option maxRecDepth 100000 in
set_option maxHeartbeats 4000000 in
theorem lt_LongTrainModel_train_14 {p : Program} {l : Launch} {e : Env} {s : State} {m : MethodId} {below : List Frame} {meth : Method} {c : Code} {A : Nat → Prop} {D : va_G} {k : Nat → ClassId} {a_t : Nat} {d_t : Nat → Nat} {i_t : Nat → Int32} {j_t : Nat → Int64} {r_t_s : Nat → Int32} {r_t_wagons : Nat → Int32} {r_t_foremost : Nat → Int32} {r_t_bears : Nat → Int32} {n1 : Int32} {Q : Int32 → (Nat → Int32) → (Nat → Int32) → (Nat → Int32) → (Nat → Int32) → Prop}  {x1 : Int32} {kx_14 : (Int32) → Prop} (F : Fx p m c cX12_train 4 s ([.ref a_t, .int n1] : List Value).toArray RX12 D k) (hr : meth.sig.returnType = (some .int)) (hlk : meth.locks = false) (hA : ∀ q : Nat, s.heap.size ≤ q → A q) (hkx_14 : ∀ (x2 : Int32) (H : Heap) (locs : List Loc) (ls : Array Slot), kx_14 x2 → Bd D A s.heap (wd_LongTrainModel_train k a_t d_t i_t j_t r_t_s r_t_wagons r_t_foremost r_t_bears) H locs → lv_has ls 4 [(0, .ref a_t), (1, .int x1), (2, .int x2)] → W p l e { frames := 3, cells := 0, slots := 0, locals := 67 } s m ([.ref a_t, .int n1] : List Value).toArray below meth c H locs 0 0 (Ei below (fun r w => ∃ (i_t : Nat → Int32), ∃ (r_t_wagons : Nat → Int32), ∃ (r_t_foremost : Nat → Int32), ∃ (r_t_bears : Nat → Int32), w = (wd_LongTrainModel_train k a_t d_t i_t j_t r_t_s r_t_wagons r_t_foremost r_t_bears) ∧ Q r i_t r_t_wagons r_t_foremost r_t_bears) D k A ([.ref a_t, .int n1] : List Value).toArray s 0 0) (F0 m 49 ls [])) :
    ∀ n : Nat, ∀ (x2 : Int32) (x3 : Int32) (H : Heap) (locs : List Loc) (ls : Array Slot), lp_LongTrainModel_train_14 r_t_s kx_14 n x2 x3 → Bd D A s.heap (wd_LongTrainModel_train k a_t d_t i_t j_t r_t_s r_t_wagons r_t_foremost r_t_bears) H locs → lv_has ls 4 [(0, .ref a_t), (1, .int x1), (2, .int x2), (3, .int x3)] → W p l e { frames := 3, cells := 0, slots := 0, locals := 67 } s m ([.ref a_t, .int n1] : List Value).toArray below meth c H locs 0 0 (Ei below (fun r w => ∃ (i_t : Nat → Int32), ∃ (r_t_wagons : Nat → Int32), ∃ (r_t_foremost : Nat → Int32), ∃ (r_t_bears : Nat → Int32), w = (wd_LongTrainModel_train k a_t d_t i_t j_t r_t_s r_t_wagons r_t_foremost r_t_bears) ∧ Q r i_t r_t_wagons r_t_foremost r_t_bears) D k A ([.ref a_t, .int n1] : List Value).toArray s 0 0) (F0 m 14 ls []) := by
  intro n
  induction n with
  | zero => intro x2 x3 H locs ls hf; exact absurd hf (fun h => h)
  | succ n ih => exact bt_LongTrainModel_train_14 F hr hlk hA hkx_14 ih

set_option maxRecDepth 100000 in
set_option maxHeartbeats 4000000 in
theorem c_LongTrainModel_train (l : Launch) (D : va_G) (k : Nat → ClassId) (a_t : Nat) (d_t : Nat → Nat) (i_t : Nat → Int32) (j_t : Nat → Int64) (r_t_s : Nat → Int32) (r_t_wagons : Nat → Int32) (r_t_foremost : Nat → Int32) (r_t_bears : Nat → Int32) (n1 : Int32) (Q : Int32 → (Nat → Int32) → (Nat → Int32) → (Nat → Int32) → (Nat → Int32) → Prop)  (hf : w_LongTrainModel_train i_t r_t_s r_t_wagons r_t_foremost r_t_bears n1 Q) : CtI l yX12_train cX12_train 4 (some .int) 3 67 0 0 D k [.ref a_t, .int n1] (wd_LongTrainModel_train k a_t d_t i_t j_t r_t_s r_t_wagons r_t_foremost r_t_bears) (fun r w => ∃ (i_t : Nat → Int32), ∃ (r_t_wagons : Nat → Int32), ∃ (r_t_foremost : Nat → Int32), ∃ (r_t_bears : Nat → Int32), w = (wd_LongTrainModel_train k a_t d_t i_t j_t r_t_s r_t_wagons r_t_foremost r_t_bears) ∧ Q r i_t r_t_wagons r_t_foremost r_t_bears) := by
  refine CtI.of (by decide) (Nat.le_of_ble_eq_true rfl) ?_
  intro p e s m below meth c A F hr hlk hnm hA hB ls hl
  have hx := F.x
  have hb := F.b
  unfold w_LongTrainModel_train at hf
  replace hl : lv_has ls 4 [(0, .ref a_t), (1, .int n1)] := hl
  refine lv_aload_n hx hb dX12_train_0 rfl (lv_at hl 0 rfl) ?_
  refine lv_iconst (v := 0) hx hb dX12_train_1 (by decide) ?_
  refine g_puti F hB 0 rfl fl_RX12_1 rfl (wd_LongTrainModel_train k a_t d_t (upd i_t 0 (0 : Int32)) j_t r_t_s r_t_wagons r_t_foremost r_t_bears) rfl dX12_train_2 (fun H locs hB => ?_)
  refine lv_aload_n hx hb dX12_train_5 rfl (lv_at hl 0 rfl) ?_
  refine g_get (w := .ref (d_t 6)) F hB 0 rfl fl_RX12_33 rfl dX12_train_6 ?_
  refine lv_iconst (v := 5) hx hb dX12_train_9 (by decide) ?_
  refine g_iald F hB 1 rfl (vp_in_iff.mpr (by decide +kernel)) dX12_train_10 ?_
  refine W.eq (g2 := F0 m 11 ls [.int (r_t_s 5)]) rfl ?_
  refine lv_istore_n (lv' := [(2, .int (r_t_s 5)), (0, .ref a_t), (1, .int n1)]) hx hb dX12_train_11 rfl hl (by decide) rfl (fun ls hl => ?_)
  refine lv_iconst (v := 0) hx hb dX12_train_12 (by decide) ?_
  refine lv_istore_n (lv' := [(3, .int (0 : Int32)), (2, .int (r_t_s 5)), (0, .ref a_t), (1, .int n1)]) hx hb dX12_train_13 rfl hl (by decide) rfl (fun ls hl => ?_)
  obtain ⟨n_27, hf⟩ := hf
  refine lt_LongTrainModel_train_14 F hr hlk hA (fun x2_6 H locs ls hf hB hl => ?_) n_27 _ _ _ _ _ hf hB (lv_sub hl [2, 3, 1, 0] rfl)
  refine lv_aload_n hx hb dX12_train_49 rfl (lv_at hl 0 rfl) ?_
  refine lv_aload_n hx hb dX12_train_50 rfl (lv_at hl 0 rfl) ?_
  refine g_get (w := .ref (d_t 6)) F hB 0 rfl fl_RX12_33 rfl dX12_train_51 ?_
  refine lv_sipush (v := 483) hx hb dX12_train_54 (by decide) ?_
  refine g_iald F hB 1 rfl (vp_in_iff.mpr (by decide +kernel)) dX12_train_57 ?_
  refine W.eq (g2 := F0 m 58 ls [.int (r_t_s 483), .ref a_t]) rfl ?_
  refine k_vv (wr := []) (rest := []) F hA hB (c_LongTrainModel_nowStands l D k a_t d_t (upd i_t 0 (0 : Int32)) j_t r_t_s r_t_wagons r_t_foremost r_t_bears (r_t_s 483) _  hf) ml_RX12_361 mv_yX12_nowStands [0, 1, 2, 3, 4] [] rfl rfl (by decide) (by decide) (by decide) 0 rfl rfl rfl hl.1 rfl (Nat.le_of_ble_eq_true rfl) ⟨Nat.le_of_ble_eq_true rfl, Nat.le_of_ble_eq_true rfl⟩ ⟨Nat.le_of_ble_eq_true rfl, Nat.le_of_ble_eq_true rfl⟩ dX12_train_58 (fun w1 H locs hq hB => ?_)
  obtain ⟨i_t_8, r_t_wagons_9, r_t_foremost_10, r_t_bears_11, rfl, hf⟩ := hq
  replace hB : Bd D A s.heap (wd_LongTrainModel_train k a_t d_t i_t_8 j_t r_t_s r_t_wagons_9 r_t_foremost_10 r_t_bears_11) H locs := hB.sub [0, 1, 2, 3, 4] (by decide) rfl
  refine lv_iload_n hx hb dX12_train_61 rfl (lv_at hl 1 rfl) ?_
  rcases Classical.em (n1 = 0) with c_12 | c_12
  · replace hf := hf.1 c_12
    refine lv_tableIn (tgt := 108) hx hb dX12_train_62 (by rw [c_12]; decide) (by rw [c_12]; decide) (by rw [c_12]; rfl) (by decide) ?_
    refine lv_aload_n hx hb dX12_train_108 rfl (lv_at hl 0 rfl) ?_
    refine g_get (w := .ref (d_t 6)) F hB 0 rfl fl_RX12_33 rfl dX12_train_109 ?_
    refine lv_sipush (v := 483) hx hb dX12_train_112 (by decide) ?_
    refine g_iald F hB 1 rfl (vp_in_iff.mpr (by decide +kernel)) dX12_train_115 ?_
    refine W.eq (g2 := F0 m 116 ls [.int (r_t_s 483)]) rfl ?_
    exact r_i F hr hlk hB ⟨_, _, _, _, rfl, hf⟩ dX12_train_116
  · replace hf := hf.2 c_12
    rcases Classical.em (n1 = 1) with c_14 | c_14
    · replace hf := hf.1 c_14
      refine lv_tableIn (tgt := 117) hx hb dX12_train_62 (by rw [c_14]; decide) (by rw [c_14]; decide) (by rw [c_14]; rfl) (by decide) ?_
      refine lv_aload_n hx hb dX12_train_117 rfl (lv_at hl 0 rfl) ?_
      refine g_get (w := .ref (d_t 6)) F hB 0 rfl fl_RX12_33 rfl dX12_train_118 ?_
      refine lv_sipush (v := 484) hx hb dX12_train_121 (by decide) ?_
      refine g_iald F hB 1 rfl (vp_in_iff.mpr (by decide +kernel)) dX12_train_124 ?_
      refine W.eq (g2 := F0 m 125 ls [.int (r_t_s 484)]) rfl ?_
      exact r_i F hr hlk hB ⟨_, _, _, _, rfl, hf⟩ dX12_train_125
    · replace hf := hf.2 c_14
      rcases Classical.em (n1 = 2) with c_16 | c_16
      · replace hf := hf.1 c_16
        refine lv_tableIn (tgt := 126) hx hb dX12_train_62 (by rw [c_16]; decide) (by rw [c_16]; decide) (by rw [c_16]; rfl) (by decide) ?_
        refine lv_aload_n hx hb dX12_train_126 rfl (lv_at hl 0 rfl) ?_
        refine g_get (w := .ref (d_t 6)) F hB 0 rfl fl_RX12_33 rfl dX12_train_127 ?_
        refine lv_sipush (v := 485) hx hb dX12_train_130 (by decide) ?_
        refine g_iald F hB 1 rfl (vp_in_iff.mpr (by decide +kernel)) dX12_train_133 ?_
        refine W.eq (g2 := F0 m 134 ls [.int (r_t_s 485)]) rfl ?_
        exact r_i F hr hlk hB ⟨_, _, _, _, rfl, hf⟩ dX12_train_134
      · replace hf := hf.2 c_16
        rcases Classical.em (n1 = 3) with c_18 | c_18
        · replace hf := hf.1 c_18
          refine lv_tableIn (tgt := 135) hx hb dX12_train_62 (by rw [c_18]; decide) (by rw [c_18]; decide) (by rw [c_18]; rfl) (by decide) ?_
          refine lv_iconst (v := 1) hx hb dX12_train_135 (by decide) ?_
          refine lv_aload_n hx hb dX12_train_136 rfl (lv_at hl 0 rfl) ?_
          refine lv_sipush (v := 495) hx hb dX12_train_137 (by decide) ?_
          refine lv_aload_n hx hb dX12_train_140 rfl (lv_at hl 0 rfl) ?_
          refine g_get (w := .ref (d_t 6)) F hB 0 rfl fl_RX12_33 rfl dX12_train_141 ?_
          refine lv_sipush (v := 484) hx hb dX12_train_144 (by decide) ?_
          refine g_iald F hB 1 rfl (vp_in_iff.mpr (by decide +kernel)) dX12_train_147 ?_
          refine W.eq (g2 := F0 m 148 ls [.int (r_t_s 484), .int (495 : Int32), .ref a_t, .int (1 : Int32)]) rfl ?_
          refine k_vi (wr := [((d_t 22), ai k 20 r_t_wagons_9), ((d_t 23), ai k 20 r_t_foremost_10), ((d_t 24), ai k 20 r_t_bears_11)]) (rest := [.int (1 : Int32)]) F hA hB (c_LongTrainModel_unitsOf l D k a_t d_t i_t_8 j_t r_t_s (495 : Int32) (r_t_s 484) _  hf) ml_RX12_364 mv_yX12_unitsOf [0, 1] [2, 3, 4] rfl rfl (by decide) (by decide) (by decide) 0 rfl rfl rfl hl.1 rfl (Nat.le_of_ble_eq_true rfl) ⟨Nat.le_of_ble_eq_true rfl, Nat.le_of_ble_eq_true rfl⟩ ⟨Nat.le_of_ble_eq_true rfl, Nat.le_of_ble_eq_true rfl⟩ dX12_train_148 (fun z_20 w1 H locs hq hB => ?_)
          obtain ⟨rfl, hf⟩ := hq
          replace hB : Bd D A s.heap (wd_LongTrainModel_train k a_t d_t i_t_8 j_t r_t_s r_t_wagons_9 r_t_foremost_10 r_t_bears_11) H locs := hB.sub [3, 4, 0, 1, 2] (by decide) rfl
          refine lv_iadd hx hb dX12_train_151 ?_
          exact r_i F hr hlk hB ⟨_, _, _, _, rfl, hf⟩ dX12_train_152
        · replace hf := hf.2 c_18
          rcases Classical.em (n1 = 4) with c_21 | c_21
          · replace hf := hf.1 c_21
            refine lv_tableIn (tgt := 153) hx hb dX12_train_62 (by rw [c_21]; decide) (by rw [c_21]; decide) (by rw [c_21]; rfl) (by decide) ?_
            refine lv_iload_n hx hb dX12_train_153 rfl (lv_at hl 2 rfl) ?_
            exact r_i F hr hlk hB ⟨_, _, _, _, rfl, hf⟩ dX12_train_154
          · replace hf := hf.2 c_21
            rcases Classical.em (n1 = 5) with c_22 | c_22
            · replace hf := hf.1 c_22
              refine lv_tableIn (tgt := 155) hx hb dX12_train_62 (by rw [c_22]; decide) (by rw [c_22]; decide) (by rw [c_22]; rfl) (by decide) ?_
              refine lv_aload_n hx hb dX12_train_155 rfl (lv_at hl 0 rfl) ?_
              refine g_get (w := .int (i_t_8 28)) F hB 0 rfl fl_RX12_279 rfl dX12_train_156 ?_
              exact r_i F hr hlk hB ⟨_, _, _, _, rfl, hf⟩ dX12_train_159
            · replace hf := hf.2 c_22
              rcases Classical.em (n1 = 6) with c_23 | c_23
              · replace hf := hf.1 c_23
                refine lv_tableIn (tgt := 160) hx hb dX12_train_62 (by rw [c_23]; decide) (by rw [c_23]; decide) (by rw [c_23]; rfl) (by decide) ?_
                refine lv_aload_n hx hb dX12_train_160 rfl (lv_at hl 0 rfl) ?_
                refine g_get (w := .ref (d_t 6)) F hB 0 rfl fl_RX12_33 rfl dX12_train_161 ?_
                refine lv_sipush (v := 486) hx hb dX12_train_164 (by decide) ?_
                refine g_iald F hB 1 rfl (vp_in_iff.mpr (by decide +kernel)) dX12_train_167 ?_
                refine W.eq (g2 := F0 m 168 ls [.int (r_t_s 486)]) rfl ?_
                exact r_i F hr hlk hB ⟨_, _, _, _, rfl, hf⟩ dX12_train_168
              · replace hf := hf.2 c_23
                rcases Classical.em (n1 = 7) with c_25 | c_25
                · replace hf := hf.1 c_25
                  refine lv_tableIn (tgt := 169) hx hb dX12_train_62 (by rw [c_25]; decide) (by rw [c_25]; decide) (by rw [c_25]; rfl) (by decide) ?_
                  refine lv_aload_n hx hb dX12_train_169 rfl (lv_at hl 0 rfl) ?_
                  refine g_get (w := .ref (d_t 6)) F hB 0 rfl fl_RX12_33 rfl dX12_train_170 ?_
                  refine lv_sipush (v := 536) hx hb dX12_train_173 (by decide) ?_
                  refine g_iald F hB 1 rfl (vp_in_iff.mpr (by decide +kernel)) dX12_train_176 ?_
                  refine W.eq (g2 := F0 m 177 ls [.int (r_t_s 536)]) rfl ?_
                  exact r_i F hr hlk hB ⟨_, _, _, _, rfl, hf⟩ dX12_train_177
                · replace hf := hf.2 c_25
                  refine lv_tableOut (tgt := 178) hx hb dX12_train_62 (sw_out (fun z h1 h2 h3 => by
                      have h4 : z = 0 ∨ z = 1 ∨ z = 2 ∨ z = 3 ∨ z = 4 ∨ z = 5 ∨ z = 6 ∨ z = 7 ∨ False := by omega
                      rcases h4 with h4 | h4 | h4 | h4 | h4 | h4 | h4 | h4 | h4
                      · exact c_12 (Int32.toInt_inj.mp (h3.trans (h4.trans (by decide))))
                      · exact c_14 (Int32.toInt_inj.mp (h3.trans (h4.trans (by decide))))
                      · exact c_16 (Int32.toInt_inj.mp (h3.trans (h4.trans (by decide))))
                      · exact c_18 (Int32.toInt_inj.mp (h3.trans (h4.trans (by decide))))
                      · exact c_21 (Int32.toInt_inj.mp (h3.trans (h4.trans (by decide))))
                      · exact c_22 (Int32.toInt_inj.mp (h3.trans (h4.trans (by decide))))
                      · exact c_23 (Int32.toInt_inj.mp (h3.trans (h4.trans (by decide))))
                      · exact c_25 (Int32.toInt_inj.mp (h3.trans (h4.trans (by decide))))
                      · exact h4)) (by decide) ?_
                  refine lv_iconst (v := -1) hx hb dX12_train_178 (by decide) ?_
                  exact r_i F hr hlk hB ⟨_, _, _, _, rfl, hf⟩ dX12_train_179

/-! LongTrainModel.dragOf -/
set_option maxRecDepth 100000 in
set_option maxHeartbeats 4000000 in
theorem c_LongTrainModel_dragOf (l : Launch) (D : va_G) (k : Nat → ClassId) (a_t : Nat) (d_t : Nat → Nat) (i_t : Nat → Int32) (j_t : Nat → Int64) (r_t_s : Nat → Int32) (n1 : Int32) (n2 : Int32) (Q : Int32 → Prop)  (hf : w_LongTrainModel_dragOf r_t_s n1 n2 Q) : CtI l yX12_dragOf cX12_dragOf 3 (some .int) 1 21 0 0 D k [.ref a_t, .int n1, .int n2] (wd_LongTrainModel_dragOf k a_t d_t i_t j_t r_t_s) (fun r w => w = (wd_LongTrainModel_dragOf k a_t d_t i_t j_t r_t_s) ∧ Q r) := by
  refine CtI.of (by decide) (Nat.le_of_ble_eq_true rfl) ?_
  intro p e s m below meth c A F hr hlk hnm hA hB ls hl
  have hx := F.x
  have hb := F.b
  unfold w_LongTrainModel_dragOf at hf
  replace hl : lv_has ls 3 [(0, .ref a_t), (1, .int n1), (2, .int n2)] := hl
  refine lv_aload_n hx hb dX12_dragOf_0 rfl (lv_at hl 0 rfl) ?_
  refine lv_iload_n hx hb dX12_dragOf_1 rfl (lv_at hl 1 rfl) ?_
  refine k_vi (wr := []) (rest := []) F hA hB (c_LongTrainModel_weightOf l D k a_t d_t i_t j_t r_t_s n1 _  hf) ml_RX12_276 mv_yX12_weightOf [0, 1] [] rfl rfl (by decide) (by decide) (by decide) 0 rfl rfl rfl hl.1 rfl (Nat.le_of_ble_eq_true rfl) ⟨Nat.le_of_ble_eq_true rfl, Nat.le_of_ble_eq_true rfl⟩ ⟨Nat.le_of_ble_eq_true rfl, Nat.le_of_ble_eq_true rfl⟩ dX12_dragOf_2 (fun z_1 w1 H locs hq hB => ?_)
  obtain ⟨rfl, hf⟩ := hq
  replace hB : Bd D A s.heap (wd_LongTrainModel_dragOf k a_t d_t i_t j_t r_t_s) H locs := hB.sub [0, 1] (by decide) rfl
  refine lv_aload_n hx hb dX12_dragOf_5 rfl (lv_at hl 0 rfl) ?_
  refine lv_iload_n hx hb dX12_dragOf_6 rfl (lv_at hl 2 rfl) ?_
  refine k_vi (wr := []) (rest := [.int z_1]) F hA hB (c_LongTrainModel_gradeOf l D k a_t d_t i_t j_t r_t_s n2 _  hf) ml_RX12_254 mv_yX12_gradeOf [0, 1] [] rfl rfl (by decide) (by decide) (by decide) 0 rfl rfl rfl hl.1 rfl (Nat.le_of_ble_eq_true rfl) ⟨Nat.le_of_ble_eq_true rfl, Nat.le_of_ble_eq_true rfl⟩ ⟨Nat.le_of_ble_eq_true rfl, Nat.le_of_ble_eq_true rfl⟩ dX12_dragOf_7 (fun z_2 w1 H locs hq hB => ?_)
  obtain ⟨rfl, hf⟩ := hq
  replace hB : Bd D A s.heap (wd_LongTrainModel_dragOf k a_t d_t i_t j_t r_t_s) H locs := hB.sub [0, 1] (by decide) rfl
  refine lv_aload_n hx hb dX12_dragOf_10 rfl (lv_at hl 0 rfl) ?_
  refine g_get (w := .ref (d_t 6)) F hB 0 rfl fl_RX12_33 rfl dX12_dragOf_11 ?_
  refine lv_bipush (v := 6) hx hb dX12_dragOf_14 (by decide) ?_
  refine g_iald F hB 1 rfl (vp_in_iff.mpr (by decide +kernel)) dX12_dragOf_16 ?_
  refine W.eq (g2 := F0 m 17 ls [.int (r_t_s 6), .int z_2, .int z_1]) rfl ?_
  refine lv_iadd hx hb dX12_dragOf_17 ?_
  refine lv_imul hx hb dX12_dragOf_18 ?_
  exact r_i F hr hlk hB ⟨rfl, hf⟩ dX12_dragOf_19

/-! LongTrainModel.wagon -/
set_option maxRecDepth 100000 in
set_option maxHeartbeats 4000000 in
theorem jt_LongTrainModel_wagon_33 {p : Program} {l : Launch} {e : Env} {s : State} {m : MethodId} {below : List Frame} {meth : Method} {c : Code} {A : Nat → Prop} {D : va_G} {k : Nat → ClassId} {a_t : Nat} {d_t : Nat → Nat} {j_t : Nat → Int64} {r_t_s : Nat → Int32} {n1 : Int32} {n2 : Int32} {Q : Int32 → (Nat → Int32) → (Nat → Int32) → (Nat → Int32) → (Nat → Int32) → Prop}  (F : Fx p m c cX12_wagon 3 s ([.ref a_t, .int n1, .int n2] : List Value).toArray RX12 D k) (hr : meth.sig.returnType = (some .int)) (hlk : meth.locks = false) (hA : ∀ q : Nat, s.heap.size ≤ q → A q) :
    ∀ (i_t : Nat → Int32) (r_t_wagons : Nat → Int32) (r_t_foremost : Nat → Int32) (r_t_bears : Nat → Int32) (x1 : Int32) (x2 : Int32) (y0 : Int32) (H : Heap) (locs : List Loc) (ls : Array Slot), j_LongTrainModel_wagon_33 i_t r_t_s r_t_wagons r_t_foremost r_t_bears x1 x2 y0 Q → Bd D A s.heap (wd_LongTrainModel_wagon k a_t d_t i_t j_t r_t_s r_t_wagons r_t_foremost r_t_bears) H locs → lv_has ls 3 [(0, .ref a_t), (1, .int x1), (2, .int x2)] → W p l e { frames := 3, cells := 0, slots := 0, locals := 67 } s m ([.ref a_t, .int n1, .int n2] : List Value).toArray below meth c H locs 0 0 (Ei below (fun r w => ∃ (i_t : Nat → Int32), ∃ (r_t_wagons : Nat → Int32), ∃ (r_t_foremost : Nat → Int32), ∃ (r_t_bears : Nat → Int32), w = (wd_LongTrainModel_wagon k a_t d_t i_t j_t r_t_s r_t_wagons r_t_foremost r_t_bears) ∧ Q r i_t r_t_wagons r_t_foremost r_t_bears) D k A ([.ref a_t, .int n1, .int n2] : List Value).toArray s 0 0) (F0 m 33 ls [.int y0, .ref a_t]) := by
  have hx := F.x
  have hb := F.b
  intro i_t r_t_wagons r_t_foremost r_t_bears x1 x2 y0 H locs ls hf hB hl
  unfold j_LongTrainModel_wagon_33 at hf
  refine k_vi (wr := [((d_t 6), ai k 1068 r_t_s), ((d_t 22), ai k 20 r_t_wagons), ((d_t 23), ai k 20 r_t_foremost), ((d_t 24), ai k 20 r_t_bears)]) (rest := []) F hA hB (c_LongTrainModel_throwsIf l D k a_t d_t i_t j_t y0 _  hf) ml_RX12_250 mv_yX12_throwsIf [0] [1, 2, 3, 4] rfl rfl (by decide) (by decide) (by decide) 0 rfl rfl rfl hl.1 rfl (Nat.le_of_ble_eq_true rfl) ⟨Nat.le_of_ble_eq_true rfl, Nat.le_of_ble_eq_true rfl⟩ ⟨Nat.le_of_ble_eq_true rfl, Nat.le_of_ble_eq_true rfl⟩ dX12_wagon_33 (fun z_5 w1 H locs hq hB => ?_)
  obtain ⟨h_6, i_t_4, rfl, hf⟩ := hq
  replace hB : Bd D A s.heap (wd_LongTrainModel_wagon k a_t d_t i_t_4 j_t r_t_s r_t_wagons r_t_foremost r_t_bears) H locs := hB.sub [4, 0, 1, 2, 3] (by decide) rfl
  refine lv_if_eq (tgt := 41) hx hb dX12_wagon_36 (by decide) (fun c_23 => ?_) (fun c_23 => ?_)
  · replace hf := hf.1 c_23
    refine lv_aload_n hx hb dX12_wagon_41 rfl (lv_at hl 0 rfl) ?_
    refine lv_aload_n hx hb dX12_wagon_42 rfl (lv_at hl 0 rfl) ?_
    refine g_get (w := .ref (d_t 6)) F hB 0 rfl fl_RX12_33 rfl dX12_wagon_43 ?_
    refine lv_sipush (v := 483) hx hb dX12_wagon_46 (by decide) ?_
    refine g_iald F hB 1 rfl (vp_in_iff.mpr (by decide +kernel)) dX12_wagon_49 ?_
    refine W.eq (g2 := F0 m 50 ls [.int (r_t_s 483), .ref a_t]) rfl ?_
    refine k_vv (wr := []) (rest := []) F hA hB (c_LongTrainModel_nowStands l D k a_t d_t i_t_4 j_t r_t_s r_t_wagons r_t_foremost r_t_bears (r_t_s 483) _  hf) ml_RX12_361 mv_yX12_nowStands [0, 1, 2, 3, 4] [] rfl rfl (by decide) (by decide) (by decide) 0 rfl rfl rfl hl.1 rfl (Nat.le_of_ble_eq_true rfl) ⟨Nat.le_of_ble_eq_true rfl, Nat.le_of_ble_eq_true rfl⟩ ⟨Nat.le_of_ble_eq_true rfl, Nat.le_of_ble_eq_true rfl⟩ dX12_wagon_50 (fun w1 H locs hq hB => ?_)
    obtain ⟨i_t_8, r_t_wagons_9, r_t_foremost_10, r_t_bears_11, rfl, hf⟩ := hq
    replace hB : Bd D A s.heap (wd_LongTrainModel_wagon k a_t d_t i_t_8 j_t r_t_s r_t_wagons_9 r_t_foremost_10 r_t_bears_11) H locs := hB.sub [0, 1, 2, 3, 4] (by decide) rfl
    refine lv_iload_n hx hb dX12_wagon_53 rfl (lv_at hl 2 rfl) ?_
    refine lv_if_ne (tgt := 70) hx hb dX12_wagon_54 (by decide) (fun c_22 => ?_) (fun c_22 => ?_)
    · replace hf := hf.1 c_22
      refine lv_iload_n hx hb dX12_wagon_70 rfl (lv_at hl 2 rfl) ?_
      refine lv_iconst (v := 1) hx hb dX12_wagon_71 (by decide) ?_
      refine lv_icmp_ne (tgt := 84) hx hb dX12_wagon_72 (by decide) (fun c_20 => ?_) (fun c_20 => ?_)
      · replace hf := hf.1 c_20
        refine lv_iload_n hx hb dX12_wagon_84 rfl (lv_at hl 2 rfl) ?_
        refine lv_iconst (v := 2) hx hb dX12_wagon_85 (by decide) ?_
        refine lv_icmp_ne (tgt := 98) hx hb dX12_wagon_86 (by decide) (fun c_18 => ?_) (fun c_18 => ?_)
        · replace hf := hf.1 c_18
          refine lv_iload_n hx hb dX12_wagon_98 rfl (lv_at hl 2 rfl) ?_
          refine lv_iconst (v := 3) hx hb dX12_wagon_99 (by decide) ?_
          refine lv_icmp_ne (tgt := 116) hx hb dX12_wagon_100 (by decide) (fun c_16 => ?_) (fun c_16 => ?_)
          · replace hf := hf.1 c_16
            refine lv_aload_n hx hb dX12_wagon_116 rfl (lv_at hl 0 rfl) ?_
            refine lv_aload_n hx hb dX12_wagon_117 rfl (lv_at hl 0 rfl) ?_
            refine g_get (w := .ref (d_t 22)) F hB 0 rfl fl_RX12_50 rfl dX12_wagon_118 ?_
            refine lv_iload_n hx hb dX12_wagon_121 rfl (lv_at hl 1 rfl) ?_
            obtain ⟨h_12, hf⟩ := hf
            refine g_iald F hB 2 rfl h_12 dX12_wagon_122 ?_
            refine lv_aload_n hx hb dX12_wagon_123 rfl (lv_at hl 0 rfl) ?_
            refine g_get (w := .ref (d_t 23)) F hB 0 rfl fl_RX12_53 rfl dX12_wagon_124 ?_
            refine lv_iload_n hx hb dX12_wagon_127 rfl (lv_at hl 1 rfl) ?_
            obtain ⟨h_13, hf⟩ := hf
            refine g_iald F hB 3 rfl h_13 dX12_wagon_128 ?_
            refine k_vi (wr := [((d_t 22), ai k 20 r_t_wagons_9), ((d_t 23), ai k 20 r_t_foremost_10), ((d_t 24), ai k 20 r_t_bears_11)]) (rest := []) F hA hB (c_LongTrainModel_dragOf l D k a_t d_t i_t_8 j_t r_t_s (r_t_wagons_9 (x1).toNatClampNeg) (r_t_foremost_10 (x1).toNatClampNeg) _  hf) ml_RX12_367 mv_yX12_dragOf [0, 1] [2, 3, 4] rfl rfl (by decide) (by decide) (by decide) 0 rfl rfl rfl hl.1 rfl (Nat.le_of_ble_eq_true rfl) ⟨Nat.le_of_ble_eq_true rfl, Nat.le_of_ble_eq_true rfl⟩ ⟨Nat.le_of_ble_eq_true rfl, Nat.le_of_ble_eq_true rfl⟩ dX12_wagon_129 (fun z_14 w1 H locs hq hB => ?_)
            obtain ⟨rfl, hf⟩ := hq
            replace hB : Bd D A s.heap (wd_LongTrainModel_wagon k a_t d_t i_t_8 j_t r_t_s r_t_wagons_9 r_t_foremost_10 r_t_bears_11) H locs := hB.sub [3, 4, 0, 1, 2] (by decide) rfl
            exact r_i F hr hlk hB ⟨_, _, _, _, rfl, hf⟩ dX12_wagon_132
          · replace hf := hf.2 c_16
            refine lv_aload_n hx hb dX12_wagon_103 rfl (lv_at hl 0 rfl) ?_
            refine g_get (w := .ref (d_t 6)) F hB 0 rfl fl_RX12_33 rfl dX12_wagon_104 ?_
            refine lv_sipush (v := 515) hx hb dX12_wagon_107 (by decide) ?_
            refine lv_iload_n hx hb dX12_wagon_110 rfl (lv_at hl 1 rfl) ?_
            refine lv_iadd hx hb dX12_wagon_111 ?_
            obtain ⟨h_15, hf⟩ := hf
            refine g_iald F hB 1 rfl h_15 dX12_wagon_112 ?_
            refine lv_goto (tgt := 132) hx hb dX12_wagon_113 (by decide) ?_
            exact r_i F hr hlk hB ⟨_, _, _, _, rfl, hf⟩ dX12_wagon_132
        · replace hf := hf.2 c_18
          refine lv_aload_n hx hb dX12_wagon_89 rfl (lv_at hl 0 rfl) ?_
          refine g_get (w := .ref (d_t 24)) F hB 0 rfl fl_RX12_56 rfl dX12_wagon_90 ?_
          refine lv_iload_n hx hb dX12_wagon_93 rfl (lv_at hl 1 rfl) ?_
          obtain ⟨h_17, hf⟩ := hf
          refine g_iald F hB 4 rfl h_17 dX12_wagon_94 ?_
          refine lv_goto (tgt := 132) hx hb dX12_wagon_95 (by decide) ?_
          exact r_i F hr hlk hB ⟨_, _, _, _, rfl, hf⟩ dX12_wagon_132
      · replace hf := hf.2 c_20
        refine lv_aload_n hx hb dX12_wagon_75 rfl (lv_at hl 0 rfl) ?_
        refine g_get (w := .ref (d_t 23)) F hB 0 rfl fl_RX12_53 rfl dX12_wagon_76 ?_
        refine lv_iload_n hx hb dX12_wagon_79 rfl (lv_at hl 1 rfl) ?_
        obtain ⟨h_19, hf⟩ := hf
        refine g_iald F hB 3 rfl h_19 dX12_wagon_80 ?_
        refine lv_goto (tgt := 132) hx hb dX12_wagon_81 (by decide) ?_
        exact r_i F hr hlk hB ⟨_, _, _, _, rfl, hf⟩ dX12_wagon_132
    · replace hf := hf.2 c_22
      refine lv_aload_n hx hb dX12_wagon_57 rfl (lv_at hl 0 rfl) ?_
      refine g_get (w := .ref (d_t 6)) F hB 0 rfl fl_RX12_33 rfl dX12_wagon_58 ?_
      refine lv_sipush (v := 495) hx hb dX12_wagon_61 (by decide) ?_
      refine lv_iload_n hx hb dX12_wagon_64 rfl (lv_at hl 1 rfl) ?_
      refine lv_iadd hx hb dX12_wagon_65 ?_
      obtain ⟨h_21, hf⟩ := hf
      refine g_iald F hB 1 rfl h_21 dX12_wagon_66 ?_
      refine lv_goto (tgt := 132) hx hb dX12_wagon_67 (by decide) ?_
      exact r_i F hr hlk hB ⟨_, _, _, _, rfl, hf⟩ dX12_wagon_132
  · replace hf := hf.2 c_23
    refine lv_iconst (v := 0) hx hb dX12_wagon_39 (by decide) ?_
    exact r_i F hr hlk hB ⟨_, _, _, _, rfl, hf⟩ dX12_wagon_40

set_option maxRecDepth 100000 in
set_option maxHeartbeats 4000000 in
theorem jt_LongTrainModel_wagon_28 {p : Program} {l : Launch} {e : Env} {s : State} {m : MethodId} {below : List Frame} {meth : Method} {c : Code} {A : Nat → Prop} {D : va_G} {k : Nat → ClassId} {a_t : Nat} {d_t : Nat → Nat} {j_t : Nat → Int64} {r_t_s : Nat → Int32} {n1 : Int32} {n2 : Int32} {Q : Int32 → (Nat → Int32) → (Nat → Int32) → (Nat → Int32) → (Nat → Int32) → Prop}  (F : Fx p m c cX12_wagon 3 s ([.ref a_t, .int n1, .int n2] : List Value).toArray RX12 D k) (hr : meth.sig.returnType = (some .int)) (hlk : meth.locks = false) (hA : ∀ q : Nat, s.heap.size ≤ q → A q) :
    ∀ (i_t : Nat → Int32) (r_t_wagons : Nat → Int32) (r_t_foremost : Nat → Int32) (r_t_bears : Nat → Int32) (x1 : Int32) (x2 : Int32) (H : Heap) (locs : List Loc) (ls : Array Slot), j_LongTrainModel_wagon_28 i_t r_t_s r_t_wagons r_t_foremost r_t_bears x1 x2 Q → Bd D A s.heap (wd_LongTrainModel_wagon k a_t d_t i_t j_t r_t_s r_t_wagons r_t_foremost r_t_bears) H locs → lv_has ls 3 [(0, .ref a_t), (1, .int x1), (2, .int x2)] → W p l e { frames := 3, cells := 0, slots := 0, locals := 67 } s m ([.ref a_t, .int n1, .int n2] : List Value).toArray below meth c H locs 0 0 (Ei below (fun r w => ∃ (i_t : Nat → Int32), ∃ (r_t_wagons : Nat → Int32), ∃ (r_t_foremost : Nat → Int32), ∃ (r_t_bears : Nat → Int32), w = (wd_LongTrainModel_wagon k a_t d_t i_t j_t r_t_s r_t_wagons r_t_foremost r_t_bears) ∧ Q r i_t r_t_wagons r_t_foremost r_t_bears) D k A ([.ref a_t, .int n1, .int n2] : List Value).toArray s 0 0) (F0 m 28 ls [.ref a_t]) := by
  have hx := F.x
  have hb := F.b
  intro i_t r_t_wagons r_t_foremost r_t_bears x1 x2 H locs ls hf hB hl
  unfold j_LongTrainModel_wagon_28 at hf
  refine lv_iconst (v := 1) hx hb dX12_wagon_28 (by decide) ?_
  refine lv_goto (tgt := 33) hx hb dX12_wagon_29 (by decide) ?_
  exact jt_LongTrainModel_wagon_33 F hr hlk hA _ _ _ _ _ _ _ _ _ _ hf hB (lv_sub hl [0, 1, 2] rfl)

set_option maxRecDepth 100000 in
set_option maxHeartbeats 4000000 in
theorem c_LongTrainModel_wagon (l : Launch) (D : va_G) (k : Nat → ClassId) (a_t : Nat) (d_t : Nat → Nat) (i_t : Nat → Int32) (j_t : Nat → Int64) (r_t_s : Nat → Int32) (r_t_wagons : Nat → Int32) (r_t_foremost : Nat → Int32) (r_t_bears : Nat → Int32) (n1 : Int32) (n2 : Int32) (Q : Int32 → (Nat → Int32) → (Nat → Int32) → (Nat → Int32) → (Nat → Int32) → Prop)  (hf : w_LongTrainModel_wagon i_t r_t_s r_t_wagons r_t_foremost r_t_bears n1 n2 Q) : CtI l yX12_wagon cX12_wagon 3 (some .int) 3 67 0 0 D k [.ref a_t, .int n1, .int n2] (wd_LongTrainModel_wagon k a_t d_t i_t j_t r_t_s r_t_wagons r_t_foremost r_t_bears) (fun r w => ∃ (i_t : Nat → Int32), ∃ (r_t_wagons : Nat → Int32), ∃ (r_t_foremost : Nat → Int32), ∃ (r_t_bears : Nat → Int32), w = (wd_LongTrainModel_wagon k a_t d_t i_t j_t r_t_s r_t_wagons r_t_foremost r_t_bears) ∧ Q r i_t r_t_wagons r_t_foremost r_t_bears) := by
  refine CtI.of (by decide) (Nat.le_of_ble_eq_true rfl) ?_
  intro p e s m below meth c A F hr hlk hnm hA hB ls hl
  have hx := F.x
  have hb := F.b
  unfold w_LongTrainModel_wagon at hf
  replace hl : lv_has ls 3 [(0, .ref a_t), (1, .int n1), (2, .int n2)] := hl
  refine lv_aload_n hx hb dX12_wagon_0 rfl (lv_at hl 0 rfl) ?_
  refine lv_iload_n hx hb dX12_wagon_1 rfl (lv_at hl 1 rfl) ?_
  refine lv_iconst (v := 0) hx hb dX12_wagon_2 (by decide) ?_
  refine lv_aload_n hx hb dX12_wagon_3 rfl (lv_at hl 0 rfl) ?_
  refine g_get (w := .ref (d_t 6)) F hB 0 rfl fl_RX12_33 rfl dX12_wagon_4 ?_
  refine lv_sipush (v := 484) hx hb dX12_wagon_7 (by decide) ?_
  refine g_iald F hB 1 rfl (vp_in_iff.mpr (by decide +kernel)) dX12_wagon_10 ?_
  refine W.eq (g2 := F0 m 11 ls [.int (r_t_s 484), .int (0 : Int32), .int n1, .ref a_t]) rfl ?_
  refine lv_iconst (v := 1) hx hb dX12_wagon_11 (by decide) ?_
  refine lv_isub hx hb dX12_wagon_12 ?_
  refine k_si (wr := [(a_t, ob 12 (rfd d_t) i_t j_t), ((d_t 6), ai k 1068 r_t_s), ((d_t 22), ai k 20 r_t_wagons), ((d_t 23), ai k 20 r_t_foremost), ((d_t 24), ai k 20 r_t_bears)]) (rest := [.ref a_t]) F hA hB (c_LongTrainModel_isIn l D k n1 (0 : Int32) ((r_t_s 484) - (1 : Int32)) _  hf) ml_RX12_182 ms_yX12_isIn [] [0, 1, 2, 3, 4] rfl rfl (by decide) (by decide) (by decide) rfl hl.1 rfl (Nat.le_of_ble_eq_true rfl) ⟨Nat.le_of_ble_eq_true rfl, Nat.le_of_ble_eq_true rfl⟩ ⟨Nat.le_of_ble_eq_true rfl, Nat.le_of_ble_eq_true rfl⟩ dX12_wagon_13 (fun z_2 w1 H locs hq hB => ?_)
  obtain ⟨h_3, rfl, hf⟩ := hq
  replace hB : Bd D A s.heap (wd_LongTrainModel_wagon k a_t d_t i_t j_t r_t_s r_t_wagons r_t_foremost r_t_bears) H locs := hB.sub [0, 1, 2, 3, 4] (by decide) rfl
  refine lv_if_eq (tgt := 28) hx hb dX12_wagon_16 (by decide) (fun c_27 => ?_) (fun c_27 => ?_)
  · replace hf := hf.1 c_27
    exact jt_LongTrainModel_wagon_28 F hr hlk hA _ _ _ _ _ _ _ _ _ hf hB (lv_sub hl [0, 1, 2] rfl)
  · replace hf := hf.2 c_27
    refine lv_iload_n hx hb dX12_wagon_19 rfl (lv_at hl 2 rfl) ?_
    refine lv_iconst (v := 0) hx hb dX12_wagon_20 (by decide) ?_
    refine lv_iconst (v := 4) hx hb dX12_wagon_21 (by decide) ?_
    refine k_si (wr := [(a_t, ob 12 (rfd d_t) i_t j_t), ((d_t 6), ai k 1068 r_t_s), ((d_t 22), ai k 20 r_t_wagons), ((d_t 23), ai k 20 r_t_foremost), ((d_t 24), ai k 20 r_t_bears)]) (rest := [.ref a_t]) F hA hB (c_LongTrainModel_isIn l D k n2 (0 : Int32) (4 : Int32) _  hf) ml_RX12_182 ms_yX12_isIn [] [0, 1, 2, 3, 4] rfl rfl (by decide) (by decide) (by decide) rfl hl.1 rfl (Nat.le_of_ble_eq_true rfl) ⟨Nat.le_of_ble_eq_true rfl, Nat.le_of_ble_eq_true rfl⟩ ⟨Nat.le_of_ble_eq_true rfl, Nat.le_of_ble_eq_true rfl⟩ dX12_wagon_22 (fun z_24 w1 H locs hq hB => ?_)
    obtain ⟨h_25, rfl, hf⟩ := hq
    replace hB : Bd D A s.heap (wd_LongTrainModel_wagon k a_t d_t i_t j_t r_t_s r_t_wagons r_t_foremost r_t_bears) H locs := hB.sub [0, 1, 2, 3, 4] (by decide) rfl
    refine lv_if_ne (tgt := 32) hx hb dX12_wagon_25 (by decide) (fun c_26 => ?_) (fun c_26 => ?_)
    · replace hf := hf.1 c_26
      refine lv_iconst (v := 0) hx hb dX12_wagon_32 (by decide) ?_
      exact jt_LongTrainModel_wagon_33 F hr hlk hA _ _ _ _ _ _ _ _ _ _ hf hB (lv_sub hl [0, 1, 2] rfl)
    · replace hf := hf.2 c_26
      exact jt_LongTrainModel_wagon_28 F hr hlk hA _ _ _ _ _ _ _ _ _ hf hB (lv_sub hl [0, 1, 2] rfl)

/-! LongTrainModel.half -/
set_option maxRecDepth 100000 in
set_option maxHeartbeats 4000000 in
theorem bt_LongTrainModel_half_146 {p : Program} {l : Launch} {e : Env} {s : State} {m : MethodId} {below : List Frame} {meth : Method} {c : Code} {A : Nat → Prop} {D : va_G} {k : Nat → ClassId} {a_t : Nat} {d_t : Nat → Nat} {i_t : Nat → Int32} {j_t : Nat → Int64} {r_t_s : Nat → Int32} {n1 : Int32} {n2 : Int32} {Q : Int32 → (Nat → Int32) → Prop}  {x3 : Int32} {kx_146 : (Int32) → Prop} {kr_146 : (Int32) → (Int32) → (Int32) → Prop} (F : Fx p m c cX12_half 7 s ([.ref a_t, .int n1, .int n2] : List Value).toArray RX12 D k) (hr : meth.sig.returnType = (some .int)) (hlk : meth.locks = false) (hA : ∀ q : Nat, s.heap.size ≤ q → A q) (hkx_146 : ∀ (x4 : Int32) (H : Heap) (locs : List Loc) (ls : Array Slot), kx_146 x4 → Bd D A s.heap (wd_LongTrainModel_half k a_t d_t i_t j_t r_t_s) H locs → lv_has ls 7 [(4, .int x4)] → W p l e { frames := 2, cells := 0, slots := 0, locals := 45 } s m ([.ref a_t, .int n1, .int n2] : List Value).toArray below meth c H locs 0 0 (Ei below (fun r w => ∃ (i_t : Nat → Int32), w = (wd_LongTrainModel_half k a_t d_t i_t j_t r_t_s) ∧ Q r i_t) D k A ([.ref a_t, .int n1, .int n2] : List Value).toArray s 0 0) (F0 m 205 ls [])) (hkr_146 : ∀ (x4 : Int32) (x5 : Int32) (x6 : Int32) (H : Heap) (locs : List Loc) (ls : Array Slot), kr_146 x4 x5 x6 → Bd D A s.heap (wd_LongTrainModel_half k a_t d_t i_t j_t r_t_s) H locs → lv_has ls 7 [(0, .ref a_t), (3, .int x3), (4, .int x4), (5, .int x5), (6, .int x6)] → W p l e { frames := 2, cells := 0, slots := 0, locals := 45 } s m ([.ref a_t, .int n1, .int n2] : List Value).toArray below meth c H locs 0 0 (Ei below (fun r w => ∃ (i_t : Nat → Int32), w = (wd_LongTrainModel_half k a_t d_t i_t j_t r_t_s) ∧ Q r i_t) D k A ([.ref a_t, .int n1, .int n2] : List Value).toArray s 0 0) (F0 m 146 ls [])) :
    ∀ (x4 : Int32) (x5 : Int32) (x6 : Int32) (H : Heap) (locs : List Loc) (ls : Array Slot), b_LongTrainModel_half_146 r_t_s x3 kx_146 kr_146 x4 x5 x6 → Bd D A s.heap (wd_LongTrainModel_half k a_t d_t i_t j_t r_t_s) H locs → lv_has ls 7 [(0, .ref a_t), (3, .int x3), (4, .int x4), (5, .int x5), (6, .int x6)] → W p l e { frames := 2, cells := 0, slots := 0, locals := 45 } s m ([.ref a_t, .int n1, .int n2] : List Value).toArray below meth c H locs 0 0 (Ei below (fun r w => ∃ (i_t : Nat → Int32), w = (wd_LongTrainModel_half k a_t d_t i_t j_t r_t_s) ∧ Q r i_t) D k A ([.ref a_t, .int n1, .int n2] : List Value).toArray s 0 0) (F0 m 146 ls []) := by
  have hx := F.x
  have hb := F.b
  intro x4 x5 x6 H locs ls hf hB hl
  unfold b_LongTrainModel_half_146 at hf
  refine lv_iload hx hb dX12_half_146 (lv_at hl 4 rfl) ?_
  refine lv_aload_n hx hb dX12_half_148 rfl (lv_at hl 0 rfl) ?_
  refine g_get (w := .ref (d_t 6)) F hB 0 rfl fl_RX12_33 rfl dX12_half_149 ?_
  refine lv_iload_n hx hb dX12_half_152 rfl (lv_at hl 1 rfl) ?_
  obtain ⟨h_8, hf⟩ := hf
  refine g_iald F hB 1 rfl h_8 dX12_half_153 ?_
  refine lv_icmp_ge (tgt := 205) hx hb dX12_half_154 (by decide) (fun c_13 => ?_) (fun c_13 => ?_)
  · replace hf := hf.1 c_13
    exact hkx_146 _ _ _ _ hf hB (lv_sub hl [2] rfl)
  · replace hf := hf.2 c_13
    refine lv_iload hx hb dX12_half_157 (lv_at hl 2 rfl) ?_
    refine lv_aload_n hx hb dX12_half_159 rfl (lv_at hl 0 rfl) ?_
    refine lv_aload_n hx hb dX12_half_160 rfl (lv_at hl 0 rfl) ?_
    refine g_get (w := .ref (d_t 6)) F hB 0 rfl fl_RX12_33 rfl dX12_half_161 ?_
    refine lv_iload_n hx hb dX12_half_164 rfl (lv_at hl 1 rfl) ?_
    refine lv_iconst (v := 2) hx hb dX12_half_165 (by decide) ?_
    refine lv_iadd hx hb dX12_half_166 ?_
    refine lv_iload hx hb dX12_half_167 (lv_at hl 4 rfl) ?_
    refine lv_iadd hx hb dX12_half_169 ?_
    obtain ⟨h_9, hf⟩ := hf
    refine g_iald F hB 1 rfl h_9 dX12_half_170 ?_
    refine lv_iload hx hb dX12_half_171 (lv_at hl 3 rfl) ?_
    refine k_vi (wr := []) (rest := [.int x4]) F hA hB (c_LongTrainModel_dragOf l D k a_t d_t i_t j_t r_t_s (r_t_s (((x3 + (2 : Int32)) + x6)).toNatClampNeg) x5 _  hf) ml_RX12_367 mv_yX12_dragOf [0, 1] [] rfl rfl (by decide) (by decide) (by decide) 0 rfl rfl rfl hl.1 rfl (Nat.le_of_ble_eq_true rfl) ⟨Nat.le_of_ble_eq_true rfl, Nat.le_of_ble_eq_true rfl⟩ ⟨Nat.le_of_ble_eq_true rfl, Nat.le_of_ble_eq_true rfl⟩ dX12_half_173 (fun z_10 w1 H locs hq hB => ?_)
    obtain ⟨rfl, hf⟩ := hq
    replace hB : Bd D A s.heap (wd_LongTrainModel_half k a_t d_t i_t j_t r_t_s) H locs := hB.sub [0, 1] (by decide) rfl
    refine lv_iadd hx hb dX12_half_176 ?_
    refine lv_istore (lv' := [(4, .int (x4 + z_10)), (0, .ref a_t), (3, .int x3), (5, .int x5), (6, .int x6)]) hx hb dX12_half_177 hl (by decide) rfl (fun ls hl => ?_)
    refine lv_iload hx hb dX12_half_179 (lv_at hl 3 rfl) ?_
    refine lv_aload_n hx hb dX12_half_181 rfl (lv_at hl 1 rfl) ?_
    refine lv_aload_n hx hb dX12_half_182 rfl (lv_at hl 1 rfl) ?_
    refine g_get (w := .ref (d_t 6)) F hB 0 rfl fl_RX12_33 rfl dX12_half_183 ?_
    refine lv_iload_n hx hb dX12_half_186 rfl (lv_at hl 2 rfl) ?_
    refine lv_iconst (v := 2) hx hb dX12_half_187 (by decide) ?_
    refine lv_iadd hx hb dX12_half_188 ?_
    refine lv_iload hx hb dX12_half_189 (lv_at hl 4 rfl) ?_
    refine lv_iadd hx hb dX12_half_191 ?_
    obtain ⟨h_11, hf⟩ := hf
    refine g_iald F hB 1 rfl h_11 dX12_half_192 ?_
    refine k_vi (wr := []) (rest := [.int x5]) F hA hB (c_LongTrainModel_longOf l D k a_t d_t i_t j_t r_t_s (r_t_s (((x3 + (2 : Int32)) + x6)).toNatClampNeg) _  hf) ml_RX12_273 mv_yX12_longOf [0, 1] [] rfl rfl (by decide) (by decide) (by decide) 0 rfl rfl rfl hl.1 rfl (Nat.le_of_ble_eq_true rfl) ⟨Nat.le_of_ble_eq_true rfl, Nat.le_of_ble_eq_true rfl⟩ ⟨Nat.le_of_ble_eq_true rfl, Nat.le_of_ble_eq_true rfl⟩ dX12_half_193 (fun z_12 w1 H locs hq hB => ?_)
    obtain ⟨rfl, hf⟩ := hq
    replace hB : Bd D A s.heap (wd_LongTrainModel_half k a_t d_t i_t j_t r_t_s) H locs := hB.sub [0, 1] (by decide) rfl
    refine lv_isub hx hb dX12_half_196 ?_
    refine lv_istore (lv' := [(5, .int (x5 - z_12)), (4, .int (x4 + z_10)), (0, .ref a_t), (3, .int x3), (6, .int x6)]) hx hb dX12_half_197 hl (by decide) rfl (fun ls hl => ?_)
    refine lv_iinc (v := (x6 + 1)) (lv' := [(6, .int (x6 + 1)), (5, .int (x5 - z_12)), (4, .int (x4 + z_10)), (0, .ref a_t), (3, .int x3)]) (k := 4) hx hb dX12_half_199 hl rfl rfl (by decide) rfl (fun ls hl => ?_)
    refine lv_goto (tgt := 146) hx hb dX12_half_202 (by decide) ?_
    exact hkr_146 _ _ _ _ _ _ hf hB (lv_sub hl [3, 4, 2, 1, 0] rfl)

set_option maxRecDepth 100000 in
set_option maxHeartbeats 4000000 in
theorem lt_LongTrainModel_half_146 {p : Program} {l : Launch} {e : Env} {s : State} {m : MethodId} {below : List Frame} {meth : Method} {c : Code} {A : Nat → Prop} {D : va_G} {k : Nat → ClassId} {a_t : Nat} {d_t : Nat → Nat} {i_t : Nat → Int32} {j_t : Nat → Int64} {r_t_s : Nat → Int32} {n1 : Int32} {n2 : Int32} {Q : Int32 → (Nat → Int32) → Prop}  {x3 : Int32} {kx_146 : (Int32) → Prop} (F : Fx p m c cX12_half 7 s ([.ref a_t, .int n1, .int n2] : List Value).toArray RX12 D k) (hr : meth.sig.returnType = (some .int)) (hlk : meth.locks = false) (hA : ∀ q : Nat, s.heap.size ≤ q → A q) (hkx_146 : ∀ (x4 : Int32) (H : Heap) (locs : List Loc) (ls : Array Slot), kx_146 x4 → Bd D A s.heap (wd_LongTrainModel_half k a_t d_t i_t j_t r_t_s) H locs → lv_has ls 7 [(4, .int x4)] → W p l e { frames := 2, cells := 0, slots := 0, locals := 45 } s m ([.ref a_t, .int n1, .int n2] : List Value).toArray below meth c H locs 0 0 (Ei below (fun r w => ∃ (i_t : Nat → Int32), w = (wd_LongTrainModel_half k a_t d_t i_t j_t r_t_s) ∧ Q r i_t) D k A ([.ref a_t, .int n1, .int n2] : List Value).toArray s 0 0) (F0 m 205 ls [])) :
    ∀ n : Nat, ∀ (x4 : Int32) (x5 : Int32) (x6 : Int32) (H : Heap) (locs : List Loc) (ls : Array Slot), lp_LongTrainModel_half_146 r_t_s x3 kx_146 n x4 x5 x6 → Bd D A s.heap (wd_LongTrainModel_half k a_t d_t i_t j_t r_t_s) H locs → lv_has ls 7 [(0, .ref a_t), (3, .int x3), (4, .int x4), (5, .int x5), (6, .int x6)] → W p l e { frames := 2, cells := 0, slots := 0, locals := 45 } s m ([.ref a_t, .int n1, .int n2] : List Value).toArray below meth c H locs 0 0 (Ei below (fun r w => ∃ (i_t : Nat → Int32), w = (wd_LongTrainModel_half k a_t d_t i_t j_t r_t_s) ∧ Q r i_t) D k A ([.ref a_t, .int n1, .int n2] : List Value).toArray s 0 0) (F0 m 146 ls []) := by
  intro n
  induction n with
  | zero => intro x4 x5 x6 H locs ls hf; exact absurd hf (fun h => h)
  | succ n ih => exact bt_LongTrainModel_half_146 F hr hlk hA hkx_146 ih

set_option maxRecDepth 100000 in
set_option maxHeartbeats 4000000 in
theorem bt_LongTrainModel_half_91 {p : Program} {l : Launch} {e : Env} {s : State} {m : MethodId} {below : List Frame} {meth : Method} {c : Code} {A : Nat → Prop} {D : va_G} {k : Nat → ClassId} {a_t : Nat} {d_t : Nat → Nat} {i_t : Nat → Int32} {j_t : Nat → Int64} {r_t_s : Nat → Int32} {n1 : Int32} {n2 : Int32} {Q : Int32 → (Nat → Int32) → Prop}  {x3 : Int32} {kx_91 : Prop} {kr_91 : (Int32) → Prop} (F : Fx p m c cX12_half 7 s ([.ref a_t, .int n1, .int n2] : List Value).toArray RX12 D k) (hr : meth.sig.returnType = (some .int)) (hlk : meth.locks = false) (hA : ∀ q : Nat, s.heap.size ≤ q → A q) (hkx_91 : ∀ (H : Heap) (locs : List Loc) (ls : Array Slot), kx_91 → Bd D A s.heap (wd_LongTrainModel_half k a_t d_t i_t j_t r_t_s) H locs → lv_has ls 7 [] → W p l e { frames := 2, cells := 0, slots := 0, locals := 45 } s m ([.ref a_t, .int n1, .int n2] : List Value).toArray below meth c H locs 0 0 (Ei below (fun r w => ∃ (i_t : Nat → Int32), w = (wd_LongTrainModel_half k a_t d_t i_t j_t r_t_s) ∧ Q r i_t) D k A ([.ref a_t, .int n1, .int n2] : List Value).toArray s 0 0) (F0 m 128 ls [])) (hkr_91 : ∀ (x4 : Int32) (H : Heap) (locs : List Loc) (ls : Array Slot), kr_91 x4 → Bd D A s.heap (wd_LongTrainModel_half k a_t d_t i_t j_t r_t_s) H locs → lv_has ls 7 [(0, .ref a_t), (3, .int x3), (4, .int x4)] → W p l e { frames := 2, cells := 0, slots := 0, locals := 45 } s m ([.ref a_t, .int n1, .int n2] : List Value).toArray below meth c H locs 0 0 (Ei below (fun r w => ∃ (i_t : Nat → Int32), w = (wd_LongTrainModel_half k a_t d_t i_t j_t r_t_s) ∧ Q r i_t) D k A ([.ref a_t, .int n1, .int n2] : List Value).toArray s 0 0) (F0 m 91 ls [])) :
    ∀ (x4 : Int32) (H : Heap) (locs : List Loc) (ls : Array Slot), b_LongTrainModel_half_91 i_t r_t_s x3 Q kx_91 kr_91 x4 → Bd D A s.heap (wd_LongTrainModel_half k a_t d_t i_t j_t r_t_s) H locs → lv_has ls 7 [(0, .ref a_t), (3, .int x3), (4, .int x4)] → W p l e { frames := 2, cells := 0, slots := 0, locals := 45 } s m ([.ref a_t, .int n1, .int n2] : List Value).toArray below meth c H locs 0 0 (Ei below (fun r w => ∃ (i_t : Nat → Int32), w = (wd_LongTrainModel_half k a_t d_t i_t j_t r_t_s) ∧ Q r i_t) D k A ([.ref a_t, .int n1, .int n2] : List Value).toArray s 0 0) (F0 m 91 ls []) := by
  have hx := F.x
  have hb := F.b
  intro x4 H locs ls hf hB hl
  unfold b_LongTrainModel_half_91 at hf
  refine lv_iload hx hb dX12_half_91 (lv_at hl 2 rfl) ?_
  refine lv_aload_n hx hb dX12_half_93 rfl (lv_at hl 0 rfl) ?_
  refine g_get (w := .ref (d_t 6)) F hB 0 rfl fl_RX12_33 rfl dX12_half_94 ?_
  refine lv_iconst (v := 1) hx hb dX12_half_97 (by decide) ?_
  refine g_iald F hB 1 rfl (vp_in_iff.mpr (by decide +kernel)) dX12_half_98 ?_
  refine W.eq (g2 := F0 m 99 ls [.int (r_t_s 1), .int x4]) rfl ?_
  refine lv_icmp_ge (tgt := 128) hx hb dX12_half_99 (by decide) (fun c_20 => ?_) (fun c_20 => ?_)
  · replace hf := hf.1 c_20
    exact hkx_91  _ _ _ hf hB (lv_sub hl [] rfl)
  · replace hf := hf.2 c_20
    refine lv_aload_n hx hb dX12_half_102 rfl (lv_at hl 0 rfl) ?_
    refine lv_iload hx hb dX12_half_103 (lv_at hl 2 rfl) ?_
    refine k_vi (wr := []) (rest := []) F hA hB (c_LongTrainModel_haltAt l D k a_t d_t i_t j_t r_t_s x4 _  hf) ml_RX12_261 mv_yX12_haltAt [0, 1] [] rfl rfl (by decide) (by decide) (by decide) 0 rfl rfl rfl hl.1 rfl (Nat.le_of_ble_eq_true rfl) ⟨Nat.le_of_ble_eq_true rfl, Nat.le_of_ble_eq_true rfl⟩ ⟨Nat.le_of_ble_eq_true rfl, Nat.le_of_ble_eq_true rfl⟩ dX12_half_105 (fun z_17 w1 H locs hq hB => ?_)
    obtain ⟨rfl, hf⟩ := hq
    replace hB : Bd D A s.heap (wd_LongTrainModel_half k a_t d_t i_t j_t r_t_s) H locs := hB.sub [0, 1] (by decide) rfl
    refine lv_aload_n hx hb dX12_half_108 rfl (lv_at hl 0 rfl) ?_
    refine g_get (w := .ref (d_t 6)) F hB 0 rfl fl_RX12_33 rfl dX12_half_109 ?_
    refine lv_iload_n hx hb dX12_half_112 rfl (lv_at hl 1 rfl) ?_
    refine lv_iconst (v := 1) hx hb dX12_half_113 (by decide) ?_
    refine lv_iadd hx hb dX12_half_114 ?_
    obtain ⟨h_18, hf⟩ := hf
    refine g_iald F hB 1 rfl h_18 dX12_half_115 ?_
    refine lv_icmp_le (tgt := 122) hx hb dX12_half_116 (by decide) (fun c_19 => ?_) (fun c_19 => ?_)
    · replace hf := hf.1 c_19
      refine lv_iinc (v := (x4 + 1)) (lv' := [(4, .int (x4 + 1)), (0, .ref a_t), (3, .int x3)]) (k := 2) hx hb dX12_half_122 hl rfl rfl (by decide) rfl (fun ls hl => ?_)
      refine lv_goto (tgt := 91) hx hb dX12_half_125 (by decide) ?_
      exact hkr_91 _ _ _ _ hf hB (lv_sub hl [1, 2, 0] rfl)
    · replace hf := hf.2 c_19
      refine lv_iload hx hb dX12_half_119 (lv_at hl 2 rfl) ?_
      exact r_i F hr hlk hB ⟨_, rfl, hf⟩ dX12_half_121

set_option maxRecDepth 100000 in
set_option maxHeartbeats 4000000 in
theorem lt_LongTrainModel_half_91 {p : Program} {l : Launch} {e : Env} {s : State} {m : MethodId} {below : List Frame} {meth : Method} {c : Code} {A : Nat → Prop} {D : va_G} {k : Nat → ClassId} {a_t : Nat} {d_t : Nat → Nat} {i_t : Nat → Int32} {j_t : Nat → Int64} {r_t_s : Nat → Int32} {n1 : Int32} {n2 : Int32} {Q : Int32 → (Nat → Int32) → Prop}  {x3 : Int32} {kx_91 : Prop} (F : Fx p m c cX12_half 7 s ([.ref a_t, .int n1, .int n2] : List Value).toArray RX12 D k) (hr : meth.sig.returnType = (some .int)) (hlk : meth.locks = false) (hA : ∀ q : Nat, s.heap.size ≤ q → A q) (hkx_91 : ∀ (H : Heap) (locs : List Loc) (ls : Array Slot), kx_91 → Bd D A s.heap (wd_LongTrainModel_half k a_t d_t i_t j_t r_t_s) H locs → lv_has ls 7 [] → W p l e { frames := 2, cells := 0, slots := 0, locals := 45 } s m ([.ref a_t, .int n1, .int n2] : List Value).toArray below meth c H locs 0 0 (Ei below (fun r w => ∃ (i_t : Nat → Int32), w = (wd_LongTrainModel_half k a_t d_t i_t j_t r_t_s) ∧ Q r i_t) D k A ([.ref a_t, .int n1, .int n2] : List Value).toArray s 0 0) (F0 m 128 ls [])) :
    ∀ n : Nat, ∀ (x4 : Int32) (H : Heap) (locs : List Loc) (ls : Array Slot), lp_LongTrainModel_half_91 i_t r_t_s x3 Q kx_91 n x4 → Bd D A s.heap (wd_LongTrainModel_half k a_t d_t i_t j_t r_t_s) H locs → lv_has ls 7 [(0, .ref a_t), (3, .int x3), (4, .int x4)] → W p l e { frames := 2, cells := 0, slots := 0, locals := 45 } s m ([.ref a_t, .int n1, .int n2] : List Value).toArray below meth c H locs 0 0 (Ei below (fun r w => ∃ (i_t : Nat → Int32), w = (wd_LongTrainModel_half k a_t d_t i_t j_t r_t_s) ∧ Q r i_t) D k A ([.ref a_t, .int n1, .int n2] : List Value).toArray s 0 0) (F0 m 91 ls []) := by
  intro n
  induction n with
  | zero => intro x4 H locs ls hf; exact absurd hf (fun h => h)
  | succ n ih => exact bt_LongTrainModel_half_91 F hr hlk hA hkx_91 ih

set_option maxRecDepth 100000 in
set_option maxHeartbeats 4000000 in
theorem jt_LongTrainModel_half_33 {p : Program} {l : Launch} {e : Env} {s : State} {m : MethodId} {below : List Frame} {meth : Method} {c : Code} {A : Nat → Prop} {D : va_G} {k : Nat → ClassId} {a_t : Nat} {d_t : Nat → Nat} {j_t : Nat → Int64} {r_t_s : Nat → Int32} {n1 : Int32} {n2 : Int32} {Q : Int32 → (Nat → Int32) → Prop}  (F : Fx p m c cX12_half 7 s ([.ref a_t, .int n1, .int n2] : List Value).toArray RX12 D k) (hr : meth.sig.returnType = (some .int)) (hlk : meth.locks = false) (hA : ∀ q : Nat, s.heap.size ≤ q → A q) :
    ∀ (i_t : Nat → Int32) (x1 : Int32) (x2 : Int32) (y0 : Int32) (H : Heap) (locs : List Loc) (ls : Array Slot), j_LongTrainModel_half_33 i_t r_t_s x1 x2 y0 Q → Bd D A s.heap (wd_LongTrainModel_half k a_t d_t i_t j_t r_t_s) H locs → lv_has ls 7 [(0, .ref a_t), (1, .int x1), (2, .int x2)] → W p l e { frames := 2, cells := 0, slots := 0, locals := 45 } s m ([.ref a_t, .int n1, .int n2] : List Value).toArray below meth c H locs 0 0 (Ei below (fun r w => ∃ (i_t : Nat → Int32), w = (wd_LongTrainModel_half k a_t d_t i_t j_t r_t_s) ∧ Q r i_t) D k A ([.ref a_t, .int n1, .int n2] : List Value).toArray s 0 0) (F0 m 33 ls [.int y0, .ref a_t]) := by
  have hx := F.x
  have hb := F.b
  intro i_t x1 x2 y0 H locs ls hf hB hl
  unfold j_LongTrainModel_half_33 at hf
  refine k_vi (wr := [((d_t 6), ai k 1068 r_t_s)]) (rest := []) F hA hB (c_LongTrainModel_throwsIf l D k a_t d_t i_t j_t y0 _  hf) ml_RX12_250 mv_yX12_throwsIf [0] [1] rfl rfl (by decide) (by decide) (by decide) 0 rfl rfl rfl hl.1 rfl (Nat.le_of_ble_eq_true rfl) ⟨Nat.le_of_ble_eq_true rfl, Nat.le_of_ble_eq_true rfl⟩ ⟨Nat.le_of_ble_eq_true rfl, Nat.le_of_ble_eq_true rfl⟩ dX12_half_33 (fun z_5 w1 H locs hq hB => ?_)
  obtain ⟨h_6, i_t_4, rfl, hf⟩ := hq
  replace hB : Bd D A s.heap (wd_LongTrainModel_half k a_t d_t i_t_4 j_t r_t_s) H locs := hB.sub [1, 0] (by decide) rfl
  refine lv_if_eq (tgt := 41) hx hb dX12_half_36 (by decide) (fun c_28 => ?_) (fun c_28 => ?_)
  · replace hf := hf.1 c_28
    refine lv_sipush (v := 537) hx hb dX12_half_41 (by decide) ?_
    refine lv_bipush (v := 22) hx hb dX12_half_44 (by decide) ?_
    refine lv_iload_n hx hb dX12_half_46 rfl (lv_at hl 1 rfl) ?_
    refine lv_imul hx hb dX12_half_47 ?_
    refine lv_iadd hx hb dX12_half_48 ?_
    refine lv_istore_n (lv' := [(3, .int ((537 : Int32) + ((22 : Int32) * x1))), (0, .ref a_t), (1, .int x1), (2, .int x2)]) hx hb dX12_half_49 rfl hl (by decide) rfl (fun ls hl => ?_)
    refine lv_iload_n hx hb dX12_half_50 rfl (lv_at hl 3 rfl) ?_
    refine lv_iconst (v := 2) hx hb dX12_half_51 (by decide) ?_
    refine lv_icmp_ge (tgt := 64) hx hb dX12_half_52 (by decide) (fun c_27 => ?_) (fun c_27 => ?_)
    · replace hf := hf.1 c_27
      refine lv_iload_n hx hb dX12_half_64 rfl (lv_at hl 3 rfl) ?_
      refine lv_iconst (v := 2) hx hb dX12_half_65 (by decide) ?_
      refine lv_icmp_ne (tgt := 83) hx hb dX12_half_66 (by decide) (fun c_25 => ?_) (fun c_25 => ?_)
      · replace hf := hf.1 c_25
        refine lv_iload_n hx hb dX12_half_83 rfl (lv_at hl 3 rfl) ?_
        refine lv_iconst (v := 3) hx hb dX12_half_84 (by decide) ?_
        refine lv_icmp_ne (tgt := 130) hx hb dX12_half_85 (by decide) (fun c_22 => ?_) (fun c_22 => ?_)
        · replace hf := hf.1 c_22
          refine lv_iconst (v := 0) hx hb dX12_half_130 (by decide) ?_
          refine lv_istore (lv' := [(4, .int (0 : Int32)), (3, .int ((537 : Int32) + ((22 : Int32) * x1))), (0, .ref a_t), (1, .int x1), (2, .int x2)]) hx hb dX12_half_131 hl (by decide) rfl (fun ls hl => ?_)
          refine lv_aload_n hx hb dX12_half_133 rfl (lv_at hl 2 rfl) ?_
          refine g_get (w := .ref (d_t 6)) F hB 0 rfl fl_RX12_33 rfl dX12_half_134 ?_
          refine lv_iload_n hx hb dX12_half_137 rfl (lv_at hl 1 rfl) ?_
          refine lv_iconst (v := 1) hx hb dX12_half_138 (by decide) ?_
          refine lv_iadd hx hb dX12_half_139 ?_
          obtain ⟨h_7, hf⟩ := hf
          refine g_iald F hB 1 rfl h_7 dX12_half_140 ?_
          refine lv_istore (lv' := [(5, .int (r_t_s ((((537 : Int32) + ((22 : Int32) * x1)) + (1 : Int32))).toNatClampNeg)), (4, .int (0 : Int32)), (3, .int ((537 : Int32) + ((22 : Int32) * x1))), (0, .ref a_t), (1, .int x1), (2, .int x2)]) hx hb dX12_half_141 hl (by decide) rfl (fun ls hl => ?_)
          refine lv_iconst (v := 0) hx hb dX12_half_143 (by decide) ?_
          refine lv_istore (lv' := [(6, .int (0 : Int32)), (5, .int (r_t_s ((((537 : Int32) + ((22 : Int32) * x1)) + (1 : Int32))).toNatClampNeg)), (4, .int (0 : Int32)), (3, .int ((537 : Int32) + ((22 : Int32) * x1))), (0, .ref a_t), (1, .int x1), (2, .int x2)]) hx hb dX12_half_144 hl (by decide) rfl (fun ls hl => ?_)
          obtain ⟨n_15, hf⟩ := hf
          refine lt_LongTrainModel_half_146 F hr hlk hA (fun x4_14 H locs ls hf hB hl => ?_) n_15 _ _ _ _ _ _ hf hB (lv_sub hl [4, 3, 2, 1, 0] rfl)
          refine lv_iload hx hb dX12_half_205 (lv_at hl 0 rfl) ?_
          exact r_i F hr hlk hB ⟨_, rfl, hf⟩ dX12_half_207
        · replace hf := hf.2 c_22
          refine lv_iconst (v := 0) hx hb dX12_half_88 (by decide) ?_
          refine lv_istore (lv' := [(4, .int (0 : Int32)), (3, .int ((537 : Int32) + ((22 : Int32) * x1))), (0, .ref a_t), (1, .int x1), (2, .int x2)]) hx hb dX12_half_89 hl (by decide) rfl (fun ls hl => ?_)
          obtain ⟨n_21, hf⟩ := hf
          refine lt_LongTrainModel_half_91 F hr hlk hA (fun  H locs ls hf hB hl => ?_) n_21 _ _ _ _ hf hB (lv_sub hl [2, 1, 0] rfl)
          refine lv_iconst (v := -1) hx hb dX12_half_128 (by decide) ?_
          exact r_i F hr hlk hB ⟨_, rfl, hf⟩ dX12_half_129
      · replace hf := hf.2 c_25
        refine lv_aload_n hx hb dX12_half_69 rfl (lv_at hl 1 rfl) ?_
        refine lv_iload_n hx hb dX12_half_70 rfl (lv_at hl 0 rfl) ?_
        refine lv_iconst (v := 2) hx hb dX12_half_71 (by decide) ?_
        refine lv_iadd hx hb dX12_half_72 ?_
        refine lv_aload_n hx hb dX12_half_73 rfl (lv_at hl 1 rfl) ?_
        refine g_get (w := .ref (d_t 6)) F hB 0 rfl fl_RX12_33 rfl dX12_half_74 ?_
        refine lv_iload_n hx hb dX12_half_77 rfl (lv_at hl 0 rfl) ?_
        obtain ⟨h_23, hf⟩ := hf
        refine g_iald F hB 1 rfl h_23 dX12_half_78 ?_
        refine k_vi (wr := []) (rest := []) F hA hB (c_LongTrainModel_unitsOf l D k a_t d_t i_t_4 j_t r_t_s (((537 : Int32) + ((22 : Int32) * x1)) + (2 : Int32)) (r_t_s (((537 : Int32) + ((22 : Int32) * x1))).toNatClampNeg) _  hf) ml_RX12_364 mv_yX12_unitsOf [0, 1] [] rfl rfl (by decide) (by decide) (by decide) 0 rfl rfl rfl hl.1 rfl (Nat.le_of_ble_eq_true rfl) ⟨Nat.le_of_ble_eq_true rfl, Nat.le_of_ble_eq_true rfl⟩ ⟨Nat.le_of_ble_eq_true rfl, Nat.le_of_ble_eq_true rfl⟩ dX12_half_79 (fun z_24 w1 H locs hq hB => ?_)
        obtain ⟨rfl, hf⟩ := hq
        replace hB : Bd D A s.heap (wd_LongTrainModel_half k a_t d_t i_t_4 j_t r_t_s) H locs := hB.sub [0, 1] (by decide) rfl
        exact r_i F hr hlk hB ⟨_, rfl, hf⟩ dX12_half_82
    · replace hf := hf.2 c_27
      refine lv_aload_n hx hb dX12_half_55 rfl (lv_at hl 1 rfl) ?_
      refine g_get (w := .ref (d_t 6)) F hB 0 rfl fl_RX12_33 rfl dX12_half_56 ?_
      refine lv_iload_n hx hb dX12_half_59 rfl (lv_at hl 0 rfl) ?_
      refine lv_iload_n hx hb dX12_half_60 rfl (lv_at hl 3 rfl) ?_
      refine lv_iadd hx hb dX12_half_61 ?_
      obtain ⟨h_26, hf⟩ := hf
      refine g_iald F hB 1 rfl h_26 dX12_half_62 ?_
      exact r_i F hr hlk hB ⟨_, rfl, hf⟩ dX12_half_63
  · replace hf := hf.2 c_28
    refine lv_iconst (v := 0) hx hb dX12_half_39 (by decide) ?_
    exact r_i F hr hlk hB ⟨_, rfl, hf⟩ dX12_half_40

set_option maxRecDepth 100000 in
set_option maxHeartbeats 4000000 in
theorem jt_LongTrainModel_half_28 {p : Program} {l : Launch} {e : Env} {s : State} {m : MethodId} {below : List Frame} {meth : Method} {c : Code} {A : Nat → Prop} {D : va_G} {k : Nat → ClassId} {a_t : Nat} {d_t : Nat → Nat} {j_t : Nat → Int64} {r_t_s : Nat → Int32} {n1 : Int32} {n2 : Int32} {Q : Int32 → (Nat → Int32) → Prop}  (F : Fx p m c cX12_half 7 s ([.ref a_t, .int n1, .int n2] : List Value).toArray RX12 D k) (hr : meth.sig.returnType = (some .int)) (hlk : meth.locks = false) (hA : ∀ q : Nat, s.heap.size ≤ q → A q) :
    ∀ (i_t : Nat → Int32) (x1 : Int32) (x2 : Int32) (H : Heap) (locs : List Loc) (ls : Array Slot), j_LongTrainModel_half_28 i_t r_t_s x1 x2 Q → Bd D A s.heap (wd_LongTrainModel_half k a_t d_t i_t j_t r_t_s) H locs → lv_has ls 7 [(0, .ref a_t), (1, .int x1), (2, .int x2)] → W p l e { frames := 2, cells := 0, slots := 0, locals := 45 } s m ([.ref a_t, .int n1, .int n2] : List Value).toArray below meth c H locs 0 0 (Ei below (fun r w => ∃ (i_t : Nat → Int32), w = (wd_LongTrainModel_half k a_t d_t i_t j_t r_t_s) ∧ Q r i_t) D k A ([.ref a_t, .int n1, .int n2] : List Value).toArray s 0 0) (F0 m 28 ls [.ref a_t]) := by
  have hx := F.x
  have hb := F.b
  intro i_t x1 x2 H locs ls hf hB hl
  unfold j_LongTrainModel_half_28 at hf
  refine lv_iconst (v := 1) hx hb dX12_half_28 (by decide) ?_
  refine lv_goto (tgt := 33) hx hb dX12_half_29 (by decide) ?_
  exact jt_LongTrainModel_half_33 F hr hlk hA _ _ _ _ _ _ _ hf hB (lv_sub hl [0, 1, 2] rfl)

set_option maxRecDepth 100000 in
set_option maxHeartbeats 4000000 in
theorem c_LongTrainModel_half (l : Launch) (D : va_G) (k : Nat → ClassId) (a_t : Nat) (d_t : Nat → Nat) (i_t : Nat → Int32) (j_t : Nat → Int64) (r_t_s : Nat → Int32) (n1 : Int32) (n2 : Int32) (Q : Int32 → (Nat → Int32) → Prop)  (hf : w_LongTrainModel_half i_t r_t_s n1 n2 Q) : CtI l yX12_half cX12_half 7 (some .int) 2 45 0 0 D k [.ref a_t, .int n1, .int n2] (wd_LongTrainModel_half k a_t d_t i_t j_t r_t_s) (fun r w => ∃ (i_t : Nat → Int32), w = (wd_LongTrainModel_half k a_t d_t i_t j_t r_t_s) ∧ Q r i_t) := by
  refine CtI.of (by decide) (Nat.le_of_ble_eq_true rfl) ?_
  intro p e s m below meth c A F hr hlk hnm hA hB ls hl
  have hx := F.x
  have hb := F.b
  unfold w_LongTrainModel_half at hf
  replace hl : lv_has ls 7 [(0, .ref a_t), (1, .int n1), (2, .int n2)] := hl
  refine lv_aload_n hx hb dX12_half_0 rfl (lv_at hl 0 rfl) ?_
  refine lv_iload_n hx hb dX12_half_1 rfl (lv_at hl 1 rfl) ?_
  refine lv_iconst (v := 0) hx hb dX12_half_2 (by decide) ?_
  refine lv_aload_n hx hb dX12_half_3 rfl (lv_at hl 0 rfl) ?_
  refine g_get (w := .ref (d_t 6)) F hB 0 rfl fl_RX12_33 rfl dX12_half_4 ?_
  refine lv_sipush (v := 536) hx hb dX12_half_7 (by decide) ?_
  refine g_iald F hB 1 rfl (vp_in_iff.mpr (by decide +kernel)) dX12_half_10 ?_
  refine W.eq (g2 := F0 m 11 ls [.int (r_t_s 536), .int (0 : Int32), .int n1, .ref a_t]) rfl ?_
  refine lv_iconst (v := 1) hx hb dX12_half_11 (by decide) ?_
  refine lv_isub hx hb dX12_half_12 ?_
  refine k_si (wr := [(a_t, ob 12 (rfd d_t) i_t j_t), ((d_t 6), ai k 1068 r_t_s)]) (rest := [.ref a_t]) F hA hB (c_LongTrainModel_isIn l D k n1 (0 : Int32) ((r_t_s 536) - (1 : Int32)) _  hf) ml_RX12_182 ms_yX12_isIn [] [0, 1] rfl rfl (by decide) (by decide) (by decide) rfl hl.1 rfl (Nat.le_of_ble_eq_true rfl) ⟨Nat.le_of_ble_eq_true rfl, Nat.le_of_ble_eq_true rfl⟩ ⟨Nat.le_of_ble_eq_true rfl, Nat.le_of_ble_eq_true rfl⟩ dX12_half_13 (fun z_2 w1 H locs hq hB => ?_)
  obtain ⟨h_3, rfl, hf⟩ := hq
  replace hB : Bd D A s.heap (wd_LongTrainModel_half k a_t d_t i_t j_t r_t_s) H locs := hB.sub [0, 1] (by decide) rfl
  refine lv_if_eq (tgt := 28) hx hb dX12_half_16 (by decide) (fun c_32 => ?_) (fun c_32 => ?_)
  · replace hf := hf.1 c_32
    exact jt_LongTrainModel_half_28 F hr hlk hA _ _ _ _ _ _ hf hB (lv_sub hl [0, 1, 2] rfl)
  · replace hf := hf.2 c_32
    refine lv_iload_n hx hb dX12_half_19 rfl (lv_at hl 2 rfl) ?_
    refine lv_iconst (v := 0) hx hb dX12_half_20 (by decide) ?_
    refine lv_iconst (v := 4) hx hb dX12_half_21 (by decide) ?_
    refine k_si (wr := [(a_t, ob 12 (rfd d_t) i_t j_t), ((d_t 6), ai k 1068 r_t_s)]) (rest := [.ref a_t]) F hA hB (c_LongTrainModel_isIn l D k n2 (0 : Int32) (4 : Int32) _  hf) ml_RX12_182 ms_yX12_isIn [] [0, 1] rfl rfl (by decide) (by decide) (by decide) rfl hl.1 rfl (Nat.le_of_ble_eq_true rfl) ⟨Nat.le_of_ble_eq_true rfl, Nat.le_of_ble_eq_true rfl⟩ ⟨Nat.le_of_ble_eq_true rfl, Nat.le_of_ble_eq_true rfl⟩ dX12_half_22 (fun z_29 w1 H locs hq hB => ?_)
    obtain ⟨h_30, rfl, hf⟩ := hq
    replace hB : Bd D A s.heap (wd_LongTrainModel_half k a_t d_t i_t j_t r_t_s) H locs := hB.sub [0, 1] (by decide) rfl
    refine lv_if_ne (tgt := 32) hx hb dX12_half_25 (by decide) (fun c_31 => ?_) (fun c_31 => ?_)
    · replace hf := hf.1 c_31
      refine lv_iconst (v := 0) hx hb dX12_half_32 (by decide) ?_
      exact jt_LongTrainModel_half_33 F hr hlk hA _ _ _ _ _ _ _ hf hB (lv_sub hl [0, 1, 2] rfl)
    · replace hf := hf.2 c_31
      exact jt_LongTrainModel_half_28 F hr hlk hA _ _ _ _ _ _ hf hB (lv_sub hl [0, 1, 2] rfl)

/-! LongTrainModel.partsAt -/
set_option maxRecDepth 100000 in
set_option maxHeartbeats 4000000 in
theorem bt_LongTrainModel_partsAt_48 {p : Program} {l : Launch} {e : Env} {s : State} {m : MethodId} {below : List Frame} {meth : Method} {c : Code} {A : Nat → Prop} {D : va_G} {k : Nat → ClassId} {a_t : Nat} {d_t : Nat → Nat} {i_t : Nat → Int32} {j_t : Nat → Int64} {r_t_foremost : Nat → Int32} {n1 : Int32} {Q : (Nat → Int32) → Prop}  {x1 : Int32} {x2 : Int32} {kx_48 : (Nat → Int32) → Prop} {kr_48 : (Int32) → (Nat → Int32) → Prop} (F : Fx p m c cX12_partsAt 5 s ([.ref a_t, .int n1] : List Value).toArray RX12 D k) (hr : meth.sig.returnType = none) (hlk : meth.locks = false) (hA : ∀ q : Nat, s.heap.size ≤ q → A q) (hkx_48 : ∀ (r_t_s : Nat → Int32) (H : Heap) (locs : List Loc) (ls : Array Slot), kx_48 r_t_s → Bd D A s.heap (wd_LongTrainModel_partsAt k a_t d_t i_t j_t r_t_s r_t_foremost) H locs → lv_has ls 5 [(0, .ref a_t), (1, .int x1)] → W p l e { frames := 0, cells := 0, slots := 0, locals := 0 } s m ([.ref a_t, .int n1] : List Value).toArray below meth c H locs 0 0 (Ev below (fun w => ∃ (r_t_s : Nat → Int32), w = (wd_LongTrainModel_partsAt k a_t d_t i_t j_t r_t_s r_t_foremost) ∧ Q r_t_s) D k A ([.ref a_t, .int n1] : List Value).toArray s 0 0) (F0 m 88 ls [])) (hkr_48 : ∀ (x3 : Int32) (r_t_s : Nat → Int32) (H : Heap) (locs : List Loc) (ls : Array Slot), kr_48 x3 r_t_s → Bd D A s.heap (wd_LongTrainModel_partsAt k a_t d_t i_t j_t r_t_s r_t_foremost) H locs → lv_has ls 5 [(0, .ref a_t), (1, .int x1), (2, .int x2), (3, .int x3)] → W p l e { frames := 0, cells := 0, slots := 0, locals := 0 } s m ([.ref a_t, .int n1] : List Value).toArray below meth c H locs 0 0 (Ev below (fun w => ∃ (r_t_s : Nat → Int32), w = (wd_LongTrainModel_partsAt k a_t d_t i_t j_t r_t_s r_t_foremost) ∧ Q r_t_s) D k A ([.ref a_t, .int n1] : List Value).toArray s 0 0) (F0 m 48 ls [])) :
    ∀ (x3 : Int32) (r_t_s : Nat → Int32) (H : Heap) (locs : List Loc) (ls : Array Slot), b_LongTrainModel_partsAt_48 x1 x2 kx_48 kr_48 x3 r_t_s → Bd D A s.heap (wd_LongTrainModel_partsAt k a_t d_t i_t j_t r_t_s r_t_foremost) H locs → lv_has ls 5 [(0, .ref a_t), (1, .int x1), (2, .int x2), (3, .int x3)] → W p l e { frames := 0, cells := 0, slots := 0, locals := 0 } s m ([.ref a_t, .int n1] : List Value).toArray below meth c H locs 0 0 (Ev below (fun w => ∃ (r_t_s : Nat → Int32), w = (wd_LongTrainModel_partsAt k a_t d_t i_t j_t r_t_s r_t_foremost) ∧ Q r_t_s) D k A ([.ref a_t, .int n1] : List Value).toArray s 0 0) (F0 m 48 ls []) := by
  have hx := F.x
  have hb := F.b
  intro x3 r_t_s H locs ls hf hB hl
  unfold b_LongTrainModel_partsAt_48 at hf
  refine lv_iload_n hx hb dX12_partsAt_48 rfl (lv_at hl 3 rfl) ?_
  refine lv_aload_n hx hb dX12_partsAt_49 rfl (lv_at hl 0 rfl) ?_
  refine g_get (w := .ref (d_t 6)) F hB 0 rfl fl_RX12_33 rfl dX12_partsAt_50 ?_
  refine lv_sipush (v := 484) hx hb dX12_partsAt_53 (by decide) ?_
  refine g_iald F hB 1 rfl (vp_in_iff.mpr (by decide +kernel)) dX12_partsAt_56 ?_
  refine W.eq (g2 := F0 m 57 ls [.int (r_t_s 484), .int x3]) rfl ?_
  refine lv_icmp_ge (tgt := 88) hx hb dX12_partsAt_57 (by decide) (fun c_9 => ?_) (fun c_9 => ?_)
  · replace hf := hf.1 c_9
    exact hkx_48 _ _ _ _ hf hB (lv_sub hl [0, 1] rfl)
  · replace hf := hf.2 c_9
    refine lv_aload_n hx hb dX12_partsAt_60 rfl (lv_at hl 0 rfl) ?_
    refine g_get (w := .ref (d_t 6)) F hB 0 rfl fl_RX12_33 rfl dX12_partsAt_61 ?_
    refine lv_iload_n hx hb dX12_partsAt_64 rfl (lv_at hl 2 rfl) ?_
    refine lv_iconst (v := 2) hx hb dX12_partsAt_65 (by decide) ?_
    refine lv_iadd hx hb dX12_partsAt_66 ?_
    refine lv_iload_n hx hb dX12_partsAt_67 rfl (lv_at hl 3 rfl) ?_
    refine lv_iadd hx hb dX12_partsAt_68 ?_
    refine lv_iload_n hx hb dX12_partsAt_69 rfl (lv_at hl 1 rfl) ?_
    refine lv_isub hx hb dX12_partsAt_70 ?_
    refine lv_aload_n hx hb dX12_partsAt_71 rfl (lv_at hl 0 rfl) ?_
    refine g_get (w := .ref (d_t 6)) F hB 0 rfl fl_RX12_33 rfl dX12_partsAt_72 ?_
    refine lv_sipush (v := 495) hx hb dX12_partsAt_75 (by decide) ?_
    refine lv_iload_n hx hb dX12_partsAt_78 rfl (lv_at hl 3 rfl) ?_
    refine lv_iadd hx hb dX12_partsAt_79 ?_
    obtain ⟨h_7, hf⟩ := hf
    refine g_iald F hB 1 rfl h_7 dX12_partsAt_80 ?_
    obtain ⟨h_8, hf⟩ := hf
    refine g_iast F hB 1 rfl h_8 (wd_LongTrainModel_partsAt k a_t d_t i_t j_t (upd r_t_s ((((x2 + (2 : Int32)) + x3) - x1)).toNatClampNeg (r_t_s (((495 : Int32) + x3)).toNatClampNeg)) r_t_foremost) rfl dX12_partsAt_81 (fun H locs hB => ?_)
    refine lv_iinc (v := (x3 + 1)) (lv' := [(3, .int (x3 + 1)), (0, .ref a_t), (1, .int x1), (2, .int x2)]) (k := 3) hx hb dX12_partsAt_82 hl rfl rfl (by decide) rfl (fun ls hl => ?_)
    refine lv_goto (tgt := 48) hx hb dX12_partsAt_85 (by decide) ?_
    exact hkr_48 _ _ _ _ _ hf hB (lv_sub hl [1, 2, 3, 0] rfl)

set_option maxRecDepth 100000 in
set_option maxHeartbeats 4000000 in
theorem lt_LongTrainModel_partsAt_48 {p : Program} {l : Launch} {e : Env} {s : State} {m : MethodId} {below : List Frame} {meth : Method} {c : Code} {A : Nat → Prop} {D : va_G} {k : Nat → ClassId} {a_t : Nat} {d_t : Nat → Nat} {i_t : Nat → Int32} {j_t : Nat → Int64} {r_t_foremost : Nat → Int32} {n1 : Int32} {Q : (Nat → Int32) → Prop}  {x1 : Int32} {x2 : Int32} {kx_48 : (Nat → Int32) → Prop} (F : Fx p m c cX12_partsAt 5 s ([.ref a_t, .int n1] : List Value).toArray RX12 D k) (hr : meth.sig.returnType = none) (hlk : meth.locks = false) (hA : ∀ q : Nat, s.heap.size ≤ q → A q) (hkx_48 : ∀ (r_t_s : Nat → Int32) (H : Heap) (locs : List Loc) (ls : Array Slot), kx_48 r_t_s → Bd D A s.heap (wd_LongTrainModel_partsAt k a_t d_t i_t j_t r_t_s r_t_foremost) H locs → lv_has ls 5 [(0, .ref a_t), (1, .int x1)] → W p l e { frames := 0, cells := 0, slots := 0, locals := 0 } s m ([.ref a_t, .int n1] : List Value).toArray below meth c H locs 0 0 (Ev below (fun w => ∃ (r_t_s : Nat → Int32), w = (wd_LongTrainModel_partsAt k a_t d_t i_t j_t r_t_s r_t_foremost) ∧ Q r_t_s) D k A ([.ref a_t, .int n1] : List Value).toArray s 0 0) (F0 m 88 ls [])) :
    ∀ n : Nat, ∀ (x3 : Int32) (r_t_s : Nat → Int32) (H : Heap) (locs : List Loc) (ls : Array Slot), lp_LongTrainModel_partsAt_48 x1 x2 kx_48 n x3 r_t_s → Bd D A s.heap (wd_LongTrainModel_partsAt k a_t d_t i_t j_t r_t_s r_t_foremost) H locs → lv_has ls 5 [(0, .ref a_t), (1, .int x1), (2, .int x2), (3, .int x3)] → W p l e { frames := 0, cells := 0, slots := 0, locals := 0 } s m ([.ref a_t, .int n1] : List Value).toArray below meth c H locs 0 0 (Ev below (fun w => ∃ (r_t_s : Nat → Int32), w = (wd_LongTrainModel_partsAt k a_t d_t i_t j_t r_t_s r_t_foremost) ∧ Q r_t_s) D k A ([.ref a_t, .int n1] : List Value).toArray s 0 0) (F0 m 48 ls []) := by
  intro n
  induction n with
  | zero => intro x3 r_t_s H locs ls hf; exact absurd hf (fun h => h)
  | succ n ih => exact bt_LongTrainModel_partsAt_48 F hr hlk hA hkx_48 ih

set_option maxRecDepth 100000 in
set_option maxHeartbeats 4000000 in
theorem bt_LongTrainModel_partsAt_114 {p : Program} {l : Launch} {e : Env} {s : State} {m : MethodId} {below : List Frame} {meth : Method} {c : Code} {A : Nat → Prop} {D : va_G} {k : Nat → ClassId} {a_t : Nat} {d_t : Nat → Nat} {i_t : Nat → Int32} {j_t : Nat → Int64} {r_t_foremost : Nat → Int32} {n1 : Int32} {Q : (Nat → Int32) → Prop}  {x1 : Int32} {kx_114 : (Int32) → (Nat → Int32) → Prop} {kr_114 : (Int32) → (Int32) → (Nat → Int32) → Prop} (F : Fx p m c cX12_partsAt 5 s ([.ref a_t, .int n1] : List Value).toArray RX12 D k) (hr : meth.sig.returnType = none) (hlk : meth.locks = false) (hA : ∀ q : Nat, s.heap.size ≤ q → A q) (hkx_114 : ∀ (x3 : Int32) (r_t_s : Nat → Int32) (H : Heap) (locs : List Loc) (ls : Array Slot), kx_114 x3 r_t_s → Bd D A s.heap (wd_LongTrainModel_partsAt k a_t d_t i_t j_t r_t_s r_t_foremost) H locs → lv_has ls 5 [(0, .ref a_t), (3, .int x3)] → W p l e { frames := 0, cells := 0, slots := 0, locals := 0 } s m ([.ref a_t, .int n1] : List Value).toArray below meth c H locs 0 0 (Ev below (fun w => ∃ (r_t_s : Nat → Int32), w = (wd_LongTrainModel_partsAt k a_t d_t i_t j_t r_t_s r_t_foremost) ∧ Q r_t_s) D k A ([.ref a_t, .int n1] : List Value).toArray s 0 0) (F0 m 196 ls [])) (hkr_114 : ∀ (x3 : Int32) (x4 : Int32) (r_t_s : Nat → Int32) (H : Heap) (locs : List Loc) (ls : Array Slot), kr_114 x3 x4 r_t_s → Bd D A s.heap (wd_LongTrainModel_partsAt k a_t d_t i_t j_t r_t_s r_t_foremost) H locs → lv_has ls 5 [(0, .ref a_t), (1, .int x1), (3, .int x3), (4, .int x4)] → W p l e { frames := 0, cells := 0, slots := 0, locals := 0 } s m ([.ref a_t, .int n1] : List Value).toArray below meth c H locs 0 0 (Ev below (fun w => ∃ (r_t_s : Nat → Int32), w = (wd_LongTrainModel_partsAt k a_t d_t i_t j_t r_t_s r_t_foremost) ∧ Q r_t_s) D k A ([.ref a_t, .int n1] : List Value).toArray s 0 0) (F0 m 114 ls [])) :
    ∀ (x3 : Int32) (x4 : Int32) (r_t_s : Nat → Int32) (H : Heap) (locs : List Loc) (ls : Array Slot), b_LongTrainModel_partsAt_114 x1 kx_114 kr_114 x3 x4 r_t_s → Bd D A s.heap (wd_LongTrainModel_partsAt k a_t d_t i_t j_t r_t_s r_t_foremost) H locs → lv_has ls 5 [(0, .ref a_t), (1, .int x1), (3, .int x3), (4, .int x4)] → W p l e { frames := 0, cells := 0, slots := 0, locals := 0 } s m ([.ref a_t, .int n1] : List Value).toArray below meth c H locs 0 0 (Ev below (fun w => ∃ (r_t_s : Nat → Int32), w = (wd_LongTrainModel_partsAt k a_t d_t i_t j_t r_t_s r_t_foremost) ∧ Q r_t_s) D k A ([.ref a_t, .int n1] : List Value).toArray s 0 0) (F0 m 114 ls []) := by
  have hx := F.x
  have hb := F.b
  intro x3 x4 r_t_s H locs ls hf hB hl
  unfold b_LongTrainModel_partsAt_114 at hf
  refine lv_iload hx hb dX12_partsAt_114 (lv_at hl 3 rfl) ?_
  refine lv_aload_n hx hb dX12_partsAt_116 rfl (lv_at hl 0 rfl) ?_
  refine g_get (w := .ref (d_t 6)) F hB 0 rfl fl_RX12_33 rfl dX12_partsAt_117 ?_
  refine lv_sipush (v := 486) hx hb dX12_partsAt_120 (by decide) ?_
  refine g_iald F hB 1 rfl (vp_in_iff.mpr (by decide +kernel)) dX12_partsAt_123 ?_
  refine W.eq (g2 := F0 m 124 ls [.int (r_t_s 486), .int x4]) rfl ?_
  refine lv_icmp_ge (tgt := 196) hx hb dX12_partsAt_124 (by decide) (fun c_21 => ?_) (fun c_21 => ?_)
  · replace hf := hf.1 c_21
    exact hkx_114 _ _ _ _ _ hf hB (lv_sub hl [0, 2] rfl)
  · replace hf := hf.2 c_21
    refine lv_aload_n hx hb dX12_partsAt_127 rfl (lv_at hl 0 rfl) ?_
    refine g_get (w := .ref (d_t 6)) F hB 0 rfl fl_RX12_33 rfl dX12_partsAt_128 ?_
    refine lv_sipush (v := 487) hx hb dX12_partsAt_131 (by decide) ?_
    refine lv_iload hx hb dX12_partsAt_134 (lv_at hl 3 rfl) ?_
    refine lv_iadd hx hb dX12_partsAt_136 ?_
    obtain ⟨h_15, hf⟩ := hf
    refine g_iald F hB 1 rfl h_15 dX12_partsAt_137 ?_
    refine lv_iload_n hx hb dX12_partsAt_138 rfl (lv_at hl 1 rfl) ?_
    refine lv_icmp_lt (tgt := 145) hx hb dX12_partsAt_139 (by decide) (fun c_20 => ?_) (fun c_20 => ?_)
    · replace hf := hf.1 c_20
      refine lv_aload_n hx hb dX12_partsAt_145 rfl (lv_at hl 0 rfl) ?_
      refine g_get (w := .ref (d_t 6)) F hB 0 rfl fl_RX12_33 rfl dX12_partsAt_146 ?_
      refine lv_sipush (v := 487) hx hb dX12_partsAt_149 (by decide) ?_
      refine lv_iload_n hx hb dX12_partsAt_152 rfl (lv_at hl 2 rfl) ?_
      refine lv_iadd hx hb dX12_partsAt_153 ?_
      refine lv_aload_n hx hb dX12_partsAt_154 rfl (lv_at hl 0 rfl) ?_
      refine g_get (w := .ref (d_t 6)) F hB 0 rfl fl_RX12_33 rfl dX12_partsAt_155 ?_
      refine lv_sipush (v := 487) hx hb dX12_partsAt_158 (by decide) ?_
      refine lv_iload hx hb dX12_partsAt_161 (lv_at hl 3 rfl) ?_
      refine lv_iadd hx hb dX12_partsAt_163 ?_
      obtain ⟨h_16, hf⟩ := hf
      refine g_iald F hB 1 rfl h_16 dX12_partsAt_164 ?_
      obtain ⟨h_17, hf⟩ := hf
      refine g_iast F hB 1 rfl h_17 (wd_LongTrainModel_partsAt k a_t d_t i_t j_t (upd r_t_s (((487 : Int32) + x3)).toNatClampNeg (r_t_s (((487 : Int32) + x4)).toNatClampNeg)) r_t_foremost) rfl dX12_partsAt_165 (fun H locs hB => ?_)
      refine lv_aload_n hx hb dX12_partsAt_166 rfl (lv_at hl 0 rfl) ?_
      refine g_get (w := .ref (d_t 6)) F hB 0 rfl fl_RX12_33 rfl dX12_partsAt_167 ?_
      refine lv_sipush (v := 491) hx hb dX12_partsAt_170 (by decide) ?_
      refine lv_iload_n hx hb dX12_partsAt_173 rfl (lv_at hl 2 rfl) ?_
      refine lv_iadd hx hb dX12_partsAt_174 ?_
      refine lv_aload_n hx hb dX12_partsAt_175 rfl (lv_at hl 0 rfl) ?_
      refine g_get (w := .ref (d_t 6)) F hB 0 rfl fl_RX12_33 rfl dX12_partsAt_176 ?_
      refine lv_sipush (v := 491) hx hb dX12_partsAt_179 (by decide) ?_
      refine lv_iload hx hb dX12_partsAt_182 (lv_at hl 3 rfl) ?_
      refine lv_iadd hx hb dX12_partsAt_184 ?_
      obtain ⟨h_18, hf⟩ := hf
      refine g_iald F hB 1 rfl h_18 dX12_partsAt_185 ?_
      obtain ⟨h_19, hf⟩ := hf
      refine g_iast F hB 1 rfl h_19 (wd_LongTrainModel_partsAt k a_t d_t i_t j_t (upd (upd r_t_s (((487 : Int32) + x3)).toNatClampNeg (r_t_s (((487 : Int32) + x4)).toNatClampNeg)) (((491 : Int32) + x3)).toNatClampNeg ((upd r_t_s (((487 : Int32) + x3)).toNatClampNeg (r_t_s (((487 : Int32) + x4)).toNatClampNeg)) (((491 : Int32) + x4)).toNatClampNeg)) r_t_foremost) rfl dX12_partsAt_186 (fun H locs hB => ?_)
      refine lv_iinc (v := (x3 + 1)) (lv' := [(3, .int (x3 + 1)), (0, .ref a_t), (1, .int x1), (4, .int x4)]) (k := 2) hx hb dX12_partsAt_187 hl rfl rfl (by decide) rfl (fun ls hl => ?_)
      refine lv_iinc (v := (x4 + 1)) (lv' := [(4, .int (x4 + 1)), (3, .int (x3 + 1)), (0, .ref a_t), (1, .int x1)]) (k := 3) hx hb dX12_partsAt_190 hl rfl rfl (by decide) rfl (fun ls hl => ?_)
      refine lv_goto (tgt := 114) hx hb dX12_partsAt_193 (by decide) ?_
      exact hkr_114 _ _ _ _ _ _ hf hB (lv_sub hl [2, 3, 1, 0] rfl)
    · replace hf := hf.2 c_20
      refine lv_goto (tgt := 190) hx hb dX12_partsAt_142 (by decide) ?_
      refine lv_iinc (v := (x4 + 1)) (lv' := [(4, .int (x4 + 1)), (0, .ref a_t), (1, .int x1), (3, .int x3)]) (k := 3) hx hb dX12_partsAt_190 hl rfl rfl (by decide) rfl (fun ls hl => ?_)
      refine lv_goto (tgt := 114) hx hb dX12_partsAt_193 (by decide) ?_
      exact hkr_114 _ _ _ _ _ _ hf hB (lv_sub hl [1, 2, 3, 0] rfl)

set_option maxRecDepth 100000 in
set_option maxHeartbeats 4000000 in
theorem lt_LongTrainModel_partsAt_114 {p : Program} {l : Launch} {e : Env} {s : State} {m : MethodId} {below : List Frame} {meth : Method} {c : Code} {A : Nat → Prop} {D : va_G} {k : Nat → ClassId} {a_t : Nat} {d_t : Nat → Nat} {i_t : Nat → Int32} {j_t : Nat → Int64} {r_t_foremost : Nat → Int32} {n1 : Int32} {Q : (Nat → Int32) → Prop}  {x1 : Int32} {kx_114 : (Int32) → (Nat → Int32) → Prop} (F : Fx p m c cX12_partsAt 5 s ([.ref a_t, .int n1] : List Value).toArray RX12 D k) (hr : meth.sig.returnType = none) (hlk : meth.locks = false) (hA : ∀ q : Nat, s.heap.size ≤ q → A q) (hkx_114 : ∀ (x3 : Int32) (r_t_s : Nat → Int32) (H : Heap) (locs : List Loc) (ls : Array Slot), kx_114 x3 r_t_s → Bd D A s.heap (wd_LongTrainModel_partsAt k a_t d_t i_t j_t r_t_s r_t_foremost) H locs → lv_has ls 5 [(0, .ref a_t), (3, .int x3)] → W p l e { frames := 0, cells := 0, slots := 0, locals := 0 } s m ([.ref a_t, .int n1] : List Value).toArray below meth c H locs 0 0 (Ev below (fun w => ∃ (r_t_s : Nat → Int32), w = (wd_LongTrainModel_partsAt k a_t d_t i_t j_t r_t_s r_t_foremost) ∧ Q r_t_s) D k A ([.ref a_t, .int n1] : List Value).toArray s 0 0) (F0 m 196 ls [])) :
    ∀ n : Nat, ∀ (x3 : Int32) (x4 : Int32) (r_t_s : Nat → Int32) (H : Heap) (locs : List Loc) (ls : Array Slot), lp_LongTrainModel_partsAt_114 x1 kx_114 n x3 x4 r_t_s → Bd D A s.heap (wd_LongTrainModel_partsAt k a_t d_t i_t j_t r_t_s r_t_foremost) H locs → lv_has ls 5 [(0, .ref a_t), (1, .int x1), (3, .int x3), (4, .int x4)] → W p l e { frames := 0, cells := 0, slots := 0, locals := 0 } s m ([.ref a_t, .int n1] : List Value).toArray below meth c H locs 0 0 (Ev below (fun w => ∃ (r_t_s : Nat → Int32), w = (wd_LongTrainModel_partsAt k a_t d_t i_t j_t r_t_s r_t_foremost) ∧ Q r_t_s) D k A ([.ref a_t, .int n1] : List Value).toArray s 0 0) (F0 m 114 ls []) := by
  intro n
  induction n with
  | zero => intro x3 x4 r_t_s H locs ls hf; exact absurd hf (fun h => h)
  | succ n ih => exact bt_LongTrainModel_partsAt_114 F hr hlk hA hkx_114 ih

set_option maxRecDepth 100000 in
set_option maxHeartbeats 4000000 in
theorem c_LongTrainModel_partsAt (l : Launch) (D : va_G) (k : Nat → ClassId) (a_t : Nat) (d_t : Nat → Nat) (i_t : Nat → Int32) (j_t : Nat → Int64) (r_t_s : Nat → Int32) (r_t_foremost : Nat → Int32) (n1 : Int32) (Q : (Nat → Int32) → Prop)  (hf : w_LongTrainModel_partsAt r_t_s r_t_foremost n1 Q) : CtV l yX12_partsAt cX12_partsAt 5 none 0 0 0 0 D k [.ref a_t, .int n1] (wd_LongTrainModel_partsAt k a_t d_t i_t j_t r_t_s r_t_foremost) (fun w => ∃ (r_t_s : Nat → Int32), w = (wd_LongTrainModel_partsAt k a_t d_t i_t j_t r_t_s r_t_foremost) ∧ Q r_t_s) := by
  refine CtV.of (by decide) (Nat.le_of_ble_eq_true rfl) ?_
  intro p e s m below meth c A F hr hlk hnm hA hB ls hl
  have hx := F.x
  have hb := F.b
  unfold w_LongTrainModel_partsAt at hf
  replace hl : lv_has ls 5 [(0, .ref a_t), (1, .int n1)] := hl
  refine lv_sipush (v := 537) hx hb dX12_partsAt_0 (by decide) ?_
  refine lv_bipush (v := 22) hx hb dX12_partsAt_3 (by decide) ?_
  refine lv_aload_n hx hb dX12_partsAt_5 rfl (lv_at hl 0 rfl) ?_
  refine g_get (w := .ref (d_t 6)) F hB 0 rfl fl_RX12_33 rfl dX12_partsAt_6 ?_
  refine lv_sipush (v := 536) hx hb dX12_partsAt_9 (by decide) ?_
  refine g_iald F hB 1 rfl (vp_in_iff.mpr (by decide +kernel)) dX12_partsAt_12 ?_
  refine W.eq (g2 := F0 m 13 ls [.int (r_t_s 536), .int (22 : Int32), .int (537 : Int32)]) rfl ?_
  refine lv_imul hx hb dX12_partsAt_13 ?_
  refine lv_iadd hx hb dX12_partsAt_14 ?_
  refine lv_istore_n (lv' := [(2, .int ((537 : Int32) + ((22 : Int32) * (r_t_s 536)))), (0, .ref a_t), (1, .int n1)]) hx hb dX12_partsAt_15 rfl hl (by decide) rfl (fun ls hl => ?_)
  refine lv_aload_n hx hb dX12_partsAt_16 rfl (lv_at hl 1 rfl) ?_
  refine g_get (w := .ref (d_t 6)) F hB 0 rfl fl_RX12_33 rfl dX12_partsAt_17 ?_
  refine lv_iload_n hx hb dX12_partsAt_20 rfl (lv_at hl 0 rfl) ?_
  refine lv_aload_n hx hb dX12_partsAt_21 rfl (lv_at hl 1 rfl) ?_
  refine g_get (w := .ref (d_t 6)) F hB 0 rfl fl_RX12_33 rfl dX12_partsAt_22 ?_
  refine lv_sipush (v := 484) hx hb dX12_partsAt_25 (by decide) ?_
  refine g_iald F hB 1 rfl (vp_in_iff.mpr (by decide +kernel)) dX12_partsAt_28 ?_
  refine W.eq (g2 := F0 m 29 ls [.int (r_t_s 484), .int ((537 : Int32) + ((22 : Int32) * (r_t_s 536))), .ref (d_t 6)]) rfl ?_
  refine lv_iload_n hx hb dX12_partsAt_29 rfl (lv_at hl 2 rfl) ?_
  refine lv_isub hx hb dX12_partsAt_30 ?_
  obtain ⟨h_3, hf⟩ := hf
  refine g_iast F hB 1 rfl h_3 (wd_LongTrainModel_partsAt k a_t d_t i_t j_t (upd r_t_s (((537 : Int32) + ((22 : Int32) * (r_t_s 536)))).toNatClampNeg ((r_t_s 484) - n1)) r_t_foremost) rfl dX12_partsAt_31 (fun H locs hB => ?_)
  refine lv_aload_n hx hb dX12_partsAt_32 rfl (lv_at hl 1 rfl) ?_
  refine g_get (w := .ref (d_t 6)) F hB 0 rfl fl_RX12_33 rfl dX12_partsAt_33 ?_
  refine lv_iload_n hx hb dX12_partsAt_36 rfl (lv_at hl 0 rfl) ?_
  refine lv_iconst (v := 1) hx hb dX12_partsAt_37 (by decide) ?_
  refine lv_iadd hx hb dX12_partsAt_38 ?_
  refine lv_aload_n hx hb dX12_partsAt_39 rfl (lv_at hl 1 rfl) ?_
  refine g_get (w := .ref (d_t 23)) F hB 0 rfl fl_RX12_53 rfl dX12_partsAt_40 ?_
  refine lv_iload_n hx hb dX12_partsAt_43 rfl (lv_at hl 2 rfl) ?_
  obtain ⟨h_4, hf⟩ := hf
  refine g_iald F hB 2 rfl h_4 dX12_partsAt_44 ?_
  obtain ⟨h_5, hf⟩ := hf
  refine g_iast F hB 1 rfl h_5 (wd_LongTrainModel_partsAt k a_t d_t i_t j_t (upd (upd r_t_s (((537 : Int32) + ((22 : Int32) * (r_t_s 536)))).toNatClampNeg ((r_t_s 484) - n1)) ((((537 : Int32) + ((22 : Int32) * (r_t_s 536))) + (1 : Int32))).toNatClampNeg (r_t_foremost (n1).toNatClampNeg)) r_t_foremost) rfl dX12_partsAt_45 (fun H locs hB => ?_)
  refine lv_iload_n hx hb dX12_partsAt_46 rfl (lv_at hl 2 rfl) ?_
  refine lv_istore_n (lv' := [(3, .int n1), (2, .int ((537 : Int32) + ((22 : Int32) * (r_t_s 536)))), (0, .ref a_t), (1, .int n1)]) hx hb dX12_partsAt_47 rfl hl (by decide) rfl (fun ls hl => ?_)
  obtain ⟨n_26, hf⟩ := hf
  refine lt_LongTrainModel_partsAt_48 F hr hlk hA (fun r_t_s_10 H locs ls hf hB hl => ?_) n_26 _ _ _ _ _ hf hB (lv_sub hl [2, 3, 1, 0] rfl)
  refine lv_aload_n hx hb dX12_partsAt_88 rfl (lv_at hl 0 rfl) ?_
  refine g_get (w := .ref (d_t 6)) F hB 0 rfl fl_RX12_33 rfl dX12_partsAt_89 ?_
  refine lv_sipush (v := 536) hx hb dX12_partsAt_92 (by decide) ?_
  refine lv_dup2_11 hx hb dX12_partsAt_95 rfl rfl ?_
  refine g_iald F hB 1 rfl (vp_in_iff.mpr (by decide +kernel)) dX12_partsAt_96 ?_
  refine W.eq (g2 := F0 m 97 ls [.int (r_t_s_10 536), .int (536 : Int32), .ref (d_t 6)]) rfl ?_
  refine lv_iconst (v := 1) hx hb dX12_partsAt_97 (by decide) ?_
  refine lv_iadd hx hb dX12_partsAt_98 ?_
  refine g_iast F hB 1 rfl (vp_in_iff.mpr (by decide +kernel)) (wd_LongTrainModel_partsAt k a_t d_t i_t j_t (upd r_t_s_10 536 ((r_t_s_10 536) + (1 : Int32))) r_t_foremost) rfl dX12_partsAt_99 (fun H locs hB => ?_)
  refine lv_aload_n hx hb dX12_partsAt_100 rfl (lv_at hl 0 rfl) ?_
  refine g_get (w := .ref (d_t 6)) F hB 0 rfl fl_RX12_33 rfl dX12_partsAt_101 ?_
  refine lv_sipush (v := 484) hx hb dX12_partsAt_104 (by decide) ?_
  refine lv_iload_n hx hb dX12_partsAt_107 rfl (lv_at hl 1 rfl) ?_
  refine g_iast F hB 1 rfl (vp_in_iff.mpr (by decide +kernel)) (wd_LongTrainModel_partsAt k a_t d_t i_t j_t (upd (upd r_t_s_10 536 ((r_t_s_10 536) + (1 : Int32))) 484 n1) r_t_foremost) rfl dX12_partsAt_108 (fun H locs hB => ?_)
  refine lv_iconst (v := 0) hx hb dX12_partsAt_109 (by decide) ?_
  refine lv_istore_n (lv' := [(3, .int (0 : Int32)), (0, .ref a_t), (1, .int n1)]) hx hb dX12_partsAt_110 rfl hl (by decide) rfl (fun ls hl => ?_)
  refine lv_iconst (v := 0) hx hb dX12_partsAt_111 (by decide) ?_
  refine lv_istore (lv' := [(4, .int (0 : Int32)), (3, .int (0 : Int32)), (0, .ref a_t), (1, .int n1)]) hx hb dX12_partsAt_112 hl (by decide) rfl (fun ls hl => ?_)
  obtain ⟨n_25, hf⟩ := hf
  refine lt_LongTrainModel_partsAt_114 F hr hlk hA (fun x3_22 r_t_s_23 H locs ls hf hB hl => ?_) n_25 _ _ _ _ _ _ hf hB (lv_sub hl [2, 3, 1, 0] rfl)
  refine lv_aload_n hx hb dX12_partsAt_196 rfl (lv_at hl 0 rfl) ?_
  refine g_get (w := .ref (d_t 6)) F hB 0 rfl fl_RX12_33 rfl dX12_partsAt_197 ?_
  refine lv_sipush (v := 486) hx hb dX12_partsAt_200 (by decide) ?_
  refine lv_iload_n hx hb dX12_partsAt_203 rfl (lv_at hl 1 rfl) ?_
  refine g_iast F hB 1 rfl (vp_in_iff.mpr (by decide +kernel)) (wd_LongTrainModel_partsAt k a_t d_t i_t j_t (upd r_t_s_23 486 x3_22) r_t_foremost) rfl dX12_partsAt_204 (fun H locs hB => ?_)
  exact r_v F hr hlk hB ⟨_, rfl, hf⟩ dX12_partsAt_205

/-! LongTrainModel.move -/
set_option maxRecDepth 100000 in
set_option maxHeartbeats 4000000 in
theorem bt_LongTrainModel_move_93 {p : Program} {l : Launch} {e : Env} {s : State} {m : MethodId} {below : List Frame} {meth : Method} {c : Code} {A : Nat → Prop} {D : va_G} {k : Nat → ClassId} {a_t : Nat} {d_t : Nat → Nat} {i_t : Nat → Int32} {j_t : Nat → Int64} {r_t_s : Nat → Int32} {r_t_wagons : Nat → Int32} {r_t_foremost : Nat → Int32} {r_t_bears : Nat → Int32} {n1 : Int32} {Q : Int32 → (Nat → Int32) → (Nat → Int32) → (Nat → Int32) → (Nat → Int32) → (Nat → Int32) → Prop}  {x2 : Int32} {kx_93 : (Int32) → Prop} {kr_93 : (Int32) → Prop} (F : Fx p m c cX12_move 6 s ([.ref a_t, .int n1] : List Value).toArray RX12 D k) (hr : meth.sig.returnType = (some .int)) (hlk : meth.locks = false) (hA : ∀ q : Nat, s.heap.size ≤ q → A q) (hkx_93 : ∀ (x4 : Int32) (H : Heap) (locs : List Loc) (ls : Array Slot), kx_93 x4 → Bd D A s.heap (wd_LongTrainModel_move k a_t d_t i_t j_t r_t_s r_t_wagons r_t_foremost r_t_bears) H locs → lv_has ls 6 [(0, .ref a_t), (2, .int x2), (4, .int x4)] → W p l e { frames := 3, cells := 0, slots := 0, locals := 67 } s m ([.ref a_t, .int n1] : List Value).toArray below meth c H locs 0 0 (Ei below (fun r w => ∃ (i_t : Nat → Int32), ∃ (r_t_s : Nat → Int32), ∃ (r_t_wagons : Nat → Int32), ∃ (r_t_foremost : Nat → Int32), ∃ (r_t_bears : Nat → Int32), w = (wd_LongTrainModel_move k a_t d_t i_t j_t r_t_s r_t_wagons r_t_foremost r_t_bears) ∧ Q r i_t r_t_s r_t_wagons r_t_foremost r_t_bears) D k A ([.ref a_t, .int n1] : List Value).toArray s 0 0) (F0 m 166 ls [])) (hkr_93 : ∀ (x4 : Int32) (H : Heap) (locs : List Loc) (ls : Array Slot), kr_93 x4 → Bd D A s.heap (wd_LongTrainModel_move k a_t d_t i_t j_t r_t_s r_t_wagons r_t_foremost r_t_bears) H locs → lv_has ls 6 [(0, .ref a_t), (2, .int x2), (4, .int x4)] → W p l e { frames := 3, cells := 0, slots := 0, locals := 67 } s m ([.ref a_t, .int n1] : List Value).toArray below meth c H locs 0 0 (Ei below (fun r w => ∃ (i_t : Nat → Int32), ∃ (r_t_s : Nat → Int32), ∃ (r_t_wagons : Nat → Int32), ∃ (r_t_foremost : Nat → Int32), ∃ (r_t_bears : Nat → Int32), w = (wd_LongTrainModel_move k a_t d_t i_t j_t r_t_s r_t_wagons r_t_foremost r_t_bears) ∧ Q r i_t r_t_s r_t_wagons r_t_foremost r_t_bears) D k A ([.ref a_t, .int n1] : List Value).toArray s 0 0) (F0 m 93 ls [])) :
    ∀ (x4 : Int32) (H : Heap) (locs : List Loc) (ls : Array Slot), b_LongTrainModel_move_93 r_t_s r_t_wagons r_t_bears kx_93 kr_93 x4 → Bd D A s.heap (wd_LongTrainModel_move k a_t d_t i_t j_t r_t_s r_t_wagons r_t_foremost r_t_bears) H locs → lv_has ls 6 [(0, .ref a_t), (2, .int x2), (4, .int x4)] → W p l e { frames := 3, cells := 0, slots := 0, locals := 67 } s m ([.ref a_t, .int n1] : List Value).toArray below meth c H locs 0 0 (Ei below (fun r w => ∃ (i_t : Nat → Int32), ∃ (r_t_s : Nat → Int32), ∃ (r_t_wagons : Nat → Int32), ∃ (r_t_foremost : Nat → Int32), ∃ (r_t_bears : Nat → Int32), w = (wd_LongTrainModel_move k a_t d_t i_t j_t r_t_s r_t_wagons r_t_foremost r_t_bears) ∧ Q r i_t r_t_s r_t_wagons r_t_foremost r_t_bears) D k A ([.ref a_t, .int n1] : List Value).toArray s 0 0) (F0 m 93 ls []) := by
  have hx := F.x
  have hb := F.b
  intro x4 H locs ls hf hB hl
  unfold b_LongTrainModel_move_93 at hf
  refine lv_iload hx hb dX12_move_93 (lv_at hl 2 rfl) ?_
  refine lv_aload_n hx hb dX12_move_95 rfl (lv_at hl 0 rfl) ?_
  refine g_get (w := .ref (d_t 6)) F hB 0 rfl fl_RX12_33 rfl dX12_move_96 ?_
  refine lv_sipush (v := 484) hx hb dX12_move_99 (by decide) ?_
  refine g_iald F hB 1 rfl (vp_in_iff.mpr (by decide +kernel)) dX12_move_102 ?_
  refine W.eq (g2 := F0 m 103 ls [.int (r_t_s 484), .int x4]) rfl ?_
  refine lv_icmp_ge (tgt := 166) hx hb dX12_move_103 (by decide) (fun c_21 => ?_) (fun c_21 => ?_)
  · replace hf := hf.1 c_21
    exact hkx_93 _ _ _ _ hf hB (lv_sub hl [0, 1, 2] rfl)
  · replace hf := hf.2 c_21
    refine lv_aload_n hx hb dX12_move_106 rfl (lv_at hl 0 rfl) ?_
    refine g_get (w := .ref (d_t 24)) F hB 0 rfl fl_RX12_56 rfl dX12_move_107 ?_
    refine lv_iload hx hb dX12_move_110 (lv_at hl 2 rfl) ?_
    obtain ⟨h_12, hf⟩ := hf
    refine g_iald F hB 4 rfl h_12 dX12_move_112 ?_
    refine lv_aload_n hx hb dX12_move_113 rfl (lv_at hl 0 rfl) ?_
    refine lv_aload_n hx hb dX12_move_114 rfl (lv_at hl 0 rfl) ?_
    refine g_get (w := .ref (d_t 22)) F hB 0 rfl fl_RX12_50 rfl dX12_move_115 ?_
    refine lv_iload hx hb dX12_move_118 (lv_at hl 2 rfl) ?_
    obtain ⟨h_13, hf⟩ := hf
    refine g_iald F hB 2 rfl h_13 dX12_move_120 ?_
    refine k_vi (wr := [((d_t 22), ai k 20 r_t_wagons), ((d_t 23), ai k 20 r_t_foremost), ((d_t 24), ai k 20 r_t_bears)]) (rest := [.int (r_t_bears (x4).toNatClampNeg)]) F hA hB (c_LongTrainModel_strengthOf l D k a_t d_t i_t j_t r_t_s (r_t_wagons (x4).toNatClampNeg) _  hf) ml_RX12_312 mv_yX12_strengthOf [0, 1] [2, 3, 4] rfl rfl (by decide) (by decide) (by decide) 0 rfl rfl rfl hl.1 rfl (Nat.le_of_ble_eq_true rfl) ⟨Nat.le_of_ble_eq_true rfl, Nat.le_of_ble_eq_true rfl⟩ ⟨Nat.le_of_ble_eq_true rfl, Nat.le_of_ble_eq_true rfl⟩ dX12_move_121 (fun z_14 w1 H locs hq hB => ?_)
    obtain ⟨rfl, hf⟩ := hq
    replace hB : Bd D A s.heap (wd_LongTrainModel_move k a_t d_t i_t j_t r_t_s r_t_wagons r_t_foremost r_t_bears) H locs := hB.sub [3, 4, 0, 1, 2] (by decide) rfl
    refine lv_icmp_gt (tgt := 166) hx hb dX12_move_124 (by decide) (fun c_20 => ?_) (fun c_20 => ?_)
    · replace hf := hf.1 c_20
      exact hkx_93 _ _ _ _ hf hB (lv_sub hl [0, 1, 2] rfl)
    · replace hf := hf.2 c_20
      refine lv_aload_n hx hb dX12_move_127 rfl (lv_at hl 0 rfl) ?_
      refine g_get (w := .ref (d_t 6)) F hB 0 rfl fl_RX12_33 rfl dX12_move_128 ?_
      refine lv_sipush (v := 515) hx hb dX12_move_131 (by decide) ?_
      refine lv_iload hx hb dX12_move_134 (lv_at hl 2 rfl) ?_
      refine lv_iadd hx hb dX12_move_136 ?_
      obtain ⟨h_15, hf⟩ := hf
      refine g_iald F hB 1 rfl h_15 dX12_move_137 ?_
      refine lv_aload_n hx hb dX12_move_138 rfl (lv_at hl 0 rfl) ?_
      refine g_get (w := .ref (d_t 6)) F hB 0 rfl fl_RX12_33 rfl dX12_move_139 ?_
      refine lv_bipush (v := 8) hx hb dX12_move_142 (by decide) ?_
      refine g_iald F hB 1 rfl (vp_in_iff.mpr (by decide +kernel)) dX12_move_144 ?_
      refine W.eq (g2 := F0 m 145 ls [.int (r_t_s 8), .int (r_t_s (((515 : Int32) + x4)).toNatClampNeg)]) rfl ?_
      refine lv_aload_n hx hb dX12_move_145 rfl (lv_at hl 0 rfl) ?_
      refine lv_aload_n hx hb dX12_move_146 rfl (lv_at hl 0 rfl) ?_
      refine g_get (w := .ref (d_t 22)) F hB 0 rfl fl_RX12_50 rfl dX12_move_147 ?_
      refine lv_iload hx hb dX12_move_150 (lv_at hl 2 rfl) ?_
      obtain ⟨h_17, hf⟩ := hf
      refine g_iald F hB 2 rfl h_17 dX12_move_152 ?_
      refine k_vi (wr := [((d_t 22), ai k 20 r_t_wagons), ((d_t 23), ai k 20 r_t_foremost), ((d_t 24), ai k 20 r_t_bears)]) (rest := [.int (r_t_s 8), .int (r_t_s (((515 : Int32) + x4)).toNatClampNeg)]) F hA hB (c_LongTrainModel_strengthOf l D k a_t d_t i_t j_t r_t_s (r_t_wagons (x4).toNatClampNeg) _  hf) ml_RX12_312 mv_yX12_strengthOf [0, 1] [2, 3, 4] rfl rfl (by decide) (by decide) (by decide) 0 rfl rfl rfl hl.1 rfl (Nat.le_of_ble_eq_true rfl) ⟨Nat.le_of_ble_eq_true rfl, Nat.le_of_ble_eq_true rfl⟩ ⟨Nat.le_of_ble_eq_true rfl, Nat.le_of_ble_eq_true rfl⟩ dX12_move_153 (fun z_18 w1 H locs hq hB => ?_)
      obtain ⟨rfl, hf⟩ := hq
      replace hB : Bd D A s.heap (wd_LongTrainModel_move k a_t d_t i_t j_t r_t_s r_t_wagons r_t_foremost r_t_bears) H locs := hB.sub [3, 4, 0, 1, 2] (by decide) rfl
      refine lv_imul hx hb dX12_move_156 ?_
      refine lv_icmp_gt (tgt := 166) hx hb dX12_move_157 (by decide) (fun c_19 => ?_) (fun c_19 => ?_)
      · replace hf := hf.1 c_19
        exact hkx_93 _ _ _ _ hf hB (lv_sub hl [0, 1, 2] rfl)
      · replace hf := hf.2 c_19
        refine lv_iinc (v := (x4 + 1)) (lv' := [(4, .int (x4 + 1)), (0, .ref a_t), (2, .int x2)]) (k := 2) hx hb dX12_move_160 hl rfl rfl (by decide) rfl (fun ls hl => ?_)
        refine lv_goto (tgt := 93) hx hb dX12_move_163 (by decide) ?_
        exact hkr_93 _ _ _ _ hf hB (lv_sub hl [1, 2, 0] rfl)

set_option maxRecDepth 100000 in
set_option maxHeartbeats 4000000 in
theorem lt_LongTrainModel_move_93 {p : Program} {l : Launch} {e : Env} {s : State} {m : MethodId} {below : List Frame} {meth : Method} {c : Code} {A : Nat → Prop} {D : va_G} {k : Nat → ClassId} {a_t : Nat} {d_t : Nat → Nat} {i_t : Nat → Int32} {j_t : Nat → Int64} {r_t_s : Nat → Int32} {r_t_wagons : Nat → Int32} {r_t_foremost : Nat → Int32} {r_t_bears : Nat → Int32} {n1 : Int32} {Q : Int32 → (Nat → Int32) → (Nat → Int32) → (Nat → Int32) → (Nat → Int32) → (Nat → Int32) → Prop}  {x2 : Int32} {kx_93 : (Int32) → Prop} (F : Fx p m c cX12_move 6 s ([.ref a_t, .int n1] : List Value).toArray RX12 D k) (hr : meth.sig.returnType = (some .int)) (hlk : meth.locks = false) (hA : ∀ q : Nat, s.heap.size ≤ q → A q) (hkx_93 : ∀ (x4 : Int32) (H : Heap) (locs : List Loc) (ls : Array Slot), kx_93 x4 → Bd D A s.heap (wd_LongTrainModel_move k a_t d_t i_t j_t r_t_s r_t_wagons r_t_foremost r_t_bears) H locs → lv_has ls 6 [(0, .ref a_t), (2, .int x2), (4, .int x4)] → W p l e { frames := 3, cells := 0, slots := 0, locals := 67 } s m ([.ref a_t, .int n1] : List Value).toArray below meth c H locs 0 0 (Ei below (fun r w => ∃ (i_t : Nat → Int32), ∃ (r_t_s : Nat → Int32), ∃ (r_t_wagons : Nat → Int32), ∃ (r_t_foremost : Nat → Int32), ∃ (r_t_bears : Nat → Int32), w = (wd_LongTrainModel_move k a_t d_t i_t j_t r_t_s r_t_wagons r_t_foremost r_t_bears) ∧ Q r i_t r_t_s r_t_wagons r_t_foremost r_t_bears) D k A ([.ref a_t, .int n1] : List Value).toArray s 0 0) (F0 m 166 ls [])) :
    ∀ n : Nat, ∀ (x4 : Int32) (H : Heap) (locs : List Loc) (ls : Array Slot), lp_LongTrainModel_move_93 r_t_s r_t_wagons r_t_bears kx_93 n x4 → Bd D A s.heap (wd_LongTrainModel_move k a_t d_t i_t j_t r_t_s r_t_wagons r_t_foremost r_t_bears) H locs → lv_has ls 6 [(0, .ref a_t), (2, .int x2), (4, .int x4)] → W p l e { frames := 3, cells := 0, slots := 0, locals := 67 } s m ([.ref a_t, .int n1] : List Value).toArray below meth c H locs 0 0 (Ei below (fun r w => ∃ (i_t : Nat → Int32), ∃ (r_t_s : Nat → Int32), ∃ (r_t_wagons : Nat → Int32), ∃ (r_t_foremost : Nat → Int32), ∃ (r_t_bears : Nat → Int32), w = (wd_LongTrainModel_move k a_t d_t i_t j_t r_t_s r_t_wagons r_t_foremost r_t_bears) ∧ Q r i_t r_t_s r_t_wagons r_t_foremost r_t_bears) D k A ([.ref a_t, .int n1] : List Value).toArray s 0 0) (F0 m 93 ls []) := by
  intro n
  induction n with
  | zero => intro x4 H locs ls hf; exact absurd hf (fun h => h)
  | succ n ih => exact bt_LongTrainModel_move_93 F hr hlk hA hkx_93 ih

set_option maxRecDepth 100000 in
set_option maxHeartbeats 4000000 in
theorem bt_LongTrainModel_move_169 {p : Program} {l : Launch} {e : Env} {s : State} {m : MethodId} {below : List Frame} {meth : Method} {c : Code} {A : Nat → Prop} {D : va_G} {k : Nat → ClassId} {a_t : Nat} {d_t : Nat → Nat} {i_t : Nat → Int32} {j_t : Nat → Int64} {r_t_wagons : Nat → Int32} {r_t_foremost : Nat → Int32} {r_t_bears : Nat → Int32} {n1 : Int32} {Q : Int32 → (Nat → Int32) → (Nat → Int32) → (Nat → Int32) → (Nat → Int32) → (Nat → Int32) → Prop}  {x2 : Int32} {x4 : Int32} {kx_169 : (Nat → Int32) → Prop} {kr_169 : (Int32) → (Nat → Int32) → Prop} (F : Fx p m c cX12_move 6 s ([.ref a_t, .int n1] : List Value).toArray RX12 D k) (hr : meth.sig.returnType = (some .int)) (hlk : meth.locks = false) (hA : ∀ q : Nat, s.heap.size ≤ q → A q) (hkx_169 : ∀ (r_t_s : Nat → Int32) (H : Heap) (locs : List Loc) (ls : Array Slot), kx_169 r_t_s → Bd D A s.heap (wd_LongTrainModel_move k a_t d_t i_t j_t r_t_s r_t_wagons r_t_foremost r_t_bears) H locs → lv_has ls 6 [(0, .ref a_t), (2, .int x2), (4, .int x4)] → W p l e { frames := 3, cells := 0, slots := 0, locals := 67 } s m ([.ref a_t, .int n1] : List Value).toArray below meth c H locs 0 0 (Ei below (fun r w => ∃ (i_t : Nat → Int32), ∃ (r_t_s : Nat → Int32), ∃ (r_t_wagons : Nat → Int32), ∃ (r_t_foremost : Nat → Int32), ∃ (r_t_bears : Nat → Int32), w = (wd_LongTrainModel_move k a_t d_t i_t j_t r_t_s r_t_wagons r_t_foremost r_t_bears) ∧ Q r i_t r_t_s r_t_wagons r_t_foremost r_t_bears) D k A ([.ref a_t, .int n1] : List Value).toArray s 0 0) (F0 m 217 ls [])) (hkr_169 : ∀ (x5 : Int32) (r_t_s : Nat → Int32) (H : Heap) (locs : List Loc) (ls : Array Slot), kr_169 x5 r_t_s → Bd D A s.heap (wd_LongTrainModel_move k a_t d_t i_t j_t r_t_s r_t_wagons r_t_foremost r_t_bears) H locs → lv_has ls 6 [(0, .ref a_t), (2, .int x2), (4, .int x4), (5, .int x5)] → W p l e { frames := 3, cells := 0, slots := 0, locals := 67 } s m ([.ref a_t, .int n1] : List Value).toArray below meth c H locs 0 0 (Ei below (fun r w => ∃ (i_t : Nat → Int32), ∃ (r_t_s : Nat → Int32), ∃ (r_t_wagons : Nat → Int32), ∃ (r_t_foremost : Nat → Int32), ∃ (r_t_bears : Nat → Int32), w = (wd_LongTrainModel_move k a_t d_t i_t j_t r_t_s r_t_wagons r_t_foremost r_t_bears) ∧ Q r i_t r_t_s r_t_wagons r_t_foremost r_t_bears) D k A ([.ref a_t, .int n1] : List Value).toArray s 0 0) (F0 m 169 ls [])) :
    ∀ (x5 : Int32) (r_t_s : Nat → Int32) (H : Heap) (locs : List Loc) (ls : Array Slot), b_LongTrainModel_move_169 r_t_bears x4 kx_169 kr_169 x5 r_t_s → Bd D A s.heap (wd_LongTrainModel_move k a_t d_t i_t j_t r_t_s r_t_wagons r_t_foremost r_t_bears) H locs → lv_has ls 6 [(0, .ref a_t), (2, .int x2), (4, .int x4), (5, .int x5)] → W p l e { frames := 3, cells := 0, slots := 0, locals := 67 } s m ([.ref a_t, .int n1] : List Value).toArray below meth c H locs 0 0 (Ei below (fun r w => ∃ (i_t : Nat → Int32), ∃ (r_t_s : Nat → Int32), ∃ (r_t_wagons : Nat → Int32), ∃ (r_t_foremost : Nat → Int32), ∃ (r_t_bears : Nat → Int32), w = (wd_LongTrainModel_move k a_t d_t i_t j_t r_t_s r_t_wagons r_t_foremost r_t_bears) ∧ Q r i_t r_t_s r_t_wagons r_t_foremost r_t_bears) D k A ([.ref a_t, .int n1] : List Value).toArray s 0 0) (F0 m 169 ls []) := by
  have hx := F.x
  have hb := F.b
  intro x5 r_t_s H locs ls hf hB hl
  unfold b_LongTrainModel_move_169 at hf
  refine lv_iload hx hb dX12_move_169 (lv_at hl 3 rfl) ?_
  refine lv_iload hx hb dX12_move_171 (lv_at hl 2 rfl) ?_
  refine lv_icmp_ge (tgt := 217) hx hb dX12_move_173 (by decide) (fun c_29 => ?_) (fun c_29 => ?_)
  · replace hf := hf.1 c_29
    exact hkx_169 _ _ _ _ hf hB (lv_sub hl [0, 1, 2] rfl)
  · replace hf := hf.2 c_29
    refine lv_aload_n hx hb dX12_move_176 rfl (lv_at hl 0 rfl) ?_
    refine g_get (w := .ref (d_t 6)) F hB 0 rfl fl_RX12_33 rfl dX12_move_177 ?_
    refine lv_sipush (v := 515) hx hb dX12_move_180 (by decide) ?_
    refine lv_iload hx hb dX12_move_183 (lv_at hl 3 rfl) ?_
    refine lv_iadd hx hb dX12_move_185 ?_
    refine lv_dup2_11 hx hb dX12_move_186 rfl rfl ?_
    obtain ⟨h_23, hf⟩ := hf
    refine g_iald F hB 1 rfl h_23 dX12_move_187 ?_
    refine lv_aload_n hx hb dX12_move_188 rfl (lv_at hl 0 rfl) ?_
    refine g_get (w := .ref (d_t 24)) F hB 0 rfl fl_RX12_56 rfl dX12_move_189 ?_
    refine lv_iload hx hb dX12_move_192 (lv_at hl 3 rfl) ?_
    obtain ⟨h_24, hf⟩ := hf
    refine g_iald F hB 4 rfl h_24 dX12_move_194 ?_
    refine lv_if_le (tgt := 208) hx hb dX12_move_195 (by decide) (fun c_28 => ?_) (fun c_28 => ?_)
    · replace hf := hf.1 c_28
      refine lv_iconst (v := 0) hx hb dX12_move_208 (by decide) ?_
      refine lv_iadd hx hb dX12_move_209 ?_
      obtain ⟨h_25, hf⟩ := hf
      refine g_iast F hB 1 rfl h_25 (wd_LongTrainModel_move k a_t d_t i_t j_t (upd r_t_s (((515 : Int32) + x5)).toNatClampNeg ((r_t_s (((515 : Int32) + x5)).toNatClampNeg) + (0 : Int32))) r_t_wagons r_t_foremost r_t_bears) rfl dX12_move_210 (fun H locs hB => ?_)
      refine lv_iinc (v := (x5 + 1)) (lv' := [(5, .int (x5 + 1)), (0, .ref a_t), (2, .int x2), (4, .int x4)]) (k := 3) hx hb dX12_move_211 hl rfl rfl (by decide) rfl (fun ls hl => ?_)
      refine lv_goto (tgt := 169) hx hb dX12_move_214 (by decide) ?_
      exact hkr_169 _ _ _ _ _ hf hB (lv_sub hl [1, 2, 3, 0] rfl)
    · replace hf := hf.2 c_28
      refine lv_aload_n hx hb dX12_move_198 rfl (lv_at hl 0 rfl) ?_
      refine g_get (w := .ref (d_t 24)) F hB 0 rfl fl_RX12_56 rfl dX12_move_199 ?_
      refine lv_iload hx hb dX12_move_202 (lv_at hl 3 rfl) ?_
      obtain ⟨h_26, hf⟩ := hf
      refine g_iald F hB 4 rfl h_26 dX12_move_204 ?_
      refine lv_goto (tgt := 209) hx hb dX12_move_205 (by decide) ?_
      refine lv_iadd hx hb dX12_move_209 ?_
      obtain ⟨h_27, hf⟩ := hf
      refine g_iast F hB 1 rfl h_27 (wd_LongTrainModel_move k a_t d_t i_t j_t (upd r_t_s (((515 : Int32) + x5)).toNatClampNeg ((r_t_s (((515 : Int32) + x5)).toNatClampNeg) + (r_t_bears (x5).toNatClampNeg))) r_t_wagons r_t_foremost r_t_bears) rfl dX12_move_210 (fun H locs hB => ?_)
      refine lv_iinc (v := (x5 + 1)) (lv' := [(5, .int (x5 + 1)), (0, .ref a_t), (2, .int x2), (4, .int x4)]) (k := 3) hx hb dX12_move_211 hl rfl rfl (by decide) rfl (fun ls hl => ?_)
      refine lv_goto (tgt := 169) hx hb dX12_move_214 (by decide) ?_
      exact hkr_169 _ _ _ _ _ hf hB (lv_sub hl [1, 2, 3, 0] rfl)

set_option maxRecDepth 100000 in
set_option maxHeartbeats 4000000 in
theorem lt_LongTrainModel_move_169 {p : Program} {l : Launch} {e : Env} {s : State} {m : MethodId} {below : List Frame} {meth : Method} {c : Code} {A : Nat → Prop} {D : va_G} {k : Nat → ClassId} {a_t : Nat} {d_t : Nat → Nat} {i_t : Nat → Int32} {j_t : Nat → Int64} {r_t_wagons : Nat → Int32} {r_t_foremost : Nat → Int32} {r_t_bears : Nat → Int32} {n1 : Int32} {Q : Int32 → (Nat → Int32) → (Nat → Int32) → (Nat → Int32) → (Nat → Int32) → (Nat → Int32) → Prop}  {x2 : Int32} {x4 : Int32} {kx_169 : (Nat → Int32) → Prop} (F : Fx p m c cX12_move 6 s ([.ref a_t, .int n1] : List Value).toArray RX12 D k) (hr : meth.sig.returnType = (some .int)) (hlk : meth.locks = false) (hA : ∀ q : Nat, s.heap.size ≤ q → A q) (hkx_169 : ∀ (r_t_s : Nat → Int32) (H : Heap) (locs : List Loc) (ls : Array Slot), kx_169 r_t_s → Bd D A s.heap (wd_LongTrainModel_move k a_t d_t i_t j_t r_t_s r_t_wagons r_t_foremost r_t_bears) H locs → lv_has ls 6 [(0, .ref a_t), (2, .int x2), (4, .int x4)] → W p l e { frames := 3, cells := 0, slots := 0, locals := 67 } s m ([.ref a_t, .int n1] : List Value).toArray below meth c H locs 0 0 (Ei below (fun r w => ∃ (i_t : Nat → Int32), ∃ (r_t_s : Nat → Int32), ∃ (r_t_wagons : Nat → Int32), ∃ (r_t_foremost : Nat → Int32), ∃ (r_t_bears : Nat → Int32), w = (wd_LongTrainModel_move k a_t d_t i_t j_t r_t_s r_t_wagons r_t_foremost r_t_bears) ∧ Q r i_t r_t_s r_t_wagons r_t_foremost r_t_bears) D k A ([.ref a_t, .int n1] : List Value).toArray s 0 0) (F0 m 217 ls [])) :
    ∀ n : Nat, ∀ (x5 : Int32) (r_t_s : Nat → Int32) (H : Heap) (locs : List Loc) (ls : Array Slot), lp_LongTrainModel_move_169 r_t_bears x4 kx_169 n x5 r_t_s → Bd D A s.heap (wd_LongTrainModel_move k a_t d_t i_t j_t r_t_s r_t_wagons r_t_foremost r_t_bears) H locs → lv_has ls 6 [(0, .ref a_t), (2, .int x2), (4, .int x4), (5, .int x5)] → W p l e { frames := 3, cells := 0, slots := 0, locals := 67 } s m ([.ref a_t, .int n1] : List Value).toArray below meth c H locs 0 0 (Ei below (fun r w => ∃ (i_t : Nat → Int32), ∃ (r_t_s : Nat → Int32), ∃ (r_t_wagons : Nat → Int32), ∃ (r_t_foremost : Nat → Int32), ∃ (r_t_bears : Nat → Int32), w = (wd_LongTrainModel_move k a_t d_t i_t j_t r_t_s r_t_wagons r_t_foremost r_t_bears) ∧ Q r i_t r_t_s r_t_wagons r_t_foremost r_t_bears) D k A ([.ref a_t, .int n1] : List Value).toArray s 0 0) (F0 m 169 ls []) := by
  intro n
  induction n with
  | zero => intro x5 r_t_s H locs ls hf; exact absurd hf (fun h => h)
  | succ n ih => exact bt_LongTrainModel_move_169 F hr hlk hA hkx_169 ih

set_option maxRecDepth 100000 in
set_option maxHeartbeats 4000000 in
theorem jt_LongTrainModel_move_236 {p : Program} {l : Launch} {e : Env} {s : State} {m : MethodId} {below : List Frame} {meth : Method} {c : Code} {A : Nat → Prop} {D : va_G} {k : Nat → ClassId} {a_t : Nat} {d_t : Nat → Nat} {j_t : Nat → Int64} {n1 : Int32} {Q : Int32 → (Nat → Int32) → (Nat → Int32) → (Nat → Int32) → (Nat → Int32) → (Nat → Int32) → Prop}  (F : Fx p m c cX12_move 6 s ([.ref a_t, .int n1] : List Value).toArray RX12 D k) (hr : meth.sig.returnType = (some .int)) (hlk : meth.locks = false) (hA : ∀ q : Nat, s.heap.size ≤ q → A q) :
    ∀ (i_t : Nat → Int32) (r_t_s : Nat → Int32) (r_t_wagons : Nat → Int32) (r_t_foremost : Nat → Int32) (r_t_bears : Nat → Int32) (x2 : Int32) (H : Heap) (locs : List Loc) (ls : Array Slot), j_LongTrainModel_move_236 i_t r_t_s r_t_wagons r_t_foremost r_t_bears x2 Q → Bd D A s.heap (wd_LongTrainModel_move k a_t d_t i_t j_t r_t_s r_t_wagons r_t_foremost r_t_bears) H locs → lv_has ls 6 [(0, .ref a_t), (2, .int x2)] → W p l e { frames := 3, cells := 0, slots := 0, locals := 67 } s m ([.ref a_t, .int n1] : List Value).toArray below meth c H locs 0 0 (Ei below (fun r w => ∃ (i_t : Nat → Int32), ∃ (r_t_s : Nat → Int32), ∃ (r_t_wagons : Nat → Int32), ∃ (r_t_foremost : Nat → Int32), ∃ (r_t_bears : Nat → Int32), w = (wd_LongTrainModel_move k a_t d_t i_t j_t r_t_s r_t_wagons r_t_foremost r_t_bears) ∧ Q r i_t r_t_s r_t_wagons r_t_foremost r_t_bears) D k A ([.ref a_t, .int n1] : List Value).toArray s 0 0) (F0 m 236 ls []) := by
  have hx := F.x
  have hb := F.b
  intro i_t r_t_s r_t_wagons r_t_foremost r_t_bears x2 H locs ls hf hB hl
  unfold j_LongTrainModel_move_236 at hf
  refine lv_aload_n hx hb dX12_move_236 rfl (lv_at hl 0 rfl) ?_
  refine lv_iload_n hx hb dX12_move_237 rfl (lv_at hl 1 rfl) ?_
  refine k_vi (wr := [((d_t 22), ai k 20 r_t_wagons), ((d_t 23), ai k 20 r_t_foremost), ((d_t 24), ai k 20 r_t_bears)]) (rest := []) F hA hB (c_LongTrainModel_haltOf l D k a_t d_t i_t j_t r_t_s x2 _  hf) ml_RX12_332 mv_yX12_haltOf [0, 1] [2, 3, 4] rfl rfl (by decide) (by decide) (by decide) 0 rfl rfl rfl hl.1 rfl (Nat.le_of_ble_eq_true rfl) ⟨Nat.le_of_ble_eq_true rfl, Nat.le_of_ble_eq_true rfl⟩ ⟨Nat.le_of_ble_eq_true rfl, Nat.le_of_ble_eq_true rfl⟩ dX12_move_238 (fun z_32 w1 H locs hq hB => ?_)
  obtain ⟨rfl, hf⟩ := hq
  replace hB : Bd D A s.heap (wd_LongTrainModel_move k a_t d_t i_t j_t r_t_s r_t_wagons r_t_foremost r_t_bears) H locs := hB.sub [3, 4, 0, 1, 2] (by decide) rfl
  refine lv_istore (lv' := [(5, .int z_32), (0, .ref a_t), (2, .int x2)]) hx hb dX12_move_241 hl (by decide) rfl (fun ls hl => ?_)
  refine lv_iload hx hb dX12_move_243 (lv_at hl 0 rfl) ?_
  refine lv_if_lt (tgt := 277) hx hb dX12_move_245 (by decide) (fun c_48 => ?_) (fun c_48 => ?_)
  · replace hf := hf.1 c_48
    refine lv_iconst (v := 0) hx hb dX12_move_277 (by decide) ?_
    exact r_i F hr hlk hB ⟨_, _, _, _, _, rfl, hf⟩ dX12_move_278
  · replace hf := hf.2 c_48
    refine lv_aload_n hx hb dX12_move_248 rfl (lv_at hl 1 rfl) ?_
    refine g_get (w := .ref (d_t 6)) F hB 0 rfl fl_RX12_33 rfl dX12_move_249 ?_
    refine lv_sipush (v := 484) hx hb dX12_move_252 (by decide) ?_
    refine g_iald F hB 1 rfl (vp_in_iff.mpr (by decide +kernel)) dX12_move_255 ?_
    refine W.eq (g2 := F0 m 256 ls [.int (r_t_s 484)]) rfl ?_
    refine lv_bipush (v := 20) hx hb dX12_move_256 (by decide) ?_
    refine lv_icmp_eq (tgt := 277) hx hb dX12_move_258 (by decide) (fun c_47 => ?_) (fun c_47 => ?_)
    · replace hf := hf.1 c_47
      refine lv_iconst (v := 0) hx hb dX12_move_277 (by decide) ?_
      exact r_i F hr hlk hB ⟨_, _, _, _, _, rfl, hf⟩ dX12_move_278
    · replace hf := hf.2 c_47
      refine lv_aload_n hx hb dX12_move_261 rfl (lv_at hl 1 rfl) ?_
      refine g_get (w := .ref (d_t 6)) F hB 0 rfl fl_RX12_33 rfl dX12_move_262 ?_
      refine lv_sipush (v := 535) hx hb dX12_move_265 (by decide) ?_
      refine g_iald F hB 1 rfl (vp_in_iff.mpr (by decide +kernel)) dX12_move_268 ?_
      refine W.eq (g2 := F0 m 269 ls [.int (r_t_s 535)]) rfl ?_
      refine lv_iload hx hb dX12_move_269 (lv_at hl 0 rfl) ?_
      refine k_si (wr := [(a_t, ob 12 (rfd d_t) i_t j_t), ((d_t 6), ai k 1068 r_t_s), ((d_t 22), ai k 20 r_t_wagons), ((d_t 23), ai k 20 r_t_foremost), ((d_t 24), ai k 20 r_t_bears)]) (rest := []) F hA hB (c_LongTrainModel_has l D k (r_t_s 535) z_32 _  hf) ml_RX12_229 ms_yX12_has [] [0, 1, 2, 3, 4] rfl rfl (by decide) (by decide) (by decide) rfl hl.1 rfl (Nat.le_of_ble_eq_true rfl) ⟨Nat.le_of_ble_eq_true rfl, Nat.le_of_ble_eq_true rfl⟩ ⟨Nat.le_of_ble_eq_true rfl, Nat.le_of_ble_eq_true rfl⟩ dX12_move_271 (fun z_35 w1 H locs hq hB => ?_)
      obtain ⟨h_36, rfl, hf⟩ := hq
      replace hB : Bd D A s.heap (wd_LongTrainModel_move k a_t d_t i_t j_t r_t_s r_t_wagons r_t_foremost r_t_bears) H locs := hB.sub [0, 1, 2, 3, 4] (by decide) rfl
      refine lv_if_eq (tgt := 279) hx hb dX12_move_274 (by decide) (fun c_46 => ?_) (fun c_46 => ?_)
      · replace hf := hf.1 c_46
        refine lv_aload_n hx hb dX12_move_279 rfl (lv_at hl 1 rfl) ?_
        refine g_get (w := .ref (d_t 6)) F hB 0 rfl fl_RX12_33 rfl dX12_move_280 ?_
        refine lv_sipush (v := 535) hx hb dX12_move_283 (by decide) ?_
        refine lv_dup2_11 hx hb dX12_move_286 rfl rfl ?_
        refine g_iald F hB 1 rfl (vp_in_iff.mpr (by decide +kernel)) dX12_move_287 ?_
        refine W.eq (g2 := F0 m 288 ls [.int (r_t_s 535), .int (535 : Int32), .ref (d_t 6)]) rfl ?_
        refine lv_iconst (v := 1) hx hb dX12_move_288 (by decide) ?_
        refine lv_iload hx hb dX12_move_289 (lv_at hl 0 rfl) ?_
        refine lv_ishl hx hb dX12_move_291 ?_
        refine lv_ior hx hb dX12_move_292 ?_
        refine g_iast F hB 1 rfl (vp_in_iff.mpr (by decide +kernel)) (wd_LongTrainModel_move k a_t d_t i_t j_t (upd r_t_s 535 ((r_t_s 535) ||| ((1 : Int32) <<< (z_32 &&& 31)))) r_t_wagons r_t_foremost r_t_bears) rfl dX12_move_293 (fun H locs hB => ?_)
        refine lv_aload_n hx hb dX12_move_294 rfl (lv_at hl 1 rfl) ?_
        refine g_get (w := .ref (d_t 6)) F hB 0 rfl fl_RX12_33 rfl dX12_move_295 ?_
        refine lv_sipush (v := 495) hx hb dX12_move_298 (by decide) ?_
        refine lv_aload_n hx hb dX12_move_301 rfl (lv_at hl 1 rfl) ?_
        refine g_get (w := .ref (d_t 6)) F hB 0 rfl fl_RX12_33 rfl dX12_move_302 ?_
        refine lv_sipush (v := 484) hx hb dX12_move_305 (by decide) ?_
        refine g_iald F hB 1 rfl (vp_in_iff.mpr (by decide +kernel)) dX12_move_308 ?_
        refine W.eq (g2 := F0 m 309 ls [.int ((upd r_t_s 535 ((r_t_s 535) ||| ((1 : Int32) <<< (z_32 &&& 31)))) 484), .int (495 : Int32), .ref (d_t 6)]) rfl ?_
        refine lv_iadd hx hb dX12_move_309 ?_
        refine lv_aload_n hx hb dX12_move_310 rfl (lv_at hl 1 rfl) ?_
        refine lv_iload hx hb dX12_move_311 (lv_at hl 0 rfl) ?_
        refine k_vi (wr := [((d_t 22), ai k 20 r_t_wagons), ((d_t 23), ai k 20 r_t_foremost), ((d_t 24), ai k 20 r_t_bears)]) (rest := [.int ((495 : Int32) + ((upd r_t_s 535 ((r_t_s 535) ||| ((1 : Int32) <<< (z_32 &&& 31)))) 484)), .ref (d_t 6)]) F hA hB (c_LongTrainModel_addsOf l D k a_t d_t i_t j_t (upd r_t_s 535 ((r_t_s 535) ||| ((1 : Int32) <<< (z_32 &&& 31)))) z_32 _  hf) ml_RX12_264 mv_yX12_addsOf [0, 1] [2, 3, 4] rfl rfl (by decide) (by decide) (by decide) 0 rfl rfl rfl hl.1 rfl (Nat.le_of_ble_eq_true rfl) ⟨Nat.le_of_ble_eq_true rfl, Nat.le_of_ble_eq_true rfl⟩ ⟨Nat.le_of_ble_eq_true rfl, Nat.le_of_ble_eq_true rfl⟩ dX12_move_313 (fun z_40 w1 H locs hq hB => ?_)
        obtain ⟨rfl, hf⟩ := hq
        replace hB : Bd D A s.heap (wd_LongTrainModel_move k a_t d_t i_t j_t (upd r_t_s 535 ((r_t_s 535) ||| ((1 : Int32) <<< (z_32 &&& 31)))) r_t_wagons r_t_foremost r_t_bears) H locs := hB.sub [3, 4, 0, 1, 2] (by decide) rfl
        obtain ⟨h_41, hf⟩ := hf
        refine g_iast F hB 1 rfl h_41 (wd_LongTrainModel_move k a_t d_t i_t j_t (upd (upd r_t_s 535 ((r_t_s 535) ||| ((1 : Int32) <<< (z_32 &&& 31)))) (((495 : Int32) + ((upd r_t_s 535 ((r_t_s 535) ||| ((1 : Int32) <<< (z_32 &&& 31)))) 484))).toNatClampNeg z_40) r_t_wagons r_t_foremost r_t_bears) rfl dX12_move_316 (fun H locs hB => ?_)
        refine lv_aload_n hx hb dX12_move_317 rfl (lv_at hl 1 rfl) ?_
        refine g_get (w := .ref (d_t 6)) F hB 0 rfl fl_RX12_33 rfl dX12_move_318 ?_
        refine lv_sipush (v := 515) hx hb dX12_move_321 (by decide) ?_
        refine lv_aload_n hx hb dX12_move_324 rfl (lv_at hl 1 rfl) ?_
        refine g_get (w := .ref (d_t 6)) F hB 0 rfl fl_RX12_33 rfl dX12_move_325 ?_
        refine lv_sipush (v := 484) hx hb dX12_move_328 (by decide) ?_
        refine g_iald F hB 1 rfl (vp_in_iff.mpr (by decide +kernel)) dX12_move_331 ?_
        refine W.eq (g2 := F0 m 332 ls [.int ((upd (upd r_t_s 535 ((r_t_s 535) ||| ((1 : Int32) <<< (z_32 &&& 31)))) (((495 : Int32) + ((upd r_t_s 535 ((r_t_s 535) ||| ((1 : Int32) <<< (z_32 &&& 31)))) 484))).toNatClampNeg z_40) 484), .int (515 : Int32), .ref (d_t 6)]) rfl ?_
        refine lv_iadd hx hb dX12_move_332 ?_
        refine lv_iconst (v := 0) hx hb dX12_move_333 (by decide) ?_
        obtain ⟨h_43, hf⟩ := hf
        refine g_iast F hB 1 rfl h_43 (wd_LongTrainModel_move k a_t d_t i_t j_t (upd (upd (upd r_t_s 535 ((r_t_s 535) ||| ((1 : Int32) <<< (z_32 &&& 31)))) (((495 : Int32) + ((upd r_t_s 535 ((r_t_s 535) ||| ((1 : Int32) <<< (z_32 &&& 31)))) 484))).toNatClampNeg z_40) (((515 : Int32) + ((upd (upd r_t_s 535 ((r_t_s 535) ||| ((1 : Int32) <<< (z_32 &&& 31)))) (((495 : Int32) + ((upd r_t_s 535 ((r_t_s 535) ||| ((1 : Int32) <<< (z_32 &&& 31)))) 484))).toNatClampNeg z_40) 484))).toNatClampNeg (0 : Int32)) r_t_wagons r_t_foremost r_t_bears) rfl dX12_move_334 (fun H locs hB => ?_)
        refine lv_aload_n hx hb dX12_move_335 rfl (lv_at hl 1 rfl) ?_
        refine g_get (w := .ref (d_t 6)) F hB 0 rfl fl_RX12_33 rfl dX12_move_336 ?_
        refine lv_sipush (v := 484) hx hb dX12_move_339 (by decide) ?_
        refine lv_dup2_11 hx hb dX12_move_342 rfl rfl ?_
        refine g_iald F hB 1 rfl (vp_in_iff.mpr (by decide +kernel)) dX12_move_343 ?_
        refine W.eq (g2 := F0 m 344 ls [.int ((upd (upd (upd r_t_s 535 ((r_t_s 535) ||| ((1 : Int32) <<< (z_32 &&& 31)))) (((495 : Int32) + ((upd r_t_s 535 ((r_t_s 535) ||| ((1 : Int32) <<< (z_32 &&& 31)))) 484))).toNatClampNeg z_40) (((515 : Int32) + ((upd (upd r_t_s 535 ((r_t_s 535) ||| ((1 : Int32) <<< (z_32 &&& 31)))) (((495 : Int32) + ((upd r_t_s 535 ((r_t_s 535) ||| ((1 : Int32) <<< (z_32 &&& 31)))) 484))).toNatClampNeg z_40) 484))).toNatClampNeg (0 : Int32)) 484), .int (484 : Int32), .ref (d_t 6)]) rfl ?_
        refine lv_iconst (v := 1) hx hb dX12_move_344 (by decide) ?_
        refine lv_iadd hx hb dX12_move_345 ?_
        refine g_iast F hB 1 rfl (vp_in_iff.mpr (by decide +kernel)) (wd_LongTrainModel_move k a_t d_t i_t j_t (upd (upd (upd (upd r_t_s 535 ((r_t_s 535) ||| ((1 : Int32) <<< (z_32 &&& 31)))) (((495 : Int32) + ((upd r_t_s 535 ((r_t_s 535) ||| ((1 : Int32) <<< (z_32 &&& 31)))) 484))).toNatClampNeg z_40) (((515 : Int32) + ((upd (upd r_t_s 535 ((r_t_s 535) ||| ((1 : Int32) <<< (z_32 &&& 31)))) (((495 : Int32) + ((upd r_t_s 535 ((r_t_s 535) ||| ((1 : Int32) <<< (z_32 &&& 31)))) 484))).toNatClampNeg z_40) 484))).toNatClampNeg (0 : Int32)) 484 (((upd (upd (upd r_t_s 535 ((r_t_s 535) ||| ((1 : Int32) <<< (z_32 &&& 31)))) (((495 : Int32) + ((upd r_t_s 535 ((r_t_s 535) ||| ((1 : Int32) <<< (z_32 &&& 31)))) 484))).toNatClampNeg z_40) (((515 : Int32) + ((upd (upd r_t_s 535 ((r_t_s 535) ||| ((1 : Int32) <<< (z_32 &&& 31)))) (((495 : Int32) + ((upd r_t_s 535 ((r_t_s 535) ||| ((1 : Int32) <<< (z_32 &&& 31)))) 484))).toNatClampNeg z_40) 484))).toNatClampNeg (0 : Int32)) 484) + (1 : Int32))) r_t_wagons r_t_foremost r_t_bears) rfl dX12_move_346 (fun H locs hB => ?_)
        refine lv_iconst (v := 0) hx hb dX12_move_347 (by decide) ?_
        exact r_i F hr hlk hB ⟨_, _, _, _, _, rfl, hf⟩ dX12_move_348
      · replace hf := hf.2 c_46
        refine lv_iconst (v := 0) hx hb dX12_move_277 (by decide) ?_
        exact r_i F hr hlk hB ⟨_, _, _, _, _, rfl, hf⟩ dX12_move_278

set_option maxRecDepth 100000 in
set_option maxHeartbeats 4000000 in
theorem jt_LongTrainModel_move_166 {p : Program} {l : Launch} {e : Env} {s : State} {m : MethodId} {below : List Frame} {meth : Method} {c : Code} {A : Nat → Prop} {D : va_G} {k : Nat → ClassId} {a_t : Nat} {d_t : Nat → Nat} {j_t : Nat → Int64} {n1 : Int32} {Q : Int32 → (Nat → Int32) → (Nat → Int32) → (Nat → Int32) → (Nat → Int32) → (Nat → Int32) → Prop}  (F : Fx p m c cX12_move 6 s ([.ref a_t, .int n1] : List Value).toArray RX12 D k) (hr : meth.sig.returnType = (some .int)) (hlk : meth.locks = false) (hA : ∀ q : Nat, s.heap.size ≤ q → A q) :
    ∀ (i_t : Nat → Int32) (r_t_s : Nat → Int32) (r_t_wagons : Nat → Int32) (r_t_foremost : Nat → Int32) (r_t_bears : Nat → Int32) (x2 : Int32) (x4 : Int32) (H : Heap) (locs : List Loc) (ls : Array Slot), j_LongTrainModel_move_166 i_t r_t_s r_t_wagons r_t_foremost r_t_bears x2 x4 Q → Bd D A s.heap (wd_LongTrainModel_move k a_t d_t i_t j_t r_t_s r_t_wagons r_t_foremost r_t_bears) H locs → lv_has ls 6 [(0, .ref a_t), (2, .int x2), (4, .int x4)] → W p l e { frames := 3, cells := 0, slots := 0, locals := 67 } s m ([.ref a_t, .int n1] : List Value).toArray below meth c H locs 0 0 (Ei below (fun r w => ∃ (i_t : Nat → Int32), ∃ (r_t_s : Nat → Int32), ∃ (r_t_wagons : Nat → Int32), ∃ (r_t_foremost : Nat → Int32), ∃ (r_t_bears : Nat → Int32), w = (wd_LongTrainModel_move k a_t d_t i_t j_t r_t_s r_t_wagons r_t_foremost r_t_bears) ∧ Q r i_t r_t_s r_t_wagons r_t_foremost r_t_bears) D k A ([.ref a_t, .int n1] : List Value).toArray s 0 0) (F0 m 166 ls []) := by
  have hx := F.x
  have hb := F.b
  intro i_t r_t_s r_t_wagons r_t_foremost r_t_bears x2 x4 H locs ls hf hB hl
  unfold j_LongTrainModel_move_166 at hf
  refine lv_iconst (v := 0) hx hb dX12_move_166 (by decide) ?_
  refine lv_istore (lv' := [(5, .int (0 : Int32)), (0, .ref a_t), (2, .int x2), (4, .int x4)]) hx hb dX12_move_167 hl (by decide) rfl (fun ls hl => ?_)
  obtain ⟨n_51, hf⟩ := hf
  refine lt_LongTrainModel_move_169 F hr hlk hA (fun r_t_s_30 H locs ls hf hB hl => ?_) n_51 _ _ _ _ _ hf hB (lv_sub hl [1, 2, 3, 0] rfl)
  refine lv_iload hx hb dX12_move_217 (lv_at hl 2 rfl) ?_
  refine lv_aload_n hx hb dX12_move_219 rfl (lv_at hl 0 rfl) ?_
  refine g_get (w := .ref (d_t 6)) F hB 0 rfl fl_RX12_33 rfl dX12_move_220 ?_
  refine lv_sipush (v := 484) hx hb dX12_move_223 (by decide) ?_
  refine g_iald F hB 1 rfl (vp_in_iff.mpr (by decide +kernel)) dX12_move_226 ?_
  refine W.eq (g2 := F0 m 227 ls [.int (r_t_s_30 484), .int x4]) rfl ?_
  refine lv_icmp_ge (tgt := 236) hx hb dX12_move_227 (by decide) (fun c_50 => ?_) (fun c_50 => ?_)
  · replace hf := hf.1 c_50
    exact jt_LongTrainModel_move_236 F hr hlk hA _ _ _ _ _ _ _ _ _ hf hB (lv_sub hl [0, 1] rfl)
  · replace hf := hf.2 c_50
    refine lv_aload_n hx hb dX12_move_230 rfl (lv_at hl 0 rfl) ?_
    refine lv_iload hx hb dX12_move_231 (lv_at hl 2 rfl) ?_
    refine k_vv (wr := [((d_t 22), ai k 20 r_t_wagons), ((d_t 24), ai k 20 r_t_bears)]) (rest := []) F hA hB (c_LongTrainModel_partsAt l D k a_t d_t i_t j_t r_t_s_30 r_t_foremost x4 _  hf) ml_RX12_370 mv_yX12_partsAt [0, 1, 3] [2, 4] rfl rfl (by decide) (by decide) (by decide) 0 rfl rfl rfl hl.1 rfl (Nat.le_of_ble_eq_true rfl) ⟨Nat.le_of_ble_eq_true rfl, Nat.le_of_ble_eq_true rfl⟩ ⟨Nat.le_of_ble_eq_true rfl, Nat.le_of_ble_eq_true rfl⟩ dX12_move_233 (fun w1 H locs hq hB => ?_)
    obtain ⟨r_t_s_49, rfl, hf⟩ := hq
    replace hB : Bd D A s.heap (wd_LongTrainModel_move k a_t d_t i_t j_t r_t_s_49 r_t_wagons r_t_foremost r_t_bears) H locs := hB.sub [2, 3, 0, 4, 1] (by decide) rfl
    exact jt_LongTrainModel_move_236 F hr hlk hA _ _ _ _ _ _ _ _ _ hf hB (lv_sub hl [0, 1] rfl)

set_option maxRecDepth 100000 in
set_option maxHeartbeats 4000000 in
theorem jt_LongTrainModel_move_64 {p : Program} {l : Launch} {e : Env} {s : State} {m : MethodId} {below : List Frame} {meth : Method} {c : Code} {A : Nat → Prop} {D : va_G} {k : Nat → ClassId} {a_t : Nat} {d_t : Nat → Nat} {j_t : Nat → Int64} {n1 : Int32} {Q : Int32 → (Nat → Int32) → (Nat → Int32) → (Nat → Int32) → (Nat → Int32) → (Nat → Int32) → Prop}  (F : Fx p m c cX12_move 6 s ([.ref a_t, .int n1] : List Value).toArray RX12 D k) (hr : meth.sig.returnType = (some .int)) (hlk : meth.locks = false) (hA : ∀ q : Nat, s.heap.size ≤ q → A q) :
    ∀ (i_t : Nat → Int32) (r_t_s : Nat → Int32) (r_t_wagons : Nat → Int32) (r_t_foremost : Nat → Int32) (r_t_bears : Nat → Int32) (x2 : Int32) (y0 : Int32) (y1 : Int32) (H : Heap) (locs : List Loc) (ls : Array Slot), j_LongTrainModel_move_64 i_t r_t_s r_t_wagons r_t_foremost r_t_bears x2 y0 y1 Q → Bd D A s.heap (wd_LongTrainModel_move k a_t d_t i_t j_t r_t_s r_t_wagons r_t_foremost r_t_bears) H locs → lv_has ls 6 [(0, .ref a_t), (2, .int x2)] → W p l e { frames := 3, cells := 0, slots := 0, locals := 67 } s m ([.ref a_t, .int n1] : List Value).toArray below meth c H locs 0 0 (Ei below (fun r w => ∃ (i_t : Nat → Int32), ∃ (r_t_s : Nat → Int32), ∃ (r_t_wagons : Nat → Int32), ∃ (r_t_foremost : Nat → Int32), ∃ (r_t_bears : Nat → Int32), w = (wd_LongTrainModel_move k a_t d_t i_t j_t r_t_s r_t_wagons r_t_foremost r_t_bears) ∧ Q r i_t r_t_s r_t_wagons r_t_foremost r_t_bears) D k A ([.ref a_t, .int n1] : List Value).toArray s 0 0) (F0 m 64 ls [.int y0, .int y1]) := by
  have hx := F.x
  have hb := F.b
  intro i_t r_t_s r_t_wagons r_t_foremost r_t_bears x2 y0 y1 H locs ls hf hB hl
  unfold j_LongTrainModel_move_64 at hf
  refine lv_iadd hx hb dX12_move_64 ?_
  refine lv_istore_n (lv' := [(3, .int (y1 + y0)), (0, .ref a_t), (2, .int x2)]) hx hb dX12_move_65 rfl hl (by decide) rfl (fun ls hl => ?_)
  refine lv_iload_n hx hb dX12_move_66 rfl (lv_at hl 0 rfl) ?_
  refine lv_if_ge (tgt := 72) hx hb dX12_move_67 (by decide) (fun c_53 => ?_) (fun c_53 => ?_)
  · replace hf := hf.1 c_53
    refine lv_aload_n hx hb dX12_move_72 rfl (lv_at hl 1 rfl) ?_
    refine g_get (w := .ref (d_t 6)) F hB 0 rfl fl_RX12_33 rfl dX12_move_73 ?_
    refine lv_sipush (v := 483) hx hb dX12_move_76 (by decide) ?_
    refine lv_iload_n hx hb dX12_move_79 rfl (lv_at hl 2 rfl) ?_
    refine g_iast F hB 1 rfl (vp_in_iff.mpr (by decide +kernel)) (wd_LongTrainModel_move k a_t d_t i_t j_t (upd r_t_s 483 x2) r_t_wagons r_t_foremost r_t_bears) rfl dX12_move_80 (fun H locs hB => ?_)
    refine lv_aload_n hx hb dX12_move_81 rfl (lv_at hl 1 rfl) ?_
    refine g_get (w := .ref (d_t 6)) F hB 0 rfl fl_RX12_33 rfl dX12_move_82 ?_
    refine lv_sipush (v := 485) hx hb dX12_move_85 (by decide) ?_
    refine lv_iload_n hx hb dX12_move_88 rfl (lv_at hl 0 rfl) ?_
    refine g_iast F hB 1 rfl (vp_in_iff.mpr (by decide +kernel)) (wd_LongTrainModel_move k a_t d_t i_t j_t (upd (upd r_t_s 483 x2) 485 (y1 + y0)) r_t_wagons r_t_foremost r_t_bears) rfl dX12_move_89 (fun H locs hB => ?_)
    refine lv_iconst (v := 0) hx hb dX12_move_90 (by decide) ?_
    refine lv_istore (lv' := [(4, .int (0 : Int32)), (3, .int (y1 + y0)), (0, .ref a_t), (2, .int x2)]) hx hb dX12_move_91 hl (by decide) rfl (fun ls hl => ?_)
    obtain ⟨n_52, hf⟩ := hf
    refine lt_LongTrainModel_move_93 F hr hlk hA (fun x4_22 H locs ls hf hB hl => ?_) n_52 _ _ _ _ hf hB (lv_sub hl [2, 3, 0] rfl)
    exact jt_LongTrainModel_move_166 F hr hlk hA _ _ _ _ _ _ _ _ _ _ hf hB (lv_sub hl [0, 1, 2] rfl)
  · replace hf := hf.2 c_53
    refine lv_iconst (v := 1) hx hb dX12_move_70 (by decide) ?_
    exact r_i F hr hlk hB ⟨_, _, _, _, _, rfl, hf⟩ dX12_move_71

set_option maxRecDepth 100000 in
set_option maxHeartbeats 4000000 in
theorem c_LongTrainModel_move (l : Launch) (D : va_G) (k : Nat → ClassId) (a_t : Nat) (d_t : Nat → Nat) (i_t : Nat → Int32) (j_t : Nat → Int64) (r_t_s : Nat → Int32) (r_t_wagons : Nat → Int32) (r_t_foremost : Nat → Int32) (r_t_bears : Nat → Int32) (n1 : Int32) (Q : Int32 → (Nat → Int32) → (Nat → Int32) → (Nat → Int32) → (Nat → Int32) → (Nat → Int32) → Prop)  (hf : w_LongTrainModel_move i_t r_t_s r_t_wagons r_t_foremost r_t_bears n1 Q) : CtI l yX12_move cX12_move 6 (some .int) 3 67 0 0 D k [.ref a_t, .int n1] (wd_LongTrainModel_move k a_t d_t i_t j_t r_t_s r_t_wagons r_t_foremost r_t_bears) (fun r w => ∃ (i_t : Nat → Int32), ∃ (r_t_s : Nat → Int32), ∃ (r_t_wagons : Nat → Int32), ∃ (r_t_foremost : Nat → Int32), ∃ (r_t_bears : Nat → Int32), w = (wd_LongTrainModel_move k a_t d_t i_t j_t r_t_s r_t_wagons r_t_foremost r_t_bears) ∧ Q r i_t r_t_s r_t_wagons r_t_foremost r_t_bears) := by
  refine CtI.of (by decide) (Nat.le_of_ble_eq_true rfl) ?_
  intro p e s m below meth c A F hr hlk hnm hA hB ls hl
  have hx := F.x
  have hb := F.b
  unfold w_LongTrainModel_move at hf
  replace hl : lv_has ls 6 [(0, .ref a_t), (1, .int n1)] := hl
  refine lv_aload_n hx hb dX12_move_0 rfl (lv_at hl 0 rfl) ?_
  refine g_get (w := .ref (d_t 6)) F hB 0 rfl fl_RX12_33 rfl dX12_move_1 ?_
  refine lv_sipush (v := 483) hx hb dX12_move_4 (by decide) ?_
  refine g_iald F hB 1 rfl (vp_in_iff.mpr (by decide +kernel)) dX12_move_7 ?_
  refine W.eq (g2 := F0 m 8 ls [.int (r_t_s 483)]) rfl ?_
  refine lv_iconst (v := 1) hx hb dX12_move_8 (by decide) ?_
  refine lv_iadd hx hb dX12_move_9 ?_
  refine lv_istore_n (lv' := [(2, .int ((r_t_s 483) + (1 : Int32))), (0, .ref a_t), (1, .int n1)]) hx hb dX12_move_10 rfl hl (by decide) rfl (fun ls hl => ?_)
  refine lv_iload_n hx hb dX12_move_11 rfl (lv_at hl 0 rfl) ?_
  refine lv_aload_n hx hb dX12_move_12 rfl (lv_at hl 1 rfl) ?_
  refine g_get (w := .ref (d_t 6)) F hB 0 rfl fl_RX12_33 rfl dX12_move_13 ?_
  refine lv_iconst (v := 0) hx hb dX12_move_16 (by decide) ?_
  refine g_iald F hB 1 rfl (vp_in_iff.mpr (by decide +kernel)) dX12_move_17 ?_
  refine W.eq (g2 := F0 m 18 ls [.int (r_t_s 0), .int ((r_t_s 483) + (1 : Int32))]) rfl ?_
  refine lv_icmp_lt (tgt := 23) hx hb dX12_move_18 (by decide) (fun c_56 => ?_) (fun c_56 => ?_)
  · replace hf := hf.1 c_56
    refine lv_aload_n hx hb dX12_move_23 rfl (lv_at hl 1 rfl) ?_
    refine lv_iload_n hx hb dX12_move_24 rfl (lv_at hl 0 rfl) ?_
    refine k_vv (wr := []) (rest := []) F hA hB (c_LongTrainModel_nowStands l D k a_t d_t i_t j_t r_t_s r_t_wagons r_t_foremost r_t_bears ((r_t_s 483) + (1 : Int32)) _  hf) ml_RX12_361 mv_yX12_nowStands [0, 1, 2, 3, 4] [] rfl rfl (by decide) (by decide) (by decide) 0 rfl rfl rfl hl.1 rfl (Nat.le_of_ble_eq_true rfl) ⟨Nat.le_of_ble_eq_true rfl, Nat.le_of_ble_eq_true rfl⟩ ⟨Nat.le_of_ble_eq_true rfl, Nat.le_of_ble_eq_true rfl⟩ dX12_move_25 (fun w1 H locs hq hB => ?_)
    obtain ⟨i_t_3, r_t_wagons_4, r_t_foremost_5, r_t_bears_6, rfl, hf⟩ := hq
    replace hB : Bd D A s.heap (wd_LongTrainModel_move k a_t d_t i_t_3 j_t r_t_s r_t_wagons_4 r_t_foremost_5 r_t_bears_6) H locs := hB.sub [0, 1, 2, 3, 4] (by decide) rfl
    refine lv_aload_n hx hb dX12_move_28 rfl (lv_at hl 1 rfl) ?_
    refine g_get (w := .ref (d_t 6)) F hB 0 rfl fl_RX12_33 rfl dX12_move_29 ?_
    refine lv_sipush (v := 485) hx hb dX12_move_32 (by decide) ?_
    refine g_iald F hB 1 rfl (vp_in_iff.mpr (by decide +kernel)) dX12_move_35 ?_
    refine W.eq (g2 := F0 m 36 ls [.int (r_t_s 485)]) rfl ?_
    refine lv_aload_n hx hb dX12_move_36 rfl (lv_at hl 1 rfl) ?_
    refine g_get (w := .ref (d_t 6)) F hB 0 rfl fl_RX12_33 rfl dX12_move_37 ?_
    refine lv_iconst (v := 4) hx hb dX12_move_40 (by decide) ?_
    refine g_iald F hB 1 rfl (vp_in_iff.mpr (by decide +kernel)) dX12_move_41 ?_
    refine W.eq (g2 := F0 m 42 ls [.int (r_t_s 4), .int (r_t_s 485)]) rfl ?_
    refine lv_iadd hx hb dX12_move_42 ?_
    refine lv_aload_n hx hb dX12_move_43 rfl (lv_at hl 1 rfl) ?_
    refine g_get (w := .int (i_t_3 28)) F hB 0 rfl fl_RX12_279 rfl dX12_move_44 ?_
    refine lv_isub hx hb dX12_move_47 ?_
    refine lv_iload_n hx hb dX12_move_48 rfl (lv_at hl 2 rfl) ?_
    refine lv_iconst (v := 1) hx hb dX12_move_49 (by decide) ?_
    refine lv_icmp_ne (tgt := 63) hx hb dX12_move_50 (by decide) (fun c_55 => ?_) (fun c_55 => ?_)
    · replace hf := hf.1 c_55
      refine lv_iconst (v := 0) hx hb dX12_move_63 (by decide) ?_
      exact jt_LongTrainModel_move_64 F hr hlk hA _ _ _ _ _ _ _ _ _ _ _ hf hB (lv_sub hl [1, 0] rfl)
    · replace hf := hf.2 c_55
      refine lv_aload_n hx hb dX12_move_53 rfl (lv_at hl 1 rfl) ?_
      refine g_get (w := .ref (d_t 6)) F hB 0 rfl fl_RX12_33 rfl dX12_move_54 ?_
      refine lv_bipush (v := 7) hx hb dX12_move_57 (by decide) ?_
      refine g_iald F hB 1 rfl (vp_in_iff.mpr (by decide +kernel)) dX12_move_59 ?_
      refine W.eq (g2 := F0 m 60 ls [.int (r_t_s 7), .int (((r_t_s 485) + (r_t_s 4)) - (i_t_3 28))]) rfl ?_
      refine lv_goto (tgt := 64) hx hb dX12_move_60 (by decide) ?_
      exact jt_LongTrainModel_move_64 F hr hlk hA _ _ _ _ _ _ _ _ _ _ _ hf hB (lv_sub hl [1, 0] rfl)
  · replace hf := hf.2 c_56
    refine lv_iconst (v := 2) hx hb dX12_move_21 (by decide) ?_
    exact r_i F hr hlk hB ⟨_, _, _, _, _, rfl, hf⟩ dX12_move_22

