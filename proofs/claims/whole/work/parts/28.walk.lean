/-! LongTrainModel.readTrain -/
set_option maxRecDepth 100000 in
set_option maxHeartbeats 4000000 in
theorem bt_LongTrainModel_readTrain_0 {p : Program} {l : Launch} {e : Env} {s : State} {m : MethodId} {below : List Frame} {meth : Method} {c : Code} {A : Nat → Prop} {D : va_G} {k : Nat → ClassId} {a_t : Nat} {d_t : Nat → Nat} {r_t_reserved : Nat → Int64} {r_t_names : Nat → Int64} {r_t_tape : Nat → Int32}  {Q : Int32 → (Nat → Int32) → (Nat → Int64) → (Nat → Int32) → Prop}  {kr_0 : (Nat → Int32) → (Nat → Int64) → (Nat → Int32) → Prop} (F : Fx p m c cX12_readTrain 2 s ([.ref a_t] : List Value).toArray RX12 D k) (hr : meth.sig.returnType = (some .boolean)) (hlk : meth.locks = false) (hA : ∀ q : Nat, s.heap.size ≤ q → A q) (hkr_0 : ∀ (i_t : Nat → Int32) (j_t : Nat → Int64) (r_t_h : Nat → Int32) (H : Heap) (locs : List Loc) (ls : Array Slot), kr_0 i_t j_t r_t_h → Bd D A s.heap (wd_LongTrainModel_readTrain k a_t d_t i_t j_t r_t_reserved r_t_h r_t_names r_t_tape) H locs → lv_has ls 2 [(0, .ref a_t)] → W p l e { frames := 2, cells := 0, slots := 0, locals := 43 } s m ([.ref a_t] : List Value).toArray below meth c H locs 0 0 (Ei below (fun r w => (r = 0 ∨ r = 1) ∧ (∃ (i_t : Nat → Int32), ∃ (j_t : Nat → Int64), ∃ (r_t_h : Nat → Int32), w = (wd_LongTrainModel_readTrain k a_t d_t i_t j_t r_t_reserved r_t_h r_t_names r_t_tape) ∧ Q r i_t j_t r_t_h)) D k A ([.ref a_t] : List Value).toArray s 0 0) (F0 m 0 ls [])) :
    ∀ (i_t : Nat → Int32) (j_t : Nat → Int64) (r_t_h : Nat → Int32) (H : Heap) (locs : List Loc) (ls : Array Slot), b_LongTrainModel_readTrain_0 r_t_reserved r_t_names r_t_tape Q kr_0 i_t j_t r_t_h → Bd D A s.heap (wd_LongTrainModel_readTrain k a_t d_t i_t j_t r_t_reserved r_t_h r_t_names r_t_tape) H locs → lv_has ls 2 [(0, .ref a_t)] → W p l e { frames := 2, cells := 0, slots := 0, locals := 43 } s m ([.ref a_t] : List Value).toArray below meth c H locs 0 0 (Ei below (fun r w => (r = 0 ∨ r = 1) ∧ (∃ (i_t : Nat → Int32), ∃ (j_t : Nat → Int64), ∃ (r_t_h : Nat → Int32), w = (wd_LongTrainModel_readTrain k a_t d_t i_t j_t r_t_reserved r_t_h r_t_names r_t_tape) ∧ Q r i_t j_t r_t_h)) D k A ([.ref a_t] : List Value).toArray s 0 0) (F0 m 0 ls []) := by
  have hx := F.x
  have hb := F.b
  intro i_t j_t r_t_h H locs ls hf hB hl
  unfold b_LongTrainModel_readTrain_0 at hf
  refine lv_aload_n hx hb dX12_readTrain_0 rfl (lv_at hl 0 rfl) ?_
  refine k_vi (wr := [((d_t 7), ai k 483 r_t_h), ((d_t 9), aj k 32 r_t_names), ((d_t 1), ab k 940 r_t_tape)]) (rest := []) F hA hB (c_LongTrainModel_isName l D k a_t d_t i_t j_t r_t_reserved _  hf) ml_RX12_189 mv_yX12_isName [0, 1] [2, 3, 4] rfl rfl (by decide) (by decide) (by decide) 0 rfl rfl rfl hl.1 rfl (Nat.le_of_ble_eq_true rfl) ⟨Nat.le_of_ble_eq_true rfl, Nat.le_of_ble_eq_true rfl⟩ ⟨Nat.le_of_ble_eq_true rfl, Nat.le_of_ble_eq_true rfl⟩ dX12_readTrain_1 (fun z_1 w1 H locs hq hB => ?_)
  obtain ⟨h_2, rfl, hf⟩ := hq
  replace hB : Bd D A s.heap (wd_LongTrainModel_readTrain k a_t d_t i_t j_t r_t_reserved r_t_h r_t_names r_t_tape) H locs := hB.sub [3, 4, 0, 1, 2] (by decide) rfl
  refine lv_if_ne (tgt := 13) hx hb dX12_readTrain_4 (by decide) (fun c_26 => ?_) (fun c_26 => ?_)
  · replace hf := hf.1 c_26
    refine lv_aload_n hx hb dX12_readTrain_13 rfl (lv_at hl 0 rfl) ?_
    refine lv_bipush (v := 26) hx hb dX12_readTrain_14 (by decide) ?_
    refine lv_aload_n hx hb dX12_readTrain_16 rfl (lv_at hl 0 rfl) ?_
    refine g_get (w := .ref (d_t 7)) F hB 0 rfl fl_RX12_37 rfl dX12_readTrain_17 ?_
    refine lv_iconst (v := 3) hx hb dX12_readTrain_20 (by decide) ?_
    refine g_iald F hB 2 rfl (vp_in_iff.mpr (by decide +kernel)) dX12_readTrain_21 ?_
    refine W.eq (g2 := F0 m 22 ls [.int (r_t_h 3), .int (26 : Int32), .ref a_t]) rfl ?_
    refine k_vi (wr := [((d_t 10), aj k 16 r_t_reserved), ((d_t 7), ai k 483 r_t_h), ((d_t 1), ab k 940 r_t_tape)]) (rest := []) F hA hB (c_LongTrainModel_find l D k a_t d_t i_t j_t r_t_names (26 : Int32) (r_t_h 3) _  hf) ml_RX12_193 mv_yX12_find [0, 3] [1, 2, 4] rfl rfl (by decide) (by decide) (by decide) 0 rfl rfl rfl hl.1 rfl (Nat.le_of_ble_eq_true rfl) ⟨Nat.le_of_ble_eq_true rfl, Nat.le_of_ble_eq_true rfl⟩ ⟨Nat.le_of_ble_eq_true rfl, Nat.le_of_ble_eq_true rfl⟩ dX12_readTrain_22 (fun z_4 w1 H locs hq hB => ?_)
    obtain ⟨rfl, hf⟩ := hq
    replace hB : Bd D A s.heap (wd_LongTrainModel_readTrain k a_t d_t i_t j_t r_t_reserved r_t_h r_t_names r_t_tape) H locs := hB.sub [3, 0, 1, 4, 2] (by decide) rfl
    refine lv_istore_n (lv' := [(1, .int z_4), (0, .ref a_t)]) hx hb dX12_readTrain_25 rfl hl (by decide) rfl (fun ls hl => ?_)
    refine lv_iload_n hx hb dX12_readTrain_26 rfl (lv_at hl 0 rfl) ?_
    refine lv_if_ge (tgt := 36) hx hb dX12_readTrain_27 (by decide) (fun c_22 => ?_) (fun c_22 => ?_)
    · replace hf := hf.1 c_22
      refine lv_aload_n hx hb dX12_readTrain_36 rfl (lv_at hl 1 rfl) ?_
      refine g_get (w := .ref (d_t 7)) F hB 0 rfl fl_RX12_37 rfl dX12_readTrain_37 ?_
      refine lv_bipush (v := 10) hx hb dX12_readTrain_40 (by decide) ?_
      refine g_iald F hB 2 rfl (vp_in_iff.mpr (by decide +kernel)) dX12_readTrain_42 ?_
      refine W.eq (g2 := F0 m 43 ls [.int (r_t_h 10)]) rfl ?_
      refine lv_bipush (v := 8) hx hb dX12_readTrain_43 (by decide) ?_
      refine lv_icmp_ne (tgt := 54) hx hb dX12_readTrain_45 (by decide) (fun c_18 => ?_) (fun c_18 => ?_)
      · replace hf := hf.1 c_18
        refine lv_aload_n hx hb dX12_readTrain_54 rfl (lv_at hl 1 rfl) ?_
        refine g_get (w := .ref (d_t 7)) F hB 0 rfl fl_RX12_37 rfl dX12_readTrain_55 ?_
        refine lv_sipush (v := 475) hx hb dX12_readTrain_58 (by decide) ?_
        refine lv_aload_n hx hb dX12_readTrain_61 rfl (lv_at hl 1 rfl) ?_
        refine g_get (w := .ref (d_t 7)) F hB 0 rfl fl_RX12_37 rfl dX12_readTrain_62 ?_
        refine lv_bipush (v := 10) hx hb dX12_readTrain_65 (by decide) ?_
        refine g_iald F hB 2 rfl (vp_in_iff.mpr (by decide +kernel)) dX12_readTrain_67 ?_
        refine W.eq (g2 := F0 m 68 ls [.int (r_t_h 10), .int (475 : Int32), .ref (d_t 7)]) rfl ?_
        refine lv_iadd hx hb dX12_readTrain_68 ?_
        refine lv_iload_n hx hb dX12_readTrain_69 rfl (lv_at hl 0 rfl) ?_
        obtain ⟨h_7, hf⟩ := hf
        refine g_iast F hB 2 rfl h_7 (wd_LongTrainModel_readTrain k a_t d_t i_t j_t r_t_reserved (upd r_t_h (((475 : Int32) + (r_t_h 10))).toNatClampNeg z_4) r_t_names r_t_tape) rfl dX12_readTrain_70 (fun H locs hB => ?_)
        refine lv_aload_n hx hb dX12_readTrain_71 rfl (lv_at hl 1 rfl) ?_
        refine g_get (w := .ref (d_t 7)) F hB 0 rfl fl_RX12_37 rfl dX12_readTrain_72 ?_
        refine lv_bipush (v := 10) hx hb dX12_readTrain_75 (by decide) ?_
        refine lv_dup2_11 hx hb dX12_readTrain_77 rfl rfl ?_
        refine g_iald F hB 2 rfl (vp_in_iff.mpr (by decide +kernel)) dX12_readTrain_78 ?_
        refine W.eq (g2 := F0 m 79 ls [.int ((upd r_t_h (((475 : Int32) + (r_t_h 10))).toNatClampNeg z_4) 10), .int (10 : Int32), .ref (d_t 7)]) rfl ?_
        refine lv_iconst (v := 1) hx hb dX12_readTrain_79 (by decide) ?_
        refine lv_iadd hx hb dX12_readTrain_80 ?_
        refine g_iast F hB 2 rfl (vp_in_iff.mpr (by decide +kernel)) (wd_LongTrainModel_readTrain k a_t d_t i_t j_t r_t_reserved (upd (upd r_t_h (((475 : Int32) + (r_t_h 10))).toNatClampNeg z_4) 10 (((upd r_t_h (((475 : Int32) + (r_t_h 10))).toNatClampNeg z_4) 10) + (1 : Int32))) r_t_names r_t_tape) rfl dX12_readTrain_81 (fun H locs hB => ?_)
        refine lv_aload_n hx hb dX12_readTrain_82 rfl (lv_at hl 1 rfl) ?_
        refine k_vv (wr := [((d_t 10), aj k 16 r_t_reserved), ((d_t 7), ai k 483 (upd (upd r_t_h (((475 : Int32) + (r_t_h 10))).toNatClampNeg z_4) 10 (((upd r_t_h (((475 : Int32) + (r_t_h 10))).toNatClampNeg z_4) 10) + (1 : Int32)))), ((d_t 9), aj k 32 r_t_names)]) (rest := []) F hA hB (c_LongTrainModel_next l D k a_t d_t i_t j_t r_t_tape _  hf) ml_RX12_179 mv_yX12_next [0, 4] [1, 2, 3] rfl rfl (by decide) (by decide) (by decide) 0 rfl rfl rfl hl.1 rfl (Nat.le_of_ble_eq_true rfl) ⟨Nat.le_of_ble_eq_true rfl, Nat.le_of_ble_eq_true rfl⟩ ⟨Nat.le_of_ble_eq_true rfl, Nat.le_of_ble_eq_true rfl⟩ dX12_readTrain_83 (fun w1 H locs hq hB => ?_)
        obtain ⟨i_t_10, j_t_11, rfl, hf⟩ := hq
        replace hB : Bd D A s.heap (wd_LongTrainModel_readTrain k a_t d_t i_t_10 j_t_11 r_t_reserved (upd (upd r_t_h (((475 : Int32) + (r_t_h 10))).toNatClampNeg z_4) 10 (((upd r_t_h (((475 : Int32) + (r_t_h 10))).toNatClampNeg z_4) 10) + (1 : Int32))) r_t_names r_t_tape) H locs := hB.sub [3, 0, 1, 2, 4] (by decide) rfl
        refine lv_aload_n hx hb dX12_readTrain_86 rfl (lv_at hl 1 rfl) ?_
        refine lv_bipush (v := 59) hx hb dX12_readTrain_87 (by decide) ?_
        refine k_vi (wr := [((d_t 10), aj k 16 r_t_reserved), ((d_t 7), ai k 483 (upd (upd r_t_h (((475 : Int32) + (r_t_h 10))).toNatClampNeg z_4) 10 (((upd r_t_h (((475 : Int32) + (r_t_h 10))).toNatClampNeg z_4) 10) + (1 : Int32)))), ((d_t 9), aj k 32 r_t_names), ((d_t 1), ab k 940 r_t_tape)]) (rest := []) F hA hB (c_LongTrainModel_isSign l D k a_t d_t i_t_10 j_t_11 (59 : Int32) _  hf) ml_RX12_173 mv_yX12_isSign [0] [1, 2, 3, 4] rfl rfl (by decide) (by decide) (by decide) 0 rfl rfl rfl hl.1 rfl (Nat.le_of_ble_eq_true rfl) ⟨Nat.le_of_ble_eq_true rfl, Nat.le_of_ble_eq_true rfl⟩ ⟨Nat.le_of_ble_eq_true rfl, Nat.le_of_ble_eq_true rfl⟩ dX12_readTrain_89 (fun z_12 w1 H locs hq hB => ?_)
        obtain ⟨h_13, rfl, hf⟩ := hq
        replace hB : Bd D A s.heap (wd_LongTrainModel_readTrain k a_t d_t i_t_10 j_t_11 r_t_reserved (upd (upd r_t_h (((475 : Int32) + (r_t_h 10))).toNatClampNeg z_4) 10 (((upd r_t_h (((475 : Int32) + (r_t_h 10))).toNatClampNeg z_4) 10) + (1 : Int32))) r_t_names r_t_tape) H locs := hB.sub [4, 0, 1, 2, 3] (by decide) rfl
        refine lv_if_eq (tgt := 97) hx hb dX12_readTrain_92 (by decide) (fun c_14 => ?_) (fun c_14 => ?_)
        · replace hf := hf.1 c_14
          refine lv_goto (tgt := 0) hx hb dX12_readTrain_97 (by decide) ?_
          exact hkr_0 _ _ _ _ _ _ hf hB (lv_sub hl [1] rfl)
        · replace hf := hf.2 c_14
          refine lv_iconst (v := 1) hx hb dX12_readTrain_95 (by decide) ?_
          exact r_z F hr hlk hB (Or.inr rfl) ⟨Or.inr rfl, _, _, _, rfl, hf⟩ dX12_readTrain_96
      · replace hf := hf.2 c_18
        refine lv_aload_n hx hb dX12_readTrain_48 rfl (lv_at hl 1 rfl) ?_
        refine lv_iconst (v := 4) hx hb dX12_readTrain_49 (by decide) ?_
        refine k_vi (wr := [((d_t 10), aj k 16 r_t_reserved), ((d_t 7), ai k 483 r_t_h), ((d_t 9), aj k 32 r_t_names), ((d_t 1), ab k 940 r_t_tape)]) (rest := []) F hA hB (c_LongTrainModel_bad l D k a_t d_t i_t j_t (4 : Int32) _  hf) ml_RX12_176 mv_yX12_bad [0] [1, 2, 3, 4] rfl rfl (by decide) (by decide) (by decide) 0 rfl rfl rfl hl.1 rfl (Nat.le_of_ble_eq_true rfl) ⟨Nat.le_of_ble_eq_true rfl, Nat.le_of_ble_eq_true rfl⟩ ⟨Nat.le_of_ble_eq_true rfl, Nat.le_of_ble_eq_true rfl⟩ dX12_readTrain_50 (fun z_16 w1 H locs hq hB => ?_)
        obtain ⟨h_17, i_t_15, rfl, hf⟩ := hq
        replace hB : Bd D A s.heap (wd_LongTrainModel_readTrain k a_t d_t i_t_15 j_t r_t_reserved r_t_h r_t_names r_t_tape) H locs := hB.sub [4, 0, 1, 2, 3] (by decide) rfl
        exact r_z F hr hlk hB (h_17) ⟨h_17, _, _, _, rfl, hf⟩ dX12_readTrain_53
    · replace hf := hf.2 c_22
      refine lv_aload_n hx hb dX12_readTrain_30 rfl (lv_at hl 1 rfl) ?_
      refine lv_iconst (v := 3) hx hb dX12_readTrain_31 (by decide) ?_
      refine k_vi (wr := [((d_t 10), aj k 16 r_t_reserved), ((d_t 7), ai k 483 r_t_h), ((d_t 9), aj k 32 r_t_names), ((d_t 1), ab k 940 r_t_tape)]) (rest := []) F hA hB (c_LongTrainModel_bad l D k a_t d_t i_t j_t (3 : Int32) _  hf) ml_RX12_176 mv_yX12_bad [0] [1, 2, 3, 4] rfl rfl (by decide) (by decide) (by decide) 0 rfl rfl rfl hl.1 rfl (Nat.le_of_ble_eq_true rfl) ⟨Nat.le_of_ble_eq_true rfl, Nat.le_of_ble_eq_true rfl⟩ ⟨Nat.le_of_ble_eq_true rfl, Nat.le_of_ble_eq_true rfl⟩ dX12_readTrain_32 (fun z_20 w1 H locs hq hB => ?_)
      obtain ⟨h_21, i_t_19, rfl, hf⟩ := hq
      replace hB : Bd D A s.heap (wd_LongTrainModel_readTrain k a_t d_t i_t_19 j_t r_t_reserved r_t_h r_t_names r_t_tape) H locs := hB.sub [4, 0, 1, 2, 3] (by decide) rfl
      exact r_z F hr hlk hB (h_21) ⟨h_21, _, _, _, rfl, hf⟩ dX12_readTrain_35
  · replace hf := hf.2 c_26
    refine lv_aload_n hx hb dX12_readTrain_7 rfl (lv_at hl 0 rfl) ?_
    refine lv_iconst (v := 1) hx hb dX12_readTrain_8 (by decide) ?_
    refine k_vi (wr := [((d_t 10), aj k 16 r_t_reserved), ((d_t 7), ai k 483 r_t_h), ((d_t 9), aj k 32 r_t_names), ((d_t 1), ab k 940 r_t_tape)]) (rest := []) F hA hB (c_LongTrainModel_bad l D k a_t d_t i_t j_t (1 : Int32) _  hf) ml_RX12_176 mv_yX12_bad [0] [1, 2, 3, 4] rfl rfl (by decide) (by decide) (by decide) 0 rfl rfl rfl hl.1 rfl (Nat.le_of_ble_eq_true rfl) ⟨Nat.le_of_ble_eq_true rfl, Nat.le_of_ble_eq_true rfl⟩ ⟨Nat.le_of_ble_eq_true rfl, Nat.le_of_ble_eq_true rfl⟩ dX12_readTrain_9 (fun z_24 w1 H locs hq hB => ?_)
    obtain ⟨h_25, i_t_23, rfl, hf⟩ := hq
    replace hB : Bd D A s.heap (wd_LongTrainModel_readTrain k a_t d_t i_t_23 j_t r_t_reserved r_t_h r_t_names r_t_tape) H locs := hB.sub [4, 0, 1, 2, 3] (by decide) rfl
    exact r_z F hr hlk hB (h_25) ⟨h_25, _, _, _, rfl, hf⟩ dX12_readTrain_12

set_option maxRecDepth 100000 in
set_option maxHeartbeats 4000000 in
theorem lt_LongTrainModel_readTrain_0 {p : Program} {l : Launch} {e : Env} {s : State} {m : MethodId} {below : List Frame} {meth : Method} {c : Code} {A : Nat → Prop} {D : va_G} {k : Nat → ClassId} {a_t : Nat} {d_t : Nat → Nat} {r_t_reserved : Nat → Int64} {r_t_names : Nat → Int64} {r_t_tape : Nat → Int32}  {Q : Int32 → (Nat → Int32) → (Nat → Int64) → (Nat → Int32) → Prop}  (F : Fx p m c cX12_readTrain 2 s ([.ref a_t] : List Value).toArray RX12 D k) (hr : meth.sig.returnType = (some .boolean)) (hlk : meth.locks = false) (hA : ∀ q : Nat, s.heap.size ≤ q → A q) :
    ∀ n : Nat, ∀ (i_t : Nat → Int32) (j_t : Nat → Int64) (r_t_h : Nat → Int32) (H : Heap) (locs : List Loc) (ls : Array Slot), lp_LongTrainModel_readTrain_0 r_t_reserved r_t_names r_t_tape Q n i_t j_t r_t_h → Bd D A s.heap (wd_LongTrainModel_readTrain k a_t d_t i_t j_t r_t_reserved r_t_h r_t_names r_t_tape) H locs → lv_has ls 2 [(0, .ref a_t)] → W p l e { frames := 2, cells := 0, slots := 0, locals := 43 } s m ([.ref a_t] : List Value).toArray below meth c H locs 0 0 (Ei below (fun r w => (r = 0 ∨ r = 1) ∧ (∃ (i_t : Nat → Int32), ∃ (j_t : Nat → Int64), ∃ (r_t_h : Nat → Int32), w = (wd_LongTrainModel_readTrain k a_t d_t i_t j_t r_t_reserved r_t_h r_t_names r_t_tape) ∧ Q r i_t j_t r_t_h)) D k A ([.ref a_t] : List Value).toArray s 0 0) (F0 m 0 ls []) := by
  intro n
  induction n with
  | zero => intro i_t j_t r_t_h H locs ls hf; exact absurd hf (fun h => h)
  | succ n ih => exact bt_LongTrainModel_readTrain_0 F hr hlk hA ih

set_option maxRecDepth 100000 in
set_option maxHeartbeats 4000000 in
theorem c_LongTrainModel_readTrain (l : Launch) (D : va_G) (k : Nat → ClassId) (a_t : Nat) (d_t : Nat → Nat) (i_t : Nat → Int32) (j_t : Nat → Int64) (r_t_reserved : Nat → Int64) (r_t_h : Nat → Int32) (r_t_names : Nat → Int64) (r_t_tape : Nat → Int32)  (Q : Int32 → (Nat → Int32) → (Nat → Int64) → (Nat → Int32) → Prop)  (hf : w_LongTrainModel_readTrain i_t j_t r_t_reserved r_t_h r_t_names r_t_tape Q) : CtI l yX12_readTrain cX12_readTrain 2 (some .boolean) 2 43 0 0 D k [.ref a_t] (wd_LongTrainModel_readTrain k a_t d_t i_t j_t r_t_reserved r_t_h r_t_names r_t_tape) (fun r w => (r = 0 ∨ r = 1) ∧ (∃ (i_t : Nat → Int32), ∃ (j_t : Nat → Int64), ∃ (r_t_h : Nat → Int32), w = (wd_LongTrainModel_readTrain k a_t d_t i_t j_t r_t_reserved r_t_h r_t_names r_t_tape) ∧ Q r i_t j_t r_t_h)) := by
  refine CtI.of (by decide) (Nat.le_of_ble_eq_true rfl) ?_
  intro p e s m below meth c A F hr hlk hnm hA hB ls hl
  have hx := F.x
  have hb := F.b
  unfold w_LongTrainModel_readTrain at hf
  replace hl : lv_has ls 2 [(0, .ref a_t)] := hl
  obtain ⟨n_27, hf⟩ := hf
  refine lt_LongTrainModel_readTrain_0 F hr hlk hA  n_27 _ _ _ _ _ _ hf hB (lv_sub hl [0] rfl)

/-! LongTrainModel.row -/
set_option maxRecDepth 100000 in
set_option maxHeartbeats 4000000 in
theorem c_LongTrainModel_row (l : Launch) (D : va_G) (k : Nat → ClassId) (a_t : Nat) (d_t : Nat → Nat) (i_t : Nat → Int32) (j_t : Nat → Int64) (r_t_tape : Nat → Int32) (r_t_h : Nat → Int32) (r_t_reserved : Nat → Int64) (r_t_names : Nat → Int64)  (Q : Int32 → (Nat → Int32) → (Nat → Int64) → (Nat → Int32) → (Nat → Int64) → Prop)  (hf : w_LongTrainModel_row i_t j_t r_t_tape r_t_h r_t_reserved r_t_names Q) : CtI l yX12_row cX12_row 3 (some .boolean) 4 88 0 0 D k [.ref a_t] (wd_LongTrainModel_row k a_t d_t i_t j_t r_t_tape r_t_h r_t_reserved r_t_names) (fun r w => (r = 0 ∨ r = 1) ∧ (∃ (i_t : Nat → Int32), ∃ (j_t : Nat → Int64), ∃ (r_t_h : Nat → Int32), ∃ (r_t_names : Nat → Int64), w = (wd_LongTrainModel_row k a_t d_t i_t j_t r_t_tape r_t_h r_t_reserved r_t_names) ∧ Q r i_t j_t r_t_h r_t_names)) := by
  refine CtI.of (by decide) (Nat.le_of_ble_eq_true rfl) ?_
  intro p e s m below meth c A F hr hlk hnm hA hB ls hl
  have hx := F.x
  have hb := F.b
  unfold w_LongTrainModel_row at hf
  replace hl : lv_has ls 3 [(0, .ref a_t)] := hl
  refine lv_aload_n hx hb dX12_row_0 rfl (lv_at hl 0 rfl) ?_
  refine lv_ldc2 (v := 495740481637) hx hb F.o (F.t _ cst_RX12_105) dX12_row_1 ?_
  refine k_vi (wr := [((d_t 1), ab k 940 r_t_tape), ((d_t 7), ai k 483 r_t_h), ((d_t 10), aj k 16 r_t_reserved), ((d_t 9), aj k 32 r_t_names)]) (rest := []) F hA hB (c_LongTrainModel_isWord l D k a_t d_t i_t j_t (495740481637 : Int64) _  hf) ml_RX12_197 mv_yX12_isWord [0] [1, 2, 3, 4] rfl rfl (by decide) (by decide) (by decide) 0 rfl rfl rfl hl.1 rfl (Nat.le_of_ble_eq_true rfl) ⟨Nat.le_of_ble_eq_true rfl, Nat.le_of_ble_eq_true rfl⟩ ⟨Nat.le_of_ble_eq_true rfl, Nat.le_of_ble_eq_true rfl⟩ dX12_row_4 (fun z_1 w1 H locs hq hB => ?_)
  obtain ⟨h_2, rfl, hf⟩ := hq
  replace hB : Bd D A s.heap (wd_LongTrainModel_row k a_t d_t i_t j_t r_t_tape r_t_h r_t_reserved r_t_names) H locs := hB.sub [4, 0, 1, 2, 3] (by decide) rfl
  refine lv_if_eq (tgt := 15) hx hb dX12_row_7 (by decide) (fun c_166 => ?_) (fun c_166 => ?_)
  · replace hf := hf.1 c_166
    refine lv_aload_n hx hb dX12_row_15 rfl (lv_at hl 0 rfl) ?_
    refine lv_ldc2 (v := 1751215220) hx hb F.o (F.t _ cst_RX12_107) dX12_row_16 ?_
    refine k_vi (wr := [((d_t 1), ab k 940 r_t_tape), ((d_t 7), ai k 483 r_t_h), ((d_t 10), aj k 16 r_t_reserved), ((d_t 9), aj k 32 r_t_names)]) (rest := []) F hA hB (c_LongTrainModel_isWord l D k a_t d_t i_t j_t (1751215220 : Int64) _  hf) ml_RX12_197 mv_yX12_isWord [0] [1, 2, 3, 4] rfl rfl (by decide) (by decide) (by decide) 0 rfl rfl rfl hl.1 rfl (Nat.le_of_ble_eq_true rfl) ⟨Nat.le_of_ble_eq_true rfl, Nat.le_of_ble_eq_true rfl⟩ ⟨Nat.le_of_ble_eq_true rfl, Nat.le_of_ble_eq_true rfl⟩ dX12_row_19 (fun z_3 w1 H locs hq hB => ?_)
    obtain ⟨h_4, rfl, hf⟩ := hq
    replace hB : Bd D A s.heap (wd_LongTrainModel_row k a_t d_t i_t j_t r_t_tape r_t_h r_t_reserved r_t_names) H locs := hB.sub [4, 0, 1, 2, 3] (by decide) rfl
    refine lv_if_eq (tgt := 30) hx hb dX12_row_22 (by decide) (fun c_160 => ?_) (fun c_160 => ?_)
    · replace hf := hf.1 c_160
      refine lv_aload_n hx hb dX12_row_30 rfl (lv_at hl 0 rfl) ?_
      refine lv_ldc2 (v := 1819242352) hx hb F.o (F.t _ cst_RX12_109) dX12_row_31 ?_
      refine k_vi (wr := [((d_t 1), ab k 940 r_t_tape), ((d_t 7), ai k 483 r_t_h), ((d_t 10), aj k 16 r_t_reserved), ((d_t 9), aj k 32 r_t_names)]) (rest := []) F hA hB (c_LongTrainModel_isWord l D k a_t d_t i_t j_t (1819242352 : Int64) _  hf) ml_RX12_197 mv_yX12_isWord [0] [1, 2, 3, 4] rfl rfl (by decide) (by decide) (by decide) 0 rfl rfl rfl hl.1 rfl (Nat.le_of_ble_eq_true rfl) ⟨Nat.le_of_ble_eq_true rfl, Nat.le_of_ble_eq_true rfl⟩ ⟨Nat.le_of_ble_eq_true rfl, Nat.le_of_ble_eq_true rfl⟩ dX12_row_34 (fun z_5 w1 H locs hq hB => ?_)
      obtain ⟨h_6, rfl, hf⟩ := hq
      replace hB : Bd D A s.heap (wd_LongTrainModel_row k a_t d_t i_t j_t r_t_tape r_t_h r_t_reserved r_t_names) H locs := hB.sub [4, 0, 1, 2, 3] (by decide) rfl
      refine lv_if_eq (tgt := 45) hx hb dX12_row_37 (by decide) (fun c_153 => ?_) (fun c_153 => ?_)
      · replace hf := hf.1 c_153
        refine lv_aload_n hx hb dX12_row_45 rfl (lv_at hl 0 rfl) ?_
        refine lv_ldc2 (v := 512735276910) hx hb F.o (F.t _ cst_RX12_111) dX12_row_46 ?_
        refine k_vi (wr := [((d_t 1), ab k 940 r_t_tape), ((d_t 7), ai k 483 r_t_h), ((d_t 10), aj k 16 r_t_reserved), ((d_t 9), aj k 32 r_t_names)]) (rest := []) F hA hB (c_LongTrainModel_isWord l D k a_t d_t i_t j_t (512735276910 : Int64) _  hf) ml_RX12_197 mv_yX12_isWord [0] [1, 2, 3, 4] rfl rfl (by decide) (by decide) (by decide) 0 rfl rfl rfl hl.1 rfl (Nat.le_of_ble_eq_true rfl) ⟨Nat.le_of_ble_eq_true rfl, Nat.le_of_ble_eq_true rfl⟩ ⟨Nat.le_of_ble_eq_true rfl, Nat.le_of_ble_eq_true rfl⟩ dX12_row_49 (fun z_7 w1 H locs hq hB => ?_)
        obtain ⟨h_8, rfl, hf⟩ := hq
        replace hB : Bd D A s.heap (wd_LongTrainModel_row k a_t d_t i_t j_t r_t_tape r_t_h r_t_reserved r_t_names) H locs := hB.sub [4, 0, 1, 2, 3] (by decide) rfl
        refine lv_if_eq (tgt := 60) hx hb dX12_row_52 (by decide) (fun c_147 => ?_) (fun c_147 => ?_)
        · replace hf := hf.1 c_147
          refine lv_aload_n hx hb dX12_row_60 rfl (lv_at hl 0 rfl) ?_
          refine lv_ldc2 (v := 1633969267) hx hb F.o (F.t _ cst_RX12_113) dX12_row_61 ?_
          refine k_vi (wr := [((d_t 1), ab k 940 r_t_tape), ((d_t 7), ai k 483 r_t_h), ((d_t 10), aj k 16 r_t_reserved), ((d_t 9), aj k 32 r_t_names)]) (rest := []) F hA hB (c_LongTrainModel_isWord l D k a_t d_t i_t j_t (1633969267 : Int64) _  hf) ml_RX12_197 mv_yX12_isWord [0] [1, 2, 3, 4] rfl rfl (by decide) (by decide) (by decide) 0 rfl rfl rfl hl.1 rfl (Nat.le_of_ble_eq_true rfl) ⟨Nat.le_of_ble_eq_true rfl, Nat.le_of_ble_eq_true rfl⟩ ⟨Nat.le_of_ble_eq_true rfl, Nat.le_of_ble_eq_true rfl⟩ dX12_row_64 (fun z_9 w1 H locs hq hB => ?_)
          obtain ⟨h_10, rfl, hf⟩ := hq
          replace hB : Bd D A s.heap (wd_LongTrainModel_row k a_t d_t i_t j_t r_t_tape r_t_h r_t_reserved r_t_names) H locs := hB.sub [4, 0, 1, 2, 3] (by decide) rfl
          refine lv_if_eq (tgt := 190) hx hb dX12_row_67 (by decide) (fun c_140 => ?_) (fun c_140 => ?_)
          · replace hf := hf.1 c_140
            refine lv_aload_n hx hb dX12_row_190 rfl (lv_at hl 0 rfl) ?_
            refine lv_ldc2 (v := 111524855770725) hx hb F.o (F.t _ cst_RX12_115) dX12_row_191 ?_
            refine k_vi (wr := [((d_t 1), ab k 940 r_t_tape), ((d_t 7), ai k 483 r_t_h), ((d_t 10), aj k 16 r_t_reserved), ((d_t 9), aj k 32 r_t_names)]) (rest := []) F hA hB (c_LongTrainModel_isWord l D k a_t d_t i_t j_t (111524855770725 : Int64) _  hf) ml_RX12_197 mv_yX12_isWord [0] [1, 2, 3, 4] rfl rfl (by decide) (by decide) (by decide) 0 rfl rfl rfl hl.1 rfl (Nat.le_of_ble_eq_true rfl) ⟨Nat.le_of_ble_eq_true rfl, Nat.le_of_ble_eq_true rfl⟩ ⟨Nat.le_of_ble_eq_true rfl, Nat.le_of_ble_eq_true rfl⟩ dX12_row_194 (fun z_11 w1 H locs hq hB => ?_)
            obtain ⟨h_12, rfl, hf⟩ := hq
            replace hB : Bd D A s.heap (wd_LongTrainModel_row k a_t d_t i_t j_t r_t_tape r_t_h r_t_reserved r_t_names) H locs := hB.sub [4, 0, 1, 2, 3] (by decide) rfl
            refine lv_if_eq (tgt := 257) hx hb dX12_row_197 (by decide) (fun c_103 => ?_) (fun c_103 => ?_)
            · replace hf := hf.1 c_103
              refine lv_aload_n hx hb dX12_row_257 rfl (lv_at hl 0 rfl) ?_
              refine lv_ldc2 (v := 7501154) hx hb F.o (F.t _ cst_RX12_117) dX12_row_258 ?_
              refine k_vi (wr := [((d_t 1), ab k 940 r_t_tape), ((d_t 7), ai k 483 r_t_h), ((d_t 10), aj k 16 r_t_reserved), ((d_t 9), aj k 32 r_t_names)]) (rest := []) F hA hB (c_LongTrainModel_isWord l D k a_t d_t i_t j_t (7501154 : Int64) _  hf) ml_RX12_197 mv_yX12_isWord [0] [1, 2, 3, 4] rfl rfl (by decide) (by decide) (by decide) 0 rfl rfl rfl hl.1 rfl (Nat.le_of_ble_eq_true rfl) ⟨Nat.le_of_ble_eq_true rfl, Nat.le_of_ble_eq_true rfl⟩ ⟨Nat.le_of_ble_eq_true rfl, Nat.le_of_ble_eq_true rfl⟩ dX12_row_261 (fun z_13 w1 H locs hq hB => ?_)
              obtain ⟨h_14, rfl, hf⟩ := hq
              replace hB : Bd D A s.heap (wd_LongTrainModel_row k a_t d_t i_t j_t r_t_tape r_t_h r_t_reserved r_t_names) H locs := hB.sub [4, 0, 1, 2, 3] (by decide) rfl
              refine lv_if_eq (tgt := 293) hx hb dX12_row_264 (by decide) (fun c_85 => ?_) (fun c_85 => ?_)
              · replace hf := hf.1 c_85
                refine lv_aload_n hx hb dX12_row_293 rfl (lv_at hl 0 rfl) ?_
                refine lv_ldc2 (v := 1935765092) hx hb F.o (F.t _ cst_RX12_119) dX12_row_294 ?_
                refine k_vi (wr := [((d_t 1), ab k 940 r_t_tape), ((d_t 7), ai k 483 r_t_h), ((d_t 10), aj k 16 r_t_reserved), ((d_t 9), aj k 32 r_t_names)]) (rest := []) F hA hB (c_LongTrainModel_isWord l D k a_t d_t i_t j_t (1935765092 : Int64) _  hf) ml_RX12_197 mv_yX12_isWord [0] [1, 2, 3, 4] rfl rfl (by decide) (by decide) (by decide) 0 rfl rfl rfl hl.1 rfl (Nat.le_of_ble_eq_true rfl) ⟨Nat.le_of_ble_eq_true rfl, Nat.le_of_ble_eq_true rfl⟩ ⟨Nat.le_of_ble_eq_true rfl, Nat.le_of_ble_eq_true rfl⟩ dX12_row_297 (fun z_15 w1 H locs hq hB => ?_)
                obtain ⟨h_16, rfl, hf⟩ := hq
                replace hB : Bd D A s.heap (wd_LongTrainModel_row k a_t d_t i_t j_t r_t_tape r_t_h r_t_reserved r_t_names) H locs := hB.sub [4, 0, 1, 2, 3] (by decide) rfl
                refine lv_if_eq (tgt := 329) hx hb dX12_row_300 (by decide) (fun c_73 => ?_) (fun c_73 => ?_)
                · replace hf := hf.1 c_73
                  refine lv_aload_n hx hb dX12_row_329 rfl (lv_at hl 0 rfl) ?_
                  refine lv_ldc2 (v := 2003132786) hx hb F.o (F.t _ cst_RX12_121) dX12_row_330 ?_
                  refine k_vi (wr := [((d_t 1), ab k 940 r_t_tape), ((d_t 7), ai k 483 r_t_h), ((d_t 10), aj k 16 r_t_reserved), ((d_t 9), aj k 32 r_t_names)]) (rest := []) F hA hB (c_LongTrainModel_isWord l D k a_t d_t i_t j_t (2003132786 : Int64) _  hf) ml_RX12_197 mv_yX12_isWord [0] [1, 2, 3, 4] rfl rfl (by decide) (by decide) (by decide) 0 rfl rfl rfl hl.1 rfl (Nat.le_of_ble_eq_true rfl) ⟨Nat.le_of_ble_eq_true rfl, Nat.le_of_ble_eq_true rfl⟩ ⟨Nat.le_of_ble_eq_true rfl, Nat.le_of_ble_eq_true rfl⟩ dX12_row_333 (fun z_17 w1 H locs hq hB => ?_)
                  obtain ⟨h_18, rfl, hf⟩ := hq
                  replace hB : Bd D A s.heap (wd_LongTrainModel_row k a_t d_t i_t j_t r_t_tape r_t_h r_t_reserved r_t_names) H locs := hB.sub [4, 0, 1, 2, 3] (by decide) rfl
                  refine lv_if_eq (tgt := 365) hx hb dX12_row_336 (by decide) (fun c_61 => ?_) (fun c_61 => ?_)
                  · replace hf := hf.1 c_61
                    refine lv_aload_n hx hb dX12_row_365 rfl (lv_at hl 0 rfl) ?_
                    refine lv_ldc2 (v := 2002873451) hx hb F.o (F.t _ cst_RX12_123) dX12_row_366 ?_
                    refine k_vi (wr := [((d_t 1), ab k 940 r_t_tape), ((d_t 7), ai k 483 r_t_h), ((d_t 10), aj k 16 r_t_reserved), ((d_t 9), aj k 32 r_t_names)]) (rest := []) F hA hB (c_LongTrainModel_isWord l D k a_t d_t i_t j_t (2002873451 : Int64) _  hf) ml_RX12_197 mv_yX12_isWord [0] [1, 2, 3, 4] rfl rfl (by decide) (by decide) (by decide) 0 rfl rfl rfl hl.1 rfl (Nat.le_of_ble_eq_true rfl) ⟨Nat.le_of_ble_eq_true rfl, Nat.le_of_ble_eq_true rfl⟩ ⟨Nat.le_of_ble_eq_true rfl, Nat.le_of_ble_eq_true rfl⟩ dX12_row_369 (fun z_19 w1 H locs hq hB => ?_)
                    obtain ⟨h_20, rfl, hf⟩ := hq
                    replace hB : Bd D A s.heap (wd_LongTrainModel_row k a_t d_t i_t j_t r_t_tape r_t_h r_t_reserved r_t_names) H locs := hB.sub [4, 0, 1, 2, 3] (by decide) rfl
                    refine lv_if_eq (tgt := 401) hx hb dX12_row_372 (by decide) (fun c_49 => ?_) (fun c_49 => ?_)
                    · replace hf := hf.1 c_49
                      refine lv_aload_n hx hb dX12_row_401 rfl (lv_at hl 0 rfl) ?_
                      refine lv_ldc2 (v := 500135192942) hx hb F.o (F.t _ cst_RX12_125) dX12_row_402 ?_
                      refine k_vi (wr := [((d_t 1), ab k 940 r_t_tape), ((d_t 7), ai k 483 r_t_h), ((d_t 10), aj k 16 r_t_reserved), ((d_t 9), aj k 32 r_t_names)]) (rest := []) F hA hB (c_LongTrainModel_isWord l D k a_t d_t i_t j_t (500135192942 : Int64) _  hf) ml_RX12_197 mv_yX12_isWord [0] [1, 2, 3, 4] rfl rfl (by decide) (by decide) (by decide) 0 rfl rfl rfl hl.1 rfl (Nat.le_of_ble_eq_true rfl) ⟨Nat.le_of_ble_eq_true rfl, Nat.le_of_ble_eq_true rfl⟩ ⟨Nat.le_of_ble_eq_true rfl, Nat.le_of_ble_eq_true rfl⟩ dX12_row_405 (fun z_21 w1 H locs hq hB => ?_)
                      obtain ⟨h_22, rfl, hf⟩ := hq
                      replace hB : Bd D A s.heap (wd_LongTrainModel_row k a_t d_t i_t j_t r_t_tape r_t_h r_t_reserved r_t_names) H locs := hB.sub [4, 0, 1, 2, 3] (by decide) rfl
                      refine lv_if_eq (tgt := 434) hx hb dX12_row_408 (by decide) (fun c_37 => ?_) (fun c_37 => ?_)
                      · replace hf := hf.1 c_37
                        refine lv_aload_n hx hb dX12_row_434 rfl (lv_at hl 0 rfl) ?_
                        refine lv_iconst (v := 1) hx hb dX12_row_435 (by decide) ?_
                        refine k_vi (wr := [((d_t 1), ab k 940 r_t_tape), ((d_t 7), ai k 483 r_t_h), ((d_t 10), aj k 16 r_t_reserved), ((d_t 9), aj k 32 r_t_names)]) (rest := []) F hA hB (c_LongTrainModel_bad l D k a_t d_t i_t j_t (1 : Int32) _  hf) ml_RX12_176 mv_yX12_bad [0] [1, 2, 3, 4] rfl rfl (by decide) (by decide) (by decide) 0 rfl rfl rfl hl.1 rfl (Nat.le_of_ble_eq_true rfl) ⟨Nat.le_of_ble_eq_true rfl, Nat.le_of_ble_eq_true rfl⟩ ⟨Nat.le_of_ble_eq_true rfl, Nat.le_of_ble_eq_true rfl⟩ dX12_row_436 (fun z_24 w1 H locs hq hB => ?_)
                        obtain ⟨h_25, i_t_23, rfl, hf⟩ := hq
                        replace hB : Bd D A s.heap (wd_LongTrainModel_row k a_t d_t i_t_23 j_t r_t_tape r_t_h r_t_reserved r_t_names) H locs := hB.sub [4, 0, 1, 2, 3] (by decide) rfl
                        exact r_z F hr hlk hB (h_25) ⟨h_25, _, _, _, _, rfl, hf⟩ dX12_row_439
                      · replace hf := hf.2 c_37
                        refine lv_aload_n hx hb dX12_row_411 rfl (lv_at hl 0 rfl) ?_
                        refine lv_iconst (v := 5) hx hb dX12_row_412 (by decide) ?_
                        refine k_vi (wr := [((d_t 7), ai k 483 r_t_h), ((d_t 10), aj k 16 r_t_reserved), ((d_t 9), aj k 32 r_t_names)]) (rest := []) F hA hB (c_LongTrainModel_isOnce l D k a_t d_t i_t j_t r_t_tape (5 : Int32) _  hf) ml_RX12_213 mv_yX12_isOnce [0, 1] [2, 3, 4] rfl rfl (by decide) (by decide) (by decide) 0 rfl rfl rfl hl.1 rfl (Nat.le_of_ble_eq_true rfl) ⟨Nat.le_of_ble_eq_true rfl, Nat.le_of_ble_eq_true rfl⟩ ⟨Nat.le_of_ble_eq_true rfl, Nat.le_of_ble_eq_true rfl⟩ dX12_row_413 (fun z_28 w1 H locs hq hB => ?_)
                        obtain ⟨h_29, i_t_26, j_t_27, rfl, hf⟩ := hq
                        replace hB : Bd D A s.heap (wd_LongTrainModel_row k a_t d_t i_t_26 j_t_27 r_t_tape r_t_h r_t_reserved r_t_names) H locs := hB.sub [3, 4, 0, 1, 2] (by decide) rfl
                        refine lv_if_eq (tgt := 430) hx hb dX12_row_416 (by decide) (fun c_36 => ?_) (fun c_36 => ?_)
                        · replace hf := hf.1 c_36
                          refine lv_iconst (v := 0) hx hb dX12_row_430 (by decide) ?_
                          refine lv_goto (tgt := 439) hx hb dX12_row_431 (by decide) ?_
                          exact r_z F hr hlk hB (Or.inl rfl) ⟨Or.inl rfl, _, _, _, _, rfl, hf⟩ dX12_row_439
                        · replace hf := hf.2 c_36
                          refine lv_aload_n hx hb dX12_row_419 rfl (lv_at hl 0 rfl) ?_
                          refine k_vi (wr := []) (rest := []) F hA hB (c_LongTrainModel_readTrain l D k a_t d_t i_t_26 j_t_27 r_t_reserved r_t_h r_t_names r_t_tape _  hf) ml_RX12_223 mv_yX12_readTrain [0, 3, 2, 4, 1] [] rfl rfl (by decide) (by decide) (by decide) 0 rfl rfl rfl hl.1 rfl (Nat.le_of_ble_eq_true rfl) ⟨Nat.le_of_ble_eq_true rfl, Nat.le_of_ble_eq_true rfl⟩ ⟨Nat.le_of_ble_eq_true rfl, Nat.le_of_ble_eq_true rfl⟩ dX12_row_420 (fun z_33 w1 H locs hq hB => ?_)
                          obtain ⟨h_34, i_t_30, j_t_31, r_t_h_32, rfl, hf⟩ := hq
                          replace hB : Bd D A s.heap (wd_LongTrainModel_row k a_t d_t i_t_30 j_t_31 r_t_tape r_t_h_32 r_t_reserved r_t_names) H locs := hB.sub [0, 4, 2, 1, 3] (by decide) rfl
                          refine lv_if_eq (tgt := 430) hx hb dX12_row_423 (by decide) (fun c_35 => ?_) (fun c_35 => ?_)
                          · replace hf := hf.1 c_35
                            refine lv_iconst (v := 0) hx hb dX12_row_430 (by decide) ?_
                            refine lv_goto (tgt := 439) hx hb dX12_row_431 (by decide) ?_
                            exact r_z F hr hlk hB (Or.inl rfl) ⟨Or.inl rfl, _, _, _, _, rfl, hf⟩ dX12_row_439
                          · replace hf := hf.2 c_35
                            refine lv_iconst (v := 1) hx hb dX12_row_426 (by decide) ?_
                            refine lv_goto (tgt := 439) hx hb dX12_row_427 (by decide) ?_
                            exact r_z F hr hlk hB (Or.inr rfl) ⟨Or.inr rfl, _, _, _, _, rfl, hf⟩ dX12_row_439
                    · replace hf := hf.2 c_49
                      refine lv_aload_n hx hb dX12_row_375 rfl (lv_at hl 0 rfl) ?_
                      refine lv_iconst (v := 4) hx hb dX12_row_376 (by decide) ?_
                      refine k_vi (wr := [((d_t 7), ai k 483 r_t_h), ((d_t 10), aj k 16 r_t_reserved), ((d_t 9), aj k 32 r_t_names)]) (rest := []) F hA hB (c_LongTrainModel_isOnce l D k a_t d_t i_t j_t r_t_tape (4 : Int32) _  hf) ml_RX12_213 mv_yX12_isOnce [0, 1] [2, 3, 4] rfl rfl (by decide) (by decide) (by decide) 0 rfl rfl rfl hl.1 rfl (Nat.le_of_ble_eq_true rfl) ⟨Nat.le_of_ble_eq_true rfl, Nat.le_of_ble_eq_true rfl⟩ ⟨Nat.le_of_ble_eq_true rfl, Nat.le_of_ble_eq_true rfl⟩ dX12_row_377 (fun z_40 w1 H locs hq hB => ?_)
                      obtain ⟨h_41, i_t_38, j_t_39, rfl, hf⟩ := hq
                      replace hB : Bd D A s.heap (wd_LongTrainModel_row k a_t d_t i_t_38 j_t_39 r_t_tape r_t_h r_t_reserved r_t_names) H locs := hB.sub [3, 4, 0, 1, 2] (by decide) rfl
                      refine lv_if_eq (tgt := 399) hx hb dX12_row_380 (by decide) (fun c_48 => ?_) (fun c_48 => ?_)
                      · replace hf := hf.1 c_48
                        refine lv_iconst (v := 0) hx hb dX12_row_399 (by decide) ?_
                        exact r_z F hr hlk hB (Or.inl rfl) ⟨Or.inl rfl, _, _, _, _, rfl, hf⟩ dX12_row_400
                      · replace hf := hf.2 c_48
                        refine lv_aload_n hx hb dX12_row_383 rfl (lv_at hl 0 rfl) ?_
                        refine lv_bipush (v := 9) hx hb dX12_row_384 (by decide) ?_
                        refine lv_iconst (v := 1) hx hb dX12_row_386 (by decide) ?_
                        refine lv_bipush (v := 9) hx hb dX12_row_387 (by decide) ?_
                        refine k_vi (wr := [((d_t 10), aj k 16 r_t_reserved), ((d_t 9), aj k 32 r_t_names)]) (rest := []) F hA hB (c_LongTrainModel_keeps l D k a_t d_t i_t_38 j_t_39 r_t_tape r_t_h (9 : Int32) (1 : Int32) (9 : Int32) _  hf) ml_RX12_220 mv_yX12_keeps [0, 1, 2] [3, 4] rfl rfl (by decide) (by decide) (by decide) 0 rfl rfl rfl hl.1 rfl (Nat.le_of_ble_eq_true rfl) ⟨Nat.le_of_ble_eq_true rfl, Nat.le_of_ble_eq_true rfl⟩ ⟨Nat.le_of_ble_eq_true rfl, Nat.le_of_ble_eq_true rfl⟩ dX12_row_389 (fun z_45 w1 H locs hq hB => ?_)
                        obtain ⟨h_46, i_t_42, j_t_43, r_t_h_44, rfl, hf⟩ := hq
                        replace hB : Bd D A s.heap (wd_LongTrainModel_row k a_t d_t i_t_42 j_t_43 r_t_tape r_t_h_44 r_t_reserved r_t_names) H locs := hB.sub [2, 3, 4, 0, 1] (by decide) rfl
                        refine lv_if_eq (tgt := 399) hx hb dX12_row_392 (by decide) (fun c_47 => ?_) (fun c_47 => ?_)
                        · replace hf := hf.1 c_47
                          refine lv_iconst (v := 0) hx hb dX12_row_399 (by decide) ?_
                          exact r_z F hr hlk hB (Or.inl rfl) ⟨Or.inl rfl, _, _, _, _, rfl, hf⟩ dX12_row_400
                        · replace hf := hf.2 c_47
                          refine lv_iconst (v := 1) hx hb dX12_row_395 (by decide) ?_
                          refine lv_goto (tgt := 400) hx hb dX12_row_396 (by decide) ?_
                          exact r_z F hr hlk hB (Or.inr rfl) ⟨Or.inr rfl, _, _, _, _, rfl, hf⟩ dX12_row_400
                  · replace hf := hf.2 c_61
                    refine lv_aload_n hx hb dX12_row_339 rfl (lv_at hl 0 rfl) ?_
                    refine lv_iconst (v := 3) hx hb dX12_row_340 (by decide) ?_
                    refine k_vi (wr := [((d_t 7), ai k 483 r_t_h), ((d_t 10), aj k 16 r_t_reserved), ((d_t 9), aj k 32 r_t_names)]) (rest := []) F hA hB (c_LongTrainModel_isOnce l D k a_t d_t i_t j_t r_t_tape (3 : Int32) _  hf) ml_RX12_213 mv_yX12_isOnce [0, 1] [2, 3, 4] rfl rfl (by decide) (by decide) (by decide) 0 rfl rfl rfl hl.1 rfl (Nat.le_of_ble_eq_true rfl) ⟨Nat.le_of_ble_eq_true rfl, Nat.le_of_ble_eq_true rfl⟩ ⟨Nat.le_of_ble_eq_true rfl, Nat.le_of_ble_eq_true rfl⟩ dX12_row_341 (fun z_52 w1 H locs hq hB => ?_)
                    obtain ⟨h_53, i_t_50, j_t_51, rfl, hf⟩ := hq
                    replace hB : Bd D A s.heap (wd_LongTrainModel_row k a_t d_t i_t_50 j_t_51 r_t_tape r_t_h r_t_reserved r_t_names) H locs := hB.sub [3, 4, 0, 1, 2] (by decide) rfl
                    refine lv_if_eq (tgt := 363) hx hb dX12_row_344 (by decide) (fun c_60 => ?_) (fun c_60 => ?_)
                    · replace hf := hf.1 c_60
                      refine lv_iconst (v := 0) hx hb dX12_row_363 (by decide) ?_
                      exact r_z F hr hlk hB (Or.inl rfl) ⟨Or.inl rfl, _, _, _, _, rfl, hf⟩ dX12_row_364
                    · replace hf := hf.2 c_60
                      refine lv_aload_n hx hb dX12_row_347 rfl (lv_at hl 0 rfl) ?_
                      refine lv_bipush (v := 8) hx hb dX12_row_348 (by decide) ?_
                      refine lv_iconst (v := 1) hx hb dX12_row_350 (by decide) ?_
                      refine lv_bipush (v := 99) hx hb dX12_row_351 (by decide) ?_
                      refine k_vi (wr := [((d_t 10), aj k 16 r_t_reserved), ((d_t 9), aj k 32 r_t_names)]) (rest := []) F hA hB (c_LongTrainModel_keeps l D k a_t d_t i_t_50 j_t_51 r_t_tape r_t_h (8 : Int32) (1 : Int32) (99 : Int32) _  hf) ml_RX12_220 mv_yX12_keeps [0, 1, 2] [3, 4] rfl rfl (by decide) (by decide) (by decide) 0 rfl rfl rfl hl.1 rfl (Nat.le_of_ble_eq_true rfl) ⟨Nat.le_of_ble_eq_true rfl, Nat.le_of_ble_eq_true rfl⟩ ⟨Nat.le_of_ble_eq_true rfl, Nat.le_of_ble_eq_true rfl⟩ dX12_row_353 (fun z_57 w1 H locs hq hB => ?_)
                      obtain ⟨h_58, i_t_54, j_t_55, r_t_h_56, rfl, hf⟩ := hq
                      replace hB : Bd D A s.heap (wd_LongTrainModel_row k a_t d_t i_t_54 j_t_55 r_t_tape r_t_h_56 r_t_reserved r_t_names) H locs := hB.sub [2, 3, 4, 0, 1] (by decide) rfl
                      refine lv_if_eq (tgt := 363) hx hb dX12_row_356 (by decide) (fun c_59 => ?_) (fun c_59 => ?_)
                      · replace hf := hf.1 c_59
                        refine lv_iconst (v := 0) hx hb dX12_row_363 (by decide) ?_
                        exact r_z F hr hlk hB (Or.inl rfl) ⟨Or.inl rfl, _, _, _, _, rfl, hf⟩ dX12_row_364
                      · replace hf := hf.2 c_59
                        refine lv_iconst (v := 1) hx hb dX12_row_359 (by decide) ?_
                        refine lv_goto (tgt := 364) hx hb dX12_row_360 (by decide) ?_
                        exact r_z F hr hlk hB (Or.inr rfl) ⟨Or.inr rfl, _, _, _, _, rfl, hf⟩ dX12_row_364
                · replace hf := hf.2 c_73
                  refine lv_aload_n hx hb dX12_row_303 rfl (lv_at hl 0 rfl) ?_
                  refine lv_iconst (v := 2) hx hb dX12_row_304 (by decide) ?_
                  refine k_vi (wr := [((d_t 7), ai k 483 r_t_h), ((d_t 10), aj k 16 r_t_reserved), ((d_t 9), aj k 32 r_t_names)]) (rest := []) F hA hB (c_LongTrainModel_isOnce l D k a_t d_t i_t j_t r_t_tape (2 : Int32) _  hf) ml_RX12_213 mv_yX12_isOnce [0, 1] [2, 3, 4] rfl rfl (by decide) (by decide) (by decide) 0 rfl rfl rfl hl.1 rfl (Nat.le_of_ble_eq_true rfl) ⟨Nat.le_of_ble_eq_true rfl, Nat.le_of_ble_eq_true rfl⟩ ⟨Nat.le_of_ble_eq_true rfl, Nat.le_of_ble_eq_true rfl⟩ dX12_row_305 (fun z_64 w1 H locs hq hB => ?_)
                  obtain ⟨h_65, i_t_62, j_t_63, rfl, hf⟩ := hq
                  replace hB : Bd D A s.heap (wd_LongTrainModel_row k a_t d_t i_t_62 j_t_63 r_t_tape r_t_h r_t_reserved r_t_names) H locs := hB.sub [3, 4, 0, 1, 2] (by decide) rfl
                  refine lv_if_eq (tgt := 327) hx hb dX12_row_308 (by decide) (fun c_72 => ?_) (fun c_72 => ?_)
                  · replace hf := hf.1 c_72
                    refine lv_iconst (v := 0) hx hb dX12_row_327 (by decide) ?_
                    exact r_z F hr hlk hB (Or.inl rfl) ⟨Or.inl rfl, _, _, _, _, rfl, hf⟩ dX12_row_328
                  · replace hf := hf.2 c_72
                    refine lv_aload_n hx hb dX12_row_311 rfl (lv_at hl 0 rfl) ?_
                    refine lv_bipush (v := 7) hx hb dX12_row_312 (by decide) ?_
                    refine lv_iconst (v := 0) hx hb dX12_row_314 (by decide) ?_
                    refine lv_bipush (v := 99) hx hb dX12_row_315 (by decide) ?_
                    refine k_vi (wr := [((d_t 10), aj k 16 r_t_reserved), ((d_t 9), aj k 32 r_t_names)]) (rest := []) F hA hB (c_LongTrainModel_keeps l D k a_t d_t i_t_62 j_t_63 r_t_tape r_t_h (7 : Int32) (0 : Int32) (99 : Int32) _  hf) ml_RX12_220 mv_yX12_keeps [0, 1, 2] [3, 4] rfl rfl (by decide) (by decide) (by decide) 0 rfl rfl rfl hl.1 rfl (Nat.le_of_ble_eq_true rfl) ⟨Nat.le_of_ble_eq_true rfl, Nat.le_of_ble_eq_true rfl⟩ ⟨Nat.le_of_ble_eq_true rfl, Nat.le_of_ble_eq_true rfl⟩ dX12_row_317 (fun z_69 w1 H locs hq hB => ?_)
                    obtain ⟨h_70, i_t_66, j_t_67, r_t_h_68, rfl, hf⟩ := hq
                    replace hB : Bd D A s.heap (wd_LongTrainModel_row k a_t d_t i_t_66 j_t_67 r_t_tape r_t_h_68 r_t_reserved r_t_names) H locs := hB.sub [2, 3, 4, 0, 1] (by decide) rfl
                    refine lv_if_eq (tgt := 327) hx hb dX12_row_320 (by decide) (fun c_71 => ?_) (fun c_71 => ?_)
                    · replace hf := hf.1 c_71
                      refine lv_iconst (v := 0) hx hb dX12_row_327 (by decide) ?_
                      exact r_z F hr hlk hB (Or.inl rfl) ⟨Or.inl rfl, _, _, _, _, rfl, hf⟩ dX12_row_328
                    · replace hf := hf.2 c_71
                      refine lv_iconst (v := 1) hx hb dX12_row_323 (by decide) ?_
                      refine lv_goto (tgt := 328) hx hb dX12_row_324 (by decide) ?_
                      exact r_z F hr hlk hB (Or.inr rfl) ⟨Or.inr rfl, _, _, _, _, rfl, hf⟩ dX12_row_328
              · replace hf := hf.2 c_85
                refine lv_aload_n hx hb dX12_row_267 rfl (lv_at hl 0 rfl) ?_
                refine lv_iconst (v := 1) hx hb dX12_row_268 (by decide) ?_
                refine k_vi (wr := [((d_t 7), ai k 483 r_t_h), ((d_t 10), aj k 16 r_t_reserved), ((d_t 9), aj k 32 r_t_names)]) (rest := []) F hA hB (c_LongTrainModel_isOnce l D k a_t d_t i_t j_t r_t_tape (1 : Int32) _  hf) ml_RX12_213 mv_yX12_isOnce [0, 1] [2, 3, 4] rfl rfl (by decide) (by decide) (by decide) 0 rfl rfl rfl hl.1 rfl (Nat.le_of_ble_eq_true rfl) ⟨Nat.le_of_ble_eq_true rfl, Nat.le_of_ble_eq_true rfl⟩ ⟨Nat.le_of_ble_eq_true rfl, Nat.le_of_ble_eq_true rfl⟩ dX12_row_269 (fun z_76 w1 H locs hq hB => ?_)
                obtain ⟨h_77, i_t_74, j_t_75, rfl, hf⟩ := hq
                replace hB : Bd D A s.heap (wd_LongTrainModel_row k a_t d_t i_t_74 j_t_75 r_t_tape r_t_h r_t_reserved r_t_names) H locs := hB.sub [3, 4, 0, 1, 2] (by decide) rfl
                refine lv_if_eq (tgt := 291) hx hb dX12_row_272 (by decide) (fun c_84 => ?_) (fun c_84 => ?_)
                · replace hf := hf.1 c_84
                  refine lv_iconst (v := 0) hx hb dX12_row_291 (by decide) ?_
                  exact r_z F hr hlk hB (Or.inl rfl) ⟨Or.inl rfl, _, _, _, _, rfl, hf⟩ dX12_row_292
                · replace hf := hf.2 c_84
                  refine lv_aload_n hx hb dX12_row_275 rfl (lv_at hl 0 rfl) ?_
                  refine lv_bipush (v := 6) hx hb dX12_row_276 (by decide) ?_
                  refine lv_iconst (v := 0) hx hb dX12_row_278 (by decide) ?_
                  refine lv_bipush (v := 9) hx hb dX12_row_279 (by decide) ?_
                  refine k_vi (wr := [((d_t 10), aj k 16 r_t_reserved), ((d_t 9), aj k 32 r_t_names)]) (rest := []) F hA hB (c_LongTrainModel_keeps l D k a_t d_t i_t_74 j_t_75 r_t_tape r_t_h (6 : Int32) (0 : Int32) (9 : Int32) _  hf) ml_RX12_220 mv_yX12_keeps [0, 1, 2] [3, 4] rfl rfl (by decide) (by decide) (by decide) 0 rfl rfl rfl hl.1 rfl (Nat.le_of_ble_eq_true rfl) ⟨Nat.le_of_ble_eq_true rfl, Nat.le_of_ble_eq_true rfl⟩ ⟨Nat.le_of_ble_eq_true rfl, Nat.le_of_ble_eq_true rfl⟩ dX12_row_281 (fun z_81 w1 H locs hq hB => ?_)
                  obtain ⟨h_82, i_t_78, j_t_79, r_t_h_80, rfl, hf⟩ := hq
                  replace hB : Bd D A s.heap (wd_LongTrainModel_row k a_t d_t i_t_78 j_t_79 r_t_tape r_t_h_80 r_t_reserved r_t_names) H locs := hB.sub [2, 3, 4, 0, 1] (by decide) rfl
                  refine lv_if_eq (tgt := 291) hx hb dX12_row_284 (by decide) (fun c_83 => ?_) (fun c_83 => ?_)
                  · replace hf := hf.1 c_83
                    refine lv_iconst (v := 0) hx hb dX12_row_291 (by decide) ?_
                    exact r_z F hr hlk hB (Or.inl rfl) ⟨Or.inl rfl, _, _, _, _, rfl, hf⟩ dX12_row_292
                  · replace hf := hf.2 c_83
                    refine lv_iconst (v := 1) hx hb dX12_row_287 (by decide) ?_
                    refine lv_goto (tgt := 292) hx hb dX12_row_288 (by decide) ?_
                    exact r_z F hr hlk hB (Or.inr rfl) ⟨Or.inr rfl, _, _, _, _, rfl, hf⟩ dX12_row_292
            · replace hf := hf.2 c_103
              refine lv_aload_n hx hb dX12_row_200 rfl (lv_at hl 0 rfl) ?_
              refine lv_iconst (v := 0) hx hb dX12_row_201 (by decide) ?_
              refine k_vi (wr := [((d_t 7), ai k 483 r_t_h), ((d_t 10), aj k 16 r_t_reserved), ((d_t 9), aj k 32 r_t_names)]) (rest := []) F hA hB (c_LongTrainModel_isOnce l D k a_t d_t i_t j_t r_t_tape (0 : Int32) _  hf) ml_RX12_213 mv_yX12_isOnce [0, 1] [2, 3, 4] rfl rfl (by decide) (by decide) (by decide) 0 rfl rfl rfl hl.1 rfl (Nat.le_of_ble_eq_true rfl) ⟨Nat.le_of_ble_eq_true rfl, Nat.le_of_ble_eq_true rfl⟩ ⟨Nat.le_of_ble_eq_true rfl, Nat.le_of_ble_eq_true rfl⟩ dX12_row_202 (fun z_88 w1 H locs hq hB => ?_)
              obtain ⟨h_89, i_t_86, j_t_87, rfl, hf⟩ := hq
              replace hB : Bd D A s.heap (wd_LongTrainModel_row k a_t d_t i_t_86 j_t_87 r_t_tape r_t_h r_t_reserved r_t_names) H locs := hB.sub [3, 4, 0, 1, 2] (by decide) rfl
              refine lv_if_ne (tgt := 210) hx hb dX12_row_205 (by decide) (fun c_102 => ?_) (fun c_102 => ?_)
              · replace hf := hf.1 c_102
                refine lv_aload_n hx hb dX12_row_210 rfl (lv_at hl 0 rfl) ?_
                refine lv_iconst (v := 1) hx hb dX12_row_211 (by decide) ?_
                refine lv_sipush (v := 999) hx hb dX12_row_212 (by decide) ?_
                refine k_vi (wr := [((d_t 7), ai k 483 r_t_h), ((d_t 10), aj k 16 r_t_reserved), ((d_t 9), aj k 32 r_t_names)]) (rest := []) F hA hB (c_LongTrainModel_takes l D k a_t d_t i_t_86 j_t_87 r_t_tape (1 : Int32) (999 : Int32) _  hf) ml_RX12_216 mv_yX12_takes [0, 1] [2, 3, 4] rfl rfl (by decide) (by decide) (by decide) 0 rfl rfl rfl hl.1 rfl (Nat.le_of_ble_eq_true rfl) ⟨Nat.le_of_ble_eq_true rfl, Nat.le_of_ble_eq_true rfl⟩ ⟨Nat.le_of_ble_eq_true rfl, Nat.le_of_ble_eq_true rfl⟩ dX12_row_215 (fun z_92 w1 H locs hq hB => ?_)
                obtain ⟨h_93, i_t_90, j_t_91, rfl, hf⟩ := hq
                replace hB : Bd D A s.heap (wd_LongTrainModel_row k a_t d_t i_t_90 j_t_91 r_t_tape r_t_h r_t_reserved r_t_names) H locs := hB.sub [3, 4, 0, 1, 2] (by decide) rfl
                refine lv_if_ne (tgt := 223) hx hb dX12_row_218 (by decide) (fun c_101 => ?_) (fun c_101 => ?_)
                · replace hf := hf.1 c_101
                  refine lv_aload_n hx hb dX12_row_223 rfl (lv_at hl 0 rfl) ?_
                  refine g_get (w := .ref (d_t 7)) F hB 0 rfl fl_RX12_37 rfl dX12_row_224 ?_
                  refine lv_iconst (v := 4) hx hb dX12_row_227 (by decide) ?_
                  refine lv_aload_n hx hb dX12_row_228 rfl (lv_at hl 0 rfl) ?_
                  refine g_get (w := .int (i_t_90 18)) F hB 0 rfl fl_RX12_186 rfl dX12_row_229 ?_
                  refine g_iast F hB 2 rfl (vp_in_iff.mpr (by decide +kernel)) (wd_LongTrainModel_row k a_t d_t i_t_90 j_t_91 r_t_tape (upd r_t_h 4 (i_t_90 18)) r_t_reserved r_t_names) rfl dX12_row_232 (fun H locs hB => ?_)
                  refine lv_aload_n hx hb dX12_row_233 rfl (lv_at hl 0 rfl) ?_
                  refine lv_iconst (v := 1) hx hb dX12_row_234 (by decide) ?_
                  refine lv_bipush (v := 99) hx hb dX12_row_235 (by decide) ?_
                  refine k_vi (wr := [((d_t 7), ai k 483 (upd r_t_h 4 (i_t_90 18))), ((d_t 10), aj k 16 r_t_reserved), ((d_t 9), aj k 32 r_t_names)]) (rest := []) F hA hB (c_LongTrainModel_takes l D k a_t d_t i_t_90 j_t_91 r_t_tape (1 : Int32) (99 : Int32) _  hf) ml_RX12_216 mv_yX12_takes [0, 1] [2, 3, 4] rfl rfl (by decide) (by decide) (by decide) 0 rfl rfl rfl hl.1 rfl (Nat.le_of_ble_eq_true rfl) ⟨Nat.le_of_ble_eq_true rfl, Nat.le_of_ble_eq_true rfl⟩ ⟨Nat.le_of_ble_eq_true rfl, Nat.le_of_ble_eq_true rfl⟩ dX12_row_237 (fun z_97 w1 H locs hq hB => ?_)
                  obtain ⟨h_98, i_t_95, j_t_96, rfl, hf⟩ := hq
                  replace hB : Bd D A s.heap (wd_LongTrainModel_row k a_t d_t i_t_95 j_t_96 r_t_tape (upd r_t_h 4 (i_t_90 18)) r_t_reserved r_t_names) H locs := hB.sub [3, 4, 0, 1, 2] (by decide) rfl
                  refine lv_if_ne (tgt := 245) hx hb dX12_row_240 (by decide) (fun c_100 => ?_) (fun c_100 => ?_)
                  · replace hf := hf.1 c_100
                    refine lv_aload_n hx hb dX12_row_245 rfl (lv_at hl 0 rfl) ?_
                    refine g_get (w := .ref (d_t 7)) F hB 0 rfl fl_RX12_37 rfl dX12_row_246 ?_
                    refine lv_iconst (v := 5) hx hb dX12_row_249 (by decide) ?_
                    refine lv_aload_n hx hb dX12_row_250 rfl (lv_at hl 0 rfl) ?_
                    refine g_get (w := .int (i_t_95 18)) F hB 0 rfl fl_RX12_186 rfl dX12_row_251 ?_
                    refine g_iast F hB 2 rfl (vp_in_iff.mpr (by decide +kernel)) (wd_LongTrainModel_row k a_t d_t i_t_95 j_t_96 r_t_tape (upd (upd r_t_h 4 (i_t_90 18)) 5 (i_t_95 18)) r_t_reserved r_t_names) rfl dX12_row_254 (fun H locs hB => ?_)
                    refine lv_iconst (v := 1) hx hb dX12_row_255 (by decide) ?_
                    exact r_z F hr hlk hB (Or.inr rfl) ⟨Or.inr rfl, _, _, _, _, rfl, hf⟩ dX12_row_256
                  · replace hf := hf.2 c_100
                    refine lv_iconst (v := 0) hx hb dX12_row_243 (by decide) ?_
                    exact r_z F hr hlk hB (Or.inl rfl) ⟨Or.inl rfl, _, _, _, _, rfl, hf⟩ dX12_row_244
                · replace hf := hf.2 c_101
                  refine lv_iconst (v := 0) hx hb dX12_row_221 (by decide) ?_
                  exact r_z F hr hlk hB (Or.inl rfl) ⟨Or.inl rfl, _, _, _, _, rfl, hf⟩ dX12_row_222
              · replace hf := hf.2 c_102
                refine lv_iconst (v := 0) hx hb dX12_row_208 (by decide) ?_
                exact r_z F hr hlk hB (Or.inl rfl) ⟨Or.inl rfl, _, _, _, _, rfl, hf⟩ dX12_row_209
          · replace hf := hf.2 c_140
            refine lv_aload_n hx hb dX12_row_70 rfl (lv_at hl 0 rfl) ?_
            refine k_vv (wr := [((d_t 7), ai k 483 r_t_h), ((d_t 10), aj k 16 r_t_reserved), ((d_t 9), aj k 32 r_t_names)]) (rest := []) F hA hB (c_LongTrainModel_next l D k a_t d_t i_t j_t r_t_tape _  hf) ml_RX12_179 mv_yX12_next [0, 1] [2, 3, 4] rfl rfl (by decide) (by decide) (by decide) 0 rfl rfl rfl hl.1 rfl (Nat.le_of_ble_eq_true rfl) ⟨Nat.le_of_ble_eq_true rfl, Nat.le_of_ble_eq_true rfl⟩ ⟨Nat.le_of_ble_eq_true rfl, Nat.le_of_ble_eq_true rfl⟩ dX12_row_71 (fun w1 H locs hq hB => ?_)
            obtain ⟨i_t_104, j_t_105, rfl, hf⟩ := hq
            replace hB : Bd D A s.heap (wd_LongTrainModel_row k a_t d_t i_t_104 j_t_105 r_t_tape r_t_h r_t_reserved r_t_names) H locs := hB.sub [3, 4, 0, 1, 2] (by decide) rfl
            refine lv_aload_n hx hb dX12_row_74 rfl (lv_at hl 0 rfl) ?_
            refine k_vi (wr := [((d_t 1), ab k 940 r_t_tape), ((d_t 7), ai k 483 r_t_h), ((d_t 9), aj k 32 r_t_names)]) (rest := []) F hA hB (c_LongTrainModel_isName l D k a_t d_t i_t_104 j_t_105 r_t_reserved _  hf) ml_RX12_189 mv_yX12_isName [0, 3] [1, 2, 4] rfl rfl (by decide) (by decide) (by decide) 0 rfl rfl rfl hl.1 rfl (Nat.le_of_ble_eq_true rfl) ⟨Nat.le_of_ble_eq_true rfl, Nat.le_of_ble_eq_true rfl⟩ ⟨Nat.le_of_ble_eq_true rfl, Nat.le_of_ble_eq_true rfl⟩ dX12_row_75 (fun z_106 w1 H locs hq hB => ?_)
            obtain ⟨h_107, rfl, hf⟩ := hq
            replace hB : Bd D A s.heap (wd_LongTrainModel_row k a_t d_t i_t_104 j_t_105 r_t_tape r_t_h r_t_reserved r_t_names) H locs := hB.sub [3, 0, 1, 4, 2] (by decide) rfl
            refine lv_if_ne (tgt := 87) hx hb dX12_row_78 (by decide) (fun c_139 => ?_) (fun c_139 => ?_)
            · replace hf := hf.1 c_139
              refine lv_aload_n hx hb dX12_row_87 rfl (lv_at hl 0 rfl) ?_
              refine lv_bipush (v := 16) hx hb dX12_row_88 (by decide) ?_
              refine lv_aload_n hx hb dX12_row_90 rfl (lv_at hl 0 rfl) ?_
              refine g_get (w := .ref (d_t 7)) F hB 0 rfl fl_RX12_37 rfl dX12_row_91 ?_
              refine lv_iconst (v := 1) hx hb dX12_row_94 (by decide) ?_
              refine g_iald F hB 2 rfl (vp_in_iff.mpr (by decide +kernel)) dX12_row_95 ?_
              refine W.eq (g2 := F0 m 96 ls [.int (r_t_h 1), .int (16 : Int32), .ref a_t]) rfl ?_
              refine k_vi (wr := [((d_t 1), ab k 940 r_t_tape), ((d_t 7), ai k 483 r_t_h), ((d_t 10), aj k 16 r_t_reserved)]) (rest := []) F hA hB (c_LongTrainModel_find l D k a_t d_t i_t_104 j_t_105 r_t_names (16 : Int32) (r_t_h 1) _  hf) ml_RX12_193 mv_yX12_find [0, 4] [1, 2, 3] rfl rfl (by decide) (by decide) (by decide) 0 rfl rfl rfl hl.1 rfl (Nat.le_of_ble_eq_true rfl) ⟨Nat.le_of_ble_eq_true rfl, Nat.le_of_ble_eq_true rfl⟩ ⟨Nat.le_of_ble_eq_true rfl, Nat.le_of_ble_eq_true rfl⟩ dX12_row_96 (fun z_109 w1 H locs hq hB => ?_)
              obtain ⟨rfl, hf⟩ := hq
              replace hB : Bd D A s.heap (wd_LongTrainModel_row k a_t d_t i_t_104 j_t_105 r_t_tape r_t_h r_t_reserved r_t_names) H locs := hB.sub [3, 0, 1, 2, 4] (by decide) rfl
              refine lv_istore_n (lv' := [(1, .int z_109), (0, .ref a_t)]) hx hb dX12_row_99 rfl hl (by decide) rfl (fun ls hl => ?_)
              refine lv_iload_n hx hb dX12_row_100 rfl (lv_at hl 0 rfl) ?_
              refine lv_if_lt (tgt := 121) hx hb dX12_row_101 (by decide) (fun c_135 => ?_) (fun c_135 => ?_)
              · replace hf := hf.1 c_135
                refine lv_aload_n hx hb dX12_row_121 rfl (lv_at hl 1 rfl) ?_
                refine lv_iconst (v := 3) hx hb dX12_row_122 (by decide) ?_
                refine k_vi (wr := [((d_t 1), ab k 940 r_t_tape), ((d_t 7), ai k 483 r_t_h), ((d_t 10), aj k 16 r_t_reserved), ((d_t 9), aj k 32 r_t_names)]) (rest := []) F hA hB (c_LongTrainModel_bad l D k a_t d_t i_t_104 j_t_105 (3 : Int32) _  hf) ml_RX12_176 mv_yX12_bad [0] [1, 2, 3, 4] rfl rfl (by decide) (by decide) (by decide) 0 rfl rfl rfl hl.1 rfl (Nat.le_of_ble_eq_true rfl) ⟨Nat.le_of_ble_eq_true rfl, Nat.le_of_ble_eq_true rfl⟩ ⟨Nat.le_of_ble_eq_true rfl, Nat.le_of_ble_eq_true rfl⟩ dX12_row_123 (fun z_111 w1 H locs hq hB => ?_)
                obtain ⟨h_112, i_t_110, rfl, hf⟩ := hq
                replace hB : Bd D A s.heap (wd_LongTrainModel_row k a_t d_t i_t_110 j_t_105 r_t_tape r_t_h r_t_reserved r_t_names) H locs := hB.sub [4, 0, 1, 2, 3] (by decide) rfl
                exact r_z F hr hlk hB (h_112) ⟨h_112, _, _, _, _, rfl, hf⟩ dX12_row_126
              · replace hf := hf.2 c_135
                refine lv_aload_n hx hb dX12_row_104 rfl (lv_at hl 1 rfl) ?_
                refine g_get (w := .ref (d_t 7)) F hB 0 rfl fl_RX12_37 rfl dX12_row_105 ?_
                refine lv_sipush (v := 411) hx hb dX12_row_108 (by decide) ?_
                refine lv_iconst (v := 3) hx hb dX12_row_111 (by decide) ?_
                refine lv_iload_n hx hb dX12_row_112 rfl (lv_at hl 0 rfl) ?_
                refine lv_imul hx hb dX12_row_113 ?_
                refine lv_iadd hx hb dX12_row_114 ?_
                refine lv_iconst (v := 2) hx hb dX12_row_115 (by decide) ?_
                refine lv_iadd hx hb dX12_row_116 ?_
                obtain ⟨h_113, hf⟩ := hf
                refine g_iald F hB 2 rfl h_113 dX12_row_117 ?_
                refine lv_if_le (tgt := 127) hx hb dX12_row_118 (by decide) (fun c_134 => ?_) (fun c_134 => ?_)
                · replace hf := hf.1 c_134
                  refine lv_aload_n hx hb dX12_row_127 rfl (lv_at hl 1 rfl) ?_
                  refine k_vv (wr := [((d_t 7), ai k 483 r_t_h), ((d_t 10), aj k 16 r_t_reserved), ((d_t 9), aj k 32 r_t_names)]) (rest := []) F hA hB (c_LongTrainModel_next l D k a_t d_t i_t_104 j_t_105 r_t_tape _  hf) ml_RX12_179 mv_yX12_next [0, 1] [2, 3, 4] rfl rfl (by decide) (by decide) (by decide) 0 rfl rfl rfl hl.1 rfl (Nat.le_of_ble_eq_true rfl) ⟨Nat.le_of_ble_eq_true rfl, Nat.le_of_ble_eq_true rfl⟩ ⟨Nat.le_of_ble_eq_true rfl, Nat.le_of_ble_eq_true rfl⟩ dX12_row_128 (fun w1 H locs hq hB => ?_)
                  obtain ⟨i_t_114, j_t_115, rfl, hf⟩ := hq
                  replace hB : Bd D A s.heap (wd_LongTrainModel_row k a_t d_t i_t_114 j_t_115 r_t_tape r_t_h r_t_reserved r_t_names) H locs := hB.sub [3, 4, 0, 1, 2] (by decide) rfl
                  refine lv_aload_n hx hb dX12_row_131 rfl (lv_at hl 1 rfl) ?_
                  refine k_vi (wr := [((d_t 1), ab k 940 r_t_tape), ((d_t 7), ai k 483 r_t_h), ((d_t 9), aj k 32 r_t_names)]) (rest := []) F hA hB (c_LongTrainModel_isName l D k a_t d_t i_t_114 j_t_115 r_t_reserved _  hf) ml_RX12_189 mv_yX12_isName [0, 3] [1, 2, 4] rfl rfl (by decide) (by decide) (by decide) 0 rfl rfl rfl hl.1 rfl (Nat.le_of_ble_eq_true rfl) ⟨Nat.le_of_ble_eq_true rfl, Nat.le_of_ble_eq_true rfl⟩ ⟨Nat.le_of_ble_eq_true rfl, Nat.le_of_ble_eq_true rfl⟩ dX12_row_132 (fun z_116 w1 H locs hq hB => ?_)
                  obtain ⟨h_117, rfl, hf⟩ := hq
                  replace hB : Bd D A s.heap (wd_LongTrainModel_row k a_t d_t i_t_114 j_t_115 r_t_tape r_t_h r_t_reserved r_t_names) H locs := hB.sub [3, 0, 1, 4, 2] (by decide) rfl
                  refine lv_if_ne (tgt := 144) hx hb dX12_row_135 (by decide) (fun c_130 => ?_) (fun c_130 => ?_)
                  · replace hf := hf.1 c_130
                    refine lv_aload_n hx hb dX12_row_144 rfl (lv_at hl 1 rfl) ?_
                    refine lv_bipush (v := 26) hx hb dX12_row_145 (by decide) ?_
                    refine lv_aload_n hx hb dX12_row_147 rfl (lv_at hl 1 rfl) ?_
                    refine g_get (w := .ref (d_t 7)) F hB 0 rfl fl_RX12_37 rfl dX12_row_148 ?_
                    refine lv_iconst (v := 3) hx hb dX12_row_151 (by decide) ?_
                    refine g_iald F hB 2 rfl (vp_in_iff.mpr (by decide +kernel)) dX12_row_152 ?_
                    refine W.eq (g2 := F0 m 153 ls [.int (r_t_h 3), .int (26 : Int32), .ref a_t]) rfl ?_
                    refine k_vi (wr := [((d_t 1), ab k 940 r_t_tape), ((d_t 7), ai k 483 r_t_h), ((d_t 10), aj k 16 r_t_reserved)]) (rest := []) F hA hB (c_LongTrainModel_find l D k a_t d_t i_t_114 j_t_115 r_t_names (26 : Int32) (r_t_h 3) _  hf) ml_RX12_193 mv_yX12_find [0, 4] [1, 2, 3] rfl rfl (by decide) (by decide) (by decide) 0 rfl rfl rfl hl.1 rfl (Nat.le_of_ble_eq_true rfl) ⟨Nat.le_of_ble_eq_true rfl, Nat.le_of_ble_eq_true rfl⟩ ⟨Nat.le_of_ble_eq_true rfl, Nat.le_of_ble_eq_true rfl⟩ dX12_row_153 (fun z_119 w1 H locs hq hB => ?_)
                    obtain ⟨rfl, hf⟩ := hq
                    replace hB : Bd D A s.heap (wd_LongTrainModel_row k a_t d_t i_t_114 j_t_115 r_t_tape r_t_h r_t_reserved r_t_names) H locs := hB.sub [3, 0, 1, 2, 4] (by decide) rfl
                    refine lv_istore_n (lv' := [(2, .int z_119), (1, .int z_109), (0, .ref a_t)]) hx hb dX12_row_156 rfl hl (by decide) rfl (fun ls hl => ?_)
                    refine lv_iload_n hx hb dX12_row_157 rfl (lv_at hl 0 rfl) ?_
                    refine lv_if_ge (tgt := 167) hx hb dX12_row_158 (by decide) (fun c_126 => ?_) (fun c_126 => ?_)
                    · replace hf := hf.1 c_126
                      refine lv_aload_n hx hb dX12_row_167 rfl (lv_at hl 2 rfl) ?_
                      refine g_get (w := .ref (d_t 7)) F hB 0 rfl fl_RX12_37 rfl dX12_row_168 ?_
                      refine lv_sipush (v := 411) hx hb dX12_row_171 (by decide) ?_
                      refine lv_iconst (v := 3) hx hb dX12_row_174 (by decide) ?_
                      refine lv_iload_n hx hb dX12_row_175 rfl (lv_at hl 1 rfl) ?_
                      refine lv_imul hx hb dX12_row_176 ?_
                      refine lv_iadd hx hb dX12_row_177 ?_
                      refine lv_iconst (v := 2) hx hb dX12_row_178 (by decide) ?_
                      refine lv_iadd hx hb dX12_row_179 ?_
                      refine lv_iload_n hx hb dX12_row_180 rfl (lv_at hl 0 rfl) ?_
                      refine lv_iconst (v := 1) hx hb dX12_row_181 (by decide) ?_
                      refine lv_iadd hx hb dX12_row_182 ?_
                      obtain ⟨h_120, hf⟩ := hf
                      refine g_iast F hB 2 rfl h_120 (wd_LongTrainModel_row k a_t d_t i_t_114 j_t_115 r_t_tape (upd r_t_h ((((411 : Int32) + ((3 : Int32) * z_109)) + (2 : Int32))).toNatClampNeg (z_119 + (1 : Int32))) r_t_reserved r_t_names) rfl dX12_row_183 (fun H locs hB => ?_)
                      refine lv_aload_n hx hb dX12_row_184 rfl (lv_at hl 2 rfl) ?_
                      refine k_vv (wr := [((d_t 7), ai k 483 (upd r_t_h ((((411 : Int32) + ((3 : Int32) * z_109)) + (2 : Int32))).toNatClampNeg (z_119 + (1 : Int32)))), ((d_t 10), aj k 16 r_t_reserved), ((d_t 9), aj k 32 r_t_names)]) (rest := []) F hA hB (c_LongTrainModel_next l D k a_t d_t i_t_114 j_t_115 r_t_tape _  hf) ml_RX12_179 mv_yX12_next [0, 1] [2, 3, 4] rfl rfl (by decide) (by decide) (by decide) 0 rfl rfl rfl hl.1 rfl (Nat.le_of_ble_eq_true rfl) ⟨Nat.le_of_ble_eq_true rfl, Nat.le_of_ble_eq_true rfl⟩ ⟨Nat.le_of_ble_eq_true rfl, Nat.le_of_ble_eq_true rfl⟩ dX12_row_185 (fun w1 H locs hq hB => ?_)
                      obtain ⟨i_t_121, j_t_122, rfl, hf⟩ := hq
                      replace hB : Bd D A s.heap (wd_LongTrainModel_row k a_t d_t i_t_121 j_t_122 r_t_tape (upd r_t_h ((((411 : Int32) + ((3 : Int32) * z_109)) + (2 : Int32))).toNatClampNeg (z_119 + (1 : Int32))) r_t_reserved r_t_names) H locs := hB.sub [3, 4, 0, 1, 2] (by decide) rfl
                      refine lv_iconst (v := 1) hx hb dX12_row_188 (by decide) ?_
                      exact r_z F hr hlk hB (Or.inr rfl) ⟨Or.inr rfl, _, _, _, _, rfl, hf⟩ dX12_row_189
                    · replace hf := hf.2 c_126
                      refine lv_aload_n hx hb dX12_row_161 rfl (lv_at hl 2 rfl) ?_
                      refine lv_iconst (v := 3) hx hb dX12_row_162 (by decide) ?_
                      refine k_vi (wr := [((d_t 1), ab k 940 r_t_tape), ((d_t 7), ai k 483 r_t_h), ((d_t 10), aj k 16 r_t_reserved), ((d_t 9), aj k 32 r_t_names)]) (rest := []) F hA hB (c_LongTrainModel_bad l D k a_t d_t i_t_114 j_t_115 (3 : Int32) _  hf) ml_RX12_176 mv_yX12_bad [0] [1, 2, 3, 4] rfl rfl (by decide) (by decide) (by decide) 0 rfl rfl rfl hl.1 rfl (Nat.le_of_ble_eq_true rfl) ⟨Nat.le_of_ble_eq_true rfl, Nat.le_of_ble_eq_true rfl⟩ ⟨Nat.le_of_ble_eq_true rfl, Nat.le_of_ble_eq_true rfl⟩ dX12_row_163 (fun z_124 w1 H locs hq hB => ?_)
                      obtain ⟨h_125, i_t_123, rfl, hf⟩ := hq
                      replace hB : Bd D A s.heap (wd_LongTrainModel_row k a_t d_t i_t_123 j_t_115 r_t_tape r_t_h r_t_reserved r_t_names) H locs := hB.sub [4, 0, 1, 2, 3] (by decide) rfl
                      exact r_z F hr hlk hB (h_125) ⟨h_125, _, _, _, _, rfl, hf⟩ dX12_row_166
                  · replace hf := hf.2 c_130
                    refine lv_aload_n hx hb dX12_row_138 rfl (lv_at hl 1 rfl) ?_
                    refine lv_iconst (v := 1) hx hb dX12_row_139 (by decide) ?_
                    refine k_vi (wr := [((d_t 1), ab k 940 r_t_tape), ((d_t 7), ai k 483 r_t_h), ((d_t 10), aj k 16 r_t_reserved), ((d_t 9), aj k 32 r_t_names)]) (rest := []) F hA hB (c_LongTrainModel_bad l D k a_t d_t i_t_114 j_t_115 (1 : Int32) _  hf) ml_RX12_176 mv_yX12_bad [0] [1, 2, 3, 4] rfl rfl (by decide) (by decide) (by decide) 0 rfl rfl rfl hl.1 rfl (Nat.le_of_ble_eq_true rfl) ⟨Nat.le_of_ble_eq_true rfl, Nat.le_of_ble_eq_true rfl⟩ ⟨Nat.le_of_ble_eq_true rfl, Nat.le_of_ble_eq_true rfl⟩ dX12_row_140 (fun z_128 w1 H locs hq hB => ?_)
                    obtain ⟨h_129, i_t_127, rfl, hf⟩ := hq
                    replace hB : Bd D A s.heap (wd_LongTrainModel_row k a_t d_t i_t_127 j_t_115 r_t_tape r_t_h r_t_reserved r_t_names) H locs := hB.sub [4, 0, 1, 2, 3] (by decide) rfl
                    exact r_z F hr hlk hB (h_129) ⟨h_129, _, _, _, _, rfl, hf⟩ dX12_row_143
                · replace hf := hf.2 c_134
                  refine lv_aload_n hx hb dX12_row_121 rfl (lv_at hl 1 rfl) ?_
                  refine lv_iconst (v := 3) hx hb dX12_row_122 (by decide) ?_
                  refine k_vi (wr := [((d_t 1), ab k 940 r_t_tape), ((d_t 7), ai k 483 r_t_h), ((d_t 10), aj k 16 r_t_reserved), ((d_t 9), aj k 32 r_t_names)]) (rest := []) F hA hB (c_LongTrainModel_bad l D k a_t d_t i_t_104 j_t_105 (3 : Int32) _  hf) ml_RX12_176 mv_yX12_bad [0] [1, 2, 3, 4] rfl rfl (by decide) (by decide) (by decide) 0 rfl rfl rfl hl.1 rfl (Nat.le_of_ble_eq_true rfl) ⟨Nat.le_of_ble_eq_true rfl, Nat.le_of_ble_eq_true rfl⟩ ⟨Nat.le_of_ble_eq_true rfl, Nat.le_of_ble_eq_true rfl⟩ dX12_row_123 (fun z_132 w1 H locs hq hB => ?_)
                  obtain ⟨h_133, i_t_131, rfl, hf⟩ := hq
                  replace hB : Bd D A s.heap (wd_LongTrainModel_row k a_t d_t i_t_131 j_t_105 r_t_tape r_t_h r_t_reserved r_t_names) H locs := hB.sub [4, 0, 1, 2, 3] (by decide) rfl
                  exact r_z F hr hlk hB (h_133) ⟨h_133, _, _, _, _, rfl, hf⟩ dX12_row_126
            · replace hf := hf.2 c_139
              refine lv_aload_n hx hb dX12_row_81 rfl (lv_at hl 0 rfl) ?_
              refine lv_iconst (v := 1) hx hb dX12_row_82 (by decide) ?_
              refine k_vi (wr := [((d_t 1), ab k 940 r_t_tape), ((d_t 7), ai k 483 r_t_h), ((d_t 10), aj k 16 r_t_reserved), ((d_t 9), aj k 32 r_t_names)]) (rest := []) F hA hB (c_LongTrainModel_bad l D k a_t d_t i_t_104 j_t_105 (1 : Int32) _  hf) ml_RX12_176 mv_yX12_bad [0] [1, 2, 3, 4] rfl rfl (by decide) (by decide) (by decide) 0 rfl rfl rfl hl.1 rfl (Nat.le_of_ble_eq_true rfl) ⟨Nat.le_of_ble_eq_true rfl, Nat.le_of_ble_eq_true rfl⟩ ⟨Nat.le_of_ble_eq_true rfl, Nat.le_of_ble_eq_true rfl⟩ dX12_row_83 (fun z_137 w1 H locs hq hB => ?_)
              obtain ⟨h_138, i_t_136, rfl, hf⟩ := hq
              replace hB : Bd D A s.heap (wd_LongTrainModel_row k a_t d_t i_t_136 j_t_105 r_t_tape r_t_h r_t_reserved r_t_names) H locs := hB.sub [4, 0, 1, 2, 3] (by decide) rfl
              exact r_z F hr hlk hB (h_138) ⟨h_138, _, _, _, _, rfl, hf⟩ dX12_row_86
        · replace hf := hf.2 c_147
          refine lv_aload_n hx hb dX12_row_55 rfl (lv_at hl 0 rfl) ?_
          refine k_vi (wr := []) (rest := []) F hA hB (c_LongTrainModel_readKind l D k a_t d_t i_t j_t r_t_h r_t_tape r_t_reserved r_t_names _  hf) ml_RX12_210 mv_yX12_readKind [0, 2, 1, 3, 4] [] rfl rfl (by decide) (by decide) (by decide) 0 rfl rfl rfl hl.1 rfl (Nat.le_of_ble_eq_true rfl) ⟨Nat.le_of_ble_eq_true rfl, Nat.le_of_ble_eq_true rfl⟩ ⟨Nat.le_of_ble_eq_true rfl, Nat.le_of_ble_eq_true rfl⟩ dX12_row_56 (fun z_145 w1 H locs hq hB => ?_)
          obtain ⟨h_146, i_t_141, j_t_142, r_t_h_143, r_t_names_144, rfl, hf⟩ := hq
          replace hB : Bd D A s.heap (wd_LongTrainModel_row k a_t d_t i_t_141 j_t_142 r_t_tape r_t_h_143 r_t_reserved r_t_names_144) H locs := hB.sub [0, 2, 1, 3, 4] (by decide) rfl
          exact r_z F hr hlk hB (h_146) ⟨h_146, _, _, _, _, rfl, hf⟩ dX12_row_59
      · replace hf := hf.2 c_153
        refine lv_aload_n hx hb dX12_row_40 rfl (lv_at hl 0 rfl) ?_
        refine k_vi (wr := [((d_t 10), aj k 16 r_t_reserved), ((d_t 9), aj k 32 r_t_names)]) (rest := []) F hA hB (c_LongTrainModel_readLoop l D k a_t d_t i_t j_t r_t_h r_t_tape _  hf) ml_RX12_207 mv_yX12_readLoop [0, 2, 1] [3, 4] rfl rfl (by decide) (by decide) (by decide) 0 rfl rfl rfl hl.1 rfl (Nat.le_of_ble_eq_true rfl) ⟨Nat.le_of_ble_eq_true rfl, Nat.le_of_ble_eq_true rfl⟩ ⟨Nat.le_of_ble_eq_true rfl, Nat.le_of_ble_eq_true rfl⟩ dX12_row_41 (fun z_151 w1 H locs hq hB => ?_)
        obtain ⟨h_152, i_t_148, j_t_149, r_t_h_150, rfl, hf⟩ := hq
        replace hB : Bd D A s.heap (wd_LongTrainModel_row k a_t d_t i_t_148 j_t_149 r_t_tape r_t_h_150 r_t_reserved r_t_names) H locs := hB.sub [2, 4, 3, 0, 1] (by decide) rfl
        exact r_z F hr hlk hB (h_152) ⟨h_152, _, _, _, _, rfl, hf⟩ dX12_row_44
    · replace hf := hf.2 c_160
      refine lv_aload_n hx hb dX12_row_25 rfl (lv_at hl 0 rfl) ?_
      refine k_vi (wr := []) (rest := []) F hA hB (c_LongTrainModel_readHalt l D k a_t d_t i_t j_t r_t_h r_t_tape r_t_reserved r_t_names _  hf) ml_RX12_204 mv_yX12_readHalt [0, 2, 1, 3, 4] [] rfl rfl (by decide) (by decide) (by decide) 0 rfl rfl rfl hl.1 rfl (Nat.le_of_ble_eq_true rfl) ⟨Nat.le_of_ble_eq_true rfl, Nat.le_of_ble_eq_true rfl⟩ ⟨Nat.le_of_ble_eq_true rfl, Nat.le_of_ble_eq_true rfl⟩ dX12_row_26 (fun z_158 w1 H locs hq hB => ?_)
      obtain ⟨h_159, i_t_154, j_t_155, r_t_h_156, r_t_names_157, rfl, hf⟩ := hq
      replace hB : Bd D A s.heap (wd_LongTrainModel_row k a_t d_t i_t_154 j_t_155 r_t_tape r_t_h_156 r_t_reserved r_t_names_157) H locs := hB.sub [0, 2, 1, 3, 4] (by decide) rfl
      exact r_z F hr hlk hB (h_159) ⟨h_159, _, _, _, _, rfl, hf⟩ dX12_row_29
  · replace hf := hf.2 c_166
    refine lv_aload_n hx hb dX12_row_10 rfl (lv_at hl 0 rfl) ?_
    refine k_vi (wr := [((d_t 10), aj k 16 r_t_reserved), ((d_t 9), aj k 32 r_t_names)]) (rest := []) F hA hB (c_LongTrainModel_readSlope l D k a_t d_t i_t j_t r_t_tape r_t_h _  hf) ml_RX12_201 mv_yX12_readSlope [0, 1, 2] [3, 4] rfl rfl (by decide) (by decide) (by decide) 0 rfl rfl rfl hl.1 rfl (Nat.le_of_ble_eq_true rfl) ⟨Nat.le_of_ble_eq_true rfl, Nat.le_of_ble_eq_true rfl⟩ ⟨Nat.le_of_ble_eq_true rfl, Nat.le_of_ble_eq_true rfl⟩ dX12_row_11 (fun z_164 w1 H locs hq hB => ?_)
    obtain ⟨h_165, i_t_161, j_t_162, r_t_h_163, rfl, hf⟩ := hq
    replace hB : Bd D A s.heap (wd_LongTrainModel_row k a_t d_t i_t_161 j_t_162 r_t_tape r_t_h_163 r_t_reserved r_t_names) H locs := hB.sub [2, 3, 4, 0, 1] (by decide) rfl
    exact r_z F hr hlk hB (h_165) ⟨h_165, _, _, _, _, rfl, hf⟩ dX12_row_14

/-! LongTrainModel.line -/
set_option maxRecDepth 100000 in
set_option maxHeartbeats 4000000 in
theorem bt_LongTrainModel_line_40 {p : Program} {l : Launch} {e : Env} {s : State} {m : MethodId} {below : List Frame} {meth : Method} {c : Code} {A : Nat → Prop} {D : va_G} {k : Nat → ClassId} {a_t : Nat} {d_t : Nat → Nat} {r_t_tape : Nat → Int32} {r_t_reserved : Nat → Int64} {r_t_s : Nat → Int32}  {Q : Int32 → (Nat → Int32) → (Nat → Int64) → (Nat → Int32) → (Nat → Int64) → (Nat → Int32) → Prop}  {kx_40 : (Nat → Int32) → (Nat → Int64) → (Nat → Int32) → (Nat → Int64) → Prop} {kr_40 : (Nat → Int32) → (Nat → Int64) → (Nat → Int32) → (Nat → Int64) → Prop} (F : Fx p m c cX12_line 2 s ([.ref a_t] : List Value).toArray RX12 D k) (hr : meth.sig.returnType = (some .int)) (hlk : meth.locks = false) (hA : ∀ q : Nat, s.heap.size ≤ q → A q) (hkx_40 : ∀ (i_t : Nat → Int32) (j_t : Nat → Int64) (r_t_h : Nat → Int32) (r_t_names : Nat → Int64) (H : Heap) (locs : List Loc) (ls : Array Slot), kx_40 i_t j_t r_t_h r_t_names → Bd D A s.heap (wd_LongTrainModel_line k a_t d_t i_t j_t r_t_h r_t_tape r_t_reserved r_t_names r_t_s) H locs → lv_has ls 2 [(0, .ref a_t)] → W p l e { frames := 5, cells := 0, slots := 0, locals := 110 } s m ([.ref a_t] : List Value).toArray below meth c H locs 0 0 (Ei below (fun r w => ∃ (i_t : Nat → Int32), ∃ (j_t : Nat → Int64), ∃ (r_t_h : Nat → Int32), ∃ (r_t_names : Nat → Int64), ∃ (r_t_s : Nat → Int32), w = (wd_LongTrainModel_line k a_t d_t i_t j_t r_t_h r_t_tape r_t_reserved r_t_names r_t_s) ∧ Q r i_t j_t r_t_h r_t_names r_t_s) D k A ([.ref a_t] : List Value).toArray s 0 0) (F0 m 83 ls [])) (hkr_40 : ∀ (i_t : Nat → Int32) (j_t : Nat → Int64) (r_t_h : Nat → Int32) (r_t_names : Nat → Int64) (H : Heap) (locs : List Loc) (ls : Array Slot), kr_40 i_t j_t r_t_h r_t_names → Bd D A s.heap (wd_LongTrainModel_line k a_t d_t i_t j_t r_t_h r_t_tape r_t_reserved r_t_names r_t_s) H locs → lv_has ls 2 [(0, .ref a_t)] → W p l e { frames := 5, cells := 0, slots := 0, locals := 110 } s m ([.ref a_t] : List Value).toArray below meth c H locs 0 0 (Ei below (fun r w => ∃ (i_t : Nat → Int32), ∃ (j_t : Nat → Int64), ∃ (r_t_h : Nat → Int32), ∃ (r_t_names : Nat → Int64), ∃ (r_t_s : Nat → Int32), w = (wd_LongTrainModel_line k a_t d_t i_t j_t r_t_h r_t_tape r_t_reserved r_t_names r_t_s) ∧ Q r i_t j_t r_t_h r_t_names r_t_s) D k A ([.ref a_t] : List Value).toArray s 0 0) (F0 m 40 ls [])) :
    ∀ (i_t : Nat → Int32) (j_t : Nat → Int64) (r_t_h : Nat → Int32) (r_t_names : Nat → Int64) (H : Heap) (locs : List Loc) (ls : Array Slot), b_LongTrainModel_line_40 r_t_tape r_t_reserved r_t_s Q kx_40 kr_40 i_t j_t r_t_h r_t_names → Bd D A s.heap (wd_LongTrainModel_line k a_t d_t i_t j_t r_t_h r_t_tape r_t_reserved r_t_names r_t_s) H locs → lv_has ls 2 [(0, .ref a_t)] → W p l e { frames := 5, cells := 0, slots := 0, locals := 110 } s m ([.ref a_t] : List Value).toArray below meth c H locs 0 0 (Ei below (fun r w => ∃ (i_t : Nat → Int32), ∃ (j_t : Nat → Int64), ∃ (r_t_h : Nat → Int32), ∃ (r_t_names : Nat → Int64), ∃ (r_t_s : Nat → Int32), w = (wd_LongTrainModel_line k a_t d_t i_t j_t r_t_h r_t_tape r_t_reserved r_t_names r_t_s) ∧ Q r i_t j_t r_t_h r_t_names r_t_s) D k A ([.ref a_t] : List Value).toArray s 0 0) (F0 m 40 ls []) := by
  have hx := F.x
  have hb := F.b
  intro i_t j_t r_t_h r_t_names H locs ls hf hB hl
  unfold b_LongTrainModel_line_40 at hf
  refine lv_aload_n hx hb dX12_line_40 rfl (lv_at hl 0 rfl) ?_
  refine g_get (w := .int (i_t 11)) F hB 0 rfl fl_RX12_150 rfl dX12_line_41 ?_
  refine lv_if_eq (tgt := 83) hx hb dX12_line_44 (by decide) (fun c_17 => ?_) (fun c_17 => ?_)
  · replace hf := hf.1 c_17
    exact hkx_40 _ _ _ _ _ _ _ hf hB (lv_sub hl [0] rfl)
  · replace hf := hf.2 c_17
    refine lv_aload_n hx hb dX12_line_47 rfl (lv_at hl 0 rfl) ?_
    refine k_vi (wr := [((d_t 6), ai k 1068 r_t_s)]) (rest := []) F hA hB (c_LongTrainModel_row l D k a_t d_t i_t j_t r_t_tape r_t_h r_t_reserved r_t_names _  hf) ml_RX12_244 mv_yX12_row [0, 2, 1, 3, 4] [5] rfl rfl (by decide) (by decide) (by decide) 0 rfl rfl rfl hl.1 rfl (Nat.le_of_ble_eq_true rfl) ⟨Nat.le_of_ble_eq_true rfl, Nat.le_of_ble_eq_true rfl⟩ ⟨Nat.le_of_ble_eq_true rfl, Nat.le_of_ble_eq_true rfl⟩ dX12_line_48 (fun z_9 w1 H locs hq hB => ?_)
    obtain ⟨h_10, i_t_5, j_t_6, r_t_h_7, r_t_names_8, rfl, hf⟩ := hq
    replace hB : Bd D A s.heap (wd_LongTrainModel_line k a_t d_t i_t_5 j_t_6 r_t_h_7 r_t_tape r_t_reserved r_t_names_8 r_t_s) H locs := hB.sub [1, 3, 2, 4, 5, 0] (by decide) rfl
    refine lv_if_eq (tgt := 63) hx hb dX12_line_51 (by decide) (fun c_16 => ?_) (fun c_16 => ?_)
    · replace hf := hf.1 c_16
      refine lv_iconst (v := -1) hx hb dX12_line_63 (by decide) ?_
      refine lv_aload_n hx hb dX12_line_64 rfl (lv_at hl 0 rfl) ?_
      refine g_get (w := .int (i_t_5 16)) F hB 0 rfl fl_RX12_170 rfl dX12_line_65 ?_
      refine lv_isub hx hb dX12_line_68 ?_
      exact r_i F hr hlk hB ⟨_, _, _, _, _, rfl, hf⟩ dX12_line_69
    · replace hf := hf.2 c_16
      refine lv_aload_n hx hb dX12_line_54 rfl (lv_at hl 0 rfl) ?_
      refine lv_bipush (v := 59) hx hb dX12_line_55 (by decide) ?_
      refine k_vi (wr := [((d_t 7), ai k 483 r_t_h_7), ((d_t 10), aj k 16 r_t_reserved), ((d_t 9), aj k 32 r_t_names_8), ((d_t 6), ai k 1068 r_t_s)]) (rest := []) F hA hB (c_LongTrainModel_sign l D k a_t d_t i_t_5 j_t_6 r_t_tape (59 : Int32) _  hf) ml_RX12_247 mv_yX12_sign [0, 2] [1, 3, 4, 5] rfl rfl (by decide) (by decide) (by decide) 0 rfl rfl rfl hl.1 rfl (Nat.le_of_ble_eq_true rfl) ⟨Nat.le_of_ble_eq_true rfl, Nat.le_of_ble_eq_true rfl⟩ ⟨Nat.le_of_ble_eq_true rfl, Nat.le_of_ble_eq_true rfl⟩ dX12_line_57 (fun z_13 w1 H locs hq hB => ?_)
      obtain ⟨h_14, i_t_11, j_t_12, rfl, hf⟩ := hq
      replace hB : Bd D A s.heap (wd_LongTrainModel_line k a_t d_t i_t_11 j_t_12 r_t_h_7 r_t_tape r_t_reserved r_t_names_8 r_t_s) H locs := hB.sub [4, 0, 5, 1, 2, 3] (by decide) rfl
      refine lv_if_ne (tgt := 70) hx hb dX12_line_60 (by decide) (fun c_15 => ?_) (fun c_15 => ?_)
      · replace hf := hf.1 c_15
        refine lv_aload_n hx hb dX12_line_70 rfl (lv_at hl 0 rfl) ?_
        refine lv_dup hx hb dX12_line_71 rfl ?_
        refine g_get (w := .int (i_t_11 19)) F hB 0 rfl fl_RX12_241 rfl dX12_line_72 ?_
        refine lv_iconst (v := 1) hx hb dX12_line_75 (by decide) ?_
        refine lv_iadd hx hb dX12_line_76 ?_
        refine g_puti F hB 0 rfl fl_RX12_241 rfl (wd_LongTrainModel_line k a_t d_t (upd i_t_11 19 ((i_t_11 19) + (1 : Int32))) j_t_12 r_t_h_7 r_t_tape r_t_reserved r_t_names_8 r_t_s) rfl dX12_line_77 (fun H locs hB => ?_)
        refine lv_goto (tgt := 40) hx hb dX12_line_80 (by decide) ?_
        exact hkr_40 _ _ _ _ _ _ _ hf hB (lv_sub hl [0] rfl)
      · replace hf := hf.2 c_15
        refine lv_iconst (v := -1) hx hb dX12_line_63 (by decide) ?_
        refine lv_aload_n hx hb dX12_line_64 rfl (lv_at hl 0 rfl) ?_
        refine g_get (w := .int (i_t_11 16)) F hB 0 rfl fl_RX12_170 rfl dX12_line_65 ?_
        refine lv_isub hx hb dX12_line_68 ?_
        exact r_i F hr hlk hB ⟨_, _, _, _, _, rfl, hf⟩ dX12_line_69

set_option maxRecDepth 100000 in
set_option maxHeartbeats 4000000 in
theorem lt_LongTrainModel_line_40 {p : Program} {l : Launch} {e : Env} {s : State} {m : MethodId} {below : List Frame} {meth : Method} {c : Code} {A : Nat → Prop} {D : va_G} {k : Nat → ClassId} {a_t : Nat} {d_t : Nat → Nat} {r_t_tape : Nat → Int32} {r_t_reserved : Nat → Int64} {r_t_s : Nat → Int32}  {Q : Int32 → (Nat → Int32) → (Nat → Int64) → (Nat → Int32) → (Nat → Int64) → (Nat → Int32) → Prop}  {kx_40 : (Nat → Int32) → (Nat → Int64) → (Nat → Int32) → (Nat → Int64) → Prop} (F : Fx p m c cX12_line 2 s ([.ref a_t] : List Value).toArray RX12 D k) (hr : meth.sig.returnType = (some .int)) (hlk : meth.locks = false) (hA : ∀ q : Nat, s.heap.size ≤ q → A q) (hkx_40 : ∀ (i_t : Nat → Int32) (j_t : Nat → Int64) (r_t_h : Nat → Int32) (r_t_names : Nat → Int64) (H : Heap) (locs : List Loc) (ls : Array Slot), kx_40 i_t j_t r_t_h r_t_names → Bd D A s.heap (wd_LongTrainModel_line k a_t d_t i_t j_t r_t_h r_t_tape r_t_reserved r_t_names r_t_s) H locs → lv_has ls 2 [(0, .ref a_t)] → W p l e { frames := 5, cells := 0, slots := 0, locals := 110 } s m ([.ref a_t] : List Value).toArray below meth c H locs 0 0 (Ei below (fun r w => ∃ (i_t : Nat → Int32), ∃ (j_t : Nat → Int64), ∃ (r_t_h : Nat → Int32), ∃ (r_t_names : Nat → Int64), ∃ (r_t_s : Nat → Int32), w = (wd_LongTrainModel_line k a_t d_t i_t j_t r_t_h r_t_tape r_t_reserved r_t_names r_t_s) ∧ Q r i_t j_t r_t_h r_t_names r_t_s) D k A ([.ref a_t] : List Value).toArray s 0 0) (F0 m 83 ls [])) :
    ∀ n : Nat, ∀ (i_t : Nat → Int32) (j_t : Nat → Int64) (r_t_h : Nat → Int32) (r_t_names : Nat → Int64) (H : Heap) (locs : List Loc) (ls : Array Slot), lp_LongTrainModel_line_40 r_t_tape r_t_reserved r_t_s Q kx_40 n i_t j_t r_t_h r_t_names → Bd D A s.heap (wd_LongTrainModel_line k a_t d_t i_t j_t r_t_h r_t_tape r_t_reserved r_t_names r_t_s) H locs → lv_has ls 2 [(0, .ref a_t)] → W p l e { frames := 5, cells := 0, slots := 0, locals := 110 } s m ([.ref a_t] : List Value).toArray below meth c H locs 0 0 (Ei below (fun r w => ∃ (i_t : Nat → Int32), ∃ (j_t : Nat → Int64), ∃ (r_t_h : Nat → Int32), ∃ (r_t_names : Nat → Int64), ∃ (r_t_s : Nat → Int32), w = (wd_LongTrainModel_line k a_t d_t i_t j_t r_t_h r_t_tape r_t_reserved r_t_names r_t_s) ∧ Q r i_t j_t r_t_h r_t_names r_t_s) D k A ([.ref a_t] : List Value).toArray s 0 0) (F0 m 40 ls []) := by
  intro n
  induction n with
  | zero => intro i_t j_t r_t_h r_t_names H locs ls hf; exact absurd hf (fun h => h)
  | succ n ih => exact bt_LongTrainModel_line_40 F hr hlk hA hkx_40 ih

set_option maxRecDepth 100000 in
set_option maxHeartbeats 4000000 in
theorem bt_LongTrainModel_line_85 {p : Program} {l : Launch} {e : Env} {s : State} {m : MethodId} {below : List Frame} {meth : Method} {c : Code} {A : Nat → Prop} {D : va_G} {k : Nat → ClassId} {a_t : Nat} {d_t : Nat → Nat} {i_t : Nat → Int32} {j_t : Nat → Int64} {r_t_h : Nat → Int32} {r_t_tape : Nat → Int32} {r_t_reserved : Nat → Int64} {r_t_names : Nat → Int64}  {Q : Int32 → (Nat → Int32) → (Nat → Int64) → (Nat → Int32) → (Nat → Int64) → (Nat → Int32) → Prop}  {kx_85 : (Nat → Int32) → Prop} {kr_85 : (Int32) → (Nat → Int32) → Prop} (F : Fx p m c cX12_line 2 s ([.ref a_t] : List Value).toArray RX12 D k) (hr : meth.sig.returnType = (some .int)) (hlk : meth.locks = false) (hA : ∀ q : Nat, s.heap.size ≤ q → A q) (hkx_85 : ∀ (r_t_s : Nat → Int32) (H : Heap) (locs : List Loc) (ls : Array Slot), kx_85 r_t_s → Bd D A s.heap (wd_LongTrainModel_line k a_t d_t i_t j_t r_t_h r_t_tape r_t_reserved r_t_names r_t_s) H locs → lv_has ls 2 [(0, .ref a_t)] → W p l e { frames := 5, cells := 0, slots := 0, locals := 110 } s m ([.ref a_t] : List Value).toArray below meth c H locs 0 0 (Ei below (fun r w => ∃ (i_t : Nat → Int32), ∃ (j_t : Nat → Int64), ∃ (r_t_h : Nat → Int32), ∃ (r_t_names : Nat → Int64), ∃ (r_t_s : Nat → Int32), w = (wd_LongTrainModel_line k a_t d_t i_t j_t r_t_h r_t_tape r_t_reserved r_t_names r_t_s) ∧ Q r i_t j_t r_t_h r_t_names r_t_s) D k A ([.ref a_t] : List Value).toArray s 0 0) (F0 m 121 ls [])) (hkr_85 : ∀ (x1 : Int32) (r_t_s : Nat → Int32) (H : Heap) (locs : List Loc) (ls : Array Slot), kr_85 x1 r_t_s → Bd D A s.heap (wd_LongTrainModel_line k a_t d_t i_t j_t r_t_h r_t_tape r_t_reserved r_t_names r_t_s) H locs → lv_has ls 2 [(0, .ref a_t), (1, .int x1)] → W p l e { frames := 5, cells := 0, slots := 0, locals := 110 } s m ([.ref a_t] : List Value).toArray below meth c H locs 0 0 (Ei below (fun r w => ∃ (i_t : Nat → Int32), ∃ (j_t : Nat → Int64), ∃ (r_t_h : Nat → Int32), ∃ (r_t_names : Nat → Int64), ∃ (r_t_s : Nat → Int32), w = (wd_LongTrainModel_line k a_t d_t i_t j_t r_t_h r_t_tape r_t_reserved r_t_names r_t_s) ∧ Q r i_t j_t r_t_h r_t_names r_t_s) D k A ([.ref a_t] : List Value).toArray s 0 0) (F0 m 85 ls [])) :
    ∀ (x1 : Int32) (r_t_s : Nat → Int32) (H : Heap) (locs : List Loc) (ls : Array Slot), b_LongTrainModel_line_85 r_t_h kx_85 kr_85 x1 r_t_s → Bd D A s.heap (wd_LongTrainModel_line k a_t d_t i_t j_t r_t_h r_t_tape r_t_reserved r_t_names r_t_s) H locs → lv_has ls 2 [(0, .ref a_t), (1, .int x1)] → W p l e { frames := 5, cells := 0, slots := 0, locals := 110 } s m ([.ref a_t] : List Value).toArray below meth c H locs 0 0 (Ei below (fun r w => ∃ (i_t : Nat → Int32), ∃ (j_t : Nat → Int64), ∃ (r_t_h : Nat → Int32), ∃ (r_t_names : Nat → Int64), ∃ (r_t_s : Nat → Int32), w = (wd_LongTrainModel_line k a_t d_t i_t j_t r_t_h r_t_tape r_t_reserved r_t_names r_t_s) ∧ Q r i_t j_t r_t_h r_t_names r_t_s) D k A ([.ref a_t] : List Value).toArray s 0 0) (F0 m 85 ls []) := by
  have hx := F.x
  have hb := F.b
  intro x1 r_t_s H locs ls hf hB hl
  unfold b_LongTrainModel_line_85 at hf
  refine lv_iload_n hx hb dX12_line_85 rfl (lv_at hl 1 rfl) ?_
  refine lv_sipush (v := 1068) hx hb dX12_line_86 (by decide) ?_
  refine lv_icmp_ge (tgt := 121) hx hb dX12_line_89 (by decide) (fun c_26 => ?_) (fun c_26 => ?_)
  · replace hf := hf.1 c_26
    exact hkx_85 _ _ _ _ hf hB (lv_sub hl [0] rfl)
  · replace hf := hf.2 c_26
    refine lv_aload_n hx hb dX12_line_92 rfl (lv_at hl 0 rfl) ?_
    refine g_get (w := .ref (d_t 6)) F hB 0 rfl fl_RX12_33 rfl dX12_line_93 ?_
    refine lv_iload_n hx hb dX12_line_96 rfl (lv_at hl 1 rfl) ?_
    refine lv_iload_n hx hb dX12_line_97 rfl (lv_at hl 1 rfl) ?_
    refine lv_sipush (v := 483) hx hb dX12_line_98 (by decide) ?_
    refine lv_icmp_ge (tgt := 113) hx hb dX12_line_101 (by decide) (fun c_25 => ?_) (fun c_25 => ?_)
    · replace hf := hf.1 c_25
      refine lv_iconst (v := 0) hx hb dX12_line_113 (by decide) ?_
      obtain ⟨h_22, hf⟩ := hf
      refine g_iast F hB 5 rfl h_22 (wd_LongTrainModel_line k a_t d_t i_t j_t r_t_h r_t_tape r_t_reserved r_t_names (upd r_t_s (x1).toNatClampNeg (0 : Int32))) rfl dX12_line_114 (fun H locs hB => ?_)
      refine lv_iinc (v := (x1 + 1)) (lv' := [(1, .int (x1 + 1)), (0, .ref a_t)]) (k := 1) hx hb dX12_line_115 hl rfl rfl (by decide) rfl (fun ls hl => ?_)
      refine lv_goto (tgt := 85) hx hb dX12_line_118 (by decide) ?_
      exact hkr_85 _ _ _ _ _ hf hB (lv_sub hl [1, 0] rfl)
    · replace hf := hf.2 c_25
      refine lv_aload_n hx hb dX12_line_104 rfl (lv_at hl 0 rfl) ?_
      refine g_get (w := .ref (d_t 7)) F hB 0 rfl fl_RX12_37 rfl dX12_line_105 ?_
      refine lv_iload_n hx hb dX12_line_108 rfl (lv_at hl 1 rfl) ?_
      obtain ⟨h_23, hf⟩ := hf
      refine g_iald F hB 1 rfl h_23 dX12_line_109 ?_
      refine lv_goto (tgt := 114) hx hb dX12_line_110 (by decide) ?_
      obtain ⟨h_24, hf⟩ := hf
      refine g_iast F hB 5 rfl h_24 (wd_LongTrainModel_line k a_t d_t i_t j_t r_t_h r_t_tape r_t_reserved r_t_names (upd r_t_s (x1).toNatClampNeg (r_t_h (x1).toNatClampNeg))) rfl dX12_line_114 (fun H locs hB => ?_)
      refine lv_iinc (v := (x1 + 1)) (lv' := [(1, .int (x1 + 1)), (0, .ref a_t)]) (k := 1) hx hb dX12_line_115 hl rfl rfl (by decide) rfl (fun ls hl => ?_)
      refine lv_goto (tgt := 85) hx hb dX12_line_118 (by decide) ?_
      exact hkr_85 _ _ _ _ _ hf hB (lv_sub hl [1, 0] rfl)

set_option maxRecDepth 100000 in
set_option maxHeartbeats 4000000 in
theorem lt_LongTrainModel_line_85 {p : Program} {l : Launch} {e : Env} {s : State} {m : MethodId} {below : List Frame} {meth : Method} {c : Code} {A : Nat → Prop} {D : va_G} {k : Nat → ClassId} {a_t : Nat} {d_t : Nat → Nat} {i_t : Nat → Int32} {j_t : Nat → Int64} {r_t_h : Nat → Int32} {r_t_tape : Nat → Int32} {r_t_reserved : Nat → Int64} {r_t_names : Nat → Int64}  {Q : Int32 → (Nat → Int32) → (Nat → Int64) → (Nat → Int32) → (Nat → Int64) → (Nat → Int32) → Prop}  {kx_85 : (Nat → Int32) → Prop} (F : Fx p m c cX12_line 2 s ([.ref a_t] : List Value).toArray RX12 D k) (hr : meth.sig.returnType = (some .int)) (hlk : meth.locks = false) (hA : ∀ q : Nat, s.heap.size ≤ q → A q) (hkx_85 : ∀ (r_t_s : Nat → Int32) (H : Heap) (locs : List Loc) (ls : Array Slot), kx_85 r_t_s → Bd D A s.heap (wd_LongTrainModel_line k a_t d_t i_t j_t r_t_h r_t_tape r_t_reserved r_t_names r_t_s) H locs → lv_has ls 2 [(0, .ref a_t)] → W p l e { frames := 5, cells := 0, slots := 0, locals := 110 } s m ([.ref a_t] : List Value).toArray below meth c H locs 0 0 (Ei below (fun r w => ∃ (i_t : Nat → Int32), ∃ (j_t : Nat → Int64), ∃ (r_t_h : Nat → Int32), ∃ (r_t_names : Nat → Int64), ∃ (r_t_s : Nat → Int32), w = (wd_LongTrainModel_line k a_t d_t i_t j_t r_t_h r_t_tape r_t_reserved r_t_names r_t_s) ∧ Q r i_t j_t r_t_h r_t_names r_t_s) D k A ([.ref a_t] : List Value).toArray s 0 0) (F0 m 121 ls [])) :
    ∀ n : Nat, ∀ (x1 : Int32) (r_t_s : Nat → Int32) (H : Heap) (locs : List Loc) (ls : Array Slot), lp_LongTrainModel_line_85 r_t_h kx_85 n x1 r_t_s → Bd D A s.heap (wd_LongTrainModel_line k a_t d_t i_t j_t r_t_h r_t_tape r_t_reserved r_t_names r_t_s) H locs → lv_has ls 2 [(0, .ref a_t), (1, .int x1)] → W p l e { frames := 5, cells := 0, slots := 0, locals := 110 } s m ([.ref a_t] : List Value).toArray below meth c H locs 0 0 (Ei below (fun r w => ∃ (i_t : Nat → Int32), ∃ (j_t : Nat → Int64), ∃ (r_t_h : Nat → Int32), ∃ (r_t_names : Nat → Int64), ∃ (r_t_s : Nat → Int32), w = (wd_LongTrainModel_line k a_t d_t i_t j_t r_t_h r_t_tape r_t_reserved r_t_names r_t_s) ∧ Q r i_t j_t r_t_h r_t_names r_t_s) D k A ([.ref a_t] : List Value).toArray s 0 0) (F0 m 85 ls []) := by
  intro n
  induction n with
  | zero => intro x1 r_t_s H locs ls hf; exact absurd hf (fun h => h)
  | succ n ih => exact bt_LongTrainModel_line_85 F hr hlk hA hkx_85 ih

set_option maxRecDepth 100000 in
set_option maxHeartbeats 4000000 in
theorem bt_LongTrainModel_line_123 {p : Program} {l : Launch} {e : Env} {s : State} {m : MethodId} {below : List Frame} {meth : Method} {c : Code} {A : Nat → Prop} {D : va_G} {k : Nat → ClassId} {a_t : Nat} {d_t : Nat → Nat} {i_t : Nat → Int32} {j_t : Nat → Int64} {r_t_h : Nat → Int32} {r_t_tape : Nat → Int32} {r_t_reserved : Nat → Int64} {r_t_s : Nat → Int32}  {Q : Int32 → (Nat → Int32) → (Nat → Int64) → (Nat → Int32) → (Nat → Int64) → (Nat → Int32) → Prop}  {kx_123 : (Nat → Int64) → Prop} {kr_123 : (Int32) → (Nat → Int64) → Prop} (F : Fx p m c cX12_line 2 s ([.ref a_t] : List Value).toArray RX12 D k) (hr : meth.sig.returnType = (some .int)) (hlk : meth.locks = false) (hA : ∀ q : Nat, s.heap.size ≤ q → A q) (hkx_123 : ∀ (r_t_names : Nat → Int64) (H : Heap) (locs : List Loc) (ls : Array Slot), kx_123 r_t_names → Bd D A s.heap (wd_LongTrainModel_line k a_t d_t i_t j_t r_t_h r_t_tape r_t_reserved r_t_names r_t_s) H locs → lv_has ls 2 [(0, .ref a_t)] → W p l e { frames := 5, cells := 0, slots := 0, locals := 110 } s m ([.ref a_t] : List Value).toArray below meth c H locs 0 0 (Ei below (fun r w => ∃ (i_t : Nat → Int32), ∃ (j_t : Nat → Int64), ∃ (r_t_h : Nat → Int32), ∃ (r_t_names : Nat → Int64), ∃ (r_t_s : Nat → Int32), w = (wd_LongTrainModel_line k a_t d_t i_t j_t r_t_h r_t_tape r_t_reserved r_t_names r_t_s) ∧ Q r i_t j_t r_t_h r_t_names r_t_s) D k A ([.ref a_t] : List Value).toArray s 0 0) (F0 m 150 ls [])) (hkr_123 : ∀ (x1 : Int32) (r_t_names : Nat → Int64) (H : Heap) (locs : List Loc) (ls : Array Slot), kr_123 x1 r_t_names → Bd D A s.heap (wd_LongTrainModel_line k a_t d_t i_t j_t r_t_h r_t_tape r_t_reserved r_t_names r_t_s) H locs → lv_has ls 2 [(0, .ref a_t), (1, .int x1)] → W p l e { frames := 5, cells := 0, slots := 0, locals := 110 } s m ([.ref a_t] : List Value).toArray below meth c H locs 0 0 (Ei below (fun r w => ∃ (i_t : Nat → Int32), ∃ (j_t : Nat → Int64), ∃ (r_t_h : Nat → Int32), ∃ (r_t_names : Nat → Int64), ∃ (r_t_s : Nat → Int32), w = (wd_LongTrainModel_line k a_t d_t i_t j_t r_t_h r_t_tape r_t_reserved r_t_names r_t_s) ∧ Q r i_t j_t r_t_h r_t_names r_t_s) D k A ([.ref a_t] : List Value).toArray s 0 0) (F0 m 123 ls [])) :
    ∀ (x1 : Int32) (r_t_names : Nat → Int64) (H : Heap) (locs : List Loc) (ls : Array Slot), b_LongTrainModel_line_123 kx_123 kr_123 x1 r_t_names → Bd D A s.heap (wd_LongTrainModel_line k a_t d_t i_t j_t r_t_h r_t_tape r_t_reserved r_t_names r_t_s) H locs → lv_has ls 2 [(0, .ref a_t), (1, .int x1)] → W p l e { frames := 5, cells := 0, slots := 0, locals := 110 } s m ([.ref a_t] : List Value).toArray below meth c H locs 0 0 (Ei below (fun r w => ∃ (i_t : Nat → Int32), ∃ (j_t : Nat → Int64), ∃ (r_t_h : Nat → Int32), ∃ (r_t_names : Nat → Int64), ∃ (r_t_s : Nat → Int32), w = (wd_LongTrainModel_line k a_t d_t i_t j_t r_t_h r_t_tape r_t_reserved r_t_names r_t_s) ∧ Q r i_t j_t r_t_h r_t_names r_t_s) D k A ([.ref a_t] : List Value).toArray s 0 0) (F0 m 123 ls []) := by
  have hx := F.x
  have hb := F.b
  intro x1 r_t_names H locs ls hf hB hl
  unfold b_LongTrainModel_line_123 at hf
  refine lv_iload_n hx hb dX12_line_123 rfl (lv_at hl 1 rfl) ?_
  refine lv_bipush (v := 16) hx hb dX12_line_124 (by decide) ?_
  refine lv_icmp_ge (tgt := 150) hx hb dX12_line_126 (by decide) (fun c_30 => ?_) (fun c_30 => ?_)
  · replace hf := hf.1 c_30
    exact hkx_123 _ _ _ _ hf hB (lv_sub hl [0] rfl)
  · replace hf := hf.2 c_30
    refine lv_aload_n hx hb dX12_line_129 rfl (lv_at hl 0 rfl) ?_
    refine g_get (w := .ref (d_t 9)) F hB 0 rfl fl_RX12_43 rfl dX12_line_130 ?_
    refine lv_iload_n hx hb dX12_line_133 rfl (lv_at hl 1 rfl) ?_
    refine lv_aload_n hx hb dX12_line_134 rfl (lv_at hl 0 rfl) ?_
    refine g_get (w := .ref (d_t 9)) F hB 0 rfl fl_RX12_43 rfl dX12_line_135 ?_
    refine lv_bipush (v := 16) hx hb dX12_line_138 (by decide) ?_
    refine lv_iload_n hx hb dX12_line_140 rfl (lv_at hl 1 rfl) ?_
    refine lv_iadd hx hb dX12_line_141 ?_
    obtain ⟨h_28, hf⟩ := hf
    refine g_jald F hB 4 rfl h_28 dX12_line_142 ?_
    obtain ⟨h_29, hf⟩ := hf
    refine g_jast F hB 4 rfl h_29 (wd_LongTrainModel_line k a_t d_t i_t j_t r_t_h r_t_tape r_t_reserved (vp_updL r_t_names (x1).toNatClampNeg (r_t_names (((16 : Int32) + x1)).toNatClampNeg)) r_t_s) rfl dX12_line_143 (fun H locs hB => ?_)
    refine lv_iinc (v := (x1 + 1)) (lv' := [(1, .int (x1 + 1)), (0, .ref a_t)]) (k := 1) hx hb dX12_line_144 hl rfl rfl (by decide) rfl (fun ls hl => ?_)
    refine lv_goto (tgt := 123) hx hb dX12_line_147 (by decide) ?_
    exact hkr_123 _ _ _ _ _ hf hB (lv_sub hl [1, 0] rfl)

set_option maxRecDepth 100000 in
set_option maxHeartbeats 4000000 in
theorem lt_LongTrainModel_line_123 {p : Program} {l : Launch} {e : Env} {s : State} {m : MethodId} {below : List Frame} {meth : Method} {c : Code} {A : Nat → Prop} {D : va_G} {k : Nat → ClassId} {a_t : Nat} {d_t : Nat → Nat} {i_t : Nat → Int32} {j_t : Nat → Int64} {r_t_h : Nat → Int32} {r_t_tape : Nat → Int32} {r_t_reserved : Nat → Int64} {r_t_s : Nat → Int32}  {Q : Int32 → (Nat → Int32) → (Nat → Int64) → (Nat → Int32) → (Nat → Int64) → (Nat → Int32) → Prop}  {kx_123 : (Nat → Int64) → Prop} (F : Fx p m c cX12_line 2 s ([.ref a_t] : List Value).toArray RX12 D k) (hr : meth.sig.returnType = (some .int)) (hlk : meth.locks = false) (hA : ∀ q : Nat, s.heap.size ≤ q → A q) (hkx_123 : ∀ (r_t_names : Nat → Int64) (H : Heap) (locs : List Loc) (ls : Array Slot), kx_123 r_t_names → Bd D A s.heap (wd_LongTrainModel_line k a_t d_t i_t j_t r_t_h r_t_tape r_t_reserved r_t_names r_t_s) H locs → lv_has ls 2 [(0, .ref a_t)] → W p l e { frames := 5, cells := 0, slots := 0, locals := 110 } s m ([.ref a_t] : List Value).toArray below meth c H locs 0 0 (Ei below (fun r w => ∃ (i_t : Nat → Int32), ∃ (j_t : Nat → Int64), ∃ (r_t_h : Nat → Int32), ∃ (r_t_names : Nat → Int64), ∃ (r_t_s : Nat → Int32), w = (wd_LongTrainModel_line k a_t d_t i_t j_t r_t_h r_t_tape r_t_reserved r_t_names r_t_s) ∧ Q r i_t j_t r_t_h r_t_names r_t_s) D k A ([.ref a_t] : List Value).toArray s 0 0) (F0 m 150 ls [])) :
    ∀ n : Nat, ∀ (x1 : Int32) (r_t_names : Nat → Int64) (H : Heap) (locs : List Loc) (ls : Array Slot), lp_LongTrainModel_line_123 kx_123 n x1 r_t_names → Bd D A s.heap (wd_LongTrainModel_line k a_t d_t i_t j_t r_t_h r_t_tape r_t_reserved r_t_names r_t_s) H locs → lv_has ls 2 [(0, .ref a_t), (1, .int x1)] → W p l e { frames := 5, cells := 0, slots := 0, locals := 110 } s m ([.ref a_t] : List Value).toArray below meth c H locs 0 0 (Ei below (fun r w => ∃ (i_t : Nat → Int32), ∃ (j_t : Nat → Int64), ∃ (r_t_h : Nat → Int32), ∃ (r_t_names : Nat → Int64), ∃ (r_t_s : Nat → Int32), w = (wd_LongTrainModel_line k a_t d_t i_t j_t r_t_h r_t_tape r_t_reserved r_t_names r_t_s) ∧ Q r i_t j_t r_t_h r_t_names r_t_s) D k A ([.ref a_t] : List Value).toArray s 0 0) (F0 m 123 ls []) := by
  intro n
  induction n with
  | zero => intro x1 r_t_names H locs ls hf; exact absurd hf (fun h => h)
  | succ n ih => exact bt_LongTrainModel_line_123 F hr hlk hA hkx_123 ih

set_option maxRecDepth 100000 in
set_option maxHeartbeats 4000000 in
theorem bt_LongTrainModel_line_167 {p : Program} {l : Launch} {e : Env} {s : State} {m : MethodId} {below : List Frame} {meth : Method} {c : Code} {A : Nat → Prop} {D : va_G} {k : Nat → ClassId} {a_t : Nat} {d_t : Nat → Nat} {i_t : Nat → Int32} {j_t : Nat → Int64} {r_t_h : Nat → Int32} {r_t_tape : Nat → Int32} {r_t_reserved : Nat → Int64} {r_t_names : Nat → Int64}  {Q : Int32 → (Nat → Int32) → (Nat → Int64) → (Nat → Int32) → (Nat → Int64) → (Nat → Int32) → Prop}  {kx_167 : (Nat → Int32) → Prop} {kr_167 : (Int32) → (Nat → Int32) → Prop} (F : Fx p m c cX12_line 2 s ([.ref a_t] : List Value).toArray RX12 D k) (hr : meth.sig.returnType = (some .int)) (hlk : meth.locks = false) (hA : ∀ q : Nat, s.heap.size ≤ q → A q) (hkx_167 : ∀ (r_t_s : Nat → Int32) (H : Heap) (locs : List Loc) (ls : Array Slot), kx_167 r_t_s → Bd D A s.heap (wd_LongTrainModel_line k a_t d_t i_t j_t r_t_h r_t_tape r_t_reserved r_t_names r_t_s) H locs → lv_has ls 2 [(0, .ref a_t)] → W p l e { frames := 5, cells := 0, slots := 0, locals := 110 } s m ([.ref a_t] : List Value).toArray below meth c H locs 0 0 (Ei below (fun r w => ∃ (i_t : Nat → Int32), ∃ (j_t : Nat → Int64), ∃ (r_t_h : Nat → Int32), ∃ (r_t_names : Nat → Int64), ∃ (r_t_s : Nat → Int32), w = (wd_LongTrainModel_line k a_t d_t i_t j_t r_t_h r_t_tape r_t_reserved r_t_names r_t_s) ∧ Q r i_t j_t r_t_h r_t_names r_t_s) D k A ([.ref a_t] : List Value).toArray s 0 0) (F0 m 204 ls [])) (hkr_167 : ∀ (x1 : Int32) (r_t_s : Nat → Int32) (H : Heap) (locs : List Loc) (ls : Array Slot), kr_167 x1 r_t_s → Bd D A s.heap (wd_LongTrainModel_line k a_t d_t i_t j_t r_t_h r_t_tape r_t_reserved r_t_names r_t_s) H locs → lv_has ls 2 [(0, .ref a_t), (1, .int x1)] → W p l e { frames := 5, cells := 0, slots := 0, locals := 110 } s m ([.ref a_t] : List Value).toArray below meth c H locs 0 0 (Ei below (fun r w => ∃ (i_t : Nat → Int32), ∃ (j_t : Nat → Int64), ∃ (r_t_h : Nat → Int32), ∃ (r_t_names : Nat → Int64), ∃ (r_t_s : Nat → Int32), w = (wd_LongTrainModel_line k a_t d_t i_t j_t r_t_h r_t_tape r_t_reserved r_t_names r_t_s) ∧ Q r i_t j_t r_t_h r_t_names r_t_s) D k A ([.ref a_t] : List Value).toArray s 0 0) (F0 m 167 ls [])) :
    ∀ (x1 : Int32) (r_t_s : Nat → Int32) (H : Heap) (locs : List Loc) (ls : Array Slot), b_LongTrainModel_line_167 kx_167 kr_167 x1 r_t_s → Bd D A s.heap (wd_LongTrainModel_line k a_t d_t i_t j_t r_t_h r_t_tape r_t_reserved r_t_names r_t_s) H locs → lv_has ls 2 [(0, .ref a_t), (1, .int x1)] → W p l e { frames := 5, cells := 0, slots := 0, locals := 110 } s m ([.ref a_t] : List Value).toArray below meth c H locs 0 0 (Ei below (fun r w => ∃ (i_t : Nat → Int32), ∃ (j_t : Nat → Int64), ∃ (r_t_h : Nat → Int32), ∃ (r_t_names : Nat → Int64), ∃ (r_t_s : Nat → Int32), w = (wd_LongTrainModel_line k a_t d_t i_t j_t r_t_h r_t_tape r_t_reserved r_t_names r_t_s) ∧ Q r i_t j_t r_t_h r_t_names r_t_s) D k A ([.ref a_t] : List Value).toArray s 0 0) (F0 m 167 ls []) := by
  have hx := F.x
  have hb := F.b
  intro x1 r_t_s H locs ls hf hB hl
  unfold b_LongTrainModel_line_167 at hf
  refine lv_iload_n hx hb dX12_line_167 rfl (lv_at hl 1 rfl) ?_
  refine lv_aload_n hx hb dX12_line_168 rfl (lv_at hl 0 rfl) ?_
  refine g_get (w := .ref (d_t 6)) F hB 0 rfl fl_RX12_33 rfl dX12_line_169 ?_
  refine lv_bipush (v := 10) hx hb dX12_line_172 (by decide) ?_
  refine g_iald F hB 5 rfl (vp_in_iff.mpr (by decide +kernel)) dX12_line_174 ?_
  refine W.eq (g2 := F0 m 175 ls [.int (r_t_s 10), .int x1]) rfl ?_
  refine lv_icmp_ge (tgt := 204) hx hb dX12_line_175 (by decide) (fun c_37 => ?_) (fun c_37 => ?_)
  · replace hf := hf.1 c_37
    exact hkx_167 _ _ _ _ hf hB (lv_sub hl [0] rfl)
  · replace hf := hf.2 c_37
    refine lv_aload_n hx hb dX12_line_178 rfl (lv_at hl 0 rfl) ?_
    refine g_get (w := .ref (d_t 6)) F hB 0 rfl fl_RX12_33 rfl dX12_line_179 ?_
    refine lv_sipush (v := 495) hx hb dX12_line_182 (by decide) ?_
    refine lv_iload_n hx hb dX12_line_185 rfl (lv_at hl 1 rfl) ?_
    refine lv_iadd hx hb dX12_line_186 ?_
    refine lv_aload_n hx hb dX12_line_187 rfl (lv_at hl 0 rfl) ?_
    refine g_get (w := .ref (d_t 6)) F hB 0 rfl fl_RX12_33 rfl dX12_line_188 ?_
    refine lv_sipush (v := 475) hx hb dX12_line_191 (by decide) ?_
    refine lv_iload_n hx hb dX12_line_194 rfl (lv_at hl 1 rfl) ?_
    refine lv_iadd hx hb dX12_line_195 ?_
    obtain ⟨h_35, hf⟩ := hf
    refine g_iald F hB 5 rfl h_35 dX12_line_196 ?_
    obtain ⟨h_36, hf⟩ := hf
    refine g_iast F hB 5 rfl h_36 (wd_LongTrainModel_line k a_t d_t i_t j_t r_t_h r_t_tape r_t_reserved r_t_names (upd r_t_s (((495 : Int32) + x1)).toNatClampNeg (r_t_s (((475 : Int32) + x1)).toNatClampNeg))) rfl dX12_line_197 (fun H locs hB => ?_)
    refine lv_iinc (v := (x1 + 1)) (lv' := [(1, .int (x1 + 1)), (0, .ref a_t)]) (k := 1) hx hb dX12_line_198 hl rfl rfl (by decide) rfl (fun ls hl => ?_)
    refine lv_goto (tgt := 167) hx hb dX12_line_201 (by decide) ?_
    exact hkr_167 _ _ _ _ _ hf hB (lv_sub hl [1, 0] rfl)

set_option maxRecDepth 100000 in
set_option maxHeartbeats 4000000 in
theorem lt_LongTrainModel_line_167 {p : Program} {l : Launch} {e : Env} {s : State} {m : MethodId} {below : List Frame} {meth : Method} {c : Code} {A : Nat → Prop} {D : va_G} {k : Nat → ClassId} {a_t : Nat} {d_t : Nat → Nat} {i_t : Nat → Int32} {j_t : Nat → Int64} {r_t_h : Nat → Int32} {r_t_tape : Nat → Int32} {r_t_reserved : Nat → Int64} {r_t_names : Nat → Int64}  {Q : Int32 → (Nat → Int32) → (Nat → Int64) → (Nat → Int32) → (Nat → Int64) → (Nat → Int32) → Prop}  {kx_167 : (Nat → Int32) → Prop} (F : Fx p m c cX12_line 2 s ([.ref a_t] : List Value).toArray RX12 D k) (hr : meth.sig.returnType = (some .int)) (hlk : meth.locks = false) (hA : ∀ q : Nat, s.heap.size ≤ q → A q) (hkx_167 : ∀ (r_t_s : Nat → Int32) (H : Heap) (locs : List Loc) (ls : Array Slot), kx_167 r_t_s → Bd D A s.heap (wd_LongTrainModel_line k a_t d_t i_t j_t r_t_h r_t_tape r_t_reserved r_t_names r_t_s) H locs → lv_has ls 2 [(0, .ref a_t)] → W p l e { frames := 5, cells := 0, slots := 0, locals := 110 } s m ([.ref a_t] : List Value).toArray below meth c H locs 0 0 (Ei below (fun r w => ∃ (i_t : Nat → Int32), ∃ (j_t : Nat → Int64), ∃ (r_t_h : Nat → Int32), ∃ (r_t_names : Nat → Int64), ∃ (r_t_s : Nat → Int32), w = (wd_LongTrainModel_line k a_t d_t i_t j_t r_t_h r_t_tape r_t_reserved r_t_names r_t_s) ∧ Q r i_t j_t r_t_h r_t_names r_t_s) D k A ([.ref a_t] : List Value).toArray s 0 0) (F0 m 204 ls [])) :
    ∀ n : Nat, ∀ (x1 : Int32) (r_t_s : Nat → Int32) (H : Heap) (locs : List Loc) (ls : Array Slot), lp_LongTrainModel_line_167 kx_167 n x1 r_t_s → Bd D A s.heap (wd_LongTrainModel_line k a_t d_t i_t j_t r_t_h r_t_tape r_t_reserved r_t_names r_t_s) H locs → lv_has ls 2 [(0, .ref a_t), (1, .int x1)] → W p l e { frames := 5, cells := 0, slots := 0, locals := 110 } s m ([.ref a_t] : List Value).toArray below meth c H locs 0 0 (Ei below (fun r w => ∃ (i_t : Nat → Int32), ∃ (j_t : Nat → Int64), ∃ (r_t_h : Nat → Int32), ∃ (r_t_names : Nat → Int64), ∃ (r_t_s : Nat → Int32), w = (wd_LongTrainModel_line k a_t d_t i_t j_t r_t_h r_t_tape r_t_reserved r_t_names r_t_s) ∧ Q r i_t j_t r_t_h r_t_names r_t_s) D k A ([.ref a_t] : List Value).toArray s 0 0) (F0 m 167 ls []) := by
  intro n
  induction n with
  | zero => intro x1 r_t_s H locs ls hf; exact absurd hf (fun h => h)
  | succ n ih => exact bt_LongTrainModel_line_167 F hr hlk hA hkx_167 ih

set_option maxRecDepth 100000 in
set_option maxHeartbeats 4000000 in
theorem c_LongTrainModel_line (l : Launch) (D : va_G) (k : Nat → ClassId) (a_t : Nat) (d_t : Nat → Nat) (i_t : Nat → Int32) (j_t : Nat → Int64) (r_t_h : Nat → Int32) (r_t_tape : Nat → Int32) (r_t_reserved : Nat → Int64) (r_t_names : Nat → Int64) (r_t_s : Nat → Int32)  (Q : Int32 → (Nat → Int32) → (Nat → Int64) → (Nat → Int32) → (Nat → Int64) → (Nat → Int32) → Prop)  (hf : w_LongTrainModel_line i_t j_t r_t_h r_t_tape r_t_reserved r_t_names r_t_s Q) : CtI l yX12_line cX12_line 2 (some .int) 5 110 0 0 D k [.ref a_t] (wd_LongTrainModel_line k a_t d_t i_t j_t r_t_h r_t_tape r_t_reserved r_t_names r_t_s) (fun r w => ∃ (i_t : Nat → Int32), ∃ (j_t : Nat → Int64), ∃ (r_t_h : Nat → Int32), ∃ (r_t_names : Nat → Int64), ∃ (r_t_s : Nat → Int32), w = (wd_LongTrainModel_line k a_t d_t i_t j_t r_t_h r_t_tape r_t_reserved r_t_names r_t_s) ∧ Q r i_t j_t r_t_h r_t_names r_t_s) := by
  refine CtI.of (by decide) (Nat.le_of_ble_eq_true rfl) ?_
  intro p e s m below meth c A F hr hlk hnm hA hB ls hl
  have hx := F.x
  have hb := F.b
  unfold w_LongTrainModel_line at hf
  replace hl : lv_has ls 2 [(0, .ref a_t)] := hl
  refine lv_aload_n hx hb dX12_line_0 rfl (lv_at hl 0 rfl) ?_
  refine lv_iconst (v := 0) hx hb dX12_line_1 (by decide) ?_
  refine g_puti F hB 0 rfl fl_RX12_1 rfl (wd_LongTrainModel_line k a_t d_t (upd i_t 0 (0 : Int32)) j_t r_t_h r_t_tape r_t_reserved r_t_names r_t_s) rfl dX12_line_2 (fun H locs hB => ?_)
  refine lv_aload_n hx hb dX12_line_5 rfl (lv_at hl 0 rfl) ?_
  refine lv_sipush (v := 900) hx hb dX12_line_6 (by decide) ?_
  refine k_vv (wr := [((d_t 7), ai k 483 r_t_h), ((d_t 1), ab k 940 r_t_tape), ((d_t 10), aj k 16 r_t_reserved), ((d_t 9), aj k 32 r_t_names), ((d_t 6), ai k 1068 r_t_s)]) (rest := []) F hA hB (c_LongTrainModel_taken l D k a_t d_t (upd i_t 0 (0 : Int32)) j_t (900 : Int32) _  hf) ml_RX12_238 mv_yX12_taken [0] [1, 2, 3, 4, 5] rfl rfl (by decide) (by decide) (by decide) 0 rfl rfl rfl hl.1 rfl (Nat.le_of_ble_eq_true rfl) ⟨Nat.le_of_ble_eq_true rfl, Nat.le_of_ble_eq_true rfl⟩ ⟨Nat.le_of_ble_eq_true rfl, Nat.le_of_ble_eq_true rfl⟩ dX12_line_9 (fun w1 H locs hq hB => ?_)
  obtain ⟨i_t_1, rfl, hf⟩ := hq
  replace hB : Bd D A s.heap (wd_LongTrainModel_line k a_t d_t i_t_1 j_t r_t_h r_t_tape r_t_reserved r_t_names r_t_s) H locs := hB.sub [5, 0, 1, 2, 3, 4] (by decide) rfl
  refine lv_aload_n hx hb dX12_line_12 rfl (lv_at hl 0 rfl) ?_
  refine lv_iconst (v := 0) hx hb dX12_line_13 (by decide) ?_
  refine g_puti F hB 0 rfl fl_RX12_167 rfl (wd_LongTrainModel_line k a_t d_t (upd i_t_1 15 (0 : Int32)) j_t r_t_h r_t_tape r_t_reserved r_t_names r_t_s) rfl dX12_line_14 (fun H locs hB => ?_)
  refine lv_aload_n hx hb dX12_line_17 rfl (lv_at hl 0 rfl) ?_
  refine lv_iconst (v := 0) hx hb dX12_line_18 (by decide) ?_
  refine g_puti F hB 0 rfl fl_RX12_241 rfl (wd_LongTrainModel_line k a_t d_t (upd (upd i_t_1 15 (0 : Int32)) 19 (0 : Int32)) j_t r_t_h r_t_tape r_t_reserved r_t_names r_t_s) rfl dX12_line_19 (fun H locs hB => ?_)
  refine lv_aload_n hx hb dX12_line_22 rfl (lv_at hl 0 rfl) ?_
  refine lv_iconst (v := 0) hx hb dX12_line_23 (by decide) ?_
  refine g_puti F hB 0 rfl fl_RX12_232 rfl (wd_LongTrainModel_line k a_t d_t (upd (upd (upd i_t_1 15 (0 : Int32)) 19 (0 : Int32)) 20 (0 : Int32)) j_t r_t_h r_t_tape r_t_reserved r_t_names r_t_s) rfl dX12_line_24 (fun H locs hB => ?_)
  refine lv_aload_n hx hb dX12_line_27 rfl (lv_at hl 0 rfl) ?_
  refine lv_iconst (v := 0) hx hb dX12_line_28 (by decide) ?_
  refine g_puti F hB 0 rfl fl_RX12_226 rfl (wd_LongTrainModel_line k a_t d_t (upd (upd (upd (upd i_t_1 15 (0 : Int32)) 19 (0 : Int32)) 20 (0 : Int32)) 21 (0 : Int32)) j_t r_t_h r_t_tape r_t_reserved r_t_names r_t_s) rfl dX12_line_29 (fun H locs hB => ?_)
  refine lv_aload_n hx hb dX12_line_32 rfl (lv_at hl 0 rfl) ?_
  refine k_vv (wr := [((d_t 1), ab k 940 r_t_tape), ((d_t 10), aj k 16 r_t_reserved), ((d_t 9), aj k 32 r_t_names), ((d_t 6), ai k 1068 r_t_s)]) (rest := []) F hA hB (c_LongTrainModel_plainLine l D k a_t d_t (upd (upd (upd (upd i_t_1 15 (0 : Int32)) 19 (0 : Int32)) 20 (0 : Int32)) 21 (0 : Int32)) j_t r_t_h _  hf) ml_RX12_137 mv_yX12_plainLine [0, 1] [2, 3, 4, 5] rfl rfl (by decide) (by decide) (by decide) 0 rfl rfl rfl hl.1 rfl (Nat.le_of_ble_eq_true rfl) ⟨Nat.le_of_ble_eq_true rfl, Nat.le_of_ble_eq_true rfl⟩ ⟨Nat.le_of_ble_eq_true rfl, Nat.le_of_ble_eq_true rfl⟩ dX12_line_33 (fun w1 H locs hq hB => ?_)
  obtain ⟨r_t_h_2, rfl, hf⟩ := hq
  replace hB : Bd D A s.heap (wd_LongTrainModel_line k a_t d_t (upd (upd (upd (upd i_t_1 15 (0 : Int32)) 19 (0 : Int32)) 20 (0 : Int32)) 21 (0 : Int32)) j_t r_t_h_2 r_t_tape r_t_reserved r_t_names r_t_s) H locs := hB.sub [4, 5, 0, 1, 2, 3] (by decide) rfl
  refine lv_aload_n hx hb dX12_line_36 rfl (lv_at hl 0 rfl) ?_
  refine k_vv (wr := [((d_t 7), ai k 483 r_t_h_2), ((d_t 10), aj k 16 r_t_reserved), ((d_t 9), aj k 32 r_t_names), ((d_t 6), ai k 1068 r_t_s)]) (rest := []) F hA hB (c_LongTrainModel_next l D k a_t d_t (upd (upd (upd (upd i_t_1 15 (0 : Int32)) 19 (0 : Int32)) 20 (0 : Int32)) 21 (0 : Int32)) j_t r_t_tape _  hf) ml_RX12_179 mv_yX12_next [0, 2] [1, 3, 4, 5] rfl rfl (by decide) (by decide) (by decide) 0 rfl rfl rfl hl.1 rfl (Nat.le_of_ble_eq_true rfl) ⟨Nat.le_of_ble_eq_true rfl, Nat.le_of_ble_eq_true rfl⟩ ⟨Nat.le_of_ble_eq_true rfl, Nat.le_of_ble_eq_true rfl⟩ dX12_line_37 (fun w1 H locs hq hB => ?_)
  obtain ⟨i_t_3, j_t_4, rfl, hf⟩ := hq
  replace hB : Bd D A s.heap (wd_LongTrainModel_line k a_t d_t i_t_3 j_t_4 r_t_h_2 r_t_tape r_t_reserved r_t_names r_t_s) H locs := hB.sub [4, 0, 5, 1, 2, 3] (by decide) rfl
  obtain ⟨n_42, hf⟩ := hf
  refine lt_LongTrainModel_line_40 F hr hlk hA (fun i_t_18 j_t_19 r_t_h_20 r_t_names_21 H locs ls hf hB hl => ?_) n_42 _ _ _ _ _ _ _ hf hB (lv_sub hl [0] rfl)
  refine lv_iconst (v := 0) hx hb dX12_line_83 (by decide) ?_
  refine lv_istore_n (lv' := [(1, .int (0 : Int32)), (0, .ref a_t)]) hx hb dX12_line_84 rfl hl (by decide) rfl (fun ls hl => ?_)
  obtain ⟨n_41, hf⟩ := hf
  refine lt_LongTrainModel_line_85 F hr hlk hA (fun r_t_s_27 H locs ls hf hB hl => ?_) n_41 _ _ _ _ _ hf hB (lv_sub hl [1, 0] rfl)
  refine lv_iconst (v := 0) hx hb dX12_line_121 (by decide) ?_
  refine lv_istore_n (lv' := [(1, .int (0 : Int32)), (0, .ref a_t)]) hx hb dX12_line_122 rfl hl (by decide) rfl (fun ls hl => ?_)
  obtain ⟨n_40, hf⟩ := hf
  refine lt_LongTrainModel_line_123 F hr hlk hA (fun r_t_names_31 H locs ls hf hB hl => ?_) n_40 _ _ _ _ _ hf hB (lv_sub hl [1, 0] rfl)
  refine lv_aload_n hx hb dX12_line_150 rfl (lv_at hl 0 rfl) ?_
  refine g_get (w := .ref (d_t 6)) F hB 0 rfl fl_RX12_33 rfl dX12_line_151 ?_
  refine lv_sipush (v := 484) hx hb dX12_line_154 (by decide) ?_
  refine lv_aload_n hx hb dX12_line_157 rfl (lv_at hl 0 rfl) ?_
  refine g_get (w := .ref (d_t 6)) F hB 0 rfl fl_RX12_33 rfl dX12_line_158 ?_
  refine lv_bipush (v := 10) hx hb dX12_line_161 (by decide) ?_
  refine g_iald F hB 5 rfl (vp_in_iff.mpr (by decide +kernel)) dX12_line_163 ?_
  refine W.eq (g2 := F0 m 164 ls [.int (r_t_s_27 10), .int (484 : Int32), .ref (d_t 6)]) rfl ?_
  refine g_iast F hB 5 rfl (vp_in_iff.mpr (by decide +kernel)) (wd_LongTrainModel_line k a_t d_t i_t_18 j_t_19 r_t_h_20 r_t_tape r_t_reserved r_t_names_31 (upd r_t_s_27 484 (r_t_s_27 10))) rfl dX12_line_164 (fun H locs hB => ?_)
  refine lv_iconst (v := 0) hx hb dX12_line_165 (by decide) ?_
  refine lv_istore_n (lv' := [(1, .int (0 : Int32)), (0, .ref a_t)]) hx hb dX12_line_166 rfl hl (by decide) rfl (fun ls hl => ?_)
  obtain ⟨n_39, hf⟩ := hf
  refine lt_LongTrainModel_line_167 F hr hlk hA (fun r_t_s_38 H locs ls hf hB hl => ?_) n_39 _ _ _ _ _ hf hB (lv_sub hl [1, 0] rfl)
  refine lv_aload_n hx hb dX12_line_204 rfl (lv_at hl 0 rfl) ?_
  refine g_get (w := .int (i_t_18 19)) F hB 0 rfl fl_RX12_241 rfl dX12_line_205 ?_
  exact r_i F hr hlk hB ⟨_, _, _, _, _, rfl, hf⟩ dX12_line_208

/-! LongTrainModel.fault -/
set_option maxRecDepth 100000 in
set_option maxHeartbeats 4000000 in
theorem c_LongTrainModel_fault (l : Launch) (D : va_G) (k : Nat → ClassId) (a_t : Nat) (d_t : Nat → Nat) (i_t : Nat → Int32) (j_t : Nat → Int64)  (Q : Int32 → (Nat → Int32) → Prop)  (hf : w_LongTrainModel_fault i_t Q) : CtI l yX12_fault cX12_fault 1 (some .int) 0 0 0 0 D k [.ref a_t] (wd_LongTrainModel_fault k a_t d_t i_t j_t) (fun r w => ∃ (i_t : Nat → Int32), w = (wd_LongTrainModel_fault k a_t d_t i_t j_t) ∧ Q r i_t) := by
  refine CtI.of (by decide) (Nat.le_of_ble_eq_true rfl) ?_
  intro p e s m below meth c A F hr hlk hnm hA hB ls hl
  have hx := F.x
  have hb := F.b
  unfold w_LongTrainModel_fault at hf
  replace hl : lv_has ls 1 [(0, .ref a_t)] := hl
  refine lv_aload_n hx hb dX12_fault_0 rfl (lv_at hl 0 rfl) ?_
  refine lv_iconst (v := 0) hx hb dX12_fault_1 (by decide) ?_
  refine g_puti F hB 0 rfl fl_RX12_1 rfl (wd_LongTrainModel_fault k a_t d_t (upd i_t 0 (0 : Int32)) j_t) rfl dX12_fault_2 (fun H locs hB => ?_)
  refine lv_aload_n hx hb dX12_fault_5 rfl (lv_at hl 0 rfl) ?_
  refine g_get (w := .int ((upd i_t 0 (0 : Int32)) 15)) F hB 0 rfl fl_RX12_167 rfl dX12_fault_6 ?_
  exact r_i F hr hlk hB ⟨_, rfl, hf⟩ dX12_fault_9

/-! LongTrainModel.isHalt -/
set_option maxRecDepth 100000 in
set_option maxHeartbeats 4000000 in
theorem c_LongTrainModel_isHalt (l : Launch) (D : va_G) (k : Nat → ClassId) (a_t : Nat) (d_t : Nat → Nat) (i_t : Nat → Int32) (j_t : Nat → Int64) (r_t_s : Nat → Int32) (n1 : Int32) (Q : Int32 → Prop)  (hf : w_LongTrainModel_isHalt r_t_s n1 Q) : CtI l yX12_isHalt cX12_isHalt 2 (some .boolean) 1 22 0 0 D k [.ref a_t, .int n1] (wd_LongTrainModel_isHalt k a_t d_t i_t j_t r_t_s) (fun r w => (r = 0 ∨ r = 1) ∧ (w = (wd_LongTrainModel_isHalt k a_t d_t i_t j_t r_t_s) ∧ Q r)) := by
  refine CtI.of (by decide) (Nat.le_of_ble_eq_true rfl) ?_
  intro p e s m below meth c A F hr hlk hnm hA hB ls hl
  have hx := F.x
  have hb := F.b
  unfold w_LongTrainModel_isHalt at hf
  replace hl : lv_has ls 2 [(0, .ref a_t), (1, .int n1)] := hl
  refine lv_iload_n hx hb dX12_isHalt_0 rfl (lv_at hl 1 rfl) ?_
  refine lv_iconst (v := 0) hx hb dX12_isHalt_1 (by decide) ?_
  refine lv_aload_n hx hb dX12_isHalt_2 rfl (lv_at hl 0 rfl) ?_
  refine g_get (w := .ref (d_t 6)) F hB 0 rfl fl_RX12_33 rfl dX12_isHalt_3 ?_
  refine lv_iconst (v := 1) hx hb dX12_isHalt_6 (by decide) ?_
  refine g_iald F hB 1 rfl (vp_in_iff.mpr (by decide +kernel)) dX12_isHalt_7 ?_
  refine W.eq (g2 := F0 m 8 ls [.int (r_t_s 1), .int (0 : Int32), .int n1]) rfl ?_
  refine lv_iconst (v := 1) hx hb dX12_isHalt_8 (by decide) ?_
  refine lv_isub hx hb dX12_isHalt_9 ?_
  refine k_si (wr := [(a_t, ob 12 (rfd d_t) i_t j_t), ((d_t 6), ai k 1068 r_t_s)]) (rest := []) F hA hB (c_LongTrainModel_isIn l D k n1 (0 : Int32) ((r_t_s 1) - (1 : Int32)) _  hf) ml_RX12_182 ms_yX12_isIn [] [0, 1] rfl rfl (by decide) (by decide) (by decide) rfl hl.1 rfl (Nat.le_of_ble_eq_true rfl) ⟨Nat.le_of_ble_eq_true rfl, Nat.le_of_ble_eq_true rfl⟩ ⟨Nat.le_of_ble_eq_true rfl, Nat.le_of_ble_eq_true rfl⟩ dX12_isHalt_10 (fun z_2 w1 H locs hq hB => ?_)
  obtain ⟨h_3, rfl, hf⟩ := hq
  replace hB : Bd D A s.heap (wd_LongTrainModel_isHalt k a_t d_t i_t j_t r_t_s) H locs := hB.sub [0, 1] (by decide) rfl
  exact r_z F hr hlk hB (h_3) ⟨h_3, rfl, hf⟩ dX12_isHalt_13

/-! LongTrainModel.isKind -/
set_option maxRecDepth 100000 in
set_option maxHeartbeats 4000000 in
theorem c_LongTrainModel_isKind (l : Launch) (D : va_G) (k : Nat → ClassId) (a_t : Nat) (d_t : Nat → Nat) (i_t : Nat → Int32) (j_t : Nat → Int64) (r_t_s : Nat → Int32) (n1 : Int32) (Q : Int32 → Prop)  (hf : w_LongTrainModel_isKind r_t_s n1 Q) : CtI l yX12_isKind cX12_isKind 2 (some .boolean) 1 22 0 0 D k [.ref a_t, .int n1] (wd_LongTrainModel_isKind k a_t d_t i_t j_t r_t_s) (fun r w => (r = 0 ∨ r = 1) ∧ (w = (wd_LongTrainModel_isKind k a_t d_t i_t j_t r_t_s) ∧ Q r)) := by
  refine CtI.of (by decide) (Nat.le_of_ble_eq_true rfl) ?_
  intro p e s m below meth c A F hr hlk hnm hA hB ls hl
  have hx := F.x
  have hb := F.b
  unfold w_LongTrainModel_isKind at hf
  replace hl : lv_has ls 2 [(0, .ref a_t), (1, .int n1)] := hl
  refine lv_iload_n hx hb dX12_isKind_0 rfl (lv_at hl 1 rfl) ?_
  refine lv_iconst (v := 0) hx hb dX12_isKind_1 (by decide) ?_
  refine lv_aload_n hx hb dX12_isKind_2 rfl (lv_at hl 0 rfl) ?_
  refine g_get (w := .ref (d_t 6)) F hB 0 rfl fl_RX12_33 rfl dX12_isKind_3 ?_
  refine lv_iconst (v := 3) hx hb dX12_isKind_6 (by decide) ?_
  refine g_iald F hB 1 rfl (vp_in_iff.mpr (by decide +kernel)) dX12_isKind_7 ?_
  refine W.eq (g2 := F0 m 8 ls [.int (r_t_s 3), .int (0 : Int32), .int n1]) rfl ?_
  refine lv_iconst (v := 1) hx hb dX12_isKind_8 (by decide) ?_
  refine lv_isub hx hb dX12_isKind_9 ?_
  refine k_si (wr := [(a_t, ob 12 (rfd d_t) i_t j_t), ((d_t 6), ai k 1068 r_t_s)]) (rest := []) F hA hB (c_LongTrainModel_isIn l D k n1 (0 : Int32) ((r_t_s 3) - (1 : Int32)) _  hf) ml_RX12_182 ms_yX12_isIn [] [0, 1] rfl rfl (by decide) (by decide) (by decide) rfl hl.1 rfl (Nat.le_of_ble_eq_true rfl) ⟨Nat.le_of_ble_eq_true rfl, Nat.le_of_ble_eq_true rfl⟩ ⟨Nat.le_of_ble_eq_true rfl, Nat.le_of_ble_eq_true rfl⟩ dX12_isKind_10 (fun z_2 w1 H locs hq hB => ?_)
  obtain ⟨h_3, rfl, hf⟩ := hq
  replace hB : Bd D A s.heap (wd_LongTrainModel_isKind k a_t d_t i_t j_t r_t_s) H locs := hB.sub [0, 1] (by decide) rfl
  exact r_z F hr hlk hB (h_3) ⟨h_3, rfl, hf⟩ dX12_isKind_13

/-! LongTrainModel.isUnit -/
set_option maxRecDepth 100000 in
set_option maxHeartbeats 4000000 in
theorem c_LongTrainModel_isUnit (l : Launch) (D : va_G) (k : Nat → ClassId) (a_t : Nat) (d_t : Nat → Nat) (i_t : Nat → Int32) (j_t : Nat → Int64) (r_t_s : Nat → Int32) (n1 : Int32) (Q : Int32 → Prop)  (hf : w_LongTrainModel_isUnit r_t_s n1 Q) : CtI l yX12_isUnit cX12_isUnit 2 (some .boolean) 1 22 0 0 D k [.ref a_t, .int n1] (wd_LongTrainModel_isUnit k a_t d_t i_t j_t r_t_s) (fun r w => (r = 0 ∨ r = 1) ∧ (w = (wd_LongTrainModel_isUnit k a_t d_t i_t j_t r_t_s) ∧ Q r)) := by
  refine CtI.of (by decide) (Nat.le_of_ble_eq_true rfl) ?_
  intro p e s m below meth c A F hr hlk hnm hA hB ls hl
  have hx := F.x
  have hb := F.b
  unfold w_LongTrainModel_isUnit at hf
  replace hl : lv_has ls 2 [(0, .ref a_t), (1, .int n1)] := hl
  refine lv_iload_n hx hb dX12_isUnit_0 rfl (lv_at hl 1 rfl) ?_
  refine lv_iconst (v := 0) hx hb dX12_isUnit_1 (by decide) ?_
  refine lv_aload_n hx hb dX12_isUnit_2 rfl (lv_at hl 0 rfl) ?_
  refine g_get (w := .ref (d_t 6)) F hB 0 rfl fl_RX12_33 rfl dX12_isUnit_3 ?_
  refine lv_iconst (v := 0) hx hb dX12_isUnit_6 (by decide) ?_
  refine g_iald F hB 1 rfl (vp_in_iff.mpr (by decide +kernel)) dX12_isUnit_7 ?_
  refine W.eq (g2 := F0 m 8 ls [.int (r_t_s 0), .int (0 : Int32), .int n1]) rfl ?_
  refine lv_iconst (v := 1) hx hb dX12_isUnit_8 (by decide) ?_
  refine lv_isub hx hb dX12_isUnit_9 ?_
  refine k_si (wr := [(a_t, ob 12 (rfd d_t) i_t j_t), ((d_t 6), ai k 1068 r_t_s)]) (rest := []) F hA hB (c_LongTrainModel_isIn l D k n1 (0 : Int32) ((r_t_s 0) - (1 : Int32)) _  hf) ml_RX12_182 ms_yX12_isIn [] [0, 1] rfl rfl (by decide) (by decide) (by decide) rfl hl.1 rfl (Nat.le_of_ble_eq_true rfl) ⟨Nat.le_of_ble_eq_true rfl, Nat.le_of_ble_eq_true rfl⟩ ⟨Nat.le_of_ble_eq_true rfl, Nat.le_of_ble_eq_true rfl⟩ dX12_isUnit_10 (fun z_2 w1 H locs hq hB => ?_)
  obtain ⟨h_3, rfl, hf⟩ := hq
  replace hB : Bd D A s.heap (wd_LongTrainModel_isUnit k a_t d_t i_t j_t r_t_s) H locs := hB.sub [0, 1] (by decide) rfl
  exact r_z F hr hlk hB (h_3) ⟨h_3, rfl, hf⟩ dX12_isUnit_13

/-! LongTrainModel.gradeOf -/
set_option maxRecDepth 100000 in
set_option maxHeartbeats 4000000 in
theorem c_LongTrainModel_gradeOf (l : Launch) (D : va_G) (k : Nat → ClassId) (a_t : Nat) (d_t : Nat → Nat) (i_t : Nat → Int32) (j_t : Nat → Int64) (r_t_s : Nat → Int32) (n1 : Int32) (Q : Int32 → Prop)  (hf : w_LongTrainModel_gradeOf r_t_s n1 Q) : CtI l yX12_gradeOf cX12_gradeOf 2 (some .int) 0 0 0 0 D k [.ref a_t, .int n1] (wd_LongTrainModel_gradeOf k a_t d_t i_t j_t r_t_s) (fun r w => w = (wd_LongTrainModel_gradeOf k a_t d_t i_t j_t r_t_s) ∧ Q r) := by
  refine CtI.of (by decide) (Nat.le_of_ble_eq_true rfl) ?_
  intro p e s m below meth c A F hr hlk hnm hA hB ls hl
  have hx := F.x
  have hb := F.b
  unfold w_LongTrainModel_gradeOf at hf
  replace hl : lv_has ls 2 [(0, .ref a_t), (1, .int n1)] := hl
  refine lv_iload_n hx hb dX12_gradeOf_0 rfl (lv_at hl 1 rfl) ?_
  refine lv_if_ge (tgt := 8) hx hb dX12_gradeOf_1 (by decide) (fun c_2 => ?_) (fun c_2 => ?_)
  · replace hf := hf.1 c_2
    refine lv_aload_n hx hb dX12_gradeOf_8 rfl (lv_at hl 0 rfl) ?_
    refine g_get (w := .ref (d_t 6)) F hB 0 rfl fl_RX12_33 rfl dX12_gradeOf_9 ?_
    refine lv_bipush (v := 11) hx hb dX12_gradeOf_12 (by decide) ?_
    refine lv_iload_n hx hb dX12_gradeOf_14 rfl (lv_at hl 1 rfl) ?_
    refine lv_iadd hx hb dX12_gradeOf_15 ?_
    obtain ⟨h_1, hf⟩ := hf
    refine g_iald F hB 1 rfl h_1 dX12_gradeOf_16 ?_
    exact r_i F hr hlk hB ⟨rfl, hf⟩ dX12_gradeOf_17
  · replace hf := hf.2 c_2
    refine lv_iconst (v := 0) hx hb dX12_gradeOf_4 (by decide) ?_
    refine lv_goto (tgt := 17) hx hb dX12_gradeOf_5 (by decide) ?_
    exact r_i F hr hlk hB ⟨rfl, hf⟩ dX12_gradeOf_17

/-! LongTrainModel.longOf -/
set_option maxRecDepth 100000 in
set_option maxHeartbeats 4000000 in
theorem c_LongTrainModel_longOf (l : Launch) (D : va_G) (k : Nat → ClassId) (a_t : Nat) (d_t : Nat → Nat) (i_t : Nat → Int32) (j_t : Nat → Int64) (r_t_s : Nat → Int32) (n1 : Int32) (Q : Int32 → Prop)  (hf : w_LongTrainModel_longOf r_t_s n1 Q) : CtI l yX12_longOf cX12_longOf 2 (some .int) 0 0 0 0 D k [.ref a_t, .int n1] (wd_LongTrainModel_longOf k a_t d_t i_t j_t r_t_s) (fun r w => w = (wd_LongTrainModel_longOf k a_t d_t i_t j_t r_t_s) ∧ Q r) := by
  refine CtI.of (by decide) (Nat.le_of_ble_eq_true rfl) ?_
  intro p e s m below meth c A F hr hlk hnm hA hB ls hl
  have hx := F.x
  have hb := F.b
  unfold w_LongTrainModel_longOf at hf
  replace hl : lv_has ls 2 [(0, .ref a_t), (1, .int n1)] := hl
  refine lv_aload_n hx hb dX12_longOf_0 rfl (lv_at hl 0 rfl) ?_
  refine g_get (w := .ref (d_t 6)) F hB 0 rfl fl_RX12_33 rfl dX12_longOf_1 ?_
  refine lv_sipush (v := 457) hx hb dX12_longOf_4 (by decide) ?_
  refine lv_iconst (v := 3) hx hb dX12_longOf_7 (by decide) ?_
  refine lv_iload_n hx hb dX12_longOf_8 rfl (lv_at hl 1 rfl) ?_
  refine lv_imul hx hb dX12_longOf_9 ?_
  refine lv_iadd hx hb dX12_longOf_10 ?_
  obtain ⟨h_1, hf⟩ := hf
  refine g_iald F hB 1 rfl h_1 dX12_longOf_11 ?_
  exact r_i F hr hlk hB ⟨rfl, hf⟩ dX12_longOf_12

/-! LongTrainModel.weightOf -/
set_option maxRecDepth 100000 in
set_option maxHeartbeats 4000000 in
theorem c_LongTrainModel_weightOf (l : Launch) (D : va_G) (k : Nat → ClassId) (a_t : Nat) (d_t : Nat → Nat) (i_t : Nat → Int32) (j_t : Nat → Int64) (r_t_s : Nat → Int32) (n1 : Int32) (Q : Int32 → Prop)  (hf : w_LongTrainModel_weightOf r_t_s n1 Q) : CtI l yX12_weightOf cX12_weightOf 2 (some .int) 0 0 0 0 D k [.ref a_t, .int n1] (wd_LongTrainModel_weightOf k a_t d_t i_t j_t r_t_s) (fun r w => w = (wd_LongTrainModel_weightOf k a_t d_t i_t j_t r_t_s) ∧ Q r) := by
  refine CtI.of (by decide) (Nat.le_of_ble_eq_true rfl) ?_
  intro p e s m below meth c A F hr hlk hnm hA hB ls hl
  have hx := F.x
  have hb := F.b
  unfold w_LongTrainModel_weightOf at hf
  replace hl : lv_has ls 2 [(0, .ref a_t), (1, .int n1)] := hl
  refine lv_aload_n hx hb dX12_weightOf_0 rfl (lv_at hl 0 rfl) ?_
  refine g_get (w := .ref (d_t 6)) F hB 0 rfl fl_RX12_33 rfl dX12_weightOf_1 ?_
  refine lv_sipush (v := 457) hx hb dX12_weightOf_4 (by decide) ?_
  refine lv_iconst (v := 3) hx hb dX12_weightOf_7 (by decide) ?_
  refine lv_iload_n hx hb dX12_weightOf_8 rfl (lv_at hl 1 rfl) ?_
  refine lv_imul hx hb dX12_weightOf_9 ?_
  refine lv_iadd hx hb dX12_weightOf_10 ?_
  refine lv_iconst (v := 1) hx hb dX12_weightOf_11 (by decide) ?_
  refine lv_iadd hx hb dX12_weightOf_12 ?_
  obtain ⟨h_1, hf⟩ := hf
  refine g_iald F hB 1 rfl h_1 dX12_weightOf_13 ?_
  exact r_i F hr hlk hB ⟨rfl, hf⟩ dX12_weightOf_14

/-! LongTrainModel.strengthOf -/
set_option maxRecDepth 100000 in
set_option maxHeartbeats 4000000 in
theorem c_LongTrainModel_strengthOf (l : Launch) (D : va_G) (k : Nat → ClassId) (a_t : Nat) (d_t : Nat → Nat) (i_t : Nat → Int32) (j_t : Nat → Int64) (r_t_s : Nat → Int32) (n1 : Int32) (Q : Int32 → Prop)  (hf : w_LongTrainModel_strengthOf r_t_s n1 Q) : CtI l yX12_strengthOf cX12_strengthOf 2 (some .int) 0 0 0 0 D k [.ref a_t, .int n1] (wd_LongTrainModel_strengthOf k a_t d_t i_t j_t r_t_s) (fun r w => w = (wd_LongTrainModel_strengthOf k a_t d_t i_t j_t r_t_s) ∧ Q r) := by
  refine CtI.of (by decide) (Nat.le_of_ble_eq_true rfl) ?_
  intro p e s m below meth c A F hr hlk hnm hA hB ls hl
  have hx := F.x
  have hb := F.b
  unfold w_LongTrainModel_strengthOf at hf
  replace hl : lv_has ls 2 [(0, .ref a_t), (1, .int n1)] := hl
  refine lv_aload_n hx hb dX12_strengthOf_0 rfl (lv_at hl 0 rfl) ?_
  refine g_get (w := .ref (d_t 6)) F hB 0 rfl fl_RX12_33 rfl dX12_strengthOf_1 ?_
  refine lv_sipush (v := 457) hx hb dX12_strengthOf_4 (by decide) ?_
  refine lv_iconst (v := 3) hx hb dX12_strengthOf_7 (by decide) ?_
  refine lv_iload_n hx hb dX12_strengthOf_8 rfl (lv_at hl 1 rfl) ?_
  refine lv_imul hx hb dX12_strengthOf_9 ?_
  refine lv_iadd hx hb dX12_strengthOf_10 ?_
  refine lv_iconst (v := 2) hx hb dX12_strengthOf_11 (by decide) ?_
  refine lv_iadd hx hb dX12_strengthOf_12 ?_
  obtain ⟨h_1, hf⟩ := hf
  refine g_iald F hB 1 rfl h_1 dX12_strengthOf_13 ?_
  exact r_i F hr hlk hB ⟨rfl, hf⟩ dX12_strengthOf_14

/-! LongTrainModel.haltAt -/
set_option maxRecDepth 100000 in
set_option maxHeartbeats 4000000 in
theorem c_LongTrainModel_haltAt (l : Launch) (D : va_G) (k : Nat → ClassId) (a_t : Nat) (d_t : Nat → Nat) (i_t : Nat → Int32) (j_t : Nat → Int64) (r_t_s : Nat → Int32) (n1 : Int32) (Q : Int32 → Prop)  (hf : w_LongTrainModel_haltAt r_t_s n1 Q) : CtI l yX12_haltAt cX12_haltAt 2 (some .int) 0 0 0 0 D k [.ref a_t, .int n1] (wd_LongTrainModel_haltAt k a_t d_t i_t j_t r_t_s) (fun r w => w = (wd_LongTrainModel_haltAt k a_t d_t i_t j_t r_t_s) ∧ Q r) := by
  refine CtI.of (by decide) (Nat.le_of_ble_eq_true rfl) ?_
  intro p e s m below meth c A F hr hlk hnm hA hB ls hl
  have hx := F.x
  have hb := F.b
  unfold w_LongTrainModel_haltAt at hf
  replace hl : lv_has ls 2 [(0, .ref a_t), (1, .int n1)] := hl
  refine lv_aload_n hx hb dX12_haltAt_0 rfl (lv_at hl 0 rfl) ?_
  refine g_get (w := .ref (d_t 6)) F hB 0 rfl fl_RX12_33 rfl dX12_haltAt_1 ?_
  refine lv_sipush (v := 411) hx hb dX12_haltAt_4 (by decide) ?_
  refine lv_iconst (v := 3) hx hb dX12_haltAt_7 (by decide) ?_
  refine lv_iload_n hx hb dX12_haltAt_8 rfl (lv_at hl 1 rfl) ?_
  refine lv_imul hx hb dX12_haltAt_9 ?_
  refine lv_iadd hx hb dX12_haltAt_10 ?_
  obtain ⟨h_1, hf⟩ := hf
  refine g_iald F hB 1 rfl h_1 dX12_haltAt_11 ?_
  exact r_i F hr hlk hB ⟨rfl, hf⟩ dX12_haltAt_12

/-! LongTrainModel.addsOf -/
set_option maxRecDepth 100000 in
set_option maxHeartbeats 4000000 in
theorem c_LongTrainModel_addsOf (l : Launch) (D : va_G) (k : Nat → ClassId) (a_t : Nat) (d_t : Nat → Nat) (i_t : Nat → Int32) (j_t : Nat → Int64) (r_t_s : Nat → Int32) (n1 : Int32) (Q : Int32 → Prop)  (hf : w_LongTrainModel_addsOf r_t_s n1 Q) : CtI l yX12_addsOf cX12_addsOf 2 (some .int) 0 0 0 0 D k [.ref a_t, .int n1] (wd_LongTrainModel_addsOf k a_t d_t i_t j_t r_t_s) (fun r w => w = (wd_LongTrainModel_addsOf k a_t d_t i_t j_t r_t_s) ∧ Q r) := by
  refine CtI.of (by decide) (Nat.le_of_ble_eq_true rfl) ?_
  intro p e s m below meth c A F hr hlk hnm hA hB ls hl
  have hx := F.x
  have hb := F.b
  unfold w_LongTrainModel_addsOf at hf
  replace hl : lv_has ls 2 [(0, .ref a_t), (1, .int n1)] := hl
  refine lv_aload_n hx hb dX12_addsOf_0 rfl (lv_at hl 0 rfl) ?_
  refine g_get (w := .ref (d_t 6)) F hB 0 rfl fl_RX12_33 rfl dX12_addsOf_1 ?_
  refine lv_sipush (v := 411) hx hb dX12_addsOf_4 (by decide) ?_
  refine lv_iconst (v := 3) hx hb dX12_addsOf_7 (by decide) ?_
  refine lv_iload_n hx hb dX12_addsOf_8 rfl (lv_at hl 1 rfl) ?_
  refine lv_imul hx hb dX12_addsOf_9 ?_
  refine lv_iadd hx hb dX12_addsOf_10 ?_
  refine lv_iconst (v := 2) hx hb dX12_addsOf_11 (by decide) ?_
  refine lv_iadd hx hb dX12_addsOf_12 ?_
  obtain ⟨h_1, hf⟩ := hf
  refine g_iald F hB 1 rfl h_1 dX12_addsOf_13 ?_
  refine lv_iconst (v := 1) hx hb dX12_addsOf_14 (by decide) ?_
  refine lv_isub hx hb dX12_addsOf_15 ?_
  exact r_i F hr hlk hB ⟨rfl, hf⟩ dX12_addsOf_16

/-! LongTrainModel.grade -/
set_option maxRecDepth 100000 in
set_option maxHeartbeats 4000000 in
theorem jt_LongTrainModel_grade_24 {p : Program} {l : Launch} {e : Env} {s : State} {m : MethodId} {below : List Frame} {meth : Method} {c : Code} {A : Nat → Prop} {D : va_G} {k : Nat → ClassId} {a_t : Nat} {d_t : Nat → Nat} {j_t : Nat → Int64} {r_t_s : Nat → Int32} {n1 : Int32} {Q : Int32 → (Nat → Int32) → Prop}  (F : Fx p m c cX12_grade 2 s ([.ref a_t, .int n1] : List Value).toArray RX12 D k) (hr : meth.sig.returnType = (some .int)) (hlk : meth.locks = false) (hA : ∀ q : Nat, s.heap.size ≤ q → A q) :
    ∀ (i_t : Nat → Int32) (x1 : Int32) (y0 : Int32) (H : Heap) (locs : List Loc) (ls : Array Slot), j_LongTrainModel_grade_24 i_t r_t_s x1 y0 Q → Bd D A s.heap (wd_LongTrainModel_grade k a_t d_t i_t j_t r_t_s) H locs → lv_has ls 2 [(0, .ref a_t), (1, .int x1)] → W p l e { frames := 1, cells := 0, slots := 0, locals := 22 } s m ([.ref a_t, .int n1] : List Value).toArray below meth c H locs 0 0 (Ei below (fun r w => ∃ (i_t : Nat → Int32), w = (wd_LongTrainModel_grade k a_t d_t i_t j_t r_t_s) ∧ Q r i_t) D k A ([.ref a_t, .int n1] : List Value).toArray s 0 0) (F0 m 24 ls [.int y0, .ref a_t]) := by
  have hx := F.x
  have hb := F.b
  intro i_t x1 y0 H locs ls hf hB hl
  unfold j_LongTrainModel_grade_24 at hf
  refine k_vi (wr := [((d_t 6), ai k 1068 r_t_s)]) (rest := []) F hA hB (c_LongTrainModel_throwsIf l D k a_t d_t i_t j_t y0 _  hf) ml_RX12_250 mv_yX12_throwsIf [0] [1] rfl rfl (by decide) (by decide) (by decide) 0 rfl rfl rfl hl.1 rfl (Nat.le_of_ble_eq_true rfl) ⟨Nat.le_of_ble_eq_true rfl, Nat.le_of_ble_eq_true rfl⟩ ⟨Nat.le_of_ble_eq_true rfl, Nat.le_of_ble_eq_true rfl⟩ dX12_grade_24 (fun z_5 w1 H locs hq hB => ?_)
  obtain ⟨h_6, i_t_4, rfl, hf⟩ := hq
  replace hB : Bd D A s.heap (wd_LongTrainModel_grade k a_t d_t i_t_4 j_t r_t_s) H locs := hB.sub [1, 0] (by decide) rfl
  refine lv_if_eq (tgt := 34) hx hb dX12_grade_27 (by decide) (fun c_8 => ?_) (fun c_8 => ?_)
  · replace hf := hf.1 c_8
    refine lv_aload_n hx hb dX12_grade_34 rfl (lv_at hl 0 rfl) ?_
    refine lv_iload_n hx hb dX12_grade_35 rfl (lv_at hl 1 rfl) ?_
    refine k_vi (wr := []) (rest := []) F hA hB (c_LongTrainModel_gradeOf l D k a_t d_t i_t_4 j_t r_t_s x1 _  hf) ml_RX12_254 mv_yX12_gradeOf [0, 1] [] rfl rfl (by decide) (by decide) (by decide) 0 rfl rfl rfl hl.1 rfl (Nat.le_of_ble_eq_true rfl) ⟨Nat.le_of_ble_eq_true rfl, Nat.le_of_ble_eq_true rfl⟩ ⟨Nat.le_of_ble_eq_true rfl, Nat.le_of_ble_eq_true rfl⟩ dX12_grade_36 (fun z_7 w1 H locs hq hB => ?_)
    obtain ⟨rfl, hf⟩ := hq
    replace hB : Bd D A s.heap (wd_LongTrainModel_grade k a_t d_t i_t_4 j_t r_t_s) H locs := hB.sub [0, 1] (by decide) rfl
    exact r_i F hr hlk hB ⟨_, rfl, hf⟩ dX12_grade_39
  · replace hf := hf.2 c_8
    refine lv_iconst (v := 0) hx hb dX12_grade_30 (by decide) ?_
    refine lv_goto (tgt := 39) hx hb dX12_grade_31 (by decide) ?_
    exact r_i F hr hlk hB ⟨_, rfl, hf⟩ dX12_grade_39

set_option maxRecDepth 100000 in
set_option maxHeartbeats 4000000 in
theorem c_LongTrainModel_grade (l : Launch) (D : va_G) (k : Nat → ClassId) (a_t : Nat) (d_t : Nat → Nat) (i_t : Nat → Int32) (j_t : Nat → Int64) (r_t_s : Nat → Int32) (n1 : Int32) (Q : Int32 → (Nat → Int32) → Prop)  (hf : w_LongTrainModel_grade i_t r_t_s n1 Q) : CtI l yX12_grade cX12_grade 2 (some .int) 1 22 0 0 D k [.ref a_t, .int n1] (wd_LongTrainModel_grade k a_t d_t i_t j_t r_t_s) (fun r w => ∃ (i_t : Nat → Int32), w = (wd_LongTrainModel_grade k a_t d_t i_t j_t r_t_s) ∧ Q r i_t) := by
  refine CtI.of (by decide) (Nat.le_of_ble_eq_true rfl) ?_
  intro p e s m below meth c A F hr hlk hnm hA hB ls hl
  have hx := F.x
  have hb := F.b
  unfold w_LongTrainModel_grade at hf
  replace hl : lv_has ls 2 [(0, .ref a_t), (1, .int n1)] := hl
  refine lv_aload_n hx hb dX12_grade_0 rfl (lv_at hl 0 rfl) ?_
  refine lv_iload_n hx hb dX12_grade_1 rfl (lv_at hl 1 rfl) ?_
  refine lv_sipush (v := -999) hx hb dX12_grade_2 (by decide) ?_
  refine lv_aload_n hx hb dX12_grade_5 rfl (lv_at hl 0 rfl) ?_
  refine g_get (w := .ref (d_t 6)) F hB 0 rfl fl_RX12_33 rfl dX12_grade_6 ?_
  refine lv_iconst (v := 0) hx hb dX12_grade_9 (by decide) ?_
  refine g_iald F hB 1 rfl (vp_in_iff.mpr (by decide +kernel)) dX12_grade_10 ?_
  refine W.eq (g2 := F0 m 11 ls [.int (r_t_s 0), .int (-999 : Int32), .int n1, .ref a_t]) rfl ?_
  refine lv_iconst (v := 1) hx hb dX12_grade_11 (by decide) ?_
  refine lv_isub hx hb dX12_grade_12 ?_
  refine k_si (wr := [(a_t, ob 12 (rfd d_t) i_t j_t), ((d_t 6), ai k 1068 r_t_s)]) (rest := [.ref a_t]) F hA hB (c_LongTrainModel_isIn l D k n1 (-999 : Int32) ((r_t_s 0) - (1 : Int32)) _  hf) ml_RX12_182 ms_yX12_isIn [] [0, 1] rfl rfl (by decide) (by decide) (by decide) rfl hl.1 rfl (Nat.le_of_ble_eq_true rfl) ⟨Nat.le_of_ble_eq_true rfl, Nat.le_of_ble_eq_true rfl⟩ ⟨Nat.le_of_ble_eq_true rfl, Nat.le_of_ble_eq_true rfl⟩ dX12_grade_13 (fun z_2 w1 H locs hq hB => ?_)
  obtain ⟨h_3, rfl, hf⟩ := hq
  replace hB : Bd D A s.heap (wd_LongTrainModel_grade k a_t d_t i_t j_t r_t_s) H locs := hB.sub [0, 1] (by decide) rfl
  refine lv_if_ne (tgt := 23) hx hb dX12_grade_16 (by decide) (fun c_9 => ?_) (fun c_9 => ?_)
  · replace hf := hf.1 c_9
    refine lv_iconst (v := 0) hx hb dX12_grade_23 (by decide) ?_
    exact jt_LongTrainModel_grade_24 F hr hlk hA _ _ _ _ _ _ hf hB (lv_sub hl [0, 1] rfl)
  · replace hf := hf.2 c_9
    refine lv_iconst (v := 1) hx hb dX12_grade_19 (by decide) ?_
    refine lv_goto (tgt := 24) hx hb dX12_grade_20 (by decide) ?_
    exact jt_LongTrainModel_grade_24 F hr hlk hA _ _ _ _ _ _ hf hB (lv_sub hl [0, 1] rfl)

/-! LongTrainModel.halt -/
set_option maxRecDepth 100000 in
set_option maxHeartbeats 4000000 in
theorem jt_LongTrainModel_halt_23 {p : Program} {l : Launch} {e : Env} {s : State} {m : MethodId} {below : List Frame} {meth : Method} {c : Code} {A : Nat → Prop} {D : va_G} {k : Nat → ClassId} {a_t : Nat} {d_t : Nat → Nat} {j_t : Nat → Int64} {r_t_s : Nat → Int32} {n1 : Int32} {n2 : Int32} {Q : Int32 → (Nat → Int32) → Prop}  (F : Fx p m c cX12_halt 3 s ([.ref a_t, .int n1, .int n2] : List Value).toArray RX12 D k) (hr : meth.sig.returnType = (some .int)) (hlk : meth.locks = false) (hA : ∀ q : Nat, s.heap.size ≤ q → A q) :
    ∀ (i_t : Nat → Int32) (x1 : Int32) (x2 : Int32) (y0 : Int32) (H : Heap) (locs : List Loc) (ls : Array Slot), j_LongTrainModel_halt_23 i_t r_t_s x1 x2 y0 Q → Bd D A s.heap (wd_LongTrainModel_halt k a_t d_t i_t j_t r_t_s) H locs → lv_has ls 3 [(0, .ref a_t), (1, .int x1), (2, .int x2)] → W p l e { frames := 2, cells := 0, slots := 0, locals := 43 } s m ([.ref a_t, .int n1, .int n2] : List Value).toArray below meth c H locs 0 0 (Ei below (fun r w => ∃ (i_t : Nat → Int32), w = (wd_LongTrainModel_halt k a_t d_t i_t j_t r_t_s) ∧ Q r i_t) D k A ([.ref a_t, .int n1, .int n2] : List Value).toArray s 0 0) (F0 m 23 ls [.int y0, .ref a_t]) := by
  have hx := F.x
  have hb := F.b
  intro i_t x1 x2 y0 H locs ls hf hB hl
  unfold j_LongTrainModel_halt_23 at hf
  refine k_vi (wr := [((d_t 6), ai k 1068 r_t_s)]) (rest := []) F hA hB (c_LongTrainModel_throwsIf l D k a_t d_t i_t j_t y0 _  hf) ml_RX12_250 mv_yX12_throwsIf [0] [1] rfl rfl (by decide) (by decide) (by decide) 0 rfl rfl rfl hl.1 rfl (Nat.le_of_ble_eq_true rfl) ⟨Nat.le_of_ble_eq_true rfl, Nat.le_of_ble_eq_true rfl⟩ ⟨Nat.le_of_ble_eq_true rfl, Nat.le_of_ble_eq_true rfl⟩ dX12_halt_23 (fun z_4 w1 H locs hq hB => ?_)
  obtain ⟨h_5, i_t_3, rfl, hf⟩ := hq
  replace hB : Bd D A s.heap (wd_LongTrainModel_halt k a_t d_t i_t_3 j_t r_t_s) H locs := hB.sub [1, 0] (by decide) rfl
  refine lv_if_eq (tgt := 31) hx hb dX12_halt_26 (by decide) (fun c_11 => ?_) (fun c_11 => ?_)
  · replace hf := hf.1 c_11
    refine lv_iload_n hx hb dX12_halt_31 rfl (lv_at hl 2 rfl) ?_
    refine lv_if_ne (tgt := 43) hx hb dX12_halt_32 (by decide) (fun c_10 => ?_) (fun c_10 => ?_)
    · replace hf := hf.1 c_10
      refine lv_iload_n hx hb dX12_halt_43 rfl (lv_at hl 2 rfl) ?_
      refine lv_iconst (v := 1) hx hb dX12_halt_44 (by decide) ?_
      refine lv_icmp_ne (tgt := 65) hx hb dX12_halt_45 (by decide) (fun c_8 => ?_) (fun c_8 => ?_)
      · replace hf := hf.1 c_8
        refine lv_aload_n hx hb dX12_halt_65 rfl (lv_at hl 0 rfl) ?_
        refine lv_iload_n hx hb dX12_halt_66 rfl (lv_at hl 1 rfl) ?_
        refine k_vi (wr := []) (rest := []) F hA hB (c_LongTrainModel_addsOf l D k a_t d_t i_t_3 j_t r_t_s x1 _  hf) ml_RX12_264 mv_yX12_addsOf [0, 1] [] rfl rfl (by decide) (by decide) (by decide) 0 rfl rfl rfl hl.1 rfl (Nat.le_of_ble_eq_true rfl) ⟨Nat.le_of_ble_eq_true rfl, Nat.le_of_ble_eq_true rfl⟩ ⟨Nat.le_of_ble_eq_true rfl, Nat.le_of_ble_eq_true rfl⟩ dX12_halt_67 (fun z_6 w1 H locs hq hB => ?_)
        obtain ⟨rfl, hf⟩ := hq
        replace hB : Bd D A s.heap (wd_LongTrainModel_halt k a_t d_t i_t_3 j_t r_t_s) H locs := hB.sub [0, 1] (by decide) rfl
        exact r_i F hr hlk hB ⟨_, rfl, hf⟩ dX12_halt_70
      · replace hf := hf.2 c_8
        refine lv_aload_n hx hb dX12_halt_48 rfl (lv_at hl 0 rfl) ?_
        refine g_get (w := .ref (d_t 6)) F hB 0 rfl fl_RX12_33 rfl dX12_halt_49 ?_
        refine lv_sipush (v := 411) hx hb dX12_halt_52 (by decide) ?_
        refine lv_iconst (v := 3) hx hb dX12_halt_55 (by decide) ?_
        refine lv_iload_n hx hb dX12_halt_56 rfl (lv_at hl 1 rfl) ?_
        refine lv_imul hx hb dX12_halt_57 ?_
        refine lv_iadd hx hb dX12_halt_58 ?_
        refine lv_iconst (v := 1) hx hb dX12_halt_59 (by decide) ?_
        refine lv_iadd hx hb dX12_halt_60 ?_
        obtain ⟨h_7, hf⟩ := hf
        refine g_iald F hB 1 rfl h_7 dX12_halt_61 ?_
        refine lv_goto (tgt := 70) hx hb dX12_halt_62 (by decide) ?_
        exact r_i F hr hlk hB ⟨_, rfl, hf⟩ dX12_halt_70
    · replace hf := hf.2 c_10
      refine lv_aload_n hx hb dX12_halt_35 rfl (lv_at hl 0 rfl) ?_
      refine lv_iload_n hx hb dX12_halt_36 rfl (lv_at hl 1 rfl) ?_
      refine k_vi (wr := []) (rest := []) F hA hB (c_LongTrainModel_haltAt l D k a_t d_t i_t_3 j_t r_t_s x1 _  hf) ml_RX12_261 mv_yX12_haltAt [0, 1] [] rfl rfl (by decide) (by decide) (by decide) 0 rfl rfl rfl hl.1 rfl (Nat.le_of_ble_eq_true rfl) ⟨Nat.le_of_ble_eq_true rfl, Nat.le_of_ble_eq_true rfl⟩ ⟨Nat.le_of_ble_eq_true rfl, Nat.le_of_ble_eq_true rfl⟩ dX12_halt_37 (fun z_9 w1 H locs hq hB => ?_)
      obtain ⟨rfl, hf⟩ := hq
      replace hB : Bd D A s.heap (wd_LongTrainModel_halt k a_t d_t i_t_3 j_t r_t_s) H locs := hB.sub [0, 1] (by decide) rfl
      refine lv_goto (tgt := 70) hx hb dX12_halt_40 (by decide) ?_
      exact r_i F hr hlk hB ⟨_, rfl, hf⟩ dX12_halt_70
  · replace hf := hf.2 c_11
    refine lv_iconst (v := 0) hx hb dX12_halt_29 (by decide) ?_
    exact r_i F hr hlk hB ⟨_, rfl, hf⟩ dX12_halt_30

set_option maxRecDepth 100000 in
set_option maxHeartbeats 4000000 in
theorem jt_LongTrainModel_halt_18 {p : Program} {l : Launch} {e : Env} {s : State} {m : MethodId} {below : List Frame} {meth : Method} {c : Code} {A : Nat → Prop} {D : va_G} {k : Nat → ClassId} {a_t : Nat} {d_t : Nat → Nat} {j_t : Nat → Int64} {r_t_s : Nat → Int32} {n1 : Int32} {n2 : Int32} {Q : Int32 → (Nat → Int32) → Prop}  (F : Fx p m c cX12_halt 3 s ([.ref a_t, .int n1, .int n2] : List Value).toArray RX12 D k) (hr : meth.sig.returnType = (some .int)) (hlk : meth.locks = false) (hA : ∀ q : Nat, s.heap.size ≤ q → A q) :
    ∀ (i_t : Nat → Int32) (x1 : Int32) (x2 : Int32) (H : Heap) (locs : List Loc) (ls : Array Slot), j_LongTrainModel_halt_18 i_t r_t_s x1 x2 Q → Bd D A s.heap (wd_LongTrainModel_halt k a_t d_t i_t j_t r_t_s) H locs → lv_has ls 3 [(0, .ref a_t), (1, .int x1), (2, .int x2)] → W p l e { frames := 2, cells := 0, slots := 0, locals := 43 } s m ([.ref a_t, .int n1, .int n2] : List Value).toArray below meth c H locs 0 0 (Ei below (fun r w => ∃ (i_t : Nat → Int32), w = (wd_LongTrainModel_halt k a_t d_t i_t j_t r_t_s) ∧ Q r i_t) D k A ([.ref a_t, .int n1, .int n2] : List Value).toArray s 0 0) (F0 m 18 ls [.ref a_t]) := by
  have hx := F.x
  have hb := F.b
  intro i_t x1 x2 H locs ls hf hB hl
  unfold j_LongTrainModel_halt_18 at hf
  refine lv_iconst (v := 1) hx hb dX12_halt_18 (by decide) ?_
  refine lv_goto (tgt := 23) hx hb dX12_halt_19 (by decide) ?_
  exact jt_LongTrainModel_halt_23 F hr hlk hA _ _ _ _ _ _ _ hf hB (lv_sub hl [0, 1, 2] rfl)

set_option maxRecDepth 100000 in
set_option maxHeartbeats 4000000 in
theorem c_LongTrainModel_halt (l : Launch) (D : va_G) (k : Nat → ClassId) (a_t : Nat) (d_t : Nat → Nat) (i_t : Nat → Int32) (j_t : Nat → Int64) (r_t_s : Nat → Int32) (n1 : Int32) (n2 : Int32) (Q : Int32 → (Nat → Int32) → Prop)  (hf : w_LongTrainModel_halt i_t r_t_s n1 n2 Q) : CtI l yX12_halt cX12_halt 3 (some .int) 2 43 0 0 D k [.ref a_t, .int n1, .int n2] (wd_LongTrainModel_halt k a_t d_t i_t j_t r_t_s) (fun r w => ∃ (i_t : Nat → Int32), w = (wd_LongTrainModel_halt k a_t d_t i_t j_t r_t_s) ∧ Q r i_t) := by
  refine CtI.of (by decide) (Nat.le_of_ble_eq_true rfl) ?_
  intro p e s m below meth c A F hr hlk hnm hA hB ls hl
  have hx := F.x
  have hb := F.b
  unfold w_LongTrainModel_halt at hf
  replace hl : lv_has ls 3 [(0, .ref a_t), (1, .int n1), (2, .int n2)] := hl
  refine lv_aload_n hx hb dX12_halt_0 rfl (lv_at hl 0 rfl) ?_
  refine lv_aload_n hx hb dX12_halt_1 rfl (lv_at hl 0 rfl) ?_
  refine lv_iload_n hx hb dX12_halt_2 rfl (lv_at hl 1 rfl) ?_
  refine k_vi (wr := []) (rest := [.ref a_t]) F hA hB (c_LongTrainModel_isHalt l D k a_t d_t i_t j_t r_t_s n1 _  hf) ml_RX12_258 mv_yX12_isHalt [0, 1] [] rfl rfl (by decide) (by decide) (by decide) 0 rfl rfl rfl hl.1 rfl (Nat.le_of_ble_eq_true rfl) ⟨Nat.le_of_ble_eq_true rfl, Nat.le_of_ble_eq_true rfl⟩ ⟨Nat.le_of_ble_eq_true rfl, Nat.le_of_ble_eq_true rfl⟩ dX12_halt_3 (fun z_1 w1 H locs hq hB => ?_)
  obtain ⟨h_2, rfl, hf⟩ := hq
  replace hB : Bd D A s.heap (wd_LongTrainModel_halt k a_t d_t i_t j_t r_t_s) H locs := hB.sub [0, 1] (by decide) rfl
  refine lv_if_eq (tgt := 18) hx hb dX12_halt_6 (by decide) (fun c_15 => ?_) (fun c_15 => ?_)
  · replace hf := hf.1 c_15
    exact jt_LongTrainModel_halt_18 F hr hlk hA _ _ _ _ _ _ hf hB (lv_sub hl [0, 1, 2] rfl)
  · replace hf := hf.2 c_15
    refine lv_iload_n hx hb dX12_halt_9 rfl (lv_at hl 2 rfl) ?_
    refine lv_iconst (v := 0) hx hb dX12_halt_10 (by decide) ?_
    refine lv_iconst (v := 2) hx hb dX12_halt_11 (by decide) ?_
    refine k_si (wr := [(a_t, ob 12 (rfd d_t) i_t j_t), ((d_t 6), ai k 1068 r_t_s)]) (rest := [.ref a_t]) F hA hB (c_LongTrainModel_isIn l D k n2 (0 : Int32) (2 : Int32) _  hf) ml_RX12_182 ms_yX12_isIn [] [0, 1] rfl rfl (by decide) (by decide) (by decide) rfl hl.1 rfl (Nat.le_of_ble_eq_true rfl) ⟨Nat.le_of_ble_eq_true rfl, Nat.le_of_ble_eq_true rfl⟩ ⟨Nat.le_of_ble_eq_true rfl, Nat.le_of_ble_eq_true rfl⟩ dX12_halt_12 (fun z_12 w1 H locs hq hB => ?_)
    obtain ⟨h_13, rfl, hf⟩ := hq
    replace hB : Bd D A s.heap (wd_LongTrainModel_halt k a_t d_t i_t j_t r_t_s) H locs := hB.sub [0, 1] (by decide) rfl
    refine lv_if_ne (tgt := 22) hx hb dX12_halt_15 (by decide) (fun c_14 => ?_) (fun c_14 => ?_)
    · replace hf := hf.1 c_14
      refine lv_iconst (v := 0) hx hb dX12_halt_22 (by decide) ?_
      exact jt_LongTrainModel_halt_23 F hr hlk hA _ _ _ _ _ _ _ hf hB (lv_sub hl [0, 1, 2] rfl)
    · replace hf := hf.2 c_14
      exact jt_LongTrainModel_halt_18 F hr hlk hA _ _ _ _ _ _ hf hB (lv_sub hl [0, 1, 2] rfl)

/-! LongTrainModel.kind -/
set_option maxRecDepth 100000 in
set_option maxHeartbeats 4000000 in
theorem jt_LongTrainModel_kind_23 {p : Program} {l : Launch} {e : Env} {s : State} {m : MethodId} {below : List Frame} {meth : Method} {c : Code} {A : Nat → Prop} {D : va_G} {k : Nat → ClassId} {a_t : Nat} {d_t : Nat → Nat} {j_t : Nat → Int64} {r_t_s : Nat → Int32} {n1 : Int32} {n2 : Int32} {Q : Int32 → (Nat → Int32) → Prop}  (F : Fx p m c cX12_kind 3 s ([.ref a_t, .int n1, .int n2] : List Value).toArray RX12 D k) (hr : meth.sig.returnType = (some .int)) (hlk : meth.locks = false) (hA : ∀ q : Nat, s.heap.size ≤ q → A q) :
    ∀ (i_t : Nat → Int32) (x1 : Int32) (x2 : Int32) (y0 : Int32) (H : Heap) (locs : List Loc) (ls : Array Slot), j_LongTrainModel_kind_23 i_t r_t_s x1 x2 y0 Q → Bd D A s.heap (wd_LongTrainModel_kind k a_t d_t i_t j_t r_t_s) H locs → lv_has ls 3 [(0, .ref a_t), (1, .int x1), (2, .int x2)] → W p l e { frames := 2, cells := 0, slots := 0, locals := 43 } s m ([.ref a_t, .int n1, .int n2] : List Value).toArray below meth c H locs 0 0 (Ei below (fun r w => ∃ (i_t : Nat → Int32), w = (wd_LongTrainModel_kind k a_t d_t i_t j_t r_t_s) ∧ Q r i_t) D k A ([.ref a_t, .int n1, .int n2] : List Value).toArray s 0 0) (F0 m 23 ls [.int y0, .ref a_t]) := by
  have hx := F.x
  have hb := F.b
  intro i_t x1 x2 y0 H locs ls hf hB hl
  unfold j_LongTrainModel_kind_23 at hf
  refine k_vi (wr := [((d_t 6), ai k 1068 r_t_s)]) (rest := []) F hA hB (c_LongTrainModel_throwsIf l D k a_t d_t i_t j_t y0 _  hf) ml_RX12_250 mv_yX12_throwsIf [0] [1] rfl rfl (by decide) (by decide) (by decide) 0 rfl rfl rfl hl.1 rfl (Nat.le_of_ble_eq_true rfl) ⟨Nat.le_of_ble_eq_true rfl, Nat.le_of_ble_eq_true rfl⟩ ⟨Nat.le_of_ble_eq_true rfl, Nat.le_of_ble_eq_true rfl⟩ dX12_kind_23 (fun z_4 w1 H locs hq hB => ?_)
  obtain ⟨h_5, i_t_3, rfl, hf⟩ := hq
  replace hB : Bd D A s.heap (wd_LongTrainModel_kind k a_t d_t i_t_3 j_t r_t_s) H locs := hB.sub [1, 0] (by decide) rfl
  refine lv_if_eq (tgt := 33) hx hb dX12_kind_26 (by decide) (fun c_7 => ?_) (fun c_7 => ?_)
  · replace hf := hf.1 c_7
    refine lv_aload_n hx hb dX12_kind_33 rfl (lv_at hl 0 rfl) ?_
    refine g_get (w := .ref (d_t 6)) F hB 0 rfl fl_RX12_33 rfl dX12_kind_34 ?_
    refine lv_sipush (v := 457) hx hb dX12_kind_37 (by decide) ?_
    refine lv_iconst (v := 3) hx hb dX12_kind_40 (by decide) ?_
    refine lv_iload_n hx hb dX12_kind_41 rfl (lv_at hl 1 rfl) ?_
    refine lv_imul hx hb dX12_kind_42 ?_
    refine lv_iadd hx hb dX12_kind_43 ?_
    refine lv_iload_n hx hb dX12_kind_44 rfl (lv_at hl 2 rfl) ?_
    refine lv_iadd hx hb dX12_kind_45 ?_
    obtain ⟨h_6, hf⟩ := hf
    refine g_iald F hB 1 rfl h_6 dX12_kind_46 ?_
    exact r_i F hr hlk hB ⟨_, rfl, hf⟩ dX12_kind_47
  · replace hf := hf.2 c_7
    refine lv_iconst (v := 0) hx hb dX12_kind_29 (by decide) ?_
    refine lv_goto (tgt := 47) hx hb dX12_kind_30 (by decide) ?_
    exact r_i F hr hlk hB ⟨_, rfl, hf⟩ dX12_kind_47

set_option maxRecDepth 100000 in
set_option maxHeartbeats 4000000 in
theorem jt_LongTrainModel_kind_18 {p : Program} {l : Launch} {e : Env} {s : State} {m : MethodId} {below : List Frame} {meth : Method} {c : Code} {A : Nat → Prop} {D : va_G} {k : Nat → ClassId} {a_t : Nat} {d_t : Nat → Nat} {j_t : Nat → Int64} {r_t_s : Nat → Int32} {n1 : Int32} {n2 : Int32} {Q : Int32 → (Nat → Int32) → Prop}  (F : Fx p m c cX12_kind 3 s ([.ref a_t, .int n1, .int n2] : List Value).toArray RX12 D k) (hr : meth.sig.returnType = (some .int)) (hlk : meth.locks = false) (hA : ∀ q : Nat, s.heap.size ≤ q → A q) :
    ∀ (i_t : Nat → Int32) (x1 : Int32) (x2 : Int32) (H : Heap) (locs : List Loc) (ls : Array Slot), j_LongTrainModel_kind_18 i_t r_t_s x1 x2 Q → Bd D A s.heap (wd_LongTrainModel_kind k a_t d_t i_t j_t r_t_s) H locs → lv_has ls 3 [(0, .ref a_t), (1, .int x1), (2, .int x2)] → W p l e { frames := 2, cells := 0, slots := 0, locals := 43 } s m ([.ref a_t, .int n1, .int n2] : List Value).toArray below meth c H locs 0 0 (Ei below (fun r w => ∃ (i_t : Nat → Int32), w = (wd_LongTrainModel_kind k a_t d_t i_t j_t r_t_s) ∧ Q r i_t) D k A ([.ref a_t, .int n1, .int n2] : List Value).toArray s 0 0) (F0 m 18 ls [.ref a_t]) := by
  have hx := F.x
  have hb := F.b
  intro i_t x1 x2 H locs ls hf hB hl
  unfold j_LongTrainModel_kind_18 at hf
  refine lv_iconst (v := 1) hx hb dX12_kind_18 (by decide) ?_
  refine lv_goto (tgt := 23) hx hb dX12_kind_19 (by decide) ?_
  exact jt_LongTrainModel_kind_23 F hr hlk hA _ _ _ _ _ _ _ hf hB (lv_sub hl [0, 1, 2] rfl)

set_option maxRecDepth 100000 in
set_option maxHeartbeats 4000000 in
theorem c_LongTrainModel_kind (l : Launch) (D : va_G) (k : Nat → ClassId) (a_t : Nat) (d_t : Nat → Nat) (i_t : Nat → Int32) (j_t : Nat → Int64) (r_t_s : Nat → Int32) (n1 : Int32) (n2 : Int32) (Q : Int32 → (Nat → Int32) → Prop)  (hf : w_LongTrainModel_kind i_t r_t_s n1 n2 Q) : CtI l yX12_kind cX12_kind 3 (some .int) 2 43 0 0 D k [.ref a_t, .int n1, .int n2] (wd_LongTrainModel_kind k a_t d_t i_t j_t r_t_s) (fun r w => ∃ (i_t : Nat → Int32), w = (wd_LongTrainModel_kind k a_t d_t i_t j_t r_t_s) ∧ Q r i_t) := by
  refine CtI.of (by decide) (Nat.le_of_ble_eq_true rfl) ?_
  intro p e s m below meth c A F hr hlk hnm hA hB ls hl
  have hx := F.x
  have hb := F.b
  unfold w_LongTrainModel_kind at hf
  replace hl : lv_has ls 3 [(0, .ref a_t), (1, .int n1), (2, .int n2)] := hl
  refine lv_aload_n hx hb dX12_kind_0 rfl (lv_at hl 0 rfl) ?_
  refine lv_aload_n hx hb dX12_kind_1 rfl (lv_at hl 0 rfl) ?_
  refine lv_iload_n hx hb dX12_kind_2 rfl (lv_at hl 1 rfl) ?_
  refine k_vi (wr := []) (rest := [.ref a_t]) F hA hB (c_LongTrainModel_isKind l D k a_t d_t i_t j_t r_t_s n1 _  hf) ml_RX12_267 mv_yX12_isKind [0, 1] [] rfl rfl (by decide) (by decide) (by decide) 0 rfl rfl rfl hl.1 rfl (Nat.le_of_ble_eq_true rfl) ⟨Nat.le_of_ble_eq_true rfl, Nat.le_of_ble_eq_true rfl⟩ ⟨Nat.le_of_ble_eq_true rfl, Nat.le_of_ble_eq_true rfl⟩ dX12_kind_3 (fun z_1 w1 H locs hq hB => ?_)
  obtain ⟨h_2, rfl, hf⟩ := hq
  replace hB : Bd D A s.heap (wd_LongTrainModel_kind k a_t d_t i_t j_t r_t_s) H locs := hB.sub [0, 1] (by decide) rfl
  refine lv_if_eq (tgt := 18) hx hb dX12_kind_6 (by decide) (fun c_11 => ?_) (fun c_11 => ?_)
  · replace hf := hf.1 c_11
    exact jt_LongTrainModel_kind_18 F hr hlk hA _ _ _ _ _ _ hf hB (lv_sub hl [0, 1, 2] rfl)
  · replace hf := hf.2 c_11
    refine lv_iload_n hx hb dX12_kind_9 rfl (lv_at hl 2 rfl) ?_
    refine lv_iconst (v := 0) hx hb dX12_kind_10 (by decide) ?_
    refine lv_iconst (v := 2) hx hb dX12_kind_11 (by decide) ?_
    refine k_si (wr := [(a_t, ob 12 (rfd d_t) i_t j_t), ((d_t 6), ai k 1068 r_t_s)]) (rest := [.ref a_t]) F hA hB (c_LongTrainModel_isIn l D k n2 (0 : Int32) (2 : Int32) _  hf) ml_RX12_182 ms_yX12_isIn [] [0, 1] rfl rfl (by decide) (by decide) (by decide) rfl hl.1 rfl (Nat.le_of_ble_eq_true rfl) ⟨Nat.le_of_ble_eq_true rfl, Nat.le_of_ble_eq_true rfl⟩ ⟨Nat.le_of_ble_eq_true rfl, Nat.le_of_ble_eq_true rfl⟩ dX12_kind_12 (fun z_8 w1 H locs hq hB => ?_)
    obtain ⟨h_9, rfl, hf⟩ := hq
    replace hB : Bd D A s.heap (wd_LongTrainModel_kind k a_t d_t i_t j_t r_t_s) H locs := hB.sub [0, 1] (by decide) rfl
    refine lv_if_ne (tgt := 22) hx hb dX12_kind_15 (by decide) (fun c_10 => ?_) (fun c_10 => ?_)
    · replace hf := hf.1 c_10
      refine lv_iconst (v := 0) hx hb dX12_kind_22 (by decide) ?_
      exact jt_LongTrainModel_kind_23 F hr hlk hA _ _ _ _ _ _ _ hf hB (lv_sub hl [0, 1, 2] rfl)
    · replace hf := hf.2 c_10
      exact jt_LongTrainModel_kind_18 F hr hlk hA _ _ _ _ _ _ hf hB (lv_sub hl [0, 1, 2] rfl)

/-! LongTrainModel.loop -/
set_option maxRecDepth 100000 in
set_option maxHeartbeats 4000000 in
theorem c_LongTrainModel_loop (l : Launch) (D : va_G) (k : Nat → ClassId) (a_t : Nat) (d_t : Nat → Nat) (i_t : Nat → Int32) (j_t : Nat → Int64) (r_t_s : Nat → Int32) (n1 : Int32) (n2 : Int32) (Q : Int32 → (Nat → Int32) → Prop)  (hf : w_LongTrainModel_loop i_t r_t_s n1 n2 Q) : CtI l yX12_loop cX12_loop 3 (some .int) 1 22 0 0 D k [.ref a_t, .int n1, .int n2] (wd_LongTrainModel_loop k a_t d_t i_t j_t r_t_s) (fun r w => ∃ (i_t : Nat → Int32), w = (wd_LongTrainModel_loop k a_t d_t i_t j_t r_t_s) ∧ Q r i_t) := by
  refine CtI.of (by decide) (Nat.le_of_ble_eq_true rfl) ?_
  intro p e s m below meth c A F hr hlk hnm hA hB ls hl
  have hx := F.x
  have hb := F.b
  unfold w_LongTrainModel_loop at hf
  replace hl : lv_has ls 3 [(0, .ref a_t), (1, .int n1), (2, .int n2)] := hl
  refine lv_aload_n hx hb dX12_loop_0 rfl (lv_at hl 0 rfl) ?_
  refine lv_iconst (v := 0) hx hb dX12_loop_1 (by decide) ?_
  refine g_puti F hB 0 rfl fl_RX12_1 rfl (wd_LongTrainModel_loop k a_t d_t (upd i_t 0 (0 : Int32)) j_t r_t_s) rfl dX12_loop_2 (fun H locs hB => ?_)
  refine lv_iload_n hx hb dX12_loop_5 rfl (lv_at hl 1 rfl) ?_
  refine lv_iconst (v := 0) hx hb dX12_loop_6 (by decide) ?_
  refine lv_aload_n hx hb dX12_loop_7 rfl (lv_at hl 0 rfl) ?_
  refine g_get (w := .ref (d_t 6)) F hB 0 rfl fl_RX12_33 rfl dX12_loop_8 ?_
  refine lv_iconst (v := 2) hx hb dX12_loop_11 (by decide) ?_
  refine g_iald F hB 1 rfl (vp_in_iff.mpr (by decide +kernel)) dX12_loop_12 ?_
  refine W.eq (g2 := F0 m 13 ls [.int (r_t_s 2), .int (0 : Int32), .int n1]) rfl ?_
  refine lv_iconst (v := 1) hx hb dX12_loop_13 (by decide) ?_
  refine lv_isub hx hb dX12_loop_14 ?_
  refine k_si (wr := [(a_t, ob 12 (rfd d_t) (upd i_t 0 (0 : Int32)) j_t), ((d_t 6), ai k 1068 r_t_s)]) (rest := []) F hA hB (c_LongTrainModel_isIn l D k n1 (0 : Int32) ((r_t_s 2) - (1 : Int32)) _  hf) ml_RX12_182 ms_yX12_isIn [] [0, 1] rfl rfl (by decide) (by decide) (by decide) rfl hl.1 rfl (Nat.le_of_ble_eq_true rfl) ⟨Nat.le_of_ble_eq_true rfl, Nat.le_of_ble_eq_true rfl⟩ ⟨Nat.le_of_ble_eq_true rfl, Nat.le_of_ble_eq_true rfl⟩ dX12_loop_15 (fun z_2 w1 H locs hq hB => ?_)
  obtain ⟨h_3, rfl, hf⟩ := hq
  replace hB : Bd D A s.heap (wd_LongTrainModel_loop k a_t d_t (upd i_t 0 (0 : Int32)) j_t r_t_s) H locs := hB.sub [0, 1] (by decide) rfl
  refine lv_if_eq (tgt := 47) hx hb dX12_loop_18 (by decide) (fun c_8 => ?_) (fun c_8 => ?_)
  · replace hf := hf.1 c_8
    refine lv_iconst (v := -1) hx hb dX12_loop_47 (by decide) ?_
    exact r_i F hr hlk hB ⟨_, rfl, hf⟩ dX12_loop_48
  · replace hf := hf.2 c_8
    refine lv_iload_n hx hb dX12_loop_21 rfl (lv_at hl 2 rfl) ?_
    refine lv_iconst (v := 0) hx hb dX12_loop_22 (by decide) ?_
    refine lv_iconst (v := 1) hx hb dX12_loop_23 (by decide) ?_
    refine k_si (wr := [(a_t, ob 12 (rfd d_t) (upd i_t 0 (0 : Int32)) j_t), ((d_t 6), ai k 1068 r_t_s)]) (rest := []) F hA hB (c_LongTrainModel_isIn l D k n2 (0 : Int32) (1 : Int32) _  hf) ml_RX12_182 ms_yX12_isIn [] [0, 1] rfl rfl (by decide) (by decide) (by decide) rfl hl.1 rfl (Nat.le_of_ble_eq_true rfl) ⟨Nat.le_of_ble_eq_true rfl, Nat.le_of_ble_eq_true rfl⟩ ⟨Nat.le_of_ble_eq_true rfl, Nat.le_of_ble_eq_true rfl⟩ dX12_loop_24 (fun z_4 w1 H locs hq hB => ?_)
    obtain ⟨h_5, rfl, hf⟩ := hq
    replace hB : Bd D A s.heap (wd_LongTrainModel_loop k a_t d_t (upd i_t 0 (0 : Int32)) j_t r_t_s) H locs := hB.sub [0, 1] (by decide) rfl
    refine lv_if_eq (tgt := 47) hx hb dX12_loop_27 (by decide) (fun c_7 => ?_) (fun c_7 => ?_)
    · replace hf := hf.1 c_7
      refine lv_iconst (v := -1) hx hb dX12_loop_47 (by decide) ?_
      exact r_i F hr hlk hB ⟨_, rfl, hf⟩ dX12_loop_48
    · replace hf := hf.2 c_7
      refine lv_aload_n hx hb dX12_loop_30 rfl (lv_at hl 0 rfl) ?_
      refine g_get (w := .ref (d_t 6)) F hB 0 rfl fl_RX12_33 rfl dX12_loop_31 ?_
      refine lv_sipush (v := 441) hx hb dX12_loop_34 (by decide) ?_
      refine lv_iconst (v := 2) hx hb dX12_loop_37 (by decide) ?_
      refine lv_iload_n hx hb dX12_loop_38 rfl (lv_at hl 1 rfl) ?_
      refine lv_imul hx hb dX12_loop_39 ?_
      refine lv_iadd hx hb dX12_loop_40 ?_
      refine lv_iload_n hx hb dX12_loop_41 rfl (lv_at hl 2 rfl) ?_
      refine lv_iadd hx hb dX12_loop_42 ?_
      obtain ⟨h_6, hf⟩ := hf
      refine g_iald F hB 1 rfl h_6 dX12_loop_43 ?_
      refine lv_goto (tgt := 48) hx hb dX12_loop_44 (by decide) ?_
      exact r_i F hr hlk hB ⟨_, rfl, hf⟩ dX12_loop_48

/-! LongTrainModel.stands -/
set_option maxRecDepth 100000 in
set_option maxHeartbeats 4000000 in
theorem bt_LongTrainModel_stands_6 {p : Program} {l : Launch} {e : Env} {s : State} {m : MethodId} {below : List Frame} {meth : Method} {c : Code} {A : Nat → Prop} {D : va_G} {k : Nat → ClassId} {a_t : Nat} {d_t : Nat → Nat} {i_t : Nat → Int32} {j_t : Nat → Int64} {r_t_wagons : Nat → Int32} {r_t_s : Nat → Int32} {r_t_bears : Nat → Int32} {n1 : Int32} {Q : (Nat → Int32) → (Nat → Int32) → (Nat → Int32) → Prop}  {x1 : Int32} {kx_6 : (Nat → Int32) → Prop} {kr_6 : (Int32) → (Int32) → (Nat → Int32) → Prop} (F : Fx p m c cX12_stands 5 s ([.ref a_t, .int n1] : List Value).toArray RX12 D k) (hr : meth.sig.returnType = none) (hlk : meth.locks = false) (hA : ∀ q : Nat, s.heap.size ≤ q → A q) (hkx_6 : ∀ (r_t_foremost : Nat → Int32) (H : Heap) (locs : List Loc) (ls : Array Slot), kx_6 r_t_foremost → Bd D A s.heap (wd_LongTrainModel_stands k a_t d_t i_t j_t r_t_foremost r_t_wagons r_t_s r_t_bears) H locs → lv_has ls 5 [(0, .ref a_t), (1, .int x1)] → W p l e { frames := 1, cells := 0, slots := 0, locals := 21 } s m ([.ref a_t, .int n1] : List Value).toArray below meth c H locs 0 0 (Ev below (fun w => ∃ (i_t : Nat → Int32), ∃ (r_t_foremost : Nat → Int32), ∃ (r_t_bears : Nat → Int32), w = (wd_LongTrainModel_stands k a_t d_t i_t j_t r_t_foremost r_t_wagons r_t_s r_t_bears) ∧ Q i_t r_t_foremost r_t_bears) D k A ([.ref a_t, .int n1] : List Value).toArray s 0 0) (F0 m 40 ls [])) (hkr_6 : ∀ (x2 : Int32) (x3 : Int32) (r_t_foremost : Nat → Int32) (H : Heap) (locs : List Loc) (ls : Array Slot), kr_6 x2 x3 r_t_foremost → Bd D A s.heap (wd_LongTrainModel_stands k a_t d_t i_t j_t r_t_foremost r_t_wagons r_t_s r_t_bears) H locs → lv_has ls 5 [(0, .ref a_t), (1, .int x1), (2, .int x2), (3, .int x3)] → W p l e { frames := 1, cells := 0, slots := 0, locals := 21 } s m ([.ref a_t, .int n1] : List Value).toArray below meth c H locs 0 0 (Ev below (fun w => ∃ (i_t : Nat → Int32), ∃ (r_t_foremost : Nat → Int32), ∃ (r_t_bears : Nat → Int32), w = (wd_LongTrainModel_stands k a_t d_t i_t j_t r_t_foremost r_t_wagons r_t_s r_t_bears) ∧ Q i_t r_t_foremost r_t_bears) D k A ([.ref a_t, .int n1] : List Value).toArray s 0 0) (F0 m 6 ls [])) :
    ∀ (x2 : Int32) (x3 : Int32) (r_t_foremost : Nat → Int32) (H : Heap) (locs : List Loc) (ls : Array Slot), b_LongTrainModel_stands_6 i_t r_t_wagons r_t_s kx_6 kr_6 x2 x3 r_t_foremost → Bd D A s.heap (wd_LongTrainModel_stands k a_t d_t i_t j_t r_t_foremost r_t_wagons r_t_s r_t_bears) H locs → lv_has ls 5 [(0, .ref a_t), (1, .int x1), (2, .int x2), (3, .int x3)] → W p l e { frames := 1, cells := 0, slots := 0, locals := 21 } s m ([.ref a_t, .int n1] : List Value).toArray below meth c H locs 0 0 (Ev below (fun w => ∃ (i_t : Nat → Int32), ∃ (r_t_foremost : Nat → Int32), ∃ (r_t_bears : Nat → Int32), w = (wd_LongTrainModel_stands k a_t d_t i_t j_t r_t_foremost r_t_wagons r_t_s r_t_bears) ∧ Q i_t r_t_foremost r_t_bears) D k A ([.ref a_t, .int n1] : List Value).toArray s 0 0) (F0 m 6 ls []) := by
  have hx := F.x
  have hb := F.b
  intro x2 x3 r_t_foremost H locs ls hf hB hl
  unfold b_LongTrainModel_stands_6 at hf
  refine lv_iload_n hx hb dX12_stands_6 rfl (lv_at hl 3 rfl) ?_
  refine lv_aload_n hx hb dX12_stands_7 rfl (lv_at hl 0 rfl) ?_
  refine g_get (w := .int (i_t 27)) F hB 0 rfl fl_RX12_270 rfl dX12_stands_8 ?_
  refine lv_icmp_ge (tgt := 40) hx hb dX12_stands_11 (by decide) (fun c_4 => ?_) (fun c_4 => ?_)
  · replace hf := hf.1 c_4
    exact hkx_6 _ _ _ _ hf hB (lv_sub hl [0, 1] rfl)
  · replace hf := hf.2 c_4
    refine lv_aload_n hx hb dX12_stands_14 rfl (lv_at hl 0 rfl) ?_
    refine g_get (w := .ref (d_t 23)) F hB 0 rfl fl_RX12_53 rfl dX12_stands_15 ?_
    refine lv_iload_n hx hb dX12_stands_18 rfl (lv_at hl 3 rfl) ?_
    refine lv_iload_n hx hb dX12_stands_19 rfl (lv_at hl 2 rfl) ?_
    obtain ⟨h_1, hf⟩ := hf
    refine g_iast F hB 1 rfl h_1 (wd_LongTrainModel_stands k a_t d_t i_t j_t (upd r_t_foremost (x3).toNatClampNeg x2) r_t_wagons r_t_s r_t_bears) rfl dX12_stands_20 (fun H locs hB => ?_)
    refine lv_iload_n hx hb dX12_stands_21 rfl (lv_at hl 2 rfl) ?_
    refine lv_aload_n hx hb dX12_stands_22 rfl (lv_at hl 0 rfl) ?_
    refine lv_aload_n hx hb dX12_stands_23 rfl (lv_at hl 0 rfl) ?_
    refine g_get (w := .ref (d_t 22)) F hB 0 rfl fl_RX12_50 rfl dX12_stands_24 ?_
    refine lv_iload_n hx hb dX12_stands_27 rfl (lv_at hl 3 rfl) ?_
    obtain ⟨h_2, hf⟩ := hf
    refine g_iald F hB 2 rfl h_2 dX12_stands_28 ?_
    refine k_vi (wr := [((d_t 23), ai k 20 (upd r_t_foremost (x3).toNatClampNeg x2)), ((d_t 22), ai k 20 r_t_wagons), ((d_t 24), ai k 20 r_t_bears)]) (rest := [.int x2]) F hA hB (c_LongTrainModel_longOf l D k a_t d_t i_t j_t r_t_s (r_t_wagons (x3).toNatClampNeg) _  hf) ml_RX12_273 mv_yX12_longOf [0, 3] [1, 2, 4] rfl rfl (by decide) (by decide) (by decide) 0 rfl rfl rfl hl.1 rfl (Nat.le_of_ble_eq_true rfl) ⟨Nat.le_of_ble_eq_true rfl, Nat.le_of_ble_eq_true rfl⟩ ⟨Nat.le_of_ble_eq_true rfl, Nat.le_of_ble_eq_true rfl⟩ dX12_stands_29 (fun z_3 w1 H locs hq hB => ?_)
    obtain ⟨rfl, hf⟩ := hq
    replace hB : Bd D A s.heap (wd_LongTrainModel_stands k a_t d_t i_t j_t (upd r_t_foremost (x3).toNatClampNeg x2) r_t_wagons r_t_s r_t_bears) H locs := hB.sub [3, 0, 1, 4, 2] (by decide) rfl
    refine lv_isub hx hb dX12_stands_32 ?_
    refine lv_istore_n (lv' := [(2, .int (x2 - z_3)), (0, .ref a_t), (1, .int x1), (3, .int x3)]) hx hb dX12_stands_33 rfl hl (by decide) rfl (fun ls hl => ?_)
    refine lv_iinc (v := (x3 + 1)) (lv' := [(3, .int (x3 + 1)), (2, .int (x2 - z_3)), (0, .ref a_t), (1, .int x1)]) (k := 3) hx hb dX12_stands_34 hl rfl rfl (by decide) rfl (fun ls hl => ?_)
    refine lv_goto (tgt := 6) hx hb dX12_stands_37 (by decide) ?_
    exact hkr_6 _ _ _ _ _ _ hf hB (lv_sub hl [2, 3, 1, 0] rfl)

set_option maxRecDepth 100000 in
set_option maxHeartbeats 4000000 in
theorem lt_LongTrainModel_stands_6 {p : Program} {l : Launch} {e : Env} {s : State} {m : MethodId} {below : List Frame} {meth : Method} {c : Code} {A : Nat → Prop} {D : va_G} {k : Nat → ClassId} {a_t : Nat} {d_t : Nat → Nat} {i_t : Nat → Int32} {j_t : Nat → Int64} {r_t_wagons : Nat → Int32} {r_t_s : Nat → Int32} {r_t_bears : Nat → Int32} {n1 : Int32} {Q : (Nat → Int32) → (Nat → Int32) → (Nat → Int32) → Prop}  {x1 : Int32} {kx_6 : (Nat → Int32) → Prop} (F : Fx p m c cX12_stands 5 s ([.ref a_t, .int n1] : List Value).toArray RX12 D k) (hr : meth.sig.returnType = none) (hlk : meth.locks = false) (hA : ∀ q : Nat, s.heap.size ≤ q → A q) (hkx_6 : ∀ (r_t_foremost : Nat → Int32) (H : Heap) (locs : List Loc) (ls : Array Slot), kx_6 r_t_foremost → Bd D A s.heap (wd_LongTrainModel_stands k a_t d_t i_t j_t r_t_foremost r_t_wagons r_t_s r_t_bears) H locs → lv_has ls 5 [(0, .ref a_t), (1, .int x1)] → W p l e { frames := 1, cells := 0, slots := 0, locals := 21 } s m ([.ref a_t, .int n1] : List Value).toArray below meth c H locs 0 0 (Ev below (fun w => ∃ (i_t : Nat → Int32), ∃ (r_t_foremost : Nat → Int32), ∃ (r_t_bears : Nat → Int32), w = (wd_LongTrainModel_stands k a_t d_t i_t j_t r_t_foremost r_t_wagons r_t_s r_t_bears) ∧ Q i_t r_t_foremost r_t_bears) D k A ([.ref a_t, .int n1] : List Value).toArray s 0 0) (F0 m 40 ls [])) :
    ∀ n : Nat, ∀ (x2 : Int32) (x3 : Int32) (r_t_foremost : Nat → Int32) (H : Heap) (locs : List Loc) (ls : Array Slot), lp_LongTrainModel_stands_6 i_t r_t_wagons r_t_s kx_6 n x2 x3 r_t_foremost → Bd D A s.heap (wd_LongTrainModel_stands k a_t d_t i_t j_t r_t_foremost r_t_wagons r_t_s r_t_bears) H locs → lv_has ls 5 [(0, .ref a_t), (1, .int x1), (2, .int x2), (3, .int x3)] → W p l e { frames := 1, cells := 0, slots := 0, locals := 21 } s m ([.ref a_t, .int n1] : List Value).toArray below meth c H locs 0 0 (Ev below (fun w => ∃ (i_t : Nat → Int32), ∃ (r_t_foremost : Nat → Int32), ∃ (r_t_bears : Nat → Int32), w = (wd_LongTrainModel_stands k a_t d_t i_t j_t r_t_foremost r_t_wagons r_t_s r_t_bears) ∧ Q i_t r_t_foremost r_t_bears) D k A ([.ref a_t, .int n1] : List Value).toArray s 0 0) (F0 m 6 ls []) := by
  intro n
  induction n with
  | zero => intro x2 x3 r_t_foremost H locs ls hf; exact absurd hf (fun h => h)
  | succ n ih => exact bt_LongTrainModel_stands_6 F hr hlk hA hkx_6 ih

set_option maxRecDepth 100000 in
set_option maxHeartbeats 4000000 in
theorem bt_LongTrainModel_stands_50 {p : Program} {l : Launch} {e : Env} {s : State} {m : MethodId} {below : List Frame} {meth : Method} {c : Code} {A : Nat → Prop} {D : va_G} {k : Nat → ClassId} {a_t : Nat} {d_t : Nat → Nat} {i_t : Nat → Int32} {j_t : Nat → Int64} {r_t_foremost : Nat → Int32} {r_t_wagons : Nat → Int32} {r_t_s : Nat → Int32} {n1 : Int32} {Q : (Nat → Int32) → (Nat → Int32) → (Nat → Int32) → Prop}  {x1 : Int32} {kx_50 : (Int32) → (Nat → Int32) → Prop} {kr_50 : (Int32) → (Int32) → (Nat → Int32) → Prop} (F : Fx p m c cX12_stands 5 s ([.ref a_t, .int n1] : List Value).toArray RX12 D k) (hr : meth.sig.returnType = none) (hlk : meth.locks = false) (hA : ∀ q : Nat, s.heap.size ≤ q → A q) (hkx_50 : ∀ (x3 : Int32) (r_t_bears : Nat → Int32) (H : Heap) (locs : List Loc) (ls : Array Slot), kx_50 x3 r_t_bears → Bd D A s.heap (wd_LongTrainModel_stands k a_t d_t i_t j_t r_t_foremost r_t_wagons r_t_s r_t_bears) H locs → lv_has ls 5 [(0, .ref a_t), (1, .int x1), (3, .int x3)] → W p l e { frames := 1, cells := 0, slots := 0, locals := 21 } s m ([.ref a_t, .int n1] : List Value).toArray below meth c H locs 0 0 (Ev below (fun w => ∃ (i_t : Nat → Int32), ∃ (r_t_foremost : Nat → Int32), ∃ (r_t_bears : Nat → Int32), w = (wd_LongTrainModel_stands k a_t d_t i_t j_t r_t_foremost r_t_wagons r_t_s r_t_bears) ∧ Q i_t r_t_foremost r_t_bears) D k A ([.ref a_t, .int n1] : List Value).toArray s 0 0) (F0 m 103 ls [])) (hkr_50 : ∀ (x3 : Int32) (x4 : Int32) (r_t_bears : Nat → Int32) (H : Heap) (locs : List Loc) (ls : Array Slot), kr_50 x3 x4 r_t_bears → Bd D A s.heap (wd_LongTrainModel_stands k a_t d_t i_t j_t r_t_foremost r_t_wagons r_t_s r_t_bears) H locs → lv_has ls 5 [(0, .ref a_t), (1, .int x1), (3, .int x3), (4, .int x4)] → W p l e { frames := 1, cells := 0, slots := 0, locals := 21 } s m ([.ref a_t, .int n1] : List Value).toArray below meth c H locs 0 0 (Ev below (fun w => ∃ (i_t : Nat → Int32), ∃ (r_t_foremost : Nat → Int32), ∃ (r_t_bears : Nat → Int32), w = (wd_LongTrainModel_stands k a_t d_t i_t j_t r_t_foremost r_t_wagons r_t_s r_t_bears) ∧ Q i_t r_t_foremost r_t_bears) D k A ([.ref a_t, .int n1] : List Value).toArray s 0 0) (F0 m 50 ls [])) :
    ∀ (x3 : Int32) (x4 : Int32) (r_t_bears : Nat → Int32) (H : Heap) (locs : List Loc) (ls : Array Slot), b_LongTrainModel_stands_50 r_t_foremost r_t_wagons r_t_s kx_50 kr_50 x3 x4 r_t_bears → Bd D A s.heap (wd_LongTrainModel_stands k a_t d_t i_t j_t r_t_foremost r_t_wagons r_t_s r_t_bears) H locs → lv_has ls 5 [(0, .ref a_t), (1, .int x1), (3, .int x3), (4, .int x4)] → W p l e { frames := 1, cells := 0, slots := 0, locals := 21 } s m ([.ref a_t, .int n1] : List Value).toArray below meth c H locs 0 0 (Ev below (fun w => ∃ (i_t : Nat → Int32), ∃ (r_t_foremost : Nat → Int32), ∃ (r_t_bears : Nat → Int32), w = (wd_LongTrainModel_stands k a_t d_t i_t j_t r_t_foremost r_t_wagons r_t_s r_t_bears) ∧ Q i_t r_t_foremost r_t_bears) D k A ([.ref a_t, .int n1] : List Value).toArray s 0 0) (F0 m 50 ls []) := by
  have hx := F.x
  have hb := F.b
  intro x3 x4 r_t_bears H locs ls hf hB hl
  unfold b_LongTrainModel_stands_50 at hf
  refine lv_iload hx hb dX12_stands_50 (lv_at hl 3 rfl) ?_
  refine lv_if_lt (tgt := 103) hx hb dX12_stands_52 (by decide) (fun c_12 => ?_) (fun c_12 => ?_)
  · replace hf := hf.1 c_12
    exact hkx_50 _ _ _ _ _ hf hB (lv_sub hl [0, 1, 2] rfl)
  · replace hf := hf.2 c_12
    refine lv_iload_n hx hb dX12_stands_55 rfl (lv_at hl 2 rfl) ?_
    refine lv_aload_n hx hb dX12_stands_56 rfl (lv_at hl 0 rfl) ?_
    refine lv_aload_n hx hb dX12_stands_57 rfl (lv_at hl 0 rfl) ?_
    refine g_get (w := .ref (d_t 22)) F hB 0 rfl fl_RX12_50 rfl dX12_stands_58 ?_
    refine lv_iload hx hb dX12_stands_61 (lv_at hl 3 rfl) ?_
    obtain ⟨h_6, hf⟩ := hf
    refine g_iald F hB 2 rfl h_6 dX12_stands_63 ?_
    refine k_vi (wr := [((d_t 23), ai k 20 r_t_foremost), ((d_t 22), ai k 20 r_t_wagons), ((d_t 24), ai k 20 r_t_bears)]) (rest := [.int x3]) F hA hB (c_LongTrainModel_weightOf l D k a_t d_t i_t j_t r_t_s (r_t_wagons (x4).toNatClampNeg) _  hf) ml_RX12_276 mv_yX12_weightOf [0, 3] [1, 2, 4] rfl rfl (by decide) (by decide) (by decide) 0 rfl rfl rfl hl.1 rfl (Nat.le_of_ble_eq_true rfl) ⟨Nat.le_of_ble_eq_true rfl, Nat.le_of_ble_eq_true rfl⟩ ⟨Nat.le_of_ble_eq_true rfl, Nat.le_of_ble_eq_true rfl⟩ dX12_stands_64 (fun z_7 w1 H locs hq hB => ?_)
    obtain ⟨rfl, hf⟩ := hq
    replace hB : Bd D A s.heap (wd_LongTrainModel_stands k a_t d_t i_t j_t r_t_foremost r_t_wagons r_t_s r_t_bears) H locs := hB.sub [3, 0, 1, 4, 2] (by decide) rfl
    refine lv_aload_n hx hb dX12_stands_67 rfl (lv_at hl 0 rfl) ?_
    refine lv_aload_n hx hb dX12_stands_68 rfl (lv_at hl 0 rfl) ?_
    refine g_get (w := .ref (d_t 23)) F hB 0 rfl fl_RX12_53 rfl dX12_stands_69 ?_
    refine lv_iload hx hb dX12_stands_72 (lv_at hl 3 rfl) ?_
    obtain ⟨h_8, hf⟩ := hf
    refine g_iald F hB 1 rfl h_8 dX12_stands_74 ?_
    refine k_vi (wr := [((d_t 23), ai k 20 r_t_foremost), ((d_t 22), ai k 20 r_t_wagons), ((d_t 24), ai k 20 r_t_bears)]) (rest := [.int z_7, .int x3]) F hA hB (c_LongTrainModel_gradeOf l D k a_t d_t i_t j_t r_t_s (r_t_foremost (x4).toNatClampNeg) _  hf) ml_RX12_254 mv_yX12_gradeOf [0, 3] [1, 2, 4] rfl rfl (by decide) (by decide) (by decide) 0 rfl rfl rfl hl.1 rfl (Nat.le_of_ble_eq_true rfl) ⟨Nat.le_of_ble_eq_true rfl, Nat.le_of_ble_eq_true rfl⟩ ⟨Nat.le_of_ble_eq_true rfl, Nat.le_of_ble_eq_true rfl⟩ dX12_stands_75 (fun z_9 w1 H locs hq hB => ?_)
    obtain ⟨rfl, hf⟩ := hq
    replace hB : Bd D A s.heap (wd_LongTrainModel_stands k a_t d_t i_t j_t r_t_foremost r_t_wagons r_t_s r_t_bears) H locs := hB.sub [3, 0, 1, 4, 2] (by decide) rfl
    refine lv_aload_n hx hb dX12_stands_78 rfl (lv_at hl 0 rfl) ?_
    refine g_get (w := .ref (d_t 6)) F hB 0 rfl fl_RX12_33 rfl dX12_stands_79 ?_
    refine lv_bipush (v := 6) hx hb dX12_stands_82 (by decide) ?_
    refine g_iald F hB 3 rfl (vp_in_iff.mpr (by decide +kernel)) dX12_stands_84 ?_
    refine W.eq (g2 := F0 m 85 ls [.int (r_t_s 6), .int z_9, .int z_7, .int x3]) rfl ?_
    refine lv_iadd hx hb dX12_stands_85 ?_
    refine lv_imul hx hb dX12_stands_86 ?_
    refine lv_iadd hx hb dX12_stands_87 ?_
    refine lv_istore_n (lv' := [(3, .int (x3 + (z_7 * (z_9 + (r_t_s 6))))), (0, .ref a_t), (1, .int x1), (4, .int x4)]) hx hb dX12_stands_88 rfl hl (by decide) rfl (fun ls hl => ?_)
    refine lv_aload_n hx hb dX12_stands_89 rfl (lv_at hl 1 rfl) ?_
    refine g_get (w := .ref (d_t 24)) F hB 0 rfl fl_RX12_56 rfl dX12_stands_90 ?_
    refine lv_iload hx hb dX12_stands_93 (lv_at hl 3 rfl) ?_
    refine lv_iload_n hx hb dX12_stands_95 rfl (lv_at hl 0 rfl) ?_
    obtain ⟨h_11, hf⟩ := hf
    refine g_iast F hB 4 rfl h_11 (wd_LongTrainModel_stands k a_t d_t i_t j_t r_t_foremost r_t_wagons r_t_s (upd r_t_bears (x4).toNatClampNeg (x3 + (z_7 * (z_9 + (r_t_s 6)))))) rfl dX12_stands_96 (fun H locs hB => ?_)
    refine lv_iinc (v := (x4 + (-1))) (lv' := [(4, .int (x4 + (-1))), (3, .int (x3 + (z_7 * (z_9 + (r_t_s 6))))), (0, .ref a_t), (1, .int x1)]) (k := 3) hx hb dX12_stands_97 hl rfl rfl (by decide) rfl (fun ls hl => ?_)
    refine lv_goto (tgt := 50) hx hb dX12_stands_100 (by decide) ?_
    exact hkr_50 _ _ _ _ _ _ hf hB (lv_sub hl [2, 3, 1, 0] rfl)

set_option maxRecDepth 100000 in
set_option maxHeartbeats 4000000 in
theorem lt_LongTrainModel_stands_50 {p : Program} {l : Launch} {e : Env} {s : State} {m : MethodId} {below : List Frame} {meth : Method} {c : Code} {A : Nat → Prop} {D : va_G} {k : Nat → ClassId} {a_t : Nat} {d_t : Nat → Nat} {i_t : Nat → Int32} {j_t : Nat → Int64} {r_t_foremost : Nat → Int32} {r_t_wagons : Nat → Int32} {r_t_s : Nat → Int32} {n1 : Int32} {Q : (Nat → Int32) → (Nat → Int32) → (Nat → Int32) → Prop}  {x1 : Int32} {kx_50 : (Int32) → (Nat → Int32) → Prop} (F : Fx p m c cX12_stands 5 s ([.ref a_t, .int n1] : List Value).toArray RX12 D k) (hr : meth.sig.returnType = none) (hlk : meth.locks = false) (hA : ∀ q : Nat, s.heap.size ≤ q → A q) (hkx_50 : ∀ (x3 : Int32) (r_t_bears : Nat → Int32) (H : Heap) (locs : List Loc) (ls : Array Slot), kx_50 x3 r_t_bears → Bd D A s.heap (wd_LongTrainModel_stands k a_t d_t i_t j_t r_t_foremost r_t_wagons r_t_s r_t_bears) H locs → lv_has ls 5 [(0, .ref a_t), (1, .int x1), (3, .int x3)] → W p l e { frames := 1, cells := 0, slots := 0, locals := 21 } s m ([.ref a_t, .int n1] : List Value).toArray below meth c H locs 0 0 (Ev below (fun w => ∃ (i_t : Nat → Int32), ∃ (r_t_foremost : Nat → Int32), ∃ (r_t_bears : Nat → Int32), w = (wd_LongTrainModel_stands k a_t d_t i_t j_t r_t_foremost r_t_wagons r_t_s r_t_bears) ∧ Q i_t r_t_foremost r_t_bears) D k A ([.ref a_t, .int n1] : List Value).toArray s 0 0) (F0 m 103 ls [])) :
    ∀ n : Nat, ∀ (x3 : Int32) (x4 : Int32) (r_t_bears : Nat → Int32) (H : Heap) (locs : List Loc) (ls : Array Slot), lp_LongTrainModel_stands_50 r_t_foremost r_t_wagons r_t_s kx_50 n x3 x4 r_t_bears → Bd D A s.heap (wd_LongTrainModel_stands k a_t d_t i_t j_t r_t_foremost r_t_wagons r_t_s r_t_bears) H locs → lv_has ls 5 [(0, .ref a_t), (1, .int x1), (3, .int x3), (4, .int x4)] → W p l e { frames := 1, cells := 0, slots := 0, locals := 21 } s m ([.ref a_t, .int n1] : List Value).toArray below meth c H locs 0 0 (Ev below (fun w => ∃ (i_t : Nat → Int32), ∃ (r_t_foremost : Nat → Int32), ∃ (r_t_bears : Nat → Int32), w = (wd_LongTrainModel_stands k a_t d_t i_t j_t r_t_foremost r_t_wagons r_t_s r_t_bears) ∧ Q i_t r_t_foremost r_t_bears) D k A ([.ref a_t, .int n1] : List Value).toArray s 0 0) (F0 m 50 ls []) := by
  intro n
  induction n with
  | zero => intro x3 x4 r_t_bears H locs ls hf; exact absurd hf (fun h => h)
  | succ n ih => exact bt_LongTrainModel_stands_50 F hr hlk hA hkx_50 ih

set_option maxRecDepth 100000 in
set_option maxHeartbeats 4000000 in
theorem c_LongTrainModel_stands (l : Launch) (D : va_G) (k : Nat → ClassId) (a_t : Nat) (d_t : Nat → Nat) (i_t : Nat → Int32) (j_t : Nat → Int64) (r_t_foremost : Nat → Int32) (r_t_wagons : Nat → Int32) (r_t_s : Nat → Int32) (r_t_bears : Nat → Int32) (n1 : Int32) (Q : (Nat → Int32) → (Nat → Int32) → (Nat → Int32) → Prop)  (hf : w_LongTrainModel_stands i_t r_t_foremost r_t_wagons r_t_s r_t_bears n1 Q) : CtV l yX12_stands cX12_stands 5 none 1 21 0 0 D k [.ref a_t, .int n1] (wd_LongTrainModel_stands k a_t d_t i_t j_t r_t_foremost r_t_wagons r_t_s r_t_bears) (fun w => ∃ (i_t : Nat → Int32), ∃ (r_t_foremost : Nat → Int32), ∃ (r_t_bears : Nat → Int32), w = (wd_LongTrainModel_stands k a_t d_t i_t j_t r_t_foremost r_t_wagons r_t_s r_t_bears) ∧ Q i_t r_t_foremost r_t_bears) := by
  refine CtV.of (by decide) (Nat.le_of_ble_eq_true rfl) ?_
  intro p e s m below meth c A F hr hlk hnm hA hB ls hl
  have hx := F.x
  have hb := F.b
  unfold w_LongTrainModel_stands at hf
  replace hl : lv_has ls 5 [(0, .ref a_t), (1, .int n1)] := hl
  refine lv_iload_n hx hb dX12_stands_0 rfl (lv_at hl 1 rfl) ?_
  refine lv_iconst (v := 1) hx hb dX12_stands_1 (by decide) ?_
  refine lv_isub hx hb dX12_stands_2 ?_
  refine lv_istore_n (lv' := [(2, .int (n1 - (1 : Int32))), (0, .ref a_t), (1, .int n1)]) hx hb dX12_stands_3 rfl hl (by decide) rfl (fun ls hl => ?_)
  refine lv_iconst (v := 0) hx hb dX12_stands_4 (by decide) ?_
  refine lv_istore_n (lv' := [(3, .int (0 : Int32)), (2, .int (n1 - (1 : Int32))), (0, .ref a_t), (1, .int n1)]) hx hb dX12_stands_5 rfl hl (by decide) rfl (fun ls hl => ?_)
  obtain ⟨n_22, hf⟩ := hf
  refine lt_LongTrainModel_stands_6 F hr hlk hA (fun r_t_foremost_5 H locs ls hf hB hl => ?_) n_22 _ _ _ _ _ _ hf hB (lv_sub hl [2, 3, 1, 0] rfl)
  refine lv_iconst (v := 0) hx hb dX12_stands_40 (by decide) ?_
  refine lv_istore_n (lv' := [(3, .int (0 : Int32)), (0, .ref a_t), (1, .int n1)]) hx hb dX12_stands_41 rfl hl (by decide) rfl (fun ls hl => ?_)
  refine lv_aload_n hx hb dX12_stands_42 rfl (lv_at hl 1 rfl) ?_
  refine g_get (w := .int (i_t 27)) F hB 0 rfl fl_RX12_270 rfl dX12_stands_43 ?_
  refine lv_iconst (v := 1) hx hb dX12_stands_46 (by decide) ?_
  refine lv_isub hx hb dX12_stands_47 ?_
  refine lv_istore (lv' := [(4, .int ((i_t 27) - (1 : Int32))), (3, .int (0 : Int32)), (0, .ref a_t), (1, .int n1)]) hx hb dX12_stands_48 hl (by decide) rfl (fun ls hl => ?_)
  obtain ⟨n_21, hf⟩ := hf
  refine lt_LongTrainModel_stands_50 F hr hlk hA (fun x3_13 r_t_bears_14 H locs ls hf hB hl => ?_) n_21 _ _ _ _ _ _ hf hB (lv_sub hl [2, 3, 1, 0] rfl)
  refine lv_aload_n hx hb dX12_stands_103 rfl (lv_at hl 0 rfl) ?_
  refine lv_iload_n hx hb dX12_stands_104 rfl (lv_at hl 2 rfl) ?_
  refine lv_aload_n hx hb dX12_stands_105 rfl (lv_at hl 0 rfl) ?_
  refine g_get (w := .ref (d_t 6)) F hB 0 rfl fl_RX12_33 rfl dX12_stands_106 ?_
  refine lv_iconst (v := 5) hx hb dX12_stands_109 (by decide) ?_
  refine g_iald F hB 3 rfl (vp_in_iff.mpr (by decide +kernel)) dX12_stands_110 ?_
  refine W.eq (g2 := F0 m 111 ls [.int (r_t_s 5), .int x3_13, .ref a_t]) rfl ?_
  refine lv_aload_n hx hb dX12_stands_111 rfl (lv_at hl 0 rfl) ?_
  refine g_get (w := .ref (d_t 6)) F hB 0 rfl fl_RX12_33 rfl dX12_stands_112 ?_
  refine lv_iconst (v := 0) hx hb dX12_stands_115 (by decide) ?_
  refine g_iald F hB 3 rfl (vp_in_iff.mpr (by decide +kernel)) dX12_stands_116 ?_
  refine W.eq (g2 := F0 m 117 ls [.int (r_t_s 0), .int (r_t_s 5), .int x3_13, .ref a_t]) rfl ?_
  refine lv_if_ne (tgt := 124) hx hb dX12_stands_117 (by decide) (fun c_20 => ?_) (fun c_20 => ?_)
  · replace hf := hf.1 c_20
    refine lv_aload_n hx hb dX12_stands_124 rfl (lv_at hl 0 rfl) ?_
    refine lv_iload_n hx hb dX12_stands_125 rfl (lv_at hl 1 rfl) ?_
    refine k_vi (wr := [((d_t 23), ai k 20 r_t_foremost_5), ((d_t 22), ai k 20 r_t_wagons), ((d_t 24), ai k 20 r_t_bears_14)]) (rest := [.int (r_t_s 5), .int x3_13, .ref a_t]) F hA hB (c_LongTrainModel_gradeOf l D k a_t d_t i_t j_t r_t_s n1 _  hf) ml_RX12_254 mv_yX12_gradeOf [0, 3] [1, 2, 4] rfl rfl (by decide) (by decide) (by decide) 0 rfl rfl rfl hl.1 rfl (Nat.le_of_ble_eq_true rfl) ⟨Nat.le_of_ble_eq_true rfl, Nat.le_of_ble_eq_true rfl⟩ ⟨Nat.le_of_ble_eq_true rfl, Nat.le_of_ble_eq_true rfl⟩ dX12_stands_126 (fun z_17 w1 H locs hq hB => ?_)
    obtain ⟨rfl, hf⟩ := hq
    replace hB : Bd D A s.heap (wd_LongTrainModel_stands k a_t d_t i_t j_t r_t_foremost_5 r_t_wagons r_t_s r_t_bears_14) H locs := hB.sub [3, 0, 1, 4, 2] (by decide) rfl
    refine lv_aload_n hx hb dX12_stands_129 rfl (lv_at hl 0 rfl) ?_
    refine g_get (w := .ref (d_t 6)) F hB 0 rfl fl_RX12_33 rfl dX12_stands_130 ?_
    refine lv_bipush (v := 6) hx hb dX12_stands_133 (by decide) ?_
    refine g_iald F hB 3 rfl (vp_in_iff.mpr (by decide +kernel)) dX12_stands_135 ?_
    refine W.eq (g2 := F0 m 136 ls [.int (r_t_s 6), .int z_17, .int (r_t_s 5), .int x3_13, .ref a_t]) rfl ?_
    refine lv_iadd hx hb dX12_stands_136 ?_
    refine lv_imul hx hb dX12_stands_137 ?_
    refine lv_iadd hx hb dX12_stands_138 ?_
    refine g_puti F hB 0 rfl fl_RX12_279 rfl (wd_LongTrainModel_stands k a_t d_t (upd i_t 28 (x3_13 + ((r_t_s 5) * (z_17 + (r_t_s 6))))) j_t r_t_foremost_5 r_t_wagons r_t_s r_t_bears_14) rfl dX12_stands_139 (fun H locs hB => ?_)
    exact r_v F hr hlk hB ⟨_, _, _, rfl, hf⟩ dX12_stands_142
  · replace hf := hf.2 c_20
    refine lv_iconst (v := 0) hx hb dX12_stands_120 (by decide) ?_
    refine lv_goto (tgt := 129) hx hb dX12_stands_121 (by decide) ?_
    refine lv_aload_n hx hb dX12_stands_129 rfl (lv_at hl 0 rfl) ?_
    refine g_get (w := .ref (d_t 6)) F hB 0 rfl fl_RX12_33 rfl dX12_stands_130 ?_
    refine lv_bipush (v := 6) hx hb dX12_stands_133 (by decide) ?_
    refine g_iald F hB 3 rfl (vp_in_iff.mpr (by decide +kernel)) dX12_stands_135 ?_
    refine W.eq (g2 := F0 m 136 ls [.int (r_t_s 6), .int (0 : Int32), .int (r_t_s 5), .int x3_13, .ref a_t]) rfl ?_
    refine lv_iadd hx hb dX12_stands_136 ?_
    refine lv_imul hx hb dX12_stands_137 ?_
    refine lv_iadd hx hb dX12_stands_138 ?_
    refine g_puti F hB 0 rfl fl_RX12_279 rfl (wd_LongTrainModel_stands k a_t d_t (upd i_t 28 (x3_13 + ((r_t_s 5) * ((0 : Int32) + (r_t_s 6))))) j_t r_t_foremost_5 r_t_wagons r_t_s r_t_bears_14) rfl dX12_stands_139 (fun H locs hB => ?_)
    exact r_v F hr hlk hB ⟨_, _, _, rfl, hf⟩ dX12_stands_142

