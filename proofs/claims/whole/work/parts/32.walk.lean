/-! LongTrainModel.moves -/
set_option maxRecDepth 100000 in
set_option maxHeartbeats 4000000 in
theorem bt_LongTrainModel_moves_10 {p : Program} {l : Launch} {e : Env} {s : State} {m : MethodId} {below : List Frame} {meth : Method} {c : Code} {A : Nat → Prop} {D : va_G} {k : Nat → ClassId} {a_t : Nat} {d_t : Nat → Nat} {j_t : Nat → Int64} {n1 : Int32} {n2 : Int32} {Q : (Nat → Int32) → (Nat → Int32) → (Nat → Int32) → (Nat → Int32) → (Nat → Int32) → Prop}  {x1 : Int32} {x2 : Int32} {kx_10 : (Nat → Int32) → (Nat → Int32) → (Nat → Int32) → (Nat → Int32) → (Nat → Int32) → Prop} {kr_10 : (Nat → Int32) → (Nat → Int32) → (Nat → Int32) → (Nat → Int32) → (Nat → Int32) → Prop} (F : Fx p m c cX12_moves 3 s ([.ref a_t, .int n1, .int n2] : List Value).toArray RX12 D k) (hr : meth.sig.returnType = none) (hlk : meth.locks = false) (hA : ∀ q : Nat, s.heap.size ≤ q → A q) (hkx_10 : ∀ (i_t : Nat → Int32) (r_t_s : Nat → Int32) (r_t_wagons : Nat → Int32) (r_t_foremost : Nat → Int32) (r_t_bears : Nat → Int32) (H : Heap) (locs : List Loc) (ls : Array Slot), kx_10 i_t r_t_s r_t_wagons r_t_foremost r_t_bears → Bd D A s.heap (wd_LongTrainModel_moves k a_t d_t i_t j_t r_t_s r_t_wagons r_t_foremost r_t_bears) H locs → lv_has ls 3 [] → W p l e { frames := 4, cells := 0, slots := 0, locals := 92 } s m ([.ref a_t, .int n1, .int n2] : List Value).toArray below meth c H locs 0 0 (Ev below (fun w => ∃ (i_t : Nat → Int32), ∃ (r_t_s : Nat → Int32), ∃ (r_t_wagons : Nat → Int32), ∃ (r_t_foremost : Nat → Int32), ∃ (r_t_bears : Nat → Int32), w = (wd_LongTrainModel_moves k a_t d_t i_t j_t r_t_s r_t_wagons r_t_foremost r_t_bears) ∧ Q i_t r_t_s r_t_wagons r_t_foremost r_t_bears) D k A ([.ref a_t, .int n1, .int n2] : List Value).toArray s 0 0) (F0 m 58 ls [])) (hkr_10 : ∀ (i_t : Nat → Int32) (r_t_s : Nat → Int32) (r_t_wagons : Nat → Int32) (r_t_foremost : Nat → Int32) (r_t_bears : Nat → Int32) (H : Heap) (locs : List Loc) (ls : Array Slot), kr_10 i_t r_t_s r_t_wagons r_t_foremost r_t_bears → Bd D A s.heap (wd_LongTrainModel_moves k a_t d_t i_t j_t r_t_s r_t_wagons r_t_foremost r_t_bears) H locs → lv_has ls 3 [(0, .ref a_t), (1, .int x1), (2, .int x2)] → W p l e { frames := 4, cells := 0, slots := 0, locals := 92 } s m ([.ref a_t, .int n1, .int n2] : List Value).toArray below meth c H locs 0 0 (Ev below (fun w => ∃ (i_t : Nat → Int32), ∃ (r_t_s : Nat → Int32), ∃ (r_t_wagons : Nat → Int32), ∃ (r_t_foremost : Nat → Int32), ∃ (r_t_bears : Nat → Int32), w = (wd_LongTrainModel_moves k a_t d_t i_t j_t r_t_s r_t_wagons r_t_foremost r_t_bears) ∧ Q i_t r_t_s r_t_wagons r_t_foremost r_t_bears) D k A ([.ref a_t, .int n1, .int n2] : List Value).toArray s 0 0) (F0 m 10 ls [])) :
    ∀ (i_t : Nat → Int32) (r_t_s : Nat → Int32) (r_t_wagons : Nat → Int32) (r_t_foremost : Nat → Int32) (r_t_bears : Nat → Int32) (H : Heap) (locs : List Loc) (ls : Array Slot), b_LongTrainModel_moves_10 x1 x2 kx_10 kr_10 i_t r_t_s r_t_wagons r_t_foremost r_t_bears → Bd D A s.heap (wd_LongTrainModel_moves k a_t d_t i_t j_t r_t_s r_t_wagons r_t_foremost r_t_bears) H locs → lv_has ls 3 [(0, .ref a_t), (1, .int x1), (2, .int x2)] → W p l e { frames := 4, cells := 0, slots := 0, locals := 92 } s m ([.ref a_t, .int n1, .int n2] : List Value).toArray below meth c H locs 0 0 (Ev below (fun w => ∃ (i_t : Nat → Int32), ∃ (r_t_s : Nat → Int32), ∃ (r_t_wagons : Nat → Int32), ∃ (r_t_foremost : Nat → Int32), ∃ (r_t_bears : Nat → Int32), w = (wd_LongTrainModel_moves k a_t d_t i_t j_t r_t_s r_t_wagons r_t_foremost r_t_bears) ∧ Q i_t r_t_s r_t_wagons r_t_foremost r_t_bears) D k A ([.ref a_t, .int n1, .int n2] : List Value).toArray s 0 0) (F0 m 10 ls []) := by
  have hx := F.x
  have hb := F.b
  intro i_t r_t_s r_t_wagons r_t_foremost r_t_bears H locs ls hf hB hl
  unfold b_LongTrainModel_moves_10 at hf
  refine lv_aload_n hx hb dX12_moves_10 rfl (lv_at hl 0 rfl) ?_
  refine g_get (w := .int (i_t 39)) F hB 0 rfl fl_RX12_373 rfl dX12_moves_11 ?_
  refine lv_iload_n hx hb dX12_moves_14 rfl (lv_at hl 1 rfl) ?_
  refine lv_icmp_ge (tgt := 58) hx hb dX12_moves_15 (by decide) (fun c_9 => ?_) (fun c_9 => ?_)
  · replace hf := hf.1 c_9
    exact hkx_10 _ _ _ _ _ _ _ _ hf hB (lv_sub hl [] rfl)
  · replace hf := hf.2 c_9
    refine lv_aload_n hx hb dX12_moves_18 rfl (lv_at hl 0 rfl) ?_
    refine g_get (w := .int (i_t 40)) F hB 0 rfl fl_RX12_376 rfl dX12_moves_19 ?_
    refine lv_if_ne (tgt := 58) hx hb dX12_moves_22 (by decide) (fun c_8 => ?_) (fun c_8 => ?_)
    · replace hf := hf.1 c_8
      exact hkx_10 _ _ _ _ _ _ _ _ hf hB (lv_sub hl [] rfl)
    · replace hf := hf.2 c_8
      refine lv_aload_n hx hb dX12_moves_25 rfl (lv_at hl 0 rfl) ?_
      refine lv_aload_n hx hb dX12_moves_26 rfl (lv_at hl 0 rfl) ?_
      refine lv_iload_n hx hb dX12_moves_27 rfl (lv_at hl 2 rfl) ?_
      refine k_vi (wr := []) (rest := [.ref a_t]) F hA hB (c_LongTrainModel_move l D k a_t d_t i_t j_t r_t_s r_t_wagons r_t_foremost r_t_bears x2 _  hf) ml_RX12_379 mv_yX12_move [0, 1, 2, 3, 4] [] rfl rfl (by decide) (by decide) (by decide) 0 rfl rfl rfl hl.1 rfl (Nat.le_of_ble_eq_true rfl) ⟨Nat.le_of_ble_eq_true rfl, Nat.le_of_ble_eq_true rfl⟩ ⟨Nat.le_of_ble_eq_true rfl, Nat.le_of_ble_eq_true rfl⟩ dX12_moves_28 (fun z_6 w1 H locs hq hB => ?_)
      obtain ⟨i_t_1, r_t_s_2, r_t_wagons_3, r_t_foremost_4, r_t_bears_5, rfl, hf⟩ := hq
      replace hB : Bd D A s.heap (wd_LongTrainModel_moves k a_t d_t i_t_1 j_t r_t_s_2 r_t_wagons_3 r_t_foremost_4 r_t_bears_5) H locs := hB.sub [0, 1, 2, 3, 4] (by decide) rfl
      refine g_puti F hB 0 rfl fl_RX12_376 rfl (wd_LongTrainModel_moves k a_t d_t (upd i_t_1 40 z_6) j_t r_t_s_2 r_t_wagons_3 r_t_foremost_4 r_t_bears_5) rfl dX12_moves_31 (fun H locs hB => ?_)
      refine lv_aload_n hx hb dX12_moves_34 rfl (lv_at hl 0 rfl) ?_
      refine lv_dup hx hb dX12_moves_35 rfl ?_
      refine g_get (w := .int ((upd i_t_1 40 z_6) 39)) F hB 0 rfl fl_RX12_373 rfl dX12_moves_36 ?_
      refine lv_aload_n hx hb dX12_moves_39 rfl (lv_at hl 0 rfl) ?_
      refine g_get (w := .int ((upd i_t_1 40 z_6) 40)) F hB 0 rfl fl_RX12_376 rfl dX12_moves_40 ?_
      refine lv_if_ne (tgt := 50) hx hb dX12_moves_43 (by decide) (fun c_7 => ?_) (fun c_7 => ?_)
      · replace hf := hf.1 c_7
        refine lv_iconst (v := 0) hx hb dX12_moves_50 (by decide) ?_
        refine lv_iadd hx hb dX12_moves_51 ?_
        refine g_puti F hB 0 rfl fl_RX12_373 rfl (wd_LongTrainModel_moves k a_t d_t (upd (upd i_t_1 40 z_6) 39 (((upd i_t_1 40 z_6) 39) + (0 : Int32))) j_t r_t_s_2 r_t_wagons_3 r_t_foremost_4 r_t_bears_5) rfl dX12_moves_52 (fun H locs hB => ?_)
        refine lv_goto (tgt := 10) hx hb dX12_moves_55 (by decide) ?_
        exact hkr_10 _ _ _ _ _ _ _ _ hf hB (lv_sub hl [0, 1, 2] rfl)
      · replace hf := hf.2 c_7
        refine lv_iconst (v := 1) hx hb dX12_moves_46 (by decide) ?_
        refine lv_goto (tgt := 51) hx hb dX12_moves_47 (by decide) ?_
        refine lv_iadd hx hb dX12_moves_51 ?_
        refine g_puti F hB 0 rfl fl_RX12_373 rfl (wd_LongTrainModel_moves k a_t d_t (upd (upd i_t_1 40 z_6) 39 (((upd i_t_1 40 z_6) 39) + (1 : Int32))) j_t r_t_s_2 r_t_wagons_3 r_t_foremost_4 r_t_bears_5) rfl dX12_moves_52 (fun H locs hB => ?_)
        refine lv_goto (tgt := 10) hx hb dX12_moves_55 (by decide) ?_
        exact hkr_10 _ _ _ _ _ _ _ _ hf hB (lv_sub hl [0, 1, 2] rfl)

set_option maxRecDepth 100000 in
set_option maxHeartbeats 4000000 in
theorem lt_LongTrainModel_moves_10 {p : Program} {l : Launch} {e : Env} {s : State} {m : MethodId} {below : List Frame} {meth : Method} {c : Code} {A : Nat → Prop} {D : va_G} {k : Nat → ClassId} {a_t : Nat} {d_t : Nat → Nat} {j_t : Nat → Int64} {n1 : Int32} {n2 : Int32} {Q : (Nat → Int32) → (Nat → Int32) → (Nat → Int32) → (Nat → Int32) → (Nat → Int32) → Prop}  {x1 : Int32} {x2 : Int32} {kx_10 : (Nat → Int32) → (Nat → Int32) → (Nat → Int32) → (Nat → Int32) → (Nat → Int32) → Prop} (F : Fx p m c cX12_moves 3 s ([.ref a_t, .int n1, .int n2] : List Value).toArray RX12 D k) (hr : meth.sig.returnType = none) (hlk : meth.locks = false) (hA : ∀ q : Nat, s.heap.size ≤ q → A q) (hkx_10 : ∀ (i_t : Nat → Int32) (r_t_s : Nat → Int32) (r_t_wagons : Nat → Int32) (r_t_foremost : Nat → Int32) (r_t_bears : Nat → Int32) (H : Heap) (locs : List Loc) (ls : Array Slot), kx_10 i_t r_t_s r_t_wagons r_t_foremost r_t_bears → Bd D A s.heap (wd_LongTrainModel_moves k a_t d_t i_t j_t r_t_s r_t_wagons r_t_foremost r_t_bears) H locs → lv_has ls 3 [] → W p l e { frames := 4, cells := 0, slots := 0, locals := 92 } s m ([.ref a_t, .int n1, .int n2] : List Value).toArray below meth c H locs 0 0 (Ev below (fun w => ∃ (i_t : Nat → Int32), ∃ (r_t_s : Nat → Int32), ∃ (r_t_wagons : Nat → Int32), ∃ (r_t_foremost : Nat → Int32), ∃ (r_t_bears : Nat → Int32), w = (wd_LongTrainModel_moves k a_t d_t i_t j_t r_t_s r_t_wagons r_t_foremost r_t_bears) ∧ Q i_t r_t_s r_t_wagons r_t_foremost r_t_bears) D k A ([.ref a_t, .int n1, .int n2] : List Value).toArray s 0 0) (F0 m 58 ls [])) :
    ∀ n : Nat, ∀ (i_t : Nat → Int32) (r_t_s : Nat → Int32) (r_t_wagons : Nat → Int32) (r_t_foremost : Nat → Int32) (r_t_bears : Nat → Int32) (H : Heap) (locs : List Loc) (ls : Array Slot), lp_LongTrainModel_moves_10 x1 x2 kx_10 n i_t r_t_s r_t_wagons r_t_foremost r_t_bears → Bd D A s.heap (wd_LongTrainModel_moves k a_t d_t i_t j_t r_t_s r_t_wagons r_t_foremost r_t_bears) H locs → lv_has ls 3 [(0, .ref a_t), (1, .int x1), (2, .int x2)] → W p l e { frames := 4, cells := 0, slots := 0, locals := 92 } s m ([.ref a_t, .int n1, .int n2] : List Value).toArray below meth c H locs 0 0 (Ev below (fun w => ∃ (i_t : Nat → Int32), ∃ (r_t_s : Nat → Int32), ∃ (r_t_wagons : Nat → Int32), ∃ (r_t_foremost : Nat → Int32), ∃ (r_t_bears : Nat → Int32), w = (wd_LongTrainModel_moves k a_t d_t i_t j_t r_t_s r_t_wagons r_t_foremost r_t_bears) ∧ Q i_t r_t_s r_t_wagons r_t_foremost r_t_bears) D k A ([.ref a_t, .int n1, .int n2] : List Value).toArray s 0 0) (F0 m 10 ls []) := by
  intro n
  induction n with
  | zero => intro i_t r_t_s r_t_wagons r_t_foremost r_t_bears H locs ls hf; exact absurd hf (fun h => h)
  | succ n ih => exact bt_LongTrainModel_moves_10 F hr hlk hA hkx_10 ih

set_option maxRecDepth 100000 in
set_option maxHeartbeats 4000000 in
theorem c_LongTrainModel_moves (l : Launch) (D : va_G) (k : Nat → ClassId) (a_t : Nat) (d_t : Nat → Nat) (i_t : Nat → Int32) (j_t : Nat → Int64) (r_t_s : Nat → Int32) (r_t_wagons : Nat → Int32) (r_t_foremost : Nat → Int32) (r_t_bears : Nat → Int32) (n1 : Int32) (n2 : Int32) (Q : (Nat → Int32) → (Nat → Int32) → (Nat → Int32) → (Nat → Int32) → (Nat → Int32) → Prop)  (hf : w_LongTrainModel_moves i_t r_t_s r_t_wagons r_t_foremost r_t_bears n1 n2 Q) : CtV l yX12_moves cX12_moves 3 none 4 92 0 0 D k [.ref a_t, .int n1, .int n2] (wd_LongTrainModel_moves k a_t d_t i_t j_t r_t_s r_t_wagons r_t_foremost r_t_bears) (fun w => ∃ (i_t : Nat → Int32), ∃ (r_t_s : Nat → Int32), ∃ (r_t_wagons : Nat → Int32), ∃ (r_t_foremost : Nat → Int32), ∃ (r_t_bears : Nat → Int32), w = (wd_LongTrainModel_moves k a_t d_t i_t j_t r_t_s r_t_wagons r_t_foremost r_t_bears) ∧ Q i_t r_t_s r_t_wagons r_t_foremost r_t_bears) := by
  refine CtV.of (by decide) (Nat.le_of_ble_eq_true rfl) ?_
  intro p e s m below meth c A F hr hlk hnm hA hB ls hl
  have hx := F.x
  have hb := F.b
  unfold w_LongTrainModel_moves at hf
  replace hl : lv_has ls 3 [(0, .ref a_t), (1, .int n1), (2, .int n2)] := hl
  refine lv_aload_n hx hb dX12_moves_0 rfl (lv_at hl 0 rfl) ?_
  refine lv_iconst (v := 0) hx hb dX12_moves_1 (by decide) ?_
  refine g_puti F hB 0 rfl fl_RX12_373 rfl (wd_LongTrainModel_moves k a_t d_t (upd i_t 39 (0 : Int32)) j_t r_t_s r_t_wagons r_t_foremost r_t_bears) rfl dX12_moves_2 (fun H locs hB => ?_)
  refine lv_aload_n hx hb dX12_moves_5 rfl (lv_at hl 0 rfl) ?_
  refine lv_iconst (v := 0) hx hb dX12_moves_6 (by decide) ?_
  refine g_puti F hB 0 rfl fl_RX12_376 rfl (wd_LongTrainModel_moves k a_t d_t (upd (upd i_t 39 (0 : Int32)) 40 (0 : Int32)) j_t r_t_s r_t_wagons r_t_foremost r_t_bears) rfl dX12_moves_7 (fun H locs hB => ?_)
  obtain ⟨n_15, hf⟩ := hf
  refine lt_LongTrainModel_moves_10 F hr hlk hA (fun i_t_10 r_t_s_11 r_t_wagons_12 r_t_foremost_13 r_t_bears_14 H locs ls hf hB hl => ?_) n_15 _ _ _ _ _ _ _ _ hf hB (lv_sub hl [0, 1, 2] rfl)
  exact r_v F hr hlk hB ⟨_, _, _, _, _, rfl, hf⟩ dX12_moves_58

/-! LongTrainModel.go -/
set_option maxRecDepth 100000 in
set_option maxHeartbeats 4000000 in
theorem c_LongTrainModel_go (l : Launch) (D : va_G) (k : Nat → ClassId) (a_t : Nat) (d_t : Nat → Nat) (i_t : Nat → Int32) (j_t : Nat → Int64) (r_t_s : Nat → Int32) (r_t_wagons : Nat → Int32) (r_t_foremost : Nat → Int32) (r_t_bears : Nat → Int32) (n1 : Int32) (n2 : Int32) (Q : Int32 → (Nat → Int32) → (Nat → Int32) → (Nat → Int32) → (Nat → Int32) → (Nat → Int32) → Prop)  (hf : w_LongTrainModel_go i_t r_t_s r_t_wagons r_t_foremost r_t_bears n1 n2 Q) : CtI l yX12_go cX12_go 3 (some .int) 5 114 0 0 D k [.ref a_t, .int n1, .int n2] (wd_LongTrainModel_go k a_t d_t i_t j_t r_t_s r_t_wagons r_t_foremost r_t_bears) (fun r w => ∃ (i_t : Nat → Int32), ∃ (r_t_s : Nat → Int32), ∃ (r_t_wagons : Nat → Int32), ∃ (r_t_foremost : Nat → Int32), ∃ (r_t_bears : Nat → Int32), w = (wd_LongTrainModel_go k a_t d_t i_t j_t r_t_s r_t_wagons r_t_foremost r_t_bears) ∧ Q r i_t r_t_s r_t_wagons r_t_foremost r_t_bears) := by
  refine CtI.of (by decide) (Nat.le_of_ble_eq_true rfl) ?_
  intro p e s m below meth c A F hr hlk hnm hA hB ls hl
  have hx := F.x
  have hb := F.b
  unfold w_LongTrainModel_go at hf
  replace hl : lv_has ls 3 [(0, .ref a_t), (1, .int n1), (2, .int n2)] := hl
  refine lv_aload_n hx hb dX12_go_0 rfl (lv_at hl 0 rfl) ?_
  refine lv_iconst (v := 0) hx hb dX12_go_1 (by decide) ?_
  refine g_puti F hB 0 rfl fl_RX12_1 rfl (wd_LongTrainModel_go k a_t d_t (upd i_t 0 (0 : Int32)) j_t r_t_s r_t_wagons r_t_foremost r_t_bears) rfl dX12_go_2 (fun H locs hB => ?_)
  refine lv_iload_n hx hb dX12_go_5 rfl (lv_at hl 1 rfl) ?_
  refine lv_iconst (v := 0) hx hb dX12_go_6 (by decide) ?_
  refine lv_sipush (v := 400) hx hb dX12_go_7 (by decide) ?_
  refine k_si (wr := [(a_t, ob 12 (rfd d_t) (upd i_t 0 (0 : Int32)) j_t), ((d_t 6), ai k 1068 r_t_s), ((d_t 22), ai k 20 r_t_wagons), ((d_t 23), ai k 20 r_t_foremost), ((d_t 24), ai k 20 r_t_bears)]) (rest := []) F hA hB (c_LongTrainModel_isIn l D k n1 (0 : Int32) (400 : Int32) _  hf) ml_RX12_182 ms_yX12_isIn [] [0, 1, 2, 3, 4] rfl rfl (by decide) (by decide) (by decide) rfl hl.1 rfl (Nat.le_of_ble_eq_true rfl) ⟨Nat.le_of_ble_eq_true rfl, Nat.le_of_ble_eq_true rfl⟩ ⟨Nat.le_of_ble_eq_true rfl, Nat.le_of_ble_eq_true rfl⟩ dX12_go_10 (fun z_1 w1 H locs hq hB => ?_)
  obtain ⟨h_2, rfl, hf⟩ := hq
  replace hB : Bd D A s.heap (wd_LongTrainModel_go k a_t d_t (upd i_t 0 (0 : Int32)) j_t r_t_s r_t_wagons r_t_foremost r_t_bears) H locs := hB.sub [0, 1, 2, 3, 4] (by decide) rfl
  refine lv_if_eq (tgt := 25) hx hb dX12_go_13 (by decide) (fun c_11 => ?_) (fun c_11 => ?_)
  · replace hf := hf.1 c_11
    refine lv_iconst (v := -1) hx hb dX12_go_25 (by decide) ?_
    exact r_i F hr hlk hB ⟨_, _, _, _, _, rfl, hf⟩ dX12_go_26
  · replace hf := hf.2 c_11
    refine lv_iload_n hx hb dX12_go_16 rfl (lv_at hl 2 rfl) ?_
    refine lv_iconst (v := 0) hx hb dX12_go_17 (by decide) ?_
    refine lv_iconst (v := 1) hx hb dX12_go_18 (by decide) ?_
    refine k_si (wr := [(a_t, ob 12 (rfd d_t) (upd i_t 0 (0 : Int32)) j_t), ((d_t 6), ai k 1068 r_t_s), ((d_t 22), ai k 20 r_t_wagons), ((d_t 23), ai k 20 r_t_foremost), ((d_t 24), ai k 20 r_t_bears)]) (rest := []) F hA hB (c_LongTrainModel_isIn l D k n2 (0 : Int32) (1 : Int32) _  hf) ml_RX12_182 ms_yX12_isIn [] [0, 1, 2, 3, 4] rfl rfl (by decide) (by decide) (by decide) rfl hl.1 rfl (Nat.le_of_ble_eq_true rfl) ⟨Nat.le_of_ble_eq_true rfl, Nat.le_of_ble_eq_true rfl⟩ ⟨Nat.le_of_ble_eq_true rfl, Nat.le_of_ble_eq_true rfl⟩ dX12_go_19 (fun z_3 w1 H locs hq hB => ?_)
    obtain ⟨h_4, rfl, hf⟩ := hq
    replace hB : Bd D A s.heap (wd_LongTrainModel_go k a_t d_t (upd i_t 0 (0 : Int32)) j_t r_t_s r_t_wagons r_t_foremost r_t_bears) H locs := hB.sub [0, 1, 2, 3, 4] (by decide) rfl
    refine lv_if_ne (tgt := 27) hx hb dX12_go_22 (by decide) (fun c_10 => ?_) (fun c_10 => ?_)
    · replace hf := hf.1 c_10
      refine lv_aload_n hx hb dX12_go_27 rfl (lv_at hl 0 rfl) ?_
      refine lv_iload_n hx hb dX12_go_28 rfl (lv_at hl 1 rfl) ?_
      refine lv_iload_n hx hb dX12_go_29 rfl (lv_at hl 2 rfl) ?_
      refine k_vv (wr := []) (rest := []) F hA hB (c_LongTrainModel_moves l D k a_t d_t (upd i_t 0 (0 : Int32)) j_t r_t_s r_t_wagons r_t_foremost r_t_bears n1 n2 _  hf) ml_RX12_382 mv_yX12_moves [0, 1, 2, 3, 4] [] rfl rfl (by decide) (by decide) (by decide) 0 rfl rfl rfl hl.1 rfl (Nat.le_of_ble_eq_true rfl) ⟨Nat.le_of_ble_eq_true rfl, Nat.le_of_ble_eq_true rfl⟩ ⟨Nat.le_of_ble_eq_true rfl, Nat.le_of_ble_eq_true rfl⟩ dX12_go_30 (fun w1 H locs hq hB => ?_)
      obtain ⟨i_t_5, r_t_s_6, r_t_wagons_7, r_t_foremost_8, r_t_bears_9, rfl, hf⟩ := hq
      replace hB : Bd D A s.heap (wd_LongTrainModel_go k a_t d_t i_t_5 j_t r_t_s_6 r_t_wagons_7 r_t_foremost_8 r_t_bears_9) H locs := hB.sub [0, 1, 2, 3, 4] (by decide) rfl
      refine lv_aload_n hx hb dX12_go_33 rfl (lv_at hl 0 rfl) ?_
      refine g_get (w := .int (i_t_5 39)) F hB 0 rfl fl_RX12_373 rfl dX12_go_34 ?_
      exact r_i F hr hlk hB ⟨_, _, _, _, _, rfl, hf⟩ dX12_go_37
    · replace hf := hf.2 c_10
      refine lv_iconst (v := -1) hx hb dX12_go_25 (by decide) ?_
      exact r_i F hr hlk hB ⟨_, _, _, _, _, rfl, hf⟩ dX12_go_26

/-! LongTrainModel.planRow -/
set_option maxRecDepth 100000 in
set_option maxHeartbeats 4000000 in
theorem jt_LongTrainModel_planRow_192 {p : Program} {l : Launch} {e : Env} {s : State} {m : MethodId} {below : List Frame} {meth : Method} {c : Code} {A : Nat → Prop} {D : va_G} {k : Nat → ClassId} {a_t : Nat} {d_t : Nat → Nat} {r_t_tape : Nat → Int32}  {Q : Int32 → (Nat → Int32) → (Nat → Int64) → (Nat → Int32) → Prop}  (F : Fx p m c cX12_planRow 3 s ([.ref a_t] : List Value).toArray RX12 D k) (hr : meth.sig.returnType = (some .boolean)) (hlk : meth.locks = false) (hA : ∀ q : Nat, s.heap.size ≤ q → A q) :
    ∀ (i_t : Nat → Int32) (j_t : Nat → Int64) (r_t_read : Nat → Int32) (x1 : Int32) (x2 : Int32) (H : Heap) (locs : List Loc) (ls : Array Slot), j_LongTrainModel_planRow_192 i_t j_t r_t_tape r_t_read x1 x2 Q → Bd D A s.heap (wd_LongTrainModel_planRow k a_t d_t i_t j_t r_t_tape r_t_read) H locs → lv_has ls 3 [(0, .ref a_t), (1, .int x1), (2, .int x2)] → W p l e { frames := 3, cells := 0, slots := 0, locals := 65 } s m ([.ref a_t] : List Value).toArray below meth c H locs 0 0 (Ei below (fun r w => (r = 0 ∨ r = 1) ∧ (∃ (i_t : Nat → Int32), ∃ (j_t : Nat → Int64), ∃ (r_t_read : Nat → Int32), w = (wd_LongTrainModel_planRow k a_t d_t i_t j_t r_t_tape r_t_read) ∧ Q r i_t j_t r_t_read)) D k A ([.ref a_t] : List Value).toArray s 0 0) (F0 m 192 ls []) := by
  have hx := F.x
  have hb := F.b
  intro i_t j_t r_t_read x1 x2 H locs ls hf hB hl
  unfold j_LongTrainModel_planRow_192 at hf
  refine lv_aload_n hx hb dX12_planRow_192 rfl (lv_at hl 0 rfl) ?_
  refine g_get (w := .ref (d_t 8)) F hB 0 rfl fl_RX12_40 rfl dX12_planRow_193 ?_
  refine lv_iload_n hx hb dX12_planRow_196 rfl (lv_at hl 2 rfl) ?_
  refine lv_iconst (v := 1) hx hb dX12_planRow_197 (by decide) ?_
  refine lv_iadd hx hb dX12_planRow_198 ?_
  refine lv_aload_n hx hb dX12_planRow_199 rfl (lv_at hl 0 rfl) ?_
  refine g_get (w := .int (i_t 18)) F hB 0 rfl fl_RX12_186 rfl dX12_planRow_200 ?_
  obtain ⟨h_22, hf⟩ := hf
  refine g_iast F hB 2 rfl h_22 (wd_LongTrainModel_planRow k a_t d_t i_t j_t r_t_tape (upd r_t_read ((x2 + (1 : Int32))).toNatClampNeg (i_t 18))) rfl dX12_planRow_203 (fun H locs hB => ?_)
  refine lv_iload_n hx hb dX12_planRow_204 rfl (lv_at hl 1 rfl) ?_
  refine lv_iconst (v := 2) hx hb dX12_planRow_205 (by decide) ?_
  refine lv_icmp_eq (tgt := 211) hx hb dX12_planRow_206 (by decide) (fun c_29 => ?_) (fun c_29 => ?_)
  · replace hf := hf.1 c_29
    refine lv_aload_n hx hb dX12_planRow_211 rfl (lv_at hl 0 rfl) ?_
    refine lv_iconst (v := 1) hx hb dX12_planRow_212 (by decide) ?_
    refine lv_sipush (v := 999) hx hb dX12_planRow_213 (by decide) ?_
    refine k_vi (wr := [((d_t 8), ai k 91 (upd r_t_read ((x2 + (1 : Int32))).toNatClampNeg (i_t 18)))]) (rest := []) F hA hB (c_LongTrainModel_takes l D k a_t d_t i_t j_t r_t_tape (1 : Int32) (999 : Int32) _  hf) ml_RX12_216 mv_yX12_takes [0, 1] [2] rfl rfl (by decide) (by decide) (by decide) 0 rfl rfl rfl hl.1 rfl (Nat.le_of_ble_eq_true rfl) ⟨Nat.le_of_ble_eq_true rfl, Nat.le_of_ble_eq_true rfl⟩ ⟨Nat.le_of_ble_eq_true rfl, Nat.le_of_ble_eq_true rfl⟩ dX12_planRow_216 (fun z_25 w1 H locs hq hB => ?_)
    obtain ⟨h_26, i_t_23, j_t_24, rfl, hf⟩ := hq
    replace hB : Bd D A s.heap (wd_LongTrainModel_planRow k a_t d_t i_t_23 j_t_24 r_t_tape (upd r_t_read ((x2 + (1 : Int32))).toNatClampNeg (i_t 18))) H locs := hB.sub [1, 2, 0] (by decide) rfl
    refine lv_if_ne (tgt := 224) hx hb dX12_planRow_219 (by decide) (fun c_28 => ?_) (fun c_28 => ?_)
    · replace hf := hf.1 c_28
      refine lv_aload_n hx hb dX12_planRow_224 rfl (lv_at hl 0 rfl) ?_
      refine g_get (w := .ref (d_t 8)) F hB 0 rfl fl_RX12_40 rfl dX12_planRow_225 ?_
      refine lv_iload_n hx hb dX12_planRow_228 rfl (lv_at hl 2 rfl) ?_
      refine lv_iconst (v := 2) hx hb dX12_planRow_229 (by decide) ?_
      refine lv_iadd hx hb dX12_planRow_230 ?_
      refine lv_aload_n hx hb dX12_planRow_231 rfl (lv_at hl 0 rfl) ?_
      refine g_get (w := .int (i_t_23 18)) F hB 0 rfl fl_RX12_186 rfl dX12_planRow_232 ?_
      obtain ⟨h_27, hf⟩ := hf
      refine g_iast F hB 2 rfl h_27 (wd_LongTrainModel_planRow k a_t d_t i_t_23 j_t_24 r_t_tape (upd (upd r_t_read ((x2 + (1 : Int32))).toNatClampNeg (i_t 18)) ((x2 + (2 : Int32))).toNatClampNeg (i_t_23 18))) rfl dX12_planRow_235 (fun H locs hB => ?_)
      refine lv_iconst (v := 1) hx hb dX12_planRow_236 (by decide) ?_
      exact r_z F hr hlk hB (Or.inr rfl) ⟨Or.inr rfl, _, _, _, rfl, hf⟩ dX12_planRow_237
    · replace hf := hf.2 c_28
      refine lv_iconst (v := 0) hx hb dX12_planRow_222 (by decide) ?_
      exact r_z F hr hlk hB (Or.inl rfl) ⟨Or.inl rfl, _, _, _, rfl, hf⟩ dX12_planRow_223
  · replace hf := hf.2 c_29
    refine lv_iconst (v := 1) hx hb dX12_planRow_209 (by decide) ?_
    exact r_z F hr hlk hB (Or.inr rfl) ⟨Or.inr rfl, _, _, _, rfl, hf⟩ dX12_planRow_210

set_option maxRecDepth 100000 in
set_option maxHeartbeats 4000000 in
theorem jt_LongTrainModel_planRow_85 {p : Program} {l : Launch} {e : Env} {s : State} {m : MethodId} {below : List Frame} {meth : Method} {c : Code} {A : Nat → Prop} {D : va_G} {k : Nat → ClassId} {a_t : Nat} {d_t : Nat → Nat} {r_t_tape : Nat → Int32}  {Q : Int32 → (Nat → Int32) → (Nat → Int64) → (Nat → Int32) → Prop}  (F : Fx p m c cX12_planRow 3 s ([.ref a_t] : List Value).toArray RX12 D k) (hr : meth.sig.returnType = (some .boolean)) (hlk : meth.locks = false) (hA : ∀ q : Nat, s.heap.size ≤ q → A q) :
    ∀ (i_t : Nat → Int32) (j_t : Nat → Int64) (r_t_read : Nat → Int32) (y0 : Int32) (H : Heap) (locs : List Loc) (ls : Array Slot), j_LongTrainModel_planRow_85 i_t j_t r_t_tape r_t_read y0 Q → Bd D A s.heap (wd_LongTrainModel_planRow k a_t d_t i_t j_t r_t_tape r_t_read) H locs → lv_has ls 3 [(0, .ref a_t)] → W p l e { frames := 3, cells := 0, slots := 0, locals := 65 } s m ([.ref a_t] : List Value).toArray below meth c H locs 0 0 (Ei below (fun r w => (r = 0 ∨ r = 1) ∧ (∃ (i_t : Nat → Int32), ∃ (j_t : Nat → Int64), ∃ (r_t_read : Nat → Int32), w = (wd_LongTrainModel_planRow k a_t d_t i_t j_t r_t_tape r_t_read) ∧ Q r i_t j_t r_t_read)) D k A ([.ref a_t] : List Value).toArray s 0 0) (F0 m 85 ls [.int y0]) := by
  have hx := F.x
  have hb := F.b
  intro i_t j_t r_t_read y0 H locs ls hf hB hl
  unfold j_LongTrainModel_planRow_85 at hf
  refine lv_istore_n (lv' := [(1, .int y0), (0, .ref a_t)]) hx hb dX12_planRow_85 rfl hl (by decide) rfl (fun ls hl => ?_)
  refine lv_iload_n hx hb dX12_planRow_86 rfl (lv_at hl 0 rfl) ?_
  refine lv_if_ge (tgt := 96) hx hb dX12_planRow_87 (by decide) (fun c_46 => ?_) (fun c_46 => ?_)
  · replace hf := hf.1 c_46
    refine lv_aload_n hx hb dX12_planRow_96 rfl (lv_at hl 1 rfl) ?_
    refine g_get (w := .int (i_t 41)) F hB 0 rfl fl_RX12_385 rfl dX12_planRow_97 ?_
    refine lv_bipush (v := 30) hx hb dX12_planRow_100 (by decide) ?_
    refine lv_icmp_ne (tgt := 111) hx hb dX12_planRow_102 (by decide) (fun c_42 => ?_) (fun c_42 => ?_)
    · replace hf := hf.1 c_42
      refine lv_iconst (v := 1) hx hb dX12_planRow_111 (by decide) ?_
      refine lv_iconst (v := 3) hx hb dX12_planRow_112 (by decide) ?_
      refine lv_aload_n hx hb dX12_planRow_113 rfl (lv_at hl 1 rfl) ?_
      refine g_get (w := .int (i_t 41)) F hB 0 rfl fl_RX12_385 rfl dX12_planRow_114 ?_
      refine lv_imul hx hb dX12_planRow_117 ?_
      refine lv_iadd hx hb dX12_planRow_118 ?_
      refine lv_istore_n (lv' := [(2, .int ((1 : Int32) + ((3 : Int32) * (i_t 41)))), (1, .int y0), (0, .ref a_t)]) hx hb dX12_planRow_119 rfl hl (by decide) rfl (fun ls hl => ?_)
      refine lv_aload_n hx hb dX12_planRow_120 rfl (lv_at hl 2 rfl) ?_
      refine k_vv (wr := [((d_t 8), ai k 91 r_t_read)]) (rest := []) F hA hB (c_LongTrainModel_next l D k a_t d_t i_t j_t r_t_tape _  hf) ml_RX12_179 mv_yX12_next [0, 1] [2] rfl rfl (by decide) (by decide) (by decide) 0 rfl rfl rfl hl.1 rfl (Nat.le_of_ble_eq_true rfl) ⟨Nat.le_of_ble_eq_true rfl, Nat.le_of_ble_eq_true rfl⟩ ⟨Nat.le_of_ble_eq_true rfl, Nat.le_of_ble_eq_true rfl⟩ dX12_planRow_121 (fun w1 H locs hq hB => ?_)
      obtain ⟨i_t_13, j_t_14, rfl, hf⟩ := hq
      replace hB : Bd D A s.heap (wd_LongTrainModel_planRow k a_t d_t i_t_13 j_t_14 r_t_tape r_t_read) H locs := hB.sub [1, 2, 0] (by decide) rfl
      refine lv_aload_n hx hb dX12_planRow_124 rfl (lv_at hl 2 rfl) ?_
      refine g_get (w := .ref (d_t 8)) F hB 0 rfl fl_RX12_40 rfl dX12_planRow_125 ?_
      refine lv_iload_n hx hb dX12_planRow_128 rfl (lv_at hl 0 rfl) ?_
      refine lv_iload_n hx hb dX12_planRow_129 rfl (lv_at hl 1 rfl) ?_
      obtain ⟨h_15, hf⟩ := hf
      refine g_iast F hB 2 rfl h_15 (wd_LongTrainModel_planRow k a_t d_t i_t_13 j_t_14 r_t_tape (upd r_t_read (((1 : Int32) + ((3 : Int32) * (i_t 41)))).toNatClampNeg y0)) rfl dX12_planRow_130 (fun H locs hB => ?_)
      refine lv_aload_n hx hb dX12_planRow_131 rfl (lv_at hl 2 rfl) ?_
      refine g_get (w := .ref (d_t 8)) F hB 0 rfl fl_RX12_40 rfl dX12_planRow_132 ?_
      refine lv_iload_n hx hb dX12_planRow_135 rfl (lv_at hl 0 rfl) ?_
      refine lv_iconst (v := 1) hx hb dX12_planRow_136 (by decide) ?_
      refine lv_iadd hx hb dX12_planRow_137 ?_
      refine lv_iconst (v := 0) hx hb dX12_planRow_138 (by decide) ?_
      obtain ⟨h_16, hf⟩ := hf
      refine g_iast F hB 2 rfl h_16 (wd_LongTrainModel_planRow k a_t d_t i_t_13 j_t_14 r_t_tape (upd (upd r_t_read (((1 : Int32) + ((3 : Int32) * (i_t 41)))).toNatClampNeg y0) ((((1 : Int32) + ((3 : Int32) * (i_t 41))) + (1 : Int32))).toNatClampNeg (0 : Int32))) rfl dX12_planRow_139 (fun H locs hB => ?_)
      refine lv_aload_n hx hb dX12_planRow_140 rfl (lv_at hl 2 rfl) ?_
      refine g_get (w := .ref (d_t 8)) F hB 0 rfl fl_RX12_40 rfl dX12_planRow_141 ?_
      refine lv_iload_n hx hb dX12_planRow_144 rfl (lv_at hl 0 rfl) ?_
      refine lv_iconst (v := 2) hx hb dX12_planRow_145 (by decide) ?_
      refine lv_iadd hx hb dX12_planRow_146 ?_
      refine lv_iconst (v := 0) hx hb dX12_planRow_147 (by decide) ?_
      obtain ⟨h_17, hf⟩ := hf
      refine g_iast F hB 2 rfl h_17 (wd_LongTrainModel_planRow k a_t d_t i_t_13 j_t_14 r_t_tape (upd (upd (upd r_t_read (((1 : Int32) + ((3 : Int32) * (i_t 41)))).toNatClampNeg y0) ((((1 : Int32) + ((3 : Int32) * (i_t 41))) + (1 : Int32))).toNatClampNeg (0 : Int32)) ((((1 : Int32) + ((3 : Int32) * (i_t 41))) + (2 : Int32))).toNatClampNeg (0 : Int32))) rfl dX12_planRow_148 (fun H locs hB => ?_)
      refine lv_iload_n hx hb dX12_planRow_149 rfl (lv_at hl 1 rfl) ?_
      refine lv_iconst (v := 3) hx hb dX12_planRow_150 (by decide) ?_
      refine lv_icmp_eq (tgt := 159) hx hb dX12_planRow_151 (by decide) (fun c_38 => ?_) (fun c_38 => ?_)
      · replace hf := hf.1 c_38
        refine lv_iconst (v := 1) hx hb dX12_planRow_159 (by decide) ?_
        exact r_z F hr hlk hB (Or.inr rfl) ⟨Or.inr rfl, _, _, _, rfl, hf⟩ dX12_planRow_160
      · replace hf := hf.2 c_38
        refine lv_iload_n hx hb dX12_planRow_154 rfl (lv_at hl 1 rfl) ?_
        refine lv_iconst (v := 5) hx hb dX12_planRow_155 (by decide) ?_
        refine lv_icmp_ne (tgt := 161) hx hb dX12_planRow_156 (by decide) (fun c_37 => ?_) (fun c_37 => ?_)
        · replace hf := hf.1 c_37
          refine lv_iload_n hx hb dX12_planRow_161 rfl (lv_at hl 1 rfl) ?_
          refine lv_iconst (v := 2) hx hb dX12_planRow_162 (by decide) ?_
          refine lv_icmp_ge (tgt := 180) hx hb dX12_planRow_163 (by decide) (fun c_36 => ?_) (fun c_36 => ?_)
          · replace hf := hf.1 c_36
            refine lv_aload_n hx hb dX12_planRow_180 rfl (lv_at hl 2 rfl) ?_
            refine lv_iconst (v := 0) hx hb dX12_planRow_181 (by decide) ?_
            refine lv_bipush (v := 19) hx hb dX12_planRow_182 (by decide) ?_
            refine k_vi (wr := [((d_t 8), ai k 91 (upd (upd (upd r_t_read (((1 : Int32) + ((3 : Int32) * (i_t 41)))).toNatClampNeg y0) ((((1 : Int32) + ((3 : Int32) * (i_t 41))) + (1 : Int32))).toNatClampNeg (0 : Int32)) ((((1 : Int32) + ((3 : Int32) * (i_t 41))) + (2 : Int32))).toNatClampNeg (0 : Int32)))]) (rest := []) F hA hB (c_LongTrainModel_takes l D k a_t d_t i_t_13 j_t_14 r_t_tape (0 : Int32) (19 : Int32) _  hf) ml_RX12_216 mv_yX12_takes [0, 1] [2] rfl rfl (by decide) (by decide) (by decide) 0 rfl rfl rfl hl.1 rfl (Nat.le_of_ble_eq_true rfl) ⟨Nat.le_of_ble_eq_true rfl, Nat.le_of_ble_eq_true rfl⟩ ⟨Nat.le_of_ble_eq_true rfl, Nat.le_of_ble_eq_true rfl⟩ dX12_planRow_184 (fun z_20 w1 H locs hq hB => ?_)
            obtain ⟨h_21, i_t_18, j_t_19, rfl, hf⟩ := hq
            replace hB : Bd D A s.heap (wd_LongTrainModel_planRow k a_t d_t i_t_18 j_t_19 r_t_tape (upd (upd (upd r_t_read (((1 : Int32) + ((3 : Int32) * (i_t 41)))).toNatClampNeg y0) ((((1 : Int32) + ((3 : Int32) * (i_t 41))) + (1 : Int32))).toNatClampNeg (0 : Int32)) ((((1 : Int32) + ((3 : Int32) * (i_t 41))) + (2 : Int32))).toNatClampNeg (0 : Int32))) H locs := hB.sub [1, 2, 0] (by decide) rfl
            refine lv_if_ne (tgt := 192) hx hb dX12_planRow_187 (by decide) (fun c_30 => ?_) (fun c_30 => ?_)
            · replace hf := hf.1 c_30
              exact jt_LongTrainModel_planRow_192 F hr hlk hA _ _ _ _ _ _ _ _ hf hB (lv_sub hl [2, 1, 0] rfl)
            · replace hf := hf.2 c_30
              refine lv_iconst (v := 0) hx hb dX12_planRow_190 (by decide) ?_
              exact r_z F hr hlk hB (Or.inl rfl) ⟨Or.inl rfl, _, _, _, rfl, hf⟩ dX12_planRow_191
          · replace hf := hf.2 c_36
            refine lv_aload_n hx hb dX12_planRow_166 rfl (lv_at hl 2 rfl) ?_
            refine lv_iconst (v := 1) hx hb dX12_planRow_167 (by decide) ?_
            refine lv_sipush (v := 400) hx hb dX12_planRow_168 (by decide) ?_
            refine k_vi (wr := [((d_t 8), ai k 91 (upd (upd (upd r_t_read (((1 : Int32) + ((3 : Int32) * (i_t 41)))).toNatClampNeg y0) ((((1 : Int32) + ((3 : Int32) * (i_t 41))) + (1 : Int32))).toNatClampNeg (0 : Int32)) ((((1 : Int32) + ((3 : Int32) * (i_t 41))) + (2 : Int32))).toNatClampNeg (0 : Int32)))]) (rest := []) F hA hB (c_LongTrainModel_takes l D k a_t d_t i_t_13 j_t_14 r_t_tape (1 : Int32) (400 : Int32) _  hf) ml_RX12_216 mv_yX12_takes [0, 1] [2] rfl rfl (by decide) (by decide) (by decide) 0 rfl rfl rfl hl.1 rfl (Nat.le_of_ble_eq_true rfl) ⟨Nat.le_of_ble_eq_true rfl, Nat.le_of_ble_eq_true rfl⟩ ⟨Nat.le_of_ble_eq_true rfl, Nat.le_of_ble_eq_true rfl⟩ dX12_planRow_171 (fun z_33 w1 H locs hq hB => ?_)
            obtain ⟨h_34, i_t_31, j_t_32, rfl, hf⟩ := hq
            replace hB : Bd D A s.heap (wd_LongTrainModel_planRow k a_t d_t i_t_31 j_t_32 r_t_tape (upd (upd (upd r_t_read (((1 : Int32) + ((3 : Int32) * (i_t 41)))).toNatClampNeg y0) ((((1 : Int32) + ((3 : Int32) * (i_t 41))) + (1 : Int32))).toNatClampNeg (0 : Int32)) ((((1 : Int32) + ((3 : Int32) * (i_t 41))) + (2 : Int32))).toNatClampNeg (0 : Int32))) H locs := hB.sub [1, 2, 0] (by decide) rfl
            refine lv_if_ne (tgt := 192) hx hb dX12_planRow_174 (by decide) (fun c_35 => ?_) (fun c_35 => ?_)
            · replace hf := hf.1 c_35
              exact jt_LongTrainModel_planRow_192 F hr hlk hA _ _ _ _ _ _ _ _ hf hB (lv_sub hl [2, 1, 0] rfl)
            · replace hf := hf.2 c_35
              refine lv_goto (tgt := 190) hx hb dX12_planRow_177 (by decide) ?_
              refine lv_iconst (v := 0) hx hb dX12_planRow_190 (by decide) ?_
              exact r_z F hr hlk hB (Or.inl rfl) ⟨Or.inl rfl, _, _, _, rfl, hf⟩ dX12_planRow_191
        · replace hf := hf.2 c_37
          refine lv_iconst (v := 1) hx hb dX12_planRow_159 (by decide) ?_
          exact r_z F hr hlk hB (Or.inr rfl) ⟨Or.inr rfl, _, _, _, rfl, hf⟩ dX12_planRow_160
    · replace hf := hf.2 c_42
      refine lv_aload_n hx hb dX12_planRow_105 rfl (lv_at hl 1 rfl) ?_
      refine lv_iconst (v := 4) hx hb dX12_planRow_106 (by decide) ?_
      refine k_vi (wr := [((d_t 1), ab k 940 r_t_tape), ((d_t 8), ai k 91 r_t_read)]) (rest := []) F hA hB (c_LongTrainModel_bad l D k a_t d_t i_t j_t (4 : Int32) _  hf) ml_RX12_176 mv_yX12_bad [0] [1, 2] rfl rfl (by decide) (by decide) (by decide) 0 rfl rfl rfl hl.1 rfl (Nat.le_of_ble_eq_true rfl) ⟨Nat.le_of_ble_eq_true rfl, Nat.le_of_ble_eq_true rfl⟩ ⟨Nat.le_of_ble_eq_true rfl, Nat.le_of_ble_eq_true rfl⟩ dX12_planRow_107 (fun z_40 w1 H locs hq hB => ?_)
      obtain ⟨h_41, i_t_39, rfl, hf⟩ := hq
      replace hB : Bd D A s.heap (wd_LongTrainModel_planRow k a_t d_t i_t_39 j_t r_t_tape r_t_read) H locs := hB.sub [2, 0, 1] (by decide) rfl
      exact r_z F hr hlk hB (h_41) ⟨h_41, _, _, _, rfl, hf⟩ dX12_planRow_110
  · replace hf := hf.2 c_46
    refine lv_aload_n hx hb dX12_planRow_90 rfl (lv_at hl 1 rfl) ?_
    refine lv_iconst (v := 1) hx hb dX12_planRow_91 (by decide) ?_
    refine k_vi (wr := [((d_t 1), ab k 940 r_t_tape), ((d_t 8), ai k 91 r_t_read)]) (rest := []) F hA hB (c_LongTrainModel_bad l D k a_t d_t i_t j_t (1 : Int32) _  hf) ml_RX12_176 mv_yX12_bad [0] [1, 2] rfl rfl (by decide) (by decide) (by decide) 0 rfl rfl rfl hl.1 rfl (Nat.le_of_ble_eq_true rfl) ⟨Nat.le_of_ble_eq_true rfl, Nat.le_of_ble_eq_true rfl⟩ ⟨Nat.le_of_ble_eq_true rfl, Nat.le_of_ble_eq_true rfl⟩ dX12_planRow_92 (fun z_44 w1 H locs hq hB => ?_)
    obtain ⟨h_45, i_t_43, rfl, hf⟩ := hq
    replace hB : Bd D A s.heap (wd_LongTrainModel_planRow k a_t d_t i_t_43 j_t r_t_tape r_t_read) H locs := hB.sub [2, 0, 1] (by decide) rfl
    exact r_z F hr hlk hB (h_45) ⟨h_45, _, _, _, rfl, hf⟩ dX12_planRow_95

set_option maxRecDepth 100000 in
set_option maxHeartbeats 4000000 in
theorem c_LongTrainModel_planRow (l : Launch) (D : va_G) (k : Nat → ClassId) (a_t : Nat) (d_t : Nat → Nat) (i_t : Nat → Int32) (j_t : Nat → Int64) (r_t_tape : Nat → Int32) (r_t_read : Nat → Int32)  (Q : Int32 → (Nat → Int32) → (Nat → Int64) → (Nat → Int32) → Prop)  (hf : w_LongTrainModel_planRow i_t j_t r_t_tape r_t_read Q) : CtI l yX12_planRow cX12_planRow 3 (some .boolean) 3 65 0 0 D k [.ref a_t] (wd_LongTrainModel_planRow k a_t d_t i_t j_t r_t_tape r_t_read) (fun r w => (r = 0 ∨ r = 1) ∧ (∃ (i_t : Nat → Int32), ∃ (j_t : Nat → Int64), ∃ (r_t_read : Nat → Int32), w = (wd_LongTrainModel_planRow k a_t d_t i_t j_t r_t_tape r_t_read) ∧ Q r i_t j_t r_t_read)) := by
  refine CtI.of (by decide) (Nat.le_of_ble_eq_true rfl) ?_
  intro p e s m below meth c A F hr hlk hnm hA hB ls hl
  have hx := F.x
  have hb := F.b
  unfold w_LongTrainModel_planRow at hf
  replace hl : lv_has ls 3 [(0, .ref a_t)] := hl
  refine lv_aload_n hx hb dX12_planRow_0 rfl (lv_at hl 0 rfl) ?_
  refine lv_ldc2 (v := 26479) hx hb F.o (F.t _ cst_RX12_127) dX12_planRow_1 ?_
  refine k_vi (wr := [((d_t 1), ab k 940 r_t_tape), ((d_t 8), ai k 91 r_t_read)]) (rest := []) F hA hB (c_LongTrainModel_isWord l D k a_t d_t i_t j_t (26479 : Int64) _  hf) ml_RX12_197 mv_yX12_isWord [0] [1, 2] rfl rfl (by decide) (by decide) (by decide) 0 rfl rfl rfl hl.1 rfl (Nat.le_of_ble_eq_true rfl) ⟨Nat.le_of_ble_eq_true rfl, Nat.le_of_ble_eq_true rfl⟩ ⟨Nat.le_of_ble_eq_true rfl, Nat.le_of_ble_eq_true rfl⟩ dX12_planRow_4 (fun z_1 w1 H locs hq hB => ?_)
  obtain ⟨h_2, rfl, hf⟩ := hq
  replace hB : Bd D A s.heap (wd_LongTrainModel_planRow k a_t d_t i_t j_t r_t_tape r_t_read) H locs := hB.sub [2, 0, 1] (by decide) rfl
  refine lv_if_eq (tgt := 14) hx hb dX12_planRow_7 (by decide) (fun c_52 => ?_) (fun c_52 => ?_)
  · replace hf := hf.1 c_52
    refine lv_aload_n hx hb dX12_planRow_14 rfl (lv_at hl 0 rfl) ?_
    refine lv_ldc2 (v := 1935765092) hx hb F.o (F.t _ cst_RX12_119) dX12_planRow_15 ?_
    refine k_vi (wr := [((d_t 1), ab k 940 r_t_tape), ((d_t 8), ai k 91 r_t_read)]) (rest := []) F hA hB (c_LongTrainModel_isWord l D k a_t d_t i_t j_t (1935765092 : Int64) _  hf) ml_RX12_197 mv_yX12_isWord [0] [1, 2] rfl rfl (by decide) (by decide) (by decide) 0 rfl rfl rfl hl.1 rfl (Nat.le_of_ble_eq_true rfl) ⟨Nat.le_of_ble_eq_true rfl, Nat.le_of_ble_eq_true rfl⟩ ⟨Nat.le_of_ble_eq_true rfl, Nat.le_of_ble_eq_true rfl⟩ dX12_planRow_18 (fun z_3 w1 H locs hq hB => ?_)
    obtain ⟨h_4, rfl, hf⟩ := hq
    replace hB : Bd D A s.heap (wd_LongTrainModel_planRow k a_t d_t i_t j_t r_t_tape r_t_read) H locs := hB.sub [2, 0, 1] (by decide) rfl
    refine lv_if_eq (tgt := 28) hx hb dX12_planRow_21 (by decide) (fun c_51 => ?_) (fun c_51 => ?_)
    · replace hf := hf.1 c_51
      refine lv_aload_n hx hb dX12_planRow_28 rfl (lv_at hl 0 rfl) ?_
      refine lv_ldc2 (v := 1751477360) hx hb F.o (F.t _ cst_RX12_129) dX12_planRow_29 ?_
      refine k_vi (wr := [((d_t 1), ab k 940 r_t_tape), ((d_t 8), ai k 91 r_t_read)]) (rest := []) F hA hB (c_LongTrainModel_isWord l D k a_t d_t i_t j_t (1751477360 : Int64) _  hf) ml_RX12_197 mv_yX12_isWord [0] [1, 2] rfl rfl (by decide) (by decide) (by decide) 0 rfl rfl rfl hl.1 rfl (Nat.le_of_ble_eq_true rfl) ⟨Nat.le_of_ble_eq_true rfl, Nat.le_of_ble_eq_true rfl⟩ ⟨Nat.le_of_ble_eq_true rfl, Nat.le_of_ble_eq_true rfl⟩ dX12_planRow_32 (fun z_5 w1 H locs hq hB => ?_)
      obtain ⟨h_6, rfl, hf⟩ := hq
      replace hB : Bd D A s.heap (wd_LongTrainModel_planRow k a_t d_t i_t j_t r_t_tape r_t_read) H locs := hB.sub [2, 0, 1] (by decide) rfl
      refine lv_if_eq (tgt := 42) hx hb dX12_planRow_35 (by decide) (fun c_50 => ?_) (fun c_50 => ?_)
      · replace hf := hf.1 c_50
        refine lv_aload_n hx hb dX12_planRow_42 rfl (lv_at hl 0 rfl) ?_
        refine lv_ldc2 (v := 7300710) hx hb F.o (F.t _ cst_RX12_131) dX12_planRow_43 ?_
        refine k_vi (wr := [((d_t 1), ab k 940 r_t_tape), ((d_t 8), ai k 91 r_t_read)]) (rest := []) F hA hB (c_LongTrainModel_isWord l D k a_t d_t i_t j_t (7300710 : Int64) _  hf) ml_RX12_197 mv_yX12_isWord [0] [1, 2] rfl rfl (by decide) (by decide) (by decide) 0 rfl rfl rfl hl.1 rfl (Nat.le_of_ble_eq_true rfl) ⟨Nat.le_of_ble_eq_true rfl, Nat.le_of_ble_eq_true rfl⟩ ⟨Nat.le_of_ble_eq_true rfl, Nat.le_of_ble_eq_true rfl⟩ dX12_planRow_46 (fun z_7 w1 H locs hq hB => ?_)
        obtain ⟨h_8, rfl, hf⟩ := hq
        replace hB : Bd D A s.heap (wd_LongTrainModel_planRow k a_t d_t i_t j_t r_t_tape r_t_read) H locs := hB.sub [2, 0, 1] (by decide) rfl
        refine lv_if_eq (tgt := 56) hx hb dX12_planRow_49 (by decide) (fun c_49 => ?_) (fun c_49 => ?_)
        · replace hf := hf.1 c_49
          refine lv_aload_n hx hb dX12_planRow_56 rfl (lv_at hl 0 rfl) ?_
          refine lv_ldc2 (v := 6518132) hx hb F.o (F.t _ cst_RX12_133) dX12_planRow_57 ?_
          refine k_vi (wr := [((d_t 1), ab k 940 r_t_tape), ((d_t 8), ai k 91 r_t_read)]) (rest := []) F hA hB (c_LongTrainModel_isWord l D k a_t d_t i_t j_t (6518132 : Int64) _  hf) ml_RX12_197 mv_yX12_isWord [0] [1, 2] rfl rfl (by decide) (by decide) (by decide) 0 rfl rfl rfl hl.1 rfl (Nat.le_of_ble_eq_true rfl) ⟨Nat.le_of_ble_eq_true rfl, Nat.le_of_ble_eq_true rfl⟩ ⟨Nat.le_of_ble_eq_true rfl, Nat.le_of_ble_eq_true rfl⟩ dX12_planRow_60 (fun z_9 w1 H locs hq hB => ?_)
          obtain ⟨h_10, rfl, hf⟩ := hq
          replace hB : Bd D A s.heap (wd_LongTrainModel_planRow k a_t d_t i_t j_t r_t_tape r_t_read) H locs := hB.sub [2, 0, 1] (by decide) rfl
          refine lv_if_eq (tgt := 70) hx hb dX12_planRow_63 (by decide) (fun c_48 => ?_) (fun c_48 => ?_)
          · replace hf := hf.1 c_48
            refine lv_aload_n hx hb dX12_planRow_70 rfl (lv_at hl 0 rfl) ?_
            refine lv_ldc2 (v := 1919251316) hx hb F.o (F.t _ cst_RX12_135) dX12_planRow_71 ?_
            refine k_vi (wr := [((d_t 1), ab k 940 r_t_tape), ((d_t 8), ai k 91 r_t_read)]) (rest := []) F hA hB (c_LongTrainModel_isWord l D k a_t d_t i_t j_t (1919251316 : Int64) _  hf) ml_RX12_197 mv_yX12_isWord [0] [1, 2] rfl rfl (by decide) (by decide) (by decide) 0 rfl rfl rfl hl.1 rfl (Nat.le_of_ble_eq_true rfl) ⟨Nat.le_of_ble_eq_true rfl, Nat.le_of_ble_eq_true rfl⟩ ⟨Nat.le_of_ble_eq_true rfl, Nat.le_of_ble_eq_true rfl⟩ dX12_planRow_74 (fun z_11 w1 H locs hq hB => ?_)
            obtain ⟨h_12, rfl, hf⟩ := hq
            replace hB : Bd D A s.heap (wd_LongTrainModel_planRow k a_t d_t i_t j_t r_t_tape r_t_read) H locs := hB.sub [2, 0, 1] (by decide) rfl
            refine lv_if_eq (tgt := 84) hx hb dX12_planRow_77 (by decide) (fun c_47 => ?_) (fun c_47 => ?_)
            · replace hf := hf.1 c_47
              refine lv_iconst (v := -1) hx hb dX12_planRow_84 (by decide) ?_
              exact jt_LongTrainModel_planRow_85 F hr hlk hA _ _ _ _ _ _ _ hf hB (lv_sub hl [0] rfl)
            · replace hf := hf.2 c_47
              refine lv_iconst (v := 5) hx hb dX12_planRow_80 (by decide) ?_
              refine lv_goto (tgt := 85) hx hb dX12_planRow_81 (by decide) ?_
              exact jt_LongTrainModel_planRow_85 F hr hlk hA _ _ _ _ _ _ _ hf hB (lv_sub hl [0] rfl)
          · replace hf := hf.2 c_48
            refine lv_iconst (v := 4) hx hb dX12_planRow_66 (by decide) ?_
            refine lv_goto (tgt := 85) hx hb dX12_planRow_67 (by decide) ?_
            exact jt_LongTrainModel_planRow_85 F hr hlk hA _ _ _ _ _ _ _ hf hB (lv_sub hl [0] rfl)
        · replace hf := hf.2 c_49
          refine lv_iconst (v := 3) hx hb dX12_planRow_52 (by decide) ?_
          refine lv_goto (tgt := 85) hx hb dX12_planRow_53 (by decide) ?_
          exact jt_LongTrainModel_planRow_85 F hr hlk hA _ _ _ _ _ _ _ hf hB (lv_sub hl [0] rfl)
      · replace hf := hf.2 c_50
        refine lv_iconst (v := 2) hx hb dX12_planRow_38 (by decide) ?_
        refine lv_goto (tgt := 85) hx hb dX12_planRow_39 (by decide) ?_
        exact jt_LongTrainModel_planRow_85 F hr hlk hA _ _ _ _ _ _ _ hf hB (lv_sub hl [0] rfl)
    · replace hf := hf.2 c_51
      refine lv_iconst (v := 1) hx hb dX12_planRow_24 (by decide) ?_
      refine lv_goto (tgt := 85) hx hb dX12_planRow_25 (by decide) ?_
      exact jt_LongTrainModel_planRow_85 F hr hlk hA _ _ _ _ _ _ _ hf hB (lv_sub hl [0] rfl)
  · replace hf := hf.2 c_52
    refine lv_iconst (v := 0) hx hb dX12_planRow_10 (by decide) ?_
    refine lv_goto (tgt := 85) hx hb dX12_planRow_11 (by decide) ?_
    exact jt_LongTrainModel_planRow_85 F hr hlk hA _ _ _ _ _ _ _ hf hB (lv_sub hl [0] rfl)

/-! LongTrainModel.plan -/
set_option maxRecDepth 100000 in
set_option maxHeartbeats 4000000 in
theorem bt_LongTrainModel_plan_26 {p : Program} {l : Launch} {e : Env} {s : State} {m : MethodId} {below : List Frame} {meth : Method} {c : Code} {A : Nat → Prop} {D : va_G} {k : Nat → ClassId} {a_t : Nat} {d_t : Nat → Nat} {r_t_tape : Nat → Int32} {r_t_s : Nat → Int32}  {Q : Int32 → (Nat → Int32) → (Nat → Int64) → (Nat → Int32) → (Nat → Int32) → Prop}  {kx_26 : (Nat → Int32) → (Nat → Int64) → (Nat → Int32) → Prop} {kr_26 : (Nat → Int32) → (Nat → Int64) → (Nat → Int32) → Prop} (F : Fx p m c cX12_plan 2 s ([.ref a_t] : List Value).toArray RX12 D k) (hr : meth.sig.returnType = (some .int)) (hlk : meth.locks = false) (hA : ∀ q : Nat, s.heap.size ≤ q → A q) (hkx_26 : ∀ (i_t : Nat → Int32) (j_t : Nat → Int64) (r_t_read : Nat → Int32) (H : Heap) (locs : List Loc) (ls : Array Slot), kx_26 i_t j_t r_t_read → Bd D A s.heap (wd_LongTrainModel_plan k a_t d_t i_t j_t r_t_tape r_t_read r_t_s) H locs → lv_has ls 2 [(0, .ref a_t)] → W p l e { frames := 4, cells := 0, slots := 0, locals := 87 } s m ([.ref a_t] : List Value).toArray below meth c H locs 0 0 (Ei below (fun r w => ∃ (i_t : Nat → Int32), ∃ (j_t : Nat → Int64), ∃ (r_t_read : Nat → Int32), ∃ (r_t_s : Nat → Int32), w = (wd_LongTrainModel_plan k a_t d_t i_t j_t r_t_tape r_t_read r_t_s) ∧ Q r i_t j_t r_t_read r_t_s) D k A ([.ref a_t] : List Value).toArray s 0 0) (F0 m 69 ls [])) (hkr_26 : ∀ (i_t : Nat → Int32) (j_t : Nat → Int64) (r_t_read : Nat → Int32) (H : Heap) (locs : List Loc) (ls : Array Slot), kr_26 i_t j_t r_t_read → Bd D A s.heap (wd_LongTrainModel_plan k a_t d_t i_t j_t r_t_tape r_t_read r_t_s) H locs → lv_has ls 2 [(0, .ref a_t)] → W p l e { frames := 4, cells := 0, slots := 0, locals := 87 } s m ([.ref a_t] : List Value).toArray below meth c H locs 0 0 (Ei below (fun r w => ∃ (i_t : Nat → Int32), ∃ (j_t : Nat → Int64), ∃ (r_t_read : Nat → Int32), ∃ (r_t_s : Nat → Int32), w = (wd_LongTrainModel_plan k a_t d_t i_t j_t r_t_tape r_t_read r_t_s) ∧ Q r i_t j_t r_t_read r_t_s) D k A ([.ref a_t] : List Value).toArray s 0 0) (F0 m 26 ls [])) :
    ∀ (i_t : Nat → Int32) (j_t : Nat → Int64) (r_t_read : Nat → Int32) (H : Heap) (locs : List Loc) (ls : Array Slot), b_LongTrainModel_plan_26 r_t_tape r_t_s Q kx_26 kr_26 i_t j_t r_t_read → Bd D A s.heap (wd_LongTrainModel_plan k a_t d_t i_t j_t r_t_tape r_t_read r_t_s) H locs → lv_has ls 2 [(0, .ref a_t)] → W p l e { frames := 4, cells := 0, slots := 0, locals := 87 } s m ([.ref a_t] : List Value).toArray below meth c H locs 0 0 (Ei below (fun r w => ∃ (i_t : Nat → Int32), ∃ (j_t : Nat → Int64), ∃ (r_t_read : Nat → Int32), ∃ (r_t_s : Nat → Int32), w = (wd_LongTrainModel_plan k a_t d_t i_t j_t r_t_tape r_t_read r_t_s) ∧ Q r i_t j_t r_t_read r_t_s) D k A ([.ref a_t] : List Value).toArray s 0 0) (F0 m 26 ls []) := by
  have hx := F.x
  have hb := F.b
  intro i_t j_t r_t_read H locs ls hf hB hl
  unfold b_LongTrainModel_plan_26 at hf
  refine lv_aload_n hx hb dX12_plan_26 rfl (lv_at hl 0 rfl) ?_
  refine g_get (w := .int (i_t 11)) F hB 0 rfl fl_RX12_150 rfl dX12_plan_27 ?_
  refine lv_if_eq (tgt := 69) hx hb dX12_plan_30 (by decide) (fun c_15 => ?_) (fun c_15 => ?_)
  · replace hf := hf.1 c_15
    exact hkx_26 _ _ _ _ _ _ hf hB (lv_sub hl [0] rfl)
  · replace hf := hf.2 c_15
    refine lv_aload_n hx hb dX12_plan_33 rfl (lv_at hl 0 rfl) ?_
    refine k_vi (wr := [((d_t 6), ai k 1068 r_t_s)]) (rest := []) F hA hB (c_LongTrainModel_planRow l D k a_t d_t i_t j_t r_t_tape r_t_read _  hf) ml_RX12_388 mv_yX12_planRow [0, 1, 2] [3] rfl rfl (by decide) (by decide) (by decide) 0 rfl rfl rfl hl.1 rfl (Nat.le_of_ble_eq_true rfl) ⟨Nat.le_of_ble_eq_true rfl, Nat.le_of_ble_eq_true rfl⟩ ⟨Nat.le_of_ble_eq_true rfl, Nat.le_of_ble_eq_true rfl⟩ dX12_plan_34 (fun z_7 w1 H locs hq hB => ?_)
    obtain ⟨h_8, i_t_4, j_t_5, r_t_read_6, rfl, hf⟩ := hq
    replace hB : Bd D A s.heap (wd_LongTrainModel_plan k a_t d_t i_t_4 j_t_5 r_t_tape r_t_read_6 r_t_s) H locs := hB.sub [1, 2, 3, 0] (by decide) rfl
    refine lv_if_eq (tgt := 49) hx hb dX12_plan_37 (by decide) (fun c_14 => ?_) (fun c_14 => ?_)
    · replace hf := hf.1 c_14
      refine lv_iconst (v := -1) hx hb dX12_plan_49 (by decide) ?_
      refine lv_aload_n hx hb dX12_plan_50 rfl (lv_at hl 0 rfl) ?_
      refine g_get (w := .int (i_t_4 16)) F hB 0 rfl fl_RX12_170 rfl dX12_plan_51 ?_
      refine lv_isub hx hb dX12_plan_54 ?_
      exact r_i F hr hlk hB ⟨_, _, _, _, rfl, hf⟩ dX12_plan_55
    · replace hf := hf.2 c_14
      refine lv_aload_n hx hb dX12_plan_40 rfl (lv_at hl 0 rfl) ?_
      refine lv_bipush (v := 59) hx hb dX12_plan_41 (by decide) ?_
      refine k_vi (wr := [((d_t 8), ai k 91 r_t_read_6), ((d_t 6), ai k 1068 r_t_s)]) (rest := []) F hA hB (c_LongTrainModel_sign l D k a_t d_t i_t_4 j_t_5 r_t_tape (59 : Int32) _  hf) ml_RX12_247 mv_yX12_sign [0, 1] [2, 3] rfl rfl (by decide) (by decide) (by decide) 0 rfl rfl rfl hl.1 rfl (Nat.le_of_ble_eq_true rfl) ⟨Nat.le_of_ble_eq_true rfl, Nat.le_of_ble_eq_true rfl⟩ ⟨Nat.le_of_ble_eq_true rfl, Nat.le_of_ble_eq_true rfl⟩ dX12_plan_43 (fun z_11 w1 H locs hq hB => ?_)
      obtain ⟨h_12, i_t_9, j_t_10, rfl, hf⟩ := hq
      replace hB : Bd D A s.heap (wd_LongTrainModel_plan k a_t d_t i_t_9 j_t_10 r_t_tape r_t_read_6 r_t_s) H locs := hB.sub [2, 3, 0, 1] (by decide) rfl
      refine lv_if_ne (tgt := 56) hx hb dX12_plan_46 (by decide) (fun c_13 => ?_) (fun c_13 => ?_)
      · replace hf := hf.1 c_13
        refine lv_aload_n hx hb dX12_plan_56 rfl (lv_at hl 0 rfl) ?_
        refine lv_dup hx hb dX12_plan_57 rfl ?_
        refine g_get (w := .int (i_t_9 41)) F hB 0 rfl fl_RX12_385 rfl dX12_plan_58 ?_
        refine lv_iconst (v := 1) hx hb dX12_plan_61 (by decide) ?_
        refine lv_iadd hx hb dX12_plan_62 ?_
        refine g_puti F hB 0 rfl fl_RX12_385 rfl (wd_LongTrainModel_plan k a_t d_t (upd i_t_9 41 ((i_t_9 41) + (1 : Int32))) j_t_10 r_t_tape r_t_read_6 r_t_s) rfl dX12_plan_63 (fun H locs hB => ?_)
        refine lv_goto (tgt := 26) hx hb dX12_plan_66 (by decide) ?_
        exact hkr_26 _ _ _ _ _ _ hf hB (lv_sub hl [0] rfl)
      · replace hf := hf.2 c_13
        refine lv_iconst (v := -1) hx hb dX12_plan_49 (by decide) ?_
        refine lv_aload_n hx hb dX12_plan_50 rfl (lv_at hl 0 rfl) ?_
        refine g_get (w := .int (i_t_9 16)) F hB 0 rfl fl_RX12_170 rfl dX12_plan_51 ?_
        refine lv_isub hx hb dX12_plan_54 ?_
        exact r_i F hr hlk hB ⟨_, _, _, _, rfl, hf⟩ dX12_plan_55

set_option maxRecDepth 100000 in
set_option maxHeartbeats 4000000 in
theorem lt_LongTrainModel_plan_26 {p : Program} {l : Launch} {e : Env} {s : State} {m : MethodId} {below : List Frame} {meth : Method} {c : Code} {A : Nat → Prop} {D : va_G} {k : Nat → ClassId} {a_t : Nat} {d_t : Nat → Nat} {r_t_tape : Nat → Int32} {r_t_s : Nat → Int32}  {Q : Int32 → (Nat → Int32) → (Nat → Int64) → (Nat → Int32) → (Nat → Int32) → Prop}  {kx_26 : (Nat → Int32) → (Nat → Int64) → (Nat → Int32) → Prop} (F : Fx p m c cX12_plan 2 s ([.ref a_t] : List Value).toArray RX12 D k) (hr : meth.sig.returnType = (some .int)) (hlk : meth.locks = false) (hA : ∀ q : Nat, s.heap.size ≤ q → A q) (hkx_26 : ∀ (i_t : Nat → Int32) (j_t : Nat → Int64) (r_t_read : Nat → Int32) (H : Heap) (locs : List Loc) (ls : Array Slot), kx_26 i_t j_t r_t_read → Bd D A s.heap (wd_LongTrainModel_plan k a_t d_t i_t j_t r_t_tape r_t_read r_t_s) H locs → lv_has ls 2 [(0, .ref a_t)] → W p l e { frames := 4, cells := 0, slots := 0, locals := 87 } s m ([.ref a_t] : List Value).toArray below meth c H locs 0 0 (Ei below (fun r w => ∃ (i_t : Nat → Int32), ∃ (j_t : Nat → Int64), ∃ (r_t_read : Nat → Int32), ∃ (r_t_s : Nat → Int32), w = (wd_LongTrainModel_plan k a_t d_t i_t j_t r_t_tape r_t_read r_t_s) ∧ Q r i_t j_t r_t_read r_t_s) D k A ([.ref a_t] : List Value).toArray s 0 0) (F0 m 69 ls [])) :
    ∀ n : Nat, ∀ (i_t : Nat → Int32) (j_t : Nat → Int64) (r_t_read : Nat → Int32) (H : Heap) (locs : List Loc) (ls : Array Slot), lp_LongTrainModel_plan_26 r_t_tape r_t_s Q kx_26 n i_t j_t r_t_read → Bd D A s.heap (wd_LongTrainModel_plan k a_t d_t i_t j_t r_t_tape r_t_read r_t_s) H locs → lv_has ls 2 [(0, .ref a_t)] → W p l e { frames := 4, cells := 0, slots := 0, locals := 87 } s m ([.ref a_t] : List Value).toArray below meth c H locs 0 0 (Ei below (fun r w => ∃ (i_t : Nat → Int32), ∃ (j_t : Nat → Int64), ∃ (r_t_read : Nat → Int32), ∃ (r_t_s : Nat → Int32), w = (wd_LongTrainModel_plan k a_t d_t i_t j_t r_t_tape r_t_read r_t_s) ∧ Q r i_t j_t r_t_read r_t_s) D k A ([.ref a_t] : List Value).toArray s 0 0) (F0 m 26 ls []) := by
  intro n
  induction n with
  | zero => intro i_t j_t r_t_read H locs ls hf; exact absurd hf (fun h => h)
  | succ n ih => exact bt_LongTrainModel_plan_26 F hr hlk hA hkx_26 ih

set_option maxRecDepth 100000 in
set_option maxHeartbeats 4000000 in
theorem bt_LongTrainModel_plan_81 {p : Program} {l : Launch} {e : Env} {s : State} {m : MethodId} {below : List Frame} {meth : Method} {c : Code} {A : Nat → Prop} {D : va_G} {k : Nat → ClassId} {a_t : Nat} {d_t : Nat → Nat} {i_t : Nat → Int32} {j_t : Nat → Int64} {r_t_tape : Nat → Int32} {r_t_read : Nat → Int32}  {Q : Int32 → (Nat → Int32) → (Nat → Int64) → (Nat → Int32) → (Nat → Int32) → Prop}  {kx_81 : (Nat → Int32) → Prop} {kr_81 : (Int32) → (Nat → Int32) → Prop} (F : Fx p m c cX12_plan 2 s ([.ref a_t] : List Value).toArray RX12 D k) (hr : meth.sig.returnType = (some .int)) (hlk : meth.locks = false) (hA : ∀ q : Nat, s.heap.size ≤ q → A q) (hkx_81 : ∀ (r_t_s : Nat → Int32) (H : Heap) (locs : List Loc) (ls : Array Slot), kx_81 r_t_s → Bd D A s.heap (wd_LongTrainModel_plan k a_t d_t i_t j_t r_t_tape r_t_read r_t_s) H locs → lv_has ls 2 [(0, .ref a_t)] → W p l e { frames := 4, cells := 0, slots := 0, locals := 87 } s m ([.ref a_t] : List Value).toArray below meth c H locs 0 0 (Ei below (fun r w => ∃ (i_t : Nat → Int32), ∃ (j_t : Nat → Int64), ∃ (r_t_read : Nat → Int32), ∃ (r_t_s : Nat → Int32), w = (wd_LongTrainModel_plan k a_t d_t i_t j_t r_t_tape r_t_read r_t_s) ∧ Q r i_t j_t r_t_read r_t_s) D k A ([.ref a_t] : List Value).toArray s 0 0) (F0 m 113 ls [])) (hkr_81 : ∀ (x1 : Int32) (r_t_s : Nat → Int32) (H : Heap) (locs : List Loc) (ls : Array Slot), kr_81 x1 r_t_s → Bd D A s.heap (wd_LongTrainModel_plan k a_t d_t i_t j_t r_t_tape r_t_read r_t_s) H locs → lv_has ls 2 [(0, .ref a_t), (1, .int x1)] → W p l e { frames := 4, cells := 0, slots := 0, locals := 87 } s m ([.ref a_t] : List Value).toArray below meth c H locs 0 0 (Ei below (fun r w => ∃ (i_t : Nat → Int32), ∃ (j_t : Nat → Int64), ∃ (r_t_read : Nat → Int32), ∃ (r_t_s : Nat → Int32), w = (wd_LongTrainModel_plan k a_t d_t i_t j_t r_t_tape r_t_read r_t_s) ∧ Q r i_t j_t r_t_read r_t_s) D k A ([.ref a_t] : List Value).toArray s 0 0) (F0 m 81 ls [])) :
    ∀ (x1 : Int32) (r_t_s : Nat → Int32) (H : Heap) (locs : List Loc) (ls : Array Slot), b_LongTrainModel_plan_81 i_t r_t_read kx_81 kr_81 x1 r_t_s → Bd D A s.heap (wd_LongTrainModel_plan k a_t d_t i_t j_t r_t_tape r_t_read r_t_s) H locs → lv_has ls 2 [(0, .ref a_t), (1, .int x1)] → W p l e { frames := 4, cells := 0, slots := 0, locals := 87 } s m ([.ref a_t] : List Value).toArray below meth c H locs 0 0 (Ei below (fun r w => ∃ (i_t : Nat → Int32), ∃ (j_t : Nat → Int64), ∃ (r_t_read : Nat → Int32), ∃ (r_t_s : Nat → Int32), w = (wd_LongTrainModel_plan k a_t d_t i_t j_t r_t_tape r_t_read r_t_s) ∧ Q r i_t j_t r_t_read r_t_s) D k A ([.ref a_t] : List Value).toArray s 0 0) (F0 m 81 ls []) := by
  have hx := F.x
  have hb := F.b
  intro x1 r_t_s H locs ls hf hB hl
  unfold b_LongTrainModel_plan_81 at hf
  refine lv_iload_n hx hb dX12_plan_81 rfl (lv_at hl 1 rfl) ?_
  refine lv_iconst (v := 3) hx hb dX12_plan_82 (by decide) ?_
  refine lv_aload_n hx hb dX12_plan_83 rfl (lv_at hl 0 rfl) ?_
  refine g_get (w := .int (i_t 41)) F hB 0 rfl fl_RX12_385 rfl dX12_plan_84 ?_
  refine lv_imul hx hb dX12_plan_87 ?_
  refine lv_icmp_gt (tgt := 113) hx hb dX12_plan_88 (by decide) (fun c_22 => ?_) (fun c_22 => ?_)
  · replace hf := hf.1 c_22
    exact hkx_81 _ _ _ _ hf hB (lv_sub hl [0] rfl)
  · replace hf := hf.2 c_22
    refine lv_aload_n hx hb dX12_plan_91 rfl (lv_at hl 0 rfl) ?_
    refine g_get (w := .ref (d_t 6)) F hB 0 rfl fl_RX12_33 rfl dX12_plan_92 ?_
    refine lv_sipush (v := 977) hx hb dX12_plan_95 (by decide) ?_
    refine lv_iload_n hx hb dX12_plan_98 rfl (lv_at hl 1 rfl) ?_
    refine lv_iadd hx hb dX12_plan_99 ?_
    refine lv_aload_n hx hb dX12_plan_100 rfl (lv_at hl 0 rfl) ?_
    refine g_get (w := .ref (d_t 8)) F hB 0 rfl fl_RX12_40 rfl dX12_plan_101 ?_
    refine lv_iload_n hx hb dX12_plan_104 rfl (lv_at hl 1 rfl) ?_
    obtain ⟨h_20, hf⟩ := hf
    refine g_iald F hB 2 rfl h_20 dX12_plan_105 ?_
    obtain ⟨h_21, hf⟩ := hf
    refine g_iast F hB 3 rfl h_21 (wd_LongTrainModel_plan k a_t d_t i_t j_t r_t_tape r_t_read (upd r_t_s (((977 : Int32) + x1)).toNatClampNeg (r_t_read (x1).toNatClampNeg))) rfl dX12_plan_106 (fun H locs hB => ?_)
    refine lv_iinc (v := (x1 + 1)) (lv' := [(1, .int (x1 + 1)), (0, .ref a_t)]) (k := 1) hx hb dX12_plan_107 hl rfl rfl (by decide) rfl (fun ls hl => ?_)
    refine lv_goto (tgt := 81) hx hb dX12_plan_110 (by decide) ?_
    exact hkr_81 _ _ _ _ _ hf hB (lv_sub hl [1, 0] rfl)

set_option maxRecDepth 100000 in
set_option maxHeartbeats 4000000 in
theorem lt_LongTrainModel_plan_81 {p : Program} {l : Launch} {e : Env} {s : State} {m : MethodId} {below : List Frame} {meth : Method} {c : Code} {A : Nat → Prop} {D : va_G} {k : Nat → ClassId} {a_t : Nat} {d_t : Nat → Nat} {i_t : Nat → Int32} {j_t : Nat → Int64} {r_t_tape : Nat → Int32} {r_t_read : Nat → Int32}  {Q : Int32 → (Nat → Int32) → (Nat → Int64) → (Nat → Int32) → (Nat → Int32) → Prop}  {kx_81 : (Nat → Int32) → Prop} (F : Fx p m c cX12_plan 2 s ([.ref a_t] : List Value).toArray RX12 D k) (hr : meth.sig.returnType = (some .int)) (hlk : meth.locks = false) (hA : ∀ q : Nat, s.heap.size ≤ q → A q) (hkx_81 : ∀ (r_t_s : Nat → Int32) (H : Heap) (locs : List Loc) (ls : Array Slot), kx_81 r_t_s → Bd D A s.heap (wd_LongTrainModel_plan k a_t d_t i_t j_t r_t_tape r_t_read r_t_s) H locs → lv_has ls 2 [(0, .ref a_t)] → W p l e { frames := 4, cells := 0, slots := 0, locals := 87 } s m ([.ref a_t] : List Value).toArray below meth c H locs 0 0 (Ei below (fun r w => ∃ (i_t : Nat → Int32), ∃ (j_t : Nat → Int64), ∃ (r_t_read : Nat → Int32), ∃ (r_t_s : Nat → Int32), w = (wd_LongTrainModel_plan k a_t d_t i_t j_t r_t_tape r_t_read r_t_s) ∧ Q r i_t j_t r_t_read r_t_s) D k A ([.ref a_t] : List Value).toArray s 0 0) (F0 m 113 ls [])) :
    ∀ n : Nat, ∀ (x1 : Int32) (r_t_s : Nat → Int32) (H : Heap) (locs : List Loc) (ls : Array Slot), lp_LongTrainModel_plan_81 i_t r_t_read kx_81 n x1 r_t_s → Bd D A s.heap (wd_LongTrainModel_plan k a_t d_t i_t j_t r_t_tape r_t_read r_t_s) H locs → lv_has ls 2 [(0, .ref a_t), (1, .int x1)] → W p l e { frames := 4, cells := 0, slots := 0, locals := 87 } s m ([.ref a_t] : List Value).toArray below meth c H locs 0 0 (Ei below (fun r w => ∃ (i_t : Nat → Int32), ∃ (j_t : Nat → Int64), ∃ (r_t_read : Nat → Int32), ∃ (r_t_s : Nat → Int32), w = (wd_LongTrainModel_plan k a_t d_t i_t j_t r_t_tape r_t_read r_t_s) ∧ Q r i_t j_t r_t_read r_t_s) D k A ([.ref a_t] : List Value).toArray s 0 0) (F0 m 81 ls []) := by
  intro n
  induction n with
  | zero => intro x1 r_t_s H locs ls hf; exact absurd hf (fun h => h)
  | succ n ih => exact bt_LongTrainModel_plan_81 F hr hlk hA hkx_81 ih

set_option maxRecDepth 100000 in
set_option maxHeartbeats 4000000 in
theorem c_LongTrainModel_plan (l : Launch) (D : va_G) (k : Nat → ClassId) (a_t : Nat) (d_t : Nat → Nat) (i_t : Nat → Int32) (j_t : Nat → Int64) (r_t_tape : Nat → Int32) (r_t_read : Nat → Int32) (r_t_s : Nat → Int32)  (Q : Int32 → (Nat → Int32) → (Nat → Int64) → (Nat → Int32) → (Nat → Int32) → Prop)  (hf : w_LongTrainModel_plan i_t j_t r_t_tape r_t_read r_t_s Q) : CtI l yX12_plan cX12_plan 2 (some .int) 4 87 0 0 D k [.ref a_t] (wd_LongTrainModel_plan k a_t d_t i_t j_t r_t_tape r_t_read r_t_s) (fun r w => ∃ (i_t : Nat → Int32), ∃ (j_t : Nat → Int64), ∃ (r_t_read : Nat → Int32), ∃ (r_t_s : Nat → Int32), w = (wd_LongTrainModel_plan k a_t d_t i_t j_t r_t_tape r_t_read r_t_s) ∧ Q r i_t j_t r_t_read r_t_s) := by
  refine CtI.of (by decide) (Nat.le_of_ble_eq_true rfl) ?_
  intro p e s m below meth c A F hr hlk hnm hA hB ls hl
  have hx := F.x
  have hb := F.b
  unfold w_LongTrainModel_plan at hf
  replace hl : lv_has ls 2 [(0, .ref a_t)] := hl
  refine lv_aload_n hx hb dX12_plan_0 rfl (lv_at hl 0 rfl) ?_
  refine lv_iconst (v := 0) hx hb dX12_plan_1 (by decide) ?_
  refine g_puti F hB 0 rfl fl_RX12_1 rfl (wd_LongTrainModel_plan k a_t d_t (upd i_t 0 (0 : Int32)) j_t r_t_tape r_t_read r_t_s) rfl dX12_plan_2 (fun H locs hB => ?_)
  refine lv_aload_n hx hb dX12_plan_5 rfl (lv_at hl 0 rfl) ?_
  refine lv_sipush (v := 400) hx hb dX12_plan_6 (by decide) ?_
  refine k_vv (wr := [((d_t 1), ab k 940 r_t_tape), ((d_t 8), ai k 91 r_t_read), ((d_t 6), ai k 1068 r_t_s)]) (rest := []) F hA hB (c_LongTrainModel_taken l D k a_t d_t (upd i_t 0 (0 : Int32)) j_t (400 : Int32) _  hf) ml_RX12_238 mv_yX12_taken [0] [1, 2, 3] rfl rfl (by decide) (by decide) (by decide) 0 rfl rfl rfl hl.1 rfl (Nat.le_of_ble_eq_true rfl) ⟨Nat.le_of_ble_eq_true rfl, Nat.le_of_ble_eq_true rfl⟩ ⟨Nat.le_of_ble_eq_true rfl, Nat.le_of_ble_eq_true rfl⟩ dX12_plan_9 (fun w1 H locs hq hB => ?_)
  obtain ⟨i_t_1, rfl, hf⟩ := hq
  replace hB : Bd D A s.heap (wd_LongTrainModel_plan k a_t d_t i_t_1 j_t r_t_tape r_t_read r_t_s) H locs := hB.sub [3, 0, 1, 2] (by decide) rfl
  refine lv_aload_n hx hb dX12_plan_12 rfl (lv_at hl 0 rfl) ?_
  refine lv_iconst (v := 0) hx hb dX12_plan_13 (by decide) ?_
  refine g_puti F hB 0 rfl fl_RX12_167 rfl (wd_LongTrainModel_plan k a_t d_t (upd i_t_1 15 (0 : Int32)) j_t r_t_tape r_t_read r_t_s) rfl dX12_plan_14 (fun H locs hB => ?_)
  refine lv_aload_n hx hb dX12_plan_17 rfl (lv_at hl 0 rfl) ?_
  refine lv_iconst (v := 0) hx hb dX12_plan_18 (by decide) ?_
  refine g_puti F hB 0 rfl fl_RX12_385 rfl (wd_LongTrainModel_plan k a_t d_t (upd (upd i_t_1 15 (0 : Int32)) 41 (0 : Int32)) j_t r_t_tape r_t_read r_t_s) rfl dX12_plan_19 (fun H locs hB => ?_)
  refine lv_aload_n hx hb dX12_plan_22 rfl (lv_at hl 0 rfl) ?_
  refine k_vv (wr := [((d_t 8), ai k 91 r_t_read), ((d_t 6), ai k 1068 r_t_s)]) (rest := []) F hA hB (c_LongTrainModel_next l D k a_t d_t (upd (upd i_t_1 15 (0 : Int32)) 41 (0 : Int32)) j_t r_t_tape _  hf) ml_RX12_179 mv_yX12_next [0, 1] [2, 3] rfl rfl (by decide) (by decide) (by decide) 0 rfl rfl rfl hl.1 rfl (Nat.le_of_ble_eq_true rfl) ⟨Nat.le_of_ble_eq_true rfl, Nat.le_of_ble_eq_true rfl⟩ ⟨Nat.le_of_ble_eq_true rfl, Nat.le_of_ble_eq_true rfl⟩ dX12_plan_23 (fun w1 H locs hq hB => ?_)
  obtain ⟨i_t_2, j_t_3, rfl, hf⟩ := hq
  replace hB : Bd D A s.heap (wd_LongTrainModel_plan k a_t d_t i_t_2 j_t_3 r_t_tape r_t_read r_t_s) H locs := hB.sub [2, 3, 0, 1] (by decide) rfl
  obtain ⟨n_25, hf⟩ := hf
  refine lt_LongTrainModel_plan_26 F hr hlk hA (fun i_t_16 j_t_17 r_t_read_18 H locs ls hf hB hl => ?_) n_25 _ _ _ _ _ _ hf hB (lv_sub hl [0] rfl)
  refine lv_aload_n hx hb dX12_plan_69 rfl (lv_at hl 0 rfl) ?_
  refine g_get (w := .ref (d_t 8)) F hB 0 rfl fl_RX12_40 rfl dX12_plan_70 ?_
  refine lv_iconst (v := 0) hx hb dX12_plan_73 (by decide) ?_
  refine lv_aload_n hx hb dX12_plan_74 rfl (lv_at hl 0 rfl) ?_
  refine g_get (w := .int (i_t_16 41)) F hB 0 rfl fl_RX12_385 rfl dX12_plan_75 ?_
  refine g_iast F hB 2 rfl (vp_in_iff.mpr (by decide +kernel)) (wd_LongTrainModel_plan k a_t d_t i_t_16 j_t_17 r_t_tape (upd r_t_read_18 0 (i_t_16 41)) r_t_s) rfl dX12_plan_78 (fun H locs hB => ?_)
  refine lv_iconst (v := 0) hx hb dX12_plan_79 (by decide) ?_
  refine lv_istore_n (lv' := [(1, .int (0 : Int32)), (0, .ref a_t)]) hx hb dX12_plan_80 rfl hl (by decide) rfl (fun ls hl => ?_)
  obtain ⟨n_24, hf⟩ := hf
  refine lt_LongTrainModel_plan_81 F hr hlk hA (fun r_t_s_23 H locs ls hf hB hl => ?_) n_24 _ _ _ _ _ hf hB (lv_sub hl [1, 0] rfl)
  refine lv_aload_n hx hb dX12_plan_113 rfl (lv_at hl 0 rfl) ?_
  refine g_get (w := .int (i_t_16 41)) F hB 0 rfl fl_RX12_385 rfl dX12_plan_114 ?_
  exact r_i F hr hlk hB ⟨_, _, _, _, rfl, hf⟩ dX12_plan_117

/-! LongTrainModel.does -/
set_option maxRecDepth 100000 in
set_option maxHeartbeats 4000000 in
theorem c_LongTrainModel_does (l : Launch) (D : va_G) (k : Nat → ClassId) (a_t : Nat) (d_t : Nat → Nat) (i_t : Nat → Int32) (j_t : Nat → Int64) (r_t_s : Nat → Int32) (r_t_wagons : Nat → Int32) (r_t_foremost : Nat → Int32) (r_t_bears : Nat → Int32) (r_t_judgedAt : Nat → Int32) (n1 : Int32) (n2 : Int32) (n3 : Int32) (Q : Int32 → (Nat → Int32) → (Nat → Int32) → (Nat → Int32) → (Nat → Int32) → (Nat → Int32) → (Nat → Int32) → Prop)  (hf : w_LongTrainModel_does i_t r_t_s r_t_wagons r_t_foremost r_t_bears r_t_judgedAt n1 n2 n3 Q) : CtI l yX12_does cX12_does 4 (some .int) 5 114 0 0 D k [.ref a_t, .int n1, .int n2, .int n3] (wd_LongTrainModel_does k a_t d_t i_t j_t r_t_s r_t_wagons r_t_foremost r_t_bears r_t_judgedAt) (fun r w => ∃ (i_t : Nat → Int32), ∃ (r_t_s : Nat → Int32), ∃ (r_t_wagons : Nat → Int32), ∃ (r_t_foremost : Nat → Int32), ∃ (r_t_bears : Nat → Int32), ∃ (r_t_judgedAt : Nat → Int32), w = (wd_LongTrainModel_does k a_t d_t i_t j_t r_t_s r_t_wagons r_t_foremost r_t_bears r_t_judgedAt) ∧ Q r i_t r_t_s r_t_wagons r_t_foremost r_t_bears r_t_judgedAt) := by
  refine CtI.of (by decide) (Nat.le_of_ble_eq_true rfl) ?_
  intro p e s m below meth c A F hr hlk hnm hA hB ls hl
  have hx := F.x
  have hb := F.b
  unfold w_LongTrainModel_does at hf
  replace hl : lv_has ls 4 [(0, .ref a_t), (1, .int n1), (2, .int n2), (3, .int n3)] := hl
  refine lv_iload_n hx hb dX12_does_0 rfl (lv_at hl 1 rfl) ?_
  rcases Classical.em (n1 = 0) with c_1 | c_1
  · replace hf := hf.1 c_1
    refine lv_tableIn (tgt := 36) hx hb dX12_does_1 (by rw [c_1]; decide) (by rw [c_1]; decide) (by rw [c_1]; rfl) (by decide) ?_
    refine lv_aload_n hx hb dX12_does_36 rfl (lv_at hl 0 rfl) ?_
    refine lv_iload_n hx hb dX12_does_37 rfl (lv_at hl 2 rfl) ?_
    refine lv_iload_n hx hb dX12_does_38 rfl (lv_at hl 1 rfl) ?_
    refine k_vv (wr := [((d_t 42), ai k 6 r_t_judgedAt)]) (rest := []) F hA hB (c_LongTrainModel_moves l D k a_t d_t i_t j_t r_t_s r_t_wagons r_t_foremost r_t_bears n2 n1 _  hf) ml_RX12_382 mv_yX12_moves [0, 1, 2, 3, 4] [5] rfl rfl (by decide) (by decide) (by decide) 0 rfl rfl rfl hl.1 rfl (Nat.le_of_ble_eq_true rfl) ⟨Nat.le_of_ble_eq_true rfl, Nat.le_of_ble_eq_true rfl⟩ ⟨Nat.le_of_ble_eq_true rfl, Nat.le_of_ble_eq_true rfl⟩ dX12_does_39 (fun w1 H locs hq hB => ?_)
    obtain ⟨i_t_2, r_t_s_3, r_t_wagons_4, r_t_foremost_5, r_t_bears_6, rfl, hf⟩ := hq
    replace hB : Bd D A s.heap (wd_LongTrainModel_does k a_t d_t i_t_2 j_t r_t_s_3 r_t_wagons_4 r_t_foremost_5 r_t_bears_6 r_t_judgedAt) H locs := hB.sub [1, 2, 3, 4, 5, 0] (by decide) rfl
    refine lv_aload_n hx hb dX12_does_42 rfl (lv_at hl 0 rfl) ?_
    refine g_get (w := .ref (d_t 42)) F hB 0 rfl fl_RX12_89 rfl dX12_does_43 ?_
    refine lv_iconst (v := 1) hx hb dX12_does_46 (by decide) ?_
    refine lv_dup2_11 hx hb dX12_does_47 rfl rfl ?_
    refine g_iald F hB 5 rfl (vp_in_iff.mpr (by decide +kernel)) dX12_does_48 ?_
    refine W.eq (g2 := F0 m 49 ls [.int (r_t_judgedAt 1), .int (1 : Int32), .ref (d_t 42)]) rfl ?_
    refine lv_aload_n hx hb dX12_does_49 rfl (lv_at hl 0 rfl) ?_
    refine g_get (w := .int (i_t_2 39)) F hB 0 rfl fl_RX12_373 rfl dX12_does_50 ?_
    refine lv_iadd hx hb dX12_does_53 ?_
    refine g_iast F hB 5 rfl (vp_in_iff.mpr (by decide +kernel)) (wd_LongTrainModel_does k a_t d_t i_t_2 j_t r_t_s_3 r_t_wagons_4 r_t_foremost_5 r_t_bears_6 (upd r_t_judgedAt 1 ((r_t_judgedAt 1) + (i_t_2 39)))) rfl dX12_does_54 (fun H locs hB => ?_)
    refine lv_aload_n hx hb dX12_does_55 rfl (lv_at hl 0 rfl) ?_
    refine g_get (w := .ref (d_t 42)) F hB 0 rfl fl_RX12_89 rfl dX12_does_56 ?_
    refine lv_iconst (v := 2) hx hb dX12_does_59 (by decide) ?_
    refine lv_dup2_11 hx hb dX12_does_60 rfl rfl ?_
    refine g_iald F hB 5 rfl (vp_in_iff.mpr (by decide +kernel)) dX12_does_61 ?_
    refine W.eq (g2 := F0 m 62 ls [.int ((upd r_t_judgedAt 1 ((r_t_judgedAt 1) + (i_t_2 39))) 2), .int (2 : Int32), .ref (d_t 42)]) rfl ?_
    refine lv_iload_n hx hb dX12_does_62 rfl (lv_at hl 1 rfl) ?_
    refine lv_iconst (v := 1) hx hb dX12_does_63 (by decide) ?_
    refine lv_icmp_ne (tgt := 74) hx hb dX12_does_64 (by decide) (fun c_12 => ?_) (fun c_12 => ?_)
    · replace hf := hf.1 c_12
      refine lv_iconst (v := 0) hx hb dX12_does_74 (by decide) ?_
      refine lv_iadd hx hb dX12_does_75 ?_
      refine g_iast F hB 5 rfl (vp_in_iff.mpr (by decide +kernel)) (wd_LongTrainModel_does k a_t d_t i_t_2 j_t r_t_s_3 r_t_wagons_4 r_t_foremost_5 r_t_bears_6 (upd (upd r_t_judgedAt 1 ((r_t_judgedAt 1) + (i_t_2 39))) 2 (((upd r_t_judgedAt 1 ((r_t_judgedAt 1) + (i_t_2 39))) 2) + (0 : Int32)))) rfl dX12_does_76 (fun H locs hB => ?_)
      refine lv_aload_n hx hb dX12_does_77 rfl (lv_at hl 0 rfl) ?_
      refine g_get (w := .int (i_t_2 40)) F hB 0 rfl fl_RX12_376 rfl dX12_does_78 ?_
      exact r_i F hr hlk hB ⟨_, _, _, _, _, _, rfl, hf⟩ dX12_does_81
    · replace hf := hf.2 c_12
      refine lv_aload_n hx hb dX12_does_67 rfl (lv_at hl 0 rfl) ?_
      refine g_get (w := .int (i_t_2 39)) F hB 0 rfl fl_RX12_373 rfl dX12_does_68 ?_
      refine lv_goto (tgt := 75) hx hb dX12_does_71 (by decide) ?_
      refine lv_iadd hx hb dX12_does_75 ?_
      refine g_iast F hB 5 rfl (vp_in_iff.mpr (by decide +kernel)) (wd_LongTrainModel_does k a_t d_t i_t_2 j_t r_t_s_3 r_t_wagons_4 r_t_foremost_5 r_t_bears_6 (upd (upd r_t_judgedAt 1 ((r_t_judgedAt 1) + (i_t_2 39))) 2 (((upd r_t_judgedAt 1 ((r_t_judgedAt 1) + (i_t_2 39))) 2) + (i_t_2 39)))) rfl dX12_does_76 (fun H locs hB => ?_)
      refine lv_aload_n hx hb dX12_does_77 rfl (lv_at hl 0 rfl) ?_
      refine g_get (w := .int (i_t_2 40)) F hB 0 rfl fl_RX12_376 rfl dX12_does_78 ?_
      exact r_i F hr hlk hB ⟨_, _, _, _, _, _, rfl, hf⟩ dX12_does_81
  · replace hf := hf.2 c_1
    rcases Classical.em (n1 = 1) with c_13 | c_13
    · replace hf := hf.1 c_13
      refine lv_tableIn (tgt := 36) hx hb dX12_does_1 (by rw [c_13]; decide) (by rw [c_13]; decide) (by rw [c_13]; rfl) (by decide) ?_
      refine lv_aload_n hx hb dX12_does_36 rfl (lv_at hl 0 rfl) ?_
      refine lv_iload_n hx hb dX12_does_37 rfl (lv_at hl 2 rfl) ?_
      refine lv_iload_n hx hb dX12_does_38 rfl (lv_at hl 1 rfl) ?_
      refine k_vv (wr := [((d_t 42), ai k 6 r_t_judgedAt)]) (rest := []) F hA hB (c_LongTrainModel_moves l D k a_t d_t i_t j_t r_t_s r_t_wagons r_t_foremost r_t_bears n2 n1 _  hf) ml_RX12_382 mv_yX12_moves [0, 1, 2, 3, 4] [5] rfl rfl (by decide) (by decide) (by decide) 0 rfl rfl rfl hl.1 rfl (Nat.le_of_ble_eq_true rfl) ⟨Nat.le_of_ble_eq_true rfl, Nat.le_of_ble_eq_true rfl⟩ ⟨Nat.le_of_ble_eq_true rfl, Nat.le_of_ble_eq_true rfl⟩ dX12_does_39 (fun w1 H locs hq hB => ?_)
      obtain ⟨i_t_14, r_t_s_15, r_t_wagons_16, r_t_foremost_17, r_t_bears_18, rfl, hf⟩ := hq
      replace hB : Bd D A s.heap (wd_LongTrainModel_does k a_t d_t i_t_14 j_t r_t_s_15 r_t_wagons_16 r_t_foremost_17 r_t_bears_18 r_t_judgedAt) H locs := hB.sub [1, 2, 3, 4, 5, 0] (by decide) rfl
      refine lv_aload_n hx hb dX12_does_42 rfl (lv_at hl 0 rfl) ?_
      refine g_get (w := .ref (d_t 42)) F hB 0 rfl fl_RX12_89 rfl dX12_does_43 ?_
      refine lv_iconst (v := 1) hx hb dX12_does_46 (by decide) ?_
      refine lv_dup2_11 hx hb dX12_does_47 rfl rfl ?_
      refine g_iald F hB 5 rfl (vp_in_iff.mpr (by decide +kernel)) dX12_does_48 ?_
      refine W.eq (g2 := F0 m 49 ls [.int (r_t_judgedAt 1), .int (1 : Int32), .ref (d_t 42)]) rfl ?_
      refine lv_aload_n hx hb dX12_does_49 rfl (lv_at hl 0 rfl) ?_
      refine g_get (w := .int (i_t_14 39)) F hB 0 rfl fl_RX12_373 rfl dX12_does_50 ?_
      refine lv_iadd hx hb dX12_does_53 ?_
      refine g_iast F hB 5 rfl (vp_in_iff.mpr (by decide +kernel)) (wd_LongTrainModel_does k a_t d_t i_t_14 j_t r_t_s_15 r_t_wagons_16 r_t_foremost_17 r_t_bears_18 (upd r_t_judgedAt 1 ((r_t_judgedAt 1) + (i_t_14 39)))) rfl dX12_does_54 (fun H locs hB => ?_)
      refine lv_aload_n hx hb dX12_does_55 rfl (lv_at hl 0 rfl) ?_
      refine g_get (w := .ref (d_t 42)) F hB 0 rfl fl_RX12_89 rfl dX12_does_56 ?_
      refine lv_iconst (v := 2) hx hb dX12_does_59 (by decide) ?_
      refine lv_dup2_11 hx hb dX12_does_60 rfl rfl ?_
      refine g_iald F hB 5 rfl (vp_in_iff.mpr (by decide +kernel)) dX12_does_61 ?_
      refine W.eq (g2 := F0 m 62 ls [.int ((upd r_t_judgedAt 1 ((r_t_judgedAt 1) + (i_t_14 39))) 2), .int (2 : Int32), .ref (d_t 42)]) rfl ?_
      refine lv_iload_n hx hb dX12_does_62 rfl (lv_at hl 1 rfl) ?_
      refine lv_iconst (v := 1) hx hb dX12_does_63 (by decide) ?_
      refine lv_icmp_ne (tgt := 74) hx hb dX12_does_64 (by decide) (fun c_24 => ?_) (fun c_24 => ?_)
      · replace hf := hf.1 c_24
        refine lv_iconst (v := 0) hx hb dX12_does_74 (by decide) ?_
        refine lv_iadd hx hb dX12_does_75 ?_
        refine g_iast F hB 5 rfl (vp_in_iff.mpr (by decide +kernel)) (wd_LongTrainModel_does k a_t d_t i_t_14 j_t r_t_s_15 r_t_wagons_16 r_t_foremost_17 r_t_bears_18 (upd (upd r_t_judgedAt 1 ((r_t_judgedAt 1) + (i_t_14 39))) 2 (((upd r_t_judgedAt 1 ((r_t_judgedAt 1) + (i_t_14 39))) 2) + (0 : Int32)))) rfl dX12_does_76 (fun H locs hB => ?_)
        refine lv_aload_n hx hb dX12_does_77 rfl (lv_at hl 0 rfl) ?_
        refine g_get (w := .int (i_t_14 40)) F hB 0 rfl fl_RX12_376 rfl dX12_does_78 ?_
        exact r_i F hr hlk hB ⟨_, _, _, _, _, _, rfl, hf⟩ dX12_does_81
      · replace hf := hf.2 c_24
        refine lv_aload_n hx hb dX12_does_67 rfl (lv_at hl 0 rfl) ?_
        refine g_get (w := .int (i_t_14 39)) F hB 0 rfl fl_RX12_373 rfl dX12_does_68 ?_
        refine lv_goto (tgt := 75) hx hb dX12_does_71 (by decide) ?_
        refine lv_iadd hx hb dX12_does_75 ?_
        refine g_iast F hB 5 rfl (vp_in_iff.mpr (by decide +kernel)) (wd_LongTrainModel_does k a_t d_t i_t_14 j_t r_t_s_15 r_t_wagons_16 r_t_foremost_17 r_t_bears_18 (upd (upd r_t_judgedAt 1 ((r_t_judgedAt 1) + (i_t_14 39))) 2 (((upd r_t_judgedAt 1 ((r_t_judgedAt 1) + (i_t_14 39))) 2) + (i_t_14 39)))) rfl dX12_does_76 (fun H locs hB => ?_)
        refine lv_aload_n hx hb dX12_does_77 rfl (lv_at hl 0 rfl) ?_
        refine g_get (w := .int (i_t_14 40)) F hB 0 rfl fl_RX12_376 rfl dX12_does_78 ?_
        exact r_i F hr hlk hB ⟨_, _, _, _, _, _, rfl, hf⟩ dX12_does_81
    · replace hf := hf.2 c_13
      rcases Classical.em (n1 = 2) with c_25 | c_25
      · replace hf := hf.1 c_25
        refine lv_tableIn (tgt := 82) hx hb dX12_does_1 (by rw [c_25]; decide) (by rw [c_25]; decide) (by rw [c_25]; rfl) (by decide) ?_
        refine lv_iload_n hx hb dX12_does_82 rfl (lv_at hl 2 rfl) ?_
        refine lv_aload_n hx hb dX12_does_83 rfl (lv_at hl 0 rfl) ?_
        refine g_get (w := .ref (d_t 6)) F hB 0 rfl fl_RX12_33 rfl dX12_does_84 ?_
        refine lv_sipush (v := 484) hx hb dX12_does_87 (by decide) ?_
        refine g_iald F hB 1 rfl (vp_in_iff.mpr (by decide +kernel)) dX12_does_90 ?_
        refine W.eq (g2 := F0 m 91 ls [.int (r_t_s 484), .int n2]) rfl ?_
        refine lv_icmp_lt (tgt := 96) hx hb dX12_does_91 (by decide) (fun c_35 => ?_) (fun c_35 => ?_)
        · replace hf := hf.1 c_35
          refine lv_aload_n hx hb dX12_does_96 rfl (lv_at hl 0 rfl) ?_
          refine g_get (w := .ref (d_t 6)) F hB 0 rfl fl_RX12_33 rfl dX12_does_97 ?_
          refine lv_sipush (v := 486) hx hb dX12_does_100 (by decide) ?_
          refine g_iald F hB 1 rfl (vp_in_iff.mpr (by decide +kernel)) dX12_does_103 ?_
          refine W.eq (g2 := F0 m 104 ls [.int (r_t_s 486)]) rfl ?_
          refine lv_iconst (v := 4) hx hb dX12_does_104 (by decide) ?_
          refine lv_icmp_ne (tgt := 110) hx hb dX12_does_105 (by decide) (fun c_34 => ?_) (fun c_34 => ?_)
          · replace hf := hf.1 c_34
            refine lv_aload_n hx hb dX12_does_110 rfl (lv_at hl 0 rfl) ?_
            refine g_get (w := .ref (d_t 6)) F hB 0 rfl fl_RX12_33 rfl dX12_does_111 ?_
            refine lv_sipush (v := 487) hx hb dX12_does_114 (by decide) ?_
            refine lv_aload_n hx hb dX12_does_117 rfl (lv_at hl 0 rfl) ?_
            refine g_get (w := .ref (d_t 6)) F hB 0 rfl fl_RX12_33 rfl dX12_does_118 ?_
            refine lv_sipush (v := 486) hx hb dX12_does_121 (by decide) ?_
            refine g_iald F hB 1 rfl (vp_in_iff.mpr (by decide +kernel)) dX12_does_124 ?_
            refine W.eq (g2 := F0 m 125 ls [.int (r_t_s 486), .int (487 : Int32), .ref (d_t 6)]) rfl ?_
            refine lv_iadd hx hb dX12_does_125 ?_
            refine lv_iload_n hx hb dX12_does_126 rfl (lv_at hl 2 rfl) ?_
            obtain ⟨h_29, hf⟩ := hf
            refine g_iast F hB 1 rfl h_29 (wd_LongTrainModel_does k a_t d_t i_t j_t (upd r_t_s (((487 : Int32) + (r_t_s 486))).toNatClampNeg n2) r_t_wagons r_t_foremost r_t_bears r_t_judgedAt) rfl dX12_does_127 (fun H locs hB => ?_)
            refine lv_aload_n hx hb dX12_does_128 rfl (lv_at hl 0 rfl) ?_
            refine g_get (w := .ref (d_t 6)) F hB 0 rfl fl_RX12_33 rfl dX12_does_129 ?_
            refine lv_sipush (v := 491) hx hb dX12_does_132 (by decide) ?_
            refine lv_aload_n hx hb dX12_does_135 rfl (lv_at hl 0 rfl) ?_
            refine g_get (w := .ref (d_t 6)) F hB 0 rfl fl_RX12_33 rfl dX12_does_136 ?_
            refine lv_sipush (v := 486) hx hb dX12_does_139 (by decide) ?_
            refine g_iald F hB 1 rfl (vp_in_iff.mpr (by decide +kernel)) dX12_does_142 ?_
            refine W.eq (g2 := F0 m 143 ls [.int ((upd r_t_s (((487 : Int32) + (r_t_s 486))).toNatClampNeg n2) 486), .int (491 : Int32), .ref (d_t 6)]) rfl ?_
            refine lv_iadd hx hb dX12_does_143 ?_
            refine lv_iload_n hx hb dX12_does_144 rfl (lv_at hl 3 rfl) ?_
            obtain ⟨h_31, hf⟩ := hf
            refine g_iast F hB 1 rfl h_31 (wd_LongTrainModel_does k a_t d_t i_t j_t (upd (upd r_t_s (((487 : Int32) + (r_t_s 486))).toNatClampNeg n2) (((491 : Int32) + ((upd r_t_s (((487 : Int32) + (r_t_s 486))).toNatClampNeg n2) 486))).toNatClampNeg n3) r_t_wagons r_t_foremost r_t_bears r_t_judgedAt) rfl dX12_does_145 (fun H locs hB => ?_)
            refine lv_aload_n hx hb dX12_does_146 rfl (lv_at hl 0 rfl) ?_
            refine g_get (w := .ref (d_t 6)) F hB 0 rfl fl_RX12_33 rfl dX12_does_147 ?_
            refine lv_sipush (v := 486) hx hb dX12_does_150 (by decide) ?_
            refine lv_dup2_11 hx hb dX12_does_153 rfl rfl ?_
            refine g_iald F hB 1 rfl (vp_in_iff.mpr (by decide +kernel)) dX12_does_154 ?_
            refine W.eq (g2 := F0 m 155 ls [.int ((upd (upd r_t_s (((487 : Int32) + (r_t_s 486))).toNatClampNeg n2) (((491 : Int32) + ((upd r_t_s (((487 : Int32) + (r_t_s 486))).toNatClampNeg n2) 486))).toNatClampNeg n3) 486), .int (486 : Int32), .ref (d_t 6)]) rfl ?_
            refine lv_iconst (v := 1) hx hb dX12_does_155 (by decide) ?_
            refine lv_iadd hx hb dX12_does_156 ?_
            refine g_iast F hB 1 rfl (vp_in_iff.mpr (by decide +kernel)) (wd_LongTrainModel_does k a_t d_t i_t j_t (upd (upd (upd r_t_s (((487 : Int32) + (r_t_s 486))).toNatClampNeg n2) (((491 : Int32) + ((upd r_t_s (((487 : Int32) + (r_t_s 486))).toNatClampNeg n2) 486))).toNatClampNeg n3) 486 (((upd (upd r_t_s (((487 : Int32) + (r_t_s 486))).toNatClampNeg n2) (((491 : Int32) + ((upd r_t_s (((487 : Int32) + (r_t_s 486))).toNatClampNeg n2) 486))).toNatClampNeg n3) 486) + (1 : Int32))) r_t_wagons r_t_foremost r_t_bears r_t_judgedAt) rfl dX12_does_157 (fun H locs hB => ?_)
            refine lv_iconst (v := 0) hx hb dX12_does_158 (by decide) ?_
            exact r_i F hr hlk hB ⟨_, _, _, _, _, _, rfl, hf⟩ dX12_does_159
          · replace hf := hf.2 c_34
            refine lv_iconst (v := 5) hx hb dX12_does_108 (by decide) ?_
            exact r_i F hr hlk hB ⟨_, _, _, _, _, _, rfl, hf⟩ dX12_does_109
        · replace hf := hf.2 c_35
          refine lv_iconst (v := 3) hx hb dX12_does_94 (by decide) ?_
          exact r_i F hr hlk hB ⟨_, _, _, _, _, _, rfl, hf⟩ dX12_does_95
      · replace hf := hf.2 c_25
        rcases Classical.em (n1 = 3) with c_36 | c_36
        · replace hf := hf.1 c_36
          refine lv_tableIn (tgt := 160) hx hb dX12_does_1 (by rw [c_36]; decide) (by rw [c_36]; decide) (by rw [c_36]; rfl) (by decide) ?_
          refine lv_aload_n hx hb dX12_does_160 rfl (lv_at hl 0 rfl) ?_
          refine g_get (w := .ref (d_t 6)) F hB 0 rfl fl_RX12_33 rfl dX12_does_161 ?_
          refine lv_sipush (v := 486) hx hb dX12_does_164 (by decide) ?_
          refine g_iald F hB 1 rfl (vp_in_iff.mpr (by decide +kernel)) dX12_does_167 ?_
          refine W.eq (g2 := F0 m 168 ls [.int (r_t_s 486)]) rfl ?_
          refine lv_if_ne (tgt := 173) hx hb dX12_does_168 (by decide) (fun c_39 => ?_) (fun c_39 => ?_)
          · replace hf := hf.1 c_39
            refine lv_aload_n hx hb dX12_does_173 rfl (lv_at hl 0 rfl) ?_
            refine g_get (w := .ref (d_t 6)) F hB 0 rfl fl_RX12_33 rfl dX12_does_174 ?_
            refine lv_sipush (v := 486) hx hb dX12_does_177 (by decide) ?_
            refine lv_iconst (v := 0) hx hb dX12_does_180 (by decide) ?_
            refine g_iast F hB 1 rfl (vp_in_iff.mpr (by decide +kernel)) (wd_LongTrainModel_does k a_t d_t i_t j_t (upd r_t_s 486 (0 : Int32)) r_t_wagons r_t_foremost r_t_bears r_t_judgedAt) rfl dX12_does_181 (fun H locs hB => ?_)
            refine lv_iconst (v := 0) hx hb dX12_does_182 (by decide) ?_
            exact r_i F hr hlk hB ⟨_, _, _, _, _, _, rfl, hf⟩ dX12_does_183
          · replace hf := hf.2 c_39
            refine lv_iconst (v := 4) hx hb dX12_does_171 (by decide) ?_
            exact r_i F hr hlk hB ⟨_, _, _, _, _, _, rfl, hf⟩ dX12_does_172
        · replace hf := hf.2 c_36
          rcases Classical.em (n1 = 4) with c_40 | c_40
          · replace hf := hf.1 c_40
            refine lv_tableIn (tgt := 184) hx hb dX12_does_1 (by rw [c_40]; decide) (by rw [c_40]; decide) (by rw [c_40]; rfl) (by decide) ?_
            refine lv_iload_n hx hb dX12_does_184 rfl (lv_at hl 2 rfl) ?_
            refine lv_aload_n hx hb dX12_does_185 rfl (lv_at hl 0 rfl) ?_
            refine g_get (w := .ref (d_t 6)) F hB 0 rfl fl_RX12_33 rfl dX12_does_186 ?_
            refine lv_sipush (v := 484) hx hb dX12_does_189 (by decide) ?_
            refine g_iald F hB 1 rfl (vp_in_iff.mpr (by decide +kernel)) dX12_does_192 ?_
            refine W.eq (g2 := F0 m 193 ls [.int (r_t_s 484), .int n2]) rfl ?_
            refine lv_icmp_lt (tgt := 198) hx hb dX12_does_193 (by decide) (fun c_48 => ?_) (fun c_48 => ?_)
            · replace hf := hf.1 c_48
              refine lv_aload_n hx hb dX12_does_198 rfl (lv_at hl 0 rfl) ?_
              refine lv_aload_n hx hb dX12_does_199 rfl (lv_at hl 0 rfl) ?_
              refine g_get (w := .ref (d_t 6)) F hB 0 rfl fl_RX12_33 rfl dX12_does_200 ?_
              refine lv_sipush (v := 483) hx hb dX12_does_203 (by decide) ?_
              refine g_iald F hB 1 rfl (vp_in_iff.mpr (by decide +kernel)) dX12_does_206 ?_
              refine W.eq (g2 := F0 m 207 ls [.int (r_t_s 483), .ref a_t]) rfl ?_
              refine k_vv (wr := [((d_t 42), ai k 6 r_t_judgedAt)]) (rest := []) F hA hB (c_LongTrainModel_nowStands l D k a_t d_t i_t j_t r_t_s r_t_wagons r_t_foremost r_t_bears (r_t_s 483) _  hf) ml_RX12_361 mv_yX12_nowStands [0, 1, 2, 3, 4] [5] rfl rfl (by decide) (by decide) (by decide) 0 rfl rfl rfl hl.1 rfl (Nat.le_of_ble_eq_true rfl) ⟨Nat.le_of_ble_eq_true rfl, Nat.le_of_ble_eq_true rfl⟩ ⟨Nat.le_of_ble_eq_true rfl, Nat.le_of_ble_eq_true rfl⟩ dX12_does_207 (fun w1 H locs hq hB => ?_)
              obtain ⟨i_t_43, r_t_wagons_44, r_t_foremost_45, r_t_bears_46, rfl, hf⟩ := hq
              replace hB : Bd D A s.heap (wd_LongTrainModel_does k a_t d_t i_t_43 j_t r_t_s r_t_wagons_44 r_t_foremost_45 r_t_bears_46 r_t_judgedAt) H locs := hB.sub [1, 2, 3, 4, 5, 0] (by decide) rfl
              refine lv_aload_n hx hb dX12_does_210 rfl (lv_at hl 0 rfl) ?_
              refine lv_iload_n hx hb dX12_does_211 rfl (lv_at hl 2 rfl) ?_
              refine k_vv (wr := [((d_t 22), ai k 20 r_t_wagons_44), ((d_t 24), ai k 20 r_t_bears_46), ((d_t 42), ai k 6 r_t_judgedAt)]) (rest := []) F hA hB (c_LongTrainModel_partsAt l D k a_t d_t i_t_43 j_t r_t_s r_t_foremost_45 n2 _  hf) ml_RX12_370 mv_yX12_partsAt [0, 1, 3] [2, 4, 5] rfl rfl (by decide) (by decide) (by decide) 0 rfl rfl rfl hl.1 rfl (Nat.le_of_ble_eq_true rfl) ⟨Nat.le_of_ble_eq_true rfl, Nat.le_of_ble_eq_true rfl⟩ ⟨Nat.le_of_ble_eq_true rfl, Nat.le_of_ble_eq_true rfl⟩ dX12_does_212 (fun w1 H locs hq hB => ?_)
              obtain ⟨r_t_s_47, rfl, hf⟩ := hq
              replace hB : Bd D A s.heap (wd_LongTrainModel_does k a_t d_t i_t_43 j_t r_t_s_47 r_t_wagons_44 r_t_foremost_45 r_t_bears_46 r_t_judgedAt) H locs := hB.sub [3, 4, 0, 5, 1, 2] (by decide) rfl
              refine lv_iconst (v := 0) hx hb dX12_does_215 (by decide) ?_
              exact r_i F hr hlk hB ⟨_, _, _, _, _, _, rfl, hf⟩ dX12_does_216
            · replace hf := hf.2 c_48
              refine lv_iconst (v := 3) hx hb dX12_does_196 (by decide) ?_
              exact r_i F hr hlk hB ⟨_, _, _, _, _, _, rfl, hf⟩ dX12_does_197
          · replace hf := hf.2 c_40
            refine lv_tableOut (tgt := 217) hx hb dX12_does_1 (sw_out (fun z h1 h2 h3 => by
                have h4 : z = 0 ∨ z = 1 ∨ z = 2 ∨ z = 3 ∨ z = 4 ∨ False := by omega
                rcases h4 with h4 | h4 | h4 | h4 | h4 | h4
                · exact c_1 (Int32.toInt_inj.mp (h3.trans (h4.trans (by decide))))
                · exact c_13 (Int32.toInt_inj.mp (h3.trans (h4.trans (by decide))))
                · exact c_25 (Int32.toInt_inj.mp (h3.trans (h4.trans (by decide))))
                · exact c_36 (Int32.toInt_inj.mp (h3.trans (h4.trans (by decide))))
                · exact c_40 (Int32.toInt_inj.mp (h3.trans (h4.trans (by decide))))
                · exact h4)) (by decide) ?_
            refine lv_aload_n hx hb dX12_does_217 rfl (lv_at hl 0 rfl) ?_
            refine g_get (w := .ref (d_t 6)) F hB 0 rfl fl_RX12_33 rfl dX12_does_218 ?_
            refine lv_sipush (v := 485) hx hb dX12_does_221 (by decide) ?_
            refine g_iald F hB 1 rfl (vp_in_iff.mpr (by decide +kernel)) dX12_does_224 ?_
            refine W.eq (g2 := F0 m 225 ls [.int (r_t_s 485)]) rfl ?_
            refine lv_if_ne (tgt := 231) hx hb dX12_does_225 (by decide) (fun c_51 => ?_) (fun c_51 => ?_)
            · replace hf := hf.1 c_51
              refine lv_aload_n hx hb dX12_does_231 rfl (lv_at hl 0 rfl) ?_
              refine g_get (w := .ref (d_t 6)) F hB 0 rfl fl_RX12_33 rfl dX12_does_232 ?_
              refine lv_sipush (v := 485) hx hb dX12_does_235 (by decide) ?_
              refine lv_iconst (v := 0) hx hb dX12_does_238 (by decide) ?_
              refine g_iast F hB 1 rfl (vp_in_iff.mpr (by decide +kernel)) (wd_LongTrainModel_does k a_t d_t i_t j_t (upd r_t_s 485 (0 : Int32)) r_t_wagons r_t_foremost r_t_bears r_t_judgedAt) rfl dX12_does_239 (fun H locs hB => ?_)
              refine lv_iconst (v := 0) hx hb dX12_does_240 (by decide) ?_
              exact r_i F hr hlk hB ⟨_, _, _, _, _, _, rfl, hf⟩ dX12_does_241
            · replace hf := hf.2 c_51
              refine lv_bipush (v := 6) hx hb dX12_does_228 (by decide) ?_
              exact r_i F hr hlk hB ⟨_, _, _, _, _, _, rfl, hf⟩ dX12_does_230

/-! LongTrainModel.judge -/
set_option maxRecDepth 100000 in
set_option maxHeartbeats 4000000 in
theorem bt_LongTrainModel_judge_19 {p : Program} {l : Launch} {e : Env} {s : State} {m : MethodId} {below : List Frame} {meth : Method} {c : Code} {A : Nat → Prop} {D : va_G} {k : Nat → ClassId} {a_t : Nat} {d_t : Nat → Nat} {i_t : Nat → Int32} {j_t : Nat → Int64} {r_t_s : Nat → Int32} {r_t_judgedAt : Nat → Int32} {r_t_wagons : Nat → Int32} {r_t_foremost : Nat → Int32} {r_t_bears : Nat → Int32} {n1 : Int32} {Q : Int32 → (Nat → Int32) → (Nat → Int32) → (Nat → Int32) → (Nat → Int32) → (Nat → Int32) → (Nat → Int32) → (Nat → Int32) → Prop}  {x1 : Int32} {kx_19 : (Nat → Int32) → Prop} {kr_19 : (Int32) → (Nat → Int32) → Prop} (F : Fx p m c cX12_judge 5 s ([.ref a_t, .int n1] : List Value).toArray RX12 D k) (hr : meth.sig.returnType = (some .int)) (hlk : meth.locks = false) (hA : ∀ q : Nat, s.heap.size ≤ q → A q) (hkx_19 : ∀ (r_t_before : Nat → Int32) (H : Heap) (locs : List Loc) (ls : Array Slot), kx_19 r_t_before → Bd D A s.heap (wd_LongTrainModel_judge k a_t d_t i_t j_t r_t_before r_t_s r_t_judgedAt r_t_wagons r_t_foremost r_t_bears) H locs → lv_has ls 5 [(0, .ref a_t), (1, .int x1)] → W p l e { frames := 6, cells := 0, slots := 0, locals := 137 } s m ([.ref a_t, .int n1] : List Value).toArray below meth c H locs 0 0 (Ei below (fun r w => ∃ (i_t : Nat → Int32), ∃ (r_t_before : Nat → Int32), ∃ (r_t_s : Nat → Int32), ∃ (r_t_judgedAt : Nat → Int32), ∃ (r_t_wagons : Nat → Int32), ∃ (r_t_foremost : Nat → Int32), ∃ (r_t_bears : Nat → Int32), w = (wd_LongTrainModel_judge k a_t d_t i_t j_t r_t_before r_t_s r_t_judgedAt r_t_wagons r_t_foremost r_t_bears) ∧ Q r i_t r_t_before r_t_s r_t_judgedAt r_t_wagons r_t_foremost r_t_bears) D k A ([.ref a_t, .int n1] : List Value).toArray s 0 0) (F0 m 44 ls [])) (hkr_19 : ∀ (x2 : Int32) (r_t_before : Nat → Int32) (H : Heap) (locs : List Loc) (ls : Array Slot), kr_19 x2 r_t_before → Bd D A s.heap (wd_LongTrainModel_judge k a_t d_t i_t j_t r_t_before r_t_s r_t_judgedAt r_t_wagons r_t_foremost r_t_bears) H locs → lv_has ls 5 [(0, .ref a_t), (1, .int x1), (2, .int x2)] → W p l e { frames := 6, cells := 0, slots := 0, locals := 137 } s m ([.ref a_t, .int n1] : List Value).toArray below meth c H locs 0 0 (Ei below (fun r w => ∃ (i_t : Nat → Int32), ∃ (r_t_before : Nat → Int32), ∃ (r_t_s : Nat → Int32), ∃ (r_t_judgedAt : Nat → Int32), ∃ (r_t_wagons : Nat → Int32), ∃ (r_t_foremost : Nat → Int32), ∃ (r_t_bears : Nat → Int32), w = (wd_LongTrainModel_judge k a_t d_t i_t j_t r_t_before r_t_s r_t_judgedAt r_t_wagons r_t_foremost r_t_bears) ∧ Q r i_t r_t_before r_t_s r_t_judgedAt r_t_wagons r_t_foremost r_t_bears) D k A ([.ref a_t, .int n1] : List Value).toArray s 0 0) (F0 m 19 ls [])) :
    ∀ (x2 : Int32) (r_t_before : Nat → Int32) (H : Heap) (locs : List Loc) (ls : Array Slot), b_LongTrainModel_judge_19 r_t_s kx_19 kr_19 x2 r_t_before → Bd D A s.heap (wd_LongTrainModel_judge k a_t d_t i_t j_t r_t_before r_t_s r_t_judgedAt r_t_wagons r_t_foremost r_t_bears) H locs → lv_has ls 5 [(0, .ref a_t), (1, .int x1), (2, .int x2)] → W p l e { frames := 6, cells := 0, slots := 0, locals := 137 } s m ([.ref a_t, .int n1] : List Value).toArray below meth c H locs 0 0 (Ei below (fun r w => ∃ (i_t : Nat → Int32), ∃ (r_t_before : Nat → Int32), ∃ (r_t_s : Nat → Int32), ∃ (r_t_judgedAt : Nat → Int32), ∃ (r_t_wagons : Nat → Int32), ∃ (r_t_foremost : Nat → Int32), ∃ (r_t_bears : Nat → Int32), w = (wd_LongTrainModel_judge k a_t d_t i_t j_t r_t_before r_t_s r_t_judgedAt r_t_wagons r_t_foremost r_t_bears) ∧ Q r i_t r_t_before r_t_s r_t_judgedAt r_t_wagons r_t_foremost r_t_bears) D k A ([.ref a_t, .int n1] : List Value).toArray s 0 0) (F0 m 19 ls []) := by
  have hx := F.x
  have hb := F.b
  intro x2 r_t_before H locs ls hf hB hl
  unfold b_LongTrainModel_judge_19 at hf
  refine lv_iload_n hx hb dX12_judge_19 rfl (lv_at hl 2 rfl) ?_
  refine lv_sipush (v := 1068) hx hb dX12_judge_20 (by decide) ?_
  refine lv_icmp_ge (tgt := 44) hx hb dX12_judge_23 (by decide) (fun c_5 => ?_) (fun c_5 => ?_)
  · replace hf := hf.1 c_5
    exact hkx_19 _ _ _ _ hf hB (lv_sub hl [0, 1] rfl)
  · replace hf := hf.2 c_5
    refine lv_aload_n hx hb dX12_judge_26 rfl (lv_at hl 0 rfl) ?_
    refine g_get (w := .ref (d_t 43)) F hB 0 rfl fl_RX12_92 rfl dX12_judge_27 ?_
    refine lv_iload_n hx hb dX12_judge_30 rfl (lv_at hl 2 rfl) ?_
    refine lv_aload_n hx hb dX12_judge_31 rfl (lv_at hl 0 rfl) ?_
    refine g_get (w := .ref (d_t 6)) F hB 0 rfl fl_RX12_33 rfl dX12_judge_32 ?_
    refine lv_iload_n hx hb dX12_judge_35 rfl (lv_at hl 2 rfl) ?_
    obtain ⟨h_3, hf⟩ := hf
    refine g_iald F hB 2 rfl h_3 dX12_judge_36 ?_
    obtain ⟨h_4, hf⟩ := hf
    refine g_iast F hB 1 rfl h_4 (wd_LongTrainModel_judge k a_t d_t i_t j_t (upd r_t_before (x2).toNatClampNeg (r_t_s (x2).toNatClampNeg)) r_t_s r_t_judgedAt r_t_wagons r_t_foremost r_t_bears) rfl dX12_judge_37 (fun H locs hB => ?_)
    refine lv_iinc (v := (x2 + 1)) (lv' := [(2, .int (x2 + 1)), (0, .ref a_t), (1, .int x1)]) (k := 2) hx hb dX12_judge_38 hl rfl rfl (by decide) rfl (fun ls hl => ?_)
    refine lv_goto (tgt := 19) hx hb dX12_judge_41 (by decide) ?_
    exact hkr_19 _ _ _ _ _ hf hB (lv_sub hl [1, 2, 0] rfl)

set_option maxRecDepth 100000 in
set_option maxHeartbeats 4000000 in
theorem lt_LongTrainModel_judge_19 {p : Program} {l : Launch} {e : Env} {s : State} {m : MethodId} {below : List Frame} {meth : Method} {c : Code} {A : Nat → Prop} {D : va_G} {k : Nat → ClassId} {a_t : Nat} {d_t : Nat → Nat} {i_t : Nat → Int32} {j_t : Nat → Int64} {r_t_s : Nat → Int32} {r_t_judgedAt : Nat → Int32} {r_t_wagons : Nat → Int32} {r_t_foremost : Nat → Int32} {r_t_bears : Nat → Int32} {n1 : Int32} {Q : Int32 → (Nat → Int32) → (Nat → Int32) → (Nat → Int32) → (Nat → Int32) → (Nat → Int32) → (Nat → Int32) → (Nat → Int32) → Prop}  {x1 : Int32} {kx_19 : (Nat → Int32) → Prop} (F : Fx p m c cX12_judge 5 s ([.ref a_t, .int n1] : List Value).toArray RX12 D k) (hr : meth.sig.returnType = (some .int)) (hlk : meth.locks = false) (hA : ∀ q : Nat, s.heap.size ≤ q → A q) (hkx_19 : ∀ (r_t_before : Nat → Int32) (H : Heap) (locs : List Loc) (ls : Array Slot), kx_19 r_t_before → Bd D A s.heap (wd_LongTrainModel_judge k a_t d_t i_t j_t r_t_before r_t_s r_t_judgedAt r_t_wagons r_t_foremost r_t_bears) H locs → lv_has ls 5 [(0, .ref a_t), (1, .int x1)] → W p l e { frames := 6, cells := 0, slots := 0, locals := 137 } s m ([.ref a_t, .int n1] : List Value).toArray below meth c H locs 0 0 (Ei below (fun r w => ∃ (i_t : Nat → Int32), ∃ (r_t_before : Nat → Int32), ∃ (r_t_s : Nat → Int32), ∃ (r_t_judgedAt : Nat → Int32), ∃ (r_t_wagons : Nat → Int32), ∃ (r_t_foremost : Nat → Int32), ∃ (r_t_bears : Nat → Int32), w = (wd_LongTrainModel_judge k a_t d_t i_t j_t r_t_before r_t_s r_t_judgedAt r_t_wagons r_t_foremost r_t_bears) ∧ Q r i_t r_t_before r_t_s r_t_judgedAt r_t_wagons r_t_foremost r_t_bears) D k A ([.ref a_t, .int n1] : List Value).toArray s 0 0) (F0 m 44 ls [])) :
    ∀ n : Nat, ∀ (x2 : Int32) (r_t_before : Nat → Int32) (H : Heap) (locs : List Loc) (ls : Array Slot), lp_LongTrainModel_judge_19 r_t_s kx_19 n x2 r_t_before → Bd D A s.heap (wd_LongTrainModel_judge k a_t d_t i_t j_t r_t_before r_t_s r_t_judgedAt r_t_wagons r_t_foremost r_t_bears) H locs → lv_has ls 5 [(0, .ref a_t), (1, .int x1), (2, .int x2)] → W p l e { frames := 6, cells := 0, slots := 0, locals := 137 } s m ([.ref a_t, .int n1] : List Value).toArray below meth c H locs 0 0 (Ei below (fun r w => ∃ (i_t : Nat → Int32), ∃ (r_t_before : Nat → Int32), ∃ (r_t_s : Nat → Int32), ∃ (r_t_judgedAt : Nat → Int32), ∃ (r_t_wagons : Nat → Int32), ∃ (r_t_foremost : Nat → Int32), ∃ (r_t_bears : Nat → Int32), w = (wd_LongTrainModel_judge k a_t d_t i_t j_t r_t_before r_t_s r_t_judgedAt r_t_wagons r_t_foremost r_t_bears) ∧ Q r i_t r_t_before r_t_s r_t_judgedAt r_t_wagons r_t_foremost r_t_bears) D k A ([.ref a_t, .int n1] : List Value).toArray s 0 0) (F0 m 19 ls []) := by
  intro n
  induction n with
  | zero => intro x2 r_t_before H locs ls hf; exact absurd hf (fun h => h)
  | succ n ih => exact bt_LongTrainModel_judge_19 F hr hlk hA hkx_19 ih

set_option maxRecDepth 100000 in
set_option maxHeartbeats 4000000 in
theorem bt_LongTrainModel_judge_46 {p : Program} {l : Launch} {e : Env} {s : State} {m : MethodId} {below : List Frame} {meth : Method} {c : Code} {A : Nat → Prop} {D : va_G} {k : Nat → ClassId} {a_t : Nat} {d_t : Nat → Nat} {i_t : Nat → Int32} {j_t : Nat → Int64} {r_t_before : Nat → Int32} {r_t_s : Nat → Int32} {r_t_wagons : Nat → Int32} {r_t_foremost : Nat → Int32} {r_t_bears : Nat → Int32} {n1 : Int32} {Q : Int32 → (Nat → Int32) → (Nat → Int32) → (Nat → Int32) → (Nat → Int32) → (Nat → Int32) → (Nat → Int32) → (Nat → Int32) → Prop}  {x1 : Int32} {kx_46 : (Nat → Int32) → Prop} {kr_46 : (Int32) → (Nat → Int32) → Prop} (F : Fx p m c cX12_judge 5 s ([.ref a_t, .int n1] : List Value).toArray RX12 D k) (hr : meth.sig.returnType = (some .int)) (hlk : meth.locks = false) (hA : ∀ q : Nat, s.heap.size ≤ q → A q) (hkx_46 : ∀ (r_t_judgedAt : Nat → Int32) (H : Heap) (locs : List Loc) (ls : Array Slot), kx_46 r_t_judgedAt → Bd D A s.heap (wd_LongTrainModel_judge k a_t d_t i_t j_t r_t_before r_t_s r_t_judgedAt r_t_wagons r_t_foremost r_t_bears) H locs → lv_has ls 5 [(0, .ref a_t), (1, .int x1)] → W p l e { frames := 6, cells := 0, slots := 0, locals := 137 } s m ([.ref a_t, .int n1] : List Value).toArray below meth c H locs 0 0 (Ei below (fun r w => ∃ (i_t : Nat → Int32), ∃ (r_t_before : Nat → Int32), ∃ (r_t_s : Nat → Int32), ∃ (r_t_judgedAt : Nat → Int32), ∃ (r_t_wagons : Nat → Int32), ∃ (r_t_foremost : Nat → Int32), ∃ (r_t_bears : Nat → Int32), w = (wd_LongTrainModel_judge k a_t d_t i_t j_t r_t_before r_t_s r_t_judgedAt r_t_wagons r_t_foremost r_t_bears) ∧ Q r i_t r_t_before r_t_s r_t_judgedAt r_t_wagons r_t_foremost r_t_bears) D k A ([.ref a_t, .int n1] : List Value).toArray s 0 0) (F0 m 65 ls [])) (hkr_46 : ∀ (x2 : Int32) (r_t_judgedAt : Nat → Int32) (H : Heap) (locs : List Loc) (ls : Array Slot), kr_46 x2 r_t_judgedAt → Bd D A s.heap (wd_LongTrainModel_judge k a_t d_t i_t j_t r_t_before r_t_s r_t_judgedAt r_t_wagons r_t_foremost r_t_bears) H locs → lv_has ls 5 [(0, .ref a_t), (1, .int x1), (2, .int x2)] → W p l e { frames := 6, cells := 0, slots := 0, locals := 137 } s m ([.ref a_t, .int n1] : List Value).toArray below meth c H locs 0 0 (Ei below (fun r w => ∃ (i_t : Nat → Int32), ∃ (r_t_before : Nat → Int32), ∃ (r_t_s : Nat → Int32), ∃ (r_t_judgedAt : Nat → Int32), ∃ (r_t_wagons : Nat → Int32), ∃ (r_t_foremost : Nat → Int32), ∃ (r_t_bears : Nat → Int32), w = (wd_LongTrainModel_judge k a_t d_t i_t j_t r_t_before r_t_s r_t_judgedAt r_t_wagons r_t_foremost r_t_bears) ∧ Q r i_t r_t_before r_t_s r_t_judgedAt r_t_wagons r_t_foremost r_t_bears) D k A ([.ref a_t, .int n1] : List Value).toArray s 0 0) (F0 m 46 ls [])) :
    ∀ (x2 : Int32) (r_t_judgedAt : Nat → Int32) (H : Heap) (locs : List Loc) (ls : Array Slot), b_LongTrainModel_judge_46 kx_46 kr_46 x2 r_t_judgedAt → Bd D A s.heap (wd_LongTrainModel_judge k a_t d_t i_t j_t r_t_before r_t_s r_t_judgedAt r_t_wagons r_t_foremost r_t_bears) H locs → lv_has ls 5 [(0, .ref a_t), (1, .int x1), (2, .int x2)] → W p l e { frames := 6, cells := 0, slots := 0, locals := 137 } s m ([.ref a_t, .int n1] : List Value).toArray below meth c H locs 0 0 (Ei below (fun r w => ∃ (i_t : Nat → Int32), ∃ (r_t_before : Nat → Int32), ∃ (r_t_s : Nat → Int32), ∃ (r_t_judgedAt : Nat → Int32), ∃ (r_t_wagons : Nat → Int32), ∃ (r_t_foremost : Nat → Int32), ∃ (r_t_bears : Nat → Int32), w = (wd_LongTrainModel_judge k a_t d_t i_t j_t r_t_before r_t_s r_t_judgedAt r_t_wagons r_t_foremost r_t_bears) ∧ Q r i_t r_t_before r_t_s r_t_judgedAt r_t_wagons r_t_foremost r_t_bears) D k A ([.ref a_t, .int n1] : List Value).toArray s 0 0) (F0 m 46 ls []) := by
  have hx := F.x
  have hb := F.b
  intro x2 r_t_judgedAt H locs ls hf hB hl
  unfold b_LongTrainModel_judge_46 at hf
  refine lv_iload_n hx hb dX12_judge_46 rfl (lv_at hl 2 rfl) ?_
  refine lv_bipush (v := 6) hx hb dX12_judge_47 (by decide) ?_
  refine lv_icmp_ge (tgt := 65) hx hb dX12_judge_49 (by decide) (fun c_8 => ?_) (fun c_8 => ?_)
  · replace hf := hf.1 c_8
    exact hkx_46 _ _ _ _ hf hB (lv_sub hl [0, 1] rfl)
  · replace hf := hf.2 c_8
    refine lv_aload_n hx hb dX12_judge_52 rfl (lv_at hl 0 rfl) ?_
    refine g_get (w := .ref (d_t 42)) F hB 0 rfl fl_RX12_89 rfl dX12_judge_53 ?_
    refine lv_iload_n hx hb dX12_judge_56 rfl (lv_at hl 2 rfl) ?_
    refine lv_iconst (v := 0) hx hb dX12_judge_57 (by decide) ?_
    obtain ⟨h_7, hf⟩ := hf
    refine g_iast F hB 3 rfl h_7 (wd_LongTrainModel_judge k a_t d_t i_t j_t r_t_before r_t_s (upd r_t_judgedAt (x2).toNatClampNeg (0 : Int32)) r_t_wagons r_t_foremost r_t_bears) rfl dX12_judge_58 (fun H locs hB => ?_)
    refine lv_iinc (v := (x2 + 1)) (lv' := [(2, .int (x2 + 1)), (0, .ref a_t), (1, .int x1)]) (k := 2) hx hb dX12_judge_59 hl rfl rfl (by decide) rfl (fun ls hl => ?_)
    refine lv_goto (tgt := 46) hx hb dX12_judge_62 (by decide) ?_
    exact hkr_46 _ _ _ _ _ hf hB (lv_sub hl [1, 2, 0] rfl)

set_option maxRecDepth 100000 in
set_option maxHeartbeats 4000000 in
theorem lt_LongTrainModel_judge_46 {p : Program} {l : Launch} {e : Env} {s : State} {m : MethodId} {below : List Frame} {meth : Method} {c : Code} {A : Nat → Prop} {D : va_G} {k : Nat → ClassId} {a_t : Nat} {d_t : Nat → Nat} {i_t : Nat → Int32} {j_t : Nat → Int64} {r_t_before : Nat → Int32} {r_t_s : Nat → Int32} {r_t_wagons : Nat → Int32} {r_t_foremost : Nat → Int32} {r_t_bears : Nat → Int32} {n1 : Int32} {Q : Int32 → (Nat → Int32) → (Nat → Int32) → (Nat → Int32) → (Nat → Int32) → (Nat → Int32) → (Nat → Int32) → (Nat → Int32) → Prop}  {x1 : Int32} {kx_46 : (Nat → Int32) → Prop} (F : Fx p m c cX12_judge 5 s ([.ref a_t, .int n1] : List Value).toArray RX12 D k) (hr : meth.sig.returnType = (some .int)) (hlk : meth.locks = false) (hA : ∀ q : Nat, s.heap.size ≤ q → A q) (hkx_46 : ∀ (r_t_judgedAt : Nat → Int32) (H : Heap) (locs : List Loc) (ls : Array Slot), kx_46 r_t_judgedAt → Bd D A s.heap (wd_LongTrainModel_judge k a_t d_t i_t j_t r_t_before r_t_s r_t_judgedAt r_t_wagons r_t_foremost r_t_bears) H locs → lv_has ls 5 [(0, .ref a_t), (1, .int x1)] → W p l e { frames := 6, cells := 0, slots := 0, locals := 137 } s m ([.ref a_t, .int n1] : List Value).toArray below meth c H locs 0 0 (Ei below (fun r w => ∃ (i_t : Nat → Int32), ∃ (r_t_before : Nat → Int32), ∃ (r_t_s : Nat → Int32), ∃ (r_t_judgedAt : Nat → Int32), ∃ (r_t_wagons : Nat → Int32), ∃ (r_t_foremost : Nat → Int32), ∃ (r_t_bears : Nat → Int32), w = (wd_LongTrainModel_judge k a_t d_t i_t j_t r_t_before r_t_s r_t_judgedAt r_t_wagons r_t_foremost r_t_bears) ∧ Q r i_t r_t_before r_t_s r_t_judgedAt r_t_wagons r_t_foremost r_t_bears) D k A ([.ref a_t, .int n1] : List Value).toArray s 0 0) (F0 m 65 ls [])) :
    ∀ n : Nat, ∀ (x2 : Int32) (r_t_judgedAt : Nat → Int32) (H : Heap) (locs : List Loc) (ls : Array Slot), lp_LongTrainModel_judge_46 kx_46 n x2 r_t_judgedAt → Bd D A s.heap (wd_LongTrainModel_judge k a_t d_t i_t j_t r_t_before r_t_s r_t_judgedAt r_t_wagons r_t_foremost r_t_bears) H locs → lv_has ls 5 [(0, .ref a_t), (1, .int x1), (2, .int x2)] → W p l e { frames := 6, cells := 0, slots := 0, locals := 137 } s m ([.ref a_t, .int n1] : List Value).toArray below meth c H locs 0 0 (Ei below (fun r w => ∃ (i_t : Nat → Int32), ∃ (r_t_before : Nat → Int32), ∃ (r_t_s : Nat → Int32), ∃ (r_t_judgedAt : Nat → Int32), ∃ (r_t_wagons : Nat → Int32), ∃ (r_t_foremost : Nat → Int32), ∃ (r_t_bears : Nat → Int32), w = (wd_LongTrainModel_judge k a_t d_t i_t j_t r_t_before r_t_s r_t_judgedAt r_t_wagons r_t_foremost r_t_bears) ∧ Q r i_t r_t_before r_t_s r_t_judgedAt r_t_wagons r_t_foremost r_t_bears) D k A ([.ref a_t, .int n1] : List Value).toArray s 0 0) (F0 m 46 ls []) := by
  intro n
  induction n with
  | zero => intro x2 r_t_judgedAt H locs ls hf; exact absurd hf (fun h => h)
  | succ n ih => exact bt_LongTrainModel_judge_46 F hr hlk hA hkx_46 ih

set_option maxRecDepth 100000 in
set_option maxHeartbeats 4000000 in
theorem bt_LongTrainModel_judge_69 {p : Program} {l : Launch} {e : Env} {s : State} {m : MethodId} {below : List Frame} {meth : Method} {c : Code} {A : Nat → Prop} {D : va_G} {k : Nat → ClassId} {a_t : Nat} {d_t : Nat → Nat} {j_t : Nat → Int64} {r_t_before : Nat → Int32} {n1 : Int32} {Q : Int32 → (Nat → Int32) → (Nat → Int32) → (Nat → Int32) → (Nat → Int32) → (Nat → Int32) → (Nat → Int32) → (Nat → Int32) → Prop}  {x1 : Int32} {kx_69 : (Int32) → (Nat → Int32) → (Nat → Int32) → (Nat → Int32) → (Nat → Int32) → (Nat → Int32) → (Nat → Int32) → Prop} {kr_69 : (Int32) → (Int32) → (Nat → Int32) → (Nat → Int32) → (Nat → Int32) → (Nat → Int32) → (Nat → Int32) → (Nat → Int32) → Prop} (F : Fx p m c cX12_judge 5 s ([.ref a_t, .int n1] : List Value).toArray RX12 D k) (hr : meth.sig.returnType = (some .int)) (hlk : meth.locks = false) (hA : ∀ q : Nat, s.heap.size ≤ q → A q) (hkx_69 : ∀ (x2 : Int32) (i_t : Nat → Int32) (r_t_s : Nat → Int32) (r_t_judgedAt : Nat → Int32) (r_t_wagons : Nat → Int32) (r_t_foremost : Nat → Int32) (r_t_bears : Nat → Int32) (H : Heap) (locs : List Loc) (ls : Array Slot), kx_69 x2 i_t r_t_s r_t_judgedAt r_t_wagons r_t_foremost r_t_bears → Bd D A s.heap (wd_LongTrainModel_judge k a_t d_t i_t j_t r_t_before r_t_s r_t_judgedAt r_t_wagons r_t_foremost r_t_bears) H locs → lv_has ls 5 [(0, .ref a_t), (1, .int x1), (2, .int x2)] → W p l e { frames := 6, cells := 0, slots := 0, locals := 137 } s m ([.ref a_t, .int n1] : List Value).toArray below meth c H locs 0 0 (Ei below (fun r w => ∃ (i_t : Nat → Int32), ∃ (r_t_before : Nat → Int32), ∃ (r_t_s : Nat → Int32), ∃ (r_t_judgedAt : Nat → Int32), ∃ (r_t_wagons : Nat → Int32), ∃ (r_t_foremost : Nat → Int32), ∃ (r_t_bears : Nat → Int32), w = (wd_LongTrainModel_judge k a_t d_t i_t j_t r_t_before r_t_s r_t_judgedAt r_t_wagons r_t_foremost r_t_bears) ∧ Q r i_t r_t_before r_t_s r_t_judgedAt r_t_wagons r_t_foremost r_t_bears) D k A ([.ref a_t, .int n1] : List Value).toArray s 0 0) (F0 m 146 ls [])) (hkr_69 : ∀ (x2 : Int32) (x3 : Int32) (i_t : Nat → Int32) (r_t_s : Nat → Int32) (r_t_judgedAt : Nat → Int32) (r_t_wagons : Nat → Int32) (r_t_foremost : Nat → Int32) (r_t_bears : Nat → Int32) (H : Heap) (locs : List Loc) (ls : Array Slot), kr_69 x2 x3 i_t r_t_s r_t_judgedAt r_t_wagons r_t_foremost r_t_bears → Bd D A s.heap (wd_LongTrainModel_judge k a_t d_t i_t j_t r_t_before r_t_s r_t_judgedAt r_t_wagons r_t_foremost r_t_bears) H locs → lv_has ls 5 [(0, .ref a_t), (1, .int x1), (2, .int x2), (3, .int x3)] → W p l e { frames := 6, cells := 0, slots := 0, locals := 137 } s m ([.ref a_t, .int n1] : List Value).toArray below meth c H locs 0 0 (Ei below (fun r w => ∃ (i_t : Nat → Int32), ∃ (r_t_before : Nat → Int32), ∃ (r_t_s : Nat → Int32), ∃ (r_t_judgedAt : Nat → Int32), ∃ (r_t_wagons : Nat → Int32), ∃ (r_t_foremost : Nat → Int32), ∃ (r_t_bears : Nat → Int32), w = (wd_LongTrainModel_judge k a_t d_t i_t j_t r_t_before r_t_s r_t_judgedAt r_t_wagons r_t_foremost r_t_bears) ∧ Q r i_t r_t_before r_t_s r_t_judgedAt r_t_wagons r_t_foremost r_t_bears) D k A ([.ref a_t, .int n1] : List Value).toArray s 0 0) (F0 m 69 ls [])) :
    ∀ (x2 : Int32) (x3 : Int32) (i_t : Nat → Int32) (r_t_s : Nat → Int32) (r_t_judgedAt : Nat → Int32) (r_t_wagons : Nat → Int32) (r_t_foremost : Nat → Int32) (r_t_bears : Nat → Int32) (H : Heap) (locs : List Loc) (ls : Array Slot), b_LongTrainModel_judge_69 r_t_before kx_69 kr_69 x2 x3 i_t r_t_s r_t_judgedAt r_t_wagons r_t_foremost r_t_bears → Bd D A s.heap (wd_LongTrainModel_judge k a_t d_t i_t j_t r_t_before r_t_s r_t_judgedAt r_t_wagons r_t_foremost r_t_bears) H locs → lv_has ls 5 [(0, .ref a_t), (1, .int x1), (2, .int x2), (3, .int x3)] → W p l e { frames := 6, cells := 0, slots := 0, locals := 137 } s m ([.ref a_t, .int n1] : List Value).toArray below meth c H locs 0 0 (Ei below (fun r w => ∃ (i_t : Nat → Int32), ∃ (r_t_before : Nat → Int32), ∃ (r_t_s : Nat → Int32), ∃ (r_t_judgedAt : Nat → Int32), ∃ (r_t_wagons : Nat → Int32), ∃ (r_t_foremost : Nat → Int32), ∃ (r_t_bears : Nat → Int32), w = (wd_LongTrainModel_judge k a_t d_t i_t j_t r_t_before r_t_s r_t_judgedAt r_t_wagons r_t_foremost r_t_bears) ∧ Q r i_t r_t_before r_t_s r_t_judgedAt r_t_wagons r_t_foremost r_t_bears) D k A ([.ref a_t, .int n1] : List Value).toArray s 0 0) (F0 m 69 ls []) := by
  have hx := F.x
  have hb := F.b
  intro x2 x3 i_t r_t_s r_t_judgedAt r_t_wagons r_t_foremost r_t_bears H locs ls hf hB hl
  unfold b_LongTrainModel_judge_69 at hf
  refine lv_iload_n hx hb dX12_judge_69 rfl (lv_at hl 3 rfl) ?_
  refine lv_aload_n hx hb dX12_judge_70 rfl (lv_at hl 0 rfl) ?_
  refine g_get (w := .ref (d_t 43)) F hB 0 rfl fl_RX12_92 rfl dX12_judge_71 ?_
  refine lv_sipush (v := 977) hx hb dX12_judge_74 (by decide) ?_
  refine g_iald F hB 1 rfl (vp_in_iff.mpr (by decide +kernel)) dX12_judge_77 ?_
  refine W.eq (g2 := F0 m 78 ls [.int (r_t_before 977), .int x3]) rfl ?_
  refine lv_icmp_ge (tgt := 146) hx hb dX12_judge_78 (by decide) (fun c_25 => ?_) (fun c_25 => ?_)
  · replace hf := hf.1 c_25
    exact hkx_69 _ _ _ _ _ _ _ _ _ _ hf hB (lv_sub hl [0, 1, 2] rfl)
  · replace hf := hf.2 c_25
    refine lv_iload_n hx hb dX12_judge_81 rfl (lv_at hl 2 rfl) ?_
    refine lv_if_ge (tgt := 146) hx hb dX12_judge_82 (by decide) (fun c_24 => ?_) (fun c_24 => ?_)
    · replace hf := hf.1 c_24
      exact hkx_69 _ _ _ _ _ _ _ _ _ _ hf hB (lv_sub hl [0, 1, 2] rfl)
    · replace hf := hf.2 c_24
      refine lv_sipush (v := 978) hx hb dX12_judge_85 (by decide) ?_
      refine lv_iconst (v := 3) hx hb dX12_judge_88 (by decide) ?_
      refine lv_iload_n hx hb dX12_judge_89 rfl (lv_at hl 3 rfl) ?_
      refine lv_imul hx hb dX12_judge_90 ?_
      refine lv_iadd hx hb dX12_judge_91 ?_
      refine lv_istore (lv' := [(4, .int ((978 : Int32) + ((3 : Int32) * x3))), (0, .ref a_t), (1, .int x1), (2, .int x2), (3, .int x3)]) hx hb dX12_judge_92 hl (by decide) rfl (fun ls hl => ?_)
      refine lv_aload_n hx hb dX12_judge_94 rfl (lv_at hl 1 rfl) ?_
      refine g_get (w := .ref (d_t 42)) F hB 0 rfl fl_RX12_89 rfl dX12_judge_95 ?_
      refine lv_iconst (v := 0) hx hb dX12_judge_98 (by decide) ?_
      refine lv_aload_n hx hb dX12_judge_99 rfl (lv_at hl 1 rfl) ?_
      refine lv_aload_n hx hb dX12_judge_100 rfl (lv_at hl 1 rfl) ?_
      refine g_get (w := .ref (d_t 43)) F hB 0 rfl fl_RX12_92 rfl dX12_judge_101 ?_
      refine lv_iload hx hb dX12_judge_104 (lv_at hl 0 rfl) ?_
      obtain ⟨h_11, hf⟩ := hf
      refine g_iald F hB 1 rfl h_11 dX12_judge_106 ?_
      refine lv_aload_n hx hb dX12_judge_107 rfl (lv_at hl 1 rfl) ?_
      refine g_get (w := .ref (d_t 43)) F hB 0 rfl fl_RX12_92 rfl dX12_judge_108 ?_
      refine lv_iload hx hb dX12_judge_111 (lv_at hl 0 rfl) ?_
      refine lv_iconst (v := 1) hx hb dX12_judge_113 (by decide) ?_
      refine lv_iadd hx hb dX12_judge_114 ?_
      obtain ⟨h_12, hf⟩ := hf
      refine g_iald F hB 1 rfl h_12 dX12_judge_115 ?_
      refine lv_aload_n hx hb dX12_judge_116 rfl (lv_at hl 1 rfl) ?_
      refine g_get (w := .ref (d_t 43)) F hB 0 rfl fl_RX12_92 rfl dX12_judge_117 ?_
      refine lv_iload hx hb dX12_judge_120 (lv_at hl 0 rfl) ?_
      refine lv_iconst (v := 2) hx hb dX12_judge_122 (by decide) ?_
      refine lv_iadd hx hb dX12_judge_123 ?_
      obtain ⟨h_13, hf⟩ := hf
      refine g_iald F hB 1 rfl h_13 dX12_judge_124 ?_
      refine k_vi (wr := [((d_t 43), ai k 1068 r_t_before)]) (rest := [.int (0 : Int32), .ref (d_t 42)]) F hA hB (c_LongTrainModel_does l D k a_t d_t i_t j_t r_t_s r_t_wagons r_t_foremost r_t_bears r_t_judgedAt (r_t_before (((978 : Int32) + ((3 : Int32) * x3))).toNatClampNeg) (r_t_before ((((978 : Int32) + ((3 : Int32) * x3)) + (1 : Int32))).toNatClampNeg) (r_t_before ((((978 : Int32) + ((3 : Int32) * x3)) + (2 : Int32))).toNatClampNeg) _  hf) ml_RX12_391 mv_yX12_does [0, 2, 4, 5, 6, 3] [1] rfl rfl (by decide) (by decide) (by decide) 0 rfl rfl rfl hl.1 rfl (Nat.le_of_ble_eq_true rfl) ⟨Nat.le_of_ble_eq_true rfl, Nat.le_of_ble_eq_true rfl⟩ ⟨Nat.le_of_ble_eq_true rfl, Nat.le_of_ble_eq_true rfl⟩ dX12_judge_125 (fun z_20 w1 H locs hq hB => ?_)
      obtain ⟨i_t_14, r_t_s_15, r_t_wagons_16, r_t_foremost_17, r_t_bears_18, r_t_judgedAt_19, rfl, hf⟩ := hq
      replace hB : Bd D A s.heap (wd_LongTrainModel_judge k a_t d_t i_t_14 j_t r_t_before r_t_s_15 r_t_judgedAt_19 r_t_wagons_16 r_t_foremost_17 r_t_bears_18) H locs := hB.sub [1, 0, 2, 6, 3, 4, 5] (by decide) rfl
      refine g_iast F hB 3 rfl (vp_in_iff.mpr (by decide +kernel)) (wd_LongTrainModel_judge k a_t d_t i_t_14 j_t r_t_before r_t_s_15 (upd r_t_judgedAt_19 0 z_20) r_t_wagons_16 r_t_foremost_17 r_t_bears_18) rfl dX12_judge_128 (fun H locs hB => ?_)
      refine lv_aload_n hx hb dX12_judge_129 rfl (lv_at hl 1 rfl) ?_
      refine g_get (w := .ref (d_t 42)) F hB 0 rfl fl_RX12_89 rfl dX12_judge_130 ?_
      refine lv_iconst (v := 0) hx hb dX12_judge_133 (by decide) ?_
      refine g_iald F hB 3 rfl (vp_in_iff.mpr (by decide +kernel)) dX12_judge_134 ?_
      refine W.eq (g2 := F0 m 135 ls [.int ((upd r_t_judgedAt_19 0 z_20) 0)]) rfl ?_
      refine lv_if_le (tgt := 140) hx hb dX12_judge_135 (by decide) (fun c_23 => ?_) (fun c_23 => ?_)
      · replace hf := hf.1 c_23
        refine lv_iinc (v := (x3 + 1)) (lv' := [(3, .int (x3 + 1)), (4, .int ((978 : Int32) + ((3 : Int32) * x3))), (0, .ref a_t), (1, .int x1), (2, .int x2)]) (k := 4) hx hb dX12_judge_140 hl rfl rfl (by decide) rfl (fun ls hl => ?_)
        refine lv_goto (tgt := 69) hx hb dX12_judge_143 (by decide) ?_
        exact hkr_69 _ _ _ _ _ _ _ _ _ _ _ hf hB (lv_sub hl [2, 3, 4, 0] rfl)
      · replace hf := hf.2 c_23
        refine lv_iload_n hx hb dX12_judge_138 rfl (lv_at hl 4 rfl) ?_
        refine lv_istore_n (lv' := [(2, .int x3), (4, .int ((978 : Int32) + ((3 : Int32) * x3))), (0, .ref a_t), (1, .int x1), (3, .int x3)]) hx hb dX12_judge_139 rfl hl (by decide) rfl (fun ls hl => ?_)
        refine lv_iinc (v := (x3 + 1)) (lv' := [(3, .int (x3 + 1)), (2, .int x3), (4, .int ((978 : Int32) + ((3 : Int32) * x3))), (0, .ref a_t), (1, .int x1)]) (k := 4) hx hb dX12_judge_140 hl rfl rfl (by decide) rfl (fun ls hl => ?_)
        refine lv_goto (tgt := 69) hx hb dX12_judge_143 (by decide) ?_
        exact hkr_69 _ _ _ _ _ _ _ _ _ _ _ hf hB (lv_sub hl [3, 4, 1, 0] rfl)

set_option maxRecDepth 100000 in
set_option maxHeartbeats 4000000 in
theorem lt_LongTrainModel_judge_69 {p : Program} {l : Launch} {e : Env} {s : State} {m : MethodId} {below : List Frame} {meth : Method} {c : Code} {A : Nat → Prop} {D : va_G} {k : Nat → ClassId} {a_t : Nat} {d_t : Nat → Nat} {j_t : Nat → Int64} {r_t_before : Nat → Int32} {n1 : Int32} {Q : Int32 → (Nat → Int32) → (Nat → Int32) → (Nat → Int32) → (Nat → Int32) → (Nat → Int32) → (Nat → Int32) → (Nat → Int32) → Prop}  {x1 : Int32} {kx_69 : (Int32) → (Nat → Int32) → (Nat → Int32) → (Nat → Int32) → (Nat → Int32) → (Nat → Int32) → (Nat → Int32) → Prop} (F : Fx p m c cX12_judge 5 s ([.ref a_t, .int n1] : List Value).toArray RX12 D k) (hr : meth.sig.returnType = (some .int)) (hlk : meth.locks = false) (hA : ∀ q : Nat, s.heap.size ≤ q → A q) (hkx_69 : ∀ (x2 : Int32) (i_t : Nat → Int32) (r_t_s : Nat → Int32) (r_t_judgedAt : Nat → Int32) (r_t_wagons : Nat → Int32) (r_t_foremost : Nat → Int32) (r_t_bears : Nat → Int32) (H : Heap) (locs : List Loc) (ls : Array Slot), kx_69 x2 i_t r_t_s r_t_judgedAt r_t_wagons r_t_foremost r_t_bears → Bd D A s.heap (wd_LongTrainModel_judge k a_t d_t i_t j_t r_t_before r_t_s r_t_judgedAt r_t_wagons r_t_foremost r_t_bears) H locs → lv_has ls 5 [(0, .ref a_t), (1, .int x1), (2, .int x2)] → W p l e { frames := 6, cells := 0, slots := 0, locals := 137 } s m ([.ref a_t, .int n1] : List Value).toArray below meth c H locs 0 0 (Ei below (fun r w => ∃ (i_t : Nat → Int32), ∃ (r_t_before : Nat → Int32), ∃ (r_t_s : Nat → Int32), ∃ (r_t_judgedAt : Nat → Int32), ∃ (r_t_wagons : Nat → Int32), ∃ (r_t_foremost : Nat → Int32), ∃ (r_t_bears : Nat → Int32), w = (wd_LongTrainModel_judge k a_t d_t i_t j_t r_t_before r_t_s r_t_judgedAt r_t_wagons r_t_foremost r_t_bears) ∧ Q r i_t r_t_before r_t_s r_t_judgedAt r_t_wagons r_t_foremost r_t_bears) D k A ([.ref a_t, .int n1] : List Value).toArray s 0 0) (F0 m 146 ls [])) :
    ∀ n : Nat, ∀ (x2 : Int32) (x3 : Int32) (i_t : Nat → Int32) (r_t_s : Nat → Int32) (r_t_judgedAt : Nat → Int32) (r_t_wagons : Nat → Int32) (r_t_foremost : Nat → Int32) (r_t_bears : Nat → Int32) (H : Heap) (locs : List Loc) (ls : Array Slot), lp_LongTrainModel_judge_69 r_t_before kx_69 n x2 x3 i_t r_t_s r_t_judgedAt r_t_wagons r_t_foremost r_t_bears → Bd D A s.heap (wd_LongTrainModel_judge k a_t d_t i_t j_t r_t_before r_t_s r_t_judgedAt r_t_wagons r_t_foremost r_t_bears) H locs → lv_has ls 5 [(0, .ref a_t), (1, .int x1), (2, .int x2), (3, .int x3)] → W p l e { frames := 6, cells := 0, slots := 0, locals := 137 } s m ([.ref a_t, .int n1] : List Value).toArray below meth c H locs 0 0 (Ei below (fun r w => ∃ (i_t : Nat → Int32), ∃ (r_t_before : Nat → Int32), ∃ (r_t_s : Nat → Int32), ∃ (r_t_judgedAt : Nat → Int32), ∃ (r_t_wagons : Nat → Int32), ∃ (r_t_foremost : Nat → Int32), ∃ (r_t_bears : Nat → Int32), w = (wd_LongTrainModel_judge k a_t d_t i_t j_t r_t_before r_t_s r_t_judgedAt r_t_wagons r_t_foremost r_t_bears) ∧ Q r i_t r_t_before r_t_s r_t_judgedAt r_t_wagons r_t_foremost r_t_bears) D k A ([.ref a_t, .int n1] : List Value).toArray s 0 0) (F0 m 69 ls []) := by
  intro n
  induction n with
  | zero => intro x2 x3 i_t r_t_s r_t_judgedAt r_t_wagons r_t_foremost r_t_bears H locs ls hf; exact absurd hf (fun h => h)
  | succ n ih => exact bt_LongTrainModel_judge_69 F hr hlk hA hkx_69 ih

set_option maxRecDepth 100000 in
set_option maxHeartbeats 4000000 in
theorem bt_LongTrainModel_judge_195 {p : Program} {l : Launch} {e : Env} {s : State} {m : MethodId} {below : List Frame} {meth : Method} {c : Code} {A : Nat → Prop} {D : va_G} {k : Nat → ClassId} {a_t : Nat} {d_t : Nat → Nat} {i_t : Nat → Int32} {j_t : Nat → Int64} {r_t_before : Nat → Int32} {r_t_judgedAt : Nat → Int32} {r_t_wagons : Nat → Int32} {r_t_foremost : Nat → Int32} {r_t_bears : Nat → Int32} {n1 : Int32} {Q : Int32 → (Nat → Int32) → (Nat → Int32) → (Nat → Int32) → (Nat → Int32) → (Nat → Int32) → (Nat → Int32) → (Nat → Int32) → Prop}  {x1 : Int32} {x2 : Int32} {kx_195 : (Nat → Int32) → Prop} {kr_195 : (Int32) → (Nat → Int32) → Prop} (F : Fx p m c cX12_judge 5 s ([.ref a_t, .int n1] : List Value).toArray RX12 D k) (hr : meth.sig.returnType = (some .int)) (hlk : meth.locks = false) (hA : ∀ q : Nat, s.heap.size ≤ q → A q) (hkx_195 : ∀ (r_t_s : Nat → Int32) (H : Heap) (locs : List Loc) (ls : Array Slot), kx_195 r_t_s → Bd D A s.heap (wd_LongTrainModel_judge k a_t d_t i_t j_t r_t_before r_t_s r_t_judgedAt r_t_wagons r_t_foremost r_t_bears) H locs → lv_has ls 5 [(2, .int x2)] → W p l e { frames := 6, cells := 0, slots := 0, locals := 137 } s m ([.ref a_t, .int n1] : List Value).toArray below meth c H locs 0 0 (Ei below (fun r w => ∃ (i_t : Nat → Int32), ∃ (r_t_before : Nat → Int32), ∃ (r_t_s : Nat → Int32), ∃ (r_t_judgedAt : Nat → Int32), ∃ (r_t_wagons : Nat → Int32), ∃ (r_t_foremost : Nat → Int32), ∃ (r_t_bears : Nat → Int32), w = (wd_LongTrainModel_judge k a_t d_t i_t j_t r_t_before r_t_s r_t_judgedAt r_t_wagons r_t_foremost r_t_bears) ∧ Q r i_t r_t_before r_t_s r_t_judgedAt r_t_wagons r_t_foremost r_t_bears) D k A ([.ref a_t, .int n1] : List Value).toArray s 0 0) (F0 m 224 ls [])) (hkr_195 : ∀ (x3 : Int32) (r_t_s : Nat → Int32) (H : Heap) (locs : List Loc) (ls : Array Slot), kr_195 x3 r_t_s → Bd D A s.heap (wd_LongTrainModel_judge k a_t d_t i_t j_t r_t_before r_t_s r_t_judgedAt r_t_wagons r_t_foremost r_t_bears) H locs → lv_has ls 5 [(0, .ref a_t), (1, .int x1), (2, .int x2), (3, .int x3)] → W p l e { frames := 6, cells := 0, slots := 0, locals := 137 } s m ([.ref a_t, .int n1] : List Value).toArray below meth c H locs 0 0 (Ei below (fun r w => ∃ (i_t : Nat → Int32), ∃ (r_t_before : Nat → Int32), ∃ (r_t_s : Nat → Int32), ∃ (r_t_judgedAt : Nat → Int32), ∃ (r_t_wagons : Nat → Int32), ∃ (r_t_foremost : Nat → Int32), ∃ (r_t_bears : Nat → Int32), w = (wd_LongTrainModel_judge k a_t d_t i_t j_t r_t_before r_t_s r_t_judgedAt r_t_wagons r_t_foremost r_t_bears) ∧ Q r i_t r_t_before r_t_s r_t_judgedAt r_t_wagons r_t_foremost r_t_bears) D k A ([.ref a_t, .int n1] : List Value).toArray s 0 0) (F0 m 195 ls [])) :
    ∀ (x3 : Int32) (r_t_s : Nat → Int32) (H : Heap) (locs : List Loc) (ls : Array Slot), b_LongTrainModel_judge_195 r_t_before x1 kx_195 kr_195 x3 r_t_s → Bd D A s.heap (wd_LongTrainModel_judge k a_t d_t i_t j_t r_t_before r_t_s r_t_judgedAt r_t_wagons r_t_foremost r_t_bears) H locs → lv_has ls 5 [(0, .ref a_t), (1, .int x1), (2, .int x2), (3, .int x3)] → W p l e { frames := 6, cells := 0, slots := 0, locals := 137 } s m ([.ref a_t, .int n1] : List Value).toArray below meth c H locs 0 0 (Ei below (fun r w => ∃ (i_t : Nat → Int32), ∃ (r_t_before : Nat → Int32), ∃ (r_t_s : Nat → Int32), ∃ (r_t_judgedAt : Nat → Int32), ∃ (r_t_wagons : Nat → Int32), ∃ (r_t_foremost : Nat → Int32), ∃ (r_t_bears : Nat → Int32), w = (wd_LongTrainModel_judge k a_t d_t i_t j_t r_t_before r_t_s r_t_judgedAt r_t_wagons r_t_foremost r_t_bears) ∧ Q r i_t r_t_before r_t_s r_t_judgedAt r_t_wagons r_t_foremost r_t_bears) D k A ([.ref a_t, .int n1] : List Value).toArray s 0 0) (F0 m 195 ls []) := by
  have hx := F.x
  have hb := F.b
  intro x3 r_t_s H locs ls hf hB hl
  unfold b_LongTrainModel_judge_195 at hf
  refine lv_iload_n hx hb dX12_judge_195 rfl (lv_at hl 3 rfl) ?_
  refine lv_sipush (v := 1068) hx hb dX12_judge_196 (by decide) ?_
  refine lv_icmp_ge (tgt := 224) hx hb dX12_judge_199 (by decide) (fun c_42 => ?_) (fun c_42 => ?_)
  · replace hf := hf.1 c_42
    exact hkx_195 _ _ _ _ hf hB (lv_sub hl [2] rfl)
  · replace hf := hf.2 c_42
    refine lv_iload_n hx hb dX12_judge_202 rfl (lv_at hl 1 rfl) ?_
    refine lv_if_ne (tgt := 224) hx hb dX12_judge_203 (by decide) (fun c_41 => ?_) (fun c_41 => ?_)
    · replace hf := hf.1 c_41
      exact hkx_195 _ _ _ _ hf hB (lv_sub hl [2] rfl)
    · replace hf := hf.2 c_41
      refine lv_aload_n hx hb dX12_judge_206 rfl (lv_at hl 0 rfl) ?_
      refine g_get (w := .ref (d_t 6)) F hB 0 rfl fl_RX12_33 rfl dX12_judge_207 ?_
      refine lv_iload_n hx hb dX12_judge_210 rfl (lv_at hl 3 rfl) ?_
      refine lv_aload_n hx hb dX12_judge_211 rfl (lv_at hl 0 rfl) ?_
      refine g_get (w := .ref (d_t 43)) F hB 0 rfl fl_RX12_92 rfl dX12_judge_212 ?_
      refine lv_iload_n hx hb dX12_judge_215 rfl (lv_at hl 3 rfl) ?_
      obtain ⟨h_39, hf⟩ := hf
      refine g_iald F hB 1 rfl h_39 dX12_judge_216 ?_
      obtain ⟨h_40, hf⟩ := hf
      refine g_iast F hB 2 rfl h_40 (wd_LongTrainModel_judge k a_t d_t i_t j_t r_t_before (upd r_t_s (x3).toNatClampNeg (r_t_before (x3).toNatClampNeg)) r_t_judgedAt r_t_wagons r_t_foremost r_t_bears) rfl dX12_judge_217 (fun H locs hB => ?_)
      refine lv_iinc (v := (x3 + 1)) (lv' := [(3, .int (x3 + 1)), (0, .ref a_t), (1, .int x1), (2, .int x2)]) (k := 3) hx hb dX12_judge_218 hl rfl rfl (by decide) rfl (fun ls hl => ?_)
      refine lv_goto (tgt := 195) hx hb dX12_judge_221 (by decide) ?_
      exact hkr_195 _ _ _ _ _ hf hB (lv_sub hl [1, 2, 3, 0] rfl)

set_option maxRecDepth 100000 in
set_option maxHeartbeats 4000000 in
theorem lt_LongTrainModel_judge_195 {p : Program} {l : Launch} {e : Env} {s : State} {m : MethodId} {below : List Frame} {meth : Method} {c : Code} {A : Nat → Prop} {D : va_G} {k : Nat → ClassId} {a_t : Nat} {d_t : Nat → Nat} {i_t : Nat → Int32} {j_t : Nat → Int64} {r_t_before : Nat → Int32} {r_t_judgedAt : Nat → Int32} {r_t_wagons : Nat → Int32} {r_t_foremost : Nat → Int32} {r_t_bears : Nat → Int32} {n1 : Int32} {Q : Int32 → (Nat → Int32) → (Nat → Int32) → (Nat → Int32) → (Nat → Int32) → (Nat → Int32) → (Nat → Int32) → (Nat → Int32) → Prop}  {x1 : Int32} {x2 : Int32} {kx_195 : (Nat → Int32) → Prop} (F : Fx p m c cX12_judge 5 s ([.ref a_t, .int n1] : List Value).toArray RX12 D k) (hr : meth.sig.returnType = (some .int)) (hlk : meth.locks = false) (hA : ∀ q : Nat, s.heap.size ≤ q → A q) (hkx_195 : ∀ (r_t_s : Nat → Int32) (H : Heap) (locs : List Loc) (ls : Array Slot), kx_195 r_t_s → Bd D A s.heap (wd_LongTrainModel_judge k a_t d_t i_t j_t r_t_before r_t_s r_t_judgedAt r_t_wagons r_t_foremost r_t_bears) H locs → lv_has ls 5 [(2, .int x2)] → W p l e { frames := 6, cells := 0, slots := 0, locals := 137 } s m ([.ref a_t, .int n1] : List Value).toArray below meth c H locs 0 0 (Ei below (fun r w => ∃ (i_t : Nat → Int32), ∃ (r_t_before : Nat → Int32), ∃ (r_t_s : Nat → Int32), ∃ (r_t_judgedAt : Nat → Int32), ∃ (r_t_wagons : Nat → Int32), ∃ (r_t_foremost : Nat → Int32), ∃ (r_t_bears : Nat → Int32), w = (wd_LongTrainModel_judge k a_t d_t i_t j_t r_t_before r_t_s r_t_judgedAt r_t_wagons r_t_foremost r_t_bears) ∧ Q r i_t r_t_before r_t_s r_t_judgedAt r_t_wagons r_t_foremost r_t_bears) D k A ([.ref a_t, .int n1] : List Value).toArray s 0 0) (F0 m 224 ls [])) :
    ∀ n : Nat, ∀ (x3 : Int32) (r_t_s : Nat → Int32) (H : Heap) (locs : List Loc) (ls : Array Slot), lp_LongTrainModel_judge_195 r_t_before x1 kx_195 n x3 r_t_s → Bd D A s.heap (wd_LongTrainModel_judge k a_t d_t i_t j_t r_t_before r_t_s r_t_judgedAt r_t_wagons r_t_foremost r_t_bears) H locs → lv_has ls 5 [(0, .ref a_t), (1, .int x1), (2, .int x2), (3, .int x3)] → W p l e { frames := 6, cells := 0, slots := 0, locals := 137 } s m ([.ref a_t, .int n1] : List Value).toArray below meth c H locs 0 0 (Ei below (fun r w => ∃ (i_t : Nat → Int32), ∃ (r_t_before : Nat → Int32), ∃ (r_t_s : Nat → Int32), ∃ (r_t_judgedAt : Nat → Int32), ∃ (r_t_wagons : Nat → Int32), ∃ (r_t_foremost : Nat → Int32), ∃ (r_t_bears : Nat → Int32), w = (wd_LongTrainModel_judge k a_t d_t i_t j_t r_t_before r_t_s r_t_judgedAt r_t_wagons r_t_foremost r_t_bears) ∧ Q r i_t r_t_before r_t_s r_t_judgedAt r_t_wagons r_t_foremost r_t_bears) D k A ([.ref a_t, .int n1] : List Value).toArray s 0 0) (F0 m 195 ls []) := by
  intro n
  induction n with
  | zero => intro x3 r_t_s H locs ls hf; exact absurd hf (fun h => h)
  | succ n ih => exact bt_LongTrainModel_judge_195 F hr hlk hA hkx_195 ih

set_option maxRecDepth 100000 in
set_option maxHeartbeats 4000000 in
theorem jt_LongTrainModel_judge_146 {p : Program} {l : Launch} {e : Env} {s : State} {m : MethodId} {below : List Frame} {meth : Method} {c : Code} {A : Nat → Prop} {D : va_G} {k : Nat → ClassId} {a_t : Nat} {d_t : Nat → Nat} {j_t : Nat → Int64} {n1 : Int32} {Q : Int32 → (Nat → Int32) → (Nat → Int32) → (Nat → Int32) → (Nat → Int32) → (Nat → Int32) → (Nat → Int32) → (Nat → Int32) → Prop}  (F : Fx p m c cX12_judge 5 s ([.ref a_t, .int n1] : List Value).toArray RX12 D k) (hr : meth.sig.returnType = (some .int)) (hlk : meth.locks = false) (hA : ∀ q : Nat, s.heap.size ≤ q → A q) :
    ∀ (i_t : Nat → Int32) (r_t_before : Nat → Int32) (r_t_s : Nat → Int32) (r_t_judgedAt : Nat → Int32) (r_t_wagons : Nat → Int32) (r_t_foremost : Nat → Int32) (r_t_bears : Nat → Int32) (x1 : Int32) (x2 : Int32) (H : Heap) (locs : List Loc) (ls : Array Slot), j_LongTrainModel_judge_146 i_t r_t_before r_t_s r_t_judgedAt r_t_wagons r_t_foremost r_t_bears x1 x2 Q → Bd D A s.heap (wd_LongTrainModel_judge k a_t d_t i_t j_t r_t_before r_t_s r_t_judgedAt r_t_wagons r_t_foremost r_t_bears) H locs → lv_has ls 5 [(0, .ref a_t), (1, .int x1), (2, .int x2)] → W p l e { frames := 6, cells := 0, slots := 0, locals := 137 } s m ([.ref a_t, .int n1] : List Value).toArray below meth c H locs 0 0 (Ei below (fun r w => ∃ (i_t : Nat → Int32), ∃ (r_t_before : Nat → Int32), ∃ (r_t_s : Nat → Int32), ∃ (r_t_judgedAt : Nat → Int32), ∃ (r_t_wagons : Nat → Int32), ∃ (r_t_foremost : Nat → Int32), ∃ (r_t_bears : Nat → Int32), w = (wd_LongTrainModel_judge k a_t d_t i_t j_t r_t_before r_t_s r_t_judgedAt r_t_wagons r_t_foremost r_t_bears) ∧ Q r i_t r_t_before r_t_s r_t_judgedAt r_t_wagons r_t_foremost r_t_bears) D k A ([.ref a_t, .int n1] : List Value).toArray s 0 0) (F0 m 146 ls []) := by
  have hx := F.x
  have hb := F.b
  intro i_t r_t_before r_t_s r_t_judgedAt r_t_wagons r_t_foremost r_t_bears x1 x2 H locs ls hf hB hl
  unfold j_LongTrainModel_judge_146 at hf
  refine lv_aload_n hx hb dX12_judge_146 rfl (lv_at hl 0 rfl) ?_
  refine g_get (w := .ref (d_t 42)) F hB 0 rfl fl_RX12_89 rfl dX12_judge_147 ?_
  refine lv_iconst (v := 3) hx hb dX12_judge_150 (by decide) ?_
  refine lv_aload_n hx hb dX12_judge_151 rfl (lv_at hl 0 rfl) ?_
  refine g_get (w := .ref (d_t 6)) F hB 0 rfl fl_RX12_33 rfl dX12_judge_152 ?_
  refine lv_sipush (v := 483) hx hb dX12_judge_155 (by decide) ?_
  refine g_iald F hB 2 rfl (vp_in_iff.mpr (by decide +kernel)) dX12_judge_158 ?_
  refine W.eq (g2 := F0 m 159 ls [.int (r_t_s 483), .int (3 : Int32), .ref (d_t 42)]) rfl ?_
  refine g_iast F hB 3 rfl (vp_in_iff.mpr (by decide +kernel)) (wd_LongTrainModel_judge k a_t d_t i_t j_t r_t_before r_t_s (upd r_t_judgedAt 3 (r_t_s 483)) r_t_wagons r_t_foremost r_t_bears) rfl dX12_judge_159 (fun H locs hB => ?_)
  refine lv_aload_n hx hb dX12_judge_160 rfl (lv_at hl 0 rfl) ?_
  refine g_get (w := .ref (d_t 42)) F hB 0 rfl fl_RX12_89 rfl dX12_judge_161 ?_
  refine lv_iconst (v := 4) hx hb dX12_judge_164 (by decide) ?_
  refine lv_aload_n hx hb dX12_judge_165 rfl (lv_at hl 0 rfl) ?_
  refine g_get (w := .ref (d_t 6)) F hB 0 rfl fl_RX12_33 rfl dX12_judge_166 ?_
  refine lv_sipush (v := 484) hx hb dX12_judge_169 (by decide) ?_
  refine g_iald F hB 2 rfl (vp_in_iff.mpr (by decide +kernel)) dX12_judge_172 ?_
  refine W.eq (g2 := F0 m 173 ls [.int (r_t_s 484), .int (4 : Int32), .ref (d_t 42)]) rfl ?_
  refine g_iast F hB 3 rfl (vp_in_iff.mpr (by decide +kernel)) (wd_LongTrainModel_judge k a_t d_t i_t j_t r_t_before r_t_s (upd (upd r_t_judgedAt 3 (r_t_s 483)) 4 (r_t_s 484)) r_t_wagons r_t_foremost r_t_bears) rfl dX12_judge_173 (fun H locs hB => ?_)
  refine lv_aload_n hx hb dX12_judge_174 rfl (lv_at hl 0 rfl) ?_
  refine g_get (w := .ref (d_t 42)) F hB 0 rfl fl_RX12_89 rfl dX12_judge_175 ?_
  refine lv_iconst (v := 5) hx hb dX12_judge_178 (by decide) ?_
  refine lv_aload_n hx hb dX12_judge_179 rfl (lv_at hl 0 rfl) ?_
  refine g_get (w := .ref (d_t 6)) F hB 0 rfl fl_RX12_33 rfl dX12_judge_180 ?_
  refine lv_sipush (v := 536) hx hb dX12_judge_183 (by decide) ?_
  refine g_iald F hB 2 rfl (vp_in_iff.mpr (by decide +kernel)) dX12_judge_186 ?_
  refine W.eq (g2 := F0 m 187 ls [.int (r_t_s 536), .int (5 : Int32), .ref (d_t 42)]) rfl ?_
  refine g_iast F hB 3 rfl (vp_in_iff.mpr (by decide +kernel)) (wd_LongTrainModel_judge k a_t d_t i_t j_t r_t_before r_t_s (upd (upd (upd r_t_judgedAt 3 (r_t_s 483)) 4 (r_t_s 484)) 5 (r_t_s 536)) r_t_wagons r_t_foremost r_t_bears) rfl dX12_judge_187 (fun H locs hB => ?_)
  refine lv_aload_n hx hb dX12_judge_188 rfl (lv_at hl 0 rfl) ?_
  refine lv_iconst (v := 1) hx hb dX12_judge_189 (by decide) ?_
  refine g_putz F hB 0 rfl fl_RX12_394 rfl (by decide) (by decide) (wd_LongTrainModel_judge k a_t d_t (upd i_t 44 (1 : Int32)) j_t r_t_before r_t_s (upd (upd (upd r_t_judgedAt 3 (r_t_s 483)) 4 (r_t_s 484)) 5 (r_t_s 536)) r_t_wagons r_t_foremost r_t_bears) rfl dX12_judge_190 (fun H locs hB => ?_)
  refine lv_iconst (v := 0) hx hb dX12_judge_193 (by decide) ?_
  refine lv_istore_n (lv' := [(3, .int (0 : Int32)), (0, .ref a_t), (1, .int x1), (2, .int x2)]) hx hb dX12_judge_194 rfl hl (by decide) rfl (fun ls hl => ?_)
  obtain ⟨n_44, hf⟩ := hf
  refine lt_LongTrainModel_judge_195 F hr hlk hA (fun r_t_s_43 H locs ls hf hB hl => ?_) n_44 _ _ _ _ _ hf hB (lv_sub hl [1, 2, 3, 0] rfl)
  refine lv_iload_n hx hb dX12_judge_224 rfl (lv_at hl 0 rfl) ?_
  exact r_i F hr hlk hB ⟨_, _, _, _, _, _, _, rfl, hf⟩ dX12_judge_225

set_option maxRecDepth 100000 in
set_option maxHeartbeats 4000000 in
theorem c_LongTrainModel_judge (l : Launch) (D : va_G) (k : Nat → ClassId) (a_t : Nat) (d_t : Nat → Nat) (i_t : Nat → Int32) (j_t : Nat → Int64) (r_t_before : Nat → Int32) (r_t_s : Nat → Int32) (r_t_judgedAt : Nat → Int32) (r_t_wagons : Nat → Int32) (r_t_foremost : Nat → Int32) (r_t_bears : Nat → Int32) (n1 : Int32) (Q : Int32 → (Nat → Int32) → (Nat → Int32) → (Nat → Int32) → (Nat → Int32) → (Nat → Int32) → (Nat → Int32) → (Nat → Int32) → Prop)  (hf : w_LongTrainModel_judge i_t r_t_before r_t_s r_t_judgedAt r_t_wagons r_t_foremost r_t_bears n1 Q) : CtI l yX12_judge cX12_judge 5 (some .int) 6 137 0 0 D k [.ref a_t, .int n1] (wd_LongTrainModel_judge k a_t d_t i_t j_t r_t_before r_t_s r_t_judgedAt r_t_wagons r_t_foremost r_t_bears) (fun r w => ∃ (i_t : Nat → Int32), ∃ (r_t_before : Nat → Int32), ∃ (r_t_s : Nat → Int32), ∃ (r_t_judgedAt : Nat → Int32), ∃ (r_t_wagons : Nat → Int32), ∃ (r_t_foremost : Nat → Int32), ∃ (r_t_bears : Nat → Int32), w = (wd_LongTrainModel_judge k a_t d_t i_t j_t r_t_before r_t_s r_t_judgedAt r_t_wagons r_t_foremost r_t_bears) ∧ Q r i_t r_t_before r_t_s r_t_judgedAt r_t_wagons r_t_foremost r_t_bears) := by
  refine CtI.of (by decide) (Nat.le_of_ble_eq_true rfl) ?_
  intro p e s m below meth c A F hr hlk hnm hA hB ls hl
  have hx := F.x
  have hb := F.b
  unfold w_LongTrainModel_judge at hf
  replace hl : lv_has ls 5 [(0, .ref a_t), (1, .int n1)] := hl
  refine lv_aload_n hx hb dX12_judge_0 rfl (lv_at hl 0 rfl) ?_
  refine lv_iconst (v := 0) hx hb dX12_judge_1 (by decide) ?_
  refine g_puti F hB 0 rfl fl_RX12_1 rfl (wd_LongTrainModel_judge k a_t d_t (upd i_t 0 (0 : Int32)) j_t r_t_before r_t_s r_t_judgedAt r_t_wagons r_t_foremost r_t_bears) rfl dX12_judge_2 (fun H locs hB => ?_)
  refine lv_iload_n hx hb dX12_judge_5 rfl (lv_at hl 1 rfl) ?_
  refine lv_iconst (v := 0) hx hb dX12_judge_6 (by decide) ?_
  refine lv_iconst (v := 1) hx hb dX12_judge_7 (by decide) ?_
  refine k_si (wr := [(a_t, ob 12 (rfd d_t) (upd i_t 0 (0 : Int32)) j_t), ((d_t 43), ai k 1068 r_t_before), ((d_t 6), ai k 1068 r_t_s), ((d_t 42), ai k 6 r_t_judgedAt), ((d_t 22), ai k 20 r_t_wagons), ((d_t 23), ai k 20 r_t_foremost), ((d_t 24), ai k 20 r_t_bears)]) (rest := []) F hA hB (c_LongTrainModel_isIn l D k n1 (0 : Int32) (1 : Int32) _  hf) ml_RX12_182 ms_yX12_isIn [] [0, 1, 2, 3, 4, 5, 6] rfl rfl (by decide) (by decide) (by decide) rfl hl.1 rfl (Nat.le_of_ble_eq_true rfl) ⟨Nat.le_of_ble_eq_true rfl, Nat.le_of_ble_eq_true rfl⟩ ⟨Nat.le_of_ble_eq_true rfl, Nat.le_of_ble_eq_true rfl⟩ dX12_judge_8 (fun z_1 w1 H locs hq hB => ?_)
  obtain ⟨h_2, rfl, hf⟩ := hq
  replace hB : Bd D A s.heap (wd_LongTrainModel_judge k a_t d_t (upd i_t 0 (0 : Int32)) j_t r_t_before r_t_s r_t_judgedAt r_t_wagons r_t_foremost r_t_bears) H locs := hB.sub [0, 1, 2, 3, 4, 5, 6] (by decide) rfl
  refine lv_if_ne (tgt := 17) hx hb dX12_judge_11 (by decide) (fun c_48 => ?_) (fun c_48 => ?_)
  · replace hf := hf.1 c_48
    refine lv_iconst (v := 0) hx hb dX12_judge_17 (by decide) ?_
    refine lv_istore_n (lv' := [(2, .int (0 : Int32)), (0, .ref a_t), (1, .int n1)]) hx hb dX12_judge_18 rfl hl (by decide) rfl (fun ls hl => ?_)
    obtain ⟨n_47, hf⟩ := hf
    refine lt_LongTrainModel_judge_19 F hr hlk hA (fun r_t_before_6 H locs ls hf hB hl => ?_) n_47 _ _ _ _ _ hf hB (lv_sub hl [1, 2, 0] rfl)
    refine lv_iconst (v := 0) hx hb dX12_judge_44 (by decide) ?_
    refine lv_istore_n (lv' := [(2, .int (0 : Int32)), (0, .ref a_t), (1, .int n1)]) hx hb dX12_judge_45 rfl hl (by decide) rfl (fun ls hl => ?_)
    obtain ⟨n_46, hf⟩ := hf
    refine lt_LongTrainModel_judge_46 F hr hlk hA (fun r_t_judgedAt_9 H locs ls hf hB hl => ?_) n_46 _ _ _ _ _ hf hB (lv_sub hl [1, 2, 0] rfl)
    refine lv_iconst (v := -1) hx hb dX12_judge_65 (by decide) ?_
    refine lv_istore_n (lv' := [(2, .int (-1 : Int32)), (0, .ref a_t), (1, .int n1)]) hx hb dX12_judge_66 rfl hl (by decide) rfl (fun ls hl => ?_)
    refine lv_iconst (v := 0) hx hb dX12_judge_67 (by decide) ?_
    refine lv_istore_n (lv' := [(3, .int (0 : Int32)), (2, .int (-1 : Int32)), (0, .ref a_t), (1, .int n1)]) hx hb dX12_judge_68 rfl hl (by decide) rfl (fun ls hl => ?_)
    obtain ⟨n_45, hf⟩ := hf
    refine lt_LongTrainModel_judge_69 F hr hlk hA (fun x2_26 i_t_27 r_t_s_28 r_t_judgedAt_29 r_t_wagons_30 r_t_foremost_31 r_t_bears_32 H locs ls hf hB hl => ?_) n_45 _ _ _ _ _ _ _ _ _ _ _ hf hB (lv_sub hl [2, 3, 1, 0] rfl)
    exact jt_LongTrainModel_judge_146 F hr hlk hA _ _ _ _ _ _ _ _ _ _ _ _ hf hB (lv_sub hl [0, 1, 2] rfl)
  · replace hf := hf.2 c_48
    refine lv_bipush (v := -2) hx hb dX12_judge_14 (by decide) ?_
    exact r_i F hr hlk hB ⟨_, _, _, _, _, _, _, rfl, hf⟩ dX12_judge_16

/-! LongTrainModel.judged -/
set_option maxRecDepth 100000 in
set_option maxHeartbeats 4000000 in
theorem c_LongTrainModel_judged (l : Launch) (D : va_G) (k : Nat → ClassId) (a_t : Nat) (d_t : Nat → Nat) (i_t : Nat → Int32) (j_t : Nat → Int64) (r_t_judgedAt : Nat → Int32) (n1 : Int32) (Q : Int32 → (Nat → Int32) → Prop)  (hf : w_LongTrainModel_judged i_t r_t_judgedAt n1 Q) : CtI l yX12_judged cX12_judged 2 (some .int) 1 22 0 0 D k [.ref a_t, .int n1] (wd_LongTrainModel_judged k a_t d_t i_t j_t r_t_judgedAt) (fun r w => ∃ (i_t : Nat → Int32), w = (wd_LongTrainModel_judged k a_t d_t i_t j_t r_t_judgedAt) ∧ Q r i_t) := by
  refine CtI.of (by decide) (Nat.le_of_ble_eq_true rfl) ?_
  intro p e s m below meth c A F hr hlk hnm hA hB ls hl
  have hx := F.x
  have hb := F.b
  unfold w_LongTrainModel_judged at hf
  replace hl : lv_has ls 2 [(0, .ref a_t), (1, .int n1)] := hl
  refine lv_aload_n hx hb dX12_judged_0 rfl (lv_at hl 0 rfl) ?_
  refine lv_iconst (v := 0) hx hb dX12_judged_1 (by decide) ?_
  refine g_puti F hB 0 rfl fl_RX12_1 rfl (wd_LongTrainModel_judged k a_t d_t (upd i_t 0 (0 : Int32)) j_t r_t_judgedAt) rfl dX12_judged_2 (fun H locs hB => ?_)
  refine lv_aload_n hx hb dX12_judged_5 rfl (lv_at hl 0 rfl) ?_
  refine g_get (w := .int ((upd i_t 0 (0 : Int32)) 44)) F hB 0 rfl fl_RX12_394 rfl dX12_judged_6 ?_
  refine lv_if_eq (tgt := 30) hx hb dX12_judged_9 (by decide) (fun c_5 => ?_) (fun c_5 => ?_)
  · replace hf := hf.1 c_5
    refine lv_iconst (v := -1) hx hb dX12_judged_30 (by decide) ?_
    exact r_i F hr hlk hB ⟨_, rfl, hf⟩ dX12_judged_31
  · replace hf := hf.2 c_5
    refine lv_iload_n hx hb dX12_judged_12 rfl (lv_at hl 1 rfl) ?_
    refine lv_iconst (v := 0) hx hb dX12_judged_13 (by decide) ?_
    refine lv_iconst (v := 5) hx hb dX12_judged_14 (by decide) ?_
    refine k_si (wr := [(a_t, ob 12 (rfd d_t) (upd i_t 0 (0 : Int32)) j_t), ((d_t 42), ai k 6 r_t_judgedAt)]) (rest := []) F hA hB (c_LongTrainModel_isIn l D k n1 (0 : Int32) (5 : Int32) _  hf) ml_RX12_182 ms_yX12_isIn [] [0, 1] rfl rfl (by decide) (by decide) (by decide) rfl hl.1 rfl (Nat.le_of_ble_eq_true rfl) ⟨Nat.le_of_ble_eq_true rfl, Nat.le_of_ble_eq_true rfl⟩ ⟨Nat.le_of_ble_eq_true rfl, Nat.le_of_ble_eq_true rfl⟩ dX12_judged_15 (fun z_1 w1 H locs hq hB => ?_)
    obtain ⟨h_2, rfl, hf⟩ := hq
    replace hB : Bd D A s.heap (wd_LongTrainModel_judged k a_t d_t (upd i_t 0 (0 : Int32)) j_t r_t_judgedAt) H locs := hB.sub [0, 1] (by decide) rfl
    refine lv_if_eq (tgt := 30) hx hb dX12_judged_18 (by decide) (fun c_4 => ?_) (fun c_4 => ?_)
    · replace hf := hf.1 c_4
      refine lv_iconst (v := -1) hx hb dX12_judged_30 (by decide) ?_
      exact r_i F hr hlk hB ⟨_, rfl, hf⟩ dX12_judged_31
    · replace hf := hf.2 c_4
      refine lv_aload_n hx hb dX12_judged_21 rfl (lv_at hl 0 rfl) ?_
      refine g_get (w := .ref (d_t 42)) F hB 0 rfl fl_RX12_89 rfl dX12_judged_22 ?_
      refine lv_iload_n hx hb dX12_judged_25 rfl (lv_at hl 1 rfl) ?_
      obtain ⟨h_3, hf⟩ := hf
      refine g_iald F hB 1 rfl h_3 dX12_judged_26 ?_
      refine lv_goto (tgt := 31) hx hb dX12_judged_27 (by decide) ?_
      exact r_i F hr hlk hB ⟨_, rfl, hf⟩ dX12_judged_31

/-! LongTrainModel.draw -/
set_option maxRecDepth 100000 in
set_option maxHeartbeats 4000000 in
theorem c_LongTrainModel_draw (l : Launch) (D : va_G) (k : Nat → ClassId) (a_t : Nat) (d_t : Nat → Nat) (i_t : Nat → Int32) (j_t : Nat → Int64) (n1 : Int32) (Q : Int32 → (Nat → Int32) → Prop)  (hf : w_LongTrainModel_draw i_t n1 Q) : CtI l yX12_draw cX12_draw 2 (some .int) 0 0 0 0 D k [.ref a_t, .int n1] (wd_LongTrainModel_draw k a_t d_t i_t j_t) (fun r w => ∃ (i_t : Nat → Int32), w = (wd_LongTrainModel_draw k a_t d_t i_t j_t) ∧ Q r i_t) := by
  refine CtI.of (by decide) (Nat.le_of_ble_eq_true rfl) ?_
  intro p e s m below meth c A F hr hlk hnm hA hB ls hl
  have hx := F.x
  have hb := F.b
  unfold w_LongTrainModel_draw at hf
  replace hl : lv_has ls 2 [(0, .ref a_t), (1, .int n1)] := hl
  refine lv_aload_n hx hb dX12_draw_0 rfl (lv_at hl 0 rfl) ?_
  refine lv_aload_n hx hb dX12_draw_1 rfl (lv_at hl 0 rfl) ?_
  refine g_get (w := .int (i_t 45)) F hB 0 rfl fl_RX12_398 rfl dX12_draw_2 ?_
  refine lv_ldcw (v := 1103515245) hx hb F.o (F.t _ cst_RX12_401) dX12_draw_5 ?_
  refine lv_imul hx hb dX12_draw_8 ?_
  refine lv_sipush (v := 12345) hx hb dX12_draw_9 (by decide) ?_
  refine lv_iadd hx hb dX12_draw_12 ?_
  refine g_puti F hB 0 rfl fl_RX12_398 rfl (wd_LongTrainModel_draw k a_t d_t (upd i_t 45 (((i_t 45) * (1103515245 : Int32)) + (12345 : Int32))) j_t) rfl dX12_draw_13 (fun H locs hB => ?_)
  refine lv_aload_n hx hb dX12_draw_16 rfl (lv_at hl 0 rfl) ?_
  refine g_get (w := .int ((upd i_t 45 (((i_t 45) * (1103515245 : Int32)) + (12345 : Int32))) 45)) F hB 0 rfl fl_RX12_398 rfl dX12_draw_17 ?_
  refine lv_bipush (v := 8) hx hb dX12_draw_20 (by decide) ?_
  refine lv_iushr (v := (ushr ((upd i_t 45 (((i_t 45) * (1103515245 : Int32)) + (12345 : Int32))) 45) (8 : Int32))) hx hb dX12_draw_22 rfl ?_
  refine lv_iload_n hx hb dX12_draw_23 rfl (lv_at hl 1 rfl) ?_
  obtain ⟨h_1, hf⟩ := hf
  refine lv_irem hx hb dX12_draw_24 h_1 ?_
  exact r_i F hr hlk hB ⟨_, rfl, hf⟩ dX12_draw_25

/-! LongTrainModel.drawnStrength -/
set_option maxRecDepth 100000 in
set_option maxHeartbeats 4000000 in
theorem c_LongTrainModel_drawnStrength (l : Launch) (D : va_G) (k : Nat → ClassId) (a_t : Nat) (d_t : Nat → Nat) (i_t : Nat → Int32) (j_t : Nat → Int64) (r_t_s : Nat → Int32) (n1 : Int32) (Q : Int32 → (Nat → Int32) → Prop)  (hf : w_LongTrainModel_drawnStrength i_t r_t_s n1 Q) : CtI l yX12_drawnStrength cX12_drawnStrength 2 (some .int) 1 21 0 0 D k [.ref a_t, .int n1] (wd_LongTrainModel_drawnStrength k a_t d_t i_t j_t r_t_s) (fun r w => ∃ (i_t : Nat → Int32), w = (wd_LongTrainModel_drawnStrength k a_t d_t i_t j_t r_t_s) ∧ Q r i_t) := by
  refine CtI.of (by decide) (Nat.le_of_ble_eq_true rfl) ?_
  intro p e s m below meth c A F hr hlk hnm hA hB ls hl
  have hx := F.x
  have hb := F.b
  unfold w_LongTrainModel_drawnStrength at hf
  replace hl : lv_has ls 2 [(0, .ref a_t), (1, .int n1)] := hl
  refine lv_aload_n hx hb dX12_drawnStrength_0 rfl (lv_at hl 0 rfl) ?_
  refine lv_iload_n hx hb dX12_drawnStrength_1 rfl (lv_at hl 1 rfl) ?_
  refine k_vi (wr := []) (rest := []) F hA hB (c_LongTrainModel_strengthOf l D k a_t d_t i_t j_t r_t_s n1 _  hf) ml_RX12_312 mv_yX12_strengthOf [0, 1] [] rfl rfl (by decide) (by decide) (by decide) 0 rfl rfl rfl hl.1 rfl (Nat.le_of_ble_eq_true rfl) ⟨Nat.le_of_ble_eq_true rfl, Nat.le_of_ble_eq_true rfl⟩ ⟨Nat.le_of_ble_eq_true rfl, Nat.le_of_ble_eq_true rfl⟩ dX12_drawnStrength_2 (fun z_1 w1 H locs hq hB => ?_)
  obtain ⟨rfl, hf⟩ := hq
  replace hB : Bd D A s.heap (wd_LongTrainModel_drawnStrength k a_t d_t i_t j_t r_t_s) H locs := hB.sub [0, 1] (by decide) rfl
  refine lv_aload_n hx hb dX12_drawnStrength_5 rfl (lv_at hl 0 rfl) ?_
  refine lv_aload_n hx hb dX12_drawnStrength_6 rfl (lv_at hl 0 rfl) ?_
  refine lv_iload_n hx hb dX12_drawnStrength_7 rfl (lv_at hl 1 rfl) ?_
  refine k_vi (wr := []) (rest := [.ref a_t, .int z_1]) F hA hB (c_LongTrainModel_strengthOf l D k a_t d_t i_t j_t r_t_s n1 _  hf) ml_RX12_312 mv_yX12_strengthOf [0, 1] [] rfl rfl (by decide) (by decide) (by decide) 0 rfl rfl rfl hl.1 rfl (Nat.le_of_ble_eq_true rfl) ⟨Nat.le_of_ble_eq_true rfl, Nat.le_of_ble_eq_true rfl⟩ ⟨Nat.le_of_ble_eq_true rfl, Nat.le_of_ble_eq_true rfl⟩ dX12_drawnStrength_8 (fun z_2 w1 H locs hq hB => ?_)
  obtain ⟨rfl, hf⟩ := hq
  replace hB : Bd D A s.heap (wd_LongTrainModel_drawnStrength k a_t d_t i_t j_t r_t_s) H locs := hB.sub [0, 1] (by decide) rfl
  refine lv_iconst (v := 4) hx hb dX12_drawnStrength_11 (by decide) ?_
  refine lv_idiv hx hb dX12_drawnStrength_12 (by decide) ?_
  refine lv_iconst (v := 1) hx hb dX12_drawnStrength_13 (by decide) ?_
  refine lv_iadd hx hb dX12_drawnStrength_14 ?_
  refine k_vi (wr := [((d_t 6), ai k 1068 r_t_s)]) (rest := [.int z_1]) F hA hB (c_LongTrainModel_draw l D k a_t d_t i_t j_t ((z_2 / (4 : Int32)) + (1 : Int32)) _  hf) ml_RX12_402 mv_yX12_draw [0] [1] rfl rfl (by decide) (by decide) (by decide) 0 rfl rfl rfl hl.1 rfl (Nat.le_of_ble_eq_true rfl) ⟨Nat.le_of_ble_eq_true rfl, Nat.le_of_ble_eq_true rfl⟩ ⟨Nat.le_of_ble_eq_true rfl, Nat.le_of_ble_eq_true rfl⟩ dX12_drawnStrength_15 (fun z_4 w1 H locs hq hB => ?_)
  obtain ⟨i_t_3, rfl, hf⟩ := hq
  replace hB : Bd D A s.heap (wd_LongTrainModel_drawnStrength k a_t d_t i_t_3 j_t r_t_s) H locs := hB.sub [1, 0] (by decide) rfl
  refine lv_isub hx hb dX12_drawnStrength_18 ?_
  exact r_i F hr hlk hB ⟨_, rfl, hf⟩ dX12_drawnStrength_19

/-! LongTrainModel.betOf -/
set_option maxRecDepth 100000 in
set_option maxHeartbeats 4000000 in
theorem bt_LongTrainModel_betOf_12 {p : Program} {l : Launch} {e : Env} {s : State} {m : MethodId} {below : List Frame} {meth : Method} {c : Code} {A : Nat → Prop} {D : va_G} {k : Nat → ClassId} {a_t : Nat} {d_t : Nat → Nat} {j_t : Nat → Int64} {r_t_s : Nat → Int32} {r_t_foremost : Nat → Int32} {r_t_bears : Nat → Int32} {n1 : Int32} {Q : Int32 → (Nat → Int32) → (Nat → Int32) → (Nat → Int32) → (Nat → Int32) → (Nat → Int32) → (Nat → Int32) → Prop}  {kx_12 : (Nat → Int32) → (Nat → Int32) → (Nat → Int32) → (Nat → Int32) → Prop} {kr_12 : (Int32) → (Nat → Int32) → (Nat → Int32) → (Nat → Int32) → (Nat → Int32) → Prop} (F : Fx p m c cX12_betOf 4 s ([.ref a_t, .int n1] : List Value).toArray RX12 D k) (hr : meth.sig.returnType = (some .int)) (hlk : meth.locks = false) (hA : ∀ q : Nat, s.heap.size ≤ q → A q) (hkx_12 : ∀ (i_t : Nat → Int32) (r_t_wagons : Nat → Int32) (r_t_strengths : Nat → Int32) (r_t_worn : Nat → Int32) (H : Heap) (locs : List Loc) (ls : Array Slot), kx_12 i_t r_t_wagons r_t_strengths r_t_worn → Bd D A s.heap (wd_LongTrainModel_betOf k a_t d_t i_t j_t r_t_s r_t_foremost r_t_wagons r_t_bears r_t_strengths r_t_worn) H locs → lv_has ls 4 [(0, .ref a_t)] → W p l e { frames := 3, cells := 0, slots := 0, locals := 67 } s m ([.ref a_t, .int n1] : List Value).toArray below meth c H locs 0 0 (Ei below (fun r w => ∃ (i_t : Nat → Int32), ∃ (r_t_foremost : Nat → Int32), ∃ (r_t_wagons : Nat → Int32), ∃ (r_t_bears : Nat → Int32), ∃ (r_t_strengths : Nat → Int32), ∃ (r_t_worn : Nat → Int32), w = (wd_LongTrainModel_betOf k a_t d_t i_t j_t r_t_s r_t_foremost r_t_wagons r_t_bears r_t_strengths r_t_worn) ∧ Q r i_t r_t_foremost r_t_wagons r_t_bears r_t_strengths r_t_worn) D k A ([.ref a_t, .int n1] : List Value).toArray s 0 0) (F0 m 58 ls [])) (hkr_12 : ∀ (x2 : Int32) (i_t : Nat → Int32) (r_t_wagons : Nat → Int32) (r_t_strengths : Nat → Int32) (r_t_worn : Nat → Int32) (H : Heap) (locs : List Loc) (ls : Array Slot), kr_12 x2 i_t r_t_wagons r_t_strengths r_t_worn → Bd D A s.heap (wd_LongTrainModel_betOf k a_t d_t i_t j_t r_t_s r_t_foremost r_t_wagons r_t_bears r_t_strengths r_t_worn) H locs → lv_has ls 4 [(0, .ref a_t), (2, .int x2)] → W p l e { frames := 3, cells := 0, slots := 0, locals := 67 } s m ([.ref a_t, .int n1] : List Value).toArray below meth c H locs 0 0 (Ei below (fun r w => ∃ (i_t : Nat → Int32), ∃ (r_t_foremost : Nat → Int32), ∃ (r_t_wagons : Nat → Int32), ∃ (r_t_bears : Nat → Int32), ∃ (r_t_strengths : Nat → Int32), ∃ (r_t_worn : Nat → Int32), w = (wd_LongTrainModel_betOf k a_t d_t i_t j_t r_t_s r_t_foremost r_t_wagons r_t_bears r_t_strengths r_t_worn) ∧ Q r i_t r_t_foremost r_t_wagons r_t_bears r_t_strengths r_t_worn) D k A ([.ref a_t, .int n1] : List Value).toArray s 0 0) (F0 m 12 ls [])) :
    ∀ (x2 : Int32) (i_t : Nat → Int32) (r_t_wagons : Nat → Int32) (r_t_strengths : Nat → Int32) (r_t_worn : Nat → Int32) (H : Heap) (locs : List Loc) (ls : Array Slot), b_LongTrainModel_betOf_12 r_t_s kx_12 kr_12 x2 i_t r_t_wagons r_t_strengths r_t_worn → Bd D A s.heap (wd_LongTrainModel_betOf k a_t d_t i_t j_t r_t_s r_t_foremost r_t_wagons r_t_bears r_t_strengths r_t_worn) H locs → lv_has ls 4 [(0, .ref a_t), (2, .int x2)] → W p l e { frames := 3, cells := 0, slots := 0, locals := 67 } s m ([.ref a_t, .int n1] : List Value).toArray below meth c H locs 0 0 (Ei below (fun r w => ∃ (i_t : Nat → Int32), ∃ (r_t_foremost : Nat → Int32), ∃ (r_t_wagons : Nat → Int32), ∃ (r_t_bears : Nat → Int32), ∃ (r_t_strengths : Nat → Int32), ∃ (r_t_worn : Nat → Int32), w = (wd_LongTrainModel_betOf k a_t d_t i_t j_t r_t_s r_t_foremost r_t_wagons r_t_bears r_t_strengths r_t_worn) ∧ Q r i_t r_t_foremost r_t_wagons r_t_bears r_t_strengths r_t_worn) D k A ([.ref a_t, .int n1] : List Value).toArray s 0 0) (F0 m 12 ls []) := by
  have hx := F.x
  have hb := F.b
  intro x2 i_t r_t_wagons r_t_strengths r_t_worn H locs ls hf hB hl
  unfold b_LongTrainModel_betOf_12 at hf
  refine lv_iload_n hx hb dX12_betOf_12 rfl (lv_at hl 1 rfl) ?_
  refine lv_aload_n hx hb dX12_betOf_13 rfl (lv_at hl 0 rfl) ?_
  refine g_get (w := .ref (d_t 6)) F hB 0 rfl fl_RX12_33 rfl dX12_betOf_14 ?_
  refine lv_bipush (v := 10) hx hb dX12_betOf_17 (by decide) ?_
  refine g_iald F hB 1 rfl (vp_in_iff.mpr (by decide +kernel)) dX12_betOf_19 ?_
  refine W.eq (g2 := F0 m 20 ls [.int (r_t_s 10), .int x2]) rfl ?_
  refine lv_icmp_ge (tgt := 58) hx hb dX12_betOf_20 (by decide) (fun c_10 => ?_) (fun c_10 => ?_)
  · replace hf := hf.1 c_10
    exact hkx_12 _ _ _ _ _ _ _ hf hB (lv_sub hl [0] rfl)
  · replace hf := hf.2 c_10
    refine lv_aload_n hx hb dX12_betOf_23 rfl (lv_at hl 0 rfl) ?_
    refine lv_iload_n hx hb dX12_betOf_24 rfl (lv_at hl 1 rfl) ?_
    refine lv_aload_n hx hb dX12_betOf_25 rfl (lv_at hl 0 rfl) ?_
    refine g_get (w := .ref (d_t 6)) F hB 0 rfl fl_RX12_33 rfl dX12_betOf_26 ?_
    refine lv_sipush (v := 475) hx hb dX12_betOf_29 (by decide) ?_
    refine lv_iload_n hx hb dX12_betOf_32 rfl (lv_at hl 1 rfl) ?_
    refine lv_iadd hx hb dX12_betOf_33 ?_
    obtain ⟨h_2, hf⟩ := hf
    refine g_iald F hB 1 rfl h_2 dX12_betOf_34 ?_
    refine lv_aload_n hx hb dX12_betOf_35 rfl (lv_at hl 0 rfl) ?_
    refine lv_aload_n hx hb dX12_betOf_36 rfl (lv_at hl 0 rfl) ?_
    refine g_get (w := .ref (d_t 6)) F hB 0 rfl fl_RX12_33 rfl dX12_betOf_37 ?_
    refine lv_sipush (v := 475) hx hb dX12_betOf_40 (by decide) ?_
    refine lv_iload_n hx hb dX12_betOf_43 rfl (lv_at hl 1 rfl) ?_
    refine lv_iadd hx hb dX12_betOf_44 ?_
    obtain ⟨h_3, hf⟩ := hf
    refine g_iald F hB 1 rfl h_3 dX12_betOf_45 ?_
    refine k_vi (wr := [((d_t 23), ai k 20 r_t_foremost), ((d_t 22), ai k 20 r_t_wagons), ((d_t 24), ai k 20 r_t_bears), ((d_t 25), ai k 20 r_t_strengths), ((d_t 26), ai k 20 r_t_worn)]) (rest := [.int (r_t_s (((475 : Int32) + x2)).toNatClampNeg), .int x2, .ref a_t]) F hA hB (c_LongTrainModel_drawnStrength l D k a_t d_t i_t j_t r_t_s (r_t_s (((475 : Int32) + x2)).toNatClampNeg) _  hf) ml_RX12_405 mv_yX12_drawnStrength [0, 1] [2, 3, 4, 5, 6] rfl rfl (by decide) (by decide) (by decide) 0 rfl rfl rfl hl.1 rfl (Nat.le_of_ble_eq_true rfl) ⟨Nat.le_of_ble_eq_true rfl, Nat.le_of_ble_eq_true rfl⟩ ⟨Nat.le_of_ble_eq_true rfl, Nat.le_of_ble_eq_true rfl⟩ dX12_betOf_46 (fun z_5 w1 H locs hq hB => ?_)
    obtain ⟨i_t_4, rfl, hf⟩ := hq
    replace hB : Bd D A s.heap (wd_LongTrainModel_betOf k a_t d_t i_t_4 j_t r_t_s r_t_foremost r_t_wagons r_t_bears r_t_strengths r_t_worn) H locs := hB.sub [5, 6, 0, 1, 2, 3, 4] (by decide) rfl
    refine k_vv (wr := [((d_t 6), ai k 1068 r_t_s), ((d_t 23), ai k 20 r_t_foremost), ((d_t 24), ai k 20 r_t_bears)]) (rest := []) F hA hB (c_LongTrainModel_inserts l D k a_t d_t i_t_4 j_t r_t_wagons r_t_strengths r_t_worn x2 (r_t_s (((475 : Int32) + x2)).toNatClampNeg) z_5 _  hf) ml_RX12_319 mv_yX12_inserts [0, 3, 5, 6] [1, 2, 4] rfl rfl (by decide) (by decide) (by decide) 0 rfl rfl rfl hl.1 rfl (Nat.le_of_ble_eq_true rfl) ⟨Nat.le_of_ble_eq_true rfl, Nat.le_of_ble_eq_true rfl⟩ ⟨Nat.le_of_ble_eq_true rfl, Nat.le_of_ble_eq_true rfl⟩ dX12_betOf_49 (fun w1 H locs hq hB => ?_)
    obtain ⟨i_t_6, r_t_wagons_7, r_t_strengths_8, r_t_worn_9, rfl, hf⟩ := hq
    replace hB : Bd D A s.heap (wd_LongTrainModel_betOf k a_t d_t i_t_6 j_t r_t_s r_t_foremost r_t_wagons_7 r_t_bears r_t_strengths_8 r_t_worn_9) H locs := hB.sub [3, 0, 1, 4, 2, 5, 6] (by decide) rfl
    refine lv_iinc (v := (x2 + 1)) (lv' := [(2, .int (x2 + 1)), (0, .ref a_t)]) (k := 1) hx hb dX12_betOf_52 hl rfl rfl (by decide) rfl (fun ls hl => ?_)
    refine lv_goto (tgt := 12) hx hb dX12_betOf_55 (by decide) ?_
    exact hkr_12 _ _ _ _ _ _ _ _ hf hB (lv_sub hl [1, 0] rfl)

set_option maxRecDepth 100000 in
set_option maxHeartbeats 4000000 in
theorem lt_LongTrainModel_betOf_12 {p : Program} {l : Launch} {e : Env} {s : State} {m : MethodId} {below : List Frame} {meth : Method} {c : Code} {A : Nat → Prop} {D : va_G} {k : Nat → ClassId} {a_t : Nat} {d_t : Nat → Nat} {j_t : Nat → Int64} {r_t_s : Nat → Int32} {r_t_foremost : Nat → Int32} {r_t_bears : Nat → Int32} {n1 : Int32} {Q : Int32 → (Nat → Int32) → (Nat → Int32) → (Nat → Int32) → (Nat → Int32) → (Nat → Int32) → (Nat → Int32) → Prop}  {kx_12 : (Nat → Int32) → (Nat → Int32) → (Nat → Int32) → (Nat → Int32) → Prop} (F : Fx p m c cX12_betOf 4 s ([.ref a_t, .int n1] : List Value).toArray RX12 D k) (hr : meth.sig.returnType = (some .int)) (hlk : meth.locks = false) (hA : ∀ q : Nat, s.heap.size ≤ q → A q) (hkx_12 : ∀ (i_t : Nat → Int32) (r_t_wagons : Nat → Int32) (r_t_strengths : Nat → Int32) (r_t_worn : Nat → Int32) (H : Heap) (locs : List Loc) (ls : Array Slot), kx_12 i_t r_t_wagons r_t_strengths r_t_worn → Bd D A s.heap (wd_LongTrainModel_betOf k a_t d_t i_t j_t r_t_s r_t_foremost r_t_wagons r_t_bears r_t_strengths r_t_worn) H locs → lv_has ls 4 [(0, .ref a_t)] → W p l e { frames := 3, cells := 0, slots := 0, locals := 67 } s m ([.ref a_t, .int n1] : List Value).toArray below meth c H locs 0 0 (Ei below (fun r w => ∃ (i_t : Nat → Int32), ∃ (r_t_foremost : Nat → Int32), ∃ (r_t_wagons : Nat → Int32), ∃ (r_t_bears : Nat → Int32), ∃ (r_t_strengths : Nat → Int32), ∃ (r_t_worn : Nat → Int32), w = (wd_LongTrainModel_betOf k a_t d_t i_t j_t r_t_s r_t_foremost r_t_wagons r_t_bears r_t_strengths r_t_worn) ∧ Q r i_t r_t_foremost r_t_wagons r_t_bears r_t_strengths r_t_worn) D k A ([.ref a_t, .int n1] : List Value).toArray s 0 0) (F0 m 58 ls [])) :
    ∀ n : Nat, ∀ (x2 : Int32) (i_t : Nat → Int32) (r_t_wagons : Nat → Int32) (r_t_strengths : Nat → Int32) (r_t_worn : Nat → Int32) (H : Heap) (locs : List Loc) (ls : Array Slot), lp_LongTrainModel_betOf_12 r_t_s kx_12 n x2 i_t r_t_wagons r_t_strengths r_t_worn → Bd D A s.heap (wd_LongTrainModel_betOf k a_t d_t i_t j_t r_t_s r_t_foremost r_t_wagons r_t_bears r_t_strengths r_t_worn) H locs → lv_has ls 4 [(0, .ref a_t), (2, .int x2)] → W p l e { frames := 3, cells := 0, slots := 0, locals := 67 } s m ([.ref a_t, .int n1] : List Value).toArray below meth c H locs 0 0 (Ei below (fun r w => ∃ (i_t : Nat → Int32), ∃ (r_t_foremost : Nat → Int32), ∃ (r_t_wagons : Nat → Int32), ∃ (r_t_bears : Nat → Int32), ∃ (r_t_strengths : Nat → Int32), ∃ (r_t_worn : Nat → Int32), w = (wd_LongTrainModel_betOf k a_t d_t i_t j_t r_t_s r_t_foremost r_t_wagons r_t_bears r_t_strengths r_t_worn) ∧ Q r i_t r_t_foremost r_t_wagons r_t_bears r_t_strengths r_t_worn) D k A ([.ref a_t, .int n1] : List Value).toArray s 0 0) (F0 m 12 ls []) := by
  intro n
  induction n with
  | zero => intro x2 i_t r_t_wagons r_t_strengths r_t_worn H locs ls hf; exact absurd hf (fun h => h)
  | succ n ih => exact bt_LongTrainModel_betOf_12 F hr hlk hA hkx_12 ih

set_option maxRecDepth 100000 in
set_option maxHeartbeats 4000000 in
theorem bt_LongTrainModel_betOf_60 {p : Program} {l : Launch} {e : Env} {s : State} {m : MethodId} {below : List Frame} {meth : Method} {c : Code} {A : Nat → Prop} {D : va_G} {k : Nat → ClassId} {a_t : Nat} {d_t : Nat → Nat} {j_t : Nat → Int64} {r_t_s : Nat → Int32} {n1 : Int32} {Q : Int32 → (Nat → Int32) → (Nat → Int32) → (Nat → Int32) → (Nat → Int32) → (Nat → Int32) → (Nat → Int32) → Prop}  {kx_60 : (Nat → Int32) → (Nat → Int32) → (Nat → Int32) → (Nat → Int32) → (Nat → Int32) → (Nat → Int32) → Prop} {kr_60 : (Int32) → (Nat → Int32) → (Nat → Int32) → (Nat → Int32) → (Nat → Int32) → (Nat → Int32) → (Nat → Int32) → Prop} (F : Fx p m c cX12_betOf 4 s ([.ref a_t, .int n1] : List Value).toArray RX12 D k) (hr : meth.sig.returnType = (some .int)) (hlk : meth.locks = false) (hA : ∀ q : Nat, s.heap.size ≤ q → A q) (hkx_60 : ∀ (i_t : Nat → Int32) (r_t_foremost : Nat → Int32) (r_t_wagons : Nat → Int32) (r_t_bears : Nat → Int32) (r_t_strengths : Nat → Int32) (r_t_worn : Nat → Int32) (H : Heap) (locs : List Loc) (ls : Array Slot), kx_60 i_t r_t_foremost r_t_wagons r_t_bears r_t_strengths r_t_worn → Bd D A s.heap (wd_LongTrainModel_betOf k a_t d_t i_t j_t r_t_s r_t_foremost r_t_wagons r_t_bears r_t_strengths r_t_worn) H locs → lv_has ls 4 [] → W p l e { frames := 3, cells := 0, slots := 0, locals := 67 } s m ([.ref a_t, .int n1] : List Value).toArray below meth c H locs 0 0 (Ei below (fun r w => ∃ (i_t : Nat → Int32), ∃ (r_t_foremost : Nat → Int32), ∃ (r_t_wagons : Nat → Int32), ∃ (r_t_bears : Nat → Int32), ∃ (r_t_strengths : Nat → Int32), ∃ (r_t_worn : Nat → Int32), w = (wd_LongTrainModel_betOf k a_t d_t i_t j_t r_t_s r_t_foremost r_t_wagons r_t_bears r_t_strengths r_t_worn) ∧ Q r i_t r_t_foremost r_t_wagons r_t_bears r_t_strengths r_t_worn) D k A ([.ref a_t, .int n1] : List Value).toArray s 0 0) (F0 m 127 ls [])) (hkr_60 : ∀ (x2 : Int32) (i_t : Nat → Int32) (r_t_foremost : Nat → Int32) (r_t_wagons : Nat → Int32) (r_t_bears : Nat → Int32) (r_t_strengths : Nat → Int32) (r_t_worn : Nat → Int32) (H : Heap) (locs : List Loc) (ls : Array Slot), kr_60 x2 i_t r_t_foremost r_t_wagons r_t_bears r_t_strengths r_t_worn → Bd D A s.heap (wd_LongTrainModel_betOf k a_t d_t i_t j_t r_t_s r_t_foremost r_t_wagons r_t_bears r_t_strengths r_t_worn) H locs → lv_has ls 4 [(0, .ref a_t), (2, .int x2)] → W p l e { frames := 3, cells := 0, slots := 0, locals := 67 } s m ([.ref a_t, .int n1] : List Value).toArray below meth c H locs 0 0 (Ei below (fun r w => ∃ (i_t : Nat → Int32), ∃ (r_t_foremost : Nat → Int32), ∃ (r_t_wagons : Nat → Int32), ∃ (r_t_bears : Nat → Int32), ∃ (r_t_strengths : Nat → Int32), ∃ (r_t_worn : Nat → Int32), w = (wd_LongTrainModel_betOf k a_t d_t i_t j_t r_t_s r_t_foremost r_t_wagons r_t_bears r_t_strengths r_t_worn) ∧ Q r i_t r_t_foremost r_t_wagons r_t_bears r_t_strengths r_t_worn) D k A ([.ref a_t, .int n1] : List Value).toArray s 0 0) (F0 m 60 ls [])) :
    ∀ (x2 : Int32) (i_t : Nat → Int32) (r_t_foremost : Nat → Int32) (r_t_wagons : Nat → Int32) (r_t_bears : Nat → Int32) (r_t_strengths : Nat → Int32) (r_t_worn : Nat → Int32) (H : Heap) (locs : List Loc) (ls : Array Slot), b_LongTrainModel_betOf_60 r_t_s Q kx_60 kr_60 x2 i_t r_t_foremost r_t_wagons r_t_bears r_t_strengths r_t_worn → Bd D A s.heap (wd_LongTrainModel_betOf k a_t d_t i_t j_t r_t_s r_t_foremost r_t_wagons r_t_bears r_t_strengths r_t_worn) H locs → lv_has ls 4 [(0, .ref a_t), (2, .int x2)] → W p l e { frames := 3, cells := 0, slots := 0, locals := 67 } s m ([.ref a_t, .int n1] : List Value).toArray below meth c H locs 0 0 (Ei below (fun r w => ∃ (i_t : Nat → Int32), ∃ (r_t_foremost : Nat → Int32), ∃ (r_t_wagons : Nat → Int32), ∃ (r_t_bears : Nat → Int32), ∃ (r_t_strengths : Nat → Int32), ∃ (r_t_worn : Nat → Int32), w = (wd_LongTrainModel_betOf k a_t d_t i_t j_t r_t_s r_t_foremost r_t_wagons r_t_bears r_t_strengths r_t_worn) ∧ Q r i_t r_t_foremost r_t_wagons r_t_bears r_t_strengths r_t_worn) D k A ([.ref a_t, .int n1] : List Value).toArray s 0 0) (F0 m 60 ls []) := by
  have hx := F.x
  have hb := F.b
  intro x2 i_t r_t_foremost r_t_wagons r_t_bears r_t_strengths r_t_worn H locs ls hf hB hl
  unfold b_LongTrainModel_betOf_60 at hf
  refine lv_iload_n hx hb dX12_betOf_60 rfl (lv_at hl 1 rfl) ?_
  refine lv_aload_n hx hb dX12_betOf_61 rfl (lv_at hl 0 rfl) ?_
  refine g_get (w := .ref (d_t 6)) F hB 0 rfl fl_RX12_33 rfl dX12_betOf_62 ?_
  refine lv_iconst (v := 0) hx hb dX12_betOf_65 (by decide) ?_
  refine g_iald F hB 1 rfl (vp_in_iff.mpr (by decide +kernel)) dX12_betOf_66 ?_
  refine W.eq (g2 := F0 m 67 ls [.int (r_t_s 0), .int x2]) rfl ?_
  refine lv_icmp_ge (tgt := 127) hx hb dX12_betOf_67 (by decide) (fun c_34 => ?_) (fun c_34 => ?_)
  · replace hf := hf.1 c_34
    exact hkx_60 _ _ _ _ _ _ _ _ _ hf hB (lv_sub hl [] rfl)
  · replace hf := hf.2 c_34
    refine lv_aload_n hx hb dX12_betOf_70 rfl (lv_at hl 0 rfl) ?_
    refine lv_iload_n hx hb dX12_betOf_71 rfl (lv_at hl 1 rfl) ?_
    refine k_vi (wr := []) (rest := []) F hA hB (c_LongTrainModel_parts l D k a_t d_t i_t j_t r_t_foremost r_t_wagons r_t_s r_t_bears r_t_strengths r_t_worn x2 _  hf) ml_RX12_329 mv_yX12_parts [0, 2, 3, 1, 4, 5, 6] [] rfl rfl (by decide) (by decide) (by decide) 0 rfl rfl rfl hl.1 rfl (Nat.le_of_ble_eq_true rfl) ⟨Nat.le_of_ble_eq_true rfl, Nat.le_of_ble_eq_true rfl⟩ ⟨Nat.le_of_ble_eq_true rfl, Nat.le_of_ble_eq_true rfl⟩ dX12_betOf_72 (fun z_20 w1 H locs hq hB => ?_)
    obtain ⟨h_21, i_t_16, r_t_foremost_17, r_t_bears_18, r_t_worn_19, rfl, hf⟩ := hq
    replace hB : Bd D A s.heap (wd_LongTrainModel_betOf k a_t d_t i_t_16 j_t r_t_s r_t_foremost_17 r_t_wagons r_t_bears_18 r_t_strengths r_t_worn_19) H locs := hB.sub [0, 3, 1, 2, 4, 5, 6] (by decide) rfl
    refine lv_if_eq (tgt := 80) hx hb dX12_betOf_75 (by decide) (fun c_33 => ?_) (fun c_33 => ?_)
    · replace hf := hf.1 c_33
      refine lv_aload_n hx hb dX12_betOf_80 rfl (lv_at hl 0 rfl) ?_
      refine lv_iload_n hx hb dX12_betOf_81 rfl (lv_at hl 1 rfl) ?_
      refine k_vi (wr := [((d_t 23), ai k 20 r_t_foremost_17), ((d_t 22), ai k 20 r_t_wagons), ((d_t 24), ai k 20 r_t_bears_18), ((d_t 25), ai k 20 r_t_strengths), ((d_t 26), ai k 20 r_t_worn_19)]) (rest := []) F hA hB (c_LongTrainModel_haltOf l D k a_t d_t i_t_16 j_t r_t_s x2 _  hf) ml_RX12_332 mv_yX12_haltOf [0, 1] [2, 3, 4, 5, 6] rfl rfl (by decide) (by decide) (by decide) 0 rfl rfl rfl hl.1 rfl (Nat.le_of_ble_eq_true rfl) ⟨Nat.le_of_ble_eq_true rfl, Nat.le_of_ble_eq_true rfl⟩ ⟨Nat.le_of_ble_eq_true rfl, Nat.le_of_ble_eq_true rfl⟩ dX12_betOf_82 (fun z_22 w1 H locs hq hB => ?_)
      obtain ⟨rfl, hf⟩ := hq
      replace hB : Bd D A s.heap (wd_LongTrainModel_betOf k a_t d_t i_t_16 j_t r_t_s r_t_foremost_17 r_t_wagons r_t_bears_18 r_t_strengths r_t_worn_19) H locs := hB.sub [5, 6, 0, 1, 2, 3, 4] (by decide) rfl
      refine lv_istore_n (lv' := [(3, .int z_22), (0, .ref a_t), (2, .int x2)]) hx hb dX12_betOf_85 rfl hl (by decide) rfl (fun ls hl => ?_)
      refine lv_iload_n hx hb dX12_betOf_86 rfl (lv_at hl 0 rfl) ?_
      refine lv_if_lt (tgt := 121) hx hb dX12_betOf_87 (by decide) (fun c_32 => ?_) (fun c_32 => ?_)
      · replace hf := hf.1 c_32
        refine lv_iinc (v := (x2 + 1)) (lv' := [(2, .int (x2 + 1)), (3, .int z_22), (0, .ref a_t)]) (k := 2) hx hb dX12_betOf_121 hl rfl rfl (by decide) rfl (fun ls hl => ?_)
        refine lv_goto (tgt := 60) hx hb dX12_betOf_124 (by decide) ?_
        exact hkr_60 _ _ _ _ _ _ _ _ _ _ hf hB (lv_sub hl [2, 0] rfl)
      · replace hf := hf.2 c_32
        refine lv_aload_n hx hb dX12_betOf_90 rfl (lv_at hl 1 rfl) ?_
        refine g_get (w := .int (i_t_16 27)) F hB 0 rfl fl_RX12_270 rfl dX12_betOf_91 ?_
        refine lv_bipush (v := 20) hx hb dX12_betOf_94 (by decide) ?_
        refine lv_icmp_ge (tgt := 121) hx hb dX12_betOf_96 (by decide) (fun c_31 => ?_) (fun c_31 => ?_)
        · replace hf := hf.1 c_31
          refine lv_iinc (v := (x2 + 1)) (lv' := [(2, .int (x2 + 1)), (3, .int z_22), (0, .ref a_t)]) (k := 2) hx hb dX12_betOf_121 hl rfl rfl (by decide) rfl (fun ls hl => ?_)
          refine lv_goto (tgt := 60) hx hb dX12_betOf_124 (by decide) ?_
          exact hkr_60 _ _ _ _ _ _ _ _ _ _ hf hB (lv_sub hl [2, 0] rfl)
        · replace hf := hf.2 c_31
          refine lv_aload_n hx hb dX12_betOf_99 rfl (lv_at hl 1 rfl) ?_
          refine lv_aload_n hx hb dX12_betOf_100 rfl (lv_at hl 1 rfl) ?_
          refine g_get (w := .int (i_t_16 27)) F hB 0 rfl fl_RX12_270 rfl dX12_betOf_101 ?_
          refine lv_aload_n hx hb dX12_betOf_104 rfl (lv_at hl 1 rfl) ?_
          refine lv_iload_n hx hb dX12_betOf_105 rfl (lv_at hl 0 rfl) ?_
          refine k_vi (wr := [((d_t 23), ai k 20 r_t_foremost_17), ((d_t 22), ai k 20 r_t_wagons), ((d_t 24), ai k 20 r_t_bears_18), ((d_t 25), ai k 20 r_t_strengths), ((d_t 26), ai k 20 r_t_worn_19)]) (rest := [.int (i_t_16 27), .ref a_t]) F hA hB (c_LongTrainModel_addsOf l D k a_t d_t i_t_16 j_t r_t_s z_22 _  hf) ml_RX12_264 mv_yX12_addsOf [0, 1] [2, 3, 4, 5, 6] rfl rfl (by decide) (by decide) (by decide) 0 rfl rfl rfl hl.1 rfl (Nat.le_of_ble_eq_true rfl) ⟨Nat.le_of_ble_eq_true rfl, Nat.le_of_ble_eq_true rfl⟩ ⟨Nat.le_of_ble_eq_true rfl, Nat.le_of_ble_eq_true rfl⟩ dX12_betOf_106 (fun z_23 w1 H locs hq hB => ?_)
          obtain ⟨rfl, hf⟩ := hq
          replace hB : Bd D A s.heap (wd_LongTrainModel_betOf k a_t d_t i_t_16 j_t r_t_s r_t_foremost_17 r_t_wagons r_t_bears_18 r_t_strengths r_t_worn_19) H locs := hB.sub [5, 6, 0, 1, 2, 3, 4] (by decide) rfl
          refine lv_aload_n hx hb dX12_betOf_109 rfl (lv_at hl 1 rfl) ?_
          refine lv_aload_n hx hb dX12_betOf_110 rfl (lv_at hl 1 rfl) ?_
          refine lv_iload_n hx hb dX12_betOf_111 rfl (lv_at hl 0 rfl) ?_
          refine k_vi (wr := [((d_t 23), ai k 20 r_t_foremost_17), ((d_t 22), ai k 20 r_t_wagons), ((d_t 24), ai k 20 r_t_bears_18), ((d_t 25), ai k 20 r_t_strengths), ((d_t 26), ai k 20 r_t_worn_19)]) (rest := [.ref a_t, .int z_23, .int (i_t_16 27), .ref a_t]) F hA hB (c_LongTrainModel_addsOf l D k a_t d_t i_t_16 j_t r_t_s z_22 _  hf) ml_RX12_264 mv_yX12_addsOf [0, 1] [2, 3, 4, 5, 6] rfl rfl (by decide) (by decide) (by decide) 0 rfl rfl rfl hl.1 rfl (Nat.le_of_ble_eq_true rfl) ⟨Nat.le_of_ble_eq_true rfl, Nat.le_of_ble_eq_true rfl⟩ ⟨Nat.le_of_ble_eq_true rfl, Nat.le_of_ble_eq_true rfl⟩ dX12_betOf_112 (fun z_24 w1 H locs hq hB => ?_)
          obtain ⟨rfl, hf⟩ := hq
          replace hB : Bd D A s.heap (wd_LongTrainModel_betOf k a_t d_t i_t_16 j_t r_t_s r_t_foremost_17 r_t_wagons r_t_bears_18 r_t_strengths r_t_worn_19) H locs := hB.sub [5, 6, 0, 1, 2, 3, 4] (by decide) rfl
          refine k_vi (wr := [((d_t 23), ai k 20 r_t_foremost_17), ((d_t 22), ai k 20 r_t_wagons), ((d_t 24), ai k 20 r_t_bears_18), ((d_t 25), ai k 20 r_t_strengths), ((d_t 26), ai k 20 r_t_worn_19)]) (rest := [.int z_23, .int (i_t_16 27), .ref a_t]) F hA hB (c_LongTrainModel_drawnStrength l D k a_t d_t i_t_16 j_t r_t_s z_24 _  hf) ml_RX12_405 mv_yX12_drawnStrength [0, 1] [2, 3, 4, 5, 6] rfl rfl (by decide) (by decide) (by decide) 0 rfl rfl rfl hl.1 rfl (Nat.le_of_ble_eq_true rfl) ⟨Nat.le_of_ble_eq_true rfl, Nat.le_of_ble_eq_true rfl⟩ ⟨Nat.le_of_ble_eq_true rfl, Nat.le_of_ble_eq_true rfl⟩ dX12_betOf_115 (fun z_26 w1 H locs hq hB => ?_)
          obtain ⟨i_t_25, rfl, hf⟩ := hq
          replace hB : Bd D A s.heap (wd_LongTrainModel_betOf k a_t d_t i_t_25 j_t r_t_s r_t_foremost_17 r_t_wagons r_t_bears_18 r_t_strengths r_t_worn_19) H locs := hB.sub [5, 6, 0, 1, 2, 3, 4] (by decide) rfl
          refine k_vv (wr := [((d_t 6), ai k 1068 r_t_s), ((d_t 23), ai k 20 r_t_foremost_17), ((d_t 24), ai k 20 r_t_bears_18)]) (rest := []) F hA hB (c_LongTrainModel_inserts l D k a_t d_t i_t_25 j_t r_t_wagons r_t_strengths r_t_worn_19 (i_t_16 27) z_23 z_26 _  hf) ml_RX12_319 mv_yX12_inserts [0, 3, 5, 6] [1, 2, 4] rfl rfl (by decide) (by decide) (by decide) 0 rfl rfl rfl hl.1 rfl (Nat.le_of_ble_eq_true rfl) ⟨Nat.le_of_ble_eq_true rfl, Nat.le_of_ble_eq_true rfl⟩ ⟨Nat.le_of_ble_eq_true rfl, Nat.le_of_ble_eq_true rfl⟩ dX12_betOf_118 (fun w1 H locs hq hB => ?_)
          obtain ⟨i_t_27, r_t_wagons_28, r_t_strengths_29, r_t_worn_30, rfl, hf⟩ := hq
          replace hB : Bd D A s.heap (wd_LongTrainModel_betOf k a_t d_t i_t_27 j_t r_t_s r_t_foremost_17 r_t_wagons_28 r_t_bears_18 r_t_strengths_29 r_t_worn_30) H locs := hB.sub [3, 0, 1, 4, 2, 5, 6] (by decide) rfl
          refine lv_iinc (v := (x2 + 1)) (lv' := [(2, .int (x2 + 1)), (3, .int z_22), (0, .ref a_t)]) (k := 2) hx hb dX12_betOf_121 hl rfl rfl (by decide) rfl (fun ls hl => ?_)
          refine lv_goto (tgt := 60) hx hb dX12_betOf_124 (by decide) ?_
          exact hkr_60 _ _ _ _ _ _ _ _ _ _ hf hB (lv_sub hl [2, 0] rfl)
    · replace hf := hf.2 c_33
      refine lv_iload_n hx hb dX12_betOf_78 rfl (lv_at hl 1 rfl) ?_
      exact r_i F hr hlk hB ⟨_, _, _, _, _, _, rfl, hf⟩ dX12_betOf_79

set_option maxRecDepth 100000 in
set_option maxHeartbeats 4000000 in
theorem lt_LongTrainModel_betOf_60 {p : Program} {l : Launch} {e : Env} {s : State} {m : MethodId} {below : List Frame} {meth : Method} {c : Code} {A : Nat → Prop} {D : va_G} {k : Nat → ClassId} {a_t : Nat} {d_t : Nat → Nat} {j_t : Nat → Int64} {r_t_s : Nat → Int32} {n1 : Int32} {Q : Int32 → (Nat → Int32) → (Nat → Int32) → (Nat → Int32) → (Nat → Int32) → (Nat → Int32) → (Nat → Int32) → Prop}  {kx_60 : (Nat → Int32) → (Nat → Int32) → (Nat → Int32) → (Nat → Int32) → (Nat → Int32) → (Nat → Int32) → Prop} (F : Fx p m c cX12_betOf 4 s ([.ref a_t, .int n1] : List Value).toArray RX12 D k) (hr : meth.sig.returnType = (some .int)) (hlk : meth.locks = false) (hA : ∀ q : Nat, s.heap.size ≤ q → A q) (hkx_60 : ∀ (i_t : Nat → Int32) (r_t_foremost : Nat → Int32) (r_t_wagons : Nat → Int32) (r_t_bears : Nat → Int32) (r_t_strengths : Nat → Int32) (r_t_worn : Nat → Int32) (H : Heap) (locs : List Loc) (ls : Array Slot), kx_60 i_t r_t_foremost r_t_wagons r_t_bears r_t_strengths r_t_worn → Bd D A s.heap (wd_LongTrainModel_betOf k a_t d_t i_t j_t r_t_s r_t_foremost r_t_wagons r_t_bears r_t_strengths r_t_worn) H locs → lv_has ls 4 [] → W p l e { frames := 3, cells := 0, slots := 0, locals := 67 } s m ([.ref a_t, .int n1] : List Value).toArray below meth c H locs 0 0 (Ei below (fun r w => ∃ (i_t : Nat → Int32), ∃ (r_t_foremost : Nat → Int32), ∃ (r_t_wagons : Nat → Int32), ∃ (r_t_bears : Nat → Int32), ∃ (r_t_strengths : Nat → Int32), ∃ (r_t_worn : Nat → Int32), w = (wd_LongTrainModel_betOf k a_t d_t i_t j_t r_t_s r_t_foremost r_t_wagons r_t_bears r_t_strengths r_t_worn) ∧ Q r i_t r_t_foremost r_t_wagons r_t_bears r_t_strengths r_t_worn) D k A ([.ref a_t, .int n1] : List Value).toArray s 0 0) (F0 m 127 ls [])) :
    ∀ n : Nat, ∀ (x2 : Int32) (i_t : Nat → Int32) (r_t_foremost : Nat → Int32) (r_t_wagons : Nat → Int32) (r_t_bears : Nat → Int32) (r_t_strengths : Nat → Int32) (r_t_worn : Nat → Int32) (H : Heap) (locs : List Loc) (ls : Array Slot), lp_LongTrainModel_betOf_60 r_t_s Q kx_60 n x2 i_t r_t_foremost r_t_wagons r_t_bears r_t_strengths r_t_worn → Bd D A s.heap (wd_LongTrainModel_betOf k a_t d_t i_t j_t r_t_s r_t_foremost r_t_wagons r_t_bears r_t_strengths r_t_worn) H locs → lv_has ls 4 [(0, .ref a_t), (2, .int x2)] → W p l e { frames := 3, cells := 0, slots := 0, locals := 67 } s m ([.ref a_t, .int n1] : List Value).toArray below meth c H locs 0 0 (Ei below (fun r w => ∃ (i_t : Nat → Int32), ∃ (r_t_foremost : Nat → Int32), ∃ (r_t_wagons : Nat → Int32), ∃ (r_t_bears : Nat → Int32), ∃ (r_t_strengths : Nat → Int32), ∃ (r_t_worn : Nat → Int32), w = (wd_LongTrainModel_betOf k a_t d_t i_t j_t r_t_s r_t_foremost r_t_wagons r_t_bears r_t_strengths r_t_worn) ∧ Q r i_t r_t_foremost r_t_wagons r_t_bears r_t_strengths r_t_worn) D k A ([.ref a_t, .int n1] : List Value).toArray s 0 0) (F0 m 60 ls []) := by
  intro n
  induction n with
  | zero => intro x2 i_t r_t_foremost r_t_wagons r_t_bears r_t_strengths r_t_worn H locs ls hf; exact absurd hf (fun h => h)
  | succ n ih => exact bt_LongTrainModel_betOf_60 F hr hlk hA hkx_60 ih

set_option maxRecDepth 100000 in
set_option maxHeartbeats 4000000 in
theorem c_LongTrainModel_betOf (l : Launch) (D : va_G) (k : Nat → ClassId) (a_t : Nat) (d_t : Nat → Nat) (i_t : Nat → Int32) (j_t : Nat → Int64) (r_t_s : Nat → Int32) (r_t_foremost : Nat → Int32) (r_t_wagons : Nat → Int32) (r_t_bears : Nat → Int32) (r_t_strengths : Nat → Int32) (r_t_worn : Nat → Int32) (n1 : Int32) (Q : Int32 → (Nat → Int32) → (Nat → Int32) → (Nat → Int32) → (Nat → Int32) → (Nat → Int32) → (Nat → Int32) → Prop)  (hf : w_LongTrainModel_betOf i_t r_t_s r_t_foremost r_t_wagons r_t_bears r_t_strengths r_t_worn n1 Q) : CtI l yX12_betOf cX12_betOf 4 (some .int) 3 67 0 0 D k [.ref a_t, .int n1] (wd_LongTrainModel_betOf k a_t d_t i_t j_t r_t_s r_t_foremost r_t_wagons r_t_bears r_t_strengths r_t_worn) (fun r w => ∃ (i_t : Nat → Int32), ∃ (r_t_foremost : Nat → Int32), ∃ (r_t_wagons : Nat → Int32), ∃ (r_t_bears : Nat → Int32), ∃ (r_t_strengths : Nat → Int32), ∃ (r_t_worn : Nat → Int32), w = (wd_LongTrainModel_betOf k a_t d_t i_t j_t r_t_s r_t_foremost r_t_wagons r_t_bears r_t_strengths r_t_worn) ∧ Q r i_t r_t_foremost r_t_wagons r_t_bears r_t_strengths r_t_worn) := by
  refine CtI.of (by decide) (Nat.le_of_ble_eq_true rfl) ?_
  intro p e s m below meth c A F hr hlk hnm hA hB ls hl
  have hx := F.x
  have hb := F.b
  unfold w_LongTrainModel_betOf at hf
  replace hl : lv_has ls 4 [(0, .ref a_t), (1, .int n1)] := hl
  refine lv_aload_n hx hb dX12_betOf_0 rfl (lv_at hl 0 rfl) ?_
  refine lv_iload_n hx hb dX12_betOf_1 rfl (lv_at hl 1 rfl) ?_
  refine g_puti F hB 0 rfl fl_RX12_398 rfl (wd_LongTrainModel_betOf k a_t d_t (upd i_t 45 n1) j_t r_t_s r_t_foremost r_t_wagons r_t_bears r_t_strengths r_t_worn) rfl dX12_betOf_2 (fun H locs hB => ?_)
  refine lv_aload_n hx hb dX12_betOf_5 rfl (lv_at hl 0 rfl) ?_
  refine lv_iconst (v := 0) hx hb dX12_betOf_6 (by decide) ?_
  refine g_puti F hB 0 rfl fl_RX12_270 rfl (wd_LongTrainModel_betOf k a_t d_t (upd (upd i_t 45 n1) 27 (0 : Int32)) j_t r_t_s r_t_foremost r_t_wagons r_t_bears r_t_strengths r_t_worn) rfl dX12_betOf_7 (fun H locs hB => ?_)
  refine lv_iconst (v := 0) hx hb dX12_betOf_10 (by decide) ?_
  refine lv_istore_n (lv' := [(2, .int (0 : Int32)), (0, .ref a_t), (1, .int n1)]) hx hb dX12_betOf_11 rfl hl (by decide) rfl (fun ls hl => ?_)
  obtain ⟨n_42, hf⟩ := hf
  refine lt_LongTrainModel_betOf_12 F hr hlk hA (fun i_t_11 r_t_wagons_12 r_t_strengths_13 r_t_worn_14 H locs ls hf hB hl => ?_) n_42 _ _ _ _ _ _ _ _ hf hB (lv_sub hl [1, 0] rfl)
  refine lv_iconst (v := 1) hx hb dX12_betOf_58 (by decide) ?_
  refine lv_istore_n (lv' := [(2, .int (1 : Int32)), (0, .ref a_t)]) hx hb dX12_betOf_59 rfl hl (by decide) rfl (fun ls hl => ?_)
  obtain ⟨n_41, hf⟩ := hf
  refine lt_LongTrainModel_betOf_60 F hr hlk hA (fun i_t_35 r_t_foremost_36 r_t_wagons_37 r_t_bears_38 r_t_strengths_39 r_t_worn_40 H locs ls hf hB hl => ?_) n_41 _ _ _ _ _ _ _ _ _ _ hf hB (lv_sub hl [1, 0] rfl)
  refine lv_iconst (v := -1) hx hb dX12_betOf_127 (by decide) ?_
  exact r_i F hr hlk hB ⟨_, _, _, _, _, _, rfl, hf⟩ dX12_betOf_128

/-! LongTrainModel.bet -/
set_option maxRecDepth 100000 in
set_option maxHeartbeats 4000000 in
theorem c_LongTrainModel_bet (l : Launch) (D : va_G) (k : Nat → ClassId) (a_t : Nat) (d_t : Nat → Nat) (i_t : Nat → Int32) (j_t : Nat → Int64) (r_t_s : Nat → Int32) (r_t_foremost : Nat → Int32) (r_t_wagons : Nat → Int32) (r_t_bears : Nat → Int32) (r_t_strengths : Nat → Int32) (r_t_worn : Nat → Int32) (n1 : Int32) (Q : Int32 → (Nat → Int32) → (Nat → Int32) → (Nat → Int32) → (Nat → Int32) → (Nat → Int32) → (Nat → Int32) → Prop)  (hf : w_LongTrainModel_bet i_t r_t_s r_t_foremost r_t_wagons r_t_bears r_t_strengths r_t_worn n1 Q) : CtI l yX12_bet cX12_bet 2 (some .int) 4 90 0 0 D k [.ref a_t, .int n1] (wd_LongTrainModel_bet k a_t d_t i_t j_t r_t_s r_t_foremost r_t_wagons r_t_bears r_t_strengths r_t_worn) (fun r w => ∃ (i_t : Nat → Int32), ∃ (r_t_foremost : Nat → Int32), ∃ (r_t_wagons : Nat → Int32), ∃ (r_t_bears : Nat → Int32), ∃ (r_t_strengths : Nat → Int32), ∃ (r_t_worn : Nat → Int32), w = (wd_LongTrainModel_bet k a_t d_t i_t j_t r_t_s r_t_foremost r_t_wagons r_t_bears r_t_strengths r_t_worn) ∧ Q r i_t r_t_foremost r_t_wagons r_t_bears r_t_strengths r_t_worn) := by
  refine CtI.of (by decide) (Nat.le_of_ble_eq_true rfl) ?_
  intro p e s m below meth c A F hr hlk hnm hA hB ls hl
  have hx := F.x
  have hb := F.b
  unfold w_LongTrainModel_bet at hf
  replace hl : lv_has ls 2 [(0, .ref a_t), (1, .int n1)] := hl
  refine lv_aload_n hx hb dX12_bet_0 rfl (lv_at hl 0 rfl) ?_
  refine lv_iconst (v := 0) hx hb dX12_bet_1 (by decide) ?_
  refine g_puti F hB 0 rfl fl_RX12_1 rfl (wd_LongTrainModel_bet k a_t d_t (upd i_t 0 (0 : Int32)) j_t r_t_s r_t_foremost r_t_wagons r_t_bears r_t_strengths r_t_worn) rfl dX12_bet_2 (fun H locs hB => ?_)
  refine lv_aload_n hx hb dX12_bet_5 rfl (lv_at hl 0 rfl) ?_
  refine lv_iload_n hx hb dX12_bet_6 rfl (lv_at hl 1 rfl) ?_
  refine k_vi (wr := []) (rest := []) F hA hB (c_LongTrainModel_betOf l D k a_t d_t (upd i_t 0 (0 : Int32)) j_t r_t_s r_t_foremost r_t_wagons r_t_bears r_t_strengths r_t_worn n1 _  hf) ml_RX12_408 mv_yX12_betOf [0, 1, 2, 3, 4, 5, 6] [] rfl rfl (by decide) (by decide) (by decide) 0 rfl rfl rfl hl.1 rfl (Nat.le_of_ble_eq_true rfl) ⟨Nat.le_of_ble_eq_true rfl, Nat.le_of_ble_eq_true rfl⟩ ⟨Nat.le_of_ble_eq_true rfl, Nat.le_of_ble_eq_true rfl⟩ dX12_bet_7 (fun z_7 w1 H locs hq hB => ?_)
  obtain ⟨i_t_1, r_t_foremost_2, r_t_wagons_3, r_t_bears_4, r_t_strengths_5, r_t_worn_6, rfl, hf⟩ := hq
  replace hB : Bd D A s.heap (wd_LongTrainModel_bet k a_t d_t i_t_1 j_t r_t_s r_t_foremost_2 r_t_wagons_3 r_t_bears_4 r_t_strengths_5 r_t_worn_6) H locs := hB.sub [0, 1, 2, 3, 4, 5, 6] (by decide) rfl
  exact r_i F hr hlk hB ⟨_, _, _, _, _, _, rfl, hf⟩ dX12_bet_10

/-! LongTrainModel.bets -/
set_option maxRecDepth 100000 in
set_option maxHeartbeats 4000000 in
theorem bt_LongTrainModel_bets_32 {p : Program} {l : Launch} {e : Env} {s : State} {m : MethodId} {below : List Frame} {meth : Method} {c : Code} {A : Nat → Prop} {D : va_G} {k : Nat → ClassId} {a_t : Nat} {d_t : Nat → Nat} {j_t : Nat → Int64} {r_t_s : Nat → Int32} {n1 : Int32} {n2 : Int32} {n3 : Int32} {Q : Int32 → (Nat → Int32) → (Nat → Int32) → (Nat → Int32) → (Nat → Int32) → (Nat → Int32) → (Nat → Int32) → Prop}  {x1 : Int32} {x2 : Int32} {x3 : Int32} {kx_32 : (Int32) → (Nat → Int32) → (Nat → Int32) → (Nat → Int32) → (Nat → Int32) → (Nat → Int32) → (Nat → Int32) → Prop} {kr_32 : (Int32) → (Int32) → (Nat → Int32) → (Nat → Int32) → (Nat → Int32) → (Nat → Int32) → (Nat → Int32) → (Nat → Int32) → Prop} (F : Fx p m c cX12_bets 7 s ([.ref a_t, .int n1, .int n2, .int n3] : List Value).toArray RX12 D k) (hr : meth.sig.returnType = (some .int)) (hlk : meth.locks = false) (hA : ∀ q : Nat, s.heap.size ≤ q → A q) (hkx_32 : ∀ (x4 : Int32) (i_t : Nat → Int32) (r_t_foremost : Nat → Int32) (r_t_wagons : Nat → Int32) (r_t_bears : Nat → Int32) (r_t_strengths : Nat → Int32) (r_t_worn : Nat → Int32) (H : Heap) (locs : List Loc) (ls : Array Slot), kx_32 x4 i_t r_t_foremost r_t_wagons r_t_bears r_t_strengths r_t_worn → Bd D A s.heap (wd_LongTrainModel_bets k a_t d_t i_t j_t r_t_s r_t_foremost r_t_wagons r_t_bears r_t_strengths r_t_worn) H locs → lv_has ls 7 [(4, .int x4)] → W p l e { frames := 4, cells := 0, slots := 0, locals := 90 } s m ([.ref a_t, .int n1, .int n2, .int n3] : List Value).toArray below meth c H locs 0 0 (Ei below (fun r w => ∃ (i_t : Nat → Int32), ∃ (r_t_foremost : Nat → Int32), ∃ (r_t_wagons : Nat → Int32), ∃ (r_t_bears : Nat → Int32), ∃ (r_t_strengths : Nat → Int32), ∃ (r_t_worn : Nat → Int32), w = (wd_LongTrainModel_bets k a_t d_t i_t j_t r_t_s r_t_foremost r_t_wagons r_t_bears r_t_strengths r_t_worn) ∧ Q r i_t r_t_foremost r_t_wagons r_t_bears r_t_strengths r_t_worn) D k A ([.ref a_t, .int n1, .int n2, .int n3] : List Value).toArray s 0 0) (F0 m 75 ls [])) (hkr_32 : ∀ (x4 : Int32) (x5 : Int32) (i_t : Nat → Int32) (r_t_foremost : Nat → Int32) (r_t_wagons : Nat → Int32) (r_t_bears : Nat → Int32) (r_t_strengths : Nat → Int32) (r_t_worn : Nat → Int32) (H : Heap) (locs : List Loc) (ls : Array Slot), kr_32 x4 x5 i_t r_t_foremost r_t_wagons r_t_bears r_t_strengths r_t_worn → Bd D A s.heap (wd_LongTrainModel_bets k a_t d_t i_t j_t r_t_s r_t_foremost r_t_wagons r_t_bears r_t_strengths r_t_worn) H locs → lv_has ls 7 [(0, .ref a_t), (1, .int x1), (2, .int x2), (3, .int x3), (4, .int x4), (5, .int x5)] → W p l e { frames := 4, cells := 0, slots := 0, locals := 90 } s m ([.ref a_t, .int n1, .int n2, .int n3] : List Value).toArray below meth c H locs 0 0 (Ei below (fun r w => ∃ (i_t : Nat → Int32), ∃ (r_t_foremost : Nat → Int32), ∃ (r_t_wagons : Nat → Int32), ∃ (r_t_bears : Nat → Int32), ∃ (r_t_strengths : Nat → Int32), ∃ (r_t_worn : Nat → Int32), w = (wd_LongTrainModel_bets k a_t d_t i_t j_t r_t_s r_t_foremost r_t_wagons r_t_bears r_t_strengths r_t_worn) ∧ Q r i_t r_t_foremost r_t_wagons r_t_bears r_t_strengths r_t_worn) D k A ([.ref a_t, .int n1, .int n2, .int n3] : List Value).toArray s 0 0) (F0 m 32 ls [])) :
    ∀ (x4 : Int32) (x5 : Int32) (i_t : Nat → Int32) (r_t_foremost : Nat → Int32) (r_t_wagons : Nat → Int32) (r_t_bears : Nat → Int32) (r_t_strengths : Nat → Int32) (r_t_worn : Nat → Int32) (H : Heap) (locs : List Loc) (ls : Array Slot), b_LongTrainModel_bets_32 r_t_s x1 x2 x3 kx_32 kr_32 x4 x5 i_t r_t_foremost r_t_wagons r_t_bears r_t_strengths r_t_worn → Bd D A s.heap (wd_LongTrainModel_bets k a_t d_t i_t j_t r_t_s r_t_foremost r_t_wagons r_t_bears r_t_strengths r_t_worn) H locs → lv_has ls 7 [(0, .ref a_t), (1, .int x1), (2, .int x2), (3, .int x3), (4, .int x4), (5, .int x5)] → W p l e { frames := 4, cells := 0, slots := 0, locals := 90 } s m ([.ref a_t, .int n1, .int n2, .int n3] : List Value).toArray below meth c H locs 0 0 (Ei below (fun r w => ∃ (i_t : Nat → Int32), ∃ (r_t_foremost : Nat → Int32), ∃ (r_t_wagons : Nat → Int32), ∃ (r_t_bears : Nat → Int32), ∃ (r_t_strengths : Nat → Int32), ∃ (r_t_worn : Nat → Int32), w = (wd_LongTrainModel_bets k a_t d_t i_t j_t r_t_s r_t_foremost r_t_wagons r_t_bears r_t_strengths r_t_worn) ∧ Q r i_t r_t_foremost r_t_wagons r_t_bears r_t_strengths r_t_worn) D k A ([.ref a_t, .int n1, .int n2, .int n3] : List Value).toArray s 0 0) (F0 m 32 ls []) := by
  have hx := F.x
  have hb := F.b
  intro x4 x5 i_t r_t_foremost r_t_wagons r_t_bears r_t_strengths r_t_worn H locs ls hf hB hl
  unfold b_LongTrainModel_bets_32 at hf
  refine lv_iload hx hb dX12_bets_32 (lv_at hl 5 rfl) ?_
  refine lv_iload_n hx hb dX12_bets_34 rfl (lv_at hl 1 rfl) ?_
  refine lv_icmp_ge (tgt := 75) hx hb dX12_bets_35 (by decide) (fun c_14 => ?_) (fun c_14 => ?_)
  · replace hf := hf.1 c_14
    exact hkx_32 _ _ _ _ _ _ _ _ _ _ hf hB (lv_sub hl [4] rfl)
  · replace hf := hf.2 c_14
    refine lv_aload_n hx hb dX12_bets_38 rfl (lv_at hl 0 rfl) ?_
    refine lv_iload_n hx hb dX12_bets_39 rfl (lv_at hl 2 rfl) ?_
    refine lv_iload hx hb dX12_bets_40 (lv_at hl 5 rfl) ?_
    refine lv_iadd hx hb dX12_bets_42 ?_
    refine k_vi (wr := []) (rest := []) F hA hB (c_LongTrainModel_betOf l D k a_t d_t i_t j_t r_t_s r_t_foremost r_t_wagons r_t_bears r_t_strengths r_t_worn (x2 + x5) _  hf) ml_RX12_408 mv_yX12_betOf [0, 1, 2, 3, 4, 5, 6] [] rfl rfl (by decide) (by decide) (by decide) 0 rfl rfl rfl hl.1 rfl (Nat.le_of_ble_eq_true rfl) ⟨Nat.le_of_ble_eq_true rfl, Nat.le_of_ble_eq_true rfl⟩ ⟨Nat.le_of_ble_eq_true rfl, Nat.le_of_ble_eq_true rfl⟩ dX12_bets_43 (fun z_11 w1 H locs hq hB => ?_)
    obtain ⟨i_t_5, r_t_foremost_6, r_t_wagons_7, r_t_bears_8, r_t_strengths_9, r_t_worn_10, rfl, hf⟩ := hq
    replace hB : Bd D A s.heap (wd_LongTrainModel_bets k a_t d_t i_t_5 j_t r_t_s r_t_foremost_6 r_t_wagons_7 r_t_bears_8 r_t_strengths_9 r_t_worn_10) H locs := hB.sub [0, 1, 2, 3, 4, 5, 6] (by decide) rfl
    refine lv_istore (lv' := [(6, .int z_11), (0, .ref a_t), (1, .int x1), (2, .int x2), (3, .int x3), (4, .int x4), (5, .int x5)]) hx hb dX12_bets_46 hl (by decide) rfl (fun ls hl => ?_)
    refine lv_iload hx hb dX12_bets_48 (lv_at hl 5 rfl) ?_
    refine lv_iload hx hb dX12_bets_50 (lv_at hl 0 rfl) ?_
    refine lv_if_lt (tgt := 65) hx hb dX12_bets_52 (by decide) (fun c_13 => ?_) (fun c_13 => ?_)
    · replace hf := hf.1 c_13
      refine lv_iconst (v := 0) hx hb dX12_bets_65 (by decide) ?_
      refine lv_iadd hx hb dX12_bets_66 ?_
      refine lv_istore (lv' := [(4, .int (x4 + (0 : Int32))), (6, .int z_11), (0, .ref a_t), (1, .int x1), (2, .int x2), (3, .int x3), (5, .int x5)]) hx hb dX12_bets_67 hl (by decide) rfl (fun ls hl => ?_)
      refine lv_iinc (v := (x5 + 1)) (lv' := [(5, .int (x5 + 1)), (4, .int (x4 + (0 : Int32))), (6, .int z_11), (0, .ref a_t), (1, .int x1), (2, .int x2), (3, .int x3)]) (k := 6) hx hb dX12_bets_69 hl rfl rfl (by decide) rfl (fun ls hl => ?_)
      refine lv_goto (tgt := 32) hx hb dX12_bets_72 (by decide) ?_
      exact hkr_32 _ _ _ _ _ _ _ _ _ _ _ hf hB (lv_sub hl [3, 4, 5, 6, 1, 0] rfl)
    · replace hf := hf.2 c_13
      refine lv_iload hx hb dX12_bets_55 (lv_at hl 0 rfl) ?_
      refine lv_iload_n hx hb dX12_bets_57 rfl (lv_at hl 4 rfl) ?_
      refine lv_icmp_gt (tgt := 65) hx hb dX12_bets_58 (by decide) (fun c_12 => ?_) (fun c_12 => ?_)
      · replace hf := hf.1 c_12
        refine lv_iconst (v := 0) hx hb dX12_bets_65 (by decide) ?_
        refine lv_iadd hx hb dX12_bets_66 ?_
        refine lv_istore (lv' := [(4, .int (x4 + (0 : Int32))), (6, .int z_11), (0, .ref a_t), (1, .int x1), (2, .int x2), (3, .int x3), (5, .int x5)]) hx hb dX12_bets_67 hl (by decide) rfl (fun ls hl => ?_)
        refine lv_iinc (v := (x5 + 1)) (lv' := [(5, .int (x5 + 1)), (4, .int (x4 + (0 : Int32))), (6, .int z_11), (0, .ref a_t), (1, .int x1), (2, .int x2), (3, .int x3)]) (k := 6) hx hb dX12_bets_69 hl rfl rfl (by decide) rfl (fun ls hl => ?_)
        refine lv_goto (tgt := 32) hx hb dX12_bets_72 (by decide) ?_
        exact hkr_32 _ _ _ _ _ _ _ _ _ _ _ hf hB (lv_sub hl [3, 4, 5, 6, 1, 0] rfl)
      · replace hf := hf.2 c_12
        refine lv_iconst (v := 1) hx hb dX12_bets_61 (by decide) ?_
        refine lv_goto (tgt := 66) hx hb dX12_bets_62 (by decide) ?_
        refine lv_iadd hx hb dX12_bets_66 ?_
        refine lv_istore (lv' := [(4, .int (x4 + (1 : Int32))), (6, .int z_11), (0, .ref a_t), (1, .int x1), (2, .int x2), (3, .int x3), (5, .int x5)]) hx hb dX12_bets_67 hl (by decide) rfl (fun ls hl => ?_)
        refine lv_iinc (v := (x5 + 1)) (lv' := [(5, .int (x5 + 1)), (4, .int (x4 + (1 : Int32))), (6, .int z_11), (0, .ref a_t), (1, .int x1), (2, .int x2), (3, .int x3)]) (k := 6) hx hb dX12_bets_69 hl rfl rfl (by decide) rfl (fun ls hl => ?_)
        refine lv_goto (tgt := 32) hx hb dX12_bets_72 (by decide) ?_
        exact hkr_32 _ _ _ _ _ _ _ _ _ _ _ hf hB (lv_sub hl [3, 4, 5, 6, 1, 0] rfl)

set_option maxRecDepth 100000 in
set_option maxHeartbeats 4000000 in
theorem lt_LongTrainModel_bets_32 {p : Program} {l : Launch} {e : Env} {s : State} {m : MethodId} {below : List Frame} {meth : Method} {c : Code} {A : Nat → Prop} {D : va_G} {k : Nat → ClassId} {a_t : Nat} {d_t : Nat → Nat} {j_t : Nat → Int64} {r_t_s : Nat → Int32} {n1 : Int32} {n2 : Int32} {n3 : Int32} {Q : Int32 → (Nat → Int32) → (Nat → Int32) → (Nat → Int32) → (Nat → Int32) → (Nat → Int32) → (Nat → Int32) → Prop}  {x1 : Int32} {x2 : Int32} {x3 : Int32} {kx_32 : (Int32) → (Nat → Int32) → (Nat → Int32) → (Nat → Int32) → (Nat → Int32) → (Nat → Int32) → (Nat → Int32) → Prop} (F : Fx p m c cX12_bets 7 s ([.ref a_t, .int n1, .int n2, .int n3] : List Value).toArray RX12 D k) (hr : meth.sig.returnType = (some .int)) (hlk : meth.locks = false) (hA : ∀ q : Nat, s.heap.size ≤ q → A q) (hkx_32 : ∀ (x4 : Int32) (i_t : Nat → Int32) (r_t_foremost : Nat → Int32) (r_t_wagons : Nat → Int32) (r_t_bears : Nat → Int32) (r_t_strengths : Nat → Int32) (r_t_worn : Nat → Int32) (H : Heap) (locs : List Loc) (ls : Array Slot), kx_32 x4 i_t r_t_foremost r_t_wagons r_t_bears r_t_strengths r_t_worn → Bd D A s.heap (wd_LongTrainModel_bets k a_t d_t i_t j_t r_t_s r_t_foremost r_t_wagons r_t_bears r_t_strengths r_t_worn) H locs → lv_has ls 7 [(4, .int x4)] → W p l e { frames := 4, cells := 0, slots := 0, locals := 90 } s m ([.ref a_t, .int n1, .int n2, .int n3] : List Value).toArray below meth c H locs 0 0 (Ei below (fun r w => ∃ (i_t : Nat → Int32), ∃ (r_t_foremost : Nat → Int32), ∃ (r_t_wagons : Nat → Int32), ∃ (r_t_bears : Nat → Int32), ∃ (r_t_strengths : Nat → Int32), ∃ (r_t_worn : Nat → Int32), w = (wd_LongTrainModel_bets k a_t d_t i_t j_t r_t_s r_t_foremost r_t_wagons r_t_bears r_t_strengths r_t_worn) ∧ Q r i_t r_t_foremost r_t_wagons r_t_bears r_t_strengths r_t_worn) D k A ([.ref a_t, .int n1, .int n2, .int n3] : List Value).toArray s 0 0) (F0 m 75 ls [])) :
    ∀ n : Nat, ∀ (x4 : Int32) (x5 : Int32) (i_t : Nat → Int32) (r_t_foremost : Nat → Int32) (r_t_wagons : Nat → Int32) (r_t_bears : Nat → Int32) (r_t_strengths : Nat → Int32) (r_t_worn : Nat → Int32) (H : Heap) (locs : List Loc) (ls : Array Slot), lp_LongTrainModel_bets_32 r_t_s x1 x2 x3 kx_32 n x4 x5 i_t r_t_foremost r_t_wagons r_t_bears r_t_strengths r_t_worn → Bd D A s.heap (wd_LongTrainModel_bets k a_t d_t i_t j_t r_t_s r_t_foremost r_t_wagons r_t_bears r_t_strengths r_t_worn) H locs → lv_has ls 7 [(0, .ref a_t), (1, .int x1), (2, .int x2), (3, .int x3), (4, .int x4), (5, .int x5)] → W p l e { frames := 4, cells := 0, slots := 0, locals := 90 } s m ([.ref a_t, .int n1, .int n2, .int n3] : List Value).toArray below meth c H locs 0 0 (Ei below (fun r w => ∃ (i_t : Nat → Int32), ∃ (r_t_foremost : Nat → Int32), ∃ (r_t_wagons : Nat → Int32), ∃ (r_t_bears : Nat → Int32), ∃ (r_t_strengths : Nat → Int32), ∃ (r_t_worn : Nat → Int32), w = (wd_LongTrainModel_bets k a_t d_t i_t j_t r_t_s r_t_foremost r_t_wagons r_t_bears r_t_strengths r_t_worn) ∧ Q r i_t r_t_foremost r_t_wagons r_t_bears r_t_strengths r_t_worn) D k A ([.ref a_t, .int n1, .int n2, .int n3] : List Value).toArray s 0 0) (F0 m 32 ls []) := by
  intro n
  induction n with
  | zero => intro x4 x5 i_t r_t_foremost r_t_wagons r_t_bears r_t_strengths r_t_worn H locs ls hf; exact absurd hf (fun h => h)
  | succ n ih => exact bt_LongTrainModel_bets_32 F hr hlk hA hkx_32 ih

set_option maxRecDepth 100000 in
set_option maxHeartbeats 4000000 in
theorem c_LongTrainModel_bets (l : Launch) (D : va_G) (k : Nat → ClassId) (a_t : Nat) (d_t : Nat → Nat) (i_t : Nat → Int32) (j_t : Nat → Int64) (r_t_s : Nat → Int32) (r_t_foremost : Nat → Int32) (r_t_wagons : Nat → Int32) (r_t_bears : Nat → Int32) (r_t_strengths : Nat → Int32) (r_t_worn : Nat → Int32) (n1 : Int32) (n2 : Int32) (n3 : Int32) (Q : Int32 → (Nat → Int32) → (Nat → Int32) → (Nat → Int32) → (Nat → Int32) → (Nat → Int32) → (Nat → Int32) → Prop)  (hf : w_LongTrainModel_bets i_t r_t_s r_t_foremost r_t_wagons r_t_bears r_t_strengths r_t_worn n1 n2 n3 Q) : CtI l yX12_bets cX12_bets 7 (some .int) 4 90 0 0 D k [.ref a_t, .int n1, .int n2, .int n3] (wd_LongTrainModel_bets k a_t d_t i_t j_t r_t_s r_t_foremost r_t_wagons r_t_bears r_t_strengths r_t_worn) (fun r w => ∃ (i_t : Nat → Int32), ∃ (r_t_foremost : Nat → Int32), ∃ (r_t_wagons : Nat → Int32), ∃ (r_t_bears : Nat → Int32), ∃ (r_t_strengths : Nat → Int32), ∃ (r_t_worn : Nat → Int32), w = (wd_LongTrainModel_bets k a_t d_t i_t j_t r_t_s r_t_foremost r_t_wagons r_t_bears r_t_strengths r_t_worn) ∧ Q r i_t r_t_foremost r_t_wagons r_t_bears r_t_strengths r_t_worn) := by
  refine CtI.of (by decide) (Nat.le_of_ble_eq_true rfl) ?_
  intro p e s m below meth c A F hr hlk hnm hA hB ls hl
  have hx := F.x
  have hb := F.b
  unfold w_LongTrainModel_bets at hf
  replace hl : lv_has ls 7 [(0, .ref a_t), (1, .int n1), (2, .int n2), (3, .int n3)] := hl
  refine lv_aload_n hx hb dX12_bets_0 rfl (lv_at hl 0 rfl) ?_
  refine lv_iconst (v := 0) hx hb dX12_bets_1 (by decide) ?_
  refine g_puti F hB 0 rfl fl_RX12_1 rfl (wd_LongTrainModel_bets k a_t d_t (upd i_t 0 (0 : Int32)) j_t r_t_s r_t_foremost r_t_wagons r_t_bears r_t_strengths r_t_worn) rfl dX12_bets_2 (fun H locs hB => ?_)
  refine lv_iload_n hx hb dX12_bets_5 rfl (lv_at hl 1 rfl) ?_
  refine lv_iconst (v := 1) hx hb dX12_bets_6 (by decide) ?_
  refine lv_sipush (v := 200) hx hb dX12_bets_7 (by decide) ?_
  refine k_si (wr := [(a_t, ob 12 (rfd d_t) (upd i_t 0 (0 : Int32)) j_t), ((d_t 6), ai k 1068 r_t_s), ((d_t 23), ai k 20 r_t_foremost), ((d_t 22), ai k 20 r_t_wagons), ((d_t 24), ai k 20 r_t_bears), ((d_t 25), ai k 20 r_t_strengths), ((d_t 26), ai k 20 r_t_worn)]) (rest := []) F hA hB (c_LongTrainModel_isIn l D k n1 (1 : Int32) (200 : Int32) _  hf) ml_RX12_182 ms_yX12_isIn [] [0, 1, 2, 3, 4, 5, 6] rfl rfl (by decide) (by decide) (by decide) rfl hl.1 rfl (Nat.le_of_ble_eq_true rfl) ⟨Nat.le_of_ble_eq_true rfl, Nat.le_of_ble_eq_true rfl⟩ ⟨Nat.le_of_ble_eq_true rfl, Nat.le_of_ble_eq_true rfl⟩ dX12_bets_10 (fun z_1 w1 H locs hq hB => ?_)
  obtain ⟨h_2, rfl, hf⟩ := hq
  replace hB : Bd D A s.heap (wd_LongTrainModel_bets k a_t d_t (upd i_t 0 (0 : Int32)) j_t r_t_s r_t_foremost r_t_wagons r_t_bears r_t_strengths r_t_worn) H locs := hB.sub [0, 1, 2, 3, 4, 5, 6] (by decide) rfl
  refine lv_if_eq (tgt := 24) hx hb dX12_bets_13 (by decide) (fun c_24 => ?_) (fun c_24 => ?_)
  · replace hf := hf.1 c_24
    refine lv_iconst (v := -1) hx hb dX12_bets_24 (by decide) ?_
    exact r_i F hr hlk hB ⟨_, _, _, _, _, _, rfl, hf⟩ dX12_bets_25
  · replace hf := hf.2 c_24
    refine lv_aload_n hx hb dX12_bets_16 rfl (lv_at hl 0 rfl) ?_
    refine lv_iload_n hx hb dX12_bets_17 rfl (lv_at hl 3 rfl) ?_
    refine k_vi (wr := [((d_t 23), ai k 20 r_t_foremost), ((d_t 22), ai k 20 r_t_wagons), ((d_t 24), ai k 20 r_t_bears), ((d_t 25), ai k 20 r_t_strengths), ((d_t 26), ai k 20 r_t_worn)]) (rest := []) F hA hB (c_LongTrainModel_isUnit l D k a_t d_t (upd i_t 0 (0 : Int32)) j_t r_t_s n3 _  hf) ml_RX12_291 mv_yX12_isUnit [0, 1] [2, 3, 4, 5, 6] rfl rfl (by decide) (by decide) (by decide) 0 rfl rfl rfl hl.1 rfl (Nat.le_of_ble_eq_true rfl) ⟨Nat.le_of_ble_eq_true rfl, Nat.le_of_ble_eq_true rfl⟩ ⟨Nat.le_of_ble_eq_true rfl, Nat.le_of_ble_eq_true rfl⟩ dX12_bets_18 (fun z_3 w1 H locs hq hB => ?_)
    obtain ⟨h_4, rfl, hf⟩ := hq
    replace hB : Bd D A s.heap (wd_LongTrainModel_bets k a_t d_t (upd i_t 0 (0 : Int32)) j_t r_t_s r_t_foremost r_t_wagons r_t_bears r_t_strengths r_t_worn) H locs := hB.sub [5, 6, 0, 1, 2, 3, 4] (by decide) rfl
    refine lv_if_ne (tgt := 26) hx hb dX12_bets_21 (by decide) (fun c_23 => ?_) (fun c_23 => ?_)
    · replace hf := hf.1 c_23
      refine lv_iconst (v := 0) hx hb dX12_bets_26 (by decide) ?_
      refine lv_istore (lv' := [(4, .int (0 : Int32)), (0, .ref a_t), (1, .int n1), (2, .int n2), (3, .int n3)]) hx hb dX12_bets_27 hl (by decide) rfl (fun ls hl => ?_)
      refine lv_iconst (v := 0) hx hb dX12_bets_29 (by decide) ?_
      refine lv_istore (lv' := [(5, .int (0 : Int32)), (4, .int (0 : Int32)), (0, .ref a_t), (1, .int n1), (2, .int n2), (3, .int n3)]) hx hb dX12_bets_30 hl (by decide) rfl (fun ls hl => ?_)
      obtain ⟨n_22, hf⟩ := hf
      refine lt_LongTrainModel_bets_32 F hr hlk hA (fun x4_15 i_t_16 r_t_foremost_17 r_t_wagons_18 r_t_bears_19 r_t_strengths_20 r_t_worn_21 H locs ls hf hB hl => ?_) n_22 _ _ _ _ _ _ _ _ _ _ _ hf hB (lv_sub hl [2, 3, 4, 5, 1, 0] rfl)
      refine lv_iload hx hb dX12_bets_75 (lv_at hl 0 rfl) ?_
      exact r_i F hr hlk hB ⟨_, _, _, _, _, _, rfl, hf⟩ dX12_bets_77
    · replace hf := hf.2 c_23
      refine lv_iconst (v := -1) hx hb dX12_bets_24 (by decide) ?_
      exact r_i F hr hlk hB ⟨_, _, _, _, _, _, rfl, hf⟩ dX12_bets_25

/-! LongTrainModel.image -/
set_option maxRecDepth 100000 in
set_option maxHeartbeats 4000000 in
theorem bt_LongTrainModel_image_18 {p : Program} {l : Launch} {e : Env} {s : State} {m : MethodId} {below : List Frame} {meth : Method} {c : Code} {A : Nat → Prop} {D : va_G} {k : Nat → ClassId} {a_t : Nat} {d_t : Nat → Nat} {i_t : Nat → Int32} {j_t : Nat → Int64} {r_t_isKept : Nat → Int32} {r_t_namesKept : Nat → Int64} {r_t_s : Nat → Int32} {r_t_names : Nat → Int64} {n1 : Int32} {Q : Int32 → (Nat → Int32) → (Nat → Int32) → (Nat → Int32) → (Nat → Int64) → Prop}  {x1 : Int32} {kx_18 : (Nat → Int32) → Prop} {kr_18 : (Int32) → (Nat → Int32) → Prop} (F : Fx p m c cX12_image 3 s ([.ref a_t, .int n1] : List Value).toArray RX12 D k) (hr : meth.sig.returnType = (some .boolean)) (hlk : meth.locks = false) (hA : ∀ q : Nat, s.heap.size ≤ q → A q) (hkx_18 : ∀ (r_t_kept : Nat → Int32) (H : Heap) (locs : List Loc) (ls : Array Slot), kx_18 r_t_kept → Bd D A s.heap (wd_LongTrainModel_image k a_t d_t i_t j_t r_t_kept r_t_isKept r_t_namesKept r_t_s r_t_names) H locs → lv_has ls 3 [(0, .ref a_t), (1, .int x1)] → W p l e { frames := 1, cells := 0, slots := 0, locals := 22 } s m ([.ref a_t, .int n1] : List Value).toArray below meth c H locs 0 0 (Ei below (fun r w => (r = 0 ∨ r = 1) ∧ (∃ (i_t : Nat → Int32), ∃ (r_t_kept : Nat → Int32), ∃ (r_t_isKept : Nat → Int32), ∃ (r_t_namesKept : Nat → Int64), w = (wd_LongTrainModel_image k a_t d_t i_t j_t r_t_kept r_t_isKept r_t_namesKept r_t_s r_t_names) ∧ Q r i_t r_t_kept r_t_isKept r_t_namesKept)) D k A ([.ref a_t, .int n1] : List Value).toArray s 0 0) (F0 m 49 ls [])) (hkr_18 : ∀ (x2 : Int32) (r_t_kept : Nat → Int32) (H : Heap) (locs : List Loc) (ls : Array Slot), kr_18 x2 r_t_kept → Bd D A s.heap (wd_LongTrainModel_image k a_t d_t i_t j_t r_t_kept r_t_isKept r_t_namesKept r_t_s r_t_names) H locs → lv_has ls 3 [(0, .ref a_t), (1, .int x1), (2, .int x2)] → W p l e { frames := 1, cells := 0, slots := 0, locals := 22 } s m ([.ref a_t, .int n1] : List Value).toArray below meth c H locs 0 0 (Ei below (fun r w => (r = 0 ∨ r = 1) ∧ (∃ (i_t : Nat → Int32), ∃ (r_t_kept : Nat → Int32), ∃ (r_t_isKept : Nat → Int32), ∃ (r_t_namesKept : Nat → Int64), w = (wd_LongTrainModel_image k a_t d_t i_t j_t r_t_kept r_t_isKept r_t_namesKept r_t_s r_t_names) ∧ Q r i_t r_t_kept r_t_isKept r_t_namesKept)) D k A ([.ref a_t, .int n1] : List Value).toArray s 0 0) (F0 m 18 ls [])) :
    ∀ (x2 : Int32) (r_t_kept : Nat → Int32) (H : Heap) (locs : List Loc) (ls : Array Slot), b_LongTrainModel_image_18 r_t_s x1 kx_18 kr_18 x2 r_t_kept → Bd D A s.heap (wd_LongTrainModel_image k a_t d_t i_t j_t r_t_kept r_t_isKept r_t_namesKept r_t_s r_t_names) H locs → lv_has ls 3 [(0, .ref a_t), (1, .int x1), (2, .int x2)] → W p l e { frames := 1, cells := 0, slots := 0, locals := 22 } s m ([.ref a_t, .int n1] : List Value).toArray below meth c H locs 0 0 (Ei below (fun r w => (r = 0 ∨ r = 1) ∧ (∃ (i_t : Nat → Int32), ∃ (r_t_kept : Nat → Int32), ∃ (r_t_isKept : Nat → Int32), ∃ (r_t_namesKept : Nat → Int64), w = (wd_LongTrainModel_image k a_t d_t i_t j_t r_t_kept r_t_isKept r_t_namesKept r_t_s r_t_names) ∧ Q r i_t r_t_kept r_t_isKept r_t_namesKept)) D k A ([.ref a_t, .int n1] : List Value).toArray s 0 0) (F0 m 18 ls []) := by
  have hx := F.x
  have hb := F.b
  intro x2 r_t_kept H locs ls hf hB hl
  unfold b_LongTrainModel_image_18 at hf
  refine lv_iload_n hx hb dX12_image_18 rfl (lv_at hl 2 rfl) ?_
  refine lv_sipush (v := 1068) hx hb dX12_image_19 (by decide) ?_
  refine lv_icmp_ge (tgt := 49) hx hb dX12_image_22 (by decide) (fun c_5 => ?_) (fun c_5 => ?_)
  · replace hf := hf.1 c_5
    exact hkx_18 _ _ _ _ hf hB (lv_sub hl [0, 1] rfl)
  · replace hf := hf.2 c_5
    refine lv_aload_n hx hb dX12_image_25 rfl (lv_at hl 0 rfl) ?_
    refine g_get (w := .ref (d_t 46)) F hB 0 rfl fl_RX12_95 rfl dX12_image_26 ?_
    refine lv_sipush (v := 1068) hx hb dX12_image_29 (by decide) ?_
    refine lv_iload_n hx hb dX12_image_32 rfl (lv_at hl 1 rfl) ?_
    refine lv_imul hx hb dX12_image_33 ?_
    refine lv_iload_n hx hb dX12_image_34 rfl (lv_at hl 2 rfl) ?_
    refine lv_iadd hx hb dX12_image_35 ?_
    refine lv_aload_n hx hb dX12_image_36 rfl (lv_at hl 0 rfl) ?_
    refine g_get (w := .ref (d_t 6)) F hB 0 rfl fl_RX12_33 rfl dX12_image_37 ?_
    refine lv_iload_n hx hb dX12_image_40 rfl (lv_at hl 2 rfl) ?_
    obtain ⟨h_3, hf⟩ := hf
    refine g_iald F hB 4 rfl h_3 dX12_image_41 ?_
    obtain ⟨h_4, hf⟩ := hf
    refine g_iast F hB 1 rfl h_4 (wd_LongTrainModel_image k a_t d_t i_t j_t (upd r_t_kept ((((1068 : Int32) * x1) + x2)).toNatClampNeg (r_t_s (x2).toNatClampNeg)) r_t_isKept r_t_namesKept r_t_s r_t_names) rfl dX12_image_42 (fun H locs hB => ?_)
    refine lv_iinc (v := (x2 + 1)) (lv' := [(2, .int (x2 + 1)), (0, .ref a_t), (1, .int x1)]) (k := 2) hx hb dX12_image_43 hl rfl rfl (by decide) rfl (fun ls hl => ?_)
    refine lv_goto (tgt := 18) hx hb dX12_image_46 (by decide) ?_
    exact hkr_18 _ _ _ _ _ hf hB (lv_sub hl [1, 2, 0] rfl)

set_option maxRecDepth 100000 in
set_option maxHeartbeats 4000000 in
theorem lt_LongTrainModel_image_18 {p : Program} {l : Launch} {e : Env} {s : State} {m : MethodId} {below : List Frame} {meth : Method} {c : Code} {A : Nat → Prop} {D : va_G} {k : Nat → ClassId} {a_t : Nat} {d_t : Nat → Nat} {i_t : Nat → Int32} {j_t : Nat → Int64} {r_t_isKept : Nat → Int32} {r_t_namesKept : Nat → Int64} {r_t_s : Nat → Int32} {r_t_names : Nat → Int64} {n1 : Int32} {Q : Int32 → (Nat → Int32) → (Nat → Int32) → (Nat → Int32) → (Nat → Int64) → Prop}  {x1 : Int32} {kx_18 : (Nat → Int32) → Prop} (F : Fx p m c cX12_image 3 s ([.ref a_t, .int n1] : List Value).toArray RX12 D k) (hr : meth.sig.returnType = (some .boolean)) (hlk : meth.locks = false) (hA : ∀ q : Nat, s.heap.size ≤ q → A q) (hkx_18 : ∀ (r_t_kept : Nat → Int32) (H : Heap) (locs : List Loc) (ls : Array Slot), kx_18 r_t_kept → Bd D A s.heap (wd_LongTrainModel_image k a_t d_t i_t j_t r_t_kept r_t_isKept r_t_namesKept r_t_s r_t_names) H locs → lv_has ls 3 [(0, .ref a_t), (1, .int x1)] → W p l e { frames := 1, cells := 0, slots := 0, locals := 22 } s m ([.ref a_t, .int n1] : List Value).toArray below meth c H locs 0 0 (Ei below (fun r w => (r = 0 ∨ r = 1) ∧ (∃ (i_t : Nat → Int32), ∃ (r_t_kept : Nat → Int32), ∃ (r_t_isKept : Nat → Int32), ∃ (r_t_namesKept : Nat → Int64), w = (wd_LongTrainModel_image k a_t d_t i_t j_t r_t_kept r_t_isKept r_t_namesKept r_t_s r_t_names) ∧ Q r i_t r_t_kept r_t_isKept r_t_namesKept)) D k A ([.ref a_t, .int n1] : List Value).toArray s 0 0) (F0 m 49 ls [])) :
    ∀ n : Nat, ∀ (x2 : Int32) (r_t_kept : Nat → Int32) (H : Heap) (locs : List Loc) (ls : Array Slot), lp_LongTrainModel_image_18 r_t_s x1 kx_18 n x2 r_t_kept → Bd D A s.heap (wd_LongTrainModel_image k a_t d_t i_t j_t r_t_kept r_t_isKept r_t_namesKept r_t_s r_t_names) H locs → lv_has ls 3 [(0, .ref a_t), (1, .int x1), (2, .int x2)] → W p l e { frames := 1, cells := 0, slots := 0, locals := 22 } s m ([.ref a_t, .int n1] : List Value).toArray below meth c H locs 0 0 (Ei below (fun r w => (r = 0 ∨ r = 1) ∧ (∃ (i_t : Nat → Int32), ∃ (r_t_kept : Nat → Int32), ∃ (r_t_isKept : Nat → Int32), ∃ (r_t_namesKept : Nat → Int64), w = (wd_LongTrainModel_image k a_t d_t i_t j_t r_t_kept r_t_isKept r_t_namesKept r_t_s r_t_names) ∧ Q r i_t r_t_kept r_t_isKept r_t_namesKept)) D k A ([.ref a_t, .int n1] : List Value).toArray s 0 0) (F0 m 18 ls []) := by
  intro n
  induction n with
  | zero => intro x2 r_t_kept H locs ls hf; exact absurd hf (fun h => h)
  | succ n ih => exact bt_LongTrainModel_image_18 F hr hlk hA hkx_18 ih

set_option maxRecDepth 100000 in
set_option maxHeartbeats 4000000 in
theorem bt_LongTrainModel_image_51 {p : Program} {l : Launch} {e : Env} {s : State} {m : MethodId} {below : List Frame} {meth : Method} {c : Code} {A : Nat → Prop} {D : va_G} {k : Nat → ClassId} {a_t : Nat} {d_t : Nat → Nat} {i_t : Nat → Int32} {j_t : Nat → Int64} {r_t_kept : Nat → Int32} {r_t_isKept : Nat → Int32} {r_t_s : Nat → Int32} {r_t_names : Nat → Int64} {n1 : Int32} {Q : Int32 → (Nat → Int32) → (Nat → Int32) → (Nat → Int32) → (Nat → Int64) → Prop}  {x1 : Int32} {kx_51 : (Nat → Int64) → Prop} {kr_51 : (Int32) → (Nat → Int64) → Prop} (F : Fx p m c cX12_image 3 s ([.ref a_t, .int n1] : List Value).toArray RX12 D k) (hr : meth.sig.returnType = (some .boolean)) (hlk : meth.locks = false) (hA : ∀ q : Nat, s.heap.size ≤ q → A q) (hkx_51 : ∀ (r_t_namesKept : Nat → Int64) (H : Heap) (locs : List Loc) (ls : Array Slot), kx_51 r_t_namesKept → Bd D A s.heap (wd_LongTrainModel_image k a_t d_t i_t j_t r_t_kept r_t_isKept r_t_namesKept r_t_s r_t_names) H locs → lv_has ls 3 [(0, .ref a_t), (1, .int x1)] → W p l e { frames := 1, cells := 0, slots := 0, locals := 22 } s m ([.ref a_t, .int n1] : List Value).toArray below meth c H locs 0 0 (Ei below (fun r w => (r = 0 ∨ r = 1) ∧ (∃ (i_t : Nat → Int32), ∃ (r_t_kept : Nat → Int32), ∃ (r_t_isKept : Nat → Int32), ∃ (r_t_namesKept : Nat → Int64), w = (wd_LongTrainModel_image k a_t d_t i_t j_t r_t_kept r_t_isKept r_t_namesKept r_t_s r_t_names) ∧ Q r i_t r_t_kept r_t_isKept r_t_namesKept)) D k A ([.ref a_t, .int n1] : List Value).toArray s 0 0) (F0 m 80 ls [])) (hkr_51 : ∀ (x2 : Int32) (r_t_namesKept : Nat → Int64) (H : Heap) (locs : List Loc) (ls : Array Slot), kr_51 x2 r_t_namesKept → Bd D A s.heap (wd_LongTrainModel_image k a_t d_t i_t j_t r_t_kept r_t_isKept r_t_namesKept r_t_s r_t_names) H locs → lv_has ls 3 [(0, .ref a_t), (1, .int x1), (2, .int x2)] → W p l e { frames := 1, cells := 0, slots := 0, locals := 22 } s m ([.ref a_t, .int n1] : List Value).toArray below meth c H locs 0 0 (Ei below (fun r w => (r = 0 ∨ r = 1) ∧ (∃ (i_t : Nat → Int32), ∃ (r_t_kept : Nat → Int32), ∃ (r_t_isKept : Nat → Int32), ∃ (r_t_namesKept : Nat → Int64), w = (wd_LongTrainModel_image k a_t d_t i_t j_t r_t_kept r_t_isKept r_t_namesKept r_t_s r_t_names) ∧ Q r i_t r_t_kept r_t_isKept r_t_namesKept)) D k A ([.ref a_t, .int n1] : List Value).toArray s 0 0) (F0 m 51 ls [])) :
    ∀ (x2 : Int32) (r_t_namesKept : Nat → Int64) (H : Heap) (locs : List Loc) (ls : Array Slot), b_LongTrainModel_image_51 r_t_names x1 kx_51 kr_51 x2 r_t_namesKept → Bd D A s.heap (wd_LongTrainModel_image k a_t d_t i_t j_t r_t_kept r_t_isKept r_t_namesKept r_t_s r_t_names) H locs → lv_has ls 3 [(0, .ref a_t), (1, .int x1), (2, .int x2)] → W p l e { frames := 1, cells := 0, slots := 0, locals := 22 } s m ([.ref a_t, .int n1] : List Value).toArray below meth c H locs 0 0 (Ei below (fun r w => (r = 0 ∨ r = 1) ∧ (∃ (i_t : Nat → Int32), ∃ (r_t_kept : Nat → Int32), ∃ (r_t_isKept : Nat → Int32), ∃ (r_t_namesKept : Nat → Int64), w = (wd_LongTrainModel_image k a_t d_t i_t j_t r_t_kept r_t_isKept r_t_namesKept r_t_s r_t_names) ∧ Q r i_t r_t_kept r_t_isKept r_t_namesKept)) D k A ([.ref a_t, .int n1] : List Value).toArray s 0 0) (F0 m 51 ls []) := by
  have hx := F.x
  have hb := F.b
  intro x2 r_t_namesKept H locs ls hf hB hl
  unfold b_LongTrainModel_image_51 at hf
  refine lv_iload_n hx hb dX12_image_51 rfl (lv_at hl 2 rfl) ?_
  refine lv_bipush (v := 16) hx hb dX12_image_52 (by decide) ?_
  refine lv_icmp_ge (tgt := 80) hx hb dX12_image_54 (by decide) (fun c_9 => ?_) (fun c_9 => ?_)
  · replace hf := hf.1 c_9
    exact hkx_51 _ _ _ _ hf hB (lv_sub hl [0, 1] rfl)
  · replace hf := hf.2 c_9
    refine lv_aload_n hx hb dX12_image_57 rfl (lv_at hl 0 rfl) ?_
    refine g_get (w := .ref (d_t 47)) F hB 0 rfl fl_RX12_98 rfl dX12_image_58 ?_
    refine lv_bipush (v := 16) hx hb dX12_image_61 (by decide) ?_
    refine lv_iload_n hx hb dX12_image_63 rfl (lv_at hl 1 rfl) ?_
    refine lv_imul hx hb dX12_image_64 ?_
    refine lv_iload_n hx hb dX12_image_65 rfl (lv_at hl 2 rfl) ?_
    refine lv_iadd hx hb dX12_image_66 ?_
    refine lv_aload_n hx hb dX12_image_67 rfl (lv_at hl 0 rfl) ?_
    refine g_get (w := .ref (d_t 9)) F hB 0 rfl fl_RX12_43 rfl dX12_image_68 ?_
    refine lv_iload_n hx hb dX12_image_71 rfl (lv_at hl 2 rfl) ?_
    obtain ⟨h_7, hf⟩ := hf
    refine g_jald F hB 5 rfl h_7 dX12_image_72 ?_
    obtain ⟨h_8, hf⟩ := hf
    refine g_jast F hB 3 rfl h_8 (wd_LongTrainModel_image k a_t d_t i_t j_t r_t_kept r_t_isKept (vp_updL r_t_namesKept ((((16 : Int32) * x1) + x2)).toNatClampNeg (r_t_names (x2).toNatClampNeg)) r_t_s r_t_names) rfl dX12_image_73 (fun H locs hB => ?_)
    refine lv_iinc (v := (x2 + 1)) (lv' := [(2, .int (x2 + 1)), (0, .ref a_t), (1, .int x1)]) (k := 2) hx hb dX12_image_74 hl rfl rfl (by decide) rfl (fun ls hl => ?_)
    refine lv_goto (tgt := 51) hx hb dX12_image_77 (by decide) ?_
    exact hkr_51 _ _ _ _ _ hf hB (lv_sub hl [1, 2, 0] rfl)

set_option maxRecDepth 100000 in
set_option maxHeartbeats 4000000 in
theorem lt_LongTrainModel_image_51 {p : Program} {l : Launch} {e : Env} {s : State} {m : MethodId} {below : List Frame} {meth : Method} {c : Code} {A : Nat → Prop} {D : va_G} {k : Nat → ClassId} {a_t : Nat} {d_t : Nat → Nat} {i_t : Nat → Int32} {j_t : Nat → Int64} {r_t_kept : Nat → Int32} {r_t_isKept : Nat → Int32} {r_t_s : Nat → Int32} {r_t_names : Nat → Int64} {n1 : Int32} {Q : Int32 → (Nat → Int32) → (Nat → Int32) → (Nat → Int32) → (Nat → Int64) → Prop}  {x1 : Int32} {kx_51 : (Nat → Int64) → Prop} (F : Fx p m c cX12_image 3 s ([.ref a_t, .int n1] : List Value).toArray RX12 D k) (hr : meth.sig.returnType = (some .boolean)) (hlk : meth.locks = false) (hA : ∀ q : Nat, s.heap.size ≤ q → A q) (hkx_51 : ∀ (r_t_namesKept : Nat → Int64) (H : Heap) (locs : List Loc) (ls : Array Slot), kx_51 r_t_namesKept → Bd D A s.heap (wd_LongTrainModel_image k a_t d_t i_t j_t r_t_kept r_t_isKept r_t_namesKept r_t_s r_t_names) H locs → lv_has ls 3 [(0, .ref a_t), (1, .int x1)] → W p l e { frames := 1, cells := 0, slots := 0, locals := 22 } s m ([.ref a_t, .int n1] : List Value).toArray below meth c H locs 0 0 (Ei below (fun r w => (r = 0 ∨ r = 1) ∧ (∃ (i_t : Nat → Int32), ∃ (r_t_kept : Nat → Int32), ∃ (r_t_isKept : Nat → Int32), ∃ (r_t_namesKept : Nat → Int64), w = (wd_LongTrainModel_image k a_t d_t i_t j_t r_t_kept r_t_isKept r_t_namesKept r_t_s r_t_names) ∧ Q r i_t r_t_kept r_t_isKept r_t_namesKept)) D k A ([.ref a_t, .int n1] : List Value).toArray s 0 0) (F0 m 80 ls [])) :
    ∀ n : Nat, ∀ (x2 : Int32) (r_t_namesKept : Nat → Int64) (H : Heap) (locs : List Loc) (ls : Array Slot), lp_LongTrainModel_image_51 r_t_names x1 kx_51 n x2 r_t_namesKept → Bd D A s.heap (wd_LongTrainModel_image k a_t d_t i_t j_t r_t_kept r_t_isKept r_t_namesKept r_t_s r_t_names) H locs → lv_has ls 3 [(0, .ref a_t), (1, .int x1), (2, .int x2)] → W p l e { frames := 1, cells := 0, slots := 0, locals := 22 } s m ([.ref a_t, .int n1] : List Value).toArray below meth c H locs 0 0 (Ei below (fun r w => (r = 0 ∨ r = 1) ∧ (∃ (i_t : Nat → Int32), ∃ (r_t_kept : Nat → Int32), ∃ (r_t_isKept : Nat → Int32), ∃ (r_t_namesKept : Nat → Int64), w = (wd_LongTrainModel_image k a_t d_t i_t j_t r_t_kept r_t_isKept r_t_namesKept r_t_s r_t_names) ∧ Q r i_t r_t_kept r_t_isKept r_t_namesKept)) D k A ([.ref a_t, .int n1] : List Value).toArray s 0 0) (F0 m 51 ls []) := by
  intro n
  induction n with
  | zero => intro x2 r_t_namesKept H locs ls hf; exact absurd hf (fun h => h)
  | succ n ih => exact bt_LongTrainModel_image_51 F hr hlk hA hkx_51 ih

set_option maxRecDepth 100000 in
set_option maxHeartbeats 4000000 in
theorem c_LongTrainModel_image (l : Launch) (D : va_G) (k : Nat → ClassId) (a_t : Nat) (d_t : Nat → Nat) (i_t : Nat → Int32) (j_t : Nat → Int64) (r_t_kept : Nat → Int32) (r_t_isKept : Nat → Int32) (r_t_namesKept : Nat → Int64) (r_t_s : Nat → Int32) (r_t_names : Nat → Int64) (n1 : Int32) (Q : Int32 → (Nat → Int32) → (Nat → Int32) → (Nat → Int32) → (Nat → Int64) → Prop)  (hf : w_LongTrainModel_image i_t r_t_kept r_t_isKept r_t_namesKept r_t_s r_t_names n1 Q) : CtI l yX12_image cX12_image 3 (some .boolean) 1 22 0 0 D k [.ref a_t, .int n1] (wd_LongTrainModel_image k a_t d_t i_t j_t r_t_kept r_t_isKept r_t_namesKept r_t_s r_t_names) (fun r w => (r = 0 ∨ r = 1) ∧ (∃ (i_t : Nat → Int32), ∃ (r_t_kept : Nat → Int32), ∃ (r_t_isKept : Nat → Int32), ∃ (r_t_namesKept : Nat → Int64), w = (wd_LongTrainModel_image k a_t d_t i_t j_t r_t_kept r_t_isKept r_t_namesKept r_t_s r_t_names) ∧ Q r i_t r_t_kept r_t_isKept r_t_namesKept)) := by
  refine CtI.of (by decide) (Nat.le_of_ble_eq_true rfl) ?_
  intro p e s m below meth c A F hr hlk hnm hA hB ls hl
  have hx := F.x
  have hb := F.b
  unfold w_LongTrainModel_image at hf
  replace hl : lv_has ls 3 [(0, .ref a_t), (1, .int n1)] := hl
  refine lv_aload_n hx hb dX12_image_0 rfl (lv_at hl 0 rfl) ?_
  refine lv_iconst (v := 0) hx hb dX12_image_1 (by decide) ?_
  refine g_puti F hB 0 rfl fl_RX12_1 rfl (wd_LongTrainModel_image k a_t d_t (upd i_t 0 (0 : Int32)) j_t r_t_kept r_t_isKept r_t_namesKept r_t_s r_t_names) rfl dX12_image_2 (fun H locs hB => ?_)
  refine lv_iload_n hx hb dX12_image_5 rfl (lv_at hl 1 rfl) ?_
  refine lv_iconst (v := 0) hx hb dX12_image_6 (by decide) ?_
  refine lv_iconst (v := 1) hx hb dX12_image_7 (by decide) ?_
  refine k_si (wr := [(a_t, ob 12 (rfd d_t) (upd i_t 0 (0 : Int32)) j_t), ((d_t 46), ai k 2136 r_t_kept), ((d_t 48), az k 2 r_t_isKept), ((d_t 47), aj k 32 r_t_namesKept), ((d_t 6), ai k 1068 r_t_s), ((d_t 9), aj k 32 r_t_names)]) (rest := []) F hA hB (c_LongTrainModel_isIn l D k n1 (0 : Int32) (1 : Int32) _  hf) ml_RX12_182 ms_yX12_isIn [] [0, 1, 2, 3, 4, 5] rfl rfl (by decide) (by decide) (by decide) rfl hl.1 rfl (Nat.le_of_ble_eq_true rfl) ⟨Nat.le_of_ble_eq_true rfl, Nat.le_of_ble_eq_true rfl⟩ ⟨Nat.le_of_ble_eq_true rfl, Nat.le_of_ble_eq_true rfl⟩ dX12_image_8 (fun z_1 w1 H locs hq hB => ?_)
  obtain ⟨h_2, rfl, hf⟩ := hq
  replace hB : Bd D A s.heap (wd_LongTrainModel_image k a_t d_t (upd i_t 0 (0 : Int32)) j_t r_t_kept r_t_isKept r_t_namesKept r_t_s r_t_names) H locs := hB.sub [0, 1, 2, 3, 4, 5] (by decide) rfl
  refine lv_if_ne (tgt := 16) hx hb dX12_image_11 (by decide) (fun c_14 => ?_) (fun c_14 => ?_)
  · replace hf := hf.1 c_14
    refine lv_iconst (v := 0) hx hb dX12_image_16 (by decide) ?_
    refine lv_istore_n (lv' := [(2, .int (0 : Int32)), (0, .ref a_t), (1, .int n1)]) hx hb dX12_image_17 rfl hl (by decide) rfl (fun ls hl => ?_)
    obtain ⟨n_13, hf⟩ := hf
    refine lt_LongTrainModel_image_18 F hr hlk hA (fun r_t_kept_6 H locs ls hf hB hl => ?_) n_13 _ _ _ _ _ hf hB (lv_sub hl [1, 2, 0] rfl)
    refine lv_iconst (v := 0) hx hb dX12_image_49 (by decide) ?_
    refine lv_istore_n (lv' := [(2, .int (0 : Int32)), (0, .ref a_t), (1, .int n1)]) hx hb dX12_image_50 rfl hl (by decide) rfl (fun ls hl => ?_)
    obtain ⟨n_12, hf⟩ := hf
    refine lt_LongTrainModel_image_51 F hr hlk hA (fun r_t_namesKept_10 H locs ls hf hB hl => ?_) n_12 _ _ _ _ _ hf hB (lv_sub hl [1, 2, 0] rfl)
    refine lv_aload_n hx hb dX12_image_80 rfl (lv_at hl 0 rfl) ?_
    refine g_get (w := .ref (d_t 48)) F hB 0 rfl fl_RX12_101 rfl dX12_image_81 ?_
    refine lv_iload_n hx hb dX12_image_84 rfl (lv_at hl 1 rfl) ?_
    refine lv_iconst (v := 1) hx hb dX12_image_85 (by decide) ?_
    obtain ⟨h_11, hf⟩ := hf
    refine g_zast F hB 2 rfl h_11 (wd_LongTrainModel_image k a_t d_t (upd i_t 0 (0 : Int32)) j_t r_t_kept_6 (upd r_t_isKept (n1).toNatClampNeg (vp_nar .boolean (1 : Int32))) r_t_namesKept_10 r_t_s r_t_names) rfl dX12_image_86 (fun H locs hB => ?_)
    refine lv_iconst (v := 1) hx hb dX12_image_87 (by decide) ?_
    exact r_z F hr hlk hB (Or.inr rfl) ⟨Or.inr rfl, _, _, _, _, rfl, hf⟩ dX12_image_88
  · replace hf := hf.2 c_14
    refine lv_iconst (v := 0) hx hb dX12_image_14 (by decide) ?_
    exact r_z F hr hlk hB (Or.inl rfl) ⟨Or.inl rfl, _, _, _, _, rfl, hf⟩ dX12_image_15

