/-! LongTrainModel.helps -/
set_option maxRecDepth 100000 in
set_option maxHeartbeats 4000000 in
theorem bt_LongTrainModel_helps_2 {p : Program} {l : Launch} {e : Env} {s : State} {m : MethodId} {below : List Frame} {meth : Method} {c : Code} {A : Nat → Prop} {D : va_G} {k : Nat → ClassId} {a_t : Nat} {d_t : Nat → Nat} {i_t : Nat → Int32} {j_t : Nat → Int64} {n1 : Int32} {n2 : Int32} {Q : (Nat → Int32) → (Nat → Int32) → Prop}  {x1 : Int32} {x2 : Int32} {kx_2 : (Nat → Int32) → Prop} {kr_2 : (Int32) → (Nat → Int32) → Prop} (F : Fx p m c cX12_helps 4 s ([.ref a_t, .int n1, .int n2] : List Value).toArray RX12 D k) (hr : meth.sig.returnType = none) (hlk : meth.locks = false) (hA : ∀ q : Nat, s.heap.size ≤ q → A q) (hkx_2 : ∀ (r_t_bears : Nat → Int32) (H : Heap) (locs : List Loc) (ls : Array Slot), kx_2 r_t_bears → Bd D A s.heap (wd_LongTrainModel_helps k a_t d_t i_t j_t r_t_bears) H locs → lv_has ls 4 [(0, .ref a_t), (2, .int x2)] → W p l e { frames := 0, cells := 0, slots := 0, locals := 0 } s m ([.ref a_t, .int n1, .int n2] : List Value).toArray below meth c H locs 0 0 (Ev below (fun w => ∃ (i_t : Nat → Int32), ∃ (r_t_bears : Nat → Int32), w = (wd_LongTrainModel_helps k a_t d_t i_t j_t r_t_bears) ∧ Q i_t r_t_bears) D k A ([.ref a_t, .int n1, .int n2] : List Value).toArray s 0 0) (F0 m 23 ls [])) (hkr_2 : ∀ (x3 : Int32) (r_t_bears : Nat → Int32) (H : Heap) (locs : List Loc) (ls : Array Slot), kr_2 x3 r_t_bears → Bd D A s.heap (wd_LongTrainModel_helps k a_t d_t i_t j_t r_t_bears) H locs → lv_has ls 4 [(0, .ref a_t), (1, .int x1), (2, .int x2), (3, .int x3)] → W p l e { frames := 0, cells := 0, slots := 0, locals := 0 } s m ([.ref a_t, .int n1, .int n2] : List Value).toArray below meth c H locs 0 0 (Ev below (fun w => ∃ (i_t : Nat → Int32), ∃ (r_t_bears : Nat → Int32), w = (wd_LongTrainModel_helps k a_t d_t i_t j_t r_t_bears) ∧ Q i_t r_t_bears) D k A ([.ref a_t, .int n1, .int n2] : List Value).toArray s 0 0) (F0 m 2 ls [])) :
    ∀ (x3 : Int32) (r_t_bears : Nat → Int32) (H : Heap) (locs : List Loc) (ls : Array Slot), b_LongTrainModel_helps_2 x1 x2 kx_2 kr_2 x3 r_t_bears → Bd D A s.heap (wd_LongTrainModel_helps k a_t d_t i_t j_t r_t_bears) H locs → lv_has ls 4 [(0, .ref a_t), (1, .int x1), (2, .int x2), (3, .int x3)] → W p l e { frames := 0, cells := 0, slots := 0, locals := 0 } s m ([.ref a_t, .int n1, .int n2] : List Value).toArray below meth c H locs 0 0 (Ev below (fun w => ∃ (i_t : Nat → Int32), ∃ (r_t_bears : Nat → Int32), w = (wd_LongTrainModel_helps k a_t d_t i_t j_t r_t_bears) ∧ Q i_t r_t_bears) D k A ([.ref a_t, .int n1, .int n2] : List Value).toArray s 0 0) (F0 m 2 ls []) := by
  have hx := F.x
  have hb := F.b
  intro x3 r_t_bears H locs ls hf hB hl
  unfold b_LongTrainModel_helps_2 at hf
  refine lv_iload_n hx hb dX12_helps_2 rfl (lv_at hl 3 rfl) ?_
  refine lv_iload_n hx hb dX12_helps_3 rfl (lv_at hl 1 rfl) ?_
  refine lv_icmp_gt (tgt := 23) hx hb dX12_helps_4 (by decide) (fun c_3 => ?_) (fun c_3 => ?_)
  · replace hf := hf.1 c_3
    exact hkx_2 _ _ _ _ hf hB (lv_sub hl [0, 2] rfl)
  · replace hf := hf.2 c_3
    refine lv_aload_n hx hb dX12_helps_7 rfl (lv_at hl 0 rfl) ?_
    refine g_get (w := .ref (d_t 24)) F hB 0 rfl fl_RX12_56 rfl dX12_helps_8 ?_
    refine lv_iload_n hx hb dX12_helps_11 rfl (lv_at hl 3 rfl) ?_
    refine lv_dup2_11 hx hb dX12_helps_12 rfl rfl ?_
    obtain ⟨h_1, hf⟩ := hf
    refine g_iald F hB 1 rfl h_1 dX12_helps_13 ?_
    refine lv_iload_n hx hb dX12_helps_14 rfl (lv_at hl 2 rfl) ?_
    refine lv_isub hx hb dX12_helps_15 ?_
    obtain ⟨h_2, hf⟩ := hf
    refine g_iast F hB 1 rfl h_2 (wd_LongTrainModel_helps k a_t d_t i_t j_t (upd r_t_bears (x3).toNatClampNeg ((r_t_bears (x3).toNatClampNeg) - x2))) rfl dX12_helps_16 (fun H locs hB => ?_)
    refine lv_iinc (v := (x3 + 1)) (lv' := [(3, .int (x3 + 1)), (0, .ref a_t), (1, .int x1), (2, .int x2)]) (k := 3) hx hb dX12_helps_17 hl rfl rfl (by decide) rfl (fun ls hl => ?_)
    refine lv_goto (tgt := 2) hx hb dX12_helps_20 (by decide) ?_
    exact hkr_2 _ _ _ _ _ hf hB (lv_sub hl [1, 2, 3, 0] rfl)

set_option maxRecDepth 100000 in
set_option maxHeartbeats 4000000 in
theorem lt_LongTrainModel_helps_2 {p : Program} {l : Launch} {e : Env} {s : State} {m : MethodId} {below : List Frame} {meth : Method} {c : Code} {A : Nat → Prop} {D : va_G} {k : Nat → ClassId} {a_t : Nat} {d_t : Nat → Nat} {i_t : Nat → Int32} {j_t : Nat → Int64} {n1 : Int32} {n2 : Int32} {Q : (Nat → Int32) → (Nat → Int32) → Prop}  {x1 : Int32} {x2 : Int32} {kx_2 : (Nat → Int32) → Prop} (F : Fx p m c cX12_helps 4 s ([.ref a_t, .int n1, .int n2] : List Value).toArray RX12 D k) (hr : meth.sig.returnType = none) (hlk : meth.locks = false) (hA : ∀ q : Nat, s.heap.size ≤ q → A q) (hkx_2 : ∀ (r_t_bears : Nat → Int32) (H : Heap) (locs : List Loc) (ls : Array Slot), kx_2 r_t_bears → Bd D A s.heap (wd_LongTrainModel_helps k a_t d_t i_t j_t r_t_bears) H locs → lv_has ls 4 [(0, .ref a_t), (2, .int x2)] → W p l e { frames := 0, cells := 0, slots := 0, locals := 0 } s m ([.ref a_t, .int n1, .int n2] : List Value).toArray below meth c H locs 0 0 (Ev below (fun w => ∃ (i_t : Nat → Int32), ∃ (r_t_bears : Nat → Int32), w = (wd_LongTrainModel_helps k a_t d_t i_t j_t r_t_bears) ∧ Q i_t r_t_bears) D k A ([.ref a_t, .int n1, .int n2] : List Value).toArray s 0 0) (F0 m 23 ls [])) :
    ∀ n : Nat, ∀ (x3 : Int32) (r_t_bears : Nat → Int32) (H : Heap) (locs : List Loc) (ls : Array Slot), lp_LongTrainModel_helps_2 x1 x2 kx_2 n x3 r_t_bears → Bd D A s.heap (wd_LongTrainModel_helps k a_t d_t i_t j_t r_t_bears) H locs → lv_has ls 4 [(0, .ref a_t), (1, .int x1), (2, .int x2), (3, .int x3)] → W p l e { frames := 0, cells := 0, slots := 0, locals := 0 } s m ([.ref a_t, .int n1, .int n2] : List Value).toArray below meth c H locs 0 0 (Ev below (fun w => ∃ (i_t : Nat → Int32), ∃ (r_t_bears : Nat → Int32), w = (wd_LongTrainModel_helps k a_t d_t i_t j_t r_t_bears) ∧ Q i_t r_t_bears) D k A ([.ref a_t, .int n1, .int n2] : List Value).toArray s 0 0) (F0 m 2 ls []) := by
  intro n
  induction n with
  | zero => intro x3 r_t_bears H locs ls hf; exact absurd hf (fun h => h)
  | succ n ih => exact bt_LongTrainModel_helps_2 F hr hlk hA hkx_2 ih

set_option maxRecDepth 100000 in
set_option maxHeartbeats 4000000 in
theorem c_LongTrainModel_helps (l : Launch) (D : va_G) (k : Nat → ClassId) (a_t : Nat) (d_t : Nat → Nat) (i_t : Nat → Int32) (j_t : Nat → Int64) (r_t_bears : Nat → Int32) (n1 : Int32) (n2 : Int32) (Q : (Nat → Int32) → (Nat → Int32) → Prop)  (hf : w_LongTrainModel_helps i_t r_t_bears n1 n2 Q) : CtV l yX12_helps cX12_helps 4 none 0 0 0 0 D k [.ref a_t, .int n1, .int n2] (wd_LongTrainModel_helps k a_t d_t i_t j_t r_t_bears) (fun w => ∃ (i_t : Nat → Int32), ∃ (r_t_bears : Nat → Int32), w = (wd_LongTrainModel_helps k a_t d_t i_t j_t r_t_bears) ∧ Q i_t r_t_bears) := by
  refine CtV.of (by decide) (Nat.le_of_ble_eq_true rfl) ?_
  intro p e s m below meth c A F hr hlk hnm hA hB ls hl
  have hx := F.x
  have hb := F.b
  unfold w_LongTrainModel_helps at hf
  replace hl : lv_has ls 4 [(0, .ref a_t), (1, .int n1), (2, .int n2)] := hl
  refine lv_iconst (v := 0) hx hb dX12_helps_0 (by decide) ?_
  refine lv_istore_n (lv' := [(3, .int (0 : Int32)), (0, .ref a_t), (1, .int n1), (2, .int n2)]) hx hb dX12_helps_1 rfl hl (by decide) rfl (fun ls hl => ?_)
  obtain ⟨n_5, hf⟩ := hf
  refine lt_LongTrainModel_helps_2 F hr hlk hA (fun r_t_bears_4 H locs ls hf hB hl => ?_) n_5 _ _ _ _ _ hf hB (lv_sub hl [1, 2, 3, 0] rfl)
  refine lv_aload_n hx hb dX12_helps_23 rfl (lv_at hl 0 rfl) ?_
  refine lv_dup hx hb dX12_helps_24 rfl ?_
  refine g_get (w := .int (i_t 28)) F hB 0 rfl fl_RX12_279 rfl dX12_helps_25 ?_
  refine lv_iload_n hx hb dX12_helps_28 rfl (lv_at hl 1 rfl) ?_
  refine lv_isub hx hb dX12_helps_29 ?_
  refine g_puti F hB 0 rfl fl_RX12_279 rfl (wd_LongTrainModel_helps k a_t d_t (upd i_t 28 ((i_t 28) - n2)) j_t r_t_bears_4) rfl dX12_helps_30 (fun H locs hB => ?_)
  exact r_v F hr hlk hB ⟨_, _, rfl, hf⟩ dX12_helps_33

/-! LongTrainModel.free -/
set_option maxRecDepth 100000 in
set_option maxHeartbeats 4000000 in
theorem bt_LongTrainModel_free_13 {p : Program} {l : Launch} {e : Env} {s : State} {m : MethodId} {below : List Frame} {meth : Method} {c : Code} {A : Nat → Prop} {D : va_G} {k : Nat → ClassId} {a_t : Nat} {d_t : Nat → Nat} {i_t : Nat → Int32} {j_t : Nat → Int64} {r_t_s : Nat → Int32} {n1 : Int32} {Q : (Nat → Int32) → (Nat → Int32) → Prop}  {x1 : Int32} {kx_13 : (Nat → Int32) → Prop} {kr_13 : (Int32) → (Nat → Int32) → Prop} (F : Fx p m c cX12_free 3 s ([.ref a_t, .int n1] : List Value).toArray RX12 D k) (hr : meth.sig.returnType = none) (hlk : meth.locks = false) (hA : ∀ q : Nat, s.heap.size ≤ q → A q) (hkx_13 : ∀ (r_t_wagons : Nat → Int32) (H : Heap) (locs : List Loc) (ls : Array Slot), kx_13 r_t_wagons → Bd D A s.heap (wd_LongTrainModel_free k a_t d_t i_t j_t r_t_s r_t_wagons) H locs → lv_has ls 3 [(0, .ref a_t), (1, .int x1)] → W p l e { frames := 1, cells := 0, slots := 0, locals := 22 } s m ([.ref a_t, .int n1] : List Value).toArray below meth c H locs 0 0 (Ev below (fun w => ∃ (i_t : Nat → Int32), ∃ (r_t_wagons : Nat → Int32), w = (wd_LongTrainModel_free k a_t d_t i_t j_t r_t_s r_t_wagons) ∧ Q i_t r_t_wagons) D k A ([.ref a_t, .int n1] : List Value).toArray s 0 0) (F0 m 43 ls [])) (hkr_13 : ∀ (x2 : Int32) (r_t_wagons : Nat → Int32) (H : Heap) (locs : List Loc) (ls : Array Slot), kr_13 x2 r_t_wagons → Bd D A s.heap (wd_LongTrainModel_free k a_t d_t i_t j_t r_t_s r_t_wagons) H locs → lv_has ls 3 [(0, .ref a_t), (1, .int x1), (2, .int x2)] → W p l e { frames := 1, cells := 0, slots := 0, locals := 22 } s m ([.ref a_t, .int n1] : List Value).toArray below meth c H locs 0 0 (Ev below (fun w => ∃ (i_t : Nat → Int32), ∃ (r_t_wagons : Nat → Int32), w = (wd_LongTrainModel_free k a_t d_t i_t j_t r_t_s r_t_wagons) ∧ Q i_t r_t_wagons) D k A ([.ref a_t, .int n1] : List Value).toArray s 0 0) (F0 m 13 ls [])) :
    ∀ (x2 : Int32) (r_t_wagons : Nat → Int32) (H : Heap) (locs : List Loc) (ls : Array Slot), b_LongTrainModel_free_13 i_t r_t_s kx_13 kr_13 x2 r_t_wagons → Bd D A s.heap (wd_LongTrainModel_free k a_t d_t i_t j_t r_t_s r_t_wagons) H locs → lv_has ls 3 [(0, .ref a_t), (1, .int x1), (2, .int x2)] → W p l e { frames := 1, cells := 0, slots := 0, locals := 22 } s m ([.ref a_t, .int n1] : List Value).toArray below meth c H locs 0 0 (Ev below (fun w => ∃ (i_t : Nat → Int32), ∃ (r_t_wagons : Nat → Int32), w = (wd_LongTrainModel_free k a_t d_t i_t j_t r_t_s r_t_wagons) ∧ Q i_t r_t_wagons) D k A ([.ref a_t, .int n1] : List Value).toArray s 0 0) (F0 m 13 ls []) := by
  have hx := F.x
  have hb := F.b
  intro x2 r_t_wagons H locs ls hf hB hl
  unfold b_LongTrainModel_free_13 at hf
  refine lv_iload_n hx hb dX12_free_13 rfl (lv_at hl 2 rfl) ?_
  refine lv_aload_n hx hb dX12_free_14 rfl (lv_at hl 0 rfl) ?_
  refine g_get (w := .int (i_t 27)) F hB 0 rfl fl_RX12_270 rfl dX12_free_15 ?_
  refine lv_icmp_ge (tgt := 43) hx hb dX12_free_18 (by decide) (fun c_4 => ?_) (fun c_4 => ?_)
  · replace hf := hf.1 c_4
    exact hkx_13 _ _ _ _ hf hB (lv_sub hl [0, 1] rfl)
  · replace hf := hf.2 c_4
    refine lv_aload_n hx hb dX12_free_21 rfl (lv_at hl 0 rfl) ?_
    refine g_get (w := .ref (d_t 22)) F hB 0 rfl fl_RX12_50 rfl dX12_free_22 ?_
    refine lv_iload_n hx hb dX12_free_25 rfl (lv_at hl 2 rfl) ?_
    refine lv_aload_n hx hb dX12_free_26 rfl (lv_at hl 0 rfl) ?_
    refine g_get (w := .ref (d_t 6)) F hB 0 rfl fl_RX12_33 rfl dX12_free_27 ?_
    refine lv_sipush (v := 475) hx hb dX12_free_30 (by decide) ?_
    refine lv_iload_n hx hb dX12_free_33 rfl (lv_at hl 2 rfl) ?_
    refine lv_iadd hx hb dX12_free_34 ?_
    obtain ⟨h_2, hf⟩ := hf
    refine g_iald F hB 1 rfl h_2 dX12_free_35 ?_
    obtain ⟨h_3, hf⟩ := hf
    refine g_iast F hB 2 rfl h_3 (wd_LongTrainModel_free k a_t d_t i_t j_t r_t_s (upd r_t_wagons (x2).toNatClampNeg (r_t_s (((475 : Int32) + x2)).toNatClampNeg))) rfl dX12_free_36 (fun H locs hB => ?_)
    refine lv_iinc (v := (x2 + 1)) (lv' := [(2, .int (x2 + 1)), (0, .ref a_t), (1, .int x1)]) (k := 2) hx hb dX12_free_37 hl rfl rfl (by decide) rfl (fun ls hl => ?_)
    refine lv_goto (tgt := 13) hx hb dX12_free_40 (by decide) ?_
    exact hkr_13 _ _ _ _ _ hf hB (lv_sub hl [1, 2, 0] rfl)

set_option maxRecDepth 100000 in
set_option maxHeartbeats 4000000 in
theorem lt_LongTrainModel_free_13 {p : Program} {l : Launch} {e : Env} {s : State} {m : MethodId} {below : List Frame} {meth : Method} {c : Code} {A : Nat → Prop} {D : va_G} {k : Nat → ClassId} {a_t : Nat} {d_t : Nat → Nat} {i_t : Nat → Int32} {j_t : Nat → Int64} {r_t_s : Nat → Int32} {n1 : Int32} {Q : (Nat → Int32) → (Nat → Int32) → Prop}  {x1 : Int32} {kx_13 : (Nat → Int32) → Prop} (F : Fx p m c cX12_free 3 s ([.ref a_t, .int n1] : List Value).toArray RX12 D k) (hr : meth.sig.returnType = none) (hlk : meth.locks = false) (hA : ∀ q : Nat, s.heap.size ≤ q → A q) (hkx_13 : ∀ (r_t_wagons : Nat → Int32) (H : Heap) (locs : List Loc) (ls : Array Slot), kx_13 r_t_wagons → Bd D A s.heap (wd_LongTrainModel_free k a_t d_t i_t j_t r_t_s r_t_wagons) H locs → lv_has ls 3 [(0, .ref a_t), (1, .int x1)] → W p l e { frames := 1, cells := 0, slots := 0, locals := 22 } s m ([.ref a_t, .int n1] : List Value).toArray below meth c H locs 0 0 (Ev below (fun w => ∃ (i_t : Nat → Int32), ∃ (r_t_wagons : Nat → Int32), w = (wd_LongTrainModel_free k a_t d_t i_t j_t r_t_s r_t_wagons) ∧ Q i_t r_t_wagons) D k A ([.ref a_t, .int n1] : List Value).toArray s 0 0) (F0 m 43 ls [])) :
    ∀ n : Nat, ∀ (x2 : Int32) (r_t_wagons : Nat → Int32) (H : Heap) (locs : List Loc) (ls : Array Slot), lp_LongTrainModel_free_13 i_t r_t_s kx_13 n x2 r_t_wagons → Bd D A s.heap (wd_LongTrainModel_free k a_t d_t i_t j_t r_t_s r_t_wagons) H locs → lv_has ls 3 [(0, .ref a_t), (1, .int x1), (2, .int x2)] → W p l e { frames := 1, cells := 0, slots := 0, locals := 22 } s m ([.ref a_t, .int n1] : List Value).toArray below meth c H locs 0 0 (Ev below (fun w => ∃ (i_t : Nat → Int32), ∃ (r_t_wagons : Nat → Int32), w = (wd_LongTrainModel_free k a_t d_t i_t j_t r_t_s r_t_wagons) ∧ Q i_t r_t_wagons) D k A ([.ref a_t, .int n1] : List Value).toArray s 0 0) (F0 m 13 ls []) := by
  intro n
  induction n with
  | zero => intro x2 r_t_wagons H locs ls hf; exact absurd hf (fun h => h)
  | succ n ih => exact bt_LongTrainModel_free_13 F hr hlk hA hkx_13 ih

set_option maxRecDepth 100000 in
set_option maxHeartbeats 4000000 in
theorem bt_LongTrainModel_free_45 {p : Program} {l : Launch} {e : Env} {s : State} {m : MethodId} {below : List Frame} {meth : Method} {c : Code} {A : Nat → Prop} {D : va_G} {k : Nat → ClassId} {a_t : Nat} {d_t : Nat → Nat} {j_t : Nat → Int64} {r_t_s : Nat → Int32} {n1 : Int32} {Q : (Nat → Int32) → (Nat → Int32) → Prop}  {x1 : Int32} {kx_45 : (Nat → Int32) → (Nat → Int32) → Prop} {kr_45 : (Int32) → (Nat → Int32) → (Nat → Int32) → Prop} (F : Fx p m c cX12_free 3 s ([.ref a_t, .int n1] : List Value).toArray RX12 D k) (hr : meth.sig.returnType = none) (hlk : meth.locks = false) (hA : ∀ q : Nat, s.heap.size ≤ q → A q) (hkx_45 : ∀ (i_t : Nat → Int32) (r_t_wagons : Nat → Int32) (H : Heap) (locs : List Loc) (ls : Array Slot), kx_45 i_t r_t_wagons → Bd D A s.heap (wd_LongTrainModel_free k a_t d_t i_t j_t r_t_s r_t_wagons) H locs → lv_has ls 3 [] → W p l e { frames := 1, cells := 0, slots := 0, locals := 22 } s m ([.ref a_t, .int n1] : List Value).toArray below meth c H locs 0 0 (Ev below (fun w => ∃ (i_t : Nat → Int32), ∃ (r_t_wagons : Nat → Int32), w = (wd_LongTrainModel_free k a_t d_t i_t j_t r_t_s r_t_wagons) ∧ Q i_t r_t_wagons) D k A ([.ref a_t, .int n1] : List Value).toArray s 0 0) (F0 m 118 ls [])) (hkr_45 : ∀ (x2 : Int32) (i_t : Nat → Int32) (r_t_wagons : Nat → Int32) (H : Heap) (locs : List Loc) (ls : Array Slot), kr_45 x2 i_t r_t_wagons → Bd D A s.heap (wd_LongTrainModel_free k a_t d_t i_t j_t r_t_s r_t_wagons) H locs → lv_has ls 3 [(0, .ref a_t), (1, .int x1), (2, .int x2)] → W p l e { frames := 1, cells := 0, slots := 0, locals := 22 } s m ([.ref a_t, .int n1] : List Value).toArray below meth c H locs 0 0 (Ev below (fun w => ∃ (i_t : Nat → Int32), ∃ (r_t_wagons : Nat → Int32), w = (wd_LongTrainModel_free k a_t d_t i_t j_t r_t_s r_t_wagons) ∧ Q i_t r_t_wagons) D k A ([.ref a_t, .int n1] : List Value).toArray s 0 0) (F0 m 45 ls [])) :
    ∀ (x2 : Int32) (i_t : Nat → Int32) (r_t_wagons : Nat → Int32) (H : Heap) (locs : List Loc) (ls : Array Slot), b_LongTrainModel_free_45 r_t_s x1 kx_45 kr_45 x2 i_t r_t_wagons → Bd D A s.heap (wd_LongTrainModel_free k a_t d_t i_t j_t r_t_s r_t_wagons) H locs → lv_has ls 3 [(0, .ref a_t), (1, .int x1), (2, .int x2)] → W p l e { frames := 1, cells := 0, slots := 0, locals := 22 } s m ([.ref a_t, .int n1] : List Value).toArray below meth c H locs 0 0 (Ev below (fun w => ∃ (i_t : Nat → Int32), ∃ (r_t_wagons : Nat → Int32), w = (wd_LongTrainModel_free k a_t d_t i_t j_t r_t_s r_t_wagons) ∧ Q i_t r_t_wagons) D k A ([.ref a_t, .int n1] : List Value).toArray s 0 0) (F0 m 45 ls []) := by
  have hx := F.x
  have hb := F.b
  intro x2 i_t r_t_wagons H locs ls hf hB hl
  unfold b_LongTrainModel_free_45 at hf
  refine lv_iload_n hx hb dX12_free_45 rfl (lv_at hl 2 rfl) ?_
  refine lv_aload_n hx hb dX12_free_46 rfl (lv_at hl 0 rfl) ?_
  refine g_get (w := .ref (d_t 6)) F hB 0 rfl fl_RX12_33 rfl dX12_free_47 ?_
  refine lv_iconst (v := 1) hx hb dX12_free_50 (by decide) ?_
  refine g_iald F hB 1 rfl (vp_in_iff.mpr (by decide +kernel)) dX12_free_51 ?_
  refine W.eq (g2 := F0 m 52 ls [.int (r_t_s 1), .int x2]) rfl ?_
  refine lv_icmp_ge (tgt := 118) hx hb dX12_free_52 (by decide) (fun c_16 => ?_) (fun c_16 => ?_)
  · replace hf := hf.1 c_16
    exact hkx_45 _ _ _ _ _ hf hB (lv_sub hl [] rfl)
  · replace hf := hf.2 c_16
    refine lv_aload_n hx hb dX12_free_55 rfl (lv_at hl 0 rfl) ?_
    refine lv_iload_n hx hb dX12_free_56 rfl (lv_at hl 2 rfl) ?_
    refine k_vi (wr := [((d_t 22), ai k 20 r_t_wagons)]) (rest := []) F hA hB (c_LongTrainModel_haltAt l D k a_t d_t i_t j_t r_t_s x2 _  hf) ml_RX12_261 mv_yX12_haltAt [0, 1] [2] rfl rfl (by decide) (by decide) (by decide) 0 rfl rfl rfl hl.1 rfl (Nat.le_of_ble_eq_true rfl) ⟨Nat.le_of_ble_eq_true rfl, Nat.le_of_ble_eq_true rfl⟩ ⟨Nat.le_of_ble_eq_true rfl, Nat.le_of_ble_eq_true rfl⟩ dX12_free_57 (fun z_7 w1 H locs hq hB => ?_)
    obtain ⟨rfl, hf⟩ := hq
    replace hB : Bd D A s.heap (wd_LongTrainModel_free k a_t d_t i_t j_t r_t_s r_t_wagons) H locs := hB.sub [1, 2, 0] (by decide) rfl
    refine lv_iconst (v := 1) hx hb dX12_free_60 (by decide) ?_
    refine lv_iload_n hx hb dX12_free_61 rfl (lv_at hl 1 rfl) ?_
    refine k_si (wr := [(a_t, ob 12 (rfd d_t) i_t j_t), ((d_t 6), ai k 1068 r_t_s), ((d_t 22), ai k 20 r_t_wagons)]) (rest := []) F hA hB (c_LongTrainModel_isIn l D k z_7 (1 : Int32) x1 _  hf) ml_RX12_182 ms_yX12_isIn [] [0, 1, 2] rfl rfl (by decide) (by decide) (by decide) rfl hl.1 rfl (Nat.le_of_ble_eq_true rfl) ⟨Nat.le_of_ble_eq_true rfl, Nat.le_of_ble_eq_true rfl⟩ ⟨Nat.le_of_ble_eq_true rfl, Nat.le_of_ble_eq_true rfl⟩ dX12_free_62 (fun z_8 w1 H locs hq hB => ?_)
    obtain ⟨h_9, rfl, hf⟩ := hq
    replace hB : Bd D A s.heap (wd_LongTrainModel_free k a_t d_t i_t j_t r_t_s r_t_wagons) H locs := hB.sub [0, 1, 2] (by decide) rfl
    refine lv_if_eq (tgt := 112) hx hb dX12_free_65 (by decide) (fun c_15 => ?_) (fun c_15 => ?_)
    · replace hf := hf.1 c_15
      refine lv_iinc (v := (x2 + 1)) (lv' := [(2, .int (x2 + 1)), (0, .ref a_t), (1, .int x1)]) (k := 2) hx hb dX12_free_112 hl rfl rfl (by decide) rfl (fun ls hl => ?_)
      refine lv_goto (tgt := 45) hx hb dX12_free_115 (by decide) ?_
      exact hkr_45 _ _ _ _ _ _ hf hB (lv_sub hl [1, 2, 0] rfl)
    · replace hf := hf.2 c_15
      refine lv_aload_n hx hb dX12_free_68 rfl (lv_at hl 0 rfl) ?_
      refine lv_iload_n hx hb dX12_free_69 rfl (lv_at hl 2 rfl) ?_
      refine k_vi (wr := [((d_t 22), ai k 20 r_t_wagons)]) (rest := []) F hA hB (c_LongTrainModel_addsOf l D k a_t d_t i_t j_t r_t_s x2 _  hf) ml_RX12_264 mv_yX12_addsOf [0, 1] [2] rfl rfl (by decide) (by decide) (by decide) 0 rfl rfl rfl hl.1 rfl (Nat.le_of_ble_eq_true rfl) ⟨Nat.le_of_ble_eq_true rfl, Nat.le_of_ble_eq_true rfl⟩ ⟨Nat.le_of_ble_eq_true rfl, Nat.le_of_ble_eq_true rfl⟩ dX12_free_70 (fun z_10 w1 H locs hq hB => ?_)
      obtain ⟨rfl, hf⟩ := hq
      replace hB : Bd D A s.heap (wd_LongTrainModel_free k a_t d_t i_t j_t r_t_s r_t_wagons) H locs := hB.sub [1, 2, 0] (by decide) rfl
      refine lv_if_lt (tgt := 112) hx hb dX12_free_73 (by decide) (fun c_14 => ?_) (fun c_14 => ?_)
      · replace hf := hf.1 c_14
        refine lv_iinc (v := (x2 + 1)) (lv' := [(2, .int (x2 + 1)), (0, .ref a_t), (1, .int x1)]) (k := 2) hx hb dX12_free_112 hl rfl rfl (by decide) rfl (fun ls hl => ?_)
        refine lv_goto (tgt := 45) hx hb dX12_free_115 (by decide) ?_
        exact hkr_45 _ _ _ _ _ _ hf hB (lv_sub hl [1, 2, 0] rfl)
      · replace hf := hf.2 c_14
        refine lv_aload_n hx hb dX12_free_76 rfl (lv_at hl 0 rfl) ?_
        refine g_get (w := .int (i_t 27)) F hB 0 rfl fl_RX12_270 rfl dX12_free_77 ?_
        refine lv_bipush (v := 20) hx hb dX12_free_80 (by decide) ?_
        refine lv_icmp_ne (tgt := 88) hx hb dX12_free_82 (by decide) (fun c_13 => ?_) (fun c_13 => ?_)
        · replace hf := hf.1 c_13
          refine lv_aload_n hx hb dX12_free_88 rfl (lv_at hl 0 rfl) ?_
          refine g_get (w := .ref (d_t 22)) F hB 0 rfl fl_RX12_50 rfl dX12_free_89 ?_
          refine lv_aload_n hx hb dX12_free_92 rfl (lv_at hl 0 rfl) ?_
          refine g_get (w := .int (i_t 27)) F hB 0 rfl fl_RX12_270 rfl dX12_free_93 ?_
          refine lv_aload_n hx hb dX12_free_96 rfl (lv_at hl 0 rfl) ?_
          refine lv_iload_n hx hb dX12_free_97 rfl (lv_at hl 2 rfl) ?_
          refine k_vi (wr := [((d_t 22), ai k 20 r_t_wagons)]) (rest := [.int (i_t 27), .ref (d_t 22)]) F hA hB (c_LongTrainModel_addsOf l D k a_t d_t i_t j_t r_t_s x2 _  hf) ml_RX12_264 mv_yX12_addsOf [0, 1] [2] rfl rfl (by decide) (by decide) (by decide) 0 rfl rfl rfl hl.1 rfl (Nat.le_of_ble_eq_true rfl) ⟨Nat.le_of_ble_eq_true rfl, Nat.le_of_ble_eq_true rfl⟩ ⟨Nat.le_of_ble_eq_true rfl, Nat.le_of_ble_eq_true rfl⟩ dX12_free_98 (fun z_11 w1 H locs hq hB => ?_)
          obtain ⟨rfl, hf⟩ := hq
          replace hB : Bd D A s.heap (wd_LongTrainModel_free k a_t d_t i_t j_t r_t_s r_t_wagons) H locs := hB.sub [1, 2, 0] (by decide) rfl
          obtain ⟨h_12, hf⟩ := hf
          refine g_iast F hB 2 rfl h_12 (wd_LongTrainModel_free k a_t d_t i_t j_t r_t_s (upd r_t_wagons ((i_t 27)).toNatClampNeg z_11)) rfl dX12_free_101 (fun H locs hB => ?_)
          refine lv_aload_n hx hb dX12_free_102 rfl (lv_at hl 0 rfl) ?_
          refine lv_dup hx hb dX12_free_103 rfl ?_
          refine g_get (w := .int (i_t 27)) F hB 0 rfl fl_RX12_270 rfl dX12_free_104 ?_
          refine lv_iconst (v := 1) hx hb dX12_free_107 (by decide) ?_
          refine lv_iadd hx hb dX12_free_108 ?_
          refine g_puti F hB 0 rfl fl_RX12_270 rfl (wd_LongTrainModel_free k a_t d_t (upd i_t 27 ((i_t 27) + (1 : Int32))) j_t r_t_s (upd r_t_wagons ((i_t 27)).toNatClampNeg z_11)) rfl dX12_free_109 (fun H locs hB => ?_)
          refine lv_iinc (v := (x2 + 1)) (lv' := [(2, .int (x2 + 1)), (0, .ref a_t), (1, .int x1)]) (k := 2) hx hb dX12_free_112 hl rfl rfl (by decide) rfl (fun ls hl => ?_)
          refine lv_goto (tgt := 45) hx hb dX12_free_115 (by decide) ?_
          exact hkr_45 _ _ _ _ _ _ hf hB (lv_sub hl [1, 2, 0] rfl)
        · replace hf := hf.2 c_13
          refine lv_goto (tgt := 112) hx hb dX12_free_85 (by decide) ?_
          refine lv_iinc (v := (x2 + 1)) (lv' := [(2, .int (x2 + 1)), (0, .ref a_t), (1, .int x1)]) (k := 2) hx hb dX12_free_112 hl rfl rfl (by decide) rfl (fun ls hl => ?_)
          refine lv_goto (tgt := 45) hx hb dX12_free_115 (by decide) ?_
          exact hkr_45 _ _ _ _ _ _ hf hB (lv_sub hl [1, 2, 0] rfl)

set_option maxRecDepth 100000 in
set_option maxHeartbeats 4000000 in
theorem lt_LongTrainModel_free_45 {p : Program} {l : Launch} {e : Env} {s : State} {m : MethodId} {below : List Frame} {meth : Method} {c : Code} {A : Nat → Prop} {D : va_G} {k : Nat → ClassId} {a_t : Nat} {d_t : Nat → Nat} {j_t : Nat → Int64} {r_t_s : Nat → Int32} {n1 : Int32} {Q : (Nat → Int32) → (Nat → Int32) → Prop}  {x1 : Int32} {kx_45 : (Nat → Int32) → (Nat → Int32) → Prop} (F : Fx p m c cX12_free 3 s ([.ref a_t, .int n1] : List Value).toArray RX12 D k) (hr : meth.sig.returnType = none) (hlk : meth.locks = false) (hA : ∀ q : Nat, s.heap.size ≤ q → A q) (hkx_45 : ∀ (i_t : Nat → Int32) (r_t_wagons : Nat → Int32) (H : Heap) (locs : List Loc) (ls : Array Slot), kx_45 i_t r_t_wagons → Bd D A s.heap (wd_LongTrainModel_free k a_t d_t i_t j_t r_t_s r_t_wagons) H locs → lv_has ls 3 [] → W p l e { frames := 1, cells := 0, slots := 0, locals := 22 } s m ([.ref a_t, .int n1] : List Value).toArray below meth c H locs 0 0 (Ev below (fun w => ∃ (i_t : Nat → Int32), ∃ (r_t_wagons : Nat → Int32), w = (wd_LongTrainModel_free k a_t d_t i_t j_t r_t_s r_t_wagons) ∧ Q i_t r_t_wagons) D k A ([.ref a_t, .int n1] : List Value).toArray s 0 0) (F0 m 118 ls [])) :
    ∀ n : Nat, ∀ (x2 : Int32) (i_t : Nat → Int32) (r_t_wagons : Nat → Int32) (H : Heap) (locs : List Loc) (ls : Array Slot), lp_LongTrainModel_free_45 r_t_s x1 kx_45 n x2 i_t r_t_wagons → Bd D A s.heap (wd_LongTrainModel_free k a_t d_t i_t j_t r_t_s r_t_wagons) H locs → lv_has ls 3 [(0, .ref a_t), (1, .int x1), (2, .int x2)] → W p l e { frames := 1, cells := 0, slots := 0, locals := 22 } s m ([.ref a_t, .int n1] : List Value).toArray below meth c H locs 0 0 (Ev below (fun w => ∃ (i_t : Nat → Int32), ∃ (r_t_wagons : Nat → Int32), w = (wd_LongTrainModel_free k a_t d_t i_t j_t r_t_s r_t_wagons) ∧ Q i_t r_t_wagons) D k A ([.ref a_t, .int n1] : List Value).toArray s 0 0) (F0 m 45 ls []) := by
  intro n
  induction n with
  | zero => intro x2 i_t r_t_wagons H locs ls hf; exact absurd hf (fun h => h)
  | succ n ih => exact bt_LongTrainModel_free_45 F hr hlk hA hkx_45 ih

set_option maxRecDepth 100000 in
set_option maxHeartbeats 4000000 in
theorem c_LongTrainModel_free (l : Launch) (D : va_G) (k : Nat → ClassId) (a_t : Nat) (d_t : Nat → Nat) (i_t : Nat → Int32) (j_t : Nat → Int64) (r_t_s : Nat → Int32) (r_t_wagons : Nat → Int32) (n1 : Int32) (Q : (Nat → Int32) → (Nat → Int32) → Prop)  (hf : w_LongTrainModel_free i_t r_t_s r_t_wagons n1 Q) : CtV l yX12_free cX12_free 3 none 1 22 0 0 D k [.ref a_t, .int n1] (wd_LongTrainModel_free k a_t d_t i_t j_t r_t_s r_t_wagons) (fun w => ∃ (i_t : Nat → Int32), ∃ (r_t_wagons : Nat → Int32), w = (wd_LongTrainModel_free k a_t d_t i_t j_t r_t_s r_t_wagons) ∧ Q i_t r_t_wagons) := by
  refine CtV.of (by decide) (Nat.le_of_ble_eq_true rfl) ?_
  intro p e s m below meth c A F hr hlk hnm hA hB ls hl
  have hx := F.x
  have hb := F.b
  unfold w_LongTrainModel_free at hf
  replace hl : lv_has ls 3 [(0, .ref a_t), (1, .int n1)] := hl
  refine lv_aload_n hx hb dX12_free_0 rfl (lv_at hl 0 rfl) ?_
  refine lv_aload_n hx hb dX12_free_1 rfl (lv_at hl 0 rfl) ?_
  refine g_get (w := .ref (d_t 6)) F hB 0 rfl fl_RX12_33 rfl dX12_free_2 ?_
  refine lv_bipush (v := 10) hx hb dX12_free_5 (by decide) ?_
  refine g_iald F hB 1 rfl (vp_in_iff.mpr (by decide +kernel)) dX12_free_7 ?_
  refine W.eq (g2 := F0 m 8 ls [.int (r_t_s 10), .ref a_t]) rfl ?_
  refine g_puti F hB 0 rfl fl_RX12_270 rfl (wd_LongTrainModel_free k a_t d_t (upd i_t 27 (r_t_s 10)) j_t r_t_s r_t_wagons) rfl dX12_free_8 (fun H locs hB => ?_)
  refine lv_iconst (v := 0) hx hb dX12_free_11 (by decide) ?_
  refine lv_istore_n (lv' := [(2, .int (0 : Int32)), (0, .ref a_t), (1, .int n1)]) hx hb dX12_free_12 rfl hl (by decide) rfl (fun ls hl => ?_)
  obtain ⟨n_20, hf⟩ := hf
  refine lt_LongTrainModel_free_13 F hr hlk hA (fun r_t_wagons_5 H locs ls hf hB hl => ?_) n_20 _ _ _ _ _ hf hB (lv_sub hl [1, 2, 0] rfl)
  refine lv_iconst (v := 0) hx hb dX12_free_43 (by decide) ?_
  refine lv_istore_n (lv' := [(2, .int (0 : Int32)), (0, .ref a_t), (1, .int n1)]) hx hb dX12_free_44 rfl hl (by decide) rfl (fun ls hl => ?_)
  obtain ⟨n_19, hf⟩ := hf
  refine lt_LongTrainModel_free_45 F hr hlk hA (fun i_t_17 r_t_wagons_18 H locs ls hf hB hl => ?_) n_19 _ _ _ _ _ _ hf hB (lv_sub hl [1, 2, 0] rfl)
  exact r_v F hr hlk hB ⟨_, _, rfl, hf⟩ dX12_free_118

/-! LongTrainModel.freeAt -/
set_option maxRecDepth 100000 in
set_option maxHeartbeats 4000000 in
theorem c_LongTrainModel_freeAt (l : Launch) (D : va_G) (k : Nat → ClassId) (a_t : Nat) (d_t : Nat → Nat) (i_t : Nat → Int32) (j_t : Nat → Int64) (r_t_s : Nat → Int32) (r_t_wagons : Nat → Int32) (r_t_foremost : Nat → Int32) (r_t_bears : Nat → Int32) (n1 : Int32) (Q : (Nat → Int32) → (Nat → Int32) → (Nat → Int32) → (Nat → Int32) → Prop)  (hf : w_LongTrainModel_freeAt i_t r_t_s r_t_wagons r_t_foremost r_t_bears n1 Q) : CtV l yX12_freeAt cX12_freeAt 2 none 2 45 0 0 D k [.ref a_t, .int n1] (wd_LongTrainModel_freeAt k a_t d_t i_t j_t r_t_s r_t_wagons r_t_foremost r_t_bears) (fun w => ∃ (i_t : Nat → Int32), ∃ (r_t_wagons : Nat → Int32), ∃ (r_t_foremost : Nat → Int32), ∃ (r_t_bears : Nat → Int32), w = (wd_LongTrainModel_freeAt k a_t d_t i_t j_t r_t_s r_t_wagons r_t_foremost r_t_bears) ∧ Q i_t r_t_wagons r_t_foremost r_t_bears) := by
  refine CtV.of (by decide) (Nat.le_of_ble_eq_true rfl) ?_
  intro p e s m below meth c A F hr hlk hnm hA hB ls hl
  have hx := F.x
  have hb := F.b
  unfold w_LongTrainModel_freeAt at hf
  replace hl : lv_has ls 2 [(0, .ref a_t), (1, .int n1)] := hl
  refine lv_aload_n hx hb dX12_freeAt_0 rfl (lv_at hl 0 rfl) ?_
  refine lv_iload_n hx hb dX12_freeAt_1 rfl (lv_at hl 1 rfl) ?_
  refine lv_iconst (v := 1) hx hb dX12_freeAt_2 (by decide) ?_
  refine lv_isub hx hb dX12_freeAt_3 ?_
  refine k_vv (wr := [((d_t 23), ai k 20 r_t_foremost), ((d_t 24), ai k 20 r_t_bears)]) (rest := []) F hA hB (c_LongTrainModel_free l D k a_t d_t i_t j_t r_t_s r_t_wagons (n1 - (1 : Int32)) _  hf) ml_RX12_282 mv_yX12_free [0, 1, 2] [3, 4] rfl rfl (by decide) (by decide) (by decide) 0 rfl rfl rfl hl.1 rfl (Nat.le_of_ble_eq_true rfl) ⟨Nat.le_of_ble_eq_true rfl, Nat.le_of_ble_eq_true rfl⟩ ⟨Nat.le_of_ble_eq_true rfl, Nat.le_of_ble_eq_true rfl⟩ dX12_freeAt_4 (fun w1 H locs hq hB => ?_)
  obtain ⟨i_t_1, r_t_wagons_2, rfl, hf⟩ := hq
  replace hB : Bd D A s.heap (wd_LongTrainModel_freeAt k a_t d_t i_t_1 j_t r_t_s r_t_wagons_2 r_t_foremost r_t_bears) H locs := hB.sub [2, 3, 4, 0, 1] (by decide) rfl
  refine lv_aload_n hx hb dX12_freeAt_7 rfl (lv_at hl 0 rfl) ?_
  refine lv_iload_n hx hb dX12_freeAt_8 rfl (lv_at hl 1 rfl) ?_
  refine k_vv (wr := []) (rest := []) F hA hB (c_LongTrainModel_stands l D k a_t d_t i_t_1 j_t r_t_foremost r_t_wagons_2 r_t_s r_t_bears n1 _  hf) ml_RX12_285 mv_yX12_stands [0, 3, 2, 1, 4] [] rfl rfl (by decide) (by decide) (by decide) 0 rfl rfl rfl hl.1 rfl (Nat.le_of_ble_eq_true rfl) ⟨Nat.le_of_ble_eq_true rfl, Nat.le_of_ble_eq_true rfl⟩ ⟨Nat.le_of_ble_eq_true rfl, Nat.le_of_ble_eq_true rfl⟩ dX12_freeAt_9 (fun w1 H locs hq hB => ?_)
  obtain ⟨i_t_3, r_t_foremost_4, r_t_bears_5, rfl, hf⟩ := hq
  replace hB : Bd D A s.heap (wd_LongTrainModel_freeAt k a_t d_t i_t_3 j_t r_t_s r_t_wagons_2 r_t_foremost_4 r_t_bears_5) H locs := hB.sub [0, 3, 2, 1, 4] (by decide) rfl
  exact r_v F hr hlk hB ⟨_, _, _, _, rfl, hf⟩ dX12_freeAt_12

/-! LongTrainModel.strained -/
set_option maxRecDepth 100000 in
set_option maxHeartbeats 4000000 in
theorem jt_LongTrainModel_strained_58 {p : Program} {l : Launch} {e : Env} {s : State} {m : MethodId} {below : List Frame} {meth : Method} {c : Code} {A : Nat → Prop} {D : va_G} {k : Nat → ClassId} {a_t : Nat} {d_t : Nat → Nat} {i_t : Nat → Int32} {j_t : Nat → Int64} {r_t_s : Nat → Int32} {r_t_wagons : Nat → Int32} {r_t_foremost : Nat → Int32} {r_t_bears : Nat → Int32} {n1 : Int32} {n2 : Int32} {n3 : Int32} {Q : Int32 → (Nat → Int32) → (Nat → Int32) → (Nat → Int32) → (Nat → Int32) → (Nat → Int32) → Prop}  {x2 : Int32} {x3 : Int32} {x5 : Int32} {kr_21 : (Int32) → (Int32) → (Nat → Int32) → Prop} (F : Fx p m c cX12_strained 7 s ([.ref a_t, .int n1, .int n2, .int n3] : List Value).toArray RX12 D k) (hr : meth.sig.returnType = (some .boolean)) (hlk : meth.locks = false) (hA : ∀ q : Nat, s.heap.size ≤ q → A q) (hkr_21 : ∀ (x4 : Int32) (x6 : Int32) (r_t_worst : Nat → Int32) (H : Heap) (locs : List Loc) (ls : Array Slot), kr_21 x4 x6 r_t_worst → Bd D A s.heap (wd_LongTrainModel_strained k a_t d_t i_t j_t r_t_s r_t_wagons r_t_foremost r_t_bears r_t_worst) H locs → lv_has ls 7 [(0, .ref a_t), (2, .int x2), (3, .int x3), (4, .int x4), (5, .int x5), (6, .int x6)] → W p l e { frames := 3, cells := 0, slots := 0, locals := 66 } s m ([.ref a_t, .int n1, .int n2, .int n3] : List Value).toArray below meth c H locs 0 0 (Ei below (fun r w => (r = 0 ∨ r = 1) ∧ (∃ (i_t : Nat → Int32), ∃ (r_t_wagons : Nat → Int32), ∃ (r_t_foremost : Nat → Int32), ∃ (r_t_bears : Nat → Int32), ∃ (r_t_worst : Nat → Int32), w = (wd_LongTrainModel_strained k a_t d_t i_t j_t r_t_s r_t_wagons r_t_foremost r_t_bears r_t_worst) ∧ Q r i_t r_t_wagons r_t_foremost r_t_bears r_t_worst)) D k A ([.ref a_t, .int n1, .int n2, .int n3] : List Value).toArray s 0 0) (F0 m 21 ls [])) :
    ∀ (r_t_worst : Nat → Int32) (x6 : Int32) (H : Heap) (locs : List Loc) (ls : Array Slot), j_LongTrainModel_strained_58 r_t_bears r_t_worst x5 x6 kr_21 → Bd D A s.heap (wd_LongTrainModel_strained k a_t d_t i_t j_t r_t_s r_t_wagons r_t_foremost r_t_bears r_t_worst) H locs → lv_has ls 7 [(0, .ref a_t), (2, .int x2), (3, .int x3), (5, .int x5), (6, .int x6)] → W p l e { frames := 3, cells := 0, slots := 0, locals := 66 } s m ([.ref a_t, .int n1, .int n2, .int n3] : List Value).toArray below meth c H locs 0 0 (Ei below (fun r w => (r = 0 ∨ r = 1) ∧ (∃ (i_t : Nat → Int32), ∃ (r_t_wagons : Nat → Int32), ∃ (r_t_foremost : Nat → Int32), ∃ (r_t_bears : Nat → Int32), ∃ (r_t_worst : Nat → Int32), w = (wd_LongTrainModel_strained k a_t d_t i_t j_t r_t_s r_t_wagons r_t_foremost r_t_bears r_t_worst) ∧ Q r i_t r_t_wagons r_t_foremost r_t_bears r_t_worst)) D k A ([.ref a_t, .int n1, .int n2, .int n3] : List Value).toArray s 0 0) (F0 m 58 ls []) := by
  have hx := F.x
  have hb := F.b
  intro r_t_worst x6 H locs ls hf hB hl
  unfold j_LongTrainModel_strained_58 at hf
  refine lv_iconst (v := 1) hx hb dX12_strained_58 (by decide) ?_
  refine lv_istore (lv' := [(4, .int (1 : Int32)), (0, .ref a_t), (2, .int x2), (3, .int x3), (5, .int x5), (6, .int x6)]) hx hb dX12_strained_59 hl (by decide) rfl (fun ls hl => ?_)
  refine lv_aload_n hx hb dX12_strained_61 rfl (lv_at hl 1 rfl) ?_
  refine g_get (w := .ref (d_t 29)) F hB 0 rfl fl_RX12_65 rfl dX12_strained_62 ?_
  refine lv_iconst (v := 0) hx hb dX12_strained_65 (by decide) ?_
  refine lv_aload_n hx hb dX12_strained_66 rfl (lv_at hl 1 rfl) ?_
  refine g_get (w := .ref (d_t 24)) F hB 0 rfl fl_RX12_56 rfl dX12_strained_67 ?_
  refine lv_iload hx hb dX12_strained_70 (lv_at hl 5 rfl) ?_
  obtain ⟨h_5, hf⟩ := hf
  refine g_iald F hB 4 rfl h_5 dX12_strained_72 ?_
  refine g_iast F hB 5 rfl (vp_in_iff.mpr (by decide +kernel)) (wd_LongTrainModel_strained k a_t d_t i_t j_t r_t_s r_t_wagons r_t_foremost r_t_bears (upd r_t_worst 0 (r_t_bears (x6).toNatClampNeg))) rfl dX12_strained_73 (fun H locs hB => ?_)
  refine lv_aload_n hx hb dX12_strained_74 rfl (lv_at hl 1 rfl) ?_
  refine g_get (w := .ref (d_t 29)) F hB 0 rfl fl_RX12_65 rfl dX12_strained_75 ?_
  refine lv_iconst (v := 1) hx hb dX12_strained_78 (by decide) ?_
  refine lv_iload hx hb dX12_strained_79 (lv_at hl 4 rfl) ?_
  refine g_iast F hB 5 rfl (vp_in_iff.mpr (by decide +kernel)) (wd_LongTrainModel_strained k a_t d_t i_t j_t r_t_s r_t_wagons r_t_foremost r_t_bears (upd (upd r_t_worst 0 (r_t_bears (x6).toNatClampNeg)) 1 x5)) rfl dX12_strained_81 (fun H locs hB => ?_)
  refine lv_aload_n hx hb dX12_strained_82 rfl (lv_at hl 1 rfl) ?_
  refine g_get (w := .ref (d_t 29)) F hB 0 rfl fl_RX12_65 rfl dX12_strained_83 ?_
  refine lv_iconst (v := 2) hx hb dX12_strained_86 (by decide) ?_
  refine lv_iload hx hb dX12_strained_87 (lv_at hl 5 rfl) ?_
  refine g_iast F hB 5 rfl (vp_in_iff.mpr (by decide +kernel)) (wd_LongTrainModel_strained k a_t d_t i_t j_t r_t_s r_t_wagons r_t_foremost r_t_bears (upd (upd (upd r_t_worst 0 (r_t_bears (x6).toNatClampNeg)) 1 x5) 2 x6)) rfl dX12_strained_89 (fun H locs hB => ?_)
  refine lv_iinc (v := (x6 + 1)) (lv' := [(6, .int (x6 + 1)), (4, .int (1 : Int32)), (0, .ref a_t), (2, .int x2), (3, .int x3), (5, .int x5)]) (k := 5) hx hb dX12_strained_90 hl rfl rfl (by decide) rfl (fun ls hl => ?_)
  refine lv_goto (tgt := 21) hx hb dX12_strained_93 (by decide) ?_
  exact hkr_21 _ _ _ _ _ _ hf hB (lv_sub hl [2, 3, 4, 1, 5, 0] rfl)

set_option maxRecDepth 100000 in
set_option maxHeartbeats 4000000 in
theorem bt_LongTrainModel_strained_21 {p : Program} {l : Launch} {e : Env} {s : State} {m : MethodId} {below : List Frame} {meth : Method} {c : Code} {A : Nat → Prop} {D : va_G} {k : Nat → ClassId} {a_t : Nat} {d_t : Nat → Nat} {i_t : Nat → Int32} {j_t : Nat → Int64} {r_t_s : Nat → Int32} {r_t_wagons : Nat → Int32} {r_t_foremost : Nat → Int32} {r_t_bears : Nat → Int32} {n1 : Int32} {n2 : Int32} {n3 : Int32} {Q : Int32 → (Nat → Int32) → (Nat → Int32) → (Nat → Int32) → (Nat → Int32) → (Nat → Int32) → Prop}  {x2 : Int32} {x3 : Int32} {x5 : Int32} {kx_21 : (Int32) → (Nat → Int32) → Prop} {kr_21 : (Int32) → (Int32) → (Nat → Int32) → Prop} (F : Fx p m c cX12_strained 7 s ([.ref a_t, .int n1, .int n2, .int n3] : List Value).toArray RX12 D k) (hr : meth.sig.returnType = (some .boolean)) (hlk : meth.locks = false) (hA : ∀ q : Nat, s.heap.size ≤ q → A q) (hkx_21 : ∀ (x4 : Int32) (r_t_worst : Nat → Int32) (H : Heap) (locs : List Loc) (ls : Array Slot), kx_21 x4 r_t_worst → Bd D A s.heap (wd_LongTrainModel_strained k a_t d_t i_t j_t r_t_s r_t_wagons r_t_foremost r_t_bears r_t_worst) H locs → lv_has ls 7 [(0, .ref a_t), (2, .int x2), (3, .int x3), (4, .int x4), (5, .int x5)] → W p l e { frames := 3, cells := 0, slots := 0, locals := 66 } s m ([.ref a_t, .int n1, .int n2, .int n3] : List Value).toArray below meth c H locs 0 0 (Ei below (fun r w => (r = 0 ∨ r = 1) ∧ (∃ (i_t : Nat → Int32), ∃ (r_t_wagons : Nat → Int32), ∃ (r_t_foremost : Nat → Int32), ∃ (r_t_bears : Nat → Int32), ∃ (r_t_worst : Nat → Int32), w = (wd_LongTrainModel_strained k a_t d_t i_t j_t r_t_s r_t_wagons r_t_foremost r_t_bears r_t_worst) ∧ Q r i_t r_t_wagons r_t_foremost r_t_bears r_t_worst)) D k A ([.ref a_t, .int n1, .int n2, .int n3] : List Value).toArray s 0 0) (F0 m 96 ls [])) (hkr_21 : ∀ (x4 : Int32) (x6 : Int32) (r_t_worst : Nat → Int32) (H : Heap) (locs : List Loc) (ls : Array Slot), kr_21 x4 x6 r_t_worst → Bd D A s.heap (wd_LongTrainModel_strained k a_t d_t i_t j_t r_t_s r_t_wagons r_t_foremost r_t_bears r_t_worst) H locs → lv_has ls 7 [(0, .ref a_t), (2, .int x2), (3, .int x3), (4, .int x4), (5, .int x5), (6, .int x6)] → W p l e { frames := 3, cells := 0, slots := 0, locals := 66 } s m ([.ref a_t, .int n1, .int n2, .int n3] : List Value).toArray below meth c H locs 0 0 (Ei below (fun r w => (r = 0 ∨ r = 1) ∧ (∃ (i_t : Nat → Int32), ∃ (r_t_wagons : Nat → Int32), ∃ (r_t_foremost : Nat → Int32), ∃ (r_t_bears : Nat → Int32), ∃ (r_t_worst : Nat → Int32), w = (wd_LongTrainModel_strained k a_t d_t i_t j_t r_t_s r_t_wagons r_t_foremost r_t_bears r_t_worst) ∧ Q r i_t r_t_wagons r_t_foremost r_t_bears r_t_worst)) D k A ([.ref a_t, .int n1, .int n2, .int n3] : List Value).toArray s 0 0) (F0 m 21 ls [])) :
    ∀ (x4 : Int32) (x6 : Int32) (r_t_worst : Nat → Int32) (H : Heap) (locs : List Loc) (ls : Array Slot), b_LongTrainModel_strained_21 i_t r_t_bears x3 x5 kx_21 kr_21 x4 x6 r_t_worst → Bd D A s.heap (wd_LongTrainModel_strained k a_t d_t i_t j_t r_t_s r_t_wagons r_t_foremost r_t_bears r_t_worst) H locs → lv_has ls 7 [(0, .ref a_t), (2, .int x2), (3, .int x3), (4, .int x4), (5, .int x5), (6, .int x6)] → W p l e { frames := 3, cells := 0, slots := 0, locals := 66 } s m ([.ref a_t, .int n1, .int n2, .int n3] : List Value).toArray below meth c H locs 0 0 (Ei below (fun r w => (r = 0 ∨ r = 1) ∧ (∃ (i_t : Nat → Int32), ∃ (r_t_wagons : Nat → Int32), ∃ (r_t_foremost : Nat → Int32), ∃ (r_t_bears : Nat → Int32), ∃ (r_t_worst : Nat → Int32), w = (wd_LongTrainModel_strained k a_t d_t i_t j_t r_t_s r_t_wagons r_t_foremost r_t_bears r_t_worst) ∧ Q r i_t r_t_wagons r_t_foremost r_t_bears r_t_worst)) D k A ([.ref a_t, .int n1, .int n2, .int n3] : List Value).toArray s 0 0) (F0 m 21 ls []) := by
  have hx := F.x
  have hb := F.b
  intro x4 x6 r_t_worst H locs ls hf hB hl
  unfold b_LongTrainModel_strained_21 at hf
  refine lv_iload hx hb dX12_strained_21 (lv_at hl 5 rfl) ?_
  refine lv_aload_n hx hb dX12_strained_23 rfl (lv_at hl 0 rfl) ?_
  refine g_get (w := .int (i_t 27)) F hB 0 rfl fl_RX12_270 rfl dX12_strained_24 ?_
  refine lv_icmp_ge (tgt := 96) hx hb dX12_strained_27 (by decide) (fun c_13 => ?_) (fun c_13 => ?_)
  · replace hf := hf.1 c_13
    exact hkx_21 _ _ _ _ _ hf hB (lv_sub hl [0, 1, 2, 3, 4] rfl)
  · replace hf := hf.2 c_13
    refine lv_iload hx hb dX12_strained_30 (lv_at hl 3 rfl) ?_
    refine lv_if_eq (tgt := 58) hx hb dX12_strained_32 (by decide) (fun c_12 => ?_) (fun c_12 => ?_)
    · replace hf := hf.1 c_12
      exact jt_LongTrainModel_strained_58 F hr hlk hA hkr_21 _ _ _ _ _ hf hB (lv_sub hl [0, 1, 2, 4, 5] rfl)
    · replace hf := hf.2 c_12
      refine lv_iload_n hx hb dX12_strained_35 rfl (lv_at hl 2 rfl) ?_
      refine lv_aload_n hx hb dX12_strained_36 rfl (lv_at hl 0 rfl) ?_
      refine g_get (w := .ref (d_t 24)) F hB 0 rfl fl_RX12_56 rfl dX12_strained_37 ?_
      refine lv_iload hx hb dX12_strained_40 (lv_at hl 5 rfl) ?_
      obtain ⟨h_9, hf⟩ := hf
      refine g_iald F hB 4 rfl h_9 dX12_strained_42 ?_
      refine lv_imul hx hb dX12_strained_43 ?_
      refine lv_iload_n hx hb dX12_strained_44 rfl (lv_at hl 2 rfl) ?_
      refine lv_aload_n hx hb dX12_strained_45 rfl (lv_at hl 0 rfl) ?_
      refine g_get (w := .ref (d_t 29)) F hB 0 rfl fl_RX12_65 rfl dX12_strained_46 ?_
      refine lv_iconst (v := 0) hx hb dX12_strained_49 (by decide) ?_
      refine g_iald F hB 5 rfl (vp_in_iff.mpr (by decide +kernel)) dX12_strained_50 ?_
      refine W.eq (g2 := F0 m 51 ls [.int (r_t_worst 0), .int x3, .int (x3 * (r_t_bears (x6).toNatClampNeg))]) rfl ?_
      refine lv_imul hx hb dX12_strained_51 ?_
      refine lv_icmp_gt (tgt := 58) hx hb dX12_strained_52 (by decide) (fun c_11 => ?_) (fun c_11 => ?_)
      · replace hf := hf.1 c_11
        exact jt_LongTrainModel_strained_58 F hr hlk hA hkr_21 _ _ _ _ _ hf hB (lv_sub hl [0, 1, 2, 4, 5] rfl)
      · replace hf := hf.2 c_11
        refine lv_goto (tgt := 90) hx hb dX12_strained_55 (by decide) ?_
        refine lv_iinc (v := (x6 + 1)) (lv' := [(6, .int (x6 + 1)), (0, .ref a_t), (2, .int x2), (3, .int x3), (4, .int x4), (5, .int x5)]) (k := 5) hx hb dX12_strained_90 hl rfl rfl (by decide) rfl (fun ls hl => ?_)
        refine lv_goto (tgt := 21) hx hb dX12_strained_93 (by decide) ?_
        exact hkr_21 _ _ _ _ _ _ hf hB (lv_sub hl [1, 2, 3, 4, 5, 0] rfl)

set_option maxRecDepth 100000 in
set_option maxHeartbeats 4000000 in
theorem lt_LongTrainModel_strained_21 {p : Program} {l : Launch} {e : Env} {s : State} {m : MethodId} {below : List Frame} {meth : Method} {c : Code} {A : Nat → Prop} {D : va_G} {k : Nat → ClassId} {a_t : Nat} {d_t : Nat → Nat} {i_t : Nat → Int32} {j_t : Nat → Int64} {r_t_s : Nat → Int32} {r_t_wagons : Nat → Int32} {r_t_foremost : Nat → Int32} {r_t_bears : Nat → Int32} {n1 : Int32} {n2 : Int32} {n3 : Int32} {Q : Int32 → (Nat → Int32) → (Nat → Int32) → (Nat → Int32) → (Nat → Int32) → (Nat → Int32) → Prop}  {x2 : Int32} {x3 : Int32} {x5 : Int32} {kx_21 : (Int32) → (Nat → Int32) → Prop} (F : Fx p m c cX12_strained 7 s ([.ref a_t, .int n1, .int n2, .int n3] : List Value).toArray RX12 D k) (hr : meth.sig.returnType = (some .boolean)) (hlk : meth.locks = false) (hA : ∀ q : Nat, s.heap.size ≤ q → A q) (hkx_21 : ∀ (x4 : Int32) (r_t_worst : Nat → Int32) (H : Heap) (locs : List Loc) (ls : Array Slot), kx_21 x4 r_t_worst → Bd D A s.heap (wd_LongTrainModel_strained k a_t d_t i_t j_t r_t_s r_t_wagons r_t_foremost r_t_bears r_t_worst) H locs → lv_has ls 7 [(0, .ref a_t), (2, .int x2), (3, .int x3), (4, .int x4), (5, .int x5)] → W p l e { frames := 3, cells := 0, slots := 0, locals := 66 } s m ([.ref a_t, .int n1, .int n2, .int n3] : List Value).toArray below meth c H locs 0 0 (Ei below (fun r w => (r = 0 ∨ r = 1) ∧ (∃ (i_t : Nat → Int32), ∃ (r_t_wagons : Nat → Int32), ∃ (r_t_foremost : Nat → Int32), ∃ (r_t_bears : Nat → Int32), ∃ (r_t_worst : Nat → Int32), w = (wd_LongTrainModel_strained k a_t d_t i_t j_t r_t_s r_t_wagons r_t_foremost r_t_bears r_t_worst) ∧ Q r i_t r_t_wagons r_t_foremost r_t_bears r_t_worst)) D k A ([.ref a_t, .int n1, .int n2, .int n3] : List Value).toArray s 0 0) (F0 m 96 ls [])) :
    ∀ n : Nat, ∀ (x4 : Int32) (x6 : Int32) (r_t_worst : Nat → Int32) (H : Heap) (locs : List Loc) (ls : Array Slot), lp_LongTrainModel_strained_21 i_t r_t_bears x3 x5 kx_21 n x4 x6 r_t_worst → Bd D A s.heap (wd_LongTrainModel_strained k a_t d_t i_t j_t r_t_s r_t_wagons r_t_foremost r_t_bears r_t_worst) H locs → lv_has ls 7 [(0, .ref a_t), (2, .int x2), (3, .int x3), (4, .int x4), (5, .int x5), (6, .int x6)] → W p l e { frames := 3, cells := 0, slots := 0, locals := 66 } s m ([.ref a_t, .int n1, .int n2, .int n3] : List Value).toArray below meth c H locs 0 0 (Ei below (fun r w => (r = 0 ∨ r = 1) ∧ (∃ (i_t : Nat → Int32), ∃ (r_t_wagons : Nat → Int32), ∃ (r_t_foremost : Nat → Int32), ∃ (r_t_bears : Nat → Int32), ∃ (r_t_worst : Nat → Int32), w = (wd_LongTrainModel_strained k a_t d_t i_t j_t r_t_s r_t_wagons r_t_foremost r_t_bears r_t_worst) ∧ Q r i_t r_t_wagons r_t_foremost r_t_bears r_t_worst)) D k A ([.ref a_t, .int n1, .int n2, .int n3] : List Value).toArray s 0 0) (F0 m 21 ls []) := by
  intro n
  induction n with
  | zero => intro x4 x6 r_t_worst H locs ls hf; exact absurd hf (fun h => h)
  | succ n ih => exact bt_LongTrainModel_strained_21 F hr hlk hA hkx_21 ih

set_option maxRecDepth 100000 in
set_option maxHeartbeats 4000000 in
theorem bt_LongTrainModel_strained_6 {p : Program} {l : Launch} {e : Env} {s : State} {m : MethodId} {below : List Frame} {meth : Method} {c : Code} {A : Nat → Prop} {D : va_G} {k : Nat → ClassId} {a_t : Nat} {d_t : Nat → Nat} {j_t : Nat → Int64} {r_t_s : Nat → Int32} {n1 : Int32} {n2 : Int32} {n3 : Int32} {Q : Int32 → (Nat → Int32) → (Nat → Int32) → (Nat → Int32) → (Nat → Int32) → (Nat → Int32) → Prop}  {x2 : Int32} {x3 : Int32} {kx_6 : (Int32) → (Nat → Int32) → (Nat → Int32) → (Nat → Int32) → (Nat → Int32) → (Nat → Int32) → Prop} {kr_6 : (Int32) → (Int32) → (Nat → Int32) → (Nat → Int32) → (Nat → Int32) → (Nat → Int32) → (Nat → Int32) → Prop} (F : Fx p m c cX12_strained 7 s ([.ref a_t, .int n1, .int n2, .int n3] : List Value).toArray RX12 D k) (hr : meth.sig.returnType = (some .boolean)) (hlk : meth.locks = false) (hA : ∀ q : Nat, s.heap.size ≤ q → A q) (hkx_6 : ∀ (x4 : Int32) (i_t : Nat → Int32) (r_t_wagons : Nat → Int32) (r_t_foremost : Nat → Int32) (r_t_bears : Nat → Int32) (r_t_worst : Nat → Int32) (H : Heap) (locs : List Loc) (ls : Array Slot), kx_6 x4 i_t r_t_wagons r_t_foremost r_t_bears r_t_worst → Bd D A s.heap (wd_LongTrainModel_strained k a_t d_t i_t j_t r_t_s r_t_wagons r_t_foremost r_t_bears r_t_worst) H locs → lv_has ls 7 [(4, .int x4)] → W p l e { frames := 3, cells := 0, slots := 0, locals := 66 } s m ([.ref a_t, .int n1, .int n2, .int n3] : List Value).toArray below meth c H locs 0 0 (Ei below (fun r w => (r = 0 ∨ r = 1) ∧ (∃ (i_t : Nat → Int32), ∃ (r_t_wagons : Nat → Int32), ∃ (r_t_foremost : Nat → Int32), ∃ (r_t_bears : Nat → Int32), ∃ (r_t_worst : Nat → Int32), w = (wd_LongTrainModel_strained k a_t d_t i_t j_t r_t_s r_t_wagons r_t_foremost r_t_bears r_t_worst) ∧ Q r i_t r_t_wagons r_t_foremost r_t_bears r_t_worst)) D k A ([.ref a_t, .int n1, .int n2, .int n3] : List Value).toArray s 0 0) (F0 m 102 ls [])) (hkr_6 : ∀ (x4 : Int32) (x5 : Int32) (i_t : Nat → Int32) (r_t_wagons : Nat → Int32) (r_t_foremost : Nat → Int32) (r_t_bears : Nat → Int32) (r_t_worst : Nat → Int32) (H : Heap) (locs : List Loc) (ls : Array Slot), kr_6 x4 x5 i_t r_t_wagons r_t_foremost r_t_bears r_t_worst → Bd D A s.heap (wd_LongTrainModel_strained k a_t d_t i_t j_t r_t_s r_t_wagons r_t_foremost r_t_bears r_t_worst) H locs → lv_has ls 7 [(0, .ref a_t), (2, .int x2), (3, .int x3), (4, .int x4), (5, .int x5)] → W p l e { frames := 3, cells := 0, slots := 0, locals := 66 } s m ([.ref a_t, .int n1, .int n2, .int n3] : List Value).toArray below meth c H locs 0 0 (Ei below (fun r w => (r = 0 ∨ r = 1) ∧ (∃ (i_t : Nat → Int32), ∃ (r_t_wagons : Nat → Int32), ∃ (r_t_foremost : Nat → Int32), ∃ (r_t_bears : Nat → Int32), ∃ (r_t_worst : Nat → Int32), w = (wd_LongTrainModel_strained k a_t d_t i_t j_t r_t_s r_t_wagons r_t_foremost r_t_bears r_t_worst) ∧ Q r i_t r_t_wagons r_t_foremost r_t_bears r_t_worst)) D k A ([.ref a_t, .int n1, .int n2, .int n3] : List Value).toArray s 0 0) (F0 m 6 ls [])) :
    ∀ (x4 : Int32) (x5 : Int32) (i_t : Nat → Int32) (r_t_wagons : Nat → Int32) (r_t_foremost : Nat → Int32) (r_t_bears : Nat → Int32) (r_t_worst : Nat → Int32) (H : Heap) (locs : List Loc) (ls : Array Slot), b_LongTrainModel_strained_6 r_t_s x2 x3 kx_6 kr_6 x4 x5 i_t r_t_wagons r_t_foremost r_t_bears r_t_worst → Bd D A s.heap (wd_LongTrainModel_strained k a_t d_t i_t j_t r_t_s r_t_wagons r_t_foremost r_t_bears r_t_worst) H locs → lv_has ls 7 [(0, .ref a_t), (2, .int x2), (3, .int x3), (4, .int x4), (5, .int x5)] → W p l e { frames := 3, cells := 0, slots := 0, locals := 66 } s m ([.ref a_t, .int n1, .int n2, .int n3] : List Value).toArray below meth c H locs 0 0 (Ei below (fun r w => (r = 0 ∨ r = 1) ∧ (∃ (i_t : Nat → Int32), ∃ (r_t_wagons : Nat → Int32), ∃ (r_t_foremost : Nat → Int32), ∃ (r_t_bears : Nat → Int32), ∃ (r_t_worst : Nat → Int32), w = (wd_LongTrainModel_strained k a_t d_t i_t j_t r_t_s r_t_wagons r_t_foremost r_t_bears r_t_worst) ∧ Q r i_t r_t_wagons r_t_foremost r_t_bears r_t_worst)) D k A ([.ref a_t, .int n1, .int n2, .int n3] : List Value).toArray s 0 0) (F0 m 6 ls []) := by
  have hx := F.x
  have hb := F.b
  intro x4 x5 i_t r_t_wagons r_t_foremost r_t_bears r_t_worst H locs ls hf hB hl
  unfold b_LongTrainModel_strained_6 at hf
  refine lv_iload hx hb dX12_strained_6 (lv_at hl 4 rfl) ?_
  refine lv_iload_n hx hb dX12_strained_8 rfl (lv_at hl 1 rfl) ?_
  refine lv_icmp_gt (tgt := 102) hx hb dX12_strained_9 (by decide) (fun c_17 => ?_) (fun c_17 => ?_)
  · replace hf := hf.1 c_17
    exact hkx_6 _ _ _ _ _ _ _ _ _ hf hB (lv_sub hl [3] rfl)
  · replace hf := hf.2 c_17
    refine lv_aload_n hx hb dX12_strained_12 rfl (lv_at hl 0 rfl) ?_
    refine lv_iload hx hb dX12_strained_13 (lv_at hl 4 rfl) ?_
    refine k_vv (wr := [((d_t 29), ai k 3 r_t_worst)]) (rest := []) F hA hB (c_LongTrainModel_freeAt l D k a_t d_t i_t j_t r_t_s r_t_wagons r_t_foremost r_t_bears x5 _  hf) ml_RX12_288 mv_yX12_freeAt [0, 1, 2, 3, 4] [5] rfl rfl (by decide) (by decide) (by decide) 0 rfl rfl rfl hl.1 rfl (Nat.le_of_ble_eq_true rfl) ⟨Nat.le_of_ble_eq_true rfl, Nat.le_of_ble_eq_true rfl⟩ ⟨Nat.le_of_ble_eq_true rfl, Nat.le_of_ble_eq_true rfl⟩ dX12_strained_15 (fun w1 H locs hq hB => ?_)
    obtain ⟨i_t_1, r_t_wagons_2, r_t_foremost_3, r_t_bears_4, rfl, hf⟩ := hq
    replace hB : Bd D A s.heap (wd_LongTrainModel_strained k a_t d_t i_t_1 j_t r_t_s r_t_wagons_2 r_t_foremost_3 r_t_bears_4 r_t_worst) H locs := hB.sub [1, 2, 3, 4, 5, 0] (by decide) rfl
    refine lv_iconst (v := 0) hx hb dX12_strained_18 (by decide) ?_
    refine lv_istore (lv' := [(6, .int (0 : Int32)), (0, .ref a_t), (2, .int x2), (3, .int x3), (4, .int x4), (5, .int x5)]) hx hb dX12_strained_19 hl (by decide) rfl (fun ls hl => ?_)
    obtain ⟨n_16, hf⟩ := hf
    refine lt_LongTrainModel_strained_21 F hr hlk hA (fun x4_14 r_t_worst_15 H locs ls hf hB hl => ?_) n_16 _ _ _ _ _ _ hf hB (lv_sub hl [1, 2, 3, 4, 5, 0] rfl)
    refine lv_iinc (v := (x5 + 1)) (lv' := [(5, .int (x5 + 1)), (0, .ref a_t), (2, .int x2), (3, .int x3), (4, .int x4_14)]) (k := 4) hx hb dX12_strained_96 hl rfl rfl (by decide) rfl (fun ls hl => ?_)
    refine lv_goto (tgt := 6) hx hb dX12_strained_99 (by decide) ?_
    exact hkr_6 _ _ _ _ _ _ _ _ _ _ hf hB (lv_sub hl [1, 2, 3, 4, 0] rfl)

set_option maxRecDepth 100000 in
set_option maxHeartbeats 4000000 in
theorem lt_LongTrainModel_strained_6 {p : Program} {l : Launch} {e : Env} {s : State} {m : MethodId} {below : List Frame} {meth : Method} {c : Code} {A : Nat → Prop} {D : va_G} {k : Nat → ClassId} {a_t : Nat} {d_t : Nat → Nat} {j_t : Nat → Int64} {r_t_s : Nat → Int32} {n1 : Int32} {n2 : Int32} {n3 : Int32} {Q : Int32 → (Nat → Int32) → (Nat → Int32) → (Nat → Int32) → (Nat → Int32) → (Nat → Int32) → Prop}  {x2 : Int32} {x3 : Int32} {kx_6 : (Int32) → (Nat → Int32) → (Nat → Int32) → (Nat → Int32) → (Nat → Int32) → (Nat → Int32) → Prop} (F : Fx p m c cX12_strained 7 s ([.ref a_t, .int n1, .int n2, .int n3] : List Value).toArray RX12 D k) (hr : meth.sig.returnType = (some .boolean)) (hlk : meth.locks = false) (hA : ∀ q : Nat, s.heap.size ≤ q → A q) (hkx_6 : ∀ (x4 : Int32) (i_t : Nat → Int32) (r_t_wagons : Nat → Int32) (r_t_foremost : Nat → Int32) (r_t_bears : Nat → Int32) (r_t_worst : Nat → Int32) (H : Heap) (locs : List Loc) (ls : Array Slot), kx_6 x4 i_t r_t_wagons r_t_foremost r_t_bears r_t_worst → Bd D A s.heap (wd_LongTrainModel_strained k a_t d_t i_t j_t r_t_s r_t_wagons r_t_foremost r_t_bears r_t_worst) H locs → lv_has ls 7 [(4, .int x4)] → W p l e { frames := 3, cells := 0, slots := 0, locals := 66 } s m ([.ref a_t, .int n1, .int n2, .int n3] : List Value).toArray below meth c H locs 0 0 (Ei below (fun r w => (r = 0 ∨ r = 1) ∧ (∃ (i_t : Nat → Int32), ∃ (r_t_wagons : Nat → Int32), ∃ (r_t_foremost : Nat → Int32), ∃ (r_t_bears : Nat → Int32), ∃ (r_t_worst : Nat → Int32), w = (wd_LongTrainModel_strained k a_t d_t i_t j_t r_t_s r_t_wagons r_t_foremost r_t_bears r_t_worst) ∧ Q r i_t r_t_wagons r_t_foremost r_t_bears r_t_worst)) D k A ([.ref a_t, .int n1, .int n2, .int n3] : List Value).toArray s 0 0) (F0 m 102 ls [])) :
    ∀ n : Nat, ∀ (x4 : Int32) (x5 : Int32) (i_t : Nat → Int32) (r_t_wagons : Nat → Int32) (r_t_foremost : Nat → Int32) (r_t_bears : Nat → Int32) (r_t_worst : Nat → Int32) (H : Heap) (locs : List Loc) (ls : Array Slot), lp_LongTrainModel_strained_6 r_t_s x2 x3 kx_6 n x4 x5 i_t r_t_wagons r_t_foremost r_t_bears r_t_worst → Bd D A s.heap (wd_LongTrainModel_strained k a_t d_t i_t j_t r_t_s r_t_wagons r_t_foremost r_t_bears r_t_worst) H locs → lv_has ls 7 [(0, .ref a_t), (2, .int x2), (3, .int x3), (4, .int x4), (5, .int x5)] → W p l e { frames := 3, cells := 0, slots := 0, locals := 66 } s m ([.ref a_t, .int n1, .int n2, .int n3] : List Value).toArray below meth c H locs 0 0 (Ei below (fun r w => (r = 0 ∨ r = 1) ∧ (∃ (i_t : Nat → Int32), ∃ (r_t_wagons : Nat → Int32), ∃ (r_t_foremost : Nat → Int32), ∃ (r_t_bears : Nat → Int32), ∃ (r_t_worst : Nat → Int32), w = (wd_LongTrainModel_strained k a_t d_t i_t j_t r_t_s r_t_wagons r_t_foremost r_t_bears r_t_worst) ∧ Q r i_t r_t_wagons r_t_foremost r_t_bears r_t_worst)) D k A ([.ref a_t, .int n1, .int n2, .int n3] : List Value).toArray s 0 0) (F0 m 6 ls []) := by
  intro n
  induction n with
  | zero => intro x4 x5 i_t r_t_wagons r_t_foremost r_t_bears r_t_worst H locs ls hf; exact absurd hf (fun h => h)
  | succ n ih => exact bt_LongTrainModel_strained_6 F hr hlk hA hkx_6 ih

set_option maxRecDepth 100000 in
set_option maxHeartbeats 4000000 in
theorem c_LongTrainModel_strained (l : Launch) (D : va_G) (k : Nat → ClassId) (a_t : Nat) (d_t : Nat → Nat) (i_t : Nat → Int32) (j_t : Nat → Int64) (r_t_s : Nat → Int32) (r_t_wagons : Nat → Int32) (r_t_foremost : Nat → Int32) (r_t_bears : Nat → Int32) (r_t_worst : Nat → Int32) (n1 : Int32) (n2 : Int32) (n3 : Int32) (Q : Int32 → (Nat → Int32) → (Nat → Int32) → (Nat → Int32) → (Nat → Int32) → (Nat → Int32) → Prop)  (hf : w_LongTrainModel_strained i_t r_t_s r_t_wagons r_t_foremost r_t_bears r_t_worst n1 n2 n3 Q) : CtI l yX12_strained cX12_strained 7 (some .boolean) 3 66 0 0 D k [.ref a_t, .int n1, .int n2, .int n3] (wd_LongTrainModel_strained k a_t d_t i_t j_t r_t_s r_t_wagons r_t_foremost r_t_bears r_t_worst) (fun r w => (r = 0 ∨ r = 1) ∧ (∃ (i_t : Nat → Int32), ∃ (r_t_wagons : Nat → Int32), ∃ (r_t_foremost : Nat → Int32), ∃ (r_t_bears : Nat → Int32), ∃ (r_t_worst : Nat → Int32), w = (wd_LongTrainModel_strained k a_t d_t i_t j_t r_t_s r_t_wagons r_t_foremost r_t_bears r_t_worst) ∧ Q r i_t r_t_wagons r_t_foremost r_t_bears r_t_worst)) := by
  refine CtI.of (by decide) (Nat.le_of_ble_eq_true rfl) ?_
  intro p e s m below meth c A F hr hlk hnm hA hB ls hl
  have hx := F.x
  have hb := F.b
  unfold w_LongTrainModel_strained at hf
  replace hl : lv_has ls 7 [(0, .ref a_t), (1, .int n1), (2, .int n2), (3, .int n3)] := hl
  refine lv_iconst (v := 0) hx hb dX12_strained_0 (by decide) ?_
  refine lv_istore (lv' := [(4, .int (0 : Int32)), (0, .ref a_t), (1, .int n1), (2, .int n2), (3, .int n3)]) hx hb dX12_strained_1 hl (by decide) rfl (fun ls hl => ?_)
  refine lv_iload_n hx hb dX12_strained_3 rfl (lv_at hl 2 rfl) ?_
  refine lv_istore (lv' := [(5, .int n1), (4, .int (0 : Int32)), (0, .ref a_t), (1, .int n1), (2, .int n2), (3, .int n3)]) hx hb dX12_strained_4 hl (by decide) rfl (fun ls hl => ?_)
  obtain ⟨n_25, hf⟩ := hf
  refine lt_LongTrainModel_strained_6 F hr hlk hA (fun x4_18 i_t_19 r_t_wagons_20 r_t_foremost_21 r_t_bears_22 r_t_worst_23 H locs ls hf hB hl => ?_) n_25 _ _ _ _ _ _ _ _ _ _ hf hB (lv_sub hl [2, 4, 5, 1, 0] rfl)
  refine lv_iload hx hb dX12_strained_102 (lv_at hl 0 rfl) ?_
  obtain ⟨h_24, hf⟩ := hf
  exact r_z F hr hlk hB h_24 ⟨h_24, _, _, _, _, _, rfl, hf⟩ dX12_strained_104

/-! LongTrainModel.strain -/
set_option maxRecDepth 100000 in
set_option maxHeartbeats 4000000 in
theorem jt_LongTrainModel_strain_15 {p : Program} {l : Launch} {e : Env} {s : State} {m : MethodId} {below : List Frame} {meth : Method} {c : Code} {A : Nat → Prop} {D : va_G} {k : Nat → ClassId} {a_t : Nat} {d_t : Nat → Nat} {j_t : Nat → Int64} {r_t_s : Nat → Int32} {n1 : Int32} {n2 : Int32} {n3 : Int32} {Q : Int32 → (Nat → Int32) → (Nat → Int32) → (Nat → Int32) → (Nat → Int32) → (Nat → Int32) → Prop}  (F : Fx p m c cX12_strain 4 s ([.ref a_t, .int n1, .int n2, .int n3] : List Value).toArray RX12 D k) (hr : meth.sig.returnType = (some .int)) (hlk : meth.locks = false) (hA : ∀ q : Nat, s.heap.size ≤ q → A q) :
    ∀ (i_t : Nat → Int32) (r_t_wagons : Nat → Int32) (r_t_foremost : Nat → Int32) (r_t_bears : Nat → Int32) (r_t_worst : Nat → Int32) (x1 : Int32) (x2 : Int32) (x3 : Int32) (y0 : Int32) (H : Heap) (locs : List Loc) (ls : Array Slot), j_LongTrainModel_strain_15 i_t r_t_s r_t_wagons r_t_foremost r_t_bears r_t_worst x1 x2 x3 y0 Q → Bd D A s.heap (wd_LongTrainModel_strain k a_t d_t i_t j_t r_t_s r_t_wagons r_t_foremost r_t_bears r_t_worst) H locs → lv_has ls 4 [(0, .ref a_t), (1, .int x1), (2, .int x2), (3, .int x3)] → W p l e { frames := 4, cells := 0, slots := 0, locals := 92 } s m ([.ref a_t, .int n1, .int n2, .int n3] : List Value).toArray below meth c H locs 0 0 (Ei below (fun r w => ∃ (i_t : Nat → Int32), ∃ (r_t_wagons : Nat → Int32), ∃ (r_t_foremost : Nat → Int32), ∃ (r_t_bears : Nat → Int32), ∃ (r_t_worst : Nat → Int32), w = (wd_LongTrainModel_strain k a_t d_t i_t j_t r_t_s r_t_wagons r_t_foremost r_t_bears r_t_worst) ∧ Q r i_t r_t_wagons r_t_foremost r_t_bears r_t_worst) D k A ([.ref a_t, .int n1, .int n2, .int n3] : List Value).toArray s 0 0) (F0 m 15 ls [.int y0, .ref a_t]) := by
  have hx := F.x
  have hb := F.b
  intro i_t r_t_wagons r_t_foremost r_t_bears r_t_worst x1 x2 x3 y0 H locs ls hf hB hl
  unfold j_LongTrainModel_strain_15 at hf
  refine k_vi (wr := [((d_t 6), ai k 1068 r_t_s), ((d_t 22), ai k 20 r_t_wagons), ((d_t 23), ai k 20 r_t_foremost), ((d_t 24), ai k 20 r_t_bears), ((d_t 29), ai k 3 r_t_worst)]) (rest := []) F hA hB (c_LongTrainModel_throwsIf l D k a_t d_t i_t j_t y0 _  hf) ml_RX12_250 mv_yX12_throwsIf [0] [1, 2, 3, 4, 5] rfl rfl (by decide) (by decide) (by decide) 0 rfl rfl rfl hl.1 rfl (Nat.le_of_ble_eq_true rfl) ⟨Nat.le_of_ble_eq_true rfl, Nat.le_of_ble_eq_true rfl⟩ ⟨Nat.le_of_ble_eq_true rfl, Nat.le_of_ble_eq_true rfl⟩ dX12_strain_15 (fun z_4 w1 H locs hq hB => ?_)
  obtain ⟨h_5, i_t_3, rfl, hf⟩ := hq
  replace hB : Bd D A s.heap (wd_LongTrainModel_strain k a_t d_t i_t_3 j_t r_t_s r_t_wagons r_t_foremost r_t_bears r_t_worst) H locs := hB.sub [5, 0, 1, 2, 3, 4] (by decide) rfl
  refine lv_if_eq (tgt := 23) hx hb dX12_strain_18 (by decide) (fun c_22 => ?_) (fun c_22 => ?_)
  · replace hf := hf.1 c_22
    refine lv_aload_n hx hb dX12_strain_23 rfl (lv_at hl 0 rfl) ?_
    refine lv_iload_n hx hb dX12_strain_24 rfl (lv_at hl 1 rfl) ?_
    refine k_vi (wr := [((d_t 22), ai k 20 r_t_wagons), ((d_t 23), ai k 20 r_t_foremost), ((d_t 24), ai k 20 r_t_bears), ((d_t 29), ai k 3 r_t_worst)]) (rest := []) F hA hB (c_LongTrainModel_isUnit l D k a_t d_t i_t_3 j_t r_t_s x1 _  hf) ml_RX12_291 mv_yX12_isUnit [0, 1] [2, 3, 4, 5] rfl rfl (by decide) (by decide) (by decide) 0 rfl rfl rfl hl.1 rfl (Nat.le_of_ble_eq_true rfl) ⟨Nat.le_of_ble_eq_true rfl, Nat.le_of_ble_eq_true rfl⟩ ⟨Nat.le_of_ble_eq_true rfl, Nat.le_of_ble_eq_true rfl⟩ dX12_strain_25 (fun z_6 w1 H locs hq hB => ?_)
    obtain ⟨h_7, rfl, hf⟩ := hq
    replace hB : Bd D A s.heap (wd_LongTrainModel_strain k a_t d_t i_t_3 j_t r_t_s r_t_wagons r_t_foremost r_t_bears r_t_worst) H locs := hB.sub [4, 5, 0, 1, 2, 3] (by decide) rfl
    refine lv_if_eq (tgt := 63) hx hb dX12_strain_28 (by decide) (fun c_21 => ?_) (fun c_21 => ?_)
    · replace hf := hf.1 c_21
      refine lv_iconst (v := -1) hx hb dX12_strain_63 (by decide) ?_
      exact r_i F hr hlk hB ⟨_, _, _, _, _, rfl, hf⟩ dX12_strain_64
    · replace hf := hf.2 c_21
      refine lv_aload_n hx hb dX12_strain_31 rfl (lv_at hl 0 rfl) ?_
      refine lv_iload_n hx hb dX12_strain_32 rfl (lv_at hl 2 rfl) ?_
      refine k_vi (wr := [((d_t 22), ai k 20 r_t_wagons), ((d_t 23), ai k 20 r_t_foremost), ((d_t 24), ai k 20 r_t_bears), ((d_t 29), ai k 3 r_t_worst)]) (rest := []) F hA hB (c_LongTrainModel_isUnit l D k a_t d_t i_t_3 j_t r_t_s x2 _  hf) ml_RX12_291 mv_yX12_isUnit [0, 1] [2, 3, 4, 5] rfl rfl (by decide) (by decide) (by decide) 0 rfl rfl rfl hl.1 rfl (Nat.le_of_ble_eq_true rfl) ⟨Nat.le_of_ble_eq_true rfl, Nat.le_of_ble_eq_true rfl⟩ ⟨Nat.le_of_ble_eq_true rfl, Nat.le_of_ble_eq_true rfl⟩ dX12_strain_33 (fun z_8 w1 H locs hq hB => ?_)
      obtain ⟨h_9, rfl, hf⟩ := hq
      replace hB : Bd D A s.heap (wd_LongTrainModel_strain k a_t d_t i_t_3 j_t r_t_s r_t_wagons r_t_foremost r_t_bears r_t_worst) H locs := hB.sub [4, 5, 0, 1, 2, 3] (by decide) rfl
      refine lv_if_eq (tgt := 63) hx hb dX12_strain_36 (by decide) (fun c_20 => ?_) (fun c_20 => ?_)
      · replace hf := hf.1 c_20
        refine lv_iconst (v := -1) hx hb dX12_strain_63 (by decide) ?_
        exact r_i F hr hlk hB ⟨_, _, _, _, _, rfl, hf⟩ dX12_strain_64
      · replace hf := hf.2 c_20
        refine lv_iload_n hx hb dX12_strain_39 rfl (lv_at hl 1 rfl) ?_
        refine lv_iload_n hx hb dX12_strain_40 rfl (lv_at hl 2 rfl) ?_
        refine lv_icmp_gt (tgt := 63) hx hb dX12_strain_41 (by decide) (fun c_19 => ?_) (fun c_19 => ?_)
        · replace hf := hf.1 c_19
          refine lv_iconst (v := -1) hx hb dX12_strain_63 (by decide) ?_
          exact r_i F hr hlk hB ⟨_, _, _, _, _, rfl, hf⟩ dX12_strain_64
        · replace hf := hf.2 c_19
          refine lv_aload_n hx hb dX12_strain_44 rfl (lv_at hl 0 rfl) ?_
          refine lv_iload_n hx hb dX12_strain_45 rfl (lv_at hl 1 rfl) ?_
          refine lv_iload_n hx hb dX12_strain_46 rfl (lv_at hl 2 rfl) ?_
          refine lv_iconst (v := 1) hx hb dX12_strain_47 (by decide) ?_
          refine k_vi (wr := []) (rest := []) F hA hB (c_LongTrainModel_strained l D k a_t d_t i_t_3 j_t r_t_s r_t_wagons r_t_foremost r_t_bears r_t_worst x1 x2 (1 : Int32) _  hf) ml_RX12_294 mv_yX12_strained [0, 1, 2, 3, 4, 5] [] rfl rfl (by decide) (by decide) (by decide) 0 rfl rfl rfl hl.1 rfl (Nat.le_of_ble_eq_true rfl) ⟨Nat.le_of_ble_eq_true rfl, Nat.le_of_ble_eq_true rfl⟩ ⟨Nat.le_of_ble_eq_true rfl, Nat.le_of_ble_eq_true rfl⟩ dX12_strain_48 (fun z_15 w1 H locs hq hB => ?_)
          obtain ⟨h_16, i_t_10, r_t_wagons_11, r_t_foremost_12, r_t_bears_13, r_t_worst_14, rfl, hf⟩ := hq
          replace hB : Bd D A s.heap (wd_LongTrainModel_strain k a_t d_t i_t_10 j_t r_t_s r_t_wagons_11 r_t_foremost_12 r_t_bears_13 r_t_worst_14) H locs := hB.sub [0, 1, 2, 3, 4, 5] (by decide) rfl
          refine lv_if_eq (tgt := 63) hx hb dX12_strain_51 (by decide) (fun c_18 => ?_) (fun c_18 => ?_)
          · replace hf := hf.1 c_18
            refine lv_iconst (v := -1) hx hb dX12_strain_63 (by decide) ?_
            exact r_i F hr hlk hB ⟨_, _, _, _, _, rfl, hf⟩ dX12_strain_64
          · replace hf := hf.2 c_18
            refine lv_aload_n hx hb dX12_strain_54 rfl (lv_at hl 0 rfl) ?_
            refine g_get (w := .ref (d_t 29)) F hB 0 rfl fl_RX12_65 rfl dX12_strain_55 ?_
            refine lv_iload_n hx hb dX12_strain_58 rfl (lv_at hl 3 rfl) ?_
            obtain ⟨h_17, hf⟩ := hf
            refine g_iald F hB 5 rfl h_17 dX12_strain_59 ?_
            refine lv_goto (tgt := 64) hx hb dX12_strain_60 (by decide) ?_
            exact r_i F hr hlk hB ⟨_, _, _, _, _, rfl, hf⟩ dX12_strain_64
  · replace hf := hf.2 c_22
    refine lv_iconst (v := 0) hx hb dX12_strain_21 (by decide) ?_
    exact r_i F hr hlk hB ⟨_, _, _, _, _, rfl, hf⟩ dX12_strain_22

set_option maxRecDepth 100000 in
set_option maxHeartbeats 4000000 in
theorem c_LongTrainModel_strain (l : Launch) (D : va_G) (k : Nat → ClassId) (a_t : Nat) (d_t : Nat → Nat) (i_t : Nat → Int32) (j_t : Nat → Int64) (r_t_s : Nat → Int32) (r_t_wagons : Nat → Int32) (r_t_foremost : Nat → Int32) (r_t_bears : Nat → Int32) (r_t_worst : Nat → Int32) (n1 : Int32) (n2 : Int32) (n3 : Int32) (Q : Int32 → (Nat → Int32) → (Nat → Int32) → (Nat → Int32) → (Nat → Int32) → (Nat → Int32) → Prop)  (hf : w_LongTrainModel_strain i_t r_t_s r_t_wagons r_t_foremost r_t_bears r_t_worst n1 n2 n3 Q) : CtI l yX12_strain cX12_strain 4 (some .int) 4 92 0 0 D k [.ref a_t, .int n1, .int n2, .int n3] (wd_LongTrainModel_strain k a_t d_t i_t j_t r_t_s r_t_wagons r_t_foremost r_t_bears r_t_worst) (fun r w => ∃ (i_t : Nat → Int32), ∃ (r_t_wagons : Nat → Int32), ∃ (r_t_foremost : Nat → Int32), ∃ (r_t_bears : Nat → Int32), ∃ (r_t_worst : Nat → Int32), w = (wd_LongTrainModel_strain k a_t d_t i_t j_t r_t_s r_t_wagons r_t_foremost r_t_bears r_t_worst) ∧ Q r i_t r_t_wagons r_t_foremost r_t_bears r_t_worst) := by
  refine CtI.of (by decide) (Nat.le_of_ble_eq_true rfl) ?_
  intro p e s m below meth c A F hr hlk hnm hA hB ls hl
  have hx := F.x
  have hb := F.b
  unfold w_LongTrainModel_strain at hf
  replace hl : lv_has ls 4 [(0, .ref a_t), (1, .int n1), (2, .int n2), (3, .int n3)] := hl
  refine lv_aload_n hx hb dX12_strain_0 rfl (lv_at hl 0 rfl) ?_
  refine lv_iload_n hx hb dX12_strain_1 rfl (lv_at hl 3 rfl) ?_
  refine lv_iconst (v := 0) hx hb dX12_strain_2 (by decide) ?_
  refine lv_iconst (v := 2) hx hb dX12_strain_3 (by decide) ?_
  refine k_si (wr := [(a_t, ob 12 (rfd d_t) i_t j_t), ((d_t 6), ai k 1068 r_t_s), ((d_t 22), ai k 20 r_t_wagons), ((d_t 23), ai k 20 r_t_foremost), ((d_t 24), ai k 20 r_t_bears), ((d_t 29), ai k 3 r_t_worst)]) (rest := [.ref a_t]) F hA hB (c_LongTrainModel_isIn l D k n3 (0 : Int32) (2 : Int32) _  hf) ml_RX12_182 ms_yX12_isIn [] [0, 1, 2, 3, 4, 5] rfl rfl (by decide) (by decide) (by decide) rfl hl.1 rfl (Nat.le_of_ble_eq_true rfl) ⟨Nat.le_of_ble_eq_true rfl, Nat.le_of_ble_eq_true rfl⟩ ⟨Nat.le_of_ble_eq_true rfl, Nat.le_of_ble_eq_true rfl⟩ dX12_strain_4 (fun z_1 w1 H locs hq hB => ?_)
  obtain ⟨h_2, rfl, hf⟩ := hq
  replace hB : Bd D A s.heap (wd_LongTrainModel_strain k a_t d_t i_t j_t r_t_s r_t_wagons r_t_foremost r_t_bears r_t_worst) H locs := hB.sub [0, 1, 2, 3, 4, 5] (by decide) rfl
  refine lv_if_ne (tgt := 14) hx hb dX12_strain_7 (by decide) (fun c_23 => ?_) (fun c_23 => ?_)
  · replace hf := hf.1 c_23
    refine lv_iconst (v := 0) hx hb dX12_strain_14 (by decide) ?_
    exact jt_LongTrainModel_strain_15 F hr hlk hA _ _ _ _ _ _ _ _ _ _ _ _ hf hB (lv_sub hl [0, 1, 2, 3] rfl)
  · replace hf := hf.2 c_23
    refine lv_iconst (v := 1) hx hb dX12_strain_10 (by decide) ?_
    refine lv_goto (tgt := 15) hx hb dX12_strain_11 (by decide) ?_
    exact jt_LongTrainModel_strain_15 F hr hlk hA _ _ _ _ _ _ _ _ _ _ _ _ hf hB (lv_sub hl [0, 1, 2, 3] rfl)

/-! LongTrainModel.squeeze -/
set_option maxRecDepth 100000 in
set_option maxHeartbeats 4000000 in
theorem jt_LongTrainModel_squeeze_15 {p : Program} {l : Launch} {e : Env} {s : State} {m : MethodId} {below : List Frame} {meth : Method} {c : Code} {A : Nat → Prop} {D : va_G} {k : Nat → ClassId} {a_t : Nat} {d_t : Nat → Nat} {j_t : Nat → Int64} {r_t_s : Nat → Int32} {n1 : Int32} {n2 : Int32} {n3 : Int32} {Q : Int32 → (Nat → Int32) → (Nat → Int32) → (Nat → Int32) → (Nat → Int32) → (Nat → Int32) → Prop}  (F : Fx p m c cX12_squeeze 4 s ([.ref a_t, .int n1, .int n2, .int n3] : List Value).toArray RX12 D k) (hr : meth.sig.returnType = (some .int)) (hlk : meth.locks = false) (hA : ∀ q : Nat, s.heap.size ≤ q → A q) :
    ∀ (i_t : Nat → Int32) (r_t_wagons : Nat → Int32) (r_t_foremost : Nat → Int32) (r_t_bears : Nat → Int32) (r_t_worst : Nat → Int32) (x1 : Int32) (x2 : Int32) (x3 : Int32) (y0 : Int32) (H : Heap) (locs : List Loc) (ls : Array Slot), j_LongTrainModel_squeeze_15 i_t r_t_s r_t_wagons r_t_foremost r_t_bears r_t_worst x1 x2 x3 y0 Q → Bd D A s.heap (wd_LongTrainModel_squeeze k a_t d_t i_t j_t r_t_s r_t_wagons r_t_foremost r_t_bears r_t_worst) H locs → lv_has ls 4 [(0, .ref a_t), (1, .int x1), (2, .int x2), (3, .int x3)] → W p l e { frames := 4, cells := 0, slots := 0, locals := 92 } s m ([.ref a_t, .int n1, .int n2, .int n3] : List Value).toArray below meth c H locs 0 0 (Ei below (fun r w => ∃ (i_t : Nat → Int32), ∃ (r_t_wagons : Nat → Int32), ∃ (r_t_foremost : Nat → Int32), ∃ (r_t_bears : Nat → Int32), ∃ (r_t_worst : Nat → Int32), w = (wd_LongTrainModel_squeeze k a_t d_t i_t j_t r_t_s r_t_wagons r_t_foremost r_t_bears r_t_worst) ∧ Q r i_t r_t_wagons r_t_foremost r_t_bears r_t_worst) D k A ([.ref a_t, .int n1, .int n2, .int n3] : List Value).toArray s 0 0) (F0 m 15 ls [.int y0, .ref a_t]) := by
  have hx := F.x
  have hb := F.b
  intro i_t r_t_wagons r_t_foremost r_t_bears r_t_worst x1 x2 x3 y0 H locs ls hf hB hl
  unfold j_LongTrainModel_squeeze_15 at hf
  refine k_vi (wr := [((d_t 6), ai k 1068 r_t_s), ((d_t 22), ai k 20 r_t_wagons), ((d_t 23), ai k 20 r_t_foremost), ((d_t 24), ai k 20 r_t_bears), ((d_t 29), ai k 3 r_t_worst)]) (rest := []) F hA hB (c_LongTrainModel_throwsIf l D k a_t d_t i_t j_t y0 _  hf) ml_RX12_250 mv_yX12_throwsIf [0] [1, 2, 3, 4, 5] rfl rfl (by decide) (by decide) (by decide) 0 rfl rfl rfl hl.1 rfl (Nat.le_of_ble_eq_true rfl) ⟨Nat.le_of_ble_eq_true rfl, Nat.le_of_ble_eq_true rfl⟩ ⟨Nat.le_of_ble_eq_true rfl, Nat.le_of_ble_eq_true rfl⟩ dX12_squeeze_15 (fun z_4 w1 H locs hq hB => ?_)
  obtain ⟨h_5, i_t_3, rfl, hf⟩ := hq
  replace hB : Bd D A s.heap (wd_LongTrainModel_squeeze k a_t d_t i_t_3 j_t r_t_s r_t_wagons r_t_foremost r_t_bears r_t_worst) H locs := hB.sub [5, 0, 1, 2, 3, 4] (by decide) rfl
  refine lv_if_eq (tgt := 23) hx hb dX12_squeeze_18 (by decide) (fun c_22 => ?_) (fun c_22 => ?_)
  · replace hf := hf.1 c_22
    refine lv_aload_n hx hb dX12_squeeze_23 rfl (lv_at hl 0 rfl) ?_
    refine lv_iload_n hx hb dX12_squeeze_24 rfl (lv_at hl 1 rfl) ?_
    refine k_vi (wr := [((d_t 22), ai k 20 r_t_wagons), ((d_t 23), ai k 20 r_t_foremost), ((d_t 24), ai k 20 r_t_bears), ((d_t 29), ai k 3 r_t_worst)]) (rest := []) F hA hB (c_LongTrainModel_isUnit l D k a_t d_t i_t_3 j_t r_t_s x1 _  hf) ml_RX12_291 mv_yX12_isUnit [0, 1] [2, 3, 4, 5] rfl rfl (by decide) (by decide) (by decide) 0 rfl rfl rfl hl.1 rfl (Nat.le_of_ble_eq_true rfl) ⟨Nat.le_of_ble_eq_true rfl, Nat.le_of_ble_eq_true rfl⟩ ⟨Nat.le_of_ble_eq_true rfl, Nat.le_of_ble_eq_true rfl⟩ dX12_squeeze_25 (fun z_6 w1 H locs hq hB => ?_)
    obtain ⟨h_7, rfl, hf⟩ := hq
    replace hB : Bd D A s.heap (wd_LongTrainModel_squeeze k a_t d_t i_t_3 j_t r_t_s r_t_wagons r_t_foremost r_t_bears r_t_worst) H locs := hB.sub [4, 5, 0, 1, 2, 3] (by decide) rfl
    refine lv_if_eq (tgt := 63) hx hb dX12_squeeze_28 (by decide) (fun c_21 => ?_) (fun c_21 => ?_)
    · replace hf := hf.1 c_21
      refine lv_iconst (v := -1) hx hb dX12_squeeze_63 (by decide) ?_
      exact r_i F hr hlk hB ⟨_, _, _, _, _, rfl, hf⟩ dX12_squeeze_64
    · replace hf := hf.2 c_21
      refine lv_aload_n hx hb dX12_squeeze_31 rfl (lv_at hl 0 rfl) ?_
      refine lv_iload_n hx hb dX12_squeeze_32 rfl (lv_at hl 2 rfl) ?_
      refine k_vi (wr := [((d_t 22), ai k 20 r_t_wagons), ((d_t 23), ai k 20 r_t_foremost), ((d_t 24), ai k 20 r_t_bears), ((d_t 29), ai k 3 r_t_worst)]) (rest := []) F hA hB (c_LongTrainModel_isUnit l D k a_t d_t i_t_3 j_t r_t_s x2 _  hf) ml_RX12_291 mv_yX12_isUnit [0, 1] [2, 3, 4, 5] rfl rfl (by decide) (by decide) (by decide) 0 rfl rfl rfl hl.1 rfl (Nat.le_of_ble_eq_true rfl) ⟨Nat.le_of_ble_eq_true rfl, Nat.le_of_ble_eq_true rfl⟩ ⟨Nat.le_of_ble_eq_true rfl, Nat.le_of_ble_eq_true rfl⟩ dX12_squeeze_33 (fun z_8 w1 H locs hq hB => ?_)
      obtain ⟨h_9, rfl, hf⟩ := hq
      replace hB : Bd D A s.heap (wd_LongTrainModel_squeeze k a_t d_t i_t_3 j_t r_t_s r_t_wagons r_t_foremost r_t_bears r_t_worst) H locs := hB.sub [4, 5, 0, 1, 2, 3] (by decide) rfl
      refine lv_if_eq (tgt := 63) hx hb dX12_squeeze_36 (by decide) (fun c_20 => ?_) (fun c_20 => ?_)
      · replace hf := hf.1 c_20
        refine lv_iconst (v := -1) hx hb dX12_squeeze_63 (by decide) ?_
        exact r_i F hr hlk hB ⟨_, _, _, _, _, rfl, hf⟩ dX12_squeeze_64
      · replace hf := hf.2 c_20
        refine lv_iload_n hx hb dX12_squeeze_39 rfl (lv_at hl 1 rfl) ?_
        refine lv_iload_n hx hb dX12_squeeze_40 rfl (lv_at hl 2 rfl) ?_
        refine lv_icmp_gt (tgt := 63) hx hb dX12_squeeze_41 (by decide) (fun c_19 => ?_) (fun c_19 => ?_)
        · replace hf := hf.1 c_19
          refine lv_iconst (v := -1) hx hb dX12_squeeze_63 (by decide) ?_
          exact r_i F hr hlk hB ⟨_, _, _, _, _, rfl, hf⟩ dX12_squeeze_64
        · replace hf := hf.2 c_19
          refine lv_aload_n hx hb dX12_squeeze_44 rfl (lv_at hl 0 rfl) ?_
          refine lv_iload_n hx hb dX12_squeeze_45 rfl (lv_at hl 1 rfl) ?_
          refine lv_iload_n hx hb dX12_squeeze_46 rfl (lv_at hl 2 rfl) ?_
          refine lv_iconst (v := -1) hx hb dX12_squeeze_47 (by decide) ?_
          refine k_vi (wr := []) (rest := []) F hA hB (c_LongTrainModel_strained l D k a_t d_t i_t_3 j_t r_t_s r_t_wagons r_t_foremost r_t_bears r_t_worst x1 x2 (-1 : Int32) _  hf) ml_RX12_294 mv_yX12_strained [0, 1, 2, 3, 4, 5] [] rfl rfl (by decide) (by decide) (by decide) 0 rfl rfl rfl hl.1 rfl (Nat.le_of_ble_eq_true rfl) ⟨Nat.le_of_ble_eq_true rfl, Nat.le_of_ble_eq_true rfl⟩ ⟨Nat.le_of_ble_eq_true rfl, Nat.le_of_ble_eq_true rfl⟩ dX12_squeeze_48 (fun z_15 w1 H locs hq hB => ?_)
          obtain ⟨h_16, i_t_10, r_t_wagons_11, r_t_foremost_12, r_t_bears_13, r_t_worst_14, rfl, hf⟩ := hq
          replace hB : Bd D A s.heap (wd_LongTrainModel_squeeze k a_t d_t i_t_10 j_t r_t_s r_t_wagons_11 r_t_foremost_12 r_t_bears_13 r_t_worst_14) H locs := hB.sub [0, 1, 2, 3, 4, 5] (by decide) rfl
          refine lv_if_eq (tgt := 63) hx hb dX12_squeeze_51 (by decide) (fun c_18 => ?_) (fun c_18 => ?_)
          · replace hf := hf.1 c_18
            refine lv_iconst (v := -1) hx hb dX12_squeeze_63 (by decide) ?_
            exact r_i F hr hlk hB ⟨_, _, _, _, _, rfl, hf⟩ dX12_squeeze_64
          · replace hf := hf.2 c_18
            refine lv_aload_n hx hb dX12_squeeze_54 rfl (lv_at hl 0 rfl) ?_
            refine g_get (w := .ref (d_t 29)) F hB 0 rfl fl_RX12_65 rfl dX12_squeeze_55 ?_
            refine lv_iload_n hx hb dX12_squeeze_58 rfl (lv_at hl 3 rfl) ?_
            obtain ⟨h_17, hf⟩ := hf
            refine g_iald F hB 5 rfl h_17 dX12_squeeze_59 ?_
            refine lv_goto (tgt := 64) hx hb dX12_squeeze_60 (by decide) ?_
            exact r_i F hr hlk hB ⟨_, _, _, _, _, rfl, hf⟩ dX12_squeeze_64
  · replace hf := hf.2 c_22
    refine lv_iconst (v := 0) hx hb dX12_squeeze_21 (by decide) ?_
    exact r_i F hr hlk hB ⟨_, _, _, _, _, rfl, hf⟩ dX12_squeeze_22

set_option maxRecDepth 100000 in
set_option maxHeartbeats 4000000 in
theorem c_LongTrainModel_squeeze (l : Launch) (D : va_G) (k : Nat → ClassId) (a_t : Nat) (d_t : Nat → Nat) (i_t : Nat → Int32) (j_t : Nat → Int64) (r_t_s : Nat → Int32) (r_t_wagons : Nat → Int32) (r_t_foremost : Nat → Int32) (r_t_bears : Nat → Int32) (r_t_worst : Nat → Int32) (n1 : Int32) (n2 : Int32) (n3 : Int32) (Q : Int32 → (Nat → Int32) → (Nat → Int32) → (Nat → Int32) → (Nat → Int32) → (Nat → Int32) → Prop)  (hf : w_LongTrainModel_squeeze i_t r_t_s r_t_wagons r_t_foremost r_t_bears r_t_worst n1 n2 n3 Q) : CtI l yX12_squeeze cX12_squeeze 4 (some .int) 4 92 0 0 D k [.ref a_t, .int n1, .int n2, .int n3] (wd_LongTrainModel_squeeze k a_t d_t i_t j_t r_t_s r_t_wagons r_t_foremost r_t_bears r_t_worst) (fun r w => ∃ (i_t : Nat → Int32), ∃ (r_t_wagons : Nat → Int32), ∃ (r_t_foremost : Nat → Int32), ∃ (r_t_bears : Nat → Int32), ∃ (r_t_worst : Nat → Int32), w = (wd_LongTrainModel_squeeze k a_t d_t i_t j_t r_t_s r_t_wagons r_t_foremost r_t_bears r_t_worst) ∧ Q r i_t r_t_wagons r_t_foremost r_t_bears r_t_worst) := by
  refine CtI.of (by decide) (Nat.le_of_ble_eq_true rfl) ?_
  intro p e s m below meth c A F hr hlk hnm hA hB ls hl
  have hx := F.x
  have hb := F.b
  unfold w_LongTrainModel_squeeze at hf
  replace hl : lv_has ls 4 [(0, .ref a_t), (1, .int n1), (2, .int n2), (3, .int n3)] := hl
  refine lv_aload_n hx hb dX12_squeeze_0 rfl (lv_at hl 0 rfl) ?_
  refine lv_iload_n hx hb dX12_squeeze_1 rfl (lv_at hl 3 rfl) ?_
  refine lv_iconst (v := 0) hx hb dX12_squeeze_2 (by decide) ?_
  refine lv_iconst (v := 2) hx hb dX12_squeeze_3 (by decide) ?_
  refine k_si (wr := [(a_t, ob 12 (rfd d_t) i_t j_t), ((d_t 6), ai k 1068 r_t_s), ((d_t 22), ai k 20 r_t_wagons), ((d_t 23), ai k 20 r_t_foremost), ((d_t 24), ai k 20 r_t_bears), ((d_t 29), ai k 3 r_t_worst)]) (rest := [.ref a_t]) F hA hB (c_LongTrainModel_isIn l D k n3 (0 : Int32) (2 : Int32) _  hf) ml_RX12_182 ms_yX12_isIn [] [0, 1, 2, 3, 4, 5] rfl rfl (by decide) (by decide) (by decide) rfl hl.1 rfl (Nat.le_of_ble_eq_true rfl) ⟨Nat.le_of_ble_eq_true rfl, Nat.le_of_ble_eq_true rfl⟩ ⟨Nat.le_of_ble_eq_true rfl, Nat.le_of_ble_eq_true rfl⟩ dX12_squeeze_4 (fun z_1 w1 H locs hq hB => ?_)
  obtain ⟨h_2, rfl, hf⟩ := hq
  replace hB : Bd D A s.heap (wd_LongTrainModel_squeeze k a_t d_t i_t j_t r_t_s r_t_wagons r_t_foremost r_t_bears r_t_worst) H locs := hB.sub [0, 1, 2, 3, 4, 5] (by decide) rfl
  refine lv_if_ne (tgt := 14) hx hb dX12_squeeze_7 (by decide) (fun c_23 => ?_) (fun c_23 => ?_)
  · replace hf := hf.1 c_23
    refine lv_iconst (v := 0) hx hb dX12_squeeze_14 (by decide) ?_
    exact jt_LongTrainModel_squeeze_15 F hr hlk hA _ _ _ _ _ _ _ _ _ _ _ _ hf hB (lv_sub hl [0, 1, 2, 3] rfl)
  · replace hf := hf.2 c_23
    refine lv_iconst (v := 1) hx hb dX12_squeeze_10 (by decide) ?_
    refine lv_goto (tgt := 15) hx hb dX12_squeeze_11 (by decide) ?_
    exact jt_LongTrainModel_squeeze_15 F hr hlk hA _ _ _ _ _ _ _ _ _ _ _ _ hf hB (lv_sub hl [0, 1, 2, 3] rfl)

/-! LongTrainModel.span -/
set_option maxRecDepth 100000 in
set_option maxHeartbeats 4000000 in
theorem bt_LongTrainModel_span_64 {p : Program} {l : Launch} {e : Env} {s : State} {m : MethodId} {below : List Frame} {meth : Method} {c : Code} {A : Nat → Prop} {D : va_G} {k : Nat → ClassId} {a_t : Nat} {d_t : Nat → Nat} {i_t : Nat → Int32} {j_t : Nat → Int64} {r_t_s : Nat → Int32} {r_t_wagons : Nat → Int32} {n1 : Int32} {n2 : Int32} {n3 : Int32} {Q : Int32 → (Nat → Int32) → (Nat → Int32) → Prop}  {x1 : Int32} {x2 : Int32} {x3 : Int32} {x4 : Int32} {x5 : Int32} {x6 : Int32} {kx_64 : (Int32) → Prop} {kr_64 : (Int32) → (Int32) → Prop} (F : Fx p m c cX12_span 9 s ([.ref a_t, .int n1, .int n2, .int n3] : List Value).toArray RX12 D k) (hr : meth.sig.returnType = (some .int)) (hlk : meth.locks = false) (hA : ∀ q : Nat, s.heap.size ≤ q → A q) (hkx_64 : ∀ (x7 : Int32) (H : Heap) (locs : List Loc) (ls : Array Slot), kx_64 x7 → Bd D A s.heap (wd_LongTrainModel_span k a_t d_t i_t j_t r_t_s r_t_wagons) H locs → lv_has ls 9 [(0, .ref a_t), (1, .int x1), (2, .int x2), (3, .int x3), (4, .int x4), (5, .int x5), (6, .int x6), (7, .int x7)] → W p l e { frames := 2, cells := 0, slots := 0, locals := 44 } s m ([.ref a_t, .int n1, .int n2, .int n3] : List Value).toArray below meth c H locs 0 0 (Ei below (fun r w => ∃ (i_t : Nat → Int32), ∃ (r_t_wagons : Nat → Int32), w = (wd_LongTrainModel_span k a_t d_t i_t j_t r_t_s r_t_wagons) ∧ Q r i_t r_t_wagons) D k A ([.ref a_t, .int n1, .int n2, .int n3] : List Value).toArray s 0 0) (F0 m 95 ls [])) (hkr_64 : ∀ (x7 : Int32) (x8 : Int32) (H : Heap) (locs : List Loc) (ls : Array Slot), kr_64 x7 x8 → Bd D A s.heap (wd_LongTrainModel_span k a_t d_t i_t j_t r_t_s r_t_wagons) H locs → lv_has ls 9 [(0, .ref a_t), (1, .int x1), (2, .int x2), (3, .int x3), (4, .int x4), (5, .int x5), (6, .int x6), (7, .int x7), (8, .int x8)] → W p l e { frames := 2, cells := 0, slots := 0, locals := 44 } s m ([.ref a_t, .int n1, .int n2, .int n3] : List Value).toArray below meth c H locs 0 0 (Ei below (fun r w => ∃ (i_t : Nat → Int32), ∃ (r_t_wagons : Nat → Int32), w = (wd_LongTrainModel_span k a_t d_t i_t j_t r_t_s r_t_wagons) ∧ Q r i_t r_t_wagons) D k A ([.ref a_t, .int n1, .int n2, .int n3] : List Value).toArray s 0 0) (F0 m 64 ls [])) :
    ∀ (x7 : Int32) (x8 : Int32) (H : Heap) (locs : List Loc) (ls : Array Slot), b_LongTrainModel_span_64 i_t r_t_s r_t_wagons kx_64 kr_64 x7 x8 → Bd D A s.heap (wd_LongTrainModel_span k a_t d_t i_t j_t r_t_s r_t_wagons) H locs → lv_has ls 9 [(0, .ref a_t), (1, .int x1), (2, .int x2), (3, .int x3), (4, .int x4), (5, .int x5), (6, .int x6), (7, .int x7), (8, .int x8)] → W p l e { frames := 2, cells := 0, slots := 0, locals := 44 } s m ([.ref a_t, .int n1, .int n2, .int n3] : List Value).toArray below meth c H locs 0 0 (Ei below (fun r w => ∃ (i_t : Nat → Int32), ∃ (r_t_wagons : Nat → Int32), w = (wd_LongTrainModel_span k a_t d_t i_t j_t r_t_s r_t_wagons) ∧ Q r i_t r_t_wagons) D k A ([.ref a_t, .int n1, .int n2, .int n3] : List Value).toArray s 0 0) (F0 m 64 ls []) := by
  have hx := F.x
  have hb := F.b
  intro x7 x8 H locs ls hf hB hl
  unfold b_LongTrainModel_span_64 at hf
  refine lv_iload hx hb dX12_span_64 (lv_at hl 8 rfl) ?_
  refine lv_aload_n hx hb dX12_span_66 rfl (lv_at hl 0 rfl) ?_
  refine g_get (w := .int (i_t 27)) F hB 0 rfl fl_RX12_270 rfl dX12_span_67 ?_
  refine lv_icmp_ge (tgt := 95) hx hb dX12_span_70 (by decide) (fun c_12 => ?_) (fun c_12 => ?_)
  · replace hf := hf.1 c_12
    exact hkx_64 _ _ _ _ hf hB (lv_sub hl [0, 1, 2, 3, 4, 5, 6, 7] rfl)
  · replace hf := hf.2 c_12
    refine lv_iload hx hb dX12_span_73 (lv_at hl 7 rfl) ?_
    refine lv_aload_n hx hb dX12_span_75 rfl (lv_at hl 0 rfl) ?_
    refine lv_aload_n hx hb dX12_span_76 rfl (lv_at hl 0 rfl) ?_
    refine g_get (w := .ref (d_t 22)) F hB 0 rfl fl_RX12_50 rfl dX12_span_77 ?_
    refine lv_iload hx hb dX12_span_80 (lv_at hl 8 rfl) ?_
    obtain ⟨h_10, hf⟩ := hf
    refine g_iald F hB 2 rfl h_10 dX12_span_82 ?_
    refine k_vi (wr := [((d_t 22), ai k 20 r_t_wagons)]) (rest := [.int x7]) F hA hB (c_LongTrainModel_longOf l D k a_t d_t i_t j_t r_t_s (r_t_wagons (x8).toNatClampNeg) _  hf) ml_RX12_273 mv_yX12_longOf [0, 1] [2] rfl rfl (by decide) (by decide) (by decide) 0 rfl rfl rfl hl.1 rfl (Nat.le_of_ble_eq_true rfl) ⟨Nat.le_of_ble_eq_true rfl, Nat.le_of_ble_eq_true rfl⟩ ⟨Nat.le_of_ble_eq_true rfl, Nat.le_of_ble_eq_true rfl⟩ dX12_span_83 (fun z_11 w1 H locs hq hB => ?_)
    obtain ⟨rfl, hf⟩ := hq
    replace hB : Bd D A s.heap (wd_LongTrainModel_span k a_t d_t i_t j_t r_t_s r_t_wagons) H locs := hB.sub [1, 2, 0] (by decide) rfl
    refine lv_iadd hx hb dX12_span_86 ?_
    refine lv_istore (lv' := [(7, .int (x7 + z_11)), (0, .ref a_t), (1, .int x1), (2, .int x2), (3, .int x3), (4, .int x4), (5, .int x5), (6, .int x6), (8, .int x8)]) hx hb dX12_span_87 hl (by decide) rfl (fun ls hl => ?_)
    refine lv_iinc (v := (x8 + 1)) (lv' := [(8, .int (x8 + 1)), (7, .int (x7 + z_11)), (0, .ref a_t), (1, .int x1), (2, .int x2), (3, .int x3), (4, .int x4), (5, .int x5), (6, .int x6)]) (k := 8) hx hb dX12_span_89 hl rfl rfl (by decide) rfl (fun ls hl => ?_)
    refine lv_goto (tgt := 64) hx hb dX12_span_92 (by decide) ?_
    exact hkr_64 _ _ _ _ _ hf hB (lv_sub hl [2, 3, 4, 5, 6, 7, 8, 1, 0] rfl)

set_option maxRecDepth 100000 in
set_option maxHeartbeats 4000000 in
theorem lt_LongTrainModel_span_64 {p : Program} {l : Launch} {e : Env} {s : State} {m : MethodId} {below : List Frame} {meth : Method} {c : Code} {A : Nat → Prop} {D : va_G} {k : Nat → ClassId} {a_t : Nat} {d_t : Nat → Nat} {i_t : Nat → Int32} {j_t : Nat → Int64} {r_t_s : Nat → Int32} {r_t_wagons : Nat → Int32} {n1 : Int32} {n2 : Int32} {n3 : Int32} {Q : Int32 → (Nat → Int32) → (Nat → Int32) → Prop}  {x1 : Int32} {x2 : Int32} {x3 : Int32} {x4 : Int32} {x5 : Int32} {x6 : Int32} {kx_64 : (Int32) → Prop} (F : Fx p m c cX12_span 9 s ([.ref a_t, .int n1, .int n2, .int n3] : List Value).toArray RX12 D k) (hr : meth.sig.returnType = (some .int)) (hlk : meth.locks = false) (hA : ∀ q : Nat, s.heap.size ≤ q → A q) (hkx_64 : ∀ (x7 : Int32) (H : Heap) (locs : List Loc) (ls : Array Slot), kx_64 x7 → Bd D A s.heap (wd_LongTrainModel_span k a_t d_t i_t j_t r_t_s r_t_wagons) H locs → lv_has ls 9 [(0, .ref a_t), (1, .int x1), (2, .int x2), (3, .int x3), (4, .int x4), (5, .int x5), (6, .int x6), (7, .int x7)] → W p l e { frames := 2, cells := 0, slots := 0, locals := 44 } s m ([.ref a_t, .int n1, .int n2, .int n3] : List Value).toArray below meth c H locs 0 0 (Ei below (fun r w => ∃ (i_t : Nat → Int32), ∃ (r_t_wagons : Nat → Int32), w = (wd_LongTrainModel_span k a_t d_t i_t j_t r_t_s r_t_wagons) ∧ Q r i_t r_t_wagons) D k A ([.ref a_t, .int n1, .int n2, .int n3] : List Value).toArray s 0 0) (F0 m 95 ls [])) :
    ∀ n : Nat, ∀ (x7 : Int32) (x8 : Int32) (H : Heap) (locs : List Loc) (ls : Array Slot), lp_LongTrainModel_span_64 i_t r_t_s r_t_wagons kx_64 n x7 x8 → Bd D A s.heap (wd_LongTrainModel_span k a_t d_t i_t j_t r_t_s r_t_wagons) H locs → lv_has ls 9 [(0, .ref a_t), (1, .int x1), (2, .int x2), (3, .int x3), (4, .int x4), (5, .int x5), (6, .int x6), (7, .int x7), (8, .int x8)] → W p l e { frames := 2, cells := 0, slots := 0, locals := 44 } s m ([.ref a_t, .int n1, .int n2, .int n3] : List Value).toArray below meth c H locs 0 0 (Ei below (fun r w => ∃ (i_t : Nat → Int32), ∃ (r_t_wagons : Nat → Int32), w = (wd_LongTrainModel_span k a_t d_t i_t j_t r_t_s r_t_wagons) ∧ Q r i_t r_t_wagons) D k A ([.ref a_t, .int n1, .int n2, .int n3] : List Value).toArray s 0 0) (F0 m 64 ls []) := by
  intro n
  induction n with
  | zero => intro x7 x8 H locs ls hf; exact absurd hf (fun h => h)
  | succ n ih => exact bt_LongTrainModel_span_64 F hr hlk hA hkx_64 ih

set_option maxRecDepth 100000 in
set_option maxHeartbeats 4000000 in
theorem bt_LongTrainModel_span_41 {p : Program} {l : Launch} {e : Env} {s : State} {m : MethodId} {below : List Frame} {meth : Method} {c : Code} {A : Nat → Prop} {D : va_G} {k : Nat → ClassId} {a_t : Nat} {d_t : Nat → Nat} {j_t : Nat → Int64} {r_t_s : Nat → Int32} {n1 : Int32} {n2 : Int32} {n3 : Int32} {Q : Int32 → (Nat → Int32) → (Nat → Int32) → Prop}  {x1 : Int32} {x2 : Int32} {x3 : Int32} {kx_41 : (Int32) → (Int32) → (Nat → Int32) → (Nat → Int32) → Prop} {kr_41 : (Int32) → (Int32) → (Int32) → (Nat → Int32) → (Nat → Int32) → Prop} (F : Fx p m c cX12_span 9 s ([.ref a_t, .int n1, .int n2, .int n3] : List Value).toArray RX12 D k) (hr : meth.sig.returnType = (some .int)) (hlk : meth.locks = false) (hA : ∀ q : Nat, s.heap.size ≤ q → A q) (hkx_41 : ∀ (x4 : Int32) (x5 : Int32) (i_t : Nat → Int32) (r_t_wagons : Nat → Int32) (H : Heap) (locs : List Loc) (ls : Array Slot), kx_41 x4 x5 i_t r_t_wagons → Bd D A s.heap (wd_LongTrainModel_span k a_t d_t i_t j_t r_t_s r_t_wagons) H locs → lv_has ls 9 [(3, .int x3), (4, .int x4), (5, .int x5)] → W p l e { frames := 2, cells := 0, slots := 0, locals := 44 } s m ([.ref a_t, .int n1, .int n2, .int n3] : List Value).toArray below meth c H locs 0 0 (Ei below (fun r w => ∃ (i_t : Nat → Int32), ∃ (r_t_wagons : Nat → Int32), w = (wd_LongTrainModel_span k a_t d_t i_t j_t r_t_s r_t_wagons) ∧ Q r i_t r_t_wagons) D k A ([.ref a_t, .int n1, .int n2, .int n3] : List Value).toArray s 0 0) (F0 m 153 ls [])) (hkr_41 : ∀ (x4 : Int32) (x5 : Int32) (x6 : Int32) (i_t : Nat → Int32) (r_t_wagons : Nat → Int32) (H : Heap) (locs : List Loc) (ls : Array Slot), kr_41 x4 x5 x6 i_t r_t_wagons → Bd D A s.heap (wd_LongTrainModel_span k a_t d_t i_t j_t r_t_s r_t_wagons) H locs → lv_has ls 9 [(0, .ref a_t), (1, .int x1), (2, .int x2), (3, .int x3), (4, .int x4), (5, .int x5), (6, .int x6)] → W p l e { frames := 2, cells := 0, slots := 0, locals := 44 } s m ([.ref a_t, .int n1, .int n2, .int n3] : List Value).toArray below meth c H locs 0 0 (Ei below (fun r w => ∃ (i_t : Nat → Int32), ∃ (r_t_wagons : Nat → Int32), w = (wd_LongTrainModel_span k a_t d_t i_t j_t r_t_s r_t_wagons) ∧ Q r i_t r_t_wagons) D k A ([.ref a_t, .int n1, .int n2, .int n3] : List Value).toArray s 0 0) (F0 m 41 ls [])) :
    ∀ (x4 : Int32) (x5 : Int32) (x6 : Int32) (i_t : Nat → Int32) (r_t_wagons : Nat → Int32) (H : Heap) (locs : List Loc) (ls : Array Slot), b_LongTrainModel_span_41 r_t_s x1 x2 kx_41 kr_41 x4 x5 x6 i_t r_t_wagons → Bd D A s.heap (wd_LongTrainModel_span k a_t d_t i_t j_t r_t_s r_t_wagons) H locs → lv_has ls 9 [(0, .ref a_t), (1, .int x1), (2, .int x2), (3, .int x3), (4, .int x4), (5, .int x5), (6, .int x6)] → W p l e { frames := 2, cells := 0, slots := 0, locals := 44 } s m ([.ref a_t, .int n1, .int n2, .int n3] : List Value).toArray below meth c H locs 0 0 (Ei below (fun r w => ∃ (i_t : Nat → Int32), ∃ (r_t_wagons : Nat → Int32), w = (wd_LongTrainModel_span k a_t d_t i_t j_t r_t_s r_t_wagons) ∧ Q r i_t r_t_wagons) D k A ([.ref a_t, .int n1, .int n2, .int n3] : List Value).toArray s 0 0) (F0 m 41 ls []) := by
  have hx := F.x
  have hb := F.b
  intro x4 x5 x6 i_t r_t_wagons H locs ls hf hB hl
  unfold b_LongTrainModel_span_41 at hf
  refine lv_iload hx hb dX12_span_41 (lv_at hl 6 rfl) ?_
  refine lv_aload_n hx hb dX12_span_43 rfl (lv_at hl 0 rfl) ?_
  refine g_get (w := .ref (d_t 6)) F hB 0 rfl fl_RX12_33 rfl dX12_span_44 ?_
  refine lv_iconst (v := 0) hx hb dX12_span_47 (by decide) ?_
  refine g_iald F hB 1 rfl (vp_in_iff.mpr (by decide +kernel)) dX12_span_48 ?_
  refine W.eq (g2 := F0 m 49 ls [.int (r_t_s 0), .int x6]) rfl ?_
  refine lv_icmp_ge (tgt := 153) hx hb dX12_span_49 (by decide) (fun c_22 => ?_) (fun c_22 => ?_)
  · replace hf := hf.1 c_22
    exact hkx_41 _ _ _ _ _ _ _ hf hB (lv_sub hl [3, 4, 5] rfl)
  · replace hf := hf.2 c_22
    refine lv_aload_n hx hb dX12_span_52 rfl (lv_at hl 0 rfl) ?_
    refine lv_iload hx hb dX12_span_53 (lv_at hl 6 rfl) ?_
    refine k_vv (wr := []) (rest := []) F hA hB (c_LongTrainModel_free l D k a_t d_t i_t j_t r_t_s r_t_wagons x6 _  hf) ml_RX12_282 mv_yX12_free [0, 1, 2] [] rfl rfl (by decide) (by decide) (by decide) 0 rfl rfl rfl hl.1 rfl (Nat.le_of_ble_eq_true rfl) ⟨Nat.le_of_ble_eq_true rfl, Nat.le_of_ble_eq_true rfl⟩ ⟨Nat.le_of_ble_eq_true rfl, Nat.le_of_ble_eq_true rfl⟩ dX12_span_55 (fun w1 H locs hq hB => ?_)
    obtain ⟨i_t_8, r_t_wagons_9, rfl, hf⟩ := hq
    replace hB : Bd D A s.heap (wd_LongTrainModel_span k a_t d_t i_t_8 j_t r_t_s r_t_wagons_9) H locs := hB.sub [0, 1, 2] (by decide) rfl
    refine lv_iconst (v := 1) hx hb dX12_span_58 (by decide) ?_
    refine lv_istore (lv' := [(7, .int (1 : Int32)), (0, .ref a_t), (1, .int x1), (2, .int x2), (3, .int x3), (4, .int x4), (5, .int x5), (6, .int x6)]) hx hb dX12_span_59 hl (by decide) rfl (fun ls hl => ?_)
    refine lv_iconst (v := 0) hx hb dX12_span_61 (by decide) ?_
    refine lv_istore (lv' := [(8, .int (0 : Int32)), (7, .int (1 : Int32)), (0, .ref a_t), (1, .int x1), (2, .int x2), (3, .int x3), (4, .int x4), (5, .int x5), (6, .int x6)]) hx hb dX12_span_62 hl (by decide) rfl (fun ls hl => ?_)
    obtain ⟨n_21, hf⟩ := hf
    refine lt_LongTrainModel_span_64 F hr hlk hA (fun x7_13 H locs ls hf hB hl => ?_) n_21 _ _ _ _ _ hf hB (lv_sub hl [2, 3, 4, 5, 6, 7, 8, 1, 0] rfl)
    refine lv_iload_n hx hb dX12_span_95 rfl (lv_at hl 1 rfl) ?_
    refine lv_iload hx hb dX12_span_96 (lv_at hl 6 rfl) ?_
    refine lv_iload hx hb dX12_span_98 (lv_at hl 7 rfl) ?_
    refine lv_isub hx hb dX12_span_100 ?_
    refine lv_iconst (v := 1) hx hb dX12_span_101 (by decide) ?_
    refine lv_iadd hx hb dX12_span_102 ?_
    refine lv_iload hx hb dX12_span_103 (lv_at hl 6 rfl) ?_
    refine k_si (wr := [(a_t, ob 12 (rfd d_t) i_t_8 j_t), ((d_t 6), ai k 1068 r_t_s), ((d_t 22), ai k 20 r_t_wagons_9)]) (rest := []) F hA hB (c_LongTrainModel_isIn l D k x1 ((x6 - x7_13) + (1 : Int32)) x6 _  hf) ml_RX12_182 ms_yX12_isIn [] [0, 1, 2] rfl rfl (by decide) (by decide) (by decide) rfl hl.1 rfl (Nat.le_of_ble_eq_true rfl) ⟨Nat.le_of_ble_eq_true rfl, Nat.le_of_ble_eq_true rfl⟩ ⟨Nat.le_of_ble_eq_true rfl, Nat.le_of_ble_eq_true rfl⟩ dX12_span_105 (fun z_14 w1 H locs hq hB => ?_)
    obtain ⟨h_15, rfl, hf⟩ := hq
    replace hB : Bd D A s.heap (wd_LongTrainModel_span k a_t d_t i_t_8 j_t r_t_s r_t_wagons_9) H locs := hB.sub [0, 1, 2] (by decide) rfl
    refine lv_if_eq (tgt := 147) hx hb dX12_span_108 (by decide) (fun c_20 => ?_) (fun c_20 => ?_)
    · replace hf := hf.1 c_20
      refine lv_iinc (v := (x6 + 1)) (lv' := [(6, .int (x6 + 1)), (0, .ref a_t), (1, .int x1), (2, .int x2), (3, .int x3), (4, .int x4), (5, .int x5), (7, .int x7_13)]) (k := 6) hx hb dX12_span_147 hl rfl rfl (by decide) rfl (fun ls hl => ?_)
      refine lv_goto (tgt := 41) hx hb dX12_span_150 (by decide) ?_
      exact hkr_41 _ _ _ _ _ _ _ _ hf hB (lv_sub hl [1, 2, 3, 4, 5, 6, 0] rfl)
    · replace hf := hf.2 c_20
      refine lv_iload_n hx hb dX12_span_111 rfl (lv_at hl 2 rfl) ?_
      refine lv_iload hx hb dX12_span_112 (lv_at hl 6 rfl) ?_
      refine lv_iload hx hb dX12_span_114 (lv_at hl 7 rfl) ?_
      refine lv_isub hx hb dX12_span_116 ?_
      refine lv_iconst (v := 1) hx hb dX12_span_117 (by decide) ?_
      refine lv_iadd hx hb dX12_span_118 ?_
      refine lv_iload hx hb dX12_span_119 (lv_at hl 6 rfl) ?_
      refine k_si (wr := [(a_t, ob 12 (rfd d_t) i_t_8 j_t), ((d_t 6), ai k 1068 r_t_s), ((d_t 22), ai k 20 r_t_wagons_9)]) (rest := []) F hA hB (c_LongTrainModel_isIn l D k x2 ((x6 - x7_13) + (1 : Int32)) x6 _  hf) ml_RX12_182 ms_yX12_isIn [] [0, 1, 2] rfl rfl (by decide) (by decide) (by decide) rfl hl.1 rfl (Nat.le_of_ble_eq_true rfl) ⟨Nat.le_of_ble_eq_true rfl, Nat.le_of_ble_eq_true rfl⟩ ⟨Nat.le_of_ble_eq_true rfl, Nat.le_of_ble_eq_true rfl⟩ dX12_span_121 (fun z_16 w1 H locs hq hB => ?_)
      obtain ⟨h_17, rfl, hf⟩ := hq
      replace hB : Bd D A s.heap (wd_LongTrainModel_span k a_t d_t i_t_8 j_t r_t_s r_t_wagons_9) H locs := hB.sub [0, 1, 2] (by decide) rfl
      refine lv_if_ne (tgt := 130) hx hb dX12_span_124 (by decide) (fun c_19 => ?_) (fun c_19 => ?_)
      · replace hf := hf.1 c_19
        refine lv_iload hx hb dX12_span_130 (lv_at hl 4 rfl) ?_
        refine lv_if_ne (tgt := 140) hx hb dX12_span_132 (by decide) (fun c_18 => ?_) (fun c_18 => ?_)
        · replace hf := hf.1 c_18
          refine lv_iload hx hb dX12_span_140 (lv_at hl 5 rfl) ?_
          refine lv_istore (lv' := [(5, .int x5), (0, .ref a_t), (1, .int x1), (2, .int x2), (3, .int x3), (4, .int x4), (6, .int x6), (7, .int x7_13)]) hx hb dX12_span_142 hl (by decide) rfl (fun ls hl => ?_)
          refine lv_iinc (v := (x4 + 1)) (lv' := [(4, .int (x4 + 1)), (5, .int x5), (0, .ref a_t), (1, .int x1), (2, .int x2), (3, .int x3), (6, .int x6), (7, .int x7_13)]) (k := 5) hx hb dX12_span_144 hl rfl rfl (by decide) rfl (fun ls hl => ?_)
          refine lv_iinc (v := (x6 + 1)) (lv' := [(6, .int (x6 + 1)), (4, .int (x4 + 1)), (5, .int x5), (0, .ref a_t), (1, .int x1), (2, .int x2), (3, .int x3), (7, .int x7_13)]) (k := 6) hx hb dX12_span_147 hl rfl rfl (by decide) rfl (fun ls hl => ?_)
          refine lv_goto (tgt := 41) hx hb dX12_span_150 (by decide) ?_
          exact hkr_41 _ _ _ _ _ _ _ _ hf hB (lv_sub hl [3, 4, 5, 6, 1, 2, 0] rfl)
        · replace hf := hf.2 c_18
          refine lv_iload hx hb dX12_span_135 (lv_at hl 6 rfl) ?_
          refine lv_goto (tgt := 142) hx hb dX12_span_137 (by decide) ?_
          refine lv_istore (lv' := [(5, .int x6), (0, .ref a_t), (1, .int x1), (2, .int x2), (3, .int x3), (4, .int x4), (6, .int x6), (7, .int x7_13)]) hx hb dX12_span_142 hl (by decide) rfl (fun ls hl => ?_)
          refine lv_iinc (v := (x4 + 1)) (lv' := [(4, .int (x4 + 1)), (5, .int x6), (0, .ref a_t), (1, .int x1), (2, .int x2), (3, .int x3), (6, .int x6), (7, .int x7_13)]) (k := 5) hx hb dX12_span_144 hl rfl rfl (by decide) rfl (fun ls hl => ?_)
          refine lv_iinc (v := (x6 + 1)) (lv' := [(6, .int (x6 + 1)), (4, .int (x4 + 1)), (5, .int x6), (0, .ref a_t), (1, .int x1), (2, .int x2), (3, .int x3), (7, .int x7_13)]) (k := 6) hx hb dX12_span_147 hl rfl rfl (by decide) rfl (fun ls hl => ?_)
          refine lv_goto (tgt := 41) hx hb dX12_span_150 (by decide) ?_
          exact hkr_41 _ _ _ _ _ _ _ _ hf hB (lv_sub hl [3, 4, 5, 6, 1, 2, 0] rfl)
      · replace hf := hf.2 c_19
        refine lv_goto (tgt := 147) hx hb dX12_span_127 (by decide) ?_
        refine lv_iinc (v := (x6 + 1)) (lv' := [(6, .int (x6 + 1)), (0, .ref a_t), (1, .int x1), (2, .int x2), (3, .int x3), (4, .int x4), (5, .int x5), (7, .int x7_13)]) (k := 6) hx hb dX12_span_147 hl rfl rfl (by decide) rfl (fun ls hl => ?_)
        refine lv_goto (tgt := 41) hx hb dX12_span_150 (by decide) ?_
        exact hkr_41 _ _ _ _ _ _ _ _ hf hB (lv_sub hl [1, 2, 3, 4, 5, 6, 0] rfl)

set_option maxRecDepth 100000 in
set_option maxHeartbeats 4000000 in
theorem lt_LongTrainModel_span_41 {p : Program} {l : Launch} {e : Env} {s : State} {m : MethodId} {below : List Frame} {meth : Method} {c : Code} {A : Nat → Prop} {D : va_G} {k : Nat → ClassId} {a_t : Nat} {d_t : Nat → Nat} {j_t : Nat → Int64} {r_t_s : Nat → Int32} {n1 : Int32} {n2 : Int32} {n3 : Int32} {Q : Int32 → (Nat → Int32) → (Nat → Int32) → Prop}  {x1 : Int32} {x2 : Int32} {x3 : Int32} {kx_41 : (Int32) → (Int32) → (Nat → Int32) → (Nat → Int32) → Prop} (F : Fx p m c cX12_span 9 s ([.ref a_t, .int n1, .int n2, .int n3] : List Value).toArray RX12 D k) (hr : meth.sig.returnType = (some .int)) (hlk : meth.locks = false) (hA : ∀ q : Nat, s.heap.size ≤ q → A q) (hkx_41 : ∀ (x4 : Int32) (x5 : Int32) (i_t : Nat → Int32) (r_t_wagons : Nat → Int32) (H : Heap) (locs : List Loc) (ls : Array Slot), kx_41 x4 x5 i_t r_t_wagons → Bd D A s.heap (wd_LongTrainModel_span k a_t d_t i_t j_t r_t_s r_t_wagons) H locs → lv_has ls 9 [(3, .int x3), (4, .int x4), (5, .int x5)] → W p l e { frames := 2, cells := 0, slots := 0, locals := 44 } s m ([.ref a_t, .int n1, .int n2, .int n3] : List Value).toArray below meth c H locs 0 0 (Ei below (fun r w => ∃ (i_t : Nat → Int32), ∃ (r_t_wagons : Nat → Int32), w = (wd_LongTrainModel_span k a_t d_t i_t j_t r_t_s r_t_wagons) ∧ Q r i_t r_t_wagons) D k A ([.ref a_t, .int n1, .int n2, .int n3] : List Value).toArray s 0 0) (F0 m 153 ls [])) :
    ∀ n : Nat, ∀ (x4 : Int32) (x5 : Int32) (x6 : Int32) (i_t : Nat → Int32) (r_t_wagons : Nat → Int32) (H : Heap) (locs : List Loc) (ls : Array Slot), lp_LongTrainModel_span_41 r_t_s x1 x2 kx_41 n x4 x5 x6 i_t r_t_wagons → Bd D A s.heap (wd_LongTrainModel_span k a_t d_t i_t j_t r_t_s r_t_wagons) H locs → lv_has ls 9 [(0, .ref a_t), (1, .int x1), (2, .int x2), (3, .int x3), (4, .int x4), (5, .int x5), (6, .int x6)] → W p l e { frames := 2, cells := 0, slots := 0, locals := 44 } s m ([.ref a_t, .int n1, .int n2, .int n3] : List Value).toArray below meth c H locs 0 0 (Ei below (fun r w => ∃ (i_t : Nat → Int32), ∃ (r_t_wagons : Nat → Int32), w = (wd_LongTrainModel_span k a_t d_t i_t j_t r_t_s r_t_wagons) ∧ Q r i_t r_t_wagons) D k A ([.ref a_t, .int n1, .int n2, .int n3] : List Value).toArray s 0 0) (F0 m 41 ls []) := by
  intro n
  induction n with
  | zero => intro x4 x5 x6 i_t r_t_wagons H locs ls hf; exact absurd hf (fun h => h)
  | succ n ih => exact bt_LongTrainModel_span_41 F hr hlk hA hkx_41 ih

set_option maxRecDepth 100000 in
set_option maxHeartbeats 4000000 in
theorem c_LongTrainModel_span (l : Launch) (D : va_G) (k : Nat → ClassId) (a_t : Nat) (d_t : Nat → Nat) (i_t : Nat → Int32) (j_t : Nat → Int64) (r_t_s : Nat → Int32) (r_t_wagons : Nat → Int32) (n1 : Int32) (n2 : Int32) (n3 : Int32) (Q : Int32 → (Nat → Int32) → (Nat → Int32) → Prop)  (hf : w_LongTrainModel_span i_t r_t_s r_t_wagons n1 n2 n3 Q) : CtI l yX12_span cX12_span 9 (some .int) 2 44 0 0 D k [.ref a_t, .int n1, .int n2, .int n3] (wd_LongTrainModel_span k a_t d_t i_t j_t r_t_s r_t_wagons) (fun r w => ∃ (i_t : Nat → Int32), ∃ (r_t_wagons : Nat → Int32), w = (wd_LongTrainModel_span k a_t d_t i_t j_t r_t_s r_t_wagons) ∧ Q r i_t r_t_wagons) := by
  refine CtI.of (by decide) (Nat.le_of_ble_eq_true rfl) ?_
  intro p e s m below meth c A F hr hlk hnm hA hB ls hl
  have hx := F.x
  have hb := F.b
  unfold w_LongTrainModel_span at hf
  replace hl : lv_has ls 9 [(0, .ref a_t), (1, .int n1), (2, .int n2), (3, .int n3)] := hl
  refine lv_aload_n hx hb dX12_span_0 rfl (lv_at hl 0 rfl) ?_
  refine lv_iconst (v := 0) hx hb dX12_span_1 (by decide) ?_
  refine g_puti F hB 0 rfl fl_RX12_1 rfl (wd_LongTrainModel_span k a_t d_t (upd i_t 0 (0 : Int32)) j_t r_t_s r_t_wagons) rfl dX12_span_2 (fun H locs hB => ?_)
  refine lv_aload_n hx hb dX12_span_5 rfl (lv_at hl 0 rfl) ?_
  refine lv_iload_n hx hb dX12_span_6 rfl (lv_at hl 1 rfl) ?_
  refine k_vi (wr := [((d_t 22), ai k 20 r_t_wagons)]) (rest := []) F hA hB (c_LongTrainModel_isUnit l D k a_t d_t (upd i_t 0 (0 : Int32)) j_t r_t_s n1 _  hf) ml_RX12_291 mv_yX12_isUnit [0, 1] [2] rfl rfl (by decide) (by decide) (by decide) 0 rfl rfl rfl hl.1 rfl (Nat.le_of_ble_eq_true rfl) ⟨Nat.le_of_ble_eq_true rfl, Nat.le_of_ble_eq_true rfl⟩ ⟨Nat.le_of_ble_eq_true rfl, Nat.le_of_ble_eq_true rfl⟩ dX12_span_7 (fun z_1 w1 H locs hq hB => ?_)
  obtain ⟨h_2, rfl, hf⟩ := hq
  replace hB : Bd D A s.heap (wd_LongTrainModel_span k a_t d_t (upd i_t 0 (0 : Int32)) j_t r_t_s r_t_wagons) H locs := hB.sub [1, 2, 0] (by decide) rfl
  refine lv_if_eq (tgt := 30) hx hb dX12_span_10 (by decide) (fun c_31 => ?_) (fun c_31 => ?_)
  · replace hf := hf.1 c_31
    refine lv_iconst (v := -1) hx hb dX12_span_30 (by decide) ?_
    exact r_i F hr hlk hB ⟨_, _, rfl, hf⟩ dX12_span_31
  · replace hf := hf.2 c_31
    refine lv_aload_n hx hb dX12_span_13 rfl (lv_at hl 0 rfl) ?_
    refine lv_iload_n hx hb dX12_span_14 rfl (lv_at hl 2 rfl) ?_
    refine k_vi (wr := [((d_t 22), ai k 20 r_t_wagons)]) (rest := []) F hA hB (c_LongTrainModel_isUnit l D k a_t d_t (upd i_t 0 (0 : Int32)) j_t r_t_s n2 _  hf) ml_RX12_291 mv_yX12_isUnit [0, 1] [2] rfl rfl (by decide) (by decide) (by decide) 0 rfl rfl rfl hl.1 rfl (Nat.le_of_ble_eq_true rfl) ⟨Nat.le_of_ble_eq_true rfl, Nat.le_of_ble_eq_true rfl⟩ ⟨Nat.le_of_ble_eq_true rfl, Nat.le_of_ble_eq_true rfl⟩ dX12_span_15 (fun z_3 w1 H locs hq hB => ?_)
    obtain ⟨h_4, rfl, hf⟩ := hq
    replace hB : Bd D A s.heap (wd_LongTrainModel_span k a_t d_t (upd i_t 0 (0 : Int32)) j_t r_t_s r_t_wagons) H locs := hB.sub [1, 2, 0] (by decide) rfl
    refine lv_if_eq (tgt := 30) hx hb dX12_span_18 (by decide) (fun c_30 => ?_) (fun c_30 => ?_)
    · replace hf := hf.1 c_30
      refine lv_iconst (v := -1) hx hb dX12_span_30 (by decide) ?_
      exact r_i F hr hlk hB ⟨_, _, rfl, hf⟩ dX12_span_31
    · replace hf := hf.2 c_30
      refine lv_iload_n hx hb dX12_span_21 rfl (lv_at hl 3 rfl) ?_
      refine lv_iconst (v := 0) hx hb dX12_span_22 (by decide) ?_
      refine lv_iconst (v := 1) hx hb dX12_span_23 (by decide) ?_
      refine k_si (wr := [(a_t, ob 12 (rfd d_t) (upd i_t 0 (0 : Int32)) j_t), ((d_t 6), ai k 1068 r_t_s), ((d_t 22), ai k 20 r_t_wagons)]) (rest := []) F hA hB (c_LongTrainModel_isIn l D k n3 (0 : Int32) (1 : Int32) _  hf) ml_RX12_182 ms_yX12_isIn [] [0, 1, 2] rfl rfl (by decide) (by decide) (by decide) rfl hl.1 rfl (Nat.le_of_ble_eq_true rfl) ⟨Nat.le_of_ble_eq_true rfl, Nat.le_of_ble_eq_true rfl⟩ ⟨Nat.le_of_ble_eq_true rfl, Nat.le_of_ble_eq_true rfl⟩ dX12_span_24 (fun z_5 w1 H locs hq hB => ?_)
      obtain ⟨h_6, rfl, hf⟩ := hq
      replace hB : Bd D A s.heap (wd_LongTrainModel_span k a_t d_t (upd i_t 0 (0 : Int32)) j_t r_t_s r_t_wagons) H locs := hB.sub [0, 1, 2] (by decide) rfl
      refine lv_if_ne (tgt := 32) hx hb dX12_span_27 (by decide) (fun c_29 => ?_) (fun c_29 => ?_)
      · replace hf := hf.1 c_29
        refine lv_iconst (v := 0) hx hb dX12_span_32 (by decide) ?_
        refine lv_istore (lv' := [(4, .int (0 : Int32)), (0, .ref a_t), (1, .int n1), (2, .int n2), (3, .int n3)]) hx hb dX12_span_33 hl (by decide) rfl (fun ls hl => ?_)
        refine lv_iconst (v := -1) hx hb dX12_span_35 (by decide) ?_
        refine lv_istore (lv' := [(5, .int (-1 : Int32)), (4, .int (0 : Int32)), (0, .ref a_t), (1, .int n1), (2, .int n2), (3, .int n3)]) hx hb dX12_span_36 hl (by decide) rfl (fun ls hl => ?_)
        refine lv_iconst (v := 0) hx hb dX12_span_38 (by decide) ?_
        refine lv_istore (lv' := [(6, .int (0 : Int32)), (5, .int (-1 : Int32)), (4, .int (0 : Int32)), (0, .ref a_t), (1, .int n1), (2, .int n2), (3, .int n3)]) hx hb dX12_span_39 hl (by decide) rfl (fun ls hl => ?_)
        obtain ⟨n_28, hf⟩ := hf
        refine lt_LongTrainModel_span_41 F hr hlk hA (fun x4_23 x5_24 i_t_25 r_t_wagons_26 H locs ls hf hB hl => ?_) n_28 _ _ _ _ _ _ _ _ hf hB (lv_sub hl [3, 4, 5, 6, 2, 1, 0] rfl)
        refine lv_iload_n hx hb dX12_span_153 rfl (lv_at hl 0 rfl) ?_
        refine lv_if_ne (tgt := 162) hx hb dX12_span_154 (by decide) (fun c_27 => ?_) (fun c_27 => ?_)
        · replace hf := hf.1 c_27
          refine lv_iload hx hb dX12_span_162 (lv_at hl 2 rfl) ?_
          exact r_i F hr hlk hB ⟨_, _, rfl, hf⟩ dX12_span_164
        · replace hf := hf.2 c_27
          refine lv_iload hx hb dX12_span_157 (lv_at hl 1 rfl) ?_
          refine lv_goto (tgt := 164) hx hb dX12_span_159 (by decide) ?_
          exact r_i F hr hlk hB ⟨_, _, rfl, hf⟩ dX12_span_164
      · replace hf := hf.2 c_29
        refine lv_iconst (v := -1) hx hb dX12_span_30 (by decide) ?_
        exact r_i F hr hlk hB ⟨_, _, rfl, hf⟩ dX12_span_31

/-! LongTrainModel.areUnits -/
set_option maxRecDepth 100000 in
set_option maxHeartbeats 4000000 in
theorem c_LongTrainModel_areUnits (l : Launch) (D : va_G) (k : Nat → ClassId) (a_t : Nat) (d_t : Nat → Nat) (i_t : Nat → Int32) (j_t : Nat → Int64) (r_t_s : Nat → Int32) (n1 : Int32) (n2 : Int32) (Q : Int32 → Prop)  (hf : w_LongTrainModel_areUnits r_t_s n1 n2 Q) : CtI l yX12_areUnits cX12_areUnits 3 (some .boolean) 2 43 0 0 D k [.ref a_t, .int n1, .int n2] (wd_LongTrainModel_areUnits k a_t d_t i_t j_t r_t_s) (fun r w => (r = 0 ∨ r = 1) ∧ (w = (wd_LongTrainModel_areUnits k a_t d_t i_t j_t r_t_s) ∧ Q r)) := by
  refine CtI.of (by decide) (Nat.le_of_ble_eq_true rfl) ?_
  intro p e s m below meth c A F hr hlk hnm hA hB ls hl
  have hx := F.x
  have hb := F.b
  unfold w_LongTrainModel_areUnits at hf
  replace hl : lv_has ls 3 [(0, .ref a_t), (1, .int n1), (2, .int n2)] := hl
  refine lv_aload_n hx hb dX12_areUnits_0 rfl (lv_at hl 0 rfl) ?_
  refine lv_iload_n hx hb dX12_areUnits_1 rfl (lv_at hl 1 rfl) ?_
  refine k_vi (wr := []) (rest := []) F hA hB (c_LongTrainModel_isUnit l D k a_t d_t i_t j_t r_t_s n1 _  hf) ml_RX12_291 mv_yX12_isUnit [0, 1] [] rfl rfl (by decide) (by decide) (by decide) 0 rfl rfl rfl hl.1 rfl (Nat.le_of_ble_eq_true rfl) ⟨Nat.le_of_ble_eq_true rfl, Nat.le_of_ble_eq_true rfl⟩ ⟨Nat.le_of_ble_eq_true rfl, Nat.le_of_ble_eq_true rfl⟩ dX12_areUnits_2 (fun z_1 w1 H locs hq hB => ?_)
  obtain ⟨h_2, rfl, hf⟩ := hq
  replace hB : Bd D A s.heap (wd_LongTrainModel_areUnits k a_t d_t i_t j_t r_t_s) H locs := hB.sub [0, 1] (by decide) rfl
  refine lv_if_eq (tgt := 25) hx hb dX12_areUnits_5 (by decide) (fun c_7 => ?_) (fun c_7 => ?_)
  · replace hf := hf.1 c_7
    refine lv_iconst (v := 0) hx hb dX12_areUnits_25 (by decide) ?_
    exact r_z F hr hlk hB (Or.inl rfl) ⟨Or.inl rfl, rfl, hf⟩ dX12_areUnits_26
  · replace hf := hf.2 c_7
    refine lv_aload_n hx hb dX12_areUnits_8 rfl (lv_at hl 0 rfl) ?_
    refine lv_iload_n hx hb dX12_areUnits_9 rfl (lv_at hl 2 rfl) ?_
    refine k_vi (wr := []) (rest := []) F hA hB (c_LongTrainModel_isUnit l D k a_t d_t i_t j_t r_t_s n2 _  hf) ml_RX12_291 mv_yX12_isUnit [0, 1] [] rfl rfl (by decide) (by decide) (by decide) 0 rfl rfl rfl hl.1 rfl (Nat.le_of_ble_eq_true rfl) ⟨Nat.le_of_ble_eq_true rfl, Nat.le_of_ble_eq_true rfl⟩ ⟨Nat.le_of_ble_eq_true rfl, Nat.le_of_ble_eq_true rfl⟩ dX12_areUnits_10 (fun z_3 w1 H locs hq hB => ?_)
    obtain ⟨h_4, rfl, hf⟩ := hq
    replace hB : Bd D A s.heap (wd_LongTrainModel_areUnits k a_t d_t i_t j_t r_t_s) H locs := hB.sub [0, 1] (by decide) rfl
    refine lv_if_eq (tgt := 25) hx hb dX12_areUnits_13 (by decide) (fun c_6 => ?_) (fun c_6 => ?_)
    · replace hf := hf.1 c_6
      refine lv_iconst (v := 0) hx hb dX12_areUnits_25 (by decide) ?_
      exact r_z F hr hlk hB (Or.inl rfl) ⟨Or.inl rfl, rfl, hf⟩ dX12_areUnits_26
    · replace hf := hf.2 c_6
      refine lv_iload_n hx hb dX12_areUnits_16 rfl (lv_at hl 1 rfl) ?_
      refine lv_iload_n hx hb dX12_areUnits_17 rfl (lv_at hl 2 rfl) ?_
      refine lv_icmp_gt (tgt := 25) hx hb dX12_areUnits_18 (by decide) (fun c_5 => ?_) (fun c_5 => ?_)
      · replace hf := hf.1 c_5
        refine lv_iconst (v := 0) hx hb dX12_areUnits_25 (by decide) ?_
        exact r_z F hr hlk hB (Or.inl rfl) ⟨Or.inl rfl, rfl, hf⟩ dX12_areUnits_26
      · replace hf := hf.2 c_5
        refine lv_iconst (v := 1) hx hb dX12_areUnits_21 (by decide) ?_
        refine lv_goto (tgt := 26) hx hb dX12_areUnits_22 (by decide) ?_
        exact r_z F hr hlk hB (Or.inr rfl) ⟨Or.inr rfl, rfl, hf⟩ dX12_areUnits_26

/-! LongTrainModel.isRun -/
set_option maxRecDepth 100000 in
set_option maxHeartbeats 4000000 in
theorem c_LongTrainModel_isRun (l : Launch) (D : va_G) (k : Nat → ClassId)  (n0 : Int32) (Q : Int32 → Prop)  (hf : w_LongTrainModel_isRun n0 Q) : CtI l yX12_isRun cX12_isRun 1 (some .boolean) 1 22 0 0 D k [.int n0] [] (fun r w => (r = 0 ∨ r = 1) ∧ (w = ([] : va_W) ∧ Q r)) := by
  refine CtI.of (by decide) (Nat.le_of_ble_eq_true rfl) ?_
  intro p e s m below meth c A F hr hlk hnm hA hB ls hl
  have hx := F.x
  have hb := F.b
  unfold w_LongTrainModel_isRun at hf
  replace hl : lv_has ls 1 [(0, .int n0)] := hl
  refine lv_iload_n hx hb dX12_isRun_0 rfl (lv_at hl 0 rfl) ?_
  refine lv_iconst (v := 0) hx hb dX12_isRun_1 (by decide) ?_
  refine lv_ldcw (v := 99999) hx hb F.o (F.t _ cst_RX12_297) dX12_isRun_2 ?_
  refine k_si (wr := []) (rest := []) F hA hB (c_LongTrainModel_isIn l D k n0 (0 : Int32) (99999 : Int32) _  hf) ml_RX12_182 ms_yX12_isIn [] [] rfl rfl (by decide) (by decide) (by decide) rfl hl.1 rfl (Nat.le_of_ble_eq_true rfl) ⟨Nat.le_of_ble_eq_true rfl, Nat.le_of_ble_eq_true rfl⟩ ⟨Nat.le_of_ble_eq_true rfl, Nat.le_of_ble_eq_true rfl⟩ dX12_isRun_5 (fun z_1 w1 H locs hq hB => ?_)
  obtain ⟨h_2, rfl, hf⟩ := hq
  exact r_z F hr hlk hB (h_2) ⟨h_2, rfl, hf⟩ dX12_isRun_8

/-! LongTrainModel.comes -/
set_option maxRecDepth 100000 in
set_option maxHeartbeats 4000000 in
theorem bt_LongTrainModel_comes_8 {p : Program} {l : Launch} {e : Env} {s : State} {m : MethodId} {below : List Frame} {meth : Method} {c : Code} {A : Nat → Prop} {D : va_G} {k : Nat → ClassId} {a_t : Nat} {d_t : Nat → Nat} {j_t : Nat → Int64} {r_t_s : Nat → Int32} {n1 : Int32} {n2 : Int32} {n3 : Int32} {n4 : Int32} {Q : Int32 → (Nat → Int32) → (Nat → Int32) → (Nat → Int32) → (Nat → Int32) → Prop}  {x1 : Int32} {x2 : Int32} {x4 : Int32} {kx_8 : (Nat → Int32) → (Nat → Int32) → (Nat → Int32) → (Nat → Int32) → Prop} {kr_8 : (Int32) → (Int32) → (Nat → Int32) → (Nat → Int32) → (Nat → Int32) → (Nat → Int32) → Prop} (F : Fx p m c cX12_comes 7 s ([.ref a_t, .int n1, .int n2, .int n3, .int n4] : List Value).toArray RX12 D k) (hr : meth.sig.returnType = (some .int)) (hlk : meth.locks = false) (hA : ∀ q : Nat, s.heap.size ≤ q → A q) (hkx_8 : ∀ (i_t : Nat → Int32) (r_t_wagons : Nat → Int32) (r_t_foremost : Nat → Int32) (r_t_bears : Nat → Int32) (H : Heap) (locs : List Loc) (ls : Array Slot), kx_8 i_t r_t_wagons r_t_foremost r_t_bears → Bd D A s.heap (wd_LongTrainModel_comes k a_t d_t i_t j_t r_t_s r_t_wagons r_t_foremost r_t_bears) H locs → lv_has ls 7 [(2, .int x2)] → W p l e { frames := 3, cells := 0, slots := 0, locals := 66 } s m ([.ref a_t, .int n1, .int n2, .int n3, .int n4] : List Value).toArray below meth c H locs 0 0 (Ei below (fun r w => ∃ (i_t : Nat → Int32), ∃ (r_t_wagons : Nat → Int32), ∃ (r_t_foremost : Nat → Int32), ∃ (r_t_bears : Nat → Int32), w = (wd_LongTrainModel_comes k a_t d_t i_t j_t r_t_s r_t_wagons r_t_foremost r_t_bears) ∧ Q r i_t r_t_wagons r_t_foremost r_t_bears) D k A ([.ref a_t, .int n1, .int n2, .int n3, .int n4] : List Value).toArray s 0 0) (F0 m 73 ls [])) (hkr_8 : ∀ (x5 : Int32) (x6 : Int32) (i_t : Nat → Int32) (r_t_wagons : Nat → Int32) (r_t_foremost : Nat → Int32) (r_t_bears : Nat → Int32) (H : Heap) (locs : List Loc) (ls : Array Slot), kr_8 x5 x6 i_t r_t_wagons r_t_foremost r_t_bears → Bd D A s.heap (wd_LongTrainModel_comes k a_t d_t i_t j_t r_t_s r_t_wagons r_t_foremost r_t_bears) H locs → lv_has ls 7 [(0, .ref a_t), (1, .int x1), (2, .int x2), (4, .int x4), (5, .int x5), (6, .int x6)] → W p l e { frames := 3, cells := 0, slots := 0, locals := 66 } s m ([.ref a_t, .int n1, .int n2, .int n3, .int n4] : List Value).toArray below meth c H locs 0 0 (Ei below (fun r w => ∃ (i_t : Nat → Int32), ∃ (r_t_wagons : Nat → Int32), ∃ (r_t_foremost : Nat → Int32), ∃ (r_t_bears : Nat → Int32), w = (wd_LongTrainModel_comes k a_t d_t i_t j_t r_t_s r_t_wagons r_t_foremost r_t_bears) ∧ Q r i_t r_t_wagons r_t_foremost r_t_bears) D k A ([.ref a_t, .int n1, .int n2, .int n3, .int n4] : List Value).toArray s 0 0) (F0 m 8 ls [])) :
    ∀ (x5 : Int32) (x6 : Int32) (i_t : Nat → Int32) (r_t_wagons : Nat → Int32) (r_t_foremost : Nat → Int32) (r_t_bears : Nat → Int32) (H : Heap) (locs : List Loc) (ls : Array Slot), b_LongTrainModel_comes_8 r_t_s x1 x2 x4 Q kx_8 kr_8 x5 x6 i_t r_t_wagons r_t_foremost r_t_bears → Bd D A s.heap (wd_LongTrainModel_comes k a_t d_t i_t j_t r_t_s r_t_wagons r_t_foremost r_t_bears) H locs → lv_has ls 7 [(0, .ref a_t), (1, .int x1), (2, .int x2), (4, .int x4), (5, .int x5), (6, .int x6)] → W p l e { frames := 3, cells := 0, slots := 0, locals := 66 } s m ([.ref a_t, .int n1, .int n2, .int n3, .int n4] : List Value).toArray below meth c H locs 0 0 (Ei below (fun r w => ∃ (i_t : Nat → Int32), ∃ (r_t_wagons : Nat → Int32), ∃ (r_t_foremost : Nat → Int32), ∃ (r_t_bears : Nat → Int32), w = (wd_LongTrainModel_comes k a_t d_t i_t j_t r_t_s r_t_wagons r_t_foremost r_t_bears) ∧ Q r i_t r_t_wagons r_t_foremost r_t_bears) D k A ([.ref a_t, .int n1, .int n2, .int n3, .int n4] : List Value).toArray s 0 0) (F0 m 8 ls []) := by
  have hx := F.x
  have hb := F.b
  intro x5 x6 i_t r_t_wagons r_t_foremost r_t_bears H locs ls hf hB hl
  unfold b_LongTrainModel_comes_8 at hf
  refine lv_iload hx hb dX12_comes_8 (lv_at hl 5 rfl) ?_
  refine lv_iload_n hx hb dX12_comes_10 rfl (lv_at hl 2 rfl) ?_
  refine lv_icmp_gt (tgt := 73) hx hb dX12_comes_11 (by decide) (fun c_10 => ?_) (fun c_10 => ?_)
  · replace hf := hf.1 c_10
    exact hkx_8 _ _ _ _ _ _ _ hf hB (lv_sub hl [2] rfl)
  · replace hf := hf.2 c_10
    refine lv_aload_n hx hb dX12_comes_14 rfl (lv_at hl 0 rfl) ?_
    refine lv_iload hx hb dX12_comes_15 (lv_at hl 5 rfl) ?_
    refine k_vv (wr := []) (rest := []) F hA hB (c_LongTrainModel_freeAt l D k a_t d_t i_t j_t r_t_s r_t_wagons r_t_foremost r_t_bears x6 _  hf) ml_RX12_288 mv_yX12_freeAt [0, 1, 2, 3, 4] [] rfl rfl (by decide) (by decide) (by decide) 0 rfl rfl rfl hl.1 rfl (Nat.le_of_ble_eq_true rfl) ⟨Nat.le_of_ble_eq_true rfl, Nat.le_of_ble_eq_true rfl⟩ ⟨Nat.le_of_ble_eq_true rfl, Nat.le_of_ble_eq_true rfl⟩ dX12_comes_17 (fun w1 H locs hq hB => ?_)
    obtain ⟨i_t_1, r_t_wagons_2, r_t_foremost_3, r_t_bears_4, rfl, hf⟩ := hq
    replace hB : Bd D A s.heap (wd_LongTrainModel_comes k a_t d_t i_t_1 j_t r_t_s r_t_wagons_2 r_t_foremost_3 r_t_bears_4) H locs := hB.sub [0, 1, 2, 3, 4] (by decide) rfl
    refine lv_iload hx hb dX12_comes_20 (lv_at hl 4 rfl) ?_
    refine lv_aload_n hx hb dX12_comes_22 rfl (lv_at hl 0 rfl) ?_
    refine g_get (w := .ref (d_t 6)) F hB 0 rfl fl_RX12_33 rfl dX12_comes_23 ?_
    refine lv_iconst (v := 4) hx hb dX12_comes_26 (by decide) ?_
    refine g_iald F hB 1 rfl (vp_in_iff.mpr (by decide +kernel)) dX12_comes_27 ?_
    refine W.eq (g2 := F0 m 28 ls [.int (r_t_s 4), .int x5]) rfl ?_
    refine lv_aload_n hx hb dX12_comes_28 rfl (lv_at hl 0 rfl) ?_
    refine g_get (w := .int (i_t_1 28)) F hB 0 rfl fl_RX12_279 rfl dX12_comes_29 ?_
    refine lv_isub hx hb dX12_comes_32 ?_
    refine lv_iload hx hb dX12_comes_33 (lv_at hl 5 rfl) ?_
    refine lv_iload_n hx hb dX12_comes_35 rfl (lv_at hl 1 rfl) ?_
    refine lv_isub hx hb dX12_comes_36 ?_
    refine lv_iload hx hb dX12_comes_37 (lv_at hl 3 rfl) ?_
    refine lv_icmp_gt (tgt := 52) hx hb dX12_comes_39 (by decide) (fun c_9 => ?_) (fun c_9 => ?_)
    · replace hf := hf.1 c_9
      refine lv_iconst (v := 0) hx hb dX12_comes_52 (by decide) ?_
      refine lv_iadd hx hb dX12_comes_53 ?_
      refine lv_iadd hx hb dX12_comes_54 ?_
      refine lv_istore (lv' := [(5, .int (x5 + (((r_t_s 4) - (i_t_1 28)) + (0 : Int32)))), (0, .ref a_t), (1, .int x1), (2, .int x2), (4, .int x4), (6, .int x6)]) hx hb dX12_comes_55 hl (by decide) rfl (fun ls hl => ?_)
      refine lv_iload hx hb dX12_comes_57 (lv_at hl 0 rfl) ?_
      refine lv_if_ge (tgt := 67) hx hb dX12_comes_59 (by decide) (fun c_6 => ?_) (fun c_6 => ?_)
      · replace hf := hf.1 c_6
        refine lv_iinc (v := (x6 + 1)) (lv' := [(6, .int (x6 + 1)), (5, .int (x5 + (((r_t_s 4) - (i_t_1 28)) + (0 : Int32)))), (0, .ref a_t), (1, .int x1), (2, .int x2), (4, .int x4)]) (k := 5) hx hb dX12_comes_67 hl rfl rfl (by decide) rfl (fun ls hl => ?_)
        refine lv_goto (tgt := 8) hx hb dX12_comes_70 (by decide) ?_
        exact hkr_8 _ _ _ _ _ _ _ _ _ hf hB (lv_sub hl [2, 3, 4, 5, 1, 0] rfl)
      · replace hf := hf.2 c_6
        refine lv_iload hx hb dX12_comes_62 (lv_at hl 5 rfl) ?_
        refine lv_iconst (v := 1) hx hb dX12_comes_64 (by decide) ?_
        refine lv_isub hx hb dX12_comes_65 ?_
        exact r_i F hr hlk hB ⟨_, _, _, _, rfl, hf⟩ dX12_comes_66
    · replace hf := hf.2 c_9
      refine lv_aload_n hx hb dX12_comes_42 rfl (lv_at hl 0 rfl) ?_
      refine g_get (w := .ref (d_t 6)) F hB 0 rfl fl_RX12_33 rfl dX12_comes_43 ?_
      refine lv_bipush (v := 7) hx hb dX12_comes_46 (by decide) ?_
      refine g_iald F hB 1 rfl (vp_in_iff.mpr (by decide +kernel)) dX12_comes_48 ?_
      refine W.eq (g2 := F0 m 49 ls [.int (r_t_s 7), .int ((r_t_s 4) - (i_t_1 28)), .int x5]) rfl ?_
      refine lv_goto (tgt := 53) hx hb dX12_comes_49 (by decide) ?_
      refine lv_iadd hx hb dX12_comes_53 ?_
      refine lv_iadd hx hb dX12_comes_54 ?_
      refine lv_istore (lv' := [(5, .int (x5 + (((r_t_s 4) - (i_t_1 28)) + (r_t_s 7)))), (0, .ref a_t), (1, .int x1), (2, .int x2), (4, .int x4), (6, .int x6)]) hx hb dX12_comes_55 hl (by decide) rfl (fun ls hl => ?_)
      refine lv_iload hx hb dX12_comes_57 (lv_at hl 0 rfl) ?_
      refine lv_if_ge (tgt := 67) hx hb dX12_comes_59 (by decide) (fun c_8 => ?_) (fun c_8 => ?_)
      · replace hf := hf.1 c_8
        refine lv_iinc (v := (x6 + 1)) (lv' := [(6, .int (x6 + 1)), (5, .int (x5 + (((r_t_s 4) - (i_t_1 28)) + (r_t_s 7)))), (0, .ref a_t), (1, .int x1), (2, .int x2), (4, .int x4)]) (k := 5) hx hb dX12_comes_67 hl rfl rfl (by decide) rfl (fun ls hl => ?_)
        refine lv_goto (tgt := 8) hx hb dX12_comes_70 (by decide) ?_
        exact hkr_8 _ _ _ _ _ _ _ _ _ hf hB (lv_sub hl [2, 3, 4, 5, 1, 0] rfl)
      · replace hf := hf.2 c_8
        refine lv_iload hx hb dX12_comes_62 (lv_at hl 5 rfl) ?_
        refine lv_iconst (v := 1) hx hb dX12_comes_64 (by decide) ?_
        refine lv_isub hx hb dX12_comes_65 ?_
        exact r_i F hr hlk hB ⟨_, _, _, _, rfl, hf⟩ dX12_comes_66

set_option maxRecDepth 100000 in
set_option maxHeartbeats 4000000 in
theorem lt_LongTrainModel_comes_8 {p : Program} {l : Launch} {e : Env} {s : State} {m : MethodId} {below : List Frame} {meth : Method} {c : Code} {A : Nat → Prop} {D : va_G} {k : Nat → ClassId} {a_t : Nat} {d_t : Nat → Nat} {j_t : Nat → Int64} {r_t_s : Nat → Int32} {n1 : Int32} {n2 : Int32} {n3 : Int32} {n4 : Int32} {Q : Int32 → (Nat → Int32) → (Nat → Int32) → (Nat → Int32) → (Nat → Int32) → Prop}  {x1 : Int32} {x2 : Int32} {x4 : Int32} {kx_8 : (Nat → Int32) → (Nat → Int32) → (Nat → Int32) → (Nat → Int32) → Prop} (F : Fx p m c cX12_comes 7 s ([.ref a_t, .int n1, .int n2, .int n3, .int n4] : List Value).toArray RX12 D k) (hr : meth.sig.returnType = (some .int)) (hlk : meth.locks = false) (hA : ∀ q : Nat, s.heap.size ≤ q → A q) (hkx_8 : ∀ (i_t : Nat → Int32) (r_t_wagons : Nat → Int32) (r_t_foremost : Nat → Int32) (r_t_bears : Nat → Int32) (H : Heap) (locs : List Loc) (ls : Array Slot), kx_8 i_t r_t_wagons r_t_foremost r_t_bears → Bd D A s.heap (wd_LongTrainModel_comes k a_t d_t i_t j_t r_t_s r_t_wagons r_t_foremost r_t_bears) H locs → lv_has ls 7 [(2, .int x2)] → W p l e { frames := 3, cells := 0, slots := 0, locals := 66 } s m ([.ref a_t, .int n1, .int n2, .int n3, .int n4] : List Value).toArray below meth c H locs 0 0 (Ei below (fun r w => ∃ (i_t : Nat → Int32), ∃ (r_t_wagons : Nat → Int32), ∃ (r_t_foremost : Nat → Int32), ∃ (r_t_bears : Nat → Int32), w = (wd_LongTrainModel_comes k a_t d_t i_t j_t r_t_s r_t_wagons r_t_foremost r_t_bears) ∧ Q r i_t r_t_wagons r_t_foremost r_t_bears) D k A ([.ref a_t, .int n1, .int n2, .int n3, .int n4] : List Value).toArray s 0 0) (F0 m 73 ls [])) :
    ∀ n : Nat, ∀ (x5 : Int32) (x6 : Int32) (i_t : Nat → Int32) (r_t_wagons : Nat → Int32) (r_t_foremost : Nat → Int32) (r_t_bears : Nat → Int32) (H : Heap) (locs : List Loc) (ls : Array Slot), lp_LongTrainModel_comes_8 r_t_s x1 x2 x4 Q kx_8 n x5 x6 i_t r_t_wagons r_t_foremost r_t_bears → Bd D A s.heap (wd_LongTrainModel_comes k a_t d_t i_t j_t r_t_s r_t_wagons r_t_foremost r_t_bears) H locs → lv_has ls 7 [(0, .ref a_t), (1, .int x1), (2, .int x2), (4, .int x4), (5, .int x5), (6, .int x6)] → W p l e { frames := 3, cells := 0, slots := 0, locals := 66 } s m ([.ref a_t, .int n1, .int n2, .int n3, .int n4] : List Value).toArray below meth c H locs 0 0 (Ei below (fun r w => ∃ (i_t : Nat → Int32), ∃ (r_t_wagons : Nat → Int32), ∃ (r_t_foremost : Nat → Int32), ∃ (r_t_bears : Nat → Int32), w = (wd_LongTrainModel_comes k a_t d_t i_t j_t r_t_s r_t_wagons r_t_foremost r_t_bears) ∧ Q r i_t r_t_wagons r_t_foremost r_t_bears) D k A ([.ref a_t, .int n1, .int n2, .int n3, .int n4] : List Value).toArray s 0 0) (F0 m 8 ls []) := by
  intro n
  induction n with
  | zero => intro x5 x6 i_t r_t_wagons r_t_foremost r_t_bears H locs ls hf; exact absurd hf (fun h => h)
  | succ n ih => exact bt_LongTrainModel_comes_8 F hr hlk hA hkx_8 ih

set_option maxRecDepth 100000 in
set_option maxHeartbeats 4000000 in
theorem c_LongTrainModel_comes (l : Launch) (D : va_G) (k : Nat → ClassId) (a_t : Nat) (d_t : Nat → Nat) (i_t : Nat → Int32) (j_t : Nat → Int64) (r_t_s : Nat → Int32) (r_t_wagons : Nat → Int32) (r_t_foremost : Nat → Int32) (r_t_bears : Nat → Int32) (n1 : Int32) (n2 : Int32) (n3 : Int32) (n4 : Int32) (Q : Int32 → (Nat → Int32) → (Nat → Int32) → (Nat → Int32) → (Nat → Int32) → Prop)  (hf : w_LongTrainModel_comes i_t r_t_s r_t_wagons r_t_foremost r_t_bears n1 n2 n3 n4 Q) : CtI l yX12_comes cX12_comes 7 (some .int) 3 66 0 0 D k [.ref a_t, .int n1, .int n2, .int n3, .int n4] (wd_LongTrainModel_comes k a_t d_t i_t j_t r_t_s r_t_wagons r_t_foremost r_t_bears) (fun r w => ∃ (i_t : Nat → Int32), ∃ (r_t_wagons : Nat → Int32), ∃ (r_t_foremost : Nat → Int32), ∃ (r_t_bears : Nat → Int32), w = (wd_LongTrainModel_comes k a_t d_t i_t j_t r_t_s r_t_wagons r_t_foremost r_t_bears) ∧ Q r i_t r_t_wagons r_t_foremost r_t_bears) := by
  refine CtI.of (by decide) (Nat.le_of_ble_eq_true rfl) ?_
  intro p e s m below meth c A F hr hlk hnm hA hB ls hl
  have hx := F.x
  have hb := F.b
  unfold w_LongTrainModel_comes at hf
  replace hl : lv_has ls 7 [(0, .ref a_t), (1, .int n1), (2, .int n2), (3, .int n3), (4, .int n4)] := hl
  refine lv_iload_n hx hb dX12_comes_0 rfl (lv_at hl 3 rfl) ?_
  refine lv_istore (lv' := [(5, .int n3), (0, .ref a_t), (1, .int n1), (2, .int n2), (3, .int n3), (4, .int n4)]) hx hb dX12_comes_1 hl (by decide) rfl (fun ls hl => ?_)
  refine lv_iload_n hx hb dX12_comes_3 rfl (lv_at hl 2 rfl) ?_
  refine lv_iconst (v := 1) hx hb dX12_comes_4 (by decide) ?_
  refine lv_iadd hx hb dX12_comes_5 ?_
  refine lv_istore (lv' := [(6, .int (n1 + (1 : Int32))), (5, .int n3), (0, .ref a_t), (1, .int n1), (2, .int n2), (3, .int n3), (4, .int n4)]) hx hb dX12_comes_6 hl (by decide) rfl (fun ls hl => ?_)
  obtain ⟨n_15, hf⟩ := hf
  refine lt_LongTrainModel_comes_8 F hr hlk hA (fun i_t_11 r_t_wagons_12 r_t_foremost_13 r_t_bears_14 H locs ls hf hB hl => ?_) n_15 _ _ _ _ _ _ _ _ _ hf hB (lv_sub hl [2, 3, 4, 6, 1, 0] rfl)
  refine lv_iload_n hx hb dX12_comes_73 rfl (lv_at hl 0 rfl) ?_
  exact r_i F hr hlk hB ⟨_, _, _, _, rfl, hf⟩ dX12_comes_74

/-! LongTrainModel.climb -/
set_option maxRecDepth 100000 in
set_option maxHeartbeats 4000000 in
theorem c_LongTrainModel_climb (l : Launch) (D : va_G) (k : Nat → ClassId) (a_t : Nat) (d_t : Nat → Nat) (i_t : Nat → Int32) (j_t : Nat → Int64) (r_t_s : Nat → Int32) (r_t_wagons : Nat → Int32) (r_t_foremost : Nat → Int32) (r_t_bears : Nat → Int32) (n1 : Int32) (n2 : Int32) (n3 : Int32) (Q : Int32 → (Nat → Int32) → (Nat → Int32) → (Nat → Int32) → (Nat → Int32) → Prop)  (hf : w_LongTrainModel_climb i_t r_t_s r_t_wagons r_t_foremost r_t_bears n1 n2 n3 Q) : CtI l yX12_climb cX12_climb 4 (some .int) 4 92 0 0 D k [.ref a_t, .int n1, .int n2, .int n3] (wd_LongTrainModel_climb k a_t d_t i_t j_t r_t_s r_t_wagons r_t_foremost r_t_bears) (fun r w => ∃ (i_t : Nat → Int32), ∃ (r_t_wagons : Nat → Int32), ∃ (r_t_foremost : Nat → Int32), ∃ (r_t_bears : Nat → Int32), w = (wd_LongTrainModel_climb k a_t d_t i_t j_t r_t_s r_t_wagons r_t_foremost r_t_bears) ∧ Q r i_t r_t_wagons r_t_foremost r_t_bears) := by
  refine CtI.of (by decide) (Nat.le_of_ble_eq_true rfl) ?_
  intro p e s m below meth c A F hr hlk hnm hA hB ls hl
  have hx := F.x
  have hb := F.b
  unfold w_LongTrainModel_climb at hf
  replace hl : lv_has ls 4 [(0, .ref a_t), (1, .int n1), (2, .int n2), (3, .int n3)] := hl
  refine lv_aload_n hx hb dX12_climb_0 rfl (lv_at hl 0 rfl) ?_
  refine lv_iconst (v := 0) hx hb dX12_climb_1 (by decide) ?_
  refine g_puti F hB 0 rfl fl_RX12_1 rfl (wd_LongTrainModel_climb k a_t d_t (upd i_t 0 (0 : Int32)) j_t r_t_s r_t_wagons r_t_foremost r_t_bears) rfl dX12_climb_2 (fun H locs hB => ?_)
  refine lv_aload_n hx hb dX12_climb_5 rfl (lv_at hl 0 rfl) ?_
  refine lv_iload_n hx hb dX12_climb_6 rfl (lv_at hl 1 rfl) ?_
  refine lv_iload_n hx hb dX12_climb_7 rfl (lv_at hl 2 rfl) ?_
  refine k_vi (wr := [((d_t 22), ai k 20 r_t_wagons), ((d_t 23), ai k 20 r_t_foremost), ((d_t 24), ai k 20 r_t_bears)]) (rest := []) F hA hB (c_LongTrainModel_areUnits l D k a_t d_t (upd i_t 0 (0 : Int32)) j_t r_t_s n1 n2 _  hf) ml_RX12_298 mv_yX12_areUnits [0, 1] [2, 3, 4] rfl rfl (by decide) (by decide) (by decide) 0 rfl rfl rfl hl.1 rfl (Nat.le_of_ble_eq_true rfl) ⟨Nat.le_of_ble_eq_true rfl, Nat.le_of_ble_eq_true rfl⟩ ⟨Nat.le_of_ble_eq_true rfl, Nat.le_of_ble_eq_true rfl⟩ dX12_climb_8 (fun z_1 w1 H locs hq hB => ?_)
  obtain ⟨h_2, rfl, hf⟩ := hq
  replace hB : Bd D A s.heap (wd_LongTrainModel_climb k a_t d_t (upd i_t 0 (0 : Int32)) j_t r_t_s r_t_wagons r_t_foremost r_t_bears) H locs := hB.sub [3, 4, 0, 1, 2] (by decide) rfl
  refine lv_if_eq (tgt := 32) hx hb dX12_climb_11 (by decide) (fun c_11 => ?_) (fun c_11 => ?_)
  · replace hf := hf.1 c_11
    refine lv_iconst (v := -1) hx hb dX12_climb_32 (by decide) ?_
    exact r_i F hr hlk hB ⟨_, _, _, _, rfl, hf⟩ dX12_climb_33
  · replace hf := hf.2 c_11
    refine lv_iload_n hx hb dX12_climb_14 rfl (lv_at hl 3 rfl) ?_
    refine k_si (wr := [(a_t, ob 12 (rfd d_t) (upd i_t 0 (0 : Int32)) j_t), ((d_t 6), ai k 1068 r_t_s), ((d_t 22), ai k 20 r_t_wagons), ((d_t 23), ai k 20 r_t_foremost), ((d_t 24), ai k 20 r_t_bears)]) (rest := []) F hA hB (c_LongTrainModel_isRun l D k n3 _  hf) ml_RX12_301 ms_yX12_isRun [] [0, 1, 2, 3, 4] rfl rfl (by decide) (by decide) (by decide) rfl hl.1 rfl (Nat.le_of_ble_eq_true rfl) ⟨Nat.le_of_ble_eq_true rfl, Nat.le_of_ble_eq_true rfl⟩ ⟨Nat.le_of_ble_eq_true rfl, Nat.le_of_ble_eq_true rfl⟩ dX12_climb_15 (fun z_3 w1 H locs hq hB => ?_)
    obtain ⟨h_4, rfl, hf⟩ := hq
    replace hB : Bd D A s.heap (wd_LongTrainModel_climb k a_t d_t (upd i_t 0 (0 : Int32)) j_t r_t_s r_t_wagons r_t_foremost r_t_bears) H locs := hB.sub [0, 1, 2, 3, 4] (by decide) rfl
    refine lv_if_eq (tgt := 32) hx hb dX12_climb_18 (by decide) (fun c_10 => ?_) (fun c_10 => ?_)
    · replace hf := hf.1 c_10
      refine lv_iconst (v := -1) hx hb dX12_climb_32 (by decide) ?_
      exact r_i F hr hlk hB ⟨_, _, _, _, rfl, hf⟩ dX12_climb_33
    · replace hf := hf.2 c_10
      refine lv_aload_n hx hb dX12_climb_21 rfl (lv_at hl 0 rfl) ?_
      refine lv_iload_n hx hb dX12_climb_22 rfl (lv_at hl 1 rfl) ?_
      refine lv_iload_n hx hb dX12_climb_23 rfl (lv_at hl 2 rfl) ?_
      refine lv_iload_n hx hb dX12_climb_24 rfl (lv_at hl 3 rfl) ?_
      refine lv_iconst (v := 0) hx hb dX12_climb_25 (by decide) ?_
      refine k_vi (wr := []) (rest := []) F hA hB (c_LongTrainModel_comes l D k a_t d_t (upd i_t 0 (0 : Int32)) j_t r_t_s r_t_wagons r_t_foremost r_t_bears n1 n2 n3 (0 : Int32) _  hf) ml_RX12_304 mv_yX12_comes [0, 1, 2, 3, 4] [] rfl rfl (by decide) (by decide) (by decide) 0 rfl rfl rfl hl.1 rfl (Nat.le_of_ble_eq_true rfl) ⟨Nat.le_of_ble_eq_true rfl, Nat.le_of_ble_eq_true rfl⟩ ⟨Nat.le_of_ble_eq_true rfl, Nat.le_of_ble_eq_true rfl⟩ dX12_climb_26 (fun z_9 w1 H locs hq hB => ?_)
      obtain ⟨i_t_5, r_t_wagons_6, r_t_foremost_7, r_t_bears_8, rfl, hf⟩ := hq
      replace hB : Bd D A s.heap (wd_LongTrainModel_climb k a_t d_t i_t_5 j_t r_t_s r_t_wagons_6 r_t_foremost_7 r_t_bears_8) H locs := hB.sub [0, 1, 2, 3, 4] (by decide) rfl
      refine lv_goto (tgt := 33) hx hb dX12_climb_29 (by decide) ?_
      exact r_i F hr hlk hB ⟨_, _, _, _, rfl, hf⟩ dX12_climb_33

/-! LongTrainModel.needed -/
set_option maxRecDepth 100000 in
set_option maxHeartbeats 4000000 in
theorem bt_LongTrainModel_needed_26 {p : Program} {l : Launch} {e : Env} {s : State} {m : MethodId} {below : List Frame} {meth : Method} {c : Code} {A : Nat → Prop} {D : va_G} {k : Nat → ClassId} {a_t : Nat} {d_t : Nat → Nat} {j_t : Nat → Int64} {r_t_s : Nat → Int32} {n1 : Int32} {n2 : Int32} {Q : Int32 → (Nat → Int32) → (Nat → Int32) → (Nat → Int32) → (Nat → Int32) → Prop}  {x2 : Int32} {kx_26 : (Int32) → (Nat → Int32) → (Nat → Int32) → (Nat → Int32) → (Nat → Int32) → Prop} {kr_26 : (Int32) → (Int32) → (Int32) → (Nat → Int32) → (Nat → Int32) → (Nat → Int32) → (Nat → Int32) → Prop} (F : Fx p m c cX12_needed 6 s ([.ref a_t, .int n1, .int n2] : List Value).toArray RX12 D k) (hr : meth.sig.returnType = (some .int)) (hlk : meth.locks = false) (hA : ∀ q : Nat, s.heap.size ≤ q → A q) (hkx_26 : ∀ (x4 : Int32) (i_t : Nat → Int32) (r_t_wagons : Nat → Int32) (r_t_foremost : Nat → Int32) (r_t_bears : Nat → Int32) (H : Heap) (locs : List Loc) (ls : Array Slot), kx_26 x4 i_t r_t_wagons r_t_foremost r_t_bears → Bd D A s.heap (wd_LongTrainModel_needed k a_t d_t i_t j_t r_t_s r_t_wagons r_t_foremost r_t_bears) H locs → lv_has ls 6 [(4, .int x4)] → W p l e { frames := 3, cells := 0, slots := 0, locals := 66 } s m ([.ref a_t, .int n1, .int n2] : List Value).toArray below meth c H locs 0 0 (Ei below (fun r w => ∃ (i_t : Nat → Int32), ∃ (r_t_wagons : Nat → Int32), ∃ (r_t_foremost : Nat → Int32), ∃ (r_t_bears : Nat → Int32), w = (wd_LongTrainModel_needed k a_t d_t i_t j_t r_t_s r_t_wagons r_t_foremost r_t_bears) ∧ Q r i_t r_t_wagons r_t_foremost r_t_bears) D k A ([.ref a_t, .int n1, .int n2] : List Value).toArray s 0 0) (F0 m 74 ls [])) (hkr_26 : ∀ (x3 : Int32) (x4 : Int32) (x5 : Int32) (i_t : Nat → Int32) (r_t_wagons : Nat → Int32) (r_t_foremost : Nat → Int32) (r_t_bears : Nat → Int32) (H : Heap) (locs : List Loc) (ls : Array Slot), kr_26 x3 x4 x5 i_t r_t_wagons r_t_foremost r_t_bears → Bd D A s.heap (wd_LongTrainModel_needed k a_t d_t i_t j_t r_t_s r_t_wagons r_t_foremost r_t_bears) H locs → lv_has ls 6 [(0, .ref a_t), (2, .int x2), (3, .int x3), (4, .int x4), (5, .int x5)] → W p l e { frames := 3, cells := 0, slots := 0, locals := 66 } s m ([.ref a_t, .int n1, .int n2] : List Value).toArray below meth c H locs 0 0 (Ei below (fun r w => ∃ (i_t : Nat → Int32), ∃ (r_t_wagons : Nat → Int32), ∃ (r_t_foremost : Nat → Int32), ∃ (r_t_bears : Nat → Int32), w = (wd_LongTrainModel_needed k a_t d_t i_t j_t r_t_s r_t_wagons r_t_foremost r_t_bears) ∧ Q r i_t r_t_wagons r_t_foremost r_t_bears) D k A ([.ref a_t, .int n1, .int n2] : List Value).toArray s 0 0) (F0 m 26 ls [])) :
    ∀ (x3 : Int32) (x4 : Int32) (x5 : Int32) (i_t : Nat → Int32) (r_t_wagons : Nat → Int32) (r_t_foremost : Nat → Int32) (r_t_bears : Nat → Int32) (H : Heap) (locs : List Loc) (ls : Array Slot), b_LongTrainModel_needed_26 r_t_s x2 kx_26 kr_26 x3 x4 x5 i_t r_t_wagons r_t_foremost r_t_bears → Bd D A s.heap (wd_LongTrainModel_needed k a_t d_t i_t j_t r_t_s r_t_wagons r_t_foremost r_t_bears) H locs → lv_has ls 6 [(0, .ref a_t), (2, .int x2), (3, .int x3), (4, .int x4), (5, .int x5)] → W p l e { frames := 3, cells := 0, slots := 0, locals := 66 } s m ([.ref a_t, .int n1, .int n2] : List Value).toArray below meth c H locs 0 0 (Ei below (fun r w => ∃ (i_t : Nat → Int32), ∃ (r_t_wagons : Nat → Int32), ∃ (r_t_foremost : Nat → Int32), ∃ (r_t_bears : Nat → Int32), w = (wd_LongTrainModel_needed k a_t d_t i_t j_t r_t_s r_t_wagons r_t_foremost r_t_bears) ∧ Q r i_t r_t_wagons r_t_foremost r_t_bears) D k A ([.ref a_t, .int n1, .int n2] : List Value).toArray s 0 0) (F0 m 26 ls []) := by
  have hx := F.x
  have hb := F.b
  intro x3 x4 x5 i_t r_t_wagons r_t_foremost r_t_bears H locs ls hf hB hl
  unfold b_LongTrainModel_needed_26 at hf
  refine lv_iload hx hb dX12_needed_26 (lv_at hl 4 rfl) ?_
  refine lv_iload_n hx hb dX12_needed_28 rfl (lv_at hl 1 rfl) ?_
  refine lv_icmp_gt (tgt := 74) hx hb dX12_needed_29 (by decide) (fun c_9 => ?_) (fun c_9 => ?_)
  · replace hf := hf.1 c_9
    exact hkx_26 _ _ _ _ _ _ _ _ hf hB (lv_sub hl [3] rfl)
  · replace hf := hf.2 c_9
    refine lv_aload_n hx hb dX12_needed_32 rfl (lv_at hl 0 rfl) ?_
    refine lv_iload hx hb dX12_needed_33 (lv_at hl 4 rfl) ?_
    refine k_vv (wr := []) (rest := []) F hA hB (c_LongTrainModel_freeAt l D k a_t d_t i_t j_t r_t_s r_t_wagons r_t_foremost r_t_bears x5 _  hf) ml_RX12_288 mv_yX12_freeAt [0, 1, 2, 3, 4] [] rfl rfl (by decide) (by decide) (by decide) 0 rfl rfl rfl hl.1 rfl (Nat.le_of_ble_eq_true rfl) ⟨Nat.le_of_ble_eq_true rfl, Nat.le_of_ble_eq_true rfl⟩ ⟨Nat.le_of_ble_eq_true rfl, Nat.le_of_ble_eq_true rfl⟩ dX12_needed_35 (fun w1 H locs hq hB => ?_)
    obtain ⟨i_t_3, r_t_wagons_4, r_t_foremost_5, r_t_bears_6, rfl, hf⟩ := hq
    replace hB : Bd D A s.heap (wd_LongTrainModel_needed k a_t d_t i_t_3 j_t r_t_s r_t_wagons_4 r_t_foremost_5 r_t_bears_6) H locs := hB.sub [0, 1, 2, 3, 4] (by decide) rfl
    refine lv_iload_n hx hb dX12_needed_38 rfl (lv_at hl 2 rfl) ?_
    refine lv_aload_n hx hb dX12_needed_39 rfl (lv_at hl 0 rfl) ?_
    refine g_get (w := .ref (d_t 6)) F hB 0 rfl fl_RX12_33 rfl dX12_needed_40 ?_
    refine lv_iconst (v := 4) hx hb dX12_needed_43 (by decide) ?_
    refine g_iald F hB 1 rfl (vp_in_iff.mpr (by decide +kernel)) dX12_needed_44 ?_
    refine W.eq (g2 := F0 m 45 ls [.int (r_t_s 4), .int x3]) rfl ?_
    refine lv_aload_n hx hb dX12_needed_45 rfl (lv_at hl 0 rfl) ?_
    refine g_get (w := .int (i_t_3 28)) F hB 0 rfl fl_RX12_279 rfl dX12_needed_46 ?_
    refine lv_isub hx hb dX12_needed_49 ?_
    refine lv_iadd hx hb dX12_needed_50 ?_
    refine lv_istore_n (lv' := [(3, .int (x3 + ((r_t_s 4) - (i_t_3 28)))), (0, .ref a_t), (2, .int x2), (4, .int x4), (5, .int x5)]) hx hb dX12_needed_51 rfl hl (by decide) rfl (fun ls hl => ?_)
    refine lv_iload_n hx hb dX12_needed_52 rfl (lv_at hl 0 rfl) ?_
    refine lv_ineg hx hb dX12_needed_53 ?_
    refine lv_iload hx hb dX12_needed_54 (lv_at hl 3 rfl) ?_
    refine lv_icmp_le (tgt := 64) hx hb dX12_needed_56 (by decide) (fun c_8 => ?_) (fun c_8 => ?_)
    · replace hf := hf.1 c_8
      refine lv_iload hx hb dX12_needed_64 (lv_at hl 3 rfl) ?_
      refine lv_istore (lv' := [(4, .int x4), (3, .int (x3 + ((r_t_s 4) - (i_t_3 28)))), (0, .ref a_t), (2, .int x2), (5, .int x5)]) hx hb dX12_needed_66 hl (by decide) rfl (fun ls hl => ?_)
      refine lv_iinc (v := (x5 + 1)) (lv' := [(5, .int (x5 + 1)), (4, .int x4), (3, .int (x3 + ((r_t_s 4) - (i_t_3 28)))), (0, .ref a_t), (2, .int x2)]) (k := 4) hx hb dX12_needed_68 hl rfl rfl (by decide) rfl (fun ls hl => ?_)
      refine lv_goto (tgt := 26) hx hb dX12_needed_71 (by decide) ?_
      exact hkr_26 _ _ _ _ _ _ _ _ _ _ hf hB (lv_sub hl [3, 4, 2, 1, 0] rfl)
    · replace hf := hf.2 c_8
      refine lv_iload_n hx hb dX12_needed_59 rfl (lv_at hl 0 rfl) ?_
      refine lv_ineg hx hb dX12_needed_60 ?_
      refine lv_goto (tgt := 66) hx hb dX12_needed_61 (by decide) ?_
      refine lv_istore (lv' := [(4, .int (-(x3 + ((r_t_s 4) - (i_t_3 28))))), (3, .int (x3 + ((r_t_s 4) - (i_t_3 28)))), (0, .ref a_t), (2, .int x2), (5, .int x5)]) hx hb dX12_needed_66 hl (by decide) rfl (fun ls hl => ?_)
      refine lv_iinc (v := (x5 + 1)) (lv' := [(5, .int (x5 + 1)), (4, .int (-(x3 + ((r_t_s 4) - (i_t_3 28))))), (3, .int (x3 + ((r_t_s 4) - (i_t_3 28)))), (0, .ref a_t), (2, .int x2)]) (k := 4) hx hb dX12_needed_68 hl rfl rfl (by decide) rfl (fun ls hl => ?_)
      refine lv_goto (tgt := 26) hx hb dX12_needed_71 (by decide) ?_
      exact hkr_26 _ _ _ _ _ _ _ _ _ _ hf hB (lv_sub hl [3, 4, 2, 1, 0] rfl)

set_option maxRecDepth 100000 in
set_option maxHeartbeats 4000000 in
theorem lt_LongTrainModel_needed_26 {p : Program} {l : Launch} {e : Env} {s : State} {m : MethodId} {below : List Frame} {meth : Method} {c : Code} {A : Nat → Prop} {D : va_G} {k : Nat → ClassId} {a_t : Nat} {d_t : Nat → Nat} {j_t : Nat → Int64} {r_t_s : Nat → Int32} {n1 : Int32} {n2 : Int32} {Q : Int32 → (Nat → Int32) → (Nat → Int32) → (Nat → Int32) → (Nat → Int32) → Prop}  {x2 : Int32} {kx_26 : (Int32) → (Nat → Int32) → (Nat → Int32) → (Nat → Int32) → (Nat → Int32) → Prop} (F : Fx p m c cX12_needed 6 s ([.ref a_t, .int n1, .int n2] : List Value).toArray RX12 D k) (hr : meth.sig.returnType = (some .int)) (hlk : meth.locks = false) (hA : ∀ q : Nat, s.heap.size ≤ q → A q) (hkx_26 : ∀ (x4 : Int32) (i_t : Nat → Int32) (r_t_wagons : Nat → Int32) (r_t_foremost : Nat → Int32) (r_t_bears : Nat → Int32) (H : Heap) (locs : List Loc) (ls : Array Slot), kx_26 x4 i_t r_t_wagons r_t_foremost r_t_bears → Bd D A s.heap (wd_LongTrainModel_needed k a_t d_t i_t j_t r_t_s r_t_wagons r_t_foremost r_t_bears) H locs → lv_has ls 6 [(4, .int x4)] → W p l e { frames := 3, cells := 0, slots := 0, locals := 66 } s m ([.ref a_t, .int n1, .int n2] : List Value).toArray below meth c H locs 0 0 (Ei below (fun r w => ∃ (i_t : Nat → Int32), ∃ (r_t_wagons : Nat → Int32), ∃ (r_t_foremost : Nat → Int32), ∃ (r_t_bears : Nat → Int32), w = (wd_LongTrainModel_needed k a_t d_t i_t j_t r_t_s r_t_wagons r_t_foremost r_t_bears) ∧ Q r i_t r_t_wagons r_t_foremost r_t_bears) D k A ([.ref a_t, .int n1, .int n2] : List Value).toArray s 0 0) (F0 m 74 ls [])) :
    ∀ n : Nat, ∀ (x3 : Int32) (x4 : Int32) (x5 : Int32) (i_t : Nat → Int32) (r_t_wagons : Nat → Int32) (r_t_foremost : Nat → Int32) (r_t_bears : Nat → Int32) (H : Heap) (locs : List Loc) (ls : Array Slot), lp_LongTrainModel_needed_26 r_t_s x2 kx_26 n x3 x4 x5 i_t r_t_wagons r_t_foremost r_t_bears → Bd D A s.heap (wd_LongTrainModel_needed k a_t d_t i_t j_t r_t_s r_t_wagons r_t_foremost r_t_bears) H locs → lv_has ls 6 [(0, .ref a_t), (2, .int x2), (3, .int x3), (4, .int x4), (5, .int x5)] → W p l e { frames := 3, cells := 0, slots := 0, locals := 66 } s m ([.ref a_t, .int n1, .int n2] : List Value).toArray below meth c H locs 0 0 (Ei below (fun r w => ∃ (i_t : Nat → Int32), ∃ (r_t_wagons : Nat → Int32), ∃ (r_t_foremost : Nat → Int32), ∃ (r_t_bears : Nat → Int32), w = (wd_LongTrainModel_needed k a_t d_t i_t j_t r_t_s r_t_wagons r_t_foremost r_t_bears) ∧ Q r i_t r_t_wagons r_t_foremost r_t_bears) D k A ([.ref a_t, .int n1, .int n2] : List Value).toArray s 0 0) (F0 m 26 ls []) := by
  intro n
  induction n with
  | zero => intro x3 x4 x5 i_t r_t_wagons r_t_foremost r_t_bears H locs ls hf; exact absurd hf (fun h => h)
  | succ n ih => exact bt_LongTrainModel_needed_26 F hr hlk hA hkx_26 ih

set_option maxRecDepth 100000 in
set_option maxHeartbeats 4000000 in
theorem c_LongTrainModel_needed (l : Launch) (D : va_G) (k : Nat → ClassId) (a_t : Nat) (d_t : Nat → Nat) (i_t : Nat → Int32) (j_t : Nat → Int64) (r_t_s : Nat → Int32) (r_t_wagons : Nat → Int32) (r_t_foremost : Nat → Int32) (r_t_bears : Nat → Int32) (n1 : Int32) (n2 : Int32) (Q : Int32 → (Nat → Int32) → (Nat → Int32) → (Nat → Int32) → (Nat → Int32) → Prop)  (hf : w_LongTrainModel_needed i_t r_t_s r_t_wagons r_t_foremost r_t_bears n1 n2 Q) : CtI l yX12_needed cX12_needed 6 (some .int) 3 66 0 0 D k [.ref a_t, .int n1, .int n2] (wd_LongTrainModel_needed k a_t d_t i_t j_t r_t_s r_t_wagons r_t_foremost r_t_bears) (fun r w => ∃ (i_t : Nat → Int32), ∃ (r_t_wagons : Nat → Int32), ∃ (r_t_foremost : Nat → Int32), ∃ (r_t_bears : Nat → Int32), w = (wd_LongTrainModel_needed k a_t d_t i_t j_t r_t_s r_t_wagons r_t_foremost r_t_bears) ∧ Q r i_t r_t_wagons r_t_foremost r_t_bears) := by
  refine CtI.of (by decide) (Nat.le_of_ble_eq_true rfl) ?_
  intro p e s m below meth c A F hr hlk hnm hA hB ls hl
  have hx := F.x
  have hb := F.b
  unfold w_LongTrainModel_needed at hf
  replace hl : lv_has ls 6 [(0, .ref a_t), (1, .int n1), (2, .int n2)] := hl
  refine lv_aload_n hx hb dX12_needed_0 rfl (lv_at hl 0 rfl) ?_
  refine lv_iconst (v := 0) hx hb dX12_needed_1 (by decide) ?_
  refine g_puti F hB 0 rfl fl_RX12_1 rfl (wd_LongTrainModel_needed k a_t d_t (upd i_t 0 (0 : Int32)) j_t r_t_s r_t_wagons r_t_foremost r_t_bears) rfl dX12_needed_2 (fun H locs hB => ?_)
  refine lv_aload_n hx hb dX12_needed_5 rfl (lv_at hl 0 rfl) ?_
  refine lv_iload_n hx hb dX12_needed_6 rfl (lv_at hl 1 rfl) ?_
  refine lv_iload_n hx hb dX12_needed_7 rfl (lv_at hl 2 rfl) ?_
  refine k_vi (wr := [((d_t 22), ai k 20 r_t_wagons), ((d_t 23), ai k 20 r_t_foremost), ((d_t 24), ai k 20 r_t_bears)]) (rest := []) F hA hB (c_LongTrainModel_areUnits l D k a_t d_t (upd i_t 0 (0 : Int32)) j_t r_t_s n1 n2 _  hf) ml_RX12_298 mv_yX12_areUnits [0, 1] [2, 3, 4] rfl rfl (by decide) (by decide) (by decide) 0 rfl rfl rfl hl.1 rfl (Nat.le_of_ble_eq_true rfl) ⟨Nat.le_of_ble_eq_true rfl, Nat.le_of_ble_eq_true rfl⟩ ⟨Nat.le_of_ble_eq_true rfl, Nat.le_of_ble_eq_true rfl⟩ dX12_needed_8 (fun z_1 w1 H locs hq hB => ?_)
  obtain ⟨h_2, rfl, hf⟩ := hq
  replace hB : Bd D A s.heap (wd_LongTrainModel_needed k a_t d_t (upd i_t 0 (0 : Int32)) j_t r_t_s r_t_wagons r_t_foremost r_t_bears) H locs := hB.sub [3, 4, 0, 1, 2] (by decide) rfl
  refine lv_if_ne (tgt := 16) hx hb dX12_needed_11 (by decide) (fun c_16 => ?_) (fun c_16 => ?_)
  · replace hf := hf.1 c_16
    refine lv_iconst (v := 0) hx hb dX12_needed_16 (by decide) ?_
    refine lv_istore_n (lv' := [(3, .int (0 : Int32)), (0, .ref a_t), (1, .int n1), (2, .int n2)]) hx hb dX12_needed_17 rfl hl (by decide) rfl (fun ls hl => ?_)
    refine lv_iconst (v := 0) hx hb dX12_needed_18 (by decide) ?_
    refine lv_istore (lv' := [(4, .int (0 : Int32)), (3, .int (0 : Int32)), (0, .ref a_t), (1, .int n1), (2, .int n2)]) hx hb dX12_needed_19 hl (by decide) rfl (fun ls hl => ?_)
    refine lv_iload_n hx hb dX12_needed_21 rfl (lv_at hl 3 rfl) ?_
    refine lv_iconst (v := 1) hx hb dX12_needed_22 (by decide) ?_
    refine lv_iadd hx hb dX12_needed_23 ?_
    refine lv_istore (lv' := [(5, .int (n1 + (1 : Int32))), (4, .int (0 : Int32)), (3, .int (0 : Int32)), (0, .ref a_t), (1, .int n1), (2, .int n2)]) hx hb dX12_needed_24 hl (by decide) rfl (fun ls hl => ?_)
    obtain ⟨n_15, hf⟩ := hf
    refine lt_LongTrainModel_needed_26 F hr hlk hA (fun x4_10 i_t_11 r_t_wagons_12 r_t_foremost_13 r_t_bears_14 H locs ls hf hB hl => ?_) n_15 _ _ _ _ _ _ _ _ _ _ hf hB (lv_sub hl [3, 5, 2, 1, 0] rfl)
    refine lv_iload hx hb dX12_needed_74 (lv_at hl 0 rfl) ?_
    exact r_i F hr hlk hB ⟨_, _, _, _, rfl, hf⟩ dX12_needed_76
  · replace hf := hf.2 c_16
    refine lv_iconst (v := -1) hx hb dX12_needed_14 (by decide) ?_
    exact r_i F hr hlk hB ⟨_, _, _, _, rfl, hf⟩ dX12_needed_15

/-! LongTrainModel.sanded -/
set_option maxRecDepth 100000 in
set_option maxHeartbeats 4000000 in
theorem bt_LongTrainModel_sanded_26 {p : Program} {l : Launch} {e : Env} {s : State} {m : MethodId} {below : List Frame} {meth : Method} {c : Code} {A : Nat → Prop} {D : va_G} {k : Nat → ClassId} {a_t : Nat} {d_t : Nat → Nat} {j_t : Nat → Int64} {r_t_s : Nat → Int32} {n1 : Int32} {n2 : Int32} {n3 : Int32} {Q : Int32 → (Nat → Int32) → (Nat → Int32) → (Nat → Int32) → (Nat → Int32) → Prop}  {x1 : Int32} {x2 : Int32} {x3 : Int32} {kx_26 : (Nat → Int32) → (Nat → Int32) → (Nat → Int32) → (Nat → Int32) → Prop} {kr_26 : (Int32) → (Nat → Int32) → (Nat → Int32) → (Nat → Int32) → (Nat → Int32) → Prop} (F : Fx p m c cX12_sanded 5 s ([.ref a_t, .int n1, .int n2, .int n3] : List Value).toArray RX12 D k) (hr : meth.sig.returnType = (some .int)) (hlk : meth.locks = false) (hA : ∀ q : Nat, s.heap.size ≤ q → A q) (hkx_26 : ∀ (i_t : Nat → Int32) (r_t_wagons : Nat → Int32) (r_t_foremost : Nat → Int32) (r_t_bears : Nat → Int32) (H : Heap) (locs : List Loc) (ls : Array Slot), kx_26 i_t r_t_wagons r_t_foremost r_t_bears → Bd D A s.heap (wd_LongTrainModel_sanded k a_t d_t i_t j_t r_t_s r_t_wagons r_t_foremost r_t_bears) H locs → lv_has ls 5 [] → W p l e { frames := 4, cells := 0, slots := 0, locals := 92 } s m ([.ref a_t, .int n1, .int n2, .int n3] : List Value).toArray below meth c H locs 0 0 (Ei below (fun r w => ∃ (i_t : Nat → Int32), ∃ (r_t_wagons : Nat → Int32), ∃ (r_t_foremost : Nat → Int32), ∃ (r_t_bears : Nat → Int32), w = (wd_LongTrainModel_sanded k a_t d_t i_t j_t r_t_s r_t_wagons r_t_foremost r_t_bears) ∧ Q r i_t r_t_wagons r_t_foremost r_t_bears) D k A ([.ref a_t, .int n1, .int n2, .int n3] : List Value).toArray s 0 0) (F0 m 56 ls [])) (hkr_26 : ∀ (x4 : Int32) (i_t : Nat → Int32) (r_t_wagons : Nat → Int32) (r_t_foremost : Nat → Int32) (r_t_bears : Nat → Int32) (H : Heap) (locs : List Loc) (ls : Array Slot), kr_26 x4 i_t r_t_wagons r_t_foremost r_t_bears → Bd D A s.heap (wd_LongTrainModel_sanded k a_t d_t i_t j_t r_t_s r_t_wagons r_t_foremost r_t_bears) H locs → lv_has ls 5 [(0, .ref a_t), (1, .int x1), (2, .int x2), (3, .int x3), (4, .int x4)] → W p l e { frames := 4, cells := 0, slots := 0, locals := 92 } s m ([.ref a_t, .int n1, .int n2, .int n3] : List Value).toArray below meth c H locs 0 0 (Ei below (fun r w => ∃ (i_t : Nat → Int32), ∃ (r_t_wagons : Nat → Int32), ∃ (r_t_foremost : Nat → Int32), ∃ (r_t_bears : Nat → Int32), w = (wd_LongTrainModel_sanded k a_t d_t i_t j_t r_t_s r_t_wagons r_t_foremost r_t_bears) ∧ Q r i_t r_t_wagons r_t_foremost r_t_bears) D k A ([.ref a_t, .int n1, .int n2, .int n3] : List Value).toArray s 0 0) (F0 m 26 ls [])) :
    ∀ (x4 : Int32) (i_t : Nat → Int32) (r_t_wagons : Nat → Int32) (r_t_foremost : Nat → Int32) (r_t_bears : Nat → Int32) (H : Heap) (locs : List Loc) (ls : Array Slot), b_LongTrainModel_sanded_26 r_t_s x1 x2 x3 Q kx_26 kr_26 x4 i_t r_t_wagons r_t_foremost r_t_bears → Bd D A s.heap (wd_LongTrainModel_sanded k a_t d_t i_t j_t r_t_s r_t_wagons r_t_foremost r_t_bears) H locs → lv_has ls 5 [(0, .ref a_t), (1, .int x1), (2, .int x2), (3, .int x3), (4, .int x4)] → W p l e { frames := 4, cells := 0, slots := 0, locals := 92 } s m ([.ref a_t, .int n1, .int n2, .int n3] : List Value).toArray below meth c H locs 0 0 (Ei below (fun r w => ∃ (i_t : Nat → Int32), ∃ (r_t_wagons : Nat → Int32), ∃ (r_t_foremost : Nat → Int32), ∃ (r_t_bears : Nat → Int32), w = (wd_LongTrainModel_sanded k a_t d_t i_t j_t r_t_s r_t_wagons r_t_foremost r_t_bears) ∧ Q r i_t r_t_wagons r_t_foremost r_t_bears) D k A ([.ref a_t, .int n1, .int n2, .int n3] : List Value).toArray s 0 0) (F0 m 26 ls []) := by
  have hx := F.x
  have hb := F.b
  intro x4 i_t r_t_wagons r_t_foremost r_t_bears H locs ls hf hB hl
  unfold b_LongTrainModel_sanded_26 at hf
  refine lv_iload hx hb dX12_sanded_26 (lv_at hl 4 rfl) ?_
  refine lv_iload_n hx hb dX12_sanded_28 rfl (lv_at hl 2 rfl) ?_
  refine lv_iload_n hx hb dX12_sanded_29 rfl (lv_at hl 1 rfl) ?_
  refine lv_isub hx hb dX12_sanded_30 ?_
  refine lv_icmp_gt (tgt := 56) hx hb dX12_sanded_31 (by decide) (fun c_11 => ?_) (fun c_11 => ?_)
  · replace hf := hf.1 c_11
    exact hkx_26 _ _ _ _ _ _ _ hf hB (lv_sub hl [] rfl)
  · replace hf := hf.2 c_11
    refine lv_aload_n hx hb dX12_sanded_34 rfl (lv_at hl 0 rfl) ?_
    refine lv_iload_n hx hb dX12_sanded_35 rfl (lv_at hl 1 rfl) ?_
    refine lv_iload_n hx hb dX12_sanded_36 rfl (lv_at hl 2 rfl) ?_
    refine lv_iload_n hx hb dX12_sanded_37 rfl (lv_at hl 3 rfl) ?_
    refine lv_iload hx hb dX12_sanded_38 (lv_at hl 4 rfl) ?_
    refine k_vi (wr := []) (rest := []) F hA hB (c_LongTrainModel_comes l D k a_t d_t i_t j_t r_t_s r_t_wagons r_t_foremost r_t_bears x1 x2 x3 x4 _  hf) ml_RX12_304 mv_yX12_comes [0, 1, 2, 3, 4] [] rfl rfl (by decide) (by decide) (by decide) 0 rfl rfl rfl hl.1 rfl (Nat.le_of_ble_eq_true rfl) ⟨Nat.le_of_ble_eq_true rfl, Nat.le_of_ble_eq_true rfl⟩ ⟨Nat.le_of_ble_eq_true rfl, Nat.le_of_ble_eq_true rfl⟩ dX12_sanded_40 (fun z_9 w1 H locs hq hB => ?_)
    obtain ⟨i_t_5, r_t_wagons_6, r_t_foremost_7, r_t_bears_8, rfl, hf⟩ := hq
    replace hB : Bd D A s.heap (wd_LongTrainModel_sanded k a_t d_t i_t_5 j_t r_t_s r_t_wagons_6 r_t_foremost_7 r_t_bears_8) H locs := hB.sub [0, 1, 2, 3, 4] (by decide) rfl
    refine lv_iload_n hx hb dX12_sanded_43 rfl (lv_at hl 2 rfl) ?_
    refine lv_icmp_ne (tgt := 50) hx hb dX12_sanded_44 (by decide) (fun c_10 => ?_) (fun c_10 => ?_)
    · replace hf := hf.1 c_10
      refine lv_iinc (v := (x4 + 1)) (lv' := [(4, .int (x4 + 1)), (0, .ref a_t), (1, .int x1), (2, .int x2), (3, .int x3)]) (k := 4) hx hb dX12_sanded_50 hl rfl rfl (by decide) rfl (fun ls hl => ?_)
      refine lv_goto (tgt := 26) hx hb dX12_sanded_53 (by decide) ?_
      exact hkr_26 _ _ _ _ _ _ _ _ hf hB (lv_sub hl [1, 2, 3, 4, 0] rfl)
    · replace hf := hf.2 c_10
      refine lv_iload hx hb dX12_sanded_47 (lv_at hl 4 rfl) ?_
      exact r_i F hr hlk hB ⟨_, _, _, _, rfl, hf⟩ dX12_sanded_49

set_option maxRecDepth 100000 in
set_option maxHeartbeats 4000000 in
theorem lt_LongTrainModel_sanded_26 {p : Program} {l : Launch} {e : Env} {s : State} {m : MethodId} {below : List Frame} {meth : Method} {c : Code} {A : Nat → Prop} {D : va_G} {k : Nat → ClassId} {a_t : Nat} {d_t : Nat → Nat} {j_t : Nat → Int64} {r_t_s : Nat → Int32} {n1 : Int32} {n2 : Int32} {n3 : Int32} {Q : Int32 → (Nat → Int32) → (Nat → Int32) → (Nat → Int32) → (Nat → Int32) → Prop}  {x1 : Int32} {x2 : Int32} {x3 : Int32} {kx_26 : (Nat → Int32) → (Nat → Int32) → (Nat → Int32) → (Nat → Int32) → Prop} (F : Fx p m c cX12_sanded 5 s ([.ref a_t, .int n1, .int n2, .int n3] : List Value).toArray RX12 D k) (hr : meth.sig.returnType = (some .int)) (hlk : meth.locks = false) (hA : ∀ q : Nat, s.heap.size ≤ q → A q) (hkx_26 : ∀ (i_t : Nat → Int32) (r_t_wagons : Nat → Int32) (r_t_foremost : Nat → Int32) (r_t_bears : Nat → Int32) (H : Heap) (locs : List Loc) (ls : Array Slot), kx_26 i_t r_t_wagons r_t_foremost r_t_bears → Bd D A s.heap (wd_LongTrainModel_sanded k a_t d_t i_t j_t r_t_s r_t_wagons r_t_foremost r_t_bears) H locs → lv_has ls 5 [] → W p l e { frames := 4, cells := 0, slots := 0, locals := 92 } s m ([.ref a_t, .int n1, .int n2, .int n3] : List Value).toArray below meth c H locs 0 0 (Ei below (fun r w => ∃ (i_t : Nat → Int32), ∃ (r_t_wagons : Nat → Int32), ∃ (r_t_foremost : Nat → Int32), ∃ (r_t_bears : Nat → Int32), w = (wd_LongTrainModel_sanded k a_t d_t i_t j_t r_t_s r_t_wagons r_t_foremost r_t_bears) ∧ Q r i_t r_t_wagons r_t_foremost r_t_bears) D k A ([.ref a_t, .int n1, .int n2, .int n3] : List Value).toArray s 0 0) (F0 m 56 ls [])) :
    ∀ n : Nat, ∀ (x4 : Int32) (i_t : Nat → Int32) (r_t_wagons : Nat → Int32) (r_t_foremost : Nat → Int32) (r_t_bears : Nat → Int32) (H : Heap) (locs : List Loc) (ls : Array Slot), lp_LongTrainModel_sanded_26 r_t_s x1 x2 x3 Q kx_26 n x4 i_t r_t_wagons r_t_foremost r_t_bears → Bd D A s.heap (wd_LongTrainModel_sanded k a_t d_t i_t j_t r_t_s r_t_wagons r_t_foremost r_t_bears) H locs → lv_has ls 5 [(0, .ref a_t), (1, .int x1), (2, .int x2), (3, .int x3), (4, .int x4)] → W p l e { frames := 4, cells := 0, slots := 0, locals := 92 } s m ([.ref a_t, .int n1, .int n2, .int n3] : List Value).toArray below meth c H locs 0 0 (Ei below (fun r w => ∃ (i_t : Nat → Int32), ∃ (r_t_wagons : Nat → Int32), ∃ (r_t_foremost : Nat → Int32), ∃ (r_t_bears : Nat → Int32), w = (wd_LongTrainModel_sanded k a_t d_t i_t j_t r_t_s r_t_wagons r_t_foremost r_t_bears) ∧ Q r i_t r_t_wagons r_t_foremost r_t_bears) D k A ([.ref a_t, .int n1, .int n2, .int n3] : List Value).toArray s 0 0) (F0 m 26 ls []) := by
  intro n
  induction n with
  | zero => intro x4 i_t r_t_wagons r_t_foremost r_t_bears H locs ls hf; exact absurd hf (fun h => h)
  | succ n ih => exact bt_LongTrainModel_sanded_26 F hr hlk hA hkx_26 ih

set_option maxRecDepth 100000 in
set_option maxHeartbeats 4000000 in
theorem c_LongTrainModel_sanded (l : Launch) (D : va_G) (k : Nat → ClassId) (a_t : Nat) (d_t : Nat → Nat) (i_t : Nat → Int32) (j_t : Nat → Int64) (r_t_s : Nat → Int32) (r_t_wagons : Nat → Int32) (r_t_foremost : Nat → Int32) (r_t_bears : Nat → Int32) (n1 : Int32) (n2 : Int32) (n3 : Int32) (Q : Int32 → (Nat → Int32) → (Nat → Int32) → (Nat → Int32) → (Nat → Int32) → Prop)  (hf : w_LongTrainModel_sanded i_t r_t_s r_t_wagons r_t_foremost r_t_bears n1 n2 n3 Q) : CtI l yX12_sanded cX12_sanded 5 (some .int) 4 92 0 0 D k [.ref a_t, .int n1, .int n2, .int n3] (wd_LongTrainModel_sanded k a_t d_t i_t j_t r_t_s r_t_wagons r_t_foremost r_t_bears) (fun r w => ∃ (i_t : Nat → Int32), ∃ (r_t_wagons : Nat → Int32), ∃ (r_t_foremost : Nat → Int32), ∃ (r_t_bears : Nat → Int32), w = (wd_LongTrainModel_sanded k a_t d_t i_t j_t r_t_s r_t_wagons r_t_foremost r_t_bears) ∧ Q r i_t r_t_wagons r_t_foremost r_t_bears) := by
  refine CtI.of (by decide) (Nat.le_of_ble_eq_true rfl) ?_
  intro p e s m below meth c A F hr hlk hnm hA hB ls hl
  have hx := F.x
  have hb := F.b
  unfold w_LongTrainModel_sanded at hf
  replace hl : lv_has ls 5 [(0, .ref a_t), (1, .int n1), (2, .int n2), (3, .int n3)] := hl
  refine lv_aload_n hx hb dX12_sanded_0 rfl (lv_at hl 0 rfl) ?_
  refine lv_iconst (v := 0) hx hb dX12_sanded_1 (by decide) ?_
  refine g_puti F hB 0 rfl fl_RX12_1 rfl (wd_LongTrainModel_sanded k a_t d_t (upd i_t 0 (0 : Int32)) j_t r_t_s r_t_wagons r_t_foremost r_t_bears) rfl dX12_sanded_2 (fun H locs hB => ?_)
  refine lv_aload_n hx hb dX12_sanded_5 rfl (lv_at hl 0 rfl) ?_
  refine lv_iload_n hx hb dX12_sanded_6 rfl (lv_at hl 1 rfl) ?_
  refine lv_iload_n hx hb dX12_sanded_7 rfl (lv_at hl 2 rfl) ?_
  refine k_vi (wr := [((d_t 22), ai k 20 r_t_wagons), ((d_t 23), ai k 20 r_t_foremost), ((d_t 24), ai k 20 r_t_bears)]) (rest := []) F hA hB (c_LongTrainModel_areUnits l D k a_t d_t (upd i_t 0 (0 : Int32)) j_t r_t_s n1 n2 _  hf) ml_RX12_298 mv_yX12_areUnits [0, 1] [2, 3, 4] rfl rfl (by decide) (by decide) (by decide) 0 rfl rfl rfl hl.1 rfl (Nat.le_of_ble_eq_true rfl) ⟨Nat.le_of_ble_eq_true rfl, Nat.le_of_ble_eq_true rfl⟩ ⟨Nat.le_of_ble_eq_true rfl, Nat.le_of_ble_eq_true rfl⟩ dX12_sanded_8 (fun z_1 w1 H locs hq hB => ?_)
  obtain ⟨h_2, rfl, hf⟩ := hq
  replace hB : Bd D A s.heap (wd_LongTrainModel_sanded k a_t d_t (upd i_t 0 (0 : Int32)) j_t r_t_s r_t_wagons r_t_foremost r_t_bears) H locs := hB.sub [3, 4, 0, 1, 2] (by decide) rfl
  refine lv_if_eq (tgt := 21) hx hb dX12_sanded_11 (by decide) (fun c_18 => ?_) (fun c_18 => ?_)
  · replace hf := hf.1 c_18
    refine lv_iconst (v := -1) hx hb dX12_sanded_21 (by decide) ?_
    exact r_i F hr hlk hB ⟨_, _, _, _, rfl, hf⟩ dX12_sanded_22
  · replace hf := hf.2 c_18
    refine lv_iload_n hx hb dX12_sanded_14 rfl (lv_at hl 3 rfl) ?_
    refine k_si (wr := [(a_t, ob 12 (rfd d_t) (upd i_t 0 (0 : Int32)) j_t), ((d_t 6), ai k 1068 r_t_s), ((d_t 22), ai k 20 r_t_wagons), ((d_t 23), ai k 20 r_t_foremost), ((d_t 24), ai k 20 r_t_bears)]) (rest := []) F hA hB (c_LongTrainModel_isRun l D k n3 _  hf) ml_RX12_301 ms_yX12_isRun [] [0, 1, 2, 3, 4] rfl rfl (by decide) (by decide) (by decide) rfl hl.1 rfl (Nat.le_of_ble_eq_true rfl) ⟨Nat.le_of_ble_eq_true rfl, Nat.le_of_ble_eq_true rfl⟩ ⟨Nat.le_of_ble_eq_true rfl, Nat.le_of_ble_eq_true rfl⟩ dX12_sanded_15 (fun z_3 w1 H locs hq hB => ?_)
    obtain ⟨h_4, rfl, hf⟩ := hq
    replace hB : Bd D A s.heap (wd_LongTrainModel_sanded k a_t d_t (upd i_t 0 (0 : Int32)) j_t r_t_s r_t_wagons r_t_foremost r_t_bears) H locs := hB.sub [0, 1, 2, 3, 4] (by decide) rfl
    refine lv_if_ne (tgt := 23) hx hb dX12_sanded_18 (by decide) (fun c_17 => ?_) (fun c_17 => ?_)
    · replace hf := hf.1 c_17
      refine lv_iconst (v := 0) hx hb dX12_sanded_23 (by decide) ?_
      refine lv_istore (lv' := [(4, .int (0 : Int32)), (0, .ref a_t), (1, .int n1), (2, .int n2), (3, .int n3)]) hx hb dX12_sanded_24 hl (by decide) rfl (fun ls hl => ?_)
      obtain ⟨n_16, hf⟩ := hf
      refine lt_LongTrainModel_sanded_26 F hr hlk hA (fun i_t_12 r_t_wagons_13 r_t_foremost_14 r_t_bears_15 H locs ls hf hB hl => ?_) n_16 _ _ _ _ _ _ _ _ hf hB (lv_sub hl [1, 2, 3, 4, 0] rfl)
      refine lv_iconst (v := -1) hx hb dX12_sanded_56 (by decide) ?_
      exact r_i F hr hlk hB ⟨_, _, _, _, rfl, hf⟩ dX12_sanded_57
    · replace hf := hf.2 c_17
      refine lv_iconst (v := -1) hx hb dX12_sanded_21 (by decide) ?_
      exact r_i F hr hlk hB ⟨_, _, _, _, rfl, hf⟩ dX12_sanded_22

/-! LongTrainModel.isHelped -/
set_option maxRecDepth 100000 in
set_option maxHeartbeats 4000000 in
theorem bt_LongTrainModel_isHelped_54 {p : Program} {l : Launch} {e : Env} {s : State} {m : MethodId} {below : List Frame} {meth : Method} {c : Code} {A : Nat → Prop} {D : va_G} {k : Nat → ClassId} {a_t : Nat} {d_t : Nat → Nat} {i_t : Nat → Int32} {j_t : Nat → Int64} {r_t_s : Nat → Int32} {r_t_wagons : Nat → Int32} {r_t_foremost : Nat → Int32} {r_t_bears : Nat → Int32} {n1 : Int32} {n2 : Int32} {n3 : Int32} {n4 : Int32} {n5 : Int32} {Q : Int32 → (Nat → Int32) → (Nat → Int32) → (Nat → Int32) → (Nat → Int32) → Prop}  {x2 : Int32} {x4 : Int32} {x5 : Int32} {x6 : Int32} {x7 : Int32} {kx_54 : Prop} {kr_54 : (Int32) → Prop} (F : Fx p m c cX12_isHelped 9 s ([.ref a_t, .int n1, .int n2, .int n3, .int n4, .int n5] : List Value).toArray RX12 D k) (hr : meth.sig.returnType = (some .boolean)) (hlk : meth.locks = false) (hA : ∀ q : Nat, s.heap.size ≤ q → A q) (hkx_54 : ∀ (H : Heap) (locs : List Loc) (ls : Array Slot), kx_54 → Bd D A s.heap (wd_LongTrainModel_isHelped k a_t d_t i_t j_t r_t_s r_t_wagons r_t_foremost r_t_bears) H locs → lv_has ls 9 [(0, .ref a_t), (2, .int x2), (4, .int x4), (5, .int x5), (6, .int x6), (7, .int x7)] → W p l e { frames := 3, cells := 0, slots := 0, locals := 66 } s m ([.ref a_t, .int n1, .int n2, .int n3, .int n4, .int n5] : List Value).toArray below meth c H locs 0 0 (Ei below (fun r w => (r = 0 ∨ r = 1) ∧ (∃ (i_t : Nat → Int32), ∃ (r_t_wagons : Nat → Int32), ∃ (r_t_foremost : Nat → Int32), ∃ (r_t_bears : Nat → Int32), w = (wd_LongTrainModel_isHelped k a_t d_t i_t j_t r_t_s r_t_wagons r_t_foremost r_t_bears) ∧ Q r i_t r_t_wagons r_t_foremost r_t_bears)) D k A ([.ref a_t, .int n1, .int n2, .int n3, .int n4, .int n5] : List Value).toArray s 0 0) (F0 m 92 ls [])) (hkr_54 : ∀ (x8 : Int32) (H : Heap) (locs : List Loc) (ls : Array Slot), kr_54 x8 → Bd D A s.heap (wd_LongTrainModel_isHelped k a_t d_t i_t j_t r_t_s r_t_wagons r_t_foremost r_t_bears) H locs → lv_has ls 9 [(0, .ref a_t), (2, .int x2), (4, .int x4), (5, .int x5), (6, .int x6), (7, .int x7), (8, .int x8)] → W p l e { frames := 3, cells := 0, slots := 0, locals := 66 } s m ([.ref a_t, .int n1, .int n2, .int n3, .int n4, .int n5] : List Value).toArray below meth c H locs 0 0 (Ei below (fun r w => (r = 0 ∨ r = 1) ∧ (∃ (i_t : Nat → Int32), ∃ (r_t_wagons : Nat → Int32), ∃ (r_t_foremost : Nat → Int32), ∃ (r_t_bears : Nat → Int32), w = (wd_LongTrainModel_isHelped k a_t d_t i_t j_t r_t_s r_t_wagons r_t_foremost r_t_bears) ∧ Q r i_t r_t_wagons r_t_foremost r_t_bears)) D k A ([.ref a_t, .int n1, .int n2, .int n3, .int n4, .int n5] : List Value).toArray s 0 0) (F0 m 54 ls [])) :
    ∀ (x8 : Int32) (H : Heap) (locs : List Loc) (ls : Array Slot), b_LongTrainModel_isHelped_54 i_t r_t_s r_t_wagons r_t_foremost r_t_bears Q kx_54 kr_54 x8 → Bd D A s.heap (wd_LongTrainModel_isHelped k a_t d_t i_t j_t r_t_s r_t_wagons r_t_foremost r_t_bears) H locs → lv_has ls 9 [(0, .ref a_t), (2, .int x2), (4, .int x4), (5, .int x5), (6, .int x6), (7, .int x7), (8, .int x8)] → W p l e { frames := 3, cells := 0, slots := 0, locals := 66 } s m ([.ref a_t, .int n1, .int n2, .int n3, .int n4, .int n5] : List Value).toArray below meth c H locs 0 0 (Ei below (fun r w => (r = 0 ∨ r = 1) ∧ (∃ (i_t : Nat → Int32), ∃ (r_t_wagons : Nat → Int32), ∃ (r_t_foremost : Nat → Int32), ∃ (r_t_bears : Nat → Int32), w = (wd_LongTrainModel_isHelped k a_t d_t i_t j_t r_t_s r_t_wagons r_t_foremost r_t_bears) ∧ Q r i_t r_t_wagons r_t_foremost r_t_bears)) D k A ([.ref a_t, .int n1, .int n2, .int n3, .int n4, .int n5] : List Value).toArray s 0 0) (F0 m 54 ls []) := by
  have hx := F.x
  have hb := F.b
  intro x8 H locs ls hf hB hl
  unfold b_LongTrainModel_isHelped_54 at hf
  refine lv_iload hx hb dX12_isHelped_54 (lv_at hl 6 rfl) ?_
  refine lv_aload_n hx hb dX12_isHelped_56 rfl (lv_at hl 0 rfl) ?_
  refine g_get (w := .int (i_t 27)) F hB 0 rfl fl_RX12_270 rfl dX12_isHelped_57 ?_
  refine lv_icmp_ge (tgt := 92) hx hb dX12_isHelped_60 (by decide) (fun c_12 => ?_) (fun c_12 => ?_)
  · replace hf := hf.1 c_12
    exact hkx_54  _ _ _ hf hB (lv_sub hl [0, 1, 2, 3, 4, 5] rfl)
  · replace hf := hf.2 c_12
    refine lv_aload_n hx hb dX12_isHelped_63 rfl (lv_at hl 0 rfl) ?_
    refine g_get (w := .ref (d_t 24)) F hB 0 rfl fl_RX12_56 rfl dX12_isHelped_64 ?_
    refine lv_iload hx hb dX12_isHelped_67 (lv_at hl 6 rfl) ?_
    obtain ⟨h_8, hf⟩ := hf
    refine g_iald F hB 4 rfl h_8 dX12_isHelped_69 ?_
    refine lv_aload_n hx hb dX12_isHelped_70 rfl (lv_at hl 0 rfl) ?_
    refine lv_aload_n hx hb dX12_isHelped_71 rfl (lv_at hl 0 rfl) ?_
    refine g_get (w := .ref (d_t 22)) F hB 0 rfl fl_RX12_50 rfl dX12_isHelped_72 ?_
    refine lv_iload hx hb dX12_isHelped_75 (lv_at hl 6 rfl) ?_
    obtain ⟨h_9, hf⟩ := hf
    refine g_iald F hB 2 rfl h_9 dX12_isHelped_77 ?_
    refine k_vi (wr := [((d_t 22), ai k 20 r_t_wagons), ((d_t 23), ai k 20 r_t_foremost), ((d_t 24), ai k 20 r_t_bears)]) (rest := [.int (r_t_bears (x8).toNatClampNeg)]) F hA hB (c_LongTrainModel_strengthOf l D k a_t d_t i_t j_t r_t_s (r_t_wagons (x8).toNatClampNeg) _  hf) ml_RX12_312 mv_yX12_strengthOf [0, 1] [2, 3, 4] rfl rfl (by decide) (by decide) (by decide) 0 rfl rfl rfl hl.1 rfl (Nat.le_of_ble_eq_true rfl) ⟨Nat.le_of_ble_eq_true rfl, Nat.le_of_ble_eq_true rfl⟩ ⟨Nat.le_of_ble_eq_true rfl, Nat.le_of_ble_eq_true rfl⟩ dX12_isHelped_78 (fun z_10 w1 H locs hq hB => ?_)
    obtain ⟨rfl, hf⟩ := hq
    replace hB : Bd D A s.heap (wd_LongTrainModel_isHelped k a_t d_t i_t j_t r_t_s r_t_wagons r_t_foremost r_t_bears) H locs := hB.sub [3, 4, 0, 1, 2] (by decide) rfl
    refine lv_icmp_le (tgt := 86) hx hb dX12_isHelped_81 (by decide) (fun c_11 => ?_) (fun c_11 => ?_)
    · replace hf := hf.1 c_11
      refine lv_iinc (v := (x8 + 1)) (lv' := [(8, .int (x8 + 1)), (0, .ref a_t), (2, .int x2), (4, .int x4), (5, .int x5), (6, .int x6), (7, .int x7)]) (k := 6) hx hb dX12_isHelped_86 hl rfl rfl (by decide) rfl (fun ls hl => ?_)
      refine lv_goto (tgt := 54) hx hb dX12_isHelped_89 (by decide) ?_
      exact hkr_54 _ _ _ _ hf hB (lv_sub hl [1, 2, 3, 4, 5, 6, 0] rfl)
    · replace hf := hf.2 c_11
      refine lv_iconst (v := 0) hx hb dX12_isHelped_84 (by decide) ?_
      exact r_z F hr hlk hB (Or.inl rfl) ⟨Or.inl rfl, _, _, _, _, rfl, hf⟩ dX12_isHelped_85

set_option maxRecDepth 100000 in
set_option maxHeartbeats 4000000 in
theorem lt_LongTrainModel_isHelped_54 {p : Program} {l : Launch} {e : Env} {s : State} {m : MethodId} {below : List Frame} {meth : Method} {c : Code} {A : Nat → Prop} {D : va_G} {k : Nat → ClassId} {a_t : Nat} {d_t : Nat → Nat} {i_t : Nat → Int32} {j_t : Nat → Int64} {r_t_s : Nat → Int32} {r_t_wagons : Nat → Int32} {r_t_foremost : Nat → Int32} {r_t_bears : Nat → Int32} {n1 : Int32} {n2 : Int32} {n3 : Int32} {n4 : Int32} {n5 : Int32} {Q : Int32 → (Nat → Int32) → (Nat → Int32) → (Nat → Int32) → (Nat → Int32) → Prop}  {x2 : Int32} {x4 : Int32} {x5 : Int32} {x6 : Int32} {x7 : Int32} {kx_54 : Prop} (F : Fx p m c cX12_isHelped 9 s ([.ref a_t, .int n1, .int n2, .int n3, .int n4, .int n5] : List Value).toArray RX12 D k) (hr : meth.sig.returnType = (some .boolean)) (hlk : meth.locks = false) (hA : ∀ q : Nat, s.heap.size ≤ q → A q) (hkx_54 : ∀ (H : Heap) (locs : List Loc) (ls : Array Slot), kx_54 → Bd D A s.heap (wd_LongTrainModel_isHelped k a_t d_t i_t j_t r_t_s r_t_wagons r_t_foremost r_t_bears) H locs → lv_has ls 9 [(0, .ref a_t), (2, .int x2), (4, .int x4), (5, .int x5), (6, .int x6), (7, .int x7)] → W p l e { frames := 3, cells := 0, slots := 0, locals := 66 } s m ([.ref a_t, .int n1, .int n2, .int n3, .int n4, .int n5] : List Value).toArray below meth c H locs 0 0 (Ei below (fun r w => (r = 0 ∨ r = 1) ∧ (∃ (i_t : Nat → Int32), ∃ (r_t_wagons : Nat → Int32), ∃ (r_t_foremost : Nat → Int32), ∃ (r_t_bears : Nat → Int32), w = (wd_LongTrainModel_isHelped k a_t d_t i_t j_t r_t_s r_t_wagons r_t_foremost r_t_bears) ∧ Q r i_t r_t_wagons r_t_foremost r_t_bears)) D k A ([.ref a_t, .int n1, .int n2, .int n3, .int n4, .int n5] : List Value).toArray s 0 0) (F0 m 92 ls [])) :
    ∀ n : Nat, ∀ (x8 : Int32) (H : Heap) (locs : List Loc) (ls : Array Slot), lp_LongTrainModel_isHelped_54 i_t r_t_s r_t_wagons r_t_foremost r_t_bears Q kx_54 n x8 → Bd D A s.heap (wd_LongTrainModel_isHelped k a_t d_t i_t j_t r_t_s r_t_wagons r_t_foremost r_t_bears) H locs → lv_has ls 9 [(0, .ref a_t), (2, .int x2), (4, .int x4), (5, .int x5), (6, .int x6), (7, .int x7), (8, .int x8)] → W p l e { frames := 3, cells := 0, slots := 0, locals := 66 } s m ([.ref a_t, .int n1, .int n2, .int n3, .int n4, .int n5] : List Value).toArray below meth c H locs 0 0 (Ei below (fun r w => (r = 0 ∨ r = 1) ∧ (∃ (i_t : Nat → Int32), ∃ (r_t_wagons : Nat → Int32), ∃ (r_t_foremost : Nat → Int32), ∃ (r_t_bears : Nat → Int32), w = (wd_LongTrainModel_isHelped k a_t d_t i_t j_t r_t_s r_t_wagons r_t_foremost r_t_bears) ∧ Q r i_t r_t_wagons r_t_foremost r_t_bears)) D k A ([.ref a_t, .int n1, .int n2, .int n3, .int n4, .int n5] : List Value).toArray s 0 0) (F0 m 54 ls []) := by
  intro n
  induction n with
  | zero => intro x8 H locs ls hf; exact absurd hf (fun h => h)
  | succ n ih => exact bt_LongTrainModel_isHelped_54 F hr hlk hA hkx_54 ih

set_option maxRecDepth 100000 in
set_option maxHeartbeats 4000000 in
theorem bt_LongTrainModel_isHelped_8 {p : Program} {l : Launch} {e : Env} {s : State} {m : MethodId} {below : List Frame} {meth : Method} {c : Code} {A : Nat → Prop} {D : va_G} {k : Nat → ClassId} {a_t : Nat} {d_t : Nat → Nat} {j_t : Nat → Int64} {r_t_s : Nat → Int32} {n1 : Int32} {n2 : Int32} {n3 : Int32} {n4 : Int32} {n5 : Int32} {Q : Int32 → (Nat → Int32) → (Nat → Int32) → (Nat → Int32) → (Nat → Int32) → Prop}  {x2 : Int32} {x4 : Int32} {x5 : Int32} {kx_8 : (Nat → Int32) → (Nat → Int32) → (Nat → Int32) → (Nat → Int32) → Prop} {kr_8 : (Int32) → (Int32) → (Nat → Int32) → (Nat → Int32) → (Nat → Int32) → (Nat → Int32) → Prop} (F : Fx p m c cX12_isHelped 9 s ([.ref a_t, .int n1, .int n2, .int n3, .int n4, .int n5] : List Value).toArray RX12 D k) (hr : meth.sig.returnType = (some .boolean)) (hlk : meth.locks = false) (hA : ∀ q : Nat, s.heap.size ≤ q → A q) (hkx_8 : ∀ (i_t : Nat → Int32) (r_t_wagons : Nat → Int32) (r_t_foremost : Nat → Int32) (r_t_bears : Nat → Int32) (H : Heap) (locs : List Loc) (ls : Array Slot), kx_8 i_t r_t_wagons r_t_foremost r_t_bears → Bd D A s.heap (wd_LongTrainModel_isHelped k a_t d_t i_t j_t r_t_s r_t_wagons r_t_foremost r_t_bears) H locs → lv_has ls 9 [] → W p l e { frames := 3, cells := 0, slots := 0, locals := 66 } s m ([.ref a_t, .int n1, .int n2, .int n3, .int n4, .int n5] : List Value).toArray below meth c H locs 0 0 (Ei below (fun r w => (r = 0 ∨ r = 1) ∧ (∃ (i_t : Nat → Int32), ∃ (r_t_wagons : Nat → Int32), ∃ (r_t_foremost : Nat → Int32), ∃ (r_t_bears : Nat → Int32), w = (wd_LongTrainModel_isHelped k a_t d_t i_t j_t r_t_s r_t_wagons r_t_foremost r_t_bears) ∧ Q r i_t r_t_wagons r_t_foremost r_t_bears)) D k A ([.ref a_t, .int n1, .int n2, .int n3, .int n4, .int n5] : List Value).toArray s 0 0) (F0 m 98 ls [])) (hkr_8 : ∀ (x6 : Int32) (x7 : Int32) (i_t : Nat → Int32) (r_t_wagons : Nat → Int32) (r_t_foremost : Nat → Int32) (r_t_bears : Nat → Int32) (H : Heap) (locs : List Loc) (ls : Array Slot), kr_8 x6 x7 i_t r_t_wagons r_t_foremost r_t_bears → Bd D A s.heap (wd_LongTrainModel_isHelped k a_t d_t i_t j_t r_t_s r_t_wagons r_t_foremost r_t_bears) H locs → lv_has ls 9 [(0, .ref a_t), (2, .int x2), (4, .int x4), (5, .int x5), (6, .int x6), (7, .int x7)] → W p l e { frames := 3, cells := 0, slots := 0, locals := 66 } s m ([.ref a_t, .int n1, .int n2, .int n3, .int n4, .int n5] : List Value).toArray below meth c H locs 0 0 (Ei below (fun r w => (r = 0 ∨ r = 1) ∧ (∃ (i_t : Nat → Int32), ∃ (r_t_wagons : Nat → Int32), ∃ (r_t_foremost : Nat → Int32), ∃ (r_t_bears : Nat → Int32), w = (wd_LongTrainModel_isHelped k a_t d_t i_t j_t r_t_s r_t_wagons r_t_foremost r_t_bears) ∧ Q r i_t r_t_wagons r_t_foremost r_t_bears)) D k A ([.ref a_t, .int n1, .int n2, .int n3, .int n4, .int n5] : List Value).toArray s 0 0) (F0 m 8 ls [])) :
    ∀ (x6 : Int32) (x7 : Int32) (i_t : Nat → Int32) (r_t_wagons : Nat → Int32) (r_t_foremost : Nat → Int32) (r_t_bears : Nat → Int32) (H : Heap) (locs : List Loc) (ls : Array Slot), b_LongTrainModel_isHelped_8 r_t_s x2 x4 x5 Q kx_8 kr_8 x6 x7 i_t r_t_wagons r_t_foremost r_t_bears → Bd D A s.heap (wd_LongTrainModel_isHelped k a_t d_t i_t j_t r_t_s r_t_wagons r_t_foremost r_t_bears) H locs → lv_has ls 9 [(0, .ref a_t), (2, .int x2), (4, .int x4), (5, .int x5), (6, .int x6), (7, .int x7)] → W p l e { frames := 3, cells := 0, slots := 0, locals := 66 } s m ([.ref a_t, .int n1, .int n2, .int n3, .int n4, .int n5] : List Value).toArray below meth c H locs 0 0 (Ei below (fun r w => (r = 0 ∨ r = 1) ∧ (∃ (i_t : Nat → Int32), ∃ (r_t_wagons : Nat → Int32), ∃ (r_t_foremost : Nat → Int32), ∃ (r_t_bears : Nat → Int32), w = (wd_LongTrainModel_isHelped k a_t d_t i_t j_t r_t_s r_t_wagons r_t_foremost r_t_bears) ∧ Q r i_t r_t_wagons r_t_foremost r_t_bears)) D k A ([.ref a_t, .int n1, .int n2, .int n3, .int n4, .int n5] : List Value).toArray s 0 0) (F0 m 8 ls []) := by
  have hx := F.x
  have hb := F.b
  intro x6 x7 i_t r_t_wagons r_t_foremost r_t_bears H locs ls hf hB hl
  unfold b_LongTrainModel_isHelped_8 at hf
  refine lv_iload hx hb dX12_isHelped_8 (lv_at hl 5 rfl) ?_
  refine lv_iload_n hx hb dX12_isHelped_10 rfl (lv_at hl 1 rfl) ?_
  refine lv_icmp_gt (tgt := 98) hx hb dX12_isHelped_11 (by decide) (fun c_15 => ?_) (fun c_15 => ?_)
  · replace hf := hf.1 c_15
    exact hkx_8 _ _ _ _ _ _ _ hf hB (lv_sub hl [] rfl)
  · replace hf := hf.2 c_15
    refine lv_aload_n hx hb dX12_isHelped_14 rfl (lv_at hl 0 rfl) ?_
    refine lv_iload hx hb dX12_isHelped_15 (lv_at hl 5 rfl) ?_
    refine k_vv (wr := []) (rest := []) F hA hB (c_LongTrainModel_freeAt l D k a_t d_t i_t j_t r_t_s r_t_wagons r_t_foremost r_t_bears x7 _  hf) ml_RX12_288 mv_yX12_freeAt [0, 1, 2, 3, 4] [] rfl rfl (by decide) (by decide) (by decide) 0 rfl rfl rfl hl.1 rfl (Nat.le_of_ble_eq_true rfl) ⟨Nat.le_of_ble_eq_true rfl, Nat.le_of_ble_eq_true rfl⟩ ⟨Nat.le_of_ble_eq_true rfl, Nat.le_of_ble_eq_true rfl⟩ dX12_isHelped_17 (fun w1 H locs hq hB => ?_)
    obtain ⟨i_t_1, r_t_wagons_2, r_t_foremost_3, r_t_bears_4, rfl, hf⟩ := hq
    replace hB : Bd D A s.heap (wd_LongTrainModel_isHelped k a_t d_t i_t_1 j_t r_t_s r_t_wagons_2 r_t_foremost_3 r_t_bears_4) H locs := hB.sub [0, 1, 2, 3, 4] (by decide) rfl
    refine lv_aload_n hx hb dX12_isHelped_20 rfl (lv_at hl 0 rfl) ?_
    refine lv_iload hx hb dX12_isHelped_21 (lv_at hl 2 rfl) ?_
    refine lv_iload hx hb dX12_isHelped_23 (lv_at hl 3 rfl) ?_
    refine k_vv (wr := [((d_t 6), ai k 1068 r_t_s), ((d_t 22), ai k 20 r_t_wagons_2), ((d_t 23), ai k 20 r_t_foremost_3)]) (rest := []) F hA hB (c_LongTrainModel_helps l D k a_t d_t i_t_1 j_t r_t_bears_4 x4 x5 _  hf) ml_RX12_308 mv_yX12_helps [0, 4] [1, 2, 3] rfl rfl (by decide) (by decide) (by decide) 0 rfl rfl rfl hl.1 rfl (Nat.le_of_ble_eq_true rfl) ⟨Nat.le_of_ble_eq_true rfl, Nat.le_of_ble_eq_true rfl⟩ ⟨Nat.le_of_ble_eq_true rfl, Nat.le_of_ble_eq_true rfl⟩ dX12_isHelped_25 (fun w1 H locs hq hB => ?_)
    obtain ⟨i_t_5, r_t_bears_6, rfl, hf⟩ := hq
    replace hB : Bd D A s.heap (wd_LongTrainModel_isHelped k a_t d_t i_t_5 j_t r_t_s r_t_wagons_2 r_t_foremost_3 r_t_bears_6) H locs := hB.sub [3, 0, 1, 2, 4] (by decide) rfl
    refine lv_iload hx hb dX12_isHelped_28 (lv_at hl 4 rfl) ?_
    refine lv_aload_n hx hb dX12_isHelped_30 rfl (lv_at hl 0 rfl) ?_
    refine g_get (w := .ref (d_t 6)) F hB 0 rfl fl_RX12_33 rfl dX12_isHelped_31 ?_
    refine lv_iconst (v := 4) hx hb dX12_isHelped_34 (by decide) ?_
    refine g_iald F hB 1 rfl (vp_in_iff.mpr (by decide +kernel)) dX12_isHelped_35 ?_
    refine W.eq (g2 := F0 m 36 ls [.int (r_t_s 4), .int x6]) rfl ?_
    refine lv_aload_n hx hb dX12_isHelped_36 rfl (lv_at hl 0 rfl) ?_
    refine g_get (w := .int (i_t_5 28)) F hB 0 rfl fl_RX12_279 rfl dX12_isHelped_37 ?_
    refine lv_isub hx hb dX12_isHelped_40 ?_
    refine lv_iadd hx hb dX12_isHelped_41 ?_
    refine lv_istore (lv' := [(6, .int (x6 + ((r_t_s 4) - (i_t_5 28)))), (0, .ref a_t), (2, .int x2), (4, .int x4), (5, .int x5), (7, .int x7)]) hx hb dX12_isHelped_42 hl (by decide) rfl (fun ls hl => ?_)
    refine lv_iload hx hb dX12_isHelped_44 (lv_at hl 0 rfl) ?_
    refine lv_if_ge (tgt := 51) hx hb dX12_isHelped_46 (by decide) (fun c_14 => ?_) (fun c_14 => ?_)
    · replace hf := hf.1 c_14
      refine lv_iconst (v := 0) hx hb dX12_isHelped_51 (by decide) ?_
      refine lv_istore (lv' := [(8, .int (0 : Int32)), (6, .int (x6 + ((r_t_s 4) - (i_t_5 28)))), (0, .ref a_t), (2, .int x2), (4, .int x4), (5, .int x5), (7, .int x7)]) hx hb dX12_isHelped_52 hl (by decide) rfl (fun ls hl => ?_)
      obtain ⟨n_13, hf⟩ := hf
      refine lt_LongTrainModel_isHelped_54 F hr hlk hA (fun  H locs ls hf hB hl => ?_) n_13 _ _ _ _ hf hB (lv_sub hl [2, 3, 4, 5, 1, 6, 0] rfl)
      refine lv_iinc (v := (x7 + 1)) (lv' := [(7, .int (x7 + 1)), (0, .ref a_t), (2, .int x2), (4, .int x4), (5, .int x5), (6, .int (x6 + ((r_t_s 4) - (i_t_5 28))))]) (k := 5) hx hb dX12_isHelped_92 hl rfl rfl (by decide) rfl (fun ls hl => ?_)
      refine lv_goto (tgt := 8) hx hb dX12_isHelped_95 (by decide) ?_
      exact hkr_8 _ _ _ _ _ _ _ _ _ hf hB (lv_sub hl [1, 2, 3, 4, 5, 0] rfl)
    · replace hf := hf.2 c_14
      refine lv_iconst (v := 0) hx hb dX12_isHelped_49 (by decide) ?_
      exact r_z F hr hlk hB (Or.inl rfl) ⟨Or.inl rfl, _, _, _, _, rfl, hf⟩ dX12_isHelped_50

set_option maxRecDepth 100000 in
set_option maxHeartbeats 4000000 in
theorem lt_LongTrainModel_isHelped_8 {p : Program} {l : Launch} {e : Env} {s : State} {m : MethodId} {below : List Frame} {meth : Method} {c : Code} {A : Nat → Prop} {D : va_G} {k : Nat → ClassId} {a_t : Nat} {d_t : Nat → Nat} {j_t : Nat → Int64} {r_t_s : Nat → Int32} {n1 : Int32} {n2 : Int32} {n3 : Int32} {n4 : Int32} {n5 : Int32} {Q : Int32 → (Nat → Int32) → (Nat → Int32) → (Nat → Int32) → (Nat → Int32) → Prop}  {x2 : Int32} {x4 : Int32} {x5 : Int32} {kx_8 : (Nat → Int32) → (Nat → Int32) → (Nat → Int32) → (Nat → Int32) → Prop} (F : Fx p m c cX12_isHelped 9 s ([.ref a_t, .int n1, .int n2, .int n3, .int n4, .int n5] : List Value).toArray RX12 D k) (hr : meth.sig.returnType = (some .boolean)) (hlk : meth.locks = false) (hA : ∀ q : Nat, s.heap.size ≤ q → A q) (hkx_8 : ∀ (i_t : Nat → Int32) (r_t_wagons : Nat → Int32) (r_t_foremost : Nat → Int32) (r_t_bears : Nat → Int32) (H : Heap) (locs : List Loc) (ls : Array Slot), kx_8 i_t r_t_wagons r_t_foremost r_t_bears → Bd D A s.heap (wd_LongTrainModel_isHelped k a_t d_t i_t j_t r_t_s r_t_wagons r_t_foremost r_t_bears) H locs → lv_has ls 9 [] → W p l e { frames := 3, cells := 0, slots := 0, locals := 66 } s m ([.ref a_t, .int n1, .int n2, .int n3, .int n4, .int n5] : List Value).toArray below meth c H locs 0 0 (Ei below (fun r w => (r = 0 ∨ r = 1) ∧ (∃ (i_t : Nat → Int32), ∃ (r_t_wagons : Nat → Int32), ∃ (r_t_foremost : Nat → Int32), ∃ (r_t_bears : Nat → Int32), w = (wd_LongTrainModel_isHelped k a_t d_t i_t j_t r_t_s r_t_wagons r_t_foremost r_t_bears) ∧ Q r i_t r_t_wagons r_t_foremost r_t_bears)) D k A ([.ref a_t, .int n1, .int n2, .int n3, .int n4, .int n5] : List Value).toArray s 0 0) (F0 m 98 ls [])) :
    ∀ n : Nat, ∀ (x6 : Int32) (x7 : Int32) (i_t : Nat → Int32) (r_t_wagons : Nat → Int32) (r_t_foremost : Nat → Int32) (r_t_bears : Nat → Int32) (H : Heap) (locs : List Loc) (ls : Array Slot), lp_LongTrainModel_isHelped_8 r_t_s x2 x4 x5 Q kx_8 n x6 x7 i_t r_t_wagons r_t_foremost r_t_bears → Bd D A s.heap (wd_LongTrainModel_isHelped k a_t d_t i_t j_t r_t_s r_t_wagons r_t_foremost r_t_bears) H locs → lv_has ls 9 [(0, .ref a_t), (2, .int x2), (4, .int x4), (5, .int x5), (6, .int x6), (7, .int x7)] → W p l e { frames := 3, cells := 0, slots := 0, locals := 66 } s m ([.ref a_t, .int n1, .int n2, .int n3, .int n4, .int n5] : List Value).toArray below meth c H locs 0 0 (Ei below (fun r w => (r = 0 ∨ r = 1) ∧ (∃ (i_t : Nat → Int32), ∃ (r_t_wagons : Nat → Int32), ∃ (r_t_foremost : Nat → Int32), ∃ (r_t_bears : Nat → Int32), w = (wd_LongTrainModel_isHelped k a_t d_t i_t j_t r_t_s r_t_wagons r_t_foremost r_t_bears) ∧ Q r i_t r_t_wagons r_t_foremost r_t_bears)) D k A ([.ref a_t, .int n1, .int n2, .int n3, .int n4, .int n5] : List Value).toArray s 0 0) (F0 m 8 ls []) := by
  intro n
  induction n with
  | zero => intro x6 x7 i_t r_t_wagons r_t_foremost r_t_bears H locs ls hf; exact absurd hf (fun h => h)
  | succ n ih => exact bt_LongTrainModel_isHelped_8 F hr hlk hA hkx_8 ih

set_option maxRecDepth 100000 in
set_option maxHeartbeats 4000000 in
theorem c_LongTrainModel_isHelped (l : Launch) (D : va_G) (k : Nat → ClassId) (a_t : Nat) (d_t : Nat → Nat) (i_t : Nat → Int32) (j_t : Nat → Int64) (r_t_s : Nat → Int32) (r_t_wagons : Nat → Int32) (r_t_foremost : Nat → Int32) (r_t_bears : Nat → Int32) (n1 : Int32) (n2 : Int32) (n3 : Int32) (n4 : Int32) (n5 : Int32) (Q : Int32 → (Nat → Int32) → (Nat → Int32) → (Nat → Int32) → (Nat → Int32) → Prop)  (hf : w_LongTrainModel_isHelped i_t r_t_s r_t_wagons r_t_foremost r_t_bears n1 n2 n3 n4 n5 Q) : CtI l yX12_isHelped cX12_isHelped 9 (some .boolean) 3 66 0 0 D k [.ref a_t, .int n1, .int n2, .int n3, .int n4, .int n5] (wd_LongTrainModel_isHelped k a_t d_t i_t j_t r_t_s r_t_wagons r_t_foremost r_t_bears) (fun r w => (r = 0 ∨ r = 1) ∧ (∃ (i_t : Nat → Int32), ∃ (r_t_wagons : Nat → Int32), ∃ (r_t_foremost : Nat → Int32), ∃ (r_t_bears : Nat → Int32), w = (wd_LongTrainModel_isHelped k a_t d_t i_t j_t r_t_s r_t_wagons r_t_foremost r_t_bears) ∧ Q r i_t r_t_wagons r_t_foremost r_t_bears)) := by
  refine CtI.of (by decide) (Nat.le_of_ble_eq_true rfl) ?_
  intro p e s m below meth c A F hr hlk hnm hA hB ls hl
  have hx := F.x
  have hb := F.b
  unfold w_LongTrainModel_isHelped at hf
  replace hl : lv_has ls 9 [(0, .ref a_t), (1, .int n1), (2, .int n2), (3, .int n3), (4, .int n4), (5, .int n5)] := hl
  refine lv_iload_n hx hb dX12_isHelped_0 rfl (lv_at hl 3 rfl) ?_
  refine lv_istore (lv' := [(6, .int n3), (0, .ref a_t), (1, .int n1), (2, .int n2), (3, .int n3), (4, .int n4), (5, .int n5)]) hx hb dX12_isHelped_1 hl (by decide) rfl (fun ls hl => ?_)
  refine lv_iload_n hx hb dX12_isHelped_3 rfl (lv_at hl 2 rfl) ?_
  refine lv_iconst (v := 1) hx hb dX12_isHelped_4 (by decide) ?_
  refine lv_iadd hx hb dX12_isHelped_5 ?_
  refine lv_istore (lv' := [(7, .int (n1 + (1 : Int32))), (6, .int n3), (0, .ref a_t), (1, .int n1), (2, .int n2), (3, .int n3), (4, .int n4), (5, .int n5)]) hx hb dX12_isHelped_6 hl (by decide) rfl (fun ls hl => ?_)
  obtain ⟨n_20, hf⟩ := hf
  refine lt_LongTrainModel_isHelped_8 F hr hlk hA (fun i_t_16 r_t_wagons_17 r_t_foremost_18 r_t_bears_19 H locs ls hf hB hl => ?_) n_20 _ _ _ _ _ _ _ _ _ hf hB (lv_sub hl [2, 4, 6, 7, 1, 0] rfl)
  refine lv_iconst (v := 1) hx hb dX12_isHelped_98 (by decide) ?_
  exact r_z F hr hlk hB (Or.inr rfl) ⟨Or.inr rfl, _, _, _, _, rfl, hf⟩ dX12_isHelped_99

/-! LongTrainModel.helped -/
set_option maxRecDepth 100000 in
set_option maxHeartbeats 4000000 in
theorem bt_LongTrainModel_helped_52 {p : Program} {l : Launch} {e : Env} {s : State} {m : MethodId} {below : List Frame} {meth : Method} {c : Code} {A : Nat → Prop} {D : va_G} {k : Nat → ClassId} {a_t : Nat} {d_t : Nat → Nat} {j_t : Nat → Int64} {r_t_s : Nat → Int32} {n1 : Int32} {n2 : Int32} {n3 : Int32} {n4 : Int32} {Q : Int32 → (Nat → Int32) → (Nat → Int32) → (Nat → Int32) → (Nat → Int32) → Prop}  {x1 : Int32} {x2 : Int32} {x3 : Int32} {x4 : Int32} {x5 : Int32} {kx_52 : (Int32) → (Nat → Int32) → (Nat → Int32) → (Nat → Int32) → (Nat → Int32) → Prop} {kr_52 : (Int32) → (Int32) → (Nat → Int32) → (Nat → Int32) → (Nat → Int32) → (Nat → Int32) → Prop} (F : Fx p m c cX12_helped 8 s ([.ref a_t, .int n1, .int n2, .int n3, .int n4] : List Value).toArray RX12 D k) (hr : meth.sig.returnType = (some .int)) (hlk : meth.locks = false) (hA : ∀ q : Nat, s.heap.size ≤ q → A q) (hkx_52 : ∀ (x6 : Int32) (i_t : Nat → Int32) (r_t_wagons : Nat → Int32) (r_t_foremost : Nat → Int32) (r_t_bears : Nat → Int32) (H : Heap) (locs : List Loc) (ls : Array Slot), kx_52 x6 i_t r_t_wagons r_t_foremost r_t_bears → Bd D A s.heap (wd_LongTrainModel_helped k a_t d_t i_t j_t r_t_s r_t_wagons r_t_foremost r_t_bears) H locs → lv_has ls 8 [(6, .int x6)] → W p l e { frames := 4, cells := 0, slots := 0, locals := 94 } s m ([.ref a_t, .int n1, .int n2, .int n3, .int n4] : List Value).toArray below meth c H locs 0 0 (Ei below (fun r w => ∃ (i_t : Nat → Int32), ∃ (r_t_wagons : Nat → Int32), ∃ (r_t_foremost : Nat → Int32), ∃ (r_t_bears : Nat → Int32), w = (wd_LongTrainModel_helped k a_t d_t i_t j_t r_t_s r_t_wagons r_t_foremost r_t_bears) ∧ Q r i_t r_t_wagons r_t_foremost r_t_bears) D k A ([.ref a_t, .int n1, .int n2, .int n3, .int n4] : List Value).toArray s 0 0) (F0 m 92 ls [])) (hkr_52 : ∀ (x6 : Int32) (x7 : Int32) (i_t : Nat → Int32) (r_t_wagons : Nat → Int32) (r_t_foremost : Nat → Int32) (r_t_bears : Nat → Int32) (H : Heap) (locs : List Loc) (ls : Array Slot), kr_52 x6 x7 i_t r_t_wagons r_t_foremost r_t_bears → Bd D A s.heap (wd_LongTrainModel_helped k a_t d_t i_t j_t r_t_s r_t_wagons r_t_foremost r_t_bears) H locs → lv_has ls 8 [(0, .ref a_t), (1, .int x1), (2, .int x2), (3, .int x3), (4, .int x4), (5, .int x5), (6, .int x6), (7, .int x7)] → W p l e { frames := 4, cells := 0, slots := 0, locals := 94 } s m ([.ref a_t, .int n1, .int n2, .int n3, .int n4] : List Value).toArray below meth c H locs 0 0 (Ei below (fun r w => ∃ (i_t : Nat → Int32), ∃ (r_t_wagons : Nat → Int32), ∃ (r_t_foremost : Nat → Int32), ∃ (r_t_bears : Nat → Int32), w = (wd_LongTrainModel_helped k a_t d_t i_t j_t r_t_s r_t_wagons r_t_foremost r_t_bears) ∧ Q r i_t r_t_wagons r_t_foremost r_t_bears) D k A ([.ref a_t, .int n1, .int n2, .int n3, .int n4] : List Value).toArray s 0 0) (F0 m 52 ls [])) :
    ∀ (x6 : Int32) (x7 : Int32) (i_t : Nat → Int32) (r_t_wagons : Nat → Int32) (r_t_foremost : Nat → Int32) (r_t_bears : Nat → Int32) (H : Heap) (locs : List Loc) (ls : Array Slot), b_LongTrainModel_helped_52 r_t_s x1 x2 x3 x4 x5 kx_52 kr_52 x6 x7 i_t r_t_wagons r_t_foremost r_t_bears → Bd D A s.heap (wd_LongTrainModel_helped k a_t d_t i_t j_t r_t_s r_t_wagons r_t_foremost r_t_bears) H locs → lv_has ls 8 [(0, .ref a_t), (1, .int x1), (2, .int x2), (3, .int x3), (4, .int x4), (5, .int x5), (6, .int x6), (7, .int x7)] → W p l e { frames := 4, cells := 0, slots := 0, locals := 94 } s m ([.ref a_t, .int n1, .int n2, .int n3, .int n4] : List Value).toArray below meth c H locs 0 0 (Ei below (fun r w => ∃ (i_t : Nat → Int32), ∃ (r_t_wagons : Nat → Int32), ∃ (r_t_foremost : Nat → Int32), ∃ (r_t_bears : Nat → Int32), w = (wd_LongTrainModel_helped k a_t d_t i_t j_t r_t_s r_t_wagons r_t_foremost r_t_bears) ∧ Q r i_t r_t_wagons r_t_foremost r_t_bears) D k A ([.ref a_t, .int n1, .int n2, .int n3, .int n4] : List Value).toArray s 0 0) (F0 m 52 ls []) := by
  have hx := F.x
  have hb := F.b
  intro x6 x7 i_t r_t_wagons r_t_foremost r_t_bears H locs ls hf hB hl
  unfold b_LongTrainModel_helped_52 at hf
  refine lv_iload hx hb dX12_helped_52 (lv_at hl 7 rfl) ?_
  refine lv_iload hx hb dX12_helped_54 (lv_at hl 5 rfl) ?_
  refine lv_icmp_ge (tgt := 92) hx hb dX12_helped_56 (by decide) (fun c_16 => ?_) (fun c_16 => ?_)
  · replace hf := hf.1 c_16
    exact hkx_52 _ _ _ _ _ _ _ _ hf hB (lv_sub hl [6] rfl)
  · replace hf := hf.2 c_16
    refine lv_iload hx hb dX12_helped_59 (lv_at hl 6 rfl) ?_
    refine lv_aload_n hx hb dX12_helped_61 rfl (lv_at hl 0 rfl) ?_
    refine lv_iload_n hx hb dX12_helped_62 rfl (lv_at hl 1 rfl) ?_
    refine lv_iload_n hx hb dX12_helped_63 rfl (lv_at hl 2 rfl) ?_
    refine lv_iload_n hx hb dX12_helped_64 rfl (lv_at hl 3 rfl) ?_
    refine lv_iload hx hb dX12_helped_65 (lv_at hl 7 rfl) ?_
    refine lv_iload hx hb dX12_helped_67 (lv_at hl 4 rfl) ?_
    refine k_vi (wr := []) (rest := [.int x6]) F hA hB (c_LongTrainModel_isHelped l D k a_t d_t i_t j_t r_t_s r_t_wagons r_t_foremost r_t_bears x1 x2 x3 x7 x4 _  hf) ml_RX12_315 mv_yX12_isHelped [0, 1, 2, 3, 4] [] rfl rfl (by decide) (by decide) (by decide) 0 rfl rfl rfl hl.1 rfl (Nat.le_of_ble_eq_true rfl) ⟨Nat.le_of_ble_eq_true rfl, Nat.le_of_ble_eq_true rfl⟩ ⟨Nat.le_of_ble_eq_true rfl, Nat.le_of_ble_eq_true rfl⟩ dX12_helped_69 (fun z_13 w1 H locs hq hB => ?_)
    obtain ⟨h_14, i_t_9, r_t_wagons_10, r_t_foremost_11, r_t_bears_12, rfl, hf⟩ := hq
    replace hB : Bd D A s.heap (wd_LongTrainModel_helped k a_t d_t i_t_9 j_t r_t_s r_t_wagons_10 r_t_foremost_11 r_t_bears_12) H locs := hB.sub [0, 1, 2, 3, 4] (by decide) rfl
    refine lv_if_eq (tgt := 82) hx hb dX12_helped_72 (by decide) (fun c_15 => ?_) (fun c_15 => ?_)
    · replace hf := hf.1 c_15
      refine lv_iconst (v := 0) hx hb dX12_helped_82 (by decide) ?_
      refine lv_ior hx hb dX12_helped_83 ?_
      refine lv_istore (lv' := [(6, .int (x6 ||| (0 : Int32))), (0, .ref a_t), (1, .int x1), (2, .int x2), (3, .int x3), (4, .int x4), (5, .int x5), (7, .int x7)]) hx hb dX12_helped_84 hl (by decide) rfl (fun ls hl => ?_)
      refine lv_iinc (v := (x7 + 1)) (lv' := [(7, .int (x7 + 1)), (6, .int (x6 ||| (0 : Int32))), (0, .ref a_t), (1, .int x1), (2, .int x2), (3, .int x3), (4, .int x4), (5, .int x5)]) (k := 7) hx hb dX12_helped_86 hl rfl rfl (by decide) rfl (fun ls hl => ?_)
      refine lv_goto (tgt := 52) hx hb dX12_helped_89 (by decide) ?_
      exact hkr_52 _ _ _ _ _ _ _ _ _ hf hB (lv_sub hl [2, 3, 4, 5, 6, 7, 1, 0] rfl)
    · replace hf := hf.2 c_15
      refine lv_iconst (v := 1) hx hb dX12_helped_75 (by decide) ?_
      refine lv_iload hx hb dX12_helped_76 (lv_at hl 7 rfl) ?_
      refine lv_ishl hx hb dX12_helped_78 ?_
      refine lv_goto (tgt := 83) hx hb dX12_helped_79 (by decide) ?_
      refine lv_ior hx hb dX12_helped_83 ?_
      refine lv_istore (lv' := [(6, .int (x6 ||| ((1 : Int32) <<< (x7 &&& 31)))), (0, .ref a_t), (1, .int x1), (2, .int x2), (3, .int x3), (4, .int x4), (5, .int x5), (7, .int x7)]) hx hb dX12_helped_84 hl (by decide) rfl (fun ls hl => ?_)
      refine lv_iinc (v := (x7 + 1)) (lv' := [(7, .int (x7 + 1)), (6, .int (x6 ||| ((1 : Int32) <<< (x7 &&& 31)))), (0, .ref a_t), (1, .int x1), (2, .int x2), (3, .int x3), (4, .int x4), (5, .int x5)]) (k := 7) hx hb dX12_helped_86 hl rfl rfl (by decide) rfl (fun ls hl => ?_)
      refine lv_goto (tgt := 52) hx hb dX12_helped_89 (by decide) ?_
      exact hkr_52 _ _ _ _ _ _ _ _ _ hf hB (lv_sub hl [2, 3, 4, 5, 6, 7, 1, 0] rfl)

set_option maxRecDepth 100000 in
set_option maxHeartbeats 4000000 in
theorem lt_LongTrainModel_helped_52 {p : Program} {l : Launch} {e : Env} {s : State} {m : MethodId} {below : List Frame} {meth : Method} {c : Code} {A : Nat → Prop} {D : va_G} {k : Nat → ClassId} {a_t : Nat} {d_t : Nat → Nat} {j_t : Nat → Int64} {r_t_s : Nat → Int32} {n1 : Int32} {n2 : Int32} {n3 : Int32} {n4 : Int32} {Q : Int32 → (Nat → Int32) → (Nat → Int32) → (Nat → Int32) → (Nat → Int32) → Prop}  {x1 : Int32} {x2 : Int32} {x3 : Int32} {x4 : Int32} {x5 : Int32} {kx_52 : (Int32) → (Nat → Int32) → (Nat → Int32) → (Nat → Int32) → (Nat → Int32) → Prop} (F : Fx p m c cX12_helped 8 s ([.ref a_t, .int n1, .int n2, .int n3, .int n4] : List Value).toArray RX12 D k) (hr : meth.sig.returnType = (some .int)) (hlk : meth.locks = false) (hA : ∀ q : Nat, s.heap.size ≤ q → A q) (hkx_52 : ∀ (x6 : Int32) (i_t : Nat → Int32) (r_t_wagons : Nat → Int32) (r_t_foremost : Nat → Int32) (r_t_bears : Nat → Int32) (H : Heap) (locs : List Loc) (ls : Array Slot), kx_52 x6 i_t r_t_wagons r_t_foremost r_t_bears → Bd D A s.heap (wd_LongTrainModel_helped k a_t d_t i_t j_t r_t_s r_t_wagons r_t_foremost r_t_bears) H locs → lv_has ls 8 [(6, .int x6)] → W p l e { frames := 4, cells := 0, slots := 0, locals := 94 } s m ([.ref a_t, .int n1, .int n2, .int n3, .int n4] : List Value).toArray below meth c H locs 0 0 (Ei below (fun r w => ∃ (i_t : Nat → Int32), ∃ (r_t_wagons : Nat → Int32), ∃ (r_t_foremost : Nat → Int32), ∃ (r_t_bears : Nat → Int32), w = (wd_LongTrainModel_helped k a_t d_t i_t j_t r_t_s r_t_wagons r_t_foremost r_t_bears) ∧ Q r i_t r_t_wagons r_t_foremost r_t_bears) D k A ([.ref a_t, .int n1, .int n2, .int n3, .int n4] : List Value).toArray s 0 0) (F0 m 92 ls [])) :
    ∀ n : Nat, ∀ (x6 : Int32) (x7 : Int32) (i_t : Nat → Int32) (r_t_wagons : Nat → Int32) (r_t_foremost : Nat → Int32) (r_t_bears : Nat → Int32) (H : Heap) (locs : List Loc) (ls : Array Slot), lp_LongTrainModel_helped_52 r_t_s x1 x2 x3 x4 x5 kx_52 n x6 x7 i_t r_t_wagons r_t_foremost r_t_bears → Bd D A s.heap (wd_LongTrainModel_helped k a_t d_t i_t j_t r_t_s r_t_wagons r_t_foremost r_t_bears) H locs → lv_has ls 8 [(0, .ref a_t), (1, .int x1), (2, .int x2), (3, .int x3), (4, .int x4), (5, .int x5), (6, .int x6), (7, .int x7)] → W p l e { frames := 4, cells := 0, slots := 0, locals := 94 } s m ([.ref a_t, .int n1, .int n2, .int n3, .int n4] : List Value).toArray below meth c H locs 0 0 (Ei below (fun r w => ∃ (i_t : Nat → Int32), ∃ (r_t_wagons : Nat → Int32), ∃ (r_t_foremost : Nat → Int32), ∃ (r_t_bears : Nat → Int32), w = (wd_LongTrainModel_helped k a_t d_t i_t j_t r_t_s r_t_wagons r_t_foremost r_t_bears) ∧ Q r i_t r_t_wagons r_t_foremost r_t_bears) D k A ([.ref a_t, .int n1, .int n2, .int n3, .int n4] : List Value).toArray s 0 0) (F0 m 52 ls []) := by
  intro n
  induction n with
  | zero => intro x6 x7 i_t r_t_wagons r_t_foremost r_t_bears H locs ls hf; exact absurd hf (fun h => h)
  | succ n ih => exact bt_LongTrainModel_helped_52 F hr hlk hA hkx_52 ih

set_option maxRecDepth 100000 in
set_option maxHeartbeats 4000000 in
theorem c_LongTrainModel_helped (l : Launch) (D : va_G) (k : Nat → ClassId) (a_t : Nat) (d_t : Nat → Nat) (i_t : Nat → Int32) (j_t : Nat → Int64) (r_t_s : Nat → Int32) (r_t_wagons : Nat → Int32) (r_t_foremost : Nat → Int32) (r_t_bears : Nat → Int32) (n1 : Int32) (n2 : Int32) (n3 : Int32) (n4 : Int32) (Q : Int32 → (Nat → Int32) → (Nat → Int32) → (Nat → Int32) → (Nat → Int32) → Prop)  (hf : w_LongTrainModel_helped i_t r_t_s r_t_wagons r_t_foremost r_t_bears n1 n2 n3 n4 Q) : CtI l yX12_helped cX12_helped 8 (some .int) 4 94 0 0 D k [.ref a_t, .int n1, .int n2, .int n3, .int n4] (wd_LongTrainModel_helped k a_t d_t i_t j_t r_t_s r_t_wagons r_t_foremost r_t_bears) (fun r w => ∃ (i_t : Nat → Int32), ∃ (r_t_wagons : Nat → Int32), ∃ (r_t_foremost : Nat → Int32), ∃ (r_t_bears : Nat → Int32), w = (wd_LongTrainModel_helped k a_t d_t i_t j_t r_t_s r_t_wagons r_t_foremost r_t_bears) ∧ Q r i_t r_t_wagons r_t_foremost r_t_bears) := by
  refine CtI.of (by decide) (Nat.le_of_ble_eq_true rfl) ?_
  intro p e s m below meth c A F hr hlk hnm hA hB ls hl
  have hx := F.x
  have hb := F.b
  unfold w_LongTrainModel_helped at hf
  replace hl : lv_has ls 8 [(0, .ref a_t), (1, .int n1), (2, .int n2), (3, .int n3), (4, .int n4)] := hl
  refine lv_aload_n hx hb dX12_helped_0 rfl (lv_at hl 0 rfl) ?_
  refine lv_iconst (v := 0) hx hb dX12_helped_1 (by decide) ?_
  refine g_puti F hB 0 rfl fl_RX12_1 rfl (wd_LongTrainModel_helped k a_t d_t (upd i_t 0 (0 : Int32)) j_t r_t_s r_t_wagons r_t_foremost r_t_bears) rfl dX12_helped_2 (fun H locs hB => ?_)
  refine lv_aload_n hx hb dX12_helped_5 rfl (lv_at hl 0 rfl) ?_
  refine lv_iload_n hx hb dX12_helped_6 rfl (lv_at hl 1 rfl) ?_
  refine lv_iload_n hx hb dX12_helped_7 rfl (lv_at hl 2 rfl) ?_
  refine k_vi (wr := [((d_t 22), ai k 20 r_t_wagons), ((d_t 23), ai k 20 r_t_foremost), ((d_t 24), ai k 20 r_t_bears)]) (rest := []) F hA hB (c_LongTrainModel_areUnits l D k a_t d_t (upd i_t 0 (0 : Int32)) j_t r_t_s n1 n2 _  hf) ml_RX12_298 mv_yX12_areUnits [0, 1] [2, 3, 4] rfl rfl (by decide) (by decide) (by decide) 0 rfl rfl rfl hl.1 rfl (Nat.le_of_ble_eq_true rfl) ⟨Nat.le_of_ble_eq_true rfl, Nat.le_of_ble_eq_true rfl⟩ ⟨Nat.le_of_ble_eq_true rfl, Nat.le_of_ble_eq_true rfl⟩ dX12_helped_8 (fun z_1 w1 H locs hq hB => ?_)
  obtain ⟨h_2, rfl, hf⟩ := hq
  replace hB : Bd D A s.heap (wd_LongTrainModel_helped k a_t d_t (upd i_t 0 (0 : Int32)) j_t r_t_s r_t_wagons r_t_foremost r_t_bears) H locs := hB.sub [3, 4, 0, 1, 2] (by decide) rfl
  refine lv_if_eq (tgt := 33) hx hb dX12_helped_11 (by decide) (fun c_25 => ?_) (fun c_25 => ?_)
  · replace hf := hf.1 c_25
    refine lv_iconst (v := -1) hx hb dX12_helped_33 (by decide) ?_
    exact r_i F hr hlk hB ⟨_, _, _, _, rfl, hf⟩ dX12_helped_34
  · replace hf := hf.2 c_25
    refine lv_iload_n hx hb dX12_helped_14 rfl (lv_at hl 3 rfl) ?_
    refine k_si (wr := [(a_t, ob 12 (rfd d_t) (upd i_t 0 (0 : Int32)) j_t), ((d_t 6), ai k 1068 r_t_s), ((d_t 22), ai k 20 r_t_wagons), ((d_t 23), ai k 20 r_t_foremost), ((d_t 24), ai k 20 r_t_bears)]) (rest := []) F hA hB (c_LongTrainModel_isRun l D k n3 _  hf) ml_RX12_301 ms_yX12_isRun [] [0, 1, 2, 3, 4] rfl rfl (by decide) (by decide) (by decide) rfl hl.1 rfl (Nat.le_of_ble_eq_true rfl) ⟨Nat.le_of_ble_eq_true rfl, Nat.le_of_ble_eq_true rfl⟩ ⟨Nat.le_of_ble_eq_true rfl, Nat.le_of_ble_eq_true rfl⟩ dX12_helped_15 (fun z_3 w1 H locs hq hB => ?_)
    obtain ⟨h_4, rfl, hf⟩ := hq
    replace hB : Bd D A s.heap (wd_LongTrainModel_helped k a_t d_t (upd i_t 0 (0 : Int32)) j_t r_t_s r_t_wagons r_t_foremost r_t_bears) H locs := hB.sub [0, 1, 2, 3, 4] (by decide) rfl
    refine lv_if_eq (tgt := 33) hx hb dX12_helped_18 (by decide) (fun c_24 => ?_) (fun c_24 => ?_)
    · replace hf := hf.1 c_24
      refine lv_iconst (v := -1) hx hb dX12_helped_33 (by decide) ?_
      exact r_i F hr hlk hB ⟨_, _, _, _, rfl, hf⟩ dX12_helped_34
    · replace hf := hf.2 c_24
      refine lv_iload hx hb dX12_helped_21 (lv_at hl 4 rfl) ?_
      refine lv_iconst (v := 1) hx hb dX12_helped_23 (by decide) ?_
      refine lv_sipush (v := 999) hx hb dX12_helped_24 (by decide) ?_
      refine k_si (wr := [(a_t, ob 12 (rfd d_t) (upd i_t 0 (0 : Int32)) j_t), ((d_t 6), ai k 1068 r_t_s), ((d_t 22), ai k 20 r_t_wagons), ((d_t 23), ai k 20 r_t_foremost), ((d_t 24), ai k 20 r_t_bears)]) (rest := []) F hA hB (c_LongTrainModel_isIn l D k n4 (1 : Int32) (999 : Int32) _  hf) ml_RX12_182 ms_yX12_isIn [] [0, 1, 2, 3, 4] rfl rfl (by decide) (by decide) (by decide) rfl hl.1 rfl (Nat.le_of_ble_eq_true rfl) ⟨Nat.le_of_ble_eq_true rfl, Nat.le_of_ble_eq_true rfl⟩ ⟨Nat.le_of_ble_eq_true rfl, Nat.le_of_ble_eq_true rfl⟩ dX12_helped_27 (fun z_5 w1 H locs hq hB => ?_)
      obtain ⟨h_6, rfl, hf⟩ := hq
      replace hB : Bd D A s.heap (wd_LongTrainModel_helped k a_t d_t (upd i_t 0 (0 : Int32)) j_t r_t_s r_t_wagons r_t_foremost r_t_bears) H locs := hB.sub [0, 1, 2, 3, 4] (by decide) rfl
      refine lv_if_ne (tgt := 35) hx hb dX12_helped_30 (by decide) (fun c_23 => ?_) (fun c_23 => ?_)
      · replace hf := hf.1 c_23
        refine lv_aload_n hx hb dX12_helped_35 rfl (lv_at hl 0 rfl) ?_
        refine lv_iload_n hx hb dX12_helped_36 rfl (lv_at hl 1 rfl) ?_
        refine k_vv (wr := [((d_t 23), ai k 20 r_t_foremost), ((d_t 24), ai k 20 r_t_bears)]) (rest := []) F hA hB (c_LongTrainModel_free l D k a_t d_t (upd i_t 0 (0 : Int32)) j_t r_t_s r_t_wagons n1 _  hf) ml_RX12_282 mv_yX12_free [0, 1, 2] [3, 4] rfl rfl (by decide) (by decide) (by decide) 0 rfl rfl rfl hl.1 rfl (Nat.le_of_ble_eq_true rfl) ⟨Nat.le_of_ble_eq_true rfl, Nat.le_of_ble_eq_true rfl⟩ ⟨Nat.le_of_ble_eq_true rfl, Nat.le_of_ble_eq_true rfl⟩ dX12_helped_37 (fun w1 H locs hq hB => ?_)
        obtain ⟨i_t_7, r_t_wagons_8, rfl, hf⟩ := hq
        replace hB : Bd D A s.heap (wd_LongTrainModel_helped k a_t d_t i_t_7 j_t r_t_s r_t_wagons_8 r_t_foremost r_t_bears) H locs := hB.sub [2, 3, 4, 0, 1] (by decide) rfl
        refine lv_aload_n hx hb dX12_helped_40 rfl (lv_at hl 0 rfl) ?_
        refine g_get (w := .int (i_t_7 27)) F hB 0 rfl fl_RX12_270 rfl dX12_helped_41 ?_
        refine lv_istore (lv' := [(5, .int (i_t_7 27)), (0, .ref a_t), (1, .int n1), (2, .int n2), (3, .int n3), (4, .int n4)]) hx hb dX12_helped_44 hl (by decide) rfl (fun ls hl => ?_)
        refine lv_iconst (v := 0) hx hb dX12_helped_46 (by decide) ?_
        refine lv_istore (lv' := [(6, .int (0 : Int32)), (5, .int (i_t_7 27)), (0, .ref a_t), (1, .int n1), (2, .int n2), (3, .int n3), (4, .int n4)]) hx hb dX12_helped_47 hl (by decide) rfl (fun ls hl => ?_)
        refine lv_iconst (v := 0) hx hb dX12_helped_49 (by decide) ?_
        refine lv_istore (lv' := [(7, .int (0 : Int32)), (6, .int (0 : Int32)), (5, .int (i_t_7 27)), (0, .ref a_t), (1, .int n1), (2, .int n2), (3, .int n3), (4, .int n4)]) hx hb dX12_helped_50 hl (by decide) rfl (fun ls hl => ?_)
        obtain ⟨n_22, hf⟩ := hf
        refine lt_LongTrainModel_helped_52 F hr hlk hA (fun x6_17 i_t_18 r_t_wagons_19 r_t_foremost_20 r_t_bears_21 H locs ls hf hB hl => ?_) n_22 _ _ _ _ _ _ _ _ _ hf hB (lv_sub hl [3, 4, 5, 6, 7, 2, 1, 0] rfl)
        refine lv_iload hx hb dX12_helped_92 (lv_at hl 0 rfl) ?_
        exact r_i F hr hlk hB ⟨_, _, _, _, rfl, hf⟩ dX12_helped_94
      · replace hf := hf.2 c_23
        refine lv_iconst (v := -1) hx hb dX12_helped_33 (by decide) ?_
        exact r_i F hr hlk hB ⟨_, _, _, _, rfl, hf⟩ dX12_helped_34

/-! LongTrainModel.inserts -/
set_option maxRecDepth 100000 in
set_option maxHeartbeats 4000000 in
theorem bt_LongTrainModel_inserts_6 {p : Program} {l : Launch} {e : Env} {s : State} {m : MethodId} {below : List Frame} {meth : Method} {c : Code} {A : Nat → Prop} {D : va_G} {k : Nat → ClassId} {a_t : Nat} {d_t : Nat → Nat} {i_t : Nat → Int32} {j_t : Nat → Int64} {n1 : Int32} {n2 : Int32} {n3 : Int32} {Q : (Nat → Int32) → (Nat → Int32) → (Nat → Int32) → (Nat → Int32) → Prop}  {x1 : Int32} {x2 : Int32} {x3 : Int32} {kx_6 : (Nat → Int32) → (Nat → Int32) → (Nat → Int32) → Prop} {kr_6 : (Int32) → (Nat → Int32) → (Nat → Int32) → (Nat → Int32) → Prop} (F : Fx p m c cX12_inserts 5 s ([.ref a_t, .int n1, .int n2, .int n3] : List Value).toArray RX12 D k) (hr : meth.sig.returnType = none) (hlk : meth.locks = false) (hA : ∀ q : Nat, s.heap.size ≤ q → A q) (hkx_6 : ∀ (r_t_wagons : Nat → Int32) (r_t_strengths : Nat → Int32) (r_t_worn : Nat → Int32) (H : Heap) (locs : List Loc) (ls : Array Slot), kx_6 r_t_wagons r_t_strengths r_t_worn → Bd D A s.heap (wd_LongTrainModel_inserts k a_t d_t i_t j_t r_t_wagons r_t_strengths r_t_worn) H locs → lv_has ls 5 [(0, .ref a_t), (1, .int x1), (2, .int x2), (3, .int x3)] → W p l e { frames := 0, cells := 0, slots := 0, locals := 0 } s m ([.ref a_t, .int n1, .int n2, .int n3] : List Value).toArray below meth c H locs 0 0 (Ev below (fun w => ∃ (i_t : Nat → Int32), ∃ (r_t_wagons : Nat → Int32), ∃ (r_t_strengths : Nat → Int32), ∃ (r_t_worn : Nat → Int32), w = (wd_LongTrainModel_inserts k a_t d_t i_t j_t r_t_wagons r_t_strengths r_t_worn) ∧ Q i_t r_t_wagons r_t_strengths r_t_worn) D k A ([.ref a_t, .int n1, .int n2, .int n3] : List Value).toArray s 0 0) (F0 m 66 ls [])) (hkr_6 : ∀ (x4 : Int32) (r_t_wagons : Nat → Int32) (r_t_strengths : Nat → Int32) (r_t_worn : Nat → Int32) (H : Heap) (locs : List Loc) (ls : Array Slot), kr_6 x4 r_t_wagons r_t_strengths r_t_worn → Bd D A s.heap (wd_LongTrainModel_inserts k a_t d_t i_t j_t r_t_wagons r_t_strengths r_t_worn) H locs → lv_has ls 5 [(0, .ref a_t), (1, .int x1), (2, .int x2), (3, .int x3), (4, .int x4)] → W p l e { frames := 0, cells := 0, slots := 0, locals := 0 } s m ([.ref a_t, .int n1, .int n2, .int n3] : List Value).toArray below meth c H locs 0 0 (Ev below (fun w => ∃ (i_t : Nat → Int32), ∃ (r_t_wagons : Nat → Int32), ∃ (r_t_strengths : Nat → Int32), ∃ (r_t_worn : Nat → Int32), w = (wd_LongTrainModel_inserts k a_t d_t i_t j_t r_t_wagons r_t_strengths r_t_worn) ∧ Q i_t r_t_wagons r_t_strengths r_t_worn) D k A ([.ref a_t, .int n1, .int n2, .int n3] : List Value).toArray s 0 0) (F0 m 6 ls [])) :
    ∀ (x4 : Int32) (r_t_wagons : Nat → Int32) (r_t_strengths : Nat → Int32) (r_t_worn : Nat → Int32) (H : Heap) (locs : List Loc) (ls : Array Slot), b_LongTrainModel_inserts_6 x1 kx_6 kr_6 x4 r_t_wagons r_t_strengths r_t_worn → Bd D A s.heap (wd_LongTrainModel_inserts k a_t d_t i_t j_t r_t_wagons r_t_strengths r_t_worn) H locs → lv_has ls 5 [(0, .ref a_t), (1, .int x1), (2, .int x2), (3, .int x3), (4, .int x4)] → W p l e { frames := 0, cells := 0, slots := 0, locals := 0 } s m ([.ref a_t, .int n1, .int n2, .int n3] : List Value).toArray below meth c H locs 0 0 (Ev below (fun w => ∃ (i_t : Nat → Int32), ∃ (r_t_wagons : Nat → Int32), ∃ (r_t_strengths : Nat → Int32), ∃ (r_t_worn : Nat → Int32), w = (wd_LongTrainModel_inserts k a_t d_t i_t j_t r_t_wagons r_t_strengths r_t_worn) ∧ Q i_t r_t_wagons r_t_strengths r_t_worn) D k A ([.ref a_t, .int n1, .int n2, .int n3] : List Value).toArray s 0 0) (F0 m 6 ls []) := by
  have hx := F.x
  have hb := F.b
  intro x4 r_t_wagons r_t_strengths r_t_worn H locs ls hf hB hl
  unfold b_LongTrainModel_inserts_6 at hf
  refine lv_iload hx hb dX12_inserts_6 (lv_at hl 4 rfl) ?_
  refine lv_iload_n hx hb dX12_inserts_8 rfl (lv_at hl 1 rfl) ?_
  refine lv_icmp_le (tgt := 66) hx hb dX12_inserts_9 (by decide) (fun c_7 => ?_) (fun c_7 => ?_)
  · replace hf := hf.1 c_7
    exact hkx_6 _ _ _ _ _ _ hf hB (lv_sub hl [0, 1, 2, 3] rfl)
  · replace hf := hf.2 c_7
    refine lv_aload_n hx hb dX12_inserts_12 rfl (lv_at hl 0 rfl) ?_
    refine g_get (w := .ref (d_t 22)) F hB 0 rfl fl_RX12_50 rfl dX12_inserts_13 ?_
    refine lv_iload hx hb dX12_inserts_16 (lv_at hl 4 rfl) ?_
    refine lv_aload_n hx hb dX12_inserts_18 rfl (lv_at hl 0 rfl) ?_
    refine g_get (w := .ref (d_t 22)) F hB 0 rfl fl_RX12_50 rfl dX12_inserts_19 ?_
    refine lv_iload hx hb dX12_inserts_22 (lv_at hl 4 rfl) ?_
    refine lv_iconst (v := 1) hx hb dX12_inserts_24 (by decide) ?_
    refine lv_isub hx hb dX12_inserts_25 ?_
    obtain ⟨h_1, hf⟩ := hf
    refine g_iald F hB 1 rfl h_1 dX12_inserts_26 ?_
    obtain ⟨h_2, hf⟩ := hf
    refine g_iast F hB 1 rfl h_2 (wd_LongTrainModel_inserts k a_t d_t i_t j_t (upd r_t_wagons (x4).toNatClampNeg (r_t_wagons ((x4 - (1 : Int32))).toNatClampNeg)) r_t_strengths r_t_worn) rfl dX12_inserts_27 (fun H locs hB => ?_)
    refine lv_aload_n hx hb dX12_inserts_28 rfl (lv_at hl 0 rfl) ?_
    refine g_get (w := .ref (d_t 25)) F hB 0 rfl fl_RX12_59 rfl dX12_inserts_29 ?_
    refine lv_iload hx hb dX12_inserts_32 (lv_at hl 4 rfl) ?_
    refine lv_aload_n hx hb dX12_inserts_34 rfl (lv_at hl 0 rfl) ?_
    refine g_get (w := .ref (d_t 25)) F hB 0 rfl fl_RX12_59 rfl dX12_inserts_35 ?_
    refine lv_iload hx hb dX12_inserts_38 (lv_at hl 4 rfl) ?_
    refine lv_iconst (v := 1) hx hb dX12_inserts_40 (by decide) ?_
    refine lv_isub hx hb dX12_inserts_41 ?_
    obtain ⟨h_3, hf⟩ := hf
    refine g_iald F hB 2 rfl h_3 dX12_inserts_42 ?_
    obtain ⟨h_4, hf⟩ := hf
    refine g_iast F hB 2 rfl h_4 (wd_LongTrainModel_inserts k a_t d_t i_t j_t (upd r_t_wagons (x4).toNatClampNeg (r_t_wagons ((x4 - (1 : Int32))).toNatClampNeg)) (upd r_t_strengths (x4).toNatClampNeg (r_t_strengths ((x4 - (1 : Int32))).toNatClampNeg)) r_t_worn) rfl dX12_inserts_43 (fun H locs hB => ?_)
    refine lv_aload_n hx hb dX12_inserts_44 rfl (lv_at hl 0 rfl) ?_
    refine g_get (w := .ref (d_t 26)) F hB 0 rfl fl_RX12_62 rfl dX12_inserts_45 ?_
    refine lv_iload hx hb dX12_inserts_48 (lv_at hl 4 rfl) ?_
    refine lv_aload_n hx hb dX12_inserts_50 rfl (lv_at hl 0 rfl) ?_
    refine g_get (w := .ref (d_t 26)) F hB 0 rfl fl_RX12_62 rfl dX12_inserts_51 ?_
    refine lv_iload hx hb dX12_inserts_54 (lv_at hl 4 rfl) ?_
    refine lv_iconst (v := 1) hx hb dX12_inserts_56 (by decide) ?_
    refine lv_isub hx hb dX12_inserts_57 ?_
    obtain ⟨h_5, hf⟩ := hf
    refine g_iald F hB 3 rfl h_5 dX12_inserts_58 ?_
    obtain ⟨h_6, hf⟩ := hf
    refine g_iast F hB 3 rfl h_6 (wd_LongTrainModel_inserts k a_t d_t i_t j_t (upd r_t_wagons (x4).toNatClampNeg (r_t_wagons ((x4 - (1 : Int32))).toNatClampNeg)) (upd r_t_strengths (x4).toNatClampNeg (r_t_strengths ((x4 - (1 : Int32))).toNatClampNeg)) (upd r_t_worn (x4).toNatClampNeg (r_t_worn ((x4 - (1 : Int32))).toNatClampNeg))) rfl dX12_inserts_59 (fun H locs hB => ?_)
    refine lv_iinc (v := (x4 + (-1))) (lv' := [(4, .int (x4 + (-1))), (0, .ref a_t), (1, .int x1), (2, .int x2), (3, .int x3)]) (k := 4) hx hb dX12_inserts_60 hl rfl rfl (by decide) rfl (fun ls hl => ?_)
    refine lv_goto (tgt := 6) hx hb dX12_inserts_63 (by decide) ?_
    exact hkr_6 _ _ _ _ _ _ _ hf hB (lv_sub hl [1, 2, 3, 4, 0] rfl)

set_option maxRecDepth 100000 in
set_option maxHeartbeats 4000000 in
theorem lt_LongTrainModel_inserts_6 {p : Program} {l : Launch} {e : Env} {s : State} {m : MethodId} {below : List Frame} {meth : Method} {c : Code} {A : Nat → Prop} {D : va_G} {k : Nat → ClassId} {a_t : Nat} {d_t : Nat → Nat} {i_t : Nat → Int32} {j_t : Nat → Int64} {n1 : Int32} {n2 : Int32} {n3 : Int32} {Q : (Nat → Int32) → (Nat → Int32) → (Nat → Int32) → (Nat → Int32) → Prop}  {x1 : Int32} {x2 : Int32} {x3 : Int32} {kx_6 : (Nat → Int32) → (Nat → Int32) → (Nat → Int32) → Prop} (F : Fx p m c cX12_inserts 5 s ([.ref a_t, .int n1, .int n2, .int n3] : List Value).toArray RX12 D k) (hr : meth.sig.returnType = none) (hlk : meth.locks = false) (hA : ∀ q : Nat, s.heap.size ≤ q → A q) (hkx_6 : ∀ (r_t_wagons : Nat → Int32) (r_t_strengths : Nat → Int32) (r_t_worn : Nat → Int32) (H : Heap) (locs : List Loc) (ls : Array Slot), kx_6 r_t_wagons r_t_strengths r_t_worn → Bd D A s.heap (wd_LongTrainModel_inserts k a_t d_t i_t j_t r_t_wagons r_t_strengths r_t_worn) H locs → lv_has ls 5 [(0, .ref a_t), (1, .int x1), (2, .int x2), (3, .int x3)] → W p l e { frames := 0, cells := 0, slots := 0, locals := 0 } s m ([.ref a_t, .int n1, .int n2, .int n3] : List Value).toArray below meth c H locs 0 0 (Ev below (fun w => ∃ (i_t : Nat → Int32), ∃ (r_t_wagons : Nat → Int32), ∃ (r_t_strengths : Nat → Int32), ∃ (r_t_worn : Nat → Int32), w = (wd_LongTrainModel_inserts k a_t d_t i_t j_t r_t_wagons r_t_strengths r_t_worn) ∧ Q i_t r_t_wagons r_t_strengths r_t_worn) D k A ([.ref a_t, .int n1, .int n2, .int n3] : List Value).toArray s 0 0) (F0 m 66 ls [])) :
    ∀ n : Nat, ∀ (x4 : Int32) (r_t_wagons : Nat → Int32) (r_t_strengths : Nat → Int32) (r_t_worn : Nat → Int32) (H : Heap) (locs : List Loc) (ls : Array Slot), lp_LongTrainModel_inserts_6 x1 kx_6 n x4 r_t_wagons r_t_strengths r_t_worn → Bd D A s.heap (wd_LongTrainModel_inserts k a_t d_t i_t j_t r_t_wagons r_t_strengths r_t_worn) H locs → lv_has ls 5 [(0, .ref a_t), (1, .int x1), (2, .int x2), (3, .int x3), (4, .int x4)] → W p l e { frames := 0, cells := 0, slots := 0, locals := 0 } s m ([.ref a_t, .int n1, .int n2, .int n3] : List Value).toArray below meth c H locs 0 0 (Ev below (fun w => ∃ (i_t : Nat → Int32), ∃ (r_t_wagons : Nat → Int32), ∃ (r_t_strengths : Nat → Int32), ∃ (r_t_worn : Nat → Int32), w = (wd_LongTrainModel_inserts k a_t d_t i_t j_t r_t_wagons r_t_strengths r_t_worn) ∧ Q i_t r_t_wagons r_t_strengths r_t_worn) D k A ([.ref a_t, .int n1, .int n2, .int n3] : List Value).toArray s 0 0) (F0 m 6 ls []) := by
  intro n
  induction n with
  | zero => intro x4 r_t_wagons r_t_strengths r_t_worn H locs ls hf; exact absurd hf (fun h => h)
  | succ n ih => exact bt_LongTrainModel_inserts_6 F hr hlk hA hkx_6 ih

set_option maxRecDepth 100000 in
set_option maxHeartbeats 4000000 in
theorem c_LongTrainModel_inserts (l : Launch) (D : va_G) (k : Nat → ClassId) (a_t : Nat) (d_t : Nat → Nat) (i_t : Nat → Int32) (j_t : Nat → Int64) (r_t_wagons : Nat → Int32) (r_t_strengths : Nat → Int32) (r_t_worn : Nat → Int32) (n1 : Int32) (n2 : Int32) (n3 : Int32) (Q : (Nat → Int32) → (Nat → Int32) → (Nat → Int32) → (Nat → Int32) → Prop)  (hf : w_LongTrainModel_inserts i_t r_t_wagons r_t_strengths r_t_worn n1 n2 n3 Q) : CtV l yX12_inserts cX12_inserts 5 none 0 0 0 0 D k [.ref a_t, .int n1, .int n2, .int n3] (wd_LongTrainModel_inserts k a_t d_t i_t j_t r_t_wagons r_t_strengths r_t_worn) (fun w => ∃ (i_t : Nat → Int32), ∃ (r_t_wagons : Nat → Int32), ∃ (r_t_strengths : Nat → Int32), ∃ (r_t_worn : Nat → Int32), w = (wd_LongTrainModel_inserts k a_t d_t i_t j_t r_t_wagons r_t_strengths r_t_worn) ∧ Q i_t r_t_wagons r_t_strengths r_t_worn) := by
  refine CtV.of (by decide) (Nat.le_of_ble_eq_true rfl) ?_
  intro p e s m below meth c A F hr hlk hnm hA hB ls hl
  have hx := F.x
  have hb := F.b
  unfold w_LongTrainModel_inserts at hf
  replace hl : lv_has ls 5 [(0, .ref a_t), (1, .int n1), (2, .int n2), (3, .int n3)] := hl
  refine lv_aload_n hx hb dX12_inserts_0 rfl (lv_at hl 0 rfl) ?_
  refine g_get (w := .int (i_t 27)) F hB 0 rfl fl_RX12_270 rfl dX12_inserts_1 ?_
  refine lv_istore (lv' := [(4, .int (i_t 27)), (0, .ref a_t), (1, .int n1), (2, .int n2), (3, .int n3)]) hx hb dX12_inserts_4 hl (by decide) rfl (fun ls hl => ?_)
  obtain ⟨n_14, hf⟩ := hf
  refine lt_LongTrainModel_inserts_6 F hr hlk hA (fun r_t_wagons_8 r_t_strengths_9 r_t_worn_10 H locs ls hf hB hl => ?_) n_14 _ _ _ _ _ _ _ hf hB (lv_sub hl [1, 2, 3, 4, 0] rfl)
  refine lv_aload_n hx hb dX12_inserts_66 rfl (lv_at hl 0 rfl) ?_
  refine g_get (w := .ref (d_t 22)) F hB 0 rfl fl_RX12_50 rfl dX12_inserts_67 ?_
  refine lv_iload_n hx hb dX12_inserts_70 rfl (lv_at hl 1 rfl) ?_
  refine lv_iload_n hx hb dX12_inserts_71 rfl (lv_at hl 2 rfl) ?_
  obtain ⟨h_11, hf⟩ := hf
  refine g_iast F hB 1 rfl h_11 (wd_LongTrainModel_inserts k a_t d_t i_t j_t (upd r_t_wagons_8 (n1).toNatClampNeg n2) r_t_strengths_9 r_t_worn_10) rfl dX12_inserts_72 (fun H locs hB => ?_)
  refine lv_aload_n hx hb dX12_inserts_73 rfl (lv_at hl 0 rfl) ?_
  refine g_get (w := .ref (d_t 25)) F hB 0 rfl fl_RX12_59 rfl dX12_inserts_74 ?_
  refine lv_iload_n hx hb dX12_inserts_77 rfl (lv_at hl 1 rfl) ?_
  refine lv_iload_n hx hb dX12_inserts_78 rfl (lv_at hl 3 rfl) ?_
  obtain ⟨h_12, hf⟩ := hf
  refine g_iast F hB 2 rfl h_12 (wd_LongTrainModel_inserts k a_t d_t i_t j_t (upd r_t_wagons_8 (n1).toNatClampNeg n2) (upd r_t_strengths_9 (n1).toNatClampNeg n3) r_t_worn_10) rfl dX12_inserts_79 (fun H locs hB => ?_)
  refine lv_aload_n hx hb dX12_inserts_80 rfl (lv_at hl 0 rfl) ?_
  refine g_get (w := .ref (d_t 26)) F hB 0 rfl fl_RX12_62 rfl dX12_inserts_81 ?_
  refine lv_iload_n hx hb dX12_inserts_84 rfl (lv_at hl 1 rfl) ?_
  refine lv_iconst (v := 0) hx hb dX12_inserts_85 (by decide) ?_
  obtain ⟨h_13, hf⟩ := hf
  refine g_iast F hB 3 rfl h_13 (wd_LongTrainModel_inserts k a_t d_t i_t j_t (upd r_t_wagons_8 (n1).toNatClampNeg n2) (upd r_t_strengths_9 (n1).toNatClampNeg n3) (upd r_t_worn_10 (n1).toNatClampNeg (0 : Int32))) rfl dX12_inserts_86 (fun H locs hB => ?_)
  refine lv_aload_n hx hb dX12_inserts_87 rfl (lv_at hl 0 rfl) ?_
  refine lv_dup hx hb dX12_inserts_88 rfl ?_
  refine g_get (w := .int (i_t 27)) F hB 0 rfl fl_RX12_270 rfl dX12_inserts_89 ?_
  refine lv_iconst (v := 1) hx hb dX12_inserts_92 (by decide) ?_
  refine lv_iadd hx hb dX12_inserts_93 ?_
  refine g_puti F hB 0 rfl fl_RX12_270 rfl (wd_LongTrainModel_inserts k a_t d_t (upd i_t 27 ((i_t 27) + (1 : Int32))) j_t (upd r_t_wagons_8 (n1).toNatClampNeg n2) (upd r_t_strengths_9 (n1).toNatClampNeg n3) (upd r_t_worn_10 (n1).toNatClampNeg (0 : Int32))) rfl dX12_inserts_94 (fun H locs hB => ?_)
  exact r_v F hr hlk hB ⟨_, _, _, _, rfl, hf⟩ dX12_inserts_97

/-! LongTrainModel.starts -/
set_option maxRecDepth 100000 in
set_option maxHeartbeats 4000000 in
theorem bt_LongTrainModel_starts_7 {p : Program} {l : Launch} {e : Env} {s : State} {m : MethodId} {below : List Frame} {meth : Method} {c : Code} {A : Nat → Prop} {D : va_G} {k : Nat → ClassId} {a_t : Nat} {d_t : Nat → Nat} {j_t : Nat → Int64} {r_t_s : Nat → Int32}  {Q : (Nat → Int32) → (Nat → Int32) → (Nat → Int32) → (Nat → Int32) → Prop}  {kx_7 : (Nat → Int32) → (Nat → Int32) → (Nat → Int32) → (Nat → Int32) → Prop} {kr_7 : (Int32) → (Nat → Int32) → (Nat → Int32) → (Nat → Int32) → (Nat → Int32) → Prop} (F : Fx p m c cX12_starts 2 s ([.ref a_t] : List Value).toArray RX12 D k) (hr : meth.sig.returnType = none) (hlk : meth.locks = false) (hA : ∀ q : Nat, s.heap.size ≤ q → A q) (hkx_7 : ∀ (i_t : Nat → Int32) (r_t_wagons : Nat → Int32) (r_t_strengths : Nat → Int32) (r_t_worn : Nat → Int32) (H : Heap) (locs : List Loc) (ls : Array Slot), kx_7 i_t r_t_wagons r_t_strengths r_t_worn → Bd D A s.heap (wd_LongTrainModel_starts k a_t d_t i_t j_t r_t_s r_t_wagons r_t_strengths r_t_worn) H locs → lv_has ls 2 [] → W p l e { frames := 1, cells := 0, slots := 0, locals := 24 } s m ([.ref a_t] : List Value).toArray below meth c H locs 0 0 (Ev below (fun w => ∃ (i_t : Nat → Int32), ∃ (r_t_wagons : Nat → Int32), ∃ (r_t_strengths : Nat → Int32), ∃ (r_t_worn : Nat → Int32), w = (wd_LongTrainModel_starts k a_t d_t i_t j_t r_t_s r_t_wagons r_t_strengths r_t_worn) ∧ Q i_t r_t_wagons r_t_strengths r_t_worn) D k A ([.ref a_t] : List Value).toArray s 0 0) (F0 m 53 ls [])) (hkr_7 : ∀ (x1 : Int32) (i_t : Nat → Int32) (r_t_wagons : Nat → Int32) (r_t_strengths : Nat → Int32) (r_t_worn : Nat → Int32) (H : Heap) (locs : List Loc) (ls : Array Slot), kr_7 x1 i_t r_t_wagons r_t_strengths r_t_worn → Bd D A s.heap (wd_LongTrainModel_starts k a_t d_t i_t j_t r_t_s r_t_wagons r_t_strengths r_t_worn) H locs → lv_has ls 2 [(0, .ref a_t), (1, .int x1)] → W p l e { frames := 1, cells := 0, slots := 0, locals := 24 } s m ([.ref a_t] : List Value).toArray below meth c H locs 0 0 (Ev below (fun w => ∃ (i_t : Nat → Int32), ∃ (r_t_wagons : Nat → Int32), ∃ (r_t_strengths : Nat → Int32), ∃ (r_t_worn : Nat → Int32), w = (wd_LongTrainModel_starts k a_t d_t i_t j_t r_t_s r_t_wagons r_t_strengths r_t_worn) ∧ Q i_t r_t_wagons r_t_strengths r_t_worn) D k A ([.ref a_t] : List Value).toArray s 0 0) (F0 m 7 ls [])) :
    ∀ (x1 : Int32) (i_t : Nat → Int32) (r_t_wagons : Nat → Int32) (r_t_strengths : Nat → Int32) (r_t_worn : Nat → Int32) (H : Heap) (locs : List Loc) (ls : Array Slot), b_LongTrainModel_starts_7 r_t_s kx_7 kr_7 x1 i_t r_t_wagons r_t_strengths r_t_worn → Bd D A s.heap (wd_LongTrainModel_starts k a_t d_t i_t j_t r_t_s r_t_wagons r_t_strengths r_t_worn) H locs → lv_has ls 2 [(0, .ref a_t), (1, .int x1)] → W p l e { frames := 1, cells := 0, slots := 0, locals := 24 } s m ([.ref a_t] : List Value).toArray below meth c H locs 0 0 (Ev below (fun w => ∃ (i_t : Nat → Int32), ∃ (r_t_wagons : Nat → Int32), ∃ (r_t_strengths : Nat → Int32), ∃ (r_t_worn : Nat → Int32), w = (wd_LongTrainModel_starts k a_t d_t i_t j_t r_t_s r_t_wagons r_t_strengths r_t_worn) ∧ Q i_t r_t_wagons r_t_strengths r_t_worn) D k A ([.ref a_t] : List Value).toArray s 0 0) (F0 m 7 ls []) := by
  have hx := F.x
  have hb := F.b
  intro x1 i_t r_t_wagons r_t_strengths r_t_worn H locs ls hf hB hl
  unfold b_LongTrainModel_starts_7 at hf
  refine lv_iload_n hx hb dX12_starts_7 rfl (lv_at hl 1 rfl) ?_
  refine lv_aload_n hx hb dX12_starts_8 rfl (lv_at hl 0 rfl) ?_
  refine g_get (w := .ref (d_t 6)) F hB 0 rfl fl_RX12_33 rfl dX12_starts_9 ?_
  refine lv_bipush (v := 10) hx hb dX12_starts_12 (by decide) ?_
  refine g_iald F hB 1 rfl (vp_in_iff.mpr (by decide +kernel)) dX12_starts_14 ?_
  refine W.eq (g2 := F0 m 15 ls [.int (r_t_s 10), .int x1]) rfl ?_
  refine lv_icmp_ge (tgt := 53) hx hb dX12_starts_15 (by decide) (fun c_9 => ?_) (fun c_9 => ?_)
  · replace hf := hf.1 c_9
    exact hkx_7 _ _ _ _ _ _ _ hf hB (lv_sub hl [] rfl)
  · replace hf := hf.2 c_9
    refine lv_aload_n hx hb dX12_starts_18 rfl (lv_at hl 0 rfl) ?_
    refine lv_iload_n hx hb dX12_starts_19 rfl (lv_at hl 1 rfl) ?_
    refine lv_aload_n hx hb dX12_starts_20 rfl (lv_at hl 0 rfl) ?_
    refine g_get (w := .ref (d_t 6)) F hB 0 rfl fl_RX12_33 rfl dX12_starts_21 ?_
    refine lv_sipush (v := 475) hx hb dX12_starts_24 (by decide) ?_
    refine lv_iload_n hx hb dX12_starts_27 rfl (lv_at hl 1 rfl) ?_
    refine lv_iadd hx hb dX12_starts_28 ?_
    obtain ⟨h_2, hf⟩ := hf
    refine g_iald F hB 1 rfl h_2 dX12_starts_29 ?_
    refine lv_aload_n hx hb dX12_starts_30 rfl (lv_at hl 0 rfl) ?_
    refine lv_aload_n hx hb dX12_starts_31 rfl (lv_at hl 0 rfl) ?_
    refine g_get (w := .ref (d_t 6)) F hB 0 rfl fl_RX12_33 rfl dX12_starts_32 ?_
    refine lv_sipush (v := 475) hx hb dX12_starts_35 (by decide) ?_
    refine lv_iload_n hx hb dX12_starts_38 rfl (lv_at hl 1 rfl) ?_
    refine lv_iadd hx hb dX12_starts_39 ?_
    obtain ⟨h_3, hf⟩ := hf
    refine g_iald F hB 1 rfl h_3 dX12_starts_40 ?_
    refine k_vi (wr := [((d_t 22), ai k 20 r_t_wagons), ((d_t 25), ai k 20 r_t_strengths), ((d_t 26), ai k 20 r_t_worn)]) (rest := [.int (r_t_s (((475 : Int32) + x1)).toNatClampNeg), .int x1, .ref a_t]) F hA hB (c_LongTrainModel_strengthOf l D k a_t d_t i_t j_t r_t_s (r_t_s (((475 : Int32) + x1)).toNatClampNeg) _  hf) ml_RX12_312 mv_yX12_strengthOf [0, 1] [2, 3, 4] rfl rfl (by decide) (by decide) (by decide) 0 rfl rfl rfl hl.1 rfl (Nat.le_of_ble_eq_true rfl) ⟨Nat.le_of_ble_eq_true rfl, Nat.le_of_ble_eq_true rfl⟩ ⟨Nat.le_of_ble_eq_true rfl, Nat.le_of_ble_eq_true rfl⟩ dX12_starts_41 (fun z_4 w1 H locs hq hB => ?_)
    obtain ⟨rfl, hf⟩ := hq
    replace hB : Bd D A s.heap (wd_LongTrainModel_starts k a_t d_t i_t j_t r_t_s r_t_wagons r_t_strengths r_t_worn) H locs := hB.sub [3, 4, 0, 1, 2] (by decide) rfl
    refine k_vv (wr := [((d_t 6), ai k 1068 r_t_s)]) (rest := []) F hA hB (c_LongTrainModel_inserts l D k a_t d_t i_t j_t r_t_wagons r_t_strengths r_t_worn x1 (r_t_s (((475 : Int32) + x1)).toNatClampNeg) z_4 _  hf) ml_RX12_319 mv_yX12_inserts [0, 2, 3, 4] [1] rfl rfl (by decide) (by decide) (by decide) 0 rfl rfl rfl hl.1 rfl (Nat.le_of_ble_eq_true rfl) ⟨Nat.le_of_ble_eq_true rfl, Nat.le_of_ble_eq_true rfl⟩ ⟨Nat.le_of_ble_eq_true rfl, Nat.le_of_ble_eq_true rfl⟩ dX12_starts_44 (fun w1 H locs hq hB => ?_)
    obtain ⟨i_t_5, r_t_wagons_6, r_t_strengths_7, r_t_worn_8, rfl, hf⟩ := hq
    replace hB : Bd D A s.heap (wd_LongTrainModel_starts k a_t d_t i_t_5 j_t r_t_s r_t_wagons_6 r_t_strengths_7 r_t_worn_8) H locs := hB.sub [1, 0, 2, 3, 4] (by decide) rfl
    refine lv_iinc (v := (x1 + 1)) (lv' := [(1, .int (x1 + 1)), (0, .ref a_t)]) (k := 1) hx hb dX12_starts_47 hl rfl rfl (by decide) rfl (fun ls hl => ?_)
    refine lv_goto (tgt := 7) hx hb dX12_starts_50 (by decide) ?_
    exact hkr_7 _ _ _ _ _ _ _ _ hf hB (lv_sub hl [1, 0] rfl)

set_option maxRecDepth 100000 in
set_option maxHeartbeats 4000000 in
theorem lt_LongTrainModel_starts_7 {p : Program} {l : Launch} {e : Env} {s : State} {m : MethodId} {below : List Frame} {meth : Method} {c : Code} {A : Nat → Prop} {D : va_G} {k : Nat → ClassId} {a_t : Nat} {d_t : Nat → Nat} {j_t : Nat → Int64} {r_t_s : Nat → Int32}  {Q : (Nat → Int32) → (Nat → Int32) → (Nat → Int32) → (Nat → Int32) → Prop}  {kx_7 : (Nat → Int32) → (Nat → Int32) → (Nat → Int32) → (Nat → Int32) → Prop} (F : Fx p m c cX12_starts 2 s ([.ref a_t] : List Value).toArray RX12 D k) (hr : meth.sig.returnType = none) (hlk : meth.locks = false) (hA : ∀ q : Nat, s.heap.size ≤ q → A q) (hkx_7 : ∀ (i_t : Nat → Int32) (r_t_wagons : Nat → Int32) (r_t_strengths : Nat → Int32) (r_t_worn : Nat → Int32) (H : Heap) (locs : List Loc) (ls : Array Slot), kx_7 i_t r_t_wagons r_t_strengths r_t_worn → Bd D A s.heap (wd_LongTrainModel_starts k a_t d_t i_t j_t r_t_s r_t_wagons r_t_strengths r_t_worn) H locs → lv_has ls 2 [] → W p l e { frames := 1, cells := 0, slots := 0, locals := 24 } s m ([.ref a_t] : List Value).toArray below meth c H locs 0 0 (Ev below (fun w => ∃ (i_t : Nat → Int32), ∃ (r_t_wagons : Nat → Int32), ∃ (r_t_strengths : Nat → Int32), ∃ (r_t_worn : Nat → Int32), w = (wd_LongTrainModel_starts k a_t d_t i_t j_t r_t_s r_t_wagons r_t_strengths r_t_worn) ∧ Q i_t r_t_wagons r_t_strengths r_t_worn) D k A ([.ref a_t] : List Value).toArray s 0 0) (F0 m 53 ls [])) :
    ∀ n : Nat, ∀ (x1 : Int32) (i_t : Nat → Int32) (r_t_wagons : Nat → Int32) (r_t_strengths : Nat → Int32) (r_t_worn : Nat → Int32) (H : Heap) (locs : List Loc) (ls : Array Slot), lp_LongTrainModel_starts_7 r_t_s kx_7 n x1 i_t r_t_wagons r_t_strengths r_t_worn → Bd D A s.heap (wd_LongTrainModel_starts k a_t d_t i_t j_t r_t_s r_t_wagons r_t_strengths r_t_worn) H locs → lv_has ls 2 [(0, .ref a_t), (1, .int x1)] → W p l e { frames := 1, cells := 0, slots := 0, locals := 24 } s m ([.ref a_t] : List Value).toArray below meth c H locs 0 0 (Ev below (fun w => ∃ (i_t : Nat → Int32), ∃ (r_t_wagons : Nat → Int32), ∃ (r_t_strengths : Nat → Int32), ∃ (r_t_worn : Nat → Int32), w = (wd_LongTrainModel_starts k a_t d_t i_t j_t r_t_s r_t_wagons r_t_strengths r_t_worn) ∧ Q i_t r_t_wagons r_t_strengths r_t_worn) D k A ([.ref a_t] : List Value).toArray s 0 0) (F0 m 7 ls []) := by
  intro n
  induction n with
  | zero => intro x1 i_t r_t_wagons r_t_strengths r_t_worn H locs ls hf; exact absurd hf (fun h => h)
  | succ n ih => exact bt_LongTrainModel_starts_7 F hr hlk hA hkx_7 ih

set_option maxRecDepth 100000 in
set_option maxHeartbeats 4000000 in
theorem c_LongTrainModel_starts (l : Launch) (D : va_G) (k : Nat → ClassId) (a_t : Nat) (d_t : Nat → Nat) (i_t : Nat → Int32) (j_t : Nat → Int64) (r_t_s : Nat → Int32) (r_t_wagons : Nat → Int32) (r_t_strengths : Nat → Int32) (r_t_worn : Nat → Int32)  (Q : (Nat → Int32) → (Nat → Int32) → (Nat → Int32) → (Nat → Int32) → Prop)  (hf : w_LongTrainModel_starts i_t r_t_s r_t_wagons r_t_strengths r_t_worn Q) : CtV l yX12_starts cX12_starts 2 none 1 24 0 0 D k [.ref a_t] (wd_LongTrainModel_starts k a_t d_t i_t j_t r_t_s r_t_wagons r_t_strengths r_t_worn) (fun w => ∃ (i_t : Nat → Int32), ∃ (r_t_wagons : Nat → Int32), ∃ (r_t_strengths : Nat → Int32), ∃ (r_t_worn : Nat → Int32), w = (wd_LongTrainModel_starts k a_t d_t i_t j_t r_t_s r_t_wagons r_t_strengths r_t_worn) ∧ Q i_t r_t_wagons r_t_strengths r_t_worn) := by
  refine CtV.of (by decide) (Nat.le_of_ble_eq_true rfl) ?_
  intro p e s m below meth c A F hr hlk hnm hA hB ls hl
  have hx := F.x
  have hb := F.b
  unfold w_LongTrainModel_starts at hf
  replace hl : lv_has ls 2 [(0, .ref a_t)] := hl
  refine lv_aload_n hx hb dX12_starts_0 rfl (lv_at hl 0 rfl) ?_
  refine lv_iconst (v := 0) hx hb dX12_starts_1 (by decide) ?_
  refine g_puti F hB 0 rfl fl_RX12_270 rfl (wd_LongTrainModel_starts k a_t d_t (upd i_t 27 (0 : Int32)) j_t r_t_s r_t_wagons r_t_strengths r_t_worn) rfl dX12_starts_2 (fun H locs hB => ?_)
  refine lv_iconst (v := 0) hx hb dX12_starts_5 (by decide) ?_
  refine lv_istore_n (lv' := [(1, .int (0 : Int32)), (0, .ref a_t)]) hx hb dX12_starts_6 rfl hl (by decide) rfl (fun ls hl => ?_)
  obtain ⟨n_14, hf⟩ := hf
  refine lt_LongTrainModel_starts_7 F hr hlk hA (fun i_t_10 r_t_wagons_11 r_t_strengths_12 r_t_worn_13 H locs ls hf hB hl => ?_) n_14 _ _ _ _ _ _ _ _ hf hB (lv_sub hl [1, 0] rfl)
  exact r_v F hr hlk hB ⟨_, _, _, _, rfl, hf⟩ dX12_starts_53

/-! LongTrainModel.parts -/
set_option maxRecDepth 100000 in
set_option maxHeartbeats 4000000 in
theorem bt_LongTrainModel_parts_7 {p : Program} {l : Launch} {e : Env} {s : State} {m : MethodId} {below : List Frame} {meth : Method} {c : Code} {A : Nat → Prop} {D : va_G} {k : Nat → ClassId} {a_t : Nat} {d_t : Nat → Nat} {i_t : Nat → Int32} {j_t : Nat → Int64} {r_t_foremost : Nat → Int32} {r_t_wagons : Nat → Int32} {r_t_s : Nat → Int32} {r_t_bears : Nat → Int32} {r_t_strengths : Nat → Int32} {r_t_worn : Nat → Int32} {n1 : Int32} {Q : Int32 → (Nat → Int32) → (Nat → Int32) → (Nat → Int32) → (Nat → Int32) → Prop}  {kx_7 : Prop} {kr_7 : (Int32) → Prop} (F : Fx p m c cX12_parts 3 s ([.ref a_t, .int n1] : List Value).toArray RX12 D k) (hr : meth.sig.returnType = (some .boolean)) (hlk : meth.locks = false) (hA : ∀ q : Nat, s.heap.size ≤ q → A q) (hkx_7 : ∀ (H : Heap) (locs : List Loc) (ls : Array Slot), kx_7 → Bd D A s.heap (wd_LongTrainModel_parts k a_t d_t i_t j_t r_t_foremost r_t_wagons r_t_s r_t_bears r_t_strengths r_t_worn) H locs → lv_has ls 3 [(0, .ref a_t)] → W p l e { frames := 2, cells := 0, slots := 0, locals := 45 } s m ([.ref a_t, .int n1] : List Value).toArray below meth c H locs 0 0 (Ei below (fun r w => (r = 0 ∨ r = 1) ∧ (∃ (i_t : Nat → Int32), ∃ (r_t_foremost : Nat → Int32), ∃ (r_t_bears : Nat → Int32), ∃ (r_t_worn : Nat → Int32), w = (wd_LongTrainModel_parts k a_t d_t i_t j_t r_t_foremost r_t_wagons r_t_s r_t_bears r_t_strengths r_t_worn) ∧ Q r i_t r_t_foremost r_t_bears r_t_worn)) D k A ([.ref a_t, .int n1] : List Value).toArray s 0 0) (F0 m 61 ls [])) (hkr_7 : ∀ (x2 : Int32) (H : Heap) (locs : List Loc) (ls : Array Slot), kr_7 x2 → Bd D A s.heap (wd_LongTrainModel_parts k a_t d_t i_t j_t r_t_foremost r_t_wagons r_t_s r_t_bears r_t_strengths r_t_worn) H locs → lv_has ls 3 [(0, .ref a_t), (2, .int x2)] → W p l e { frames := 2, cells := 0, slots := 0, locals := 45 } s m ([.ref a_t, .int n1] : List Value).toArray below meth c H locs 0 0 (Ei below (fun r w => (r = 0 ∨ r = 1) ∧ (∃ (i_t : Nat → Int32), ∃ (r_t_foremost : Nat → Int32), ∃ (r_t_bears : Nat → Int32), ∃ (r_t_worn : Nat → Int32), w = (wd_LongTrainModel_parts k a_t d_t i_t j_t r_t_foremost r_t_wagons r_t_s r_t_bears r_t_strengths r_t_worn) ∧ Q r i_t r_t_foremost r_t_bears r_t_worn)) D k A ([.ref a_t, .int n1] : List Value).toArray s 0 0) (F0 m 7 ls [])) :
    ∀ (x2 : Int32) (H : Heap) (locs : List Loc) (ls : Array Slot), b_LongTrainModel_parts_7 i_t r_t_foremost r_t_s r_t_bears r_t_strengths r_t_worn Q kx_7 kr_7 x2 → Bd D A s.heap (wd_LongTrainModel_parts k a_t d_t i_t j_t r_t_foremost r_t_wagons r_t_s r_t_bears r_t_strengths r_t_worn) H locs → lv_has ls 3 [(0, .ref a_t), (2, .int x2)] → W p l e { frames := 2, cells := 0, slots := 0, locals := 45 } s m ([.ref a_t, .int n1] : List Value).toArray below meth c H locs 0 0 (Ei below (fun r w => (r = 0 ∨ r = 1) ∧ (∃ (i_t : Nat → Int32), ∃ (r_t_foremost : Nat → Int32), ∃ (r_t_bears : Nat → Int32), ∃ (r_t_worn : Nat → Int32), w = (wd_LongTrainModel_parts k a_t d_t i_t j_t r_t_foremost r_t_wagons r_t_s r_t_bears r_t_strengths r_t_worn) ∧ Q r i_t r_t_foremost r_t_bears r_t_worn)) D k A ([.ref a_t, .int n1] : List Value).toArray s 0 0) (F0 m 7 ls []) := by
  have hx := F.x
  have hb := F.b
  intro x2 H locs ls hf hB hl
  unfold b_LongTrainModel_parts_7 at hf
  refine lv_iload_n hx hb dX12_parts_7 rfl (lv_at hl 1 rfl) ?_
  refine lv_aload_n hx hb dX12_parts_8 rfl (lv_at hl 0 rfl) ?_
  refine g_get (w := .int (i_t 27)) F hB 0 rfl fl_RX12_270 rfl dX12_parts_9 ?_
  refine lv_icmp_ge (tgt := 61) hx hb dX12_parts_12 (by decide) (fun c_11 => ?_) (fun c_11 => ?_)
  · replace hf := hf.1 c_11
    exact hkx_7  _ _ _ hf hB (lv_sub hl [0] rfl)
  · replace hf := hf.2 c_11
    refine lv_aload_n hx hb dX12_parts_15 rfl (lv_at hl 0 rfl) ?_
    refine g_get (w := .ref (d_t 24)) F hB 0 rfl fl_RX12_56 rfl dX12_parts_16 ?_
    refine lv_iload_n hx hb dX12_parts_19 rfl (lv_at hl 1 rfl) ?_
    obtain ⟨h_4, hf⟩ := hf
    refine g_iald F hB 4 rfl h_4 dX12_parts_20 ?_
    refine lv_aload_n hx hb dX12_parts_21 rfl (lv_at hl 0 rfl) ?_
    refine g_get (w := .ref (d_t 25)) F hB 0 rfl fl_RX12_59 rfl dX12_parts_22 ?_
    refine lv_iload_n hx hb dX12_parts_25 rfl (lv_at hl 1 rfl) ?_
    obtain ⟨h_5, hf⟩ := hf
    refine g_iald F hB 5 rfl h_5 dX12_parts_26 ?_
    refine lv_icmp_gt (tgt := 53) hx hb dX12_parts_27 (by decide) (fun c_10 => ?_) (fun c_10 => ?_)
    · replace hf := hf.1 c_10
      refine lv_iconst (v := 1) hx hb dX12_parts_53 (by decide) ?_
      exact r_z F hr hlk hB (Or.inr rfl) ⟨Or.inr rfl, _, _, _, _, rfl, hf⟩ dX12_parts_54
    · replace hf := hf.2 c_10
      refine lv_aload_n hx hb dX12_parts_30 rfl (lv_at hl 0 rfl) ?_
      refine g_get (w := .ref (d_t 26)) F hB 0 rfl fl_RX12_62 rfl dX12_parts_31 ?_
      refine lv_iload_n hx hb dX12_parts_34 rfl (lv_at hl 1 rfl) ?_
      obtain ⟨h_6, hf⟩ := hf
      refine g_iald F hB 6 rfl h_6 dX12_parts_35 ?_
      refine lv_aload_n hx hb dX12_parts_36 rfl (lv_at hl 0 rfl) ?_
      refine g_get (w := .ref (d_t 6)) F hB 0 rfl fl_RX12_33 rfl dX12_parts_37 ?_
      refine lv_bipush (v := 8) hx hb dX12_parts_40 (by decide) ?_
      refine g_iald F hB 3 rfl (vp_in_iff.mpr (by decide +kernel)) dX12_parts_42 ?_
      refine W.eq (g2 := F0 m 43 ls [.int (r_t_s 8), .int (r_t_worn (x2).toNatClampNeg)]) rfl ?_
      refine lv_aload_n hx hb dX12_parts_43 rfl (lv_at hl 0 rfl) ?_
      refine g_get (w := .ref (d_t 25)) F hB 0 rfl fl_RX12_59 rfl dX12_parts_44 ?_
      refine lv_iload_n hx hb dX12_parts_47 rfl (lv_at hl 1 rfl) ?_
      obtain ⟨h_8, hf⟩ := hf
      refine g_iald F hB 5 rfl h_8 dX12_parts_48 ?_
      refine lv_imul hx hb dX12_parts_49 ?_
      refine lv_icmp_le (tgt := 55) hx hb dX12_parts_50 (by decide) (fun c_9 => ?_) (fun c_9 => ?_)
      · replace hf := hf.1 c_9
        refine lv_iinc (v := (x2 + 1)) (lv' := [(2, .int (x2 + 1)), (0, .ref a_t)]) (k := 1) hx hb dX12_parts_55 hl rfl rfl (by decide) rfl (fun ls hl => ?_)
        refine lv_goto (tgt := 7) hx hb dX12_parts_58 (by decide) ?_
        exact hkr_7 _ _ _ _ hf hB (lv_sub hl [1, 0] rfl)
      · replace hf := hf.2 c_9
        refine lv_iconst (v := 1) hx hb dX12_parts_53 (by decide) ?_
        exact r_z F hr hlk hB (Or.inr rfl) ⟨Or.inr rfl, _, _, _, _, rfl, hf⟩ dX12_parts_54

set_option maxRecDepth 100000 in
set_option maxHeartbeats 4000000 in
theorem lt_LongTrainModel_parts_7 {p : Program} {l : Launch} {e : Env} {s : State} {m : MethodId} {below : List Frame} {meth : Method} {c : Code} {A : Nat → Prop} {D : va_G} {k : Nat → ClassId} {a_t : Nat} {d_t : Nat → Nat} {i_t : Nat → Int32} {j_t : Nat → Int64} {r_t_foremost : Nat → Int32} {r_t_wagons : Nat → Int32} {r_t_s : Nat → Int32} {r_t_bears : Nat → Int32} {r_t_strengths : Nat → Int32} {r_t_worn : Nat → Int32} {n1 : Int32} {Q : Int32 → (Nat → Int32) → (Nat → Int32) → (Nat → Int32) → (Nat → Int32) → Prop}  {kx_7 : Prop} (F : Fx p m c cX12_parts 3 s ([.ref a_t, .int n1] : List Value).toArray RX12 D k) (hr : meth.sig.returnType = (some .boolean)) (hlk : meth.locks = false) (hA : ∀ q : Nat, s.heap.size ≤ q → A q) (hkx_7 : ∀ (H : Heap) (locs : List Loc) (ls : Array Slot), kx_7 → Bd D A s.heap (wd_LongTrainModel_parts k a_t d_t i_t j_t r_t_foremost r_t_wagons r_t_s r_t_bears r_t_strengths r_t_worn) H locs → lv_has ls 3 [(0, .ref a_t)] → W p l e { frames := 2, cells := 0, slots := 0, locals := 45 } s m ([.ref a_t, .int n1] : List Value).toArray below meth c H locs 0 0 (Ei below (fun r w => (r = 0 ∨ r = 1) ∧ (∃ (i_t : Nat → Int32), ∃ (r_t_foremost : Nat → Int32), ∃ (r_t_bears : Nat → Int32), ∃ (r_t_worn : Nat → Int32), w = (wd_LongTrainModel_parts k a_t d_t i_t j_t r_t_foremost r_t_wagons r_t_s r_t_bears r_t_strengths r_t_worn) ∧ Q r i_t r_t_foremost r_t_bears r_t_worn)) D k A ([.ref a_t, .int n1] : List Value).toArray s 0 0) (F0 m 61 ls [])) :
    ∀ n : Nat, ∀ (x2 : Int32) (H : Heap) (locs : List Loc) (ls : Array Slot), lp_LongTrainModel_parts_7 i_t r_t_foremost r_t_s r_t_bears r_t_strengths r_t_worn Q kx_7 n x2 → Bd D A s.heap (wd_LongTrainModel_parts k a_t d_t i_t j_t r_t_foremost r_t_wagons r_t_s r_t_bears r_t_strengths r_t_worn) H locs → lv_has ls 3 [(0, .ref a_t), (2, .int x2)] → W p l e { frames := 2, cells := 0, slots := 0, locals := 45 } s m ([.ref a_t, .int n1] : List Value).toArray below meth c H locs 0 0 (Ei below (fun r w => (r = 0 ∨ r = 1) ∧ (∃ (i_t : Nat → Int32), ∃ (r_t_foremost : Nat → Int32), ∃ (r_t_bears : Nat → Int32), ∃ (r_t_worn : Nat → Int32), w = (wd_LongTrainModel_parts k a_t d_t i_t j_t r_t_foremost r_t_wagons r_t_s r_t_bears r_t_strengths r_t_worn) ∧ Q r i_t r_t_foremost r_t_bears r_t_worn)) D k A ([.ref a_t, .int n1] : List Value).toArray s 0 0) (F0 m 7 ls []) := by
  intro n
  induction n with
  | zero => intro x2 H locs ls hf; exact absurd hf (fun h => h)
  | succ n ih => exact bt_LongTrainModel_parts_7 F hr hlk hA hkx_7 ih

set_option maxRecDepth 100000 in
set_option maxHeartbeats 4000000 in
theorem bt_LongTrainModel_parts_63 {p : Program} {l : Launch} {e : Env} {s : State} {m : MethodId} {below : List Frame} {meth : Method} {c : Code} {A : Nat → Prop} {D : va_G} {k : Nat → ClassId} {a_t : Nat} {d_t : Nat → Nat} {i_t : Nat → Int32} {j_t : Nat → Int64} {r_t_foremost : Nat → Int32} {r_t_wagons : Nat → Int32} {r_t_s : Nat → Int32} {r_t_bears : Nat → Int32} {r_t_strengths : Nat → Int32} {n1 : Int32} {Q : Int32 → (Nat → Int32) → (Nat → Int32) → (Nat → Int32) → (Nat → Int32) → Prop}  {kx_63 : (Nat → Int32) → Prop} {kr_63 : (Int32) → (Nat → Int32) → Prop} (F : Fx p m c cX12_parts 3 s ([.ref a_t, .int n1] : List Value).toArray RX12 D k) (hr : meth.sig.returnType = (some .boolean)) (hlk : meth.locks = false) (hA : ∀ q : Nat, s.heap.size ≤ q → A q) (hkx_63 : ∀ (r_t_worn : Nat → Int32) (H : Heap) (locs : List Loc) (ls : Array Slot), kx_63 r_t_worn → Bd D A s.heap (wd_LongTrainModel_parts k a_t d_t i_t j_t r_t_foremost r_t_wagons r_t_s r_t_bears r_t_strengths r_t_worn) H locs → lv_has ls 3 [] → W p l e { frames := 2, cells := 0, slots := 0, locals := 45 } s m ([.ref a_t, .int n1] : List Value).toArray below meth c H locs 0 0 (Ei below (fun r w => (r = 0 ∨ r = 1) ∧ (∃ (i_t : Nat → Int32), ∃ (r_t_foremost : Nat → Int32), ∃ (r_t_bears : Nat → Int32), ∃ (r_t_worn : Nat → Int32), w = (wd_LongTrainModel_parts k a_t d_t i_t j_t r_t_foremost r_t_wagons r_t_s r_t_bears r_t_strengths r_t_worn) ∧ Q r i_t r_t_foremost r_t_bears r_t_worn)) D k A ([.ref a_t, .int n1] : List Value).toArray s 0 0) (F0 m 105 ls [])) (hkr_63 : ∀ (x2 : Int32) (r_t_worn : Nat → Int32) (H : Heap) (locs : List Loc) (ls : Array Slot), kr_63 x2 r_t_worn → Bd D A s.heap (wd_LongTrainModel_parts k a_t d_t i_t j_t r_t_foremost r_t_wagons r_t_s r_t_bears r_t_strengths r_t_worn) H locs → lv_has ls 3 [(0, .ref a_t), (2, .int x2)] → W p l e { frames := 2, cells := 0, slots := 0, locals := 45 } s m ([.ref a_t, .int n1] : List Value).toArray below meth c H locs 0 0 (Ei below (fun r w => (r = 0 ∨ r = 1) ∧ (∃ (i_t : Nat → Int32), ∃ (r_t_foremost : Nat → Int32), ∃ (r_t_bears : Nat → Int32), ∃ (r_t_worn : Nat → Int32), w = (wd_LongTrainModel_parts k a_t d_t i_t j_t r_t_foremost r_t_wagons r_t_s r_t_bears r_t_strengths r_t_worn) ∧ Q r i_t r_t_foremost r_t_bears r_t_worn)) D k A ([.ref a_t, .int n1] : List Value).toArray s 0 0) (F0 m 63 ls [])) :
    ∀ (x2 : Int32) (r_t_worn : Nat → Int32) (H : Heap) (locs : List Loc) (ls : Array Slot), b_LongTrainModel_parts_63 i_t r_t_bears kx_63 kr_63 x2 r_t_worn → Bd D A s.heap (wd_LongTrainModel_parts k a_t d_t i_t j_t r_t_foremost r_t_wagons r_t_s r_t_bears r_t_strengths r_t_worn) H locs → lv_has ls 3 [(0, .ref a_t), (2, .int x2)] → W p l e { frames := 2, cells := 0, slots := 0, locals := 45 } s m ([.ref a_t, .int n1] : List Value).toArray below meth c H locs 0 0 (Ei below (fun r w => (r = 0 ∨ r = 1) ∧ (∃ (i_t : Nat → Int32), ∃ (r_t_foremost : Nat → Int32), ∃ (r_t_bears : Nat → Int32), ∃ (r_t_worn : Nat → Int32), w = (wd_LongTrainModel_parts k a_t d_t i_t j_t r_t_foremost r_t_wagons r_t_s r_t_bears r_t_strengths r_t_worn) ∧ Q r i_t r_t_foremost r_t_bears r_t_worn)) D k A ([.ref a_t, .int n1] : List Value).toArray s 0 0) (F0 m 63 ls []) := by
  have hx := F.x
  have hb := F.b
  intro x2 r_t_worn H locs ls hf hB hl
  unfold b_LongTrainModel_parts_63 at hf
  refine lv_iload_n hx hb dX12_parts_63 rfl (lv_at hl 1 rfl) ?_
  refine lv_aload_n hx hb dX12_parts_64 rfl (lv_at hl 0 rfl) ?_
  refine g_get (w := .int (i_t 27)) F hB 0 rfl fl_RX12_270 rfl dX12_parts_65 ?_
  refine lv_icmp_ge (tgt := 105) hx hb dX12_parts_68 (by decide) (fun c_18 => ?_) (fun c_18 => ?_)
  · replace hf := hf.1 c_18
    exact hkx_63 _ _ _ _ hf hB (lv_sub hl [] rfl)
  · replace hf := hf.2 c_18
    refine lv_aload_n hx hb dX12_parts_71 rfl (lv_at hl 0 rfl) ?_
    refine g_get (w := .ref (d_t 26)) F hB 0 rfl fl_RX12_62 rfl dX12_parts_72 ?_
    refine lv_iload_n hx hb dX12_parts_75 rfl (lv_at hl 1 rfl) ?_
    refine lv_dup2_11 hx hb dX12_parts_76 rfl rfl ?_
    obtain ⟨h_12, hf⟩ := hf
    refine g_iald F hB 6 rfl h_12 dX12_parts_77 ?_
    refine lv_aload_n hx hb dX12_parts_78 rfl (lv_at hl 0 rfl) ?_
    refine g_get (w := .ref (d_t 24)) F hB 0 rfl fl_RX12_56 rfl dX12_parts_79 ?_
    refine lv_iload_n hx hb dX12_parts_82 rfl (lv_at hl 1 rfl) ?_
    obtain ⟨h_13, hf⟩ := hf
    refine g_iald F hB 4 rfl h_13 dX12_parts_83 ?_
    refine lv_if_le (tgt := 96) hx hb dX12_parts_84 (by decide) (fun c_17 => ?_) (fun c_17 => ?_)
    · replace hf := hf.1 c_17
      refine lv_iconst (v := 0) hx hb dX12_parts_96 (by decide) ?_
      refine lv_iadd hx hb dX12_parts_97 ?_
      obtain ⟨h_14, hf⟩ := hf
      refine g_iast F hB 6 rfl h_14 (wd_LongTrainModel_parts k a_t d_t i_t j_t r_t_foremost r_t_wagons r_t_s r_t_bears r_t_strengths (upd r_t_worn (x2).toNatClampNeg ((r_t_worn (x2).toNatClampNeg) + (0 : Int32)))) rfl dX12_parts_98 (fun H locs hB => ?_)
      refine lv_iinc (v := (x2 + 1)) (lv' := [(2, .int (x2 + 1)), (0, .ref a_t)]) (k := 1) hx hb dX12_parts_99 hl rfl rfl (by decide) rfl (fun ls hl => ?_)
      refine lv_goto (tgt := 63) hx hb dX12_parts_102 (by decide) ?_
      exact hkr_63 _ _ _ _ _ hf hB (lv_sub hl [1, 0] rfl)
    · replace hf := hf.2 c_17
      refine lv_aload_n hx hb dX12_parts_87 rfl (lv_at hl 0 rfl) ?_
      refine g_get (w := .ref (d_t 24)) F hB 0 rfl fl_RX12_56 rfl dX12_parts_88 ?_
      refine lv_iload_n hx hb dX12_parts_91 rfl (lv_at hl 1 rfl) ?_
      obtain ⟨h_15, hf⟩ := hf
      refine g_iald F hB 4 rfl h_15 dX12_parts_92 ?_
      refine lv_goto (tgt := 97) hx hb dX12_parts_93 (by decide) ?_
      refine lv_iadd hx hb dX12_parts_97 ?_
      obtain ⟨h_16, hf⟩ := hf
      refine g_iast F hB 6 rfl h_16 (wd_LongTrainModel_parts k a_t d_t i_t j_t r_t_foremost r_t_wagons r_t_s r_t_bears r_t_strengths (upd r_t_worn (x2).toNatClampNeg ((r_t_worn (x2).toNatClampNeg) + (r_t_bears (x2).toNatClampNeg)))) rfl dX12_parts_98 (fun H locs hB => ?_)
      refine lv_iinc (v := (x2 + 1)) (lv' := [(2, .int (x2 + 1)), (0, .ref a_t)]) (k := 1) hx hb dX12_parts_99 hl rfl rfl (by decide) rfl (fun ls hl => ?_)
      refine lv_goto (tgt := 63) hx hb dX12_parts_102 (by decide) ?_
      exact hkr_63 _ _ _ _ _ hf hB (lv_sub hl [1, 0] rfl)

set_option maxRecDepth 100000 in
set_option maxHeartbeats 4000000 in
theorem lt_LongTrainModel_parts_63 {p : Program} {l : Launch} {e : Env} {s : State} {m : MethodId} {below : List Frame} {meth : Method} {c : Code} {A : Nat → Prop} {D : va_G} {k : Nat → ClassId} {a_t : Nat} {d_t : Nat → Nat} {i_t : Nat → Int32} {j_t : Nat → Int64} {r_t_foremost : Nat → Int32} {r_t_wagons : Nat → Int32} {r_t_s : Nat → Int32} {r_t_bears : Nat → Int32} {r_t_strengths : Nat → Int32} {n1 : Int32} {Q : Int32 → (Nat → Int32) → (Nat → Int32) → (Nat → Int32) → (Nat → Int32) → Prop}  {kx_63 : (Nat → Int32) → Prop} (F : Fx p m c cX12_parts 3 s ([.ref a_t, .int n1] : List Value).toArray RX12 D k) (hr : meth.sig.returnType = (some .boolean)) (hlk : meth.locks = false) (hA : ∀ q : Nat, s.heap.size ≤ q → A q) (hkx_63 : ∀ (r_t_worn : Nat → Int32) (H : Heap) (locs : List Loc) (ls : Array Slot), kx_63 r_t_worn → Bd D A s.heap (wd_LongTrainModel_parts k a_t d_t i_t j_t r_t_foremost r_t_wagons r_t_s r_t_bears r_t_strengths r_t_worn) H locs → lv_has ls 3 [] → W p l e { frames := 2, cells := 0, slots := 0, locals := 45 } s m ([.ref a_t, .int n1] : List Value).toArray below meth c H locs 0 0 (Ei below (fun r w => (r = 0 ∨ r = 1) ∧ (∃ (i_t : Nat → Int32), ∃ (r_t_foremost : Nat → Int32), ∃ (r_t_bears : Nat → Int32), ∃ (r_t_worn : Nat → Int32), w = (wd_LongTrainModel_parts k a_t d_t i_t j_t r_t_foremost r_t_wagons r_t_s r_t_bears r_t_strengths r_t_worn) ∧ Q r i_t r_t_foremost r_t_bears r_t_worn)) D k A ([.ref a_t, .int n1] : List Value).toArray s 0 0) (F0 m 105 ls [])) :
    ∀ n : Nat, ∀ (x2 : Int32) (r_t_worn : Nat → Int32) (H : Heap) (locs : List Loc) (ls : Array Slot), lp_LongTrainModel_parts_63 i_t r_t_bears kx_63 n x2 r_t_worn → Bd D A s.heap (wd_LongTrainModel_parts k a_t d_t i_t j_t r_t_foremost r_t_wagons r_t_s r_t_bears r_t_strengths r_t_worn) H locs → lv_has ls 3 [(0, .ref a_t), (2, .int x2)] → W p l e { frames := 2, cells := 0, slots := 0, locals := 45 } s m ([.ref a_t, .int n1] : List Value).toArray below meth c H locs 0 0 (Ei below (fun r w => (r = 0 ∨ r = 1) ∧ (∃ (i_t : Nat → Int32), ∃ (r_t_foremost : Nat → Int32), ∃ (r_t_bears : Nat → Int32), ∃ (r_t_worn : Nat → Int32), w = (wd_LongTrainModel_parts k a_t d_t i_t j_t r_t_foremost r_t_wagons r_t_s r_t_bears r_t_strengths r_t_worn) ∧ Q r i_t r_t_foremost r_t_bears r_t_worn)) D k A ([.ref a_t, .int n1] : List Value).toArray s 0 0) (F0 m 63 ls []) := by
  intro n
  induction n with
  | zero => intro x2 r_t_worn H locs ls hf; exact absurd hf (fun h => h)
  | succ n ih => exact bt_LongTrainModel_parts_63 F hr hlk hA hkx_63 ih

set_option maxRecDepth 100000 in
set_option maxHeartbeats 4000000 in
theorem c_LongTrainModel_parts (l : Launch) (D : va_G) (k : Nat → ClassId) (a_t : Nat) (d_t : Nat → Nat) (i_t : Nat → Int32) (j_t : Nat → Int64) (r_t_foremost : Nat → Int32) (r_t_wagons : Nat → Int32) (r_t_s : Nat → Int32) (r_t_bears : Nat → Int32) (r_t_strengths : Nat → Int32) (r_t_worn : Nat → Int32) (n1 : Int32) (Q : Int32 → (Nat → Int32) → (Nat → Int32) → (Nat → Int32) → (Nat → Int32) → Prop)  (hf : w_LongTrainModel_parts i_t r_t_foremost r_t_wagons r_t_s r_t_bears r_t_strengths r_t_worn n1 Q) : CtI l yX12_parts cX12_parts 3 (some .boolean) 2 45 0 0 D k [.ref a_t, .int n1] (wd_LongTrainModel_parts k a_t d_t i_t j_t r_t_foremost r_t_wagons r_t_s r_t_bears r_t_strengths r_t_worn) (fun r w => (r = 0 ∨ r = 1) ∧ (∃ (i_t : Nat → Int32), ∃ (r_t_foremost : Nat → Int32), ∃ (r_t_bears : Nat → Int32), ∃ (r_t_worn : Nat → Int32), w = (wd_LongTrainModel_parts k a_t d_t i_t j_t r_t_foremost r_t_wagons r_t_s r_t_bears r_t_strengths r_t_worn) ∧ Q r i_t r_t_foremost r_t_bears r_t_worn)) := by
  refine CtI.of (by decide) (Nat.le_of_ble_eq_true rfl) ?_
  intro p e s m below meth c A F hr hlk hnm hA hB ls hl
  have hx := F.x
  have hb := F.b
  unfold w_LongTrainModel_parts at hf
  replace hl : lv_has ls 3 [(0, .ref a_t), (1, .int n1)] := hl
  refine lv_aload_n hx hb dX12_parts_0 rfl (lv_at hl 0 rfl) ?_
  refine lv_iload_n hx hb dX12_parts_1 rfl (lv_at hl 1 rfl) ?_
  refine k_vv (wr := [((d_t 25), ai k 20 r_t_strengths), ((d_t 26), ai k 20 r_t_worn)]) (rest := []) F hA hB (c_LongTrainModel_stands l D k a_t d_t i_t j_t r_t_foremost r_t_wagons r_t_s r_t_bears n1 _  hf) ml_RX12_285 mv_yX12_stands [0, 1, 2, 3, 4] [5, 6] rfl rfl (by decide) (by decide) (by decide) 0 rfl rfl rfl hl.1 rfl (Nat.le_of_ble_eq_true rfl) ⟨Nat.le_of_ble_eq_true rfl, Nat.le_of_ble_eq_true rfl⟩ ⟨Nat.le_of_ble_eq_true rfl, Nat.le_of_ble_eq_true rfl⟩ dX12_parts_2 (fun w1 H locs hq hB => ?_)
  obtain ⟨i_t_1, r_t_foremost_2, r_t_bears_3, rfl, hf⟩ := hq
  replace hB : Bd D A s.heap (wd_LongTrainModel_parts k a_t d_t i_t_1 j_t r_t_foremost_2 r_t_wagons r_t_s r_t_bears_3 r_t_strengths r_t_worn) H locs := hB.sub [2, 3, 4, 5, 6, 0, 1] (by decide) rfl
  refine lv_iconst (v := 0) hx hb dX12_parts_5 (by decide) ?_
  refine lv_istore_n (lv' := [(2, .int (0 : Int32)), (0, .ref a_t), (1, .int n1)]) hx hb dX12_parts_6 rfl hl (by decide) rfl (fun ls hl => ?_)
  obtain ⟨n_21, hf⟩ := hf
  refine lt_LongTrainModel_parts_7 F hr hlk hA (fun  H locs ls hf hB hl => ?_) n_21 _ _ _ _ hf hB (lv_sub hl [1, 0] rfl)
  refine lv_iconst (v := 0) hx hb dX12_parts_61 (by decide) ?_
  refine lv_istore_n (lv' := [(2, .int (0 : Int32)), (0, .ref a_t)]) hx hb dX12_parts_62 rfl hl (by decide) rfl (fun ls hl => ?_)
  obtain ⟨n_20, hf⟩ := hf
  refine lt_LongTrainModel_parts_63 F hr hlk hA (fun r_t_worn_19 H locs ls hf hB hl => ?_) n_20 _ _ _ _ _ hf hB (lv_sub hl [1, 0] rfl)
  refine lv_iconst (v := 0) hx hb dX12_parts_105 (by decide) ?_
  exact r_z F hr hlk hB (Or.inl rfl) ⟨Or.inl rfl, _, _, _, _, rfl, hf⟩ dX12_parts_106

