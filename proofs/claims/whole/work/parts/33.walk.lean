/-! LongTrainModel.restore -/
set_option maxRecDepth 100000 in
set_option maxHeartbeats 4000000 in
theorem bt_LongTrainModel_restore_27 {p : Program} {l : Launch} {e : Env} {s : State} {m : MethodId} {below : List Frame} {meth : Method} {c : Code} {A : Nat → Prop} {D : va_G} {k : Nat → ClassId} {a_t : Nat} {d_t : Nat → Nat} {i_t : Nat → Int32} {j_t : Nat → Int64} {r_t_isKept : Nat → Int32} {r_t_kept : Nat → Int32} {r_t_names : Nat → Int64} {r_t_namesKept : Nat → Int64} {n1 : Int32} {Q : Int32 → (Nat → Int32) → (Nat → Int32) → (Nat → Int64) → Prop}  {x1 : Int32} {kx_27 : (Nat → Int32) → Prop} {kr_27 : (Int32) → (Nat → Int32) → Prop} (F : Fx p m c cX12_restore 3 s ([.ref a_t, .int n1] : List Value).toArray RX12 D k) (hr : meth.sig.returnType = (some .boolean)) (hlk : meth.locks = false) (hA : ∀ q : Nat, s.heap.size ≤ q → A q) (hkx_27 : ∀ (r_t_s : Nat → Int32) (H : Heap) (locs : List Loc) (ls : Array Slot), kx_27 r_t_s → Bd D A s.heap (wd_LongTrainModel_restore k a_t d_t i_t j_t r_t_isKept r_t_s r_t_kept r_t_names r_t_namesKept) H locs → lv_has ls 3 [(0, .ref a_t), (1, .int x1)] → W p l e { frames := 1, cells := 0, slots := 0, locals := 22 } s m ([.ref a_t, .int n1] : List Value).toArray below meth c H locs 0 0 (Ei below (fun r w => (r = 0 ∨ r = 1) ∧ (∃ (i_t : Nat → Int32), ∃ (r_t_s : Nat → Int32), ∃ (r_t_names : Nat → Int64), w = (wd_LongTrainModel_restore k a_t d_t i_t j_t r_t_isKept r_t_s r_t_kept r_t_names r_t_namesKept) ∧ Q r i_t r_t_s r_t_names)) D k A ([.ref a_t, .int n1] : List Value).toArray s 0 0) (F0 m 58 ls [])) (hkr_27 : ∀ (x2 : Int32) (r_t_s : Nat → Int32) (H : Heap) (locs : List Loc) (ls : Array Slot), kr_27 x2 r_t_s → Bd D A s.heap (wd_LongTrainModel_restore k a_t d_t i_t j_t r_t_isKept r_t_s r_t_kept r_t_names r_t_namesKept) H locs → lv_has ls 3 [(0, .ref a_t), (1, .int x1), (2, .int x2)] → W p l e { frames := 1, cells := 0, slots := 0, locals := 22 } s m ([.ref a_t, .int n1] : List Value).toArray below meth c H locs 0 0 (Ei below (fun r w => (r = 0 ∨ r = 1) ∧ (∃ (i_t : Nat → Int32), ∃ (r_t_s : Nat → Int32), ∃ (r_t_names : Nat → Int64), w = (wd_LongTrainModel_restore k a_t d_t i_t j_t r_t_isKept r_t_s r_t_kept r_t_names r_t_namesKept) ∧ Q r i_t r_t_s r_t_names)) D k A ([.ref a_t, .int n1] : List Value).toArray s 0 0) (F0 m 27 ls [])) :
    ∀ (x2 : Int32) (r_t_s : Nat → Int32) (H : Heap) (locs : List Loc) (ls : Array Slot), b_LongTrainModel_restore_27 r_t_kept x1 kx_27 kr_27 x2 r_t_s → Bd D A s.heap (wd_LongTrainModel_restore k a_t d_t i_t j_t r_t_isKept r_t_s r_t_kept r_t_names r_t_namesKept) H locs → lv_has ls 3 [(0, .ref a_t), (1, .int x1), (2, .int x2)] → W p l e { frames := 1, cells := 0, slots := 0, locals := 22 } s m ([.ref a_t, .int n1] : List Value).toArray below meth c H locs 0 0 (Ei below (fun r w => (r = 0 ∨ r = 1) ∧ (∃ (i_t : Nat → Int32), ∃ (r_t_s : Nat → Int32), ∃ (r_t_names : Nat → Int64), w = (wd_LongTrainModel_restore k a_t d_t i_t j_t r_t_isKept r_t_s r_t_kept r_t_names r_t_namesKept) ∧ Q r i_t r_t_s r_t_names)) D k A ([.ref a_t, .int n1] : List Value).toArray s 0 0) (F0 m 27 ls []) := by
  have hx := F.x
  have hb := F.b
  intro x2 r_t_s H locs ls hf hB hl
  unfold b_LongTrainModel_restore_27 at hf
  refine lv_iload_n hx hb dX12_restore_27 rfl (lv_at hl 2 rfl) ?_
  refine lv_sipush (v := 1068) hx hb dX12_restore_28 (by decide) ?_
  refine lv_icmp_ge (tgt := 58) hx hb dX12_restore_31 (by decide) (fun c_6 => ?_) (fun c_6 => ?_)
  · replace hf := hf.1 c_6
    exact hkx_27 _ _ _ _ hf hB (lv_sub hl [0, 1] rfl)
  · replace hf := hf.2 c_6
    refine lv_aload_n hx hb dX12_restore_34 rfl (lv_at hl 0 rfl) ?_
    refine g_get (w := .ref (d_t 6)) F hB 0 rfl fl_RX12_33 rfl dX12_restore_35 ?_
    refine lv_iload_n hx hb dX12_restore_38 rfl (lv_at hl 2 rfl) ?_
    refine lv_aload_n hx hb dX12_restore_39 rfl (lv_at hl 0 rfl) ?_
    refine g_get (w := .ref (d_t 46)) F hB 0 rfl fl_RX12_95 rfl dX12_restore_40 ?_
    refine lv_sipush (v := 1068) hx hb dX12_restore_43 (by decide) ?_
    refine lv_iload_n hx hb dX12_restore_46 rfl (lv_at hl 1 rfl) ?_
    refine lv_imul hx hb dX12_restore_47 ?_
    refine lv_iload_n hx hb dX12_restore_48 rfl (lv_at hl 2 rfl) ?_
    refine lv_iadd hx hb dX12_restore_49 ?_
    obtain ⟨h_4, hf⟩ := hf
    refine g_iald F hB 3 rfl h_4 dX12_restore_50 ?_
    obtain ⟨h_5, hf⟩ := hf
    refine g_iast F hB 2 rfl h_5 (wd_LongTrainModel_restore k a_t d_t i_t j_t r_t_isKept (upd r_t_s (x2).toNatClampNeg (r_t_kept ((((1068 : Int32) * x1) + x2)).toNatClampNeg)) r_t_kept r_t_names r_t_namesKept) rfl dX12_restore_51 (fun H locs hB => ?_)
    refine lv_iinc (v := (x2 + 1)) (lv' := [(2, .int (x2 + 1)), (0, .ref a_t), (1, .int x1)]) (k := 2) hx hb dX12_restore_52 hl rfl rfl (by decide) rfl (fun ls hl => ?_)
    refine lv_goto (tgt := 27) hx hb dX12_restore_55 (by decide) ?_
    exact hkr_27 _ _ _ _ _ hf hB (lv_sub hl [1, 2, 0] rfl)

set_option maxRecDepth 100000 in
set_option maxHeartbeats 4000000 in
theorem lt_LongTrainModel_restore_27 {p : Program} {l : Launch} {e : Env} {s : State} {m : MethodId} {below : List Frame} {meth : Method} {c : Code} {A : Nat → Prop} {D : va_G} {k : Nat → ClassId} {a_t : Nat} {d_t : Nat → Nat} {i_t : Nat → Int32} {j_t : Nat → Int64} {r_t_isKept : Nat → Int32} {r_t_kept : Nat → Int32} {r_t_names : Nat → Int64} {r_t_namesKept : Nat → Int64} {n1 : Int32} {Q : Int32 → (Nat → Int32) → (Nat → Int32) → (Nat → Int64) → Prop}  {x1 : Int32} {kx_27 : (Nat → Int32) → Prop} (F : Fx p m c cX12_restore 3 s ([.ref a_t, .int n1] : List Value).toArray RX12 D k) (hr : meth.sig.returnType = (some .boolean)) (hlk : meth.locks = false) (hA : ∀ q : Nat, s.heap.size ≤ q → A q) (hkx_27 : ∀ (r_t_s : Nat → Int32) (H : Heap) (locs : List Loc) (ls : Array Slot), kx_27 r_t_s → Bd D A s.heap (wd_LongTrainModel_restore k a_t d_t i_t j_t r_t_isKept r_t_s r_t_kept r_t_names r_t_namesKept) H locs → lv_has ls 3 [(0, .ref a_t), (1, .int x1)] → W p l e { frames := 1, cells := 0, slots := 0, locals := 22 } s m ([.ref a_t, .int n1] : List Value).toArray below meth c H locs 0 0 (Ei below (fun r w => (r = 0 ∨ r = 1) ∧ (∃ (i_t : Nat → Int32), ∃ (r_t_s : Nat → Int32), ∃ (r_t_names : Nat → Int64), w = (wd_LongTrainModel_restore k a_t d_t i_t j_t r_t_isKept r_t_s r_t_kept r_t_names r_t_namesKept) ∧ Q r i_t r_t_s r_t_names)) D k A ([.ref a_t, .int n1] : List Value).toArray s 0 0) (F0 m 58 ls [])) :
    ∀ n : Nat, ∀ (x2 : Int32) (r_t_s : Nat → Int32) (H : Heap) (locs : List Loc) (ls : Array Slot), lp_LongTrainModel_restore_27 r_t_kept x1 kx_27 n x2 r_t_s → Bd D A s.heap (wd_LongTrainModel_restore k a_t d_t i_t j_t r_t_isKept r_t_s r_t_kept r_t_names r_t_namesKept) H locs → lv_has ls 3 [(0, .ref a_t), (1, .int x1), (2, .int x2)] → W p l e { frames := 1, cells := 0, slots := 0, locals := 22 } s m ([.ref a_t, .int n1] : List Value).toArray below meth c H locs 0 0 (Ei below (fun r w => (r = 0 ∨ r = 1) ∧ (∃ (i_t : Nat → Int32), ∃ (r_t_s : Nat → Int32), ∃ (r_t_names : Nat → Int64), w = (wd_LongTrainModel_restore k a_t d_t i_t j_t r_t_isKept r_t_s r_t_kept r_t_names r_t_namesKept) ∧ Q r i_t r_t_s r_t_names)) D k A ([.ref a_t, .int n1] : List Value).toArray s 0 0) (F0 m 27 ls []) := by
  intro n
  induction n with
  | zero => intro x2 r_t_s H locs ls hf; exact absurd hf (fun h => h)
  | succ n ih => exact bt_LongTrainModel_restore_27 F hr hlk hA hkx_27 ih

set_option maxRecDepth 100000 in
set_option maxHeartbeats 4000000 in
theorem bt_LongTrainModel_restore_60 {p : Program} {l : Launch} {e : Env} {s : State} {m : MethodId} {below : List Frame} {meth : Method} {c : Code} {A : Nat → Prop} {D : va_G} {k : Nat → ClassId} {a_t : Nat} {d_t : Nat → Nat} {i_t : Nat → Int32} {j_t : Nat → Int64} {r_t_isKept : Nat → Int32} {r_t_s : Nat → Int32} {r_t_kept : Nat → Int32} {r_t_namesKept : Nat → Int64} {n1 : Int32} {Q : Int32 → (Nat → Int32) → (Nat → Int32) → (Nat → Int64) → Prop}  {x1 : Int32} {kx_60 : (Nat → Int64) → Prop} {kr_60 : (Int32) → (Nat → Int64) → Prop} (F : Fx p m c cX12_restore 3 s ([.ref a_t, .int n1] : List Value).toArray RX12 D k) (hr : meth.sig.returnType = (some .boolean)) (hlk : meth.locks = false) (hA : ∀ q : Nat, s.heap.size ≤ q → A q) (hkx_60 : ∀ (r_t_names : Nat → Int64) (H : Heap) (locs : List Loc) (ls : Array Slot), kx_60 r_t_names → Bd D A s.heap (wd_LongTrainModel_restore k a_t d_t i_t j_t r_t_isKept r_t_s r_t_kept r_t_names r_t_namesKept) H locs → lv_has ls 3 [] → W p l e { frames := 1, cells := 0, slots := 0, locals := 22 } s m ([.ref a_t, .int n1] : List Value).toArray below meth c H locs 0 0 (Ei below (fun r w => (r = 0 ∨ r = 1) ∧ (∃ (i_t : Nat → Int32), ∃ (r_t_s : Nat → Int32), ∃ (r_t_names : Nat → Int64), w = (wd_LongTrainModel_restore k a_t d_t i_t j_t r_t_isKept r_t_s r_t_kept r_t_names r_t_namesKept) ∧ Q r i_t r_t_s r_t_names)) D k A ([.ref a_t, .int n1] : List Value).toArray s 0 0) (F0 m 89 ls [])) (hkr_60 : ∀ (x2 : Int32) (r_t_names : Nat → Int64) (H : Heap) (locs : List Loc) (ls : Array Slot), kr_60 x2 r_t_names → Bd D A s.heap (wd_LongTrainModel_restore k a_t d_t i_t j_t r_t_isKept r_t_s r_t_kept r_t_names r_t_namesKept) H locs → lv_has ls 3 [(0, .ref a_t), (1, .int x1), (2, .int x2)] → W p l e { frames := 1, cells := 0, slots := 0, locals := 22 } s m ([.ref a_t, .int n1] : List Value).toArray below meth c H locs 0 0 (Ei below (fun r w => (r = 0 ∨ r = 1) ∧ (∃ (i_t : Nat → Int32), ∃ (r_t_s : Nat → Int32), ∃ (r_t_names : Nat → Int64), w = (wd_LongTrainModel_restore k a_t d_t i_t j_t r_t_isKept r_t_s r_t_kept r_t_names r_t_namesKept) ∧ Q r i_t r_t_s r_t_names)) D k A ([.ref a_t, .int n1] : List Value).toArray s 0 0) (F0 m 60 ls [])) :
    ∀ (x2 : Int32) (r_t_names : Nat → Int64) (H : Heap) (locs : List Loc) (ls : Array Slot), b_LongTrainModel_restore_60 r_t_namesKept x1 kx_60 kr_60 x2 r_t_names → Bd D A s.heap (wd_LongTrainModel_restore k a_t d_t i_t j_t r_t_isKept r_t_s r_t_kept r_t_names r_t_namesKept) H locs → lv_has ls 3 [(0, .ref a_t), (1, .int x1), (2, .int x2)] → W p l e { frames := 1, cells := 0, slots := 0, locals := 22 } s m ([.ref a_t, .int n1] : List Value).toArray below meth c H locs 0 0 (Ei below (fun r w => (r = 0 ∨ r = 1) ∧ (∃ (i_t : Nat → Int32), ∃ (r_t_s : Nat → Int32), ∃ (r_t_names : Nat → Int64), w = (wd_LongTrainModel_restore k a_t d_t i_t j_t r_t_isKept r_t_s r_t_kept r_t_names r_t_namesKept) ∧ Q r i_t r_t_s r_t_names)) D k A ([.ref a_t, .int n1] : List Value).toArray s 0 0) (F0 m 60 ls []) := by
  have hx := F.x
  have hb := F.b
  intro x2 r_t_names H locs ls hf hB hl
  unfold b_LongTrainModel_restore_60 at hf
  refine lv_iload_n hx hb dX12_restore_60 rfl (lv_at hl 2 rfl) ?_
  refine lv_bipush (v := 16) hx hb dX12_restore_61 (by decide) ?_
  refine lv_icmp_ge (tgt := 89) hx hb dX12_restore_63 (by decide) (fun c_10 => ?_) (fun c_10 => ?_)
  · replace hf := hf.1 c_10
    exact hkx_60 _ _ _ _ hf hB (lv_sub hl [] rfl)
  · replace hf := hf.2 c_10
    refine lv_aload_n hx hb dX12_restore_66 rfl (lv_at hl 0 rfl) ?_
    refine g_get (w := .ref (d_t 9)) F hB 0 rfl fl_RX12_43 rfl dX12_restore_67 ?_
    refine lv_iload_n hx hb dX12_restore_70 rfl (lv_at hl 2 rfl) ?_
    refine lv_aload_n hx hb dX12_restore_71 rfl (lv_at hl 0 rfl) ?_
    refine g_get (w := .ref (d_t 47)) F hB 0 rfl fl_RX12_98 rfl dX12_restore_72 ?_
    refine lv_bipush (v := 16) hx hb dX12_restore_75 (by decide) ?_
    refine lv_iload_n hx hb dX12_restore_77 rfl (lv_at hl 1 rfl) ?_
    refine lv_imul hx hb dX12_restore_78 ?_
    refine lv_iload_n hx hb dX12_restore_79 rfl (lv_at hl 2 rfl) ?_
    refine lv_iadd hx hb dX12_restore_80 ?_
    obtain ⟨h_8, hf⟩ := hf
    refine g_jald F hB 5 rfl h_8 dX12_restore_81 ?_
    obtain ⟨h_9, hf⟩ := hf
    refine g_jast F hB 4 rfl h_9 (wd_LongTrainModel_restore k a_t d_t i_t j_t r_t_isKept r_t_s r_t_kept (vp_updL r_t_names (x2).toNatClampNeg (r_t_namesKept ((((16 : Int32) * x1) + x2)).toNatClampNeg)) r_t_namesKept) rfl dX12_restore_82 (fun H locs hB => ?_)
    refine lv_iinc (v := (x2 + 1)) (lv' := [(2, .int (x2 + 1)), (0, .ref a_t), (1, .int x1)]) (k := 2) hx hb dX12_restore_83 hl rfl rfl (by decide) rfl (fun ls hl => ?_)
    refine lv_goto (tgt := 60) hx hb dX12_restore_86 (by decide) ?_
    exact hkr_60 _ _ _ _ _ hf hB (lv_sub hl [1, 2, 0] rfl)

set_option maxRecDepth 100000 in
set_option maxHeartbeats 4000000 in
theorem lt_LongTrainModel_restore_60 {p : Program} {l : Launch} {e : Env} {s : State} {m : MethodId} {below : List Frame} {meth : Method} {c : Code} {A : Nat → Prop} {D : va_G} {k : Nat → ClassId} {a_t : Nat} {d_t : Nat → Nat} {i_t : Nat → Int32} {j_t : Nat → Int64} {r_t_isKept : Nat → Int32} {r_t_s : Nat → Int32} {r_t_kept : Nat → Int32} {r_t_namesKept : Nat → Int64} {n1 : Int32} {Q : Int32 → (Nat → Int32) → (Nat → Int32) → (Nat → Int64) → Prop}  {x1 : Int32} {kx_60 : (Nat → Int64) → Prop} (F : Fx p m c cX12_restore 3 s ([.ref a_t, .int n1] : List Value).toArray RX12 D k) (hr : meth.sig.returnType = (some .boolean)) (hlk : meth.locks = false) (hA : ∀ q : Nat, s.heap.size ≤ q → A q) (hkx_60 : ∀ (r_t_names : Nat → Int64) (H : Heap) (locs : List Loc) (ls : Array Slot), kx_60 r_t_names → Bd D A s.heap (wd_LongTrainModel_restore k a_t d_t i_t j_t r_t_isKept r_t_s r_t_kept r_t_names r_t_namesKept) H locs → lv_has ls 3 [] → W p l e { frames := 1, cells := 0, slots := 0, locals := 22 } s m ([.ref a_t, .int n1] : List Value).toArray below meth c H locs 0 0 (Ei below (fun r w => (r = 0 ∨ r = 1) ∧ (∃ (i_t : Nat → Int32), ∃ (r_t_s : Nat → Int32), ∃ (r_t_names : Nat → Int64), w = (wd_LongTrainModel_restore k a_t d_t i_t j_t r_t_isKept r_t_s r_t_kept r_t_names r_t_namesKept) ∧ Q r i_t r_t_s r_t_names)) D k A ([.ref a_t, .int n1] : List Value).toArray s 0 0) (F0 m 89 ls [])) :
    ∀ n : Nat, ∀ (x2 : Int32) (r_t_names : Nat → Int64) (H : Heap) (locs : List Loc) (ls : Array Slot), lp_LongTrainModel_restore_60 r_t_namesKept x1 kx_60 n x2 r_t_names → Bd D A s.heap (wd_LongTrainModel_restore k a_t d_t i_t j_t r_t_isKept r_t_s r_t_kept r_t_names r_t_namesKept) H locs → lv_has ls 3 [(0, .ref a_t), (1, .int x1), (2, .int x2)] → W p l e { frames := 1, cells := 0, slots := 0, locals := 22 } s m ([.ref a_t, .int n1] : List Value).toArray below meth c H locs 0 0 (Ei below (fun r w => (r = 0 ∨ r = 1) ∧ (∃ (i_t : Nat → Int32), ∃ (r_t_s : Nat → Int32), ∃ (r_t_names : Nat → Int64), w = (wd_LongTrainModel_restore k a_t d_t i_t j_t r_t_isKept r_t_s r_t_kept r_t_names r_t_namesKept) ∧ Q r i_t r_t_s r_t_names)) D k A ([.ref a_t, .int n1] : List Value).toArray s 0 0) (F0 m 60 ls []) := by
  intro n
  induction n with
  | zero => intro x2 r_t_names H locs ls hf; exact absurd hf (fun h => h)
  | succ n ih => exact bt_LongTrainModel_restore_60 F hr hlk hA hkx_60 ih

set_option maxRecDepth 100000 in
set_option maxHeartbeats 4000000 in
theorem c_LongTrainModel_restore (l : Launch) (D : va_G) (k : Nat → ClassId) (a_t : Nat) (d_t : Nat → Nat) (i_t : Nat → Int32) (j_t : Nat → Int64) (r_t_isKept : Nat → Int32) (r_t_s : Nat → Int32) (r_t_kept : Nat → Int32) (r_t_names : Nat → Int64) (r_t_namesKept : Nat → Int64) (n1 : Int32) (Q : Int32 → (Nat → Int32) → (Nat → Int32) → (Nat → Int64) → Prop)  (hf : w_LongTrainModel_restore i_t r_t_isKept r_t_s r_t_kept r_t_names r_t_namesKept n1 Q) : CtI l yX12_restore cX12_restore 3 (some .boolean) 1 22 0 0 D k [.ref a_t, .int n1] (wd_LongTrainModel_restore k a_t d_t i_t j_t r_t_isKept r_t_s r_t_kept r_t_names r_t_namesKept) (fun r w => (r = 0 ∨ r = 1) ∧ (∃ (i_t : Nat → Int32), ∃ (r_t_s : Nat → Int32), ∃ (r_t_names : Nat → Int64), w = (wd_LongTrainModel_restore k a_t d_t i_t j_t r_t_isKept r_t_s r_t_kept r_t_names r_t_namesKept) ∧ Q r i_t r_t_s r_t_names)) := by
  refine CtI.of (by decide) (Nat.le_of_ble_eq_true rfl) ?_
  intro p e s m below meth c A F hr hlk hnm hA hB ls hl
  have hx := F.x
  have hb := F.b
  unfold w_LongTrainModel_restore at hf
  replace hl : lv_has ls 3 [(0, .ref a_t), (1, .int n1)] := hl
  refine lv_aload_n hx hb dX12_restore_0 rfl (lv_at hl 0 rfl) ?_
  refine lv_iconst (v := 0) hx hb dX12_restore_1 (by decide) ?_
  refine g_puti F hB 0 rfl fl_RX12_1 rfl (wd_LongTrainModel_restore k a_t d_t (upd i_t 0 (0 : Int32)) j_t r_t_isKept r_t_s r_t_kept r_t_names r_t_namesKept) rfl dX12_restore_2 (fun H locs hB => ?_)
  refine lv_iload_n hx hb dX12_restore_5 rfl (lv_at hl 1 rfl) ?_
  refine lv_iconst (v := 0) hx hb dX12_restore_6 (by decide) ?_
  refine lv_iconst (v := 1) hx hb dX12_restore_7 (by decide) ?_
  refine k_si (wr := [(a_t, ob 12 (rfd d_t) (upd i_t 0 (0 : Int32)) j_t), ((d_t 48), az k 2 r_t_isKept), ((d_t 6), ai k 1068 r_t_s), ((d_t 46), ai k 2136 r_t_kept), ((d_t 9), aj k 32 r_t_names), ((d_t 47), aj k 32 r_t_namesKept)]) (rest := []) F hA hB (c_LongTrainModel_isIn l D k n1 (0 : Int32) (1 : Int32) _  hf) ml_RX12_182 ms_yX12_isIn [] [0, 1, 2, 3, 4, 5] rfl rfl (by decide) (by decide) (by decide) rfl hl.1 rfl (Nat.le_of_ble_eq_true rfl) ⟨Nat.le_of_ble_eq_true rfl, Nat.le_of_ble_eq_true rfl⟩ ⟨Nat.le_of_ble_eq_true rfl, Nat.le_of_ble_eq_true rfl⟩ dX12_restore_8 (fun z_1 w1 H locs hq hB => ?_)
  obtain ⟨h_2, rfl, hf⟩ := hq
  replace hB : Bd D A s.heap (wd_LongTrainModel_restore k a_t d_t (upd i_t 0 (0 : Int32)) j_t r_t_isKept r_t_s r_t_kept r_t_names r_t_namesKept) H locs := hB.sub [0, 1, 2, 3, 4, 5] (by decide) rfl
  refine lv_if_eq (tgt := 23) hx hb dX12_restore_11 (by decide) (fun c_15 => ?_) (fun c_15 => ?_)
  · replace hf := hf.1 c_15
    refine lv_iconst (v := 0) hx hb dX12_restore_23 (by decide) ?_
    exact r_z F hr hlk hB (Or.inl rfl) ⟨Or.inl rfl, _, _, _, rfl, hf⟩ dX12_restore_24
  · replace hf := hf.2 c_15
    refine lv_aload_n hx hb dX12_restore_14 rfl (lv_at hl 0 rfl) ?_
    refine g_get (w := .ref (d_t 48)) F hB 0 rfl fl_RX12_101 rfl dX12_restore_15 ?_
    refine lv_iload_n hx hb dX12_restore_18 rfl (lv_at hl 1 rfl) ?_
    obtain ⟨h_3, hf⟩ := hf
    refine g_zald F hB 1 rfl h_3 dX12_restore_19 ?_
    refine lv_if_ne (tgt := 25) hx hb dX12_restore_20 (by decide) (fun c_14 => ?_) (fun c_14 => ?_)
    · replace hf := hf.1 c_14
      refine lv_iconst (v := 0) hx hb dX12_restore_25 (by decide) ?_
      refine lv_istore_n (lv' := [(2, .int (0 : Int32)), (0, .ref a_t), (1, .int n1)]) hx hb dX12_restore_26 rfl hl (by decide) rfl (fun ls hl => ?_)
      obtain ⟨n_13, hf⟩ := hf
      refine lt_LongTrainModel_restore_27 F hr hlk hA (fun r_t_s_7 H locs ls hf hB hl => ?_) n_13 _ _ _ _ _ hf hB (lv_sub hl [1, 2, 0] rfl)
      refine lv_iconst (v := 0) hx hb dX12_restore_58 (by decide) ?_
      refine lv_istore_n (lv' := [(2, .int (0 : Int32)), (0, .ref a_t), (1, .int n1)]) hx hb dX12_restore_59 rfl hl (by decide) rfl (fun ls hl => ?_)
      obtain ⟨n_12, hf⟩ := hf
      refine lt_LongTrainModel_restore_60 F hr hlk hA (fun r_t_names_11 H locs ls hf hB hl => ?_) n_12 _ _ _ _ _ hf hB (lv_sub hl [1, 2, 0] rfl)
      refine lv_iconst (v := 1) hx hb dX12_restore_89 (by decide) ?_
      exact r_z F hr hlk hB (Or.inr rfl) ⟨Or.inr rfl, _, _, _, rfl, hf⟩ dX12_restore_90
    · replace hf := hf.2 c_14
      refine lv_iconst (v := 0) hx hb dX12_restore_23 (by decide) ?_
      exact r_z F hr hlk hB (Or.inl rfl) ⟨Or.inl rfl, _, _, _, rfl, hf⟩ dX12_restore_24

/-! LongTrainModel.count -/
set_option maxRecDepth 100000 in
set_option maxHeartbeats 4000000 in
theorem c_LongTrainModel_count (l : Launch) (D : va_G) (k : Nat → ClassId) (a_t : Nat) (d_t : Nat → Nat) (i_t : Nat → Int32) (j_t : Nat → Int64) (r_t_s : Nat → Int32) (n1 : Int32) (Q : Int32 → (Nat → Int32) → Prop)  (hf : w_LongTrainModel_count i_t r_t_s n1 Q) : CtI l yX12_count cX12_count 2 (some .int) 0 0 0 0 D k [.ref a_t, .int n1] (wd_LongTrainModel_count k a_t d_t i_t j_t r_t_s) (fun r w => ∃ (i_t : Nat → Int32), w = (wd_LongTrainModel_count k a_t d_t i_t j_t r_t_s) ∧ Q r i_t) := by
  refine CtI.of (by decide) (Nat.le_of_ble_eq_true rfl) ?_
  intro p e s m below meth c A F hr hlk hnm hA hB ls hl
  have hx := F.x
  have hb := F.b
  unfold w_LongTrainModel_count at hf
  replace hl : lv_has ls 2 [(0, .ref a_t), (1, .int n1)] := hl
  refine lv_aload_n hx hb dX12_count_0 rfl (lv_at hl 0 rfl) ?_
  refine lv_iconst (v := 0) hx hb dX12_count_1 (by decide) ?_
  refine g_puti F hB 0 rfl fl_RX12_1 rfl (wd_LongTrainModel_count k a_t d_t (upd i_t 0 (0 : Int32)) j_t r_t_s) rfl dX12_count_2 (fun H locs hB => ?_)
  refine lv_iload_n hx hb dX12_count_5 rfl (lv_at hl 1 rfl) ?_
  rcases Classical.em (n1 = 0) with c_1 | c_1
  · replace hf := hf.1 c_1
    refine lv_tableIn (tgt := 64) hx hb dX12_count_6 (by rw [c_1]; decide) (by rw [c_1]; decide) (by rw [c_1]; rfl) (by decide) ?_
    refine lv_aload_n hx hb dX12_count_64 rfl (lv_at hl 0 rfl) ?_
    refine g_get (w := .ref (d_t 6)) F hB 0 rfl fl_RX12_33 rfl dX12_count_65 ?_
    refine lv_iconst (v := 0) hx hb dX12_count_68 (by decide) ?_
    refine g_iald F hB 1 rfl (vp_in_iff.mpr (by decide +kernel)) dX12_count_69 ?_
    refine W.eq (g2 := F0 m 70 ls [.int (r_t_s 0)]) rfl ?_
    exact r_i F hr hlk hB ⟨_, rfl, hf⟩ dX12_count_70
  · replace hf := hf.2 c_1
    rcases Classical.em (n1 = 1) with c_3 | c_3
    · replace hf := hf.1 c_3
      refine lv_tableIn (tgt := 71) hx hb dX12_count_6 (by rw [c_3]; decide) (by rw [c_3]; decide) (by rw [c_3]; rfl) (by decide) ?_
      refine lv_aload_n hx hb dX12_count_71 rfl (lv_at hl 0 rfl) ?_
      refine g_get (w := .ref (d_t 6)) F hB 0 rfl fl_RX12_33 rfl dX12_count_72 ?_
      refine lv_iconst (v := 1) hx hb dX12_count_75 (by decide) ?_
      refine g_iald F hB 1 rfl (vp_in_iff.mpr (by decide +kernel)) dX12_count_76 ?_
      refine W.eq (g2 := F0 m 77 ls [.int (r_t_s 1)]) rfl ?_
      exact r_i F hr hlk hB ⟨_, rfl, hf⟩ dX12_count_77
    · replace hf := hf.2 c_3
      rcases Classical.em (n1 = 2) with c_5 | c_5
      · replace hf := hf.1 c_5
        refine lv_tableIn (tgt := 78) hx hb dX12_count_6 (by rw [c_5]; decide) (by rw [c_5]; decide) (by rw [c_5]; rfl) (by decide) ?_
        refine lv_aload_n hx hb dX12_count_78 rfl (lv_at hl 0 rfl) ?_
        refine g_get (w := .ref (d_t 6)) F hB 0 rfl fl_RX12_33 rfl dX12_count_79 ?_
        refine lv_iconst (v := 2) hx hb dX12_count_82 (by decide) ?_
        refine g_iald F hB 1 rfl (vp_in_iff.mpr (by decide +kernel)) dX12_count_83 ?_
        refine W.eq (g2 := F0 m 84 ls [.int (r_t_s 2)]) rfl ?_
        exact r_i F hr hlk hB ⟨_, rfl, hf⟩ dX12_count_84
      · replace hf := hf.2 c_5
        rcases Classical.em (n1 = 3) with c_7 | c_7
        · replace hf := hf.1 c_7
          refine lv_tableIn (tgt := 85) hx hb dX12_count_6 (by rw [c_7]; decide) (by rw [c_7]; decide) (by rw [c_7]; rfl) (by decide) ?_
          refine lv_aload_n hx hb dX12_count_85 rfl (lv_at hl 0 rfl) ?_
          refine g_get (w := .ref (d_t 6)) F hB 0 rfl fl_RX12_33 rfl dX12_count_86 ?_
          refine lv_iconst (v := 3) hx hb dX12_count_89 (by decide) ?_
          refine g_iald F hB 1 rfl (vp_in_iff.mpr (by decide +kernel)) dX12_count_90 ?_
          refine W.eq (g2 := F0 m 91 ls [.int (r_t_s 3)]) rfl ?_
          exact r_i F hr hlk hB ⟨_, rfl, hf⟩ dX12_count_91
        · replace hf := hf.2 c_7
          rcases Classical.em (n1 = 4) with c_9 | c_9
          · replace hf := hf.1 c_9
            refine lv_tableIn (tgt := 92) hx hb dX12_count_6 (by rw [c_9]; decide) (by rw [c_9]; decide) (by rw [c_9]; rfl) (by decide) ?_
            refine lv_aload_n hx hb dX12_count_92 rfl (lv_at hl 0 rfl) ?_
            refine g_get (w := .ref (d_t 6)) F hB 0 rfl fl_RX12_33 rfl dX12_count_93 ?_
            refine lv_iconst (v := 4) hx hb dX12_count_96 (by decide) ?_
            refine g_iald F hB 1 rfl (vp_in_iff.mpr (by decide +kernel)) dX12_count_97 ?_
            refine W.eq (g2 := F0 m 98 ls [.int (r_t_s 4)]) rfl ?_
            exact r_i F hr hlk hB ⟨_, rfl, hf⟩ dX12_count_98
          · replace hf := hf.2 c_9
            rcases Classical.em (n1 = 5) with c_11 | c_11
            · replace hf := hf.1 c_11
              refine lv_tableIn (tgt := 99) hx hb dX12_count_6 (by rw [c_11]; decide) (by rw [c_11]; decide) (by rw [c_11]; rfl) (by decide) ?_
              refine lv_aload_n hx hb dX12_count_99 rfl (lv_at hl 0 rfl) ?_
              refine g_get (w := .ref (d_t 6)) F hB 0 rfl fl_RX12_33 rfl dX12_count_100 ?_
              refine lv_bipush (v := 6) hx hb dX12_count_103 (by decide) ?_
              refine g_iald F hB 1 rfl (vp_in_iff.mpr (by decide +kernel)) dX12_count_105 ?_
              refine W.eq (g2 := F0 m 106 ls [.int (r_t_s 6)]) rfl ?_
              exact r_i F hr hlk hB ⟨_, rfl, hf⟩ dX12_count_106
            · replace hf := hf.2 c_11
              rcases Classical.em (n1 = 6) with c_13 | c_13
              · replace hf := hf.1 c_13
                refine lv_tableIn (tgt := 107) hx hb dX12_count_6 (by rw [c_13]; decide) (by rw [c_13]; decide) (by rw [c_13]; rfl) (by decide) ?_
                refine lv_aload_n hx hb dX12_count_107 rfl (lv_at hl 0 rfl) ?_
                refine g_get (w := .ref (d_t 6)) F hB 0 rfl fl_RX12_33 rfl dX12_count_108 ?_
                refine lv_bipush (v := 7) hx hb dX12_count_111 (by decide) ?_
                refine g_iald F hB 1 rfl (vp_in_iff.mpr (by decide +kernel)) dX12_count_113 ?_
                refine W.eq (g2 := F0 m 114 ls [.int (r_t_s 7)]) rfl ?_
                exact r_i F hr hlk hB ⟨_, rfl, hf⟩ dX12_count_114
              · replace hf := hf.2 c_13
                rcases Classical.em (n1 = 7) with c_15 | c_15
                · replace hf := hf.1 c_15
                  refine lv_tableIn (tgt := 115) hx hb dX12_count_6 (by rw [c_15]; decide) (by rw [c_15]; decide) (by rw [c_15]; rfl) (by decide) ?_
                  refine lv_aload_n hx hb dX12_count_115 rfl (lv_at hl 0 rfl) ?_
                  refine g_get (w := .ref (d_t 6)) F hB 0 rfl fl_RX12_33 rfl dX12_count_116 ?_
                  refine lv_bipush (v := 8) hx hb dX12_count_119 (by decide) ?_
                  refine g_iald F hB 1 rfl (vp_in_iff.mpr (by decide +kernel)) dX12_count_121 ?_
                  refine W.eq (g2 := F0 m 122 ls [.int (r_t_s 8)]) rfl ?_
                  exact r_i F hr hlk hB ⟨_, rfl, hf⟩ dX12_count_122
                · replace hf := hf.2 c_15
                  rcases Classical.em (n1 = 8) with c_17 | c_17
                  · replace hf := hf.1 c_17
                    refine lv_tableIn (tgt := 123) hx hb dX12_count_6 (by rw [c_17]; decide) (by rw [c_17]; decide) (by rw [c_17]; rfl) (by decide) ?_
                    refine lv_aload_n hx hb dX12_count_123 rfl (lv_at hl 0 rfl) ?_
                    refine g_get (w := .ref (d_t 6)) F hB 0 rfl fl_RX12_33 rfl dX12_count_124 ?_
                    refine lv_bipush (v := 9) hx hb dX12_count_127 (by decide) ?_
                    refine g_iald F hB 1 rfl (vp_in_iff.mpr (by decide +kernel)) dX12_count_129 ?_
                    refine W.eq (g2 := F0 m 130 ls [.int (r_t_s 9)]) rfl ?_
                    exact r_i F hr hlk hB ⟨_, rfl, hf⟩ dX12_count_130
                  · replace hf := hf.2 c_17
                    rcases Classical.em (n1 = 9) with c_19 | c_19
                    · replace hf := hf.1 c_19
                      refine lv_tableIn (tgt := 131) hx hb dX12_count_6 (by rw [c_19]; decide) (by rw [c_19]; decide) (by rw [c_19]; rfl) (by decide) ?_
                      refine lv_aload_n hx hb dX12_count_131 rfl (lv_at hl 0 rfl) ?_
                      refine g_get (w := .ref (d_t 6)) F hB 0 rfl fl_RX12_33 rfl dX12_count_132 ?_
                      refine lv_sipush (v := 977) hx hb dX12_count_135 (by decide) ?_
                      refine g_iald F hB 1 rfl (vp_in_iff.mpr (by decide +kernel)) dX12_count_138 ?_
                      refine W.eq (g2 := F0 m 139 ls [.int (r_t_s 977)]) rfl ?_
                      exact r_i F hr hlk hB ⟨_, rfl, hf⟩ dX12_count_139
                    · replace hf := hf.2 c_19
                      rcases Classical.em (n1 = 10) with c_21 | c_21
                      · replace hf := hf.1 c_21
                        refine lv_tableIn (tgt := 140) hx hb dX12_count_6 (by rw [c_21]; decide) (by rw [c_21]; decide) (by rw [c_21]; rfl) (by decide) ?_
                        refine lv_aload_n hx hb dX12_count_140 rfl (lv_at hl 0 rfl) ?_
                        refine g_get (w := .int ((upd i_t 0 (0 : Int32)) 2)) F hB 0 rfl fl_RX12_7 rfl dX12_count_141 ?_
                        exact r_i F hr hlk hB ⟨_, rfl, hf⟩ dX12_count_144
                      · replace hf := hf.2 c_21
                        refine lv_tableOut (tgt := 145) hx hb dX12_count_6 (sw_out (fun z h1 h2 h3 => by
                            have h4 : z = 0 ∨ z = 1 ∨ z = 2 ∨ z = 3 ∨ z = 4 ∨ z = 5 ∨ z = 6 ∨ z = 7 ∨ z = 8 ∨ z = 9 ∨ z = 10 ∨ False := by omega
                            rcases h4 with h4 | h4 | h4 | h4 | h4 | h4 | h4 | h4 | h4 | h4 | h4 | h4
                            · exact c_1 (Int32.toInt_inj.mp (h3.trans (h4.trans (by decide))))
                            · exact c_3 (Int32.toInt_inj.mp (h3.trans (h4.trans (by decide))))
                            · exact c_5 (Int32.toInt_inj.mp (h3.trans (h4.trans (by decide))))
                            · exact c_7 (Int32.toInt_inj.mp (h3.trans (h4.trans (by decide))))
                            · exact c_9 (Int32.toInt_inj.mp (h3.trans (h4.trans (by decide))))
                            · exact c_11 (Int32.toInt_inj.mp (h3.trans (h4.trans (by decide))))
                            · exact c_13 (Int32.toInt_inj.mp (h3.trans (h4.trans (by decide))))
                            · exact c_15 (Int32.toInt_inj.mp (h3.trans (h4.trans (by decide))))
                            · exact c_17 (Int32.toInt_inj.mp (h3.trans (h4.trans (by decide))))
                            · exact c_19 (Int32.toInt_inj.mp (h3.trans (h4.trans (by decide))))
                            · exact c_21 (Int32.toInt_inj.mp (h3.trans (h4.trans (by decide))))
                            · exact h4)) (by decide) ?_
                        refine lv_iconst (v := -1) hx hb dX12_count_145 (by decide) ?_
                        exact r_i F hr hlk hB ⟨_, rfl, hf⟩ dX12_count_146

