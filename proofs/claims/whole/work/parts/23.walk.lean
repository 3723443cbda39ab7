/-! LongTrain.Free.mostLoads -/
set_option maxRecDepth 100000 in
set_option maxHeartbeats 4000000 in
theorem bt_Free_mostLoads_33 {p : Program} {l : Launch} {e : Env} {s : State} {m : MethodId} {below : List Frame} {meth : Method} {c : Code} {A : Nat → Prop} {D : va_G} {k : Nat → ClassId} {a_t : Nat} {d_t : Nat → Nat} {i_t : Nat → Int32} {r_t_reached : Nat → Int32} {n1 : Int32} {n2 : Int32} {Q : Int32 → Prop}  {x1 : Int32} {x2 : Int32} {x4 : Int32} {x5 : Int32} {kx_33 : (Int32) → Prop} {kr_33 : (Int32) → (Int32) → Prop} (F : Fx p m c cX0_mostLoads 7 s ([.ref a_t, .int n1, .int n2] : List Value).toArray RX0 D k) (hr : meth.sig.returnType = (some .int)) (hlk : meth.locks = false) (hA : ∀ q : Nat, s.heap.size ≤ q → A q) (hkx_33 : ∀ (x3 : Int32) (H : Heap) (locs : List Loc) (ls : Array Slot), kx_33 x3 → Bd D A s.heap (wd_Free_mostLoads k a_t d_t i_t r_t_reached) H locs → lv_has ls 7 [(0, .ref a_t), (1, .int x1), (2, .int x2), (3, .int x3), (4, .int x4), (5, .int x5)] → W p l e { frames := 0, cells := 0, slots := 0, locals := 0 } s m ([.ref a_t, .int n1, .int n2] : List Value).toArray below meth c H locs 0 0 (Ei below (fun r w => w = (wd_Free_mostLoads k a_t d_t i_t r_t_reached) ∧ Q r) D k A ([.ref a_t, .int n1, .int n2] : List Value).toArray s 0 0) (F0 m 69 ls [])) (hkr_33 : ∀ (x3 : Int32) (x6 : Int32) (H : Heap) (locs : List Loc) (ls : Array Slot), kr_33 x3 x6 → Bd D A s.heap (wd_Free_mostLoads k a_t d_t i_t r_t_reached) H locs → lv_has ls 7 [(0, .ref a_t), (1, .int x1), (2, .int x2), (3, .int x3), (4, .int x4), (5, .int x5), (6, .int x6)] → W p l e { frames := 0, cells := 0, slots := 0, locals := 0 } s m ([.ref a_t, .int n1, .int n2] : List Value).toArray below meth c H locs 0 0 (Ei below (fun r w => w = (wd_Free_mostLoads k a_t d_t i_t r_t_reached) ∧ Q r) D k A ([.ref a_t, .int n1, .int n2] : List Value).toArray s 0 0) (F0 m 33 ls [])) :
    ∀ (x3 : Int32) (x6 : Int32) (H : Heap) (locs : List Loc) (ls : Array Slot), b_Free_mostLoads_33 i_t r_t_reached x4 x5 kx_33 kr_33 x3 x6 → Bd D A s.heap (wd_Free_mostLoads k a_t d_t i_t r_t_reached) H locs → lv_has ls 7 [(0, .ref a_t), (1, .int x1), (2, .int x2), (3, .int x3), (4, .int x4), (5, .int x5), (6, .int x6)] → W p l e { frames := 0, cells := 0, slots := 0, locals := 0 } s m ([.ref a_t, .int n1, .int n2] : List Value).toArray below meth c H locs 0 0 (Ei below (fun r w => w = (wd_Free_mostLoads k a_t d_t i_t r_t_reached) ∧ Q r) D k A ([.ref a_t, .int n1, .int n2] : List Value).toArray s 0 0) (F0 m 33 ls []) := by
  have hx := F.x
  have hb := F.b
  intro x3 x6 H locs ls hf hB hl
  unfold b_Free_mostLoads_33 at hf
  refine lv_iload hx hb dX0_mostLoads_33 (lv_at hl 6 rfl) ?_
  refine lv_aload_n hx hb dX0_mostLoads_35 rfl (lv_at hl 0 rfl) ?_
  refine g_get (w := .int (i_t 9)) F hB 0 rfl fl_RX0_147 rfl dX0_mostLoads_36 ?_
  refine lv_icmp_ge (tgt := 69) hx hb dX0_mostLoads_39 (by decide) (fun c_4 => ?_) (fun c_4 => ?_)
  · replace hf := hf.1 c_4
    exact hkx_33 _ _ _ _ hf hB (lv_sub hl [0, 1, 2, 3, 4, 5] rfl)
  · replace hf := hf.2 c_4
    refine lv_aload_n hx hb dX0_mostLoads_42 rfl (lv_at hl 0 rfl) ?_
    refine g_get (w := .ref (d_t 7)) F hB 0 rfl fl_RX0_18 rfl dX0_mostLoads_43 ?_
    refine lv_iload hx hb dX0_mostLoads_46 (lv_at hl 6 rfl) ?_
    obtain ⟨h_1, hf⟩ := hf
    refine g_iald F hB 1 rfl h_1 dX0_mostLoads_48 ?_
    refine lv_iload hx hb dX0_mostLoads_49 (lv_at hl 5 rfl) ?_
    refine lv_icmp_ne (tgt := 63) hx hb dX0_mostLoads_51 (by decide) (fun c_3 => ?_) (fun c_3 => ?_)
    · replace hf := hf.1 c_3
      refine lv_iinc (v := (x6 + 1)) (lv' := [(6, .int (x6 + 1)), (0, .ref a_t), (1, .int x1), (2, .int x2), (3, .int x3), (4, .int x4), (5, .int x5)]) (k := 6) hx hb dX0_mostLoads_63 hl rfl rfl (by decide) rfl (fun ls hl => ?_)
      refine lv_goto (tgt := 33) hx hb dX0_mostLoads_66 (by decide) ?_
      exact hkr_33 _ _ _ _ _ hf hB (lv_sub hl [1, 2, 3, 4, 5, 6, 0] rfl)
    · replace hf := hf.2 c_3
      refine lv_iload_n hx hb dX0_mostLoads_54 rfl (lv_at hl 3 rfl) ?_
      refine lv_iload hx hb dX0_mostLoads_55 (lv_at hl 4 rfl) ?_
      refine lv_icmp_ge (tgt := 63) hx hb dX0_mostLoads_57 (by decide) (fun c_2 => ?_) (fun c_2 => ?_)
      · replace hf := hf.1 c_2
        refine lv_iinc (v := (x6 + 1)) (lv' := [(6, .int (x6 + 1)), (0, .ref a_t), (1, .int x1), (2, .int x2), (3, .int x3), (4, .int x4), (5, .int x5)]) (k := 6) hx hb dX0_mostLoads_63 hl rfl rfl (by decide) rfl (fun ls hl => ?_)
        refine lv_goto (tgt := 33) hx hb dX0_mostLoads_66 (by decide) ?_
        exact hkr_33 _ _ _ _ _ hf hB (lv_sub hl [1, 2, 3, 4, 5, 6, 0] rfl)
      · replace hf := hf.2 c_2
        refine lv_iinc (v := (x3 + 1)) (lv' := [(3, .int (x3 + 1)), (0, .ref a_t), (1, .int x1), (2, .int x2), (4, .int x4), (5, .int x5), (6, .int x6)]) (k := 3) hx hb dX0_mostLoads_60 hl rfl rfl (by decide) rfl (fun ls hl => ?_)
        refine lv_iinc (v := (x6 + 1)) (lv' := [(6, .int (x6 + 1)), (3, .int (x3 + 1)), (0, .ref a_t), (1, .int x1), (2, .int x2), (4, .int x4), (5, .int x5)]) (k := 6) hx hb dX0_mostLoads_63 hl rfl rfl (by decide) rfl (fun ls hl => ?_)
        refine lv_goto (tgt := 33) hx hb dX0_mostLoads_66 (by decide) ?_
        exact hkr_33 _ _ _ _ _ hf hB (lv_sub hl [2, 3, 4, 1, 5, 6, 0] rfl)

set_option maxRecDepth 100000 in
set_option maxHeartbeats 4000000 in
theorem lt_Free_mostLoads_33 {p : Program} {l : Launch} {e : Env} {s : State} {m : MethodId} {below : List Frame} {meth : Method} {c : Code} {A : Nat → Prop} {D : va_G} {k : Nat → ClassId} {a_t : Nat} {d_t : Nat → Nat} {i_t : Nat → Int32} {r_t_reached : Nat → Int32} {n1 : Int32} {n2 : Int32} {Q : Int32 → Prop}  {x1 : Int32} {x2 : Int32} {x4 : Int32} {x5 : Int32} {kx_33 : (Int32) → Prop} (F : Fx p m c cX0_mostLoads 7 s ([.ref a_t, .int n1, .int n2] : List Value).toArray RX0 D k) (hr : meth.sig.returnType = (some .int)) (hlk : meth.locks = false) (hA : ∀ q : Nat, s.heap.size ≤ q → A q) (hkx_33 : ∀ (x3 : Int32) (H : Heap) (locs : List Loc) (ls : Array Slot), kx_33 x3 → Bd D A s.heap (wd_Free_mostLoads k a_t d_t i_t r_t_reached) H locs → lv_has ls 7 [(0, .ref a_t), (1, .int x1), (2, .int x2), (3, .int x3), (4, .int x4), (5, .int x5)] → W p l e { frames := 0, cells := 0, slots := 0, locals := 0 } s m ([.ref a_t, .int n1, .int n2] : List Value).toArray below meth c H locs 0 0 (Ei below (fun r w => w = (wd_Free_mostLoads k a_t d_t i_t r_t_reached) ∧ Q r) D k A ([.ref a_t, .int n1, .int n2] : List Value).toArray s 0 0) (F0 m 69 ls [])) :
    ∀ n : Nat, ∀ (x3 : Int32) (x6 : Int32) (H : Heap) (locs : List Loc) (ls : Array Slot), lp_Free_mostLoads_33 i_t r_t_reached x4 x5 kx_33 n x3 x6 → Bd D A s.heap (wd_Free_mostLoads k a_t d_t i_t r_t_reached) H locs → lv_has ls 7 [(0, .ref a_t), (1, .int x1), (2, .int x2), (3, .int x3), (4, .int x4), (5, .int x5), (6, .int x6)] → W p l e { frames := 0, cells := 0, slots := 0, locals := 0 } s m ([.ref a_t, .int n1, .int n2] : List Value).toArray below meth c H locs 0 0 (Ei below (fun r w => w = (wd_Free_mostLoads k a_t d_t i_t r_t_reached) ∧ Q r) D k A ([.ref a_t, .int n1, .int n2] : List Value).toArray s 0 0) (F0 m 33 ls []) := by
  intro n
  induction n with
  | zero => intro x3 x6 H locs ls hf; exact absurd hf (fun h => h)
  | succ n ih => exact bt_Free_mostLoads_33 F hr hlk hA hkx_33 ih

set_option maxRecDepth 100000 in
set_option maxHeartbeats 4000000 in
theorem bt_Free_mostLoads_8 {p : Program} {l : Launch} {e : Env} {s : State} {m : MethodId} {below : List Frame} {meth : Method} {c : Code} {A : Nat → Prop} {D : va_G} {k : Nat → ClassId} {a_t : Nat} {d_t : Nat → Nat} {i_t : Nat → Int32} {r_t_reached : Nat → Int32} {n1 : Int32} {n2 : Int32} {Q : Int32 → Prop}  {x1 : Int32} {x2 : Int32} {kx_8 : (Int32) → Prop} {kr_8 : (Int32) → (Int32) → (Int32) → Prop} (F : Fx p m c cX0_mostLoads 7 s ([.ref a_t, .int n1, .int n2] : List Value).toArray RX0 D k) (hr : meth.sig.returnType = (some .int)) (hlk : meth.locks = false) (hA : ∀ q : Nat, s.heap.size ≤ q → A q) (hkx_8 : ∀ (x3 : Int32) (H : Heap) (locs : List Loc) (ls : Array Slot), kx_8 x3 → Bd D A s.heap (wd_Free_mostLoads k a_t d_t i_t r_t_reached) H locs → lv_has ls 7 [(3, .int x3)] → W p l e { frames := 0, cells := 0, slots := 0, locals := 0 } s m ([.ref a_t, .int n1, .int n2] : List Value).toArray below meth c H locs 0 0 (Ei below (fun r w => w = (wd_Free_mostLoads k a_t d_t i_t r_t_reached) ∧ Q r) D k A ([.ref a_t, .int n1, .int n2] : List Value).toArray s 0 0) (F0 m 75 ls [])) (hkr_8 : ∀ (x3 : Int32) (x4 : Int32) (x5 : Int32) (H : Heap) (locs : List Loc) (ls : Array Slot), kr_8 x3 x4 x5 → Bd D A s.heap (wd_Free_mostLoads k a_t d_t i_t r_t_reached) H locs → lv_has ls 7 [(0, .ref a_t), (1, .int x1), (2, .int x2), (3, .int x3), (4, .int x4), (5, .int x5)] → W p l e { frames := 0, cells := 0, slots := 0, locals := 0 } s m ([.ref a_t, .int n1, .int n2] : List Value).toArray below meth c H locs 0 0 (Ei below (fun r w => w = (wd_Free_mostLoads k a_t d_t i_t r_t_reached) ∧ Q r) D k A ([.ref a_t, .int n1, .int n2] : List Value).toArray s 0 0) (F0 m 8 ls [])) :
    ∀ (x3 : Int32) (x4 : Int32) (x5 : Int32) (H : Heap) (locs : List Loc) (ls : Array Slot), b_Free_mostLoads_8 i_t r_t_reached x1 x2 kx_8 kr_8 x3 x4 x5 → Bd D A s.heap (wd_Free_mostLoads k a_t d_t i_t r_t_reached) H locs → lv_has ls 7 [(0, .ref a_t), (1, .int x1), (2, .int x2), (3, .int x3), (4, .int x4), (5, .int x5)] → W p l e { frames := 0, cells := 0, slots := 0, locals := 0 } s m ([.ref a_t, .int n1, .int n2] : List Value).toArray below meth c H locs 0 0 (Ei below (fun r w => w = (wd_Free_mostLoads k a_t d_t i_t r_t_reached) ∧ Q r) D k A ([.ref a_t, .int n1, .int n2] : List Value).toArray s 0 0) (F0 m 8 ls []) := by
  have hx := F.x
  have hb := F.b
  intro x3 x4 x5 H locs ls hf hB hl
  unfold b_Free_mostLoads_8 at hf
  refine lv_iload hx hb dX0_mostLoads_8 (lv_at hl 5 rfl) ?_
  refine lv_bipush (v := 8) hx hb dX0_mostLoads_10 (by decide) ?_
  refine lv_icmp_gt (tgt := 75) hx hb dX0_mostLoads_12 (by decide) (fun c_7 => ?_) (fun c_7 => ?_)
  · replace hf := hf.1 c_7
    exact hkx_8 _ _ _ _ hf hB (lv_sub hl [3] rfl)
  · replace hf := hf.2 c_7
    refine lv_iload hx hb dX0_mostLoads_15 (lv_at hl 4 rfl) ?_
    refine lv_iconst (v := 1) hx hb dX0_mostLoads_17 (by decide) ?_
    refine lv_iload_n hx hb dX0_mostLoads_18 rfl (lv_at hl 2 rfl) ?_
    refine lv_iload hx hb dX0_mostLoads_19 (lv_at hl 5 rfl) ?_
    refine lv_iconst (v := 1) hx hb dX0_mostLoads_21 (by decide) ?_
    refine lv_isub hx hb dX0_mostLoads_22 ?_
    refine lv_ishr hx hb dX0_mostLoads_23 ?_
    refine lv_iconst (v := 1) hx hb dX0_mostLoads_24 (by decide) ?_
    refine lv_iand hx hb dX0_mostLoads_25 ?_
    refine lv_isub hx hb dX0_mostLoads_26 ?_
    refine lv_iadd hx hb dX0_mostLoads_27 ?_
    refine lv_istore (lv' := [(4, .int (x4 + ((1 : Int32) - ((x2 >>> ((x5 - (1 : Int32)) &&& 31)) &&& (1 : Int32))))), (0, .ref a_t), (1, .int x1), (2, .int x2), (3, .int x3), (5, .int x5)]) hx hb dX0_mostLoads_28 hl (by decide) rfl (fun ls hl => ?_)
    refine lv_iload_n hx hb dX0_mostLoads_30 rfl (lv_at hl 2 rfl) ?_
    refine lv_istore (lv' := [(6, .int x1), (4, .int (x4 + ((1 : Int32) - ((x2 >>> ((x5 - (1 : Int32)) &&& 31)) &&& (1 : Int32))))), (0, .ref a_t), (1, .int x1), (2, .int x2), (3, .int x3), (5, .int x5)]) hx hb dX0_mostLoads_31 hl (by decide) rfl (fun ls hl => ?_)
    obtain ⟨n_6, hf⟩ := hf
    refine lt_Free_mostLoads_33 F hr hlk hA (fun x3_5 H locs ls hf hB hl => ?_) n_6 _ _ _ _ _ hf hB (lv_sub hl [2, 3, 4, 5, 1, 6, 0] rfl)
    refine lv_iinc (v := (x5 + 1)) (lv' := [(5, .int (x5 + 1)), (0, .ref a_t), (1, .int x1), (2, .int x2), (3, .int x3_5), (4, .int (x4 + ((1 : Int32) - ((x2 >>> ((x5 - (1 : Int32)) &&& 31)) &&& (1 : Int32)))))]) (k := 5) hx hb dX0_mostLoads_69 hl rfl rfl (by decide) rfl (fun ls hl => ?_)
    refine lv_goto (tgt := 8) hx hb dX0_mostLoads_72 (by decide) ?_
    exact hkr_8 _ _ _ _ _ _ hf hB (lv_sub hl [1, 2, 3, 4, 5, 0] rfl)

set_option maxRecDepth 100000 in
set_option maxHeartbeats 4000000 in
theorem lt_Free_mostLoads_8 {p : Program} {l : Launch} {e : Env} {s : State} {m : MethodId} {below : List Frame} {meth : Method} {c : Code} {A : Nat → Prop} {D : va_G} {k : Nat → ClassId} {a_t : Nat} {d_t : Nat → Nat} {i_t : Nat → Int32} {r_t_reached : Nat → Int32} {n1 : Int32} {n2 : Int32} {Q : Int32 → Prop}  {x1 : Int32} {x2 : Int32} {kx_8 : (Int32) → Prop} (F : Fx p m c cX0_mostLoads 7 s ([.ref a_t, .int n1, .int n2] : List Value).toArray RX0 D k) (hr : meth.sig.returnType = (some .int)) (hlk : meth.locks = false) (hA : ∀ q : Nat, s.heap.size ≤ q → A q) (hkx_8 : ∀ (x3 : Int32) (H : Heap) (locs : List Loc) (ls : Array Slot), kx_8 x3 → Bd D A s.heap (wd_Free_mostLoads k a_t d_t i_t r_t_reached) H locs → lv_has ls 7 [(3, .int x3)] → W p l e { frames := 0, cells := 0, slots := 0, locals := 0 } s m ([.ref a_t, .int n1, .int n2] : List Value).toArray below meth c H locs 0 0 (Ei below (fun r w => w = (wd_Free_mostLoads k a_t d_t i_t r_t_reached) ∧ Q r) D k A ([.ref a_t, .int n1, .int n2] : List Value).toArray s 0 0) (F0 m 75 ls [])) :
    ∀ n : Nat, ∀ (x3 : Int32) (x4 : Int32) (x5 : Int32) (H : Heap) (locs : List Loc) (ls : Array Slot), lp_Free_mostLoads_8 i_t r_t_reached x1 x2 kx_8 n x3 x4 x5 → Bd D A s.heap (wd_Free_mostLoads k a_t d_t i_t r_t_reached) H locs → lv_has ls 7 [(0, .ref a_t), (1, .int x1), (2, .int x2), (3, .int x3), (4, .int x4), (5, .int x5)] → W p l e { frames := 0, cells := 0, slots := 0, locals := 0 } s m ([.ref a_t, .int n1, .int n2] : List Value).toArray below meth c H locs 0 0 (Ei below (fun r w => w = (wd_Free_mostLoads k a_t d_t i_t r_t_reached) ∧ Q r) D k A ([.ref a_t, .int n1, .int n2] : List Value).toArray s 0 0) (F0 m 8 ls []) := by
  intro n
  induction n with
  | zero => intro x3 x4 x5 H locs ls hf; exact absurd hf (fun h => h)
  | succ n ih => exact bt_Free_mostLoads_8 F hr hlk hA hkx_8 ih

set_option maxRecDepth 100000 in
set_option maxHeartbeats 4000000 in
theorem c_Free_mostLoads (l : Launch) (D : va_G) (k : Nat → ClassId) (a_t : Nat) (d_t : Nat → Nat) (i_t : Nat → Int32) (r_t_reached : Nat → Int32) (n1 : Int32) (n2 : Int32) (Q : Int32 → Prop)  (hf : w_Free_mostLoads i_t r_t_reached n1 n2 Q) : CtI l yX0_mostLoads cX0_mostLoads 7 (some .int) 0 0 0 0 D k [.ref a_t, .int n1, .int n2] (wd_Free_mostLoads k a_t d_t i_t r_t_reached) (fun r w => w = (wd_Free_mostLoads k a_t d_t i_t r_t_reached) ∧ Q r) := by
  refine CtI.of (by decide) (Nat.le_of_ble_eq_true rfl) ?_
  intro p e s m below meth c A F hr hlk hnm hA hB ls hl
  have hx := F.x
  have hb := F.b
  unfold w_Free_mostLoads at hf
  replace hl : lv_has ls 7 [(0, .ref a_t), (1, .int n1), (2, .int n2)] := hl
  refine lv_iconst (v := 0) hx hb dX0_mostLoads_0 (by decide) ?_
  refine lv_istore_n (lv' := [(3, .int (0 : Int32)), (0, .ref a_t), (1, .int n1), (2, .int n2)]) hx hb dX0_mostLoads_1 rfl hl (by decide) rfl (fun ls hl => ?_)
  refine lv_iconst (v := 0) hx hb dX0_mostLoads_2 (by decide) ?_
  refine lv_istore (lv' := [(4, .int (0 : Int32)), (3, .int (0 : Int32)), (0, .ref a_t), (1, .int n1), (2, .int n2)]) hx hb dX0_mostLoads_3 hl (by decide) rfl (fun ls hl => ?_)
  refine lv_iconst (v := 1) hx hb dX0_mostLoads_5 (by decide) ?_
  refine lv_istore (lv' := [(5, .int (1 : Int32)), (4, .int (0 : Int32)), (3, .int (0 : Int32)), (0, .ref a_t), (1, .int n1), (2, .int n2)]) hx hb dX0_mostLoads_6 hl (by decide) rfl (fun ls hl => ?_)
  obtain ⟨n_9, hf⟩ := hf
  refine lt_Free_mostLoads_8 F hr hlk hA (fun x3_8 H locs ls hf hB hl => ?_) n_9 _ _ _ _ _ _ hf hB (lv_sub hl [3, 4, 5, 2, 1, 0] rfl)
  refine lv_iload_n hx hb dX0_mostLoads_75 rfl (lv_at hl 0 rfl) ?_
  exact r_i F hr hlk hB ⟨rfl, hf⟩ dX0_mostLoads_76

/-! LongTrain.Free.leastCarrier -/
set_option maxRecDepth 100000 in
set_option maxHeartbeats 4000000 in
theorem bt_Free_leastCarrier_3 {p : Program} {l : Launch} {e : Env} {s : State} {m : MethodId} {below : List Frame} {meth : Method} {c : Code} {A : Nat → Prop} {D : va_G} {k : Nat → ClassId} {a_t : Nat} {d_t : Nat → Nat} {i_t : Nat → Int32} {r_t_reached : Nat → Int32} {n1 : Int32} {n2 : Int32} {n3 : Int32} {Q : Int32 → Prop}  {x1 : Int32} {x2 : Int32} {x3 : Int32} {kx_3 : Prop} {kr_3 : (Int32) → Prop} (F : Fx p m c cX0_leastCarrier 5 s ([.ref a_t, .int n1, .int n2, .int n3] : List Value).toArray RX0 D k) (hr : meth.sig.returnType = (some .int)) (hlk : meth.locks = false) (hA : ∀ q : Nat, s.heap.size ≤ q → A q) (hkx_3 : ∀ (H : Heap) (locs : List Loc) (ls : Array Slot), kx_3 → Bd D A s.heap (wd_Free_leastCarrier k a_t d_t i_t r_t_reached) H locs → lv_has ls 5 [] → W p l e { frames := 1, cells := 0, slots := 0, locals := 26 } s m ([.ref a_t, .int n1, .int n2, .int n3] : List Value).toArray below meth c H locs 0 0 (Ei below (fun r w => w = (wd_Free_leastCarrier k a_t d_t i_t r_t_reached) ∧ Q r) D k A ([.ref a_t, .int n1, .int n2, .int n3] : List Value).toArray s 0 0) (F0 m 51 ls [])) (hkr_3 : ∀ (x4 : Int32) (H : Heap) (locs : List Loc) (ls : Array Slot), kr_3 x4 → Bd D A s.heap (wd_Free_leastCarrier k a_t d_t i_t r_t_reached) H locs → lv_has ls 5 [(0, .ref a_t), (1, .int x1), (2, .int x2), (3, .int x3), (4, .int x4)] → W p l e { frames := 1, cells := 0, slots := 0, locals := 26 } s m ([.ref a_t, .int n1, .int n2, .int n3] : List Value).toArray below meth c H locs 0 0 (Ei below (fun r w => w = (wd_Free_leastCarrier k a_t d_t i_t r_t_reached) ∧ Q r) D k A ([.ref a_t, .int n1, .int n2, .int n3] : List Value).toArray s 0 0) (F0 m 3 ls [])) :
    ∀ (x4 : Int32) (H : Heap) (locs : List Loc) (ls : Array Slot), b_Free_leastCarrier_3 i_t r_t_reached x1 x2 x3 Q kx_3 kr_3 x4 → Bd D A s.heap (wd_Free_leastCarrier k a_t d_t i_t r_t_reached) H locs → lv_has ls 5 [(0, .ref a_t), (1, .int x1), (2, .int x2), (3, .int x3), (4, .int x4)] → W p l e { frames := 1, cells := 0, slots := 0, locals := 26 } s m ([.ref a_t, .int n1, .int n2, .int n3] : List Value).toArray below meth c H locs 0 0 (Ei below (fun r w => w = (wd_Free_leastCarrier k a_t d_t i_t r_t_reached) ∧ Q r) D k A ([.ref a_t, .int n1, .int n2, .int n3] : List Value).toArray s 0 0) (F0 m 3 ls []) := by
  have hx := F.x
  have hb := F.b
  intro x4 H locs ls hf hB hl
  unfold b_Free_leastCarrier_3 at hf
  refine lv_iload hx hb dX0_leastCarrier_3 (lv_at hl 4 rfl) ?_
  refine lv_aload_n hx hb dX0_leastCarrier_5 rfl (lv_at hl 0 rfl) ?_
  refine g_get (w := .ref (d_t 7)) F hB 0 rfl fl_RX0_18 rfl dX0_leastCarrier_6 ?_
  refine lv_iload_n hx hb dX0_leastCarrier_9 rfl (lv_at hl 1 rfl) ?_
  obtain ⟨h_1, hf⟩ := hf
  refine g_iald F hB 1 rfl h_1 dX0_leastCarrier_10 ?_
  refine lv_icmp_ge (tgt := 51) hx hb dX0_leastCarrier_11 (by decide) (fun c_5 => ?_) (fun c_5 => ?_)
  · replace hf := hf.1 c_5
    exact hkx_3  _ _ _ hf hB (lv_sub hl [] rfl)
  · replace hf := hf.2 c_5
    refine lv_iload_n hx hb dX0_leastCarrier_14 rfl (lv_at hl 2 rfl) ?_
    refine lv_iload hx hb dX0_leastCarrier_15 (lv_at hl 4 rfl) ?_
    refine lv_ishr hx hb dX0_leastCarrier_17 ?_
    refine lv_iconst (v := 1) hx hb dX0_leastCarrier_18 (by decide) ?_
    refine lv_iand hx hb dX0_leastCarrier_19 ?_
    refine lv_if_ne (tgt := 45) hx hb dX0_leastCarrier_20 (by decide) (fun c_4 => ?_) (fun c_4 => ?_)
    · replace hf := hf.1 c_4
      refine lv_iinc (v := (x4 + 1)) (lv' := [(4, .int (x4 + 1)), (0, .ref a_t), (1, .int x1), (2, .int x2), (3, .int x3)]) (k := 4) hx hb dX0_leastCarrier_45 hl rfl rfl (by decide) rfl (fun ls hl => ?_)
      refine lv_goto (tgt := 3) hx hb dX0_leastCarrier_48 (by decide) ?_
      exact hkr_3 _ _ _ _ hf hB (lv_sub hl [1, 2, 3, 4, 0] rfl)
    · replace hf := hf.2 c_4
      refine lv_aload_n hx hb dX0_leastCarrier_23 rfl (lv_at hl 0 rfl) ?_
      refine lv_iload_n hx hb dX0_leastCarrier_24 rfl (lv_at hl 1 rfl) ?_
      refine lv_iconst (v := 1) hx hb dX0_leastCarrier_25 (by decide) ?_
      refine lv_iadd hx hb dX0_leastCarrier_26 ?_
      refine lv_iload_n hx hb dX0_leastCarrier_27 rfl (lv_at hl 2 rfl) ?_
      refine lv_iconst (v := 1) hx hb dX0_leastCarrier_28 (by decide) ?_
      refine lv_iload hx hb dX0_leastCarrier_29 (lv_at hl 4 rfl) ?_
      refine lv_ishl hx hb dX0_leastCarrier_31 ?_
      refine lv_ior hx hb dX0_leastCarrier_32 ?_
      refine k_vi (wr := []) (rest := []) F hA hB (c_Free_mostLoads l D k a_t d_t i_t r_t_reached (x1 + (1 : Int32)) (x2 ||| ((1 : Int32) <<< (x4 &&& 31))) _  hf) ml_RX0_150 mv_yX0_mostLoads [0, 1] [] rfl rfl (by decide) (by decide) (by decide) 0 rfl rfl rfl hl.1 rfl (Nat.le_of_ble_eq_true rfl) ⟨Nat.le_of_ble_eq_true rfl, Nat.le_of_ble_eq_true rfl⟩ ⟨Nat.le_of_ble_eq_true rfl, Nat.le_of_ble_eq_true rfl⟩ dX0_leastCarrier_33 (fun z_2 w1 H locs hq hB => ?_)
      obtain ⟨rfl, hf⟩ := hq
      replace hB : Bd D A s.heap (wd_Free_leastCarrier k a_t d_t i_t r_t_reached) H locs := hB.sub [0, 1] (by decide) rfl
      refine lv_iload_n hx hb dX0_leastCarrier_36 rfl (lv_at hl 3 rfl) ?_
      refine lv_iconst (v := 1) hx hb dX0_leastCarrier_37 (by decide) ?_
      refine lv_isub hx hb dX0_leastCarrier_38 ?_
      refine lv_icmp_ne (tgt := 45) hx hb dX0_leastCarrier_39 (by decide) (fun c_3 => ?_) (fun c_3 => ?_)
      · replace hf := hf.1 c_3
        refine lv_iinc (v := (x4 + 1)) (lv' := [(4, .int (x4 + 1)), (0, .ref a_t), (1, .int x1), (2, .int x2), (3, .int x3)]) (k := 4) hx hb dX0_leastCarrier_45 hl rfl rfl (by decide) rfl (fun ls hl => ?_)
        refine lv_goto (tgt := 3) hx hb dX0_leastCarrier_48 (by decide) ?_
        exact hkr_3 _ _ _ _ hf hB (lv_sub hl [1, 2, 3, 4, 0] rfl)
      · replace hf := hf.2 c_3
        refine lv_iload hx hb dX0_leastCarrier_42 (lv_at hl 4 rfl) ?_
        exact r_i F hr hlk hB ⟨rfl, hf⟩ dX0_leastCarrier_44

set_option maxRecDepth 100000 in
set_option maxHeartbeats 4000000 in
theorem lt_Free_leastCarrier_3 {p : Program} {l : Launch} {e : Env} {s : State} {m : MethodId} {below : List Frame} {meth : Method} {c : Code} {A : Nat → Prop} {D : va_G} {k : Nat → ClassId} {a_t : Nat} {d_t : Nat → Nat} {i_t : Nat → Int32} {r_t_reached : Nat → Int32} {n1 : Int32} {n2 : Int32} {n3 : Int32} {Q : Int32 → Prop}  {x1 : Int32} {x2 : Int32} {x3 : Int32} {kx_3 : Prop} (F : Fx p m c cX0_leastCarrier 5 s ([.ref a_t, .int n1, .int n2, .int n3] : List Value).toArray RX0 D k) (hr : meth.sig.returnType = (some .int)) (hlk : meth.locks = false) (hA : ∀ q : Nat, s.heap.size ≤ q → A q) (hkx_3 : ∀ (H : Heap) (locs : List Loc) (ls : Array Slot), kx_3 → Bd D A s.heap (wd_Free_leastCarrier k a_t d_t i_t r_t_reached) H locs → lv_has ls 5 [] → W p l e { frames := 1, cells := 0, slots := 0, locals := 26 } s m ([.ref a_t, .int n1, .int n2, .int n3] : List Value).toArray below meth c H locs 0 0 (Ei below (fun r w => w = (wd_Free_leastCarrier k a_t d_t i_t r_t_reached) ∧ Q r) D k A ([.ref a_t, .int n1, .int n2, .int n3] : List Value).toArray s 0 0) (F0 m 51 ls [])) :
    ∀ n : Nat, ∀ (x4 : Int32) (H : Heap) (locs : List Loc) (ls : Array Slot), lp_Free_leastCarrier_3 i_t r_t_reached x1 x2 x3 Q kx_3 n x4 → Bd D A s.heap (wd_Free_leastCarrier k a_t d_t i_t r_t_reached) H locs → lv_has ls 5 [(0, .ref a_t), (1, .int x1), (2, .int x2), (3, .int x3), (4, .int x4)] → W p l e { frames := 1, cells := 0, slots := 0, locals := 26 } s m ([.ref a_t, .int n1, .int n2, .int n3] : List Value).toArray below meth c H locs 0 0 (Ei below (fun r w => w = (wd_Free_leastCarrier k a_t d_t i_t r_t_reached) ∧ Q r) D k A ([.ref a_t, .int n1, .int n2, .int n3] : List Value).toArray s 0 0) (F0 m 3 ls []) := by
  intro n
  induction n with
  | zero => intro x4 H locs ls hf; exact absurd hf (fun h => h)
  | succ n ih => exact bt_Free_leastCarrier_3 F hr hlk hA hkx_3 ih

set_option maxRecDepth 100000 in
set_option maxHeartbeats 4000000 in
theorem c_Free_leastCarrier (l : Launch) (D : va_G) (k : Nat → ClassId) (a_t : Nat) (d_t : Nat → Nat) (i_t : Nat → Int32) (r_t_reached : Nat → Int32) (n1 : Int32) (n2 : Int32) (n3 : Int32) (Q : Int32 → Prop)  (hf : w_Free_leastCarrier i_t r_t_reached n1 n2 n3 Q) : CtI l yX0_leastCarrier cX0_leastCarrier 5 (some .int) 1 26 0 0 D k [.ref a_t, .int n1, .int n2, .int n3] (wd_Free_leastCarrier k a_t d_t i_t r_t_reached) (fun r w => w = (wd_Free_leastCarrier k a_t d_t i_t r_t_reached) ∧ Q r) := by
  refine CtI.of (by decide) (Nat.le_of_ble_eq_true rfl) ?_
  intro p e s m below meth c A F hr hlk hnm hA hB ls hl
  have hx := F.x
  have hb := F.b
  unfold w_Free_leastCarrier at hf
  replace hl : lv_has ls 5 [(0, .ref a_t), (1, .int n1), (2, .int n2), (3, .int n3)] := hl
  refine lv_iconst (v := 0) hx hb dX0_leastCarrier_0 (by decide) ?_
  refine lv_istore (lv' := [(4, .int (0 : Int32)), (0, .ref a_t), (1, .int n1), (2, .int n2), (3, .int n3)]) hx hb dX0_leastCarrier_1 hl (by decide) rfl (fun ls hl => ?_)
  obtain ⟨n_6, hf⟩ := hf
  refine lt_Free_leastCarrier_3 F hr hlk hA (fun  H locs ls hf hB hl => ?_) n_6 _ _ _ _ hf hB (lv_sub hl [1, 2, 3, 4, 0] rfl)
  refine lv_iconst (v := -1) hx hb dX0_leastCarrier_51 (by decide) ?_
  exact r_i F hr hlk hB ⟨rfl, hf⟩ dX0_leastCarrier_52

/-! LongTrain.Free.loadAll -/
set_option maxRecDepth 100000 in
set_option maxHeartbeats 4000000 in
theorem bt_Free_loadAll_3 {p : Program} {l : Launch} {e : Env} {s : State} {m : MethodId} {below : List Frame} {meth : Method} {c : Code} {A : Nat → Prop} {D : va_G} {k : Nat → ClassId} {a_t : Nat} {d_t : Nat → Nat} {i_t : Nat → Int32} {a_p1 : Nat} {d_p1 : Nat → Nat} {i_p1 : Nat → Int32} {a_p2 : Nat} {r_p2 : Nat → Int32} {d_t_row : Nat → Nat} {r_p1_halts : Nat → Int32} {r_p1_first : Nat → Int32} {r_p1_kinds : Nat → Int32} {r_t_carriers : Nat → Int32} {n3 : Int32} {Q : Int32 → (Nat → Int32) → (Nat → Int32) → (Nat → Int32) → (Nat → Int32) → (Nat → Int32) → (Nat → Int32) → (Nat → Int32) → (Nat → Int32) → (Nat → Int32) → (Nat → Int32) → (Nat → Int32) → Prop}  {x3 : Int32} {kx_3 : (Nat → Int32) → (Nat → Int32) → (Nat → Int32) → (Nat → Int32) → (Nat → Int32) → (Nat → Int32) → (Nat → Int32) → (Nat → Int32) → (Nat → Int32) → Prop} {kr_3 : (Int32) → (Nat → Int32) → (Nat → Int32) → (Nat → Int32) → (Nat → Int32) → (Nat → Int32) → (Nat → Int32) → (Nat → Int32) → (Nat → Int32) → (Nat → Int32) → Prop} (F : Fx p m c cX0_loadAll 8 s ([.ref a_t, .ref a_p1, .ref a_p2, .int n3] : List Value).toArray RX0 D k) (hr : meth.sig.returnType = (some .int)) (hlk : meth.locks = false) (hA : ∀ q : Nat, s.heap.size ≤ q → A q) (hkx_3 : ∀ (r_t_reached : Nat → Int32) (i_t_row : Nat → Int32) (r_t_row_kinds : Nat → Int32) (r_t_row_longs : Nat → Int32) (r_t_row_weights : Nat → Int32) (r_t_row_strengths : Nat → Int32) (r_t_row_wears : Nat → Int32) (r_t_row_pushes : Nat → Int32) (r_t_row_helpers : Nat → Int32) (H : Heap) (locs : List Loc) (ls : Array Slot), kx_3 r_t_reached i_t_row r_t_row_kinds r_t_row_longs r_t_row_weights r_t_row_strengths r_t_row_wears r_t_row_pushes r_t_row_helpers → Bd D A s.heap (wd_Free_loadAll k a_t d_t i_t a_p1 d_p1 i_p1 a_p2 r_p2 r_t_reached d_t_row i_t_row r_p1_halts r_p1_first r_t_row_kinds r_t_row_longs r_t_row_weights r_t_row_strengths r_t_row_wears r_t_row_pushes r_t_row_helpers r_p1_kinds r_t_carriers) H locs → lv_has ls 8 [(0, .ref a_t), (3, .int x3)] → W p l e { frames := 5, cells := 0, slots := 0, locals := 114 } s m ([.ref a_t, .ref a_p1, .ref a_p2, .int n3] : List Value).toArray below meth c H locs 0 0 (Ei below (fun r w => ∃ (i_t : Nat → Int32), ∃ (r_t_reached : Nat → Int32), ∃ (i_t_row : Nat → Int32), ∃ (r_t_row_kinds : Nat → Int32), ∃ (r_t_row_longs : Nat → Int32), ∃ (r_t_row_weights : Nat → Int32), ∃ (r_t_row_strengths : Nat → Int32), ∃ (r_t_row_wears : Nat → Int32), ∃ (r_t_row_pushes : Nat → Int32), ∃ (r_t_row_helpers : Nat → Int32), ∃ (r_t_carriers : Nat → Int32), w = (wd_Free_loadAll k a_t d_t i_t a_p1 d_p1 i_p1 a_p2 r_p2 r_t_reached d_t_row i_t_row r_p1_halts r_p1_first r_t_row_kinds r_t_row_longs r_t_row_weights r_t_row_strengths r_t_row_wears r_t_row_pushes r_t_row_helpers r_p1_kinds r_t_carriers) ∧ Q r i_t r_t_reached i_t_row r_t_row_kinds r_t_row_longs r_t_row_weights r_t_row_strengths r_t_row_wears r_t_row_pushes r_t_row_helpers r_t_carriers) D k A ([.ref a_t, .ref a_p1, .ref a_p2, .int n3] : List Value).toArray s 0 0) (F0 m 45 ls [])) (hkr_3 : ∀ (x4 : Int32) (r_t_reached : Nat → Int32) (i_t_row : Nat → Int32) (r_t_row_kinds : Nat → Int32) (r_t_row_longs : Nat → Int32) (r_t_row_weights : Nat → Int32) (r_t_row_strengths : Nat → Int32) (r_t_row_wears : Nat → Int32) (r_t_row_pushes : Nat → Int32) (r_t_row_helpers : Nat → Int32) (H : Heap) (locs : List Loc) (ls : Array Slot), kr_3 x4 r_t_reached i_t_row r_t_row_kinds r_t_row_longs r_t_row_weights r_t_row_strengths r_t_row_wears r_t_row_pushes r_t_row_helpers → Bd D A s.heap (wd_Free_loadAll k a_t d_t i_t a_p1 d_p1 i_p1 a_p2 r_p2 r_t_reached d_t_row i_t_row r_p1_halts r_p1_first r_t_row_kinds r_t_row_longs r_t_row_weights r_t_row_strengths r_t_row_wears r_t_row_pushes r_t_row_helpers r_p1_kinds r_t_carriers) H locs → lv_has ls 8 [(0, .ref a_t), (1, .ref a_p1), (2, .ref a_p2), (3, .int x3), (4, .int x4)] → W p l e { frames := 5, cells := 0, slots := 0, locals := 114 } s m ([.ref a_t, .ref a_p1, .ref a_p2, .int n3] : List Value).toArray below meth c H locs 0 0 (Ei below (fun r w => ∃ (i_t : Nat → Int32), ∃ (r_t_reached : Nat → Int32), ∃ (i_t_row : Nat → Int32), ∃ (r_t_row_kinds : Nat → Int32), ∃ (r_t_row_longs : Nat → Int32), ∃ (r_t_row_weights : Nat → Int32), ∃ (r_t_row_strengths : Nat → Int32), ∃ (r_t_row_wears : Nat → Int32), ∃ (r_t_row_pushes : Nat → Int32), ∃ (r_t_row_helpers : Nat → Int32), ∃ (r_t_carriers : Nat → Int32), w = (wd_Free_loadAll k a_t d_t i_t a_p1 d_p1 i_p1 a_p2 r_p2 r_t_reached d_t_row i_t_row r_p1_halts r_p1_first r_t_row_kinds r_t_row_longs r_t_row_weights r_t_row_strengths r_t_row_wears r_t_row_pushes r_t_row_helpers r_p1_kinds r_t_carriers) ∧ Q r i_t r_t_reached i_t_row r_t_row_kinds r_t_row_longs r_t_row_weights r_t_row_strengths r_t_row_wears r_t_row_pushes r_t_row_helpers r_t_carriers) D k A ([.ref a_t, .ref a_p1, .ref a_p2, .int n3] : List Value).toArray s 0 0) (F0 m 3 ls [])) :
    ∀ (x4 : Int32) (r_t_reached : Nat → Int32) (i_t_row : Nat → Int32) (r_t_row_kinds : Nat → Int32) (r_t_row_longs : Nat → Int32) (r_t_row_weights : Nat → Int32) (r_t_row_strengths : Nat → Int32) (r_t_row_wears : Nat → Int32) (r_t_row_pushes : Nat → Int32) (r_t_row_helpers : Nat → Int32) (H : Heap) (locs : List Loc) (ls : Array Slot), b_Free_loadAll_3 i_p1 r_p2 r_p1_halts r_p1_first r_p1_kinds x3 kx_3 kr_3 x4 r_t_reached i_t_row r_t_row_kinds r_t_row_longs r_t_row_weights r_t_row_strengths r_t_row_wears r_t_row_pushes r_t_row_helpers → Bd D A s.heap (wd_Free_loadAll k a_t d_t i_t a_p1 d_p1 i_p1 a_p2 r_p2 r_t_reached d_t_row i_t_row r_p1_halts r_p1_first r_t_row_kinds r_t_row_longs r_t_row_weights r_t_row_strengths r_t_row_wears r_t_row_pushes r_t_row_helpers r_p1_kinds r_t_carriers) H locs → lv_has ls 8 [(0, .ref a_t), (1, .ref a_p1), (2, .ref a_p2), (3, .int x3), (4, .int x4)] → W p l e { frames := 5, cells := 0, slots := 0, locals := 114 } s m ([.ref a_t, .ref a_p1, .ref a_p2, .int n3] : List Value).toArray below meth c H locs 0 0 (Ei below (fun r w => ∃ (i_t : Nat → Int32), ∃ (r_t_reached : Nat → Int32), ∃ (i_t_row : Nat → Int32), ∃ (r_t_row_kinds : Nat → Int32), ∃ (r_t_row_longs : Nat → Int32), ∃ (r_t_row_weights : Nat → Int32), ∃ (r_t_row_strengths : Nat → Int32), ∃ (r_t_row_wears : Nat → Int32), ∃ (r_t_row_pushes : Nat → Int32), ∃ (r_t_row_helpers : Nat → Int32), ∃ (r_t_carriers : Nat → Int32), w = (wd_Free_loadAll k a_t d_t i_t a_p1 d_p1 i_p1 a_p2 r_p2 r_t_reached d_t_row i_t_row r_p1_halts r_p1_first r_t_row_kinds r_t_row_longs r_t_row_weights r_t_row_strengths r_t_row_wears r_t_row_pushes r_t_row_helpers r_p1_kinds r_t_carriers) ∧ Q r i_t r_t_reached i_t_row r_t_row_kinds r_t_row_longs r_t_row_weights r_t_row_strengths r_t_row_wears r_t_row_pushes r_t_row_helpers r_t_carriers) D k A ([.ref a_t, .ref a_p1, .ref a_p2, .int n3] : List Value).toArray s 0 0) (F0 m 3 ls []) := by
  have hx := F.x
  have hb := F.b
  intro x4 r_t_reached i_t_row r_t_row_kinds r_t_row_longs r_t_row_weights r_t_row_strengths r_t_row_wears r_t_row_pushes r_t_row_helpers H locs ls hf hB hl
  unfold b_Free_loadAll_3 at hf
  refine lv_iload hx hb dX0_loadAll_3 (lv_at hl 4 rfl) ?_
  refine lv_iload_n hx hb dX0_loadAll_5 rfl (lv_at hl 3 rfl) ?_
  refine lv_icmp_ge (tgt := 45) hx hb dX0_loadAll_6 (by decide) (fun c_13 => ?_) (fun c_13 => ?_)
  · replace hf := hf.1 c_13
    exact hkx_3 _ _ _ _ _ _ _ _ _ _ _ _ hf hB (lv_sub hl [0, 3] rfl)
  · replace hf := hf.2 c_13
    refine lv_iload hx hb dX0_loadAll_9 (lv_at hl 4 rfl) ?_
    refine lv_bipush (v := 8) hx hb dX0_loadAll_11 (by decide) ?_
    refine lv_icmp_ge (tgt := 45) hx hb dX0_loadAll_13 (by decide) (fun c_12 => ?_) (fun c_12 => ?_)
    · replace hf := hf.1 c_12
      exact hkx_3 _ _ _ _ _ _ _ _ _ _ _ _ hf hB (lv_sub hl [0, 3] rfl)
    · replace hf := hf.2 c_12
      refine lv_aload_n hx hb dX0_loadAll_16 rfl (lv_at hl 0 rfl) ?_
      refine g_get (w := .ref (d_t 7)) F hB 0 rfl fl_RX0_18 rfl dX0_loadAll_17 ?_
      refine lv_iload hx hb dX0_loadAll_20 (lv_at hl 4 rfl) ?_
      refine lv_aload_n hx hb dX0_loadAll_22 rfl (lv_at hl 1 rfl) ?_
      refine g_get (w := .int (i_p1 9)) F hB 1 rfl fl_RX0_140 rfl dX0_loadAll_23 ?_
      refine lv_aload_n hx hb dX0_loadAll_26 rfl (lv_at hl 0 rfl) ?_
      refine lv_aload_n hx hb dX0_loadAll_27 rfl (lv_at hl 1 rfl) ?_
      refine lv_aload_n hx hb dX0_loadAll_28 rfl (lv_at hl 2 rfl) ?_
      refine lv_iload hx hb dX0_loadAll_29 (lv_at hl 4 rfl) ?_
      obtain ⟨h_1, hf⟩ := hf
      refine g_iald F hB 2 rfl h_1 dX0_loadAll_31 ?_
      refine k_vi (wr := [(a_p2, ai k 940 r_p2), ((d_t 7), ai k 8 r_t_reached), ((d_t 8), ai k 8 r_t_carriers)]) (rest := [.int (i_p1 9), .int x4, .ref (d_t 7)]) F hA hB (c_Free_wagonsAtPlatform l D k a_t d_t i_t a_p1 d_p1 i_p1 d_t_row i_t_row r_p1_halts r_p1_first r_t_row_kinds r_t_row_longs r_t_row_weights r_t_row_strengths r_t_row_wears r_t_row_pushes r_t_row_helpers r_p1_kinds (r_p2 (x4).toNatClampNeg) _  hf) ml_RX0_143 mv_yX0_wagonsAtPlatform [0, 1, 4, 5, 6, 7, 8, 9, 10, 11, 12, 13, 14] [2, 3, 15] rfl rfl (by decide) (by decide) (by decide) 0 rfl rfl rfl hl.1 rfl (Nat.le_of_ble_eq_true rfl) ⟨Nat.le_of_ble_eq_true rfl, Nat.le_of_ble_eq_true rfl⟩ ⟨Nat.le_of_ble_eq_true rfl, Nat.le_of_ble_eq_true rfl⟩ dX0_loadAll_32 (fun z_10 w1 H locs hq hB => ?_)
      obtain ⟨i_t_row_2, r_t_row_kinds_3, r_t_row_longs_4, r_t_row_weights_5, r_t_row_strengths_6, r_t_row_wears_7, r_t_row_pushes_8, r_t_row_helpers_9, rfl, hf⟩ := hq
      replace hB : Bd D A s.heap (wd_Free_loadAll k a_t d_t i_t a_p1 d_p1 i_p1 a_p2 r_p2 r_t_reached d_t_row i_t_row_2 r_p1_halts r_p1_first r_t_row_kinds_3 r_t_row_longs_4 r_t_row_weights_5 r_t_row_strengths_6 r_t_row_wears_7 r_t_row_pushes_8 r_t_row_helpers_9 r_p1_kinds r_t_carriers) H locs := hB.sub [3, 4, 0, 1, 5, 6, 7, 8, 9, 10, 11, 12, 13, 14, 15, 2] (by decide) rfl
      refine k_min F ml_RX0_124 hl.1 (by decide) (Nat.le_of_ble_eq_true rfl) (Nat.zero_le _) (Nat.zero_le _) dX0_loadAll_35 ?_
      obtain ⟨h_11, hf⟩ := hf
      refine g_iast F hB 3 rfl h_11 (wd_Free_loadAll k a_t d_t i_t a_p1 d_p1 i_p1 a_p2 r_p2 (upd r_t_reached (x4).toNatClampNeg (jmin (i_p1 9) z_10)) d_t_row i_t_row_2 r_p1_halts r_p1_first r_t_row_kinds_3 r_t_row_longs_4 r_t_row_weights_5 r_t_row_strengths_6 r_t_row_wears_7 r_t_row_pushes_8 r_t_row_helpers_9 r_p1_kinds r_t_carriers) rfl dX0_loadAll_38 (fun H locs hB => ?_)
      refine lv_iinc (v := (x4 + 1)) (lv' := [(4, .int (x4 + 1)), (0, .ref a_t), (1, .ref a_p1), (2, .ref a_p2), (3, .int x3)]) (k := 4) hx hb dX0_loadAll_39 hl rfl rfl (by decide) rfl (fun ls hl => ?_)
      refine lv_goto (tgt := 3) hx hb dX0_loadAll_42 (by decide) ?_
      exact hkr_3 _ _ _ _ _ _ _ _ _ _ _ _ _ hf hB (lv_sub hl [1, 2, 3, 4, 0] rfl)

set_option maxRecDepth 100000 in
set_option maxHeartbeats 4000000 in
theorem lt_Free_loadAll_3 {p : Program} {l : Launch} {e : Env} {s : State} {m : MethodId} {below : List Frame} {meth : Method} {c : Code} {A : Nat → Prop} {D : va_G} {k : Nat → ClassId} {a_t : Nat} {d_t : Nat → Nat} {i_t : Nat → Int32} {a_p1 : Nat} {d_p1 : Nat → Nat} {i_p1 : Nat → Int32} {a_p2 : Nat} {r_p2 : Nat → Int32} {d_t_row : Nat → Nat} {r_p1_halts : Nat → Int32} {r_p1_first : Nat → Int32} {r_p1_kinds : Nat → Int32} {r_t_carriers : Nat → Int32} {n3 : Int32} {Q : Int32 → (Nat → Int32) → (Nat → Int32) → (Nat → Int32) → (Nat → Int32) → (Nat → Int32) → (Nat → Int32) → (Nat → Int32) → (Nat → Int32) → (Nat → Int32) → (Nat → Int32) → (Nat → Int32) → Prop}  {x3 : Int32} {kx_3 : (Nat → Int32) → (Nat → Int32) → (Nat → Int32) → (Nat → Int32) → (Nat → Int32) → (Nat → Int32) → (Nat → Int32) → (Nat → Int32) → (Nat → Int32) → Prop} (F : Fx p m c cX0_loadAll 8 s ([.ref a_t, .ref a_p1, .ref a_p2, .int n3] : List Value).toArray RX0 D k) (hr : meth.sig.returnType = (some .int)) (hlk : meth.locks = false) (hA : ∀ q : Nat, s.heap.size ≤ q → A q) (hkx_3 : ∀ (r_t_reached : Nat → Int32) (i_t_row : Nat → Int32) (r_t_row_kinds : Nat → Int32) (r_t_row_longs : Nat → Int32) (r_t_row_weights : Nat → Int32) (r_t_row_strengths : Nat → Int32) (r_t_row_wears : Nat → Int32) (r_t_row_pushes : Nat → Int32) (r_t_row_helpers : Nat → Int32) (H : Heap) (locs : List Loc) (ls : Array Slot), kx_3 r_t_reached i_t_row r_t_row_kinds r_t_row_longs r_t_row_weights r_t_row_strengths r_t_row_wears r_t_row_pushes r_t_row_helpers → Bd D A s.heap (wd_Free_loadAll k a_t d_t i_t a_p1 d_p1 i_p1 a_p2 r_p2 r_t_reached d_t_row i_t_row r_p1_halts r_p1_first r_t_row_kinds r_t_row_longs r_t_row_weights r_t_row_strengths r_t_row_wears r_t_row_pushes r_t_row_helpers r_p1_kinds r_t_carriers) H locs → lv_has ls 8 [(0, .ref a_t), (3, .int x3)] → W p l e { frames := 5, cells := 0, slots := 0, locals := 114 } s m ([.ref a_t, .ref a_p1, .ref a_p2, .int n3] : List Value).toArray below meth c H locs 0 0 (Ei below (fun r w => ∃ (i_t : Nat → Int32), ∃ (r_t_reached : Nat → Int32), ∃ (i_t_row : Nat → Int32), ∃ (r_t_row_kinds : Nat → Int32), ∃ (r_t_row_longs : Nat → Int32), ∃ (r_t_row_weights : Nat → Int32), ∃ (r_t_row_strengths : Nat → Int32), ∃ (r_t_row_wears : Nat → Int32), ∃ (r_t_row_pushes : Nat → Int32), ∃ (r_t_row_helpers : Nat → Int32), ∃ (r_t_carriers : Nat → Int32), w = (wd_Free_loadAll k a_t d_t i_t a_p1 d_p1 i_p1 a_p2 r_p2 r_t_reached d_t_row i_t_row r_p1_halts r_p1_first r_t_row_kinds r_t_row_longs r_t_row_weights r_t_row_strengths r_t_row_wears r_t_row_pushes r_t_row_helpers r_p1_kinds r_t_carriers) ∧ Q r i_t r_t_reached i_t_row r_t_row_kinds r_t_row_longs r_t_row_weights r_t_row_strengths r_t_row_wears r_t_row_pushes r_t_row_helpers r_t_carriers) D k A ([.ref a_t, .ref a_p1, .ref a_p2, .int n3] : List Value).toArray s 0 0) (F0 m 45 ls [])) :
    ∀ n : Nat, ∀ (x4 : Int32) (r_t_reached : Nat → Int32) (i_t_row : Nat → Int32) (r_t_row_kinds : Nat → Int32) (r_t_row_longs : Nat → Int32) (r_t_row_weights : Nat → Int32) (r_t_row_strengths : Nat → Int32) (r_t_row_wears : Nat → Int32) (r_t_row_pushes : Nat → Int32) (r_t_row_helpers : Nat → Int32) (H : Heap) (locs : List Loc) (ls : Array Slot), lp_Free_loadAll_3 i_p1 r_p2 r_p1_halts r_p1_first r_p1_kinds x3 kx_3 n x4 r_t_reached i_t_row r_t_row_kinds r_t_row_longs r_t_row_weights r_t_row_strengths r_t_row_wears r_t_row_pushes r_t_row_helpers → Bd D A s.heap (wd_Free_loadAll k a_t d_t i_t a_p1 d_p1 i_p1 a_p2 r_p2 r_t_reached d_t_row i_t_row r_p1_halts r_p1_first r_t_row_kinds r_t_row_longs r_t_row_weights r_t_row_strengths r_t_row_wears r_t_row_pushes r_t_row_helpers r_p1_kinds r_t_carriers) H locs → lv_has ls 8 [(0, .ref a_t), (1, .ref a_p1), (2, .ref a_p2), (3, .int x3), (4, .int x4)] → W p l e { frames := 5, cells := 0, slots := 0, locals := 114 } s m ([.ref a_t, .ref a_p1, .ref a_p2, .int n3] : List Value).toArray below meth c H locs 0 0 (Ei below (fun r w => ∃ (i_t : Nat → Int32), ∃ (r_t_reached : Nat → Int32), ∃ (i_t_row : Nat → Int32), ∃ (r_t_row_kinds : Nat → Int32), ∃ (r_t_row_longs : Nat → Int32), ∃ (r_t_row_weights : Nat → Int32), ∃ (r_t_row_strengths : Nat → Int32), ∃ (r_t_row_wears : Nat → Int32), ∃ (r_t_row_pushes : Nat → Int32), ∃ (r_t_row_helpers : Nat → Int32), ∃ (r_t_carriers : Nat → Int32), w = (wd_Free_loadAll k a_t d_t i_t a_p1 d_p1 i_p1 a_p2 r_p2 r_t_reached d_t_row i_t_row r_p1_halts r_p1_first r_t_row_kinds r_t_row_longs r_t_row_weights r_t_row_strengths r_t_row_wears r_t_row_pushes r_t_row_helpers r_p1_kinds r_t_carriers) ∧ Q r i_t r_t_reached i_t_row r_t_row_kinds r_t_row_longs r_t_row_weights r_t_row_strengths r_t_row_wears r_t_row_pushes r_t_row_helpers r_t_carriers) D k A ([.ref a_t, .ref a_p1, .ref a_p2, .int n3] : List Value).toArray s 0 0) (F0 m 3 ls []) := by
  intro n
  induction n with
  | zero => intro x4 r_t_reached i_t_row r_t_row_kinds r_t_row_longs r_t_row_weights r_t_row_strengths r_t_row_wears r_t_row_pushes r_t_row_helpers H locs ls hf; exact absurd hf (fun h => h)
  | succ n ih => exact bt_Free_loadAll_3 F hr hlk hA hkx_3 ih

set_option maxRecDepth 100000 in
set_option maxHeartbeats 4000000 in
theorem bt_Free_loadAll_68 {p : Program} {l : Launch} {e : Env} {s : State} {m : MethodId} {below : List Frame} {meth : Method} {c : Code} {A : Nat → Prop} {D : va_G} {k : Nat → ClassId} {a_t : Nat} {d_t : Nat → Nat} {i_t : Nat → Int32} {a_p1 : Nat} {d_p1 : Nat → Nat} {i_p1 : Nat → Int32} {a_p2 : Nat} {r_p2 : Nat → Int32} {r_t_reached : Nat → Int32} {d_t_row : Nat → Nat} {i_t_row : Nat → Int32} {r_p1_halts : Nat → Int32} {r_p1_first : Nat → Int32} {r_t_row_kinds : Nat → Int32} {r_t_row_longs : Nat → Int32} {r_t_row_weights : Nat → Int32} {r_t_row_strengths : Nat → Int32} {r_t_row_wears : Nat → Int32} {r_t_row_pushes : Nat → Int32} {r_t_row_helpers : Nat → Int32} {r_p1_kinds : Nat → Int32} {n3 : Int32} {Q : Int32 → (Nat → Int32) → (Nat → Int32) → (Nat → Int32) → (Nat → Int32) → (Nat → Int32) → (Nat → Int32) → (Nat → Int32) → (Nat → Int32) → (Nat → Int32) → (Nat → Int32) → (Nat → Int32) → Prop}  {x3 : Int32} {x4 : Int32} {kx_68 : (Nat → Int32) → Prop} {kr_68 : (Int32) → (Int32) → (Int32) → (Nat → Int32) → Prop} (F : Fx p m c cX0_loadAll 8 s ([.ref a_t, .ref a_p1, .ref a_p2, .int n3] : List Value).toArray RX0 D k) (hr : meth.sig.returnType = (some .int)) (hlk : meth.locks = false) (hA : ∀ q : Nat, s.heap.size ≤ q → A q) (hkx_68 : ∀ (r_t_carriers : Nat → Int32) (H : Heap) (locs : List Loc) (ls : Array Slot), kx_68 r_t_carriers → Bd D A s.heap (wd_Free_loadAll k a_t d_t i_t a_p1 d_p1 i_p1 a_p2 r_p2 r_t_reached d_t_row i_t_row r_p1_halts r_p1_first r_t_row_kinds r_t_row_longs r_t_row_weights r_t_row_strengths r_t_row_wears r_t_row_pushes r_t_row_helpers r_p1_kinds r_t_carriers) H locs → lv_has ls 8 [(4, .int x4)] → W p l e { frames := 5, cells := 0, slots := 0, locals := 114 } s m ([.ref a_t, .ref a_p1, .ref a_p2, .int n3] : List Value).toArray below meth c H locs 0 0 (Ei below (fun r w => ∃ (i_t : Nat → Int32), ∃ (r_t_reached : Nat → Int32), ∃ (i_t_row : Nat → Int32), ∃ (r_t_row_kinds : Nat → Int32), ∃ (r_t_row_longs : Nat → Int32), ∃ (r_t_row_weights : Nat → Int32), ∃ (r_t_row_strengths : Nat → Int32), ∃ (r_t_row_wears : Nat → Int32), ∃ (r_t_row_pushes : Nat → Int32), ∃ (r_t_row_helpers : Nat → Int32), ∃ (r_t_carriers : Nat → Int32), w = (wd_Free_loadAll k a_t d_t i_t a_p1 d_p1 i_p1 a_p2 r_p2 r_t_reached d_t_row i_t_row r_p1_halts r_p1_first r_t_row_kinds r_t_row_longs r_t_row_weights r_t_row_strengths r_t_row_wears r_t_row_pushes r_t_row_helpers r_p1_kinds r_t_carriers) ∧ Q r i_t r_t_reached i_t_row r_t_row_kinds r_t_row_longs r_t_row_weights r_t_row_strengths r_t_row_wears r_t_row_pushes r_t_row_helpers r_t_carriers) D k A ([.ref a_t, .ref a_p1, .ref a_p2, .int n3] : List Value).toArray s 0 0) (F0 m 125 ls [])) (hkr_68 : ∀ (x5 : Int32) (x6 : Int32) (x7 : Int32) (r_t_carriers : Nat → Int32) (H : Heap) (locs : List Loc) (ls : Array Slot), kr_68 x5 x6 x7 r_t_carriers → Bd D A s.heap (wd_Free_loadAll k a_t d_t i_t a_p1 d_p1 i_p1 a_p2 r_p2 r_t_reached d_t_row i_t_row r_p1_halts r_p1_first r_t_row_kinds r_t_row_longs r_t_row_weights r_t_row_strengths r_t_row_wears r_t_row_pushes r_t_row_helpers r_p1_kinds r_t_carriers) H locs → lv_has ls 8 [(0, .ref a_t), (3, .int x3), (4, .int x4), (5, .int x5), (6, .int x6), (7, .int x7)] → W p l e { frames := 5, cells := 0, slots := 0, locals := 114 } s m ([.ref a_t, .ref a_p1, .ref a_p2, .int n3] : List Value).toArray below meth c H locs 0 0 (Ei below (fun r w => ∃ (i_t : Nat → Int32), ∃ (r_t_reached : Nat → Int32), ∃ (i_t_row : Nat → Int32), ∃ (r_t_row_kinds : Nat → Int32), ∃ (r_t_row_longs : Nat → Int32), ∃ (r_t_row_weights : Nat → Int32), ∃ (r_t_row_strengths : Nat → Int32), ∃ (r_t_row_wears : Nat → Int32), ∃ (r_t_row_pushes : Nat → Int32), ∃ (r_t_row_helpers : Nat → Int32), ∃ (r_t_carriers : Nat → Int32), w = (wd_Free_loadAll k a_t d_t i_t a_p1 d_p1 i_p1 a_p2 r_p2 r_t_reached d_t_row i_t_row r_p1_halts r_p1_first r_t_row_kinds r_t_row_longs r_t_row_weights r_t_row_strengths r_t_row_wears r_t_row_pushes r_t_row_helpers r_p1_kinds r_t_carriers) ∧ Q r i_t r_t_reached i_t_row r_t_row_kinds r_t_row_longs r_t_row_weights r_t_row_strengths r_t_row_wears r_t_row_pushes r_t_row_helpers r_t_carriers) D k A ([.ref a_t, .ref a_p1, .ref a_p2, .int n3] : List Value).toArray s 0 0) (F0 m 68 ls [])) :
    ∀ (x5 : Int32) (x6 : Int32) (x7 : Int32) (r_t_carriers : Nat → Int32) (H : Heap) (locs : List Loc) (ls : Array Slot), b_Free_loadAll_68 i_t r_t_reached x3 kx_68 kr_68 x5 x6 x7 r_t_carriers → Bd D A s.heap (wd_Free_loadAll k a_t d_t i_t a_p1 d_p1 i_p1 a_p2 r_p2 r_t_reached d_t_row i_t_row r_p1_halts r_p1_first r_t_row_kinds r_t_row_longs r_t_row_weights r_t_row_strengths r_t_row_wears r_t_row_pushes r_t_row_helpers r_p1_kinds r_t_carriers) H locs → lv_has ls 8 [(0, .ref a_t), (3, .int x3), (4, .int x4), (5, .int x5), (6, .int x6), (7, .int x7)] → W p l e { frames := 5, cells := 0, slots := 0, locals := 114 } s m ([.ref a_t, .ref a_p1, .ref a_p2, .int n3] : List Value).toArray below meth c H locs 0 0 (Ei below (fun r w => ∃ (i_t : Nat → Int32), ∃ (r_t_reached : Nat → Int32), ∃ (i_t_row : Nat → Int32), ∃ (r_t_row_kinds : Nat → Int32), ∃ (r_t_row_longs : Nat → Int32), ∃ (r_t_row_weights : Nat → Int32), ∃ (r_t_row_strengths : Nat → Int32), ∃ (r_t_row_wears : Nat → Int32), ∃ (r_t_row_pushes : Nat → Int32), ∃ (r_t_row_helpers : Nat → Int32), ∃ (r_t_carriers : Nat → Int32), w = (wd_Free_loadAll k a_t d_t i_t a_p1 d_p1 i_p1 a_p2 r_p2 r_t_reached d_t_row i_t_row r_p1_halts r_p1_first r_t_row_kinds r_t_row_longs r_t_row_weights r_t_row_strengths r_t_row_wears r_t_row_pushes r_t_row_helpers r_p1_kinds r_t_carriers) ∧ Q r i_t r_t_reached i_t_row r_t_row_kinds r_t_row_longs r_t_row_weights r_t_row_strengths r_t_row_wears r_t_row_pushes r_t_row_helpers r_t_carriers) D k A ([.ref a_t, .ref a_p1, .ref a_p2, .int n3] : List Value).toArray s 0 0) (F0 m 68 ls []) := by
  have hx := F.x
  have hb := F.b
  intro x5 x6 x7 r_t_carriers H locs ls hf hB hl
  unfold b_Free_loadAll_68 at hf
  refine lv_iload hx hb dX0_loadAll_68 (lv_at hl 5 rfl) ?_
  refine lv_iload_n hx hb dX0_loadAll_70 rfl (lv_at hl 1 rfl) ?_
  refine lv_icmp_ge (tgt := 125) hx hb dX0_loadAll_71 (by decide) (fun c_29 => ?_) (fun c_29 => ?_)
  · replace hf := hf.1 c_29
    exact hkx_68 _ _ _ _ hf hB (lv_sub hl [2] rfl)
  · replace hf := hf.2 c_29
    refine lv_aload_n hx hb dX0_loadAll_74 rfl (lv_at hl 0 rfl) ?_
    refine g_get (w := .ref (d_t 8)) F hB 0 rfl fl_RX0_22 rfl dX0_loadAll_75 ?_
    refine lv_iload hx hb dX0_loadAll_78 (lv_at hl 5 rfl) ?_
    refine lv_aload_n hx hb dX0_loadAll_80 rfl (lv_at hl 0 rfl) ?_
    refine lv_iload hx hb dX0_loadAll_81 (lv_at hl 5 rfl) ?_
    refine lv_iload hx hb dX0_loadAll_83 (lv_at hl 4 rfl) ?_
    refine lv_iload hx hb dX0_loadAll_85 (lv_at hl 3 rfl) ?_
    refine k_vi (wr := [(a_p1, ob 3 (rfd d_p1) i_p1 j0), (a_p2, ai k 940 r_p2), ((d_t 0), ob 8 (rfd d_t_row) i_t_row j0), ((d_p1 2), ai k 30 r_p1_halts), ((d_p1 8), ai k 8 r_p1_first), ((d_t_row 0), ai k 20 r_t_row_kinds), ((d_t_row 1), ai k 20 r_t_row_longs), ((d_t_row 2), ai k 20 r_t_row_weights), ((d_t_row 3), ai k 20 r_t_row_strengths), ((d_t_row 4), ai k 20 r_t_row_wears), ((d_t_row 5), ai k 20 r_t_row_pushes), ((d_t_row 6), ai k 20 r_t_row_helpers), ((d_p1 6), ai k 18 r_p1_kinds), ((d_t 8), ai k 8 r_t_carriers)]) (rest := [.int x7, .ref (d_t 8)]) F hA hB (c_Free_leastCarrier l D k a_t d_t i_t r_t_reached x7 x6 x5 _  hf) ml_RX0_153 mv_yX0_leastCarrier [0, 3] [1, 2, 4, 5, 6, 7, 8, 9, 10, 11, 12, 13, 14, 15] rfl rfl (by decide) (by decide) (by decide) 0 rfl rfl rfl hl.1 rfl (Nat.le_of_ble_eq_true rfl) ⟨Nat.le_of_ble_eq_true rfl, Nat.le_of_ble_eq_true rfl⟩ ⟨Nat.le_of_ble_eq_true rfl, Nat.le_of_ble_eq_true rfl⟩ dX0_loadAll_87 (fun z_24 w1 H locs hq hB => ?_)
    obtain ⟨rfl, hf⟩ := hq
    replace hB : Bd D A s.heap (wd_Free_loadAll k a_t d_t i_t a_p1 d_p1 i_p1 a_p2 r_p2 r_t_reached d_t_row i_t_row r_p1_halts r_p1_first r_t_row_kinds r_t_row_longs r_t_row_weights r_t_row_strengths r_t_row_wears r_t_row_pushes r_t_row_helpers r_p1_kinds r_t_carriers) H locs := hB.sub [14, 0, 1, 15, 2, 3, 4, 5, 6, 7, 8, 9, 10, 11, 12, 13] (by decide) rfl
    obtain ⟨h_25, hf⟩ := hf
    refine g_iast F hB 15 rfl h_25 (wd_Free_loadAll k a_t d_t i_t a_p1 d_p1 i_p1 a_p2 r_p2 r_t_reached d_t_row i_t_row r_p1_halts r_p1_first r_t_row_kinds r_t_row_longs r_t_row_weights r_t_row_strengths r_t_row_wears r_t_row_pushes r_t_row_helpers r_p1_kinds (upd r_t_carriers (x7).toNatClampNeg z_24)) rfl dX0_loadAll_90 (fun H locs hB => ?_)
    refine lv_aload_n hx hb dX0_loadAll_91 rfl (lv_at hl 0 rfl) ?_
    refine g_get (w := .ref (d_t 8)) F hB 0 rfl fl_RX0_22 rfl dX0_loadAll_92 ?_
    refine lv_iload hx hb dX0_loadAll_95 (lv_at hl 5 rfl) ?_
    obtain ⟨h_26, hf⟩ := hf
    refine g_iald F hB 15 rfl h_26 dX0_loadAll_97 ?_
    refine lv_iconst (v := -1) hx hb dX0_loadAll_98 (by decide) ?_
    refine lv_icmp_eq (tgt := 119) hx hb dX0_loadAll_99 (by decide) (fun c_28 => ?_) (fun c_28 => ?_)
    · replace hf := hf.1 c_28
      refine lv_iinc (v := (x7 + 1)) (lv' := [(7, .int (x7 + 1)), (0, .ref a_t), (3, .int x3), (4, .int x4), (5, .int x5), (6, .int x6)]) (k := 5) hx hb dX0_loadAll_119 hl rfl rfl (by decide) rfl (fun ls hl => ?_)
      refine lv_goto (tgt := 68) hx hb dX0_loadAll_122 (by decide) ?_
      exact hkr_68 _ _ _ _ _ _ _ hf hB (lv_sub hl [1, 2, 3, 4, 5, 0] rfl)
    · replace hf := hf.2 c_28
      refine lv_iload hx hb dX0_loadAll_102 (lv_at hl 4 rfl) ?_
      refine lv_iconst (v := 1) hx hb dX0_loadAll_104 (by decide) ?_
      refine lv_aload_n hx hb dX0_loadAll_105 rfl (lv_at hl 0 rfl) ?_
      refine g_get (w := .ref (d_t 8)) F hB 0 rfl fl_RX0_22 rfl dX0_loadAll_106 ?_
      refine lv_iload hx hb dX0_loadAll_109 (lv_at hl 5 rfl) ?_
      obtain ⟨h_27, hf⟩ := hf
      refine g_iald F hB 15 rfl h_27 dX0_loadAll_111 ?_
      refine lv_ishl hx hb dX0_loadAll_112 ?_
      refine lv_ior hx hb dX0_loadAll_113 ?_
      refine lv_istore (lv' := [(6, .int (x6 ||| ((1 : Int32) <<< (((upd r_t_carriers (x7).toNatClampNeg z_24) (x7).toNatClampNeg) &&& 31)))), (0, .ref a_t), (3, .int x3), (4, .int x4), (5, .int x5), (7, .int x7)]) hx hb dX0_loadAll_114 hl (by decide) rfl (fun ls hl => ?_)
      refine lv_iinc (v := (x5 + (-1))) (lv' := [(5, .int (x5 + (-1))), (6, .int (x6 ||| ((1 : Int32) <<< (((upd r_t_carriers (x7).toNatClampNeg z_24) (x7).toNatClampNeg) &&& 31)))), (0, .ref a_t), (3, .int x3), (4, .int x4), (7, .int x7)]) (k := 4) hx hb dX0_loadAll_116 hl rfl rfl (by decide) rfl (fun ls hl => ?_)
      refine lv_iinc (v := (x7 + 1)) (lv' := [(7, .int (x7 + 1)), (5, .int (x5 + (-1))), (6, .int (x6 ||| ((1 : Int32) <<< (((upd r_t_carriers (x7).toNatClampNeg z_24) (x7).toNatClampNeg) &&& 31)))), (0, .ref a_t), (3, .int x3), (4, .int x4)]) (k := 5) hx hb dX0_loadAll_119 hl rfl rfl (by decide) rfl (fun ls hl => ?_)
      refine lv_goto (tgt := 68) hx hb dX0_loadAll_122 (by decide) ?_
      exact hkr_68 _ _ _ _ _ _ _ hf hB (lv_sub hl [3, 4, 5, 1, 2, 0] rfl)

set_option maxRecDepth 100000 in
set_option maxHeartbeats 4000000 in
theorem lt_Free_loadAll_68 {p : Program} {l : Launch} {e : Env} {s : State} {m : MethodId} {below : List Frame} {meth : Method} {c : Code} {A : Nat → Prop} {D : va_G} {k : Nat → ClassId} {a_t : Nat} {d_t : Nat → Nat} {i_t : Nat → Int32} {a_p1 : Nat} {d_p1 : Nat → Nat} {i_p1 : Nat → Int32} {a_p2 : Nat} {r_p2 : Nat → Int32} {r_t_reached : Nat → Int32} {d_t_row : Nat → Nat} {i_t_row : Nat → Int32} {r_p1_halts : Nat → Int32} {r_p1_first : Nat → Int32} {r_t_row_kinds : Nat → Int32} {r_t_row_longs : Nat → Int32} {r_t_row_weights : Nat → Int32} {r_t_row_strengths : Nat → Int32} {r_t_row_wears : Nat → Int32} {r_t_row_pushes : Nat → Int32} {r_t_row_helpers : Nat → Int32} {r_p1_kinds : Nat → Int32} {n3 : Int32} {Q : Int32 → (Nat → Int32) → (Nat → Int32) → (Nat → Int32) → (Nat → Int32) → (Nat → Int32) → (Nat → Int32) → (Nat → Int32) → (Nat → Int32) → (Nat → Int32) → (Nat → Int32) → (Nat → Int32) → Prop}  {x3 : Int32} {x4 : Int32} {kx_68 : (Nat → Int32) → Prop} (F : Fx p m c cX0_loadAll 8 s ([.ref a_t, .ref a_p1, .ref a_p2, .int n3] : List Value).toArray RX0 D k) (hr : meth.sig.returnType = (some .int)) (hlk : meth.locks = false) (hA : ∀ q : Nat, s.heap.size ≤ q → A q) (hkx_68 : ∀ (r_t_carriers : Nat → Int32) (H : Heap) (locs : List Loc) (ls : Array Slot), kx_68 r_t_carriers → Bd D A s.heap (wd_Free_loadAll k a_t d_t i_t a_p1 d_p1 i_p1 a_p2 r_p2 r_t_reached d_t_row i_t_row r_p1_halts r_p1_first r_t_row_kinds r_t_row_longs r_t_row_weights r_t_row_strengths r_t_row_wears r_t_row_pushes r_t_row_helpers r_p1_kinds r_t_carriers) H locs → lv_has ls 8 [(4, .int x4)] → W p l e { frames := 5, cells := 0, slots := 0, locals := 114 } s m ([.ref a_t, .ref a_p1, .ref a_p2, .int n3] : List Value).toArray below meth c H locs 0 0 (Ei below (fun r w => ∃ (i_t : Nat → Int32), ∃ (r_t_reached : Nat → Int32), ∃ (i_t_row : Nat → Int32), ∃ (r_t_row_kinds : Nat → Int32), ∃ (r_t_row_longs : Nat → Int32), ∃ (r_t_row_weights : Nat → Int32), ∃ (r_t_row_strengths : Nat → Int32), ∃ (r_t_row_wears : Nat → Int32), ∃ (r_t_row_pushes : Nat → Int32), ∃ (r_t_row_helpers : Nat → Int32), ∃ (r_t_carriers : Nat → Int32), w = (wd_Free_loadAll k a_t d_t i_t a_p1 d_p1 i_p1 a_p2 r_p2 r_t_reached d_t_row i_t_row r_p1_halts r_p1_first r_t_row_kinds r_t_row_longs r_t_row_weights r_t_row_strengths r_t_row_wears r_t_row_pushes r_t_row_helpers r_p1_kinds r_t_carriers) ∧ Q r i_t r_t_reached i_t_row r_t_row_kinds r_t_row_longs r_t_row_weights r_t_row_strengths r_t_row_wears r_t_row_pushes r_t_row_helpers r_t_carriers) D k A ([.ref a_t, .ref a_p1, .ref a_p2, .int n3] : List Value).toArray s 0 0) (F0 m 125 ls [])) :
    ∀ n : Nat, ∀ (x5 : Int32) (x6 : Int32) (x7 : Int32) (r_t_carriers : Nat → Int32) (H : Heap) (locs : List Loc) (ls : Array Slot), lp_Free_loadAll_68 i_t r_t_reached x3 kx_68 n x5 x6 x7 r_t_carriers → Bd D A s.heap (wd_Free_loadAll k a_t d_t i_t a_p1 d_p1 i_p1 a_p2 r_p2 r_t_reached d_t_row i_t_row r_p1_halts r_p1_first r_t_row_kinds r_t_row_longs r_t_row_weights r_t_row_strengths r_t_row_wears r_t_row_pushes r_t_row_helpers r_p1_kinds r_t_carriers) H locs → lv_has ls 8 [(0, .ref a_t), (3, .int x3), (4, .int x4), (5, .int x5), (6, .int x6), (7, .int x7)] → W p l e { frames := 5, cells := 0, slots := 0, locals := 114 } s m ([.ref a_t, .ref a_p1, .ref a_p2, .int n3] : List Value).toArray below meth c H locs 0 0 (Ei below (fun r w => ∃ (i_t : Nat → Int32), ∃ (r_t_reached : Nat → Int32), ∃ (i_t_row : Nat → Int32), ∃ (r_t_row_kinds : Nat → Int32), ∃ (r_t_row_longs : Nat → Int32), ∃ (r_t_row_weights : Nat → Int32), ∃ (r_t_row_strengths : Nat → Int32), ∃ (r_t_row_wears : Nat → Int32), ∃ (r_t_row_pushes : Nat → Int32), ∃ (r_t_row_helpers : Nat → Int32), ∃ (r_t_carriers : Nat → Int32), w = (wd_Free_loadAll k a_t d_t i_t a_p1 d_p1 i_p1 a_p2 r_p2 r_t_reached d_t_row i_t_row r_p1_halts r_p1_first r_t_row_kinds r_t_row_longs r_t_row_weights r_t_row_strengths r_t_row_wears r_t_row_pushes r_t_row_helpers r_p1_kinds r_t_carriers) ∧ Q r i_t r_t_reached i_t_row r_t_row_kinds r_t_row_longs r_t_row_weights r_t_row_strengths r_t_row_wears r_t_row_pushes r_t_row_helpers r_t_carriers) D k A ([.ref a_t, .ref a_p1, .ref a_p2, .int n3] : List Value).toArray s 0 0) (F0 m 68 ls []) := by
  intro n
  induction n with
  | zero => intro x5 x6 x7 r_t_carriers H locs ls hf; exact absurd hf (fun h => h)
  | succ n ih => exact bt_Free_loadAll_68 F hr hlk hA hkx_68 ih

set_option maxRecDepth 100000 in
set_option maxHeartbeats 4000000 in
theorem jt_Free_loadAll_45 {p : Program} {l : Launch} {e : Env} {s : State} {m : MethodId} {below : List Frame} {meth : Method} {c : Code} {A : Nat → Prop} {D : va_G} {k : Nat → ClassId} {a_t : Nat} {d_t : Nat → Nat} {a_p1 : Nat} {d_p1 : Nat → Nat} {i_p1 : Nat → Int32} {a_p2 : Nat} {r_p2 : Nat → Int32} {d_t_row : Nat → Nat} {r_p1_halts : Nat → Int32} {r_p1_first : Nat → Int32} {r_p1_kinds : Nat → Int32} {n3 : Int32} {Q : Int32 → (Nat → Int32) → (Nat → Int32) → (Nat → Int32) → (Nat → Int32) → (Nat → Int32) → (Nat → Int32) → (Nat → Int32) → (Nat → Int32) → (Nat → Int32) → (Nat → Int32) → (Nat → Int32) → Prop}  (F : Fx p m c cX0_loadAll 8 s ([.ref a_t, .ref a_p1, .ref a_p2, .int n3] : List Value).toArray RX0 D k) (hr : meth.sig.returnType = (some .int)) (hlk : meth.locks = false) (hA : ∀ q : Nat, s.heap.size ≤ q → A q) :
    ∀ (i_t : Nat → Int32) (r_t_reached : Nat → Int32) (i_t_row : Nat → Int32) (r_t_row_kinds : Nat → Int32) (r_t_row_longs : Nat → Int32) (r_t_row_weights : Nat → Int32) (r_t_row_strengths : Nat → Int32) (r_t_row_wears : Nat → Int32) (r_t_row_pushes : Nat → Int32) (r_t_row_helpers : Nat → Int32) (r_t_carriers : Nat → Int32) (x3 : Int32) (H : Heap) (locs : List Loc) (ls : Array Slot), j_Free_loadAll_45 i_t r_t_reached i_t_row r_t_row_kinds r_t_row_longs r_t_row_weights r_t_row_strengths r_t_row_wears r_t_row_pushes r_t_row_helpers r_t_carriers x3 Q → Bd D A s.heap (wd_Free_loadAll k a_t d_t i_t a_p1 d_p1 i_p1 a_p2 r_p2 r_t_reached d_t_row i_t_row r_p1_halts r_p1_first r_t_row_kinds r_t_row_longs r_t_row_weights r_t_row_strengths r_t_row_wears r_t_row_pushes r_t_row_helpers r_p1_kinds r_t_carriers) H locs → lv_has ls 8 [(0, .ref a_t), (3, .int x3)] → W p l e { frames := 5, cells := 0, slots := 0, locals := 114 } s m ([.ref a_t, .ref a_p1, .ref a_p2, .int n3] : List Value).toArray below meth c H locs 0 0 (Ei below (fun r w => ∃ (i_t : Nat → Int32), ∃ (r_t_reached : Nat → Int32), ∃ (i_t_row : Nat → Int32), ∃ (r_t_row_kinds : Nat → Int32), ∃ (r_t_row_longs : Nat → Int32), ∃ (r_t_row_weights : Nat → Int32), ∃ (r_t_row_strengths : Nat → Int32), ∃ (r_t_row_wears : Nat → Int32), ∃ (r_t_row_pushes : Nat → Int32), ∃ (r_t_row_helpers : Nat → Int32), ∃ (r_t_carriers : Nat → Int32), w = (wd_Free_loadAll k a_t d_t i_t a_p1 d_p1 i_p1 a_p2 r_p2 r_t_reached d_t_row i_t_row r_p1_halts r_p1_first r_t_row_kinds r_t_row_longs r_t_row_weights r_t_row_strengths r_t_row_wears r_t_row_pushes r_t_row_helpers r_p1_kinds r_t_carriers) ∧ Q r i_t r_t_reached i_t_row r_t_row_kinds r_t_row_longs r_t_row_weights r_t_row_strengths r_t_row_wears r_t_row_pushes r_t_row_helpers r_t_carriers) D k A ([.ref a_t, .ref a_p1, .ref a_p2, .int n3] : List Value).toArray s 0 0) (F0 m 45 ls []) := by
  have hx := F.x
  have hb := F.b
  intro i_t r_t_reached i_t_row r_t_row_kinds r_t_row_longs r_t_row_weights r_t_row_strengths r_t_row_wears r_t_row_pushes r_t_row_helpers r_t_carriers x3 H locs ls hf hB hl
  unfold j_Free_loadAll_45 at hf
  refine lv_aload_n hx hb dX0_loadAll_45 rfl (lv_at hl 0 rfl) ?_
  refine lv_iload_n hx hb dX0_loadAll_46 rfl (lv_at hl 1 rfl) ?_
  refine g_puti F hB 0 rfl fl_RX0_147 rfl (wd_Free_loadAll k a_t d_t (upd i_t 9 x3) a_p1 d_p1 i_p1 a_p2 r_p2 r_t_reached d_t_row i_t_row r_p1_halts r_p1_first r_t_row_kinds r_t_row_longs r_t_row_weights r_t_row_strengths r_t_row_wears r_t_row_pushes r_t_row_helpers r_p1_kinds r_t_carriers) rfl dX0_loadAll_47 (fun H locs hB => ?_)
  refine lv_aload_n hx hb dX0_loadAll_50 rfl (lv_at hl 0 rfl) ?_
  refine lv_iconst (v := 0) hx hb dX0_loadAll_51 (by decide) ?_
  refine lv_iconst (v := 0) hx hb dX0_loadAll_52 (by decide) ?_
  refine k_vi (wr := [(a_p1, ob 3 (rfd d_p1) i_p1 j0), (a_p2, ai k 940 r_p2), ((d_t 0), ob 8 (rfd d_t_row) i_t_row j0), ((d_p1 2), ai k 30 r_p1_halts), ((d_p1 8), ai k 8 r_p1_first), ((d_t_row 0), ai k 20 r_t_row_kinds), ((d_t_row 1), ai k 20 r_t_row_longs), ((d_t_row 2), ai k 20 r_t_row_weights), ((d_t_row 3), ai k 20 r_t_row_strengths), ((d_t_row 4), ai k 20 r_t_row_wears), ((d_t_row 5), ai k 20 r_t_row_pushes), ((d_t_row 6), ai k 20 r_t_row_helpers), ((d_p1 6), ai k 18 r_p1_kinds), ((d_t 8), ai k 8 r_t_carriers)]) (rest := []) F hA hB (c_Free_mostLoads l D k a_t d_t (upd i_t 9 x3) r_t_reached (0 : Int32) (0 : Int32) _  hf) ml_RX0_150 mv_yX0_mostLoads [0, 3] [1, 2, 4, 5, 6, 7, 8, 9, 10, 11, 12, 13, 14, 15] rfl rfl (by decide) (by decide) (by decide) 0 rfl rfl rfl hl.1 rfl (Nat.le_of_ble_eq_true rfl) ⟨Nat.le_of_ble_eq_true rfl, Nat.le_of_ble_eq_true rfl⟩ ⟨Nat.le_of_ble_eq_true rfl, Nat.le_of_ble_eq_true rfl⟩ dX0_loadAll_53 (fun z_23 w1 H locs hq hB => ?_)
  obtain ⟨rfl, hf⟩ := hq
  replace hB : Bd D A s.heap (wd_Free_loadAll k a_t d_t (upd i_t 9 x3) a_p1 d_p1 i_p1 a_p2 r_p2 r_t_reached d_t_row i_t_row r_p1_halts r_p1_first r_t_row_kinds r_t_row_longs r_t_row_weights r_t_row_strengths r_t_row_wears r_t_row_pushes r_t_row_helpers r_p1_kinds r_t_carriers) H locs := hB.sub [14, 0, 1, 15, 2, 3, 4, 5, 6, 7, 8, 9, 10, 11, 12, 13] (by decide) rfl
  refine lv_istore (lv' := [(4, .int z_23), (0, .ref a_t), (3, .int x3)]) hx hb dX0_loadAll_56 hl (by decide) rfl (fun ls hl => ?_)
  refine lv_iload hx hb dX0_loadAll_58 (lv_at hl 0 rfl) ?_
  refine lv_istore (lv' := [(5, .int z_23), (4, .int z_23), (0, .ref a_t), (3, .int x3)]) hx hb dX0_loadAll_60 hl (by decide) rfl (fun ls hl => ?_)
  refine lv_iconst (v := 0) hx hb dX0_loadAll_62 (by decide) ?_
  refine lv_istore (lv' := [(6, .int (0 : Int32)), (5, .int z_23), (4, .int z_23), (0, .ref a_t), (3, .int x3)]) hx hb dX0_loadAll_63 hl (by decide) rfl (fun ls hl => ?_)
  refine lv_iconst (v := 0) hx hb dX0_loadAll_65 (by decide) ?_
  refine lv_istore (lv' := [(7, .int (0 : Int32)), (6, .int (0 : Int32)), (5, .int z_23), (4, .int z_23), (0, .ref a_t), (3, .int x3)]) hx hb dX0_loadAll_66 hl (by decide) rfl (fun ls hl => ?_)
  obtain ⟨n_31, hf⟩ := hf
  refine lt_Free_loadAll_68 F hr hlk hA (fun r_t_carriers_30 H locs ls hf hB hl => ?_) n_31 _ _ _ _ _ _ _ hf hB (lv_sub hl [4, 5, 3, 2, 1, 0] rfl)
  refine lv_iload hx hb dX0_loadAll_125 (lv_at hl 0 rfl) ?_
  exact r_i F hr hlk hB ⟨_, _, _, _, _, _, _, _, _, _, _, rfl, hf⟩ dX0_loadAll_127

set_option maxRecDepth 100000 in
set_option maxHeartbeats 4000000 in
theorem c_Free_loadAll (l : Launch) (D : va_G) (k : Nat → ClassId) (a_t : Nat) (d_t : Nat → Nat) (i_t : Nat → Int32) (a_p1 : Nat) (d_p1 : Nat → Nat) (i_p1 : Nat → Int32) (a_p2 : Nat) (r_p2 : Nat → Int32) (r_t_reached : Nat → Int32) (d_t_row : Nat → Nat) (i_t_row : Nat → Int32) (r_p1_halts : Nat → Int32) (r_p1_first : Nat → Int32) (r_t_row_kinds : Nat → Int32) (r_t_row_longs : Nat → Int32) (r_t_row_weights : Nat → Int32) (r_t_row_strengths : Nat → Int32) (r_t_row_wears : Nat → Int32) (r_t_row_pushes : Nat → Int32) (r_t_row_helpers : Nat → Int32) (r_p1_kinds : Nat → Int32) (r_t_carriers : Nat → Int32) (n3 : Int32) (Q : Int32 → (Nat → Int32) → (Nat → Int32) → (Nat → Int32) → (Nat → Int32) → (Nat → Int32) → (Nat → Int32) → (Nat → Int32) → (Nat → Int32) → (Nat → Int32) → (Nat → Int32) → (Nat → Int32) → Prop)  (hf : w_Free_loadAll i_t i_p1 r_p2 r_t_reached i_t_row r_p1_halts r_p1_first r_t_row_kinds r_t_row_longs r_t_row_weights r_t_row_strengths r_t_row_wears r_t_row_pushes r_t_row_helpers r_p1_kinds r_t_carriers n3 Q) : CtI l yX0_loadAll cX0_loadAll 8 (some .int) 5 114 0 0 D k [.ref a_t, .ref a_p1, .ref a_p2, .int n3] (wd_Free_loadAll k a_t d_t i_t a_p1 d_p1 i_p1 a_p2 r_p2 r_t_reached d_t_row i_t_row r_p1_halts r_p1_first r_t_row_kinds r_t_row_longs r_t_row_weights r_t_row_strengths r_t_row_wears r_t_row_pushes r_t_row_helpers r_p1_kinds r_t_carriers) (fun r w => ∃ (i_t : Nat → Int32), ∃ (r_t_reached : Nat → Int32), ∃ (i_t_row : Nat → Int32), ∃ (r_t_row_kinds : Nat → Int32), ∃ (r_t_row_longs : Nat → Int32), ∃ (r_t_row_weights : Nat → Int32), ∃ (r_t_row_strengths : Nat → Int32), ∃ (r_t_row_wears : Nat → Int32), ∃ (r_t_row_pushes : Nat → Int32), ∃ (r_t_row_helpers : Nat → Int32), ∃ (r_t_carriers : Nat → Int32), w = (wd_Free_loadAll k a_t d_t i_t a_p1 d_p1 i_p1 a_p2 r_p2 r_t_reached d_t_row i_t_row r_p1_halts r_p1_first r_t_row_kinds r_t_row_longs r_t_row_weights r_t_row_strengths r_t_row_wears r_t_row_pushes r_t_row_helpers r_p1_kinds r_t_carriers) ∧ Q r i_t r_t_reached i_t_row r_t_row_kinds r_t_row_longs r_t_row_weights r_t_row_strengths r_t_row_wears r_t_row_pushes r_t_row_helpers r_t_carriers) := by
  refine CtI.of (by decide) (Nat.le_of_ble_eq_true rfl) ?_
  intro p e s m below meth c A F hr hlk hnm hA hB ls hl
  have hx := F.x
  have hb := F.b
  unfold w_Free_loadAll at hf
  replace hl : lv_has ls 8 [(0, .ref a_t), (1, .ref a_p1), (2, .ref a_p2), (3, .int n3)] := hl
  refine lv_iconst (v := 0) hx hb dX0_loadAll_0 (by decide) ?_
  refine lv_istore (lv' := [(4, .int (0 : Int32)), (0, .ref a_t), (1, .ref a_p1), (2, .ref a_p2), (3, .int n3)]) hx hb dX0_loadAll_1 hl (by decide) rfl (fun ls hl => ?_)
  obtain ⟨n_32, hf⟩ := hf
  refine lt_Free_loadAll_3 F hr hlk hA (fun r_t_reached_14 i_t_row_15 r_t_row_kinds_16 r_t_row_longs_17 r_t_row_weights_18 r_t_row_strengths_19 r_t_row_wears_20 r_t_row_pushes_21 r_t_row_helpers_22 H locs ls hf hB hl => ?_) n_32 _ _ _ _ _ _ _ _ _ _ _ _ _ hf hB (lv_sub hl [1, 2, 3, 4, 0] rfl)
  exact jt_Free_loadAll_45 F hr hlk hA _ _ _ _ _ _ _ _ _ _ _ _ _ _ _ hf hB (lv_sub hl [0, 1] rfl)

/-! LongTrain.Halves.clear -/
set_option maxRecDepth 100000 in
set_option maxHeartbeats 4000000 in
theorem c_Halves_clear (l : Launch) (D : va_G) (k : Nat → ClassId) (a_t : Nat) (d_t : Nat → Nat) (i_t : Nat → Int32)  (Q : (Nat → Int32) → Prop)  (hf : w_Halves_clear i_t Q) : CtV l yX1_clear cX1_clear 1 none 0 0 0 0 D k [.ref a_t] (wd_Halves_clear k a_t d_t i_t) (fun w => ∃ (i_t : Nat → Int32), w = (wd_Halves_clear k a_t d_t i_t) ∧ Q i_t) := by
  refine CtV.of (by decide) (Nat.le_of_ble_eq_true rfl) ?_
  intro p e s m below meth c A F hr hlk hnm hA hB ls hl
  have hx := F.x
  have hb := F.b
  unfold w_Halves_clear at hf
  replace hl : lv_has ls 1 [(0, .ref a_t)] := hl
  refine lv_aload_n hx hb dX1_clear_0 rfl (lv_at hl 0 rfl) ?_
  refine lv_iconst (v := 0) hx hb dX1_clear_1 (by decide) ?_
  refine g_puti F hB 0 rfl fl_RX1_24 rfl (wd_Halves_clear k a_t d_t (upd i_t 1 (0 : Int32))) rfl dX1_clear_2 (fun H locs hB => ?_)
  refine lv_aload_n hx hb dX1_clear_5 rfl (lv_at hl 0 rfl) ?_
  refine lv_iconst (v := 0) hx hb dX1_clear_6 (by decide) ?_
  refine g_puti F hB 0 rfl fl_RX1_28 rfl (wd_Halves_clear k a_t d_t (upd (upd i_t 1 (0 : Int32)) 5 (0 : Int32))) rfl dX1_clear_7 (fun H locs hB => ?_)
  exact r_v F hr hlk hB ⟨_, rfl, hf⟩ dX1_clear_10

/-! LongTrain.Halves.copyFrom -/
set_option maxRecDepth 100000 in
set_option maxHeartbeats 4000000 in
theorem c_Halves_copyFrom (l : Launch) (D : va_G) (k : Nat → ClassId) (a_t : Nat) (d_t : Nat → Nat) (i_t : Nat → Int32) (a_p1 : Nat) (d_p1 : Nat → Nat) (i_p1 : Nat → Int32) (r_p1_kinds : Nat → Int32) (r_t_kinds : Nat → Int32) (r_p1_starts : Nat → Int32) (r_t_starts : Nat → Int32) (r_p1_sizes : Nat → Int32) (r_t_sizes : Nat → Int32) (r_p1_units : Nat → Int32) (r_t_units : Nat → Int32)  (Q : (Nat → Int32) → (Nat → Int32) → (Nat → Int32) → (Nat → Int32) → (Nat → Int32) → Prop)  (hf : w_Halves_copyFrom i_t i_p1 r_p1_kinds r_t_kinds r_p1_starts r_t_starts r_p1_sizes r_t_sizes r_p1_units r_t_units Q) : CtV l yX1_copyFrom cX1_copyFrom 2 none 1 64 0 0 D k [.ref a_t, .ref a_p1] (wd_Halves_copyFrom k a_t d_t i_t a_p1 d_p1 i_p1 r_p1_kinds r_t_kinds r_p1_starts r_t_starts r_p1_sizes r_t_sizes r_p1_units r_t_units) (fun w => ∃ (i_t : Nat → Int32), ∃ (r_t_kinds : Nat → Int32), ∃ (r_t_starts : Nat → Int32), ∃ (r_t_sizes : Nat → Int32), ∃ (r_t_units : Nat → Int32), w = (wd_Halves_copyFrom k a_t d_t i_t a_p1 d_p1 i_p1 r_p1_kinds r_t_kinds r_p1_starts r_t_starts r_p1_sizes r_t_sizes r_p1_units r_t_units) ∧ Q i_t r_t_kinds r_t_starts r_t_sizes r_t_units) := by
  refine CtV.of (by decide) (Nat.le_of_ble_eq_true rfl) ?_
  intro p e s m below meth c A F hr hlk hnm hA hB ls hl
  have hx := F.x
  have hb := F.b
  unfold w_Halves_copyFrom at hf
  replace hl : lv_has ls 2 [(0, .ref a_t), (1, .ref a_p1)] := hl
  refine lv_aload_n hx hb dX1_copyFrom_0 rfl (lv_at hl 1 rfl) ?_
  refine g_get (w := .ref (d_p1 0)) F hB 1 rfl fl_RX1_9 rfl dX1_copyFrom_1 ?_
  refine lv_iconst (v := 0) hx hb dX1_copyFrom_4 (by decide) ?_
  refine lv_aload_n hx hb dX1_copyFrom_5 rfl (lv_at hl 0 rfl) ?_
  refine g_get (w := .ref (d_t 0)) F hB 0 rfl fl_RX1_9 rfl dX1_copyFrom_6 ?_
  refine lv_iconst (v := 0) hx hb dX1_copyFrom_9 (by decide) ?_
  refine lv_bipush (v := 20) hx hb dX1_copyFrom_10 (by decide) ?_
  refine k_copy F hB ml_RX1_31 hl.1 2 3 rfl rfl (by decide) (by decide) (by decide) (by decide) (by decide) (by decide) (Nat.le_of_ble_eq_true rfl) (wd_Halves_copyFrom k a_t d_t i_t a_p1 d_p1 i_p1 r_p1_kinds (va_cpy r_p1_kinds r_t_kinds 0 0 20) r_p1_starts r_t_starts r_p1_sizes r_t_sizes r_p1_units r_t_units) rfl dX1_copyFrom_12 (fun H locs hB => ?_)
  refine lv_aload_n hx hb dX1_copyFrom_15 rfl (lv_at hl 1 rfl) ?_
  refine g_get (w := .ref (d_p1 2)) F hB 1 rfl fl_RX1_15 rfl dX1_copyFrom_16 ?_
  refine lv_iconst (v := 0) hx hb dX1_copyFrom_19 (by decide) ?_
  refine lv_aload_n hx hb dX1_copyFrom_20 rfl (lv_at hl 0 rfl) ?_
  refine g_get (w := .ref (d_t 2)) F hB 0 rfl fl_RX1_15 rfl dX1_copyFrom_21 ?_
  refine lv_iconst (v := 0) hx hb dX1_copyFrom_24 (by decide) ?_
  refine lv_bipush (v := 20) hx hb dX1_copyFrom_25 (by decide) ?_
  refine k_copy F hB ml_RX1_31 hl.1 4 5 rfl rfl (by decide) (by decide) (by decide) (by decide) (by decide) (by decide) (Nat.le_of_ble_eq_true rfl) (wd_Halves_copyFrom k a_t d_t i_t a_p1 d_p1 i_p1 r_p1_kinds (va_cpy r_p1_kinds r_t_kinds 0 0 20) r_p1_starts (va_cpy r_p1_starts r_t_starts 0 0 20) r_p1_sizes r_t_sizes r_p1_units r_t_units) rfl dX1_copyFrom_27 (fun H locs hB => ?_)
  refine lv_aload_n hx hb dX1_copyFrom_30 rfl (lv_at hl 1 rfl) ?_
  refine g_get (w := .ref (d_p1 3)) F hB 1 rfl fl_RX1_18 rfl dX1_copyFrom_31 ?_
  refine lv_iconst (v := 0) hx hb dX1_copyFrom_34 (by decide) ?_
  refine lv_aload_n hx hb dX1_copyFrom_35 rfl (lv_at hl 0 rfl) ?_
  refine g_get (w := .ref (d_t 3)) F hB 0 rfl fl_RX1_18 rfl dX1_copyFrom_36 ?_
  refine lv_iconst (v := 0) hx hb dX1_copyFrom_39 (by decide) ?_
  refine lv_bipush (v := 20) hx hb dX1_copyFrom_40 (by decide) ?_
  refine k_copy F hB ml_RX1_31 hl.1 6 7 rfl rfl (by decide) (by decide) (by decide) (by decide) (by decide) (by decide) (Nat.le_of_ble_eq_true rfl) (wd_Halves_copyFrom k a_t d_t i_t a_p1 d_p1 i_p1 r_p1_kinds (va_cpy r_p1_kinds r_t_kinds 0 0 20) r_p1_starts (va_cpy r_p1_starts r_t_starts 0 0 20) r_p1_sizes (va_cpy r_p1_sizes r_t_sizes 0 0 20) r_p1_units r_t_units) rfl dX1_copyFrom_42 (fun H locs hB => ?_)
  refine lv_aload_n hx hb dX1_copyFrom_45 rfl (lv_at hl 1 rfl) ?_
  refine g_get (w := .ref (d_p1 4)) F hB 1 rfl fl_RX1_21 rfl dX1_copyFrom_46 ?_
  refine lv_iconst (v := 0) hx hb dX1_copyFrom_49 (by decide) ?_
  refine lv_aload_n hx hb dX1_copyFrom_50 rfl (lv_at hl 0 rfl) ?_
  refine g_get (w := .ref (d_t 4)) F hB 0 rfl fl_RX1_21 rfl dX1_copyFrom_51 ?_
  refine lv_iconst (v := 0) hx hb dX1_copyFrom_54 (by decide) ?_
  refine lv_bipush (v := 20) hx hb dX1_copyFrom_55 (by decide) ?_
  refine k_copy F hB ml_RX1_31 hl.1 8 9 rfl rfl (by decide) (by decide) (by decide) (by decide) (by decide) (by decide) (Nat.le_of_ble_eq_true rfl) (wd_Halves_copyFrom k a_t d_t i_t a_p1 d_p1 i_p1 r_p1_kinds (va_cpy r_p1_kinds r_t_kinds 0 0 20) r_p1_starts (va_cpy r_p1_starts r_t_starts 0 0 20) r_p1_sizes (va_cpy r_p1_sizes r_t_sizes 0 0 20) r_p1_units (va_cpy r_p1_units r_t_units 0 0 20)) rfl dX1_copyFrom_57 (fun H locs hB => ?_)
  refine lv_aload_n hx hb dX1_copyFrom_60 rfl (lv_at hl 0 rfl) ?_
  refine lv_aload_n hx hb dX1_copyFrom_61 rfl (lv_at hl 1 rfl) ?_
  refine g_get (w := .int (i_p1 1)) F hB 1 rfl fl_RX1_24 rfl dX1_copyFrom_62 ?_
  refine g_puti F hB 0 rfl fl_RX1_24 rfl (wd_Halves_copyFrom k a_t d_t (upd i_t 1 (i_p1 1)) a_p1 d_p1 i_p1 r_p1_kinds (va_cpy r_p1_kinds r_t_kinds 0 0 20) r_p1_starts (va_cpy r_p1_starts r_t_starts 0 0 20) r_p1_sizes (va_cpy r_p1_sizes r_t_sizes 0 0 20) r_p1_units (va_cpy r_p1_units r_t_units 0 0 20)) rfl dX1_copyFrom_65 (fun H locs hB => ?_)
  refine lv_aload_n hx hb dX1_copyFrom_68 rfl (lv_at hl 0 rfl) ?_
  refine lv_aload_n hx hb dX1_copyFrom_69 rfl (lv_at hl 1 rfl) ?_
  refine g_get (w := .int (i_p1 5)) F hB 1 rfl fl_RX1_28 rfl dX1_copyFrom_70 ?_
  refine g_puti F hB 0 rfl fl_RX1_28 rfl (wd_Halves_copyFrom k a_t d_t (upd (upd i_t 1 (i_p1 1)) 5 (i_p1 5)) a_p1 d_p1 i_p1 r_p1_kinds (va_cpy r_p1_kinds r_t_kinds 0 0 20) r_p1_starts (va_cpy r_p1_starts r_t_starts 0 0 20) r_p1_sizes (va_cpy r_p1_sizes r_t_sizes 0 0 20) r_p1_units (va_cpy r_p1_units r_t_units 0 0 20)) rfl dX1_copyFrom_73 (fun H locs hB => ?_)
  exact r_v F hr hlk hB ⟨_, _, _, _, _, rfl, hf⟩ dX1_copyFrom_76

/-! LongTrain.Halves.add -/
set_option maxRecDepth 100000 in
set_option maxHeartbeats 4000000 in
theorem bt_Halves_add_87 {p : Program} {l : Launch} {e : Env} {s : State} {m : MethodId} {below : List Frame} {meth : Method} {c : Code} {A : Nat → Prop} {D : va_G} {k : Nat → ClassId} {a_t : Nat} {d_t : Nat → Nat} {a_p1 : Nat} {d_p1 : Nat → Nat} {i_p1 : Nat → Int32} {r_t_starts : Nat → Int32} {r_t_sizes : Nat → Int32} {r_t_units : Nat → Int32} {r_p1_longs : Nat → Int32} {r_p1_kinds : Nat → Int32} {n2 : Int32} {Q : (Nat → Int32) → (Nat → Int32) → (Nat → Int32) → (Nat → Int32) → (Nat → Int32) → Prop}  {kx_87 : (Nat → Int32) → (Nat → Int32) → Prop} {kr_87 : (Int32) → (Nat → Int32) → (Nat → Int32) → Prop} (F : Fx p m c cX1_add 5 s ([.ref a_t, .ref a_p1, .int n2] : List Value).toArray RX1 D k) (hr : meth.sig.returnType = none) (hlk : meth.locks = false) (hA : ∀ q : Nat, s.heap.size ≤ q → A q) (hkx_87 : ∀ (i_t : Nat → Int32) (r_t_kinds : Nat → Int32) (H : Heap) (locs : List Loc) (ls : Array Slot), kx_87 i_t r_t_kinds → Bd D A s.heap (wd_Halves_add k a_t d_t i_t a_p1 d_p1 i_p1 r_t_starts r_t_sizes r_t_units r_p1_longs r_t_kinds r_p1_kinds) H locs → lv_has ls 5 [] → W p l e { frames := 1, cells := 0, slots := 0, locals := 23 } s m ([.ref a_t, .ref a_p1, .int n2] : List Value).toArray below meth c H locs 0 0 (Ev below (fun w => ∃ (i_t : Nat → Int32), ∃ (r_t_starts : Nat → Int32), ∃ (r_t_sizes : Nat → Int32), ∃ (r_t_units : Nat → Int32), ∃ (r_t_kinds : Nat → Int32), w = (wd_Halves_add k a_t d_t i_t a_p1 d_p1 i_p1 r_t_starts r_t_sizes r_t_units r_p1_longs r_t_kinds r_p1_kinds) ∧ Q i_t r_t_starts r_t_sizes r_t_units r_t_kinds) D k A ([.ref a_t, .ref a_p1, .int n2] : List Value).toArray s 0 0) (F0 m 128 ls [])) (hkr_87 : ∀ (x4 : Int32) (i_t : Nat → Int32) (r_t_kinds : Nat → Int32) (H : Heap) (locs : List Loc) (ls : Array Slot), kr_87 x4 i_t r_t_kinds → Bd D A s.heap (wd_Halves_add k a_t d_t i_t a_p1 d_p1 i_p1 r_t_starts r_t_sizes r_t_units r_p1_longs r_t_kinds r_p1_kinds) H locs → lv_has ls 5 [(0, .ref a_t), (1, .ref a_p1), (4, .int x4)] → W p l e { frames := 1, cells := 0, slots := 0, locals := 23 } s m ([.ref a_t, .ref a_p1, .int n2] : List Value).toArray below meth c H locs 0 0 (Ev below (fun w => ∃ (i_t : Nat → Int32), ∃ (r_t_starts : Nat → Int32), ∃ (r_t_sizes : Nat → Int32), ∃ (r_t_units : Nat → Int32), ∃ (r_t_kinds : Nat → Int32), w = (wd_Halves_add k a_t d_t i_t a_p1 d_p1 i_p1 r_t_starts r_t_sizes r_t_units r_p1_longs r_t_kinds r_p1_kinds) ∧ Q i_t r_t_starts r_t_sizes r_t_units r_t_kinds) D k A ([.ref a_t, .ref a_p1, .int n2] : List Value).toArray s 0 0) (F0 m 87 ls [])) :
    ∀ (x4 : Int32) (i_t : Nat → Int32) (r_t_kinds : Nat → Int32) (H : Heap) (locs : List Loc) (ls : Array Slot), b_Halves_add_87 i_p1 r_p1_kinds kx_87 kr_87 x4 i_t r_t_kinds → Bd D A s.heap (wd_Halves_add k a_t d_t i_t a_p1 d_p1 i_p1 r_t_starts r_t_sizes r_t_units r_p1_longs r_t_kinds r_p1_kinds) H locs → lv_has ls 5 [(0, .ref a_t), (1, .ref a_p1), (4, .int x4)] → W p l e { frames := 1, cells := 0, slots := 0, locals := 23 } s m ([.ref a_t, .ref a_p1, .int n2] : List Value).toArray below meth c H locs 0 0 (Ev below (fun w => ∃ (i_t : Nat → Int32), ∃ (r_t_starts : Nat → Int32), ∃ (r_t_sizes : Nat → Int32), ∃ (r_t_units : Nat → Int32), ∃ (r_t_kinds : Nat → Int32), w = (wd_Halves_add k a_t d_t i_t a_p1 d_p1 i_p1 r_t_starts r_t_sizes r_t_units r_p1_longs r_t_kinds r_p1_kinds) ∧ Q i_t r_t_starts r_t_sizes r_t_units r_t_kinds) D k A ([.ref a_t, .ref a_p1, .int n2] : List Value).toArray s 0 0) (F0 m 87 ls []) := by
  have hx := F.x
  have hb := F.b
  intro x4 i_t r_t_kinds H locs ls hf hB hl
  unfold b_Halves_add_87 at hf
  refine lv_iload hx hb dX1_add_87 (lv_at hl 2 rfl) ?_
  refine lv_aload_n hx hb dX1_add_89 rfl (lv_at hl 1 rfl) ?_
  refine g_get (w := .int (i_p1 8)) F hB 1 rfl fl_RX1_37 rfl dX1_add_90 ?_
  refine lv_icmp_ge (tgt := 128) hx hb dX1_add_93 (by decide) (fun c_7 => ?_) (fun c_7 => ?_)
  · replace hf := hf.1 c_7
    exact hkx_87 _ _ _ _ _ hf hB (lv_sub hl [] rfl)
  · replace hf := hf.2 c_7
    refine lv_aload_n hx hb dX1_add_96 rfl (lv_at hl 0 rfl) ?_
    refine g_get (w := .ref (d_t 0)) F hB 0 rfl fl_RX1_9 rfl dX1_add_97 ?_
    refine lv_aload_n hx hb dX1_add_100 rfl (lv_at hl 0 rfl) ?_
    refine g_get (w := .int (i_t 1)) F hB 0 rfl fl_RX1_24 rfl dX1_add_101 ?_
    refine lv_aload_n hx hb dX1_add_104 rfl (lv_at hl 1 rfl) ?_
    refine g_get (w := .ref (d_p1 0)) F hB 1 rfl fl_RX1_44 rfl dX1_add_105 ?_
    refine lv_iload hx hb dX1_add_108 (lv_at hl 2 rfl) ?_
    obtain ⟨h_5, hf⟩ := hf
    refine g_iald F hB 7 rfl h_5 dX1_add_110 ?_
    obtain ⟨h_6, hf⟩ := hf
    refine g_iast F hB 6 rfl h_6 (wd_Halves_add k a_t d_t i_t a_p1 d_p1 i_p1 r_t_starts r_t_sizes r_t_units r_p1_longs (upd r_t_kinds ((i_t 1)).toNatClampNeg (r_p1_kinds (x4).toNatClampNeg)) r_p1_kinds) rfl dX1_add_111 (fun H locs hB => ?_)
    refine lv_aload_n hx hb dX1_add_112 rfl (lv_at hl 0 rfl) ?_
    refine lv_dup hx hb dX1_add_113 rfl ?_
    refine g_get (w := .int (i_t 1)) F hB 0 rfl fl_RX1_24 rfl dX1_add_114 ?_
    refine lv_iconst (v := 1) hx hb dX1_add_117 (by decide) ?_
    refine lv_iadd hx hb dX1_add_118 ?_
    refine g_puti F hB 0 rfl fl_RX1_24 rfl (wd_Halves_add k a_t d_t (upd i_t 1 ((i_t 1) + (1 : Int32))) a_p1 d_p1 i_p1 r_t_starts r_t_sizes r_t_units r_p1_longs (upd r_t_kinds ((i_t 1)).toNatClampNeg (r_p1_kinds (x4).toNatClampNeg)) r_p1_kinds) rfl dX1_add_119 (fun H locs hB => ?_)
    refine lv_iinc (v := (x4 + 1)) (lv' := [(4, .int (x4 + 1)), (0, .ref a_t), (1, .ref a_p1)]) (k := 2) hx hb dX1_add_122 hl rfl rfl (by decide) rfl (fun ls hl => ?_)
    refine lv_goto (tgt := 87) hx hb dX1_add_125 (by decide) ?_
    exact hkr_87 _ _ _ _ _ _ hf hB (lv_sub hl [1, 2, 0] rfl)

set_option maxRecDepth 100000 in
set_option maxHeartbeats 4000000 in
theorem lt_Halves_add_87 {p : Program} {l : Launch} {e : Env} {s : State} {m : MethodId} {below : List Frame} {meth : Method} {c : Code} {A : Nat → Prop} {D : va_G} {k : Nat → ClassId} {a_t : Nat} {d_t : Nat → Nat} {a_p1 : Nat} {d_p1 : Nat → Nat} {i_p1 : Nat → Int32} {r_t_starts : Nat → Int32} {r_t_sizes : Nat → Int32} {r_t_units : Nat → Int32} {r_p1_longs : Nat → Int32} {r_p1_kinds : Nat → Int32} {n2 : Int32} {Q : (Nat → Int32) → (Nat → Int32) → (Nat → Int32) → (Nat → Int32) → (Nat → Int32) → Prop}  {kx_87 : (Nat → Int32) → (Nat → Int32) → Prop} (F : Fx p m c cX1_add 5 s ([.ref a_t, .ref a_p1, .int n2] : List Value).toArray RX1 D k) (hr : meth.sig.returnType = none) (hlk : meth.locks = false) (hA : ∀ q : Nat, s.heap.size ≤ q → A q) (hkx_87 : ∀ (i_t : Nat → Int32) (r_t_kinds : Nat → Int32) (H : Heap) (locs : List Loc) (ls : Array Slot), kx_87 i_t r_t_kinds → Bd D A s.heap (wd_Halves_add k a_t d_t i_t a_p1 d_p1 i_p1 r_t_starts r_t_sizes r_t_units r_p1_longs r_t_kinds r_p1_kinds) H locs → lv_has ls 5 [] → W p l e { frames := 1, cells := 0, slots := 0, locals := 23 } s m ([.ref a_t, .ref a_p1, .int n2] : List Value).toArray below meth c H locs 0 0 (Ev below (fun w => ∃ (i_t : Nat → Int32), ∃ (r_t_starts : Nat → Int32), ∃ (r_t_sizes : Nat → Int32), ∃ (r_t_units : Nat → Int32), ∃ (r_t_kinds : Nat → Int32), w = (wd_Halves_add k a_t d_t i_t a_p1 d_p1 i_p1 r_t_starts r_t_sizes r_t_units r_p1_longs r_t_kinds r_p1_kinds) ∧ Q i_t r_t_starts r_t_sizes r_t_units r_t_kinds) D k A ([.ref a_t, .ref a_p1, .int n2] : List Value).toArray s 0 0) (F0 m 128 ls [])) :
    ∀ n : Nat, ∀ (x4 : Int32) (i_t : Nat → Int32) (r_t_kinds : Nat → Int32) (H : Heap) (locs : List Loc) (ls : Array Slot), lp_Halves_add_87 i_p1 r_p1_kinds kx_87 n x4 i_t r_t_kinds → Bd D A s.heap (wd_Halves_add k a_t d_t i_t a_p1 d_p1 i_p1 r_t_starts r_t_sizes r_t_units r_p1_longs r_t_kinds r_p1_kinds) H locs → lv_has ls 5 [(0, .ref a_t), (1, .ref a_p1), (4, .int x4)] → W p l e { frames := 1, cells := 0, slots := 0, locals := 23 } s m ([.ref a_t, .ref a_p1, .int n2] : List Value).toArray below meth c H locs 0 0 (Ev below (fun w => ∃ (i_t : Nat → Int32), ∃ (r_t_starts : Nat → Int32), ∃ (r_t_sizes : Nat → Int32), ∃ (r_t_units : Nat → Int32), ∃ (r_t_kinds : Nat → Int32), w = (wd_Halves_add k a_t d_t i_t a_p1 d_p1 i_p1 r_t_starts r_t_sizes r_t_units r_p1_longs r_t_kinds r_p1_kinds) ∧ Q i_t r_t_starts r_t_sizes r_t_units r_t_kinds) D k A ([.ref a_t, .ref a_p1, .int n2] : List Value).toArray s 0 0) (F0 m 87 ls []) := by
  intro n
  induction n with
  | zero => intro x4 i_t r_t_kinds H locs ls hf; exact absurd hf (fun h => h)
  | succ n ih => exact bt_Halves_add_87 F hr hlk hA hkx_87 ih

set_option maxRecDepth 100000 in
set_option maxHeartbeats 4000000 in
theorem c_Halves_add (l : Launch) (D : va_G) (k : Nat → ClassId) (a_t : Nat) (d_t : Nat → Nat) (i_t : Nat → Int32) (a_p1 : Nat) (d_p1 : Nat → Nat) (i_p1 : Nat → Int32) (r_t_starts : Nat → Int32) (r_t_sizes : Nat → Int32) (r_t_units : Nat → Int32) (r_p1_longs : Nat → Int32) (r_t_kinds : Nat → Int32) (r_p1_kinds : Nat → Int32) (n2 : Int32) (Q : (Nat → Int32) → (Nat → Int32) → (Nat → Int32) → (Nat → Int32) → (Nat → Int32) → Prop)  (hf : w_Halves_add i_t i_p1 r_t_starts r_t_sizes r_t_units r_p1_longs r_t_kinds r_p1_kinds n2 Q) : CtV l yX1_add cX1_add 5 none 1 23 0 0 D k [.ref a_t, .ref a_p1, .int n2] (wd_Halves_add k a_t d_t i_t a_p1 d_p1 i_p1 r_t_starts r_t_sizes r_t_units r_p1_longs r_t_kinds r_p1_kinds) (fun w => ∃ (i_t : Nat → Int32), ∃ (r_t_starts : Nat → Int32), ∃ (r_t_sizes : Nat → Int32), ∃ (r_t_units : Nat → Int32), ∃ (r_t_kinds : Nat → Int32), w = (wd_Halves_add k a_t d_t i_t a_p1 d_p1 i_p1 r_t_starts r_t_sizes r_t_units r_p1_longs r_t_kinds r_p1_kinds) ∧ Q i_t r_t_starts r_t_sizes r_t_units r_t_kinds) := by
  refine CtV.of (by decide) (Nat.le_of_ble_eq_true rfl) ?_
  intro p e s m below meth c A F hr hlk hnm hA hB ls hl
  have hx := F.x
  have hb := F.b
  unfold w_Halves_add at hf
  replace hl : lv_has ls 5 [(0, .ref a_t), (1, .ref a_p1), (2, .int n2)] := hl
  refine lv_aload_n hx hb dX1_add_0 rfl (lv_at hl 1 rfl) ?_
  refine g_get (w := .int (i_p1 8)) F hB 1 rfl fl_RX1_37 rfl dX1_add_1 ?_
  refine lv_iload_n hx hb dX1_add_4 rfl (lv_at hl 2 rfl) ?_
  refine lv_isub hx hb dX1_add_5 ?_
  refine lv_istore_n (lv' := [(3, .int ((i_p1 8) - n2)), (0, .ref a_t), (1, .ref a_p1), (2, .int n2)]) hx hb dX1_add_6 rfl hl (by decide) rfl (fun ls hl => ?_)
  refine lv_iload_n hx hb dX1_add_7 rfl (lv_at hl 3 rfl) ?_
  refine lv_if_lt (tgt := 36) hx hb dX1_add_8 (by decide) (fun c_14 => ?_) (fun c_14 => ?_)
  · replace hf := hf.1 c_14
    exact r_v F hr hlk hB ⟨_, _, _, _, _, rfl, hf⟩ dX1_add_36
  · replace hf := hf.2 c_14
    refine lv_iload_n hx hb dX1_add_11 rfl (lv_at hl 0 rfl) ?_
    refine lv_iconst (v := 1) hx hb dX1_add_12 (by decide) ?_
    refine lv_icmp_lt (tgt := 36) hx hb dX1_add_13 (by decide) (fun c_13 => ?_) (fun c_13 => ?_)
    · replace hf := hf.1 c_13
      exact r_v F hr hlk hB ⟨_, _, _, _, _, rfl, hf⟩ dX1_add_36
    · replace hf := hf.2 c_13
      refine lv_aload_n hx hb dX1_add_16 rfl (lv_at hl 1 rfl) ?_
      refine g_get (w := .int (i_t 5)) F hB 0 rfl fl_RX1_28 rfl dX1_add_17 ?_
      refine lv_bipush (v := 20) hx hb dX1_add_20 (by decide) ?_
      refine lv_icmp_ge (tgt := 36) hx hb dX1_add_22 (by decide) (fun c_12 => ?_) (fun c_12 => ?_)
      · replace hf := hf.1 c_12
        exact r_v F hr hlk hB ⟨_, _, _, _, _, rfl, hf⟩ dX1_add_36
      · replace hf := hf.2 c_12
        refine lv_aload_n hx hb dX1_add_25 rfl (lv_at hl 1 rfl) ?_
        refine g_get (w := .int (i_t 1)) F hB 0 rfl fl_RX1_24 rfl dX1_add_26 ?_
        refine lv_iload_n hx hb dX1_add_29 rfl (lv_at hl 0 rfl) ?_
        refine lv_iadd hx hb dX1_add_30 ?_
        refine lv_bipush (v := 20) hx hb dX1_add_31 (by decide) ?_
        refine lv_icmp_le (tgt := 37) hx hb dX1_add_33 (by decide) (fun c_11 => ?_) (fun c_11 => ?_)
        · replace hf := hf.1 c_11
          refine lv_aload_n hx hb dX1_add_37 rfl (lv_at hl 1 rfl) ?_
          refine g_get (w := .ref (d_t 2)) F hB 0 rfl fl_RX1_15 rfl dX1_add_38 ?_
          refine lv_aload_n hx hb dX1_add_41 rfl (lv_at hl 1 rfl) ?_
          refine g_get (w := .int (i_t 5)) F hB 0 rfl fl_RX1_28 rfl dX1_add_42 ?_
          refine lv_aload_n hx hb dX1_add_45 rfl (lv_at hl 1 rfl) ?_
          refine g_get (w := .int (i_t 1)) F hB 0 rfl fl_RX1_24 rfl dX1_add_46 ?_
          obtain ⟨h_1, hf⟩ := hf
          refine g_iast F hB 2 rfl h_1 (wd_Halves_add k a_t d_t i_t a_p1 d_p1 i_p1 (upd r_t_starts ((i_t 5)).toNatClampNeg (i_t 1)) r_t_sizes r_t_units r_p1_longs r_t_kinds r_p1_kinds) rfl dX1_add_49 (fun H locs hB => ?_)
          refine lv_aload_n hx hb dX1_add_50 rfl (lv_at hl 1 rfl) ?_
          refine g_get (w := .ref (d_t 3)) F hB 0 rfl fl_RX1_18 rfl dX1_add_51 ?_
          refine lv_aload_n hx hb dX1_add_54 rfl (lv_at hl 1 rfl) ?_
          refine g_get (w := .int (i_t 5)) F hB 0 rfl fl_RX1_28 rfl dX1_add_55 ?_
          refine lv_iload_n hx hb dX1_add_58 rfl (lv_at hl 0 rfl) ?_
          obtain ⟨h_2, hf⟩ := hf
          refine g_iast F hB 3 rfl h_2 (wd_Halves_add k a_t d_t i_t a_p1 d_p1 i_p1 (upd r_t_starts ((i_t 5)).toNatClampNeg (i_t 1)) (upd r_t_sizes ((i_t 5)).toNatClampNeg ((i_p1 8) - n2)) r_t_units r_p1_longs r_t_kinds r_p1_kinds) rfl dX1_add_59 (fun H locs hB => ?_)
          refine lv_aload_n hx hb dX1_add_60 rfl (lv_at hl 1 rfl) ?_
          refine g_get (w := .ref (d_t 4)) F hB 0 rfl fl_RX1_21 rfl dX1_add_61 ?_
          refine lv_aload_n hx hb dX1_add_64 rfl (lv_at hl 1 rfl) ?_
          refine g_get (w := .int (i_t 5)) F hB 0 rfl fl_RX1_28 rfl dX1_add_65 ?_
          refine lv_aload_n hx hb dX1_add_68 rfl (lv_at hl 2 rfl) ?_
          refine lv_iload_n hx hb dX1_add_69 rfl (lv_at hl 3 rfl) ?_
          refine k_vi (wr := [(a_t, ob 1 (rfd d_t) i_t j0), ((d_t 2), ai k 20 (upd r_t_starts ((i_t 5)).toNatClampNeg (i_t 1))), ((d_t 3), ai k 20 (upd r_t_sizes ((i_t 5)).toNatClampNeg ((i_p1 8) - n2))), ((d_t 4), ai k 20 r_t_units), ((d_t 0), ai k 20 r_t_kinds), ((d_p1 0), ai k 20 r_p1_kinds)]) (rest := [.int (i_t 5), .ref (d_t 4)]) F hA hB (c_Row_foremostUnit l D k a_p1 d_p1 i_p1 r_p1_longs n2 _  hf) ml_RX1_40 mv_yX8_foremostUnit [1, 5] [0, 2, 3, 4, 6, 7] rfl rfl (by decide) (by decide) (by decide) 1 rfl rfl rfl hl.1 rfl (Nat.le_of_ble_eq_true rfl) ⟨Nat.le_of_ble_eq_true rfl, Nat.le_of_ble_eq_true rfl⟩ ⟨Nat.le_of_ble_eq_true rfl, Nat.le_of_ble_eq_true rfl⟩ dX1_add_70 (fun z_3 w1 H locs hq hB => ?_)
          obtain ⟨rfl, hf⟩ := hq
          replace hB : Bd D A s.heap (wd_Halves_add k a_t d_t i_t a_p1 d_p1 i_p1 (upd r_t_starts ((i_t 5)).toNatClampNeg (i_t 1)) (upd r_t_sizes ((i_t 5)).toNatClampNeg ((i_p1 8) - n2)) r_t_units r_p1_longs r_t_kinds r_p1_kinds) H locs := hB.sub [0, 6, 1, 2, 3, 7, 4, 5] (by decide) rfl
          obtain ⟨h_4, hf⟩ := hf
          refine g_iast F hB 4 rfl h_4 (wd_Halves_add k a_t d_t i_t a_p1 d_p1 i_p1 (upd r_t_starts ((i_t 5)).toNatClampNeg (i_t 1)) (upd r_t_sizes ((i_t 5)).toNatClampNeg ((i_p1 8) - n2)) (upd r_t_units ((i_t 5)).toNatClampNeg z_3) r_p1_longs r_t_kinds r_p1_kinds) rfl dX1_add_73 (fun H locs hB => ?_)
          refine lv_aload_n hx hb dX1_add_74 rfl (lv_at hl 1 rfl) ?_
          refine lv_dup hx hb dX1_add_75 rfl ?_
          refine g_get (w := .int (i_t 5)) F hB 0 rfl fl_RX1_28 rfl dX1_add_76 ?_
          refine lv_iconst (v := 1) hx hb dX1_add_79 (by decide) ?_
          refine lv_iadd hx hb dX1_add_80 ?_
          refine g_puti F hB 0 rfl fl_RX1_28 rfl (wd_Halves_add k a_t d_t (upd i_t 5 ((i_t 5) + (1 : Int32))) a_p1 d_p1 i_p1 (upd r_t_starts ((i_t 5)).toNatClampNeg (i_t 1)) (upd r_t_sizes ((i_t 5)).toNatClampNeg ((i_p1 8) - n2)) (upd r_t_units ((i_t 5)).toNatClampNeg z_3) r_p1_longs r_t_kinds r_p1_kinds) rfl dX1_add_81 (fun H locs hB => ?_)
          refine lv_iload_n hx hb dX1_add_84 rfl (lv_at hl 3 rfl) ?_
          refine lv_istore (lv' := [(4, .int n2), (3, .int ((i_p1 8) - n2)), (0, .ref a_t), (1, .ref a_p1), (2, .int n2)]) hx hb dX1_add_85 hl (by decide) rfl (fun ls hl => ?_)
          obtain ⟨n_10, hf⟩ := hf
          refine lt_Halves_add_87 F hr hlk hA (fun i_t_8 r_t_kinds_9 H locs ls hf hB hl => ?_) n_10 _ _ _ _ _ _ hf hB (lv_sub hl [2, 3, 0] rfl)
          exact r_v F hr hlk hB ⟨_, _, _, _, _, rfl, hf⟩ dX1_add_128
        · replace hf := hf.2 c_11
          exact r_v F hr hlk hB ⟨_, _, _, _, _, rfl, hf⟩ dX1_add_36

/-! LongTrain.Halves.unitsOf -/
set_option maxRecDepth 100000 in
set_option maxHeartbeats 4000000 in
theorem bt_Halves_unitsOf_5 {p : Program} {l : Launch} {e : Env} {s : State} {m : MethodId} {below : List Frame} {meth : Method} {c : Code} {A : Nat → Prop} {D : va_G} {k : Nat → ClassId} {a_t : Nat} {d_t : Nat → Nat} {i_t : Nat → Int32} {a_p2 : Nat} {d_p2 : Nat → Nat} {i_p2 : Nat → Int32} {r_t_sizes : Nat → Int32} {r_t_kinds : Nat → Int32} {r_t_starts : Nat → Int32} {r_p2_kinds : Nat → Int32} {n1 : Int32} {Q : Int32 → Prop}  {x1 : Int32} {kx_5 : (Int32) → Prop} {kr_5 : (Int32) → (Int32) → Prop} (F : Fx p m c cX1_unitsOf 5 s ([.ref a_t, .int n1, .ref a_p2] : List Value).toArray RX1 D k) (hr : meth.sig.returnType = (some .int)) (hlk : meth.locks = false) (hA : ∀ q : Nat, s.heap.size ≤ q → A q) (hkx_5 : ∀ (x3 : Int32) (H : Heap) (locs : List Loc) (ls : Array Slot), kx_5 x3 → Bd D A s.heap (wd_Halves_unitsOf k a_t d_t i_t a_p2 d_p2 i_p2 r_t_sizes r_t_kinds r_t_starts r_p2_kinds) H locs → lv_has ls 5 [(3, .int x3)] → W p l e { frames := 1, cells := 0, slots := 0, locals := 21 } s m ([.ref a_t, .int n1, .ref a_p2] : List Value).toArray below meth c H locs 0 0 (Ei below (fun r w => w = (wd_Halves_unitsOf k a_t d_t i_t a_p2 d_p2 i_p2 r_t_sizes r_t_kinds r_t_starts r_p2_kinds) ∧ Q r) D k A ([.ref a_t, .int n1, .ref a_p2] : List Value).toArray s 0 0) (F0 m 43 ls [])) (hkr_5 : ∀ (x3 : Int32) (x4 : Int32) (H : Heap) (locs : List Loc) (ls : Array Slot), kr_5 x3 x4 → Bd D A s.heap (wd_Halves_unitsOf k a_t d_t i_t a_p2 d_p2 i_p2 r_t_sizes r_t_kinds r_t_starts r_p2_kinds) H locs → lv_has ls 5 [(0, .ref a_t), (1, .int x1), (2, .ref a_p2), (3, .int x3), (4, .int x4)] → W p l e { frames := 1, cells := 0, slots := 0, locals := 21 } s m ([.ref a_t, .int n1, .ref a_p2] : List Value).toArray below meth c H locs 0 0 (Ei below (fun r w => w = (wd_Halves_unitsOf k a_t d_t i_t a_p2 d_p2 i_p2 r_t_sizes r_t_kinds r_t_starts r_p2_kinds) ∧ Q r) D k A ([.ref a_t, .int n1, .ref a_p2] : List Value).toArray s 0 0) (F0 m 5 ls [])) :
    ∀ (x3 : Int32) (x4 : Int32) (H : Heap) (locs : List Loc) (ls : Array Slot), b_Halves_unitsOf_5 r_t_sizes r_t_kinds r_t_starts r_p2_kinds x1 kx_5 kr_5 x3 x4 → Bd D A s.heap (wd_Halves_unitsOf k a_t d_t i_t a_p2 d_p2 i_p2 r_t_sizes r_t_kinds r_t_starts r_p2_kinds) H locs → lv_has ls 5 [(0, .ref a_t), (1, .int x1), (2, .ref a_p2), (3, .int x3), (4, .int x4)] → W p l e { frames := 1, cells := 0, slots := 0, locals := 21 } s m ([.ref a_t, .int n1, .ref a_p2] : List Value).toArray below meth c H locs 0 0 (Ei below (fun r w => w = (wd_Halves_unitsOf k a_t d_t i_t a_p2 d_p2 i_p2 r_t_sizes r_t_kinds r_t_starts r_p2_kinds) ∧ Q r) D k A ([.ref a_t, .int n1, .ref a_p2] : List Value).toArray s 0 0) (F0 m 5 ls []) := by
  have hx := F.x
  have hb := F.b
  intro x3 x4 H locs ls hf hB hl
  unfold b_Halves_unitsOf_5 at hf
  refine lv_iload hx hb dX1_unitsOf_5 (lv_at hl 4 rfl) ?_
  refine lv_aload_n hx hb dX1_unitsOf_7 rfl (lv_at hl 0 rfl) ?_
  refine g_get (w := .ref (d_t 3)) F hB 0 rfl fl_RX1_18 rfl dX1_unitsOf_8 ?_
  refine lv_iload_n hx hb dX1_unitsOf_11 rfl (lv_at hl 1 rfl) ?_
  obtain ⟨h_1, hf⟩ := hf
  refine g_iald F hB 2 rfl h_1 dX1_unitsOf_12 ?_
  refine lv_icmp_ge (tgt := 43) hx hb dX1_unitsOf_13 (by decide) (fun c_5 => ?_) (fun c_5 => ?_)
  · replace hf := hf.1 c_5
    exact hkx_5 _ _ _ _ hf hB (lv_sub hl [3] rfl)
  · replace hf := hf.2 c_5
    refine lv_iload_n hx hb dX1_unitsOf_16 rfl (lv_at hl 3 rfl) ?_
    refine lv_aload_n hx hb dX1_unitsOf_17 rfl (lv_at hl 2 rfl) ?_
    refine lv_aload_n hx hb dX1_unitsOf_18 rfl (lv_at hl 0 rfl) ?_
    refine g_get (w := .ref (d_t 0)) F hB 0 rfl fl_RX1_9 rfl dX1_unitsOf_19 ?_
    refine lv_aload_n hx hb dX1_unitsOf_22 rfl (lv_at hl 0 rfl) ?_
    refine g_get (w := .ref (d_t 2)) F hB 0 rfl fl_RX1_15 rfl dX1_unitsOf_23 ?_
    refine lv_iload_n hx hb dX1_unitsOf_26 rfl (lv_at hl 1 rfl) ?_
    obtain ⟨h_2, hf⟩ := hf
    refine g_iald F hB 4 rfl h_2 dX1_unitsOf_27 ?_
    refine lv_iload hx hb dX1_unitsOf_28 (lv_at hl 4 rfl) ?_
    refine lv_iadd hx hb dX1_unitsOf_30 ?_
    obtain ⟨h_3, hf⟩ := hf
    refine g_iald F hB 3 rfl h_3 dX1_unitsOf_31 ?_
    refine k_vi (wr := [(a_t, ob 1 (rfd d_t) i_t j0), ((d_t 3), ai k 20 r_t_sizes), ((d_t 0), ai k 20 r_t_kinds), ((d_t 2), ai k 20 r_t_starts)]) (rest := [.int x3]) F hA hB (c_Line_longOf l D k a_p2 d_p2 i_p2 r_p2_kinds (r_t_kinds (((r_t_starts (x1).toNatClampNeg) + x4)).toNatClampNeg) _  hf) ml_RX1_45 mv_yX3_longOf [1, 5] [0, 2, 3, 4] rfl rfl (by decide) (by decide) (by decide) 1 rfl rfl rfl hl.1 rfl (Nat.le_of_ble_eq_true rfl) ⟨Nat.le_of_ble_eq_true rfl, Nat.le_of_ble_eq_true rfl⟩ ⟨Nat.le_of_ble_eq_true rfl, Nat.le_of_ble_eq_true rfl⟩ dX1_unitsOf_32 (fun z_4 w1 H locs hq hB => ?_)
    obtain ⟨rfl, hf⟩ := hq
    replace hB : Bd D A s.heap (wd_Halves_unitsOf k a_t d_t i_t a_p2 d_p2 i_p2 r_t_sizes r_t_kinds r_t_starts r_p2_kinds) H locs := hB.sub [0, 4, 1, 2, 3, 5] (by decide) rfl
    refine lv_iadd hx hb dX1_unitsOf_35 ?_
    refine lv_istore_n (lv' := [(3, .int (x3 + z_4)), (0, .ref a_t), (1, .int x1), (2, .ref a_p2), (4, .int x4)]) hx hb dX1_unitsOf_36 rfl hl (by decide) rfl (fun ls hl => ?_)
    refine lv_iinc (v := (x4 + 1)) (lv' := [(4, .int (x4 + 1)), (3, .int (x3 + z_4)), (0, .ref a_t), (1, .int x1), (2, .ref a_p2)]) (k := 4) hx hb dX1_unitsOf_37 hl rfl rfl (by decide) rfl (fun ls hl => ?_)
    refine lv_goto (tgt := 5) hx hb dX1_unitsOf_40 (by decide) ?_
    exact hkr_5 _ _ _ _ _ hf hB (lv_sub hl [2, 3, 4, 1, 0] rfl)

set_option maxRecDepth 100000 in
set_option maxHeartbeats 4000000 in
theorem lt_Halves_unitsOf_5 {p : Program} {l : Launch} {e : Env} {s : State} {m : MethodId} {below : List Frame} {meth : Method} {c : Code} {A : Nat → Prop} {D : va_G} {k : Nat → ClassId} {a_t : Nat} {d_t : Nat → Nat} {i_t : Nat → Int32} {a_p2 : Nat} {d_p2 : Nat → Nat} {i_p2 : Nat → Int32} {r_t_sizes : Nat → Int32} {r_t_kinds : Nat → Int32} {r_t_starts : Nat → Int32} {r_p2_kinds : Nat → Int32} {n1 : Int32} {Q : Int32 → Prop}  {x1 : Int32} {kx_5 : (Int32) → Prop} (F : Fx p m c cX1_unitsOf 5 s ([.ref a_t, .int n1, .ref a_p2] : List Value).toArray RX1 D k) (hr : meth.sig.returnType = (some .int)) (hlk : meth.locks = false) (hA : ∀ q : Nat, s.heap.size ≤ q → A q) (hkx_5 : ∀ (x3 : Int32) (H : Heap) (locs : List Loc) (ls : Array Slot), kx_5 x3 → Bd D A s.heap (wd_Halves_unitsOf k a_t d_t i_t a_p2 d_p2 i_p2 r_t_sizes r_t_kinds r_t_starts r_p2_kinds) H locs → lv_has ls 5 [(3, .int x3)] → W p l e { frames := 1, cells := 0, slots := 0, locals := 21 } s m ([.ref a_t, .int n1, .ref a_p2] : List Value).toArray below meth c H locs 0 0 (Ei below (fun r w => w = (wd_Halves_unitsOf k a_t d_t i_t a_p2 d_p2 i_p2 r_t_sizes r_t_kinds r_t_starts r_p2_kinds) ∧ Q r) D k A ([.ref a_t, .int n1, .ref a_p2] : List Value).toArray s 0 0) (F0 m 43 ls [])) :
    ∀ n : Nat, ∀ (x3 : Int32) (x4 : Int32) (H : Heap) (locs : List Loc) (ls : Array Slot), lp_Halves_unitsOf_5 r_t_sizes r_t_kinds r_t_starts r_p2_kinds x1 kx_5 n x3 x4 → Bd D A s.heap (wd_Halves_unitsOf k a_t d_t i_t a_p2 d_p2 i_p2 r_t_sizes r_t_kinds r_t_starts r_p2_kinds) H locs → lv_has ls 5 [(0, .ref a_t), (1, .int x1), (2, .ref a_p2), (3, .int x3), (4, .int x4)] → W p l e { frames := 1, cells := 0, slots := 0, locals := 21 } s m ([.ref a_t, .int n1, .ref a_p2] : List Value).toArray below meth c H locs 0 0 (Ei below (fun r w => w = (wd_Halves_unitsOf k a_t d_t i_t a_p2 d_p2 i_p2 r_t_sizes r_t_kinds r_t_starts r_p2_kinds) ∧ Q r) D k A ([.ref a_t, .int n1, .ref a_p2] : List Value).toArray s 0 0) (F0 m 5 ls []) := by
  intro n
  induction n with
  | zero => intro x3 x4 H locs ls hf; exact absurd hf (fun h => h)
  | succ n ih => exact bt_Halves_unitsOf_5 F hr hlk hA hkx_5 ih

set_option maxRecDepth 100000 in
set_option maxHeartbeats 4000000 in
theorem c_Halves_unitsOf (l : Launch) (D : va_G) (k : Nat → ClassId) (a_t : Nat) (d_t : Nat → Nat) (i_t : Nat → Int32) (a_p2 : Nat) (d_p2 : Nat → Nat) (i_p2 : Nat → Int32) (r_t_sizes : Nat → Int32) (r_t_kinds : Nat → Int32) (r_t_starts : Nat → Int32) (r_p2_kinds : Nat → Int32) (n1 : Int32) (Q : Int32 → Prop)  (hf : w_Halves_unitsOf r_t_sizes r_t_kinds r_t_starts r_p2_kinds n1 Q) : CtI l yX1_unitsOf cX1_unitsOf 5 (some .int) 1 21 0 0 D k [.ref a_t, .int n1, .ref a_p2] (wd_Halves_unitsOf k a_t d_t i_t a_p2 d_p2 i_p2 r_t_sizes r_t_kinds r_t_starts r_p2_kinds) (fun r w => w = (wd_Halves_unitsOf k a_t d_t i_t a_p2 d_p2 i_p2 r_t_sizes r_t_kinds r_t_starts r_p2_kinds) ∧ Q r) := by
  refine CtI.of (by decide) (Nat.le_of_ble_eq_true rfl) ?_
  intro p e s m below meth c A F hr hlk hnm hA hB ls hl
  have hx := F.x
  have hb := F.b
  unfold w_Halves_unitsOf at hf
  replace hl : lv_has ls 5 [(0, .ref a_t), (1, .int n1), (2, .ref a_p2)] := hl
  refine lv_iconst (v := 0) hx hb dX1_unitsOf_0 (by decide) ?_
  refine lv_istore_n (lv' := [(3, .int (0 : Int32)), (0, .ref a_t), (1, .int n1), (2, .ref a_p2)]) hx hb dX1_unitsOf_1 rfl hl (by decide) rfl (fun ls hl => ?_)
  refine lv_iconst (v := 0) hx hb dX1_unitsOf_2 (by decide) ?_
  refine lv_istore (lv' := [(4, .int (0 : Int32)), (3, .int (0 : Int32)), (0, .ref a_t), (1, .int n1), (2, .ref a_p2)]) hx hb dX1_unitsOf_3 hl (by decide) rfl (fun ls hl => ?_)
  obtain ⟨n_7, hf⟩ := hf
  refine lt_Halves_unitsOf_5 F hr hlk hA (fun x3_6 H locs ls hf hB hl => ?_) n_7 _ _ _ _ _ hf hB (lv_sub hl [2, 3, 4, 1, 0] rfl)
  refine lv_iload_n hx hb dX1_unitsOf_43 rfl (lv_at hl 0 rfl) ?_
  exact r_i F hr hlk hB ⟨rfl, hf⟩ dX1_unitsOf_44

/-! LongTrain.Halves.dragOf -/
set_option maxRecDepth 100000 in
set_option maxHeartbeats 4000000 in
theorem bt_Halves_dragOf_13 {p : Program} {l : Launch} {e : Env} {s : State} {m : MethodId} {below : List Frame} {meth : Method} {c : Code} {A : Nat → Prop} {D : va_G} {k : Nat → ClassId} {a_t : Nat} {d_t : Nat → Nat} {i_t : Nat → Int32} {a_p2 : Nat} {d_p2 : Nat → Nat} {i_p2 : Nat → Int32} {r_t_units : Nat → Int32} {r_t_sizes : Nat → Int32} {r_t_kinds : Nat → Int32} {r_t_starts : Nat → Int32} {r_p2_kinds : Nat → Int32} {r_p2_grades : Nat → Int32} {n1 : Int32} {Q : Int32 → Prop}  {x1 : Int32} {kx_13 : (Int32) → Prop} {kr_13 : (Int32) → (Int32) → (Int32) → Prop} (F : Fx p m c cX1_dragOf 7 s ([.ref a_t, .int n1, .ref a_p2] : List Value).toArray RX1 D k) (hr : meth.sig.returnType = (some .int)) (hlk : meth.locks = false) (hA : ∀ q : Nat, s.heap.size ≤ q → A q) (hkx_13 : ∀ (x3 : Int32) (H : Heap) (locs : List Loc) (ls : Array Slot), kx_13 x3 → Bd D A s.heap (wd_Halves_dragOf k a_t d_t i_t a_p2 d_p2 i_p2 r_t_units r_t_sizes r_t_kinds r_t_starts r_p2_kinds r_p2_grades) H locs → lv_has ls 7 [(3, .int x3)] → W p l e { frames := 2, cells := 0, slots := 0, locals := 43 } s m ([.ref a_t, .int n1, .ref a_p2] : List Value).toArray below meth c H locs 0 0 (Ei below (fun r w => w = (wd_Halves_dragOf k a_t d_t i_t a_p2 d_p2 i_p2 r_t_units r_t_sizes r_t_kinds r_t_starts r_p2_kinds r_p2_grades) ∧ Q r) D k A ([.ref a_t, .int n1, .ref a_p2] : List Value).toArray s 0 0) (F0 m 72 ls [])) (hkr_13 : ∀ (x3 : Int32) (x4 : Int32) (x5 : Int32) (H : Heap) (locs : List Loc) (ls : Array Slot), kr_13 x3 x4 x5 → Bd D A s.heap (wd_Halves_dragOf k a_t d_t i_t a_p2 d_p2 i_p2 r_t_units r_t_sizes r_t_kinds r_t_starts r_p2_kinds r_p2_grades) H locs → lv_has ls 7 [(0, .ref a_t), (1, .int x1), (2, .ref a_p2), (3, .int x3), (4, .int x4), (5, .int x5)] → W p l e { frames := 2, cells := 0, slots := 0, locals := 43 } s m ([.ref a_t, .int n1, .ref a_p2] : List Value).toArray below meth c H locs 0 0 (Ei below (fun r w => w = (wd_Halves_dragOf k a_t d_t i_t a_p2 d_p2 i_p2 r_t_units r_t_sizes r_t_kinds r_t_starts r_p2_kinds r_p2_grades) ∧ Q r) D k A ([.ref a_t, .int n1, .ref a_p2] : List Value).toArray s 0 0) (F0 m 13 ls [])) :
    ∀ (x3 : Int32) (x4 : Int32) (x5 : Int32) (H : Heap) (locs : List Loc) (ls : Array Slot), b_Halves_dragOf_13 i_p2 r_t_sizes r_t_kinds r_t_starts r_p2_kinds r_p2_grades x1 kx_13 kr_13 x3 x4 x5 → Bd D A s.heap (wd_Halves_dragOf k a_t d_t i_t a_p2 d_p2 i_p2 r_t_units r_t_sizes r_t_kinds r_t_starts r_p2_kinds r_p2_grades) H locs → lv_has ls 7 [(0, .ref a_t), (1, .int x1), (2, .ref a_p2), (3, .int x3), (4, .int x4), (5, .int x5)] → W p l e { frames := 2, cells := 0, slots := 0, locals := 43 } s m ([.ref a_t, .int n1, .ref a_p2] : List Value).toArray below meth c H locs 0 0 (Ei below (fun r w => w = (wd_Halves_dragOf k a_t d_t i_t a_p2 d_p2 i_p2 r_t_units r_t_sizes r_t_kinds r_t_starts r_p2_kinds r_p2_grades) ∧ Q r) D k A ([.ref a_t, .int n1, .ref a_p2] : List Value).toArray s 0 0) (F0 m 13 ls []) := by
  have hx := F.x
  have hb := F.b
  intro x3 x4 x5 H locs ls hf hB hl
  unfold b_Halves_dragOf_13 at hf
  refine lv_iload hx hb dX1_dragOf_13 (lv_at hl 5 rfl) ?_
  refine lv_aload_n hx hb dX1_dragOf_15 rfl (lv_at hl 0 rfl) ?_
  refine g_get (w := .ref (d_t 3)) F hB 0 rfl fl_RX1_18 rfl dX1_dragOf_16 ?_
  refine lv_iload_n hx hb dX1_dragOf_19 rfl (lv_at hl 1 rfl) ?_
  obtain ⟨h_2, hf⟩ := hf
  refine g_iald F hB 3 rfl h_2 dX1_dragOf_20 ?_
  refine lv_icmp_ge (tgt := 72) hx hb dX1_dragOf_21 (by decide) (fun c_8 => ?_) (fun c_8 => ?_)
  · replace hf := hf.1 c_8
    exact hkx_13 _ _ _ _ hf hB (lv_sub hl [3] rfl)
  · replace hf := hf.2 c_8
    refine lv_aload_n hx hb dX1_dragOf_24 rfl (lv_at hl 0 rfl) ?_
    refine g_get (w := .ref (d_t 0)) F hB 0 rfl fl_RX1_9 rfl dX1_dragOf_25 ?_
    refine lv_aload_n hx hb dX1_dragOf_28 rfl (lv_at hl 0 rfl) ?_
    refine g_get (w := .ref (d_t 2)) F hB 0 rfl fl_RX1_15 rfl dX1_dragOf_29 ?_
    refine lv_iload_n hx hb dX1_dragOf_32 rfl (lv_at hl 1 rfl) ?_
    obtain ⟨h_3, hf⟩ := hf
    refine g_iald F hB 5 rfl h_3 dX1_dragOf_33 ?_
    refine lv_iload hx hb dX1_dragOf_34 (lv_at hl 5 rfl) ?_
    refine lv_iadd hx hb dX1_dragOf_36 ?_
    obtain ⟨h_4, hf⟩ := hf
    refine g_iald F hB 4 rfl h_4 dX1_dragOf_37 ?_
    refine lv_istore (lv' := [(6, .int (r_t_kinds (((r_t_starts (x1).toNatClampNeg) + x5)).toNatClampNeg)), (0, .ref a_t), (1, .int x1), (2, .ref a_p2), (3, .int x3), (4, .int x4), (5, .int x5)]) hx hb dX1_dragOf_38 hl (by decide) rfl (fun ls hl => ?_)
    refine lv_iload_n hx hb dX1_dragOf_40 rfl (lv_at hl 4 rfl) ?_
    refine lv_aload_n hx hb dX1_dragOf_41 rfl (lv_at hl 3 rfl) ?_
    refine lv_aload_n hx hb dX1_dragOf_42 rfl (lv_at hl 3 rfl) ?_
    refine lv_iload hx hb dX1_dragOf_43 (lv_at hl 0 rfl) ?_
    refine k_vi (wr := [(a_t, ob 1 (rfd d_t) i_t j0), ((d_t 4), ai k 20 r_t_units), ((d_t 3), ai k 20 r_t_sizes), ((d_t 0), ai k 20 r_t_kinds), ((d_t 2), ai k 20 r_t_starts), ((d_p2 0), ai k 400 r_p2_grades)]) (rest := [.ref a_p2, .int x3]) F hA hB (c_Line_weightOf l D k a_p2 d_p2 i_p2 r_p2_kinds (r_t_kinds (((r_t_starts (x1).toNatClampNeg) + x5)).toNatClampNeg) _  hf) ml_RX1_50 mv_yX3_weightOf [1, 6] [0, 2, 3, 4, 5, 7] rfl rfl (by decide) (by decide) (by decide) 1 rfl rfl rfl hl.1 rfl (Nat.le_of_ble_eq_true rfl) ⟨Nat.le_of_ble_eq_true rfl, Nat.le_of_ble_eq_true rfl⟩ ⟨Nat.le_of_ble_eq_true rfl, Nat.le_of_ble_eq_true rfl⟩ dX1_dragOf_45 (fun z_5 w1 H locs hq hB => ?_)
    obtain ⟨rfl, hf⟩ := hq
    replace hB : Bd D A s.heap (wd_Halves_dragOf k a_t d_t i_t a_p2 d_p2 i_p2 r_t_units r_t_sizes r_t_kinds r_t_starts r_p2_kinds r_p2_grades) H locs := hB.sub [0, 6, 1, 2, 3, 4, 7, 5] (by decide) rfl
    refine lv_iload hx hb dX1_dragOf_48 (lv_at hl 5 rfl) ?_
    refine k_vi (wr := [(a_t, ob 1 (rfd d_t) i_t j0), ((d_t 4), ai k 20 r_t_units), ((d_t 3), ai k 20 r_t_sizes), ((d_t 0), ai k 20 r_t_kinds), ((d_t 2), ai k 20 r_t_starts), ((d_p2 6), ai k 18 r_p2_kinds)]) (rest := [.int x3]) F hA hB (c_Line_dragOf l D k a_p2 d_p2 i_p2 r_p2_grades z_5 x4 _  hf) ml_RX1_53 mv_yX3_dragOf [1, 7] [0, 2, 3, 4, 5, 6] rfl rfl (by decide) (by decide) (by decide) 1 rfl rfl rfl hl.1 rfl (Nat.le_of_ble_eq_true rfl) ⟨Nat.le_of_ble_eq_true rfl, Nat.le_of_ble_eq_true rfl⟩ ⟨Nat.le_of_ble_eq_true rfl, Nat.le_of_ble_eq_true rfl⟩ dX1_dragOf_50 (fun z_6 w1 H locs hq hB => ?_)
    obtain ⟨rfl, hf⟩ := hq
    replace hB : Bd D A s.heap (wd_Halves_dragOf k a_t d_t i_t a_p2 d_p2 i_p2 r_t_units r_t_sizes r_t_kinds r_t_starts r_p2_kinds r_p2_grades) H locs := hB.sub [0, 6, 1, 2, 3, 4, 5, 7] (by decide) rfl
    refine lv_iadd hx hb dX1_dragOf_53 ?_
    refine lv_istore_n (lv' := [(3, .int (x3 + z_6)), (6, .int (r_t_kinds (((r_t_starts (x1).toNatClampNeg) + x5)).toNatClampNeg)), (0, .ref a_t), (1, .int x1), (2, .ref a_p2), (4, .int x4), (5, .int x5)]) hx hb dX1_dragOf_54 rfl hl (by decide) rfl (fun ls hl => ?_)
    refine lv_iload hx hb dX1_dragOf_55 (lv_at hl 5 rfl) ?_
    refine lv_aload_n hx hb dX1_dragOf_57 rfl (lv_at hl 4 rfl) ?_
    refine lv_iload hx hb dX1_dragOf_58 (lv_at hl 1 rfl) ?_
    refine k_vi (wr := [(a_t, ob 1 (rfd d_t) i_t j0), ((d_t 4), ai k 20 r_t_units), ((d_t 3), ai k 20 r_t_sizes), ((d_t 0), ai k 20 r_t_kinds), ((d_t 2), ai k 20 r_t_starts), ((d_p2 0), ai k 400 r_p2_grades)]) (rest := [.int x4]) F hA hB (c_Line_longOf l D k a_p2 d_p2 i_p2 r_p2_kinds (r_t_kinds (((r_t_starts (x1).toNatClampNeg) + x5)).toNatClampNeg) _  hf) ml_RX1_45 mv_yX3_longOf [1, 6] [0, 2, 3, 4, 5, 7] rfl rfl (by decide) (by decide) (by decide) 1 rfl rfl rfl hl.1 rfl (Nat.le_of_ble_eq_true rfl) ⟨Nat.le_of_ble_eq_true rfl, Nat.le_of_ble_eq_true rfl⟩ ⟨Nat.le_of_ble_eq_true rfl, Nat.le_of_ble_eq_true rfl⟩ dX1_dragOf_60 (fun z_7 w1 H locs hq hB => ?_)
    obtain ⟨rfl, hf⟩ := hq
    replace hB : Bd D A s.heap (wd_Halves_dragOf k a_t d_t i_t a_p2 d_p2 i_p2 r_t_units r_t_sizes r_t_kinds r_t_starts r_p2_kinds r_p2_grades) H locs := hB.sub [0, 6, 1, 2, 3, 4, 7, 5] (by decide) rfl
    refine lv_isub hx hb dX1_dragOf_63 ?_
    refine lv_istore (lv' := [(4, .int (x4 - z_7)), (3, .int (x3 + z_6)), (6, .int (r_t_kinds (((r_t_starts (x1).toNatClampNeg) + x5)).toNatClampNeg)), (0, .ref a_t), (1, .int x1), (2, .ref a_p2), (5, .int x5)]) hx hb dX1_dragOf_64 hl (by decide) rfl (fun ls hl => ?_)
    refine lv_iinc (v := (x5 + 1)) (lv' := [(5, .int (x5 + 1)), (4, .int (x4 - z_7)), (3, .int (x3 + z_6)), (6, .int (r_t_kinds (((r_t_starts (x1).toNatClampNeg) + x5)).toNatClampNeg)), (0, .ref a_t), (1, .int x1), (2, .ref a_p2)]) (k := 6) hx hb dX1_dragOf_66 hl rfl rfl (by decide) rfl (fun ls hl => ?_)
    refine lv_goto (tgt := 13) hx hb dX1_dragOf_69 (by decide) ?_
    exact hkr_13 _ _ _ _ _ _ hf hB (lv_sub hl [4, 5, 6, 2, 1, 0] rfl)

set_option maxRecDepth 100000 in
set_option maxHeartbeats 4000000 in
theorem lt_Halves_dragOf_13 {p : Program} {l : Launch} {e : Env} {s : State} {m : MethodId} {below : List Frame} {meth : Method} {c : Code} {A : Nat → Prop} {D : va_G} {k : Nat → ClassId} {a_t : Nat} {d_t : Nat → Nat} {i_t : Nat → Int32} {a_p2 : Nat} {d_p2 : Nat → Nat} {i_p2 : Nat → Int32} {r_t_units : Nat → Int32} {r_t_sizes : Nat → Int32} {r_t_kinds : Nat → Int32} {r_t_starts : Nat → Int32} {r_p2_kinds : Nat → Int32} {r_p2_grades : Nat → Int32} {n1 : Int32} {Q : Int32 → Prop}  {x1 : Int32} {kx_13 : (Int32) → Prop} (F : Fx p m c cX1_dragOf 7 s ([.ref a_t, .int n1, .ref a_p2] : List Value).toArray RX1 D k) (hr : meth.sig.returnType = (some .int)) (hlk : meth.locks = false) (hA : ∀ q : Nat, s.heap.size ≤ q → A q) (hkx_13 : ∀ (x3 : Int32) (H : Heap) (locs : List Loc) (ls : Array Slot), kx_13 x3 → Bd D A s.heap (wd_Halves_dragOf k a_t d_t i_t a_p2 d_p2 i_p2 r_t_units r_t_sizes r_t_kinds r_t_starts r_p2_kinds r_p2_grades) H locs → lv_has ls 7 [(3, .int x3)] → W p l e { frames := 2, cells := 0, slots := 0, locals := 43 } s m ([.ref a_t, .int n1, .ref a_p2] : List Value).toArray below meth c H locs 0 0 (Ei below (fun r w => w = (wd_Halves_dragOf k a_t d_t i_t a_p2 d_p2 i_p2 r_t_units r_t_sizes r_t_kinds r_t_starts r_p2_kinds r_p2_grades) ∧ Q r) D k A ([.ref a_t, .int n1, .ref a_p2] : List Value).toArray s 0 0) (F0 m 72 ls [])) :
    ∀ n : Nat, ∀ (x3 : Int32) (x4 : Int32) (x5 : Int32) (H : Heap) (locs : List Loc) (ls : Array Slot), lp_Halves_dragOf_13 i_p2 r_t_sizes r_t_kinds r_t_starts r_p2_kinds r_p2_grades x1 kx_13 n x3 x4 x5 → Bd D A s.heap (wd_Halves_dragOf k a_t d_t i_t a_p2 d_p2 i_p2 r_t_units r_t_sizes r_t_kinds r_t_starts r_p2_kinds r_p2_grades) H locs → lv_has ls 7 [(0, .ref a_t), (1, .int x1), (2, .ref a_p2), (3, .int x3), (4, .int x4), (5, .int x5)] → W p l e { frames := 2, cells := 0, slots := 0, locals := 43 } s m ([.ref a_t, .int n1, .ref a_p2] : List Value).toArray below meth c H locs 0 0 (Ei below (fun r w => w = (wd_Halves_dragOf k a_t d_t i_t a_p2 d_p2 i_p2 r_t_units r_t_sizes r_t_kinds r_t_starts r_p2_kinds r_p2_grades) ∧ Q r) D k A ([.ref a_t, .int n1, .ref a_p2] : List Value).toArray s 0 0) (F0 m 13 ls []) := by
  intro n
  induction n with
  | zero => intro x3 x4 x5 H locs ls hf; exact absurd hf (fun h => h)
  | succ n ih => exact bt_Halves_dragOf_13 F hr hlk hA hkx_13 ih

set_option maxRecDepth 100000 in
set_option maxHeartbeats 4000000 in
theorem c_Halves_dragOf (l : Launch) (D : va_G) (k : Nat → ClassId) (a_t : Nat) (d_t : Nat → Nat) (i_t : Nat → Int32) (a_p2 : Nat) (d_p2 : Nat → Nat) (i_p2 : Nat → Int32) (r_t_units : Nat → Int32) (r_t_sizes : Nat → Int32) (r_t_kinds : Nat → Int32) (r_t_starts : Nat → Int32) (r_p2_kinds : Nat → Int32) (r_p2_grades : Nat → Int32) (n1 : Int32) (Q : Int32 → Prop)  (hf : w_Halves_dragOf i_p2 r_t_units r_t_sizes r_t_kinds r_t_starts r_p2_kinds r_p2_grades n1 Q) : CtI l yX1_dragOf cX1_dragOf 7 (some .int) 2 43 0 0 D k [.ref a_t, .int n1, .ref a_p2] (wd_Halves_dragOf k a_t d_t i_t a_p2 d_p2 i_p2 r_t_units r_t_sizes r_t_kinds r_t_starts r_p2_kinds r_p2_grades) (fun r w => w = (wd_Halves_dragOf k a_t d_t i_t a_p2 d_p2 i_p2 r_t_units r_t_sizes r_t_kinds r_t_starts r_p2_kinds r_p2_grades) ∧ Q r) := by
  refine CtI.of (by decide) (Nat.le_of_ble_eq_true rfl) ?_
  intro p e s m below meth c A F hr hlk hnm hA hB ls hl
  have hx := F.x
  have hb := F.b
  unfold w_Halves_dragOf at hf
  replace hl : lv_has ls 7 [(0, .ref a_t), (1, .int n1), (2, .ref a_p2)] := hl
  refine lv_iconst (v := 0) hx hb dX1_dragOf_0 (by decide) ?_
  refine lv_istore_n (lv' := [(3, .int (0 : Int32)), (0, .ref a_t), (1, .int n1), (2, .ref a_p2)]) hx hb dX1_dragOf_1 rfl hl (by decide) rfl (fun ls hl => ?_)
  refine lv_aload_n hx hb dX1_dragOf_2 rfl (lv_at hl 1 rfl) ?_
  refine g_get (w := .ref (d_t 4)) F hB 0 rfl fl_RX1_21 rfl dX1_dragOf_3 ?_
  refine lv_iload_n hx hb dX1_dragOf_6 rfl (lv_at hl 2 rfl) ?_
  obtain ⟨h_1, hf⟩ := hf
  refine g_iald F hB 2 rfl h_1 dX1_dragOf_7 ?_
  refine lv_istore (lv' := [(4, .int (r_t_units (n1).toNatClampNeg)), (3, .int (0 : Int32)), (0, .ref a_t), (1, .int n1), (2, .ref a_p2)]) hx hb dX1_dragOf_8 hl (by decide) rfl (fun ls hl => ?_)
  refine lv_iconst (v := 0) hx hb dX1_dragOf_10 (by decide) ?_
  refine lv_istore (lv' := [(5, .int (0 : Int32)), (4, .int (r_t_units (n1).toNatClampNeg)), (3, .int (0 : Int32)), (0, .ref a_t), (1, .int n1), (2, .ref a_p2)]) hx hb dX1_dragOf_11 hl (by decide) rfl (fun ls hl => ?_)
  obtain ⟨n_10, hf⟩ := hf
  refine lt_Halves_dragOf_13 F hr hlk hA (fun x3_9 H locs ls hf hB hl => ?_) n_10 _ _ _ _ _ _ hf hB (lv_sub hl [3, 4, 5, 2, 1, 0] rfl)
  refine lv_iload_n hx hb dX1_dragOf_72 rfl (lv_at hl 0 rfl) ?_
  exact r_i F hr hlk hB ⟨rfl, hf⟩ dX1_dragOf_73

/-! LongTrain.Train.begin -/
set_option maxRecDepth 100000 in
set_option maxHeartbeats 4000000 in
theorem c_Train_begin (l : Launch) (D : va_G) (k : Nat → ClassId) (a_t : Nat) (d_t : Nat → Nat) (i_t : Nat → Int32) (a_p1 : Nat) (d_p1 : Nat → Nat) (i_p1 : Nat → Int32) (d_t_row : Nat → Nat) (i_t_row : Nat → Int32) (r_p1_halts : Nat → Int32) (r_p1_first : Nat → Int32) (r_t_row_kinds : Nat → Int32) (r_t_row_longs : Nat → Int32) (r_t_row_weights : Nat → Int32) (r_t_row_strengths : Nat → Int32) (r_t_row_wears : Nat → Int32) (r_t_row_pushes : Nat → Int32) (r_t_row_helpers : Nat → Int32) (r_p1_kinds : Nat → Int32) (d_t_halves : Nat → Nat) (i_t_halves : Nat → Int32)  (Q : (Nat → Int32) → (Nat → Int32) → (Nat → Int32) → (Nat → Int32) → (Nat → Int32) → (Nat → Int32) → (Nat → Int32) → (Nat → Int32) → (Nat → Int32) → (Nat → Int32) → Prop)  (hf : w_Train_begin i_t i_p1 i_t_row r_p1_halts r_p1_first r_t_row_kinds r_t_row_longs r_t_row_weights r_t_row_strengths r_t_row_wears r_t_row_pushes r_t_row_helpers r_p1_kinds i_t_halves Q) : CtV l yX10_begin cX10_begin 2 none 3 68 0 0 D k [.ref a_t, .ref a_p1] (wd_Train_begin k a_t d_t i_t a_p1 d_p1 i_p1 d_t_row i_t_row r_p1_halts r_p1_first r_t_row_kinds r_t_row_longs r_t_row_weights r_t_row_strengths r_t_row_wears r_t_row_pushes r_t_row_helpers r_p1_kinds d_t_halves i_t_halves) (fun w => ∃ (i_t : Nat → Int32), ∃ (i_t_row : Nat → Int32), ∃ (r_t_row_kinds : Nat → Int32), ∃ (r_t_row_longs : Nat → Int32), ∃ (r_t_row_weights : Nat → Int32), ∃ (r_t_row_strengths : Nat → Int32), ∃ (r_t_row_wears : Nat → Int32), ∃ (r_t_row_pushes : Nat → Int32), ∃ (r_t_row_helpers : Nat → Int32), ∃ (i_t_halves : Nat → Int32), w = (wd_Train_begin k a_t d_t i_t a_p1 d_p1 i_p1 d_t_row i_t_row r_p1_halts r_p1_first r_t_row_kinds r_t_row_longs r_t_row_weights r_t_row_strengths r_t_row_wears r_t_row_pushes r_t_row_helpers r_p1_kinds d_t_halves i_t_halves) ∧ Q i_t i_t_row r_t_row_kinds r_t_row_longs r_t_row_weights r_t_row_strengths r_t_row_wears r_t_row_pushes r_t_row_helpers i_t_halves) := by
  refine CtV.of (by decide) (Nat.le_of_ble_eq_true rfl) ?_
  intro p e s m below meth c A F hr hlk hnm hA hB ls hl
  have hx := F.x
  have hb := F.b
  unfold w_Train_begin at hf
  replace hl : lv_has ls 2 [(0, .ref a_t), (1, .ref a_p1)] := hl
  refine lv_aload_n hx hb dX10_begin_0 rfl (lv_at hl 0 rfl) ?_
  refine g_get (w := .ref (d_t 0)) F hB 0 rfl fl_RX10_12 rfl dX10_begin_1 ?_
  refine lv_aload_n hx hb dX10_begin_4 rfl (lv_at hl 1 rfl) ?_
  refine k_vv (wr := [(a_t, ob 10 (rfd d_t) i_t j0), ((d_t 1), ob 1 (rfd d_t_halves) i_t_halves j0)]) (rest := []) F hA hB (c_Row_begin l D k (d_t 0) d_t_row i_t_row a_p1 d_p1 i_p1 r_p1_halts r_p1_first r_t_row_kinds r_t_row_longs r_t_row_weights r_t_row_strengths r_t_row_wears r_t_row_pushes r_t_row_helpers r_p1_kinds _  hf) ml_RX10_25 mv_yX8_begin [2, 1, 3, 4, 5, 6, 7, 8, 9, 10, 11, 12] [0, 13] rfl rfl (by decide) (by decide) (by decide) 2 rfl rfl rfl hl.1 rfl (Nat.le_of_ble_eq_true rfl) ⟨Nat.le_of_ble_eq_true rfl, Nat.le_of_ble_eq_true rfl⟩ ⟨Nat.le_of_ble_eq_true rfl, Nat.le_of_ble_eq_true rfl⟩ dX10_begin_5 (fun w1 H locs hq hB => ?_)
  obtain ⟨i_t_row_1, r_t_row_kinds_2, r_t_row_longs_3, r_t_row_weights_4, r_t_row_strengths_5, r_t_row_wears_6, r_t_row_pushes_7, r_t_row_helpers_8, rfl, hf⟩ := hq
  replace hB : Bd D A s.heap (wd_Train_begin k a_t d_t i_t a_p1 d_p1 i_p1 d_t_row i_t_row_1 r_p1_halts r_p1_first r_t_row_kinds_2 r_t_row_longs_3 r_t_row_weights_4 r_t_row_strengths_5 r_t_row_wears_6 r_t_row_pushes_7 r_t_row_helpers_8 r_p1_kinds d_t_halves i_t_halves) H locs := hB.sub [0, 3, 2, 4, 5, 6, 7, 8, 9, 10, 11, 12, 13, 1] (by decide) rfl
  refine lv_aload_n hx hb dX10_begin_8 rfl (lv_at hl 0 rfl) ?_
  refine g_get (w := .ref (d_t 1)) F hB 0 rfl fl_RX10_21 rfl dX10_begin_9 ?_
  refine k_vv (wr := [(a_t, ob 10 (rfd d_t) i_t j0), (a_p1, ob 3 (rfd d_p1) i_p1 j0), ((d_t 0), ob 8 (rfd d_t_row) i_t_row_1 j0), ((d_p1 2), ai k 30 r_p1_halts), ((d_p1 8), ai k 8 r_p1_first), ((d_t_row 0), ai k 20 r_t_row_kinds_2), ((d_t_row 1), ai k 20 r_t_row_longs_3), ((d_t_row 2), ai k 20 r_t_row_weights_4), ((d_t_row 3), ai k 20 r_t_row_strengths_5), ((d_t_row 4), ai k 20 r_t_row_wears_6), ((d_t_row 5), ai k 20 r_t_row_pushes_7), ((d_t_row 6), ai k 20 r_t_row_helpers_8), ((d_p1 6), ai k 18 r_p1_kinds)]) (rest := []) F hA hB (c_Halves_clear l D k (d_t 1) d_t_halves i_t_halves _  hf) ml_RX10_29 mv_yX1_clear [13] [0, 1, 2, 3, 4, 5, 6, 7, 8, 9, 10, 11, 12] rfl rfl (by decide) (by decide) (by decide) 13 rfl rfl rfl hl.1 rfl (Nat.le_of_ble_eq_true rfl) ⟨Nat.le_of_ble_eq_true rfl, Nat.le_of_ble_eq_true rfl⟩ ⟨Nat.le_of_ble_eq_true rfl, Nat.le_of_ble_eq_true rfl⟩ dX10_begin_12 (fun w1 H locs hq hB => ?_)
  obtain ⟨i_t_halves_9, rfl, hf⟩ := hq
  replace hB : Bd D A s.heap (wd_Train_begin k a_t d_t i_t a_p1 d_p1 i_p1 d_t_row i_t_row_1 r_p1_halts r_p1_first r_t_row_kinds_2 r_t_row_longs_3 r_t_row_weights_4 r_t_row_strengths_5 r_t_row_wears_6 r_t_row_pushes_7 r_t_row_helpers_8 r_p1_kinds d_t_halves i_t_halves_9) H locs := hB.sub [0, 1, 2, 3, 4, 5, 6, 7, 8, 9, 10, 11, 12, 13] (by decide) rfl
  refine lv_aload_n hx hb dX10_begin_15 rfl (lv_at hl 0 rfl) ?_
  refine lv_iconst (v := 0) hx hb dX10_begin_16 (by decide) ?_
  refine g_puti F hB 0 rfl fl_RX10_32 rfl (wd_Train_begin k a_t d_t (upd i_t 2 (0 : Int32)) a_p1 d_p1 i_p1 d_t_row i_t_row_1 r_p1_halts r_p1_first r_t_row_kinds_2 r_t_row_longs_3 r_t_row_weights_4 r_t_row_strengths_5 r_t_row_wears_6 r_t_row_pushes_7 r_t_row_helpers_8 r_p1_kinds d_t_halves i_t_halves_9) rfl dX10_begin_17 (fun H locs hB => ?_)
  exact r_v F hr hlk hB ⟨_, _, _, _, _, _, _, _, _, _, rfl, hf⟩ dX10_begin_20

/-! LongTrain.Train.copyFrom -/
set_option maxRecDepth 100000 in
set_option maxHeartbeats 4000000 in
theorem c_Train_copyFrom (l : Launch) (D : va_G) (k : Nat → ClassId) (a_t : Nat) (d_t : Nat → Nat) (i_t : Nat → Int32) (a_p1 : Nat) (d_p1 : Nat → Nat) (i_p1 : Nat → Int32) (d_t_row : Nat → Nat) (i_t_row : Nat → Int32) (d_p1_row : Nat → Nat) (i_p1_row : Nat → Int32) (r_p1_row_kinds : Nat → Int32) (r_t_row_kinds : Nat → Int32) (r_p1_row_longs : Nat → Int32) (r_t_row_longs : Nat → Int32) (r_p1_row_weights : Nat → Int32) (r_t_row_weights : Nat → Int32) (r_p1_row_strengths : Nat → Int32) (r_t_row_strengths : Nat → Int32) (r_p1_row_wears : Nat → Int32) (r_t_row_wears : Nat → Int32) (r_p1_row_pushes : Nat → Int32) (r_t_row_pushes : Nat → Int32) (r_p1_row_helpers : Nat → Int32) (r_t_row_helpers : Nat → Int32) (d_t_halves : Nat → Nat) (i_t_halves : Nat → Int32) (d_p1_halves : Nat → Nat) (i_p1_halves : Nat → Int32) (r_p1_halves_kinds : Nat → Int32) (r_t_halves_kinds : Nat → Int32) (r_p1_halves_starts : Nat → Int32) (r_t_halves_starts : Nat → Int32) (r_p1_halves_sizes : Nat → Int32) (r_t_halves_sizes : Nat → Int32) (r_p1_halves_units : Nat → Int32) (r_t_halves_units : Nat → Int32)  (Q : (Nat → Int32) → (Nat → Int32) → (Nat → Int32) → (Nat → Int32) → (Nat → Int32) → (Nat → Int32) → (Nat → Int32) → (Nat → Int32) → (Nat → Int32) → (Nat → Int32) → (Nat → Int32) → (Nat → Int32) → (Nat → Int32) → (Nat → Int32) → Prop)  (hf : w_Train_copyFrom i_t i_p1 i_t_row i_p1_row r_p1_row_kinds r_t_row_kinds r_p1_row_longs r_t_row_longs r_p1_row_weights r_t_row_weights r_p1_row_strengths r_t_row_strengths r_p1_row_wears r_t_row_wears r_p1_row_pushes r_t_row_pushes r_p1_row_helpers r_t_row_helpers i_t_halves i_p1_halves r_p1_halves_kinds r_t_halves_kinds r_p1_halves_starts r_t_halves_starts r_p1_halves_sizes r_t_halves_sizes r_p1_halves_units r_t_halves_units Q) : CtV l yX10_copyFrom cX10_copyFrom 2 none 2 85 0 0 D k [.ref a_t, .ref a_p1] (wd_Train_copyFrom k a_t d_t i_t a_p1 d_p1 i_p1 d_t_row i_t_row d_p1_row i_p1_row r_p1_row_kinds r_t_row_kinds r_p1_row_longs r_t_row_longs r_p1_row_weights r_t_row_weights r_p1_row_strengths r_t_row_strengths r_p1_row_wears r_t_row_wears r_p1_row_pushes r_t_row_pushes r_p1_row_helpers r_t_row_helpers d_t_halves i_t_halves d_p1_halves i_p1_halves r_p1_halves_kinds r_t_halves_kinds r_p1_halves_starts r_t_halves_starts r_p1_halves_sizes r_t_halves_sizes r_p1_halves_units r_t_halves_units) (fun w => ∃ (i_t : Nat → Int32), ∃ (i_t_row : Nat → Int32), ∃ (r_t_row_kinds : Nat → Int32), ∃ (r_t_row_longs : Nat → Int32), ∃ (r_t_row_weights : Nat → Int32), ∃ (r_t_row_strengths : Nat → Int32), ∃ (r_t_row_wears : Nat → Int32), ∃ (r_t_row_pushes : Nat → Int32), ∃ (r_t_row_helpers : Nat → Int32), ∃ (i_t_halves : Nat → Int32), ∃ (r_t_halves_kinds : Nat → Int32), ∃ (r_t_halves_starts : Nat → Int32), ∃ (r_t_halves_sizes : Nat → Int32), ∃ (r_t_halves_units : Nat → Int32), w = (wd_Train_copyFrom k a_t d_t i_t a_p1 d_p1 i_p1 d_t_row i_t_row d_p1_row i_p1_row r_p1_row_kinds r_t_row_kinds r_p1_row_longs r_t_row_longs r_p1_row_weights r_t_row_weights r_p1_row_strengths r_t_row_strengths r_p1_row_wears r_t_row_wears r_p1_row_pushes r_t_row_pushes r_p1_row_helpers r_t_row_helpers d_t_halves i_t_halves d_p1_halves i_p1_halves r_p1_halves_kinds r_t_halves_kinds r_p1_halves_starts r_t_halves_starts r_p1_halves_sizes r_t_halves_sizes r_p1_halves_units r_t_halves_units) ∧ Q i_t i_t_row r_t_row_kinds r_t_row_longs r_t_row_weights r_t_row_strengths r_t_row_wears r_t_row_pushes r_t_row_helpers i_t_halves r_t_halves_kinds r_t_halves_starts r_t_halves_sizes r_t_halves_units) := by
  refine CtV.of (by decide) (Nat.le_of_ble_eq_true rfl) ?_
  intro p e s m below meth c A F hr hlk hnm hA hB ls hl
  have hx := F.x
  have hb := F.b
  unfold w_Train_copyFrom at hf
  replace hl : lv_has ls 2 [(0, .ref a_t), (1, .ref a_p1)] := hl
  refine lv_aload_n hx hb dX10_copyFrom_0 rfl (lv_at hl 0 rfl) ?_
  refine g_get (w := .ref (d_t 0)) F hB 0 rfl fl_RX10_12 rfl dX10_copyFrom_1 ?_
  refine lv_aload_n hx hb dX10_copyFrom_4 rfl (lv_at hl 1 rfl) ?_
  refine g_get (w := .ref (d_p1 0)) F hB 1 rfl fl_RX10_12 rfl dX10_copyFrom_5 ?_
  refine k_vv (wr := [(a_t, ob 10 (rfd d_t) i_t j0), (a_p1, ob 10 (rfd d_p1) i_p1 j0), ((d_t 1), ob 1 (rfd d_t_halves) i_t_halves j0), ((d_p1 1), ob 1 (rfd d_p1_halves) i_p1_halves j0), ((d_p1_halves 0), ai k 20 r_p1_halves_kinds), ((d_t_halves 0), ai k 20 r_t_halves_kinds), ((d_p1_halves 2), ai k 20 r_p1_halves_starts), ((d_t_halves 2), ai k 20 r_t_halves_starts), ((d_p1_halves 3), ai k 20 r_p1_halves_sizes), ((d_t_halves 3), ai k 20 r_t_halves_sizes), ((d_p1_halves 4), ai k 20 r_p1_halves_units), ((d_t_halves 4), ai k 20 r_t_halves_units)]) (rest := []) F hA hB (c_Row_copyFrom l D k (d_t 0) d_t_row i_t_row (d_p1 0) d_p1_row i_p1_row r_p1_row_kinds r_t_row_kinds r_p1_row_longs r_t_row_longs r_p1_row_weights r_t_row_weights r_p1_row_strengths r_t_row_strengths r_p1_row_wears r_t_row_wears r_p1_row_pushes r_t_row_pushes r_p1_row_helpers r_t_row_helpers _  hf) ml_RX10_36 mv_yX8_copyFrom [2, 3, 4, 5, 6, 7, 8, 9, 10, 11, 12, 13, 14, 15, 16, 17] [0, 1, 18, 19, 20, 21, 22, 23, 24, 25, 26, 27] rfl rfl (by decide) (by decide) (by decide) 2 rfl rfl rfl hl.1 rfl (Nat.le_of_ble_eq_true rfl) ⟨Nat.le_of_ble_eq_true rfl, Nat.le_of_ble_eq_true rfl⟩ ⟨Nat.le_of_ble_eq_true rfl, Nat.le_of_ble_eq_true rfl⟩ dX10_copyFrom_8 (fun w1 H locs hq hB => ?_)
  obtain ⟨i_t_row_1, r_t_row_kinds_2, r_t_row_longs_3, r_t_row_weights_4, r_t_row_strengths_5, r_t_row_wears_6, r_t_row_pushes_7, r_t_row_helpers_8, rfl, hf⟩ := hq
  replace hB : Bd D A s.heap (wd_Train_copyFrom k a_t d_t i_t a_p1 d_p1 i_p1 d_t_row i_t_row_1 d_p1_row i_p1_row r_p1_row_kinds r_t_row_kinds_2 r_p1_row_longs r_t_row_longs_3 r_p1_row_weights r_t_row_weights_4 r_p1_row_strengths r_t_row_strengths_5 r_p1_row_wears r_t_row_wears_6 r_p1_row_pushes r_t_row_pushes_7 r_p1_row_helpers r_t_row_helpers_8 d_t_halves i_t_halves d_p1_halves i_p1_halves r_p1_halves_kinds r_t_halves_kinds r_p1_halves_starts r_t_halves_starts r_p1_halves_sizes r_t_halves_sizes r_p1_halves_units r_t_halves_units) H locs := hB.sub [0, 1, 12, 13, 14, 15, 16, 17, 18, 19, 20, 21, 22, 23, 24, 25, 26, 27, 2, 3, 4, 5, 6, 7, 8, 9, 10, 11] (by decide) rfl
  refine lv_aload_n hx hb dX10_copyFrom_11 rfl (lv_at hl 0 rfl) ?_
  refine g_get (w := .ref (d_t 1)) F hB 0 rfl fl_RX10_21 rfl dX10_copyFrom_12 ?_
  refine lv_aload_n hx hb dX10_copyFrom_15 rfl (lv_at hl 1 rfl) ?_
  refine g_get (w := .ref (d_p1 1)) F hB 1 rfl fl_RX10_21 rfl dX10_copyFrom_16 ?_
  refine k_vv (wr := [(a_t, ob 10 (rfd d_t) i_t j0), (a_p1, ob 10 (rfd d_p1) i_p1 j0), ((d_t 0), ob 8 (rfd d_t_row) i_t_row_1 j0), ((d_p1 0), ob 8 (rfd d_p1_row) i_p1_row j0), ((d_p1_row 0), ai k 20 r_p1_row_kinds), ((d_t_row 0), ai k 20 r_t_row_kinds_2), ((d_p1_row 1), ai k 20 r_p1_row_longs), ((d_t_row 1), ai k 20 r_t_row_longs_3), ((d_p1_row 2), ai k 20 r_p1_row_weights), ((d_t_row 2), ai k 20 r_t_row_weights_4), ((d_p1_row 3), ai k 20 r_p1_row_strengths), ((d_t_row 3), ai k 20 r_t_row_strengths_5), ((d_p1_row 4), ai k 20 r_p1_row_wears), ((d_t_row 4), ai k 20 r_t_row_wears_6), ((d_p1_row 5), ai k 20 r_p1_row_pushes), ((d_t_row 5), ai k 20 r_t_row_pushes_7), ((d_p1_row 6), ai k 20 r_p1_row_helpers), ((d_t_row 6), ai k 20 r_t_row_helpers_8)]) (rest := []) F hA hB (c_Halves_copyFrom l D k (d_t 1) d_t_halves i_t_halves (d_p1 1) d_p1_halves i_p1_halves r_p1_halves_kinds r_t_halves_kinds r_p1_halves_starts r_t_halves_starts r_p1_halves_sizes r_t_halves_sizes r_p1_halves_units r_t_halves_units _  hf) ml_RX10_40 mv_yX1_copyFrom [18, 19, 20, 21, 22, 23, 24, 25, 26, 27] [0, 1, 2, 3, 4, 5, 6, 7, 8, 9, 10, 11, 12, 13, 14, 15, 16, 17] rfl rfl (by decide) (by decide) (by decide) 18 rfl rfl rfl hl.1 rfl (Nat.le_of_ble_eq_true rfl) ⟨Nat.le_of_ble_eq_true rfl, Nat.le_of_ble_eq_true rfl⟩ ⟨Nat.le_of_ble_eq_true rfl, Nat.le_of_ble_eq_true rfl⟩ dX10_copyFrom_19 (fun w1 H locs hq hB => ?_)
  obtain ⟨i_t_halves_9, r_t_halves_kinds_10, r_t_halves_starts_11, r_t_halves_sizes_12, r_t_halves_units_13, rfl, hf⟩ := hq
  replace hB : Bd D A s.heap (wd_Train_copyFrom k a_t d_t i_t a_p1 d_p1 i_p1 d_t_row i_t_row_1 d_p1_row i_p1_row r_p1_row_kinds r_t_row_kinds_2 r_p1_row_longs r_t_row_longs_3 r_p1_row_weights r_t_row_weights_4 r_p1_row_strengths r_t_row_strengths_5 r_p1_row_wears r_t_row_wears_6 r_p1_row_pushes r_t_row_pushes_7 r_p1_row_helpers r_t_row_helpers_8 d_t_halves i_t_halves_9 d_p1_halves i_p1_halves r_p1_halves_kinds r_t_halves_kinds_10 r_p1_halves_starts r_t_halves_starts_11 r_p1_halves_sizes r_t_halves_sizes_12 r_p1_halves_units r_t_halves_units_13) H locs := hB.sub [0, 1, 2, 3, 4, 5, 6, 7, 8, 9, 10, 11, 12, 13, 14, 15, 16, 17, 18, 19, 20, 21, 22, 23, 24, 25, 26, 27] (by decide) rfl
  refine lv_aload_n hx hb dX10_copyFrom_22 rfl (lv_at hl 0 rfl) ?_
  refine lv_aload_n hx hb dX10_copyFrom_23 rfl (lv_at hl 1 rfl) ?_
  refine g_get (w := .int (i_p1 2)) F hB 1 rfl fl_RX10_32 rfl dX10_copyFrom_24 ?_
  refine g_puti F hB 0 rfl fl_RX10_32 rfl (wd_Train_copyFrom k a_t d_t (upd i_t 2 (i_p1 2)) a_p1 d_p1 i_p1 d_t_row i_t_row_1 d_p1_row i_p1_row r_p1_row_kinds r_t_row_kinds_2 r_p1_row_longs r_t_row_longs_3 r_p1_row_weights r_t_row_weights_4 r_p1_row_strengths r_t_row_strengths_5 r_p1_row_wears r_t_row_wears_6 r_p1_row_pushes r_t_row_pushes_7 r_p1_row_helpers r_t_row_helpers_8 d_t_halves i_t_halves_9 d_p1_halves i_p1_halves r_p1_halves_kinds r_t_halves_kinds_10 r_p1_halves_starts r_t_halves_starts_11 r_p1_halves_sizes r_t_halves_sizes_12 r_p1_halves_units r_t_halves_units_13) rfl dX10_copyFrom_27 (fun H locs hB => ?_)
  exact r_v F hr hlk hB ⟨_, _, _, _, _, _, _, _, _, _, _, _, _, _, rfl, hf⟩ dX10_copyFrom_30

/-! LongTrain.Train.part -/
set_option maxRecDepth 100000 in
set_option maxHeartbeats 4000000 in
theorem c_Train_part (l : Launch) (D : va_G) (k : Nat → ClassId) (a_t : Nat) (d_t : Nat → Nat) (i_t : Nat → Int32) (d_t_halves : Nat → Nat) (i_t_halves : Nat → Int32) (d_t_row : Nat → Nat) (i_t_row : Nat → Int32) (r_t_halves_starts : Nat → Int32) (r_t_halves_sizes : Nat → Int32) (r_t_halves_units : Nat → Int32) (r_t_row_longs : Nat → Int32) (r_t_halves_kinds : Nat → Int32) (r_t_row_kinds : Nat → Int32) (n1 : Int32) (Q : (Nat → Int32) → (Nat → Int32) → (Nat → Int32) → (Nat → Int32) → (Nat → Int32) → (Nat → Int32) → Prop)  (hf : w_Train_part i_t_halves i_t_row r_t_halves_starts r_t_halves_sizes r_t_halves_units r_t_row_longs r_t_halves_kinds r_t_row_kinds n1 Q) : CtV l yX10_part cX10_part 2 none 2 54 0 0 D k [.ref a_t, .int n1] (wd_Train_part k a_t d_t i_t d_t_halves i_t_halves d_t_row i_t_row r_t_halves_starts r_t_halves_sizes r_t_halves_units r_t_row_longs r_t_halves_kinds r_t_row_kinds) (fun w => ∃ (i_t_halves : Nat → Int32), ∃ (i_t_row : Nat → Int32), ∃ (r_t_halves_starts : Nat → Int32), ∃ (r_t_halves_sizes : Nat → Int32), ∃ (r_t_halves_units : Nat → Int32), ∃ (r_t_halves_kinds : Nat → Int32), w = (wd_Train_part k a_t d_t i_t d_t_halves i_t_halves d_t_row i_t_row r_t_halves_starts r_t_halves_sizes r_t_halves_units r_t_row_longs r_t_halves_kinds r_t_row_kinds) ∧ Q i_t_halves i_t_row r_t_halves_starts r_t_halves_sizes r_t_halves_units r_t_halves_kinds) := by
  refine CtV.of (by decide) (Nat.le_of_ble_eq_true rfl) ?_
  intro p e s m below meth c A F hr hlk hnm hA hB ls hl
  have hx := F.x
  have hb := F.b
  unfold w_Train_part at hf
  replace hl : lv_has ls 2 [(0, .ref a_t), (1, .int n1)] := hl
  refine lv_aload_n hx hb dX10_part_0 rfl (lv_at hl 0 rfl) ?_
  refine g_get (w := .ref (d_t 1)) F hB 0 rfl fl_RX10_21 rfl dX10_part_1 ?_
  refine lv_aload_n hx hb dX10_part_4 rfl (lv_at hl 0 rfl) ?_
  refine g_get (w := .ref (d_t 0)) F hB 0 rfl fl_RX10_12 rfl dX10_part_5 ?_
  refine lv_iload_n hx hb dX10_part_8 rfl (lv_at hl 1 rfl) ?_
  refine k_vv (wr := [(a_t, ob 10 (rfd d_t) i_t j0)]) (rest := []) F hA hB (c_Halves_add l D k (d_t 1) d_t_halves i_t_halves (d_t 0) d_t_row i_t_row r_t_halves_starts r_t_halves_sizes r_t_halves_units r_t_row_longs r_t_halves_kinds r_t_row_kinds n1 _  hf) ml_RX10_81 mv_yX1_add [1, 2, 3, 4, 5, 6, 7, 8] [0] rfl rfl (by decide) (by decide) (by decide) 1 rfl rfl rfl hl.1 rfl (Nat.le_of_ble_eq_true rfl) ⟨Nat.le_of_ble_eq_true rfl, Nat.le_of_ble_eq_true rfl⟩ ⟨Nat.le_of_ble_eq_true rfl, Nat.le_of_ble_eq_true rfl⟩ dX10_part_9 (fun w1 H locs hq hB => ?_)
  obtain ⟨i_t_halves_1, r_t_halves_starts_2, r_t_halves_sizes_3, r_t_halves_units_4, r_t_halves_kinds_5, rfl, hf⟩ := hq
  replace hB : Bd D A s.heap (wd_Train_part k a_t d_t i_t d_t_halves i_t_halves_1 d_t_row i_t_row r_t_halves_starts_2 r_t_halves_sizes_3 r_t_halves_units_4 r_t_row_longs r_t_halves_kinds_5 r_t_row_kinds) H locs := hB.sub [0, 1, 2, 3, 4, 5, 6, 7, 8] (by decide) rfl
  refine lv_aload_n hx hb dX10_part_12 rfl (lv_at hl 0 rfl) ?_
  refine g_get (w := .ref (d_t 0)) F hB 0 rfl fl_RX10_12 rfl dX10_part_13 ?_
  refine lv_iload_n hx hb dX10_part_16 rfl (lv_at hl 1 rfl) ?_
  refine k_vv (wr := [(a_t, ob 10 (rfd d_t) i_t j0), ((d_t 1), ob 1 (rfd d_t_halves) i_t_halves_1 j0), ((d_t_halves 2), ai k 20 r_t_halves_starts_2), ((d_t_halves 3), ai k 20 r_t_halves_sizes_3), ((d_t_halves 4), ai k 20 r_t_halves_units_4), ((d_t_halves 0), ai k 20 r_t_halves_kinds_5), ((d_t_row 0), ai k 20 r_t_row_kinds)]) (rest := []) F hA hB (c_Row_dropFrom l D k (d_t 0) d_t_row i_t_row r_t_row_longs n1 _  hf) ml_RX10_85 mv_yX8_dropFrom [2, 6] [0, 1, 3, 4, 5, 7, 8] rfl rfl (by decide) (by decide) (by decide) 2 rfl rfl rfl hl.1 rfl (Nat.le_of_ble_eq_true rfl) ⟨Nat.le_of_ble_eq_true rfl, Nat.le_of_ble_eq_true rfl⟩ ⟨Nat.le_of_ble_eq_true rfl, Nat.le_of_ble_eq_true rfl⟩ dX10_part_17 (fun w1 H locs hq hB => ?_)
  obtain ⟨i_t_row_6, rfl, hf⟩ := hq
  replace hB : Bd D A s.heap (wd_Train_part k a_t d_t i_t d_t_halves i_t_halves_1 d_t_row i_t_row_6 r_t_halves_starts_2 r_t_halves_sizes_3 r_t_halves_units_4 r_t_row_longs r_t_halves_kinds_5 r_t_row_kinds) H locs := hB.sub [0, 1, 7, 2, 3, 4, 8, 5, 6] (by decide) rfl
  exact r_v F hr hlk hB ⟨_, _, _, _, _, _, rfl, hf⟩ dX10_part_20

/-! LongTrain.Train.move -/
set_option maxRecDepth 100000 in
set_option maxHeartbeats 4000000 in
theorem jt_Train_move_61 {p : Program} {l : Launch} {e : Env} {s : State} {m : MethodId} {below : List Frame} {meth : Method} {c : Code} {A : Nat → Prop} {D : va_G} {k : Nat → ClassId} {a_t : Nat} {d_t : Nat → Nat} {a_p1 : Nat} {d_p1 : Nat → Nat} {i_p1 : Nat → Int32} {d_t_row : Nat → Nat} {r_p1_grades : Nat → Int32} {d_t_halves : Nat → Nat} {r_p1_halts : Nat → Int32} {r_p1_kinds : Nat → Int32} {n2 : Int32} {Q : Int32 → (Nat → Int32) → (Nat → Int32) → (Nat → Int32) → (Nat → Int32) → (Nat → Int32) → (Nat → Int32) → (Nat → Int32) → (Nat → Int32) → (Nat → Int32) → (Nat → Int32) → (Nat → Int32) → (Nat → Int32) → (Nat → Int32) → (Nat → Int32) → (Nat → Int32) → Prop}  (F : Fx p m c cX10_move 5 s ([.ref a_t, .ref a_p1, .int n2] : List Value).toArray RX10 D k) (hr : meth.sig.returnType = (some .int)) (hlk : meth.locks = false) (hA : ∀ q : Nat, s.heap.size ≤ q → A q) :
    ∀ (i_t : Nat → Int32) (i_t_row : Nat → Int32) (r_t_row_longs : Nat → Int32) (r_t_row_weights : Nat → Int32) (r_t_row_pushes : Nat → Int32) (r_t_row_bears : Nat → Int32) (r_t_row_strengths : Nat → Int32) (r_t_row_wears : Nat → Int32) (i_t_halves : Nat → Int32) (r_t_halves_starts : Nat → Int32) (r_t_halves_sizes : Nat → Int32) (r_t_halves_units : Nat → Int32) (r_t_halves_kinds : Nat → Int32) (r_t_row_kinds : Nat → Int32) (r_t_row_helpers : Nat → Int32) (y0 : Int32) (y1 : Int32) (H : Heap) (locs : List Loc) (ls : Array Slot), j_Train_move_61 i_t i_p1 i_t_row r_t_row_longs r_t_row_weights r_t_row_pushes r_t_row_bears r_t_row_strengths r_t_row_wears i_t_halves r_t_halves_starts r_t_halves_sizes r_t_halves_units r_t_halves_kinds r_t_row_kinds r_p1_halts r_t_row_helpers r_p1_kinds y0 y1 Q → Bd D A s.heap (wd_Train_move k a_t d_t i_t a_p1 d_p1 i_p1 d_t_row i_t_row r_t_row_longs r_p1_grades r_t_row_weights r_t_row_pushes r_t_row_bears r_t_row_strengths r_t_row_wears d_t_halves i_t_halves r_t_halves_starts r_t_halves_sizes r_t_halves_units r_t_halves_kinds r_t_row_kinds r_p1_halts r_t_row_helpers r_p1_kinds) H locs → lv_has ls 5 [(0, .ref a_t), (1, .ref a_p1)] → W p l e { frames := 3, cells := 0, slots := 0, locals := 75 } s m ([.ref a_t, .ref a_p1, .int n2] : List Value).toArray below meth c H locs 0 0 (Ei below (fun r w => ∃ (i_t : Nat → Int32), ∃ (i_t_row : Nat → Int32), ∃ (r_t_row_longs : Nat → Int32), ∃ (r_t_row_weights : Nat → Int32), ∃ (r_t_row_pushes : Nat → Int32), ∃ (r_t_row_bears : Nat → Int32), ∃ (r_t_row_strengths : Nat → Int32), ∃ (r_t_row_wears : Nat → Int32), ∃ (i_t_halves : Nat → Int32), ∃ (r_t_halves_starts : Nat → Int32), ∃ (r_t_halves_sizes : Nat → Int32), ∃ (r_t_halves_units : Nat → Int32), ∃ (r_t_halves_kinds : Nat → Int32), ∃ (r_t_row_kinds : Nat → Int32), ∃ (r_t_row_helpers : Nat → Int32), w = (wd_Train_move k a_t d_t i_t a_p1 d_p1 i_p1 d_t_row i_t_row r_t_row_longs r_p1_grades r_t_row_weights r_t_row_pushes r_t_row_bears r_t_row_strengths r_t_row_wears d_t_halves i_t_halves r_t_halves_starts r_t_halves_sizes r_t_halves_units r_t_halves_kinds r_t_row_kinds r_p1_halts r_t_row_helpers r_p1_kinds) ∧ Q r i_t i_t_row r_t_row_longs r_t_row_weights r_t_row_pushes r_t_row_bears r_t_row_strengths r_t_row_wears i_t_halves r_t_halves_starts r_t_halves_sizes r_t_halves_units r_t_halves_kinds r_t_row_kinds r_t_row_helpers) D k A ([.ref a_t, .ref a_p1, .int n2] : List Value).toArray s 0 0) (F0 m 61 ls [.int y0, .int y1]) := by
  have hx := F.x
  have hb := F.b
  intro i_t i_t_row r_t_row_longs r_t_row_weights r_t_row_pushes r_t_row_bears r_t_row_strengths r_t_row_wears i_t_halves r_t_halves_starts r_t_halves_sizes r_t_halves_units r_t_halves_kinds r_t_row_kinds r_t_row_helpers y0 y1 H locs ls hf hB hl
  unfold j_Train_move_61 at hf
  refine lv_iadd hx hb dX10_move_61 ?_
  refine lv_istore_n (lv' := [(3, .int (y1 + y0)), (0, .ref a_t), (1, .ref a_p1)]) hx hb dX10_move_62 rfl hl (by decide) rfl (fun ls hl => ?_)
  refine lv_iload_n hx hb dX10_move_63 rfl (lv_at hl 0 rfl) ?_
  refine lv_if_ge (tgt := 82) hx hb dX10_move_64 (by decide) (fun c_29 => ?_) (fun c_29 => ?_)
  · replace hf := hf.1 c_29
    refine lv_aload_n hx hb dX10_move_82 rfl (lv_at hl 1 rfl) ?_
    refine lv_iload_n hx hb dX10_move_83 rfl (lv_at hl 0 rfl) ?_
    refine g_puti F hB 0 rfl fl_RX10_32 rfl (wd_Train_move k a_t d_t (upd i_t 2 (y1 + y0)) a_p1 d_p1 i_p1 d_t_row i_t_row r_t_row_longs r_p1_grades r_t_row_weights r_t_row_pushes r_t_row_bears r_t_row_strengths r_t_row_wears d_t_halves i_t_halves r_t_halves_starts r_t_halves_sizes r_t_halves_units r_t_halves_kinds r_t_row_kinds r_p1_halts r_t_row_helpers r_p1_kinds) rfl dX10_move_84 (fun H locs hB => ?_)
    refine lv_aload_n hx hb dX10_move_87 rfl (lv_at hl 1 rfl) ?_
    refine g_get (w := .ref (d_t 0)) F hB 0 rfl fl_RX10_12 rfl dX10_move_88 ?_
    refine lv_aload_n hx hb dX10_move_91 rfl (lv_at hl 2 rfl) ?_
    refine g_get (w := .int (i_p1 14)) F hB 1 rfl fl_RX10_61 rfl dX10_move_92 ?_
    refine k_vi (wr := [(a_t, ob 10 (rfd d_t) (upd i_t 2 (y1 + y0)) j0), (a_p1, ob 3 (rfd d_p1) i_p1 j0), ((d_t_row 1), ai k 20 r_t_row_longs), ((d_p1 0), ai k 400 r_p1_grades), ((d_t_row 2), ai k 20 r_t_row_weights), ((d_t_row 5), ai k 20 r_t_row_pushes), ((d_t 1), ob 1 (rfd d_t_halves) i_t_halves j0), ((d_t_halves 2), ai k 20 r_t_halves_starts), ((d_t_halves 3), ai k 20 r_t_halves_sizes), ((d_t_halves 4), ai k 20 r_t_halves_units), ((d_t_halves 0), ai k 20 r_t_halves_kinds), ((d_t_row 0), ai k 20 r_t_row_kinds), ((d_p1 2), ai k 30 r_p1_halts), ((d_t_row 6), ai k 20 r_t_row_helpers), ((d_p1 6), ai k 18 r_p1_kinds)]) (rest := []) F hA hB (c_Row_partingPlace l D k (d_t 0) d_t_row i_t_row r_t_row_bears r_t_row_strengths r_t_row_wears (i_p1 14) _  hf) ml_RX10_64 mv_yX8_partingPlace [2, 7, 8, 9] [0, 1, 3, 4, 5, 6, 10, 11, 12, 13, 14, 15, 16, 17, 18] rfl rfl (by decide) (by decide) (by decide) 2 rfl rfl rfl hl.1 rfl (Nat.le_of_ble_eq_true rfl) ⟨Nat.le_of_ble_eq_true rfl, Nat.le_of_ble_eq_true rfl⟩ ⟨Nat.le_of_ble_eq_true rfl, Nat.le_of_ble_eq_true rfl⟩ dX10_move_95 (fun z_3 w1 H locs hq hB => ?_)
    obtain ⟨rfl, hf⟩ := hq
    replace hB : Bd D A s.heap (wd_Train_move k a_t d_t (upd i_t 2 (y1 + y0)) a_p1 d_p1 i_p1 d_t_row i_t_row r_t_row_longs r_p1_grades r_t_row_weights r_t_row_pushes r_t_row_bears r_t_row_strengths r_t_row_wears d_t_halves i_t_halves r_t_halves_starts r_t_halves_sizes r_t_halves_units r_t_halves_kinds r_t_row_kinds r_p1_halts r_t_row_helpers r_p1_kinds) H locs := hB.sub [0, 1, 15, 2, 3, 4, 5, 16, 17, 18, 6, 7, 8, 9, 10, 11, 12, 13, 14] (by decide) rfl
    refine lv_istore (lv' := [(4, .int z_3), (3, .int (y1 + y0)), (0, .ref a_t), (1, .ref a_p1)]) hx hb dX10_move_98 hl (by decide) rfl (fun ls hl => ?_)
    refine lv_iload hx hb dX10_move_100 (lv_at hl 0 rfl) ?_
    refine lv_iconst (v := -1) hx hb dX10_move_102 (by decide) ?_
    refine lv_icmp_ne (tgt := 123) hx hb dX10_move_103 (by decide) (fun c_28 => ?_) (fun c_28 => ?_)
    · replace hf := hf.1 c_28
      refine lv_aload_n hx hb dX10_move_123 rfl (lv_at hl 2 rfl) ?_
      refine g_get (w := .ref (d_t 0)) F hB 0 rfl fl_RX10_12 rfl dX10_move_124 ?_
      refine lv_iload hx hb dX10_move_127 (lv_at hl 0 rfl) ?_
      refine k_vv (wr := [(a_t, ob 10 (rfd d_t) (upd i_t 2 (y1 + y0)) j0), (a_p1, ob 3 (rfd d_p1) i_p1 j0), ((d_t_row 1), ai k 20 r_t_row_longs), ((d_p1 0), ai k 400 r_p1_grades), ((d_t_row 2), ai k 20 r_t_row_weights), ((d_t_row 5), ai k 20 r_t_row_pushes), ((d_t_row 3), ai k 20 r_t_row_strengths), ((d_t 1), ob 1 (rfd d_t_halves) i_t_halves j0), ((d_t_halves 2), ai k 20 r_t_halves_starts), ((d_t_halves 3), ai k 20 r_t_halves_sizes), ((d_t_halves 4), ai k 20 r_t_halves_units), ((d_t_halves 0), ai k 20 r_t_halves_kinds), ((d_t_row 0), ai k 20 r_t_row_kinds), ((d_p1 2), ai k 30 r_p1_halts), ((d_t_row 6), ai k 20 r_t_row_helpers), ((d_p1 6), ai k 18 r_p1_kinds)]) (rest := []) F hA hB (c_Row_addWear l D k (d_t 0) d_t_row i_t_row r_t_row_bears r_t_row_wears z_3 _  hf) ml_RX10_71 mv_yX8_addWear [2, 7, 9] [0, 1, 3, 4, 5, 6, 8, 10, 11, 12, 13, 14, 15, 16, 17, 18] rfl rfl (by decide) (by decide) (by decide) 2 rfl rfl rfl hl.1 rfl (Nat.le_of_ble_eq_true rfl) ⟨Nat.le_of_ble_eq_true rfl, Nat.le_of_ble_eq_true rfl⟩ ⟨Nat.le_of_ble_eq_true rfl, Nat.le_of_ble_eq_true rfl⟩ dX10_move_129 (fun w1 H locs hq hB => ?_)
      obtain ⟨r_t_row_wears_4, rfl, hf⟩ := hq
      replace hB : Bd D A s.heap (wd_Train_move k a_t d_t (upd i_t 2 (y1 + y0)) a_p1 d_p1 i_p1 d_t_row i_t_row r_t_row_longs r_p1_grades r_t_row_weights r_t_row_pushes r_t_row_bears r_t_row_strengths r_t_row_wears_4 d_t_halves i_t_halves r_t_halves_starts r_t_halves_sizes r_t_halves_units r_t_halves_kinds r_t_row_kinds r_p1_halts r_t_row_helpers r_p1_kinds) H locs := hB.sub [0, 1, 16, 2, 3, 4, 5, 17, 6, 18, 7, 8, 9, 10, 11, 12, 13, 14, 15] (by decide) rfl
      refine lv_aload_n hx hb dX10_move_132 rfl (lv_at hl 2 rfl) ?_
      refine lv_iload hx hb dX10_move_133 (lv_at hl 0 rfl) ?_
      refine k_vv (wr := [(a_p1, ob 3 (rfd d_p1) i_p1 j0), ((d_p1 0), ai k 400 r_p1_grades), ((d_t_row 2), ai k 20 r_t_row_weights), ((d_t_row 5), ai k 20 r_t_row_pushes), ((d_t_row 7), ai k 20 r_t_row_bears), ((d_t_row 3), ai k 20 r_t_row_strengths), ((d_t_row 4), ai k 20 r_t_row_wears_4), ((d_p1 2), ai k 30 r_p1_halts), ((d_t_row 6), ai k 20 r_t_row_helpers), ((d_p1 6), ai k 18 r_p1_kinds)]) (rest := []) F hA hB (c_Train_part l D k a_t d_t (upd i_t 2 (y1 + y0)) d_t_halves i_t_halves d_t_row i_t_row r_t_halves_starts r_t_halves_sizes r_t_halves_units r_t_row_longs r_t_halves_kinds r_t_row_kinds z_3 _  hf) ml_RX10_75 mv_yX10_part [0, 10, 2, 11, 12, 13, 3, 14, 15] [1, 4, 5, 6, 7, 8, 9, 16, 17, 18] rfl rfl (by decide) (by decide) (by decide) 0 rfl rfl rfl hl.1 rfl (Nat.le_of_ble_eq_true rfl) ⟨Nat.le_of_ble_eq_true rfl, Nat.le_of_ble_eq_true rfl⟩ ⟨Nat.le_of_ble_eq_true rfl, Nat.le_of_ble_eq_true rfl⟩ dX10_move_135 (fun w1 H locs hq hB => ?_)
      obtain ⟨i_t_halves_5, i_t_row_6, r_t_halves_starts_7, r_t_halves_sizes_8, r_t_halves_units_9, r_t_halves_kinds_10, rfl, hf⟩ := hq
      replace hB : Bd D A s.heap (wd_Train_move k a_t d_t (upd i_t 2 (y1 + y0)) a_p1 d_p1 i_p1 d_t_row i_t_row_6 r_t_row_longs r_p1_grades r_t_row_weights r_t_row_pushes r_t_row_bears r_t_row_strengths r_t_row_wears_4 d_t_halves i_t_halves_5 r_t_halves_starts_7 r_t_halves_sizes_8 r_t_halves_units_9 r_t_halves_kinds_10 r_t_row_kinds r_p1_halts r_t_row_helpers r_p1_kinds) H locs := hB.sub [10, 0, 12, 16, 1, 2, 3, 4, 5, 6, 11, 13, 14, 15, 17, 18, 7, 8, 9] (by decide) rfl
      refine lv_aload_n hx hb dX10_move_138 rfl (lv_at hl 2 rfl) ?_
      refine g_get (w := .ref (d_t 0)) F hB 0 rfl fl_RX10_12 rfl dX10_move_139 ?_
      refine lv_aload_n hx hb dX10_move_142 rfl (lv_at hl 3 rfl) ?_
      refine k_vv (wr := [(a_t, ob 10 (rfd d_t) (upd i_t 2 (y1 + y0)) j0), ((d_p1 0), ai k 400 r_p1_grades), ((d_t_row 7), ai k 20 r_t_row_bears), ((d_t 1), ob 1 (rfd d_t_halves) i_t_halves_5 j0), ((d_t_halves 2), ai k 20 r_t_halves_starts_7), ((d_t_halves 3), ai k 20 r_t_halves_sizes_8), ((d_t_halves 4), ai k 20 r_t_halves_units_9), ((d_t_halves 0), ai k 20 r_t_halves_kinds_10)]) (rest := []) F hA hB (c_Row_takeOn l D k (d_t 0) d_t_row i_t_row_6 a_p1 d_p1 i_p1 r_p1_halts r_t_row_kinds r_t_row_longs r_t_row_weights r_t_row_strengths r_t_row_wears_4 r_t_row_pushes r_t_row_helpers r_p1_kinds _  hf) ml_RX10_78 mv_yX8_takeOn [2, 1, 16, 15, 3, 5, 8, 9, 6, 17, 18] [0, 4, 7, 10, 11, 12, 13, 14] rfl rfl (by decide) (by decide) (by decide) 2 rfl rfl rfl hl.1 rfl (Nat.le_of_ble_eq_true rfl) ⟨Nat.le_of_ble_eq_true rfl, Nat.le_of_ble_eq_true rfl⟩ ⟨Nat.le_of_ble_eq_true rfl, Nat.le_of_ble_eq_true rfl⟩ dX10_move_143 (fun w1 H locs hq hB => ?_)
      obtain ⟨i_t_row_11, r_t_row_kinds_12, r_t_row_longs_13, r_t_row_weights_14, r_t_row_strengths_15, r_t_row_wears_16, r_t_row_pushes_17, r_t_row_helpers_18, rfl, hf⟩ := hq
      replace hB : Bd D A s.heap (wd_Train_move k a_t d_t (upd i_t 2 (y1 + y0)) a_p1 d_p1 i_p1 d_t_row i_t_row_11 r_t_row_longs_13 r_p1_grades r_t_row_weights_14 r_t_row_pushes_17 r_t_row_bears r_t_row_strengths_15 r_t_row_wears_16 d_t_halves i_t_halves_5 r_t_halves_starts_7 r_t_halves_sizes_8 r_t_halves_units_9 r_t_halves_kinds_10 r_t_row_kinds_12 r_p1_halts r_t_row_helpers_18 r_p1_kinds) H locs := hB.sub [0, 9, 8, 12, 1, 13, 16, 2, 14, 15, 3, 4, 5, 6, 7, 11, 10, 17, 18] (by decide) rfl
      refine lv_iconst (v := 0) hx hb dX10_move_146 (by decide) ?_
      exact r_i F hr hlk hB ⟨_, _, _, _, _, _, _, _, _, _, _, _, _, _, _, rfl, hf⟩ dX10_move_147
    · replace hf := hf.2 c_28
      refine lv_aload_n hx hb dX10_move_106 rfl (lv_at hl 2 rfl) ?_
      refine g_get (w := .ref (d_t 0)) F hB 0 rfl fl_RX10_12 rfl dX10_move_107 ?_
      refine lv_aload_n hx hb dX10_move_110 rfl (lv_at hl 2 rfl) ?_
      refine g_get (w := .ref (d_t 0)) F hB 0 rfl fl_RX10_12 rfl dX10_move_111 ?_
      refine g_get (w := .int (i_t_row 8)) F hB 2 rfl fl_RX10_68 rfl dX10_move_114 ?_
      refine k_vv (wr := [(a_t, ob 10 (rfd d_t) (upd i_t 2 (y1 + y0)) j0), (a_p1, ob 3 (rfd d_p1) i_p1 j0), ((d_t_row 1), ai k 20 r_t_row_longs), ((d_p1 0), ai k 400 r_p1_grades), ((d_t_row 2), ai k 20 r_t_row_weights), ((d_t_row 5), ai k 20 r_t_row_pushes), ((d_t_row 3), ai k 20 r_t_row_strengths), ((d_t 1), ob 1 (rfd d_t_halves) i_t_halves j0), ((d_t_halves 2), ai k 20 r_t_halves_starts), ((d_t_halves 3), ai k 20 r_t_halves_sizes), ((d_t_halves 4), ai k 20 r_t_halves_units), ((d_t_halves 0), ai k 20 r_t_halves_kinds), ((d_t_row 0), ai k 20 r_t_row_kinds), ((d_p1 2), ai k 30 r_p1_halts), ((d_t_row 6), ai k 20 r_t_row_helpers), ((d_p1 6), ai k 18 r_p1_kinds)]) (rest := []) F hA hB (c_Row_addWear l D k (d_t 0) d_t_row i_t_row r_t_row_bears r_t_row_wears (i_t_row 8) _  hf) ml_RX10_71 mv_yX8_addWear [2, 7, 9] [0, 1, 3, 4, 5, 6, 8, 10, 11, 12, 13, 14, 15, 16, 17, 18] rfl rfl (by decide) (by decide) (by decide) 2 rfl rfl rfl hl.1 rfl (Nat.le_of_ble_eq_true rfl) ⟨Nat.le_of_ble_eq_true rfl, Nat.le_of_ble_eq_true rfl⟩ ⟨Nat.le_of_ble_eq_true rfl, Nat.le_of_ble_eq_true rfl⟩ dX10_move_117 (fun w1 H locs hq hB => ?_)
      obtain ⟨r_t_row_wears_19, rfl, hf⟩ := hq
      replace hB : Bd D A s.heap (wd_Train_move k a_t d_t (upd i_t 2 (y1 + y0)) a_p1 d_p1 i_p1 d_t_row i_t_row r_t_row_longs r_p1_grades r_t_row_weights r_t_row_pushes r_t_row_bears r_t_row_strengths r_t_row_wears_19 d_t_halves i_t_halves r_t_halves_starts r_t_halves_sizes r_t_halves_units r_t_halves_kinds r_t_row_kinds r_p1_halts r_t_row_helpers r_p1_kinds) H locs := hB.sub [0, 1, 16, 2, 3, 4, 5, 17, 6, 18, 7, 8, 9, 10, 11, 12, 13, 14, 15] (by decide) rfl
      refine lv_goto (tgt := 138) hx hb dX10_move_120 (by decide) ?_
      refine lv_aload_n hx hb dX10_move_138 rfl (lv_at hl 2 rfl) ?_
      refine g_get (w := .ref (d_t 0)) F hB 0 rfl fl_RX10_12 rfl dX10_move_139 ?_
      refine lv_aload_n hx hb dX10_move_142 rfl (lv_at hl 3 rfl) ?_
      refine k_vv (wr := [(a_t, ob 10 (rfd d_t) (upd i_t 2 (y1 + y0)) j0), ((d_p1 0), ai k 400 r_p1_grades), ((d_t_row 7), ai k 20 r_t_row_bears), ((d_t 1), ob 1 (rfd d_t_halves) i_t_halves j0), ((d_t_halves 2), ai k 20 r_t_halves_starts), ((d_t_halves 3), ai k 20 r_t_halves_sizes), ((d_t_halves 4), ai k 20 r_t_halves_units), ((d_t_halves 0), ai k 20 r_t_halves_kinds)]) (rest := []) F hA hB (c_Row_takeOn l D k (d_t 0) d_t_row i_t_row a_p1 d_p1 i_p1 r_p1_halts r_t_row_kinds r_t_row_longs r_t_row_weights r_t_row_strengths r_t_row_wears_19 r_t_row_pushes r_t_row_helpers r_p1_kinds _  hf) ml_RX10_78 mv_yX8_takeOn [2, 1, 16, 15, 3, 5, 8, 9, 6, 17, 18] [0, 4, 7, 10, 11, 12, 13, 14] rfl rfl (by decide) (by decide) (by decide) 2 rfl rfl rfl hl.1 rfl (Nat.le_of_ble_eq_true rfl) ⟨Nat.le_of_ble_eq_true rfl, Nat.le_of_ble_eq_true rfl⟩ ⟨Nat.le_of_ble_eq_true rfl, Nat.le_of_ble_eq_true rfl⟩ dX10_move_143 (fun w1 H locs hq hB => ?_)
      obtain ⟨i_t_row_20, r_t_row_kinds_21, r_t_row_longs_22, r_t_row_weights_23, r_t_row_strengths_24, r_t_row_wears_25, r_t_row_pushes_26, r_t_row_helpers_27, rfl, hf⟩ := hq
      replace hB : Bd D A s.heap (wd_Train_move k a_t d_t (upd i_t 2 (y1 + y0)) a_p1 d_p1 i_p1 d_t_row i_t_row_20 r_t_row_longs_22 r_p1_grades r_t_row_weights_23 r_t_row_pushes_26 r_t_row_bears r_t_row_strengths_24 r_t_row_wears_25 d_t_halves i_t_halves r_t_halves_starts r_t_halves_sizes r_t_halves_units r_t_halves_kinds r_t_row_kinds_21 r_p1_halts r_t_row_helpers_27 r_p1_kinds) H locs := hB.sub [0, 9, 8, 12, 1, 13, 16, 2, 14, 15, 3, 4, 5, 6, 7, 11, 10, 17, 18] (by decide) rfl
      refine lv_iconst (v := 0) hx hb dX10_move_146 (by decide) ?_
      exact r_i F hr hlk hB ⟨_, _, _, _, _, _, _, _, _, _, _, _, _, _, _, rfl, hf⟩ dX10_move_147
  · replace hf := hf.2 c_29
    refine lv_aload_n hx hb dX10_move_67 rfl (lv_at hl 1 rfl) ?_
    refine g_get (w := .ref (d_t 0)) F hB 0 rfl fl_RX10_12 rfl dX10_move_68 ?_
    refine lv_dup hx hb dX10_move_71 rfl ?_
    refine g_get (w := .int (i_t_row 10)) F hB 2 rfl fl_RX10_43 rfl dX10_move_72 ?_
    refine lv_iconst (v := 1) hx hb dX10_move_75 (by decide) ?_
    refine lv_isub hx hb dX10_move_76 ?_
    refine g_puti F hB 2 rfl fl_RX10_43 rfl (wd_Train_move k a_t d_t i_t a_p1 d_p1 i_p1 d_t_row (upd i_t_row 10 ((i_t_row 10) - (1 : Int32))) r_t_row_longs r_p1_grades r_t_row_weights r_t_row_pushes r_t_row_bears r_t_row_strengths r_t_row_wears d_t_halves i_t_halves r_t_halves_starts r_t_halves_sizes r_t_halves_units r_t_halves_kinds r_t_row_kinds r_p1_halts r_t_row_helpers r_p1_kinds) rfl dX10_move_77 (fun H locs hB => ?_)
    refine lv_iconst (v := 1) hx hb dX10_move_80 (by decide) ?_
    exact r_i F hr hlk hB ⟨_, _, _, _, _, _, _, _, _, _, _, _, _, _, _, rfl, hf⟩ dX10_move_81

set_option maxRecDepth 100000 in
set_option maxHeartbeats 4000000 in
theorem c_Train_move (l : Launch) (D : va_G) (k : Nat → ClassId) (a_t : Nat) (d_t : Nat → Nat) (i_t : Nat → Int32) (a_p1 : Nat) (d_p1 : Nat → Nat) (i_p1 : Nat → Int32) (d_t_row : Nat → Nat) (i_t_row : Nat → Int32) (r_t_row_longs : Nat → Int32) (r_p1_grades : Nat → Int32) (r_t_row_weights : Nat → Int32) (r_t_row_pushes : Nat → Int32) (r_t_row_bears : Nat → Int32) (r_t_row_strengths : Nat → Int32) (r_t_row_wears : Nat → Int32) (d_t_halves : Nat → Nat) (i_t_halves : Nat → Int32) (r_t_halves_starts : Nat → Int32) (r_t_halves_sizes : Nat → Int32) (r_t_halves_units : Nat → Int32) (r_t_halves_kinds : Nat → Int32) (r_t_row_kinds : Nat → Int32) (r_p1_halts : Nat → Int32) (r_t_row_helpers : Nat → Int32) (r_p1_kinds : Nat → Int32) (n2 : Int32) (Q : Int32 → (Nat → Int32) → (Nat → Int32) → (Nat → Int32) → (Nat → Int32) → (Nat → Int32) → (Nat → Int32) → (Nat → Int32) → (Nat → Int32) → (Nat → Int32) → (Nat → Int32) → (Nat → Int32) → (Nat → Int32) → (Nat → Int32) → (Nat → Int32) → (Nat → Int32) → Prop)  (hf : w_Train_move i_t i_p1 i_t_row r_t_row_longs r_p1_grades r_t_row_weights r_t_row_pushes r_t_row_bears r_t_row_strengths r_t_row_wears i_t_halves r_t_halves_starts r_t_halves_sizes r_t_halves_units r_t_halves_kinds r_t_row_kinds r_p1_halts r_t_row_helpers r_p1_kinds n2 Q) : CtI l yX10_move cX10_move 5 (some .int) 3 75 0 0 D k [.ref a_t, .ref a_p1, .int n2] (wd_Train_move k a_t d_t i_t a_p1 d_p1 i_p1 d_t_row i_t_row r_t_row_longs r_p1_grades r_t_row_weights r_t_row_pushes r_t_row_bears r_t_row_strengths r_t_row_wears d_t_halves i_t_halves r_t_halves_starts r_t_halves_sizes r_t_halves_units r_t_halves_kinds r_t_row_kinds r_p1_halts r_t_row_helpers r_p1_kinds) (fun r w => ∃ (i_t : Nat → Int32), ∃ (i_t_row : Nat → Int32), ∃ (r_t_row_longs : Nat → Int32), ∃ (r_t_row_weights : Nat → Int32), ∃ (r_t_row_pushes : Nat → Int32), ∃ (r_t_row_bears : Nat → Int32), ∃ (r_t_row_strengths : Nat → Int32), ∃ (r_t_row_wears : Nat → Int32), ∃ (i_t_halves : Nat → Int32), ∃ (r_t_halves_starts : Nat → Int32), ∃ (r_t_halves_sizes : Nat → Int32), ∃ (r_t_halves_units : Nat → Int32), ∃ (r_t_halves_kinds : Nat → Int32), ∃ (r_t_row_kinds : Nat → Int32), ∃ (r_t_row_helpers : Nat → Int32), w = (wd_Train_move k a_t d_t i_t a_p1 d_p1 i_p1 d_t_row i_t_row r_t_row_longs r_p1_grades r_t_row_weights r_t_row_pushes r_t_row_bears r_t_row_strengths r_t_row_wears d_t_halves i_t_halves r_t_halves_starts r_t_halves_sizes r_t_halves_units r_t_halves_kinds r_t_row_kinds r_p1_halts r_t_row_helpers r_p1_kinds) ∧ Q r i_t i_t_row r_t_row_longs r_t_row_weights r_t_row_pushes r_t_row_bears r_t_row_strengths r_t_row_wears i_t_halves r_t_halves_starts r_t_halves_sizes r_t_halves_units r_t_halves_kinds r_t_row_kinds r_t_row_helpers) := by
  refine CtI.of (by decide) (Nat.le_of_ble_eq_true rfl) ?_
  intro p e s m below meth c A F hr hlk hnm hA hB ls hl
  have hx := F.x
  have hb := F.b
  unfold w_Train_move at hf
  replace hl : lv_has ls 5 [(0, .ref a_t), (1, .ref a_p1), (2, .int n2)] := hl
  refine lv_aload_n hx hb dX10_move_0 rfl (lv_at hl 0 rfl) ?_
  refine g_get (w := .ref (d_t 0)) F hB 0 rfl fl_RX10_12 rfl dX10_move_1 ?_
  refine g_get (w := .int (i_t_row 10)) F hB 2 rfl fl_RX10_43 rfl dX10_move_4 ?_
  refine lv_iconst (v := 1) hx hb dX10_move_7 (by decide) ?_
  refine lv_iadd hx hb dX10_move_8 ?_
  refine lv_aload_n hx hb dX10_move_9 rfl (lv_at hl 1 rfl) ?_
  refine g_get (w := .int (i_p1 1)) F hB 1 rfl fl_RX10_46 rfl dX10_move_10 ?_
  refine lv_icmp_lt (tgt := 18) hx hb dX10_move_13 (by decide) (fun c_31 => ?_) (fun c_31 => ?_)
  · replace hf := hf.1 c_31
    refine lv_aload_n hx hb dX10_move_18 rfl (lv_at hl 0 rfl) ?_
    refine g_get (w := .ref (d_t 0)) F hB 0 rfl fl_RX10_12 rfl dX10_move_19 ?_
    refine lv_dup hx hb dX10_move_22 rfl ?_
    refine g_get (w := .int (i_t_row 10)) F hB 2 rfl fl_RX10_43 rfl dX10_move_23 ?_
    refine lv_iconst (v := 1) hx hb dX10_move_26 (by decide) ?_
    refine lv_iadd hx hb dX10_move_27 ?_
    refine g_puti F hB 2 rfl fl_RX10_43 rfl (wd_Train_move k a_t d_t i_t a_p1 d_p1 i_p1 d_t_row (upd i_t_row 10 ((i_t_row 10) + (1 : Int32))) r_t_row_longs r_p1_grades r_t_row_weights r_t_row_pushes r_t_row_bears r_t_row_strengths r_t_row_wears d_t_halves i_t_halves r_t_halves_starts r_t_halves_sizes r_t_halves_units r_t_halves_kinds r_t_row_kinds r_p1_halts r_t_row_helpers r_p1_kinds) rfl dX10_move_28 (fun H locs hB => ?_)
    refine lv_aload_n hx hb dX10_move_31 rfl (lv_at hl 0 rfl) ?_
    refine g_get (w := .int (i_t 2)) F hB 0 rfl fl_RX10_32 rfl dX10_move_32 ?_
    refine lv_aload_n hx hb dX10_move_35 rfl (lv_at hl 1 rfl) ?_
    refine g_get (w := .int (i_p1 10)) F hB 1 rfl fl_RX10_51 rfl dX10_move_36 ?_
    refine lv_iadd hx hb dX10_move_39 ?_
    refine lv_aload_n hx hb dX10_move_40 rfl (lv_at hl 0 rfl) ?_
    refine g_get (w := .ref (d_t 0)) F hB 0 rfl fl_RX10_12 rfl dX10_move_41 ?_
    refine lv_aload_n hx hb dX10_move_44 rfl (lv_at hl 1 rfl) ?_
    refine k_vi (wr := [(a_t, ob 10 (rfd d_t) i_t j0), ((d_t_row 3), ai k 20 r_t_row_strengths), ((d_t_row 4), ai k 20 r_t_row_wears), ((d_t 1), ob 1 (rfd d_t_halves) i_t_halves j0), ((d_t_halves 2), ai k 20 r_t_halves_starts), ((d_t_halves 3), ai k 20 r_t_halves_sizes), ((d_t_halves 4), ai k 20 r_t_halves_units), ((d_t_halves 0), ai k 20 r_t_halves_kinds), ((d_t_row 0), ai k 20 r_t_row_kinds), ((d_p1 2), ai k 30 r_p1_halts), ((d_t_row 6), ai k 20 r_t_row_helpers), ((d_p1 6), ai k 18 r_p1_kinds)]) (rest := [.int ((i_t 2) + (i_p1 10))]) F hA hB (c_Row_measure l D k (d_t 0) d_t_row (upd i_t_row 10 ((i_t_row 10) + (1 : Int32))) a_p1 d_p1 i_p1 r_t_row_longs r_p1_grades r_t_row_weights r_t_row_pushes r_t_row_bears _  hf) ml_RX10_54 mv_yX8_measure [2, 1, 3, 4, 5, 6, 7] [0, 8, 9, 10, 11, 12, 13, 14, 15, 16, 17, 18] rfl rfl (by decide) (by decide) (by decide) 2 rfl rfl rfl hl.1 rfl (Nat.le_of_ble_eq_true rfl) ⟨Nat.le_of_ble_eq_true rfl, Nat.le_of_ble_eq_true rfl⟩ ⟨Nat.le_of_ble_eq_true rfl, Nat.le_of_ble_eq_true rfl⟩ dX10_move_45 (fun z_2 w1 H locs hq hB => ?_)
    obtain ⟨r_t_row_bears_1, rfl, hf⟩ := hq
    replace hB : Bd D A s.heap (wd_Train_move k a_t d_t i_t a_p1 d_p1 i_p1 d_t_row (upd i_t_row 10 ((i_t_row 10) + (1 : Int32))) r_t_row_longs r_p1_grades r_t_row_weights r_t_row_pushes r_t_row_bears_1 r_t_row_strengths r_t_row_wears d_t_halves i_t_halves r_t_halves_starts r_t_halves_sizes r_t_halves_units r_t_halves_kinds r_t_row_kinds r_p1_halts r_t_row_helpers r_p1_kinds) H locs := hB.sub [0, 13, 12, 14, 15, 16, 17, 18, 1, 2, 3, 4, 5, 6, 7, 8, 9, 10, 11] (by decide) rfl
    refine lv_isub hx hb dX10_move_48 ?_
    refine lv_iload_n hx hb dX10_move_49 rfl (lv_at hl 2 rfl) ?_
    refine lv_if_eq (tgt := 60) hx hb dX10_move_50 (by decide) (fun c_30 => ?_) (fun c_30 => ?_)
    · replace hf := hf.1 c_30
      refine lv_iconst (v := 0) hx hb dX10_move_60 (by decide) ?_
      exact jt_Train_move_61 F hr hlk hA _ _ _ _ _ _ _ _ _ _ _ _ _ _ _ _ _ _ _ _ hf hB (lv_sub hl [0, 1] rfl)
    · replace hf := hf.2 c_30
      refine lv_aload_n hx hb dX10_move_53 rfl (lv_at hl 1 rfl) ?_
      refine g_get (w := .int (i_p1 13)) F hB 1 rfl fl_RX10_58 rfl dX10_move_54 ?_
      refine lv_goto (tgt := 61) hx hb dX10_move_57 (by decide) ?_
      exact jt_Train_move_61 F hr hlk hA _ _ _ _ _ _ _ _ _ _ _ _ _ _ _ _ _ _ _ _ hf hB (lv_sub hl [0, 1] rfl)
  · replace hf := hf.2 c_31
    refine lv_iconst (v := 2) hx hb dX10_move_16 (by decide) ?_
    exact r_i F hr hlk hB ⟨_, _, _, _, _, _, _, _, _, _, _, _, _, _, _, rfl, hf⟩ dX10_move_17

/-! LongTrain.Judge.runCut -/
set_option maxRecDepth 100000 in
set_option maxHeartbeats 4000000 in
theorem c_Judge_runCut (l : Launch) (D : va_G) (k : Nat → ClassId) (a_p1 : Nat) (d_p1 : Nat → Nat) (i_p1 : Nat → Int32) (d_p1_row : Nat → Nat) (i_p1_row : Nat → Int32) (d_p1_halves : Nat → Nat) (i_p1_halves : Nat → Int32) (r_p1_halves_starts : Nat → Int32) (r_p1_halves_sizes : Nat → Int32) (r_p1_halves_units : Nat → Int32) (r_p1_row_longs : Nat → Int32) (r_p1_halves_kinds : Nat → Int32) (r_p1_row_kinds : Nat → Int32) (n0 : Int32) (Q : Int32 → (Nat → Int32) → (Nat → Int32) → (Nat → Int32) → (Nat → Int32) → (Nat → Int32) → (Nat → Int32) → Prop)  (hf : w_Judge_runCut i_p1_row i_p1_halves r_p1_halves_starts r_p1_halves_sizes r_p1_halves_units r_p1_row_longs r_p1_halves_kinds r_p1_row_kinds n0 Q) : CtI l yX2_runCut cX2_runCut 2 (some .int) 3 75 0 0 D k [.int n0, .ref a_p1] (wd_Judge_runCut k a_p1 d_p1 i_p1 d_p1_row i_p1_row d_p1_halves i_p1_halves r_p1_halves_starts r_p1_halves_sizes r_p1_halves_units r_p1_row_longs r_p1_halves_kinds r_p1_row_kinds) (fun r w => ∃ (i_p1_row : Nat → Int32), ∃ (i_p1_halves : Nat → Int32), ∃ (r_p1_halves_starts : Nat → Int32), ∃ (r_p1_halves_sizes : Nat → Int32), ∃ (r_p1_halves_units : Nat → Int32), ∃ (r_p1_halves_kinds : Nat → Int32), w = (wd_Judge_runCut k a_p1 d_p1 i_p1 d_p1_row i_p1_row d_p1_halves i_p1_halves r_p1_halves_starts r_p1_halves_sizes r_p1_halves_units r_p1_row_longs r_p1_halves_kinds r_p1_row_kinds) ∧ Q r i_p1_row i_p1_halves r_p1_halves_starts r_p1_halves_sizes r_p1_halves_units r_p1_halves_kinds) := by
  refine CtI.of (by decide) (Nat.le_of_ble_eq_true rfl) ?_
  intro p e s m below meth c A F hr hlk hnm hA hB ls hl
  have hx := F.x
  have hb := F.b
  unfold w_Judge_runCut at hf
  replace hl : lv_has ls 2 [(0, .int n0), (1, .ref a_p1)] := hl
  refine lv_iload_n hx hb dX2_runCut_0 rfl (lv_at hl 0 rfl) ?_
  refine lv_aload_n hx hb dX2_runCut_1 rfl (lv_at hl 1 rfl) ?_
  refine g_get (w := .ref (d_p1 0)) F hB 0 rfl fl_RX2_44 rfl dX2_runCut_2 ?_
  refine g_get (w := .int (i_p1_row 8)) F hB 1 rfl fl_RX2_55 rfl dX2_runCut_5 ?_
  refine lv_icmp_lt (tgt := 13) hx hb dX2_runCut_8 (by decide) (fun c_7 => ?_) (fun c_7 => ?_)
  · replace hf := hf.1 c_7
    refine lv_aload_n hx hb dX2_runCut_13 rfl (lv_at hl 1 rfl) ?_
    refine lv_iload_n hx hb dX2_runCut_14 rfl (lv_at hl 0 rfl) ?_
    refine k_vv (wr := []) (rest := []) F hA hB (c_Train_part l D k a_p1 d_p1 i_p1 d_p1_halves i_p1_halves d_p1_row i_p1_row r_p1_halves_starts r_p1_halves_sizes r_p1_halves_units r_p1_row_longs r_p1_halves_kinds r_p1_row_kinds n0 _  hf) ml_RX2_98 mv_yX10_part [0, 2, 1, 3, 4, 5, 6, 7, 8] [] rfl rfl (by decide) (by decide) (by decide) 0 rfl rfl rfl hl.1 rfl (Nat.le_of_ble_eq_true rfl) ⟨Nat.le_of_ble_eq_true rfl, Nat.le_of_ble_eq_true rfl⟩ ⟨Nat.le_of_ble_eq_true rfl, Nat.le_of_ble_eq_true rfl⟩ dX2_runCut_15 (fun w1 H locs hq hB => ?_)
    obtain ⟨i_p1_halves_1, i_p1_row_2, r_p1_halves_starts_3, r_p1_halves_sizes_4, r_p1_halves_units_5, r_p1_halves_kinds_6, rfl, hf⟩ := hq
    replace hB : Bd D A s.heap (wd_Judge_runCut k a_p1 d_p1 i_p1 d_p1_row i_p1_row_2 d_p1_halves i_p1_halves_1 r_p1_halves_starts_3 r_p1_halves_sizes_4 r_p1_halves_units_5 r_p1_row_longs r_p1_halves_kinds_6 r_p1_row_kinds) H locs := hB.sub [0, 2, 1, 3, 4, 5, 6, 7, 8] (by decide) rfl
    refine lv_iconst (v := 0) hx hb dX2_runCut_18 (by decide) ?_
    exact r_i F hr hlk hB ⟨_, _, _, _, _, _, rfl, hf⟩ dX2_runCut_19
  · replace hf := hf.2 c_7
    refine lv_iconst (v := 3) hx hb dX2_runCut_11 (by decide) ?_
    exact r_i F hr hlk hB ⟨_, _, _, _, _, _, rfl, hf⟩ dX2_runCut_12

/-! LongTrain.Judge.runHelp -/
set_option maxRecDepth 100000 in
set_option maxHeartbeats 4000000 in
theorem c_Judge_runHelp (l : Launch) (D : va_G) (k : Nat → ClassId) (a_p2 : Nat) (d_p2 : Nat → Nat) (i_p2 : Nat → Int32) (r_p2_helpers : Nat → Int32) (r_p2_pushes : Nat → Int32) (n0 : Int32) (n1 : Int32) (Q : Int32 → (Nat → Int32) → (Nat → Int32) → Prop)  (hf : w_Judge_runHelp i_p2 r_p2_helpers r_p2_pushes n0 n1 Q) : CtI l yX2_runHelp cX2_runHelp 3 (some .int) 1 22 0 0 D k [.int n0, .int n1, .ref a_p2] (wd_Judge_runHelp k a_p2 d_p2 i_p2 r_p2_helpers r_p2_pushes) (fun r w => ∃ (r_p2_helpers : Nat → Int32), ∃ (r_p2_pushes : Nat → Int32), w = (wd_Judge_runHelp k a_p2 d_p2 i_p2 r_p2_helpers r_p2_pushes) ∧ Q r r_p2_helpers r_p2_pushes) := by
  refine CtI.of (by decide) (Nat.le_of_ble_eq_true rfl) ?_
  intro p e s m below meth c A F hr hlk hnm hA hB ls hl
  have hx := F.x
  have hb := F.b
  unfold w_Judge_runHelp at hf
  replace hl : lv_has ls 3 [(0, .int n0), (1, .int n1), (2, .ref a_p2)] := hl
  refine lv_iload_n hx hb dX2_runHelp_0 rfl (lv_at hl 0 rfl) ?_
  refine lv_aload_n hx hb dX2_runHelp_1 rfl (lv_at hl 2 rfl) ?_
  refine g_get (w := .int (i_p2 8)) F hB 0 rfl fl_RX2_55 rfl dX2_runHelp_2 ?_
  refine lv_icmp_lt (tgt := 10) hx hb dX2_runHelp_5 (by decide) (fun c_5 => ?_) (fun c_5 => ?_)
  · replace hf := hf.1 c_5
    refine lv_aload_n hx hb dX2_runHelp_10 rfl (lv_at hl 2 rfl) ?_
    refine k_vi (wr := [((d_p2 5), ai k 20 r_p2_pushes)]) (rest := []) F hA hB (c_Row_helperCount l D k a_p2 d_p2 i_p2 r_p2_helpers _  hf) ml_RX2_87 mv_yX8_helperCount [0, 1] [2] rfl rfl (by decide) (by decide) (by decide) 0 rfl rfl rfl hl.1 rfl (Nat.le_of_ble_eq_true rfl) ⟨Nat.le_of_ble_eq_true rfl, Nat.le_of_ble_eq_true rfl⟩ ⟨Nat.le_of_ble_eq_true rfl, Nat.le_of_ble_eq_true rfl⟩ dX2_runHelp_11 (fun z_1 w1 H locs hq hB => ?_)
    obtain ⟨rfl, hf⟩ := hq
    replace hB : Bd D A s.heap (wd_Judge_runHelp k a_p2 d_p2 i_p2 r_p2_helpers r_p2_pushes) H locs := hB.sub [1, 2, 0] (by decide) rfl
    refine lv_iconst (v := 4) hx hb dX2_runHelp_14 (by decide) ?_
    refine lv_icmp_lt (tgt := 20) hx hb dX2_runHelp_15 (by decide) (fun c_4 => ?_) (fun c_4 => ?_)
    · replace hf := hf.1 c_4
      refine lv_aload_n hx hb dX2_runHelp_20 rfl (lv_at hl 2 rfl) ?_
      refine lv_iload_n hx hb dX2_runHelp_21 rfl (lv_at hl 0 rfl) ?_
      refine lv_iload_n hx hb dX2_runHelp_22 rfl (lv_at hl 1 rfl) ?_
      refine k_vv (wr := []) (rest := []) F hA hB (c_Row_help l D k a_p2 d_p2 i_p2 r_p2_pushes r_p2_helpers n0 n1 _  hf) ml_RX2_91 mv_yX8_help [0, 2, 1] [] rfl rfl (by decide) (by decide) (by decide) 0 rfl rfl rfl hl.1 rfl (Nat.le_of_ble_eq_true rfl) ⟨Nat.le_of_ble_eq_true rfl, Nat.le_of_ble_eq_true rfl⟩ ⟨Nat.le_of_ble_eq_true rfl, Nat.le_of_ble_eq_true rfl⟩ dX2_runHelp_23 (fun w1 H locs hq hB => ?_)
      obtain ⟨r_p2_pushes_2, r_p2_helpers_3, rfl, hf⟩ := hq
      replace hB : Bd D A s.heap (wd_Judge_runHelp k a_p2 d_p2 i_p2 r_p2_helpers_3 r_p2_pushes_2) H locs := hB.sub [0, 2, 1] (by decide) rfl
      refine lv_iconst (v := 0) hx hb dX2_runHelp_26 (by decide) ?_
      exact r_i F hr hlk hB ⟨_, _, rfl, hf⟩ dX2_runHelp_27
    · replace hf := hf.2 c_4
      refine lv_iconst (v := 5) hx hb dX2_runHelp_18 (by decide) ?_
      exact r_i F hr hlk hB ⟨_, _, rfl, hf⟩ dX2_runHelp_19
  · replace hf := hf.2 c_5
    refine lv_iconst (v := 3) hx hb dX2_runHelp_8 (by decide) ?_
    exact r_i F hr hlk hB ⟨_, _, rfl, hf⟩ dX2_runHelp_9

/-! LongTrain.Judge.runMoves -/
set_option maxRecDepth 100000 in
set_option maxHeartbeats 4000000 in
theorem bt_Judge_runMoves_6 {p : Program} {l : Launch} {e : Env} {s : State} {m : MethodId} {below : List Frame} {meth : Method} {c : Code} {A : Nat → Prop} {D : va_G} {k : Nat → ClassId} {a_t : Nat} {d_t : Nat → Nat} {a_p3 : Nat} {d_p3 : Nat → Nat} {i_p3 : Nat → Int32} {a_p4 : Nat} {d_p4 : Nat → Nat} {d_p4_row : Nat → Nat} {r_p3_grades : Nat → Int32} {d_p4_halves : Nat → Nat} {r_p3_halts : Nat → Int32} {r_p3_kinds : Nat → Int32} {n1 : Int32} {n2 : Int32} {Q : Int32 → (Nat → Int32) → (Nat → Int32) → (Nat → Int32) → (Nat → Int32) → (Nat → Int32) → (Nat → Int32) → (Nat → Int32) → (Nat → Int32) → (Nat → Int32) → (Nat → Int32) → (Nat → Int32) → (Nat → Int32) → (Nat → Int32) → (Nat → Int32) → (Nat → Int32) → (Nat → Int32) → Prop}  {x1 : Int32} {x2 : Int32} {kx_6 : (Int32) → (Nat → Int32) → (Nat → Int32) → (Nat → Int32) → (Nat → Int32) → (Nat → Int32) → (Nat → Int32) → (Nat → Int32) → (Nat → Int32) → (Nat → Int32) → (Nat → Int32) → (Nat → Int32) → (Nat → Int32) → (Nat → Int32) → (Nat → Int32) → (Nat → Int32) → (Nat → Int32) → Prop} {kr_6 : (Int32) → (Int32) → (Nat → Int32) → (Nat → Int32) → (Nat → Int32) → (Nat → Int32) → (Nat → Int32) → (Nat → Int32) → (Nat → Int32) → (Nat → Int32) → (Nat → Int32) → (Nat → Int32) → (Nat → Int32) → (Nat → Int32) → (Nat → Int32) → (Nat → Int32) → (Nat → Int32) → (Nat → Int32) → Prop} (F : Fx p m c cX2_runMoves 7 s ([.ref a_t, .int n1, .int n2, .ref a_p3, .ref a_p4] : List Value).toArray RX2 D k) (hr : meth.sig.returnType = (some .int)) (hlk : meth.locks = false) (hA : ∀ q : Nat, s.heap.size ≤ q → A q) (hkx_6 : ∀ (x5 : Int32) (i_t : Nat → Int32) (i_p4 : Nat → Int32) (i_p4_row : Nat → Int32) (r_p4_row_longs : Nat → Int32) (r_p4_row_weights : Nat → Int32) (r_p4_row_pushes : Nat → Int32) (r_p4_row_bears : Nat → Int32) (r_p4_row_strengths : Nat → Int32) (r_p4_row_wears : Nat → Int32) (i_p4_halves : Nat → Int32) (r_p4_halves_starts : Nat → Int32) (r_p4_halves_sizes : Nat → Int32) (r_p4_halves_units : Nat → Int32) (r_p4_halves_kinds : Nat → Int32) (r_p4_row_kinds : Nat → Int32) (r_p4_row_helpers : Nat → Int32) (H : Heap) (locs : List Loc) (ls : Array Slot), kx_6 x5 i_t i_p4 i_p4_row r_p4_row_longs r_p4_row_weights r_p4_row_pushes r_p4_row_bears r_p4_row_strengths r_p4_row_wears i_p4_halves r_p4_halves_starts r_p4_halves_sizes r_p4_halves_units r_p4_halves_kinds r_p4_row_kinds r_p4_row_helpers → Bd D A s.heap (wd_Judge_runMoves k a_t d_t i_t a_p3 d_p3 i_p3 a_p4 d_p4 i_p4 d_p4_row i_p4_row r_p4_row_longs r_p3_grades r_p4_row_weights r_p4_row_pushes r_p4_row_bears r_p4_row_strengths r_p4_row_wears d_p4_halves i_p4_halves r_p4_halves_starts r_p4_halves_sizes r_p4_halves_units r_p4_halves_kinds r_p4_row_kinds r_p3_halts r_p4_row_helpers r_p3_kinds) H locs → lv_has ls 7 [(5, .int x5)] → W p l e { frames := 4, cells := 0, slots := 0, locals := 99 } s m ([.ref a_t, .int n1, .int n2, .ref a_p3, .ref a_p4] : List Value).toArray below meth c H locs 0 0 (Ei below (fun r w => ∃ (i_t : Nat → Int32), ∃ (i_p4 : Nat → Int32), ∃ (i_p4_row : Nat → Int32), ∃ (r_p4_row_longs : Nat → Int32), ∃ (r_p4_row_weights : Nat → Int32), ∃ (r_p4_row_pushes : Nat → Int32), ∃ (r_p4_row_bears : Nat → Int32), ∃ (r_p4_row_strengths : Nat → Int32), ∃ (r_p4_row_wears : Nat → Int32), ∃ (i_p4_halves : Nat → Int32), ∃ (r_p4_halves_starts : Nat → Int32), ∃ (r_p4_halves_sizes : Nat → Int32), ∃ (r_p4_halves_units : Nat → Int32), ∃ (r_p4_halves_kinds : Nat → Int32), ∃ (r_p4_row_kinds : Nat → Int32), ∃ (r_p4_row_helpers : Nat → Int32), w = (wd_Judge_runMoves k a_t d_t i_t a_p3 d_p3 i_p3 a_p4 d_p4 i_p4 d_p4_row i_p4_row r_p4_row_longs r_p3_grades r_p4_row_weights r_p4_row_pushes r_p4_row_bears r_p4_row_strengths r_p4_row_wears d_p4_halves i_p4_halves r_p4_halves_starts r_p4_halves_sizes r_p4_halves_units r_p4_halves_kinds r_p4_row_kinds r_p3_halts r_p4_row_helpers r_p3_kinds) ∧ Q r i_t i_p4 i_p4_row r_p4_row_longs r_p4_row_weights r_p4_row_pushes r_p4_row_bears r_p4_row_strengths r_p4_row_wears i_p4_halves r_p4_halves_starts r_p4_halves_sizes r_p4_halves_units r_p4_halves_kinds r_p4_row_kinds r_p4_row_helpers) D k A ([.ref a_t, .int n1, .int n2, .ref a_p3, .ref a_p4] : List Value).toArray s 0 0) (F0 m 65 ls [])) (hkr_6 : ∀ (x5 : Int32) (x6 : Int32) (i_t : Nat → Int32) (i_p4 : Nat → Int32) (i_p4_row : Nat → Int32) (r_p4_row_longs : Nat → Int32) (r_p4_row_weights : Nat → Int32) (r_p4_row_pushes : Nat → Int32) (r_p4_row_bears : Nat → Int32) (r_p4_row_strengths : Nat → Int32) (r_p4_row_wears : Nat → Int32) (i_p4_halves : Nat → Int32) (r_p4_halves_starts : Nat → Int32) (r_p4_halves_sizes : Nat → Int32) (r_p4_halves_units : Nat → Int32) (r_p4_halves_kinds : Nat → Int32) (r_p4_row_kinds : Nat → Int32) (r_p4_row_helpers : Nat → Int32) (H : Heap) (locs : List Loc) (ls : Array Slot), kr_6 x5 x6 i_t i_p4 i_p4_row r_p4_row_longs r_p4_row_weights r_p4_row_pushes r_p4_row_bears r_p4_row_strengths r_p4_row_wears i_p4_halves r_p4_halves_starts r_p4_halves_sizes r_p4_halves_units r_p4_halves_kinds r_p4_row_kinds r_p4_row_helpers → Bd D A s.heap (wd_Judge_runMoves k a_t d_t i_t a_p3 d_p3 i_p3 a_p4 d_p4 i_p4 d_p4_row i_p4_row r_p4_row_longs r_p3_grades r_p4_row_weights r_p4_row_pushes r_p4_row_bears r_p4_row_strengths r_p4_row_wears d_p4_halves i_p4_halves r_p4_halves_starts r_p4_halves_sizes r_p4_halves_units r_p4_halves_kinds r_p4_row_kinds r_p3_halts r_p4_row_helpers r_p3_kinds) H locs → lv_has ls 7 [(0, .ref a_t), (1, .int x1), (2, .int x2), (3, .ref a_p3), (4, .ref a_p4), (5, .int x5), (6, .int x6)] → W p l e { frames := 4, cells := 0, slots := 0, locals := 99 } s m ([.ref a_t, .int n1, .int n2, .ref a_p3, .ref a_p4] : List Value).toArray below meth c H locs 0 0 (Ei below (fun r w => ∃ (i_t : Nat → Int32), ∃ (i_p4 : Nat → Int32), ∃ (i_p4_row : Nat → Int32), ∃ (r_p4_row_longs : Nat → Int32), ∃ (r_p4_row_weights : Nat → Int32), ∃ (r_p4_row_pushes : Nat → Int32), ∃ (r_p4_row_bears : Nat → Int32), ∃ (r_p4_row_strengths : Nat → Int32), ∃ (r_p4_row_wears : Nat → Int32), ∃ (i_p4_halves : Nat → Int32), ∃ (r_p4_halves_starts : Nat → Int32), ∃ (r_p4_halves_sizes : Nat → Int32), ∃ (r_p4_halves_units : Nat → Int32), ∃ (r_p4_halves_kinds : Nat → Int32), ∃ (r_p4_row_kinds : Nat → Int32), ∃ (r_p4_row_helpers : Nat → Int32), w = (wd_Judge_runMoves k a_t d_t i_t a_p3 d_p3 i_p3 a_p4 d_p4 i_p4 d_p4_row i_p4_row r_p4_row_longs r_p3_grades r_p4_row_weights r_p4_row_pushes r_p4_row_bears r_p4_row_strengths r_p4_row_wears d_p4_halves i_p4_halves r_p4_halves_starts r_p4_halves_sizes r_p4_halves_units r_p4_halves_kinds r_p4_row_kinds r_p3_halts r_p4_row_helpers r_p3_kinds) ∧ Q r i_t i_p4 i_p4_row r_p4_row_longs r_p4_row_weights r_p4_row_pushes r_p4_row_bears r_p4_row_strengths r_p4_row_wears i_p4_halves r_p4_halves_starts r_p4_halves_sizes r_p4_halves_units r_p4_halves_kinds r_p4_row_kinds r_p4_row_helpers) D k A ([.ref a_t, .int n1, .int n2, .ref a_p3, .ref a_p4] : List Value).toArray s 0 0) (F0 m 6 ls [])) :
    ∀ (x5 : Int32) (x6 : Int32) (i_t : Nat → Int32) (i_p4 : Nat → Int32) (i_p4_row : Nat → Int32) (r_p4_row_longs : Nat → Int32) (r_p4_row_weights : Nat → Int32) (r_p4_row_pushes : Nat → Int32) (r_p4_row_bears : Nat → Int32) (r_p4_row_strengths : Nat → Int32) (r_p4_row_wears : Nat → Int32) (i_p4_halves : Nat → Int32) (r_p4_halves_starts : Nat → Int32) (r_p4_halves_sizes : Nat → Int32) (r_p4_halves_units : Nat → Int32) (r_p4_halves_kinds : Nat → Int32) (r_p4_row_kinds : Nat → Int32) (r_p4_row_helpers : Nat → Int32) (H : Heap) (locs : List Loc) (ls : Array Slot), b_Judge_runMoves_6 i_p3 r_p3_grades r_p3_halts r_p3_kinds x1 x2 kx_6 kr_6 x5 x6 i_t i_p4 i_p4_row r_p4_row_longs r_p4_row_weights r_p4_row_pushes r_p4_row_bears r_p4_row_strengths r_p4_row_wears i_p4_halves r_p4_halves_starts r_p4_halves_sizes r_p4_halves_units r_p4_halves_kinds r_p4_row_kinds r_p4_row_helpers → Bd D A s.heap (wd_Judge_runMoves k a_t d_t i_t a_p3 d_p3 i_p3 a_p4 d_p4 i_p4 d_p4_row i_p4_row r_p4_row_longs r_p3_grades r_p4_row_weights r_p4_row_pushes r_p4_row_bears r_p4_row_strengths r_p4_row_wears d_p4_halves i_p4_halves r_p4_halves_starts r_p4_halves_sizes r_p4_halves_units r_p4_halves_kinds r_p4_row_kinds r_p3_halts r_p4_row_helpers r_p3_kinds) H locs → lv_has ls 7 [(0, .ref a_t), (1, .int x1), (2, .int x2), (3, .ref a_p3), (4, .ref a_p4), (5, .int x5), (6, .int x6)] → W p l e { frames := 4, cells := 0, slots := 0, locals := 99 } s m ([.ref a_t, .int n1, .int n2, .ref a_p3, .ref a_p4] : List Value).toArray below meth c H locs 0 0 (Ei below (fun r w => ∃ (i_t : Nat → Int32), ∃ (i_p4 : Nat → Int32), ∃ (i_p4_row : Nat → Int32), ∃ (r_p4_row_longs : Nat → Int32), ∃ (r_p4_row_weights : Nat → Int32), ∃ (r_p4_row_pushes : Nat → Int32), ∃ (r_p4_row_bears : Nat → Int32), ∃ (r_p4_row_strengths : Nat → Int32), ∃ (r_p4_row_wears : Nat → Int32), ∃ (i_p4_halves : Nat → Int32), ∃ (r_p4_halves_starts : Nat → Int32), ∃ (r_p4_halves_sizes : Nat → Int32), ∃ (r_p4_halves_units : Nat → Int32), ∃ (r_p4_halves_kinds : Nat → Int32), ∃ (r_p4_row_kinds : Nat → Int32), ∃ (r_p4_row_helpers : Nat → Int32), w = (wd_Judge_runMoves k a_t d_t i_t a_p3 d_p3 i_p3 a_p4 d_p4 i_p4 d_p4_row i_p4_row r_p4_row_longs r_p3_grades r_p4_row_weights r_p4_row_pushes r_p4_row_bears r_p4_row_strengths r_p4_row_wears d_p4_halves i_p4_halves r_p4_halves_starts r_p4_halves_sizes r_p4_halves_units r_p4_halves_kinds r_p4_row_kinds r_p3_halts r_p4_row_helpers r_p3_kinds) ∧ Q r i_t i_p4 i_p4_row r_p4_row_longs r_p4_row_weights r_p4_row_pushes r_p4_row_bears r_p4_row_strengths r_p4_row_wears i_p4_halves r_p4_halves_starts r_p4_halves_sizes r_p4_halves_units r_p4_halves_kinds r_p4_row_kinds r_p4_row_helpers) D k A ([.ref a_t, .int n1, .int n2, .ref a_p3, .ref a_p4] : List Value).toArray s 0 0) (F0 m 6 ls []) := by
  have hx := F.x
  have hb := F.b
  intro x5 x6 i_t i_p4 i_p4_row r_p4_row_longs r_p4_row_weights r_p4_row_pushes r_p4_row_bears r_p4_row_strengths r_p4_row_wears i_p4_halves r_p4_halves_starts r_p4_halves_sizes r_p4_halves_units r_p4_halves_kinds r_p4_row_kinds r_p4_row_helpers H locs ls hf hB hl
  unfold b_Judge_runMoves_6 at hf
  refine lv_iload hx hb dX2_runMoves_6 (lv_at hl 6 rfl) ?_
  refine lv_iload_n hx hb dX2_runMoves_8 rfl (lv_at hl 1 rfl) ?_
  refine lv_icmp_ge (tgt := 65) hx hb dX2_runMoves_9 (by decide) (fun c_20 => ?_) (fun c_20 => ?_)
  · replace hf := hf.1 c_20
    exact hkx_6 _ _ _ _ _ _ _ _ _ _ _ _ _ _ _ _ _ _ _ _ hf hB (lv_sub hl [5] rfl)
  · replace hf := hf.2 c_20
    refine lv_iload hx hb dX2_runMoves_12 (lv_at hl 5 rfl) ?_
    refine lv_if_ne (tgt := 65) hx hb dX2_runMoves_14 (by decide) (fun c_19 => ?_) (fun c_19 => ?_)
    · replace hf := hf.1 c_19
      exact hkx_6 _ _ _ _ _ _ _ _ _ _ _ _ _ _ _ _ _ _ _ _ hf hB (lv_sub hl [5] rfl)
    · replace hf := hf.2 c_19
      refine lv_aload hx hb dX2_runMoves_17 (lv_at hl 4 rfl) ?_
      refine lv_aload_n hx hb dX2_runMoves_19 rfl (lv_at hl 3 rfl) ?_
      refine lv_iload_n hx hb dX2_runMoves_20 rfl (lv_at hl 2 rfl) ?_
      refine k_vi (wr := [(a_t, ob 2 (rfd d_t) i_t j0)]) (rest := []) F hA hB (c_Train_move l D k a_p4 d_p4 i_p4 a_p3 d_p3 i_p3 d_p4_row i_p4_row r_p4_row_longs r_p3_grades r_p4_row_weights r_p4_row_pushes r_p4_row_bears r_p4_row_strengths r_p4_row_wears d_p4_halves i_p4_halves r_p4_halves_starts r_p4_halves_sizes r_p4_halves_units r_p4_halves_kinds r_p4_row_kinds r_p3_halts r_p4_row_helpers r_p3_kinds x2 _  hf) ml_RX2_83 mv_yX10_move [2, 1, 3, 4, 5, 6, 7, 8, 9, 10, 11, 12, 13, 14, 15, 16, 17, 18, 19] [0] rfl rfl (by decide) (by decide) (by decide) 2 rfl rfl rfl hl.1 rfl (Nat.le_of_ble_eq_true rfl) ⟨Nat.le_of_ble_eq_true rfl, Nat.le_of_ble_eq_true rfl⟩ ⟨Nat.le_of_ble_eq_true rfl, Nat.le_of_ble_eq_true rfl⟩ dX2_runMoves_21 (fun z_16 w1 H locs hq hB => ?_)
      obtain ⟨i_p4_1, i_p4_row_2, r_p4_row_longs_3, r_p4_row_weights_4, r_p4_row_pushes_5, r_p4_row_bears_6, r_p4_row_strengths_7, r_p4_row_wears_8, i_p4_halves_9, r_p4_halves_starts_10, r_p4_halves_sizes_11, r_p4_halves_units_12, r_p4_halves_kinds_13, r_p4_row_kinds_14, r_p4_row_helpers_15, rfl, hf⟩ := hq
      replace hB : Bd D A s.heap (wd_Judge_runMoves k a_t d_t i_t a_p3 d_p3 i_p3 a_p4 d_p4 i_p4_1 d_p4_row i_p4_row_2 r_p4_row_longs_3 r_p3_grades r_p4_row_weights_4 r_p4_row_pushes_5 r_p4_row_bears_6 r_p4_row_strengths_7 r_p4_row_wears_8 d_p4_halves i_p4_halves_9 r_p4_halves_starts_10 r_p4_halves_sizes_11 r_p4_halves_units_12 r_p4_halves_kinds_13 r_p4_row_kinds_14 r_p3_halts r_p4_row_helpers_15 r_p3_kinds) H locs := hB.sub [0, 2, 1, 3, 4, 5, 6, 7, 8, 9, 10, 11, 12, 13, 14, 15, 16, 17, 18, 19] (by decide) rfl
      refine lv_istore (lv' := [(5, .int z_16), (0, .ref a_t), (1, .int x1), (2, .int x2), (3, .ref a_p3), (4, .ref a_p4), (6, .int x6)]) hx hb dX2_runMoves_24 hl (by decide) rfl (fun ls hl => ?_)
      refine lv_iload hx hb dX2_runMoves_26 (lv_at hl 0 rfl) ?_
      refine lv_if_ne (tgt := 59) hx hb dX2_runMoves_28 (by decide) (fun c_18 => ?_) (fun c_18 => ?_)
      · replace hf := hf.1 c_18
        refine lv_iinc (v := (x6 + 1)) (lv' := [(6, .int (x6 + 1)), (5, .int z_16), (0, .ref a_t), (1, .int x1), (2, .int x2), (3, .ref a_p3), (4, .ref a_p4)]) (k := 6) hx hb dX2_runMoves_59 hl rfl rfl (by decide) rfl (fun ls hl => ?_)
        refine lv_goto (tgt := 6) hx hb dX2_runMoves_62 (by decide) ?_
        exact hkr_6 _ _ _ _ _ _ _ _ _ _ _ _ _ _ _ _ _ _ _ _ _ hf hB (lv_sub hl [2, 3, 4, 5, 6, 1, 0] rfl)
      · replace hf := hf.2 c_18
        refine lv_aload_n hx hb dX2_runMoves_31 rfl (lv_at hl 1 rfl) ?_
        refine lv_dup hx hb dX2_runMoves_32 rfl ?_
        refine g_get (w := .int (i_t 2)) F hB 0 rfl fl_RX2_15 rfl dX2_runMoves_33 ?_
        refine lv_iconst (v := 1) hx hb dX2_runMoves_36 (by decide) ?_
        refine lv_iadd hx hb dX2_runMoves_37 ?_
        refine g_puti F hB 0 rfl fl_RX2_15 rfl (wd_Judge_runMoves k a_t d_t (upd i_t 2 ((i_t 2) + (1 : Int32))) a_p3 d_p3 i_p3 a_p4 d_p4 i_p4_1 d_p4_row i_p4_row_2 r_p4_row_longs_3 r_p3_grades r_p4_row_weights_4 r_p4_row_pushes_5 r_p4_row_bears_6 r_p4_row_strengths_7 r_p4_row_wears_8 d_p4_halves i_p4_halves_9 r_p4_halves_starts_10 r_p4_halves_sizes_11 r_p4_halves_units_12 r_p4_halves_kinds_13 r_p4_row_kinds_14 r_p3_halts r_p4_row_helpers_15 r_p3_kinds) rfl dX2_runMoves_38 (fun H locs hB => ?_)
        refine lv_aload_n hx hb dX2_runMoves_41 rfl (lv_at hl 1 rfl) ?_
        refine lv_dup hx hb dX2_runMoves_42 rfl ?_
        refine g_get (w := .int ((upd i_t 2 ((i_t 2) + (1 : Int32))) 3)) F hB 0 rfl fl_RX2_19 rfl dX2_runMoves_43 ?_
        refine lv_iload_n hx hb dX2_runMoves_46 rfl (lv_at hl 3 rfl) ?_
        refine lv_if_eq (tgt := 54) hx hb dX2_runMoves_47 (by decide) (fun c_17 => ?_) (fun c_17 => ?_)
        · replace hf := hf.1 c_17
          refine lv_iconst (v := 0) hx hb dX2_runMoves_54 (by decide) ?_
          refine lv_iadd hx hb dX2_runMoves_55 ?_
          refine g_puti F hB 0 rfl fl_RX2_19 rfl (wd_Judge_runMoves k a_t d_t (upd (upd i_t 2 ((i_t 2) + (1 : Int32))) 3 (((upd i_t 2 ((i_t 2) + (1 : Int32))) 3) + (0 : Int32))) a_p3 d_p3 i_p3 a_p4 d_p4 i_p4_1 d_p4_row i_p4_row_2 r_p4_row_longs_3 r_p3_grades r_p4_row_weights_4 r_p4_row_pushes_5 r_p4_row_bears_6 r_p4_row_strengths_7 r_p4_row_wears_8 d_p4_halves i_p4_halves_9 r_p4_halves_starts_10 r_p4_halves_sizes_11 r_p4_halves_units_12 r_p4_halves_kinds_13 r_p4_row_kinds_14 r_p3_halts r_p4_row_helpers_15 r_p3_kinds) rfl dX2_runMoves_56 (fun H locs hB => ?_)
          refine lv_iinc (v := (x6 + 1)) (lv' := [(6, .int (x6 + 1)), (5, .int z_16), (0, .ref a_t), (1, .int x1), (2, .int x2), (3, .ref a_p3), (4, .ref a_p4)]) (k := 6) hx hb dX2_runMoves_59 hl rfl rfl (by decide) rfl (fun ls hl => ?_)
          refine lv_goto (tgt := 6) hx hb dX2_runMoves_62 (by decide) ?_
          exact hkr_6 _ _ _ _ _ _ _ _ _ _ _ _ _ _ _ _ _ _ _ _ _ hf hB (lv_sub hl [2, 3, 4, 5, 6, 1, 0] rfl)
        · replace hf := hf.2 c_17
          refine lv_iconst (v := 1) hx hb dX2_runMoves_50 (by decide) ?_
          refine lv_goto (tgt := 55) hx hb dX2_runMoves_51 (by decide) ?_
          refine lv_iadd hx hb dX2_runMoves_55 ?_
          refine g_puti F hB 0 rfl fl_RX2_19 rfl (wd_Judge_runMoves k a_t d_t (upd (upd i_t 2 ((i_t 2) + (1 : Int32))) 3 (((upd i_t 2 ((i_t 2) + (1 : Int32))) 3) + (1 : Int32))) a_p3 d_p3 i_p3 a_p4 d_p4 i_p4_1 d_p4_row i_p4_row_2 r_p4_row_longs_3 r_p3_grades r_p4_row_weights_4 r_p4_row_pushes_5 r_p4_row_bears_6 r_p4_row_strengths_7 r_p4_row_wears_8 d_p4_halves i_p4_halves_9 r_p4_halves_starts_10 r_p4_halves_sizes_11 r_p4_halves_units_12 r_p4_halves_kinds_13 r_p4_row_kinds_14 r_p3_halts r_p4_row_helpers_15 r_p3_kinds) rfl dX2_runMoves_56 (fun H locs hB => ?_)
          refine lv_iinc (v := (x6 + 1)) (lv' := [(6, .int (x6 + 1)), (5, .int z_16), (0, .ref a_t), (1, .int x1), (2, .int x2), (3, .ref a_p3), (4, .ref a_p4)]) (k := 6) hx hb dX2_runMoves_59 hl rfl rfl (by decide) rfl (fun ls hl => ?_)
          refine lv_goto (tgt := 6) hx hb dX2_runMoves_62 (by decide) ?_
          exact hkr_6 _ _ _ _ _ _ _ _ _ _ _ _ _ _ _ _ _ _ _ _ _ hf hB (lv_sub hl [2, 3, 4, 5, 6, 1, 0] rfl)

set_option maxRecDepth 100000 in
set_option maxHeartbeats 4000000 in
theorem lt_Judge_runMoves_6 {p : Program} {l : Launch} {e : Env} {s : State} {m : MethodId} {below : List Frame} {meth : Method} {c : Code} {A : Nat → Prop} {D : va_G} {k : Nat → ClassId} {a_t : Nat} {d_t : Nat → Nat} {a_p3 : Nat} {d_p3 : Nat → Nat} {i_p3 : Nat → Int32} {a_p4 : Nat} {d_p4 : Nat → Nat} {d_p4_row : Nat → Nat} {r_p3_grades : Nat → Int32} {d_p4_halves : Nat → Nat} {r_p3_halts : Nat → Int32} {r_p3_kinds : Nat → Int32} {n1 : Int32} {n2 : Int32} {Q : Int32 → (Nat → Int32) → (Nat → Int32) → (Nat → Int32) → (Nat → Int32) → (Nat → Int32) → (Nat → Int32) → (Nat → Int32) → (Nat → Int32) → (Nat → Int32) → (Nat → Int32) → (Nat → Int32) → (Nat → Int32) → (Nat → Int32) → (Nat → Int32) → (Nat → Int32) → (Nat → Int32) → Prop}  {x1 : Int32} {x2 : Int32} {kx_6 : (Int32) → (Nat → Int32) → (Nat → Int32) → (Nat → Int32) → (Nat → Int32) → (Nat → Int32) → (Nat → Int32) → (Nat → Int32) → (Nat → Int32) → (Nat → Int32) → (Nat → Int32) → (Nat → Int32) → (Nat → Int32) → (Nat → Int32) → (Nat → Int32) → (Nat → Int32) → (Nat → Int32) → Prop} (F : Fx p m c cX2_runMoves 7 s ([.ref a_t, .int n1, .int n2, .ref a_p3, .ref a_p4] : List Value).toArray RX2 D k) (hr : meth.sig.returnType = (some .int)) (hlk : meth.locks = false) (hA : ∀ q : Nat, s.heap.size ≤ q → A q) (hkx_6 : ∀ (x5 : Int32) (i_t : Nat → Int32) (i_p4 : Nat → Int32) (i_p4_row : Nat → Int32) (r_p4_row_longs : Nat → Int32) (r_p4_row_weights : Nat → Int32) (r_p4_row_pushes : Nat → Int32) (r_p4_row_bears : Nat → Int32) (r_p4_row_strengths : Nat → Int32) (r_p4_row_wears : Nat → Int32) (i_p4_halves : Nat → Int32) (r_p4_halves_starts : Nat → Int32) (r_p4_halves_sizes : Nat → Int32) (r_p4_halves_units : Nat → Int32) (r_p4_halves_kinds : Nat → Int32) (r_p4_row_kinds : Nat → Int32) (r_p4_row_helpers : Nat → Int32) (H : Heap) (locs : List Loc) (ls : Array Slot), kx_6 x5 i_t i_p4 i_p4_row r_p4_row_longs r_p4_row_weights r_p4_row_pushes r_p4_row_bears r_p4_row_strengths r_p4_row_wears i_p4_halves r_p4_halves_starts r_p4_halves_sizes r_p4_halves_units r_p4_halves_kinds r_p4_row_kinds r_p4_row_helpers → Bd D A s.heap (wd_Judge_runMoves k a_t d_t i_t a_p3 d_p3 i_p3 a_p4 d_p4 i_p4 d_p4_row i_p4_row r_p4_row_longs r_p3_grades r_p4_row_weights r_p4_row_pushes r_p4_row_bears r_p4_row_strengths r_p4_row_wears d_p4_halves i_p4_halves r_p4_halves_starts r_p4_halves_sizes r_p4_halves_units r_p4_halves_kinds r_p4_row_kinds r_p3_halts r_p4_row_helpers r_p3_kinds) H locs → lv_has ls 7 [(5, .int x5)] → W p l e { frames := 4, cells := 0, slots := 0, locals := 99 } s m ([.ref a_t, .int n1, .int n2, .ref a_p3, .ref a_p4] : List Value).toArray below meth c H locs 0 0 (Ei below (fun r w => ∃ (i_t : Nat → Int32), ∃ (i_p4 : Nat → Int32), ∃ (i_p4_row : Nat → Int32), ∃ (r_p4_row_longs : Nat → Int32), ∃ (r_p4_row_weights : Nat → Int32), ∃ (r_p4_row_pushes : Nat → Int32), ∃ (r_p4_row_bears : Nat → Int32), ∃ (r_p4_row_strengths : Nat → Int32), ∃ (r_p4_row_wears : Nat → Int32), ∃ (i_p4_halves : Nat → Int32), ∃ (r_p4_halves_starts : Nat → Int32), ∃ (r_p4_halves_sizes : Nat → Int32), ∃ (r_p4_halves_units : Nat → Int32), ∃ (r_p4_halves_kinds : Nat → Int32), ∃ (r_p4_row_kinds : Nat → Int32), ∃ (r_p4_row_helpers : Nat → Int32), w = (wd_Judge_runMoves k a_t d_t i_t a_p3 d_p3 i_p3 a_p4 d_p4 i_p4 d_p4_row i_p4_row r_p4_row_longs r_p3_grades r_p4_row_weights r_p4_row_pushes r_p4_row_bears r_p4_row_strengths r_p4_row_wears d_p4_halves i_p4_halves r_p4_halves_starts r_p4_halves_sizes r_p4_halves_units r_p4_halves_kinds r_p4_row_kinds r_p3_halts r_p4_row_helpers r_p3_kinds) ∧ Q r i_t i_p4 i_p4_row r_p4_row_longs r_p4_row_weights r_p4_row_pushes r_p4_row_bears r_p4_row_strengths r_p4_row_wears i_p4_halves r_p4_halves_starts r_p4_halves_sizes r_p4_halves_units r_p4_halves_kinds r_p4_row_kinds r_p4_row_helpers) D k A ([.ref a_t, .int n1, .int n2, .ref a_p3, .ref a_p4] : List Value).toArray s 0 0) (F0 m 65 ls [])) :
    ∀ n : Nat, ∀ (x5 : Int32) (x6 : Int32) (i_t : Nat → Int32) (i_p4 : Nat → Int32) (i_p4_row : Nat → Int32) (r_p4_row_longs : Nat → Int32) (r_p4_row_weights : Nat → Int32) (r_p4_row_pushes : Nat → Int32) (r_p4_row_bears : Nat → Int32) (r_p4_row_strengths : Nat → Int32) (r_p4_row_wears : Nat → Int32) (i_p4_halves : Nat → Int32) (r_p4_halves_starts : Nat → Int32) (r_p4_halves_sizes : Nat → Int32) (r_p4_halves_units : Nat → Int32) (r_p4_halves_kinds : Nat → Int32) (r_p4_row_kinds : Nat → Int32) (r_p4_row_helpers : Nat → Int32) (H : Heap) (locs : List Loc) (ls : Array Slot), lp_Judge_runMoves_6 i_p3 r_p3_grades r_p3_halts r_p3_kinds x1 x2 kx_6 n x5 x6 i_t i_p4 i_p4_row r_p4_row_longs r_p4_row_weights r_p4_row_pushes r_p4_row_bears r_p4_row_strengths r_p4_row_wears i_p4_halves r_p4_halves_starts r_p4_halves_sizes r_p4_halves_units r_p4_halves_kinds r_p4_row_kinds r_p4_row_helpers → Bd D A s.heap (wd_Judge_runMoves k a_t d_t i_t a_p3 d_p3 i_p3 a_p4 d_p4 i_p4 d_p4_row i_p4_row r_p4_row_longs r_p3_grades r_p4_row_weights r_p4_row_pushes r_p4_row_bears r_p4_row_strengths r_p4_row_wears d_p4_halves i_p4_halves r_p4_halves_starts r_p4_halves_sizes r_p4_halves_units r_p4_halves_kinds r_p4_row_kinds r_p3_halts r_p4_row_helpers r_p3_kinds) H locs → lv_has ls 7 [(0, .ref a_t), (1, .int x1), (2, .int x2), (3, .ref a_p3), (4, .ref a_p4), (5, .int x5), (6, .int x6)] → W p l e { frames := 4, cells := 0, slots := 0, locals := 99 } s m ([.ref a_t, .int n1, .int n2, .ref a_p3, .ref a_p4] : List Value).toArray below meth c H locs 0 0 (Ei below (fun r w => ∃ (i_t : Nat → Int32), ∃ (i_p4 : Nat → Int32), ∃ (i_p4_row : Nat → Int32), ∃ (r_p4_row_longs : Nat → Int32), ∃ (r_p4_row_weights : Nat → Int32), ∃ (r_p4_row_pushes : Nat → Int32), ∃ (r_p4_row_bears : Nat → Int32), ∃ (r_p4_row_strengths : Nat → Int32), ∃ (r_p4_row_wears : Nat → Int32), ∃ (i_p4_halves : Nat → Int32), ∃ (r_p4_halves_starts : Nat → Int32), ∃ (r_p4_halves_sizes : Nat → Int32), ∃ (r_p4_halves_units : Nat → Int32), ∃ (r_p4_halves_kinds : Nat → Int32), ∃ (r_p4_row_kinds : Nat → Int32), ∃ (r_p4_row_helpers : Nat → Int32), w = (wd_Judge_runMoves k a_t d_t i_t a_p3 d_p3 i_p3 a_p4 d_p4 i_p4 d_p4_row i_p4_row r_p4_row_longs r_p3_grades r_p4_row_weights r_p4_row_pushes r_p4_row_bears r_p4_row_strengths r_p4_row_wears d_p4_halves i_p4_halves r_p4_halves_starts r_p4_halves_sizes r_p4_halves_units r_p4_halves_kinds r_p4_row_kinds r_p3_halts r_p4_row_helpers r_p3_kinds) ∧ Q r i_t i_p4 i_p4_row r_p4_row_longs r_p4_row_weights r_p4_row_pushes r_p4_row_bears r_p4_row_strengths r_p4_row_wears i_p4_halves r_p4_halves_starts r_p4_halves_sizes r_p4_halves_units r_p4_halves_kinds r_p4_row_kinds r_p4_row_helpers) D k A ([.ref a_t, .int n1, .int n2, .ref a_p3, .ref a_p4] : List Value).toArray s 0 0) (F0 m 6 ls []) := by
  intro n
  induction n with
  | zero => intro x5 x6 i_t i_p4 i_p4_row r_p4_row_longs r_p4_row_weights r_p4_row_pushes r_p4_row_bears r_p4_row_strengths r_p4_row_wears i_p4_halves r_p4_halves_starts r_p4_halves_sizes r_p4_halves_units r_p4_halves_kinds r_p4_row_kinds r_p4_row_helpers H locs ls hf; exact absurd hf (fun h => h)
  | succ n ih => exact bt_Judge_runMoves_6 F hr hlk hA hkx_6 ih

set_option maxRecDepth 100000 in
set_option maxHeartbeats 4000000 in
theorem c_Judge_runMoves (l : Launch) (D : va_G) (k : Nat → ClassId) (a_t : Nat) (d_t : Nat → Nat) (i_t : Nat → Int32) (a_p3 : Nat) (d_p3 : Nat → Nat) (i_p3 : Nat → Int32) (a_p4 : Nat) (d_p4 : Nat → Nat) (i_p4 : Nat → Int32) (d_p4_row : Nat → Nat) (i_p4_row : Nat → Int32) (r_p4_row_longs : Nat → Int32) (r_p3_grades : Nat → Int32) (r_p4_row_weights : Nat → Int32) (r_p4_row_pushes : Nat → Int32) (r_p4_row_bears : Nat → Int32) (r_p4_row_strengths : Nat → Int32) (r_p4_row_wears : Nat → Int32) (d_p4_halves : Nat → Nat) (i_p4_halves : Nat → Int32) (r_p4_halves_starts : Nat → Int32) (r_p4_halves_sizes : Nat → Int32) (r_p4_halves_units : Nat → Int32) (r_p4_halves_kinds : Nat → Int32) (r_p4_row_kinds : Nat → Int32) (r_p3_halts : Nat → Int32) (r_p4_row_helpers : Nat → Int32) (r_p3_kinds : Nat → Int32) (n1 : Int32) (n2 : Int32) (Q : Int32 → (Nat → Int32) → (Nat → Int32) → (Nat → Int32) → (Nat → Int32) → (Nat → Int32) → (Nat → Int32) → (Nat → Int32) → (Nat → Int32) → (Nat → Int32) → (Nat → Int32) → (Nat → Int32) → (Nat → Int32) → (Nat → Int32) → (Nat → Int32) → (Nat → Int32) → (Nat → Int32) → Prop)  (hf : w_Judge_runMoves i_t i_p3 i_p4 i_p4_row r_p4_row_longs r_p3_grades r_p4_row_weights r_p4_row_pushes r_p4_row_bears r_p4_row_strengths r_p4_row_wears i_p4_halves r_p4_halves_starts r_p4_halves_sizes r_p4_halves_units r_p4_halves_kinds r_p4_row_kinds r_p3_halts r_p4_row_helpers r_p3_kinds n1 n2 Q) : CtI l yX2_runMoves cX2_runMoves 7 (some .int) 4 99 0 0 D k [.ref a_t, .int n1, .int n2, .ref a_p3, .ref a_p4] (wd_Judge_runMoves k a_t d_t i_t a_p3 d_p3 i_p3 a_p4 d_p4 i_p4 d_p4_row i_p4_row r_p4_row_longs r_p3_grades r_p4_row_weights r_p4_row_pushes r_p4_row_bears r_p4_row_strengths r_p4_row_wears d_p4_halves i_p4_halves r_p4_halves_starts r_p4_halves_sizes r_p4_halves_units r_p4_halves_kinds r_p4_row_kinds r_p3_halts r_p4_row_helpers r_p3_kinds) (fun r w => ∃ (i_t : Nat → Int32), ∃ (i_p4 : Nat → Int32), ∃ (i_p4_row : Nat → Int32), ∃ (r_p4_row_longs : Nat → Int32), ∃ (r_p4_row_weights : Nat → Int32), ∃ (r_p4_row_pushes : Nat → Int32), ∃ (r_p4_row_bears : Nat → Int32), ∃ (r_p4_row_strengths : Nat → Int32), ∃ (r_p4_row_wears : Nat → Int32), ∃ (i_p4_halves : Nat → Int32), ∃ (r_p4_halves_starts : Nat → Int32), ∃ (r_p4_halves_sizes : Nat → Int32), ∃ (r_p4_halves_units : Nat → Int32), ∃ (r_p4_halves_kinds : Nat → Int32), ∃ (r_p4_row_kinds : Nat → Int32), ∃ (r_p4_row_helpers : Nat → Int32), w = (wd_Judge_runMoves k a_t d_t i_t a_p3 d_p3 i_p3 a_p4 d_p4 i_p4 d_p4_row i_p4_row r_p4_row_longs r_p3_grades r_p4_row_weights r_p4_row_pushes r_p4_row_bears r_p4_row_strengths r_p4_row_wears d_p4_halves i_p4_halves r_p4_halves_starts r_p4_halves_sizes r_p4_halves_units r_p4_halves_kinds r_p4_row_kinds r_p3_halts r_p4_row_helpers r_p3_kinds) ∧ Q r i_t i_p4 i_p4_row r_p4_row_longs r_p4_row_weights r_p4_row_pushes r_p4_row_bears r_p4_row_strengths r_p4_row_wears i_p4_halves r_p4_halves_starts r_p4_halves_sizes r_p4_halves_units r_p4_halves_kinds r_p4_row_kinds r_p4_row_helpers) := by
  refine CtI.of (by decide) (Nat.le_of_ble_eq_true rfl) ?_
  intro p e s m below meth c A F hr hlk hnm hA hB ls hl
  have hx := F.x
  have hb := F.b
  unfold w_Judge_runMoves at hf
  replace hl : lv_has ls 7 [(0, .ref a_t), (1, .int n1), (2, .int n2), (3, .ref a_p3), (4, .ref a_p4)] := hl
  refine lv_iconst (v := 0) hx hb dX2_runMoves_0 (by decide) ?_
  refine lv_istore (lv' := [(5, .int (0 : Int32)), (0, .ref a_t), (1, .int n1), (2, .int n2), (3, .ref a_p3), (4, .ref a_p4)]) hx hb dX2_runMoves_1 hl (by decide) rfl (fun ls hl => ?_)
  refine lv_iconst (v := 0) hx hb dX2_runMoves_3 (by decide) ?_
  refine lv_istore (lv' := [(6, .int (0 : Int32)), (5, .int (0 : Int32)), (0, .ref a_t), (1, .int n1), (2, .int n2), (3, .ref a_p3), (4, .ref a_p4)]) hx hb dX2_runMoves_4 hl (by decide) rfl (fun ls hl => ?_)
  obtain ⟨n_38, hf⟩ := hf
  refine lt_Judge_runMoves_6 F hr hlk hA (fun x5_21 i_t_22 i_p4_23 i_p4_row_24 r_p4_row_longs_25 r_p4_row_weights_26 r_p4_row_pushes_27 r_p4_row_bears_28 r_p4_row_strengths_29 r_p4_row_wears_30 i_p4_halves_31 r_p4_halves_starts_32 r_p4_halves_sizes_33 r_p4_halves_units_34 r_p4_halves_kinds_35 r_p4_row_kinds_36 r_p4_row_helpers_37 H locs ls hf hB hl => ?_) n_38 _ _ _ _ _ _ _ _ _ _ _ _ _ _ _ _ _ _ _ _ _ hf hB (lv_sub hl [2, 3, 4, 5, 6, 1, 0] rfl)
  refine lv_iload hx hb dX2_runMoves_65 (lv_at hl 0 rfl) ?_
  exact r_i F hr hlk hB ⟨_, _, _, _, _, _, _, _, _, _, _, _, _, _, _, _, rfl, hf⟩ dX2_runMoves_67

/-! LongTrain.Judge.runOff -/
set_option maxRecDepth 100000 in
set_option maxHeartbeats 4000000 in
theorem c_Judge_runOff (l : Launch) (D : va_G) (k : Nat → ClassId) (a_p0 : Nat) (d_p0 : Nat → Nat) (i_p0 : Nat → Int32) (r_p0_helpers : Nat → Int32) (r_p0_pushes : Nat → Int32)  (Q : Int32 → (Nat → Int32) → (Nat → Int32) → Prop)  (hf : w_Judge_runOff i_p0 r_p0_helpers r_p0_pushes Q) : CtI l yX2_runOff cX2_runOff 1 (some .int) 1 22 0 0 D k [.ref a_p0] (wd_Judge_runOff k a_p0 d_p0 i_p0 r_p0_helpers r_p0_pushes) (fun r w => ∃ (r_p0_helpers : Nat → Int32), ∃ (r_p0_pushes : Nat → Int32), w = (wd_Judge_runOff k a_p0 d_p0 i_p0 r_p0_helpers r_p0_pushes) ∧ Q r r_p0_helpers r_p0_pushes) := by
  refine CtI.of (by decide) (Nat.le_of_ble_eq_true rfl) ?_
  intro p e s m below meth c A F hr hlk hnm hA hB ls hl
  have hx := F.x
  have hb := F.b
  unfold w_Judge_runOff at hf
  replace hl : lv_has ls 1 [(0, .ref a_p0)] := hl
  refine lv_aload_n hx hb dX2_runOff_0 rfl (lv_at hl 0 rfl) ?_
  refine k_vi (wr := [((d_p0 5), ai k 20 r_p0_pushes)]) (rest := []) F hA hB (c_Row_helperCount l D k a_p0 d_p0 i_p0 r_p0_helpers _  hf) ml_RX2_87 mv_yX8_helperCount [0, 1] [2] rfl rfl (by decide) (by decide) (by decide) 0 rfl rfl rfl hl.1 rfl (Nat.le_of_ble_eq_true rfl) ⟨Nat.le_of_ble_eq_true rfl, Nat.le_of_ble_eq_true rfl⟩ ⟨Nat.le_of_ble_eq_true rfl, Nat.le_of_ble_eq_true rfl⟩ dX2_runOff_1 (fun z_1 w1 H locs hq hB => ?_)
  obtain ⟨rfl, hf⟩ := hq
  replace hB : Bd D A s.heap (wd_Judge_runOff k a_p0 d_p0 i_p0 r_p0_helpers r_p0_pushes) H locs := hB.sub [1, 2, 0] (by decide) rfl
  refine lv_if_ne (tgt := 9) hx hb dX2_runOff_4 (by decide) (fun c_4 => ?_) (fun c_4 => ?_)
  · replace hf := hf.1 c_4
    refine lv_aload_n hx hb dX2_runOff_9 rfl (lv_at hl 0 rfl) ?_
    refine k_vv (wr := []) (rest := []) F hA hB (c_Row_dismissHelpers l D k a_p0 d_p0 i_p0 r_p0_pushes r_p0_helpers _  hf) ml_RX2_95 mv_yX8_dismissHelpers [0, 2, 1] [] rfl rfl (by decide) (by decide) (by decide) 0 rfl rfl rfl hl.1 rfl (Nat.le_of_ble_eq_true rfl) ⟨Nat.le_of_ble_eq_true rfl, Nat.le_of_ble_eq_true rfl⟩ ⟨Nat.le_of_ble_eq_true rfl, Nat.le_of_ble_eq_true rfl⟩ dX2_runOff_10 (fun w1 H locs hq hB => ?_)
    obtain ⟨r_p0_pushes_2, r_p0_helpers_3, rfl, hf⟩ := hq
    replace hB : Bd D A s.heap (wd_Judge_runOff k a_p0 d_p0 i_p0 r_p0_helpers_3 r_p0_pushes_2) H locs := hB.sub [0, 2, 1] (by decide) rfl
    refine lv_iconst (v := 0) hx hb dX2_runOff_13 (by decide) ?_
    exact r_i F hr hlk hB ⟨_, _, rfl, hf⟩ dX2_runOff_14
  · replace hf := hf.2 c_4
    refine lv_iconst (v := 4) hx hb dX2_runOff_7 (by decide) ?_
    exact r_i F hr hlk hB ⟨_, _, rfl, hf⟩ dX2_runOff_8

/-! LongTrain.Judge.runRest -/
set_option maxRecDepth 100000 in
set_option maxHeartbeats 4000000 in
theorem c_Judge_runRest (l : Launch) (D : va_G) (k : Nat → ClassId) (a_p0 : Nat) (d_p0 : Nat → Nat) (i_p0 : Nat → Int32)  (Q : Int32 → (Nat → Int32) → Prop)  (hf : w_Judge_runRest i_p0 Q) : CtI l yX2_runRest cX2_runRest 1 (some .int) 0 0 0 0 D k [.ref a_p0] (wd_Judge_runRest k a_p0 d_p0 i_p0) (fun r w => ∃ (i_p0 : Nat → Int32), w = (wd_Judge_runRest k a_p0 d_p0 i_p0) ∧ Q r i_p0) := by
  refine CtI.of (by decide) (Nat.le_of_ble_eq_true rfl) ?_
  intro p e s m below meth c A F hr hlk hnm hA hB ls hl
  have hx := F.x
  have hb := F.b
  unfold w_Judge_runRest at hf
  replace hl : lv_has ls 1 [(0, .ref a_p0)] := hl
  refine lv_aload_n hx hb dX2_runRest_0 rfl (lv_at hl 0 rfl) ?_
  refine g_get (w := .int (i_p0 2)) F hB 0 rfl fl_RX2_102 rfl dX2_runRest_1 ?_
  refine lv_if_ne (tgt := 10) hx hb dX2_runRest_4 (by decide) (fun c_1 => ?_) (fun c_1 => ?_)
  · replace hf := hf.1 c_1
    refine lv_aload_n hx hb dX2_runRest_10 rfl (lv_at hl 0 rfl) ?_
    refine lv_iconst (v := 0) hx hb dX2_runRest_11 (by decide) ?_
    refine g_puti F hB 0 rfl fl_RX2_102 rfl (wd_Judge_runRest k a_p0 d_p0 (upd i_p0 2 (0 : Int32))) rfl dX2_runRest_12 (fun H locs hB => ?_)
    refine lv_iconst (v := 0) hx hb dX2_runRest_15 (by decide) ?_
    exact r_i F hr hlk hB ⟨_, rfl, hf⟩ dX2_runRest_16
  · replace hf := hf.2 c_1
    refine lv_bipush (v := 6) hx hb dX2_runRest_7 (by decide) ?_
    exact r_i F hr hlk hB ⟨_, rfl, hf⟩ dX2_runRest_9

/-! LongTrain.Judge.runRow -/
set_option maxRecDepth 100000 in
set_option maxHeartbeats 4000000 in
theorem c_Judge_runRow (l : Launch) (D : va_G) (k : Nat → ClassId) (a_t : Nat) (d_t : Nat → Nat) (i_t : Nat → Int32) (a_p4 : Nat) (d_p4 : Nat → Nat) (i_p4 : Nat → Int32) (a_p5 : Nat) (d_p5 : Nat → Nat) (i_p5 : Nat → Int32) (d_p5_row : Nat → Nat) (i_p5_row : Nat → Int32) (r_p5_row_helpers : Nat → Int32) (r_p5_row_pushes : Nat → Int32) (d_p5_halves : Nat → Nat) (i_p5_halves : Nat → Int32) (r_p5_halves_starts : Nat → Int32) (r_p5_halves_sizes : Nat → Int32) (r_p5_halves_units : Nat → Int32) (r_p5_row_longs : Nat → Int32) (r_p5_halves_kinds : Nat → Int32) (r_p5_row_kinds : Nat → Int32) (r_p4_grades : Nat → Int32) (r_p5_row_weights : Nat → Int32) (r_p5_row_bears : Nat → Int32) (r_p5_row_strengths : Nat → Int32) (r_p5_row_wears : Nat → Int32) (r_p4_halts : Nat → Int32) (r_p4_kinds : Nat → Int32) (n1 : Int32) (n2 : Int32) (n3 : Int32) (Q : Int32 → (Nat → Int32) → (Nat → Int32) → (Nat → Int32) → (Nat → Int32) → (Nat → Int32) → (Nat → Int32) → (Nat → Int32) → (Nat → Int32) → (Nat → Int32) → (Nat → Int32) → (Nat → Int32) → (Nat → Int32) → (Nat → Int32) → (Nat → Int32) → (Nat → Int32) → (Nat → Int32) → Prop)  (hf : w_Judge_runRow i_t i_p4 i_p5 i_p5_row r_p5_row_helpers r_p5_row_pushes i_p5_halves r_p5_halves_starts r_p5_halves_sizes r_p5_halves_units r_p5_row_longs r_p5_halves_kinds r_p5_row_kinds r_p4_grades r_p5_row_weights r_p5_row_bears r_p5_row_strengths r_p5_row_wears r_p4_halts r_p4_kinds n1 n2 n3 Q) : CtI l yX2_runRow cX2_runRow 6 (some .int) 5 125 0 0 D k [.ref a_t, .int n1, .int n2, .int n3, .ref a_p4, .ref a_p5] (wd_Judge_runRow k a_t d_t i_t a_p4 d_p4 i_p4 a_p5 d_p5 i_p5 d_p5_row i_p5_row r_p5_row_helpers r_p5_row_pushes d_p5_halves i_p5_halves r_p5_halves_starts r_p5_halves_sizes r_p5_halves_units r_p5_row_longs r_p5_halves_kinds r_p5_row_kinds r_p4_grades r_p5_row_weights r_p5_row_bears r_p5_row_strengths r_p5_row_wears r_p4_halts r_p4_kinds) (fun r w => ∃ (i_t : Nat → Int32), ∃ (i_p5 : Nat → Int32), ∃ (i_p5_row : Nat → Int32), ∃ (r_p5_row_helpers : Nat → Int32), ∃ (r_p5_row_pushes : Nat → Int32), ∃ (i_p5_halves : Nat → Int32), ∃ (r_p5_halves_starts : Nat → Int32), ∃ (r_p5_halves_sizes : Nat → Int32), ∃ (r_p5_halves_units : Nat → Int32), ∃ (r_p5_row_longs : Nat → Int32), ∃ (r_p5_halves_kinds : Nat → Int32), ∃ (r_p5_row_kinds : Nat → Int32), ∃ (r_p5_row_weights : Nat → Int32), ∃ (r_p5_row_bears : Nat → Int32), ∃ (r_p5_row_strengths : Nat → Int32), ∃ (r_p5_row_wears : Nat → Int32), w = (wd_Judge_runRow k a_t d_t i_t a_p4 d_p4 i_p4 a_p5 d_p5 i_p5 d_p5_row i_p5_row r_p5_row_helpers r_p5_row_pushes d_p5_halves i_p5_halves r_p5_halves_starts r_p5_halves_sizes r_p5_halves_units r_p5_row_longs r_p5_halves_kinds r_p5_row_kinds r_p4_grades r_p5_row_weights r_p5_row_bears r_p5_row_strengths r_p5_row_wears r_p4_halts r_p4_kinds) ∧ Q r i_t i_p5 i_p5_row r_p5_row_helpers r_p5_row_pushes i_p5_halves r_p5_halves_starts r_p5_halves_sizes r_p5_halves_units r_p5_row_longs r_p5_halves_kinds r_p5_row_kinds r_p5_row_weights r_p5_row_bears r_p5_row_strengths r_p5_row_wears) := by
  refine CtI.of (by decide) (Nat.le_of_ble_eq_true rfl) ?_
  intro p e s m below meth c A F hr hlk hnm hA hB ls hl
  have hx := F.x
  have hb := F.b
  unfold w_Judge_runRow at hf
  replace hl : lv_has ls 6 [(0, .ref a_t), (1, .int n1), (2, .int n2), (3, .int n3), (4, .ref a_p4), (5, .ref a_p5)] := hl
  refine lv_iload_n hx hb dX2_runRow_0 rfl (lv_at hl 1 rfl) ?_
  rcases Classical.em (n1 = 7) with c_1 | c_1
  · replace hf := hf.1 c_1
    refine lv_tableIn (tgt := 59) hx hb dX2_runRow_1 (by rw [c_1]; decide) (by rw [c_1]; decide) (by rw [c_1]; rfl) (by decide) ?_
    refine lv_aload_n hx hb dX2_runRow_59 rfl (lv_at hl 0 rfl) ?_
    refine lv_iload_n hx hb dX2_runRow_60 rfl (lv_at hl 2 rfl) ?_
    refine lv_iconst (v := 1) hx hb dX2_runRow_61 (by decide) ?_
    refine lv_aload hx hb dX2_runRow_62 (lv_at hl 4 rfl) ?_
    refine lv_aload hx hb dX2_runRow_64 (lv_at hl 5 rfl) ?_
    refine k_vi (wr := []) (rest := []) F hA hB (c_Judge_runMoves l D k a_t d_t i_t a_p4 d_p4 i_p4 a_p5 d_p5 i_p5 d_p5_row i_p5_row r_p5_row_longs r_p4_grades r_p5_row_weights r_p5_row_pushes r_p5_row_bears r_p5_row_strengths r_p5_row_wears d_p5_halves i_p5_halves r_p5_halves_starts r_p5_halves_sizes r_p5_halves_units r_p5_halves_kinds r_p5_row_kinds r_p4_halts r_p5_row_helpers r_p4_kinds n2 (1 : Int32) _  hf) ml_RX2_63 mv_yX2_runMoves [0, 1, 2, 3, 10, 13, 14, 5, 15, 16, 17, 6, 7, 8, 9, 11, 12, 18, 4, 19] [] rfl rfl (by decide) (by decide) (by decide) 0 rfl rfl rfl hl.1 rfl (Nat.le_of_ble_eq_true rfl) ⟨Nat.le_of_ble_eq_true rfl, Nat.le_of_ble_eq_true rfl⟩ ⟨Nat.le_of_ble_eq_true rfl, Nat.le_of_ble_eq_true rfl⟩ dX2_runRow_66 (fun z_18 w1 H locs hq hB => ?_)
    obtain ⟨i_t_2, i_p5_3, i_p5_row_4, r_p5_row_longs_5, r_p5_row_weights_6, r_p5_row_pushes_7, r_p5_row_bears_8, r_p5_row_strengths_9, r_p5_row_wears_10, i_p5_halves_11, r_p5_halves_starts_12, r_p5_halves_sizes_13, r_p5_halves_units_14, r_p5_halves_kinds_15, r_p5_row_kinds_16, r_p5_row_helpers_17, rfl, hf⟩ := hq
    replace hB : Bd D A s.heap (wd_Judge_runRow k a_t d_t i_t_2 a_p4 d_p4 i_p4 a_p5 d_p5 i_p5_3 d_p5_row i_p5_row_4 r_p5_row_helpers_17 r_p5_row_pushes_7 d_p5_halves i_p5_halves_11 r_p5_halves_starts_12 r_p5_halves_sizes_13 r_p5_halves_units_14 r_p5_row_longs_5 r_p5_halves_kinds_15 r_p5_row_kinds_16 r_p4_grades r_p5_row_weights_6 r_p5_row_bears_8 r_p5_row_strengths_9 r_p5_row_wears_10 r_p4_halts r_p4_kinds) H locs := hB.sub [0, 1, 2, 3, 18, 7, 11, 12, 13, 14, 4, 15, 16, 5, 6, 8, 9, 10, 17, 19] (by decide) rfl
    exact r_i F hr hlk hB ⟨_, _, _, _, _, _, _, _, _, _, _, _, _, _, _, _, rfl, hf⟩ dX2_runRow_69
  · replace hf := hf.2 c_1
    rcases Classical.em (n1 = 8) with c_19 | c_19
    · replace hf := hf.1 c_19
      refine lv_tableIn (tgt := 97) hx hb dX2_runRow_1 (by rw [c_19]; decide) (by rw [c_19]; decide) (by rw [c_19]; rfl) (by decide) ?_
      refine lv_aload hx hb dX2_runRow_97 (lv_at hl 5 rfl) ?_
      refine k_si (wr := [(a_t, ob 2 (rfd d_t) i_t j0), (a_p4, ob 3 (rfd d_p4) i_p4 j0), ((d_p5 0), ob 8 (rfd d_p5_row) i_p5_row j0), ((d_p5_row 6), ai k 20 r_p5_row_helpers), ((d_p5_row 5), ai k 20 r_p5_row_pushes), ((d_p5 1), ob 1 (rfd d_p5_halves) i_p5_halves j0), ((d_p5_halves 2), ai k 20 r_p5_halves_starts), ((d_p5_halves 3), ai k 20 r_p5_halves_sizes), ((d_p5_halves 4), ai k 20 r_p5_halves_units), ((d_p5_row 1), ai k 20 r_p5_row_longs), ((d_p5_halves 0), ai k 20 r_p5_halves_kinds), ((d_p5_row 0), ai k 20 r_p5_row_kinds), ((d_p4 0), ai k 400 r_p4_grades), ((d_p5_row 2), ai k 20 r_p5_row_weights), ((d_p5_row 7), ai k 20 r_p5_row_bears), ((d_p5_row 3), ai k 20 r_p5_row_strengths), ((d_p5_row 4), ai k 20 r_p5_row_wears), ((d_p4 2), ai k 30 r_p4_halts), ((d_p4 6), ai k 18 r_p4_kinds)]) (rest := []) F hA hB (c_Judge_runRest l D k a_p5 d_p5 i_p5 _  hf) ml_RX2_79 ms_yX2_runRest [2] [0, 1, 3, 4, 5, 6, 7, 8, 9, 10, 11, 12, 13, 14, 15, 16, 17, 18, 19] rfl rfl (by decide) (by decide) (by decide) rfl hl.1 rfl (Nat.le_of_ble_eq_true rfl) ⟨Nat.le_of_ble_eq_true rfl, Nat.le_of_ble_eq_true rfl⟩ ⟨Nat.le_of_ble_eq_true rfl, Nat.le_of_ble_eq_true rfl⟩ dX2_runRow_99 (fun z_21 w1 H locs hq hB => ?_)
      obtain ⟨i_p5_20, rfl, hf⟩ := hq
      replace hB : Bd D A s.heap (wd_Judge_runRow k a_t d_t i_t a_p4 d_p4 i_p4 a_p5 d_p5 i_p5_20 d_p5_row i_p5_row r_p5_row_helpers r_p5_row_pushes d_p5_halves i_p5_halves r_p5_halves_starts r_p5_halves_sizes r_p5_halves_units r_p5_row_longs r_p5_halves_kinds r_p5_row_kinds r_p4_grades r_p5_row_weights r_p5_row_bears r_p5_row_strengths r_p5_row_wears r_p4_halts r_p4_kinds) H locs := hB.sub [0, 1, 19, 2, 3, 4, 5, 6, 7, 8, 9, 10, 11, 12, 13, 14, 15, 16, 17, 18] (by decide) rfl
      exact r_i F hr hlk hB ⟨_, _, _, _, _, _, _, _, _, _, _, _, _, _, _, _, rfl, hf⟩ dX2_runRow_102
    · replace hf := hf.2 c_19
      rcases Classical.em (n1 = 9) with c_22 | c_22
      · replace hf := hf.1 c_22
        refine lv_tableIn (tgt := 97) hx hb dX2_runRow_1 (by rw [c_22]; decide) (by rw [c_22]; decide) (by rw [c_22]; rfl) (by decide) ?_
        refine lv_aload hx hb dX2_runRow_97 (lv_at hl 5 rfl) ?_
        refine k_si (wr := [(a_t, ob 2 (rfd d_t) i_t j0), (a_p4, ob 3 (rfd d_p4) i_p4 j0), ((d_p5 0), ob 8 (rfd d_p5_row) i_p5_row j0), ((d_p5_row 6), ai k 20 r_p5_row_helpers), ((d_p5_row 5), ai k 20 r_p5_row_pushes), ((d_p5 1), ob 1 (rfd d_p5_halves) i_p5_halves j0), ((d_p5_halves 2), ai k 20 r_p5_halves_starts), ((d_p5_halves 3), ai k 20 r_p5_halves_sizes), ((d_p5_halves 4), ai k 20 r_p5_halves_units), ((d_p5_row 1), ai k 20 r_p5_row_longs), ((d_p5_halves 0), ai k 20 r_p5_halves_kinds), ((d_p5_row 0), ai k 20 r_p5_row_kinds), ((d_p4 0), ai k 400 r_p4_grades), ((d_p5_row 2), ai k 20 r_p5_row_weights), ((d_p5_row 7), ai k 20 r_p5_row_bears), ((d_p5_row 3), ai k 20 r_p5_row_strengths), ((d_p5_row 4), ai k 20 r_p5_row_wears), ((d_p4 2), ai k 30 r_p4_halts), ((d_p4 6), ai k 18 r_p4_kinds)]) (rest := []) F hA hB (c_Judge_runRest l D k a_p5 d_p5 i_p5 _  hf) ml_RX2_79 ms_yX2_runRest [2] [0, 1, 3, 4, 5, 6, 7, 8, 9, 10, 11, 12, 13, 14, 15, 16, 17, 18, 19] rfl rfl (by decide) (by decide) (by decide) rfl hl.1 rfl (Nat.le_of_ble_eq_true rfl) ⟨Nat.le_of_ble_eq_true rfl, Nat.le_of_ble_eq_true rfl⟩ ⟨Nat.le_of_ble_eq_true rfl, Nat.le_of_ble_eq_true rfl⟩ dX2_runRow_99 (fun z_24 w1 H locs hq hB => ?_)
        obtain ⟨i_p5_23, rfl, hf⟩ := hq
        replace hB : Bd D A s.heap (wd_Judge_runRow k a_t d_t i_t a_p4 d_p4 i_p4 a_p5 d_p5 i_p5_23 d_p5_row i_p5_row r_p5_row_helpers r_p5_row_pushes d_p5_halves i_p5_halves r_p5_halves_starts r_p5_halves_sizes r_p5_halves_units r_p5_row_longs r_p5_halves_kinds r_p5_row_kinds r_p4_grades r_p5_row_weights r_p5_row_bears r_p5_row_strengths r_p5_row_wears r_p4_halts r_p4_kinds) H locs := hB.sub [0, 1, 19, 2, 3, 4, 5, 6, 7, 8, 9, 10, 11, 12, 13, 14, 15, 16, 17, 18] (by decide) rfl
        exact r_i F hr hlk hB ⟨_, _, _, _, _, _, _, _, _, _, _, _, _, _, _, _, rfl, hf⟩ dX2_runRow_102
      · replace hf := hf.2 c_22
        rcases Classical.em (n1 = 10) with c_25 | c_25
        · replace hf := hf.1 c_25
          refine lv_tableIn (tgt := 97) hx hb dX2_runRow_1 (by rw [c_25]; decide) (by rw [c_25]; decide) (by rw [c_25]; rfl) (by decide) ?_
          refine lv_aload hx hb dX2_runRow_97 (lv_at hl 5 rfl) ?_
          refine k_si (wr := [(a_t, ob 2 (rfd d_t) i_t j0), (a_p4, ob 3 (rfd d_p4) i_p4 j0), ((d_p5 0), ob 8 (rfd d_p5_row) i_p5_row j0), ((d_p5_row 6), ai k 20 r_p5_row_helpers), ((d_p5_row 5), ai k 20 r_p5_row_pushes), ((d_p5 1), ob 1 (rfd d_p5_halves) i_p5_halves j0), ((d_p5_halves 2), ai k 20 r_p5_halves_starts), ((d_p5_halves 3), ai k 20 r_p5_halves_sizes), ((d_p5_halves 4), ai k 20 r_p5_halves_units), ((d_p5_row 1), ai k 20 r_p5_row_longs), ((d_p5_halves 0), ai k 20 r_p5_halves_kinds), ((d_p5_row 0), ai k 20 r_p5_row_kinds), ((d_p4 0), ai k 400 r_p4_grades), ((d_p5_row 2), ai k 20 r_p5_row_weights), ((d_p5_row 7), ai k 20 r_p5_row_bears), ((d_p5_row 3), ai k 20 r_p5_row_strengths), ((d_p5_row 4), ai k 20 r_p5_row_wears), ((d_p4 2), ai k 30 r_p4_halts), ((d_p4 6), ai k 18 r_p4_kinds)]) (rest := []) F hA hB (c_Judge_runRest l D k a_p5 d_p5 i_p5 _  hf) ml_RX2_79 ms_yX2_runRest [2] [0, 1, 3, 4, 5, 6, 7, 8, 9, 10, 11, 12, 13, 14, 15, 16, 17, 18, 19] rfl rfl (by decide) (by decide) (by decide) rfl hl.1 rfl (Nat.le_of_ble_eq_true rfl) ⟨Nat.le_of_ble_eq_true rfl, Nat.le_of_ble_eq_true rfl⟩ ⟨Nat.le_of_ble_eq_true rfl, Nat.le_of_ble_eq_true rfl⟩ dX2_runRow_99 (fun z_27 w1 H locs hq hB => ?_)
          obtain ⟨i_p5_26, rfl, hf⟩ := hq
          replace hB : Bd D A s.heap (wd_Judge_runRow k a_t d_t i_t a_p4 d_p4 i_p4 a_p5 d_p5 i_p5_26 d_p5_row i_p5_row r_p5_row_helpers r_p5_row_pushes d_p5_halves i_p5_halves r_p5_halves_starts r_p5_halves_sizes r_p5_halves_units r_p5_row_longs r_p5_halves_kinds r_p5_row_kinds r_p4_grades r_p5_row_weights r_p5_row_bears r_p5_row_strengths r_p5_row_wears r_p4_halts r_p4_kinds) H locs := hB.sub [0, 1, 19, 2, 3, 4, 5, 6, 7, 8, 9, 10, 11, 12, 13, 14, 15, 16, 17, 18] (by decide) rfl
          exact r_i F hr hlk hB ⟨_, _, _, _, _, _, _, _, _, _, _, _, _, _, _, _, rfl, hf⟩ dX2_runRow_102
        · replace hf := hf.2 c_25
          rcases Classical.em (n1 = 11) with c_28 | c_28
          · replace hf := hf.1 c_28
            refine lv_tableIn (tgt := 48) hx hb dX2_runRow_1 (by rw [c_28]; decide) (by rw [c_28]; decide) (by rw [c_28]; rfl) (by decide) ?_
            refine lv_aload_n hx hb dX2_runRow_48 rfl (lv_at hl 0 rfl) ?_
            refine lv_iload_n hx hb dX2_runRow_49 rfl (lv_at hl 2 rfl) ?_
            refine lv_iconst (v := 0) hx hb dX2_runRow_50 (by decide) ?_
            refine lv_aload hx hb dX2_runRow_51 (lv_at hl 4 rfl) ?_
            refine lv_aload hx hb dX2_runRow_53 (lv_at hl 5 rfl) ?_
            refine k_vi (wr := []) (rest := []) F hA hB (c_Judge_runMoves l D k a_t d_t i_t a_p4 d_p4 i_p4 a_p5 d_p5 i_p5 d_p5_row i_p5_row r_p5_row_longs r_p4_grades r_p5_row_weights r_p5_row_pushes r_p5_row_bears r_p5_row_strengths r_p5_row_wears d_p5_halves i_p5_halves r_p5_halves_starts r_p5_halves_sizes r_p5_halves_units r_p5_halves_kinds r_p5_row_kinds r_p4_halts r_p5_row_helpers r_p4_kinds n2 (0 : Int32) _  hf) ml_RX2_63 mv_yX2_runMoves [0, 1, 2, 3, 10, 13, 14, 5, 15, 16, 17, 6, 7, 8, 9, 11, 12, 18, 4, 19] [] rfl rfl (by decide) (by decide) (by decide) 0 rfl rfl rfl hl.1 rfl (Nat.le_of_ble_eq_true rfl) ⟨Nat.le_of_ble_eq_true rfl, Nat.le_of_ble_eq_true rfl⟩ ⟨Nat.le_of_ble_eq_true rfl, Nat.le_of_ble_eq_true rfl⟩ dX2_runRow_55 (fun z_45 w1 H locs hq hB => ?_)
            obtain ⟨i_t_29, i_p5_30, i_p5_row_31, r_p5_row_longs_32, r_p5_row_weights_33, r_p5_row_pushes_34, r_p5_row_bears_35, r_p5_row_strengths_36, r_p5_row_wears_37, i_p5_halves_38, r_p5_halves_starts_39, r_p5_halves_sizes_40, r_p5_halves_units_41, r_p5_halves_kinds_42, r_p5_row_kinds_43, r_p5_row_helpers_44, rfl, hf⟩ := hq
            replace hB : Bd D A s.heap (wd_Judge_runRow k a_t d_t i_t_29 a_p4 d_p4 i_p4 a_p5 d_p5 i_p5_30 d_p5_row i_p5_row_31 r_p5_row_helpers_44 r_p5_row_pushes_34 d_p5_halves i_p5_halves_38 r_p5_halves_starts_39 r_p5_halves_sizes_40 r_p5_halves_units_41 r_p5_row_longs_32 r_p5_halves_kinds_42 r_p5_row_kinds_43 r_p4_grades r_p5_row_weights_33 r_p5_row_bears_35 r_p5_row_strengths_36 r_p5_row_wears_37 r_p4_halts r_p4_kinds) H locs := hB.sub [0, 1, 2, 3, 18, 7, 11, 12, 13, 14, 4, 15, 16, 5, 6, 8, 9, 10, 17, 19] (by decide) rfl
            exact r_i F hr hlk hB ⟨_, _, _, _, _, _, _, _, _, _, _, _, _, _, _, _, rfl, hf⟩ dX2_runRow_58
          · replace hf := hf.2 c_28
            rcases Classical.em (n1 = 12) with c_46 | c_46
            · replace hf := hf.1 c_46
              refine lv_tableIn (tgt := 70) hx hb dX2_runRow_1 (by rw [c_46]; decide) (by rw [c_46]; decide) (by rw [c_46]; rfl) (by decide) ?_
              refine lv_iload_n hx hb dX2_runRow_70 rfl (lv_at hl 2 rfl) ?_
              refine lv_iload_n hx hb dX2_runRow_71 rfl (lv_at hl 3 rfl) ?_
              refine lv_aload hx hb dX2_runRow_72 (lv_at hl 5 rfl) ?_
              refine g_get (w := .ref (d_p5 0)) F hB 2 rfl fl_RX2_44 rfl dX2_runRow_74 ?_
              refine k_si (wr := [(a_t, ob 2 (rfd d_t) i_t j0), (a_p4, ob 3 (rfd d_p4) i_p4 j0), (a_p5, ob 10 (rfd d_p5) i_p5 j0), ((d_p5 1), ob 1 (rfd d_p5_halves) i_p5_halves j0), ((d_p5_halves 2), ai k 20 r_p5_halves_starts), ((d_p5_halves 3), ai k 20 r_p5_halves_sizes), ((d_p5_halves 4), ai k 20 r_p5_halves_units), ((d_p5_row 1), ai k 20 r_p5_row_longs), ((d_p5_halves 0), ai k 20 r_p5_halves_kinds), ((d_p5_row 0), ai k 20 r_p5_row_kinds), ((d_p4 0), ai k 400 r_p4_grades), ((d_p5_row 2), ai k 20 r_p5_row_weights), ((d_p5_row 7), ai k 20 r_p5_row_bears), ((d_p5_row 3), ai k 20 r_p5_row_strengths), ((d_p5_row 4), ai k 20 r_p5_row_wears), ((d_p4 2), ai k 30 r_p4_halts), ((d_p4 6), ai k 18 r_p4_kinds)]) (rest := []) F hA hB (c_Judge_runHelp l D k (d_p5 0) d_p5_row i_p5_row r_p5_row_helpers r_p5_row_pushes n2 n3 _  hf) ml_RX2_67 ms_yX2_runHelp [3, 4, 5] [0, 1, 2, 6, 7, 8, 9, 10, 11, 12, 13, 14, 15, 16, 17, 18, 19] rfl rfl (by decide) (by decide) (by decide) rfl hl.1 rfl (Nat.le_of_ble_eq_true rfl) ⟨Nat.le_of_ble_eq_true rfl, Nat.le_of_ble_eq_true rfl⟩ ⟨Nat.le_of_ble_eq_true rfl, Nat.le_of_ble_eq_true rfl⟩ dX2_runRow_77 (fun z_49 w1 H locs hq hB => ?_)
              obtain ⟨r_p5_row_helpers_47, r_p5_row_pushes_48, rfl, hf⟩ := hq
              replace hB : Bd D A s.heap (wd_Judge_runRow k a_t d_t i_t a_p4 d_p4 i_p4 a_p5 d_p5 i_p5 d_p5_row i_p5_row r_p5_row_helpers_47 r_p5_row_pushes_48 d_p5_halves i_p5_halves r_p5_halves_starts r_p5_halves_sizes r_p5_halves_units r_p5_row_longs r_p5_halves_kinds r_p5_row_kinds r_p4_grades r_p5_row_weights r_p5_row_bears r_p5_row_strengths r_p5_row_wears r_p4_halts r_p4_kinds) H locs := hB.sub [0, 1, 2, 17, 18, 19, 3, 4, 5, 6, 7, 8, 9, 10, 11, 12, 13, 14, 15, 16] (by decide) rfl
              exact r_i F hr hlk hB ⟨_, _, _, _, _, _, _, _, _, _, _, _, _, _, _, _, rfl, hf⟩ dX2_runRow_80
            · replace hf := hf.2 c_46
              rcases Classical.em (n1 = 13) with c_50 | c_50
              · replace hf := hf.1 c_50
                refine lv_tableIn (tgt := 81) hx hb dX2_runRow_1 (by rw [c_50]; decide) (by rw [c_50]; decide) (by rw [c_50]; rfl) (by decide) ?_
                refine lv_aload hx hb dX2_runRow_81 (lv_at hl 5 rfl) ?_
                refine g_get (w := .ref (d_p5 0)) F hB 2 rfl fl_RX2_44 rfl dX2_runRow_83 ?_
                refine k_si (wr := [(a_t, ob 2 (rfd d_t) i_t j0), (a_p4, ob 3 (rfd d_p4) i_p4 j0), (a_p5, ob 10 (rfd d_p5) i_p5 j0), ((d_p5 1), ob 1 (rfd d_p5_halves) i_p5_halves j0), ((d_p5_halves 2), ai k 20 r_p5_halves_starts), ((d_p5_halves 3), ai k 20 r_p5_halves_sizes), ((d_p5_halves 4), ai k 20 r_p5_halves_units), ((d_p5_row 1), ai k 20 r_p5_row_longs), ((d_p5_halves 0), ai k 20 r_p5_halves_kinds), ((d_p5_row 0), ai k 20 r_p5_row_kinds), ((d_p4 0), ai k 400 r_p4_grades), ((d_p5_row 2), ai k 20 r_p5_row_weights), ((d_p5_row 7), ai k 20 r_p5_row_bears), ((d_p5_row 3), ai k 20 r_p5_row_strengths), ((d_p5_row 4), ai k 20 r_p5_row_wears), ((d_p4 2), ai k 30 r_p4_halts), ((d_p4 6), ai k 18 r_p4_kinds)]) (rest := []) F hA hB (c_Judge_runOff l D k (d_p5 0) d_p5_row i_p5_row r_p5_row_helpers r_p5_row_pushes _  hf) ml_RX2_71 ms_yX2_runOff [3, 4, 5] [0, 1, 2, 6, 7, 8, 9, 10, 11, 12, 13, 14, 15, 16, 17, 18, 19] rfl rfl (by decide) (by decide) (by decide) rfl hl.1 rfl (Nat.le_of_ble_eq_true rfl) ⟨Nat.le_of_ble_eq_true rfl, Nat.le_of_ble_eq_true rfl⟩ ⟨Nat.le_of_ble_eq_true rfl, Nat.le_of_ble_eq_true rfl⟩ dX2_runRow_86 (fun z_53 w1 H locs hq hB => ?_)
                obtain ⟨r_p5_row_helpers_51, r_p5_row_pushes_52, rfl, hf⟩ := hq
                replace hB : Bd D A s.heap (wd_Judge_runRow k a_t d_t i_t a_p4 d_p4 i_p4 a_p5 d_p5 i_p5 d_p5_row i_p5_row r_p5_row_helpers_51 r_p5_row_pushes_52 d_p5_halves i_p5_halves r_p5_halves_starts r_p5_halves_sizes r_p5_halves_units r_p5_row_longs r_p5_halves_kinds r_p5_row_kinds r_p4_grades r_p5_row_weights r_p5_row_bears r_p5_row_strengths r_p5_row_wears r_p4_halts r_p4_kinds) H locs := hB.sub [0, 1, 2, 17, 18, 19, 3, 4, 5, 6, 7, 8, 9, 10, 11, 12, 13, 14, 15, 16] (by decide) rfl
                exact r_i F hr hlk hB ⟨_, _, _, _, _, _, _, _, _, _, _, _, _, _, _, _, rfl, hf⟩ dX2_runRow_89
              · replace hf := hf.2 c_50
                rcases Classical.em (n1 = 14) with c_54 | c_54
                · replace hf := hf.1 c_54
                  refine lv_tableIn (tgt := 90) hx hb dX2_runRow_1 (by rw [c_54]; decide) (by rw [c_54]; decide) (by rw [c_54]; rfl) (by decide) ?_
                  refine lv_iload_n hx hb dX2_runRow_90 rfl (lv_at hl 2 rfl) ?_
                  refine lv_aload hx hb dX2_runRow_91 (lv_at hl 5 rfl) ?_
                  refine k_si (wr := [(a_t, ob 2 (rfd d_t) i_t j0), (a_p4, ob 3 (rfd d_p4) i_p4 j0), ((d_p5_row 6), ai k 20 r_p5_row_helpers), ((d_p5_row 5), ai k 20 r_p5_row_pushes), ((d_p4 0), ai k 400 r_p4_grades), ((d_p5_row 2), ai k 20 r_p5_row_weights), ((d_p5_row 7), ai k 20 r_p5_row_bears), ((d_p5_row 3), ai k 20 r_p5_row_strengths), ((d_p5_row 4), ai k 20 r_p5_row_wears), ((d_p4 2), ai k 30 r_p4_halts), ((d_p4 6), ai k 18 r_p4_kinds)]) (rest := []) F hA hB (c_Judge_runCut l D k a_p5 d_p5 i_p5 d_p5_row i_p5_row d_p5_halves i_p5_halves r_p5_halves_starts r_p5_halves_sizes r_p5_halves_units r_p5_row_longs r_p5_halves_kinds r_p5_row_kinds n2 _  hf) ml_RX2_75 ms_yX2_runCut [2, 3, 6, 7, 8, 9, 10, 11, 12] [0, 1, 4, 5, 13, 14, 15, 16, 17, 18, 19] rfl rfl (by decide) (by decide) (by decide) rfl hl.1 rfl (Nat.le_of_ble_eq_true rfl) ⟨Nat.le_of_ble_eq_true rfl, Nat.le_of_ble_eq_true rfl⟩ ⟨Nat.le_of_ble_eq_true rfl, Nat.le_of_ble_eq_true rfl⟩ dX2_runRow_93 (fun z_61 w1 H locs hq hB => ?_)
                  obtain ⟨i_p5_row_55, i_p5_halves_56, r_p5_halves_starts_57, r_p5_halves_sizes_58, r_p5_halves_units_59, r_p5_halves_kinds_60, rfl, hf⟩ := hq
                  replace hB : Bd D A s.heap (wd_Judge_runRow k a_t d_t i_t a_p4 d_p4 i_p4 a_p5 d_p5 i_p5 d_p5_row i_p5_row_55 r_p5_row_helpers r_p5_row_pushes d_p5_halves i_p5_halves_56 r_p5_halves_starts_57 r_p5_halves_sizes_58 r_p5_halves_units_59 r_p5_row_longs r_p5_halves_kinds_60 r_p5_row_kinds r_p4_grades r_p5_row_weights r_p5_row_bears r_p5_row_strengths r_p5_row_wears r_p4_halts r_p4_kinds) H locs := hB.sub [0, 1, 11, 12, 2, 3, 13, 14, 15, 16, 17, 18, 19, 4, 5, 6, 7, 8, 9, 10] (by decide) rfl
                  exact r_i F hr hlk hB ⟨_, _, _, _, _, _, _, _, _, _, _, _, _, _, _, _, rfl, hf⟩ dX2_runRow_96
                · replace hf := hf.2 c_54
                  refine lv_tableOut (tgt := 97) hx hb dX2_runRow_1 (sw_out (fun z h1 h2 h3 => by
                      have h4 : z = 7 ∨ z = 8 ∨ z = 9 ∨ z = 10 ∨ z = 11 ∨ z = 12 ∨ z = 13 ∨ z = 14 ∨ False := by omega
                      rcases h4 with h4 | h4 | h4 | h4 | h4 | h4 | h4 | h4 | h4
                      · exact c_1 (Int32.toInt_inj.mp (h3.trans (h4.trans (by decide))))
                      · exact c_19 (Int32.toInt_inj.mp (h3.trans (h4.trans (by decide))))
                      · exact c_22 (Int32.toInt_inj.mp (h3.trans (h4.trans (by decide))))
                      · exact c_25 (Int32.toInt_inj.mp (h3.trans (h4.trans (by decide))))
                      · exact c_28 (Int32.toInt_inj.mp (h3.trans (h4.trans (by decide))))
                      · exact c_46 (Int32.toInt_inj.mp (h3.trans (h4.trans (by decide))))
                      · exact c_50 (Int32.toInt_inj.mp (h3.trans (h4.trans (by decide))))
                      · exact c_54 (Int32.toInt_inj.mp (h3.trans (h4.trans (by decide))))
                      · exact h4)) (by decide) ?_
                  refine lv_aload hx hb dX2_runRow_97 (lv_at hl 5 rfl) ?_
                  refine k_si (wr := [(a_t, ob 2 (rfd d_t) i_t j0), (a_p4, ob 3 (rfd d_p4) i_p4 j0), ((d_p5 0), ob 8 (rfd d_p5_row) i_p5_row j0), ((d_p5_row 6), ai k 20 r_p5_row_helpers), ((d_p5_row 5), ai k 20 r_p5_row_pushes), ((d_p5 1), ob 1 (rfd d_p5_halves) i_p5_halves j0), ((d_p5_halves 2), ai k 20 r_p5_halves_starts), ((d_p5_halves 3), ai k 20 r_p5_halves_sizes), ((d_p5_halves 4), ai k 20 r_p5_halves_units), ((d_p5_row 1), ai k 20 r_p5_row_longs), ((d_p5_halves 0), ai k 20 r_p5_halves_kinds), ((d_p5_row 0), ai k 20 r_p5_row_kinds), ((d_p4 0), ai k 400 r_p4_grades), ((d_p5_row 2), ai k 20 r_p5_row_weights), ((d_p5_row 7), ai k 20 r_p5_row_bears), ((d_p5_row 3), ai k 20 r_p5_row_strengths), ((d_p5_row 4), ai k 20 r_p5_row_wears), ((d_p4 2), ai k 30 r_p4_halts), ((d_p4 6), ai k 18 r_p4_kinds)]) (rest := []) F hA hB (c_Judge_runRest l D k a_p5 d_p5 i_p5 _  hf) ml_RX2_79 ms_yX2_runRest [2] [0, 1, 3, 4, 5, 6, 7, 8, 9, 10, 11, 12, 13, 14, 15, 16, 17, 18, 19] rfl rfl (by decide) (by decide) (by decide) rfl hl.1 rfl (Nat.le_of_ble_eq_true rfl) ⟨Nat.le_of_ble_eq_true rfl, Nat.le_of_ble_eq_true rfl⟩ ⟨Nat.le_of_ble_eq_true rfl, Nat.le_of_ble_eq_true rfl⟩ dX2_runRow_99 (fun z_63 w1 H locs hq hB => ?_)
                  obtain ⟨i_p5_62, rfl, hf⟩ := hq
                  replace hB : Bd D A s.heap (wd_Judge_runRow k a_t d_t i_t a_p4 d_p4 i_p4 a_p5 d_p5 i_p5_62 d_p5_row i_p5_row r_p5_row_helpers r_p5_row_pushes d_p5_halves i_p5_halves r_p5_halves_starts r_p5_halves_sizes r_p5_halves_units r_p5_row_longs r_p5_halves_kinds r_p5_row_kinds r_p4_grades r_p5_row_weights r_p5_row_bears r_p5_row_strengths r_p5_row_wears r_p4_halts r_p4_kinds) H locs := hB.sub [0, 1, 19, 2, 3, 4, 5, 6, 7, 8, 9, 10, 11, 12, 13, 14, 15, 16, 17, 18] (by decide) rfl
                  exact r_i F hr hlk hB ⟨_, _, _, _, _, _, _, _, _, _, _, _, _, _, _, _, rfl, hf⟩ dX2_runRow_102

/-! LongTrain.Judge.run -/
set_option maxRecDepth 100000 in
set_option maxHeartbeats 4000000 in
theorem bt_Judge_run_16 {p : Program} {l : Launch} {e : Env} {s : State} {m : MethodId} {below : List Frame} {meth : Method} {c : Code} {A : Nat → Prop} {D : va_G} {k : Nat → ClassId} {a_t : Nat} {d_t : Nat → Nat} {a_p1 : Nat} {d_p1 : Nat → Nat} {i_p1 : Nat → Int32} {a_p2 : Nat} {d_p2 : Nat → Nat} {i_p2 : Nat → Int32} {a_p3 : Nat} {d_p3 : Nat → Nat} {r_t_told : Nat → Int32} {r_p1_words : Nat → Int32} {r_p1_firsts : Nat → Int32} {r_p1_seconds : Nat → Int32} {d_p3_row : Nat → Nat} {d_p3_halves : Nat → Nat} {r_p2_grades : Nat → Int32} {r_p2_halts : Nat → Int32} {r_p2_kinds : Nat → Int32}  {Q : Int32 → (Nat → Int32) → (Nat → Int32) → (Nat → Int32) → (Nat → Int32) → (Nat → Int32) → (Nat → Int32) → (Nat → Int32) → (Nat → Int32) → (Nat → Int32) → (Nat → Int32) → (Nat → Int32) → (Nat → Int32) → (Nat → Int32) → (Nat → Int32) → (Nat → Int32) → (Nat → Int32) → (Nat → Int32) → Prop}  {kx_16 : (Int32) → (Int32) → (Nat → Int32) → (Nat → Int32) → (Nat → Int32) → (Nat → Int32) → (Nat → Int32) → (Nat → Int32) → (Nat → Int32) → (Nat → Int32) → (Nat → Int32) → (Nat → Int32) → (Nat → Int32) → (Nat → Int32) → (Nat → Int32) → (Nat → Int32) → (Nat → Int32) → (Nat → Int32) → Prop} {kr_16 : (Int32) → (Int32) → (Nat → Int32) → (Nat → Int32) → (Nat → Int32) → (Nat → Int32) → (Nat → Int32) → (Nat → Int32) → (Nat → Int32) → (Nat → Int32) → (Nat → Int32) → (Nat → Int32) → (Nat → Int32) → (Nat → Int32) → (Nat → Int32) → (Nat → Int32) → (Nat → Int32) → (Nat → Int32) → Prop} (F : Fx p m c cX2_run 6 s ([.ref a_t, .ref a_p1, .ref a_p2, .ref a_p3] : List Value).toArray RX2 D k) (hr : meth.sig.returnType = (some .int)) (hlk : meth.locks = false) (hA : ∀ q : Nat, s.heap.size ≤ q → A q) (hkx_16 : ∀ (x4 : Int32) (x5 : Int32) (i_t : Nat → Int32) (i_p3 : Nat → Int32) (i_p3_row : Nat → Int32) (r_p3_row_helpers : Nat → Int32) (r_p3_row_pushes : Nat → Int32) (i_p3_halves : Nat → Int32) (r_p3_halves_starts : Nat → Int32) (r_p3_halves_sizes : Nat → Int32) (r_p3_halves_units : Nat → Int32) (r_p3_row_longs : Nat → Int32) (r_p3_halves_kinds : Nat → Int32) (r_p3_row_kinds : Nat → Int32) (r_p3_row_weights : Nat → Int32) (r_p3_row_bears : Nat → Int32) (r_p3_row_strengths : Nat → Int32) (r_p3_row_wears : Nat → Int32) (H : Heap) (locs : List Loc) (ls : Array Slot), kx_16 x4 x5 i_t i_p3 i_p3_row r_p3_row_helpers r_p3_row_pushes i_p3_halves r_p3_halves_starts r_p3_halves_sizes r_p3_halves_units r_p3_row_longs r_p3_halves_kinds r_p3_row_kinds r_p3_row_weights r_p3_row_bears r_p3_row_strengths r_p3_row_wears → Bd D A s.heap (wd_Judge_run k a_t d_t i_t a_p1 d_p1 i_p1 a_p2 d_p2 i_p2 a_p3 d_p3 i_p3 r_t_told r_p1_words r_p1_firsts r_p1_seconds d_p3_row i_p3_row r_p3_row_helpers r_p3_row_pushes d_p3_halves i_p3_halves r_p3_halves_starts r_p3_halves_sizes r_p3_halves_units r_p3_row_longs r_p3_halves_kinds r_p3_row_kinds r_p2_grades r_p3_row_weights r_p3_row_bears r_p3_row_strengths r_p3_row_wears r_p2_halts r_p2_kinds) H locs → lv_has ls 6 [(0, .ref a_t), (3, .ref a_p3), (4, .int x4), (5, .int x5)] → W p l e { frames := 6, cells := 0, slots := 0, locals := 150 } s m ([.ref a_t, .ref a_p1, .ref a_p2, .ref a_p3] : List Value).toArray below meth c H locs 0 0 (Ei below (fun r w => ∃ (i_t : Nat → Int32), ∃ (i_p3 : Nat → Int32), ∃ (r_t_told : Nat → Int32), ∃ (i_p3_row : Nat → Int32), ∃ (r_p3_row_helpers : Nat → Int32), ∃ (r_p3_row_pushes : Nat → Int32), ∃ (i_p3_halves : Nat → Int32), ∃ (r_p3_halves_starts : Nat → Int32), ∃ (r_p3_halves_sizes : Nat → Int32), ∃ (r_p3_halves_units : Nat → Int32), ∃ (r_p3_row_longs : Nat → Int32), ∃ (r_p3_halves_kinds : Nat → Int32), ∃ (r_p3_row_kinds : Nat → Int32), ∃ (r_p3_row_weights : Nat → Int32), ∃ (r_p3_row_bears : Nat → Int32), ∃ (r_p3_row_strengths : Nat → Int32), ∃ (r_p3_row_wears : Nat → Int32), w = (wd_Judge_run k a_t d_t i_t a_p1 d_p1 i_p1 a_p2 d_p2 i_p2 a_p3 d_p3 i_p3 r_t_told r_p1_words r_p1_firsts r_p1_seconds d_p3_row i_p3_row r_p3_row_helpers r_p3_row_pushes d_p3_halves i_p3_halves r_p3_halves_starts r_p3_halves_sizes r_p3_halves_units r_p3_row_longs r_p3_halves_kinds r_p3_row_kinds r_p2_grades r_p3_row_weights r_p3_row_bears r_p3_row_strengths r_p3_row_wears r_p2_halts r_p2_kinds) ∧ Q r i_t i_p3 r_t_told i_p3_row r_p3_row_helpers r_p3_row_pushes i_p3_halves r_p3_halves_starts r_p3_halves_sizes r_p3_halves_units r_p3_row_longs r_p3_halves_kinds r_p3_row_kinds r_p3_row_weights r_p3_row_bears r_p3_row_strengths r_p3_row_wears) D k A ([.ref a_t, .ref a_p1, .ref a_p2, .ref a_p3] : List Value).toArray s 0 0) (F0 m 65 ls [])) (hkr_16 : ∀ (x4 : Int32) (x5 : Int32) (i_t : Nat → Int32) (i_p3 : Nat → Int32) (i_p3_row : Nat → Int32) (r_p3_row_helpers : Nat → Int32) (r_p3_row_pushes : Nat → Int32) (i_p3_halves : Nat → Int32) (r_p3_halves_starts : Nat → Int32) (r_p3_halves_sizes : Nat → Int32) (r_p3_halves_units : Nat → Int32) (r_p3_row_longs : Nat → Int32) (r_p3_halves_kinds : Nat → Int32) (r_p3_row_kinds : Nat → Int32) (r_p3_row_weights : Nat → Int32) (r_p3_row_bears : Nat → Int32) (r_p3_row_strengths : Nat → Int32) (r_p3_row_wears : Nat → Int32) (H : Heap) (locs : List Loc) (ls : Array Slot), kr_16 x4 x5 i_t i_p3 i_p3_row r_p3_row_helpers r_p3_row_pushes i_p3_halves r_p3_halves_starts r_p3_halves_sizes r_p3_halves_units r_p3_row_longs r_p3_halves_kinds r_p3_row_kinds r_p3_row_weights r_p3_row_bears r_p3_row_strengths r_p3_row_wears → Bd D A s.heap (wd_Judge_run k a_t d_t i_t a_p1 d_p1 i_p1 a_p2 d_p2 i_p2 a_p3 d_p3 i_p3 r_t_told r_p1_words r_p1_firsts r_p1_seconds d_p3_row i_p3_row r_p3_row_helpers r_p3_row_pushes d_p3_halves i_p3_halves r_p3_halves_starts r_p3_halves_sizes r_p3_halves_units r_p3_row_longs r_p3_halves_kinds r_p3_row_kinds r_p2_grades r_p3_row_weights r_p3_row_bears r_p3_row_strengths r_p3_row_wears r_p2_halts r_p2_kinds) H locs → lv_has ls 6 [(0, .ref a_t), (1, .ref a_p1), (2, .ref a_p2), (3, .ref a_p3), (4, .int x4), (5, .int x5)] → W p l e { frames := 6, cells := 0, slots := 0, locals := 150 } s m ([.ref a_t, .ref a_p1, .ref a_p2, .ref a_p3] : List Value).toArray below meth c H locs 0 0 (Ei below (fun r w => ∃ (i_t : Nat → Int32), ∃ (i_p3 : Nat → Int32), ∃ (r_t_told : Nat → Int32), ∃ (i_p3_row : Nat → Int32), ∃ (r_p3_row_helpers : Nat → Int32), ∃ (r_p3_row_pushes : Nat → Int32), ∃ (i_p3_halves : Nat → Int32), ∃ (r_p3_halves_starts : Nat → Int32), ∃ (r_p3_halves_sizes : Nat → Int32), ∃ (r_p3_halves_units : Nat → Int32), ∃ (r_p3_row_longs : Nat → Int32), ∃ (r_p3_halves_kinds : Nat → Int32), ∃ (r_p3_row_kinds : Nat → Int32), ∃ (r_p3_row_weights : Nat → Int32), ∃ (r_p3_row_bears : Nat → Int32), ∃ (r_p3_row_strengths : Nat → Int32), ∃ (r_p3_row_wears : Nat → Int32), w = (wd_Judge_run k a_t d_t i_t a_p1 d_p1 i_p1 a_p2 d_p2 i_p2 a_p3 d_p3 i_p3 r_t_told r_p1_words r_p1_firsts r_p1_seconds d_p3_row i_p3_row r_p3_row_helpers r_p3_row_pushes d_p3_halves i_p3_halves r_p3_halves_starts r_p3_halves_sizes r_p3_halves_units r_p3_row_longs r_p3_halves_kinds r_p3_row_kinds r_p2_grades r_p3_row_weights r_p3_row_bears r_p3_row_strengths r_p3_row_wears r_p2_halts r_p2_kinds) ∧ Q r i_t i_p3 r_t_told i_p3_row r_p3_row_helpers r_p3_row_pushes i_p3_halves r_p3_halves_starts r_p3_halves_sizes r_p3_halves_units r_p3_row_longs r_p3_halves_kinds r_p3_row_kinds r_p3_row_weights r_p3_row_bears r_p3_row_strengths r_p3_row_wears) D k A ([.ref a_t, .ref a_p1, .ref a_p2, .ref a_p3] : List Value).toArray s 0 0) (F0 m 16 ls [])) :
    ∀ (x4 : Int32) (x5 : Int32) (i_t : Nat → Int32) (i_p3 : Nat → Int32) (i_p3_row : Nat → Int32) (r_p3_row_helpers : Nat → Int32) (r_p3_row_pushes : Nat → Int32) (i_p3_halves : Nat → Int32) (r_p3_halves_starts : Nat → Int32) (r_p3_halves_sizes : Nat → Int32) (r_p3_halves_units : Nat → Int32) (r_p3_row_longs : Nat → Int32) (r_p3_halves_kinds : Nat → Int32) (r_p3_row_kinds : Nat → Int32) (r_p3_row_weights : Nat → Int32) (r_p3_row_bears : Nat → Int32) (r_p3_row_strengths : Nat → Int32) (r_p3_row_wears : Nat → Int32) (H : Heap) (locs : List Loc) (ls : Array Slot), b_Judge_run_16 i_p1 i_p2 r_p1_words r_p1_firsts r_p1_seconds r_p2_grades r_p2_halts r_p2_kinds kx_16 kr_16 x4 x5 i_t i_p3 i_p3_row r_p3_row_helpers r_p3_row_pushes i_p3_halves r_p3_halves_starts r_p3_halves_sizes r_p3_halves_units r_p3_row_longs r_p3_halves_kinds r_p3_row_kinds r_p3_row_weights r_p3_row_bears r_p3_row_strengths r_p3_row_wears → Bd D A s.heap (wd_Judge_run k a_t d_t i_t a_p1 d_p1 i_p1 a_p2 d_p2 i_p2 a_p3 d_p3 i_p3 r_t_told r_p1_words r_p1_firsts r_p1_seconds d_p3_row i_p3_row r_p3_row_helpers r_p3_row_pushes d_p3_halves i_p3_halves r_p3_halves_starts r_p3_halves_sizes r_p3_halves_units r_p3_row_longs r_p3_halves_kinds r_p3_row_kinds r_p2_grades r_p3_row_weights r_p3_row_bears r_p3_row_strengths r_p3_row_wears r_p2_halts r_p2_kinds) H locs → lv_has ls 6 [(0, .ref a_t), (1, .ref a_p1), (2, .ref a_p2), (3, .ref a_p3), (4, .int x4), (5, .int x5)] → W p l e { frames := 6, cells := 0, slots := 0, locals := 150 } s m ([.ref a_t, .ref a_p1, .ref a_p2, .ref a_p3] : List Value).toArray below meth c H locs 0 0 (Ei below (fun r w => ∃ (i_t : Nat → Int32), ∃ (i_p3 : Nat → Int32), ∃ (r_t_told : Nat → Int32), ∃ (i_p3_row : Nat → Int32), ∃ (r_p3_row_helpers : Nat → Int32), ∃ (r_p3_row_pushes : Nat → Int32), ∃ (i_p3_halves : Nat → Int32), ∃ (r_p3_halves_starts : Nat → Int32), ∃ (r_p3_halves_sizes : Nat → Int32), ∃ (r_p3_halves_units : Nat → Int32), ∃ (r_p3_row_longs : Nat → Int32), ∃ (r_p3_halves_kinds : Nat → Int32), ∃ (r_p3_row_kinds : Nat → Int32), ∃ (r_p3_row_weights : Nat → Int32), ∃ (r_p3_row_bears : Nat → Int32), ∃ (r_p3_row_strengths : Nat → Int32), ∃ (r_p3_row_wears : Nat → Int32), w = (wd_Judge_run k a_t d_t i_t a_p1 d_p1 i_p1 a_p2 d_p2 i_p2 a_p3 d_p3 i_p3 r_t_told r_p1_words r_p1_firsts r_p1_seconds d_p3_row i_p3_row r_p3_row_helpers r_p3_row_pushes d_p3_halves i_p3_halves r_p3_halves_starts r_p3_halves_sizes r_p3_halves_units r_p3_row_longs r_p3_halves_kinds r_p3_row_kinds r_p2_grades r_p3_row_weights r_p3_row_bears r_p3_row_strengths r_p3_row_wears r_p2_halts r_p2_kinds) ∧ Q r i_t i_p3 r_t_told i_p3_row r_p3_row_helpers r_p3_row_pushes i_p3_halves r_p3_halves_starts r_p3_halves_sizes r_p3_halves_units r_p3_row_longs r_p3_halves_kinds r_p3_row_kinds r_p3_row_weights r_p3_row_bears r_p3_row_strengths r_p3_row_wears) D k A ([.ref a_t, .ref a_p1, .ref a_p2, .ref a_p3] : List Value).toArray s 0 0) (F0 m 16 ls []) := by
  have hx := F.x
  have hb := F.b
  intro x4 x5 i_t i_p3 i_p3_row r_p3_row_helpers r_p3_row_pushes i_p3_halves r_p3_halves_starts r_p3_halves_sizes r_p3_halves_units r_p3_row_longs r_p3_halves_kinds r_p3_row_kinds r_p3_row_weights r_p3_row_bears r_p3_row_strengths r_p3_row_wears H locs ls hf hB hl
  unfold b_Judge_run_16 at hf
  refine lv_iload hx hb dX2_run_16 (lv_at hl 5 rfl) ?_
  refine lv_aload_n hx hb dX2_run_18 rfl (lv_at hl 1 rfl) ?_
  refine g_get (w := .int (i_p1 3)) F hB 1 rfl fl_RX2_22 rfl dX2_run_19 ?_
  refine lv_icmp_ge (tgt := 65) hx hb dX2_run_22 (by decide) (fun c_22 => ?_) (fun c_22 => ?_)
  · replace hf := hf.1 c_22
    exact hkx_16 _ _ _ _ _ _ _ _ _ _ _ _ _ _ _ _ _ _ _ _ _ hf hB (lv_sub hl [0, 3, 4, 5] rfl)
  · replace hf := hf.2 c_22
    refine lv_iload hx hb dX2_run_25 (lv_at hl 4 rfl) ?_
    refine lv_if_ne (tgt := 65) hx hb dX2_run_27 (by decide) (fun c_21 => ?_) (fun c_21 => ?_)
    · replace hf := hf.1 c_21
      exact hkx_16 _ _ _ _ _ _ _ _ _ _ _ _ _ _ _ _ _ _ _ _ _ hf hB (lv_sub hl [0, 3, 4, 5] rfl)
    · replace hf := hf.2 c_21
      refine lv_aload_n hx hb dX2_run_30 rfl (lv_at hl 0 rfl) ?_
      refine lv_aload_n hx hb dX2_run_31 rfl (lv_at hl 1 rfl) ?_
      refine g_get (w := .ref (d_p1 0)) F hB 1 rfl fl_RX2_27 rfl dX2_run_32 ?_
      refine lv_iload hx hb dX2_run_35 (lv_at hl 5 rfl) ?_
      obtain ⟨h_1, hf⟩ := hf
      refine g_iald F hB 5 rfl h_1 dX2_run_37 ?_
      refine lv_aload_n hx hb dX2_run_38 rfl (lv_at hl 1 rfl) ?_
      refine g_get (w := .ref (d_p1 1)) F hB 1 rfl fl_RX2_30 rfl dX2_run_39 ?_
      refine lv_iload hx hb dX2_run_42 (lv_at hl 5 rfl) ?_
      obtain ⟨h_2, hf⟩ := hf
      refine g_iald F hB 6 rfl h_2 dX2_run_44 ?_
      refine lv_aload_n hx hb dX2_run_45 rfl (lv_at hl 1 rfl) ?_
      refine g_get (w := .ref (d_p1 2)) F hB 1 rfl fl_RX2_33 rfl dX2_run_46 ?_
      refine lv_iload hx hb dX2_run_49 (lv_at hl 5 rfl) ?_
      obtain ⟨h_3, hf⟩ := hf
      refine g_iald F hB 7 rfl h_3 dX2_run_51 ?_
      refine lv_aload_n hx hb dX2_run_52 rfl (lv_at hl 2 rfl) ?_
      refine lv_aload_n hx hb dX2_run_53 rfl (lv_at hl 3 rfl) ?_
      refine k_vi (wr := [(a_p1, ob 6 (rfd d_p1) i_p1 j0), ((d_t 0), ai k 6 r_t_told), ((d_p1 0), ai k 30 r_p1_words), ((d_p1 1), ai k 30 r_p1_firsts), ((d_p1 2), ai k 30 r_p1_seconds)]) (rest := []) F hA hB (c_Judge_runRow l D k a_t d_t i_t a_p2 d_p2 i_p2 a_p3 d_p3 i_p3 d_p3_row i_p3_row r_p3_row_helpers r_p3_row_pushes d_p3_halves i_p3_halves r_p3_halves_starts r_p3_halves_sizes r_p3_halves_units r_p3_row_longs r_p3_halves_kinds r_p3_row_kinds r_p2_grades r_p3_row_weights r_p3_row_bears r_p3_row_strengths r_p3_row_wears r_p2_halts r_p2_kinds (r_p1_words (x5).toNatClampNeg) (r_p1_firsts (x5).toNatClampNeg) (r_p1_seconds (x5).toNatClampNeg) _  hf) ml_RX2_36 mv_yX2_runRow [0, 2, 3, 8, 9, 10, 11, 12, 13, 14, 15, 16, 17, 18, 19, 20, 21, 22, 23, 24] [1, 4, 5, 6, 7] rfl rfl (by decide) (by decide) (by decide) 0 rfl rfl rfl hl.1 rfl (Nat.le_of_ble_eq_true rfl) ⟨Nat.le_of_ble_eq_true rfl, Nat.le_of_ble_eq_true rfl⟩ ⟨Nat.le_of_ble_eq_true rfl, Nat.le_of_ble_eq_true rfl⟩ dX2_run_54 (fun z_20 w1 H locs hq hB => ?_)
      obtain ⟨i_t_4, i_p3_5, i_p3_row_6, r_p3_row_helpers_7, r_p3_row_pushes_8, i_p3_halves_9, r_p3_halves_starts_10, r_p3_halves_sizes_11, r_p3_halves_units_12, r_p3_row_longs_13, r_p3_halves_kinds_14, r_p3_row_kinds_15, r_p3_row_weights_16, r_p3_row_bears_17, r_p3_row_strengths_18, r_p3_row_wears_19, rfl, hf⟩ := hq
      replace hB : Bd D A s.heap (wd_Judge_run k a_t d_t i_t_4 a_p1 d_p1 i_p1 a_p2 d_p2 i_p2 a_p3 d_p3 i_p3_5 r_t_told r_p1_words r_p1_firsts r_p1_seconds d_p3_row i_p3_row_6 r_p3_row_helpers_7 r_p3_row_pushes_8 d_p3_halves i_p3_halves_9 r_p3_halves_starts_10 r_p3_halves_sizes_11 r_p3_halves_units_12 r_p3_row_longs_13 r_p3_halves_kinds_14 r_p3_row_kinds_15 r_p2_grades r_p3_row_weights_16 r_p3_row_bears_17 r_p3_row_strengths_18 r_p3_row_wears_19 r_p2_halts r_p2_kinds) H locs := hB.sub [5, 0, 6, 7, 1, 2, 3, 4, 8, 9, 10, 11, 12, 13, 14, 15, 16, 17, 18, 19, 20, 21, 22, 23, 24] (by decide) rfl
      refine lv_istore (lv' := [(4, .int z_20), (0, .ref a_t), (1, .ref a_p1), (2, .ref a_p2), (3, .ref a_p3), (5, .int x5)]) hx hb dX2_run_57 hl (by decide) rfl (fun ls hl => ?_)
      refine lv_iinc (v := (x5 + 1)) (lv' := [(5, .int (x5 + 1)), (4, .int z_20), (0, .ref a_t), (1, .ref a_p1), (2, .ref a_p2), (3, .ref a_p3)]) (k := 5) hx hb dX2_run_59 hl rfl rfl (by decide) rfl (fun ls hl => ?_)
      refine lv_goto (tgt := 16) hx hb dX2_run_62 (by decide) ?_
      exact hkr_16 _ _ _ _ _ _ _ _ _ _ _ _ _ _ _ _ _ _ _ _ _ hf hB (lv_sub hl [2, 3, 4, 5, 1, 0] rfl)

set_option maxRecDepth 100000 in
set_option maxHeartbeats 4000000 in
theorem lt_Judge_run_16 {p : Program} {l : Launch} {e : Env} {s : State} {m : MethodId} {below : List Frame} {meth : Method} {c : Code} {A : Nat → Prop} {D : va_G} {k : Nat → ClassId} {a_t : Nat} {d_t : Nat → Nat} {a_p1 : Nat} {d_p1 : Nat → Nat} {i_p1 : Nat → Int32} {a_p2 : Nat} {d_p2 : Nat → Nat} {i_p2 : Nat → Int32} {a_p3 : Nat} {d_p3 : Nat → Nat} {r_t_told : Nat → Int32} {r_p1_words : Nat → Int32} {r_p1_firsts : Nat → Int32} {r_p1_seconds : Nat → Int32} {d_p3_row : Nat → Nat} {d_p3_halves : Nat → Nat} {r_p2_grades : Nat → Int32} {r_p2_halts : Nat → Int32} {r_p2_kinds : Nat → Int32}  {Q : Int32 → (Nat → Int32) → (Nat → Int32) → (Nat → Int32) → (Nat → Int32) → (Nat → Int32) → (Nat → Int32) → (Nat → Int32) → (Nat → Int32) → (Nat → Int32) → (Nat → Int32) → (Nat → Int32) → (Nat → Int32) → (Nat → Int32) → (Nat → Int32) → (Nat → Int32) → (Nat → Int32) → (Nat → Int32) → Prop}  {kx_16 : (Int32) → (Int32) → (Nat → Int32) → (Nat → Int32) → (Nat → Int32) → (Nat → Int32) → (Nat → Int32) → (Nat → Int32) → (Nat → Int32) → (Nat → Int32) → (Nat → Int32) → (Nat → Int32) → (Nat → Int32) → (Nat → Int32) → (Nat → Int32) → (Nat → Int32) → (Nat → Int32) → (Nat → Int32) → Prop} (F : Fx p m c cX2_run 6 s ([.ref a_t, .ref a_p1, .ref a_p2, .ref a_p3] : List Value).toArray RX2 D k) (hr : meth.sig.returnType = (some .int)) (hlk : meth.locks = false) (hA : ∀ q : Nat, s.heap.size ≤ q → A q) (hkx_16 : ∀ (x4 : Int32) (x5 : Int32) (i_t : Nat → Int32) (i_p3 : Nat → Int32) (i_p3_row : Nat → Int32) (r_p3_row_helpers : Nat → Int32) (r_p3_row_pushes : Nat → Int32) (i_p3_halves : Nat → Int32) (r_p3_halves_starts : Nat → Int32) (r_p3_halves_sizes : Nat → Int32) (r_p3_halves_units : Nat → Int32) (r_p3_row_longs : Nat → Int32) (r_p3_halves_kinds : Nat → Int32) (r_p3_row_kinds : Nat → Int32) (r_p3_row_weights : Nat → Int32) (r_p3_row_bears : Nat → Int32) (r_p3_row_strengths : Nat → Int32) (r_p3_row_wears : Nat → Int32) (H : Heap) (locs : List Loc) (ls : Array Slot), kx_16 x4 x5 i_t i_p3 i_p3_row r_p3_row_helpers r_p3_row_pushes i_p3_halves r_p3_halves_starts r_p3_halves_sizes r_p3_halves_units r_p3_row_longs r_p3_halves_kinds r_p3_row_kinds r_p3_row_weights r_p3_row_bears r_p3_row_strengths r_p3_row_wears → Bd D A s.heap (wd_Judge_run k a_t d_t i_t a_p1 d_p1 i_p1 a_p2 d_p2 i_p2 a_p3 d_p3 i_p3 r_t_told r_p1_words r_p1_firsts r_p1_seconds d_p3_row i_p3_row r_p3_row_helpers r_p3_row_pushes d_p3_halves i_p3_halves r_p3_halves_starts r_p3_halves_sizes r_p3_halves_units r_p3_row_longs r_p3_halves_kinds r_p3_row_kinds r_p2_grades r_p3_row_weights r_p3_row_bears r_p3_row_strengths r_p3_row_wears r_p2_halts r_p2_kinds) H locs → lv_has ls 6 [(0, .ref a_t), (3, .ref a_p3), (4, .int x4), (5, .int x5)] → W p l e { frames := 6, cells := 0, slots := 0, locals := 150 } s m ([.ref a_t, .ref a_p1, .ref a_p2, .ref a_p3] : List Value).toArray below meth c H locs 0 0 (Ei below (fun r w => ∃ (i_t : Nat → Int32), ∃ (i_p3 : Nat → Int32), ∃ (r_t_told : Nat → Int32), ∃ (i_p3_row : Nat → Int32), ∃ (r_p3_row_helpers : Nat → Int32), ∃ (r_p3_row_pushes : Nat → Int32), ∃ (i_p3_halves : Nat → Int32), ∃ (r_p3_halves_starts : Nat → Int32), ∃ (r_p3_halves_sizes : Nat → Int32), ∃ (r_p3_halves_units : Nat → Int32), ∃ (r_p3_row_longs : Nat → Int32), ∃ (r_p3_halves_kinds : Nat → Int32), ∃ (r_p3_row_kinds : Nat → Int32), ∃ (r_p3_row_weights : Nat → Int32), ∃ (r_p3_row_bears : Nat → Int32), ∃ (r_p3_row_strengths : Nat → Int32), ∃ (r_p3_row_wears : Nat → Int32), w = (wd_Judge_run k a_t d_t i_t a_p1 d_p1 i_p1 a_p2 d_p2 i_p2 a_p3 d_p3 i_p3 r_t_told r_p1_words r_p1_firsts r_p1_seconds d_p3_row i_p3_row r_p3_row_helpers r_p3_row_pushes d_p3_halves i_p3_halves r_p3_halves_starts r_p3_halves_sizes r_p3_halves_units r_p3_row_longs r_p3_halves_kinds r_p3_row_kinds r_p2_grades r_p3_row_weights r_p3_row_bears r_p3_row_strengths r_p3_row_wears r_p2_halts r_p2_kinds) ∧ Q r i_t i_p3 r_t_told i_p3_row r_p3_row_helpers r_p3_row_pushes i_p3_halves r_p3_halves_starts r_p3_halves_sizes r_p3_halves_units r_p3_row_longs r_p3_halves_kinds r_p3_row_kinds r_p3_row_weights r_p3_row_bears r_p3_row_strengths r_p3_row_wears) D k A ([.ref a_t, .ref a_p1, .ref a_p2, .ref a_p3] : List Value).toArray s 0 0) (F0 m 65 ls [])) :
    ∀ n : Nat, ∀ (x4 : Int32) (x5 : Int32) (i_t : Nat → Int32) (i_p3 : Nat → Int32) (i_p3_row : Nat → Int32) (r_p3_row_helpers : Nat → Int32) (r_p3_row_pushes : Nat → Int32) (i_p3_halves : Nat → Int32) (r_p3_halves_starts : Nat → Int32) (r_p3_halves_sizes : Nat → Int32) (r_p3_halves_units : Nat → Int32) (r_p3_row_longs : Nat → Int32) (r_p3_halves_kinds : Nat → Int32) (r_p3_row_kinds : Nat → Int32) (r_p3_row_weights : Nat → Int32) (r_p3_row_bears : Nat → Int32) (r_p3_row_strengths : Nat → Int32) (r_p3_row_wears : Nat → Int32) (H : Heap) (locs : List Loc) (ls : Array Slot), lp_Judge_run_16 i_p1 i_p2 r_p1_words r_p1_firsts r_p1_seconds r_p2_grades r_p2_halts r_p2_kinds kx_16 n x4 x5 i_t i_p3 i_p3_row r_p3_row_helpers r_p3_row_pushes i_p3_halves r_p3_halves_starts r_p3_halves_sizes r_p3_halves_units r_p3_row_longs r_p3_halves_kinds r_p3_row_kinds r_p3_row_weights r_p3_row_bears r_p3_row_strengths r_p3_row_wears → Bd D A s.heap (wd_Judge_run k a_t d_t i_t a_p1 d_p1 i_p1 a_p2 d_p2 i_p2 a_p3 d_p3 i_p3 r_t_told r_p1_words r_p1_firsts r_p1_seconds d_p3_row i_p3_row r_p3_row_helpers r_p3_row_pushes d_p3_halves i_p3_halves r_p3_halves_starts r_p3_halves_sizes r_p3_halves_units r_p3_row_longs r_p3_halves_kinds r_p3_row_kinds r_p2_grades r_p3_row_weights r_p3_row_bears r_p3_row_strengths r_p3_row_wears r_p2_halts r_p2_kinds) H locs → lv_has ls 6 [(0, .ref a_t), (1, .ref a_p1), (2, .ref a_p2), (3, .ref a_p3), (4, .int x4), (5, .int x5)] → W p l e { frames := 6, cells := 0, slots := 0, locals := 150 } s m ([.ref a_t, .ref a_p1, .ref a_p2, .ref a_p3] : List Value).toArray below meth c H locs 0 0 (Ei below (fun r w => ∃ (i_t : Nat → Int32), ∃ (i_p3 : Nat → Int32), ∃ (r_t_told : Nat → Int32), ∃ (i_p3_row : Nat → Int32), ∃ (r_p3_row_helpers : Nat → Int32), ∃ (r_p3_row_pushes : Nat → Int32), ∃ (i_p3_halves : Nat → Int32), ∃ (r_p3_halves_starts : Nat → Int32), ∃ (r_p3_halves_sizes : Nat → Int32), ∃ (r_p3_halves_units : Nat → Int32), ∃ (r_p3_row_longs : Nat → Int32), ∃ (r_p3_halves_kinds : Nat → Int32), ∃ (r_p3_row_kinds : Nat → Int32), ∃ (r_p3_row_weights : Nat → Int32), ∃ (r_p3_row_bears : Nat → Int32), ∃ (r_p3_row_strengths : Nat → Int32), ∃ (r_p3_row_wears : Nat → Int32), w = (wd_Judge_run k a_t d_t i_t a_p1 d_p1 i_p1 a_p2 d_p2 i_p2 a_p3 d_p3 i_p3 r_t_told r_p1_words r_p1_firsts r_p1_seconds d_p3_row i_p3_row r_p3_row_helpers r_p3_row_pushes d_p3_halves i_p3_halves r_p3_halves_starts r_p3_halves_sizes r_p3_halves_units r_p3_row_longs r_p3_halves_kinds r_p3_row_kinds r_p2_grades r_p3_row_weights r_p3_row_bears r_p3_row_strengths r_p3_row_wears r_p2_halts r_p2_kinds) ∧ Q r i_t i_p3 r_t_told i_p3_row r_p3_row_helpers r_p3_row_pushes i_p3_halves r_p3_halves_starts r_p3_halves_sizes r_p3_halves_units r_p3_row_longs r_p3_halves_kinds r_p3_row_kinds r_p3_row_weights r_p3_row_bears r_p3_row_strengths r_p3_row_wears) D k A ([.ref a_t, .ref a_p1, .ref a_p2, .ref a_p3] : List Value).toArray s 0 0) (F0 m 16 ls []) := by
  intro n
  induction n with
  | zero => intro x4 x5 i_t i_p3 i_p3_row r_p3_row_helpers r_p3_row_pushes i_p3_halves r_p3_halves_starts r_p3_halves_sizes r_p3_halves_units r_p3_row_longs r_p3_halves_kinds r_p3_row_kinds r_p3_row_weights r_p3_row_bears r_p3_row_strengths r_p3_row_wears H locs ls hf; exact absurd hf (fun h => h)
  | succ n ih => exact bt_Judge_run_16 F hr hlk hA hkx_16 ih

set_option maxRecDepth 100000 in
set_option maxHeartbeats 4000000 in
theorem jt_Judge_run_65 {p : Program} {l : Launch} {e : Env} {s : State} {m : MethodId} {below : List Frame} {meth : Method} {c : Code} {A : Nat → Prop} {D : va_G} {k : Nat → ClassId} {a_t : Nat} {d_t : Nat → Nat} {a_p1 : Nat} {d_p1 : Nat → Nat} {i_p1 : Nat → Int32} {a_p2 : Nat} {d_p2 : Nat → Nat} {i_p2 : Nat → Int32} {a_p3 : Nat} {d_p3 : Nat → Nat} {r_p1_words : Nat → Int32} {r_p1_firsts : Nat → Int32} {r_p1_seconds : Nat → Int32} {d_p3_row : Nat → Nat} {d_p3_halves : Nat → Nat} {r_p2_grades : Nat → Int32} {r_p2_halts : Nat → Int32} {r_p2_kinds : Nat → Int32}  {Q : Int32 → (Nat → Int32) → (Nat → Int32) → (Nat → Int32) → (Nat → Int32) → (Nat → Int32) → (Nat → Int32) → (Nat → Int32) → (Nat → Int32) → (Nat → Int32) → (Nat → Int32) → (Nat → Int32) → (Nat → Int32) → (Nat → Int32) → (Nat → Int32) → (Nat → Int32) → (Nat → Int32) → (Nat → Int32) → Prop}  (F : Fx p m c cX2_run 6 s ([.ref a_t, .ref a_p1, .ref a_p2, .ref a_p3] : List Value).toArray RX2 D k) (hr : meth.sig.returnType = (some .int)) (hlk : meth.locks = false) (hA : ∀ q : Nat, s.heap.size ≤ q → A q) :
    ∀ (i_t : Nat → Int32) (i_p3 : Nat → Int32) (r_t_told : Nat → Int32) (i_p3_row : Nat → Int32) (r_p3_row_helpers : Nat → Int32) (r_p3_row_pushes : Nat → Int32) (i_p3_halves : Nat → Int32) (r_p3_halves_starts : Nat → Int32) (r_p3_halves_sizes : Nat → Int32) (r_p3_halves_units : Nat → Int32) (r_p3_row_longs : Nat → Int32) (r_p3_halves_kinds : Nat → Int32) (r_p3_row_kinds : Nat → Int32) (r_p3_row_weights : Nat → Int32) (r_p3_row_bears : Nat → Int32) (r_p3_row_strengths : Nat → Int32) (r_p3_row_wears : Nat → Int32) (x4 : Int32) (x5 : Int32) (H : Heap) (locs : List Loc) (ls : Array Slot), j_Judge_run_65 i_t i_p3 r_t_told i_p3_row r_p3_row_helpers r_p3_row_pushes i_p3_halves r_p3_halves_starts r_p3_halves_sizes r_p3_halves_units r_p3_row_longs r_p3_halves_kinds r_p3_row_kinds r_p3_row_weights r_p3_row_bears r_p3_row_strengths r_p3_row_wears x4 x5 Q → Bd D A s.heap (wd_Judge_run k a_t d_t i_t a_p1 d_p1 i_p1 a_p2 d_p2 i_p2 a_p3 d_p3 i_p3 r_t_told r_p1_words r_p1_firsts r_p1_seconds d_p3_row i_p3_row r_p3_row_helpers r_p3_row_pushes d_p3_halves i_p3_halves r_p3_halves_starts r_p3_halves_sizes r_p3_halves_units r_p3_row_longs r_p3_halves_kinds r_p3_row_kinds r_p2_grades r_p3_row_weights r_p3_row_bears r_p3_row_strengths r_p3_row_wears r_p2_halts r_p2_kinds) H locs → lv_has ls 6 [(0, .ref a_t), (3, .ref a_p3), (4, .int x4), (5, .int x5)] → W p l e { frames := 6, cells := 0, slots := 0, locals := 150 } s m ([.ref a_t, .ref a_p1, .ref a_p2, .ref a_p3] : List Value).toArray below meth c H locs 0 0 (Ei below (fun r w => ∃ (i_t : Nat → Int32), ∃ (i_p3 : Nat → Int32), ∃ (r_t_told : Nat → Int32), ∃ (i_p3_row : Nat → Int32), ∃ (r_p3_row_helpers : Nat → Int32), ∃ (r_p3_row_pushes : Nat → Int32), ∃ (i_p3_halves : Nat → Int32), ∃ (r_p3_halves_starts : Nat → Int32), ∃ (r_p3_halves_sizes : Nat → Int32), ∃ (r_p3_halves_units : Nat → Int32), ∃ (r_p3_row_longs : Nat → Int32), ∃ (r_p3_halves_kinds : Nat → Int32), ∃ (r_p3_row_kinds : Nat → Int32), ∃ (r_p3_row_weights : Nat → Int32), ∃ (r_p3_row_bears : Nat → Int32), ∃ (r_p3_row_strengths : Nat → Int32), ∃ (r_p3_row_wears : Nat → Int32), w = (wd_Judge_run k a_t d_t i_t a_p1 d_p1 i_p1 a_p2 d_p2 i_p2 a_p3 d_p3 i_p3 r_t_told r_p1_words r_p1_firsts r_p1_seconds d_p3_row i_p3_row r_p3_row_helpers r_p3_row_pushes d_p3_halves i_p3_halves r_p3_halves_starts r_p3_halves_sizes r_p3_halves_units r_p3_row_longs r_p3_halves_kinds r_p3_row_kinds r_p2_grades r_p3_row_weights r_p3_row_bears r_p3_row_strengths r_p3_row_wears r_p2_halts r_p2_kinds) ∧ Q r i_t i_p3 r_t_told i_p3_row r_p3_row_helpers r_p3_row_pushes i_p3_halves r_p3_halves_starts r_p3_halves_sizes r_p3_halves_units r_p3_row_longs r_p3_halves_kinds r_p3_row_kinds r_p3_row_weights r_p3_row_bears r_p3_row_strengths r_p3_row_wears) D k A ([.ref a_t, .ref a_p1, .ref a_p2, .ref a_p3] : List Value).toArray s 0 0) (F0 m 65 ls []) := by
  have hx := F.x
  have hb := F.b
  intro i_t i_p3 r_t_told i_p3_row r_p3_row_helpers r_p3_row_pushes i_p3_halves r_p3_halves_starts r_p3_halves_sizes r_p3_halves_units r_p3_row_longs r_p3_halves_kinds r_p3_row_kinds r_p3_row_weights r_p3_row_bears r_p3_row_strengths r_p3_row_wears x4 x5 H locs ls hf hB hl
  unfold j_Judge_run_65 at hf
  refine lv_aload_n hx hb dX2_run_65 rfl (lv_at hl 0 rfl) ?_
  refine lv_iconst (v := 1) hx hb dX2_run_66 (by decide) ?_
  refine g_putz F hB 0 rfl fl_RX2_40 rfl (by decide) (by decide) (wd_Judge_run k a_t d_t (upd i_t 1 (1 : Int32)) a_p1 d_p1 i_p1 a_p2 d_p2 i_p2 a_p3 d_p3 i_p3 r_t_told r_p1_words r_p1_firsts r_p1_seconds d_p3_row i_p3_row r_p3_row_helpers r_p3_row_pushes d_p3_halves i_p3_halves r_p3_halves_starts r_p3_halves_sizes r_p3_halves_units r_p3_row_longs r_p3_halves_kinds r_p3_row_kinds r_p2_grades r_p3_row_weights r_p3_row_bears r_p3_row_strengths r_p3_row_wears r_p2_halts r_p2_kinds) rfl dX2_run_67 (fun H locs hB => ?_)
  refine lv_aload_n hx hb dX2_run_70 rfl (lv_at hl 0 rfl) ?_
  refine g_get (w := .ref (d_t 0)) F hB 0 rfl fl_RX2_9 rfl dX2_run_71 ?_
  refine lv_iconst (v := 0) hx hb dX2_run_74 (by decide) ?_
  refine lv_iload hx hb dX2_run_75 (lv_at hl 2 rfl) ?_
  refine g_iast F hB 4 rfl (vp_in_iff.mpr (by decide +kernel)) (wd_Judge_run k a_t d_t (upd i_t 1 (1 : Int32)) a_p1 d_p1 i_p1 a_p2 d_p2 i_p2 a_p3 d_p3 i_p3 (upd r_t_told 0 x4) r_p1_words r_p1_firsts r_p1_seconds d_p3_row i_p3_row r_p3_row_helpers r_p3_row_pushes d_p3_halves i_p3_halves r_p3_halves_starts r_p3_halves_sizes r_p3_halves_units r_p3_row_longs r_p3_halves_kinds r_p3_row_kinds r_p2_grades r_p3_row_weights r_p3_row_bears r_p3_row_strengths r_p3_row_wears r_p2_halts r_p2_kinds) rfl dX2_run_77 (fun H locs hB => ?_)
  refine lv_aload_n hx hb dX2_run_78 rfl (lv_at hl 0 rfl) ?_
  refine g_get (w := .ref (d_t 0)) F hB 0 rfl fl_RX2_9 rfl dX2_run_79 ?_
  refine lv_iconst (v := 1) hx hb dX2_run_82 (by decide) ?_
  refine lv_aload_n hx hb dX2_run_83 rfl (lv_at hl 0 rfl) ?_
  refine g_get (w := .int ((upd i_t 1 (1 : Int32)) 2)) F hB 0 rfl fl_RX2_15 rfl dX2_run_84 ?_
  refine g_iast F hB 4 rfl (vp_in_iff.mpr (by decide +kernel)) (wd_Judge_run k a_t d_t (upd i_t 1 (1 : Int32)) a_p1 d_p1 i_p1 a_p2 d_p2 i_p2 a_p3 d_p3 i_p3 (upd (upd r_t_told 0 x4) 1 ((upd i_t 1 (1 : Int32)) 2)) r_p1_words r_p1_firsts r_p1_seconds d_p3_row i_p3_row r_p3_row_helpers r_p3_row_pushes d_p3_halves i_p3_halves r_p3_halves_starts r_p3_halves_sizes r_p3_halves_units r_p3_row_longs r_p3_halves_kinds r_p3_row_kinds r_p2_grades r_p3_row_weights r_p3_row_bears r_p3_row_strengths r_p3_row_wears r_p2_halts r_p2_kinds) rfl dX2_run_87 (fun H locs hB => ?_)
  refine lv_aload_n hx hb dX2_run_88 rfl (lv_at hl 0 rfl) ?_
  refine g_get (w := .ref (d_t 0)) F hB 0 rfl fl_RX2_9 rfl dX2_run_89 ?_
  refine lv_iconst (v := 2) hx hb dX2_run_92 (by decide) ?_
  refine lv_aload_n hx hb dX2_run_93 rfl (lv_at hl 0 rfl) ?_
  refine g_get (w := .int ((upd i_t 1 (1 : Int32)) 3)) F hB 0 rfl fl_RX2_19 rfl dX2_run_94 ?_
  refine g_iast F hB 4 rfl (vp_in_iff.mpr (by decide +kernel)) (wd_Judge_run k a_t d_t (upd i_t 1 (1 : Int32)) a_p1 d_p1 i_p1 a_p2 d_p2 i_p2 a_p3 d_p3 i_p3 (upd (upd (upd r_t_told 0 x4) 1 ((upd i_t 1 (1 : Int32)) 2)) 2 ((upd i_t 1 (1 : Int32)) 3)) r_p1_words r_p1_firsts r_p1_seconds d_p3_row i_p3_row r_p3_row_helpers r_p3_row_pushes d_p3_halves i_p3_halves r_p3_halves_starts r_p3_halves_sizes r_p3_halves_units r_p3_row_longs r_p3_halves_kinds r_p3_row_kinds r_p2_grades r_p3_row_weights r_p3_row_bears r_p3_row_strengths r_p3_row_wears r_p2_halts r_p2_kinds) rfl dX2_run_97 (fun H locs hB => ?_)
  refine lv_aload_n hx hb dX2_run_98 rfl (lv_at hl 0 rfl) ?_
  refine g_get (w := .ref (d_t 0)) F hB 0 rfl fl_RX2_9 rfl dX2_run_99 ?_
  refine lv_iconst (v := 3) hx hb dX2_run_102 (by decide) ?_
  refine lv_aload_n hx hb dX2_run_103 rfl (lv_at hl 1 rfl) ?_
  refine g_get (w := .ref (d_p3 0)) F hB 3 rfl fl_RX2_44 rfl dX2_run_104 ?_
  refine g_get (w := .int (i_p3_row 10)) F hB 8 rfl fl_RX2_50 rfl dX2_run_107 ?_
  refine g_iast F hB 4 rfl (vp_in_iff.mpr (by decide +kernel)) (wd_Judge_run k a_t d_t (upd i_t 1 (1 : Int32)) a_p1 d_p1 i_p1 a_p2 d_p2 i_p2 a_p3 d_p3 i_p3 (upd (upd (upd (upd r_t_told 0 x4) 1 ((upd i_t 1 (1 : Int32)) 2)) 2 ((upd i_t 1 (1 : Int32)) 3)) 3 (i_p3_row 10)) r_p1_words r_p1_firsts r_p1_seconds d_p3_row i_p3_row r_p3_row_helpers r_p3_row_pushes d_p3_halves i_p3_halves r_p3_halves_starts r_p3_halves_sizes r_p3_halves_units r_p3_row_longs r_p3_halves_kinds r_p3_row_kinds r_p2_grades r_p3_row_weights r_p3_row_bears r_p3_row_strengths r_p3_row_wears r_p2_halts r_p2_kinds) rfl dX2_run_110 (fun H locs hB => ?_)
  refine lv_aload_n hx hb dX2_run_111 rfl (lv_at hl 0 rfl) ?_
  refine g_get (w := .ref (d_t 0)) F hB 0 rfl fl_RX2_9 rfl dX2_run_112 ?_
  refine lv_iconst (v := 4) hx hb dX2_run_115 (by decide) ?_
  refine lv_aload_n hx hb dX2_run_116 rfl (lv_at hl 1 rfl) ?_
  refine g_get (w := .ref (d_p3 0)) F hB 3 rfl fl_RX2_44 rfl dX2_run_117 ?_
  refine g_get (w := .int (i_p3_row 8)) F hB 8 rfl fl_RX2_55 rfl dX2_run_120 ?_
  refine g_iast F hB 4 rfl (vp_in_iff.mpr (by decide +kernel)) (wd_Judge_run k a_t d_t (upd i_t 1 (1 : Int32)) a_p1 d_p1 i_p1 a_p2 d_p2 i_p2 a_p3 d_p3 i_p3 (upd (upd (upd (upd (upd r_t_told 0 x4) 1 ((upd i_t 1 (1 : Int32)) 2)) 2 ((upd i_t 1 (1 : Int32)) 3)) 3 (i_p3_row 10)) 4 (i_p3_row 8)) r_p1_words r_p1_firsts r_p1_seconds d_p3_row i_p3_row r_p3_row_helpers r_p3_row_pushes d_p3_halves i_p3_halves r_p3_halves_starts r_p3_halves_sizes r_p3_halves_units r_p3_row_longs r_p3_halves_kinds r_p3_row_kinds r_p2_grades r_p3_row_weights r_p3_row_bears r_p3_row_strengths r_p3_row_wears r_p2_halts r_p2_kinds) rfl dX2_run_123 (fun H locs hB => ?_)
  refine lv_aload_n hx hb dX2_run_124 rfl (lv_at hl 0 rfl) ?_
  refine g_get (w := .ref (d_t 0)) F hB 0 rfl fl_RX2_9 rfl dX2_run_125 ?_
  refine lv_iconst (v := 5) hx hb dX2_run_128 (by decide) ?_
  refine lv_aload_n hx hb dX2_run_129 rfl (lv_at hl 1 rfl) ?_
  refine g_get (w := .ref (d_p3 1)) F hB 3 rfl fl_RX2_56 rfl dX2_run_130 ?_
  refine g_get (w := .int (i_p3_halves 5)) F hB 11 rfl fl_RX2_60 rfl dX2_run_133 ?_
  refine g_iast F hB 4 rfl (vp_in_iff.mpr (by decide +kernel)) (wd_Judge_run k a_t d_t (upd i_t 1 (1 : Int32)) a_p1 d_p1 i_p1 a_p2 d_p2 i_p2 a_p3 d_p3 i_p3 (upd (upd (upd (upd (upd (upd r_t_told 0 x4) 1 ((upd i_t 1 (1 : Int32)) 2)) 2 ((upd i_t 1 (1 : Int32)) 3)) 3 (i_p3_row 10)) 4 (i_p3_row 8)) 5 (i_p3_halves 5)) r_p1_words r_p1_firsts r_p1_seconds d_p3_row i_p3_row r_p3_row_helpers r_p3_row_pushes d_p3_halves i_p3_halves r_p3_halves_starts r_p3_halves_sizes r_p3_halves_units r_p3_row_longs r_p3_halves_kinds r_p3_row_kinds r_p2_grades r_p3_row_weights r_p3_row_bears r_p3_row_strengths r_p3_row_wears r_p2_halts r_p2_kinds) rfl dX2_run_136 (fun H locs hB => ?_)
  refine lv_iload hx hb dX2_run_137 (lv_at hl 2 rfl) ?_
  refine lv_if_ne (tgt := 146) hx hb dX2_run_139 (by decide) (fun c_47 => ?_) (fun c_47 => ?_)
  · replace hf := hf.1 c_47
    refine lv_iload hx hb dX2_run_146 (lv_at hl 3 rfl) ?_
    refine lv_iconst (v := 1) hx hb dX2_run_148 (by decide) ?_
    refine lv_isub hx hb dX2_run_149 ?_
    exact r_i F hr hlk hB ⟨_, _, _, _, _, _, _, _, _, _, _, _, _, _, _, _, _, rfl, hf⟩ dX2_run_150
  · replace hf := hf.2 c_47
    refine lv_iconst (v := -1) hx hb dX2_run_142 (by decide) ?_
    refine lv_goto (tgt := 150) hx hb dX2_run_143 (by decide) ?_
    exact r_i F hr hlk hB ⟨_, _, _, _, _, _, _, _, _, _, _, _, _, _, _, _, _, rfl, hf⟩ dX2_run_150

set_option maxRecDepth 100000 in
set_option maxHeartbeats 4000000 in
theorem c_Judge_run (l : Launch) (D : va_G) (k : Nat → ClassId) (a_t : Nat) (d_t : Nat → Nat) (i_t : Nat → Int32) (a_p1 : Nat) (d_p1 : Nat → Nat) (i_p1 : Nat → Int32) (a_p2 : Nat) (d_p2 : Nat → Nat) (i_p2 : Nat → Int32) (a_p3 : Nat) (d_p3 : Nat → Nat) (i_p3 : Nat → Int32) (r_t_told : Nat → Int32) (r_p1_words : Nat → Int32) (r_p1_firsts : Nat → Int32) (r_p1_seconds : Nat → Int32) (d_p3_row : Nat → Nat) (i_p3_row : Nat → Int32) (r_p3_row_helpers : Nat → Int32) (r_p3_row_pushes : Nat → Int32) (d_p3_halves : Nat → Nat) (i_p3_halves : Nat → Int32) (r_p3_halves_starts : Nat → Int32) (r_p3_halves_sizes : Nat → Int32) (r_p3_halves_units : Nat → Int32) (r_p3_row_longs : Nat → Int32) (r_p3_halves_kinds : Nat → Int32) (r_p3_row_kinds : Nat → Int32) (r_p2_grades : Nat → Int32) (r_p3_row_weights : Nat → Int32) (r_p3_row_bears : Nat → Int32) (r_p3_row_strengths : Nat → Int32) (r_p3_row_wears : Nat → Int32) (r_p2_halts : Nat → Int32) (r_p2_kinds : Nat → Int32)  (Q : Int32 → (Nat → Int32) → (Nat → Int32) → (Nat → Int32) → (Nat → Int32) → (Nat → Int32) → (Nat → Int32) → (Nat → Int32) → (Nat → Int32) → (Nat → Int32) → (Nat → Int32) → (Nat → Int32) → (Nat → Int32) → (Nat → Int32) → (Nat → Int32) → (Nat → Int32) → (Nat → Int32) → (Nat → Int32) → Prop)  (hf : w_Judge_run i_t i_p1 i_p2 i_p3 r_t_told r_p1_words r_p1_firsts r_p1_seconds i_p3_row r_p3_row_helpers r_p3_row_pushes i_p3_halves r_p3_halves_starts r_p3_halves_sizes r_p3_halves_units r_p3_row_longs r_p3_halves_kinds r_p3_row_kinds r_p2_grades r_p3_row_weights r_p3_row_bears r_p3_row_strengths r_p3_row_wears r_p2_halts r_p2_kinds Q) : CtI l yX2_run cX2_run 6 (some .int) 6 150 0 0 D k [.ref a_t, .ref a_p1, .ref a_p2, .ref a_p3] (wd_Judge_run k a_t d_t i_t a_p1 d_p1 i_p1 a_p2 d_p2 i_p2 a_p3 d_p3 i_p3 r_t_told r_p1_words r_p1_firsts r_p1_seconds d_p3_row i_p3_row r_p3_row_helpers r_p3_row_pushes d_p3_halves i_p3_halves r_p3_halves_starts r_p3_halves_sizes r_p3_halves_units r_p3_row_longs r_p3_halves_kinds r_p3_row_kinds r_p2_grades r_p3_row_weights r_p3_row_bears r_p3_row_strengths r_p3_row_wears r_p2_halts r_p2_kinds) (fun r w => ∃ (i_t : Nat → Int32), ∃ (i_p3 : Nat → Int32), ∃ (r_t_told : Nat → Int32), ∃ (i_p3_row : Nat → Int32), ∃ (r_p3_row_helpers : Nat → Int32), ∃ (r_p3_row_pushes : Nat → Int32), ∃ (i_p3_halves : Nat → Int32), ∃ (r_p3_halves_starts : Nat → Int32), ∃ (r_p3_halves_sizes : Nat → Int32), ∃ (r_p3_halves_units : Nat → Int32), ∃ (r_p3_row_longs : Nat → Int32), ∃ (r_p3_halves_kinds : Nat → Int32), ∃ (r_p3_row_kinds : Nat → Int32), ∃ (r_p3_row_weights : Nat → Int32), ∃ (r_p3_row_bears : Nat → Int32), ∃ (r_p3_row_strengths : Nat → Int32), ∃ (r_p3_row_wears : Nat → Int32), w = (wd_Judge_run k a_t d_t i_t a_p1 d_p1 i_p1 a_p2 d_p2 i_p2 a_p3 d_p3 i_p3 r_t_told r_p1_words r_p1_firsts r_p1_seconds d_p3_row i_p3_row r_p3_row_helpers r_p3_row_pushes d_p3_halves i_p3_halves r_p3_halves_starts r_p3_halves_sizes r_p3_halves_units r_p3_row_longs r_p3_halves_kinds r_p3_row_kinds r_p2_grades r_p3_row_weights r_p3_row_bears r_p3_row_strengths r_p3_row_wears r_p2_halts r_p2_kinds) ∧ Q r i_t i_p3 r_t_told i_p3_row r_p3_row_helpers r_p3_row_pushes i_p3_halves r_p3_halves_starts r_p3_halves_sizes r_p3_halves_units r_p3_row_longs r_p3_halves_kinds r_p3_row_kinds r_p3_row_weights r_p3_row_bears r_p3_row_strengths r_p3_row_wears) := by
  refine CtI.of (by decide) (Nat.le_of_ble_eq_true rfl) ?_
  intro p e s m below meth c A F hr hlk hnm hA hB ls hl
  have hx := F.x
  have hb := F.b
  unfold w_Judge_run at hf
  replace hl : lv_has ls 6 [(0, .ref a_t), (1, .ref a_p1), (2, .ref a_p2), (3, .ref a_p3)] := hl
  refine lv_aload_n hx hb dX2_run_0 rfl (lv_at hl 0 rfl) ?_
  refine lv_iconst (v := 0) hx hb dX2_run_1 (by decide) ?_
  refine g_puti F hB 0 rfl fl_RX2_15 rfl (wd_Judge_run k a_t d_t (upd i_t 2 (0 : Int32)) a_p1 d_p1 i_p1 a_p2 d_p2 i_p2 a_p3 d_p3 i_p3 r_t_told r_p1_words r_p1_firsts r_p1_seconds d_p3_row i_p3_row r_p3_row_helpers r_p3_row_pushes d_p3_halves i_p3_halves r_p3_halves_starts r_p3_halves_sizes r_p3_halves_units r_p3_row_longs r_p3_halves_kinds r_p3_row_kinds r_p2_grades r_p3_row_weights r_p3_row_bears r_p3_row_strengths r_p3_row_wears r_p2_halts r_p2_kinds) rfl dX2_run_2 (fun H locs hB => ?_)
  refine lv_aload_n hx hb dX2_run_5 rfl (lv_at hl 0 rfl) ?_
  refine lv_iconst (v := 0) hx hb dX2_run_6 (by decide) ?_
  refine g_puti F hB 0 rfl fl_RX2_19 rfl (wd_Judge_run k a_t d_t (upd (upd i_t 2 (0 : Int32)) 3 (0 : Int32)) a_p1 d_p1 i_p1 a_p2 d_p2 i_p2 a_p3 d_p3 i_p3 r_t_told r_p1_words r_p1_firsts r_p1_seconds d_p3_row i_p3_row r_p3_row_helpers r_p3_row_pushes d_p3_halves i_p3_halves r_p3_halves_starts r_p3_halves_sizes r_p3_halves_units r_p3_row_longs r_p3_halves_kinds r_p3_row_kinds r_p2_grades r_p3_row_weights r_p3_row_bears r_p3_row_strengths r_p3_row_wears r_p2_halts r_p2_kinds) rfl dX2_run_7 (fun H locs hB => ?_)
  refine lv_iconst (v := 0) hx hb dX2_run_10 (by decide) ?_
  refine lv_istore (lv' := [(4, .int (0 : Int32)), (0, .ref a_t), (1, .ref a_p1), (2, .ref a_p2), (3, .ref a_p3)]) hx hb dX2_run_11 hl (by decide) rfl (fun ls hl => ?_)
  refine lv_iconst (v := 0) hx hb dX2_run_13 (by decide) ?_
  refine lv_istore (lv' := [(5, .int (0 : Int32)), (4, .int (0 : Int32)), (0, .ref a_t), (1, .ref a_p1), (2, .ref a_p2), (3, .ref a_p3)]) hx hb dX2_run_14 hl (by decide) rfl (fun ls hl => ?_)
  obtain ⟨n_48, hf⟩ := hf
  refine lt_Judge_run_16 F hr hlk hA (fun x4_23 x5_24 i_t_25 i_p3_26 i_p3_row_27 r_p3_row_helpers_28 r_p3_row_pushes_29 i_p3_halves_30 r_p3_halves_starts_31 r_p3_halves_sizes_32 r_p3_halves_units_33 r_p3_row_longs_34 r_p3_halves_kinds_35 r_p3_row_kinds_36 r_p3_row_weights_37 r_p3_row_bears_38 r_p3_row_strengths_39 r_p3_row_wears_40 H locs ls hf hB hl => ?_) n_48 _ _ _ _ _ _ _ _ _ _ _ _ _ _ _ _ _ _ _ _ _ hf hB (lv_sub hl [2, 3, 4, 5, 1, 0] rfl)
  exact jt_Judge_run_65 F hr hlk hA _ _ _ _ _ _ _ _ _ _ _ _ _ _ _ _ _ _ _ _ _ _ hf hB (lv_sub hl [0, 1, 2, 3] rfl)

/-! LongTrain.State.copyFrom -/
set_option maxRecDepth 100000 in
set_option maxHeartbeats 4000000 in
theorem c_State_copyFrom (l : Launch) (D : va_G) (k : Nat → ClassId) (a_t : Nat) (d_t : Nat → Nat) (w_t : Nat → Value) (a_p1 : Nat) (d_p1 : Nat → Nat) (w_p1 : Nat → Value) (a_t_line : Nat) (d_t_line : Nat → Nat) (i_t_line : Nat → Int32) (a_p1_line : Nat) (d_p1_line : Nat → Nat) (i_p1_line : Nat → Int32) (r_p1_line_grades : Nat → Int32) (r_t_line_grades : Nat → Int32) (r_p1_line_halts : Nat → Int32) (r_t_line_halts : Nat → Int32) (r_p1_line_loops : Nat → Int32) (r_t_line_loops : Nat → Int32) (r_p1_line_kinds : Nat → Int32) (r_t_line_kinds : Nat → Int32) (r_p1_line_first : Nat → Int32) (r_t_line_first : Nat → Int32) (a_t_plan : Nat) (d_t_plan : Nat → Nat) (i_t_plan : Nat → Int32) (a_p1_plan : Nat) (d_p1_plan : Nat → Nat) (i_p1_plan : Nat → Int32) (r_p1_plan_words : Nat → Int32) (r_t_plan_words : Nat → Int32) (r_p1_plan_firsts : Nat → Int32) (r_t_plan_firsts : Nat → Int32) (r_p1_plan_seconds : Nat → Int32) (r_t_plan_seconds : Nat → Int32) (d_t_train : Nat → Nat) (i_t_train : Nat → Int32) (d_p1_train : Nat → Nat) (i_p1_train : Nat → Int32) (d_t_train_row : Nat → Nat) (i_t_train_row : Nat → Int32) (d_p1_train_row : Nat → Nat) (i_p1_train_row : Nat → Int32) (r_p1_train_row_kinds : Nat → Int32) (r_t_train_row_kinds : Nat → Int32) (r_p1_train_row_longs : Nat → Int32) (r_t_train_row_longs : Nat → Int32) (r_p1_train_row_weights : Nat → Int32) (r_t_train_row_weights : Nat → Int32) (r_p1_train_row_strengths : Nat → Int32) (r_t_train_row_strengths : Nat → Int32) (r_p1_train_row_wears : Nat → Int32) (r_t_train_row_wears : Nat → Int32) (r_p1_train_row_pushes : Nat → Int32) (r_t_train_row_pushes : Nat → Int32) (r_p1_train_row_helpers : Nat → Int32) (r_t_train_row_helpers : Nat → Int32) (d_t_train_halves : Nat → Nat) (i_t_train_halves : Nat → Int32) (d_p1_train_halves : Nat → Nat) (i_p1_train_halves : Nat → Int32) (r_p1_train_halves_kinds : Nat → Int32) (r_t_train_halves_kinds : Nat → Int32) (r_p1_train_halves_starts : Nat → Int32) (r_t_train_halves_starts : Nat → Int32) (r_p1_train_halves_sizes : Nat → Int32) (r_t_train_halves_sizes : Nat → Int32) (r_p1_train_halves_units : Nat → Int32) (r_t_train_halves_units : Nat → Int32)  (Q : (Nat → Int32) → (Nat → Int32) → (Nat → Int32) → (Nat → Int32) → (Nat → Int32) → (Nat → Int32) → (Nat → Int32) → (Nat → Int32) → (Nat → Int32) → (Nat → Int32) → (Nat → Int32) → (Nat → Int32) → (Nat → Int32) → (Nat → Int32) → (Nat → Int32) → (Nat → Int32) → (Nat → Int32) → (Nat → Int32) → (Nat → Int32) → (Nat → Int32) → (Nat → Int32) → (Nat → Int32) → (Nat → Int32) → (Nat → Int32) → Prop) (hw_t_line : w_t 0 = .ref a_t_line) (hw_p1_line : w_p1 0 = .ref a_p1_line) (hw_t_plan : w_t 1 = .ref a_t_plan) (hw_p1_plan : w_p1 1 = .ref a_p1_plan) (hf : w_State_copyFrom i_t_line i_p1_line r_p1_line_grades r_t_line_grades r_p1_line_halts r_t_line_halts r_p1_line_loops r_t_line_loops r_p1_line_kinds r_t_line_kinds r_p1_line_first r_t_line_first i_t_plan i_p1_plan r_p1_plan_words r_t_plan_words r_p1_plan_firsts r_t_plan_firsts r_p1_plan_seconds r_t_plan_seconds i_t_train i_p1_train i_t_train_row i_p1_train_row r_p1_train_row_kinds r_t_train_row_kinds r_p1_train_row_longs r_t_train_row_longs r_p1_train_row_weights r_t_train_row_weights r_p1_train_row_strengths r_t_train_row_strengths r_p1_train_row_wears r_t_train_row_wears r_p1_train_row_pushes r_t_train_row_pushes r_p1_train_row_helpers r_t_train_row_helpers i_t_train_halves i_p1_train_halves r_p1_train_halves_kinds r_t_train_halves_kinds r_p1_train_halves_starts r_t_train_halves_starts r_p1_train_halves_sizes r_t_train_halves_sizes r_p1_train_halves_units r_t_train_halves_units Q) : CtV l yX9_copyFrom cX9_copyFrom 2 none 3 106 0 0 D k [.ref a_t, .ref a_p1] (wd_State_copyFrom k a_t d_t w_t a_p1 d_p1 w_p1 a_t_line d_t_line i_t_line a_p1_line d_p1_line i_p1_line r_p1_line_grades r_t_line_grades r_p1_line_halts r_t_line_halts r_p1_line_loops r_t_line_loops r_p1_line_kinds r_t_line_kinds r_p1_line_first r_t_line_first a_t_plan d_t_plan i_t_plan a_p1_plan d_p1_plan i_p1_plan r_p1_plan_words r_t_plan_words r_p1_plan_firsts r_t_plan_firsts r_p1_plan_seconds r_t_plan_seconds d_t_train i_t_train d_p1_train i_p1_train d_t_train_row i_t_train_row d_p1_train_row i_p1_train_row r_p1_train_row_kinds r_t_train_row_kinds r_p1_train_row_longs r_t_train_row_longs r_p1_train_row_weights r_t_train_row_weights r_p1_train_row_strengths r_t_train_row_strengths r_p1_train_row_wears r_t_train_row_wears r_p1_train_row_pushes r_t_train_row_pushes r_p1_train_row_helpers r_t_train_row_helpers d_t_train_halves i_t_train_halves d_p1_train_halves i_p1_train_halves r_p1_train_halves_kinds r_t_train_halves_kinds r_p1_train_halves_starts r_t_train_halves_starts r_p1_train_halves_sizes r_t_train_halves_sizes r_p1_train_halves_units r_t_train_halves_units) (fun w => ∃ (i_t_line : Nat → Int32), ∃ (r_t_line_grades : Nat → Int32), ∃ (r_t_line_halts : Nat → Int32), ∃ (r_t_line_loops : Nat → Int32), ∃ (r_t_line_kinds : Nat → Int32), ∃ (r_t_line_first : Nat → Int32), ∃ (i_t_plan : Nat → Int32), ∃ (r_t_plan_words : Nat → Int32), ∃ (r_t_plan_firsts : Nat → Int32), ∃ (r_t_plan_seconds : Nat → Int32), ∃ (i_t_train : Nat → Int32), ∃ (i_t_train_row : Nat → Int32), ∃ (r_t_train_row_kinds : Nat → Int32), ∃ (r_t_train_row_longs : Nat → Int32), ∃ (r_t_train_row_weights : Nat → Int32), ∃ (r_t_train_row_strengths : Nat → Int32), ∃ (r_t_train_row_wears : Nat → Int32), ∃ (r_t_train_row_pushes : Nat → Int32), ∃ (r_t_train_row_helpers : Nat → Int32), ∃ (i_t_train_halves : Nat → Int32), ∃ (r_t_train_halves_kinds : Nat → Int32), ∃ (r_t_train_halves_starts : Nat → Int32), ∃ (r_t_train_halves_sizes : Nat → Int32), ∃ (r_t_train_halves_units : Nat → Int32), w = (wd_State_copyFrom k a_t d_t w_t a_p1 d_p1 w_p1 a_t_line d_t_line i_t_line a_p1_line d_p1_line i_p1_line r_p1_line_grades r_t_line_grades r_p1_line_halts r_t_line_halts r_p1_line_loops r_t_line_loops r_p1_line_kinds r_t_line_kinds r_p1_line_first r_t_line_first a_t_plan d_t_plan i_t_plan a_p1_plan d_p1_plan i_p1_plan r_p1_plan_words r_t_plan_words r_p1_plan_firsts r_t_plan_firsts r_p1_plan_seconds r_t_plan_seconds d_t_train i_t_train d_p1_train i_p1_train d_t_train_row i_t_train_row d_p1_train_row i_p1_train_row r_p1_train_row_kinds r_t_train_row_kinds r_p1_train_row_longs r_t_train_row_longs r_p1_train_row_weights r_t_train_row_weights r_p1_train_row_strengths r_t_train_row_strengths r_p1_train_row_wears r_t_train_row_wears r_p1_train_row_pushes r_t_train_row_pushes r_p1_train_row_helpers r_t_train_row_helpers d_t_train_halves i_t_train_halves d_p1_train_halves i_p1_train_halves r_p1_train_halves_kinds r_t_train_halves_kinds r_p1_train_halves_starts r_t_train_halves_starts r_p1_train_halves_sizes r_t_train_halves_sizes r_p1_train_halves_units r_t_train_halves_units) ∧ Q i_t_line r_t_line_grades r_t_line_halts r_t_line_loops r_t_line_kinds r_t_line_first i_t_plan r_t_plan_words r_t_plan_firsts r_t_plan_seconds i_t_train i_t_train_row r_t_train_row_kinds r_t_train_row_longs r_t_train_row_weights r_t_train_row_strengths r_t_train_row_wears r_t_train_row_pushes r_t_train_row_helpers i_t_train_halves r_t_train_halves_kinds r_t_train_halves_starts r_t_train_halves_sizes r_t_train_halves_units) := by
  refine CtV.of (by decide) (Nat.le_of_ble_eq_true rfl) ?_
  intro p e s m below meth c A F hr hlk hnm hA hB ls hl
  have hx := F.x
  have hb := F.b
  unfold w_State_copyFrom at hf
  replace hl : lv_has ls 2 [(0, .ref a_t), (1, .ref a_p1)] := hl
  refine lv_aload_n hx hb dX9_copyFrom_0 rfl (lv_at hl 0 rfl) ?_
  refine g_get (w := .ref a_t_line) F hB 0 rfl fl_RX9_10 hw_t_line dX9_copyFrom_1 ?_
  refine lv_aload_n hx hb dX9_copyFrom_4 rfl (lv_at hl 1 rfl) ?_
  refine g_get (w := .ref a_p1_line) F hB 1 rfl fl_RX9_10 hw_p1_line dX9_copyFrom_5 ?_
  refine k_vv (wr := [(a_t, ob 9 (vmx 9 d_t w_t) i0 j0), (a_p1, ob 9 (vmx 9 d_p1 w_p1) i0 j0), (a_t_plan, ob 6 (rfd d_t_plan) i_t_plan j0), (a_p1_plan, ob 6 (rfd d_p1_plan) i_p1_plan j0), ((d_p1_plan 0), ai k 30 r_p1_plan_words), ((d_t_plan 0), ai k 30 r_t_plan_words), ((d_p1_plan 1), ai k 30 r_p1_plan_firsts), ((d_t_plan 1), ai k 30 r_t_plan_firsts), ((d_p1_plan 2), ai k 30 r_p1_plan_seconds), ((d_t_plan 2), ai k 30 r_t_plan_seconds), ((d_t 2), ob 10 (rfd d_t_train) i_t_train j0), ((d_p1 2), ob 10 (rfd d_p1_train) i_p1_train j0), ((d_t_train 0), ob 8 (rfd d_t_train_row) i_t_train_row j0), ((d_p1_train 0), ob 8 (rfd d_p1_train_row) i_p1_train_row j0), ((d_p1_train_row 0), ai k 20 r_p1_train_row_kinds), ((d_t_train_row 0), ai k 20 r_t_train_row_kinds), ((d_p1_train_row 1), ai k 20 r_p1_train_row_longs), ((d_t_train_row 1), ai k 20 r_t_train_row_longs), ((d_p1_train_row 2), ai k 20 r_p1_train_row_weights), ((d_t_train_row 2), ai k 20 r_t_train_row_weights), ((d_p1_train_row 3), ai k 20 r_p1_train_row_strengths), ((d_t_train_row 3), ai k 20 r_t_train_row_strengths), ((d_p1_train_row 4), ai k 20 r_p1_train_row_wears), ((d_t_train_row 4), ai k 20 r_t_train_row_wears), ((d_p1_train_row 5), ai k 20 r_p1_train_row_pushes), ((d_t_train_row 5), ai k 20 r_t_train_row_pushes), ((d_p1_train_row 6), ai k 20 r_p1_train_row_helpers), ((d_t_train_row 6), ai k 20 r_t_train_row_helpers), ((d_t_train 1), ob 1 (rfd d_t_train_halves) i_t_train_halves j0), ((d_p1_train 1), ob 1 (rfd d_p1_train_halves) i_p1_train_halves j0), ((d_p1_train_halves 0), ai k 20 r_p1_train_halves_kinds), ((d_t_train_halves 0), ai k 20 r_t_train_halves_kinds), ((d_p1_train_halves 2), ai k 20 r_p1_train_halves_starts), ((d_t_train_halves 2), ai k 20 r_t_train_halves_starts), ((d_p1_train_halves 3), ai k 20 r_p1_train_halves_sizes), ((d_t_train_halves 3), ai k 20 r_t_train_halves_sizes), ((d_p1_train_halves 4), ai k 20 r_p1_train_halves_units), ((d_t_train_halves 4), ai k 20 r_t_train_halves_units)]) (rest := []) F hA hB (c_Line_copyFrom l D k a_t_line d_t_line i_t_line a_p1_line d_p1_line i_p1_line r_p1_line_grades r_t_line_grades r_p1_line_halts r_t_line_halts r_p1_line_loops r_t_line_loops r_p1_line_kinds r_t_line_kinds r_p1_line_first r_t_line_first _  hf) ml_RX9_30 mv_yX3_copyFrom [2, 3, 4, 5, 6, 7, 8, 9, 10, 11, 12, 13] [0, 1, 14, 15, 16, 17, 18, 19, 20, 21, 22, 23, 24, 25, 26, 27, 28, 29, 30, 31, 32, 33, 34, 35, 36, 37, 38, 39, 40, 41, 42, 43, 44, 45, 46, 47, 48, 49] rfl rfl (by decide) (by decide) (by decide) 2 rfl rfl rfl hl.1 rfl (Nat.le_of_ble_eq_true rfl) ⟨Nat.le_of_ble_eq_true rfl, Nat.le_of_ble_eq_true rfl⟩ ⟨Nat.le_of_ble_eq_true rfl, Nat.le_of_ble_eq_true rfl⟩ dX9_copyFrom_8 (fun w1 H locs hq hB => ?_)
  obtain ⟨i_t_line_1, r_t_line_grades_2, r_t_line_halts_3, r_t_line_loops_4, r_t_line_kinds_5, r_t_line_first_6, rfl, hf⟩ := hq
  replace hB : Bd D A s.heap (wd_State_copyFrom k a_t d_t w_t a_p1 d_p1 w_p1 a_t_line d_t_line i_t_line_1 a_p1_line d_p1_line i_p1_line r_p1_line_grades r_t_line_grades_2 r_p1_line_halts r_t_line_halts_3 r_p1_line_loops r_t_line_loops_4 r_p1_line_kinds r_t_line_kinds_5 r_p1_line_first r_t_line_first_6 a_t_plan d_t_plan i_t_plan a_p1_plan d_p1_plan i_p1_plan r_p1_plan_words r_t_plan_words r_p1_plan_firsts r_t_plan_firsts r_p1_plan_seconds r_t_plan_seconds d_t_train i_t_train d_p1_train i_p1_train d_t_train_row i_t_train_row d_p1_train_row i_p1_train_row r_p1_train_row_kinds r_t_train_row_kinds r_p1_train_row_longs r_t_train_row_longs r_p1_train_row_weights r_t_train_row_weights r_p1_train_row_strengths r_t_train_row_strengths r_p1_train_row_wears r_t_train_row_wears r_p1_train_row_pushes r_t_train_row_pushes r_p1_train_row_helpers r_t_train_row_helpers d_t_train_halves i_t_train_halves d_p1_train_halves i_p1_train_halves r_p1_train_halves_kinds r_t_train_halves_kinds r_p1_train_halves_starts r_t_train_halves_starts r_p1_train_halves_sizes r_t_train_halves_sizes r_p1_train_halves_units r_t_train_halves_units) H locs := hB.sub [0, 1, 38, 39, 40, 41, 42, 43, 44, 45, 46, 47, 48, 49, 2, 3, 4, 5, 6, 7, 8, 9, 10, 11, 12, 13, 14, 15, 16, 17, 18, 19, 20, 21, 22, 23, 24, 25, 26, 27, 28, 29, 30, 31, 32, 33, 34, 35, 36, 37] (by decide) rfl
  refine lv_aload_n hx hb dX9_copyFrom_11 rfl (lv_at hl 0 rfl) ?_
  refine g_get (w := .ref a_t_plan) F hB 0 rfl fl_RX9_19 hw_t_plan dX9_copyFrom_12 ?_
  refine lv_aload_n hx hb dX9_copyFrom_15 rfl (lv_at hl 1 rfl) ?_
  refine g_get (w := .ref a_p1_plan) F hB 1 rfl fl_RX9_19 hw_p1_plan dX9_copyFrom_16 ?_
  refine k_vv (wr := [(a_t, ob 9 (vmx 9 d_t w_t) i0 j0), (a_p1, ob 9 (vmx 9 d_p1 w_p1) i0 j0), (a_t_line, ob 3 (rfd d_t_line) i_t_line_1 j0), (a_p1_line, ob 3 (rfd d_p1_line) i_p1_line j0), ((d_p1_line 0), ai k 400 r_p1_line_grades), ((d_t_line 0), ai k 400 r_t_line_grades_2), ((d_p1_line 2), ai k 30 r_p1_line_halts), ((d_t_line 2), ai k 30 r_t_line_halts_3), ((d_p1_line 4), ai k 16 r_p1_line_loops), ((d_t_line 4), ai k 16 r_t_line_loops_4), ((d_p1_line 6), ai k 18 r_p1_line_kinds), ((d_t_line 6), ai k 18 r_t_line_kinds_5), ((d_p1_line 8), ai k 8 r_p1_line_first), ((d_t_line 8), ai k 8 r_t_line_first_6), ((d_t 2), ob 10 (rfd d_t_train) i_t_train j0), ((d_p1 2), ob 10 (rfd d_p1_train) i_p1_train j0), ((d_t_train 0), ob 8 (rfd d_t_train_row) i_t_train_row j0), ((d_p1_train 0), ob 8 (rfd d_p1_train_row) i_p1_train_row j0), ((d_p1_train_row 0), ai k 20 r_p1_train_row_kinds), ((d_t_train_row 0), ai k 20 r_t_train_row_kinds), ((d_p1_train_row 1), ai k 20 r_p1_train_row_longs), ((d_t_train_row 1), ai k 20 r_t_train_row_longs), ((d_p1_train_row 2), ai k 20 r_p1_train_row_weights), ((d_t_train_row 2), ai k 20 r_t_train_row_weights), ((d_p1_train_row 3), ai k 20 r_p1_train_row_strengths), ((d_t_train_row 3), ai k 20 r_t_train_row_strengths), ((d_p1_train_row 4), ai k 20 r_p1_train_row_wears), ((d_t_train_row 4), ai k 20 r_t_train_row_wears), ((d_p1_train_row 5), ai k 20 r_p1_train_row_pushes), ((d_t_train_row 5), ai k 20 r_t_train_row_pushes), ((d_p1_train_row 6), ai k 20 r_p1_train_row_helpers), ((d_t_train_row 6), ai k 20 r_t_train_row_helpers), ((d_t_train 1), ob 1 (rfd d_t_train_halves) i_t_train_halves j0), ((d_p1_train 1), ob 1 (rfd d_p1_train_halves) i_p1_train_halves j0), ((d_p1_train_halves 0), ai k 20 r_p1_train_halves_kinds), ((d_t_train_halves 0), ai k 20 r_t_train_halves_kinds), ((d_p1_train_halves 2), ai k 20 r_p1_train_halves_starts), ((d_t_train_halves 2), ai k 20 r_t_train_halves_starts), ((d_p1_train_halves 3), ai k 20 r_p1_train_halves_sizes), ((d_t_train_halves 3), ai k 20 r_t_train_halves_sizes), ((d_p1_train_halves 4), ai k 20 r_p1_train_halves_units), ((d_t_train_halves 4), ai k 20 r_t_train_halves_units)]) (rest := []) F hA hB (c_Plan_copyFrom l D k a_t_plan d_t_plan i_t_plan a_p1_plan d_p1_plan i_p1_plan r_p1_plan_words r_t_plan_words r_p1_plan_firsts r_t_plan_firsts r_p1_plan_seconds r_t_plan_seconds _  hf) ml_RX9_34 mv_yX6_copyFrom [14, 15, 16, 17, 18, 19, 20, 21] [0, 1, 2, 3, 4, 5, 6, 7, 8, 9, 10, 11, 12, 13, 22, 23, 24, 25, 26, 27, 28, 29, 30, 31, 32, 33, 34, 35, 36, 37, 38, 39, 40, 41, 42, 43, 44, 45, 46, 47, 48, 49] rfl rfl (by decide) (by decide) (by decide) 14 rfl rfl rfl hl.1 rfl (Nat.le_of_ble_eq_true rfl) ⟨Nat.le_of_ble_eq_true rfl, Nat.le_of_ble_eq_true rfl⟩ ⟨Nat.le_of_ble_eq_true rfl, Nat.le_of_ble_eq_true rfl⟩ dX9_copyFrom_19 (fun w1 H locs hq hB => ?_)
  obtain ⟨i_t_plan_7, r_t_plan_words_8, r_t_plan_firsts_9, r_t_plan_seconds_10, rfl, hf⟩ := hq
  replace hB : Bd D A s.heap (wd_State_copyFrom k a_t d_t w_t a_p1 d_p1 w_p1 a_t_line d_t_line i_t_line_1 a_p1_line d_p1_line i_p1_line r_p1_line_grades r_t_line_grades_2 r_p1_line_halts r_t_line_halts_3 r_p1_line_loops r_t_line_loops_4 r_p1_line_kinds r_t_line_kinds_5 r_p1_line_first r_t_line_first_6 a_t_plan d_t_plan i_t_plan_7 a_p1_plan d_p1_plan i_p1_plan r_p1_plan_words r_t_plan_words_8 r_p1_plan_firsts r_t_plan_firsts_9 r_p1_plan_seconds r_t_plan_seconds_10 d_t_train i_t_train d_p1_train i_p1_train d_t_train_row i_t_train_row d_p1_train_row i_p1_train_row r_p1_train_row_kinds r_t_train_row_kinds r_p1_train_row_longs r_t_train_row_longs r_p1_train_row_weights r_t_train_row_weights r_p1_train_row_strengths r_t_train_row_strengths r_p1_train_row_wears r_t_train_row_wears r_p1_train_row_pushes r_t_train_row_pushes r_p1_train_row_helpers r_t_train_row_helpers d_t_train_halves i_t_train_halves d_p1_train_halves i_p1_train_halves r_p1_train_halves_kinds r_t_train_halves_kinds r_p1_train_halves_starts r_t_train_halves_starts r_p1_train_halves_sizes r_t_train_halves_sizes r_p1_train_halves_units r_t_train_halves_units) H locs := hB.sub [0, 1, 2, 3, 4, 5, 6, 7, 8, 9, 10, 11, 12, 13, 42, 43, 44, 45, 46, 47, 48, 49, 14, 15, 16, 17, 18, 19, 20, 21, 22, 23, 24, 25, 26, 27, 28, 29, 30, 31, 32, 33, 34, 35, 36, 37, 38, 39, 40, 41] (by decide) rfl
  refine lv_aload_n hx hb dX9_copyFrom_22 rfl (lv_at hl 0 rfl) ?_
  refine g_get (w := .ref (d_t 2)) F hB 0 rfl fl_RX9_26 rfl dX9_copyFrom_23 ?_
  refine lv_aload_n hx hb dX9_copyFrom_26 rfl (lv_at hl 1 rfl) ?_
  refine g_get (w := .ref (d_p1 2)) F hB 1 rfl fl_RX9_26 rfl dX9_copyFrom_27 ?_
  refine k_vv (wr := [(a_t, ob 9 (vmx 9 d_t w_t) i0 j0), (a_p1, ob 9 (vmx 9 d_p1 w_p1) i0 j0), (a_t_line, ob 3 (rfd d_t_line) i_t_line_1 j0), (a_p1_line, ob 3 (rfd d_p1_line) i_p1_line j0), ((d_p1_line 0), ai k 400 r_p1_line_grades), ((d_t_line 0), ai k 400 r_t_line_grades_2), ((d_p1_line 2), ai k 30 r_p1_line_halts), ((d_t_line 2), ai k 30 r_t_line_halts_3), ((d_p1_line 4), ai k 16 r_p1_line_loops), ((d_t_line 4), ai k 16 r_t_line_loops_4), ((d_p1_line 6), ai k 18 r_p1_line_kinds), ((d_t_line 6), ai k 18 r_t_line_kinds_5), ((d_p1_line 8), ai k 8 r_p1_line_first), ((d_t_line 8), ai k 8 r_t_line_first_6), (a_t_plan, ob 6 (rfd d_t_plan) i_t_plan_7 j0), (a_p1_plan, ob 6 (rfd d_p1_plan) i_p1_plan j0), ((d_p1_plan 0), ai k 30 r_p1_plan_words), ((d_t_plan 0), ai k 30 r_t_plan_words_8), ((d_p1_plan 1), ai k 30 r_p1_plan_firsts), ((d_t_plan 1), ai k 30 r_t_plan_firsts_9), ((d_p1_plan 2), ai k 30 r_p1_plan_seconds), ((d_t_plan 2), ai k 30 r_t_plan_seconds_10)]) (rest := []) F hA hB (c_Train_copyFrom l D k (d_t 2) d_t_train i_t_train (d_p1 2) d_p1_train i_p1_train d_t_train_row i_t_train_row d_p1_train_row i_p1_train_row r_p1_train_row_kinds r_t_train_row_kinds r_p1_train_row_longs r_t_train_row_longs r_p1_train_row_weights r_t_train_row_weights r_p1_train_row_strengths r_t_train_row_strengths r_p1_train_row_wears r_t_train_row_wears r_p1_train_row_pushes r_t_train_row_pushes r_p1_train_row_helpers r_t_train_row_helpers d_t_train_halves i_t_train_halves d_p1_train_halves i_p1_train_halves r_p1_train_halves_kinds r_t_train_halves_kinds r_p1_train_halves_starts r_t_train_halves_starts r_p1_train_halves_sizes r_t_train_halves_sizes r_p1_train_halves_units r_t_train_halves_units _  hf) ml_RX9_37 mv_yX10_copyFrom [22, 23, 24, 25, 26, 27, 28, 29, 30, 31, 32, 33, 34, 35, 36, 37, 38, 39, 40, 41, 42, 43, 44, 45, 46, 47, 48, 49] [0, 1, 2, 3, 4, 5, 6, 7, 8, 9, 10, 11, 12, 13, 14, 15, 16, 17, 18, 19, 20, 21] rfl rfl (by decide) (by decide) (by decide) 22 rfl rfl rfl hl.1 rfl (Nat.le_of_ble_eq_true rfl) ⟨Nat.le_of_ble_eq_true rfl, Nat.le_of_ble_eq_true rfl⟩ ⟨Nat.le_of_ble_eq_true rfl, Nat.le_of_ble_eq_true rfl⟩ dX9_copyFrom_30 (fun w1 H locs hq hB => ?_)
  obtain ⟨i_t_train_11, i_t_train_row_12, r_t_train_row_kinds_13, r_t_train_row_longs_14, r_t_train_row_weights_15, r_t_train_row_strengths_16, r_t_train_row_wears_17, r_t_train_row_pushes_18, r_t_train_row_helpers_19, i_t_train_halves_20, r_t_train_halves_kinds_21, r_t_train_halves_starts_22, r_t_train_halves_sizes_23, r_t_train_halves_units_24, rfl, hf⟩ := hq
  replace hB : Bd D A s.heap (wd_State_copyFrom k a_t d_t w_t a_p1 d_p1 w_p1 a_t_line d_t_line i_t_line_1 a_p1_line d_p1_line i_p1_line r_p1_line_grades r_t_line_grades_2 r_p1_line_halts r_t_line_halts_3 r_p1_line_loops r_t_line_loops_4 r_p1_line_kinds r_t_line_kinds_5 r_p1_line_first r_t_line_first_6 a_t_plan d_t_plan i_t_plan_7 a_p1_plan d_p1_plan i_p1_plan r_p1_plan_words r_t_plan_words_8 r_p1_plan_firsts r_t_plan_firsts_9 r_p1_plan_seconds r_t_plan_seconds_10 d_t_train i_t_train_11 d_p1_train i_p1_train d_t_train_row i_t_train_row_12 d_p1_train_row i_p1_train_row r_p1_train_row_kinds r_t_train_row_kinds_13 r_p1_train_row_longs r_t_train_row_longs_14 r_p1_train_row_weights r_t_train_row_weights_15 r_p1_train_row_strengths r_t_train_row_strengths_16 r_p1_train_row_wears r_t_train_row_wears_17 r_p1_train_row_pushes r_t_train_row_pushes_18 r_p1_train_row_helpers r_t_train_row_helpers_19 d_t_train_halves i_t_train_halves_20 d_p1_train_halves i_p1_train_halves r_p1_train_halves_kinds r_t_train_halves_kinds_21 r_p1_train_halves_starts r_t_train_halves_starts_22 r_p1_train_halves_sizes r_t_train_halves_sizes_23 r_p1_train_halves_units r_t_train_halves_units_24) H locs := hB.sub [0, 1, 2, 3, 4, 5, 6, 7, 8, 9, 10, 11, 12, 13, 14, 15, 16, 17, 18, 19, 20, 21, 22, 23, 24, 25, 26, 27, 28, 29, 30, 31, 32, 33, 34, 35, 36, 37, 38, 39, 40, 41, 42, 43, 44, 45, 46, 47, 48, 49] (by decide) rfl
  exact r_v F hr hlk hB ⟨_, _, _, _, _, _, _, _, _, _, _, _, _, _, _, _, _, _, _, _, _, _, _, _, rfl, hf⟩ dX9_copyFrom_33

/-! LongTrain.Lives.holdsAt -/
set_option maxRecDepth 100000 in
set_option maxHeartbeats 4000000 in
theorem c_Lives_holdsAt (l : Launch) (D : va_G) (k : Nat → ClassId) (a_p1 : Nat) (d_p1 : Nat → Nat) (i_p1 : Nat → Int32) (a_p2 : Nat) (d_p2 : Nat → Nat) (i_p2 : Nat → Int32) (r_p1_longs : Nat → Int32) (r_p2_grades : Nat → Int32) (r_p1_weights : Nat → Int32) (r_p1_pushes : Nat → Int32) (r_p1_bears : Nat → Int32) (r_p1_strengths : Nat → Int32) (r_p1_wears : Nat → Int32) (n0 : Int32) (Q : Int32 → (Nat → Int32) → (Nat → Int32) → (Nat → Int32) → Prop)  (hf : w_Lives_holdsAt i_p1 i_p2 r_p1_longs r_p2_grades r_p1_weights r_p1_pushes r_p1_bears r_p1_strengths r_p1_wears n0 Q) : CtI l yX5_holdsAt cX5_holdsAt 3 (some .boolean) 3 67 0 0 D k [.int n0, .ref a_p1, .ref a_p2] (wd_Lives_holdsAt k a_p1 d_p1 i_p1 a_p2 d_p2 i_p2 r_p1_longs r_p2_grades r_p1_weights r_p1_pushes r_p1_bears r_p1_strengths r_p1_wears) (fun r w => (r = 0 ∨ r = 1) ∧ (∃ (i_p1 : Nat → Int32), ∃ (r_p1_bears : Nat → Int32), ∃ (r_p1_wears : Nat → Int32), w = (wd_Lives_holdsAt k a_p1 d_p1 i_p1 a_p2 d_p2 i_p2 r_p1_longs r_p2_grades r_p1_weights r_p1_pushes r_p1_bears r_p1_strengths r_p1_wears) ∧ Q r i_p1 r_p1_bears r_p1_wears)) := by
  refine CtI.of (by decide) (Nat.le_of_ble_eq_true rfl) ?_
  intro p e s m below meth c A F hr hlk hnm hA hB ls hl
  have hx := F.x
  have hb := F.b
  unfold w_Lives_holdsAt at hf
  replace hl : lv_has ls 3 [(0, .int n0), (1, .ref a_p1), (2, .ref a_p2)] := hl
  refine lv_aload_n hx hb dX5_holdsAt_0 rfl (lv_at hl 1 rfl) ?_
  refine lv_iload_n hx hb dX5_holdsAt_1 rfl (lv_at hl 0 rfl) ?_
  refine g_puti F hB 0 rfl fl_RX5_38 rfl (wd_Lives_holdsAt k a_p1 d_p1 (upd i_p1 10 n0) a_p2 d_p2 i_p2 r_p1_longs r_p2_grades r_p1_weights r_p1_pushes r_p1_bears r_p1_strengths r_p1_wears) rfl dX5_holdsAt_2 (fun H locs hB => ?_)
  refine lv_aload_n hx hb dX5_holdsAt_5 rfl (lv_at hl 1 rfl) ?_
  refine lv_aload_n hx hb dX5_holdsAt_6 rfl (lv_at hl 2 rfl) ?_
  refine k_vi (wr := [((d_p1 3), ai k 20 r_p1_strengths), ((d_p1 4), ai k 20 r_p1_wears)]) (rest := []) F hA hB (c_Row_measure l D k a_p1 d_p1 (upd i_p1 10 n0) a_p2 d_p2 i_p2 r_p1_longs r_p2_grades r_p1_weights r_p1_pushes r_p1_bears _  hf) ml_RX5_42 mv_yX8_measure [0, 1, 2, 3, 4, 5, 6] [7, 8] rfl rfl (by decide) (by decide) (by decide) 0 rfl rfl rfl hl.1 rfl (Nat.le_of_ble_eq_true rfl) ⟨Nat.le_of_ble_eq_true rfl, Nat.le_of_ble_eq_true rfl⟩ ⟨Nat.le_of_ble_eq_true rfl, Nat.le_of_ble_eq_true rfl⟩ dX5_holdsAt_7 (fun z_2 w1 H locs hq hB => ?_)
  obtain ⟨r_p1_bears_1, rfl, hf⟩ := hq
  replace hB : Bd D A s.heap (wd_Lives_holdsAt k a_p1 d_p1 (upd i_p1 10 n0) a_p2 d_p2 i_p2 r_p1_longs r_p2_grades r_p1_weights r_p1_pushes r_p1_bears_1 r_p1_strengths r_p1_wears) H locs := hB.sub [2, 3, 4, 5, 6, 7, 8, 0, 1] (by decide) rfl
  refine lv_pop hx hb dX5_holdsAt_10 rfl ?_
  refine lv_aload_n hx hb dX5_holdsAt_11 rfl (lv_at hl 1 rfl) ?_
  refine lv_aload_n hx hb dX5_holdsAt_12 rfl (lv_at hl 2 rfl) ?_
  refine g_get (w := .int (i_p2 14)) F hB 1 rfl fl_RX5_46 rfl dX5_holdsAt_13 ?_
  refine k_vi (wr := [(a_p2, ob 3 (rfd d_p2) i_p2 j0), ((d_p1 1), ai k 20 r_p1_longs), ((d_p2 0), ai k 400 r_p2_grades), ((d_p1 2), ai k 20 r_p1_weights), ((d_p1 5), ai k 20 r_p1_pushes)]) (rest := []) F hA hB (c_Row_partingPlace l D k a_p1 d_p1 (upd i_p1 10 n0) r_p1_bears_1 r_p1_strengths r_p1_wears (i_p2 14) _  hf) ml_RX5_51 mv_yX8_partingPlace [0, 6, 7, 8] [1, 2, 3, 4, 5] rfl rfl (by decide) (by decide) (by decide) 0 rfl rfl rfl hl.1 rfl (Nat.le_of_ble_eq_true rfl) ⟨Nat.le_of_ble_eq_true rfl, Nat.le_of_ble_eq_true rfl⟩ ⟨Nat.le_of_ble_eq_true rfl, Nat.le_of_ble_eq_true rfl⟩ dX5_holdsAt_16 (fun z_3 w1 H locs hq hB => ?_)
  obtain ⟨rfl, hf⟩ := hq
  replace hB : Bd D A s.heap (wd_Lives_holdsAt k a_p1 d_p1 (upd i_p1 10 n0) a_p2 d_p2 i_p2 r_p1_longs r_p2_grades r_p1_weights r_p1_pushes r_p1_bears_1 r_p1_strengths r_p1_wears) H locs := hB.sub [5, 0, 1, 2, 3, 4, 6, 7, 8] (by decide) rfl
  refine lv_iconst (v := -1) hx hb dX5_holdsAt_19 (by decide) ?_
  refine lv_icmp_eq (tgt := 25) hx hb dX5_holdsAt_20 (by decide) (fun c_5 => ?_) (fun c_5 => ?_)
  · replace hf := hf.1 c_5
    refine lv_aload_n hx hb dX5_holdsAt_25 rfl (lv_at hl 1 rfl) ?_
    refine lv_aload_n hx hb dX5_holdsAt_26 rfl (lv_at hl 1 rfl) ?_
    refine g_get (w := .int ((upd i_p1 10 n0) 8)) F hB 0 rfl fl_RX5_55 rfl dX5_holdsAt_27 ?_
    refine k_vv (wr := [(a_p2, ob 3 (rfd d_p2) i_p2 j0), ((d_p1 1), ai k 20 r_p1_longs), ((d_p2 0), ai k 400 r_p2_grades), ((d_p1 2), ai k 20 r_p1_weights), ((d_p1 5), ai k 20 r_p1_pushes), ((d_p1 3), ai k 20 r_p1_strengths)]) (rest := []) F hA hB (c_Row_addWear l D k a_p1 d_p1 (upd i_p1 10 n0) r_p1_bears_1 r_p1_wears ((upd i_p1 10 n0) 8) _  hf) ml_RX5_58 mv_yX8_addWear [0, 6, 8] [1, 2, 3, 4, 5, 7] rfl rfl (by decide) (by decide) (by decide) 0 rfl rfl rfl hl.1 rfl (Nat.le_of_ble_eq_true rfl) ⟨Nat.le_of_ble_eq_true rfl, Nat.le_of_ble_eq_true rfl⟩ ⟨Nat.le_of_ble_eq_true rfl, Nat.le_of_ble_eq_true rfl⟩ dX5_holdsAt_30 (fun w1 H locs hq hB => ?_)
    obtain ⟨r_p1_wears_4, rfl, hf⟩ := hq
    replace hB : Bd D A s.heap (wd_Lives_holdsAt k a_p1 d_p1 (upd i_p1 10 n0) a_p2 d_p2 i_p2 r_p1_longs r_p2_grades r_p1_weights r_p1_pushes r_p1_bears_1 r_p1_strengths r_p1_wears_4) H locs := hB.sub [6, 0, 1, 2, 3, 4, 7, 5, 8] (by decide) rfl
    refine lv_iconst (v := 1) hx hb dX5_holdsAt_33 (by decide) ?_
    exact r_z F hr hlk hB (Or.inr rfl) ⟨Or.inr rfl, _, _, _, rfl, hf⟩ dX5_holdsAt_34
  · replace hf := hf.2 c_5
    refine lv_iconst (v := 0) hx hb dX5_holdsAt_23 (by decide) ?_
    exact r_z F hr hlk hB (Or.inl rfl) ⟨Or.inl rfl, _, _, _, rfl, hf⟩ dX5_holdsAt_24

/-! LongTrain.Lives.placeBy -/
set_option maxRecDepth 100000 in
set_option maxHeartbeats 4000000 in
theorem bt_Lives_placeBy_21 {p : Program} {l : Launch} {e : Env} {s : State} {m : MethodId} {below : List Frame} {meth : Method} {c : Code} {A : Nat → Prop} {D : va_G} {k : Nat → ClassId} {a_p1 : Nat} {d_p1 : Nat → Nat} {i_p1 : Nat → Int32} {r_p1_strengths : Nat → Int32} {n0 : Int32} {n2 : Int32} {Q : Int32 → Prop}  {x2 : Int32} {kx_21 : (Int32) → Prop} {kr_21 : (Int32) → Prop} (F : Fx p m c cX5_placeBy 4 s ([.int n0, .ref a_p1, .int n2] : List Value).toArray RX5 D k) (hr : meth.sig.returnType = (some .int)) (hlk : meth.locks = false) (hA : ∀ q : Nat, s.heap.size ≤ q → A q) (hkx_21 : ∀ (x3 : Int32) (H : Heap) (locs : List Loc) (ls : Array Slot), kx_21 x3 → Bd D A s.heap (wd_Lives_placeBy k a_p1 d_p1 i_p1 r_p1_strengths) H locs → lv_has ls 4 [(3, .int x3)] → W p l e { frames := 0, cells := 0, slots := 0, locals := 0 } s m ([.int n0, .ref a_p1, .int n2] : List Value).toArray below meth c H locs 0 0 (Ei below (fun r w => w = (wd_Lives_placeBy k a_p1 d_p1 i_p1 r_p1_strengths) ∧ Q r) D k A ([.int n0, .ref a_p1, .int n2] : List Value).toArray s 0 0) (F0 m 45 ls [])) (hkr_21 : ∀ (x3 : Int32) (H : Heap) (locs : List Loc) (ls : Array Slot), kr_21 x3 → Bd D A s.heap (wd_Lives_placeBy k a_p1 d_p1 i_p1 r_p1_strengths) H locs → lv_has ls 4 [(1, .ref a_p1), (2, .int x2), (3, .int x3)] → W p l e { frames := 0, cells := 0, slots := 0, locals := 0 } s m ([.int n0, .ref a_p1, .int n2] : List Value).toArray below meth c H locs 0 0 (Ei below (fun r w => w = (wd_Lives_placeBy k a_p1 d_p1 i_p1 r_p1_strengths) ∧ Q r) D k A ([.int n0, .ref a_p1, .int n2] : List Value).toArray s 0 0) (F0 m 21 ls [])) :
    ∀ (x3 : Int32) (H : Heap) (locs : List Loc) (ls : Array Slot), b_Lives_placeBy_21 i_p1 r_p1_strengths x2 kx_21 kr_21 x3 → Bd D A s.heap (wd_Lives_placeBy k a_p1 d_p1 i_p1 r_p1_strengths) H locs → lv_has ls 4 [(1, .ref a_p1), (2, .int x2), (3, .int x3)] → W p l e { frames := 0, cells := 0, slots := 0, locals := 0 } s m ([.int n0, .ref a_p1, .int n2] : List Value).toArray below meth c H locs 0 0 (Ei below (fun r w => w = (wd_Lives_placeBy k a_p1 d_p1 i_p1 r_p1_strengths) ∧ Q r) D k A ([.int n0, .ref a_p1, .int n2] : List Value).toArray s 0 0) (F0 m 21 ls []) := by
  have hx := F.x
  have hb := F.b
  intro x3 H locs ls hf hB hl
  unfold b_Lives_placeBy_21 at hf
  refine lv_iload_n hx hb dX5_placeBy_21 rfl (lv_at hl 2 rfl) ?_
  refine lv_aload_n hx hb dX5_placeBy_22 rfl (lv_at hl 0 rfl) ?_
  refine g_get (w := .int (i_p1 8)) F hB 0 rfl fl_RX5_55 rfl dX5_placeBy_23 ?_
  refine lv_icmp_ge (tgt := 45) hx hb dX5_placeBy_26 (by decide) (fun c_3 => ?_) (fun c_3 => ?_)
  · replace hf := hf.1 c_3
    exact hkx_21 _ _ _ _ hf hB (lv_sub hl [2] rfl)
  · replace hf := hf.2 c_3
    refine lv_aload_n hx hb dX5_placeBy_29 rfl (lv_at hl 0 rfl) ?_
    refine g_get (w := .ref (d_p1 3)) F hB 0 rfl fl_RX5_87 rfl dX5_placeBy_30 ?_
    refine lv_iload_n hx hb dX5_placeBy_33 rfl (lv_at hl 2 rfl) ?_
    obtain ⟨h_1, hf⟩ := hf
    refine g_iald F hB 1 rfl h_1 dX5_placeBy_34 ?_
    refine lv_iload_n hx hb dX5_placeBy_35 rfl (lv_at hl 1 rfl) ?_
    refine lv_icmp_lt (tgt := 45) hx hb dX5_placeBy_36 (by decide) (fun c_2 => ?_) (fun c_2 => ?_)
    · replace hf := hf.1 c_2
      exact hkx_21 _ _ _ _ hf hB (lv_sub hl [2] rfl)
    · replace hf := hf.2 c_2
      refine lv_iinc (v := (x3 + 1)) (lv' := [(3, .int (x3 + 1)), (1, .ref a_p1), (2, .int x2)]) (k := 2) hx hb dX5_placeBy_39 hl rfl rfl (by decide) rfl (fun ls hl => ?_)
      refine lv_goto (tgt := 21) hx hb dX5_placeBy_42 (by decide) ?_
      exact hkr_21 _ _ _ _ hf hB (lv_sub hl [1, 2, 0] rfl)

set_option maxRecDepth 100000 in
set_option maxHeartbeats 4000000 in
theorem lt_Lives_placeBy_21 {p : Program} {l : Launch} {e : Env} {s : State} {m : MethodId} {below : List Frame} {meth : Method} {c : Code} {A : Nat → Prop} {D : va_G} {k : Nat → ClassId} {a_p1 : Nat} {d_p1 : Nat → Nat} {i_p1 : Nat → Int32} {r_p1_strengths : Nat → Int32} {n0 : Int32} {n2 : Int32} {Q : Int32 → Prop}  {x2 : Int32} {kx_21 : (Int32) → Prop} (F : Fx p m c cX5_placeBy 4 s ([.int n0, .ref a_p1, .int n2] : List Value).toArray RX5 D k) (hr : meth.sig.returnType = (some .int)) (hlk : meth.locks = false) (hA : ∀ q : Nat, s.heap.size ≤ q → A q) (hkx_21 : ∀ (x3 : Int32) (H : Heap) (locs : List Loc) (ls : Array Slot), kx_21 x3 → Bd D A s.heap (wd_Lives_placeBy k a_p1 d_p1 i_p1 r_p1_strengths) H locs → lv_has ls 4 [(3, .int x3)] → W p l e { frames := 0, cells := 0, slots := 0, locals := 0 } s m ([.int n0, .ref a_p1, .int n2] : List Value).toArray below meth c H locs 0 0 (Ei below (fun r w => w = (wd_Lives_placeBy k a_p1 d_p1 i_p1 r_p1_strengths) ∧ Q r) D k A ([.int n0, .ref a_p1, .int n2] : List Value).toArray s 0 0) (F0 m 45 ls [])) :
    ∀ n : Nat, ∀ (x3 : Int32) (H : Heap) (locs : List Loc) (ls : Array Slot), lp_Lives_placeBy_21 i_p1 r_p1_strengths x2 kx_21 n x3 → Bd D A s.heap (wd_Lives_placeBy k a_p1 d_p1 i_p1 r_p1_strengths) H locs → lv_has ls 4 [(1, .ref a_p1), (2, .int x2), (3, .int x3)] → W p l e { frames := 0, cells := 0, slots := 0, locals := 0 } s m ([.int n0, .ref a_p1, .int n2] : List Value).toArray below meth c H locs 0 0 (Ei below (fun r w => w = (wd_Lives_placeBy k a_p1 d_p1 i_p1 r_p1_strengths) ∧ Q r) D k A ([.int n0, .ref a_p1, .int n2] : List Value).toArray s 0 0) (F0 m 21 ls []) := by
  intro n
  induction n with
  | zero => intro x3 H locs ls hf; exact absurd hf (fun h => h)
  | succ n ih => exact bt_Lives_placeBy_21 F hr hlk hA hkx_21 ih

set_option maxRecDepth 100000 in
set_option maxHeartbeats 4000000 in
theorem jt_Lives_placeBy_20 {p : Program} {l : Launch} {e : Env} {s : State} {m : MethodId} {below : List Frame} {meth : Method} {c : Code} {A : Nat → Prop} {D : va_G} {k : Nat → ClassId} {a_p1 : Nat} {d_p1 : Nat → Nat} {i_p1 : Nat → Int32} {r_p1_strengths : Nat → Int32} {n0 : Int32} {n2 : Int32} {Q : Int32 → Prop}  (F : Fx p m c cX5_placeBy 4 s ([.int n0, .ref a_p1, .int n2] : List Value).toArray RX5 D k) (hr : meth.sig.returnType = (some .int)) (hlk : meth.locks = false) (hA : ∀ q : Nat, s.heap.size ≤ q → A q) :
    ∀ (x2 : Int32) (y0 : Int32) (H : Heap) (locs : List Loc) (ls : Array Slot), j_Lives_placeBy_20 i_p1 r_p1_strengths x2 y0 Q → Bd D A s.heap (wd_Lives_placeBy k a_p1 d_p1 i_p1 r_p1_strengths) H locs → lv_has ls 4 [(1, .ref a_p1), (2, .int x2)] → W p l e { frames := 0, cells := 0, slots := 0, locals := 0 } s m ([.int n0, .ref a_p1, .int n2] : List Value).toArray below meth c H locs 0 0 (Ei below (fun r w => w = (wd_Lives_placeBy k a_p1 d_p1 i_p1 r_p1_strengths) ∧ Q r) D k A ([.int n0, .ref a_p1, .int n2] : List Value).toArray s 0 0) (F0 m 20 ls [.int y0]) := by
  have hx := F.x
  have hb := F.b
  intro x2 y0 H locs ls hf hB hl
  unfold j_Lives_placeBy_20 at hf
  refine lv_istore_n (lv' := [(3, .int y0), (1, .ref a_p1), (2, .int x2)]) hx hb dX5_placeBy_20 rfl hl (by decide) rfl (fun ls hl => ?_)
  obtain ⟨n_5, hf⟩ := hf
  refine lt_Lives_placeBy_21 F hr hlk hA (fun x3_4 H locs ls hf hB hl => ?_) n_5 _ _ _ _ hf hB (lv_sub hl [1, 2, 0] rfl)
  refine lv_iload_n hx hb dX5_placeBy_45 rfl (lv_at hl 0 rfl) ?_
  exact r_i F hr hlk hB ⟨rfl, hf⟩ dX5_placeBy_46

set_option maxRecDepth 100000 in
set_option maxHeartbeats 4000000 in
theorem c_Lives_placeBy (l : Launch) (D : va_G) (k : Nat → ClassId) (a_p1 : Nat) (d_p1 : Nat → Nat) (i_p1 : Nat → Int32) (r_p1_strengths : Nat → Int32) (n0 : Int32) (n2 : Int32) (Q : Int32 → Prop)  (hf : w_Lives_placeBy i_p1 r_p1_strengths n0 n2 Q) : CtI l yX5_placeBy cX5_placeBy 4 (some .int) 0 0 0 0 D k [.int n0, .ref a_p1, .int n2] (wd_Lives_placeBy k a_p1 d_p1 i_p1 r_p1_strengths) (fun r w => w = (wd_Lives_placeBy k a_p1 d_p1 i_p1 r_p1_strengths) ∧ Q r) := by
  refine CtI.of (by decide) (Nat.le_of_ble_eq_true rfl) ?_
  intro p e s m below meth c A F hr hlk hnm hA hB ls hl
  have hx := F.x
  have hb := F.b
  unfold w_Lives_placeBy at hf
  replace hl : lv_has ls 4 [(0, .int n0), (1, .ref a_p1), (2, .int n2)] := hl
  refine lv_iload_n hx hb dX5_placeBy_0 rfl (lv_at hl 0 rfl) ?_
  refine lv_iconst (v := 1) hx hb dX5_placeBy_1 (by decide) ?_
  refine lv_icmp_ne (tgt := 7) hx hb dX5_placeBy_2 (by decide) (fun c_7 => ?_) (fun c_7 => ?_)
  · replace hf := hf.1 c_7
    refine lv_iload_n hx hb dX5_placeBy_7 rfl (lv_at hl 0 rfl) ?_
    refine lv_iconst (v := 2) hx hb dX5_placeBy_8 (by decide) ?_
    refine lv_icmp_ne (tgt := 16) hx hb dX5_placeBy_9 (by decide) (fun c_6 => ?_) (fun c_6 => ?_)
    · replace hf := hf.1 c_6
      refine lv_aload_n hx hb dX5_placeBy_16 rfl (lv_at hl 1 rfl) ?_
      refine g_get (w := .int (i_p1 8)) F hB 0 rfl fl_RX5_55 rfl dX5_placeBy_17 ?_
      exact jt_Lives_placeBy_20 F hr hlk hA _ _ _ _ _ hf hB (lv_sub hl [1, 2] rfl)
    · replace hf := hf.2 c_6
      refine lv_iconst (v := 0) hx hb dX5_placeBy_12 (by decide) ?_
      refine lv_goto (tgt := 20) hx hb dX5_placeBy_13 (by decide) ?_
      exact jt_Lives_placeBy_20 F hr hlk hA _ _ _ _ _ hf hB (lv_sub hl [1, 2] rfl)
  · replace hf := hf.2 c_7
    refine lv_iconst (v := 0) hx hb dX5_placeBy_5 (by decide) ?_
    exact r_i F hr hlk hB ⟨rfl, hf⟩ dX5_placeBy_6

