/-! LongTrain.Row.foremostUnit -/
set_option maxRecDepth 100000 in
set_option maxHeartbeats 4000000 in
theorem bt_Row_foremostUnit_9 {p : Program} {l : Launch} {e : Env} {s : State} {m : MethodId} {below : List Frame} {meth : Method} {c : Code} {A : Nat → Prop} {D : va_G} {k : Nat → ClassId} {a_t : Nat} {d_t : Nat → Nat} {i_t : Nat → Int32} {r_t_longs : Nat → Int32} {n1 : Int32} {Q : Int32 → Prop}  {x1 : Int32} {kx_9 : (Int32) → Prop} {kr_9 : (Int32) → (Int32) → Prop} (F : Fx p m c cX8_foremostUnit 4 s ([.ref a_t, .int n1] : List Value).toArray RX8 D k) (hr : meth.sig.returnType = (some .int)) (hlk : meth.locks = false) (hA : ∀ q : Nat, s.heap.size ≤ q → A q) (hkx_9 : ∀ (x2 : Int32) (H : Heap) (locs : List Loc) (ls : Array Slot), kx_9 x2 → Bd D A s.heap (wd_Row_foremostUnit k a_t d_t i_t r_t_longs) H locs → lv_has ls 4 [(2, .int x2)] → W p l e { frames := 0, cells := 0, slots := 0, locals := 0 } s m ([.ref a_t, .int n1] : List Value).toArray below meth c H locs 0 0 (Ei below (fun r w => w = (wd_Row_foremostUnit k a_t d_t i_t r_t_longs) ∧ Q r) D k A ([.ref a_t, .int n1] : List Value).toArray s 0 0) (F0 m 37 ls [])) (hkr_9 : ∀ (x2 : Int32) (x3 : Int32) (H : Heap) (locs : List Loc) (ls : Array Slot), kr_9 x2 x3 → Bd D A s.heap (wd_Row_foremostUnit k a_t d_t i_t r_t_longs) H locs → lv_has ls 4 [(0, .ref a_t), (1, .int x1), (2, .int x2), (3, .int x3)] → W p l e { frames := 0, cells := 0, slots := 0, locals := 0 } s m ([.ref a_t, .int n1] : List Value).toArray below meth c H locs 0 0 (Ei below (fun r w => w = (wd_Row_foremostUnit k a_t d_t i_t r_t_longs) ∧ Q r) D k A ([.ref a_t, .int n1] : List Value).toArray s 0 0) (F0 m 9 ls [])) :
    ∀ (x2 : Int32) (x3 : Int32) (H : Heap) (locs : List Loc) (ls : Array Slot), b_Row_foremostUnit_9 i_t r_t_longs x1 kx_9 kr_9 x2 x3 → Bd D A s.heap (wd_Row_foremostUnit k a_t d_t i_t r_t_longs) H locs → lv_has ls 4 [(0, .ref a_t), (1, .int x1), (2, .int x2), (3, .int x3)] → W p l e { frames := 0, cells := 0, slots := 0, locals := 0 } s m ([.ref a_t, .int n1] : List Value).toArray below meth c H locs 0 0 (Ei below (fun r w => w = (wd_Row_foremostUnit k a_t d_t i_t r_t_longs) ∧ Q r) D k A ([.ref a_t, .int n1] : List Value).toArray s 0 0) (F0 m 9 ls []) := by
  have hx := F.x
  have hb := F.b
  intro x2 x3 H locs ls hf hB hl
  unfold b_Row_foremostUnit_9 at hf
  refine lv_iload_n hx hb dX8_foremostUnit_9 rfl (lv_at hl 3 rfl) ?_
  refine lv_iload_n hx hb dX8_foremostUnit_10 rfl (lv_at hl 1 rfl) ?_
  refine lv_icmp_ge (tgt := 37) hx hb dX8_foremostUnit_11 (by decide) (fun c_3 => ?_) (fun c_3 => ?_)
  · replace hf := hf.1 c_3
    exact hkx_9 _ _ _ _ hf hB (lv_sub hl [2] rfl)
  · replace hf := hf.2 c_3
    refine lv_iload_n hx hb dX8_foremostUnit_14 rfl (lv_at hl 3 rfl) ?_
    refine lv_aload_n hx hb dX8_foremostUnit_15 rfl (lv_at hl 0 rfl) ?_
    refine g_get (w := .int (i_t 8)) F hB 0 rfl fl_RX8_36 rfl dX8_foremostUnit_16 ?_
    refine lv_icmp_ge (tgt := 37) hx hb dX8_foremostUnit_19 (by decide) (fun c_2 => ?_) (fun c_2 => ?_)
    · replace hf := hf.1 c_2
      exact hkx_9 _ _ _ _ hf hB (lv_sub hl [2] rfl)
    · replace hf := hf.2 c_2
      refine lv_iload_n hx hb dX8_foremostUnit_22 rfl (lv_at hl 2 rfl) ?_
      refine lv_aload_n hx hb dX8_foremostUnit_23 rfl (lv_at hl 0 rfl) ?_
      refine g_get (w := .ref (d_t 1)) F hB 0 rfl fl_RX8_15 rfl dX8_foremostUnit_24 ?_
      refine lv_iload_n hx hb dX8_foremostUnit_27 rfl (lv_at hl 3 rfl) ?_
      obtain ⟨h_1, hf⟩ := hf
      refine g_iald F hB 1 rfl h_1 dX8_foremostUnit_28 ?_
      refine lv_isub hx hb dX8_foremostUnit_29 ?_
      refine lv_istore_n (lv' := [(2, .int (x2 - (r_t_longs (x3).toNatClampNeg))), (0, .ref a_t), (1, .int x1), (3, .int x3)]) hx hb dX8_foremostUnit_30 rfl hl (by decide) rfl (fun ls hl => ?_)
      refine lv_iinc (v := (x3 + 1)) (lv' := [(3, .int (x3 + 1)), (2, .int (x2 - (r_t_longs (x3).toNatClampNeg))), (0, .ref a_t), (1, .int x1)]) (k := 3) hx hb dX8_foremostUnit_31 hl rfl rfl (by decide) rfl (fun ls hl => ?_)
      refine lv_goto (tgt := 9) hx hb dX8_foremostUnit_34 (by decide) ?_
      exact hkr_9 _ _ _ _ _ hf hB (lv_sub hl [2, 3, 1, 0] rfl)

set_option maxRecDepth 100000 in
set_option maxHeartbeats 4000000 in
theorem lt_Row_foremostUnit_9 {p : Program} {l : Launch} {e : Env} {s : State} {m : MethodId} {below : List Frame} {meth : Method} {c : Code} {A : Nat → Prop} {D : va_G} {k : Nat → ClassId} {a_t : Nat} {d_t : Nat → Nat} {i_t : Nat → Int32} {r_t_longs : Nat → Int32} {n1 : Int32} {Q : Int32 → Prop}  {x1 : Int32} {kx_9 : (Int32) → Prop} (F : Fx p m c cX8_foremostUnit 4 s ([.ref a_t, .int n1] : List Value).toArray RX8 D k) (hr : meth.sig.returnType = (some .int)) (hlk : meth.locks = false) (hA : ∀ q : Nat, s.heap.size ≤ q → A q) (hkx_9 : ∀ (x2 : Int32) (H : Heap) (locs : List Loc) (ls : Array Slot), kx_9 x2 → Bd D A s.heap (wd_Row_foremostUnit k a_t d_t i_t r_t_longs) H locs → lv_has ls 4 [(2, .int x2)] → W p l e { frames := 0, cells := 0, slots := 0, locals := 0 } s m ([.ref a_t, .int n1] : List Value).toArray below meth c H locs 0 0 (Ei below (fun r w => w = (wd_Row_foremostUnit k a_t d_t i_t r_t_longs) ∧ Q r) D k A ([.ref a_t, .int n1] : List Value).toArray s 0 0) (F0 m 37 ls [])) :
    ∀ n : Nat, ∀ (x2 : Int32) (x3 : Int32) (H : Heap) (locs : List Loc) (ls : Array Slot), lp_Row_foremostUnit_9 i_t r_t_longs x1 kx_9 n x2 x3 → Bd D A s.heap (wd_Row_foremostUnit k a_t d_t i_t r_t_longs) H locs → lv_has ls 4 [(0, .ref a_t), (1, .int x1), (2, .int x2), (3, .int x3)] → W p l e { frames := 0, cells := 0, slots := 0, locals := 0 } s m ([.ref a_t, .int n1] : List Value).toArray below meth c H locs 0 0 (Ei below (fun r w => w = (wd_Row_foremostUnit k a_t d_t i_t r_t_longs) ∧ Q r) D k A ([.ref a_t, .int n1] : List Value).toArray s 0 0) (F0 m 9 ls []) := by
  intro n
  induction n with
  | zero => intro x2 x3 H locs ls hf; exact absurd hf (fun h => h)
  | succ n ih => exact bt_Row_foremostUnit_9 F hr hlk hA hkx_9 ih

set_option maxRecDepth 100000 in
set_option maxHeartbeats 4000000 in
theorem c_Row_foremostUnit (l : Launch) (D : va_G) (k : Nat → ClassId) (a_t : Nat) (d_t : Nat → Nat) (i_t : Nat → Int32) (r_t_longs : Nat → Int32) (n1 : Int32) (Q : Int32 → Prop)  (hf : w_Row_foremostUnit i_t r_t_longs n1 Q) : CtI l yX8_foremostUnit cX8_foremostUnit 4 (some .int) 0 0 0 0 D k [.ref a_t, .int n1] (wd_Row_foremostUnit k a_t d_t i_t r_t_longs) (fun r w => w = (wd_Row_foremostUnit k a_t d_t i_t r_t_longs) ∧ Q r) := by
  refine CtI.of (by decide) (Nat.le_of_ble_eq_true rfl) ?_
  intro p e s m below meth c A F hr hlk hnm hA hB ls hl
  have hx := F.x
  have hb := F.b
  unfold w_Row_foremostUnit at hf
  replace hl : lv_has ls 4 [(0, .ref a_t), (1, .int n1)] := hl
  refine lv_aload_n hx hb dX8_foremostUnit_0 rfl (lv_at hl 0 rfl) ?_
  refine g_get (w := .int (i_t 10)) F hB 0 rfl fl_RX8_43 rfl dX8_foremostUnit_1 ?_
  refine lv_iconst (v := 1) hx hb dX8_foremostUnit_4 (by decide) ?_
  refine lv_isub hx hb dX8_foremostUnit_5 ?_
  refine lv_istore_n (lv' := [(2, .int ((i_t 10) - (1 : Int32))), (0, .ref a_t), (1, .int n1)]) hx hb dX8_foremostUnit_6 rfl hl (by decide) rfl (fun ls hl => ?_)
  refine lv_iconst (v := 0) hx hb dX8_foremostUnit_7 (by decide) ?_
  refine lv_istore_n (lv' := [(3, .int (0 : Int32)), (2, .int ((i_t 10) - (1 : Int32))), (0, .ref a_t), (1, .int n1)]) hx hb dX8_foremostUnit_8 rfl hl (by decide) rfl (fun ls hl => ?_)
  obtain ⟨n_5, hf⟩ := hf
  refine lt_Row_foremostUnit_9 F hr hlk hA (fun x2_4 H locs ls hf hB hl => ?_) n_5 _ _ _ _ _ hf hB (lv_sub hl [2, 3, 1, 0] rfl)
  refine lv_iload_n hx hb dX8_foremostUnit_37 rfl (lv_at hl 0 rfl) ?_
  exact r_i F hr hlk hB ⟨rfl, hf⟩ dX8_foremostUnit_38

/-! LongTrain.Row.weightOfAll -/
set_option maxRecDepth 100000 in
set_option maxHeartbeats 4000000 in
theorem bt_Row_weightOfAll_4 {p : Program} {l : Launch} {e : Env} {s : State} {m : MethodId} {below : List Frame} {meth : Method} {c : Code} {A : Nat → Prop} {D : va_G} {k : Nat → ClassId} {a_t : Nat} {d_t : Nat → Nat} {i_t : Nat → Int32} {r_t_weights : Nat → Int32}  {Q : Int32 → Prop}  {kx_4 : (Int32) → Prop} {kr_4 : (Int32) → (Int32) → Prop} (F : Fx p m c cX8_weightOfAll 3 s ([.ref a_t] : List Value).toArray RX8 D k) (hr : meth.sig.returnType = (some .int)) (hlk : meth.locks = false) (hA : ∀ q : Nat, s.heap.size ≤ q → A q) (hkx_4 : ∀ (x1 : Int32) (H : Heap) (locs : List Loc) (ls : Array Slot), kx_4 x1 → Bd D A s.heap (wd_Row_weightOfAll k a_t d_t i_t r_t_weights) H locs → lv_has ls 3 [(1, .int x1)] → W p l e { frames := 0, cells := 0, slots := 0, locals := 0 } s m ([.ref a_t] : List Value).toArray below meth c H locs 0 0 (Ei below (fun r w => w = (wd_Row_weightOfAll k a_t d_t i_t r_t_weights) ∧ Q r) D k A ([.ref a_t] : List Value).toArray s 0 0) (F0 m 27 ls [])) (hkr_4 : ∀ (x1 : Int32) (x2 : Int32) (H : Heap) (locs : List Loc) (ls : Array Slot), kr_4 x1 x2 → Bd D A s.heap (wd_Row_weightOfAll k a_t d_t i_t r_t_weights) H locs → lv_has ls 3 [(0, .ref a_t), (1, .int x1), (2, .int x2)] → W p l e { frames := 0, cells := 0, slots := 0, locals := 0 } s m ([.ref a_t] : List Value).toArray below meth c H locs 0 0 (Ei below (fun r w => w = (wd_Row_weightOfAll k a_t d_t i_t r_t_weights) ∧ Q r) D k A ([.ref a_t] : List Value).toArray s 0 0) (F0 m 4 ls [])) :
    ∀ (x1 : Int32) (x2 : Int32) (H : Heap) (locs : List Loc) (ls : Array Slot), b_Row_weightOfAll_4 i_t r_t_weights kx_4 kr_4 x1 x2 → Bd D A s.heap (wd_Row_weightOfAll k a_t d_t i_t r_t_weights) H locs → lv_has ls 3 [(0, .ref a_t), (1, .int x1), (2, .int x2)] → W p l e { frames := 0, cells := 0, slots := 0, locals := 0 } s m ([.ref a_t] : List Value).toArray below meth c H locs 0 0 (Ei below (fun r w => w = (wd_Row_weightOfAll k a_t d_t i_t r_t_weights) ∧ Q r) D k A ([.ref a_t] : List Value).toArray s 0 0) (F0 m 4 ls []) := by
  have hx := F.x
  have hb := F.b
  intro x1 x2 H locs ls hf hB hl
  unfold b_Row_weightOfAll_4 at hf
  refine lv_iload_n hx hb dX8_weightOfAll_4 rfl (lv_at hl 2 rfl) ?_
  refine lv_aload_n hx hb dX8_weightOfAll_5 rfl (lv_at hl 0 rfl) ?_
  refine g_get (w := .int (i_t 8)) F hB 0 rfl fl_RX8_36 rfl dX8_weightOfAll_6 ?_
  refine lv_icmp_ge (tgt := 27) hx hb dX8_weightOfAll_9 (by decide) (fun c_2 => ?_) (fun c_2 => ?_)
  · replace hf := hf.1 c_2
    exact hkx_4 _ _ _ _ hf hB (lv_sub hl [1] rfl)
  · replace hf := hf.2 c_2
    refine lv_iload_n hx hb dX8_weightOfAll_12 rfl (lv_at hl 1 rfl) ?_
    refine lv_aload_n hx hb dX8_weightOfAll_13 rfl (lv_at hl 0 rfl) ?_
    refine g_get (w := .ref (d_t 2)) F hB 0 rfl fl_RX8_18 rfl dX8_weightOfAll_14 ?_
    refine lv_iload_n hx hb dX8_weightOfAll_17 rfl (lv_at hl 2 rfl) ?_
    obtain ⟨h_1, hf⟩ := hf
    refine g_iald F hB 1 rfl h_1 dX8_weightOfAll_18 ?_
    refine lv_iadd hx hb dX8_weightOfAll_19 ?_
    refine lv_istore_n (lv' := [(1, .int (x1 + (r_t_weights (x2).toNatClampNeg))), (0, .ref a_t), (2, .int x2)]) hx hb dX8_weightOfAll_20 rfl hl (by decide) rfl (fun ls hl => ?_)
    refine lv_iinc (v := (x2 + 1)) (lv' := [(2, .int (x2 + 1)), (1, .int (x1 + (r_t_weights (x2).toNatClampNeg))), (0, .ref a_t)]) (k := 2) hx hb dX8_weightOfAll_21 hl rfl rfl (by decide) rfl (fun ls hl => ?_)
    refine lv_goto (tgt := 4) hx hb dX8_weightOfAll_24 (by decide) ?_
    exact hkr_4 _ _ _ _ _ hf hB (lv_sub hl [2, 1, 0] rfl)

set_option maxRecDepth 100000 in
set_option maxHeartbeats 4000000 in
theorem lt_Row_weightOfAll_4 {p : Program} {l : Launch} {e : Env} {s : State} {m : MethodId} {below : List Frame} {meth : Method} {c : Code} {A : Nat → Prop} {D : va_G} {k : Nat → ClassId} {a_t : Nat} {d_t : Nat → Nat} {i_t : Nat → Int32} {r_t_weights : Nat → Int32}  {Q : Int32 → Prop}  {kx_4 : (Int32) → Prop} (F : Fx p m c cX8_weightOfAll 3 s ([.ref a_t] : List Value).toArray RX8 D k) (hr : meth.sig.returnType = (some .int)) (hlk : meth.locks = false) (hA : ∀ q : Nat, s.heap.size ≤ q → A q) (hkx_4 : ∀ (x1 : Int32) (H : Heap) (locs : List Loc) (ls : Array Slot), kx_4 x1 → Bd D A s.heap (wd_Row_weightOfAll k a_t d_t i_t r_t_weights) H locs → lv_has ls 3 [(1, .int x1)] → W p l e { frames := 0, cells := 0, slots := 0, locals := 0 } s m ([.ref a_t] : List Value).toArray below meth c H locs 0 0 (Ei below (fun r w => w = (wd_Row_weightOfAll k a_t d_t i_t r_t_weights) ∧ Q r) D k A ([.ref a_t] : List Value).toArray s 0 0) (F0 m 27 ls [])) :
    ∀ n : Nat, ∀ (x1 : Int32) (x2 : Int32) (H : Heap) (locs : List Loc) (ls : Array Slot), lp_Row_weightOfAll_4 i_t r_t_weights kx_4 n x1 x2 → Bd D A s.heap (wd_Row_weightOfAll k a_t d_t i_t r_t_weights) H locs → lv_has ls 3 [(0, .ref a_t), (1, .int x1), (2, .int x2)] → W p l e { frames := 0, cells := 0, slots := 0, locals := 0 } s m ([.ref a_t] : List Value).toArray below meth c H locs 0 0 (Ei below (fun r w => w = (wd_Row_weightOfAll k a_t d_t i_t r_t_weights) ∧ Q r) D k A ([.ref a_t] : List Value).toArray s 0 0) (F0 m 4 ls []) := by
  intro n
  induction n with
  | zero => intro x1 x2 H locs ls hf; exact absurd hf (fun h => h)
  | succ n ih => exact bt_Row_weightOfAll_4 F hr hlk hA hkx_4 ih

set_option maxRecDepth 100000 in
set_option maxHeartbeats 4000000 in
theorem c_Row_weightOfAll (l : Launch) (D : va_G) (k : Nat → ClassId) (a_t : Nat) (d_t : Nat → Nat) (i_t : Nat → Int32) (r_t_weights : Nat → Int32)  (Q : Int32 → Prop)  (hf : w_Row_weightOfAll i_t r_t_weights Q) : CtI l yX8_weightOfAll cX8_weightOfAll 3 (some .int) 0 0 0 0 D k [.ref a_t] (wd_Row_weightOfAll k a_t d_t i_t r_t_weights) (fun r w => w = (wd_Row_weightOfAll k a_t d_t i_t r_t_weights) ∧ Q r) := by
  refine CtI.of (by decide) (Nat.le_of_ble_eq_true rfl) ?_
  intro p e s m below meth c A F hr hlk hnm hA hB ls hl
  have hx := F.x
  have hb := F.b
  unfold w_Row_weightOfAll at hf
  replace hl : lv_has ls 3 [(0, .ref a_t)] := hl
  refine lv_iconst (v := 0) hx hb dX8_weightOfAll_0 (by decide) ?_
  refine lv_istore_n (lv' := [(1, .int (0 : Int32)), (0, .ref a_t)]) hx hb dX8_weightOfAll_1 rfl hl (by decide) rfl (fun ls hl => ?_)
  refine lv_iconst (v := 0) hx hb dX8_weightOfAll_2 (by decide) ?_
  refine lv_istore_n (lv' := [(2, .int (0 : Int32)), (1, .int (0 : Int32)), (0, .ref a_t)]) hx hb dX8_weightOfAll_3 rfl hl (by decide) rfl (fun ls hl => ?_)
  obtain ⟨n_4, hf⟩ := hf
  refine lt_Row_weightOfAll_4 F hr hlk hA (fun x1_3 H locs ls hf hB hl => ?_) n_4 _ _ _ _ _ hf hB (lv_sub hl [2, 1, 0] rfl)
  refine lv_iload_n hx hb dX8_weightOfAll_27 rfl (lv_at hl 0 rfl) ?_
  exact r_i F hr hlk hB ⟨rfl, hf⟩ dX8_weightOfAll_28

/-! LongTrain.Row.helperCount -/
set_option maxRecDepth 100000 in
set_option maxHeartbeats 4000000 in
theorem bt_Row_helperCount_4 {p : Program} {l : Launch} {e : Env} {s : State} {m : MethodId} {below : List Frame} {meth : Method} {c : Code} {A : Nat → Prop} {D : va_G} {k : Nat → ClassId} {a_t : Nat} {d_t : Nat → Nat} {i_t : Nat → Int32} {r_t_helpers : Nat → Int32}  {Q : Int32 → Prop}  {kx_4 : (Int32) → Prop} {kr_4 : (Int32) → (Int32) → Prop} (F : Fx p m c cX8_helperCount 3 s ([.ref a_t] : List Value).toArray RX8 D k) (hr : meth.sig.returnType = (some .int)) (hlk : meth.locks = false) (hA : ∀ q : Nat, s.heap.size ≤ q → A q) (hkx_4 : ∀ (x1 : Int32) (H : Heap) (locs : List Loc) (ls : Array Slot), kx_4 x1 → Bd D A s.heap (wd_Row_helperCount k a_t d_t i_t r_t_helpers) H locs → lv_has ls 3 [(1, .int x1)] → W p l e { frames := 0, cells := 0, slots := 0, locals := 0 } s m ([.ref a_t] : List Value).toArray below meth c H locs 0 0 (Ei below (fun r w => w = (wd_Row_helperCount k a_t d_t i_t r_t_helpers) ∧ Q r) D k A ([.ref a_t] : List Value).toArray s 0 0) (F0 m 27 ls [])) (hkr_4 : ∀ (x1 : Int32) (x2 : Int32) (H : Heap) (locs : List Loc) (ls : Array Slot), kr_4 x1 x2 → Bd D A s.heap (wd_Row_helperCount k a_t d_t i_t r_t_helpers) H locs → lv_has ls 3 [(0, .ref a_t), (1, .int x1), (2, .int x2)] → W p l e { frames := 0, cells := 0, slots := 0, locals := 0 } s m ([.ref a_t] : List Value).toArray below meth c H locs 0 0 (Ei below (fun r w => w = (wd_Row_helperCount k a_t d_t i_t r_t_helpers) ∧ Q r) D k A ([.ref a_t] : List Value).toArray s 0 0) (F0 m 4 ls [])) :
    ∀ (x1 : Int32) (x2 : Int32) (H : Heap) (locs : List Loc) (ls : Array Slot), b_Row_helperCount_4 i_t r_t_helpers kx_4 kr_4 x1 x2 → Bd D A s.heap (wd_Row_helperCount k a_t d_t i_t r_t_helpers) H locs → lv_has ls 3 [(0, .ref a_t), (1, .int x1), (2, .int x2)] → W p l e { frames := 0, cells := 0, slots := 0, locals := 0 } s m ([.ref a_t] : List Value).toArray below meth c H locs 0 0 (Ei below (fun r w => w = (wd_Row_helperCount k a_t d_t i_t r_t_helpers) ∧ Q r) D k A ([.ref a_t] : List Value).toArray s 0 0) (F0 m 4 ls []) := by
  have hx := F.x
  have hb := F.b
  intro x1 x2 H locs ls hf hB hl
  unfold b_Row_helperCount_4 at hf
  refine lv_iload_n hx hb dX8_helperCount_4 rfl (lv_at hl 2 rfl) ?_
  refine lv_aload_n hx hb dX8_helperCount_5 rfl (lv_at hl 0 rfl) ?_
  refine g_get (w := .int (i_t 8)) F hB 0 rfl fl_RX8_36 rfl dX8_helperCount_6 ?_
  refine lv_icmp_ge (tgt := 27) hx hb dX8_helperCount_9 (by decide) (fun c_2 => ?_) (fun c_2 => ?_)
  · replace hf := hf.1 c_2
    exact hkx_4 _ _ _ _ hf hB (lv_sub hl [1] rfl)
  · replace hf := hf.2 c_2
    refine lv_iload_n hx hb dX8_helperCount_12 rfl (lv_at hl 1 rfl) ?_
    refine lv_aload_n hx hb dX8_helperCount_13 rfl (lv_at hl 0 rfl) ?_
    refine g_get (w := .ref (d_t 6)) F hB 0 rfl fl_RX8_30 rfl dX8_helperCount_14 ?_
    refine lv_iload_n hx hb dX8_helperCount_17 rfl (lv_at hl 2 rfl) ?_
    obtain ⟨h_1, hf⟩ := hf
    refine g_iald F hB 1 rfl h_1 dX8_helperCount_18 ?_
    refine lv_iadd hx hb dX8_helperCount_19 ?_
    refine lv_istore_n (lv' := [(1, .int (x1 + (r_t_helpers (x2).toNatClampNeg))), (0, .ref a_t), (2, .int x2)]) hx hb dX8_helperCount_20 rfl hl (by decide) rfl (fun ls hl => ?_)
    refine lv_iinc (v := (x2 + 1)) (lv' := [(2, .int (x2 + 1)), (1, .int (x1 + (r_t_helpers (x2).toNatClampNeg))), (0, .ref a_t)]) (k := 2) hx hb dX8_helperCount_21 hl rfl rfl (by decide) rfl (fun ls hl => ?_)
    refine lv_goto (tgt := 4) hx hb dX8_helperCount_24 (by decide) ?_
    exact hkr_4 _ _ _ _ _ hf hB (lv_sub hl [2, 1, 0] rfl)

set_option maxRecDepth 100000 in
set_option maxHeartbeats 4000000 in
theorem lt_Row_helperCount_4 {p : Program} {l : Launch} {e : Env} {s : State} {m : MethodId} {below : List Frame} {meth : Method} {c : Code} {A : Nat → Prop} {D : va_G} {k : Nat → ClassId} {a_t : Nat} {d_t : Nat → Nat} {i_t : Nat → Int32} {r_t_helpers : Nat → Int32}  {Q : Int32 → Prop}  {kx_4 : (Int32) → Prop} (F : Fx p m c cX8_helperCount 3 s ([.ref a_t] : List Value).toArray RX8 D k) (hr : meth.sig.returnType = (some .int)) (hlk : meth.locks = false) (hA : ∀ q : Nat, s.heap.size ≤ q → A q) (hkx_4 : ∀ (x1 : Int32) (H : Heap) (locs : List Loc) (ls : Array Slot), kx_4 x1 → Bd D A s.heap (wd_Row_helperCount k a_t d_t i_t r_t_helpers) H locs → lv_has ls 3 [(1, .int x1)] → W p l e { frames := 0, cells := 0, slots := 0, locals := 0 } s m ([.ref a_t] : List Value).toArray below meth c H locs 0 0 (Ei below (fun r w => w = (wd_Row_helperCount k a_t d_t i_t r_t_helpers) ∧ Q r) D k A ([.ref a_t] : List Value).toArray s 0 0) (F0 m 27 ls [])) :
    ∀ n : Nat, ∀ (x1 : Int32) (x2 : Int32) (H : Heap) (locs : List Loc) (ls : Array Slot), lp_Row_helperCount_4 i_t r_t_helpers kx_4 n x1 x2 → Bd D A s.heap (wd_Row_helperCount k a_t d_t i_t r_t_helpers) H locs → lv_has ls 3 [(0, .ref a_t), (1, .int x1), (2, .int x2)] → W p l e { frames := 0, cells := 0, slots := 0, locals := 0 } s m ([.ref a_t] : List Value).toArray below meth c H locs 0 0 (Ei below (fun r w => w = (wd_Row_helperCount k a_t d_t i_t r_t_helpers) ∧ Q r) D k A ([.ref a_t] : List Value).toArray s 0 0) (F0 m 4 ls []) := by
  intro n
  induction n with
  | zero => intro x1 x2 H locs ls hf; exact absurd hf (fun h => h)
  | succ n ih => exact bt_Row_helperCount_4 F hr hlk hA hkx_4 ih

set_option maxRecDepth 100000 in
set_option maxHeartbeats 4000000 in
theorem c_Row_helperCount (l : Launch) (D : va_G) (k : Nat → ClassId) (a_t : Nat) (d_t : Nat → Nat) (i_t : Nat → Int32) (r_t_helpers : Nat → Int32)  (Q : Int32 → Prop)  (hf : w_Row_helperCount i_t r_t_helpers Q) : CtI l yX8_helperCount cX8_helperCount 3 (some .int) 0 0 0 0 D k [.ref a_t] (wd_Row_helperCount k a_t d_t i_t r_t_helpers) (fun r w => w = (wd_Row_helperCount k a_t d_t i_t r_t_helpers) ∧ Q r) := by
  refine CtI.of (by decide) (Nat.le_of_ble_eq_true rfl) ?_
  intro p e s m below meth c A F hr hlk hnm hA hB ls hl
  have hx := F.x
  have hb := F.b
  unfold w_Row_helperCount at hf
  replace hl : lv_has ls 3 [(0, .ref a_t)] := hl
  refine lv_iconst (v := 0) hx hb dX8_helperCount_0 (by decide) ?_
  refine lv_istore_n (lv' := [(1, .int (0 : Int32)), (0, .ref a_t)]) hx hb dX8_helperCount_1 rfl hl (by decide) rfl (fun ls hl => ?_)
  refine lv_iconst (v := 0) hx hb dX8_helperCount_2 (by decide) ?_
  refine lv_istore_n (lv' := [(2, .int (0 : Int32)), (1, .int (0 : Int32)), (0, .ref a_t)]) hx hb dX8_helperCount_3 rfl hl (by decide) rfl (fun ls hl => ?_)
  obtain ⟨n_4, hf⟩ := hf
  refine lt_Row_helperCount_4 F hr hlk hA (fun x1_3 H locs ls hf hB hl => ?_) n_4 _ _ _ _ _ hf hB (lv_sub hl [2, 1, 0] rfl)
  refine lv_iload_n hx hb dX8_helperCount_27 rfl (lv_at hl 0 rfl) ?_
  exact r_i F hr hlk hB ⟨rfl, hf⟩ dX8_helperCount_28

/-! LongTrain.Row.help -/
set_option maxRecDepth 100000 in
set_option maxHeartbeats 4000000 in
theorem c_Row_help (l : Launch) (D : va_G) (k : Nat → ClassId) (a_t : Nat) (d_t : Nat → Nat) (i_t : Nat → Int32) (r_t_pushes : Nat → Int32) (r_t_helpers : Nat → Int32) (n1 : Int32) (n2 : Int32) (Q : (Nat → Int32) → (Nat → Int32) → Prop)  (hf : w_Row_help r_t_pushes r_t_helpers n1 n2 Q) : CtV l yX8_help cX8_help 3 none 0 0 0 0 D k [.ref a_t, .int n1, .int n2] (wd_Row_help k a_t d_t i_t r_t_pushes r_t_helpers) (fun w => ∃ (r_t_pushes : Nat → Int32), ∃ (r_t_helpers : Nat → Int32), w = (wd_Row_help k a_t d_t i_t r_t_pushes r_t_helpers) ∧ Q r_t_pushes r_t_helpers) := by
  refine CtV.of (by decide) (Nat.le_of_ble_eq_true rfl) ?_
  intro p e s m below meth c A F hr hlk hnm hA hB ls hl
  have hx := F.x
  have hb := F.b
  unfold w_Row_help at hf
  replace hl : lv_has ls 3 [(0, .ref a_t), (1, .int n1), (2, .int n2)] := hl
  refine lv_aload_n hx hb dX8_help_0 rfl (lv_at hl 0 rfl) ?_
  refine g_get (w := .ref (d_t 5)) F hB 0 rfl fl_RX8_27 rfl dX8_help_1 ?_
  refine lv_iload_n hx hb dX8_help_4 rfl (lv_at hl 1 rfl) ?_
  refine lv_dup2_11 hx hb dX8_help_5 rfl rfl ?_
  obtain ⟨h_1, hf⟩ := hf
  refine g_iald F hB 1 rfl h_1 dX8_help_6 ?_
  refine lv_iload_n hx hb dX8_help_7 rfl (lv_at hl 2 rfl) ?_
  refine lv_iadd hx hb dX8_help_8 ?_
  obtain ⟨h_2, hf⟩ := hf
  refine g_iast F hB 1 rfl h_2 (wd_Row_help k a_t d_t i_t (upd r_t_pushes (n1).toNatClampNeg ((r_t_pushes (n1).toNatClampNeg) + n2)) r_t_helpers) rfl dX8_help_9 (fun H locs hB => ?_)
  refine lv_aload_n hx hb dX8_help_10 rfl (lv_at hl 0 rfl) ?_
  refine g_get (w := .ref (d_t 6)) F hB 0 rfl fl_RX8_30 rfl dX8_help_11 ?_
  refine lv_iload_n hx hb dX8_help_14 rfl (lv_at hl 1 rfl) ?_
  refine lv_dup2_11 hx hb dX8_help_15 rfl rfl ?_
  obtain ⟨h_3, hf⟩ := hf
  refine g_iald F hB 2 rfl h_3 dX8_help_16 ?_
  refine lv_iconst (v := 1) hx hb dX8_help_17 (by decide) ?_
  refine lv_iadd hx hb dX8_help_18 ?_
  obtain ⟨h_4, hf⟩ := hf
  refine g_iast F hB 2 rfl h_4 (wd_Row_help k a_t d_t i_t (upd r_t_pushes (n1).toNatClampNeg ((r_t_pushes (n1).toNatClampNeg) + n2)) (upd r_t_helpers (n1).toNatClampNeg ((r_t_helpers (n1).toNatClampNeg) + (1 : Int32)))) rfl dX8_help_19 (fun H locs hB => ?_)
  exact r_v F hr hlk hB ⟨_, _, rfl, hf⟩ dX8_help_20

/-! LongTrain.Row.dismissHelpers -/
set_option maxRecDepth 100000 in
set_option maxHeartbeats 4000000 in
theorem bt_Row_dismissHelpers_2 {p : Program} {l : Launch} {e : Env} {s : State} {m : MethodId} {below : List Frame} {meth : Method} {c : Code} {A : Nat → Prop} {D : va_G} {k : Nat → ClassId} {a_t : Nat} {d_t : Nat → Nat} {i_t : Nat → Int32}  {Q : (Nat → Int32) → (Nat → Int32) → Prop}  {kx_2 : (Nat → Int32) → (Nat → Int32) → Prop} {kr_2 : (Int32) → (Nat → Int32) → (Nat → Int32) → Prop} (F : Fx p m c cX8_dismissHelpers 2 s ([.ref a_t] : List Value).toArray RX8 D k) (hr : meth.sig.returnType = none) (hlk : meth.locks = false) (hA : ∀ q : Nat, s.heap.size ≤ q → A q) (hkx_2 : ∀ (r_t_pushes : Nat → Int32) (r_t_helpers : Nat → Int32) (H : Heap) (locs : List Loc) (ls : Array Slot), kx_2 r_t_pushes r_t_helpers → Bd D A s.heap (wd_Row_dismissHelpers k a_t d_t i_t r_t_pushes r_t_helpers) H locs → lv_has ls 2 [] → W p l e { frames := 0, cells := 0, slots := 0, locals := 0 } s m ([.ref a_t] : List Value).toArray below meth c H locs 0 0 (Ev below (fun w => ∃ (r_t_pushes : Nat → Int32), ∃ (r_t_helpers : Nat → Int32), w = (wd_Row_dismissHelpers k a_t d_t i_t r_t_pushes r_t_helpers) ∧ Q r_t_pushes r_t_helpers) D k A ([.ref a_t] : List Value).toArray s 0 0) (F0 m 30 ls [])) (hkr_2 : ∀ (x1 : Int32) (r_t_pushes : Nat → Int32) (r_t_helpers : Nat → Int32) (H : Heap) (locs : List Loc) (ls : Array Slot), kr_2 x1 r_t_pushes r_t_helpers → Bd D A s.heap (wd_Row_dismissHelpers k a_t d_t i_t r_t_pushes r_t_helpers) H locs → lv_has ls 2 [(0, .ref a_t), (1, .int x1)] → W p l e { frames := 0, cells := 0, slots := 0, locals := 0 } s m ([.ref a_t] : List Value).toArray below meth c H locs 0 0 (Ev below (fun w => ∃ (r_t_pushes : Nat → Int32), ∃ (r_t_helpers : Nat → Int32), w = (wd_Row_dismissHelpers k a_t d_t i_t r_t_pushes r_t_helpers) ∧ Q r_t_pushes r_t_helpers) D k A ([.ref a_t] : List Value).toArray s 0 0) (F0 m 2 ls [])) :
    ∀ (x1 : Int32) (r_t_pushes : Nat → Int32) (r_t_helpers : Nat → Int32) (H : Heap) (locs : List Loc) (ls : Array Slot), b_Row_dismissHelpers_2 i_t kx_2 kr_2 x1 r_t_pushes r_t_helpers → Bd D A s.heap (wd_Row_dismissHelpers k a_t d_t i_t r_t_pushes r_t_helpers) H locs → lv_has ls 2 [(0, .ref a_t), (1, .int x1)] → W p l e { frames := 0, cells := 0, slots := 0, locals := 0 } s m ([.ref a_t] : List Value).toArray below meth c H locs 0 0 (Ev below (fun w => ∃ (r_t_pushes : Nat → Int32), ∃ (r_t_helpers : Nat → Int32), w = (wd_Row_dismissHelpers k a_t d_t i_t r_t_pushes r_t_helpers) ∧ Q r_t_pushes r_t_helpers) D k A ([.ref a_t] : List Value).toArray s 0 0) (F0 m 2 ls []) := by
  have hx := F.x
  have hb := F.b
  intro x1 r_t_pushes r_t_helpers H locs ls hf hB hl
  unfold b_Row_dismissHelpers_2 at hf
  refine lv_iload_n hx hb dX8_dismissHelpers_2 rfl (lv_at hl 1 rfl) ?_
  refine lv_aload_n hx hb dX8_dismissHelpers_3 rfl (lv_at hl 0 rfl) ?_
  refine g_get (w := .int (i_t 8)) F hB 0 rfl fl_RX8_36 rfl dX8_dismissHelpers_4 ?_
  refine lv_icmp_ge (tgt := 30) hx hb dX8_dismissHelpers_7 (by decide) (fun c_3 => ?_) (fun c_3 => ?_)
  · replace hf := hf.1 c_3
    exact hkx_2 _ _ _ _ _ hf hB (lv_sub hl [] rfl)
  · replace hf := hf.2 c_3
    refine lv_aload_n hx hb dX8_dismissHelpers_10 rfl (lv_at hl 0 rfl) ?_
    refine g_get (w := .ref (d_t 5)) F hB 0 rfl fl_RX8_27 rfl dX8_dismissHelpers_11 ?_
    refine lv_iload_n hx hb dX8_dismissHelpers_14 rfl (lv_at hl 1 rfl) ?_
    refine lv_iconst (v := 0) hx hb dX8_dismissHelpers_15 (by decide) ?_
    obtain ⟨h_1, hf⟩ := hf
    refine g_iast F hB 1 rfl h_1 (wd_Row_dismissHelpers k a_t d_t i_t (upd r_t_pushes (x1).toNatClampNeg (0 : Int32)) r_t_helpers) rfl dX8_dismissHelpers_16 (fun H locs hB => ?_)
    refine lv_aload_n hx hb dX8_dismissHelpers_17 rfl (lv_at hl 0 rfl) ?_
    refine g_get (w := .ref (d_t 6)) F hB 0 rfl fl_RX8_30 rfl dX8_dismissHelpers_18 ?_
    refine lv_iload_n hx hb dX8_dismissHelpers_21 rfl (lv_at hl 1 rfl) ?_
    refine lv_iconst (v := 0) hx hb dX8_dismissHelpers_22 (by decide) ?_
    obtain ⟨h_2, hf⟩ := hf
    refine g_iast F hB 2 rfl h_2 (wd_Row_dismissHelpers k a_t d_t i_t (upd r_t_pushes (x1).toNatClampNeg (0 : Int32)) (upd r_t_helpers (x1).toNatClampNeg (0 : Int32))) rfl dX8_dismissHelpers_23 (fun H locs hB => ?_)
    refine lv_iinc (v := (x1 + 1)) (lv' := [(1, .int (x1 + 1)), (0, .ref a_t)]) (k := 1) hx hb dX8_dismissHelpers_24 hl rfl rfl (by decide) rfl (fun ls hl => ?_)
    refine lv_goto (tgt := 2) hx hb dX8_dismissHelpers_27 (by decide) ?_
    exact hkr_2 _ _ _ _ _ _ hf hB (lv_sub hl [1, 0] rfl)

set_option maxRecDepth 100000 in
set_option maxHeartbeats 4000000 in
theorem lt_Row_dismissHelpers_2 {p : Program} {l : Launch} {e : Env} {s : State} {m : MethodId} {below : List Frame} {meth : Method} {c : Code} {A : Nat → Prop} {D : va_G} {k : Nat → ClassId} {a_t : Nat} {d_t : Nat → Nat} {i_t : Nat → Int32}  {Q : (Nat → Int32) → (Nat → Int32) → Prop}  {kx_2 : (Nat → Int32) → (Nat → Int32) → Prop} (F : Fx p m c cX8_dismissHelpers 2 s ([.ref a_t] : List Value).toArray RX8 D k) (hr : meth.sig.returnType = none) (hlk : meth.locks = false) (hA : ∀ q : Nat, s.heap.size ≤ q → A q) (hkx_2 : ∀ (r_t_pushes : Nat → Int32) (r_t_helpers : Nat → Int32) (H : Heap) (locs : List Loc) (ls : Array Slot), kx_2 r_t_pushes r_t_helpers → Bd D A s.heap (wd_Row_dismissHelpers k a_t d_t i_t r_t_pushes r_t_helpers) H locs → lv_has ls 2 [] → W p l e { frames := 0, cells := 0, slots := 0, locals := 0 } s m ([.ref a_t] : List Value).toArray below meth c H locs 0 0 (Ev below (fun w => ∃ (r_t_pushes : Nat → Int32), ∃ (r_t_helpers : Nat → Int32), w = (wd_Row_dismissHelpers k a_t d_t i_t r_t_pushes r_t_helpers) ∧ Q r_t_pushes r_t_helpers) D k A ([.ref a_t] : List Value).toArray s 0 0) (F0 m 30 ls [])) :
    ∀ n : Nat, ∀ (x1 : Int32) (r_t_pushes : Nat → Int32) (r_t_helpers : Nat → Int32) (H : Heap) (locs : List Loc) (ls : Array Slot), lp_Row_dismissHelpers_2 i_t kx_2 n x1 r_t_pushes r_t_helpers → Bd D A s.heap (wd_Row_dismissHelpers k a_t d_t i_t r_t_pushes r_t_helpers) H locs → lv_has ls 2 [(0, .ref a_t), (1, .int x1)] → W p l e { frames := 0, cells := 0, slots := 0, locals := 0 } s m ([.ref a_t] : List Value).toArray below meth c H locs 0 0 (Ev below (fun w => ∃ (r_t_pushes : Nat → Int32), ∃ (r_t_helpers : Nat → Int32), w = (wd_Row_dismissHelpers k a_t d_t i_t r_t_pushes r_t_helpers) ∧ Q r_t_pushes r_t_helpers) D k A ([.ref a_t] : List Value).toArray s 0 0) (F0 m 2 ls []) := by
  intro n
  induction n with
  | zero => intro x1 r_t_pushes r_t_helpers H locs ls hf; exact absurd hf (fun h => h)
  | succ n ih => exact bt_Row_dismissHelpers_2 F hr hlk hA hkx_2 ih

set_option maxRecDepth 100000 in
set_option maxHeartbeats 4000000 in
theorem c_Row_dismissHelpers (l : Launch) (D : va_G) (k : Nat → ClassId) (a_t : Nat) (d_t : Nat → Nat) (i_t : Nat → Int32) (r_t_pushes : Nat → Int32) (r_t_helpers : Nat → Int32)  (Q : (Nat → Int32) → (Nat → Int32) → Prop)  (hf : w_Row_dismissHelpers i_t r_t_pushes r_t_helpers Q) : CtV l yX8_dismissHelpers cX8_dismissHelpers 2 none 0 0 0 0 D k [.ref a_t] (wd_Row_dismissHelpers k a_t d_t i_t r_t_pushes r_t_helpers) (fun w => ∃ (r_t_pushes : Nat → Int32), ∃ (r_t_helpers : Nat → Int32), w = (wd_Row_dismissHelpers k a_t d_t i_t r_t_pushes r_t_helpers) ∧ Q r_t_pushes r_t_helpers) := by
  refine CtV.of (by decide) (Nat.le_of_ble_eq_true rfl) ?_
  intro p e s m below meth c A F hr hlk hnm hA hB ls hl
  have hx := F.x
  have hb := F.b
  unfold w_Row_dismissHelpers at hf
  replace hl : lv_has ls 2 [(0, .ref a_t)] := hl
  refine lv_iconst (v := 0) hx hb dX8_dismissHelpers_0 (by decide) ?_
  refine lv_istore_n (lv' := [(1, .int (0 : Int32)), (0, .ref a_t)]) hx hb dX8_dismissHelpers_1 rfl hl (by decide) rfl (fun ls hl => ?_)
  obtain ⟨n_6, hf⟩ := hf
  refine lt_Row_dismissHelpers_2 F hr hlk hA (fun r_t_pushes_4 r_t_helpers_5 H locs ls hf hB hl => ?_) n_6 _ _ _ _ _ _ hf hB (lv_sub hl [1, 0] rfl)
  exact r_v F hr hlk hB ⟨_, _, rfl, hf⟩ dX8_dismissHelpers_30

/-! LongTrain.Free.findBorne -/
set_option maxRecDepth 100000 in
set_option maxHeartbeats 4000000 in
theorem bt_Free_findBorne_42 {p : Program} {l : Launch} {e : Env} {s : State} {m : MethodId} {below : List Frame} {meth : Method} {c : Code} {A : Nat → Prop} {D : va_G} {k : Nat → ClassId} {a_t : Nat} {d_t : Nat → Nat} {a_p1 : Nat} {d_p1 : Nat → Nat} {i_p1 : Nat → Int32} {d_t_row : Nat → Nat} {i_t_row : Nat → Int32} {r_p1_halts : Nat → Int32} {r_p1_first : Nat → Int32} {r_t_row_kinds : Nat → Int32} {r_t_row_longs : Nat → Int32} {r_t_row_weights : Nat → Int32} {r_t_row_strengths : Nat → Int32} {r_t_row_wears : Nat → Int32} {r_t_row_pushes : Nat → Int32} {r_t_row_helpers : Nat → Int32} {r_p1_kinds : Nat → Int32} {r_p1_grades : Nat → Int32} {r_t_row_bears : Nat → Int32} {n2 : Int32} {n3 : Int32} {n4 : Int32} {Q : Int32 → (Nat → Int32) → (Nat → Int32) → (Nat → Int32) → (Nat → Int32) → (Nat → Int32) → (Nat → Int32) → (Nat → Int32) → (Nat → Int32) → (Nat → Int32) → (Nat → Int32) → Prop}  {x3 : Int32} {x4 : Int32} {x6 : Int32} {kx_42 : (Int32) → (Nat → Int32) → Prop} {kr_42 : (Int32) → (Int32) → (Nat → Int32) → Prop} (F : Fx p m c cX0_findBorne 9 s ([.ref a_t, .ref a_p1, .int n2, .int n3, .int n4] : List Value).toArray RX0 D k) (hr : meth.sig.returnType = (some .boolean)) (hlk : meth.locks = false) (hA : ∀ q : Nat, s.heap.size ≤ q → A q) (hkx_42 : ∀ (x5 : Int32) (i_t : Nat → Int32) (H : Heap) (locs : List Loc) (ls : Array Slot), kx_42 x5 i_t → Bd D A s.heap (wd_Free_findBorne k a_t d_t i_t a_p1 d_p1 i_p1 d_t_row i_t_row r_p1_halts r_p1_first r_t_row_kinds r_t_row_longs r_t_row_weights r_t_row_strengths r_t_row_wears r_t_row_pushes r_t_row_helpers r_p1_kinds r_p1_grades r_t_row_bears) H locs → lv_has ls 9 [(0, .ref a_t), (1, .ref a_p1), (3, .int x3), (4, .int x4), (5, .int x5), (6, .int x6)] → W p l e { frames := 4, cells := 0, slots := 0, locals := 90 } s m ([.ref a_t, .ref a_p1, .int n2, .int n3, .int n4] : List Value).toArray below meth c H locs 0 0 (Ei below (fun r w => (r = 0 ∨ r = 1) ∧ (∃ (i_t : Nat → Int32), ∃ (i_t_row : Nat → Int32), ∃ (r_t_row_kinds : Nat → Int32), ∃ (r_t_row_longs : Nat → Int32), ∃ (r_t_row_weights : Nat → Int32), ∃ (r_t_row_strengths : Nat → Int32), ∃ (r_t_row_wears : Nat → Int32), ∃ (r_t_row_pushes : Nat → Int32), ∃ (r_t_row_helpers : Nat → Int32), ∃ (r_t_row_bears : Nat → Int32), w = (wd_Free_findBorne k a_t d_t i_t a_p1 d_p1 i_p1 d_t_row i_t_row r_p1_halts r_p1_first r_t_row_kinds r_t_row_longs r_t_row_weights r_t_row_strengths r_t_row_wears r_t_row_pushes r_t_row_helpers r_p1_kinds r_p1_grades r_t_row_bears) ∧ Q r i_t i_t_row r_t_row_kinds r_t_row_longs r_t_row_weights r_t_row_strengths r_t_row_wears r_t_row_pushes r_t_row_helpers r_t_row_bears)) D k A ([.ref a_t, .ref a_p1, .int n2, .int n3, .int n4] : List Value).toArray s 0 0) (F0 m 124 ls [])) (hkr_42 : ∀ (x5 : Int32) (x7 : Int32) (i_t : Nat → Int32) (H : Heap) (locs : List Loc) (ls : Array Slot), kr_42 x5 x7 i_t → Bd D A s.heap (wd_Free_findBorne k a_t d_t i_t a_p1 d_p1 i_p1 d_t_row i_t_row r_p1_halts r_p1_first r_t_row_kinds r_t_row_longs r_t_row_weights r_t_row_strengths r_t_row_wears r_t_row_pushes r_t_row_helpers r_p1_kinds r_p1_grades r_t_row_bears) H locs → lv_has ls 9 [(0, .ref a_t), (1, .ref a_p1), (3, .int x3), (4, .int x4), (5, .int x5), (6, .int x6), (7, .int x7)] → W p l e { frames := 4, cells := 0, slots := 0, locals := 90 } s m ([.ref a_t, .ref a_p1, .int n2, .int n3, .int n4] : List Value).toArray below meth c H locs 0 0 (Ei below (fun r w => (r = 0 ∨ r = 1) ∧ (∃ (i_t : Nat → Int32), ∃ (i_t_row : Nat → Int32), ∃ (r_t_row_kinds : Nat → Int32), ∃ (r_t_row_longs : Nat → Int32), ∃ (r_t_row_weights : Nat → Int32), ∃ (r_t_row_strengths : Nat → Int32), ∃ (r_t_row_wears : Nat → Int32), ∃ (r_t_row_pushes : Nat → Int32), ∃ (r_t_row_helpers : Nat → Int32), ∃ (r_t_row_bears : Nat → Int32), w = (wd_Free_findBorne k a_t d_t i_t a_p1 d_p1 i_p1 d_t_row i_t_row r_p1_halts r_p1_first r_t_row_kinds r_t_row_longs r_t_row_weights r_t_row_strengths r_t_row_wears r_t_row_pushes r_t_row_helpers r_p1_kinds r_p1_grades r_t_row_bears) ∧ Q r i_t i_t_row r_t_row_kinds r_t_row_longs r_t_row_weights r_t_row_strengths r_t_row_wears r_t_row_pushes r_t_row_helpers r_t_row_bears)) D k A ([.ref a_t, .ref a_p1, .int n2, .int n3, .int n4] : List Value).toArray s 0 0) (F0 m 42 ls [])) :
    ∀ (x5 : Int32) (x7 : Int32) (i_t : Nat → Int32) (H : Heap) (locs : List Loc) (ls : Array Slot), b_Free_findBorne_42 i_t_row r_t_row_bears x4 x6 kx_42 kr_42 x5 x7 i_t → Bd D A s.heap (wd_Free_findBorne k a_t d_t i_t a_p1 d_p1 i_p1 d_t_row i_t_row r_p1_halts r_p1_first r_t_row_kinds r_t_row_longs r_t_row_weights r_t_row_strengths r_t_row_wears r_t_row_pushes r_t_row_helpers r_p1_kinds r_p1_grades r_t_row_bears) H locs → lv_has ls 9 [(0, .ref a_t), (1, .ref a_p1), (3, .int x3), (4, .int x4), (5, .int x5), (6, .int x6), (7, .int x7)] → W p l e { frames := 4, cells := 0, slots := 0, locals := 90 } s m ([.ref a_t, .ref a_p1, .int n2, .int n3, .int n4] : List Value).toArray below meth c H locs 0 0 (Ei below (fun r w => (r = 0 ∨ r = 1) ∧ (∃ (i_t : Nat → Int32), ∃ (i_t_row : Nat → Int32), ∃ (r_t_row_kinds : Nat → Int32), ∃ (r_t_row_longs : Nat → Int32), ∃ (r_t_row_weights : Nat → Int32), ∃ (r_t_row_strengths : Nat → Int32), ∃ (r_t_row_wears : Nat → Int32), ∃ (r_t_row_pushes : Nat → Int32), ∃ (r_t_row_helpers : Nat → Int32), ∃ (r_t_row_bears : Nat → Int32), w = (wd_Free_findBorne k a_t d_t i_t a_p1 d_p1 i_p1 d_t_row i_t_row r_p1_halts r_p1_first r_t_row_kinds r_t_row_longs r_t_row_weights r_t_row_strengths r_t_row_wears r_t_row_pushes r_t_row_helpers r_p1_kinds r_p1_grades r_t_row_bears) ∧ Q r i_t i_t_row r_t_row_kinds r_t_row_longs r_t_row_weights r_t_row_strengths r_t_row_wears r_t_row_pushes r_t_row_helpers r_t_row_bears)) D k A ([.ref a_t, .ref a_p1, .int n2, .int n3, .int n4] : List Value).toArray s 0 0) (F0 m 42 ls []) := by
  have hx := F.x
  have hb := F.b
  intro x5 x7 i_t H locs ls hf hB hl
  unfold b_Free_findBorne_42 at hf
  refine lv_iload hx hb dX0_findBorne_42 (lv_at hl 6 rfl) ?_
  refine lv_aload_n hx hb dX0_findBorne_44 rfl (lv_at hl 0 rfl) ?_
  refine g_get (w := .ref (d_t 0)) F hB 0 rfl fl_RX0_12 rfl dX0_findBorne_45 ?_
  refine g_get (w := .int (i_t_row 8)) F hB 2 rfl fl_RX0_37 rfl dX0_findBorne_48 ?_
  refine lv_icmp_ge (tgt := 124) hx hb dX0_findBorne_51 (by decide) (fun c_16 => ?_) (fun c_16 => ?_)
  · replace hf := hf.1 c_16
    exact hkx_42 _ _ _ _ _ hf hB (lv_sub hl [0, 1, 2, 3, 4, 5] rfl)
  · replace hf := hf.2 c_16
    refine lv_aload_n hx hb dX0_findBorne_54 rfl (lv_at hl 0 rfl) ?_
    refine g_get (w := .ref (d_t 0)) F hB 0 rfl fl_RX0_12 rfl dX0_findBorne_55 ?_
    refine g_get (w := .ref (d_t_row 7)) F hB 2 rfl fl_RX0_40 rfl dX0_findBorne_58 ?_
    refine lv_iload hx hb dX0_findBorne_61 (lv_at hl 6 rfl) ?_
    obtain ⟨h_11, hf⟩ := hf
    refine g_iald F hB 14 rfl h_11 dX0_findBorne_63 ?_
    refine lv_istore (lv' := [(8, .int (r_t_row_bears (x7).toNatClampNeg)), (0, .ref a_t), (1, .ref a_p1), (3, .int x3), (4, .int x4), (5, .int x5), (6, .int x6), (7, .int x7)]) hx hb dX0_findBorne_64 hl (by decide) rfl (fun ls hl => ?_)
    refine lv_iload hx hb dX0_findBorne_66 (lv_at hl 5 rfl) ?_
    refine lv_if_eq (tgt := 97) hx hb dX0_findBorne_68 (by decide) (fun c_15 => ?_) (fun c_15 => ?_)
    · replace hf := hf.1 c_15
      refine lv_iconst (v := 1) hx hb dX0_findBorne_97 (by decide) ?_
      refine lv_istore (lv' := [(5, .int (1 : Int32)), (8, .int (r_t_row_bears (x7).toNatClampNeg)), (0, .ref a_t), (1, .ref a_p1), (3, .int x3), (4, .int x4), (6, .int x6), (7, .int x7)]) hx hb dX0_findBorne_98 hl (by decide) rfl (fun ls hl => ?_)
      refine lv_aload_n hx hb dX0_findBorne_100 rfl (lv_at hl 2 rfl) ?_
      refine lv_iload hx hb dX0_findBorne_101 (lv_at hl 1 rfl) ?_
      refine g_puti F hB 0 rfl fl_RX0_43 rfl (wd_Free_findBorne k a_t d_t (upd i_t 1 (r_t_row_bears (x7).toNatClampNeg)) a_p1 d_p1 i_p1 d_t_row i_t_row r_p1_halts r_p1_first r_t_row_kinds r_t_row_longs r_t_row_weights r_t_row_strengths r_t_row_wears r_t_row_pushes r_t_row_helpers r_p1_kinds r_p1_grades r_t_row_bears) rfl dX0_findBorne_103 (fun H locs hB => ?_)
      refine lv_aload_n hx hb dX0_findBorne_106 rfl (lv_at hl 2 rfl) ?_
      refine lv_iload hx hb dX0_findBorne_107 (lv_at hl 6 rfl) ?_
      refine g_puti F hB 0 rfl fl_RX0_46 rfl (wd_Free_findBorne k a_t d_t (upd (upd i_t 1 (r_t_row_bears (x7).toNatClampNeg)) 2 x6) a_p1 d_p1 i_p1 d_t_row i_t_row r_p1_halts r_p1_first r_t_row_kinds r_t_row_longs r_t_row_weights r_t_row_strengths r_t_row_wears r_t_row_pushes r_t_row_helpers r_p1_kinds r_p1_grades r_t_row_bears) rfl dX0_findBorne_109 (fun H locs hB => ?_)
      refine lv_aload_n hx hb dX0_findBorne_112 rfl (lv_at hl 2 rfl) ?_
      refine lv_iload hx hb dX0_findBorne_113 (lv_at hl 7 rfl) ?_
      refine g_puti F hB 0 rfl fl_RX0_49 rfl (wd_Free_findBorne k a_t d_t (upd (upd (upd i_t 1 (r_t_row_bears (x7).toNatClampNeg)) 2 x6) 3 x7) a_p1 d_p1 i_p1 d_t_row i_t_row r_p1_halts r_p1_first r_t_row_kinds r_t_row_longs r_t_row_weights r_t_row_strengths r_t_row_wears r_t_row_pushes r_t_row_helpers r_p1_kinds r_p1_grades r_t_row_bears) rfl dX0_findBorne_115 (fun H locs hB => ?_)
      refine lv_iinc (v := (x7 + 1)) (lv' := [(7, .int (x7 + 1)), (5, .int (1 : Int32)), (8, .int (r_t_row_bears (x7).toNatClampNeg)), (0, .ref a_t), (1, .ref a_p1), (3, .int x3), (4, .int x4), (6, .int x6)]) (k := 7) hx hb dX0_findBorne_118 hl rfl rfl (by decide) rfl (fun ls hl => ?_)
      refine lv_goto (tgt := 42) hx hb dX0_findBorne_121 (by decide) ?_
      exact hkr_42 _ _ _ _ _ _ hf hB (lv_sub hl [3, 4, 5, 6, 1, 7, 0] rfl)
    · replace hf := hf.2 c_15
      refine lv_iload hx hb dX0_findBorne_71 (lv_at hl 4 rfl) ?_
      refine lv_if_eq (tgt := 88) hx hb dX0_findBorne_73 (by decide) (fun c_14 => ?_) (fun c_14 => ?_)
      · replace hf := hf.1 c_14
        refine lv_iload hx hb dX0_findBorne_88 (lv_at hl 0 rfl) ?_
        refine lv_aload_n hx hb dX0_findBorne_90 rfl (lv_at hl 1 rfl) ?_
        refine g_get (w := .int (i_t 1)) F hB 0 rfl fl_RX0_43 rfl dX0_findBorne_91 ?_
        refine lv_icmp_ge (tgt := 118) hx hb dX0_findBorne_94 (by decide) (fun c_12 => ?_) (fun c_12 => ?_)
        · replace hf := hf.1 c_12
          refine lv_iinc (v := (x7 + 1)) (lv' := [(7, .int (x7 + 1)), (8, .int (r_t_row_bears (x7).toNatClampNeg)), (0, .ref a_t), (1, .ref a_p1), (3, .int x3), (4, .int x4), (5, .int x5), (6, .int x6)]) (k := 7) hx hb dX0_findBorne_118 hl rfl rfl (by decide) rfl (fun ls hl => ?_)
          refine lv_goto (tgt := 42) hx hb dX0_findBorne_121 (by decide) ?_
          exact hkr_42 _ _ _ _ _ _ hf hB (lv_sub hl [2, 3, 4, 5, 6, 7, 0] rfl)
        · replace hf := hf.2 c_12
          refine lv_iconst (v := 1) hx hb dX0_findBorne_97 (by decide) ?_
          refine lv_istore (lv' := [(5, .int (1 : Int32)), (8, .int (r_t_row_bears (x7).toNatClampNeg)), (0, .ref a_t), (1, .ref a_p1), (3, .int x3), (4, .int x4), (6, .int x6), (7, .int x7)]) hx hb dX0_findBorne_98 hl (by decide) rfl (fun ls hl => ?_)
          refine lv_aload_n hx hb dX0_findBorne_100 rfl (lv_at hl 2 rfl) ?_
          refine lv_iload hx hb dX0_findBorne_101 (lv_at hl 1 rfl) ?_
          refine g_puti F hB 0 rfl fl_RX0_43 rfl (wd_Free_findBorne k a_t d_t (upd i_t 1 (r_t_row_bears (x7).toNatClampNeg)) a_p1 d_p1 i_p1 d_t_row i_t_row r_p1_halts r_p1_first r_t_row_kinds r_t_row_longs r_t_row_weights r_t_row_strengths r_t_row_wears r_t_row_pushes r_t_row_helpers r_p1_kinds r_p1_grades r_t_row_bears) rfl dX0_findBorne_103 (fun H locs hB => ?_)
          refine lv_aload_n hx hb dX0_findBorne_106 rfl (lv_at hl 2 rfl) ?_
          refine lv_iload hx hb dX0_findBorne_107 (lv_at hl 6 rfl) ?_
          refine g_puti F hB 0 rfl fl_RX0_46 rfl (wd_Free_findBorne k a_t d_t (upd (upd i_t 1 (r_t_row_bears (x7).toNatClampNeg)) 2 x6) a_p1 d_p1 i_p1 d_t_row i_t_row r_p1_halts r_p1_first r_t_row_kinds r_t_row_longs r_t_row_weights r_t_row_strengths r_t_row_wears r_t_row_pushes r_t_row_helpers r_p1_kinds r_p1_grades r_t_row_bears) rfl dX0_findBorne_109 (fun H locs hB => ?_)
          refine lv_aload_n hx hb dX0_findBorne_112 rfl (lv_at hl 2 rfl) ?_
          refine lv_iload hx hb dX0_findBorne_113 (lv_at hl 7 rfl) ?_
          refine g_puti F hB 0 rfl fl_RX0_49 rfl (wd_Free_findBorne k a_t d_t (upd (upd (upd i_t 1 (r_t_row_bears (x7).toNatClampNeg)) 2 x6) 3 x7) a_p1 d_p1 i_p1 d_t_row i_t_row r_p1_halts r_p1_first r_t_row_kinds r_t_row_longs r_t_row_weights r_t_row_strengths r_t_row_wears r_t_row_pushes r_t_row_helpers r_p1_kinds r_p1_grades r_t_row_bears) rfl dX0_findBorne_115 (fun H locs hB => ?_)
          refine lv_iinc (v := (x7 + 1)) (lv' := [(7, .int (x7 + 1)), (5, .int (1 : Int32)), (8, .int (r_t_row_bears (x7).toNatClampNeg)), (0, .ref a_t), (1, .ref a_p1), (3, .int x3), (4, .int x4), (6, .int x6)]) (k := 7) hx hb dX0_findBorne_118 hl rfl rfl (by decide) rfl (fun ls hl => ?_)
          refine lv_goto (tgt := 42) hx hb dX0_findBorne_121 (by decide) ?_
          exact hkr_42 _ _ _ _ _ _ hf hB (lv_sub hl [3, 4, 5, 6, 1, 7, 0] rfl)
      · replace hf := hf.2 c_14
        refine lv_iload hx hb dX0_findBorne_76 (lv_at hl 0 rfl) ?_
        refine lv_aload_n hx hb dX0_findBorne_78 rfl (lv_at hl 1 rfl) ?_
        refine g_get (w := .int (i_t 1)) F hB 0 rfl fl_RX0_43 rfl dX0_findBorne_79 ?_
        refine lv_icmp_le (tgt := 118) hx hb dX0_findBorne_82 (by decide) (fun c_13 => ?_) (fun c_13 => ?_)
        · replace hf := hf.1 c_13
          refine lv_iinc (v := (x7 + 1)) (lv' := [(7, .int (x7 + 1)), (8, .int (r_t_row_bears (x7).toNatClampNeg)), (0, .ref a_t), (1, .ref a_p1), (3, .int x3), (4, .int x4), (5, .int x5), (6, .int x6)]) (k := 7) hx hb dX0_findBorne_118 hl rfl rfl (by decide) rfl (fun ls hl => ?_)
          refine lv_goto (tgt := 42) hx hb dX0_findBorne_121 (by decide) ?_
          exact hkr_42 _ _ _ _ _ _ hf hB (lv_sub hl [2, 3, 4, 5, 6, 7, 0] rfl)
        · replace hf := hf.2 c_13
          refine lv_goto (tgt := 97) hx hb dX0_findBorne_85 (by decide) ?_
          refine lv_iconst (v := 1) hx hb dX0_findBorne_97 (by decide) ?_
          refine lv_istore (lv' := [(5, .int (1 : Int32)), (8, .int (r_t_row_bears (x7).toNatClampNeg)), (0, .ref a_t), (1, .ref a_p1), (3, .int x3), (4, .int x4), (6, .int x6), (7, .int x7)]) hx hb dX0_findBorne_98 hl (by decide) rfl (fun ls hl => ?_)
          refine lv_aload_n hx hb dX0_findBorne_100 rfl (lv_at hl 2 rfl) ?_
          refine lv_iload hx hb dX0_findBorne_101 (lv_at hl 1 rfl) ?_
          refine g_puti F hB 0 rfl fl_RX0_43 rfl (wd_Free_findBorne k a_t d_t (upd i_t 1 (r_t_row_bears (x7).toNatClampNeg)) a_p1 d_p1 i_p1 d_t_row i_t_row r_p1_halts r_p1_first r_t_row_kinds r_t_row_longs r_t_row_weights r_t_row_strengths r_t_row_wears r_t_row_pushes r_t_row_helpers r_p1_kinds r_p1_grades r_t_row_bears) rfl dX0_findBorne_103 (fun H locs hB => ?_)
          refine lv_aload_n hx hb dX0_findBorne_106 rfl (lv_at hl 2 rfl) ?_
          refine lv_iload hx hb dX0_findBorne_107 (lv_at hl 6 rfl) ?_
          refine g_puti F hB 0 rfl fl_RX0_46 rfl (wd_Free_findBorne k a_t d_t (upd (upd i_t 1 (r_t_row_bears (x7).toNatClampNeg)) 2 x6) a_p1 d_p1 i_p1 d_t_row i_t_row r_p1_halts r_p1_first r_t_row_kinds r_t_row_longs r_t_row_weights r_t_row_strengths r_t_row_wears r_t_row_pushes r_t_row_helpers r_p1_kinds r_p1_grades r_t_row_bears) rfl dX0_findBorne_109 (fun H locs hB => ?_)
          refine lv_aload_n hx hb dX0_findBorne_112 rfl (lv_at hl 2 rfl) ?_
          refine lv_iload hx hb dX0_findBorne_113 (lv_at hl 7 rfl) ?_
          refine g_puti F hB 0 rfl fl_RX0_49 rfl (wd_Free_findBorne k a_t d_t (upd (upd (upd i_t 1 (r_t_row_bears (x7).toNatClampNeg)) 2 x6) 3 x7) a_p1 d_p1 i_p1 d_t_row i_t_row r_p1_halts r_p1_first r_t_row_kinds r_t_row_longs r_t_row_weights r_t_row_strengths r_t_row_wears r_t_row_pushes r_t_row_helpers r_p1_kinds r_p1_grades r_t_row_bears) rfl dX0_findBorne_115 (fun H locs hB => ?_)
          refine lv_iinc (v := (x7 + 1)) (lv' := [(7, .int (x7 + 1)), (5, .int (1 : Int32)), (8, .int (r_t_row_bears (x7).toNatClampNeg)), (0, .ref a_t), (1, .ref a_p1), (3, .int x3), (4, .int x4), (6, .int x6)]) (k := 7) hx hb dX0_findBorne_118 hl rfl rfl (by decide) rfl (fun ls hl => ?_)
          refine lv_goto (tgt := 42) hx hb dX0_findBorne_121 (by decide) ?_
          exact hkr_42 _ _ _ _ _ _ hf hB (lv_sub hl [3, 4, 5, 6, 1, 7, 0] rfl)

set_option maxRecDepth 100000 in
set_option maxHeartbeats 4000000 in
theorem lt_Free_findBorne_42 {p : Program} {l : Launch} {e : Env} {s : State} {m : MethodId} {below : List Frame} {meth : Method} {c : Code} {A : Nat → Prop} {D : va_G} {k : Nat → ClassId} {a_t : Nat} {d_t : Nat → Nat} {a_p1 : Nat} {d_p1 : Nat → Nat} {i_p1 : Nat → Int32} {d_t_row : Nat → Nat} {i_t_row : Nat → Int32} {r_p1_halts : Nat → Int32} {r_p1_first : Nat → Int32} {r_t_row_kinds : Nat → Int32} {r_t_row_longs : Nat → Int32} {r_t_row_weights : Nat → Int32} {r_t_row_strengths : Nat → Int32} {r_t_row_wears : Nat → Int32} {r_t_row_pushes : Nat → Int32} {r_t_row_helpers : Nat → Int32} {r_p1_kinds : Nat → Int32} {r_p1_grades : Nat → Int32} {r_t_row_bears : Nat → Int32} {n2 : Int32} {n3 : Int32} {n4 : Int32} {Q : Int32 → (Nat → Int32) → (Nat → Int32) → (Nat → Int32) → (Nat → Int32) → (Nat → Int32) → (Nat → Int32) → (Nat → Int32) → (Nat → Int32) → (Nat → Int32) → (Nat → Int32) → Prop}  {x3 : Int32} {x4 : Int32} {x6 : Int32} {kx_42 : (Int32) → (Nat → Int32) → Prop} (F : Fx p m c cX0_findBorne 9 s ([.ref a_t, .ref a_p1, .int n2, .int n3, .int n4] : List Value).toArray RX0 D k) (hr : meth.sig.returnType = (some .boolean)) (hlk : meth.locks = false) (hA : ∀ q : Nat, s.heap.size ≤ q → A q) (hkx_42 : ∀ (x5 : Int32) (i_t : Nat → Int32) (H : Heap) (locs : List Loc) (ls : Array Slot), kx_42 x5 i_t → Bd D A s.heap (wd_Free_findBorne k a_t d_t i_t a_p1 d_p1 i_p1 d_t_row i_t_row r_p1_halts r_p1_first r_t_row_kinds r_t_row_longs r_t_row_weights r_t_row_strengths r_t_row_wears r_t_row_pushes r_t_row_helpers r_p1_kinds r_p1_grades r_t_row_bears) H locs → lv_has ls 9 [(0, .ref a_t), (1, .ref a_p1), (3, .int x3), (4, .int x4), (5, .int x5), (6, .int x6)] → W p l e { frames := 4, cells := 0, slots := 0, locals := 90 } s m ([.ref a_t, .ref a_p1, .int n2, .int n3, .int n4] : List Value).toArray below meth c H locs 0 0 (Ei below (fun r w => (r = 0 ∨ r = 1) ∧ (∃ (i_t : Nat → Int32), ∃ (i_t_row : Nat → Int32), ∃ (r_t_row_kinds : Nat → Int32), ∃ (r_t_row_longs : Nat → Int32), ∃ (r_t_row_weights : Nat → Int32), ∃ (r_t_row_strengths : Nat → Int32), ∃ (r_t_row_wears : Nat → Int32), ∃ (r_t_row_pushes : Nat → Int32), ∃ (r_t_row_helpers : Nat → Int32), ∃ (r_t_row_bears : Nat → Int32), w = (wd_Free_findBorne k a_t d_t i_t a_p1 d_p1 i_p1 d_t_row i_t_row r_p1_halts r_p1_first r_t_row_kinds r_t_row_longs r_t_row_weights r_t_row_strengths r_t_row_wears r_t_row_pushes r_t_row_helpers r_p1_kinds r_p1_grades r_t_row_bears) ∧ Q r i_t i_t_row r_t_row_kinds r_t_row_longs r_t_row_weights r_t_row_strengths r_t_row_wears r_t_row_pushes r_t_row_helpers r_t_row_bears)) D k A ([.ref a_t, .ref a_p1, .int n2, .int n3, .int n4] : List Value).toArray s 0 0) (F0 m 124 ls [])) :
    ∀ n : Nat, ∀ (x5 : Int32) (x7 : Int32) (i_t : Nat → Int32) (H : Heap) (locs : List Loc) (ls : Array Slot), lp_Free_findBorne_42 i_t_row r_t_row_bears x4 x6 kx_42 n x5 x7 i_t → Bd D A s.heap (wd_Free_findBorne k a_t d_t i_t a_p1 d_p1 i_p1 d_t_row i_t_row r_p1_halts r_p1_first r_t_row_kinds r_t_row_longs r_t_row_weights r_t_row_strengths r_t_row_wears r_t_row_pushes r_t_row_helpers r_p1_kinds r_p1_grades r_t_row_bears) H locs → lv_has ls 9 [(0, .ref a_t), (1, .ref a_p1), (3, .int x3), (4, .int x4), (5, .int x5), (6, .int x6), (7, .int x7)] → W p l e { frames := 4, cells := 0, slots := 0, locals := 90 } s m ([.ref a_t, .ref a_p1, .int n2, .int n3, .int n4] : List Value).toArray below meth c H locs 0 0 (Ei below (fun r w => (r = 0 ∨ r = 1) ∧ (∃ (i_t : Nat → Int32), ∃ (i_t_row : Nat → Int32), ∃ (r_t_row_kinds : Nat → Int32), ∃ (r_t_row_longs : Nat → Int32), ∃ (r_t_row_weights : Nat → Int32), ∃ (r_t_row_strengths : Nat → Int32), ∃ (r_t_row_wears : Nat → Int32), ∃ (r_t_row_pushes : Nat → Int32), ∃ (r_t_row_helpers : Nat → Int32), ∃ (r_t_row_bears : Nat → Int32), w = (wd_Free_findBorne k a_t d_t i_t a_p1 d_p1 i_p1 d_t_row i_t_row r_p1_halts r_p1_first r_t_row_kinds r_t_row_longs r_t_row_weights r_t_row_strengths r_t_row_wears r_t_row_pushes r_t_row_helpers r_p1_kinds r_p1_grades r_t_row_bears) ∧ Q r i_t i_t_row r_t_row_kinds r_t_row_longs r_t_row_weights r_t_row_strengths r_t_row_wears r_t_row_pushes r_t_row_helpers r_t_row_bears)) D k A ([.ref a_t, .ref a_p1, .int n2, .int n3, .int n4] : List Value).toArray s 0 0) (F0 m 42 ls []) := by
  intro n
  induction n with
  | zero => intro x5 x7 i_t H locs ls hf; exact absurd hf (fun h => h)
  | succ n ih => exact bt_Free_findBorne_42 F hr hlk hA hkx_42 ih

set_option maxRecDepth 100000 in
set_option maxHeartbeats 4000000 in
theorem bt_Free_findBorne_15 {p : Program} {l : Launch} {e : Env} {s : State} {m : MethodId} {below : List Frame} {meth : Method} {c : Code} {A : Nat → Prop} {D : va_G} {k : Nat → ClassId} {a_t : Nat} {d_t : Nat → Nat} {a_p1 : Nat} {d_p1 : Nat → Nat} {i_p1 : Nat → Int32} {d_t_row : Nat → Nat} {r_p1_halts : Nat → Int32} {r_p1_first : Nat → Int32} {r_p1_kinds : Nat → Int32} {r_p1_grades : Nat → Int32} {n2 : Int32} {n3 : Int32} {n4 : Int32} {Q : Int32 → (Nat → Int32) → (Nat → Int32) → (Nat → Int32) → (Nat → Int32) → (Nat → Int32) → (Nat → Int32) → (Nat → Int32) → (Nat → Int32) → (Nat → Int32) → (Nat → Int32) → Prop}  {x3 : Int32} {x4 : Int32} {kx_15 : (Int32) → (Nat → Int32) → (Nat → Int32) → (Nat → Int32) → (Nat → Int32) → (Nat → Int32) → (Nat → Int32) → (Nat → Int32) → (Nat → Int32) → (Nat → Int32) → (Nat → Int32) → Prop} {kr_15 : (Int32) → (Int32) → (Nat → Int32) → (Nat → Int32) → (Nat → Int32) → (Nat → Int32) → (Nat → Int32) → (Nat → Int32) → (Nat → Int32) → (Nat → Int32) → (Nat → Int32) → (Nat → Int32) → Prop} (F : Fx p m c cX0_findBorne 9 s ([.ref a_t, .ref a_p1, .int n2, .int n3, .int n4] : List Value).toArray RX0 D k) (hr : meth.sig.returnType = (some .boolean)) (hlk : meth.locks = false) (hA : ∀ q : Nat, s.heap.size ≤ q → A q) (hkx_15 : ∀ (x5 : Int32) (i_t : Nat → Int32) (i_t_row : Nat → Int32) (r_t_row_kinds : Nat → Int32) (r_t_row_longs : Nat → Int32) (r_t_row_weights : Nat → Int32) (r_t_row_strengths : Nat → Int32) (r_t_row_wears : Nat → Int32) (r_t_row_pushes : Nat → Int32) (r_t_row_helpers : Nat → Int32) (r_t_row_bears : Nat → Int32) (H : Heap) (locs : List Loc) (ls : Array Slot), kx_15 x5 i_t i_t_row r_t_row_kinds r_t_row_longs r_t_row_weights r_t_row_strengths r_t_row_wears r_t_row_pushes r_t_row_helpers r_t_row_bears → Bd D A s.heap (wd_Free_findBorne k a_t d_t i_t a_p1 d_p1 i_p1 d_t_row i_t_row r_p1_halts r_p1_first r_t_row_kinds r_t_row_longs r_t_row_weights r_t_row_strengths r_t_row_wears r_t_row_pushes r_t_row_helpers r_p1_kinds r_p1_grades r_t_row_bears) H locs → lv_has ls 9 [(5, .int x5)] → W p l e { frames := 4, cells := 0, slots := 0, locals := 90 } s m ([.ref a_t, .ref a_p1, .int n2, .int n3, .int n4] : List Value).toArray below meth c H locs 0 0 (Ei below (fun r w => (r = 0 ∨ r = 1) ∧ (∃ (i_t : Nat → Int32), ∃ (i_t_row : Nat → Int32), ∃ (r_t_row_kinds : Nat → Int32), ∃ (r_t_row_longs : Nat → Int32), ∃ (r_t_row_weights : Nat → Int32), ∃ (r_t_row_strengths : Nat → Int32), ∃ (r_t_row_wears : Nat → Int32), ∃ (r_t_row_pushes : Nat → Int32), ∃ (r_t_row_helpers : Nat → Int32), ∃ (r_t_row_bears : Nat → Int32), w = (wd_Free_findBorne k a_t d_t i_t a_p1 d_p1 i_p1 d_t_row i_t_row r_p1_halts r_p1_first r_t_row_kinds r_t_row_longs r_t_row_weights r_t_row_strengths r_t_row_wears r_t_row_pushes r_t_row_helpers r_p1_kinds r_p1_grades r_t_row_bears) ∧ Q r i_t i_t_row r_t_row_kinds r_t_row_longs r_t_row_weights r_t_row_strengths r_t_row_wears r_t_row_pushes r_t_row_helpers r_t_row_bears)) D k A ([.ref a_t, .ref a_p1, .int n2, .int n3, .int n4] : List Value).toArray s 0 0) (F0 m 138 ls [])) (hkr_15 : ∀ (x5 : Int32) (x6 : Int32) (i_t : Nat → Int32) (i_t_row : Nat → Int32) (r_t_row_kinds : Nat → Int32) (r_t_row_longs : Nat → Int32) (r_t_row_weights : Nat → Int32) (r_t_row_strengths : Nat → Int32) (r_t_row_wears : Nat → Int32) (r_t_row_pushes : Nat → Int32) (r_t_row_helpers : Nat → Int32) (r_t_row_bears : Nat → Int32) (H : Heap) (locs : List Loc) (ls : Array Slot), kr_15 x5 x6 i_t i_t_row r_t_row_kinds r_t_row_longs r_t_row_weights r_t_row_strengths r_t_row_wears r_t_row_pushes r_t_row_helpers r_t_row_bears → Bd D A s.heap (wd_Free_findBorne k a_t d_t i_t a_p1 d_p1 i_p1 d_t_row i_t_row r_p1_halts r_p1_first r_t_row_kinds r_t_row_longs r_t_row_weights r_t_row_strengths r_t_row_wears r_t_row_pushes r_t_row_helpers r_p1_kinds r_p1_grades r_t_row_bears) H locs → lv_has ls 9 [(0, .ref a_t), (1, .ref a_p1), (3, .int x3), (4, .int x4), (5, .int x5), (6, .int x6)] → W p l e { frames := 4, cells := 0, slots := 0, locals := 90 } s m ([.ref a_t, .ref a_p1, .int n2, .int n3, .int n4] : List Value).toArray below meth c H locs 0 0 (Ei below (fun r w => (r = 0 ∨ r = 1) ∧ (∃ (i_t : Nat → Int32), ∃ (i_t_row : Nat → Int32), ∃ (r_t_row_kinds : Nat → Int32), ∃ (r_t_row_longs : Nat → Int32), ∃ (r_t_row_weights : Nat → Int32), ∃ (r_t_row_strengths : Nat → Int32), ∃ (r_t_row_wears : Nat → Int32), ∃ (r_t_row_pushes : Nat → Int32), ∃ (r_t_row_helpers : Nat → Int32), ∃ (r_t_row_bears : Nat → Int32), w = (wd_Free_findBorne k a_t d_t i_t a_p1 d_p1 i_p1 d_t_row i_t_row r_p1_halts r_p1_first r_t_row_kinds r_t_row_longs r_t_row_weights r_t_row_strengths r_t_row_wears r_t_row_pushes r_t_row_helpers r_p1_kinds r_p1_grades r_t_row_bears) ∧ Q r i_t i_t_row r_t_row_kinds r_t_row_longs r_t_row_weights r_t_row_strengths r_t_row_wears r_t_row_pushes r_t_row_helpers r_t_row_bears)) D k A ([.ref a_t, .ref a_p1, .int n2, .int n3, .int n4] : List Value).toArray s 0 0) (F0 m 15 ls [])) :
    ∀ (x5 : Int32) (x6 : Int32) (i_t : Nat → Int32) (i_t_row : Nat → Int32) (r_t_row_kinds : Nat → Int32) (r_t_row_longs : Nat → Int32) (r_t_row_weights : Nat → Int32) (r_t_row_strengths : Nat → Int32) (r_t_row_wears : Nat → Int32) (r_t_row_pushes : Nat → Int32) (r_t_row_helpers : Nat → Int32) (r_t_row_bears : Nat → Int32) (H : Heap) (locs : List Loc) (ls : Array Slot), b_Free_findBorne_15 i_p1 r_p1_halts r_p1_kinds r_p1_grades x3 x4 kx_15 kr_15 x5 x6 i_t i_t_row r_t_row_kinds r_t_row_longs r_t_row_weights r_t_row_strengths r_t_row_wears r_t_row_pushes r_t_row_helpers r_t_row_bears → Bd D A s.heap (wd_Free_findBorne k a_t d_t i_t a_p1 d_p1 i_p1 d_t_row i_t_row r_p1_halts r_p1_first r_t_row_kinds r_t_row_longs r_t_row_weights r_t_row_strengths r_t_row_wears r_t_row_pushes r_t_row_helpers r_p1_kinds r_p1_grades r_t_row_bears) H locs → lv_has ls 9 [(0, .ref a_t), (1, .ref a_p1), (3, .int x3), (4, .int x4), (5, .int x5), (6, .int x6)] → W p l e { frames := 4, cells := 0, slots := 0, locals := 90 } s m ([.ref a_t, .ref a_p1, .int n2, .int n3, .int n4] : List Value).toArray below meth c H locs 0 0 (Ei below (fun r w => (r = 0 ∨ r = 1) ∧ (∃ (i_t : Nat → Int32), ∃ (i_t_row : Nat → Int32), ∃ (r_t_row_kinds : Nat → Int32), ∃ (r_t_row_longs : Nat → Int32), ∃ (r_t_row_weights : Nat → Int32), ∃ (r_t_row_strengths : Nat → Int32), ∃ (r_t_row_wears : Nat → Int32), ∃ (r_t_row_pushes : Nat → Int32), ∃ (r_t_row_helpers : Nat → Int32), ∃ (r_t_row_bears : Nat → Int32), w = (wd_Free_findBorne k a_t d_t i_t a_p1 d_p1 i_p1 d_t_row i_t_row r_p1_halts r_p1_first r_t_row_kinds r_t_row_longs r_t_row_weights r_t_row_strengths r_t_row_wears r_t_row_pushes r_t_row_helpers r_p1_kinds r_p1_grades r_t_row_bears) ∧ Q r i_t i_t_row r_t_row_kinds r_t_row_longs r_t_row_weights r_t_row_strengths r_t_row_wears r_t_row_pushes r_t_row_helpers r_t_row_bears)) D k A ([.ref a_t, .ref a_p1, .int n2, .int n3, .int n4] : List Value).toArray s 0 0) (F0 m 15 ls []) := by
  have hx := F.x
  have hb := F.b
  intro x5 x6 i_t i_t_row r_t_row_kinds r_t_row_longs r_t_row_weights r_t_row_strengths r_t_row_wears r_t_row_pushes r_t_row_helpers r_t_row_bears H locs ls hf hB hl
  unfold b_Free_findBorne_15 at hf
  refine lv_iload hx hb dX0_findBorne_15 (lv_at hl 5 rfl) ?_
  refine lv_iload_n hx hb dX0_findBorne_17 rfl (lv_at hl 2 rfl) ?_
  refine lv_icmp_gt (tgt := 138) hx hb dX0_findBorne_18 (by decide) (fun c_28 => ?_) (fun c_28 => ?_)
  · replace hf := hf.1 c_28
    exact hkx_15 _ _ _ _ _ _ _ _ _ _ _ _ _ _ hf hB (lv_sub hl [4] rfl)
  · replace hf := hf.2 c_28
    refine lv_aload_n hx hb dX0_findBorne_21 rfl (lv_at hl 0 rfl) ?_
    refine g_get (w := .ref (d_t 0)) F hB 0 rfl fl_RX0_12 rfl dX0_findBorne_22 ?_
    refine lv_iload hx hb dX0_findBorne_25 (lv_at hl 5 rfl) ?_
    refine g_puti F hB 2 rfl fl_RX0_29 rfl (wd_Free_findBorne k a_t d_t i_t a_p1 d_p1 i_p1 d_t_row (upd i_t_row 10 x6) r_p1_halts r_p1_first r_t_row_kinds r_t_row_longs r_t_row_weights r_t_row_strengths r_t_row_wears r_t_row_pushes r_t_row_helpers r_p1_kinds r_p1_grades r_t_row_bears) rfl dX0_findBorne_27 (fun H locs hB => ?_)
    refine lv_aload_n hx hb dX0_findBorne_30 rfl (lv_at hl 0 rfl) ?_
    refine g_get (w := .ref (d_t 0)) F hB 0 rfl fl_RX0_12 rfl dX0_findBorne_31 ?_
    refine lv_aload_n hx hb dX0_findBorne_34 rfl (lv_at hl 1 rfl) ?_
    refine k_vi (wr := [(a_t, ob 0 (rfd d_t) i_t j0), ((d_p1 2), ai k 30 r_p1_halts), ((d_p1 8), ai k 8 r_p1_first), ((d_t_row 0), ai k 20 r_t_row_kinds), ((d_t_row 3), ai k 20 r_t_row_strengths), ((d_t_row 4), ai k 20 r_t_row_wears), ((d_t_row 6), ai k 20 r_t_row_helpers), ((d_p1 6), ai k 18 r_p1_kinds)]) (rest := []) F hA hB (c_Row_measure l D k (d_t 0) d_t_row (upd i_t_row 10 x6) a_p1 d_p1 i_p1 r_t_row_longs r_p1_grades r_t_row_weights r_t_row_pushes r_t_row_bears _  hf) ml_RX0_33 mv_yX8_measure [2, 1, 6, 13, 7, 10, 14] [0, 3, 4, 5, 8, 9, 11, 12] rfl rfl (by decide) (by decide) (by decide) 2 rfl rfl rfl hl.1 rfl (Nat.le_of_ble_eq_true rfl) ⟨Nat.le_of_ble_eq_true rfl, Nat.le_of_ble_eq_true rfl⟩ ⟨Nat.le_of_ble_eq_true rfl, Nat.le_of_ble_eq_true rfl⟩ dX0_findBorne_35 (fun z_10 w1 H locs hq hB => ?_)
    obtain ⟨r_t_row_bears_9, rfl, hf⟩ := hq
    replace hB : Bd D A s.heap (wd_Free_findBorne k a_t d_t i_t a_p1 d_p1 i_p1 d_t_row (upd i_t_row 10 x6) r_p1_halts r_p1_first r_t_row_kinds r_t_row_longs r_t_row_weights r_t_row_strengths r_t_row_wears r_t_row_pushes r_t_row_helpers r_p1_kinds r_p1_grades r_t_row_bears_9) H locs := hB.sub [0, 9, 8, 1, 2, 3, 10, 12, 4, 5, 13, 6, 7, 11, 14] (by decide) rfl
    refine lv_pop hx hb dX0_findBorne_38 rfl ?_
    refine lv_iconst (v := 0) hx hb dX0_findBorne_39 (by decide) ?_
    refine lv_istore (lv' := [(7, .int (0 : Int32)), (0, .ref a_t), (1, .ref a_p1), (3, .int x3), (4, .int x4), (5, .int x5), (6, .int x6)]) hx hb dX0_findBorne_40 hl (by decide) rfl (fun ls hl => ?_)
    obtain ⟨n_27, hf⟩ := hf
    refine lt_Free_findBorne_42 F hr hlk hA (fun x5_17 i_t_18 H locs ls hf hB hl => ?_) n_27 _ _ _ _ _ _ hf hB (lv_sub hl [1, 2, 3, 4, 5, 6, 0] rfl)
    refine lv_aload_n hx hb dX0_findBorne_124 rfl (lv_at hl 0 rfl) ?_
    refine g_get (w := .ref (d_t 0)) F hB 0 rfl fl_RX0_12 rfl dX0_findBorne_125 ?_
    refine lv_aload_n hx hb dX0_findBorne_128 rfl (lv_at hl 1 rfl) ?_
    refine k_vv (wr := [(a_t, ob 0 (rfd d_t) i_t_18 j0), ((d_p1 8), ai k 8 r_p1_first), ((d_p1 0), ai k 400 r_p1_grades), ((d_t_row 7), ai k 20 r_t_row_bears_9)]) (rest := []) F hA hB (c_Row_takeOn l D k (d_t 0) d_t_row (upd i_t_row 10 x6) a_p1 d_p1 i_p1 r_p1_halts r_t_row_kinds r_t_row_longs r_t_row_weights r_t_row_strengths r_t_row_wears r_t_row_pushes r_t_row_helpers r_p1_kinds _  hf) ml_RX0_52 mv_yX8_takeOn [2, 1, 3, 5, 6, 7, 8, 9, 10, 11, 12] [0, 4, 13, 14] rfl rfl (by decide) (by decide) (by decide) 2 rfl rfl rfl hl.1 rfl (Nat.le_of_ble_eq_true rfl) ⟨Nat.le_of_ble_eq_true rfl, Nat.le_of_ble_eq_true rfl⟩ ⟨Nat.le_of_ble_eq_true rfl, Nat.le_of_ble_eq_true rfl⟩ dX0_findBorne_129 (fun w1 H locs hq hB => ?_)
    obtain ⟨i_t_row_19, r_t_row_kinds_20, r_t_row_longs_21, r_t_row_weights_22, r_t_row_strengths_23, r_t_row_wears_24, r_t_row_pushes_25, r_t_row_helpers_26, rfl, hf⟩ := hq
    replace hB : Bd D A s.heap (wd_Free_findBorne k a_t d_t i_t_18 a_p1 d_p1 i_p1 d_t_row i_t_row_19 r_p1_halts r_p1_first r_t_row_kinds_20 r_t_row_longs_21 r_t_row_weights_22 r_t_row_strengths_23 r_t_row_wears_24 r_t_row_pushes_25 r_t_row_helpers_26 r_p1_kinds r_p1_grades r_t_row_bears_9) H locs := hB.sub [0, 5, 4, 6, 1, 7, 8, 9, 10, 11, 12, 13, 14, 2, 3] (by decide) rfl
    refine lv_iinc (v := (x6 + 1)) (lv' := [(6, .int (x6 + 1)), (0, .ref a_t), (1, .ref a_p1), (3, .int x3), (4, .int x4), (5, .int x5_17)]) (k := 5) hx hb dX0_findBorne_132 hl rfl rfl (by decide) rfl (fun ls hl => ?_)
    refine lv_goto (tgt := 15) hx hb dX0_findBorne_135 (by decide) ?_
    exact hkr_15 _ _ _ _ _ _ _ _ _ _ _ _ _ _ _ hf hB (lv_sub hl [1, 2, 3, 4, 5, 0] rfl)

set_option maxRecDepth 100000 in
set_option maxHeartbeats 4000000 in
theorem lt_Free_findBorne_15 {p : Program} {l : Launch} {e : Env} {s : State} {m : MethodId} {below : List Frame} {meth : Method} {c : Code} {A : Nat → Prop} {D : va_G} {k : Nat → ClassId} {a_t : Nat} {d_t : Nat → Nat} {a_p1 : Nat} {d_p1 : Nat → Nat} {i_p1 : Nat → Int32} {d_t_row : Nat → Nat} {r_p1_halts : Nat → Int32} {r_p1_first : Nat → Int32} {r_p1_kinds : Nat → Int32} {r_p1_grades : Nat → Int32} {n2 : Int32} {n3 : Int32} {n4 : Int32} {Q : Int32 → (Nat → Int32) → (Nat → Int32) → (Nat → Int32) → (Nat → Int32) → (Nat → Int32) → (Nat → Int32) → (Nat → Int32) → (Nat → Int32) → (Nat → Int32) → (Nat → Int32) → Prop}  {x3 : Int32} {x4 : Int32} {kx_15 : (Int32) → (Nat → Int32) → (Nat → Int32) → (Nat → Int32) → (Nat → Int32) → (Nat → Int32) → (Nat → Int32) → (Nat → Int32) → (Nat → Int32) → (Nat → Int32) → (Nat → Int32) → Prop} (F : Fx p m c cX0_findBorne 9 s ([.ref a_t, .ref a_p1, .int n2, .int n3, .int n4] : List Value).toArray RX0 D k) (hr : meth.sig.returnType = (some .boolean)) (hlk : meth.locks = false) (hA : ∀ q : Nat, s.heap.size ≤ q → A q) (hkx_15 : ∀ (x5 : Int32) (i_t : Nat → Int32) (i_t_row : Nat → Int32) (r_t_row_kinds : Nat → Int32) (r_t_row_longs : Nat → Int32) (r_t_row_weights : Nat → Int32) (r_t_row_strengths : Nat → Int32) (r_t_row_wears : Nat → Int32) (r_t_row_pushes : Nat → Int32) (r_t_row_helpers : Nat → Int32) (r_t_row_bears : Nat → Int32) (H : Heap) (locs : List Loc) (ls : Array Slot), kx_15 x5 i_t i_t_row r_t_row_kinds r_t_row_longs r_t_row_weights r_t_row_strengths r_t_row_wears r_t_row_pushes r_t_row_helpers r_t_row_bears → Bd D A s.heap (wd_Free_findBorne k a_t d_t i_t a_p1 d_p1 i_p1 d_t_row i_t_row r_p1_halts r_p1_first r_t_row_kinds r_t_row_longs r_t_row_weights r_t_row_strengths r_t_row_wears r_t_row_pushes r_t_row_helpers r_p1_kinds r_p1_grades r_t_row_bears) H locs → lv_has ls 9 [(5, .int x5)] → W p l e { frames := 4, cells := 0, slots := 0, locals := 90 } s m ([.ref a_t, .ref a_p1, .int n2, .int n3, .int n4] : List Value).toArray below meth c H locs 0 0 (Ei below (fun r w => (r = 0 ∨ r = 1) ∧ (∃ (i_t : Nat → Int32), ∃ (i_t_row : Nat → Int32), ∃ (r_t_row_kinds : Nat → Int32), ∃ (r_t_row_longs : Nat → Int32), ∃ (r_t_row_weights : Nat → Int32), ∃ (r_t_row_strengths : Nat → Int32), ∃ (r_t_row_wears : Nat → Int32), ∃ (r_t_row_pushes : Nat → Int32), ∃ (r_t_row_helpers : Nat → Int32), ∃ (r_t_row_bears : Nat → Int32), w = (wd_Free_findBorne k a_t d_t i_t a_p1 d_p1 i_p1 d_t_row i_t_row r_p1_halts r_p1_first r_t_row_kinds r_t_row_longs r_t_row_weights r_t_row_strengths r_t_row_wears r_t_row_pushes r_t_row_helpers r_p1_kinds r_p1_grades r_t_row_bears) ∧ Q r i_t i_t_row r_t_row_kinds r_t_row_longs r_t_row_weights r_t_row_strengths r_t_row_wears r_t_row_pushes r_t_row_helpers r_t_row_bears)) D k A ([.ref a_t, .ref a_p1, .int n2, .int n3, .int n4] : List Value).toArray s 0 0) (F0 m 138 ls [])) :
    ∀ n : Nat, ∀ (x5 : Int32) (x6 : Int32) (i_t : Nat → Int32) (i_t_row : Nat → Int32) (r_t_row_kinds : Nat → Int32) (r_t_row_longs : Nat → Int32) (r_t_row_weights : Nat → Int32) (r_t_row_strengths : Nat → Int32) (r_t_row_wears : Nat → Int32) (r_t_row_pushes : Nat → Int32) (r_t_row_helpers : Nat → Int32) (r_t_row_bears : Nat → Int32) (H : Heap) (locs : List Loc) (ls : Array Slot), lp_Free_findBorne_15 i_p1 r_p1_halts r_p1_kinds r_p1_grades x3 x4 kx_15 n x5 x6 i_t i_t_row r_t_row_kinds r_t_row_longs r_t_row_weights r_t_row_strengths r_t_row_wears r_t_row_pushes r_t_row_helpers r_t_row_bears → Bd D A s.heap (wd_Free_findBorne k a_t d_t i_t a_p1 d_p1 i_p1 d_t_row i_t_row r_p1_halts r_p1_first r_t_row_kinds r_t_row_longs r_t_row_weights r_t_row_strengths r_t_row_wears r_t_row_pushes r_t_row_helpers r_p1_kinds r_p1_grades r_t_row_bears) H locs → lv_has ls 9 [(0, .ref a_t), (1, .ref a_p1), (3, .int x3), (4, .int x4), (5, .int x5), (6, .int x6)] → W p l e { frames := 4, cells := 0, slots := 0, locals := 90 } s m ([.ref a_t, .ref a_p1, .int n2, .int n3, .int n4] : List Value).toArray below meth c H locs 0 0 (Ei below (fun r w => (r = 0 ∨ r = 1) ∧ (∃ (i_t : Nat → Int32), ∃ (i_t_row : Nat → Int32), ∃ (r_t_row_kinds : Nat → Int32), ∃ (r_t_row_longs : Nat → Int32), ∃ (r_t_row_weights : Nat → Int32), ∃ (r_t_row_strengths : Nat → Int32), ∃ (r_t_row_wears : Nat → Int32), ∃ (r_t_row_pushes : Nat → Int32), ∃ (r_t_row_helpers : Nat → Int32), ∃ (r_t_row_bears : Nat → Int32), w = (wd_Free_findBorne k a_t d_t i_t a_p1 d_p1 i_p1 d_t_row i_t_row r_p1_halts r_p1_first r_t_row_kinds r_t_row_longs r_t_row_weights r_t_row_strengths r_t_row_wears r_t_row_pushes r_t_row_helpers r_p1_kinds r_p1_grades r_t_row_bears) ∧ Q r i_t i_t_row r_t_row_kinds r_t_row_longs r_t_row_weights r_t_row_strengths r_t_row_wears r_t_row_pushes r_t_row_helpers r_t_row_bears)) D k A ([.ref a_t, .ref a_p1, .int n2, .int n3, .int n4] : List Value).toArray s 0 0) (F0 m 15 ls []) := by
  intro n
  induction n with
  | zero => intro x5 x6 i_t i_t_row r_t_row_kinds r_t_row_longs r_t_row_weights r_t_row_strengths r_t_row_wears r_t_row_pushes r_t_row_helpers r_t_row_bears H locs ls hf; exact absurd hf (fun h => h)
  | succ n ih => exact bt_Free_findBorne_15 F hr hlk hA hkx_15 ih

set_option maxRecDepth 100000 in
set_option maxHeartbeats 4000000 in
theorem c_Free_findBorne (l : Launch) (D : va_G) (k : Nat → ClassId) (a_t : Nat) (d_t : Nat → Nat) (i_t : Nat → Int32) (a_p1 : Nat) (d_p1 : Nat → Nat) (i_p1 : Nat → Int32) (d_t_row : Nat → Nat) (i_t_row : Nat → Int32) (r_p1_halts : Nat → Int32) (r_p1_first : Nat → Int32) (r_t_row_kinds : Nat → Int32) (r_t_row_longs : Nat → Int32) (r_t_row_weights : Nat → Int32) (r_t_row_strengths : Nat → Int32) (r_t_row_wears : Nat → Int32) (r_t_row_pushes : Nat → Int32) (r_t_row_helpers : Nat → Int32) (r_p1_kinds : Nat → Int32) (r_p1_grades : Nat → Int32) (r_t_row_bears : Nat → Int32) (n2 : Int32) (n3 : Int32) (n4 : Int32) (Q : Int32 → (Nat → Int32) → (Nat → Int32) → (Nat → Int32) → (Nat → Int32) → (Nat → Int32) → (Nat → Int32) → (Nat → Int32) → (Nat → Int32) → (Nat → Int32) → (Nat → Int32) → Prop)  (hf : w_Free_findBorne i_t i_p1 i_t_row r_p1_halts r_p1_first r_t_row_kinds r_t_row_longs r_t_row_weights r_t_row_strengths r_t_row_wears r_t_row_pushes r_t_row_helpers r_p1_kinds r_p1_grades r_t_row_bears n2 n3 n4 Q) : CtI l yX0_findBorne cX0_findBorne 9 (some .boolean) 4 90 0 0 D k [.ref a_t, .ref a_p1, .int n2, .int n3, .int n4] (wd_Free_findBorne k a_t d_t i_t a_p1 d_p1 i_p1 d_t_row i_t_row r_p1_halts r_p1_first r_t_row_kinds r_t_row_longs r_t_row_weights r_t_row_strengths r_t_row_wears r_t_row_pushes r_t_row_helpers r_p1_kinds r_p1_grades r_t_row_bears) (fun r w => (r = 0 ∨ r = 1) ∧ (∃ (i_t : Nat → Int32), ∃ (i_t_row : Nat → Int32), ∃ (r_t_row_kinds : Nat → Int32), ∃ (r_t_row_longs : Nat → Int32), ∃ (r_t_row_weights : Nat → Int32), ∃ (r_t_row_strengths : Nat → Int32), ∃ (r_t_row_wears : Nat → Int32), ∃ (r_t_row_pushes : Nat → Int32), ∃ (r_t_row_helpers : Nat → Int32), ∃ (r_t_row_bears : Nat → Int32), w = (wd_Free_findBorne k a_t d_t i_t a_p1 d_p1 i_p1 d_t_row i_t_row r_p1_halts r_p1_first r_t_row_kinds r_t_row_longs r_t_row_weights r_t_row_strengths r_t_row_wears r_t_row_pushes r_t_row_helpers r_p1_kinds r_p1_grades r_t_row_bears) ∧ Q r i_t i_t_row r_t_row_kinds r_t_row_longs r_t_row_weights r_t_row_strengths r_t_row_wears r_t_row_pushes r_t_row_helpers r_t_row_bears)) := by
  refine CtI.of (by decide) (Nat.le_of_ble_eq_true rfl) ?_
  intro p e s m below meth c A F hr hlk hnm hA hB ls hl
  have hx := F.x
  have hb := F.b
  unfold w_Free_findBorne at hf
  replace hl : lv_has ls 9 [(0, .ref a_t), (1, .ref a_p1), (2, .int n2), (3, .int n3), (4, .int n4)] := hl
  refine lv_aload_n hx hb dX0_findBorne_0 rfl (lv_at hl 0 rfl) ?_
  refine g_get (w := .ref (d_t 0)) F hB 0 rfl fl_RX0_12 rfl dX0_findBorne_1 ?_
  refine lv_aload_n hx hb dX0_findBorne_4 rfl (lv_at hl 1 rfl) ?_
  refine lv_iload_n hx hb dX0_findBorne_5 rfl (lv_at hl 2 rfl) ?_
  refine k_vv (wr := [(a_t, ob 0 (rfd d_t) i_t j0), ((d_p1 0), ai k 400 r_p1_grades), ((d_t_row 7), ai k 20 r_t_row_bears)]) (rest := []) F hA hB (c_Row_travel l D k (d_t 0) d_t_row i_t_row a_p1 d_p1 i_p1 r_p1_halts r_p1_first r_t_row_kinds r_t_row_longs r_t_row_weights r_t_row_strengths r_t_row_wears r_t_row_pushes r_t_row_helpers r_p1_kinds n2 _  hf) ml_RX0_25 mv_yX8_travel [2, 1, 3, 4, 5, 6, 7, 8, 9, 10, 11, 12] [0, 13, 14] rfl rfl (by decide) (by decide) (by decide) 2 rfl rfl rfl hl.1 rfl (Nat.le_of_ble_eq_true rfl) ⟨Nat.le_of_ble_eq_true rfl, Nat.le_of_ble_eq_true rfl⟩ ⟨Nat.le_of_ble_eq_true rfl, Nat.le_of_ble_eq_true rfl⟩ dX0_findBorne_6 (fun w1 H locs hq hB => ?_)
  obtain ⟨i_t_row_1, r_t_row_kinds_2, r_t_row_longs_3, r_t_row_weights_4, r_t_row_strengths_5, r_t_row_wears_6, r_t_row_pushes_7, r_t_row_helpers_8, rfl, hf⟩ := hq
  replace hB : Bd D A s.heap (wd_Free_findBorne k a_t d_t i_t a_p1 d_p1 i_p1 d_t_row i_t_row_1 r_p1_halts r_p1_first r_t_row_kinds_2 r_t_row_longs_3 r_t_row_weights_4 r_t_row_strengths_5 r_t_row_wears_6 r_t_row_pushes_7 r_t_row_helpers_8 r_p1_kinds r_p1_grades r_t_row_bears) H locs := hB.sub [0, 4, 3, 5, 6, 7, 8, 9, 10, 11, 12, 13, 14, 1, 2] (by decide) rfl
  refine lv_iconst (v := 0) hx hb dX0_findBorne_9 (by decide) ?_
  refine lv_istore (lv' := [(5, .int (0 : Int32)), (0, .ref a_t), (1, .ref a_p1), (2, .int n2), (3, .int n3), (4, .int n4)]) hx hb dX0_findBorne_10 hl (by decide) rfl (fun ls hl => ?_)
  refine lv_iload_n hx hb dX0_findBorne_12 rfl (lv_at hl 3 rfl) ?_
  refine lv_istore (lv' := [(6, .int n2), (5, .int (0 : Int32)), (0, .ref a_t), (1, .ref a_p1), (2, .int n2), (3, .int n3), (4, .int n4)]) hx hb dX0_findBorne_13 hl (by decide) rfl (fun ls hl => ?_)
  obtain ⟨n_41, hf⟩ := hf
  refine lt_Free_findBorne_15 F hr hlk hA (fun x5_29 i_t_30 i_t_row_31 r_t_row_kinds_32 r_t_row_longs_33 r_t_row_weights_34 r_t_row_strengths_35 r_t_row_wears_36 r_t_row_pushes_37 r_t_row_helpers_38 r_t_row_bears_39 H locs ls hf hB hl => ?_) n_41 _ _ _ _ _ _ _ _ _ _ _ _ _ _ _ hf hB (lv_sub hl [2, 3, 5, 6, 1, 0] rfl)
  refine lv_iload hx hb dX0_findBorne_138 (lv_at hl 0 rfl) ?_
  obtain ⟨h_40, hf⟩ := hf
  exact r_z F hr hlk hB h_40 ⟨h_40, _, _, _, _, _, _, _, _, _, _, rfl, hf⟩ dX0_findBorne_140

/-! LongTrain.Free.findSpan -/
set_option maxRecDepth 100000 in
set_option maxHeartbeats 4000000 in
theorem bt_Free_findSpan_21 {p : Program} {l : Launch} {e : Env} {s : State} {m : MethodId} {below : List Frame} {meth : Method} {c : Code} {A : Nat → Prop} {D : va_G} {k : Nat → ClassId} {a_t : Nat} {d_t : Nat → Nat} {a_p1 : Nat} {d_p1 : Nat → Nat} {i_p1 : Nat → Int32} {d_t_row : Nat → Nat} {r_p1_halts : Nat → Int32} {r_p1_first : Nat → Int32} {r_p1_kinds : Nat → Int32} {n2 : Int32} {n3 : Int32} {Q : (Nat → Int32) → (Nat → Int32) → (Nat → Int32) → (Nat → Int32) → (Nat → Int32) → (Nat → Int32) → (Nat → Int32) → (Nat → Int32) → (Nat → Int32) → Prop}  {x2 : Int32} {x3 : Int32} {kx_21 : (Nat → Int32) → (Nat → Int32) → (Nat → Int32) → (Nat → Int32) → (Nat → Int32) → (Nat → Int32) → (Nat → Int32) → (Nat → Int32) → (Nat → Int32) → Prop} {kr_21 : (Int32) → (Nat → Int32) → (Nat → Int32) → (Nat → Int32) → (Nat → Int32) → (Nat → Int32) → (Nat → Int32) → (Nat → Int32) → (Nat → Int32) → (Nat → Int32) → Prop} (F : Fx p m c cX0_findSpan 5 s ([.ref a_t, .ref a_p1, .int n2, .int n3] : List Value).toArray RX0 D k) (hr : meth.sig.returnType = none) (hlk : meth.locks = false) (hA : ∀ q : Nat, s.heap.size ≤ q → A q) (hkx_21 : ∀ (i_t : Nat → Int32) (i_t_row : Nat → Int32) (r_t_row_kinds : Nat → Int32) (r_t_row_longs : Nat → Int32) (r_t_row_weights : Nat → Int32) (r_t_row_strengths : Nat → Int32) (r_t_row_wears : Nat → Int32) (r_t_row_pushes : Nat → Int32) (r_t_row_helpers : Nat → Int32) (H : Heap) (locs : List Loc) (ls : Array Slot), kx_21 i_t i_t_row r_t_row_kinds r_t_row_longs r_t_row_weights r_t_row_strengths r_t_row_wears r_t_row_pushes r_t_row_helpers → Bd D A s.heap (wd_Free_findSpan k a_t d_t i_t a_p1 d_p1 i_p1 d_t_row i_t_row r_p1_halts r_p1_first r_t_row_kinds r_t_row_longs r_t_row_weights r_t_row_strengths r_t_row_wears r_t_row_pushes r_t_row_helpers r_p1_kinds) H locs → lv_has ls 5 [] → W p l e { frames := 3, cells := 0, slots := 0, locals := 68 } s m ([.ref a_t, .ref a_p1, .int n2, .int n3] : List Value).toArray below meth c H locs 0 0 (Ev below (fun w => ∃ (i_t : Nat → Int32), ∃ (i_t_row : Nat → Int32), ∃ (r_t_row_kinds : Nat → Int32), ∃ (r_t_row_longs : Nat → Int32), ∃ (r_t_row_weights : Nat → Int32), ∃ (r_t_row_strengths : Nat → Int32), ∃ (r_t_row_wears : Nat → Int32), ∃ (r_t_row_pushes : Nat → Int32), ∃ (r_t_row_helpers : Nat → Int32), w = (wd_Free_findSpan k a_t d_t i_t a_p1 d_p1 i_p1 d_t_row i_t_row r_p1_halts r_p1_first r_t_row_kinds r_t_row_longs r_t_row_weights r_t_row_strengths r_t_row_wears r_t_row_pushes r_t_row_helpers r_p1_kinds) ∧ Q i_t i_t_row r_t_row_kinds r_t_row_longs r_t_row_weights r_t_row_strengths r_t_row_wears r_t_row_pushes r_t_row_helpers) D k A ([.ref a_t, .ref a_p1, .int n2, .int n3] : List Value).toArray s 0 0) (F0 m 104 ls [])) (hkr_21 : ∀ (x4 : Int32) (i_t : Nat → Int32) (i_t_row : Nat → Int32) (r_t_row_kinds : Nat → Int32) (r_t_row_longs : Nat → Int32) (r_t_row_weights : Nat → Int32) (r_t_row_strengths : Nat → Int32) (r_t_row_wears : Nat → Int32) (r_t_row_pushes : Nat → Int32) (r_t_row_helpers : Nat → Int32) (H : Heap) (locs : List Loc) (ls : Array Slot), kr_21 x4 i_t i_t_row r_t_row_kinds r_t_row_longs r_t_row_weights r_t_row_strengths r_t_row_wears r_t_row_pushes r_t_row_helpers → Bd D A s.heap (wd_Free_findSpan k a_t d_t i_t a_p1 d_p1 i_p1 d_t_row i_t_row r_p1_halts r_p1_first r_t_row_kinds r_t_row_longs r_t_row_weights r_t_row_strengths r_t_row_wears r_t_row_pushes r_t_row_helpers r_p1_kinds) H locs → lv_has ls 5 [(0, .ref a_t), (1, .ref a_p1), (2, .int x2), (3, .int x3), (4, .int x4)] → W p l e { frames := 3, cells := 0, slots := 0, locals := 68 } s m ([.ref a_t, .ref a_p1, .int n2, .int n3] : List Value).toArray below meth c H locs 0 0 (Ev below (fun w => ∃ (i_t : Nat → Int32), ∃ (i_t_row : Nat → Int32), ∃ (r_t_row_kinds : Nat → Int32), ∃ (r_t_row_longs : Nat → Int32), ∃ (r_t_row_weights : Nat → Int32), ∃ (r_t_row_strengths : Nat → Int32), ∃ (r_t_row_wears : Nat → Int32), ∃ (r_t_row_pushes : Nat → Int32), ∃ (r_t_row_helpers : Nat → Int32), w = (wd_Free_findSpan k a_t d_t i_t a_p1 d_p1 i_p1 d_t_row i_t_row r_p1_halts r_p1_first r_t_row_kinds r_t_row_longs r_t_row_weights r_t_row_strengths r_t_row_wears r_t_row_pushes r_t_row_helpers r_p1_kinds) ∧ Q i_t i_t_row r_t_row_kinds r_t_row_longs r_t_row_weights r_t_row_strengths r_t_row_wears r_t_row_pushes r_t_row_helpers) D k A ([.ref a_t, .ref a_p1, .int n2, .int n3] : List Value).toArray s 0 0) (F0 m 21 ls [])) :
    ∀ (x4 : Int32) (i_t : Nat → Int32) (i_t_row : Nat → Int32) (r_t_row_kinds : Nat → Int32) (r_t_row_longs : Nat → Int32) (r_t_row_weights : Nat → Int32) (r_t_row_strengths : Nat → Int32) (r_t_row_wears : Nat → Int32) (r_t_row_pushes : Nat → Int32) (r_t_row_helpers : Nat → Int32) (H : Heap) (locs : List Loc) (ls : Array Slot), b_Free_findSpan_21 i_p1 r_p1_halts r_p1_kinds x2 x3 kx_21 kr_21 x4 i_t i_t_row r_t_row_kinds r_t_row_longs r_t_row_weights r_t_row_strengths r_t_row_wears r_t_row_pushes r_t_row_helpers → Bd D A s.heap (wd_Free_findSpan k a_t d_t i_t a_p1 d_p1 i_p1 d_t_row i_t_row r_p1_halts r_p1_first r_t_row_kinds r_t_row_longs r_t_row_weights r_t_row_strengths r_t_row_wears r_t_row_pushes r_t_row_helpers r_p1_kinds) H locs → lv_has ls 5 [(0, .ref a_t), (1, .ref a_p1), (2, .int x2), (3, .int x3), (4, .int x4)] → W p l e { frames := 3, cells := 0, slots := 0, locals := 68 } s m ([.ref a_t, .ref a_p1, .int n2, .int n3] : List Value).toArray below meth c H locs 0 0 (Ev below (fun w => ∃ (i_t : Nat → Int32), ∃ (i_t_row : Nat → Int32), ∃ (r_t_row_kinds : Nat → Int32), ∃ (r_t_row_longs : Nat → Int32), ∃ (r_t_row_weights : Nat → Int32), ∃ (r_t_row_strengths : Nat → Int32), ∃ (r_t_row_wears : Nat → Int32), ∃ (r_t_row_pushes : Nat → Int32), ∃ (r_t_row_helpers : Nat → Int32), w = (wd_Free_findSpan k a_t d_t i_t a_p1 d_p1 i_p1 d_t_row i_t_row r_p1_halts r_p1_first r_t_row_kinds r_t_row_longs r_t_row_weights r_t_row_strengths r_t_row_wears r_t_row_pushes r_t_row_helpers r_p1_kinds) ∧ Q i_t i_t_row r_t_row_kinds r_t_row_longs r_t_row_weights r_t_row_strengths r_t_row_wears r_t_row_pushes r_t_row_helpers) D k A ([.ref a_t, .ref a_p1, .int n2, .int n3] : List Value).toArray s 0 0) (F0 m 21 ls []) := by
  have hx := F.x
  have hb := F.b
  intro x4 i_t i_t_row r_t_row_kinds r_t_row_longs r_t_row_weights r_t_row_strengths r_t_row_wears r_t_row_pushes r_t_row_helpers H locs ls hf hB hl
  unfold b_Free_findSpan_21 at hf
  refine lv_iload hx hb dX0_findSpan_21 (lv_at hl 4 rfl) ?_
  refine lv_aload_n hx hb dX0_findSpan_23 rfl (lv_at hl 1 rfl) ?_
  refine g_get (w := .int (i_p1 1)) F hB 1 rfl fl_RX0_62 rfl dX0_findSpan_24 ?_
  refine lv_icmp_ge (tgt := 104) hx hb dX0_findSpan_27 (by decide) (fun c_20 => ?_) (fun c_20 => ?_)
  · replace hf := hf.1 c_20
    exact hkx_21 _ _ _ _ _ _ _ _ _ _ _ _ hf hB (lv_sub hl [] rfl)
  · replace hf := hf.2 c_20
    refine lv_aload_n hx hb dX0_findSpan_30 rfl (lv_at hl 0 rfl) ?_
    refine g_get (w := .ref (d_t 0)) F hB 0 rfl fl_RX0_12 rfl dX0_findSpan_31 ?_
    refine lv_iload hx hb dX0_findSpan_34 (lv_at hl 4 rfl) ?_
    refine g_puti F hB 2 rfl fl_RX0_29 rfl (wd_Free_findSpan k a_t d_t i_t a_p1 d_p1 i_p1 d_t_row (upd i_t_row 10 x4) r_p1_halts r_p1_first r_t_row_kinds r_t_row_longs r_t_row_weights r_t_row_strengths r_t_row_wears r_t_row_pushes r_t_row_helpers r_p1_kinds) rfl dX0_findSpan_36 (fun H locs hB => ?_)
    refine lv_aload_n hx hb dX0_findSpan_39 rfl (lv_at hl 0 rfl) ?_
    refine g_get (w := .ref (d_t 0)) F hB 0 rfl fl_RX0_12 rfl dX0_findSpan_40 ?_
    refine lv_aload_n hx hb dX0_findSpan_43 rfl (lv_at hl 1 rfl) ?_
    refine k_vv (wr := [(a_t, ob 0 (rfd d_t) i_t j0), ((d_p1 8), ai k 8 r_p1_first)]) (rest := []) F hA hB (c_Row_takeOn l D k (d_t 0) d_t_row (upd i_t_row 10 x4) a_p1 d_p1 i_p1 r_p1_halts r_t_row_kinds r_t_row_longs r_t_row_weights r_t_row_strengths r_t_row_wears r_t_row_pushes r_t_row_helpers r_p1_kinds _  hf) ml_RX0_52 mv_yX8_takeOn [2, 1, 3, 5, 6, 7, 8, 9, 10, 11, 12] [0, 4] rfl rfl (by decide) (by decide) (by decide) 2 rfl rfl rfl hl.1 rfl (Nat.le_of_ble_eq_true rfl) ⟨Nat.le_of_ble_eq_true rfl, Nat.le_of_ble_eq_true rfl⟩ ⟨Nat.le_of_ble_eq_true rfl, Nat.le_of_ble_eq_true rfl⟩ dX0_findSpan_44 (fun w1 H locs hq hB => ?_)
    obtain ⟨i_t_row_9, r_t_row_kinds_10, r_t_row_longs_11, r_t_row_weights_12, r_t_row_strengths_13, r_t_row_wears_14, r_t_row_pushes_15, r_t_row_helpers_16, rfl, hf⟩ := hq
    replace hB : Bd D A s.heap (wd_Free_findSpan k a_t d_t i_t a_p1 d_p1 i_p1 d_t_row i_t_row_9 r_p1_halts r_p1_first r_t_row_kinds_10 r_t_row_longs_11 r_t_row_weights_12 r_t_row_strengths_13 r_t_row_wears_14 r_t_row_pushes_15 r_t_row_helpers_16 r_p1_kinds) H locs := hB.sub [0, 3, 2, 4, 1, 5, 6, 7, 8, 9, 10, 11, 12] (by decide) rfl
    refine lv_iload hx hb dX0_findSpan_47 (lv_at hl 4 rfl) ?_
    refine lv_iload_n hx hb dX0_findSpan_49 rfl (lv_at hl 3 rfl) ?_
    refine lv_icmp_lt (tgt := 98) hx hb dX0_findSpan_50 (by decide) (fun c_19 => ?_) (fun c_19 => ?_)
    · replace hf := hf.1 c_19
      refine lv_iinc (v := (x4 + 1)) (lv' := [(4, .int (x4 + 1)), (0, .ref a_t), (1, .ref a_p1), (2, .int x2), (3, .int x3)]) (k := 4) hx hb dX0_findSpan_98 hl rfl rfl (by decide) rfl (fun ls hl => ?_)
      refine lv_goto (tgt := 21) hx hb dX0_findSpan_101 (by decide) ?_
      exact hkr_21 _ _ _ _ _ _ _ _ _ _ _ _ _ hf hB (lv_sub hl [1, 2, 3, 4, 0] rfl)
    · replace hf := hf.2 c_19
      refine lv_iload hx hb dX0_findSpan_53 (lv_at hl 4 rfl) ?_
      refine lv_aload_n hx hb dX0_findSpan_55 rfl (lv_at hl 0 rfl) ?_
      refine g_get (w := .ref (d_t 0)) F hB 0 rfl fl_RX0_12 rfl dX0_findSpan_56 ?_
      refine g_get (w := .int (i_t_row_9 9)) F hB 2 rfl fl_RX0_67 rfl dX0_findSpan_59 ?_
      refine lv_isub hx hb dX0_findSpan_62 ?_
      refine lv_iload_n hx hb dX0_findSpan_63 rfl (lv_at hl 2 rfl) ?_
      refine lv_icmp_gt (tgt := 98) hx hb dX0_findSpan_64 (by decide) (fun c_18 => ?_) (fun c_18 => ?_)
      · replace hf := hf.1 c_18
        refine lv_iinc (v := (x4 + 1)) (lv' := [(4, .int (x4 + 1)), (0, .ref a_t), (1, .ref a_p1), (2, .int x2), (3, .int x3)]) (k := 4) hx hb dX0_findSpan_98 hl rfl rfl (by decide) rfl (fun ls hl => ?_)
        refine lv_goto (tgt := 21) hx hb dX0_findSpan_101 (by decide) ?_
        exact hkr_21 _ _ _ _ _ _ _ _ _ _ _ _ _ hf hB (lv_sub hl [1, 2, 3, 4, 0] rfl)
      · replace hf := hf.2 c_18
        refine lv_aload_n hx hb dX0_findSpan_67 rfl (lv_at hl 0 rfl) ?_
        refine lv_dup hx hb dX0_findSpan_68 rfl ?_
        refine g_get (w := .int (i_t 4)) F hB 0 rfl fl_RX0_56 rfl dX0_findSpan_69 ?_
        refine lv_iconst (v := 1) hx hb dX0_findSpan_72 (by decide) ?_
        refine lv_iadd hx hb dX0_findSpan_73 ?_
        refine g_puti F hB 0 rfl fl_RX0_56 rfl (wd_Free_findSpan k a_t d_t (upd i_t 4 ((i_t 4) + (1 : Int32))) a_p1 d_p1 i_p1 d_t_row i_t_row_9 r_p1_halts r_p1_first r_t_row_kinds_10 r_t_row_longs_11 r_t_row_weights_12 r_t_row_strengths_13 r_t_row_wears_14 r_t_row_pushes_15 r_t_row_helpers_16 r_p1_kinds) rfl dX0_findSpan_74 (fun H locs hB => ?_)
        refine lv_aload_n hx hb dX0_findSpan_77 rfl (lv_at hl 0 rfl) ?_
        refine lv_aload_n hx hb dX0_findSpan_78 rfl (lv_at hl 0 rfl) ?_
        refine g_get (w := .int ((upd i_t 4 ((i_t 4) + (1 : Int32))) 2)) F hB 0 rfl fl_RX0_46 rfl dX0_findSpan_79 ?_
        refine lv_iconst (v := -1) hx hb dX0_findSpan_82 (by decide) ?_
        refine lv_icmp_ne (tgt := 91) hx hb dX0_findSpan_83 (by decide) (fun c_17 => ?_) (fun c_17 => ?_)
        · replace hf := hf.1 c_17
          refine lv_aload_n hx hb dX0_findSpan_91 rfl (lv_at hl 0 rfl) ?_
          refine g_get (w := .int ((upd i_t 4 ((i_t 4) + (1 : Int32))) 2)) F hB 0 rfl fl_RX0_46 rfl dX0_findSpan_92 ?_
          refine g_puti F hB 0 rfl fl_RX0_46 rfl (wd_Free_findSpan k a_t d_t (upd (upd i_t 4 ((i_t 4) + (1 : Int32))) 2 ((upd i_t 4 ((i_t 4) + (1 : Int32))) 2)) a_p1 d_p1 i_p1 d_t_row i_t_row_9 r_p1_halts r_p1_first r_t_row_kinds_10 r_t_row_longs_11 r_t_row_weights_12 r_t_row_strengths_13 r_t_row_wears_14 r_t_row_pushes_15 r_t_row_helpers_16 r_p1_kinds) rfl dX0_findSpan_95 (fun H locs hB => ?_)
          refine lv_iinc (v := (x4 + 1)) (lv' := [(4, .int (x4 + 1)), (0, .ref a_t), (1, .ref a_p1), (2, .int x2), (3, .int x3)]) (k := 4) hx hb dX0_findSpan_98 hl rfl rfl (by decide) rfl (fun ls hl => ?_)
          refine lv_goto (tgt := 21) hx hb dX0_findSpan_101 (by decide) ?_
          exact hkr_21 _ _ _ _ _ _ _ _ _ _ _ _ _ hf hB (lv_sub hl [1, 2, 3, 4, 0] rfl)
        · replace hf := hf.2 c_17
          refine lv_iload hx hb dX0_findSpan_86 (lv_at hl 4 rfl) ?_
          refine lv_goto (tgt := 95) hx hb dX0_findSpan_88 (by decide) ?_
          refine g_puti F hB 0 rfl fl_RX0_46 rfl (wd_Free_findSpan k a_t d_t (upd (upd i_t 4 ((i_t 4) + (1 : Int32))) 2 x4) a_p1 d_p1 i_p1 d_t_row i_t_row_9 r_p1_halts r_p1_first r_t_row_kinds_10 r_t_row_longs_11 r_t_row_weights_12 r_t_row_strengths_13 r_t_row_wears_14 r_t_row_pushes_15 r_t_row_helpers_16 r_p1_kinds) rfl dX0_findSpan_95 (fun H locs hB => ?_)
          refine lv_iinc (v := (x4 + 1)) (lv' := [(4, .int (x4 + 1)), (0, .ref a_t), (1, .ref a_p1), (2, .int x2), (3, .int x3)]) (k := 4) hx hb dX0_findSpan_98 hl rfl rfl (by decide) rfl (fun ls hl => ?_)
          refine lv_goto (tgt := 21) hx hb dX0_findSpan_101 (by decide) ?_
          exact hkr_21 _ _ _ _ _ _ _ _ _ _ _ _ _ hf hB (lv_sub hl [1, 2, 3, 4, 0] rfl)

set_option maxRecDepth 100000 in
set_option maxHeartbeats 4000000 in
theorem lt_Free_findSpan_21 {p : Program} {l : Launch} {e : Env} {s : State} {m : MethodId} {below : List Frame} {meth : Method} {c : Code} {A : Nat → Prop} {D : va_G} {k : Nat → ClassId} {a_t : Nat} {d_t : Nat → Nat} {a_p1 : Nat} {d_p1 : Nat → Nat} {i_p1 : Nat → Int32} {d_t_row : Nat → Nat} {r_p1_halts : Nat → Int32} {r_p1_first : Nat → Int32} {r_p1_kinds : Nat → Int32} {n2 : Int32} {n3 : Int32} {Q : (Nat → Int32) → (Nat → Int32) → (Nat → Int32) → (Nat → Int32) → (Nat → Int32) → (Nat → Int32) → (Nat → Int32) → (Nat → Int32) → (Nat → Int32) → Prop}  {x2 : Int32} {x3 : Int32} {kx_21 : (Nat → Int32) → (Nat → Int32) → (Nat → Int32) → (Nat → Int32) → (Nat → Int32) → (Nat → Int32) → (Nat → Int32) → (Nat → Int32) → (Nat → Int32) → Prop} (F : Fx p m c cX0_findSpan 5 s ([.ref a_t, .ref a_p1, .int n2, .int n3] : List Value).toArray RX0 D k) (hr : meth.sig.returnType = none) (hlk : meth.locks = false) (hA : ∀ q : Nat, s.heap.size ≤ q → A q) (hkx_21 : ∀ (i_t : Nat → Int32) (i_t_row : Nat → Int32) (r_t_row_kinds : Nat → Int32) (r_t_row_longs : Nat → Int32) (r_t_row_weights : Nat → Int32) (r_t_row_strengths : Nat → Int32) (r_t_row_wears : Nat → Int32) (r_t_row_pushes : Nat → Int32) (r_t_row_helpers : Nat → Int32) (H : Heap) (locs : List Loc) (ls : Array Slot), kx_21 i_t i_t_row r_t_row_kinds r_t_row_longs r_t_row_weights r_t_row_strengths r_t_row_wears r_t_row_pushes r_t_row_helpers → Bd D A s.heap (wd_Free_findSpan k a_t d_t i_t a_p1 d_p1 i_p1 d_t_row i_t_row r_p1_halts r_p1_first r_t_row_kinds r_t_row_longs r_t_row_weights r_t_row_strengths r_t_row_wears r_t_row_pushes r_t_row_helpers r_p1_kinds) H locs → lv_has ls 5 [] → W p l e { frames := 3, cells := 0, slots := 0, locals := 68 } s m ([.ref a_t, .ref a_p1, .int n2, .int n3] : List Value).toArray below meth c H locs 0 0 (Ev below (fun w => ∃ (i_t : Nat → Int32), ∃ (i_t_row : Nat → Int32), ∃ (r_t_row_kinds : Nat → Int32), ∃ (r_t_row_longs : Nat → Int32), ∃ (r_t_row_weights : Nat → Int32), ∃ (r_t_row_strengths : Nat → Int32), ∃ (r_t_row_wears : Nat → Int32), ∃ (r_t_row_pushes : Nat → Int32), ∃ (r_t_row_helpers : Nat → Int32), w = (wd_Free_findSpan k a_t d_t i_t a_p1 d_p1 i_p1 d_t_row i_t_row r_p1_halts r_p1_first r_t_row_kinds r_t_row_longs r_t_row_weights r_t_row_strengths r_t_row_wears r_t_row_pushes r_t_row_helpers r_p1_kinds) ∧ Q i_t i_t_row r_t_row_kinds r_t_row_longs r_t_row_weights r_t_row_strengths r_t_row_wears r_t_row_pushes r_t_row_helpers) D k A ([.ref a_t, .ref a_p1, .int n2, .int n3] : List Value).toArray s 0 0) (F0 m 104 ls [])) :
    ∀ n : Nat, ∀ (x4 : Int32) (i_t : Nat → Int32) (i_t_row : Nat → Int32) (r_t_row_kinds : Nat → Int32) (r_t_row_longs : Nat → Int32) (r_t_row_weights : Nat → Int32) (r_t_row_strengths : Nat → Int32) (r_t_row_wears : Nat → Int32) (r_t_row_pushes : Nat → Int32) (r_t_row_helpers : Nat → Int32) (H : Heap) (locs : List Loc) (ls : Array Slot), lp_Free_findSpan_21 i_p1 r_p1_halts r_p1_kinds x2 x3 kx_21 n x4 i_t i_t_row r_t_row_kinds r_t_row_longs r_t_row_weights r_t_row_strengths r_t_row_wears r_t_row_pushes r_t_row_helpers → Bd D A s.heap (wd_Free_findSpan k a_t d_t i_t a_p1 d_p1 i_p1 d_t_row i_t_row r_p1_halts r_p1_first r_t_row_kinds r_t_row_longs r_t_row_weights r_t_row_strengths r_t_row_wears r_t_row_pushes r_t_row_helpers r_p1_kinds) H locs → lv_has ls 5 [(0, .ref a_t), (1, .ref a_p1), (2, .int x2), (3, .int x3), (4, .int x4)] → W p l e { frames := 3, cells := 0, slots := 0, locals := 68 } s m ([.ref a_t, .ref a_p1, .int n2, .int n3] : List Value).toArray below meth c H locs 0 0 (Ev below (fun w => ∃ (i_t : Nat → Int32), ∃ (i_t_row : Nat → Int32), ∃ (r_t_row_kinds : Nat → Int32), ∃ (r_t_row_longs : Nat → Int32), ∃ (r_t_row_weights : Nat → Int32), ∃ (r_t_row_strengths : Nat → Int32), ∃ (r_t_row_wears : Nat → Int32), ∃ (r_t_row_pushes : Nat → Int32), ∃ (r_t_row_helpers : Nat → Int32), w = (wd_Free_findSpan k a_t d_t i_t a_p1 d_p1 i_p1 d_t_row i_t_row r_p1_halts r_p1_first r_t_row_kinds r_t_row_longs r_t_row_weights r_t_row_strengths r_t_row_wears r_t_row_pushes r_t_row_helpers r_p1_kinds) ∧ Q i_t i_t_row r_t_row_kinds r_t_row_longs r_t_row_weights r_t_row_strengths r_t_row_wears r_t_row_pushes r_t_row_helpers) D k A ([.ref a_t, .ref a_p1, .int n2, .int n3] : List Value).toArray s 0 0) (F0 m 21 ls []) := by
  intro n
  induction n with
  | zero => intro x4 i_t i_t_row r_t_row_kinds r_t_row_longs r_t_row_weights r_t_row_strengths r_t_row_wears r_t_row_pushes r_t_row_helpers H locs ls hf; exact absurd hf (fun h => h)
  | succ n ih => exact bt_Free_findSpan_21 F hr hlk hA hkx_21 ih

set_option maxRecDepth 100000 in
set_option maxHeartbeats 4000000 in
theorem c_Free_findSpan (l : Launch) (D : va_G) (k : Nat → ClassId) (a_t : Nat) (d_t : Nat → Nat) (i_t : Nat → Int32) (a_p1 : Nat) (d_p1 : Nat → Nat) (i_p1 : Nat → Int32) (d_t_row : Nat → Nat) (i_t_row : Nat → Int32) (r_p1_halts : Nat → Int32) (r_p1_first : Nat → Int32) (r_t_row_kinds : Nat → Int32) (r_t_row_longs : Nat → Int32) (r_t_row_weights : Nat → Int32) (r_t_row_strengths : Nat → Int32) (r_t_row_wears : Nat → Int32) (r_t_row_pushes : Nat → Int32) (r_t_row_helpers : Nat → Int32) (r_p1_kinds : Nat → Int32) (n2 : Int32) (n3 : Int32) (Q : (Nat → Int32) → (Nat → Int32) → (Nat → Int32) → (Nat → Int32) → (Nat → Int32) → (Nat → Int32) → (Nat → Int32) → (Nat → Int32) → (Nat → Int32) → Prop)  (hf : w_Free_findSpan i_t i_p1 i_t_row r_p1_halts r_p1_first r_t_row_kinds r_t_row_longs r_t_row_weights r_t_row_strengths r_t_row_wears r_t_row_pushes r_t_row_helpers r_p1_kinds n2 n3 Q) : CtV l yX0_findSpan cX0_findSpan 5 none 3 68 0 0 D k [.ref a_t, .ref a_p1, .int n2, .int n3] (wd_Free_findSpan k a_t d_t i_t a_p1 d_p1 i_p1 d_t_row i_t_row r_p1_halts r_p1_first r_t_row_kinds r_t_row_longs r_t_row_weights r_t_row_strengths r_t_row_wears r_t_row_pushes r_t_row_helpers r_p1_kinds) (fun w => ∃ (i_t : Nat → Int32), ∃ (i_t_row : Nat → Int32), ∃ (r_t_row_kinds : Nat → Int32), ∃ (r_t_row_longs : Nat → Int32), ∃ (r_t_row_weights : Nat → Int32), ∃ (r_t_row_strengths : Nat → Int32), ∃ (r_t_row_wears : Nat → Int32), ∃ (r_t_row_pushes : Nat → Int32), ∃ (r_t_row_helpers : Nat → Int32), w = (wd_Free_findSpan k a_t d_t i_t a_p1 d_p1 i_p1 d_t_row i_t_row r_p1_halts r_p1_first r_t_row_kinds r_t_row_longs r_t_row_weights r_t_row_strengths r_t_row_wears r_t_row_pushes r_t_row_helpers r_p1_kinds) ∧ Q i_t i_t_row r_t_row_kinds r_t_row_longs r_t_row_weights r_t_row_strengths r_t_row_wears r_t_row_pushes r_t_row_helpers) := by
  refine CtV.of (by decide) (Nat.le_of_ble_eq_true rfl) ?_
  intro p e s m below meth c A F hr hlk hnm hA hB ls hl
  have hx := F.x
  have hb := F.b
  unfold w_Free_findSpan at hf
  replace hl : lv_has ls 5 [(0, .ref a_t), (1, .ref a_p1), (2, .int n2), (3, .int n3)] := hl
  refine lv_aload_n hx hb dX0_findSpan_0 rfl (lv_at hl 0 rfl) ?_
  refine lv_iconst (v := 0) hx hb dX0_findSpan_1 (by decide) ?_
  refine g_puti F hB 0 rfl fl_RX0_56 rfl (wd_Free_findSpan k a_t d_t (upd i_t 4 (0 : Int32)) a_p1 d_p1 i_p1 d_t_row i_t_row r_p1_halts r_p1_first r_t_row_kinds r_t_row_longs r_t_row_weights r_t_row_strengths r_t_row_wears r_t_row_pushes r_t_row_helpers r_p1_kinds) rfl dX0_findSpan_2 (fun H locs hB => ?_)
  refine lv_aload_n hx hb dX0_findSpan_5 rfl (lv_at hl 0 rfl) ?_
  refine lv_iconst (v := -1) hx hb dX0_findSpan_6 (by decide) ?_
  refine g_puti F hB 0 rfl fl_RX0_46 rfl (wd_Free_findSpan k a_t d_t (upd (upd i_t 4 (0 : Int32)) 2 (-1 : Int32)) a_p1 d_p1 i_p1 d_t_row i_t_row r_p1_halts r_p1_first r_t_row_kinds r_t_row_longs r_t_row_weights r_t_row_strengths r_t_row_wears r_t_row_pushes r_t_row_helpers r_p1_kinds) rfl dX0_findSpan_7 (fun H locs hB => ?_)
  refine lv_aload_n hx hb dX0_findSpan_10 rfl (lv_at hl 0 rfl) ?_
  refine g_get (w := .ref (d_t 0)) F hB 0 rfl fl_RX0_12 rfl dX0_findSpan_11 ?_
  refine lv_aload_n hx hb dX0_findSpan_14 rfl (lv_at hl 1 rfl) ?_
  refine k_vv (wr := [(a_t, ob 0 (rfd d_t) (upd (upd i_t 4 (0 : Int32)) 2 (-1 : Int32)) j0)]) (rest := []) F hA hB (c_Row_begin l D k (d_t 0) d_t_row i_t_row a_p1 d_p1 i_p1 r_p1_halts r_p1_first r_t_row_kinds r_t_row_longs r_t_row_weights r_t_row_strengths r_t_row_wears r_t_row_pushes r_t_row_helpers r_p1_kinds _  hf) ml_RX0_59 mv_yX8_begin [2, 1, 3, 4, 5, 6, 7, 8, 9, 10, 11, 12] [0] rfl rfl (by decide) (by decide) (by decide) 2 rfl rfl rfl hl.1 rfl (Nat.le_of_ble_eq_true rfl) ⟨Nat.le_of_ble_eq_true rfl, Nat.le_of_ble_eq_true rfl⟩ ⟨Nat.le_of_ble_eq_true rfl, Nat.le_of_ble_eq_true rfl⟩ dX0_findSpan_15 (fun w1 H locs hq hB => ?_)
  obtain ⟨i_t_row_1, r_t_row_kinds_2, r_t_row_longs_3, r_t_row_weights_4, r_t_row_strengths_5, r_t_row_wears_6, r_t_row_pushes_7, r_t_row_helpers_8, rfl, hf⟩ := hq
  replace hB : Bd D A s.heap (wd_Free_findSpan k a_t d_t (upd (upd i_t 4 (0 : Int32)) 2 (-1 : Int32)) a_p1 d_p1 i_p1 d_t_row i_t_row_1 r_p1_halts r_p1_first r_t_row_kinds_2 r_t_row_longs_3 r_t_row_weights_4 r_t_row_strengths_5 r_t_row_wears_6 r_t_row_pushes_7 r_t_row_helpers_8 r_p1_kinds) H locs := hB.sub [0, 2, 1, 3, 4, 5, 6, 7, 8, 9, 10, 11, 12] (by decide) rfl
  refine lv_iconst (v := 0) hx hb dX0_findSpan_18 (by decide) ?_
  refine lv_istore (lv' := [(4, .int (0 : Int32)), (0, .ref a_t), (1, .ref a_p1), (2, .int n2), (3, .int n3)]) hx hb dX0_findSpan_19 hl (by decide) rfl (fun ls hl => ?_)
  obtain ⟨n_30, hf⟩ := hf
  refine lt_Free_findSpan_21 F hr hlk hA (fun i_t_21 i_t_row_22 r_t_row_kinds_23 r_t_row_longs_24 r_t_row_weights_25 r_t_row_strengths_26 r_t_row_wears_27 r_t_row_pushes_28 r_t_row_helpers_29 H locs ls hf hB hl => ?_) n_30 _ _ _ _ _ _ _ _ _ _ _ _ _ hf hB (lv_sub hl [1, 2, 3, 4, 0] rfl)
  exact r_v F hr hlk hB ⟨_, _, _, _, _, _, _, _, _, rfl, hf⟩ dX0_findSpan_104

/-! LongTrain.Free.start -/
set_option maxRecDepth 100000 in
set_option maxHeartbeats 4000000 in
theorem c_Free_start (l : Launch) (D : va_G) (k : Nat → ClassId) (a_t : Nat) (d_t : Nat → Nat) (i_t : Nat → Int32) (a_p1 : Nat) (d_p1 : Nat → Nat) (i_p1 : Nat → Int32) (d_t_row : Nat → Nat) (i_t_row : Nat → Int32) (r_p1_halts : Nat → Int32) (r_p1_first : Nat → Int32) (r_t_row_kinds : Nat → Int32) (r_t_row_longs : Nat → Int32) (r_t_row_weights : Nat → Int32) (r_t_row_strengths : Nat → Int32) (r_t_row_wears : Nat → Int32) (r_t_row_pushes : Nat → Int32) (r_t_row_helpers : Nat → Int32) (r_p1_kinds : Nat → Int32) (n2 : Int32) (Q : (Nat → Int32) → (Nat → Int32) → (Nat → Int32) → (Nat → Int32) → (Nat → Int32) → (Nat → Int32) → (Nat → Int32) → (Nat → Int32) → Prop)  (hf : w_Free_start i_p1 i_t_row r_p1_halts r_p1_first r_t_row_kinds r_t_row_longs r_t_row_weights r_t_row_strengths r_t_row_wears r_t_row_pushes r_t_row_helpers r_p1_kinds n2 Q) : CtV l yX0_start cX0_start 3 none 4 90 0 0 D k [.ref a_t, .ref a_p1, .int n2] (wd_Free_start k a_t d_t i_t a_p1 d_p1 i_p1 d_t_row i_t_row r_p1_halts r_p1_first r_t_row_kinds r_t_row_longs r_t_row_weights r_t_row_strengths r_t_row_wears r_t_row_pushes r_t_row_helpers r_p1_kinds) (fun w => ∃ (i_t_row : Nat → Int32), ∃ (r_t_row_kinds : Nat → Int32), ∃ (r_t_row_longs : Nat → Int32), ∃ (r_t_row_weights : Nat → Int32), ∃ (r_t_row_strengths : Nat → Int32), ∃ (r_t_row_wears : Nat → Int32), ∃ (r_t_row_pushes : Nat → Int32), ∃ (r_t_row_helpers : Nat → Int32), w = (wd_Free_start k a_t d_t i_t a_p1 d_p1 i_p1 d_t_row i_t_row r_p1_halts r_p1_first r_t_row_kinds r_t_row_longs r_t_row_weights r_t_row_strengths r_t_row_wears r_t_row_pushes r_t_row_helpers r_p1_kinds) ∧ Q i_t_row r_t_row_kinds r_t_row_longs r_t_row_weights r_t_row_strengths r_t_row_wears r_t_row_pushes r_t_row_helpers) := by
  refine CtV.of (by decide) (Nat.le_of_ble_eq_true rfl) ?_
  intro p e s m below meth c A F hr hlk hnm hA hB ls hl
  have hx := F.x
  have hb := F.b
  unfold w_Free_start at hf
  replace hl : lv_has ls 3 [(0, .ref a_t), (1, .ref a_p1), (2, .int n2)] := hl
  refine lv_aload_n hx hb dX0_start_0 rfl (lv_at hl 0 rfl) ?_
  refine g_get (w := .ref (d_t 0)) F hB 0 rfl fl_RX0_12 rfl dX0_start_1 ?_
  refine lv_aload_n hx hb dX0_start_4 rfl (lv_at hl 1 rfl) ?_
  refine lv_iload_n hx hb dX0_start_5 rfl (lv_at hl 2 rfl) ?_
  refine k_vv (wr := [(a_t, ob 0 (rfd d_t) i_t j0)]) (rest := []) F hA hB (c_Row_travel l D k (d_t 0) d_t_row i_t_row a_p1 d_p1 i_p1 r_p1_halts r_p1_first r_t_row_kinds r_t_row_longs r_t_row_weights r_t_row_strengths r_t_row_wears r_t_row_pushes r_t_row_helpers r_p1_kinds n2 _  hf) ml_RX0_25 mv_yX8_travel [2, 1, 3, 4, 5, 6, 7, 8, 9, 10, 11, 12] [0] rfl rfl (by decide) (by decide) (by decide) 2 rfl rfl rfl hl.1 rfl (Nat.le_of_ble_eq_true rfl) ⟨Nat.le_of_ble_eq_true rfl, Nat.le_of_ble_eq_true rfl⟩ ⟨Nat.le_of_ble_eq_true rfl, Nat.le_of_ble_eq_true rfl⟩ dX0_start_6 (fun w1 H locs hq hB => ?_)
  obtain ⟨i_t_row_1, r_t_row_kinds_2, r_t_row_longs_3, r_t_row_weights_4, r_t_row_strengths_5, r_t_row_wears_6, r_t_row_pushes_7, r_t_row_helpers_8, rfl, hf⟩ := hq
  replace hB : Bd D A s.heap (wd_Free_start k a_t d_t i_t a_p1 d_p1 i_p1 d_t_row i_t_row_1 r_p1_halts r_p1_first r_t_row_kinds_2 r_t_row_longs_3 r_t_row_weights_4 r_t_row_strengths_5 r_t_row_wears_6 r_t_row_pushes_7 r_t_row_helpers_8 r_p1_kinds) H locs := hB.sub [0, 2, 1, 3, 4, 5, 6, 7, 8, 9, 10, 11, 12] (by decide) rfl
  refine lv_aload_n hx hb dX0_start_9 rfl (lv_at hl 0 rfl) ?_
  refine g_get (w := .ref (d_t 0)) F hB 0 rfl fl_RX0_12 rfl dX0_start_10 ?_
  refine lv_aload_n hx hb dX0_start_13 rfl (lv_at hl 1 rfl) ?_
  refine k_vv (wr := [(a_t, ob 0 (rfd d_t) i_t j0), ((d_p1 8), ai k 8 r_p1_first)]) (rest := []) F hA hB (c_Row_takeOn l D k (d_t 0) d_t_row i_t_row_1 a_p1 d_p1 i_p1 r_p1_halts r_t_row_kinds_2 r_t_row_longs_3 r_t_row_weights_4 r_t_row_strengths_5 r_t_row_wears_6 r_t_row_pushes_7 r_t_row_helpers_8 r_p1_kinds _  hf) ml_RX0_52 mv_yX8_takeOn [2, 1, 3, 5, 6, 7, 8, 9, 10, 11, 12] [0, 4] rfl rfl (by decide) (by decide) (by decide) 2 rfl rfl rfl hl.1 rfl (Nat.le_of_ble_eq_true rfl) ⟨Nat.le_of_ble_eq_true rfl, Nat.le_of_ble_eq_true rfl⟩ ⟨Nat.le_of_ble_eq_true rfl, Nat.le_of_ble_eq_true rfl⟩ dX0_start_14 (fun w1 H locs hq hB => ?_)
  obtain ⟨i_t_row_9, r_t_row_kinds_10, r_t_row_longs_11, r_t_row_weights_12, r_t_row_strengths_13, r_t_row_wears_14, r_t_row_pushes_15, r_t_row_helpers_16, rfl, hf⟩ := hq
  replace hB : Bd D A s.heap (wd_Free_start k a_t d_t i_t a_p1 d_p1 i_p1 d_t_row i_t_row_9 r_p1_halts r_p1_first r_t_row_kinds_10 r_t_row_longs_11 r_t_row_weights_12 r_t_row_strengths_13 r_t_row_wears_14 r_t_row_pushes_15 r_t_row_helpers_16 r_p1_kinds) H locs := hB.sub [0, 3, 2, 4, 1, 5, 6, 7, 8, 9, 10, 11, 12] (by decide) rfl
  exact r_v F hr hlk hB ⟨_, _, _, _, _, _, _, _, rfl, hf⟩ dX0_start_17

/-! LongTrain.Free.gainAt -/
set_option maxRecDepth 100000 in
set_option maxHeartbeats 4000000 in
theorem c_Free_gainAt (l : Launch) (D : va_G) (k : Nat → ClassId) (a_t : Nat) (d_t : Nat → Nat) (i_t : Nat → Int32) (a_p2 : Nat) (d_p2 : Nat → Nat) (i_p2 : Nat → Int32) (d_t_row : Nat → Nat) (i_t_row : Nat → Int32) (r_t_row_longs : Nat → Int32) (r_p2_grades : Nat → Int32) (r_t_row_weights : Nat → Int32) (r_t_row_pushes : Nat → Int32) (r_t_row_bears : Nat → Int32) (n1 : Int32) (Q : Int32 → (Nat → Int32) → (Nat → Int32) → Prop)  (hf : w_Free_gainAt i_p2 i_t_row r_t_row_longs r_p2_grades r_t_row_weights r_t_row_pushes r_t_row_bears n1 Q) : CtI l yX0_gainAt cX0_gainAt 3 (some .int) 3 67 0 0 D k [.ref a_t, .int n1, .ref a_p2] (wd_Free_gainAt k a_t d_t i_t a_p2 d_p2 i_p2 d_t_row i_t_row r_t_row_longs r_p2_grades r_t_row_weights r_t_row_pushes r_t_row_bears) (fun r w => ∃ (i_t_row : Nat → Int32), ∃ (r_t_row_bears : Nat → Int32), w = (wd_Free_gainAt k a_t d_t i_t a_p2 d_p2 i_p2 d_t_row i_t_row r_t_row_longs r_p2_grades r_t_row_weights r_t_row_pushes r_t_row_bears) ∧ Q r i_t_row r_t_row_bears) := by
  refine CtI.of (by decide) (Nat.le_of_ble_eq_true rfl) ?_
  intro p e s m below meth c A F hr hlk hnm hA hB ls hl
  have hx := F.x
  have hb := F.b
  unfold w_Free_gainAt at hf
  replace hl : lv_has ls 3 [(0, .ref a_t), (1, .int n1), (2, .ref a_p2)] := hl
  refine lv_aload_n hx hb dX0_gainAt_0 rfl (lv_at hl 0 rfl) ?_
  refine g_get (w := .ref (d_t 0)) F hB 0 rfl fl_RX0_12 rfl dX0_gainAt_1 ?_
  refine lv_iload_n hx hb dX0_gainAt_4 rfl (lv_at hl 1 rfl) ?_
  refine g_puti F hB 2 rfl fl_RX0_29 rfl (wd_Free_gainAt k a_t d_t i_t a_p2 d_p2 i_p2 d_t_row (upd i_t_row 10 n1) r_t_row_longs r_p2_grades r_t_row_weights r_t_row_pushes r_t_row_bears) rfl dX0_gainAt_5 (fun H locs hB => ?_)
  refine lv_aload_n hx hb dX0_gainAt_8 rfl (lv_at hl 2 rfl) ?_
  refine g_get (w := .int (i_p2 10)) F hB 1 rfl fl_RX0_70 rfl dX0_gainAt_9 ?_
  refine lv_aload_n hx hb dX0_gainAt_12 rfl (lv_at hl 0 rfl) ?_
  refine g_get (w := .ref (d_t 0)) F hB 0 rfl fl_RX0_12 rfl dX0_gainAt_13 ?_
  refine lv_aload_n hx hb dX0_gainAt_16 rfl (lv_at hl 2 rfl) ?_
  refine k_vi (wr := [(a_t, ob 0 (rfd d_t) i_t j0)]) (rest := [.int (i_p2 10)]) F hA hB (c_Row_measure l D k (d_t 0) d_t_row (upd i_t_row 10 n1) a_p2 d_p2 i_p2 r_t_row_longs r_p2_grades r_t_row_weights r_t_row_pushes r_t_row_bears _  hf) ml_RX0_33 mv_yX8_measure [2, 1, 3, 4, 5, 6, 7] [0] rfl rfl (by decide) (by decide) (by decide) 2 rfl rfl rfl hl.1 rfl (Nat.le_of_ble_eq_true rfl) ⟨Nat.le_of_ble_eq_true rfl, Nat.le_of_ble_eq_true rfl⟩ ⟨Nat.le_of_ble_eq_true rfl, Nat.le_of_ble_eq_true rfl⟩ dX0_gainAt_17 (fun z_2 w1 H locs hq hB => ?_)
  obtain ⟨r_t_row_bears_1, rfl, hf⟩ := hq
  replace hB : Bd D A s.heap (wd_Free_gainAt k a_t d_t i_t a_p2 d_p2 i_p2 d_t_row (upd i_t_row 10 n1) r_t_row_longs r_p2_grades r_t_row_weights r_t_row_pushes r_t_row_bears_1) H locs := hB.sub [0, 2, 1, 3, 4, 5, 6, 7] (by decide) rfl
  refine lv_isub hx hb dX0_gainAt_20 ?_
  exact r_i F hr hlk hB ⟨_, _, rfl, hf⟩ dX0_gainAt_21

/-! LongTrain.Free.climbed -/
set_option maxRecDepth 100000 in
set_option maxHeartbeats 4000000 in
theorem bt_Free_climbed_15 {p : Program} {l : Launch} {e : Env} {s : State} {m : MethodId} {below : List Frame} {meth : Method} {c : Code} {A : Nat → Prop} {D : va_G} {k : Nat → ClassId} {a_t : Nat} {d_t : Nat → Nat} {i_t : Nat → Int32} {a_p1 : Nat} {d_p1 : Nat → Nat} {i_p1 : Nat → Int32} {d_t_row : Nat → Nat} {r_p1_halts : Nat → Int32} {r_p1_first : Nat → Int32} {r_p1_kinds : Nat → Int32} {r_p1_grades : Nat → Int32} {n2 : Int32} {n3 : Int32} {n4 : Int32} {Q : Int32 → (Nat → Int32) → (Nat → Int32) → (Nat → Int32) → (Nat → Int32) → (Nat → Int32) → (Nat → Int32) → (Nat → Int32) → (Nat → Int32) → (Nat → Int32) → Prop}  {x3 : Int32} {kx_15 : (Nat → Int32) → (Nat → Int32) → (Nat → Int32) → (Nat → Int32) → (Nat → Int32) → (Nat → Int32) → (Nat → Int32) → (Nat → Int32) → (Nat → Int32) → Prop} {kr_15 : (Int32) → (Int32) → (Nat → Int32) → (Nat → Int32) → (Nat → Int32) → (Nat → Int32) → (Nat → Int32) → (Nat → Int32) → (Nat → Int32) → (Nat → Int32) → (Nat → Int32) → Prop} (F : Fx p m c cX0_climbed 7 s ([.ref a_t, .ref a_p1, .int n2, .int n3, .int n4] : List Value).toArray RX0 D k) (hr : meth.sig.returnType = (some .int)) (hlk : meth.locks = false) (hA : ∀ q : Nat, s.heap.size ≤ q → A q) (hkx_15 : ∀ (i_t_row : Nat → Int32) (r_t_row_kinds : Nat → Int32) (r_t_row_longs : Nat → Int32) (r_t_row_weights : Nat → Int32) (r_t_row_strengths : Nat → Int32) (r_t_row_wears : Nat → Int32) (r_t_row_pushes : Nat → Int32) (r_t_row_helpers : Nat → Int32) (r_t_row_bears : Nat → Int32) (H : Heap) (locs : List Loc) (ls : Array Slot), kx_15 i_t_row r_t_row_kinds r_t_row_longs r_t_row_weights r_t_row_strengths r_t_row_wears r_t_row_pushes r_t_row_helpers r_t_row_bears → Bd D A s.heap (wd_Free_climbed k a_t d_t i_t a_p1 d_p1 i_p1 d_t_row i_t_row r_p1_halts r_p1_first r_t_row_kinds r_t_row_longs r_t_row_weights r_t_row_strengths r_t_row_wears r_t_row_pushes r_t_row_helpers r_p1_kinds r_p1_grades r_t_row_bears) H locs → lv_has ls 7 [(3, .int x3)] → W p l e { frames := 5, cells := 0, slots := 0, locals := 112 } s m ([.ref a_t, .ref a_p1, .int n2, .int n3, .int n4] : List Value).toArray below meth c H locs 0 0 (Ei below (fun r w => ∃ (i_t_row : Nat → Int32), ∃ (r_t_row_kinds : Nat → Int32), ∃ (r_t_row_longs : Nat → Int32), ∃ (r_t_row_weights : Nat → Int32), ∃ (r_t_row_strengths : Nat → Int32), ∃ (r_t_row_wears : Nat → Int32), ∃ (r_t_row_pushes : Nat → Int32), ∃ (r_t_row_helpers : Nat → Int32), ∃ (r_t_row_bears : Nat → Int32), w = (wd_Free_climbed k a_t d_t i_t a_p1 d_p1 i_p1 d_t_row i_t_row r_p1_halts r_p1_first r_t_row_kinds r_t_row_longs r_t_row_weights r_t_row_strengths r_t_row_wears r_t_row_pushes r_t_row_helpers r_p1_kinds r_p1_grades r_t_row_bears) ∧ Q r i_t_row r_t_row_kinds r_t_row_longs r_t_row_weights r_t_row_strengths r_t_row_wears r_t_row_pushes r_t_row_helpers r_t_row_bears) D k A ([.ref a_t, .ref a_p1, .int n2, .int n3, .int n4] : List Value).toArray s 0 0) (F0 m 57 ls [])) (hkr_15 : ∀ (x5 : Int32) (x6 : Int32) (i_t_row : Nat → Int32) (r_t_row_kinds : Nat → Int32) (r_t_row_longs : Nat → Int32) (r_t_row_weights : Nat → Int32) (r_t_row_strengths : Nat → Int32) (r_t_row_wears : Nat → Int32) (r_t_row_pushes : Nat → Int32) (r_t_row_helpers : Nat → Int32) (r_t_row_bears : Nat → Int32) (H : Heap) (locs : List Loc) (ls : Array Slot), kr_15 x5 x6 i_t_row r_t_row_kinds r_t_row_longs r_t_row_weights r_t_row_strengths r_t_row_wears r_t_row_pushes r_t_row_helpers r_t_row_bears → Bd D A s.heap (wd_Free_climbed k a_t d_t i_t a_p1 d_p1 i_p1 d_t_row i_t_row r_p1_halts r_p1_first r_t_row_kinds r_t_row_longs r_t_row_weights r_t_row_strengths r_t_row_wears r_t_row_pushes r_t_row_helpers r_p1_kinds r_p1_grades r_t_row_bears) H locs → lv_has ls 7 [(0, .ref a_t), (1, .ref a_p1), (3, .int x3), (5, .int x5), (6, .int x6)] → W p l e { frames := 5, cells := 0, slots := 0, locals := 112 } s m ([.ref a_t, .ref a_p1, .int n2, .int n3, .int n4] : List Value).toArray below meth c H locs 0 0 (Ei below (fun r w => ∃ (i_t_row : Nat → Int32), ∃ (r_t_row_kinds : Nat → Int32), ∃ (r_t_row_longs : Nat → Int32), ∃ (r_t_row_weights : Nat → Int32), ∃ (r_t_row_strengths : Nat → Int32), ∃ (r_t_row_wears : Nat → Int32), ∃ (r_t_row_pushes : Nat → Int32), ∃ (r_t_row_helpers : Nat → Int32), ∃ (r_t_row_bears : Nat → Int32), w = (wd_Free_climbed k a_t d_t i_t a_p1 d_p1 i_p1 d_t_row i_t_row r_p1_halts r_p1_first r_t_row_kinds r_t_row_longs r_t_row_weights r_t_row_strengths r_t_row_wears r_t_row_pushes r_t_row_helpers r_p1_kinds r_p1_grades r_t_row_bears) ∧ Q r i_t_row r_t_row_kinds r_t_row_longs r_t_row_weights r_t_row_strengths r_t_row_wears r_t_row_pushes r_t_row_helpers r_t_row_bears) D k A ([.ref a_t, .ref a_p1, .int n2, .int n3, .int n4] : List Value).toArray s 0 0) (F0 m 15 ls [])) :
    ∀ (x5 : Int32) (x6 : Int32) (i_t_row : Nat → Int32) (r_t_row_kinds : Nat → Int32) (r_t_row_longs : Nat → Int32) (r_t_row_weights : Nat → Int32) (r_t_row_strengths : Nat → Int32) (r_t_row_wears : Nat → Int32) (r_t_row_pushes : Nat → Int32) (r_t_row_helpers : Nat → Int32) (r_t_row_bears : Nat → Int32) (H : Heap) (locs : List Loc) (ls : Array Slot), b_Free_climbed_15 i_p1 r_p1_halts r_p1_kinds r_p1_grades x3 Q kx_15 kr_15 x5 x6 i_t_row r_t_row_kinds r_t_row_longs r_t_row_weights r_t_row_strengths r_t_row_wears r_t_row_pushes r_t_row_helpers r_t_row_bears → Bd D A s.heap (wd_Free_climbed k a_t d_t i_t a_p1 d_p1 i_p1 d_t_row i_t_row r_p1_halts r_p1_first r_t_row_kinds r_t_row_longs r_t_row_weights r_t_row_strengths r_t_row_wears r_t_row_pushes r_t_row_helpers r_p1_kinds r_p1_grades r_t_row_bears) H locs → lv_has ls 7 [(0, .ref a_t), (1, .ref a_p1), (3, .int x3), (5, .int x5), (6, .int x6)] → W p l e { frames := 5, cells := 0, slots := 0, locals := 112 } s m ([.ref a_t, .ref a_p1, .int n2, .int n3, .int n4] : List Value).toArray below meth c H locs 0 0 (Ei below (fun r w => ∃ (i_t_row : Nat → Int32), ∃ (r_t_row_kinds : Nat → Int32), ∃ (r_t_row_longs : Nat → Int32), ∃ (r_t_row_weights : Nat → Int32), ∃ (r_t_row_strengths : Nat → Int32), ∃ (r_t_row_wears : Nat → Int32), ∃ (r_t_row_pushes : Nat → Int32), ∃ (r_t_row_helpers : Nat → Int32), ∃ (r_t_row_bears : Nat → Int32), w = (wd_Free_climbed k a_t d_t i_t a_p1 d_p1 i_p1 d_t_row i_t_row r_p1_halts r_p1_first r_t_row_kinds r_t_row_longs r_t_row_weights r_t_row_strengths r_t_row_wears r_t_row_pushes r_t_row_helpers r_p1_kinds r_p1_grades r_t_row_bears) ∧ Q r i_t_row r_t_row_kinds r_t_row_longs r_t_row_weights r_t_row_strengths r_t_row_wears r_t_row_pushes r_t_row_helpers r_t_row_bears) D k A ([.ref a_t, .ref a_p1, .int n2, .int n3, .int n4] : List Value).toArray s 0 0) (F0 m 15 ls []) := by
  have hx := F.x
  have hb := F.b
  intro x5 x6 i_t_row r_t_row_kinds r_t_row_longs r_t_row_weights r_t_row_strengths r_t_row_wears r_t_row_pushes r_t_row_helpers r_t_row_bears H locs ls hf hB hl
  unfold b_Free_climbed_15 at hf
  refine lv_iload hx hb dX0_climbed_15 (lv_at hl 4 rfl) ?_
  refine lv_iload_n hx hb dX0_climbed_17 rfl (lv_at hl 2 rfl) ?_
  refine lv_icmp_gt (tgt := 57) hx hb dX0_climbed_18 (by decide) (fun c_21 => ?_) (fun c_21 => ?_)
  · replace hf := hf.1 c_21
    exact hkx_15 _ _ _ _ _ _ _ _ _ _ _ _ hf hB (lv_sub hl [2] rfl)
  · replace hf := hf.2 c_21
    refine lv_iload hx hb dX0_climbed_21 (lv_at hl 3 rfl) ?_
    refine lv_aload_n hx hb dX0_climbed_23 rfl (lv_at hl 0 rfl) ?_
    refine lv_iload hx hb dX0_climbed_24 (lv_at hl 4 rfl) ?_
    refine lv_aload_n hx hb dX0_climbed_26 rfl (lv_at hl 1 rfl) ?_
    refine k_vi (wr := [((d_p1 2), ai k 30 r_p1_halts), ((d_p1 8), ai k 8 r_p1_first), ((d_t_row 0), ai k 20 r_t_row_kinds), ((d_t_row 3), ai k 20 r_t_row_strengths), ((d_t_row 4), ai k 20 r_t_row_wears), ((d_t_row 6), ai k 20 r_t_row_helpers), ((d_p1 6), ai k 18 r_p1_kinds)]) (rest := [.int x5]) F hA hB (c_Free_gainAt l D k a_t d_t i_t a_p1 d_p1 i_p1 d_t_row i_t_row r_t_row_longs r_p1_grades r_t_row_weights r_t_row_pushes r_t_row_bears x6 _  hf) ml_RX0_76 mv_yX0_gainAt [0, 1, 2, 6, 13, 7, 10, 14] [3, 4, 5, 8, 9, 11, 12] rfl rfl (by decide) (by decide) (by decide) 0 rfl rfl rfl hl.1 rfl (Nat.le_of_ble_eq_true rfl) ⟨Nat.le_of_ble_eq_true rfl, Nat.le_of_ble_eq_true rfl⟩ ⟨Nat.le_of_ble_eq_true rfl, Nat.le_of_ble_eq_true rfl⟩ dX0_climbed_27 (fun z_11 w1 H locs hq hB => ?_)
    obtain ⟨i_t_row_9, r_t_row_bears_10, rfl, hf⟩ := hq
    replace hB : Bd D A s.heap (wd_Free_climbed k a_t d_t i_t a_p1 d_p1 i_p1 d_t_row i_t_row_9 r_p1_halts r_p1_first r_t_row_kinds r_t_row_longs r_t_row_weights r_t_row_strengths r_t_row_wears r_t_row_pushes r_t_row_helpers r_p1_kinds r_p1_grades r_t_row_bears_10) H locs := hB.sub [7, 8, 9, 0, 1, 2, 10, 12, 3, 4, 13, 5, 6, 11, 14] (by decide) rfl
    refine lv_iadd hx hb dX0_climbed_30 ?_
    refine lv_istore (lv' := [(5, .int (x5 + z_11)), (0, .ref a_t), (1, .ref a_p1), (3, .int x3), (6, .int x6)]) hx hb dX0_climbed_31 hl (by decide) rfl (fun ls hl => ?_)
    refine lv_iload hx hb dX0_climbed_33 (lv_at hl 0 rfl) ?_
    refine lv_if_ge (tgt := 43) hx hb dX0_climbed_35 (by decide) (fun c_20 => ?_) (fun c_20 => ?_)
    · replace hf := hf.1 c_20
      refine lv_aload_n hx hb dX0_climbed_43 rfl (lv_at hl 1 rfl) ?_
      refine g_get (w := .ref (d_t 0)) F hB 0 rfl fl_RX0_12 rfl dX0_climbed_44 ?_
      refine lv_aload_n hx hb dX0_climbed_47 rfl (lv_at hl 2 rfl) ?_
      refine k_vv (wr := [(a_t, ob 0 (rfd d_t) i_t j0), ((d_p1 8), ai k 8 r_p1_first), ((d_p1 0), ai k 400 r_p1_grades), ((d_t_row 7), ai k 20 r_t_row_bears_10)]) (rest := []) F hA hB (c_Row_takeOn l D k (d_t 0) d_t_row i_t_row_9 a_p1 d_p1 i_p1 r_p1_halts r_t_row_kinds r_t_row_longs r_t_row_weights r_t_row_strengths r_t_row_wears r_t_row_pushes r_t_row_helpers r_p1_kinds _  hf) ml_RX0_52 mv_yX8_takeOn [2, 1, 3, 5, 6, 7, 8, 9, 10, 11, 12] [0, 4, 13, 14] rfl rfl (by decide) (by decide) (by decide) 2 rfl rfl rfl hl.1 rfl (Nat.le_of_ble_eq_true rfl) ⟨Nat.le_of_ble_eq_true rfl, Nat.le_of_ble_eq_true rfl⟩ ⟨Nat.le_of_ble_eq_true rfl, Nat.le_of_ble_eq_true rfl⟩ dX0_climbed_48 (fun w1 H locs hq hB => ?_)
      obtain ⟨i_t_row_12, r_t_row_kinds_13, r_t_row_longs_14, r_t_row_weights_15, r_t_row_strengths_16, r_t_row_wears_17, r_t_row_pushes_18, r_t_row_helpers_19, rfl, hf⟩ := hq
      replace hB : Bd D A s.heap (wd_Free_climbed k a_t d_t i_t a_p1 d_p1 i_p1 d_t_row i_t_row_12 r_p1_halts r_p1_first r_t_row_kinds_13 r_t_row_longs_14 r_t_row_weights_15 r_t_row_strengths_16 r_t_row_wears_17 r_t_row_pushes_18 r_t_row_helpers_19 r_p1_kinds r_p1_grades r_t_row_bears_10) H locs := hB.sub [0, 5, 4, 6, 1, 7, 8, 9, 10, 11, 12, 13, 14, 2, 3] (by decide) rfl
      refine lv_iinc (v := (x6 + 1)) (lv' := [(6, .int (x6 + 1)), (5, .int (x5 + z_11)), (0, .ref a_t), (1, .ref a_p1), (3, .int x3)]) (k := 4) hx hb dX0_climbed_51 hl rfl rfl (by decide) rfl (fun ls hl => ?_)
      refine lv_goto (tgt := 15) hx hb dX0_climbed_54 (by decide) ?_
      exact hkr_15 _ _ _ _ _ _ _ _ _ _ _ _ _ _ hf hB (lv_sub hl [2, 3, 4, 1, 0] rfl)
    · replace hf := hf.2 c_20
      refine lv_iload hx hb dX0_climbed_38 (lv_at hl 4 rfl) ?_
      refine lv_iconst (v := 1) hx hb dX0_climbed_40 (by decide) ?_
      refine lv_isub hx hb dX0_climbed_41 ?_
      exact r_i F hr hlk hB ⟨_, _, _, _, _, _, _, _, _, rfl, hf⟩ dX0_climbed_42

set_option maxRecDepth 100000 in
set_option maxHeartbeats 4000000 in
theorem lt_Free_climbed_15 {p : Program} {l : Launch} {e : Env} {s : State} {m : MethodId} {below : List Frame} {meth : Method} {c : Code} {A : Nat → Prop} {D : va_G} {k : Nat → ClassId} {a_t : Nat} {d_t : Nat → Nat} {i_t : Nat → Int32} {a_p1 : Nat} {d_p1 : Nat → Nat} {i_p1 : Nat → Int32} {d_t_row : Nat → Nat} {r_p1_halts : Nat → Int32} {r_p1_first : Nat → Int32} {r_p1_kinds : Nat → Int32} {r_p1_grades : Nat → Int32} {n2 : Int32} {n3 : Int32} {n4 : Int32} {Q : Int32 → (Nat → Int32) → (Nat → Int32) → (Nat → Int32) → (Nat → Int32) → (Nat → Int32) → (Nat → Int32) → (Nat → Int32) → (Nat → Int32) → (Nat → Int32) → Prop}  {x3 : Int32} {kx_15 : (Nat → Int32) → (Nat → Int32) → (Nat → Int32) → (Nat → Int32) → (Nat → Int32) → (Nat → Int32) → (Nat → Int32) → (Nat → Int32) → (Nat → Int32) → Prop} (F : Fx p m c cX0_climbed 7 s ([.ref a_t, .ref a_p1, .int n2, .int n3, .int n4] : List Value).toArray RX0 D k) (hr : meth.sig.returnType = (some .int)) (hlk : meth.locks = false) (hA : ∀ q : Nat, s.heap.size ≤ q → A q) (hkx_15 : ∀ (i_t_row : Nat → Int32) (r_t_row_kinds : Nat → Int32) (r_t_row_longs : Nat → Int32) (r_t_row_weights : Nat → Int32) (r_t_row_strengths : Nat → Int32) (r_t_row_wears : Nat → Int32) (r_t_row_pushes : Nat → Int32) (r_t_row_helpers : Nat → Int32) (r_t_row_bears : Nat → Int32) (H : Heap) (locs : List Loc) (ls : Array Slot), kx_15 i_t_row r_t_row_kinds r_t_row_longs r_t_row_weights r_t_row_strengths r_t_row_wears r_t_row_pushes r_t_row_helpers r_t_row_bears → Bd D A s.heap (wd_Free_climbed k a_t d_t i_t a_p1 d_p1 i_p1 d_t_row i_t_row r_p1_halts r_p1_first r_t_row_kinds r_t_row_longs r_t_row_weights r_t_row_strengths r_t_row_wears r_t_row_pushes r_t_row_helpers r_p1_kinds r_p1_grades r_t_row_bears) H locs → lv_has ls 7 [(3, .int x3)] → W p l e { frames := 5, cells := 0, slots := 0, locals := 112 } s m ([.ref a_t, .ref a_p1, .int n2, .int n3, .int n4] : List Value).toArray below meth c H locs 0 0 (Ei below (fun r w => ∃ (i_t_row : Nat → Int32), ∃ (r_t_row_kinds : Nat → Int32), ∃ (r_t_row_longs : Nat → Int32), ∃ (r_t_row_weights : Nat → Int32), ∃ (r_t_row_strengths : Nat → Int32), ∃ (r_t_row_wears : Nat → Int32), ∃ (r_t_row_pushes : Nat → Int32), ∃ (r_t_row_helpers : Nat → Int32), ∃ (r_t_row_bears : Nat → Int32), w = (wd_Free_climbed k a_t d_t i_t a_p1 d_p1 i_p1 d_t_row i_t_row r_p1_halts r_p1_first r_t_row_kinds r_t_row_longs r_t_row_weights r_t_row_strengths r_t_row_wears r_t_row_pushes r_t_row_helpers r_p1_kinds r_p1_grades r_t_row_bears) ∧ Q r i_t_row r_t_row_kinds r_t_row_longs r_t_row_weights r_t_row_strengths r_t_row_wears r_t_row_pushes r_t_row_helpers r_t_row_bears) D k A ([.ref a_t, .ref a_p1, .int n2, .int n3, .int n4] : List Value).toArray s 0 0) (F0 m 57 ls [])) :
    ∀ n : Nat, ∀ (x5 : Int32) (x6 : Int32) (i_t_row : Nat → Int32) (r_t_row_kinds : Nat → Int32) (r_t_row_longs : Nat → Int32) (r_t_row_weights : Nat → Int32) (r_t_row_strengths : Nat → Int32) (r_t_row_wears : Nat → Int32) (r_t_row_pushes : Nat → Int32) (r_t_row_helpers : Nat → Int32) (r_t_row_bears : Nat → Int32) (H : Heap) (locs : List Loc) (ls : Array Slot), lp_Free_climbed_15 i_p1 r_p1_halts r_p1_kinds r_p1_grades x3 Q kx_15 n x5 x6 i_t_row r_t_row_kinds r_t_row_longs r_t_row_weights r_t_row_strengths r_t_row_wears r_t_row_pushes r_t_row_helpers r_t_row_bears → Bd D A s.heap (wd_Free_climbed k a_t d_t i_t a_p1 d_p1 i_p1 d_t_row i_t_row r_p1_halts r_p1_first r_t_row_kinds r_t_row_longs r_t_row_weights r_t_row_strengths r_t_row_wears r_t_row_pushes r_t_row_helpers r_p1_kinds r_p1_grades r_t_row_bears) H locs → lv_has ls 7 [(0, .ref a_t), (1, .ref a_p1), (3, .int x3), (5, .int x5), (6, .int x6)] → W p l e { frames := 5, cells := 0, slots := 0, locals := 112 } s m ([.ref a_t, .ref a_p1, .int n2, .int n3, .int n4] : List Value).toArray below meth c H locs 0 0 (Ei below (fun r w => ∃ (i_t_row : Nat → Int32), ∃ (r_t_row_kinds : Nat → Int32), ∃ (r_t_row_longs : Nat → Int32), ∃ (r_t_row_weights : Nat → Int32), ∃ (r_t_row_strengths : Nat → Int32), ∃ (r_t_row_wears : Nat → Int32), ∃ (r_t_row_pushes : Nat → Int32), ∃ (r_t_row_helpers : Nat → Int32), ∃ (r_t_row_bears : Nat → Int32), w = (wd_Free_climbed k a_t d_t i_t a_p1 d_p1 i_p1 d_t_row i_t_row r_p1_halts r_p1_first r_t_row_kinds r_t_row_longs r_t_row_weights r_t_row_strengths r_t_row_wears r_t_row_pushes r_t_row_helpers r_p1_kinds r_p1_grades r_t_row_bears) ∧ Q r i_t_row r_t_row_kinds r_t_row_longs r_t_row_weights r_t_row_strengths r_t_row_wears r_t_row_pushes r_t_row_helpers r_t_row_bears) D k A ([.ref a_t, .ref a_p1, .int n2, .int n3, .int n4] : List Value).toArray s 0 0) (F0 m 15 ls []) := by
  intro n
  induction n with
  | zero => intro x5 x6 i_t_row r_t_row_kinds r_t_row_longs r_t_row_weights r_t_row_strengths r_t_row_wears r_t_row_pushes r_t_row_helpers r_t_row_bears H locs ls hf; exact absurd hf (fun h => h)
  | succ n ih => exact bt_Free_climbed_15 F hr hlk hA hkx_15 ih

set_option maxRecDepth 100000 in
set_option maxHeartbeats 4000000 in
theorem c_Free_climbed (l : Launch) (D : va_G) (k : Nat → ClassId) (a_t : Nat) (d_t : Nat → Nat) (i_t : Nat → Int32) (a_p1 : Nat) (d_p1 : Nat → Nat) (i_p1 : Nat → Int32) (d_t_row : Nat → Nat) (i_t_row : Nat → Int32) (r_p1_halts : Nat → Int32) (r_p1_first : Nat → Int32) (r_t_row_kinds : Nat → Int32) (r_t_row_longs : Nat → Int32) (r_t_row_weights : Nat → Int32) (r_t_row_strengths : Nat → Int32) (r_t_row_wears : Nat → Int32) (r_t_row_pushes : Nat → Int32) (r_t_row_helpers : Nat → Int32) (r_p1_kinds : Nat → Int32) (r_p1_grades : Nat → Int32) (r_t_row_bears : Nat → Int32) (n2 : Int32) (n3 : Int32) (n4 : Int32) (Q : Int32 → (Nat → Int32) → (Nat → Int32) → (Nat → Int32) → (Nat → Int32) → (Nat → Int32) → (Nat → Int32) → (Nat → Int32) → (Nat → Int32) → (Nat → Int32) → Prop)  (hf : w_Free_climbed i_p1 i_t_row r_p1_halts r_p1_first r_t_row_kinds r_t_row_longs r_t_row_weights r_t_row_strengths r_t_row_wears r_t_row_pushes r_t_row_helpers r_p1_kinds r_p1_grades r_t_row_bears n2 n3 n4 Q) : CtI l yX0_climbed cX0_climbed 7 (some .int) 5 112 0 0 D k [.ref a_t, .ref a_p1, .int n2, .int n3, .int n4] (wd_Free_climbed k a_t d_t i_t a_p1 d_p1 i_p1 d_t_row i_t_row r_p1_halts r_p1_first r_t_row_kinds r_t_row_longs r_t_row_weights r_t_row_strengths r_t_row_wears r_t_row_pushes r_t_row_helpers r_p1_kinds r_p1_grades r_t_row_bears) (fun r w => ∃ (i_t_row : Nat → Int32), ∃ (r_t_row_kinds : Nat → Int32), ∃ (r_t_row_longs : Nat → Int32), ∃ (r_t_row_weights : Nat → Int32), ∃ (r_t_row_strengths : Nat → Int32), ∃ (r_t_row_wears : Nat → Int32), ∃ (r_t_row_pushes : Nat → Int32), ∃ (r_t_row_helpers : Nat → Int32), ∃ (r_t_row_bears : Nat → Int32), w = (wd_Free_climbed k a_t d_t i_t a_p1 d_p1 i_p1 d_t_row i_t_row r_p1_halts r_p1_first r_t_row_kinds r_t_row_longs r_t_row_weights r_t_row_strengths r_t_row_wears r_t_row_pushes r_t_row_helpers r_p1_kinds r_p1_grades r_t_row_bears) ∧ Q r i_t_row r_t_row_kinds r_t_row_longs r_t_row_weights r_t_row_strengths r_t_row_wears r_t_row_pushes r_t_row_helpers r_t_row_bears) := by
  refine CtI.of (by decide) (Nat.le_of_ble_eq_true rfl) ?_
  intro p e s m below meth c A F hr hlk hnm hA hB ls hl
  have hx := F.x
  have hb := F.b
  unfold w_Free_climbed at hf
  replace hl : lv_has ls 7 [(0, .ref a_t), (1, .ref a_p1), (2, .int n2), (3, .int n3), (4, .int n4)] := hl
  refine lv_aload_n hx hb dX0_climbed_0 rfl (lv_at hl 0 rfl) ?_
  refine lv_aload_n hx hb dX0_climbed_1 rfl (lv_at hl 1 rfl) ?_
  refine lv_iload_n hx hb dX0_climbed_2 rfl (lv_at hl 2 rfl) ?_
  refine k_vv (wr := [((d_p1 0), ai k 400 r_p1_grades), ((d_t_row 7), ai k 20 r_t_row_bears)]) (rest := []) F hA hB (c_Free_start l D k a_t d_t i_t a_p1 d_p1 i_p1 d_t_row i_t_row r_p1_halts r_p1_first r_t_row_kinds r_t_row_longs r_t_row_weights r_t_row_strengths r_t_row_wears r_t_row_pushes r_t_row_helpers r_p1_kinds n2 _  hf) ml_RX0_73 mv_yX0_start [0, 1, 2, 3, 4, 5, 6, 7, 8, 9, 10, 11, 12] [13, 14] rfl rfl (by decide) (by decide) (by decide) 0 rfl rfl rfl hl.1 rfl (Nat.le_of_ble_eq_true rfl) ⟨Nat.le_of_ble_eq_true rfl, Nat.le_of_ble_eq_true rfl⟩ ⟨Nat.le_of_ble_eq_true rfl, Nat.le_of_ble_eq_true rfl⟩ dX0_climbed_3 (fun w1 H locs hq hB => ?_)
  obtain ⟨i_t_row_1, r_t_row_kinds_2, r_t_row_longs_3, r_t_row_weights_4, r_t_row_strengths_5, r_t_row_wears_6, r_t_row_pushes_7, r_t_row_helpers_8, rfl, hf⟩ := hq
  replace hB : Bd D A s.heap (wd_Free_climbed k a_t d_t i_t a_p1 d_p1 i_p1 d_t_row i_t_row_1 r_p1_halts r_p1_first r_t_row_kinds_2 r_t_row_longs_3 r_t_row_weights_4 r_t_row_strengths_5 r_t_row_wears_6 r_t_row_pushes_7 r_t_row_helpers_8 r_p1_kinds r_p1_grades r_t_row_bears) H locs := hB.sub [2, 3, 4, 5, 6, 7, 8, 9, 10, 11, 12, 13, 14, 0, 1] (by decide) rfl
  refine lv_iload hx hb dX0_climbed_6 (lv_at hl 4 rfl) ?_
  refine lv_istore (lv' := [(5, .int n4), (0, .ref a_t), (1, .ref a_p1), (2, .int n2), (3, .int n3), (4, .int n4)]) hx hb dX0_climbed_8 hl (by decide) rfl (fun ls hl => ?_)
  refine lv_iload_n hx hb dX0_climbed_10 rfl (lv_at hl 3 rfl) ?_
  refine lv_iconst (v := 1) hx hb dX0_climbed_11 (by decide) ?_
  refine lv_iadd hx hb dX0_climbed_12 ?_
  refine lv_istore (lv' := [(6, .int (n2 + (1 : Int32))), (5, .int n4), (0, .ref a_t), (1, .ref a_p1), (2, .int n2), (3, .int n3), (4, .int n4)]) hx hb dX0_climbed_13 hl (by decide) rfl (fun ls hl => ?_)
  obtain ⟨n_31, hf⟩ := hf
  refine lt_Free_climbed_15 F hr hlk hA (fun i_t_row_22 r_t_row_kinds_23 r_t_row_longs_24 r_t_row_weights_25 r_t_row_strengths_26 r_t_row_wears_27 r_t_row_pushes_28 r_t_row_helpers_29 r_t_row_bears_30 H locs ls hf hB hl => ?_) n_31 _ _ _ _ _ _ _ _ _ _ _ _ _ _ hf hB (lv_sub hl [2, 3, 5, 1, 0] rfl)
  refine lv_iload_n hx hb dX0_climbed_57 rfl (lv_at hl 0 rfl) ?_
  exact r_i F hr hlk hB ⟨_, _, _, _, _, _, _, _, _, rfl, hf⟩ dX0_climbed_58

/-! LongTrain.Free.leastRunUp -/
set_option maxRecDepth 100000 in
set_option maxHeartbeats 4000000 in
theorem bt_Free_leastRunUp_17 {p : Program} {l : Launch} {e : Env} {s : State} {m : MethodId} {below : List Frame} {meth : Method} {c : Code} {A : Nat → Prop} {D : va_G} {k : Nat → ClassId} {a_t : Nat} {d_t : Nat → Nat} {i_t : Nat → Int32} {a_p1 : Nat} {d_p1 : Nat → Nat} {i_p1 : Nat → Int32} {d_t_row : Nat → Nat} {r_p1_halts : Nat → Int32} {r_p1_first : Nat → Int32} {r_p1_kinds : Nat → Int32} {r_p1_grades : Nat → Int32} {n2 : Int32} {n3 : Int32} {Q : Int32 → (Nat → Int32) → (Nat → Int32) → (Nat → Int32) → (Nat → Int32) → (Nat → Int32) → (Nat → Int32) → (Nat → Int32) → (Nat → Int32) → (Nat → Int32) → Prop}  {x3 : Int32} {kx_17 : (Int32) → (Nat → Int32) → (Nat → Int32) → (Nat → Int32) → (Nat → Int32) → (Nat → Int32) → (Nat → Int32) → (Nat → Int32) → (Nat → Int32) → (Nat → Int32) → Prop} {kr_17 : (Int32) → (Int32) → (Int32) → (Nat → Int32) → (Nat → Int32) → (Nat → Int32) → (Nat → Int32) → (Nat → Int32) → (Nat → Int32) → (Nat → Int32) → (Nat → Int32) → (Nat → Int32) → Prop} (F : Fx p m c cX0_leastRunUp 7 s ([.ref a_t, .ref a_p1, .int n2, .int n3] : List Value).toArray RX0 D k) (hr : meth.sig.returnType = (some .int)) (hlk : meth.locks = false) (hA : ∀ q : Nat, s.heap.size ≤ q → A q) (hkx_17 : ∀ (x5 : Int32) (i_t_row : Nat → Int32) (r_t_row_kinds : Nat → Int32) (r_t_row_longs : Nat → Int32) (r_t_row_weights : Nat → Int32) (r_t_row_strengths : Nat → Int32) (r_t_row_wears : Nat → Int32) (r_t_row_pushes : Nat → Int32) (r_t_row_helpers : Nat → Int32) (r_t_row_bears : Nat → Int32) (H : Heap) (locs : List Loc) (ls : Array Slot), kx_17 x5 i_t_row r_t_row_kinds r_t_row_longs r_t_row_weights r_t_row_strengths r_t_row_wears r_t_row_pushes r_t_row_helpers r_t_row_bears → Bd D A s.heap (wd_Free_leastRunUp k a_t d_t i_t a_p1 d_p1 i_p1 d_t_row i_t_row r_p1_halts r_p1_first r_t_row_kinds r_t_row_longs r_t_row_weights r_t_row_strengths r_t_row_wears r_t_row_pushes r_t_row_helpers r_p1_kinds r_p1_grades r_t_row_bears) H locs → lv_has ls 7 [(5, .int x5)] → W p l e { frames := 5, cells := 0, slots := 0, locals := 112 } s m ([.ref a_t, .ref a_p1, .int n2, .int n3] : List Value).toArray below meth c H locs 0 0 (Ei below (fun r w => ∃ (i_t_row : Nat → Int32), ∃ (r_t_row_kinds : Nat → Int32), ∃ (r_t_row_longs : Nat → Int32), ∃ (r_t_row_weights : Nat → Int32), ∃ (r_t_row_strengths : Nat → Int32), ∃ (r_t_row_wears : Nat → Int32), ∃ (r_t_row_pushes : Nat → Int32), ∃ (r_t_row_helpers : Nat → Int32), ∃ (r_t_row_bears : Nat → Int32), w = (wd_Free_leastRunUp k a_t d_t i_t a_p1 d_p1 i_p1 d_t_row i_t_row r_p1_halts r_p1_first r_t_row_kinds r_t_row_longs r_t_row_weights r_t_row_strengths r_t_row_wears r_t_row_pushes r_t_row_helpers r_p1_kinds r_p1_grades r_t_row_bears) ∧ Q r i_t_row r_t_row_kinds r_t_row_longs r_t_row_weights r_t_row_strengths r_t_row_wears r_t_row_pushes r_t_row_helpers r_t_row_bears) D k A ([.ref a_t, .ref a_p1, .int n2, .int n3] : List Value).toArray s 0 0) (F0 m 59 ls [])) (hkr_17 : ∀ (x4 : Int32) (x5 : Int32) (x6 : Int32) (i_t_row : Nat → Int32) (r_t_row_kinds : Nat → Int32) (r_t_row_longs : Nat → Int32) (r_t_row_weights : Nat → Int32) (r_t_row_strengths : Nat → Int32) (r_t_row_wears : Nat → Int32) (r_t_row_pushes : Nat → Int32) (r_t_row_helpers : Nat → Int32) (r_t_row_bears : Nat → Int32) (H : Heap) (locs : List Loc) (ls : Array Slot), kr_17 x4 x5 x6 i_t_row r_t_row_kinds r_t_row_longs r_t_row_weights r_t_row_strengths r_t_row_wears r_t_row_pushes r_t_row_helpers r_t_row_bears → Bd D A s.heap (wd_Free_leastRunUp k a_t d_t i_t a_p1 d_p1 i_p1 d_t_row i_t_row r_p1_halts r_p1_first r_t_row_kinds r_t_row_longs r_t_row_weights r_t_row_strengths r_t_row_wears r_t_row_pushes r_t_row_helpers r_p1_kinds r_p1_grades r_t_row_bears) H locs → lv_has ls 7 [(0, .ref a_t), (1, .ref a_p1), (3, .int x3), (4, .int x4), (5, .int x5), (6, .int x6)] → W p l e { frames := 5, cells := 0, slots := 0, locals := 112 } s m ([.ref a_t, .ref a_p1, .int n2, .int n3] : List Value).toArray below meth c H locs 0 0 (Ei below (fun r w => ∃ (i_t_row : Nat → Int32), ∃ (r_t_row_kinds : Nat → Int32), ∃ (r_t_row_longs : Nat → Int32), ∃ (r_t_row_weights : Nat → Int32), ∃ (r_t_row_strengths : Nat → Int32), ∃ (r_t_row_wears : Nat → Int32), ∃ (r_t_row_pushes : Nat → Int32), ∃ (r_t_row_helpers : Nat → Int32), ∃ (r_t_row_bears : Nat → Int32), w = (wd_Free_leastRunUp k a_t d_t i_t a_p1 d_p1 i_p1 d_t_row i_t_row r_p1_halts r_p1_first r_t_row_kinds r_t_row_longs r_t_row_weights r_t_row_strengths r_t_row_wears r_t_row_pushes r_t_row_helpers r_p1_kinds r_p1_grades r_t_row_bears) ∧ Q r i_t_row r_t_row_kinds r_t_row_longs r_t_row_weights r_t_row_strengths r_t_row_wears r_t_row_pushes r_t_row_helpers r_t_row_bears) D k A ([.ref a_t, .ref a_p1, .int n2, .int n3] : List Value).toArray s 0 0) (F0 m 17 ls [])) :
    ∀ (x4 : Int32) (x5 : Int32) (x6 : Int32) (i_t_row : Nat → Int32) (r_t_row_kinds : Nat → Int32) (r_t_row_longs : Nat → Int32) (r_t_row_weights : Nat → Int32) (r_t_row_strengths : Nat → Int32) (r_t_row_wears : Nat → Int32) (r_t_row_pushes : Nat → Int32) (r_t_row_helpers : Nat → Int32) (r_t_row_bears : Nat → Int32) (H : Heap) (locs : List Loc) (ls : Array Slot), b_Free_leastRunUp_17 i_p1 r_p1_halts r_p1_kinds r_p1_grades x3 kx_17 kr_17 x4 x5 x6 i_t_row r_t_row_kinds r_t_row_longs r_t_row_weights r_t_row_strengths r_t_row_wears r_t_row_pushes r_t_row_helpers r_t_row_bears → Bd D A s.heap (wd_Free_leastRunUp k a_t d_t i_t a_p1 d_p1 i_p1 d_t_row i_t_row r_p1_halts r_p1_first r_t_row_kinds r_t_row_longs r_t_row_weights r_t_row_strengths r_t_row_wears r_t_row_pushes r_t_row_helpers r_p1_kinds r_p1_grades r_t_row_bears) H locs → lv_has ls 7 [(0, .ref a_t), (1, .ref a_p1), (3, .int x3), (4, .int x4), (5, .int x5), (6, .int x6)] → W p l e { frames := 5, cells := 0, slots := 0, locals := 112 } s m ([.ref a_t, .ref a_p1, .int n2, .int n3] : List Value).toArray below meth c H locs 0 0 (Ei below (fun r w => ∃ (i_t_row : Nat → Int32), ∃ (r_t_row_kinds : Nat → Int32), ∃ (r_t_row_longs : Nat → Int32), ∃ (r_t_row_weights : Nat → Int32), ∃ (r_t_row_strengths : Nat → Int32), ∃ (r_t_row_wears : Nat → Int32), ∃ (r_t_row_pushes : Nat → Int32), ∃ (r_t_row_helpers : Nat → Int32), ∃ (r_t_row_bears : Nat → Int32), w = (wd_Free_leastRunUp k a_t d_t i_t a_p1 d_p1 i_p1 d_t_row i_t_row r_p1_halts r_p1_first r_t_row_kinds r_t_row_longs r_t_row_weights r_t_row_strengths r_t_row_wears r_t_row_pushes r_t_row_helpers r_p1_kinds r_p1_grades r_t_row_bears) ∧ Q r i_t_row r_t_row_kinds r_t_row_longs r_t_row_weights r_t_row_strengths r_t_row_wears r_t_row_pushes r_t_row_helpers r_t_row_bears) D k A ([.ref a_t, .ref a_p1, .int n2, .int n3] : List Value).toArray s 0 0) (F0 m 17 ls []) := by
  have hx := F.x
  have hb := F.b
  intro x4 x5 x6 i_t_row r_t_row_kinds r_t_row_longs r_t_row_weights r_t_row_strengths r_t_row_wears r_t_row_pushes r_t_row_helpers r_t_row_bears H locs ls hf hB hl
  unfold b_Free_leastRunUp_17 at hf
  refine lv_iload hx hb dX0_leastRunUp_17 (lv_at hl 5 rfl) ?_
  refine lv_iload_n hx hb dX0_leastRunUp_19 rfl (lv_at hl 2 rfl) ?_
  refine lv_icmp_gt (tgt := 59) hx hb dX0_leastRunUp_20 (by decide) (fun c_20 => ?_) (fun c_20 => ?_)
  · replace hf := hf.1 c_20
    exact hkx_17 _ _ _ _ _ _ _ _ _ _ _ _ _ hf hB (lv_sub hl [4] rfl)
  · replace hf := hf.2 c_20
    refine lv_iload hx hb dX0_leastRunUp_23 (lv_at hl 3 rfl) ?_
    refine lv_aload_n hx hb dX0_leastRunUp_25 rfl (lv_at hl 0 rfl) ?_
    refine lv_iload hx hb dX0_leastRunUp_26 (lv_at hl 5 rfl) ?_
    refine lv_aload_n hx hb dX0_leastRunUp_28 rfl (lv_at hl 1 rfl) ?_
    refine k_vi (wr := [((d_p1 2), ai k 30 r_p1_halts), ((d_p1 8), ai k 8 r_p1_first), ((d_t_row 0), ai k 20 r_t_row_kinds), ((d_t_row 3), ai k 20 r_t_row_strengths), ((d_t_row 4), ai k 20 r_t_row_wears), ((d_t_row 6), ai k 20 r_t_row_helpers), ((d_p1 6), ai k 18 r_p1_kinds)]) (rest := [.int x4]) F hA hB (c_Free_gainAt l D k a_t d_t i_t a_p1 d_p1 i_p1 d_t_row i_t_row r_t_row_longs r_p1_grades r_t_row_weights r_t_row_pushes r_t_row_bears x6 _  hf) ml_RX0_76 mv_yX0_gainAt [0, 1, 2, 6, 13, 7, 10, 14] [3, 4, 5, 8, 9, 11, 12] rfl rfl (by decide) (by decide) (by decide) 0 rfl rfl rfl hl.1 rfl (Nat.le_of_ble_eq_true rfl) ⟨Nat.le_of_ble_eq_true rfl, Nat.le_of_ble_eq_true rfl⟩ ⟨Nat.le_of_ble_eq_true rfl, Nat.le_of_ble_eq_true rfl⟩ dX0_leastRunUp_29 (fun z_11 w1 H locs hq hB => ?_)
    obtain ⟨i_t_row_9, r_t_row_bears_10, rfl, hf⟩ := hq
    replace hB : Bd D A s.heap (wd_Free_leastRunUp k a_t d_t i_t a_p1 d_p1 i_p1 d_t_row i_t_row_9 r_p1_halts r_p1_first r_t_row_kinds r_t_row_longs r_t_row_weights r_t_row_strengths r_t_row_wears r_t_row_pushes r_t_row_helpers r_p1_kinds r_p1_grades r_t_row_bears_10) H locs := hB.sub [7, 8, 9, 0, 1, 2, 10, 12, 3, 4, 13, 5, 6, 11, 14] (by decide) rfl
    refine lv_iadd hx hb dX0_leastRunUp_32 ?_
    refine lv_istore (lv' := [(4, .int (x4 + z_11)), (0, .ref a_t), (1, .ref a_p1), (3, .int x3), (5, .int x5), (6, .int x6)]) hx hb dX0_leastRunUp_33 hl (by decide) rfl (fun ls hl => ?_)
    refine lv_iload hx hb dX0_leastRunUp_35 (lv_at hl 4 rfl) ?_
    refine lv_iload hx hb dX0_leastRunUp_37 (lv_at hl 0 rfl) ?_
    refine lv_ineg hx hb dX0_leastRunUp_39 ?_
    refine k_max F ml_RX0_80 hl.1 (by decide) (Nat.le_of_ble_eq_true rfl) (Nat.zero_le _) (Nat.zero_le _) dX0_leastRunUp_40 ?_
    refine lv_istore (lv' := [(5, .int (jmax x5 (-(x4 + z_11)))), (4, .int (x4 + z_11)), (0, .ref a_t), (1, .ref a_p1), (3, .int x3), (6, .int x6)]) hx hb dX0_leastRunUp_43 hl (by decide) rfl (fun ls hl => ?_)
    refine lv_aload_n hx hb dX0_leastRunUp_45 rfl (lv_at hl 2 rfl) ?_
    refine g_get (w := .ref (d_t 0)) F hB 0 rfl fl_RX0_12 rfl dX0_leastRunUp_46 ?_
    refine lv_aload_n hx hb dX0_leastRunUp_49 rfl (lv_at hl 3 rfl) ?_
    refine k_vv (wr := [(a_t, ob 0 (rfd d_t) i_t j0), ((d_p1 8), ai k 8 r_p1_first), ((d_p1 0), ai k 400 r_p1_grades), ((d_t_row 7), ai k 20 r_t_row_bears_10)]) (rest := []) F hA hB (c_Row_takeOn l D k (d_t 0) d_t_row i_t_row_9 a_p1 d_p1 i_p1 r_p1_halts r_t_row_kinds r_t_row_longs r_t_row_weights r_t_row_strengths r_t_row_wears r_t_row_pushes r_t_row_helpers r_p1_kinds _  hf) ml_RX0_52 mv_yX8_takeOn [2, 1, 3, 5, 6, 7, 8, 9, 10, 11, 12] [0, 4, 13, 14] rfl rfl (by decide) (by decide) (by decide) 2 rfl rfl rfl hl.1 rfl (Nat.le_of_ble_eq_true rfl) ⟨Nat.le_of_ble_eq_true rfl, Nat.le_of_ble_eq_true rfl⟩ ⟨Nat.le_of_ble_eq_true rfl, Nat.le_of_ble_eq_true rfl⟩ dX0_leastRunUp_50 (fun w1 H locs hq hB => ?_)
    obtain ⟨i_t_row_12, r_t_row_kinds_13, r_t_row_longs_14, r_t_row_weights_15, r_t_row_strengths_16, r_t_row_wears_17, r_t_row_pushes_18, r_t_row_helpers_19, rfl, hf⟩ := hq
    replace hB : Bd D A s.heap (wd_Free_leastRunUp k a_t d_t i_t a_p1 d_p1 i_p1 d_t_row i_t_row_12 r_p1_halts r_p1_first r_t_row_kinds_13 r_t_row_longs_14 r_t_row_weights_15 r_t_row_strengths_16 r_t_row_wears_17 r_t_row_pushes_18 r_t_row_helpers_19 r_p1_kinds r_p1_grades r_t_row_bears_10) H locs := hB.sub [0, 5, 4, 6, 1, 7, 8, 9, 10, 11, 12, 13, 14, 2, 3] (by decide) rfl
    refine lv_iinc (v := (x6 + 1)) (lv' := [(6, .int (x6 + 1)), (5, .int (jmax x5 (-(x4 + z_11)))), (4, .int (x4 + z_11)), (0, .ref a_t), (1, .ref a_p1), (3, .int x3)]) (k := 5) hx hb dX0_leastRunUp_53 hl rfl rfl (by decide) rfl (fun ls hl => ?_)
    refine lv_goto (tgt := 17) hx hb dX0_leastRunUp_56 (by decide) ?_
    exact hkr_17 _ _ _ _ _ _ _ _ _ _ _ _ _ _ _ hf hB (lv_sub hl [3, 4, 5, 2, 1, 0] rfl)

set_option maxRecDepth 100000 in
set_option maxHeartbeats 4000000 in
theorem lt_Free_leastRunUp_17 {p : Program} {l : Launch} {e : Env} {s : State} {m : MethodId} {below : List Frame} {meth : Method} {c : Code} {A : Nat → Prop} {D : va_G} {k : Nat → ClassId} {a_t : Nat} {d_t : Nat → Nat} {i_t : Nat → Int32} {a_p1 : Nat} {d_p1 : Nat → Nat} {i_p1 : Nat → Int32} {d_t_row : Nat → Nat} {r_p1_halts : Nat → Int32} {r_p1_first : Nat → Int32} {r_p1_kinds : Nat → Int32} {r_p1_grades : Nat → Int32} {n2 : Int32} {n3 : Int32} {Q : Int32 → (Nat → Int32) → (Nat → Int32) → (Nat → Int32) → (Nat → Int32) → (Nat → Int32) → (Nat → Int32) → (Nat → Int32) → (Nat → Int32) → (Nat → Int32) → Prop}  {x3 : Int32} {kx_17 : (Int32) → (Nat → Int32) → (Nat → Int32) → (Nat → Int32) → (Nat → Int32) → (Nat → Int32) → (Nat → Int32) → (Nat → Int32) → (Nat → Int32) → (Nat → Int32) → Prop} (F : Fx p m c cX0_leastRunUp 7 s ([.ref a_t, .ref a_p1, .int n2, .int n3] : List Value).toArray RX0 D k) (hr : meth.sig.returnType = (some .int)) (hlk : meth.locks = false) (hA : ∀ q : Nat, s.heap.size ≤ q → A q) (hkx_17 : ∀ (x5 : Int32) (i_t_row : Nat → Int32) (r_t_row_kinds : Nat → Int32) (r_t_row_longs : Nat → Int32) (r_t_row_weights : Nat → Int32) (r_t_row_strengths : Nat → Int32) (r_t_row_wears : Nat → Int32) (r_t_row_pushes : Nat → Int32) (r_t_row_helpers : Nat → Int32) (r_t_row_bears : Nat → Int32) (H : Heap) (locs : List Loc) (ls : Array Slot), kx_17 x5 i_t_row r_t_row_kinds r_t_row_longs r_t_row_weights r_t_row_strengths r_t_row_wears r_t_row_pushes r_t_row_helpers r_t_row_bears → Bd D A s.heap (wd_Free_leastRunUp k a_t d_t i_t a_p1 d_p1 i_p1 d_t_row i_t_row r_p1_halts r_p1_first r_t_row_kinds r_t_row_longs r_t_row_weights r_t_row_strengths r_t_row_wears r_t_row_pushes r_t_row_helpers r_p1_kinds r_p1_grades r_t_row_bears) H locs → lv_has ls 7 [(5, .int x5)] → W p l e { frames := 5, cells := 0, slots := 0, locals := 112 } s m ([.ref a_t, .ref a_p1, .int n2, .int n3] : List Value).toArray below meth c H locs 0 0 (Ei below (fun r w => ∃ (i_t_row : Nat → Int32), ∃ (r_t_row_kinds : Nat → Int32), ∃ (r_t_row_longs : Nat → Int32), ∃ (r_t_row_weights : Nat → Int32), ∃ (r_t_row_strengths : Nat → Int32), ∃ (r_t_row_wears : Nat → Int32), ∃ (r_t_row_pushes : Nat → Int32), ∃ (r_t_row_helpers : Nat → Int32), ∃ (r_t_row_bears : Nat → Int32), w = (wd_Free_leastRunUp k a_t d_t i_t a_p1 d_p1 i_p1 d_t_row i_t_row r_p1_halts r_p1_first r_t_row_kinds r_t_row_longs r_t_row_weights r_t_row_strengths r_t_row_wears r_t_row_pushes r_t_row_helpers r_p1_kinds r_p1_grades r_t_row_bears) ∧ Q r i_t_row r_t_row_kinds r_t_row_longs r_t_row_weights r_t_row_strengths r_t_row_wears r_t_row_pushes r_t_row_helpers r_t_row_bears) D k A ([.ref a_t, .ref a_p1, .int n2, .int n3] : List Value).toArray s 0 0) (F0 m 59 ls [])) :
    ∀ n : Nat, ∀ (x4 : Int32) (x5 : Int32) (x6 : Int32) (i_t_row : Nat → Int32) (r_t_row_kinds : Nat → Int32) (r_t_row_longs : Nat → Int32) (r_t_row_weights : Nat → Int32) (r_t_row_strengths : Nat → Int32) (r_t_row_wears : Nat → Int32) (r_t_row_pushes : Nat → Int32) (r_t_row_helpers : Nat → Int32) (r_t_row_bears : Nat → Int32) (H : Heap) (locs : List Loc) (ls : Array Slot), lp_Free_leastRunUp_17 i_p1 r_p1_halts r_p1_kinds r_p1_grades x3 kx_17 n x4 x5 x6 i_t_row r_t_row_kinds r_t_row_longs r_t_row_weights r_t_row_strengths r_t_row_wears r_t_row_pushes r_t_row_helpers r_t_row_bears → Bd D A s.heap (wd_Free_leastRunUp k a_t d_t i_t a_p1 d_p1 i_p1 d_t_row i_t_row r_p1_halts r_p1_first r_t_row_kinds r_t_row_longs r_t_row_weights r_t_row_strengths r_t_row_wears r_t_row_pushes r_t_row_helpers r_p1_kinds r_p1_grades r_t_row_bears) H locs → lv_has ls 7 [(0, .ref a_t), (1, .ref a_p1), (3, .int x3), (4, .int x4), (5, .int x5), (6, .int x6)] → W p l e { frames := 5, cells := 0, slots := 0, locals := 112 } s m ([.ref a_t, .ref a_p1, .int n2, .int n3] : List Value).toArray below meth c H locs 0 0 (Ei below (fun r w => ∃ (i_t_row : Nat → Int32), ∃ (r_t_row_kinds : Nat → Int32), ∃ (r_t_row_longs : Nat → Int32), ∃ (r_t_row_weights : Nat → Int32), ∃ (r_t_row_strengths : Nat → Int32), ∃ (r_t_row_wears : Nat → Int32), ∃ (r_t_row_pushes : Nat → Int32), ∃ (r_t_row_helpers : Nat → Int32), ∃ (r_t_row_bears : Nat → Int32), w = (wd_Free_leastRunUp k a_t d_t i_t a_p1 d_p1 i_p1 d_t_row i_t_row r_p1_halts r_p1_first r_t_row_kinds r_t_row_longs r_t_row_weights r_t_row_strengths r_t_row_wears r_t_row_pushes r_t_row_helpers r_p1_kinds r_p1_grades r_t_row_bears) ∧ Q r i_t_row r_t_row_kinds r_t_row_longs r_t_row_weights r_t_row_strengths r_t_row_wears r_t_row_pushes r_t_row_helpers r_t_row_bears) D k A ([.ref a_t, .ref a_p1, .int n2, .int n3] : List Value).toArray s 0 0) (F0 m 17 ls []) := by
  intro n
  induction n with
  | zero => intro x4 x5 x6 i_t_row r_t_row_kinds r_t_row_longs r_t_row_weights r_t_row_strengths r_t_row_wears r_t_row_pushes r_t_row_helpers r_t_row_bears H locs ls hf; exact absurd hf (fun h => h)
  | succ n ih => exact bt_Free_leastRunUp_17 F hr hlk hA hkx_17 ih

set_option maxRecDepth 100000 in
set_option maxHeartbeats 4000000 in
theorem c_Free_leastRunUp (l : Launch) (D : va_G) (k : Nat → ClassId) (a_t : Nat) (d_t : Nat → Nat) (i_t : Nat → Int32) (a_p1 : Nat) (d_p1 : Nat → Nat) (i_p1 : Nat → Int32) (d_t_row : Nat → Nat) (i_t_row : Nat → Int32) (r_p1_halts : Nat → Int32) (r_p1_first : Nat → Int32) (r_t_row_kinds : Nat → Int32) (r_t_row_longs : Nat → Int32) (r_t_row_weights : Nat → Int32) (r_t_row_strengths : Nat → Int32) (r_t_row_wears : Nat → Int32) (r_t_row_pushes : Nat → Int32) (r_t_row_helpers : Nat → Int32) (r_p1_kinds : Nat → Int32) (r_p1_grades : Nat → Int32) (r_t_row_bears : Nat → Int32) (n2 : Int32) (n3 : Int32) (Q : Int32 → (Nat → Int32) → (Nat → Int32) → (Nat → Int32) → (Nat → Int32) → (Nat → Int32) → (Nat → Int32) → (Nat → Int32) → (Nat → Int32) → (Nat → Int32) → Prop)  (hf : w_Free_leastRunUp i_p1 i_t_row r_p1_halts r_p1_first r_t_row_kinds r_t_row_longs r_t_row_weights r_t_row_strengths r_t_row_wears r_t_row_pushes r_t_row_helpers r_p1_kinds r_p1_grades r_t_row_bears n2 n3 Q) : CtI l yX0_leastRunUp cX0_leastRunUp 7 (some .int) 5 112 0 0 D k [.ref a_t, .ref a_p1, .int n2, .int n3] (wd_Free_leastRunUp k a_t d_t i_t a_p1 d_p1 i_p1 d_t_row i_t_row r_p1_halts r_p1_first r_t_row_kinds r_t_row_longs r_t_row_weights r_t_row_strengths r_t_row_wears r_t_row_pushes r_t_row_helpers r_p1_kinds r_p1_grades r_t_row_bears) (fun r w => ∃ (i_t_row : Nat → Int32), ∃ (r_t_row_kinds : Nat → Int32), ∃ (r_t_row_longs : Nat → Int32), ∃ (r_t_row_weights : Nat → Int32), ∃ (r_t_row_strengths : Nat → Int32), ∃ (r_t_row_wears : Nat → Int32), ∃ (r_t_row_pushes : Nat → Int32), ∃ (r_t_row_helpers : Nat → Int32), ∃ (r_t_row_bears : Nat → Int32), w = (wd_Free_leastRunUp k a_t d_t i_t a_p1 d_p1 i_p1 d_t_row i_t_row r_p1_halts r_p1_first r_t_row_kinds r_t_row_longs r_t_row_weights r_t_row_strengths r_t_row_wears r_t_row_pushes r_t_row_helpers r_p1_kinds r_p1_grades r_t_row_bears) ∧ Q r i_t_row r_t_row_kinds r_t_row_longs r_t_row_weights r_t_row_strengths r_t_row_wears r_t_row_pushes r_t_row_helpers r_t_row_bears) := by
  refine CtI.of (by decide) (Nat.le_of_ble_eq_true rfl) ?_
  intro p e s m below meth c A F hr hlk hnm hA hB ls hl
  have hx := F.x
  have hb := F.b
  unfold w_Free_leastRunUp at hf
  replace hl : lv_has ls 7 [(0, .ref a_t), (1, .ref a_p1), (2, .int n2), (3, .int n3)] := hl
  refine lv_aload_n hx hb dX0_leastRunUp_0 rfl (lv_at hl 0 rfl) ?_
  refine lv_aload_n hx hb dX0_leastRunUp_1 rfl (lv_at hl 1 rfl) ?_
  refine lv_iload_n hx hb dX0_leastRunUp_2 rfl (lv_at hl 2 rfl) ?_
  refine k_vv (wr := [((d_p1 0), ai k 400 r_p1_grades), ((d_t_row 7), ai k 20 r_t_row_bears)]) (rest := []) F hA hB (c_Free_start l D k a_t d_t i_t a_p1 d_p1 i_p1 d_t_row i_t_row r_p1_halts r_p1_first r_t_row_kinds r_t_row_longs r_t_row_weights r_t_row_strengths r_t_row_wears r_t_row_pushes r_t_row_helpers r_p1_kinds n2 _  hf) ml_RX0_73 mv_yX0_start [0, 1, 2, 3, 4, 5, 6, 7, 8, 9, 10, 11, 12] [13, 14] rfl rfl (by decide) (by decide) (by decide) 0 rfl rfl rfl hl.1 rfl (Nat.le_of_ble_eq_true rfl) ⟨Nat.le_of_ble_eq_true rfl, Nat.le_of_ble_eq_true rfl⟩ ⟨Nat.le_of_ble_eq_true rfl, Nat.le_of_ble_eq_true rfl⟩ dX0_leastRunUp_3 (fun w1 H locs hq hB => ?_)
  obtain ⟨i_t_row_1, r_t_row_kinds_2, r_t_row_longs_3, r_t_row_weights_4, r_t_row_strengths_5, r_t_row_wears_6, r_t_row_pushes_7, r_t_row_helpers_8, rfl, hf⟩ := hq
  replace hB : Bd D A s.heap (wd_Free_leastRunUp k a_t d_t i_t a_p1 d_p1 i_p1 d_t_row i_t_row_1 r_p1_halts r_p1_first r_t_row_kinds_2 r_t_row_longs_3 r_t_row_weights_4 r_t_row_strengths_5 r_t_row_wears_6 r_t_row_pushes_7 r_t_row_helpers_8 r_p1_kinds r_p1_grades r_t_row_bears) H locs := hB.sub [2, 3, 4, 5, 6, 7, 8, 9, 10, 11, 12, 13, 14, 0, 1] (by decide) rfl
  refine lv_iconst (v := 0) hx hb dX0_leastRunUp_6 (by decide) ?_
  refine lv_istore (lv' := [(4, .int (0 : Int32)), (0, .ref a_t), (1, .ref a_p1), (2, .int n2), (3, .int n3)]) hx hb dX0_leastRunUp_7 hl (by decide) rfl (fun ls hl => ?_)
  refine lv_iconst (v := 0) hx hb dX0_leastRunUp_9 (by decide) ?_
  refine lv_istore (lv' := [(5, .int (0 : Int32)), (4, .int (0 : Int32)), (0, .ref a_t), (1, .ref a_p1), (2, .int n2), (3, .int n3)]) hx hb dX0_leastRunUp_10 hl (by decide) rfl (fun ls hl => ?_)
  refine lv_iload_n hx hb dX0_leastRunUp_12 rfl (lv_at hl 4 rfl) ?_
  refine lv_iconst (v := 1) hx hb dX0_leastRunUp_13 (by decide) ?_
  refine lv_iadd hx hb dX0_leastRunUp_14 ?_
  refine lv_istore (lv' := [(6, .int (n2 + (1 : Int32))), (5, .int (0 : Int32)), (4, .int (0 : Int32)), (0, .ref a_t), (1, .ref a_p1), (2, .int n2), (3, .int n3)]) hx hb dX0_leastRunUp_15 hl (by decide) rfl (fun ls hl => ?_)
  obtain ⟨n_31, hf⟩ := hf
  refine lt_Free_leastRunUp_17 F hr hlk hA (fun x5_21 i_t_row_22 r_t_row_kinds_23 r_t_row_longs_24 r_t_row_weights_25 r_t_row_strengths_26 r_t_row_wears_27 r_t_row_pushes_28 r_t_row_helpers_29 r_t_row_bears_30 H locs ls hf hB hl => ?_) n_31 _ _ _ _ _ _ _ _ _ _ _ _ _ _ _ hf hB (lv_sub hl [3, 4, 6, 2, 1, 0] rfl)
  refine lv_iload hx hb dX0_leastRunUp_59 (lv_at hl 0 rfl) ?_
  exact r_i F hr hlk hB ⟨_, _, _, _, _, _, _, _, _, rfl, hf⟩ dX0_leastRunUp_61

/-! LongTrain.Free.leastSand -/
set_option maxRecDepth 100000 in
set_option maxHeartbeats 4000000 in
theorem bt_Free_leastSand_18 {p : Program} {l : Launch} {e : Env} {s : State} {m : MethodId} {below : List Frame} {meth : Method} {c : Code} {A : Nat → Prop} {D : va_G} {k : Nat → ClassId} {a_t : Nat} {d_t : Nat → Nat} {i_t : Nat → Int32} {a_p1 : Nat} {d_p1 : Nat → Nat} {i_p1 : Nat → Int32} {d_t_row : Nat → Nat} {r_p1_halts : Nat → Int32} {r_p1_first : Nat → Int32} {r_p1_kinds : Nat → Int32} {r_p1_grades : Nat → Int32} {n2 : Int32} {n3 : Int32} {n4 : Int32} {Q : Int32 → (Nat → Int32) → (Nat → Int32) → (Nat → Int32) → (Nat → Int32) → (Nat → Int32) → (Nat → Int32) → (Nat → Int32) → (Nat → Int32) → (Nat → Int32) → Prop}  {x2 : Int32} {x3 : Int32} {kx_18 : (Int32) → (Nat → Int32) → (Nat → Int32) → (Nat → Int32) → (Nat → Int32) → (Nat → Int32) → (Nat → Int32) → (Nat → Int32) → (Nat → Int32) → (Nat → Int32) → Prop} {kr_18 : (Int32) → (Int32) → (Int32) → (Nat → Int32) → (Nat → Int32) → (Nat → Int32) → (Nat → Int32) → (Nat → Int32) → (Nat → Int32) → (Nat → Int32) → (Nat → Int32) → (Nat → Int32) → Prop} (F : Fx p m c cX0_leastSand 8 s ([.ref a_t, .ref a_p1, .int n2, .int n3, .int n4] : List Value).toArray RX0 D k) (hr : meth.sig.returnType = (some .int)) (hlk : meth.locks = false) (hA : ∀ q : Nat, s.heap.size ≤ q → A q) (hkx_18 : ∀ (x6 : Int32) (i_t_row : Nat → Int32) (r_t_row_kinds : Nat → Int32) (r_t_row_longs : Nat → Int32) (r_t_row_weights : Nat → Int32) (r_t_row_strengths : Nat → Int32) (r_t_row_wears : Nat → Int32) (r_t_row_pushes : Nat → Int32) (r_t_row_helpers : Nat → Int32) (r_t_row_bears : Nat → Int32) (H : Heap) (locs : List Loc) (ls : Array Slot), kx_18 x6 i_t_row r_t_row_kinds r_t_row_longs r_t_row_weights r_t_row_strengths r_t_row_wears r_t_row_pushes r_t_row_helpers r_t_row_bears → Bd D A s.heap (wd_Free_leastSand k a_t d_t i_t a_p1 d_p1 i_p1 d_t_row i_t_row r_p1_halts r_p1_first r_t_row_kinds r_t_row_longs r_t_row_weights r_t_row_strengths r_t_row_wears r_t_row_pushes r_t_row_helpers r_p1_kinds r_p1_grades r_t_row_bears) H locs → lv_has ls 8 [(6, .int x6)] → W p l e { frames := 5, cells := 0, slots := 0, locals := 112 } s m ([.ref a_t, .ref a_p1, .int n2, .int n3, .int n4] : List Value).toArray below meth c H locs 0 0 (Ei below (fun r w => ∃ (i_t_row : Nat → Int32), ∃ (r_t_row_kinds : Nat → Int32), ∃ (r_t_row_longs : Nat → Int32), ∃ (r_t_row_weights : Nat → Int32), ∃ (r_t_row_strengths : Nat → Int32), ∃ (r_t_row_wears : Nat → Int32), ∃ (r_t_row_pushes : Nat → Int32), ∃ (r_t_row_helpers : Nat → Int32), ∃ (r_t_row_bears : Nat → Int32), w = (wd_Free_leastSand k a_t d_t i_t a_p1 d_p1 i_p1 d_t_row i_t_row r_p1_halts r_p1_first r_t_row_kinds r_t_row_longs r_t_row_weights r_t_row_strengths r_t_row_wears r_t_row_pushes r_t_row_helpers r_p1_kinds r_p1_grades r_t_row_bears) ∧ Q r i_t_row r_t_row_kinds r_t_row_longs r_t_row_weights r_t_row_strengths r_t_row_wears r_t_row_pushes r_t_row_helpers r_t_row_bears) D k A ([.ref a_t, .ref a_p1, .int n2, .int n3, .int n4] : List Value).toArray s 0 0) (F0 m 96 ls [])) (hkr_18 : ∀ (x5 : Int32) (x6 : Int32) (x7 : Int32) (i_t_row : Nat → Int32) (r_t_row_kinds : Nat → Int32) (r_t_row_longs : Nat → Int32) (r_t_row_weights : Nat → Int32) (r_t_row_strengths : Nat → Int32) (r_t_row_wears : Nat → Int32) (r_t_row_pushes : Nat → Int32) (r_t_row_helpers : Nat → Int32) (r_t_row_bears : Nat → Int32) (H : Heap) (locs : List Loc) (ls : Array Slot), kr_18 x5 x6 x7 i_t_row r_t_row_kinds r_t_row_longs r_t_row_weights r_t_row_strengths r_t_row_wears r_t_row_pushes r_t_row_helpers r_t_row_bears → Bd D A s.heap (wd_Free_leastSand k a_t d_t i_t a_p1 d_p1 i_p1 d_t_row i_t_row r_p1_halts r_p1_first r_t_row_kinds r_t_row_longs r_t_row_weights r_t_row_strengths r_t_row_wears r_t_row_pushes r_t_row_helpers r_p1_kinds r_p1_grades r_t_row_bears) H locs → lv_has ls 8 [(0, .ref a_t), (1, .ref a_p1), (2, .int x2), (3, .int x3), (5, .int x5), (6, .int x6), (7, .int x7)] → W p l e { frames := 5, cells := 0, slots := 0, locals := 112 } s m ([.ref a_t, .ref a_p1, .int n2, .int n3, .int n4] : List Value).toArray below meth c H locs 0 0 (Ei below (fun r w => ∃ (i_t_row : Nat → Int32), ∃ (r_t_row_kinds : Nat → Int32), ∃ (r_t_row_longs : Nat → Int32), ∃ (r_t_row_weights : Nat → Int32), ∃ (r_t_row_strengths : Nat → Int32), ∃ (r_t_row_wears : Nat → Int32), ∃ (r_t_row_pushes : Nat → Int32), ∃ (r_t_row_helpers : Nat → Int32), ∃ (r_t_row_bears : Nat → Int32), w = (wd_Free_leastSand k a_t d_t i_t a_p1 d_p1 i_p1 d_t_row i_t_row r_p1_halts r_p1_first r_t_row_kinds r_t_row_longs r_t_row_weights r_t_row_strengths r_t_row_wears r_t_row_pushes r_t_row_helpers r_p1_kinds r_p1_grades r_t_row_bears) ∧ Q r i_t_row r_t_row_kinds r_t_row_longs r_t_row_weights r_t_row_strengths r_t_row_wears r_t_row_pushes r_t_row_helpers r_t_row_bears) D k A ([.ref a_t, .ref a_p1, .int n2, .int n3, .int n4] : List Value).toArray s 0 0) (F0 m 18 ls [])) :
    ∀ (x5 : Int32) (x6 : Int32) (x7 : Int32) (i_t_row : Nat → Int32) (r_t_row_kinds : Nat → Int32) (r_t_row_longs : Nat → Int32) (r_t_row_weights : Nat → Int32) (r_t_row_strengths : Nat → Int32) (r_t_row_wears : Nat → Int32) (r_t_row_pushes : Nat → Int32) (r_t_row_helpers : Nat → Int32) (r_t_row_bears : Nat → Int32) (H : Heap) (locs : List Loc) (ls : Array Slot), b_Free_leastSand_18 i_p1 r_p1_halts r_p1_kinds r_p1_grades x2 x3 Q kx_18 kr_18 x5 x6 x7 i_t_row r_t_row_kinds r_t_row_longs r_t_row_weights r_t_row_strengths r_t_row_wears r_t_row_pushes r_t_row_helpers r_t_row_bears → Bd D A s.heap (wd_Free_leastSand k a_t d_t i_t a_p1 d_p1 i_p1 d_t_row i_t_row r_p1_halts r_p1_first r_t_row_kinds r_t_row_longs r_t_row_weights r_t_row_strengths r_t_row_wears r_t_row_pushes r_t_row_helpers r_p1_kinds r_p1_grades r_t_row_bears) H locs → lv_has ls 8 [(0, .ref a_t), (1, .ref a_p1), (2, .int x2), (3, .int x3), (5, .int x5), (6, .int x6), (7, .int x7)] → W p l e { frames := 5, cells := 0, slots := 0, locals := 112 } s m ([.ref a_t, .ref a_p1, .int n2, .int n3, .int n4] : List Value).toArray below meth c H locs 0 0 (Ei below (fun r w => ∃ (i_t_row : Nat → Int32), ∃ (r_t_row_kinds : Nat → Int32), ∃ (r_t_row_longs : Nat → Int32), ∃ (r_t_row_weights : Nat → Int32), ∃ (r_t_row_strengths : Nat → Int32), ∃ (r_t_row_wears : Nat → Int32), ∃ (r_t_row_pushes : Nat → Int32), ∃ (r_t_row_helpers : Nat → Int32), ∃ (r_t_row_bears : Nat → Int32), w = (wd_Free_leastSand k a_t d_t i_t a_p1 d_p1 i_p1 d_t_row i_t_row r_p1_halts r_p1_first r_t_row_kinds r_t_row_longs r_t_row_weights r_t_row_strengths r_t_row_wears r_t_row_pushes r_t_row_helpers r_p1_kinds r_p1_grades r_t_row_bears) ∧ Q r i_t_row r_t_row_kinds r_t_row_longs r_t_row_weights r_t_row_strengths r_t_row_wears r_t_row_pushes r_t_row_helpers r_t_row_bears) D k A ([.ref a_t, .ref a_p1, .int n2, .int n3, .int n4] : List Value).toArray s 0 0) (F0 m 18 ls []) := by
  have hx := F.x
  have hb := F.b
  intro x5 x6 x7 i_t_row r_t_row_kinds r_t_row_longs r_t_row_weights r_t_row_strengths r_t_row_wears r_t_row_pushes r_t_row_helpers r_t_row_bears H locs ls hf hB hl
  unfold b_Free_leastSand_18 at hf
  refine lv_iload hx hb dX0_leastSand_18 (lv_at hl 6 rfl) ?_
  refine lv_iload_n hx hb dX0_leastSand_20 rfl (lv_at hl 3 rfl) ?_
  refine lv_icmp_gt (tgt := 96) hx hb dX0_leastSand_21 (by decide) (fun c_32 => ?_) (fun c_32 => ?_)
  · replace hf := hf.1 c_32
    exact hkx_18 _ _ _ _ _ _ _ _ _ _ _ _ _ hf hB (lv_sub hl [5] rfl)
  · replace hf := hf.2 c_32
    refine lv_iload hx hb dX0_leastSand_24 (lv_at hl 4 rfl) ?_
    refine lv_aload_n hx hb dX0_leastSand_26 rfl (lv_at hl 0 rfl) ?_
    refine lv_iload hx hb dX0_leastSand_27 (lv_at hl 6 rfl) ?_
    refine lv_aload_n hx hb dX0_leastSand_29 rfl (lv_at hl 1 rfl) ?_
    refine k_vi (wr := [((d_p1 2), ai k 30 r_p1_halts), ((d_p1 8), ai k 8 r_p1_first), ((d_t_row 0), ai k 20 r_t_row_kinds), ((d_t_row 3), ai k 20 r_t_row_strengths), ((d_t_row 4), ai k 20 r_t_row_wears), ((d_t_row 6), ai k 20 r_t_row_helpers), ((d_p1 6), ai k 18 r_p1_kinds)]) (rest := [.int x5]) F hA hB (c_Free_gainAt l D k a_t d_t i_t a_p1 d_p1 i_p1 d_t_row i_t_row r_t_row_longs r_p1_grades r_t_row_weights r_t_row_pushes r_t_row_bears x7 _  hf) ml_RX0_76 mv_yX0_gainAt [0, 1, 2, 6, 13, 7, 10, 14] [3, 4, 5, 8, 9, 11, 12] rfl rfl (by decide) (by decide) (by decide) 0 rfl rfl rfl hl.1 rfl (Nat.le_of_ble_eq_true rfl) ⟨Nat.le_of_ble_eq_true rfl, Nat.le_of_ble_eq_true rfl⟩ ⟨Nat.le_of_ble_eq_true rfl, Nat.le_of_ble_eq_true rfl⟩ dX0_leastSand_30 (fun z_11 w1 H locs hq hB => ?_)
    obtain ⟨i_t_row_9, r_t_row_bears_10, rfl, hf⟩ := hq
    replace hB : Bd D A s.heap (wd_Free_leastSand k a_t d_t i_t a_p1 d_p1 i_p1 d_t_row i_t_row_9 r_p1_halts r_p1_first r_t_row_kinds r_t_row_longs r_t_row_weights r_t_row_strengths r_t_row_wears r_t_row_pushes r_t_row_helpers r_p1_kinds r_p1_grades r_t_row_bears_10) H locs := hB.sub [7, 8, 9, 0, 1, 2, 10, 12, 3, 4, 13, 5, 6, 11, 14] (by decide) rfl
    refine lv_iadd hx hb dX0_leastSand_33 ?_
    refine lv_istore (lv' := [(5, .int (x5 + z_11)), (0, .ref a_t), (1, .ref a_p1), (2, .int x2), (3, .int x3), (6, .int x6), (7, .int x7)]) hx hb dX0_leastSand_34 hl (by decide) rfl (fun ls hl => ?_)
    refine lv_iload hx hb dX0_leastSand_36 (lv_at hl 0 rfl) ?_
    refine lv_if_ge (tgt := 82) hx hb dX0_leastSand_38 (by decide) (fun c_31 => ?_) (fun c_31 => ?_)
    · replace hf := hf.1 c_31
      refine lv_aload_n hx hb dX0_leastSand_82 rfl (lv_at hl 1 rfl) ?_
      refine g_get (w := .ref (d_t 0)) F hB 0 rfl fl_RX0_12 rfl dX0_leastSand_83 ?_
      refine lv_aload_n hx hb dX0_leastSand_86 rfl (lv_at hl 2 rfl) ?_
      refine k_vv (wr := [(a_t, ob 0 (rfd d_t) i_t j0), ((d_p1 8), ai k 8 r_p1_first), ((d_p1 0), ai k 400 r_p1_grades), ((d_t_row 7), ai k 20 r_t_row_bears_10)]) (rest := []) F hA hB (c_Row_takeOn l D k (d_t 0) d_t_row i_t_row_9 a_p1 d_p1 i_p1 r_p1_halts r_t_row_kinds r_t_row_longs r_t_row_weights r_t_row_strengths r_t_row_wears r_t_row_pushes r_t_row_helpers r_p1_kinds _  hf) ml_RX0_52 mv_yX8_takeOn [2, 1, 3, 5, 6, 7, 8, 9, 10, 11, 12] [0, 4, 13, 14] rfl rfl (by decide) (by decide) (by decide) 2 rfl rfl rfl hl.1 rfl (Nat.le_of_ble_eq_true rfl) ⟨Nat.le_of_ble_eq_true rfl, Nat.le_of_ble_eq_true rfl⟩ ⟨Nat.le_of_ble_eq_true rfl, Nat.le_of_ble_eq_true rfl⟩ dX0_leastSand_87 (fun w1 H locs hq hB => ?_)
      obtain ⟨i_t_row_12, r_t_row_kinds_13, r_t_row_longs_14, r_t_row_weights_15, r_t_row_strengths_16, r_t_row_wears_17, r_t_row_pushes_18, r_t_row_helpers_19, rfl, hf⟩ := hq
      replace hB : Bd D A s.heap (wd_Free_leastSand k a_t d_t i_t a_p1 d_p1 i_p1 d_t_row i_t_row_12 r_p1_halts r_p1_first r_t_row_kinds_13 r_t_row_longs_14 r_t_row_weights_15 r_t_row_strengths_16 r_t_row_wears_17 r_t_row_pushes_18 r_t_row_helpers_19 r_p1_kinds r_p1_grades r_t_row_bears_10) H locs := hB.sub [0, 5, 4, 6, 1, 7, 8, 9, 10, 11, 12, 13, 14, 2, 3] (by decide) rfl
      refine lv_iinc (v := (x7 + 1)) (lv' := [(7, .int (x7 + 1)), (5, .int (x5 + z_11)), (0, .ref a_t), (1, .ref a_p1), (2, .int x2), (3, .int x3), (6, .int x6)]) (k := 6) hx hb dX0_leastSand_90 hl rfl rfl (by decide) rfl (fun ls hl => ?_)
      refine lv_goto (tgt := 18) hx hb dX0_leastSand_93 (by decide) ?_
      exact hkr_18 _ _ _ _ _ _ _ _ _ _ _ _ _ _ _ hf hB (lv_sub hl [2, 3, 4, 5, 1, 6, 0] rfl)
    · replace hf := hf.2 c_31
      refine lv_aload_n hx hb dX0_leastSand_41 rfl (lv_at hl 2 rfl) ?_
      refine g_get (w := .int (i_p1 13)) F hB 1 rfl fl_RX0_86 rfl dX0_leastSand_42 ?_
      refine lv_if_gt (tgt := 50) hx hb dX0_leastSand_45 (by decide) (fun c_30 => ?_) (fun c_30 => ?_)
      · replace hf := hf.1 c_30
        refine lv_iload hx hb dX0_leastSand_50 (lv_at hl 5 rfl) ?_
        refine lv_aload_n hx hb dX0_leastSand_52 rfl (lv_at hl 2 rfl) ?_
        refine g_get (w := .int (i_p1 13)) F hB 1 rfl fl_RX0_86 rfl dX0_leastSand_53 ?_
        refine lv_iconst (v := 1) hx hb dX0_leastSand_56 (by decide) ?_
        refine lv_isub hx hb dX0_leastSand_57 ?_
        refine lv_iload hx hb dX0_leastSand_58 (lv_at hl 0 rfl) ?_
        refine lv_isub hx hb dX0_leastSand_60 ?_
        refine lv_aload_n hx hb dX0_leastSand_61 rfl (lv_at hl 2 rfl) ?_
        refine g_get (w := .int (i_p1 13)) F hB 1 rfl fl_RX0_86 rfl dX0_leastSand_62 ?_
        obtain ⟨h_20, hf⟩ := hf
        refine lv_idiv hx hb dX0_leastSand_65 h_20 ?_
        refine k_max F ml_RX0_80 hl.1 (by decide) (Nat.le_of_ble_eq_true rfl) (Nat.zero_le _) (Nat.zero_le _) dX0_leastSand_66 ?_
        refine lv_istore (lv' := [(6, .int (jmax x6 ((((i_p1 13) - (1 : Int32)) - (x5 + z_11)) / (i_p1 13)))), (5, .int (x5 + z_11)), (0, .ref a_t), (1, .ref a_p1), (2, .int x2), (3, .int x3), (7, .int x7)]) hx hb dX0_leastSand_69 hl (by decide) rfl (fun ls hl => ?_)
        refine lv_iload hx hb dX0_leastSand_71 (lv_at hl 0 rfl) ?_
        refine lv_iload hx hb dX0_leastSand_73 (lv_at hl 6 rfl) ?_
        refine lv_iload_n hx hb dX0_leastSand_75 rfl (lv_at hl 4 rfl) ?_
        refine lv_isub hx hb dX0_leastSand_76 ?_
        refine lv_icmp_le (tgt := 82) hx hb dX0_leastSand_77 (by decide) (fun c_29 => ?_) (fun c_29 => ?_)
        · replace hf := hf.1 c_29
          refine lv_aload_n hx hb dX0_leastSand_82 rfl (lv_at hl 2 rfl) ?_
          refine g_get (w := .ref (d_t 0)) F hB 0 rfl fl_RX0_12 rfl dX0_leastSand_83 ?_
          refine lv_aload_n hx hb dX0_leastSand_86 rfl (lv_at hl 3 rfl) ?_
          refine k_vv (wr := [(a_t, ob 0 (rfd d_t) i_t j0), ((d_p1 8), ai k 8 r_p1_first), ((d_p1 0), ai k 400 r_p1_grades), ((d_t_row 7), ai k 20 r_t_row_bears_10)]) (rest := []) F hA hB (c_Row_takeOn l D k (d_t 0) d_t_row i_t_row_9 a_p1 d_p1 i_p1 r_p1_halts r_t_row_kinds r_t_row_longs r_t_row_weights r_t_row_strengths r_t_row_wears r_t_row_pushes r_t_row_helpers r_p1_kinds _  hf) ml_RX0_52 mv_yX8_takeOn [2, 1, 3, 5, 6, 7, 8, 9, 10, 11, 12] [0, 4, 13, 14] rfl rfl (by decide) (by decide) (by decide) 2 rfl rfl rfl hl.1 rfl (Nat.le_of_ble_eq_true rfl) ⟨Nat.le_of_ble_eq_true rfl, Nat.le_of_ble_eq_true rfl⟩ ⟨Nat.le_of_ble_eq_true rfl, Nat.le_of_ble_eq_true rfl⟩ dX0_leastSand_87 (fun w1 H locs hq hB => ?_)
          obtain ⟨i_t_row_21, r_t_row_kinds_22, r_t_row_longs_23, r_t_row_weights_24, r_t_row_strengths_25, r_t_row_wears_26, r_t_row_pushes_27, r_t_row_helpers_28, rfl, hf⟩ := hq
          replace hB : Bd D A s.heap (wd_Free_leastSand k a_t d_t i_t a_p1 d_p1 i_p1 d_t_row i_t_row_21 r_p1_halts r_p1_first r_t_row_kinds_22 r_t_row_longs_23 r_t_row_weights_24 r_t_row_strengths_25 r_t_row_wears_26 r_t_row_pushes_27 r_t_row_helpers_28 r_p1_kinds r_p1_grades r_t_row_bears_10) H locs := hB.sub [0, 5, 4, 6, 1, 7, 8, 9, 10, 11, 12, 13, 14, 2, 3] (by decide) rfl
          refine lv_iinc (v := (x7 + 1)) (lv' := [(7, .int (x7 + 1)), (6, .int (jmax x6 ((((i_p1 13) - (1 : Int32)) - (x5 + z_11)) / (i_p1 13)))), (5, .int (x5 + z_11)), (0, .ref a_t), (1, .ref a_p1), (2, .int x2), (3, .int x3)]) (k := 6) hx hb dX0_leastSand_90 hl rfl rfl (by decide) rfl (fun ls hl => ?_)
          refine lv_goto (tgt := 18) hx hb dX0_leastSand_93 (by decide) ?_
          exact hkr_18 _ _ _ _ _ _ _ _ _ _ _ _ _ _ _ hf hB (lv_sub hl [3, 4, 5, 6, 2, 1, 0] rfl)
        · replace hf := hf.2 c_29
          refine lv_iconst (v := -1) hx hb dX0_leastSand_80 (by decide) ?_
          exact r_i F hr hlk hB ⟨_, _, _, _, _, _, _, _, _, rfl, hf⟩ dX0_leastSand_81
      · replace hf := hf.2 c_30
        refine lv_iconst (v := -1) hx hb dX0_leastSand_48 (by decide) ?_
        exact r_i F hr hlk hB ⟨_, _, _, _, _, _, _, _, _, rfl, hf⟩ dX0_leastSand_49

set_option maxRecDepth 100000 in
set_option maxHeartbeats 4000000 in
theorem lt_Free_leastSand_18 {p : Program} {l : Launch} {e : Env} {s : State} {m : MethodId} {below : List Frame} {meth : Method} {c : Code} {A : Nat → Prop} {D : va_G} {k : Nat → ClassId} {a_t : Nat} {d_t : Nat → Nat} {i_t : Nat → Int32} {a_p1 : Nat} {d_p1 : Nat → Nat} {i_p1 : Nat → Int32} {d_t_row : Nat → Nat} {r_p1_halts : Nat → Int32} {r_p1_first : Nat → Int32} {r_p1_kinds : Nat → Int32} {r_p1_grades : Nat → Int32} {n2 : Int32} {n3 : Int32} {n4 : Int32} {Q : Int32 → (Nat → Int32) → (Nat → Int32) → (Nat → Int32) → (Nat → Int32) → (Nat → Int32) → (Nat → Int32) → (Nat → Int32) → (Nat → Int32) → (Nat → Int32) → Prop}  {x2 : Int32} {x3 : Int32} {kx_18 : (Int32) → (Nat → Int32) → (Nat → Int32) → (Nat → Int32) → (Nat → Int32) → (Nat → Int32) → (Nat → Int32) → (Nat → Int32) → (Nat → Int32) → (Nat → Int32) → Prop} (F : Fx p m c cX0_leastSand 8 s ([.ref a_t, .ref a_p1, .int n2, .int n3, .int n4] : List Value).toArray RX0 D k) (hr : meth.sig.returnType = (some .int)) (hlk : meth.locks = false) (hA : ∀ q : Nat, s.heap.size ≤ q → A q) (hkx_18 : ∀ (x6 : Int32) (i_t_row : Nat → Int32) (r_t_row_kinds : Nat → Int32) (r_t_row_longs : Nat → Int32) (r_t_row_weights : Nat → Int32) (r_t_row_strengths : Nat → Int32) (r_t_row_wears : Nat → Int32) (r_t_row_pushes : Nat → Int32) (r_t_row_helpers : Nat → Int32) (r_t_row_bears : Nat → Int32) (H : Heap) (locs : List Loc) (ls : Array Slot), kx_18 x6 i_t_row r_t_row_kinds r_t_row_longs r_t_row_weights r_t_row_strengths r_t_row_wears r_t_row_pushes r_t_row_helpers r_t_row_bears → Bd D A s.heap (wd_Free_leastSand k a_t d_t i_t a_p1 d_p1 i_p1 d_t_row i_t_row r_p1_halts r_p1_first r_t_row_kinds r_t_row_longs r_t_row_weights r_t_row_strengths r_t_row_wears r_t_row_pushes r_t_row_helpers r_p1_kinds r_p1_grades r_t_row_bears) H locs → lv_has ls 8 [(6, .int x6)] → W p l e { frames := 5, cells := 0, slots := 0, locals := 112 } s m ([.ref a_t, .ref a_p1, .int n2, .int n3, .int n4] : List Value).toArray below meth c H locs 0 0 (Ei below (fun r w => ∃ (i_t_row : Nat → Int32), ∃ (r_t_row_kinds : Nat → Int32), ∃ (r_t_row_longs : Nat → Int32), ∃ (r_t_row_weights : Nat → Int32), ∃ (r_t_row_strengths : Nat → Int32), ∃ (r_t_row_wears : Nat → Int32), ∃ (r_t_row_pushes : Nat → Int32), ∃ (r_t_row_helpers : Nat → Int32), ∃ (r_t_row_bears : Nat → Int32), w = (wd_Free_leastSand k a_t d_t i_t a_p1 d_p1 i_p1 d_t_row i_t_row r_p1_halts r_p1_first r_t_row_kinds r_t_row_longs r_t_row_weights r_t_row_strengths r_t_row_wears r_t_row_pushes r_t_row_helpers r_p1_kinds r_p1_grades r_t_row_bears) ∧ Q r i_t_row r_t_row_kinds r_t_row_longs r_t_row_weights r_t_row_strengths r_t_row_wears r_t_row_pushes r_t_row_helpers r_t_row_bears) D k A ([.ref a_t, .ref a_p1, .int n2, .int n3, .int n4] : List Value).toArray s 0 0) (F0 m 96 ls [])) :
    ∀ n : Nat, ∀ (x5 : Int32) (x6 : Int32) (x7 : Int32) (i_t_row : Nat → Int32) (r_t_row_kinds : Nat → Int32) (r_t_row_longs : Nat → Int32) (r_t_row_weights : Nat → Int32) (r_t_row_strengths : Nat → Int32) (r_t_row_wears : Nat → Int32) (r_t_row_pushes : Nat → Int32) (r_t_row_helpers : Nat → Int32) (r_t_row_bears : Nat → Int32) (H : Heap) (locs : List Loc) (ls : Array Slot), lp_Free_leastSand_18 i_p1 r_p1_halts r_p1_kinds r_p1_grades x2 x3 Q kx_18 n x5 x6 x7 i_t_row r_t_row_kinds r_t_row_longs r_t_row_weights r_t_row_strengths r_t_row_wears r_t_row_pushes r_t_row_helpers r_t_row_bears → Bd D A s.heap (wd_Free_leastSand k a_t d_t i_t a_p1 d_p1 i_p1 d_t_row i_t_row r_p1_halts r_p1_first r_t_row_kinds r_t_row_longs r_t_row_weights r_t_row_strengths r_t_row_wears r_t_row_pushes r_t_row_helpers r_p1_kinds r_p1_grades r_t_row_bears) H locs → lv_has ls 8 [(0, .ref a_t), (1, .ref a_p1), (2, .int x2), (3, .int x3), (5, .int x5), (6, .int x6), (7, .int x7)] → W p l e { frames := 5, cells := 0, slots := 0, locals := 112 } s m ([.ref a_t, .ref a_p1, .int n2, .int n3, .int n4] : List Value).toArray below meth c H locs 0 0 (Ei below (fun r w => ∃ (i_t_row : Nat → Int32), ∃ (r_t_row_kinds : Nat → Int32), ∃ (r_t_row_longs : Nat → Int32), ∃ (r_t_row_weights : Nat → Int32), ∃ (r_t_row_strengths : Nat → Int32), ∃ (r_t_row_wears : Nat → Int32), ∃ (r_t_row_pushes : Nat → Int32), ∃ (r_t_row_helpers : Nat → Int32), ∃ (r_t_row_bears : Nat → Int32), w = (wd_Free_leastSand k a_t d_t i_t a_p1 d_p1 i_p1 d_t_row i_t_row r_p1_halts r_p1_first r_t_row_kinds r_t_row_longs r_t_row_weights r_t_row_strengths r_t_row_wears r_t_row_pushes r_t_row_helpers r_p1_kinds r_p1_grades r_t_row_bears) ∧ Q r i_t_row r_t_row_kinds r_t_row_longs r_t_row_weights r_t_row_strengths r_t_row_wears r_t_row_pushes r_t_row_helpers r_t_row_bears) D k A ([.ref a_t, .ref a_p1, .int n2, .int n3, .int n4] : List Value).toArray s 0 0) (F0 m 18 ls []) := by
  intro n
  induction n with
  | zero => intro x5 x6 x7 i_t_row r_t_row_kinds r_t_row_longs r_t_row_weights r_t_row_strengths r_t_row_wears r_t_row_pushes r_t_row_helpers r_t_row_bears H locs ls hf; exact absurd hf (fun h => h)
  | succ n ih => exact bt_Free_leastSand_18 F hr hlk hA hkx_18 ih

set_option maxRecDepth 100000 in
set_option maxHeartbeats 4000000 in
theorem c_Free_leastSand (l : Launch) (D : va_G) (k : Nat → ClassId) (a_t : Nat) (d_t : Nat → Nat) (i_t : Nat → Int32) (a_p1 : Nat) (d_p1 : Nat → Nat) (i_p1 : Nat → Int32) (d_t_row : Nat → Nat) (i_t_row : Nat → Int32) (r_p1_halts : Nat → Int32) (r_p1_first : Nat → Int32) (r_t_row_kinds : Nat → Int32) (r_t_row_longs : Nat → Int32) (r_t_row_weights : Nat → Int32) (r_t_row_strengths : Nat → Int32) (r_t_row_wears : Nat → Int32) (r_t_row_pushes : Nat → Int32) (r_t_row_helpers : Nat → Int32) (r_p1_kinds : Nat → Int32) (r_p1_grades : Nat → Int32) (r_t_row_bears : Nat → Int32) (n2 : Int32) (n3 : Int32) (n4 : Int32) (Q : Int32 → (Nat → Int32) → (Nat → Int32) → (Nat → Int32) → (Nat → Int32) → (Nat → Int32) → (Nat → Int32) → (Nat → Int32) → (Nat → Int32) → (Nat → Int32) → Prop)  (hf : w_Free_leastSand i_p1 i_t_row r_p1_halts r_p1_first r_t_row_kinds r_t_row_longs r_t_row_weights r_t_row_strengths r_t_row_wears r_t_row_pushes r_t_row_helpers r_p1_kinds r_p1_grades r_t_row_bears n2 n3 n4 Q) : CtI l yX0_leastSand cX0_leastSand 8 (some .int) 5 112 0 0 D k [.ref a_t, .ref a_p1, .int n2, .int n3, .int n4] (wd_Free_leastSand k a_t d_t i_t a_p1 d_p1 i_p1 d_t_row i_t_row r_p1_halts r_p1_first r_t_row_kinds r_t_row_longs r_t_row_weights r_t_row_strengths r_t_row_wears r_t_row_pushes r_t_row_helpers r_p1_kinds r_p1_grades r_t_row_bears) (fun r w => ∃ (i_t_row : Nat → Int32), ∃ (r_t_row_kinds : Nat → Int32), ∃ (r_t_row_longs : Nat → Int32), ∃ (r_t_row_weights : Nat → Int32), ∃ (r_t_row_strengths : Nat → Int32), ∃ (r_t_row_wears : Nat → Int32), ∃ (r_t_row_pushes : Nat → Int32), ∃ (r_t_row_helpers : Nat → Int32), ∃ (r_t_row_bears : Nat → Int32), w = (wd_Free_leastSand k a_t d_t i_t a_p1 d_p1 i_p1 d_t_row i_t_row r_p1_halts r_p1_first r_t_row_kinds r_t_row_longs r_t_row_weights r_t_row_strengths r_t_row_wears r_t_row_pushes r_t_row_helpers r_p1_kinds r_p1_grades r_t_row_bears) ∧ Q r i_t_row r_t_row_kinds r_t_row_longs r_t_row_weights r_t_row_strengths r_t_row_wears r_t_row_pushes r_t_row_helpers r_t_row_bears) := by
  refine CtI.of (by decide) (Nat.le_of_ble_eq_true rfl) ?_
  intro p e s m below meth c A F hr hlk hnm hA hB ls hl
  have hx := F.x
  have hb := F.b
  unfold w_Free_leastSand at hf
  replace hl : lv_has ls 8 [(0, .ref a_t), (1, .ref a_p1), (2, .int n2), (3, .int n3), (4, .int n4)] := hl
  refine lv_aload_n hx hb dX0_leastSand_0 rfl (lv_at hl 0 rfl) ?_
  refine lv_aload_n hx hb dX0_leastSand_1 rfl (lv_at hl 1 rfl) ?_
  refine lv_iload_n hx hb dX0_leastSand_2 rfl (lv_at hl 2 rfl) ?_
  refine k_vv (wr := [((d_p1 0), ai k 400 r_p1_grades), ((d_t_row 7), ai k 20 r_t_row_bears)]) (rest := []) F hA hB (c_Free_start l D k a_t d_t i_t a_p1 d_p1 i_p1 d_t_row i_t_row r_p1_halts r_p1_first r_t_row_kinds r_t_row_longs r_t_row_weights r_t_row_strengths r_t_row_wears r_t_row_pushes r_t_row_helpers r_p1_kinds n2 _  hf) ml_RX0_73 mv_yX0_start [0, 1, 2, 3, 4, 5, 6, 7, 8, 9, 10, 11, 12] [13, 14] rfl rfl (by decide) (by decide) (by decide) 0 rfl rfl rfl hl.1 rfl (Nat.le_of_ble_eq_true rfl) ⟨Nat.le_of_ble_eq_true rfl, Nat.le_of_ble_eq_true rfl⟩ ⟨Nat.le_of_ble_eq_true rfl, Nat.le_of_ble_eq_true rfl⟩ dX0_leastSand_3 (fun w1 H locs hq hB => ?_)
  obtain ⟨i_t_row_1, r_t_row_kinds_2, r_t_row_longs_3, r_t_row_weights_4, r_t_row_strengths_5, r_t_row_wears_6, r_t_row_pushes_7, r_t_row_helpers_8, rfl, hf⟩ := hq
  replace hB : Bd D A s.heap (wd_Free_leastSand k a_t d_t i_t a_p1 d_p1 i_p1 d_t_row i_t_row_1 r_p1_halts r_p1_first r_t_row_kinds_2 r_t_row_longs_3 r_t_row_weights_4 r_t_row_strengths_5 r_t_row_wears_6 r_t_row_pushes_7 r_t_row_helpers_8 r_p1_kinds r_p1_grades r_t_row_bears) H locs := hB.sub [2, 3, 4, 5, 6, 7, 8, 9, 10, 11, 12, 13, 14, 0, 1] (by decide) rfl
  refine lv_iload hx hb dX0_leastSand_6 (lv_at hl 4 rfl) ?_
  refine lv_istore (lv' := [(5, .int n4), (0, .ref a_t), (1, .ref a_p1), (2, .int n2), (3, .int n3), (4, .int n4)]) hx hb dX0_leastSand_8 hl (by decide) rfl (fun ls hl => ?_)
  refine lv_iconst (v := 0) hx hb dX0_leastSand_10 (by decide) ?_
  refine lv_istore (lv' := [(6, .int (0 : Int32)), (5, .int n4), (0, .ref a_t), (1, .ref a_p1), (2, .int n2), (3, .int n3), (4, .int n4)]) hx hb dX0_leastSand_11 hl (by decide) rfl (fun ls hl => ?_)
  refine lv_iload_n hx hb dX0_leastSand_13 rfl (lv_at hl 4 rfl) ?_
  refine lv_iconst (v := 1) hx hb dX0_leastSand_14 (by decide) ?_
  refine lv_iadd hx hb dX0_leastSand_15 ?_
  refine lv_istore (lv' := [(7, .int (n2 + (1 : Int32))), (6, .int (0 : Int32)), (5, .int n4), (0, .ref a_t), (1, .ref a_p1), (2, .int n2), (3, .int n3), (4, .int n4)]) hx hb dX0_leastSand_16 hl (by decide) rfl (fun ls hl => ?_)
  obtain ⟨n_43, hf⟩ := hf
  refine lt_Free_leastSand_18 F hr hlk hA (fun x6_33 i_t_row_34 r_t_row_kinds_35 r_t_row_longs_36 r_t_row_weights_37 r_t_row_strengths_38 r_t_row_wears_39 r_t_row_pushes_40 r_t_row_helpers_41 r_t_row_bears_42 H locs ls hf hB hl => ?_) n_43 _ _ _ _ _ _ _ _ _ _ _ _ _ _ _ hf hB (lv_sub hl [3, 4, 5, 6, 2, 1, 0] rfl)
  refine lv_iload hx hb dX0_leastSand_96 (lv_at hl 0 rfl) ?_
  exact r_i F hr hlk hB ⟨_, _, _, _, _, _, _, _, _, rfl, hf⟩ dX0_leastSand_98

/-! LongTrain.Free.comesUnbroken -/
set_option maxRecDepth 100000 in
set_option maxHeartbeats 4000000 in
theorem bt_Free_comesUnbroken_9 {p : Program} {l : Launch} {e : Env} {s : State} {m : MethodId} {below : List Frame} {meth : Method} {c : Code} {A : Nat → Prop} {D : va_G} {k : Nat → ClassId} {a_t : Nat} {d_t : Nat → Nat} {i_t : Nat → Int32} {a_p1 : Nat} {d_p1 : Nat → Nat} {i_p1 : Nat → Int32} {d_t_row : Nat → Nat} {r_p1_grades : Nat → Int32} {r_p1_halts : Nat → Int32} {r_p1_kinds : Nat → Int32} {n2 : Int32} {n3 : Int32} {n4 : Int32} {Q : Int32 → (Nat → Int32) → (Nat → Int32) → (Nat → Int32) → (Nat → Int32) → (Nat → Int32) → (Nat → Int32) → (Nat → Int32) → (Nat → Int32) → (Nat → Int32) → Prop}  {x3 : Int32} {kx_9 : (Nat → Int32) → (Nat → Int32) → (Nat → Int32) → (Nat → Int32) → (Nat → Int32) → (Nat → Int32) → (Nat → Int32) → (Nat → Int32) → (Nat → Int32) → Prop} {kr_9 : (Int32) → (Int32) → (Nat → Int32) → (Nat → Int32) → (Nat → Int32) → (Nat → Int32) → (Nat → Int32) → (Nat → Int32) → (Nat → Int32) → (Nat → Int32) → (Nat → Int32) → Prop} (F : Fx p m c cX0_comesUnbroken 7 s ([.ref a_t, .ref a_p1, .int n2, .int n3, .int n4] : List Value).toArray RX0 D k) (hr : meth.sig.returnType = (some .boolean)) (hlk : meth.locks = false) (hA : ∀ q : Nat, s.heap.size ≤ q → A q) (hkx_9 : ∀ (i_t_row : Nat → Int32) (r_t_row_longs : Nat → Int32) (r_t_row_weights : Nat → Int32) (r_t_row_pushes : Nat → Int32) (r_t_row_bears : Nat → Int32) (r_t_row_strengths : Nat → Int32) (r_t_row_kinds : Nat → Int32) (r_t_row_wears : Nat → Int32) (r_t_row_helpers : Nat → Int32) (H : Heap) (locs : List Loc) (ls : Array Slot), kx_9 i_t_row r_t_row_longs r_t_row_weights r_t_row_pushes r_t_row_bears r_t_row_strengths r_t_row_kinds r_t_row_wears r_t_row_helpers → Bd D A s.heap (wd_Free_comesUnbroken k a_t d_t i_t a_p1 d_p1 i_p1 d_t_row i_t_row r_t_row_longs r_p1_grades r_t_row_weights r_t_row_pushes r_t_row_bears r_t_row_strengths r_p1_halts r_t_row_kinds r_t_row_wears r_t_row_helpers r_p1_kinds) H locs → lv_has ls 7 [] → W p l e { frames := 4, cells := 0, slots := 0, locals := 89 } s m ([.ref a_t, .ref a_p1, .int n2, .int n3, .int n4] : List Value).toArray below meth c H locs 0 0 (Ei below (fun r w => (r = 0 ∨ r = 1) ∧ (∃ (i_t_row : Nat → Int32), ∃ (r_t_row_longs : Nat → Int32), ∃ (r_t_row_weights : Nat → Int32), ∃ (r_t_row_pushes : Nat → Int32), ∃ (r_t_row_bears : Nat → Int32), ∃ (r_t_row_strengths : Nat → Int32), ∃ (r_t_row_kinds : Nat → Int32), ∃ (r_t_row_wears : Nat → Int32), ∃ (r_t_row_helpers : Nat → Int32), w = (wd_Free_comesUnbroken k a_t d_t i_t a_p1 d_p1 i_p1 d_t_row i_t_row r_t_row_longs r_p1_grades r_t_row_weights r_t_row_pushes r_t_row_bears r_t_row_strengths r_p1_halts r_t_row_kinds r_t_row_wears r_t_row_helpers r_p1_kinds) ∧ Q r i_t_row r_t_row_longs r_t_row_weights r_t_row_pushes r_t_row_bears r_t_row_strengths r_t_row_kinds r_t_row_wears r_t_row_helpers)) D k A ([.ref a_t, .ref a_p1, .int n2, .int n3, .int n4] : List Value).toArray s 0 0) (F0 m 58 ls [])) (hkr_9 : ∀ (x5 : Int32) (x6 : Int32) (i_t_row : Nat → Int32) (r_t_row_longs : Nat → Int32) (r_t_row_weights : Nat → Int32) (r_t_row_pushes : Nat → Int32) (r_t_row_bears : Nat → Int32) (r_t_row_strengths : Nat → Int32) (r_t_row_kinds : Nat → Int32) (r_t_row_wears : Nat → Int32) (r_t_row_helpers : Nat → Int32) (H : Heap) (locs : List Loc) (ls : Array Slot), kr_9 x5 x6 i_t_row r_t_row_longs r_t_row_weights r_t_row_pushes r_t_row_bears r_t_row_strengths r_t_row_kinds r_t_row_wears r_t_row_helpers → Bd D A s.heap (wd_Free_comesUnbroken k a_t d_t i_t a_p1 d_p1 i_p1 d_t_row i_t_row r_t_row_longs r_p1_grades r_t_row_weights r_t_row_pushes r_t_row_bears r_t_row_strengths r_p1_halts r_t_row_kinds r_t_row_wears r_t_row_helpers r_p1_kinds) H locs → lv_has ls 7 [(0, .ref a_t), (1, .ref a_p1), (3, .int x3), (5, .int x5), (6, .int x6)] → W p l e { frames := 4, cells := 0, slots := 0, locals := 89 } s m ([.ref a_t, .ref a_p1, .int n2, .int n3, .int n4] : List Value).toArray below meth c H locs 0 0 (Ei below (fun r w => (r = 0 ∨ r = 1) ∧ (∃ (i_t_row : Nat → Int32), ∃ (r_t_row_longs : Nat → Int32), ∃ (r_t_row_weights : Nat → Int32), ∃ (r_t_row_pushes : Nat → Int32), ∃ (r_t_row_bears : Nat → Int32), ∃ (r_t_row_strengths : Nat → Int32), ∃ (r_t_row_kinds : Nat → Int32), ∃ (r_t_row_wears : Nat → Int32), ∃ (r_t_row_helpers : Nat → Int32), w = (wd_Free_comesUnbroken k a_t d_t i_t a_p1 d_p1 i_p1 d_t_row i_t_row r_t_row_longs r_p1_grades r_t_row_weights r_t_row_pushes r_t_row_bears r_t_row_strengths r_p1_halts r_t_row_kinds r_t_row_wears r_t_row_helpers r_p1_kinds) ∧ Q r i_t_row r_t_row_longs r_t_row_weights r_t_row_pushes r_t_row_bears r_t_row_strengths r_t_row_kinds r_t_row_wears r_t_row_helpers)) D k A ([.ref a_t, .ref a_p1, .int n2, .int n3, .int n4] : List Value).toArray s 0 0) (F0 m 9 ls [])) :
    ∀ (x5 : Int32) (x6 : Int32) (i_t_row : Nat → Int32) (r_t_row_longs : Nat → Int32) (r_t_row_weights : Nat → Int32) (r_t_row_pushes : Nat → Int32) (r_t_row_bears : Nat → Int32) (r_t_row_strengths : Nat → Int32) (r_t_row_kinds : Nat → Int32) (r_t_row_wears : Nat → Int32) (r_t_row_helpers : Nat → Int32) (H : Heap) (locs : List Loc) (ls : Array Slot), b_Free_comesUnbroken_9 i_p1 r_p1_grades r_p1_halts r_p1_kinds x3 Q kx_9 kr_9 x5 x6 i_t_row r_t_row_longs r_t_row_weights r_t_row_pushes r_t_row_bears r_t_row_strengths r_t_row_kinds r_t_row_wears r_t_row_helpers → Bd D A s.heap (wd_Free_comesUnbroken k a_t d_t i_t a_p1 d_p1 i_p1 d_t_row i_t_row r_t_row_longs r_p1_grades r_t_row_weights r_t_row_pushes r_t_row_bears r_t_row_strengths r_p1_halts r_t_row_kinds r_t_row_wears r_t_row_helpers r_p1_kinds) H locs → lv_has ls 7 [(0, .ref a_t), (1, .ref a_p1), (3, .int x3), (5, .int x5), (6, .int x6)] → W p l e { frames := 4, cells := 0, slots := 0, locals := 89 } s m ([.ref a_t, .ref a_p1, .int n2, .int n3, .int n4] : List Value).toArray below meth c H locs 0 0 (Ei below (fun r w => (r = 0 ∨ r = 1) ∧ (∃ (i_t_row : Nat → Int32), ∃ (r_t_row_longs : Nat → Int32), ∃ (r_t_row_weights : Nat → Int32), ∃ (r_t_row_pushes : Nat → Int32), ∃ (r_t_row_bears : Nat → Int32), ∃ (r_t_row_strengths : Nat → Int32), ∃ (r_t_row_kinds : Nat → Int32), ∃ (r_t_row_wears : Nat → Int32), ∃ (r_t_row_helpers : Nat → Int32), w = (wd_Free_comesUnbroken k a_t d_t i_t a_p1 d_p1 i_p1 d_t_row i_t_row r_t_row_longs r_p1_grades r_t_row_weights r_t_row_pushes r_t_row_bears r_t_row_strengths r_p1_halts r_t_row_kinds r_t_row_wears r_t_row_helpers r_p1_kinds) ∧ Q r i_t_row r_t_row_longs r_t_row_weights r_t_row_pushes r_t_row_bears r_t_row_strengths r_t_row_kinds r_t_row_wears r_t_row_helpers)) D k A ([.ref a_t, .ref a_p1, .int n2, .int n3, .int n4] : List Value).toArray s 0 0) (F0 m 9 ls []) := by
  have hx := F.x
  have hb := F.b
  intro x5 x6 i_t_row r_t_row_longs r_t_row_weights r_t_row_pushes r_t_row_bears r_t_row_strengths r_t_row_kinds r_t_row_wears r_t_row_helpers H locs ls hf hB hl
  unfold b_Free_comesUnbroken_9 at hf
  refine lv_iload hx hb dX0_comesUnbroken_9 (lv_at hl 4 rfl) ?_
  refine lv_iload_n hx hb dX0_comesUnbroken_11 rfl (lv_at hl 2 rfl) ?_
  refine lv_icmp_gt (tgt := 58) hx hb dX0_comesUnbroken_12 (by decide) (fun c_16 => ?_) (fun c_16 => ?_)
  · replace hf := hf.1 c_16
    exact hkx_9 _ _ _ _ _ _ _ _ _ _ _ _ hf hB (lv_sub hl [] rfl)
  · replace hf := hf.2 c_16
    refine lv_iload hx hb dX0_comesUnbroken_15 (lv_at hl 3 rfl) ?_
    refine lv_aload_n hx hb dX0_comesUnbroken_17 rfl (lv_at hl 0 rfl) ?_
    refine lv_iload hx hb dX0_comesUnbroken_18 (lv_at hl 4 rfl) ?_
    refine lv_aload_n hx hb dX0_comesUnbroken_20 rfl (lv_at hl 1 rfl) ?_
    refine k_vi (wr := [((d_t_row 3), ai k 20 r_t_row_strengths), ((d_p1 2), ai k 30 r_p1_halts), ((d_t_row 0), ai k 20 r_t_row_kinds), ((d_t_row 4), ai k 20 r_t_row_wears), ((d_t_row 6), ai k 20 r_t_row_helpers), ((d_p1 6), ai k 18 r_p1_kinds)]) (rest := [.int x5]) F hA hB (c_Free_gainAt l D k a_t d_t i_t a_p1 d_p1 i_p1 d_t_row i_t_row r_t_row_longs r_p1_grades r_t_row_weights r_t_row_pushes r_t_row_bears x6 _  hf) ml_RX0_76 mv_yX0_gainAt [0, 1, 2, 3, 4, 5, 6, 7] [8, 9, 10, 11, 12, 13] rfl rfl (by decide) (by decide) (by decide) 0 rfl rfl rfl hl.1 rfl (Nat.le_of_ble_eq_true rfl) ⟨Nat.le_of_ble_eq_true rfl, Nat.le_of_ble_eq_true rfl⟩ ⟨Nat.le_of_ble_eq_true rfl, Nat.le_of_ble_eq_true rfl⟩ dX0_comesUnbroken_21 (fun z_3 w1 H locs hq hB => ?_)
    obtain ⟨i_t_row_1, r_t_row_bears_2, rfl, hf⟩ := hq
    replace hB : Bd D A s.heap (wd_Free_comesUnbroken k a_t d_t i_t a_p1 d_p1 i_p1 d_t_row i_t_row_1 r_t_row_longs r_p1_grades r_t_row_weights r_t_row_pushes r_t_row_bears_2 r_t_row_strengths r_p1_halts r_t_row_kinds r_t_row_wears r_t_row_helpers r_p1_kinds) H locs := hB.sub [6, 7, 8, 9, 10, 11, 12, 13, 0, 1, 2, 3, 4, 5] (by decide) rfl
    refine lv_iadd hx hb dX0_comesUnbroken_24 ?_
    refine lv_istore (lv' := [(5, .int (x5 + z_3)), (0, .ref a_t), (1, .ref a_p1), (3, .int x3), (6, .int x6)]) hx hb dX0_comesUnbroken_25 hl (by decide) rfl (fun ls hl => ?_)
    refine lv_iload hx hb dX0_comesUnbroken_27 (lv_at hl 0 rfl) ?_
    refine lv_if_lt (tgt := 42) hx hb dX0_comesUnbroken_29 (by decide) (fun c_15 => ?_) (fun c_15 => ?_)
    · replace hf := hf.1 c_15
      refine lv_iconst (v := 0) hx hb dX0_comesUnbroken_42 (by decide) ?_
      exact r_z F hr hlk hB (Or.inl rfl) ⟨Or.inl rfl, _, _, _, _, _, _, _, _, _, rfl, hf⟩ dX0_comesUnbroken_43
    · replace hf := hf.2 c_15
      refine lv_aload_n hx hb dX0_comesUnbroken_32 rfl (lv_at hl 1 rfl) ?_
      refine g_get (w := .ref (d_t 0)) F hB 0 rfl fl_RX0_12 rfl dX0_comesUnbroken_33 ?_
      refine k_vi (wr := [(a_t, ob 0 (rfd d_t) i_t j0), (a_p1, ob 3 (rfd d_p1) i_p1 j0), ((d_t_row 1), ai k 20 r_t_row_longs), ((d_p1 0), ai k 400 r_p1_grades), ((d_t_row 2), ai k 20 r_t_row_weights), ((d_t_row 5), ai k 20 r_t_row_pushes), ((d_p1 2), ai k 30 r_p1_halts), ((d_t_row 0), ai k 20 r_t_row_kinds), ((d_t_row 4), ai k 20 r_t_row_wears), ((d_t_row 6), ai k 20 r_t_row_helpers), ((d_p1 6), ai k 18 r_p1_kinds)]) (rest := []) F hA hB (c_Row_isOverborne l D k (d_t 0) d_t_row i_t_row_1 r_t_row_bears_2 r_t_row_strengths _  hf) ml_RX0_97 mv_yX8_isOverborne [2, 7, 8] [0, 1, 3, 4, 5, 6, 9, 10, 11, 12, 13] rfl rfl (by decide) (by decide) (by decide) 2 rfl rfl rfl hl.1 rfl (Nat.le_of_ble_eq_true rfl) ⟨Nat.le_of_ble_eq_true rfl, Nat.le_of_ble_eq_true rfl⟩ ⟨Nat.le_of_ble_eq_true rfl, Nat.le_of_ble_eq_true rfl⟩ dX0_comesUnbroken_36 (fun z_4 w1 H locs hq hB => ?_)
      obtain ⟨h_5, rfl, hf⟩ := hq
      replace hB : Bd D A s.heap (wd_Free_comesUnbroken k a_t d_t i_t a_p1 d_p1 i_p1 d_t_row i_t_row_1 r_t_row_longs r_p1_grades r_t_row_weights r_t_row_pushes r_t_row_bears_2 r_t_row_strengths r_p1_halts r_t_row_kinds r_t_row_wears r_t_row_helpers r_p1_kinds) H locs := hB.sub [0, 1, 11, 2, 3, 4, 5, 12, 13, 6, 7, 8, 9, 10] (by decide) rfl
      refine lv_if_eq (tgt := 44) hx hb dX0_comesUnbroken_39 (by decide) (fun c_14 => ?_) (fun c_14 => ?_)
      · replace hf := hf.1 c_14
        refine lv_aload_n hx hb dX0_comesUnbroken_44 rfl (lv_at hl 1 rfl) ?_
        refine g_get (w := .ref (d_t 0)) F hB 0 rfl fl_RX0_12 rfl dX0_comesUnbroken_45 ?_
        refine lv_aload_n hx hb dX0_comesUnbroken_48 rfl (lv_at hl 2 rfl) ?_
        refine k_vv (wr := [(a_t, ob 0 (rfd d_t) i_t j0), ((d_p1 0), ai k 400 r_p1_grades), ((d_t_row 7), ai k 20 r_t_row_bears_2)]) (rest := []) F hA hB (c_Row_takeOn l D k (d_t 0) d_t_row i_t_row_1 a_p1 d_p1 i_p1 r_p1_halts r_t_row_kinds r_t_row_longs r_t_row_weights r_t_row_strengths r_t_row_wears r_t_row_pushes r_t_row_helpers r_p1_kinds _  hf) ml_RX0_52 mv_yX8_takeOn [2, 1, 9, 10, 3, 5, 8, 11, 6, 12, 13] [0, 4, 7] rfl rfl (by decide) (by decide) (by decide) 2 rfl rfl rfl hl.1 rfl (Nat.le_of_ble_eq_true rfl) ⟨Nat.le_of_ble_eq_true rfl, Nat.le_of_ble_eq_true rfl⟩ ⟨Nat.le_of_ble_eq_true rfl, Nat.le_of_ble_eq_true rfl⟩ dX0_comesUnbroken_49 (fun w1 H locs hq hB => ?_)
        obtain ⟨i_t_row_6, r_t_row_kinds_7, r_t_row_longs_8, r_t_row_weights_9, r_t_row_strengths_10, r_t_row_wears_11, r_t_row_pushes_12, r_t_row_helpers_13, rfl, hf⟩ := hq
        replace hB : Bd D A s.heap (wd_Free_comesUnbroken k a_t d_t i_t a_p1 d_p1 i_p1 d_t_row i_t_row_6 r_t_row_longs_8 r_p1_grades r_t_row_weights_9 r_t_row_pushes_12 r_t_row_bears_2 r_t_row_strengths_10 r_p1_halts r_t_row_kinds_7 r_t_row_wears_11 r_t_row_helpers_13 r_p1_kinds) H locs := hB.sub [0, 4, 3, 7, 1, 8, 11, 2, 9, 5, 6, 10, 12, 13] (by decide) rfl
        refine lv_iinc (v := (x6 + 1)) (lv' := [(6, .int (x6 + 1)), (5, .int (x5 + z_3)), (0, .ref a_t), (1, .ref a_p1), (3, .int x3)]) (k := 4) hx hb dX0_comesUnbroken_52 hl rfl rfl (by decide) rfl (fun ls hl => ?_)
        refine lv_goto (tgt := 9) hx hb dX0_comesUnbroken_55 (by decide) ?_
        exact hkr_9 _ _ _ _ _ _ _ _ _ _ _ _ _ _ hf hB (lv_sub hl [2, 3, 4, 1, 0] rfl)
      · replace hf := hf.2 c_14
        refine lv_iconst (v := 0) hx hb dX0_comesUnbroken_42 (by decide) ?_
        exact r_z F hr hlk hB (Or.inl rfl) ⟨Or.inl rfl, _, _, _, _, _, _, _, _, _, rfl, hf⟩ dX0_comesUnbroken_43

set_option maxRecDepth 100000 in
set_option maxHeartbeats 4000000 in
theorem lt_Free_comesUnbroken_9 {p : Program} {l : Launch} {e : Env} {s : State} {m : MethodId} {below : List Frame} {meth : Method} {c : Code} {A : Nat → Prop} {D : va_G} {k : Nat → ClassId} {a_t : Nat} {d_t : Nat → Nat} {i_t : Nat → Int32} {a_p1 : Nat} {d_p1 : Nat → Nat} {i_p1 : Nat → Int32} {d_t_row : Nat → Nat} {r_p1_grades : Nat → Int32} {r_p1_halts : Nat → Int32} {r_p1_kinds : Nat → Int32} {n2 : Int32} {n3 : Int32} {n4 : Int32} {Q : Int32 → (Nat → Int32) → (Nat → Int32) → (Nat → Int32) → (Nat → Int32) → (Nat → Int32) → (Nat → Int32) → (Nat → Int32) → (Nat → Int32) → (Nat → Int32) → Prop}  {x3 : Int32} {kx_9 : (Nat → Int32) → (Nat → Int32) → (Nat → Int32) → (Nat → Int32) → (Nat → Int32) → (Nat → Int32) → (Nat → Int32) → (Nat → Int32) → (Nat → Int32) → Prop} (F : Fx p m c cX0_comesUnbroken 7 s ([.ref a_t, .ref a_p1, .int n2, .int n3, .int n4] : List Value).toArray RX0 D k) (hr : meth.sig.returnType = (some .boolean)) (hlk : meth.locks = false) (hA : ∀ q : Nat, s.heap.size ≤ q → A q) (hkx_9 : ∀ (i_t_row : Nat → Int32) (r_t_row_longs : Nat → Int32) (r_t_row_weights : Nat → Int32) (r_t_row_pushes : Nat → Int32) (r_t_row_bears : Nat → Int32) (r_t_row_strengths : Nat → Int32) (r_t_row_kinds : Nat → Int32) (r_t_row_wears : Nat → Int32) (r_t_row_helpers : Nat → Int32) (H : Heap) (locs : List Loc) (ls : Array Slot), kx_9 i_t_row r_t_row_longs r_t_row_weights r_t_row_pushes r_t_row_bears r_t_row_strengths r_t_row_kinds r_t_row_wears r_t_row_helpers → Bd D A s.heap (wd_Free_comesUnbroken k a_t d_t i_t a_p1 d_p1 i_p1 d_t_row i_t_row r_t_row_longs r_p1_grades r_t_row_weights r_t_row_pushes r_t_row_bears r_t_row_strengths r_p1_halts r_t_row_kinds r_t_row_wears r_t_row_helpers r_p1_kinds) H locs → lv_has ls 7 [] → W p l e { frames := 4, cells := 0, slots := 0, locals := 89 } s m ([.ref a_t, .ref a_p1, .int n2, .int n3, .int n4] : List Value).toArray below meth c H locs 0 0 (Ei below (fun r w => (r = 0 ∨ r = 1) ∧ (∃ (i_t_row : Nat → Int32), ∃ (r_t_row_longs : Nat → Int32), ∃ (r_t_row_weights : Nat → Int32), ∃ (r_t_row_pushes : Nat → Int32), ∃ (r_t_row_bears : Nat → Int32), ∃ (r_t_row_strengths : Nat → Int32), ∃ (r_t_row_kinds : Nat → Int32), ∃ (r_t_row_wears : Nat → Int32), ∃ (r_t_row_helpers : Nat → Int32), w = (wd_Free_comesUnbroken k a_t d_t i_t a_p1 d_p1 i_p1 d_t_row i_t_row r_t_row_longs r_p1_grades r_t_row_weights r_t_row_pushes r_t_row_bears r_t_row_strengths r_p1_halts r_t_row_kinds r_t_row_wears r_t_row_helpers r_p1_kinds) ∧ Q r i_t_row r_t_row_longs r_t_row_weights r_t_row_pushes r_t_row_bears r_t_row_strengths r_t_row_kinds r_t_row_wears r_t_row_helpers)) D k A ([.ref a_t, .ref a_p1, .int n2, .int n3, .int n4] : List Value).toArray s 0 0) (F0 m 58 ls [])) :
    ∀ n : Nat, ∀ (x5 : Int32) (x6 : Int32) (i_t_row : Nat → Int32) (r_t_row_longs : Nat → Int32) (r_t_row_weights : Nat → Int32) (r_t_row_pushes : Nat → Int32) (r_t_row_bears : Nat → Int32) (r_t_row_strengths : Nat → Int32) (r_t_row_kinds : Nat → Int32) (r_t_row_wears : Nat → Int32) (r_t_row_helpers : Nat → Int32) (H : Heap) (locs : List Loc) (ls : Array Slot), lp_Free_comesUnbroken_9 i_p1 r_p1_grades r_p1_halts r_p1_kinds x3 Q kx_9 n x5 x6 i_t_row r_t_row_longs r_t_row_weights r_t_row_pushes r_t_row_bears r_t_row_strengths r_t_row_kinds r_t_row_wears r_t_row_helpers → Bd D A s.heap (wd_Free_comesUnbroken k a_t d_t i_t a_p1 d_p1 i_p1 d_t_row i_t_row r_t_row_longs r_p1_grades r_t_row_weights r_t_row_pushes r_t_row_bears r_t_row_strengths r_p1_halts r_t_row_kinds r_t_row_wears r_t_row_helpers r_p1_kinds) H locs → lv_has ls 7 [(0, .ref a_t), (1, .ref a_p1), (3, .int x3), (5, .int x5), (6, .int x6)] → W p l e { frames := 4, cells := 0, slots := 0, locals := 89 } s m ([.ref a_t, .ref a_p1, .int n2, .int n3, .int n4] : List Value).toArray below meth c H locs 0 0 (Ei below (fun r w => (r = 0 ∨ r = 1) ∧ (∃ (i_t_row : Nat → Int32), ∃ (r_t_row_longs : Nat → Int32), ∃ (r_t_row_weights : Nat → Int32), ∃ (r_t_row_pushes : Nat → Int32), ∃ (r_t_row_bears : Nat → Int32), ∃ (r_t_row_strengths : Nat → Int32), ∃ (r_t_row_kinds : Nat → Int32), ∃ (r_t_row_wears : Nat → Int32), ∃ (r_t_row_helpers : Nat → Int32), w = (wd_Free_comesUnbroken k a_t d_t i_t a_p1 d_p1 i_p1 d_t_row i_t_row r_t_row_longs r_p1_grades r_t_row_weights r_t_row_pushes r_t_row_bears r_t_row_strengths r_p1_halts r_t_row_kinds r_t_row_wears r_t_row_helpers r_p1_kinds) ∧ Q r i_t_row r_t_row_longs r_t_row_weights r_t_row_pushes r_t_row_bears r_t_row_strengths r_t_row_kinds r_t_row_wears r_t_row_helpers)) D k A ([.ref a_t, .ref a_p1, .int n2, .int n3, .int n4] : List Value).toArray s 0 0) (F0 m 9 ls []) := by
  intro n
  induction n with
  | zero => intro x5 x6 i_t_row r_t_row_longs r_t_row_weights r_t_row_pushes r_t_row_bears r_t_row_strengths r_t_row_kinds r_t_row_wears r_t_row_helpers H locs ls hf; exact absurd hf (fun h => h)
  | succ n ih => exact bt_Free_comesUnbroken_9 F hr hlk hA hkx_9 ih

set_option maxRecDepth 100000 in
set_option maxHeartbeats 4000000 in
theorem c_Free_comesUnbroken (l : Launch) (D : va_G) (k : Nat → ClassId) (a_t : Nat) (d_t : Nat → Nat) (i_t : Nat → Int32) (a_p1 : Nat) (d_p1 : Nat → Nat) (i_p1 : Nat → Int32) (d_t_row : Nat → Nat) (i_t_row : Nat → Int32) (r_t_row_longs : Nat → Int32) (r_p1_grades : Nat → Int32) (r_t_row_weights : Nat → Int32) (r_t_row_pushes : Nat → Int32) (r_t_row_bears : Nat → Int32) (r_t_row_strengths : Nat → Int32) (r_p1_halts : Nat → Int32) (r_t_row_kinds : Nat → Int32) (r_t_row_wears : Nat → Int32) (r_t_row_helpers : Nat → Int32) (r_p1_kinds : Nat → Int32) (n2 : Int32) (n3 : Int32) (n4 : Int32) (Q : Int32 → (Nat → Int32) → (Nat → Int32) → (Nat → Int32) → (Nat → Int32) → (Nat → Int32) → (Nat → Int32) → (Nat → Int32) → (Nat → Int32) → (Nat → Int32) → Prop)  (hf : w_Free_comesUnbroken i_p1 i_t_row r_t_row_longs r_p1_grades r_t_row_weights r_t_row_pushes r_t_row_bears r_t_row_strengths r_p1_halts r_t_row_kinds r_t_row_wears r_t_row_helpers r_p1_kinds n2 n3 n4 Q) : CtI l yX0_comesUnbroken cX0_comesUnbroken 7 (some .boolean) 4 89 0 0 D k [.ref a_t, .ref a_p1, .int n2, .int n3, .int n4] (wd_Free_comesUnbroken k a_t d_t i_t a_p1 d_p1 i_p1 d_t_row i_t_row r_t_row_longs r_p1_grades r_t_row_weights r_t_row_pushes r_t_row_bears r_t_row_strengths r_p1_halts r_t_row_kinds r_t_row_wears r_t_row_helpers r_p1_kinds) (fun r w => (r = 0 ∨ r = 1) ∧ (∃ (i_t_row : Nat → Int32), ∃ (r_t_row_longs : Nat → Int32), ∃ (r_t_row_weights : Nat → Int32), ∃ (r_t_row_pushes : Nat → Int32), ∃ (r_t_row_bears : Nat → Int32), ∃ (r_t_row_strengths : Nat → Int32), ∃ (r_t_row_kinds : Nat → Int32), ∃ (r_t_row_wears : Nat → Int32), ∃ (r_t_row_helpers : Nat → Int32), w = (wd_Free_comesUnbroken k a_t d_t i_t a_p1 d_p1 i_p1 d_t_row i_t_row r_t_row_longs r_p1_grades r_t_row_weights r_t_row_pushes r_t_row_bears r_t_row_strengths r_p1_halts r_t_row_kinds r_t_row_wears r_t_row_helpers r_p1_kinds) ∧ Q r i_t_row r_t_row_longs r_t_row_weights r_t_row_pushes r_t_row_bears r_t_row_strengths r_t_row_kinds r_t_row_wears r_t_row_helpers)) := by
  refine CtI.of (by decide) (Nat.le_of_ble_eq_true rfl) ?_
  intro p e s m below meth c A F hr hlk hnm hA hB ls hl
  have hx := F.x
  have hb := F.b
  unfold w_Free_comesUnbroken at hf
  replace hl : lv_has ls 7 [(0, .ref a_t), (1, .ref a_p1), (2, .int n2), (3, .int n3), (4, .int n4)] := hl
  refine lv_iload hx hb dX0_comesUnbroken_0 (lv_at hl 4 rfl) ?_
  refine lv_istore (lv' := [(5, .int n4), (0, .ref a_t), (1, .ref a_p1), (2, .int n2), (3, .int n3), (4, .int n4)]) hx hb dX0_comesUnbroken_2 hl (by decide) rfl (fun ls hl => ?_)
  refine lv_iload_n hx hb dX0_comesUnbroken_4 rfl (lv_at hl 3 rfl) ?_
  refine lv_iconst (v := 1) hx hb dX0_comesUnbroken_5 (by decide) ?_
  refine lv_iadd hx hb dX0_comesUnbroken_6 ?_
  refine lv_istore (lv' := [(6, .int (n2 + (1 : Int32))), (5, .int n4), (0, .ref a_t), (1, .ref a_p1), (2, .int n2), (3, .int n3), (4, .int n4)]) hx hb dX0_comesUnbroken_7 hl (by decide) rfl (fun ls hl => ?_)
  obtain ⟨n_26, hf⟩ := hf
  refine lt_Free_comesUnbroken_9 F hr hlk hA (fun i_t_row_17 r_t_row_longs_18 r_t_row_weights_19 r_t_row_pushes_20 r_t_row_bears_21 r_t_row_strengths_22 r_t_row_kinds_23 r_t_row_wears_24 r_t_row_helpers_25 H locs ls hf hB hl => ?_) n_26 _ _ _ _ _ _ _ _ _ _ _ _ _ _ hf hB (lv_sub hl [2, 3, 5, 1, 0] rfl)
  refine lv_iconst (v := 1) hx hb dX0_comesUnbroken_58 (by decide) ?_
  exact r_z F hr hlk hB (Or.inr rfl) ⟨Or.inr rfl, _, _, _, _, _, _, _, _, _, rfl, hf⟩ dX0_comesUnbroken_59

/-! LongTrain.Free.helpfulWagons -/
set_option maxRecDepth 100000 in
set_option maxHeartbeats 4000000 in
theorem bt_Free_helpfulWagons_21 {p : Program} {l : Launch} {e : Env} {s : State} {m : MethodId} {below : List Frame} {meth : Method} {c : Code} {A : Nat → Prop} {D : va_G} {k : Nat → ClassId} {a_t : Nat} {d_t : Nat → Nat} {i_t : Nat → Int32} {a_p1 : Nat} {d_p1 : Nat → Nat} {i_p1 : Nat → Int32} {d_t_row : Nat → Nat} {r_p1_halts : Nat → Int32} {r_p1_first : Nat → Int32} {r_p1_kinds : Nat → Int32} {r_p1_grades : Nat → Int32} {n2 : Int32} {n3 : Int32} {n4 : Int32} {n5 : Int32} {Q : Int32 → (Nat → Int32) → (Nat → Int32) → (Nat → Int32) → (Nat → Int32) → (Nat → Int32) → (Nat → Int32) → (Nat → Int32) → (Nat → Int32) → (Nat → Int32) → Prop}  {x2 : Int32} {x3 : Int32} {x4 : Int32} {x5 : Int32} {x6 : Int32} {kx_21 : (Int32) → (Nat → Int32) → (Nat → Int32) → (Nat → Int32) → (Nat → Int32) → (Nat → Int32) → (Nat → Int32) → (Nat → Int32) → (Nat → Int32) → (Nat → Int32) → Prop} {kr_21 : (Int32) → (Int32) → (Nat → Int32) → (Nat → Int32) → (Nat → Int32) → (Nat → Int32) → (Nat → Int32) → (Nat → Int32) → (Nat → Int32) → (Nat → Int32) → (Nat → Int32) → Prop} (F : Fx p m c cX0_helpfulWagons 9 s ([.ref a_t, .ref a_p1, .int n2, .int n3, .int n4, .int n5] : List Value).toArray RX0 D k) (hr : meth.sig.returnType = (some .int)) (hlk : meth.locks = false) (hA : ∀ q : Nat, s.heap.size ≤ q → A q) (hkx_21 : ∀ (x7 : Int32) (i_t_row : Nat → Int32) (r_t_row_kinds : Nat → Int32) (r_t_row_longs : Nat → Int32) (r_t_row_weights : Nat → Int32) (r_t_row_strengths : Nat → Int32) (r_t_row_wears : Nat → Int32) (r_t_row_pushes : Nat → Int32) (r_t_row_helpers : Nat → Int32) (r_t_row_bears : Nat → Int32) (H : Heap) (locs : List Loc) (ls : Array Slot), kx_21 x7 i_t_row r_t_row_kinds r_t_row_longs r_t_row_weights r_t_row_strengths r_t_row_wears r_t_row_pushes r_t_row_helpers r_t_row_bears → Bd D A s.heap (wd_Free_helpfulWagons k a_t d_t i_t a_p1 d_p1 i_p1 d_t_row i_t_row r_p1_halts r_p1_first r_t_row_kinds r_t_row_longs r_t_row_weights r_t_row_strengths r_t_row_wears r_t_row_pushes r_t_row_helpers r_p1_kinds r_p1_grades r_t_row_bears) H locs → lv_has ls 9 [(7, .int x7)] → W p l e { frames := 5, cells := 0, slots := 0, locals := 115 } s m ([.ref a_t, .ref a_p1, .int n2, .int n3, .int n4, .int n5] : List Value).toArray below meth c H locs 0 0 (Ei below (fun r w => ∃ (i_t_row : Nat → Int32), ∃ (r_t_row_kinds : Nat → Int32), ∃ (r_t_row_longs : Nat → Int32), ∃ (r_t_row_weights : Nat → Int32), ∃ (r_t_row_strengths : Nat → Int32), ∃ (r_t_row_wears : Nat → Int32), ∃ (r_t_row_pushes : Nat → Int32), ∃ (r_t_row_helpers : Nat → Int32), ∃ (r_t_row_bears : Nat → Int32), w = (wd_Free_helpfulWagons k a_t d_t i_t a_p1 d_p1 i_p1 d_t_row i_t_row r_p1_halts r_p1_first r_t_row_kinds r_t_row_longs r_t_row_weights r_t_row_strengths r_t_row_wears r_t_row_pushes r_t_row_helpers r_p1_kinds r_p1_grades r_t_row_bears) ∧ Q r i_t_row r_t_row_kinds r_t_row_longs r_t_row_weights r_t_row_strengths r_t_row_wears r_t_row_pushes r_t_row_helpers r_t_row_bears) D k A ([.ref a_t, .ref a_p1, .int n2, .int n3, .int n4, .int n5] : List Value).toArray s 0 0) (F0 m 72 ls [])) (hkr_21 : ∀ (x7 : Int32) (x8 : Int32) (i_t_row : Nat → Int32) (r_t_row_kinds : Nat → Int32) (r_t_row_longs : Nat → Int32) (r_t_row_weights : Nat → Int32) (r_t_row_strengths : Nat → Int32) (r_t_row_wears : Nat → Int32) (r_t_row_pushes : Nat → Int32) (r_t_row_helpers : Nat → Int32) (r_t_row_bears : Nat → Int32) (H : Heap) (locs : List Loc) (ls : Array Slot), kr_21 x7 x8 i_t_row r_t_row_kinds r_t_row_longs r_t_row_weights r_t_row_strengths r_t_row_wears r_t_row_pushes r_t_row_helpers r_t_row_bears → Bd D A s.heap (wd_Free_helpfulWagons k a_t d_t i_t a_p1 d_p1 i_p1 d_t_row i_t_row r_p1_halts r_p1_first r_t_row_kinds r_t_row_longs r_t_row_weights r_t_row_strengths r_t_row_wears r_t_row_pushes r_t_row_helpers r_p1_kinds r_p1_grades r_t_row_bears) H locs → lv_has ls 9 [(0, .ref a_t), (1, .ref a_p1), (2, .int x2), (3, .int x3), (4, .int x4), (5, .int x5), (6, .int x6), (7, .int x7), (8, .int x8)] → W p l e { frames := 5, cells := 0, slots := 0, locals := 115 } s m ([.ref a_t, .ref a_p1, .int n2, .int n3, .int n4, .int n5] : List Value).toArray below meth c H locs 0 0 (Ei below (fun r w => ∃ (i_t_row : Nat → Int32), ∃ (r_t_row_kinds : Nat → Int32), ∃ (r_t_row_longs : Nat → Int32), ∃ (r_t_row_weights : Nat → Int32), ∃ (r_t_row_strengths : Nat → Int32), ∃ (r_t_row_wears : Nat → Int32), ∃ (r_t_row_pushes : Nat → Int32), ∃ (r_t_row_helpers : Nat → Int32), ∃ (r_t_row_bears : Nat → Int32), w = (wd_Free_helpfulWagons k a_t d_t i_t a_p1 d_p1 i_p1 d_t_row i_t_row r_p1_halts r_p1_first r_t_row_kinds r_t_row_longs r_t_row_weights r_t_row_strengths r_t_row_wears r_t_row_pushes r_t_row_helpers r_p1_kinds r_p1_grades r_t_row_bears) ∧ Q r i_t_row r_t_row_kinds r_t_row_longs r_t_row_weights r_t_row_strengths r_t_row_wears r_t_row_pushes r_t_row_helpers r_t_row_bears) D k A ([.ref a_t, .ref a_p1, .int n2, .int n3, .int n4, .int n5] : List Value).toArray s 0 0) (F0 m 21 ls [])) :
    ∀ (x7 : Int32) (x8 : Int32) (i_t_row : Nat → Int32) (r_t_row_kinds : Nat → Int32) (r_t_row_longs : Nat → Int32) (r_t_row_weights : Nat → Int32) (r_t_row_strengths : Nat → Int32) (r_t_row_wears : Nat → Int32) (r_t_row_pushes : Nat → Int32) (r_t_row_helpers : Nat → Int32) (r_t_row_bears : Nat → Int32) (H : Heap) (locs : List Loc) (ls : Array Slot), b_Free_helpfulWagons_21 i_p1 r_p1_halts r_p1_first r_p1_kinds r_p1_grades x2 x3 x4 x5 x6 kx_21 kr_21 x7 x8 i_t_row r_t_row_kinds r_t_row_longs r_t_row_weights r_t_row_strengths r_t_row_wears r_t_row_pushes r_t_row_helpers r_t_row_bears → Bd D A s.heap (wd_Free_helpfulWagons k a_t d_t i_t a_p1 d_p1 i_p1 d_t_row i_t_row r_p1_halts r_p1_first r_t_row_kinds r_t_row_longs r_t_row_weights r_t_row_strengths r_t_row_wears r_t_row_pushes r_t_row_helpers r_p1_kinds r_p1_grades r_t_row_bears) H locs → lv_has ls 9 [(0, .ref a_t), (1, .ref a_p1), (2, .int x2), (3, .int x3), (4, .int x4), (5, .int x5), (6, .int x6), (7, .int x7), (8, .int x8)] → W p l e { frames := 5, cells := 0, slots := 0, locals := 115 } s m ([.ref a_t, .ref a_p1, .int n2, .int n3, .int n4, .int n5] : List Value).toArray below meth c H locs 0 0 (Ei below (fun r w => ∃ (i_t_row : Nat → Int32), ∃ (r_t_row_kinds : Nat → Int32), ∃ (r_t_row_longs : Nat → Int32), ∃ (r_t_row_weights : Nat → Int32), ∃ (r_t_row_strengths : Nat → Int32), ∃ (r_t_row_wears : Nat → Int32), ∃ (r_t_row_pushes : Nat → Int32), ∃ (r_t_row_helpers : Nat → Int32), ∃ (r_t_row_bears : Nat → Int32), w = (wd_Free_helpfulWagons k a_t d_t i_t a_p1 d_p1 i_p1 d_t_row i_t_row r_p1_halts r_p1_first r_t_row_kinds r_t_row_longs r_t_row_weights r_t_row_strengths r_t_row_wears r_t_row_pushes r_t_row_helpers r_p1_kinds r_p1_grades r_t_row_bears) ∧ Q r i_t_row r_t_row_kinds r_t_row_longs r_t_row_weights r_t_row_strengths r_t_row_wears r_t_row_pushes r_t_row_helpers r_t_row_bears) D k A ([.ref a_t, .ref a_p1, .int n2, .int n3, .int n4, .int n5] : List Value).toArray s 0 0) (F0 m 21 ls []) := by
  have hx := F.x
  have hb := F.b
  intro x7 x8 i_t_row r_t_row_kinds r_t_row_longs r_t_row_weights r_t_row_strengths r_t_row_wears r_t_row_pushes r_t_row_helpers r_t_row_bears H locs ls hf hB hl
  unfold b_Free_helpfulWagons_21 at hf
  refine lv_iload hx hb dX0_helpfulWagons_21 (lv_at hl 8 rfl) ?_
  refine lv_iload hx hb dX0_helpfulWagons_23 (lv_at hl 6 rfl) ?_
  refine lv_icmp_ge (tgt := 72) hx hb dX0_helpfulWagons_25 (by decide) (fun c_31 => ?_) (fun c_31 => ?_)
  · replace hf := hf.1 c_31
    exact hkx_21 _ _ _ _ _ _ _ _ _ _ _ _ _ hf hB (lv_sub hl [7] rfl)
  · replace hf := hf.2 c_31
    refine lv_aload_n hx hb dX0_helpfulWagons_28 rfl (lv_at hl 0 rfl) ?_
    refine lv_aload_n hx hb dX0_helpfulWagons_29 rfl (lv_at hl 1 rfl) ?_
    refine lv_iload_n hx hb dX0_helpfulWagons_30 rfl (lv_at hl 2 rfl) ?_
    refine k_vv (wr := [((d_p1 0), ai k 400 r_p1_grades), ((d_t_row 7), ai k 20 r_t_row_bears)]) (rest := []) F hA hB (c_Free_start l D k a_t d_t i_t a_p1 d_p1 i_p1 d_t_row i_t_row r_p1_halts r_p1_first r_t_row_kinds r_t_row_longs r_t_row_weights r_t_row_strengths r_t_row_wears r_t_row_pushes r_t_row_helpers r_p1_kinds x2 _  hf) ml_RX0_73 mv_yX0_start [0, 1, 2, 3, 4, 5, 6, 7, 8, 9, 10, 11, 12] [13, 14] rfl rfl (by decide) (by decide) (by decide) 0 rfl rfl rfl hl.1 rfl (Nat.le_of_ble_eq_true rfl) ⟨Nat.le_of_ble_eq_true rfl, Nat.le_of_ble_eq_true rfl⟩ ⟨Nat.le_of_ble_eq_true rfl, Nat.le_of_ble_eq_true rfl⟩ dX0_helpfulWagons_31 (fun w1 H locs hq hB => ?_)
    obtain ⟨i_t_row_9, r_t_row_kinds_10, r_t_row_longs_11, r_t_row_weights_12, r_t_row_strengths_13, r_t_row_wears_14, r_t_row_pushes_15, r_t_row_helpers_16, rfl, hf⟩ := hq
    replace hB : Bd D A s.heap (wd_Free_helpfulWagons k a_t d_t i_t a_p1 d_p1 i_p1 d_t_row i_t_row_9 r_p1_halts r_p1_first r_t_row_kinds_10 r_t_row_longs_11 r_t_row_weights_12 r_t_row_strengths_13 r_t_row_wears_14 r_t_row_pushes_15 r_t_row_helpers_16 r_p1_kinds r_p1_grades r_t_row_bears) H locs := hB.sub [2, 3, 4, 5, 6, 7, 8, 9, 10, 11, 12, 13, 14, 0, 1] (by decide) rfl
    refine lv_aload_n hx hb dX0_helpfulWagons_34 rfl (lv_at hl 0 rfl) ?_
    refine g_get (w := .ref (d_t 0)) F hB 0 rfl fl_RX0_12 rfl dX0_helpfulWagons_35 ?_
    refine lv_iload hx hb dX0_helpfulWagons_38 (lv_at hl 8 rfl) ?_
    refine lv_iload hx hb dX0_helpfulWagons_40 (lv_at hl 5 rfl) ?_
    refine k_vv (wr := [(a_t, ob 0 (rfd d_t) i_t j0), (a_p1, ob 3 (rfd d_p1) i_p1 j0), ((d_p1 2), ai k 30 r_p1_halts), ((d_p1 8), ai k 8 r_p1_first), ((d_t_row 0), ai k 20 r_t_row_kinds_10), ((d_t_row 1), ai k 20 r_t_row_longs_11), ((d_t_row 2), ai k 20 r_t_row_weights_12), ((d_t_row 3), ai k 20 r_t_row_strengths_13), ((d_t_row 4), ai k 20 r_t_row_wears_14), ((d_p1 6), ai k 18 r_p1_kinds), ((d_p1 0), ai k 400 r_p1_grades), ((d_t_row 7), ai k 20 r_t_row_bears)]) (rest := []) F hA hB (c_Row_help l D k (d_t 0) d_t_row i_t_row_9 r_t_row_pushes_15 r_t_row_helpers_16 x8 x5 _  hf) ml_RX0_89 mv_yX8_help [2, 10, 11] [0, 1, 3, 4, 5, 6, 7, 8, 9, 12, 13, 14] rfl rfl (by decide) (by decide) (by decide) 2 rfl rfl rfl hl.1 rfl (Nat.le_of_ble_eq_true rfl) ⟨Nat.le_of_ble_eq_true rfl, Nat.le_of_ble_eq_true rfl⟩ ⟨Nat.le_of_ble_eq_true rfl, Nat.le_of_ble_eq_true rfl⟩ dX0_helpfulWagons_42 (fun w1 H locs hq hB => ?_)
    obtain ⟨r_t_row_pushes_17, r_t_row_helpers_18, rfl, hf⟩ := hq
    replace hB : Bd D A s.heap (wd_Free_helpfulWagons k a_t d_t i_t a_p1 d_p1 i_p1 d_t_row i_t_row_9 r_p1_halts r_p1_first r_t_row_kinds_10 r_t_row_longs_11 r_t_row_weights_12 r_t_row_strengths_13 r_t_row_wears_14 r_t_row_pushes_17 r_t_row_helpers_18 r_p1_kinds r_p1_grades r_t_row_bears) H locs := hB.sub [0, 1, 12, 2, 3, 4, 5, 6, 7, 8, 13, 14, 9, 10, 11] (by decide) rfl
    refine lv_aload_n hx hb dX0_helpfulWagons_45 rfl (lv_at hl 0 rfl) ?_
    refine lv_aload_n hx hb dX0_helpfulWagons_46 rfl (lv_at hl 1 rfl) ?_
    refine lv_iload_n hx hb dX0_helpfulWagons_47 rfl (lv_at hl 2 rfl) ?_
    refine lv_iload_n hx hb dX0_helpfulWagons_48 rfl (lv_at hl 3 rfl) ?_
    refine lv_iload hx hb dX0_helpfulWagons_49 (lv_at hl 4 rfl) ?_
    refine k_vi (wr := [((d_p1 8), ai k 8 r_p1_first)]) (rest := []) F hA hB (c_Free_comesUnbroken l D k a_t d_t i_t a_p1 d_p1 i_p1 d_t_row i_t_row_9 r_t_row_longs_11 r_p1_grades r_t_row_weights_12 r_t_row_pushes_17 r_t_row_bears r_t_row_strengths_13 r_p1_halts r_t_row_kinds_10 r_t_row_wears_14 r_t_row_helpers_18 r_p1_kinds x2 x3 x4 _  hf) ml_RX0_93 mv_yX0_comesUnbroken [0, 1, 2, 6, 13, 7, 10, 14, 8, 3, 5, 9, 11, 12] [4] rfl rfl (by decide) (by decide) (by decide) 0 rfl rfl rfl hl.1 rfl (Nat.le_of_ble_eq_true rfl) ⟨Nat.le_of_ble_eq_true rfl, Nat.le_of_ble_eq_true rfl⟩ ⟨Nat.le_of_ble_eq_true rfl, Nat.le_of_ble_eq_true rfl⟩ dX0_helpfulWagons_51 (fun z_28 w1 H locs hq hB => ?_)
    obtain ⟨h_29, i_t_row_19, r_t_row_longs_20, r_t_row_weights_21, r_t_row_pushes_22, r_t_row_bears_23, r_t_row_strengths_24, r_t_row_kinds_25, r_t_row_wears_26, r_t_row_helpers_27, rfl, hf⟩ := hq
    replace hB : Bd D A s.heap (wd_Free_helpfulWagons k a_t d_t i_t a_p1 d_p1 i_p1 d_t_row i_t_row_19 r_p1_halts r_p1_first r_t_row_kinds_25 r_t_row_longs_20 r_t_row_weights_21 r_t_row_strengths_24 r_t_row_wears_26 r_t_row_pushes_22 r_t_row_helpers_27 r_p1_kinds r_p1_grades r_t_row_bears_23) H locs := hB.sub [1, 2, 3, 10, 0, 11, 4, 6, 9, 12, 7, 13, 14, 5, 8] (by decide) rfl
    refine lv_if_eq (tgt := 66) hx hb dX0_helpfulWagons_54 (by decide) (fun c_30 => ?_) (fun c_30 => ?_)
    · replace hf := hf.1 c_30
      refine lv_iinc (v := (x8 + 1)) (lv' := [(8, .int (x8 + 1)), (0, .ref a_t), (1, .ref a_p1), (2, .int x2), (3, .int x3), (4, .int x4), (5, .int x5), (6, .int x6), (7, .int x7)]) (k := 8) hx hb dX0_helpfulWagons_66 hl rfl rfl (by decide) rfl (fun ls hl => ?_)
      refine lv_goto (tgt := 21) hx hb dX0_helpfulWagons_69 (by decide) ?_
      exact hkr_21 _ _ _ _ _ _ _ _ _ _ _ _ _ _ hf hB (lv_sub hl [1, 2, 3, 4, 5, 6, 7, 8, 0] rfl)
    · replace hf := hf.2 c_30
      refine lv_iload hx hb dX0_helpfulWagons_57 (lv_at hl 7 rfl) ?_
      refine lv_iconst (v := 1) hx hb dX0_helpfulWagons_59 (by decide) ?_
      refine lv_iload hx hb dX0_helpfulWagons_60 (lv_at hl 8 rfl) ?_
      refine lv_ishl hx hb dX0_helpfulWagons_62 ?_
      refine lv_ior hx hb dX0_helpfulWagons_63 ?_
      refine lv_istore (lv' := [(7, .int (x7 ||| ((1 : Int32) <<< (x8 &&& 31)))), (0, .ref a_t), (1, .ref a_p1), (2, .int x2), (3, .int x3), (4, .int x4), (5, .int x5), (6, .int x6), (8, .int x8)]) hx hb dX0_helpfulWagons_64 hl (by decide) rfl (fun ls hl => ?_)
      refine lv_iinc (v := (x8 + 1)) (lv' := [(8, .int (x8 + 1)), (7, .int (x7 ||| ((1 : Int32) <<< (x8 &&& 31)))), (0, .ref a_t), (1, .ref a_p1), (2, .int x2), (3, .int x3), (4, .int x4), (5, .int x5), (6, .int x6)]) (k := 8) hx hb dX0_helpfulWagons_66 hl rfl rfl (by decide) rfl (fun ls hl => ?_)
      refine lv_goto (tgt := 21) hx hb dX0_helpfulWagons_69 (by decide) ?_
      exact hkr_21 _ _ _ _ _ _ _ _ _ _ _ _ _ _ hf hB (lv_sub hl [2, 3, 4, 5, 6, 7, 8, 1, 0] rfl)

set_option maxRecDepth 100000 in
set_option maxHeartbeats 4000000 in
theorem lt_Free_helpfulWagons_21 {p : Program} {l : Launch} {e : Env} {s : State} {m : MethodId} {below : List Frame} {meth : Method} {c : Code} {A : Nat → Prop} {D : va_G} {k : Nat → ClassId} {a_t : Nat} {d_t : Nat → Nat} {i_t : Nat → Int32} {a_p1 : Nat} {d_p1 : Nat → Nat} {i_p1 : Nat → Int32} {d_t_row : Nat → Nat} {r_p1_halts : Nat → Int32} {r_p1_first : Nat → Int32} {r_p1_kinds : Nat → Int32} {r_p1_grades : Nat → Int32} {n2 : Int32} {n3 : Int32} {n4 : Int32} {n5 : Int32} {Q : Int32 → (Nat → Int32) → (Nat → Int32) → (Nat → Int32) → (Nat → Int32) → (Nat → Int32) → (Nat → Int32) → (Nat → Int32) → (Nat → Int32) → (Nat → Int32) → Prop}  {x2 : Int32} {x3 : Int32} {x4 : Int32} {x5 : Int32} {x6 : Int32} {kx_21 : (Int32) → (Nat → Int32) → (Nat → Int32) → (Nat → Int32) → (Nat → Int32) → (Nat → Int32) → (Nat → Int32) → (Nat → Int32) → (Nat → Int32) → (Nat → Int32) → Prop} (F : Fx p m c cX0_helpfulWagons 9 s ([.ref a_t, .ref a_p1, .int n2, .int n3, .int n4, .int n5] : List Value).toArray RX0 D k) (hr : meth.sig.returnType = (some .int)) (hlk : meth.locks = false) (hA : ∀ q : Nat, s.heap.size ≤ q → A q) (hkx_21 : ∀ (x7 : Int32) (i_t_row : Nat → Int32) (r_t_row_kinds : Nat → Int32) (r_t_row_longs : Nat → Int32) (r_t_row_weights : Nat → Int32) (r_t_row_strengths : Nat → Int32) (r_t_row_wears : Nat → Int32) (r_t_row_pushes : Nat → Int32) (r_t_row_helpers : Nat → Int32) (r_t_row_bears : Nat → Int32) (H : Heap) (locs : List Loc) (ls : Array Slot), kx_21 x7 i_t_row r_t_row_kinds r_t_row_longs r_t_row_weights r_t_row_strengths r_t_row_wears r_t_row_pushes r_t_row_helpers r_t_row_bears → Bd D A s.heap (wd_Free_helpfulWagons k a_t d_t i_t a_p1 d_p1 i_p1 d_t_row i_t_row r_p1_halts r_p1_first r_t_row_kinds r_t_row_longs r_t_row_weights r_t_row_strengths r_t_row_wears r_t_row_pushes r_t_row_helpers r_p1_kinds r_p1_grades r_t_row_bears) H locs → lv_has ls 9 [(7, .int x7)] → W p l e { frames := 5, cells := 0, slots := 0, locals := 115 } s m ([.ref a_t, .ref a_p1, .int n2, .int n3, .int n4, .int n5] : List Value).toArray below meth c H locs 0 0 (Ei below (fun r w => ∃ (i_t_row : Nat → Int32), ∃ (r_t_row_kinds : Nat → Int32), ∃ (r_t_row_longs : Nat → Int32), ∃ (r_t_row_weights : Nat → Int32), ∃ (r_t_row_strengths : Nat → Int32), ∃ (r_t_row_wears : Nat → Int32), ∃ (r_t_row_pushes : Nat → Int32), ∃ (r_t_row_helpers : Nat → Int32), ∃ (r_t_row_bears : Nat → Int32), w = (wd_Free_helpfulWagons k a_t d_t i_t a_p1 d_p1 i_p1 d_t_row i_t_row r_p1_halts r_p1_first r_t_row_kinds r_t_row_longs r_t_row_weights r_t_row_strengths r_t_row_wears r_t_row_pushes r_t_row_helpers r_p1_kinds r_p1_grades r_t_row_bears) ∧ Q r i_t_row r_t_row_kinds r_t_row_longs r_t_row_weights r_t_row_strengths r_t_row_wears r_t_row_pushes r_t_row_helpers r_t_row_bears) D k A ([.ref a_t, .ref a_p1, .int n2, .int n3, .int n4, .int n5] : List Value).toArray s 0 0) (F0 m 72 ls [])) :
    ∀ n : Nat, ∀ (x7 : Int32) (x8 : Int32) (i_t_row : Nat → Int32) (r_t_row_kinds : Nat → Int32) (r_t_row_longs : Nat → Int32) (r_t_row_weights : Nat → Int32) (r_t_row_strengths : Nat → Int32) (r_t_row_wears : Nat → Int32) (r_t_row_pushes : Nat → Int32) (r_t_row_helpers : Nat → Int32) (r_t_row_bears : Nat → Int32) (H : Heap) (locs : List Loc) (ls : Array Slot), lp_Free_helpfulWagons_21 i_p1 r_p1_halts r_p1_first r_p1_kinds r_p1_grades x2 x3 x4 x5 x6 kx_21 n x7 x8 i_t_row r_t_row_kinds r_t_row_longs r_t_row_weights r_t_row_strengths r_t_row_wears r_t_row_pushes r_t_row_helpers r_t_row_bears → Bd D A s.heap (wd_Free_helpfulWagons k a_t d_t i_t a_p1 d_p1 i_p1 d_t_row i_t_row r_p1_halts r_p1_first r_t_row_kinds r_t_row_longs r_t_row_weights r_t_row_strengths r_t_row_wears r_t_row_pushes r_t_row_helpers r_p1_kinds r_p1_grades r_t_row_bears) H locs → lv_has ls 9 [(0, .ref a_t), (1, .ref a_p1), (2, .int x2), (3, .int x3), (4, .int x4), (5, .int x5), (6, .int x6), (7, .int x7), (8, .int x8)] → W p l e { frames := 5, cells := 0, slots := 0, locals := 115 } s m ([.ref a_t, .ref a_p1, .int n2, .int n3, .int n4, .int n5] : List Value).toArray below meth c H locs 0 0 (Ei below (fun r w => ∃ (i_t_row : Nat → Int32), ∃ (r_t_row_kinds : Nat → Int32), ∃ (r_t_row_longs : Nat → Int32), ∃ (r_t_row_weights : Nat → Int32), ∃ (r_t_row_strengths : Nat → Int32), ∃ (r_t_row_wears : Nat → Int32), ∃ (r_t_row_pushes : Nat → Int32), ∃ (r_t_row_helpers : Nat → Int32), ∃ (r_t_row_bears : Nat → Int32), w = (wd_Free_helpfulWagons k a_t d_t i_t a_p1 d_p1 i_p1 d_t_row i_t_row r_p1_halts r_p1_first r_t_row_kinds r_t_row_longs r_t_row_weights r_t_row_strengths r_t_row_wears r_t_row_pushes r_t_row_helpers r_p1_kinds r_p1_grades r_t_row_bears) ∧ Q r i_t_row r_t_row_kinds r_t_row_longs r_t_row_weights r_t_row_strengths r_t_row_wears r_t_row_pushes r_t_row_helpers r_t_row_bears) D k A ([.ref a_t, .ref a_p1, .int n2, .int n3, .int n4, .int n5] : List Value).toArray s 0 0) (F0 m 21 ls []) := by
  intro n
  induction n with
  | zero => intro x7 x8 i_t_row r_t_row_kinds r_t_row_longs r_t_row_weights r_t_row_strengths r_t_row_wears r_t_row_pushes r_t_row_helpers r_t_row_bears H locs ls hf; exact absurd hf (fun h => h)
  | succ n ih => exact bt_Free_helpfulWagons_21 F hr hlk hA hkx_21 ih

set_option maxRecDepth 100000 in
set_option maxHeartbeats 4000000 in
theorem c_Free_helpfulWagons (l : Launch) (D : va_G) (k : Nat → ClassId) (a_t : Nat) (d_t : Nat → Nat) (i_t : Nat → Int32) (a_p1 : Nat) (d_p1 : Nat → Nat) (i_p1 : Nat → Int32) (d_t_row : Nat → Nat) (i_t_row : Nat → Int32) (r_p1_halts : Nat → Int32) (r_p1_first : Nat → Int32) (r_t_row_kinds : Nat → Int32) (r_t_row_longs : Nat → Int32) (r_t_row_weights : Nat → Int32) (r_t_row_strengths : Nat → Int32) (r_t_row_wears : Nat → Int32) (r_t_row_pushes : Nat → Int32) (r_t_row_helpers : Nat → Int32) (r_p1_kinds : Nat → Int32) (r_p1_grades : Nat → Int32) (r_t_row_bears : Nat → Int32) (n2 : Int32) (n3 : Int32) (n4 : Int32) (n5 : Int32) (Q : Int32 → (Nat → Int32) → (Nat → Int32) → (Nat → Int32) → (Nat → Int32) → (Nat → Int32) → (Nat → Int32) → (Nat → Int32) → (Nat → Int32) → (Nat → Int32) → Prop)  (hf : w_Free_helpfulWagons i_p1 i_t_row r_p1_halts r_p1_first r_t_row_kinds r_t_row_longs r_t_row_weights r_t_row_strengths r_t_row_wears r_t_row_pushes r_t_row_helpers r_p1_kinds r_p1_grades r_t_row_bears n2 n3 n4 n5 Q) : CtI l yX0_helpfulWagons cX0_helpfulWagons 9 (some .int) 5 115 0 0 D k [.ref a_t, .ref a_p1, .int n2, .int n3, .int n4, .int n5] (wd_Free_helpfulWagons k a_t d_t i_t a_p1 d_p1 i_p1 d_t_row i_t_row r_p1_halts r_p1_first r_t_row_kinds r_t_row_longs r_t_row_weights r_t_row_strengths r_t_row_wears r_t_row_pushes r_t_row_helpers r_p1_kinds r_p1_grades r_t_row_bears) (fun r w => ∃ (i_t_row : Nat → Int32), ∃ (r_t_row_kinds : Nat → Int32), ∃ (r_t_row_longs : Nat → Int32), ∃ (r_t_row_weights : Nat → Int32), ∃ (r_t_row_strengths : Nat → Int32), ∃ (r_t_row_wears : Nat → Int32), ∃ (r_t_row_pushes : Nat → Int32), ∃ (r_t_row_helpers : Nat → Int32), ∃ (r_t_row_bears : Nat → Int32), w = (wd_Free_helpfulWagons k a_t d_t i_t a_p1 d_p1 i_p1 d_t_row i_t_row r_p1_halts r_p1_first r_t_row_kinds r_t_row_longs r_t_row_weights r_t_row_strengths r_t_row_wears r_t_row_pushes r_t_row_helpers r_p1_kinds r_p1_grades r_t_row_bears) ∧ Q r i_t_row r_t_row_kinds r_t_row_longs r_t_row_weights r_t_row_strengths r_t_row_wears r_t_row_pushes r_t_row_helpers r_t_row_bears) := by
  refine CtI.of (by decide) (Nat.le_of_ble_eq_true rfl) ?_
  intro p e s m below meth c A F hr hlk hnm hA hB ls hl
  have hx := F.x
  have hb := F.b
  unfold w_Free_helpfulWagons at hf
  replace hl : lv_has ls 9 [(0, .ref a_t), (1, .ref a_p1), (2, .int n2), (3, .int n3), (4, .int n4), (5, .int n5)] := hl
  refine lv_aload_n hx hb dX0_helpfulWagons_0 rfl (lv_at hl 0 rfl) ?_
  refine lv_aload_n hx hb dX0_helpfulWagons_1 rfl (lv_at hl 1 rfl) ?_
  refine lv_iload_n hx hb dX0_helpfulWagons_2 rfl (lv_at hl 2 rfl) ?_
  refine k_vv (wr := [((d_p1 0), ai k 400 r_p1_grades), ((d_t_row 7), ai k 20 r_t_row_bears)]) (rest := []) F hA hB (c_Free_start l D k a_t d_t i_t a_p1 d_p1 i_p1 d_t_row i_t_row r_p1_halts r_p1_first r_t_row_kinds r_t_row_longs r_t_row_weights r_t_row_strengths r_t_row_wears r_t_row_pushes r_t_row_helpers r_p1_kinds n2 _  hf) ml_RX0_73 mv_yX0_start [0, 1, 2, 3, 4, 5, 6, 7, 8, 9, 10, 11, 12] [13, 14] rfl rfl (by decide) (by decide) (by decide) 0 rfl rfl rfl hl.1 rfl (Nat.le_of_ble_eq_true rfl) ⟨Nat.le_of_ble_eq_true rfl, Nat.le_of_ble_eq_true rfl⟩ ⟨Nat.le_of_ble_eq_true rfl, Nat.le_of_ble_eq_true rfl⟩ dX0_helpfulWagons_3 (fun w1 H locs hq hB => ?_)
  obtain ⟨i_t_row_1, r_t_row_kinds_2, r_t_row_longs_3, r_t_row_weights_4, r_t_row_strengths_5, r_t_row_wears_6, r_t_row_pushes_7, r_t_row_helpers_8, rfl, hf⟩ := hq
  replace hB : Bd D A s.heap (wd_Free_helpfulWagons k a_t d_t i_t a_p1 d_p1 i_p1 d_t_row i_t_row_1 r_p1_halts r_p1_first r_t_row_kinds_2 r_t_row_longs_3 r_t_row_weights_4 r_t_row_strengths_5 r_t_row_wears_6 r_t_row_pushes_7 r_t_row_helpers_8 r_p1_kinds r_p1_grades r_t_row_bears) H locs := hB.sub [2, 3, 4, 5, 6, 7, 8, 9, 10, 11, 12, 13, 14, 0, 1] (by decide) rfl
  refine lv_aload_n hx hb dX0_helpfulWagons_6 rfl (lv_at hl 0 rfl) ?_
  refine g_get (w := .ref (d_t 0)) F hB 0 rfl fl_RX0_12 rfl dX0_helpfulWagons_7 ?_
  refine g_get (w := .int (i_t_row_1 8)) F hB 2 rfl fl_RX0_37 rfl dX0_helpfulWagons_10 ?_
  refine lv_istore (lv' := [(6, .int (i_t_row_1 8)), (0, .ref a_t), (1, .ref a_p1), (2, .int n2), (3, .int n3), (4, .int n4), (5, .int n5)]) hx hb dX0_helpfulWagons_13 hl (by decide) rfl (fun ls hl => ?_)
  refine lv_iconst (v := 0) hx hb dX0_helpfulWagons_15 (by decide) ?_
  refine lv_istore (lv' := [(7, .int (0 : Int32)), (6, .int (i_t_row_1 8)), (0, .ref a_t), (1, .ref a_p1), (2, .int n2), (3, .int n3), (4, .int n4), (5, .int n5)]) hx hb dX0_helpfulWagons_16 hl (by decide) rfl (fun ls hl => ?_)
  refine lv_iconst (v := 0) hx hb dX0_helpfulWagons_18 (by decide) ?_
  refine lv_istore (lv' := [(8, .int (0 : Int32)), (7, .int (0 : Int32)), (6, .int (i_t_row_1 8)), (0, .ref a_t), (1, .ref a_p1), (2, .int n2), (3, .int n3), (4, .int n4), (5, .int n5)]) hx hb dX0_helpfulWagons_19 hl (by decide) rfl (fun ls hl => ?_)
  obtain ⟨n_42, hf⟩ := hf
  refine lt_Free_helpfulWagons_21 F hr hlk hA (fun x7_32 i_t_row_33 r_t_row_kinds_34 r_t_row_longs_35 r_t_row_weights_36 r_t_row_strengths_37 r_t_row_wears_38 r_t_row_pushes_39 r_t_row_helpers_40 r_t_row_bears_41 H locs ls hf hB hl => ?_) n_42 _ _ _ _ _ _ _ _ _ _ _ _ _ _ hf hB (lv_sub hl [3, 4, 5, 6, 7, 8, 2, 1, 0] rfl)
  refine lv_iload hx hb dX0_helpfulWagons_72 (lv_at hl 0 rfl) ?_
  exact r_i F hr hlk hB ⟨_, _, _, _, _, _, _, _, _, rfl, hf⟩ dX0_helpfulWagons_74

/-! LongTrain.Free.wagonsAtPlatform -/
set_option maxRecDepth 100000 in
set_option maxHeartbeats 4000000 in
theorem bt_Free_wagonsAtPlatform_18 {p : Program} {l : Launch} {e : Env} {s : State} {m : MethodId} {below : List Frame} {meth : Method} {c : Code} {A : Nat → Prop} {D : va_G} {k : Nat → ClassId} {a_t : Nat} {d_t : Nat → Nat} {i_t : Nat → Int32} {a_p1 : Nat} {d_p1 : Nat → Nat} {i_p1 : Nat → Int32} {d_t_row : Nat → Nat} {i_t_row : Nat → Int32} {r_p1_halts : Nat → Int32} {r_p1_first : Nat → Int32} {r_t_row_kinds : Nat → Int32} {r_t_row_longs : Nat → Int32} {r_t_row_weights : Nat → Int32} {r_t_row_strengths : Nat → Int32} {r_t_row_wears : Nat → Int32} {r_t_row_pushes : Nat → Int32} {r_t_row_helpers : Nat → Int32} {r_p1_kinds : Nat → Int32} {n2 : Int32} {Q : Int32 → (Nat → Int32) → (Nat → Int32) → (Nat → Int32) → (Nat → Int32) → (Nat → Int32) → (Nat → Int32) → (Nat → Int32) → (Nat → Int32) → Prop}  {x2 : Int32} {kx_18 : Prop} {kr_18 : (Int32) → (Int32) → Prop} (F : Fx p m c cX0_wagonsAtPlatform 5 s ([.ref a_t, .ref a_p1, .int n2] : List Value).toArray RX0 D k) (hr : meth.sig.returnType = (some .int)) (hlk : meth.locks = false) (hA : ∀ q : Nat, s.heap.size ≤ q → A q) (hkx_18 : ∀ (H : Heap) (locs : List Loc) (ls : Array Slot), kx_18 → Bd D A s.heap (wd_Free_wagonsAtPlatform k a_t d_t i_t a_p1 d_p1 i_p1 d_t_row i_t_row r_p1_halts r_p1_first r_t_row_kinds r_t_row_longs r_t_row_weights r_t_row_strengths r_t_row_wears r_t_row_pushes r_t_row_helpers r_p1_kinds) H locs → lv_has ls 5 [(0, .ref a_t)] → W p l e { frames := 4, cells := 0, slots := 0, locals := 90 } s m ([.ref a_t, .ref a_p1, .int n2] : List Value).toArray below meth c H locs 0 0 (Ei below (fun r w => ∃ (i_t_row : Nat → Int32), ∃ (r_t_row_kinds : Nat → Int32), ∃ (r_t_row_longs : Nat → Int32), ∃ (r_t_row_weights : Nat → Int32), ∃ (r_t_row_strengths : Nat → Int32), ∃ (r_t_row_wears : Nat → Int32), ∃ (r_t_row_pushes : Nat → Int32), ∃ (r_t_row_helpers : Nat → Int32), w = (wd_Free_wagonsAtPlatform k a_t d_t i_t a_p1 d_p1 i_p1 d_t_row i_t_row r_p1_halts r_p1_first r_t_row_kinds r_t_row_longs r_t_row_weights r_t_row_strengths r_t_row_wears r_t_row_pushes r_t_row_helpers r_p1_kinds) ∧ Q r i_t_row r_t_row_kinds r_t_row_longs r_t_row_weights r_t_row_strengths r_t_row_wears r_t_row_pushes r_t_row_helpers) D k A ([.ref a_t, .ref a_p1, .int n2] : List Value).toArray s 0 0) (F0 m 61 ls [])) (hkr_18 : ∀ (x3 : Int32) (x4 : Int32) (H : Heap) (locs : List Loc) (ls : Array Slot), kr_18 x3 x4 → Bd D A s.heap (wd_Free_wagonsAtPlatform k a_t d_t i_t a_p1 d_p1 i_p1 d_t_row i_t_row r_p1_halts r_p1_first r_t_row_kinds r_t_row_longs r_t_row_weights r_t_row_strengths r_t_row_wears r_t_row_pushes r_t_row_helpers r_p1_kinds) H locs → lv_has ls 5 [(0, .ref a_t), (1, .ref a_p1), (2, .int x2), (3, .int x3), (4, .int x4)] → W p l e { frames := 4, cells := 0, slots := 0, locals := 90 } s m ([.ref a_t, .ref a_p1, .int n2] : List Value).toArray below meth c H locs 0 0 (Ei below (fun r w => ∃ (i_t_row : Nat → Int32), ∃ (r_t_row_kinds : Nat → Int32), ∃ (r_t_row_longs : Nat → Int32), ∃ (r_t_row_weights : Nat → Int32), ∃ (r_t_row_strengths : Nat → Int32), ∃ (r_t_row_wears : Nat → Int32), ∃ (r_t_row_pushes : Nat → Int32), ∃ (r_t_row_helpers : Nat → Int32), w = (wd_Free_wagonsAtPlatform k a_t d_t i_t a_p1 d_p1 i_p1 d_t_row i_t_row r_p1_halts r_p1_first r_t_row_kinds r_t_row_longs r_t_row_weights r_t_row_strengths r_t_row_wears r_t_row_pushes r_t_row_helpers r_p1_kinds) ∧ Q r i_t_row r_t_row_kinds r_t_row_longs r_t_row_weights r_t_row_strengths r_t_row_wears r_t_row_pushes r_t_row_helpers) D k A ([.ref a_t, .ref a_p1, .int n2] : List Value).toArray s 0 0) (F0 m 18 ls [])) :
    ∀ (x3 : Int32) (x4 : Int32) (H : Heap) (locs : List Loc) (ls : Array Slot), b_Free_wagonsAtPlatform_18 i_t_row r_p1_halts r_t_row_kinds r_t_row_longs r_t_row_weights r_t_row_strengths r_t_row_wears r_t_row_pushes r_t_row_helpers x2 Q kx_18 kr_18 x3 x4 → Bd D A s.heap (wd_Free_wagonsAtPlatform k a_t d_t i_t a_p1 d_p1 i_p1 d_t_row i_t_row r_p1_halts r_p1_first r_t_row_kinds r_t_row_longs r_t_row_weights r_t_row_strengths r_t_row_wears r_t_row_pushes r_t_row_helpers r_p1_kinds) H locs → lv_has ls 5 [(0, .ref a_t), (1, .ref a_p1), (2, .int x2), (3, .int x3), (4, .int x4)] → W p l e { frames := 4, cells := 0, slots := 0, locals := 90 } s m ([.ref a_t, .ref a_p1, .int n2] : List Value).toArray below meth c H locs 0 0 (Ei below (fun r w => ∃ (i_t_row : Nat → Int32), ∃ (r_t_row_kinds : Nat → Int32), ∃ (r_t_row_longs : Nat → Int32), ∃ (r_t_row_weights : Nat → Int32), ∃ (r_t_row_strengths : Nat → Int32), ∃ (r_t_row_wears : Nat → Int32), ∃ (r_t_row_pushes : Nat → Int32), ∃ (r_t_row_helpers : Nat → Int32), w = (wd_Free_wagonsAtPlatform k a_t d_t i_t a_p1 d_p1 i_p1 d_t_row i_t_row r_p1_halts r_p1_first r_t_row_kinds r_t_row_longs r_t_row_weights r_t_row_strengths r_t_row_wears r_t_row_pushes r_t_row_helpers r_p1_kinds) ∧ Q r i_t_row r_t_row_kinds r_t_row_longs r_t_row_weights r_t_row_strengths r_t_row_wears r_t_row_pushes r_t_row_helpers) D k A ([.ref a_t, .ref a_p1, .int n2] : List Value).toArray s 0 0) (F0 m 18 ls []) := by
  have hx := F.x
  have hb := F.b
  intro x3 x4 H locs ls hf hB hl
  unfold b_Free_wagonsAtPlatform_18 at hf
  refine lv_iload hx hb dX0_wagonsAtPlatform_18 (lv_at hl 4 rfl) ?_
  refine lv_aload_n hx hb dX0_wagonsAtPlatform_20 rfl (lv_at hl 0 rfl) ?_
  refine g_get (w := .ref (d_t 0)) F hB 0 rfl fl_RX0_12 rfl dX0_wagonsAtPlatform_21 ?_
  refine g_get (w := .int (i_t_row 8)) F hB 2 rfl fl_RX0_37 rfl dX0_wagonsAtPlatform_24 ?_
  refine lv_icmp_ge (tgt := 61) hx hb dX0_wagonsAtPlatform_27 (by decide) (fun c_13 => ?_) (fun c_13 => ?_)
  · replace hf := hf.1 c_13
    exact hkx_18  _ _ _ hf hB (lv_sub hl [0] rfl)
  · replace hf := hf.2 c_13
    refine lv_iload_n hx hb dX0_wagonsAtPlatform_30 rfl (lv_at hl 3 rfl) ?_
    refine lv_aload_n hx hb dX0_wagonsAtPlatform_31 rfl (lv_at hl 0 rfl) ?_
    refine g_get (w := .ref (d_t 0)) F hB 0 rfl fl_RX0_12 rfl dX0_wagonsAtPlatform_32 ?_
    refine g_get (w := .ref (d_t_row 1)) F hB 2 rfl fl_RX0_105 rfl dX0_wagonsAtPlatform_35 ?_
    refine lv_iload hx hb dX0_wagonsAtPlatform_38 (lv_at hl 4 rfl) ?_
    obtain ⟨h_10, hf⟩ := hf
    refine g_iald F hB 6 rfl h_10 dX0_wagonsAtPlatform_40 ?_
    refine lv_iadd hx hb dX0_wagonsAtPlatform_41 ?_
    refine lv_istore_n (lv' := [(3, .int (x3 + (r_t_row_longs (x4).toNatClampNeg))), (0, .ref a_t), (1, .ref a_p1), (2, .int x2), (4, .int x4)]) hx hb dX0_wagonsAtPlatform_42 rfl hl (by decide) rfl (fun ls hl => ?_)
    refine lv_iload_n hx hb dX0_wagonsAtPlatform_43 rfl (lv_at hl 0 rfl) ?_
    refine lv_aload_n hx hb dX0_wagonsAtPlatform_44 rfl (lv_at hl 2 rfl) ?_
    refine lv_iload_n hx hb dX0_wagonsAtPlatform_45 rfl (lv_at hl 3 rfl) ?_
    refine k_vi (wr := [(a_t, ob 0 (rfd d_t) i_t j0), ((d_t 0), ob 8 (rfd d_t_row) i_t_row j0), ((d_p1 8), ai k 8 r_p1_first), ((d_t_row 0), ai k 20 r_t_row_kinds), ((d_t_row 1), ai k 20 r_t_row_longs), ((d_t_row 2), ai k 20 r_t_row_weights), ((d_t_row 3), ai k 20 r_t_row_strengths), ((d_t_row 4), ai k 20 r_t_row_wears), ((d_t_row 5), ai k 20 r_t_row_pushes), ((d_t_row 6), ai k 20 r_t_row_helpers), ((d_p1 6), ai k 18 r_p1_kinds)]) (rest := [.int (x3 + (r_t_row_longs (x4).toNatClampNeg))]) F hA hB (c_Line_haltLong l D k a_p1 d_p1 i_p1 r_p1_halts x2 _  hf) ml_RX0_108 mv_yX3_haltLong [1, 3] [0, 2, 4, 5, 6, 7, 8, 9, 10, 11, 12] rfl rfl (by decide) (by decide) (by decide) 1 rfl rfl rfl hl.1 rfl (Nat.le_of_ble_eq_true rfl) ⟨Nat.le_of_ble_eq_true rfl, Nat.le_of_ble_eq_true rfl⟩ ⟨Nat.le_of_ble_eq_true rfl, Nat.le_of_ble_eq_true rfl⟩ dX0_wagonsAtPlatform_46 (fun z_11 w1 H locs hq hB => ?_)
    obtain ⟨rfl, hf⟩ := hq
    replace hB : Bd D A s.heap (wd_Free_wagonsAtPlatform k a_t d_t i_t a_p1 d_p1 i_p1 d_t_row i_t_row r_p1_halts r_p1_first r_t_row_kinds r_t_row_longs r_t_row_weights r_t_row_strengths r_t_row_wears r_t_row_pushes r_t_row_helpers r_p1_kinds) H locs := hB.sub [0, 11, 1, 12, 2, 3, 4, 5, 6, 7, 8, 9, 10] (by decide) rfl
    refine lv_icmp_le (tgt := 55) hx hb dX0_wagonsAtPlatform_49 (by decide) (fun c_12 => ?_) (fun c_12 => ?_)
    · replace hf := hf.1 c_12
      refine lv_iinc (v := (x4 + 1)) (lv' := [(4, .int (x4 + 1)), (3, .int (x3 + (r_t_row_longs (x4).toNatClampNeg))), (0, .ref a_t), (1, .ref a_p1), (2, .int x2)]) (k := 4) hx hb dX0_wagonsAtPlatform_55 hl rfl rfl (by decide) rfl (fun ls hl => ?_)
      refine lv_goto (tgt := 18) hx hb dX0_wagonsAtPlatform_58 (by decide) ?_
      exact hkr_18 _ _ _ _ _ hf hB (lv_sub hl [2, 3, 4, 1, 0] rfl)
    · replace hf := hf.2 c_12
      refine lv_iload hx hb dX0_wagonsAtPlatform_52 (lv_at hl 4 rfl) ?_
      exact r_i F hr hlk hB ⟨_, _, _, _, _, _, _, _, rfl, hf⟩ dX0_wagonsAtPlatform_54

set_option maxRecDepth 100000 in
set_option maxHeartbeats 4000000 in
theorem lt_Free_wagonsAtPlatform_18 {p : Program} {l : Launch} {e : Env} {s : State} {m : MethodId} {below : List Frame} {meth : Method} {c : Code} {A : Nat → Prop} {D : va_G} {k : Nat → ClassId} {a_t : Nat} {d_t : Nat → Nat} {i_t : Nat → Int32} {a_p1 : Nat} {d_p1 : Nat → Nat} {i_p1 : Nat → Int32} {d_t_row : Nat → Nat} {i_t_row : Nat → Int32} {r_p1_halts : Nat → Int32} {r_p1_first : Nat → Int32} {r_t_row_kinds : Nat → Int32} {r_t_row_longs : Nat → Int32} {r_t_row_weights : Nat → Int32} {r_t_row_strengths : Nat → Int32} {r_t_row_wears : Nat → Int32} {r_t_row_pushes : Nat → Int32} {r_t_row_helpers : Nat → Int32} {r_p1_kinds : Nat → Int32} {n2 : Int32} {Q : Int32 → (Nat → Int32) → (Nat → Int32) → (Nat → Int32) → (Nat → Int32) → (Nat → Int32) → (Nat → Int32) → (Nat → Int32) → (Nat → Int32) → Prop}  {x2 : Int32} {kx_18 : Prop} (F : Fx p m c cX0_wagonsAtPlatform 5 s ([.ref a_t, .ref a_p1, .int n2] : List Value).toArray RX0 D k) (hr : meth.sig.returnType = (some .int)) (hlk : meth.locks = false) (hA : ∀ q : Nat, s.heap.size ≤ q → A q) (hkx_18 : ∀ (H : Heap) (locs : List Loc) (ls : Array Slot), kx_18 → Bd D A s.heap (wd_Free_wagonsAtPlatform k a_t d_t i_t a_p1 d_p1 i_p1 d_t_row i_t_row r_p1_halts r_p1_first r_t_row_kinds r_t_row_longs r_t_row_weights r_t_row_strengths r_t_row_wears r_t_row_pushes r_t_row_helpers r_p1_kinds) H locs → lv_has ls 5 [(0, .ref a_t)] → W p l e { frames := 4, cells := 0, slots := 0, locals := 90 } s m ([.ref a_t, .ref a_p1, .int n2] : List Value).toArray below meth c H locs 0 0 (Ei below (fun r w => ∃ (i_t_row : Nat → Int32), ∃ (r_t_row_kinds : Nat → Int32), ∃ (r_t_row_longs : Nat → Int32), ∃ (r_t_row_weights : Nat → Int32), ∃ (r_t_row_strengths : Nat → Int32), ∃ (r_t_row_wears : Nat → Int32), ∃ (r_t_row_pushes : Nat → Int32), ∃ (r_t_row_helpers : Nat → Int32), w = (wd_Free_wagonsAtPlatform k a_t d_t i_t a_p1 d_p1 i_p1 d_t_row i_t_row r_p1_halts r_p1_first r_t_row_kinds r_t_row_longs r_t_row_weights r_t_row_strengths r_t_row_wears r_t_row_pushes r_t_row_helpers r_p1_kinds) ∧ Q r i_t_row r_t_row_kinds r_t_row_longs r_t_row_weights r_t_row_strengths r_t_row_wears r_t_row_pushes r_t_row_helpers) D k A ([.ref a_t, .ref a_p1, .int n2] : List Value).toArray s 0 0) (F0 m 61 ls [])) :
    ∀ n : Nat, ∀ (x3 : Int32) (x4 : Int32) (H : Heap) (locs : List Loc) (ls : Array Slot), lp_Free_wagonsAtPlatform_18 i_t_row r_p1_halts r_t_row_kinds r_t_row_longs r_t_row_weights r_t_row_strengths r_t_row_wears r_t_row_pushes r_t_row_helpers x2 Q kx_18 n x3 x4 → Bd D A s.heap (wd_Free_wagonsAtPlatform k a_t d_t i_t a_p1 d_p1 i_p1 d_t_row i_t_row r_p1_halts r_p1_first r_t_row_kinds r_t_row_longs r_t_row_weights r_t_row_strengths r_t_row_wears r_t_row_pushes r_t_row_helpers r_p1_kinds) H locs → lv_has ls 5 [(0, .ref a_t), (1, .ref a_p1), (2, .int x2), (3, .int x3), (4, .int x4)] → W p l e { frames := 4, cells := 0, slots := 0, locals := 90 } s m ([.ref a_t, .ref a_p1, .int n2] : List Value).toArray below meth c H locs 0 0 (Ei below (fun r w => ∃ (i_t_row : Nat → Int32), ∃ (r_t_row_kinds : Nat → Int32), ∃ (r_t_row_longs : Nat → Int32), ∃ (r_t_row_weights : Nat → Int32), ∃ (r_t_row_strengths : Nat → Int32), ∃ (r_t_row_wears : Nat → Int32), ∃ (r_t_row_pushes : Nat → Int32), ∃ (r_t_row_helpers : Nat → Int32), w = (wd_Free_wagonsAtPlatform k a_t d_t i_t a_p1 d_p1 i_p1 d_t_row i_t_row r_p1_halts r_p1_first r_t_row_kinds r_t_row_longs r_t_row_weights r_t_row_strengths r_t_row_wears r_t_row_pushes r_t_row_helpers r_p1_kinds) ∧ Q r i_t_row r_t_row_kinds r_t_row_longs r_t_row_weights r_t_row_strengths r_t_row_wears r_t_row_pushes r_t_row_helpers) D k A ([.ref a_t, .ref a_p1, .int n2] : List Value).toArray s 0 0) (F0 m 18 ls []) := by
  intro n
  induction n with
  | zero => intro x3 x4 H locs ls hf; exact absurd hf (fun h => h)
  | succ n ih => exact bt_Free_wagonsAtPlatform_18 F hr hlk hA hkx_18 ih

set_option maxRecDepth 100000 in
set_option maxHeartbeats 4000000 in
theorem c_Free_wagonsAtPlatform (l : Launch) (D : va_G) (k : Nat → ClassId) (a_t : Nat) (d_t : Nat → Nat) (i_t : Nat → Int32) (a_p1 : Nat) (d_p1 : Nat → Nat) (i_p1 : Nat → Int32) (d_t_row : Nat → Nat) (i_t_row : Nat → Int32) (r_p1_halts : Nat → Int32) (r_p1_first : Nat → Int32) (r_t_row_kinds : Nat → Int32) (r_t_row_longs : Nat → Int32) (r_t_row_weights : Nat → Int32) (r_t_row_strengths : Nat → Int32) (r_t_row_wears : Nat → Int32) (r_t_row_pushes : Nat → Int32) (r_t_row_helpers : Nat → Int32) (r_p1_kinds : Nat → Int32) (n2 : Int32) (Q : Int32 → (Nat → Int32) → (Nat → Int32) → (Nat → Int32) → (Nat → Int32) → (Nat → Int32) → (Nat → Int32) → (Nat → Int32) → (Nat → Int32) → Prop)  (hf : w_Free_wagonsAtPlatform i_p1 i_t_row r_p1_halts r_p1_first r_t_row_kinds r_t_row_longs r_t_row_weights r_t_row_strengths r_t_row_wears r_t_row_pushes r_t_row_helpers r_p1_kinds n2 Q) : CtI l yX0_wagonsAtPlatform cX0_wagonsAtPlatform 5 (some .int) 4 90 0 0 D k [.ref a_t, .ref a_p1, .int n2] (wd_Free_wagonsAtPlatform k a_t d_t i_t a_p1 d_p1 i_p1 d_t_row i_t_row r_p1_halts r_p1_first r_t_row_kinds r_t_row_longs r_t_row_weights r_t_row_strengths r_t_row_wears r_t_row_pushes r_t_row_helpers r_p1_kinds) (fun r w => ∃ (i_t_row : Nat → Int32), ∃ (r_t_row_kinds : Nat → Int32), ∃ (r_t_row_longs : Nat → Int32), ∃ (r_t_row_weights : Nat → Int32), ∃ (r_t_row_strengths : Nat → Int32), ∃ (r_t_row_wears : Nat → Int32), ∃ (r_t_row_pushes : Nat → Int32), ∃ (r_t_row_helpers : Nat → Int32), w = (wd_Free_wagonsAtPlatform k a_t d_t i_t a_p1 d_p1 i_p1 d_t_row i_t_row r_p1_halts r_p1_first r_t_row_kinds r_t_row_longs r_t_row_weights r_t_row_strengths r_t_row_wears r_t_row_pushes r_t_row_helpers r_p1_kinds) ∧ Q r i_t_row r_t_row_kinds r_t_row_longs r_t_row_weights r_t_row_strengths r_t_row_wears r_t_row_pushes r_t_row_helpers) := by
  refine CtI.of (by decide) (Nat.le_of_ble_eq_true rfl) ?_
  intro p e s m below meth c A F hr hlk hnm hA hB ls hl
  have hx := F.x
  have hb := F.b
  unfold w_Free_wagonsAtPlatform at hf
  replace hl : lv_has ls 5 [(0, .ref a_t), (1, .ref a_p1), (2, .int n2)] := hl
  refine lv_aload_n hx hb dX0_wagonsAtPlatform_0 rfl (lv_at hl 0 rfl) ?_
  refine g_get (w := .ref (d_t 0)) F hB 0 rfl fl_RX0_12 rfl dX0_wagonsAtPlatform_1 ?_
  refine lv_aload_n hx hb dX0_wagonsAtPlatform_4 rfl (lv_at hl 1 rfl) ?_
  refine lv_aload_n hx hb dX0_wagonsAtPlatform_5 rfl (lv_at hl 1 rfl) ?_
  refine lv_iload_n hx hb dX0_wagonsAtPlatform_6 rfl (lv_at hl 2 rfl) ?_
  refine k_vi (wr := [(a_t, ob 0 (rfd d_t) i_t j0), ((d_t 0), ob 8 (rfd d_t_row) i_t_row j0), ((d_p1 8), ai k 8 r_p1_first), ((d_t_row 0), ai k 20 r_t_row_kinds), ((d_t_row 1), ai k 20 r_t_row_longs), ((d_t_row 2), ai k 20 r_t_row_weights), ((d_t_row 3), ai k 20 r_t_row_strengths), ((d_t_row 4), ai k 20 r_t_row_wears), ((d_t_row 5), ai k 20 r_t_row_pushes), ((d_t_row 6), ai k 20 r_t_row_helpers), ((d_p1 6), ai k 18 r_p1_kinds)]) (rest := [.ref a_p1, .ref (d_t 0)]) F hA hB (c_Line_haltAt l D k a_p1 d_p1 i_p1 r_p1_halts n2 _  hf) ml_RX0_101 mv_yX3_haltAt [1, 3] [0, 2, 4, 5, 6, 7, 8, 9, 10, 11, 12] rfl rfl (by decide) (by decide) (by decide) 1 rfl rfl rfl hl.1 rfl (Nat.le_of_ble_eq_true rfl) ⟨Nat.le_of_ble_eq_true rfl, Nat.le_of_ble_eq_true rfl⟩ ⟨Nat.le_of_ble_eq_true rfl, Nat.le_of_ble_eq_true rfl⟩ dX0_wagonsAtPlatform_7 (fun z_1 w1 H locs hq hB => ?_)
  obtain ⟨rfl, hf⟩ := hq
  replace hB : Bd D A s.heap (wd_Free_wagonsAtPlatform k a_t d_t i_t a_p1 d_p1 i_p1 d_t_row i_t_row r_p1_halts r_p1_first r_t_row_kinds r_t_row_longs r_t_row_weights r_t_row_strengths r_t_row_wears r_t_row_pushes r_t_row_helpers r_p1_kinds) H locs := hB.sub [0, 11, 1, 12, 2, 3, 4, 5, 6, 7, 8, 9, 10] (by decide) rfl
  refine k_vv (wr := [(a_t, ob 0 (rfd d_t) i_t j0)]) (rest := []) F hA hB (c_Row_travel l D k (d_t 0) d_t_row i_t_row a_p1 d_p1 i_p1 r_p1_halts r_p1_first r_t_row_kinds r_t_row_longs r_t_row_weights r_t_row_strengths r_t_row_wears r_t_row_pushes r_t_row_helpers r_p1_kinds z_1 _  hf) ml_RX0_25 mv_yX8_travel [2, 1, 3, 4, 5, 6, 7, 8, 9, 10, 11, 12] [0] rfl rfl (by decide) (by decide) (by decide) 2 rfl rfl rfl hl.1 rfl (Nat.le_of_ble_eq_true rfl) ⟨Nat.le_of_ble_eq_true rfl, Nat.le_of_ble_eq_true rfl⟩ ⟨Nat.le_of_ble_eq_true rfl, Nat.le_of_ble_eq_true rfl⟩ dX0_wagonsAtPlatform_10 (fun w1 H locs hq hB => ?_)
  obtain ⟨i_t_row_2, r_t_row_kinds_3, r_t_row_longs_4, r_t_row_weights_5, r_t_row_strengths_6, r_t_row_wears_7, r_t_row_pushes_8, r_t_row_helpers_9, rfl, hf⟩ := hq
  replace hB : Bd D A s.heap (wd_Free_wagonsAtPlatform k a_t d_t i_t a_p1 d_p1 i_p1 d_t_row i_t_row_2 r_p1_halts r_p1_first r_t_row_kinds_3 r_t_row_longs_4 r_t_row_weights_5 r_t_row_strengths_6 r_t_row_wears_7 r_t_row_pushes_8 r_t_row_helpers_9 r_p1_kinds) H locs := hB.sub [0, 2, 1, 3, 4, 5, 6, 7, 8, 9, 10, 11, 12] (by decide) rfl
  refine lv_iconst (v := 1) hx hb dX0_wagonsAtPlatform_13 (by decide) ?_
  refine lv_istore_n (lv' := [(3, .int (1 : Int32)), (0, .ref a_t), (1, .ref a_p1), (2, .int n2)]) hx hb dX0_wagonsAtPlatform_14 rfl hl (by decide) rfl (fun ls hl => ?_)
  refine lv_iconst (v := 0) hx hb dX0_wagonsAtPlatform_15 (by decide) ?_
  refine lv_istore (lv' := [(4, .int (0 : Int32)), (3, .int (1 : Int32)), (0, .ref a_t), (1, .ref a_p1), (2, .int n2)]) hx hb dX0_wagonsAtPlatform_16 hl (by decide) rfl (fun ls hl => ?_)
  obtain ⟨n_14, hf⟩ := hf
  refine lt_Free_wagonsAtPlatform_18 F hr hlk hA (fun  H locs ls hf hB hl => ?_) n_14 _ _ _ _ _ hf hB (lv_sub hl [2, 3, 4, 1, 0] rfl)
  refine lv_aload_n hx hb dX0_wagonsAtPlatform_61 rfl (lv_at hl 0 rfl) ?_
  refine g_get (w := .ref (d_t 0)) F hB 0 rfl fl_RX0_12 rfl dX0_wagonsAtPlatform_62 ?_
  refine g_get (w := .int (i_t_row_2 8)) F hB 2 rfl fl_RX0_37 rfl dX0_wagonsAtPlatform_65 ?_
  exact r_i F hr hlk hB ⟨_, _, _, _, _, _, _, _, rfl, hf⟩ dX0_wagonsAtPlatform_68

/-! LongTrain.Free.roomNeeded -/
set_option maxRecDepth 100000 in
set_option maxHeartbeats 4000000 in
theorem c_Free_roomNeeded (l : Launch) (D : va_G) (k : Nat → ClassId) (a_t : Nat) (d_t : Nat → Nat) (i_t : Nat → Int32) (a_p1 : Nat) (d_p1 : Nat → Nat) (i_p1 : Nat → Int32) (d_t_row : Nat → Nat) (i_t_row : Nat → Int32) (r_p1_halts : Nat → Int32) (r_p1_first : Nat → Int32) (r_t_row_kinds : Nat → Int32) (r_t_row_longs : Nat → Int32) (r_t_row_weights : Nat → Int32) (r_t_row_strengths : Nat → Int32) (r_t_row_wears : Nat → Int32) (r_t_row_pushes : Nat → Int32) (r_t_row_helpers : Nat → Int32) (r_p1_kinds : Nat → Int32) (n2 : Int32) (Q : Int32 → (Nat → Int32) → (Nat → Int32) → (Nat → Int32) → (Nat → Int32) → (Nat → Int32) → (Nat → Int32) → (Nat → Int32) → (Nat → Int32) → Prop)  (hf : w_Free_roomNeeded i_p1 i_t_row r_p1_halts r_p1_first r_t_row_kinds r_t_row_longs r_t_row_weights r_t_row_strengths r_t_row_wears r_t_row_pushes r_t_row_helpers r_p1_kinds n2 Q) : CtI l yX0_roomNeeded cX0_roomNeeded 3 (some .int) 4 90 0 0 D k [.ref a_t, .ref a_p1, .int n2] (wd_Free_roomNeeded k a_t d_t i_t a_p1 d_p1 i_p1 d_t_row i_t_row r_p1_halts r_p1_first r_t_row_kinds r_t_row_longs r_t_row_weights r_t_row_strengths r_t_row_wears r_t_row_pushes r_t_row_helpers r_p1_kinds) (fun r w => ∃ (i_t_row : Nat → Int32), ∃ (r_t_row_kinds : Nat → Int32), ∃ (r_t_row_longs : Nat → Int32), ∃ (r_t_row_weights : Nat → Int32), ∃ (r_t_row_strengths : Nat → Int32), ∃ (r_t_row_wears : Nat → Int32), ∃ (r_t_row_pushes : Nat → Int32), ∃ (r_t_row_helpers : Nat → Int32), w = (wd_Free_roomNeeded k a_t d_t i_t a_p1 d_p1 i_p1 d_t_row i_t_row r_p1_halts r_p1_first r_t_row_kinds r_t_row_longs r_t_row_weights r_t_row_strengths r_t_row_wears r_t_row_pushes r_t_row_helpers r_p1_kinds) ∧ Q r i_t_row r_t_row_kinds r_t_row_longs r_t_row_weights r_t_row_strengths r_t_row_wears r_t_row_pushes r_t_row_helpers) := by
  refine CtI.of (by decide) (Nat.le_of_ble_eq_true rfl) ?_
  intro p e s m below meth c A F hr hlk hnm hA hB ls hl
  have hx := F.x
  have hb := F.b
  unfold w_Free_roomNeeded at hf
  replace hl : lv_has ls 3 [(0, .ref a_t), (1, .ref a_p1), (2, .int n2)] := hl
  refine lv_aload_n hx hb dX0_roomNeeded_0 rfl (lv_at hl 0 rfl) ?_
  refine g_get (w := .ref (d_t 0)) F hB 0 rfl fl_RX0_12 rfl dX0_roomNeeded_1 ?_
  refine lv_aload_n hx hb dX0_roomNeeded_4 rfl (lv_at hl 1 rfl) ?_
  refine lv_aload_n hx hb dX0_roomNeeded_5 rfl (lv_at hl 1 rfl) ?_
  refine lv_iload_n hx hb dX0_roomNeeded_6 rfl (lv_at hl 2 rfl) ?_
  refine k_vi (wr := [(a_t, ob 0 (rfd d_t) i_t j0), ((d_t 0), ob 8 (rfd d_t_row) i_t_row j0), ((d_p1 8), ai k 8 r_p1_first), ((d_t_row 0), ai k 20 r_t_row_kinds), ((d_t_row 1), ai k 20 r_t_row_longs), ((d_t_row 2), ai k 20 r_t_row_weights), ((d_t_row 3), ai k 20 r_t_row_strengths), ((d_t_row 4), ai k 20 r_t_row_wears), ((d_t_row 5), ai k 20 r_t_row_pushes), ((d_t_row 6), ai k 20 r_t_row_helpers), ((d_p1 6), ai k 18 r_p1_kinds)]) (rest := [.ref a_p1, .ref (d_t 0)]) F hA hB (c_Line_haltAt l D k a_p1 d_p1 i_p1 r_p1_halts n2 _  hf) ml_RX0_101 mv_yX3_haltAt [1, 3] [0, 2, 4, 5, 6, 7, 8, 9, 10, 11, 12] rfl rfl (by decide) (by decide) (by decide) 1 rfl rfl rfl hl.1 rfl (Nat.le_of_ble_eq_true rfl) ⟨Nat.le_of_ble_eq_true rfl, Nat.le_of_ble_eq_true rfl⟩ ⟨Nat.le_of_ble_eq_true rfl, Nat.le_of_ble_eq_true rfl⟩ dX0_roomNeeded_7 (fun z_1 w1 H locs hq hB => ?_)
  obtain ⟨rfl, hf⟩ := hq
  replace hB : Bd D A s.heap (wd_Free_roomNeeded k a_t d_t i_t a_p1 d_p1 i_p1 d_t_row i_t_row r_p1_halts r_p1_first r_t_row_kinds r_t_row_longs r_t_row_weights r_t_row_strengths r_t_row_wears r_t_row_pushes r_t_row_helpers r_p1_kinds) H locs := hB.sub [0, 11, 1, 12, 2, 3, 4, 5, 6, 7, 8, 9, 10] (by decide) rfl
  refine k_vv (wr := [(a_t, ob 0 (rfd d_t) i_t j0)]) (rest := []) F hA hB (c_Row_travel l D k (d_t 0) d_t_row i_t_row a_p1 d_p1 i_p1 r_p1_halts r_p1_first r_t_row_kinds r_t_row_longs r_t_row_weights r_t_row_strengths r_t_row_wears r_t_row_pushes r_t_row_helpers r_p1_kinds z_1 _  hf) ml_RX0_25 mv_yX8_travel [2, 1, 3, 4, 5, 6, 7, 8, 9, 10, 11, 12] [0] rfl rfl (by decide) (by decide) (by decide) 2 rfl rfl rfl hl.1 rfl (Nat.le_of_ble_eq_true rfl) ⟨Nat.le_of_ble_eq_true rfl, Nat.le_of_ble_eq_true rfl⟩ ⟨Nat.le_of_ble_eq_true rfl, Nat.le_of_ble_eq_true rfl⟩ dX0_roomNeeded_10 (fun w1 H locs hq hB => ?_)
  obtain ⟨i_t_row_2, r_t_row_kinds_3, r_t_row_longs_4, r_t_row_weights_5, r_t_row_strengths_6, r_t_row_wears_7, r_t_row_pushes_8, r_t_row_helpers_9, rfl, hf⟩ := hq
  replace hB : Bd D A s.heap (wd_Free_roomNeeded k a_t d_t i_t a_p1 d_p1 i_p1 d_t_row i_t_row_2 r_p1_halts r_p1_first r_t_row_kinds_3 r_t_row_longs_4 r_t_row_weights_5 r_t_row_strengths_6 r_t_row_wears_7 r_t_row_pushes_8 r_t_row_helpers_9 r_p1_kinds) H locs := hB.sub [0, 2, 1, 3, 4, 5, 6, 7, 8, 9, 10, 11, 12] (by decide) rfl
  refine lv_aload_n hx hb dX0_roomNeeded_13 rfl (lv_at hl 0 rfl) ?_
  refine g_get (w := .ref (d_t 0)) F hB 0 rfl fl_RX0_12 rfl dX0_roomNeeded_14 ?_
  refine g_get (w := .int (i_t_row_2 8)) F hB 2 rfl fl_RX0_37 rfl dX0_roomNeeded_17 ?_
  refine lv_if_ne (tgt := 27) hx hb dX0_roomNeeded_20 (by decide) (fun c_10 => ?_) (fun c_10 => ?_)
  · replace hf := hf.1 c_10
    refine lv_iconst (v := 1) hx hb dX0_roomNeeded_27 (by decide) ?_
    refine lv_aload_n hx hb dX0_roomNeeded_28 rfl (lv_at hl 0 rfl) ?_
    refine g_get (w := .ref (d_t 0)) F hB 0 rfl fl_RX0_12 rfl dX0_roomNeeded_29 ?_
    refine g_get (w := .int (i_t_row_2 9)) F hB 2 rfl fl_RX0_67 rfl dX0_roomNeeded_32 ?_
    refine lv_iadd hx hb dX0_roomNeeded_35 ?_
    exact r_i F hr hlk hB ⟨_, _, _, _, _, _, _, _, rfl, hf⟩ dX0_roomNeeded_36
  · replace hf := hf.2 c_10
    refine lv_iconst (v := 0) hx hb dX0_roomNeeded_23 (by decide) ?_
    refine lv_goto (tgt := 36) hx hb dX0_roomNeeded_24 (by decide) ?_
    exact r_i F hr hlk hB ⟨_, _, _, _, _, _, _, _, rfl, hf⟩ dX0_roomNeeded_36

/-! LongTrain.Free.hasWagon -/
set_option maxRecDepth 100000 in
set_option maxHeartbeats 4000000 in
theorem c_Free_hasWagon (l : Launch) (D : va_G) (k : Nat → ClassId) (a_t : Nat) (d_t : Nat → Nat) (i_t : Nat → Int32) (a_p1 : Nat) (d_p1 : Nat → Nat) (i_p1 : Nat → Int32) (d_t_row : Nat → Nat) (i_t_row : Nat → Int32) (r_p1_halts : Nat → Int32) (r_p1_first : Nat → Int32) (r_t_row_kinds : Nat → Int32) (r_t_row_longs : Nat → Int32) (r_t_row_weights : Nat → Int32) (r_t_row_strengths : Nat → Int32) (r_t_row_wears : Nat → Int32) (r_t_row_pushes : Nat → Int32) (r_t_row_helpers : Nat → Int32) (r_p1_kinds : Nat → Int32) (n2 : Int32) (n3 : Int32) (Q : Int32 → (Nat → Int32) → (Nat → Int32) → (Nat → Int32) → (Nat → Int32) → (Nat → Int32) → (Nat → Int32) → (Nat → Int32) → (Nat → Int32) → Prop)  (hf : w_Free_hasWagon i_p1 i_t_row r_p1_halts r_p1_first r_t_row_kinds r_t_row_longs r_t_row_weights r_t_row_strengths r_t_row_wears r_t_row_pushes r_t_row_helpers r_p1_kinds n2 n3 Q) : CtI l yX0_hasWagon cX0_hasWagon 4 (some .boolean) 5 112 0 0 D k [.ref a_t, .ref a_p1, .int n2, .int n3] (wd_Free_hasWagon k a_t d_t i_t a_p1 d_p1 i_p1 d_t_row i_t_row r_p1_halts r_p1_first r_t_row_kinds r_t_row_longs r_t_row_weights r_t_row_strengths r_t_row_wears r_t_row_pushes r_t_row_helpers r_p1_kinds) (fun r w => (r = 0 ∨ r = 1) ∧ (∃ (i_t_row : Nat → Int32), ∃ (r_t_row_kinds : Nat → Int32), ∃ (r_t_row_longs : Nat → Int32), ∃ (r_t_row_weights : Nat → Int32), ∃ (r_t_row_strengths : Nat → Int32), ∃ (r_t_row_wears : Nat → Int32), ∃ (r_t_row_pushes : Nat → Int32), ∃ (r_t_row_helpers : Nat → Int32), w = (wd_Free_hasWagon k a_t d_t i_t a_p1 d_p1 i_p1 d_t_row i_t_row r_p1_halts r_p1_first r_t_row_kinds r_t_row_longs r_t_row_weights r_t_row_strengths r_t_row_wears r_t_row_pushes r_t_row_helpers r_p1_kinds) ∧ Q r i_t_row r_t_row_kinds r_t_row_longs r_t_row_weights r_t_row_strengths r_t_row_wears r_t_row_pushes r_t_row_helpers)) := by
  refine CtI.of (by decide) (Nat.le_of_ble_eq_true rfl) ?_
  intro p e s m below meth c A F hr hlk hnm hA hB ls hl
  have hx := F.x
  have hb := F.b
  unfold w_Free_hasWagon at hf
  replace hl : lv_has ls 4 [(0, .ref a_t), (1, .ref a_p1), (2, .int n2), (3, .int n3)] := hl
  refine lv_aload_n hx hb dX0_hasWagon_0 rfl (lv_at hl 0 rfl) ?_
  refine lv_aload_n hx hb dX0_hasWagon_1 rfl (lv_at hl 1 rfl) ?_
  refine lv_iload_n hx hb dX0_hasWagon_2 rfl (lv_at hl 3 rfl) ?_
  refine k_vv (wr := []) (rest := []) F hA hB (c_Free_start l D k a_t d_t i_t a_p1 d_p1 i_p1 d_t_row i_t_row r_p1_halts r_p1_first r_t_row_kinds r_t_row_longs r_t_row_weights r_t_row_strengths r_t_row_wears r_t_row_pushes r_t_row_helpers r_p1_kinds n3 _  hf) ml_RX0_73 mv_yX0_start [0, 1, 2, 3, 4, 5, 6, 7, 8, 9, 10, 11, 12] [] rfl rfl (by decide) (by decide) (by decide) 0 rfl rfl rfl hl.1 rfl (Nat.le_of_ble_eq_true rfl) ⟨Nat.le_of_ble_eq_true rfl, Nat.le_of_ble_eq_true rfl⟩ ⟨Nat.le_of_ble_eq_true rfl, Nat.le_of_ble_eq_true rfl⟩ dX0_hasWagon_3 (fun w1 H locs hq hB => ?_)
  obtain ⟨i_t_row_1, r_t_row_kinds_2, r_t_row_longs_3, r_t_row_weights_4, r_t_row_strengths_5, r_t_row_wears_6, r_t_row_pushes_7, r_t_row_helpers_8, rfl, hf⟩ := hq
  replace hB : Bd D A s.heap (wd_Free_hasWagon k a_t d_t i_t a_p1 d_p1 i_p1 d_t_row i_t_row_1 r_p1_halts r_p1_first r_t_row_kinds_2 r_t_row_longs_3 r_t_row_weights_4 r_t_row_strengths_5 r_t_row_wears_6 r_t_row_pushes_7 r_t_row_helpers_8 r_p1_kinds) H locs := hB.sub [0, 1, 2, 3, 4, 5, 6, 7, 8, 9, 10, 11, 12] (by decide) rfl
  refine lv_iload_n hx hb dX0_hasWagon_6 rfl (lv_at hl 2 rfl) ?_
  refine lv_if_lt (tgt := 25) hx hb dX0_hasWagon_7 (by decide) (fun c_10 => ?_) (fun c_10 => ?_)
  · replace hf := hf.1 c_10
    refine lv_iconst (v := 0) hx hb dX0_hasWagon_25 (by decide) ?_
    exact r_z F hr hlk hB (Or.inl rfl) ⟨Or.inl rfl, _, _, _, _, _, _, _, _, rfl, hf⟩ dX0_hasWagon_26
  · replace hf := hf.2 c_10
    refine lv_iload_n hx hb dX0_hasWagon_10 rfl (lv_at hl 2 rfl) ?_
    refine lv_aload_n hx hb dX0_hasWagon_11 rfl (lv_at hl 0 rfl) ?_
    refine g_get (w := .ref (d_t 0)) F hB 0 rfl fl_RX0_12 rfl dX0_hasWagon_12 ?_
    refine g_get (w := .int (i_t_row_1 8)) F hB 2 rfl fl_RX0_37 rfl dX0_hasWagon_15 ?_
    refine lv_icmp_ge (tgt := 25) hx hb dX0_hasWagon_18 (by decide) (fun c_9 => ?_) (fun c_9 => ?_)
    · replace hf := hf.1 c_9
      refine lv_iconst (v := 0) hx hb dX0_hasWagon_25 (by decide) ?_
      exact r_z F hr hlk hB (Or.inl rfl) ⟨Or.inl rfl, _, _, _, _, _, _, _, _, rfl, hf⟩ dX0_hasWagon_26
    · replace hf := hf.2 c_9
      refine lv_iconst (v := 1) hx hb dX0_hasWagon_21 (by decide) ?_
      refine lv_goto (tgt := 26) hx hb dX0_hasWagon_22 (by decide) ?_
      exact r_z F hr hlk hB (Or.inr rfl) ⟨Or.inr rfl, _, _, _, _, _, _, _, _, rfl, hf⟩ dX0_hasWagon_26

/-! LongTrain.Free.canPass -/
set_option maxRecDepth 100000 in
set_option maxHeartbeats 4000000 in
theorem c_Free_canPass (l : Launch) (D : va_G) (k : Nat → ClassId) (a_t : Nat) (d_t : Nat → Nat) (i_t : Nat → Int32) (d_t_row : Nat → Nat) (i_t_row : Nat → Int32) (r_t_row_bears : Nat → Int32) (r_t_row_strengths : Nat → Int32) (n1 : Int32) (Q : Int32 → Prop)  (hf : w_Free_canPass i_t_row r_t_row_bears r_t_row_strengths n1 Q) : CtI l yX0_canPass cX0_canPass 2 (some .boolean) 0 0 0 0 D k [.ref a_t, .int n1] (wd_Free_canPass k a_t d_t i_t d_t_row i_t_row r_t_row_bears r_t_row_strengths) (fun r w => (r = 0 ∨ r = 1) ∧ (w = (wd_Free_canPass k a_t d_t i_t d_t_row i_t_row r_t_row_bears r_t_row_strengths) ∧ Q r)) := by
  refine CtI.of (by decide) (Nat.le_of_ble_eq_true rfl) ?_
  intro p e s m below meth c A F hr hlk hnm hA hB ls hl
  have hx := F.x
  have hb := F.b
  unfold w_Free_canPass at hf
  replace hl : lv_has ls 2 [(0, .ref a_t), (1, .int n1)] := hl
  refine lv_iload_n hx hb dX0_canPass_0 rfl (lv_at hl 1 rfl) ?_
  refine lv_if_le (tgt := 42) hx hb dX0_canPass_1 (by decide) (fun c_5 => ?_) (fun c_5 => ?_)
  · replace hf := hf.1 c_5
    refine lv_iconst (v := 0) hx hb dX0_canPass_42 (by decide) ?_
    exact r_z F hr hlk hB (Or.inl rfl) ⟨Or.inl rfl, rfl, hf⟩ dX0_canPass_43
  · replace hf := hf.2 c_5
    refine lv_iload_n hx hb dX0_canPass_4 rfl (lv_at hl 1 rfl) ?_
    refine lv_aload_n hx hb dX0_canPass_5 rfl (lv_at hl 0 rfl) ?_
    refine g_get (w := .ref (d_t 0)) F hB 0 rfl fl_RX0_12 rfl dX0_canPass_6 ?_
    refine g_get (w := .int (i_t_row 8)) F hB 1 rfl fl_RX0_37 rfl dX0_canPass_9 ?_
    refine lv_icmp_ge (tgt := 42) hx hb dX0_canPass_12 (by decide) (fun c_4 => ?_) (fun c_4 => ?_)
    · replace hf := hf.1 c_4
      refine lv_iconst (v := 0) hx hb dX0_canPass_42 (by decide) ?_
      exact r_z F hr hlk hB (Or.inl rfl) ⟨Or.inl rfl, rfl, hf⟩ dX0_canPass_43
    · replace hf := hf.2 c_4
      refine lv_aload_n hx hb dX0_canPass_15 rfl (lv_at hl 0 rfl) ?_
      refine g_get (w := .ref (d_t 0)) F hB 0 rfl fl_RX0_12 rfl dX0_canPass_16 ?_
      refine g_get (w := .ref (d_t_row 7)) F hB 1 rfl fl_RX0_40 rfl dX0_canPass_19 ?_
      refine lv_iload_n hx hb dX0_canPass_22 rfl (lv_at hl 1 rfl) ?_
      obtain ⟨h_1, hf⟩ := hf
      refine g_iald F hB 2 rfl h_1 dX0_canPass_23 ?_
      refine lv_aload_n hx hb dX0_canPass_24 rfl (lv_at hl 0 rfl) ?_
      refine g_get (w := .ref (d_t 0)) F hB 0 rfl fl_RX0_12 rfl dX0_canPass_25 ?_
      refine g_get (w := .ref (d_t_row 3)) F hB 1 rfl fl_RX0_137 rfl dX0_canPass_28 ?_
      refine lv_iload_n hx hb dX0_canPass_31 rfl (lv_at hl 1 rfl) ?_
      obtain ⟨h_2, hf⟩ := hf
      refine g_iald F hB 3 rfl h_2 dX0_canPass_32 ?_
      refine lv_iconst (v := 2) hx hb dX0_canPass_33 (by decide) ?_
      refine lv_idiv hx hb dX0_canPass_34 (by decide) ?_
      refine lv_icmp_gt (tgt := 42) hx hb dX0_canPass_35 (by decide) (fun c_3 => ?_) (fun c_3 => ?_)
      · replace hf := hf.1 c_3
        refine lv_iconst (v := 0) hx hb dX0_canPass_42 (by decide) ?_
        exact r_z F hr hlk hB (Or.inl rfl) ⟨Or.inl rfl, rfl, hf⟩ dX0_canPass_43
      · replace hf := hf.2 c_3
        refine lv_iconst (v := 1) hx hb dX0_canPass_38 (by decide) ?_
        refine lv_goto (tgt := 43) hx hb dX0_canPass_39 (by decide) ?_
        exact r_z F hr hlk hB (Or.inr rfl) ⟨Or.inr rfl, rfl, hf⟩ dX0_canPass_43

/-! LongTrain.Free.cookPassesAhead -/
set_option maxRecDepth 100000 in
set_option maxHeartbeats 4000000 in
theorem c_Free_cookPassesAhead (l : Launch) (D : va_G) (k : Nat → ClassId) (a_t : Nat) (d_t : Nat → Nat) (i_t : Nat → Int32) (d_t_row : Nat → Nat) (i_t_row : Nat → Int32) (r_t_row_bears : Nat → Int32) (r_t_row_strengths : Nat → Int32) (r_t_row_longs : Nat → Int32)  (Q : Int32 → (Nat → Int32) → Prop)  (hf : w_Free_cookPassesAhead i_t i_t_row r_t_row_bears r_t_row_strengths r_t_row_longs Q) : CtI l yX0_cookPassesAhead cX0_cookPassesAhead 1 (some .boolean) 1 21 0 0 D k [.ref a_t] (wd_Free_cookPassesAhead k a_t d_t i_t d_t_row i_t_row r_t_row_bears r_t_row_strengths r_t_row_longs) (fun r w => (r = 0 ∨ r = 1) ∧ (∃ (i_t : Nat → Int32), w = (wd_Free_cookPassesAhead k a_t d_t i_t d_t_row i_t_row r_t_row_bears r_t_row_strengths r_t_row_longs) ∧ Q r i_t)) := by
  refine CtI.of (by decide) (Nat.le_of_ble_eq_true rfl) ?_
  intro p e s m below meth c A F hr hlk hnm hA hB ls hl
  have hx := F.x
  have hb := F.b
  unfold w_Free_cookPassesAhead at hf
  replace hl : lv_has ls 1 [(0, .ref a_t)] := hl
  refine lv_aload_n hx hb dX0_cookPassesAhead_0 rfl (lv_at hl 0 rfl) ?_
  refine lv_aload_n hx hb dX0_cookPassesAhead_1 rfl (lv_at hl 0 rfl) ?_
  refine g_get (w := .int (i_t 5)) F hB 0 rfl fl_RX0_111 rfl dX0_cookPassesAhead_2 ?_
  refine k_vi (wr := [((d_t_row 1), ai k 20 r_t_row_longs)]) (rest := []) F hA hB (c_Free_canPass l D k a_t d_t i_t d_t_row i_t_row r_t_row_bears r_t_row_strengths (i_t 5) _  hf) ml_RX0_134 mv_yX0_canPass [0, 1, 2, 3] [4] rfl rfl (by decide) (by decide) (by decide) 0 rfl rfl rfl hl.1 rfl (Nat.le_of_ble_eq_true rfl) ⟨Nat.le_of_ble_eq_true rfl, Nat.le_of_ble_eq_true rfl⟩ ⟨Nat.le_of_ble_eq_true rfl, Nat.le_of_ble_eq_true rfl⟩ dX0_cookPassesAhead_5 (fun z_1 w1 H locs hq hB => ?_)
  obtain ⟨h_2, rfl, hf⟩ := hq
  replace hB : Bd D A s.heap (wd_Free_cookPassesAhead k a_t d_t i_t d_t_row i_t_row r_t_row_bears r_t_row_strengths r_t_row_longs) H locs := hB.sub [1, 2, 3, 4, 0] (by decide) rfl
  refine lv_if_ne (tgt := 13) hx hb dX0_cookPassesAhead_8 (by decide) (fun c_4 => ?_) (fun c_4 => ?_)
  · replace hf := hf.1 c_4
    refine lv_aload_n hx hb dX0_cookPassesAhead_13 rfl (lv_at hl 0 rfl) ?_
    refine lv_dup hx hb dX0_cookPassesAhead_14 rfl ?_
    refine g_get (w := .int (i_t 5)) F hB 0 rfl fl_RX0_111 rfl dX0_cookPassesAhead_15 ?_
    refine lv_iconst (v := 1) hx hb dX0_cookPassesAhead_18 (by decide) ?_
    refine lv_isub hx hb dX0_cookPassesAhead_19 ?_
    refine g_puti F hB 0 rfl fl_RX0_111 rfl (wd_Free_cookPassesAhead k a_t d_t (upd i_t 5 ((i_t 5) - (1 : Int32))) d_t_row i_t_row r_t_row_bears r_t_row_strengths r_t_row_longs) rfl dX0_cookPassesAhead_20 (fun H locs hB => ?_)
    refine lv_aload_n hx hb dX0_cookPassesAhead_23 rfl (lv_at hl 0 rfl) ?_
    refine lv_aload_n hx hb dX0_cookPassesAhead_24 rfl (lv_at hl 0 rfl) ?_
    refine g_get (w := .ref (d_t 0)) F hB 0 rfl fl_RX0_12 rfl dX0_cookPassesAhead_25 ?_
    refine g_get (w := .ref (d_t_row 1)) F hB 1 rfl fl_RX0_105 rfl dX0_cookPassesAhead_28 ?_
    refine lv_aload_n hx hb dX0_cookPassesAhead_31 rfl (lv_at hl 0 rfl) ?_
    refine g_get (w := .int ((upd i_t 5 ((i_t 5) - (1 : Int32))) 5)) F hB 0 rfl fl_RX0_111 rfl dX0_cookPassesAhead_32 ?_
    obtain ⟨h_3, hf⟩ := hf
    refine g_iald F hB 4 rfl h_3 dX0_cookPassesAhead_35 ?_
    refine g_puti F hB 0 rfl fl_RX0_114 rfl (wd_Free_cookPassesAhead k a_t d_t (upd (upd i_t 5 ((i_t 5) - (1 : Int32))) 6 (r_t_row_longs (((upd i_t 5 ((i_t 5) - (1 : Int32))) 5)).toNatClampNeg)) d_t_row i_t_row r_t_row_bears r_t_row_strengths r_t_row_longs) rfl dX0_cookPassesAhead_36 (fun H locs hB => ?_)
    refine lv_iconst (v := 1) hx hb dX0_cookPassesAhead_39 (by decide) ?_
    exact r_z F hr hlk hB (Or.inr rfl) ⟨Or.inr rfl, _, rfl, hf⟩ dX0_cookPassesAhead_40
  · replace hf := hf.2 c_4
    refine lv_iconst (v := 0) hx hb dX0_cookPassesAhead_11 (by decide) ?_
    exact r_z F hr hlk hB (Or.inl rfl) ⟨Or.inl rfl, _, rfl, hf⟩ dX0_cookPassesAhead_12

/-! LongTrain.Free.cookPassesBehind -/
set_option maxRecDepth 100000 in
set_option maxHeartbeats 4000000 in
theorem c_Free_cookPassesBehind (l : Launch) (D : va_G) (k : Nat → ClassId) (a_t : Nat) (d_t : Nat → Nat) (i_t : Nat → Int32) (d_t_row : Nat → Nat) (i_t_row : Nat → Int32) (r_t_row_bears : Nat → Int32) (r_t_row_strengths : Nat → Int32) (r_t_row_longs : Nat → Int32) (n1 : Int32) (Q : Int32 → (Nat → Int32) → Prop)  (hf : w_Free_cookPassesBehind i_t i_t_row r_t_row_bears r_t_row_strengths r_t_row_longs n1 Q) : CtI l yX0_cookPassesBehind cX0_cookPassesBehind 2 (some .boolean) 1 21 0 0 D k [.ref a_t, .int n1] (wd_Free_cookPassesBehind k a_t d_t i_t d_t_row i_t_row r_t_row_bears r_t_row_strengths r_t_row_longs) (fun r w => (r = 0 ∨ r = 1) ∧ (∃ (i_t : Nat → Int32), w = (wd_Free_cookPassesBehind k a_t d_t i_t d_t_row i_t_row r_t_row_bears r_t_row_strengths r_t_row_longs) ∧ Q r i_t)) := by
  refine CtI.of (by decide) (Nat.le_of_ble_eq_true rfl) ?_
  intro p e s m below meth c A F hr hlk hnm hA hB ls hl
  have hx := F.x
  have hb := F.b
  unfold w_Free_cookPassesBehind at hf
  replace hl : lv_has ls 2 [(0, .ref a_t), (1, .int n1)] := hl
  refine lv_aload_n hx hb dX0_cookPassesBehind_0 rfl (lv_at hl 0 rfl) ?_
  refine lv_aload_n hx hb dX0_cookPassesBehind_1 rfl (lv_at hl 0 rfl) ?_
  refine g_get (w := .int (i_t 5)) F hB 0 rfl fl_RX0_111 rfl dX0_cookPassesBehind_2 ?_
  refine lv_iconst (v := 1) hx hb dX0_cookPassesBehind_5 (by decide) ?_
  refine lv_iadd hx hb dX0_cookPassesBehind_6 ?_
  refine k_vi (wr := [((d_t_row 1), ai k 20 r_t_row_longs)]) (rest := []) F hA hB (c_Free_canPass l D k a_t d_t i_t d_t_row i_t_row r_t_row_bears r_t_row_strengths ((i_t 5) + (1 : Int32)) _  hf) ml_RX0_134 mv_yX0_canPass [0, 1, 2, 3] [4] rfl rfl (by decide) (by decide) (by decide) 0 rfl rfl rfl hl.1 rfl (Nat.le_of_ble_eq_true rfl) ⟨Nat.le_of_ble_eq_true rfl, Nat.le_of_ble_eq_true rfl⟩ ⟨Nat.le_of_ble_eq_true rfl, Nat.le_of_ble_eq_true rfl⟩ dX0_cookPassesBehind_7 (fun z_1 w1 H locs hq hB => ?_)
  obtain ⟨h_2, rfl, hf⟩ := hq
  replace hB : Bd D A s.heap (wd_Free_cookPassesBehind k a_t d_t i_t d_t_row i_t_row r_t_row_bears r_t_row_strengths r_t_row_longs) H locs := hB.sub [1, 2, 3, 4, 0] (by decide) rfl
  refine lv_if_ne (tgt := 15) hx hb dX0_cookPassesBehind_10 (by decide) (fun c_5 => ?_) (fun c_5 => ?_)
  · replace hf := hf.1 c_5
    refine lv_aload_n hx hb dX0_cookPassesBehind_15 rfl (lv_at hl 0 rfl) ?_
    refine lv_dup hx hb dX0_cookPassesBehind_16 rfl ?_
    refine g_get (w := .int (i_t 5)) F hB 0 rfl fl_RX0_111 rfl dX0_cookPassesBehind_17 ?_
    refine lv_iconst (v := 1) hx hb dX0_cookPassesBehind_20 (by decide) ?_
    refine lv_iadd hx hb dX0_cookPassesBehind_21 ?_
    refine g_puti F hB 0 rfl fl_RX0_111 rfl (wd_Free_cookPassesBehind k a_t d_t (upd i_t 5 ((i_t 5) + (1 : Int32))) d_t_row i_t_row r_t_row_bears r_t_row_strengths r_t_row_longs) rfl dX0_cookPassesBehind_22 (fun H locs hB => ?_)
    refine lv_aload_n hx hb dX0_cookPassesBehind_25 rfl (lv_at hl 0 rfl) ?_
    refine lv_aload_n hx hb dX0_cookPassesBehind_26 rfl (lv_at hl 0 rfl) ?_
    refine g_get (w := .int ((upd i_t 5 ((i_t 5) + (1 : Int32))) 5)) F hB 0 rfl fl_RX0_111 rfl dX0_cookPassesBehind_27 ?_
    refine lv_iload_n hx hb dX0_cookPassesBehind_30 rfl (lv_at hl 1 rfl) ?_
    refine lv_icmp_ne (tgt := 38) hx hb dX0_cookPassesBehind_31 (by decide) (fun c_4 => ?_) (fun c_4 => ?_)
    · replace hf := hf.1 c_4
      refine lv_aload_n hx hb dX0_cookPassesBehind_38 rfl (lv_at hl 0 rfl) ?_
      refine g_get (w := .ref (d_t 0)) F hB 0 rfl fl_RX0_12 rfl dX0_cookPassesBehind_39 ?_
      refine g_get (w := .ref (d_t_row 1)) F hB 1 rfl fl_RX0_105 rfl dX0_cookPassesBehind_42 ?_
      refine lv_aload_n hx hb dX0_cookPassesBehind_45 rfl (lv_at hl 0 rfl) ?_
      refine g_get (w := .int ((upd i_t 5 ((i_t 5) + (1 : Int32))) 5)) F hB 0 rfl fl_RX0_111 rfl dX0_cookPassesBehind_46 ?_
      obtain ⟨h_3, hf⟩ := hf
      refine g_iald F hB 4 rfl h_3 dX0_cookPassesBehind_49 ?_
      refine g_puti F hB 0 rfl fl_RX0_114 rfl (wd_Free_cookPassesBehind k a_t d_t (upd (upd i_t 5 ((i_t 5) + (1 : Int32))) 6 (r_t_row_longs (((upd i_t 5 ((i_t 5) + (1 : Int32))) 5)).toNatClampNeg)) d_t_row i_t_row r_t_row_bears r_t_row_strengths r_t_row_longs) rfl dX0_cookPassesBehind_50 (fun H locs hB => ?_)
      refine lv_iconst (v := 1) hx hb dX0_cookPassesBehind_53 (by decide) ?_
      exact r_z F hr hlk hB (Or.inr rfl) ⟨Or.inr rfl, _, rfl, hf⟩ dX0_cookPassesBehind_54
    · replace hf := hf.2 c_4
      refine lv_iconst (v := 0) hx hb dX0_cookPassesBehind_34 (by decide) ?_
      refine lv_goto (tgt := 50) hx hb dX0_cookPassesBehind_35 (by decide) ?_
      refine g_puti F hB 0 rfl fl_RX0_114 rfl (wd_Free_cookPassesBehind k a_t d_t (upd (upd i_t 5 ((i_t 5) + (1 : Int32))) 6 (0 : Int32)) d_t_row i_t_row r_t_row_bears r_t_row_strengths r_t_row_longs) rfl dX0_cookPassesBehind_50 (fun H locs hB => ?_)
      refine lv_iconst (v := 1) hx hb dX0_cookPassesBehind_53 (by decide) ?_
      exact r_z F hr hlk hB (Or.inr rfl) ⟨Or.inr rfl, _, rfl, hf⟩ dX0_cookPassesBehind_54
  · replace hf := hf.2 c_5
    refine lv_iconst (v := 0) hx hb dX0_cookPassesBehind_13 (by decide) ?_
    exact r_z F hr hlk hB (Or.inl rfl) ⟨Or.inl rfl, _, rfl, hf⟩ dX0_cookPassesBehind_14

/-! LongTrain.Free.cookComes -/
set_option maxRecDepth 100000 in
set_option maxHeartbeats 4000000 in
theorem bt_Free_cookComes_5 {p : Program} {l : Launch} {e : Env} {s : State} {m : MethodId} {below : List Frame} {meth : Method} {c : Code} {A : Nat → Prop} {D : va_G} {k : Nat → ClassId} {a_t : Nat} {d_t : Nat → Nat} {d_t_row : Nat → Nat} {i_t_row : Nat → Int32} {r_t_row_bears : Nat → Int32} {r_t_row_strengths : Nat → Int32} {r_t_row_longs : Nat → Int32} {n1 : Int32} {n2 : Int32} {Q : Int32 → (Nat → Int32) → Prop}  {x2 : Int32} {kx_5 : (Nat → Int32) → Prop} {kr_5 : (Int32) → (Int32) → (Nat → Int32) → Prop} (F : Fx p m c cX0_cookComes 6 s ([.ref a_t, .int n1, .int n2] : List Value).toArray RX0 D k) (hr : meth.sig.returnType = (some .boolean)) (hlk : meth.locks = false) (hA : ∀ q : Nat, s.heap.size ≤ q → A q) (hkx_5 : ∀ (i_t : Nat → Int32) (H : Heap) (locs : List Loc) (ls : Array Slot), kx_5 i_t → Bd D A s.heap (wd_Free_cookComes k a_t d_t i_t d_t_row i_t_row r_t_row_bears r_t_row_strengths r_t_row_longs) H locs → lv_has ls 6 [] → W p l e { frames := 2, cells := 0, slots := 0, locals := 42 } s m ([.ref a_t, .int n1, .int n2] : List Value).toArray below meth c H locs 0 0 (Ei below (fun r w => (r = 0 ∨ r = 1) ∧ (∃ (i_t : Nat → Int32), w = (wd_Free_cookComes k a_t d_t i_t d_t_row i_t_row r_t_row_bears r_t_row_strengths r_t_row_longs) ∧ Q r i_t)) D k A ([.ref a_t, .int n1, .int n2] : List Value).toArray s 0 0) (F0 m 91 ls [])) (hkr_5 : ∀ (x3 : Int32) (x4 : Int32) (i_t : Nat → Int32) (H : Heap) (locs : List Loc) (ls : Array Slot), kr_5 x3 x4 i_t → Bd D A s.heap (wd_Free_cookComes k a_t d_t i_t d_t_row i_t_row r_t_row_bears r_t_row_strengths r_t_row_longs) H locs → lv_has ls 6 [(0, .ref a_t), (2, .int x2), (3, .int x3), (4, .int x4)] → W p l e { frames := 2, cells := 0, slots := 0, locals := 42 } s m ([.ref a_t, .int n1, .int n2] : List Value).toArray below meth c H locs 0 0 (Ei below (fun r w => (r = 0 ∨ r = 1) ∧ (∃ (i_t : Nat → Int32), w = (wd_Free_cookComes k a_t d_t i_t d_t_row i_t_row r_t_row_bears r_t_row_strengths r_t_row_longs) ∧ Q r i_t)) D k A ([.ref a_t, .int n1, .int n2] : List Value).toArray s 0 0) (F0 m 5 ls [])) :
    ∀ (x3 : Int32) (x4 : Int32) (i_t : Nat → Int32) (H : Heap) (locs : List Loc) (ls : Array Slot), b_Free_cookComes_5 i_t_row r_t_row_bears r_t_row_strengths r_t_row_longs x2 Q kx_5 kr_5 x3 x4 i_t → Bd D A s.heap (wd_Free_cookComes k a_t d_t i_t d_t_row i_t_row r_t_row_bears r_t_row_strengths r_t_row_longs) H locs → lv_has ls 6 [(0, .ref a_t), (2, .int x2), (3, .int x3), (4, .int x4)] → W p l e { frames := 2, cells := 0, slots := 0, locals := 42 } s m ([.ref a_t, .int n1, .int n2] : List Value).toArray below meth c H locs 0 0 (Ei below (fun r w => (r = 0 ∨ r = 1) ∧ (∃ (i_t : Nat → Int32), w = (wd_Free_cookComes k a_t d_t i_t d_t_row i_t_row r_t_row_bears r_t_row_strengths r_t_row_longs) ∧ Q r i_t)) D k A ([.ref a_t, .int n1, .int n2] : List Value).toArray s 0 0) (F0 m 5 ls []) := by
  have hx := F.x
  have hb := F.b
  intro x3 x4 i_t H locs ls hf hB hl
  unfold b_Free_cookComes_5 at hf
  refine lv_iload hx hb dX0_cookComes_5 (lv_at hl 3 rfl) ?_
  refine lv_bipush (v := 20) hx hb dX0_cookComes_7 (by decide) ?_
  refine lv_icmp_gt (tgt := 91) hx hb dX0_cookComes_9 (by decide) (fun c_12 => ?_) (fun c_12 => ?_)
  · replace hf := hf.1 c_12
    exact hkx_5 _ _ _ _ hf hB (lv_sub hl [] rfl)
  · replace hf := hf.2 c_12
    refine lv_iload_n hx hb dX0_cookComes_12 rfl (lv_at hl 2 rfl) ?_
    refine lv_aload_n hx hb dX0_cookComes_13 rfl (lv_at hl 0 rfl) ?_
    refine g_get (w := .int (i_t 6)) F hB 0 rfl fl_RX0_114 rfl dX0_cookComes_14 ?_
    refine k_min F ml_RX0_124 hl.1 (by decide) (Nat.le_of_ble_eq_true rfl) (Nat.zero_le _) (Nat.zero_le _) dX0_cookComes_17 ?_
    refine lv_istore (lv' := [(5, .int (jmin x3 (i_t 6))), (0, .ref a_t), (2, .int x2), (3, .int x3), (4, .int x4)]) hx hb dX0_cookComes_20 hl (by decide) rfl (fun ls hl => ?_)
    refine lv_iload_n hx hb dX0_cookComes_22 rfl (lv_at hl 3 rfl) ?_
    refine lv_iload hx hb dX0_cookComes_23 (lv_at hl 0 rfl) ?_
    refine lv_isub hx hb dX0_cookComes_25 ?_
    refine lv_istore_n (lv' := [(3, .int (x3 - (jmin x3 (i_t 6)))), (5, .int (jmin x3 (i_t 6))), (0, .ref a_t), (2, .int x2), (4, .int x4)]) hx hb dX0_cookComes_26 rfl hl (by decide) rfl (fun ls hl => ?_)
    refine lv_aload_n hx hb dX0_cookComes_27 rfl (lv_at hl 2 rfl) ?_
    refine lv_dup hx hb dX0_cookComes_28 rfl ?_
    refine g_get (w := .int (i_t 6)) F hB 0 rfl fl_RX0_114 rfl dX0_cookComes_29 ?_
    refine lv_iload hx hb dX0_cookComes_32 (lv_at hl 1 rfl) ?_
    refine lv_isub hx hb dX0_cookComes_34 ?_
    refine g_puti F hB 0 rfl fl_RX0_114 rfl (wd_Free_cookComes k a_t d_t (upd i_t 6 ((i_t 6) - (jmin x3 (i_t 6)))) d_t_row i_t_row r_t_row_bears r_t_row_strengths r_t_row_longs) rfl dX0_cookComes_35 (fun H locs hB => ?_)
    refine lv_aload_n hx hb dX0_cookComes_38 rfl (lv_at hl 2 rfl) ?_
    refine g_get (w := .int ((upd i_t 6 ((i_t 6) - (jmin x3 (i_t 6)))) 6)) F hB 0 rfl fl_RX0_114 rfl dX0_cookComes_39 ?_
    refine lv_if_le (tgt := 47) hx hb dX0_cookComes_42 (by decide) (fun c_11 => ?_) (fun c_11 => ?_)
    · replace hf := hf.1 c_11
      refine lv_aload_n hx hb dX0_cookComes_47 rfl (lv_at hl 2 rfl) ?_
      refine g_get (w := .int ((upd i_t 6 ((i_t 6) - (jmin x3 (i_t 6)))) 5)) F hB 0 rfl fl_RX0_111 rfl dX0_cookComes_48 ?_
      refine lv_iload_n hx hb dX0_cookComes_51 rfl (lv_at hl 3 rfl) ?_
      refine lv_icmp_ne (tgt := 57) hx hb dX0_cookComes_52 (by decide) (fun c_10 => ?_) (fun c_10 => ?_)
      · replace hf := hf.1 c_10
        refine lv_aload_n hx hb dX0_cookComes_57 rfl (lv_at hl 2 rfl) ?_
        refine g_get (w := .int ((upd i_t 6 ((i_t 6) - (jmin x3 (i_t 6)))) 5)) F hB 0 rfl fl_RX0_111 rfl dX0_cookComes_58 ?_
        refine lv_iload_n hx hb dX0_cookComes_61 rfl (lv_at hl 3 rfl) ?_
        refine lv_icmp_ge (tgt := 76) hx hb dX0_cookComes_62 (by decide) (fun c_9 => ?_) (fun c_9 => ?_)
        · replace hf := hf.1 c_9
          refine lv_aload_n hx hb dX0_cookComes_76 rfl (lv_at hl 2 rfl) ?_
          refine k_vi (wr := []) (rest := []) F hA hB (c_Free_cookPassesAhead l D k a_t d_t (upd i_t 6 ((i_t 6) - (jmin x3 (i_t 6)))) d_t_row i_t_row r_t_row_bears r_t_row_strengths r_t_row_longs _  hf) ml_RX0_131 mv_yX0_cookPassesAhead [0, 1, 2, 3, 4] [] rfl rfl (by decide) (by decide) (by decide) 0 rfl rfl rfl hl.1 rfl (Nat.le_of_ble_eq_true rfl) ⟨Nat.le_of_ble_eq_true rfl, Nat.le_of_ble_eq_true rfl⟩ ⟨Nat.le_of_ble_eq_true rfl, Nat.le_of_ble_eq_true rfl⟩ dX0_cookComes_77 (fun z_2 w1 H locs hq hB => ?_)
          obtain ⟨h_3, i_t_1, rfl, hf⟩ := hq
          replace hB : Bd D A s.heap (wd_Free_cookComes k a_t d_t i_t_1 d_t_row i_t_row r_t_row_bears r_t_row_strengths r_t_row_longs) H locs := hB.sub [0, 1, 2, 3, 4] (by decide) rfl
          refine lv_if_ne (tgt := 85) hx hb dX0_cookComes_80 (by decide) (fun c_4 => ?_) (fun c_4 => ?_)
          · replace hf := hf.1 c_4
            refine lv_iinc (v := (x4 + 1)) (lv' := [(4, .int (x4 + 1)), (3, .int (x3 - (jmin x3 (i_t 6)))), (5, .int (jmin x3 (i_t 6))), (0, .ref a_t), (2, .int x2)]) (k := 4) hx hb dX0_cookComes_85 hl rfl rfl (by decide) rfl (fun ls hl => ?_)
            refine lv_goto (tgt := 5) hx hb dX0_cookComes_88 (by decide) ?_
            exact hkr_5 _ _ _ _ _ _ hf hB (lv_sub hl [3, 4, 1, 0] rfl)
          · replace hf := hf.2 c_4
            refine lv_iconst (v := 0) hx hb dX0_cookComes_83 (by decide) ?_
            exact r_z F hr hlk hB (Or.inl rfl) ⟨Or.inl rfl, _, rfl, hf⟩ dX0_cookComes_84
        · replace hf := hf.2 c_9
          refine lv_aload_n hx hb dX0_cookComes_65 rfl (lv_at hl 2 rfl) ?_
          refine lv_iload_n hx hb dX0_cookComes_66 rfl (lv_at hl 3 rfl) ?_
          refine k_vi (wr := []) (rest := []) F hA hB (c_Free_cookPassesBehind l D k a_t d_t (upd i_t 6 ((i_t 6) - (jmin x3 (i_t 6)))) d_t_row i_t_row r_t_row_bears r_t_row_strengths r_t_row_longs x2 _  hf) ml_RX0_127 mv_yX0_cookPassesBehind [0, 1, 2, 3, 4] [] rfl rfl (by decide) (by decide) (by decide) 0 rfl rfl rfl hl.1 rfl (Nat.le_of_ble_eq_true rfl) ⟨Nat.le_of_ble_eq_true rfl, Nat.le_of_ble_eq_true rfl⟩ ⟨Nat.le_of_ble_eq_true rfl, Nat.le_of_ble_eq_true rfl⟩ dX0_cookComes_67 (fun z_6 w1 H locs hq hB => ?_)
          obtain ⟨h_7, i_t_5, rfl, hf⟩ := hq
          replace hB : Bd D A s.heap (wd_Free_cookComes k a_t d_t i_t_5 d_t_row i_t_row r_t_row_bears r_t_row_strengths r_t_row_longs) H locs := hB.sub [0, 1, 2, 3, 4] (by decide) rfl
          refine lv_if_eq (tgt := 83) hx hb dX0_cookComes_70 (by decide) (fun c_8 => ?_) (fun c_8 => ?_)
          · replace hf := hf.1 c_8
            refine lv_iconst (v := 0) hx hb dX0_cookComes_83 (by decide) ?_
            exact r_z F hr hlk hB (Or.inl rfl) ⟨Or.inl rfl, _, rfl, hf⟩ dX0_cookComes_84
          · replace hf := hf.2 c_8
            refine lv_goto (tgt := 85) hx hb dX0_cookComes_73 (by decide) ?_
            refine lv_iinc (v := (x4 + 1)) (lv' := [(4, .int (x4 + 1)), (3, .int (x3 - (jmin x3 (i_t 6)))), (5, .int (jmin x3 (i_t 6))), (0, .ref a_t), (2, .int x2)]) (k := 4) hx hb dX0_cookComes_85 hl rfl rfl (by decide) rfl (fun ls hl => ?_)
            refine lv_goto (tgt := 5) hx hb dX0_cookComes_88 (by decide) ?_
            exact hkr_5 _ _ _ _ _ _ hf hB (lv_sub hl [3, 4, 1, 0] rfl)
      · replace hf := hf.2 c_10
        refine lv_iconst (v := 1) hx hb dX0_cookComes_55 (by decide) ?_
        exact r_z F hr hlk hB (Or.inr rfl) ⟨Or.inr rfl, _, rfl, hf⟩ dX0_cookComes_56
    · replace hf := hf.2 c_11
      refine lv_iconst (v := 0) hx hb dX0_cookComes_45 (by decide) ?_
      exact r_z F hr hlk hB (Or.inl rfl) ⟨Or.inl rfl, _, rfl, hf⟩ dX0_cookComes_46

set_option maxRecDepth 100000 in
set_option maxHeartbeats 4000000 in
theorem lt_Free_cookComes_5 {p : Program} {l : Launch} {e : Env} {s : State} {m : MethodId} {below : List Frame} {meth : Method} {c : Code} {A : Nat → Prop} {D : va_G} {k : Nat → ClassId} {a_t : Nat} {d_t : Nat → Nat} {d_t_row : Nat → Nat} {i_t_row : Nat → Int32} {r_t_row_bears : Nat → Int32} {r_t_row_strengths : Nat → Int32} {r_t_row_longs : Nat → Int32} {n1 : Int32} {n2 : Int32} {Q : Int32 → (Nat → Int32) → Prop}  {x2 : Int32} {kx_5 : (Nat → Int32) → Prop} (F : Fx p m c cX0_cookComes 6 s ([.ref a_t, .int n1, .int n2] : List Value).toArray RX0 D k) (hr : meth.sig.returnType = (some .boolean)) (hlk : meth.locks = false) (hA : ∀ q : Nat, s.heap.size ≤ q → A q) (hkx_5 : ∀ (i_t : Nat → Int32) (H : Heap) (locs : List Loc) (ls : Array Slot), kx_5 i_t → Bd D A s.heap (wd_Free_cookComes k a_t d_t i_t d_t_row i_t_row r_t_row_bears r_t_row_strengths r_t_row_longs) H locs → lv_has ls 6 [] → W p l e { frames := 2, cells := 0, slots := 0, locals := 42 } s m ([.ref a_t, .int n1, .int n2] : List Value).toArray below meth c H locs 0 0 (Ei below (fun r w => (r = 0 ∨ r = 1) ∧ (∃ (i_t : Nat → Int32), w = (wd_Free_cookComes k a_t d_t i_t d_t_row i_t_row r_t_row_bears r_t_row_strengths r_t_row_longs) ∧ Q r i_t)) D k A ([.ref a_t, .int n1, .int n2] : List Value).toArray s 0 0) (F0 m 91 ls [])) :
    ∀ n : Nat, ∀ (x3 : Int32) (x4 : Int32) (i_t : Nat → Int32) (H : Heap) (locs : List Loc) (ls : Array Slot), lp_Free_cookComes_5 i_t_row r_t_row_bears r_t_row_strengths r_t_row_longs x2 Q kx_5 n x3 x4 i_t → Bd D A s.heap (wd_Free_cookComes k a_t d_t i_t d_t_row i_t_row r_t_row_bears r_t_row_strengths r_t_row_longs) H locs → lv_has ls 6 [(0, .ref a_t), (2, .int x2), (3, .int x3), (4, .int x4)] → W p l e { frames := 2, cells := 0, slots := 0, locals := 42 } s m ([.ref a_t, .int n1, .int n2] : List Value).toArray below meth c H locs 0 0 (Ei below (fun r w => (r = 0 ∨ r = 1) ∧ (∃ (i_t : Nat → Int32), w = (wd_Free_cookComes k a_t d_t i_t d_t_row i_t_row r_t_row_bears r_t_row_strengths r_t_row_longs) ∧ Q r i_t)) D k A ([.ref a_t, .int n1, .int n2] : List Value).toArray s 0 0) (F0 m 5 ls []) := by
  intro n
  induction n with
  | zero => intro x3 x4 i_t H locs ls hf; exact absurd hf (fun h => h)
  | succ n ih => exact bt_Free_cookComes_5 F hr hlk hA hkx_5 ih

set_option maxRecDepth 100000 in
set_option maxHeartbeats 4000000 in
theorem c_Free_cookComes (l : Launch) (D : va_G) (k : Nat → ClassId) (a_t : Nat) (d_t : Nat → Nat) (i_t : Nat → Int32) (d_t_row : Nat → Nat) (i_t_row : Nat → Int32) (r_t_row_bears : Nat → Int32) (r_t_row_strengths : Nat → Int32) (r_t_row_longs : Nat → Int32) (n1 : Int32) (n2 : Int32) (Q : Int32 → (Nat → Int32) → Prop)  (hf : w_Free_cookComes i_t i_t_row r_t_row_bears r_t_row_strengths r_t_row_longs n1 n2 Q) : CtI l yX0_cookComes cX0_cookComes 6 (some .boolean) 2 42 0 0 D k [.ref a_t, .int n1, .int n2] (wd_Free_cookComes k a_t d_t i_t d_t_row i_t_row r_t_row_bears r_t_row_strengths r_t_row_longs) (fun r w => (r = 0 ∨ r = 1) ∧ (∃ (i_t : Nat → Int32), w = (wd_Free_cookComes k a_t d_t i_t d_t_row i_t_row r_t_row_bears r_t_row_strengths r_t_row_longs) ∧ Q r i_t)) := by
  refine CtI.of (by decide) (Nat.le_of_ble_eq_true rfl) ?_
  intro p e s m below meth c A F hr hlk hnm hA hB ls hl
  have hx := F.x
  have hb := F.b
  unfold w_Free_cookComes at hf
  replace hl : lv_has ls 6 [(0, .ref a_t), (1, .int n1), (2, .int n2)] := hl
  refine lv_iload_n hx hb dX0_cookComes_0 rfl (lv_at hl 1 rfl) ?_
  refine lv_istore_n (lv' := [(3, .int n1), (0, .ref a_t), (1, .int n1), (2, .int n2)]) hx hb dX0_cookComes_1 rfl hl (by decide) rfl (fun ls hl => ?_)
  refine lv_iconst (v := 0) hx hb dX0_cookComes_2 (by decide) ?_
  refine lv_istore (lv' := [(4, .int (0 : Int32)), (3, .int n1), (0, .ref a_t), (1, .int n1), (2, .int n2)]) hx hb dX0_cookComes_3 hl (by decide) rfl (fun ls hl => ?_)
  obtain ⟨n_14, hf⟩ := hf
  refine lt_Free_cookComes_5 F hr hlk hA (fun i_t_13 H locs ls hf hB hl => ?_) n_14 _ _ _ _ _ _ hf hB (lv_sub hl [2, 4, 1, 0] rfl)
  refine lv_iconst (v := 0) hx hb dX0_cookComes_91 (by decide) ?_
  exact r_z F hr hlk hB (Or.inl rfl) ⟨Or.inl rfl, _, rfl, hf⟩ dX0_cookComes_92

/-! LongTrain.Free.minutes -/
set_option maxRecDepth 100000 in
set_option maxHeartbeats 4000000 in
theorem bt_Free_minutes_55 {p : Program} {l : Launch} {e : Env} {s : State} {m : MethodId} {below : List Frame} {meth : Method} {c : Code} {A : Nat → Prop} {D : va_G} {k : Nat → ClassId} {a_t : Nat} {d_t : Nat → Nat} {a_p1 : Nat} {d_p1 : Nat → Nat} {i_p1 : Nat → Int32} {d_t_row : Nat → Nat} {r_p1_halts : Nat → Int32} {r_p1_first : Nat → Int32} {r_p1_kinds : Nat → Int32} {r_p1_grades : Nat → Int32} {n2 : Int32} {n3 : Int32} {n4 : Int32} {Q : Int32 → (Nat → Int32) → (Nat → Int32) → (Nat → Int32) → (Nat → Int32) → (Nat → Int32) → (Nat → Int32) → (Nat → Int32) → (Nat → Int32) → (Nat → Int32) → (Nat → Int32) → Prop}  {x3 : Int32} {x4 : Int32} {kx_55 : (Nat → Int32) → (Nat → Int32) → (Nat → Int32) → (Nat → Int32) → (Nat → Int32) → (Nat → Int32) → (Nat → Int32) → (Nat → Int32) → (Nat → Int32) → (Nat → Int32) → Prop} {kr_55 : (Int32) → (Nat → Int32) → (Nat → Int32) → (Nat → Int32) → (Nat → Int32) → (Nat → Int32) → (Nat → Int32) → (Nat → Int32) → (Nat → Int32) → (Nat → Int32) → (Nat → Int32) → Prop} (F : Fx p m c cX0_minutes 6 s ([.ref a_t, .ref a_p1, .int n2, .int n3, .int n4] : List Value).toArray RX0 D k) (hr : meth.sig.returnType = (some .int)) (hlk : meth.locks = false) (hA : ∀ q : Nat, s.heap.size ≤ q → A q) (hkx_55 : ∀ (i_t : Nat → Int32) (i_t_row : Nat → Int32) (r_t_row_kinds : Nat → Int32) (r_t_row_longs : Nat → Int32) (r_t_row_weights : Nat → Int32) (r_t_row_strengths : Nat → Int32) (r_t_row_wears : Nat → Int32) (r_t_row_pushes : Nat → Int32) (r_t_row_helpers : Nat → Int32) (r_t_row_bears : Nat → Int32) (H : Heap) (locs : List Loc) (ls : Array Slot), kx_55 i_t i_t_row r_t_row_kinds r_t_row_longs r_t_row_weights r_t_row_strengths r_t_row_wears r_t_row_pushes r_t_row_helpers r_t_row_bears → Bd D A s.heap (wd_Free_minutes k a_t d_t i_t a_p1 d_p1 i_p1 d_t_row i_t_row r_p1_halts r_p1_first r_t_row_kinds r_t_row_longs r_t_row_weights r_t_row_strengths r_t_row_wears r_t_row_pushes r_t_row_helpers r_p1_kinds r_p1_grades r_t_row_bears) H locs → lv_has ls 6 [] → W p l e { frames := 5, cells := 0, slots := 0, locals := 112 } s m ([.ref a_t, .ref a_p1, .int n2, .int n3, .int n4] : List Value).toArray below meth c H locs 0 0 (Ei below (fun r w => ∃ (i_t : Nat → Int32), ∃ (i_t_row : Nat → Int32), ∃ (r_t_row_kinds : Nat → Int32), ∃ (r_t_row_longs : Nat → Int32), ∃ (r_t_row_weights : Nat → Int32), ∃ (r_t_row_strengths : Nat → Int32), ∃ (r_t_row_wears : Nat → Int32), ∃ (r_t_row_pushes : Nat → Int32), ∃ (r_t_row_helpers : Nat → Int32), ∃ (r_t_row_bears : Nat → Int32), w = (wd_Free_minutes k a_t d_t i_t a_p1 d_p1 i_p1 d_t_row i_t_row r_p1_halts r_p1_first r_t_row_kinds r_t_row_longs r_t_row_weights r_t_row_strengths r_t_row_wears r_t_row_pushes r_t_row_helpers r_p1_kinds r_p1_grades r_t_row_bears) ∧ Q r i_t i_t_row r_t_row_kinds r_t_row_longs r_t_row_weights r_t_row_strengths r_t_row_wears r_t_row_pushes r_t_row_helpers r_t_row_bears) D k A ([.ref a_t, .ref a_p1, .int n2, .int n3, .int n4] : List Value).toArray s 0 0) (F0 m 116 ls [])) (hkr_55 : ∀ (x5 : Int32) (i_t : Nat → Int32) (i_t_row : Nat → Int32) (r_t_row_kinds : Nat → Int32) (r_t_row_longs : Nat → Int32) (r_t_row_weights : Nat → Int32) (r_t_row_strengths : Nat → Int32) (r_t_row_wears : Nat → Int32) (r_t_row_pushes : Nat → Int32) (r_t_row_helpers : Nat → Int32) (r_t_row_bears : Nat → Int32) (H : Heap) (locs : List Loc) (ls : Array Slot), kr_55 x5 i_t i_t_row r_t_row_kinds r_t_row_longs r_t_row_weights r_t_row_strengths r_t_row_wears r_t_row_pushes r_t_row_helpers r_t_row_bears → Bd D A s.heap (wd_Free_minutes k a_t d_t i_t a_p1 d_p1 i_p1 d_t_row i_t_row r_p1_halts r_p1_first r_t_row_kinds r_t_row_longs r_t_row_weights r_t_row_strengths r_t_row_wears r_t_row_pushes r_t_row_helpers r_p1_kinds r_p1_grades r_t_row_bears) H locs → lv_has ls 6 [(0, .ref a_t), (1, .ref a_p1), (3, .int x3), (4, .int x4), (5, .int x5)] → W p l e { frames := 5, cells := 0, slots := 0, locals := 112 } s m ([.ref a_t, .ref a_p1, .int n2, .int n3, .int n4] : List Value).toArray below meth c H locs 0 0 (Ei below (fun r w => ∃ (i_t : Nat → Int32), ∃ (i_t_row : Nat → Int32), ∃ (r_t_row_kinds : Nat → Int32), ∃ (r_t_row_longs : Nat → Int32), ∃ (r_t_row_weights : Nat → Int32), ∃ (r_t_row_strengths : Nat → Int32), ∃ (r_t_row_wears : Nat → Int32), ∃ (r_t_row_pushes : Nat → Int32), ∃ (r_t_row_helpers : Nat → Int32), ∃ (r_t_row_bears : Nat → Int32), w = (wd_Free_minutes k a_t d_t i_t a_p1 d_p1 i_p1 d_t_row i_t_row r_p1_halts r_p1_first r_t_row_kinds r_t_row_longs r_t_row_weights r_t_row_strengths r_t_row_wears r_t_row_pushes r_t_row_helpers r_p1_kinds r_p1_grades r_t_row_bears) ∧ Q r i_t i_t_row r_t_row_kinds r_t_row_longs r_t_row_weights r_t_row_strengths r_t_row_wears r_t_row_pushes r_t_row_helpers r_t_row_bears) D k A ([.ref a_t, .ref a_p1, .int n2, .int n3, .int n4] : List Value).toArray s 0 0) (F0 m 55 ls [])) :
    ∀ (x5 : Int32) (i_t : Nat → Int32) (i_t_row : Nat → Int32) (r_t_row_kinds : Nat → Int32) (r_t_row_longs : Nat → Int32) (r_t_row_weights : Nat → Int32) (r_t_row_strengths : Nat → Int32) (r_t_row_wears : Nat → Int32) (r_t_row_pushes : Nat → Int32) (r_t_row_helpers : Nat → Int32) (r_t_row_bears : Nat → Int32) (H : Heap) (locs : List Loc) (ls : Array Slot), b_Free_minutes_55 i_p1 r_p1_halts r_p1_kinds r_p1_grades x3 x4 Q kx_55 kr_55 x5 i_t i_t_row r_t_row_kinds r_t_row_longs r_t_row_weights r_t_row_strengths r_t_row_wears r_t_row_pushes r_t_row_helpers r_t_row_bears → Bd D A s.heap (wd_Free_minutes k a_t d_t i_t a_p1 d_p1 i_p1 d_t_row i_t_row r_p1_halts r_p1_first r_t_row_kinds r_t_row_longs r_t_row_weights r_t_row_strengths r_t_row_wears r_t_row_pushes r_t_row_helpers r_p1_kinds r_p1_grades r_t_row_bears) H locs → lv_has ls 6 [(0, .ref a_t), (1, .ref a_p1), (3, .int x3), (4, .int x4), (5, .int x5)] → W p l e { frames := 5, cells := 0, slots := 0, locals := 112 } s m ([.ref a_t, .ref a_p1, .int n2, .int n3, .int n4] : List Value).toArray below meth c H locs 0 0 (Ei below (fun r w => ∃ (i_t : Nat → Int32), ∃ (i_t_row : Nat → Int32), ∃ (r_t_row_kinds : Nat → Int32), ∃ (r_t_row_longs : Nat → Int32), ∃ (r_t_row_weights : Nat → Int32), ∃ (r_t_row_strengths : Nat → Int32), ∃ (r_t_row_wears : Nat → Int32), ∃ (r_t_row_pushes : Nat → Int32), ∃ (r_t_row_helpers : Nat → Int32), ∃ (r_t_row_bears : Nat → Int32), w = (wd_Free_minutes k a_t d_t i_t a_p1 d_p1 i_p1 d_t_row i_t_row r_p1_halts r_p1_first r_t_row_kinds r_t_row_longs r_t_row_weights r_t_row_strengths r_t_row_wears r_t_row_pushes r_t_row_helpers r_p1_kinds r_p1_grades r_t_row_bears) ∧ Q r i_t i_t_row r_t_row_kinds r_t_row_longs r_t_row_weights r_t_row_strengths r_t_row_wears r_t_row_pushes r_t_row_helpers r_t_row_bears) D k A ([.ref a_t, .ref a_p1, .int n2, .int n3, .int n4] : List Value).toArray s 0 0) (F0 m 55 ls []) := by
  have hx := F.x
  have hb := F.b
  intro x5 i_t i_t_row r_t_row_kinds r_t_row_longs r_t_row_weights r_t_row_strengths r_t_row_wears r_t_row_pushes r_t_row_helpers r_t_row_bears H locs ls hf hB hl
  unfold b_Free_minutes_55 at hf
  refine lv_iload hx hb dX0_minutes_55 (lv_at hl 4 rfl) ?_
  refine lv_aload_n hx hb dX0_minutes_57 rfl (lv_at hl 1 rfl) ?_
  refine g_get (w := .int (i_p1 1)) F hB 1 rfl fl_RX0_62 rfl dX0_minutes_58 ?_
  refine lv_icmp_ge (tgt := 116) hx hb dX0_minutes_61 (by decide) (fun c_23 => ?_) (fun c_23 => ?_)
  · replace hf := hf.1 c_23
    exact hkx_55 _ _ _ _ _ _ _ _ _ _ _ _ _ hf hB (lv_sub hl [] rfl)
  · replace hf := hf.2 c_23
    refine lv_aload_n hx hb dX0_minutes_64 rfl (lv_at hl 0 rfl) ?_
    refine g_get (w := .ref (d_t 0)) F hB 0 rfl fl_RX0_12 rfl dX0_minutes_65 ?_
    refine lv_iload hx hb dX0_minutes_68 (lv_at hl 4 rfl) ?_
    refine g_puti F hB 2 rfl fl_RX0_29 rfl (wd_Free_minutes k a_t d_t i_t a_p1 d_p1 i_p1 d_t_row (upd i_t_row 10 x5) r_p1_halts r_p1_first r_t_row_kinds r_t_row_longs r_t_row_weights r_t_row_strengths r_t_row_wears r_t_row_pushes r_t_row_helpers r_p1_kinds r_p1_grades r_t_row_bears) rfl dX0_minutes_70 (fun H locs hB => ?_)
    refine lv_aload_n hx hb dX0_minutes_73 rfl (lv_at hl 0 rfl) ?_
    refine g_get (w := .ref (d_t 0)) F hB 0 rfl fl_RX0_12 rfl dX0_minutes_74 ?_
    refine lv_aload_n hx hb dX0_minutes_77 rfl (lv_at hl 1 rfl) ?_
    refine k_vv (wr := [(a_t, ob 0 (rfd d_t) i_t j0), ((d_p1 8), ai k 8 r_p1_first), ((d_p1 0), ai k 400 r_p1_grades), ((d_t_row 7), ai k 20 r_t_row_bears)]) (rest := []) F hA hB (c_Row_takeOn l D k (d_t 0) d_t_row (upd i_t_row 10 x5) a_p1 d_p1 i_p1 r_p1_halts r_t_row_kinds r_t_row_longs r_t_row_weights r_t_row_strengths r_t_row_wears r_t_row_pushes r_t_row_helpers r_p1_kinds _  hf) ml_RX0_52 mv_yX8_takeOn [2, 1, 3, 5, 6, 7, 8, 9, 10, 11, 12] [0, 4, 13, 14] rfl rfl (by decide) (by decide) (by decide) 2 rfl rfl rfl hl.1 rfl (Nat.le_of_ble_eq_true rfl) ⟨Nat.le_of_ble_eq_true rfl, Nat.le_of_ble_eq_true rfl⟩ ⟨Nat.le_of_ble_eq_true rfl, Nat.le_of_ble_eq_true rfl⟩ dX0_minutes_78 (fun w1 H locs hq hB => ?_)
    obtain ⟨i_t_row_9, r_t_row_kinds_10, r_t_row_longs_11, r_t_row_weights_12, r_t_row_strengths_13, r_t_row_wears_14, r_t_row_pushes_15, r_t_row_helpers_16, rfl, hf⟩ := hq
    replace hB : Bd D A s.heap (wd_Free_minutes k a_t d_t i_t a_p1 d_p1 i_p1 d_t_row i_t_row_9 r_p1_halts r_p1_first r_t_row_kinds_10 r_t_row_longs_11 r_t_row_weights_12 r_t_row_strengths_13 r_t_row_wears_14 r_t_row_pushes_15 r_t_row_helpers_16 r_p1_kinds r_p1_grades r_t_row_bears) H locs := hB.sub [0, 5, 4, 6, 1, 7, 8, 9, 10, 11, 12, 13, 14, 2, 3] (by decide) rfl
    refine lv_aload_n hx hb dX0_minutes_81 rfl (lv_at hl 0 rfl) ?_
    refine g_get (w := .ref (d_t 0)) F hB 0 rfl fl_RX0_12 rfl dX0_minutes_82 ?_
    refine lv_aload_n hx hb dX0_minutes_85 rfl (lv_at hl 1 rfl) ?_
    refine k_vi (wr := [(a_t, ob 0 (rfd d_t) i_t j0), ((d_p1 2), ai k 30 r_p1_halts), ((d_p1 8), ai k 8 r_p1_first), ((d_t_row 0), ai k 20 r_t_row_kinds_10), ((d_t_row 3), ai k 20 r_t_row_strengths_13), ((d_t_row 4), ai k 20 r_t_row_wears_14), ((d_t_row 6), ai k 20 r_t_row_helpers_16), ((d_p1 6), ai k 18 r_p1_kinds)]) (rest := []) F hA hB (c_Row_measure l D k (d_t 0) d_t_row i_t_row_9 a_p1 d_p1 i_p1 r_t_row_longs_11 r_p1_grades r_t_row_weights_12 r_t_row_pushes_15 r_t_row_bears _  hf) ml_RX0_33 mv_yX8_measure [2, 1, 6, 13, 7, 10, 14] [0, 3, 4, 5, 8, 9, 11, 12] rfl rfl (by decide) (by decide) (by decide) 2 rfl rfl rfl hl.1 rfl (Nat.le_of_ble_eq_true rfl) ⟨Nat.le_of_ble_eq_true rfl, Nat.le_of_ble_eq_true rfl⟩ ⟨Nat.le_of_ble_eq_true rfl, Nat.le_of_ble_eq_true rfl⟩ dX0_minutes_86 (fun z_18 w1 H locs hq hB => ?_)
    obtain ⟨r_t_row_bears_17, rfl, hf⟩ := hq
    replace hB : Bd D A s.heap (wd_Free_minutes k a_t d_t i_t a_p1 d_p1 i_p1 d_t_row i_t_row_9 r_p1_halts r_p1_first r_t_row_kinds_10 r_t_row_longs_11 r_t_row_weights_12 r_t_row_strengths_13 r_t_row_wears_14 r_t_row_pushes_15 r_t_row_helpers_16 r_p1_kinds r_p1_grades r_t_row_bears_17) H locs := hB.sub [0, 9, 8, 1, 2, 3, 10, 12, 4, 5, 13, 6, 7, 11, 14] (by decide) rfl
    refine lv_pop hx hb dX0_minutes_89 rfl ?_
    refine lv_aload_n hx hb dX0_minutes_90 rfl (lv_at hl 0 rfl) ?_
    refine lv_aload_n hx hb dX0_minutes_91 rfl (lv_at hl 1 rfl) ?_
    refine g_get (w := .int (i_p1 15)) F hB 1 rfl fl_RX0_117 rfl dX0_minutes_92 ?_
    refine lv_iload_n hx hb dX0_minutes_95 rfl (lv_at hl 2 rfl) ?_
    refine k_vi (wr := [(a_p1, ob 3 (rfd d_p1) i_p1 j0), ((d_p1 2), ai k 30 r_p1_halts), ((d_p1 8), ai k 8 r_p1_first), ((d_t_row 0), ai k 20 r_t_row_kinds_10), ((d_t_row 2), ai k 20 r_t_row_weights_12), ((d_t_row 4), ai k 20 r_t_row_wears_14), ((d_t_row 5), ai k 20 r_t_row_pushes_15), ((d_t_row 6), ai k 20 r_t_row_helpers_16), ((d_p1 6), ai k 18 r_p1_kinds), ((d_p1 0), ai k 400 r_p1_grades)]) (rest := []) F hA hB (c_Free_cookComes l D k a_t d_t i_t d_t_row i_t_row_9 r_t_row_bears_17 r_t_row_strengths_13 r_t_row_longs_11 (i_p1 15) x3 _  hf) ml_RX0_120 mv_yX0_cookComes [0, 2, 14, 8, 6] [1, 3, 4, 5, 7, 9, 10, 11, 12, 13] rfl rfl (by decide) (by decide) (by decide) 0 rfl rfl rfl hl.1 rfl (Nat.le_of_ble_eq_true rfl) ⟨Nat.le_of_ble_eq_true rfl, Nat.le_of_ble_eq_true rfl⟩ ⟨Nat.le_of_ble_eq_true rfl, Nat.le_of_ble_eq_true rfl⟩ dX0_minutes_96 (fun z_20 w1 H locs hq hB => ?_)
    obtain ⟨h_21, i_t_19, rfl, hf⟩ := hq
    replace hB : Bd D A s.heap (wd_Free_minutes k a_t d_t i_t_19 a_p1 d_p1 i_p1 d_t_row i_t_row_9 r_p1_halts r_p1_first r_t_row_kinds_10 r_t_row_longs_11 r_t_row_weights_12 r_t_row_strengths_13 r_t_row_wears_14 r_t_row_pushes_15 r_t_row_helpers_16 r_p1_kinds r_p1_grades r_t_row_bears_17) H locs := hB.sub [10, 0, 11, 1, 2, 3, 14, 4, 13, 5, 6, 7, 8, 9, 12] (by decide) rfl
    refine lv_if_eq (tgt := 110) hx hb dX0_minutes_99 (by decide) (fun c_22 => ?_) (fun c_22 => ?_)
    · replace hf := hf.1 c_22
      refine lv_iinc (v := (x5 + 1)) (lv' := [(5, .int (x5 + 1)), (0, .ref a_t), (1, .ref a_p1), (3, .int x3), (4, .int x4)]) (k := 4) hx hb dX0_minutes_110 hl rfl rfl (by decide) rfl (fun ls hl => ?_)
      refine lv_goto (tgt := 55) hx hb dX0_minutes_113 (by decide) ?_
      exact hkr_55 _ _ _ _ _ _ _ _ _ _ _ _ _ _ hf hB (lv_sub hl [1, 2, 3, 4, 0] rfl)
    · replace hf := hf.2 c_22
      refine lv_iload hx hb dX0_minutes_102 (lv_at hl 4 rfl) ?_
      refine lv_iload hx hb dX0_minutes_104 (lv_at hl 3 rfl) ?_
      refine lv_isub hx hb dX0_minutes_106 ?_
      refine lv_iconst (v := 1) hx hb dX0_minutes_107 (by decide) ?_
      refine lv_iadd hx hb dX0_minutes_108 ?_
      exact r_i F hr hlk hB ⟨_, _, _, _, _, _, _, _, _, _, rfl, hf⟩ dX0_minutes_109

set_option maxRecDepth 100000 in
set_option maxHeartbeats 4000000 in
theorem lt_Free_minutes_55 {p : Program} {l : Launch} {e : Env} {s : State} {m : MethodId} {below : List Frame} {meth : Method} {c : Code} {A : Nat → Prop} {D : va_G} {k : Nat → ClassId} {a_t : Nat} {d_t : Nat → Nat} {a_p1 : Nat} {d_p1 : Nat → Nat} {i_p1 : Nat → Int32} {d_t_row : Nat → Nat} {r_p1_halts : Nat → Int32} {r_p1_first : Nat → Int32} {r_p1_kinds : Nat → Int32} {r_p1_grades : Nat → Int32} {n2 : Int32} {n3 : Int32} {n4 : Int32} {Q : Int32 → (Nat → Int32) → (Nat → Int32) → (Nat → Int32) → (Nat → Int32) → (Nat → Int32) → (Nat → Int32) → (Nat → Int32) → (Nat → Int32) → (Nat → Int32) → (Nat → Int32) → Prop}  {x3 : Int32} {x4 : Int32} {kx_55 : (Nat → Int32) → (Nat → Int32) → (Nat → Int32) → (Nat → Int32) → (Nat → Int32) → (Nat → Int32) → (Nat → Int32) → (Nat → Int32) → (Nat → Int32) → (Nat → Int32) → Prop} (F : Fx p m c cX0_minutes 6 s ([.ref a_t, .ref a_p1, .int n2, .int n3, .int n4] : List Value).toArray RX0 D k) (hr : meth.sig.returnType = (some .int)) (hlk : meth.locks = false) (hA : ∀ q : Nat, s.heap.size ≤ q → A q) (hkx_55 : ∀ (i_t : Nat → Int32) (i_t_row : Nat → Int32) (r_t_row_kinds : Nat → Int32) (r_t_row_longs : Nat → Int32) (r_t_row_weights : Nat → Int32) (r_t_row_strengths : Nat → Int32) (r_t_row_wears : Nat → Int32) (r_t_row_pushes : Nat → Int32) (r_t_row_helpers : Nat → Int32) (r_t_row_bears : Nat → Int32) (H : Heap) (locs : List Loc) (ls : Array Slot), kx_55 i_t i_t_row r_t_row_kinds r_t_row_longs r_t_row_weights r_t_row_strengths r_t_row_wears r_t_row_pushes r_t_row_helpers r_t_row_bears → Bd D A s.heap (wd_Free_minutes k a_t d_t i_t a_p1 d_p1 i_p1 d_t_row i_t_row r_p1_halts r_p1_first r_t_row_kinds r_t_row_longs r_t_row_weights r_t_row_strengths r_t_row_wears r_t_row_pushes r_t_row_helpers r_p1_kinds r_p1_grades r_t_row_bears) H locs → lv_has ls 6 [] → W p l e { frames := 5, cells := 0, slots := 0, locals := 112 } s m ([.ref a_t, .ref a_p1, .int n2, .int n3, .int n4] : List Value).toArray below meth c H locs 0 0 (Ei below (fun r w => ∃ (i_t : Nat → Int32), ∃ (i_t_row : Nat → Int32), ∃ (r_t_row_kinds : Nat → Int32), ∃ (r_t_row_longs : Nat → Int32), ∃ (r_t_row_weights : Nat → Int32), ∃ (r_t_row_strengths : Nat → Int32), ∃ (r_t_row_wears : Nat → Int32), ∃ (r_t_row_pushes : Nat → Int32), ∃ (r_t_row_helpers : Nat → Int32), ∃ (r_t_row_bears : Nat → Int32), w = (wd_Free_minutes k a_t d_t i_t a_p1 d_p1 i_p1 d_t_row i_t_row r_p1_halts r_p1_first r_t_row_kinds r_t_row_longs r_t_row_weights r_t_row_strengths r_t_row_wears r_t_row_pushes r_t_row_helpers r_p1_kinds r_p1_grades r_t_row_bears) ∧ Q r i_t i_t_row r_t_row_kinds r_t_row_longs r_t_row_weights r_t_row_strengths r_t_row_wears r_t_row_pushes r_t_row_helpers r_t_row_bears) D k A ([.ref a_t, .ref a_p1, .int n2, .int n3, .int n4] : List Value).toArray s 0 0) (F0 m 116 ls [])) :
    ∀ n : Nat, ∀ (x5 : Int32) (i_t : Nat → Int32) (i_t_row : Nat → Int32) (r_t_row_kinds : Nat → Int32) (r_t_row_longs : Nat → Int32) (r_t_row_weights : Nat → Int32) (r_t_row_strengths : Nat → Int32) (r_t_row_wears : Nat → Int32) (r_t_row_pushes : Nat → Int32) (r_t_row_helpers : Nat → Int32) (r_t_row_bears : Nat → Int32) (H : Heap) (locs : List Loc) (ls : Array Slot), lp_Free_minutes_55 i_p1 r_p1_halts r_p1_kinds r_p1_grades x3 x4 Q kx_55 n x5 i_t i_t_row r_t_row_kinds r_t_row_longs r_t_row_weights r_t_row_strengths r_t_row_wears r_t_row_pushes r_t_row_helpers r_t_row_bears → Bd D A s.heap (wd_Free_minutes k a_t d_t i_t a_p1 d_p1 i_p1 d_t_row i_t_row r_p1_halts r_p1_first r_t_row_kinds r_t_row_longs r_t_row_weights r_t_row_strengths r_t_row_wears r_t_row_pushes r_t_row_helpers r_p1_kinds r_p1_grades r_t_row_bears) H locs → lv_has ls 6 [(0, .ref a_t), (1, .ref a_p1), (3, .int x3), (4, .int x4), (5, .int x5)] → W p l e { frames := 5, cells := 0, slots := 0, locals := 112 } s m ([.ref a_t, .ref a_p1, .int n2, .int n3, .int n4] : List Value).toArray below meth c H locs 0 0 (Ei below (fun r w => ∃ (i_t : Nat → Int32), ∃ (i_t_row : Nat → Int32), ∃ (r_t_row_kinds : Nat → Int32), ∃ (r_t_row_longs : Nat → Int32), ∃ (r_t_row_weights : Nat → Int32), ∃ (r_t_row_strengths : Nat → Int32), ∃ (r_t_row_wears : Nat → Int32), ∃ (r_t_row_pushes : Nat → Int32), ∃ (r_t_row_helpers : Nat → Int32), ∃ (r_t_row_bears : Nat → Int32), w = (wd_Free_minutes k a_t d_t i_t a_p1 d_p1 i_p1 d_t_row i_t_row r_p1_halts r_p1_first r_t_row_kinds r_t_row_longs r_t_row_weights r_t_row_strengths r_t_row_wears r_t_row_pushes r_t_row_helpers r_p1_kinds r_p1_grades r_t_row_bears) ∧ Q r i_t i_t_row r_t_row_kinds r_t_row_longs r_t_row_weights r_t_row_strengths r_t_row_wears r_t_row_pushes r_t_row_helpers r_t_row_bears) D k A ([.ref a_t, .ref a_p1, .int n2, .int n3, .int n4] : List Value).toArray s 0 0) (F0 m 55 ls []) := by
  intro n
  induction n with
  | zero => intro x5 i_t i_t_row r_t_row_kinds r_t_row_longs r_t_row_weights r_t_row_strengths r_t_row_wears r_t_row_pushes r_t_row_helpers r_t_row_bears H locs ls hf; exact absurd hf (fun h => h)
  | succ n ih => exact bt_Free_minutes_55 F hr hlk hA hkx_55 ih

set_option maxRecDepth 100000 in
set_option maxHeartbeats 4000000 in
theorem jt_Free_minutes_48 {p : Program} {l : Launch} {e : Env} {s : State} {m : MethodId} {below : List Frame} {meth : Method} {c : Code} {A : Nat → Prop} {D : va_G} {k : Nat → ClassId} {a_t : Nat} {d_t : Nat → Nat} {a_p1 : Nat} {d_p1 : Nat → Nat} {i_p1 : Nat → Int32} {d_t_row : Nat → Nat} {r_p1_halts : Nat → Int32} {r_p1_first : Nat → Int32} {r_p1_kinds : Nat → Int32} {r_p1_grades : Nat → Int32} {n2 : Int32} {n3 : Int32} {n4 : Int32} {Q : Int32 → (Nat → Int32) → (Nat → Int32) → (Nat → Int32) → (Nat → Int32) → (Nat → Int32) → (Nat → Int32) → (Nat → Int32) → (Nat → Int32) → (Nat → Int32) → (Nat → Int32) → Prop}  (F : Fx p m c cX0_minutes 6 s ([.ref a_t, .ref a_p1, .int n2, .int n3, .int n4] : List Value).toArray RX0 D k) (hr : meth.sig.returnType = (some .int)) (hlk : meth.locks = false) (hA : ∀ q : Nat, s.heap.size ≤ q → A q) :
    ∀ (i_t : Nat → Int32) (i_t_row : Nat → Int32) (r_t_row_kinds : Nat → Int32) (r_t_row_longs : Nat → Int32) (r_t_row_weights : Nat → Int32) (r_t_row_strengths : Nat → Int32) (r_t_row_wears : Nat → Int32) (r_t_row_pushes : Nat → Int32) (r_t_row_helpers : Nat → Int32) (r_t_row_bears : Nat → Int32) (x3 : Int32) (x4 : Int32) (y0 : Int32) (H : Heap) (locs : List Loc) (ls : Array Slot), j_Free_minutes_48 i_t i_p1 i_t_row r_p1_halts r_t_row_kinds r_t_row_longs r_t_row_weights r_t_row_strengths r_t_row_wears r_t_row_pushes r_t_row_helpers r_p1_kinds r_p1_grades r_t_row_bears x3 x4 y0 Q → Bd D A s.heap (wd_Free_minutes k a_t d_t i_t a_p1 d_p1 i_p1 d_t_row i_t_row r_p1_halts r_p1_first r_t_row_kinds r_t_row_longs r_t_row_weights r_t_row_strengths r_t_row_wears r_t_row_pushes r_t_row_helpers r_p1_kinds r_p1_grades r_t_row_bears) H locs → lv_has ls 6 [(0, .ref a_t), (1, .ref a_p1), (3, .int x3), (4, .int x4)] → W p l e { frames := 5, cells := 0, slots := 0, locals := 112 } s m ([.ref a_t, .ref a_p1, .int n2, .int n3, .int n4] : List Value).toArray below meth c H locs 0 0 (Ei below (fun r w => ∃ (i_t : Nat → Int32), ∃ (i_t_row : Nat → Int32), ∃ (r_t_row_kinds : Nat → Int32), ∃ (r_t_row_longs : Nat → Int32), ∃ (r_t_row_weights : Nat → Int32), ∃ (r_t_row_strengths : Nat → Int32), ∃ (r_t_row_wears : Nat → Int32), ∃ (r_t_row_pushes : Nat → Int32), ∃ (r_t_row_helpers : Nat → Int32), ∃ (r_t_row_bears : Nat → Int32), w = (wd_Free_minutes k a_t d_t i_t a_p1 d_p1 i_p1 d_t_row i_t_row r_p1_halts r_p1_first r_t_row_kinds r_t_row_longs r_t_row_weights r_t_row_strengths r_t_row_wears r_t_row_pushes r_t_row_helpers r_p1_kinds r_p1_grades r_t_row_bears) ∧ Q r i_t i_t_row r_t_row_kinds r_t_row_longs r_t_row_weights r_t_row_strengths r_t_row_wears r_t_row_pushes r_t_row_helpers r_t_row_bears) D k A ([.ref a_t, .ref a_p1, .int n2, .int n3, .int n4] : List Value).toArray s 0 0) (F0 m 48 ls [.int y0, .ref a_t]) := by
  have hx := F.x
  have hb := F.b
  intro i_t i_t_row r_t_row_kinds r_t_row_longs r_t_row_weights r_t_row_strengths r_t_row_wears r_t_row_pushes r_t_row_helpers r_t_row_bears x3 x4 y0 H locs ls hf hB hl
  unfold j_Free_minutes_48 at hf
  refine g_puti F hB 0 rfl fl_RX0_114 rfl (wd_Free_minutes k a_t d_t (upd i_t 6 y0) a_p1 d_p1 i_p1 d_t_row i_t_row r_p1_halts r_p1_first r_t_row_kinds r_t_row_longs r_t_row_weights r_t_row_strengths r_t_row_wears r_t_row_pushes r_t_row_helpers r_p1_kinds r_p1_grades r_t_row_bears) rfl dX0_minutes_48 (fun H locs hB => ?_)
  refine lv_iload hx hb dX0_minutes_51 (lv_at hl 3 rfl) ?_
  refine lv_istore (lv' := [(5, .int x4), (0, .ref a_t), (1, .ref a_p1), (3, .int x3), (4, .int x4)]) hx hb dX0_minutes_53 hl (by decide) rfl (fun ls hl => ?_)
  obtain ⟨n_34, hf⟩ := hf
  refine lt_Free_minutes_55 F hr hlk hA (fun i_t_24 i_t_row_25 r_t_row_kinds_26 r_t_row_longs_27 r_t_row_weights_28 r_t_row_strengths_29 r_t_row_wears_30 r_t_row_pushes_31 r_t_row_helpers_32 r_t_row_bears_33 H locs ls hf hB hl => ?_) n_34 _ _ _ _ _ _ _ _ _ _ _ _ _ _ hf hB (lv_sub hl [1, 2, 3, 4, 0] rfl)
  refine lv_iconst (v := -1) hx hb dX0_minutes_116 (by decide) ?_
  exact r_i F hr hlk hB ⟨_, _, _, _, _, _, _, _, _, _, rfl, hf⟩ dX0_minutes_117

set_option maxRecDepth 100000 in
set_option maxHeartbeats 4000000 in
theorem c_Free_minutes (l : Launch) (D : va_G) (k : Nat → ClassId) (a_t : Nat) (d_t : Nat → Nat) (i_t : Nat → Int32) (a_p1 : Nat) (d_p1 : Nat → Nat) (i_p1 : Nat → Int32) (d_t_row : Nat → Nat) (i_t_row : Nat → Int32) (r_p1_halts : Nat → Int32) (r_p1_first : Nat → Int32) (r_t_row_kinds : Nat → Int32) (r_t_row_longs : Nat → Int32) (r_t_row_weights : Nat → Int32) (r_t_row_strengths : Nat → Int32) (r_t_row_wears : Nat → Int32) (r_t_row_pushes : Nat → Int32) (r_t_row_helpers : Nat → Int32) (r_p1_kinds : Nat → Int32) (r_p1_grades : Nat → Int32) (r_t_row_bears : Nat → Int32) (n2 : Int32) (n3 : Int32) (n4 : Int32) (Q : Int32 → (Nat → Int32) → (Nat → Int32) → (Nat → Int32) → (Nat → Int32) → (Nat → Int32) → (Nat → Int32) → (Nat → Int32) → (Nat → Int32) → (Nat → Int32) → (Nat → Int32) → Prop)  (hf : w_Free_minutes i_t i_p1 i_t_row r_p1_halts r_p1_first r_t_row_kinds r_t_row_longs r_t_row_weights r_t_row_strengths r_t_row_wears r_t_row_pushes r_t_row_helpers r_p1_kinds r_p1_grades r_t_row_bears n2 n3 n4 Q) : CtI l yX0_minutes cX0_minutes 6 (some .int) 5 112 0 0 D k [.ref a_t, .ref a_p1, .int n2, .int n3, .int n4] (wd_Free_minutes k a_t d_t i_t a_p1 d_p1 i_p1 d_t_row i_t_row r_p1_halts r_p1_first r_t_row_kinds r_t_row_longs r_t_row_weights r_t_row_strengths r_t_row_wears r_t_row_pushes r_t_row_helpers r_p1_kinds r_p1_grades r_t_row_bears) (fun r w => ∃ (i_t : Nat → Int32), ∃ (i_t_row : Nat → Int32), ∃ (r_t_row_kinds : Nat → Int32), ∃ (r_t_row_longs : Nat → Int32), ∃ (r_t_row_weights : Nat → Int32), ∃ (r_t_row_strengths : Nat → Int32), ∃ (r_t_row_wears : Nat → Int32), ∃ (r_t_row_pushes : Nat → Int32), ∃ (r_t_row_helpers : Nat → Int32), ∃ (r_t_row_bears : Nat → Int32), w = (wd_Free_minutes k a_t d_t i_t a_p1 d_p1 i_p1 d_t_row i_t_row r_p1_halts r_p1_first r_t_row_kinds r_t_row_longs r_t_row_weights r_t_row_strengths r_t_row_wears r_t_row_pushes r_t_row_helpers r_p1_kinds r_p1_grades r_t_row_bears) ∧ Q r i_t i_t_row r_t_row_kinds r_t_row_longs r_t_row_weights r_t_row_strengths r_t_row_wears r_t_row_pushes r_t_row_helpers r_t_row_bears) := by
  refine CtI.of (by decide) (Nat.le_of_ble_eq_true rfl) ?_
  intro p e s m below meth c A F hr hlk hnm hA hB ls hl
  have hx := F.x
  have hb := F.b
  unfold w_Free_minutes at hf
  replace hl : lv_has ls 6 [(0, .ref a_t), (1, .ref a_p1), (2, .int n2), (3, .int n3), (4, .int n4)] := hl
  refine lv_aload_n hx hb dX0_minutes_0 rfl (lv_at hl 0 rfl) ?_
  refine lv_aload_n hx hb dX0_minutes_1 rfl (lv_at hl 1 rfl) ?_
  refine lv_iload hx hb dX0_minutes_2 (lv_at hl 4 rfl) ?_
  refine k_vv (wr := [((d_p1 0), ai k 400 r_p1_grades), ((d_t_row 7), ai k 20 r_t_row_bears)]) (rest := []) F hA hB (c_Free_start l D k a_t d_t i_t a_p1 d_p1 i_p1 d_t_row i_t_row r_p1_halts r_p1_first r_t_row_kinds r_t_row_longs r_t_row_weights r_t_row_strengths r_t_row_wears r_t_row_pushes r_t_row_helpers r_p1_kinds n4 _  hf) ml_RX0_73 mv_yX0_start [0, 1, 2, 3, 4, 5, 6, 7, 8, 9, 10, 11, 12] [13, 14] rfl rfl (by decide) (by decide) (by decide) 0 rfl rfl rfl hl.1 rfl (Nat.le_of_ble_eq_true rfl) ⟨Nat.le_of_ble_eq_true rfl, Nat.le_of_ble_eq_true rfl⟩ ⟨Nat.le_of_ble_eq_true rfl, Nat.le_of_ble_eq_true rfl⟩ dX0_minutes_4 (fun w1 H locs hq hB => ?_)
  obtain ⟨i_t_row_1, r_t_row_kinds_2, r_t_row_longs_3, r_t_row_weights_4, r_t_row_strengths_5, r_t_row_wears_6, r_t_row_pushes_7, r_t_row_helpers_8, rfl, hf⟩ := hq
  replace hB : Bd D A s.heap (wd_Free_minutes k a_t d_t i_t a_p1 d_p1 i_p1 d_t_row i_t_row_1 r_p1_halts r_p1_first r_t_row_kinds_2 r_t_row_longs_3 r_t_row_weights_4 r_t_row_strengths_5 r_t_row_wears_6 r_t_row_pushes_7 r_t_row_helpers_8 r_p1_kinds r_p1_grades r_t_row_bears) H locs := hB.sub [2, 3, 4, 5, 6, 7, 8, 9, 10, 11, 12, 13, 14, 0, 1] (by decide) rfl
  refine lv_iload_n hx hb dX0_minutes_7 rfl (lv_at hl 2 rfl) ?_
  refine lv_if_lt (tgt := 22) hx hb dX0_minutes_8 (by decide) (fun c_38 => ?_) (fun c_38 => ?_)
  · replace hf := hf.1 c_38
    refine lv_iconst (v := -1) hx hb dX0_minutes_22 (by decide) ?_
    exact r_i F hr hlk hB ⟨_, _, _, _, _, _, _, _, _, _, rfl, hf⟩ dX0_minutes_23
  · replace hf := hf.2 c_38
    refine lv_iload_n hx hb dX0_minutes_11 rfl (lv_at hl 2 rfl) ?_
    refine lv_aload_n hx hb dX0_minutes_12 rfl (lv_at hl 0 rfl) ?_
    refine g_get (w := .ref (d_t 0)) F hB 0 rfl fl_RX0_12 rfl dX0_minutes_13 ?_
    refine g_get (w := .int (i_t_row_1 8)) F hB 2 rfl fl_RX0_37 rfl dX0_minutes_16 ?_
    refine lv_icmp_lt (tgt := 24) hx hb dX0_minutes_19 (by decide) (fun c_37 => ?_) (fun c_37 => ?_)
    · replace hf := hf.1 c_37
      refine lv_aload_n hx hb dX0_minutes_24 rfl (lv_at hl 0 rfl) ?_
      refine lv_iload_n hx hb dX0_minutes_25 rfl (lv_at hl 2 rfl) ?_
      refine g_puti F hB 0 rfl fl_RX0_111 rfl (wd_Free_minutes k a_t d_t (upd i_t 5 n2) a_p1 d_p1 i_p1 d_t_row i_t_row_1 r_p1_halts r_p1_first r_t_row_kinds_2 r_t_row_longs_3 r_t_row_weights_4 r_t_row_strengths_5 r_t_row_wears_6 r_t_row_pushes_7 r_t_row_helpers_8 r_p1_kinds r_p1_grades r_t_row_bears) rfl dX0_minutes_26 (fun H locs hB => ?_)
      refine lv_aload_n hx hb dX0_minutes_29 rfl (lv_at hl 0 rfl) ?_
      refine lv_iload_n hx hb dX0_minutes_30 rfl (lv_at hl 2 rfl) ?_
      refine lv_iload_n hx hb dX0_minutes_31 rfl (lv_at hl 3 rfl) ?_
      refine lv_icmp_ge (tgt := 47) hx hb dX0_minutes_32 (by decide) (fun c_36 => ?_) (fun c_36 => ?_)
      · replace hf := hf.1 c_36
        refine lv_iconst (v := 0) hx hb dX0_minutes_47 (by decide) ?_
        exact jt_Free_minutes_48 F hr hlk hA _ _ _ _ _ _ _ _ _ _ _ _ _ _ _ _ hf hB (lv_sub hl [0, 1, 3, 4] rfl)
      · replace hf := hf.2 c_36
        refine lv_aload_n hx hb dX0_minutes_35 rfl (lv_at hl 0 rfl) ?_
        refine g_get (w := .ref (d_t 0)) F hB 0 rfl fl_RX0_12 rfl dX0_minutes_36 ?_
        refine g_get (w := .ref (d_t_row 1)) F hB 2 rfl fl_RX0_105 rfl dX0_minutes_39 ?_
        refine lv_iload_n hx hb dX0_minutes_42 rfl (lv_at hl 2 rfl) ?_
        obtain ⟨h_35, hf⟩ := hf
        refine g_iald F hB 6 rfl h_35 dX0_minutes_43 ?_
        refine lv_goto (tgt := 48) hx hb dX0_minutes_44 (by decide) ?_
        exact jt_Free_minutes_48 F hr hlk hA _ _ _ _ _ _ _ _ _ _ _ _ _ _ _ _ hf hB (lv_sub hl [0, 1, 3, 4] rfl)
    · replace hf := hf.2 c_37
      refine lv_iconst (v := -1) hx hb dX0_minutes_22 (by decide) ?_
      exact r_i F hr hlk hB ⟨_, _, _, _, _, _, _, _, _, _, rfl, hf⟩ dX0_minutes_23

