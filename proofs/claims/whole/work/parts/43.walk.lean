/-! LongTrain.Reader.isKeyword -/
set_option maxRecDepth 100000 in
set_option maxHeartbeats 4000000 in
theorem jt_Reader_isKeyword_37 {p : Program} {l : Launch} {e : Env} {s : State} {m : MethodId} {below : List Frame} {meth : Method} {c : Code} {A : Nat → Prop} {D : va_G} {k : Nat → ClassId}  {K : Nat → Nat} {a_t : Nat} {w_t : Nat → Value} {i_t : Nat → Int32} {j_t : Nat → Int64} {a_t_text : Nat} {r_t_text : Nat → Int32} {n1 : Int32} {Q : Int32 → Prop} (hw_t_text : w_t 0 = .ref a_t_text) {x1 : Int32} {kr_2 : (Int32) → Prop} (F : Fx p m c cX7_isKeyword 4 s ([.ref a_t, .int n1] : List Value).toArray RX7 D k) (hr : meth.sig.returnType = (some .boolean)) (hlk : meth.locks = false) (hA : ∀ q : Nat, s.heap.size ≤ q → A q) (hE : Am K A s s.heap) (hkr_2 : ∀ (x2 : Int32) (H : Heap) (locs : List Loc) (ls : Array Slot), kr_2 x2 → Bd D A s.heap (wd_Reader_isKeyword k a_t w_t i_t j_t a_t_text r_t_text) H locs → lv_has ls 4 [(0, .ref a_t), (1, .int x1), (2, .int x2)] → W p l e { frames := 4, cells := 0, slots := 0, locals := 85 } s m ([.ref a_t, .int n1] : List Value).toArray below meth c H locs 0 0 (Ei below (fun r w => (r = 0 ∨ r = 1) ∧ (w = (wd_Reader_isKeyword k a_t w_t i_t j_t a_t_text r_t_text) ∧ Q r)) D k A ([.ref a_t, .int n1] : List Value).toArray s 0 0) (F0 m 2 ls [])) :
    ∀ (x2 : Int32) (y0 : Int32) (H : Heap) (locs : List Loc) (ls : Array Slot), j_Reader_isKeyword_37 x1 x2 y0 Q kr_2 → Bd D A s.heap (wd_Reader_isKeyword k a_t w_t i_t j_t a_t_text r_t_text) H locs → lv_has ls 4 [(0, .ref a_t), (1, .int x1), (2, .int x2)] → W p l e { frames := 4, cells := 0, slots := 0, locals := 85 } s m ([.ref a_t, .int n1] : List Value).toArray below meth c H locs 0 0 (Ei below (fun r w => (r = 0 ∨ r = 1) ∧ (w = (wd_Reader_isKeyword k a_t w_t i_t j_t a_t_text r_t_text) ∧ Q r)) D k A ([.ref a_t, .int n1] : List Value).toArray s 0 0) (F0 m 37 ls [.int y0]) := by
  have hx := F.x
  have hb := F.b
  intro x2 y0 H locs ls hf hB hl
  unfold j_Reader_isKeyword_37 at hf
  refine lv_istore_n (lv' := [(3, .int y0), (0, .ref a_t), (1, .int x1), (2, .int x2)]) hx hb dX7_isKeyword_37 rfl hl (by decide) rfl (fun ls hl => ?_)
  refine lv_iload_n hx hb dX7_isKeyword_38 rfl (lv_at hl 0 rfl) ?_
  refine va_ldcS hx hb F.o hE.1 dX7_isKeyword_39 ?_
  refine lv_bipush (v := 7) hx hb dX7_isKeyword_41 (by decide) ?_
  refine lv_iload_n hx hb dX7_isKeyword_43 rfl (lv_at hl 2 rfl) ?_
  refine lv_imul hx hb dX7_isKeyword_44 ?_
  refine lv_iload_n hx hb dX7_isKeyword_45 rfl (lv_at hl 3 rfl) ?_
  refine lv_iadd hx hb dX7_isKeyword_46 ?_
  obtain ⟨h_1, hf⟩ := hf
  refine k_charAt F hE hA hB [0, 1] rfl (by decide) h_1 hl.1 (Nat.le_of_ble_eq_true rfl) ⟨Nat.le_of_ble_eq_true rfl, Nat.le_of_ble_eq_true rfl⟩ ⟨Nat.le_of_ble_eq_true rfl, Nat.le_of_ble_eq_true rfl⟩ dX7_isKeyword_47 (fun H locs hB => ?_)
  refine lv_icmp_eq (tgt := 55) hx hb dX7_isKeyword_50 (by decide) (fun c_2 => ?_) (fun c_2 => ?_)
  · replace hf := hf.1 c_2
    refine lv_iinc (v := (x2 + 1)) (lv' := [(2, .int (x2 + 1)), (3, .int y0), (0, .ref a_t), (1, .int x1)]) (k := 3) hx hb dX7_isKeyword_55 hl rfl rfl (by decide) rfl (fun ls hl => ?_)
    refine lv_goto (tgt := 2) hx hb dX7_isKeyword_58 (by decide) ?_
    exact hkr_2 _ _ _ _ hf hB (lv_sub hl [2, 3, 0] rfl)
  · replace hf := hf.2 c_2
    refine lv_iconst (v := 0) hx hb dX7_isKeyword_53 (by decide) ?_
    exact r_z F hr hlk hB (Or.inl rfl) ⟨Or.inl rfl, rfl, hf⟩ dX7_isKeyword_54

set_option maxRecDepth 100000 in
set_option maxHeartbeats 4000000 in
theorem bt_Reader_isKeyword_2 {p : Program} {l : Launch} {e : Env} {s : State} {m : MethodId} {below : List Frame} {meth : Method} {c : Code} {A : Nat → Prop} {D : va_G} {k : Nat → ClassId}  {K : Nat → Nat} {a_t : Nat} {w_t : Nat → Value} {i_t : Nat → Int32} {j_t : Nat → Int64} {a_t_text : Nat} {r_t_text : Nat → Int32} {n1 : Int32} {Q : Int32 → Prop} (hw_t_text : w_t 0 = .ref a_t_text) {x1 : Int32} {kx_2 : Prop} {kr_2 : (Int32) → Prop} (F : Fx p m c cX7_isKeyword 4 s ([.ref a_t, .int n1] : List Value).toArray RX7 D k) (hr : meth.sig.returnType = (some .boolean)) (hlk : meth.locks = false) (hA : ∀ q : Nat, s.heap.size ≤ q → A q) (hE : Am K A s s.heap) (hkx_2 : ∀ (H : Heap) (locs : List Loc) (ls : Array Slot), kx_2 → Bd D A s.heap (wd_Reader_isKeyword k a_t w_t i_t j_t a_t_text r_t_text) H locs → lv_has ls 4 [] → W p l e { frames := 4, cells := 0, slots := 0, locals := 85 } s m ([.ref a_t, .int n1] : List Value).toArray below meth c H locs 0 0 (Ei below (fun r w => (r = 0 ∨ r = 1) ∧ (w = (wd_Reader_isKeyword k a_t w_t i_t j_t a_t_text r_t_text) ∧ Q r)) D k A ([.ref a_t, .int n1] : List Value).toArray s 0 0) (F0 m 61 ls [])) (hkr_2 : ∀ (x2 : Int32) (H : Heap) (locs : List Loc) (ls : Array Slot), kr_2 x2 → Bd D A s.heap (wd_Reader_isKeyword k a_t w_t i_t j_t a_t_text r_t_text) H locs → lv_has ls 4 [(0, .ref a_t), (1, .int x1), (2, .int x2)] → W p l e { frames := 4, cells := 0, slots := 0, locals := 85 } s m ([.ref a_t, .int n1] : List Value).toArray below meth c H locs 0 0 (Ei below (fun r w => (r = 0 ∨ r = 1) ∧ (w = (wd_Reader_isKeyword k a_t w_t i_t j_t a_t_text r_t_text) ∧ Q r)) D k A ([.ref a_t, .int n1] : List Value).toArray s 0 0) (F0 m 2 ls [])) :
    ∀ (x2 : Int32) (H : Heap) (locs : List Loc) (ls : Array Slot), b_Reader_isKeyword_2 i_t r_t_text x1 Q kx_2 kr_2 x2 → Bd D A s.heap (wd_Reader_isKeyword k a_t w_t i_t j_t a_t_text r_t_text) H locs → lv_has ls 4 [(0, .ref a_t), (1, .int x1), (2, .int x2)] → W p l e { frames := 4, cells := 0, slots := 0, locals := 85 } s m ([.ref a_t, .int n1] : List Value).toArray below meth c H locs 0 0 (Ei below (fun r w => (r = 0 ∨ r = 1) ∧ (w = (wd_Reader_isKeyword k a_t w_t i_t j_t a_t_text r_t_text) ∧ Q r)) D k A ([.ref a_t, .int n1] : List Value).toArray s 0 0) (F0 m 2 ls []) := by
  have hx := F.x
  have hb := F.b
  intro x2 H locs ls hf hB hl
  unfold b_Reader_isKeyword_2 at hf
  refine lv_iload_n hx hb dX7_isKeyword_2 rfl (lv_at hl 2 rfl) ?_
  refine lv_bipush (v := 7) hx hb dX7_isKeyword_3 (by decide) ?_
  refine lv_icmp_ge (tgt := 61) hx hb dX7_isKeyword_5 (by decide) (fun c_5 => ?_) (fun c_5 => ?_)
  · replace hf := hf.1 c_5
    exact hkx_2  _ _ _ hf hB (lv_sub hl [] rfl)
  · replace hf := hf.2 c_5
    refine lv_aload_n hx hb dX7_isKeyword_8 rfl (lv_at hl 0 rfl) ?_
    refine g_get (w := .int (i_t 5)) F hB 0 rfl fl_RX7_37 rfl dX7_isKeyword_9 ?_
    refine lv_iload_n hx hb dX7_isKeyword_12 rfl (lv_at hl 2 rfl) ?_
    refine lv_iadd hx hb dX7_isKeyword_13 ?_
    refine lv_aload_n hx hb dX7_isKeyword_14 rfl (lv_at hl 0 rfl) ?_
    refine g_get (w := .int (i_t 3)) F hB 0 rfl fl_RX7_28 rfl dX7_isKeyword_15 ?_
    refine lv_icmp_ge (tgt := 35) hx hb dX7_isKeyword_18 (by decide) (fun c_4 => ?_) (fun c_4 => ?_)
    · replace hf := hf.1 c_4
      refine lv_bipush (v := 32) hx hb dX7_isKeyword_35 (by decide) ?_
      exact jt_Reader_isKeyword_37 hw_t_text F hr hlk hA hE hkr_2 _ _ _ _ _ hf hB (lv_sub hl [0, 1, 2] rfl)
    · replace hf := hf.2 c_4
      refine lv_aload_n hx hb dX7_isKeyword_21 rfl (lv_at hl 0 rfl) ?_
      refine g_get (w := .ref a_t_text) F hB 0 rfl fl_RX7_9 hw_t_text dX7_isKeyword_22 ?_
      refine lv_aload_n hx hb dX7_isKeyword_25 rfl (lv_at hl 0 rfl) ?_
      refine g_get (w := .int (i_t 5)) F hB 0 rfl fl_RX7_37 rfl dX7_isKeyword_26 ?_
      refine lv_iload_n hx hb dX7_isKeyword_29 rfl (lv_at hl 2 rfl) ?_
      refine lv_iadd hx hb dX7_isKeyword_30 ?_
      obtain ⟨h_3, hf⟩ := hf
      refine g_iald F hB 1 rfl h_3 dX7_isKeyword_31 ?_
      refine lv_goto (tgt := 37) hx hb dX7_isKeyword_32 (by decide) ?_
      exact jt_Reader_isKeyword_37 hw_t_text F hr hlk hA hE hkr_2 _ _ _ _ _ hf hB (lv_sub hl [0, 1, 2] rfl)

set_option maxRecDepth 100000 in
set_option maxHeartbeats 4000000 in
theorem lt_Reader_isKeyword_2 {p : Program} {l : Launch} {e : Env} {s : State} {m : MethodId} {below : List Frame} {meth : Method} {c : Code} {A : Nat → Prop} {D : va_G} {k : Nat → ClassId}  {K : Nat → Nat} {a_t : Nat} {w_t : Nat → Value} {i_t : Nat → Int32} {j_t : Nat → Int64} {a_t_text : Nat} {r_t_text : Nat → Int32} {n1 : Int32} {Q : Int32 → Prop} (hw_t_text : w_t 0 = .ref a_t_text) {x1 : Int32} {kx_2 : Prop} (F : Fx p m c cX7_isKeyword 4 s ([.ref a_t, .int n1] : List Value).toArray RX7 D k) (hr : meth.sig.returnType = (some .boolean)) (hlk : meth.locks = false) (hA : ∀ q : Nat, s.heap.size ≤ q → A q) (hE : Am K A s s.heap) (hkx_2 : ∀ (H : Heap) (locs : List Loc) (ls : Array Slot), kx_2 → Bd D A s.heap (wd_Reader_isKeyword k a_t w_t i_t j_t a_t_text r_t_text) H locs → lv_has ls 4 [] → W p l e { frames := 4, cells := 0, slots := 0, locals := 85 } s m ([.ref a_t, .int n1] : List Value).toArray below meth c H locs 0 0 (Ei below (fun r w => (r = 0 ∨ r = 1) ∧ (w = (wd_Reader_isKeyword k a_t w_t i_t j_t a_t_text r_t_text) ∧ Q r)) D k A ([.ref a_t, .int n1] : List Value).toArray s 0 0) (F0 m 61 ls [])) :
    ∀ n : Nat, ∀ (x2 : Int32) (H : Heap) (locs : List Loc) (ls : Array Slot), lp_Reader_isKeyword_2 i_t r_t_text x1 Q kx_2 n x2 → Bd D A s.heap (wd_Reader_isKeyword k a_t w_t i_t j_t a_t_text r_t_text) H locs → lv_has ls 4 [(0, .ref a_t), (1, .int x1), (2, .int x2)] → W p l e { frames := 4, cells := 0, slots := 0, locals := 85 } s m ([.ref a_t, .int n1] : List Value).toArray below meth c H locs 0 0 (Ei below (fun r w => (r = 0 ∨ r = 1) ∧ (w = (wd_Reader_isKeyword k a_t w_t i_t j_t a_t_text r_t_text) ∧ Q r)) D k A ([.ref a_t, .int n1] : List Value).toArray s 0 0) (F0 m 2 ls []) := by
  intro n
  induction n with
  | zero => intro x2 H locs ls hf; exact absurd hf (fun h => h)
  | succ n ih => exact bt_Reader_isKeyword_2 hw_t_text F hr hlk hA hE hkx_2 ih

set_option maxRecDepth 100000 in
set_option maxHeartbeats 4000000 in
theorem c_Reader_isKeyword (l : Launch) (D : va_G) (k : Nat → ClassId)  (K : Nat → Nat) (a_t : Nat) (w_t : Nat → Value) (i_t : Nat → Int32) (j_t : Nat → Int64) (a_t_text : Nat) (r_t_text : Nat → Int32) (n1 : Int32) (Q : Int32 → Prop) (hw_t_text : w_t 0 = .ref a_t_text) (hf : w_Reader_isKeyword i_t r_t_text n1 Q) : CeI l yX7_isKeyword cX7_isKeyword 4 (some .boolean) 4 85 0 0 D k K [.ref a_t, .int n1] (wd_Reader_isKeyword k a_t w_t i_t j_t a_t_text r_t_text) (fun r w => (r = 0 ∨ r = 1) ∧ (w = (wd_Reader_isKeyword k a_t w_t i_t j_t a_t_text r_t_text) ∧ Q r)) := by
  refine CeI.of (by decide) (Nat.le_of_ble_eq_true rfl) ?_
  intro p e s m below meth c A F hr hlk hnm hA hE hB ls hl
  have hx := F.x
  have hb := F.b
  unfold w_Reader_isKeyword at hf
  replace hl : lv_has ls 4 [(0, .ref a_t), (1, .int n1)] := hl
  refine lv_iconst (v := 0) hx hb dX7_isKeyword_0 (by decide) ?_
  refine lv_istore_n (lv' := [(2, .int (0 : Int32)), (0, .ref a_t), (1, .int n1)]) hx hb dX7_isKeyword_1 rfl hl (by decide) rfl (fun ls hl => ?_)
  obtain ⟨n_6, hf⟩ := hf
  refine lt_Reader_isKeyword_2 hw_t_text F hr hlk hA hE (fun  H locs ls hf hB hl => ?_) n_6 _ _ _ _ hf hB (lv_sub hl [1, 2, 0] rfl)
  refine lv_iconst (v := 1) hx hb dX7_isKeyword_61 (by decide) ?_
  exact r_z F hr hlk hB (Or.inr rfl) ⟨Or.inr rfl, rfl, hf⟩ dX7_isKeyword_62

/-! LongTrain.Reader.keyword -/
set_option maxRecDepth 100000 in
set_option maxHeartbeats 4000000 in
theorem bt_Reader_keyword_12 {p : Program} {l : Launch} {e : Env} {s : State} {m : MethodId} {below : List Frame} {meth : Method} {c : Code} {A : Nat → Prop} {D : va_G} {k : Nat → ClassId}  {K : Nat → Nat} {a_t : Nat} {w_t : Nat → Value} {i_t : Nat → Int32} {j_t : Nat → Int64} {a_t_text : Nat} {r_t_text : Nat → Int32}  {Q : Int32 → Prop} (hw_t_text : w_t 0 = .ref a_t_text) {kx_12 : Prop} {kr_12 : (Int32) → Prop} (F : Fx p m c cX7_keyword 2 s ([.ref a_t] : List Value).toArray RX7 D k) (hr : meth.sig.returnType = (some .int)) (hlk : meth.locks = false) (hA : ∀ q : Nat, s.heap.size ≤ q → A q) (hE : Am K A s s.heap) (hkx_12 : ∀ (H : Heap) (locs : List Loc) (ls : Array Slot), kx_12 → Bd D A s.heap (wd_Reader_keyword k a_t w_t i_t j_t a_t_text r_t_text) H locs → lv_has ls 2 [] → W p l e { frames := 5, cells := 0, slots := 0, locals := 108 } s m ([.ref a_t] : List Value).toArray below meth c H locs 0 0 (Ei below (fun r w => w = (wd_Reader_keyword k a_t w_t i_t j_t a_t_text r_t_text) ∧ Q r) D k A ([.ref a_t] : List Value).toArray s 0 0) (F0 m 34 ls [])) (hkr_12 : ∀ (x1 : Int32) (H : Heap) (locs : List Loc) (ls : Array Slot), kr_12 x1 → Bd D A s.heap (wd_Reader_keyword k a_t w_t i_t j_t a_t_text r_t_text) H locs → lv_has ls 2 [(0, .ref a_t), (1, .int x1)] → W p l e { frames := 5, cells := 0, slots := 0, locals := 108 } s m ([.ref a_t] : List Value).toArray below meth c H locs 0 0 (Ei below (fun r w => w = (wd_Reader_keyword k a_t w_t i_t j_t a_t_text r_t_text) ∧ Q r) D k A ([.ref a_t] : List Value).toArray s 0 0) (F0 m 12 ls [])) :
    ∀ (x1 : Int32) (H : Heap) (locs : List Loc) (ls : Array Slot), b_Reader_keyword_12 i_t r_t_text Q kx_12 kr_12 x1 → Bd D A s.heap (wd_Reader_keyword k a_t w_t i_t j_t a_t_text r_t_text) H locs → lv_has ls 2 [(0, .ref a_t), (1, .int x1)] → W p l e { frames := 5, cells := 0, slots := 0, locals := 108 } s m ([.ref a_t] : List Value).toArray below meth c H locs 0 0 (Ei below (fun r w => w = (wd_Reader_keyword k a_t w_t i_t j_t a_t_text r_t_text) ∧ Q r) D k A ([.ref a_t] : List Value).toArray s 0 0) (F0 m 12 ls []) := by
  have hx := F.x
  have hb := F.b
  intro x1 H locs ls hf hB hl
  unfold b_Reader_keyword_12 at hf
  refine lv_iload_n hx hb dX7_keyword_12 rfl (lv_at hl 1 rfl) ?_
  refine lv_bipush (v := 15) hx hb dX7_keyword_13 (by decide) ?_
  refine lv_icmp_gt (tgt := 34) hx hb dX7_keyword_15 (by decide) (fun c_4 => ?_) (fun c_4 => ?_)
  · replace hf := hf.1 c_4
    exact hkx_12  _ _ _ hf hB (lv_sub hl [] rfl)
  · replace hf := hf.2 c_4
    refine lv_aload_n hx hb dX7_keyword_18 rfl (lv_at hl 0 rfl) ?_
    refine lv_iload_n hx hb dX7_keyword_19 rfl (lv_at hl 1 rfl) ?_
    refine ke_vi (wr := []) (rest := []) F hE hA hB (c_Reader_isKeyword l D k K a_t w_t i_t j_t a_t_text r_t_text x1 _ hw_t_text hf) ml_RX7_68 mv_yX7_isKeyword [0, 1] [] rfl rfl (by decide) (by decide) (by decide) (rcv F hB 0 rfl rfl) rfl hl.1 rfl (Nat.le_of_ble_eq_true rfl) ⟨Nat.le_of_ble_eq_true rfl, Nat.le_of_ble_eq_true rfl⟩ ⟨Nat.le_of_ble_eq_true rfl, Nat.le_of_ble_eq_true rfl⟩ dX7_keyword_20 (fun z_1 w1 H locs hq hB => ?_)
    obtain ⟨h_2, rfl, hf⟩ := hq
    replace hB : Bd D A s.heap (wd_Reader_keyword k a_t w_t i_t j_t a_t_text r_t_text) H locs := hB.sub [0, 1] (by decide) rfl
    refine lv_if_eq (tgt := 28) hx hb dX7_keyword_23 (by decide) (fun c_3 => ?_) (fun c_3 => ?_)
    · replace hf := hf.1 c_3
      refine lv_iinc (v := (x1 + 1)) (lv' := [(1, .int (x1 + 1)), (0, .ref a_t)]) (k := 1) hx hb dX7_keyword_28 hl rfl rfl (by decide) rfl (fun ls hl => ?_)
      refine lv_goto (tgt := 12) hx hb dX7_keyword_31 (by decide) ?_
      exact hkr_12 _ _ _ _ hf hB (lv_sub hl [1, 0] rfl)
    · replace hf := hf.2 c_3
      refine lv_iload_n hx hb dX7_keyword_26 rfl (lv_at hl 1 rfl) ?_
      exact r_i F hr hlk hB ⟨rfl, hf⟩ dX7_keyword_27

set_option maxRecDepth 100000 in
set_option maxHeartbeats 4000000 in
theorem lt_Reader_keyword_12 {p : Program} {l : Launch} {e : Env} {s : State} {m : MethodId} {below : List Frame} {meth : Method} {c : Code} {A : Nat → Prop} {D : va_G} {k : Nat → ClassId}  {K : Nat → Nat} {a_t : Nat} {w_t : Nat → Value} {i_t : Nat → Int32} {j_t : Nat → Int64} {a_t_text : Nat} {r_t_text : Nat → Int32}  {Q : Int32 → Prop} (hw_t_text : w_t 0 = .ref a_t_text) {kx_12 : Prop} (F : Fx p m c cX7_keyword 2 s ([.ref a_t] : List Value).toArray RX7 D k) (hr : meth.sig.returnType = (some .int)) (hlk : meth.locks = false) (hA : ∀ q : Nat, s.heap.size ≤ q → A q) (hE : Am K A s s.heap) (hkx_12 : ∀ (H : Heap) (locs : List Loc) (ls : Array Slot), kx_12 → Bd D A s.heap (wd_Reader_keyword k a_t w_t i_t j_t a_t_text r_t_text) H locs → lv_has ls 2 [] → W p l e { frames := 5, cells := 0, slots := 0, locals := 108 } s m ([.ref a_t] : List Value).toArray below meth c H locs 0 0 (Ei below (fun r w => w = (wd_Reader_keyword k a_t w_t i_t j_t a_t_text r_t_text) ∧ Q r) D k A ([.ref a_t] : List Value).toArray s 0 0) (F0 m 34 ls [])) :
    ∀ n : Nat, ∀ (x1 : Int32) (H : Heap) (locs : List Loc) (ls : Array Slot), lp_Reader_keyword_12 i_t r_t_text Q kx_12 n x1 → Bd D A s.heap (wd_Reader_keyword k a_t w_t i_t j_t a_t_text r_t_text) H locs → lv_has ls 2 [(0, .ref a_t), (1, .int x1)] → W p l e { frames := 5, cells := 0, slots := 0, locals := 108 } s m ([.ref a_t] : List Value).toArray below meth c H locs 0 0 (Ei below (fun r w => w = (wd_Reader_keyword k a_t w_t i_t j_t a_t_text r_t_text) ∧ Q r) D k A ([.ref a_t] : List Value).toArray s 0 0) (F0 m 12 ls []) := by
  intro n
  induction n with
  | zero => intro x1 H locs ls hf; exact absurd hf (fun h => h)
  | succ n ih => exact bt_Reader_keyword_12 hw_t_text F hr hlk hA hE hkx_12 ih

set_option maxRecDepth 100000 in
set_option maxHeartbeats 4000000 in
theorem c_Reader_keyword (l : Launch) (D : va_G) (k : Nat → ClassId)  (K : Nat → Nat) (a_t : Nat) (w_t : Nat → Value) (i_t : Nat → Int32) (j_t : Nat → Int64) (a_t_text : Nat) (r_t_text : Nat → Int32)  (Q : Int32 → Prop) (hw_t_text : w_t 0 = .ref a_t_text) (hf : w_Reader_keyword i_t r_t_text Q) : CeI l yX7_keyword cX7_keyword 2 (some .int) 5 108 0 0 D k K [.ref a_t] (wd_Reader_keyword k a_t w_t i_t j_t a_t_text r_t_text) (fun r w => w = (wd_Reader_keyword k a_t w_t i_t j_t a_t_text r_t_text) ∧ Q r) := by
  refine CeI.of (by decide) (Nat.le_of_ble_eq_true rfl) ?_
  intro p e s m below meth c A F hr hlk hnm hA hE hB ls hl
  have hx := F.x
  have hb := F.b
  unfold w_Reader_keyword at hf
  replace hl : lv_has ls 2 [(0, .ref a_t)] := hl
  refine lv_aload_n hx hb dX7_keyword_0 rfl (lv_at hl 0 rfl) ?_
  refine g_get (w := .int (i_t 4)) F hB 0 rfl fl_RX7_40 rfl dX7_keyword_1 ?_
  refine lv_iconst (v := 1) hx hb dX7_keyword_4 (by decide) ?_
  refine lv_icmp_eq (tgt := 10) hx hb dX7_keyword_5 (by decide) (fun c_6 => ?_) (fun c_6 => ?_)
  · replace hf := hf.1 c_6
    refine lv_iconst (v := 0) hx hb dX7_keyword_10 (by decide) ?_
    refine lv_istore_n (lv' := [(1, .int (0 : Int32)), (0, .ref a_t)]) hx hb dX7_keyword_11 rfl hl (by decide) rfl (fun ls hl => ?_)
    obtain ⟨n_5, hf⟩ := hf
    refine lt_Reader_keyword_12 hw_t_text F hr hlk hA hE (fun  H locs ls hf hB hl => ?_) n_5 _ _ _ _ hf hB (lv_sub hl [1, 0] rfl)
    refine lv_iconst (v := -1) hx hb dX7_keyword_34 (by decide) ?_
    exact r_i F hr hlk hB ⟨rfl, hf⟩ dX7_keyword_35
  · replace hf := hf.2 c_6
    refine lv_iconst (v := -1) hx hb dX7_keyword_8 (by decide) ?_
    exact r_i F hr hlk hB ⟨rfl, hf⟩ dX7_keyword_9

/-! LongTrain.Reader.isName -/
set_option maxRecDepth 100000 in
set_option maxHeartbeats 4000000 in
theorem c_Reader_isName (l : Launch) (D : va_G) (k : Nat → ClassId)  (K : Nat → Nat) (a_t : Nat) (w_t : Nat → Value) (i_t : Nat → Int32) (j_t : Nat → Int64) (a_t_text : Nat) (r_t_text : Nat → Int32)  (Q : Int32 → (Nat → Int32) → Prop) (hw_t_text : w_t 0 = .ref a_t_text) (hf : w_Reader_isName i_t r_t_text Q) : CeI l yX7_isName cX7_isName 1 (some .boolean) 6 129 0 0 D k K [.ref a_t] (wd_Reader_isName k a_t w_t i_t j_t a_t_text r_t_text) (fun r w => (r = 0 ∨ r = 1) ∧ (∃ (i_t : Nat → Int32), w = (wd_Reader_isName k a_t w_t i_t j_t a_t_text r_t_text) ∧ Q r i_t)) := by
  refine CeI.of (by decide) (Nat.le_of_ble_eq_true rfl) ?_
  intro p e s m below meth c A F hr hlk hnm hA hE hB ls hl
  have hx := F.x
  have hb := F.b
  unfold w_Reader_isName at hf
  replace hl : lv_has ls 1 [(0, .ref a_t)] := hl
  refine lv_aload_n hx hb dX7_isName_0 rfl (lv_at hl 0 rfl) ?_
  refine g_get (w := .int (i_t 4)) F hB 0 rfl fl_RX7_40 rfl dX7_isName_1 ?_
  refine lv_iconst (v := 1) hx hb dX7_isName_4 (by decide) ?_
  refine lv_icmp_ne (tgt := 16) hx hb dX7_isName_5 (by decide) (fun c_11 => ?_) (fun c_11 => ?_)
  · replace hf := hf.1 c_11
    refine lv_aload_n hx hb dX7_isName_16 rfl (lv_at hl 0 rfl) ?_
    refine lv_iconst (v := 1) hx hb dX7_isName_17 (by decide) ?_
    refine k_vi (wr := [(a_t_text, ai k 940 r_t_text)]) (rest := []) F hA hB (c_Reader_failHere l D k a_t w_t i_t j_t (1 : Int32) _  hf) ml_RX7_79 mv_yX7_failHere [0] [1] rfl rfl (by decide) (by decide) (by decide) 0 rfl rfl rfl hl.1 rfl (Nat.le_of_ble_eq_true rfl) ⟨Nat.le_of_ble_eq_true rfl, Nat.le_of_ble_eq_true rfl⟩ ⟨Nat.le_of_ble_eq_true rfl, Nat.le_of_ble_eq_true rfl⟩ dX7_isName_18 (fun z_2 w1 H locs hq hB => ?_)
    obtain ⟨h_3, i_t_1, rfl, hf⟩ := hq
    replace hB : Bd D A s.heap (wd_Reader_isName k a_t w_t i_t_1 j_t a_t_text r_t_text) H locs := hB.sub [1, 0] (by decide) rfl
    refine lv_if_eq (tgt := 28) hx hb dX7_isName_21 (by decide) (fun c_4 => ?_) (fun c_4 => ?_)
    · replace hf := hf.1 c_4
      refine lv_iconst (v := 0) hx hb dX7_isName_28 (by decide) ?_
      exact r_z F hr hlk hB (Or.inl rfl) ⟨Or.inl rfl, _, rfl, hf⟩ dX7_isName_29
    · replace hf := hf.2 c_4
      refine lv_iconst (v := 1) hx hb dX7_isName_24 (by decide) ?_
      refine lv_goto (tgt := 29) hx hb dX7_isName_25 (by decide) ?_
      exact r_z F hr hlk hB (Or.inr rfl) ⟨Or.inr rfl, _, rfl, hf⟩ dX7_isName_29
  · replace hf := hf.2 c_11
    refine lv_aload_n hx hb dX7_isName_8 rfl (lv_at hl 0 rfl) ?_
    refine ke_vi (wr := []) (rest := []) F hE hA hB (c_Reader_keyword l D k K a_t w_t i_t j_t a_t_text r_t_text _ hw_t_text hf) ml_RX7_88 mv_yX7_keyword [0, 1] [] rfl rfl (by decide) (by decide) (by decide) (rcv F hB 0 rfl rfl) rfl hl.1 rfl (Nat.le_of_ble_eq_true rfl) ⟨Nat.le_of_ble_eq_true rfl, Nat.le_of_ble_eq_true rfl⟩ ⟨Nat.le_of_ble_eq_true rfl, Nat.le_of_ble_eq_true rfl⟩ dX7_isName_9 (fun z_5 w1 H locs hq hB => ?_)
    obtain ⟨rfl, hf⟩ := hq
    replace hB : Bd D A s.heap (wd_Reader_isName k a_t w_t i_t j_t a_t_text r_t_text) H locs := hB.sub [0, 1] (by decide) rfl
    refine lv_iconst (v := -1) hx hb dX7_isName_12 (by decide) ?_
    refine lv_icmp_eq (tgt := 24) hx hb dX7_isName_13 (by decide) (fun c_10 => ?_) (fun c_10 => ?_)
    · replace hf := hf.1 c_10
      refine lv_iconst (v := 1) hx hb dX7_isName_24 (by decide) ?_
      refine lv_goto (tgt := 29) hx hb dX7_isName_25 (by decide) ?_
      exact r_z F hr hlk hB (Or.inr rfl) ⟨Or.inr rfl, _, rfl, hf⟩ dX7_isName_29
    · replace hf := hf.2 c_10
      refine lv_aload_n hx hb dX7_isName_16 rfl (lv_at hl 0 rfl) ?_
      refine lv_iconst (v := 1) hx hb dX7_isName_17 (by decide) ?_
      refine k_vi (wr := [(a_t_text, ai k 940 r_t_text)]) (rest := []) F hA hB (c_Reader_failHere l D k a_t w_t i_t j_t (1 : Int32) _  hf) ml_RX7_79 mv_yX7_failHere [0] [1] rfl rfl (by decide) (by decide) (by decide) 0 rfl rfl rfl hl.1 rfl (Nat.le_of_ble_eq_true rfl) ⟨Nat.le_of_ble_eq_true rfl, Nat.le_of_ble_eq_true rfl⟩ ⟨Nat.le_of_ble_eq_true rfl, Nat.le_of_ble_eq_true rfl⟩ dX7_isName_18 (fun z_7 w1 H locs hq hB => ?_)
      obtain ⟨h_8, i_t_6, rfl, hf⟩ := hq
      replace hB : Bd D A s.heap (wd_Reader_isName k a_t w_t i_t_6 j_t a_t_text r_t_text) H locs := hB.sub [1, 0] (by decide) rfl
      refine lv_if_eq (tgt := 28) hx hb dX7_isName_21 (by decide) (fun c_9 => ?_) (fun c_9 => ?_)
      · replace hf := hf.1 c_9
        refine lv_iconst (v := 0) hx hb dX7_isName_28 (by decide) ?_
        exact r_z F hr hlk hB (Or.inl rfl) ⟨Or.inl rfl, _, rfl, hf⟩ dX7_isName_29
      · replace hf := hf.2 c_9
        refine lv_iconst (v := 1) hx hb dX7_isName_24 (by decide) ?_
        refine lv_goto (tgt := 29) hx hb dX7_isName_25 (by decide) ?_
        exact r_z F hr hlk hB (Or.inr rfl) ⟨Or.inr rfl, _, rfl, hf⟩ dX7_isName_29

/-! LongTrain.Reader.nextName -/
set_option maxRecDepth 100000 in
set_option maxHeartbeats 4000000 in
theorem c_Reader_nextName (l : Launch) (D : va_G) (k : Nat → ClassId)  (K : Nat → Nat) (a_t : Nat) (w_t : Nat → Value) (i_t : Nat → Int32) (j_t : Nat → Int64) (a_t_text : Nat) (r_t_text : Nat → Int32)  (Q : Int32 → (Nat → Int32) → (Nat → Int64) → Prop) (hw_t_text : w_t 0 = .ref a_t_text) (hf : w_Reader_nextName i_t j_t r_t_text Q) : CeI l yX7_nextName cX7_nextName 1 (some .boolean) 7 149 0 0 D k K [.ref a_t] (wd_Reader_nextName k a_t w_t i_t j_t a_t_text r_t_text) (fun r w => (r = 0 ∨ r = 1) ∧ (∃ (i_t : Nat → Int32), ∃ (j_t : Nat → Int64), w = (wd_Reader_nextName k a_t w_t i_t j_t a_t_text r_t_text) ∧ Q r i_t j_t)) := by
  refine CeI.of (by decide) (Nat.le_of_ble_eq_true rfl) ?_
  intro p e s m below meth c A F hr hlk hnm hA hE hB ls hl
  have hx := F.x
  have hb := F.b
  unfold w_Reader_nextName at hf
  replace hl : lv_has ls 1 [(0, .ref a_t)] := hl
  refine lv_aload_n hx hb dX7_nextName_0 rfl (lv_at hl 0 rfl) ?_
  refine k_vv (wr := []) (rest := []) F hA hB (c_Reader_advance l D k a_t w_t i_t j_t a_t_text r_t_text _ hw_t_text hf) ml_RX7_82 mv_yX7_advance [0, 1] [] rfl rfl (by decide) (by decide) (by decide) 0 rfl rfl rfl hl.1 rfl (Nat.le_of_ble_eq_true rfl) ⟨Nat.le_of_ble_eq_true rfl, Nat.le_of_ble_eq_true rfl⟩ ⟨Nat.le_of_ble_eq_true rfl, Nat.le_of_ble_eq_true rfl⟩ dX7_nextName_1 (fun w1 H locs hq hB => ?_)
  obtain ⟨i_t_1, j_t_2, rfl, hf⟩ := hq
  replace hB : Bd D A s.heap (wd_Reader_nextName k a_t w_t i_t_1 j_t_2 a_t_text r_t_text) H locs := hB.sub [0, 1] (by decide) rfl
  refine lv_aload_n hx hb dX7_nextName_4 rfl (lv_at hl 0 rfl) ?_
  refine ke_vi (wr := []) (rest := []) F hE hA hB (c_Reader_isName l D k K a_t w_t i_t_1 j_t_2 a_t_text r_t_text _ hw_t_text hf) ml_RX7_92 mv_yX7_isName [0, 1] [] rfl rfl (by decide) (by decide) (by decide) (rcv F hB 0 rfl rfl) rfl hl.1 rfl (Nat.le_of_ble_eq_true rfl) ⟨Nat.le_of_ble_eq_true rfl, Nat.le_of_ble_eq_true rfl⟩ ⟨Nat.le_of_ble_eq_true rfl, Nat.le_of_ble_eq_true rfl⟩ dX7_nextName_5 (fun z_4 w1 H locs hq hB => ?_)
  obtain ⟨h_5, i_t_3, rfl, hf⟩ := hq
  replace hB : Bd D A s.heap (wd_Reader_nextName k a_t w_t i_t_3 j_t_2 a_t_text r_t_text) H locs := hB.sub [0, 1] (by decide) rfl
  exact r_z F hr hlk hB (h_5) ⟨h_5, _, _, rfl, hf⟩ dX7_nextName_8

/-! LongTrain.LineReader.readAdds -/
set_option maxRecDepth 100000 in
set_option maxHeartbeats 4000000 in
theorem c_LineReader_readAdds (l : Launch) (D : va_G) (k : Nat → ClassId)  (K : Nat → Nat) (a_t : Nat) (d_t : Nat → Nat) (w_t : Nat → Value) (i_t : Nat → Int32) (w_t_reader : Nat → Value) (i_t_reader : Nat → Int32) (j_t_reader : Nat → Int64) (a_t_reader_text : Nat) (r_t_reader_text : Nat → Int32) (r_t_haltNames : Nat → Int64) (a_t_line : Nat) (d_t_line : Nat → Nat) (i_t_line : Nat → Int32) (r_t_line_halts : Nat → Int32) (r_t_kindNames : Nat → Int64)  (Q : Int32 → (Nat → Int32) → (Nat → Int64) → (Nat → Int32) → Prop) (hw_t_reader_text : w_t_reader 0 = .ref a_t_reader_text) (hw_t_line : w_t 3 = .ref a_t_line) (hf : w_LineReader_readAdds i_t_reader j_t_reader r_t_reader_text r_t_haltNames i_t_line r_t_line_halts r_t_kindNames Q) : CeI l yX4_readAdds cX4_readAdds 3 (some .boolean) 8 169 0 0 D k K [.ref a_t] (wd_LineReader_readAdds k a_t d_t w_t i_t w_t_reader i_t_reader j_t_reader a_t_reader_text r_t_reader_text r_t_haltNames a_t_line d_t_line i_t_line r_t_line_halts r_t_kindNames) (fun r w => (r = 0 ∨ r = 1) ∧ (∃ (i_t_reader : Nat → Int32), ∃ (j_t_reader : Nat → Int64), ∃ (r_t_line_halts : Nat → Int32), w = (wd_LineReader_readAdds k a_t d_t w_t i_t w_t_reader i_t_reader j_t_reader a_t_reader_text r_t_reader_text r_t_haltNames a_t_line d_t_line i_t_line r_t_line_halts r_t_kindNames) ∧ Q r i_t_reader j_t_reader r_t_line_halts)) := by
  refine CeI.of (by decide) (Nat.le_of_ble_eq_true rfl) ?_
  intro p e s m below meth c A F hr hlk hnm hA hE hB ls hl
  have hx := F.x
  have hb := F.b
  unfold w_LineReader_readAdds at hf
  replace hl : lv_has ls 3 [(0, .ref a_t)] := hl
  refine lv_aload_n hx hb dX4_readAdds_0 rfl (lv_at hl 0 rfl) ?_
  refine g_get (w := .ref (d_t 0)) F hB 0 rfl fl_RX4_12 rfl dX4_readAdds_1 ?_
  refine ke_vi (wr := [(a_t, ob 4 (vmx 4 d_t w_t) i_t j0), ((d_t 1), aj k 10 r_t_haltNames), (a_t_line, ob 3 (rfd d_t_line) i_t_line j0), ((d_t_line 2), ai k 30 r_t_line_halts), ((d_t 2), aj k 6 r_t_kindNames)]) (rest := []) F hE hA hB (c_Reader_nextName l D k K (d_t 0) w_t_reader i_t_reader j_t_reader a_t_reader_text r_t_reader_text _ hw_t_reader_text hf) ml_RX4_145 mv_yX7_nextName [1, 2] [0, 3, 4, 5, 6] rfl rfl (by decide) (by decide) (by decide) (rcv F hB 1 rfl rfl) rfl hl.1 rfl (Nat.le_of_ble_eq_true rfl) ⟨Nat.le_of_ble_eq_true rfl, Nat.le_of_ble_eq_true rfl⟩ ⟨Nat.le_of_ble_eq_true rfl, Nat.le_of_ble_eq_true rfl⟩ dX4_readAdds_4 (fun z_3 w1 H locs hq hB => ?_)
  obtain ⟨h_4, i_t_reader_1, j_t_reader_2, rfl, hf⟩ := hq
  replace hB : Bd D A s.heap (wd_LineReader_readAdds k a_t d_t w_t i_t w_t_reader i_t_reader_1 j_t_reader_2 a_t_reader_text r_t_reader_text r_t_haltNames a_t_line d_t_line i_t_line r_t_line_halts r_t_kindNames) H locs := hB.sub [0, 5, 6, 1, 2, 3, 4] (by decide) rfl
  refine lv_if_ne (tgt := 12) hx hb dX4_readAdds_7 (by decide) (fun c_26 => ?_) (fun c_26 => ?_)
  · replace hf := hf.1 c_26
    refine lv_aload_n hx hb dX4_readAdds_12 rfl (lv_at hl 0 rfl) ?_
    refine lv_aload_n hx hb dX4_readAdds_13 rfl (lv_at hl 0 rfl) ?_
    refine g_get (w := .ref (d_t 0)) F hB 0 rfl fl_RX4_12 rfl dX4_readAdds_14 ?_
    refine g_get (w := .long (j_t_reader_2 7)) F hB 1 rfl fl_RX4_123 rfl dX4_readAdds_17 ?_
    refine k_vi (wr := [((d_t 0), ob 7 (vmx 7 d0 w_t_reader) i_t_reader_1 j_t_reader_2), (a_t_reader_text, ai k 940 r_t_reader_text), ((d_t_line 2), ai k 30 r_t_line_halts), ((d_t 2), aj k 6 r_t_kindNames)]) (rest := []) F hA hB (c_LineReader_haltNamed l D k a_t d_t w_t i_t r_t_haltNames a_t_line d_t_line i_t_line (j_t_reader_2 7) _ hw_t_line hf) ml_RX4_148 mv_yX4_haltNamed [0, 3, 4] [1, 2, 5, 6] rfl rfl (by decide) (by decide) (by decide) 0 rfl rfl rfl hl.1 rfl (Nat.le_of_ble_eq_true rfl) ⟨Nat.le_of_ble_eq_true rfl, Nat.le_of_ble_eq_true rfl⟩ ⟨Nat.le_of_ble_eq_true rfl, Nat.le_of_ble_eq_true rfl⟩ dX4_readAdds_20 (fun z_5 w1 H locs hq hB => ?_)
    obtain ⟨rfl, hf⟩ := hq
    replace hB : Bd D A s.heap (wd_LineReader_readAdds k a_t d_t w_t i_t w_t_reader i_t_reader_1 j_t_reader_2 a_t_reader_text r_t_reader_text r_t_haltNames a_t_line d_t_line i_t_line r_t_line_halts r_t_kindNames) H locs := hB.sub [4, 0, 1, 5, 6, 2, 3] (by decide) rfl
    refine lv_istore_n (lv' := [(1, .int z_5), (0, .ref a_t)]) hx hb dX4_readAdds_23 rfl hl (by decide) rfl (fun ls hl => ?_)
    refine lv_iload_n hx hb dX4_readAdds_24 rfl (lv_at hl 0 rfl) ?_
    refine lv_iconst (v := -1) hx hb dX4_readAdds_25 (by decide) ?_
    refine lv_icmp_eq (tgt := 41) hx hb dX4_readAdds_26 (by decide) (fun c_25 => ?_) (fun c_25 => ?_)
    · replace hf := hf.1 c_25
      refine lv_aload_n hx hb dX4_readAdds_41 rfl (lv_at hl 1 rfl) ?_
      refine g_get (w := .ref (d_t 0)) F hB 0 rfl fl_RX4_12 rfl dX4_readAdds_42 ?_
      refine lv_iconst (v := 3) hx hb dX4_readAdds_45 (by decide) ?_
      refine k_vi (wr := [(a_t, ob 4 (vmx 4 d_t w_t) i_t j0), (a_t_reader_text, ai k 940 r_t_reader_text), ((d_t 1), aj k 10 r_t_haltNames), (a_t_line, ob 3 (rfd d_t_line) i_t_line j0), ((d_t_line 2), ai k 30 r_t_line_halts), ((d_t 2), aj k 6 r_t_kindNames)]) (rest := []) F hA hB (c_Reader_failHere l D k (d_t 0) w_t_reader i_t_reader_1 j_t_reader_2 (3 : Int32) _  hf) ml_RX4_94 mv_yX7_failHere [1] [0, 2, 3, 4, 5, 6] rfl rfl (by decide) (by decide) (by decide) 1 rfl rfl rfl hl.1 rfl (Nat.le_of_ble_eq_true rfl) ⟨Nat.le_of_ble_eq_true rfl, Nat.le_of_ble_eq_true rfl⟩ ⟨Nat.le_of_ble_eq_true rfl, Nat.le_of_ble_eq_true rfl⟩ dX4_readAdds_46 (fun z_7 w1 H locs hq hB => ?_)
      obtain ⟨h_8, i_t_reader_6, rfl, hf⟩ := hq
      replace hB : Bd D A s.heap (wd_LineReader_readAdds k a_t d_t w_t i_t w_t_reader i_t_reader_6 j_t_reader_2 a_t_reader_text r_t_reader_text r_t_haltNames a_t_line d_t_line i_t_line r_t_line_halts r_t_kindNames) H locs := hB.sub [0, 6, 1, 2, 3, 4, 5] (by decide) rfl
      exact r_z F hr hlk hB (h_8) ⟨h_8, _, _, _, rfl, hf⟩ dX4_readAdds_49
    · replace hf := hf.2 c_25
      refine lv_aload_n hx hb dX4_readAdds_29 rfl (lv_at hl 1 rfl) ?_
      refine g_get (w := .ref a_t_line) F hB 0 rfl fl_RX4_29 hw_t_line dX4_readAdds_30 ?_
      refine lv_iload_n hx hb dX4_readAdds_33 rfl (lv_at hl 0 rfl) ?_
      refine k_vi (wr := [(a_t, ob 4 (vmx 4 d_t w_t) i_t j0), ((d_t 0), ob 7 (vmx 7 d0 w_t_reader) i_t_reader_1 j_t_reader_2), (a_t_reader_text, ai k 940 r_t_reader_text), ((d_t 1), aj k 10 r_t_haltNames), ((d_t 2), aj k 6 r_t_kindNames)]) (rest := []) F hA hB (c_Line_haltAdds l D k a_t_line d_t_line i_t_line r_t_line_halts z_5 _  hf) ml_RX4_152 mv_yX3_haltAdds [4, 5] [0, 1, 2, 3, 6] rfl rfl (by decide) (by decide) (by decide) 4 rfl rfl rfl hl.1 rfl (Nat.le_of_ble_eq_true rfl) ⟨Nat.le_of_ble_eq_true rfl, Nat.le_of_ble_eq_true rfl⟩ ⟨Nat.le_of_ble_eq_true rfl, Nat.le_of_ble_eq_true rfl⟩ dX4_readAdds_34 (fun z_9 w1 H locs hq hB => ?_)
      obtain ⟨rfl, hf⟩ := hq
      replace hB : Bd D A s.heap (wd_LineReader_readAdds k a_t d_t w_t i_t w_t_reader i_t_reader_1 j_t_reader_2 a_t_reader_text r_t_reader_text r_t_haltNames a_t_line d_t_line i_t_line r_t_line_halts r_t_kindNames) H locs := hB.sub [0, 1, 2, 3, 5, 6, 4] (by decide) rfl
      refine lv_iconst (v := -1) hx hb dX4_readAdds_37 (by decide) ?_
      refine lv_icmp_eq (tgt := 50) hx hb dX4_readAdds_38 (by decide) (fun c_24 => ?_) (fun c_24 => ?_)
      · replace hf := hf.1 c_24
        refine lv_aload_n hx hb dX4_readAdds_50 rfl (lv_at hl 1 rfl) ?_
        refine g_get (w := .ref (d_t 0)) F hB 0 rfl fl_RX4_12 rfl dX4_readAdds_51 ?_
        refine ke_vi (wr := [(a_t, ob 4 (vmx 4 d_t w_t) i_t j0), ((d_t 1), aj k 10 r_t_haltNames), (a_t_line, ob 3 (rfd d_t_line) i_t_line j0), ((d_t_line 2), ai k 30 r_t_line_halts), ((d_t 2), aj k 6 r_t_kindNames)]) (rest := []) F hE hA hB (c_Reader_nextName l D k K (d_t 0) w_t_reader i_t_reader_1 j_t_reader_2 a_t_reader_text r_t_reader_text _ hw_t_reader_text hf) ml_RX4_145 mv_yX7_nextName [1, 2] [0, 3, 4, 5, 6] rfl rfl (by decide) (by decide) (by decide) (rcv F hB 1 rfl rfl) rfl hl.1 rfl (Nat.le_of_ble_eq_true rfl) ⟨Nat.le_of_ble_eq_true rfl, Nat.le_of_ble_eq_true rfl⟩ ⟨Nat.le_of_ble_eq_true rfl, Nat.le_of_ble_eq_true rfl⟩ dX4_readAdds_54 (fun z_12 w1 H locs hq hB => ?_)
        obtain ⟨h_13, i_t_reader_10, j_t_reader_11, rfl, hf⟩ := hq
        replace hB : Bd D A s.heap (wd_LineReader_readAdds k a_t d_t w_t i_t w_t_reader i_t_reader_10 j_t_reader_11 a_t_reader_text r_t_reader_text r_t_haltNames a_t_line d_t_line i_t_line r_t_line_halts r_t_kindNames) H locs := hB.sub [0, 5, 6, 1, 2, 3, 4] (by decide) rfl
        refine lv_if_ne (tgt := 62) hx hb dX4_readAdds_57 (by decide) (fun c_20 => ?_) (fun c_20 => ?_)
        · replace hf := hf.1 c_20
          refine lv_aload_n hx hb dX4_readAdds_62 rfl (lv_at hl 1 rfl) ?_
          refine lv_aload_n hx hb dX4_readAdds_63 rfl (lv_at hl 1 rfl) ?_
          refine g_get (w := .ref (d_t 0)) F hB 0 rfl fl_RX4_12 rfl dX4_readAdds_64 ?_
          refine g_get (w := .long (j_t_reader_11 7)) F hB 1 rfl fl_RX4_123 rfl dX4_readAdds_67 ?_
          refine k_vi (wr := [((d_t 0), ob 7 (vmx 7 d0 w_t_reader) i_t_reader_10 j_t_reader_11), (a_t_reader_text, ai k 940 r_t_reader_text), ((d_t 1), aj k 10 r_t_haltNames), ((d_t_line 2), ai k 30 r_t_line_halts)]) (rest := []) F hA hB (c_LineReader_kindNamed l D k a_t d_t w_t i_t r_t_kindNames a_t_line d_t_line i_t_line (j_t_reader_11 7) _ hw_t_line hf) ml_RX4_155 mv_yX4_kindNamed [0, 6, 4] [1, 2, 3, 5] rfl rfl (by decide) (by decide) (by decide) 0 rfl rfl rfl hl.1 rfl (Nat.le_of_ble_eq_true rfl) ⟨Nat.le_of_ble_eq_true rfl, Nat.le_of_ble_eq_true rfl⟩ ⟨Nat.le_of_ble_eq_true rfl, Nat.le_of_ble_eq_true rfl⟩ dX4_readAdds_70 (fun z_14 w1 H locs hq hB => ?_)
          obtain ⟨rfl, hf⟩ := hq
          replace hB : Bd D A s.heap (wd_LineReader_readAdds k a_t d_t w_t i_t w_t_reader i_t_reader_10 j_t_reader_11 a_t_reader_text r_t_reader_text r_t_haltNames a_t_line d_t_line i_t_line r_t_line_halts r_t_kindNames) H locs := hB.sub [4, 0, 1, 2, 6, 3, 5] (by decide) rfl
          refine lv_istore_n (lv' := [(2, .int z_14), (1, .int z_5), (0, .ref a_t)]) hx hb dX4_readAdds_73 rfl hl (by decide) rfl (fun ls hl => ?_)
          refine lv_iload_n hx hb dX4_readAdds_74 rfl (lv_at hl 0 rfl) ?_
          refine lv_iconst (v := -1) hx hb dX4_readAdds_75 (by decide) ?_
          refine lv_icmp_ne (tgt := 88) hx hb dX4_readAdds_76 (by decide) (fun c_19 => ?_) (fun c_19 => ?_)
          · replace hf := hf.1 c_19
            refine lv_aload_n hx hb dX4_readAdds_88 rfl (lv_at hl 2 rfl) ?_
            refine g_get (w := .ref a_t_line) F hB 0 rfl fl_RX4_29 hw_t_line dX4_readAdds_89 ?_
            refine g_get (w := .ref (d_t_line 2)) F hB 4 rfl fl_RX4_130 rfl dX4_readAdds_92 ?_
            refine lv_iconst (v := 3) hx hb dX4_readAdds_95 (by decide) ?_
            refine lv_iload_n hx hb dX4_readAdds_96 rfl (lv_at hl 1 rfl) ?_
            refine lv_imul hx hb dX4_readAdds_97 ?_
            refine lv_iconst (v := 2) hx hb dX4_readAdds_98 (by decide) ?_
            refine lv_iadd hx hb dX4_readAdds_99 ?_
            refine lv_iload_n hx hb dX4_readAdds_100 rfl (lv_at hl 0 rfl) ?_
            obtain ⟨h_15, hf⟩ := hf
            refine g_iast F hB 5 rfl h_15 (wd_LineReader_readAdds k a_t d_t w_t i_t w_t_reader i_t_reader_10 j_t_reader_11 a_t_reader_text r_t_reader_text r_t_haltNames a_t_line d_t_line i_t_line (upd r_t_line_halts ((((3 : Int32) * z_5) + (2 : Int32))).toNatClampNeg z_14) r_t_kindNames) rfl dX4_readAdds_101 (fun H locs hB => ?_)
            refine lv_iconst (v := 1) hx hb dX4_readAdds_102 (by decide) ?_
            exact r_z F hr hlk hB (Or.inr rfl) ⟨Or.inr rfl, _, _, _, rfl, hf⟩ dX4_readAdds_103
          · replace hf := hf.2 c_19
            refine lv_aload_n hx hb dX4_readAdds_79 rfl (lv_at hl 2 rfl) ?_
            refine g_get (w := .ref (d_t 0)) F hB 0 rfl fl_RX4_12 rfl dX4_readAdds_80 ?_
            refine lv_iconst (v := 3) hx hb dX4_readAdds_83 (by decide) ?_
            refine k_vi (wr := [(a_t, ob 4 (vmx 4 d_t w_t) i_t j0), (a_t_reader_text, ai k 940 r_t_reader_text), ((d_t 1), aj k 10 r_t_haltNames), (a_t_line, ob 3 (rfd d_t_line) i_t_line j0), ((d_t_line 2), ai k 30 r_t_line_halts), ((d_t 2), aj k 6 r_t_kindNames)]) (rest := []) F hA hB (c_Reader_failHere l D k (d_t 0) w_t_reader i_t_reader_10 j_t_reader_11 (3 : Int32) _  hf) ml_RX4_94 mv_yX7_failHere [1] [0, 2, 3, 4, 5, 6] rfl rfl (by decide) (by decide) (by decide) 1 rfl rfl rfl hl.1 rfl (Nat.le_of_ble_eq_true rfl) ⟨Nat.le_of_ble_eq_true rfl, Nat.le_of_ble_eq_true rfl⟩ ⟨Nat.le_of_ble_eq_true rfl, Nat.le_of_ble_eq_true rfl⟩ dX4_readAdds_84 (fun z_17 w1 H locs hq hB => ?_)
            obtain ⟨h_18, i_t_reader_16, rfl, hf⟩ := hq
            replace hB : Bd D A s.heap (wd_LineReader_readAdds k a_t d_t w_t i_t w_t_reader i_t_reader_16 j_t_reader_11 a_t_reader_text r_t_reader_text r_t_haltNames a_t_line d_t_line i_t_line r_t_line_halts r_t_kindNames) H locs := hB.sub [0, 6, 1, 2, 3, 4, 5] (by decide) rfl
            exact r_z F hr hlk hB (h_18) ⟨h_18, _, _, _, rfl, hf⟩ dX4_readAdds_87
        · replace hf := hf.2 c_20
          refine lv_iconst (v := 0) hx hb dX4_readAdds_60 (by decide) ?_
          exact r_z F hr hlk hB (Or.inl rfl) ⟨Or.inl rfl, _, _, _, rfl, hf⟩ dX4_readAdds_61
      · replace hf := hf.2 c_24
        refine lv_aload_n hx hb dX4_readAdds_41 rfl (lv_at hl 1 rfl) ?_
        refine g_get (w := .ref (d_t 0)) F hB 0 rfl fl_RX4_12 rfl dX4_readAdds_42 ?_
        refine lv_iconst (v := 3) hx hb dX4_readAdds_45 (by decide) ?_
        refine k_vi (wr := [(a_t, ob 4 (vmx 4 d_t w_t) i_t j0), (a_t_reader_text, ai k 940 r_t_reader_text), ((d_t 1), aj k 10 r_t_haltNames), (a_t_line, ob 3 (rfd d_t_line) i_t_line j0), ((d_t_line 2), ai k 30 r_t_line_halts), ((d_t 2), aj k 6 r_t_kindNames)]) (rest := []) F hA hB (c_Reader_failHere l D k (d_t 0) w_t_reader i_t_reader_1 j_t_reader_2 (3 : Int32) _  hf) ml_RX4_94 mv_yX7_failHere [1] [0, 2, 3, 4, 5, 6] rfl rfl (by decide) (by decide) (by decide) 1 rfl rfl rfl hl.1 rfl (Nat.le_of_ble_eq_true rfl) ⟨Nat.le_of_ble_eq_true rfl, Nat.le_of_ble_eq_true rfl⟩ ⟨Nat.le_of_ble_eq_true rfl, Nat.le_of_ble_eq_true rfl⟩ dX4_readAdds_46 (fun z_22 w1 H locs hq hB => ?_)
        obtain ⟨h_23, i_t_reader_21, rfl, hf⟩ := hq
        replace hB : Bd D A s.heap (wd_LineReader_readAdds k a_t d_t w_t i_t w_t_reader i_t_reader_21 j_t_reader_2 a_t_reader_text r_t_reader_text r_t_haltNames a_t_line d_t_line i_t_line r_t_line_halts r_t_kindNames) H locs := hB.sub [0, 6, 1, 2, 3, 4, 5] (by decide) rfl
        exact r_z F hr hlk hB (h_23) ⟨h_23, _, _, _, rfl, hf⟩ dX4_readAdds_49
  · replace hf := hf.2 c_26
    refine lv_iconst (v := 0) hx hb dX4_readAdds_10 (by decide) ?_
    exact r_z F hr hlk hB (Or.inl rfl) ⟨Or.inl rfl, _, _, _, rfl, hf⟩ dX4_readAdds_11

/-! LongTrain.LineReader.nextNewName -/
set_option maxRecDepth 100000 in
set_option maxHeartbeats 4000000 in
theorem jt_LineReader_nextNewName_54 {p : Program} {l : Launch} {e : Env} {s : State} {m : MethodId} {below : List Frame} {meth : Method} {c : Code} {A : Nat → Prop} {D : va_G} {k : Nat → ClassId}  {K : Nat → Nat} {a_t : Nat} {d_t : Nat → Nat} {w_t : Nat → Value} {i_t : Nat → Int32} {w_t_reader : Nat → Value} {a_t_reader_text : Nat} {r_t_reader_text : Nat → Int32} {r_t_haltNames : Nat → Int64} {a_t_line : Nat} {d_t_line : Nat → Nat} {i_t_line : Nat → Int32} {r_t_kindNames : Nat → Int64}  {Q : Int32 → (Nat → Int32) → (Nat → Int64) → Prop} (hw_t_reader_text : w_t_reader 0 = .ref a_t_reader_text) (hw_t_line : w_t 3 = .ref a_t_line) (F : Fx p m c cX4_nextNewName 2 s ([.ref a_t] : List Value).toArray RX4 D k) (hr : meth.sig.returnType = (some .boolean)) (hlk : meth.locks = false) (hA : ∀ q : Nat, s.heap.size ≤ q → A q) (hE : Am K A s s.heap) :
    ∀ (i_t_reader : Nat → Int32) (j_t_reader : Nat → Int64) (y0 : Int32) (H : Heap) (locs : List Loc) (ls : Array Slot), j_LineReader_nextNewName_54 i_t_reader j_t_reader y0 Q → Bd D A s.heap (wd_LineReader_nextNewName k a_t d_t w_t i_t w_t_reader i_t_reader j_t_reader a_t_reader_text r_t_reader_text r_t_haltNames a_t_line d_t_line i_t_line r_t_kindNames) H locs → lv_has ls 2 [(0, .ref a_t)] → W p l e { frames := 7, cells := 0, slots := 0, locals := 149 } s m ([.ref a_t] : List Value).toArray below meth c H locs 0 0 (Ei below (fun r w => (r = 0 ∨ r = 1) ∧ (∃ (i_t_reader : Nat → Int32), ∃ (j_t_reader : Nat → Int64), w = (wd_LineReader_nextNewName k a_t d_t w_t i_t w_t_reader i_t_reader j_t_reader a_t_reader_text r_t_reader_text r_t_haltNames a_t_line d_t_line i_t_line r_t_kindNames) ∧ Q r i_t_reader j_t_reader)) D k A ([.ref a_t] : List Value).toArray s 0 0) (F0 m 54 ls [.int y0]) := by
  have hx := F.x
  have hb := F.b
  intro i_t_reader j_t_reader y0 H locs ls hf hB hl
  unfold j_LineReader_nextNewName_54 at hf
  refine lv_istore_n (lv' := [(1, .int y0), (0, .ref a_t)]) hx hb dX4_nextNewName_54 rfl hl (by decide) rfl (fun ls hl => ?_)
  refine lv_iload_n hx hb dX4_nextNewName_55 rfl (lv_at hl 0 rfl) ?_
  refine lv_if_eq (tgt := 70) hx hb dX4_nextNewName_56 (by decide) (fun c_11 => ?_) (fun c_11 => ?_)
  · replace hf := hf.1 c_11
    refine lv_iconst (v := 1) hx hb dX4_nextNewName_70 (by decide) ?_
    refine lv_goto (tgt := 75) hx hb dX4_nextNewName_71 (by decide) ?_
    exact r_z F hr hlk hB (Or.inr rfl) ⟨Or.inr rfl, _, _, rfl, hf⟩ dX4_nextNewName_75
  · replace hf := hf.2 c_11
    refine lv_aload_n hx hb dX4_nextNewName_59 rfl (lv_at hl 1 rfl) ?_
    refine g_get (w := .ref (d_t 0)) F hB 0 rfl fl_RX4_12 rfl dX4_nextNewName_60 ?_
    refine lv_iconst (v := 3) hx hb dX4_nextNewName_63 (by decide) ?_
    refine k_vi (wr := [(a_t, ob 4 (vmx 4 d_t w_t) i_t j0), (a_t_reader_text, ai k 940 r_t_reader_text), ((d_t 1), aj k 10 r_t_haltNames), (a_t_line, ob 3 (rfd d_t_line) i_t_line j0), ((d_t 2), aj k 6 r_t_kindNames)]) (rest := []) F hA hB (c_Reader_failHere l D k (d_t 0) w_t_reader i_t_reader j_t_reader (3 : Int32) _  hf) ml_RX4_94 mv_yX7_failHere [1] [0, 2, 3, 4, 5] rfl rfl (by decide) (by decide) (by decide) 1 rfl rfl rfl hl.1 rfl (Nat.le_of_ble_eq_true rfl) ⟨Nat.le_of_ble_eq_true rfl, Nat.le_of_ble_eq_true rfl⟩ ⟨Nat.le_of_ble_eq_true rfl, Nat.le_of_ble_eq_true rfl⟩ dX4_nextNewName_64 (fun z_8 w1 H locs hq hB => ?_)
    obtain ⟨h_9, i_t_reader_7, rfl, hf⟩ := hq
    replace hB : Bd D A s.heap (wd_LineReader_nextNewName k a_t d_t w_t i_t w_t_reader i_t_reader_7 j_t_reader a_t_reader_text r_t_reader_text r_t_haltNames a_t_line d_t_line i_t_line r_t_kindNames) H locs := hB.sub [0, 5, 1, 2, 3, 4] (by decide) rfl
    refine lv_if_eq (tgt := 74) hx hb dX4_nextNewName_67 (by decide) (fun c_10 => ?_) (fun c_10 => ?_)
    · replace hf := hf.1 c_10
      refine lv_iconst (v := 0) hx hb dX4_nextNewName_74 (by decide) ?_
      exact r_z F hr hlk hB (Or.inl rfl) ⟨Or.inl rfl, _, _, rfl, hf⟩ dX4_nextNewName_75
    · replace hf := hf.2 c_10
      refine lv_iconst (v := 1) hx hb dX4_nextNewName_70 (by decide) ?_
      refine lv_goto (tgt := 75) hx hb dX4_nextNewName_71 (by decide) ?_
      exact r_z F hr hlk hB (Or.inr rfl) ⟨Or.inr rfl, _, _, rfl, hf⟩ dX4_nextNewName_75

set_option maxRecDepth 100000 in
set_option maxHeartbeats 4000000 in
theorem jt_LineReader_nextNewName_49 {p : Program} {l : Launch} {e : Env} {s : State} {m : MethodId} {below : List Frame} {meth : Method} {c : Code} {A : Nat → Prop} {D : va_G} {k : Nat → ClassId}  {K : Nat → Nat} {a_t : Nat} {d_t : Nat → Nat} {w_t : Nat → Value} {i_t : Nat → Int32} {w_t_reader : Nat → Value} {a_t_reader_text : Nat} {r_t_reader_text : Nat → Int32} {r_t_haltNames : Nat → Int64} {a_t_line : Nat} {d_t_line : Nat → Nat} {i_t_line : Nat → Int32} {r_t_kindNames : Nat → Int64}  {Q : Int32 → (Nat → Int32) → (Nat → Int64) → Prop} (hw_t_reader_text : w_t_reader 0 = .ref a_t_reader_text) (hw_t_line : w_t 3 = .ref a_t_line) (F : Fx p m c cX4_nextNewName 2 s ([.ref a_t] : List Value).toArray RX4 D k) (hr : meth.sig.returnType = (some .boolean)) (hlk : meth.locks = false) (hA : ∀ q : Nat, s.heap.size ≤ q → A q) (hE : Am K A s s.heap) :
    ∀ (i_t_reader : Nat → Int32) (j_t_reader : Nat → Int64) (H : Heap) (locs : List Loc) (ls : Array Slot), j_LineReader_nextNewName_49 i_t_reader j_t_reader Q → Bd D A s.heap (wd_LineReader_nextNewName k a_t d_t w_t i_t w_t_reader i_t_reader j_t_reader a_t_reader_text r_t_reader_text r_t_haltNames a_t_line d_t_line i_t_line r_t_kindNames) H locs → lv_has ls 2 [(0, .ref a_t)] → W p l e { frames := 7, cells := 0, slots := 0, locals := 149 } s m ([.ref a_t] : List Value).toArray below meth c H locs 0 0 (Ei below (fun r w => (r = 0 ∨ r = 1) ∧ (∃ (i_t_reader : Nat → Int32), ∃ (j_t_reader : Nat → Int64), w = (wd_LineReader_nextNewName k a_t d_t w_t i_t w_t_reader i_t_reader j_t_reader a_t_reader_text r_t_reader_text r_t_haltNames a_t_line d_t_line i_t_line r_t_kindNames) ∧ Q r i_t_reader j_t_reader)) D k A ([.ref a_t] : List Value).toArray s 0 0) (F0 m 49 ls []) := by
  have hx := F.x
  have hb := F.b
  intro i_t_reader j_t_reader H locs ls hf hB hl
  unfold j_LineReader_nextNewName_49 at hf
  refine lv_iconst (v := 1) hx hb dX4_nextNewName_49 (by decide) ?_
  refine lv_goto (tgt := 54) hx hb dX4_nextNewName_50 (by decide) ?_
  exact jt_LineReader_nextNewName_54 hw_t_reader_text hw_t_line F hr hlk hA hE _ _ _ _ _ _ hf hB (lv_sub hl [0] rfl)

set_option maxRecDepth 100000 in
set_option maxHeartbeats 4000000 in
theorem c_LineReader_nextNewName (l : Launch) (D : va_G) (k : Nat → ClassId)  (K : Nat → Nat) (a_t : Nat) (d_t : Nat → Nat) (w_t : Nat → Value) (i_t : Nat → Int32) (w_t_reader : Nat → Value) (i_t_reader : Nat → Int32) (j_t_reader : Nat → Int64) (a_t_reader_text : Nat) (r_t_reader_text : Nat → Int32) (r_t_haltNames : Nat → Int64) (a_t_line : Nat) (d_t_line : Nat → Nat) (i_t_line : Nat → Int32) (r_t_kindNames : Nat → Int64)  (Q : Int32 → (Nat → Int32) → (Nat → Int64) → Prop) (hw_t_reader_text : w_t_reader 0 = .ref a_t_reader_text) (hw_t_line : w_t 3 = .ref a_t_line) (hf : w_LineReader_nextNewName i_t_reader j_t_reader r_t_reader_text r_t_haltNames i_t_line r_t_kindNames Q) : CeI l yX4_nextNewName cX4_nextNewName 2 (some .boolean) 7 149 0 0 D k K [.ref a_t] (wd_LineReader_nextNewName k a_t d_t w_t i_t w_t_reader i_t_reader j_t_reader a_t_reader_text r_t_reader_text r_t_haltNames a_t_line d_t_line i_t_line r_t_kindNames) (fun r w => (r = 0 ∨ r = 1) ∧ (∃ (i_t_reader : Nat → Int32), ∃ (j_t_reader : Nat → Int64), w = (wd_LineReader_nextNewName k a_t d_t w_t i_t w_t_reader i_t_reader j_t_reader a_t_reader_text r_t_reader_text r_t_haltNames a_t_line d_t_line i_t_line r_t_kindNames) ∧ Q r i_t_reader j_t_reader)) := by
  refine CeI.of (by decide) (Nat.le_of_ble_eq_true rfl) ?_
  intro p e s m below meth c A F hr hlk hnm hA hE hB ls hl
  have hx := F.x
  have hb := F.b
  unfold w_LineReader_nextNewName at hf
  replace hl : lv_has ls 2 [(0, .ref a_t)] := hl
  refine lv_aload_n hx hb dX4_nextNewName_0 rfl (lv_at hl 0 rfl) ?_
  refine g_get (w := .ref (d_t 0)) F hB 0 rfl fl_RX4_12 rfl dX4_nextNewName_1 ?_
  refine k_vv (wr := [(a_t, ob 4 (vmx 4 d_t w_t) i_t j0), ((d_t 1), aj k 10 r_t_haltNames), (a_t_line, ob 3 (rfd d_t_line) i_t_line j0), ((d_t 2), aj k 6 r_t_kindNames)]) (rest := []) F hA hB (c_Reader_advance l D k (d_t 0) w_t_reader i_t_reader j_t_reader a_t_reader_text r_t_reader_text _ hw_t_reader_text hf) ml_RX4_45 mv_yX7_advance [1, 2] [0, 3, 4, 5] rfl rfl (by decide) (by decide) (by decide) 1 rfl rfl rfl hl.1 rfl (Nat.le_of_ble_eq_true rfl) ⟨Nat.le_of_ble_eq_true rfl, Nat.le_of_ble_eq_true rfl⟩ ⟨Nat.le_of_ble_eq_true rfl, Nat.le_of_ble_eq_true rfl⟩ dX4_nextNewName_4 (fun w1 H locs hq hB => ?_)
  obtain ⟨i_t_reader_1, j_t_reader_2, rfl, hf⟩ := hq
  replace hB : Bd D A s.heap (wd_LineReader_nextNewName k a_t d_t w_t i_t w_t_reader i_t_reader_1 j_t_reader_2 a_t_reader_text r_t_reader_text r_t_haltNames a_t_line d_t_line i_t_line r_t_kindNames) H locs := hB.sub [0, 4, 5, 1, 2, 3] (by decide) rfl
  refine lv_aload_n hx hb dX4_nextNewName_7 rfl (lv_at hl 0 rfl) ?_
  refine g_get (w := .ref (d_t 0)) F hB 0 rfl fl_RX4_12 rfl dX4_nextNewName_8 ?_
  refine ke_vi (wr := [(a_t, ob 4 (vmx 4 d_t w_t) i_t j0), ((d_t 1), aj k 10 r_t_haltNames), (a_t_line, ob 3 (rfd d_t_line) i_t_line j0), ((d_t 2), aj k 6 r_t_kindNames)]) (rest := []) F hE hA hB (c_Reader_isName l D k K (d_t 0) w_t_reader i_t_reader_1 j_t_reader_2 a_t_reader_text r_t_reader_text _ hw_t_reader_text hf) ml_RX4_176 mv_yX7_isName [1, 2] [0, 3, 4, 5] rfl rfl (by decide) (by decide) (by decide) (rcv F hB 1 rfl rfl) rfl hl.1 rfl (Nat.le_of_ble_eq_true rfl) ⟨Nat.le_of_ble_eq_true rfl, Nat.le_of_ble_eq_true rfl⟩ ⟨Nat.le_of_ble_eq_true rfl, Nat.le_of_ble_eq_true rfl⟩ dX4_nextNewName_11 (fun z_4 w1 H locs hq hB => ?_)
  obtain ⟨h_5, i_t_reader_3, rfl, hf⟩ := hq
  replace hB : Bd D A s.heap (wd_LineReader_nextNewName k a_t d_t w_t i_t w_t_reader i_t_reader_3 j_t_reader_2 a_t_reader_text r_t_reader_text r_t_haltNames a_t_line d_t_line i_t_line r_t_kindNames) H locs := hB.sub [0, 4, 5, 1, 2, 3] (by decide) rfl
  refine lv_if_ne (tgt := 19) hx hb dX4_nextNewName_14 (by decide) (fun c_15 => ?_) (fun c_15 => ?_)
  · replace hf := hf.1 c_15
    refine lv_aload_n hx hb dX4_nextNewName_19 rfl (lv_at hl 0 rfl) ?_
    refine lv_aload_n hx hb dX4_nextNewName_20 rfl (lv_at hl 0 rfl) ?_
    refine g_get (w := .ref (d_t 0)) F hB 0 rfl fl_RX4_12 rfl dX4_nextNewName_21 ?_
    refine g_get (w := .long (j_t_reader_2 7)) F hB 1 rfl fl_RX4_123 rfl dX4_nextNewName_24 ?_
    refine k_vi (wr := [((d_t 0), ob 7 (vmx 7 d0 w_t_reader) i_t_reader_3 j_t_reader_2), (a_t_reader_text, ai k 940 r_t_reader_text), ((d_t 2), aj k 6 r_t_kindNames)]) (rest := []) F hA hB (c_LineReader_haltNamed l D k a_t d_t w_t i_t r_t_haltNames a_t_line d_t_line i_t_line (j_t_reader_2 7) _ hw_t_line hf) ml_RX4_148 mv_yX4_haltNamed [0, 3, 4] [1, 2, 5] rfl rfl (by decide) (by decide) (by decide) 0 rfl rfl rfl hl.1 rfl (Nat.le_of_ble_eq_true rfl) ⟨Nat.le_of_ble_eq_true rfl, Nat.le_of_ble_eq_true rfl⟩ ⟨Nat.le_of_ble_eq_true rfl, Nat.le_of_ble_eq_true rfl⟩ dX4_nextNewName_27 (fun z_6 w1 H locs hq hB => ?_)
    obtain ⟨rfl, hf⟩ := hq
    replace hB : Bd D A s.heap (wd_LineReader_nextNewName k a_t d_t w_t i_t w_t_reader i_t_reader_3 j_t_reader_2 a_t_reader_text r_t_reader_text r_t_haltNames a_t_line d_t_line i_t_line r_t_kindNames) H locs := hB.sub [3, 0, 1, 4, 5, 2] (by decide) rfl
    refine lv_iconst (v := -1) hx hb dX4_nextNewName_30 (by decide) ?_
    refine lv_icmp_ne (tgt := 49) hx hb dX4_nextNewName_31 (by decide) (fun c_14 => ?_) (fun c_14 => ?_)
    · replace hf := hf.1 c_14
      exact jt_LineReader_nextNewName_49 hw_t_reader_text hw_t_line F hr hlk hA hE _ _ _ _ _ hf hB (lv_sub hl [0] rfl)
    · replace hf := hf.2 c_14
      refine lv_aload_n hx hb dX4_nextNewName_34 rfl (lv_at hl 0 rfl) ?_
      refine lv_aload_n hx hb dX4_nextNewName_35 rfl (lv_at hl 0 rfl) ?_
      refine g_get (w := .ref (d_t 0)) F hB 0 rfl fl_RX4_12 rfl dX4_nextNewName_36 ?_
      refine g_get (w := .long (j_t_reader_2 7)) F hB 1 rfl fl_RX4_123 rfl dX4_nextNewName_39 ?_
      refine k_vi (wr := [((d_t 0), ob 7 (vmx 7 d0 w_t_reader) i_t_reader_3 j_t_reader_2), (a_t_reader_text, ai k 940 r_t_reader_text), ((d_t 1), aj k 10 r_t_haltNames)]) (rest := []) F hA hB (c_LineReader_kindNamed l D k a_t d_t w_t i_t r_t_kindNames a_t_line d_t_line i_t_line (j_t_reader_2 7) _ hw_t_line hf) ml_RX4_155 mv_yX4_kindNamed [0, 5, 4] [1, 2, 3] rfl rfl (by decide) (by decide) (by decide) 0 rfl rfl rfl hl.1 rfl (Nat.le_of_ble_eq_true rfl) ⟨Nat.le_of_ble_eq_true rfl, Nat.le_of_ble_eq_true rfl⟩ ⟨Nat.le_of_ble_eq_true rfl, Nat.le_of_ble_eq_true rfl⟩ dX4_nextNewName_42 (fun z_12 w1 H locs hq hB => ?_)
      obtain ⟨rfl, hf⟩ := hq
      replace hB : Bd D A s.heap (wd_LineReader_nextNewName k a_t d_t w_t i_t w_t_reader i_t_reader_3 j_t_reader_2 a_t_reader_text r_t_reader_text r_t_haltNames a_t_line d_t_line i_t_line r_t_kindNames) H locs := hB.sub [3, 0, 1, 2, 5, 4] (by decide) rfl
      refine lv_iconst (v := -1) hx hb dX4_nextNewName_45 (by decide) ?_
      refine lv_icmp_eq (tgt := 53) hx hb dX4_nextNewName_46 (by decide) (fun c_13 => ?_) (fun c_13 => ?_)
      · replace hf := hf.1 c_13
        refine lv_iconst (v := 0) hx hb dX4_nextNewName_53 (by decide) ?_
        exact jt_LineReader_nextNewName_54 hw_t_reader_text hw_t_line F hr hlk hA hE _ _ _ _ _ _ hf hB (lv_sub hl [0] rfl)
      · replace hf := hf.2 c_13
        exact jt_LineReader_nextNewName_49 hw_t_reader_text hw_t_line F hr hlk hA hE _ _ _ _ _ hf hB (lv_sub hl [0] rfl)
  · replace hf := hf.2 c_15
    refine lv_iconst (v := 0) hx hb dX4_nextNewName_17 (by decide) ?_
    exact r_z F hr hlk hB (Or.inl rfl) ⟨Or.inl rfl, _, _, rfl, hf⟩ dX4_nextNewName_18

/-! LongTrain.LineReader.readHalt -/
set_option maxRecDepth 100000 in
set_option maxHeartbeats 4000000 in
theorem jt_LineReader_readHalt_65 {p : Program} {l : Launch} {e : Env} {s : State} {m : MethodId} {below : List Frame} {meth : Method} {c : Code} {A : Nat → Prop} {D : va_G} {k : Nat → ClassId}  {K : Nat → Nat} {a_t : Nat} {d_t : Nat → Nat} {w_t : Nat → Value} {i_t : Nat → Int32} {a_t_line : Nat} {d_t_line : Nat → Nat} {w_t_reader : Nat → Value} {a_t_reader_text : Nat} {r_t_reader_text : Nat → Int32} {r_t_kindNames : Nat → Int64}  {Q : Int32 → (Nat → Int32) → (Nat → Int32) → (Nat → Int64) → (Nat → Int64) → (Nat → Int32) → Prop} (hw_t_line : w_t 3 = .ref a_t_line) (hw_t_reader_text : w_t_reader 0 = .ref a_t_reader_text) (F : Fx p m c cX4_readHalt 3 s ([.ref a_t] : List Value).toArray RX4 D k) (hr : meth.sig.returnType = (some .boolean)) (hlk : meth.locks = false) (hA : ∀ q : Nat, s.heap.size ≤ q → A q) (hE : Am K A s s.heap) :
    ∀ (i_t_line : Nat → Int32) (i_t_reader : Nat → Int32) (j_t_reader : Nat → Int64) (r_t_haltNames : Nat → Int64) (r_t_line_halts : Nat → Int32) (x1 : Int32) (y0 : Int32) (H : Heap) (locs : List Loc) (ls : Array Slot), j_LineReader_readHalt_65 i_t_line i_t_reader j_t_reader r_t_reader_text r_t_haltNames r_t_line_halts x1 y0 Q → Bd D A s.heap (wd_LineReader_readHalt k a_t d_t w_t i_t a_t_line d_t_line i_t_line w_t_reader i_t_reader j_t_reader a_t_reader_text r_t_reader_text r_t_haltNames r_t_kindNames r_t_line_halts) H locs → lv_has ls 3 [(0, .ref a_t), (1, .int x1)] → W p l e { frames := 8, cells := 0, slots := 0, locals := 170 } s m ([.ref a_t] : List Value).toArray below meth c H locs 0 0 (Ei below (fun r w => (r = 0 ∨ r = 1) ∧ (∃ (i_t_line : Nat → Int32), ∃ (i_t_reader : Nat → Int32), ∃ (j_t_reader : Nat → Int64), ∃ (r_t_haltNames : Nat → Int64), ∃ (r_t_line_halts : Nat → Int32), w = (wd_LineReader_readHalt k a_t d_t w_t i_t a_t_line d_t_line i_t_line w_t_reader i_t_reader j_t_reader a_t_reader_text r_t_reader_text r_t_haltNames r_t_kindNames r_t_line_halts) ∧ Q r i_t_line i_t_reader j_t_reader r_t_haltNames r_t_line_halts)) D k A ([.ref a_t] : List Value).toArray s 0 0) (F0 m 65 ls [.int y0]) := by
  have hx := F.x
  have hb := F.b
  intro i_t_line i_t_reader j_t_reader r_t_haltNames r_t_line_halts x1 y0 H locs ls hf hB hl
  unfold j_LineReader_readHalt_65 at hf
  refine lv_istore_n (lv' := [(2, .int y0), (0, .ref a_t), (1, .int x1)]) hx hb dX4_readHalt_65 rfl hl (by decide) rfl (fun ls hl => ?_)
  refine lv_aload_n hx hb dX4_readHalt_66 rfl (lv_at hl 1 rfl) ?_
  refine g_get (w := .ref (d_t 0)) F hB 0 rfl fl_RX4_12 rfl dX4_readHalt_67 ?_
  refine lv_iload_n hx hb dX4_readHalt_70 rfl (lv_at hl 0 rfl) ?_
  refine lv_aload_n hx hb dX4_readHalt_71 rfl (lv_at hl 1 rfl) ?_
  refine g_get (w := .ref a_t_line) F hB 0 rfl fl_RX4_29 hw_t_line dX4_readHalt_72 ?_
  refine g_get (w := .int (i_t_line 1)) F hB 1 rfl fl_RX4_110 rfl dX4_readHalt_75 ?_
  refine lv_iconst (v := 1) hx hb dX4_readHalt_78 (by decide) ?_
  refine lv_isub hx hb dX4_readHalt_79 ?_
  refine k_vi (wr := [(a_t, ob 4 (vmx 4 d_t w_t) i_t j0), (a_t_line, ob 3 (rfd d_t_line) i_t_line j0), ((d_t 1), aj k 10 r_t_haltNames), ((d_t 2), aj k 6 r_t_kindNames), ((d_t_line 2), ai k 30 r_t_line_halts)]) (rest := []) F hA hB (c_Reader_nextNumber l D k (d_t 0) w_t_reader i_t_reader j_t_reader a_t_reader_text r_t_reader_text y0 ((i_t_line 1) - (1 : Int32)) _ hw_t_reader_text hf) ml_RX4_107 mv_yX7_nextNumber [2, 3] [0, 1, 4, 5, 6] rfl rfl (by decide) (by decide) (by decide) 2 rfl rfl rfl hl.1 rfl (Nat.le_of_ble_eq_true rfl) ⟨Nat.le_of_ble_eq_true rfl, Nat.le_of_ble_eq_true rfl⟩ ⟨Nat.le_of_ble_eq_true rfl, Nat.le_of_ble_eq_true rfl⟩ dX4_readHalt_80 (fun z_9 w1 H locs hq hB => ?_)
  obtain ⟨h_10, i_t_reader_7, j_t_reader_8, rfl, hf⟩ := hq
  replace hB : Bd D A s.heap (wd_LineReader_readHalt k a_t d_t w_t i_t a_t_line d_t_line i_t_line w_t_reader i_t_reader_7 j_t_reader_8 a_t_reader_text r_t_reader_text r_t_haltNames r_t_kindNames r_t_line_halts) H locs := hB.sub [0, 1, 5, 6, 2, 3, 4] (by decide) rfl
  refine lv_if_ne (tgt := 88) hx hb dX4_readHalt_83 (by decide) (fun c_19 => ?_) (fun c_19 => ?_)
  · replace hf := hf.1 c_19
    refine lv_aload_n hx hb dX4_readHalt_88 rfl (lv_at hl 1 rfl) ?_
    refine g_get (w := .ref a_t_line) F hB 0 rfl fl_RX4_29 hw_t_line dX4_readHalt_89 ?_
    refine g_get (w := .ref (d_t_line 2)) F hB 1 rfl fl_RX4_130 rfl dX4_readHalt_92 ?_
    refine lv_iconst (v := 3) hx hb dX4_readHalt_95 (by decide) ?_
    refine lv_iload_n hx hb dX4_readHalt_96 rfl (lv_at hl 2 rfl) ?_
    refine lv_imul hx hb dX4_readHalt_97 ?_
    refine lv_aload_n hx hb dX4_readHalt_98 rfl (lv_at hl 1 rfl) ?_
    refine g_get (w := .ref (d_t 0)) F hB 0 rfl fl_RX4_12 rfl dX4_readHalt_99 ?_
    refine g_get (w := .int (i_t_reader_7 6)) F hB 2 rfl fl_RX4_104 rfl dX4_readHalt_102 ?_
    obtain ⟨h_11, hf⟩ := hf
    refine g_iast F hB 6 rfl h_11 (wd_LineReader_readHalt k a_t d_t w_t i_t a_t_line d_t_line i_t_line w_t_reader i_t_reader_7 j_t_reader_8 a_t_reader_text r_t_reader_text r_t_haltNames r_t_kindNames (upd r_t_line_halts (((3 : Int32) * x1)).toNatClampNeg (i_t_reader_7 6))) rfl dX4_readHalt_105 (fun H locs hB => ?_)
    refine lv_aload_n hx hb dX4_readHalt_106 rfl (lv_at hl 1 rfl) ?_
    refine g_get (w := .ref (d_t 0)) F hB 0 rfl fl_RX4_12 rfl dX4_readHalt_107 ?_
    refine lv_iconst (v := 1) hx hb dX4_readHalt_110 (by decide) ?_
    refine lv_bipush (v := 99) hx hb dX4_readHalt_111 (by decide) ?_
    refine k_vi (wr := [(a_t, ob 4 (vmx 4 d_t w_t) i_t j0), (a_t_line, ob 3 (rfd d_t_line) i_t_line j0), ((d_t 1), aj k 10 r_t_haltNames), ((d_t 2), aj k 6 r_t_kindNames), ((d_t_line 2), ai k 30 (upd r_t_line_halts (((3 : Int32) * x1)).toNatClampNeg (i_t_reader_7 6)))]) (rest := []) F hA hB (c_Reader_nextNumber l D k (d_t 0) w_t_reader i_t_reader_7 j_t_reader_8 a_t_reader_text r_t_reader_text (1 : Int32) (99 : Int32) _ hw_t_reader_text hf) ml_RX4_107 mv_yX7_nextNumber [2, 3] [0, 1, 4, 5, 6] rfl rfl (by decide) (by decide) (by decide) 2 rfl rfl rfl hl.1 rfl (Nat.le_of_ble_eq_true rfl) ⟨Nat.le_of_ble_eq_true rfl, Nat.le_of_ble_eq_true rfl⟩ ⟨Nat.le_of_ble_eq_true rfl, Nat.le_of_ble_eq_true rfl⟩ dX4_readHalt_113 (fun z_14 w1 H locs hq hB => ?_)
    obtain ⟨h_15, i_t_reader_12, j_t_reader_13, rfl, hf⟩ := hq
    replace hB : Bd D A s.heap (wd_LineReader_readHalt k a_t d_t w_t i_t a_t_line d_t_line i_t_line w_t_reader i_t_reader_12 j_t_reader_13 a_t_reader_text r_t_reader_text r_t_haltNames r_t_kindNames (upd r_t_line_halts (((3 : Int32) * x1)).toNatClampNeg (i_t_reader_7 6))) H locs := hB.sub [0, 1, 5, 6, 2, 3, 4] (by decide) rfl
    refine lv_if_ne (tgt := 121) hx hb dX4_readHalt_116 (by decide) (fun c_18 => ?_) (fun c_18 => ?_)
    · replace hf := hf.1 c_18
      refine lv_aload_n hx hb dX4_readHalt_121 rfl (lv_at hl 1 rfl) ?_
      refine g_get (w := .ref a_t_line) F hB 0 rfl fl_RX4_29 hw_t_line dX4_readHalt_122 ?_
      refine g_get (w := .ref (d_t_line 2)) F hB 1 rfl fl_RX4_130 rfl dX4_readHalt_125 ?_
      refine lv_iconst (v := 3) hx hb dX4_readHalt_128 (by decide) ?_
      refine lv_iload_n hx hb dX4_readHalt_129 rfl (lv_at hl 2 rfl) ?_
      refine lv_imul hx hb dX4_readHalt_130 ?_
      refine lv_iconst (v := 1) hx hb dX4_readHalt_131 (by decide) ?_
      refine lv_iadd hx hb dX4_readHalt_132 ?_
      refine lv_aload_n hx hb dX4_readHalt_133 rfl (lv_at hl 1 rfl) ?_
      refine g_get (w := .ref (d_t 0)) F hB 0 rfl fl_RX4_12 rfl dX4_readHalt_134 ?_
      refine g_get (w := .int (i_t_reader_12 6)) F hB 2 rfl fl_RX4_104 rfl dX4_readHalt_137 ?_
      obtain ⟨h_16, hf⟩ := hf
      refine g_iast F hB 6 rfl h_16 (wd_LineReader_readHalt k a_t d_t w_t i_t a_t_line d_t_line i_t_line w_t_reader i_t_reader_12 j_t_reader_13 a_t_reader_text r_t_reader_text r_t_haltNames r_t_kindNames (upd (upd r_t_line_halts (((3 : Int32) * x1)).toNatClampNeg (i_t_reader_7 6)) ((((3 : Int32) * x1) + (1 : Int32))).toNatClampNeg (i_t_reader_12 6))) rfl dX4_readHalt_140 (fun H locs hB => ?_)
      refine lv_aload_n hx hb dX4_readHalt_141 rfl (lv_at hl 1 rfl) ?_
      refine g_get (w := .ref a_t_line) F hB 0 rfl fl_RX4_29 hw_t_line dX4_readHalt_142 ?_
      refine g_get (w := .ref (d_t_line 2)) F hB 1 rfl fl_RX4_130 rfl dX4_readHalt_145 ?_
      refine lv_iconst (v := 3) hx hb dX4_readHalt_148 (by decide) ?_
      refine lv_iload_n hx hb dX4_readHalt_149 rfl (lv_at hl 2 rfl) ?_
      refine lv_imul hx hb dX4_readHalt_150 ?_
      refine lv_iconst (v := 2) hx hb dX4_readHalt_151 (by decide) ?_
      refine lv_iadd hx hb dX4_readHalt_152 ?_
      refine lv_iconst (v := -1) hx hb dX4_readHalt_153 (by decide) ?_
      obtain ⟨h_17, hf⟩ := hf
      refine g_iast F hB 6 rfl h_17 (wd_LineReader_readHalt k a_t d_t w_t i_t a_t_line d_t_line i_t_line w_t_reader i_t_reader_12 j_t_reader_13 a_t_reader_text r_t_reader_text r_t_haltNames r_t_kindNames (upd (upd (upd r_t_line_halts (((3 : Int32) * x1)).toNatClampNeg (i_t_reader_7 6)) ((((3 : Int32) * x1) + (1 : Int32))).toNatClampNeg (i_t_reader_12 6)) ((((3 : Int32) * x1) + (2 : Int32))).toNatClampNeg (-1 : Int32))) rfl dX4_readHalt_154 (fun H locs hB => ?_)
      refine lv_aload_n hx hb dX4_readHalt_155 rfl (lv_at hl 1 rfl) ?_
      refine g_get (w := .ref a_t_line) F hB 0 rfl fl_RX4_29 hw_t_line dX4_readHalt_156 ?_
      refine lv_dup hx hb dX4_readHalt_159 rfl ?_
      refine g_get (w := .int (i_t_line 3)) F hB 1 rfl fl_RX4_117 rfl dX4_readHalt_160 ?_
      refine lv_iconst (v := 1) hx hb dX4_readHalt_163 (by decide) ?_
      refine lv_iadd hx hb dX4_readHalt_164 ?_
      refine g_puti F hB 1 rfl fl_RX4_117 rfl (wd_LineReader_readHalt k a_t d_t w_t i_t a_t_line d_t_line (upd i_t_line 3 ((i_t_line 3) + (1 : Int32))) w_t_reader i_t_reader_12 j_t_reader_13 a_t_reader_text r_t_reader_text r_t_haltNames r_t_kindNames (upd (upd (upd r_t_line_halts (((3 : Int32) * x1)).toNatClampNeg (i_t_reader_7 6)) ((((3 : Int32) * x1) + (1 : Int32))).toNatClampNeg (i_t_reader_12 6)) ((((3 : Int32) * x1) + (2 : Int32))).toNatClampNeg (-1 : Int32))) rfl dX4_readHalt_165 (fun H locs hB => ?_)
      refine lv_iconst (v := 1) hx hb dX4_readHalt_168 (by decide) ?_
      exact r_z F hr hlk hB (Or.inr rfl) ⟨Or.inr rfl, _, _, _, _, _, rfl, hf⟩ dX4_readHalt_169
    · replace hf := hf.2 c_18
      refine lv_iconst (v := 0) hx hb dX4_readHalt_119 (by decide) ?_
      exact r_z F hr hlk hB (Or.inl rfl) ⟨Or.inl rfl, _, _, _, _, _, rfl, hf⟩ dX4_readHalt_120
  · replace hf := hf.2 c_19
    refine lv_iconst (v := 0) hx hb dX4_readHalt_86 (by decide) ?_
    exact r_z F hr hlk hB (Or.inl rfl) ⟨Or.inl rfl, _, _, _, _, _, rfl, hf⟩ dX4_readHalt_87

set_option maxRecDepth 100000 in
set_option maxHeartbeats 4000000 in
theorem c_LineReader_readHalt (l : Launch) (D : va_G) (k : Nat → ClassId)  (K : Nat → Nat) (a_t : Nat) (d_t : Nat → Nat) (w_t : Nat → Value) (i_t : Nat → Int32) (a_t_line : Nat) (d_t_line : Nat → Nat) (i_t_line : Nat → Int32) (w_t_reader : Nat → Value) (i_t_reader : Nat → Int32) (j_t_reader : Nat → Int64) (a_t_reader_text : Nat) (r_t_reader_text : Nat → Int32) (r_t_haltNames : Nat → Int64) (r_t_kindNames : Nat → Int64) (r_t_line_halts : Nat → Int32)  (Q : Int32 → (Nat → Int32) → (Nat → Int32) → (Nat → Int64) → (Nat → Int64) → (Nat → Int32) → Prop) (hw_t_line : w_t 3 = .ref a_t_line) (hw_t_reader_text : w_t_reader 0 = .ref a_t_reader_text) (hf : w_LineReader_readHalt i_t_line i_t_reader j_t_reader r_t_reader_text r_t_haltNames r_t_kindNames r_t_line_halts Q) : CeI l yX4_readHalt cX4_readHalt 3 (some .boolean) 8 170 0 0 D k K [.ref a_t] (wd_LineReader_readHalt k a_t d_t w_t i_t a_t_line d_t_line i_t_line w_t_reader i_t_reader j_t_reader a_t_reader_text r_t_reader_text r_t_haltNames r_t_kindNames r_t_line_halts) (fun r w => (r = 0 ∨ r = 1) ∧ (∃ (i_t_line : Nat → Int32), ∃ (i_t_reader : Nat → Int32), ∃ (j_t_reader : Nat → Int64), ∃ (r_t_haltNames : Nat → Int64), ∃ (r_t_line_halts : Nat → Int32), w = (wd_LineReader_readHalt k a_t d_t w_t i_t a_t_line d_t_line i_t_line w_t_reader i_t_reader j_t_reader a_t_reader_text r_t_reader_text r_t_haltNames r_t_kindNames r_t_line_halts) ∧ Q r i_t_line i_t_reader j_t_reader r_t_haltNames r_t_line_halts)) := by
  refine CeI.of (by decide) (Nat.le_of_ble_eq_true rfl) ?_
  intro p e s m below meth c A F hr hlk hnm hA hE hB ls hl
  have hx := F.x
  have hb := F.b
  unfold w_LineReader_readHalt at hf
  replace hl : lv_has ls 3 [(0, .ref a_t)] := hl
  refine lv_aload_n hx hb dX4_readHalt_0 rfl (lv_at hl 0 rfl) ?_
  refine g_get (w := .ref a_t_line) F hB 0 rfl fl_RX4_29 hw_t_line dX4_readHalt_1 ?_
  refine g_get (w := .int (i_t_line 3)) F hB 1 rfl fl_RX4_117 rfl dX4_readHalt_4 ?_
  refine lv_istore_n (lv' := [(1, .int (i_t_line 3)), (0, .ref a_t)]) hx hb dX4_readHalt_7 rfl hl (by decide) rfl (fun ls hl => ?_)
  refine lv_iload_n hx hb dX4_readHalt_8 rfl (lv_at hl 0 rfl) ?_
  refine lv_bipush (v := 10) hx hb dX4_readHalt_9 (by decide) ?_
  refine lv_icmp_lt (tgt := 23) hx hb dX4_readHalt_11 (by decide) (fun c_25 => ?_) (fun c_25 => ?_)
  · replace hf := hf.1 c_25
    refine lv_aload_n hx hb dX4_readHalt_23 rfl (lv_at hl 1 rfl) ?_
    refine ke_vi (wr := [((d_t_line 2), ai k 30 r_t_line_halts)]) (rest := []) F hE hA hB (c_LineReader_nextNewName l D k K a_t d_t w_t i_t w_t_reader i_t_reader j_t_reader a_t_reader_text r_t_reader_text r_t_haltNames a_t_line d_t_line i_t_line r_t_kindNames _ hw_t_reader_text hw_t_line hf) ml_RX4_120 mv_yX4_nextNewName [0, 2, 3, 4, 1, 5] [6] rfl rfl (by decide) (by decide) (by decide) (rcv F hB 0 rfl rfl) rfl hl.1 rfl (Nat.le_of_ble_eq_true rfl) ⟨Nat.le_of_ble_eq_true rfl, Nat.le_of_ble_eq_true rfl⟩ ⟨Nat.le_of_ble_eq_true rfl, Nat.le_of_ble_eq_true rfl⟩ dX4_readHalt_24 (fun z_3 w1 H locs hq hB => ?_)
    obtain ⟨h_4, i_t_reader_1, j_t_reader_2, rfl, hf⟩ := hq
    replace hB : Bd D A s.heap (wd_LineReader_readHalt k a_t d_t w_t i_t a_t_line d_t_line i_t_line w_t_reader i_t_reader_1 j_t_reader_2 a_t_reader_text r_t_reader_text r_t_haltNames r_t_kindNames r_t_line_halts) H locs := hB.sub [1, 5, 2, 3, 4, 6, 0] (by decide) rfl
    refine lv_if_ne (tgt := 32) hx hb dX4_readHalt_27 (by decide) (fun c_21 => ?_) (fun c_21 => ?_)
    · replace hf := hf.1 c_21
      refine lv_aload_n hx hb dX4_readHalt_32 rfl (lv_at hl 1 rfl) ?_
      refine g_get (w := .ref (d_t 1)) F hB 0 rfl fl_RX4_18 rfl dX4_readHalt_33 ?_
      refine lv_iload_n hx hb dX4_readHalt_36 rfl (lv_at hl 0 rfl) ?_
      refine lv_aload_n hx hb dX4_readHalt_37 rfl (lv_at hl 1 rfl) ?_
      refine g_get (w := .ref (d_t 0)) F hB 0 rfl fl_RX4_12 rfl dX4_readHalt_38 ?_
      refine g_get (w := .long (j_t_reader_2 7)) F hB 2 rfl fl_RX4_123 rfl dX4_readHalt_41 ?_
      obtain ⟨h_5, hf⟩ := hf
      refine g_jast F hB 4 rfl h_5 (wd_LineReader_readHalt k a_t d_t w_t i_t a_t_line d_t_line i_t_line w_t_reader i_t_reader_1 j_t_reader_2 a_t_reader_text r_t_reader_text (vp_updL r_t_haltNames ((i_t_line 3)).toNatClampNeg (j_t_reader_2 7)) r_t_kindNames r_t_line_halts) rfl dX4_readHalt_44 (fun H locs hB => ?_)
      refine lv_iload_n hx hb dX4_readHalt_45 rfl (lv_at hl 0 rfl) ?_
      refine lv_if_ne (tgt := 53) hx hb dX4_readHalt_46 (by decide) (fun c_20 => ?_) (fun c_20 => ?_)
      · replace hf := hf.1 c_20
        refine lv_aload_n hx hb dX4_readHalt_53 rfl (lv_at hl 1 rfl) ?_
        refine g_get (w := .ref a_t_line) F hB 0 rfl fl_RX4_29 hw_t_line dX4_readHalt_54 ?_
        refine lv_iload_n hx hb dX4_readHalt_57 rfl (lv_at hl 0 rfl) ?_
        refine lv_iconst (v := 1) hx hb dX4_readHalt_58 (by decide) ?_
        refine lv_isub hx hb dX4_readHalt_59 ?_
        refine k_vi (wr := [(a_t, ob 4 (vmx 4 d_t w_t) i_t j0), ((d_t 0), ob 7 (vmx 7 d0 w_t_reader) i_t_reader_1 j_t_reader_2), (a_t_reader_text, ai k 940 r_t_reader_text), ((d_t 1), aj k 10 (vp_updL r_t_haltNames ((i_t_line 3)).toNatClampNeg (j_t_reader_2 7))), ((d_t 2), aj k 6 r_t_kindNames)]) (rest := []) F hA hB (c_Line_haltAt l D k a_t_line d_t_line i_t_line r_t_line_halts ((i_t_line 3) - (1 : Int32)) _  hf) ml_RX4_127 mv_yX3_haltAt [1, 6] [0, 2, 3, 4, 5] rfl rfl (by decide) (by decide) (by decide) 1 rfl rfl rfl hl.1 rfl (Nat.le_of_ble_eq_true rfl) ⟨Nat.le_of_ble_eq_true rfl, Nat.le_of_ble_eq_true rfl⟩ ⟨Nat.le_of_ble_eq_true rfl, Nat.le_of_ble_eq_true rfl⟩ dX4_readHalt_60 (fun z_6 w1 H locs hq hB => ?_)
        obtain ⟨rfl, hf⟩ := hq
        replace hB : Bd D A s.heap (wd_LineReader_readHalt k a_t d_t w_t i_t a_t_line d_t_line i_t_line w_t_reader i_t_reader_1 j_t_reader_2 a_t_reader_text r_t_reader_text (vp_updL r_t_haltNames ((i_t_line 3)).toNatClampNeg (j_t_reader_2 7)) r_t_kindNames r_t_line_halts) H locs := hB.sub [0, 5, 1, 2, 3, 4, 6] (by decide) rfl
        refine lv_iconst (v := 1) hx hb dX4_readHalt_63 (by decide) ?_
        refine lv_iadd hx hb dX4_readHalt_64 ?_
        exact jt_LineReader_readHalt_65 hw_t_line hw_t_reader_text F hr hlk hA hE _ _ _ _ _ _ _ _ _ _ hf hB (lv_sub hl [1, 0] rfl)
      · replace hf := hf.2 c_20
        refine lv_iconst (v := 0) hx hb dX4_readHalt_49 (by decide) ?_
        refine lv_goto (tgt := 65) hx hb dX4_readHalt_50 (by decide) ?_
        exact jt_LineReader_readHalt_65 hw_t_line hw_t_reader_text F hr hlk hA hE _ _ _ _ _ _ _ _ _ _ hf hB (lv_sub hl [1, 0] rfl)
    · replace hf := hf.2 c_21
      refine lv_iconst (v := 0) hx hb dX4_readHalt_30 (by decide) ?_
      exact r_z F hr hlk hB (Or.inl rfl) ⟨Or.inl rfl, _, _, _, _, _, rfl, hf⟩ dX4_readHalt_31
  · replace hf := hf.2 c_25
    refine lv_aload_n hx hb dX4_readHalt_14 rfl (lv_at hl 1 rfl) ?_
    refine g_get (w := .ref (d_t 0)) F hB 0 rfl fl_RX4_12 rfl dX4_readHalt_15 ?_
    refine lv_iconst (v := 4) hx hb dX4_readHalt_18 (by decide) ?_
    refine k_vi (wr := [(a_t, ob 4 (vmx 4 d_t w_t) i_t j0), (a_t_line, ob 3 (rfd d_t_line) i_t_line j0), (a_t_reader_text, ai k 940 r_t_reader_text), ((d_t 1), aj k 10 r_t_haltNames), ((d_t 2), aj k 6 r_t_kindNames), ((d_t_line 2), ai k 30 r_t_line_halts)]) (rest := []) F hA hB (c_Reader_failHere l D k (d_t 0) w_t_reader i_t_reader j_t_reader (4 : Int32) _  hf) ml_RX4_94 mv_yX7_failHere [2] [0, 1, 3, 4, 5, 6] rfl rfl (by decide) (by decide) (by decide) 2 rfl rfl rfl hl.1 rfl (Nat.le_of_ble_eq_true rfl) ⟨Nat.le_of_ble_eq_true rfl, Nat.le_of_ble_eq_true rfl⟩ ⟨Nat.le_of_ble_eq_true rfl, Nat.le_of_ble_eq_true rfl⟩ dX4_readHalt_19 (fun z_23 w1 H locs hq hB => ?_)
    obtain ⟨h_24, i_t_reader_22, rfl, hf⟩ := hq
    replace hB : Bd D A s.heap (wd_LineReader_readHalt k a_t d_t w_t i_t a_t_line d_t_line i_t_line w_t_reader i_t_reader_22 j_t_reader a_t_reader_text r_t_reader_text r_t_haltNames r_t_kindNames r_t_line_halts) H locs := hB.sub [0, 1, 6, 2, 3, 4, 5] (by decide) rfl
    exact r_z F hr hlk hB (h_24) ⟨h_24, _, _, _, _, _, rfl, hf⟩ dX4_readHalt_22

/-! LongTrain.LineReader.readKind -/
set_option maxRecDepth 100000 in
set_option maxHeartbeats 4000000 in
theorem c_LineReader_readKind (l : Launch) (D : va_G) (k : Nat → ClassId)  (K : Nat → Nat) (a_t : Nat) (d_t : Nat → Nat) (w_t : Nat → Value) (i_t : Nat → Int32) (a_t_line : Nat) (d_t_line : Nat → Nat) (i_t_line : Nat → Int32) (w_t_reader : Nat → Value) (i_t_reader : Nat → Int32) (j_t_reader : Nat → Int64) (a_t_reader_text : Nat) (r_t_reader_text : Nat → Int32) (r_t_haltNames : Nat → Int64) (r_t_kindNames : Nat → Int64) (r_t_line_kinds : Nat → Int32)  (Q : Int32 → (Nat → Int32) → (Nat → Int32) → (Nat → Int64) → (Nat → Int64) → (Nat → Int32) → Prop) (hw_t_line : w_t 3 = .ref a_t_line) (hw_t_reader_text : w_t_reader 0 = .ref a_t_reader_text) (hf : w_LineReader_readKind i_t_line i_t_reader j_t_reader r_t_reader_text r_t_haltNames r_t_kindNames r_t_line_kinds Q) : CeI l yX4_readKind cX4_readKind 2 (some .boolean) 8 170 0 0 D k K [.ref a_t] (wd_LineReader_readKind k a_t d_t w_t i_t a_t_line d_t_line i_t_line w_t_reader i_t_reader j_t_reader a_t_reader_text r_t_reader_text r_t_haltNames r_t_kindNames r_t_line_kinds) (fun r w => (r = 0 ∨ r = 1) ∧ (∃ (i_t_line : Nat → Int32), ∃ (i_t_reader : Nat → Int32), ∃ (j_t_reader : Nat → Int64), ∃ (r_t_kindNames : Nat → Int64), ∃ (r_t_line_kinds : Nat → Int32), w = (wd_LineReader_readKind k a_t d_t w_t i_t a_t_line d_t_line i_t_line w_t_reader i_t_reader j_t_reader a_t_reader_text r_t_reader_text r_t_haltNames r_t_kindNames r_t_line_kinds) ∧ Q r i_t_line i_t_reader j_t_reader r_t_kindNames r_t_line_kinds)) := by
  refine CeI.of (by decide) (Nat.le_of_ble_eq_true rfl) ?_
  intro p e s m below meth c A F hr hlk hnm hA hE hB ls hl
  have hx := F.x
  have hb := F.b
  unfold w_LineReader_readKind at hf
  replace hl : lv_has ls 2 [(0, .ref a_t)] := hl
  refine lv_aload_n hx hb dX4_readKind_0 rfl (lv_at hl 0 rfl) ?_
  refine g_get (w := .ref a_t_line) F hB 0 rfl fl_RX4_29 hw_t_line dX4_readKind_1 ?_
  refine g_get (w := .int (i_t_line 7)) F hB 1 rfl fl_RX4_139 rfl dX4_readKind_4 ?_
  refine lv_istore_n (lv' := [(1, .int (i_t_line 7)), (0, .ref a_t)]) hx hb dX4_readKind_7 rfl hl (by decide) rfl (fun ls hl => ?_)
  refine lv_iload_n hx hb dX4_readKind_8 rfl (lv_at hl 0 rfl) ?_
  refine lv_bipush (v := 6) hx hb dX4_readKind_9 (by decide) ?_
  refine lv_icmp_lt (tgt := 23) hx hb dX4_readKind_11 (by decide) (fun c_28 => ?_) (fun c_28 => ?_)
  · replace hf := hf.1 c_28
    refine lv_aload_n hx hb dX4_readKind_23 rfl (lv_at hl 1 rfl) ?_
    refine ke_vi (wr := [((d_t_line 6), ai k 18 r_t_line_kinds)]) (rest := []) F hE hA hB (c_LineReader_nextNewName l D k K a_t d_t w_t i_t w_t_reader i_t_reader j_t_reader a_t_reader_text r_t_reader_text r_t_haltNames a_t_line d_t_line i_t_line r_t_kindNames _ hw_t_reader_text hw_t_line hf) ml_RX4_120 mv_yX4_nextNewName [0, 2, 3, 4, 1, 5] [6] rfl rfl (by decide) (by decide) (by decide) (rcv F hB 0 rfl rfl) rfl hl.1 rfl (Nat.le_of_ble_eq_true rfl) ⟨Nat.le_of_ble_eq_true rfl, Nat.le_of_ble_eq_true rfl⟩ ⟨Nat.le_of_ble_eq_true rfl, Nat.le_of_ble_eq_true rfl⟩ dX4_readKind_24 (fun z_3 w1 H locs hq hB => ?_)
    obtain ⟨h_4, i_t_reader_1, j_t_reader_2, rfl, hf⟩ := hq
    replace hB : Bd D A s.heap (wd_LineReader_readKind k a_t d_t w_t i_t a_t_line d_t_line i_t_line w_t_reader i_t_reader_1 j_t_reader_2 a_t_reader_text r_t_reader_text r_t_haltNames r_t_kindNames r_t_line_kinds) H locs := hB.sub [1, 5, 2, 3, 4, 6, 0] (by decide) rfl
    refine lv_if_ne (tgt := 32) hx hb dX4_readKind_27 (by decide) (fun c_24 => ?_) (fun c_24 => ?_)
    · replace hf := hf.1 c_24
      refine lv_aload_n hx hb dX4_readKind_32 rfl (lv_at hl 1 rfl) ?_
      refine g_get (w := .ref (d_t 2)) F hB 0 rfl fl_RX4_22 rfl dX4_readKind_33 ?_
      refine lv_iload_n hx hb dX4_readKind_36 rfl (lv_at hl 0 rfl) ?_
      refine lv_aload_n hx hb dX4_readKind_37 rfl (lv_at hl 1 rfl) ?_
      refine g_get (w := .ref (d_t 0)) F hB 0 rfl fl_RX4_12 rfl dX4_readKind_38 ?_
      refine g_get (w := .long (j_t_reader_2 7)) F hB 2 rfl fl_RX4_123 rfl dX4_readKind_41 ?_
      obtain ⟨h_5, hf⟩ := hf
      refine g_jast F hB 5 rfl h_5 (wd_LineReader_readKind k a_t d_t w_t i_t a_t_line d_t_line i_t_line w_t_reader i_t_reader_1 j_t_reader_2 a_t_reader_text r_t_reader_text r_t_haltNames (vp_updL r_t_kindNames ((i_t_line 7)).toNatClampNeg (j_t_reader_2 7)) r_t_line_kinds) rfl dX4_readKind_44 (fun H locs hB => ?_)
      refine lv_aload_n hx hb dX4_readKind_45 rfl (lv_at hl 1 rfl) ?_
      refine g_get (w := .ref (d_t 0)) F hB 0 rfl fl_RX4_12 rfl dX4_readKind_46 ?_
      refine lv_iconst (v := 1) hx hb dX4_readKind_49 (by decide) ?_
      refine lv_bipush (v := 9) hx hb dX4_readKind_50 (by decide) ?_
      refine k_vi (wr := [(a_t, ob 4 (vmx 4 d_t w_t) i_t j0), (a_t_line, ob 3 (rfd d_t_line) i_t_line j0), ((d_t 1), aj k 10 r_t_haltNames), ((d_t 2), aj k 6 (vp_updL r_t_kindNames ((i_t_line 7)).toNatClampNeg (j_t_reader_2 7))), ((d_t_line 6), ai k 18 r_t_line_kinds)]) (rest := []) F hA hB (c_Reader_nextNumber l D k (d_t 0) w_t_reader i_t_reader_1 j_t_reader_2 a_t_reader_text r_t_reader_text (1 : Int32) (9 : Int32) _ hw_t_reader_text hf) ml_RX4_107 mv_yX7_nextNumber [2, 3] [0, 1, 4, 5, 6] rfl rfl (by decide) (by decide) (by decide) 2 rfl rfl rfl hl.1 rfl (Nat.le_of_ble_eq_true rfl) ⟨Nat.le_of_ble_eq_true rfl, Nat.le_of_ble_eq_true rfl⟩ ⟨Nat.le_of_ble_eq_true rfl, Nat.le_of_ble_eq_true rfl⟩ dX4_readKind_52 (fun z_8 w1 H locs hq hB => ?_)
      obtain ⟨h_9, i_t_reader_6, j_t_reader_7, rfl, hf⟩ := hq
      replace hB : Bd D A s.heap (wd_LineReader_readKind k a_t d_t w_t i_t a_t_line d_t_line i_t_line w_t_reader i_t_reader_6 j_t_reader_7 a_t_reader_text r_t_reader_text r_t_haltNames (vp_updL r_t_kindNames ((i_t_line 7)).toNatClampNeg (j_t_reader_2 7)) r_t_line_kinds) H locs := hB.sub [0, 1, 5, 6, 2, 3, 4] (by decide) rfl
      refine lv_if_ne (tgt := 60) hx hb dX4_readKind_55 (by decide) (fun c_23 => ?_) (fun c_23 => ?_)
      · replace hf := hf.1 c_23
        refine lv_aload_n hx hb dX4_readKind_60 rfl (lv_at hl 1 rfl) ?_
        refine g_get (w := .ref a_t_line) F hB 0 rfl fl_RX4_29 hw_t_line dX4_readKind_61 ?_
        refine g_get (w := .ref (d_t_line 6)) F hB 1 rfl fl_RX4_142 rfl dX4_readKind_64 ?_
        refine lv_iconst (v := 3) hx hb dX4_readKind_67 (by decide) ?_
        refine lv_iload_n hx hb dX4_readKind_68 rfl (lv_at hl 0 rfl) ?_
        refine lv_imul hx hb dX4_readKind_69 ?_
        refine lv_aload_n hx hb dX4_readKind_70 rfl (lv_at hl 1 rfl) ?_
        refine g_get (w := .ref (d_t 0)) F hB 0 rfl fl_RX4_12 rfl dX4_readKind_71 ?_
        refine g_get (w := .int (i_t_reader_6 6)) F hB 2 rfl fl_RX4_104 rfl dX4_readKind_74 ?_
        obtain ⟨h_10, hf⟩ := hf
        refine g_iast F hB 6 rfl h_10 (wd_LineReader_readKind k a_t d_t w_t i_t a_t_line d_t_line i_t_line w_t_reader i_t_reader_6 j_t_reader_7 a_t_reader_text r_t_reader_text r_t_haltNames (vp_updL r_t_kindNames ((i_t_line 7)).toNatClampNeg (j_t_reader_2 7)) (upd r_t_line_kinds (((3 : Int32) * (i_t_line 7))).toNatClampNeg (i_t_reader_6 6))) rfl dX4_readKind_77 (fun H locs hB => ?_)
        refine lv_aload_n hx hb dX4_readKind_78 rfl (lv_at hl 1 rfl) ?_
        refine g_get (w := .ref (d_t 0)) F hB 0 rfl fl_RX4_12 rfl dX4_readKind_79 ?_
        refine lv_iconst (v := 1) hx hb dX4_readKind_82 (by decide) ?_
        refine lv_bipush (v := 99) hx hb dX4_readKind_83 (by decide) ?_
        refine k_vi (wr := [(a_t, ob 4 (vmx 4 d_t w_t) i_t j0), (a_t_line, ob 3 (rfd d_t_line) i_t_line j0), ((d_t 1), aj k 10 r_t_haltNames), ((d_t 2), aj k 6 (vp_updL r_t_kindNames ((i_t_line 7)).toNatClampNeg (j_t_reader_2 7))), ((d_t_line 6), ai k 18 (upd r_t_line_kinds (((3 : Int32) * (i_t_line 7))).toNatClampNeg (i_t_reader_6 6)))]) (rest := []) F hA hB (c_Reader_nextNumber l D k (d_t 0) w_t_reader i_t_reader_6 j_t_reader_7 a_t_reader_text r_t_reader_text (1 : Int32) (99 : Int32) _ hw_t_reader_text hf) ml_RX4_107 mv_yX7_nextNumber [2, 3] [0, 1, 4, 5, 6] rfl rfl (by decide) (by decide) (by decide) 2 rfl rfl rfl hl.1 rfl (Nat.le_of_ble_eq_true rfl) ⟨Nat.le_of_ble_eq_true rfl, Nat.le_of_ble_eq_true rfl⟩ ⟨Nat.le_of_ble_eq_true rfl, Nat.le_of_ble_eq_true rfl⟩ dX4_readKind_85 (fun z_13 w1 H locs hq hB => ?_)
        obtain ⟨h_14, i_t_reader_11, j_t_reader_12, rfl, hf⟩ := hq
        replace hB : Bd D A s.heap (wd_LineReader_readKind k a_t d_t w_t i_t a_t_line d_t_line i_t_line w_t_reader i_t_reader_11 j_t_reader_12 a_t_reader_text r_t_reader_text r_t_haltNames (vp_updL r_t_kindNames ((i_t_line 7)).toNatClampNeg (j_t_reader_2 7)) (upd r_t_line_kinds (((3 : Int32) * (i_t_line 7))).toNatClampNeg (i_t_reader_6 6))) H locs := hB.sub [0, 1, 5, 6, 2, 3, 4] (by decide) rfl
        refine lv_if_ne (tgt := 93) hx hb dX4_readKind_88 (by decide) (fun c_22 => ?_) (fun c_22 => ?_)
        · replace hf := hf.1 c_22
          refine lv_aload_n hx hb dX4_readKind_93 rfl (lv_at hl 1 rfl) ?_
          refine g_get (w := .ref a_t_line) F hB 0 rfl fl_RX4_29 hw_t_line dX4_readKind_94 ?_
          refine g_get (w := .ref (d_t_line 6)) F hB 1 rfl fl_RX4_142 rfl dX4_readKind_97 ?_
          refine lv_iconst (v := 3) hx hb dX4_readKind_100 (by decide) ?_
          refine lv_iload_n hx hb dX4_readKind_101 rfl (lv_at hl 0 rfl) ?_
          refine lv_imul hx hb dX4_readKind_102 ?_
          refine lv_iconst (v := 1) hx hb dX4_readKind_103 (by decide) ?_
          refine lv_iadd hx hb dX4_readKind_104 ?_
          refine lv_aload_n hx hb dX4_readKind_105 rfl (lv_at hl 1 rfl) ?_
          refine g_get (w := .ref (d_t 0)) F hB 0 rfl fl_RX4_12 rfl dX4_readKind_106 ?_
          refine g_get (w := .int (i_t_reader_11 6)) F hB 2 rfl fl_RX4_104 rfl dX4_readKind_109 ?_
          obtain ⟨h_15, hf⟩ := hf
          refine g_iast F hB 6 rfl h_15 (wd_LineReader_readKind k a_t d_t w_t i_t a_t_line d_t_line i_t_line w_t_reader i_t_reader_11 j_t_reader_12 a_t_reader_text r_t_reader_text r_t_haltNames (vp_updL r_t_kindNames ((i_t_line 7)).toNatClampNeg (j_t_reader_2 7)) (upd (upd r_t_line_kinds (((3 : Int32) * (i_t_line 7))).toNatClampNeg (i_t_reader_6 6)) ((((3 : Int32) * (i_t_line 7)) + (1 : Int32))).toNatClampNeg (i_t_reader_11 6))) rfl dX4_readKind_112 (fun H locs hB => ?_)
          refine lv_aload_n hx hb dX4_readKind_113 rfl (lv_at hl 1 rfl) ?_
          refine g_get (w := .ref (d_t 0)) F hB 0 rfl fl_RX4_12 rfl dX4_readKind_114 ?_
          refine lv_iconst (v := 1) hx hb dX4_readKind_117 (by decide) ?_
          refine lv_sipush (v := 999) hx hb dX4_readKind_118 (by decide) ?_
          refine k_vi (wr := [(a_t, ob 4 (vmx 4 d_t w_t) i_t j0), (a_t_line, ob 3 (rfd d_t_line) i_t_line j0), ((d_t 1), aj k 10 r_t_haltNames), ((d_t 2), aj k 6 (vp_updL r_t_kindNames ((i_t_line 7)).toNatClampNeg (j_t_reader_2 7))), ((d_t_line 6), ai k 18 (upd (upd r_t_line_kinds (((3 : Int32) * (i_t_line 7))).toNatClampNeg (i_t_reader_6 6)) ((((3 : Int32) * (i_t_line 7)) + (1 : Int32))).toNatClampNeg (i_t_reader_11 6)))]) (rest := []) F hA hB (c_Reader_nextNumber l D k (d_t 0) w_t_reader i_t_reader_11 j_t_reader_12 a_t_reader_text r_t_reader_text (1 : Int32) (999 : Int32) _ hw_t_reader_text hf) ml_RX4_107 mv_yX7_nextNumber [2, 3] [0, 1, 4, 5, 6] rfl rfl (by decide) (by decide) (by decide) 2 rfl rfl rfl hl.1 rfl (Nat.le_of_ble_eq_true rfl) ⟨Nat.le_of_ble_eq_true rfl, Nat.le_of_ble_eq_true rfl⟩ ⟨Nat.le_of_ble_eq_true rfl, Nat.le_of_ble_eq_true rfl⟩ dX4_readKind_121 (fun z_18 w1 H locs hq hB => ?_)
          obtain ⟨h_19, i_t_reader_16, j_t_reader_17, rfl, hf⟩ := hq
          replace hB : Bd D A s.heap (wd_LineReader_readKind k a_t d_t w_t i_t a_t_line d_t_line i_t_line w_t_reader i_t_reader_16 j_t_reader_17 a_t_reader_text r_t_reader_text r_t_haltNames (vp_updL r_t_kindNames ((i_t_line 7)).toNatClampNeg (j_t_reader_2 7)) (upd (upd r_t_line_kinds (((3 : Int32) * (i_t_line 7))).toNatClampNeg (i_t_reader_6 6)) ((((3 : Int32) * (i_t_line 7)) + (1 : Int32))).toNatClampNeg (i_t_reader_11 6))) H locs := hB.sub [0, 1, 5, 6, 2, 3, 4] (by decide) rfl
          refine lv_if_ne (tgt := 129) hx hb dX4_readKind_124 (by decide) (fun c_21 => ?_) (fun c_21 => ?_)
          · replace hf := hf.1 c_21
            refine lv_aload_n hx hb dX4_readKind_129 rfl (lv_at hl 1 rfl) ?_
            refine g_get (w := .ref a_t_line) F hB 0 rfl fl_RX4_29 hw_t_line dX4_readKind_130 ?_
            refine g_get (w := .ref (d_t_line 6)) F hB 1 rfl fl_RX4_142 rfl dX4_readKind_133 ?_
            refine lv_iconst (v := 3) hx hb dX4_readKind_136 (by decide) ?_
            refine lv_iload_n hx hb dX4_readKind_137 rfl (lv_at hl 0 rfl) ?_
            refine lv_imul hx hb dX4_readKind_138 ?_
            refine lv_iconst (v := 2) hx hb dX4_readKind_139 (by decide) ?_
            refine lv_iadd hx hb dX4_readKind_140 ?_
            refine lv_aload_n hx hb dX4_readKind_141 rfl (lv_at hl 1 rfl) ?_
            refine g_get (w := .ref (d_t 0)) F hB 0 rfl fl_RX4_12 rfl dX4_readKind_142 ?_
            refine g_get (w := .int (i_t_reader_16 6)) F hB 2 rfl fl_RX4_104 rfl dX4_readKind_145 ?_
            obtain ⟨h_20, hf⟩ := hf
            refine g_iast F hB 6 rfl h_20 (wd_LineReader_readKind k a_t d_t w_t i_t a_t_line d_t_line i_t_line w_t_reader i_t_reader_16 j_t_reader_17 a_t_reader_text r_t_reader_text r_t_haltNames (vp_updL r_t_kindNames ((i_t_line 7)).toNatClampNeg (j_t_reader_2 7)) (upd (upd (upd r_t_line_kinds (((3 : Int32) * (i_t_line 7))).toNatClampNeg (i_t_reader_6 6)) ((((3 : Int32) * (i_t_line 7)) + (1 : Int32))).toNatClampNeg (i_t_reader_11 6)) ((((3 : Int32) * (i_t_line 7)) + (2 : Int32))).toNatClampNeg (i_t_reader_16 6))) rfl dX4_readKind_148 (fun H locs hB => ?_)
            refine lv_aload_n hx hb dX4_readKind_149 rfl (lv_at hl 1 rfl) ?_
            refine g_get (w := .ref a_t_line) F hB 0 rfl fl_RX4_29 hw_t_line dX4_readKind_150 ?_
            refine lv_dup hx hb dX4_readKind_153 rfl ?_
            refine g_get (w := .int (i_t_line 7)) F hB 1 rfl fl_RX4_139 rfl dX4_readKind_154 ?_
            refine lv_iconst (v := 1) hx hb dX4_readKind_157 (by decide) ?_
            refine lv_iadd hx hb dX4_readKind_158 ?_
            refine g_puti F hB 1 rfl fl_RX4_139 rfl (wd_LineReader_readKind k a_t d_t w_t i_t a_t_line d_t_line (upd i_t_line 7 ((i_t_line 7) + (1 : Int32))) w_t_reader i_t_reader_16 j_t_reader_17 a_t_reader_text r_t_reader_text r_t_haltNames (vp_updL r_t_kindNames ((i_t_line 7)).toNatClampNeg (j_t_reader_2 7)) (upd (upd (upd r_t_line_kinds (((3 : Int32) * (i_t_line 7))).toNatClampNeg (i_t_reader_6 6)) ((((3 : Int32) * (i_t_line 7)) + (1 : Int32))).toNatClampNeg (i_t_reader_11 6)) ((((3 : Int32) * (i_t_line 7)) + (2 : Int32))).toNatClampNeg (i_t_reader_16 6))) rfl dX4_readKind_159 (fun H locs hB => ?_)
            refine lv_iconst (v := 1) hx hb dX4_readKind_162 (by decide) ?_
            exact r_z F hr hlk hB (Or.inr rfl) ⟨Or.inr rfl, _, _, _, _, _, rfl, hf⟩ dX4_readKind_163
          · replace hf := hf.2 c_21
            refine lv_iconst (v := 0) hx hb dX4_readKind_127 (by decide) ?_
            exact r_z F hr hlk hB (Or.inl rfl) ⟨Or.inl rfl, _, _, _, _, _, rfl, hf⟩ dX4_readKind_128
        · replace hf := hf.2 c_22
          refine lv_iconst (v := 0) hx hb dX4_readKind_91 (by decide) ?_
          exact r_z F hr hlk hB (Or.inl rfl) ⟨Or.inl rfl, _, _, _, _, _, rfl, hf⟩ dX4_readKind_92
      · replace hf := hf.2 c_23
        refine lv_iconst (v := 0) hx hb dX4_readKind_58 (by decide) ?_
        exact r_z F hr hlk hB (Or.inl rfl) ⟨Or.inl rfl, _, _, _, _, _, rfl, hf⟩ dX4_readKind_59
    · replace hf := hf.2 c_24
      refine lv_iconst (v := 0) hx hb dX4_readKind_30 (by decide) ?_
      exact r_z F hr hlk hB (Or.inl rfl) ⟨Or.inl rfl, _, _, _, _, _, rfl, hf⟩ dX4_readKind_31
  · replace hf := hf.2 c_28
    refine lv_aload_n hx hb dX4_readKind_14 rfl (lv_at hl 1 rfl) ?_
    refine g_get (w := .ref (d_t 0)) F hB 0 rfl fl_RX4_12 rfl dX4_readKind_15 ?_
    refine lv_iconst (v := 4) hx hb dX4_readKind_18 (by decide) ?_
    refine k_vi (wr := [(a_t, ob 4 (vmx 4 d_t w_t) i_t j0), (a_t_line, ob 3 (rfd d_t_line) i_t_line j0), (a_t_reader_text, ai k 940 r_t_reader_text), ((d_t 1), aj k 10 r_t_haltNames), ((d_t 2), aj k 6 r_t_kindNames), ((d_t_line 6), ai k 18 r_t_line_kinds)]) (rest := []) F hA hB (c_Reader_failHere l D k (d_t 0) w_t_reader i_t_reader j_t_reader (4 : Int32) _  hf) ml_RX4_94 mv_yX7_failHere [2] [0, 1, 3, 4, 5, 6] rfl rfl (by decide) (by decide) (by decide) 2 rfl rfl rfl hl.1 rfl (Nat.le_of_ble_eq_true rfl) ⟨Nat.le_of_ble_eq_true rfl, Nat.le_of_ble_eq_true rfl⟩ ⟨Nat.le_of_ble_eq_true rfl, Nat.le_of_ble_eq_true rfl⟩ dX4_readKind_19 (fun z_26 w1 H locs hq hB => ?_)
    obtain ⟨h_27, i_t_reader_25, rfl, hf⟩ := hq
    replace hB : Bd D A s.heap (wd_LineReader_readKind k a_t d_t w_t i_t a_t_line d_t_line i_t_line w_t_reader i_t_reader_25 j_t_reader a_t_reader_text r_t_reader_text r_t_haltNames r_t_kindNames r_t_line_kinds) H locs := hB.sub [0, 1, 6, 2, 3, 4, 5] (by decide) rfl
    exact r_z F hr hlk hB (h_27) ⟨h_27, _, _, _, _, _, rfl, hf⟩ dX4_readKind_22

/-! LongTrain.LineReader.readTrain -/
set_option maxRecDepth 100000 in
set_option maxHeartbeats 4000000 in
theorem jt_LineReader_readTrain_32 {p : Program} {l : Launch} {e : Env} {s : State} {m : MethodId} {below : List Frame} {meth : Method} {c : Code} {A : Nat → Prop} {D : va_G} {k : Nat → ClassId}  {K : Nat → Nat} {a_t : Nat} {d_t : Nat → Nat} {w_t : Nat → Value} {i_t : Nat → Int32} {w_t_reader : Nat → Value} {a_t_reader_text : Nat} {r_t_reader_text : Nat → Int32} {r_t_kindNames : Nat → Int64} {a_t_line : Nat} {d_t_line : Nat → Nat}  {Q : Int32 → (Nat → Int32) → (Nat → Int64) → (Nat → Int32) → (Nat → Int32) → Prop} (hw_t_reader_text : w_t_reader 0 = .ref a_t_reader_text) (hw_t_line : w_t 3 = .ref a_t_line) {kr_9 : (Int32) → (Nat → Int32) → (Nat → Int64) → (Nat → Int32) → (Nat → Int32) → Prop} (F : Fx p m c cX4_readTrain 3 s ([.ref a_t] : List Value).toArray RX4 D k) (hr : meth.sig.returnType = (some .boolean)) (hlk : meth.locks = false) (hA : ∀ q : Nat, s.heap.size ≤ q → A q) (hE : Am K A s s.heap) (hkr_9 : ∀ (x1 : Int32) (i_t_reader : Nat → Int32) (j_t_reader : Nat → Int64) (i_t_line : Nat → Int32) (r_t_line_first : Nat → Int32) (H : Heap) (locs : List Loc) (ls : Array Slot), kr_9 x1 i_t_reader j_t_reader i_t_line r_t_line_first → Bd D A s.heap (wd_LineReader_readTrain k a_t d_t w_t i_t w_t_reader i_t_reader j_t_reader a_t_reader_text r_t_reader_text r_t_kindNames a_t_line d_t_line i_t_line r_t_line_first) H locs → lv_has ls 3 [(0, .ref a_t), (1, .int x1)] → W p l e { frames := 7, cells := 0, slots := 0, locals := 149 } s m ([.ref a_t] : List Value).toArray below meth c H locs 0 0 (Ei below (fun r w => (r = 0 ∨ r = 1) ∧ (∃ (i_t_reader : Nat → Int32), ∃ (j_t_reader : Nat → Int64), ∃ (i_t_line : Nat → Int32), ∃ (r_t_line_first : Nat → Int32), w = (wd_LineReader_readTrain k a_t d_t w_t i_t w_t_reader i_t_reader j_t_reader a_t_reader_text r_t_reader_text r_t_kindNames a_t_line d_t_line i_t_line r_t_line_first) ∧ Q r i_t_reader j_t_reader i_t_line r_t_line_first)) D k A ([.ref a_t] : List Value).toArray s 0 0) (F0 m 9 ls [])) :
    ∀ (i_t_reader : Nat → Int32) (j_t_reader : Nat → Int64) (i_t_line : Nat → Int32) (r_t_line_first : Nat → Int32) (x1 : Int32) (H : Heap) (locs : List Loc) (ls : Array Slot), j_LineReader_readTrain_32 i_t_reader j_t_reader r_t_reader_text r_t_kindNames i_t_line r_t_line_first x1 Q kr_9 → Bd D A s.heap (wd_LineReader_readTrain k a_t d_t w_t i_t w_t_reader i_t_reader j_t_reader a_t_reader_text r_t_reader_text r_t_kindNames a_t_line d_t_line i_t_line r_t_line_first) H locs → lv_has ls 3 [(0, .ref a_t), (1, .int x1)] → W p l e { frames := 7, cells := 0, slots := 0, locals := 149 } s m ([.ref a_t] : List Value).toArray below meth c H locs 0 0 (Ei below (fun r w => (r = 0 ∨ r = 1) ∧ (∃ (i_t_reader : Nat → Int32), ∃ (j_t_reader : Nat → Int64), ∃ (i_t_line : Nat → Int32), ∃ (r_t_line_first : Nat → Int32), w = (wd_LineReader_readTrain k a_t d_t w_t i_t w_t_reader i_t_reader j_t_reader a_t_reader_text r_t_reader_text r_t_kindNames a_t_line d_t_line i_t_line r_t_line_first) ∧ Q r i_t_reader j_t_reader i_t_line r_t_line_first)) D k A ([.ref a_t] : List Value).toArray s 0 0) (F0 m 32 ls []) := by
  have hx := F.x
  have hb := F.b
  intro i_t_reader j_t_reader i_t_line r_t_line_first x1 H locs ls hf hB hl
  unfold j_LineReader_readTrain_32 at hf
  refine lv_aload_n hx hb dX4_readTrain_32 rfl (lv_at hl 0 rfl) ?_
  refine g_get (w := .ref (d_t 0)) F hB 0 rfl fl_RX4_12 rfl dX4_readTrain_33 ?_
  refine ke_vi (wr := [(a_t, ob 4 (vmx 4 d_t w_t) i_t j0), ((d_t 2), aj k 6 r_t_kindNames), (a_t_line, ob 3 (rfd d_t_line) i_t_line j0), ((d_t_line 8), ai k 8 r_t_line_first)]) (rest := []) F hE hA hB (c_Reader_isName l D k K (d_t 0) w_t_reader i_t_reader j_t_reader a_t_reader_text r_t_reader_text _ hw_t_reader_text hf) ml_RX4_176 mv_yX7_isName [1, 2] [0, 3, 4, 5] rfl rfl (by decide) (by decide) (by decide) (rcv F hB 1 rfl rfl) rfl hl.1 rfl (Nat.le_of_ble_eq_true rfl) ⟨Nat.le_of_ble_eq_true rfl, Nat.le_of_ble_eq_true rfl⟩ ⟨Nat.le_of_ble_eq_true rfl, Nat.le_of_ble_eq_true rfl⟩ dX4_readTrain_36 (fun z_4 w1 H locs hq hB => ?_)
  obtain ⟨h_5, i_t_reader_3, rfl, hf⟩ := hq
  replace hB : Bd D A s.heap (wd_LineReader_readTrain k a_t d_t w_t i_t w_t_reader i_t_reader_3 j_t_reader a_t_reader_text r_t_reader_text r_t_kindNames a_t_line d_t_line i_t_line r_t_line_first) H locs := hB.sub [0, 4, 5, 1, 2, 3] (by decide) rfl
  refine lv_if_ne (tgt := 44) hx hb dX4_readTrain_39 (by decide) (fun c_18 => ?_) (fun c_18 => ?_)
  · replace hf := hf.1 c_18
    refine lv_aload_n hx hb dX4_readTrain_44 rfl (lv_at hl 0 rfl) ?_
    refine lv_aload_n hx hb dX4_readTrain_45 rfl (lv_at hl 0 rfl) ?_
    refine g_get (w := .ref (d_t 0)) F hB 0 rfl fl_RX4_12 rfl dX4_readTrain_46 ?_
    refine g_get (w := .long (j_t_reader 7)) F hB 1 rfl fl_RX4_123 rfl dX4_readTrain_49 ?_
    refine k_vi (wr := [((d_t 0), ob 7 (vmx 7 d0 w_t_reader) i_t_reader_3 j_t_reader), (a_t_reader_text, ai k 940 r_t_reader_text), ((d_t_line 8), ai k 8 r_t_line_first)]) (rest := []) F hA hB (c_LineReader_kindNamed l D k a_t d_t w_t i_t r_t_kindNames a_t_line d_t_line i_t_line (j_t_reader 7) _ hw_t_line hf) ml_RX4_155 mv_yX4_kindNamed [0, 3, 4] [1, 2, 5] rfl rfl (by decide) (by decide) (by decide) 0 rfl rfl rfl hl.1 rfl (Nat.le_of_ble_eq_true rfl) ⟨Nat.le_of_ble_eq_true rfl, Nat.le_of_ble_eq_true rfl⟩ ⟨Nat.le_of_ble_eq_true rfl, Nat.le_of_ble_eq_true rfl⟩ dX4_readTrain_52 (fun z_6 w1 H locs hq hB => ?_)
    obtain ⟨rfl, hf⟩ := hq
    replace hB : Bd D A s.heap (wd_LineReader_readTrain k a_t d_t w_t i_t w_t_reader i_t_reader_3 j_t_reader a_t_reader_text r_t_reader_text r_t_kindNames a_t_line d_t_line i_t_line r_t_line_first) H locs := hB.sub [3, 0, 1, 4, 5, 2] (by decide) rfl
    refine lv_istore_n (lv' := [(2, .int z_6), (0, .ref a_t), (1, .int x1)]) hx hb dX4_readTrain_55 rfl hl (by decide) rfl (fun ls hl => ?_)
    refine lv_iload_n hx hb dX4_readTrain_56 rfl (lv_at hl 0 rfl) ?_
    refine lv_iconst (v := -1) hx hb dX4_readTrain_57 (by decide) ?_
    refine lv_icmp_ne (tgt := 70) hx hb dX4_readTrain_58 (by decide) (fun c_17 => ?_) (fun c_17 => ?_)
    · replace hf := hf.1 c_17
      refine lv_iload_n hx hb dX4_readTrain_70 rfl (lv_at hl 2 rfl) ?_
      refine lv_bipush (v := 8) hx hb dX4_readTrain_71 (by decide) ?_
      refine lv_icmp_ne (tgt := 85) hx hb dX4_readTrain_73 (by decide) (fun c_13 => ?_) (fun c_13 => ?_)
      · replace hf := hf.1 c_13
        refine lv_aload_n hx hb dX4_readTrain_85 rfl (lv_at hl 1 rfl) ?_
        refine g_get (w := .ref a_t_line) F hB 0 rfl fl_RX4_29 hw_t_line dX4_readTrain_86 ?_
        refine g_get (w := .ref (d_t_line 8)) F hB 4 rfl fl_RX4_179 rfl dX4_readTrain_89 ?_
        refine lv_iload_n hx hb dX4_readTrain_92 rfl (lv_at hl 2 rfl) ?_
        refine lv_iload_n hx hb dX4_readTrain_93 rfl (lv_at hl 0 rfl) ?_
        obtain ⟨h_7, hf⟩ := hf
        refine g_iast F hB 5 rfl h_7 (wd_LineReader_readTrain k a_t d_t w_t i_t w_t_reader i_t_reader_3 j_t_reader a_t_reader_text r_t_reader_text r_t_kindNames a_t_line d_t_line i_t_line (upd r_t_line_first (x1).toNatClampNeg z_6)) rfl dX4_readTrain_94 (fun H locs hB => ?_)
        refine lv_aload_n hx hb dX4_readTrain_95 rfl (lv_at hl 1 rfl) ?_
        refine g_get (w := .ref a_t_line) F hB 0 rfl fl_RX4_29 hw_t_line dX4_readTrain_96 ?_
        refine lv_iload_n hx hb dX4_readTrain_99 rfl (lv_at hl 2 rfl) ?_
        refine lv_iconst (v := 1) hx hb dX4_readTrain_100 (by decide) ?_
        refine lv_iadd hx hb dX4_readTrain_101 ?_
        refine g_puti F hB 4 rfl fl_RX4_182 rfl (wd_LineReader_readTrain k a_t d_t w_t i_t w_t_reader i_t_reader_3 j_t_reader a_t_reader_text r_t_reader_text r_t_kindNames a_t_line d_t_line (upd i_t_line 9 (x1 + (1 : Int32))) (upd r_t_line_first (x1).toNatClampNeg z_6)) rfl dX4_readTrain_102 (fun H locs hB => ?_)
        refine lv_aload_n hx hb dX4_readTrain_105 rfl (lv_at hl 1 rfl) ?_
        refine g_get (w := .ref (d_t 0)) F hB 0 rfl fl_RX4_12 rfl dX4_readTrain_106 ?_
        refine k_vv (wr := [(a_t, ob 4 (vmx 4 d_t w_t) i_t j0), ((d_t 2), aj k 6 r_t_kindNames), (a_t_line, ob 3 (rfd d_t_line) (upd i_t_line 9 (x1 + (1 : Int32))) j0), ((d_t_line 8), ai k 8 (upd r_t_line_first (x1).toNatClampNeg z_6))]) (rest := []) F hA hB (c_Reader_advance l D k (d_t 0) w_t_reader i_t_reader_3 j_t_reader a_t_reader_text r_t_reader_text _ hw_t_reader_text hf) ml_RX4_45 mv_yX7_advance [1, 2] [0, 3, 4, 5] rfl rfl (by decide) (by decide) (by decide) 1 rfl rfl rfl hl.1 rfl (Nat.le_of_ble_eq_true rfl) ⟨Nat.le_of_ble_eq_true rfl, Nat.le_of_ble_eq_true rfl⟩ ⟨Nat.le_of_ble_eq_true rfl, Nat.le_of_ble_eq_true rfl⟩ dX4_readTrain_109 (fun w1 H locs hq hB => ?_)
        obtain ⟨i_t_reader_8, j_t_reader_9, rfl, hf⟩ := hq
        replace hB : Bd D A s.heap (wd_LineReader_readTrain k a_t d_t w_t i_t w_t_reader i_t_reader_8 j_t_reader_9 a_t_reader_text r_t_reader_text r_t_kindNames a_t_line d_t_line (upd i_t_line 9 (x1 + (1 : Int32))) (upd r_t_line_first (x1).toNatClampNeg z_6)) H locs := hB.sub [0, 4, 5, 1, 2, 3] (by decide) rfl
        refine lv_iinc (v := (x1 + 1)) (lv' := [(1, .int (x1 + 1)), (2, .int z_6), (0, .ref a_t)]) (k := 2) hx hb dX4_readTrain_112 hl rfl rfl (by decide) rfl (fun ls hl => ?_)
        refine lv_goto (tgt := 9) hx hb dX4_readTrain_115 (by decide) ?_
        exact hkr_9 _ _ _ _ _ _ _ _ hf hB (lv_sub hl [2, 0] rfl)
      · replace hf := hf.2 c_13
        refine lv_aload_n hx hb dX4_readTrain_76 rfl (lv_at hl 1 rfl) ?_
        refine g_get (w := .ref (d_t 0)) F hB 0 rfl fl_RX4_12 rfl dX4_readTrain_77 ?_
        refine lv_iconst (v := 4) hx hb dX4_readTrain_80 (by decide) ?_
        refine k_vi (wr := [(a_t, ob 4 (vmx 4 d_t w_t) i_t j0), (a_t_reader_text, ai k 940 r_t_reader_text), ((d_t 2), aj k 6 r_t_kindNames), (a_t_line, ob 3 (rfd d_t_line) i_t_line j0), ((d_t_line 8), ai k 8 r_t_line_first)]) (rest := []) F hA hB (c_Reader_failHere l D k (d_t 0) w_t_reader i_t_reader_3 j_t_reader (4 : Int32) _  hf) ml_RX4_94 mv_yX7_failHere [1] [0, 2, 3, 4, 5] rfl rfl (by decide) (by decide) (by decide) 1 rfl rfl rfl hl.1 rfl (Nat.le_of_ble_eq_true rfl) ⟨Nat.le_of_ble_eq_true rfl, Nat.le_of_ble_eq_true rfl⟩ ⟨Nat.le_of_ble_eq_true rfl, Nat.le_of_ble_eq_true rfl⟩ dX4_readTrain_81 (fun z_11 w1 H locs hq hB => ?_)
        obtain ⟨h_12, i_t_reader_10, rfl, hf⟩ := hq
        replace hB : Bd D A s.heap (wd_LineReader_readTrain k a_t d_t w_t i_t w_t_reader i_t_reader_10 j_t_reader a_t_reader_text r_t_reader_text r_t_kindNames a_t_line d_t_line i_t_line r_t_line_first) H locs := hB.sub [0, 5, 1, 2, 3, 4] (by decide) rfl
        exact r_z F hr hlk hB (h_12) ⟨h_12, _, _, _, _, rfl, hf⟩ dX4_readTrain_84
    · replace hf := hf.2 c_17
      refine lv_aload_n hx hb dX4_readTrain_61 rfl (lv_at hl 1 rfl) ?_
      refine g_get (w := .ref (d_t 0)) F hB 0 rfl fl_RX4_12 rfl dX4_readTrain_62 ?_
      refine lv_iconst (v := 3) hx hb dX4_readTrain_65 (by decide) ?_
      refine k_vi (wr := [(a_t, ob 4 (vmx 4 d_t w_t) i_t j0), (a_t_reader_text, ai k 940 r_t_reader_text), ((d_t 2), aj k 6 r_t_kindNames), (a_t_line, ob 3 (rfd d_t_line) i_t_line j0), ((d_t_line 8), ai k 8 r_t_line_first)]) (rest := []) F hA hB (c_Reader_failHere l D k (d_t 0) w_t_reader i_t_reader_3 j_t_reader (3 : Int32) _  hf) ml_RX4_94 mv_yX7_failHere [1] [0, 2, 3, 4, 5] rfl rfl (by decide) (by decide) (by decide) 1 rfl rfl rfl hl.1 rfl (Nat.le_of_ble_eq_true rfl) ⟨Nat.le_of_ble_eq_true rfl, Nat.le_of_ble_eq_true rfl⟩ ⟨Nat.le_of_ble_eq_true rfl, Nat.le_of_ble_eq_true rfl⟩ dX4_readTrain_66 (fun z_15 w1 H locs hq hB => ?_)
      obtain ⟨h_16, i_t_reader_14, rfl, hf⟩ := hq
      replace hB : Bd D A s.heap (wd_LineReader_readTrain k a_t d_t w_t i_t w_t_reader i_t_reader_14 j_t_reader a_t_reader_text r_t_reader_text r_t_kindNames a_t_line d_t_line i_t_line r_t_line_first) H locs := hB.sub [0, 5, 1, 2, 3, 4] (by decide) rfl
      exact r_z F hr hlk hB (h_16) ⟨h_16, _, _, _, _, rfl, hf⟩ dX4_readTrain_69
  · replace hf := hf.2 c_18
    refine lv_iconst (v := 0) hx hb dX4_readTrain_42 (by decide) ?_
    exact r_z F hr hlk hB (Or.inl rfl) ⟨Or.inl rfl, _, _, _, _, rfl, hf⟩ dX4_readTrain_43

set_option maxRecDepth 100000 in
set_option maxHeartbeats 4000000 in
theorem bt_LineReader_readTrain_9 {p : Program} {l : Launch} {e : Env} {s : State} {m : MethodId} {below : List Frame} {meth : Method} {c : Code} {A : Nat → Prop} {D : va_G} {k : Nat → ClassId}  {K : Nat → Nat} {a_t : Nat} {d_t : Nat → Nat} {w_t : Nat → Value} {i_t : Nat → Int32} {w_t_reader : Nat → Value} {a_t_reader_text : Nat} {r_t_reader_text : Nat → Int32} {r_t_kindNames : Nat → Int64} {a_t_line : Nat} {d_t_line : Nat → Nat}  {Q : Int32 → (Nat → Int32) → (Nat → Int64) → (Nat → Int32) → (Nat → Int32) → Prop} (hw_t_reader_text : w_t_reader 0 = .ref a_t_reader_text) (hw_t_line : w_t 3 = .ref a_t_line) {kx_9 : (Nat → Int32) → (Nat → Int64) → (Nat → Int32) → (Nat → Int32) → Prop} {kr_9 : (Int32) → (Nat → Int32) → (Nat → Int64) → (Nat → Int32) → (Nat → Int32) → Prop} (F : Fx p m c cX4_readTrain 3 s ([.ref a_t] : List Value).toArray RX4 D k) (hr : meth.sig.returnType = (some .boolean)) (hlk : meth.locks = false) (hA : ∀ q : Nat, s.heap.size ≤ q → A q) (hE : Am K A s s.heap) (hkx_9 : ∀ (i_t_reader : Nat → Int32) (j_t_reader : Nat → Int64) (i_t_line : Nat → Int32) (r_t_line_first : Nat → Int32) (H : Heap) (locs : List Loc) (ls : Array Slot), kx_9 i_t_reader j_t_reader i_t_line r_t_line_first → Bd D A s.heap (wd_LineReader_readTrain k a_t d_t w_t i_t w_t_reader i_t_reader j_t_reader a_t_reader_text r_t_reader_text r_t_kindNames a_t_line d_t_line i_t_line r_t_line_first) H locs → lv_has ls 3 [] → W p l e { frames := 7, cells := 0, slots := 0, locals := 149 } s m ([.ref a_t] : List Value).toArray below meth c H locs 0 0 (Ei below (fun r w => (r = 0 ∨ r = 1) ∧ (∃ (i_t_reader : Nat → Int32), ∃ (j_t_reader : Nat → Int64), ∃ (i_t_line : Nat → Int32), ∃ (r_t_line_first : Nat → Int32), w = (wd_LineReader_readTrain k a_t d_t w_t i_t w_t_reader i_t_reader j_t_reader a_t_reader_text r_t_reader_text r_t_kindNames a_t_line d_t_line i_t_line r_t_line_first) ∧ Q r i_t_reader j_t_reader i_t_line r_t_line_first)) D k A ([.ref a_t] : List Value).toArray s 0 0) (F0 m 118 ls [])) (hkr_9 : ∀ (x1 : Int32) (i_t_reader : Nat → Int32) (j_t_reader : Nat → Int64) (i_t_line : Nat → Int32) (r_t_line_first : Nat → Int32) (H : Heap) (locs : List Loc) (ls : Array Slot), kr_9 x1 i_t_reader j_t_reader i_t_line r_t_line_first → Bd D A s.heap (wd_LineReader_readTrain k a_t d_t w_t i_t w_t_reader i_t_reader j_t_reader a_t_reader_text r_t_reader_text r_t_kindNames a_t_line d_t_line i_t_line r_t_line_first) H locs → lv_has ls 3 [(0, .ref a_t), (1, .int x1)] → W p l e { frames := 7, cells := 0, slots := 0, locals := 149 } s m ([.ref a_t] : List Value).toArray below meth c H locs 0 0 (Ei below (fun r w => (r = 0 ∨ r = 1) ∧ (∃ (i_t_reader : Nat → Int32), ∃ (j_t_reader : Nat → Int64), ∃ (i_t_line : Nat → Int32), ∃ (r_t_line_first : Nat → Int32), w = (wd_LineReader_readTrain k a_t d_t w_t i_t w_t_reader i_t_reader j_t_reader a_t_reader_text r_t_reader_text r_t_kindNames a_t_line d_t_line i_t_line r_t_line_first) ∧ Q r i_t_reader j_t_reader i_t_line r_t_line_first)) D k A ([.ref a_t] : List Value).toArray s 0 0) (F0 m 9 ls [])) :
    ∀ (x1 : Int32) (i_t_reader : Nat → Int32) (j_t_reader : Nat → Int64) (i_t_line : Nat → Int32) (r_t_line_first : Nat → Int32) (H : Heap) (locs : List Loc) (ls : Array Slot), b_LineReader_readTrain_9 r_t_reader_text r_t_kindNames Q kx_9 kr_9 x1 i_t_reader j_t_reader i_t_line r_t_line_first → Bd D A s.heap (wd_LineReader_readTrain k a_t d_t w_t i_t w_t_reader i_t_reader j_t_reader a_t_reader_text r_t_reader_text r_t_kindNames a_t_line d_t_line i_t_line r_t_line_first) H locs → lv_has ls 3 [(0, .ref a_t), (1, .int x1)] → W p l e { frames := 7, cells := 0, slots := 0, locals := 149 } s m ([.ref a_t] : List Value).toArray below meth c H locs 0 0 (Ei below (fun r w => (r = 0 ∨ r = 1) ∧ (∃ (i_t_reader : Nat → Int32), ∃ (j_t_reader : Nat → Int64), ∃ (i_t_line : Nat → Int32), ∃ (r_t_line_first : Nat → Int32), w = (wd_LineReader_readTrain k a_t d_t w_t i_t w_t_reader i_t_reader j_t_reader a_t_reader_text r_t_reader_text r_t_kindNames a_t_line d_t_line i_t_line r_t_line_first) ∧ Q r i_t_reader j_t_reader i_t_line r_t_line_first)) D k A ([.ref a_t] : List Value).toArray s 0 0) (F0 m 9 ls []) := by
  have hx := F.x
  have hb := F.b
  intro x1 i_t_reader j_t_reader i_t_line r_t_line_first H locs ls hf hB hl
  unfold b_LineReader_readTrain_9 at hf
  refine lv_iload_n hx hb dX4_readTrain_9 rfl (lv_at hl 1 rfl) ?_
  refine lv_bipush (v := 8) hx hb dX4_readTrain_10 (by decide) ?_
  refine lv_icmp_gt (tgt := 118) hx hb dX4_readTrain_12 (by decide) (fun c_21 => ?_) (fun c_21 => ?_)
  · replace hf := hf.1 c_21
    exact hkx_9 _ _ _ _ _ _ _ hf hB (lv_sub hl [] rfl)
  · replace hf := hf.2 c_21
    refine lv_iload_n hx hb dX4_readTrain_15 rfl (lv_at hl 1 rfl) ?_
    refine lv_if_le (tgt := 32) hx hb dX4_readTrain_16 (by decide) (fun c_20 => ?_) (fun c_20 => ?_)
    · replace hf := hf.1 c_20
      exact jt_LineReader_readTrain_32 hw_t_reader_text hw_t_line F hr hlk hA hE hkr_9 _ _ _ _ _ _ _ _ hf hB (lv_sub hl [0, 1] rfl)
    · replace hf := hf.2 c_20
      refine lv_aload_n hx hb dX4_readTrain_19 rfl (lv_at hl 0 rfl) ?_
      refine g_get (w := .ref (d_t 0)) F hB 0 rfl fl_RX4_12 rfl dX4_readTrain_20 ?_
      refine g_get (w := .int (i_t_reader 4)) F hB 1 rfl fl_RX4_97 rfl dX4_readTrain_23 ?_
      refine lv_iconst (v := 3) hx hb dX4_readTrain_26 (by decide) ?_
      refine lv_icmp_ne (tgt := 32) hx hb dX4_readTrain_27 (by decide) (fun c_19 => ?_) (fun c_19 => ?_)
      · replace hf := hf.1 c_19
        exact jt_LineReader_readTrain_32 hw_t_reader_text hw_t_line F hr hlk hA hE hkr_9 _ _ _ _ _ _ _ _ hf hB (lv_sub hl [0, 1] rfl)
      · replace hf := hf.2 c_19
        refine lv_iconst (v := 1) hx hb dX4_readTrain_30 (by decide) ?_
        exact r_z F hr hlk hB (Or.inr rfl) ⟨Or.inr rfl, _, _, _, _, rfl, hf⟩ dX4_readTrain_31

set_option maxRecDepth 100000 in
set_option maxHeartbeats 4000000 in
theorem lt_LineReader_readTrain_9 {p : Program} {l : Launch} {e : Env} {s : State} {m : MethodId} {below : List Frame} {meth : Method} {c : Code} {A : Nat → Prop} {D : va_G} {k : Nat → ClassId}  {K : Nat → Nat} {a_t : Nat} {d_t : Nat → Nat} {w_t : Nat → Value} {i_t : Nat → Int32} {w_t_reader : Nat → Value} {a_t_reader_text : Nat} {r_t_reader_text : Nat → Int32} {r_t_kindNames : Nat → Int64} {a_t_line : Nat} {d_t_line : Nat → Nat}  {Q : Int32 → (Nat → Int32) → (Nat → Int64) → (Nat → Int32) → (Nat → Int32) → Prop} (hw_t_reader_text : w_t_reader 0 = .ref a_t_reader_text) (hw_t_line : w_t 3 = .ref a_t_line) {kx_9 : (Nat → Int32) → (Nat → Int64) → (Nat → Int32) → (Nat → Int32) → Prop} (F : Fx p m c cX4_readTrain 3 s ([.ref a_t] : List Value).toArray RX4 D k) (hr : meth.sig.returnType = (some .boolean)) (hlk : meth.locks = false) (hA : ∀ q : Nat, s.heap.size ≤ q → A q) (hE : Am K A s s.heap) (hkx_9 : ∀ (i_t_reader : Nat → Int32) (j_t_reader : Nat → Int64) (i_t_line : Nat → Int32) (r_t_line_first : Nat → Int32) (H : Heap) (locs : List Loc) (ls : Array Slot), kx_9 i_t_reader j_t_reader i_t_line r_t_line_first → Bd D A s.heap (wd_LineReader_readTrain k a_t d_t w_t i_t w_t_reader i_t_reader j_t_reader a_t_reader_text r_t_reader_text r_t_kindNames a_t_line d_t_line i_t_line r_t_line_first) H locs → lv_has ls 3 [] → W p l e { frames := 7, cells := 0, slots := 0, locals := 149 } s m ([.ref a_t] : List Value).toArray below meth c H locs 0 0 (Ei below (fun r w => (r = 0 ∨ r = 1) ∧ (∃ (i_t_reader : Nat → Int32), ∃ (j_t_reader : Nat → Int64), ∃ (i_t_line : Nat → Int32), ∃ (r_t_line_first : Nat → Int32), w = (wd_LineReader_readTrain k a_t d_t w_t i_t w_t_reader i_t_reader j_t_reader a_t_reader_text r_t_reader_text r_t_kindNames a_t_line d_t_line i_t_line r_t_line_first) ∧ Q r i_t_reader j_t_reader i_t_line r_t_line_first)) D k A ([.ref a_t] : List Value).toArray s 0 0) (F0 m 118 ls [])) :
    ∀ n : Nat, ∀ (x1 : Int32) (i_t_reader : Nat → Int32) (j_t_reader : Nat → Int64) (i_t_line : Nat → Int32) (r_t_line_first : Nat → Int32) (H : Heap) (locs : List Loc) (ls : Array Slot), lp_LineReader_readTrain_9 r_t_reader_text r_t_kindNames Q kx_9 n x1 i_t_reader j_t_reader i_t_line r_t_line_first → Bd D A s.heap (wd_LineReader_readTrain k a_t d_t w_t i_t w_t_reader i_t_reader j_t_reader a_t_reader_text r_t_reader_text r_t_kindNames a_t_line d_t_line i_t_line r_t_line_first) H locs → lv_has ls 3 [(0, .ref a_t), (1, .int x1)] → W p l e { frames := 7, cells := 0, slots := 0, locals := 149 } s m ([.ref a_t] : List Value).toArray below meth c H locs 0 0 (Ei below (fun r w => (r = 0 ∨ r = 1) ∧ (∃ (i_t_reader : Nat → Int32), ∃ (j_t_reader : Nat → Int64), ∃ (i_t_line : Nat → Int32), ∃ (r_t_line_first : Nat → Int32), w = (wd_LineReader_readTrain k a_t d_t w_t i_t w_t_reader i_t_reader j_t_reader a_t_reader_text r_t_reader_text r_t_kindNames a_t_line d_t_line i_t_line r_t_line_first) ∧ Q r i_t_reader j_t_reader i_t_line r_t_line_first)) D k A ([.ref a_t] : List Value).toArray s 0 0) (F0 m 9 ls []) := by
  intro n
  induction n with
  | zero => intro x1 i_t_reader j_t_reader i_t_line r_t_line_first H locs ls hf; exact absurd hf (fun h => h)
  | succ n ih => exact bt_LineReader_readTrain_9 hw_t_reader_text hw_t_line F hr hlk hA hE hkx_9 ih

set_option maxRecDepth 100000 in
set_option maxHeartbeats 4000000 in
theorem c_LineReader_readTrain (l : Launch) (D : va_G) (k : Nat → ClassId)  (K : Nat → Nat) (a_t : Nat) (d_t : Nat → Nat) (w_t : Nat → Value) (i_t : Nat → Int32) (w_t_reader : Nat → Value) (i_t_reader : Nat → Int32) (j_t_reader : Nat → Int64) (a_t_reader_text : Nat) (r_t_reader_text : Nat → Int32) (r_t_kindNames : Nat → Int64) (a_t_line : Nat) (d_t_line : Nat → Nat) (i_t_line : Nat → Int32) (r_t_line_first : Nat → Int32)  (Q : Int32 → (Nat → Int32) → (Nat → Int64) → (Nat → Int32) → (Nat → Int32) → Prop) (hw_t_reader_text : w_t_reader 0 = .ref a_t_reader_text) (hw_t_line : w_t 3 = .ref a_t_line) (hf : w_LineReader_readTrain i_t_reader j_t_reader r_t_reader_text r_t_kindNames i_t_line r_t_line_first Q) : CeI l yX4_readTrain cX4_readTrain 3 (some .boolean) 7 149 0 0 D k K [.ref a_t] (wd_LineReader_readTrain k a_t d_t w_t i_t w_t_reader i_t_reader j_t_reader a_t_reader_text r_t_reader_text r_t_kindNames a_t_line d_t_line i_t_line r_t_line_first) (fun r w => (r = 0 ∨ r = 1) ∧ (∃ (i_t_reader : Nat → Int32), ∃ (j_t_reader : Nat → Int64), ∃ (i_t_line : Nat → Int32), ∃ (r_t_line_first : Nat → Int32), w = (wd_LineReader_readTrain k a_t d_t w_t i_t w_t_reader i_t_reader j_t_reader a_t_reader_text r_t_reader_text r_t_kindNames a_t_line d_t_line i_t_line r_t_line_first) ∧ Q r i_t_reader j_t_reader i_t_line r_t_line_first)) := by
  refine CeI.of (by decide) (Nat.le_of_ble_eq_true rfl) ?_
  intro p e s m below meth c A F hr hlk hnm hA hE hB ls hl
  have hx := F.x
  have hb := F.b
  unfold w_LineReader_readTrain at hf
  replace hl : lv_has ls 3 [(0, .ref a_t)] := hl
  refine lv_aload_n hx hb dX4_readTrain_0 rfl (lv_at hl 0 rfl) ?_
  refine g_get (w := .ref (d_t 0)) F hB 0 rfl fl_RX4_12 rfl dX4_readTrain_1 ?_
  refine k_vv (wr := [(a_t, ob 4 (vmx 4 d_t w_t) i_t j0), ((d_t 2), aj k 6 r_t_kindNames), (a_t_line, ob 3 (rfd d_t_line) i_t_line j0), ((d_t_line 8), ai k 8 r_t_line_first)]) (rest := []) F hA hB (c_Reader_advance l D k (d_t 0) w_t_reader i_t_reader j_t_reader a_t_reader_text r_t_reader_text _ hw_t_reader_text hf) ml_RX4_45 mv_yX7_advance [1, 2] [0, 3, 4, 5] rfl rfl (by decide) (by decide) (by decide) 1 rfl rfl rfl hl.1 rfl (Nat.le_of_ble_eq_true rfl) ⟨Nat.le_of_ble_eq_true rfl, Nat.le_of_ble_eq_true rfl⟩ ⟨Nat.le_of_ble_eq_true rfl, Nat.le_of_ble_eq_true rfl⟩ dX4_readTrain_4 (fun w1 H locs hq hB => ?_)
  obtain ⟨i_t_reader_1, j_t_reader_2, rfl, hf⟩ := hq
  replace hB : Bd D A s.heap (wd_LineReader_readTrain k a_t d_t w_t i_t w_t_reader i_t_reader_1 j_t_reader_2 a_t_reader_text r_t_reader_text r_t_kindNames a_t_line d_t_line i_t_line r_t_line_first) H locs := hB.sub [0, 4, 5, 1, 2, 3] (by decide) rfl
  refine lv_iconst (v := 0) hx hb dX4_readTrain_7 (by decide) ?_
  refine lv_istore_n (lv' := [(1, .int (0 : Int32)), (0, .ref a_t)]) hx hb dX4_readTrain_8 rfl hl (by decide) rfl (fun ls hl => ?_)
  obtain ⟨n_26, hf⟩ := hf
  refine lt_LineReader_readTrain_9 hw_t_reader_text hw_t_line F hr hlk hA hE (fun i_t_reader_22 j_t_reader_23 i_t_line_24 r_t_line_first_25 H locs ls hf hB hl => ?_) n_26 _ _ _ _ _ _ _ _ hf hB (lv_sub hl [1, 0] rfl)
  refine lv_iconst (v := 0) hx hb dX4_readTrain_118 (by decide) ?_
  exact r_z F hr hlk hB (Or.inl rfl) ⟨Or.inl rfl, _, _, _, _, rfl, hf⟩ dX4_readTrain_119

/-! LongTrain.LineReader.readRow -/
set_option maxRecDepth 100000 in
set_option maxHeartbeats 4000000 in
theorem c_LineReader_readRow (l : Launch) (D : va_G) (k : Nat → ClassId)  (K : Nat → Nat) (a_t : Nat) (d_t : Nat → Nat) (w_t : Nat → Value) (i_t : Nat → Int32) (w_t_reader : Nat → Value) (i_t_reader : Nat → Int32) (j_t_reader : Nat → Int64) (a_t_reader_text : Nat) (r_t_reader_text : Nat → Int32) (a_t_line : Nat) (d_t_line : Nat → Nat) (i_t_line : Nat → Int32) (r_t_line_grades : Nat → Int32) (r_t_haltNames : Nat → Int64) (r_t_kindNames : Nat → Int64) (r_t_line_halts : Nat → Int32) (r_t_line_loops : Nat → Int32) (r_t_line_kinds : Nat → Int32) (r_t_line_first : Nat → Int32) (n1 : Int32) (Q : Int32 → (Nat → Int32) → (Nat → Int32) → (Nat → Int64) → (Nat → Int32) → (Nat → Int32) → (Nat → Int64) → (Nat → Int64) → (Nat → Int32) → (Nat → Int32) → (Nat → Int32) → (Nat → Int32) → Prop) (hw_t_reader_text : w_t_reader 0 = .ref a_t_reader_text) (hw_t_line : w_t 3 = .ref a_t_line) (hf : w_LineReader_readRow i_t i_t_reader j_t_reader r_t_reader_text i_t_line r_t_line_grades r_t_haltNames r_t_kindNames r_t_line_halts r_t_line_loops r_t_line_kinds r_t_line_first n1 Q) : CeI l yX4_readRow cX4_readRow 2 (some .boolean) 9 192 0 0 D k K [.ref a_t, .int n1] (wd_LineReader_readRow k a_t d_t w_t i_t w_t_reader i_t_reader j_t_reader a_t_reader_text r_t_reader_text a_t_line d_t_line i_t_line r_t_line_grades r_t_haltNames r_t_kindNames r_t_line_halts r_t_line_loops r_t_line_kinds r_t_line_first) (fun r w => (r = 0 ∨ r = 1) ∧ (∃ (i_t : Nat → Int32), ∃ (i_t_reader : Nat → Int32), ∃ (j_t_reader : Nat → Int64), ∃ (i_t_line : Nat → Int32), ∃ (r_t_line_grades : Nat → Int32), ∃ (r_t_haltNames : Nat → Int64), ∃ (r_t_kindNames : Nat → Int64), ∃ (r_t_line_halts : Nat → Int32), ∃ (r_t_line_loops : Nat → Int32), ∃ (r_t_line_kinds : Nat → Int32), ∃ (r_t_line_first : Nat → Int32), w = (wd_LineReader_readRow k a_t d_t w_t i_t w_t_reader i_t_reader j_t_reader a_t_reader_text r_t_reader_text a_t_line d_t_line i_t_line r_t_line_grades r_t_haltNames r_t_kindNames r_t_line_halts r_t_line_loops r_t_line_kinds r_t_line_first) ∧ Q r i_t i_t_reader j_t_reader i_t_line r_t_line_grades r_t_haltNames r_t_kindNames r_t_line_halts r_t_line_loops r_t_line_kinds r_t_line_first)) := by
  refine CeI.of (by decide) (Nat.le_of_ble_eq_true rfl) ?_
  intro p e s m below meth c A F hr hlk hnm hA hE hB ls hl
  have hx := F.x
  have hb := F.b
  unfold w_LineReader_readRow at hf
  replace hl : lv_has ls 2 [(0, .ref a_t), (1, .int n1)] := hl
  refine lv_iload_n hx hb dX4_readRow_0 rfl (lv_at hl 1 rfl) ?_
  rcases Classical.em (n1 = 0) with c_1 | c_1
  · replace hf := hf.1 c_1
    refine lv_tableIn (tgt := 60) hx hb dX4_readRow_1 (by rw [c_1]; decide) (by rw [c_1]; decide) (by rw [c_1]; rfl) (by decide) ?_
    refine lv_aload_n hx hb dX4_readRow_60 rfl (lv_at hl 0 rfl) ?_
    refine k_vi (wr := [((d_t 1), aj k 10 r_t_haltNames), ((d_t 2), aj k 6 r_t_kindNames), ((d_t_line 2), ai k 30 r_t_line_halts), ((d_t_line 4), ai k 16 r_t_line_loops), ((d_t_line 6), ai k 18 r_t_line_kinds), ((d_t_line 8), ai k 8 r_t_line_first)]) (rest := []) F hA hB (c_LineReader_readSlope l D k a_t d_t w_t i_t w_t_reader i_t_reader j_t_reader a_t_reader_text r_t_reader_text a_t_line d_t_line i_t_line r_t_line_grades _ hw_t_reader_text hw_t_line hf) ml_RX4_64 mv_yX4_readSlope [0, 1, 2, 3, 4] [5, 6, 7, 8, 9, 10] rfl rfl (by decide) (by decide) (by decide) 0 rfl rfl rfl hl.1 rfl (Nat.le_of_ble_eq_true rfl) ⟨Nat.le_of_ble_eq_true rfl, Nat.le_of_ble_eq_true rfl⟩ ⟨Nat.le_of_ble_eq_true rfl, Nat.le_of_ble_eq_true rfl⟩ dX4_readRow_61 (fun z_7 w1 H locs hq hB => ?_)
    obtain ⟨h_8, i_t_2, i_t_reader_3, j_t_reader_4, i_t_line_5, r_t_line_grades_6, rfl, hf⟩ := hq
    replace hB : Bd D A s.heap (wd_LineReader_readRow k a_t d_t w_t i_t_2 w_t_reader i_t_reader_3 j_t_reader_4 a_t_reader_text r_t_reader_text a_t_line d_t_line i_t_line_5 r_t_line_grades_6 r_t_haltNames r_t_kindNames r_t_line_halts r_t_line_loops r_t_line_kinds r_t_line_first) H locs := hB.sub [6, 7, 8, 9, 10, 0, 1, 2, 3, 4, 5] (by decide) rfl
    refine lv_if_eq (tgt := 81) hx hb dX4_readRow_64 (by decide) (fun c_14 => ?_) (fun c_14 => ?_)
    · replace hf := hf.1 c_14
      refine lv_iconst (v := 0) hx hb dX4_readRow_81 (by decide) ?_
      exact r_z F hr hlk hB (Or.inl rfl) ⟨Or.inl rfl, _, _, _, _, _, _, _, _, _, _, _, rfl, hf⟩ dX4_readRow_82
    · replace hf := hf.2 c_14
      refine lv_aload_n hx hb dX4_readRow_67 rfl (lv_at hl 0 rfl) ?_
      refine g_get (w := .ref (d_t 0)) F hB 0 rfl fl_RX4_12 rfl dX4_readRow_68 ?_
      refine k_vi (wr := [(a_t, ob 4 (vmx 4 d_t w_t) i_t_2 j0), (a_t_line, ob 3 (rfd d_t_line) i_t_line_5 j0), ((d_t_line 0), ai k 400 r_t_line_grades_6), ((d_t 1), aj k 10 r_t_haltNames), ((d_t 2), aj k 6 r_t_kindNames), ((d_t_line 2), ai k 30 r_t_line_halts), ((d_t_line 4), ai k 16 r_t_line_loops), ((d_t_line 6), ai k 18 r_t_line_kinds), ((d_t_line 8), ai k 8 r_t_line_first)]) (rest := []) F hA hB (c_Reader_nextCloses l D k (d_t 0) w_t_reader i_t_reader_3 j_t_reader_4 a_t_reader_text r_t_reader_text _ hw_t_reader_text hf) ml_RX4_67 mv_yX7_nextCloses [1, 2] [0, 3, 4, 5, 6, 7, 8, 9, 10] rfl rfl (by decide) (by decide) (by decide) 1 rfl rfl rfl hl.1 rfl (Nat.le_of_ble_eq_true rfl) ⟨Nat.le_of_ble_eq_true rfl, Nat.le_of_ble_eq_true rfl⟩ ⟨Nat.le_of_ble_eq_true rfl, Nat.le_of_ble_eq_true rfl⟩ dX4_readRow_71 (fun z_11 w1 H locs hq hB => ?_)
      obtain ⟨h_12, i_t_reader_9, j_t_reader_10, rfl, hf⟩ := hq
      replace hB : Bd D A s.heap (wd_LineReader_readRow k a_t d_t w_t i_t_2 w_t_reader i_t_reader_9 j_t_reader_10 a_t_reader_text r_t_reader_text a_t_line d_t_line i_t_line_5 r_t_line_grades_6 r_t_haltNames r_t_kindNames r_t_line_halts r_t_line_loops r_t_line_kinds r_t_line_first) H locs := hB.sub [0, 9, 10, 1, 2, 3, 4, 5, 6, 7, 8] (by decide) rfl
      refine lv_if_eq (tgt := 81) hx hb dX4_readRow_74 (by decide) (fun c_13 => ?_) (fun c_13 => ?_)
      · replace hf := hf.1 c_13
        refine lv_iconst (v := 0) hx hb dX4_readRow_81 (by decide) ?_
        exact r_z F hr hlk hB (Or.inl rfl) ⟨Or.inl rfl, _, _, _, _, _, _, _, _, _, _, _, rfl, hf⟩ dX4_readRow_82
      · replace hf := hf.2 c_13
        refine lv_iconst (v := 1) hx hb dX4_readRow_77 (by decide) ?_
        refine lv_goto (tgt := 82) hx hb dX4_readRow_78 (by decide) ?_
        exact r_z F hr hlk hB (Or.inr rfl) ⟨Or.inr rfl, _, _, _, _, _, _, _, _, _, _, _, rfl, hf⟩ dX4_readRow_82
  · replace hf := hf.2 c_1
    rcases Classical.em (n1 = 1) with c_15 | c_15
    · replace hf := hf.1 c_15
      refine lv_tableIn (tgt := 83) hx hb dX4_readRow_1 (by rw [c_15]; decide) (by rw [c_15]; decide) (by rw [c_15]; rfl) (by decide) ?_
      refine lv_aload_n hx hb dX4_readRow_83 rfl (lv_at hl 0 rfl) ?_
      refine ke_vi (wr := [((d_t_line 0), ai k 400 r_t_line_grades), ((d_t_line 4), ai k 16 r_t_line_loops), ((d_t_line 6), ai k 18 r_t_line_kinds), ((d_t_line 8), ai k 8 r_t_line_first)]) (rest := []) F hE hA hB (c_LineReader_readHalt l D k K a_t d_t w_t i_t a_t_line d_t_line i_t_line w_t_reader i_t_reader j_t_reader a_t_reader_text r_t_reader_text r_t_haltNames r_t_kindNames r_t_line_halts _ hw_t_line hw_t_reader_text hf) ml_RX4_70 mv_yX4_readHalt [0, 3, 1, 2, 5, 6, 7] [4, 8, 9, 10] rfl rfl (by decide) (by decide) (by decide) (rcv F hB 0 rfl rfl) rfl hl.1 rfl (Nat.le_of_ble_eq_true rfl) ⟨Nat.le_of_ble_eq_true rfl, Nat.le_of_ble_eq_true rfl⟩ ⟨Nat.le_of_ble_eq_true rfl, Nat.le_of_ble_eq_true rfl⟩ dX4_readRow_84 (fun z_21 w1 H locs hq hB => ?_)
      obtain ⟨h_22, i_t_line_16, i_t_reader_17, j_t_reader_18, r_t_haltNames_19, r_t_line_halts_20, rfl, hf⟩ := hq
      replace hB : Bd D A s.heap (wd_LineReader_readRow k a_t d_t w_t i_t w_t_reader i_t_reader_17 j_t_reader_18 a_t_reader_text r_t_reader_text a_t_line d_t_line i_t_line_16 r_t_line_grades r_t_haltNames_19 r_t_kindNames r_t_line_halts_20 r_t_line_loops r_t_line_kinds r_t_line_first) H locs := hB.sub [4, 6, 7, 5, 0, 8, 9, 10, 1, 2, 3] (by decide) rfl
      refine lv_if_eq (tgt := 104) hx hb dX4_readRow_87 (by decide) (fun c_28 => ?_) (fun c_28 => ?_)
      · replace hf := hf.1 c_28
        refine lv_iconst (v := 0) hx hb dX4_readRow_104 (by decide) ?_
        exact r_z F hr hlk hB (Or.inl rfl) ⟨Or.inl rfl, _, _, _, _, _, _, _, _, _, _, _, rfl, hf⟩ dX4_readRow_105
      · replace hf := hf.2 c_28
        refine lv_aload_n hx hb dX4_readRow_90 rfl (lv_at hl 0 rfl) ?_
        refine g_get (w := .ref (d_t 0)) F hB 0 rfl fl_RX4_12 rfl dX4_readRow_91 ?_
        refine k_vi (wr := [(a_t, ob 4 (vmx 4 d_t w_t) i_t j0), (a_t_line, ob 3 (rfd d_t_line) i_t_line_16 j0), ((d_t_line 0), ai k 400 r_t_line_grades), ((d_t 1), aj k 10 r_t_haltNames_19), ((d_t 2), aj k 6 r_t_kindNames), ((d_t_line 2), ai k 30 r_t_line_halts_20), ((d_t_line 4), ai k 16 r_t_line_loops), ((d_t_line 6), ai k 18 r_t_line_kinds), ((d_t_line 8), ai k 8 r_t_line_first)]) (rest := []) F hA hB (c_Reader_nextCloses l D k (d_t 0) w_t_reader i_t_reader_17 j_t_reader_18 a_t_reader_text r_t_reader_text _ hw_t_reader_text hf) ml_RX4_67 mv_yX7_nextCloses [1, 2] [0, 3, 4, 5, 6, 7, 8, 9, 10] rfl rfl (by decide) (by decide) (by decide) 1 rfl rfl rfl hl.1 rfl (Nat.le_of_ble_eq_true rfl) ⟨Nat.le_of_ble_eq_true rfl, Nat.le_of_ble_eq_true rfl⟩ ⟨Nat.le_of_ble_eq_true rfl, Nat.le_of_ble_eq_true rfl⟩ dX4_readRow_94 (fun z_25 w1 H locs hq hB => ?_)
        obtain ⟨h_26, i_t_reader_23, j_t_reader_24, rfl, hf⟩ := hq
        replace hB : Bd D A s.heap (wd_LineReader_readRow k a_t d_t w_t i_t w_t_reader i_t_reader_23 j_t_reader_24 a_t_reader_text r_t_reader_text a_t_line d_t_line i_t_line_16 r_t_line_grades r_t_haltNames_19 r_t_kindNames r_t_line_halts_20 r_t_line_loops r_t_line_kinds r_t_line_first) H locs := hB.sub [0, 9, 10, 1, 2, 3, 4, 5, 6, 7, 8] (by decide) rfl
        refine lv_if_eq (tgt := 104) hx hb dX4_readRow_97 (by decide) (fun c_27 => ?_) (fun c_27 => ?_)
        · replace hf := hf.1 c_27
          refine lv_iconst (v := 0) hx hb dX4_readRow_104 (by decide) ?_
          exact r_z F hr hlk hB (Or.inl rfl) ⟨Or.inl rfl, _, _, _, _, _, _, _, _, _, _, _, rfl, hf⟩ dX4_readRow_105
        · replace hf := hf.2 c_27
          refine lv_iconst (v := 1) hx hb dX4_readRow_100 (by decide) ?_
          refine lv_goto (tgt := 105) hx hb dX4_readRow_101 (by decide) ?_
          exact r_z F hr hlk hB (Or.inr rfl) ⟨Or.inr rfl, _, _, _, _, _, _, _, _, _, _, _, rfl, hf⟩ dX4_readRow_105
    · replace hf := hf.2 c_15
      rcases Classical.em (n1 = 2) with c_29 | c_29
      · replace hf := hf.1 c_29
        refine lv_tableIn (tgt := 106) hx hb dX4_readRow_1 (by rw [c_29]; decide) (by rw [c_29]; decide) (by rw [c_29]; rfl) (by decide) ?_
        refine lv_aload_n hx hb dX4_readRow_106 rfl (lv_at hl 0 rfl) ?_
        refine k_vi (wr := [((d_t_line 0), ai k 400 r_t_line_grades), ((d_t 1), aj k 10 r_t_haltNames), ((d_t 2), aj k 6 r_t_kindNames), ((d_t_line 2), ai k 30 r_t_line_halts), ((d_t_line 6), ai k 18 r_t_line_kinds), ((d_t_line 8), ai k 8 r_t_line_first)]) (rest := []) F hA hB (c_LineReader_readLoop l D k a_t d_t w_t i_t a_t_line d_t_line i_t_line w_t_reader i_t_reader j_t_reader a_t_reader_text r_t_reader_text r_t_line_loops _ hw_t_line hw_t_reader_text hf) ml_RX4_73 mv_yX4_readLoop [0, 3, 1, 2, 8] [4, 5, 6, 7, 9, 10] rfl rfl (by decide) (by decide) (by decide) 0 rfl rfl rfl hl.1 rfl (Nat.le_of_ble_eq_true rfl) ⟨Nat.le_of_ble_eq_true rfl, Nat.le_of_ble_eq_true rfl⟩ ⟨Nat.le_of_ble_eq_true rfl, Nat.le_of_ble_eq_true rfl⟩ dX4_readRow_107 (fun z_34 w1 H locs hq hB => ?_)
        obtain ⟨h_35, i_t_line_30, i_t_reader_31, j_t_reader_32, r_t_line_loops_33, rfl, hf⟩ := hq
        replace hB : Bd D A s.heap (wd_LineReader_readRow k a_t d_t w_t i_t w_t_reader i_t_reader_31 j_t_reader_32 a_t_reader_text r_t_reader_text a_t_line d_t_line i_t_line_30 r_t_line_grades r_t_haltNames r_t_kindNames r_t_line_halts r_t_line_loops_33 r_t_line_kinds r_t_line_first) H locs := hB.sub [6, 8, 9, 7, 0, 1, 2, 3, 10, 4, 5] (by decide) rfl
        refine lv_if_eq (tgt := 127) hx hb dX4_readRow_110 (by decide) (fun c_41 => ?_) (fun c_41 => ?_)
        · replace hf := hf.1 c_41
          refine lv_iconst (v := 0) hx hb dX4_readRow_127 (by decide) ?_
          exact r_z F hr hlk hB (Or.inl rfl) ⟨Or.inl rfl, _, _, _, _, _, _, _, _, _, _, _, rfl, hf⟩ dX4_readRow_128
        · replace hf := hf.2 c_41
          refine lv_aload_n hx hb dX4_readRow_113 rfl (lv_at hl 0 rfl) ?_
          refine g_get (w := .ref (d_t 0)) F hB 0 rfl fl_RX4_12 rfl dX4_readRow_114 ?_
          refine k_vi (wr := [(a_t, ob 4 (vmx 4 d_t w_t) i_t j0), (a_t_line, ob 3 (rfd d_t_line) i_t_line_30 j0), ((d_t_line 0), ai k 400 r_t_line_grades), ((d_t 1), aj k 10 r_t_haltNames), ((d_t 2), aj k 6 r_t_kindNames), ((d_t_line 2), ai k 30 r_t_line_halts), ((d_t_line 4), ai k 16 r_t_line_loops_33), ((d_t_line 6), ai k 18 r_t_line_kinds), ((d_t_line 8), ai k 8 r_t_line_first)]) (rest := []) F hA hB (c_Reader_nextCloses l D k (d_t 0) w_t_reader i_t_reader_31 j_t_reader_32 a_t_reader_text r_t_reader_text _ hw_t_reader_text hf) ml_RX4_67 mv_yX7_nextCloses [1, 2] [0, 3, 4, 5, 6, 7, 8, 9, 10] rfl rfl (by decide) (by decide) (by decide) 1 rfl rfl rfl hl.1 rfl (Nat.le_of_ble_eq_true rfl) ⟨Nat.le_of_ble_eq_true rfl, Nat.le_of_ble_eq_true rfl⟩ ⟨Nat.le_of_ble_eq_true rfl, Nat.le_of_ble_eq_true rfl⟩ dX4_readRow_117 (fun z_38 w1 H locs hq hB => ?_)
          obtain ⟨h_39, i_t_reader_36, j_t_reader_37, rfl, hf⟩ := hq
          replace hB : Bd D A s.heap (wd_LineReader_readRow k a_t d_t w_t i_t w_t_reader i_t_reader_36 j_t_reader_37 a_t_reader_text r_t_reader_text a_t_line d_t_line i_t_line_30 r_t_line_grades r_t_haltNames r_t_kindNames r_t_line_halts r_t_line_loops_33 r_t_line_kinds r_t_line_first) H locs := hB.sub [0, 9, 10, 1, 2, 3, 4, 5, 6, 7, 8] (by decide) rfl
          refine lv_if_eq (tgt := 127) hx hb dX4_readRow_120 (by decide) (fun c_40 => ?_) (fun c_40 => ?_)
          · replace hf := hf.1 c_40
            refine lv_iconst (v := 0) hx hb dX4_readRow_127 (by decide) ?_
            exact r_z F hr hlk hB (Or.inl rfl) ⟨Or.inl rfl, _, _, _, _, _, _, _, _, _, _, _, rfl, hf⟩ dX4_readRow_128
          · replace hf := hf.2 c_40
            refine lv_iconst (v := 1) hx hb dX4_readRow_123 (by decide) ?_
            refine lv_goto (tgt := 128) hx hb dX4_readRow_124 (by decide) ?_
            exact r_z F hr hlk hB (Or.inr rfl) ⟨Or.inr rfl, _, _, _, _, _, _, _, _, _, _, _, rfl, hf⟩ dX4_readRow_128
      · replace hf := hf.2 c_29
        rcases Classical.em (n1 = 3) with c_42 | c_42
        · replace hf := hf.1 c_42
          refine lv_tableIn (tgt := 129) hx hb dX4_readRow_1 (by rw [c_42]; decide) (by rw [c_42]; decide) (by rw [c_42]; rfl) (by decide) ?_
          refine lv_aload_n hx hb dX4_readRow_129 rfl (lv_at hl 0 rfl) ?_
          refine ke_vi (wr := [((d_t_line 0), ai k 400 r_t_line_grades), ((d_t_line 2), ai k 30 r_t_line_halts), ((d_t_line 4), ai k 16 r_t_line_loops), ((d_t_line 8), ai k 8 r_t_line_first)]) (rest := []) F hE hA hB (c_LineReader_readKind l D k K a_t d_t w_t i_t a_t_line d_t_line i_t_line w_t_reader i_t_reader j_t_reader a_t_reader_text r_t_reader_text r_t_haltNames r_t_kindNames r_t_line_kinds _ hw_t_line hw_t_reader_text hf) ml_RX4_76 mv_yX4_readKind [0, 3, 1, 2, 5, 6, 9] [4, 7, 8, 10] rfl rfl (by decide) (by decide) (by decide) (rcv F hB 0 rfl rfl) rfl hl.1 rfl (Nat.le_of_ble_eq_true rfl) ⟨Nat.le_of_ble_eq_true rfl, Nat.le_of_ble_eq_true rfl⟩ ⟨Nat.le_of_ble_eq_true rfl, Nat.le_of_ble_eq_true rfl⟩ dX4_readRow_130 (fun z_48 w1 H locs hq hB => ?_)
          obtain ⟨h_49, i_t_line_43, i_t_reader_44, j_t_reader_45, r_t_kindNames_46, r_t_line_kinds_47, rfl, hf⟩ := hq
          replace hB : Bd D A s.heap (wd_LineReader_readRow k a_t d_t w_t i_t w_t_reader i_t_reader_44 j_t_reader_45 a_t_reader_text r_t_reader_text a_t_line d_t_line i_t_line_43 r_t_line_grades r_t_haltNames r_t_kindNames_46 r_t_line_halts r_t_line_loops r_t_line_kinds_47 r_t_line_first) H locs := hB.sub [4, 6, 7, 5, 0, 8, 9, 1, 2, 10, 3] (by decide) rfl
          refine lv_if_eq (tgt := 150) hx hb dX4_readRow_133 (by decide) (fun c_55 => ?_) (fun c_55 => ?_)
          · replace hf := hf.1 c_55
            refine lv_iconst (v := 0) hx hb dX4_readRow_150 (by decide) ?_
            exact r_z F hr hlk hB (Or.inl rfl) ⟨Or.inl rfl, _, _, _, _, _, _, _, _, _, _, _, rfl, hf⟩ dX4_readRow_151
          · replace hf := hf.2 c_55
            refine lv_aload_n hx hb dX4_readRow_136 rfl (lv_at hl 0 rfl) ?_
            refine g_get (w := .ref (d_t 0)) F hB 0 rfl fl_RX4_12 rfl dX4_readRow_137 ?_
            refine k_vi (wr := [(a_t, ob 4 (vmx 4 d_t w_t) i_t j0), (a_t_line, ob 3 (rfd d_t_line) i_t_line_43 j0), ((d_t_line 0), ai k 400 r_t_line_grades), ((d_t 1), aj k 10 r_t_haltNames), ((d_t 2), aj k 6 r_t_kindNames_46), ((d_t_line 2), ai k 30 r_t_line_halts), ((d_t_line 4), ai k 16 r_t_line_loops), ((d_t_line 6), ai k 18 r_t_line_kinds_47), ((d_t_line 8), ai k 8 r_t_line_first)]) (rest := []) F hA hB (c_Reader_nextCloses l D k (d_t 0) w_t_reader i_t_reader_44 j_t_reader_45 a_t_reader_text r_t_reader_text _ hw_t_reader_text hf) ml_RX4_67 mv_yX7_nextCloses [1, 2] [0, 3, 4, 5, 6, 7, 8, 9, 10] rfl rfl (by decide) (by decide) (by decide) 1 rfl rfl rfl hl.1 rfl (Nat.le_of_ble_eq_true rfl) ⟨Nat.le_of_ble_eq_true rfl, Nat.le_of_ble_eq_true rfl⟩ ⟨Nat.le_of_ble_eq_true rfl, Nat.le_of_ble_eq_true rfl⟩ dX4_readRow_140 (fun z_52 w1 H locs hq hB => ?_)
            obtain ⟨h_53, i_t_reader_50, j_t_reader_51, rfl, hf⟩ := hq
            replace hB : Bd D A s.heap (wd_LineReader_readRow k a_t d_t w_t i_t w_t_reader i_t_reader_50 j_t_reader_51 a_t_reader_text r_t_reader_text a_t_line d_t_line i_t_line_43 r_t_line_grades r_t_haltNames r_t_kindNames_46 r_t_line_halts r_t_line_loops r_t_line_kinds_47 r_t_line_first) H locs := hB.sub [0, 9, 10, 1, 2, 3, 4, 5, 6, 7, 8] (by decide) rfl
            refine lv_if_eq (tgt := 150) hx hb dX4_readRow_143 (by decide) (fun c_54 => ?_) (fun c_54 => ?_)
            · replace hf := hf.1 c_54
              refine lv_iconst (v := 0) hx hb dX4_readRow_150 (by decide) ?_
              exact r_z F hr hlk hB (Or.inl rfl) ⟨Or.inl rfl, _, _, _, _, _, _, _, _, _, _, _, rfl, hf⟩ dX4_readRow_151
            · replace hf := hf.2 c_54
              refine lv_iconst (v := 1) hx hb dX4_readRow_146 (by decide) ?_
              refine lv_goto (tgt := 151) hx hb dX4_readRow_147 (by decide) ?_
              exact r_z F hr hlk hB (Or.inr rfl) ⟨Or.inr rfl, _, _, _, _, _, _, _, _, _, _, _, rfl, hf⟩ dX4_readRow_151
        · replace hf := hf.2 c_42
          rcases Classical.em (n1 = 4) with c_56 | c_56
          · replace hf := hf.1 c_56
            refine lv_tableIn (tgt := 152) hx hb dX4_readRow_1 (by rw [c_56]; decide) (by rw [c_56]; decide) (by rw [c_56]; rfl) (by decide) ?_
            refine lv_aload_n hx hb dX4_readRow_152 rfl (lv_at hl 0 rfl) ?_
            refine ke_vi (wr := [((d_t_line 0), ai k 400 r_t_line_grades), ((d_t_line 4), ai k 16 r_t_line_loops), ((d_t_line 6), ai k 18 r_t_line_kinds), ((d_t_line 8), ai k 8 r_t_line_first)]) (rest := []) F hE hA hB (c_LineReader_readAdds l D k K a_t d_t w_t i_t w_t_reader i_t_reader j_t_reader a_t_reader_text r_t_reader_text r_t_haltNames a_t_line d_t_line i_t_line r_t_line_halts r_t_kindNames _ hw_t_reader_text hw_t_line hf) ml_RX4_79 mv_yX4_readAdds [0, 1, 2, 5, 3, 7, 6] [4, 8, 9, 10] rfl rfl (by decide) (by decide) (by decide) (rcv F hB 0 rfl rfl) rfl hl.1 rfl (Nat.le_of_ble_eq_true rfl) ⟨Nat.le_of_ble_eq_true rfl, Nat.le_of_ble_eq_true rfl⟩ ⟨Nat.le_of_ble_eq_true rfl, Nat.le_of_ble_eq_true rfl⟩ dX4_readRow_153 (fun z_60 w1 H locs hq hB => ?_)
            obtain ⟨h_61, i_t_reader_57, j_t_reader_58, r_t_line_halts_59, rfl, hf⟩ := hq
            replace hB : Bd D A s.heap (wd_LineReader_readRow k a_t d_t w_t i_t w_t_reader i_t_reader_57 j_t_reader_58 a_t_reader_text r_t_reader_text a_t_line d_t_line i_t_line r_t_line_grades r_t_haltNames r_t_kindNames r_t_line_halts_59 r_t_line_loops r_t_line_kinds r_t_line_first) H locs := hB.sub [4, 5, 6, 8, 0, 7, 10, 9, 1, 2, 3] (by decide) rfl
            refine lv_if_eq (tgt := 173) hx hb dX4_readRow_156 (by decide) (fun c_67 => ?_) (fun c_67 => ?_)
            · replace hf := hf.1 c_67
              refine lv_iconst (v := 0) hx hb dX4_readRow_173 (by decide) ?_
              exact r_z F hr hlk hB (Or.inl rfl) ⟨Or.inl rfl, _, _, _, _, _, _, _, _, _, _, _, rfl, hf⟩ dX4_readRow_174
            · replace hf := hf.2 c_67
              refine lv_aload_n hx hb dX4_readRow_159 rfl (lv_at hl 0 rfl) ?_
              refine g_get (w := .ref (d_t 0)) F hB 0 rfl fl_RX4_12 rfl dX4_readRow_160 ?_
              refine k_vi (wr := [(a_t, ob 4 (vmx 4 d_t w_t) i_t j0), (a_t_line, ob 3 (rfd d_t_line) i_t_line j0), ((d_t_line 0), ai k 400 r_t_line_grades), ((d_t 1), aj k 10 r_t_haltNames), ((d_t 2), aj k 6 r_t_kindNames), ((d_t_line 2), ai k 30 r_t_line_halts_59), ((d_t_line 4), ai k 16 r_t_line_loops), ((d_t_line 6), ai k 18 r_t_line_kinds), ((d_t_line 8), ai k 8 r_t_line_first)]) (rest := []) F hA hB (c_Reader_nextCloses l D k (d_t 0) w_t_reader i_t_reader_57 j_t_reader_58 a_t_reader_text r_t_reader_text _ hw_t_reader_text hf) ml_RX4_67 mv_yX7_nextCloses [1, 2] [0, 3, 4, 5, 6, 7, 8, 9, 10] rfl rfl (by decide) (by decide) (by decide) 1 rfl rfl rfl hl.1 rfl (Nat.le_of_ble_eq_true rfl) ⟨Nat.le_of_ble_eq_true rfl, Nat.le_of_ble_eq_true rfl⟩ ⟨Nat.le_of_ble_eq_true rfl, Nat.le_of_ble_eq_true rfl⟩ dX4_readRow_163 (fun z_64 w1 H locs hq hB => ?_)
              obtain ⟨h_65, i_t_reader_62, j_t_reader_63, rfl, hf⟩ := hq
              replace hB : Bd D A s.heap (wd_LineReader_readRow k a_t d_t w_t i_t w_t_reader i_t_reader_62 j_t_reader_63 a_t_reader_text r_t_reader_text a_t_line d_t_line i_t_line r_t_line_grades r_t_haltNames r_t_kindNames r_t_line_halts_59 r_t_line_loops r_t_line_kinds r_t_line_first) H locs := hB.sub [0, 9, 10, 1, 2, 3, 4, 5, 6, 7, 8] (by decide) rfl
              refine lv_if_eq (tgt := 173) hx hb dX4_readRow_166 (by decide) (fun c_66 => ?_) (fun c_66 => ?_)
              · replace hf := hf.1 c_66
                refine lv_iconst (v := 0) hx hb dX4_readRow_173 (by decide) ?_
                exact r_z F hr hlk hB (Or.inl rfl) ⟨Or.inl rfl, _, _, _, _, _, _, _, _, _, _, _, rfl, hf⟩ dX4_readRow_174
              · replace hf := hf.2 c_66
                refine lv_iconst (v := 1) hx hb dX4_readRow_169 (by decide) ?_
                refine lv_goto (tgt := 174) hx hb dX4_readRow_170 (by decide) ?_
                exact r_z F hr hlk hB (Or.inr rfl) ⟨Or.inr rfl, _, _, _, _, _, _, _, _, _, _, _, rfl, hf⟩ dX4_readRow_174
          · replace hf := hf.2 c_56
            rcases Classical.em (n1 = 5) with c_68 | c_68
            · replace hf := hf.1 c_68
              refine lv_tableIn (tgt := 175) hx hb dX4_readRow_1 (by rw [c_68]; decide) (by rw [c_68]; decide) (by rw [c_68]; rfl) (by decide) ?_
              refine lv_aload_n hx hb dX4_readRow_175 rfl (lv_at hl 0 rfl) ?_
              refine lv_iload_n hx hb dX4_readRow_176 rfl (lv_at hl 1 rfl) ?_
              refine k_vi (wr := [(a_t_reader_text, ai k 940 r_t_reader_text), (a_t_line, ob 3 (rfd d_t_line) i_t_line j0), ((d_t_line 0), ai k 400 r_t_line_grades), ((d_t 1), aj k 10 r_t_haltNames), ((d_t 2), aj k 6 r_t_kindNames), ((d_t_line 2), ai k 30 r_t_line_halts), ((d_t_line 4), ai k 16 r_t_line_loops), ((d_t_line 6), ai k 18 r_t_line_kinds), ((d_t_line 8), ai k 8 r_t_line_first)]) (rest := []) F hA hB (c_LineReader_tellOnce l D k a_t d_t w_t i_t w_t_reader i_t_reader j_t_reader n1 _  hf) ml_RX4_82 mv_yX4_tellOnce [0, 1] [2, 3, 4, 5, 6, 7, 8, 9, 10] rfl rfl (by decide) (by decide) (by decide) 0 rfl rfl rfl hl.1 rfl (Nat.le_of_ble_eq_true rfl) ⟨Nat.le_of_ble_eq_true rfl, Nat.le_of_ble_eq_true rfl⟩ ⟨Nat.le_of_ble_eq_true rfl, Nat.le_of_ble_eq_true rfl⟩ dX4_readRow_177 (fun z_71 w1 H locs hq hB => ?_)
              obtain ⟨h_72, i_t_69, i_t_reader_70, rfl, hf⟩ := hq
              replace hB : Bd D A s.heap (wd_LineReader_readRow k a_t d_t w_t i_t_69 w_t_reader i_t_reader_70 j_t_reader a_t_reader_text r_t_reader_text a_t_line d_t_line i_t_line r_t_line_grades r_t_haltNames r_t_kindNames r_t_line_halts r_t_line_loops r_t_line_kinds r_t_line_first) H locs := hB.sub [9, 10, 0, 1, 2, 3, 4, 5, 6, 7, 8] (by decide) rfl
              refine lv_if_eq (tgt := 204) hx hb dX4_readRow_180 (by decide) (fun c_84 => ?_) (fun c_84 => ?_)
              · replace hf := hf.1 c_84
                refine lv_iconst (v := 0) hx hb dX4_readRow_204 (by decide) ?_
                exact r_z F hr hlk hB (Or.inl rfl) ⟨Or.inl rfl, _, _, _, _, _, _, _, _, _, _, _, rfl, hf⟩ dX4_readRow_205
              · replace hf := hf.2 c_84
                refine lv_aload_n hx hb dX4_readRow_183 rfl (lv_at hl 0 rfl) ?_
                refine k_vi (wr := [((d_t_line 0), ai k 400 r_t_line_grades), ((d_t 1), aj k 10 r_t_haltNames), ((d_t 2), aj k 6 r_t_kindNames), ((d_t_line 2), ai k 30 r_t_line_halts), ((d_t_line 4), ai k 16 r_t_line_loops), ((d_t_line 6), ai k 18 r_t_line_kinds), ((d_t_line 8), ai k 8 r_t_line_first)]) (rest := []) F hA hB (c_LineReader_readEngine l D k a_t d_t w_t i_t_69 w_t_reader i_t_reader_70 j_t_reader a_t_reader_text r_t_reader_text a_t_line d_t_line i_t_line _ hw_t_reader_text hw_t_line hf) ml_RX4_85 mv_yX4_readEngine [0, 1, 2, 3] [4, 5, 6, 7, 8, 9, 10] rfl rfl (by decide) (by decide) (by decide) 0 rfl rfl rfl hl.1 rfl (Nat.le_of_ble_eq_true rfl) ⟨Nat.le_of_ble_eq_true rfl, Nat.le_of_ble_eq_true rfl⟩ ⟨Nat.le_of_ble_eq_true rfl, Nat.le_of_ble_eq_true rfl⟩ dX4_readRow_184 (fun z_76 w1 H locs hq hB => ?_)
                obtain ⟨h_77, i_t_reader_73, j_t_reader_74, i_t_line_75, rfl, hf⟩ := hq
                replace hB : Bd D A s.heap (wd_LineReader_readRow k a_t d_t w_t i_t_69 w_t_reader i_t_reader_73 j_t_reader_74 a_t_reader_text r_t_reader_text a_t_line d_t_line i_t_line_75 r_t_line_grades r_t_haltNames r_t_kindNames r_t_line_halts r_t_line_loops r_t_line_kinds r_t_line_first) H locs := hB.sub [7, 8, 9, 10, 0, 1, 2, 3, 4, 5, 6] (by decide) rfl
                refine lv_if_eq (tgt := 204) hx hb dX4_readRow_187 (by decide) (fun c_83 => ?_) (fun c_83 => ?_)
                · replace hf := hf.1 c_83
                  refine lv_iconst (v := 0) hx hb dX4_readRow_204 (by decide) ?_
                  exact r_z F hr hlk hB (Or.inl rfl) ⟨Or.inl rfl, _, _, _, _, _, _, _, _, _, _, _, rfl, hf⟩ dX4_readRow_205
                · replace hf := hf.2 c_83
                  refine lv_aload_n hx hb dX4_readRow_190 rfl (lv_at hl 0 rfl) ?_
                  refine g_get (w := .ref (d_t 0)) F hB 0 rfl fl_RX4_12 rfl dX4_readRow_191 ?_
                  refine k_vi (wr := [(a_t, ob 4 (vmx 4 d_t w_t) i_t_69 j0), (a_t_line, ob 3 (rfd d_t_line) i_t_line_75 j0), ((d_t_line 0), ai k 400 r_t_line_grades), ((d_t 1), aj k 10 r_t_haltNames), ((d_t 2), aj k 6 r_t_kindNames), ((d_t_line 2), ai k 30 r_t_line_halts), ((d_t_line 4), ai k 16 r_t_line_loops), ((d_t_line 6), ai k 18 r_t_line_kinds), ((d_t_line 8), ai k 8 r_t_line_first)]) (rest := []) F hA hB (c_Reader_nextCloses l D k (d_t 0) w_t_reader i_t_reader_73 j_t_reader_74 a_t_reader_text r_t_reader_text _ hw_t_reader_text hf) ml_RX4_67 mv_yX7_nextCloses [1, 2] [0, 3, 4, 5, 6, 7, 8, 9, 10] rfl rfl (by decide) (by decide) (by decide) 1 rfl rfl rfl hl.1 rfl (Nat.le_of_ble_eq_true rfl) ⟨Nat.le_of_ble_eq_true rfl, Nat.le_of_ble_eq_true rfl⟩ ⟨Nat.le_of_ble_eq_true rfl, Nat.le_of_ble_eq_true rfl⟩ dX4_readRow_194 (fun z_80 w1 H locs hq hB => ?_)
                  obtain ⟨h_81, i_t_reader_78, j_t_reader_79, rfl, hf⟩ := hq
                  replace hB : Bd D A s.heap (wd_LineReader_readRow k a_t d_t w_t i_t_69 w_t_reader i_t_reader_78 j_t_reader_79 a_t_reader_text r_t_reader_text a_t_line d_t_line i_t_line_75 r_t_line_grades r_t_haltNames r_t_kindNames r_t_line_halts r_t_line_loops r_t_line_kinds r_t_line_first) H locs := hB.sub [0, 9, 10, 1, 2, 3, 4, 5, 6, 7, 8] (by decide) rfl
                  refine lv_if_eq (tgt := 204) hx hb dX4_readRow_197 (by decide) (fun c_82 => ?_) (fun c_82 => ?_)
                  · replace hf := hf.1 c_82
                    refine lv_iconst (v := 0) hx hb dX4_readRow_204 (by decide) ?_
                    exact r_z F hr hlk hB (Or.inl rfl) ⟨Or.inl rfl, _, _, _, _, _, _, _, _, _, _, _, rfl, hf⟩ dX4_readRow_205
                  · replace hf := hf.2 c_82
                    refine lv_iconst (v := 1) hx hb dX4_readRow_200 (by decide) ?_
                    refine lv_goto (tgt := 205) hx hb dX4_readRow_201 (by decide) ?_
                    exact r_z F hr hlk hB (Or.inr rfl) ⟨Or.inr rfl, _, _, _, _, _, _, _, _, _, _, _, rfl, hf⟩ dX4_readRow_205
            · replace hf := hf.2 c_68
              rcases Classical.em (n1 = 6) with c_85 | c_85
              · replace hf := hf.1 c_85
                refine lv_tableIn (tgt := 206) hx hb dX4_readRow_1 (by rw [c_85]; decide) (by rw [c_85]; decide) (by rw [c_85]; rfl) (by decide) ?_
                refine lv_aload_n hx hb dX4_readRow_206 rfl (lv_at hl 0 rfl) ?_
                refine lv_iload_n hx hb dX4_readRow_207 rfl (lv_at hl 1 rfl) ?_
                refine k_vi (wr := [(a_t_reader_text, ai k 940 r_t_reader_text), (a_t_line, ob 3 (rfd d_t_line) i_t_line j0), ((d_t_line 0), ai k 400 r_t_line_grades), ((d_t 1), aj k 10 r_t_haltNames), ((d_t 2), aj k 6 r_t_kindNames), ((d_t_line 2), ai k 30 r_t_line_halts), ((d_t_line 4), ai k 16 r_t_line_loops), ((d_t_line 6), ai k 18 r_t_line_kinds), ((d_t_line 8), ai k 8 r_t_line_first)]) (rest := []) F hA hB (c_LineReader_tellOnce l D k a_t d_t w_t i_t w_t_reader i_t_reader j_t_reader n1 _  hf) ml_RX4_82 mv_yX4_tellOnce [0, 1] [2, 3, 4, 5, 6, 7, 8, 9, 10] rfl rfl (by decide) (by decide) (by decide) 0 rfl rfl rfl hl.1 rfl (Nat.le_of_ble_eq_true rfl) ⟨Nat.le_of_ble_eq_true rfl, Nat.le_of_ble_eq_true rfl⟩ ⟨Nat.le_of_ble_eq_true rfl, Nat.le_of_ble_eq_true rfl⟩ dX4_readRow_208 (fun z_88 w1 H locs hq hB => ?_)
                obtain ⟨h_89, i_t_86, i_t_reader_87, rfl, hf⟩ := hq
                replace hB : Bd D A s.heap (wd_LineReader_readRow k a_t d_t w_t i_t_86 w_t_reader i_t_reader_87 j_t_reader a_t_reader_text r_t_reader_text a_t_line d_t_line i_t_line r_t_line_grades r_t_haltNames r_t_kindNames r_t_line_halts r_t_line_loops r_t_line_kinds r_t_line_first) H locs := hB.sub [9, 10, 0, 1, 2, 3, 4, 5, 6, 7, 8] (by decide) rfl
                refine lv_if_eq (tgt := 236) hx hb dX4_readRow_211 (by decide) (fun c_101 => ?_) (fun c_101 => ?_)
                · replace hf := hf.1 c_101
                  refine lv_iconst (v := 0) hx hb dX4_readRow_236 (by decide) ?_
                  exact r_z F hr hlk hB (Or.inl rfl) ⟨Or.inl rfl, _, _, _, _, _, _, _, _, _, _, _, rfl, hf⟩ dX4_readRow_237
                · replace hf := hf.2 c_101
                  refine lv_aload_n hx hb dX4_readRow_214 rfl (lv_at hl 0 rfl) ?_
                  refine lv_iload_n hx hb dX4_readRow_215 rfl (lv_at hl 1 rfl) ?_
                  refine k_vi (wr := [((d_t_line 0), ai k 400 r_t_line_grades), ((d_t 1), aj k 10 r_t_haltNames), ((d_t 2), aj k 6 r_t_kindNames), ((d_t_line 2), ai k 30 r_t_line_halts), ((d_t_line 4), ai k 16 r_t_line_loops), ((d_t_line 6), ai k 18 r_t_line_kinds), ((d_t_line 8), ai k 8 r_t_line_first)]) (rest := []) F hA hB (c_LineReader_readNumber l D k a_t d_t w_t i_t_86 w_t_reader i_t_reader_87 j_t_reader a_t_reader_text r_t_reader_text a_t_line d_t_line i_t_line n1 _ hw_t_reader_text hw_t_line hf) ml_RX4_88 mv_yX4_readNumber [0, 1, 2, 3] [4, 5, 6, 7, 8, 9, 10] rfl rfl (by decide) (by decide) (by decide) 0 rfl rfl rfl hl.1 rfl (Nat.le_of_ble_eq_true rfl) ⟨Nat.le_of_ble_eq_true rfl, Nat.le_of_ble_eq_true rfl⟩ ⟨Nat.le_of_ble_eq_true rfl, Nat.le_of_ble_eq_true rfl⟩ dX4_readRow_216 (fun z_93 w1 H locs hq hB => ?_)
                  obtain ⟨h_94, i_t_reader_90, j_t_reader_91, i_t_line_92, rfl, hf⟩ := hq
                  replace hB : Bd D A s.heap (wd_LineReader_readRow k a_t d_t w_t i_t_86 w_t_reader i_t_reader_90 j_t_reader_91 a_t_reader_text r_t_reader_text a_t_line d_t_line i_t_line_92 r_t_line_grades r_t_haltNames r_t_kindNames r_t_line_halts r_t_line_loops r_t_line_kinds r_t_line_first) H locs := hB.sub [7, 8, 9, 10, 0, 1, 2, 3, 4, 5, 6] (by decide) rfl
                  refine lv_if_eq (tgt := 236) hx hb dX4_readRow_219 (by decide) (fun c_100 => ?_) (fun c_100 => ?_)
                  · replace hf := hf.1 c_100
                    refine lv_iconst (v := 0) hx hb dX4_readRow_236 (by decide) ?_
                    exact r_z F hr hlk hB (Or.inl rfl) ⟨Or.inl rfl, _, _, _, _, _, _, _, _, _, _, _, rfl, hf⟩ dX4_readRow_237
                  · replace hf := hf.2 c_100
                    refine lv_aload_n hx hb dX4_readRow_222 rfl (lv_at hl 0 rfl) ?_
                    refine g_get (w := .ref (d_t 0)) F hB 0 rfl fl_RX4_12 rfl dX4_readRow_223 ?_
                    refine k_vi (wr := [(a_t, ob 4 (vmx 4 d_t w_t) i_t_86 j0), (a_t_line, ob 3 (rfd d_t_line) i_t_line_92 j0), ((d_t_line 0), ai k 400 r_t_line_grades), ((d_t 1), aj k 10 r_t_haltNames), ((d_t 2), aj k 6 r_t_kindNames), ((d_t_line 2), ai k 30 r_t_line_halts), ((d_t_line 4), ai k 16 r_t_line_loops), ((d_t_line 6), ai k 18 r_t_line_kinds), ((d_t_line 8), ai k 8 r_t_line_first)]) (rest := []) F hA hB (c_Reader_nextCloses l D k (d_t 0) w_t_reader i_t_reader_90 j_t_reader_91 a_t_reader_text r_t_reader_text _ hw_t_reader_text hf) ml_RX4_67 mv_yX7_nextCloses [1, 2] [0, 3, 4, 5, 6, 7, 8, 9, 10] rfl rfl (by decide) (by decide) (by decide) 1 rfl rfl rfl hl.1 rfl (Nat.le_of_ble_eq_true rfl) ⟨Nat.le_of_ble_eq_true rfl, Nat.le_of_ble_eq_true rfl⟩ ⟨Nat.le_of_ble_eq_true rfl, Nat.le_of_ble_eq_true rfl⟩ dX4_readRow_226 (fun z_97 w1 H locs hq hB => ?_)
                    obtain ⟨h_98, i_t_reader_95, j_t_reader_96, rfl, hf⟩ := hq
                    replace hB : Bd D A s.heap (wd_LineReader_readRow k a_t d_t w_t i_t_86 w_t_reader i_t_reader_95 j_t_reader_96 a_t_reader_text r_t_reader_text a_t_line d_t_line i_t_line_92 r_t_line_grades r_t_haltNames r_t_kindNames r_t_line_halts r_t_line_loops r_t_line_kinds r_t_line_first) H locs := hB.sub [0, 9, 10, 1, 2, 3, 4, 5, 6, 7, 8] (by decide) rfl
                    refine lv_if_eq (tgt := 236) hx hb dX4_readRow_229 (by decide) (fun c_99 => ?_) (fun c_99 => ?_)
                    · replace hf := hf.1 c_99
                      refine lv_iconst (v := 0) hx hb dX4_readRow_236 (by decide) ?_
                      exact r_z F hr hlk hB (Or.inl rfl) ⟨Or.inl rfl, _, _, _, _, _, _, _, _, _, _, _, rfl, hf⟩ dX4_readRow_237
                    · replace hf := hf.2 c_99
                      refine lv_iconst (v := 1) hx hb dX4_readRow_232 (by decide) ?_
                      refine lv_goto (tgt := 237) hx hb dX4_readRow_233 (by decide) ?_
                      exact r_z F hr hlk hB (Or.inr rfl) ⟨Or.inr rfl, _, _, _, _, _, _, _, _, _, _, _, rfl, hf⟩ dX4_readRow_237
              · replace hf := hf.2 c_85
                rcases Classical.em (n1 = 7) with c_102 | c_102
                · replace hf := hf.1 c_102
                  refine lv_tableIn (tgt := 206) hx hb dX4_readRow_1 (by rw [c_102]; decide) (by rw [c_102]; decide) (by rw [c_102]; rfl) (by decide) ?_
                  refine lv_aload_n hx hb dX4_readRow_206 rfl (lv_at hl 0 rfl) ?_
                  refine lv_iload_n hx hb dX4_readRow_207 rfl (lv_at hl 1 rfl) ?_
                  refine k_vi (wr := [(a_t_reader_text, ai k 940 r_t_reader_text), (a_t_line, ob 3 (rfd d_t_line) i_t_line j0), ((d_t_line 0), ai k 400 r_t_line_grades), ((d_t 1), aj k 10 r_t_haltNames), ((d_t 2), aj k 6 r_t_kindNames), ((d_t_line 2), ai k 30 r_t_line_halts), ((d_t_line 4), ai k 16 r_t_line_loops), ((d_t_line 6), ai k 18 r_t_line_kinds), ((d_t_line 8), ai k 8 r_t_line_first)]) (rest := []) F hA hB (c_LineReader_tellOnce l D k a_t d_t w_t i_t w_t_reader i_t_reader j_t_reader n1 _  hf) ml_RX4_82 mv_yX4_tellOnce [0, 1] [2, 3, 4, 5, 6, 7, 8, 9, 10] rfl rfl (by decide) (by decide) (by decide) 0 rfl rfl rfl hl.1 rfl (Nat.le_of_ble_eq_true rfl) ⟨Nat.le_of_ble_eq_true rfl, Nat.le_of_ble_eq_true rfl⟩ ⟨Nat.le_of_ble_eq_true rfl, Nat.le_of_ble_eq_true rfl⟩ dX4_readRow_208 (fun z_105 w1 H locs hq hB => ?_)
                  obtain ⟨h_106, i_t_103, i_t_reader_104, rfl, hf⟩ := hq
                  replace hB : Bd D A s.heap (wd_LineReader_readRow k a_t d_t w_t i_t_103 w_t_reader i_t_reader_104 j_t_reader a_t_reader_text r_t_reader_text a_t_line d_t_line i_t_line r_t_line_grades r_t_haltNames r_t_kindNames r_t_line_halts r_t_line_loops r_t_line_kinds r_t_line_first) H locs := hB.sub [9, 10, 0, 1, 2, 3, 4, 5, 6, 7, 8] (by decide) rfl
                  refine lv_if_eq (tgt := 236) hx hb dX4_readRow_211 (by decide) (fun c_118 => ?_) (fun c_118 => ?_)
                  · replace hf := hf.1 c_118
                    refine lv_iconst (v := 0) hx hb dX4_readRow_236 (by decide) ?_
                    exact r_z F hr hlk hB (Or.inl rfl) ⟨Or.inl rfl, _, _, _, _, _, _, _, _, _, _, _, rfl, hf⟩ dX4_readRow_237
                  · replace hf := hf.2 c_118
                    refine lv_aload_n hx hb dX4_readRow_214 rfl (lv_at hl 0 rfl) ?_
                    refine lv_iload_n hx hb dX4_readRow_215 rfl (lv_at hl 1 rfl) ?_
                    refine k_vi (wr := [((d_t_line 0), ai k 400 r_t_line_grades), ((d_t 1), aj k 10 r_t_haltNames), ((d_t 2), aj k 6 r_t_kindNames), ((d_t_line 2), ai k 30 r_t_line_halts), ((d_t_line 4), ai k 16 r_t_line_loops), ((d_t_line 6), ai k 18 r_t_line_kinds), ((d_t_line 8), ai k 8 r_t_line_first)]) (rest := []) F hA hB (c_LineReader_readNumber l D k a_t d_t w_t i_t_103 w_t_reader i_t_reader_104 j_t_reader a_t_reader_text r_t_reader_text a_t_line d_t_line i_t_line n1 _ hw_t_reader_text hw_t_line hf) ml_RX4_88 mv_yX4_readNumber [0, 1, 2, 3] [4, 5, 6, 7, 8, 9, 10] rfl rfl (by decide) (by decide) (by decide) 0 rfl rfl rfl hl.1 rfl (Nat.le_of_ble_eq_true rfl) ⟨Nat.le_of_ble_eq_true rfl, Nat.le_of_ble_eq_true rfl⟩ ⟨Nat.le_of_ble_eq_true rfl, Nat.le_of_ble_eq_true rfl⟩ dX4_readRow_216 (fun z_110 w1 H locs hq hB => ?_)
                    obtain ⟨h_111, i_t_reader_107, j_t_reader_108, i_t_line_109, rfl, hf⟩ := hq
                    replace hB : Bd D A s.heap (wd_LineReader_readRow k a_t d_t w_t i_t_103 w_t_reader i_t_reader_107 j_t_reader_108 a_t_reader_text r_t_reader_text a_t_line d_t_line i_t_line_109 r_t_line_grades r_t_haltNames r_t_kindNames r_t_line_halts r_t_line_loops r_t_line_kinds r_t_line_first) H locs := hB.sub [7, 8, 9, 10, 0, 1, 2, 3, 4, 5, 6] (by decide) rfl
                    refine lv_if_eq (tgt := 236) hx hb dX4_readRow_219 (by decide) (fun c_117 => ?_) (fun c_117 => ?_)
                    · replace hf := hf.1 c_117
                      refine lv_iconst (v := 0) hx hb dX4_readRow_236 (by decide) ?_
                      exact r_z F hr hlk hB (Or.inl rfl) ⟨Or.inl rfl, _, _, _, _, _, _, _, _, _, _, _, rfl, hf⟩ dX4_readRow_237
                    · replace hf := hf.2 c_117
                      refine lv_aload_n hx hb dX4_readRow_222 rfl (lv_at hl 0 rfl) ?_
                      refine g_get (w := .ref (d_t 0)) F hB 0 rfl fl_RX4_12 rfl dX4_readRow_223 ?_
                      refine k_vi (wr := [(a_t, ob 4 (vmx 4 d_t w_t) i_t_103 j0), (a_t_line, ob 3 (rfd d_t_line) i_t_line_109 j0), ((d_t_line 0), ai k 400 r_t_line_grades), ((d_t 1), aj k 10 r_t_haltNames), ((d_t 2), aj k 6 r_t_kindNames), ((d_t_line 2), ai k 30 r_t_line_halts), ((d_t_line 4), ai k 16 r_t_line_loops), ((d_t_line 6), ai k 18 r_t_line_kinds), ((d_t_line 8), ai k 8 r_t_line_first)]) (rest := []) F hA hB (c_Reader_nextCloses l D k (d_t 0) w_t_reader i_t_reader_107 j_t_reader_108 a_t_reader_text r_t_reader_text _ hw_t_reader_text hf) ml_RX4_67 mv_yX7_nextCloses [1, 2] [0, 3, 4, 5, 6, 7, 8, 9, 10] rfl rfl (by decide) (by decide) (by decide) 1 rfl rfl rfl hl.1 rfl (Nat.le_of_ble_eq_true rfl) ⟨Nat.le_of_ble_eq_true rfl, Nat.le_of_ble_eq_true rfl⟩ ⟨Nat.le_of_ble_eq_true rfl, Nat.le_of_ble_eq_true rfl⟩ dX4_readRow_226 (fun z_114 w1 H locs hq hB => ?_)
                      obtain ⟨h_115, i_t_reader_112, j_t_reader_113, rfl, hf⟩ := hq
                      replace hB : Bd D A s.heap (wd_LineReader_readRow k a_t d_t w_t i_t_103 w_t_reader i_t_reader_112 j_t_reader_113 a_t_reader_text r_t_reader_text a_t_line d_t_line i_t_line_109 r_t_line_grades r_t_haltNames r_t_kindNames r_t_line_halts r_t_line_loops r_t_line_kinds r_t_line_first) H locs := hB.sub [0, 9, 10, 1, 2, 3, 4, 5, 6, 7, 8] (by decide) rfl
                      refine lv_if_eq (tgt := 236) hx hb dX4_readRow_229 (by decide) (fun c_116 => ?_) (fun c_116 => ?_)
                      · replace hf := hf.1 c_116
                        refine lv_iconst (v := 0) hx hb dX4_readRow_236 (by decide) ?_
                        exact r_z F hr hlk hB (Or.inl rfl) ⟨Or.inl rfl, _, _, _, _, _, _, _, _, _, _, _, rfl, hf⟩ dX4_readRow_237
                      · replace hf := hf.2 c_116
                        refine lv_iconst (v := 1) hx hb dX4_readRow_232 (by decide) ?_
                        refine lv_goto (tgt := 237) hx hb dX4_readRow_233 (by decide) ?_
                        exact r_z F hr hlk hB (Or.inr rfl) ⟨Or.inr rfl, _, _, _, _, _, _, _, _, _, _, _, rfl, hf⟩ dX4_readRow_237
                · replace hf := hf.2 c_102
                  rcases Classical.em (n1 = 8) with c_119 | c_119
                  · replace hf := hf.1 c_119
                    refine lv_tableIn (tgt := 206) hx hb dX4_readRow_1 (by rw [c_119]; decide) (by rw [c_119]; decide) (by rw [c_119]; rfl) (by decide) ?_
                    refine lv_aload_n hx hb dX4_readRow_206 rfl (lv_at hl 0 rfl) ?_
                    refine lv_iload_n hx hb dX4_readRow_207 rfl (lv_at hl 1 rfl) ?_
                    refine k_vi (wr := [(a_t_reader_text, ai k 940 r_t_reader_text), (a_t_line, ob 3 (rfd d_t_line) i_t_line j0), ((d_t_line 0), ai k 400 r_t_line_grades), ((d_t 1), aj k 10 r_t_haltNames), ((d_t 2), aj k 6 r_t_kindNames), ((d_t_line 2), ai k 30 r_t_line_halts), ((d_t_line 4), ai k 16 r_t_line_loops), ((d_t_line 6), ai k 18 r_t_line_kinds), ((d_t_line 8), ai k 8 r_t_line_first)]) (rest := []) F hA hB (c_LineReader_tellOnce l D k a_t d_t w_t i_t w_t_reader i_t_reader j_t_reader n1 _  hf) ml_RX4_82 mv_yX4_tellOnce [0, 1] [2, 3, 4, 5, 6, 7, 8, 9, 10] rfl rfl (by decide) (by decide) (by decide) 0 rfl rfl rfl hl.1 rfl (Nat.le_of_ble_eq_true rfl) ⟨Nat.le_of_ble_eq_true rfl, Nat.le_of_ble_eq_true rfl⟩ ⟨Nat.le_of_ble_eq_true rfl, Nat.le_of_ble_eq_true rfl⟩ dX4_readRow_208 (fun z_122 w1 H locs hq hB => ?_)
                    obtain ⟨h_123, i_t_120, i_t_reader_121, rfl, hf⟩ := hq
                    replace hB : Bd D A s.heap (wd_LineReader_readRow k a_t d_t w_t i_t_120 w_t_reader i_t_reader_121 j_t_reader a_t_reader_text r_t_reader_text a_t_line d_t_line i_t_line r_t_line_grades r_t_haltNames r_t_kindNames r_t_line_halts r_t_line_loops r_t_line_kinds r_t_line_first) H locs := hB.sub [9, 10, 0, 1, 2, 3, 4, 5, 6, 7, 8] (by decide) rfl
                    refine lv_if_eq (tgt := 236) hx hb dX4_readRow_211 (by decide) (fun c_135 => ?_) (fun c_135 => ?_)
                    · replace hf := hf.1 c_135
                      refine lv_iconst (v := 0) hx hb dX4_readRow_236 (by decide) ?_
                      exact r_z F hr hlk hB (Or.inl rfl) ⟨Or.inl rfl, _, _, _, _, _, _, _, _, _, _, _, rfl, hf⟩ dX4_readRow_237
                    · replace hf := hf.2 c_135
                      refine lv_aload_n hx hb dX4_readRow_214 rfl (lv_at hl 0 rfl) ?_
                      refine lv_iload_n hx hb dX4_readRow_215 rfl (lv_at hl 1 rfl) ?_
                      refine k_vi (wr := [((d_t_line 0), ai k 400 r_t_line_grades), ((d_t 1), aj k 10 r_t_haltNames), ((d_t 2), aj k 6 r_t_kindNames), ((d_t_line 2), ai k 30 r_t_line_halts), ((d_t_line 4), ai k 16 r_t_line_loops), ((d_t_line 6), ai k 18 r_t_line_kinds), ((d_t_line 8), ai k 8 r_t_line_first)]) (rest := []) F hA hB (c_LineReader_readNumber l D k a_t d_t w_t i_t_120 w_t_reader i_t_reader_121 j_t_reader a_t_reader_text r_t_reader_text a_t_line d_t_line i_t_line n1 _ hw_t_reader_text hw_t_line hf) ml_RX4_88 mv_yX4_readNumber [0, 1, 2, 3] [4, 5, 6, 7, 8, 9, 10] rfl rfl (by decide) (by decide) (by decide) 0 rfl rfl rfl hl.1 rfl (Nat.le_of_ble_eq_true rfl) ⟨Nat.le_of_ble_eq_true rfl, Nat.le_of_ble_eq_true rfl⟩ ⟨Nat.le_of_ble_eq_true rfl, Nat.le_of_ble_eq_true rfl⟩ dX4_readRow_216 (fun z_127 w1 H locs hq hB => ?_)
                      obtain ⟨h_128, i_t_reader_124, j_t_reader_125, i_t_line_126, rfl, hf⟩ := hq
                      replace hB : Bd D A s.heap (wd_LineReader_readRow k a_t d_t w_t i_t_120 w_t_reader i_t_reader_124 j_t_reader_125 a_t_reader_text r_t_reader_text a_t_line d_t_line i_t_line_126 r_t_line_grades r_t_haltNames r_t_kindNames r_t_line_halts r_t_line_loops r_t_line_kinds r_t_line_first) H locs := hB.sub [7, 8, 9, 10, 0, 1, 2, 3, 4, 5, 6] (by decide) rfl
                      refine lv_if_eq (tgt := 236) hx hb dX4_readRow_219 (by decide) (fun c_134 => ?_) (fun c_134 => ?_)
                      · replace hf := hf.1 c_134
                        refine lv_iconst (v := 0) hx hb dX4_readRow_236 (by decide) ?_
                        exact r_z F hr hlk hB (Or.inl rfl) ⟨Or.inl rfl, _, _, _, _, _, _, _, _, _, _, _, rfl, hf⟩ dX4_readRow_237
                      · replace hf := hf.2 c_134
                        refine lv_aload_n hx hb dX4_readRow_222 rfl (lv_at hl 0 rfl) ?_
                        refine g_get (w := .ref (d_t 0)) F hB 0 rfl fl_RX4_12 rfl dX4_readRow_223 ?_
                        refine k_vi (wr := [(a_t, ob 4 (vmx 4 d_t w_t) i_t_120 j0), (a_t_line, ob 3 (rfd d_t_line) i_t_line_126 j0), ((d_t_line 0), ai k 400 r_t_line_grades), ((d_t 1), aj k 10 r_t_haltNames), ((d_t 2), aj k 6 r_t_kindNames), ((d_t_line 2), ai k 30 r_t_line_halts), ((d_t_line 4), ai k 16 r_t_line_loops), ((d_t_line 6), ai k 18 r_t_line_kinds), ((d_t_line 8), ai k 8 r_t_line_first)]) (rest := []) F hA hB (c_Reader_nextCloses l D k (d_t 0) w_t_reader i_t_reader_124 j_t_reader_125 a_t_reader_text r_t_reader_text _ hw_t_reader_text hf) ml_RX4_67 mv_yX7_nextCloses [1, 2] [0, 3, 4, 5, 6, 7, 8, 9, 10] rfl rfl (by decide) (by decide) (by decide) 1 rfl rfl rfl hl.1 rfl (Nat.le_of_ble_eq_true rfl) ⟨Nat.le_of_ble_eq_true rfl, Nat.le_of_ble_eq_true rfl⟩ ⟨Nat.le_of_ble_eq_true rfl, Nat.le_of_ble_eq_true rfl⟩ dX4_readRow_226 (fun z_131 w1 H locs hq hB => ?_)
                        obtain ⟨h_132, i_t_reader_129, j_t_reader_130, rfl, hf⟩ := hq
                        replace hB : Bd D A s.heap (wd_LineReader_readRow k a_t d_t w_t i_t_120 w_t_reader i_t_reader_129 j_t_reader_130 a_t_reader_text r_t_reader_text a_t_line d_t_line i_t_line_126 r_t_line_grades r_t_haltNames r_t_kindNames r_t_line_halts r_t_line_loops r_t_line_kinds r_t_line_first) H locs := hB.sub [0, 9, 10, 1, 2, 3, 4, 5, 6, 7, 8] (by decide) rfl
                        refine lv_if_eq (tgt := 236) hx hb dX4_readRow_229 (by decide) (fun c_133 => ?_) (fun c_133 => ?_)
                        · replace hf := hf.1 c_133
                          refine lv_iconst (v := 0) hx hb dX4_readRow_236 (by decide) ?_
                          exact r_z F hr hlk hB (Or.inl rfl) ⟨Or.inl rfl, _, _, _, _, _, _, _, _, _, _, _, rfl, hf⟩ dX4_readRow_237
                        · replace hf := hf.2 c_133
                          refine lv_iconst (v := 1) hx hb dX4_readRow_232 (by decide) ?_
                          refine lv_goto (tgt := 237) hx hb dX4_readRow_233 (by decide) ?_
                          exact r_z F hr hlk hB (Or.inr rfl) ⟨Or.inr rfl, _, _, _, _, _, _, _, _, _, _, _, rfl, hf⟩ dX4_readRow_237
                  · replace hf := hf.2 c_119
                    rcases Classical.em (n1 = 9) with c_136 | c_136
                    · replace hf := hf.1 c_136
                      refine lv_tableIn (tgt := 206) hx hb dX4_readRow_1 (by rw [c_136]; decide) (by rw [c_136]; decide) (by rw [c_136]; rfl) (by decide) ?_
                      refine lv_aload_n hx hb dX4_readRow_206 rfl (lv_at hl 0 rfl) ?_
                      refine lv_iload_n hx hb dX4_readRow_207 rfl (lv_at hl 1 rfl) ?_
                      refine k_vi (wr := [(a_t_reader_text, ai k 940 r_t_reader_text), (a_t_line, ob 3 (rfd d_t_line) i_t_line j0), ((d_t_line 0), ai k 400 r_t_line_grades), ((d_t 1), aj k 10 r_t_haltNames), ((d_t 2), aj k 6 r_t_kindNames), ((d_t_line 2), ai k 30 r_t_line_halts), ((d_t_line 4), ai k 16 r_t_line_loops), ((d_t_line 6), ai k 18 r_t_line_kinds), ((d_t_line 8), ai k 8 r_t_line_first)]) (rest := []) F hA hB (c_LineReader_tellOnce l D k a_t d_t w_t i_t w_t_reader i_t_reader j_t_reader n1 _  hf) ml_RX4_82 mv_yX4_tellOnce [0, 1] [2, 3, 4, 5, 6, 7, 8, 9, 10] rfl rfl (by decide) (by decide) (by decide) 0 rfl rfl rfl hl.1 rfl (Nat.le_of_ble_eq_true rfl) ⟨Nat.le_of_ble_eq_true rfl, Nat.le_of_ble_eq_true rfl⟩ ⟨Nat.le_of_ble_eq_true rfl, Nat.le_of_ble_eq_true rfl⟩ dX4_readRow_208 (fun z_139 w1 H locs hq hB => ?_)
                      obtain ⟨h_140, i_t_137, i_t_reader_138, rfl, hf⟩ := hq
                      replace hB : Bd D A s.heap (wd_LineReader_readRow k a_t d_t w_t i_t_137 w_t_reader i_t_reader_138 j_t_reader a_t_reader_text r_t_reader_text a_t_line d_t_line i_t_line r_t_line_grades r_t_haltNames r_t_kindNames r_t_line_halts r_t_line_loops r_t_line_kinds r_t_line_first) H locs := hB.sub [9, 10, 0, 1, 2, 3, 4, 5, 6, 7, 8] (by decide) rfl
                      refine lv_if_eq (tgt := 236) hx hb dX4_readRow_211 (by decide) (fun c_152 => ?_) (fun c_152 => ?_)
                      · replace hf := hf.1 c_152
                        refine lv_iconst (v := 0) hx hb dX4_readRow_236 (by decide) ?_
                        exact r_z F hr hlk hB (Or.inl rfl) ⟨Or.inl rfl, _, _, _, _, _, _, _, _, _, _, _, rfl, hf⟩ dX4_readRow_237
                      · replace hf := hf.2 c_152
                        refine lv_aload_n hx hb dX4_readRow_214 rfl (lv_at hl 0 rfl) ?_
                        refine lv_iload_n hx hb dX4_readRow_215 rfl (lv_at hl 1 rfl) ?_
                        refine k_vi (wr := [((d_t_line 0), ai k 400 r_t_line_grades), ((d_t 1), aj k 10 r_t_haltNames), ((d_t 2), aj k 6 r_t_kindNames), ((d_t_line 2), ai k 30 r_t_line_halts), ((d_t_line 4), ai k 16 r_t_line_loops), ((d_t_line 6), ai k 18 r_t_line_kinds), ((d_t_line 8), ai k 8 r_t_line_first)]) (rest := []) F hA hB (c_LineReader_readNumber l D k a_t d_t w_t i_t_137 w_t_reader i_t_reader_138 j_t_reader a_t_reader_text r_t_reader_text a_t_line d_t_line i_t_line n1 _ hw_t_reader_text hw_t_line hf) ml_RX4_88 mv_yX4_readNumber [0, 1, 2, 3] [4, 5, 6, 7, 8, 9, 10] rfl rfl (by decide) (by decide) (by decide) 0 rfl rfl rfl hl.1 rfl (Nat.le_of_ble_eq_true rfl) ⟨Nat.le_of_ble_eq_true rfl, Nat.le_of_ble_eq_true rfl⟩ ⟨Nat.le_of_ble_eq_true rfl, Nat.le_of_ble_eq_true rfl⟩ dX4_readRow_216 (fun z_144 w1 H locs hq hB => ?_)
                        obtain ⟨h_145, i_t_reader_141, j_t_reader_142, i_t_line_143, rfl, hf⟩ := hq
                        replace hB : Bd D A s.heap (wd_LineReader_readRow k a_t d_t w_t i_t_137 w_t_reader i_t_reader_141 j_t_reader_142 a_t_reader_text r_t_reader_text a_t_line d_t_line i_t_line_143 r_t_line_grades r_t_haltNames r_t_kindNames r_t_line_halts r_t_line_loops r_t_line_kinds r_t_line_first) H locs := hB.sub [7, 8, 9, 10, 0, 1, 2, 3, 4, 5, 6] (by decide) rfl
                        refine lv_if_eq (tgt := 236) hx hb dX4_readRow_219 (by decide) (fun c_151 => ?_) (fun c_151 => ?_)
                        · replace hf := hf.1 c_151
                          refine lv_iconst (v := 0) hx hb dX4_readRow_236 (by decide) ?_
                          exact r_z F hr hlk hB (Or.inl rfl) ⟨Or.inl rfl, _, _, _, _, _, _, _, _, _, _, _, rfl, hf⟩ dX4_readRow_237
                        · replace hf := hf.2 c_151
                          refine lv_aload_n hx hb dX4_readRow_222 rfl (lv_at hl 0 rfl) ?_
                          refine g_get (w := .ref (d_t 0)) F hB 0 rfl fl_RX4_12 rfl dX4_readRow_223 ?_
                          refine k_vi (wr := [(a_t, ob 4 (vmx 4 d_t w_t) i_t_137 j0), (a_t_line, ob 3 (rfd d_t_line) i_t_line_143 j0), ((d_t_line 0), ai k 400 r_t_line_grades), ((d_t 1), aj k 10 r_t_haltNames), ((d_t 2), aj k 6 r_t_kindNames), ((d_t_line 2), ai k 30 r_t_line_halts), ((d_t_line 4), ai k 16 r_t_line_loops), ((d_t_line 6), ai k 18 r_t_line_kinds), ((d_t_line 8), ai k 8 r_t_line_first)]) (rest := []) F hA hB (c_Reader_nextCloses l D k (d_t 0) w_t_reader i_t_reader_141 j_t_reader_142 a_t_reader_text r_t_reader_text _ hw_t_reader_text hf) ml_RX4_67 mv_yX7_nextCloses [1, 2] [0, 3, 4, 5, 6, 7, 8, 9, 10] rfl rfl (by decide) (by decide) (by decide) 1 rfl rfl rfl hl.1 rfl (Nat.le_of_ble_eq_true rfl) ⟨Nat.le_of_ble_eq_true rfl, Nat.le_of_ble_eq_true rfl⟩ ⟨Nat.le_of_ble_eq_true rfl, Nat.le_of_ble_eq_true rfl⟩ dX4_readRow_226 (fun z_148 w1 H locs hq hB => ?_)
                          obtain ⟨h_149, i_t_reader_146, j_t_reader_147, rfl, hf⟩ := hq
                          replace hB : Bd D A s.heap (wd_LineReader_readRow k a_t d_t w_t i_t_137 w_t_reader i_t_reader_146 j_t_reader_147 a_t_reader_text r_t_reader_text a_t_line d_t_line i_t_line_143 r_t_line_grades r_t_haltNames r_t_kindNames r_t_line_halts r_t_line_loops r_t_line_kinds r_t_line_first) H locs := hB.sub [0, 9, 10, 1, 2, 3, 4, 5, 6, 7, 8] (by decide) rfl
                          refine lv_if_eq (tgt := 236) hx hb dX4_readRow_229 (by decide) (fun c_150 => ?_) (fun c_150 => ?_)
                          · replace hf := hf.1 c_150
                            refine lv_iconst (v := 0) hx hb dX4_readRow_236 (by decide) ?_
                            exact r_z F hr hlk hB (Or.inl rfl) ⟨Or.inl rfl, _, _, _, _, _, _, _, _, _, _, _, rfl, hf⟩ dX4_readRow_237
                          · replace hf := hf.2 c_150
                            refine lv_iconst (v := 1) hx hb dX4_readRow_232 (by decide) ?_
                            refine lv_goto (tgt := 237) hx hb dX4_readRow_233 (by decide) ?_
                            exact r_z F hr hlk hB (Or.inr rfl) ⟨Or.inr rfl, _, _, _, _, _, _, _, _, _, _, _, rfl, hf⟩ dX4_readRow_237
                    · replace hf := hf.2 c_136
                      rcases Classical.em (n1 = 10) with c_153 | c_153
                      · replace hf := hf.1 c_153
                        refine lv_tableIn (tgt := 238) hx hb dX4_readRow_1 (by rw [c_153]; decide) (by rw [c_153]; decide) (by rw [c_153]; rfl) (by decide) ?_
                        refine lv_aload_n hx hb dX4_readRow_238 rfl (lv_at hl 0 rfl) ?_
                        refine lv_iload_n hx hb dX4_readRow_239 rfl (lv_at hl 1 rfl) ?_
                        refine k_vi (wr := [(a_t_reader_text, ai k 940 r_t_reader_text), (a_t_line, ob 3 (rfd d_t_line) i_t_line j0), ((d_t_line 0), ai k 400 r_t_line_grades), ((d_t 1), aj k 10 r_t_haltNames), ((d_t 2), aj k 6 r_t_kindNames), ((d_t_line 2), ai k 30 r_t_line_halts), ((d_t_line 4), ai k 16 r_t_line_loops), ((d_t_line 6), ai k 18 r_t_line_kinds), ((d_t_line 8), ai k 8 r_t_line_first)]) (rest := []) F hA hB (c_LineReader_tellOnce l D k a_t d_t w_t i_t w_t_reader i_t_reader j_t_reader n1 _  hf) ml_RX4_82 mv_yX4_tellOnce [0, 1] [2, 3, 4, 5, 6, 7, 8, 9, 10] rfl rfl (by decide) (by decide) (by decide) 0 rfl rfl rfl hl.1 rfl (Nat.le_of_ble_eq_true rfl) ⟨Nat.le_of_ble_eq_true rfl, Nat.le_of_ble_eq_true rfl⟩ ⟨Nat.le_of_ble_eq_true rfl, Nat.le_of_ble_eq_true rfl⟩ dX4_readRow_240 (fun z_156 w1 H locs hq hB => ?_)
                        obtain ⟨h_157, i_t_154, i_t_reader_155, rfl, hf⟩ := hq
                        replace hB : Bd D A s.heap (wd_LineReader_readRow k a_t d_t w_t i_t_154 w_t_reader i_t_reader_155 j_t_reader a_t_reader_text r_t_reader_text a_t_line d_t_line i_t_line r_t_line_grades r_t_haltNames r_t_kindNames r_t_line_halts r_t_line_loops r_t_line_kinds r_t_line_first) H locs := hB.sub [9, 10, 0, 1, 2, 3, 4, 5, 6, 7, 8] (by decide) rfl
                        refine lv_if_eq (tgt := 257) hx hb dX4_readRow_243 (by decide) (fun c_165 => ?_) (fun c_165 => ?_)
                        · replace hf := hf.1 c_165
                          refine lv_iconst (v := 0) hx hb dX4_readRow_257 (by decide) ?_
                          exact r_z F hr hlk hB (Or.inl rfl) ⟨Or.inl rfl, _, _, _, _, _, _, _, _, _, _, _, rfl, hf⟩ dX4_readRow_258
                        · replace hf := hf.2 c_165
                          refine lv_aload_n hx hb dX4_readRow_246 rfl (lv_at hl 0 rfl) ?_
                          refine ke_vi (wr := [((d_t_line 0), ai k 400 r_t_line_grades), ((d_t 1), aj k 10 r_t_haltNames), ((d_t_line 2), ai k 30 r_t_line_halts), ((d_t_line 4), ai k 16 r_t_line_loops), ((d_t_line 6), ai k 18 r_t_line_kinds)]) (rest := []) F hE hA hB (c_LineReader_readTrain l D k K a_t d_t w_t i_t_154 w_t_reader i_t_reader_155 j_t_reader a_t_reader_text r_t_reader_text r_t_kindNames a_t_line d_t_line i_t_line r_t_line_first _ hw_t_reader_text hw_t_line hf) ml_RX4_91 mv_yX4_readTrain [0, 1, 2, 6, 3, 10] [4, 5, 7, 8, 9] rfl rfl (by decide) (by decide) (by decide) (rcv F hB 0 rfl rfl) rfl hl.1 rfl (Nat.le_of_ble_eq_true rfl) ⟨Nat.le_of_ble_eq_true rfl, Nat.le_of_ble_eq_true rfl⟩ ⟨Nat.le_of_ble_eq_true rfl, Nat.le_of_ble_eq_true rfl⟩ dX4_readRow_247 (fun z_162 w1 H locs hq hB => ?_)
                          obtain ⟨h_163, i_t_reader_158, j_t_reader_159, i_t_line_160, r_t_line_first_161, rfl, hf⟩ := hq
                          replace hB : Bd D A s.heap (wd_LineReader_readRow k a_t d_t w_t i_t_154 w_t_reader i_t_reader_158 j_t_reader_159 a_t_reader_text r_t_reader_text a_t_line d_t_line i_t_line_160 r_t_line_grades r_t_haltNames r_t_kindNames r_t_line_halts r_t_line_loops r_t_line_kinds r_t_line_first_161) H locs := hB.sub [5, 6, 7, 9, 0, 1, 8, 2, 3, 4, 10] (by decide) rfl
                          refine lv_if_eq (tgt := 257) hx hb dX4_readRow_250 (by decide) (fun c_164 => ?_) (fun c_164 => ?_)
                          · replace hf := hf.1 c_164
                            refine lv_iconst (v := 0) hx hb dX4_readRow_257 (by decide) ?_
                            exact r_z F hr hlk hB (Or.inl rfl) ⟨Or.inl rfl, _, _, _, _, _, _, _, _, _, _, _, rfl, hf⟩ dX4_readRow_258
                          · replace hf := hf.2 c_164
                            refine lv_iconst (v := 1) hx hb dX4_readRow_253 (by decide) ?_
                            refine lv_goto (tgt := 258) hx hb dX4_readRow_254 (by decide) ?_
                            exact r_z F hr hlk hB (Or.inr rfl) ⟨Or.inr rfl, _, _, _, _, _, _, _, _, _, _, _, rfl, hf⟩ dX4_readRow_258
                      · replace hf := hf.2 c_153
                        refine lv_tableOut (tgt := 259) hx hb dX4_readRow_1 (sw_out (fun z h1 h2 h3 => by
                            have h4 : z = 0 ∨ z = 1 ∨ z = 2 ∨ z = 3 ∨ z = 4 ∨ z = 5 ∨ z = 6 ∨ z = 7 ∨ z = 8 ∨ z = 9 ∨ z = 10 ∨ False := by omega
                            rcases h4 with h4 | h4 | h4 | h4 | h4 | h4 | h4 | h4 | h4 | h4 | h4 | h4
                            · exact c_1 (Int32.toInt_inj.mp (h3.trans (h4.trans (by decide))))
                            · exact c_15 (Int32.toInt_inj.mp (h3.trans (h4.trans (by decide))))
                            · exact c_29 (Int32.toInt_inj.mp (h3.trans (h4.trans (by decide))))
                            · exact c_42 (Int32.toInt_inj.mp (h3.trans (h4.trans (by decide))))
                            · exact c_56 (Int32.toInt_inj.mp (h3.trans (h4.trans (by decide))))
                            · exact c_68 (Int32.toInt_inj.mp (h3.trans (h4.trans (by decide))))
                            · exact c_85 (Int32.toInt_inj.mp (h3.trans (h4.trans (by decide))))
                            · exact c_102 (Int32.toInt_inj.mp (h3.trans (h4.trans (by decide))))
                            · exact c_119 (Int32.toInt_inj.mp (h3.trans (h4.trans (by decide))))
                            · exact c_136 (Int32.toInt_inj.mp (h3.trans (h4.trans (by decide))))
                            · exact c_153 (Int32.toInt_inj.mp (h3.trans (h4.trans (by decide))))
                            · exact h4)) (by decide) ?_
                        refine lv_aload_n hx hb dX4_readRow_259 rfl (lv_at hl 0 rfl) ?_
                        refine g_get (w := .ref (d_t 0)) F hB 0 rfl fl_RX4_12 rfl dX4_readRow_260 ?_
                        refine lv_iconst (v := 1) hx hb dX4_readRow_263 (by decide) ?_
                        refine k_vi (wr := [(a_t, ob 4 (vmx 4 d_t w_t) i_t j0), (a_t_reader_text, ai k 940 r_t_reader_text), (a_t_line, ob 3 (rfd d_t_line) i_t_line j0), ((d_t_line 0), ai k 400 r_t_line_grades), ((d_t 1), aj k 10 r_t_haltNames), ((d_t 2), aj k 6 r_t_kindNames), ((d_t_line 2), ai k 30 r_t_line_halts), ((d_t_line 4), ai k 16 r_t_line_loops), ((d_t_line 6), ai k 18 r_t_line_kinds), ((d_t_line 8), ai k 8 r_t_line_first)]) (rest := []) F hA hB (c_Reader_failHere l D k (d_t 0) w_t_reader i_t_reader j_t_reader (1 : Int32) _  hf) ml_RX4_94 mv_yX7_failHere [1] [0, 2, 3, 4, 5, 6, 7, 8, 9, 10] rfl rfl (by decide) (by decide) (by decide) 1 rfl rfl rfl hl.1 rfl (Nat.le_of_ble_eq_true rfl) ⟨Nat.le_of_ble_eq_true rfl, Nat.le_of_ble_eq_true rfl⟩ ⟨Nat.le_of_ble_eq_true rfl, Nat.le_of_ble_eq_true rfl⟩ dX4_readRow_264 (fun z_167 w1 H locs hq hB => ?_)
                        obtain ⟨h_168, i_t_reader_166, rfl, hf⟩ := hq
                        replace hB : Bd D A s.heap (wd_LineReader_readRow k a_t d_t w_t i_t w_t_reader i_t_reader_166 j_t_reader a_t_reader_text r_t_reader_text a_t_line d_t_line i_t_line r_t_line_grades r_t_haltNames r_t_kindNames r_t_line_halts r_t_line_loops r_t_line_kinds r_t_line_first) H locs := hB.sub [0, 10, 1, 2, 3, 4, 5, 6, 7, 8, 9] (by decide) rfl
                        exact r_z F hr hlk hB (h_168) ⟨h_168, _, _, _, _, _, _, _, _, _, _, _, rfl, hf⟩ dX4_readRow_267

/-! LongTrain.LineReader.read -/
set_option maxRecDepth 100000 in
set_option maxHeartbeats 4000000 in
theorem bt_LineReader_read_44 {p : Program} {l : Launch} {e : Env} {s : State} {m : MethodId} {below : List Frame} {meth : Method} {c : Code} {A : Nat → Prop} {D : va_G} {k : Nat → ClassId}  {K : Nat → Nat} {a_t : Nat} {d_t : Nat → Nat} {w_t : Nat → Value} {a_p1 : Nat} {r_p1 : Nat → Int32} {a_p3 : Nat} {d_p3 : Nat → Nat} {w_t_reader : Nat → Value} {n2 : Int32} {Q : Int32 → (Nat → Int32) → (Nat → Int32) → (Nat → Int32) → (Nat → Int64) → (Nat → Int32) → (Nat → Int64) → (Nat → Int64) → (Nat → Int32) → (Nat → Int32) → (Nat → Int32) → (Nat → Int32) → Prop}  {kx_44 : (Int32) → (Nat → Int32) → (Nat → Int32) → (Nat → Int32) → (Nat → Int64) → (Nat → Int32) → (Nat → Int64) → (Nat → Int64) → (Nat → Int32) → (Nat → Int32) → (Nat → Int32) → (Nat → Int32) → Prop} {kr_44 : (Int32) → (Nat → Int32) → (Nat → Int32) → (Nat → Int32) → (Nat → Int64) → (Nat → Int32) → (Nat → Int64) → (Nat → Int64) → (Nat → Int32) → (Nat → Int32) → (Nat → Int32) → (Nat → Int32) → Prop} (F : Fx p m c cX4_read 5 s ([.ref a_t, .ref a_p1, .int n2, .ref a_p3] : List Value).toArray RX4 D k) (hr : meth.sig.returnType = (some .int)) (hlk : meth.locks = false) (hA : ∀ q : Nat, s.heap.size ≤ q → A q) (hE : Am K A s s.heap) (hkx_44 : ∀ (x4 : Int32) (i_t : Nat → Int32) (i_p3 : Nat → Int32) (i_t_reader : Nat → Int32) (j_t_reader : Nat → Int64) (r_p3_grades : Nat → Int32) (r_t_haltNames : Nat → Int64) (r_t_kindNames : Nat → Int64) (r_p3_halts : Nat → Int32) (r_p3_loops : Nat → Int32) (r_p3_kinds : Nat → Int32) (r_p3_first : Nat → Int32) (H : Heap) (locs : List Loc) (ls : Array Slot), kx_44 x4 i_t i_p3 i_t_reader j_t_reader r_p3_grades r_t_haltNames r_t_kindNames r_p3_halts r_p3_loops r_p3_kinds r_p3_first → Bd D A s.heap (wd_LineReader_read k a_t d_t (updV w_t 3 (.ref a_p3)) i_t a_p1 r_p1 a_p3 d_p3 i_p3 (updV w_t_reader 0 (.ref a_p1)) i_t_reader j_t_reader r_p3_grades r_t_haltNames r_t_kindNames r_p3_halts r_p3_loops r_p3_kinds r_p3_first) H locs → lv_has ls 5 [(0, .ref a_t), (4, .int x4)] → W p l e { frames := 10, cells := 0, slots := 0, locals := 213 } s m ([.ref a_t, .ref a_p1, .int n2, .ref a_p3] : List Value).toArray below meth c H locs 0 0 (Ei below (fun r w => ∃ (i_t : Nat → Int32), ∃ (i_p3 : Nat → Int32), ∃ (i_t_reader : Nat → Int32), ∃ (j_t_reader : Nat → Int64), ∃ (r_p3_grades : Nat → Int32), ∃ (r_t_haltNames : Nat → Int64), ∃ (r_t_kindNames : Nat → Int64), ∃ (r_p3_halts : Nat → Int32), ∃ (r_p3_loops : Nat → Int32), ∃ (r_p3_kinds : Nat → Int32), ∃ (r_p3_first : Nat → Int32), w = (wd_LineReader_read k a_t d_t (updV w_t 3 (.ref a_p3)) i_t a_p1 r_p1 a_p3 d_p3 i_p3 (updV w_t_reader 0 (.ref a_p1)) i_t_reader j_t_reader r_p3_grades r_t_haltNames r_t_kindNames r_p3_halts r_p3_loops r_p3_kinds r_p3_first) ∧ Q r i_t i_p3 i_t_reader j_t_reader r_p3_grades r_t_haltNames r_t_kindNames r_p3_halts r_p3_loops r_p3_kinds r_p3_first) D k A ([.ref a_t, .ref a_p1, .int n2, .ref a_p3] : List Value).toArray s 0 0) (F0 m 89 ls [])) (hkr_44 : ∀ (x4 : Int32) (i_t : Nat → Int32) (i_p3 : Nat → Int32) (i_t_reader : Nat → Int32) (j_t_reader : Nat → Int64) (r_p3_grades : Nat → Int32) (r_t_haltNames : Nat → Int64) (r_t_kindNames : Nat → Int64) (r_p3_halts : Nat → Int32) (r_p3_loops : Nat → Int32) (r_p3_kinds : Nat → Int32) (r_p3_first : Nat → Int32) (H : Heap) (locs : List Loc) (ls : Array Slot), kr_44 x4 i_t i_p3 i_t_reader j_t_reader r_p3_grades r_t_haltNames r_t_kindNames r_p3_halts r_p3_loops r_p3_kinds r_p3_first → Bd D A s.heap (wd_LineReader_read k a_t d_t (updV w_t 3 (.ref a_p3)) i_t a_p1 r_p1 a_p3 d_p3 i_p3 (updV w_t_reader 0 (.ref a_p1)) i_t_reader j_t_reader r_p3_grades r_t_haltNames r_t_kindNames r_p3_halts r_p3_loops r_p3_kinds r_p3_first) H locs → lv_has ls 5 [(0, .ref a_t), (4, .int x4)] → W p l e { frames := 10, cells := 0, slots := 0, locals := 213 } s m ([.ref a_t, .ref a_p1, .int n2, .ref a_p3] : List Value).toArray below meth c H locs 0 0 (Ei below (fun r w => ∃ (i_t : Nat → Int32), ∃ (i_p3 : Nat → Int32), ∃ (i_t_reader : Nat → Int32), ∃ (j_t_reader : Nat → Int64), ∃ (r_p3_grades : Nat → Int32), ∃ (r_t_haltNames : Nat → Int64), ∃ (r_t_kindNames : Nat → Int64), ∃ (r_p3_halts : Nat → Int32), ∃ (r_p3_loops : Nat → Int32), ∃ (r_p3_kinds : Nat → Int32), ∃ (r_p3_first : Nat → Int32), w = (wd_LineReader_read k a_t d_t (updV w_t 3 (.ref a_p3)) i_t a_p1 r_p1 a_p3 d_p3 i_p3 (updV w_t_reader 0 (.ref a_p1)) i_t_reader j_t_reader r_p3_grades r_t_haltNames r_t_kindNames r_p3_halts r_p3_loops r_p3_kinds r_p3_first) ∧ Q r i_t i_p3 i_t_reader j_t_reader r_p3_grades r_t_haltNames r_t_kindNames r_p3_halts r_p3_loops r_p3_kinds r_p3_first) D k A ([.ref a_t, .ref a_p1, .int n2, .ref a_p3] : List Value).toArray s 0 0) (F0 m 44 ls [])) :
    ∀ (x4 : Int32) (i_t : Nat → Int32) (i_p3 : Nat → Int32) (i_t_reader : Nat → Int32) (j_t_reader : Nat → Int64) (r_p3_grades : Nat → Int32) (r_t_haltNames : Nat → Int64) (r_t_kindNames : Nat → Int64) (r_p3_halts : Nat → Int32) (r_p3_loops : Nat → Int32) (r_p3_kinds : Nat → Int32) (r_p3_first : Nat → Int32) (H : Heap) (locs : List Loc) (ls : Array Slot), b_LineReader_read_44 r_p1 kx_44 kr_44 x4 i_t i_p3 i_t_reader j_t_reader r_p3_grades r_t_haltNames r_t_kindNames r_p3_halts r_p3_loops r_p3_kinds r_p3_first → Bd D A s.heap (wd_LineReader_read k a_t d_t (updV w_t 3 (.ref a_p3)) i_t a_p1 r_p1 a_p3 d_p3 i_p3 (updV w_t_reader 0 (.ref a_p1)) i_t_reader j_t_reader r_p3_grades r_t_haltNames r_t_kindNames r_p3_halts r_p3_loops r_p3_kinds r_p3_first) H locs → lv_has ls 5 [(0, .ref a_t), (4, .int x4)] → W p l e { frames := 10, cells := 0, slots := 0, locals := 213 } s m ([.ref a_t, .ref a_p1, .int n2, .ref a_p3] : List Value).toArray below meth c H locs 0 0 (Ei below (fun r w => ∃ (i_t : Nat → Int32), ∃ (i_p3 : Nat → Int32), ∃ (i_t_reader : Nat → Int32), ∃ (j_t_reader : Nat → Int64), ∃ (r_p3_grades : Nat → Int32), ∃ (r_t_haltNames : Nat → Int64), ∃ (r_t_kindNames : Nat → Int64), ∃ (r_p3_halts : Nat → Int32), ∃ (r_p3_loops : Nat → Int32), ∃ (r_p3_kinds : Nat → Int32), ∃ (r_p3_first : Nat → Int32), w = (wd_LineReader_read k a_t d_t (updV w_t 3 (.ref a_p3)) i_t a_p1 r_p1 a_p3 d_p3 i_p3 (updV w_t_reader 0 (.ref a_p1)) i_t_reader j_t_reader r_p3_grades r_t_haltNames r_t_kindNames r_p3_halts r_p3_loops r_p3_kinds r_p3_first) ∧ Q r i_t i_p3 i_t_reader j_t_reader r_p3_grades r_t_haltNames r_t_kindNames r_p3_halts r_p3_loops r_p3_kinds r_p3_first) D k A ([.ref a_t, .ref a_p1, .int n2, .ref a_p3] : List Value).toArray s 0 0) (F0 m 44 ls []) := by
  have hx := F.x
  have hb := F.b
  intro x4 i_t i_p3 i_t_reader j_t_reader r_p3_grades r_t_haltNames r_t_kindNames r_p3_halts r_p3_loops r_p3_kinds r_p3_first H locs ls hf hB hl
  unfold b_LineReader_read_44 at hf
  refine lv_iload hx hb dX4_read_44 (lv_at hl 1 rfl) ?_
  refine lv_sipush (v := 900) hx hb dX4_read_46 (by decide) ?_
  refine lv_icmp_ge (tgt := 89) hx hb dX4_read_49 (by decide) (fun c_26 => ?_) (fun c_26 => ?_)
  · replace hf := hf.1 c_26
    exact hkx_44 _ _ _ _ _ _ _ _ _ _ _ _ _ _ _ hf hB (lv_sub hl [0, 1] rfl)
  · replace hf := hf.2 c_26
    refine lv_aload_n hx hb dX4_read_52 rfl (lv_at hl 0 rfl) ?_
    refine g_get (w := .ref (d_t 0)) F hB 0 rfl fl_RX4_12 rfl dX4_read_53 ?_
    refine k_vi (wr := [(a_t, ob 4 (vmx 4 d_t (updV w_t 3 (.ref a_p3))) i_t j0), (a_p1, ai k 940 r_p1), (a_p3, ob 3 (rfd d_p3) i_p3 j0), ((d_p3 0), ai k 400 r_p3_grades), ((d_t 1), aj k 10 r_t_haltNames), ((d_t 2), aj k 6 r_t_kindNames), ((d_p3 2), ai k 30 r_p3_halts), ((d_p3 4), ai k 16 r_p3_loops), ((d_p3 6), ai k 18 r_p3_kinds), ((d_p3 8), ai k 8 r_p3_first)]) (rest := []) F hA hB (c_Reader_isAtEnd l D k (d_t 0) (updV w_t_reader 0 (.ref a_p1)) i_t_reader j_t_reader _  hf) ml_RX4_48 mv_yX7_isAtEnd [3] [0, 1, 2, 4, 5, 6, 7, 8, 9, 10] rfl rfl (by decide) (by decide) (by decide) 3 rfl rfl rfl hl.1 rfl (Nat.le_of_ble_eq_true rfl) ⟨Nat.le_of_ble_eq_true rfl, Nat.le_of_ble_eq_true rfl⟩ ⟨Nat.le_of_ble_eq_true rfl, Nat.le_of_ble_eq_true rfl⟩ dX4_read_56 (fun z_6 w1 H locs hq hB => ?_)
    obtain ⟨h_7, i_t_reader_5, rfl, hf⟩ := hq
    replace hB : Bd D A s.heap (wd_LineReader_read k a_t d_t (updV w_t 3 (.ref a_p3)) i_t a_p1 r_p1 a_p3 d_p3 i_p3 (updV w_t_reader 0 (.ref a_p1)) i_t_reader_5 j_t_reader r_p3_grades r_t_haltNames r_t_kindNames r_p3_halts r_p3_loops r_p3_kinds r_p3_first) H locs := hB.sub [0, 1, 2, 10, 3, 4, 5, 6, 7, 8, 9] (by decide) rfl
    refine lv_if_ne (tgt := 89) hx hb dX4_read_59 (by decide) (fun c_25 => ?_) (fun c_25 => ?_)
    · replace hf := hf.1 c_25
      exact hkx_44 _ _ _ _ _ _ _ _ _ _ _ _ _ _ _ hf hB (lv_sub hl [0, 1] rfl)
    · replace hf := hf.2 c_25
      refine lv_aload_n hx hb dX4_read_62 rfl (lv_at hl 0 rfl) ?_
      refine lv_aload_n hx hb dX4_read_63 rfl (lv_at hl 0 rfl) ?_
      refine g_get (w := .ref (d_t 0)) F hB 0 rfl fl_RX4_12 rfl dX4_read_64 ?_
      refine ke_vi (wr := [(a_t, ob 4 (vmx 4 d_t (updV w_t 3 (.ref a_p3))) i_t j0), (a_p3, ob 3 (rfd d_p3) i_p3 j0), ((d_p3 0), ai k 400 r_p3_grades), ((d_t 1), aj k 10 r_t_haltNames), ((d_t 2), aj k 6 r_t_kindNames), ((d_p3 2), ai k 30 r_p3_halts), ((d_p3 4), ai k 16 r_p3_loops), ((d_p3 6), ai k 18 r_p3_kinds), ((d_p3 8), ai k 8 r_p3_first)]) (rest := [.ref a_t]) F hE hA hB (c_Reader_keyword l D k K (d_t 0) (updV w_t_reader 0 (.ref a_p1)) i_t_reader_5 j_t_reader a_p1 r_p1 _ rfl hf) ml_RX4_52 mv_yX7_keyword [3, 1] [0, 2, 4, 5, 6, 7, 8, 9, 10] rfl rfl (by decide) (by decide) (by decide) (rcv F hB 3 rfl rfl) rfl hl.1 rfl (Nat.le_of_ble_eq_true rfl) ⟨Nat.le_of_ble_eq_true rfl, Nat.le_of_ble_eq_true rfl⟩ ⟨Nat.le_of_ble_eq_true rfl, Nat.le_of_ble_eq_true rfl⟩ dX4_read_67 (fun z_8 w1 H locs hq hB => ?_)
      obtain ⟨rfl, hf⟩ := hq
      replace hB : Bd D A s.heap (wd_LineReader_read k a_t d_t (updV w_t 3 (.ref a_p3)) i_t a_p1 r_p1 a_p3 d_p3 i_p3 (updV w_t_reader 0 (.ref a_p1)) i_t_reader_5 j_t_reader r_p3_grades r_t_haltNames r_t_kindNames r_p3_halts r_p3_loops r_p3_kinds r_p3_first) H locs := hB.sub [0, 10, 1, 9, 2, 3, 4, 5, 6, 7, 8] (by decide) rfl
      refine ke_vi (wr := []) (rest := []) F hE hA hB (c_LineReader_readRow l D k K a_t d_t (updV w_t 3 (.ref a_p3)) i_t (updV w_t_reader 0 (.ref a_p1)) i_t_reader_5 j_t_reader a_p1 r_p1 a_p3 d_p3 i_p3 r_p3_grades r_t_haltNames r_t_kindNames r_p3_halts r_p3_loops r_p3_kinds r_p3_first z_8 _ rfl rfl hf) ml_RX4_56 mv_yX4_readRow [0, 3, 1, 2, 4, 5, 6, 7, 8, 9, 10] [] rfl rfl (by decide) (by decide) (by decide) (rcv F hB 0 rfl rfl) rfl hl.1 rfl (Nat.le_of_ble_eq_true rfl) ⟨Nat.le_of_ble_eq_true rfl, Nat.le_of_ble_eq_true rfl⟩ ⟨Nat.le_of_ble_eq_true rfl, Nat.le_of_ble_eq_true rfl⟩ dX4_read_70 (fun z_20 w1 H locs hq hB => ?_)
      obtain ⟨h_21, i_t_9, i_t_reader_10, j_t_reader_11, i_p3_12, r_p3_grades_13, r_t_haltNames_14, r_t_kindNames_15, r_p3_halts_16, r_p3_loops_17, r_p3_kinds_18, r_p3_first_19, rfl, hf⟩ := hq
      replace hB : Bd D A s.heap (wd_LineReader_read k a_t d_t (updV w_t 3 (.ref a_p3)) i_t_9 a_p1 r_p1 a_p3 d_p3 i_p3_12 (updV w_t_reader 0 (.ref a_p1)) i_t_reader_10 j_t_reader_11 r_p3_grades_13 r_t_haltNames_14 r_t_kindNames_15 r_p3_halts_16 r_p3_loops_17 r_p3_kinds_18 r_p3_first_19) H locs := hB.sub [0, 2, 3, 1, 4, 5, 6, 7, 8, 9, 10] (by decide) rfl
      refine lv_if_eq (tgt := 89) hx hb dX4_read_73 (by decide) (fun c_24 => ?_) (fun c_24 => ?_)
      · replace hf := hf.1 c_24
        exact hkx_44 _ _ _ _ _ _ _ _ _ _ _ _ _ _ _ hf hB (lv_sub hl [0, 1] rfl)
      · replace hf := hf.2 c_24
        refine lv_iinc (v := (x4 + 1)) (lv' := [(4, .int (x4 + 1)), (0, .ref a_t)]) (k := 1) hx hb dX4_read_76 hl rfl rfl (by decide) rfl (fun ls hl => ?_)
        refine lv_aload_n hx hb dX4_read_79 rfl (lv_at hl 1 rfl) ?_
        refine g_get (w := .ref (d_t 0)) F hB 0 rfl fl_RX4_12 rfl dX4_read_80 ?_
        refine k_vv (wr := [(a_t, ob 4 (vmx 4 d_t (updV w_t 3 (.ref a_p3))) i_t_9 j0), (a_p3, ob 3 (rfd d_p3) i_p3_12 j0), ((d_p3 0), ai k 400 r_p3_grades_13), ((d_t 1), aj k 10 r_t_haltNames_14), ((d_t 2), aj k 6 r_t_kindNames_15), ((d_p3 2), ai k 30 r_p3_halts_16), ((d_p3 4), ai k 16 r_p3_loops_17), ((d_p3 6), ai k 18 r_p3_kinds_18), ((d_p3 8), ai k 8 r_p3_first_19)]) (rest := []) F hA hB (c_Reader_advance l D k (d_t 0) (updV w_t_reader 0 (.ref a_p1)) i_t_reader_10 j_t_reader_11 a_p1 r_p1 _ rfl hf) ml_RX4_45 mv_yX7_advance [3, 1] [0, 2, 4, 5, 6, 7, 8, 9, 10] rfl rfl (by decide) (by decide) (by decide) 3 rfl rfl rfl hl.1 rfl (Nat.le_of_ble_eq_true rfl) ⟨Nat.le_of_ble_eq_true rfl, Nat.le_of_ble_eq_true rfl⟩ ⟨Nat.le_of_ble_eq_true rfl, Nat.le_of_ble_eq_true rfl⟩ dX4_read_83 (fun w1 H locs hq hB => ?_)
        obtain ⟨i_t_reader_22, j_t_reader_23, rfl, hf⟩ := hq
        replace hB : Bd D A s.heap (wd_LineReader_read k a_t d_t (updV w_t 3 (.ref a_p3)) i_t_9 a_p1 r_p1 a_p3 d_p3 i_p3_12 (updV w_t_reader 0 (.ref a_p1)) i_t_reader_22 j_t_reader_23 r_p3_grades_13 r_t_haltNames_14 r_t_kindNames_15 r_p3_halts_16 r_p3_loops_17 r_p3_kinds_18 r_p3_first_19) H locs := hB.sub [0, 10, 1, 9, 2, 3, 4, 5, 6, 7, 8] (by decide) rfl
        refine lv_goto (tgt := 44) hx hb dX4_read_86 (by decide) ?_
        exact hkr_44 _ _ _ _ _ _ _ _ _ _ _ _ _ _ _ hf hB (lv_sub hl [1, 0] rfl)

set_option maxRecDepth 100000 in
set_option maxHeartbeats 4000000 in
theorem lt_LineReader_read_44 {p : Program} {l : Launch} {e : Env} {s : State} {m : MethodId} {below : List Frame} {meth : Method} {c : Code} {A : Nat → Prop} {D : va_G} {k : Nat → ClassId}  {K : Nat → Nat} {a_t : Nat} {d_t : Nat → Nat} {w_t : Nat → Value} {a_p1 : Nat} {r_p1 : Nat → Int32} {a_p3 : Nat} {d_p3 : Nat → Nat} {w_t_reader : Nat → Value} {n2 : Int32} {Q : Int32 → (Nat → Int32) → (Nat → Int32) → (Nat → Int32) → (Nat → Int64) → (Nat → Int32) → (Nat → Int64) → (Nat → Int64) → (Nat → Int32) → (Nat → Int32) → (Nat → Int32) → (Nat → Int32) → Prop}  {kx_44 : (Int32) → (Nat → Int32) → (Nat → Int32) → (Nat → Int32) → (Nat → Int64) → (Nat → Int32) → (Nat → Int64) → (Nat → Int64) → (Nat → Int32) → (Nat → Int32) → (Nat → Int32) → (Nat → Int32) → Prop} (F : Fx p m c cX4_read 5 s ([.ref a_t, .ref a_p1, .int n2, .ref a_p3] : List Value).toArray RX4 D k) (hr : meth.sig.returnType = (some .int)) (hlk : meth.locks = false) (hA : ∀ q : Nat, s.heap.size ≤ q → A q) (hE : Am K A s s.heap) (hkx_44 : ∀ (x4 : Int32) (i_t : Nat → Int32) (i_p3 : Nat → Int32) (i_t_reader : Nat → Int32) (j_t_reader : Nat → Int64) (r_p3_grades : Nat → Int32) (r_t_haltNames : Nat → Int64) (r_t_kindNames : Nat → Int64) (r_p3_halts : Nat → Int32) (r_p3_loops : Nat → Int32) (r_p3_kinds : Nat → Int32) (r_p3_first : Nat → Int32) (H : Heap) (locs : List Loc) (ls : Array Slot), kx_44 x4 i_t i_p3 i_t_reader j_t_reader r_p3_grades r_t_haltNames r_t_kindNames r_p3_halts r_p3_loops r_p3_kinds r_p3_first → Bd D A s.heap (wd_LineReader_read k a_t d_t (updV w_t 3 (.ref a_p3)) i_t a_p1 r_p1 a_p3 d_p3 i_p3 (updV w_t_reader 0 (.ref a_p1)) i_t_reader j_t_reader r_p3_grades r_t_haltNames r_t_kindNames r_p3_halts r_p3_loops r_p3_kinds r_p3_first) H locs → lv_has ls 5 [(0, .ref a_t), (4, .int x4)] → W p l e { frames := 10, cells := 0, slots := 0, locals := 213 } s m ([.ref a_t, .ref a_p1, .int n2, .ref a_p3] : List Value).toArray below meth c H locs 0 0 (Ei below (fun r w => ∃ (i_t : Nat → Int32), ∃ (i_p3 : Nat → Int32), ∃ (i_t_reader : Nat → Int32), ∃ (j_t_reader : Nat → Int64), ∃ (r_p3_grades : Nat → Int32), ∃ (r_t_haltNames : Nat → Int64), ∃ (r_t_kindNames : Nat → Int64), ∃ (r_p3_halts : Nat → Int32), ∃ (r_p3_loops : Nat → Int32), ∃ (r_p3_kinds : Nat → Int32), ∃ (r_p3_first : Nat → Int32), w = (wd_LineReader_read k a_t d_t (updV w_t 3 (.ref a_p3)) i_t a_p1 r_p1 a_p3 d_p3 i_p3 (updV w_t_reader 0 (.ref a_p1)) i_t_reader j_t_reader r_p3_grades r_t_haltNames r_t_kindNames r_p3_halts r_p3_loops r_p3_kinds r_p3_first) ∧ Q r i_t i_p3 i_t_reader j_t_reader r_p3_grades r_t_haltNames r_t_kindNames r_p3_halts r_p3_loops r_p3_kinds r_p3_first) D k A ([.ref a_t, .ref a_p1, .int n2, .ref a_p3] : List Value).toArray s 0 0) (F0 m 89 ls [])) :
    ∀ n : Nat, ∀ (x4 : Int32) (i_t : Nat → Int32) (i_p3 : Nat → Int32) (i_t_reader : Nat → Int32) (j_t_reader : Nat → Int64) (r_p3_grades : Nat → Int32) (r_t_haltNames : Nat → Int64) (r_t_kindNames : Nat → Int64) (r_p3_halts : Nat → Int32) (r_p3_loops : Nat → Int32) (r_p3_kinds : Nat → Int32) (r_p3_first : Nat → Int32) (H : Heap) (locs : List Loc) (ls : Array Slot), lp_LineReader_read_44 r_p1 kx_44 n x4 i_t i_p3 i_t_reader j_t_reader r_p3_grades r_t_haltNames r_t_kindNames r_p3_halts r_p3_loops r_p3_kinds r_p3_first → Bd D A s.heap (wd_LineReader_read k a_t d_t (updV w_t 3 (.ref a_p3)) i_t a_p1 r_p1 a_p3 d_p3 i_p3 (updV w_t_reader 0 (.ref a_p1)) i_t_reader j_t_reader r_p3_grades r_t_haltNames r_t_kindNames r_p3_halts r_p3_loops r_p3_kinds r_p3_first) H locs → lv_has ls 5 [(0, .ref a_t), (4, .int x4)] → W p l e { frames := 10, cells := 0, slots := 0, locals := 213 } s m ([.ref a_t, .ref a_p1, .int n2, .ref a_p3] : List Value).toArray below meth c H locs 0 0 (Ei below (fun r w => ∃ (i_t : Nat → Int32), ∃ (i_p3 : Nat → Int32), ∃ (i_t_reader : Nat → Int32), ∃ (j_t_reader : Nat → Int64), ∃ (r_p3_grades : Nat → Int32), ∃ (r_t_haltNames : Nat → Int64), ∃ (r_t_kindNames : Nat → Int64), ∃ (r_p3_halts : Nat → Int32), ∃ (r_p3_loops : Nat → Int32), ∃ (r_p3_kinds : Nat → Int32), ∃ (r_p3_first : Nat → Int32), w = (wd_LineReader_read k a_t d_t (updV w_t 3 (.ref a_p3)) i_t a_p1 r_p1 a_p3 d_p3 i_p3 (updV w_t_reader 0 (.ref a_p1)) i_t_reader j_t_reader r_p3_grades r_t_haltNames r_t_kindNames r_p3_halts r_p3_loops r_p3_kinds r_p3_first) ∧ Q r i_t i_p3 i_t_reader j_t_reader r_p3_grades r_t_haltNames r_t_kindNames r_p3_halts r_p3_loops r_p3_kinds r_p3_first) D k A ([.ref a_t, .ref a_p1, .int n2, .ref a_p3] : List Value).toArray s 0 0) (F0 m 44 ls []) := by
  intro n
  induction n with
  | zero => intro x4 i_t i_p3 i_t_reader j_t_reader r_p3_grades r_t_haltNames r_t_kindNames r_p3_halts r_p3_loops r_p3_kinds r_p3_first H locs ls hf; exact absurd hf (fun h => h)
  | succ n ih => exact bt_LineReader_read_44 F hr hlk hA hE hkx_44 ih

set_option maxRecDepth 100000 in
set_option maxHeartbeats 4000000 in
theorem c_LineReader_read (l : Launch) (D : va_G) (k : Nat → ClassId)  (K : Nat → Nat) (a_t : Nat) (d_t : Nat → Nat) (w_t : Nat → Value) (i_t : Nat → Int32) (a_p1 : Nat) (r_p1 : Nat → Int32) (a_p3 : Nat) (d_p3 : Nat → Nat) (i_p3 : Nat → Int32) (w_t_reader : Nat → Value) (i_t_reader : Nat → Int32) (j_t_reader : Nat → Int64) (r_p3_grades : Nat → Int32) (r_t_haltNames : Nat → Int64) (r_t_kindNames : Nat → Int64) (r_p3_halts : Nat → Int32) (r_p3_loops : Nat → Int32) (r_p3_kinds : Nat → Int32) (r_p3_first : Nat → Int32) (n2 : Int32) (Q : Int32 → (Nat → Int32) → (Nat → Int32) → (Nat → Int32) → (Nat → Int64) → (Nat → Int32) → (Nat → Int64) → (Nat → Int64) → (Nat → Int32) → (Nat → Int32) → (Nat → Int32) → (Nat → Int32) → Prop)  (hf : w_LineReader_read i_t r_p1 i_p3 i_t_reader j_t_reader r_p3_grades r_t_haltNames r_t_kindNames r_p3_halts r_p3_loops r_p3_kinds r_p3_first n2 Q) : CeI l yX4_read cX4_read 5 (some .int) 10 213 0 0 D k K [.ref a_t, .ref a_p1, .int n2, .ref a_p3] (wd_LineReader_read k a_t d_t w_t i_t a_p1 r_p1 a_p3 d_p3 i_p3 w_t_reader i_t_reader j_t_reader r_p3_grades r_t_haltNames r_t_kindNames r_p3_halts r_p3_loops r_p3_kinds r_p3_first) (fun r w => ∃ (i_t : Nat → Int32), ∃ (i_p3 : Nat → Int32), ∃ (i_t_reader : Nat → Int32), ∃ (j_t_reader : Nat → Int64), ∃ (r_p3_grades : Nat → Int32), ∃ (r_t_haltNames : Nat → Int64), ∃ (r_t_kindNames : Nat → Int64), ∃ (r_p3_halts : Nat → Int32), ∃ (r_p3_loops : Nat → Int32), ∃ (r_p3_kinds : Nat → Int32), ∃ (r_p3_first : Nat → Int32), w = (wd_LineReader_read k a_t d_t (updV w_t 3 (.ref a_p3)) i_t a_p1 r_p1 a_p3 d_p3 i_p3 (updV w_t_reader 0 (.ref a_p1)) i_t_reader j_t_reader r_p3_grades r_t_haltNames r_t_kindNames r_p3_halts r_p3_loops r_p3_kinds r_p3_first) ∧ Q r i_t i_p3 i_t_reader j_t_reader r_p3_grades r_t_haltNames r_t_kindNames r_p3_halts r_p3_loops r_p3_kinds r_p3_first) := by
  refine CeI.of (by decide) (Nat.le_of_ble_eq_true rfl) ?_
  intro p e s m below meth c A F hr hlk hnm hA hE hB ls hl
  have hx := F.x
  have hb := F.b
  unfold w_LineReader_read at hf
  replace hl : lv_has ls 5 [(0, .ref a_t), (1, .ref a_p1), (2, .int n2), (3, .ref a_p3)] := hl
  refine lv_aload_n hx hb dX4_read_0 rfl (lv_at hl 0 rfl) ?_
  refine g_get (w := .ref (d_t 0)) F hB 0 rfl fl_RX4_12 rfl dX4_read_1 ?_
  refine lv_aload_n hx hb dX4_read_4 rfl (lv_at hl 1 rfl) ?_
  refine lv_iload_n hx hb dX4_read_5 rfl (lv_at hl 2 rfl) ?_
  refine lv_sipush (v := 900) hx hb dX4_read_6 (by decide) ?_
  refine k_vv (wr := [(a_t, ob 4 (vmx 4 d_t w_t) i_t j0), (a_p3, ob 3 (rfd d_p3) i_p3 j0), ((d_p3 0), ai k 400 r_p3_grades), ((d_t 1), aj k 10 r_t_haltNames), ((d_t 2), aj k 6 r_t_kindNames), ((d_p3 2), ai k 30 r_p3_halts), ((d_p3 4), ai k 16 r_p3_loops), ((d_p3 6), ai k 18 r_p3_kinds), ((d_p3 8), ai k 8 r_p3_first)]) (rest := []) F hA hB (c_Reader_open l D k (d_t 0) w_t_reader i_t_reader j_t_reader a_p1 r_p1 n2 (900 : Int32) _  hf) ml_RX4_25 mv_yX7_open [3, 1] [0, 2, 4, 5, 6, 7, 8, 9, 10] rfl rfl (by decide) (by decide) (by decide) 3 rfl rfl rfl hl.1 rfl (Nat.le_of_ble_eq_true rfl) ⟨Nat.le_of_ble_eq_true rfl, Nat.le_of_ble_eq_true rfl⟩ ⟨Nat.le_of_ble_eq_true rfl, Nat.le_of_ble_eq_true rfl⟩ dX4_read_9 (fun w1 H locs hq hB => ?_)
  obtain ⟨i_t_reader_1, rfl, hf⟩ := hq
  replace hB : Bd D A s.heap (wd_LineReader_read k a_t d_t w_t i_t a_p1 r_p1 a_p3 d_p3 i_p3 (updV w_t_reader 0 (.ref a_p1)) i_t_reader_1 j_t_reader r_p3_grades r_t_haltNames r_t_kindNames r_p3_halts r_p3_loops r_p3_kinds r_p3_first) H locs := hB.sub [0, 10, 1, 9, 2, 3, 4, 5, 6, 7, 8] (by decide) rfl
  refine lv_aload_n hx hb dX4_read_12 rfl (lv_at hl 0 rfl) ?_
  refine lv_aload_n hx hb dX4_read_13 rfl (lv_at hl 3 rfl) ?_
  refine g_putm F hB 0 rfl fl_RX4_29 rfl rfl rfl rfl (wd_LineReader_read k a_t d_t (updV w_t 3 (.ref a_p3)) i_t a_p1 r_p1 a_p3 d_p3 i_p3 (updV w_t_reader 0 (.ref a_p1)) i_t_reader_1 j_t_reader r_p3_grades r_t_haltNames r_t_kindNames r_p3_halts r_p3_loops r_p3_kinds r_p3_first) rfl dX4_read_14 (fun H locs hB => ?_)
  refine lv_aload_n hx hb dX4_read_17 rfl (lv_at hl 0 rfl) ?_
  refine g_get (w := .ref a_p3) F hB 0 rfl fl_RX4_29 rfl dX4_read_18 ?_
  refine k_vv (wr := [(a_t, ob 4 (vmx 4 d_t (updV w_t 3 (.ref a_p3))) i_t j0), (a_p1, ai k 940 r_p1), ((d_t 0), ob 7 (vmx 7 d0 (updV w_t_reader 0 (.ref a_p1))) i_t_reader_1 j_t_reader), ((d_p3 0), ai k 400 r_p3_grades), ((d_t 1), aj k 10 r_t_haltNames), ((d_t 2), aj k 6 r_t_kindNames), ((d_p3 2), ai k 30 r_p3_halts), ((d_p3 4), ai k 16 r_p3_loops), ((d_p3 6), ai k 18 r_p3_kinds), ((d_p3 8), ai k 8 r_p3_first)]) (rest := []) F hA hB (c_Line_clear l D k a_p3 d_p3 i_p3 _  hf) ml_RX4_33 mv_yX3_clear [2] [0, 1, 3, 4, 5, 6, 7, 8, 9, 10] rfl rfl (by decide) (by decide) (by decide) 2 rfl rfl rfl hl.1 rfl (Nat.le_of_ble_eq_true rfl) ⟨Nat.le_of_ble_eq_true rfl, Nat.le_of_ble_eq_true rfl⟩ ⟨Nat.le_of_ble_eq_true rfl, Nat.le_of_ble_eq_true rfl⟩ dX4_read_21 (fun w1 H locs hq hB => ?_)
  obtain ⟨i_p3_2, rfl, hf⟩ := hq
  replace hB : Bd D A s.heap (wd_LineReader_read k a_t d_t (updV w_t 3 (.ref a_p3)) i_t a_p1 r_p1 a_p3 d_p3 i_p3_2 (updV w_t_reader 0 (.ref a_p1)) i_t_reader_1 j_t_reader r_p3_grades r_t_haltNames r_t_kindNames r_p3_halts r_p3_loops r_p3_kinds r_p3_first) H locs := hB.sub [0, 1, 10, 2, 3, 4, 5, 6, 7, 8, 9] (by decide) rfl
  refine lv_aload_n hx hb dX4_read_24 rfl (lv_at hl 0 rfl) ?_
  refine lv_iconst (v := 0) hx hb dX4_read_25 (by decide) ?_
  refine g_puti F hB 0 rfl fl_RX4_38 rfl (wd_LineReader_read k a_t d_t (updV w_t 3 (.ref a_p3)) (upd i_t 4 (0 : Int32)) a_p1 r_p1 a_p3 d_p3 i_p3_2 (updV w_t_reader 0 (.ref a_p1)) i_t_reader_1 j_t_reader r_p3_grades r_t_haltNames r_t_kindNames r_p3_halts r_p3_loops r_p3_kinds r_p3_first) rfl dX4_read_26 (fun H locs hB => ?_)
  refine lv_aload_n hx hb dX4_read_29 rfl (lv_at hl 0 rfl) ?_
  refine lv_iconst (v := 0) hx hb dX4_read_30 (by decide) ?_
  refine g_puti F hB 0 rfl fl_RX4_42 rfl (wd_LineReader_read k a_t d_t (updV w_t 3 (.ref a_p3)) (upd (upd i_t 4 (0 : Int32)) 5 (0 : Int32)) a_p1 r_p1 a_p3 d_p3 i_p3_2 (updV w_t_reader 0 (.ref a_p1)) i_t_reader_1 j_t_reader r_p3_grades r_t_haltNames r_t_kindNames r_p3_halts r_p3_loops r_p3_kinds r_p3_first) rfl dX4_read_31 (fun H locs hB => ?_)
  refine lv_iconst (v := 0) hx hb dX4_read_34 (by decide) ?_
  refine lv_istore (lv' := [(4, .int (0 : Int32)), (0, .ref a_t), (1, .ref a_p1), (2, .int n2), (3, .ref a_p3)]) hx hb dX4_read_35 hl (by decide) rfl (fun ls hl => ?_)
  refine lv_aload_n hx hb dX4_read_37 rfl (lv_at hl 1 rfl) ?_
  refine g_get (w := .ref (d_t 0)) F hB 0 rfl fl_RX4_12 rfl dX4_read_38 ?_
  refine k_vv (wr := [(a_t, ob 4 (vmx 4 d_t (updV w_t 3 (.ref a_p3))) (upd (upd i_t 4 (0 : Int32)) 5 (0 : Int32)) j0), (a_p3, ob 3 (rfd d_p3) i_p3_2 j0), ((d_p3 0), ai k 400 r_p3_grades), ((d_t 1), aj k 10 r_t_haltNames), ((d_t 2), aj k 6 r_t_kindNames), ((d_p3 2), ai k 30 r_p3_halts), ((d_p3 4), ai k 16 r_p3_loops), ((d_p3 6), ai k 18 r_p3_kinds), ((d_p3 8), ai k 8 r_p3_first)]) (rest := []) F hA hB (c_Reader_advance l D k (d_t 0) (updV w_t_reader 0 (.ref a_p1)) i_t_reader_1 j_t_reader a_p1 r_p1 _ rfl hf) ml_RX4_45 mv_yX7_advance [3, 1] [0, 2, 4, 5, 6, 7, 8, 9, 10] rfl rfl (by decide) (by decide) (by decide) 3 rfl rfl rfl hl.1 rfl (Nat.le_of_ble_eq_true rfl) ⟨Nat.le_of_ble_eq_true rfl, Nat.le_of_ble_eq_true rfl⟩ ⟨Nat.le_of_ble_eq_true rfl, Nat.le_of_ble_eq_true rfl⟩ dX4_read_41 (fun w1 H locs hq hB => ?_)
  obtain ⟨i_t_reader_3, j_t_reader_4, rfl, hf⟩ := hq
  replace hB : Bd D A s.heap (wd_LineReader_read k a_t d_t (updV w_t 3 (.ref a_p3)) (upd (upd i_t 4 (0 : Int32)) 5 (0 : Int32)) a_p1 r_p1 a_p3 d_p3 i_p3_2 (updV w_t_reader 0 (.ref a_p1)) i_t_reader_3 j_t_reader_4 r_p3_grades r_t_haltNames r_t_kindNames r_p3_halts r_p3_loops r_p3_kinds r_p3_first) H locs := hB.sub [0, 10, 1, 9, 2, 3, 4, 5, 6, 7, 8] (by decide) rfl
  obtain ⟨n_40, hf⟩ := hf
  refine lt_LineReader_read_44 F hr hlk hA hE (fun x4_27 i_t_28 i_p3_29 i_t_reader_30 j_t_reader_31 r_p3_grades_32 r_t_haltNames_33 r_t_kindNames_34 r_p3_halts_35 r_p3_loops_36 r_p3_kinds_37 r_p3_first_38 H locs ls hf hB hl => ?_) n_40 _ _ _ _ _ _ _ _ _ _ _ _ _ _ _ hf hB (lv_sub hl [1, 0] rfl)
  refine lv_aload_n hx hb dX4_read_89 rfl (lv_at hl 0 rfl) ?_
  refine g_get (w := .ref (d_t 0)) F hB 0 rfl fl_RX4_12 rfl dX4_read_90 ?_
  refine lv_iload hx hb dX4_read_93 (lv_at hl 1 rfl) ?_
  refine k_vi (wr := [(a_t, ob 4 (vmx 4 d_t (updV w_t 3 (.ref a_p3))) i_t_28 j0), (a_p1, ai k 940 r_p1), (a_p3, ob 3 (rfd d_p3) i_p3_29 j0), ((d_p3 0), ai k 400 r_p3_grades_32), ((d_t 1), aj k 10 r_t_haltNames_33), ((d_t 2), aj k 6 r_t_kindNames_34), ((d_p3 2), ai k 30 r_p3_halts_35), ((d_p3 4), ai k 16 r_p3_loops_36), ((d_p3 6), ai k 18 r_p3_kinds_37), ((d_p3 8), ai k 8 r_p3_first_38)]) (rest := []) F hA hB (c_Reader_answer l D k (d_t 0) (updV w_t_reader 0 (.ref a_p1)) i_t_reader_30 j_t_reader_31 x4_27 _  hf) ml_RX4_60 mv_yX7_answer [3] [0, 1, 2, 4, 5, 6, 7, 8, 9, 10] rfl rfl (by decide) (by decide) (by decide) 3 rfl rfl rfl hl.1 rfl (Nat.le_of_ble_eq_true rfl) ⟨Nat.le_of_ble_eq_true rfl, Nat.le_of_ble_eq_true rfl⟩ ⟨Nat.le_of_ble_eq_true rfl, Nat.le_of_ble_eq_true rfl⟩ dX4_read_95 (fun z_39 w1 H locs hq hB => ?_)
  obtain ⟨rfl, hf⟩ := hq
  replace hB : Bd D A s.heap (wd_LineReader_read k a_t d_t (updV w_t 3 (.ref a_p3)) i_t_28 a_p1 r_p1 a_p3 d_p3 i_p3_29 (updV w_t_reader 0 (.ref a_p1)) i_t_reader_30 j_t_reader_31 r_p3_grades_32 r_t_haltNames_33 r_t_kindNames_34 r_p3_halts_35 r_p3_loops_36 r_p3_kinds_37 r_p3_first_38) H locs := hB.sub [0, 1, 2, 10, 3, 4, 5, 6, 7, 8, 9] (by decide) rfl
  exact r_i F hr hlk hB ⟨_, _, _, _, _, _, _, _, _, _, _, rfl, hf⟩ dX4_read_98

/-! LongTrain.Plan.read -/
set_option maxRecDepth 100000 in
set_option maxHeartbeats 4000000 in
theorem bt_Plan_read_20 {p : Program} {l : Launch} {e : Env} {s : State} {m : MethodId} {below : List Frame} {meth : Method} {c : Code} {A : Nat → Prop} {D : va_G} {k : Nat → ClassId}  {K : Nat → Nat} {a_t : Nat} {d_t : Nat → Nat} {a_p1 : Nat} {w_p1 : Nat → Value} {a_p2 : Nat} {r_p2 : Nat → Int32} {n3 : Int32} {Q : Int32 → (Nat → Int32) → (Nat → Int32) → (Nat → Int64) → (Nat → Int32) → (Nat → Int32) → (Nat → Int32) → Prop}  {kx_20 : (Nat → Int32) → (Nat → Int32) → (Nat → Int64) → (Nat → Int32) → (Nat → Int32) → (Nat → Int32) → Prop} {kr_20 : (Int32) → (Nat → Int32) → (Nat → Int32) → (Nat → Int64) → (Nat → Int32) → (Nat → Int32) → (Nat → Int32) → Prop} (F : Fx p m c cX6_read 5 s ([.ref a_t, .ref a_p1, .ref a_p2, .int n3] : List Value).toArray RX6 D k) (hr : meth.sig.returnType = (some .int)) (hlk : meth.locks = false) (hA : ∀ q : Nat, s.heap.size ≤ q → A q) (hE : Am K A s s.heap) (hkx_20 : ∀ (i_t : Nat → Int32) (i_p1 : Nat → Int32) (j_p1 : Nat → Int64) (r_t_words : Nat → Int32) (r_t_firsts : Nat → Int32) (r_t_seconds : Nat → Int32) (H : Heap) (locs : List Loc) (ls : Array Slot), kx_20 i_t i_p1 j_p1 r_t_words r_t_firsts r_t_seconds → Bd D A s.heap (wd_Plan_read k a_t d_t i_t a_p1 (updV w_p1 0 (.ref a_p2)) i_p1 j_p1 a_p2 r_p2 r_t_words r_t_firsts r_t_seconds) H locs → lv_has ls 5 [(0, .ref a_t), (1, .ref a_p1)] → W p l e { frames := 6, cells := 0, slots := 0, locals := 129 } s m ([.ref a_t, .ref a_p1, .ref a_p2, .int n3] : List Value).toArray below meth c H locs 0 0 (Ei below (fun r w => ∃ (i_t : Nat → Int32), ∃ (i_p1 : Nat → Int32), ∃ (j_p1 : Nat → Int64), ∃ (r_t_words : Nat → Int32), ∃ (r_t_firsts : Nat → Int32), ∃ (r_t_seconds : Nat → Int32), w = (wd_Plan_read k a_t d_t i_t a_p1 (updV w_p1 0 (.ref a_p2)) i_p1 j_p1 a_p2 r_p2 r_t_words r_t_firsts r_t_seconds) ∧ Q r i_t i_p1 j_p1 r_t_words r_t_firsts r_t_seconds) D k A ([.ref a_t, .ref a_p1, .ref a_p2, .int n3] : List Value).toArray s 0 0) (F0 m 59 ls [])) (hkr_20 : ∀ (x4 : Int32) (i_t : Nat → Int32) (i_p1 : Nat → Int32) (j_p1 : Nat → Int64) (r_t_words : Nat → Int32) (r_t_firsts : Nat → Int32) (r_t_seconds : Nat → Int32) (H : Heap) (locs : List Loc) (ls : Array Slot), kr_20 x4 i_t i_p1 j_p1 r_t_words r_t_firsts r_t_seconds → Bd D A s.heap (wd_Plan_read k a_t d_t i_t a_p1 (updV w_p1 0 (.ref a_p2)) i_p1 j_p1 a_p2 r_p2 r_t_words r_t_firsts r_t_seconds) H locs → lv_has ls 5 [(0, .ref a_t), (1, .ref a_p1), (4, .int x4)] → W p l e { frames := 6, cells := 0, slots := 0, locals := 129 } s m ([.ref a_t, .ref a_p1, .ref a_p2, .int n3] : List Value).toArray below meth c H locs 0 0 (Ei below (fun r w => ∃ (i_t : Nat → Int32), ∃ (i_p1 : Nat → Int32), ∃ (j_p1 : Nat → Int64), ∃ (r_t_words : Nat → Int32), ∃ (r_t_firsts : Nat → Int32), ∃ (r_t_seconds : Nat → Int32), w = (wd_Plan_read k a_t d_t i_t a_p1 (updV w_p1 0 (.ref a_p2)) i_p1 j_p1 a_p2 r_p2 r_t_words r_t_firsts r_t_seconds) ∧ Q r i_t i_p1 j_p1 r_t_words r_t_firsts r_t_seconds) D k A ([.ref a_t, .ref a_p1, .ref a_p2, .int n3] : List Value).toArray s 0 0) (F0 m 20 ls [])) :
    ∀ (x4 : Int32) (i_t : Nat → Int32) (i_p1 : Nat → Int32) (j_p1 : Nat → Int64) (r_t_words : Nat → Int32) (r_t_firsts : Nat → Int32) (r_t_seconds : Nat → Int32) (H : Heap) (locs : List Loc) (ls : Array Slot), b_Plan_read_20 r_p2 kx_20 kr_20 x4 i_t i_p1 j_p1 r_t_words r_t_firsts r_t_seconds → Bd D A s.heap (wd_Plan_read k a_t d_t i_t a_p1 (updV w_p1 0 (.ref a_p2)) i_p1 j_p1 a_p2 r_p2 r_t_words r_t_firsts r_t_seconds) H locs → lv_has ls 5 [(0, .ref a_t), (1, .ref a_p1), (4, .int x4)] → W p l e { frames := 6, cells := 0, slots := 0, locals := 129 } s m ([.ref a_t, .ref a_p1, .ref a_p2, .int n3] : List Value).toArray below meth c H locs 0 0 (Ei below (fun r w => ∃ (i_t : Nat → Int32), ∃ (i_p1 : Nat → Int32), ∃ (j_p1 : Nat → Int64), ∃ (r_t_words : Nat → Int32), ∃ (r_t_firsts : Nat → Int32), ∃ (r_t_seconds : Nat → Int32), w = (wd_Plan_read k a_t d_t i_t a_p1 (updV w_p1 0 (.ref a_p2)) i_p1 j_p1 a_p2 r_p2 r_t_words r_t_firsts r_t_seconds) ∧ Q r i_t i_p1 j_p1 r_t_words r_t_firsts r_t_seconds) D k A ([.ref a_t, .ref a_p1, .ref a_p2, .int n3] : List Value).toArray s 0 0) (F0 m 20 ls []) := by
  have hx := F.x
  have hb := F.b
  intro x4 i_t i_p1 j_p1 r_t_words r_t_firsts r_t_seconds H locs ls hf hB hl
  unfold b_Plan_read_20 at hf
  refine lv_iload hx hb dX6_read_20 (lv_at hl 2 rfl) ?_
  refine lv_bipush (v := 30) hx hb dX6_read_22 (by decide) ?_
  refine lv_icmp_gt (tgt := 59) hx hb dX6_read_24 (by decide) (fun c_21 => ?_) (fun c_21 => ?_)
  · replace hf := hf.1 c_21
    exact hkx_20 _ _ _ _ _ _ _ _ _ hf hB (lv_sub hl [0, 1] rfl)
  · replace hf := hf.2 c_21
    refine lv_aload_n hx hb dX6_read_27 rfl (lv_at hl 1 rfl) ?_
    refine k_vi (wr := [(a_t, ob 6 (rfd d_t) i_t j0), (a_p2, ai k 940 r_p2), ((d_t 0), ai k 30 r_t_words), ((d_t 1), ai k 30 r_t_firsts), ((d_t 2), ai k 30 r_t_seconds)]) (rest := []) F hA hB (c_Reader_isAtEnd l D k a_p1 (updV w_p1 0 (.ref a_p2)) i_p1 j_p1 _  hf) ml_RX6_43 mv_yX7_isAtEnd [1] [0, 2, 3, 4, 5] rfl rfl (by decide) (by decide) (by decide) 1 rfl rfl rfl hl.1 rfl (Nat.le_of_ble_eq_true rfl) ⟨Nat.le_of_ble_eq_true rfl, Nat.le_of_ble_eq_true rfl⟩ ⟨Nat.le_of_ble_eq_true rfl, Nat.le_of_ble_eq_true rfl⟩ dX6_read_28 (fun z_6 w1 H locs hq hB => ?_)
    obtain ⟨h_7, i_p1_5, rfl, hf⟩ := hq
    replace hB : Bd D A s.heap (wd_Plan_read k a_t d_t i_t a_p1 (updV w_p1 0 (.ref a_p2)) i_p1_5 j_p1 a_p2 r_p2 r_t_words r_t_firsts r_t_seconds) H locs := hB.sub [0, 5, 1, 2, 3, 4] (by decide) rfl
    refine lv_if_ne (tgt := 59) hx hb dX6_read_31 (by decide) (fun c_20 => ?_) (fun c_20 => ?_)
    · replace hf := hf.1 c_20
      exact hkx_20 _ _ _ _ _ _ _ _ _ hf hB (lv_sub hl [0, 1] rfl)
    · replace hf := hf.2 c_20
      refine lv_aload_n hx hb dX6_read_34 rfl (lv_at hl 0 rfl) ?_
      refine lv_aload_n hx hb dX6_read_35 rfl (lv_at hl 1 rfl) ?_
      refine lv_aload_n hx hb dX6_read_36 rfl (lv_at hl 1 rfl) ?_
      refine ke_vi (wr := [(a_t, ob 6 (rfd d_t) i_t j0), ((d_t 0), ai k 30 r_t_words), ((d_t 1), ai k 30 r_t_firsts), ((d_t 2), ai k 30 r_t_seconds)]) (rest := [.ref a_p1, .ref a_t]) F hE hA hB (c_Reader_keyword l D k K a_p1 (updV w_p1 0 (.ref a_p2)) i_p1_5 j_p1 a_p2 r_p2 _ rfl hf) ml_RX6_47 mv_yX7_keyword [1, 2] [0, 3, 4, 5] rfl rfl (by decide) (by decide) (by decide) (rcv F hB 1 rfl rfl) rfl hl.1 rfl (Nat.le_of_ble_eq_true rfl) ⟨Nat.le_of_ble_eq_true rfl, Nat.le_of_ble_eq_true rfl⟩ ⟨Nat.le_of_ble_eq_true rfl, Nat.le_of_ble_eq_true rfl⟩ dX6_read_37 (fun z_8 w1 H locs hq hB => ?_)
      obtain ⟨rfl, hf⟩ := hq
      replace hB : Bd D A s.heap (wd_Plan_read k a_t d_t i_t a_p1 (updV w_p1 0 (.ref a_p2)) i_p1_5 j_p1 a_p2 r_p2 r_t_words r_t_firsts r_t_seconds) H locs := hB.sub [0, 4, 5, 1, 2, 3] (by decide) rfl
      refine k_vi (wr := []) (rest := []) F hA hB (c_Plan_readRow l D k a_t d_t i_t a_p1 (updV w_p1 0 (.ref a_p2)) i_p1_5 j_p1 r_t_words a_p2 r_p2 r_t_firsts r_t_seconds z_8 _ rfl hf) ml_RX6_51 mv_yX6_readRow [0, 1, 3, 2, 4, 5] [] rfl rfl (by decide) (by decide) (by decide) 0 rfl rfl rfl hl.1 rfl (Nat.le_of_ble_eq_true rfl) ⟨Nat.le_of_ble_eq_true rfl, Nat.le_of_ble_eq_true rfl⟩ ⟨Nat.le_of_ble_eq_true rfl, Nat.le_of_ble_eq_true rfl⟩ dX6_read_40 (fun z_15 w1 H locs hq hB => ?_)
      obtain ⟨h_16, i_t_9, i_p1_10, j_p1_11, r_t_words_12, r_t_firsts_13, r_t_seconds_14, rfl, hf⟩ := hq
      replace hB : Bd D A s.heap (wd_Plan_read k a_t d_t i_t_9 a_p1 (updV w_p1 0 (.ref a_p2)) i_p1_10 j_p1_11 a_p2 r_p2 r_t_words_12 r_t_firsts_13 r_t_seconds_14) H locs := hB.sub [0, 1, 3, 2, 4, 5] (by decide) rfl
      refine lv_if_ne (tgt := 49) hx hb dX6_read_43 (by decide) (fun c_19 => ?_) (fun c_19 => ?_)
      · replace hf := hf.1 c_19
        refine lv_aload_n hx hb dX6_read_49 rfl (lv_at hl 1 rfl) ?_
        refine k_vv (wr := [(a_t, ob 6 (rfd d_t) i_t_9 j0), ((d_t 0), ai k 30 r_t_words_12), ((d_t 1), ai k 30 r_t_firsts_13), ((d_t 2), ai k 30 r_t_seconds_14)]) (rest := []) F hA hB (c_Reader_advance l D k a_p1 (updV w_p1 0 (.ref a_p2)) i_p1_10 j_p1_11 a_p2 r_p2 _ rfl hf) ml_RX6_40 mv_yX7_advance [1, 2] [0, 3, 4, 5] rfl rfl (by decide) (by decide) (by decide) 1 rfl rfl rfl hl.1 rfl (Nat.le_of_ble_eq_true rfl) ⟨Nat.le_of_ble_eq_true rfl, Nat.le_of_ble_eq_true rfl⟩ ⟨Nat.le_of_ble_eq_true rfl, Nat.le_of_ble_eq_true rfl⟩ dX6_read_50 (fun w1 H locs hq hB => ?_)
        obtain ⟨i_p1_17, j_p1_18, rfl, hf⟩ := hq
        replace hB : Bd D A s.heap (wd_Plan_read k a_t d_t i_t_9 a_p1 (updV w_p1 0 (.ref a_p2)) i_p1_17 j_p1_18 a_p2 r_p2 r_t_words_12 r_t_firsts_13 r_t_seconds_14) H locs := hB.sub [0, 4, 5, 1, 2, 3] (by decide) rfl
        refine lv_iinc (v := (x4 + 1)) (lv' := [(4, .int (x4 + 1)), (0, .ref a_t), (1, .ref a_p1)]) (k := 2) hx hb dX6_read_53 hl rfl rfl (by decide) rfl (fun ls hl => ?_)
        refine lv_goto (tgt := 20) hx hb dX6_read_56 (by decide) ?_
        exact hkr_20 _ _ _ _ _ _ _ _ _ _ hf hB (lv_sub hl [1, 2, 0] rfl)
      · replace hf := hf.2 c_19
        refine lv_goto (tgt := 59) hx hb dX6_read_46 (by decide) ?_
        exact hkx_20 _ _ _ _ _ _ _ _ _ hf hB (lv_sub hl [0, 1] rfl)

set_option maxRecDepth 100000 in
set_option maxHeartbeats 4000000 in
theorem lt_Plan_read_20 {p : Program} {l : Launch} {e : Env} {s : State} {m : MethodId} {below : List Frame} {meth : Method} {c : Code} {A : Nat → Prop} {D : va_G} {k : Nat → ClassId}  {K : Nat → Nat} {a_t : Nat} {d_t : Nat → Nat} {a_p1 : Nat} {w_p1 : Nat → Value} {a_p2 : Nat} {r_p2 : Nat → Int32} {n3 : Int32} {Q : Int32 → (Nat → Int32) → (Nat → Int32) → (Nat → Int64) → (Nat → Int32) → (Nat → Int32) → (Nat → Int32) → Prop}  {kx_20 : (Nat → Int32) → (Nat → Int32) → (Nat → Int64) → (Nat → Int32) → (Nat → Int32) → (Nat → Int32) → Prop} (F : Fx p m c cX6_read 5 s ([.ref a_t, .ref a_p1, .ref a_p2, .int n3] : List Value).toArray RX6 D k) (hr : meth.sig.returnType = (some .int)) (hlk : meth.locks = false) (hA : ∀ q : Nat, s.heap.size ≤ q → A q) (hE : Am K A s s.heap) (hkx_20 : ∀ (i_t : Nat → Int32) (i_p1 : Nat → Int32) (j_p1 : Nat → Int64) (r_t_words : Nat → Int32) (r_t_firsts : Nat → Int32) (r_t_seconds : Nat → Int32) (H : Heap) (locs : List Loc) (ls : Array Slot), kx_20 i_t i_p1 j_p1 r_t_words r_t_firsts r_t_seconds → Bd D A s.heap (wd_Plan_read k a_t d_t i_t a_p1 (updV w_p1 0 (.ref a_p2)) i_p1 j_p1 a_p2 r_p2 r_t_words r_t_firsts r_t_seconds) H locs → lv_has ls 5 [(0, .ref a_t), (1, .ref a_p1)] → W p l e { frames := 6, cells := 0, slots := 0, locals := 129 } s m ([.ref a_t, .ref a_p1, .ref a_p2, .int n3] : List Value).toArray below meth c H locs 0 0 (Ei below (fun r w => ∃ (i_t : Nat → Int32), ∃ (i_p1 : Nat → Int32), ∃ (j_p1 : Nat → Int64), ∃ (r_t_words : Nat → Int32), ∃ (r_t_firsts : Nat → Int32), ∃ (r_t_seconds : Nat → Int32), w = (wd_Plan_read k a_t d_t i_t a_p1 (updV w_p1 0 (.ref a_p2)) i_p1 j_p1 a_p2 r_p2 r_t_words r_t_firsts r_t_seconds) ∧ Q r i_t i_p1 j_p1 r_t_words r_t_firsts r_t_seconds) D k A ([.ref a_t, .ref a_p1, .ref a_p2, .int n3] : List Value).toArray s 0 0) (F0 m 59 ls [])) :
    ∀ n : Nat, ∀ (x4 : Int32) (i_t : Nat → Int32) (i_p1 : Nat → Int32) (j_p1 : Nat → Int64) (r_t_words : Nat → Int32) (r_t_firsts : Nat → Int32) (r_t_seconds : Nat → Int32) (H : Heap) (locs : List Loc) (ls : Array Slot), lp_Plan_read_20 r_p2 kx_20 n x4 i_t i_p1 j_p1 r_t_words r_t_firsts r_t_seconds → Bd D A s.heap (wd_Plan_read k a_t d_t i_t a_p1 (updV w_p1 0 (.ref a_p2)) i_p1 j_p1 a_p2 r_p2 r_t_words r_t_firsts r_t_seconds) H locs → lv_has ls 5 [(0, .ref a_t), (1, .ref a_p1), (4, .int x4)] → W p l e { frames := 6, cells := 0, slots := 0, locals := 129 } s m ([.ref a_t, .ref a_p1, .ref a_p2, .int n3] : List Value).toArray below meth c H locs 0 0 (Ei below (fun r w => ∃ (i_t : Nat → Int32), ∃ (i_p1 : Nat → Int32), ∃ (j_p1 : Nat → Int64), ∃ (r_t_words : Nat → Int32), ∃ (r_t_firsts : Nat → Int32), ∃ (r_t_seconds : Nat → Int32), w = (wd_Plan_read k a_t d_t i_t a_p1 (updV w_p1 0 (.ref a_p2)) i_p1 j_p1 a_p2 r_p2 r_t_words r_t_firsts r_t_seconds) ∧ Q r i_t i_p1 j_p1 r_t_words r_t_firsts r_t_seconds) D k A ([.ref a_t, .ref a_p1, .ref a_p2, .int n3] : List Value).toArray s 0 0) (F0 m 20 ls []) := by
  intro n
  induction n with
  | zero => intro x4 i_t i_p1 j_p1 r_t_words r_t_firsts r_t_seconds H locs ls hf; exact absurd hf (fun h => h)
  | succ n ih => exact bt_Plan_read_20 F hr hlk hA hE hkx_20 ih

set_option maxRecDepth 100000 in
set_option maxHeartbeats 4000000 in
theorem c_Plan_read (l : Launch) (D : va_G) (k : Nat → ClassId)  (K : Nat → Nat) (a_t : Nat) (d_t : Nat → Nat) (i_t : Nat → Int32) (a_p1 : Nat) (w_p1 : Nat → Value) (i_p1 : Nat → Int32) (j_p1 : Nat → Int64) (a_p2 : Nat) (r_p2 : Nat → Int32) (r_t_words : Nat → Int32) (r_t_firsts : Nat → Int32) (r_t_seconds : Nat → Int32) (n3 : Int32) (Q : Int32 → (Nat → Int32) → (Nat → Int32) → (Nat → Int64) → (Nat → Int32) → (Nat → Int32) → (Nat → Int32) → Prop)  (hf : w_Plan_read i_t i_p1 j_p1 r_p2 r_t_words r_t_firsts r_t_seconds n3 Q) : CeI l yX6_read cX6_read 5 (some .int) 6 129 0 0 D k K [.ref a_t, .ref a_p1, .ref a_p2, .int n3] (wd_Plan_read k a_t d_t i_t a_p1 w_p1 i_p1 j_p1 a_p2 r_p2 r_t_words r_t_firsts r_t_seconds) (fun r w => ∃ (i_t : Nat → Int32), ∃ (i_p1 : Nat → Int32), ∃ (j_p1 : Nat → Int64), ∃ (r_t_words : Nat → Int32), ∃ (r_t_firsts : Nat → Int32), ∃ (r_t_seconds : Nat → Int32), w = (wd_Plan_read k a_t d_t i_t a_p1 (updV w_p1 0 (.ref a_p2)) i_p1 j_p1 a_p2 r_p2 r_t_words r_t_firsts r_t_seconds) ∧ Q r i_t i_p1 j_p1 r_t_words r_t_firsts r_t_seconds) := by
  refine CeI.of (by decide) (Nat.le_of_ble_eq_true rfl) ?_
  intro p e s m below meth c A F hr hlk hnm hA hE hB ls hl
  have hx := F.x
  have hb := F.b
  unfold w_Plan_read at hf
  replace hl : lv_has ls 5 [(0, .ref a_t), (1, .ref a_p1), (2, .ref a_p2), (3, .int n3)] := hl
  refine lv_aload_n hx hb dX6_read_0 rfl (lv_at hl 1 rfl) ?_
  refine lv_aload_n hx hb dX6_read_1 rfl (lv_at hl 2 rfl) ?_
  refine lv_iload_n hx hb dX6_read_2 rfl (lv_at hl 3 rfl) ?_
  refine lv_sipush (v := 400) hx hb dX6_read_3 (by decide) ?_
  refine k_vv (wr := [(a_t, ob 6 (rfd d_t) i_t j0), ((d_t 0), ai k 30 r_t_words), ((d_t 1), ai k 30 r_t_firsts), ((d_t 2), ai k 30 r_t_seconds)]) (rest := []) F hA hB (c_Reader_open l D k a_p1 w_p1 i_p1 j_p1 a_p2 r_p2 n3 (400 : Int32) _  hf) ml_RX6_31 mv_yX7_open [1, 2] [0, 3, 4, 5] rfl rfl (by decide) (by decide) (by decide) 1 rfl rfl rfl hl.1 rfl (Nat.le_of_ble_eq_true rfl) ⟨Nat.le_of_ble_eq_true rfl, Nat.le_of_ble_eq_true rfl⟩ ⟨Nat.le_of_ble_eq_true rfl, Nat.le_of_ble_eq_true rfl⟩ dX6_read_6 (fun w1 H locs hq hB => ?_)
  obtain ⟨i_p1_1, rfl, hf⟩ := hq
  replace hB : Bd D A s.heap (wd_Plan_read k a_t d_t i_t a_p1 (updV w_p1 0 (.ref a_p2)) i_p1_1 j_p1 a_p2 r_p2 r_t_words r_t_firsts r_t_seconds) H locs := hB.sub [0, 4, 5, 1, 2, 3] (by decide) rfl
  refine lv_aload_n hx hb dX6_read_9 rfl (lv_at hl 0 rfl) ?_
  refine k_vv (wr := [(a_p1, ob 7 (vmx 7 d0 (updV w_p1 0 (.ref a_p2))) i_p1_1 j_p1), (a_p2, ai k 940 r_p2), ((d_t 0), ai k 30 r_t_words), ((d_t 1), ai k 30 r_t_firsts), ((d_t 2), ai k 30 r_t_seconds)]) (rest := []) F hA hB (c_Plan_clear l D k a_t d_t i_t _  hf) ml_RX6_37 mv_yX6_clear [0] [1, 2, 3, 4, 5] rfl rfl (by decide) (by decide) (by decide) 0 rfl rfl rfl hl.1 rfl (Nat.le_of_ble_eq_true rfl) ⟨Nat.le_of_ble_eq_true rfl, Nat.le_of_ble_eq_true rfl⟩ ⟨Nat.le_of_ble_eq_true rfl, Nat.le_of_ble_eq_true rfl⟩ dX6_read_10 (fun w1 H locs hq hB => ?_)
  obtain ⟨i_t_2, rfl, hf⟩ := hq
  replace hB : Bd D A s.heap (wd_Plan_read k a_t d_t i_t_2 a_p1 (updV w_p1 0 (.ref a_p2)) i_p1_1 j_p1 a_p2 r_p2 r_t_words r_t_firsts r_t_seconds) H locs := hB.sub [5, 0, 1, 2, 3, 4] (by decide) rfl
  refine lv_aload_n hx hb dX6_read_13 rfl (lv_at hl 1 rfl) ?_
  refine k_vv (wr := [(a_t, ob 6 (rfd d_t) i_t_2 j0), ((d_t 0), ai k 30 r_t_words), ((d_t 1), ai k 30 r_t_firsts), ((d_t 2), ai k 30 r_t_seconds)]) (rest := []) F hA hB (c_Reader_advance l D k a_p1 (updV w_p1 0 (.ref a_p2)) i_p1_1 j_p1 a_p2 r_p2 _ rfl hf) ml_RX6_40 mv_yX7_advance [1, 2] [0, 3, 4, 5] rfl rfl (by decide) (by decide) (by decide) 1 rfl rfl rfl hl.1 rfl (Nat.le_of_ble_eq_true rfl) ⟨Nat.le_of_ble_eq_true rfl, Nat.le_of_ble_eq_true rfl⟩ ⟨Nat.le_of_ble_eq_true rfl, Nat.le_of_ble_eq_true rfl⟩ dX6_read_14 (fun w1 H locs hq hB => ?_)
  obtain ⟨i_p1_3, j_p1_4, rfl, hf⟩ := hq
  replace hB : Bd D A s.heap (wd_Plan_read k a_t d_t i_t_2 a_p1 (updV w_p1 0 (.ref a_p2)) i_p1_3 j_p1_4 a_p2 r_p2 r_t_words r_t_firsts r_t_seconds) H locs := hB.sub [0, 4, 5, 1, 2, 3] (by decide) rfl
  refine lv_iconst (v := 0) hx hb dX6_read_17 (by decide) ?_
  refine lv_istore (lv' := [(4, .int (0 : Int32)), (0, .ref a_t), (1, .ref a_p1), (2, .ref a_p2), (3, .int n3)]) hx hb dX6_read_18 hl (by decide) rfl (fun ls hl => ?_)
  obtain ⟨n_29, hf⟩ := hf
  refine lt_Plan_read_20 F hr hlk hA hE (fun i_t_22 i_p1_23 j_p1_24 r_t_words_25 r_t_firsts_26 r_t_seconds_27 H locs ls hf hB hl => ?_) n_29 _ _ _ _ _ _ _ _ _ _ hf hB (lv_sub hl [1, 2, 0] rfl)
  refine lv_aload_n hx hb dX6_read_59 rfl (lv_at hl 1 rfl) ?_
  refine lv_aload_n hx hb dX6_read_60 rfl (lv_at hl 0 rfl) ?_
  refine g_get (w := .int (i_t_22 3)) F hB 0 rfl fl_RX6_21 rfl dX6_read_61 ?_
  refine k_vi (wr := [(a_t, ob 6 (rfd d_t) i_t_22 j0), (a_p2, ai k 940 r_p2), ((d_t 0), ai k 30 r_t_words_25), ((d_t 1), ai k 30 r_t_firsts_26), ((d_t 2), ai k 30 r_t_seconds_27)]) (rest := []) F hA hB (c_Reader_answer l D k a_p1 (updV w_p1 0 (.ref a_p2)) i_p1_23 j_p1_24 (i_t_22 3) _  hf) ml_RX6_55 mv_yX7_answer [1] [0, 2, 3, 4, 5] rfl rfl (by decide) (by decide) (by decide) 1 rfl rfl rfl hl.1 rfl (Nat.le_of_ble_eq_true rfl) ⟨Nat.le_of_ble_eq_true rfl, Nat.le_of_ble_eq_true rfl⟩ ⟨Nat.le_of_ble_eq_true rfl, Nat.le_of_ble_eq_true rfl⟩ dX6_read_64 (fun z_28 w1 H locs hq hB => ?_)
  obtain ⟨rfl, hf⟩ := hq
  replace hB : Bd D A s.heap (wd_Plan_read k a_t d_t i_t_22 a_p1 (updV w_p1 0 (.ref a_p2)) i_p1_23 j_p1_24 a_p2 r_p2 r_t_words_25 r_t_firsts_26 r_t_seconds_27) H locs := hB.sub [0, 5, 1, 2, 3, 4] (by decide) rfl
  exact r_i F hr hlk hB ⟨_, _, _, _, _, _, rfl, hf⟩ dX6_read_67

/-! LongTrain.line -/
set_option maxRecDepth 100000 in
set_option maxHeartbeats 4000000 in
theorem c_LongTrain_line (l : Launch) (D : va_G) (k : Nat → ClassId)  (K : Nat → Nat) (a_t : Nat) (d_t : Nat → Nat) (w_t : Nat → Value) (i_t : Nat → Int32) (d_t_lineReader : Nat → Nat) (w_t_lineReader : Nat → Value) (i_t_lineReader : Nat → Int32) (r_t_tape : Nat → Int32) (a_t_spareLine : Nat) (d_t_spareLine : Nat → Nat) (i_t_spareLine : Nat → Int32) (w_t_lineReader_reader : Nat → Value) (i_t_lineReader_reader : Nat → Int32) (j_t_lineReader_reader : Nat → Int64) (r_t_spareLine_grades : Nat → Int32) (r_t_lineReader_haltNames : Nat → Int64) (r_t_lineReader_kindNames : Nat → Int64) (r_t_spareLine_halts : Nat → Int32) (r_t_spareLine_loops : Nat → Int32) (r_t_spareLine_kinds : Nat → Int32) (r_t_spareLine_first : Nat → Int32) (d_t_now : Nat → Nat) (w_t_now : Nat → Value) (a_t_now_line : Nat) (d_t_now_line : Nat → Nat) (i_t_now_line : Nat → Int32) (d_t_now_train : Nat → Nat) (i_t_now_train : Nat → Int32) (d_t_now_train_row : Nat → Nat) (i_t_now_train_row : Nat → Int32) (r_t_now_train_row_kinds : Nat → Int32) (r_t_now_train_row_longs : Nat → Int32) (r_t_now_train_row_weights : Nat → Int32) (r_t_now_train_row_strengths : Nat → Int32) (r_t_now_train_row_wears : Nat → Int32) (r_t_now_train_row_pushes : Nat → Int32) (r_t_now_train_row_helpers : Nat → Int32) (d_t_now_train_halves : Nat → Nat) (i_t_now_train_halves : Nat → Int32) (a_t_now_plan : Nat) (d_t_now_plan : Nat → Nat) (i_t_now_plan : Nat → Int32)  (Q : Int32 → (Nat → Int32) → (Nat → Int32) → (Nat → Int32) → (Nat → Int32) → (Nat → Int64) → (Nat → Int32) → (Nat → Int64) → (Nat → Int64) → (Nat → Int32) → (Nat → Int32) → (Nat → Int32) → (Nat → Int32) → (Nat → Int32) → (Nat → Int32) → (Nat → Int32) → (Nat → Int32) → (Nat → Int32) → (Nat → Int32) → (Nat → Int32) → (Nat → Int32) → (Nat → Int32) → (Nat → Int32) → (Nat → Int32) → Prop) (Q1 : Int32 → (Nat → Int32) → (Nat → Int32) → (Nat → Int32) → (Nat → Int32) → (Nat → Int64) → (Nat → Int32) → (Nat → Int64) → (Nat → Int64) → (Nat → Int32) → (Nat → Int32) → (Nat → Int32) → (Nat → Int32) → (Nat → Int32) → (Nat → Int32) → (Nat → Int32) → (Nat → Int32) → (Nat → Int32) → (Nat → Int32) → (Nat → Int32) → (Nat → Int32) → (Nat → Int32) → (Nat → Int32) → (Nat → Int32) → Prop) (hw_t_spareLine : w_t 7 = .ref a_t_spareLine) (hw_t_now_line : w_t_now 0 = .ref a_t_now_line) (hw_t_now_plan : w_t_now 1 = .ref a_t_now_plan) (hf : w_LongTrain_line i_t i_t_lineReader r_t_tape i_t_spareLine i_t_lineReader_reader j_t_lineReader_reader r_t_spareLine_grades r_t_lineReader_haltNames r_t_lineReader_kindNames r_t_spareLine_halts r_t_spareLine_loops r_t_spareLine_kinds r_t_spareLine_first i_t_now_train i_t_now_train_row r_t_now_train_row_kinds r_t_now_train_row_longs r_t_now_train_row_weights r_t_now_train_row_strengths r_t_now_train_row_wears r_t_now_train_row_pushes r_t_now_train_row_helpers i_t_now_train_halves i_t_now_plan Q Q1) : CeI l yX11_line cX11_line 3 (some .int) 11 237 0 0 D k K [.ref a_t] (wd_LongTrain_line k a_t d_t w_t i_t d_t_lineReader w_t_lineReader i_t_lineReader r_t_tape a_t_spareLine d_t_spareLine i_t_spareLine w_t_lineReader_reader i_t_lineReader_reader j_t_lineReader_reader r_t_spareLine_grades r_t_lineReader_haltNames r_t_lineReader_kindNames r_t_spareLine_halts r_t_spareLine_loops r_t_spareLine_kinds r_t_spareLine_first d_t_now w_t_now a_t_now_line d_t_now_line i_t_now_line d_t_now_train i_t_now_train d_t_now_train_row i_t_now_train_row r_t_now_train_row_kinds r_t_now_train_row_longs r_t_now_train_row_weights r_t_now_train_row_strengths r_t_now_train_row_wears r_t_now_train_row_pushes r_t_now_train_row_helpers d_t_now_train_halves i_t_now_train_halves a_t_now_plan d_t_now_plan i_t_now_plan) (fun r w => (∃ (i_t : Nat → Int32), ∃ (i_t_lineReader : Nat → Int32), ∃ (i_t_spareLine : Nat → Int32), ∃ (i_t_lineReader_reader : Nat → Int32), ∃ (j_t_lineReader_reader : Nat → Int64), ∃ (r_t_spareLine_grades : Nat → Int32), ∃ (r_t_lineReader_haltNames : Nat → Int64), ∃ (r_t_lineReader_kindNames : Nat → Int64), ∃ (r_t_spareLine_halts : Nat → Int32), ∃ (r_t_spareLine_loops : Nat → Int32), ∃ (r_t_spareLine_kinds : Nat → Int32), ∃ (r_t_spareLine_first : Nat → Int32), ∃ (i_t_now_train : Nat → Int32), ∃ (i_t_now_train_row : Nat → Int32), ∃ (r_t_now_train_row_kinds : Nat → Int32), ∃ (r_t_now_train_row_longs : Nat → Int32), ∃ (r_t_now_train_row_weights : Nat → Int32), ∃ (r_t_now_train_row_strengths : Nat → Int32), ∃ (r_t_now_train_row_wears : Nat → Int32), ∃ (r_t_now_train_row_pushes : Nat → Int32), ∃ (r_t_now_train_row_helpers : Nat → Int32), ∃ (i_t_now_train_halves : Nat → Int32), ∃ (i_t_now_plan : Nat → Int32), w = (wd_LongTrain_line k a_t d_t w_t i_t d_t_lineReader (updV w_t_lineReader 3 (.ref a_t_spareLine)) i_t_lineReader r_t_tape a_t_spareLine d_t_spareLine i_t_spareLine (updV w_t_lineReader_reader 0 (.ref (d_t 0))) i_t_lineReader_reader j_t_lineReader_reader r_t_spareLine_grades r_t_lineReader_haltNames r_t_lineReader_kindNames r_t_spareLine_halts r_t_spareLine_loops r_t_spareLine_kinds r_t_spareLine_first d_t_now w_t_now a_t_now_line d_t_now_line i_t_now_line d_t_now_train i_t_now_train d_t_now_train_row i_t_now_train_row r_t_now_train_row_kinds r_t_now_train_row_longs r_t_now_train_row_weights r_t_now_train_row_strengths r_t_now_train_row_wears r_t_now_train_row_pushes r_t_now_train_row_helpers d_t_now_train_halves i_t_now_train_halves a_t_now_plan d_t_now_plan i_t_now_plan) ∧ Q r i_t i_t_lineReader i_t_spareLine i_t_lineReader_reader j_t_lineReader_reader r_t_spareLine_grades r_t_lineReader_haltNames r_t_lineReader_kindNames r_t_spareLine_halts r_t_spareLine_loops r_t_spareLine_kinds r_t_spareLine_first i_t_now_train i_t_now_train_row r_t_now_train_row_kinds r_t_now_train_row_longs r_t_now_train_row_weights r_t_now_train_row_strengths r_t_now_train_row_wears r_t_now_train_row_pushes r_t_now_train_row_helpers i_t_now_train_halves i_t_now_plan) ∨ (∃ (i_t : Nat → Int32), ∃ (i_t_lineReader : Nat → Int32), ∃ (i_t_spareLine : Nat → Int32), ∃ (i_t_lineReader_reader : Nat → Int32), ∃ (j_t_lineReader_reader : Nat → Int64), ∃ (r_t_spareLine_grades : Nat → Int32), ∃ (r_t_lineReader_haltNames : Nat → Int64), ∃ (r_t_lineReader_kindNames : Nat → Int64), ∃ (r_t_spareLine_halts : Nat → Int32), ∃ (r_t_spareLine_loops : Nat → Int32), ∃ (r_t_spareLine_kinds : Nat → Int32), ∃ (r_t_spareLine_first : Nat → Int32), ∃ (i_t_now_train : Nat → Int32), ∃ (i_t_now_train_row : Nat → Int32), ∃ (r_t_now_train_row_kinds : Nat → Int32), ∃ (r_t_now_train_row_longs : Nat → Int32), ∃ (r_t_now_train_row_weights : Nat → Int32), ∃ (r_t_now_train_row_strengths : Nat → Int32), ∃ (r_t_now_train_row_wears : Nat → Int32), ∃ (r_t_now_train_row_pushes : Nat → Int32), ∃ (r_t_now_train_row_helpers : Nat → Int32), ∃ (i_t_now_train_halves : Nat → Int32), ∃ (i_t_now_plan : Nat → Int32), w = (wd_LongTrain_line k a_t d_t (updV w_t 7 (.ref a_t_now_line)) i_t d_t_lineReader (updV w_t_lineReader 3 (.ref a_t_spareLine)) i_t_lineReader r_t_tape a_t_spareLine d_t_spareLine i_t_spareLine (updV w_t_lineReader_reader 0 (.ref (d_t 0))) i_t_lineReader_reader j_t_lineReader_reader r_t_spareLine_grades r_t_lineReader_haltNames r_t_lineReader_kindNames r_t_spareLine_halts r_t_spareLine_loops r_t_spareLine_kinds r_t_spareLine_first d_t_now (updV w_t_now 0 (.ref a_t_spareLine)) a_t_now_line d_t_now_line i_t_now_line d_t_now_train i_t_now_train d_t_now_train_row i_t_now_train_row r_t_now_train_row_kinds r_t_now_train_row_longs r_t_now_train_row_weights r_t_now_train_row_strengths r_t_now_train_row_wears r_t_now_train_row_pushes r_t_now_train_row_helpers d_t_now_train_halves i_t_now_train_halves a_t_now_plan d_t_now_plan i_t_now_plan) ∧ Q1 r i_t i_t_lineReader i_t_spareLine i_t_lineReader_reader j_t_lineReader_reader r_t_spareLine_grades r_t_lineReader_haltNames r_t_lineReader_kindNames r_t_spareLine_halts r_t_spareLine_loops r_t_spareLine_kinds r_t_spareLine_first i_t_now_train i_t_now_train_row r_t_now_train_row_kinds r_t_now_train_row_longs r_t_now_train_row_weights r_t_now_train_row_strengths r_t_now_train_row_wears r_t_now_train_row_pushes r_t_now_train_row_helpers i_t_now_train_halves i_t_now_plan)) := by
  refine CeI.of (by decide) (Nat.le_of_ble_eq_true rfl) ?_
  intro p e s m below meth c A F hr hlk hnm hA hE hB ls hl
  have hx := F.x
  have hb := F.b
  unfold w_LongTrain_line at hf
  replace hl : lv_has ls 3 [(0, .ref a_t)] := hl
  refine lv_aload_n hx hb dX11_line_0 rfl (lv_at hl 0 rfl) ?_
  refine g_get (w := .ref (d_t 3)) F hB 0 rfl fl_RX11_16 rfl dX11_line_1 ?_
  refine lv_aload_n hx hb dX11_line_4 rfl (lv_at hl 0 rfl) ?_
  refine g_get (w := .ref (d_t 0)) F hB 0 rfl fl_RX11_9 rfl dX11_line_5 ?_
  refine lv_aload_n hx hb dX11_line_8 rfl (lv_at hl 0 rfl) ?_
  refine k_vi (wr := [((d_t 3), ob 4 (vmx 4 d_t_lineReader w_t_lineReader) i_t_lineReader j0), ((d_t 0), ai k 940 r_t_tape), (a_t_spareLine, ob 3 (rfd d_t_spareLine) i_t_spareLine j0), ((d_t_lineReader 0), ob 7 (vmx 7 d0 w_t_lineReader_reader) i_t_lineReader_reader j_t_lineReader_reader), ((d_t_spareLine 0), ai k 400 r_t_spareLine_grades), ((d_t_lineReader 1), aj k 10 r_t_lineReader_haltNames), ((d_t_lineReader 2), aj k 6 r_t_lineReader_kindNames), ((d_t_spareLine 2), ai k 30 r_t_spareLine_halts), ((d_t_spareLine 4), ai k 16 r_t_spareLine_loops), ((d_t_spareLine 6), ai k 18 r_t_spareLine_kinds), ((d_t_spareLine 8), ai k 8 r_t_spareLine_first), ((d_t 5), ob 9 (vmx 9 d_t_now w_t_now) i0 j0), (a_t_now_line, ob 3 (rfd d_t_now_line) i_t_now_line j0), ((d_t_now 2), ob 10 (rfd d_t_now_train) i_t_now_train j0), ((d_t_now_train 0), ob 8 (rfd d_t_now_train_row) i_t_now_train_row j0), ((d_t_now_train_row 0), ai k 20 r_t_now_train_row_kinds), ((d_t_now_train_row 1), ai k 20 r_t_now_train_row_longs), ((d_t_now_train_row 2), ai k 20 r_t_now_train_row_weights), ((d_t_now_train_row 3), ai k 20 r_t_now_train_row_strengths), ((d_t_now_train_row 4), ai k 20 r_t_now_train_row_wears), ((d_t_now_train_row 5), ai k 20 r_t_now_train_row_pushes), ((d_t_now_train_row 6), ai k 20 r_t_now_train_row_helpers), ((d_t_now_train 1), ob 1 (rfd d_t_now_train_halves) i_t_now_train_halves j0), (a_t_now_plan, ob 6 (rfd d_t_now_plan) i_t_now_plan j0)]) (rest := [.ref (d_t 0), .ref (d_t 3)]) F hA hB (c_LongTrain_takeTape l D k a_t d_t w_t i_t _  hf) ml_RX11_88 mv_yX11_takeTape [0] [1, 2, 3, 4, 5, 6, 7, 8, 9, 10, 11, 12, 13, 14, 15, 16, 17, 18, 19, 20, 21, 22, 23, 24] rfl rfl (by decide) (by decide) (by decide) 0 rfl rfl rfl hl.1 rfl (Nat.le_of_ble_eq_true rfl) ⟨Nat.le_of_ble_eq_true rfl, Nat.le_of_ble_eq_true rfl⟩ ⟨Nat.le_of_ble_eq_true rfl, Nat.le_of_ble_eq_true rfl⟩ dX11_line_9 (fun z_2 w1 H locs hq hB => ?_)
  obtain ⟨i_t_1, rfl, hf⟩ := hq
  replace hB : Bd D A s.heap (wd_LongTrain_line k a_t d_t w_t i_t_1 d_t_lineReader w_t_lineReader i_t_lineReader r_t_tape a_t_spareLine d_t_spareLine i_t_spareLine w_t_lineReader_reader i_t_lineReader_reader j_t_lineReader_reader r_t_spareLine_grades r_t_lineReader_haltNames r_t_lineReader_kindNames r_t_spareLine_halts r_t_spareLine_loops r_t_spareLine_kinds r_t_spareLine_first d_t_now w_t_now a_t_now_line d_t_now_line i_t_now_line d_t_now_train i_t_now_train d_t_now_train_row i_t_now_train_row r_t_now_train_row_kinds r_t_now_train_row_longs r_t_now_train_row_weights r_t_now_train_row_strengths r_t_now_train_row_wears r_t_now_train_row_pushes r_t_now_train_row_helpers d_t_now_train_halves i_t_now_train_halves a_t_now_plan d_t_now_plan i_t_now_plan) H locs := hB.sub [24, 0, 1, 2, 3, 4, 5, 6, 7, 8, 9, 10, 11, 12, 13, 14, 15, 16, 17, 18, 19, 20, 21, 22, 23] (by decide) rfl
  refine lv_aload_n hx hb dX11_line_12 rfl (lv_at hl 0 rfl) ?_
  refine g_get (w := .ref a_t_spareLine) F hB 0 rfl fl_RX11_41 hw_t_spareLine dX11_line_13 ?_
  refine ke_vi (wr := [(a_t, ob 11 (vmx 11 d_t w_t) i_t_1 j0), ((d_t 5), ob 9 (vmx 9 d_t_now w_t_now) i0 j0), (a_t_now_line, ob 3 (rfd d_t_now_line) i_t_now_line j0), ((d_t_now 2), ob 10 (rfd d_t_now_train) i_t_now_train j0), ((d_t_now_train 0), ob 8 (rfd d_t_now_train_row) i_t_now_train_row j0), ((d_t_now_train_row 0), ai k 20 r_t_now_train_row_kinds), ((d_t_now_train_row 1), ai k 20 r_t_now_train_row_longs), ((d_t_now_train_row 2), ai k 20 r_t_now_train_row_weights), ((d_t_now_train_row 3), ai k 20 r_t_now_train_row_strengths), ((d_t_now_train_row 4), ai k 20 r_t_now_train_row_wears), ((d_t_now_train_row 5), ai k 20 r_t_now_train_row_pushes), ((d_t_now_train_row 6), ai k 20 r_t_now_train_row_helpers), ((d_t_now_train 1), ob 1 (rfd d_t_now_train_halves) i_t_now_train_halves j0), (a_t_now_plan, ob 6 (rfd d_t_now_plan) i_t_now_plan j0)]) (rest := []) F hE hA hB (c_LineReader_read l D k K (d_t 3) d_t_lineReader w_t_lineReader i_t_lineReader (d_t 0) r_t_tape a_t_spareLine d_t_spareLine i_t_spareLine w_t_lineReader_reader i_t_lineReader_reader j_t_lineReader_reader r_t_spareLine_grades r_t_lineReader_haltNames r_t_lineReader_kindNames r_t_spareLine_halts r_t_spareLine_loops r_t_spareLine_kinds r_t_spareLine_first z_2 _  hf) ml_RX11_92 mv_yX4_read [1, 2, 3, 4, 5, 6, 7, 8, 9, 10, 11] [0, 12, 13, 14, 15, 16, 17, 18, 19, 20, 21, 22, 23, 24] rfl rfl (by decide) (by decide) (by decide) (rcv F hB 1 rfl rfl) rfl hl.1 rfl (Nat.le_of_ble_eq_true rfl) ⟨Nat.le_of_ble_eq_true rfl, Nat.le_of_ble_eq_true rfl⟩ ⟨Nat.le_of_ble_eq_true rfl, Nat.le_of_ble_eq_true rfl⟩ dX11_line_16 (fun z_14 w1 H locs hq hB => ?_)
  obtain ⟨i_t_lineReader_3, i_t_spareLine_4, i_t_lineReader_reader_5, j_t_lineReader_reader_6, r_t_spareLine_grades_7, r_t_lineReader_haltNames_8, r_t_lineReader_kindNames_9, r_t_spareLine_halts_10, r_t_spareLine_loops_11, r_t_spareLine_kinds_12, r_t_spareLine_first_13, rfl, hf⟩ := hq
  replace hB : Bd D A s.heap (wd_LongTrain_line k a_t d_t w_t i_t_1 d_t_lineReader (updV w_t_lineReader 3 (.ref a_t_spareLine)) i_t_lineReader_3 r_t_tape a_t_spareLine d_t_spareLine i_t_spareLine_4 (updV w_t_lineReader_reader 0 (.ref (d_t 0))) i_t_lineReader_reader_5 j_t_lineReader_reader_6 r_t_spareLine_grades_7 r_t_lineReader_haltNames_8 r_t_lineReader_kindNames_9 r_t_spareLine_halts_10 r_t_spareLine_loops_11 r_t_spareLine_kinds_12 r_t_spareLine_first_13 d_t_now w_t_now a_t_now_line d_t_now_line i_t_now_line d_t_now_train i_t_now_train d_t_now_train_row i_t_now_train_row r_t_now_train_row_kinds r_t_now_train_row_longs r_t_now_train_row_weights r_t_now_train_row_strengths r_t_now_train_row_wears r_t_now_train_row_pushes r_t_now_train_row_helpers d_t_now_train_halves i_t_now_train_halves a_t_now_plan d_t_now_plan i_t_now_plan) H locs := hB.sub [0, 14, 15, 16, 17, 18, 19, 20, 21, 22, 23, 24, 1, 2, 3, 4, 5, 6, 7, 8, 9, 10, 11, 12, 13] (by decide) rfl
  refine lv_istore_n (lv' := [(1, .int z_14), (0, .ref a_t)]) hx hb dX11_line_19 rfl hl (by decide) rfl (fun ls hl => ?_)
  refine lv_aload_n hx hb dX11_line_20 rfl (lv_at hl 1 rfl) ?_
  refine lv_aload_n hx hb dX11_line_21 rfl (lv_at hl 1 rfl) ?_
  refine g_get (w := .ref (d_t 3)) F hB 0 rfl fl_RX11_16 rfl dX11_line_22 ?_
  refine g_get (w := .ref (d_t_lineReader 0)) F hB 1 rfl fl_RX11_96 rfl dX11_line_25 ?_
  refine g_get (w := .int (i_t_lineReader_reader_5 8)) F hB 4 rfl fl_RX11_99 rfl dX11_line_28 ?_
  refine g_puti F hB 0 rfl fl_RX11_102 rfl (wd_LongTrain_line k a_t d_t w_t (upd i_t_1 2 (i_t_lineReader_reader_5 8)) d_t_lineReader (updV w_t_lineReader 3 (.ref a_t_spareLine)) i_t_lineReader_3 r_t_tape a_t_spareLine d_t_spareLine i_t_spareLine_4 (updV w_t_lineReader_reader 0 (.ref (d_t 0))) i_t_lineReader_reader_5 j_t_lineReader_reader_6 r_t_spareLine_grades_7 r_t_lineReader_haltNames_8 r_t_lineReader_kindNames_9 r_t_spareLine_halts_10 r_t_spareLine_loops_11 r_t_spareLine_kinds_12 r_t_spareLine_first_13 d_t_now w_t_now a_t_now_line d_t_now_line i_t_now_line d_t_now_train i_t_now_train d_t_now_train_row i_t_now_train_row r_t_now_train_row_kinds r_t_now_train_row_longs r_t_now_train_row_weights r_t_now_train_row_strengths r_t_now_train_row_wears r_t_now_train_row_pushes r_t_now_train_row_helpers d_t_now_train_halves i_t_now_train_halves a_t_now_plan d_t_now_plan i_t_now_plan) rfl dX11_line_31 (fun H locs hB => ?_)
  refine lv_iload_n hx hb dX11_line_34 rfl (lv_at hl 0 rfl) ?_
  refine lv_if_lt (tgt := 89) hx hb dX11_line_35 (by decide) (fun c_26 => ?_) (fun c_26 => ?_)
  · replace hf := hf.1 c_26
    refine lv_iload_n hx hb dX11_line_89 rfl (lv_at hl 0 rfl) ?_
    exact r_i F hr hlk hB (Or.inl ⟨_, _, _, _, _, _, _, _, _, _, _, _, _, _, _, _, _, _, _, _, _, _, _, rfl, hf⟩) dX11_line_90
  · replace hf := hf.2 c_26
    refine lv_aload_n hx hb dX11_line_38 rfl (lv_at hl 1 rfl) ?_
    refine g_get (w := .ref (d_t 5)) F hB 0 rfl fl_RX11_30 rfl dX11_line_39 ?_
    refine g_get (w := .ref a_t_now_line) F hB 12 rfl fl_RX11_105 hw_t_now_line dX11_line_42 ?_
    refine lv_astore_n (lv' := [(2, .ref a_t_now_line), (1, .int z_14), (0, .ref a_t)]) hx hb dX11_line_45 rfl hl (by decide) rfl (fun ls hl => ?_)
    refine lv_aload_n hx hb dX11_line_46 rfl (lv_at hl 2 rfl) ?_
    refine g_get (w := .ref (d_t 5)) F hB 0 rfl fl_RX11_30 rfl dX11_line_47 ?_
    refine lv_aload_n hx hb dX11_line_50 rfl (lv_at hl 2 rfl) ?_
    refine g_get (w := .ref a_t_spareLine) F hB 0 rfl fl_RX11_41 hw_t_spareLine dX11_line_51 ?_
    refine g_putm F hB 12 rfl fl_RX11_105 rfl rfl rfl rfl (wd_LongTrain_line k a_t d_t w_t (upd i_t_1 2 (i_t_lineReader_reader_5 8)) d_t_lineReader (updV w_t_lineReader 3 (.ref a_t_spareLine)) i_t_lineReader_3 r_t_tape a_t_spareLine d_t_spareLine i_t_spareLine_4 (updV w_t_lineReader_reader 0 (.ref (d_t 0))) i_t_lineReader_reader_5 j_t_lineReader_reader_6 r_t_spareLine_grades_7 r_t_lineReader_haltNames_8 r_t_lineReader_kindNames_9 r_t_spareLine_halts_10 r_t_spareLine_loops_11 r_t_spareLine_kinds_12 r_t_spareLine_first_13 d_t_now (updV w_t_now 0 (.ref a_t_spareLine)) a_t_now_line d_t_now_line i_t_now_line d_t_now_train i_t_now_train d_t_now_train_row i_t_now_train_row r_t_now_train_row_kinds r_t_now_train_row_longs r_t_now_train_row_weights r_t_now_train_row_strengths r_t_now_train_row_wears r_t_now_train_row_pushes r_t_now_train_row_helpers d_t_now_train_halves i_t_now_train_halves a_t_now_plan d_t_now_plan i_t_now_plan) rfl dX11_line_54 (fun H locs hB => ?_)
    refine lv_aload_n hx hb dX11_line_57 rfl (lv_at hl 2 rfl) ?_
    refine lv_aload_n hx hb dX11_line_58 rfl (lv_at hl 0 rfl) ?_
    refine g_putm F hB 0 rfl fl_RX11_41 rfl rfl rfl rfl (wd_LongTrain_line k a_t d_t (updV w_t 7 (.ref a_t_now_line)) (upd i_t_1 2 (i_t_lineReader_reader_5 8)) d_t_lineReader (updV w_t_lineReader 3 (.ref a_t_spareLine)) i_t_lineReader_3 r_t_tape a_t_spareLine d_t_spareLine i_t_spareLine_4 (updV w_t_lineReader_reader 0 (.ref (d_t 0))) i_t_lineReader_reader_5 j_t_lineReader_reader_6 r_t_spareLine_grades_7 r_t_lineReader_haltNames_8 r_t_lineReader_kindNames_9 r_t_spareLine_halts_10 r_t_spareLine_loops_11 r_t_spareLine_kinds_12 r_t_spareLine_first_13 d_t_now (updV w_t_now 0 (.ref a_t_spareLine)) a_t_now_line d_t_now_line i_t_now_line d_t_now_train i_t_now_train d_t_now_train_row i_t_now_train_row r_t_now_train_row_kinds r_t_now_train_row_longs r_t_now_train_row_weights r_t_now_train_row_strengths r_t_now_train_row_wears r_t_now_train_row_pushes r_t_now_train_row_helpers d_t_now_train_halves i_t_now_train_halves a_t_now_plan d_t_now_plan i_t_now_plan) rfl dX11_line_59 (fun H locs hB => ?_)
    refine lv_aload_n hx hb dX11_line_62 rfl (lv_at hl 2 rfl) ?_
    refine g_get (w := .ref (d_t 5)) F hB 0 rfl fl_RX11_30 rfl dX11_line_63 ?_
    refine g_get (w := .ref (d_t_now 2)) F hB 12 rfl fl_RX11_108 rfl dX11_line_66 ?_
    refine lv_aload_n hx hb dX11_line_69 rfl (lv_at hl 2 rfl) ?_
    refine g_get (w := .ref (d_t 5)) F hB 0 rfl fl_RX11_30 rfl dX11_line_70 ?_
    refine g_get (w := .ref a_t_spareLine) F hB 12 rfl fl_RX11_105 rfl dX11_line_73 ?_
    refine k_vv (wr := [(a_t, ob 11 (vmx 11 d_t (updV w_t 7 (.ref a_t_now_line))) (upd i_t_1 2 (i_t_lineReader_reader_5 8)) j0), ((d_t 3), ob 4 (vmx 4 d_t_lineReader (updV w_t_lineReader 3 (.ref a_t_spareLine))) i_t_lineReader_3 j0), ((d_t 0), ai k 940 r_t_tape), ((d_t_lineReader 0), ob 7 (vmx 7 d0 (updV w_t_lineReader_reader 0 (.ref (d_t 0)))) i_t_lineReader_reader_5 j_t_lineReader_reader_6), ((d_t_spareLine 0), ai k 400 r_t_spareLine_grades_7), ((d_t_lineReader 1), aj k 10 r_t_lineReader_haltNames_8), ((d_t_lineReader 2), aj k 6 r_t_lineReader_kindNames_9), ((d_t_spareLine 4), ai k 16 r_t_spareLine_loops_11), ((d_t 5), ob 9 (vmx 9 d_t_now (updV w_t_now 0 (.ref a_t_spareLine))) i0 j0), (a_t_now_line, ob 3 (rfd d_t_now_line) i_t_now_line j0), (a_t_now_plan, ob 6 (rfd d_t_now_plan) i_t_now_plan j0)]) (rest := []) F hA hB (c_Train_begin l D k (d_t_now 2) d_t_now_train i_t_now_train a_t_spareLine d_t_spareLine i_t_spareLine_4 d_t_now_train_row i_t_now_train_row r_t_spareLine_halts_10 r_t_spareLine_first_13 r_t_now_train_row_kinds r_t_now_train_row_longs r_t_now_train_row_weights r_t_now_train_row_strengths r_t_now_train_row_wears r_t_now_train_row_pushes r_t_now_train_row_helpers r_t_spareLine_kinds_12 d_t_now_train_halves i_t_now_train_halves _  hf) ml_RX11_111 mv_yX10_begin [14, 3, 15, 8, 11, 16, 17, 18, 19, 20, 21, 22, 10, 23] [0, 1, 2, 4, 5, 6, 7, 9, 12, 13, 24] rfl rfl (by decide) (by decide) (by decide) 14 rfl rfl rfl hl.1 rfl (Nat.le_of_ble_eq_true rfl) ⟨Nat.le_of_ble_eq_true rfl, Nat.le_of_ble_eq_true rfl⟩ ⟨Nat.le_of_ble_eq_true rfl, Nat.le_of_ble_eq_true rfl⟩ dX11_line_76 (fun w1 H locs hq hB => ?_)
    obtain ⟨i_t_now_train_15, i_t_now_train_row_16, r_t_now_train_row_kinds_17, r_t_now_train_row_longs_18, r_t_now_train_row_weights_19, r_t_now_train_row_strengths_20, r_t_now_train_row_wears_21, r_t_now_train_row_pushes_22, r_t_now_train_row_helpers_23, i_t_now_train_halves_24, rfl, hf⟩ := hq
    replace hB : Bd D A s.heap (wd_LongTrain_line k a_t d_t (updV w_t 7 (.ref a_t_now_line)) (upd i_t_1 2 (i_t_lineReader_reader_5 8)) d_t_lineReader (updV w_t_lineReader 3 (.ref a_t_spareLine)) i_t_lineReader_3 r_t_tape a_t_spareLine d_t_spareLine i_t_spareLine_4 (updV w_t_lineReader_reader 0 (.ref (d_t 0))) i_t_lineReader_reader_5 j_t_lineReader_reader_6 r_t_spareLine_grades_7 r_t_lineReader_haltNames_8 r_t_lineReader_kindNames_9 r_t_spareLine_halts_10 r_t_spareLine_loops_11 r_t_spareLine_kinds_12 r_t_spareLine_first_13 d_t_now (updV w_t_now 0 (.ref a_t_spareLine)) a_t_now_line d_t_now_line i_t_now_line d_t_now_train i_t_now_train_15 d_t_now_train_row i_t_now_train_row_16 r_t_now_train_row_kinds_17 r_t_now_train_row_longs_18 r_t_now_train_row_weights_19 r_t_now_train_row_strengths_20 r_t_now_train_row_wears_21 r_t_now_train_row_pushes_22 r_t_now_train_row_helpers_23 d_t_now_train_halves i_t_now_train_halves_24 a_t_now_plan d_t_now_plan i_t_now_plan) H locs := hB.sub [0, 1, 2, 12, 3, 4, 5, 6, 14, 7, 23, 15, 8, 9, 11, 13, 16, 17, 18, 19, 20, 21, 22, 24, 10] (by decide) rfl
    refine lv_aload_n hx hb dX11_line_79 rfl (lv_at hl 2 rfl) ?_
    refine g_get (w := .ref (d_t 5)) F hB 0 rfl fl_RX11_30 rfl dX11_line_80 ?_
    refine g_get (w := .ref a_t_now_plan) F hB 12 rfl fl_RX11_115 hw_t_now_plan dX11_line_83 ?_
    refine k_vv (wr := [(a_t, ob 11 (vmx 11 d_t (updV w_t 7 (.ref a_t_now_line))) (upd i_t_1 2 (i_t_lineReader_reader_5 8)) j0), ((d_t 3), ob 4 (vmx 4 d_t_lineReader (updV w_t_lineReader 3 (.ref a_t_spareLine))) i_t_lineReader_3 j0), ((d_t 0), ai k 940 r_t_tape), (a_t_spareLine, ob 3 (rfd d_t_spareLine) i_t_spareLine_4 j0), ((d_t_lineReader 0), ob 7 (vmx 7 d0 (updV w_t_lineReader_reader 0 (.ref (d_t 0)))) i_t_lineReader_reader_5 j_t_lineReader_reader_6), ((d_t_spareLine 0), ai k 400 r_t_spareLine_grades_7), ((d_t_lineReader 1), aj k 10 r_t_lineReader_haltNames_8), ((d_t_lineReader 2), aj k 6 r_t_lineReader_kindNames_9), ((d_t_spareLine 2), ai k 30 r_t_spareLine_halts_10), ((d_t_spareLine 4), ai k 16 r_t_spareLine_loops_11), ((d_t_spareLine 6), ai k 18 r_t_spareLine_kinds_12), ((d_t_spareLine 8), ai k 8 r_t_spareLine_first_13), ((d_t 5), ob 9 (vmx 9 d_t_now (updV w_t_now 0 (.ref a_t_spareLine))) i0 j0), (a_t_now_line, ob 3 (rfd d_t_now_line) i_t_now_line j0), ((d_t_now 2), ob 10 (rfd d_t_now_train) i_t_now_train_15 j0), ((d_t_now_train 0), ob 8 (rfd d_t_now_train_row) i_t_now_train_row_16 j0), ((d_t_now_train_row 0), ai k 20 r_t_now_train_row_kinds_17), ((d_t_now_train_row 1), ai k 20 r_t_now_train_row_longs_18), ((d_t_now_train_row 2), ai k 20 r_t_now_train_row_weights_19), ((d_t_now_train_row 3), ai k 20 r_t_now_train_row_strengths_20), ((d_t_now_train_row 4), ai k 20 r_t_now_train_row_wears_21), ((d_t_now_train_row 5), ai k 20 r_t_now_train_row_pushes_22), ((d_t_now_train_row 6), ai k 20 r_t_now_train_row_helpers_23), ((d_t_now_train 1), ob 1 (rfd d_t_now_train_halves) i_t_now_train_halves_24 j0)]) (rest := []) F hA hB (c_Plan_clear l D k a_t_now_plan d_t_now_plan i_t_now_plan _  hf) ml_RX11_118 mv_yX6_clear [24] [0, 1, 2, 3, 4, 5, 6, 7, 8, 9, 10, 11, 12, 13, 14, 15, 16, 17, 18, 19, 20, 21, 22, 23] rfl rfl (by decide) (by decide) (by decide) 24 rfl rfl rfl hl.1 rfl (Nat.le_of_ble_eq_true rfl) ⟨Nat.le_of_ble_eq_true rfl, Nat.le_of_ble_eq_true rfl⟩ ⟨Nat.le_of_ble_eq_true rfl, Nat.le_of_ble_eq_true rfl⟩ dX11_line_86 (fun w1 H locs hq hB => ?_)
    obtain ⟨i_t_now_plan_25, rfl, hf⟩ := hq
    replace hB : Bd D A s.heap (wd_LongTrain_line k a_t d_t (updV w_t 7 (.ref a_t_now_line)) (upd i_t_1 2 (i_t_lineReader_reader_5 8)) d_t_lineReader (updV w_t_lineReader 3 (.ref a_t_spareLine)) i_t_lineReader_3 r_t_tape a_t_spareLine d_t_spareLine i_t_spareLine_4 (updV w_t_lineReader_reader 0 (.ref (d_t 0))) i_t_lineReader_reader_5 j_t_lineReader_reader_6 r_t_spareLine_grades_7 r_t_lineReader_haltNames_8 r_t_lineReader_kindNames_9 r_t_spareLine_halts_10 r_t_spareLine_loops_11 r_t_spareLine_kinds_12 r_t_spareLine_first_13 d_t_now (updV w_t_now 0 (.ref a_t_spareLine)) a_t_now_line d_t_now_line i_t_now_line d_t_now_train i_t_now_train_15 d_t_now_train_row i_t_now_train_row_16 r_t_now_train_row_kinds_17 r_t_now_train_row_longs_18 r_t_now_train_row_weights_19 r_t_now_train_row_strengths_20 r_t_now_train_row_wears_21 r_t_now_train_row_pushes_22 r_t_now_train_row_helpers_23 d_t_now_train_halves i_t_now_train_halves_24 a_t_now_plan d_t_now_plan i_t_now_plan_25) H locs := hB.sub [0, 1, 2, 3, 4, 5, 6, 7, 8, 9, 10, 11, 12, 13, 14, 15, 16, 17, 18, 19, 20, 21, 22, 23, 24] (by decide) rfl
    refine lv_iload_n hx hb dX11_line_89 rfl (lv_at hl 1 rfl) ?_
    exact r_i F hr hlk hB (Or.inr ⟨_, _, _, _, _, _, _, _, _, _, _, _, _, _, _, _, _, _, _, _, _, _, _, rfl, hf⟩) dX11_line_90

/-! LongTrain.plan -/
set_option maxRecDepth 100000 in
set_option maxHeartbeats 4000000 in
theorem c_LongTrain_plan (l : Launch) (D : va_G) (k : Nat → ClassId)  (K : Nat → Nat) (a_t : Nat) (d_t : Nat → Nat) (w_t : Nat → Value) (i_t : Nat → Int32) (a_t_sparePlan : Nat) (d_t_sparePlan : Nat → Nat) (i_t_sparePlan : Nat → Int32) (w_t_planReader : Nat → Value) (i_t_planReader : Nat → Int32) (j_t_planReader : Nat → Int64) (r_t_tape : Nat → Int32) (r_t_sparePlan_words : Nat → Int32) (r_t_sparePlan_firsts : Nat → Int32) (r_t_sparePlan_seconds : Nat → Int32) (d_t_now : Nat → Nat) (w_t_now : Nat → Value) (a_t_now_plan : Nat) (d_t_now_plan : Nat → Nat) (i_t_now_plan : Nat → Int32)  (Q : Int32 → (Nat → Int32) → (Nat → Int32) → (Nat → Int32) → (Nat → Int64) → (Nat → Int32) → (Nat → Int32) → (Nat → Int32) → Prop) (Q1 : Int32 → (Nat → Int32) → (Nat → Int32) → (Nat → Int32) → (Nat → Int64) → (Nat → Int32) → (Nat → Int32) → (Nat → Int32) → Prop) (hw_t_sparePlan : w_t 8 = .ref a_t_sparePlan) (hw_t_now_plan : w_t_now 1 = .ref a_t_now_plan) (hf : w_LongTrain_plan i_t i_t_sparePlan i_t_planReader j_t_planReader r_t_tape r_t_sparePlan_words r_t_sparePlan_firsts r_t_sparePlan_seconds Q Q1) : CeI l yX11_plan cX11_plan 3 (some .int) 7 153 0 0 D k K [.ref a_t] (wd_LongTrain_plan k a_t d_t w_t i_t a_t_sparePlan d_t_sparePlan i_t_sparePlan w_t_planReader i_t_planReader j_t_planReader r_t_tape r_t_sparePlan_words r_t_sparePlan_firsts r_t_sparePlan_seconds d_t_now w_t_now a_t_now_plan d_t_now_plan i_t_now_plan) (fun r w => (∃ (i_t : Nat → Int32), ∃ (i_t_sparePlan : Nat → Int32), ∃ (i_t_planReader : Nat → Int32), ∃ (j_t_planReader : Nat → Int64), ∃ (r_t_sparePlan_words : Nat → Int32), ∃ (r_t_sparePlan_firsts : Nat → Int32), ∃ (r_t_sparePlan_seconds : Nat → Int32), w = (wd_LongTrain_plan k a_t d_t w_t i_t a_t_sparePlan d_t_sparePlan i_t_sparePlan (updV w_t_planReader 0 (.ref (d_t 0))) i_t_planReader j_t_planReader r_t_tape r_t_sparePlan_words r_t_sparePlan_firsts r_t_sparePlan_seconds d_t_now w_t_now a_t_now_plan d_t_now_plan i_t_now_plan) ∧ Q r i_t i_t_sparePlan i_t_planReader j_t_planReader r_t_sparePlan_words r_t_sparePlan_firsts r_t_sparePlan_seconds) ∨ (∃ (i_t : Nat → Int32), ∃ (i_t_sparePlan : Nat → Int32), ∃ (i_t_planReader : Nat → Int32), ∃ (j_t_planReader : Nat → Int64), ∃ (r_t_sparePlan_words : Nat → Int32), ∃ (r_t_sparePlan_firsts : Nat → Int32), ∃ (r_t_sparePlan_seconds : Nat → Int32), w = (wd_LongTrain_plan k a_t d_t (updV w_t 8 (.ref a_t_now_plan)) i_t a_t_sparePlan d_t_sparePlan i_t_sparePlan (updV w_t_planReader 0 (.ref (d_t 0))) i_t_planReader j_t_planReader r_t_tape r_t_sparePlan_words r_t_sparePlan_firsts r_t_sparePlan_seconds d_t_now (updV w_t_now 1 (.ref a_t_sparePlan)) a_t_now_plan d_t_now_plan i_t_now_plan) ∧ Q1 r i_t i_t_sparePlan i_t_planReader j_t_planReader r_t_sparePlan_words r_t_sparePlan_firsts r_t_sparePlan_seconds)) := by
  refine CeI.of (by decide) (Nat.le_of_ble_eq_true rfl) ?_
  intro p e s m below meth c A F hr hlk hnm hA hE hB ls hl
  have hx := F.x
  have hb := F.b
  unfold w_LongTrain_plan at hf
  replace hl : lv_has ls 3 [(0, .ref a_t)] := hl
  refine lv_aload_n hx hb dX11_plan_0 rfl (lv_at hl 0 rfl) ?_
  refine g_get (w := .ref a_t_sparePlan) F hB 0 rfl fl_RX11_48 hw_t_sparePlan dX11_plan_1 ?_
  refine lv_aload_n hx hb dX11_plan_4 rfl (lv_at hl 0 rfl) ?_
  refine g_get (w := .ref (d_t 4)) F hB 0 rfl fl_RX11_23 rfl dX11_plan_5 ?_
  refine lv_aload_n hx hb dX11_plan_8 rfl (lv_at hl 0 rfl) ?_
  refine g_get (w := .ref (d_t 0)) F hB 0 rfl fl_RX11_9 rfl dX11_plan_9 ?_
  refine lv_aload_n hx hb dX11_plan_12 rfl (lv_at hl 0 rfl) ?_
  refine k_vi (wr := [(a_t_sparePlan, ob 6 (rfd d_t_sparePlan) i_t_sparePlan j0), ((d_t 4), ob 7 (vmx 7 d0 w_t_planReader) i_t_planReader j_t_planReader), ((d_t 0), ai k 940 r_t_tape), ((d_t_sparePlan 0), ai k 30 r_t_sparePlan_words), ((d_t_sparePlan 1), ai k 30 r_t_sparePlan_firsts), ((d_t_sparePlan 2), ai k 30 r_t_sparePlan_seconds), ((d_t 5), ob 9 (vmx 9 d_t_now w_t_now) i0 j0), (a_t_now_plan, ob 6 (rfd d_t_now_plan) i_t_now_plan j0)]) (rest := [.ref (d_t 0), .ref (d_t 4), .ref a_t_sparePlan]) F hA hB (c_LongTrain_takeTape l D k a_t d_t w_t i_t _  hf) ml_RX11_88 mv_yX11_takeTape [0] [1, 2, 3, 4, 5, 6, 7, 8] rfl rfl (by decide) (by decide) (by decide) 0 rfl rfl rfl hl.1 rfl (Nat.le_of_ble_eq_true rfl) ⟨Nat.le_of_ble_eq_true rfl, Nat.le_of_ble_eq_true rfl⟩ ⟨Nat.le_of_ble_eq_true rfl, Nat.le_of_ble_eq_true rfl⟩ dX11_plan_13 (fun z_2 w1 H locs hq hB => ?_)
  obtain ⟨i_t_1, rfl, hf⟩ := hq
  replace hB : Bd D A s.heap (wd_LongTrain_plan k a_t d_t w_t i_t_1 a_t_sparePlan d_t_sparePlan i_t_sparePlan w_t_planReader i_t_planReader j_t_planReader r_t_tape r_t_sparePlan_words r_t_sparePlan_firsts r_t_sparePlan_seconds d_t_now w_t_now a_t_now_plan d_t_now_plan i_t_now_plan) H locs := hB.sub [8, 0, 1, 2, 3, 4, 5, 6, 7] (by decide) rfl
  refine ke_vi (wr := [(a_t, ob 11 (vmx 11 d_t w_t) i_t_1 j0), ((d_t 5), ob 9 (vmx 9 d_t_now w_t_now) i0 j0), (a_t_now_plan, ob 6 (rfd d_t_now_plan) i_t_now_plan j0)]) (rest := []) F hE hA hB (c_Plan_read l D k K a_t_sparePlan d_t_sparePlan i_t_sparePlan (d_t 4) w_t_planReader i_t_planReader j_t_planReader (d_t 0) r_t_tape r_t_sparePlan_words r_t_sparePlan_firsts r_t_sparePlan_seconds z_2 _  hf) ml_RX11_337 mv_yX6_read [1, 2, 3, 4, 5, 6] [0, 7, 8] rfl rfl (by decide) (by decide) (by decide) (rcv F hB 1 rfl rfl) rfl hl.1 rfl (Nat.le_of_ble_eq_true rfl) ⟨Nat.le_of_ble_eq_true rfl, Nat.le_of_ble_eq_true rfl⟩ ⟨Nat.le_of_ble_eq_true rfl, Nat.le_of_ble_eq_true rfl⟩ dX11_plan_16 (fun z_9 w1 H locs hq hB => ?_)
  obtain ⟨i_t_sparePlan_3, i_t_planReader_4, j_t_planReader_5, r_t_sparePlan_words_6, r_t_sparePlan_firsts_7, r_t_sparePlan_seconds_8, rfl, hf⟩ := hq
  replace hB : Bd D A s.heap (wd_LongTrain_plan k a_t d_t w_t i_t_1 a_t_sparePlan d_t_sparePlan i_t_sparePlan_3 (updV w_t_planReader 0 (.ref (d_t 0))) i_t_planReader_4 j_t_planReader_5 r_t_tape r_t_sparePlan_words_6 r_t_sparePlan_firsts_7 r_t_sparePlan_seconds_8 d_t_now w_t_now a_t_now_plan d_t_now_plan i_t_now_plan) H locs := hB.sub [0, 3, 4, 5, 6, 7, 8, 1, 2] (by decide) rfl
  refine lv_istore_n (lv' := [(1, .int z_9), (0, .ref a_t)]) hx hb dX11_plan_19 rfl hl (by decide) rfl (fun ls hl => ?_)
  refine lv_aload_n hx hb dX11_plan_20 rfl (lv_at hl 1 rfl) ?_
  refine lv_aload_n hx hb dX11_plan_21 rfl (lv_at hl 1 rfl) ?_
  refine g_get (w := .ref (d_t 4)) F hB 0 rfl fl_RX11_23 rfl dX11_plan_22 ?_
  refine g_get (w := .int (i_t_planReader_4 8)) F hB 2 rfl fl_RX11_99 rfl dX11_plan_25 ?_
  refine g_puti F hB 0 rfl fl_RX11_102 rfl (wd_LongTrain_plan k a_t d_t w_t (upd i_t_1 2 (i_t_planReader_4 8)) a_t_sparePlan d_t_sparePlan i_t_sparePlan_3 (updV w_t_planReader 0 (.ref (d_t 0))) i_t_planReader_4 j_t_planReader_5 r_t_tape r_t_sparePlan_words_6 r_t_sparePlan_firsts_7 r_t_sparePlan_seconds_8 d_t_now w_t_now a_t_now_plan d_t_now_plan i_t_now_plan) rfl dX11_plan_28 (fun H locs hB => ?_)
  refine lv_iload_n hx hb dX11_plan_31 rfl (lv_at hl 0 rfl) ?_
  refine lv_if_lt (tgt := 59) hx hb dX11_plan_32 (by decide) (fun c_10 => ?_) (fun c_10 => ?_)
  · replace hf := hf.1 c_10
    refine lv_iload_n hx hb dX11_plan_59 rfl (lv_at hl 0 rfl) ?_
    exact r_i F hr hlk hB (Or.inl ⟨_, _, _, _, _, _, _, rfl, hf⟩) dX11_plan_60
  · replace hf := hf.2 c_10
    refine lv_aload_n hx hb dX11_plan_35 rfl (lv_at hl 1 rfl) ?_
    refine g_get (w := .ref (d_t 5)) F hB 0 rfl fl_RX11_30 rfl dX11_plan_36 ?_
    refine g_get (w := .ref a_t_now_plan) F hB 7 rfl fl_RX11_115 hw_t_now_plan dX11_plan_39 ?_
    refine lv_astore_n (lv' := [(2, .ref a_t_now_plan), (1, .int z_9), (0, .ref a_t)]) hx hb dX11_plan_42 rfl hl (by decide) rfl (fun ls hl => ?_)
    refine lv_aload_n hx hb dX11_plan_43 rfl (lv_at hl 2 rfl) ?_
    refine g_get (w := .ref (d_t 5)) F hB 0 rfl fl_RX11_30 rfl dX11_plan_44 ?_
    refine lv_aload_n hx hb dX11_plan_47 rfl (lv_at hl 2 rfl) ?_
    refine g_get (w := .ref a_t_sparePlan) F hB 0 rfl fl_RX11_48 hw_t_sparePlan dX11_plan_48 ?_
    refine g_putm F hB 7 rfl fl_RX11_115 rfl rfl rfl rfl (wd_LongTrain_plan k a_t d_t w_t (upd i_t_1 2 (i_t_planReader_4 8)) a_t_sparePlan d_t_sparePlan i_t_sparePlan_3 (updV w_t_planReader 0 (.ref (d_t 0))) i_t_planReader_4 j_t_planReader_5 r_t_tape r_t_sparePlan_words_6 r_t_sparePlan_firsts_7 r_t_sparePlan_seconds_8 d_t_now (updV w_t_now 1 (.ref a_t_sparePlan)) a_t_now_plan d_t_now_plan i_t_now_plan) rfl dX11_plan_51 (fun H locs hB => ?_)
    refine lv_aload_n hx hb dX11_plan_54 rfl (lv_at hl 2 rfl) ?_
    refine lv_aload_n hx hb dX11_plan_55 rfl (lv_at hl 0 rfl) ?_
    refine g_putm F hB 0 rfl fl_RX11_48 rfl rfl rfl rfl (wd_LongTrain_plan k a_t d_t (updV w_t 8 (.ref a_t_now_plan)) (upd i_t_1 2 (i_t_planReader_4 8)) a_t_sparePlan d_t_sparePlan i_t_sparePlan_3 (updV w_t_planReader 0 (.ref (d_t 0))) i_t_planReader_4 j_t_planReader_5 r_t_tape r_t_sparePlan_words_6 r_t_sparePlan_firsts_7 r_t_sparePlan_seconds_8 d_t_now (updV w_t_now 1 (.ref a_t_sparePlan)) a_t_now_plan d_t_now_plan i_t_now_plan) rfl dX11_plan_56 (fun H locs hB => ?_)
    refine lv_iload_n hx hb dX11_plan_59 rfl (lv_at hl 1 rfl) ?_
    exact r_i F hr hlk hB (Or.inr ⟨_, _, _, _, _, _, _, rfl, hf⟩) dX11_plan_60

