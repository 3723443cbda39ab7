/-! LongTrainModel.peek -/
set_option maxRecDepth 100000 in
set_option maxHeartbeats 4000000 in
theorem c_LongTrainModel_peek (l : Launch) (D : va_G) (k : Nat → ClassId) (a_t : Nat) (d_t : Nat → Nat) (i_t : Nat → Int32) (j_t : Nat → Int64) (r_t_tape : Nat → Int32)  (Q : Int32 → Prop)  (hf : w_LongTrainModel_peek i_t r_t_tape Q) : CtI l yX12_peek cX12_peek 1 (some .int) 0 0 0 0 D k [.ref a_t] (wd_LongTrainModel_peek k a_t d_t i_t j_t r_t_tape) (fun r w => w = (wd_LongTrainModel_peek k a_t d_t i_t j_t r_t_tape) ∧ Q r) := by
  refine CtI.of (by decide) (Nat.le_of_ble_eq_true rfl) ?_
  intro p e s m below meth c A F hr hlk hnm hA hB ls hl
  have hx := F.x
  have hb := F.b
  unfold w_LongTrainModel_peek at hf
  replace hl : lv_has ls 1 [(0, .ref a_t)] := hl
  refine lv_aload_n hx hb dX12_peek_0 rfl (lv_at hl 0 rfl) ?_
  refine g_get (w := .int (i_t 4)) F hB 0 rfl fl_RX12_21 rfl dX12_peek_1 ?_
  refine lv_aload_n hx hb dX12_peek_4 rfl (lv_at hl 0 rfl) ?_
  refine g_get (w := .int (i_t 3)) F hB 0 rfl fl_RX12_18 rfl dX12_peek_5 ?_
  refine lv_icmp_ge (tgt := 27) hx hb dX12_peek_8 (by decide) (fun c_2 => ?_) (fun c_2 => ?_)
  · replace hf := hf.1 c_2
    refine lv_iconst (v := -1) hx hb dX12_peek_27 (by decide) ?_
    exact r_i F hr hlk hB ⟨rfl, hf⟩ dX12_peek_28
  · replace hf := hf.2 c_2
    refine lv_aload_n hx hb dX12_peek_11 rfl (lv_at hl 0 rfl) ?_
    refine g_get (w := .ref (d_t 1)) F hB 0 rfl fl_RX12_14 rfl dX12_peek_12 ?_
    refine lv_aload_n hx hb dX12_peek_15 rfl (lv_at hl 0 rfl) ?_
    refine g_get (w := .int (i_t 4)) F hB 0 rfl fl_RX12_21 rfl dX12_peek_16 ?_
    obtain ⟨h_1, hf⟩ := hf
    refine g_bald F hB 1 rfl h_1 dX12_peek_19 ?_
    refine lv_sipush (v := 255) hx hb dX12_peek_20 (by decide) ?_
    refine lv_iand hx hb dX12_peek_23 ?_
    refine lv_goto (tgt := 28) hx hb dX12_peek_24 (by decide) ?_
    exact r_i F hr hlk hB ⟨rfl, hf⟩ dX12_peek_28

/-! LongTrainModel.isSmall -/
set_option maxRecDepth 100000 in
set_option maxHeartbeats 4000000 in
theorem c_LongTrainModel_isSmall (l : Launch) (D : va_G) (k : Nat → ClassId)  (n0 : Int32) (Q : Int32 → Prop)  (hf : w_LongTrainModel_isSmall n0 Q) : CtI l yX12_isSmall cX12_isSmall 1 (some .boolean) 0 0 0 0 D k [.int n0] [] (fun r w => (r = 0 ∨ r = 1) ∧ (w = ([] : va_W) ∧ Q r)) := by
  refine CtI.of (by decide) (Nat.le_of_ble_eq_true rfl) ?_
  intro p e s m below meth c A F hr hlk hnm hA hB ls hl
  have hx := F.x
  have hb := F.b
  unfold w_LongTrainModel_isSmall at hf
  replace hl : lv_has ls 1 [(0, .int n0)] := hl
  refine lv_iload_n hx hb dX12_isSmall_0 rfl (lv_at hl 0 rfl) ?_
  refine lv_bipush (v := 97) hx hb dX12_isSmall_1 (by decide) ?_
  refine lv_icmp_lt (tgt := 16) hx hb dX12_isSmall_3 (by decide) (fun c_2 => ?_) (fun c_2 => ?_)
  · replace hf := hf.1 c_2
    refine lv_iconst (v := 0) hx hb dX12_isSmall_16 (by decide) ?_
    exact r_z F hr hlk hB (Or.inl rfl) ⟨Or.inl rfl, rfl, hf⟩ dX12_isSmall_17
  · replace hf := hf.2 c_2
    refine lv_iload_n hx hb dX12_isSmall_6 rfl (lv_at hl 0 rfl) ?_
    refine lv_bipush (v := 122) hx hb dX12_isSmall_7 (by decide) ?_
    refine lv_icmp_gt (tgt := 16) hx hb dX12_isSmall_9 (by decide) (fun c_1 => ?_) (fun c_1 => ?_)
    · replace hf := hf.1 c_1
      refine lv_iconst (v := 0) hx hb dX12_isSmall_16 (by decide) ?_
      exact r_z F hr hlk hB (Or.inl rfl) ⟨Or.inl rfl, rfl, hf⟩ dX12_isSmall_17
    · replace hf := hf.2 c_1
      refine lv_iconst (v := 1) hx hb dX12_isSmall_12 (by decide) ?_
      refine lv_goto (tgt := 17) hx hb dX12_isSmall_13 (by decide) ?_
      exact r_z F hr hlk hB (Or.inr rfl) ⟨Or.inr rfl, rfl, hf⟩ dX12_isSmall_17

/-! LongTrainModel.isDigit -/
set_option maxRecDepth 100000 in
set_option maxHeartbeats 4000000 in
theorem c_LongTrainModel_isDigit (l : Launch) (D : va_G) (k : Nat → ClassId)  (n0 : Int32) (Q : Int32 → Prop)  (hf : w_LongTrainModel_isDigit n0 Q) : CtI l yX12_isDigit cX12_isDigit 1 (some .boolean) 0 0 0 0 D k [.int n0] [] (fun r w => (r = 0 ∨ r = 1) ∧ (w = ([] : va_W) ∧ Q r)) := by
  refine CtI.of (by decide) (Nat.le_of_ble_eq_true rfl) ?_
  intro p e s m below meth c A F hr hlk hnm hA hB ls hl
  have hx := F.x
  have hb := F.b
  unfold w_LongTrainModel_isDigit at hf
  replace hl : lv_has ls 1 [(0, .int n0)] := hl
  refine lv_iload_n hx hb dX12_isDigit_0 rfl (lv_at hl 0 rfl) ?_
  refine lv_bipush (v := 48) hx hb dX12_isDigit_1 (by decide) ?_
  refine lv_icmp_lt (tgt := 16) hx hb dX12_isDigit_3 (by decide) (fun c_2 => ?_) (fun c_2 => ?_)
  · replace hf := hf.1 c_2
    refine lv_iconst (v := 0) hx hb dX12_isDigit_16 (by decide) ?_
    exact r_z F hr hlk hB (Or.inl rfl) ⟨Or.inl rfl, rfl, hf⟩ dX12_isDigit_17
  · replace hf := hf.2 c_2
    refine lv_iload_n hx hb dX12_isDigit_6 rfl (lv_at hl 0 rfl) ?_
    refine lv_bipush (v := 57) hx hb dX12_isDigit_7 (by decide) ?_
    refine lv_icmp_gt (tgt := 16) hx hb dX12_isDigit_9 (by decide) (fun c_1 => ?_) (fun c_1 => ?_)
    · replace hf := hf.1 c_1
      refine lv_iconst (v := 0) hx hb dX12_isDigit_16 (by decide) ?_
      exact r_z F hr hlk hB (Or.inl rfl) ⟨Or.inl rfl, rfl, hf⟩ dX12_isDigit_17
    · replace hf := hf.2 c_1
      refine lv_iconst (v := 1) hx hb dX12_isDigit_12 (by decide) ?_
      refine lv_goto (tgt := 17) hx hb dX12_isDigit_13 (by decide) ?_
      exact r_z F hr hlk hB (Or.inr rfl) ⟨Or.inr rfl, rfl, hf⟩ dX12_isDigit_17

/-! LongTrainModel.next -/
set_option maxRecDepth 100000 in
set_option maxHeartbeats 4000000 in
theorem bt_LongTrainModel_next_0 {p : Program} {l : Launch} {e : Env} {s : State} {m : MethodId} {below : List Frame} {meth : Method} {c : Code} {A : Nat → Prop} {D : va_G} {k : Nat → ClassId} {a_t : Nat} {d_t : Nat → Nat} {j_t : Nat → Int64} {r_t_tape : Nat → Int32}  {Q : (Nat → Int32) → (Nat → Int64) → Prop}  {kx_0 : (Nat → Int32) → Prop} {kr_0 : (Nat → Int32) → Prop} (F : Fx p m c cX12_next 4 s ([.ref a_t] : List Value).toArray RX12 D k) (hr : meth.sig.returnType = none) (hlk : meth.locks = false) (hA : ∀ q : Nat, s.heap.size ≤ q → A q) (hkx_0 : ∀ (i_t : Nat → Int32) (H : Heap) (locs : List Loc) (ls : Array Slot), kx_0 i_t → Bd D A s.heap (wd_LongTrainModel_next k a_t d_t i_t j_t r_t_tape) H locs → lv_has ls 4 [(0, .ref a_t)] → W p l e { frames := 1, cells := 0, slots := 0, locals := 20 } s m ([.ref a_t] : List Value).toArray below meth c H locs 0 0 (Ev below (fun w => ∃ (i_t : Nat → Int32), ∃ (j_t : Nat → Int64), w = (wd_LongTrainModel_next k a_t d_t i_t j_t r_t_tape) ∧ Q i_t j_t) D k A ([.ref a_t] : List Value).toArray s 0 0) (F0 m 31 ls [])) (hkr_0 : ∀ (i_t : Nat → Int32) (H : Heap) (locs : List Loc) (ls : Array Slot), kr_0 i_t → Bd D A s.heap (wd_LongTrainModel_next k a_t d_t i_t j_t r_t_tape) H locs → lv_has ls 4 [(0, .ref a_t)] → W p l e { frames := 1, cells := 0, slots := 0, locals := 20 } s m ([.ref a_t] : List Value).toArray below meth c H locs 0 0 (Ev below (fun w => ∃ (i_t : Nat → Int32), ∃ (j_t : Nat → Int64), w = (wd_LongTrainModel_next k a_t d_t i_t j_t r_t_tape) ∧ Q i_t j_t) D k A ([.ref a_t] : List Value).toArray s 0 0) (F0 m 0 ls [])) :
    ∀ (i_t : Nat → Int32) (H : Heap) (locs : List Loc) (ls : Array Slot), b_LongTrainModel_next_0 r_t_tape kx_0 kr_0 i_t → Bd D A s.heap (wd_LongTrainModel_next k a_t d_t i_t j_t r_t_tape) H locs → lv_has ls 4 [(0, .ref a_t)] → W p l e { frames := 1, cells := 0, slots := 0, locals := 20 } s m ([.ref a_t] : List Value).toArray below meth c H locs 0 0 (Ev below (fun w => ∃ (i_t : Nat → Int32), ∃ (j_t : Nat → Int64), w = (wd_LongTrainModel_next k a_t d_t i_t j_t r_t_tape) ∧ Q i_t j_t) D k A ([.ref a_t] : List Value).toArray s 0 0) (F0 m 0 ls []) := by
  have hx := F.x
  have hb := F.b
  intro i_t H locs ls hf hB hl
  unfold b_LongTrainModel_next_0 at hf
  refine lv_aload_n hx hb dX12_next_0 rfl (lv_at hl 0 rfl) ?_
  refine k_vi (wr := []) (rest := []) F hA hB (c_LongTrainModel_peek l D k a_t d_t i_t j_t r_t_tape _  hf) ml_RX12_140 mv_yX12_peek [0, 1] [] rfl rfl (by decide) (by decide) (by decide) 0 rfl rfl rfl hl.1 rfl (Nat.le_of_ble_eq_true rfl) ⟨Nat.le_of_ble_eq_true rfl, Nat.le_of_ble_eq_true rfl⟩ ⟨Nat.le_of_ble_eq_true rfl, Nat.le_of_ble_eq_true rfl⟩ dX12_next_1 (fun z_1 w1 H locs hq hB => ?_)
  obtain ⟨rfl, hf⟩ := hq
  replace hB : Bd D A s.heap (wd_LongTrainModel_next k a_t d_t i_t j_t r_t_tape) H locs := hB.sub [0, 1] (by decide) rfl
  refine lv_bipush (v := 32) hx hb dX12_next_4 (by decide) ?_
  refine lv_icmp_eq (tgt := 18) hx hb dX12_next_6 (by decide) (fun c_4 => ?_) (fun c_4 => ?_)
  · replace hf := hf.1 c_4
    refine lv_aload_n hx hb dX12_next_18 rfl (lv_at hl 0 rfl) ?_
    refine lv_dup hx hb dX12_next_19 rfl ?_
    refine g_get (w := .int (i_t 4)) F hB 0 rfl fl_RX12_21 rfl dX12_next_20 ?_
    refine lv_iconst (v := 1) hx hb dX12_next_23 (by decide) ?_
    refine lv_iadd hx hb dX12_next_24 ?_
    refine g_puti F hB 0 rfl fl_RX12_21 rfl (wd_LongTrainModel_next k a_t d_t (upd i_t 4 ((i_t 4) + (1 : Int32))) j_t r_t_tape) rfl dX12_next_25 (fun H locs hB => ?_)
    refine lv_goto (tgt := 0) hx hb dX12_next_28 (by decide) ?_
    exact hkr_0 _ _ _ _ hf hB (lv_sub hl [0] rfl)
  · replace hf := hf.2 c_4
    refine lv_aload_n hx hb dX12_next_9 rfl (lv_at hl 0 rfl) ?_
    refine k_vi (wr := []) (rest := []) F hA hB (c_LongTrainModel_peek l D k a_t d_t i_t j_t r_t_tape _  hf) ml_RX12_140 mv_yX12_peek [0, 1] [] rfl rfl (by decide) (by decide) (by decide) 0 rfl rfl rfl hl.1 rfl (Nat.le_of_ble_eq_true rfl) ⟨Nat.le_of_ble_eq_true rfl, Nat.le_of_ble_eq_true rfl⟩ ⟨Nat.le_of_ble_eq_true rfl, Nat.le_of_ble_eq_true rfl⟩ dX12_next_10 (fun z_2 w1 H locs hq hB => ?_)
    obtain ⟨rfl, hf⟩ := hq
    replace hB : Bd D A s.heap (wd_LongTrainModel_next k a_t d_t i_t j_t r_t_tape) H locs := hB.sub [0, 1] (by decide) rfl
    refine lv_bipush (v := 10) hx hb dX12_next_13 (by decide) ?_
    refine lv_icmp_ne (tgt := 31) hx hb dX12_next_15 (by decide) (fun c_3 => ?_) (fun c_3 => ?_)
    · replace hf := hf.1 c_3
      exact hkx_0 _ _ _ _ hf hB (lv_sub hl [0] rfl)
    · replace hf := hf.2 c_3
      refine lv_aload_n hx hb dX12_next_18 rfl (lv_at hl 0 rfl) ?_
      refine lv_dup hx hb dX12_next_19 rfl ?_
      refine g_get (w := .int (i_t 4)) F hB 0 rfl fl_RX12_21 rfl dX12_next_20 ?_
      refine lv_iconst (v := 1) hx hb dX12_next_23 (by decide) ?_
      refine lv_iadd hx hb dX12_next_24 ?_
      refine g_puti F hB 0 rfl fl_RX12_21 rfl (wd_LongTrainModel_next k a_t d_t (upd i_t 4 ((i_t 4) + (1 : Int32))) j_t r_t_tape) rfl dX12_next_25 (fun H locs hB => ?_)
      refine lv_goto (tgt := 0) hx hb dX12_next_28 (by decide) ?_
      exact hkr_0 _ _ _ _ hf hB (lv_sub hl [0] rfl)

set_option maxRecDepth 100000 in
set_option maxHeartbeats 4000000 in
theorem lt_LongTrainModel_next_0 {p : Program} {l : Launch} {e : Env} {s : State} {m : MethodId} {below : List Frame} {meth : Method} {c : Code} {A : Nat → Prop} {D : va_G} {k : Nat → ClassId} {a_t : Nat} {d_t : Nat → Nat} {j_t : Nat → Int64} {r_t_tape : Nat → Int32}  {Q : (Nat → Int32) → (Nat → Int64) → Prop}  {kx_0 : (Nat → Int32) → Prop} (F : Fx p m c cX12_next 4 s ([.ref a_t] : List Value).toArray RX12 D k) (hr : meth.sig.returnType = none) (hlk : meth.locks = false) (hA : ∀ q : Nat, s.heap.size ≤ q → A q) (hkx_0 : ∀ (i_t : Nat → Int32) (H : Heap) (locs : List Loc) (ls : Array Slot), kx_0 i_t → Bd D A s.heap (wd_LongTrainModel_next k a_t d_t i_t j_t r_t_tape) H locs → lv_has ls 4 [(0, .ref a_t)] → W p l e { frames := 1, cells := 0, slots := 0, locals := 20 } s m ([.ref a_t] : List Value).toArray below meth c H locs 0 0 (Ev below (fun w => ∃ (i_t : Nat → Int32), ∃ (j_t : Nat → Int64), w = (wd_LongTrainModel_next k a_t d_t i_t j_t r_t_tape) ∧ Q i_t j_t) D k A ([.ref a_t] : List Value).toArray s 0 0) (F0 m 31 ls [])) :
    ∀ n : Nat, ∀ (i_t : Nat → Int32) (H : Heap) (locs : List Loc) (ls : Array Slot), lp_LongTrainModel_next_0 r_t_tape kx_0 n i_t → Bd D A s.heap (wd_LongTrainModel_next k a_t d_t i_t j_t r_t_tape) H locs → lv_has ls 4 [(0, .ref a_t)] → W p l e { frames := 1, cells := 0, slots := 0, locals := 20 } s m ([.ref a_t] : List Value).toArray below meth c H locs 0 0 (Ev below (fun w => ∃ (i_t : Nat → Int32), ∃ (j_t : Nat → Int64), w = (wd_LongTrainModel_next k a_t d_t i_t j_t r_t_tape) ∧ Q i_t j_t) D k A ([.ref a_t] : List Value).toArray s 0 0) (F0 m 0 ls []) := by
  intro n
  induction n with
  | zero => intro i_t H locs ls hf; exact absurd hf (fun h => h)
  | succ n ih => exact bt_LongTrainModel_next_0 F hr hlk hA hkx_0 ih

set_option maxRecDepth 100000 in
set_option maxHeartbeats 4000000 in
theorem jt_LongTrainModel_next_230 {p : Program} {l : Launch} {e : Env} {s : State} {m : MethodId} {below : List Frame} {meth : Method} {c : Code} {A : Nat → Prop} {D : va_G} {k : Nat → ClassId} {a_t : Nat} {d_t : Nat → Nat} {r_t_tape : Nat → Int32}  {Q : (Nat → Int32) → (Nat → Int64) → Prop}  {x2 : Int32} {kr_163 : (Int32) → (Nat → Int32) → (Nat → Int64) → Prop} (F : Fx p m c cX12_next 4 s ([.ref a_t] : List Value).toArray RX12 D k) (hr : meth.sig.returnType = none) (hlk : meth.locks = false) (hA : ∀ q : Nat, s.heap.size ≤ q → A q) (hkr_163 : ∀ (x3 : Int32) (i_t : Nat → Int32) (j_t : Nat → Int64) (H : Heap) (locs : List Loc) (ls : Array Slot), kr_163 x3 i_t j_t → Bd D A s.heap (wd_LongTrainModel_next k a_t d_t i_t j_t r_t_tape) H locs → lv_has ls 4 [(0, .ref a_t), (2, .int x2), (3, .int x3)] → W p l e { frames := 1, cells := 0, slots := 0, locals := 20 } s m ([.ref a_t] : List Value).toArray below meth c H locs 0 0 (Ev below (fun w => ∃ (i_t : Nat → Int32), ∃ (j_t : Nat → Int64), w = (wd_LongTrainModel_next k a_t d_t i_t j_t r_t_tape) ∧ Q i_t j_t) D k A ([.ref a_t] : List Value).toArray s 0 0) (F0 m 163 ls [])) :
    ∀ (i_t : Nat → Int32) (j_t : Nat → Int64) (x3 : Int32) (H : Heap) (locs : List Loc) (ls : Array Slot), j_LongTrainModel_next_230 i_t j_t r_t_tape x3 kr_163 → Bd D A s.heap (wd_LongTrainModel_next k a_t d_t i_t j_t r_t_tape) H locs → lv_has ls 4 [(0, .ref a_t), (2, .int x2), (3, .int x3)] → W p l e { frames := 1, cells := 0, slots := 0, locals := 20 } s m ([.ref a_t] : List Value).toArray below meth c H locs 0 0 (Ev below (fun w => ∃ (i_t : Nat → Int32), ∃ (j_t : Nat → Int64), w = (wd_LongTrainModel_next k a_t d_t i_t j_t r_t_tape) ∧ Q i_t j_t) D k A ([.ref a_t] : List Value).toArray s 0 0) (F0 m 230 ls []) := by
  have hx := F.x
  have hb := F.b
  intro i_t j_t x3 H locs ls hf hB hl
  unfold j_LongTrainModel_next_230 at hf
  refine lv_aload_n hx hb dX12_next_230 rfl (lv_at hl 0 rfl) ?_
  refine g_get (w := .int (i_t 13)) F hB 0 rfl fl_RX12_147 rfl dX12_next_231 ?_
  refine lv_iconst (v := 3) hx hb dX12_next_234 (by decide) ?_
  refine lv_icmp_ge (tgt := 257) hx hb dX12_next_235 (by decide) (fun c_15 => ?_) (fun c_15 => ?_)
  · replace hf := hf.1 c_15
    refine lv_aload_n hx hb dX12_next_257 rfl (lv_at hl 0 rfl) ?_
    refine lv_dup hx hb dX12_next_258 rfl ?_
    refine g_get (w := .int (i_t 13)) F hB 0 rfl fl_RX12_147 rfl dX12_next_259 ?_
    refine lv_iconst (v := 1) hx hb dX12_next_262 (by decide) ?_
    refine lv_iadd hx hb dX12_next_263 ?_
    refine g_puti F hB 0 rfl fl_RX12_147 rfl (wd_LongTrainModel_next k a_t d_t (upd i_t 13 ((i_t 13) + (1 : Int32))) j_t r_t_tape) rfl dX12_next_264 (fun H locs hB => ?_)
    refine lv_aload_n hx hb dX12_next_267 rfl (lv_at hl 0 rfl) ?_
    refine lv_dup hx hb dX12_next_268 rfl ?_
    refine g_get (w := .int ((upd i_t 13 ((i_t 13) + (1 : Int32))) 4)) F hB 0 rfl fl_RX12_21 rfl dX12_next_269 ?_
    refine lv_iconst (v := 1) hx hb dX12_next_272 (by decide) ?_
    refine lv_iadd hx hb dX12_next_273 ?_
    refine g_puti F hB 0 rfl fl_RX12_21 rfl (wd_LongTrainModel_next k a_t d_t (upd (upd i_t 13 ((i_t 13) + (1 : Int32))) 4 (((upd i_t 13 ((i_t 13) + (1 : Int32))) 4) + (1 : Int32))) j_t r_t_tape) rfl dX12_next_274 (fun H locs hB => ?_)
    refine lv_goto (tgt := 163) hx hb dX12_next_277 (by decide) ?_
    exact hkr_163 _ _ _ _ _ _ hf hB (lv_sub hl [0, 1, 2] rfl)
  · replace hf := hf.2 c_15
    refine lv_aload_n hx hb dX12_next_238 rfl (lv_at hl 0 rfl) ?_
    refine lv_bipush (v := 10) hx hb dX12_next_239 (by decide) ?_
    refine lv_aload_n hx hb dX12_next_241 rfl (lv_at hl 0 rfl) ?_
    refine g_get (w := .int (i_t 14)) F hB 0 rfl fl_RX12_160 rfl dX12_next_242 ?_
    refine lv_imul hx hb dX12_next_245 ?_
    refine lv_aload_n hx hb dX12_next_246 rfl (lv_at hl 0 rfl) ?_
    refine k_vi (wr := []) (rest := [.int ((10 : Int32) * (i_t 14)), .ref a_t]) F hA hB (c_LongTrainModel_peek l D k a_t d_t i_t j_t r_t_tape _  hf) ml_RX12_140 mv_yX12_peek [0, 1] [] rfl rfl (by decide) (by decide) (by decide) 0 rfl rfl rfl hl.1 rfl (Nat.le_of_ble_eq_true rfl) ⟨Nat.le_of_ble_eq_true rfl, Nat.le_of_ble_eq_true rfl⟩ ⟨Nat.le_of_ble_eq_true rfl, Nat.le_of_ble_eq_true rfl⟩ dX12_next_247 (fun z_14 w1 H locs hq hB => ?_)
    obtain ⟨rfl, hf⟩ := hq
    replace hB : Bd D A s.heap (wd_LongTrainModel_next k a_t d_t i_t j_t r_t_tape) H locs := hB.sub [0, 1] (by decide) rfl
    refine lv_iadd hx hb dX12_next_250 ?_
    refine lv_bipush (v := 48) hx hb dX12_next_251 (by decide) ?_
    refine lv_isub hx hb dX12_next_253 ?_
    refine g_puti F hB 0 rfl fl_RX12_160 rfl (wd_LongTrainModel_next k a_t d_t (upd i_t 14 ((((10 : Int32) * (i_t 14)) + z_14) - (48 : Int32))) j_t r_t_tape) rfl dX12_next_254 (fun H locs hB => ?_)
    refine lv_aload_n hx hb dX12_next_257 rfl (lv_at hl 0 rfl) ?_
    refine lv_dup hx hb dX12_next_258 rfl ?_
    refine g_get (w := .int ((upd i_t 14 ((((10 : Int32) * (i_t 14)) + z_14) - (48 : Int32))) 13)) F hB 0 rfl fl_RX12_147 rfl dX12_next_259 ?_
    refine lv_iconst (v := 1) hx hb dX12_next_262 (by decide) ?_
    refine lv_iadd hx hb dX12_next_263 ?_
    refine g_puti F hB 0 rfl fl_RX12_147 rfl (wd_LongTrainModel_next k a_t d_t (upd (upd i_t 14 ((((10 : Int32) * (i_t 14)) + z_14) - (48 : Int32))) 13 (((upd i_t 14 ((((10 : Int32) * (i_t 14)) + z_14) - (48 : Int32))) 13) + (1 : Int32))) j_t r_t_tape) rfl dX12_next_264 (fun H locs hB => ?_)
    refine lv_aload_n hx hb dX12_next_267 rfl (lv_at hl 0 rfl) ?_
    refine lv_dup hx hb dX12_next_268 rfl ?_
    refine g_get (w := .int ((upd (upd i_t 14 ((((10 : Int32) * (i_t 14)) + z_14) - (48 : Int32))) 13 (((upd i_t 14 ((((10 : Int32) * (i_t 14)) + z_14) - (48 : Int32))) 13) + (1 : Int32))) 4)) F hB 0 rfl fl_RX12_21 rfl dX12_next_269 ?_
    refine lv_iconst (v := 1) hx hb dX12_next_272 (by decide) ?_
    refine lv_iadd hx hb dX12_next_273 ?_
    refine g_puti F hB 0 rfl fl_RX12_21 rfl (wd_LongTrainModel_next k a_t d_t (upd (upd (upd i_t 14 ((((10 : Int32) * (i_t 14)) + z_14) - (48 : Int32))) 13 (((upd i_t 14 ((((10 : Int32) * (i_t 14)) + z_14) - (48 : Int32))) 13) + (1 : Int32))) 4 (((upd (upd i_t 14 ((((10 : Int32) * (i_t 14)) + z_14) - (48 : Int32))) 13 (((upd i_t 14 ((((10 : Int32) * (i_t 14)) + z_14) - (48 : Int32))) 13) + (1 : Int32))) 4) + (1 : Int32))) j_t r_t_tape) rfl dX12_next_274 (fun H locs hB => ?_)
    refine lv_goto (tgt := 163) hx hb dX12_next_277 (by decide) ?_
    exact hkr_163 _ _ _ _ _ _ hf hB (lv_sub hl [0, 1, 2] rfl)

set_option maxRecDepth 100000 in
set_option maxHeartbeats 4000000 in
theorem jt_LongTrainModel_next_203 {p : Program} {l : Launch} {e : Env} {s : State} {m : MethodId} {below : List Frame} {meth : Method} {c : Code} {A : Nat → Prop} {D : va_G} {k : Nat → ClassId} {a_t : Nat} {d_t : Nat → Nat} {r_t_tape : Nat → Int32}  {Q : (Nat → Int32) → (Nat → Int64) → Prop}  {x2 : Int32} {kr_163 : (Int32) → (Nat → Int32) → (Nat → Int64) → Prop} (F : Fx p m c cX12_next 4 s ([.ref a_t] : List Value).toArray RX12 D k) (hr : meth.sig.returnType = none) (hlk : meth.locks = false) (hA : ∀ q : Nat, s.heap.size ≤ q → A q) (hkr_163 : ∀ (x3 : Int32) (i_t : Nat → Int32) (j_t : Nat → Int64) (H : Heap) (locs : List Loc) (ls : Array Slot), kr_163 x3 i_t j_t → Bd D A s.heap (wd_LongTrainModel_next k a_t d_t i_t j_t r_t_tape) H locs → lv_has ls 4 [(0, .ref a_t), (2, .int x2), (3, .int x3)] → W p l e { frames := 1, cells := 0, slots := 0, locals := 20 } s m ([.ref a_t] : List Value).toArray below meth c H locs 0 0 (Ev below (fun w => ∃ (i_t : Nat → Int32), ∃ (j_t : Nat → Int64), w = (wd_LongTrainModel_next k a_t d_t i_t j_t r_t_tape) ∧ Q i_t j_t) D k A ([.ref a_t] : List Value).toArray s 0 0) (F0 m 163 ls [])) :
    ∀ (i_t : Nat → Int32) (j_t : Nat → Int64) (y0 : Int32) (H : Heap) (locs : List Loc) (ls : Array Slot), j_LongTrainModel_next_203 i_t j_t r_t_tape y0 kr_163 → Bd D A s.heap (wd_LongTrainModel_next k a_t d_t i_t j_t r_t_tape) H locs → lv_has ls 4 [(0, .ref a_t), (2, .int x2)] → W p l e { frames := 1, cells := 0, slots := 0, locals := 20 } s m ([.ref a_t] : List Value).toArray below meth c H locs 0 0 (Ev below (fun w => ∃ (i_t : Nat → Int32), ∃ (j_t : Nat → Int64), w = (wd_LongTrainModel_next k a_t d_t i_t j_t r_t_tape) ∧ Q i_t j_t) D k A ([.ref a_t] : List Value).toArray s 0 0) (F0 m 203 ls [.int y0]) := by
  have hx := F.x
  have hb := F.b
  intro i_t j_t y0 H locs ls hf hB hl
  unfold j_LongTrainModel_next_203 at hf
  refine lv_istore_n (lv' := [(3, .int y0), (0, .ref a_t), (2, .int x2)]) hx hb dX12_next_203 rfl hl (by decide) rfl (fun ls hl => ?_)
  refine lv_aload_n hx hb dX12_next_204 rfl (lv_at hl 1 rfl) ?_
  refine g_get (w := .int (i_t 13)) F hB 0 rfl fl_RX12_147 rfl dX12_next_205 ?_
  refine lv_bipush (v := 7) hx hb dX12_next_208 (by decide) ?_
  refine lv_icmp_ge (tgt := 230) hx hb dX12_next_210 (by decide) (fun c_17 => ?_) (fun c_17 => ?_)
  · replace hf := hf.1 c_17
    exact jt_LongTrainModel_next_230 F hr hlk hA hkr_163 _ _ _ _ _ _ hf hB (lv_sub hl [1, 2, 0] rfl)
  · replace hf := hf.2 c_17
    refine lv_aload_n hx hb dX12_next_213 rfl (lv_at hl 1 rfl) ?_
    refine lv_aload_n hx hb dX12_next_214 rfl (lv_at hl 1 rfl) ?_
    refine g_get (w := .long (j_t 17)) F hB 0 rfl fl_RX12_163 rfl dX12_next_215 ?_
    refine lv_bipush (v := 8) hx hb dX12_next_218 (by decide) ?_
    refine lv_lshl (v := ((j_t 17) <<< (((8 : Int32)).toInt64 &&& 63))) hx hb dX12_next_220 rfl ?_
    refine lv_aload_n hx hb dX12_next_221 rfl (lv_at hl 1 rfl) ?_
    refine k_vi (wr := []) (rest := [.long ((j_t 17) <<< (((8 : Int32)).toInt64 &&& 63)), .ref a_t]) F hA hB (c_LongTrainModel_peek l D k a_t d_t i_t j_t r_t_tape _  hf) ml_RX12_140 mv_yX12_peek [0, 1] [] rfl rfl (by decide) (by decide) (by decide) 0 rfl rfl rfl hl.1 rfl (Nat.le_of_ble_eq_true rfl) ⟨Nat.le_of_ble_eq_true rfl, Nat.le_of_ble_eq_true rfl⟩ ⟨Nat.le_of_ble_eq_true rfl, Nat.le_of_ble_eq_true rfl⟩ dX12_next_222 (fun z_16 w1 H locs hq hB => ?_)
    obtain ⟨rfl, hf⟩ := hq
    replace hB : Bd D A s.heap (wd_LongTrainModel_next k a_t d_t i_t j_t r_t_tape) H locs := hB.sub [0, 1] (by decide) rfl
    refine lv_i2l (v := (z_16).toInt64) hx hb dX12_next_225 rfl ?_
    refine lv_lor hx hb dX12_next_226 ?_
    refine g_putj F hB 0 rfl fl_RX12_163 rfl (wd_LongTrainModel_next k a_t d_t i_t (vp_updL j_t 17 (((j_t 17) <<< (((8 : Int32)).toInt64 &&& 63)) ||| (z_16).toInt64)) r_t_tape) rfl dX12_next_227 (fun H locs hB => ?_)
    exact jt_LongTrainModel_next_230 F hr hlk hA hkr_163 _ _ _ _ _ _ hf hB (lv_sub hl [1, 2, 0] rfl)

set_option maxRecDepth 100000 in
set_option maxHeartbeats 4000000 in
theorem jt_LongTrainModel_next_202 {p : Program} {l : Launch} {e : Env} {s : State} {m : MethodId} {below : List Frame} {meth : Method} {c : Code} {A : Nat → Prop} {D : va_G} {k : Nat → ClassId} {a_t : Nat} {d_t : Nat → Nat} {r_t_tape : Nat → Int32}  {Q : (Nat → Int32) → (Nat → Int64) → Prop}  {x2 : Int32} {kr_163 : (Int32) → (Nat → Int32) → (Nat → Int64) → Prop} (F : Fx p m c cX12_next 4 s ([.ref a_t] : List Value).toArray RX12 D k) (hr : meth.sig.returnType = none) (hlk : meth.locks = false) (hA : ∀ q : Nat, s.heap.size ≤ q → A q) (hkr_163 : ∀ (x3 : Int32) (i_t : Nat → Int32) (j_t : Nat → Int64) (H : Heap) (locs : List Loc) (ls : Array Slot), kr_163 x3 i_t j_t → Bd D A s.heap (wd_LongTrainModel_next k a_t d_t i_t j_t r_t_tape) H locs → lv_has ls 4 [(0, .ref a_t), (2, .int x2), (3, .int x3)] → W p l e { frames := 1, cells := 0, slots := 0, locals := 20 } s m ([.ref a_t] : List Value).toArray below meth c H locs 0 0 (Ev below (fun w => ∃ (i_t : Nat → Int32), ∃ (j_t : Nat → Int64), w = (wd_LongTrainModel_next k a_t d_t i_t j_t r_t_tape) ∧ Q i_t j_t) D k A ([.ref a_t] : List Value).toArray s 0 0) (F0 m 163 ls [])) :
    ∀ (i_t : Nat → Int32) (j_t : Nat → Int64) (H : Heap) (locs : List Loc) (ls : Array Slot), j_LongTrainModel_next_202 i_t j_t r_t_tape kr_163 → Bd D A s.heap (wd_LongTrainModel_next k a_t d_t i_t j_t r_t_tape) H locs → lv_has ls 4 [(0, .ref a_t), (2, .int x2)] → W p l e { frames := 1, cells := 0, slots := 0, locals := 20 } s m ([.ref a_t] : List Value).toArray below meth c H locs 0 0 (Ev below (fun w => ∃ (i_t : Nat → Int32), ∃ (j_t : Nat → Int64), w = (wd_LongTrainModel_next k a_t d_t i_t j_t r_t_tape) ∧ Q i_t j_t) D k A ([.ref a_t] : List Value).toArray s 0 0) (F0 m 202 ls []) := by
  have hx := F.x
  have hb := F.b
  intro i_t j_t H locs ls hf hB hl
  unfold j_LongTrainModel_next_202 at hf
  refine lv_iconst (v := 0) hx hb dX12_next_202 (by decide) ?_
  exact jt_LongTrainModel_next_203 F hr hlk hA hkr_163 _ _ _ _ _ _ hf hB (lv_sub hl [0, 1] rfl)

set_option maxRecDepth 100000 in
set_option maxHeartbeats 4000000 in
theorem jt_LongTrainModel_next_183 {p : Program} {l : Launch} {e : Env} {s : State} {m : MethodId} {below : List Frame} {meth : Method} {c : Code} {A : Nat → Prop} {D : va_G} {k : Nat → ClassId} {a_t : Nat} {d_t : Nat → Nat} {r_t_tape : Nat → Int32}  {Q : (Nat → Int32) → (Nat → Int64) → Prop}  {x2 : Int32} {kr_163 : (Int32) → (Nat → Int32) → (Nat → Int64) → Prop} (F : Fx p m c cX12_next 4 s ([.ref a_t] : List Value).toArray RX12 D k) (hr : meth.sig.returnType = none) (hlk : meth.locks = false) (hA : ∀ q : Nat, s.heap.size ≤ q → A q) (hkr_163 : ∀ (x3 : Int32) (i_t : Nat → Int32) (j_t : Nat → Int64) (H : Heap) (locs : List Loc) (ls : Array Slot), kr_163 x3 i_t j_t → Bd D A s.heap (wd_LongTrainModel_next k a_t d_t i_t j_t r_t_tape) H locs → lv_has ls 4 [(0, .ref a_t), (2, .int x2), (3, .int x3)] → W p l e { frames := 1, cells := 0, slots := 0, locals := 20 } s m ([.ref a_t] : List Value).toArray below meth c H locs 0 0 (Ev below (fun w => ∃ (i_t : Nat → Int32), ∃ (j_t : Nat → Int64), w = (wd_LongTrainModel_next k a_t d_t i_t j_t r_t_tape) ∧ Q i_t j_t) D k A ([.ref a_t] : List Value).toArray s 0 0) (F0 m 163 ls [])) :
    ∀ (i_t : Nat → Int32) (j_t : Nat → Int64) (x3 : Int32) (H : Heap) (locs : List Loc) (ls : Array Slot), j_LongTrainModel_next_183 i_t j_t r_t_tape x2 x3 kr_163 → Bd D A s.heap (wd_LongTrainModel_next k a_t d_t i_t j_t r_t_tape) H locs → lv_has ls 4 [(0, .ref a_t), (2, .int x2), (3, .int x3)] → W p l e { frames := 1, cells := 0, slots := 0, locals := 20 } s m ([.ref a_t] : List Value).toArray below meth c H locs 0 0 (Ev below (fun w => ∃ (i_t : Nat → Int32), ∃ (j_t : Nat → Int64), w = (wd_LongTrainModel_next k a_t d_t i_t j_t r_t_tape) ∧ Q i_t j_t) D k A ([.ref a_t] : List Value).toArray s 0 0) (F0 m 183 ls []) := by
  have hx := F.x
  have hb := F.b
  intro i_t j_t x3 H locs ls hf hB hl
  unfold j_LongTrainModel_next_183 at hf
  refine lv_iload_n hx hb dX12_next_183 rfl (lv_at hl 2 rfl) ?_
  refine lv_if_eq (tgt := 202) hx hb dX12_next_184 (by decide) (fun c_22 => ?_) (fun c_22 => ?_)
  · replace hf := hf.1 c_22
    exact jt_LongTrainModel_next_202 F hr hlk hA hkr_163 _ _ _ _ _ hf hB (lv_sub hl [0, 1] rfl)
  · replace hf := hf.2 c_22
    refine lv_aload_n hx hb dX12_next_187 rfl (lv_at hl 0 rfl) ?_
    refine k_vi (wr := []) (rest := []) F hA hB (c_LongTrainModel_peek l D k a_t d_t i_t j_t r_t_tape _  hf) ml_RX12_140 mv_yX12_peek [0, 1] [] rfl rfl (by decide) (by decide) (by decide) 0 rfl rfl rfl hl.1 rfl (Nat.le_of_ble_eq_true rfl) ⟨Nat.le_of_ble_eq_true rfl, Nat.le_of_ble_eq_true rfl⟩ ⟨Nat.le_of_ble_eq_true rfl, Nat.le_of_ble_eq_true rfl⟩ dX12_next_188 (fun z_18 w1 H locs hq hB => ?_)
    obtain ⟨rfl, hf⟩ := hq
    replace hB : Bd D A s.heap (wd_LongTrainModel_next k a_t d_t i_t j_t r_t_tape) H locs := hB.sub [0, 1] (by decide) rfl
    refine k_si (wr := [(a_t, ob 12 (rfd d_t) i_t j_t), ((d_t 1), ab k 940 r_t_tape)]) (rest := []) F hA hB (c_LongTrainModel_isSmall l D k z_18 _  hf) ml_RX12_153 ms_yX12_isSmall [] [0, 1] rfl rfl (by decide) (by decide) (by decide) rfl hl.1 rfl (Nat.le_of_ble_eq_true rfl) ⟨Nat.le_of_ble_eq_true rfl, Nat.le_of_ble_eq_true rfl⟩ ⟨Nat.le_of_ble_eq_true rfl, Nat.le_of_ble_eq_true rfl⟩ dX12_next_191 (fun z_19 w1 H locs hq hB => ?_)
    obtain ⟨h_20, rfl, hf⟩ := hq
    replace hB : Bd D A s.heap (wd_LongTrainModel_next k a_t d_t i_t j_t r_t_tape) H locs := hB.sub [0, 1] (by decide) rfl
    refine lv_iload_n hx hb dX12_next_194 rfl (lv_at hl 1 rfl) ?_
    refine lv_icmp_ne (tgt := 202) hx hb dX12_next_195 (by decide) (fun c_21 => ?_) (fun c_21 => ?_)
    · replace hf := hf.1 c_21
      exact jt_LongTrainModel_next_202 F hr hlk hA hkr_163 _ _ _ _ _ hf hB (lv_sub hl [0, 1] rfl)
    · replace hf := hf.2 c_21
      refine lv_iconst (v := 1) hx hb dX12_next_198 (by decide) ?_
      refine lv_goto (tgt := 203) hx hb dX12_next_199 (by decide) ?_
      exact jt_LongTrainModel_next_203 F hr hlk hA hkr_163 _ _ _ _ _ _ hf hB (lv_sub hl [0, 1] rfl)

set_option maxRecDepth 100000 in
set_option maxHeartbeats 4000000 in
theorem bt_LongTrainModel_next_163 {p : Program} {l : Launch} {e : Env} {s : State} {m : MethodId} {below : List Frame} {meth : Method} {c : Code} {A : Nat → Prop} {D : va_G} {k : Nat → ClassId} {a_t : Nat} {d_t : Nat → Nat} {r_t_tape : Nat → Int32}  {Q : (Nat → Int32) → (Nat → Int64) → Prop}  {x2 : Int32} {kx_163 : (Int32) → (Nat → Int32) → (Nat → Int64) → Prop} {kr_163 : (Int32) → (Nat → Int32) → (Nat → Int64) → Prop} (F : Fx p m c cX12_next 4 s ([.ref a_t] : List Value).toArray RX12 D k) (hr : meth.sig.returnType = none) (hlk : meth.locks = false) (hA : ∀ q : Nat, s.heap.size ≤ q → A q) (hkx_163 : ∀ (x3 : Int32) (i_t : Nat → Int32) (j_t : Nat → Int64) (H : Heap) (locs : List Loc) (ls : Array Slot), kx_163 x3 i_t j_t → Bd D A s.heap (wd_LongTrainModel_next k a_t d_t i_t j_t r_t_tape) H locs → lv_has ls 4 [(0, .ref a_t), (2, .int x2), (3, .int x3)] → W p l e { frames := 1, cells := 0, slots := 0, locals := 20 } s m ([.ref a_t] : List Value).toArray below meth c H locs 0 0 (Ev below (fun w => ∃ (i_t : Nat → Int32), ∃ (j_t : Nat → Int64), w = (wd_LongTrainModel_next k a_t d_t i_t j_t r_t_tape) ∧ Q i_t j_t) D k A ([.ref a_t] : List Value).toArray s 0 0) (F0 m 280 ls [])) (hkr_163 : ∀ (x3 : Int32) (i_t : Nat → Int32) (j_t : Nat → Int64) (H : Heap) (locs : List Loc) (ls : Array Slot), kr_163 x3 i_t j_t → Bd D A s.heap (wd_LongTrainModel_next k a_t d_t i_t j_t r_t_tape) H locs → lv_has ls 4 [(0, .ref a_t), (2, .int x2), (3, .int x3)] → W p l e { frames := 1, cells := 0, slots := 0, locals := 20 } s m ([.ref a_t] : List Value).toArray below meth c H locs 0 0 (Ev below (fun w => ∃ (i_t : Nat → Int32), ∃ (j_t : Nat → Int64), w = (wd_LongTrainModel_next k a_t d_t i_t j_t r_t_tape) ∧ Q i_t j_t) D k A ([.ref a_t] : List Value).toArray s 0 0) (F0 m 163 ls [])) :
    ∀ (x3 : Int32) (i_t : Nat → Int32) (j_t : Nat → Int64) (H : Heap) (locs : List Loc) (ls : Array Slot), b_LongTrainModel_next_163 r_t_tape x2 kx_163 kr_163 x3 i_t j_t → Bd D A s.heap (wd_LongTrainModel_next k a_t d_t i_t j_t r_t_tape) H locs → lv_has ls 4 [(0, .ref a_t), (2, .int x2), (3, .int x3)] → W p l e { frames := 1, cells := 0, slots := 0, locals := 20 } s m ([.ref a_t] : List Value).toArray below meth c H locs 0 0 (Ev below (fun w => ∃ (i_t : Nat → Int32), ∃ (j_t : Nat → Int64), w = (wd_LongTrainModel_next k a_t d_t i_t j_t r_t_tape) ∧ Q i_t j_t) D k A ([.ref a_t] : List Value).toArray s 0 0) (F0 m 163 ls []) := by
  have hx := F.x
  have hb := F.b
  intro x3 i_t j_t H locs ls hf hB hl
  unfold b_LongTrainModel_next_163 at hf
  refine lv_aload_n hx hb dX12_next_163 rfl (lv_at hl 0 rfl) ?_
  refine k_vi (wr := []) (rest := []) F hA hB (c_LongTrainModel_peek l D k a_t d_t i_t j_t r_t_tape _  hf) ml_RX12_140 mv_yX12_peek [0, 1] [] rfl rfl (by decide) (by decide) (by decide) 0 rfl rfl rfl hl.1 rfl (Nat.le_of_ble_eq_true rfl) ⟨Nat.le_of_ble_eq_true rfl, Nat.le_of_ble_eq_true rfl⟩ ⟨Nat.le_of_ble_eq_true rfl, Nat.le_of_ble_eq_true rfl⟩ dX12_next_164 (fun z_11 w1 H locs hq hB => ?_)
  obtain ⟨rfl, hf⟩ := hq
  replace hB : Bd D A s.heap (wd_LongTrainModel_next k a_t d_t i_t j_t r_t_tape) H locs := hB.sub [0, 1] (by decide) rfl
  refine k_si (wr := [(a_t, ob 12 (rfd d_t) i_t j_t), ((d_t 1), ab k 940 r_t_tape)]) (rest := []) F hA hB (c_LongTrainModel_isSmall l D k z_11 _  hf) ml_RX12_153 ms_yX12_isSmall [] [0, 1] rfl rfl (by decide) (by decide) (by decide) rfl hl.1 rfl (Nat.le_of_ble_eq_true rfl) ⟨Nat.le_of_ble_eq_true rfl, Nat.le_of_ble_eq_true rfl⟩ ⟨Nat.le_of_ble_eq_true rfl, Nat.le_of_ble_eq_true rfl⟩ dX12_next_167 (fun z_12 w1 H locs hq hB => ?_)
  obtain ⟨h_13, rfl, hf⟩ := hq
  replace hB : Bd D A s.heap (wd_LongTrainModel_next k a_t d_t i_t j_t r_t_tape) H locs := hB.sub [0, 1] (by decide) rfl
  refine lv_if_ne (tgt := 183) hx hb dX12_next_170 (by decide) (fun c_27 => ?_) (fun c_27 => ?_)
  · replace hf := hf.1 c_27
    exact jt_LongTrainModel_next_183 F hr hlk hA hkr_163 _ _ _ _ _ _ hf hB (lv_sub hl [0, 1, 2] rfl)
  · replace hf := hf.2 c_27
    refine lv_aload_n hx hb dX12_next_173 rfl (lv_at hl 0 rfl) ?_
    refine k_vi (wr := []) (rest := []) F hA hB (c_LongTrainModel_peek l D k a_t d_t i_t j_t r_t_tape _  hf) ml_RX12_140 mv_yX12_peek [0, 1] [] rfl rfl (by decide) (by decide) (by decide) 0 rfl rfl rfl hl.1 rfl (Nat.le_of_ble_eq_true rfl) ⟨Nat.le_of_ble_eq_true rfl, Nat.le_of_ble_eq_true rfl⟩ ⟨Nat.le_of_ble_eq_true rfl, Nat.le_of_ble_eq_true rfl⟩ dX12_next_174 (fun z_23 w1 H locs hq hB => ?_)
    obtain ⟨rfl, hf⟩ := hq
    replace hB : Bd D A s.heap (wd_LongTrainModel_next k a_t d_t i_t j_t r_t_tape) H locs := hB.sub [0, 1] (by decide) rfl
    refine k_si (wr := [(a_t, ob 12 (rfd d_t) i_t j_t), ((d_t 1), ab k 940 r_t_tape)]) (rest := []) F hA hB (c_LongTrainModel_isDigit l D k z_23 _  hf) ml_RX12_157 ms_yX12_isDigit [] [0, 1] rfl rfl (by decide) (by decide) (by decide) rfl hl.1 rfl (Nat.le_of_ble_eq_true rfl) ⟨Nat.le_of_ble_eq_true rfl, Nat.le_of_ble_eq_true rfl⟩ ⟨Nat.le_of_ble_eq_true rfl, Nat.le_of_ble_eq_true rfl⟩ dX12_next_177 (fun z_24 w1 H locs hq hB => ?_)
    obtain ⟨h_25, rfl, hf⟩ := hq
    replace hB : Bd D A s.heap (wd_LongTrainModel_next k a_t d_t i_t j_t r_t_tape) H locs := hB.sub [0, 1] (by decide) rfl
    refine lv_if_eq (tgt := 280) hx hb dX12_next_180 (by decide) (fun c_26 => ?_) (fun c_26 => ?_)
    · replace hf := hf.1 c_26
      exact hkx_163 _ _ _ _ _ _ hf hB (lv_sub hl [0, 1, 2] rfl)
    · replace hf := hf.2 c_26
      exact jt_LongTrainModel_next_183 F hr hlk hA hkr_163 _ _ _ _ _ _ hf hB (lv_sub hl [0, 1, 2] rfl)

set_option maxRecDepth 100000 in
set_option maxHeartbeats 4000000 in
theorem lt_LongTrainModel_next_163 {p : Program} {l : Launch} {e : Env} {s : State} {m : MethodId} {below : List Frame} {meth : Method} {c : Code} {A : Nat → Prop} {D : va_G} {k : Nat → ClassId} {a_t : Nat} {d_t : Nat → Nat} {r_t_tape : Nat → Int32}  {Q : (Nat → Int32) → (Nat → Int64) → Prop}  {x2 : Int32} {kx_163 : (Int32) → (Nat → Int32) → (Nat → Int64) → Prop} (F : Fx p m c cX12_next 4 s ([.ref a_t] : List Value).toArray RX12 D k) (hr : meth.sig.returnType = none) (hlk : meth.locks = false) (hA : ∀ q : Nat, s.heap.size ≤ q → A q) (hkx_163 : ∀ (x3 : Int32) (i_t : Nat → Int32) (j_t : Nat → Int64) (H : Heap) (locs : List Loc) (ls : Array Slot), kx_163 x3 i_t j_t → Bd D A s.heap (wd_LongTrainModel_next k a_t d_t i_t j_t r_t_tape) H locs → lv_has ls 4 [(0, .ref a_t), (2, .int x2), (3, .int x3)] → W p l e { frames := 1, cells := 0, slots := 0, locals := 20 } s m ([.ref a_t] : List Value).toArray below meth c H locs 0 0 (Ev below (fun w => ∃ (i_t : Nat → Int32), ∃ (j_t : Nat → Int64), w = (wd_LongTrainModel_next k a_t d_t i_t j_t r_t_tape) ∧ Q i_t j_t) D k A ([.ref a_t] : List Value).toArray s 0 0) (F0 m 280 ls [])) :
    ∀ n : Nat, ∀ (x3 : Int32) (i_t : Nat → Int32) (j_t : Nat → Int64) (H : Heap) (locs : List Loc) (ls : Array Slot), lp_LongTrainModel_next_163 r_t_tape x2 kx_163 n x3 i_t j_t → Bd D A s.heap (wd_LongTrainModel_next k a_t d_t i_t j_t r_t_tape) H locs → lv_has ls 4 [(0, .ref a_t), (2, .int x2), (3, .int x3)] → W p l e { frames := 1, cells := 0, slots := 0, locals := 20 } s m ([.ref a_t] : List Value).toArray below meth c H locs 0 0 (Ev below (fun w => ∃ (i_t : Nat → Int32), ∃ (j_t : Nat → Int64), w = (wd_LongTrainModel_next k a_t d_t i_t j_t r_t_tape) ∧ Q i_t j_t) D k A ([.ref a_t] : List Value).toArray s 0 0) (F0 m 163 ls []) := by
  intro n
  induction n with
  | zero => intro x3 i_t j_t H locs ls hf; exact absurd hf (fun h => h)
  | succ n ih => exact bt_LongTrainModel_next_163 F hr hlk hA hkx_163 ih

set_option maxRecDepth 100000 in
set_option maxHeartbeats 4000000 in
theorem jt_LongTrainModel_next_146 {p : Program} {l : Launch} {e : Env} {s : State} {m : MethodId} {below : List Frame} {meth : Method} {c : Code} {A : Nat → Prop} {D : va_G} {k : Nat → ClassId} {a_t : Nat} {d_t : Nat → Nat} {r_t_tape : Nat → Int32}  {Q : (Nat → Int32) → (Nat → Int64) → Prop}  (F : Fx p m c cX12_next 4 s ([.ref a_t] : List Value).toArray RX12 D k) (hr : meth.sig.returnType = none) (hlk : meth.locks = false) (hA : ∀ q : Nat, s.heap.size ≤ q → A q) :
    ∀ (i_t : Nat → Int32) (j_t : Nat → Int64) (x1 : Int32) (H : Heap) (locs : List Loc) (ls : Array Slot), j_LongTrainModel_next_146 i_t j_t r_t_tape x1 Q → Bd D A s.heap (wd_LongTrainModel_next k a_t d_t i_t j_t r_t_tape) H locs → lv_has ls 4 [(0, .ref a_t), (1, .int x1)] → W p l e { frames := 1, cells := 0, slots := 0, locals := 20 } s m ([.ref a_t] : List Value).toArray below meth c H locs 0 0 (Ev below (fun w => ∃ (i_t : Nat → Int32), ∃ (j_t : Nat → Int64), w = (wd_LongTrainModel_next k a_t d_t i_t j_t r_t_tape) ∧ Q i_t j_t) D k A ([.ref a_t] : List Value).toArray s 0 0) (F0 m 146 ls []) := by
  have hx := F.x
  have hb := F.b
  intro i_t j_t x1 H locs ls hf hB hl
  unfold j_LongTrainModel_next_146 at hf
  refine lv_iload_n hx hb dX12_next_146 rfl (lv_at hl 1 rfl) ?_
  refine k_si (wr := [(a_t, ob 12 (rfd d_t) i_t j_t), ((d_t 1), ab k 940 r_t_tape)]) (rest := []) F hA hB (c_LongTrainModel_isSmall l D k x1 _  hf) ml_RX12_153 ms_yX12_isSmall [] [0, 1] rfl rfl (by decide) (by decide) (by decide) rfl hl.1 rfl (Nat.le_of_ble_eq_true rfl) ⟨Nat.le_of_ble_eq_true rfl, Nat.le_of_ble_eq_true rfl⟩ ⟨Nat.le_of_ble_eq_true rfl, Nat.le_of_ble_eq_true rfl⟩ dX12_next_147 (fun z_9 w1 H locs hq hB => ?_)
  obtain ⟨h_10, rfl, hf⟩ := hq
  replace hB : Bd D A s.heap (wd_LongTrainModel_next k a_t d_t i_t j_t r_t_tape) H locs := hB.sub [0, 1] (by decide) rfl
  refine lv_istore_n (lv' := [(2, .int z_9), (0, .ref a_t), (1, .int x1)]) hx hb dX12_next_150 rfl hl (by decide) rfl (fun ls hl => ?_)
  refine lv_iconst (v := 1) hx hb dX12_next_151 (by decide) ?_
  refine lv_istore_n (lv' := [(3, .int (1 : Int32)), (2, .int z_9), (0, .ref a_t), (1, .int x1)]) hx hb dX12_next_152 rfl hl (by decide) rfl (fun ls hl => ?_)
  refine lv_aload_n hx hb dX12_next_153 rfl (lv_at hl 2 rfl) ?_
  refine lv_lconst (v := 0) hx hb dX12_next_154 (by decide) ?_
  refine g_putj F hB 0 rfl fl_RX12_163 rfl (wd_LongTrainModel_next k a_t d_t i_t (vp_updL j_t 17 (0 : Int64)) r_t_tape) rfl dX12_next_155 (fun H locs hB => ?_)
  refine lv_aload_n hx hb dX12_next_158 rfl (lv_at hl 2 rfl) ?_
  refine lv_iconst (v := 0) hx hb dX12_next_159 (by decide) ?_
  refine g_puti F hB 0 rfl fl_RX12_160 rfl (wd_LongTrainModel_next k a_t d_t (upd i_t 14 (0 : Int32)) (vp_updL j_t 17 (0 : Int64)) r_t_tape) rfl dX12_next_160 (fun H locs hB => ?_)
  obtain ⟨n_37, hf⟩ := hf
  refine lt_LongTrainModel_next_163 F hr hlk hA (fun x3_28 i_t_29 j_t_30 H locs ls hf hB hl => ?_) n_37 _ _ _ _ _ _ hf hB (lv_sub hl [2, 1, 0] rfl)
  refine lv_aload_n hx hb dX12_next_280 rfl (lv_at hl 0 rfl) ?_
  refine lv_iload_n hx hb dX12_next_281 rfl (lv_at hl 2 rfl) ?_
  refine lv_if_eq (tgt := 302) hx hb dX12_next_282 (by decide) (fun c_36 => ?_) (fun c_36 => ?_)
  · replace hf := hf.1 c_36
    refine lv_iconst (v := 4) hx hb dX12_next_302 (by decide) ?_
    refine lv_goto (tgt := 315) hx hb dX12_next_303 (by decide) ?_
    refine g_puti F hB 0 rfl fl_RX12_150 rfl (wd_LongTrainModel_next k a_t d_t (upd i_t_29 11 (4 : Int32)) j_t_30 r_t_tape) rfl dX12_next_315 (fun H locs hB => ?_)
    exact r_v F hr hlk hB ⟨_, _, rfl, hf⟩ dX12_next_318
  · replace hf := hf.2 c_36
    refine lv_aload_n hx hb dX12_next_285 rfl (lv_at hl 0 rfl) ?_
    refine g_get (w := .int (i_t_29 13)) F hB 0 rfl fl_RX12_147 rfl dX12_next_286 ?_
    refine lv_iload_n hx hb dX12_next_289 rfl (lv_at hl 1 rfl) ?_
    refine lv_if_eq (tgt := 298) hx hb dX12_next_290 (by decide) (fun c_35 => ?_) (fun c_35 => ?_)
    · replace hf := hf.1 c_35
      refine lv_iconst (v := 3) hx hb dX12_next_298 (by decide) ?_
      refine lv_icmp_le (tgt := 306) hx hb dX12_next_299 (by decide) (fun c_32 => ?_) (fun c_32 => ?_)
      · replace hf := hf.1 c_32
        refine lv_iload_n hx hb dX12_next_306 rfl (lv_at hl 1 rfl) ?_
        refine lv_if_eq (tgt := 314) hx hb dX12_next_307 (by decide) (fun c_31 => ?_) (fun c_31 => ?_)
        · replace hf := hf.1 c_31
          refine lv_iconst (v := 2) hx hb dX12_next_314 (by decide) ?_
          refine g_puti F hB 0 rfl fl_RX12_150 rfl (wd_LongTrainModel_next k a_t d_t (upd i_t_29 11 (2 : Int32)) j_t_30 r_t_tape) rfl dX12_next_315 (fun H locs hB => ?_)
          exact r_v F hr hlk hB ⟨_, _, rfl, hf⟩ dX12_next_318
        · replace hf := hf.2 c_31
          refine lv_iconst (v := 1) hx hb dX12_next_310 (by decide) ?_
          refine lv_goto (tgt := 315) hx hb dX12_next_311 (by decide) ?_
          refine g_puti F hB 0 rfl fl_RX12_150 rfl (wd_LongTrainModel_next k a_t d_t (upd i_t_29 11 (1 : Int32)) j_t_30 r_t_tape) rfl dX12_next_315 (fun H locs hB => ?_)
          exact r_v F hr hlk hB ⟨_, _, rfl, hf⟩ dX12_next_318
      · replace hf := hf.2 c_32
        refine lv_iconst (v := 4) hx hb dX12_next_302 (by decide) ?_
        refine lv_goto (tgt := 315) hx hb dX12_next_303 (by decide) ?_
        refine g_puti F hB 0 rfl fl_RX12_150 rfl (wd_LongTrainModel_next k a_t d_t (upd i_t_29 11 (4 : Int32)) j_t_30 r_t_tape) rfl dX12_next_315 (fun H locs hB => ?_)
        exact r_v F hr hlk hB ⟨_, _, rfl, hf⟩ dX12_next_318
    · replace hf := hf.2 c_35
      refine lv_bipush (v := 7) hx hb dX12_next_293 (by decide) ?_
      refine lv_goto (tgt := 299) hx hb dX12_next_295 (by decide) ?_
      refine lv_icmp_le (tgt := 306) hx hb dX12_next_299 (by decide) (fun c_34 => ?_) (fun c_34 => ?_)
      · replace hf := hf.1 c_34
        refine lv_iload_n hx hb dX12_next_306 rfl (lv_at hl 1 rfl) ?_
        refine lv_if_eq (tgt := 314) hx hb dX12_next_307 (by decide) (fun c_33 => ?_) (fun c_33 => ?_)
        · replace hf := hf.1 c_33
          refine lv_iconst (v := 2) hx hb dX12_next_314 (by decide) ?_
          refine g_puti F hB 0 rfl fl_RX12_150 rfl (wd_LongTrainModel_next k a_t d_t (upd i_t_29 11 (2 : Int32)) j_t_30 r_t_tape) rfl dX12_next_315 (fun H locs hB => ?_)
          exact r_v F hr hlk hB ⟨_, _, rfl, hf⟩ dX12_next_318
        · replace hf := hf.2 c_33
          refine lv_iconst (v := 1) hx hb dX12_next_310 (by decide) ?_
          refine lv_goto (tgt := 315) hx hb dX12_next_311 (by decide) ?_
          refine g_puti F hB 0 rfl fl_RX12_150 rfl (wd_LongTrainModel_next k a_t d_t (upd i_t_29 11 (1 : Int32)) j_t_30 r_t_tape) rfl dX12_next_315 (fun H locs hB => ?_)
          exact r_v F hr hlk hB ⟨_, _, rfl, hf⟩ dX12_next_318
      · replace hf := hf.2 c_34
        refine lv_iconst (v := 4) hx hb dX12_next_302 (by decide) ?_
        refine lv_goto (tgt := 315) hx hb dX12_next_303 (by decide) ?_
        refine g_puti F hB 0 rfl fl_RX12_150 rfl (wd_LongTrainModel_next k a_t d_t (upd i_t_29 11 (4 : Int32)) j_t_30 r_t_tape) rfl dX12_next_315 (fun H locs hB => ?_)
        exact r_v F hr hlk hB ⟨_, _, rfl, hf⟩ dX12_next_318

set_option maxRecDepth 100000 in
set_option maxHeartbeats 4000000 in
theorem jt_LongTrainModel_next_80 {p : Program} {l : Launch} {e : Env} {s : State} {m : MethodId} {below : List Frame} {meth : Method} {c : Code} {A : Nat → Prop} {D : va_G} {k : Nat → ClassId} {a_t : Nat} {d_t : Nat → Nat} {r_t_tape : Nat → Int32}  {Q : (Nat → Int32) → (Nat → Int64) → Prop}  (F : Fx p m c cX12_next 4 s ([.ref a_t] : List Value).toArray RX12 D k) (hr : meth.sig.returnType = none) (hlk : meth.locks = false) (hA : ∀ q : Nat, s.heap.size ≤ q → A q) :
    ∀ (i_t : Nat → Int32) (j_t : Nat → Int64) (H : Heap) (locs : List Loc) (ls : Array Slot), j_LongTrainModel_next_80 i_t j_t r_t_tape Q → Bd D A s.heap (wd_LongTrainModel_next k a_t d_t i_t j_t r_t_tape) H locs → lv_has ls 4 [(0, .ref a_t)] → W p l e { frames := 1, cells := 0, slots := 0, locals := 20 } s m ([.ref a_t] : List Value).toArray below meth c H locs 0 0 (Ev below (fun w => ∃ (i_t : Nat → Int32), ∃ (j_t : Nat → Int64), w = (wd_LongTrainModel_next k a_t d_t i_t j_t r_t_tape) ∧ Q i_t j_t) D k A ([.ref a_t] : List Value).toArray s 0 0) (F0 m 80 ls []) := by
  have hx := F.x
  have hb := F.b
  intro i_t j_t H locs ls hf hB hl
  unfold j_LongTrainModel_next_80 at hf
  refine lv_aload_n hx hb dX12_next_80 rfl (lv_at hl 0 rfl) ?_
  refine k_vi (wr := []) (rest := []) F hA hB (c_LongTrainModel_peek l D k a_t d_t i_t j_t r_t_tape _  hf) ml_RX12_140 mv_yX12_peek [0, 1] [] rfl rfl (by decide) (by decide) (by decide) 0 rfl rfl rfl hl.1 rfl (Nat.le_of_ble_eq_true rfl) ⟨Nat.le_of_ble_eq_true rfl, Nat.le_of_ble_eq_true rfl⟩ ⟨Nat.le_of_ble_eq_true rfl, Nat.le_of_ble_eq_true rfl⟩ dX12_next_81 (fun z_6 w1 H locs hq hB => ?_)
  obtain ⟨rfl, hf⟩ := hq
  replace hB : Bd D A s.heap (wd_LongTrainModel_next k a_t d_t i_t j_t r_t_tape) H locs := hB.sub [0, 1] (by decide) rfl
  refine lv_istore_n (lv' := [(1, .int z_6), (0, .ref a_t)]) hx hb dX12_next_84 rfl hl (by decide) rfl (fun ls hl => ?_)
  refine lv_iload_n hx hb dX12_next_85 rfl (lv_at hl 0 rfl) ?_
  refine lv_if_ge (tgt := 95) hx hb dX12_next_86 (by decide) (fun c_44 => ?_) (fun c_44 => ?_)
  · replace hf := hf.1 c_44
    refine lv_iload_n hx hb dX12_next_95 rfl (lv_at hl 0 rfl) ?_
    refine k_si (wr := [(a_t, ob 12 (rfd d_t) i_t j_t), ((d_t 1), ab k 940 r_t_tape)]) (rest := []) F hA hB (c_LongTrainModel_isSmall l D k z_6 _  hf) ml_RX12_153 ms_yX12_isSmall [] [0, 1] rfl rfl (by decide) (by decide) (by decide) rfl hl.1 rfl (Nat.le_of_ble_eq_true rfl) ⟨Nat.le_of_ble_eq_true rfl, Nat.le_of_ble_eq_true rfl⟩ ⟨Nat.le_of_ble_eq_true rfl, Nat.le_of_ble_eq_true rfl⟩ dX12_next_96 (fun z_7 w1 H locs hq hB => ?_)
    obtain ⟨h_8, rfl, hf⟩ := hq
    replace hB : Bd D A s.heap (wd_LongTrainModel_next k a_t d_t i_t j_t r_t_tape) H locs := hB.sub [0, 1] (by decide) rfl
    refine lv_if_ne (tgt := 146) hx hb dX12_next_99 (by decide) (fun c_43 => ?_) (fun c_43 => ?_)
    · replace hf := hf.1 c_43
      exact jt_LongTrainModel_next_146 F hr hlk hA _ _ _ _ _ _ hf hB (lv_sub hl [1, 0] rfl)
    · replace hf := hf.2 c_43
      refine lv_iload_n hx hb dX12_next_102 rfl (lv_at hl 0 rfl) ?_
      refine k_si (wr := [(a_t, ob 12 (rfd d_t) i_t j_t), ((d_t 1), ab k 940 r_t_tape)]) (rest := []) F hA hB (c_LongTrainModel_isDigit l D k z_6 _  hf) ml_RX12_157 ms_yX12_isDigit [] [0, 1] rfl rfl (by decide) (by decide) (by decide) rfl hl.1 rfl (Nat.le_of_ble_eq_true rfl) ⟨Nat.le_of_ble_eq_true rfl, Nat.le_of_ble_eq_true rfl⟩ ⟨Nat.le_of_ble_eq_true rfl, Nat.le_of_ble_eq_true rfl⟩ dX12_next_103 (fun z_38 w1 H locs hq hB => ?_)
      obtain ⟨h_39, rfl, hf⟩ := hq
      replace hB : Bd D A s.heap (wd_LongTrainModel_next k a_t d_t i_t j_t r_t_tape) H locs := hB.sub [0, 1] (by decide) rfl
      refine lv_if_ne (tgt := 146) hx hb dX12_next_106 (by decide) (fun c_42 => ?_) (fun c_42 => ?_)
      · replace hf := hf.1 c_42
        exact jt_LongTrainModel_next_146 F hr hlk hA _ _ _ _ _ _ hf hB (lv_sub hl [1, 0] rfl)
      · replace hf := hf.2 c_42
        refine lv_aload_n hx hb dX12_next_109 rfl (lv_at hl 1 rfl) ?_
        refine lv_iload_n hx hb dX12_next_110 rfl (lv_at hl 0 rfl) ?_
        refine lv_bipush (v := 59) hx hb dX12_next_111 (by decide) ?_
        refine lv_icmp_eq (tgt := 122) hx hb dX12_next_113 (by decide) (fun c_41 => ?_) (fun c_41 => ?_)
        · replace hf := hf.1 c_41
          refine lv_iconst (v := 3) hx hb dX12_next_122 (by decide) ?_
          refine lv_goto (tgt := 127) hx hb dX12_next_123 (by decide) ?_
          refine g_puti F hB 0 rfl fl_RX12_150 rfl (wd_LongTrainModel_next k a_t d_t (upd i_t 11 (3 : Int32)) j_t r_t_tape) rfl dX12_next_127 (fun H locs hB => ?_)
          refine lv_aload_n hx hb dX12_next_130 rfl (lv_at hl 1 rfl) ?_
          refine lv_iload_n hx hb dX12_next_131 rfl (lv_at hl 0 rfl) ?_
          refine g_puti F hB 0 rfl fl_RX12_160 rfl (wd_LongTrainModel_next k a_t d_t (upd (upd i_t 11 (3 : Int32)) 14 z_6) j_t r_t_tape) rfl dX12_next_132 (fun H locs hB => ?_)
          refine lv_aload_n hx hb dX12_next_135 rfl (lv_at hl 1 rfl) ?_
          refine lv_dup hx hb dX12_next_136 rfl ?_
          refine g_get (w := .int ((upd (upd i_t 11 (3 : Int32)) 14 z_6) 4)) F hB 0 rfl fl_RX12_21 rfl dX12_next_137 ?_
          refine lv_iconst (v := 1) hx hb dX12_next_140 (by decide) ?_
          refine lv_iadd hx hb dX12_next_141 ?_
          refine g_puti F hB 0 rfl fl_RX12_21 rfl (wd_LongTrainModel_next k a_t d_t (upd (upd (upd i_t 11 (3 : Int32)) 14 z_6) 4 (((upd (upd i_t 11 (3 : Int32)) 14 z_6) 4) + (1 : Int32))) j_t r_t_tape) rfl dX12_next_142 (fun H locs hB => ?_)
          exact r_v F hr hlk hB ⟨_, _, rfl, hf⟩ dX12_next_145
        · replace hf := hf.2 c_41
          refine lv_iload_n hx hb dX12_next_116 rfl (lv_at hl 0 rfl) ?_
          refine lv_bipush (v := 45) hx hb dX12_next_117 (by decide) ?_
          refine lv_icmp_ne (tgt := 126) hx hb dX12_next_119 (by decide) (fun c_40 => ?_) (fun c_40 => ?_)
          · replace hf := hf.1 c_40
            refine lv_iconst (v := 4) hx hb dX12_next_126 (by decide) ?_
            refine g_puti F hB 0 rfl fl_RX12_150 rfl (wd_LongTrainModel_next k a_t d_t (upd i_t 11 (4 : Int32)) j_t r_t_tape) rfl dX12_next_127 (fun H locs hB => ?_)
            refine lv_aload_n hx hb dX12_next_130 rfl (lv_at hl 1 rfl) ?_
            refine lv_iload_n hx hb dX12_next_131 rfl (lv_at hl 0 rfl) ?_
            refine g_puti F hB 0 rfl fl_RX12_160 rfl (wd_LongTrainModel_next k a_t d_t (upd (upd i_t 11 (4 : Int32)) 14 z_6) j_t r_t_tape) rfl dX12_next_132 (fun H locs hB => ?_)
            refine lv_aload_n hx hb dX12_next_135 rfl (lv_at hl 1 rfl) ?_
            refine lv_dup hx hb dX12_next_136 rfl ?_
            refine g_get (w := .int ((upd (upd i_t 11 (4 : Int32)) 14 z_6) 4)) F hB 0 rfl fl_RX12_21 rfl dX12_next_137 ?_
            refine lv_iconst (v := 1) hx hb dX12_next_140 (by decide) ?_
            refine lv_iadd hx hb dX12_next_141 ?_
            refine g_puti F hB 0 rfl fl_RX12_21 rfl (wd_LongTrainModel_next k a_t d_t (upd (upd (upd i_t 11 (4 : Int32)) 14 z_6) 4 (((upd (upd i_t 11 (4 : Int32)) 14 z_6) 4) + (1 : Int32))) j_t r_t_tape) rfl dX12_next_142 (fun H locs hB => ?_)
            exact r_v F hr hlk hB ⟨_, _, rfl, hf⟩ dX12_next_145
          · replace hf := hf.2 c_40
            refine lv_iconst (v := 3) hx hb dX12_next_122 (by decide) ?_
            refine lv_goto (tgt := 127) hx hb dX12_next_123 (by decide) ?_
            refine g_puti F hB 0 rfl fl_RX12_150 rfl (wd_LongTrainModel_next k a_t d_t (upd i_t 11 (3 : Int32)) j_t r_t_tape) rfl dX12_next_127 (fun H locs hB => ?_)
            refine lv_aload_n hx hb dX12_next_130 rfl (lv_at hl 1 rfl) ?_
            refine lv_iload_n hx hb dX12_next_131 rfl (lv_at hl 0 rfl) ?_
            refine g_puti F hB 0 rfl fl_RX12_160 rfl (wd_LongTrainModel_next k a_t d_t (upd (upd i_t 11 (3 : Int32)) 14 z_6) j_t r_t_tape) rfl dX12_next_132 (fun H locs hB => ?_)
            refine lv_aload_n hx hb dX12_next_135 rfl (lv_at hl 1 rfl) ?_
            refine lv_dup hx hb dX12_next_136 rfl ?_
            refine g_get (w := .int ((upd (upd i_t 11 (3 : Int32)) 14 z_6) 4)) F hB 0 rfl fl_RX12_21 rfl dX12_next_137 ?_
            refine lv_iconst (v := 1) hx hb dX12_next_140 (by decide) ?_
            refine lv_iadd hx hb dX12_next_141 ?_
            refine g_puti F hB 0 rfl fl_RX12_21 rfl (wd_LongTrainModel_next k a_t d_t (upd (upd (upd i_t 11 (3 : Int32)) 14 z_6) 4 (((upd (upd i_t 11 (3 : Int32)) 14 z_6) 4) + (1 : Int32))) j_t r_t_tape) rfl dX12_next_142 (fun H locs hB => ?_)
            exact r_v F hr hlk hB ⟨_, _, rfl, hf⟩ dX12_next_145
  · replace hf := hf.2 c_44
    refine lv_aload_n hx hb dX12_next_89 rfl (lv_at hl 1 rfl) ?_
    refine lv_iconst (v := 0) hx hb dX12_next_90 (by decide) ?_
    refine g_puti F hB 0 rfl fl_RX12_150 rfl (wd_LongTrainModel_next k a_t d_t (upd i_t 11 (0 : Int32)) j_t r_t_tape) rfl dX12_next_91 (fun H locs hB => ?_)
    exact r_v F hr hlk hB ⟨_, _, rfl, hf⟩ dX12_next_94

set_option maxRecDepth 100000 in
set_option maxHeartbeats 4000000 in
theorem c_LongTrainModel_next (l : Launch) (D : va_G) (k : Nat → ClassId) (a_t : Nat) (d_t : Nat → Nat) (i_t : Nat → Int32) (j_t : Nat → Int64) (r_t_tape : Nat → Int32)  (Q : (Nat → Int32) → (Nat → Int64) → Prop)  (hf : w_LongTrainModel_next i_t j_t r_t_tape Q) : CtV l yX12_next cX12_next 4 none 1 20 0 0 D k [.ref a_t] (wd_LongTrainModel_next k a_t d_t i_t j_t r_t_tape) (fun w => ∃ (i_t : Nat → Int32), ∃ (j_t : Nat → Int64), w = (wd_LongTrainModel_next k a_t d_t i_t j_t r_t_tape) ∧ Q i_t j_t) := by
  refine CtV.of (by decide) (Nat.le_of_ble_eq_true rfl) ?_
  intro p e s m below meth c A F hr hlk hnm hA hB ls hl
  have hx := F.x
  have hb := F.b
  unfold w_LongTrainModel_next at hf
  replace hl : lv_has ls 4 [(0, .ref a_t)] := hl
  obtain ⟨n_47, hf⟩ := hf
  refine lt_LongTrainModel_next_0 F hr hlk hA (fun i_t_5 H locs ls hf hB hl => ?_) n_47 _ _ _ _ hf hB (lv_sub hl [0] rfl)
  refine lv_aload_n hx hb dX12_next_31 rfl (lv_at hl 0 rfl) ?_
  refine lv_aload_n hx hb dX12_next_32 rfl (lv_at hl 0 rfl) ?_
  refine g_get (w := .int (i_t_5 4)) F hB 0 rfl fl_RX12_21 rfl dX12_next_33 ?_
  refine g_puti F hB 0 rfl fl_RX12_144 rfl (wd_LongTrainModel_next k a_t d_t (upd i_t_5 12 (i_t_5 4)) j_t r_t_tape) rfl dX12_next_36 (fun H locs hB => ?_)
  refine lv_aload_n hx hb dX12_next_39 rfl (lv_at hl 0 rfl) ?_
  refine lv_iconst (v := 0) hx hb dX12_next_40 (by decide) ?_
  refine g_puti F hB 0 rfl fl_RX12_147 rfl (wd_LongTrainModel_next k a_t d_t (upd (upd i_t_5 12 (i_t_5 4)) 13 (0 : Int32)) j_t r_t_tape) rfl dX12_next_41 (fun H locs hB => ?_)
  refine lv_aload_n hx hb dX12_next_44 rfl (lv_at hl 0 rfl) ?_
  refine g_get (w := .int ((upd (upd i_t_5 12 (i_t_5 4)) 13 (0 : Int32)) 3)) F hB 0 rfl fl_RX12_18 rfl dX12_next_45 ?_
  refine lv_aload_n hx hb dX12_next_48 rfl (lv_at hl 0 rfl) ?_
  refine g_get (w := .int ((upd (upd i_t_5 12 (i_t_5 4)) 13 (0 : Int32)) 5)) F hB 0 rfl fl_RX12_24 rfl dX12_next_49 ?_
  refine lv_icmp_le (tgt := 80) hx hb dX12_next_52 (by decide) (fun c_46 => ?_) (fun c_46 => ?_)
  · replace hf := hf.1 c_46
    exact jt_LongTrainModel_next_80 F hr hlk hA _ _ _ _ _ hf hB (lv_sub hl [0] rfl)
  · replace hf := hf.2 c_46
    refine lv_aload_n hx hb dX12_next_55 rfl (lv_at hl 0 rfl) ?_
    refine g_get (w := .int ((upd (upd i_t_5 12 (i_t_5 4)) 13 (0 : Int32)) 4)) F hB 0 rfl fl_RX12_21 rfl dX12_next_56 ?_
    refine lv_aload_n hx hb dX12_next_59 rfl (lv_at hl 0 rfl) ?_
    refine g_get (w := .int ((upd (upd i_t_5 12 (i_t_5 4)) 13 (0 : Int32)) 5)) F hB 0 rfl fl_RX12_24 rfl dX12_next_60 ?_
    refine lv_icmp_lt (tgt := 80) hx hb dX12_next_63 (by decide) (fun c_45 => ?_) (fun c_45 => ?_)
    · replace hf := hf.1 c_45
      exact jt_LongTrainModel_next_80 F hr hlk hA _ _ _ _ _ hf hB (lv_sub hl [0] rfl)
    · replace hf := hf.2 c_45
      refine lv_aload_n hx hb dX12_next_66 rfl (lv_at hl 0 rfl) ?_
      refine lv_aload_n hx hb dX12_next_67 rfl (lv_at hl 0 rfl) ?_
      refine g_get (w := .int ((upd (upd i_t_5 12 (i_t_5 4)) 13 (0 : Int32)) 5)) F hB 0 rfl fl_RX12_24 rfl dX12_next_68 ?_
      refine g_puti F hB 0 rfl fl_RX12_144 rfl (wd_LongTrainModel_next k a_t d_t (upd (upd (upd i_t_5 12 (i_t_5 4)) 13 (0 : Int32)) 12 ((upd (upd i_t_5 12 (i_t_5 4)) 13 (0 : Int32)) 5)) j_t r_t_tape) rfl dX12_next_71 (fun H locs hB => ?_)
      refine lv_aload_n hx hb dX12_next_74 rfl (lv_at hl 0 rfl) ?_
      refine lv_iconst (v := 4) hx hb dX12_next_75 (by decide) ?_
      refine g_puti F hB 0 rfl fl_RX12_150 rfl (wd_LongTrainModel_next k a_t d_t (upd (upd (upd (upd i_t_5 12 (i_t_5 4)) 13 (0 : Int32)) 12 ((upd (upd i_t_5 12 (i_t_5 4)) 13 (0 : Int32)) 5)) 11 (4 : Int32)) j_t r_t_tape) rfl dX12_next_76 (fun H locs hB => ?_)
      exact r_v F hr hlk hB ⟨_, _, rfl, hf⟩ dX12_next_79

/-! LongTrainModel.bad -/
set_option maxRecDepth 100000 in
set_option maxHeartbeats 4000000 in
theorem c_LongTrainModel_bad (l : Launch) (D : va_G) (k : Nat → ClassId) (a_t : Nat) (d_t : Nat → Nat) (i_t : Nat → Int32) (j_t : Nat → Int64) (n1 : Int32) (Q : Int32 → (Nat → Int32) → Prop)  (hf : w_LongTrainModel_bad i_t n1 Q) : CtI l yX12_bad cX12_bad 2 (some .boolean) 0 0 0 0 D k [.ref a_t, .int n1] (wd_LongTrainModel_bad k a_t d_t i_t j_t) (fun r w => (r = 0 ∨ r = 1) ∧ (∃ (i_t : Nat → Int32), w = (wd_LongTrainModel_bad k a_t d_t i_t j_t) ∧ Q r i_t)) := by
  refine CtI.of (by decide) (Nat.le_of_ble_eq_true rfl) ?_
  intro p e s m below meth c A F hr hlk hnm hA hB ls hl
  have hx := F.x
  have hb := F.b
  unfold w_LongTrainModel_bad at hf
  replace hl : lv_has ls 2 [(0, .ref a_t), (1, .int n1)] := hl
  refine lv_aload_n hx hb dX12_bad_0 rfl (lv_at hl 0 rfl) ?_
  refine lv_iload_n hx hb dX12_bad_1 rfl (lv_at hl 1 rfl) ?_
  refine g_puti F hB 0 rfl fl_RX12_167 rfl (wd_LongTrainModel_bad k a_t d_t (upd i_t 15 n1) j_t) rfl dX12_bad_2 (fun H locs hB => ?_)
  refine lv_aload_n hx hb dX12_bad_5 rfl (lv_at hl 0 rfl) ?_
  refine lv_aload_n hx hb dX12_bad_6 rfl (lv_at hl 0 rfl) ?_
  refine g_get (w := .int ((upd i_t 15 n1) 12)) F hB 0 rfl fl_RX12_144 rfl dX12_bad_7 ?_
  refine g_puti F hB 0 rfl fl_RX12_170 rfl (wd_LongTrainModel_bad k a_t d_t (upd (upd i_t 15 n1) 16 ((upd i_t 15 n1) 12)) j_t) rfl dX12_bad_10 (fun H locs hB => ?_)
  refine lv_iconst (v := 0) hx hb dX12_bad_13 (by decide) ?_
  exact r_z F hr hlk hB (Or.inl rfl) ⟨Or.inl rfl, _, rfl, hf⟩ dX12_bad_14

/-! LongTrainModel.isWord -/
set_option maxRecDepth 100000 in
set_option maxHeartbeats 4000000 in
theorem c_LongTrainModel_isWord (l : Launch) (D : va_G) (k : Nat → ClassId) (a_t : Nat) (d_t : Nat → Nat) (i_t : Nat → Int32) (j_t : Nat → Int64) (n1 : Int64) (Q : Int32 → Prop)  (hf : w_LongTrainModel_isWord i_t j_t n1 Q) : CtI l yX12_isWord cX12_isWord 3 (some .boolean) 0 0 0 0 D k [.ref a_t, .long n1] (wd_LongTrainModel_isWord k a_t d_t i_t j_t) (fun r w => (r = 0 ∨ r = 1) ∧ (w = (wd_LongTrainModel_isWord k a_t d_t i_t j_t) ∧ Q r)) := by
  refine CtI.of (by decide) (Nat.le_of_ble_eq_true rfl) ?_
  intro p e s m below meth c A F hr hlk hnm hA hB ls hl
  have hx := F.x
  have hb := F.b
  unfold w_LongTrainModel_isWord at hf
  replace hl : lv_has ls 3 [(0, .ref a_t), (1, .long n1)] := hl
  refine lv_aload_n hx hb dX12_isWord_0 rfl (lv_at hl 0 rfl) ?_
  refine g_get (w := .int (i_t 11)) F hB 0 rfl fl_RX12_150 rfl dX12_isWord_1 ?_
  refine lv_iconst (v := 1) hx hb dX12_isWord_4 (by decide) ?_
  refine lv_icmp_ne (tgt := 21) hx hb dX12_isWord_5 (by decide) (fun c_2 => ?_) (fun c_2 => ?_)
  · replace hf := hf.1 c_2
    refine lv_iconst (v := 0) hx hb dX12_isWord_21 (by decide) ?_
    exact r_z F hr hlk hB (Or.inl rfl) ⟨Or.inl rfl, rfl, hf⟩ dX12_isWord_22
  · replace hf := hf.2 c_2
    refine lv_aload_n hx hb dX12_isWord_8 rfl (lv_at hl 0 rfl) ?_
    refine g_get (w := .long (j_t 17)) F hB 0 rfl fl_RX12_163 rfl dX12_isWord_9 ?_
    refine lv_lload_n hx hb dX12_isWord_12 rfl (lv_at hl 1 rfl) ?_
    refine W.lcmp hx hb dX12_isWord_13 ?_
    refine lv_if_ne (tgt := 21) hx hb dX12_isWord_14 (by decide) (fun c_1 => ?_) (fun c_1 => ?_)
    · replace hf := hf.1 c_1
      refine lv_iconst (v := 0) hx hb dX12_isWord_21 (by decide) ?_
      exact r_z F hr hlk hB (Or.inl rfl) ⟨Or.inl rfl, rfl, hf⟩ dX12_isWord_22
    · replace hf := hf.2 c_1
      refine lv_iconst (v := 1) hx hb dX12_isWord_17 (by decide) ?_
      refine lv_goto (tgt := 22) hx hb dX12_isWord_18 (by decide) ?_
      exact r_z F hr hlk hB (Or.inr rfl) ⟨Or.inr rfl, rfl, hf⟩ dX12_isWord_22

/-! LongTrainModel.isSign -/
set_option maxRecDepth 100000 in
set_option maxHeartbeats 4000000 in
theorem c_LongTrainModel_isSign (l : Launch) (D : va_G) (k : Nat → ClassId) (a_t : Nat) (d_t : Nat → Nat) (i_t : Nat → Int32) (j_t : Nat → Int64) (n1 : Int32) (Q : Int32 → Prop)  (hf : w_LongTrainModel_isSign i_t n1 Q) : CtI l yX12_isSign cX12_isSign 2 (some .boolean) 0 0 0 0 D k [.ref a_t, .int n1] (wd_LongTrainModel_isSign k a_t d_t i_t j_t) (fun r w => (r = 0 ∨ r = 1) ∧ (w = (wd_LongTrainModel_isSign k a_t d_t i_t j_t) ∧ Q r)) := by
  refine CtI.of (by decide) (Nat.le_of_ble_eq_true rfl) ?_
  intro p e s m below meth c A F hr hlk hnm hA hB ls hl
  have hx := F.x
  have hb := F.b
  unfold w_LongTrainModel_isSign at hf
  replace hl : lv_has ls 2 [(0, .ref a_t), (1, .int n1)] := hl
  refine lv_aload_n hx hb dX12_isSign_0 rfl (lv_at hl 0 rfl) ?_
  refine g_get (w := .int (i_t 11)) F hB 0 rfl fl_RX12_150 rfl dX12_isSign_1 ?_
  refine lv_iconst (v := 3) hx hb dX12_isSign_4 (by decide) ?_
  refine lv_icmp_ne (tgt := 20) hx hb dX12_isSign_5 (by decide) (fun c_2 => ?_) (fun c_2 => ?_)
  · replace hf := hf.1 c_2
    refine lv_iconst (v := 0) hx hb dX12_isSign_20 (by decide) ?_
    exact r_z F hr hlk hB (Or.inl rfl) ⟨Or.inl rfl, rfl, hf⟩ dX12_isSign_21
  · replace hf := hf.2 c_2
    refine lv_aload_n hx hb dX12_isSign_8 rfl (lv_at hl 0 rfl) ?_
    refine g_get (w := .int (i_t 14)) F hB 0 rfl fl_RX12_160 rfl dX12_isSign_9 ?_
    refine lv_iload_n hx hb dX12_isSign_12 rfl (lv_at hl 1 rfl) ?_
    refine lv_icmp_ne (tgt := 20) hx hb dX12_isSign_13 (by decide) (fun c_1 => ?_) (fun c_1 => ?_)
    · replace hf := hf.1 c_1
      refine lv_iconst (v := 0) hx hb dX12_isSign_20 (by decide) ?_
      exact r_z F hr hlk hB (Or.inl rfl) ⟨Or.inl rfl, rfl, hf⟩ dX12_isSign_21
    · replace hf := hf.2 c_1
      refine lv_iconst (v := 1) hx hb dX12_isSign_16 (by decide) ?_
      refine lv_goto (tgt := 21) hx hb dX12_isSign_17 (by decide) ?_
      exact r_z F hr hlk hB (Or.inr rfl) ⟨Or.inr rfl, rfl, hf⟩ dX12_isSign_21

/-! LongTrainModel.sign -/
set_option maxRecDepth 100000 in
set_option maxHeartbeats 4000000 in
theorem c_LongTrainModel_sign (l : Launch) (D : va_G) (k : Nat → ClassId) (a_t : Nat) (d_t : Nat → Nat) (i_t : Nat → Int32) (j_t : Nat → Int64) (r_t_tape : Nat → Int32) (n1 : Int32) (Q : Int32 → (Nat → Int32) → (Nat → Int64) → Prop)  (hf : w_LongTrainModel_sign i_t j_t r_t_tape n1 Q) : CtI l yX12_sign cX12_sign 2 (some .boolean) 2 43 0 0 D k [.ref a_t, .int n1] (wd_LongTrainModel_sign k a_t d_t i_t j_t r_t_tape) (fun r w => (r = 0 ∨ r = 1) ∧ (∃ (i_t : Nat → Int32), ∃ (j_t : Nat → Int64), w = (wd_LongTrainModel_sign k a_t d_t i_t j_t r_t_tape) ∧ Q r i_t j_t)) := by
  refine CtI.of (by decide) (Nat.le_of_ble_eq_true rfl) ?_
  intro p e s m below meth c A F hr hlk hnm hA hB ls hl
  have hx := F.x
  have hb := F.b
  unfold w_LongTrainModel_sign at hf
  replace hl : lv_has ls 2 [(0, .ref a_t), (1, .int n1)] := hl
  refine lv_aload_n hx hb dX12_sign_0 rfl (lv_at hl 0 rfl) ?_
  refine lv_iload_n hx hb dX12_sign_1 rfl (lv_at hl 1 rfl) ?_
  refine k_vi (wr := [((d_t 1), ab k 940 r_t_tape)]) (rest := []) F hA hB (c_LongTrainModel_isSign l D k a_t d_t i_t j_t n1 _  hf) ml_RX12_173 mv_yX12_isSign [0] [1] rfl rfl (by decide) (by decide) (by decide) 0 rfl rfl rfl hl.1 rfl (Nat.le_of_ble_eq_true rfl) ⟨Nat.le_of_ble_eq_true rfl, Nat.le_of_ble_eq_true rfl⟩ ⟨Nat.le_of_ble_eq_true rfl, Nat.le_of_ble_eq_true rfl⟩ dX12_sign_2 (fun z_1 w1 H locs hq hB => ?_)
  obtain ⟨h_2, rfl, hf⟩ := hq
  replace hB : Bd D A s.heap (wd_LongTrainModel_sign k a_t d_t i_t j_t r_t_tape) H locs := hB.sub [1, 0] (by decide) rfl
  refine lv_if_ne (tgt := 14) hx hb dX12_sign_5 (by decide) (fun c_8 => ?_) (fun c_8 => ?_)
  · replace hf := hf.1 c_8
    refine lv_aload_n hx hb dX12_sign_14 rfl (lv_at hl 0 rfl) ?_
    refine k_vv (wr := []) (rest := []) F hA hB (c_LongTrainModel_next l D k a_t d_t i_t j_t r_t_tape _  hf) ml_RX12_179 mv_yX12_next [0, 1] [] rfl rfl (by decide) (by decide) (by decide) 0 rfl rfl rfl hl.1 rfl (Nat.le_of_ble_eq_true rfl) ⟨Nat.le_of_ble_eq_true rfl, Nat.le_of_ble_eq_true rfl⟩ ⟨Nat.le_of_ble_eq_true rfl, Nat.le_of_ble_eq_true rfl⟩ dX12_sign_15 (fun w1 H locs hq hB => ?_)
    obtain ⟨i_t_3, j_t_4, rfl, hf⟩ := hq
    replace hB : Bd D A s.heap (wd_LongTrainModel_sign k a_t d_t i_t_3 j_t_4 r_t_tape) H locs := hB.sub [0, 1] (by decide) rfl
    refine lv_iconst (v := 1) hx hb dX12_sign_18 (by decide) ?_
    exact r_z F hr hlk hB (Or.inr rfl) ⟨Or.inr rfl, _, _, rfl, hf⟩ dX12_sign_19
  · replace hf := hf.2 c_8
    refine lv_aload_n hx hb dX12_sign_8 rfl (lv_at hl 0 rfl) ?_
    refine lv_iconst (v := 1) hx hb dX12_sign_9 (by decide) ?_
    refine k_vi (wr := [((d_t 1), ab k 940 r_t_tape)]) (rest := []) F hA hB (c_LongTrainModel_bad l D k a_t d_t i_t j_t (1 : Int32) _  hf) ml_RX12_176 mv_yX12_bad [0] [1] rfl rfl (by decide) (by decide) (by decide) 0 rfl rfl rfl hl.1 rfl (Nat.le_of_ble_eq_true rfl) ⟨Nat.le_of_ble_eq_true rfl, Nat.le_of_ble_eq_true rfl⟩ ⟨Nat.le_of_ble_eq_true rfl, Nat.le_of_ble_eq_true rfl⟩ dX12_sign_10 (fun z_6 w1 H locs hq hB => ?_)
    obtain ⟨h_7, i_t_5, rfl, hf⟩ := hq
    replace hB : Bd D A s.heap (wd_LongTrainModel_sign k a_t d_t i_t_5 j_t r_t_tape) H locs := hB.sub [1, 0] (by decide) rfl
    exact r_z F hr hlk hB (h_7) ⟨h_7, _, _, rfl, hf⟩ dX12_sign_13

/-! LongTrainModel.isName -/
set_option maxRecDepth 100000 in
set_option maxHeartbeats 4000000 in
theorem bt_LongTrainModel_isName_16 {p : Program} {l : Launch} {e : Env} {s : State} {m : MethodId} {below : List Frame} {meth : Method} {c : Code} {A : Nat → Prop} {D : va_G} {k : Nat → ClassId} {a_t : Nat} {d_t : Nat → Nat} {i_t : Nat → Int32} {j_t : Nat → Int64} {r_t_reserved : Nat → Int64}  {Q : Int32 → Prop}  {kx_16 : (Int32) → Prop} {kr_16 : (Int32) → (Int32) → Prop} (F : Fx p m c cX12_isName 3 s ([.ref a_t] : List Value).toArray RX12 D k) (hr : meth.sig.returnType = (some .boolean)) (hlk : meth.locks = false) (hA : ∀ q : Nat, s.heap.size ≤ q → A q) (hkx_16 : ∀ (x1 : Int32) (H : Heap) (locs : List Loc) (ls : Array Slot), kx_16 x1 → Bd D A s.heap (wd_LongTrainModel_isName k a_t d_t i_t j_t r_t_reserved) H locs → lv_has ls 3 [(1, .int x1)] → W p l e { frames := 0, cells := 0, slots := 0, locals := 0 } s m ([.ref a_t] : List Value).toArray below meth c H locs 0 0 (Ei below (fun r w => (r = 0 ∨ r = 1) ∧ (w = (wd_LongTrainModel_isName k a_t d_t i_t j_t r_t_reserved) ∧ Q r)) D k A ([.ref a_t] : List Value).toArray s 0 0) (F0 m 52 ls [])) (hkr_16 : ∀ (x1 : Int32) (x2 : Int32) (H : Heap) (locs : List Loc) (ls : Array Slot), kr_16 x1 x2 → Bd D A s.heap (wd_LongTrainModel_isName k a_t d_t i_t j_t r_t_reserved) H locs → lv_has ls 3 [(0, .ref a_t), (1, .int x1), (2, .int x2)] → W p l e { frames := 0, cells := 0, slots := 0, locals := 0 } s m ([.ref a_t] : List Value).toArray below meth c H locs 0 0 (Ei below (fun r w => (r = 0 ∨ r = 1) ∧ (w = (wd_LongTrainModel_isName k a_t d_t i_t j_t r_t_reserved) ∧ Q r)) D k A ([.ref a_t] : List Value).toArray s 0 0) (F0 m 16 ls [])) :
    ∀ (x1 : Int32) (x2 : Int32) (H : Heap) (locs : List Loc) (ls : Array Slot), b_LongTrainModel_isName_16 j_t r_t_reserved kx_16 kr_16 x1 x2 → Bd D A s.heap (wd_LongTrainModel_isName k a_t d_t i_t j_t r_t_reserved) H locs → lv_has ls 3 [(0, .ref a_t), (1, .int x1), (2, .int x2)] → W p l e { frames := 0, cells := 0, slots := 0, locals := 0 } s m ([.ref a_t] : List Value).toArray below meth c H locs 0 0 (Ei below (fun r w => (r = 0 ∨ r = 1) ∧ (w = (wd_LongTrainModel_isName k a_t d_t i_t j_t r_t_reserved) ∧ Q r)) D k A ([.ref a_t] : List Value).toArray s 0 0) (F0 m 16 ls []) := by
  have hx := F.x
  have hb := F.b
  intro x1 x2 H locs ls hf hB hl
  unfold b_LongTrainModel_isName_16 at hf
  refine lv_iload_n hx hb dX12_isName_16 rfl (lv_at hl 2 rfl) ?_
  refine lv_bipush (v := 16) hx hb dX12_isName_17 (by decide) ?_
  refine lv_icmp_ge (tgt := 52) hx hb dX12_isName_19 (by decide) (fun c_4 => ?_) (fun c_4 => ?_)
  · replace hf := hf.1 c_4
    exact hkx_16 _ _ _ _ hf hB (lv_sub hl [1] rfl)
  · replace hf := hf.2 c_4
    refine lv_iload_n hx hb dX12_isName_22 rfl (lv_at hl 1 rfl) ?_
    refine lv_if_eq (tgt := 44) hx hb dX12_isName_23 (by decide) (fun c_3 => ?_) (fun c_3 => ?_)
    · replace hf := hf.1 c_3
      refine lv_iconst (v := 0) hx hb dX12_isName_44 (by decide) ?_
      refine lv_istore_n (lv' := [(1, .int (0 : Int32)), (0, .ref a_t), (2, .int x2)]) hx hb dX12_isName_45 rfl hl (by decide) rfl (fun ls hl => ?_)
      refine lv_iinc (v := (x2 + 1)) (lv' := [(2, .int (x2 + 1)), (1, .int (0 : Int32)), (0, .ref a_t)]) (k := 2) hx hb dX12_isName_46 hl rfl rfl (by decide) rfl (fun ls hl => ?_)
      refine lv_goto (tgt := 16) hx hb dX12_isName_49 (by decide) ?_
      exact hkr_16 _ _ _ _ _ hf hB (lv_sub hl [2, 1, 0] rfl)
    · replace hf := hf.2 c_3
      refine lv_aload_n hx hb dX12_isName_26 rfl (lv_at hl 0 rfl) ?_
      refine g_get (w := .long (j_t 17)) F hB 0 rfl fl_RX12_163 rfl dX12_isName_27 ?_
      refine lv_aload_n hx hb dX12_isName_30 rfl (lv_at hl 0 rfl) ?_
      refine g_get (w := .ref (d_t 10)) F hB 0 rfl fl_RX12_47 rfl dX12_isName_31 ?_
      refine lv_iload_n hx hb dX12_isName_34 rfl (lv_at hl 2 rfl) ?_
      obtain ⟨h_1, hf⟩ := hf
      refine g_jald F hB 1 rfl h_1 dX12_isName_35 ?_
      refine W.lcmp hx hb dX12_isName_36 ?_
      refine lv_if_eq (tgt := 44) hx hb dX12_isName_37 (by decide) (fun c_2 => ?_) (fun c_2 => ?_)
      · replace hf := hf.1 c_2
        refine lv_iconst (v := 0) hx hb dX12_isName_44 (by decide) ?_
        refine lv_istore_n (lv' := [(1, .int (0 : Int32)), (0, .ref a_t), (2, .int x2)]) hx hb dX12_isName_45 rfl hl (by decide) rfl (fun ls hl => ?_)
        refine lv_iinc (v := (x2 + 1)) (lv' := [(2, .int (x2 + 1)), (1, .int (0 : Int32)), (0, .ref a_t)]) (k := 2) hx hb dX12_isName_46 hl rfl rfl (by decide) rfl (fun ls hl => ?_)
        refine lv_goto (tgt := 16) hx hb dX12_isName_49 (by decide) ?_
        exact hkr_16 _ _ _ _ _ hf hB (lv_sub hl [2, 1, 0] rfl)
      · replace hf := hf.2 c_2
        refine lv_iconst (v := 1) hx hb dX12_isName_40 (by decide) ?_
        refine lv_goto (tgt := 45) hx hb dX12_isName_41 (by decide) ?_
        refine lv_istore_n (lv' := [(1, .int (1 : Int32)), (0, .ref a_t), (2, .int x2)]) hx hb dX12_isName_45 rfl hl (by decide) rfl (fun ls hl => ?_)
        refine lv_iinc (v := (x2 + 1)) (lv' := [(2, .int (x2 + 1)), (1, .int (1 : Int32)), (0, .ref a_t)]) (k := 2) hx hb dX12_isName_46 hl rfl rfl (by decide) rfl (fun ls hl => ?_)
        refine lv_goto (tgt := 16) hx hb dX12_isName_49 (by decide) ?_
        exact hkr_16 _ _ _ _ _ hf hB (lv_sub hl [2, 1, 0] rfl)

set_option maxRecDepth 100000 in
set_option maxHeartbeats 4000000 in
theorem lt_LongTrainModel_isName_16 {p : Program} {l : Launch} {e : Env} {s : State} {m : MethodId} {below : List Frame} {meth : Method} {c : Code} {A : Nat → Prop} {D : va_G} {k : Nat → ClassId} {a_t : Nat} {d_t : Nat → Nat} {i_t : Nat → Int32} {j_t : Nat → Int64} {r_t_reserved : Nat → Int64}  {Q : Int32 → Prop}  {kx_16 : (Int32) → Prop} (F : Fx p m c cX12_isName 3 s ([.ref a_t] : List Value).toArray RX12 D k) (hr : meth.sig.returnType = (some .boolean)) (hlk : meth.locks = false) (hA : ∀ q : Nat, s.heap.size ≤ q → A q) (hkx_16 : ∀ (x1 : Int32) (H : Heap) (locs : List Loc) (ls : Array Slot), kx_16 x1 → Bd D A s.heap (wd_LongTrainModel_isName k a_t d_t i_t j_t r_t_reserved) H locs → lv_has ls 3 [(1, .int x1)] → W p l e { frames := 0, cells := 0, slots := 0, locals := 0 } s m ([.ref a_t] : List Value).toArray below meth c H locs 0 0 (Ei below (fun r w => (r = 0 ∨ r = 1) ∧ (w = (wd_LongTrainModel_isName k a_t d_t i_t j_t r_t_reserved) ∧ Q r)) D k A ([.ref a_t] : List Value).toArray s 0 0) (F0 m 52 ls [])) :
    ∀ n : Nat, ∀ (x1 : Int32) (x2 : Int32) (H : Heap) (locs : List Loc) (ls : Array Slot), lp_LongTrainModel_isName_16 j_t r_t_reserved kx_16 n x1 x2 → Bd D A s.heap (wd_LongTrainModel_isName k a_t d_t i_t j_t r_t_reserved) H locs → lv_has ls 3 [(0, .ref a_t), (1, .int x1), (2, .int x2)] → W p l e { frames := 0, cells := 0, slots := 0, locals := 0 } s m ([.ref a_t] : List Value).toArray below meth c H locs 0 0 (Ei below (fun r w => (r = 0 ∨ r = 1) ∧ (w = (wd_LongTrainModel_isName k a_t d_t i_t j_t r_t_reserved) ∧ Q r)) D k A ([.ref a_t] : List Value).toArray s 0 0) (F0 m 16 ls []) := by
  intro n
  induction n with
  | zero => intro x1 x2 H locs ls hf; exact absurd hf (fun h => h)
  | succ n ih => exact bt_LongTrainModel_isName_16 F hr hlk hA hkx_16 ih

set_option maxRecDepth 100000 in
set_option maxHeartbeats 4000000 in
theorem jt_LongTrainModel_isName_13 {p : Program} {l : Launch} {e : Env} {s : State} {m : MethodId} {below : List Frame} {meth : Method} {c : Code} {A : Nat → Prop} {D : va_G} {k : Nat → ClassId} {a_t : Nat} {d_t : Nat → Nat} {i_t : Nat → Int32} {j_t : Nat → Int64} {r_t_reserved : Nat → Int64}  {Q : Int32 → Prop}  (F : Fx p m c cX12_isName 3 s ([.ref a_t] : List Value).toArray RX12 D k) (hr : meth.sig.returnType = (some .boolean)) (hlk : meth.locks = false) (hA : ∀ q : Nat, s.heap.size ≤ q → A q) :
    ∀ (y0 : Int32) (H : Heap) (locs : List Loc) (ls : Array Slot), j_LongTrainModel_isName_13 j_t r_t_reserved y0 Q → Bd D A s.heap (wd_LongTrainModel_isName k a_t d_t i_t j_t r_t_reserved) H locs → lv_has ls 3 [(0, .ref a_t)] → W p l e { frames := 0, cells := 0, slots := 0, locals := 0 } s m ([.ref a_t] : List Value).toArray below meth c H locs 0 0 (Ei below (fun r w => (r = 0 ∨ r = 1) ∧ (w = (wd_LongTrainModel_isName k a_t d_t i_t j_t r_t_reserved) ∧ Q r)) D k A ([.ref a_t] : List Value).toArray s 0 0) (F0 m 13 ls [.int y0]) := by
  have hx := F.x
  have hb := F.b
  intro y0 H locs ls hf hB hl
  unfold j_LongTrainModel_isName_13 at hf
  refine lv_istore_n (lv' := [(1, .int y0), (0, .ref a_t)]) hx hb dX12_isName_13 rfl hl (by decide) rfl (fun ls hl => ?_)
  refine lv_iconst (v := 0) hx hb dX12_isName_14 (by decide) ?_
  refine lv_istore_n (lv' := [(2, .int (0 : Int32)), (1, .int y0), (0, .ref a_t)]) hx hb dX12_isName_15 rfl hl (by decide) rfl (fun ls hl => ?_)
  obtain ⟨n_7, hf⟩ := hf
  refine lt_LongTrainModel_isName_16 F hr hlk hA (fun x1_5 H locs ls hf hB hl => ?_) n_7 _ _ _ _ _ hf hB (lv_sub hl [2, 1, 0] rfl)
  refine lv_iload_n hx hb dX12_isName_52 rfl (lv_at hl 0 rfl) ?_
  obtain ⟨h_6, hf⟩ := hf
  exact r_z F hr hlk hB h_6 ⟨h_6, rfl, hf⟩ dX12_isName_53

set_option maxRecDepth 100000 in
set_option maxHeartbeats 4000000 in
theorem c_LongTrainModel_isName (l : Launch) (D : va_G) (k : Nat → ClassId) (a_t : Nat) (d_t : Nat → Nat) (i_t : Nat → Int32) (j_t : Nat → Int64) (r_t_reserved : Nat → Int64)  (Q : Int32 → Prop)  (hf : w_LongTrainModel_isName i_t j_t r_t_reserved Q) : CtI l yX12_isName cX12_isName 3 (some .boolean) 0 0 0 0 D k [.ref a_t] (wd_LongTrainModel_isName k a_t d_t i_t j_t r_t_reserved) (fun r w => (r = 0 ∨ r = 1) ∧ (w = (wd_LongTrainModel_isName k a_t d_t i_t j_t r_t_reserved) ∧ Q r)) := by
  refine CtI.of (by decide) (Nat.le_of_ble_eq_true rfl) ?_
  intro p e s m below meth c A F hr hlk hnm hA hB ls hl
  have hx := F.x
  have hb := F.b
  unfold w_LongTrainModel_isName at hf
  replace hl : lv_has ls 3 [(0, .ref a_t)] := hl
  refine lv_aload_n hx hb dX12_isName_0 rfl (lv_at hl 0 rfl) ?_
  refine g_get (w := .int (i_t 11)) F hB 0 rfl fl_RX12_150 rfl dX12_isName_1 ?_
  refine lv_iconst (v := 1) hx hb dX12_isName_4 (by decide) ?_
  refine lv_icmp_ne (tgt := 12) hx hb dX12_isName_5 (by decide) (fun c_8 => ?_) (fun c_8 => ?_)
  · replace hf := hf.1 c_8
    refine lv_iconst (v := 0) hx hb dX12_isName_12 (by decide) ?_
    exact jt_LongTrainModel_isName_13 F hr hlk hA _ _ _ _ hf hB (lv_sub hl [0] rfl)
  · replace hf := hf.2 c_8
    refine lv_iconst (v := 1) hx hb dX12_isName_8 (by decide) ?_
    refine lv_goto (tgt := 13) hx hb dX12_isName_9 (by decide) ?_
    exact jt_LongTrainModel_isName_13 F hr hlk hA _ _ _ _ hf hB (lv_sub hl [0] rfl)

/-! LongTrainModel.takes -/
set_option maxRecDepth 100000 in
set_option maxHeartbeats 4000000 in
theorem c_LongTrainModel_takes (l : Launch) (D : va_G) (k : Nat → ClassId) (a_t : Nat) (d_t : Nat → Nat) (i_t : Nat → Int32) (j_t : Nat → Int64) (r_t_tape : Nat → Int32) (n1 : Int32) (n2 : Int32) (Q : Int32 → (Nat → Int32) → (Nat → Int64) → Prop)  (hf : w_LongTrainModel_takes i_t j_t r_t_tape n1 n2 Q) : CtI l yX12_takes cX12_takes 3 (some .boolean) 2 43 0 0 D k [.ref a_t, .int n1, .int n2] (wd_LongTrainModel_takes k a_t d_t i_t j_t r_t_tape) (fun r w => (r = 0 ∨ r = 1) ∧ (∃ (i_t : Nat → Int32), ∃ (j_t : Nat → Int64), w = (wd_LongTrainModel_takes k a_t d_t i_t j_t r_t_tape) ∧ Q r i_t j_t)) := by
  refine CtI.of (by decide) (Nat.le_of_ble_eq_true rfl) ?_
  intro p e s m below meth c A F hr hlk hnm hA hB ls hl
  have hx := F.x
  have hb := F.b
  unfold w_LongTrainModel_takes at hf
  replace hl : lv_has ls 3 [(0, .ref a_t), (1, .int n1), (2, .int n2)] := hl
  refine lv_aload_n hx hb dX12_takes_0 rfl (lv_at hl 0 rfl) ?_
  refine g_get (w := .int (i_t 11)) F hB 0 rfl fl_RX12_150 rfl dX12_takes_1 ?_
  refine lv_iconst (v := 2) hx hb dX12_takes_4 (by decide) ?_
  refine lv_icmp_eq (tgt := 14) hx hb dX12_takes_5 (by decide) (fun c_12 => ?_) (fun c_12 => ?_)
  · replace hf := hf.1 c_12
    refine lv_aload_n hx hb dX12_takes_14 rfl (lv_at hl 0 rfl) ?_
    refine g_get (w := .int (i_t 14)) F hB 0 rfl fl_RX12_160 rfl dX12_takes_15 ?_
    refine lv_iload_n hx hb dX12_takes_18 rfl (lv_at hl 1 rfl) ?_
    refine lv_iload_n hx hb dX12_takes_19 rfl (lv_at hl 2 rfl) ?_
    refine k_si (wr := [(a_t, ob 12 (rfd d_t) i_t j_t), ((d_t 1), ab k 940 r_t_tape)]) (rest := []) F hA hB (c_LongTrainModel_isIn l D k (i_t 14) n1 n2 _  hf) ml_RX12_182 ms_yX12_isIn [] [0, 1] rfl rfl (by decide) (by decide) (by decide) rfl hl.1 rfl (Nat.le_of_ble_eq_true rfl) ⟨Nat.le_of_ble_eq_true rfl, Nat.le_of_ble_eq_true rfl⟩ ⟨Nat.le_of_ble_eq_true rfl, Nat.le_of_ble_eq_true rfl⟩ dX12_takes_20 (fun z_1 w1 H locs hq hB => ?_)
    obtain ⟨h_2, rfl, hf⟩ := hq
    replace hB : Bd D A s.heap (wd_LongTrainModel_takes k a_t d_t i_t j_t r_t_tape) H locs := hB.sub [0, 1] (by decide) rfl
    refine lv_if_ne (tgt := 32) hx hb dX12_takes_23 (by decide) (fun c_8 => ?_) (fun c_8 => ?_)
    · replace hf := hf.1 c_8
      refine lv_aload_n hx hb dX12_takes_32 rfl (lv_at hl 0 rfl) ?_
      refine lv_aload_n hx hb dX12_takes_33 rfl (lv_at hl 0 rfl) ?_
      refine g_get (w := .int (i_t 14)) F hB 0 rfl fl_RX12_160 rfl dX12_takes_34 ?_
      refine g_puti F hB 0 rfl fl_RX12_186 rfl (wd_LongTrainModel_takes k a_t d_t (upd i_t 18 (i_t 14)) j_t r_t_tape) rfl dX12_takes_37 (fun H locs hB => ?_)
      refine lv_aload_n hx hb dX12_takes_40 rfl (lv_at hl 0 rfl) ?_
      refine k_vv (wr := []) (rest := []) F hA hB (c_LongTrainModel_next l D k a_t d_t (upd i_t 18 (i_t 14)) j_t r_t_tape _  hf) ml_RX12_179 mv_yX12_next [0, 1] [] rfl rfl (by decide) (by decide) (by decide) 0 rfl rfl rfl hl.1 rfl (Nat.le_of_ble_eq_true rfl) ⟨Nat.le_of_ble_eq_true rfl, Nat.le_of_ble_eq_true rfl⟩ ⟨Nat.le_of_ble_eq_true rfl, Nat.le_of_ble_eq_true rfl⟩ dX12_takes_41 (fun w1 H locs hq hB => ?_)
      obtain ⟨i_t_3, j_t_4, rfl, hf⟩ := hq
      replace hB : Bd D A s.heap (wd_LongTrainModel_takes k a_t d_t i_t_3 j_t_4 r_t_tape) H locs := hB.sub [0, 1] (by decide) rfl
      refine lv_iconst (v := 1) hx hb dX12_takes_44 (by decide) ?_
      exact r_z F hr hlk hB (Or.inr rfl) ⟨Or.inr rfl, _, _, rfl, hf⟩ dX12_takes_45
    · replace hf := hf.2 c_8
      refine lv_aload_n hx hb dX12_takes_26 rfl (lv_at hl 0 rfl) ?_
      refine lv_iconst (v := 2) hx hb dX12_takes_27 (by decide) ?_
      refine k_vi (wr := [((d_t 1), ab k 940 r_t_tape)]) (rest := []) F hA hB (c_LongTrainModel_bad l D k a_t d_t i_t j_t (2 : Int32) _  hf) ml_RX12_176 mv_yX12_bad [0] [1] rfl rfl (by decide) (by decide) (by decide) 0 rfl rfl rfl hl.1 rfl (Nat.le_of_ble_eq_true rfl) ⟨Nat.le_of_ble_eq_true rfl, Nat.le_of_ble_eq_true rfl⟩ ⟨Nat.le_of_ble_eq_true rfl, Nat.le_of_ble_eq_true rfl⟩ dX12_takes_28 (fun z_6 w1 H locs hq hB => ?_)
      obtain ⟨h_7, i_t_5, rfl, hf⟩ := hq
      replace hB : Bd D A s.heap (wd_LongTrainModel_takes k a_t d_t i_t_5 j_t r_t_tape) H locs := hB.sub [1, 0] (by decide) rfl
      exact r_z F hr hlk hB (h_7) ⟨h_7, _, _, rfl, hf⟩ dX12_takes_31
  · replace hf := hf.2 c_12
    refine lv_aload_n hx hb dX12_takes_8 rfl (lv_at hl 0 rfl) ?_
    refine lv_iconst (v := 1) hx hb dX12_takes_9 (by decide) ?_
    refine k_vi (wr := [((d_t 1), ab k 940 r_t_tape)]) (rest := []) F hA hB (c_LongTrainModel_bad l D k a_t d_t i_t j_t (1 : Int32) _  hf) ml_RX12_176 mv_yX12_bad [0] [1] rfl rfl (by decide) (by decide) (by decide) 0 rfl rfl rfl hl.1 rfl (Nat.le_of_ble_eq_true rfl) ⟨Nat.le_of_ble_eq_true rfl, Nat.le_of_ble_eq_true rfl⟩ ⟨Nat.le_of_ble_eq_true rfl, Nat.le_of_ble_eq_true rfl⟩ dX12_takes_10 (fun z_10 w1 H locs hq hB => ?_)
    obtain ⟨h_11, i_t_9, rfl, hf⟩ := hq
    replace hB : Bd D A s.heap (wd_LongTrainModel_takes k a_t d_t i_t_9 j_t r_t_tape) H locs := hB.sub [1, 0] (by decide) rfl
    exact r_z F hr hlk hB (h_11) ⟨h_11, _, _, rfl, hf⟩ dX12_takes_13

/-! LongTrainModel.find -/
set_option maxRecDepth 100000 in
set_option maxHeartbeats 4000000 in
theorem bt_LongTrainModel_find_2 {p : Program} {l : Launch} {e : Env} {s : State} {m : MethodId} {below : List Frame} {meth : Method} {c : Code} {A : Nat → Prop} {D : va_G} {k : Nat → ClassId} {a_t : Nat} {d_t : Nat → Nat} {i_t : Nat → Int32} {j_t : Nat → Int64} {r_t_names : Nat → Int64} {n1 : Int32} {n2 : Int32} {Q : Int32 → Prop}  {x1 : Int32} {x2 : Int32} {kx_2 : Prop} {kr_2 : (Int32) → Prop} (F : Fx p m c cX12_find 4 s ([.ref a_t, .int n1, .int n2] : List Value).toArray RX12 D k) (hr : meth.sig.returnType = (some .int)) (hlk : meth.locks = false) (hA : ∀ q : Nat, s.heap.size ≤ q → A q) (hkx_2 : ∀ (H : Heap) (locs : List Loc) (ls : Array Slot), kx_2 → Bd D A s.heap (wd_LongTrainModel_find k a_t d_t i_t j_t r_t_names) H locs → lv_has ls 4 [] → W p l e { frames := 0, cells := 0, slots := 0, locals := 0 } s m ([.ref a_t, .int n1, .int n2] : List Value).toArray below meth c H locs 0 0 (Ei below (fun r w => w = (wd_LongTrainModel_find k a_t d_t i_t j_t r_t_names) ∧ Q r) D k A ([.ref a_t, .int n1, .int n2] : List Value).toArray s 0 0) (F0 m 31 ls [])) (hkr_2 : ∀ (x3 : Int32) (H : Heap) (locs : List Loc) (ls : Array Slot), kr_2 x3 → Bd D A s.heap (wd_LongTrainModel_find k a_t d_t i_t j_t r_t_names) H locs → lv_has ls 4 [(0, .ref a_t), (1, .int x1), (2, .int x2), (3, .int x3)] → W p l e { frames := 0, cells := 0, slots := 0, locals := 0 } s m ([.ref a_t, .int n1, .int n2] : List Value).toArray below meth c H locs 0 0 (Ei below (fun r w => w = (wd_LongTrainModel_find k a_t d_t i_t j_t r_t_names) ∧ Q r) D k A ([.ref a_t, .int n1, .int n2] : List Value).toArray s 0 0) (F0 m 2 ls [])) :
    ∀ (x3 : Int32) (H : Heap) (locs : List Loc) (ls : Array Slot), b_LongTrainModel_find_2 j_t r_t_names x1 x2 Q kx_2 kr_2 x3 → Bd D A s.heap (wd_LongTrainModel_find k a_t d_t i_t j_t r_t_names) H locs → lv_has ls 4 [(0, .ref a_t), (1, .int x1), (2, .int x2), (3, .int x3)] → W p l e { frames := 0, cells := 0, slots := 0, locals := 0 } s m ([.ref a_t, .int n1, .int n2] : List Value).toArray below meth c H locs 0 0 (Ei below (fun r w => w = (wd_LongTrainModel_find k a_t d_t i_t j_t r_t_names) ∧ Q r) D k A ([.ref a_t, .int n1, .int n2] : List Value).toArray s 0 0) (F0 m 2 ls []) := by
  have hx := F.x
  have hb := F.b
  intro x3 H locs ls hf hB hl
  unfold b_LongTrainModel_find_2 at hf
  refine lv_iload_n hx hb dX12_find_2 rfl (lv_at hl 3 rfl) ?_
  refine lv_iload_n hx hb dX12_find_3 rfl (lv_at hl 2 rfl) ?_
  refine lv_icmp_ge (tgt := 31) hx hb dX12_find_4 (by decide) (fun c_3 => ?_) (fun c_3 => ?_)
  · replace hf := hf.1 c_3
    exact hkx_2  _ _ _ hf hB (lv_sub hl [] rfl)
  · replace hf := hf.2 c_3
    refine lv_aload_n hx hb dX12_find_7 rfl (lv_at hl 0 rfl) ?_
    refine g_get (w := .ref (d_t 9)) F hB 0 rfl fl_RX12_43 rfl dX12_find_8 ?_
    refine lv_iload_n hx hb dX12_find_11 rfl (lv_at hl 1 rfl) ?_
    refine lv_iload_n hx hb dX12_find_12 rfl (lv_at hl 3 rfl) ?_
    refine lv_iadd hx hb dX12_find_13 ?_
    obtain ⟨h_1, hf⟩ := hf
    refine g_jald F hB 1 rfl h_1 dX12_find_14 ?_
    refine lv_aload_n hx hb dX12_find_15 rfl (lv_at hl 0 rfl) ?_
    refine g_get (w := .long (j_t 17)) F hB 0 rfl fl_RX12_163 rfl dX12_find_16 ?_
    refine W.lcmp hx hb dX12_find_19 ?_
    refine lv_if_ne (tgt := 25) hx hb dX12_find_20 (by decide) (fun c_2 => ?_) (fun c_2 => ?_)
    · replace hf := hf.1 c_2
      refine lv_iinc (v := (x3 + 1)) (lv' := [(3, .int (x3 + 1)), (0, .ref a_t), (1, .int x1), (2, .int x2)]) (k := 3) hx hb dX12_find_25 hl rfl rfl (by decide) rfl (fun ls hl => ?_)
      refine lv_goto (tgt := 2) hx hb dX12_find_28 (by decide) ?_
      exact hkr_2 _ _ _ _ hf hB (lv_sub hl [1, 2, 3, 0] rfl)
    · replace hf := hf.2 c_2
      refine lv_iload_n hx hb dX12_find_23 rfl (lv_at hl 3 rfl) ?_
      exact r_i F hr hlk hB ⟨rfl, hf⟩ dX12_find_24

set_option maxRecDepth 100000 in
set_option maxHeartbeats 4000000 in
theorem lt_LongTrainModel_find_2 {p : Program} {l : Launch} {e : Env} {s : State} {m : MethodId} {below : List Frame} {meth : Method} {c : Code} {A : Nat → Prop} {D : va_G} {k : Nat → ClassId} {a_t : Nat} {d_t : Nat → Nat} {i_t : Nat → Int32} {j_t : Nat → Int64} {r_t_names : Nat → Int64} {n1 : Int32} {n2 : Int32} {Q : Int32 → Prop}  {x1 : Int32} {x2 : Int32} {kx_2 : Prop} (F : Fx p m c cX12_find 4 s ([.ref a_t, .int n1, .int n2] : List Value).toArray RX12 D k) (hr : meth.sig.returnType = (some .int)) (hlk : meth.locks = false) (hA : ∀ q : Nat, s.heap.size ≤ q → A q) (hkx_2 : ∀ (H : Heap) (locs : List Loc) (ls : Array Slot), kx_2 → Bd D A s.heap (wd_LongTrainModel_find k a_t d_t i_t j_t r_t_names) H locs → lv_has ls 4 [] → W p l e { frames := 0, cells := 0, slots := 0, locals := 0 } s m ([.ref a_t, .int n1, .int n2] : List Value).toArray below meth c H locs 0 0 (Ei below (fun r w => w = (wd_LongTrainModel_find k a_t d_t i_t j_t r_t_names) ∧ Q r) D k A ([.ref a_t, .int n1, .int n2] : List Value).toArray s 0 0) (F0 m 31 ls [])) :
    ∀ n : Nat, ∀ (x3 : Int32) (H : Heap) (locs : List Loc) (ls : Array Slot), lp_LongTrainModel_find_2 j_t r_t_names x1 x2 Q kx_2 n x3 → Bd D A s.heap (wd_LongTrainModel_find k a_t d_t i_t j_t r_t_names) H locs → lv_has ls 4 [(0, .ref a_t), (1, .int x1), (2, .int x2), (3, .int x3)] → W p l e { frames := 0, cells := 0, slots := 0, locals := 0 } s m ([.ref a_t, .int n1, .int n2] : List Value).toArray below meth c H locs 0 0 (Ei below (fun r w => w = (wd_LongTrainModel_find k a_t d_t i_t j_t r_t_names) ∧ Q r) D k A ([.ref a_t, .int n1, .int n2] : List Value).toArray s 0 0) (F0 m 2 ls []) := by
  intro n
  induction n with
  | zero => intro x3 H locs ls hf; exact absurd hf (fun h => h)
  | succ n ih => exact bt_LongTrainModel_find_2 F hr hlk hA hkx_2 ih

set_option maxRecDepth 100000 in
set_option maxHeartbeats 4000000 in
theorem c_LongTrainModel_find (l : Launch) (D : va_G) (k : Nat → ClassId) (a_t : Nat) (d_t : Nat → Nat) (i_t : Nat → Int32) (j_t : Nat → Int64) (r_t_names : Nat → Int64) (n1 : Int32) (n2 : Int32) (Q : Int32 → Prop)  (hf : w_LongTrainModel_find j_t r_t_names n1 n2 Q) : CtI l yX12_find cX12_find 4 (some .int) 0 0 0 0 D k [.ref a_t, .int n1, .int n2] (wd_LongTrainModel_find k a_t d_t i_t j_t r_t_names) (fun r w => w = (wd_LongTrainModel_find k a_t d_t i_t j_t r_t_names) ∧ Q r) := by
  refine CtI.of (by decide) (Nat.le_of_ble_eq_true rfl) ?_
  intro p e s m below meth c A F hr hlk hnm hA hB ls hl
  have hx := F.x
  have hb := F.b
  unfold w_LongTrainModel_find at hf
  replace hl : lv_has ls 4 [(0, .ref a_t), (1, .int n1), (2, .int n2)] := hl
  refine lv_iconst (v := 0) hx hb dX12_find_0 (by decide) ?_
  refine lv_istore_n (lv' := [(3, .int (0 : Int32)), (0, .ref a_t), (1, .int n1), (2, .int n2)]) hx hb dX12_find_1 rfl hl (by decide) rfl (fun ls hl => ?_)
  obtain ⟨n_4, hf⟩ := hf
  refine lt_LongTrainModel_find_2 F hr hlk hA (fun  H locs ls hf hB hl => ?_) n_4 _ _ _ _ hf hB (lv_sub hl [1, 2, 3, 0] rfl)
  refine lv_iconst (v := -1) hx hb dX12_find_31 (by decide) ?_
  exact r_i F hr hlk hB ⟨rfl, hf⟩ dX12_find_32

/-! LongTrainModel.fresh -/
set_option maxRecDepth 100000 in
set_option maxHeartbeats 4000000 in
theorem c_LongTrainModel_fresh (l : Launch) (D : va_G) (k : Nat → ClassId) (a_t : Nat) (d_t : Nat → Nat) (i_t : Nat → Int32) (j_t : Nat → Int64) (r_t_reserved : Nat → Int64) (r_t_h : Nat → Int32) (r_t_names : Nat → Int64) (r_t_tape : Nat → Int32) (n1 : Int32) (Q : Int32 → (Nat → Int32) → (Nat → Int64) → (Nat → Int64) → Prop)  (hf : w_LongTrainModel_fresh i_t j_t r_t_reserved r_t_h r_t_names r_t_tape n1 Q) : CtI l yX12_fresh cX12_fresh 2 (some .boolean) 2 43 0 0 D k [.ref a_t, .int n1] (wd_LongTrainModel_fresh k a_t d_t i_t j_t r_t_reserved r_t_h r_t_names r_t_tape) (fun r w => (r = 0 ∨ r = 1) ∧ (∃ (i_t : Nat → Int32), ∃ (j_t : Nat → Int64), ∃ (r_t_names : Nat → Int64), w = (wd_LongTrainModel_fresh k a_t d_t i_t j_t r_t_reserved r_t_h r_t_names r_t_tape) ∧ Q r i_t j_t r_t_names)) := by
  refine CtI.of (by decide) (Nat.le_of_ble_eq_true rfl) ?_
  intro p e s m below meth c A F hr hlk hnm hA hB ls hl
  have hx := F.x
  have hb := F.b
  unfold w_LongTrainModel_fresh at hf
  replace hl : lv_has ls 2 [(0, .ref a_t), (1, .int n1)] := hl
  refine lv_aload_n hx hb dX12_fresh_0 rfl (lv_at hl 0 rfl) ?_
  refine k_vi (wr := [((d_t 7), ai k 483 r_t_h), ((d_t 9), aj k 32 r_t_names), ((d_t 1), ab k 940 r_t_tape)]) (rest := []) F hA hB (c_LongTrainModel_isName l D k a_t d_t i_t j_t r_t_reserved _  hf) ml_RX12_189 mv_yX12_isName [0, 1] [2, 3, 4] rfl rfl (by decide) (by decide) (by decide) 0 rfl rfl rfl hl.1 rfl (Nat.le_of_ble_eq_true rfl) ⟨Nat.le_of_ble_eq_true rfl, Nat.le_of_ble_eq_true rfl⟩ ⟨Nat.le_of_ble_eq_true rfl, Nat.le_of_ble_eq_true rfl⟩ dX12_fresh_1 (fun z_1 w1 H locs hq hB => ?_)
  obtain ⟨h_2, rfl, hf⟩ := hq
  replace hB : Bd D A s.heap (wd_LongTrainModel_fresh k a_t d_t i_t j_t r_t_reserved r_t_h r_t_names r_t_tape) H locs := hB.sub [3, 4, 0, 1, 2] (by decide) rfl
  refine lv_if_ne (tgt := 13) hx hb dX12_fresh_4 (by decide) (fun c_21 => ?_) (fun c_21 => ?_)
  · replace hf := hf.1 c_21
    refine lv_aload_n hx hb dX12_fresh_13 rfl (lv_at hl 0 rfl) ?_
    refine lv_bipush (v := 16) hx hb dX12_fresh_14 (by decide) ?_
    refine lv_aload_n hx hb dX12_fresh_16 rfl (lv_at hl 0 rfl) ?_
    refine g_get (w := .ref (d_t 7)) F hB 0 rfl fl_RX12_37 rfl dX12_fresh_17 ?_
    refine lv_iconst (v := 1) hx hb dX12_fresh_20 (by decide) ?_
    refine g_iald F hB 2 rfl (vp_in_iff.mpr (by decide +kernel)) dX12_fresh_21 ?_
    refine W.eq (g2 := F0 m 22 ls [.int (r_t_h 1), .int (16 : Int32), .ref a_t]) rfl ?_
    refine k_vi (wr := [((d_t 10), aj k 16 r_t_reserved), ((d_t 7), ai k 483 r_t_h), ((d_t 1), ab k 940 r_t_tape)]) (rest := []) F hA hB (c_LongTrainModel_find l D k a_t d_t i_t j_t r_t_names (16 : Int32) (r_t_h 1) _  hf) ml_RX12_193 mv_yX12_find [0, 3] [1, 2, 4] rfl rfl (by decide) (by decide) (by decide) 0 rfl rfl rfl hl.1 rfl (Nat.le_of_ble_eq_true rfl) ⟨Nat.le_of_ble_eq_true rfl, Nat.le_of_ble_eq_true rfl⟩ ⟨Nat.le_of_ble_eq_true rfl, Nat.le_of_ble_eq_true rfl⟩ dX12_fresh_22 (fun z_4 w1 H locs hq hB => ?_)
    obtain ⟨rfl, hf⟩ := hq
    replace hB : Bd D A s.heap (wd_LongTrainModel_fresh k a_t d_t i_t j_t r_t_reserved r_t_h r_t_names r_t_tape) H locs := hB.sub [3, 0, 1, 4, 2] (by decide) rfl
    refine lv_if_ge (tgt := 43) hx hb dX12_fresh_25 (by decide) (fun c_17 => ?_) (fun c_17 => ?_)
    · replace hf := hf.1 c_17
      refine lv_aload_n hx hb dX12_fresh_43 rfl (lv_at hl 0 rfl) ?_
      refine lv_iconst (v := 3) hx hb dX12_fresh_44 (by decide) ?_
      refine k_vi (wr := [((d_t 10), aj k 16 r_t_reserved), ((d_t 7), ai k 483 r_t_h), ((d_t 9), aj k 32 r_t_names), ((d_t 1), ab k 940 r_t_tape)]) (rest := []) F hA hB (c_LongTrainModel_bad l D k a_t d_t i_t j_t (3 : Int32) _  hf) ml_RX12_176 mv_yX12_bad [0] [1, 2, 3, 4] rfl rfl (by decide) (by decide) (by decide) 0 rfl rfl rfl hl.1 rfl (Nat.le_of_ble_eq_true rfl) ⟨Nat.le_of_ble_eq_true rfl, Nat.le_of_ble_eq_true rfl⟩ ⟨Nat.le_of_ble_eq_true rfl, Nat.le_of_ble_eq_true rfl⟩ dX12_fresh_45 (fun z_6 w1 H locs hq hB => ?_)
      obtain ⟨h_7, i_t_5, rfl, hf⟩ := hq
      replace hB : Bd D A s.heap (wd_LongTrainModel_fresh k a_t d_t i_t_5 j_t r_t_reserved r_t_h r_t_names r_t_tape) H locs := hB.sub [4, 0, 1, 2, 3] (by decide) rfl
      exact r_z F hr hlk hB (h_7) ⟨h_7, _, _, _, rfl, hf⟩ dX12_fresh_48
    · replace hf := hf.2 c_17
      refine lv_aload_n hx hb dX12_fresh_28 rfl (lv_at hl 0 rfl) ?_
      refine lv_bipush (v := 26) hx hb dX12_fresh_29 (by decide) ?_
      refine lv_aload_n hx hb dX12_fresh_31 rfl (lv_at hl 0 rfl) ?_
      refine g_get (w := .ref (d_t 7)) F hB 0 rfl fl_RX12_37 rfl dX12_fresh_32 ?_
      refine lv_iconst (v := 3) hx hb dX12_fresh_35 (by decide) ?_
      refine g_iald F hB 2 rfl (vp_in_iff.mpr (by decide +kernel)) dX12_fresh_36 ?_
      refine W.eq (g2 := F0 m 37 ls [.int (r_t_h 3), .int (26 : Int32), .ref a_t]) rfl ?_
      refine k_vi (wr := [((d_t 10), aj k 16 r_t_reserved), ((d_t 7), ai k 483 r_t_h), ((d_t 1), ab k 940 r_t_tape)]) (rest := []) F hA hB (c_LongTrainModel_find l D k a_t d_t i_t j_t r_t_names (26 : Int32) (r_t_h 3) _  hf) ml_RX12_193 mv_yX12_find [0, 3] [1, 2, 4] rfl rfl (by decide) (by decide) (by decide) 0 rfl rfl rfl hl.1 rfl (Nat.le_of_ble_eq_true rfl) ⟨Nat.le_of_ble_eq_true rfl, Nat.le_of_ble_eq_true rfl⟩ ⟨Nat.le_of_ble_eq_true rfl, Nat.le_of_ble_eq_true rfl⟩ dX12_fresh_37 (fun z_9 w1 H locs hq hB => ?_)
      obtain ⟨rfl, hf⟩ := hq
      replace hB : Bd D A s.heap (wd_LongTrainModel_fresh k a_t d_t i_t j_t r_t_reserved r_t_h r_t_names r_t_tape) H locs := hB.sub [3, 0, 1, 4, 2] (by decide) rfl
      refine lv_if_lt (tgt := 49) hx hb dX12_fresh_40 (by decide) (fun c_16 => ?_) (fun c_16 => ?_)
      · replace hf := hf.1 c_16
        refine lv_aload_n hx hb dX12_fresh_49 rfl (lv_at hl 0 rfl) ?_
        refine g_get (w := .ref (d_t 9)) F hB 0 rfl fl_RX12_43 rfl dX12_fresh_50 ?_
        refine lv_iload_n hx hb dX12_fresh_53 rfl (lv_at hl 1 rfl) ?_
        refine lv_aload_n hx hb dX12_fresh_54 rfl (lv_at hl 0 rfl) ?_
        refine g_get (w := .long (j_t 17)) F hB 0 rfl fl_RX12_163 rfl dX12_fresh_55 ?_
        obtain ⟨h_10, hf⟩ := hf
        refine g_jast F hB 3 rfl h_10 (wd_LongTrainModel_fresh k a_t d_t i_t j_t r_t_reserved r_t_h (vp_updL r_t_names (n1).toNatClampNeg (j_t 17)) r_t_tape) rfl dX12_fresh_58 (fun H locs hB => ?_)
        refine lv_aload_n hx hb dX12_fresh_59 rfl (lv_at hl 0 rfl) ?_
        refine k_vv (wr := [((d_t 10), aj k 16 r_t_reserved), ((d_t 7), ai k 483 r_t_h), ((d_t 9), aj k 32 (vp_updL r_t_names (n1).toNatClampNeg (j_t 17)))]) (rest := []) F hA hB (c_LongTrainModel_next l D k a_t d_t i_t j_t r_t_tape _  hf) ml_RX12_179 mv_yX12_next [0, 4] [1, 2, 3] rfl rfl (by decide) (by decide) (by decide) 0 rfl rfl rfl hl.1 rfl (Nat.le_of_ble_eq_true rfl) ⟨Nat.le_of_ble_eq_true rfl, Nat.le_of_ble_eq_true rfl⟩ ⟨Nat.le_of_ble_eq_true rfl, Nat.le_of_ble_eq_true rfl⟩ dX12_fresh_60 (fun w1 H locs hq hB => ?_)
        obtain ⟨i_t_11, j_t_12, rfl, hf⟩ := hq
        replace hB : Bd D A s.heap (wd_LongTrainModel_fresh k a_t d_t i_t_11 j_t_12 r_t_reserved r_t_h (vp_updL r_t_names (n1).toNatClampNeg (j_t 17)) r_t_tape) H locs := hB.sub [3, 0, 1, 2, 4] (by decide) rfl
        refine lv_iconst (v := 1) hx hb dX12_fresh_63 (by decide) ?_
        exact r_z F hr hlk hB (Or.inr rfl) ⟨Or.inr rfl, _, _, _, rfl, hf⟩ dX12_fresh_64
      · replace hf := hf.2 c_16
        refine lv_aload_n hx hb dX12_fresh_43 rfl (lv_at hl 0 rfl) ?_
        refine lv_iconst (v := 3) hx hb dX12_fresh_44 (by decide) ?_
        refine k_vi (wr := [((d_t 10), aj k 16 r_t_reserved), ((d_t 7), ai k 483 r_t_h), ((d_t 9), aj k 32 r_t_names), ((d_t 1), ab k 940 r_t_tape)]) (rest := []) F hA hB (c_LongTrainModel_bad l D k a_t d_t i_t j_t (3 : Int32) _  hf) ml_RX12_176 mv_yX12_bad [0] [1, 2, 3, 4] rfl rfl (by decide) (by decide) (by decide) 0 rfl rfl rfl hl.1 rfl (Nat.le_of_ble_eq_true rfl) ⟨Nat.le_of_ble_eq_true rfl, Nat.le_of_ble_eq_true rfl⟩ ⟨Nat.le_of_ble_eq_true rfl, Nat.le_of_ble_eq_true rfl⟩ dX12_fresh_45 (fun z_14 w1 H locs hq hB => ?_)
        obtain ⟨h_15, i_t_13, rfl, hf⟩ := hq
        replace hB : Bd D A s.heap (wd_LongTrainModel_fresh k a_t d_t i_t_13 j_t r_t_reserved r_t_h r_t_names r_t_tape) H locs := hB.sub [4, 0, 1, 2, 3] (by decide) rfl
        exact r_z F hr hlk hB (h_15) ⟨h_15, _, _, _, rfl, hf⟩ dX12_fresh_48
  · replace hf := hf.2 c_21
    refine lv_aload_n hx hb dX12_fresh_7 rfl (lv_at hl 0 rfl) ?_
    refine lv_iconst (v := 1) hx hb dX12_fresh_8 (by decide) ?_
    refine k_vi (wr := [((d_t 10), aj k 16 r_t_reserved), ((d_t 7), ai k 483 r_t_h), ((d_t 9), aj k 32 r_t_names), ((d_t 1), ab k 940 r_t_tape)]) (rest := []) F hA hB (c_LongTrainModel_bad l D k a_t d_t i_t j_t (1 : Int32) _  hf) ml_RX12_176 mv_yX12_bad [0] [1, 2, 3, 4] rfl rfl (by decide) (by decide) (by decide) 0 rfl rfl rfl hl.1 rfl (Nat.le_of_ble_eq_true rfl) ⟨Nat.le_of_ble_eq_true rfl, Nat.le_of_ble_eq_true rfl⟩ ⟨Nat.le_of_ble_eq_true rfl, Nat.le_of_ble_eq_true rfl⟩ dX12_fresh_9 (fun z_19 w1 H locs hq hB => ?_)
    obtain ⟨h_20, i_t_18, rfl, hf⟩ := hq
    replace hB : Bd D A s.heap (wd_LongTrainModel_fresh k a_t d_t i_t_18 j_t r_t_reserved r_t_h r_t_names r_t_tape) H locs := hB.sub [4, 0, 1, 2, 3] (by decide) rfl
    exact r_z F hr hlk hB (h_20) ⟨h_20, _, _, _, rfl, hf⟩ dX12_fresh_12

/-! LongTrainModel.isOnce -/
set_option maxRecDepth 100000 in
set_option maxHeartbeats 4000000 in
theorem c_LongTrainModel_isOnce (l : Launch) (D : va_G) (k : Nat → ClassId) (a_t : Nat) (d_t : Nat → Nat) (i_t : Nat → Int32) (j_t : Nat → Int64) (r_t_tape : Nat → Int32) (n1 : Int32) (Q : Int32 → (Nat → Int32) → (Nat → Int64) → Prop)  (hf : w_LongTrainModel_isOnce i_t j_t r_t_tape n1 Q) : CtI l yX12_isOnce cX12_isOnce 2 (some .boolean) 2 43 0 0 D k [.ref a_t, .int n1] (wd_LongTrainModel_isOnce k a_t d_t i_t j_t r_t_tape) (fun r w => (r = 0 ∨ r = 1) ∧ (∃ (i_t : Nat → Int32), ∃ (j_t : Nat → Int64), w = (wd_LongTrainModel_isOnce k a_t d_t i_t j_t r_t_tape) ∧ Q r i_t j_t)) := by
  refine CtI.of (by decide) (Nat.le_of_ble_eq_true rfl) ?_
  intro p e s m below meth c A F hr hlk hnm hA hB ls hl
  have hx := F.x
  have hb := F.b
  unfold w_LongTrainModel_isOnce at hf
  replace hl : lv_has ls 2 [(0, .ref a_t), (1, .int n1)] := hl
  refine lv_aload_n hx hb dX12_isOnce_0 rfl (lv_at hl 0 rfl) ?_
  refine g_get (w := .int (i_t 21)) F hB 0 rfl fl_RX12_226 rfl dX12_isOnce_1 ?_
  refine lv_iload_n hx hb dX12_isOnce_4 rfl (lv_at hl 1 rfl) ?_
  refine k_si (wr := [(a_t, ob 12 (rfd d_t) i_t j_t), ((d_t 1), ab k 940 r_t_tape)]) (rest := []) F hA hB (c_LongTrainModel_has l D k (i_t 21) n1 _  hf) ml_RX12_229 ms_yX12_has [] [0, 1] rfl rfl (by decide) (by decide) (by decide) rfl hl.1 rfl (Nat.le_of_ble_eq_true rfl) ⟨Nat.le_of_ble_eq_true rfl, Nat.le_of_ble_eq_true rfl⟩ ⟨Nat.le_of_ble_eq_true rfl, Nat.le_of_ble_eq_true rfl⟩ dX12_isOnce_5 (fun z_1 w1 H locs hq hB => ?_)
  obtain ⟨h_2, rfl, hf⟩ := hq
  replace hB : Bd D A s.heap (wd_LongTrainModel_isOnce k a_t d_t i_t j_t r_t_tape) H locs := hB.sub [0, 1] (by decide) rfl
  refine lv_if_eq (tgt := 17) hx hb dX12_isOnce_8 (by decide) (fun c_8 => ?_) (fun c_8 => ?_)
  · replace hf := hf.1 c_8
    refine lv_aload_n hx hb dX12_isOnce_17 rfl (lv_at hl 0 rfl) ?_
    refine lv_dup hx hb dX12_isOnce_18 rfl ?_
    refine g_get (w := .int (i_t 21)) F hB 0 rfl fl_RX12_226 rfl dX12_isOnce_19 ?_
    refine lv_iconst (v := 1) hx hb dX12_isOnce_22 (by decide) ?_
    refine lv_iload_n hx hb dX12_isOnce_23 rfl (lv_at hl 1 rfl) ?_
    refine lv_ishl hx hb dX12_isOnce_24 ?_
    refine lv_ior hx hb dX12_isOnce_25 ?_
    refine g_puti F hB 0 rfl fl_RX12_226 rfl (wd_LongTrainModel_isOnce k a_t d_t (upd i_t 21 ((i_t 21) ||| ((1 : Int32) <<< (n1 &&& 31)))) j_t r_t_tape) rfl dX12_isOnce_26 (fun H locs hB => ?_)
    refine lv_aload_n hx hb dX12_isOnce_29 rfl (lv_at hl 0 rfl) ?_
    refine k_vv (wr := []) (rest := []) F hA hB (c_LongTrainModel_next l D k a_t d_t (upd i_t 21 ((i_t 21) ||| ((1 : Int32) <<< (n1 &&& 31)))) j_t r_t_tape _  hf) ml_RX12_179 mv_yX12_next [0, 1] [] rfl rfl (by decide) (by decide) (by decide) 0 rfl rfl rfl hl.1 rfl (Nat.le_of_ble_eq_true rfl) ⟨Nat.le_of_ble_eq_true rfl, Nat.le_of_ble_eq_true rfl⟩ ⟨Nat.le_of_ble_eq_true rfl, Nat.le_of_ble_eq_true rfl⟩ dX12_isOnce_30 (fun w1 H locs hq hB => ?_)
    obtain ⟨i_t_3, j_t_4, rfl, hf⟩ := hq
    replace hB : Bd D A s.heap (wd_LongTrainModel_isOnce k a_t d_t i_t_3 j_t_4 r_t_tape) H locs := hB.sub [0, 1] (by decide) rfl
    refine lv_iconst (v := 1) hx hb dX12_isOnce_33 (by decide) ?_
    exact r_z F hr hlk hB (Or.inr rfl) ⟨Or.inr rfl, _, _, rfl, hf⟩ dX12_isOnce_34
  · replace hf := hf.2 c_8
    refine lv_aload_n hx hb dX12_isOnce_11 rfl (lv_at hl 0 rfl) ?_
    refine lv_iconst (v := 3) hx hb dX12_isOnce_12 (by decide) ?_
    refine k_vi (wr := [((d_t 1), ab k 940 r_t_tape)]) (rest := []) F hA hB (c_LongTrainModel_bad l D k a_t d_t i_t j_t (3 : Int32) _  hf) ml_RX12_176 mv_yX12_bad [0] [1] rfl rfl (by decide) (by decide) (by decide) 0 rfl rfl rfl hl.1 rfl (Nat.le_of_ble_eq_true rfl) ⟨Nat.le_of_ble_eq_true rfl, Nat.le_of_ble_eq_true rfl⟩ ⟨Nat.le_of_ble_eq_true rfl, Nat.le_of_ble_eq_true rfl⟩ dX12_isOnce_13 (fun z_6 w1 H locs hq hB => ?_)
    obtain ⟨h_7, i_t_5, rfl, hf⟩ := hq
    replace hB : Bd D A s.heap (wd_LongTrainModel_isOnce k a_t d_t i_t_5 j_t r_t_tape) H locs := hB.sub [1, 0] (by decide) rfl
    exact r_z F hr hlk hB (h_7) ⟨h_7, _, _, rfl, hf⟩ dX12_isOnce_16

/-! LongTrainModel.keeps -/
set_option maxRecDepth 100000 in
set_option maxHeartbeats 4000000 in
theorem c_LongTrainModel_keeps (l : Launch) (D : va_G) (k : Nat → ClassId) (a_t : Nat) (d_t : Nat → Nat) (i_t : Nat → Int32) (j_t : Nat → Int64) (r_t_tape : Nat → Int32) (r_t_h : Nat → Int32) (n1 : Int32) (n2 : Int32) (n3 : Int32) (Q : Int32 → (Nat → Int32) → (Nat → Int64) → (Nat → Int32) → Prop)  (hf : w_LongTrainModel_keeps i_t j_t r_t_tape r_t_h n1 n2 n3 Q) : CtI l yX12_keeps cX12_keeps 4 (some .boolean) 3 65 0 0 D k [.ref a_t, .int n1, .int n2, .int n3] (wd_LongTrainModel_keeps k a_t d_t i_t j_t r_t_tape r_t_h) (fun r w => (r = 0 ∨ r = 1) ∧ (∃ (i_t : Nat → Int32), ∃ (j_t : Nat → Int64), ∃ (r_t_h : Nat → Int32), w = (wd_LongTrainModel_keeps k a_t d_t i_t j_t r_t_tape r_t_h) ∧ Q r i_t j_t r_t_h)) := by
  refine CtI.of (by decide) (Nat.le_of_ble_eq_true rfl) ?_
  intro p e s m below meth c A F hr hlk hnm hA hB ls hl
  have hx := F.x
  have hb := F.b
  unfold w_LongTrainModel_keeps at hf
  replace hl : lv_has ls 4 [(0, .ref a_t), (1, .int n1), (2, .int n2), (3, .int n3)] := hl
  refine lv_aload_n hx hb dX12_keeps_0 rfl (lv_at hl 0 rfl) ?_
  refine lv_iload_n hx hb dX12_keeps_1 rfl (lv_at hl 2 rfl) ?_
  refine lv_iload_n hx hb dX12_keeps_2 rfl (lv_at hl 3 rfl) ?_
  refine k_vi (wr := [((d_t 7), ai k 483 r_t_h)]) (rest := []) F hA hB (c_LongTrainModel_takes l D k a_t d_t i_t j_t r_t_tape n2 n3 _  hf) ml_RX12_216 mv_yX12_takes [0, 1] [2] rfl rfl (by decide) (by decide) (by decide) 0 rfl rfl rfl hl.1 rfl (Nat.le_of_ble_eq_true rfl) ⟨Nat.le_of_ble_eq_true rfl, Nat.le_of_ble_eq_true rfl⟩ ⟨Nat.le_of_ble_eq_true rfl, Nat.le_of_ble_eq_true rfl⟩ dX12_keeps_3 (fun z_3 w1 H locs hq hB => ?_)
  obtain ⟨h_4, i_t_1, j_t_2, rfl, hf⟩ := hq
  replace hB : Bd D A s.heap (wd_LongTrainModel_keeps k a_t d_t i_t_1 j_t_2 r_t_tape r_t_h) H locs := hB.sub [1, 2, 0] (by decide) rfl
  refine lv_if_ne (tgt := 11) hx hb dX12_keeps_6 (by decide) (fun c_6 => ?_) (fun c_6 => ?_)
  · replace hf := hf.1 c_6
    refine lv_aload_n hx hb dX12_keeps_11 rfl (lv_at hl 0 rfl) ?_
    refine g_get (w := .ref (d_t 7)) F hB 0 rfl fl_RX12_37 rfl dX12_keeps_12 ?_
    refine lv_iload_n hx hb dX12_keeps_15 rfl (lv_at hl 1 rfl) ?_
    refine lv_aload_n hx hb dX12_keeps_16 rfl (lv_at hl 0 rfl) ?_
    refine g_get (w := .int (i_t_1 18)) F hB 0 rfl fl_RX12_186 rfl dX12_keeps_17 ?_
    obtain ⟨h_5, hf⟩ := hf
    refine g_iast F hB 2 rfl h_5 (wd_LongTrainModel_keeps k a_t d_t i_t_1 j_t_2 r_t_tape (upd r_t_h (n1).toNatClampNeg (i_t_1 18))) rfl dX12_keeps_20 (fun H locs hB => ?_)
    refine lv_iconst (v := 1) hx hb dX12_keeps_21 (by decide) ?_
    exact r_z F hr hlk hB (Or.inr rfl) ⟨Or.inr rfl, _, _, _, rfl, hf⟩ dX12_keeps_22
  · replace hf := hf.2 c_6
    refine lv_iconst (v := 0) hx hb dX12_keeps_9 (by decide) ?_
    exact r_z F hr hlk hB (Or.inl rfl) ⟨Or.inl rfl, _, _, _, rfl, hf⟩ dX12_keeps_10

/-! LongTrainModel.readHalt -/
set_option maxRecDepth 100000 in
set_option maxHeartbeats 4000000 in
theorem jt_LongTrainModel_readHalt_61 {p : Program} {l : Launch} {e : Env} {s : State} {m : MethodId} {below : List Frame} {meth : Method} {c : Code} {A : Nat → Prop} {D : va_G} {k : Nat → ClassId} {a_t : Nat} {d_t : Nat → Nat} {r_t_tape : Nat → Int32} {r_t_reserved : Nat → Int64}  {Q : Int32 → (Nat → Int32) → (Nat → Int64) → (Nat → Int32) → (Nat → Int64) → Prop}  (F : Fx p m c cX12_readHalt 2 s ([.ref a_t] : List Value).toArray RX12 D k) (hr : meth.sig.returnType = (some .boolean)) (hlk : meth.locks = false) (hA : ∀ q : Nat, s.heap.size ≤ q → A q) :
    ∀ (i_t : Nat → Int32) (j_t : Nat → Int64) (r_t_h : Nat → Int32) (r_t_names : Nat → Int64) (x1 : Int32) (y0 : Int32) (H : Heap) (locs : List Loc) (ls : Array Slot), j_LongTrainModel_readHalt_61 i_t j_t r_t_h r_t_tape r_t_names x1 y0 Q → Bd D A s.heap (wd_LongTrainModel_readHalt k a_t d_t i_t j_t r_t_h r_t_tape r_t_reserved r_t_names) H locs → lv_has ls 2 [(0, .ref a_t), (1, .int x1)] → W p l e { frames := 3, cells := 0, slots := 0, locals := 65 } s m ([.ref a_t] : List Value).toArray below meth c H locs 0 0 (Ei below (fun r w => (r = 0 ∨ r = 1) ∧ (∃ (i_t : Nat → Int32), ∃ (j_t : Nat → Int64), ∃ (r_t_h : Nat → Int32), ∃ (r_t_names : Nat → Int64), w = (wd_LongTrainModel_readHalt k a_t d_t i_t j_t r_t_h r_t_tape r_t_reserved r_t_names) ∧ Q r i_t j_t r_t_h r_t_names)) D k A ([.ref a_t] : List Value).toArray s 0 0) (F0 m 61 ls [.int y0, .ref a_t]) := by
  have hx := F.x
  have hb := F.b
  intro i_t j_t r_t_h r_t_names x1 y0 H locs ls hf hB hl
  unfold j_LongTrainModel_readHalt_61 at hf
  refine lv_aload_n hx hb dX12_readHalt_61 rfl (lv_at hl 0 rfl) ?_
  refine g_get (w := .ref (d_t 7)) F hB 0 rfl fl_RX12_37 rfl dX12_readHalt_62 ?_
  refine lv_iconst (v := 0) hx hb dX12_readHalt_65 (by decide) ?_
  refine g_iald F hB 1 rfl (vp_in_iff.mpr (by decide +kernel)) dX12_readHalt_66 ?_
  refine W.eq (g2 := F0 m 67 ls [.int (r_t_h 0), .int y0, .ref a_t]) rfl ?_
  refine lv_iconst (v := 1) hx hb dX12_readHalt_67 (by decide) ?_
  refine lv_isub hx hb dX12_readHalt_68 ?_
  refine k_vi (wr := [((d_t 7), ai k 483 r_t_h), ((d_t 10), aj k 16 r_t_reserved), ((d_t 9), aj k 32 r_t_names)]) (rest := []) F hA hB (c_LongTrainModel_takes l D k a_t d_t i_t j_t r_t_tape y0 ((r_t_h 0) - (1 : Int32)) _  hf) ml_RX12_216 mv_yX12_takes [0, 2] [1, 3, 4] rfl rfl (by decide) (by decide) (by decide) 0 rfl rfl rfl hl.1 rfl (Nat.le_of_ble_eq_true rfl) ⟨Nat.le_of_ble_eq_true rfl, Nat.le_of_ble_eq_true rfl⟩ ⟨Nat.le_of_ble_eq_true rfl, Nat.le_of_ble_eq_true rfl⟩ dX12_readHalt_69 (fun z_13 w1 H locs hq hB => ?_)
  obtain ⟨h_14, i_t_11, j_t_12, rfl, hf⟩ := hq
  replace hB : Bd D A s.heap (wd_LongTrainModel_readHalt k a_t d_t i_t_11 j_t_12 r_t_h r_t_tape r_t_reserved r_t_names) H locs := hB.sub [3, 0, 4, 1, 2] (by decide) rfl
  refine lv_if_ne (tgt := 77) hx hb dX12_readHalt_72 (by decide) (fun c_25 => ?_) (fun c_25 => ?_)
  · replace hf := hf.1 c_25
    refine lv_aload_n hx hb dX12_readHalt_77 rfl (lv_at hl 0 rfl) ?_
    refine g_get (w := .ref (d_t 7)) F hB 0 rfl fl_RX12_37 rfl dX12_readHalt_78 ?_
    refine lv_sipush (v := 411) hx hb dX12_readHalt_81 (by decide) ?_
    refine lv_iconst (v := 3) hx hb dX12_readHalt_84 (by decide) ?_
    refine lv_iload_n hx hb dX12_readHalt_85 rfl (lv_at hl 1 rfl) ?_
    refine lv_imul hx hb dX12_readHalt_86 ?_
    refine lv_iadd hx hb dX12_readHalt_87 ?_
    refine lv_aload_n hx hb dX12_readHalt_88 rfl (lv_at hl 0 rfl) ?_
    refine g_get (w := .int (i_t_11 18)) F hB 0 rfl fl_RX12_186 rfl dX12_readHalt_89 ?_
    obtain ⟨h_15, hf⟩ := hf
    refine g_iast F hB 1 rfl h_15 (wd_LongTrainModel_readHalt k a_t d_t i_t_11 j_t_12 (upd r_t_h (((411 : Int32) + ((3 : Int32) * x1))).toNatClampNeg (i_t_11 18)) r_t_tape r_t_reserved r_t_names) rfl dX12_readHalt_92 (fun H locs hB => ?_)
    refine lv_aload_n hx hb dX12_readHalt_93 rfl (lv_at hl 0 rfl) ?_
    refine lv_iconst (v := 1) hx hb dX12_readHalt_94 (by decide) ?_
    refine lv_bipush (v := 99) hx hb dX12_readHalt_95 (by decide) ?_
    refine k_vi (wr := [((d_t 7), ai k 483 (upd r_t_h (((411 : Int32) + ((3 : Int32) * x1))).toNatClampNeg (i_t_11 18))), ((d_t 10), aj k 16 r_t_reserved), ((d_t 9), aj k 32 r_t_names)]) (rest := []) F hA hB (c_LongTrainModel_takes l D k a_t d_t i_t_11 j_t_12 r_t_tape (1 : Int32) (99 : Int32) _  hf) ml_RX12_216 mv_yX12_takes [0, 2] [1, 3, 4] rfl rfl (by decide) (by decide) (by decide) 0 rfl rfl rfl hl.1 rfl (Nat.le_of_ble_eq_true rfl) ⟨Nat.le_of_ble_eq_true rfl, Nat.le_of_ble_eq_true rfl⟩ ⟨Nat.le_of_ble_eq_true rfl, Nat.le_of_ble_eq_true rfl⟩ dX12_readHalt_97 (fun z_18 w1 H locs hq hB => ?_)
    obtain ⟨h_19, i_t_16, j_t_17, rfl, hf⟩ := hq
    replace hB : Bd D A s.heap (wd_LongTrainModel_readHalt k a_t d_t i_t_16 j_t_17 (upd r_t_h (((411 : Int32) + ((3 : Int32) * x1))).toNatClampNeg (i_t_11 18)) r_t_tape r_t_reserved r_t_names) H locs := hB.sub [3, 0, 4, 1, 2] (by decide) rfl
    refine lv_if_ne (tgt := 105) hx hb dX12_readHalt_100 (by decide) (fun c_24 => ?_) (fun c_24 => ?_)
    · replace hf := hf.1 c_24
      refine lv_aload_n hx hb dX12_readHalt_105 rfl (lv_at hl 0 rfl) ?_
      refine g_get (w := .ref (d_t 7)) F hB 0 rfl fl_RX12_37 rfl dX12_readHalt_106 ?_
      refine lv_sipush (v := 411) hx hb dX12_readHalt_109 (by decide) ?_
      refine lv_iconst (v := 3) hx hb dX12_readHalt_112 (by decide) ?_
      refine lv_iload_n hx hb dX12_readHalt_113 rfl (lv_at hl 1 rfl) ?_
      refine lv_imul hx hb dX12_readHalt_114 ?_
      refine lv_iadd hx hb dX12_readHalt_115 ?_
      refine lv_iconst (v := 1) hx hb dX12_readHalt_116 (by decide) ?_
      refine lv_iadd hx hb dX12_readHalt_117 ?_
      refine lv_aload_n hx hb dX12_readHalt_118 rfl (lv_at hl 0 rfl) ?_
      refine g_get (w := .int (i_t_16 18)) F hB 0 rfl fl_RX12_186 rfl dX12_readHalt_119 ?_
      obtain ⟨h_20, hf⟩ := hf
      refine g_iast F hB 1 rfl h_20 (wd_LongTrainModel_readHalt k a_t d_t i_t_16 j_t_17 (upd (upd r_t_h (((411 : Int32) + ((3 : Int32) * x1))).toNatClampNeg (i_t_11 18)) ((((411 : Int32) + ((3 : Int32) * x1)) + (1 : Int32))).toNatClampNeg (i_t_16 18)) r_t_tape r_t_reserved r_t_names) rfl dX12_readHalt_122 (fun H locs hB => ?_)
      refine lv_aload_n hx hb dX12_readHalt_123 rfl (lv_at hl 0 rfl) ?_
      refine g_get (w := .ref (d_t 7)) F hB 0 rfl fl_RX12_37 rfl dX12_readHalt_124 ?_
      refine lv_sipush (v := 411) hx hb dX12_readHalt_127 (by decide) ?_
      refine lv_iconst (v := 3) hx hb dX12_readHalt_130 (by decide) ?_
      refine lv_iload_n hx hb dX12_readHalt_131 rfl (lv_at hl 1 rfl) ?_
      refine lv_imul hx hb dX12_readHalt_132 ?_
      refine lv_iadd hx hb dX12_readHalt_133 ?_
      refine lv_iconst (v := 2) hx hb dX12_readHalt_134 (by decide) ?_
      refine lv_iadd hx hb dX12_readHalt_135 ?_
      refine lv_iconst (v := 0) hx hb dX12_readHalt_136 (by decide) ?_
      obtain ⟨h_21, hf⟩ := hf
      refine g_iast F hB 1 rfl h_21 (wd_LongTrainModel_readHalt k a_t d_t i_t_16 j_t_17 (upd (upd (upd r_t_h (((411 : Int32) + ((3 : Int32) * x1))).toNatClampNeg (i_t_11 18)) ((((411 : Int32) + ((3 : Int32) * x1)) + (1 : Int32))).toNatClampNeg (i_t_16 18)) ((((411 : Int32) + ((3 : Int32) * x1)) + (2 : Int32))).toNatClampNeg (0 : Int32)) r_t_tape r_t_reserved r_t_names) rfl dX12_readHalt_137 (fun H locs hB => ?_)
      refine lv_aload_n hx hb dX12_readHalt_138 rfl (lv_at hl 0 rfl) ?_
      refine g_get (w := .ref (d_t 7)) F hB 0 rfl fl_RX12_37 rfl dX12_readHalt_139 ?_
      refine lv_iconst (v := 1) hx hb dX12_readHalt_142 (by decide) ?_
      refine lv_dup2_11 hx hb dX12_readHalt_143 rfl rfl ?_
      refine g_iald F hB 1 rfl (vp_in_iff.mpr (by decide +kernel)) dX12_readHalt_144 ?_
      refine W.eq (g2 := F0 m 145 ls [.int ((upd (upd (upd r_t_h (((411 : Int32) + ((3 : Int32) * x1))).toNatClampNeg (i_t_11 18)) ((((411 : Int32) + ((3 : Int32) * x1)) + (1 : Int32))).toNatClampNeg (i_t_16 18)) ((((411 : Int32) + ((3 : Int32) * x1)) + (2 : Int32))).toNatClampNeg (0 : Int32)) 1), .int (1 : Int32), .ref (d_t 7)]) rfl ?_
      refine lv_iconst (v := 1) hx hb dX12_readHalt_145 (by decide) ?_
      refine lv_iadd hx hb dX12_readHalt_146 ?_
      refine g_iast F hB 1 rfl (vp_in_iff.mpr (by decide +kernel)) (wd_LongTrainModel_readHalt k a_t d_t i_t_16 j_t_17 (upd (upd (upd (upd r_t_h (((411 : Int32) + ((3 : Int32) * x1))).toNatClampNeg (i_t_11 18)) ((((411 : Int32) + ((3 : Int32) * x1)) + (1 : Int32))).toNatClampNeg (i_t_16 18)) ((((411 : Int32) + ((3 : Int32) * x1)) + (2 : Int32))).toNatClampNeg (0 : Int32)) 1 (((upd (upd (upd r_t_h (((411 : Int32) + ((3 : Int32) * x1))).toNatClampNeg (i_t_11 18)) ((((411 : Int32) + ((3 : Int32) * x1)) + (1 : Int32))).toNatClampNeg (i_t_16 18)) ((((411 : Int32) + ((3 : Int32) * x1)) + (2 : Int32))).toNatClampNeg (0 : Int32)) 1) + (1 : Int32))) r_t_tape r_t_reserved r_t_names) rfl dX12_readHalt_147 (fun H locs hB => ?_)
      refine lv_iconst (v := 1) hx hb dX12_readHalt_148 (by decide) ?_
      exact r_z F hr hlk hB (Or.inr rfl) ⟨Or.inr rfl, _, _, _, _, rfl, hf⟩ dX12_readHalt_149
    · replace hf := hf.2 c_24
      refine lv_iconst (v := 0) hx hb dX12_readHalt_103 (by decide) ?_
      exact r_z F hr hlk hB (Or.inl rfl) ⟨Or.inl rfl, _, _, _, _, rfl, hf⟩ dX12_readHalt_104
  · replace hf := hf.2 c_25
    refine lv_iconst (v := 0) hx hb dX12_readHalt_75 (by decide) ?_
    exact r_z F hr hlk hB (Or.inl rfl) ⟨Or.inl rfl, _, _, _, _, rfl, hf⟩ dX12_readHalt_76

set_option maxRecDepth 100000 in
set_option maxHeartbeats 4000000 in
theorem c_LongTrainModel_readHalt (l : Launch) (D : va_G) (k : Nat → ClassId) (a_t : Nat) (d_t : Nat → Nat) (i_t : Nat → Int32) (j_t : Nat → Int64) (r_t_h : Nat → Int32) (r_t_tape : Nat → Int32) (r_t_reserved : Nat → Int64) (r_t_names : Nat → Int64)  (Q : Int32 → (Nat → Int32) → (Nat → Int64) → (Nat → Int32) → (Nat → Int64) → Prop)  (hf : w_LongTrainModel_readHalt i_t j_t r_t_h r_t_tape r_t_reserved r_t_names Q) : CtI l yX12_readHalt cX12_readHalt 2 (some .boolean) 3 65 0 0 D k [.ref a_t] (wd_LongTrainModel_readHalt k a_t d_t i_t j_t r_t_h r_t_tape r_t_reserved r_t_names) (fun r w => (r = 0 ∨ r = 1) ∧ (∃ (i_t : Nat → Int32), ∃ (j_t : Nat → Int64), ∃ (r_t_h : Nat → Int32), ∃ (r_t_names : Nat → Int64), w = (wd_LongTrainModel_readHalt k a_t d_t i_t j_t r_t_h r_t_tape r_t_reserved r_t_names) ∧ Q r i_t j_t r_t_h r_t_names)) := by
  refine CtI.of (by decide) (Nat.le_of_ble_eq_true rfl) ?_
  intro p e s m below meth c A F hr hlk hnm hA hB ls hl
  have hx := F.x
  have hb := F.b
  unfold w_LongTrainModel_readHalt at hf
  replace hl : lv_has ls 2 [(0, .ref a_t)] := hl
  refine lv_aload_n hx hb dX12_readHalt_0 rfl (lv_at hl 0 rfl) ?_
  refine g_get (w := .ref (d_t 7)) F hB 0 rfl fl_RX12_37 rfl dX12_readHalt_1 ?_
  refine lv_iconst (v := 1) hx hb dX12_readHalt_4 (by decide) ?_
  refine g_iald F hB 1 rfl (vp_in_iff.mpr (by decide +kernel)) dX12_readHalt_5 ?_
  refine W.eq (g2 := F0 m 6 ls [.int (r_t_h 1)]) rfl ?_
  refine lv_istore_n (lv' := [(1, .int (r_t_h 1)), (0, .ref a_t)]) hx hb dX12_readHalt_6 rfl hl (by decide) rfl (fun ls hl => ?_)
  refine lv_iload_n hx hb dX12_readHalt_7 rfl (lv_at hl 0 rfl) ?_
  refine lv_bipush (v := 10) hx hb dX12_readHalt_8 (by decide) ?_
  refine lv_icmp_ne (tgt := 19) hx hb dX12_readHalt_10 (by decide) (fun c_31 => ?_) (fun c_31 => ?_)
  · replace hf := hf.1 c_31
    refine lv_aload_n hx hb dX12_readHalt_19 rfl (lv_at hl 1 rfl) ?_
    refine k_vv (wr := [((d_t 7), ai k 483 r_t_h), ((d_t 10), aj k 16 r_t_reserved), ((d_t 9), aj k 32 r_t_names)]) (rest := []) F hA hB (c_LongTrainModel_next l D k a_t d_t i_t j_t r_t_tape _  hf) ml_RX12_179 mv_yX12_next [0, 2] [1, 3, 4] rfl rfl (by decide) (by decide) (by decide) 0 rfl rfl rfl hl.1 rfl (Nat.le_of_ble_eq_true rfl) ⟨Nat.le_of_ble_eq_true rfl, Nat.le_of_ble_eq_true rfl⟩ ⟨Nat.le_of_ble_eq_true rfl, Nat.le_of_ble_eq_true rfl⟩ dX12_readHalt_20 (fun w1 H locs hq hB => ?_)
    obtain ⟨i_t_2, j_t_3, rfl, hf⟩ := hq
    replace hB : Bd D A s.heap (wd_LongTrainModel_readHalt k a_t d_t i_t_2 j_t_3 r_t_h r_t_tape r_t_reserved r_t_names) H locs := hB.sub [3, 0, 4, 1, 2] (by decide) rfl
    refine lv_aload_n hx hb dX12_readHalt_23 rfl (lv_at hl 1 rfl) ?_
    refine lv_bipush (v := 16) hx hb dX12_readHalt_24 (by decide) ?_
    refine lv_iload_n hx hb dX12_readHalt_26 rfl (lv_at hl 0 rfl) ?_
    refine lv_iadd hx hb dX12_readHalt_27 ?_
    refine k_vi (wr := []) (rest := []) F hA hB (c_LongTrainModel_fresh l D k a_t d_t i_t_2 j_t_3 r_t_reserved r_t_h r_t_names r_t_tape ((16 : Int32) + (r_t_h 1)) _  hf) ml_RX12_235 mv_yX12_fresh [0, 3, 1, 4, 2] [] rfl rfl (by decide) (by decide) (by decide) 0 rfl rfl rfl hl.1 rfl (Nat.le_of_ble_eq_true rfl) ⟨Nat.le_of_ble_eq_true rfl, Nat.le_of_ble_eq_true rfl⟩ ⟨Nat.le_of_ble_eq_true rfl, Nat.le_of_ble_eq_true rfl⟩ dX12_readHalt_28 (fun z_7 w1 H locs hq hB => ?_)
    obtain ⟨h_8, i_t_4, j_t_5, r_t_names_6, rfl, hf⟩ := hq
    replace hB : Bd D A s.heap (wd_LongTrainModel_readHalt k a_t d_t i_t_4 j_t_5 r_t_h r_t_tape r_t_reserved r_t_names_6) H locs := hB.sub [0, 2, 4, 1, 3] (by decide) rfl
    refine lv_if_ne (tgt := 36) hx hb dX12_readHalt_31 (by decide) (fun c_27 => ?_) (fun c_27 => ?_)
    · replace hf := hf.1 c_27
      refine lv_aload_n hx hb dX12_readHalt_36 rfl (lv_at hl 1 rfl) ?_
      refine lv_iload_n hx hb dX12_readHalt_37 rfl (lv_at hl 0 rfl) ?_
      refine lv_if_ne (tgt := 45) hx hb dX12_readHalt_38 (by decide) (fun c_26 => ?_) (fun c_26 => ?_)
      · replace hf := hf.1 c_26
        refine lv_aload_n hx hb dX12_readHalt_45 rfl (lv_at hl 1 rfl) ?_
        refine g_get (w := .ref (d_t 7)) F hB 0 rfl fl_RX12_37 rfl dX12_readHalt_46 ?_
        refine lv_sipush (v := 411) hx hb dX12_readHalt_49 (by decide) ?_
        refine lv_iconst (v := 3) hx hb dX12_readHalt_52 (by decide) ?_
        refine lv_iload_n hx hb dX12_readHalt_53 rfl (lv_at hl 0 rfl) ?_
        refine lv_imul hx hb dX12_readHalt_54 ?_
        refine lv_iadd hx hb dX12_readHalt_55 ?_
        refine lv_iconst (v := 3) hx hb dX12_readHalt_56 (by decide) ?_
        refine lv_isub hx hb dX12_readHalt_57 ?_
        obtain ⟨h_9, hf⟩ := hf
        refine g_iald F hB 1 rfl h_9 dX12_readHalt_58 ?_
        refine lv_iconst (v := 1) hx hb dX12_readHalt_59 (by decide) ?_
        refine lv_iadd hx hb dX12_readHalt_60 ?_
        exact jt_LongTrainModel_readHalt_61 F hr hlk hA _ _ _ _ _ _ _ _ _ hf hB (lv_sub hl [1, 0] rfl)
      · replace hf := hf.2 c_26
        refine lv_iconst (v := 0) hx hb dX12_readHalt_41 (by decide) ?_
        refine lv_goto (tgt := 61) hx hb dX12_readHalt_42 (by decide) ?_
        exact jt_LongTrainModel_readHalt_61 F hr hlk hA _ _ _ _ _ _ _ _ _ hf hB (lv_sub hl [1, 0] rfl)
    · replace hf := hf.2 c_27
      refine lv_iconst (v := 0) hx hb dX12_readHalt_34 (by decide) ?_
      exact r_z F hr hlk hB (Or.inl rfl) ⟨Or.inl rfl, _, _, _, _, rfl, hf⟩ dX12_readHalt_35
  · replace hf := hf.2 c_31
    refine lv_aload_n hx hb dX12_readHalt_13 rfl (lv_at hl 1 rfl) ?_
    refine lv_iconst (v := 4) hx hb dX12_readHalt_14 (by decide) ?_
    refine k_vi (wr := [((d_t 7), ai k 483 r_t_h), ((d_t 1), ab k 940 r_t_tape), ((d_t 10), aj k 16 r_t_reserved), ((d_t 9), aj k 32 r_t_names)]) (rest := []) F hA hB (c_LongTrainModel_bad l D k a_t d_t i_t j_t (4 : Int32) _  hf) ml_RX12_176 mv_yX12_bad [0] [1, 2, 3, 4] rfl rfl (by decide) (by decide) (by decide) 0 rfl rfl rfl hl.1 rfl (Nat.le_of_ble_eq_true rfl) ⟨Nat.le_of_ble_eq_true rfl, Nat.le_of_ble_eq_true rfl⟩ ⟨Nat.le_of_ble_eq_true rfl, Nat.le_of_ble_eq_true rfl⟩ dX12_readHalt_15 (fun z_29 w1 H locs hq hB => ?_)
    obtain ⟨h_30, i_t_28, rfl, hf⟩ := hq
    replace hB : Bd D A s.heap (wd_LongTrainModel_readHalt k a_t d_t i_t_28 j_t r_t_h r_t_tape r_t_reserved r_t_names) H locs := hB.sub [4, 0, 1, 2, 3] (by decide) rfl
    exact r_z F hr hlk hB (h_30) ⟨h_30, _, _, _, _, rfl, hf⟩ dX12_readHalt_18

/-! LongTrainModel.readKind -/
set_option maxRecDepth 100000 in
set_option maxHeartbeats 4000000 in
theorem c_LongTrainModel_readKind (l : Launch) (D : va_G) (k : Nat → ClassId) (a_t : Nat) (d_t : Nat → Nat) (i_t : Nat → Int32) (j_t : Nat → Int64) (r_t_h : Nat → Int32) (r_t_tape : Nat → Int32) (r_t_reserved : Nat → Int64) (r_t_names : Nat → Int64)  (Q : Int32 → (Nat → Int32) → (Nat → Int64) → (Nat → Int32) → (Nat → Int64) → Prop)  (hf : w_LongTrainModel_readKind i_t j_t r_t_h r_t_tape r_t_reserved r_t_names Q) : CtI l yX12_readKind cX12_readKind 2 (some .boolean) 3 65 0 0 D k [.ref a_t] (wd_LongTrainModel_readKind k a_t d_t i_t j_t r_t_h r_t_tape r_t_reserved r_t_names) (fun r w => (r = 0 ∨ r = 1) ∧ (∃ (i_t : Nat → Int32), ∃ (j_t : Nat → Int64), ∃ (r_t_h : Nat → Int32), ∃ (r_t_names : Nat → Int64), w = (wd_LongTrainModel_readKind k a_t d_t i_t j_t r_t_h r_t_tape r_t_reserved r_t_names) ∧ Q r i_t j_t r_t_h r_t_names)) := by
  refine CtI.of (by decide) (Nat.le_of_ble_eq_true rfl) ?_
  intro p e s m below meth c A F hr hlk hnm hA hB ls hl
  have hx := F.x
  have hb := F.b
  unfold w_LongTrainModel_readKind at hf
  replace hl : lv_has ls 2 [(0, .ref a_t)] := hl
  refine lv_aload_n hx hb dX12_readKind_0 rfl (lv_at hl 0 rfl) ?_
  refine g_get (w := .ref (d_t 7)) F hB 0 rfl fl_RX12_37 rfl dX12_readKind_1 ?_
  refine lv_iconst (v := 3) hx hb dX12_readKind_4 (by decide) ?_
  refine g_iald F hB 1 rfl (vp_in_iff.mpr (by decide +kernel)) dX12_readKind_5 ?_
  refine W.eq (g2 := F0 m 6 ls [.int (r_t_h 3)]) rfl ?_
  refine lv_istore_n (lv' := [(1, .int (r_t_h 3)), (0, .ref a_t)]) hx hb dX12_readKind_6 rfl hl (by decide) rfl (fun ls hl => ?_)
  refine lv_iload_n hx hb dX12_readKind_7 rfl (lv_at hl 0 rfl) ?_
  refine lv_bipush (v := 6) hx hb dX12_readKind_8 (by decide) ?_
  refine lv_icmp_ne (tgt := 19) hx hb dX12_readKind_10 (by decide) (fun c_33 => ?_) (fun c_33 => ?_)
  · replace hf := hf.1 c_33
    refine lv_aload_n hx hb dX12_readKind_19 rfl (lv_at hl 1 rfl) ?_
    refine k_vv (wr := [((d_t 7), ai k 483 r_t_h), ((d_t 10), aj k 16 r_t_reserved), ((d_t 9), aj k 32 r_t_names)]) (rest := []) F hA hB (c_LongTrainModel_next l D k a_t d_t i_t j_t r_t_tape _  hf) ml_RX12_179 mv_yX12_next [0, 2] [1, 3, 4] rfl rfl (by decide) (by decide) (by decide) 0 rfl rfl rfl hl.1 rfl (Nat.le_of_ble_eq_true rfl) ⟨Nat.le_of_ble_eq_true rfl, Nat.le_of_ble_eq_true rfl⟩ ⟨Nat.le_of_ble_eq_true rfl, Nat.le_of_ble_eq_true rfl⟩ dX12_readKind_20 (fun w1 H locs hq hB => ?_)
    obtain ⟨i_t_2, j_t_3, rfl, hf⟩ := hq
    replace hB : Bd D A s.heap (wd_LongTrainModel_readKind k a_t d_t i_t_2 j_t_3 r_t_h r_t_tape r_t_reserved r_t_names) H locs := hB.sub [3, 0, 4, 1, 2] (by decide) rfl
    refine lv_aload_n hx hb dX12_readKind_23 rfl (lv_at hl 1 rfl) ?_
    refine lv_bipush (v := 26) hx hb dX12_readKind_24 (by decide) ?_
    refine lv_iload_n hx hb dX12_readKind_26 rfl (lv_at hl 0 rfl) ?_
    refine lv_iadd hx hb dX12_readKind_27 ?_
    refine k_vi (wr := []) (rest := []) F hA hB (c_LongTrainModel_fresh l D k a_t d_t i_t_2 j_t_3 r_t_reserved r_t_h r_t_names r_t_tape ((26 : Int32) + (r_t_h 3)) _  hf) ml_RX12_235 mv_yX12_fresh [0, 3, 1, 4, 2] [] rfl rfl (by decide) (by decide) (by decide) 0 rfl rfl rfl hl.1 rfl (Nat.le_of_ble_eq_true rfl) ⟨Nat.le_of_ble_eq_true rfl, Nat.le_of_ble_eq_true rfl⟩ ⟨Nat.le_of_ble_eq_true rfl, Nat.le_of_ble_eq_true rfl⟩ dX12_readKind_28 (fun z_7 w1 H locs hq hB => ?_)
    obtain ⟨h_8, i_t_4, j_t_5, r_t_names_6, rfl, hf⟩ := hq
    replace hB : Bd D A s.heap (wd_LongTrainModel_readKind k a_t d_t i_t_4 j_t_5 r_t_h r_t_tape r_t_reserved r_t_names_6) H locs := hB.sub [0, 2, 4, 1, 3] (by decide) rfl
    refine lv_if_ne (tgt := 36) hx hb dX12_readKind_31 (by decide) (fun c_29 => ?_) (fun c_29 => ?_)
    · replace hf := hf.1 c_29
      refine lv_aload_n hx hb dX12_readKind_36 rfl (lv_at hl 1 rfl) ?_
      refine lv_iconst (v := 1) hx hb dX12_readKind_37 (by decide) ?_
      refine lv_bipush (v := 9) hx hb dX12_readKind_38 (by decide) ?_
      refine k_vi (wr := [((d_t 7), ai k 483 r_t_h), ((d_t 10), aj k 16 r_t_reserved), ((d_t 9), aj k 32 r_t_names_6)]) (rest := []) F hA hB (c_LongTrainModel_takes l D k a_t d_t i_t_4 j_t_5 r_t_tape (1 : Int32) (9 : Int32) _  hf) ml_RX12_216 mv_yX12_takes [0, 2] [1, 3, 4] rfl rfl (by decide) (by decide) (by decide) 0 rfl rfl rfl hl.1 rfl (Nat.le_of_ble_eq_true rfl) ⟨Nat.le_of_ble_eq_true rfl, Nat.le_of_ble_eq_true rfl⟩ ⟨Nat.le_of_ble_eq_true rfl, Nat.le_of_ble_eq_true rfl⟩ dX12_readKind_40 (fun z_11 w1 H locs hq hB => ?_)
      obtain ⟨h_12, i_t_9, j_t_10, rfl, hf⟩ := hq
      replace hB : Bd D A s.heap (wd_LongTrainModel_readKind k a_t d_t i_t_9 j_t_10 r_t_h r_t_tape r_t_reserved r_t_names_6) H locs := hB.sub [3, 0, 4, 1, 2] (by decide) rfl
      refine lv_if_ne (tgt := 48) hx hb dX12_readKind_43 (by decide) (fun c_28 => ?_) (fun c_28 => ?_)
      · replace hf := hf.1 c_28
        refine lv_aload_n hx hb dX12_readKind_48 rfl (lv_at hl 1 rfl) ?_
        refine g_get (w := .ref (d_t 7)) F hB 0 rfl fl_RX12_37 rfl dX12_readKind_49 ?_
        refine lv_sipush (v := 457) hx hb dX12_readKind_52 (by decide) ?_
        refine lv_iconst (v := 3) hx hb dX12_readKind_55 (by decide) ?_
        refine lv_iload_n hx hb dX12_readKind_56 rfl (lv_at hl 0 rfl) ?_
        refine lv_imul hx hb dX12_readKind_57 ?_
        refine lv_iadd hx hb dX12_readKind_58 ?_
        refine lv_aload_n hx hb dX12_readKind_59 rfl (lv_at hl 1 rfl) ?_
        refine g_get (w := .int (i_t_9 18)) F hB 0 rfl fl_RX12_186 rfl dX12_readKind_60 ?_
        obtain ⟨h_13, hf⟩ := hf
        refine g_iast F hB 1 rfl h_13 (wd_LongTrainModel_readKind k a_t d_t i_t_9 j_t_10 (upd r_t_h (((457 : Int32) + ((3 : Int32) * (r_t_h 3)))).toNatClampNeg (i_t_9 18)) r_t_tape r_t_reserved r_t_names_6) rfl dX12_readKind_63 (fun H locs hB => ?_)
        refine lv_aload_n hx hb dX12_readKind_64 rfl (lv_at hl 1 rfl) ?_
        refine lv_iconst (v := 1) hx hb dX12_readKind_65 (by decide) ?_
        refine lv_bipush (v := 99) hx hb dX12_readKind_66 (by decide) ?_
        refine k_vi (wr := [((d_t 7), ai k 483 (upd r_t_h (((457 : Int32) + ((3 : Int32) * (r_t_h 3)))).toNatClampNeg (i_t_9 18))), ((d_t 10), aj k 16 r_t_reserved), ((d_t 9), aj k 32 r_t_names_6)]) (rest := []) F hA hB (c_LongTrainModel_takes l D k a_t d_t i_t_9 j_t_10 r_t_tape (1 : Int32) (99 : Int32) _  hf) ml_RX12_216 mv_yX12_takes [0, 2] [1, 3, 4] rfl rfl (by decide) (by decide) (by decide) 0 rfl rfl rfl hl.1 rfl (Nat.le_of_ble_eq_true rfl) ⟨Nat.le_of_ble_eq_true rfl, Nat.le_of_ble_eq_true rfl⟩ ⟨Nat.le_of_ble_eq_true rfl, Nat.le_of_ble_eq_true rfl⟩ dX12_readKind_68 (fun z_16 w1 H locs hq hB => ?_)
        obtain ⟨h_17, i_t_14, j_t_15, rfl, hf⟩ := hq
        replace hB : Bd D A s.heap (wd_LongTrainModel_readKind k a_t d_t i_t_14 j_t_15 (upd r_t_h (((457 : Int32) + ((3 : Int32) * (r_t_h 3)))).toNatClampNeg (i_t_9 18)) r_t_tape r_t_reserved r_t_names_6) H locs := hB.sub [3, 0, 4, 1, 2] (by decide) rfl
        refine lv_if_ne (tgt := 76) hx hb dX12_readKind_71 (by decide) (fun c_27 => ?_) (fun c_27 => ?_)
        · replace hf := hf.1 c_27
          refine lv_aload_n hx hb dX12_readKind_76 rfl (lv_at hl 1 rfl) ?_
          refine g_get (w := .ref (d_t 7)) F hB 0 rfl fl_RX12_37 rfl dX12_readKind_77 ?_
          refine lv_sipush (v := 457) hx hb dX12_readKind_80 (by decide) ?_
          refine lv_iconst (v := 3) hx hb dX12_readKind_83 (by decide) ?_
          refine lv_iload_n hx hb dX12_readKind_84 rfl (lv_at hl 0 rfl) ?_
          refine lv_imul hx hb dX12_readKind_85 ?_
          refine lv_iadd hx hb dX12_readKind_86 ?_
          refine lv_iconst (v := 1) hx hb dX12_readKind_87 (by decide) ?_
          refine lv_iadd hx hb dX12_readKind_88 ?_
          refine lv_aload_n hx hb dX12_readKind_89 rfl (lv_at hl 1 rfl) ?_
          refine g_get (w := .int (i_t_14 18)) F hB 0 rfl fl_RX12_186 rfl dX12_readKind_90 ?_
          obtain ⟨h_18, hf⟩ := hf
          refine g_iast F hB 1 rfl h_18 (wd_LongTrainModel_readKind k a_t d_t i_t_14 j_t_15 (upd (upd r_t_h (((457 : Int32) + ((3 : Int32) * (r_t_h 3)))).toNatClampNeg (i_t_9 18)) ((((457 : Int32) + ((3 : Int32) * (r_t_h 3))) + (1 : Int32))).toNatClampNeg (i_t_14 18)) r_t_tape r_t_reserved r_t_names_6) rfl dX12_readKind_93 (fun H locs hB => ?_)
          refine lv_aload_n hx hb dX12_readKind_94 rfl (lv_at hl 1 rfl) ?_
          refine lv_iconst (v := 1) hx hb dX12_readKind_95 (by decide) ?_
          refine lv_sipush (v := 999) hx hb dX12_readKind_96 (by decide) ?_
          refine k_vi (wr := [((d_t 7), ai k 483 (upd (upd r_t_h (((457 : Int32) + ((3 : Int32) * (r_t_h 3)))).toNatClampNeg (i_t_9 18)) ((((457 : Int32) + ((3 : Int32) * (r_t_h 3))) + (1 : Int32))).toNatClampNeg (i_t_14 18))), ((d_t 10), aj k 16 r_t_reserved), ((d_t 9), aj k 32 r_t_names_6)]) (rest := []) F hA hB (c_LongTrainModel_takes l D k a_t d_t i_t_14 j_t_15 r_t_tape (1 : Int32) (999 : Int32) _  hf) ml_RX12_216 mv_yX12_takes [0, 2] [1, 3, 4] rfl rfl (by decide) (by decide) (by decide) 0 rfl rfl rfl hl.1 rfl (Nat.le_of_ble_eq_true rfl) ⟨Nat.le_of_ble_eq_true rfl, Nat.le_of_ble_eq_true rfl⟩ ⟨Nat.le_of_ble_eq_true rfl, Nat.le_of_ble_eq_true rfl⟩ dX12_readKind_99 (fun z_21 w1 H locs hq hB => ?_)
          obtain ⟨h_22, i_t_19, j_t_20, rfl, hf⟩ := hq
          replace hB : Bd D A s.heap (wd_LongTrainModel_readKind k a_t d_t i_t_19 j_t_20 (upd (upd r_t_h (((457 : Int32) + ((3 : Int32) * (r_t_h 3)))).toNatClampNeg (i_t_9 18)) ((((457 : Int32) + ((3 : Int32) * (r_t_h 3))) + (1 : Int32))).toNatClampNeg (i_t_14 18)) r_t_tape r_t_reserved r_t_names_6) H locs := hB.sub [3, 0, 4, 1, 2] (by decide) rfl
          refine lv_if_ne (tgt := 107) hx hb dX12_readKind_102 (by decide) (fun c_26 => ?_) (fun c_26 => ?_)
          · replace hf := hf.1 c_26
            refine lv_aload_n hx hb dX12_readKind_107 rfl (lv_at hl 1 rfl) ?_
            refine g_get (w := .ref (d_t 7)) F hB 0 rfl fl_RX12_37 rfl dX12_readKind_108 ?_
            refine lv_sipush (v := 457) hx hb dX12_readKind_111 (by decide) ?_
            refine lv_iconst (v := 3) hx hb dX12_readKind_114 (by decide) ?_
            refine lv_iload_n hx hb dX12_readKind_115 rfl (lv_at hl 0 rfl) ?_
            refine lv_imul hx hb dX12_readKind_116 ?_
            refine lv_iadd hx hb dX12_readKind_117 ?_
            refine lv_iconst (v := 2) hx hb dX12_readKind_118 (by decide) ?_
            refine lv_iadd hx hb dX12_readKind_119 ?_
            refine lv_aload_n hx hb dX12_readKind_120 rfl (lv_at hl 1 rfl) ?_
            refine g_get (w := .int (i_t_19 18)) F hB 0 rfl fl_RX12_186 rfl dX12_readKind_121 ?_
            obtain ⟨h_23, hf⟩ := hf
            refine g_iast F hB 1 rfl h_23 (wd_LongTrainModel_readKind k a_t d_t i_t_19 j_t_20 (upd (upd (upd r_t_h (((457 : Int32) + ((3 : Int32) * (r_t_h 3)))).toNatClampNeg (i_t_9 18)) ((((457 : Int32) + ((3 : Int32) * (r_t_h 3))) + (1 : Int32))).toNatClampNeg (i_t_14 18)) ((((457 : Int32) + ((3 : Int32) * (r_t_h 3))) + (2 : Int32))).toNatClampNeg (i_t_19 18)) r_t_tape r_t_reserved r_t_names_6) rfl dX12_readKind_124 (fun H locs hB => ?_)
            refine lv_aload_n hx hb dX12_readKind_125 rfl (lv_at hl 1 rfl) ?_
            refine g_get (w := .ref (d_t 7)) F hB 0 rfl fl_RX12_37 rfl dX12_readKind_126 ?_
            refine lv_iconst (v := 3) hx hb dX12_readKind_129 (by decide) ?_
            refine lv_dup2_11 hx hb dX12_readKind_130 rfl rfl ?_
            refine g_iald F hB 1 rfl (vp_in_iff.mpr (by decide +kernel)) dX12_readKind_131 ?_
            refine W.eq (g2 := F0 m 132 ls [.int ((upd (upd (upd r_t_h (((457 : Int32) + ((3 : Int32) * (r_t_h 3)))).toNatClampNeg (i_t_9 18)) ((((457 : Int32) + ((3 : Int32) * (r_t_h 3))) + (1 : Int32))).toNatClampNeg (i_t_14 18)) ((((457 : Int32) + ((3 : Int32) * (r_t_h 3))) + (2 : Int32))).toNatClampNeg (i_t_19 18)) 3), .int (3 : Int32), .ref (d_t 7)]) rfl ?_
            refine lv_iconst (v := 1) hx hb dX12_readKind_132 (by decide) ?_
            refine lv_iadd hx hb dX12_readKind_133 ?_
            refine g_iast F hB 1 rfl (vp_in_iff.mpr (by decide +kernel)) (wd_LongTrainModel_readKind k a_t d_t i_t_19 j_t_20 (upd (upd (upd (upd r_t_h (((457 : Int32) + ((3 : Int32) * (r_t_h 3)))).toNatClampNeg (i_t_9 18)) ((((457 : Int32) + ((3 : Int32) * (r_t_h 3))) + (1 : Int32))).toNatClampNeg (i_t_14 18)) ((((457 : Int32) + ((3 : Int32) * (r_t_h 3))) + (2 : Int32))).toNatClampNeg (i_t_19 18)) 3 (((upd (upd (upd r_t_h (((457 : Int32) + ((3 : Int32) * (r_t_h 3)))).toNatClampNeg (i_t_9 18)) ((((457 : Int32) + ((3 : Int32) * (r_t_h 3))) + (1 : Int32))).toNatClampNeg (i_t_14 18)) ((((457 : Int32) + ((3 : Int32) * (r_t_h 3))) + (2 : Int32))).toNatClampNeg (i_t_19 18)) 3) + (1 : Int32))) r_t_tape r_t_reserved r_t_names_6) rfl dX12_readKind_134 (fun H locs hB => ?_)
            refine lv_iconst (v := 1) hx hb dX12_readKind_135 (by decide) ?_
            exact r_z F hr hlk hB (Or.inr rfl) ⟨Or.inr rfl, _, _, _, _, rfl, hf⟩ dX12_readKind_136
          · replace hf := hf.2 c_26
            refine lv_iconst (v := 0) hx hb dX12_readKind_105 (by decide) ?_
            exact r_z F hr hlk hB (Or.inl rfl) ⟨Or.inl rfl, _, _, _, _, rfl, hf⟩ dX12_readKind_106
        · replace hf := hf.2 c_27
          refine lv_iconst (v := 0) hx hb dX12_readKind_74 (by decide) ?_
          exact r_z F hr hlk hB (Or.inl rfl) ⟨Or.inl rfl, _, _, _, _, rfl, hf⟩ dX12_readKind_75
      · replace hf := hf.2 c_28
        refine lv_iconst (v := 0) hx hb dX12_readKind_46 (by decide) ?_
        exact r_z F hr hlk hB (Or.inl rfl) ⟨Or.inl rfl, _, _, _, _, rfl, hf⟩ dX12_readKind_47
    · replace hf := hf.2 c_29
      refine lv_iconst (v := 0) hx hb dX12_readKind_34 (by decide) ?_
      exact r_z F hr hlk hB (Or.inl rfl) ⟨Or.inl rfl, _, _, _, _, rfl, hf⟩ dX12_readKind_35
  · replace hf := hf.2 c_33
    refine lv_aload_n hx hb dX12_readKind_13 rfl (lv_at hl 1 rfl) ?_
    refine lv_iconst (v := 4) hx hb dX12_readKind_14 (by decide) ?_
    refine k_vi (wr := [((d_t 7), ai k 483 r_t_h), ((d_t 1), ab k 940 r_t_tape), ((d_t 10), aj k 16 r_t_reserved), ((d_t 9), aj k 32 r_t_names)]) (rest := []) F hA hB (c_LongTrainModel_bad l D k a_t d_t i_t j_t (4 : Int32) _  hf) ml_RX12_176 mv_yX12_bad [0] [1, 2, 3, 4] rfl rfl (by decide) (by decide) (by decide) 0 rfl rfl rfl hl.1 rfl (Nat.le_of_ble_eq_true rfl) ⟨Nat.le_of_ble_eq_true rfl, Nat.le_of_ble_eq_true rfl⟩ ⟨Nat.le_of_ble_eq_true rfl, Nat.le_of_ble_eq_true rfl⟩ dX12_readKind_15 (fun z_31 w1 H locs hq hB => ?_)
    obtain ⟨h_32, i_t_30, rfl, hf⟩ := hq
    replace hB : Bd D A s.heap (wd_LongTrainModel_readKind k a_t d_t i_t_30 j_t r_t_h r_t_tape r_t_reserved r_t_names) H locs := hB.sub [4, 0, 1, 2, 3] (by decide) rfl
    exact r_z F hr hlk hB (h_32) ⟨h_32, _, _, _, _, rfl, hf⟩ dX12_readKind_18

/-! LongTrainModel.readLoop -/
set_option maxRecDepth 100000 in
set_option maxHeartbeats 4000000 in
theorem bt_LongTrainModel_readLoop_58 {p : Program} {l : Launch} {e : Env} {s : State} {m : MethodId} {below : List Frame} {meth : Method} {c : Code} {A : Nat → Prop} {D : va_G} {k : Nat → ClassId} {a_t : Nat} {d_t : Nat → Nat} {i_t : Nat → Int32} {j_t : Nat → Int64} {r_t_h : Nat → Int32} {r_t_tape : Nat → Int32}  {Q : Int32 → (Nat → Int32) → (Nat → Int64) → (Nat → Int32) → Prop}  {x1 : Int32} {kx_58 : Prop} {kr_58 : (Int32) → Prop} (F : Fx p m c cX12_readLoop 3 s ([.ref a_t] : List Value).toArray RX12 D k) (hr : meth.sig.returnType = (some .boolean)) (hlk : meth.locks = false) (hA : ∀ q : Nat, s.heap.size ≤ q → A q) (hkx_58 : ∀ (H : Heap) (locs : List Loc) (ls : Array Slot), kx_58 → Bd D A s.heap (wd_LongTrainModel_readLoop k a_t d_t i_t j_t r_t_h r_t_tape) H locs → lv_has ls 3 [(0, .ref a_t), (1, .int x1)] → W p l e { frames := 3, cells := 0, slots := 0, locals := 65 } s m ([.ref a_t] : List Value).toArray below meth c H locs 0 0 (Ei below (fun r w => (r = 0 ∨ r = 1) ∧ (∃ (i_t : Nat → Int32), ∃ (j_t : Nat → Int64), ∃ (r_t_h : Nat → Int32), w = (wd_LongTrainModel_readLoop k a_t d_t i_t j_t r_t_h r_t_tape) ∧ Q r i_t j_t r_t_h)) D k A ([.ref a_t] : List Value).toArray s 0 0) (F0 m 94 ls [])) (hkr_58 : ∀ (x2 : Int32) (H : Heap) (locs : List Loc) (ls : Array Slot), kr_58 x2 → Bd D A s.heap (wd_LongTrainModel_readLoop k a_t d_t i_t j_t r_t_h r_t_tape) H locs → lv_has ls 3 [(0, .ref a_t), (1, .int x1), (2, .int x2)] → W p l e { frames := 3, cells := 0, slots := 0, locals := 65 } s m ([.ref a_t] : List Value).toArray below meth c H locs 0 0 (Ei below (fun r w => (r = 0 ∨ r = 1) ∧ (∃ (i_t : Nat → Int32), ∃ (j_t : Nat → Int64), ∃ (r_t_h : Nat → Int32), w = (wd_LongTrainModel_readLoop k a_t d_t i_t j_t r_t_h r_t_tape) ∧ Q r i_t j_t r_t_h)) D k A ([.ref a_t] : List Value).toArray s 0 0) (F0 m 58 ls [])) :
    ∀ (x2 : Int32) (H : Heap) (locs : List Loc) (ls : Array Slot), b_LongTrainModel_readLoop_58 i_t j_t r_t_h x1 Q kx_58 kr_58 x2 → Bd D A s.heap (wd_LongTrainModel_readLoop k a_t d_t i_t j_t r_t_h r_t_tape) H locs → lv_has ls 3 [(0, .ref a_t), (1, .int x1), (2, .int x2)] → W p l e { frames := 3, cells := 0, slots := 0, locals := 65 } s m ([.ref a_t] : List Value).toArray below meth c H locs 0 0 (Ei below (fun r w => (r = 0 ∨ r = 1) ∧ (∃ (i_t : Nat → Int32), ∃ (j_t : Nat → Int64), ∃ (r_t_h : Nat → Int32), w = (wd_LongTrainModel_readLoop k a_t d_t i_t j_t r_t_h r_t_tape) ∧ Q r i_t j_t r_t_h)) D k A ([.ref a_t] : List Value).toArray s 0 0) (F0 m 58 ls []) := by
  have hx := F.x
  have hb := F.b
  intro x2 H locs ls hf hB hl
  unfold b_LongTrainModel_readLoop_58 at hf
  refine lv_iload_n hx hb dX12_readLoop_58 rfl (lv_at hl 2 rfl) ?_
  refine lv_iload_n hx hb dX12_readLoop_59 rfl (lv_at hl 1 rfl) ?_
  refine lv_icmp_ge (tgt := 94) hx hb dX12_readLoop_60 (by decide) (fun c_10 => ?_) (fun c_10 => ?_)
  · replace hf := hf.1 c_10
    exact hkx_58  _ _ _ hf hB (lv_sub hl [0, 1] rfl)
  · replace hf := hf.2 c_10
    refine lv_aload_n hx hb dX12_readLoop_63 rfl (lv_at hl 0 rfl) ?_
    refine g_get (w := .ref (d_t 7)) F hB 0 rfl fl_RX12_37 rfl dX12_readLoop_64 ?_
    refine lv_sipush (v := 441) hx hb dX12_readLoop_67 (by decide) ?_
    refine lv_iconst (v := 2) hx hb dX12_readLoop_70 (by decide) ?_
    refine lv_iload_n hx hb dX12_readLoop_71 rfl (lv_at hl 2 rfl) ?_
    refine lv_imul hx hb dX12_readLoop_72 ?_
    refine lv_iadd hx hb dX12_readLoop_73 ?_
    obtain ⟨h_5, hf⟩ := hf
    refine g_iald F hB 1 rfl h_5 dX12_readLoop_74 ?_
    refine lv_aload_n hx hb dX12_readLoop_75 rfl (lv_at hl 0 rfl) ?_
    refine g_get (w := .int (i_t 14)) F hB 0 rfl fl_RX12_160 rfl dX12_readLoop_76 ?_
    refine lv_icmp_ne (tgt := 88) hx hb dX12_readLoop_79 (by decide) (fun c_9 => ?_) (fun c_9 => ?_)
    · replace hf := hf.1 c_9
      refine lv_iinc (v := (x2 + 1)) (lv' := [(2, .int (x2 + 1)), (0, .ref a_t), (1, .int x1)]) (k := 2) hx hb dX12_readLoop_88 hl rfl rfl (by decide) rfl (fun ls hl => ?_)
      refine lv_goto (tgt := 58) hx hb dX12_readLoop_91 (by decide) ?_
      exact hkr_58 _ _ _ _ hf hB (lv_sub hl [1, 2, 0] rfl)
    · replace hf := hf.2 c_9
      refine lv_aload_n hx hb dX12_readLoop_82 rfl (lv_at hl 0 rfl) ?_
      refine lv_iconst (v := 3) hx hb dX12_readLoop_83 (by decide) ?_
      refine k_vi (wr := [((d_t 7), ai k 483 r_t_h), ((d_t 1), ab k 940 r_t_tape)]) (rest := []) F hA hB (c_LongTrainModel_bad l D k a_t d_t i_t j_t (3 : Int32) _  hf) ml_RX12_176 mv_yX12_bad [0] [1, 2] rfl rfl (by decide) (by decide) (by decide) 0 rfl rfl rfl hl.1 rfl (Nat.le_of_ble_eq_true rfl) ⟨Nat.le_of_ble_eq_true rfl, Nat.le_of_ble_eq_true rfl⟩ ⟨Nat.le_of_ble_eq_true rfl, Nat.le_of_ble_eq_true rfl⟩ dX12_readLoop_84 (fun z_7 w1 H locs hq hB => ?_)
      obtain ⟨h_8, i_t_6, rfl, hf⟩ := hq
      replace hB : Bd D A s.heap (wd_LongTrainModel_readLoop k a_t d_t i_t_6 j_t r_t_h r_t_tape) H locs := hB.sub [2, 0, 1] (by decide) rfl
      exact r_z F hr hlk hB (h_8) ⟨h_8, _, _, _, rfl, hf⟩ dX12_readLoop_87

set_option maxRecDepth 100000 in
set_option maxHeartbeats 4000000 in
theorem lt_LongTrainModel_readLoop_58 {p : Program} {l : Launch} {e : Env} {s : State} {m : MethodId} {below : List Frame} {meth : Method} {c : Code} {A : Nat → Prop} {D : va_G} {k : Nat → ClassId} {a_t : Nat} {d_t : Nat → Nat} {i_t : Nat → Int32} {j_t : Nat → Int64} {r_t_h : Nat → Int32} {r_t_tape : Nat → Int32}  {Q : Int32 → (Nat → Int32) → (Nat → Int64) → (Nat → Int32) → Prop}  {x1 : Int32} {kx_58 : Prop} (F : Fx p m c cX12_readLoop 3 s ([.ref a_t] : List Value).toArray RX12 D k) (hr : meth.sig.returnType = (some .boolean)) (hlk : meth.locks = false) (hA : ∀ q : Nat, s.heap.size ≤ q → A q) (hkx_58 : ∀ (H : Heap) (locs : List Loc) (ls : Array Slot), kx_58 → Bd D A s.heap (wd_LongTrainModel_readLoop k a_t d_t i_t j_t r_t_h r_t_tape) H locs → lv_has ls 3 [(0, .ref a_t), (1, .int x1)] → W p l e { frames := 3, cells := 0, slots := 0, locals := 65 } s m ([.ref a_t] : List Value).toArray below meth c H locs 0 0 (Ei below (fun r w => (r = 0 ∨ r = 1) ∧ (∃ (i_t : Nat → Int32), ∃ (j_t : Nat → Int64), ∃ (r_t_h : Nat → Int32), w = (wd_LongTrainModel_readLoop k a_t d_t i_t j_t r_t_h r_t_tape) ∧ Q r i_t j_t r_t_h)) D k A ([.ref a_t] : List Value).toArray s 0 0) (F0 m 94 ls [])) :
    ∀ n : Nat, ∀ (x2 : Int32) (H : Heap) (locs : List Loc) (ls : Array Slot), lp_LongTrainModel_readLoop_58 i_t j_t r_t_h x1 Q kx_58 n x2 → Bd D A s.heap (wd_LongTrainModel_readLoop k a_t d_t i_t j_t r_t_h r_t_tape) H locs → lv_has ls 3 [(0, .ref a_t), (1, .int x1), (2, .int x2)] → W p l e { frames := 3, cells := 0, slots := 0, locals := 65 } s m ([.ref a_t] : List Value).toArray below meth c H locs 0 0 (Ei below (fun r w => (r = 0 ∨ r = 1) ∧ (∃ (i_t : Nat → Int32), ∃ (j_t : Nat → Int64), ∃ (r_t_h : Nat → Int32), w = (wd_LongTrainModel_readLoop k a_t d_t i_t j_t r_t_h r_t_tape) ∧ Q r i_t j_t r_t_h)) D k A ([.ref a_t] : List Value).toArray s 0 0) (F0 m 58 ls []) := by
  intro n
  induction n with
  | zero => intro x2 H locs ls hf; exact absurd hf (fun h => h)
  | succ n ih => exact bt_LongTrainModel_readLoop_58 F hr hlk hA hkx_58 ih

set_option maxRecDepth 100000 in
set_option maxHeartbeats 4000000 in
theorem c_LongTrainModel_readLoop (l : Launch) (D : va_G) (k : Nat → ClassId) (a_t : Nat) (d_t : Nat → Nat) (i_t : Nat → Int32) (j_t : Nat → Int64) (r_t_h : Nat → Int32) (r_t_tape : Nat → Int32)  (Q : Int32 → (Nat → Int32) → (Nat → Int64) → (Nat → Int32) → Prop)  (hf : w_LongTrainModel_readLoop i_t j_t r_t_h r_t_tape Q) : CtI l yX12_readLoop cX12_readLoop 3 (some .boolean) 3 65 0 0 D k [.ref a_t] (wd_LongTrainModel_readLoop k a_t d_t i_t j_t r_t_h r_t_tape) (fun r w => (r = 0 ∨ r = 1) ∧ (∃ (i_t : Nat → Int32), ∃ (j_t : Nat → Int64), ∃ (r_t_h : Nat → Int32), w = (wd_LongTrainModel_readLoop k a_t d_t i_t j_t r_t_h r_t_tape) ∧ Q r i_t j_t r_t_h)) := by
  refine CtI.of (by decide) (Nat.le_of_ble_eq_true rfl) ?_
  intro p e s m below meth c A F hr hlk hnm hA hB ls hl
  have hx := F.x
  have hb := F.b
  unfold w_LongTrainModel_readLoop at hf
  replace hl : lv_has ls 3 [(0, .ref a_t)] := hl
  refine lv_aload_n hx hb dX12_readLoop_0 rfl (lv_at hl 0 rfl) ?_
  refine g_get (w := .ref (d_t 7)) F hB 0 rfl fl_RX12_37 rfl dX12_readLoop_1 ?_
  refine lv_iconst (v := 2) hx hb dX12_readLoop_4 (by decide) ?_
  refine g_iald F hB 1 rfl (vp_in_iff.mpr (by decide +kernel)) dX12_readLoop_5 ?_
  refine W.eq (g2 := F0 m 6 ls [.int (r_t_h 2)]) rfl ?_
  refine lv_istore_n (lv' := [(1, .int (r_t_h 2)), (0, .ref a_t)]) hx hb dX12_readLoop_6 rfl hl (by decide) rfl (fun ls hl => ?_)
  refine lv_iload_n hx hb dX12_readLoop_7 rfl (lv_at hl 0 rfl) ?_
  refine lv_bipush (v := 8) hx hb dX12_readLoop_8 (by decide) ?_
  refine lv_icmp_ne (tgt := 19) hx hb dX12_readLoop_10 (by decide) (fun c_34 => ?_) (fun c_34 => ?_)
  · replace hf := hf.1 c_34
    refine lv_aload_n hx hb dX12_readLoop_19 rfl (lv_at hl 1 rfl) ?_
    refine k_vv (wr := [((d_t 7), ai k 483 r_t_h)]) (rest := []) F hA hB (c_LongTrainModel_next l D k a_t d_t i_t j_t r_t_tape _  hf) ml_RX12_179 mv_yX12_next [0, 2] [1] rfl rfl (by decide) (by decide) (by decide) 0 rfl rfl rfl hl.1 rfl (Nat.le_of_ble_eq_true rfl) ⟨Nat.le_of_ble_eq_true rfl, Nat.le_of_ble_eq_true rfl⟩ ⟨Nat.le_of_ble_eq_true rfl, Nat.le_of_ble_eq_true rfl⟩ dX12_readLoop_20 (fun w1 H locs hq hB => ?_)
    obtain ⟨i_t_2, j_t_3, rfl, hf⟩ := hq
    replace hB : Bd D A s.heap (wd_LongTrainModel_readLoop k a_t d_t i_t_2 j_t_3 r_t_h r_t_tape) H locs := hB.sub [1, 0, 2] (by decide) rfl
    refine lv_aload_n hx hb dX12_readLoop_23 rfl (lv_at hl 1 rfl) ?_
    refine g_get (w := .int (i_t_2 11)) F hB 0 rfl fl_RX12_150 rfl dX12_readLoop_24 ?_
    refine lv_iconst (v := 2) hx hb dX12_readLoop_27 (by decide) ?_
    refine lv_icmp_eq (tgt := 37) hx hb dX12_readLoop_28 (by decide) (fun c_30 => ?_) (fun c_30 => ?_)
    · replace hf := hf.1 c_30
      refine lv_aload_n hx hb dX12_readLoop_37 rfl (lv_at hl 1 rfl) ?_
      refine g_get (w := .int (i_t_2 14)) F hB 0 rfl fl_RX12_160 rfl dX12_readLoop_38 ?_
      refine lv_aload_n hx hb dX12_readLoop_41 rfl (lv_at hl 1 rfl) ?_
      refine g_get (w := .ref (d_t 7)) F hB 0 rfl fl_RX12_37 rfl dX12_readLoop_42 ?_
      refine lv_iconst (v := 0) hx hb dX12_readLoop_45 (by decide) ?_
      refine g_iald F hB 1 rfl (vp_in_iff.mpr (by decide +kernel)) dX12_readLoop_46 ?_
      refine W.eq (g2 := F0 m 47 ls [.int (r_t_h 0), .int (i_t_2 14)]) rfl ?_
      refine lv_icmp_lt (tgt := 56) hx hb dX12_readLoop_47 (by decide) (fun c_26 => ?_) (fun c_26 => ?_)
      · replace hf := hf.1 c_26
        refine lv_iconst (v := 0) hx hb dX12_readLoop_56 (by decide) ?_
        refine lv_istore_n (lv' := [(2, .int (0 : Int32)), (1, .int (r_t_h 2)), (0, .ref a_t)]) hx hb dX12_readLoop_57 rfl hl (by decide) rfl (fun ls hl => ?_)
        obtain ⟨n_22, hf⟩ := hf
        refine lt_LongTrainModel_readLoop_58 F hr hlk hA (fun  H locs ls hf hB hl => ?_) n_22 _ _ _ _ hf hB (lv_sub hl [2, 1, 0] rfl)
        refine lv_aload_n hx hb dX12_readLoop_94 rfl (lv_at hl 0 rfl) ?_
        refine g_get (w := .ref (d_t 7)) F hB 0 rfl fl_RX12_37 rfl dX12_readLoop_95 ?_
        refine lv_sipush (v := 441) hx hb dX12_readLoop_98 (by decide) ?_
        refine lv_iconst (v := 2) hx hb dX12_readLoop_101 (by decide) ?_
        refine lv_iload_n hx hb dX12_readLoop_102 rfl (lv_at hl 1 rfl) ?_
        refine lv_imul hx hb dX12_readLoop_103 ?_
        refine lv_iadd hx hb dX12_readLoop_104 ?_
        refine lv_aload_n hx hb dX12_readLoop_105 rfl (lv_at hl 0 rfl) ?_
        refine g_get (w := .int (i_t_2 14)) F hB 0 rfl fl_RX12_160 rfl dX12_readLoop_106 ?_
        obtain ⟨h_11, hf⟩ := hf
        refine g_iast F hB 1 rfl h_11 (wd_LongTrainModel_readLoop k a_t d_t i_t_2 j_t_3 (upd r_t_h (((441 : Int32) + ((2 : Int32) * (r_t_h 2)))).toNatClampNeg (i_t_2 14)) r_t_tape) rfl dX12_readLoop_109 (fun H locs hB => ?_)
        refine lv_aload_n hx hb dX12_readLoop_110 rfl (lv_at hl 0 rfl) ?_
        refine k_vv (wr := [((d_t 7), ai k 483 (upd r_t_h (((441 : Int32) + ((2 : Int32) * (r_t_h 2)))).toNatClampNeg (i_t_2 14)))]) (rest := []) F hA hB (c_LongTrainModel_next l D k a_t d_t i_t_2 j_t_3 r_t_tape _  hf) ml_RX12_179 mv_yX12_next [0, 2] [1] rfl rfl (by decide) (by decide) (by decide) 0 rfl rfl rfl hl.1 rfl (Nat.le_of_ble_eq_true rfl) ⟨Nat.le_of_ble_eq_true rfl, Nat.le_of_ble_eq_true rfl⟩ ⟨Nat.le_of_ble_eq_true rfl, Nat.le_of_ble_eq_true rfl⟩ dX12_readLoop_111 (fun w1 H locs hq hB => ?_)
        obtain ⟨i_t_12, j_t_13, rfl, hf⟩ := hq
        replace hB : Bd D A s.heap (wd_LongTrainModel_readLoop k a_t d_t i_t_12 j_t_13 (upd r_t_h (((441 : Int32) + ((2 : Int32) * (r_t_h 2)))).toNatClampNeg (i_t_2 14)) r_t_tape) H locs := hB.sub [1, 0, 2] (by decide) rfl
        refine lv_aload_n hx hb dX12_readLoop_114 rfl (lv_at hl 0 rfl) ?_
        refine lv_iconst (v := 1) hx hb dX12_readLoop_115 (by decide) ?_
        refine lv_bipush (v := 99) hx hb dX12_readLoop_116 (by decide) ?_
        refine k_vi (wr := [((d_t 7), ai k 483 (upd r_t_h (((441 : Int32) + ((2 : Int32) * (r_t_h 2)))).toNatClampNeg (i_t_2 14)))]) (rest := []) F hA hB (c_LongTrainModel_takes l D k a_t d_t i_t_12 j_t_13 r_t_tape (1 : Int32) (99 : Int32) _  hf) ml_RX12_216 mv_yX12_takes [0, 2] [1] rfl rfl (by decide) (by decide) (by decide) 0 rfl rfl rfl hl.1 rfl (Nat.le_of_ble_eq_true rfl) ⟨Nat.le_of_ble_eq_true rfl, Nat.le_of_ble_eq_true rfl⟩ ⟨Nat.le_of_ble_eq_true rfl, Nat.le_of_ble_eq_true rfl⟩ dX12_readLoop_118 (fun z_16 w1 H locs hq hB => ?_)
        obtain ⟨h_17, i_t_14, j_t_15, rfl, hf⟩ := hq
        replace hB : Bd D A s.heap (wd_LongTrainModel_readLoop k a_t d_t i_t_14 j_t_15 (upd r_t_h (((441 : Int32) + ((2 : Int32) * (r_t_h 2)))).toNatClampNeg (i_t_2 14)) r_t_tape) H locs := hB.sub [1, 0, 2] (by decide) rfl
        refine lv_if_ne (tgt := 126) hx hb dX12_readLoop_121 (by decide) (fun c_21 => ?_) (fun c_21 => ?_)
        · replace hf := hf.1 c_21
          refine lv_aload_n hx hb dX12_readLoop_126 rfl (lv_at hl 0 rfl) ?_
          refine g_get (w := .ref (d_t 7)) F hB 0 rfl fl_RX12_37 rfl dX12_readLoop_127 ?_
          refine lv_sipush (v := 441) hx hb dX12_readLoop_130 (by decide) ?_
          refine lv_iconst (v := 2) hx hb dX12_readLoop_133 (by decide) ?_
          refine lv_iload_n hx hb dX12_readLoop_134 rfl (lv_at hl 1 rfl) ?_
          refine lv_imul hx hb dX12_readLoop_135 ?_
          refine lv_iadd hx hb dX12_readLoop_136 ?_
          refine lv_iconst (v := 1) hx hb dX12_readLoop_137 (by decide) ?_
          refine lv_iadd hx hb dX12_readLoop_138 ?_
          refine lv_aload_n hx hb dX12_readLoop_139 rfl (lv_at hl 0 rfl) ?_
          refine g_get (w := .int (i_t_14 18)) F hB 0 rfl fl_RX12_186 rfl dX12_readLoop_140 ?_
          obtain ⟨h_18, hf⟩ := hf
          refine g_iast F hB 1 rfl h_18 (wd_LongTrainModel_readLoop k a_t d_t i_t_14 j_t_15 (upd (upd r_t_h (((441 : Int32) + ((2 : Int32) * (r_t_h 2)))).toNatClampNeg (i_t_2 14)) ((((441 : Int32) + ((2 : Int32) * (r_t_h 2))) + (1 : Int32))).toNatClampNeg (i_t_14 18)) r_t_tape) rfl dX12_readLoop_143 (fun H locs hB => ?_)
          refine lv_aload_n hx hb dX12_readLoop_144 rfl (lv_at hl 0 rfl) ?_
          refine g_get (w := .ref (d_t 7)) F hB 0 rfl fl_RX12_37 rfl dX12_readLoop_145 ?_
          refine lv_iconst (v := 2) hx hb dX12_readLoop_148 (by decide) ?_
          refine lv_dup2_11 hx hb dX12_readLoop_149 rfl rfl ?_
          refine g_iald F hB 1 rfl (vp_in_iff.mpr (by decide +kernel)) dX12_readLoop_150 ?_
          refine W.eq (g2 := F0 m 151 ls [.int ((upd (upd r_t_h (((441 : Int32) + ((2 : Int32) * (r_t_h 2)))).toNatClampNeg (i_t_2 14)) ((((441 : Int32) + ((2 : Int32) * (r_t_h 2))) + (1 : Int32))).toNatClampNeg (i_t_14 18)) 2), .int (2 : Int32), .ref (d_t 7)]) rfl ?_
          refine lv_iconst (v := 1) hx hb dX12_readLoop_151 (by decide) ?_
          refine lv_iadd hx hb dX12_readLoop_152 ?_
          refine g_iast F hB 1 rfl (vp_in_iff.mpr (by decide +kernel)) (wd_LongTrainModel_readLoop k a_t d_t i_t_14 j_t_15 (upd (upd (upd r_t_h (((441 : Int32) + ((2 : Int32) * (r_t_h 2)))).toNatClampNeg (i_t_2 14)) ((((441 : Int32) + ((2 : Int32) * (r_t_h 2))) + (1 : Int32))).toNatClampNeg (i_t_14 18)) 2 (((upd (upd r_t_h (((441 : Int32) + ((2 : Int32) * (r_t_h 2)))).toNatClampNeg (i_t_2 14)) ((((441 : Int32) + ((2 : Int32) * (r_t_h 2))) + (1 : Int32))).toNatClampNeg (i_t_14 18)) 2) + (1 : Int32))) r_t_tape) rfl dX12_readLoop_153 (fun H locs hB => ?_)
          refine lv_iconst (v := 1) hx hb dX12_readLoop_154 (by decide) ?_
          exact r_z F hr hlk hB (Or.inr rfl) ⟨Or.inr rfl, _, _, _, rfl, hf⟩ dX12_readLoop_155
        · replace hf := hf.2 c_21
          refine lv_iconst (v := 0) hx hb dX12_readLoop_124 (by decide) ?_
          exact r_z F hr hlk hB (Or.inl rfl) ⟨Or.inl rfl, _, _, _, rfl, hf⟩ dX12_readLoop_125
      · replace hf := hf.2 c_26
        refine lv_aload_n hx hb dX12_readLoop_50 rfl (lv_at hl 1 rfl) ?_
        refine lv_iconst (v := 2) hx hb dX12_readLoop_51 (by decide) ?_
        refine k_vi (wr := [((d_t 7), ai k 483 r_t_h), ((d_t 1), ab k 940 r_t_tape)]) (rest := []) F hA hB (c_LongTrainModel_bad l D k a_t d_t i_t_2 j_t_3 (2 : Int32) _  hf) ml_RX12_176 mv_yX12_bad [0] [1, 2] rfl rfl (by decide) (by decide) (by decide) 0 rfl rfl rfl hl.1 rfl (Nat.le_of_ble_eq_true rfl) ⟨Nat.le_of_ble_eq_true rfl, Nat.le_of_ble_eq_true rfl⟩ ⟨Nat.le_of_ble_eq_true rfl, Nat.le_of_ble_eq_true rfl⟩ dX12_readLoop_52 (fun z_24 w1 H locs hq hB => ?_)
        obtain ⟨h_25, i_t_23, rfl, hf⟩ := hq
        replace hB : Bd D A s.heap (wd_LongTrainModel_readLoop k a_t d_t i_t_23 j_t_3 r_t_h r_t_tape) H locs := hB.sub [2, 0, 1] (by decide) rfl
        exact r_z F hr hlk hB (h_25) ⟨h_25, _, _, _, rfl, hf⟩ dX12_readLoop_55
    · replace hf := hf.2 c_30
      refine lv_aload_n hx hb dX12_readLoop_31 rfl (lv_at hl 1 rfl) ?_
      refine lv_iconst (v := 1) hx hb dX12_readLoop_32 (by decide) ?_
      refine k_vi (wr := [((d_t 7), ai k 483 r_t_h), ((d_t 1), ab k 940 r_t_tape)]) (rest := []) F hA hB (c_LongTrainModel_bad l D k a_t d_t i_t_2 j_t_3 (1 : Int32) _  hf) ml_RX12_176 mv_yX12_bad [0] [1, 2] rfl rfl (by decide) (by decide) (by decide) 0 rfl rfl rfl hl.1 rfl (Nat.le_of_ble_eq_true rfl) ⟨Nat.le_of_ble_eq_true rfl, Nat.le_of_ble_eq_true rfl⟩ ⟨Nat.le_of_ble_eq_true rfl, Nat.le_of_ble_eq_true rfl⟩ dX12_readLoop_33 (fun z_28 w1 H locs hq hB => ?_)
      obtain ⟨h_29, i_t_27, rfl, hf⟩ := hq
      replace hB : Bd D A s.heap (wd_LongTrainModel_readLoop k a_t d_t i_t_27 j_t_3 r_t_h r_t_tape) H locs := hB.sub [2, 0, 1] (by decide) rfl
      exact r_z F hr hlk hB (h_29) ⟨h_29, _, _, _, rfl, hf⟩ dX12_readLoop_36
  · replace hf := hf.2 c_34
    refine lv_aload_n hx hb dX12_readLoop_13 rfl (lv_at hl 1 rfl) ?_
    refine lv_iconst (v := 4) hx hb dX12_readLoop_14 (by decide) ?_
    refine k_vi (wr := [((d_t 7), ai k 483 r_t_h), ((d_t 1), ab k 940 r_t_tape)]) (rest := []) F hA hB (c_LongTrainModel_bad l D k a_t d_t i_t j_t (4 : Int32) _  hf) ml_RX12_176 mv_yX12_bad [0] [1, 2] rfl rfl (by decide) (by decide) (by decide) 0 rfl rfl rfl hl.1 rfl (Nat.le_of_ble_eq_true rfl) ⟨Nat.le_of_ble_eq_true rfl, Nat.le_of_ble_eq_true rfl⟩ ⟨Nat.le_of_ble_eq_true rfl, Nat.le_of_ble_eq_true rfl⟩ dX12_readLoop_15 (fun z_32 w1 H locs hq hB => ?_)
    obtain ⟨h_33, i_t_31, rfl, hf⟩ := hq
    replace hB : Bd D A s.heap (wd_LongTrainModel_readLoop k a_t d_t i_t_31 j_t r_t_h r_t_tape) H locs := hB.sub [2, 0, 1] (by decide) rfl
    exact r_z F hr hlk hB (h_33) ⟨h_33, _, _, _, rfl, hf⟩ dX12_readLoop_18

/-! LongTrainModel.readSlope -/
set_option maxRecDepth 100000 in
set_option maxHeartbeats 4000000 in
theorem bt_LongTrainModel_readSlope_131 {p : Program} {l : Launch} {e : Env} {s : State} {m : MethodId} {below : List Frame} {meth : Method} {c : Code} {A : Nat → Prop} {D : va_G} {k : Nat → ClassId} {a_t : Nat} {d_t : Nat → Nat} {i_t : Nat → Int32} {j_t : Nat → Int64} {r_t_tape : Nat → Int32}  {Q : Int32 → (Nat → Int32) → (Nat → Int64) → (Nat → Int32) → Prop}  {x2 : Int32} {kx_131 : (Nat → Int32) → Prop} {kr_131 : (Int32) → (Nat → Int32) → Prop} (F : Fx p m c cX12_readSlope 4 s ([.ref a_t] : List Value).toArray RX12 D k) (hr : meth.sig.returnType = (some .boolean)) (hlk : meth.locks = false) (hA : ∀ q : Nat, s.heap.size ≤ q → A q) (hkx_131 : ∀ (r_t_h : Nat → Int32) (H : Heap) (locs : List Loc) (ls : Array Slot), kx_131 r_t_h → Bd D A s.heap (wd_LongTrainModel_readSlope k a_t d_t i_t j_t r_t_tape r_t_h) H locs → lv_has ls 4 [(0, .ref a_t)] → W p l e { frames := 3, cells := 0, slots := 0, locals := 65 } s m ([.ref a_t] : List Value).toArray below meth c H locs 0 0 (Ei below (fun r w => (r = 0 ∨ r = 1) ∧ (∃ (i_t : Nat → Int32), ∃ (j_t : Nat → Int64), ∃ (r_t_h : Nat → Int32), w = (wd_LongTrainModel_readSlope k a_t d_t i_t j_t r_t_tape r_t_h) ∧ Q r i_t j_t r_t_h)) D k A ([.ref a_t] : List Value).toArray s 0 0) (F0 m 162 ls [])) (hkr_131 : ∀ (x3 : Int32) (r_t_h : Nat → Int32) (H : Heap) (locs : List Loc) (ls : Array Slot), kr_131 x3 r_t_h → Bd D A s.heap (wd_LongTrainModel_readSlope k a_t d_t i_t j_t r_t_tape r_t_h) H locs → lv_has ls 4 [(0, .ref a_t), (2, .int x2), (3, .int x3)] → W p l e { frames := 3, cells := 0, slots := 0, locals := 65 } s m ([.ref a_t] : List Value).toArray below meth c H locs 0 0 (Ei below (fun r w => (r = 0 ∨ r = 1) ∧ (∃ (i_t : Nat → Int32), ∃ (j_t : Nat → Int64), ∃ (r_t_h : Nat → Int32), w = (wd_LongTrainModel_readSlope k a_t d_t i_t j_t r_t_tape r_t_h) ∧ Q r i_t j_t r_t_h)) D k A ([.ref a_t] : List Value).toArray s 0 0) (F0 m 131 ls [])) :
    ∀ (x3 : Int32) (r_t_h : Nat → Int32) (H : Heap) (locs : List Loc) (ls : Array Slot), b_LongTrainModel_readSlope_131 i_t x2 kx_131 kr_131 x3 r_t_h → Bd D A s.heap (wd_LongTrainModel_readSlope k a_t d_t i_t j_t r_t_tape r_t_h) H locs → lv_has ls 4 [(0, .ref a_t), (2, .int x2), (3, .int x3)] → W p l e { frames := 3, cells := 0, slots := 0, locals := 65 } s m ([.ref a_t] : List Value).toArray below meth c H locs 0 0 (Ei below (fun r w => (r = 0 ∨ r = 1) ∧ (∃ (i_t : Nat → Int32), ∃ (j_t : Nat → Int64), ∃ (r_t_h : Nat → Int32), w = (wd_LongTrainModel_readSlope k a_t d_t i_t j_t r_t_tape r_t_h) ∧ Q r i_t j_t r_t_h)) D k A ([.ref a_t] : List Value).toArray s 0 0) (F0 m 131 ls []) := by
  have hx := F.x
  have hb := F.b
  intro x3 r_t_h H locs ls hf hB hl
  unfold b_LongTrainModel_readSlope_131 at hf
  refine lv_iload_n hx hb dX12_readSlope_131 rfl (lv_at hl 2 rfl) ?_
  refine lv_aload_n hx hb dX12_readSlope_132 rfl (lv_at hl 0 rfl) ?_
  refine g_get (w := .int (i_t 14)) F hB 0 rfl fl_RX12_160 rfl dX12_readSlope_133 ?_
  refine lv_icmp_ge (tgt := 162) hx hb dX12_readSlope_136 (by decide) (fun c_14 => ?_) (fun c_14 => ?_)
  · replace hf := hf.1 c_14
    exact hkx_131 _ _ _ _ hf hB (lv_sub hl [0] rfl)
  · replace hf := hf.2 c_14
    refine lv_aload_n hx hb dX12_readSlope_139 rfl (lv_at hl 0 rfl) ?_
    refine g_get (w := .ref (d_t 7)) F hB 0 rfl fl_RX12_37 rfl dX12_readSlope_140 ?_
    refine lv_bipush (v := 11) hx hb dX12_readSlope_143 (by decide) ?_
    refine lv_aload_n hx hb dX12_readSlope_145 rfl (lv_at hl 0 rfl) ?_
    refine g_get (w := .ref (d_t 7)) F hB 0 rfl fl_RX12_37 rfl dX12_readSlope_146 ?_
    refine lv_iconst (v := 0) hx hb dX12_readSlope_149 (by decide) ?_
    refine g_iald F hB 2 rfl (vp_in_iff.mpr (by decide +kernel)) dX12_readSlope_150 ?_
    refine W.eq (g2 := F0 m 151 ls [.int (r_t_h 0), .int (11 : Int32), .ref (d_t 7)]) rfl ?_
    refine lv_iadd hx hb dX12_readSlope_151 ?_
    refine lv_iload_n hx hb dX12_readSlope_152 rfl (lv_at hl 2 rfl) ?_
    refine lv_iadd hx hb dX12_readSlope_153 ?_
    refine lv_iload_n hx hb dX12_readSlope_154 rfl (lv_at hl 1 rfl) ?_
    obtain ⟨h_13, hf⟩ := hf
    refine g_iast F hB 2 rfl h_13 (wd_LongTrainModel_readSlope k a_t d_t i_t j_t r_t_tape (upd r_t_h ((((11 : Int32) + (r_t_h 0)) + x3)).toNatClampNeg x2)) rfl dX12_readSlope_155 (fun H locs hB => ?_)
    refine lv_iinc (v := (x3 + 1)) (lv' := [(3, .int (x3 + 1)), (0, .ref a_t), (2, .int x2)]) (k := 2) hx hb dX12_readSlope_156 hl rfl rfl (by decide) rfl (fun ls hl => ?_)
    refine lv_goto (tgt := 131) hx hb dX12_readSlope_159 (by decide) ?_
    exact hkr_131 _ _ _ _ _ hf hB (lv_sub hl [1, 2, 0] rfl)

set_option maxRecDepth 100000 in
set_option maxHeartbeats 4000000 in
theorem lt_LongTrainModel_readSlope_131 {p : Program} {l : Launch} {e : Env} {s : State} {m : MethodId} {below : List Frame} {meth : Method} {c : Code} {A : Nat → Prop} {D : va_G} {k : Nat → ClassId} {a_t : Nat} {d_t : Nat → Nat} {i_t : Nat → Int32} {j_t : Nat → Int64} {r_t_tape : Nat → Int32}  {Q : Int32 → (Nat → Int32) → (Nat → Int64) → (Nat → Int32) → Prop}  {x2 : Int32} {kx_131 : (Nat → Int32) → Prop} (F : Fx p m c cX12_readSlope 4 s ([.ref a_t] : List Value).toArray RX12 D k) (hr : meth.sig.returnType = (some .boolean)) (hlk : meth.locks = false) (hA : ∀ q : Nat, s.heap.size ≤ q → A q) (hkx_131 : ∀ (r_t_h : Nat → Int32) (H : Heap) (locs : List Loc) (ls : Array Slot), kx_131 r_t_h → Bd D A s.heap (wd_LongTrainModel_readSlope k a_t d_t i_t j_t r_t_tape r_t_h) H locs → lv_has ls 4 [(0, .ref a_t)] → W p l e { frames := 3, cells := 0, slots := 0, locals := 65 } s m ([.ref a_t] : List Value).toArray below meth c H locs 0 0 (Ei below (fun r w => (r = 0 ∨ r = 1) ∧ (∃ (i_t : Nat → Int32), ∃ (j_t : Nat → Int64), ∃ (r_t_h : Nat → Int32), w = (wd_LongTrainModel_readSlope k a_t d_t i_t j_t r_t_tape r_t_h) ∧ Q r i_t j_t r_t_h)) D k A ([.ref a_t] : List Value).toArray s 0 0) (F0 m 162 ls [])) :
    ∀ n : Nat, ∀ (x3 : Int32) (r_t_h : Nat → Int32) (H : Heap) (locs : List Loc) (ls : Array Slot), lp_LongTrainModel_readSlope_131 i_t x2 kx_131 n x3 r_t_h → Bd D A s.heap (wd_LongTrainModel_readSlope k a_t d_t i_t j_t r_t_tape r_t_h) H locs → lv_has ls 4 [(0, .ref a_t), (2, .int x2), (3, .int x3)] → W p l e { frames := 3, cells := 0, slots := 0, locals := 65 } s m ([.ref a_t] : List Value).toArray below meth c H locs 0 0 (Ei below (fun r w => (r = 0 ∨ r = 1) ∧ (∃ (i_t : Nat → Int32), ∃ (j_t : Nat → Int64), ∃ (r_t_h : Nat → Int32), w = (wd_LongTrainModel_readSlope k a_t d_t i_t j_t r_t_tape r_t_h) ∧ Q r i_t j_t r_t_h)) D k A ([.ref a_t] : List Value).toArray s 0 0) (F0 m 131 ls []) := by
  intro n
  induction n with
  | zero => intro x3 r_t_h H locs ls hf; exact absurd hf (fun h => h)
  | succ n ih => exact bt_LongTrainModel_readSlope_131 F hr hlk hA hkx_131 ih

set_option maxRecDepth 100000 in
set_option maxHeartbeats 4000000 in
theorem jt_LongTrainModel_readSlope_72 {p : Program} {l : Launch} {e : Env} {s : State} {m : MethodId} {below : List Frame} {meth : Method} {c : Code} {A : Nat → Prop} {D : va_G} {k : Nat → ClassId} {a_t : Nat} {d_t : Nat → Nat} {r_t_tape : Nat → Int32}  {Q : Int32 → (Nat → Int32) → (Nat → Int64) → (Nat → Int32) → Prop}  (F : Fx p m c cX12_readSlope 4 s ([.ref a_t] : List Value).toArray RX12 D k) (hr : meth.sig.returnType = (some .boolean)) (hlk : meth.locks = false) (hA : ∀ q : Nat, s.heap.size ≤ q → A q) :
    ∀ (i_t : Nat → Int32) (j_t : Nat → Int64) (r_t_h : Nat → Int32) (y0 : Int32) (H : Heap) (locs : List Loc) (ls : Array Slot), j_LongTrainModel_readSlope_72 i_t j_t r_t_tape r_t_h y0 Q → Bd D A s.heap (wd_LongTrainModel_readSlope k a_t d_t i_t j_t r_t_tape r_t_h) H locs → lv_has ls 4 [(0, .ref a_t)] → W p l e { frames := 3, cells := 0, slots := 0, locals := 65 } s m ([.ref a_t] : List Value).toArray below meth c H locs 0 0 (Ei below (fun r w => (r = 0 ∨ r = 1) ∧ (∃ (i_t : Nat → Int32), ∃ (j_t : Nat → Int64), ∃ (r_t_h : Nat → Int32), w = (wd_LongTrainModel_readSlope k a_t d_t i_t j_t r_t_tape r_t_h) ∧ Q r i_t j_t r_t_h)) D k A ([.ref a_t] : List Value).toArray s 0 0) (F0 m 72 ls [.int y0]) := by
  have hx := F.x
  have hb := F.b
  intro i_t j_t r_t_h y0 H locs ls hf hB hl
  unfold j_LongTrainModel_readSlope_72 at hf
  refine lv_istore_n (lv' := [(2, .int y0), (0, .ref a_t)]) hx hb dX12_readSlope_72 rfl hl (by decide) rfl (fun ls hl => ?_)
  refine lv_aload_n hx hb dX12_readSlope_73 rfl (lv_at hl 1 rfl) ?_
  refine g_get (w := .int (i_t 11)) F hB 0 rfl fl_RX12_150 rfl dX12_readSlope_74 ?_
  refine lv_iconst (v := 2) hx hb dX12_readSlope_77 (by decide) ?_
  refine lv_icmp_eq (tgt := 87) hx hb dX12_readSlope_78 (by decide) (fun c_32 => ?_) (fun c_32 => ?_)
  · replace hf := hf.1 c_32
    refine lv_aload_n hx hb dX12_readSlope_87 rfl (lv_at hl 1 rfl) ?_
    refine g_get (w := .int (i_t 14)) F hB 0 rfl fl_RX12_160 rfl dX12_readSlope_88 ?_
    refine lv_iconst (v := 1) hx hb dX12_readSlope_91 (by decide) ?_
    refine lv_bipush (v := 99) hx hb dX12_readSlope_92 (by decide) ?_
    refine k_si (wr := [(a_t, ob 12 (rfd d_t) i_t j_t), ((d_t 1), ab k 940 r_t_tape), ((d_t 7), ai k 483 r_t_h)]) (rest := []) F hA hB (c_LongTrainModel_isIn l D k (i_t 14) (1 : Int32) (99 : Int32) _  hf) ml_RX12_182 ms_yX12_isIn [] [0, 1, 2] rfl rfl (by decide) (by decide) (by decide) rfl hl.1 rfl (Nat.le_of_ble_eq_true rfl) ⟨Nat.le_of_ble_eq_true rfl, Nat.le_of_ble_eq_true rfl⟩ ⟨Nat.le_of_ble_eq_true rfl, Nat.le_of_ble_eq_true rfl⟩ dX12_readSlope_94 (fun z_9 w1 H locs hq hB => ?_)
    obtain ⟨h_10, rfl, hf⟩ := hq
    replace hB : Bd D A s.heap (wd_LongTrainModel_readSlope k a_t d_t i_t j_t r_t_tape r_t_h) H locs := hB.sub [0, 1, 2] (by decide) rfl
    refine lv_if_ne (tgt := 106) hx hb dX12_readSlope_97 (by decide) (fun c_28 => ?_) (fun c_28 => ?_)
    · replace hf := hf.1 c_28
      refine lv_aload_n hx hb dX12_readSlope_106 rfl (lv_at hl 1 rfl) ?_
      refine g_get (w := .ref (d_t 7)) F hB 0 rfl fl_RX12_37 rfl dX12_readSlope_107 ?_
      refine lv_iconst (v := 0) hx hb dX12_readSlope_110 (by decide) ?_
      refine g_iald F hB 2 rfl (vp_in_iff.mpr (by decide +kernel)) dX12_readSlope_111 ?_
      refine W.eq (g2 := F0 m 112 ls [.int (r_t_h 0)]) rfl ?_
      refine lv_aload_n hx hb dX12_readSlope_112 rfl (lv_at hl 1 rfl) ?_
      refine g_get (w := .int (i_t 14)) F hB 0 rfl fl_RX12_160 rfl dX12_readSlope_113 ?_
      refine lv_iadd hx hb dX12_readSlope_116 ?_
      refine lv_sipush (v := 400) hx hb dX12_readSlope_117 (by decide) ?_
      refine lv_icmp_le (tgt := 129) hx hb dX12_readSlope_120 (by decide) (fun c_24 => ?_) (fun c_24 => ?_)
      · replace hf := hf.1 c_24
        refine lv_iconst (v := 0) hx hb dX12_readSlope_129 (by decide) ?_
        refine lv_istore_n (lv' := [(3, .int (0 : Int32)), (2, .int y0), (0, .ref a_t)]) hx hb dX12_readSlope_130 rfl hl (by decide) rfl (fun ls hl => ?_)
        obtain ⟨n_20, hf⟩ := hf
        refine lt_LongTrainModel_readSlope_131 F hr hlk hA (fun r_t_h_15 H locs ls hf hB hl => ?_) n_20 _ _ _ _ _ hf hB (lv_sub hl [2, 1, 0] rfl)
        refine lv_aload_n hx hb dX12_readSlope_162 rfl (lv_at hl 0 rfl) ?_
        refine g_get (w := .ref (d_t 7)) F hB 0 rfl fl_RX12_37 rfl dX12_readSlope_163 ?_
        refine lv_iconst (v := 0) hx hb dX12_readSlope_166 (by decide) ?_
        refine lv_dup2_11 hx hb dX12_readSlope_167 rfl rfl ?_
        refine g_iald F hB 2 rfl (vp_in_iff.mpr (by decide +kernel)) dX12_readSlope_168 ?_
        refine W.eq (g2 := F0 m 169 ls [.int (r_t_h_15 0), .int (0 : Int32), .ref (d_t 7)]) rfl ?_
        refine lv_aload_n hx hb dX12_readSlope_169 rfl (lv_at hl 0 rfl) ?_
        refine g_get (w := .int (i_t 14)) F hB 0 rfl fl_RX12_160 rfl dX12_readSlope_170 ?_
        refine lv_iadd hx hb dX12_readSlope_173 ?_
        refine g_iast F hB 2 rfl (vp_in_iff.mpr (by decide +kernel)) (wd_LongTrainModel_readSlope k a_t d_t i_t j_t r_t_tape (upd r_t_h_15 0 ((r_t_h_15 0) + (i_t 14)))) rfl dX12_readSlope_174 (fun H locs hB => ?_)
        refine lv_aload_n hx hb dX12_readSlope_175 rfl (lv_at hl 0 rfl) ?_
        refine k_vv (wr := [((d_t 7), ai k 483 (upd r_t_h_15 0 ((r_t_h_15 0) + (i_t 14))))]) (rest := []) F hA hB (c_LongTrainModel_next l D k a_t d_t i_t j_t r_t_tape _  hf) ml_RX12_179 mv_yX12_next [0, 1] [2] rfl rfl (by decide) (by decide) (by decide) 0 rfl rfl rfl hl.1 rfl (Nat.le_of_ble_eq_true rfl) ⟨Nat.le_of_ble_eq_true rfl, Nat.le_of_ble_eq_true rfl⟩ ⟨Nat.le_of_ble_eq_true rfl, Nat.le_of_ble_eq_true rfl⟩ dX12_readSlope_176 (fun w1 H locs hq hB => ?_)
        obtain ⟨i_t_18, j_t_19, rfl, hf⟩ := hq
        replace hB : Bd D A s.heap (wd_LongTrainModel_readSlope k a_t d_t i_t_18 j_t_19 r_t_tape (upd r_t_h_15 0 ((r_t_h_15 0) + (i_t 14)))) H locs := hB.sub [1, 2, 0] (by decide) rfl
        refine lv_iconst (v := 1) hx hb dX12_readSlope_179 (by decide) ?_
        exact r_z F hr hlk hB (Or.inr rfl) ⟨Or.inr rfl, _, _, _, rfl, hf⟩ dX12_readSlope_180
      · replace hf := hf.2 c_24
        refine lv_aload_n hx hb dX12_readSlope_123 rfl (lv_at hl 1 rfl) ?_
        refine lv_iconst (v := 4) hx hb dX12_readSlope_124 (by decide) ?_
        refine k_vi (wr := [((d_t 1), ab k 940 r_t_tape), ((d_t 7), ai k 483 r_t_h)]) (rest := []) F hA hB (c_LongTrainModel_bad l D k a_t d_t i_t j_t (4 : Int32) _  hf) ml_RX12_176 mv_yX12_bad [0] [1, 2] rfl rfl (by decide) (by decide) (by decide) 0 rfl rfl rfl hl.1 rfl (Nat.le_of_ble_eq_true rfl) ⟨Nat.le_of_ble_eq_true rfl, Nat.le_of_ble_eq_true rfl⟩ ⟨Nat.le_of_ble_eq_true rfl, Nat.le_of_ble_eq_true rfl⟩ dX12_readSlope_125 (fun z_22 w1 H locs hq hB => ?_)
        obtain ⟨h_23, i_t_21, rfl, hf⟩ := hq
        replace hB : Bd D A s.heap (wd_LongTrainModel_readSlope k a_t d_t i_t_21 j_t r_t_tape r_t_h) H locs := hB.sub [2, 0, 1] (by decide) rfl
        exact r_z F hr hlk hB (h_23) ⟨h_23, _, _, _, rfl, hf⟩ dX12_readSlope_128
    · replace hf := hf.2 c_28
      refine lv_aload_n hx hb dX12_readSlope_100 rfl (lv_at hl 1 rfl) ?_
      refine lv_iconst (v := 2) hx hb dX12_readSlope_101 (by decide) ?_
      refine k_vi (wr := [((d_t 1), ab k 940 r_t_tape), ((d_t 7), ai k 483 r_t_h)]) (rest := []) F hA hB (c_LongTrainModel_bad l D k a_t d_t i_t j_t (2 : Int32) _  hf) ml_RX12_176 mv_yX12_bad [0] [1, 2] rfl rfl (by decide) (by decide) (by decide) 0 rfl rfl rfl hl.1 rfl (Nat.le_of_ble_eq_true rfl) ⟨Nat.le_of_ble_eq_true rfl, Nat.le_of_ble_eq_true rfl⟩ ⟨Nat.le_of_ble_eq_true rfl, Nat.le_of_ble_eq_true rfl⟩ dX12_readSlope_102 (fun z_26 w1 H locs hq hB => ?_)
      obtain ⟨h_27, i_t_25, rfl, hf⟩ := hq
      replace hB : Bd D A s.heap (wd_LongTrainModel_readSlope k a_t d_t i_t_25 j_t r_t_tape r_t_h) H locs := hB.sub [2, 0, 1] (by decide) rfl
      exact r_z F hr hlk hB (h_27) ⟨h_27, _, _, _, rfl, hf⟩ dX12_readSlope_105
  · replace hf := hf.2 c_32
    refine lv_aload_n hx hb dX12_readSlope_81 rfl (lv_at hl 1 rfl) ?_
    refine lv_iconst (v := 1) hx hb dX12_readSlope_82 (by decide) ?_
    refine k_vi (wr := [((d_t 1), ab k 940 r_t_tape), ((d_t 7), ai k 483 r_t_h)]) (rest := []) F hA hB (c_LongTrainModel_bad l D k a_t d_t i_t j_t (1 : Int32) _  hf) ml_RX12_176 mv_yX12_bad [0] [1, 2] rfl rfl (by decide) (by decide) (by decide) 0 rfl rfl rfl hl.1 rfl (Nat.le_of_ble_eq_true rfl) ⟨Nat.le_of_ble_eq_true rfl, Nat.le_of_ble_eq_true rfl⟩ ⟨Nat.le_of_ble_eq_true rfl, Nat.le_of_ble_eq_true rfl⟩ dX12_readSlope_83 (fun z_30 w1 H locs hq hB => ?_)
    obtain ⟨h_31, i_t_29, rfl, hf⟩ := hq
    replace hB : Bd D A s.heap (wd_LongTrainModel_readSlope k a_t d_t i_t_29 j_t r_t_tape r_t_h) H locs := hB.sub [2, 0, 1] (by decide) rfl
    exact r_z F hr hlk hB (h_31) ⟨h_31, _, _, _, rfl, hf⟩ dX12_readSlope_86

set_option maxRecDepth 100000 in
set_option maxHeartbeats 4000000 in
theorem jt_LongTrainModel_readSlope_44 {p : Program} {l : Launch} {e : Env} {s : State} {m : MethodId} {below : List Frame} {meth : Method} {c : Code} {A : Nat → Prop} {D : va_G} {k : Nat → ClassId} {a_t : Nat} {d_t : Nat → Nat} {r_t_tape : Nat → Int32}  {Q : Int32 → (Nat → Int32) → (Nat → Int64) → (Nat → Int32) → Prop}  (F : Fx p m c cX12_readSlope 4 s ([.ref a_t] : List Value).toArray RX12 D k) (hr : meth.sig.returnType = (some .boolean)) (hlk : meth.locks = false) (hA : ∀ q : Nat, s.heap.size ≤ q → A q) :
    ∀ (i_t : Nat → Int32) (j_t : Nat → Int64) (r_t_h : Nat → Int32) (x1 : Int32) (H : Heap) (locs : List Loc) (ls : Array Slot), j_LongTrainModel_readSlope_44 i_t j_t r_t_tape r_t_h x1 Q → Bd D A s.heap (wd_LongTrainModel_readSlope k a_t d_t i_t j_t r_t_tape r_t_h) H locs → lv_has ls 4 [(0, .ref a_t), (1, .int x1)] → W p l e { frames := 3, cells := 0, slots := 0, locals := 65 } s m ([.ref a_t] : List Value).toArray below meth c H locs 0 0 (Ei below (fun r w => (r = 0 ∨ r = 1) ∧ (∃ (i_t : Nat → Int32), ∃ (j_t : Nat → Int64), ∃ (r_t_h : Nat → Int32), w = (wd_LongTrainModel_readSlope k a_t d_t i_t j_t r_t_tape r_t_h) ∧ Q r i_t j_t r_t_h)) D k A ([.ref a_t] : List Value).toArray s 0 0) (F0 m 44 ls []) := by
  have hx := F.x
  have hb := F.b
  intro i_t j_t r_t_h x1 H locs ls hf hB hl
  unfold j_LongTrainModel_readSlope_44 at hf
  refine lv_aload_n hx hb dX12_readSlope_44 rfl (lv_at hl 0 rfl) ?_
  refine lv_iconst (v := 0) hx hb dX12_readSlope_45 (by decide) ?_
  refine lv_bipush (v := 9) hx hb dX12_readSlope_46 (by decide) ?_
  refine k_vi (wr := [((d_t 7), ai k 483 r_t_h)]) (rest := []) F hA hB (c_LongTrainModel_takes l D k a_t d_t i_t j_t r_t_tape (0 : Int32) (9 : Int32) _  hf) ml_RX12_216 mv_yX12_takes [0, 1] [2] rfl rfl (by decide) (by decide) (by decide) 0 rfl rfl rfl hl.1 rfl (Nat.le_of_ble_eq_true rfl) ⟨Nat.le_of_ble_eq_true rfl, Nat.le_of_ble_eq_true rfl⟩ ⟨Nat.le_of_ble_eq_true rfl, Nat.le_of_ble_eq_true rfl⟩ dX12_readSlope_48 (fun z_7 w1 H locs hq hB => ?_)
  obtain ⟨h_8, i_t_5, j_t_6, rfl, hf⟩ := hq
  replace hB : Bd D A s.heap (wd_LongTrainModel_readSlope k a_t d_t i_t_5 j_t_6 r_t_tape r_t_h) H locs := hB.sub [1, 2, 0] (by decide) rfl
  refine lv_if_ne (tgt := 56) hx hb dX12_readSlope_51 (by decide) (fun c_34 => ?_) (fun c_34 => ?_)
  · replace hf := hf.1 c_34
    refine lv_iload_n hx hb dX12_readSlope_56 rfl (lv_at hl 1 rfl) ?_
    refine lv_if_eq (tgt := 68) hx hb dX12_readSlope_57 (by decide) (fun c_33 => ?_) (fun c_33 => ?_)
    · replace hf := hf.1 c_33
      refine lv_aload_n hx hb dX12_readSlope_68 rfl (lv_at hl 0 rfl) ?_
      refine g_get (w := .int (i_t_5 18)) F hB 0 rfl fl_RX12_186 rfl dX12_readSlope_69 ?_
      exact jt_LongTrainModel_readSlope_72 F hr hlk hA _ _ _ _ _ _ _ hf hB (lv_sub hl [0] rfl)
    · replace hf := hf.2 c_33
      refine lv_aload_n hx hb dX12_readSlope_60 rfl (lv_at hl 0 rfl) ?_
      refine g_get (w := .int (i_t_5 18)) F hB 0 rfl fl_RX12_186 rfl dX12_readSlope_61 ?_
      refine lv_ineg hx hb dX12_readSlope_64 ?_
      refine lv_goto (tgt := 72) hx hb dX12_readSlope_65 (by decide) ?_
      exact jt_LongTrainModel_readSlope_72 F hr hlk hA _ _ _ _ _ _ _ hf hB (lv_sub hl [0] rfl)
  · replace hf := hf.2 c_34
    refine lv_iconst (v := 0) hx hb dX12_readSlope_54 (by decide) ?_
    exact r_z F hr hlk hB (Or.inl rfl) ⟨Or.inl rfl, _, _, _, rfl, hf⟩ dX12_readSlope_55

set_option maxRecDepth 100000 in
set_option maxHeartbeats 4000000 in
theorem c_LongTrainModel_readSlope (l : Launch) (D : va_G) (k : Nat → ClassId) (a_t : Nat) (d_t : Nat → Nat) (i_t : Nat → Int32) (j_t : Nat → Int64) (r_t_tape : Nat → Int32) (r_t_h : Nat → Int32)  (Q : Int32 → (Nat → Int32) → (Nat → Int64) → (Nat → Int32) → Prop)  (hf : w_LongTrainModel_readSlope i_t j_t r_t_tape r_t_h Q) : CtI l yX12_readSlope cX12_readSlope 4 (some .boolean) 3 65 0 0 D k [.ref a_t] (wd_LongTrainModel_readSlope k a_t d_t i_t j_t r_t_tape r_t_h) (fun r w => (r = 0 ∨ r = 1) ∧ (∃ (i_t : Nat → Int32), ∃ (j_t : Nat → Int64), ∃ (r_t_h : Nat → Int32), w = (wd_LongTrainModel_readSlope k a_t d_t i_t j_t r_t_tape r_t_h) ∧ Q r i_t j_t r_t_h)) := by
  refine CtI.of (by decide) (Nat.le_of_ble_eq_true rfl) ?_
  intro p e s m below meth c A F hr hlk hnm hA hB ls hl
  have hx := F.x
  have hb := F.b
  unfold w_LongTrainModel_readSlope at hf
  replace hl : lv_has ls 4 [(0, .ref a_t)] := hl
  refine lv_aload_n hx hb dX12_readSlope_0 rfl (lv_at hl 0 rfl) ?_
  refine g_get (w := .int (i_t 20)) F hB 0 rfl fl_RX12_232 rfl dX12_readSlope_1 ?_
  refine lv_bipush (v := 20) hx hb dX12_readSlope_4 (by decide) ?_
  refine lv_icmp_ne (tgt := 15) hx hb dX12_readSlope_6 (by decide) (fun c_41 => ?_) (fun c_41 => ?_)
  · replace hf := hf.1 c_41
    refine lv_aload_n hx hb dX12_readSlope_15 rfl (lv_at hl 0 rfl) ?_
    refine lv_dup hx hb dX12_readSlope_16 rfl ?_
    refine g_get (w := .int (i_t 20)) F hB 0 rfl fl_RX12_232 rfl dX12_readSlope_17 ?_
    refine lv_iconst (v := 1) hx hb dX12_readSlope_20 (by decide) ?_
    refine lv_iadd hx hb dX12_readSlope_21 ?_
    refine g_puti F hB 0 rfl fl_RX12_232 rfl (wd_LongTrainModel_readSlope k a_t d_t (upd i_t 20 ((i_t 20) + (1 : Int32))) j_t r_t_tape r_t_h) rfl dX12_readSlope_22 (fun H locs hB => ?_)
    refine lv_aload_n hx hb dX12_readSlope_25 rfl (lv_at hl 0 rfl) ?_
    refine k_vv (wr := [((d_t 7), ai k 483 r_t_h)]) (rest := []) F hA hB (c_LongTrainModel_next l D k a_t d_t (upd i_t 20 ((i_t 20) + (1 : Int32))) j_t r_t_tape _  hf) ml_RX12_179 mv_yX12_next [0, 1] [2] rfl rfl (by decide) (by decide) (by decide) 0 rfl rfl rfl hl.1 rfl (Nat.le_of_ble_eq_true rfl) ⟨Nat.le_of_ble_eq_true rfl, Nat.le_of_ble_eq_true rfl⟩ ⟨Nat.le_of_ble_eq_true rfl, Nat.le_of_ble_eq_true rfl⟩ dX12_readSlope_26 (fun w1 H locs hq hB => ?_)
    obtain ⟨i_t_1, j_t_2, rfl, hf⟩ := hq
    replace hB : Bd D A s.heap (wd_LongTrainModel_readSlope k a_t d_t i_t_1 j_t_2 r_t_tape r_t_h) H locs := hB.sub [1, 2, 0] (by decide) rfl
    refine lv_aload_n hx hb dX12_readSlope_29 rfl (lv_at hl 0 rfl) ?_
    refine lv_bipush (v := 45) hx hb dX12_readSlope_30 (by decide) ?_
    refine k_vi (wr := [((d_t 1), ab k 940 r_t_tape), ((d_t 7), ai k 483 r_t_h)]) (rest := []) F hA hB (c_LongTrainModel_isSign l D k a_t d_t i_t_1 j_t_2 (45 : Int32) _  hf) ml_RX12_173 mv_yX12_isSign [0] [1, 2] rfl rfl (by decide) (by decide) (by decide) 0 rfl rfl rfl hl.1 rfl (Nat.le_of_ble_eq_true rfl) ⟨Nat.le_of_ble_eq_true rfl, Nat.le_of_ble_eq_true rfl⟩ ⟨Nat.le_of_ble_eq_true rfl, Nat.le_of_ble_eq_true rfl⟩ dX12_readSlope_32 (fun z_3 w1 H locs hq hB => ?_)
    obtain ⟨h_4, rfl, hf⟩ := hq
    replace hB : Bd D A s.heap (wd_LongTrainModel_readSlope k a_t d_t i_t_1 j_t_2 r_t_tape r_t_h) H locs := hB.sub [2, 0, 1] (by decide) rfl
    refine lv_istore_n (lv' := [(1, .int z_3), (0, .ref a_t)]) hx hb dX12_readSlope_35 rfl hl (by decide) rfl (fun ls hl => ?_)
    refine lv_iload_n hx hb dX12_readSlope_36 rfl (lv_at hl 0 rfl) ?_
    refine lv_if_eq (tgt := 44) hx hb dX12_readSlope_37 (by decide) (fun c_37 => ?_) (fun c_37 => ?_)
    · replace hf := hf.1 c_37
      exact jt_LongTrainModel_readSlope_44 F hr hlk hA _ _ _ _ _ _ _ hf hB (lv_sub hl [1, 0] rfl)
    · replace hf := hf.2 c_37
      refine lv_aload_n hx hb dX12_readSlope_40 rfl (lv_at hl 1 rfl) ?_
      refine k_vv (wr := [((d_t 7), ai k 483 r_t_h)]) (rest := []) F hA hB (c_LongTrainModel_next l D k a_t d_t i_t_1 j_t_2 r_t_tape _  hf) ml_RX12_179 mv_yX12_next [0, 1] [2] rfl rfl (by decide) (by decide) (by decide) 0 rfl rfl rfl hl.1 rfl (Nat.le_of_ble_eq_true rfl) ⟨Nat.le_of_ble_eq_true rfl, Nat.le_of_ble_eq_true rfl⟩ ⟨Nat.le_of_ble_eq_true rfl, Nat.le_of_ble_eq_true rfl⟩ dX12_readSlope_41 (fun w1 H locs hq hB => ?_)
      obtain ⟨i_t_35, j_t_36, rfl, hf⟩ := hq
      replace hB : Bd D A s.heap (wd_LongTrainModel_readSlope k a_t d_t i_t_35 j_t_36 r_t_tape r_t_h) H locs := hB.sub [1, 2, 0] (by decide) rfl
      exact jt_LongTrainModel_readSlope_44 F hr hlk hA _ _ _ _ _ _ _ hf hB (lv_sub hl [1, 0] rfl)
  · replace hf := hf.2 c_41
    refine lv_aload_n hx hb dX12_readSlope_9 rfl (lv_at hl 0 rfl) ?_
    refine lv_iconst (v := 4) hx hb dX12_readSlope_10 (by decide) ?_
    refine k_vi (wr := [((d_t 1), ab k 940 r_t_tape), ((d_t 7), ai k 483 r_t_h)]) (rest := []) F hA hB (c_LongTrainModel_bad l D k a_t d_t i_t j_t (4 : Int32) _  hf) ml_RX12_176 mv_yX12_bad [0] [1, 2] rfl rfl (by decide) (by decide) (by decide) 0 rfl rfl rfl hl.1 rfl (Nat.le_of_ble_eq_true rfl) ⟨Nat.le_of_ble_eq_true rfl, Nat.le_of_ble_eq_true rfl⟩ ⟨Nat.le_of_ble_eq_true rfl, Nat.le_of_ble_eq_true rfl⟩ dX12_readSlope_11 (fun z_39 w1 H locs hq hB => ?_)
    obtain ⟨h_40, i_t_38, rfl, hf⟩ := hq
    replace hB : Bd D A s.heap (wd_LongTrainModel_readSlope k a_t d_t i_t_38 j_t r_t_tape r_t_h) H locs := hB.sub [2, 0, 1] (by decide) rfl
    exact r_z F hr hlk hB (h_40) ⟨h_40, _, _, _, rfl, hf⟩ dX12_readSlope_14

